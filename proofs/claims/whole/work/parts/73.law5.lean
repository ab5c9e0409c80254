/-! laid by program: cases of the law -/
theorem dL_law_915 : decode cL_law 915 = .ok (.aload_n 1, 1) := by decide +kernel
theorem dL_law_916 : decode cL_law 916 = .ok (.aload_n 0, 1) := by decide +kernel
theorem dL_law_917 : decode cL_law 917 = .ok (.iload_n 3, 1) := by decide +kernel
theorem dL_law_918 : decode cL_law 918 = .ok (.iconst 1, 1) := by decide +kernel
theorem dL_law_919 : decode cL_law 919 = .ok (.iadd, 1) := by decide +kernel
theorem dL_law_920 : decode cL_law 920 = .ok (.iaload, 1) := by decide +kernel
theorem dL_law_921 : decode cL_law 921 = .ok (.invokevirtual 124, 3) := by decide +kernel
theorem dL_law_924 : decode cL_law 924 = .ok (.aload_n 2, 1) := by decide +kernel
theorem dL_law_925 : decode cL_law 925 = .ok (.aload_n 0, 1) := by decide +kernel
theorem dL_law_926 : decode cL_law 926 = .ok (.iload_n 3, 1) := by decide +kernel
theorem dL_law_927 : decode cL_law 927 = .ok (.iconst 1, 1) := by decide +kernel
theorem dL_law_928 : decode cL_law 928 = .ok (.iadd, 1) := by decide +kernel
theorem dL_law_929 : decode cL_law 929 = .ok (.iaload, 1) := by decide +kernel
theorem dL_law_930 : decode cL_law 930 = .ok (.invokevirtual 127, 3) := by decide +kernel
theorem dL_law_933 : decode cL_law 933 = .ok (.if_icmp .eq 232, 3) := by decide +kernel
theorem dL_law_936 : decode cL_law 936 = .ok (.iconst 0, 1) := by decide +kernel
theorem dL_law_937 : decode cL_law 937 = .ok (.ireturn, 1) := by decide +kernel
theorem dL_law_938 : decode cL_law 938 = .ok (.aload_n 1, 1) := by decide +kernel
theorem dL_law_939 : decode cL_law 939 = .ok (.aload_n 0, 1) := by decide +kernel
theorem dL_law_940 : decode cL_law 940 = .ok (.iload_n 3, 1) := by decide +kernel
theorem dL_law_941 : decode cL_law 941 = .ok (.iconst 1, 1) := by decide +kernel
theorem dL_law_942 : decode cL_law 942 = .ok (.iadd, 1) := by decide +kernel
theorem dL_law_943 : decode cL_law 943 = .ok (.iaload, 1) := by decide +kernel
theorem dL_law_944 : decode cL_law 944 = .ok (.invokevirtual 128, 3) := by decide +kernel
theorem dL_law_947 : decode cL_law 947 = .ok (.aload_n 2, 1) := by decide +kernel
theorem dL_law_948 : decode cL_law 948 = .ok (.aload_n 0, 1) := by decide +kernel
theorem dL_law_949 : decode cL_law 949 = .ok (.iload_n 3, 1) := by decide +kernel
theorem dL_law_950 : decode cL_law 950 = .ok (.iconst 1, 1) := by decide +kernel
theorem dL_law_951 : decode cL_law 951 = .ok (.iadd, 1) := by decide +kernel
theorem dL_law_952 : decode cL_law 952 = .ok (.iaload, 1) := by decide +kernel
theorem dL_law_953 : decode cL_law 953 = .ok (.invokevirtual 131, 3) := by decide +kernel
theorem dL_law_956 : decode cL_law 956 = .ok (.if_icmp .eq 209, 3) := by decide +kernel
theorem dL_law_959 : decode cL_law 959 = .ok (.iconst 0, 1) := by decide +kernel
theorem dL_law_960 : decode cL_law 960 = .ok (.ireturn, 1) := by decide +kernel
theorem dL_law_961 : decode cL_law 961 = .ok (.aload_n 1, 1) := by decide +kernel
theorem dL_law_962 : decode cL_law 962 = .ok (.aload_n 0, 1) := by decide +kernel
theorem dL_law_963 : decode cL_law 963 = .ok (.iload_n 3, 1) := by decide +kernel
theorem dL_law_964 : decode cL_law 964 = .ok (.iconst 1, 1) := by decide +kernel
theorem dL_law_965 : decode cL_law 965 = .ok (.iadd, 1) := by decide +kernel
theorem dL_law_966 : decode cL_law 966 = .ok (.iaload, 1) := by decide +kernel
theorem dL_law_967 : decode cL_law 967 = .ok (.aload_n 0, 1) := by decide +kernel
theorem dL_law_968 : decode cL_law 968 = .ok (.iload_n 3, 1) := by decide +kernel
theorem dL_law_969 : decode cL_law 969 = .ok (.iconst 2, 1) := by decide +kernel
theorem dL_law_970 : decode cL_law 970 = .ok (.iadd, 1) := by decide +kernel
theorem dL_law_971 : decode cL_law 971 = .ok (.iaload, 1) := by decide +kernel
theorem dL_law_972 : decode cL_law 972 = .ok (.invokevirtual 132, 3) := by decide +kernel
theorem dL_law_975 : decode cL_law 975 = .ok (.aload_n 2, 1) := by decide +kernel
theorem dL_law_976 : decode cL_law 976 = .ok (.aload_n 0, 1) := by decide +kernel
theorem dL_law_977 : decode cL_law 977 = .ok (.iload_n 3, 1) := by decide +kernel
theorem dL_law_978 : decode cL_law 978 = .ok (.iconst 1, 1) := by decide +kernel
theorem dL_law_979 : decode cL_law 979 = .ok (.iadd, 1) := by decide +kernel
theorem dL_law_980 : decode cL_law 980 = .ok (.iaload, 1) := by decide +kernel
theorem dL_law_981 : decode cL_law 981 = .ok (.aload_n 0, 1) := by decide +kernel
theorem dL_law_982 : decode cL_law 982 = .ok (.iload_n 3, 1) := by decide +kernel
theorem dL_law_983 : decode cL_law 983 = .ok (.iconst 2, 1) := by decide +kernel
theorem dL_law_984 : decode cL_law 984 = .ok (.iadd, 1) := by decide +kernel
theorem dL_law_985 : decode cL_law 985 = .ok (.iaload, 1) := by decide +kernel
theorem dL_law_986 : decode cL_law 986 = .ok (.invokevirtual 135, 3) := by decide +kernel
theorem dL_law_989 : decode cL_law 989 = .ok (.if_icmp .eq 176, 3) := by decide +kernel
theorem dL_law_992 : decode cL_law 992 = .ok (.iconst 0, 1) := by decide +kernel
theorem dL_law_993 : decode cL_law 993 = .ok (.ireturn, 1) := by decide +kernel
theorem dL_law_994 : decode cL_law 994 = .ok (.aload_n 1, 1) := by decide +kernel
theorem dL_law_995 : decode cL_law 995 = .ok (.aload_n 0, 1) := by decide +kernel
theorem dL_law_996 : decode cL_law 996 = .ok (.iload_n 3, 1) := by decide +kernel
theorem dL_law_997 : decode cL_law 997 = .ok (.iconst 1, 1) := by decide +kernel
theorem dL_law_998 : decode cL_law 998 = .ok (.iadd, 1) := by decide +kernel
theorem dL_law_999 : decode cL_law 999 = .ok (.iaload, 1) := by decide +kernel
theorem dL_law_1000 : decode cL_law 1000 = .ok (.invokevirtual 136, 3) := by decide +kernel
theorem dL_law_1003 : decode cL_law 1003 = .ok (.aload_n 2, 1) := by decide +kernel
theorem dL_law_1004 : decode cL_law 1004 = .ok (.aload_n 0, 1) := by decide +kernel
theorem dL_law_1005 : decode cL_law 1005 = .ok (.iload_n 3, 1) := by decide +kernel
theorem dL_law_1006 : decode cL_law 1006 = .ok (.iconst 1, 1) := by decide +kernel
theorem dL_law_1007 : decode cL_law 1007 = .ok (.iadd, 1) := by decide +kernel
theorem dL_law_1008 : decode cL_law 1008 = .ok (.iaload, 1) := by decide +kernel
theorem dL_law_1009 : decode cL_law 1009 = .ok (.invokevirtual 139, 3) := by decide +kernel
theorem dL_law_1012 : decode cL_law 1012 = .ok (.if_icmp .eq 153, 3) := by decide +kernel
theorem dL_law_1015 : decode cL_law 1015 = .ok (.iconst 0, 1) := by decide +kernel
theorem dL_law_1016 : decode cL_law 1016 = .ok (.ireturn, 1) := by decide +kernel
theorem dL_law_1017 : decode cL_law 1017 = .ok (.aload_n 1, 1) := by decide +kernel
theorem dL_law_1018 : decode cL_law 1018 = .ok (.aload_n 0, 1) := by decide +kernel
theorem dL_law_1019 : decode cL_law 1019 = .ok (.iload_n 3, 1) := by decide +kernel
theorem dL_law_1020 : decode cL_law 1020 = .ok (.iconst 1, 1) := by decide +kernel
theorem dL_law_1021 : decode cL_law 1021 = .ok (.iadd, 1) := by decide +kernel
theorem dL_law_1022 : decode cL_law 1022 = .ok (.iaload, 1) := by decide +kernel
theorem dL_law_1023 : decode cL_law 1023 = .ok (.aload_n 0, 1) := by decide +kernel
theorem dL_law_1024 : decode cL_law 1024 = .ok (.iload_n 3, 1) := by decide +kernel
theorem dL_law_1025 : decode cL_law 1025 = .ok (.iconst 2, 1) := by decide +kernel
theorem dL_law_1026 : decode cL_law 1026 = .ok (.iadd, 1) := by decide +kernel
theorem dL_law_1027 : decode cL_law 1027 = .ok (.iaload, 1) := by decide +kernel
theorem dL_law_1028 : decode cL_law 1028 = .ok (.invokevirtual 140, 3) := by decide +kernel
theorem dL_law_1031 : decode cL_law 1031 = .ok (.aload_n 2, 1) := by decide +kernel
theorem dL_law_1032 : decode cL_law 1032 = .ok (.aload_n 0, 1) := by decide +kernel
theorem dL_law_1033 : decode cL_law 1033 = .ok (.iload_n 3, 1) := by decide +kernel
theorem dL_law_1034 : decode cL_law 1034 = .ok (.iconst 1, 1) := by decide +kernel
theorem dL_law_1035 : decode cL_law 1035 = .ok (.iadd, 1) := by decide +kernel
theorem dL_law_1036 : decode cL_law 1036 = .ok (.iaload, 1) := by decide +kernel
theorem dL_law_1037 : decode cL_law 1037 = .ok (.aload_n 0, 1) := by decide +kernel
theorem dL_law_1038 : decode cL_law 1038 = .ok (.iload_n 3, 1) := by decide +kernel
theorem dL_law_1039 : decode cL_law 1039 = .ok (.iconst 2, 1) := by decide +kernel
theorem dL_law_1040 : decode cL_law 1040 = .ok (.iadd, 1) := by decide +kernel
theorem dL_law_1041 : decode cL_law 1041 = .ok (.iaload, 1) := by decide +kernel
theorem dL_law_1042 : decode cL_law 1042 = .ok (.invokevirtual 143, 3) := by decide +kernel
theorem dL_law_1045 : decode cL_law 1045 = .ok (.if_icmp .eq 120, 3) := by decide +kernel
theorem dL_law_1048 : decode cL_law 1048 = .ok (.iconst 0, 1) := by decide +kernel
theorem dL_law_1049 : decode cL_law 1049 = .ok (.ireturn, 1) := by decide +kernel
theorem dL_law_1050 : decode cL_law 1050 = .ok (.aload_n 1, 1) := by decide +kernel
theorem dL_law_1051 : decode cL_law 1051 = .ok (.aload_n 0, 1) := by decide +kernel
theorem dL_law_1052 : decode cL_law 1052 = .ok (.iload_n 3, 1) := by decide +kernel
theorem dL_law_1053 : decode cL_law 1053 = .ok (.iconst 1, 1) := by decide +kernel
theorem dL_law_1054 : decode cL_law 1054 = .ok (.iadd, 1) := by decide +kernel
theorem dL_law_1055 : decode cL_law 1055 = .ok (.iaload, 1) := by decide +kernel
theorem dL_law_1056 : decode cL_law 1056 = .ok (.aload_n 0, 1) := by decide +kernel
theorem dL_law_1057 : decode cL_law 1057 = .ok (.iload_n 3, 1) := by decide +kernel
theorem dL_law_1058 : decode cL_law 1058 = .ok (.iconst 2, 1) := by decide +kernel
theorem dL_law_1059 : decode cL_law 1059 = .ok (.iadd, 1) := by decide +kernel
theorem dL_law_1060 : decode cL_law 1060 = .ok (.iaload, 1) := by decide +kernel
theorem dL_law_1061 : decode cL_law 1061 = .ok (.aload_n 0, 1) := by decide +kernel
theorem dL_law_1062 : decode cL_law 1062 = .ok (.iload_n 3, 1) := by decide +kernel
theorem dL_law_1063 : decode cL_law 1063 = .ok (.iconst 3, 1) := by decide +kernel
theorem dL_law_1064 : decode cL_law 1064 = .ok (.iadd, 1) := by decide +kernel
theorem dL_law_1065 : decode cL_law 1065 = .ok (.iaload, 1) := by decide +kernel
theorem dL_law_1066 : decode cL_law 1066 = .ok (.invokevirtual 144, 3) := by decide +kernel
theorem dL_law_1069 : decode cL_law 1069 = .ok (.aload_n 2, 1) := by decide +kernel
theorem dL_law_1070 : decode cL_law 1070 = .ok (.aload_n 0, 1) := by decide +kernel
theorem dL_law_1071 : decode cL_law 1071 = .ok (.iload_n 3, 1) := by decide +kernel
theorem dL_law_1072 : decode cL_law 1072 = .ok (.iconst 1, 1) := by decide +kernel
theorem dL_law_1073 : decode cL_law 1073 = .ok (.iadd, 1) := by decide +kernel
theorem dL_law_1074 : decode cL_law 1074 = .ok (.iaload, 1) := by decide +kernel
theorem dL_law_1075 : decode cL_law 1075 = .ok (.aload_n 0, 1) := by decide +kernel
theorem dL_law_1076 : decode cL_law 1076 = .ok (.iload_n 3, 1) := by decide +kernel
theorem dL_law_1077 : decode cL_law 1077 = .ok (.iconst 2, 1) := by decide +kernel
theorem dL_law_1078 : decode cL_law 1078 = .ok (.iadd, 1) := by decide +kernel
theorem dL_law_1079 : decode cL_law 1079 = .ok (.iaload, 1) := by decide +kernel
theorem dL_law_1080 : decode cL_law 1080 = .ok (.aload_n 0, 1) := by decide +kernel
theorem dL_law_1081 : decode cL_law 1081 = .ok (.iload_n 3, 1) := by decide +kernel
theorem dL_law_1082 : decode cL_law 1082 = .ok (.iconst 3, 1) := by decide +kernel
theorem dL_law_1083 : decode cL_law 1083 = .ok (.iadd, 1) := by decide +kernel
theorem dL_law_1084 : decode cL_law 1084 = .ok (.iaload, 1) := by decide +kernel
theorem dL_law_1085 : decode cL_law 1085 = .ok (.invokevirtual 147, 3) := by decide +kernel
theorem dL_law_1088 : decode cL_law 1088 = .ok (.if_icmp .eq 77, 3) := by decide +kernel
theorem dL_law_1091 : decode cL_law 1091 = .ok (.iconst 0, 1) := by decide +kernel
theorem dL_law_1092 : decode cL_law 1092 = .ok (.ireturn, 1) := by decide +kernel
theorem dL_law_1093 : decode cL_law 1093 = .ok (.aload_n 1, 1) := by decide +kernel
theorem dL_law_1094 : decode cL_law 1094 = .ok (.aload_n 0, 1) := by decide +kernel
theorem dL_law_1095 : decode cL_law 1095 = .ok (.iload_n 3, 1) := by decide +kernel
theorem dL_law_1096 : decode cL_law 1096 = .ok (.iconst 1, 1) := by decide +kernel
theorem dL_law_1097 : decode cL_law 1097 = .ok (.iadd, 1) := by decide +kernel
theorem dL_law_1098 : decode cL_law 1098 = .ok (.iaload, 1) := by decide +kernel
theorem dL_law_1099 : decode cL_law 1099 = .ok (.aload_n 0, 1) := by decide +kernel
theorem dL_law_1100 : decode cL_law 1100 = .ok (.iload_n 3, 1) := by decide +kernel
theorem dL_law_1101 : decode cL_law 1101 = .ok (.iconst 2, 1) := by decide +kernel
theorem dL_law_1102 : decode cL_law 1102 = .ok (.iadd, 1) := by decide +kernel
theorem dL_law_1103 : decode cL_law 1103 = .ok (.iaload, 1) := by decide +kernel
theorem dL_law_1104 : decode cL_law 1104 = .ok (.ifCond .eq 7, 3) := by decide +kernel
theorem dL_law_1107 : decode cL_law 1107 = .ok (.iconst 1, 1) := by decide +kernel
theorem dL_law_1108 : decode cL_law 1108 = .ok (.goto 4, 3) := by decide +kernel
theorem dL_law_1111 : decode cL_law 1111 = .ok (.iconst 0, 1) := by decide +kernel
theorem dL_law_1112 : decode cL_law 1112 = .ok (.invokevirtual 148, 3) := by decide +kernel
theorem dL_law_1115 : decode cL_law 1115 = .ok (.aload_n 2, 1) := by decide +kernel
theorem dL_law_1116 : decode cL_law 1116 = .ok (.aload_n 0, 1) := by decide +kernel
theorem dL_law_1117 : decode cL_law 1117 = .ok (.iload_n 3, 1) := by decide +kernel
theorem dL_law_1118 : decode cL_law 1118 = .ok (.iconst 1, 1) := by decide +kernel
theorem dL_law_1119 : decode cL_law 1119 = .ok (.iadd, 1) := by decide +kernel
theorem dL_law_1120 : decode cL_law 1120 = .ok (.iaload, 1) := by decide +kernel
theorem dL_law_1121 : decode cL_law 1121 = .ok (.aload_n 0, 1) := by decide +kernel
theorem dL_law_1122 : decode cL_law 1122 = .ok (.iload_n 3, 1) := by decide +kernel
theorem dL_law_1123 : decode cL_law 1123 = .ok (.iconst 2, 1) := by decide +kernel
theorem dL_law_1124 : decode cL_law 1124 = .ok (.iadd, 1) := by decide +kernel
theorem dL_law_1125 : decode cL_law 1125 = .ok (.iaload, 1) := by decide +kernel
theorem dL_law_1126 : decode cL_law 1126 = .ok (.ifCond .eq 7, 3) := by decide +kernel
theorem dL_law_1129 : decode cL_law 1129 = .ok (.iconst 1, 1) := by decide +kernel
theorem dL_law_1130 : decode cL_law 1130 = .ok (.goto 4, 3) := by decide +kernel
theorem dL_law_1133 : decode cL_law 1133 = .ok (.iconst 0, 1) := by decide +kernel
theorem dL_law_1134 : decode cL_law 1134 = .ok (.invokevirtual 151, 3) := by decide +kernel
theorem dL_law_1137 : decode cL_law 1137 = .ok (.if_icmp .eq 28, 3) := by decide +kernel
theorem dL_law_1140 : decode cL_law 1140 = .ok (.iconst 0, 1) := by decide +kernel
theorem dL_law_1141 : decode cL_law 1141 = .ok (.ireturn, 1) := by decide +kernel
theorem dL_law_1142 : decode cL_law 1142 = .ok (.aload_n 1, 1) := by decide +kernel
theorem dL_law_1143 : decode cL_law 1143 = .ok (.aload_n 0, 1) := by decide +kernel
theorem dL_law_1144 : decode cL_law 1144 = .ok (.iload_n 3, 1) := by decide +kernel
theorem dL_law_1145 : decode cL_law 1145 = .ok (.iconst 1, 1) := by decide +kernel
theorem dL_law_1146 : decode cL_law 1146 = .ok (.iadd, 1) := by decide +kernel
theorem dL_law_1147 : decode cL_law 1147 = .ok (.iaload, 1) := by decide +kernel
theorem dL_law_1148 : decode cL_law 1148 = .ok (.invokevirtual 152, 3) := by decide +kernel
theorem dL_law_1151 : decode cL_law 1151 = .ok (.aload_n 2, 1) := by decide +kernel
theorem dL_law_1152 : decode cL_law 1152 = .ok (.aload_n 0, 1) := by decide +kernel
theorem dL_law_1153 : decode cL_law 1153 = .ok (.iload_n 3, 1) := by decide +kernel
theorem dL_law_1154 : decode cL_law 1154 = .ok (.iconst 1, 1) := by decide +kernel
theorem dL_law_1155 : decode cL_law 1155 = .ok (.iadd, 1) := by decide +kernel
theorem dL_law_1156 : decode cL_law 1156 = .ok (.iaload, 1) := by decide +kernel
theorem dL_law_1157 : decode cL_law 1157 = .ok (.invokevirtual 155, 3) := by decide +kernel
theorem dL_law_1160 : decode cL_law 1160 = .ok (.if_icmp .eq 5, 3) := by decide +kernel
theorem dL_law_1163 : decode cL_law 1163 = .ok (.iconst 0, 1) := by decide +kernel
theorem dL_law_1164 : decode cL_law 1164 = .ok (.ireturn, 1) := by decide +kernel
set_option maxRecDepth 20000 in
theorem gL_law_X11_hunt : GoodIn wsL_law (wsV RL 124 RX11 yX11_hunt wsX11_hunt) := goodIn_c lawCh lawCh_in _ [(51, 14), (51, 15), (51, 16), (0, 2), (51, 17), (1, 19), (0, 22), (1, 8), (35, 9), (38, 19), (38, 20), (38, 21), (0, 21), (38, 22), (13, 13), (24, 19), (23, 15), (23, 16), (23, 17), (51, 18), (51, 19), (51, 20), (1, 18), (51, 21), (7, 1), (7, 2), (51, 22), (51, 23), (52, 0), (52, 1), (49, 6), (52, 2), (49, 15), (52, 3), (52, 4), (52, 5), (52, 6), (60, 0), (60, 1), (60, 2), (60, 3), (60, 4), (60, 5), (60, 6), (60, 7), (60, 8), (60, 9), (60, 10), (60, 11), (65, 0), (65, 1), (65, 2), (65, 3), (65, 4), (65, 5), (65, 6), (65, 7), (65, 8), (63, 0), (63, 1), (63, 2), (63, 3), (63, 4), (63, 5), (63, 6), (63, 7), (63, 8), (63, 9), (63, 10), (63, 11), (63, 12), (67, 0), (67, 1)] rfl (by decide +kernel)
set_option maxRecDepth 20000 in
theorem gL_law_X12_hunt : GoodIn wsL_law (wsV RL 127 RX12 yX12_hunt wsX12_hunt) := goodIn_c lawCh lawCh_in _ [(52, 7), (52, 8), (52, 9), (0, 5), (52, 10), (12, 14), (9, 17), (9, 18), (52, 11), (52, 12), (52, 13), (52, 14), (0, 5), (52, 15), (9, 12), (39, 11), (39, 12), (39, 13), (39, 14), (10, 20), (10, 21), (10, 22), (10, 23), (9, 2), (11, 8), (11, 9), (11, 10), (11, 0), (11, 1), (11, 2), (11, 3), (45, 11), (45, 12), (45, 13), (30, 7), (30, 8), (30, 9), (61, 0), (61, 1), (61, 2), (61, 3), (61, 4), (61, 5), (61, 6), (61, 7), (61, 8), (61, 9), (61, 10), (61, 11), (61, 12), (61, 13), (61, 14), (61, 15), (61, 16), (61, 17), (61, 18), (61, 19), (61, 20), (61, 21), (61, 22), (61, 23), (61, 24), (61, 25), (61, 26), (61, 27), (61, 28), (61, 29), (61, 30), (61, 31), (61, 32), (61, 33), (61, 34), (61, 35), (61, 36), (61, 37), (61, 38)] rfl (by decide +kernel)
set_option maxRecDepth 20000 in
theorem gL_law_X11_same : GoodIn wsL_law (wsV RL 128 RX11 yX11_same wsX11_same) := goodIn_c lawCh lawCh_in _ [(52, 16), (52, 17), (52, 18), (0, 2), (52, 19), (1, 8), (0, 22), (35, 9), (38, 19), (38, 20), (38, 21), (0, 21), (38, 22), (13, 13), (24, 19), (23, 15), (23, 16), (23, 17), (52, 20), (52, 21), (52, 22), (1, 7), (52, 23), (25, 17), (6, 12), (53, 0), (53, 1), (53, 2), (53, 3), (60, 0), (60, 1), (60, 2), (60, 3), (60, 4), (60, 5), (60, 6), (60, 7), (60, 8), (60, 9), (60, 10), (60, 11), (65, 0), (65, 1), (65, 2), (65, 3), (65, 4), (65, 5), (65, 6), (65, 7), (65, 8), (63, 0), (63, 1), (63, 2), (63, 3), (63, 4), (63, 5), (63, 6), (63, 7), (63, 8), (63, 9), (63, 10), (63, 11), (63, 12)] rfl (by decide +kernel)
set_option maxRecDepth 20000 in
theorem gL_law_X12_same : GoodIn wsL_law (wsV RL 131 RX12 yX12_same wsX12_same) := goodIn_c lawCh lawCh_in _ [(53, 4), (53, 5), (53, 6), (0, 5), (53, 7), (12, 14), (9, 12), (30, 7), (30, 8), (0, 5), (30, 9), (10, 20), (10, 21), (10, 22), (10, 23), (9, 2), (39, 11), (39, 12), (39, 13), (39, 14), (11, 8), (11, 9), (11, 10), (61, 0), (61, 1), (61, 2), (61, 3), (61, 4), (61, 5), (61, 6), (61, 7), (61, 8), (61, 9), (61, 10), (61, 11), (61, 12), (61, 13), (61, 14), (61, 15), (61, 16), (61, 17), (61, 18), (61, 19), (61, 20), (61, 21), (61, 22), (61, 23), (61, 24), (61, 25), (61, 26), (61, 27), (61, 28), (61, 29), (61, 30), (61, 31), (61, 32), (61, 33), (61, 34), (61, 35), (61, 36), (61, 37), (61, 38)] rfl (by decide +kernel)
set_option maxRecDepth 20000 in
theorem gL_law_X11_bill : GoodIn wsL_law (wsV RL 132 RX11 yX11_bill wsX11_bill) := goodIn_c lawCh lawCh_in _ [(53, 8), (53, 9), (53, 10), (0, 2), (53, 11), (0, 22), (34, 7), (33, 4), (33, 5), (0, 21), (33, 6), (13, 13), (53, 12), (53, 13), (1, 22), (53, 14), (53, 15), (53, 16), (60, 0), (60, 1), (60, 2), (60, 3), (60, 4), (60, 5), (60, 6), (60, 7), (60, 8), (60, 9), (60, 10), (60, 11), (63, 0), (63, 1), (63, 2), (63, 3), (63, 4), (63, 5), (63, 6), (63, 7), (63, 8), (63, 9), (63, 10), (63, 11), (63, 12)] rfl (by decide +kernel)
set_option maxRecDepth 20000 in
theorem gL_law_X12_bill : GoodIn wsL_law (wsV RL 135 RX12 yX12_bill wsX12_bill) := goodIn_c lawCh lawCh_in _ [(53, 17), (53, 18), (53, 19), (0, 5), (53, 20), (12, 14), (9, 10), (9, 2), (9, 19), (9, 20), (34, 12), (34, 13), (34, 14), (0, 5), (34, 15), (10, 20), (10, 21), (10, 22), (10, 23), (30, 7), (30, 8), (30, 9), (11, 0), (11, 1), (11, 2), (11, 3), (53, 21), (53, 22), (53, 23), (54, 0), (9, 3), (9, 11), (9, 4), (54, 1), (54, 2), (54, 3), (61, 0), (61, 1), (61, 2), (61, 3), (61, 4), (61, 5), (61, 6), (61, 7), (61, 8), (61, 9), (61, 10), (61, 11), (61, 12), (61, 13), (61, 14), (61, 15), (61, 16), (61, 17), (61, 18), (61, 19), (61, 20), (61, 21), (61, 22), (61, 23), (61, 24), (61, 25), (61, 26), (61, 27), (61, 28), (61, 29), (61, 30), (61, 31), (61, 32), (61, 33), (61, 34), (61, 35), (61, 36), (61, 37), (61, 38)] rfl (by decide +kernel)
set_option maxRecDepth 20000 in
theorem gL_law_X11_beds : GoodIn wsL_law (wsV RL 136 RX11 yX11_beds wsX11_beds) := goodIn_c lawCh lawCh_in _ [(54, 4), (54, 5), (54, 6), (0, 2), (54, 7), (0, 22), (1, 23), (54, 8), (34, 7), (33, 4), (33, 5), (0, 21), (33, 6), (13, 13), (54, 9), (54, 10), (54, 11), (1, 22), (54, 12), (54, 13), (54, 14), (54, 15), (53, 15), (7, 7), (54, 16), (7, 6), (54, 17), (36, 9), (36, 10), (36, 11), (36, 12), (36, 13), (36, 14), (60, 0), (60, 1), (60, 2), (60, 3), (60, 4), (60, 5), (60, 6), (60, 7), (60, 8), (60, 9), (60, 10), (60, 11), (68, 0), (68, 1), (68, 2), (63, 0), (63, 1), (63, 2), (63, 3), (63, 4), (63, 5), (63, 6), (63, 7), (63, 8), (63, 9), (63, 10), (63, 11), (63, 12)] rfl (by decide +kernel)
set_option maxRecDepth 20000 in
theorem gL_law_X12_beds : GoodIn wsL_law (wsV RL 139 RX12 yX12_beds wsX12_beds) := goodIn_c lawCh lawCh_in _ [(54, 18), (54, 19), (54, 20), (0, 5), (54, 21), (12, 14), (54, 22), (9, 22), (34, 12), (34, 13), (34, 14), (0, 5), (34, 15), (10, 20), (10, 21), (10, 22), (10, 23), (9, 2), (54, 23), (55, 0), (55, 1), (55, 2), (9, 21), (55, 3), (55, 4), (55, 5), (55, 6), (11, 0), (11, 1), (11, 2), (11, 3), (45, 11), (45, 12), (45, 13), (61, 0), (61, 1), (61, 2), (61, 3), (61, 4), (61, 5), (61, 6), (61, 7), (61, 8), (61, 9), (61, 10), (61, 11), (61, 12), (61, 13), (61, 14), (61, 15), (61, 16), (61, 17), (61, 18), (61, 19), (61, 20), (61, 21), (61, 22), (61, 23), (61, 24), (61, 25), (61, 26), (61, 27), (61, 28), (61, 29), (61, 30), (61, 31), (61, 32), (61, 33), (61, 34), (61, 35), (61, 36), (61, 37), (61, 38)] rfl (by decide +kernel)
set_option maxRecDepth 20000 in
theorem gL_law_X11_watch : GoodIn wsL_law (wsV RL 140 RX11 yX11_watch wsX11_watch) := goodIn_c lawCh lawCh_in _ [(55, 7), (55, 8), (55, 9), (0, 2), (55, 10), (1, 23), (0, 22), (55, 11), (55, 12), (55, 13), (1, 22), (55, 14), (53, 15), (7, 8), (55, 15), (55, 16), (55, 17), (55, 18), (55, 19), (55, 20), (15, 9), (55, 21), (54, 17), (36, 9), (36, 10), (36, 11), (36, 12), (36, 13), (36, 14), (55, 22), (55, 23), (56, 0), (56, 1), (60, 0), (60, 1), (60, 2), (60, 3), (60, 4), (60, 5), (60, 6), (60, 7), (60, 8), (60, 9), (60, 10), (60, 11), (63, 0), (63, 1), (63, 2), (63, 3), (63, 4), (63, 5), (63, 6), (63, 7), (63, 8), (63, 9), (63, 10), (63, 11), (63, 12), (68, 0), (68, 1), (68, 2)] rfl (by decide +kernel)
set_option maxRecDepth 20000 in
theorem gL_law_X12_watch : GoodIn wsL_law (wsV RL 143 RX12 yX12_watch wsX12_watch) := goodIn_c lawCh lawCh_in _ [(56, 2), (56, 3), (56, 4), (0, 5), (56, 5), (12, 14), (10, 20), (10, 21), (10, 22), (0, 5), (10, 23), (9, 2), (30, 7), (30, 8), (30, 9), (37, 15), (37, 16), (37, 17), (56, 6), (56, 7), (56, 8), (56, 9), (11, 0), (11, 1), (11, 2), (11, 3), (45, 11), (45, 12), (45, 13), (61, 0), (61, 1), (61, 2), (61, 3), (61, 4), (61, 5), (61, 6), (61, 7), (61, 8), (61, 9), (61, 10), (61, 11), (61, 12), (61, 13), (61, 14), (61, 15), (61, 16), (61, 17), (61, 18), (61, 19), (61, 20), (61, 21), (61, 22), (61, 23), (61, 24), (61, 25), (61, 26), (61, 27), (61, 28), (61, 29), (61, 30), (61, 31), (61, 32), (61, 33), (61, 34), (61, 35), (61, 36), (61, 37), (61, 38)] rfl (by decide +kernel)
set_option maxRecDepth 20000 in
theorem gL_law_X11_years : GoodIn wsL_law (wsV RL 144 RX11 yX11_years wsX11_years) := goodIn_c lawCh lawCh_in _ [(56, 10), (56, 11), (56, 12), (0, 2), (56, 13), (0, 22), (38, 17), (56, 14), (56, 15), (44, 15), (56, 16), (44, 22), (56, 17), (56, 18), (56, 19), (56, 20), (56, 21), (56, 22), (56, 23), (57, 0), (57, 1), (57, 2), (57, 3), (57, 4), (57, 5), (57, 6), (57, 7), (57, 8), (57, 9), (45, 2), (44, 17), (46, 1), (44, 18), (36, 9), (36, 10), (36, 11), (36, 12), (36, 13), (36, 14), (57, 10), (24, 3), (24, 4), (0, 21), (24, 5), (13, 13), (44, 19), (44, 20), (44, 21), (44, 23), (45, 0), (45, 1), (60, 0), (60, 1), (60, 2), (60, 3), (60, 4), (60, 5), (60, 6), (60, 7), (60, 8), (60, 9), (60, 10), (60, 11), (63, 0), (63, 1), (63, 2), (63, 3), (63, 4), (63, 5), (63, 6), (63, 7), (63, 8), (63, 9), (63, 10), (63, 11), (63, 12)] rfl (by decide +kernel)
set_option maxRecDepth 20000 in
theorem gL_law_X12_years : GoodIn wsL_law (wsV RL 147 RX12 yX12_years wsX12_years) := goodIn_c lawCh lawCh_in _ [(57, 11), (57, 12), (57, 13), (0, 5), (57, 14), (12, 14), (57, 15), (9, 15), (30, 7), (30, 8), (0, 5), (30, 9), (10, 20), (10, 21), (10, 22), (10, 23), (9, 2), (57, 16), (57, 17), (57, 18), (57, 19), (11, 0), (11, 1), (11, 2), (11, 3), (57, 20), (57, 21), (57, 22), (57, 23), (58, 0), (58, 1), (58, 2), (58, 3), (58, 4), (58, 5), (58, 6), (58, 7), (11, 15), (11, 16), (11, 17), (11, 18), (39, 11), (39, 12), (39, 13), (39, 14), (11, 8), (11, 9), (11, 10), (41, 14), (41, 15), (41, 16), (37, 15), (37, 16), (37, 17), (61, 0), (61, 1), (61, 2), (61, 3), (61, 4), (61, 5), (61, 6), (61, 7), (61, 8), (61, 9), (61, 10), (61, 11), (61, 12), (61, 13), (61, 14), (61, 15), (61, 16), (61, 17), (61, 18), (61, 19), (61, 20), (61, 21), (61, 22), (61, 23), (61, 24), (61, 25), (61, 26), (61, 27), (61, 28), (61, 29), (61, 30), (61, 31), (61, 32), (61, 33), (61, 34), (61, 35), (61, 36), (61, 37), (61, 38)] rfl (by decide +kernel)
set_option maxRecDepth 20000 in
theorem gL_law_X11_mark : GoodIn wsL_law (wsV RL 148 RX11 yX11_mark wsX11_mark) := goodIn_c lawCh lawCh_in _ [(58, 8), (58, 9), (58, 10), (0, 2), (58, 11), (1, 9), (1, 8), (1, 11), (58, 12), (58, 13), (58, 14), (1, 7), (58, 15), (25, 16), (25, 17), (6, 12), (25, 18), (6, 13), (6, 14), (58, 16), (25, 13), (25, 14), (25, 15), (25, 19), (60, 0), (60, 1), (60, 2), (60, 3), (60, 4), (60, 5), (60, 6), (60, 7), (60, 8), (60, 9), (60, 10), (60, 11), (65, 0), (65, 1), (65, 2), (65, 3), (65, 4), (65, 5), (65, 6), (65, 7), (65, 8)] rfl (by decide +kernel)
set_option maxRecDepth 20000 in
theorem gL_law_X12_mark : GoodIn wsL_law (wsV RL 151 RX12 yX12_mark wsX12_mark) := goodIn_c lawCh lawCh_in _ [(58, 17), (58, 18), (58, 19), (0, 5), (58, 20), (12, 14), (9, 13), (10, 7), (30, 7), (30, 8), (0, 5), (30, 9), (37, 11), (37, 12), (37, 13), (37, 14), (9, 12), (61, 0), (61, 1), (61, 2), (61, 3), (61, 4), (61, 5), (61, 6), (61, 7), (61, 8), (61, 9), (61, 10), (61, 11), (61, 12), (61, 13), (61, 14), (61, 15), (61, 16), (61, 17), (61, 18), (61, 19), (61, 20), (61, 21), (61, 22), (61, 23), (61, 24), (61, 25), (61, 26), (61, 27), (61, 28), (61, 29), (61, 30), (61, 31), (61, 32), (61, 33), (61, 34), (61, 35), (61, 36), (61, 37), (61, 38)] rfl (by decide +kernel)
set_option maxRecDepth 20000 in
theorem gL_law_X11_count : GoodIn wsL_law (wsV RL 152 RX11 yX11_count wsX11_count) := goodIn_c lawCh lawCh_in _ [(58, 21), (58, 22), (58, 23), (0, 2), (59, 0), (0, 22), (38, 17), (59, 1), (1, 8), (35, 9), (38, 18), (1, 3), (13, 0), (59, 2), (59, 3), (0, 18), (12, 3), (36, 8), (36, 9), (36, 10), (36, 11), (36, 12), (36, 13), (36, 14), (60, 0), (60, 1), (60, 2), (60, 3), (60, 4), (60, 5), (60, 6), (60, 7), (60, 8), (60, 9), (60, 10), (60, 11), (63, 0), (63, 1), (63, 2), (63, 3), (63, 4), (63, 5), (63, 6), (63, 7), (63, 8), (63, 9), (63, 10), (63, 11), (63, 12), (65, 0), (65, 1), (65, 2), (65, 3), (65, 4), (65, 5), (65, 6), (65, 7), (65, 8), (64, 0), (64, 1), (64, 2), (70, 0), (70, 1), (70, 2), (70, 3), (70, 4), (70, 5), (70, 6), (70, 7)] rfl (by decide +kernel)
set_option maxRecDepth 20000 in
theorem gL_law_X12_count : GoodIn wsL_law (wsV RL 155 RX12 yX12_count wsX12_count) := goodIn_c lawCh lawCh_in _ [(59, 4), (59, 5), (59, 6), (0, 5), (59, 7), (12, 14), (9, 12), (9, 9), (10, 7), (12, 15), (10, 20), (10, 21), (10, 22), (0, 5), (10, 23), (9, 2), (10, 8), (10, 9), (10, 10), (10, 11), (37, 15), (37, 16), (37, 17), (61, 0), (61, 1), (61, 2), (61, 3), (61, 4), (61, 5), (61, 6), (61, 7), (61, 8), (61, 9), (61, 10), (61, 11), (61, 12), (61, 13), (61, 14), (61, 15), (61, 16), (61, 17), (61, 18), (61, 19), (61, 20), (61, 21), (61, 22), (61, 23), (61, 24), (61, 25), (61, 26), (61, 27), (61, 28), (61, 29), (61, 30), (61, 31), (61, 32), (61, 33), (61, 34), (61, 35), (61, 36), (61, 37), (61, 38)] rfl (by decide +kernel)
section
variable {p : Program} {l : Launch} {e : Env} {s : State} {m : MethodId} {below : List Frame} {meth : Method} {c : Code} {D : va_G} {cy : Nat → ClassId} {ad aM : Nat → Nat} {A : Nat → Prop} {b L i : Nat} {xs : Nat → Int32} {Inv : (Nat → Ob) → Ob → Prop}
set_option maxRecDepth 100000 in
set_option maxHeartbeats 8000000 in
theorem law_hunt (hC : Cx p s m #[Value.ref b] meth c code 4 wsL_law RL ret) (hX : va_X b L xs s s.heap) (hbl : b < s.heap.size) (hbA : ¬ A b) (hL : L ≤ 3584) (hi : i + 7 ≤ L) (hS : St_hunt Inv) (next : ∀ (cs : Nat → Ob) (sm : Ob) (u : Nat → Nat → Nat) (gi : Value) (H : Heap) (locs : List Loc) (ls : Array Slot), Inv cs sm → GW D cy ad (AW cy u gi cs aM sm) A s H locs → lv_has ls 4 [(0, .ref b), (1, .ref (u 0 0)), (2, .ref (aM 0)), (3, .int (nI i))] → W p l e room_1 s m #[Value.ref b] below meth c H locs lwC lwS (lw_Z below #[Value.ref b] s) (F0 m 1165 ls [])) : ∀ (cs : Nat → Ob) (sm : Ob) (u : Nat → Nat → Nat) (gi : Value) (H : Heap) (locs : List Loc) (ls : Array Slot), Inv cs sm → GW D cy ad (AW cy u gi cs aM sm) A s H locs → lv_has ls 4 [(0, .ref b), (1, .ref (u 0 0)), (2, .ref (aM 0)), (3, .int (nI i))] → W p l e room_1 s m #[Value.ref b] below meth c H locs lwC lwS (lw_Z below #[Value.ref b] s) (F0 m 915 ls []) := by
  intro cs sm u gi H locs ls hI hW hl
  have hi1 : vp_in (nI i + 1) L := lw_in (j := 1) (by omega) (by omega)
  obtain ⟨a1, ea1⟩ : ∃ y : Int32, y = xs (Int32.toNatClampNeg (nI i + 1)) := ⟨_, rfl⟩
  refine lv_aload_n hC.1 hC.2.1 dL_law_915 rfl (lv_at hl 1 rfl) ?_
  refine lv_aload_n hC.1 hC.2.1 dL_law_916 rfl (lv_at hl 0 rfl) ?_
  refine lv_iload_n hC.1 hC.2.1 dL_law_917 rfl (lv_at hl 3 rfl) ?_
  refine lv_iconst (v := 1) hC.1 hC.2.1 dL_law_918 (by decide) ?_
  refine lv_iadd hC.1 hC.2.1 dL_law_919 ?_
  refine va_sld hC.1 hC.2.1 hX hbl hbA hW.2.2.2.1 hi1 dL_law_920 ?_
  refine lv_nmi ea1 ?_
  obtain ⟨r, SK, sm1, hf11, hf12, hI1⟩ := hS cs sm a1 hI 
  refine g_calliV (w' := AW cy u gi (va_up cs 6 SK) aM sm) hC hW (c11_hunt l D cy ad (u 0) (u 3) (u 1) (u 8) (u 9) (u 15) (u 16) (u 10) (u 5) (u 6) (u 7) (u 11) (u 12) (u 13) (u 14) hf11) (cwV 1 hC.2.2.2.2.1 gL_law_X11_hunt rfl rfl rfl hdV11_hunt ⟨Nat.le_of_ble_eq_true rfl, Nat.le_of_ble_eq_true rfl⟩) (Sub.takeL _ _ (Sub.skipL _ (Sub.skipL _ (Sub.skipL _ (Sub.skipL _ (Sub.skipL _ (Sub.takeL _ _ (Sub.skipL _ (Sub.takeL _ _ (Sub.skipL _ (Sub.takeLast _ _ _))))))))))) 0 10 rfl rfl rfl rfl hl.1 rfl (Nat.le_of_ble_eq_true rfl) dL_law_921 lwRm (fun H locs hW => ?_)
  refine lv_aload_n hC.1 hC.2.1 dL_law_924 rfl (lv_at hl 2 rfl) ?_
  refine lv_aload_n hC.1 hC.2.1 dL_law_925 rfl (lv_at hl 0 rfl) ?_
  refine lv_iload_n hC.1 hC.2.1 dL_law_926 rfl (lv_at hl 3 rfl) ?_
  refine lv_iconst (v := 1) hC.1 hC.2.1 dL_law_927 (by decide) ?_
  refine lv_iadd hC.1 hC.2.1 dL_law_928 ?_
  refine va_sld hC.1 hC.2.1 hX hbl hbA hW.2.2.2.1 hi1 dL_law_929 ?_
  refine lv_nmi ea1 ?_
  refine g_calliV (w' := AW cy u gi (va_up cs 6 SK) aM sm1) hC hW (c12_hunt l D cy ad aM hf12) (cwV 1 hC.2.2.2.2.1 gL_law_X12_hunt rfl rfl rfl hdV12_hunt ⟨Nat.le_of_ble_eq_true rfl, Nat.le_of_ble_eq_true rfl⟩) (Sub.skipL _ (Sub.skipL _ (Sub.skipL _ (Sub.skipL _ (Sub.skipL _ (Sub.skipL _ (Sub.skipL _ (Sub.skipL _ (Sub.skipL _ (Sub.skipL _ (Sub.skipL _ (Sub.skipL _ (Sub.skipL _ (Sub.skipL _ (Sub.skipL _ (Sub.skipL _ (Sub.skipL _ (Sub.all _ _)))))))))))))))))) 0 11 rfl rfl rfl rfl hl.1 rfl (Nat.le_of_ble_eq_true rfl) dL_law_930 lwRm (fun H locs hW => ?_)
  refine lv_icmp_eq (tgt := 1165) hC.1 hC.2.1 dL_law_933 (by decide) (fun _ => ?_) (fun hc => absurd rfl hc)
  exact next _ _ u gi H locs ls hI1 hW hl
set_option maxRecDepth 100000 in
set_option maxHeartbeats 8000000 in
theorem law_same (hC : Cx p s m #[Value.ref b] meth c code 4 wsL_law RL ret) (hX : va_X b L xs s s.heap) (hbl : b < s.heap.size) (hbA : ¬ A b) (hL : L ≤ 3584) (hi : i + 7 ≤ L) (hS : St_same Inv) (next : ∀ (cs : Nat → Ob) (sm : Ob) (u : Nat → Nat → Nat) (gi : Value) (H : Heap) (locs : List Loc) (ls : Array Slot), Inv cs sm → GW D cy ad (AW cy u gi cs aM sm) A s H locs → lv_has ls 4 [(0, .ref b), (1, .ref (u 0 0)), (2, .ref (aM 0)), (3, .int (nI i))] → W p l e room_1 s m #[Value.ref b] below meth c H locs lwC lwS (lw_Z below #[Value.ref b] s) (F0 m 1165 ls [])) : ∀ (cs : Nat → Ob) (sm : Ob) (u : Nat → Nat → Nat) (gi : Value) (H : Heap) (locs : List Loc) (ls : Array Slot), Inv cs sm → GW D cy ad (AW cy u gi cs aM sm) A s H locs → lv_has ls 4 [(0, .ref b), (1, .ref (u 0 0)), (2, .ref (aM 0)), (3, .int (nI i))] → W p l e room_1 s m #[Value.ref b] below meth c H locs lwC lwS (lw_Z below #[Value.ref b] s) (F0 m 938 ls []) := by
  intro cs sm u gi H locs ls hI hW hl
  have hi1 : vp_in (nI i + 1) L := lw_in (j := 1) (by omega) (by omega)
  obtain ⟨a1, ea1⟩ : ∃ y : Int32, y = xs (Int32.toNatClampNeg (nI i + 1)) := ⟨_, rfl⟩
  refine lv_aload_n hC.1 hC.2.1 dL_law_938 rfl (lv_at hl 1 rfl) ?_
  refine lv_aload_n hC.1 hC.2.1 dL_law_939 rfl (lv_at hl 0 rfl) ?_
  refine lv_iload_n hC.1 hC.2.1 dL_law_940 rfl (lv_at hl 3 rfl) ?_
  refine lv_iconst (v := 1) hC.1 hC.2.1 dL_law_941 (by decide) ?_
  refine lv_iadd hC.1 hC.2.1 dL_law_942 ?_
  refine va_sld hC.1 hC.2.1 hX hbl hbA hW.2.2.2.1 hi1 dL_law_943 ?_
  refine lv_nmi ea1 ?_
  obtain ⟨r, sm1, hf11, hf12, hI1⟩ := hS cs sm a1 hI 
  refine g_calliV (w' := AW cy u gi cs aM sm) hC hW (c11_same l D cy ad (u 0) (u 3) (u 1) (u 8) (u 9) (u 15) (u 16) (u 10) (u 5) (u 6) (u 7) (u 11) (u 12) (u 13) (u 14) hf11) (cwV 1 hC.2.2.2.2.1 gL_law_X11_same rfl rfl rfl hdV11_same ⟨Nat.le_of_ble_eq_true rfl, Nat.le_of_ble_eq_true rfl⟩) (Sub.takeL _ _ (Sub.skipL _ (Sub.skipL _ (Sub.skipL _ (Sub.skipL _ (Sub.skipL _ (Sub.skipL _ (Sub.skipL _ (Sub.takeL _ _ (Sub.skipL _ (Sub.takeLast _ _ _))))))))))) 0 10 rfl rfl rfl rfl hl.1 rfl (Nat.le_of_ble_eq_true rfl) dL_law_944 lwRm (fun H locs hW => ?_)
  refine lv_aload_n hC.1 hC.2.1 dL_law_947 rfl (lv_at hl 2 rfl) ?_
  refine lv_aload_n hC.1 hC.2.1 dL_law_948 rfl (lv_at hl 0 rfl) ?_
  refine lv_iload_n hC.1 hC.2.1 dL_law_949 rfl (lv_at hl 3 rfl) ?_
  refine lv_iconst (v := 1) hC.1 hC.2.1 dL_law_950 (by decide) ?_
  refine lv_iadd hC.1 hC.2.1 dL_law_951 ?_
  refine va_sld hC.1 hC.2.1 hX hbl hbA hW.2.2.2.1 hi1 dL_law_952 ?_
  refine lv_nmi ea1 ?_
  refine g_calliV (w' := AW cy u gi cs aM sm1) hC hW (c12_same l D cy ad aM hf12) (cwV 1 hC.2.2.2.2.1 gL_law_X12_same rfl rfl rfl hdV12_same ⟨Nat.le_of_ble_eq_true rfl, Nat.le_of_ble_eq_true rfl⟩) (Sub.skipL _ (Sub.skipL _ (Sub.skipL _ (Sub.skipL _ (Sub.skipL _ (Sub.skipL _ (Sub.skipL _ (Sub.skipL _ (Sub.skipL _ (Sub.skipL _ (Sub.skipL _ (Sub.skipL _ (Sub.skipL _ (Sub.skipL _ (Sub.skipL _ (Sub.skipL _ (Sub.skipL _ (Sub.all _ _)))))))))))))))))) 0 11 rfl rfl rfl rfl hl.1 rfl (Nat.le_of_ble_eq_true rfl) dL_law_953 lwRm (fun H locs hW => ?_)
  refine lv_icmp_eq (tgt := 1165) hC.1 hC.2.1 dL_law_956 (by decide) (fun _ => ?_) (fun hc => absurd rfl hc)
  exact next _ _ u gi H locs ls hI1 hW hl
set_option maxRecDepth 100000 in
set_option maxHeartbeats 8000000 in
theorem law_bill (hC : Cx p s m #[Value.ref b] meth c code 4 wsL_law RL ret) (hX : va_X b L xs s s.heap) (hbl : b < s.heap.size) (hbA : ¬ A b) (hL : L ≤ 3584) (hi : i + 7 ≤ L) (hS : St_bill Inv) (next : ∀ (cs : Nat → Ob) (sm : Ob) (u : Nat → Nat → Nat) (gi : Value) (H : Heap) (locs : List Loc) (ls : Array Slot), Inv cs sm → GW D cy ad (AW cy u gi cs aM sm) A s H locs → lv_has ls 4 [(0, .ref b), (1, .ref (u 0 0)), (2, .ref (aM 0)), (3, .int (nI i))] → W p l e room_1 s m #[Value.ref b] below meth c H locs lwC lwS (lw_Z below #[Value.ref b] s) (F0 m 1165 ls [])) : ∀ (cs : Nat → Ob) (sm : Ob) (u : Nat → Nat → Nat) (gi : Value) (H : Heap) (locs : List Loc) (ls : Array Slot), Inv cs sm → GW D cy ad (AW cy u gi cs aM sm) A s H locs → lv_has ls 4 [(0, .ref b), (1, .ref (u 0 0)), (2, .ref (aM 0)), (3, .int (nI i))] → W p l e room_1 s m #[Value.ref b] below meth c H locs lwC lwS (lw_Z below #[Value.ref b] s) (F0 m 961 ls []) := by
  intro cs sm u gi H locs ls hI hW hl
  have hi1 : vp_in (nI i + 1) L := lw_in (j := 1) (by omega) (by omega)
  obtain ⟨a1, ea1⟩ : ∃ y : Int32, y = xs (Int32.toNatClampNeg (nI i + 1)) := ⟨_, rfl⟩
  have hi2 : vp_in (nI i + 2) L := lw_in (j := 2) (by omega) (by omega)
  obtain ⟨a2, ea2⟩ : ∃ y : Int32, y = xs (Int32.toNatClampNeg (nI i + 2)) := ⟨_, rfl⟩
  refine lv_aload_n hC.1 hC.2.1 dL_law_961 rfl (lv_at hl 1 rfl) ?_
  refine lv_aload_n hC.1 hC.2.1 dL_law_962 rfl (lv_at hl 0 rfl) ?_
  refine lv_iload_n hC.1 hC.2.1 dL_law_963 rfl (lv_at hl 3 rfl) ?_
  refine lv_iconst (v := 1) hC.1 hC.2.1 dL_law_964 (by decide) ?_
  refine lv_iadd hC.1 hC.2.1 dL_law_965 ?_
  refine va_sld hC.1 hC.2.1 hX hbl hbA hW.2.2.2.1 hi1 dL_law_966 ?_
  refine lv_nmi ea1 ?_
  refine lv_aload_n hC.1 hC.2.1 dL_law_967 rfl (lv_at hl 0 rfl) ?_
  refine lv_iload_n hC.1 hC.2.1 dL_law_968 rfl (lv_at hl 3 rfl) ?_
  refine lv_iconst (v := 2) hC.1 hC.2.1 dL_law_969 (by decide) ?_
  refine lv_iadd hC.1 hC.2.1 dL_law_970 ?_
  refine va_sld hC.1 hC.2.1 hX hbl hbA hW.2.2.2.1 hi2 dL_law_971 ?_
  refine lv_nmi ea2 ?_
  obtain ⟨r, sm1, hf11, hf12, hI1⟩ := hS cs sm a1 a2 hI 
  refine g_calliV (w' := AW cy u gi cs aM sm) hC hW (c11_bill l D cy ad (u 0) (u 3) (u 1) (u 8) (u 9) (u 15) (u 16) (u 10) (u 5) (u 6) (u 7) (u 11) (u 12) (u 13) (u 14) hf11) (cwV 2 hC.2.2.2.2.1 gL_law_X11_bill rfl rfl rfl hdV11_bill ⟨Nat.le_of_ble_eq_true rfl, Nat.le_of_ble_eq_true rfl⟩) (Sub.takeL _ _ (Sub.skipL _ (Sub.skipL _ (Sub.skipL _ (Sub.skipL _ (Sub.skipL _ (Sub.skipL _ (Sub.skipL _ (Sub.takeLast _ _ _))))))))) 0 10 rfl rfl rfl rfl hl.1 rfl (Nat.le_of_ble_eq_true rfl) dL_law_972 lwRm (fun H locs hW => ?_)
  refine lv_aload_n hC.1 hC.2.1 dL_law_975 rfl (lv_at hl 2 rfl) ?_
  refine lv_aload_n hC.1 hC.2.1 dL_law_976 rfl (lv_at hl 0 rfl) ?_
  refine lv_iload_n hC.1 hC.2.1 dL_law_977 rfl (lv_at hl 3 rfl) ?_
  refine lv_iconst (v := 1) hC.1 hC.2.1 dL_law_978 (by decide) ?_
  refine lv_iadd hC.1 hC.2.1 dL_law_979 ?_
  refine va_sld hC.1 hC.2.1 hX hbl hbA hW.2.2.2.1 hi1 dL_law_980 ?_
  refine lv_nmi ea1 ?_
  refine lv_aload_n hC.1 hC.2.1 dL_law_981 rfl (lv_at hl 0 rfl) ?_
  refine lv_iload_n hC.1 hC.2.1 dL_law_982 rfl (lv_at hl 3 rfl) ?_
  refine lv_iconst (v := 2) hC.1 hC.2.1 dL_law_983 (by decide) ?_
  refine lv_iadd hC.1 hC.2.1 dL_law_984 ?_
  refine va_sld hC.1 hC.2.1 hX hbl hbA hW.2.2.2.1 hi2 dL_law_985 ?_
  refine lv_nmi ea2 ?_
  refine g_calliV (w' := AW cy u gi cs aM sm1) hC hW (c12_bill l D cy ad aM hf12) (cwV 2 hC.2.2.2.2.1 gL_law_X12_bill rfl rfl rfl hdV12_bill ⟨Nat.le_of_ble_eq_true rfl, Nat.le_of_ble_eq_true rfl⟩) (Sub.skipL _ (Sub.skipL _ (Sub.skipL _ (Sub.skipL _ (Sub.skipL _ (Sub.skipL _ (Sub.skipL _ (Sub.skipL _ (Sub.skipL _ (Sub.skipL _ (Sub.skipL _ (Sub.skipL _ (Sub.skipL _ (Sub.skipL _ (Sub.skipL _ (Sub.skipL _ (Sub.skipL _ (Sub.all _ _)))))))))))))))))) 0 11 rfl rfl rfl rfl hl.1 rfl (Nat.le_of_ble_eq_true rfl) dL_law_986 lwRm (fun H locs hW => ?_)
  refine lv_icmp_eq (tgt := 1165) hC.1 hC.2.1 dL_law_989 (by decide) (fun _ => ?_) (fun hc => absurd rfl hc)
  exact next _ _ u gi H locs ls hI1 hW hl
set_option maxRecDepth 100000 in
set_option maxHeartbeats 8000000 in
theorem law_beds (hC : Cx p s m #[Value.ref b] meth c code 4 wsL_law RL ret) (hX : va_X b L xs s s.heap) (hbl : b < s.heap.size) (hbA : ¬ A b) (hL : L ≤ 3584) (hi : i + 7 ≤ L) (hS : St_beds Inv) (next : ∀ (cs : Nat → Ob) (sm : Ob) (u : Nat → Nat → Nat) (gi : Value) (H : Heap) (locs : List Loc) (ls : Array Slot), Inv cs sm → GW D cy ad (AW cy u gi cs aM sm) A s H locs → lv_has ls 4 [(0, .ref b), (1, .ref (u 0 0)), (2, .ref (aM 0)), (3, .int (nI i))] → W p l e room_1 s m #[Value.ref b] below meth c H locs lwC lwS (lw_Z below #[Value.ref b] s) (F0 m 1165 ls [])) : ∀ (cs : Nat → Ob) (sm : Ob) (u : Nat → Nat → Nat) (gi : Value) (H : Heap) (locs : List Loc) (ls : Array Slot), Inv cs sm → GW D cy ad (AW cy u gi cs aM sm) A s H locs → lv_has ls 4 [(0, .ref b), (1, .ref (u 0 0)), (2, .ref (aM 0)), (3, .int (nI i))] → W p l e room_1 s m #[Value.ref b] below meth c H locs lwC lwS (lw_Z below #[Value.ref b] s) (F0 m 994 ls []) := by
  intro cs sm u gi H locs ls hI hW hl
  have hi1 : vp_in (nI i + 1) L := lw_in (j := 1) (by omega) (by omega)
  obtain ⟨a1, ea1⟩ : ∃ y : Int32, y = xs (Int32.toNatClampNeg (nI i + 1)) := ⟨_, rfl⟩
  refine lv_aload_n hC.1 hC.2.1 dL_law_994 rfl (lv_at hl 1 rfl) ?_
  refine lv_aload_n hC.1 hC.2.1 dL_law_995 rfl (lv_at hl 0 rfl) ?_
  refine lv_iload_n hC.1 hC.2.1 dL_law_996 rfl (lv_at hl 3 rfl) ?_
  refine lv_iconst (v := 1) hC.1 hC.2.1 dL_law_997 (by decide) ?_
  refine lv_iadd hC.1 hC.2.1 dL_law_998 ?_
  refine va_sld hC.1 hC.2.1 hX hbl hbA hW.2.2.2.1 hi1 dL_law_999 ?_
  refine lv_nmi ea1 ?_
  obtain ⟨r, SL, sm1, hf11, hf12, hI1⟩ := hS cs sm a1 hI 
  refine g_calliV (w' := AW cy u gi (va_up cs 7 SL) aM sm) hC hW (c11_beds l D cy ad (u 0) (u 3) (u 1) (u 8) (u 9) (u 15) (u 16) (u 10) (u 5) (u 6) (u 7) (u 11) (u 12) (u 13) (u 14) hf11) (cwV 1 hC.2.2.2.2.1 gL_law_X11_beds rfl rfl rfl hdV11_beds ⟨Nat.le_of_ble_eq_true rfl, Nat.le_of_ble_eq_true rfl⟩) (Sub.takeL _ _ (Sub.skipL _ (Sub.skipL _ (Sub.skipL _ (Sub.skipL _ (Sub.skipL _ (Sub.skipL _ (Sub.takeL _ _ (Sub.takeLast _ _ _))))))))) 0 10 rfl rfl rfl rfl hl.1 rfl (Nat.le_of_ble_eq_true rfl) dL_law_1000 lwRm (fun H locs hW => ?_)
  refine lv_aload_n hC.1 hC.2.1 dL_law_1003 rfl (lv_at hl 2 rfl) ?_
  refine lv_aload_n hC.1 hC.2.1 dL_law_1004 rfl (lv_at hl 0 rfl) ?_
  refine lv_iload_n hC.1 hC.2.1 dL_law_1005 rfl (lv_at hl 3 rfl) ?_
  refine lv_iconst (v := 1) hC.1 hC.2.1 dL_law_1006 (by decide) ?_
  refine lv_iadd hC.1 hC.2.1 dL_law_1007 ?_
  refine va_sld hC.1 hC.2.1 hX hbl hbA hW.2.2.2.1 hi1 dL_law_1008 ?_
  refine lv_nmi ea1 ?_
  refine g_calliV (w' := AW cy u gi (va_up cs 7 SL) aM sm1) hC hW (c12_beds l D cy ad aM hf12) (cwV 1 hC.2.2.2.2.1 gL_law_X12_beds rfl rfl rfl hdV12_beds ⟨Nat.le_of_ble_eq_true rfl, Nat.le_of_ble_eq_true rfl⟩) (Sub.skipL _ (Sub.skipL _ (Sub.skipL _ (Sub.skipL _ (Sub.skipL _ (Sub.skipL _ (Sub.skipL _ (Sub.skipL _ (Sub.skipL _ (Sub.skipL _ (Sub.skipL _ (Sub.skipL _ (Sub.skipL _ (Sub.skipL _ (Sub.skipL _ (Sub.skipL _ (Sub.skipL _ (Sub.all _ _)))))))))))))))))) 0 11 rfl rfl rfl rfl hl.1 rfl (Nat.le_of_ble_eq_true rfl) dL_law_1009 lwRm (fun H locs hW => ?_)
  refine lv_icmp_eq (tgt := 1165) hC.1 hC.2.1 dL_law_1012 (by decide) (fun _ => ?_) (fun hc => absurd rfl hc)
  exact next _ _ u gi H locs ls hI1 hW hl
set_option maxRecDepth 100000 in
set_option maxHeartbeats 8000000 in
theorem law_watch (hC : Cx p s m #[Value.ref b] meth c code 4 wsL_law RL ret) (hX : va_X b L xs s s.heap) (hbl : b < s.heap.size) (hbA : ¬ A b) (hL : L ≤ 3584) (hi : i + 7 ≤ L) (hS : St_watch Inv) (next : ∀ (cs : Nat → Ob) (sm : Ob) (u : Nat → Nat → Nat) (gi : Value) (H : Heap) (locs : List Loc) (ls : Array Slot), Inv cs sm → GW D cy ad (AW cy u gi cs aM sm) A s H locs → lv_has ls 4 [(0, .ref b), (1, .ref (u 0 0)), (2, .ref (aM 0)), (3, .int (nI i))] → W p l e room_1 s m #[Value.ref b] below meth c H locs lwC lwS (lw_Z below #[Value.ref b] s) (F0 m 1165 ls [])) : ∀ (cs : Nat → Ob) (sm : Ob) (u : Nat → Nat → Nat) (gi : Value) (H : Heap) (locs : List Loc) (ls : Array Slot), Inv cs sm → GW D cy ad (AW cy u gi cs aM sm) A s H locs → lv_has ls 4 [(0, .ref b), (1, .ref (u 0 0)), (2, .ref (aM 0)), (3, .int (nI i))] → W p l e room_1 s m #[Value.ref b] below meth c H locs lwC lwS (lw_Z below #[Value.ref b] s) (F0 m 1017 ls []) := by
  intro cs sm u gi H locs ls hI hW hl
  have hi1 : vp_in (nI i + 1) L := lw_in (j := 1) (by omega) (by omega)
  obtain ⟨a1, ea1⟩ : ∃ y : Int32, y = xs (Int32.toNatClampNeg (nI i + 1)) := ⟨_, rfl⟩
  have hi2 : vp_in (nI i + 2) L := lw_in (j := 2) (by omega) (by omega)
  obtain ⟨a2, ea2⟩ : ∃ y : Int32, y = xs (Int32.toNatClampNeg (nI i + 2)) := ⟨_, rfl⟩
  refine lv_aload_n hC.1 hC.2.1 dL_law_1017 rfl (lv_at hl 1 rfl) ?_
  refine lv_aload_n hC.1 hC.2.1 dL_law_1018 rfl (lv_at hl 0 rfl) ?_
  refine lv_iload_n hC.1 hC.2.1 dL_law_1019 rfl (lv_at hl 3 rfl) ?_
  refine lv_iconst (v := 1) hC.1 hC.2.1 dL_law_1020 (by decide) ?_
  refine lv_iadd hC.1 hC.2.1 dL_law_1021 ?_
  refine va_sld hC.1 hC.2.1 hX hbl hbA hW.2.2.2.1 hi1 dL_law_1022 ?_
  refine lv_nmi ea1 ?_
  refine lv_aload_n hC.1 hC.2.1 dL_law_1023 rfl (lv_at hl 0 rfl) ?_
  refine lv_iload_n hC.1 hC.2.1 dL_law_1024 rfl (lv_at hl 3 rfl) ?_
  refine lv_iconst (v := 2) hC.1 hC.2.1 dL_law_1025 (by decide) ?_
  refine lv_iadd hC.1 hC.2.1 dL_law_1026 ?_
  refine va_sld hC.1 hC.2.1 hX hbl hbA hW.2.2.2.1 hi2 dL_law_1027 ?_
  refine lv_nmi ea2 ?_
  obtain ⟨r, SL, sm1, hf11, hf12, hI1⟩ := hS cs sm a1 a2 hI 
  refine g_calliV (w' := AW cy u gi (va_up cs 7 SL) aM sm) hC hW (c11_watch l D cy ad (u 0) (u 3) (u 1) (u 8) (u 9) (u 15) (u 16) (u 10) (u 5) (u 6) (u 7) (u 11) (u 12) (u 13) (u 14) hf11) (cwV 2 hC.2.2.2.2.1 gL_law_X11_watch rfl rfl rfl hdV11_watch ⟨Nat.le_of_ble_eq_true rfl, Nat.le_of_ble_eq_true rfl⟩) (Sub.takeL _ _ (Sub.skipL _ (Sub.skipL _ (Sub.skipL _ (Sub.skipL _ (Sub.skipL _ (Sub.skipL _ (Sub.takeL _ _ (Sub.takeLast _ _ _))))))))) 0 10 rfl rfl rfl rfl hl.1 rfl (Nat.le_of_ble_eq_true rfl) dL_law_1028 lwRm (fun H locs hW => ?_)
  refine lv_aload_n hC.1 hC.2.1 dL_law_1031 rfl (lv_at hl 2 rfl) ?_
  refine lv_aload_n hC.1 hC.2.1 dL_law_1032 rfl (lv_at hl 0 rfl) ?_
  refine lv_iload_n hC.1 hC.2.1 dL_law_1033 rfl (lv_at hl 3 rfl) ?_
  refine lv_iconst (v := 1) hC.1 hC.2.1 dL_law_1034 (by decide) ?_
  refine lv_iadd hC.1 hC.2.1 dL_law_1035 ?_
  refine va_sld hC.1 hC.2.1 hX hbl hbA hW.2.2.2.1 hi1 dL_law_1036 ?_
  refine lv_nmi ea1 ?_
  refine lv_aload_n hC.1 hC.2.1 dL_law_1037 rfl (lv_at hl 0 rfl) ?_
  refine lv_iload_n hC.1 hC.2.1 dL_law_1038 rfl (lv_at hl 3 rfl) ?_
  refine lv_iconst (v := 2) hC.1 hC.2.1 dL_law_1039 (by decide) ?_
  refine lv_iadd hC.1 hC.2.1 dL_law_1040 ?_
  refine va_sld hC.1 hC.2.1 hX hbl hbA hW.2.2.2.1 hi2 dL_law_1041 ?_
  refine lv_nmi ea2 ?_
  refine g_calliV (w' := AW cy u gi (va_up cs 7 SL) aM sm1) hC hW (c12_watch l D cy ad aM hf12) (cwV 2 hC.2.2.2.2.1 gL_law_X12_watch rfl rfl rfl hdV12_watch ⟨Nat.le_of_ble_eq_true rfl, Nat.le_of_ble_eq_true rfl⟩) (Sub.skipL _ (Sub.skipL _ (Sub.skipL _ (Sub.skipL _ (Sub.skipL _ (Sub.skipL _ (Sub.skipL _ (Sub.skipL _ (Sub.skipL _ (Sub.skipL _ (Sub.skipL _ (Sub.skipL _ (Sub.skipL _ (Sub.skipL _ (Sub.skipL _ (Sub.skipL _ (Sub.skipL _ (Sub.all _ _)))))))))))))))))) 0 11 rfl rfl rfl rfl hl.1 rfl (Nat.le_of_ble_eq_true rfl) dL_law_1042 lwRm (fun H locs hW => ?_)
  refine lv_icmp_eq (tgt := 1165) hC.1 hC.2.1 dL_law_1045 (by decide) (fun _ => ?_) (fun hc => absurd rfl hc)
  exact next _ _ u gi H locs ls hI1 hW hl
set_option maxRecDepth 100000 in
set_option maxHeartbeats 8000000 in
theorem law_years (hC : Cx p s m #[Value.ref b] meth c code 4 wsL_law RL ret) (hX : va_X b L xs s s.heap) (hbl : b < s.heap.size) (hbA : ¬ A b) (hL : L ≤ 3584) (hi : i + 7 ≤ L) (hS : St_years Inv) (next : ∀ (cs : Nat → Ob) (sm : Ob) (u : Nat → Nat → Nat) (gi : Value) (H : Heap) (locs : List Loc) (ls : Array Slot), Inv cs sm → GW D cy ad (AW cy u gi cs aM sm) A s H locs → lv_has ls 4 [(0, .ref b), (1, .ref (u 0 0)), (2, .ref (aM 0)), (3, .int (nI i))] → W p l e room_1 s m #[Value.ref b] below meth c H locs lwC lwS (lw_Z below #[Value.ref b] s) (F0 m 1165 ls [])) : ∀ (cs : Nat → Ob) (sm : Ob) (u : Nat → Nat → Nat) (gi : Value) (H : Heap) (locs : List Loc) (ls : Array Slot), Inv cs sm → GW D cy ad (AW cy u gi cs aM sm) A s H locs → lv_has ls 4 [(0, .ref b), (1, .ref (u 0 0)), (2, .ref (aM 0)), (3, .int (nI i))] → W p l e room_1 s m #[Value.ref b] below meth c H locs lwC lwS (lw_Z below #[Value.ref b] s) (F0 m 1050 ls []) := by
  intro cs sm u gi H locs ls hI hW hl
  have hi1 : vp_in (nI i + 1) L := lw_in (j := 1) (by omega) (by omega)
  obtain ⟨a1, ea1⟩ : ∃ y : Int32, y = xs (Int32.toNatClampNeg (nI i + 1)) := ⟨_, rfl⟩
  have hi2 : vp_in (nI i + 2) L := lw_in (j := 2) (by omega) (by omega)
  obtain ⟨a2, ea2⟩ : ∃ y : Int32, y = xs (Int32.toNatClampNeg (nI i + 2)) := ⟨_, rfl⟩
  have hi3 : vp_in (nI i + 3) L := lw_in (j := 3) (by omega) (by omega)
  obtain ⟨a3, ea3⟩ : ∃ y : Int32, y = xs (Int32.toNatClampNeg (nI i + 3)) := ⟨_, rfl⟩
  refine lv_aload_n hC.1 hC.2.1 dL_law_1050 rfl (lv_at hl 1 rfl) ?_
  refine lv_aload_n hC.1 hC.2.1 dL_law_1051 rfl (lv_at hl 0 rfl) ?_
  refine lv_iload_n hC.1 hC.2.1 dL_law_1052 rfl (lv_at hl 3 rfl) ?_
  refine lv_iconst (v := 1) hC.1 hC.2.1 dL_law_1053 (by decide) ?_
  refine lv_iadd hC.1 hC.2.1 dL_law_1054 ?_
  refine va_sld hC.1 hC.2.1 hX hbl hbA hW.2.2.2.1 hi1 dL_law_1055 ?_
  refine lv_nmi ea1 ?_
  refine lv_aload_n hC.1 hC.2.1 dL_law_1056 rfl (lv_at hl 0 rfl) ?_
  refine lv_iload_n hC.1 hC.2.1 dL_law_1057 rfl (lv_at hl 3 rfl) ?_
  refine lv_iconst (v := 2) hC.1 hC.2.1 dL_law_1058 (by decide) ?_
  refine lv_iadd hC.1 hC.2.1 dL_law_1059 ?_
  refine va_sld hC.1 hC.2.1 hX hbl hbA hW.2.2.2.1 hi2 dL_law_1060 ?_
  refine lv_nmi ea2 ?_
  refine lv_aload_n hC.1 hC.2.1 dL_law_1061 rfl (lv_at hl 0 rfl) ?_
  refine lv_iload_n hC.1 hC.2.1 dL_law_1062 rfl (lv_at hl 3 rfl) ?_
  refine lv_iconst (v := 3) hC.1 hC.2.1 dL_law_1063 (by decide) ?_
  refine lv_iadd hC.1 hC.2.1 dL_law_1064 ?_
  refine va_sld hC.1 hC.2.1 hX hbl hbA hW.2.2.2.1 hi3 dL_law_1065 ?_
  refine lv_nmi ea3 ?_
  obtain ⟨r, sm1, hf11, hf12, hI1⟩ := hS cs sm a1 a2 a3 hI 
  refine g_calliV (w' := AW cy u gi cs aM sm) hC hW (c11_years l D cy ad (u 0) (u 3) (u 1) (u 8) (u 9) (u 15) (u 16) (u 10) (u 5) (u 6) (u 7) (u 11) (u 12) (u 13) (u 14) hf11) (cwV 3 hC.2.2.2.2.1 gL_law_X11_years rfl rfl rfl hdV11_years ⟨Nat.le_of_ble_eq_true rfl, Nat.le_of_ble_eq_true rfl⟩) (Sub.takeL _ _ (Sub.skipL _ (Sub.skipL _ (Sub.skipL _ (Sub.skipL _ (Sub.skipL _ (Sub.skipL _ (Sub.skipL _ (Sub.takeLast _ _ _))))))))) 0 10 rfl rfl rfl rfl hl.1 rfl (Nat.le_of_ble_eq_true rfl) dL_law_1066 lwRm (fun H locs hW => ?_)
  refine lv_aload_n hC.1 hC.2.1 dL_law_1069 rfl (lv_at hl 2 rfl) ?_
  refine lv_aload_n hC.1 hC.2.1 dL_law_1070 rfl (lv_at hl 0 rfl) ?_
  refine lv_iload_n hC.1 hC.2.1 dL_law_1071 rfl (lv_at hl 3 rfl) ?_
  refine lv_iconst (v := 1) hC.1 hC.2.1 dL_law_1072 (by decide) ?_
  refine lv_iadd hC.1 hC.2.1 dL_law_1073 ?_
  refine va_sld hC.1 hC.2.1 hX hbl hbA hW.2.2.2.1 hi1 dL_law_1074 ?_
  refine lv_nmi ea1 ?_
  refine lv_aload_n hC.1 hC.2.1 dL_law_1075 rfl (lv_at hl 0 rfl) ?_
  refine lv_iload_n hC.1 hC.2.1 dL_law_1076 rfl (lv_at hl 3 rfl) ?_
  refine lv_iconst (v := 2) hC.1 hC.2.1 dL_law_1077 (by decide) ?_
  refine lv_iadd hC.1 hC.2.1 dL_law_1078 ?_
  refine va_sld hC.1 hC.2.1 hX hbl hbA hW.2.2.2.1 hi2 dL_law_1079 ?_
  refine lv_nmi ea2 ?_
  refine lv_aload_n hC.1 hC.2.1 dL_law_1080 rfl (lv_at hl 0 rfl) ?_
  refine lv_iload_n hC.1 hC.2.1 dL_law_1081 rfl (lv_at hl 3 rfl) ?_
  refine lv_iconst (v := 3) hC.1 hC.2.1 dL_law_1082 (by decide) ?_
  refine lv_iadd hC.1 hC.2.1 dL_law_1083 ?_
  refine va_sld hC.1 hC.2.1 hX hbl hbA hW.2.2.2.1 hi3 dL_law_1084 ?_
  refine lv_nmi ea3 ?_
  refine g_calliV (w' := AW cy u gi cs aM sm1) hC hW (c12_years l D cy ad aM hf12) (cwV 3 hC.2.2.2.2.1 gL_law_X12_years rfl rfl rfl hdV12_years ⟨Nat.le_of_ble_eq_true rfl, Nat.le_of_ble_eq_true rfl⟩) (Sub.skipL _ (Sub.skipL _ (Sub.skipL _ (Sub.skipL _ (Sub.skipL _ (Sub.skipL _ (Sub.skipL _ (Sub.skipL _ (Sub.skipL _ (Sub.skipL _ (Sub.skipL _ (Sub.skipL _ (Sub.skipL _ (Sub.skipL _ (Sub.skipL _ (Sub.skipL _ (Sub.skipL _ (Sub.all _ _)))))))))))))))))) 0 11 rfl rfl rfl rfl hl.1 rfl (Nat.le_of_ble_eq_true rfl) dL_law_1085 lwRm (fun H locs hW => ?_)
  refine lv_icmp_eq (tgt := 1165) hC.1 hC.2.1 dL_law_1088 (by decide) (fun _ => ?_) (fun hc => absurd rfl hc)
  exact next _ _ u gi H locs ls hI1 hW hl
set_option maxRecDepth 100000 in
set_option maxHeartbeats 8000000 in
theorem law_mark (hC : Cx p s m #[Value.ref b] meth c code 4 wsL_law RL ret) (hX : va_X b L xs s s.heap) (hbl : b < s.heap.size) (hbA : ¬ A b) (hL : L ≤ 3584) (hi : i + 7 ≤ L) (hS : St_mark Inv) (next : ∀ (cs : Nat → Ob) (sm : Ob) (u : Nat → Nat → Nat) (gi : Value) (H : Heap) (locs : List Loc) (ls : Array Slot), Inv cs sm → GW D cy ad (AW cy u gi cs aM sm) A s H locs → lv_has ls 4 [(0, .ref b), (1, .ref (u 0 0)), (2, .ref (aM 0)), (3, .int (nI i))] → W p l e room_1 s m #[Value.ref b] below meth c H locs lwC lwS (lw_Z below #[Value.ref b] s) (F0 m 1165 ls [])) : ∀ (cs : Nat → Ob) (sm : Ob) (u : Nat → Nat → Nat) (gi : Value) (H : Heap) (locs : List Loc) (ls : Array Slot), Inv cs sm → GW D cy ad (AW cy u gi cs aM sm) A s H locs → lv_has ls 4 [(0, .ref b), (1, .ref (u 0 0)), (2, .ref (aM 0)), (3, .int (nI i))] → W p l e room_1 s m #[Value.ref b] below meth c H locs lwC lwS (lw_Z below #[Value.ref b] s) (F0 m 1093 ls []) := by
  intro cs sm u gi H locs ls hI hW hl
  have hi1 : vp_in (nI i + 1) L := lw_in (j := 1) (by omega) (by omega)
  obtain ⟨a1, ea1⟩ : ∃ y : Int32, y = xs (Int32.toNatClampNeg (nI i + 1)) := ⟨_, rfl⟩
  have hi2 : vp_in (nI i + 2) L := lw_in (j := 2) (by omega) (by omega)
  obtain ⟨a2, ea2⟩ : ∃ y : Int32, y = xs (Int32.toNatClampNeg (nI i + 2)) := ⟨_, rfl⟩
  refine lv_aload_n hC.1 hC.2.1 dL_law_1093 rfl (lv_at hl 1 rfl) ?_
  refine lv_aload_n hC.1 hC.2.1 dL_law_1094 rfl (lv_at hl 0 rfl) ?_
  refine lv_iload_n hC.1 hC.2.1 dL_law_1095 rfl (lv_at hl 3 rfl) ?_
  refine lv_iconst (v := 1) hC.1 hC.2.1 dL_law_1096 (by decide) ?_
  refine lv_iadd hC.1 hC.2.1 dL_law_1097 ?_
  refine va_sld hC.1 hC.2.1 hX hbl hbA hW.2.2.2.1 hi1 dL_law_1098 ?_
  refine lv_nmi ea1 ?_
  refine lv_aload_n hC.1 hC.2.1 dL_law_1099 rfl (lv_at hl 0 rfl) ?_
  refine lv_iload_n hC.1 hC.2.1 dL_law_1100 rfl (lv_at hl 3 rfl) ?_
  refine lv_iconst (v := 2) hC.1 hC.2.1 dL_law_1101 (by decide) ?_
  refine lv_iadd hC.1 hC.2.1 dL_law_1102 ?_
  refine va_sld hC.1 hC.2.1 hX hbl hbA hW.2.2.2.1 hi2 dL_law_1103 ?_
  refine lv_nmi ea2 ?_
  refine lv_if_eq (tgt := 1111) hC.1 hC.2.1 dL_law_1104 (by decide) (fun hz1 => ?_) (fun hz1 => ?_)
  · refine lv_iconst (v := 0) hC.1 hC.2.1 dL_law_1111 (by decide) ?_
    obtain ⟨r, SX, SB, SE0, SE1, SE2, SE3, sm1, hf11, hf12, hI1⟩ := hS cs sm a1 0 hI (Or.inl rfl)
    refine g_calliV (w' := AW cy u gi (va_up (va_up (va_up (va_up (va_up (va_up cs 0 SX) 10 SB) 11 SE0) 12 SE1) 13 SE2) 14 SE3) aM sm) hC hW (c11_mark l D cy ad (u 0) (u 3) (u 1) (u 8) (u 9) (u 15) (u 16) (u 10) (u 5) (u 6) (u 7) (u 11) (u 12) (u 13) (u 14) hf11) (cwV 2 hC.2.2.2.2.1 gL_law_X11_mark rfl rfl rfl hdV11_mark ⟨Nat.le_of_ble_eq_true rfl, Nat.le_of_ble_eq_true rfl⟩) (Sub.takeL _ _ (Sub.skipL _ (Sub.skipL _ (Sub.skipL _ (Sub.skipL _ (Sub.skipL _ (Sub.skipL _ (Sub.skipL _ (Sub.skipL _ (Sub.skipL _ (Sub.takeL _ _ (Sub.takeL _ _ (Sub.takeL _ _ (Sub.takeL _ _ (Sub.takeLast _ _ _))))))))))))))) 0 10 rfl rfl rfl rfl hl.1 rfl (Nat.le_of_ble_eq_true rfl) dL_law_1112 lwRm (fun H locs hW => ?_)
    refine lv_aload_n hC.1 hC.2.1 dL_law_1115 rfl (lv_at hl 2 rfl) ?_
    refine lv_aload_n hC.1 hC.2.1 dL_law_1116 rfl (lv_at hl 0 rfl) ?_
    refine lv_iload_n hC.1 hC.2.1 dL_law_1117 rfl (lv_at hl 3 rfl) ?_
    refine lv_iconst (v := 1) hC.1 hC.2.1 dL_law_1118 (by decide) ?_
    refine lv_iadd hC.1 hC.2.1 dL_law_1119 ?_
    refine va_sld hC.1 hC.2.1 hX hbl hbA hW.2.2.2.1 hi1 dL_law_1120 ?_
    refine lv_nmi ea1 ?_
    refine lv_aload_n hC.1 hC.2.1 dL_law_1121 rfl (lv_at hl 0 rfl) ?_
    refine lv_iload_n hC.1 hC.2.1 dL_law_1122 rfl (lv_at hl 3 rfl) ?_
    refine lv_iconst (v := 2) hC.1 hC.2.1 dL_law_1123 (by decide) ?_
    refine lv_iadd hC.1 hC.2.1 dL_law_1124 ?_
    refine va_sld hC.1 hC.2.1 hX hbl hbA hW.2.2.2.1 hi2 dL_law_1125 ?_
    refine lv_nmi ea2 ?_
    refine lv_if_eq (tgt := 1133) hC.1 hC.2.1 dL_law_1126 (by decide) (fun _ => ?_) (fun hc => absurd hz1 hc)
    refine lv_iconst (v := 0) hC.1 hC.2.1 dL_law_1133 (by decide) ?_
    refine g_calliV (w' := AW cy u gi (va_up (va_up (va_up (va_up (va_up (va_up cs 0 SX) 10 SB) 11 SE0) 12 SE1) 13 SE2) 14 SE3) aM sm1) hC hW (c12_mark l D cy ad aM hf12) (cwV 2 hC.2.2.2.2.1 gL_law_X12_mark rfl rfl rfl hdV12_mark ⟨Nat.le_of_ble_eq_true rfl, Nat.le_of_ble_eq_true rfl⟩) (Sub.skipL _ (Sub.skipL _ (Sub.skipL _ (Sub.skipL _ (Sub.skipL _ (Sub.skipL _ (Sub.skipL _ (Sub.skipL _ (Sub.skipL _ (Sub.skipL _ (Sub.skipL _ (Sub.skipL _ (Sub.skipL _ (Sub.skipL _ (Sub.skipL _ (Sub.skipL _ (Sub.skipL _ (Sub.all _ _)))))))))))))))))) 0 11 rfl rfl rfl rfl hl.1 rfl (Nat.le_of_ble_eq_true rfl) dL_law_1134 lwRm (fun H locs hW => ?_)
    refine lv_icmp_eq (tgt := 1165) hC.1 hC.2.1 dL_law_1137 (by decide) (fun _ => ?_) (fun hc => absurd rfl hc)
    exact next _ _ u gi H locs ls hI1 hW hl
  · refine lv_iconst (v := 1) hC.1 hC.2.1 dL_law_1107 (by decide) ?_
    refine lv_goto (tgt := 1112) hC.1 hC.2.1 dL_law_1108 (by decide) ?_
    obtain ⟨r, SX, SB, SE0, SE1, SE2, SE3, sm1, hf11, hf12, hI1⟩ := hS cs sm a1 1 hI (Or.inr rfl)
    refine g_calliV (w' := AW cy u gi (va_up (va_up (va_up (va_up (va_up (va_up cs 0 SX) 10 SB) 11 SE0) 12 SE1) 13 SE2) 14 SE3) aM sm) hC hW (c11_mark l D cy ad (u 0) (u 3) (u 1) (u 8) (u 9) (u 15) (u 16) (u 10) (u 5) (u 6) (u 7) (u 11) (u 12) (u 13) (u 14) hf11) (cwV 2 hC.2.2.2.2.1 gL_law_X11_mark rfl rfl rfl hdV11_mark ⟨Nat.le_of_ble_eq_true rfl, Nat.le_of_ble_eq_true rfl⟩) (Sub.takeL _ _ (Sub.skipL _ (Sub.skipL _ (Sub.skipL _ (Sub.skipL _ (Sub.skipL _ (Sub.skipL _ (Sub.skipL _ (Sub.skipL _ (Sub.skipL _ (Sub.takeL _ _ (Sub.takeL _ _ (Sub.takeL _ _ (Sub.takeL _ _ (Sub.takeLast _ _ _))))))))))))))) 0 10 rfl rfl rfl rfl hl.1 rfl (Nat.le_of_ble_eq_true rfl) dL_law_1112 lwRm (fun H locs hW => ?_)
    refine lv_aload_n hC.1 hC.2.1 dL_law_1115 rfl (lv_at hl 2 rfl) ?_
    refine lv_aload_n hC.1 hC.2.1 dL_law_1116 rfl (lv_at hl 0 rfl) ?_
    refine lv_iload_n hC.1 hC.2.1 dL_law_1117 rfl (lv_at hl 3 rfl) ?_
    refine lv_iconst (v := 1) hC.1 hC.2.1 dL_law_1118 (by decide) ?_
    refine lv_iadd hC.1 hC.2.1 dL_law_1119 ?_
    refine va_sld hC.1 hC.2.1 hX hbl hbA hW.2.2.2.1 hi1 dL_law_1120 ?_
    refine lv_nmi ea1 ?_
    refine lv_aload_n hC.1 hC.2.1 dL_law_1121 rfl (lv_at hl 0 rfl) ?_
    refine lv_iload_n hC.1 hC.2.1 dL_law_1122 rfl (lv_at hl 3 rfl) ?_
    refine lv_iconst (v := 2) hC.1 hC.2.1 dL_law_1123 (by decide) ?_
    refine lv_iadd hC.1 hC.2.1 dL_law_1124 ?_
    refine va_sld hC.1 hC.2.1 hX hbl hbA hW.2.2.2.1 hi2 dL_law_1125 ?_
    refine lv_nmi ea2 ?_
    refine lv_if_eq (tgt := 1133) hC.1 hC.2.1 dL_law_1126 (by decide) (fun hc => absurd hc hz1) (fun _ => ?_)
    refine lv_iconst (v := 1) hC.1 hC.2.1 dL_law_1129 (by decide) ?_
    refine lv_goto (tgt := 1134) hC.1 hC.2.1 dL_law_1130 (by decide) ?_
    refine g_calliV (w' := AW cy u gi (va_up (va_up (va_up (va_up (va_up (va_up cs 0 SX) 10 SB) 11 SE0) 12 SE1) 13 SE2) 14 SE3) aM sm1) hC hW (c12_mark l D cy ad aM hf12) (cwV 2 hC.2.2.2.2.1 gL_law_X12_mark rfl rfl rfl hdV12_mark ⟨Nat.le_of_ble_eq_true rfl, Nat.le_of_ble_eq_true rfl⟩) (Sub.skipL _ (Sub.skipL _ (Sub.skipL _ (Sub.skipL _ (Sub.skipL _ (Sub.skipL _ (Sub.skipL _ (Sub.skipL _ (Sub.skipL _ (Sub.skipL _ (Sub.skipL _ (Sub.skipL _ (Sub.skipL _ (Sub.skipL _ (Sub.skipL _ (Sub.skipL _ (Sub.skipL _ (Sub.all _ _)))))))))))))))))) 0 11 rfl rfl rfl rfl hl.1 rfl (Nat.le_of_ble_eq_true rfl) dL_law_1134 lwRm (fun H locs hW => ?_)
    refine lv_icmp_eq (tgt := 1165) hC.1 hC.2.1 dL_law_1137 (by decide) (fun _ => ?_) (fun hc => absurd rfl hc)
    exact next _ _ u gi H locs ls hI1 hW hl
set_option maxRecDepth 100000 in
set_option maxHeartbeats 8000000 in
theorem law_count (hC : Cx p s m #[Value.ref b] meth c code 4 wsL_law RL ret) (hX : va_X b L xs s s.heap) (hbl : b < s.heap.size) (hbA : ¬ A b) (hL : L ≤ 3584) (hi : i + 7 ≤ L) (hS : St_count Inv) (next : ∀ (cs : Nat → Ob) (sm : Ob) (u : Nat → Nat → Nat) (gi : Value) (H : Heap) (locs : List Loc) (ls : Array Slot), Inv cs sm → GW D cy ad (AW cy u gi cs aM sm) A s H locs → lv_has ls 4 [(0, .ref b), (1, .ref (u 0 0)), (2, .ref (aM 0)), (3, .int (nI i))] → W p l e room_1 s m #[Value.ref b] below meth c H locs lwC lwS (lw_Z below #[Value.ref b] s) (F0 m 1165 ls [])) : ∀ (cs : Nat → Ob) (sm : Ob) (u : Nat → Nat → Nat) (gi : Value) (H : Heap) (locs : List Loc) (ls : Array Slot), Inv cs sm → GW D cy ad (AW cy u gi cs aM sm) A s H locs → lv_has ls 4 [(0, .ref b), (1, .ref (u 0 0)), (2, .ref (aM 0)), (3, .int (nI i))] → W p l e room_1 s m #[Value.ref b] below meth c H locs lwC lwS (lw_Z below #[Value.ref b] s) (F0 m 1142 ls []) := by
  intro cs sm u gi H locs ls hI hW hl
  have hi1 : vp_in (nI i + 1) L := lw_in (j := 1) (by omega) (by omega)
  obtain ⟨a1, ea1⟩ : ∃ y : Int32, y = xs (Int32.toNatClampNeg (nI i + 1)) := ⟨_, rfl⟩
  refine lv_aload_n hC.1 hC.2.1 dL_law_1142 rfl (lv_at hl 1 rfl) ?_
  refine lv_aload_n hC.1 hC.2.1 dL_law_1143 rfl (lv_at hl 0 rfl) ?_
  refine lv_iload_n hC.1 hC.2.1 dL_law_1144 rfl (lv_at hl 3 rfl) ?_
  refine lv_iconst (v := 1) hC.1 hC.2.1 dL_law_1145 (by decide) ?_
  refine lv_iadd hC.1 hC.2.1 dL_law_1146 ?_
  refine va_sld hC.1 hC.2.1 hX hbl hbA hW.2.2.2.1 hi1 dL_law_1147 ?_
  refine lv_nmi ea1 ?_
  obtain ⟨r, sm1, hf11, hf12, hI1⟩ := hS cs sm a1 hI 
  refine g_calliV (w' := AW cy u gi cs aM sm) hC hW (c11_count l D cy ad (u 0) (u 3) (u 1) (u 8) (u 9) (u 15) (u 16) (u 10) (u 5) (u 6) (u 7) (u 11) (u 12) (u 13) (u 14) hf11) (cwV 1 hC.2.2.2.2.1 gL_law_X11_count rfl rfl rfl hdV11_count ⟨Nat.le_of_ble_eq_true rfl, Nat.le_of_ble_eq_true rfl⟩) (Sub.takeL _ _ (Sub.skipL _ (Sub.skipL _ (Sub.takeL _ _ (Sub.skipL _ (Sub.skipL _ (Sub.skipL _ (Sub.skipL _ (Sub.takeL _ _ (Sub.skipL _ (Sub.takeL _ _ (Sub.skipL _ (Sub.skipL _ (Sub.skipL _ (Sub.skipL _ (Sub.takeLast _ _ _)))))))))))))))) 0 10 rfl rfl rfl rfl hl.1 rfl (Nat.le_of_ble_eq_true rfl) dL_law_1148 lwRm (fun H locs hW => ?_)
  refine lv_aload_n hC.1 hC.2.1 dL_law_1151 rfl (lv_at hl 2 rfl) ?_
  refine lv_aload_n hC.1 hC.2.1 dL_law_1152 rfl (lv_at hl 0 rfl) ?_
  refine lv_iload_n hC.1 hC.2.1 dL_law_1153 rfl (lv_at hl 3 rfl) ?_
  refine lv_iconst (v := 1) hC.1 hC.2.1 dL_law_1154 (by decide) ?_
  refine lv_iadd hC.1 hC.2.1 dL_law_1155 ?_
  refine va_sld hC.1 hC.2.1 hX hbl hbA hW.2.2.2.1 hi1 dL_law_1156 ?_
  refine lv_nmi ea1 ?_
  refine g_calliV (w' := AW cy u gi cs aM sm1) hC hW (c12_count l D cy ad aM hf12) (cwV 1 hC.2.2.2.2.1 gL_law_X12_count rfl rfl rfl hdV12_count ⟨Nat.le_of_ble_eq_true rfl, Nat.le_of_ble_eq_true rfl⟩) (Sub.skipL _ (Sub.skipL _ (Sub.skipL _ (Sub.skipL _ (Sub.skipL _ (Sub.skipL _ (Sub.skipL _ (Sub.skipL _ (Sub.skipL _ (Sub.skipL _ (Sub.skipL _ (Sub.skipL _ (Sub.skipL _ (Sub.skipL _ (Sub.skipL _ (Sub.skipL _ (Sub.skipL _ (Sub.all _ _)))))))))))))))))) 0 11 rfl rfl rfl rfl hl.1 rfl (Nat.le_of_ble_eq_true rfl) dL_law_1157 lwRm (fun H locs hW => ?_)
  refine lv_icmp_eq (tgt := 1165) hC.1 hC.2.1 dL_law_1160 (by decide) (fun _ => ?_) (fun hc => absurd rfl hc)
  exact next _ _ u gi H locs ls hI1 hW hl
end
