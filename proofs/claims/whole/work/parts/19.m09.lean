/-! laid by program: functions, walks and contracts of 12_ask, 12_fewest, 12_tellsAll, 12_tell, 12_viewIn, 12_isLeft, 12_knows -/
set_option maxRecDepth 20000 in
theorem gX12_ask_X12_whoIn : GoodIn wsX12_ask (wsV RX12 384 RX12 yX12_whoIn wsX12_whoIn) := goodIn_r _ [3, 4, 5, 6, 7, 8, 9, 10, 6, 11, 12, 13, 14, 15, 43, 44, 45, 46, 47, 48, 49, 50, 51, 52, 53, 54, 55, 56, 57, 58, 59, 60, 61, 62, 63, 64, 65, 66, 67, 68, 69, 70, 71, 72, 73, 74, 75, 76, 77, 78, 79, 80, 81] rfl (by decide +kernel)
set_option maxRecDepth 20000 in
theorem gX12_ask_X12_bits : GoodIn wsX12_ask (va_wsS RX12 371 yX12_bits wsX12_bits) := goodIn_r _ [16, 17, 6, 18] rfl (by decide +kernel)
set_option maxRecDepth 20000 in
theorem gX12_ask_X12_isGuest : GoodIn wsX12_ask (wsV RX12 365 RX12 yX12_isGuest wsX12_isGuest) := goodIn_r _ [19, 20, 21, 6, 22, 8, 9, 10, 6, 11, 12, 43, 44, 45, 46, 47, 48, 49, 50, 51, 52, 53, 54, 55, 56, 57, 58, 59, 60, 61, 62, 63, 64, 65, 66, 67, 68, 69, 70, 71, 72, 73, 74, 75, 76, 77, 78, 79, 80, 81] rfl (by decide +kernel)
set_option maxRecDepth 20000 in
theorem gX12_ask_X12_answerIn : GoodIn wsX12_ask (wsV RX12 377 RX12 yX12_answerIn wsX12_answerIn) := goodIn_r _ [23, 24, 25, 6, 26, 13, 14, 6, 15, 27, 28, 29, 30, 31, 32, 33, 34, 8, 9, 10, 11, 12, 35, 36, 37, 38, 39, 40, 41, 42, 43, 44, 45, 46, 47, 48, 49, 50, 51, 52, 53, 54, 55, 56, 57, 58, 59, 60, 61, 62, 63, 64, 65, 66, 67, 68, 69, 70, 71, 72, 73, 74, 75, 76, 77, 78, 79, 80, 81] rfl (by decide +kernel)
theorem dX12_ask_0 : decode cX12_ask 0 = .ok (.aload_n 0, 1) := by decide +kernel
theorem dX12_ask_1 : decode cX12_ask 1 = .ok (.iconst 0, 1) := by decide +kernel
theorem dX12_ask_2 : decode cX12_ask 2 = .ok (.putfield 1, 3) := by decide +kernel
theorem dX12_ask_5 : decode cX12_ask 5 = .ok (.iconst (-1), 1) := by decide +kernel
theorem dX12_ask_6 : decode cX12_ask 6 = .ok (.istore_n 1, 1) := by decide +kernel
theorem dX12_ask_7 : decode cX12_ask 7 = .ok (.aload_n 0, 1) := by decide +kernel
theorem dX12_ask_8 : decode cX12_ask 8 = .ok (.aload_n 0, 1) := by decide +kernel
theorem dX12_ask_9 : decode cX12_ask 9 = .ok (.getfield 131, 3) := by decide +kernel
theorem dX12_ask_12 : decode cX12_ask 12 = .ok (.iconst 0, 1) := by decide +kernel
theorem dX12_ask_13 : decode cX12_ask 13 = .ok (.iaload, 1) := by decide +kernel
theorem dX12_ask_14 : decode cX12_ask 14 = .ok (.invokevirtual 384, 3) := by decide +kernel
theorem dX12_ask_17 : decode cX12_ask 17 = .ok (.invokestatic 371, 3) := by decide +kernel
theorem dX12_ask_20 : decode cX12_ask 20 = .ok (.istore_n 2, 1) := by decide +kernel
theorem dX12_ask_21 : decode cX12_ask 21 = .ok (.iconst 0, 1) := by decide +kernel
theorem dX12_ask_22 : decode cX12_ask 22 = .ok (.istore_n 3, 1) := by decide +kernel
theorem dX12_ask_23 : decode cX12_ask 23 = .ok (.iload_n 3, 1) := by decide +kernel
theorem dX12_ask_24 : decode cX12_ask 24 = .ok (.bipush 64, 2) := by decide +kernel
theorem dX12_ask_26 : decode cX12_ask 26 = .ok (.if_icmp .ge 130, 3) := by decide +kernel
theorem dX12_ask_29 : decode cX12_ask 29 = .ok (.aload_n 0, 1) := by decide +kernel
theorem dX12_ask_30 : decode cX12_ask 30 = .ok (.iload_n 3, 1) := by decide +kernel
theorem dX12_ask_31 : decode cX12_ask 31 = .ok (.bipush 8, 2) := by decide +kernel
theorem dX12_ask_33 : decode cX12_ask 33 = .ok (.idiv, 1) := by decide +kernel
theorem dX12_ask_34 : decode cX12_ask 34 = .ok (.invokevirtual 365, 3) := by decide +kernel
theorem dX12_ask_37 : decode cX12_ask 37 = .ok (.ifCond .eq 113, 3) := by decide +kernel
theorem dX12_ask_40 : decode cX12_ask 40 = .ok (.aload_n 0, 1) := by decide +kernel
theorem dX12_ask_41 : decode cX12_ask 41 = .ok (.iload_n 3, 1) := by decide +kernel
theorem dX12_ask_42 : decode cX12_ask 42 = .ok (.bipush 8, 2) := by decide +kernel
theorem dX12_ask_44 : decode cX12_ask 44 = .ok (.irem, 1) := by decide +kernel
theorem dX12_ask_45 : decode cX12_ask 45 = .ok (.invokevirtual 365, 3) := by decide +kernel
theorem dX12_ask_48 : decode cX12_ask 48 = .ok (.ifCond .eq 102, 3) := by decide +kernel
theorem dX12_ask_51 : decode cX12_ask 51 = .ok (.aload_n 0, 1) := by decide +kernel
theorem dX12_ask_52 : decode cX12_ask 52 = .ok (.aload_n 0, 1) := by decide +kernel
theorem dX12_ask_53 : decode cX12_ask 53 = .ok (.getfield 131, 3) := by decide +kernel
theorem dX12_ask_56 : decode cX12_ask 56 = .ok (.iconst 0, 1) := by decide +kernel
theorem dX12_ask_57 : decode cX12_ask 57 = .ok (.iaload, 1) := by decide +kernel
theorem dX12_ask_58 : decode cX12_ask 58 = .ok (.aload_n 0, 1) := by decide +kernel
theorem dX12_ask_59 : decode cX12_ask 59 = .ok (.iload_n 3, 1) := by decide +kernel
theorem dX12_ask_60 : decode cX12_ask 60 = .ok (.bipush 8, 2) := by decide +kernel
theorem dX12_ask_62 : decode cX12_ask 62 = .ok (.idiv, 1) := by decide +kernel
theorem dX12_ask_63 : decode cX12_ask 63 = .ok (.iload_n 3, 1) := by decide +kernel
theorem dX12_ask_64 : decode cX12_ask 64 = .ok (.bipush 8, 2) := by decide +kernel
theorem dX12_ask_66 : decode cX12_ask 66 = .ok (.irem, 1) := by decide +kernel
theorem dX12_ask_67 : decode cX12_ask 67 = .ok (.iconst 1, 1) := by decide +kernel
theorem dX12_ask_68 : decode cX12_ask 68 = .ok (.invokevirtual 377, 3) := by decide +kernel
theorem dX12_ask_71 : decode cX12_ask 71 = .ok (.iand, 1) := by decide +kernel
theorem dX12_ask_72 : decode cX12_ask 72 = .ok (.invokevirtual 384, 3) := by decide +kernel
theorem dX12_ask_75 : decode cX12_ask 75 = .ok (.invokestatic 371, 3) := by decide +kernel
theorem dX12_ask_78 : decode cX12_ask 78 = .ok (.istore 4, 2) := by decide +kernel
theorem dX12_ask_80 : decode cX12_ask 80 = .ok (.aload_n 0, 1) := by decide +kernel
theorem dX12_ask_81 : decode cX12_ask 81 = .ok (.aload_n 0, 1) := by decide +kernel
theorem dX12_ask_82 : decode cX12_ask 82 = .ok (.getfield 131, 3) := by decide +kernel
theorem dX12_ask_85 : decode cX12_ask 85 = .ok (.iconst 0, 1) := by decide +kernel
theorem dX12_ask_86 : decode cX12_ask 86 = .ok (.iaload, 1) := by decide +kernel
theorem dX12_ask_87 : decode cX12_ask 87 = .ok (.aload_n 0, 1) := by decide +kernel
theorem dX12_ask_88 : decode cX12_ask 88 = .ok (.iload_n 3, 1) := by decide +kernel
theorem dX12_ask_89 : decode cX12_ask 89 = .ok (.bipush 8, 2) := by decide +kernel
theorem dX12_ask_91 : decode cX12_ask 91 = .ok (.idiv, 1) := by decide +kernel
theorem dX12_ask_92 : decode cX12_ask 92 = .ok (.iload_n 3, 1) := by decide +kernel
theorem dX12_ask_93 : decode cX12_ask 93 = .ok (.bipush 8, 2) := by decide +kernel
theorem dX12_ask_95 : decode cX12_ask 95 = .ok (.irem, 1) := by decide +kernel
theorem dX12_ask_96 : decode cX12_ask 96 = .ok (.iconst 0, 1) := by decide +kernel
theorem dX12_ask_97 : decode cX12_ask 97 = .ok (.invokevirtual 377, 3) := by decide +kernel
theorem dX12_ask_100 : decode cX12_ask 100 = .ok (.iand, 1) := by decide +kernel
theorem dX12_ask_101 : decode cX12_ask 101 = .ok (.invokevirtual 384, 3) := by decide +kernel
theorem dX12_ask_104 : decode cX12_ask 104 = .ok (.invokestatic 371, 3) := by decide +kernel
theorem dX12_ask_107 : decode cX12_ask 107 = .ok (.istore 5, 2) := by decide +kernel
theorem dX12_ask_109 : decode cX12_ask 109 = .ok (.iload 4, 2) := by decide +kernel
theorem dX12_ask_111 : decode cX12_ask 111 = .ok (.iload 5, 2) := by decide +kernel
theorem dX12_ask_113 : decode cX12_ask 113 = .ok (.if_icmp .le 8, 3) := by decide +kernel
theorem dX12_ask_116 : decode cX12_ask 116 = .ok (.iload 4, 2) := by decide +kernel
theorem dX12_ask_118 : decode cX12_ask 118 = .ok (.goto 5, 3) := by decide +kernel
theorem dX12_ask_121 : decode cX12_ask 121 = .ok (.iload 5, 2) := by decide +kernel
theorem dX12_ask_123 : decode cX12_ask 123 = .ok (.istore 6, 2) := by decide +kernel
theorem dX12_ask_125 : decode cX12_ask 125 = .ok (.iload 6, 2) := by decide +kernel
theorem dX12_ask_127 : decode cX12_ask 127 = .ok (.iload_n 2, 1) := by decide +kernel
theorem dX12_ask_128 : decode cX12_ask 128 = .ok (.if_icmp .ge 7, 3) := by decide +kernel
theorem dX12_ask_131 : decode cX12_ask 131 = .ok (.iload_n 3, 1) := by decide +kernel
theorem dX12_ask_132 : decode cX12_ask 132 = .ok (.goto 4, 3) := by decide +kernel
theorem dX12_ask_135 : decode cX12_ask 135 = .ok (.iload_n 1, 1) := by decide +kernel
theorem dX12_ask_136 : decode cX12_ask 136 = .ok (.istore_n 1, 1) := by decide +kernel
theorem dX12_ask_137 : decode cX12_ask 137 = .ok (.iload 6, 2) := by decide +kernel
theorem dX12_ask_139 : decode cX12_ask 139 = .ok (.iload_n 2, 1) := by decide +kernel
theorem dX12_ask_140 : decode cX12_ask 140 = .ok (.if_icmp .ge 8, 3) := by decide +kernel
theorem dX12_ask_143 : decode cX12_ask 143 = .ok (.iload 6, 2) := by decide +kernel
theorem dX12_ask_145 : decode cX12_ask 145 = .ok (.goto 4, 3) := by decide +kernel
theorem dX12_ask_148 : decode cX12_ask 148 = .ok (.iload_n 2, 1) := by decide +kernel
theorem dX12_ask_149 : decode cX12_ask 149 = .ok (.istore_n 2, 1) := by decide +kernel
theorem dX12_ask_150 : decode cX12_ask 150 = .ok (.iinc 3 1, 3) := by decide +kernel
theorem dX12_ask_153 : decode cX12_ask 153 = .ok (.goto (-130), 3) := by decide +kernel
theorem dX12_ask_156 : decode cX12_ask 156 = .ok (.iload_n 1, 1) := by decide +kernel
theorem dX12_ask_157 : decode cX12_ask 157 = .ok (.ireturn, 1) := by decide +kernel
set_option maxRecDepth 20000 in
theorem gX12_fewest_X12_guests : GoodIn wsX12_fewest (wsV RX12 328 RX12 yX12_guests wsX12_guests) := goodIn_r _ [5, 6, 7, 8, 9, 10, 45, 46, 47, 48, 49, 50, 51, 52, 53, 54, 55, 56, 57, 58, 59, 60, 61, 62, 63, 64, 65, 66, 67, 68, 69, 70, 71, 72, 73, 74, 75, 76, 77, 78, 79, 80, 81, 82, 83] rfl (by decide +kernel)
set_option maxRecDepth 20000 in
theorem gX12_fewest_X12_alone : GoodIn wsX12_fewest (va_wsS RX12 396 yX12_alone wsX12_alone) := goodIn_r _ [11, 12, 8, 13] rfl (by decide +kernel)
set_option maxRecDepth 20000 in
theorem gX12_fewest_X12_isGuest : GoodIn wsX12_fewest (wsV RX12 365 RX12 yX12_isGuest wsX12_isGuest) := goodIn_r _ [14, 15, 16, 8, 17, 5, 6, 7, 8, 9, 10, 45, 46, 47, 48, 49, 50, 51, 52, 53, 54, 55, 56, 57, 58, 59, 60, 61, 62, 63, 64, 65, 66, 67, 68, 69, 70, 71, 72, 73, 74, 75, 76, 77, 78, 79, 80, 81, 82, 83] rfl (by decide +kernel)
set_option maxRecDepth 20000 in
theorem gX12_fewest_X12_guestOf : GoodIn wsX12_fewest (wsV RX12 353 RX12 yX12_guestOf wsX12_guestOf) := goodIn_r _ [18, 19, 20, 8, 21, 10, 45, 46, 47, 48, 49, 50, 51, 52, 53, 54, 55, 56, 57, 58, 59, 60, 61, 62, 63, 64, 65, 66, 67, 68, 69, 70, 71, 72, 73, 74, 75, 76, 77, 78, 79, 80, 81, 82, 83] rfl (by decide +kernel)
set_option maxRecDepth 20000 in
theorem gX12_fewest_X12_answerIn : GoodIn wsX12_fewest (wsV RX12 377 RX12 yX12_answerIn wsX12_answerIn) := goodIn_r _ [22, 23, 24, 8, 25, 26, 27, 8, 28, 29, 30, 31, 32, 33, 34, 35, 36, 5, 6, 7, 9, 10, 37, 38, 39, 40, 18, 19, 20, 21, 45, 46, 47, 48, 49, 50, 51, 52, 53, 54, 55, 56, 57, 58, 59, 60, 61, 62, 63, 64, 65, 66, 67, 68, 69, 70, 71, 72, 73, 74, 75, 76, 77, 78, 79, 80, 81, 82, 83] rfl (by decide +kernel)
set_option maxRecDepth 20000 in
theorem gX12_fewest_X12_whoIn : GoodIn wsX12_fewest (wsV RX12 384 RX12 yX12_whoIn wsX12_whoIn) := goodIn_r _ [41, 42, 43, 8, 44, 5, 6, 7, 8, 9, 10, 26, 27, 28, 45, 46, 47, 48, 49, 50, 51, 52, 53, 54, 55, 56, 57, 58, 59, 60, 61, 62, 63, 64, 65, 66, 67, 68, 69, 70, 71, 72, 73, 74, 75, 76, 77, 78, 79, 80, 81, 82, 83] rfl (by decide +kernel)
theorem dX12_fewest_0 : decode cX12_fewest 0 = .ok (.aload_n 0, 1) := by decide +kernel
theorem dX12_fewest_1 : decode cX12_fewest 1 = .ok (.iconst 0, 1) := by decide +kernel
theorem dX12_fewest_2 : decode cX12_fewest 2 = .ok (.putfield 1, 3) := by decide +kernel
theorem dX12_fewest_5 : decode cX12_fewest 5 = .ok (.iconst 1, 1) := by decide +kernel
theorem dX12_fewest_6 : decode cX12_fewest 6 = .ok (.istore_n 1, 1) := by decide +kernel
theorem dX12_fewest_7 : decode cX12_fewest 7 = .ok (.iload_n 1, 1) := by decide +kernel
theorem dX12_fewest_8 : decode cX12_fewest 8 = .ok (.iconst 1, 1) := by decide +kernel
theorem dX12_fewest_9 : decode cX12_fewest 9 = .ok (.aload_n 0, 1) := by decide +kernel
theorem dX12_fewest_10 : decode cX12_fewest 10 = .ok (.invokevirtual 328, 3) := by decide +kernel
theorem dX12_fewest_13 : decode cX12_fewest 13 = .ok (.ishl, 1) := by decide +kernel
theorem dX12_fewest_14 : decode cX12_fewest 14 = .ok (.if_icmp .ge 185, 3) := by decide +kernel
theorem dX12_fewest_17 : decode cX12_fewest 17 = .ok (.aload_n 0, 1) := by decide +kernel
theorem dX12_fewest_18 : decode cX12_fewest 18 = .ok (.getfield 144, 3) := by decide +kernel
theorem dX12_fewest_21 : decode cX12_fewest 21 = .ok (.iload_n 1, 1) := by decide +kernel
theorem dX12_fewest_22 : decode cX12_fewest 22 = .ok (.iload_n 1, 1) := by decide +kernel
theorem dX12_fewest_23 : decode cX12_fewest 23 = .ok (.invokestatic 396, 3) := by decide +kernel
theorem dX12_fewest_26 : decode cX12_fewest 26 = .ok (.ifCond .lt 7, 3) := by decide +kernel
theorem dX12_fewest_29 : decode cX12_fewest 29 = .ok (.iconst 0, 1) := by decide +kernel
theorem dX12_fewest_30 : decode cX12_fewest 30 = .ok (.goto 6, 3) := by decide +kernel
theorem dX12_fewest_33 : decode cX12_fewest 33 = .ok (.ldc_w 399, 3) := by decide +kernel
theorem dX12_fewest_36 : decode cX12_fewest 36 = .ok (.iastore, 1) := by decide +kernel
theorem dX12_fewest_37 : decode cX12_fewest 37 = .ok (.iconst 0, 1) := by decide +kernel
theorem dX12_fewest_38 : decode cX12_fewest 38 = .ok (.istore_n 2, 1) := by decide +kernel
theorem dX12_fewest_39 : decode cX12_fewest 39 = .ok (.iload_n 2, 1) := by decide +kernel
theorem dX12_fewest_40 : decode cX12_fewest 40 = .ok (.bipush 64, 2) := by decide +kernel
theorem dX12_fewest_42 : decode cX12_fewest 42 = .ok (.if_icmp .ge 151, 3) := by decide +kernel
theorem dX12_fewest_45 : decode cX12_fewest 45 = .ok (.iload_n 1, 1) := by decide +kernel
theorem dX12_fewest_46 : decode cX12_fewest 46 = .ok (.invokestatic 396, 3) := by decide +kernel
theorem dX12_fewest_49 : decode cX12_fewest 49 = .ok (.ifCond .ge 144, 3) := by decide +kernel
theorem dX12_fewest_52 : decode cX12_fewest 52 = .ok (.aload_n 0, 1) := by decide +kernel
theorem dX12_fewest_53 : decode cX12_fewest 53 = .ok (.iload_n 2, 1) := by decide +kernel
theorem dX12_fewest_54 : decode cX12_fewest 54 = .ok (.bipush 8, 2) := by decide +kernel
theorem dX12_fewest_56 : decode cX12_fewest 56 = .ok (.idiv, 1) := by decide +kernel
theorem dX12_fewest_57 : decode cX12_fewest 57 = .ok (.invokevirtual 365, 3) := by decide +kernel
theorem dX12_fewest_60 : decode cX12_fewest 60 = .ok (.ifCond .eq 127, 3) := by decide +kernel
theorem dX12_fewest_63 : decode cX12_fewest 63 = .ok (.aload_n 0, 1) := by decide +kernel
theorem dX12_fewest_64 : decode cX12_fewest 64 = .ok (.iload_n 2, 1) := by decide +kernel
theorem dX12_fewest_65 : decode cX12_fewest 65 = .ok (.bipush 8, 2) := by decide +kernel
theorem dX12_fewest_67 : decode cX12_fewest 67 = .ok (.irem, 1) := by decide +kernel
theorem dX12_fewest_68 : decode cX12_fewest 68 = .ok (.invokevirtual 365, 3) := by decide +kernel
theorem dX12_fewest_71 : decode cX12_fewest 71 = .ok (.ifCond .eq 116, 3) := by decide +kernel
theorem dX12_fewest_74 : decode cX12_fewest 74 = .ok (.aload_n 0, 1) := by decide +kernel
theorem dX12_fewest_75 : decode cX12_fewest 75 = .ok (.iload_n 2, 1) := by decide +kernel
theorem dX12_fewest_76 : decode cX12_fewest 76 = .ok (.bipush 8, 2) := by decide +kernel
theorem dX12_fewest_78 : decode cX12_fewest 78 = .ok (.idiv, 1) := by decide +kernel
theorem dX12_fewest_79 : decode cX12_fewest 79 = .ok (.iconst 0, 1) := by decide +kernel
theorem dX12_fewest_80 : decode cX12_fewest 80 = .ok (.invokevirtual 353, 3) := by decide +kernel
theorem dX12_fewest_83 : decode cX12_fewest 83 = .ok (.iconst 3, 1) := by decide +kernel
theorem dX12_fewest_84 : decode cX12_fewest 84 = .ok (.if_icmp .eq 103, 3) := by decide +kernel
theorem dX12_fewest_87 : decode cX12_fewest 87 = .ok (.iload_n 1, 1) := by decide +kernel
theorem dX12_fewest_88 : decode cX12_fewest 88 = .ok (.aload_n 0, 1) := by decide +kernel
theorem dX12_fewest_89 : decode cX12_fewest 89 = .ok (.aload_n 0, 1) := by decide +kernel
theorem dX12_fewest_90 : decode cX12_fewest 90 = .ok (.iload_n 2, 1) := by decide +kernel
theorem dX12_fewest_91 : decode cX12_fewest 91 = .ok (.bipush 8, 2) := by decide +kernel
theorem dX12_fewest_93 : decode cX12_fewest 93 = .ok (.idiv, 1) := by decide +kernel
theorem dX12_fewest_94 : decode cX12_fewest 94 = .ok (.iload_n 2, 1) := by decide +kernel
theorem dX12_fewest_95 : decode cX12_fewest 95 = .ok (.bipush 8, 2) := by decide +kernel
theorem dX12_fewest_97 : decode cX12_fewest 97 = .ok (.irem, 1) := by decide +kernel
theorem dX12_fewest_98 : decode cX12_fewest 98 = .ok (.iconst 1, 1) := by decide +kernel
theorem dX12_fewest_99 : decode cX12_fewest 99 = .ok (.invokevirtual 377, 3) := by decide +kernel
theorem dX12_fewest_102 : decode cX12_fewest 102 = .ok (.invokevirtual 384, 3) := by decide +kernel
theorem dX12_fewest_105 : decode cX12_fewest 105 = .ok (.iand, 1) := by decide +kernel
theorem dX12_fewest_106 : decode cX12_fewest 106 = .ok (.istore_n 3, 1) := by decide +kernel
theorem dX12_fewest_107 : decode cX12_fewest 107 = .ok (.iload_n 1, 1) := by decide +kernel
theorem dX12_fewest_108 : decode cX12_fewest 108 = .ok (.iload_n 3, 1) := by decide +kernel
theorem dX12_fewest_109 : decode cX12_fewest 109 = .ok (.iconst (-1), 1) := by decide +kernel
theorem dX12_fewest_110 : decode cX12_fewest 110 = .ok (.ixor, 1) := by decide +kernel
theorem dX12_fewest_111 : decode cX12_fewest 111 = .ok (.iand, 1) := by decide +kernel
theorem dX12_fewest_112 : decode cX12_fewest 112 = .ok (.istore 4, 2) := by decide +kernel
theorem dX12_fewest_114 : decode cX12_fewest 114 = .ok (.iload_n 3, 1) := by decide +kernel
theorem dX12_fewest_115 : decode cX12_fewest 115 = .ok (.ifCond .eq 72, 3) := by decide +kernel
theorem dX12_fewest_118 : decode cX12_fewest 118 = .ok (.iload 4, 2) := by decide +kernel
theorem dX12_fewest_120 : decode cX12_fewest 120 = .ok (.ifCond .eq 67, 3) := by decide +kernel
theorem dX12_fewest_123 : decode cX12_fewest 123 = .ok (.iconst 1, 1) := by decide +kernel
theorem dX12_fewest_124 : decode cX12_fewest 124 = .ok (.aload_n 0, 1) := by decide +kernel
theorem dX12_fewest_125 : decode cX12_fewest 125 = .ok (.getfield 144, 3) := by decide +kernel
theorem dX12_fewest_128 : decode cX12_fewest 128 = .ok (.iload_n 3, 1) := by decide +kernel
theorem dX12_fewest_129 : decode cX12_fewest 129 = .ok (.iaload, 1) := by decide +kernel
theorem dX12_fewest_130 : decode cX12_fewest 130 = .ok (.aload_n 0, 1) := by decide +kernel
theorem dX12_fewest_131 : decode cX12_fewest 131 = .ok (.getfield 144, 3) := by decide +kernel
theorem dX12_fewest_134 : decode cX12_fewest 134 = .ok (.iload 4, 2) := by decide +kernel
theorem dX12_fewest_136 : decode cX12_fewest 136 = .ok (.iaload, 1) := by decide +kernel
theorem dX12_fewest_137 : decode cX12_fewest 137 = .ok (.if_icmp .le 12, 3) := by decide +kernel
theorem dX12_fewest_140 : decode cX12_fewest 140 = .ok (.aload_n 0, 1) := by decide +kernel
theorem dX12_fewest_141 : decode cX12_fewest 141 = .ok (.getfield 144, 3) := by decide +kernel
theorem dX12_fewest_144 : decode cX12_fewest 144 = .ok (.iload_n 3, 1) := by decide +kernel
theorem dX12_fewest_145 : decode cX12_fewest 145 = .ok (.iaload, 1) := by decide +kernel
theorem dX12_fewest_146 : decode cX12_fewest 146 = .ok (.goto 10, 3) := by decide +kernel
theorem dX12_fewest_149 : decode cX12_fewest 149 = .ok (.aload_n 0, 1) := by decide +kernel
theorem dX12_fewest_150 : decode cX12_fewest 150 = .ok (.getfield 144, 3) := by decide +kernel
theorem dX12_fewest_153 : decode cX12_fewest 153 = .ok (.iload 4, 2) := by decide +kernel
theorem dX12_fewest_155 : decode cX12_fewest 155 = .ok (.iaload, 1) := by decide +kernel
theorem dX12_fewest_156 : decode cX12_fewest 156 = .ok (.iadd, 1) := by decide +kernel
theorem dX12_fewest_157 : decode cX12_fewest 157 = .ok (.istore 5, 2) := by decide +kernel
theorem dX12_fewest_159 : decode cX12_fewest 159 = .ok (.aload_n 0, 1) := by decide +kernel
theorem dX12_fewest_160 : decode cX12_fewest 160 = .ok (.getfield 144, 3) := by decide +kernel
theorem dX12_fewest_163 : decode cX12_fewest 163 = .ok (.iload_n 1, 1) := by decide +kernel
theorem dX12_fewest_164 : decode cX12_fewest 164 = .ok (.iload 5, 2) := by decide +kernel
theorem dX12_fewest_166 : decode cX12_fewest 166 = .ok (.aload_n 0, 1) := by decide +kernel
theorem dX12_fewest_167 : decode cX12_fewest 167 = .ok (.getfield 144, 3) := by decide +kernel
theorem dX12_fewest_170 : decode cX12_fewest 170 = .ok (.iload_n 1, 1) := by decide +kernel
theorem dX12_fewest_171 : decode cX12_fewest 171 = .ok (.iaload, 1) := by decide +kernel
theorem dX12_fewest_172 : decode cX12_fewest 172 = .ok (.if_icmp .ge 8, 3) := by decide +kernel
theorem dX12_fewest_175 : decode cX12_fewest 175 = .ok (.iload 5, 2) := by decide +kernel
theorem dX12_fewest_177 : decode cX12_fewest 177 = .ok (.goto 9, 3) := by decide +kernel
theorem dX12_fewest_180 : decode cX12_fewest 180 = .ok (.aload_n 0, 1) := by decide +kernel
theorem dX12_fewest_181 : decode cX12_fewest 181 = .ok (.getfield 144, 3) := by decide +kernel
theorem dX12_fewest_184 : decode cX12_fewest 184 = .ok (.iload_n 1, 1) := by decide +kernel
theorem dX12_fewest_185 : decode cX12_fewest 185 = .ok (.iaload, 1) := by decide +kernel
theorem dX12_fewest_186 : decode cX12_fewest 186 = .ok (.iastore, 1) := by decide +kernel
theorem dX12_fewest_187 : decode cX12_fewest 187 = .ok (.iinc 2 1, 3) := by decide +kernel
theorem dX12_fewest_190 : decode cX12_fewest 190 = .ok (.goto (-151), 3) := by decide +kernel
theorem dX12_fewest_193 : decode cX12_fewest 193 = .ok (.iinc 1 1, 3) := by decide +kernel
theorem dX12_fewest_196 : decode cX12_fewest 196 = .ok (.goto (-189), 3) := by decide +kernel
theorem dX12_fewest_199 : decode cX12_fewest 199 = .ok (.aload_n 0, 1) := by decide +kernel
theorem dX12_fewest_200 : decode cX12_fewest 200 = .ok (.aload_n 0, 1) := by decide +kernel
theorem dX12_fewest_201 : decode cX12_fewest 201 = .ok (.getfield 131, 3) := by decide +kernel
theorem dX12_fewest_204 : decode cX12_fewest 204 = .ok (.iconst 0, 1) := by decide +kernel
theorem dX12_fewest_205 : decode cX12_fewest 205 = .ok (.iaload, 1) := by decide +kernel
theorem dX12_fewest_206 : decode cX12_fewest 206 = .ok (.invokevirtual 384, 3) := by decide +kernel
theorem dX12_fewest_209 : decode cX12_fewest 209 = .ok (.istore_n 1, 1) := by decide +kernel
theorem dX12_fewest_210 : decode cX12_fewest 210 = .ok (.iload_n 1, 1) := by decide +kernel
theorem dX12_fewest_211 : decode cX12_fewest 211 = .ok (.ifCond .eq 15, 3) := by decide +kernel
theorem dX12_fewest_214 : decode cX12_fewest 214 = .ok (.aload_n 0, 1) := by decide +kernel
theorem dX12_fewest_215 : decode cX12_fewest 215 = .ok (.getfield 144, 3) := by decide +kernel
theorem dX12_fewest_218 : decode cX12_fewest 218 = .ok (.iload_n 1, 1) := by decide +kernel
theorem dX12_fewest_219 : decode cX12_fewest 219 = .ok (.iaload, 1) := by decide +kernel
theorem dX12_fewest_220 : decode cX12_fewest 220 = .ok (.ldc_w 399, 3) := by decide +kernel
theorem dX12_fewest_223 : decode cX12_fewest 223 = .ok (.if_icmp .lt 7, 3) := by decide +kernel
theorem dX12_fewest_226 : decode cX12_fewest 226 = .ok (.iconst (-1), 1) := by decide +kernel
theorem dX12_fewest_227 : decode cX12_fewest 227 = .ok (.goto 9, 3) := by decide +kernel
theorem dX12_fewest_230 : decode cX12_fewest 230 = .ok (.aload_n 0, 1) := by decide +kernel
theorem dX12_fewest_231 : decode cX12_fewest 231 = .ok (.getfield 144, 3) := by decide +kernel
theorem dX12_fewest_234 : decode cX12_fewest 234 = .ok (.iload_n 1, 1) := by decide +kernel
theorem dX12_fewest_235 : decode cX12_fewest 235 = .ok (.iaload, 1) := by decide +kernel
theorem dX12_fewest_236 : decode cX12_fewest 236 = .ok (.ireturn, 1) := by decide +kernel
set_option maxRecDepth 20000 in
theorem gX12_tellsAll_X12_worlds : GoodIn wsX12_tellsAll (wsV RX12 331 RX12 yX12_worlds wsX12_worlds) := goodIn_r _ [3, 4, 5, 6, 7, 8, 9, 10, 6, 11, 12, 16, 17, 18, 19, 20, 21, 22, 23, 24, 25, 26, 27, 28, 29, 30, 31, 32, 33, 34, 35, 36, 37, 38, 39, 40, 41, 42, 43, 44, 45, 46, 47, 48, 49, 50, 51, 52, 53, 54] rfl (by decide +kernel)
set_option maxRecDepth 20000 in
theorem gX12_tellsAll_X12_isIn : GoodIn wsX12_tellsAll (va_wsS RX12 400 yX12_isIn wsX12_isIn) := goodIn_r _ [13, 14, 6, 15] rfl (by decide +kernel)
theorem dX12_tellsAll_0 : decode cX12_tellsAll 0 = .ok (.iconst 1, 1) := by decide +kernel
theorem dX12_tellsAll_1 : decode cX12_tellsAll 1 = .ok (.istore_n 2, 1) := by decide +kernel
theorem dX12_tellsAll_2 : decode cX12_tellsAll 2 = .ok (.iconst 0, 1) := by decide +kernel
theorem dX12_tellsAll_3 : decode cX12_tellsAll 3 = .ok (.istore_n 3, 1) := by decide +kernel
theorem dX12_tellsAll_4 : decode cX12_tellsAll 4 = .ok (.iload_n 3, 1) := by decide +kernel
theorem dX12_tellsAll_5 : decode cX12_tellsAll 5 = .ok (.aload_n 0, 1) := by decide +kernel
theorem dX12_tellsAll_6 : decode cX12_tellsAll 6 = .ok (.invokevirtual 331, 3) := by decide +kernel
theorem dX12_tellsAll_9 : decode cX12_tellsAll 9 = .ok (.if_icmp .ge 102, 3) := by decide +kernel
theorem dX12_tellsAll_12 : decode cX12_tellsAll 12 = .ok (.iconst 0, 1) := by decide +kernel
theorem dX12_tellsAll_13 : decode cX12_tellsAll 13 = .ok (.istore 4, 2) := by decide +kernel
theorem dX12_tellsAll_15 : decode cX12_tellsAll 15 = .ok (.iload 4, 2) := by decide +kernel
theorem dX12_tellsAll_17 : decode cX12_tellsAll 17 = .ok (.iload_n 3, 1) := by decide +kernel
theorem dX12_tellsAll_18 : decode cX12_tellsAll 18 = .ok (.if_icmp .ge 87, 3) := by decide +kernel
theorem dX12_tellsAll_21 : decode cX12_tellsAll 21 = .ok (.aload_n 0, 1) := by decide +kernel
theorem dX12_tellsAll_22 : decode cX12_tellsAll 22 = .ok (.getfield 131, 3) := by decide +kernel
theorem dX12_tellsAll_25 : decode cX12_tellsAll 25 = .ok (.iconst 0, 1) := by decide +kernel
theorem dX12_tellsAll_26 : decode cX12_tellsAll 26 = .ok (.iaload, 1) := by decide +kernel
theorem dX12_tellsAll_27 : decode cX12_tellsAll 27 = .ok (.iload_n 3, 1) := by decide +kernel
theorem dX12_tellsAll_28 : decode cX12_tellsAll 28 = .ok (.invokestatic 400, 3) := by decide +kernel
theorem dX12_tellsAll_31 : decode cX12_tellsAll 31 = .ok (.ifCond .eq 50, 3) := by decide +kernel
theorem dX12_tellsAll_34 : decode cX12_tellsAll 34 = .ok (.aload_n 0, 1) := by decide +kernel
theorem dX12_tellsAll_35 : decode cX12_tellsAll 35 = .ok (.getfield 131, 3) := by decide +kernel
theorem dX12_tellsAll_38 : decode cX12_tellsAll 38 = .ok (.iconst 0, 1) := by decide +kernel
theorem dX12_tellsAll_39 : decode cX12_tellsAll 39 = .ok (.iaload, 1) := by decide +kernel
theorem dX12_tellsAll_40 : decode cX12_tellsAll 40 = .ok (.iload 4, 2) := by decide +kernel
theorem dX12_tellsAll_42 : decode cX12_tellsAll 42 = .ok (.invokestatic 400, 3) := by decide +kernel
theorem dX12_tellsAll_45 : decode cX12_tellsAll 45 = .ok (.ifCond .eq 36, 3) := by decide +kernel
theorem dX12_tellsAll_48 : decode cX12_tellsAll 48 = .ok (.iload_n 3, 1) := by decide +kernel
theorem dX12_tellsAll_49 : decode cX12_tellsAll 49 = .ok (.iconst 4, 1) := by decide +kernel
theorem dX12_tellsAll_50 : decode cX12_tellsAll 50 = .ok (.idiv, 1) := by decide +kernel
theorem dX12_tellsAll_51 : decode cX12_tellsAll 51 = .ok (.iload 4, 2) := by decide +kernel
theorem dX12_tellsAll_53 : decode cX12_tellsAll 53 = .ok (.iconst 4, 1) := by decide +kernel
theorem dX12_tellsAll_54 : decode cX12_tellsAll 54 = .ok (.idiv, 1) := by decide +kernel
theorem dX12_tellsAll_55 : decode cX12_tellsAll 55 = .ok (.if_icmp .eq 26, 3) := by decide +kernel
theorem dX12_tellsAll_58 : decode cX12_tellsAll 58 = .ok (.aload_n 0, 1) := by decide +kernel
theorem dX12_tellsAll_59 : decode cX12_tellsAll 59 = .ok (.getfield 141, 3) := by decide +kernel
theorem dX12_tellsAll_62 : decode cX12_tellsAll 62 = .ok (.iload_n 3, 1) := by decide +kernel
theorem dX12_tellsAll_63 : decode cX12_tellsAll 63 = .ok (.iaload, 1) := by decide +kernel
theorem dX12_tellsAll_64 : decode cX12_tellsAll 64 = .ok (.aload_n 0, 1) := by decide +kernel
theorem dX12_tellsAll_65 : decode cX12_tellsAll 65 = .ok (.getfield 141, 3) := by decide +kernel
theorem dX12_tellsAll_68 : decode cX12_tellsAll 68 = .ok (.iload 4, 2) := by decide +kernel
theorem dX12_tellsAll_70 : decode cX12_tellsAll 70 = .ok (.iaload, 1) := by decide +kernel
theorem dX12_tellsAll_71 : decode cX12_tellsAll 71 = .ok (.ixor, 1) := by decide +kernel
theorem dX12_tellsAll_72 : decode cX12_tellsAll 72 = .ok (.iload_n 1, 1) := by decide +kernel
theorem dX12_tellsAll_73 : decode cX12_tellsAll 73 = .ok (.iand, 1) := by decide +kernel
theorem dX12_tellsAll_74 : decode cX12_tellsAll 74 = .ok (.ifCond .ne 7, 3) := by decide +kernel
theorem dX12_tellsAll_77 : decode cX12_tellsAll 77 = .ok (.iconst 1, 1) := by decide +kernel
theorem dX12_tellsAll_78 : decode cX12_tellsAll 78 = .ok (.goto 4, 3) := by decide +kernel
theorem dX12_tellsAll_81 : decode cX12_tellsAll 81 = .ok (.iconst 0, 1) := by decide +kernel
theorem dX12_tellsAll_82 : decode cX12_tellsAll 82 = .ok (.istore 5, 2) := by decide +kernel
theorem dX12_tellsAll_84 : decode cX12_tellsAll 84 = .ok (.iload_n 2, 1) := by decide +kernel
theorem dX12_tellsAll_85 : decode cX12_tellsAll 85 = .ok (.ifCond .eq 12, 3) := by decide +kernel
theorem dX12_tellsAll_88 : decode cX12_tellsAll 88 = .ok (.iload 5, 2) := by decide +kernel
theorem dX12_tellsAll_90 : decode cX12_tellsAll 90 = .ok (.ifCond .ne 7, 3) := by decide +kernel
theorem dX12_tellsAll_93 : decode cX12_tellsAll 93 = .ok (.iconst 1, 1) := by decide +kernel
theorem dX12_tellsAll_94 : decode cX12_tellsAll 94 = .ok (.goto 4, 3) := by decide +kernel
theorem dX12_tellsAll_97 : decode cX12_tellsAll 97 = .ok (.iconst 0, 1) := by decide +kernel
theorem dX12_tellsAll_98 : decode cX12_tellsAll 98 = .ok (.istore_n 2, 1) := by decide +kernel
theorem dX12_tellsAll_99 : decode cX12_tellsAll 99 = .ok (.iinc 4 1, 3) := by decide +kernel
theorem dX12_tellsAll_102 : decode cX12_tellsAll 102 = .ok (.goto (-87), 3) := by decide +kernel
theorem dX12_tellsAll_105 : decode cX12_tellsAll 105 = .ok (.iinc 3 1, 3) := by decide +kernel
theorem dX12_tellsAll_108 : decode cX12_tellsAll 108 = .ok (.goto (-104), 3) := by decide +kernel
theorem dX12_tellsAll_111 : decode cX12_tellsAll 111 = .ok (.iload_n 2, 1) := by decide +kernel
theorem dX12_tellsAll_112 : decode cX12_tellsAll 112 = .ok (.ireturn, 1) := by decide +kernel
set_option maxRecDepth 20000 in
theorem gX12_tell_X12_signs : GoodIn wsX12_tell (wsV RX12 337 RX12 yX12_signs wsX12_signs) := goodIn_r _ [2, 3, 4, 5, 6, 7, 28, 29, 30, 31, 32, 33, 34, 35, 36, 37, 38, 39, 40, 41, 42, 43, 44, 45, 46, 47, 48, 49, 50, 51, 52, 53, 54, 55, 56, 57, 58, 59, 60, 61, 62, 63, 64, 65, 66] rfl (by decide +kernel)
set_option maxRecDepth 20000 in
theorem gX12_tell_X12_bits : GoodIn wsX12_tell (va_wsS RX12 371 yX12_bits wsX12_bits) := goodIn_r _ [8, 9, 5, 10] rfl (by decide +kernel)
set_option maxRecDepth 20000 in
theorem gX12_tell_X12_tellsAll : GoodIn wsX12_tell (wsV RX12 404 RX12 yX12_tellsAll wsX12_tellsAll) := goodIn_r _ [11, 12, 13, 5, 14, 15, 16, 17, 18, 19, 5, 20, 21, 22, 23, 24, 7, 25, 26, 27, 28, 29, 30, 31, 32, 33, 34, 35, 36, 37, 38, 39, 40, 41, 42, 43, 44, 45, 46, 47, 48, 49, 50, 51, 52, 53, 54, 55, 56, 57, 58, 59, 60, 61, 62, 63, 64, 65, 66] rfl (by decide +kernel)
theorem dX12_tell_0 : decode cX12_tell 0 = .ok (.aload_n 0, 1) := by decide +kernel
theorem dX12_tell_1 : decode cX12_tell 1 = .ok (.iconst 0, 1) := by decide +kernel
theorem dX12_tell_2 : decode cX12_tell 2 = .ok (.putfield 1, 3) := by decide +kernel
theorem dX12_tell_5 : decode cX12_tell 5 = .ok (.iconst (-1), 1) := by decide +kernel
theorem dX12_tell_6 : decode cX12_tell 6 = .ok (.istore_n 1, 1) := by decide +kernel
theorem dX12_tell_7 : decode cX12_tell 7 = .ok (.iconst 0, 1) := by decide +kernel
theorem dX12_tell_8 : decode cX12_tell 8 = .ok (.istore_n 2, 1) := by decide +kernel
theorem dX12_tell_9 : decode cX12_tell 9 = .ok (.iload_n 2, 1) := by decide +kernel
theorem dX12_tell_10 : decode cX12_tell 10 = .ok (.iconst 1, 1) := by decide +kernel
theorem dX12_tell_11 : decode cX12_tell 11 = .ok (.aload_n 0, 1) := by decide +kernel
theorem dX12_tell_12 : decode cX12_tell 12 = .ok (.invokevirtual 337, 3) := by decide +kernel
theorem dX12_tell_15 : decode cX12_tell 15 = .ok (.ishl, 1) := by decide +kernel
theorem dX12_tell_16 : decode cX12_tell 16 = .ok (.if_icmp .ge 38, 3) := by decide +kernel
theorem dX12_tell_19 : decode cX12_tell 19 = .ok (.iload_n 1, 1) := by decide +kernel
theorem dX12_tell_20 : decode cX12_tell 20 = .ok (.ifCond .lt 14, 3) := by decide +kernel
theorem dX12_tell_23 : decode cX12_tell 23 = .ok (.iload_n 2, 1) := by decide +kernel
theorem dX12_tell_24 : decode cX12_tell 24 = .ok (.invokestatic 371, 3) := by decide +kernel
theorem dX12_tell_27 : decode cX12_tell 27 = .ok (.iload_n 1, 1) := by decide +kernel
theorem dX12_tell_28 : decode cX12_tell 28 = .ok (.invokestatic 371, 3) := by decide +kernel
theorem dX12_tell_31 : decode cX12_tell 31 = .ok (.if_icmp .ge 15, 3) := by decide +kernel
theorem dX12_tell_34 : decode cX12_tell 34 = .ok (.aload_n 0, 1) := by decide +kernel
theorem dX12_tell_35 : decode cX12_tell 35 = .ok (.iload_n 2, 1) := by decide +kernel
theorem dX12_tell_36 : decode cX12_tell 36 = .ok (.invokevirtual 404, 3) := by decide +kernel
theorem dX12_tell_39 : decode cX12_tell 39 = .ok (.ifCond .eq 7, 3) := by decide +kernel
theorem dX12_tell_42 : decode cX12_tell 42 = .ok (.iload_n 2, 1) := by decide +kernel
theorem dX12_tell_43 : decode cX12_tell 43 = .ok (.goto 4, 3) := by decide +kernel
theorem dX12_tell_46 : decode cX12_tell 46 = .ok (.iload_n 1, 1) := by decide +kernel
theorem dX12_tell_47 : decode cX12_tell 47 = .ok (.istore_n 1, 1) := by decide +kernel
theorem dX12_tell_48 : decode cX12_tell 48 = .ok (.iinc 2 1, 3) := by decide +kernel
theorem dX12_tell_51 : decode cX12_tell 51 = .ok (.goto (-42), 3) := by decide +kernel
theorem dX12_tell_54 : decode cX12_tell 54 = .ok (.iload_n 1, 1) := by decide +kernel
theorem dX12_tell_55 : decode cX12_tell 55 = .ok (.ireturn, 1) := by decide +kernel
set_option maxRecDepth 20000 in
theorem gX12_viewIn_X12_worlds : GoodIn wsX12_viewIn (wsV RX12 331 RX12 yX12_worlds wsX12_worlds) := goodIn_r _ [2, 3, 4, 5, 6, 7, 8, 9, 5, 10, 11, 19, 20, 21, 22, 23, 24, 25, 26, 27, 28, 29, 30, 31, 32, 33, 34, 35, 36, 37, 38, 39, 40, 41, 42, 43, 44, 45, 46, 47, 48, 49, 50, 51, 52, 53, 54, 55, 56, 57] rfl (by decide +kernel)
set_option maxRecDepth 20000 in
theorem gX12_viewIn_X12_isIn : GoodIn wsX12_viewIn (va_wsS RX12 400 yX12_isIn wsX12_isIn) := goodIn_r _ [12, 13, 5, 14] rfl (by decide +kernel)
set_option maxRecDepth 20000 in
theorem gX12_viewIn_X12_guestOf : GoodIn wsX12_viewIn (wsV RX12 353 RX12 yX12_guestOf wsX12_guestOf) := goodIn_r _ [15, 16, 17, 5, 18, 11, 19, 20, 21, 22, 23, 24, 25, 26, 27, 28, 29, 30, 31, 32, 33, 34, 35, 36, 37, 38, 39, 40, 41, 42, 43, 44, 45, 46, 47, 48, 49, 50, 51, 52, 53, 54, 55, 56, 57] rfl (by decide +kernel)
theorem dX12_viewIn_0 : decode cX12_viewIn 0 = .ok (.iconst 0, 1) := by decide +kernel
theorem dX12_viewIn_1 : decode cX12_viewIn 1 = .ok (.istore 4, 2) := by decide +kernel
theorem dX12_viewIn_3 : decode cX12_viewIn 3 = .ok (.iconst 0, 1) := by decide +kernel
theorem dX12_viewIn_4 : decode cX12_viewIn 4 = .ok (.istore 5, 2) := by decide +kernel
theorem dX12_viewIn_6 : decode cX12_viewIn 6 = .ok (.iload 5, 2) := by decide +kernel
theorem dX12_viewIn_8 : decode cX12_viewIn 8 = .ok (.aload_n 0, 1) := by decide +kernel
theorem dX12_viewIn_9 : decode cX12_viewIn 9 = .ok (.invokevirtual 331, 3) := by decide +kernel
theorem dX12_viewIn_12 : decode cX12_viewIn 12 = .ok (.if_icmp .ge 55, 3) := by decide +kernel
theorem dX12_viewIn_15 : decode cX12_viewIn 15 = .ok (.iload 4, 2) := by decide +kernel
theorem dX12_viewIn_17 : decode cX12_viewIn 17 = .ok (.iload_n 1, 1) := by decide +kernel
theorem dX12_viewIn_18 : decode cX12_viewIn 18 = .ok (.iload 5, 2) := by decide +kernel
theorem dX12_viewIn_20 : decode cX12_viewIn 20 = .ok (.invokestatic 400, 3) := by decide +kernel
theorem dX12_viewIn_23 : decode cX12_viewIn 23 = .ok (.ifCond .eq 34, 3) := by decide +kernel
theorem dX12_viewIn_26 : decode cX12_viewIn 26 = .ok (.aload_n 0, 1) := by decide +kernel
theorem dX12_viewIn_27 : decode cX12_viewIn 27 = .ok (.getfield 141, 3) := by decide +kernel
theorem dX12_viewIn_30 : decode cX12_viewIn 30 = .ok (.iload 5, 2) := by decide +kernel
theorem dX12_viewIn_32 : decode cX12_viewIn 32 = .ok (.iaload, 1) := by decide +kernel
theorem dX12_viewIn_33 : decode cX12_viewIn 33 = .ok (.aload_n 0, 1) := by decide +kernel
theorem dX12_viewIn_34 : decode cX12_viewIn 34 = .ok (.getfield 141, 3) := by decide +kernel
theorem dX12_viewIn_37 : decode cX12_viewIn 37 = .ok (.iload_n 3, 1) := by decide +kernel
theorem dX12_viewIn_38 : decode cX12_viewIn 38 = .ok (.iaload, 1) := by decide +kernel
theorem dX12_viewIn_39 : decode cX12_viewIn 39 = .ok (.ixor, 1) := by decide +kernel
theorem dX12_viewIn_40 : decode cX12_viewIn 40 = .ok (.aload_n 0, 1) := by decide +kernel
theorem dX12_viewIn_41 : decode cX12_viewIn 41 = .ok (.iload_n 2, 1) := by decide +kernel
theorem dX12_viewIn_42 : decode cX12_viewIn 42 = .ok (.iconst 3, 1) := by decide +kernel
theorem dX12_viewIn_43 : decode cX12_viewIn 43 = .ok (.invokevirtual 353, 3) := by decide +kernel
theorem dX12_viewIn_46 : decode cX12_viewIn 46 = .ok (.iand, 1) := by decide +kernel
theorem dX12_viewIn_47 : decode cX12_viewIn 47 = .ok (.ifCond .ne 10, 3) := by decide +kernel
theorem dX12_viewIn_50 : decode cX12_viewIn 50 = .ok (.iconst 1, 1) := by decide +kernel
theorem dX12_viewIn_51 : decode cX12_viewIn 51 = .ok (.iload 5, 2) := by decide +kernel
theorem dX12_viewIn_53 : decode cX12_viewIn 53 = .ok (.ishl, 1) := by decide +kernel
theorem dX12_viewIn_54 : decode cX12_viewIn 54 = .ok (.goto 4, 3) := by decide +kernel
theorem dX12_viewIn_57 : decode cX12_viewIn 57 = .ok (.iconst 0, 1) := by decide +kernel
theorem dX12_viewIn_58 : decode cX12_viewIn 58 = .ok (.ior, 1) := by decide +kernel
theorem dX12_viewIn_59 : decode cX12_viewIn 59 = .ok (.istore 4, 2) := by decide +kernel
theorem dX12_viewIn_61 : decode cX12_viewIn 61 = .ok (.iinc 5 1, 3) := by decide +kernel
theorem dX12_viewIn_64 : decode cX12_viewIn 64 = .ok (.goto (-58), 3) := by decide +kernel
theorem dX12_viewIn_67 : decode cX12_viewIn 67 = .ok (.iload 4, 2) := by decide +kernel
theorem dX12_viewIn_69 : decode cX12_viewIn 69 = .ok (.ireturn, 1) := by decide +kernel
set_option maxRecDepth 20000 in
theorem gX12_isLeft_X12_worlds : GoodIn wsX12_isLeft (wsV RX12 331 RX12 yX12_worlds wsX12_worlds) := goodIn_r _ [2, 3, 4, 5, 6, 7, 8, 9, 5, 10, 11, 18, 19, 20, 21, 22, 23, 24, 25, 26, 27, 28, 29, 30, 31, 32, 33, 34, 35, 36, 37, 38, 39, 40, 41, 42, 43, 44, 45, 46, 47, 48, 49, 50, 51, 52, 53, 54, 55, 56] rfl (by decide +kernel)
set_option maxRecDepth 20000 in
theorem gX12_isLeft_X12_within : GoodIn wsX12_isLeft (va_wsS RX12 241 yX12_within wsX12_within) := goodIn_r _ [12, 13, 5, 14] rfl (by decide +kernel)
set_option maxRecDepth 20000 in
theorem gX12_isLeft_X12_isIn : GoodIn wsX12_isLeft (va_wsS RX12 400 yX12_isIn wsX12_isIn) := goodIn_r _ [15, 16, 5, 17] rfl (by decide +kernel)
theorem dX12_isLeft_0 : decode cX12_isLeft 0 = .ok (.iload_n 1, 1) := by decide +kernel
theorem dX12_isLeft_1 : decode cX12_isLeft 1 = .ok (.iconst 0, 1) := by decide +kernel
theorem dX12_isLeft_2 : decode cX12_isLeft 2 = .ok (.aload_n 0, 1) := by decide +kernel
theorem dX12_isLeft_3 : decode cX12_isLeft 3 = .ok (.invokevirtual 331, 3) := by decide +kernel
theorem dX12_isLeft_6 : decode cX12_isLeft 6 = .ok (.iconst 1, 1) := by decide +kernel
theorem dX12_isLeft_7 : decode cX12_isLeft 7 = .ok (.isub, 1) := by decide +kernel
theorem dX12_isLeft_8 : decode cX12_isLeft 8 = .ok (.invokestatic 241, 3) := by decide +kernel
theorem dX12_isLeft_11 : decode cX12_isLeft 11 = .ok (.ifCond .eq 20, 3) := by decide +kernel
theorem dX12_isLeft_14 : decode cX12_isLeft 14 = .ok (.aload_n 0, 1) := by decide +kernel
theorem dX12_isLeft_15 : decode cX12_isLeft 15 = .ok (.getfield 131, 3) := by decide +kernel
theorem dX12_isLeft_18 : decode cX12_isLeft 18 = .ok (.iconst 0, 1) := by decide +kernel
theorem dX12_isLeft_19 : decode cX12_isLeft 19 = .ok (.iaload, 1) := by decide +kernel
theorem dX12_isLeft_20 : decode cX12_isLeft 20 = .ok (.iload_n 1, 1) := by decide +kernel
theorem dX12_isLeft_21 : decode cX12_isLeft 21 = .ok (.invokestatic 400, 3) := by decide +kernel
theorem dX12_isLeft_24 : decode cX12_isLeft 24 = .ok (.ifCond .eq 7, 3) := by decide +kernel
theorem dX12_isLeft_27 : decode cX12_isLeft 27 = .ok (.iconst 1, 1) := by decide +kernel
theorem dX12_isLeft_28 : decode cX12_isLeft 28 = .ok (.goto 4, 3) := by decide +kernel
theorem dX12_isLeft_31 : decode cX12_isLeft 31 = .ok (.iconst 0, 1) := by decide +kernel
theorem dX12_isLeft_32 : decode cX12_isLeft 32 = .ok (.ireturn, 1) := by decide +kernel
set_option maxRecDepth 20000 in
theorem gX12_knows_X12_isGuest : GoodIn wsX12_knows (wsV RX12 365 RX12 yX12_isGuest wsX12_isGuest) := goodIn_r _ [3, 4, 5, 6, 7, 8, 9, 10, 6, 11, 12, 43, 44, 45, 46, 47, 48, 49, 50, 51, 52, 53, 54, 55, 56, 57, 58, 59, 60, 61, 62, 63, 64, 65, 66, 67, 68, 69, 70, 71, 72, 73, 74, 75, 76, 77, 78, 79, 80, 81] rfl (by decide +kernel)
set_option maxRecDepth 20000 in
theorem gX12_knows_X12_isLeft : GoodIn wsX12_knows (wsV RX12 407 RX12 yX12_isLeft wsX12_isLeft) := goodIn_r _ [13, 14, 15, 6, 16, 2, 17, 18, 19, 6, 20, 8, 9, 10, 11, 12, 21, 22, 23, 24, 25, 26, 43, 44, 45, 46, 47, 48, 49, 50, 51, 52, 53, 54, 55, 56, 57, 58, 59, 60, 61, 62, 63, 64, 65, 66, 67, 68, 69, 70, 71, 72, 73, 74, 75, 76, 77, 78, 79, 80, 81] rfl (by decide +kernel)
set_option maxRecDepth 20000 in
theorem gX12_knows_X12_viewIn : GoodIn wsX12_knows (wsV RX12 410 RX12 yX12_viewIn wsX12_viewIn) := goodIn_r _ [27, 28, 29, 6, 30, 31, 17, 18, 19, 6, 20, 8, 9, 10, 11, 12, 24, 25, 26, 32, 33, 34, 35, 43, 44, 45, 46, 47, 48, 49, 50, 51, 52, 53, 54, 55, 56, 57, 58, 59, 60, 61, 62, 63, 64, 65, 66, 67, 68, 69, 70, 71, 72, 73, 74, 75, 76, 77, 78, 79, 80, 81] rfl (by decide +kernel)
set_option maxRecDepth 20000 in
theorem gX12_knows_X12_whoIn : GoodIn wsX12_knows (wsV RX12 384 RX12 yX12_whoIn wsX12_whoIn) := goodIn_r _ [36, 37, 38, 6, 39, 8, 9, 10, 6, 11, 12, 40, 41, 42, 43, 44, 45, 46, 47, 48, 49, 50, 51, 52, 53, 54, 55, 56, 57, 58, 59, 60, 61, 62, 63, 64, 65, 66, 67, 68, 69, 70, 71, 72, 73, 74, 75, 76, 77, 78, 79, 80, 81] rfl (by decide +kernel)
theorem dX12_knows_0 : decode cX12_knows 0 = .ok (.aload_n 0, 1) := by decide +kernel
theorem dX12_knows_1 : decode cX12_knows 1 = .ok (.iconst 0, 1) := by decide +kernel
theorem dX12_knows_2 : decode cX12_knows 2 = .ok (.putfield 1, 3) := by decide +kernel
theorem dX12_knows_5 : decode cX12_knows 5 = .ok (.aload_n 0, 1) := by decide +kernel
theorem dX12_knows_6 : decode cX12_knows 6 = .ok (.iload_n 1, 1) := by decide +kernel
theorem dX12_knows_7 : decode cX12_knows 7 = .ok (.invokevirtual 365, 3) := by decide +kernel
theorem dX12_knows_10 : decode cX12_knows 10 = .ok (.ifCond .eq 30, 3) := by decide +kernel
theorem dX12_knows_13 : decode cX12_knows 13 = .ok (.aload_n 0, 1) := by decide +kernel
theorem dX12_knows_14 : decode cX12_knows 14 = .ok (.iload_n 2, 1) := by decide +kernel
theorem dX12_knows_15 : decode cX12_knows 15 = .ok (.invokevirtual 407, 3) := by decide +kernel
theorem dX12_knows_18 : decode cX12_knows 18 = .ok (.ifCond .eq 22, 3) := by decide +kernel
theorem dX12_knows_21 : decode cX12_knows 21 = .ok (.aload_n 0, 1) := by decide +kernel
theorem dX12_knows_22 : decode cX12_knows 22 = .ok (.aload_n 0, 1) := by decide +kernel
theorem dX12_knows_23 : decode cX12_knows 23 = .ok (.aload_n 0, 1) := by decide +kernel
theorem dX12_knows_24 : decode cX12_knows 24 = .ok (.getfield 131, 3) := by decide +kernel
theorem dX12_knows_27 : decode cX12_knows 27 = .ok (.iconst 0, 1) := by decide +kernel
theorem dX12_knows_28 : decode cX12_knows 28 = .ok (.iaload, 1) := by decide +kernel
theorem dX12_knows_29 : decode cX12_knows 29 = .ok (.iload_n 1, 1) := by decide +kernel
theorem dX12_knows_30 : decode cX12_knows 30 = .ok (.iload_n 2, 1) := by decide +kernel
theorem dX12_knows_31 : decode cX12_knows 31 = .ok (.invokevirtual 410, 3) := by decide +kernel
theorem dX12_knows_34 : decode cX12_knows 34 = .ok (.invokevirtual 384, 3) := by decide +kernel
theorem dX12_knows_37 : decode cX12_knows 37 = .ok (.goto 4, 3) := by decide +kernel
theorem dX12_knows_40 : decode cX12_knows 40 = .ok (.iconst (-1), 1) := by decide +kernel
theorem dX12_knows_41 : decode cX12_knows 41 = .ok (.ireturn, 1) := by decide +kernel
section
variable {p : Program} {l : Launch} {e : Env} {s : State} {m : MethodId} {args : Array Value} {below : List Frame} {meth : Method} {c : Code} {D : va_G} {cy : Nat → ClassId} {ad : Nat → Nat} {A : Nat → Prop} {aM aB aO aI aN aT aC aG aR aQ aK aL aX aH aJ aP aU aE0 aE1 aE2 aE3 : Nat → Nat} {gi : Value}
abbrev rm12_ask : Room := { frames := 5, cells := 0, slots := 0, locals := 108 }
theorem hdV12_ask : yX12_ask.cls = RX12 ∧ (yX12_ask.cls ≠ "java/lang/invoke/MethodHandle" ∧ yX12_ask.cls ≠ "java/lang/invoke/VarHandle" ∧ (parseMethodDescriptor yX12_ask.desc).map (fun d => d.parameters.length) = some 0) := by decide +kernel
theorem hin12_ask_12 : ∀ x ∈ u_ws RX12 TX12 39, x ∈ wsX12_ask := fun _ h => List.mem_cons_of_mem _ (List.mem_append_right _ h)
set_option maxRecDepth 100000 in
set_option maxHeartbeats 4000000 in
theorem t12_ask_150 (hC : Cx p s m args meth c cX12_ask 7 wsX12_ask RX12 (some .int)) {k23 : Int32 → Int32 → Int32 → Ob → Option (Int32 × Ob)} (hk23 : ∀ (x1 : Int32) (x2 : Int32) (x3 : Int32) (SM : Ob) (res : Int32 × Ob) (H : Heap) (locs : List Loc) (ls : Array Slot), k23 x1 x2 x3 SM = some res → GW D cy ad (w12 cy aM SM) A s H locs → lv_has ls 7 [(0, .ref (aM 0)), (1, .int x1), (2, .int x2), (3, .int x3)] → W p l e rm12_ask s m args below meth c H locs 0 0 (MQ below (QI D cy (w12 cy aM (res.2)) A (res.1)) args s 0 0 A) (F0 m 23 ls [])) : ∀ (x1 : Int32) (x2 : Int32) (x3 : Int32) (SM : Ob) (res : Int32 × Ob) (H : Heap) (locs : List Loc) (ls : Array Slot), f12_ask_150 k23 x1 x2 x3 SM = some res → GW D cy ad (w12 cy aM SM) A s H locs → lv_has ls 7 [(0, .ref (aM 0)), (1, .int x1), (2, .int x2), (3, .int x3)] → W p l e rm12_ask s m args below meth c H locs 0 0 (MQ below (QI D cy (w12 cy aM (res.2)) A (res.1)) args s 0 0 A) (F0 m 150 ls []) := by
  intro x1 x2 x3 SM res H locs ls hf hW hl
  unfold f12_ask_150 at hf
  obtain ⟨x3_1, ex3_1⟩ : ∃ y : Int32, y = x3 + 1 := ⟨_, rfl⟩
  have hf := lt_nm hf ex3_1
  refine lv_iinc (v := x3_1) (lv' := [(3, .int x3_1), (0, .ref (aM 0)), (1, .int x1), (2, .int x2)]) hC.1 hC.2.1 dX12_ask_150 hl (k := 3) rfl (by rw [ex3_1]; rfl) (by decide) rfl (fun ls hl => ?_)
  refine lv_goto (tgt := 23) hC.1 hC.2.1 dX12_ask_153 (by decide) ?_
  exact hk23 _ _ _ _ _ _ _ _ hf hW (lv_sub hl [1, 2, 3, 0] rfl)
set_option maxRecDepth 100000 in
set_option maxHeartbeats 4000000 in
theorem t12_ask_149 (hC : Cx p s m args meth c cX12_ask 7 wsX12_ask RX12 (some .int)) {k23 : Int32 → Int32 → Int32 → Ob → Option (Int32 × Ob)} (hk23 : ∀ (x1 : Int32) (x2 : Int32) (x3 : Int32) (SM : Ob) (res : Int32 × Ob) (H : Heap) (locs : List Loc) (ls : Array Slot), k23 x1 x2 x3 SM = some res → GW D cy ad (w12 cy aM SM) A s H locs → lv_has ls 7 [(0, .ref (aM 0)), (1, .int x1), (2, .int x2), (3, .int x3)] → W p l e rm12_ask s m args below meth c H locs 0 0 (MQ below (QI D cy (w12 cy aM (res.2)) A (res.1)) args s 0 0 A) (F0 m 23 ls [])) : ∀ (x1 : Int32) (x3 : Int32) (z0 : Int32) (SM : Ob) (res : Int32 × Ob) (H : Heap) (locs : List Loc) (ls : Array Slot), f12_ask_149 k23 x1 x3 z0 SM = some res → GW D cy ad (w12 cy aM SM) A s H locs → lv_has ls 7 [(0, .ref (aM 0)), (1, .int x1), (3, .int x3)] → W p l e rm12_ask s m args below meth c H locs 0 0 (MQ below (QI D cy (w12 cy aM (res.2)) A (res.1)) args s 0 0 A) (F0 m 149 ls [.int z0]) := by
  intro x1 x3 z0 SM res H locs ls hf hW hl
  unfold f12_ask_149 at hf
  refine lv_istore_n (lv' := [(2, .int z0), (0, .ref (aM 0)), (1, .int x1), (3, .int x3)]) hC.1 hC.2.1 dX12_ask_149 rfl hl (by decide) rfl (fun ls hl => ?_)
  exact t12_ask_150 hC hk23  _ _ _ _ _ _ _ _ hf hW (lv_sub hl [1, 2, 0, 3] rfl)
set_option maxRecDepth 100000 in
set_option maxHeartbeats 4000000 in
theorem t12_ask_136 (hC : Cx p s m args meth c cX12_ask 7 wsX12_ask RX12 (some .int)) {k23 : Int32 → Int32 → Int32 → Ob → Option (Int32 × Ob)} (hk23 : ∀ (x1 : Int32) (x2 : Int32) (x3 : Int32) (SM : Ob) (res : Int32 × Ob) (H : Heap) (locs : List Loc) (ls : Array Slot), k23 x1 x2 x3 SM = some res → GW D cy ad (w12 cy aM SM) A s H locs → lv_has ls 7 [(0, .ref (aM 0)), (1, .int x1), (2, .int x2), (3, .int x3)] → W p l e rm12_ask s m args below meth c H locs 0 0 (MQ below (QI D cy (w12 cy aM (res.2)) A (res.1)) args s 0 0 A) (F0 m 23 ls [])) : ∀ (x2 : Int32) (x3 : Int32) (x6 : Int32) (z0 : Int32) (SM : Ob) (res : Int32 × Ob) (H : Heap) (locs : List Loc) (ls : Array Slot), f12_ask_136 k23 x2 x3 x6 z0 SM = some res → GW D cy ad (w12 cy aM SM) A s H locs → lv_has ls 7 [(0, .ref (aM 0)), (2, .int x2), (3, .int x3), (6, .int x6)] → W p l e rm12_ask s m args below meth c H locs 0 0 (MQ below (QI D cy (w12 cy aM (res.2)) A (res.1)) args s 0 0 A) (F0 m 136 ls [.int z0]) := by
  intro x2 x3 x6 z0 SM res H locs ls hf hW hl
  unfold f12_ask_136 at hf
  refine lv_istore_n (lv' := [(1, .int z0), (0, .ref (aM 0)), (2, .int x2), (3, .int x3), (6, .int x6)]) hC.1 hC.2.1 dX12_ask_136 rfl hl (by decide) rfl (fun ls hl => ?_)
  refine lv_iload hC.1 hC.2.1 dX12_ask_137 (lv_at hl 4 rfl) ?_
  refine lv_iload_n hC.1 hC.2.1 dX12_ask_139 rfl (lv_at hl 2 rfl) ?_
  refine lv_icmp_ge (tgt := 148) hC.1 hC.2.1 dX12_ask_140 (by decide) (fun hc_1 => ?_) (fun hc_1 => ?_)
  · have hf := ite_t hf hc_1
    refine lv_iload_n hC.1 hC.2.1 dX12_ask_148 rfl (lv_at hl 2 rfl) ?_
    exact t12_ask_149 hC hk23  _ _ _ _ _ _ _ _ hf hW (lv_sub hl [1, 0, 3] rfl)
  · have hf := ite_f hf hc_1
    refine lv_iload hC.1 hC.2.1 dX12_ask_143 (lv_at hl 4 rfl) ?_
    refine lv_goto (tgt := 149) hC.1 hC.2.1 dX12_ask_145 (by decide) ?_
    exact t12_ask_149 hC hk23  _ _ _ _ _ _ _ _ hf hW (lv_sub hl [1, 0, 3] rfl)
set_option maxRecDepth 100000 in
set_option maxHeartbeats 4000000 in
theorem t12_ask_123 (hC : Cx p s m args meth c cX12_ask 7 wsX12_ask RX12 (some .int)) {k23 : Int32 → Int32 → Int32 → Ob → Option (Int32 × Ob)} (hk23 : ∀ (x1 : Int32) (x2 : Int32) (x3 : Int32) (SM : Ob) (res : Int32 × Ob) (H : Heap) (locs : List Loc) (ls : Array Slot), k23 x1 x2 x3 SM = some res → GW D cy ad (w12 cy aM SM) A s H locs → lv_has ls 7 [(0, .ref (aM 0)), (1, .int x1), (2, .int x2), (3, .int x3)] → W p l e rm12_ask s m args below meth c H locs 0 0 (MQ below (QI D cy (w12 cy aM (res.2)) A (res.1)) args s 0 0 A) (F0 m 23 ls [])) : ∀ (x1 : Int32) (x2 : Int32) (x3 : Int32) (z0 : Int32) (SM : Ob) (res : Int32 × Ob) (H : Heap) (locs : List Loc) (ls : Array Slot), f12_ask_123 k23 x1 x2 x3 z0 SM = some res → GW D cy ad (w12 cy aM SM) A s H locs → lv_has ls 7 [(0, .ref (aM 0)), (1, .int x1), (2, .int x2), (3, .int x3)] → W p l e rm12_ask s m args below meth c H locs 0 0 (MQ below (QI D cy (w12 cy aM (res.2)) A (res.1)) args s 0 0 A) (F0 m 123 ls [.int z0]) := by
  intro x1 x2 x3 z0 SM res H locs ls hf hW hl
  unfold f12_ask_123 at hf
  refine lv_istore (lv' := [(6, .int z0), (0, .ref (aM 0)), (1, .int x1), (2, .int x2), (3, .int x3)]) hC.1 hC.2.1 dX12_ask_123 hl (by decide) rfl (fun ls hl => ?_)
  refine lv_iload hC.1 hC.2.1 dX12_ask_125 (lv_at hl 0 rfl) ?_
  refine lv_iload_n hC.1 hC.2.1 dX12_ask_127 rfl (lv_at hl 3 rfl) ?_
  refine lv_icmp_ge (tgt := 135) hC.1 hC.2.1 dX12_ask_128 (by decide) (fun hc_1 => ?_) (fun hc_1 => ?_)
  · have hf := ite_t hf hc_1
    refine lv_iload_n hC.1 hC.2.1 dX12_ask_135 rfl (lv_at hl 2 rfl) ?_
    exact t12_ask_136 hC hk23  _ _ _ _ _ _ _ _ _ hf hW (lv_sub hl [1, 3, 4, 0] rfl)
  · have hf := ite_f hf hc_1
    refine lv_iload_n hC.1 hC.2.1 dX12_ask_131 rfl (lv_at hl 4 rfl) ?_
    refine lv_goto (tgt := 136) hC.1 hC.2.1 dX12_ask_132 (by decide) ?_
    exact t12_ask_136 hC hk23  _ _ _ _ _ _ _ _ _ hf hW (lv_sub hl [1, 3, 4, 0] rfl)
set_option maxRecDepth 100000 in
set_option maxHeartbeats 4000000 in
theorem t12_ask_23 (hC : Cx p s m args meth c cX12_ask 7 wsX12_ask RX12 (some .int)) : ∀ n : Nat, ∀ (x1 : Int32) (x2 : Int32) (x3 : Int32) (SM : Ob) (res : Int32 × Ob) (H : Heap) (locs : List Loc) (ls : Array Slot), f12_ask_23 n x1 x2 x3 SM = some res → GW D cy ad (w12 cy aM SM) A s H locs → lv_has ls 7 [(0, .ref (aM 0)), (1, .int x1), (2, .int x2), (3, .int x3)] → W p l e rm12_ask s m args below meth c H locs 0 0 (MQ below (QI D cy (w12 cy aM (res.2)) A (res.1)) args s 0 0 A) (F0 m 23 ls []) := by
  intro n
  induction n with
  | zero =>
    intro _ _ _ _ _ _ _ _ hf _ _
    exact nomatch (show (none : Option (Int32 × Ob)) = some _ from hf)
  | succ n ih =>
    intro x1 x2 x3 SM res H locs ls hf hW hl
    rw [f12_ask_23] at hf
    refine lv_iload_n hC.1 hC.2.1 dX12_ask_23 rfl (lv_at hl 3 rfl) ?_
    refine lv_bipush (v := 64) hC.1 hC.2.1 dX12_ask_24 (by decide) ?_
    refine lv_icmp_ge (tgt := 156) hC.1 hC.2.1 dX12_ask_26 (by decide) (fun hc_1 => ?_) (fun hc_1 => ?_)
    · have hf := ite_t hf hc_1
      refine lv_iload_n hC.1 hC.2.1 dX12_ask_156 rfl (lv_at hl 1 rfl) ?_
      obtain rfl := Option.some.inj hf
      exact g_iret hC hW dX12_ask_157
    · have hf := ite_f hf hc_1
      refine lv_aload_n hC.1 hC.2.1 dX12_ask_29 rfl (lv_at hl 0 rfl) ?_
      refine lv_iload_n hC.1 hC.2.1 dX12_ask_30 rfl (lv_at hl 3 rfl) ?_
      refine lv_bipush (v := 8) hC.1 hC.2.1 dX12_ask_31 (by decide) ?_
      obtain ⟨hz_2, hf⟩ := ck_of hf
      refine lv_idiv hC.1 hC.2.1 dX12_ask_33 (nz_of hz_2) ?_
      obtain ⟨r_3, hg_4, hf⟩ := bd_of hf
      refine g_calliV hC hW (c12_isGuest l D cy ad aM hg_4) (cwV 1 hC.2.2.2.2.1 gX12_ask_X12_isGuest rfl rfl rfl hdV12_isGuest ⟨Nat.le_of_ble_eq_true rfl, Nat.le_of_ble_eq_true rfl⟩) (Sub.all _ _) 0 11 rfl rfl rfl rfl hl.1 rfl (Nat.le_of_ble_eq_true rfl) dX12_ask_34 ⟨Nat.zero_le _, Nat.zero_le _⟩ (fun H locs hW => ?_)
      refine lv_if_eq (tgt := 150) hC.1 hC.2.1 dX12_ask_37 (by decide) (fun hc_5 => ?_) (fun hc_5 => ?_)
      · have hf := ite_t hf hc_5
        exact t12_ask_150 hC ih  _ _ _ _ _ _ _ _ hf hW (lv_sub hl [0, 1, 2, 3] rfl)
      · have hf := ite_f hf hc_5
        refine lv_aload_n hC.1 hC.2.1 dX12_ask_40 rfl (lv_at hl 0 rfl) ?_
        refine lv_iload_n hC.1 hC.2.1 dX12_ask_41 rfl (lv_at hl 3 rfl) ?_
        refine lv_bipush (v := 8) hC.1 hC.2.1 dX12_ask_42 (by decide) ?_
        obtain ⟨hz_6, hf⟩ := ck_of hf
        refine lv_irem hC.1 hC.2.1 dX12_ask_44 (nz_of hz_6) ?_
        obtain ⟨r_7, hg_8, hf⟩ := bd_of hf
        refine g_calliV hC hW (c12_isGuest l D cy ad aM hg_8) (cwV 1 hC.2.2.2.2.1 gX12_ask_X12_isGuest rfl rfl rfl hdV12_isGuest ⟨Nat.le_of_ble_eq_true rfl, Nat.le_of_ble_eq_true rfl⟩) (Sub.all _ _) 0 11 rfl rfl rfl rfl hl.1 rfl (Nat.le_of_ble_eq_true rfl) dX12_ask_45 ⟨Nat.zero_le _, Nat.zero_le _⟩ (fun H locs hW => ?_)
        refine lv_if_eq (tgt := 150) hC.1 hC.2.1 dX12_ask_48 (by decide) (fun hc_9 => ?_) (fun hc_9 => ?_)
        · have hf := ite_t hf hc_9
          exact t12_ask_150 hC ih  _ _ _ _ _ _ _ _ hf hW (lv_sub hl [0, 1, 2, 3] rfl)
        · have hf := ite_f hf hc_9
          refine lv_aload_n hC.1 hC.2.1 dX12_ask_51 rfl (lv_at hl 0 rfl) ?_
          refine lv_aload_n hC.1 hC.2.1 dX12_ask_52 rfl (lv_at hl 0 rfl) ?_
          refine g_get hC hW hin12_ask_12 0 rfl rfl 25 (by decide) 2 rfl rfl dX12_ask_53 ?_
          refine lv_iconst (v := 0) hC.1 hC.2.1 dX12_ask_56 (by decide) ?_
          obtain ⟨hi_10, hf⟩ := ck_of hf
          refine g_iald hC hW 16 rfl hi_10 dX12_ask_57 ?_
          refine lv_aload_n hC.1 hC.2.1 dX12_ask_58 rfl (lv_at hl 0 rfl) ?_
          refine lv_iload_n hC.1 hC.2.1 dX12_ask_59 rfl (lv_at hl 3 rfl) ?_
          refine lv_bipush (v := 8) hC.1 hC.2.1 dX12_ask_60 (by decide) ?_
          obtain ⟨hz_11, hf⟩ := ck_of hf
          refine lv_idiv hC.1 hC.2.1 dX12_ask_62 (nz_of hz_11) ?_
          refine lv_iload_n hC.1 hC.2.1 dX12_ask_63 rfl (lv_at hl 3 rfl) ?_
          refine lv_bipush (v := 8) hC.1 hC.2.1 dX12_ask_64 (by decide) ?_
          obtain ⟨hz_12, hf⟩ := ck_of hf
          refine lv_irem hC.1 hC.2.1 dX12_ask_66 (nz_of hz_12) ?_
          refine lv_iconst (v := 1) hC.1 hC.2.1 dX12_ask_67 (by decide) ?_
          obtain ⟨r_13, hg_14, hf⟩ := bd_of hf
          refine g_calliV hC hW (c12_answerIn l D cy ad aM hg_14) (cwV 3 hC.2.2.2.2.1 gX12_ask_X12_answerIn rfl rfl rfl hdV12_answerIn ⟨Nat.le_of_ble_eq_true rfl, Nat.le_of_ble_eq_true rfl⟩) (Sub.all _ _) 0 11 rfl rfl rfl rfl hl.1 rfl (Nat.le_of_ble_eq_true rfl) dX12_ask_68 ⟨Nat.zero_le _, Nat.zero_le _⟩ (fun H locs hW => ?_)
          refine lv_iand hC.1 hC.2.1 dX12_ask_71 ?_
          obtain ⟨r_15, hg_16, hf⟩ := bd_of hf
          refine g_calliV hC hW (c12_whoIn l D cy ad aM hg_16) (cwV 1 hC.2.2.2.2.1 gX12_ask_X12_whoIn rfl rfl rfl hdV12_whoIn ⟨Nat.le_of_ble_eq_true rfl, Nat.le_of_ble_eq_true rfl⟩) (Sub.all _ _) 0 11 rfl rfl rfl rfl hl.1 rfl (Nat.le_of_ble_eq_true rfl) dX12_ask_72 ⟨Nat.zero_le _, Nat.zero_le _⟩ (fun H locs hW => ?_)
          obtain ⟨r_17, hg_18, hf⟩ := bd_of hf
          refine g_calliS hC hW (c12_bits l D cy ad  hg_18) (va_cwS 1 hC.2.2.2.2.1 gX12_ask_X12_bits rfl rfl rfl hdS12_bits ⟨Nat.le_of_ble_eq_true rfl, Nat.le_of_ble_eq_true rfl⟩) (Sub.nil _) rfl hl.1 rfl (Nat.le_of_ble_eq_true rfl) dX12_ask_75 ⟨Nat.zero_le _, Nat.zero_le _⟩ (fun H locs hW => ?_)
          refine lv_istore (lv' := [(4, .int r_17), (0, .ref (aM 0)), (1, .int x1), (2, .int x2), (3, .int x3)]) hC.1 hC.2.1 dX12_ask_78 hl (by decide) rfl (fun ls hl => ?_)
          refine lv_aload_n hC.1 hC.2.1 dX12_ask_80 rfl (lv_at hl 1 rfl) ?_
          refine lv_aload_n hC.1 hC.2.1 dX12_ask_81 rfl (lv_at hl 1 rfl) ?_
          refine g_get hC hW hin12_ask_12 0 rfl rfl 25 (by decide) 2 rfl rfl dX12_ask_82 ?_
          refine lv_iconst (v := 0) hC.1 hC.2.1 dX12_ask_85 (by decide) ?_
          obtain ⟨hi_19, hf⟩ := ck_of hf
          refine g_iald hC hW 16 rfl hi_19 dX12_ask_86 ?_
          refine lv_aload_n hC.1 hC.2.1 dX12_ask_87 rfl (lv_at hl 1 rfl) ?_
          refine lv_iload_n hC.1 hC.2.1 dX12_ask_88 rfl (lv_at hl 4 rfl) ?_
          refine lv_bipush (v := 8) hC.1 hC.2.1 dX12_ask_89 (by decide) ?_
          obtain ⟨hz_20, hf⟩ := ck_of hf
          refine lv_idiv hC.1 hC.2.1 dX12_ask_91 (nz_of hz_20) ?_
          refine lv_iload_n hC.1 hC.2.1 dX12_ask_92 rfl (lv_at hl 4 rfl) ?_
          refine lv_bipush (v := 8) hC.1 hC.2.1 dX12_ask_93 (by decide) ?_
          obtain ⟨hz_21, hf⟩ := ck_of hf
          refine lv_irem hC.1 hC.2.1 dX12_ask_95 (nz_of hz_21) ?_
          refine lv_iconst (v := 0) hC.1 hC.2.1 dX12_ask_96 (by decide) ?_
          obtain ⟨r_22, hg_23, hf⟩ := bd_of hf
          refine g_calliV hC hW (c12_answerIn l D cy ad aM hg_23) (cwV 3 hC.2.2.2.2.1 gX12_ask_X12_answerIn rfl rfl rfl hdV12_answerIn ⟨Nat.le_of_ble_eq_true rfl, Nat.le_of_ble_eq_true rfl⟩) (Sub.all _ _) 0 11 rfl rfl rfl rfl hl.1 rfl (Nat.le_of_ble_eq_true rfl) dX12_ask_97 ⟨Nat.zero_le _, Nat.zero_le _⟩ (fun H locs hW => ?_)
          refine lv_iand hC.1 hC.2.1 dX12_ask_100 ?_
          obtain ⟨r_24, hg_25, hf⟩ := bd_of hf
          refine g_calliV hC hW (c12_whoIn l D cy ad aM hg_25) (cwV 1 hC.2.2.2.2.1 gX12_ask_X12_whoIn rfl rfl rfl hdV12_whoIn ⟨Nat.le_of_ble_eq_true rfl, Nat.le_of_ble_eq_true rfl⟩) (Sub.all _ _) 0 11 rfl rfl rfl rfl hl.1 rfl (Nat.le_of_ble_eq_true rfl) dX12_ask_101 ⟨Nat.zero_le _, Nat.zero_le _⟩ (fun H locs hW => ?_)
          obtain ⟨r_26, hg_27, hf⟩ := bd_of hf
          refine g_calliS hC hW (c12_bits l D cy ad  hg_27) (va_cwS 1 hC.2.2.2.2.1 gX12_ask_X12_bits rfl rfl rfl hdS12_bits ⟨Nat.le_of_ble_eq_true rfl, Nat.le_of_ble_eq_true rfl⟩) (Sub.nil _) rfl hl.1 rfl (Nat.le_of_ble_eq_true rfl) dX12_ask_104 ⟨Nat.zero_le _, Nat.zero_le _⟩ (fun H locs hW => ?_)
          refine lv_istore (lv' := [(5, .int r_26), (4, .int r_17), (0, .ref (aM 0)), (1, .int x1), (2, .int x2), (3, .int x3)]) hC.1 hC.2.1 dX12_ask_107 hl (by decide) rfl (fun ls hl => ?_)
          refine lv_iload hC.1 hC.2.1 dX12_ask_109 (lv_at hl 1 rfl) ?_
          refine lv_iload hC.1 hC.2.1 dX12_ask_111 (lv_at hl 0 rfl) ?_
          refine lv_icmp_le (tgt := 121) hC.1 hC.2.1 dX12_ask_113 (by decide) (fun hc_28 => ?_) (fun hc_28 => ?_)
          · have hf := ite_t hf hc_28
            refine lv_iload hC.1 hC.2.1 dX12_ask_121 (lv_at hl 0 rfl) ?_
            exact t12_ask_123 hC ih  _ _ _ _ _ _ _ _ _ hf hW (lv_sub hl [2, 3, 4, 5] rfl)
          · have hf := ite_f hf hc_28
            refine lv_iload hC.1 hC.2.1 dX12_ask_116 (lv_at hl 1 rfl) ?_
            refine lv_goto (tgt := 123) hC.1 hC.2.1 dX12_ask_118 (by decide) ?_
            exact t12_ask_123 hC ih  _ _ _ _ _ _ _ _ _ hf hW (lv_sub hl [2, 3, 4, 5] rfl)
set_option maxRecDepth 100000 in
set_option maxHeartbeats 4000000 in
theorem t12_ask_0 (hC : Cx p s m args meth c cX12_ask 7 wsX12_ask RX12 (some .int)) : ∀ (SM : Ob) (res : Int32 × Ob) (H : Heap) (locs : List Loc) (ls : Array Slot), f12_ask SM = some res → GW D cy ad (w12 cy aM SM) A s H locs → lv_has ls 7 [(0, .ref (aM 0))] → W p l e rm12_ask s m args below meth c H locs 0 0 (MQ below (QI D cy (w12 cy aM (res.2)) A (res.1)) args s 0 0 A) (F0 m 0 ls []) := by
  intro SM res H locs ls hf hW hl
  unfold f12_ask at hf
  refine lv_aload_n hC.1 hC.2.1 dX12_ask_0 rfl (lv_at hl 0 rfl) ?_
  refine lv_iconst (v := 0) hC.1 hC.2.1 dX12_ask_1 (by decide) ?_
  obtain ⟨SM_1, eSM_1⟩ : ∃ y : Ob, y = oI SM 0 0 := ⟨_, rfl⟩
  have hf := lt_nm hf eSM_1
  refine g_put hC hW hin12_ask_12 tyX12 tyX12_ok nmX12 0 rfl rfl 0 (by decide) 1 rfl rfl rfl rfl (Nat.le_of_ble_eq_true rfl) (w' := w12 cy aM SM_1) (by rw [eSM_1]; rfl) dX12_ask_2 (fun H locs hW => ?_)
  refine lv_iconst (v := (-1)) hC.1 hC.2.1 dX12_ask_5 (by decide) ?_
  refine lv_istore_n (lv' := [(1, .int (-1)), (0, .ref (aM 0))]) hC.1 hC.2.1 dX12_ask_6 rfl hl (by decide) rfl (fun ls hl => ?_)
  refine lv_aload_n hC.1 hC.2.1 dX12_ask_7 rfl (lv_at hl 1 rfl) ?_
  refine lv_aload_n hC.1 hC.2.1 dX12_ask_8 rfl (lv_at hl 1 rfl) ?_
  refine g_get hC hW hin12_ask_12 0 rfl rfl 25 (by decide) 2 rfl rfl dX12_ask_9 ?_
  refine lv_iconst (v := 0) hC.1 hC.2.1 dX12_ask_12 (by decide) ?_
  obtain ⟨hi_2, hf⟩ := ck_of hf
  refine g_iald hC hW 16 rfl hi_2 dX12_ask_13 ?_
  obtain ⟨r_3, hg_4, hf⟩ := bd_of hf
  refine g_calliV hC hW (c12_whoIn l D cy ad aM hg_4) (cwV 1 hC.2.2.2.2.1 gX12_ask_X12_whoIn rfl rfl rfl hdV12_whoIn ⟨Nat.le_of_ble_eq_true rfl, Nat.le_of_ble_eq_true rfl⟩) (Sub.all _ _) 0 11 rfl rfl rfl rfl hl.1 rfl (Nat.le_of_ble_eq_true rfl) dX12_ask_14 ⟨Nat.zero_le _, Nat.zero_le _⟩ (fun H locs hW => ?_)
  obtain ⟨r_5, hg_6, hf⟩ := bd_of hf
  refine g_calliS hC hW (c12_bits l D cy ad  hg_6) (va_cwS 1 hC.2.2.2.2.1 gX12_ask_X12_bits rfl rfl rfl hdS12_bits ⟨Nat.le_of_ble_eq_true rfl, Nat.le_of_ble_eq_true rfl⟩) (Sub.nil _) rfl hl.1 rfl (Nat.le_of_ble_eq_true rfl) dX12_ask_17 ⟨Nat.zero_le _, Nat.zero_le _⟩ (fun H locs hW => ?_)
  refine lv_istore_n (lv' := [(2, .int r_5), (1, .int (-1)), (0, .ref (aM 0))]) hC.1 hC.2.1 dX12_ask_20 rfl hl (by decide) rfl (fun ls hl => ?_)
  refine lv_iconst (v := 0) hC.1 hC.2.1 dX12_ask_21 (by decide) ?_
  refine lv_istore_n (lv' := [(3, .int 0), (2, .int r_5), (1, .int (-1)), (0, .ref (aM 0))]) hC.1 hC.2.1 dX12_ask_22 rfl hl (by decide) rfl (fun ls hl => ?_)
  exact t12_ask_23 hC _ _ _ _ _ _ _ _ _ hf hW (lv_sub hl [3, 2, 1, 0] rfl)
set_option maxRecDepth 100000 in
set_option maxHeartbeats 4000000 in
theorem c12_ask (l : Launch) (D : va_G) (cy : Nat → ClassId) (ad : Nat → Nat) (aM : Nat → Nat) {SM : Ob} {res : Int32 × Ob} (h : f12_ask SM = some res) : GCi l yX12_ask wsX12_ask rm12_ask [.ref (aM 0)] D cy ad (w12 cy aM SM) (w12 cy aM (res.2)) (res.1) := fun sz => GC.start (own := RX12) (Qc := fun A => QI D cy (w12 cy aM (res.2)) A (res.1)) sz (by decide) rfl rfl (Nat.le_of_ble_eq_true rfl) (fun p e s m below meth c A ls hC hW hl => t12_ask_0 hC _ _ _ _ _ h hW (lv_sub hl [0] rfl))
abbrev rm12_fewest : Room := { frames := 5, cells := 0, slots := 0, locals := 108 }
theorem hdV12_fewest : yX12_fewest.cls = RX12 ∧ (yX12_fewest.cls ≠ "java/lang/invoke/MethodHandle" ∧ yX12_fewest.cls ≠ "java/lang/invoke/VarHandle" ∧ (parseMethodDescriptor yX12_fewest.desc).map (fun d => d.parameters.length) = some 0) := by decide +kernel
theorem hin12_fewest_12 : ∀ x ∈ u_ws RX12 TX12 39, x ∈ wsX12_fewest := fun _ h => List.mem_cons_of_mem _ (List.mem_append_right _ h)
set_option maxRecDepth 100000 in
set_option maxHeartbeats 4000000 in
theorem t12_fewest_187 (hC : Cx p s m args meth c cX12_fewest 6 wsX12_fewest RX12 (some .int)) {k7 : Int32 → Ob → Option (Int32 × Ob)} (hk7 : ∀ (x1 : Int32) (SM : Ob) (res : Int32 × Ob) (H : Heap) (locs : List Loc) (ls : Array Slot), k7 x1 SM = some res → GW D cy ad (w12 cy aM SM) A s H locs → lv_has ls 6 [(0, .ref (aM 0)), (1, .int x1)] → W p l e rm12_fewest s m args below meth c H locs 0 0 (MQ below (QI D cy (w12 cy aM (res.2)) A (res.1)) args s 0 0 A) (F0 m 7 ls [])) {k39 : Int32 → Int32 → Ob → Option (Int32 × Ob)} (hk39 : ∀ (x1 : Int32) (x2 : Int32) (SM : Ob) (res : Int32 × Ob) (H : Heap) (locs : List Loc) (ls : Array Slot), k39 x1 x2 SM = some res → GW D cy ad (w12 cy aM SM) A s H locs → lv_has ls 6 [(0, .ref (aM 0)), (1, .int x1), (2, .int x2)] → W p l e rm12_fewest s m args below meth c H locs 0 0 (MQ below (QI D cy (w12 cy aM (res.2)) A (res.1)) args s 0 0 A) (F0 m 39 ls [])) : ∀ (x1 : Int32) (x2 : Int32) (SM : Ob) (res : Int32 × Ob) (H : Heap) (locs : List Loc) (ls : Array Slot), f12_fewest_187 k7 k39 x1 x2 SM = some res → GW D cy ad (w12 cy aM SM) A s H locs → lv_has ls 6 [(0, .ref (aM 0)), (1, .int x1), (2, .int x2)] → W p l e rm12_fewest s m args below meth c H locs 0 0 (MQ below (QI D cy (w12 cy aM (res.2)) A (res.1)) args s 0 0 A) (F0 m 187 ls []) := by
  intro x1 x2 SM res H locs ls hf hW hl
  unfold f12_fewest_187 at hf
  obtain ⟨x2_1, ex2_1⟩ : ∃ y : Int32, y = x2 + 1 := ⟨_, rfl⟩
  have hf := lt_nm hf ex2_1
  refine lv_iinc (v := x2_1) (lv' := [(2, .int x2_1), (0, .ref (aM 0)), (1, .int x1)]) hC.1 hC.2.1 dX12_fewest_187 hl (k := 2) rfl (by rw [ex2_1]; rfl) (by decide) rfl (fun ls hl => ?_)
  refine lv_goto (tgt := 39) hC.1 hC.2.1 dX12_fewest_190 (by decide) ?_
  exact hk39 _ _ _ _ _ _ _ hf hW (lv_sub hl [1, 2, 0] rfl)
set_option maxRecDepth 100000 in
set_option maxHeartbeats 4000000 in
theorem t12_fewest_186 (hC : Cx p s m args meth c cX12_fewest 6 wsX12_fewest RX12 (some .int)) {k7 : Int32 → Ob → Option (Int32 × Ob)} (hk7 : ∀ (x1 : Int32) (SM : Ob) (res : Int32 × Ob) (H : Heap) (locs : List Loc) (ls : Array Slot), k7 x1 SM = some res → GW D cy ad (w12 cy aM SM) A s H locs → lv_has ls 6 [(0, .ref (aM 0)), (1, .int x1)] → W p l e rm12_fewest s m args below meth c H locs 0 0 (MQ below (QI D cy (w12 cy aM (res.2)) A (res.1)) args s 0 0 A) (F0 m 7 ls [])) {k39 : Int32 → Int32 → Ob → Option (Int32 × Ob)} (hk39 : ∀ (x1 : Int32) (x2 : Int32) (SM : Ob) (res : Int32 × Ob) (H : Heap) (locs : List Loc) (ls : Array Slot), k39 x1 x2 SM = some res → GW D cy ad (w12 cy aM SM) A s H locs → lv_has ls 6 [(0, .ref (aM 0)), (1, .int x1), (2, .int x2)] → W p l e rm12_fewest s m args below meth c H locs 0 0 (MQ below (QI D cy (w12 cy aM (res.2)) A (res.1)) args s 0 0 A) (F0 m 39 ls [])) : ∀ (x1 : Int32) (x2 : Int32) (z1 : Int32) (z2 : Int32) (SM : Ob) (res : Int32 × Ob) (H : Heap) (locs : List Loc) (ls : Array Slot), f12_fewest_186 k7 k39 x1 x2 z1 z2 SM = some res → GW D cy ad (w12 cy aM SM) A s H locs → lv_has ls 6 [(0, .ref (aM 0)), (1, .int x1), (2, .int x2)] → W p l e rm12_fewest s m args below meth c H locs 0 0 (MQ below (QI D cy (w12 cy aM (res.2)) A (res.1)) args s 0 0 A) (F0 m 186 ls [.int z2, .int z1, .ref (aM 31)]) := by
  intro x1 x2 z1 z2 SM res H locs ls hf hW hl
  unfold f12_fewest_186 at hf
  obtain ⟨hi_1, hf⟩ := ck_of hf
  obtain ⟨SM_2, eSM_2⟩ : ∃ y : Ob, y = oA SM 30 (Int32.toNatClampNeg z1) z2 := ⟨_, rfl⟩
  have hf := lt_nm hf eSM_2
  refine g_iast hC hW 20 rfl hi_1 (w' := w12 cy aM SM_2) (by rw [eSM_2]; rfl) dX12_fewest_186 (fun H locs hW => ?_)
  exact t12_fewest_187 hC hk7 hk39  _ _ _ _ _ _ _ hf hW (lv_sub hl [0, 1, 2] rfl)
set_option maxRecDepth 100000 in
set_option maxHeartbeats 4000000 in
theorem t12_fewest_156 (hC : Cx p s m args meth c cX12_fewest 6 wsX12_fewest RX12 (some .int)) {k7 : Int32 → Ob → Option (Int32 × Ob)} (hk7 : ∀ (x1 : Int32) (SM : Ob) (res : Int32 × Ob) (H : Heap) (locs : List Loc) (ls : Array Slot), k7 x1 SM = some res → GW D cy ad (w12 cy aM SM) A s H locs → lv_has ls 6 [(0, .ref (aM 0)), (1, .int x1)] → W p l e rm12_fewest s m args below meth c H locs 0 0 (MQ below (QI D cy (w12 cy aM (res.2)) A (res.1)) args s 0 0 A) (F0 m 7 ls [])) {k39 : Int32 → Int32 → Ob → Option (Int32 × Ob)} (hk39 : ∀ (x1 : Int32) (x2 : Int32) (SM : Ob) (res : Int32 × Ob) (H : Heap) (locs : List Loc) (ls : Array Slot), k39 x1 x2 SM = some res → GW D cy ad (w12 cy aM SM) A s H locs → lv_has ls 6 [(0, .ref (aM 0)), (1, .int x1), (2, .int x2)] → W p l e rm12_fewest s m args below meth c H locs 0 0 (MQ below (QI D cy (w12 cy aM (res.2)) A (res.1)) args s 0 0 A) (F0 m 39 ls [])) : ∀ (x1 : Int32) (x2 : Int32) (z0 : Int32) (z1 : Int32) (SM : Ob) (res : Int32 × Ob) (H : Heap) (locs : List Loc) (ls : Array Slot), f12_fewest_156 k7 k39 x1 x2 z0 z1 SM = some res → GW D cy ad (w12 cy aM SM) A s H locs → lv_has ls 6 [(0, .ref (aM 0)), (1, .int x1), (2, .int x2)] → W p l e rm12_fewest s m args below meth c H locs 0 0 (MQ below (QI D cy (w12 cy aM (res.2)) A (res.1)) args s 0 0 A) (F0 m 156 ls [.int z1, .int z0]) := by
  intro x1 x2 z0 z1 SM res H locs ls hf hW hl
  unfold f12_fewest_156 at hf
  refine lv_iadd hC.1 hC.2.1 dX12_fewest_156 ?_
  refine lv_topi (fun x5_1 ex5_1 => ?_)
  have hf := lt_nm hf ex5_1
  refine lv_istore (lv' := [(5, .int x5_1), (0, .ref (aM 0)), (1, .int x1), (2, .int x2)]) hC.1 hC.2.1 dX12_fewest_157 hl (by decide) rfl (fun ls hl => ?_)
  refine lv_aload_n hC.1 hC.2.1 dX12_fewest_159 rfl (lv_at hl 1 rfl) ?_
  refine g_get hC hW hin12_fewest_12 0 rfl rfl 30 (by decide) 2 rfl rfl dX12_fewest_160 ?_
  refine lv_iload_n hC.1 hC.2.1 dX12_fewest_163 rfl (lv_at hl 2 rfl) ?_
  refine lv_iload hC.1 hC.2.1 dX12_fewest_164 (lv_at hl 0 rfl) ?_
  refine lv_aload_n hC.1 hC.2.1 dX12_fewest_166 rfl (lv_at hl 1 rfl) ?_
  refine g_get hC hW hin12_fewest_12 0 rfl rfl 30 (by decide) 2 rfl rfl dX12_fewest_167 ?_
  refine lv_iload_n hC.1 hC.2.1 dX12_fewest_170 rfl (lv_at hl 2 rfl) ?_
  obtain ⟨hi_2, hf⟩ := ck_of hf
  refine g_iald hC hW 20 rfl hi_2 dX12_fewest_171 ?_
  refine lv_icmp_ge (tgt := 180) hC.1 hC.2.1 dX12_fewest_172 (by decide) (fun hc_3 => ?_) (fun hc_3 => ?_)
  · have hf := ite_t hf hc_3
    refine lv_aload_n hC.1 hC.2.1 dX12_fewest_180 rfl (lv_at hl 1 rfl) ?_
    refine g_get hC hW hin12_fewest_12 0 rfl rfl 30 (by decide) 2 rfl rfl dX12_fewest_181 ?_
    refine lv_iload_n hC.1 hC.2.1 dX12_fewest_184 rfl (lv_at hl 2 rfl) ?_
    obtain ⟨hi_4, hf⟩ := ck_of hf
    refine g_iald hC hW 20 rfl hi_4 dX12_fewest_185 ?_
    exact t12_fewest_186 hC hk7 hk39  _ _ _ _ _ _ _ _ _ hf hW (lv_sub hl [1, 2, 3] rfl)
  · have hf := ite_f hf hc_3
    refine lv_iload hC.1 hC.2.1 dX12_fewest_175 (lv_at hl 0 rfl) ?_
    refine lv_goto (tgt := 186) hC.1 hC.2.1 dX12_fewest_177 (by decide) ?_
    exact t12_fewest_186 hC hk7 hk39  _ _ _ _ _ _ _ _ _ hf hW (lv_sub hl [1, 2, 3] rfl)
set_option maxRecDepth 100000 in
set_option maxHeartbeats 4000000 in
theorem t12_fewest_193 (hC : Cx p s m args meth c cX12_fewest 6 wsX12_fewest RX12 (some .int)) {k7 : Int32 → Ob → Option (Int32 × Ob)} (hk7 : ∀ (x1 : Int32) (SM : Ob) (res : Int32 × Ob) (H : Heap) (locs : List Loc) (ls : Array Slot), k7 x1 SM = some res → GW D cy ad (w12 cy aM SM) A s H locs → lv_has ls 6 [(0, .ref (aM 0)), (1, .int x1)] → W p l e rm12_fewest s m args below meth c H locs 0 0 (MQ below (QI D cy (w12 cy aM (res.2)) A (res.1)) args s 0 0 A) (F0 m 7 ls [])) : ∀ (x1 : Int32) (SM : Ob) (res : Int32 × Ob) (H : Heap) (locs : List Loc) (ls : Array Slot), f12_fewest_193 k7 x1 SM = some res → GW D cy ad (w12 cy aM SM) A s H locs → lv_has ls 6 [(0, .ref (aM 0)), (1, .int x1)] → W p l e rm12_fewest s m args below meth c H locs 0 0 (MQ below (QI D cy (w12 cy aM (res.2)) A (res.1)) args s 0 0 A) (F0 m 193 ls []) := by
  intro x1 SM res H locs ls hf hW hl
  unfold f12_fewest_193 at hf
  obtain ⟨x1_1, ex1_1⟩ : ∃ y : Int32, y = x1 + 1 := ⟨_, rfl⟩
  have hf := lt_nm hf ex1_1
  refine lv_iinc (v := x1_1) (lv' := [(1, .int x1_1), (0, .ref (aM 0))]) hC.1 hC.2.1 dX12_fewest_193 hl (k := 1) rfl (by rw [ex1_1]; rfl) (by decide) rfl (fun ls hl => ?_)
  refine lv_goto (tgt := 7) hC.1 hC.2.1 dX12_fewest_196 (by decide) ?_
  exact hk7 _ _ _ _ _ _ hf hW (lv_sub hl [1, 0] rfl)
set_option maxRecDepth 100000 in
set_option maxHeartbeats 4000000 in
theorem t12_fewest_39 (hC : Cx p s m args meth c cX12_fewest 6 wsX12_fewest RX12 (some .int)) {k7 : Int32 → Ob → Option (Int32 × Ob)} (hk7 : ∀ (x1 : Int32) (SM : Ob) (res : Int32 × Ob) (H : Heap) (locs : List Loc) (ls : Array Slot), k7 x1 SM = some res → GW D cy ad (w12 cy aM SM) A s H locs → lv_has ls 6 [(0, .ref (aM 0)), (1, .int x1)] → W p l e rm12_fewest s m args below meth c H locs 0 0 (MQ below (QI D cy (w12 cy aM (res.2)) A (res.1)) args s 0 0 A) (F0 m 7 ls [])) : ∀ n : Nat, ∀ (x1 : Int32) (x2 : Int32) (SM : Ob) (res : Int32 × Ob) (H : Heap) (locs : List Loc) (ls : Array Slot), f12_fewest_39 k7 n x1 x2 SM = some res → GW D cy ad (w12 cy aM SM) A s H locs → lv_has ls 6 [(0, .ref (aM 0)), (1, .int x1), (2, .int x2)] → W p l e rm12_fewest s m args below meth c H locs 0 0 (MQ below (QI D cy (w12 cy aM (res.2)) A (res.1)) args s 0 0 A) (F0 m 39 ls []) := by
  intro n
  induction n with
  | zero =>
    intro _ _ _ _ _ _ _ hf _ _
    exact nomatch (show (none : Option (Int32 × Ob)) = some _ from hf)
  | succ n ih =>
    intro x1 x2 SM res H locs ls hf hW hl
    rw [f12_fewest_39] at hf
    refine lv_iload_n hC.1 hC.2.1 dX12_fewest_39 rfl (lv_at hl 2 rfl) ?_
    refine lv_bipush (v := 64) hC.1 hC.2.1 dX12_fewest_40 (by decide) ?_
    refine lv_icmp_ge (tgt := 193) hC.1 hC.2.1 dX12_fewest_42 (by decide) (fun hc_1 => ?_) (fun hc_1 => ?_)
    · have hf := ite_t hf hc_1
      exact t12_fewest_193 hC hk7  _ _ _ _ _ _ hf hW (lv_sub hl [0, 1] rfl)
    · have hf := ite_f hf hc_1
      refine lv_iload_n hC.1 hC.2.1 dX12_fewest_45 rfl (lv_at hl 1 rfl) ?_
      obtain ⟨r_2, hg_3, hf⟩ := bd_of hf
      refine g_calliS hC hW (c12_alone l D cy ad  hg_3) (va_cwS 1 hC.2.2.2.2.1 gX12_fewest_X12_alone rfl rfl rfl hdS12_alone ⟨Nat.le_of_ble_eq_true rfl, Nat.le_of_ble_eq_true rfl⟩) (Sub.nil _) rfl hl.1 rfl (Nat.le_of_ble_eq_true rfl) dX12_fewest_46 ⟨Nat.zero_le _, Nat.zero_le _⟩ (fun H locs hW => ?_)
      refine lv_if_ge (tgt := 193) hC.1 hC.2.1 dX12_fewest_49 (by decide) (fun hc_4 => ?_) (fun hc_4 => ?_)
      · have hf := ite_t hf hc_4
        exact t12_fewest_193 hC hk7  _ _ _ _ _ _ hf hW (lv_sub hl [0, 1] rfl)
      · have hf := ite_f hf hc_4
        refine lv_aload_n hC.1 hC.2.1 dX12_fewest_52 rfl (lv_at hl 0 rfl) ?_
        refine lv_iload_n hC.1 hC.2.1 dX12_fewest_53 rfl (lv_at hl 2 rfl) ?_
        refine lv_bipush (v := 8) hC.1 hC.2.1 dX12_fewest_54 (by decide) ?_
        obtain ⟨hz_5, hf⟩ := ck_of hf
        refine lv_idiv hC.1 hC.2.1 dX12_fewest_56 (nz_of hz_5) ?_
        obtain ⟨r_6, hg_7, hf⟩ := bd_of hf
        refine g_calliV hC hW (c12_isGuest l D cy ad aM hg_7) (cwV 1 hC.2.2.2.2.1 gX12_fewest_X12_isGuest rfl rfl rfl hdV12_isGuest ⟨Nat.le_of_ble_eq_true rfl, Nat.le_of_ble_eq_true rfl⟩) (Sub.all _ _) 0 11 rfl rfl rfl rfl hl.1 rfl (Nat.le_of_ble_eq_true rfl) dX12_fewest_57 ⟨Nat.zero_le _, Nat.zero_le _⟩ (fun H locs hW => ?_)
        refine lv_if_eq (tgt := 187) hC.1 hC.2.1 dX12_fewest_60 (by decide) (fun hc_8 => ?_) (fun hc_8 => ?_)
        · have hf := ite_t hf hc_8
          exact t12_fewest_187 hC hk7 ih  _ _ _ _ _ _ _ hf hW (lv_sub hl [0, 1, 2] rfl)
        · have hf := ite_f hf hc_8
          refine lv_aload_n hC.1 hC.2.1 dX12_fewest_63 rfl (lv_at hl 0 rfl) ?_
          refine lv_iload_n hC.1 hC.2.1 dX12_fewest_64 rfl (lv_at hl 2 rfl) ?_
          refine lv_bipush (v := 8) hC.1 hC.2.1 dX12_fewest_65 (by decide) ?_
          obtain ⟨hz_9, hf⟩ := ck_of hf
          refine lv_irem hC.1 hC.2.1 dX12_fewest_67 (nz_of hz_9) ?_
          obtain ⟨r_10, hg_11, hf⟩ := bd_of hf
          refine g_calliV hC hW (c12_isGuest l D cy ad aM hg_11) (cwV 1 hC.2.2.2.2.1 gX12_fewest_X12_isGuest rfl rfl rfl hdV12_isGuest ⟨Nat.le_of_ble_eq_true rfl, Nat.le_of_ble_eq_true rfl⟩) (Sub.all _ _) 0 11 rfl rfl rfl rfl hl.1 rfl (Nat.le_of_ble_eq_true rfl) dX12_fewest_68 ⟨Nat.zero_le _, Nat.zero_le _⟩ (fun H locs hW => ?_)
          refine lv_if_eq (tgt := 187) hC.1 hC.2.1 dX12_fewest_71 (by decide) (fun hc_12 => ?_) (fun hc_12 => ?_)
          · have hf := ite_t hf hc_12
            exact t12_fewest_187 hC hk7 ih  _ _ _ _ _ _ _ hf hW (lv_sub hl [0, 1, 2] rfl)
          · have hf := ite_f hf hc_12
            refine lv_aload_n hC.1 hC.2.1 dX12_fewest_74 rfl (lv_at hl 0 rfl) ?_
            refine lv_iload_n hC.1 hC.2.1 dX12_fewest_75 rfl (lv_at hl 2 rfl) ?_
            refine lv_bipush (v := 8) hC.1 hC.2.1 dX12_fewest_76 (by decide) ?_
            obtain ⟨hz_13, hf⟩ := ck_of hf
            refine lv_idiv hC.1 hC.2.1 dX12_fewest_78 (nz_of hz_13) ?_
            refine lv_iconst (v := 0) hC.1 hC.2.1 dX12_fewest_79 (by decide) ?_
            obtain ⟨r_14, hg_15, hf⟩ := bd_of hf
            refine g_calliV hC hW (c12_guestOf l D cy ad aM hg_15) (cwV 2 hC.2.2.2.2.1 gX12_fewest_X12_guestOf rfl rfl rfl hdV12_guestOf ⟨Nat.le_of_ble_eq_true rfl, Nat.le_of_ble_eq_true rfl⟩) (Sub.all _ _) 0 11 rfl rfl rfl rfl hl.1 rfl (Nat.le_of_ble_eq_true rfl) dX12_fewest_80 ⟨Nat.zero_le _, Nat.zero_le _⟩ (fun H locs hW => ?_)
            refine lv_iconst (v := 3) hC.1 hC.2.1 dX12_fewest_83 (by decide) ?_
            refine lv_icmp_eq (tgt := 187) hC.1 hC.2.1 dX12_fewest_84 (by decide) (fun hc_16 => ?_) (fun hc_16 => ?_)
            · have hf := ite_t hf hc_16
              exact t12_fewest_187 hC hk7 ih  _ _ _ _ _ _ _ hf hW (lv_sub hl [0, 1, 2] rfl)
            · have hf := ite_f hf hc_16
              refine lv_iload_n hC.1 hC.2.1 dX12_fewest_87 rfl (lv_at hl 1 rfl) ?_
              refine lv_aload_n hC.1 hC.2.1 dX12_fewest_88 rfl (lv_at hl 0 rfl) ?_
              refine lv_aload_n hC.1 hC.2.1 dX12_fewest_89 rfl (lv_at hl 0 rfl) ?_
              refine lv_iload_n hC.1 hC.2.1 dX12_fewest_90 rfl (lv_at hl 2 rfl) ?_
              refine lv_bipush (v := 8) hC.1 hC.2.1 dX12_fewest_91 (by decide) ?_
              obtain ⟨hz_17, hf⟩ := ck_of hf
              refine lv_idiv hC.1 hC.2.1 dX12_fewest_93 (nz_of hz_17) ?_
              refine lv_iload_n hC.1 hC.2.1 dX12_fewest_94 rfl (lv_at hl 2 rfl) ?_
              refine lv_bipush (v := 8) hC.1 hC.2.1 dX12_fewest_95 (by decide) ?_
              obtain ⟨hz_18, hf⟩ := ck_of hf
              refine lv_irem hC.1 hC.2.1 dX12_fewest_97 (nz_of hz_18) ?_
              refine lv_iconst (v := 1) hC.1 hC.2.1 dX12_fewest_98 (by decide) ?_
              obtain ⟨r_19, hg_20, hf⟩ := bd_of hf
              refine g_calliV hC hW (c12_answerIn l D cy ad aM hg_20) (cwV 3 hC.2.2.2.2.1 gX12_fewest_X12_answerIn rfl rfl rfl hdV12_answerIn ⟨Nat.le_of_ble_eq_true rfl, Nat.le_of_ble_eq_true rfl⟩) (Sub.all _ _) 0 11 rfl rfl rfl rfl hl.1 rfl (Nat.le_of_ble_eq_true rfl) dX12_fewest_99 ⟨Nat.zero_le _, Nat.zero_le _⟩ (fun H locs hW => ?_)
              obtain ⟨r_21, hg_22, hf⟩ := bd_of hf
              refine g_calliV hC hW (c12_whoIn l D cy ad aM hg_22) (cwV 1 hC.2.2.2.2.1 gX12_fewest_X12_whoIn rfl rfl rfl hdV12_whoIn ⟨Nat.le_of_ble_eq_true rfl, Nat.le_of_ble_eq_true rfl⟩) (Sub.all _ _) 0 11 rfl rfl rfl rfl hl.1 rfl (Nat.le_of_ble_eq_true rfl) dX12_fewest_102 ⟨Nat.zero_le _, Nat.zero_le _⟩ (fun H locs hW => ?_)
              refine lv_iand hC.1 hC.2.1 dX12_fewest_105 ?_
              refine lv_topi (fun x3_23 ex3_23 => ?_)
              have hf := lt_nm hf ex3_23
              refine lv_istore_n (lv' := [(3, .int x3_23), (0, .ref (aM 0)), (1, .int x1), (2, .int x2)]) hC.1 hC.2.1 dX12_fewest_106 rfl hl (by decide) rfl (fun ls hl => ?_)
              refine lv_iload_n hC.1 hC.2.1 dX12_fewest_107 rfl (lv_at hl 2 rfl) ?_
              refine lv_iload_n hC.1 hC.2.1 dX12_fewest_108 rfl (lv_at hl 0 rfl) ?_
              refine lv_iconst (v := (-1)) hC.1 hC.2.1 dX12_fewest_109 (by decide) ?_
              refine lv_ixor hC.1 hC.2.1 dX12_fewest_110 ?_
              refine lv_iand hC.1 hC.2.1 dX12_fewest_111 ?_
              refine lv_topi (fun x4_24 ex4_24 => ?_)
              have hf := lt_nm hf ex4_24
              refine lv_istore (lv' := [(4, .int x4_24), (3, .int x3_23), (0, .ref (aM 0)), (1, .int x1), (2, .int x2)]) hC.1 hC.2.1 dX12_fewest_112 hl (by decide) rfl (fun ls hl => ?_)
              refine lv_iload_n hC.1 hC.2.1 dX12_fewest_114 rfl (lv_at hl 1 rfl) ?_
              refine lv_if_eq (tgt := 187) hC.1 hC.2.1 dX12_fewest_115 (by decide) (fun hc_25 => ?_) (fun hc_25 => ?_)
              · have hf := ite_t hf hc_25
                exact t12_fewest_187 hC hk7 ih  _ _ _ _ _ _ _ hf hW (lv_sub hl [2, 3, 4] rfl)
              · have hf := ite_f hf hc_25
                refine lv_iload hC.1 hC.2.1 dX12_fewest_118 (lv_at hl 0 rfl) ?_
                refine lv_if_eq (tgt := 187) hC.1 hC.2.1 dX12_fewest_120 (by decide) (fun hc_26 => ?_) (fun hc_26 => ?_)
                · have hf := ite_t hf hc_26
                  exact t12_fewest_187 hC hk7 ih  _ _ _ _ _ _ _ hf hW (lv_sub hl [2, 3, 4] rfl)
                · have hf := ite_f hf hc_26
                  refine lv_iconst (v := 1) hC.1 hC.2.1 dX12_fewest_123 (by decide) ?_
                  refine lv_aload_n hC.1 hC.2.1 dX12_fewest_124 rfl (lv_at hl 2 rfl) ?_
                  refine g_get hC hW hin12_fewest_12 0 rfl rfl 30 (by decide) 2 rfl rfl dX12_fewest_125 ?_
                  refine lv_iload_n hC.1 hC.2.1 dX12_fewest_128 rfl (lv_at hl 1 rfl) ?_
                  obtain ⟨hi_27, hf⟩ := ck_of hf
                  refine g_iald hC hW 20 rfl hi_27 dX12_fewest_129 ?_
                  refine lv_aload_n hC.1 hC.2.1 dX12_fewest_130 rfl (lv_at hl 2 rfl) ?_
                  refine g_get hC hW hin12_fewest_12 0 rfl rfl 30 (by decide) 2 rfl rfl dX12_fewest_131 ?_
                  refine lv_iload hC.1 hC.2.1 dX12_fewest_134 (lv_at hl 0 rfl) ?_
                  obtain ⟨hi_28, hf⟩ := ck_of hf
                  refine g_iald hC hW 20 rfl hi_28 dX12_fewest_136 ?_
                  refine lv_icmp_le (tgt := 149) hC.1 hC.2.1 dX12_fewest_137 (by decide) (fun hc_29 => ?_) (fun hc_29 => ?_)
                  · have hf := ite_t hf hc_29
                    refine lv_aload_n hC.1 hC.2.1 dX12_fewest_149 rfl (lv_at hl 2 rfl) ?_
                    refine g_get hC hW hin12_fewest_12 0 rfl rfl 30 (by decide) 2 rfl rfl dX12_fewest_150 ?_
                    refine lv_iload hC.1 hC.2.1 dX12_fewest_153 (lv_at hl 0 rfl) ?_
                    obtain ⟨hi_30, hf⟩ := ck_of hf
                    refine g_iald hC hW 20 rfl hi_30 dX12_fewest_155 ?_
                    exact t12_fewest_156 hC hk7 ih  _ _ _ _ _ _ _ _ _ hf hW (lv_sub hl [2, 3, 4] rfl)
                  · have hf := ite_f hf hc_29
                    refine lv_aload_n hC.1 hC.2.1 dX12_fewest_140 rfl (lv_at hl 2 rfl) ?_
                    refine g_get hC hW hin12_fewest_12 0 rfl rfl 30 (by decide) 2 rfl rfl dX12_fewest_141 ?_
                    refine lv_iload_n hC.1 hC.2.1 dX12_fewest_144 rfl (lv_at hl 1 rfl) ?_
                    obtain ⟨hi_31, hf⟩ := ck_of hf
                    refine g_iald hC hW 20 rfl hi_31 dX12_fewest_145 ?_
                    refine lv_goto (tgt := 156) hC.1 hC.2.1 dX12_fewest_146 (by decide) ?_
                    exact t12_fewest_156 hC hk7 ih  _ _ _ _ _ _ _ _ _ hf hW (lv_sub hl [2, 3, 4] rfl)
set_option maxRecDepth 100000 in
set_option maxHeartbeats 4000000 in
theorem t12_fewest_36 (hC : Cx p s m args meth c cX12_fewest 6 wsX12_fewest RX12 (some .int)) {k7 : Int32 → Ob → Option (Int32 × Ob)} (hk7 : ∀ (x1 : Int32) (SM : Ob) (res : Int32 × Ob) (H : Heap) (locs : List Loc) (ls : Array Slot), k7 x1 SM = some res → GW D cy ad (w12 cy aM SM) A s H locs → lv_has ls 6 [(0, .ref (aM 0)), (1, .int x1)] → W p l e rm12_fewest s m args below meth c H locs 0 0 (MQ below (QI D cy (w12 cy aM (res.2)) A (res.1)) args s 0 0 A) (F0 m 7 ls [])) : ∀ (x1 : Int32) (z1 : Int32) (z2 : Int32) (SM : Ob) (res : Int32 × Ob) (H : Heap) (locs : List Loc) (ls : Array Slot), f12_fewest_36 k7 x1 z1 z2 SM = some res → GW D cy ad (w12 cy aM SM) A s H locs → lv_has ls 6 [(0, .ref (aM 0)), (1, .int x1)] → W p l e rm12_fewest s m args below meth c H locs 0 0 (MQ below (QI D cy (w12 cy aM (res.2)) A (res.1)) args s 0 0 A) (F0 m 36 ls [.int z2, .int z1, .ref (aM 31)]) := by
  intro x1 z1 z2 SM res H locs ls hf hW hl
  unfold f12_fewest_36 at hf
  obtain ⟨hi_1, hf⟩ := ck_of hf
  obtain ⟨SM_2, eSM_2⟩ : ∃ y : Ob, y = oA SM 30 (Int32.toNatClampNeg z1) z2 := ⟨_, rfl⟩
  have hf := lt_nm hf eSM_2
  refine g_iast hC hW 20 rfl hi_1 (w' := w12 cy aM SM_2) (by rw [eSM_2]; rfl) dX12_fewest_36 (fun H locs hW => ?_)
  refine lv_iconst (v := 0) hC.1 hC.2.1 dX12_fewest_37 (by decide) ?_
  refine lv_istore_n (lv' := [(2, .int 0), (0, .ref (aM 0)), (1, .int x1)]) hC.1 hC.2.1 dX12_fewest_38 rfl hl (by decide) rfl (fun ls hl => ?_)
  exact t12_fewest_39 hC hk7 _ _ _ _ _ _ _ _ hf hW (lv_sub hl [1, 2, 0] rfl)
set_option maxRecDepth 100000 in
set_option maxHeartbeats 4000000 in
theorem t12_fewest_236 (hC : Cx p s m args meth c cX12_fewest 6 wsX12_fewest RX12 (some .int)) : ∀ (z0 : Int32) (SM : Ob) (res : Int32 × Ob) (H : Heap) (locs : List Loc) (ls : Array Slot), f12_fewest_236 z0 SM = some res → GW D cy ad (w12 cy aM SM) A s H locs → lv_has ls 6 [] → W p l e rm12_fewest s m args below meth c H locs 0 0 (MQ below (QI D cy (w12 cy aM (res.2)) A (res.1)) args s 0 0 A) (F0 m 236 ls [.int z0]) := by
  intro z0 SM res H locs ls hf hW hl
  unfold f12_fewest_236 at hf
  obtain rfl := Option.some.inj hf
  exact g_iret hC hW dX12_fewest_236
set_option maxRecDepth 100000 in
set_option maxHeartbeats 4000000 in
theorem t12_fewest_226 (hC : Cx p s m args meth c cX12_fewest 6 wsX12_fewest RX12 (some .int)) : ∀ (SM : Ob) (res : Int32 × Ob) (H : Heap) (locs : List Loc) (ls : Array Slot), f12_fewest_226 SM = some res → GW D cy ad (w12 cy aM SM) A s H locs → lv_has ls 6 [] → W p l e rm12_fewest s m args below meth c H locs 0 0 (MQ below (QI D cy (w12 cy aM (res.2)) A (res.1)) args s 0 0 A) (F0 m 226 ls []) := by
  intro SM res H locs ls hf hW hl
  unfold f12_fewest_226 at hf
  refine lv_iconst (v := (-1)) hC.1 hC.2.1 dX12_fewest_226 (by decide) ?_
  refine lv_goto (tgt := 236) hC.1 hC.2.1 dX12_fewest_227 (by decide) ?_
  exact t12_fewest_236 hC  _ _ _ _ _ _ hf hW (lv_sub hl [] rfl)
set_option maxRecDepth 100000 in
set_option maxHeartbeats 4000000 in
theorem t12_fewest_7 (hC : Cx p s m args meth c cX12_fewest 6 wsX12_fewest RX12 (some .int)) : ∀ n : Nat, ∀ (x1 : Int32) (SM : Ob) (res : Int32 × Ob) (H : Heap) (locs : List Loc) (ls : Array Slot), f12_fewest_7 n x1 SM = some res → GW D cy ad (w12 cy aM SM) A s H locs → lv_has ls 6 [(0, .ref (aM 0)), (1, .int x1)] → W p l e rm12_fewest s m args below meth c H locs 0 0 (MQ below (QI D cy (w12 cy aM (res.2)) A (res.1)) args s 0 0 A) (F0 m 7 ls []) := by
  intro n
  induction n with
  | zero =>
    intro _ _ _ _ _ _ hf _ _
    exact nomatch (show (none : Option (Int32 × Ob)) = some _ from hf)
  | succ n ih =>
    intro x1 SM res H locs ls hf hW hl
    rw [f12_fewest_7] at hf
    refine lv_iload_n hC.1 hC.2.1 dX12_fewest_7 rfl (lv_at hl 1 rfl) ?_
    refine lv_iconst (v := 1) hC.1 hC.2.1 dX12_fewest_8 (by decide) ?_
    refine lv_aload_n hC.1 hC.2.1 dX12_fewest_9 rfl (lv_at hl 0 rfl) ?_
    obtain ⟨r_1, hg_2, hf⟩ := bd_of hf
    refine g_calliV hC hW (c12_guests l D cy ad aM hg_2) (cwV 0 hC.2.2.2.2.1 gX12_fewest_X12_guests rfl rfl rfl hdV12_guests ⟨Nat.le_of_ble_eq_true rfl, Nat.le_of_ble_eq_true rfl⟩) (Sub.all _ _) 0 11 rfl rfl rfl rfl hl.1 rfl (Nat.le_of_ble_eq_true rfl) dX12_fewest_10 ⟨Nat.zero_le _, Nat.zero_le _⟩ (fun H locs hW => ?_)
    refine lv_ishl hC.1 hC.2.1 dX12_fewest_13 ?_
    refine lv_icmp_ge (tgt := 199) hC.1 hC.2.1 dX12_fewest_14 (by decide) (fun hc_3 => ?_) (fun hc_3 => ?_)
    · have hf := ite_t hf hc_3
      refine lv_aload_n hC.1 hC.2.1 dX12_fewest_199 rfl (lv_at hl 0 rfl) ?_
      refine lv_aload_n hC.1 hC.2.1 dX12_fewest_200 rfl (lv_at hl 0 rfl) ?_
      refine g_get hC hW hin12_fewest_12 0 rfl rfl 25 (by decide) 4 rfl rfl dX12_fewest_201 ?_
      refine lv_iconst (v := 0) hC.1 hC.2.1 dX12_fewest_204 (by decide) ?_
      obtain ⟨hi_4, hf⟩ := ck_of hf
      refine g_iald hC hW 16 rfl hi_4 dX12_fewest_205 ?_
      obtain ⟨r_5, hg_6, hf⟩ := bd_of hf
      refine g_calliV hC hW (c12_whoIn l D cy ad aM hg_6) (cwV 1 hC.2.2.2.2.1 gX12_fewest_X12_whoIn rfl rfl rfl hdV12_whoIn ⟨Nat.le_of_ble_eq_true rfl, Nat.le_of_ble_eq_true rfl⟩) (Sub.all _ _) 0 11 rfl rfl rfl rfl hl.1 rfl (Nat.le_of_ble_eq_true rfl) dX12_fewest_206 ⟨Nat.zero_le _, Nat.zero_le _⟩ (fun H locs hW => ?_)
      refine lv_istore_n (lv' := [(1, .int r_5), (0, .ref (aM 0))]) hC.1 hC.2.1 dX12_fewest_209 rfl hl (by decide) rfl (fun ls hl => ?_)
      refine lv_iload_n hC.1 hC.2.1 dX12_fewest_210 rfl (lv_at hl 0 rfl) ?_
      refine lv_if_eq (tgt := 226) hC.1 hC.2.1 dX12_fewest_211 (by decide) (fun hc_7 => ?_) (fun hc_7 => ?_)
      · have hf := ite_t hf hc_7
        exact t12_fewest_226 hC  _ _ _ _ _ hf hW (lv_sub hl [] rfl)
      · have hf := ite_f hf hc_7
        refine lv_aload_n hC.1 hC.2.1 dX12_fewest_214 rfl (lv_at hl 1 rfl) ?_
        refine g_get hC hW hin12_fewest_12 0 rfl rfl 30 (by decide) 2 rfl rfl dX12_fewest_215 ?_
        refine lv_iload_n hC.1 hC.2.1 dX12_fewest_218 rfl (lv_at hl 0 rfl) ?_
        obtain ⟨hi_8, hf⟩ := ck_of hf
        refine g_iald hC hW 20 rfl hi_8 dX12_fewest_219 ?_
        refine lv_ldcw (v := 1000000000) hC.1 hC.2.1 hC.2.2.2.1 (hC.2.2.2.2.1 _ (List.mem_of_getElem? (i := 3) rfl)) dX12_fewest_220 ?_
        refine lv_icmp_lt (tgt := 230) hC.1 hC.2.1 dX12_fewest_223 (by decide) (fun hc_9 => ?_) (fun hc_9 => ?_)
        · have hf := ite_t hf hc_9
          refine lv_aload_n hC.1 hC.2.1 dX12_fewest_230 rfl (lv_at hl 1 rfl) ?_
          refine g_get hC hW hin12_fewest_12 0 rfl rfl 30 (by decide) 2 rfl rfl dX12_fewest_231 ?_
          refine lv_iload_n hC.1 hC.2.1 dX12_fewest_234 rfl (lv_at hl 0 rfl) ?_
          obtain ⟨hi_10, hf⟩ := ck_of hf
          refine g_iald hC hW 20 rfl hi_10 dX12_fewest_235 ?_
          exact t12_fewest_236 hC  _ _ _ _ _ _ hf hW (lv_sub hl [] rfl)
        · have hf := ite_f hf hc_9
          exact t12_fewest_226 hC  _ _ _ _ _ hf hW (lv_sub hl [] rfl)
    · have hf := ite_f hf hc_3
      refine lv_aload_n hC.1 hC.2.1 dX12_fewest_17 rfl (lv_at hl 0 rfl) ?_
      refine g_get hC hW hin12_fewest_12 0 rfl rfl 30 (by decide) 2 rfl rfl dX12_fewest_18 ?_
      refine lv_iload_n hC.1 hC.2.1 dX12_fewest_21 rfl (lv_at hl 1 rfl) ?_
      refine lv_iload_n hC.1 hC.2.1 dX12_fewest_22 rfl (lv_at hl 1 rfl) ?_
      obtain ⟨r_11, hg_12, hf⟩ := bd_of hf
      refine g_calliS hC hW (c12_alone l D cy ad  hg_12) (va_cwS 1 hC.2.2.2.2.1 gX12_fewest_X12_alone rfl rfl rfl hdS12_alone ⟨Nat.le_of_ble_eq_true rfl, Nat.le_of_ble_eq_true rfl⟩) (Sub.nil _) rfl hl.1 rfl (Nat.le_of_ble_eq_true rfl) dX12_fewest_23 ⟨Nat.zero_le _, Nat.zero_le _⟩ (fun H locs hW => ?_)
      refine lv_if_lt (tgt := 33) hC.1 hC.2.1 dX12_fewest_26 (by decide) (fun hc_13 => ?_) (fun hc_13 => ?_)
      · have hf := ite_t hf hc_13
        refine lv_ldcw (v := 1000000000) hC.1 hC.2.1 hC.2.2.2.1 (hC.2.2.2.2.1 _ (List.mem_of_getElem? (i := 3) rfl)) dX12_fewest_33 ?_
        exact t12_fewest_36 hC ih  _ _ _ _ _ _ _ _ hf hW (lv_sub hl [0, 1] rfl)
      · have hf := ite_f hf hc_13
        refine lv_iconst (v := 0) hC.1 hC.2.1 dX12_fewest_29 (by decide) ?_
        refine lv_goto (tgt := 36) hC.1 hC.2.1 dX12_fewest_30 (by decide) ?_
        exact t12_fewest_36 hC ih  _ _ _ _ _ _ _ _ hf hW (lv_sub hl [0, 1] rfl)
set_option maxRecDepth 100000 in
set_option maxHeartbeats 4000000 in
theorem t12_fewest_0 (hC : Cx p s m args meth c cX12_fewest 6 wsX12_fewest RX12 (some .int)) : ∀ (SM : Ob) (res : Int32 × Ob) (H : Heap) (locs : List Loc) (ls : Array Slot), f12_fewest SM = some res → GW D cy ad (w12 cy aM SM) A s H locs → lv_has ls 6 [(0, .ref (aM 0))] → W p l e rm12_fewest s m args below meth c H locs 0 0 (MQ below (QI D cy (w12 cy aM (res.2)) A (res.1)) args s 0 0 A) (F0 m 0 ls []) := by
  intro SM res H locs ls hf hW hl
  unfold f12_fewest at hf
  refine lv_aload_n hC.1 hC.2.1 dX12_fewest_0 rfl (lv_at hl 0 rfl) ?_
  refine lv_iconst (v := 0) hC.1 hC.2.1 dX12_fewest_1 (by decide) ?_
  obtain ⟨SM_1, eSM_1⟩ : ∃ y : Ob, y = oI SM 0 0 := ⟨_, rfl⟩
  have hf := lt_nm hf eSM_1
  refine g_put hC hW hin12_fewest_12 tyX12 tyX12_ok nmX12 0 rfl rfl 0 (by decide) 1 rfl rfl rfl rfl (Nat.le_of_ble_eq_true rfl) (w' := w12 cy aM SM_1) (by rw [eSM_1]; rfl) dX12_fewest_2 (fun H locs hW => ?_)
  refine lv_iconst (v := 1) hC.1 hC.2.1 dX12_fewest_5 (by decide) ?_
  refine lv_istore_n (lv' := [(1, .int 1), (0, .ref (aM 0))]) hC.1 hC.2.1 dX12_fewest_6 rfl hl (by decide) rfl (fun ls hl => ?_)
  exact t12_fewest_7 hC _ _ _ _ _ _ _ hf hW (lv_sub hl [1, 0] rfl)
set_option maxRecDepth 100000 in
set_option maxHeartbeats 4000000 in
theorem c12_fewest (l : Launch) (D : va_G) (cy : Nat → ClassId) (ad : Nat → Nat) (aM : Nat → Nat) {SM : Ob} {res : Int32 × Ob} (h : f12_fewest SM = some res) : GCi l yX12_fewest wsX12_fewest rm12_fewest [.ref (aM 0)] D cy ad (w12 cy aM SM) (w12 cy aM (res.2)) (res.1) := fun sz => GC.start (own := RX12) (Qc := fun A => QI D cy (w12 cy aM (res.2)) A (res.1)) sz (by decide) rfl rfl (Nat.le_of_ble_eq_true rfl) (fun p e s m below meth c A ls hC hW hl => t12_fewest_0 hC _ _ _ _ _ h hW (lv_sub hl [0] rfl))
abbrev rm12_tellsAll : Room := { frames := 2, cells := 0, slots := 0, locals := 40 }
theorem hdV12_tellsAll : yX12_tellsAll.cls = RX12 ∧ (yX12_tellsAll.cls ≠ "java/lang/invoke/MethodHandle" ∧ yX12_tellsAll.cls ≠ "java/lang/invoke/VarHandle" ∧ (parseMethodDescriptor yX12_tellsAll.desc).map (fun d => d.parameters.length) = some 1) := by decide +kernel
theorem hin12_tellsAll_12 : ∀ x ∈ u_ws RX12 TX12 39, x ∈ wsX12_tellsAll := fun _ h => List.mem_cons_of_mem _ (List.mem_append_right _ h)
set_option maxRecDepth 100000 in
set_option maxHeartbeats 4000000 in
theorem t12_tellsAll_98 (hC : Cx p s m args meth c cX12_tellsAll 6 wsX12_tellsAll RX12 (some .boolean)) {k4 : Int32 → Int32 → Int32 → Ob → Option (Int32)} (hk4 : ∀ (x1 : Int32) (x2 : Int32) (x3 : Int32) (SM : Ob) (res : Int32) (H : Heap) (locs : List Loc) (ls : Array Slot), k4 x1 x2 x3 SM = some res → GW D cy ad (w12 cy aM SM) A s H locs → lv_has ls 6 [(0, .ref (aM 0)), (1, .int x1), (2, .int x2), (3, .int x3)] → W p l e rm12_tellsAll s m args below meth c H locs 0 0 (MQ below (QI D cy (w12 cy aM SM) A res) args s 0 0 A) (F0 m 4 ls [])) {k15 : Int32 → Int32 → Int32 → Int32 → Ob → Option (Int32)} (hk15 : ∀ (x1 : Int32) (x2 : Int32) (x3 : Int32) (x4 : Int32) (SM : Ob) (res : Int32) (H : Heap) (locs : List Loc) (ls : Array Slot), k15 x1 x2 x3 x4 SM = some res → GW D cy ad (w12 cy aM SM) A s H locs → lv_has ls 6 [(0, .ref (aM 0)), (1, .int x1), (2, .int x2), (3, .int x3), (4, .int x4)] → W p l e rm12_tellsAll s m args below meth c H locs 0 0 (MQ below (QI D cy (w12 cy aM SM) A res) args s 0 0 A) (F0 m 15 ls [])) : ∀ (x1 : Int32) (x3 : Int32) (x4 : Int32) (z0 : Int32) (SM : Ob) (res : Int32) (H : Heap) (locs : List Loc) (ls : Array Slot), f12_tellsAll_98 k4 k15 x1 x3 x4 z0 SM = some res → GW D cy ad (w12 cy aM SM) A s H locs → lv_has ls 6 [(0, .ref (aM 0)), (1, .int x1), (3, .int x3), (4, .int x4)] → W p l e rm12_tellsAll s m args below meth c H locs 0 0 (MQ below (QI D cy (w12 cy aM SM) A res) args s 0 0 A) (F0 m 98 ls [.int z0]) := by
  intro x1 x3 x4 z0 SM res H locs ls hf hW hl
  unfold f12_tellsAll_98 at hf
  refine lv_istore_n (lv' := [(2, .int z0), (0, .ref (aM 0)), (1, .int x1), (3, .int x3), (4, .int x4)]) hC.1 hC.2.1 dX12_tellsAll_98 rfl hl (by decide) rfl (fun ls hl => ?_)
  obtain ⟨x4_1, ex4_1⟩ : ∃ y : Int32, y = x4 + 1 := ⟨_, rfl⟩
  have hf := lt_nm hf ex4_1
  refine lv_iinc (v := x4_1) (lv' := [(4, .int x4_1), (2, .int z0), (0, .ref (aM 0)), (1, .int x1), (3, .int x3)]) hC.1 hC.2.1 dX12_tellsAll_99 hl (k := 4) rfl (by rw [ex4_1]; rfl) (by decide) rfl (fun ls hl => ?_)
  refine lv_goto (tgt := 15) hC.1 hC.2.1 dX12_tellsAll_102 (by decide) ?_
  exact hk15 _ _ _ _ _ _ _ _ _ hf hW (lv_sub hl [2, 3, 1, 4, 0] rfl)
set_option maxRecDepth 100000 in
set_option maxHeartbeats 4000000 in
theorem t12_tellsAll_97 (hC : Cx p s m args meth c cX12_tellsAll 6 wsX12_tellsAll RX12 (some .boolean)) {k4 : Int32 → Int32 → Int32 → Ob → Option (Int32)} (hk4 : ∀ (x1 : Int32) (x2 : Int32) (x3 : Int32) (SM : Ob) (res : Int32) (H : Heap) (locs : List Loc) (ls : Array Slot), k4 x1 x2 x3 SM = some res → GW D cy ad (w12 cy aM SM) A s H locs → lv_has ls 6 [(0, .ref (aM 0)), (1, .int x1), (2, .int x2), (3, .int x3)] → W p l e rm12_tellsAll s m args below meth c H locs 0 0 (MQ below (QI D cy (w12 cy aM SM) A res) args s 0 0 A) (F0 m 4 ls [])) {k15 : Int32 → Int32 → Int32 → Int32 → Ob → Option (Int32)} (hk15 : ∀ (x1 : Int32) (x2 : Int32) (x3 : Int32) (x4 : Int32) (SM : Ob) (res : Int32) (H : Heap) (locs : List Loc) (ls : Array Slot), k15 x1 x2 x3 x4 SM = some res → GW D cy ad (w12 cy aM SM) A s H locs → lv_has ls 6 [(0, .ref (aM 0)), (1, .int x1), (2, .int x2), (3, .int x3), (4, .int x4)] → W p l e rm12_tellsAll s m args below meth c H locs 0 0 (MQ below (QI D cy (w12 cy aM SM) A res) args s 0 0 A) (F0 m 15 ls [])) : ∀ (x1 : Int32) (x3 : Int32) (x4 : Int32) (SM : Ob) (res : Int32) (H : Heap) (locs : List Loc) (ls : Array Slot), f12_tellsAll_97 k4 k15 x1 x3 x4 SM = some res → GW D cy ad (w12 cy aM SM) A s H locs → lv_has ls 6 [(0, .ref (aM 0)), (1, .int x1), (3, .int x3), (4, .int x4)] → W p l e rm12_tellsAll s m args below meth c H locs 0 0 (MQ below (QI D cy (w12 cy aM SM) A res) args s 0 0 A) (F0 m 97 ls []) := by
  intro x1 x3 x4 SM res H locs ls hf hW hl
  unfold f12_tellsAll_97 at hf
  refine lv_iconst (v := 0) hC.1 hC.2.1 dX12_tellsAll_97 (by decide) ?_
  exact t12_tellsAll_98 hC hk4 hk15  _ _ _ _ _ _ _ _ _ hf hW (lv_sub hl [0, 1, 2, 3] rfl)
set_option maxRecDepth 100000 in
set_option maxHeartbeats 4000000 in
theorem t12_tellsAll_82 (hC : Cx p s m args meth c cX12_tellsAll 6 wsX12_tellsAll RX12 (some .boolean)) {k4 : Int32 → Int32 → Int32 → Ob → Option (Int32)} (hk4 : ∀ (x1 : Int32) (x2 : Int32) (x3 : Int32) (SM : Ob) (res : Int32) (H : Heap) (locs : List Loc) (ls : Array Slot), k4 x1 x2 x3 SM = some res → GW D cy ad (w12 cy aM SM) A s H locs → lv_has ls 6 [(0, .ref (aM 0)), (1, .int x1), (2, .int x2), (3, .int x3)] → W p l e rm12_tellsAll s m args below meth c H locs 0 0 (MQ below (QI D cy (w12 cy aM SM) A res) args s 0 0 A) (F0 m 4 ls [])) {k15 : Int32 → Int32 → Int32 → Int32 → Ob → Option (Int32)} (hk15 : ∀ (x1 : Int32) (x2 : Int32) (x3 : Int32) (x4 : Int32) (SM : Ob) (res : Int32) (H : Heap) (locs : List Loc) (ls : Array Slot), k15 x1 x2 x3 x4 SM = some res → GW D cy ad (w12 cy aM SM) A s H locs → lv_has ls 6 [(0, .ref (aM 0)), (1, .int x1), (2, .int x2), (3, .int x3), (4, .int x4)] → W p l e rm12_tellsAll s m args below meth c H locs 0 0 (MQ below (QI D cy (w12 cy aM SM) A res) args s 0 0 A) (F0 m 15 ls [])) : ∀ (x1 : Int32) (x2 : Int32) (x3 : Int32) (x4 : Int32) (z0 : Int32) (SM : Ob) (res : Int32) (H : Heap) (locs : List Loc) (ls : Array Slot), f12_tellsAll_82 k4 k15 x1 x2 x3 x4 z0 SM = some res → GW D cy ad (w12 cy aM SM) A s H locs → lv_has ls 6 [(0, .ref (aM 0)), (1, .int x1), (2, .int x2), (3, .int x3), (4, .int x4)] → W p l e rm12_tellsAll s m args below meth c H locs 0 0 (MQ below (QI D cy (w12 cy aM SM) A res) args s 0 0 A) (F0 m 82 ls [.int z0]) := by
  intro x1 x2 x3 x4 z0 SM res H locs ls hf hW hl
  unfold f12_tellsAll_82 at hf
  refine lv_istore (lv' := [(5, .int z0), (0, .ref (aM 0)), (1, .int x1), (2, .int x2), (3, .int x3), (4, .int x4)]) hC.1 hC.2.1 dX12_tellsAll_82 hl (by decide) rfl (fun ls hl => ?_)
  refine lv_iload_n hC.1 hC.2.1 dX12_tellsAll_84 rfl (lv_at hl 3 rfl) ?_
  refine lv_if_eq (tgt := 97) hC.1 hC.2.1 dX12_tellsAll_85 (by decide) (fun hc_1 => ?_) (fun hc_1 => ?_)
  · have hf := ite_t hf hc_1
    exact t12_tellsAll_97 hC hk4 hk15  _ _ _ _ _ _ _ _ hf hW (lv_sub hl [1, 2, 4, 5] rfl)
  · have hf := ite_f hf hc_1
    refine lv_iload hC.1 hC.2.1 dX12_tellsAll_88 (lv_at hl 0 rfl) ?_
    refine lv_if_ne (tgt := 97) hC.1 hC.2.1 dX12_tellsAll_90 (by decide) (fun hc_2 => ?_) (fun hc_2 => ?_)
    · have hf := ite_f hf hc_2
      exact t12_tellsAll_97 hC hk4 hk15  _ _ _ _ _ _ _ _ hf hW (lv_sub hl [1, 2, 4, 5] rfl)
    · have hf := ite_t hf hc_2
      refine lv_iconst (v := 1) hC.1 hC.2.1 dX12_tellsAll_93 (by decide) ?_
      refine lv_goto (tgt := 98) hC.1 hC.2.1 dX12_tellsAll_94 (by decide) ?_
      exact t12_tellsAll_98 hC hk4 hk15  _ _ _ _ _ _ _ _ _ hf hW (lv_sub hl [1, 2, 4, 5] rfl)
set_option maxRecDepth 100000 in
set_option maxHeartbeats 4000000 in
theorem t12_tellsAll_81 (hC : Cx p s m args meth c cX12_tellsAll 6 wsX12_tellsAll RX12 (some .boolean)) {k4 : Int32 → Int32 → Int32 → Ob → Option (Int32)} (hk4 : ∀ (x1 : Int32) (x2 : Int32) (x3 : Int32) (SM : Ob) (res : Int32) (H : Heap) (locs : List Loc) (ls : Array Slot), k4 x1 x2 x3 SM = some res → GW D cy ad (w12 cy aM SM) A s H locs → lv_has ls 6 [(0, .ref (aM 0)), (1, .int x1), (2, .int x2), (3, .int x3)] → W p l e rm12_tellsAll s m args below meth c H locs 0 0 (MQ below (QI D cy (w12 cy aM SM) A res) args s 0 0 A) (F0 m 4 ls [])) {k15 : Int32 → Int32 → Int32 → Int32 → Ob → Option (Int32)} (hk15 : ∀ (x1 : Int32) (x2 : Int32) (x3 : Int32) (x4 : Int32) (SM : Ob) (res : Int32) (H : Heap) (locs : List Loc) (ls : Array Slot), k15 x1 x2 x3 x4 SM = some res → GW D cy ad (w12 cy aM SM) A s H locs → lv_has ls 6 [(0, .ref (aM 0)), (1, .int x1), (2, .int x2), (3, .int x3), (4, .int x4)] → W p l e rm12_tellsAll s m args below meth c H locs 0 0 (MQ below (QI D cy (w12 cy aM SM) A res) args s 0 0 A) (F0 m 15 ls [])) : ∀ (x1 : Int32) (x2 : Int32) (x3 : Int32) (x4 : Int32) (SM : Ob) (res : Int32) (H : Heap) (locs : List Loc) (ls : Array Slot), f12_tellsAll_81 k4 k15 x1 x2 x3 x4 SM = some res → GW D cy ad (w12 cy aM SM) A s H locs → lv_has ls 6 [(0, .ref (aM 0)), (1, .int x1), (2, .int x2), (3, .int x3), (4, .int x4)] → W p l e rm12_tellsAll s m args below meth c H locs 0 0 (MQ below (QI D cy (w12 cy aM SM) A res) args s 0 0 A) (F0 m 81 ls []) := by
  intro x1 x2 x3 x4 SM res H locs ls hf hW hl
  unfold f12_tellsAll_81 at hf
  refine lv_iconst (v := 0) hC.1 hC.2.1 dX12_tellsAll_81 (by decide) ?_
  exact t12_tellsAll_82 hC hk4 hk15  _ _ _ _ _ _ _ _ _ _ hf hW (lv_sub hl [0, 1, 2, 3, 4] rfl)
set_option maxRecDepth 100000 in
set_option maxHeartbeats 4000000 in
theorem t12_tellsAll_15 (hC : Cx p s m args meth c cX12_tellsAll 6 wsX12_tellsAll RX12 (some .boolean)) {k4 : Int32 → Int32 → Int32 → Ob → Option (Int32)} (hk4 : ∀ (x1 : Int32) (x2 : Int32) (x3 : Int32) (SM : Ob) (res : Int32) (H : Heap) (locs : List Loc) (ls : Array Slot), k4 x1 x2 x3 SM = some res → GW D cy ad (w12 cy aM SM) A s H locs → lv_has ls 6 [(0, .ref (aM 0)), (1, .int x1), (2, .int x2), (3, .int x3)] → W p l e rm12_tellsAll s m args below meth c H locs 0 0 (MQ below (QI D cy (w12 cy aM SM) A res) args s 0 0 A) (F0 m 4 ls [])) : ∀ n : Nat, ∀ (x1 : Int32) (x2 : Int32) (x3 : Int32) (x4 : Int32) (SM : Ob) (res : Int32) (H : Heap) (locs : List Loc) (ls : Array Slot), f12_tellsAll_15 k4 n x1 x2 x3 x4 SM = some res → GW D cy ad (w12 cy aM SM) A s H locs → lv_has ls 6 [(0, .ref (aM 0)), (1, .int x1), (2, .int x2), (3, .int x3), (4, .int x4)] → W p l e rm12_tellsAll s m args below meth c H locs 0 0 (MQ below (QI D cy (w12 cy aM SM) A res) args s 0 0 A) (F0 m 15 ls []) := by
  intro n
  induction n with
  | zero =>
    intro _ _ _ _ _ _ _ _ _ hf _ _
    exact nomatch (show (none : Option (Int32)) = some _ from hf)
  | succ n ih =>
    intro x1 x2 x3 x4 SM res H locs ls hf hW hl
    rw [f12_tellsAll_15] at hf
    refine lv_iload hC.1 hC.2.1 dX12_tellsAll_15 (lv_at hl 4 rfl) ?_
    refine lv_iload_n hC.1 hC.2.1 dX12_tellsAll_17 rfl (lv_at hl 3 rfl) ?_
    refine lv_icmp_ge (tgt := 105) hC.1 hC.2.1 dX12_tellsAll_18 (by decide) (fun hc_1 => ?_) (fun hc_1 => ?_)
    · have hf := ite_t hf hc_1
      obtain ⟨x3_2, ex3_2⟩ : ∃ y : Int32, y = x3 + 1 := ⟨_, rfl⟩
      have hf := lt_nm hf ex3_2
      refine lv_iinc (v := x3_2) (lv' := [(3, .int x3_2), (0, .ref (aM 0)), (1, .int x1), (2, .int x2), (4, .int x4)]) hC.1 hC.2.1 dX12_tellsAll_105 hl (k := 3) rfl (by rw [ex3_2]; rfl) (by decide) rfl (fun ls hl => ?_)
      refine lv_goto (tgt := 4) hC.1 hC.2.1 dX12_tellsAll_108 (by decide) ?_
      exact hk4 _ _ _ _ _ _ _ _ hf hW (lv_sub hl [1, 2, 3, 0] rfl)
    · have hf := ite_f hf hc_1
      refine lv_aload_n hC.1 hC.2.1 dX12_tellsAll_21 rfl (lv_at hl 0 rfl) ?_
      refine g_get hC hW hin12_tellsAll_12 0 rfl rfl 25 (by decide) 1 rfl rfl dX12_tellsAll_22 ?_
      refine lv_iconst (v := 0) hC.1 hC.2.1 dX12_tellsAll_25 (by decide) ?_
      obtain ⟨hi_3, hf⟩ := ck_of hf
      refine g_iald hC hW 16 rfl hi_3 dX12_tellsAll_26 ?_
      refine lv_iload_n hC.1 hC.2.1 dX12_tellsAll_27 rfl (lv_at hl 3 rfl) ?_
      obtain ⟨r_4, hg_5, hf⟩ := bd_of hf
      refine g_calliS hC hW (c12_isIn l D cy ad  hg_5) (va_cwS 2 hC.2.2.2.2.1 gX12_tellsAll_X12_isIn rfl rfl rfl hdS12_isIn ⟨Nat.le_of_ble_eq_true rfl, Nat.le_of_ble_eq_true rfl⟩) (Sub.nil _) rfl hl.1 rfl (Nat.le_of_ble_eq_true rfl) dX12_tellsAll_28 ⟨Nat.zero_le _, Nat.zero_le _⟩ (fun H locs hW => ?_)
      refine lv_if_eq (tgt := 81) hC.1 hC.2.1 dX12_tellsAll_31 (by decide) (fun hc_6 => ?_) (fun hc_6 => ?_)
      · have hf := ite_t hf hc_6
        exact t12_tellsAll_81 hC hk4 ih  _ _ _ _ _ _ _ _ _ hf hW (lv_sub hl [0, 1, 2, 3, 4] rfl)
      · have hf := ite_f hf hc_6
        refine lv_aload_n hC.1 hC.2.1 dX12_tellsAll_34 rfl (lv_at hl 0 rfl) ?_
        refine g_get hC hW hin12_tellsAll_12 0 rfl rfl 25 (by decide) 1 rfl rfl dX12_tellsAll_35 ?_
        refine lv_iconst (v := 0) hC.1 hC.2.1 dX12_tellsAll_38 (by decide) ?_
        obtain ⟨hi_7, hf⟩ := ck_of hf
        refine g_iald hC hW 16 rfl hi_7 dX12_tellsAll_39 ?_
        refine lv_iload hC.1 hC.2.1 dX12_tellsAll_40 (lv_at hl 4 rfl) ?_
        obtain ⟨r_8, hg_9, hf⟩ := bd_of hf
        refine g_calliS hC hW (c12_isIn l D cy ad  hg_9) (va_cwS 2 hC.2.2.2.2.1 gX12_tellsAll_X12_isIn rfl rfl rfl hdS12_isIn ⟨Nat.le_of_ble_eq_true rfl, Nat.le_of_ble_eq_true rfl⟩) (Sub.nil _) rfl hl.1 rfl (Nat.le_of_ble_eq_true rfl) dX12_tellsAll_42 ⟨Nat.zero_le _, Nat.zero_le _⟩ (fun H locs hW => ?_)
        refine lv_if_eq (tgt := 81) hC.1 hC.2.1 dX12_tellsAll_45 (by decide) (fun hc_10 => ?_) (fun hc_10 => ?_)
        · have hf := ite_t hf hc_10
          exact t12_tellsAll_81 hC hk4 ih  _ _ _ _ _ _ _ _ _ hf hW (lv_sub hl [0, 1, 2, 3, 4] rfl)
        · have hf := ite_f hf hc_10
          refine lv_iload_n hC.1 hC.2.1 dX12_tellsAll_48 rfl (lv_at hl 3 rfl) ?_
          refine lv_iconst (v := 4) hC.1 hC.2.1 dX12_tellsAll_49 (by decide) ?_
          obtain ⟨hz_11, hf⟩ := ck_of hf
          refine lv_idiv hC.1 hC.2.1 dX12_tellsAll_50 (nz_of hz_11) ?_
          refine lv_iload hC.1 hC.2.1 dX12_tellsAll_51 (lv_at hl 4 rfl) ?_
          refine lv_iconst (v := 4) hC.1 hC.2.1 dX12_tellsAll_53 (by decide) ?_
          obtain ⟨hz_12, hf⟩ := ck_of hf
          refine lv_idiv hC.1 hC.2.1 dX12_tellsAll_54 (nz_of hz_12) ?_
          refine lv_icmp_eq (tgt := 81) hC.1 hC.2.1 dX12_tellsAll_55 (by decide) (fun hc_13 => ?_) (fun hc_13 => ?_)
          · have hf := ite_t hf hc_13
            exact t12_tellsAll_81 hC hk4 ih  _ _ _ _ _ _ _ _ _ hf hW (lv_sub hl [0, 1, 2, 3, 4] rfl)
          · have hf := ite_f hf hc_13
            refine lv_aload_n hC.1 hC.2.1 dX12_tellsAll_58 rfl (lv_at hl 0 rfl) ?_
            refine g_get hC hW hin12_tellsAll_12 0 rfl rfl 29 (by decide) 2 rfl rfl dX12_tellsAll_59 ?_
            refine lv_iload_n hC.1 hC.2.1 dX12_tellsAll_62 rfl (lv_at hl 3 rfl) ?_
            obtain ⟨hi_14, hf⟩ := ck_of hf
            refine g_iald hC hW 19 rfl hi_14 dX12_tellsAll_63 ?_
            refine lv_aload_n hC.1 hC.2.1 dX12_tellsAll_64 rfl (lv_at hl 0 rfl) ?_
            refine g_get hC hW hin12_tellsAll_12 0 rfl rfl 29 (by decide) 2 rfl rfl dX12_tellsAll_65 ?_
            refine lv_iload hC.1 hC.2.1 dX12_tellsAll_68 (lv_at hl 4 rfl) ?_
            obtain ⟨hi_15, hf⟩ := ck_of hf
            refine g_iald hC hW 19 rfl hi_15 dX12_tellsAll_70 ?_
            refine lv_ixor hC.1 hC.2.1 dX12_tellsAll_71 ?_
            refine lv_iload_n hC.1 hC.2.1 dX12_tellsAll_72 rfl (lv_at hl 1 rfl) ?_
            refine lv_iand hC.1 hC.2.1 dX12_tellsAll_73 ?_
            refine lv_if_ne (tgt := 81) hC.1 hC.2.1 dX12_tellsAll_74 (by decide) (fun hc_16 => ?_) (fun hc_16 => ?_)
            · have hf := ite_f hf hc_16
              exact t12_tellsAll_81 hC hk4 ih  _ _ _ _ _ _ _ _ _ hf hW (lv_sub hl [0, 1, 2, 3, 4] rfl)
            · have hf := ite_t hf hc_16
              refine lv_iconst (v := 1) hC.1 hC.2.1 dX12_tellsAll_77 (by decide) ?_
              refine lv_goto (tgt := 82) hC.1 hC.2.1 dX12_tellsAll_78 (by decide) ?_
              exact t12_tellsAll_82 hC hk4 ih  _ _ _ _ _ _ _ _ _ _ hf hW (lv_sub hl [0, 1, 2, 3, 4] rfl)
set_option maxRecDepth 100000 in
set_option maxHeartbeats 4000000 in
theorem t12_tellsAll_4 (hC : Cx p s m args meth c cX12_tellsAll 6 wsX12_tellsAll RX12 (some .boolean)) : ∀ n : Nat, ∀ (x1 : Int32) (x2 : Int32) (x3 : Int32) (SM : Ob) (res : Int32) (H : Heap) (locs : List Loc) (ls : Array Slot), f12_tellsAll_4 n x1 x2 x3 SM = some res → GW D cy ad (w12 cy aM SM) A s H locs → lv_has ls 6 [(0, .ref (aM 0)), (1, .int x1), (2, .int x2), (3, .int x3)] → W p l e rm12_tellsAll s m args below meth c H locs 0 0 (MQ below (QI D cy (w12 cy aM SM) A res) args s 0 0 A) (F0 m 4 ls []) := by
  intro n
  induction n with
  | zero =>
    intro _ _ _ _ _ _ _ _ hf _ _
    exact nomatch (show (none : Option (Int32)) = some _ from hf)
  | succ n ih =>
    intro x1 x2 x3 SM res H locs ls hf hW hl
    rw [f12_tellsAll_4] at hf
    refine lv_iload_n hC.1 hC.2.1 dX12_tellsAll_4 rfl (lv_at hl 3 rfl) ?_
    refine lv_aload_n hC.1 hC.2.1 dX12_tellsAll_5 rfl (lv_at hl 0 rfl) ?_
    obtain ⟨r_1, hg_2, hf⟩ := bd_of hf
    refine g_calliV hC hW (c12_worlds l D cy ad aM hg_2) (cwV 0 hC.2.2.2.2.1 gX12_tellsAll_X12_worlds rfl rfl rfl hdV12_worlds ⟨Nat.le_of_ble_eq_true rfl, Nat.le_of_ble_eq_true rfl⟩) (Sub.all _ _) 0 11 rfl rfl rfl rfl hl.1 rfl (Nat.le_of_ble_eq_true rfl) dX12_tellsAll_6 ⟨Nat.zero_le _, Nat.zero_le _⟩ (fun H locs hW => ?_)
    refine lv_icmp_ge (tgt := 111) hC.1 hC.2.1 dX12_tellsAll_9 (by decide) (fun hc_3 => ?_) (fun hc_3 => ?_)
    · have hf := ite_t hf hc_3
      refine lv_iload_n hC.1 hC.2.1 dX12_tellsAll_111 rfl (lv_at hl 2 rfl) ?_
      obtain ⟨hz, hf⟩ := ck_of hf
      obtain rfl := Option.some.inj hf
      exact g_zret hC hW hz dX12_tellsAll_112
    · have hf := ite_f hf hc_3
      refine lv_iconst (v := 0) hC.1 hC.2.1 dX12_tellsAll_12 (by decide) ?_
      refine lv_istore (lv' := [(4, .int 0), (0, .ref (aM 0)), (1, .int x1), (2, .int x2), (3, .int x3)]) hC.1 hC.2.1 dX12_tellsAll_13 hl (by decide) rfl (fun ls hl => ?_)
      exact t12_tellsAll_15 hC ih _ _ _ _ _ _ _ _ _ _ hf hW (lv_sub hl [1, 2, 3, 4, 0] rfl)
set_option maxRecDepth 100000 in
set_option maxHeartbeats 4000000 in
theorem t12_tellsAll_0 (hC : Cx p s m args meth c cX12_tellsAll 6 wsX12_tellsAll RX12 (some .boolean)) : ∀ (x1 : Int32) (SM : Ob) (res : Int32) (H : Heap) (locs : List Loc) (ls : Array Slot), f12_tellsAll x1 SM = some res → GW D cy ad (w12 cy aM SM) A s H locs → lv_has ls 6 [(0, .ref (aM 0)), (1, .int x1)] → W p l e rm12_tellsAll s m args below meth c H locs 0 0 (MQ below (QI D cy (w12 cy aM SM) A res) args s 0 0 A) (F0 m 0 ls []) := by
  intro x1 SM res H locs ls hf hW hl
  unfold f12_tellsAll at hf
  refine lv_iconst (v := 1) hC.1 hC.2.1 dX12_tellsAll_0 (by decide) ?_
  refine lv_istore_n (lv' := [(2, .int 1), (0, .ref (aM 0)), (1, .int x1)]) hC.1 hC.2.1 dX12_tellsAll_1 rfl hl (by decide) rfl (fun ls hl => ?_)
  refine lv_iconst (v := 0) hC.1 hC.2.1 dX12_tellsAll_2 (by decide) ?_
  refine lv_istore_n (lv' := [(3, .int 0), (2, .int 1), (0, .ref (aM 0)), (1, .int x1)]) hC.1 hC.2.1 dX12_tellsAll_3 rfl hl (by decide) rfl (fun ls hl => ?_)
  exact t12_tellsAll_4 hC _ _ _ _ _ _ _ _ _ hf hW (lv_sub hl [2, 3, 1, 0] rfl)
set_option maxRecDepth 100000 in
set_option maxHeartbeats 4000000 in
theorem c12_tellsAll (l : Launch) (D : va_G) (cy : Nat → ClassId) (ad : Nat → Nat) (aM : Nat → Nat) {x1 : Int32} {SM : Ob} {res : Int32} (h : f12_tellsAll x1 SM = some res) : GCi l yX12_tellsAll wsX12_tellsAll rm12_tellsAll [.ref (aM 0), .int x1] D cy ad (w12 cy aM SM) (w12 cy aM SM) res := fun sz => GC.start (own := RX12) (Qc := fun A => QI D cy (w12 cy aM SM) A res) sz (by decide) rfl rfl (Nat.le_of_ble_eq_true rfl) (fun p e s m below meth c A ls hC hW hl => t12_tellsAll_0 hC _ _ _ _ _ _ h hW (lv_sub hl [0, 1] rfl))
abbrev rm12_tell : Room := { frames := 3, cells := 0, slots := 0, locals := 65 }
theorem hdV12_tell : yX12_tell.cls = RX12 ∧ (yX12_tell.cls ≠ "java/lang/invoke/MethodHandle" ∧ yX12_tell.cls ≠ "java/lang/invoke/VarHandle" ∧ (parseMethodDescriptor yX12_tell.desc).map (fun d => d.parameters.length) = some 0) := by decide +kernel
theorem hin12_tell_12 : ∀ x ∈ u_ws RX12 TX12 39, x ∈ wsX12_tell := fun _ h => List.mem_cons_of_mem _ (List.mem_append_right _ h)
set_option maxRecDepth 100000 in
set_option maxHeartbeats 4000000 in
theorem t12_tell_47 (hC : Cx p s m args meth c cX12_tell 3 wsX12_tell RX12 (some .int)) {k9 : Int32 → Int32 → Ob → Option (Int32 × Ob)} (hk9 : ∀ (x1 : Int32) (x2 : Int32) (SM : Ob) (res : Int32 × Ob) (H : Heap) (locs : List Loc) (ls : Array Slot), k9 x1 x2 SM = some res → GW D cy ad (w12 cy aM SM) A s H locs → lv_has ls 3 [(0, .ref (aM 0)), (1, .int x1), (2, .int x2)] → W p l e rm12_tell s m args below meth c H locs 0 0 (MQ below (QI D cy (w12 cy aM (res.2)) A (res.1)) args s 0 0 A) (F0 m 9 ls [])) : ∀ (x2 : Int32) (z0 : Int32) (SM : Ob) (res : Int32 × Ob) (H : Heap) (locs : List Loc) (ls : Array Slot), f12_tell_47 k9 x2 z0 SM = some res → GW D cy ad (w12 cy aM SM) A s H locs → lv_has ls 3 [(0, .ref (aM 0)), (2, .int x2)] → W p l e rm12_tell s m args below meth c H locs 0 0 (MQ below (QI D cy (w12 cy aM (res.2)) A (res.1)) args s 0 0 A) (F0 m 47 ls [.int z0]) := by
  intro x2 z0 SM res H locs ls hf hW hl
  unfold f12_tell_47 at hf
  refine lv_istore_n (lv' := [(1, .int z0), (0, .ref (aM 0)), (2, .int x2)]) hC.1 hC.2.1 dX12_tell_47 rfl hl (by decide) rfl (fun ls hl => ?_)
  obtain ⟨x2_1, ex2_1⟩ : ∃ y : Int32, y = x2 + 1 := ⟨_, rfl⟩
  have hf := lt_nm hf ex2_1
  refine lv_iinc (v := x2_1) (lv' := [(2, .int x2_1), (1, .int z0), (0, .ref (aM 0))]) hC.1 hC.2.1 dX12_tell_48 hl (k := 2) rfl (by rw [ex2_1]; rfl) (by decide) rfl (fun ls hl => ?_)
  refine lv_goto (tgt := 9) hC.1 hC.2.1 dX12_tell_51 (by decide) ?_
  exact hk9 _ _ _ _ _ _ _ hf hW (lv_sub hl [2, 1, 0] rfl)
set_option maxRecDepth 100000 in
set_option maxHeartbeats 4000000 in
theorem t12_tell_46 (hC : Cx p s m args meth c cX12_tell 3 wsX12_tell RX12 (some .int)) {k9 : Int32 → Int32 → Ob → Option (Int32 × Ob)} (hk9 : ∀ (x1 : Int32) (x2 : Int32) (SM : Ob) (res : Int32 × Ob) (H : Heap) (locs : List Loc) (ls : Array Slot), k9 x1 x2 SM = some res → GW D cy ad (w12 cy aM SM) A s H locs → lv_has ls 3 [(0, .ref (aM 0)), (1, .int x1), (2, .int x2)] → W p l e rm12_tell s m args below meth c H locs 0 0 (MQ below (QI D cy (w12 cy aM (res.2)) A (res.1)) args s 0 0 A) (F0 m 9 ls [])) : ∀ (x1 : Int32) (x2 : Int32) (SM : Ob) (res : Int32 × Ob) (H : Heap) (locs : List Loc) (ls : Array Slot), f12_tell_46 k9 x1 x2 SM = some res → GW D cy ad (w12 cy aM SM) A s H locs → lv_has ls 3 [(0, .ref (aM 0)), (1, .int x1), (2, .int x2)] → W p l e rm12_tell s m args below meth c H locs 0 0 (MQ below (QI D cy (w12 cy aM (res.2)) A (res.1)) args s 0 0 A) (F0 m 46 ls []) := by
  intro x1 x2 SM res H locs ls hf hW hl
  unfold f12_tell_46 at hf
  refine lv_iload_n hC.1 hC.2.1 dX12_tell_46 rfl (lv_at hl 1 rfl) ?_
  exact t12_tell_47 hC hk9  _ _ _ _ _ _ _ hf hW (lv_sub hl [0, 2] rfl)
set_option maxRecDepth 100000 in
set_option maxHeartbeats 4000000 in
theorem t12_tell_34 (hC : Cx p s m args meth c cX12_tell 3 wsX12_tell RX12 (some .int)) {k9 : Int32 → Int32 → Ob → Option (Int32 × Ob)} (hk9 : ∀ (x1 : Int32) (x2 : Int32) (SM : Ob) (res : Int32 × Ob) (H : Heap) (locs : List Loc) (ls : Array Slot), k9 x1 x2 SM = some res → GW D cy ad (w12 cy aM SM) A s H locs → lv_has ls 3 [(0, .ref (aM 0)), (1, .int x1), (2, .int x2)] → W p l e rm12_tell s m args below meth c H locs 0 0 (MQ below (QI D cy (w12 cy aM (res.2)) A (res.1)) args s 0 0 A) (F0 m 9 ls [])) : ∀ (x1 : Int32) (x2 : Int32) (SM : Ob) (res : Int32 × Ob) (H : Heap) (locs : List Loc) (ls : Array Slot), f12_tell_34 k9 x1 x2 SM = some res → GW D cy ad (w12 cy aM SM) A s H locs → lv_has ls 3 [(0, .ref (aM 0)), (1, .int x1), (2, .int x2)] → W p l e rm12_tell s m args below meth c H locs 0 0 (MQ below (QI D cy (w12 cy aM (res.2)) A (res.1)) args s 0 0 A) (F0 m 34 ls []) := by
  intro x1 x2 SM res H locs ls hf hW hl
  unfold f12_tell_34 at hf
  refine lv_aload_n hC.1 hC.2.1 dX12_tell_34 rfl (lv_at hl 0 rfl) ?_
  refine lv_iload_n hC.1 hC.2.1 dX12_tell_35 rfl (lv_at hl 2 rfl) ?_
  obtain ⟨r_1, hg_2, hf⟩ := bd_of hf
  refine g_calliV hC hW (c12_tellsAll l D cy ad aM hg_2) (cwV 1 hC.2.2.2.2.1 gX12_tell_X12_tellsAll rfl rfl rfl hdV12_tellsAll ⟨Nat.le_of_ble_eq_true rfl, Nat.le_of_ble_eq_true rfl⟩) (Sub.all _ _) 0 11 rfl rfl rfl rfl hl.1 rfl (Nat.le_of_ble_eq_true rfl) dX12_tell_36 ⟨Nat.zero_le _, Nat.zero_le _⟩ (fun H locs hW => ?_)
  refine lv_if_eq (tgt := 46) hC.1 hC.2.1 dX12_tell_39 (by decide) (fun hc_3 => ?_) (fun hc_3 => ?_)
  · have hf := ite_t hf hc_3
    exact t12_tell_46 hC hk9  _ _ _ _ _ _ _ hf hW (lv_sub hl [0, 1, 2] rfl)
  · have hf := ite_f hf hc_3
    refine lv_iload_n hC.1 hC.2.1 dX12_tell_42 rfl (lv_at hl 2 rfl) ?_
    refine lv_goto (tgt := 47) hC.1 hC.2.1 dX12_tell_43 (by decide) ?_
    exact t12_tell_47 hC hk9  _ _ _ _ _ _ _ hf hW (lv_sub hl [0, 2] rfl)
set_option maxRecDepth 100000 in
set_option maxHeartbeats 4000000 in
theorem t12_tell_9 (hC : Cx p s m args meth c cX12_tell 3 wsX12_tell RX12 (some .int)) : ∀ n : Nat, ∀ (x1 : Int32) (x2 : Int32) (SM : Ob) (res : Int32 × Ob) (H : Heap) (locs : List Loc) (ls : Array Slot), f12_tell_9 n x1 x2 SM = some res → GW D cy ad (w12 cy aM SM) A s H locs → lv_has ls 3 [(0, .ref (aM 0)), (1, .int x1), (2, .int x2)] → W p l e rm12_tell s m args below meth c H locs 0 0 (MQ below (QI D cy (w12 cy aM (res.2)) A (res.1)) args s 0 0 A) (F0 m 9 ls []) := by
  intro n
  induction n with
  | zero =>
    intro _ _ _ _ _ _ _ hf _ _
    exact nomatch (show (none : Option (Int32 × Ob)) = some _ from hf)
  | succ n ih =>
    intro x1 x2 SM res H locs ls hf hW hl
    rw [f12_tell_9] at hf
    refine lv_iload_n hC.1 hC.2.1 dX12_tell_9 rfl (lv_at hl 2 rfl) ?_
    refine lv_iconst (v := 1) hC.1 hC.2.1 dX12_tell_10 (by decide) ?_
    refine lv_aload_n hC.1 hC.2.1 dX12_tell_11 rfl (lv_at hl 0 rfl) ?_
    obtain ⟨r_1, hg_2, hf⟩ := bd_of hf
    refine g_calliV hC hW (c12_signs l D cy ad aM hg_2) (cwV 0 hC.2.2.2.2.1 gX12_tell_X12_signs rfl rfl rfl hdV12_signs ⟨Nat.le_of_ble_eq_true rfl, Nat.le_of_ble_eq_true rfl⟩) (Sub.all _ _) 0 11 rfl rfl rfl rfl hl.1 rfl (Nat.le_of_ble_eq_true rfl) dX12_tell_12 ⟨Nat.zero_le _, Nat.zero_le _⟩ (fun H locs hW => ?_)
    refine lv_ishl hC.1 hC.2.1 dX12_tell_15 ?_
    refine lv_icmp_ge (tgt := 54) hC.1 hC.2.1 dX12_tell_16 (by decide) (fun hc_3 => ?_) (fun hc_3 => ?_)
    · have hf := ite_t hf hc_3
      refine lv_iload_n hC.1 hC.2.1 dX12_tell_54 rfl (lv_at hl 1 rfl) ?_
      obtain rfl := Option.some.inj hf
      exact g_iret hC hW dX12_tell_55
    · have hf := ite_f hf hc_3
      refine lv_iload_n hC.1 hC.2.1 dX12_tell_19 rfl (lv_at hl 1 rfl) ?_
      refine lv_if_lt (tgt := 34) hC.1 hC.2.1 dX12_tell_20 (by decide) (fun hc_4 => ?_) (fun hc_4 => ?_)
      · have hf := ite_t hf hc_4
        exact t12_tell_34 hC ih  _ _ _ _ _ _ _ hf hW (lv_sub hl [0, 1, 2] rfl)
      · have hf := ite_f hf hc_4
        refine lv_iload_n hC.1 hC.2.1 dX12_tell_23 rfl (lv_at hl 2 rfl) ?_
        obtain ⟨r_5, hg_6, hf⟩ := bd_of hf
        refine g_calliS hC hW (c12_bits l D cy ad  hg_6) (va_cwS 1 hC.2.2.2.2.1 gX12_tell_X12_bits rfl rfl rfl hdS12_bits ⟨Nat.le_of_ble_eq_true rfl, Nat.le_of_ble_eq_true rfl⟩) (Sub.nil _) rfl hl.1 rfl (Nat.le_of_ble_eq_true rfl) dX12_tell_24 ⟨Nat.zero_le _, Nat.zero_le _⟩ (fun H locs hW => ?_)
        refine lv_iload_n hC.1 hC.2.1 dX12_tell_27 rfl (lv_at hl 1 rfl) ?_
        obtain ⟨r_7, hg_8, hf⟩ := bd_of hf
        refine g_calliS hC hW (c12_bits l D cy ad  hg_8) (va_cwS 1 hC.2.2.2.2.1 gX12_tell_X12_bits rfl rfl rfl hdS12_bits ⟨Nat.le_of_ble_eq_true rfl, Nat.le_of_ble_eq_true rfl⟩) (Sub.nil _) rfl hl.1 rfl (Nat.le_of_ble_eq_true rfl) dX12_tell_28 ⟨Nat.zero_le _, Nat.zero_le _⟩ (fun H locs hW => ?_)
        refine lv_icmp_ge (tgt := 46) hC.1 hC.2.1 dX12_tell_31 (by decide) (fun hc_9 => ?_) (fun hc_9 => ?_)
        · have hf := ite_t hf hc_9
          exact t12_tell_46 hC ih  _ _ _ _ _ _ _ hf hW (lv_sub hl [0, 1, 2] rfl)
        · have hf := ite_f hf hc_9
          exact t12_tell_34 hC ih  _ _ _ _ _ _ _ hf hW (lv_sub hl [0, 1, 2] rfl)
set_option maxRecDepth 100000 in
set_option maxHeartbeats 4000000 in
theorem t12_tell_0 (hC : Cx p s m args meth c cX12_tell 3 wsX12_tell RX12 (some .int)) : ∀ (SM : Ob) (res : Int32 × Ob) (H : Heap) (locs : List Loc) (ls : Array Slot), f12_tell SM = some res → GW D cy ad (w12 cy aM SM) A s H locs → lv_has ls 3 [(0, .ref (aM 0))] → W p l e rm12_tell s m args below meth c H locs 0 0 (MQ below (QI D cy (w12 cy aM (res.2)) A (res.1)) args s 0 0 A) (F0 m 0 ls []) := by
  intro SM res H locs ls hf hW hl
  unfold f12_tell at hf
  refine lv_aload_n hC.1 hC.2.1 dX12_tell_0 rfl (lv_at hl 0 rfl) ?_
  refine lv_iconst (v := 0) hC.1 hC.2.1 dX12_tell_1 (by decide) ?_
  obtain ⟨SM_1, eSM_1⟩ : ∃ y : Ob, y = oI SM 0 0 := ⟨_, rfl⟩
  have hf := lt_nm hf eSM_1
  refine g_put hC hW hin12_tell_12 tyX12 tyX12_ok nmX12 0 rfl rfl 0 (by decide) 1 rfl rfl rfl rfl (Nat.le_of_ble_eq_true rfl) (w' := w12 cy aM SM_1) (by rw [eSM_1]; rfl) dX12_tell_2 (fun H locs hW => ?_)
  refine lv_iconst (v := (-1)) hC.1 hC.2.1 dX12_tell_5 (by decide) ?_
  refine lv_istore_n (lv' := [(1, .int (-1)), (0, .ref (aM 0))]) hC.1 hC.2.1 dX12_tell_6 rfl hl (by decide) rfl (fun ls hl => ?_)
  refine lv_iconst (v := 0) hC.1 hC.2.1 dX12_tell_7 (by decide) ?_
  refine lv_istore_n (lv' := [(2, .int 0), (1, .int (-1)), (0, .ref (aM 0))]) hC.1 hC.2.1 dX12_tell_8 rfl hl (by decide) rfl (fun ls hl => ?_)
  exact t12_tell_9 hC _ _ _ _ _ _ _ _ hf hW (lv_sub hl [2, 1, 0] rfl)
set_option maxRecDepth 100000 in
set_option maxHeartbeats 4000000 in
theorem c12_tell (l : Launch) (D : va_G) (cy : Nat → ClassId) (ad : Nat → Nat) (aM : Nat → Nat) {SM : Ob} {res : Int32 × Ob} (h : f12_tell SM = some res) : GCi l yX12_tell wsX12_tell rm12_tell [.ref (aM 0)] D cy ad (w12 cy aM SM) (w12 cy aM (res.2)) (res.1) := fun sz => GC.start (own := RX12) (Qc := fun A => QI D cy (w12 cy aM (res.2)) A (res.1)) sz (by decide) rfl rfl (Nat.le_of_ble_eq_true rfl) (fun p e s m below meth c A ls hC hW hl => t12_tell_0 hC _ _ _ _ _ h hW (lv_sub hl [0] rfl))
abbrev rm12_viewIn : Room := { frames := 2, cells := 0, slots := 0, locals := 40 }
theorem hdV12_viewIn : yX12_viewIn.cls = RX12 ∧ (yX12_viewIn.cls ≠ "java/lang/invoke/MethodHandle" ∧ yX12_viewIn.cls ≠ "java/lang/invoke/VarHandle" ∧ (parseMethodDescriptor yX12_viewIn.desc).map (fun d => d.parameters.length) = some 3) := by decide +kernel
theorem hin12_viewIn_12 : ∀ x ∈ u_ws RX12 TX12 39, x ∈ wsX12_viewIn := fun _ h => List.mem_cons_of_mem _ (List.mem_append_right _ h)
set_option maxRecDepth 100000 in
set_option maxHeartbeats 4000000 in
theorem t12_viewIn_58 (hC : Cx p s m args meth c cX12_viewIn 6 wsX12_viewIn RX12 (some .int)) {k6 : Int32 → Int32 → Int32 → Int32 → Int32 → Ob → Option (Int32)} (hk6 : ∀ (x1 : Int32) (x2 : Int32) (x3 : Int32) (x4 : Int32) (x5 : Int32) (SM : Ob) (res : Int32) (H : Heap) (locs : List Loc) (ls : Array Slot), k6 x1 x2 x3 x4 x5 SM = some res → GW D cy ad (w12 cy aM SM) A s H locs → lv_has ls 6 [(0, .ref (aM 0)), (1, .int x1), (2, .int x2), (3, .int x3), (4, .int x4), (5, .int x5)] → W p l e rm12_viewIn s m args below meth c H locs 0 0 (MQ below (QI D cy (w12 cy aM SM) A res) args s 0 0 A) (F0 m 6 ls [])) : ∀ (x1 : Int32) (x2 : Int32) (x3 : Int32) (x5 : Int32) (z0 : Int32) (z1 : Int32) (SM : Ob) (res : Int32) (H : Heap) (locs : List Loc) (ls : Array Slot), f12_viewIn_58 k6 x1 x2 x3 x5 z0 z1 SM = some res → GW D cy ad (w12 cy aM SM) A s H locs → lv_has ls 6 [(0, .ref (aM 0)), (1, .int x1), (2, .int x2), (3, .int x3), (5, .int x5)] → W p l e rm12_viewIn s m args below meth c H locs 0 0 (MQ below (QI D cy (w12 cy aM SM) A res) args s 0 0 A) (F0 m 58 ls [.int z1, .int z0]) := by
  intro x1 x2 x3 x5 z0 z1 SM res H locs ls hf hW hl
  unfold f12_viewIn_58 at hf
  refine lv_ior hC.1 hC.2.1 dX12_viewIn_58 ?_
  refine lv_topi (fun x4_1 ex4_1 => ?_)
  have hf := lt_nm hf ex4_1
  refine lv_istore (lv' := [(4, .int x4_1), (0, .ref (aM 0)), (1, .int x1), (2, .int x2), (3, .int x3), (5, .int x5)]) hC.1 hC.2.1 dX12_viewIn_59 hl (by decide) rfl (fun ls hl => ?_)
  obtain ⟨x5_2, ex5_2⟩ : ∃ y : Int32, y = x5 + 1 := ⟨_, rfl⟩
  have hf := lt_nm hf ex5_2
  refine lv_iinc (v := x5_2) (lv' := [(5, .int x5_2), (4, .int x4_1), (0, .ref (aM 0)), (1, .int x1), (2, .int x2), (3, .int x3)]) hC.1 hC.2.1 dX12_viewIn_61 hl (k := 5) rfl (by rw [ex5_2]; rfl) (by decide) rfl (fun ls hl => ?_)
  refine lv_goto (tgt := 6) hC.1 hC.2.1 dX12_viewIn_64 (by decide) ?_
  exact hk6 _ _ _ _ _ _ _ _ _ _ hf hW (lv_sub hl [2, 3, 4, 5, 1, 0] rfl)
set_option maxRecDepth 100000 in
set_option maxHeartbeats 4000000 in
theorem t12_viewIn_57 (hC : Cx p s m args meth c cX12_viewIn 6 wsX12_viewIn RX12 (some .int)) {k6 : Int32 → Int32 → Int32 → Int32 → Int32 → Ob → Option (Int32)} (hk6 : ∀ (x1 : Int32) (x2 : Int32) (x3 : Int32) (x4 : Int32) (x5 : Int32) (SM : Ob) (res : Int32) (H : Heap) (locs : List Loc) (ls : Array Slot), k6 x1 x2 x3 x4 x5 SM = some res → GW D cy ad (w12 cy aM SM) A s H locs → lv_has ls 6 [(0, .ref (aM 0)), (1, .int x1), (2, .int x2), (3, .int x3), (4, .int x4), (5, .int x5)] → W p l e rm12_viewIn s m args below meth c H locs 0 0 (MQ below (QI D cy (w12 cy aM SM) A res) args s 0 0 A) (F0 m 6 ls [])) : ∀ (x1 : Int32) (x2 : Int32) (x3 : Int32) (x5 : Int32) (z0 : Int32) (SM : Ob) (res : Int32) (H : Heap) (locs : List Loc) (ls : Array Slot), f12_viewIn_57 k6 x1 x2 x3 x5 z0 SM = some res → GW D cy ad (w12 cy aM SM) A s H locs → lv_has ls 6 [(0, .ref (aM 0)), (1, .int x1), (2, .int x2), (3, .int x3), (5, .int x5)] → W p l e rm12_viewIn s m args below meth c H locs 0 0 (MQ below (QI D cy (w12 cy aM SM) A res) args s 0 0 A) (F0 m 57 ls [.int z0]) := by
  intro x1 x2 x3 x5 z0 SM res H locs ls hf hW hl
  unfold f12_viewIn_57 at hf
  refine lv_iconst (v := 0) hC.1 hC.2.1 dX12_viewIn_57 (by decide) ?_
  exact t12_viewIn_58 hC hk6  _ _ _ _ _ _ _ _ _ _ _ hf hW (lv_sub hl [0, 1, 2, 3, 4] rfl)
set_option maxRecDepth 100000 in
set_option maxHeartbeats 4000000 in
theorem t12_viewIn_6 (hC : Cx p s m args meth c cX12_viewIn 6 wsX12_viewIn RX12 (some .int)) : ∀ n : Nat, ∀ (x1 : Int32) (x2 : Int32) (x3 : Int32) (x4 : Int32) (x5 : Int32) (SM : Ob) (res : Int32) (H : Heap) (locs : List Loc) (ls : Array Slot), f12_viewIn_6 n x1 x2 x3 x4 x5 SM = some res → GW D cy ad (w12 cy aM SM) A s H locs → lv_has ls 6 [(0, .ref (aM 0)), (1, .int x1), (2, .int x2), (3, .int x3), (4, .int x4), (5, .int x5)] → W p l e rm12_viewIn s m args below meth c H locs 0 0 (MQ below (QI D cy (w12 cy aM SM) A res) args s 0 0 A) (F0 m 6 ls []) := by
  intro n
  induction n with
  | zero =>
    intro _ _ _ _ _ _ _ _ _ _ hf _ _
    exact nomatch (show (none : Option (Int32)) = some _ from hf)
  | succ n ih =>
    intro x1 x2 x3 x4 x5 SM res H locs ls hf hW hl
    rw [f12_viewIn_6] at hf
    refine lv_iload hC.1 hC.2.1 dX12_viewIn_6 (lv_at hl 5 rfl) ?_
    refine lv_aload_n hC.1 hC.2.1 dX12_viewIn_8 rfl (lv_at hl 0 rfl) ?_
    obtain ⟨r_1, hg_2, hf⟩ := bd_of hf
    refine g_calliV hC hW (c12_worlds l D cy ad aM hg_2) (cwV 0 hC.2.2.2.2.1 gX12_viewIn_X12_worlds rfl rfl rfl hdV12_worlds ⟨Nat.le_of_ble_eq_true rfl, Nat.le_of_ble_eq_true rfl⟩) (Sub.all _ _) 0 11 rfl rfl rfl rfl hl.1 rfl (Nat.le_of_ble_eq_true rfl) dX12_viewIn_9 ⟨Nat.zero_le _, Nat.zero_le _⟩ (fun H locs hW => ?_)
    refine lv_icmp_ge (tgt := 67) hC.1 hC.2.1 dX12_viewIn_12 (by decide) (fun hc_3 => ?_) (fun hc_3 => ?_)
    · have hf := ite_t hf hc_3
      refine lv_iload hC.1 hC.2.1 dX12_viewIn_67 (lv_at hl 4 rfl) ?_
      obtain rfl := Option.some.inj hf
      exact g_iret hC hW dX12_viewIn_69
    · have hf := ite_f hf hc_3
      refine lv_iload hC.1 hC.2.1 dX12_viewIn_15 (lv_at hl 4 rfl) ?_
      refine lv_iload_n hC.1 hC.2.1 dX12_viewIn_17 rfl (lv_at hl 1 rfl) ?_
      refine lv_iload hC.1 hC.2.1 dX12_viewIn_18 (lv_at hl 5 rfl) ?_
      obtain ⟨r_4, hg_5, hf⟩ := bd_of hf
      refine g_calliS hC hW (c12_isIn l D cy ad  hg_5) (va_cwS 2 hC.2.2.2.2.1 gX12_viewIn_X12_isIn rfl rfl rfl hdS12_isIn ⟨Nat.le_of_ble_eq_true rfl, Nat.le_of_ble_eq_true rfl⟩) (Sub.nil _) rfl hl.1 rfl (Nat.le_of_ble_eq_true rfl) dX12_viewIn_20 ⟨Nat.zero_le _, Nat.zero_le _⟩ (fun H locs hW => ?_)
      refine lv_if_eq (tgt := 57) hC.1 hC.2.1 dX12_viewIn_23 (by decide) (fun hc_6 => ?_) (fun hc_6 => ?_)
      · have hf := ite_t hf hc_6
        exact t12_viewIn_57 hC ih  _ _ _ _ _ _ _ _ _ _ hf hW (lv_sub hl [0, 1, 2, 3, 5] rfl)
      · have hf := ite_f hf hc_6
        refine lv_aload_n hC.1 hC.2.1 dX12_viewIn_26 rfl (lv_at hl 0 rfl) ?_
        refine g_get hC hW hin12_viewIn_12 0 rfl rfl 29 (by decide) 1 rfl rfl dX12_viewIn_27 ?_
        refine lv_iload hC.1 hC.2.1 dX12_viewIn_30 (lv_at hl 5 rfl) ?_
        obtain ⟨hi_7, hf⟩ := ck_of hf
        refine g_iald hC hW 19 rfl hi_7 dX12_viewIn_32 ?_
        refine lv_aload_n hC.1 hC.2.1 dX12_viewIn_33 rfl (lv_at hl 0 rfl) ?_
        refine g_get hC hW hin12_viewIn_12 0 rfl rfl 29 (by decide) 1 rfl rfl dX12_viewIn_34 ?_
        refine lv_iload_n hC.1 hC.2.1 dX12_viewIn_37 rfl (lv_at hl 3 rfl) ?_
        obtain ⟨hi_8, hf⟩ := ck_of hf
        refine g_iald hC hW 19 rfl hi_8 dX12_viewIn_38 ?_
        refine lv_ixor hC.1 hC.2.1 dX12_viewIn_39 ?_
        refine lv_aload_n hC.1 hC.2.1 dX12_viewIn_40 rfl (lv_at hl 0 rfl) ?_
        refine lv_iload_n hC.1 hC.2.1 dX12_viewIn_41 rfl (lv_at hl 2 rfl) ?_
        refine lv_iconst (v := 3) hC.1 hC.2.1 dX12_viewIn_42 (by decide) ?_
        obtain ⟨r_9, hg_10, hf⟩ := bd_of hf
        refine g_calliV hC hW (c12_guestOf l D cy ad aM hg_10) (cwV 2 hC.2.2.2.2.1 gX12_viewIn_X12_guestOf rfl rfl rfl hdV12_guestOf ⟨Nat.le_of_ble_eq_true rfl, Nat.le_of_ble_eq_true rfl⟩) (Sub.all _ _) 0 11 rfl rfl rfl rfl hl.1 rfl (Nat.le_of_ble_eq_true rfl) dX12_viewIn_43 ⟨Nat.zero_le _, Nat.zero_le _⟩ (fun H locs hW => ?_)
        refine lv_iand hC.1 hC.2.1 dX12_viewIn_46 ?_
        refine lv_if_ne (tgt := 57) hC.1 hC.2.1 dX12_viewIn_47 (by decide) (fun hc_11 => ?_) (fun hc_11 => ?_)
        · have hf := ite_f hf hc_11
          exact t12_viewIn_57 hC ih  _ _ _ _ _ _ _ _ _ _ hf hW (lv_sub hl [0, 1, 2, 3, 5] rfl)
        · have hf := ite_t hf hc_11
          refine lv_iconst (v := 1) hC.1 hC.2.1 dX12_viewIn_50 (by decide) ?_
          refine lv_iload hC.1 hC.2.1 dX12_viewIn_51 (lv_at hl 5 rfl) ?_
          refine lv_ishl hC.1 hC.2.1 dX12_viewIn_53 ?_
          refine lv_goto (tgt := 58) hC.1 hC.2.1 dX12_viewIn_54 (by decide) ?_
          exact t12_viewIn_58 hC ih  _ _ _ _ _ _ _ _ _ _ _ hf hW (lv_sub hl [0, 1, 2, 3, 5] rfl)
set_option maxRecDepth 100000 in
set_option maxHeartbeats 4000000 in
theorem t12_viewIn_0 (hC : Cx p s m args meth c cX12_viewIn 6 wsX12_viewIn RX12 (some .int)) : ∀ (x1 : Int32) (x2 : Int32) (x3 : Int32) (SM : Ob) (res : Int32) (H : Heap) (locs : List Loc) (ls : Array Slot), f12_viewIn x1 x2 x3 SM = some res → GW D cy ad (w12 cy aM SM) A s H locs → lv_has ls 6 [(0, .ref (aM 0)), (1, .int x1), (2, .int x2), (3, .int x3)] → W p l e rm12_viewIn s m args below meth c H locs 0 0 (MQ below (QI D cy (w12 cy aM SM) A res) args s 0 0 A) (F0 m 0 ls []) := by
  intro x1 x2 x3 SM res H locs ls hf hW hl
  unfold f12_viewIn at hf
  refine lv_iconst (v := 0) hC.1 hC.2.1 dX12_viewIn_0 (by decide) ?_
  refine lv_istore (lv' := [(4, .int 0), (0, .ref (aM 0)), (1, .int x1), (2, .int x2), (3, .int x3)]) hC.1 hC.2.1 dX12_viewIn_1 hl (by decide) rfl (fun ls hl => ?_)
  refine lv_iconst (v := 0) hC.1 hC.2.1 dX12_viewIn_3 (by decide) ?_
  refine lv_istore (lv' := [(5, .int 0), (4, .int 0), (0, .ref (aM 0)), (1, .int x1), (2, .int x2), (3, .int x3)]) hC.1 hC.2.1 dX12_viewIn_4 hl (by decide) rfl (fun ls hl => ?_)
  exact t12_viewIn_6 hC _ _ _ _ _ _ _ _ _ _ _ hf hW (lv_sub hl [2, 3, 4, 5, 1, 0] rfl)
set_option maxRecDepth 100000 in
set_option maxHeartbeats 4000000 in
theorem c12_viewIn (l : Launch) (D : va_G) (cy : Nat → ClassId) (ad : Nat → Nat) (aM : Nat → Nat) {x1 : Int32} {x2 : Int32} {x3 : Int32} {SM : Ob} {res : Int32} (h : f12_viewIn x1 x2 x3 SM = some res) : GCi l yX12_viewIn wsX12_viewIn rm12_viewIn [.ref (aM 0), .int x1, .int x2, .int x3] D cy ad (w12 cy aM SM) (w12 cy aM SM) res := fun sz => GC.start (own := RX12) (Qc := fun A => QI D cy (w12 cy aM SM) A res) sz (by decide) rfl rfl (Nat.le_of_ble_eq_true rfl) (fun p e s m below meth c A ls hC hW hl => t12_viewIn_0 hC _ _ _ _ _ _ _ _ h hW (lv_sub hl [0, 1, 2, 3] rfl))
abbrev rm12_isLeft : Room := { frames := 2, cells := 0, slots := 0, locals := 40 }
theorem hdV12_isLeft : yX12_isLeft.cls = RX12 ∧ (yX12_isLeft.cls ≠ "java/lang/invoke/MethodHandle" ∧ yX12_isLeft.cls ≠ "java/lang/invoke/VarHandle" ∧ (parseMethodDescriptor yX12_isLeft.desc).map (fun d => d.parameters.length) = some 1) := by decide +kernel
theorem hin12_isLeft_12 : ∀ x ∈ u_ws RX12 TX12 39, x ∈ wsX12_isLeft := fun _ h => List.mem_cons_of_mem _ (List.mem_append_right _ h)
set_option maxRecDepth 100000 in
set_option maxHeartbeats 4000000 in
theorem t12_isLeft_32 (hC : Cx p s m args meth c cX12_isLeft 2 wsX12_isLeft RX12 (some .boolean)) : ∀ (z0 : Int32) (SM : Ob) (res : Int32) (H : Heap) (locs : List Loc) (ls : Array Slot), f12_isLeft_32 z0 SM = some res → GW D cy ad (w12 cy aM SM) A s H locs → lv_has ls 2 [] → W p l e rm12_isLeft s m args below meth c H locs 0 0 (MQ below (QI D cy (w12 cy aM SM) A res) args s 0 0 A) (F0 m 32 ls [.int z0]) := by
  intro z0 SM res H locs ls hf hW hl
  unfold f12_isLeft_32 at hf
  obtain ⟨hz, hf⟩ := ck_of hf
  obtain rfl := Option.some.inj hf
  exact g_zret hC hW hz dX12_isLeft_32
set_option maxRecDepth 100000 in
set_option maxHeartbeats 4000000 in
theorem t12_isLeft_31 (hC : Cx p s m args meth c cX12_isLeft 2 wsX12_isLeft RX12 (some .boolean)) : ∀ (SM : Ob) (res : Int32) (H : Heap) (locs : List Loc) (ls : Array Slot), f12_isLeft_31 SM = some res → GW D cy ad (w12 cy aM SM) A s H locs → lv_has ls 2 [] → W p l e rm12_isLeft s m args below meth c H locs 0 0 (MQ below (QI D cy (w12 cy aM SM) A res) args s 0 0 A) (F0 m 31 ls []) := by
  intro SM res H locs ls hf hW hl
  unfold f12_isLeft_31 at hf
  refine lv_iconst (v := 0) hC.1 hC.2.1 dX12_isLeft_31 (by decide) ?_
  exact t12_isLeft_32 hC  _ _ _ _ _ _ hf hW (lv_sub hl [] rfl)
set_option maxRecDepth 100000 in
set_option maxHeartbeats 4000000 in
theorem t12_isLeft_0 (hC : Cx p s m args meth c cX12_isLeft 2 wsX12_isLeft RX12 (some .boolean)) : ∀ (x1 : Int32) (SM : Ob) (res : Int32) (H : Heap) (locs : List Loc) (ls : Array Slot), f12_isLeft x1 SM = some res → GW D cy ad (w12 cy aM SM) A s H locs → lv_has ls 2 [(0, .ref (aM 0)), (1, .int x1)] → W p l e rm12_isLeft s m args below meth c H locs 0 0 (MQ below (QI D cy (w12 cy aM SM) A res) args s 0 0 A) (F0 m 0 ls []) := by
  intro x1 SM res H locs ls hf hW hl
  unfold f12_isLeft at hf
  refine lv_iload_n hC.1 hC.2.1 dX12_isLeft_0 rfl (lv_at hl 1 rfl) ?_
  refine lv_iconst (v := 0) hC.1 hC.2.1 dX12_isLeft_1 (by decide) ?_
  refine lv_aload_n hC.1 hC.2.1 dX12_isLeft_2 rfl (lv_at hl 0 rfl) ?_
  obtain ⟨r_1, hg_2, hf⟩ := bd_of hf
  refine g_calliV hC hW (c12_worlds l D cy ad aM hg_2) (cwV 0 hC.2.2.2.2.1 gX12_isLeft_X12_worlds rfl rfl rfl hdV12_worlds ⟨Nat.le_of_ble_eq_true rfl, Nat.le_of_ble_eq_true rfl⟩) (Sub.all _ _) 0 11 rfl rfl rfl rfl hl.1 rfl (Nat.le_of_ble_eq_true rfl) dX12_isLeft_3 ⟨Nat.zero_le _, Nat.zero_le _⟩ (fun H locs hW => ?_)
  refine lv_iconst (v := 1) hC.1 hC.2.1 dX12_isLeft_6 (by decide) ?_
  refine lv_isub hC.1 hC.2.1 dX12_isLeft_7 ?_
  obtain ⟨r_3, hg_4, hf⟩ := bd_of hf
  refine g_calliS hC hW (c12_within l D cy ad  hg_4) (va_cwS 3 hC.2.2.2.2.1 gX12_isLeft_X12_within rfl rfl rfl hdS12_within ⟨Nat.le_of_ble_eq_true rfl, Nat.le_of_ble_eq_true rfl⟩) (Sub.nil _) rfl hl.1 rfl (Nat.le_of_ble_eq_true rfl) dX12_isLeft_8 ⟨Nat.zero_le _, Nat.zero_le _⟩ (fun H locs hW => ?_)
  refine lv_if_eq (tgt := 31) hC.1 hC.2.1 dX12_isLeft_11 (by decide) (fun hc_5 => ?_) (fun hc_5 => ?_)
  · have hf := ite_t hf hc_5
    exact t12_isLeft_31 hC  _ _ _ _ _ hf hW (lv_sub hl [] rfl)
  · have hf := ite_f hf hc_5
    refine lv_aload_n hC.1 hC.2.1 dX12_isLeft_14 rfl (lv_at hl 0 rfl) ?_
    refine g_get hC hW hin12_isLeft_12 0 rfl rfl 25 (by decide) 1 rfl rfl dX12_isLeft_15 ?_
    refine lv_iconst (v := 0) hC.1 hC.2.1 dX12_isLeft_18 (by decide) ?_
    obtain ⟨hi_6, hf⟩ := ck_of hf
    refine g_iald hC hW 16 rfl hi_6 dX12_isLeft_19 ?_
    refine lv_iload_n hC.1 hC.2.1 dX12_isLeft_20 rfl (lv_at hl 1 rfl) ?_
    obtain ⟨r_7, hg_8, hf⟩ := bd_of hf
    refine g_calliS hC hW (c12_isIn l D cy ad  hg_8) (va_cwS 2 hC.2.2.2.2.1 gX12_isLeft_X12_isIn rfl rfl rfl hdS12_isIn ⟨Nat.le_of_ble_eq_true rfl, Nat.le_of_ble_eq_true rfl⟩) (Sub.nil _) rfl hl.1 rfl (Nat.le_of_ble_eq_true rfl) dX12_isLeft_21 ⟨Nat.zero_le _, Nat.zero_le _⟩ (fun H locs hW => ?_)
    refine lv_if_eq (tgt := 31) hC.1 hC.2.1 dX12_isLeft_24 (by decide) (fun hc_9 => ?_) (fun hc_9 => ?_)
    · have hf := ite_t hf hc_9
      exact t12_isLeft_31 hC  _ _ _ _ _ hf hW (lv_sub hl [] rfl)
    · have hf := ite_f hf hc_9
      refine lv_iconst (v := 1) hC.1 hC.2.1 dX12_isLeft_27 (by decide) ?_
      refine lv_goto (tgt := 32) hC.1 hC.2.1 dX12_isLeft_28 (by decide) ?_
      exact t12_isLeft_32 hC  _ _ _ _ _ _ hf hW (lv_sub hl [] rfl)
set_option maxRecDepth 100000 in
set_option maxHeartbeats 4000000 in
theorem c12_isLeft (l : Launch) (D : va_G) (cy : Nat → ClassId) (ad : Nat → Nat) (aM : Nat → Nat) {x1 : Int32} {SM : Ob} {res : Int32} (h : f12_isLeft x1 SM = some res) : GCi l yX12_isLeft wsX12_isLeft rm12_isLeft [.ref (aM 0), .int x1] D cy ad (w12 cy aM SM) (w12 cy aM SM) res := fun sz => GC.start (own := RX12) (Qc := fun A => QI D cy (w12 cy aM SM) A res) sz (by decide) rfl rfl (Nat.le_of_ble_eq_true rfl) (fun p e s m below meth c A ls hC hW hl => t12_isLeft_0 hC _ _ _ _ _ _ h hW (lv_sub hl [0, 1] rfl))
abbrev rm12_knows : Room := { frames := 3, cells := 0, slots := 0, locals := 65 }
theorem hdV12_knows : yX12_knows.cls = RX12 ∧ (yX12_knows.cls ≠ "java/lang/invoke/MethodHandle" ∧ yX12_knows.cls ≠ "java/lang/invoke/VarHandle" ∧ (parseMethodDescriptor yX12_knows.desc).map (fun d => d.parameters.length) = some 2) := by decide +kernel
theorem hin12_knows_12 : ∀ x ∈ u_ws RX12 TX12 39, x ∈ wsX12_knows := fun _ h => List.mem_cons_of_mem _ (List.mem_append_right _ h)
set_option maxRecDepth 100000 in
set_option maxHeartbeats 4000000 in
theorem t12_knows_41 (hC : Cx p s m args meth c cX12_knows 3 wsX12_knows RX12 (some .int)) : ∀ (z0 : Int32) (SM : Ob) (res : Int32 × Ob) (H : Heap) (locs : List Loc) (ls : Array Slot), f12_knows_41 z0 SM = some res → GW D cy ad (w12 cy aM SM) A s H locs → lv_has ls 3 [] → W p l e rm12_knows s m args below meth c H locs 0 0 (MQ below (QI D cy (w12 cy aM (res.2)) A (res.1)) args s 0 0 A) (F0 m 41 ls [.int z0]) := by
  intro z0 SM res H locs ls hf hW hl
  unfold f12_knows_41 at hf
  obtain rfl := Option.some.inj hf
  exact g_iret hC hW dX12_knows_41
set_option maxRecDepth 100000 in
set_option maxHeartbeats 4000000 in
theorem t12_knows_40 (hC : Cx p s m args meth c cX12_knows 3 wsX12_knows RX12 (some .int)) : ∀ (SM : Ob) (res : Int32 × Ob) (H : Heap) (locs : List Loc) (ls : Array Slot), f12_knows_40 SM = some res → GW D cy ad (w12 cy aM SM) A s H locs → lv_has ls 3 [] → W p l e rm12_knows s m args below meth c H locs 0 0 (MQ below (QI D cy (w12 cy aM (res.2)) A (res.1)) args s 0 0 A) (F0 m 40 ls []) := by
  intro SM res H locs ls hf hW hl
  unfold f12_knows_40 at hf
  refine lv_iconst (v := (-1)) hC.1 hC.2.1 dX12_knows_40 (by decide) ?_
  exact t12_knows_41 hC  _ _ _ _ _ _ hf hW (lv_sub hl [] rfl)
set_option maxRecDepth 100000 in
set_option maxHeartbeats 4000000 in
theorem t12_knows_0 (hC : Cx p s m args meth c cX12_knows 3 wsX12_knows RX12 (some .int)) : ∀ (x1 : Int32) (x2 : Int32) (SM : Ob) (res : Int32 × Ob) (H : Heap) (locs : List Loc) (ls : Array Slot), f12_knows x1 x2 SM = some res → GW D cy ad (w12 cy aM SM) A s H locs → lv_has ls 3 [(0, .ref (aM 0)), (1, .int x1), (2, .int x2)] → W p l e rm12_knows s m args below meth c H locs 0 0 (MQ below (QI D cy (w12 cy aM (res.2)) A (res.1)) args s 0 0 A) (F0 m 0 ls []) := by
  intro x1 x2 SM res H locs ls hf hW hl
  unfold f12_knows at hf
  refine lv_aload_n hC.1 hC.2.1 dX12_knows_0 rfl (lv_at hl 0 rfl) ?_
  refine lv_iconst (v := 0) hC.1 hC.2.1 dX12_knows_1 (by decide) ?_
  obtain ⟨SM_1, eSM_1⟩ : ∃ y : Ob, y = oI SM 0 0 := ⟨_, rfl⟩
  have hf := lt_nm hf eSM_1
  refine g_put hC hW hin12_knows_12 tyX12 tyX12_ok nmX12 0 rfl rfl 0 (by decide) 1 rfl rfl rfl rfl (Nat.le_of_ble_eq_true rfl) (w' := w12 cy aM SM_1) (by rw [eSM_1]; rfl) dX12_knows_2 (fun H locs hW => ?_)
  refine lv_aload_n hC.1 hC.2.1 dX12_knows_5 rfl (lv_at hl 0 rfl) ?_
  refine lv_iload_n hC.1 hC.2.1 dX12_knows_6 rfl (lv_at hl 1 rfl) ?_
  obtain ⟨r_2, hg_3, hf⟩ := bd_of hf
  refine g_calliV hC hW (c12_isGuest l D cy ad aM hg_3) (cwV 1 hC.2.2.2.2.1 gX12_knows_X12_isGuest rfl rfl rfl hdV12_isGuest ⟨Nat.le_of_ble_eq_true rfl, Nat.le_of_ble_eq_true rfl⟩) (Sub.all _ _) 0 11 rfl rfl rfl rfl hl.1 rfl (Nat.le_of_ble_eq_true rfl) dX12_knows_7 ⟨Nat.zero_le _, Nat.zero_le _⟩ (fun H locs hW => ?_)
  refine lv_if_eq (tgt := 40) hC.1 hC.2.1 dX12_knows_10 (by decide) (fun hc_4 => ?_) (fun hc_4 => ?_)
  · have hf := ite_t hf hc_4
    exact t12_knows_40 hC  _ _ _ _ _ hf hW (lv_sub hl [] rfl)
  · have hf := ite_f hf hc_4
    refine lv_aload_n hC.1 hC.2.1 dX12_knows_13 rfl (lv_at hl 0 rfl) ?_
    refine lv_iload_n hC.1 hC.2.1 dX12_knows_14 rfl (lv_at hl 2 rfl) ?_
    obtain ⟨r_5, hg_6, hf⟩ := bd_of hf
    refine g_calliV hC hW (c12_isLeft l D cy ad aM hg_6) (cwV 1 hC.2.2.2.2.1 gX12_knows_X12_isLeft rfl rfl rfl hdV12_isLeft ⟨Nat.le_of_ble_eq_true rfl, Nat.le_of_ble_eq_true rfl⟩) (Sub.all _ _) 0 11 rfl rfl rfl rfl hl.1 rfl (Nat.le_of_ble_eq_true rfl) dX12_knows_15 ⟨Nat.zero_le _, Nat.zero_le _⟩ (fun H locs hW => ?_)
    refine lv_if_eq (tgt := 40) hC.1 hC.2.1 dX12_knows_18 (by decide) (fun hc_7 => ?_) (fun hc_7 => ?_)
    · have hf := ite_t hf hc_7
      exact t12_knows_40 hC  _ _ _ _ _ hf hW (lv_sub hl [] rfl)
    · have hf := ite_f hf hc_7
      refine lv_aload_n hC.1 hC.2.1 dX12_knows_21 rfl (lv_at hl 0 rfl) ?_
      refine lv_aload_n hC.1 hC.2.1 dX12_knows_22 rfl (lv_at hl 0 rfl) ?_
      refine lv_aload_n hC.1 hC.2.1 dX12_knows_23 rfl (lv_at hl 0 rfl) ?_
      refine g_get hC hW hin12_knows_12 0 rfl rfl 25 (by decide) 2 rfl rfl dX12_knows_24 ?_
      refine lv_iconst (v := 0) hC.1 hC.2.1 dX12_knows_27 (by decide) ?_
      obtain ⟨hi_8, hf⟩ := ck_of hf
      refine g_iald hC hW 16 rfl hi_8 dX12_knows_28 ?_
      refine lv_iload_n hC.1 hC.2.1 dX12_knows_29 rfl (lv_at hl 1 rfl) ?_
      refine lv_iload_n hC.1 hC.2.1 dX12_knows_30 rfl (lv_at hl 2 rfl) ?_
      obtain ⟨r_9, hg_10, hf⟩ := bd_of hf
      refine g_calliV hC hW (c12_viewIn l D cy ad aM hg_10) (cwV 3 hC.2.2.2.2.1 gX12_knows_X12_viewIn rfl rfl rfl hdV12_viewIn ⟨Nat.le_of_ble_eq_true rfl, Nat.le_of_ble_eq_true rfl⟩) (Sub.all _ _) 0 11 rfl rfl rfl rfl hl.1 rfl (Nat.le_of_ble_eq_true rfl) dX12_knows_31 ⟨Nat.zero_le _, Nat.zero_le _⟩ (fun H locs hW => ?_)
      obtain ⟨r_11, hg_12, hf⟩ := bd_of hf
      refine g_calliV hC hW (c12_whoIn l D cy ad aM hg_12) (cwV 1 hC.2.2.2.2.1 gX12_knows_X12_whoIn rfl rfl rfl hdV12_whoIn ⟨Nat.le_of_ble_eq_true rfl, Nat.le_of_ble_eq_true rfl⟩) (Sub.all _ _) 0 11 rfl rfl rfl rfl hl.1 rfl (Nat.le_of_ble_eq_true rfl) dX12_knows_34 ⟨Nat.zero_le _, Nat.zero_le _⟩ (fun H locs hW => ?_)
      refine lv_goto (tgt := 41) hC.1 hC.2.1 dX12_knows_37 (by decide) ?_
      exact t12_knows_41 hC  _ _ _ _ _ _ hf hW (lv_sub hl [] rfl)
set_option maxRecDepth 100000 in
set_option maxHeartbeats 4000000 in
theorem c12_knows (l : Launch) (D : va_G) (cy : Nat → ClassId) (ad : Nat → Nat) (aM : Nat → Nat) {x1 : Int32} {x2 : Int32} {SM : Ob} {res : Int32 × Ob} (h : f12_knows x1 x2 SM = some res) : GCi l yX12_knows wsX12_knows rm12_knows [.ref (aM 0), .int x1, .int x2] D cy ad (w12 cy aM SM) (w12 cy aM (res.2)) (res.1) := fun sz => GC.start (own := RX12) (Qc := fun A => QI D cy (w12 cy aM (res.2)) A (res.1)) sz (by decide) rfl rfl (Nat.le_of_ble_eq_true rfl) (fun p e s m below meth c A ls hC hW hl => t12_knows_0 hC _ _ _ _ _ _ _ h hW (lv_sub hl [0, 1, 2] rfl))
end
