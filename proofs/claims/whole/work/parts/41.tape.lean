/-! laid by program: functions, walks and contracts of 10_put, 10_readWord, 10_readNumber, 10_advance, 10_begin, 10_isName -/
theorem dX10_put_0 : decode cX10_put 0 = .ok (.bipush 56, 2) := by decide +kernel
theorem dX10_put_2 : decode cX10_put 2 = .ok (.istore_n 3, 1) := by decide +kernel
theorem dX10_put_3 : decode cX10_put 3 = .ok (.iload_n 3, 1) := by decide +kernel
theorem dX10_put_4 : decode cX10_put 4 = .ok (.ifCond .lt 84, 3) := by decide +kernel
theorem dX10_put_7 : decode cX10_put 7 = .ok (.lload_n 1, 1) := by decide +kernel
theorem dX10_put_8 : decode cX10_put 8 = .ok (.iload_n 3, 1) := by decide +kernel
theorem dX10_put_9 : decode cX10_put 9 = .ok (.lushr, 1) := by decide +kernel
theorem dX10_put_10 : decode cX10_put 10 = .ok (.ldc2_w 31, 3) := by decide +kernel
theorem dX10_put_13 : decode cX10_put 13 = .ok (.land, 1) := by decide +kernel
theorem dX10_put_14 : decode cX10_put 14 = .ok (.l2i, 1) := by decide +kernel
theorem dX10_put_15 : decode cX10_put 15 = .ok (.istore 4, 2) := by decide +kernel
theorem dX10_put_17 : decode cX10_put 17 = .ok (.iload 4, 2) := by decide +kernel
theorem dX10_put_19 : decode cX10_put 19 = .ok (.bipush 10, 2) := by decide +kernel
theorem dX10_put_21 : decode cX10_put 21 = .ok (.if_icmp .eq 17, 3) := by decide +kernel
theorem dX10_put_24 : decode cX10_put 24 = .ok (.iload 4, 2) := by decide +kernel
theorem dX10_put_26 : decode cX10_put 26 = .ok (.bipush 32, 2) := by decide +kernel
theorem dX10_put_28 : decode cX10_put 28 = .ok (.if_icmp .lt 14, 3) := by decide +kernel
theorem dX10_put_31 : decode cX10_put 31 = .ok (.iload 4, 2) := by decide +kernel
theorem dX10_put_33 : decode cX10_put 33 = .ok (.bipush 126, 2) := by decide +kernel
theorem dX10_put_35 : decode cX10_put 35 = .ok (.if_icmp .gt 7, 3) := by decide +kernel
theorem dX10_put_38 : decode cX10_put 38 = .ok (.iconst 1, 1) := by decide +kernel
theorem dX10_put_39 : decode cX10_put 39 = .ok (.goto 4, 3) := by decide +kernel
theorem dX10_put_42 : decode cX10_put 42 = .ok (.iconst 0, 1) := by decide +kernel
theorem dX10_put_43 : decode cX10_put 43 = .ok (.istore 5, 2) := by decide +kernel
theorem dX10_put_45 : decode cX10_put 45 = .ok (.iload 5, 2) := by decide +kernel
theorem dX10_put_47 : decode cX10_put 47 = .ok (.ifCond .eq 35, 3) := by decide +kernel
theorem dX10_put_50 : decode cX10_put 50 = .ok (.aload_n 0, 1) := by decide +kernel
theorem dX10_put_51 : decode cX10_put 51 = .ok (.getfield 33, 3) := by decide +kernel
theorem dX10_put_54 : decode cX10_put 54 = .ok (.sipush 1000, 3) := by decide +kernel
theorem dX10_put_57 : decode cX10_put 57 = .ok (.if_icmp .ge 25, 3) := by decide +kernel
theorem dX10_put_60 : decode cX10_put 60 = .ok (.aload_n 0, 1) := by decide +kernel
theorem dX10_put_61 : decode cX10_put 61 = .ok (.getfield 9, 3) := by decide +kernel
theorem dX10_put_64 : decode cX10_put 64 = .ok (.aload_n 0, 1) := by decide +kernel
theorem dX10_put_65 : decode cX10_put 65 = .ok (.getfield 33, 3) := by decide +kernel
theorem dX10_put_68 : decode cX10_put 68 = .ok (.iload 4, 2) := by decide +kernel
theorem dX10_put_70 : decode cX10_put 70 = .ok (.i2b, 1) := by decide +kernel
theorem dX10_put_71 : decode cX10_put 71 = .ok (.bastore, 1) := by decide +kernel
theorem dX10_put_72 : decode cX10_put 72 = .ok (.aload_n 0, 1) := by decide +kernel
theorem dX10_put_73 : decode cX10_put 73 = .ok (.dup, 1) := by decide +kernel
theorem dX10_put_74 : decode cX10_put 74 = .ok (.getfield 33, 3) := by decide +kernel
theorem dX10_put_77 : decode cX10_put 77 = .ok (.iconst 1, 1) := by decide +kernel
theorem dX10_put_78 : decode cX10_put 78 = .ok (.iadd, 1) := by decide +kernel
theorem dX10_put_79 : decode cX10_put 79 = .ok (.putfield 33, 3) := by decide +kernel
theorem dX10_put_82 : decode cX10_put 82 = .ok (.iinc 3 (-8), 3) := by decide +kernel
theorem dX10_put_85 : decode cX10_put 85 = .ok (.goto (-82), 3) := by decide +kernel
theorem dX10_put_88 : decode cX10_put 88 = .ok (.return_, 1) := by decide +kernel
theorem dX10_readWord_0 : decode cX10_readWord 0 = .ok (.aload_n 0, 1) := by decide +kernel
theorem dX10_readWord_1 : decode cX10_readWord 1 = .ok (.lconst 0, 1) := by decide +kernel
theorem dX10_readWord_2 : decode cX10_readWord 2 = .ok (.putfield 60, 3) := by decide +kernel
theorem dX10_readWord_5 : decode cX10_readWord 5 = .ok (.aload_n 0, 1) := by decide +kernel
theorem dX10_readWord_6 : decode cX10_readWord 6 = .ok (.getfield 36, 3) := by decide +kernel
theorem dX10_readWord_9 : decode cX10_readWord 9 = .ok (.aload_n 0, 1) := by decide +kernel
theorem dX10_readWord_10 : decode cX10_readWord 10 = .ok (.getfield 33, 3) := by decide +kernel
theorem dX10_readWord_13 : decode cX10_readWord 13 = .ok (.if_icmp .ge 66, 3) := by decide +kernel
theorem dX10_readWord_16 : decode cX10_readWord 16 = .ok (.aload_n 0, 1) := by decide +kernel
theorem dX10_readWord_17 : decode cX10_readWord 17 = .ok (.getfield 9, 3) := by decide +kernel
theorem dX10_readWord_20 : decode cX10_readWord 20 = .ok (.aload_n 0, 1) := by decide +kernel
theorem dX10_readWord_21 : decode cX10_readWord 21 = .ok (.getfield 36, 3) := by decide +kernel
theorem dX10_readWord_24 : decode cX10_readWord 24 = .ok (.baload, 1) := by decide +kernel
theorem dX10_readWord_25 : decode cX10_readWord 25 = .ok (.bipush 97, 2) := by decide +kernel
theorem dX10_readWord_27 : decode cX10_readWord 27 = .ok (.if_icmp .lt 52, 3) := by decide +kernel
theorem dX10_readWord_30 : decode cX10_readWord 30 = .ok (.aload_n 0, 1) := by decide +kernel
theorem dX10_readWord_31 : decode cX10_readWord 31 = .ok (.getfield 9, 3) := by decide +kernel
theorem dX10_readWord_34 : decode cX10_readWord 34 = .ok (.aload_n 0, 1) := by decide +kernel
theorem dX10_readWord_35 : decode cX10_readWord 35 = .ok (.getfield 36, 3) := by decide +kernel
theorem dX10_readWord_38 : decode cX10_readWord 38 = .ok (.baload, 1) := by decide +kernel
theorem dX10_readWord_39 : decode cX10_readWord 39 = .ok (.bipush 122, 2) := by decide +kernel
theorem dX10_readWord_41 : decode cX10_readWord 41 = .ok (.if_icmp .gt 38, 3) := by decide +kernel
theorem dX10_readWord_44 : decode cX10_readWord 44 = .ok (.aload_n 0, 1) := by decide +kernel
theorem dX10_readWord_45 : decode cX10_readWord 45 = .ok (.aload_n 0, 1) := by decide +kernel
theorem dX10_readWord_46 : decode cX10_readWord 46 = .ok (.getfield 60, 3) := by decide +kernel
theorem dX10_readWord_49 : decode cX10_readWord 49 = .ok (.bipush 8, 2) := by decide +kernel
theorem dX10_readWord_51 : decode cX10_readWord 51 = .ok (.lshl, 1) := by decide +kernel
theorem dX10_readWord_52 : decode cX10_readWord 52 = .ok (.aload_n 0, 1) := by decide +kernel
theorem dX10_readWord_53 : decode cX10_readWord 53 = .ok (.getfield 9, 3) := by decide +kernel
theorem dX10_readWord_56 : decode cX10_readWord 56 = .ok (.aload_n 0, 1) := by decide +kernel
theorem dX10_readWord_57 : decode cX10_readWord 57 = .ok (.getfield 36, 3) := by decide +kernel
theorem dX10_readWord_60 : decode cX10_readWord 60 = .ok (.baload, 1) := by decide +kernel
theorem dX10_readWord_61 : decode cX10_readWord 61 = .ok (.i2l, 1) := by decide +kernel
theorem dX10_readWord_62 : decode cX10_readWord 62 = .ok (.lor, 1) := by decide +kernel
theorem dX10_readWord_63 : decode cX10_readWord 63 = .ok (.putfield 60, 3) := by decide +kernel
theorem dX10_readWord_66 : decode cX10_readWord 66 = .ok (.aload_n 0, 1) := by decide +kernel
theorem dX10_readWord_67 : decode cX10_readWord 67 = .ok (.dup, 1) := by decide +kernel
theorem dX10_readWord_68 : decode cX10_readWord 68 = .ok (.getfield 36, 3) := by decide +kernel
theorem dX10_readWord_71 : decode cX10_readWord 71 = .ok (.iconst 1, 1) := by decide +kernel
theorem dX10_readWord_72 : decode cX10_readWord 72 = .ok (.iadd, 1) := by decide +kernel
theorem dX10_readWord_73 : decode cX10_readWord 73 = .ok (.putfield 36, 3) := by decide +kernel
theorem dX10_readWord_76 : decode cX10_readWord 76 = .ok (.goto (-71), 3) := by decide +kernel
theorem dX10_readWord_79 : decode cX10_readWord 79 = .ok (.aload_n 0, 1) := by decide +kernel
theorem dX10_readWord_80 : decode cX10_readWord 80 = .ok (.aload_n 0, 1) := by decide +kernel
theorem dX10_readWord_81 : decode cX10_readWord 81 = .ok (.getfield 36, 3) := by decide +kernel
theorem dX10_readWord_84 : decode cX10_readWord 84 = .ok (.aload_n 0, 1) := by decide +kernel
theorem dX10_readWord_85 : decode cX10_readWord 85 = .ok (.getfield 42, 3) := by decide +kernel
theorem dX10_readWord_88 : decode cX10_readWord 88 = .ok (.isub, 1) := by decide +kernel
theorem dX10_readWord_89 : decode cX10_readWord 89 = .ok (.bipush 8, 2) := by decide +kernel
theorem dX10_readWord_91 : decode cX10_readWord 91 = .ok (.if_icmp .le 8, 3) := by decide +kernel
theorem dX10_readWord_94 : decode cX10_readWord 94 = .ok (.bipush 35, 2) := by decide +kernel
theorem dX10_readWord_96 : decode cX10_readWord 96 = .ok (.goto 5, 3) := by decide +kernel
theorem dX10_readWord_99 : decode cX10_readWord 99 = .ok (.bipush 32, 2) := by decide +kernel
theorem dX10_readWord_101 : decode cX10_readWord 101 = .ok (.putfield 45, 3) := by decide +kernel
theorem dX10_readWord_104 : decode cX10_readWord 104 = .ok (.iconst 0, 1) := by decide +kernel
theorem dX10_readWord_105 : decode cX10_readWord 105 = .ok (.istore_n 1, 1) := by decide +kernel
theorem dX10_readWord_106 : decode cX10_readWord 106 = .ok (.iload_n 1, 1) := by decide +kernel
theorem dX10_readWord_107 : decode cX10_readWord 107 = .ok (.bipush 32, 2) := by decide +kernel
theorem dX10_readWord_109 : decode cX10_readWord 109 = .ok (.if_icmp .ge 37, 3) := by decide +kernel
theorem dX10_readWord_112 : decode cX10_readWord 112 = .ok (.aload_n 0, 1) := by decide +kernel
theorem dX10_readWord_113 : decode cX10_readWord 113 = .ok (.getfield 45, 3) := by decide +kernel
theorem dX10_readWord_116 : decode cX10_readWord 116 = .ok (.bipush 32, 2) := by decide +kernel
theorem dX10_readWord_118 : decode cX10_readWord 118 = .ok (.if_icmp .ne 28, 3) := by decide +kernel
theorem dX10_readWord_121 : decode cX10_readWord 121 = .ok (.aload_n 0, 1) := by decide +kernel
theorem dX10_readWord_122 : decode cX10_readWord 122 = .ok (.getfield 15, 3) := by decide +kernel
theorem dX10_readWord_125 : decode cX10_readWord 125 = .ok (.iload_n 1, 1) := by decide +kernel
theorem dX10_readWord_126 : decode cX10_readWord 126 = .ok (.laload, 1) := by decide +kernel
theorem dX10_readWord_127 : decode cX10_readWord 127 = .ok (.aload_n 0, 1) := by decide +kernel
theorem dX10_readWord_128 : decode cX10_readWord 128 = .ok (.getfield 60, 3) := by decide +kernel
theorem dX10_readWord_131 : decode cX10_readWord 131 = .ok (.lcmp, 1) := by decide +kernel
theorem dX10_readWord_132 : decode cX10_readWord 132 = .ok (.ifCond .ne 8, 3) := by decide +kernel
theorem dX10_readWord_135 : decode cX10_readWord 135 = .ok (.aload_n 0, 1) := by decide +kernel
theorem dX10_readWord_136 : decode cX10_readWord 136 = .ok (.iload_n 1, 1) := by decide +kernel
theorem dX10_readWord_137 : decode cX10_readWord 137 = .ok (.putfield 45, 3) := by decide +kernel
theorem dX10_readWord_140 : decode cX10_readWord 140 = .ok (.iinc 1 1, 3) := by decide +kernel
theorem dX10_readWord_143 : decode cX10_readWord 143 = .ok (.goto (-37), 3) := by decide +kernel
theorem dX10_readWord_146 : decode cX10_readWord 146 = .ok (.return_, 1) := by decide +kernel
theorem dX10_readNumber_0 : decode cX10_readNumber 0 = .ok (.aload_n 0, 1) := by decide +kernel
theorem dX10_readNumber_1 : decode cX10_readNumber 1 = .ok (.iconst 0, 1) := by decide +kernel
theorem dX10_readNumber_2 : decode cX10_readNumber 2 = .ok (.putfield 64, 3) := by decide +kernel
theorem dX10_readNumber_5 : decode cX10_readNumber 5 = .ok (.aload_n 0, 1) := by decide +kernel
theorem dX10_readNumber_6 : decode cX10_readNumber 6 = .ok (.getfield 36, 3) := by decide +kernel
theorem dX10_readNumber_9 : decode cX10_readNumber 9 = .ok (.aload_n 0, 1) := by decide +kernel
theorem dX10_readNumber_10 : decode cX10_readNumber 10 = .ok (.getfield 33, 3) := by decide +kernel
theorem dX10_readNumber_13 : decode cX10_readNumber 13 = .ok (.if_icmp .ge 68, 3) := by decide +kernel
theorem dX10_readNumber_16 : decode cX10_readNumber 16 = .ok (.aload_n 0, 1) := by decide +kernel
theorem dX10_readNumber_17 : decode cX10_readNumber 17 = .ok (.getfield 9, 3) := by decide +kernel
theorem dX10_readNumber_20 : decode cX10_readNumber 20 = .ok (.aload_n 0, 1) := by decide +kernel
theorem dX10_readNumber_21 : decode cX10_readNumber 21 = .ok (.getfield 36, 3) := by decide +kernel
theorem dX10_readNumber_24 : decode cX10_readNumber 24 = .ok (.baload, 1) := by decide +kernel
theorem dX10_readNumber_25 : decode cX10_readNumber 25 = .ok (.bipush 48, 2) := by decide +kernel
theorem dX10_readNumber_27 : decode cX10_readNumber 27 = .ok (.if_icmp .lt 54, 3) := by decide +kernel
theorem dX10_readNumber_30 : decode cX10_readNumber 30 = .ok (.aload_n 0, 1) := by decide +kernel
theorem dX10_readNumber_31 : decode cX10_readNumber 31 = .ok (.getfield 9, 3) := by decide +kernel
theorem dX10_readNumber_34 : decode cX10_readNumber 34 = .ok (.aload_n 0, 1) := by decide +kernel
theorem dX10_readNumber_35 : decode cX10_readNumber 35 = .ok (.getfield 36, 3) := by decide +kernel
theorem dX10_readNumber_38 : decode cX10_readNumber 38 = .ok (.baload, 1) := by decide +kernel
theorem dX10_readNumber_39 : decode cX10_readNumber 39 = .ok (.bipush 57, 2) := by decide +kernel
theorem dX10_readNumber_41 : decode cX10_readNumber 41 = .ok (.if_icmp .gt 40, 3) := by decide +kernel
theorem dX10_readNumber_44 : decode cX10_readNumber 44 = .ok (.aload_n 0, 1) := by decide +kernel
theorem dX10_readNumber_45 : decode cX10_readNumber 45 = .ok (.aload_n 0, 1) := by decide +kernel
theorem dX10_readNumber_46 : decode cX10_readNumber 46 = .ok (.getfield 64, 3) := by decide +kernel
theorem dX10_readNumber_49 : decode cX10_readNumber 49 = .ok (.bipush 10, 2) := by decide +kernel
theorem dX10_readNumber_51 : decode cX10_readNumber 51 = .ok (.imul, 1) := by decide +kernel
theorem dX10_readNumber_52 : decode cX10_readNumber 52 = .ok (.aload_n 0, 1) := by decide +kernel
theorem dX10_readNumber_53 : decode cX10_readNumber 53 = .ok (.getfield 9, 3) := by decide +kernel
theorem dX10_readNumber_56 : decode cX10_readNumber 56 = .ok (.aload_n 0, 1) := by decide +kernel
theorem dX10_readNumber_57 : decode cX10_readNumber 57 = .ok (.getfield 36, 3) := by decide +kernel
theorem dX10_readNumber_60 : decode cX10_readNumber 60 = .ok (.baload, 1) := by decide +kernel
theorem dX10_readNumber_61 : decode cX10_readNumber 61 = .ok (.iadd, 1) := by decide +kernel
theorem dX10_readNumber_62 : decode cX10_readNumber 62 = .ok (.bipush 48, 2) := by decide +kernel
theorem dX10_readNumber_64 : decode cX10_readNumber 64 = .ok (.isub, 1) := by decide +kernel
theorem dX10_readNumber_65 : decode cX10_readNumber 65 = .ok (.putfield 64, 3) := by decide +kernel
theorem dX10_readNumber_68 : decode cX10_readNumber 68 = .ok (.aload_n 0, 1) := by decide +kernel
theorem dX10_readNumber_69 : decode cX10_readNumber 69 = .ok (.dup, 1) := by decide +kernel
theorem dX10_readNumber_70 : decode cX10_readNumber 70 = .ok (.getfield 36, 3) := by decide +kernel
theorem dX10_readNumber_73 : decode cX10_readNumber 73 = .ok (.iconst 1, 1) := by decide +kernel
theorem dX10_readNumber_74 : decode cX10_readNumber 74 = .ok (.iadd, 1) := by decide +kernel
theorem dX10_readNumber_75 : decode cX10_readNumber 75 = .ok (.putfield 36, 3) := by decide +kernel
theorem dX10_readNumber_78 : decode cX10_readNumber 78 = .ok (.goto (-73), 3) := by decide +kernel
theorem dX10_readNumber_81 : decode cX10_readNumber 81 = .ok (.aload_n 0, 1) := by decide +kernel
theorem dX10_readNumber_82 : decode cX10_readNumber 82 = .ok (.aload_n 0, 1) := by decide +kernel
theorem dX10_readNumber_83 : decode cX10_readNumber 83 = .ok (.getfield 36, 3) := by decide +kernel
theorem dX10_readNumber_86 : decode cX10_readNumber 86 = .ok (.aload_n 0, 1) := by decide +kernel
theorem dX10_readNumber_87 : decode cX10_readNumber 87 = .ok (.getfield 42, 3) := by decide +kernel
theorem dX10_readNumber_90 : decode cX10_readNumber 90 = .ok (.isub, 1) := by decide +kernel
theorem dX10_readNumber_91 : decode cX10_readNumber 91 = .ok (.iconst 4, 1) := by decide +kernel
theorem dX10_readNumber_92 : decode cX10_readNumber 92 = .ok (.if_icmp .le 8, 3) := by decide +kernel
theorem dX10_readNumber_95 : decode cX10_readNumber 95 = .ok (.bipush 35, 2) := by decide +kernel
theorem dX10_readNumber_97 : decode cX10_readNumber 97 = .ok (.goto 5, 3) := by decide +kernel
theorem dX10_readNumber_100 : decode cX10_readNumber 100 = .ok (.bipush 33, 2) := by decide +kernel
theorem dX10_readNumber_102 : decode cX10_readNumber 102 = .ok (.putfield 45, 3) := by decide +kernel
theorem dX10_readNumber_105 : decode cX10_readNumber 105 = .ok (.return_, 1) := by decide +kernel
set_option maxRecDepth 20000 in
theorem gX10_advance_X10_readWord : GoodIn wsX10_advance (wsV RX10 48 RX10 yX10_readWord wsX10_readWord) := goodIn_r _ [6, 7, 8, 9, 10, 11, 1, 2, 3, 4, 5, 12, 107, 108, 109, 110, 111, 112, 113, 114] rfl (by decide +kernel)
set_option maxRecDepth 20000 in
theorem gX10_advance_X10_readNumber : GoodIn wsX10_advance (wsV RX10 51 RX10 yX10_readNumber wsX10_readNumber) := goodIn_r _ [13, 14, 15, 9, 16, 17, 1, 2, 3, 4, 5, 107, 108, 109, 110, 111, 112, 113, 114] rfl (by decide +kernel)
set_option maxRecDepth 20000 in
theorem gX10_advance_J0_indexOf_0f7a4 : GoodIn wsX10_advance (wsV RX10 56 RJ0 yJ0_indexOf_0f7a4 wsJ0_indexOf_0f7a4) := goodIn_r _ [18, 19, 20, 21, 22, 23, 24, 25, 21, 26, 27, 28, 29, 30, 31, 32, 33, 34, 35, 36, 37, 38, 39, 40, 41, 42, 43, 44, 45, 46, 47, 48, 49, 50, 51, 52, 53, 54, 55, 56, 57, 58, 59, 60, 61, 62, 63, 64, 65, 66, 67, 68, 69, 70, 71, 72, 73, 74, 75, 76, 77, 78, 79, 80, 81, 82, 83, 84, 85, 86, 87, 88, 89, 90, 91, 92, 93, 94, 95, 96, 97, 98, 99, 100, 101, 102, 103, 104, 105, 106] rfl (by decide +kernel)
theorem dX10_advance_0 : decode cX10_advance 0 = .ok (.aload_n 0, 1) := by decide +kernel
theorem dX10_advance_1 : decode cX10_advance 1 = .ok (.getfield 36, 3) := by decide +kernel
theorem dX10_advance_4 : decode cX10_advance 4 = .ok (.istore_n 1, 1) := by decide +kernel
theorem dX10_advance_5 : decode cX10_advance 5 = .ok (.iload_n 1, 1) := by decide +kernel
theorem dX10_advance_6 : decode cX10_advance 6 = .ok (.aload_n 0, 1) := by decide +kernel
theorem dX10_advance_7 : decode cX10_advance 7 = .ok (.getfield 33, 3) := by decide +kernel
theorem dX10_advance_10 : decode cX10_advance 10 = .ok (.if_icmp .ge 31, 3) := by decide +kernel
theorem dX10_advance_13 : decode cX10_advance 13 = .ok (.aload_n 0, 1) := by decide +kernel
theorem dX10_advance_14 : decode cX10_advance 14 = .ok (.getfield 9, 3) := by decide +kernel
theorem dX10_advance_17 : decode cX10_advance 17 = .ok (.iload_n 1, 1) := by decide +kernel
theorem dX10_advance_18 : decode cX10_advance 18 = .ok (.baload, 1) := by decide +kernel
theorem dX10_advance_19 : decode cX10_advance 19 = .ok (.bipush 10, 2) := by decide +kernel
theorem dX10_advance_21 : decode cX10_advance 21 = .ok (.if_icmp .eq 14, 3) := by decide +kernel
theorem dX10_advance_24 : decode cX10_advance 24 = .ok (.aload_n 0, 1) := by decide +kernel
theorem dX10_advance_25 : decode cX10_advance 25 = .ok (.getfield 9, 3) := by decide +kernel
theorem dX10_advance_28 : decode cX10_advance 28 = .ok (.iload_n 1, 1) := by decide +kernel
theorem dX10_advance_29 : decode cX10_advance 29 = .ok (.baload, 1) := by decide +kernel
theorem dX10_advance_30 : decode cX10_advance 30 = .ok (.bipush 32, 2) := by decide +kernel
theorem dX10_advance_32 : decode cX10_advance 32 = .ok (.if_icmp .ne 9, 3) := by decide +kernel
theorem dX10_advance_35 : decode cX10_advance 35 = .ok (.iinc 1 1, 3) := by decide +kernel
theorem dX10_advance_38 : decode cX10_advance 38 = .ok (.goto (-33), 3) := by decide +kernel
theorem dX10_advance_41 : decode cX10_advance 41 = .ok (.aload_n 0, 1) := by decide +kernel
theorem dX10_advance_42 : decode cX10_advance 42 = .ok (.iload_n 1, 1) := by decide +kernel
theorem dX10_advance_43 : decode cX10_advance 43 = .ok (.putfield 42, 3) := by decide +kernel
theorem dX10_advance_46 : decode cX10_advance 46 = .ok (.aload_n 0, 1) := by decide +kernel
theorem dX10_advance_47 : decode cX10_advance 47 = .ok (.iload_n 1, 1) := by decide +kernel
theorem dX10_advance_48 : decode cX10_advance 48 = .ok (.putfield 36, 3) := by decide +kernel
theorem dX10_advance_51 : decode cX10_advance 51 = .ok (.iload_n 1, 1) := by decide +kernel
theorem dX10_advance_52 : decode cX10_advance 52 = .ok (.aload_n 0, 1) := by decide +kernel
theorem dX10_advance_53 : decode cX10_advance 53 = .ok (.getfield 33, 3) := by decide +kernel
theorem dX10_advance_56 : decode cX10_advance 56 = .ok (.if_icmp .lt 12, 3) := by decide +kernel
theorem dX10_advance_59 : decode cX10_advance 59 = .ok (.aload_n 0, 1) := by decide +kernel
theorem dX10_advance_60 : decode cX10_advance 60 = .ok (.bipush 34, 2) := by decide +kernel
theorem dX10_advance_62 : decode cX10_advance 62 = .ok (.putfield 45, 3) := by decide +kernel
theorem dX10_advance_65 : decode cX10_advance 65 = .ok (.goto 98, 3) := by decide +kernel
theorem dX10_advance_68 : decode cX10_advance 68 = .ok (.aload_n 0, 1) := by decide +kernel
theorem dX10_advance_69 : decode cX10_advance 69 = .ok (.getfield 9, 3) := by decide +kernel
theorem dX10_advance_72 : decode cX10_advance 72 = .ok (.iload_n 1, 1) := by decide +kernel
theorem dX10_advance_73 : decode cX10_advance 73 = .ok (.baload, 1) := by decide +kernel
theorem dX10_advance_74 : decode cX10_advance 74 = .ok (.bipush 97, 2) := by decide +kernel
theorem dX10_advance_76 : decode cX10_advance 76 = .ok (.if_icmp .lt 21, 3) := by decide +kernel
theorem dX10_advance_79 : decode cX10_advance 79 = .ok (.aload_n 0, 1) := by decide +kernel
theorem dX10_advance_80 : decode cX10_advance 80 = .ok (.getfield 9, 3) := by decide +kernel
theorem dX10_advance_83 : decode cX10_advance 83 = .ok (.iload_n 1, 1) := by decide +kernel
theorem dX10_advance_84 : decode cX10_advance 84 = .ok (.baload, 1) := by decide +kernel
theorem dX10_advance_85 : decode cX10_advance 85 = .ok (.bipush 122, 2) := by decide +kernel
theorem dX10_advance_87 : decode cX10_advance 87 = .ok (.if_icmp .gt 10, 3) := by decide +kernel
theorem dX10_advance_90 : decode cX10_advance 90 = .ok (.aload_n 0, 1) := by decide +kernel
theorem dX10_advance_91 : decode cX10_advance 91 = .ok (.invokevirtual 48, 3) := by decide +kernel
theorem dX10_advance_94 : decode cX10_advance 94 = .ok (.goto 69, 3) := by decide +kernel
theorem dX10_advance_97 : decode cX10_advance 97 = .ok (.aload_n 0, 1) := by decide +kernel
theorem dX10_advance_98 : decode cX10_advance 98 = .ok (.getfield 9, 3) := by decide +kernel
theorem dX10_advance_101 : decode cX10_advance 101 = .ok (.iload_n 1, 1) := by decide +kernel
theorem dX10_advance_102 : decode cX10_advance 102 = .ok (.baload, 1) := by decide +kernel
theorem dX10_advance_103 : decode cX10_advance 103 = .ok (.bipush 48, 2) := by decide +kernel
theorem dX10_advance_105 : decode cX10_advance 105 = .ok (.if_icmp .lt 21, 3) := by decide +kernel
theorem dX10_advance_108 : decode cX10_advance 108 = .ok (.aload_n 0, 1) := by decide +kernel
theorem dX10_advance_109 : decode cX10_advance 109 = .ok (.getfield 9, 3) := by decide +kernel
theorem dX10_advance_112 : decode cX10_advance 112 = .ok (.iload_n 1, 1) := by decide +kernel
theorem dX10_advance_113 : decode cX10_advance 113 = .ok (.baload, 1) := by decide +kernel
theorem dX10_advance_114 : decode cX10_advance 114 = .ok (.bipush 57, 2) := by decide +kernel
theorem dX10_advance_116 : decode cX10_advance 116 = .ok (.if_icmp .gt 10, 3) := by decide +kernel
theorem dX10_advance_119 : decode cX10_advance 119 = .ok (.aload_n 0, 1) := by decide +kernel
theorem dX10_advance_120 : decode cX10_advance 120 = .ok (.invokevirtual 51, 3) := by decide +kernel
theorem dX10_advance_123 : decode cX10_advance 123 = .ok (.goto 40, 3) := by decide +kernel
theorem dX10_advance_126 : decode cX10_advance 126 = .ok (.aload_n 0, 1) := by decide +kernel
theorem dX10_advance_127 : decode cX10_advance 127 = .ok (.iload_n 1, 1) := by decide +kernel
theorem dX10_advance_128 : decode cX10_advance 128 = .ok (.iconst 1, 1) := by decide +kernel
theorem dX10_advance_129 : decode cX10_advance 129 = .ok (.iadd, 1) := by decide +kernel
theorem dX10_advance_130 : decode cX10_advance 130 = .ok (.putfield 36, 3) := by decide +kernel
theorem dX10_advance_133 : decode cX10_advance 133 = .ok (.aload_n 0, 1) := by decide +kernel
theorem dX10_advance_134 : decode cX10_advance 134 = .ok (.ldc 54, 2) := by decide +kernel
theorem dX10_advance_136 : decode cX10_advance 136 = .ok (.aload_n 0, 1) := by decide +kernel
theorem dX10_advance_137 : decode cX10_advance 137 = .ok (.getfield 9, 3) := by decide +kernel
theorem dX10_advance_140 : decode cX10_advance 140 = .ok (.iload_n 1, 1) := by decide +kernel
theorem dX10_advance_141 : decode cX10_advance 141 = .ok (.baload, 1) := by decide +kernel
theorem dX10_advance_142 : decode cX10_advance 142 = .ok (.i2c, 1) := by decide +kernel
theorem dX10_advance_143 : decode cX10_advance 143 = .ok (.invokevirtual 56, 3) := by decide +kernel
theorem dX10_advance_146 : decode cX10_advance 146 = .ok (.ifCond .ge 8, 3) := by decide +kernel
theorem dX10_advance_149 : decode cX10_advance 149 = .ok (.bipush 35, 2) := by decide +kernel
theorem dX10_advance_151 : decode cX10_advance 151 = .ok (.goto 9, 3) := by decide +kernel
theorem dX10_advance_154 : decode cX10_advance 154 = .ok (.aload_n 0, 1) := by decide +kernel
theorem dX10_advance_155 : decode cX10_advance 155 = .ok (.getfield 9, 3) := by decide +kernel
theorem dX10_advance_158 : decode cX10_advance 158 = .ok (.iload_n 1, 1) := by decide +kernel
theorem dX10_advance_159 : decode cX10_advance 159 = .ok (.baload, 1) := by decide +kernel
theorem dX10_advance_160 : decode cX10_advance 160 = .ok (.putfield 45, 3) := by decide +kernel
theorem dX10_advance_163 : decode cX10_advance 163 = .ok (.return_, 1) := by decide +kernel
set_option maxRecDepth 20000 in
theorem gX10_begin_X10_advance : GoodIn wsX10_begin (wsV RX10 39 RX10 yX10_advance wsX10_advance) := goodIn_r _ [2, 3, 4, 5, 6, 1, 7, 8, 9, 10, 11, 12, 13, 5, 14, 15, 16, 17, 18, 19, 20, 21, 22, 23, 24, 25, 26, 27, 28, 29, 30, 31, 32, 33, 34, 35, 36, 37, 38, 39, 40, 41, 42, 43, 44, 45, 46, 47, 48, 49, 50, 51, 52, 53, 54, 55, 56, 57, 58, 59, 60, 61, 62, 63, 64, 65, 66, 67, 68, 69, 70, 71, 72, 73, 74, 75, 76, 77, 78, 79, 80, 81, 82, 83, 84, 85, 86, 87, 88, 89, 90, 91, 92, 93, 94, 95, 96, 97, 98, 99, 100, 101, 102, 103, 104, 105, 106, 107, 108, 109, 110, 111, 112, 113, 114, 115, 116, 117, 118] rfl (by decide +kernel)
theorem dX10_begin_0 : decode cX10_begin 0 = .ok (.aload_n 0, 1) := by decide +kernel
theorem dX10_begin_1 : decode cX10_begin 1 = .ok (.iconst 0, 1) := by decide +kernel
theorem dX10_begin_2 : decode cX10_begin 2 = .ok (.putfield 36, 3) := by decide +kernel
theorem dX10_begin_5 : decode cX10_begin 5 = .ok (.aload_n 0, 1) := by decide +kernel
theorem dX10_begin_6 : decode cX10_begin 6 = .ok (.invokevirtual 39, 3) := by decide +kernel
theorem dX10_begin_9 : decode cX10_begin 9 = .ok (.return_, 1) := by decide +kernel
theorem dX10_isName_0 : decode cX10_isName 0 = .ok (.aload_n 0, 1) := by decide +kernel
theorem dX10_isName_1 : decode cX10_isName 1 = .ok (.getfield 45, 3) := by decide +kernel
theorem dX10_isName_4 : decode cX10_isName 4 = .ok (.bipush 29, 2) := by decide +kernel
theorem dX10_isName_6 : decode cX10_isName 6 = .ok (.if_icmp .lt 16, 3) := by decide +kernel
theorem dX10_isName_9 : decode cX10_isName 9 = .ok (.aload_n 0, 1) := by decide +kernel
theorem dX10_isName_10 : decode cX10_isName 10 = .ok (.getfield 45, 3) := by decide +kernel
theorem dX10_isName_13 : decode cX10_isName 13 = .ok (.bipush 32, 2) := by decide +kernel
theorem dX10_isName_15 : decode cX10_isName 15 = .ok (.if_icmp .gt 7, 3) := by decide +kernel
theorem dX10_isName_18 : decode cX10_isName 18 = .ok (.iconst 1, 1) := by decide +kernel
theorem dX10_isName_19 : decode cX10_isName 19 = .ok (.goto 4, 3) := by decide +kernel
theorem dX10_isName_22 : decode cX10_isName 22 = .ok (.iconst 0, 1) := by decide +kernel
theorem dX10_isName_23 : decode cX10_isName 23 = .ok (.ireturn, 1) := by decide +kernel
section
variable {p : Program} {l : Launch} {e : Env} {s : State} {m : MethodId} {args : Array Value} {below : List Frame} {meth : Method} {c : Code} {D : va_G} {cy : Nat → ClassId} {ad : Nat → Nat} {A : Nat → Prop} {aM aB aO aI aN aT aC aG aR aQ aK aL aX aH aJ aP aU aE0 aE1 aE2 aE3 : Nat → Nat} {gi : Value}
abbrev rm10_put : Room := { frames := 0, cells := 0, slots := 0, locals := 0 }
theorem hdV10_put : yX10_put.cls = RX10 ∧ (yX10_put.cls ≠ "java/lang/invoke/MethodHandle" ∧ yX10_put.cls ≠ "java/lang/invoke/VarHandle" ∧ (parseMethodDescriptor yX10_put.desc).map (fun d => d.parameters.length) = some 1) := by decide +kernel
theorem hin10_put_10 : ∀ x ∈ u_ws RX10 TX10 8, x ∈ wsX10_put := fun _ h => List.mem_cons_of_mem _ (List.mem_append_right _ h)
set_option maxRecDepth 100000 in
set_option maxHeartbeats 4000000 in
theorem t10_put_82 (hC : Cx p s m args meth c cX10_put 6 wsX10_put RX10 none) {k3 : Int64 → Int32 → Ob → Option (Ob)} (hk3 : ∀ (x1 : Int64) (x3 : Int32) (ST : Ob) (res : Ob) (H : Heap) (locs : List Loc) (ls : Array Slot), k3 x1 x3 ST = some res → GW D cy ad (w10 cy aT ST) A s H locs → lv_has ls 6 [(0, .ref (aT 0)), (1, .long x1), (3, .int x3)] → W p l e rm10_put s m args below meth c H locs 0 0 (MQ below (QV D cy (w10 cy aT res) A) args s 0 0 A) (F0 m 3 ls [])) : ∀ (x1 : Int64) (x3 : Int32) (ST : Ob) (res : Ob) (H : Heap) (locs : List Loc) (ls : Array Slot), f10_put_82 k3 x1 x3 ST = some res → GW D cy ad (w10 cy aT ST) A s H locs → lv_has ls 6 [(0, .ref (aT 0)), (1, .long x1), (3, .int x3)] → W p l e rm10_put s m args below meth c H locs 0 0 (MQ below (QV D cy (w10 cy aT res) A) args s 0 0 A) (F0 m 82 ls []) := by
  intro x1 x3 ST res H locs ls hf hW hl
  unfold f10_put_82 at hf
  obtain ⟨x3_1, ex3_1⟩ : ∃ y : Int32, y = x3 + (-8) := ⟨_, rfl⟩
  have hf := lt_nm hf ex3_1
  refine lv_iinc (v := x3_1) (lv' := [(3, .int x3_1), (0, .ref (aT 0)), (1, .long x1)]) hC.1 hC.2.1 dX10_put_82 hl (k := 2) rfl (by rw [ex3_1]; rfl) (by decide) rfl (fun ls hl => ?_)
  refine lv_goto (tgt := 3) hC.1 hC.2.1 dX10_put_85 (by decide) ?_
  exact hk3 _ _ _ _ _ _ _ hf hW (lv_sub hl [1, 2, 0] rfl)
set_option maxRecDepth 100000 in
set_option maxHeartbeats 4000000 in
theorem t10_put_43 (hC : Cx p s m args meth c cX10_put 6 wsX10_put RX10 none) {k3 : Int64 → Int32 → Ob → Option (Ob)} (hk3 : ∀ (x1 : Int64) (x3 : Int32) (ST : Ob) (res : Ob) (H : Heap) (locs : List Loc) (ls : Array Slot), k3 x1 x3 ST = some res → GW D cy ad (w10 cy aT ST) A s H locs → lv_has ls 6 [(0, .ref (aT 0)), (1, .long x1), (3, .int x3)] → W p l e rm10_put s m args below meth c H locs 0 0 (MQ below (QV D cy (w10 cy aT res) A) args s 0 0 A) (F0 m 3 ls [])) : ∀ (x1 : Int64) (x3 : Int32) (x4 : Int32) (z0 : Int32) (ST : Ob) (res : Ob) (H : Heap) (locs : List Loc) (ls : Array Slot), f10_put_43 k3 x1 x3 x4 z0 ST = some res → GW D cy ad (w10 cy aT ST) A s H locs → lv_has ls 6 [(0, .ref (aT 0)), (1, .long x1), (3, .int x3), (4, .int x4)] → W p l e rm10_put s m args below meth c H locs 0 0 (MQ below (QV D cy (w10 cy aT res) A) args s 0 0 A) (F0 m 43 ls [.int z0]) := by
  intro x1 x3 x4 z0 ST res H locs ls hf hW hl
  unfold f10_put_43 at hf
  refine lv_istore (lv' := [(5, .int z0), (0, .ref (aT 0)), (1, .long x1), (3, .int x3), (4, .int x4)]) hC.1 hC.2.1 dX10_put_43 hl (by decide) rfl (fun ls hl => ?_)
  refine lv_iload hC.1 hC.2.1 dX10_put_45 (lv_at hl 0 rfl) ?_
  refine lv_if_eq (tgt := 82) hC.1 hC.2.1 dX10_put_47 (by decide) (fun hc_1 => ?_) (fun hc_1 => ?_)
  · have hf := ite_t hf hc_1
    exact t10_put_82 hC hk3  _ _ _ _ _ _ _ hf hW (lv_sub hl [1, 2, 3] rfl)
  · have hf := ite_f hf hc_1
    refine lv_aload_n hC.1 hC.2.1 dX10_put_50 rfl (lv_at hl 1 rfl) ?_
    refine g_get hC hW hin10_put_10 0 rfl rfl 2 (by decide) 2 rfl rfl dX10_put_51 ?_
    refine lv_sipush (v := 1000) hC.1 hC.2.1 dX10_put_54 (by decide) ?_
    refine lv_icmp_ge (tgt := 82) hC.1 hC.2.1 dX10_put_57 (by decide) (fun hc_2 => ?_) (fun hc_2 => ?_)
    · have hf := ite_t hf hc_2
      exact t10_put_82 hC hk3  _ _ _ _ _ _ _ hf hW (lv_sub hl [1, 2, 3] rfl)
    · have hf := ite_f hf hc_2
      refine lv_aload_n hC.1 hC.2.1 dX10_put_60 rfl (lv_at hl 1 rfl) ?_
      refine g_get hC hW hin10_put_10 0 rfl rfl 0 (by decide) 3 rfl rfl dX10_put_61 ?_
      refine lv_aload_n hC.1 hC.2.1 dX10_put_64 rfl (lv_at hl 1 rfl) ?_
      refine g_get hC hW hin10_put_10 0 rfl rfl 2 (by decide) 2 rfl rfl dX10_put_65 ?_
      refine lv_iload hC.1 hC.2.1 dX10_put_68 (lv_at hl 4 rfl) ?_
      refine lv_i2b (v := (Int32.toInt8 x4).toInt32) hC.1 hC.2.1 dX10_put_70 rfl ?_
      obtain ⟨hi_3, hf⟩ := ck_of hf
      obtain ⟨ST_4, eST_4⟩ : ∃ y : Ob, y = oA ST 0 (Int32.toNatClampNeg (ST.1 2)) (vp_nar .byte ((Int32.toInt8 x4).toInt32)) := ⟨_, rfl⟩
      have hf := lt_nm hf eST_4
      refine g_bast hC hW 1 rfl hi_3 (w' := w10 cy aT ST_4) (by rw [eST_4]; rfl) dX10_put_71 (fun H locs hW => ?_)
      refine lv_aload_n hC.1 hC.2.1 dX10_put_72 rfl (lv_at hl 1 rfl) ?_
      refine lv_dup hC.1 hC.2.1 dX10_put_73 rfl ?_
      refine g_get hC hW hin10_put_10 0 rfl rfl 2 (by decide) 2 rfl rfl dX10_put_74 ?_
      refine lv_iconst (v := 1) hC.1 hC.2.1 dX10_put_77 (by decide) ?_
      refine lv_iadd hC.1 hC.2.1 dX10_put_78 ?_
      obtain ⟨ST_5, eST_5⟩ : ∃ y : Ob, y = oI ST_4 2 ((ST_4.1 2) + 1) := ⟨_, rfl⟩
      have hf := lt_nm hf eST_5
      refine g_put hC hW hin10_put_10 tyX10 tyX10_ok nmX10 0 rfl rfl 2 (by decide) 2 rfl rfl rfl rfl (Nat.le_of_ble_eq_true rfl) (w' := w10 cy aT ST_5) (by rw [eST_5]; rfl) dX10_put_79 (fun H locs hW => ?_)
      exact t10_put_82 hC hk3  _ _ _ _ _ _ _ hf hW (lv_sub hl [1, 2, 3] rfl)
set_option maxRecDepth 100000 in
set_option maxHeartbeats 4000000 in
theorem t10_put_38 (hC : Cx p s m args meth c cX10_put 6 wsX10_put RX10 none) {k3 : Int64 → Int32 → Ob → Option (Ob)} (hk3 : ∀ (x1 : Int64) (x3 : Int32) (ST : Ob) (res : Ob) (H : Heap) (locs : List Loc) (ls : Array Slot), k3 x1 x3 ST = some res → GW D cy ad (w10 cy aT ST) A s H locs → lv_has ls 6 [(0, .ref (aT 0)), (1, .long x1), (3, .int x3)] → W p l e rm10_put s m args below meth c H locs 0 0 (MQ below (QV D cy (w10 cy aT res) A) args s 0 0 A) (F0 m 3 ls [])) : ∀ (x1 : Int64) (x3 : Int32) (x4 : Int32) (ST : Ob) (res : Ob) (H : Heap) (locs : List Loc) (ls : Array Slot), f10_put_38 k3 x1 x3 x4 ST = some res → GW D cy ad (w10 cy aT ST) A s H locs → lv_has ls 6 [(0, .ref (aT 0)), (1, .long x1), (3, .int x3), (4, .int x4)] → W p l e rm10_put s m args below meth c H locs 0 0 (MQ below (QV D cy (w10 cy aT res) A) args s 0 0 A) (F0 m 38 ls []) := by
  intro x1 x3 x4 ST res H locs ls hf hW hl
  unfold f10_put_38 at hf
  refine lv_iconst (v := 1) hC.1 hC.2.1 dX10_put_38 (by decide) ?_
  refine lv_goto (tgt := 43) hC.1 hC.2.1 dX10_put_39 (by decide) ?_
  exact t10_put_43 hC hk3  _ _ _ _ _ _ _ _ _ hf hW (lv_sub hl [0, 1, 2, 3] rfl)
set_option maxRecDepth 100000 in
set_option maxHeartbeats 4000000 in
theorem t10_put_42 (hC : Cx p s m args meth c cX10_put 6 wsX10_put RX10 none) {k3 : Int64 → Int32 → Ob → Option (Ob)} (hk3 : ∀ (x1 : Int64) (x3 : Int32) (ST : Ob) (res : Ob) (H : Heap) (locs : List Loc) (ls : Array Slot), k3 x1 x3 ST = some res → GW D cy ad (w10 cy aT ST) A s H locs → lv_has ls 6 [(0, .ref (aT 0)), (1, .long x1), (3, .int x3)] → W p l e rm10_put s m args below meth c H locs 0 0 (MQ below (QV D cy (w10 cy aT res) A) args s 0 0 A) (F0 m 3 ls [])) : ∀ (x1 : Int64) (x3 : Int32) (x4 : Int32) (ST : Ob) (res : Ob) (H : Heap) (locs : List Loc) (ls : Array Slot), f10_put_42 k3 x1 x3 x4 ST = some res → GW D cy ad (w10 cy aT ST) A s H locs → lv_has ls 6 [(0, .ref (aT 0)), (1, .long x1), (3, .int x3), (4, .int x4)] → W p l e rm10_put s m args below meth c H locs 0 0 (MQ below (QV D cy (w10 cy aT res) A) args s 0 0 A) (F0 m 42 ls []) := by
  intro x1 x3 x4 ST res H locs ls hf hW hl
  unfold f10_put_42 at hf
  refine lv_iconst (v := 0) hC.1 hC.2.1 dX10_put_42 (by decide) ?_
  exact t10_put_43 hC hk3  _ _ _ _ _ _ _ _ _ hf hW (lv_sub hl [0, 1, 2, 3] rfl)
set_option maxRecDepth 100000 in
set_option maxHeartbeats 4000000 in
theorem t10_put_3 (hC : Cx p s m args meth c cX10_put 6 wsX10_put RX10 none) : ∀ n : Nat, ∀ (x1 : Int64) (x3 : Int32) (ST : Ob) (res : Ob) (H : Heap) (locs : List Loc) (ls : Array Slot), f10_put_3 n x1 x3 ST = some res → GW D cy ad (w10 cy aT ST) A s H locs → lv_has ls 6 [(0, .ref (aT 0)), (1, .long x1), (3, .int x3)] → W p l e rm10_put s m args below meth c H locs 0 0 (MQ below (QV D cy (w10 cy aT res) A) args s 0 0 A) (F0 m 3 ls []) := by
  intro n
  induction n with
  | zero =>
    intro _ _ _ _ _ _ _ hf _ _
    exact nomatch (show (none : Option (Ob)) = some _ from hf)
  | succ n ih =>
    intro x1 x3 ST res H locs ls hf hW hl
    rw [f10_put_3] at hf
    refine lv_iload_n hC.1 hC.2.1 dX10_put_3 rfl (lv_at hl 2 rfl) ?_
    refine lv_if_lt (tgt := 88) hC.1 hC.2.1 dX10_put_4 (by decide) (fun hc_1 => ?_) (fun hc_1 => ?_)
    · have hf := ite_t hf hc_1
      obtain rfl := Option.some.inj hf
      exact g_vret hC hW dX10_put_88
    · have hf := ite_f hf hc_1
      refine lv_lload_n hC.1 hC.2.1 dX10_put_7 rfl (lv_at hl 1 rfl) ?_
      refine lv_iload_n hC.1 hC.2.1 dX10_put_8 rfl (lv_at hl 2 rfl) ?_
      refine lv_lushr (v := lush x1 x3) hC.1 hC.2.1 dX10_put_9 rfl ?_
      refine lv_ldc2 (v := 255) hC.1 hC.2.1 hC.2.2.2.1 (hC.2.2.2.2.1 _ (List.mem_of_getElem? (i := 1) rfl)) dX10_put_10 ?_
      refine lv_land hC.1 hC.2.1 dX10_put_13 ?_
      refine lv_l2i (v := Int64.toInt32 ((lush x1 x3) &&& 255)) hC.1 hC.2.1 dX10_put_14 rfl ?_
      refine lv_topi (fun x4_2 ex4_2 => ?_)
      have hf := lt_nm hf ex4_2
      refine lv_istore (lv' := [(4, .int x4_2), (0, .ref (aT 0)), (1, .long x1), (3, .int x3)]) hC.1 hC.2.1 dX10_put_15 hl (by decide) rfl (fun ls hl => ?_)
      refine lv_iload hC.1 hC.2.1 dX10_put_17 (lv_at hl 0 rfl) ?_
      refine lv_bipush (v := 10) hC.1 hC.2.1 dX10_put_19 (by decide) ?_
      refine lv_icmp_eq (tgt := 38) hC.1 hC.2.1 dX10_put_21 (by decide) (fun hc_3 => ?_) (fun hc_3 => ?_)
      · have hf := ite_t hf hc_3
        exact t10_put_38 hC ih  _ _ _ _ _ _ _ _ hf hW (lv_sub hl [1, 2, 3, 0] rfl)
      · have hf := ite_f hf hc_3
        refine lv_iload hC.1 hC.2.1 dX10_put_24 (lv_at hl 0 rfl) ?_
        refine lv_bipush (v := 32) hC.1 hC.2.1 dX10_put_26 (by decide) ?_
        refine lv_icmp_lt (tgt := 42) hC.1 hC.2.1 dX10_put_28 (by decide) (fun hc_4 => ?_) (fun hc_4 => ?_)
        · have hf := ite_t hf hc_4
          exact t10_put_42 hC ih  _ _ _ _ _ _ _ _ hf hW (lv_sub hl [1, 2, 3, 0] rfl)
        · have hf := ite_f hf hc_4
          refine lv_iload hC.1 hC.2.1 dX10_put_31 (lv_at hl 0 rfl) ?_
          refine lv_bipush (v := 126) hC.1 hC.2.1 dX10_put_33 (by decide) ?_
          refine lv_icmp_gt (tgt := 42) hC.1 hC.2.1 dX10_put_35 (by decide) (fun hc_5 => ?_) (fun hc_5 => ?_)
          · have hf := ite_t hf hc_5
            exact t10_put_42 hC ih  _ _ _ _ _ _ _ _ hf hW (lv_sub hl [1, 2, 3, 0] rfl)
          · have hf := ite_f hf hc_5
            exact t10_put_38 hC ih  _ _ _ _ _ _ _ _ hf hW (lv_sub hl [1, 2, 3, 0] rfl)
set_option maxRecDepth 100000 in
set_option maxHeartbeats 4000000 in
theorem t10_put_0 (hC : Cx p s m args meth c cX10_put 6 wsX10_put RX10 none) : ∀ (x1 : Int64) (ST : Ob) (res : Ob) (H : Heap) (locs : List Loc) (ls : Array Slot), f10_put x1 ST = some res → GW D cy ad (w10 cy aT ST) A s H locs → lv_has ls 6 [(0, .ref (aT 0)), (1, .long x1)] → W p l e rm10_put s m args below meth c H locs 0 0 (MQ below (QV D cy (w10 cy aT res) A) args s 0 0 A) (F0 m 0 ls []) := by
  intro x1 ST res H locs ls hf hW hl
  unfold f10_put at hf
  refine lv_bipush (v := 56) hC.1 hC.2.1 dX10_put_0 (by decide) ?_
  refine lv_istore_n (lv' := [(3, .int 56), (0, .ref (aT 0)), (1, .long x1)]) hC.1 hC.2.1 dX10_put_2 rfl hl (by decide) rfl (fun ls hl => ?_)
  exact t10_put_3 hC _ _ _ _ _ _ _ _ hf hW (lv_sub hl [1, 2, 0] rfl)
set_option maxRecDepth 100000 in
set_option maxHeartbeats 4000000 in
theorem c10_put (l : Launch) (D : va_G) (cy : Nat → ClassId) (ad : Nat → Nat) (aT : Nat → Nat) {x1 : Int64} {ST : Ob} {res : Ob} (h : f10_put x1 ST = some res) : GCv l yX10_put wsX10_put rm10_put [.ref (aT 0), .long x1] D cy ad (w10 cy aT ST) (w10 cy aT res) := fun sz => GC.start (own := RX10) (Qc := fun A => QV D cy (w10 cy aT res) A) sz (by decide) rfl rfl (Nat.le_of_ble_eq_true rfl) (fun p e s m below meth c A ls hC hW hl => t10_put_0 hC _ _ _ _ _ _ h hW (lv_sub hl [0, 1] rfl))
abbrev rm10_readWord : Room := { frames := 0, cells := 0, slots := 0, locals := 0 }
theorem hdV10_readWord : yX10_readWord.cls = RX10 ∧ (yX10_readWord.cls ≠ "java/lang/invoke/MethodHandle" ∧ yX10_readWord.cls ≠ "java/lang/invoke/VarHandle" ∧ (parseMethodDescriptor yX10_readWord.desc).map (fun d => d.parameters.length) = some 0) := by decide +kernel
theorem hin10_readWord_10 : ∀ x ∈ u_ws RX10 TX10 8, x ∈ wsX10_readWord := fun _ h => List.mem_cons_of_mem _ (List.mem_append_right _ h)
set_option maxRecDepth 100000 in
set_option maxHeartbeats 4000000 in
theorem t10_readWord_140 (hC : Cx p s m args meth c cX10_readWord 2 wsX10_readWord RX10 none) {k106 : Int32 → Ob → Option (Ob)} (hk106 : ∀ (x1 : Int32) (ST : Ob) (res : Ob) (H : Heap) (locs : List Loc) (ls : Array Slot), k106 x1 ST = some res → GW D cy ad (w10 cy aT ST) A s H locs → lv_has ls 2 [(0, .ref (aT 0)), (1, .int x1)] → W p l e rm10_readWord s m args below meth c H locs 0 0 (MQ below (QV D cy (w10 cy aT res) A) args s 0 0 A) (F0 m 106 ls [])) : ∀ (x1 : Int32) (ST : Ob) (res : Ob) (H : Heap) (locs : List Loc) (ls : Array Slot), f10_readWord_140 k106 x1 ST = some res → GW D cy ad (w10 cy aT ST) A s H locs → lv_has ls 2 [(0, .ref (aT 0)), (1, .int x1)] → W p l e rm10_readWord s m args below meth c H locs 0 0 (MQ below (QV D cy (w10 cy aT res) A) args s 0 0 A) (F0 m 140 ls []) := by
  intro x1 ST res H locs ls hf hW hl
  unfold f10_readWord_140 at hf
  obtain ⟨x1_1, ex1_1⟩ : ∃ y : Int32, y = x1 + 1 := ⟨_, rfl⟩
  have hf := lt_nm hf ex1_1
  refine lv_iinc (v := x1_1) (lv' := [(1, .int x1_1), (0, .ref (aT 0))]) hC.1 hC.2.1 dX10_readWord_140 hl (k := 1) rfl (by rw [ex1_1]; rfl) (by decide) rfl (fun ls hl => ?_)
  refine lv_goto (tgt := 106) hC.1 hC.2.1 dX10_readWord_143 (by decide) ?_
  exact hk106 _ _ _ _ _ _ hf hW (lv_sub hl [1, 0] rfl)
set_option maxRecDepth 100000 in
set_option maxHeartbeats 4000000 in
theorem t10_readWord_146 (hC : Cx p s m args meth c cX10_readWord 2 wsX10_readWord RX10 none) : ∀ (ST : Ob) (res : Ob) (H : Heap) (locs : List Loc) (ls : Array Slot), f10_readWord_146 ST = some res → GW D cy ad (w10 cy aT ST) A s H locs → lv_has ls 2 [] → W p l e rm10_readWord s m args below meth c H locs 0 0 (MQ below (QV D cy (w10 cy aT res) A) args s 0 0 A) (F0 m 146 ls []) := by
  intro ST res H locs ls hf hW hl
  unfold f10_readWord_146 at hf
  obtain rfl := Option.some.inj hf
  exact g_vret hC hW dX10_readWord_146
set_option maxRecDepth 100000 in
set_option maxHeartbeats 4000000 in
theorem t10_readWord_106 (hC : Cx p s m args meth c cX10_readWord 2 wsX10_readWord RX10 none) : ∀ n : Nat, ∀ (x1 : Int32) (ST : Ob) (res : Ob) (H : Heap) (locs : List Loc) (ls : Array Slot), f10_readWord_106 n x1 ST = some res → GW D cy ad (w10 cy aT ST) A s H locs → lv_has ls 2 [(0, .ref (aT 0)), (1, .int x1)] → W p l e rm10_readWord s m args below meth c H locs 0 0 (MQ below (QV D cy (w10 cy aT res) A) args s 0 0 A) (F0 m 106 ls []) := by
  intro n
  induction n with
  | zero =>
    intro _ _ _ _ _ _ hf _ _
    exact nomatch (show (none : Option (Ob)) = some _ from hf)
  | succ n ih =>
    intro x1 ST res H locs ls hf hW hl
    rw [f10_readWord_106] at hf
    refine lv_iload_n hC.1 hC.2.1 dX10_readWord_106 rfl (lv_at hl 1 rfl) ?_
    refine lv_bipush (v := 32) hC.1 hC.2.1 dX10_readWord_107 (by decide) ?_
    refine lv_icmp_ge (tgt := 146) hC.1 hC.2.1 dX10_readWord_109 (by decide) (fun hc_1 => ?_) (fun hc_1 => ?_)
    · have hf := ite_t hf hc_1
      exact t10_readWord_146 hC  _ _ _ _ _ hf hW (lv_sub hl [] rfl)
    · have hf := ite_f hf hc_1
      refine lv_aload_n hC.1 hC.2.1 dX10_readWord_112 rfl (lv_at hl 0 rfl) ?_
      refine g_get hC hW hin10_readWord_10 0 rfl rfl 3 (by decide) 6 rfl rfl dX10_readWord_113 ?_
      refine lv_bipush (v := 32) hC.1 hC.2.1 dX10_readWord_116 (by decide) ?_
      refine lv_icmp_ne (tgt := 146) hC.1 hC.2.1 dX10_readWord_118 (by decide) (fun hc_2 => ?_) (fun hc_2 => ?_)
      · have hf := ite_f hf hc_2
        exact t10_readWord_146 hC  _ _ _ _ _ hf hW (lv_sub hl [] rfl)
      · have hf := ite_t hf hc_2
        refine lv_aload_n hC.1 hC.2.1 dX10_readWord_121 rfl (lv_at hl 0 rfl) ?_
        refine g_get hC hW hin10_readWord_10 0 rfl rfl 1 (by decide) 7 rfl rfl dX10_readWord_122 ?_
        refine lv_iload_n hC.1 hC.2.1 dX10_readWord_125 rfl (lv_at hl 1 rfl) ?_
        obtain ⟨hi_3, hf⟩ := ck_of hf
        refine g_lald hC hW 2 rfl hi_3 dX10_readWord_126 ?_
        refine lv_aload_n hC.1 hC.2.1 dX10_readWord_127 rfl (lv_at hl 0 rfl) ?_
        refine g_get hC hW hin10_readWord_10 0 rfl rfl 6 (by decide) 1 rfl rfl dX10_readWord_128 ?_
        refine W.lcmp hC.1 hC.2.1 dX10_readWord_131 ?_
        refine lv_if_ne (tgt := 140) hC.1 hC.2.1 dX10_readWord_132 (by decide) (fun hc_4 => ?_) (fun hc_4 => ?_)
        · have hf := ite_f hf hc_4
          exact t10_readWord_140 hC ih  _ _ _ _ _ _ hf hW (lv_sub hl [0, 1] rfl)
        · have hf := ite_t hf hc_4
          refine lv_aload_n hC.1 hC.2.1 dX10_readWord_135 rfl (lv_at hl 0 rfl) ?_
          refine lv_iload_n hC.1 hC.2.1 dX10_readWord_136 rfl (lv_at hl 1 rfl) ?_
          obtain ⟨ST_5, eST_5⟩ : ∃ y : Ob, y = oI ST 3 x1 := ⟨_, rfl⟩
          have hf := lt_nm hf eST_5
          refine g_put hC hW hin10_readWord_10 tyX10 tyX10_ok nmX10 0 rfl rfl 3 (by decide) 6 rfl rfl rfl rfl (Nat.le_of_ble_eq_true rfl) (w' := w10 cy aT ST_5) (by rw [eST_5]; rfl) dX10_readWord_137 (fun H locs hW => ?_)
          exact t10_readWord_140 hC ih  _ _ _ _ _ _ hf hW (lv_sub hl [0, 1] rfl)
set_option maxRecDepth 100000 in
set_option maxHeartbeats 4000000 in
theorem t10_readWord_101 (hC : Cx p s m args meth c cX10_readWord 2 wsX10_readWord RX10 none) : ∀ (z1 : Int32) (ST : Ob) (res : Ob) (H : Heap) (locs : List Loc) (ls : Array Slot), f10_readWord_101 z1 ST = some res → GW D cy ad (w10 cy aT ST) A s H locs → lv_has ls 2 [(0, .ref (aT 0))] → W p l e rm10_readWord s m args below meth c H locs 0 0 (MQ below (QV D cy (w10 cy aT res) A) args s 0 0 A) (F0 m 101 ls [.int z1, .ref (aT 0)]) := by
  intro z1 ST res H locs ls hf hW hl
  unfold f10_readWord_101 at hf
  obtain ⟨ST_1, eST_1⟩ : ∃ y : Ob, y = oI ST 3 z1 := ⟨_, rfl⟩
  have hf := lt_nm hf eST_1
  refine g_put hC hW hin10_readWord_10 tyX10 tyX10_ok nmX10 0 rfl rfl 3 (by decide) 6 rfl rfl rfl rfl (Nat.le_of_ble_eq_true rfl) (w' := w10 cy aT ST_1) (by rw [eST_1]; rfl) dX10_readWord_101 (fun H locs hW => ?_)
  refine lv_iconst (v := 0) hC.1 hC.2.1 dX10_readWord_104 (by decide) ?_
  refine lv_istore_n (lv' := [(1, .int 0), (0, .ref (aT 0))]) hC.1 hC.2.1 dX10_readWord_105 rfl hl (by decide) rfl (fun ls hl => ?_)
  exact t10_readWord_106 hC _ _ _ _ _ _ _ hf hW (lv_sub hl [1, 0] rfl)
set_option maxRecDepth 100000 in
set_option maxHeartbeats 4000000 in
theorem t10_readWord_79 (hC : Cx p s m args meth c cX10_readWord 2 wsX10_readWord RX10 none) : ∀ (ST : Ob) (res : Ob) (H : Heap) (locs : List Loc) (ls : Array Slot), f10_readWord_79 ST = some res → GW D cy ad (w10 cy aT ST) A s H locs → lv_has ls 2 [(0, .ref (aT 0))] → W p l e rm10_readWord s m args below meth c H locs 0 0 (MQ below (QV D cy (w10 cy aT res) A) args s 0 0 A) (F0 m 79 ls []) := by
  intro ST res H locs ls hf hW hl
  unfold f10_readWord_79 at hf
  refine lv_aload_n hC.1 hC.2.1 dX10_readWord_79 rfl (lv_at hl 0 rfl) ?_
  refine lv_aload_n hC.1 hC.2.1 dX10_readWord_80 rfl (lv_at hl 0 rfl) ?_
  refine g_get hC hW hin10_readWord_10 0 rfl rfl 5 (by decide) 2 rfl rfl dX10_readWord_81 ?_
  refine lv_aload_n hC.1 hC.2.1 dX10_readWord_84 rfl (lv_at hl 0 rfl) ?_
  refine g_get hC hW hin10_readWord_10 0 rfl rfl 4 (by decide) 5 rfl rfl dX10_readWord_85 ?_
  refine lv_isub hC.1 hC.2.1 dX10_readWord_88 ?_
  refine lv_bipush (v := 8) hC.1 hC.2.1 dX10_readWord_89 (by decide) ?_
  refine lv_icmp_le (tgt := 99) hC.1 hC.2.1 dX10_readWord_91 (by decide) (fun hc_1 => ?_) (fun hc_1 => ?_)
  · have hf := ite_t hf hc_1
    refine lv_bipush (v := 32) hC.1 hC.2.1 dX10_readWord_99 (by decide) ?_
    exact t10_readWord_101 hC  _ _ _ _ _ _ hf hW (lv_sub hl [0] rfl)
  · have hf := ite_f hf hc_1
    refine lv_bipush (v := 35) hC.1 hC.2.1 dX10_readWord_94 (by decide) ?_
    refine lv_goto (tgt := 101) hC.1 hC.2.1 dX10_readWord_96 (by decide) ?_
    exact t10_readWord_101 hC  _ _ _ _ _ _ hf hW (lv_sub hl [0] rfl)
set_option maxRecDepth 100000 in
set_option maxHeartbeats 4000000 in
theorem t10_readWord_5 (hC : Cx p s m args meth c cX10_readWord 2 wsX10_readWord RX10 none) : ∀ n : Nat, ∀ (ST : Ob) (res : Ob) (H : Heap) (locs : List Loc) (ls : Array Slot), f10_readWord_5 n ST = some res → GW D cy ad (w10 cy aT ST) A s H locs → lv_has ls 2 [(0, .ref (aT 0))] → W p l e rm10_readWord s m args below meth c H locs 0 0 (MQ below (QV D cy (w10 cy aT res) A) args s 0 0 A) (F0 m 5 ls []) := by
  intro n
  induction n with
  | zero =>
    intro _ _ _ _ _ hf _ _
    exact nomatch (show (none : Option (Ob)) = some _ from hf)
  | succ n ih =>
    intro ST res H locs ls hf hW hl
    rw [f10_readWord_5] at hf
    refine lv_aload_n hC.1 hC.2.1 dX10_readWord_5 rfl (lv_at hl 0 rfl) ?_
    refine g_get hC hW hin10_readWord_10 0 rfl rfl 5 (by decide) 2 rfl rfl dX10_readWord_6 ?_
    refine lv_aload_n hC.1 hC.2.1 dX10_readWord_9 rfl (lv_at hl 0 rfl) ?_
    refine g_get hC hW hin10_readWord_10 0 rfl rfl 2 (by decide) 3 rfl rfl dX10_readWord_10 ?_
    refine lv_icmp_ge (tgt := 79) hC.1 hC.2.1 dX10_readWord_13 (by decide) (fun hc_1 => ?_) (fun hc_1 => ?_)
    · have hf := ite_t hf hc_1
      exact t10_readWord_79 hC  _ _ _ _ _ hf hW (lv_sub hl [0] rfl)
    · have hf := ite_f hf hc_1
      refine lv_aload_n hC.1 hC.2.1 dX10_readWord_16 rfl (lv_at hl 0 rfl) ?_
      refine g_get hC hW hin10_readWord_10 0 rfl rfl 0 (by decide) 4 rfl rfl dX10_readWord_17 ?_
      refine lv_aload_n hC.1 hC.2.1 dX10_readWord_20 rfl (lv_at hl 0 rfl) ?_
      refine g_get hC hW hin10_readWord_10 0 rfl rfl 5 (by decide) 2 rfl rfl dX10_readWord_21 ?_
      obtain ⟨hi_2, hf⟩ := ck_of hf
      refine g_bald hC hW 1 rfl hi_2 dX10_readWord_24 ?_
      refine lv_bipush (v := 97) hC.1 hC.2.1 dX10_readWord_25 (by decide) ?_
      refine lv_icmp_lt (tgt := 79) hC.1 hC.2.1 dX10_readWord_27 (by decide) (fun hc_3 => ?_) (fun hc_3 => ?_)
      · have hf := ite_t hf hc_3
        exact t10_readWord_79 hC  _ _ _ _ _ hf hW (lv_sub hl [0] rfl)
      · have hf := ite_f hf hc_3
        refine lv_aload_n hC.1 hC.2.1 dX10_readWord_30 rfl (lv_at hl 0 rfl) ?_
        refine g_get hC hW hin10_readWord_10 0 rfl rfl 0 (by decide) 4 rfl rfl dX10_readWord_31 ?_
        refine lv_aload_n hC.1 hC.2.1 dX10_readWord_34 rfl (lv_at hl 0 rfl) ?_
        refine g_get hC hW hin10_readWord_10 0 rfl rfl 5 (by decide) 2 rfl rfl dX10_readWord_35 ?_
        obtain ⟨hi_4, hf⟩ := ck_of hf
        refine g_bald hC hW 1 rfl hi_4 dX10_readWord_38 ?_
        refine lv_bipush (v := 122) hC.1 hC.2.1 dX10_readWord_39 (by decide) ?_
        refine lv_icmp_gt (tgt := 79) hC.1 hC.2.1 dX10_readWord_41 (by decide) (fun hc_5 => ?_) (fun hc_5 => ?_)
        · have hf := ite_t hf hc_5
          exact t10_readWord_79 hC  _ _ _ _ _ hf hW (lv_sub hl [0] rfl)
        · have hf := ite_f hf hc_5
          refine lv_aload_n hC.1 hC.2.1 dX10_readWord_44 rfl (lv_at hl 0 rfl) ?_
          refine lv_aload_n hC.1 hC.2.1 dX10_readWord_45 rfl (lv_at hl 0 rfl) ?_
          refine g_get hC hW hin10_readWord_10 0 rfl rfl 6 (by decide) 1 rfl rfl dX10_readWord_46 ?_
          refine lv_bipush (v := 8) hC.1 hC.2.1 dX10_readWord_49 (by decide) ?_
          refine lv_lshl (v := (ST.2.1 6) <<< (Int32.toInt64 8 &&& 63)) hC.1 hC.2.1 dX10_readWord_51 rfl ?_
          refine lv_aload_n hC.1 hC.2.1 dX10_readWord_52 rfl (lv_at hl 0 rfl) ?_
          refine g_get hC hW hin10_readWord_10 0 rfl rfl 0 (by decide) 4 rfl rfl dX10_readWord_53 ?_
          refine lv_aload_n hC.1 hC.2.1 dX10_readWord_56 rfl (lv_at hl 0 rfl) ?_
          refine g_get hC hW hin10_readWord_10 0 rfl rfl 5 (by decide) 2 rfl rfl dX10_readWord_57 ?_
          obtain ⟨hi_6, hf⟩ := ck_of hf
          refine g_bald hC hW 1 rfl hi_6 dX10_readWord_60 ?_
          refine lv_i2l (v := Int32.toInt64 (ST.2.2.1 0 (Int32.toNatClampNeg (ST.1 5)))) hC.1 hC.2.1 dX10_readWord_61 rfl ?_
          refine lv_lor hC.1 hC.2.1 dX10_readWord_62 ?_
          obtain ⟨ST_7, eST_7⟩ : ∃ y : Ob, y = oL ST 6 (((ST.2.1 6) <<< (Int32.toInt64 8 &&& 63)) ||| (Int32.toInt64 (ST.2.2.1 0 (Int32.toNatClampNeg (ST.1 5))))) := ⟨_, rfl⟩
          have hf := lt_nm hf eST_7
          refine g_put hC hW hin10_readWord_10 tyX10 tyX10_ok nmX10 0 rfl rfl 6 (by decide) 1 rfl rfl rfl rfl (Nat.le_of_ble_eq_true rfl) (w' := w10 cy aT ST_7) (by rw [eST_7]; rfl) dX10_readWord_63 (fun H locs hW => ?_)
          refine lv_aload_n hC.1 hC.2.1 dX10_readWord_66 rfl (lv_at hl 0 rfl) ?_
          refine lv_dup hC.1 hC.2.1 dX10_readWord_67 rfl ?_
          refine g_get hC hW hin10_readWord_10 0 rfl rfl 5 (by decide) 2 rfl rfl dX10_readWord_68 ?_
          refine lv_iconst (v := 1) hC.1 hC.2.1 dX10_readWord_71 (by decide) ?_
          refine lv_iadd hC.1 hC.2.1 dX10_readWord_72 ?_
          obtain ⟨ST_8, eST_8⟩ : ∃ y : Ob, y = oI ST_7 5 ((ST_7.1 5) + 1) := ⟨_, rfl⟩
          have hf := lt_nm hf eST_8
          refine g_put hC hW hin10_readWord_10 tyX10 tyX10_ok nmX10 0 rfl rfl 5 (by decide) 2 rfl rfl rfl rfl (Nat.le_of_ble_eq_true rfl) (w' := w10 cy aT ST_8) (by rw [eST_8]; rfl) dX10_readWord_73 (fun H locs hW => ?_)
          refine lv_goto (tgt := 5) hC.1 hC.2.1 dX10_readWord_76 (by decide) ?_
          exact ih _ _ _ _ _ hf hW (lv_sub hl [0] rfl)
set_option maxRecDepth 100000 in
set_option maxHeartbeats 4000000 in
theorem t10_readWord_0 (hC : Cx p s m args meth c cX10_readWord 2 wsX10_readWord RX10 none) : ∀ (ST : Ob) (res : Ob) (H : Heap) (locs : List Loc) (ls : Array Slot), f10_readWord ST = some res → GW D cy ad (w10 cy aT ST) A s H locs → lv_has ls 2 [(0, .ref (aT 0))] → W p l e rm10_readWord s m args below meth c H locs 0 0 (MQ below (QV D cy (w10 cy aT res) A) args s 0 0 A) (F0 m 0 ls []) := by
  intro ST res H locs ls hf hW hl
  unfold f10_readWord at hf
  refine lv_aload_n hC.1 hC.2.1 dX10_readWord_0 rfl (lv_at hl 0 rfl) ?_
  refine lv_lconst (v := 0) hC.1 hC.2.1 dX10_readWord_1 (by decide) ?_
  obtain ⟨ST_1, eST_1⟩ : ∃ y : Ob, y = oL ST 6 0 := ⟨_, rfl⟩
  have hf := lt_nm hf eST_1
  refine g_put hC hW hin10_readWord_10 tyX10 tyX10_ok nmX10 0 rfl rfl 6 (by decide) 1 rfl rfl rfl rfl (Nat.le_of_ble_eq_true rfl) (w' := w10 cy aT ST_1) (by rw [eST_1]; rfl) dX10_readWord_2 (fun H locs hW => ?_)
  exact t10_readWord_5 hC _ _ _ _ _ _ hf hW (lv_sub hl [0] rfl)
set_option maxRecDepth 100000 in
set_option maxHeartbeats 4000000 in
theorem c10_readWord (l : Launch) (D : va_G) (cy : Nat → ClassId) (ad : Nat → Nat) (aT : Nat → Nat) {ST : Ob} {res : Ob} (h : f10_readWord ST = some res) : GCv l yX10_readWord wsX10_readWord rm10_readWord [.ref (aT 0)] D cy ad (w10 cy aT ST) (w10 cy aT res) := fun sz => GC.start (own := RX10) (Qc := fun A => QV D cy (w10 cy aT res) A) sz (by decide) rfl rfl (Nat.le_of_ble_eq_true rfl) (fun p e s m below meth c A ls hC hW hl => t10_readWord_0 hC _ _ _ _ _ h hW (lv_sub hl [0] rfl))
abbrev rm10_readNumber : Room := { frames := 0, cells := 0, slots := 0, locals := 0 }
theorem hdV10_readNumber : yX10_readNumber.cls = RX10 ∧ (yX10_readNumber.cls ≠ "java/lang/invoke/MethodHandle" ∧ yX10_readNumber.cls ≠ "java/lang/invoke/VarHandle" ∧ (parseMethodDescriptor yX10_readNumber.desc).map (fun d => d.parameters.length) = some 0) := by decide +kernel
theorem hin10_readNumber_10 : ∀ x ∈ u_ws RX10 TX10 8, x ∈ wsX10_readNumber := fun _ h => List.mem_cons_of_mem _ (List.mem_append_right _ h)
set_option maxRecDepth 100000 in
set_option maxHeartbeats 4000000 in
theorem t10_readNumber_102 (hC : Cx p s m args meth c cX10_readNumber 1 wsX10_readNumber RX10 none) : ∀ (z1 : Int32) (ST : Ob) (res : Ob) (H : Heap) (locs : List Loc) (ls : Array Slot), f10_readNumber_102 z1 ST = some res → GW D cy ad (w10 cy aT ST) A s H locs → lv_has ls 1 [] → W p l e rm10_readNumber s m args below meth c H locs 0 0 (MQ below (QV D cy (w10 cy aT res) A) args s 0 0 A) (F0 m 102 ls [.int z1, .ref (aT 0)]) := by
  intro z1 ST res H locs ls hf hW hl
  unfold f10_readNumber_102 at hf
  obtain ⟨ST_1, eST_1⟩ : ∃ y : Ob, y = oI ST 3 z1 := ⟨_, rfl⟩
  have hf := lt_nm hf eST_1
  refine g_put hC hW hin10_readNumber_10 tyX10 tyX10_ok nmX10 0 rfl rfl 3 (by decide) 6 rfl rfl rfl rfl (Nat.le_of_ble_eq_true rfl) (w' := w10 cy aT ST_1) (by rw [eST_1]; rfl) dX10_readNumber_102 (fun H locs hW => ?_)
  obtain rfl := Option.some.inj hf
  exact g_vret hC hW dX10_readNumber_105
set_option maxRecDepth 100000 in
set_option maxHeartbeats 4000000 in
theorem t10_readNumber_81 (hC : Cx p s m args meth c cX10_readNumber 1 wsX10_readNumber RX10 none) : ∀ (ST : Ob) (res : Ob) (H : Heap) (locs : List Loc) (ls : Array Slot), f10_readNumber_81 ST = some res → GW D cy ad (w10 cy aT ST) A s H locs → lv_has ls 1 [(0, .ref (aT 0))] → W p l e rm10_readNumber s m args below meth c H locs 0 0 (MQ below (QV D cy (w10 cy aT res) A) args s 0 0 A) (F0 m 81 ls []) := by
  intro ST res H locs ls hf hW hl
  unfold f10_readNumber_81 at hf
  refine lv_aload_n hC.1 hC.2.1 dX10_readNumber_81 rfl (lv_at hl 0 rfl) ?_
  refine lv_aload_n hC.1 hC.2.1 dX10_readNumber_82 rfl (lv_at hl 0 rfl) ?_
  refine g_get hC hW hin10_readNumber_10 0 rfl rfl 5 (by decide) 2 rfl rfl dX10_readNumber_83 ?_
  refine lv_aload_n hC.1 hC.2.1 dX10_readNumber_86 rfl (lv_at hl 0 rfl) ?_
  refine g_get hC hW hin10_readNumber_10 0 rfl rfl 4 (by decide) 5 rfl rfl dX10_readNumber_87 ?_
  refine lv_isub hC.1 hC.2.1 dX10_readNumber_90 ?_
  refine lv_iconst (v := 4) hC.1 hC.2.1 dX10_readNumber_91 (by decide) ?_
  refine lv_icmp_le (tgt := 100) hC.1 hC.2.1 dX10_readNumber_92 (by decide) (fun hc_1 => ?_) (fun hc_1 => ?_)
  · have hf := ite_t hf hc_1
    refine lv_bipush (v := 33) hC.1 hC.2.1 dX10_readNumber_100 (by decide) ?_
    exact t10_readNumber_102 hC  _ _ _ _ _ _ hf hW (lv_sub hl [] rfl)
  · have hf := ite_f hf hc_1
    refine lv_bipush (v := 35) hC.1 hC.2.1 dX10_readNumber_95 (by decide) ?_
    refine lv_goto (tgt := 102) hC.1 hC.2.1 dX10_readNumber_97 (by decide) ?_
    exact t10_readNumber_102 hC  _ _ _ _ _ _ hf hW (lv_sub hl [] rfl)
set_option maxRecDepth 100000 in
set_option maxHeartbeats 4000000 in
theorem t10_readNumber_5 (hC : Cx p s m args meth c cX10_readNumber 1 wsX10_readNumber RX10 none) : ∀ n : Nat, ∀ (ST : Ob) (res : Ob) (H : Heap) (locs : List Loc) (ls : Array Slot), f10_readNumber_5 n ST = some res → GW D cy ad (w10 cy aT ST) A s H locs → lv_has ls 1 [(0, .ref (aT 0))] → W p l e rm10_readNumber s m args below meth c H locs 0 0 (MQ below (QV D cy (w10 cy aT res) A) args s 0 0 A) (F0 m 5 ls []) := by
  intro n
  induction n with
  | zero =>
    intro _ _ _ _ _ hf _ _
    exact nomatch (show (none : Option (Ob)) = some _ from hf)
  | succ n ih =>
    intro ST res H locs ls hf hW hl
    rw [f10_readNumber_5] at hf
    refine lv_aload_n hC.1 hC.2.1 dX10_readNumber_5 rfl (lv_at hl 0 rfl) ?_
    refine g_get hC hW hin10_readNumber_10 0 rfl rfl 5 (by decide) 2 rfl rfl dX10_readNumber_6 ?_
    refine lv_aload_n hC.1 hC.2.1 dX10_readNumber_9 rfl (lv_at hl 0 rfl) ?_
    refine g_get hC hW hin10_readNumber_10 0 rfl rfl 2 (by decide) 3 rfl rfl dX10_readNumber_10 ?_
    refine lv_icmp_ge (tgt := 81) hC.1 hC.2.1 dX10_readNumber_13 (by decide) (fun hc_1 => ?_) (fun hc_1 => ?_)
    · have hf := ite_t hf hc_1
      exact t10_readNumber_81 hC  _ _ _ _ _ hf hW (lv_sub hl [0] rfl)
    · have hf := ite_f hf hc_1
      refine lv_aload_n hC.1 hC.2.1 dX10_readNumber_16 rfl (lv_at hl 0 rfl) ?_
      refine g_get hC hW hin10_readNumber_10 0 rfl rfl 0 (by decide) 4 rfl rfl dX10_readNumber_17 ?_
      refine lv_aload_n hC.1 hC.2.1 dX10_readNumber_20 rfl (lv_at hl 0 rfl) ?_
      refine g_get hC hW hin10_readNumber_10 0 rfl rfl 5 (by decide) 2 rfl rfl dX10_readNumber_21 ?_
      obtain ⟨hi_2, hf⟩ := ck_of hf
      refine g_bald hC hW 1 rfl hi_2 dX10_readNumber_24 ?_
      refine lv_bipush (v := 48) hC.1 hC.2.1 dX10_readNumber_25 (by decide) ?_
      refine lv_icmp_lt (tgt := 81) hC.1 hC.2.1 dX10_readNumber_27 (by decide) (fun hc_3 => ?_) (fun hc_3 => ?_)
      · have hf := ite_t hf hc_3
        exact t10_readNumber_81 hC  _ _ _ _ _ hf hW (lv_sub hl [0] rfl)
      · have hf := ite_f hf hc_3
        refine lv_aload_n hC.1 hC.2.1 dX10_readNumber_30 rfl (lv_at hl 0 rfl) ?_
        refine g_get hC hW hin10_readNumber_10 0 rfl rfl 0 (by decide) 4 rfl rfl dX10_readNumber_31 ?_
        refine lv_aload_n hC.1 hC.2.1 dX10_readNumber_34 rfl (lv_at hl 0 rfl) ?_
        refine g_get hC hW hin10_readNumber_10 0 rfl rfl 5 (by decide) 2 rfl rfl dX10_readNumber_35 ?_
        obtain ⟨hi_4, hf⟩ := ck_of hf
        refine g_bald hC hW 1 rfl hi_4 dX10_readNumber_38 ?_
        refine lv_bipush (v := 57) hC.1 hC.2.1 dX10_readNumber_39 (by decide) ?_
        refine lv_icmp_gt (tgt := 81) hC.1 hC.2.1 dX10_readNumber_41 (by decide) (fun hc_5 => ?_) (fun hc_5 => ?_)
        · have hf := ite_t hf hc_5
          exact t10_readNumber_81 hC  _ _ _ _ _ hf hW (lv_sub hl [0] rfl)
        · have hf := ite_f hf hc_5
          refine lv_aload_n hC.1 hC.2.1 dX10_readNumber_44 rfl (lv_at hl 0 rfl) ?_
          refine lv_aload_n hC.1 hC.2.1 dX10_readNumber_45 rfl (lv_at hl 0 rfl) ?_
          refine g_get hC hW hin10_readNumber_10 0 rfl rfl 7 (by decide) 1 rfl rfl dX10_readNumber_46 ?_
          refine lv_bipush (v := 10) hC.1 hC.2.1 dX10_readNumber_49 (by decide) ?_
          refine lv_imul hC.1 hC.2.1 dX10_readNumber_51 ?_
          refine lv_aload_n hC.1 hC.2.1 dX10_readNumber_52 rfl (lv_at hl 0 rfl) ?_
          refine g_get hC hW hin10_readNumber_10 0 rfl rfl 0 (by decide) 4 rfl rfl dX10_readNumber_53 ?_
          refine lv_aload_n hC.1 hC.2.1 dX10_readNumber_56 rfl (lv_at hl 0 rfl) ?_
          refine g_get hC hW hin10_readNumber_10 0 rfl rfl 5 (by decide) 2 rfl rfl dX10_readNumber_57 ?_
          obtain ⟨hi_6, hf⟩ := ck_of hf
          refine g_bald hC hW 1 rfl hi_6 dX10_readNumber_60 ?_
          refine lv_iadd hC.1 hC.2.1 dX10_readNumber_61 ?_
          refine lv_bipush (v := 48) hC.1 hC.2.1 dX10_readNumber_62 (by decide) ?_
          refine lv_isub hC.1 hC.2.1 dX10_readNumber_64 ?_
          obtain ⟨ST_7, eST_7⟩ : ∃ y : Ob, y = oI ST 7 ((((ST.1 7) * 10) + (ST.2.2.1 0 (Int32.toNatClampNeg (ST.1 5)))) - 48) := ⟨_, rfl⟩
          have hf := lt_nm hf eST_7
          refine g_put hC hW hin10_readNumber_10 tyX10 tyX10_ok nmX10 0 rfl rfl 7 (by decide) 1 rfl rfl rfl rfl (Nat.le_of_ble_eq_true rfl) (w' := w10 cy aT ST_7) (by rw [eST_7]; rfl) dX10_readNumber_65 (fun H locs hW => ?_)
          refine lv_aload_n hC.1 hC.2.1 dX10_readNumber_68 rfl (lv_at hl 0 rfl) ?_
          refine lv_dup hC.1 hC.2.1 dX10_readNumber_69 rfl ?_
          refine g_get hC hW hin10_readNumber_10 0 rfl rfl 5 (by decide) 2 rfl rfl dX10_readNumber_70 ?_
          refine lv_iconst (v := 1) hC.1 hC.2.1 dX10_readNumber_73 (by decide) ?_
          refine lv_iadd hC.1 hC.2.1 dX10_readNumber_74 ?_
          obtain ⟨ST_8, eST_8⟩ : ∃ y : Ob, y = oI ST_7 5 ((ST_7.1 5) + 1) := ⟨_, rfl⟩
          have hf := lt_nm hf eST_8
          refine g_put hC hW hin10_readNumber_10 tyX10 tyX10_ok nmX10 0 rfl rfl 5 (by decide) 2 rfl rfl rfl rfl (Nat.le_of_ble_eq_true rfl) (w' := w10 cy aT ST_8) (by rw [eST_8]; rfl) dX10_readNumber_75 (fun H locs hW => ?_)
          refine lv_goto (tgt := 5) hC.1 hC.2.1 dX10_readNumber_78 (by decide) ?_
          exact ih _ _ _ _ _ hf hW (lv_sub hl [0] rfl)
set_option maxRecDepth 100000 in
set_option maxHeartbeats 4000000 in
theorem t10_readNumber_0 (hC : Cx p s m args meth c cX10_readNumber 1 wsX10_readNumber RX10 none) : ∀ (ST : Ob) (res : Ob) (H : Heap) (locs : List Loc) (ls : Array Slot), f10_readNumber ST = some res → GW D cy ad (w10 cy aT ST) A s H locs → lv_has ls 1 [(0, .ref (aT 0))] → W p l e rm10_readNumber s m args below meth c H locs 0 0 (MQ below (QV D cy (w10 cy aT res) A) args s 0 0 A) (F0 m 0 ls []) := by
  intro ST res H locs ls hf hW hl
  unfold f10_readNumber at hf
  refine lv_aload_n hC.1 hC.2.1 dX10_readNumber_0 rfl (lv_at hl 0 rfl) ?_
  refine lv_iconst (v := 0) hC.1 hC.2.1 dX10_readNumber_1 (by decide) ?_
  obtain ⟨ST_1, eST_1⟩ : ∃ y : Ob, y = oI ST 7 0 := ⟨_, rfl⟩
  have hf := lt_nm hf eST_1
  refine g_put hC hW hin10_readNumber_10 tyX10 tyX10_ok nmX10 0 rfl rfl 7 (by decide) 1 rfl rfl rfl rfl (Nat.le_of_ble_eq_true rfl) (w' := w10 cy aT ST_1) (by rw [eST_1]; rfl) dX10_readNumber_2 (fun H locs hW => ?_)
  exact t10_readNumber_5 hC _ _ _ _ _ _ hf hW (lv_sub hl [0] rfl)
set_option maxRecDepth 100000 in
set_option maxHeartbeats 4000000 in
theorem c10_readNumber (l : Launch) (D : va_G) (cy : Nat → ClassId) (ad : Nat → Nat) (aT : Nat → Nat) {ST : Ob} {res : Ob} (h : f10_readNumber ST = some res) : GCv l yX10_readNumber wsX10_readNumber rm10_readNumber [.ref (aT 0)] D cy ad (w10 cy aT ST) (w10 cy aT res) := fun sz => GC.start (own := RX10) (Qc := fun A => QV D cy (w10 cy aT res) A) sz (by decide) rfl rfl (Nat.le_of_ble_eq_true rfl) (fun p e s m below meth c A ls hC hW hl => t10_readNumber_0 hC _ _ _ _ _ h hW (lv_sub hl [0] rfl))
abbrev rm10_advance : Room := { frames := 4, cells := 0, slots := 0, locals := 96 }
theorem hdV10_advance : yX10_advance.cls = RX10 ∧ (yX10_advance.cls ≠ "java/lang/invoke/MethodHandle" ∧ yX10_advance.cls ≠ "java/lang/invoke/VarHandle" ∧ (parseMethodDescriptor yX10_advance.desc).map (fun d => d.parameters.length) = some 0) := by decide +kernel
theorem hin10_advance_10 : ∀ x ∈ u_ws RX10 TX10 8, x ∈ wsX10_advance := fun _ h => List.mem_cons_of_mem _ (List.mem_append_right _ h)
set_option maxRecDepth 100000 in
set_option maxHeartbeats 4000000 in
theorem t10_advance_35 (hC : Cx p s m args meth c cX10_advance 2 wsX10_advance RX10 none) {k5 : Int32 → Ob → Option (Ob)} (hk5 : ∀ (x1 : Int32) (ST : Ob) (res : Ob) (H : Heap) (locs : List Loc) (ls : Array Slot), k5 x1 ST = some res → GW D cy ad (w10 cy aT ST) A s H locs → lv_has ls 2 [(0, .ref (aT 0)), (1, .int x1)] → W p l e rm10_advance s m args below meth c H locs 0 0 (MQ below (QV D cy (w10 cy aT res) A) args s 0 0 A) (F0 m 5 ls [])) : ∀ (x1 : Int32) (ST : Ob) (res : Ob) (H : Heap) (locs : List Loc) (ls : Array Slot), f10_advance_35 k5 x1 ST = some res → GW D cy ad (w10 cy aT ST) A s H locs → lv_has ls 2 [(0, .ref (aT 0)), (1, .int x1)] → W p l e rm10_advance s m args below meth c H locs 0 0 (MQ below (QV D cy (w10 cy aT res) A) args s 0 0 A) (F0 m 35 ls []) := by
  intro x1 ST res H locs ls hf hW hl
  unfold f10_advance_35 at hf
  obtain ⟨x1_1, ex1_1⟩ : ∃ y : Int32, y = x1 + 1 := ⟨_, rfl⟩
  have hf := lt_nm hf ex1_1
  refine lv_iinc (v := x1_1) (lv' := [(1, .int x1_1), (0, .ref (aT 0))]) hC.1 hC.2.1 dX10_advance_35 hl (k := 1) rfl (by rw [ex1_1]; rfl) (by decide) rfl (fun ls hl => ?_)
  refine lv_goto (tgt := 5) hC.1 hC.2.1 dX10_advance_38 (by decide) ?_
  exact hk5 _ _ _ _ _ _ hf hW (lv_sub hl [1, 0] rfl)
set_option maxRecDepth 100000 in
set_option maxHeartbeats 4000000 in
theorem t10_advance_163 (hC : Cx p s m args meth c cX10_advance 2 wsX10_advance RX10 none) : ∀ (ST : Ob) (res : Ob) (H : Heap) (locs : List Loc) (ls : Array Slot), f10_advance_163 ST = some res → GW D cy ad (w10 cy aT ST) A s H locs → lv_has ls 2 [] → W p l e rm10_advance s m args below meth c H locs 0 0 (MQ below (QV D cy (w10 cy aT res) A) args s 0 0 A) (F0 m 163 ls []) := by
  intro ST res H locs ls hf hW hl
  unfold f10_advance_163 at hf
  obtain rfl := Option.some.inj hf
  exact g_vret hC hW dX10_advance_163
set_option maxRecDepth 100000 in
set_option maxHeartbeats 4000000 in
theorem t10_advance_160 (hC : Cx p s m args meth c cX10_advance 2 wsX10_advance RX10 none) : ∀ (z1 : Int32) (ST : Ob) (res : Ob) (H : Heap) (locs : List Loc) (ls : Array Slot), f10_advance_160 z1 ST = some res → GW D cy ad (w10 cy aT ST) A s H locs → lv_has ls 2 [] → W p l e rm10_advance s m args below meth c H locs 0 0 (MQ below (QV D cy (w10 cy aT res) A) args s 0 0 A) (F0 m 160 ls [.int z1, .ref (aT 0)]) := by
  intro z1 ST res H locs ls hf hW hl
  unfold f10_advance_160 at hf
  obtain ⟨ST_1, eST_1⟩ : ∃ y : Ob, y = oI ST 3 z1 := ⟨_, rfl⟩
  have hf := lt_nm hf eST_1
  refine g_put hC hW hin10_advance_10 tyX10 tyX10_ok nmX10 0 rfl rfl 3 (by decide) 5 rfl rfl rfl rfl (Nat.le_of_ble_eq_true rfl) (w' := w10 cy aT ST_1) (by rw [eST_1]; rfl) dX10_advance_160 (fun H locs hW => ?_)
  exact t10_advance_163 hC  _ _ _ _ _ hf hW (lv_sub hl [] rfl)
set_option maxRecDepth 100000 in
set_option maxHeartbeats 4000000 in
theorem t10_advance_126 (hC : Cx p s m args meth c cX10_advance 2 wsX10_advance RX10 none) : ∀ (x1 : Int32) (ST : Ob) (res : Ob) (H : Heap) (locs : List Loc) (ls : Array Slot), f10_advance_126 x1 ST = some res → GW D cy ad (w10 cy aT ST) A s H locs → lv_has ls 2 [(0, .ref (aT 0)), (1, .int x1)] → W p l e rm10_advance s m args below meth c H locs 0 0 (MQ below (QV D cy (w10 cy aT res) A) args s 0 0 A) (F0 m 126 ls []) := by
  intro x1 ST res H locs ls hf hW hl
  unfold f10_advance_126 at hf
  refine lv_aload_n hC.1 hC.2.1 dX10_advance_126 rfl (lv_at hl 0 rfl) ?_
  refine lv_iload_n hC.1 hC.2.1 dX10_advance_127 rfl (lv_at hl 1 rfl) ?_
  refine lv_iconst (v := 1) hC.1 hC.2.1 dX10_advance_128 (by decide) ?_
  refine lv_iadd hC.1 hC.2.1 dX10_advance_129 ?_
  obtain ⟨ST_1, eST_1⟩ : ∃ y : Ob, y = oI ST 5 (x1 + 1) := ⟨_, rfl⟩
  have hf := lt_nm hf eST_1
  refine g_put hC hW hin10_advance_10 tyX10 tyX10_ok nmX10 0 rfl rfl 5 (by decide) 1 rfl rfl rfl rfl (Nat.le_of_ble_eq_true rfl) (w' := w10 cy aT ST_1) (by rw [eST_1]; rfl) dX10_advance_130 (fun H locs hW => ?_)
  refine lv_aload_n hC.1 hC.2.1 dX10_advance_133 rfl (lv_at hl 0 rfl) ?_
  refine va_ldcS hC.1 hC.2.1 hC.2.2.2.1 hW.2.2.2.2.2.2.2.1 dX10_advance_134 ?_
  refine lv_aload_n hC.1 hC.2.1 dX10_advance_136 rfl (lv_at hl 0 rfl) ?_
  refine g_get hC hW hin10_advance_10 0 rfl rfl 0 (by decide) 3 rfl rfl dX10_advance_137 ?_
  refine lv_iload_n hC.1 hC.2.1 dX10_advance_140 rfl (lv_at hl 1 rfl) ?_
  obtain ⟨hi_2, hf⟩ := ck_of hf
  refine g_bald hC hW 1 rfl hi_2 dX10_advance_141 ?_
  refine lv_i2c (v := ((Int32.toUInt32 (ST_1.2.2.1 0 (Int32.toNatClampNeg x1))) % 65536).toInt32) hC.1 hC.2.1 dX10_advance_142 rfl ?_
  obtain ⟨r_3, hg_4, hf⟩ := bd_of hf
  refine g_calliVs hC hW 1 (by decide) (cj0_indexOf_0f7a4 l D cy ad  hg_4) (cwV 1 hC.2.2.2.2.1 gX10_advance_J0_indexOf_0f7a4 rfl rfl rfl hdVj0_indexOf_0f7a4 ⟨Nat.le_of_ble_eq_true rfl, Nat.le_of_ble_eq_true rfl⟩) rfl hl.1 rfl (Nat.le_of_ble_eq_true rfl) dX10_advance_143 ⟨Nat.zero_le _, Nat.zero_le _⟩ (fun H locs hW => ?_)
  refine lv_if_ge (tgt := 154) hC.1 hC.2.1 dX10_advance_146 (by decide) (fun hc_5 => ?_) (fun hc_5 => ?_)
  · have hf := ite_t hf hc_5
    refine lv_aload_n hC.1 hC.2.1 dX10_advance_154 rfl (lv_at hl 0 rfl) ?_
    refine g_get hC hW hin10_advance_10 0 rfl rfl 0 (by decide) 3 rfl rfl dX10_advance_155 ?_
    refine lv_iload_n hC.1 hC.2.1 dX10_advance_158 rfl (lv_at hl 1 rfl) ?_
    obtain ⟨hi_6, hf⟩ := ck_of hf
    refine g_bald hC hW 1 rfl hi_6 dX10_advance_159 ?_
    exact t10_advance_160 hC  _ _ _ _ _ _ hf hW (lv_sub hl [] rfl)
  · have hf := ite_f hf hc_5
    refine lv_bipush (v := 35) hC.1 hC.2.1 dX10_advance_149 (by decide) ?_
    refine lv_goto (tgt := 160) hC.1 hC.2.1 dX10_advance_151 (by decide) ?_
    exact t10_advance_160 hC  _ _ _ _ _ _ hf hW (lv_sub hl [] rfl)
set_option maxRecDepth 100000 in
set_option maxHeartbeats 4000000 in
theorem t10_advance_97 (hC : Cx p s m args meth c cX10_advance 2 wsX10_advance RX10 none) : ∀ (x1 : Int32) (ST : Ob) (res : Ob) (H : Heap) (locs : List Loc) (ls : Array Slot), f10_advance_97 x1 ST = some res → GW D cy ad (w10 cy aT ST) A s H locs → lv_has ls 2 [(0, .ref (aT 0)), (1, .int x1)] → W p l e rm10_advance s m args below meth c H locs 0 0 (MQ below (QV D cy (w10 cy aT res) A) args s 0 0 A) (F0 m 97 ls []) := by
  intro x1 ST res H locs ls hf hW hl
  unfold f10_advance_97 at hf
  refine lv_aload_n hC.1 hC.2.1 dX10_advance_97 rfl (lv_at hl 0 rfl) ?_
  refine g_get hC hW hin10_advance_10 0 rfl rfl 0 (by decide) 3 rfl rfl dX10_advance_98 ?_
  refine lv_iload_n hC.1 hC.2.1 dX10_advance_101 rfl (lv_at hl 1 rfl) ?_
  obtain ⟨hi_1, hf⟩ := ck_of hf
  refine g_bald hC hW 1 rfl hi_1 dX10_advance_102 ?_
  refine lv_bipush (v := 48) hC.1 hC.2.1 dX10_advance_103 (by decide) ?_
  refine lv_icmp_lt (tgt := 126) hC.1 hC.2.1 dX10_advance_105 (by decide) (fun hc_2 => ?_) (fun hc_2 => ?_)
  · have hf := ite_t hf hc_2
    exact t10_advance_126 hC  _ _ _ _ _ _ hf hW (lv_sub hl [0, 1] rfl)
  · have hf := ite_f hf hc_2
    refine lv_aload_n hC.1 hC.2.1 dX10_advance_108 rfl (lv_at hl 0 rfl) ?_
    refine g_get hC hW hin10_advance_10 0 rfl rfl 0 (by decide) 3 rfl rfl dX10_advance_109 ?_
    refine lv_iload_n hC.1 hC.2.1 dX10_advance_112 rfl (lv_at hl 1 rfl) ?_
    obtain ⟨hi_3, hf⟩ := ck_of hf
    refine g_bald hC hW 1 rfl hi_3 dX10_advance_113 ?_
    refine lv_bipush (v := 57) hC.1 hC.2.1 dX10_advance_114 (by decide) ?_
    refine lv_icmp_gt (tgt := 126) hC.1 hC.2.1 dX10_advance_116 (by decide) (fun hc_4 => ?_) (fun hc_4 => ?_)
    · have hf := ite_t hf hc_4
      exact t10_advance_126 hC  _ _ _ _ _ _ hf hW (lv_sub hl [0, 1] rfl)
    · have hf := ite_f hf hc_4
      refine lv_aload_n hC.1 hC.2.1 dX10_advance_119 rfl (lv_at hl 0 rfl) ?_
      obtain ⟨r_5, hg_6, hf⟩ := bd_of hf
      refine g_callvV (w' := w10 cy aT r_5) hC hW (c10_readNumber l D cy ad aT hg_6) (cwV 0 hC.2.2.2.2.1 gX10_advance_X10_readNumber rfl rfl rfl hdV10_readNumber ⟨Nat.le_of_ble_eq_true rfl, Nat.le_of_ble_eq_true rfl⟩) (Sub.all _ _) 0 9 rfl rfl rfl rfl hl.1 rfl (Nat.le_of_ble_eq_true rfl) dX10_advance_120 ⟨Nat.zero_le _, Nat.zero_le _⟩ (fun H locs hW => ?_)
      refine lv_goto (tgt := 163) hC.1 hC.2.1 dX10_advance_123 (by decide) ?_
      exact t10_advance_163 hC  _ _ _ _ _ hf hW (lv_sub hl [] rfl)
set_option maxRecDepth 100000 in
set_option maxHeartbeats 4000000 in
theorem t10_advance_41 (hC : Cx p s m args meth c cX10_advance 2 wsX10_advance RX10 none) : ∀ (x1 : Int32) (ST : Ob) (res : Ob) (H : Heap) (locs : List Loc) (ls : Array Slot), f10_advance_41 x1 ST = some res → GW D cy ad (w10 cy aT ST) A s H locs → lv_has ls 2 [(0, .ref (aT 0)), (1, .int x1)] → W p l e rm10_advance s m args below meth c H locs 0 0 (MQ below (QV D cy (w10 cy aT res) A) args s 0 0 A) (F0 m 41 ls []) := by
  intro x1 ST res H locs ls hf hW hl
  unfold f10_advance_41 at hf
  refine lv_aload_n hC.1 hC.2.1 dX10_advance_41 rfl (lv_at hl 0 rfl) ?_
  refine lv_iload_n hC.1 hC.2.1 dX10_advance_42 rfl (lv_at hl 1 rfl) ?_
  obtain ⟨ST_1, eST_1⟩ : ∃ y : Ob, y = oI ST 4 x1 := ⟨_, rfl⟩
  have hf := lt_nm hf eST_1
  refine g_put hC hW hin10_advance_10 tyX10 tyX10_ok nmX10 0 rfl rfl 4 (by decide) 4 rfl rfl rfl rfl (Nat.le_of_ble_eq_true rfl) (w' := w10 cy aT ST_1) (by rw [eST_1]; rfl) dX10_advance_43 (fun H locs hW => ?_)
  refine lv_aload_n hC.1 hC.2.1 dX10_advance_46 rfl (lv_at hl 0 rfl) ?_
  refine lv_iload_n hC.1 hC.2.1 dX10_advance_47 rfl (lv_at hl 1 rfl) ?_
  obtain ⟨ST_2, eST_2⟩ : ∃ y : Ob, y = oI ST_1 5 x1 := ⟨_, rfl⟩
  have hf := lt_nm hf eST_2
  refine g_put hC hW hin10_advance_10 tyX10 tyX10_ok nmX10 0 rfl rfl 5 (by decide) 1 rfl rfl rfl rfl (Nat.le_of_ble_eq_true rfl) (w' := w10 cy aT ST_2) (by rw [eST_2]; rfl) dX10_advance_48 (fun H locs hW => ?_)
  refine lv_iload_n hC.1 hC.2.1 dX10_advance_51 rfl (lv_at hl 1 rfl) ?_
  refine lv_aload_n hC.1 hC.2.1 dX10_advance_52 rfl (lv_at hl 0 rfl) ?_
  refine g_get hC hW hin10_advance_10 0 rfl rfl 2 (by decide) 2 rfl rfl dX10_advance_53 ?_
  refine lv_icmp_lt (tgt := 68) hC.1 hC.2.1 dX10_advance_56 (by decide) (fun hc_3 => ?_) (fun hc_3 => ?_)
  · have hf := ite_t hf hc_3
    refine lv_aload_n hC.1 hC.2.1 dX10_advance_68 rfl (lv_at hl 0 rfl) ?_
    refine g_get hC hW hin10_advance_10 0 rfl rfl 0 (by decide) 3 rfl rfl dX10_advance_69 ?_
    refine lv_iload_n hC.1 hC.2.1 dX10_advance_72 rfl (lv_at hl 1 rfl) ?_
    obtain ⟨hi_4, hf⟩ := ck_of hf
    refine g_bald hC hW 1 rfl hi_4 dX10_advance_73 ?_
    refine lv_bipush (v := 97) hC.1 hC.2.1 dX10_advance_74 (by decide) ?_
    refine lv_icmp_lt (tgt := 97) hC.1 hC.2.1 dX10_advance_76 (by decide) (fun hc_5 => ?_) (fun hc_5 => ?_)
    · have hf := ite_t hf hc_5
      exact t10_advance_97 hC  _ _ _ _ _ _ hf hW (lv_sub hl [0, 1] rfl)
    · have hf := ite_f hf hc_5
      refine lv_aload_n hC.1 hC.2.1 dX10_advance_79 rfl (lv_at hl 0 rfl) ?_
      refine g_get hC hW hin10_advance_10 0 rfl rfl 0 (by decide) 3 rfl rfl dX10_advance_80 ?_
      refine lv_iload_n hC.1 hC.2.1 dX10_advance_83 rfl (lv_at hl 1 rfl) ?_
      obtain ⟨hi_6, hf⟩ := ck_of hf
      refine g_bald hC hW 1 rfl hi_6 dX10_advance_84 ?_
      refine lv_bipush (v := 122) hC.1 hC.2.1 dX10_advance_85 (by decide) ?_
      refine lv_icmp_gt (tgt := 97) hC.1 hC.2.1 dX10_advance_87 (by decide) (fun hc_7 => ?_) (fun hc_7 => ?_)
      · have hf := ite_t hf hc_7
        exact t10_advance_97 hC  _ _ _ _ _ _ hf hW (lv_sub hl [0, 1] rfl)
      · have hf := ite_f hf hc_7
        refine lv_aload_n hC.1 hC.2.1 dX10_advance_90 rfl (lv_at hl 0 rfl) ?_
        obtain ⟨r_8, hg_9, hf⟩ := bd_of hf
        refine g_callvV (w' := w10 cy aT r_8) hC hW (c10_readWord l D cy ad aT hg_9) (cwV 0 hC.2.2.2.2.1 gX10_advance_X10_readWord rfl rfl rfl hdV10_readWord ⟨Nat.le_of_ble_eq_true rfl, Nat.le_of_ble_eq_true rfl⟩) (Sub.all _ _) 0 9 rfl rfl rfl rfl hl.1 rfl (Nat.le_of_ble_eq_true rfl) dX10_advance_91 ⟨Nat.zero_le _, Nat.zero_le _⟩ (fun H locs hW => ?_)
        refine lv_goto (tgt := 163) hC.1 hC.2.1 dX10_advance_94 (by decide) ?_
        exact t10_advance_163 hC  _ _ _ _ _ hf hW (lv_sub hl [] rfl)
  · have hf := ite_f hf hc_3
    refine lv_aload_n hC.1 hC.2.1 dX10_advance_59 rfl (lv_at hl 0 rfl) ?_
    refine lv_bipush (v := 34) hC.1 hC.2.1 dX10_advance_60 (by decide) ?_
    obtain ⟨ST_10, eST_10⟩ : ∃ y : Ob, y = oI ST_2 3 34 := ⟨_, rfl⟩
    have hf := lt_nm hf eST_10
    refine g_put hC hW hin10_advance_10 tyX10 tyX10_ok nmX10 0 rfl rfl 3 (by decide) 5 rfl rfl rfl rfl (Nat.le_of_ble_eq_true rfl) (w' := w10 cy aT ST_10) (by rw [eST_10]; rfl) dX10_advance_62 (fun H locs hW => ?_)
    refine lv_goto (tgt := 163) hC.1 hC.2.1 dX10_advance_65 (by decide) ?_
    exact t10_advance_163 hC  _ _ _ _ _ hf hW (lv_sub hl [] rfl)
set_option maxRecDepth 100000 in
set_option maxHeartbeats 4000000 in
theorem t10_advance_5 (hC : Cx p s m args meth c cX10_advance 2 wsX10_advance RX10 none) : ∀ n : Nat, ∀ (x1 : Int32) (ST : Ob) (res : Ob) (H : Heap) (locs : List Loc) (ls : Array Slot), f10_advance_5 n x1 ST = some res → GW D cy ad (w10 cy aT ST) A s H locs → lv_has ls 2 [(0, .ref (aT 0)), (1, .int x1)] → W p l e rm10_advance s m args below meth c H locs 0 0 (MQ below (QV D cy (w10 cy aT res) A) args s 0 0 A) (F0 m 5 ls []) := by
  intro n
  induction n with
  | zero =>
    intro _ _ _ _ _ _ hf _ _
    exact nomatch (show (none : Option (Ob)) = some _ from hf)
  | succ n ih =>
    intro x1 ST res H locs ls hf hW hl
    rw [f10_advance_5] at hf
    refine lv_iload_n hC.1 hC.2.1 dX10_advance_5 rfl (lv_at hl 1 rfl) ?_
    refine lv_aload_n hC.1 hC.2.1 dX10_advance_6 rfl (lv_at hl 0 rfl) ?_
    refine g_get hC hW hin10_advance_10 0 rfl rfl 2 (by decide) 2 rfl rfl dX10_advance_7 ?_
    refine lv_icmp_ge (tgt := 41) hC.1 hC.2.1 dX10_advance_10 (by decide) (fun hc_1 => ?_) (fun hc_1 => ?_)
    · have hf := ite_t hf hc_1
      exact t10_advance_41 hC  _ _ _ _ _ _ hf hW (lv_sub hl [0, 1] rfl)
    · have hf := ite_f hf hc_1
      refine lv_aload_n hC.1 hC.2.1 dX10_advance_13 rfl (lv_at hl 0 rfl) ?_
      refine g_get hC hW hin10_advance_10 0 rfl rfl 0 (by decide) 3 rfl rfl dX10_advance_14 ?_
      refine lv_iload_n hC.1 hC.2.1 dX10_advance_17 rfl (lv_at hl 1 rfl) ?_
      obtain ⟨hi_2, hf⟩ := ck_of hf
      refine g_bald hC hW 1 rfl hi_2 dX10_advance_18 ?_
      refine lv_bipush (v := 10) hC.1 hC.2.1 dX10_advance_19 (by decide) ?_
      refine lv_icmp_eq (tgt := 35) hC.1 hC.2.1 dX10_advance_21 (by decide) (fun hc_3 => ?_) (fun hc_3 => ?_)
      · have hf := ite_t hf hc_3
        exact t10_advance_35 hC ih  _ _ _ _ _ _ hf hW (lv_sub hl [0, 1] rfl)
      · have hf := ite_f hf hc_3
        refine lv_aload_n hC.1 hC.2.1 dX10_advance_24 rfl (lv_at hl 0 rfl) ?_
        refine g_get hC hW hin10_advance_10 0 rfl rfl 0 (by decide) 3 rfl rfl dX10_advance_25 ?_
        refine lv_iload_n hC.1 hC.2.1 dX10_advance_28 rfl (lv_at hl 1 rfl) ?_
        obtain ⟨hi_4, hf⟩ := ck_of hf
        refine g_bald hC hW 1 rfl hi_4 dX10_advance_29 ?_
        refine lv_bipush (v := 32) hC.1 hC.2.1 dX10_advance_30 (by decide) ?_
        refine lv_icmp_ne (tgt := 41) hC.1 hC.2.1 dX10_advance_32 (by decide) (fun hc_5 => ?_) (fun hc_5 => ?_)
        · have hf := ite_f hf hc_5
          exact t10_advance_41 hC  _ _ _ _ _ _ hf hW (lv_sub hl [0, 1] rfl)
        · have hf := ite_t hf hc_5
          exact t10_advance_35 hC ih  _ _ _ _ _ _ hf hW (lv_sub hl [0, 1] rfl)
set_option maxRecDepth 100000 in
set_option maxHeartbeats 4000000 in
theorem t10_advance_0 (hC : Cx p s m args meth c cX10_advance 2 wsX10_advance RX10 none) : ∀ (ST : Ob) (res : Ob) (H : Heap) (locs : List Loc) (ls : Array Slot), f10_advance ST = some res → GW D cy ad (w10 cy aT ST) A s H locs → lv_has ls 2 [(0, .ref (aT 0))] → W p l e rm10_advance s m args below meth c H locs 0 0 (MQ below (QV D cy (w10 cy aT res) A) args s 0 0 A) (F0 m 0 ls []) := by
  intro ST res H locs ls hf hW hl
  unfold f10_advance at hf
  refine lv_aload_n hC.1 hC.2.1 dX10_advance_0 rfl (lv_at hl 0 rfl) ?_
  refine g_get hC hW hin10_advance_10 0 rfl rfl 5 (by decide) 1 rfl rfl dX10_advance_1 ?_
  refine lv_topi (fun x1_1 ex1_1 => ?_)
  have hf := lt_nm hf ex1_1
  refine lv_istore_n (lv' := [(1, .int x1_1), (0, .ref (aT 0))]) hC.1 hC.2.1 dX10_advance_4 rfl hl (by decide) rfl (fun ls hl => ?_)
  exact t10_advance_5 hC _ _ _ _ _ _ _ hf hW (lv_sub hl [1, 0] rfl)
set_option maxRecDepth 100000 in
set_option maxHeartbeats 4000000 in
theorem c10_advance (l : Launch) (D : va_G) (cy : Nat → ClassId) (ad : Nat → Nat) (aT : Nat → Nat) {ST : Ob} {res : Ob} (h : f10_advance ST = some res) : GCv l yX10_advance wsX10_advance rm10_advance [.ref (aT 0)] D cy ad (w10 cy aT ST) (w10 cy aT res) := fun sz => GC.start (own := RX10) (Qc := fun A => QV D cy (w10 cy aT res) A) sz (by decide) rfl rfl (Nat.le_of_ble_eq_true rfl) (fun p e s m below meth c A ls hC hW hl => t10_advance_0 hC _ _ _ _ _ h hW (lv_sub hl [0] rfl))
abbrev rm10_begin : Room := { frames := 5, cells := 0, slots := 0, locals := 117 }
theorem hdV10_begin : yX10_begin.cls = RX10 ∧ (yX10_begin.cls ≠ "java/lang/invoke/MethodHandle" ∧ yX10_begin.cls ≠ "java/lang/invoke/VarHandle" ∧ (parseMethodDescriptor yX10_begin.desc).map (fun d => d.parameters.length) = some 0) := by decide +kernel
theorem hin10_begin_10 : ∀ x ∈ u_ws RX10 TX10 8, x ∈ wsX10_begin := fun _ h => List.mem_cons_of_mem _ (List.mem_append_right _ h)
set_option maxRecDepth 100000 in
set_option maxHeartbeats 4000000 in
theorem t10_begin_0 (hC : Cx p s m args meth c cX10_begin 1 wsX10_begin RX10 none) : ∀ (ST : Ob) (res : Ob) (H : Heap) (locs : List Loc) (ls : Array Slot), f10_begin ST = some res → GW D cy ad (w10 cy aT ST) A s H locs → lv_has ls 1 [(0, .ref (aT 0))] → W p l e rm10_begin s m args below meth c H locs 0 0 (MQ below (QV D cy (w10 cy aT res) A) args s 0 0 A) (F0 m 0 ls []) := by
  intro ST res H locs ls hf hW hl
  unfold f10_begin at hf
  refine lv_aload_n hC.1 hC.2.1 dX10_begin_0 rfl (lv_at hl 0 rfl) ?_
  refine lv_iconst (v := 0) hC.1 hC.2.1 dX10_begin_1 (by decide) ?_
  obtain ⟨ST_1, eST_1⟩ : ∃ y : Ob, y = oI ST 5 0 := ⟨_, rfl⟩
  have hf := lt_nm hf eST_1
  refine g_put hC hW hin10_begin_10 tyX10 tyX10_ok nmX10 0 rfl rfl 5 (by decide) 1 rfl rfl rfl rfl (Nat.le_of_ble_eq_true rfl) (w' := w10 cy aT ST_1) (by rw [eST_1]; rfl) dX10_begin_2 (fun H locs hW => ?_)
  refine lv_aload_n hC.1 hC.2.1 dX10_begin_5 rfl (lv_at hl 0 rfl) ?_
  obtain ⟨r_2, hg_3, hf⟩ := bd_of hf
  refine g_callvV (w' := w10 cy aT r_2) hC hW (c10_advance l D cy ad aT hg_3) (cwV 0 hC.2.2.2.2.1 gX10_begin_X10_advance rfl rfl rfl hdV10_advance ⟨Nat.le_of_ble_eq_true rfl, Nat.le_of_ble_eq_true rfl⟩) (Sub.all _ _) 0 9 rfl rfl rfl rfl hl.1 rfl (Nat.le_of_ble_eq_true rfl) dX10_begin_6 ⟨Nat.zero_le _, Nat.zero_le _⟩ (fun H locs hW => ?_)
  obtain rfl := Option.some.inj hf
  exact g_vret hC hW dX10_begin_9
set_option maxRecDepth 100000 in
set_option maxHeartbeats 4000000 in
theorem c10_begin (l : Launch) (D : va_G) (cy : Nat → ClassId) (ad : Nat → Nat) (aT : Nat → Nat) {ST : Ob} {res : Ob} (h : f10_begin ST = some res) : GCv l yX10_begin wsX10_begin rm10_begin [.ref (aT 0)] D cy ad (w10 cy aT ST) (w10 cy aT res) := fun sz => GC.start (own := RX10) (Qc := fun A => QV D cy (w10 cy aT res) A) sz (by decide) rfl rfl (Nat.le_of_ble_eq_true rfl) (fun p e s m below meth c A ls hC hW hl => t10_begin_0 hC _ _ _ _ _ h hW (lv_sub hl [0] rfl))
abbrev rm10_isName : Room := { frames := 0, cells := 0, slots := 0, locals := 0 }
theorem hdV10_isName : yX10_isName.cls = RX10 ∧ (yX10_isName.cls ≠ "java/lang/invoke/MethodHandle" ∧ yX10_isName.cls ≠ "java/lang/invoke/VarHandle" ∧ (parseMethodDescriptor yX10_isName.desc).map (fun d => d.parameters.length) = some 0) := by decide +kernel
theorem hin10_isName_10 : ∀ x ∈ u_ws RX10 TX10 8, x ∈ wsX10_isName := fun _ h => List.mem_cons_of_mem _ (List.mem_append_right _ h)
set_option maxRecDepth 100000 in
set_option maxHeartbeats 4000000 in
theorem t10_isName_23 (hC : Cx p s m args meth c cX10_isName 1 wsX10_isName RX10 (some .boolean)) : ∀ (z0 : Int32) (ST : Ob) (res : Int32) (H : Heap) (locs : List Loc) (ls : Array Slot), f10_isName_23 z0 ST = some res → GW D cy ad (w10 cy aT ST) A s H locs → lv_has ls 1 [] → W p l e rm10_isName s m args below meth c H locs 0 0 (MQ below (QI D cy (w10 cy aT ST) A res) args s 0 0 A) (F0 m 23 ls [.int z0]) := by
  intro z0 ST res H locs ls hf hW hl
  unfold f10_isName_23 at hf
  obtain ⟨hz, hf⟩ := ck_of hf
  obtain rfl := Option.some.inj hf
  exact g_zret hC hW hz dX10_isName_23
set_option maxRecDepth 100000 in
set_option maxHeartbeats 4000000 in
theorem t10_isName_22 (hC : Cx p s m args meth c cX10_isName 1 wsX10_isName RX10 (some .boolean)) : ∀ (ST : Ob) (res : Int32) (H : Heap) (locs : List Loc) (ls : Array Slot), f10_isName_22 ST = some res → GW D cy ad (w10 cy aT ST) A s H locs → lv_has ls 1 [] → W p l e rm10_isName s m args below meth c H locs 0 0 (MQ below (QI D cy (w10 cy aT ST) A res) args s 0 0 A) (F0 m 22 ls []) := by
  intro ST res H locs ls hf hW hl
  unfold f10_isName_22 at hf
  refine lv_iconst (v := 0) hC.1 hC.2.1 dX10_isName_22 (by decide) ?_
  exact t10_isName_23 hC  _ _ _ _ _ _ hf hW (lv_sub hl [] rfl)
set_option maxRecDepth 100000 in
set_option maxHeartbeats 4000000 in
theorem t10_isName_0 (hC : Cx p s m args meth c cX10_isName 1 wsX10_isName RX10 (some .boolean)) : ∀ (ST : Ob) (res : Int32) (H : Heap) (locs : List Loc) (ls : Array Slot), f10_isName ST = some res → GW D cy ad (w10 cy aT ST) A s H locs → lv_has ls 1 [(0, .ref (aT 0))] → W p l e rm10_isName s m args below meth c H locs 0 0 (MQ below (QI D cy (w10 cy aT ST) A res) args s 0 0 A) (F0 m 0 ls []) := by
  intro ST res H locs ls hf hW hl
  unfold f10_isName at hf
  refine lv_aload_n hC.1 hC.2.1 dX10_isName_0 rfl (lv_at hl 0 rfl) ?_
  refine g_get hC hW hin10_isName_10 0 rfl rfl 3 (by decide) 1 rfl rfl dX10_isName_1 ?_
  refine lv_bipush (v := 29) hC.1 hC.2.1 dX10_isName_4 (by decide) ?_
  refine lv_icmp_lt (tgt := 22) hC.1 hC.2.1 dX10_isName_6 (by decide) (fun hc_1 => ?_) (fun hc_1 => ?_)
  · have hf := ite_t hf hc_1
    exact t10_isName_22 hC  _ _ _ _ _ hf hW (lv_sub hl [] rfl)
  · have hf := ite_f hf hc_1
    refine lv_aload_n hC.1 hC.2.1 dX10_isName_9 rfl (lv_at hl 0 rfl) ?_
    refine g_get hC hW hin10_isName_10 0 rfl rfl 3 (by decide) 1 rfl rfl dX10_isName_10 ?_
    refine lv_bipush (v := 32) hC.1 hC.2.1 dX10_isName_13 (by decide) ?_
    refine lv_icmp_gt (tgt := 22) hC.1 hC.2.1 dX10_isName_15 (by decide) (fun hc_2 => ?_) (fun hc_2 => ?_)
    · have hf := ite_t hf hc_2
      exact t10_isName_22 hC  _ _ _ _ _ hf hW (lv_sub hl [] rfl)
    · have hf := ite_f hf hc_2
      refine lv_iconst (v := 1) hC.1 hC.2.1 dX10_isName_18 (by decide) ?_
      refine lv_goto (tgt := 23) hC.1 hC.2.1 dX10_isName_19 (by decide) ?_
      exact t10_isName_23 hC  _ _ _ _ _ _ hf hW (lv_sub hl [] rfl)
set_option maxRecDepth 100000 in
set_option maxHeartbeats 4000000 in
theorem c10_isName (l : Launch) (D : va_G) (cy : Nat → ClassId) (ad : Nat → Nat) (aT : Nat → Nat) {ST : Ob} {res : Int32} (h : f10_isName ST = some res) : GCi l yX10_isName wsX10_isName rm10_isName [.ref (aT 0)] D cy ad (w10 cy aT ST) (w10 cy aT ST) res := fun sz => GC.start (own := RX10) (Qc := fun A => QI D cy (w10 cy aT ST) A res) sz (by decide) rfl rfl (Nat.le_of_ble_eq_true rfl) (fun p e s m below meth c A ls hC hW hl => t10_isName_0 hC _ _ _ _ _ h hW (lv_sub hl [0] rfl))
end
