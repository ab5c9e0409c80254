/-! laid by program: functions, walks and contracts of 12_both, 12_worthAt, 12_copies, 12_keeps, 12_isGuest, 12_bits, 12_isIn, 12_saidIn, 12_whoIn, 12_alone, 12_guest, 12_shows, 12_left, 12_leaves, 12_answerIn -/
theorem dX12_both_0 : decode cX12_both 0 = .ok (.iload_n 0, 1) := by decide +kernel
theorem dX12_both_1 : decode cX12_both 1 = .ok (.tableswitch 87 4 9 #[39, 43, 47, 51, 62, 73], 39) := by decide +kernel
theorem dX12_both_40 : decode cX12_both 40 = .ok (.iload_n 1, 1) := by decide +kernel
theorem dX12_both_41 : decode cX12_both 41 = .ok (.iload_n 2, 1) := by decide +kernel
theorem dX12_both_42 : decode cX12_both 42 = .ok (.iadd, 1) := by decide +kernel
theorem dX12_both_43 : decode cX12_both 43 = .ok (.ireturn, 1) := by decide +kernel
theorem dX12_both_44 : decode cX12_both 44 = .ok (.iload_n 1, 1) := by decide +kernel
theorem dX12_both_45 : decode cX12_both 45 = .ok (.iload_n 2, 1) := by decide +kernel
theorem dX12_both_46 : decode cX12_both 46 = .ok (.isub, 1) := by decide +kernel
theorem dX12_both_47 : decode cX12_both 47 = .ok (.ireturn, 1) := by decide +kernel
theorem dX12_both_48 : decode cX12_both 48 = .ok (.iload_n 1, 1) := by decide +kernel
theorem dX12_both_49 : decode cX12_both 49 = .ok (.iload_n 2, 1) := by decide +kernel
theorem dX12_both_50 : decode cX12_both 50 = .ok (.imul, 1) := by decide +kernel
theorem dX12_both_51 : decode cX12_both 51 = .ok (.ireturn, 1) := by decide +kernel
theorem dX12_both_52 : decode cX12_both 52 = .ok (.iload_n 1, 1) := by decide +kernel
theorem dX12_both_53 : decode cX12_both 53 = .ok (.iload_n 2, 1) := by decide +kernel
theorem dX12_both_54 : decode cX12_both 54 = .ok (.if_icmp .ge 7, 3) := by decide +kernel
theorem dX12_both_57 : decode cX12_both 57 = .ok (.iconst 1, 1) := by decide +kernel
theorem dX12_both_58 : decode cX12_both 58 = .ok (.goto 4, 3) := by decide +kernel
theorem dX12_both_61 : decode cX12_both 61 = .ok (.iconst 0, 1) := by decide +kernel
theorem dX12_both_62 : decode cX12_both 62 = .ok (.ireturn, 1) := by decide +kernel
theorem dX12_both_63 : decode cX12_both 63 = .ok (.iload_n 1, 1) := by decide +kernel
theorem dX12_both_64 : decode cX12_both 64 = .ok (.iload_n 2, 1) := by decide +kernel
theorem dX12_both_65 : decode cX12_both 65 = .ok (.if_icmp .ne 7, 3) := by decide +kernel
theorem dX12_both_68 : decode cX12_both 68 = .ok (.iconst 1, 1) := by decide +kernel
theorem dX12_both_69 : decode cX12_both 69 = .ok (.goto 4, 3) := by decide +kernel
theorem dX12_both_72 : decode cX12_both 72 = .ok (.iconst 0, 1) := by decide +kernel
theorem dX12_both_73 : decode cX12_both 73 = .ok (.ireturn, 1) := by decide +kernel
theorem dX12_both_74 : decode cX12_both 74 = .ok (.iload_n 1, 1) := by decide +kernel
theorem dX12_both_75 : decode cX12_both 75 = .ok (.ifCond .eq 11, 3) := by decide +kernel
theorem dX12_both_78 : decode cX12_both 78 = .ok (.iload_n 2, 1) := by decide +kernel
theorem dX12_both_79 : decode cX12_both 79 = .ok (.ifCond .eq 7, 3) := by decide +kernel
theorem dX12_both_82 : decode cX12_both 82 = .ok (.iconst 1, 1) := by decide +kernel
theorem dX12_both_83 : decode cX12_both 83 = .ok (.goto 4, 3) := by decide +kernel
theorem dX12_both_86 : decode cX12_both 86 = .ok (.iconst 0, 1) := by decide +kernel
theorem dX12_both_87 : decode cX12_both 87 = .ok (.ireturn, 1) := by decide +kernel
theorem dX12_both_88 : decode cX12_both 88 = .ok (.iload_n 1, 1) := by decide +kernel
theorem dX12_both_89 : decode cX12_both 89 = .ok (.ifCond .ne 7, 3) := by decide +kernel
theorem dX12_both_92 : decode cX12_both 92 = .ok (.iload_n 2, 1) := by decide +kernel
theorem dX12_both_93 : decode cX12_both 93 = .ok (.ifCond .eq 7, 3) := by decide +kernel
theorem dX12_both_96 : decode cX12_both 96 = .ok (.iconst 1, 1) := by decide +kernel
theorem dX12_both_97 : decode cX12_both 97 = .ok (.goto 4, 3) := by decide +kernel
theorem dX12_both_100 : decode cX12_both 100 = .ok (.iconst 0, 1) := by decide +kernel
theorem dX12_both_101 : decode cX12_both 101 = .ok (.ireturn, 1) := by decide +kernel
set_option maxRecDepth 20000 in
theorem gX12_worthAt_X12_both : GoodIn wsX12_worthAt (va_wsS RX12 325 yX12_both wsX12_both) := goodIn_r _ [5, 6, 7, 8] rfl (by decide +kernel)
theorem dX12_worthAt_0 : decode cX12_worthAt 0 = .ok (.iconst 0, 1) := by decide +kernel
theorem dX12_worthAt_1 : decode cX12_worthAt 1 = .ok (.istore_n 2, 1) := by decide +kernel
theorem dX12_worthAt_2 : decode cX12_worthAt 2 = .ok (.iload_n 1, 1) := by decide +kernel
theorem dX12_worthAt_3 : decode cX12_worthAt 3 = .ok (.istore_n 3, 1) := by decide +kernel
theorem dX12_worthAt_4 : decode cX12_worthAt 4 = .ok (.aload_n 0, 1) := by decide +kernel
theorem dX12_worthAt_5 : decode cX12_worthAt 5 = .ok (.getfield 104, 3) := by decide +kernel
theorem dX12_worthAt_8 : decode cX12_worthAt 8 = .ok (.iload_n 3, 1) := by decide +kernel
theorem dX12_worthAt_9 : decode cX12_worthAt 9 = .ok (.iaload, 1) := by decide +kernel
theorem dX12_worthAt_10 : decode cX12_worthAt 10 = .ok (.ifCond .eq 130, 3) := by decide +kernel
theorem dX12_worthAt_13 : decode cX12_worthAt 13 = .ok (.aload_n 0, 1) := by decide +kernel
theorem dX12_worthAt_14 : decode cX12_worthAt 14 = .ok (.getfield 104, 3) := by decide +kernel
theorem dX12_worthAt_17 : decode cX12_worthAt 17 = .ok (.iload_n 3, 1) := by decide +kernel
theorem dX12_worthAt_18 : decode cX12_worthAt 18 = .ok (.iaload, 1) := by decide +kernel
theorem dX12_worthAt_19 : decode cX12_worthAt 19 = .ok (.istore 4, 2) := by decide +kernel
theorem dX12_worthAt_21 : decode cX12_worthAt 21 = .ok (.iload 4, 2) := by decide +kernel
theorem dX12_worthAt_23 : decode cX12_worthAt 23 = .ok (.iconst 1, 1) := by decide +kernel
theorem dX12_worthAt_24 : decode cX12_worthAt 24 = .ok (.if_icmp .eq 9, 3) := by decide +kernel
theorem dX12_worthAt_27 : decode cX12_worthAt 27 = .ok (.iload 4, 2) := by decide +kernel
theorem dX12_worthAt_29 : decode cX12_worthAt 29 = .ok (.iconst 2, 1) := by decide +kernel
theorem dX12_worthAt_30 : decode cX12_worthAt 30 = .ok (.if_icmp .ne 41, 3) := by decide +kernel
theorem dX12_worthAt_33 : decode cX12_worthAt 33 = .ok (.aload_n 0, 1) := by decide +kernel
theorem dX12_worthAt_34 : decode cX12_worthAt 34 = .ok (.getfield 128, 3) := by decide +kernel
theorem dX12_worthAt_37 : decode cX12_worthAt 37 = .ok (.iload_n 2, 1) := by decide +kernel
theorem dX12_worthAt_38 : decode cX12_worthAt 38 = .ok (.iload 4, 2) := by decide +kernel
theorem dX12_worthAt_40 : decode cX12_worthAt 40 = .ok (.iconst 1, 1) := by decide +kernel
theorem dX12_worthAt_41 : decode cX12_worthAt 41 = .ok (.if_icmp .ne 12, 3) := by decide +kernel
theorem dX12_worthAt_44 : decode cX12_worthAt 44 = .ok (.aload_n 0, 1) := by decide +kernel
theorem dX12_worthAt_45 : decode cX12_worthAt 45 = .ok (.getfield 107, 3) := by decide +kernel
theorem dX12_worthAt_48 : decode cX12_worthAt 48 = .ok (.iload_n 3, 1) := by decide +kernel
theorem dX12_worthAt_49 : decode cX12_worthAt 49 = .ok (.iaload, 1) := by decide +kernel
theorem dX12_worthAt_50 : decode cX12_worthAt 50 = .ok (.goto 14, 3) := by decide +kernel
theorem dX12_worthAt_53 : decode cX12_worthAt 53 = .ok (.aload_n 0, 1) := by decide +kernel
theorem dX12_worthAt_54 : decode cX12_worthAt 54 = .ok (.getfield 125, 3) := by decide +kernel
theorem dX12_worthAt_57 : decode cX12_worthAt 57 = .ok (.aload_n 0, 1) := by decide +kernel
theorem dX12_worthAt_58 : decode cX12_worthAt 58 = .ok (.getfield 107, 3) := by decide +kernel
theorem dX12_worthAt_61 : decode cX12_worthAt 61 = .ok (.iload_n 3, 1) := by decide +kernel
theorem dX12_worthAt_62 : decode cX12_worthAt 62 = .ok (.iaload, 1) := by decide +kernel
theorem dX12_worthAt_63 : decode cX12_worthAt 63 = .ok (.iaload, 1) := by decide +kernel
theorem dX12_worthAt_64 : decode cX12_worthAt 64 = .ok (.iastore, 1) := by decide +kernel
theorem dX12_worthAt_65 : decode cX12_worthAt 65 = .ok (.iinc 2 1, 3) := by decide +kernel
theorem dX12_worthAt_68 : decode cX12_worthAt 68 = .ok (.goto 66, 3) := by decide +kernel
theorem dX12_worthAt_71 : decode cX12_worthAt 71 = .ok (.iload 4, 2) := by decide +kernel
theorem dX12_worthAt_73 : decode cX12_worthAt 73 = .ok (.iconst 3, 1) := by decide +kernel
theorem dX12_worthAt_74 : decode cX12_worthAt 74 = .ok (.if_icmp .ne 30, 3) := by decide +kernel
theorem dX12_worthAt_77 : decode cX12_worthAt 77 = .ok (.aload_n 0, 1) := by decide +kernel
theorem dX12_worthAt_78 : decode cX12_worthAt 78 = .ok (.getfield 128, 3) := by decide +kernel
theorem dX12_worthAt_81 : decode cX12_worthAt 81 = .ok (.iload_n 2, 1) := by decide +kernel
theorem dX12_worthAt_82 : decode cX12_worthAt 82 = .ok (.iconst 1, 1) := by decide +kernel
theorem dX12_worthAt_83 : decode cX12_worthAt 83 = .ok (.isub, 1) := by decide +kernel
theorem dX12_worthAt_84 : decode cX12_worthAt 84 = .ok (.aload_n 0, 1) := by decide +kernel
theorem dX12_worthAt_85 : decode cX12_worthAt 85 = .ok (.getfield 128, 3) := by decide +kernel
theorem dX12_worthAt_88 : decode cX12_worthAt 88 = .ok (.iload_n 2, 1) := by decide +kernel
theorem dX12_worthAt_89 : decode cX12_worthAt 89 = .ok (.iconst 1, 1) := by decide +kernel
theorem dX12_worthAt_90 : decode cX12_worthAt 90 = .ok (.isub, 1) := by decide +kernel
theorem dX12_worthAt_91 : decode cX12_worthAt 91 = .ok (.iaload, 1) := by decide +kernel
theorem dX12_worthAt_92 : decode cX12_worthAt 92 = .ok (.ifCond .ne 7, 3) := by decide +kernel
theorem dX12_worthAt_95 : decode cX12_worthAt 95 = .ok (.iconst 1, 1) := by decide +kernel
theorem dX12_worthAt_96 : decode cX12_worthAt 96 = .ok (.goto 4, 3) := by decide +kernel
theorem dX12_worthAt_99 : decode cX12_worthAt 99 = .ok (.iconst 0, 1) := by decide +kernel
theorem dX12_worthAt_100 : decode cX12_worthAt 100 = .ok (.iastore, 1) := by decide +kernel
theorem dX12_worthAt_101 : decode cX12_worthAt 101 = .ok (.goto 33, 3) := by decide +kernel
theorem dX12_worthAt_104 : decode cX12_worthAt 104 = .ok (.iinc 2 (-1), 3) := by decide +kernel
theorem dX12_worthAt_107 : decode cX12_worthAt 107 = .ok (.aload_n 0, 1) := by decide +kernel
theorem dX12_worthAt_108 : decode cX12_worthAt 108 = .ok (.getfield 128, 3) := by decide +kernel
theorem dX12_worthAt_111 : decode cX12_worthAt 111 = .ok (.iload_n 2, 1) := by decide +kernel
theorem dX12_worthAt_112 : decode cX12_worthAt 112 = .ok (.iconst 1, 1) := by decide +kernel
theorem dX12_worthAt_113 : decode cX12_worthAt 113 = .ok (.isub, 1) := by decide +kernel
theorem dX12_worthAt_114 : decode cX12_worthAt 114 = .ok (.iload 4, 2) := by decide +kernel
theorem dX12_worthAt_116 : decode cX12_worthAt 116 = .ok (.aload_n 0, 1) := by decide +kernel
theorem dX12_worthAt_117 : decode cX12_worthAt 117 = .ok (.getfield 128, 3) := by decide +kernel
theorem dX12_worthAt_120 : decode cX12_worthAt 120 = .ok (.iload_n 2, 1) := by decide +kernel
theorem dX12_worthAt_121 : decode cX12_worthAt 121 = .ok (.iconst 1, 1) := by decide +kernel
theorem dX12_worthAt_122 : decode cX12_worthAt 122 = .ok (.isub, 1) := by decide +kernel
theorem dX12_worthAt_123 : decode cX12_worthAt 123 = .ok (.iaload, 1) := by decide +kernel
theorem dX12_worthAt_124 : decode cX12_worthAt 124 = .ok (.aload_n 0, 1) := by decide +kernel
theorem dX12_worthAt_125 : decode cX12_worthAt 125 = .ok (.getfield 128, 3) := by decide +kernel
theorem dX12_worthAt_128 : decode cX12_worthAt 128 = .ok (.iload_n 2, 1) := by decide +kernel
theorem dX12_worthAt_129 : decode cX12_worthAt 129 = .ok (.iaload, 1) := by decide +kernel
theorem dX12_worthAt_130 : decode cX12_worthAt 130 = .ok (.invokestatic 325, 3) := by decide +kernel
theorem dX12_worthAt_133 : decode cX12_worthAt 133 = .ok (.iastore, 1) := by decide +kernel
theorem dX12_worthAt_134 : decode cX12_worthAt 134 = .ok (.iinc 3 1, 3) := by decide +kernel
theorem dX12_worthAt_137 : decode cX12_worthAt 137 = .ok (.goto (-133), 3) := by decide +kernel
theorem dX12_worthAt_140 : decode cX12_worthAt 140 = .ok (.aload_n 0, 1) := by decide +kernel
theorem dX12_worthAt_141 : decode cX12_worthAt 141 = .ok (.getfield 128, 3) := by decide +kernel
theorem dX12_worthAt_144 : decode cX12_worthAt 144 = .ok (.iconst 0, 1) := by decide +kernel
theorem dX12_worthAt_145 : decode cX12_worthAt 145 = .ok (.iaload, 1) := by decide +kernel
theorem dX12_worthAt_146 : decode cX12_worthAt 146 = .ok (.ireturn, 1) := by decide +kernel
theorem dX12_copies_0 : decode cX12_copies 0 = .ok (.iconst 0, 1) := by decide +kernel
theorem dX12_copies_1 : decode cX12_copies 1 = .ok (.istore 4, 2) := by decide +kernel
theorem dX12_copies_3 : decode cX12_copies 3 = .ok (.iload 4, 2) := by decide +kernel
theorem dX12_copies_5 : decode cX12_copies 5 = .ok (.iload_n 3, 1) := by decide +kernel
theorem dX12_copies_6 : decode cX12_copies 6 = .ok (.if_icmp .ge 27, 3) := by decide +kernel
theorem dX12_copies_9 : decode cX12_copies 9 = .ok (.aload_n 0, 1) := by decide +kernel
theorem dX12_copies_10 : decode cX12_copies 10 = .ok (.getfield 131, 3) := by decide +kernel
theorem dX12_copies_13 : decode cX12_copies 13 = .ok (.iload_n 2, 1) := by decide +kernel
theorem dX12_copies_14 : decode cX12_copies 14 = .ok (.iload 4, 2) := by decide +kernel
theorem dX12_copies_16 : decode cX12_copies 16 = .ok (.iadd, 1) := by decide +kernel
theorem dX12_copies_17 : decode cX12_copies 17 = .ok (.aload_n 0, 1) := by decide +kernel
theorem dX12_copies_18 : decode cX12_copies 18 = .ok (.getfield 131, 3) := by decide +kernel
theorem dX12_copies_21 : decode cX12_copies 21 = .ok (.iload_n 1, 1) := by decide +kernel
theorem dX12_copies_22 : decode cX12_copies 22 = .ok (.iload 4, 2) := by decide +kernel
theorem dX12_copies_24 : decode cX12_copies 24 = .ok (.iadd, 1) := by decide +kernel
theorem dX12_copies_25 : decode cX12_copies 25 = .ok (.iaload, 1) := by decide +kernel
theorem dX12_copies_26 : decode cX12_copies 26 = .ok (.iastore, 1) := by decide +kernel
theorem dX12_copies_27 : decode cX12_copies 27 = .ok (.iinc 4 1, 3) := by decide +kernel
theorem dX12_copies_30 : decode cX12_copies 30 = .ok (.goto (-27), 3) := by decide +kernel
theorem dX12_copies_33 : decode cX12_copies 33 = .ok (.return_, 1) := by decide +kernel
set_option maxRecDepth 20000 in
theorem gX12_keeps_X12_copies : GoodIn wsX12_keeps (wsV RX12 349 RX12 yX12_copies wsX12_copies) := goodIn_r _ [2, 3, 4, 5, 6, 7, 8, 9, 10, 11, 12, 13, 14, 15, 16, 17, 18, 19, 20, 21, 22, 23, 24, 25, 26, 27, 28, 29, 30, 31, 32, 33, 34, 35, 36, 37, 38, 39, 40, 41, 42, 43, 44, 45, 46] rfl (by decide +kernel)
theorem dX12_keeps_0 : decode cX12_keeps 0 = .ok (.aload_n 0, 1) := by decide +kernel
theorem dX12_keeps_1 : decode cX12_keeps 1 = .ok (.getfield 346, 3) := by decide +kernel
theorem dX12_keeps_4 : decode cX12_keeps 4 = .ok (.bipush 16, 2) := by decide +kernel
theorem dX12_keeps_6 : decode cX12_keeps 6 = .ok (.if_icmp .ne 47, 3) := by decide +kernel
theorem dX12_keeps_9 : decode cX12_keeps 9 = .ok (.iconst 1, 1) := by decide +kernel
theorem dX12_keeps_10 : decode cX12_keeps 10 = .ok (.istore_n 1, 1) := by decide +kernel
theorem dX12_keeps_11 : decode cX12_keeps 11 = .ok (.iload_n 1, 1) := by decide +kernel
theorem dX12_keeps_12 : decode cX12_keeps 12 = .ok (.bipush 16, 2) := by decide +kernel
theorem dX12_keeps_14 : decode cX12_keeps 14 = .ok (.if_icmp .ge 29, 3) := by decide +kernel
theorem dX12_keeps_17 : decode cX12_keeps 17 = .ok (.aload_n 0, 1) := by decide +kernel
theorem dX12_keeps_18 : decode cX12_keeps 18 = .ok (.bipush 30, 2) := by decide +kernel
theorem dX12_keeps_20 : decode cX12_keeps 20 = .ok (.iconst 5, 1) := by decide +kernel
theorem dX12_keeps_21 : decode cX12_keeps 21 = .ok (.iload_n 1, 1) := by decide +kernel
theorem dX12_keeps_22 : decode cX12_keeps 22 = .ok (.iadd, 1) := by decide +kernel
theorem dX12_keeps_23 : decode cX12_keeps 23 = .ok (.imul, 1) := by decide +kernel
theorem dX12_keeps_24 : decode cX12_keeps 24 = .ok (.bipush 30, 2) := by decide +kernel
theorem dX12_keeps_26 : decode cX12_keeps 26 = .ok (.iconst 5, 1) := by decide +kernel
theorem dX12_keeps_27 : decode cX12_keeps 27 = .ok (.iload_n 1, 1) := by decide +kernel
theorem dX12_keeps_28 : decode cX12_keeps 28 = .ok (.iadd, 1) := by decide +kernel
theorem dX12_keeps_29 : decode cX12_keeps 29 = .ok (.iconst 1, 1) := by decide +kernel
theorem dX12_keeps_30 : decode cX12_keeps 30 = .ok (.isub, 1) := by decide +kernel
theorem dX12_keeps_31 : decode cX12_keeps 31 = .ok (.imul, 1) := by decide +kernel
theorem dX12_keeps_32 : decode cX12_keeps 32 = .ok (.bipush 12, 2) := by decide +kernel
theorem dX12_keeps_34 : decode cX12_keeps 34 = .ok (.invokevirtual 349, 3) := by decide +kernel
theorem dX12_keeps_37 : decode cX12_keeps 37 = .ok (.iinc 1 1, 3) := by decide +kernel
theorem dX12_keeps_40 : decode cX12_keeps 40 = .ok (.goto (-29), 3) := by decide +kernel
theorem dX12_keeps_43 : decode cX12_keeps 43 = .ok (.aload_n 0, 1) := by decide +kernel
theorem dX12_keeps_44 : decode cX12_keeps 44 = .ok (.dup, 1) := by decide +kernel
theorem dX12_keeps_45 : decode cX12_keeps 45 = .ok (.getfield 346, 3) := by decide +kernel
theorem dX12_keeps_48 : decode cX12_keeps 48 = .ok (.iconst 1, 1) := by decide +kernel
theorem dX12_keeps_49 : decode cX12_keeps 49 = .ok (.isub, 1) := by decide +kernel
theorem dX12_keeps_50 : decode cX12_keeps 50 = .ok (.putfield 346, 3) := by decide +kernel
theorem dX12_keeps_53 : decode cX12_keeps 53 = .ok (.aload_n 0, 1) := by decide +kernel
theorem dX12_keeps_54 : decode cX12_keeps 54 = .ok (.iconst 0, 1) := by decide +kernel
theorem dX12_keeps_55 : decode cX12_keeps 55 = .ok (.bipush 30, 2) := by decide +kernel
theorem dX12_keeps_57 : decode cX12_keeps 57 = .ok (.iconst 5, 1) := by decide +kernel
theorem dX12_keeps_58 : decode cX12_keeps 58 = .ok (.aload_n 0, 1) := by decide +kernel
theorem dX12_keeps_59 : decode cX12_keeps 59 = .ok (.getfield 346, 3) := by decide +kernel
theorem dX12_keeps_62 : decode cX12_keeps 62 = .ok (.iadd, 1) := by decide +kernel
theorem dX12_keeps_63 : decode cX12_keeps 63 = .ok (.imul, 1) := by decide +kernel
theorem dX12_keeps_64 : decode cX12_keeps 64 = .ok (.bipush 12, 2) := by decide +kernel
theorem dX12_keeps_66 : decode cX12_keeps 66 = .ok (.invokevirtual 349, 3) := by decide +kernel
theorem dX12_keeps_69 : decode cX12_keeps 69 = .ok (.aload_n 0, 1) := by decide +kernel
theorem dX12_keeps_70 : decode cX12_keeps 70 = .ok (.dup, 1) := by decide +kernel
theorem dX12_keeps_71 : decode cX12_keeps 71 = .ok (.getfield 346, 3) := by decide +kernel
theorem dX12_keeps_74 : decode cX12_keeps 74 = .ok (.iconst 1, 1) := by decide +kernel
theorem dX12_keeps_75 : decode cX12_keeps 75 = .ok (.iadd, 1) := by decide +kernel
theorem dX12_keeps_76 : decode cX12_keeps 76 = .ok (.putfield 346, 3) := by decide +kernel
theorem dX12_keeps_79 : decode cX12_keeps 79 = .ok (.return_, 1) := by decide +kernel
set_option maxRecDepth 20000 in
theorem gX12_isGuest_X12_guests : GoodIn wsX12_isGuest (wsV RX12 328 RX12 yX12_guests wsX12_guests) := goodIn_r _ [1, 2, 3, 4, 5, 6, 7, 8, 9, 10, 11, 12, 13, 14, 15, 16, 17, 18, 19, 20, 21, 22, 23, 24, 25, 26, 27, 28, 29, 30, 31, 32, 33, 34, 35, 36, 37, 38, 39, 40, 41, 42, 43, 44, 45] rfl (by decide +kernel)
theorem dX12_isGuest_0 : decode cX12_isGuest 0 = .ok (.iload_n 1, 1) := by decide +kernel
theorem dX12_isGuest_1 : decode cX12_isGuest 1 = .ok (.ifCond .lt 15, 3) := by decide +kernel
theorem dX12_isGuest_4 : decode cX12_isGuest 4 = .ok (.iload_n 1, 1) := by decide +kernel
theorem dX12_isGuest_5 : decode cX12_isGuest 5 = .ok (.aload_n 0, 1) := by decide +kernel
theorem dX12_isGuest_6 : decode cX12_isGuest 6 = .ok (.invokevirtual 328, 3) := by decide +kernel
theorem dX12_isGuest_9 : decode cX12_isGuest 9 = .ok (.if_icmp .ge 7, 3) := by decide +kernel
theorem dX12_isGuest_12 : decode cX12_isGuest 12 = .ok (.iconst 1, 1) := by decide +kernel
theorem dX12_isGuest_13 : decode cX12_isGuest 13 = .ok (.goto 4, 3) := by decide +kernel
theorem dX12_isGuest_16 : decode cX12_isGuest 16 = .ok (.iconst 0, 1) := by decide +kernel
theorem dX12_isGuest_17 : decode cX12_isGuest 17 = .ok (.ireturn, 1) := by decide +kernel
theorem dX12_bits_0 : decode cX12_bits 0 = .ok (.iconst 0, 1) := by decide +kernel
theorem dX12_bits_1 : decode cX12_bits 1 = .ok (.istore_n 1, 1) := by decide +kernel
theorem dX12_bits_2 : decode cX12_bits 2 = .ok (.iconst 0, 1) := by decide +kernel
theorem dX12_bits_3 : decode cX12_bits 3 = .ok (.istore_n 2, 1) := by decide +kernel
theorem dX12_bits_4 : decode cX12_bits 4 = .ok (.iload_n 2, 1) := by decide +kernel
theorem dX12_bits_5 : decode cX12_bits 5 = .ok (.bipush 32, 2) := by decide +kernel
theorem dX12_bits_7 : decode cX12_bits 7 = .ok (.if_icmp .ge 17, 3) := by decide +kernel
theorem dX12_bits_10 : decode cX12_bits 10 = .ok (.iload_n 1, 1) := by decide +kernel
theorem dX12_bits_11 : decode cX12_bits 11 = .ok (.iload_n 0, 1) := by decide +kernel
theorem dX12_bits_12 : decode cX12_bits 12 = .ok (.iload_n 2, 1) := by decide +kernel
theorem dX12_bits_13 : decode cX12_bits 13 = .ok (.ishr, 1) := by decide +kernel
theorem dX12_bits_14 : decode cX12_bits 14 = .ok (.iconst 1, 1) := by decide +kernel
theorem dX12_bits_15 : decode cX12_bits 15 = .ok (.iand, 1) := by decide +kernel
theorem dX12_bits_16 : decode cX12_bits 16 = .ok (.iadd, 1) := by decide +kernel
theorem dX12_bits_17 : decode cX12_bits 17 = .ok (.istore_n 1, 1) := by decide +kernel
theorem dX12_bits_18 : decode cX12_bits 18 = .ok (.iinc 2 1, 3) := by decide +kernel
theorem dX12_bits_21 : decode cX12_bits 21 = .ok (.goto (-17), 3) := by decide +kernel
theorem dX12_bits_24 : decode cX12_bits 24 = .ok (.iload_n 1, 1) := by decide +kernel
theorem dX12_bits_25 : decode cX12_bits 25 = .ok (.ireturn, 1) := by decide +kernel
theorem dX12_isIn_0 : decode cX12_isIn 0 = .ok (.iload_n 0, 1) := by decide +kernel
theorem dX12_isIn_1 : decode cX12_isIn 1 = .ok (.iload_n 1, 1) := by decide +kernel
theorem dX12_isIn_2 : decode cX12_isIn 2 = .ok (.ishr, 1) := by decide +kernel
theorem dX12_isIn_3 : decode cX12_isIn 3 = .ok (.iconst 1, 1) := by decide +kernel
theorem dX12_isIn_4 : decode cX12_isIn 4 = .ok (.iand, 1) := by decide +kernel
theorem dX12_isIn_5 : decode cX12_isIn 5 = .ok (.iconst 1, 1) := by decide +kernel
theorem dX12_isIn_6 : decode cX12_isIn 6 = .ok (.if_icmp .ne 7, 3) := by decide +kernel
theorem dX12_isIn_9 : decode cX12_isIn 9 = .ok (.iconst 1, 1) := by decide +kernel
theorem dX12_isIn_10 : decode cX12_isIn 10 = .ok (.goto 4, 3) := by decide +kernel
theorem dX12_isIn_13 : decode cX12_isIn 13 = .ok (.iconst 0, 1) := by decide +kernel
theorem dX12_isIn_14 : decode cX12_isIn 14 = .ok (.ireturn, 1) := by decide +kernel
set_option maxRecDepth 20000 in
theorem gX12_saidIn_X12_guestOf : GoodIn wsX12_saidIn (wsV RX12 353 RX12 yX12_guestOf wsX12_guestOf) := goodIn_r _ [1, 2, 3, 4, 5, 6, 22, 23, 24, 25, 26, 27, 28, 29, 30, 31, 32, 33, 34, 35, 36, 37, 38, 39, 40, 41, 42, 43, 44, 45, 46, 47, 48, 49, 50, 51, 52, 53, 54, 55, 56, 57, 58, 59, 60] rfl (by decide +kernel)
set_option maxRecDepth 20000 in
theorem gX12_saidIn_X12_worldsOf : GoodIn wsX12_saidIn (va_wsS RX12 359 yX12_worldsOf wsX12_worldsOf) := goodIn_r _ [7, 8, 4, 9] rfl (by decide +kernel)
set_option maxRecDepth 20000 in
theorem gX12_saidIn_X12_everyWorld : GoodIn wsX12_saidIn (wsV RX12 334 RX12 yX12_everyWorld wsX12_everyWorld) := goodIn_r _ [10, 11, 12, 4, 13, 14, 15, 16, 4, 17, 18, 19, 20, 21, 6, 22, 23, 24, 25, 26, 27, 28, 29, 30, 31, 32, 33, 34, 35, 36, 37, 38, 39, 40, 41, 42, 43, 44, 45, 46, 47, 48, 49, 50, 51, 52, 53, 54, 55, 56, 57, 58, 59, 60] rfl (by decide +kernel)
theorem dX12_saidIn_0 : decode cX12_saidIn 0 = .ok (.aload_n 0, 1) := by decide +kernel
theorem dX12_saidIn_1 : decode cX12_saidIn 1 = .ok (.iload_n 1, 1) := by decide +kernel
theorem dX12_saidIn_2 : decode cX12_saidIn 2 = .ok (.iconst 0, 1) := by decide +kernel
theorem dX12_saidIn_3 : decode cX12_saidIn 3 = .ok (.invokevirtual 353, 3) := by decide +kernel
theorem dX12_saidIn_6 : decode cX12_saidIn 6 = .ok (.istore_n 3, 1) := by decide +kernel
theorem dX12_saidIn_7 : decode cX12_saidIn 7 = .ok (.iload_n 1, 1) := by decide +kernel
theorem dX12_saidIn_8 : decode cX12_saidIn 8 = .ok (.invokestatic 359, 3) := by decide +kernel
theorem dX12_saidIn_11 : decode cX12_saidIn 11 = .ok (.istore 4, 2) := by decide +kernel
theorem dX12_saidIn_13 : decode cX12_saidIn 13 = .ok (.iload_n 2, 1) := by decide +kernel
theorem dX12_saidIn_14 : decode cX12_saidIn 14 = .ok (.iconst (-1), 1) := by decide +kernel
theorem dX12_saidIn_15 : decode cX12_saidIn 15 = .ok (.ixor, 1) := by decide +kernel
theorem dX12_saidIn_16 : decode cX12_saidIn 16 = .ok (.aload_n 0, 1) := by decide +kernel
theorem dX12_saidIn_17 : decode cX12_saidIn 17 = .ok (.invokevirtual 334, 3) := by decide +kernel
theorem dX12_saidIn_20 : decode cX12_saidIn 20 = .ok (.iand, 1) := by decide +kernel
theorem dX12_saidIn_21 : decode cX12_saidIn 21 = .ok (.istore 5, 2) := by decide +kernel
theorem dX12_saidIn_23 : decode cX12_saidIn 23 = .ok (.iload_n 3, 1) := by decide +kernel
theorem dX12_saidIn_24 : decode cX12_saidIn 24 = .ok (.iconst 3, 1) := by decide +kernel
theorem dX12_saidIn_25 : decode cX12_saidIn 25 = .ok (.if_icmp .ne 10, 3) := by decide +kernel
theorem dX12_saidIn_28 : decode cX12_saidIn 28 = .ok (.aload_n 0, 1) := by decide +kernel
theorem dX12_saidIn_29 : decode cX12_saidIn 29 = .ok (.invokevirtual 334, 3) := by decide +kernel
theorem dX12_saidIn_32 : decode cX12_saidIn 32 = .ok (.goto 44, 3) := by decide +kernel
theorem dX12_saidIn_35 : decode cX12_saidIn 35 = .ok (.iload_n 3, 1) := by decide +kernel
theorem dX12_saidIn_36 : decode cX12_saidIn 36 = .ok (.iconst 1, 1) := by decide +kernel
theorem dX12_saidIn_37 : decode cX12_saidIn 37 = .ok (.if_icmp .ne 7, 3) := by decide +kernel
theorem dX12_saidIn_40 : decode cX12_saidIn 40 = .ok (.iload_n 2, 1) := by decide +kernel
theorem dX12_saidIn_41 : decode cX12_saidIn 41 = .ok (.goto 35, 3) := by decide +kernel
theorem dX12_saidIn_44 : decode cX12_saidIn 44 = .ok (.iload_n 3, 1) := by decide +kernel
theorem dX12_saidIn_45 : decode cX12_saidIn 45 = .ok (.iconst 2, 1) := by decide +kernel
theorem dX12_saidIn_46 : decode cX12_saidIn 46 = .ok (.if_icmp .ne 18, 3) := by decide +kernel
theorem dX12_saidIn_49 : decode cX12_saidIn 49 = .ok (.iload 5, 2) := by decide +kernel
theorem dX12_saidIn_51 : decode cX12_saidIn 51 = .ok (.iload 4, 2) := by decide +kernel
theorem dX12_saidIn_53 : decode cX12_saidIn 53 = .ok (.iconst (-1), 1) := by decide +kernel
theorem dX12_saidIn_54 : decode cX12_saidIn 54 = .ok (.ixor, 1) := by decide +kernel
theorem dX12_saidIn_55 : decode cX12_saidIn 55 = .ok (.iand, 1) := by decide +kernel
theorem dX12_saidIn_56 : decode cX12_saidIn 56 = .ok (.iload_n 2, 1) := by decide +kernel
theorem dX12_saidIn_57 : decode cX12_saidIn 57 = .ok (.iload 4, 2) := by decide +kernel
theorem dX12_saidIn_59 : decode cX12_saidIn 59 = .ok (.iand, 1) := by decide +kernel
theorem dX12_saidIn_60 : decode cX12_saidIn 60 = .ok (.ior, 1) := by decide +kernel
theorem dX12_saidIn_61 : decode cX12_saidIn 61 = .ok (.goto 15, 3) := by decide +kernel
theorem dX12_saidIn_64 : decode cX12_saidIn 64 = .ok (.iload_n 2, 1) := by decide +kernel
theorem dX12_saidIn_65 : decode cX12_saidIn 65 = .ok (.iload 4, 2) := by decide +kernel
theorem dX12_saidIn_67 : decode cX12_saidIn 67 = .ok (.iconst (-1), 1) := by decide +kernel
theorem dX12_saidIn_68 : decode cX12_saidIn 68 = .ok (.ixor, 1) := by decide +kernel
theorem dX12_saidIn_69 : decode cX12_saidIn 69 = .ok (.iand, 1) := by decide +kernel
theorem dX12_saidIn_70 : decode cX12_saidIn 70 = .ok (.iload 5, 2) := by decide +kernel
theorem dX12_saidIn_72 : decode cX12_saidIn 72 = .ok (.iload 4, 2) := by decide +kernel
theorem dX12_saidIn_74 : decode cX12_saidIn 74 = .ok (.iand, 1) := by decide +kernel
theorem dX12_saidIn_75 : decode cX12_saidIn 75 = .ok (.ior, 1) := by decide +kernel
theorem dX12_saidIn_76 : decode cX12_saidIn 76 = .ok (.ireturn, 1) := by decide +kernel
set_option maxRecDepth 20000 in
theorem gX12_whoIn_X12_guests : GoodIn wsX12_whoIn (wsV RX12 328 RX12 yX12_guests wsX12_guests) := goodIn_r _ [1, 2, 3, 4, 5, 6, 10, 11, 12, 13, 14, 15, 16, 17, 18, 19, 20, 21, 22, 23, 24, 25, 26, 27, 28, 29, 30, 31, 32, 33, 34, 35, 36, 37, 38, 39, 40, 41, 42, 43, 44, 45, 46, 47, 48] rfl (by decide +kernel)
set_option maxRecDepth 20000 in
theorem gX12_whoIn_X12_worldsOf : GoodIn wsX12_whoIn (va_wsS RX12 359 yX12_worldsOf wsX12_worldsOf) := goodIn_r _ [7, 8, 4, 9] rfl (by decide +kernel)
theorem dX12_whoIn_0 : decode cX12_whoIn 0 = .ok (.iconst 0, 1) := by decide +kernel
theorem dX12_whoIn_1 : decode cX12_whoIn 1 = .ok (.istore_n 2, 1) := by decide +kernel
theorem dX12_whoIn_2 : decode cX12_whoIn 2 = .ok (.iconst 0, 1) := by decide +kernel
theorem dX12_whoIn_3 : decode cX12_whoIn 3 = .ok (.istore_n 3, 1) := by decide +kernel
theorem dX12_whoIn_4 : decode cX12_whoIn 4 = .ok (.iload_n 3, 1) := by decide +kernel
theorem dX12_whoIn_5 : decode cX12_whoIn 5 = .ok (.aload_n 0, 1) := by decide +kernel
theorem dX12_whoIn_6 : decode cX12_whoIn 6 = .ok (.invokevirtual 328, 3) := by decide +kernel
theorem dX12_whoIn_9 : decode cX12_whoIn 9 = .ok (.if_icmp .ge 28, 3) := by decide +kernel
theorem dX12_whoIn_12 : decode cX12_whoIn 12 = .ok (.iload_n 2, 1) := by decide +kernel
theorem dX12_whoIn_13 : decode cX12_whoIn 13 = .ok (.iload_n 1, 1) := by decide +kernel
theorem dX12_whoIn_14 : decode cX12_whoIn 14 = .ok (.iload_n 3, 1) := by decide +kernel
theorem dX12_whoIn_15 : decode cX12_whoIn 15 = .ok (.invokestatic 359, 3) := by decide +kernel
theorem dX12_whoIn_18 : decode cX12_whoIn 18 = .ok (.iand, 1) := by decide +kernel
theorem dX12_whoIn_19 : decode cX12_whoIn 19 = .ok (.ifCond .eq 9, 3) := by decide +kernel
theorem dX12_whoIn_22 : decode cX12_whoIn 22 = .ok (.iconst 1, 1) := by decide +kernel
theorem dX12_whoIn_23 : decode cX12_whoIn 23 = .ok (.iload_n 3, 1) := by decide +kernel
theorem dX12_whoIn_24 : decode cX12_whoIn 24 = .ok (.ishl, 1) := by decide +kernel
theorem dX12_whoIn_25 : decode cX12_whoIn 25 = .ok (.goto 4, 3) := by decide +kernel
theorem dX12_whoIn_28 : decode cX12_whoIn 28 = .ok (.iconst 0, 1) := by decide +kernel
theorem dX12_whoIn_29 : decode cX12_whoIn 29 = .ok (.ior, 1) := by decide +kernel
theorem dX12_whoIn_30 : decode cX12_whoIn 30 = .ok (.istore_n 2, 1) := by decide +kernel
theorem dX12_whoIn_31 : decode cX12_whoIn 31 = .ok (.iinc 3 1, 3) := by decide +kernel
theorem dX12_whoIn_34 : decode cX12_whoIn 34 = .ok (.goto (-30), 3) := by decide +kernel
theorem dX12_whoIn_37 : decode cX12_whoIn 37 = .ok (.iload_n 2, 1) := by decide +kernel
theorem dX12_whoIn_38 : decode cX12_whoIn 38 = .ok (.ireturn, 1) := by decide +kernel
theorem dX12_alone_0 : decode cX12_alone 0 = .ok (.iconst (-1), 1) := by decide +kernel
theorem dX12_alone_1 : decode cX12_alone 1 = .ok (.istore_n 1, 1) := by decide +kernel
theorem dX12_alone_2 : decode cX12_alone 2 = .ok (.iconst 0, 1) := by decide +kernel
theorem dX12_alone_3 : decode cX12_alone 3 = .ok (.istore_n 2, 1) := by decide +kernel
theorem dX12_alone_4 : decode cX12_alone 4 = .ok (.iload_n 2, 1) := by decide +kernel
theorem dX12_alone_5 : decode cX12_alone 5 = .ok (.bipush 8, 2) := by decide +kernel
theorem dX12_alone_7 : decode cX12_alone 7 = .ok (.if_icmp .ge 22, 3) := by decide +kernel
theorem dX12_alone_10 : decode cX12_alone 10 = .ok (.iload_n 0, 1) := by decide +kernel
theorem dX12_alone_11 : decode cX12_alone 11 = .ok (.iconst 1, 1) := by decide +kernel
theorem dX12_alone_12 : decode cX12_alone 12 = .ok (.iload_n 2, 1) := by decide +kernel
theorem dX12_alone_13 : decode cX12_alone 13 = .ok (.ishl, 1) := by decide +kernel
theorem dX12_alone_14 : decode cX12_alone 14 = .ok (.if_icmp .ne 7, 3) := by decide +kernel
theorem dX12_alone_17 : decode cX12_alone 17 = .ok (.iload_n 2, 1) := by decide +kernel
theorem dX12_alone_18 : decode cX12_alone 18 = .ok (.goto 4, 3) := by decide +kernel
theorem dX12_alone_21 : decode cX12_alone 21 = .ok (.iload_n 1, 1) := by decide +kernel
theorem dX12_alone_22 : decode cX12_alone 22 = .ok (.istore_n 1, 1) := by decide +kernel
theorem dX12_alone_23 : decode cX12_alone 23 = .ok (.iinc 2 1, 3) := by decide +kernel
theorem dX12_alone_26 : decode cX12_alone 26 = .ok (.goto (-22), 3) := by decide +kernel
theorem dX12_alone_29 : decode cX12_alone 29 = .ok (.iload_n 1, 1) := by decide +kernel
theorem dX12_alone_30 : decode cX12_alone 30 = .ok (.ireturn, 1) := by decide +kernel
set_option maxRecDepth 20000 in
theorem gX12_guest_X12_isGuest : GoodIn wsX12_guest (wsV RX12 365 RX12 yX12_isGuest wsX12_isGuest) := goodIn_r _ [2, 3, 4, 5, 6, 7, 8, 9, 5, 10, 11, 19, 20, 21, 22, 23, 24, 25, 26, 27, 28, 29, 30, 31, 32, 33, 34, 35, 36, 37, 38, 39, 40, 41, 42, 43, 44, 45, 46, 47, 48, 49, 50, 51, 52, 53, 54, 55, 56, 57] rfl (by decide +kernel)
set_option maxRecDepth 20000 in
theorem gX12_guest_X12_within : GoodIn wsX12_guest (va_wsS RX12 241 yX12_within wsX12_within) := goodIn_r _ [12, 13, 5, 14] rfl (by decide +kernel)
set_option maxRecDepth 20000 in
theorem gX12_guest_X12_guestOf : GoodIn wsX12_guest (wsV RX12 353 RX12 yX12_guestOf wsX12_guestOf) := goodIn_r _ [15, 16, 17, 5, 18, 11, 19, 20, 21, 22, 23, 24, 25, 26, 27, 28, 29, 30, 31, 32, 33, 34, 35, 36, 37, 38, 39, 40, 41, 42, 43, 44, 45, 46, 47, 48, 49, 50, 51, 52, 53, 54, 55, 56, 57] rfl (by decide +kernel)
theorem dX12_guest_0 : decode cX12_guest 0 = .ok (.aload_n 0, 1) := by decide +kernel
theorem dX12_guest_1 : decode cX12_guest 1 = .ok (.iconst 0, 1) := by decide +kernel
theorem dX12_guest_2 : decode cX12_guest 2 = .ok (.putfield 1, 3) := by decide +kernel
theorem dX12_guest_5 : decode cX12_guest 5 = .ok (.aload_n 0, 1) := by decide +kernel
theorem dX12_guest_6 : decode cX12_guest 6 = .ok (.iload_n 1, 1) := by decide +kernel
theorem dX12_guest_7 : decode cX12_guest 7 = .ok (.invokevirtual 365, 3) := by decide +kernel
theorem dX12_guest_10 : decode cX12_guest 10 = .ok (.ifCond .eq 21, 3) := by decide +kernel
theorem dX12_guest_13 : decode cX12_guest 13 = .ok (.iload_n 2, 1) := by decide +kernel
theorem dX12_guest_14 : decode cX12_guest 14 = .ok (.iconst 0, 1) := by decide +kernel
theorem dX12_guest_15 : decode cX12_guest 15 = .ok (.iconst 4, 1) := by decide +kernel
theorem dX12_guest_16 : decode cX12_guest 16 = .ok (.invokestatic 241, 3) := by decide +kernel
theorem dX12_guest_19 : decode cX12_guest 19 = .ok (.ifCond .eq 12, 3) := by decide +kernel
theorem dX12_guest_22 : decode cX12_guest 22 = .ok (.aload_n 0, 1) := by decide +kernel
theorem dX12_guest_23 : decode cX12_guest 23 = .ok (.iload_n 1, 1) := by decide +kernel
theorem dX12_guest_24 : decode cX12_guest 24 = .ok (.iload_n 2, 1) := by decide +kernel
theorem dX12_guest_25 : decode cX12_guest 25 = .ok (.invokevirtual 353, 3) := by decide +kernel
theorem dX12_guest_28 : decode cX12_guest 28 = .ok (.goto 4, 3) := by decide +kernel
theorem dX12_guest_31 : decode cX12_guest 31 = .ok (.iconst (-1), 1) := by decide +kernel
theorem dX12_guest_32 : decode cX12_guest 32 = .ok (.ireturn, 1) := by decide +kernel
set_option maxRecDepth 20000 in
theorem gX12_shows_X12_worlds : GoodIn wsX12_shows (wsV RX12 331 RX12 yX12_worlds wsX12_worlds) := goodIn_r _ [3, 4, 5, 6, 7, 8, 9, 10, 6, 11, 12, 16, 17, 18, 19, 20, 21, 22, 23, 24, 25, 26, 27, 28, 29, 30, 31, 32, 33, 34, 35, 36, 37, 38, 39, 40, 41, 42, 43, 44, 45, 46, 47, 48, 49, 50, 51, 52, 53, 54] rfl (by decide +kernel)
set_option maxRecDepth 20000 in
theorem gX12_shows_X12_within : GoodIn wsX12_shows (va_wsS RX12 241 yX12_within wsX12_within) := goodIn_r _ [13, 14, 6, 15] rfl (by decide +kernel)
theorem dX12_shows_0 : decode cX12_shows 0 = .ok (.aload_n 0, 1) := by decide +kernel
theorem dX12_shows_1 : decode cX12_shows 1 = .ok (.iconst 0, 1) := by decide +kernel
theorem dX12_shows_2 : decode cX12_shows 2 = .ok (.putfield 1, 3) := by decide +kernel
theorem dX12_shows_5 : decode cX12_shows 5 = .ok (.iload_n 1, 1) := by decide +kernel
theorem dX12_shows_6 : decode cX12_shows 6 = .ok (.iconst 0, 1) := by decide +kernel
theorem dX12_shows_7 : decode cX12_shows 7 = .ok (.aload_n 0, 1) := by decide +kernel
theorem dX12_shows_8 : decode cX12_shows 8 = .ok (.invokevirtual 331, 3) := by decide +kernel
theorem dX12_shows_11 : decode cX12_shows 11 = .ok (.iconst 1, 1) := by decide +kernel
theorem dX12_shows_12 : decode cX12_shows 12 = .ok (.isub, 1) := by decide +kernel
theorem dX12_shows_13 : decode cX12_shows 13 = .ok (.invokestatic 241, 3) := by decide +kernel
theorem dX12_shows_16 : decode cX12_shows 16 = .ok (.ifCond .eq 12, 3) := by decide +kernel
theorem dX12_shows_19 : decode cX12_shows 19 = .ok (.aload_n 0, 1) := by decide +kernel
theorem dX12_shows_20 : decode cX12_shows 20 = .ok (.getfield 141, 3) := by decide +kernel
theorem dX12_shows_23 : decode cX12_shows 23 = .ok (.iload_n 1, 1) := by decide +kernel
theorem dX12_shows_24 : decode cX12_shows 24 = .ok (.iaload, 1) := by decide +kernel
theorem dX12_shows_25 : decode cX12_shows 25 = .ok (.goto 4, 3) := by decide +kernel
theorem dX12_shows_28 : decode cX12_shows 28 = .ok (.iconst (-1), 1) := by decide +kernel
theorem dX12_shows_29 : decode cX12_shows 29 = .ok (.ireturn, 1) := by decide +kernel
theorem dX12_left_0 : decode cX12_left 0 = .ok (.aload_n 0, 1) := by decide +kernel
theorem dX12_left_1 : decode cX12_left 1 = .ok (.iconst 0, 1) := by decide +kernel
theorem dX12_left_2 : decode cX12_left 2 = .ok (.putfield 1, 3) := by decide +kernel
theorem dX12_left_5 : decode cX12_left 5 = .ok (.aload_n 0, 1) := by decide +kernel
theorem dX12_left_6 : decode cX12_left 6 = .ok (.getfield 131, 3) := by decide +kernel
theorem dX12_left_9 : decode cX12_left 9 = .ok (.iconst 0, 1) := by decide +kernel
theorem dX12_left_10 : decode cX12_left 10 = .ok (.iaload, 1) := by decide +kernel
theorem dX12_left_11 : decode cX12_left 11 = .ok (.ireturn, 1) := by decide +kernel
set_option maxRecDepth 20000 in
theorem gX12_leaves_X12_keeps : GoodIn wsX12_leaves (wsV RX12 368 RX12 yX12_keeps wsX12_keeps) := goodIn_r _ [2, 3, 4, 5, 6, 7, 8, 9, 10, 5, 11, 1, 15, 16, 17, 18, 19, 20, 21, 22, 23, 24, 25, 26, 27, 28, 29, 30, 31, 32, 33, 34, 35, 36, 37, 38, 39, 40, 41, 42, 43, 44, 45, 46, 47, 48, 49, 50, 51, 52, 53] rfl (by decide +kernel)
set_option maxRecDepth 20000 in
theorem gX12_leaves_X12_bits : GoodIn wsX12_leaves (va_wsS RX12 371 yX12_bits wsX12_bits) := goodIn_r _ [12, 13, 5, 14] rfl (by decide +kernel)
theorem dX12_leaves_0 : decode cX12_leaves 0 = .ok (.aload_n 0, 1) := by decide +kernel
theorem dX12_leaves_1 : decode cX12_leaves 1 = .ok (.getfield 131, 3) := by decide +kernel
theorem dX12_leaves_4 : decode cX12_leaves 4 = .ok (.iconst 0, 1) := by decide +kernel
theorem dX12_leaves_5 : decode cX12_leaves 5 = .ok (.iaload, 1) := by decide +kernel
theorem dX12_leaves_6 : decode cX12_leaves 6 = .ok (.iload_n 1, 1) := by decide +kernel
theorem dX12_leaves_7 : decode cX12_leaves 7 = .ok (.iand, 1) := by decide +kernel
theorem dX12_leaves_8 : decode cX12_leaves 8 = .ok (.ifCond .ne 5, 3) := by decide +kernel
theorem dX12_leaves_11 : decode cX12_leaves 11 = .ok (.iconst (-1), 1) := by decide +kernel
theorem dX12_leaves_12 : decode cX12_leaves 12 = .ok (.ireturn, 1) := by decide +kernel
theorem dX12_leaves_13 : decode cX12_leaves 13 = .ok (.aload_n 0, 1) := by decide +kernel
theorem dX12_leaves_14 : decode cX12_leaves 14 = .ok (.invokevirtual 368, 3) := by decide +kernel
theorem dX12_leaves_17 : decode cX12_leaves 17 = .ok (.aload_n 0, 1) := by decide +kernel
theorem dX12_leaves_18 : decode cX12_leaves 18 = .ok (.getfield 131, 3) := by decide +kernel
theorem dX12_leaves_21 : decode cX12_leaves 21 = .ok (.iconst 0, 1) := by decide +kernel
theorem dX12_leaves_22 : decode cX12_leaves 22 = .ok (.dup2, 1) := by decide +kernel
theorem dX12_leaves_23 : decode cX12_leaves 23 = .ok (.iaload, 1) := by decide +kernel
theorem dX12_leaves_24 : decode cX12_leaves 24 = .ok (.iload_n 1, 1) := by decide +kernel
theorem dX12_leaves_25 : decode cX12_leaves 25 = .ok (.iand, 1) := by decide +kernel
theorem dX12_leaves_26 : decode cX12_leaves 26 = .ok (.iastore, 1) := by decide +kernel
theorem dX12_leaves_27 : decode cX12_leaves 27 = .ok (.aload_n 0, 1) := by decide +kernel
theorem dX12_leaves_28 : decode cX12_leaves 28 = .ok (.getfield 131, 3) := by decide +kernel
theorem dX12_leaves_31 : decode cX12_leaves 31 = .ok (.iconst 0, 1) := by decide +kernel
theorem dX12_leaves_32 : decode cX12_leaves 32 = .ok (.iaload, 1) := by decide +kernel
theorem dX12_leaves_33 : decode cX12_leaves 33 = .ok (.invokestatic 371, 3) := by decide +kernel
theorem dX12_leaves_36 : decode cX12_leaves 36 = .ok (.ireturn, 1) := by decide +kernel
set_option maxRecDepth 20000 in
theorem gX12_answerIn_X12_worldsOf : GoodIn wsX12_answerIn (va_wsS RX12 359 yX12_worldsOf wsX12_worldsOf) := goodIn_r _ [1, 2, 3, 4] rfl (by decide +kernel)
set_option maxRecDepth 20000 in
theorem gX12_answerIn_X12_everyWorld : GoodIn wsX12_answerIn (wsV RX12 334 RX12 yX12_everyWorld wsX12_everyWorld) := goodIn_r _ [5, 6, 7, 3, 8, 9, 10, 11, 3, 12, 13, 14, 15, 16, 17, 26, 27, 28, 29, 30, 31, 32, 33, 34, 35, 36, 37, 38, 39, 40, 41, 42, 43, 44, 45, 46, 47, 48, 49, 50, 51, 52, 53, 54, 55, 56, 57, 58, 59, 60, 61, 62, 63, 64] rfl (by decide +kernel)
set_option maxRecDepth 20000 in
theorem gX12_answerIn_X12_saidIn : GoodIn wsX12_answerIn (wsV RX12 374 RX12 yX12_saidIn wsX12_saidIn) := goodIn_r _ [18, 19, 20, 3, 21, 22, 23, 24, 3, 25, 17, 1, 2, 4, 5, 6, 7, 8, 9, 10, 11, 12, 13, 14, 15, 16, 26, 27, 28, 29, 30, 31, 32, 33, 34, 35, 36, 37, 38, 39, 40, 41, 42, 43, 44, 45, 46, 47, 48, 49, 50, 51, 52, 53, 54, 55, 56, 57, 58, 59, 60, 61, 62, 63, 64] rfl (by decide +kernel)
theorem dX12_answerIn_0 : decode cX12_answerIn 0 = .ok (.aload_n 0, 1) := by decide +kernel
theorem dX12_answerIn_1 : decode cX12_answerIn 1 = .ok (.iload_n 1, 1) := by decide +kernel
theorem dX12_answerIn_2 : decode cX12_answerIn 2 = .ok (.iload_n 3, 1) := by decide +kernel
theorem dX12_answerIn_3 : decode cX12_answerIn 3 = .ok (.ifCond .eq 10, 3) := by decide +kernel
theorem dX12_answerIn_6 : decode cX12_answerIn 6 = .ok (.iload_n 2, 1) := by decide +kernel
theorem dX12_answerIn_7 : decode cX12_answerIn 7 = .ok (.invokestatic 359, 3) := by decide +kernel
theorem dX12_answerIn_10 : decode cX12_answerIn 10 = .ok (.goto 14, 3) := by decide +kernel
theorem dX12_answerIn_13 : decode cX12_answerIn 13 = .ok (.iload_n 2, 1) := by decide +kernel
theorem dX12_answerIn_14 : decode cX12_answerIn 14 = .ok (.invokestatic 359, 3) := by decide +kernel
theorem dX12_answerIn_17 : decode cX12_answerIn 17 = .ok (.iconst (-1), 1) := by decide +kernel
theorem dX12_answerIn_18 : decode cX12_answerIn 18 = .ok (.ixor, 1) := by decide +kernel
theorem dX12_answerIn_19 : decode cX12_answerIn 19 = .ok (.aload_n 0, 1) := by decide +kernel
theorem dX12_answerIn_20 : decode cX12_answerIn 20 = .ok (.invokevirtual 334, 3) := by decide +kernel
theorem dX12_answerIn_23 : decode cX12_answerIn 23 = .ok (.iand, 1) := by decide +kernel
theorem dX12_answerIn_24 : decode cX12_answerIn 24 = .ok (.invokevirtual 374, 3) := by decide +kernel
theorem dX12_answerIn_27 : decode cX12_answerIn 27 = .ok (.ireturn, 1) := by decide +kernel
section
variable {p : Program} {l : Launch} {e : Env} {s : State} {m : MethodId} {args : Array Value} {below : List Frame} {meth : Method} {c : Code} {D : va_G} {cy : Nat → ClassId} {ad : Nat → Nat} {A : Nat → Prop} {aM aB aO aI aN aT aC aG aR aQ aK aL aX aH aJ aP aU aE0 aE1 aE2 aE3 : Nat → Nat} {gi : Value}
abbrev rm12_both : Room := { frames := 0, cells := 0, slots := 0, locals := 0 }
theorem hdS12_both : (yX12_both.cls ≠ "java/lang/invoke/MethodHandle" ∧ yX12_both.cls ≠ "java/lang/invoke/VarHandle" ∧ (parseMethodDescriptor yX12_both.desc).map (fun d => d.parameters.length) = some 3) := by decide +kernel
set_option maxRecDepth 100000 in
set_option maxHeartbeats 4000000 in
theorem t12_both_62 (hC : Cx p s m args meth c cX12_both 3 wsX12_both RX12 (some .int)) : ∀ (z0 : Int32) (res : Int32) (H : Heap) (locs : List Loc) (ls : Array Slot), f12_both_62 z0 = some res → GW D cy ad (([] : va_W)) A s H locs → lv_has ls 3 [] → W p l e rm12_both s m args below meth c H locs 0 0 (MQ below (QI D cy (([] : va_W)) A res) args s 0 0 A) (F0 m 62 ls [.int z0]) := by
  intro z0 res H locs ls hf hW hl
  unfold f12_both_62 at hf
  obtain rfl := Option.some.inj hf
  exact g_iret hC hW dX12_both_62
set_option maxRecDepth 100000 in
set_option maxHeartbeats 4000000 in
theorem t12_both_73 (hC : Cx p s m args meth c cX12_both 3 wsX12_both RX12 (some .int)) : ∀ (z0 : Int32) (res : Int32) (H : Heap) (locs : List Loc) (ls : Array Slot), f12_both_73 z0 = some res → GW D cy ad (([] : va_W)) A s H locs → lv_has ls 3 [] → W p l e rm12_both s m args below meth c H locs 0 0 (MQ below (QI D cy (([] : va_W)) A res) args s 0 0 A) (F0 m 73 ls [.int z0]) := by
  intro z0 res H locs ls hf hW hl
  unfold f12_both_73 at hf
  obtain rfl := Option.some.inj hf
  exact g_iret hC hW dX12_both_73
set_option maxRecDepth 100000 in
set_option maxHeartbeats 4000000 in
theorem t12_both_87 (hC : Cx p s m args meth c cX12_both 3 wsX12_both RX12 (some .int)) : ∀ (z0 : Int32) (res : Int32) (H : Heap) (locs : List Loc) (ls : Array Slot), f12_both_87 z0 = some res → GW D cy ad (([] : va_W)) A s H locs → lv_has ls 3 [] → W p l e rm12_both s m args below meth c H locs 0 0 (MQ below (QI D cy (([] : va_W)) A res) args s 0 0 A) (F0 m 87 ls [.int z0]) := by
  intro z0 res H locs ls hf hW hl
  unfold f12_both_87 at hf
  obtain rfl := Option.some.inj hf
  exact g_iret hC hW dX12_both_87
set_option maxRecDepth 100000 in
set_option maxHeartbeats 4000000 in
theorem t12_both_86 (hC : Cx p s m args meth c cX12_both 3 wsX12_both RX12 (some .int)) : ∀ (res : Int32) (H : Heap) (locs : List Loc) (ls : Array Slot), f12_both_86 = some res → GW D cy ad (([] : va_W)) A s H locs → lv_has ls 3 [] → W p l e rm12_both s m args below meth c H locs 0 0 (MQ below (QI D cy (([] : va_W)) A res) args s 0 0 A) (F0 m 86 ls []) := by
  intro res H locs ls hf hW hl
  unfold f12_both_86 at hf
  refine lv_iconst (v := 0) hC.1 hC.2.1 dX12_both_86 (by decide) ?_
  exact t12_both_87 hC  _ _ _ _ _ hf hW (lv_sub hl [] rfl)
set_option maxRecDepth 100000 in
set_option maxHeartbeats 4000000 in
theorem t12_both_101 (hC : Cx p s m args meth c cX12_both 3 wsX12_both RX12 (some .int)) : ∀ (z0 : Int32) (res : Int32) (H : Heap) (locs : List Loc) (ls : Array Slot), f12_both_101 z0 = some res → GW D cy ad (([] : va_W)) A s H locs → lv_has ls 3 [] → W p l e rm12_both s m args below meth c H locs 0 0 (MQ below (QI D cy (([] : va_W)) A res) args s 0 0 A) (F0 m 101 ls [.int z0]) := by
  intro z0 res H locs ls hf hW hl
  unfold f12_both_101 at hf
  obtain rfl := Option.some.inj hf
  exact g_iret hC hW dX12_both_101
set_option maxRecDepth 100000 in
set_option maxHeartbeats 4000000 in
theorem t12_both_96 (hC : Cx p s m args meth c cX12_both 3 wsX12_both RX12 (some .int)) : ∀ (res : Int32) (H : Heap) (locs : List Loc) (ls : Array Slot), f12_both_96 = some res → GW D cy ad (([] : va_W)) A s H locs → lv_has ls 3 [] → W p l e rm12_both s m args below meth c H locs 0 0 (MQ below (QI D cy (([] : va_W)) A res) args s 0 0 A) (F0 m 96 ls []) := by
  intro res H locs ls hf hW hl
  unfold f12_both_96 at hf
  refine lv_iconst (v := 1) hC.1 hC.2.1 dX12_both_96 (by decide) ?_
  refine lv_goto (tgt := 101) hC.1 hC.2.1 dX12_both_97 (by decide) ?_
  exact t12_both_101 hC  _ _ _ _ _ hf hW (lv_sub hl [] rfl)
set_option maxRecDepth 100000 in
set_option maxHeartbeats 4000000 in
theorem t12_both_0 (hC : Cx p s m args meth c cX12_both 3 wsX12_both RX12 (some .int)) : ∀ (x0 : Int32) (x1 : Int32) (x2 : Int32) (res : Int32) (H : Heap) (locs : List Loc) (ls : Array Slot), f12_both x0 x1 x2 = some res → GW D cy ad (([] : va_W)) A s H locs → lv_has ls 3 [(0, .int x0), (1, .int x1), (2, .int x2)] → W p l e rm12_both s m args below meth c H locs 0 0 (MQ below (QI D cy (([] : va_W)) A res) args s 0 0 A) (F0 m 0 ls []) := by
  intro x0 x1 x2 res H locs ls hf hW hl
  unfold f12_both at hf
  refine lv_iload_n hC.1 hC.2.1 dX12_both_0 rfl (lv_at hl 0 rfl) ?_
  by_cases hc_1 : x0 = 4
  · have hf := ite_t hf hc_1
    refine lv_tableIn (tgt := 40) hC.1 hC.2.1 dX12_both_1 (by rw [hc_1]; decide) (by rw [hc_1]; decide) (by rw [hc_1]; rfl) (by decide) ?_
    refine lv_iload_n hC.1 hC.2.1 dX12_both_40 rfl (lv_at hl 1 rfl) ?_
    refine lv_iload_n hC.1 hC.2.1 dX12_both_41 rfl (lv_at hl 2 rfl) ?_
    refine lv_iadd hC.1 hC.2.1 dX12_both_42 ?_
    obtain rfl := Option.some.inj hf
    exact g_iret hC hW dX12_both_43
  · have hf := ite_f hf hc_1
    by_cases hc_2 : x0 = 5
    · have hf := ite_t hf hc_2
      refine lv_tableIn (tgt := 44) hC.1 hC.2.1 dX12_both_1 (by rw [hc_2]; decide) (by rw [hc_2]; decide) (by rw [hc_2]; rfl) (by decide) ?_
      refine lv_iload_n hC.1 hC.2.1 dX12_both_44 rfl (lv_at hl 1 rfl) ?_
      refine lv_iload_n hC.1 hC.2.1 dX12_both_45 rfl (lv_at hl 2 rfl) ?_
      refine lv_isub hC.1 hC.2.1 dX12_both_46 ?_
      obtain rfl := Option.some.inj hf
      exact g_iret hC hW dX12_both_47
    · have hf := ite_f hf hc_2
      by_cases hc_3 : x0 = 6
      · have hf := ite_t hf hc_3
        refine lv_tableIn (tgt := 48) hC.1 hC.2.1 dX12_both_1 (by rw [hc_3]; decide) (by rw [hc_3]; decide) (by rw [hc_3]; rfl) (by decide) ?_
        refine lv_iload_n hC.1 hC.2.1 dX12_both_48 rfl (lv_at hl 1 rfl) ?_
        refine lv_iload_n hC.1 hC.2.1 dX12_both_49 rfl (lv_at hl 2 rfl) ?_
        refine lv_imul hC.1 hC.2.1 dX12_both_50 ?_
        obtain rfl := Option.some.inj hf
        exact g_iret hC hW dX12_both_51
      · have hf := ite_f hf hc_3
        by_cases hc_4 : x0 = 7
        · have hf := ite_t hf hc_4
          refine lv_tableIn (tgt := 52) hC.1 hC.2.1 dX12_both_1 (by rw [hc_4]; decide) (by rw [hc_4]; decide) (by rw [hc_4]; rfl) (by decide) ?_
          refine lv_iload_n hC.1 hC.2.1 dX12_both_52 rfl (lv_at hl 1 rfl) ?_
          refine lv_iload_n hC.1 hC.2.1 dX12_both_53 rfl (lv_at hl 2 rfl) ?_
          refine lv_icmp_ge (tgt := 61) hC.1 hC.2.1 dX12_both_54 (by decide) (fun hc_5 => ?_) (fun hc_5 => ?_)
          · have hf := ite_t hf hc_5
            refine lv_iconst (v := 0) hC.1 hC.2.1 dX12_both_61 (by decide) ?_
            exact t12_both_62 hC  _ _ _ _ _ hf hW (lv_sub hl [] rfl)
          · have hf := ite_f hf hc_5
            refine lv_iconst (v := 1) hC.1 hC.2.1 dX12_both_57 (by decide) ?_
            refine lv_goto (tgt := 62) hC.1 hC.2.1 dX12_both_58 (by decide) ?_
            exact t12_both_62 hC  _ _ _ _ _ hf hW (lv_sub hl [] rfl)
        · have hf := ite_f hf hc_4
          by_cases hc_6 : x0 = 8
          · have hf := ite_t hf hc_6
            refine lv_tableIn (tgt := 63) hC.1 hC.2.1 dX12_both_1 (by rw [hc_6]; decide) (by rw [hc_6]; decide) (by rw [hc_6]; rfl) (by decide) ?_
            refine lv_iload_n hC.1 hC.2.1 dX12_both_63 rfl (lv_at hl 1 rfl) ?_
            refine lv_iload_n hC.1 hC.2.1 dX12_both_64 rfl (lv_at hl 2 rfl) ?_
            refine lv_icmp_ne (tgt := 72) hC.1 hC.2.1 dX12_both_65 (by decide) (fun hc_7 => ?_) (fun hc_7 => ?_)
            · have hf := ite_f hf hc_7
              refine lv_iconst (v := 0) hC.1 hC.2.1 dX12_both_72 (by decide) ?_
              exact t12_both_73 hC  _ _ _ _ _ hf hW (lv_sub hl [] rfl)
            · have hf := ite_t hf hc_7
              refine lv_iconst (v := 1) hC.1 hC.2.1 dX12_both_68 (by decide) ?_
              refine lv_goto (tgt := 73) hC.1 hC.2.1 dX12_both_69 (by decide) ?_
              exact t12_both_73 hC  _ _ _ _ _ hf hW (lv_sub hl [] rfl)
          · have hf := ite_f hf hc_6
            by_cases hc_8 : x0 = 9
            · have hf := ite_t hf hc_8
              refine lv_tableIn (tgt := 74) hC.1 hC.2.1 dX12_both_1 (by rw [hc_8]; decide) (by rw [hc_8]; decide) (by rw [hc_8]; rfl) (by decide) ?_
              refine lv_iload_n hC.1 hC.2.1 dX12_both_74 rfl (lv_at hl 1 rfl) ?_
              refine lv_if_eq (tgt := 86) hC.1 hC.2.1 dX12_both_75 (by decide) (fun hc_9 => ?_) (fun hc_9 => ?_)
              · have hf := ite_t hf hc_9
                exact t12_both_86 hC  _ _ _ _ hf hW (lv_sub hl [] rfl)
              · have hf := ite_f hf hc_9
                refine lv_iload_n hC.1 hC.2.1 dX12_both_78 rfl (lv_at hl 2 rfl) ?_
                refine lv_if_eq (tgt := 86) hC.1 hC.2.1 dX12_both_79 (by decide) (fun hc_10 => ?_) (fun hc_10 => ?_)
                · have hf := ite_t hf hc_10
                  exact t12_both_86 hC  _ _ _ _ hf hW (lv_sub hl [] rfl)
                · have hf := ite_f hf hc_10
                  refine lv_iconst (v := 1) hC.1 hC.2.1 dX12_both_82 (by decide) ?_
                  refine lv_goto (tgt := 87) hC.1 hC.2.1 dX12_both_83 (by decide) ?_
                  exact t12_both_87 hC  _ _ _ _ _ hf hW (lv_sub hl [] rfl)
            · have hf := ite_f hf hc_8
              refine lv_tableOut (tgt := 88) hC.1 hC.2.1 dX12_both_1 (tab_out [4, 5, 6, 7, 8, 9] (List.forall_mem_cons.mpr ⟨hc_1, (List.forall_mem_cons.mpr ⟨hc_2, (List.forall_mem_cons.mpr ⟨hc_3, (List.forall_mem_cons.mpr ⟨hc_4, (List.forall_mem_cons.mpr ⟨hc_6, (List.forall_mem_cons.mpr ⟨hc_8, (fun _ h => by cases h)⟩)⟩)⟩)⟩)⟩)⟩) (by decide)) (by decide) ?_
              refine lv_iload_n hC.1 hC.2.1 dX12_both_88 rfl (lv_at hl 1 rfl) ?_
              refine lv_if_ne (tgt := 96) hC.1 hC.2.1 dX12_both_89 (by decide) (fun hc_11 => ?_) (fun hc_11 => ?_)
              · have hf := ite_f hf hc_11
                exact t12_both_96 hC  _ _ _ _ hf hW (lv_sub hl [] rfl)
              · have hf := ite_t hf hc_11
                refine lv_iload_n hC.1 hC.2.1 dX12_both_92 rfl (lv_at hl 2 rfl) ?_
                refine lv_if_eq (tgt := 100) hC.1 hC.2.1 dX12_both_93 (by decide) (fun hc_12 => ?_) (fun hc_12 => ?_)
                · have hf := ite_t hf hc_12
                  refine lv_iconst (v := 0) hC.1 hC.2.1 dX12_both_100 (by decide) ?_
                  exact t12_both_101 hC  _ _ _ _ _ hf hW (lv_sub hl [] rfl)
                · have hf := ite_f hf hc_12
                  exact t12_both_96 hC  _ _ _ _ hf hW (lv_sub hl [] rfl)
set_option maxRecDepth 100000 in
set_option maxHeartbeats 4000000 in
theorem c12_both (l : Launch) (D : va_G) (cy : Nat → ClassId) (ad : Nat → Nat) {x0 : Int32} {x1 : Int32} {x2 : Int32} {res : Int32} (h : f12_both x0 x1 x2 = some res) : GCi l yX12_both wsX12_both rm12_both [.int x0, .int x1, .int x2] D cy ad (([] : va_W)) (([] : va_W)) res := fun sz => GC.start (own := RX12) (Qc := fun A => QI D cy (([] : va_W)) A res) sz (by decide) rfl rfl (Nat.le_of_ble_eq_true rfl) (fun p e s m below meth c A ls hC hW hl => t12_both_0 hC _ _ _ _ _ _ _ h hW (lv_sub hl [0, 1, 2] rfl))
abbrev rm12_worthAt : Room := { frames := 1, cells := 0, slots := 0, locals := 22 }
theorem hdV12_worthAt : yX12_worthAt.cls = RX12 ∧ (yX12_worthAt.cls ≠ "java/lang/invoke/MethodHandle" ∧ yX12_worthAt.cls ≠ "java/lang/invoke/VarHandle" ∧ (parseMethodDescriptor yX12_worthAt.desc).map (fun d => d.parameters.length) = some 1) := by decide +kernel
theorem hin12_worthAt_12 : ∀ x ∈ u_ws RX12 TX12 39, x ∈ wsX12_worthAt := fun _ h => List.mem_cons_of_mem _ (List.mem_append_right _ h)
set_option maxRecDepth 100000 in
set_option maxHeartbeats 4000000 in
theorem t12_worthAt_134 (hC : Cx p s m args meth c cX12_worthAt 5 wsX12_worthAt RX12 (some .int)) {k4 : Int32 → Int32 → Ob → Option (Int32 × Ob)} (hk4 : ∀ (x2 : Int32) (x3 : Int32) (SM : Ob) (res : Int32 × Ob) (H : Heap) (locs : List Loc) (ls : Array Slot), k4 x2 x3 SM = some res → GW D cy ad (w12 cy aM SM) A s H locs → lv_has ls 5 [(0, .ref (aM 0)), (2, .int x2), (3, .int x3)] → W p l e rm12_worthAt s m args below meth c H locs 0 0 (MQ below (QI D cy (w12 cy aM (res.2)) A (res.1)) args s 0 0 A) (F0 m 4 ls [])) : ∀ (x2 : Int32) (x3 : Int32) (SM : Ob) (res : Int32 × Ob) (H : Heap) (locs : List Loc) (ls : Array Slot), f12_worthAt_134 k4 x2 x3 SM = some res → GW D cy ad (w12 cy aM SM) A s H locs → lv_has ls 5 [(0, .ref (aM 0)), (2, .int x2), (3, .int x3)] → W p l e rm12_worthAt s m args below meth c H locs 0 0 (MQ below (QI D cy (w12 cy aM (res.2)) A (res.1)) args s 0 0 A) (F0 m 134 ls []) := by
  intro x2 x3 SM res H locs ls hf hW hl
  unfold f12_worthAt_134 at hf
  obtain ⟨x3_1, ex3_1⟩ : ∃ y : Int32, y = x3 + 1 := ⟨_, rfl⟩
  have hf := lt_nm hf ex3_1
  refine lv_iinc (v := x3_1) (lv' := [(3, .int x3_1), (0, .ref (aM 0)), (2, .int x2)]) hC.1 hC.2.1 dX12_worthAt_134 hl (k := 2) rfl (by rw [ex3_1]; rfl) (by decide) rfl (fun ls hl => ?_)
  refine lv_goto (tgt := 4) hC.1 hC.2.1 dX12_worthAt_137 (by decide) ?_
  exact hk4 _ _ _ _ _ _ _ hf hW (lv_sub hl [1, 2, 0] rfl)
set_option maxRecDepth 100000 in
set_option maxHeartbeats 4000000 in
theorem t12_worthAt_64 (hC : Cx p s m args meth c cX12_worthAt 5 wsX12_worthAt RX12 (some .int)) {k4 : Int32 → Int32 → Ob → Option (Int32 × Ob)} (hk4 : ∀ (x2 : Int32) (x3 : Int32) (SM : Ob) (res : Int32 × Ob) (H : Heap) (locs : List Loc) (ls : Array Slot), k4 x2 x3 SM = some res → GW D cy ad (w12 cy aM SM) A s H locs → lv_has ls 5 [(0, .ref (aM 0)), (2, .int x2), (3, .int x3)] → W p l e rm12_worthAt s m args below meth c H locs 0 0 (MQ below (QI D cy (w12 cy aM (res.2)) A (res.1)) args s 0 0 A) (F0 m 4 ls [])) : ∀ (x2 : Int32) (x3 : Int32) (z1 : Int32) (z2 : Int32) (SM : Ob) (res : Int32 × Ob) (H : Heap) (locs : List Loc) (ls : Array Slot), f12_worthAt_64 k4 x2 x3 z1 z2 SM = some res → GW D cy ad (w12 cy aM SM) A s H locs → lv_has ls 5 [(0, .ref (aM 0)), (2, .int x2), (3, .int x3)] → W p l e rm12_worthAt s m args below meth c H locs 0 0 (MQ below (QI D cy (w12 cy aM (res.2)) A (res.1)) args s 0 0 A) (F0 m 64 ls [.int z2, .int z1, .ref (aM 25)]) := by
  intro x2 x3 z1 z2 SM res H locs ls hf hW hl
  unfold f12_worthAt_64 at hf
  obtain ⟨hi_1, hf⟩ := ck_of hf
  obtain ⟨SM_2, eSM_2⟩ : ∃ y : Ob, y = oA SM 24 (Int32.toNatClampNeg z1) z2 := ⟨_, rfl⟩
  have hf := lt_nm hf eSM_2
  refine g_iast hC hW 15 rfl hi_1 (w' := w12 cy aM SM_2) (by rw [eSM_2]; rfl) dX12_worthAt_64 (fun H locs hW => ?_)
  obtain ⟨x2_3, ex2_3⟩ : ∃ y : Int32, y = x2 + 1 := ⟨_, rfl⟩
  have hf := lt_nm hf ex2_3
  refine lv_iinc (v := x2_3) (lv' := [(2, .int x2_3), (0, .ref (aM 0)), (3, .int x3)]) hC.1 hC.2.1 dX12_worthAt_65 hl (k := 1) rfl (by rw [ex2_3]; rfl) (by decide) rfl (fun ls hl => ?_)
  refine lv_goto (tgt := 134) hC.1 hC.2.1 dX12_worthAt_68 (by decide) ?_
  exact t12_worthAt_134 hC hk4  _ _ _ _ _ _ _ hf hW (lv_sub hl [1, 0, 2] rfl)
set_option maxRecDepth 100000 in
set_option maxHeartbeats 4000000 in
theorem t12_worthAt_33 (hC : Cx p s m args meth c cX12_worthAt 5 wsX12_worthAt RX12 (some .int)) {k4 : Int32 → Int32 → Ob → Option (Int32 × Ob)} (hk4 : ∀ (x2 : Int32) (x3 : Int32) (SM : Ob) (res : Int32 × Ob) (H : Heap) (locs : List Loc) (ls : Array Slot), k4 x2 x3 SM = some res → GW D cy ad (w12 cy aM SM) A s H locs → lv_has ls 5 [(0, .ref (aM 0)), (2, .int x2), (3, .int x3)] → W p l e rm12_worthAt s m args below meth c H locs 0 0 (MQ below (QI D cy (w12 cy aM (res.2)) A (res.1)) args s 0 0 A) (F0 m 4 ls [])) : ∀ (x2 : Int32) (x3 : Int32) (x4 : Int32) (SM : Ob) (res : Int32 × Ob) (H : Heap) (locs : List Loc) (ls : Array Slot), f12_worthAt_33 k4 x2 x3 x4 SM = some res → GW D cy ad (w12 cy aM SM) A s H locs → lv_has ls 5 [(0, .ref (aM 0)), (2, .int x2), (3, .int x3), (4, .int x4)] → W p l e rm12_worthAt s m args below meth c H locs 0 0 (MQ below (QI D cy (w12 cy aM (res.2)) A (res.1)) args s 0 0 A) (F0 m 33 ls []) := by
  intro x2 x3 x4 SM res H locs ls hf hW hl
  unfold f12_worthAt_33 at hf
  refine lv_aload_n hC.1 hC.2.1 dX12_worthAt_33 rfl (lv_at hl 0 rfl) ?_
  refine g_get hC hW hin12_worthAt_12 0 rfl rfl 24 (by decide) 2 rfl rfl dX12_worthAt_34 ?_
  refine lv_iload_n hC.1 hC.2.1 dX12_worthAt_37 rfl (lv_at hl 1 rfl) ?_
  refine lv_iload hC.1 hC.2.1 dX12_worthAt_38 (lv_at hl 3 rfl) ?_
  refine lv_iconst (v := 1) hC.1 hC.2.1 dX12_worthAt_40 (by decide) ?_
  refine lv_icmp_ne (tgt := 53) hC.1 hC.2.1 dX12_worthAt_41 (by decide) (fun hc_1 => ?_) (fun hc_1 => ?_)
  · have hf := ite_f hf hc_1
    refine lv_aload_n hC.1 hC.2.1 dX12_worthAt_53 rfl (lv_at hl 0 rfl) ?_
    refine g_get hC hW hin12_worthAt_12 0 rfl rfl 23 (by decide) 4 rfl rfl dX12_worthAt_54 ?_
    refine lv_aload_n hC.1 hC.2.1 dX12_worthAt_57 rfl (lv_at hl 0 rfl) ?_
    refine g_get hC hW hin12_worthAt_12 0 rfl rfl 12 (by decide) 3 rfl rfl dX12_worthAt_58 ?_
    refine lv_iload_n hC.1 hC.2.1 dX12_worthAt_61 rfl (lv_at hl 2 rfl) ?_
    obtain ⟨hi_2, hf⟩ := ck_of hf
    refine g_iald hC hW 8 rfl hi_2 dX12_worthAt_62 ?_
    obtain ⟨hi_3, hf⟩ := ck_of hf
    refine g_iald hC hW 14 rfl hi_3 dX12_worthAt_63 ?_
    exact t12_worthAt_64 hC hk4  _ _ _ _ _ _ _ _ _ hf hW (lv_sub hl [0, 1, 2] rfl)
  · have hf := ite_t hf hc_1
    refine lv_aload_n hC.1 hC.2.1 dX12_worthAt_44 rfl (lv_at hl 0 rfl) ?_
    refine g_get hC hW hin12_worthAt_12 0 rfl rfl 12 (by decide) 3 rfl rfl dX12_worthAt_45 ?_
    refine lv_iload_n hC.1 hC.2.1 dX12_worthAt_48 rfl (lv_at hl 2 rfl) ?_
    obtain ⟨hi_4, hf⟩ := ck_of hf
    refine g_iald hC hW 8 rfl hi_4 dX12_worthAt_49 ?_
    refine lv_goto (tgt := 64) hC.1 hC.2.1 dX12_worthAt_50 (by decide) ?_
    exact t12_worthAt_64 hC hk4  _ _ _ _ _ _ _ _ _ hf hW (lv_sub hl [0, 1, 2] rfl)
set_option maxRecDepth 100000 in
set_option maxHeartbeats 4000000 in
theorem t12_worthAt_100 (hC : Cx p s m args meth c cX12_worthAt 5 wsX12_worthAt RX12 (some .int)) {k4 : Int32 → Int32 → Ob → Option (Int32 × Ob)} (hk4 : ∀ (x2 : Int32) (x3 : Int32) (SM : Ob) (res : Int32 × Ob) (H : Heap) (locs : List Loc) (ls : Array Slot), k4 x2 x3 SM = some res → GW D cy ad (w12 cy aM SM) A s H locs → lv_has ls 5 [(0, .ref (aM 0)), (2, .int x2), (3, .int x3)] → W p l e rm12_worthAt s m args below meth c H locs 0 0 (MQ below (QI D cy (w12 cy aM (res.2)) A (res.1)) args s 0 0 A) (F0 m 4 ls [])) : ∀ (x2 : Int32) (x3 : Int32) (z1 : Int32) (z2 : Int32) (SM : Ob) (res : Int32 × Ob) (H : Heap) (locs : List Loc) (ls : Array Slot), f12_worthAt_100 k4 x2 x3 z1 z2 SM = some res → GW D cy ad (w12 cy aM SM) A s H locs → lv_has ls 5 [(0, .ref (aM 0)), (2, .int x2), (3, .int x3)] → W p l e rm12_worthAt s m args below meth c H locs 0 0 (MQ below (QI D cy (w12 cy aM (res.2)) A (res.1)) args s 0 0 A) (F0 m 100 ls [.int z2, .int z1, .ref (aM 25)]) := by
  intro x2 x3 z1 z2 SM res H locs ls hf hW hl
  unfold f12_worthAt_100 at hf
  obtain ⟨hi_1, hf⟩ := ck_of hf
  obtain ⟨SM_2, eSM_2⟩ : ∃ y : Ob, y = oA SM 24 (Int32.toNatClampNeg z1) z2 := ⟨_, rfl⟩
  have hf := lt_nm hf eSM_2
  refine g_iast hC hW 15 rfl hi_1 (w' := w12 cy aM SM_2) (by rw [eSM_2]; rfl) dX12_worthAt_100 (fun H locs hW => ?_)
  refine lv_goto (tgt := 134) hC.1 hC.2.1 dX12_worthAt_101 (by decide) ?_
  exact t12_worthAt_134 hC hk4  _ _ _ _ _ _ _ hf hW (lv_sub hl [0, 1, 2] rfl)
set_option maxRecDepth 100000 in
set_option maxHeartbeats 4000000 in
theorem t12_worthAt_4 (hC : Cx p s m args meth c cX12_worthAt 5 wsX12_worthAt RX12 (some .int)) : ∀ n : Nat, ∀ (x2 : Int32) (x3 : Int32) (SM : Ob) (res : Int32 × Ob) (H : Heap) (locs : List Loc) (ls : Array Slot), f12_worthAt_4 n x2 x3 SM = some res → GW D cy ad (w12 cy aM SM) A s H locs → lv_has ls 5 [(0, .ref (aM 0)), (2, .int x2), (3, .int x3)] → W p l e rm12_worthAt s m args below meth c H locs 0 0 (MQ below (QI D cy (w12 cy aM (res.2)) A (res.1)) args s 0 0 A) (F0 m 4 ls []) := by
  intro n
  induction n with
  | zero =>
    intro _ _ _ _ _ _ _ hf _ _
    exact nomatch (show (none : Option (Int32 × Ob)) = some _ from hf)
  | succ n ih =>
    intro x2 x3 SM res H locs ls hf hW hl
    rw [f12_worthAt_4] at hf
    refine lv_aload_n hC.1 hC.2.1 dX12_worthAt_4 rfl (lv_at hl 0 rfl) ?_
    refine g_get hC hW hin12_worthAt_12 0 rfl rfl 11 (by decide) 1 rfl rfl dX12_worthAt_5 ?_
    refine lv_iload_n hC.1 hC.2.1 dX12_worthAt_8 rfl (lv_at hl 2 rfl) ?_
    obtain ⟨hi_1, hf⟩ := ck_of hf
    refine g_iald hC hW 7 rfl hi_1 dX12_worthAt_9 ?_
    refine lv_if_eq (tgt := 140) hC.1 hC.2.1 dX12_worthAt_10 (by decide) (fun hc_2 => ?_) (fun hc_2 => ?_)
    · have hf := ite_t hf hc_2
      refine lv_aload_n hC.1 hC.2.1 dX12_worthAt_140 rfl (lv_at hl 0 rfl) ?_
      refine g_get hC hW hin12_worthAt_12 0 rfl rfl 24 (by decide) 2 rfl rfl dX12_worthAt_141 ?_
      refine lv_iconst (v := 0) hC.1 hC.2.1 dX12_worthAt_144 (by decide) ?_
      obtain ⟨hi_3, hf⟩ := ck_of hf
      refine g_iald hC hW 15 rfl hi_3 dX12_worthAt_145 ?_
      obtain rfl := Option.some.inj hf
      exact g_iret hC hW dX12_worthAt_146
    · have hf := ite_f hf hc_2
      refine lv_aload_n hC.1 hC.2.1 dX12_worthAt_13 rfl (lv_at hl 0 rfl) ?_
      refine g_get hC hW hin12_worthAt_12 0 rfl rfl 11 (by decide) 1 rfl rfl dX12_worthAt_14 ?_
      refine lv_iload_n hC.1 hC.2.1 dX12_worthAt_17 rfl (lv_at hl 2 rfl) ?_
      obtain ⟨hi_4, hf⟩ := ck_of hf
      refine g_iald hC hW 7 rfl hi_4 dX12_worthAt_18 ?_
      refine lv_topi (fun x4_5 ex4_5 => ?_)
      have hf := lt_nm hf ex4_5
      refine lv_istore (lv' := [(4, .int x4_5), (0, .ref (aM 0)), (2, .int x2), (3, .int x3)]) hC.1 hC.2.1 dX12_worthAt_19 hl (by decide) rfl (fun ls hl => ?_)
      refine lv_iload hC.1 hC.2.1 dX12_worthAt_21 (lv_at hl 0 rfl) ?_
      refine lv_iconst (v := 1) hC.1 hC.2.1 dX12_worthAt_23 (by decide) ?_
      refine lv_icmp_eq (tgt := 33) hC.1 hC.2.1 dX12_worthAt_24 (by decide) (fun hc_6 => ?_) (fun hc_6 => ?_)
      · have hf := ite_t hf hc_6
        exact t12_worthAt_33 hC ih  _ _ _ _ _ _ _ _ hf hW (lv_sub hl [1, 2, 3, 0] rfl)
      · have hf := ite_f hf hc_6
        refine lv_iload hC.1 hC.2.1 dX12_worthAt_27 (lv_at hl 0 rfl) ?_
        refine lv_iconst (v := 2) hC.1 hC.2.1 dX12_worthAt_29 (by decide) ?_
        refine lv_icmp_ne (tgt := 71) hC.1 hC.2.1 dX12_worthAt_30 (by decide) (fun hc_7 => ?_) (fun hc_7 => ?_)
        · have hf := ite_f hf hc_7
          refine lv_iload hC.1 hC.2.1 dX12_worthAt_71 (lv_at hl 0 rfl) ?_
          refine lv_iconst (v := 3) hC.1 hC.2.1 dX12_worthAt_73 (by decide) ?_
          refine lv_icmp_ne (tgt := 104) hC.1 hC.2.1 dX12_worthAt_74 (by decide) (fun hc_8 => ?_) (fun hc_8 => ?_)
          · have hf := ite_f hf hc_8
            obtain ⟨x2_9, ex2_9⟩ : ∃ y : Int32, y = x2 + (-1) := ⟨_, rfl⟩
            have hf := lt_nm hf ex2_9
            refine lv_iinc (v := x2_9) (lv' := [(2, .int x2_9), (4, .int x4_5), (0, .ref (aM 0)), (3, .int x3)]) hC.1 hC.2.1 dX12_worthAt_104 hl (k := 2) rfl (by rw [ex2_9]; rfl) (by decide) rfl (fun ls hl => ?_)
            refine lv_aload_n hC.1 hC.2.1 dX12_worthAt_107 rfl (lv_at hl 2 rfl) ?_
            refine g_get hC hW hin12_worthAt_12 0 rfl rfl 24 (by decide) 2 rfl rfl dX12_worthAt_108 ?_
            refine lv_iload_n hC.1 hC.2.1 dX12_worthAt_111 rfl (lv_at hl 0 rfl) ?_
            refine lv_iconst (v := 1) hC.1 hC.2.1 dX12_worthAt_112 (by decide) ?_
            refine lv_isub hC.1 hC.2.1 dX12_worthAt_113 ?_
            refine lv_iload hC.1 hC.2.1 dX12_worthAt_114 (lv_at hl 1 rfl) ?_
            refine lv_aload_n hC.1 hC.2.1 dX12_worthAt_116 rfl (lv_at hl 2 rfl) ?_
            refine g_get hC hW hin12_worthAt_12 0 rfl rfl 24 (by decide) 2 rfl rfl dX12_worthAt_117 ?_
            refine lv_iload_n hC.1 hC.2.1 dX12_worthAt_120 rfl (lv_at hl 0 rfl) ?_
            refine lv_iconst (v := 1) hC.1 hC.2.1 dX12_worthAt_121 (by decide) ?_
            refine lv_isub hC.1 hC.2.1 dX12_worthAt_122 ?_
            obtain ⟨hi_10, hf⟩ := ck_of hf
            refine g_iald hC hW 15 rfl hi_10 dX12_worthAt_123 ?_
            refine lv_aload_n hC.1 hC.2.1 dX12_worthAt_124 rfl (lv_at hl 2 rfl) ?_
            refine g_get hC hW hin12_worthAt_12 0 rfl rfl 24 (by decide) 2 rfl rfl dX12_worthAt_125 ?_
            refine lv_iload_n hC.1 hC.2.1 dX12_worthAt_128 rfl (lv_at hl 0 rfl) ?_
            obtain ⟨hi_11, hf⟩ := ck_of hf
            refine g_iald hC hW 15 rfl hi_11 dX12_worthAt_129 ?_
            obtain ⟨r_12, hg_13, hf⟩ := bd_of hf
            refine g_calliS hC hW (c12_both l D cy ad  hg_13) (va_cwS 3 hC.2.2.2.2.1 gX12_worthAt_X12_both rfl rfl rfl hdS12_both ⟨Nat.le_of_ble_eq_true rfl, Nat.le_of_ble_eq_true rfl⟩) (Sub.nil _) rfl hl.1 rfl (Nat.le_of_ble_eq_true rfl) dX12_worthAt_130 ⟨Nat.zero_le _, Nat.zero_le _⟩ (fun H locs hW => ?_)
            obtain ⟨hi_14, hf⟩ := ck_of hf
            obtain ⟨SM_15, eSM_15⟩ : ∃ y : Ob, y = oA SM 24 (Int32.toNatClampNeg (x2_9 - 1)) r_12 := ⟨_, rfl⟩
            have hf := lt_nm hf eSM_15
            refine g_iast hC hW 15 rfl hi_14 (w' := w12 cy aM SM_15) (by rw [eSM_15]; rfl) dX12_worthAt_133 (fun H locs hW => ?_)
            exact t12_worthAt_134 hC ih  _ _ _ _ _ _ _ hf hW (lv_sub hl [2, 0, 3] rfl)
          · have hf := ite_t hf hc_8
            refine lv_aload_n hC.1 hC.2.1 dX12_worthAt_77 rfl (lv_at hl 1 rfl) ?_
            refine g_get hC hW hin12_worthAt_12 0 rfl rfl 24 (by decide) 2 rfl rfl dX12_worthAt_78 ?_
            refine lv_iload_n hC.1 hC.2.1 dX12_worthAt_81 rfl (lv_at hl 2 rfl) ?_
            refine lv_iconst (v := 1) hC.1 hC.2.1 dX12_worthAt_82 (by decide) ?_
            refine lv_isub hC.1 hC.2.1 dX12_worthAt_83 ?_
            refine lv_aload_n hC.1 hC.2.1 dX12_worthAt_84 rfl (lv_at hl 1 rfl) ?_
            refine g_get hC hW hin12_worthAt_12 0 rfl rfl 24 (by decide) 2 rfl rfl dX12_worthAt_85 ?_
            refine lv_iload_n hC.1 hC.2.1 dX12_worthAt_88 rfl (lv_at hl 2 rfl) ?_
            refine lv_iconst (v := 1) hC.1 hC.2.1 dX12_worthAt_89 (by decide) ?_
            refine lv_isub hC.1 hC.2.1 dX12_worthAt_90 ?_
            obtain ⟨hi_16, hf⟩ := ck_of hf
            refine g_iald hC hW 15 rfl hi_16 dX12_worthAt_91 ?_
            refine lv_if_ne (tgt := 99) hC.1 hC.2.1 dX12_worthAt_92 (by decide) (fun hc_17 => ?_) (fun hc_17 => ?_)
            · have hf := ite_f hf hc_17
              refine lv_iconst (v := 0) hC.1 hC.2.1 dX12_worthAt_99 (by decide) ?_
              exact t12_worthAt_100 hC ih  _ _ _ _ _ _ _ _ _ hf hW (lv_sub hl [1, 2, 3] rfl)
            · have hf := ite_t hf hc_17
              refine lv_iconst (v := 1) hC.1 hC.2.1 dX12_worthAt_95 (by decide) ?_
              refine lv_goto (tgt := 100) hC.1 hC.2.1 dX12_worthAt_96 (by decide) ?_
              exact t12_worthAt_100 hC ih  _ _ _ _ _ _ _ _ _ hf hW (lv_sub hl [1, 2, 3] rfl)
        · have hf := ite_t hf hc_7
          exact t12_worthAt_33 hC ih  _ _ _ _ _ _ _ _ hf hW (lv_sub hl [1, 2, 3, 0] rfl)
set_option maxRecDepth 100000 in
set_option maxHeartbeats 4000000 in
theorem t12_worthAt_0 (hC : Cx p s m args meth c cX12_worthAt 5 wsX12_worthAt RX12 (some .int)) : ∀ (x1 : Int32) (SM : Ob) (res : Int32 × Ob) (H : Heap) (locs : List Loc) (ls : Array Slot), f12_worthAt x1 SM = some res → GW D cy ad (w12 cy aM SM) A s H locs → lv_has ls 5 [(0, .ref (aM 0)), (1, .int x1)] → W p l e rm12_worthAt s m args below meth c H locs 0 0 (MQ below (QI D cy (w12 cy aM (res.2)) A (res.1)) args s 0 0 A) (F0 m 0 ls []) := by
  intro x1 SM res H locs ls hf hW hl
  unfold f12_worthAt at hf
  refine lv_iconst (v := 0) hC.1 hC.2.1 dX12_worthAt_0 (by decide) ?_
  refine lv_istore_n (lv' := [(2, .int 0), (0, .ref (aM 0)), (1, .int x1)]) hC.1 hC.2.1 dX12_worthAt_1 rfl hl (by decide) rfl (fun ls hl => ?_)
  refine lv_iload_n hC.1 hC.2.1 dX12_worthAt_2 rfl (lv_at hl 2 rfl) ?_
  refine lv_istore_n (lv' := [(3, .int x1), (2, .int 0), (0, .ref (aM 0)), (1, .int x1)]) hC.1 hC.2.1 dX12_worthAt_3 rfl hl (by decide) rfl (fun ls hl => ?_)
  exact t12_worthAt_4 hC _ _ _ _ _ _ _ _ hf hW (lv_sub hl [2, 1, 0] rfl)
set_option maxRecDepth 100000 in
set_option maxHeartbeats 4000000 in
theorem c12_worthAt (l : Launch) (D : va_G) (cy : Nat → ClassId) (ad : Nat → Nat) (aM : Nat → Nat) {x1 : Int32} {SM : Ob} {res : Int32 × Ob} (h : f12_worthAt x1 SM = some res) : GCi l yX12_worthAt wsX12_worthAt rm12_worthAt [.ref (aM 0), .int x1] D cy ad (w12 cy aM SM) (w12 cy aM (res.2)) (res.1) := fun sz => GC.start (own := RX12) (Qc := fun A => QI D cy (w12 cy aM (res.2)) A (res.1)) sz (by decide) rfl rfl (Nat.le_of_ble_eq_true rfl) (fun p e s m below meth c A ls hC hW hl => t12_worthAt_0 hC _ _ _ _ _ _ h hW (lv_sub hl [0, 1] rfl))
abbrev rm12_copies : Room := { frames := 0, cells := 0, slots := 0, locals := 0 }
theorem hdV12_copies : yX12_copies.cls = RX12 ∧ (yX12_copies.cls ≠ "java/lang/invoke/MethodHandle" ∧ yX12_copies.cls ≠ "java/lang/invoke/VarHandle" ∧ (parseMethodDescriptor yX12_copies.desc).map (fun d => d.parameters.length) = some 3) := by decide +kernel
theorem hin12_copies_12 : ∀ x ∈ u_ws RX12 TX12 39, x ∈ wsX12_copies := fun _ h => List.mem_cons_of_mem _ (List.mem_append_right _ h)
set_option maxRecDepth 100000 in
set_option maxHeartbeats 4000000 in
theorem t12_copies_3 (hC : Cx p s m args meth c cX12_copies 5 wsX12_copies RX12 none) : ∀ n : Nat, ∀ (x1 : Int32) (x2 : Int32) (x3 : Int32) (x4 : Int32) (SM : Ob) (res : Ob) (H : Heap) (locs : List Loc) (ls : Array Slot), f12_copies_3 n x1 x2 x3 x4 SM = some res → GW D cy ad (w12 cy aM SM) A s H locs → lv_has ls 5 [(0, .ref (aM 0)), (1, .int x1), (2, .int x2), (3, .int x3), (4, .int x4)] → W p l e rm12_copies s m args below meth c H locs 0 0 (MQ below (QV D cy (w12 cy aM res) A) args s 0 0 A) (F0 m 3 ls []) := by
  intro n
  induction n with
  | zero =>
    intro _ _ _ _ _ _ _ _ _ hf _ _
    exact nomatch (show (none : Option (Ob)) = some _ from hf)
  | succ n ih =>
    intro x1 x2 x3 x4 SM res H locs ls hf hW hl
    rw [f12_copies_3] at hf
    refine lv_iload hC.1 hC.2.1 dX12_copies_3 (lv_at hl 4 rfl) ?_
    refine lv_iload_n hC.1 hC.2.1 dX12_copies_5 rfl (lv_at hl 3 rfl) ?_
    refine lv_icmp_ge (tgt := 33) hC.1 hC.2.1 dX12_copies_6 (by decide) (fun hc_1 => ?_) (fun hc_1 => ?_)
    · have hf := ite_t hf hc_1
      obtain rfl := Option.some.inj hf
      exact g_vret hC hW dX12_copies_33
    · have hf := ite_f hf hc_1
      refine lv_aload_n hC.1 hC.2.1 dX12_copies_9 rfl (lv_at hl 0 rfl) ?_
      refine g_get hC hW hin12_copies_12 0 rfl rfl 25 (by decide) 1 rfl rfl dX12_copies_10 ?_
      refine lv_iload_n hC.1 hC.2.1 dX12_copies_13 rfl (lv_at hl 2 rfl) ?_
      refine lv_iload hC.1 hC.2.1 dX12_copies_14 (lv_at hl 4 rfl) ?_
      refine lv_iadd hC.1 hC.2.1 dX12_copies_16 ?_
      refine lv_aload_n hC.1 hC.2.1 dX12_copies_17 rfl (lv_at hl 0 rfl) ?_
      refine g_get hC hW hin12_copies_12 0 rfl rfl 25 (by decide) 1 rfl rfl dX12_copies_18 ?_
      refine lv_iload_n hC.1 hC.2.1 dX12_copies_21 rfl (lv_at hl 1 rfl) ?_
      refine lv_iload hC.1 hC.2.1 dX12_copies_22 (lv_at hl 4 rfl) ?_
      refine lv_iadd hC.1 hC.2.1 dX12_copies_24 ?_
      obtain ⟨hi_2, hf⟩ := ck_of hf
      refine g_iald hC hW 16 rfl hi_2 dX12_copies_25 ?_
      obtain ⟨hi_3, hf⟩ := ck_of hf
      obtain ⟨SM_4, eSM_4⟩ : ∃ y : Ob, y = oA SM 25 (Int32.toNatClampNeg (x2 + x4)) (SM.2.2.1 25 (Int32.toNatClampNeg (x1 + x4))) := ⟨_, rfl⟩
      have hf := lt_nm hf eSM_4
      refine g_iast hC hW 16 rfl hi_3 (w' := w12 cy aM SM_4) (by rw [eSM_4]; rfl) dX12_copies_26 (fun H locs hW => ?_)
      obtain ⟨x4_5, ex4_5⟩ : ∃ y : Int32, y = x4 + 1 := ⟨_, rfl⟩
      have hf := lt_nm hf ex4_5
      refine lv_iinc (v := x4_5) (lv' := [(4, .int x4_5), (0, .ref (aM 0)), (1, .int x1), (2, .int x2), (3, .int x3)]) hC.1 hC.2.1 dX12_copies_27 hl (k := 4) rfl (by rw [ex4_5]; rfl) (by decide) rfl (fun ls hl => ?_)
      refine lv_goto (tgt := 3) hC.1 hC.2.1 dX12_copies_30 (by decide) ?_
      exact ih _ _ _ _ _ _ _ _ _ hf hW (lv_sub hl [1, 2, 3, 4, 0] rfl)
set_option maxRecDepth 100000 in
set_option maxHeartbeats 4000000 in
theorem t12_copies_0 (hC : Cx p s m args meth c cX12_copies 5 wsX12_copies RX12 none) : ∀ (x1 : Int32) (x2 : Int32) (x3 : Int32) (SM : Ob) (res : Ob) (H : Heap) (locs : List Loc) (ls : Array Slot), f12_copies x1 x2 x3 SM = some res → GW D cy ad (w12 cy aM SM) A s H locs → lv_has ls 5 [(0, .ref (aM 0)), (1, .int x1), (2, .int x2), (3, .int x3)] → W p l e rm12_copies s m args below meth c H locs 0 0 (MQ below (QV D cy (w12 cy aM res) A) args s 0 0 A) (F0 m 0 ls []) := by
  intro x1 x2 x3 SM res H locs ls hf hW hl
  unfold f12_copies at hf
  refine lv_iconst (v := 0) hC.1 hC.2.1 dX12_copies_0 (by decide) ?_
  refine lv_istore (lv' := [(4, .int 0), (0, .ref (aM 0)), (1, .int x1), (2, .int x2), (3, .int x3)]) hC.1 hC.2.1 dX12_copies_1 hl (by decide) rfl (fun ls hl => ?_)
  exact t12_copies_3 hC _ _ _ _ _ _ _ _ _ _ hf hW (lv_sub hl [1, 2, 3, 4, 0] rfl)
set_option maxRecDepth 100000 in
set_option maxHeartbeats 4000000 in
theorem c12_copies (l : Launch) (D : va_G) (cy : Nat → ClassId) (ad : Nat → Nat) (aM : Nat → Nat) {x1 : Int32} {x2 : Int32} {x3 : Int32} {SM : Ob} {res : Ob} (h : f12_copies x1 x2 x3 SM = some res) : GCv l yX12_copies wsX12_copies rm12_copies [.ref (aM 0), .int x1, .int x2, .int x3] D cy ad (w12 cy aM SM) (w12 cy aM res) := fun sz => GC.start (own := RX12) (Qc := fun A => QV D cy (w12 cy aM res) A) sz (by decide) rfl rfl (Nat.le_of_ble_eq_true rfl) (fun p e s m below meth c A ls hC hW hl => t12_copies_0 hC _ _ _ _ _ _ _ _ h hW (lv_sub hl [0, 1, 2, 3] rfl))
abbrev rm12_keeps : Room := { frames := 1, cells := 0, slots := 0, locals := 24 }
theorem hdV12_keeps : yX12_keeps.cls = RX12 ∧ (yX12_keeps.cls ≠ "java/lang/invoke/MethodHandle" ∧ yX12_keeps.cls ≠ "java/lang/invoke/VarHandle" ∧ (parseMethodDescriptor yX12_keeps.desc).map (fun d => d.parameters.length) = some 0) := by decide +kernel
theorem hin12_keeps_12 : ∀ x ∈ u_ws RX12 TX12 39, x ∈ wsX12_keeps := fun _ h => List.mem_cons_of_mem _ (List.mem_append_right _ h)
set_option maxRecDepth 100000 in
set_option maxHeartbeats 4000000 in
theorem t12_keeps_53 (hC : Cx p s m args meth c cX12_keeps 2 wsX12_keeps RX12 none) : ∀ (SM : Ob) (res : Ob) (H : Heap) (locs : List Loc) (ls : Array Slot), f12_keeps_53 SM = some res → GW D cy ad (w12 cy aM SM) A s H locs → lv_has ls 2 [(0, .ref (aM 0))] → W p l e rm12_keeps s m args below meth c H locs 0 0 (MQ below (QV D cy (w12 cy aM res) A) args s 0 0 A) (F0 m 53 ls []) := by
  intro SM res H locs ls hf hW hl
  unfold f12_keeps_53 at hf
  refine lv_aload_n hC.1 hC.2.1 dX12_keeps_53 rfl (lv_at hl 0 rfl) ?_
  refine lv_iconst (v := 0) hC.1 hC.2.1 dX12_keeps_54 (by decide) ?_
  refine lv_bipush (v := 30) hC.1 hC.2.1 dX12_keeps_55 (by decide) ?_
  refine lv_iconst (v := 5) hC.1 hC.2.1 dX12_keeps_57 (by decide) ?_
  refine lv_aload_n hC.1 hC.2.1 dX12_keeps_58 rfl (lv_at hl 0 rfl) ?_
  refine g_get hC hW hin12_keeps_12 0 rfl rfl 26 (by decide) 1 rfl rfl dX12_keeps_59 ?_
  refine lv_iadd hC.1 hC.2.1 dX12_keeps_62 ?_
  refine lv_imul hC.1 hC.2.1 dX12_keeps_63 ?_
  refine lv_bipush (v := 12) hC.1 hC.2.1 dX12_keeps_64 (by decide) ?_
  obtain ⟨r_1, hg_2, hf⟩ := bd_of hf
  refine g_callvV hC hW (c12_copies l D cy ad aM hg_2) (cwV 3 hC.2.2.2.2.1 gX12_keeps_X12_copies rfl rfl rfl hdV12_copies ⟨Nat.le_of_ble_eq_true rfl, Nat.le_of_ble_eq_true rfl⟩) (Sub.all _ _) 0 11 rfl rfl rfl rfl hl.1 rfl (Nat.le_of_ble_eq_true rfl) dX12_keeps_66 ⟨Nat.zero_le _, Nat.zero_le _⟩ (fun H locs hW => ?_)
  refine lv_aload_n hC.1 hC.2.1 dX12_keeps_69 rfl (lv_at hl 0 rfl) ?_
  refine lv_dup hC.1 hC.2.1 dX12_keeps_70 rfl ?_
  refine g_get hC hW hin12_keeps_12 0 rfl rfl 26 (by decide) 1 rfl rfl dX12_keeps_71 ?_
  refine lv_iconst (v := 1) hC.1 hC.2.1 dX12_keeps_74 (by decide) ?_
  refine lv_iadd hC.1 hC.2.1 dX12_keeps_75 ?_
  obtain ⟨SM_3, eSM_3⟩ : ∃ y : Ob, y = oI r_1 26 ((r_1.1 26) + 1) := ⟨_, rfl⟩
  have hf := lt_nm hf eSM_3
  refine g_put hC hW hin12_keeps_12 tyX12 tyX12_ok nmX12 0 rfl rfl 26 (by decide) 1 rfl rfl rfl rfl (Nat.le_of_ble_eq_true rfl) (w' := w12 cy aM SM_3) (by rw [eSM_3]; rfl) dX12_keeps_76 (fun H locs hW => ?_)
  obtain rfl := Option.some.inj hf
  exact g_vret hC hW dX12_keeps_79
set_option maxRecDepth 100000 in
set_option maxHeartbeats 4000000 in
theorem t12_keeps_11 (hC : Cx p s m args meth c cX12_keeps 2 wsX12_keeps RX12 none) : ∀ n : Nat, ∀ (x1 : Int32) (SM : Ob) (res : Ob) (H : Heap) (locs : List Loc) (ls : Array Slot), f12_keeps_11 n x1 SM = some res → GW D cy ad (w12 cy aM SM) A s H locs → lv_has ls 2 [(0, .ref (aM 0)), (1, .int x1)] → W p l e rm12_keeps s m args below meth c H locs 0 0 (MQ below (QV D cy (w12 cy aM res) A) args s 0 0 A) (F0 m 11 ls []) := by
  intro n
  induction n with
  | zero =>
    intro _ _ _ _ _ _ hf _ _
    exact nomatch (show (none : Option (Ob)) = some _ from hf)
  | succ n ih =>
    intro x1 SM res H locs ls hf hW hl
    rw [f12_keeps_11] at hf
    refine lv_iload_n hC.1 hC.2.1 dX12_keeps_11 rfl (lv_at hl 1 rfl) ?_
    refine lv_bipush (v := 16) hC.1 hC.2.1 dX12_keeps_12 (by decide) ?_
    refine lv_icmp_ge (tgt := 43) hC.1 hC.2.1 dX12_keeps_14 (by decide) (fun hc_1 => ?_) (fun hc_1 => ?_)
    · have hf := ite_t hf hc_1
      refine lv_aload_n hC.1 hC.2.1 dX12_keeps_43 rfl (lv_at hl 0 rfl) ?_
      refine lv_dup hC.1 hC.2.1 dX12_keeps_44 rfl ?_
      refine g_get hC hW hin12_keeps_12 0 rfl rfl 26 (by decide) 1 rfl rfl dX12_keeps_45 ?_
      refine lv_iconst (v := 1) hC.1 hC.2.1 dX12_keeps_48 (by decide) ?_
      refine lv_isub hC.1 hC.2.1 dX12_keeps_49 ?_
      obtain ⟨SM_2, eSM_2⟩ : ∃ y : Ob, y = oI SM 26 ((SM.1 26) - 1) := ⟨_, rfl⟩
      have hf := lt_nm hf eSM_2
      refine g_put hC hW hin12_keeps_12 tyX12 tyX12_ok nmX12 0 rfl rfl 26 (by decide) 1 rfl rfl rfl rfl (Nat.le_of_ble_eq_true rfl) (w' := w12 cy aM SM_2) (by rw [eSM_2]; rfl) dX12_keeps_50 (fun H locs hW => ?_)
      exact t12_keeps_53 hC  _ _ _ _ _ hf hW (lv_sub hl [0] rfl)
    · have hf := ite_f hf hc_1
      refine lv_aload_n hC.1 hC.2.1 dX12_keeps_17 rfl (lv_at hl 0 rfl) ?_
      refine lv_bipush (v := 30) hC.1 hC.2.1 dX12_keeps_18 (by decide) ?_
      refine lv_iconst (v := 5) hC.1 hC.2.1 dX12_keeps_20 (by decide) ?_
      refine lv_iload_n hC.1 hC.2.1 dX12_keeps_21 rfl (lv_at hl 1 rfl) ?_
      refine lv_iadd hC.1 hC.2.1 dX12_keeps_22 ?_
      refine lv_imul hC.1 hC.2.1 dX12_keeps_23 ?_
      refine lv_bipush (v := 30) hC.1 hC.2.1 dX12_keeps_24 (by decide) ?_
      refine lv_iconst (v := 5) hC.1 hC.2.1 dX12_keeps_26 (by decide) ?_
      refine lv_iload_n hC.1 hC.2.1 dX12_keeps_27 rfl (lv_at hl 1 rfl) ?_
      refine lv_iadd hC.1 hC.2.1 dX12_keeps_28 ?_
      refine lv_iconst (v := 1) hC.1 hC.2.1 dX12_keeps_29 (by decide) ?_
      refine lv_isub hC.1 hC.2.1 dX12_keeps_30 ?_
      refine lv_imul hC.1 hC.2.1 dX12_keeps_31 ?_
      refine lv_bipush (v := 12) hC.1 hC.2.1 dX12_keeps_32 (by decide) ?_
      obtain ⟨r_3, hg_4, hf⟩ := bd_of hf
      refine g_callvV hC hW (c12_copies l D cy ad aM hg_4) (cwV 3 hC.2.2.2.2.1 gX12_keeps_X12_copies rfl rfl rfl hdV12_copies ⟨Nat.le_of_ble_eq_true rfl, Nat.le_of_ble_eq_true rfl⟩) (Sub.all _ _) 0 11 rfl rfl rfl rfl hl.1 rfl (Nat.le_of_ble_eq_true rfl) dX12_keeps_34 ⟨Nat.zero_le _, Nat.zero_le _⟩ (fun H locs hW => ?_)
      obtain ⟨x1_5, ex1_5⟩ : ∃ y : Int32, y = x1 + 1 := ⟨_, rfl⟩
      have hf := lt_nm hf ex1_5
      refine lv_iinc (v := x1_5) (lv' := [(1, .int x1_5), (0, .ref (aM 0))]) hC.1 hC.2.1 dX12_keeps_37 hl (k := 1) rfl (by rw [ex1_5]; rfl) (by decide) rfl (fun ls hl => ?_)
      refine lv_goto (tgt := 11) hC.1 hC.2.1 dX12_keeps_40 (by decide) ?_
      exact ih _ _ _ _ _ _ hf hW (lv_sub hl [1, 0] rfl)
set_option maxRecDepth 100000 in
set_option maxHeartbeats 4000000 in
theorem t12_keeps_0 (hC : Cx p s m args meth c cX12_keeps 2 wsX12_keeps RX12 none) : ∀ (SM : Ob) (res : Ob) (H : Heap) (locs : List Loc) (ls : Array Slot), f12_keeps SM = some res → GW D cy ad (w12 cy aM SM) A s H locs → lv_has ls 2 [(0, .ref (aM 0))] → W p l e rm12_keeps s m args below meth c H locs 0 0 (MQ below (QV D cy (w12 cy aM res) A) args s 0 0 A) (F0 m 0 ls []) := by
  intro SM res H locs ls hf hW hl
  unfold f12_keeps at hf
  refine lv_aload_n hC.1 hC.2.1 dX12_keeps_0 rfl (lv_at hl 0 rfl) ?_
  refine g_get hC hW hin12_keeps_12 0 rfl rfl 26 (by decide) 1 rfl rfl dX12_keeps_1 ?_
  refine lv_bipush (v := 16) hC.1 hC.2.1 dX12_keeps_4 (by decide) ?_
  refine lv_icmp_ne (tgt := 53) hC.1 hC.2.1 dX12_keeps_6 (by decide) (fun hc_1 => ?_) (fun hc_1 => ?_)
  · have hf := ite_f hf hc_1
    exact t12_keeps_53 hC  _ _ _ _ _ hf hW (lv_sub hl [0] rfl)
  · have hf := ite_t hf hc_1
    refine lv_iconst (v := 1) hC.1 hC.2.1 dX12_keeps_9 (by decide) ?_
    refine lv_istore_n (lv' := [(1, .int 1), (0, .ref (aM 0))]) hC.1 hC.2.1 dX12_keeps_10 rfl hl (by decide) rfl (fun ls hl => ?_)
    exact t12_keeps_11 hC _ _ _ _ _ _ _ hf hW (lv_sub hl [1, 0] rfl)
set_option maxRecDepth 100000 in
set_option maxHeartbeats 4000000 in
theorem c12_keeps (l : Launch) (D : va_G) (cy : Nat → ClassId) (ad : Nat → Nat) (aM : Nat → Nat) {SM : Ob} {res : Ob} (h : f12_keeps SM = some res) : GCv l yX12_keeps wsX12_keeps rm12_keeps [.ref (aM 0)] D cy ad (w12 cy aM SM) (w12 cy aM res) := fun sz => GC.start (own := RX12) (Qc := fun A => QV D cy (w12 cy aM res) A) sz (by decide) rfl rfl (Nat.le_of_ble_eq_true rfl) (fun p e s m below meth c A ls hC hW hl => t12_keeps_0 hC _ _ _ _ _ h hW (lv_sub hl [0] rfl))
abbrev rm12_isGuest : Room := { frames := 1, cells := 0, slots := 0, locals := 20 }
theorem hdV12_isGuest : yX12_isGuest.cls = RX12 ∧ (yX12_isGuest.cls ≠ "java/lang/invoke/MethodHandle" ∧ yX12_isGuest.cls ≠ "java/lang/invoke/VarHandle" ∧ (parseMethodDescriptor yX12_isGuest.desc).map (fun d => d.parameters.length) = some 1) := by decide +kernel
set_option maxRecDepth 100000 in
set_option maxHeartbeats 4000000 in
theorem t12_isGuest_17 (hC : Cx p s m args meth c cX12_isGuest 2 wsX12_isGuest RX12 (some .boolean)) : ∀ (z0 : Int32) (SM : Ob) (res : Int32) (H : Heap) (locs : List Loc) (ls : Array Slot), f12_isGuest_17 z0 SM = some res → GW D cy ad (w12 cy aM SM) A s H locs → lv_has ls 2 [] → W p l e rm12_isGuest s m args below meth c H locs 0 0 (MQ below (QI D cy (w12 cy aM SM) A res) args s 0 0 A) (F0 m 17 ls [.int z0]) := by
  intro z0 SM res H locs ls hf hW hl
  unfold f12_isGuest_17 at hf
  obtain ⟨hz, hf⟩ := ck_of hf
  obtain rfl := Option.some.inj hf
  exact g_zret hC hW hz dX12_isGuest_17
set_option maxRecDepth 100000 in
set_option maxHeartbeats 4000000 in
theorem t12_isGuest_16 (hC : Cx p s m args meth c cX12_isGuest 2 wsX12_isGuest RX12 (some .boolean)) : ∀ (SM : Ob) (res : Int32) (H : Heap) (locs : List Loc) (ls : Array Slot), f12_isGuest_16 SM = some res → GW D cy ad (w12 cy aM SM) A s H locs → lv_has ls 2 [] → W p l e rm12_isGuest s m args below meth c H locs 0 0 (MQ below (QI D cy (w12 cy aM SM) A res) args s 0 0 A) (F0 m 16 ls []) := by
  intro SM res H locs ls hf hW hl
  unfold f12_isGuest_16 at hf
  refine lv_iconst (v := 0) hC.1 hC.2.1 dX12_isGuest_16 (by decide) ?_
  exact t12_isGuest_17 hC  _ _ _ _ _ _ hf hW (lv_sub hl [] rfl)
set_option maxRecDepth 100000 in
set_option maxHeartbeats 4000000 in
theorem t12_isGuest_0 (hC : Cx p s m args meth c cX12_isGuest 2 wsX12_isGuest RX12 (some .boolean)) : ∀ (x1 : Int32) (SM : Ob) (res : Int32) (H : Heap) (locs : List Loc) (ls : Array Slot), f12_isGuest x1 SM = some res → GW D cy ad (w12 cy aM SM) A s H locs → lv_has ls 2 [(0, .ref (aM 0)), (1, .int x1)] → W p l e rm12_isGuest s m args below meth c H locs 0 0 (MQ below (QI D cy (w12 cy aM SM) A res) args s 0 0 A) (F0 m 0 ls []) := by
  intro x1 SM res H locs ls hf hW hl
  unfold f12_isGuest at hf
  refine lv_iload_n hC.1 hC.2.1 dX12_isGuest_0 rfl (lv_at hl 1 rfl) ?_
  refine lv_if_lt (tgt := 16) hC.1 hC.2.1 dX12_isGuest_1 (by decide) (fun hc_1 => ?_) (fun hc_1 => ?_)
  · have hf := ite_t hf hc_1
    exact t12_isGuest_16 hC  _ _ _ _ _ hf hW (lv_sub hl [] rfl)
  · have hf := ite_f hf hc_1
    refine lv_iload_n hC.1 hC.2.1 dX12_isGuest_4 rfl (lv_at hl 1 rfl) ?_
    refine lv_aload_n hC.1 hC.2.1 dX12_isGuest_5 rfl (lv_at hl 0 rfl) ?_
    obtain ⟨r_2, hg_3, hf⟩ := bd_of hf
    refine g_calliV hC hW (c12_guests l D cy ad aM hg_3) (cwV 0 hC.2.2.2.2.1 gX12_isGuest_X12_guests rfl rfl rfl hdV12_guests ⟨Nat.le_of_ble_eq_true rfl, Nat.le_of_ble_eq_true rfl⟩) (Sub.all _ _) 0 11 rfl rfl rfl rfl hl.1 rfl (Nat.le_of_ble_eq_true rfl) dX12_isGuest_6 ⟨Nat.zero_le _, Nat.zero_le _⟩ (fun H locs hW => ?_)
    refine lv_icmp_ge (tgt := 16) hC.1 hC.2.1 dX12_isGuest_9 (by decide) (fun hc_4 => ?_) (fun hc_4 => ?_)
    · have hf := ite_t hf hc_4
      exact t12_isGuest_16 hC  _ _ _ _ _ hf hW (lv_sub hl [] rfl)
    · have hf := ite_f hf hc_4
      refine lv_iconst (v := 1) hC.1 hC.2.1 dX12_isGuest_12 (by decide) ?_
      refine lv_goto (tgt := 17) hC.1 hC.2.1 dX12_isGuest_13 (by decide) ?_
      exact t12_isGuest_17 hC  _ _ _ _ _ _ hf hW (lv_sub hl [] rfl)
set_option maxRecDepth 100000 in
set_option maxHeartbeats 4000000 in
theorem c12_isGuest (l : Launch) (D : va_G) (cy : Nat → ClassId) (ad : Nat → Nat) (aM : Nat → Nat) {x1 : Int32} {SM : Ob} {res : Int32} (h : f12_isGuest x1 SM = some res) : GCi l yX12_isGuest wsX12_isGuest rm12_isGuest [.ref (aM 0), .int x1] D cy ad (w12 cy aM SM) (w12 cy aM SM) res := fun sz => GC.start (own := RX12) (Qc := fun A => QI D cy (w12 cy aM SM) A res) sz (by decide) rfl rfl (Nat.le_of_ble_eq_true rfl) (fun p e s m below meth c A ls hC hW hl => t12_isGuest_0 hC _ _ _ _ _ _ h hW (lv_sub hl [0, 1] rfl))
abbrev rm12_bits : Room := { frames := 0, cells := 0, slots := 0, locals := 0 }
theorem hdS12_bits : (yX12_bits.cls ≠ "java/lang/invoke/MethodHandle" ∧ yX12_bits.cls ≠ "java/lang/invoke/VarHandle" ∧ (parseMethodDescriptor yX12_bits.desc).map (fun d => d.parameters.length) = some 1) := by decide +kernel
set_option maxRecDepth 100000 in
set_option maxHeartbeats 4000000 in
theorem t12_bits_4 (hC : Cx p s m args meth c cX12_bits 3 wsX12_bits RX12 (some .int)) : ∀ n : Nat, ∀ (x0 : Int32) (x1 : Int32) (x2 : Int32) (res : Int32) (H : Heap) (locs : List Loc) (ls : Array Slot), f12_bits_4 n x0 x1 x2 = some res → GW D cy ad (([] : va_W)) A s H locs → lv_has ls 3 [(0, .int x0), (1, .int x1), (2, .int x2)] → W p l e rm12_bits s m args below meth c H locs 0 0 (MQ below (QI D cy (([] : va_W)) A res) args s 0 0 A) (F0 m 4 ls []) := by
  intro n
  induction n with
  | zero =>
    intro _ _ _ _ _ _ _ hf _ _
    exact nomatch (show (none : Option (Int32)) = some _ from hf)
  | succ n ih =>
    intro x0 x1 x2 res H locs ls hf hW hl
    rw [f12_bits_4] at hf
    refine lv_iload_n hC.1 hC.2.1 dX12_bits_4 rfl (lv_at hl 2 rfl) ?_
    refine lv_bipush (v := 32) hC.1 hC.2.1 dX12_bits_5 (by decide) ?_
    refine lv_icmp_ge (tgt := 24) hC.1 hC.2.1 dX12_bits_7 (by decide) (fun hc_1 => ?_) (fun hc_1 => ?_)
    · have hf := ite_t hf hc_1
      refine lv_iload_n hC.1 hC.2.1 dX12_bits_24 rfl (lv_at hl 1 rfl) ?_
      obtain rfl := Option.some.inj hf
      exact g_iret hC hW dX12_bits_25
    · have hf := ite_f hf hc_1
      refine lv_iload_n hC.1 hC.2.1 dX12_bits_10 rfl (lv_at hl 1 rfl) ?_
      refine lv_iload_n hC.1 hC.2.1 dX12_bits_11 rfl (lv_at hl 0 rfl) ?_
      refine lv_iload_n hC.1 hC.2.1 dX12_bits_12 rfl (lv_at hl 2 rfl) ?_
      refine lv_ishr hC.1 hC.2.1 dX12_bits_13 ?_
      refine lv_iconst (v := 1) hC.1 hC.2.1 dX12_bits_14 (by decide) ?_
      refine lv_iand hC.1 hC.2.1 dX12_bits_15 ?_
      refine lv_iadd hC.1 hC.2.1 dX12_bits_16 ?_
      refine lv_topi (fun x1_2 ex1_2 => ?_)
      have hf := lt_nm hf ex1_2
      refine lv_istore_n (lv' := [(1, .int x1_2), (0, .int x0), (2, .int x2)]) hC.1 hC.2.1 dX12_bits_17 rfl hl (by decide) rfl (fun ls hl => ?_)
      obtain ⟨x2_3, ex2_3⟩ : ∃ y : Int32, y = x2 + 1 := ⟨_, rfl⟩
      have hf := lt_nm hf ex2_3
      refine lv_iinc (v := x2_3) (lv' := [(2, .int x2_3), (1, .int x1_2), (0, .int x0)]) hC.1 hC.2.1 dX12_bits_18 hl (k := 2) rfl (by rw [ex2_3]; rfl) (by decide) rfl (fun ls hl => ?_)
      refine lv_goto (tgt := 4) hC.1 hC.2.1 dX12_bits_21 (by decide) ?_
      exact ih _ _ _ _ _ _ _ hf hW (lv_sub hl [2, 1, 0] rfl)
set_option maxRecDepth 100000 in
set_option maxHeartbeats 4000000 in
theorem t12_bits_0 (hC : Cx p s m args meth c cX12_bits 3 wsX12_bits RX12 (some .int)) : ∀ (x0 : Int32) (res : Int32) (H : Heap) (locs : List Loc) (ls : Array Slot), f12_bits x0 = some res → GW D cy ad (([] : va_W)) A s H locs → lv_has ls 3 [(0, .int x0)] → W p l e rm12_bits s m args below meth c H locs 0 0 (MQ below (QI D cy (([] : va_W)) A res) args s 0 0 A) (F0 m 0 ls []) := by
  intro x0 res H locs ls hf hW hl
  unfold f12_bits at hf
  refine lv_iconst (v := 0) hC.1 hC.2.1 dX12_bits_0 (by decide) ?_
  refine lv_istore_n (lv' := [(1, .int 0), (0, .int x0)]) hC.1 hC.2.1 dX12_bits_1 rfl hl (by decide) rfl (fun ls hl => ?_)
  refine lv_iconst (v := 0) hC.1 hC.2.1 dX12_bits_2 (by decide) ?_
  refine lv_istore_n (lv' := [(2, .int 0), (1, .int 0), (0, .int x0)]) hC.1 hC.2.1 dX12_bits_3 rfl hl (by decide) rfl (fun ls hl => ?_)
  exact t12_bits_4 hC _ _ _ _ _ _ _ _ hf hW (lv_sub hl [2, 1, 0] rfl)
set_option maxRecDepth 100000 in
set_option maxHeartbeats 4000000 in
theorem c12_bits (l : Launch) (D : va_G) (cy : Nat → ClassId) (ad : Nat → Nat) {x0 : Int32} {res : Int32} (h : f12_bits x0 = some res) : GCi l yX12_bits wsX12_bits rm12_bits [.int x0] D cy ad (([] : va_W)) (([] : va_W)) res := fun sz => GC.start (own := RX12) (Qc := fun A => QI D cy (([] : va_W)) A res) sz (by decide) rfl rfl (Nat.le_of_ble_eq_true rfl) (fun p e s m below meth c A ls hC hW hl => t12_bits_0 hC _ _ _ _ _ h hW (lv_sub hl [0] rfl))
abbrev rm12_isIn : Room := { frames := 0, cells := 0, slots := 0, locals := 0 }
theorem hdS12_isIn : (yX12_isIn.cls ≠ "java/lang/invoke/MethodHandle" ∧ yX12_isIn.cls ≠ "java/lang/invoke/VarHandle" ∧ (parseMethodDescriptor yX12_isIn.desc).map (fun d => d.parameters.length) = some 2) := by decide +kernel
set_option maxRecDepth 100000 in
set_option maxHeartbeats 4000000 in
theorem t12_isIn_14 (hC : Cx p s m args meth c cX12_isIn 2 wsX12_isIn RX12 (some .boolean)) : ∀ (z0 : Int32) (res : Int32) (H : Heap) (locs : List Loc) (ls : Array Slot), f12_isIn_14 z0 = some res → GW D cy ad (([] : va_W)) A s H locs → lv_has ls 2 [] → W p l e rm12_isIn s m args below meth c H locs 0 0 (MQ below (QI D cy (([] : va_W)) A res) args s 0 0 A) (F0 m 14 ls [.int z0]) := by
  intro z0 res H locs ls hf hW hl
  unfold f12_isIn_14 at hf
  obtain ⟨hz, hf⟩ := ck_of hf
  obtain rfl := Option.some.inj hf
  exact g_zret hC hW hz dX12_isIn_14
set_option maxRecDepth 100000 in
set_option maxHeartbeats 4000000 in
theorem t12_isIn_0 (hC : Cx p s m args meth c cX12_isIn 2 wsX12_isIn RX12 (some .boolean)) : ∀ (x0 : Int32) (x1 : Int32) (res : Int32) (H : Heap) (locs : List Loc) (ls : Array Slot), f12_isIn x0 x1 = some res → GW D cy ad (([] : va_W)) A s H locs → lv_has ls 2 [(0, .int x0), (1, .int x1)] → W p l e rm12_isIn s m args below meth c H locs 0 0 (MQ below (QI D cy (([] : va_W)) A res) args s 0 0 A) (F0 m 0 ls []) := by
  intro x0 x1 res H locs ls hf hW hl
  unfold f12_isIn at hf
  refine lv_iload_n hC.1 hC.2.1 dX12_isIn_0 rfl (lv_at hl 0 rfl) ?_
  refine lv_iload_n hC.1 hC.2.1 dX12_isIn_1 rfl (lv_at hl 1 rfl) ?_
  refine lv_ishr hC.1 hC.2.1 dX12_isIn_2 ?_
  refine lv_iconst (v := 1) hC.1 hC.2.1 dX12_isIn_3 (by decide) ?_
  refine lv_iand hC.1 hC.2.1 dX12_isIn_4 ?_
  refine lv_iconst (v := 1) hC.1 hC.2.1 dX12_isIn_5 (by decide) ?_
  refine lv_icmp_ne (tgt := 13) hC.1 hC.2.1 dX12_isIn_6 (by decide) (fun hc_1 => ?_) (fun hc_1 => ?_)
  · have hf := ite_f hf hc_1
    refine lv_iconst (v := 0) hC.1 hC.2.1 dX12_isIn_13 (by decide) ?_
    exact t12_isIn_14 hC  _ _ _ _ _ hf hW (lv_sub hl [] rfl)
  · have hf := ite_t hf hc_1
    refine lv_iconst (v := 1) hC.1 hC.2.1 dX12_isIn_9 (by decide) ?_
    refine lv_goto (tgt := 14) hC.1 hC.2.1 dX12_isIn_10 (by decide) ?_
    exact t12_isIn_14 hC  _ _ _ _ _ hf hW (lv_sub hl [] rfl)
set_option maxRecDepth 100000 in
set_option maxHeartbeats 4000000 in
theorem c12_isIn (l : Launch) (D : va_G) (cy : Nat → ClassId) (ad : Nat → Nat) {x0 : Int32} {x1 : Int32} {res : Int32} (h : f12_isIn x0 x1 = some res) : GCi l yX12_isIn wsX12_isIn rm12_isIn [.int x0, .int x1] D cy ad (([] : va_W)) (([] : va_W)) res := fun sz => GC.start (own := RX12) (Qc := fun A => QI D cy (([] : va_W)) A res) sz (by decide) rfl rfl (Nat.le_of_ble_eq_true rfl) (fun p e s m below meth c A ls hC hW hl => t12_isIn_0 hC _ _ _ _ _ _ h hW (lv_sub hl [0, 1] rfl))
abbrev rm12_saidIn : Room := { frames := 3, cells := 0, slots := 0, locals := 60 }
theorem hdV12_saidIn : yX12_saidIn.cls = RX12 ∧ (yX12_saidIn.cls ≠ "java/lang/invoke/MethodHandle" ∧ yX12_saidIn.cls ≠ "java/lang/invoke/VarHandle" ∧ (parseMethodDescriptor yX12_saidIn.desc).map (fun d => d.parameters.length) = some 2) := by decide +kernel
set_option maxRecDepth 100000 in
set_option maxHeartbeats 4000000 in
theorem t12_saidIn_76 (hC : Cx p s m args meth c cX12_saidIn 6 wsX12_saidIn RX12 (some .int)) : ∀ (z0 : Int32) (SM : Ob) (res : Int32) (H : Heap) (locs : List Loc) (ls : Array Slot), f12_saidIn_76 z0 SM = some res → GW D cy ad (w12 cy aM SM) A s H locs → lv_has ls 6 [] → W p l e rm12_saidIn s m args below meth c H locs 0 0 (MQ below (QI D cy (w12 cy aM SM) A res) args s 0 0 A) (F0 m 76 ls [.int z0]) := by
  intro z0 SM res H locs ls hf hW hl
  unfold f12_saidIn_76 at hf
  obtain rfl := Option.some.inj hf
  exact g_iret hC hW dX12_saidIn_76
set_option maxRecDepth 100000 in
set_option maxHeartbeats 4000000 in
theorem t12_saidIn_0 (hC : Cx p s m args meth c cX12_saidIn 6 wsX12_saidIn RX12 (some .int)) : ∀ (x1 : Int32) (x2 : Int32) (SM : Ob) (res : Int32) (H : Heap) (locs : List Loc) (ls : Array Slot), f12_saidIn x1 x2 SM = some res → GW D cy ad (w12 cy aM SM) A s H locs → lv_has ls 6 [(0, .ref (aM 0)), (1, .int x1), (2, .int x2)] → W p l e rm12_saidIn s m args below meth c H locs 0 0 (MQ below (QI D cy (w12 cy aM SM) A res) args s 0 0 A) (F0 m 0 ls []) := by
  intro x1 x2 SM res H locs ls hf hW hl
  unfold f12_saidIn at hf
  refine lv_aload_n hC.1 hC.2.1 dX12_saidIn_0 rfl (lv_at hl 0 rfl) ?_
  refine lv_iload_n hC.1 hC.2.1 dX12_saidIn_1 rfl (lv_at hl 1 rfl) ?_
  refine lv_iconst (v := 0) hC.1 hC.2.1 dX12_saidIn_2 (by decide) ?_
  obtain ⟨r_1, hg_2, hf⟩ := bd_of hf
  refine g_calliV hC hW (c12_guestOf l D cy ad aM hg_2) (cwV 2 hC.2.2.2.2.1 gX12_saidIn_X12_guestOf rfl rfl rfl hdV12_guestOf ⟨Nat.le_of_ble_eq_true rfl, Nat.le_of_ble_eq_true rfl⟩) (Sub.all _ _) 0 11 rfl rfl rfl rfl hl.1 rfl (Nat.le_of_ble_eq_true rfl) dX12_saidIn_3 ⟨Nat.zero_le _, Nat.zero_le _⟩ (fun H locs hW => ?_)
  refine lv_istore_n (lv' := [(3, .int r_1), (0, .ref (aM 0)), (1, .int x1), (2, .int x2)]) hC.1 hC.2.1 dX12_saidIn_6 rfl hl (by decide) rfl (fun ls hl => ?_)
  refine lv_iload_n hC.1 hC.2.1 dX12_saidIn_7 rfl (lv_at hl 2 rfl) ?_
  obtain ⟨r_3, hg_4, hf⟩ := bd_of hf
  refine g_calliS hC hW (c12_worldsOf l D cy ad  hg_4) (va_cwS 1 hC.2.2.2.2.1 gX12_saidIn_X12_worldsOf rfl rfl rfl hdS12_worldsOf ⟨Nat.le_of_ble_eq_true rfl, Nat.le_of_ble_eq_true rfl⟩) (Sub.nil _) rfl hl.1 rfl (Nat.le_of_ble_eq_true rfl) dX12_saidIn_8 ⟨Nat.zero_le _, Nat.zero_le _⟩ (fun H locs hW => ?_)
  refine lv_istore (lv' := [(4, .int r_3), (3, .int r_1), (0, .ref (aM 0)), (1, .int x1), (2, .int x2)]) hC.1 hC.2.1 dX12_saidIn_11 hl (by decide) rfl (fun ls hl => ?_)
  refine lv_iload_n hC.1 hC.2.1 dX12_saidIn_13 rfl (lv_at hl 4 rfl) ?_
  refine lv_iconst (v := (-1)) hC.1 hC.2.1 dX12_saidIn_14 (by decide) ?_
  refine lv_ixor hC.1 hC.2.1 dX12_saidIn_15 ?_
  refine lv_aload_n hC.1 hC.2.1 dX12_saidIn_16 rfl (lv_at hl 2 rfl) ?_
  obtain ⟨r_5, hg_6, hf⟩ := bd_of hf
  refine g_calliV hC hW (c12_everyWorld l D cy ad aM hg_6) (cwV 0 hC.2.2.2.2.1 gX12_saidIn_X12_everyWorld rfl rfl rfl hdV12_everyWorld ⟨Nat.le_of_ble_eq_true rfl, Nat.le_of_ble_eq_true rfl⟩) (Sub.all _ _) 0 11 rfl rfl rfl rfl hl.1 rfl (Nat.le_of_ble_eq_true rfl) dX12_saidIn_17 ⟨Nat.zero_le _, Nat.zero_le _⟩ (fun H locs hW => ?_)
  refine lv_iand hC.1 hC.2.1 dX12_saidIn_20 ?_
  refine lv_topi (fun x5_7 ex5_7 => ?_)
  have hf := lt_nm hf ex5_7
  refine lv_istore (lv' := [(5, .int x5_7), (4, .int r_3), (3, .int r_1), (0, .ref (aM 0)), (1, .int x1), (2, .int x2)]) hC.1 hC.2.1 dX12_saidIn_21 hl (by decide) rfl (fun ls hl => ?_)
  refine lv_iload_n hC.1 hC.2.1 dX12_saidIn_23 rfl (lv_at hl 2 rfl) ?_
  refine lv_iconst (v := 3) hC.1 hC.2.1 dX12_saidIn_24 (by decide) ?_
  refine lv_icmp_ne (tgt := 35) hC.1 hC.2.1 dX12_saidIn_25 (by decide) (fun hc_8 => ?_) (fun hc_8 => ?_)
  · have hf := ite_f hf hc_8
    refine lv_iload_n hC.1 hC.2.1 dX12_saidIn_35 rfl (lv_at hl 2 rfl) ?_
    refine lv_iconst (v := 1) hC.1 hC.2.1 dX12_saidIn_36 (by decide) ?_
    refine lv_icmp_ne (tgt := 44) hC.1 hC.2.1 dX12_saidIn_37 (by decide) (fun hc_9 => ?_) (fun hc_9 => ?_)
    · have hf := ite_f hf hc_9
      refine lv_iload_n hC.1 hC.2.1 dX12_saidIn_44 rfl (lv_at hl 2 rfl) ?_
      refine lv_iconst (v := 2) hC.1 hC.2.1 dX12_saidIn_45 (by decide) ?_
      refine lv_icmp_ne (tgt := 64) hC.1 hC.2.1 dX12_saidIn_46 (by decide) (fun hc_10 => ?_) (fun hc_10 => ?_)
      · have hf := ite_f hf hc_10
        refine lv_iload_n hC.1 hC.2.1 dX12_saidIn_64 rfl (lv_at hl 5 rfl) ?_
        refine lv_iload hC.1 hC.2.1 dX12_saidIn_65 (lv_at hl 1 rfl) ?_
        refine lv_iconst (v := (-1)) hC.1 hC.2.1 dX12_saidIn_67 (by decide) ?_
        refine lv_ixor hC.1 hC.2.1 dX12_saidIn_68 ?_
        refine lv_iand hC.1 hC.2.1 dX12_saidIn_69 ?_
        refine lv_iload hC.1 hC.2.1 dX12_saidIn_70 (lv_at hl 0 rfl) ?_
        refine lv_iload hC.1 hC.2.1 dX12_saidIn_72 (lv_at hl 1 rfl) ?_
        refine lv_iand hC.1 hC.2.1 dX12_saidIn_74 ?_
        refine lv_ior hC.1 hC.2.1 dX12_saidIn_75 ?_
        exact t12_saidIn_76 hC  _ _ _ _ _ _ hf hW (lv_sub hl [] rfl)
      · have hf := ite_t hf hc_10
        refine lv_iload hC.1 hC.2.1 dX12_saidIn_49 (lv_at hl 0 rfl) ?_
        refine lv_iload hC.1 hC.2.1 dX12_saidIn_51 (lv_at hl 1 rfl) ?_
        refine lv_iconst (v := (-1)) hC.1 hC.2.1 dX12_saidIn_53 (by decide) ?_
        refine lv_ixor hC.1 hC.2.1 dX12_saidIn_54 ?_
        refine lv_iand hC.1 hC.2.1 dX12_saidIn_55 ?_
        refine lv_iload_n hC.1 hC.2.1 dX12_saidIn_56 rfl (lv_at hl 5 rfl) ?_
        refine lv_iload hC.1 hC.2.1 dX12_saidIn_57 (lv_at hl 1 rfl) ?_
        refine lv_iand hC.1 hC.2.1 dX12_saidIn_59 ?_
        refine lv_ior hC.1 hC.2.1 dX12_saidIn_60 ?_
        refine lv_goto (tgt := 76) hC.1 hC.2.1 dX12_saidIn_61 (by decide) ?_
        exact t12_saidIn_76 hC  _ _ _ _ _ _ hf hW (lv_sub hl [] rfl)
    · have hf := ite_t hf hc_9
      refine lv_iload_n hC.1 hC.2.1 dX12_saidIn_40 rfl (lv_at hl 5 rfl) ?_
      refine lv_goto (tgt := 76) hC.1 hC.2.1 dX12_saidIn_41 (by decide) ?_
      exact t12_saidIn_76 hC  _ _ _ _ _ _ hf hW (lv_sub hl [] rfl)
  · have hf := ite_t hf hc_8
    refine lv_aload_n hC.1 hC.2.1 dX12_saidIn_28 rfl (lv_at hl 3 rfl) ?_
    obtain ⟨r_11, hg_12, hf⟩ := bd_of hf
    refine g_calliV hC hW (c12_everyWorld l D cy ad aM hg_12) (cwV 0 hC.2.2.2.2.1 gX12_saidIn_X12_everyWorld rfl rfl rfl hdV12_everyWorld ⟨Nat.le_of_ble_eq_true rfl, Nat.le_of_ble_eq_true rfl⟩) (Sub.all _ _) 0 11 rfl rfl rfl rfl hl.1 rfl (Nat.le_of_ble_eq_true rfl) dX12_saidIn_29 ⟨Nat.zero_le _, Nat.zero_le _⟩ (fun H locs hW => ?_)
    refine lv_goto (tgt := 76) hC.1 hC.2.1 dX12_saidIn_32 (by decide) ?_
    exact t12_saidIn_76 hC  _ _ _ _ _ _ hf hW (lv_sub hl [] rfl)
set_option maxRecDepth 100000 in
set_option maxHeartbeats 4000000 in
theorem c12_saidIn (l : Launch) (D : va_G) (cy : Nat → ClassId) (ad : Nat → Nat) (aM : Nat → Nat) {x1 : Int32} {x2 : Int32} {SM : Ob} {res : Int32} (h : f12_saidIn x1 x2 SM = some res) : GCi l yX12_saidIn wsX12_saidIn rm12_saidIn [.ref (aM 0), .int x1, .int x2] D cy ad (w12 cy aM SM) (w12 cy aM SM) res := fun sz => GC.start (own := RX12) (Qc := fun A => QI D cy (w12 cy aM SM) A res) sz (by decide) rfl rfl (Nat.le_of_ble_eq_true rfl) (fun p e s m below meth c A ls hC hW hl => t12_saidIn_0 hC _ _ _ _ _ _ _ h hW (lv_sub hl [0, 1, 2] rfl))
abbrev rm12_whoIn : Room := { frames := 1, cells := 0, slots := 0, locals := 20 }
theorem hdV12_whoIn : yX12_whoIn.cls = RX12 ∧ (yX12_whoIn.cls ≠ "java/lang/invoke/MethodHandle" ∧ yX12_whoIn.cls ≠ "java/lang/invoke/VarHandle" ∧ (parseMethodDescriptor yX12_whoIn.desc).map (fun d => d.parameters.length) = some 1) := by decide +kernel
set_option maxRecDepth 100000 in
set_option maxHeartbeats 4000000 in
theorem t12_whoIn_29 (hC : Cx p s m args meth c cX12_whoIn 4 wsX12_whoIn RX12 (some .int)) {k4 : Int32 → Int32 → Int32 → Ob → Option (Int32)} (hk4 : ∀ (x1 : Int32) (x2 : Int32) (x3 : Int32) (SM : Ob) (res : Int32) (H : Heap) (locs : List Loc) (ls : Array Slot), k4 x1 x2 x3 SM = some res → GW D cy ad (w12 cy aM SM) A s H locs → lv_has ls 4 [(0, .ref (aM 0)), (1, .int x1), (2, .int x2), (3, .int x3)] → W p l e rm12_whoIn s m args below meth c H locs 0 0 (MQ below (QI D cy (w12 cy aM SM) A res) args s 0 0 A) (F0 m 4 ls [])) : ∀ (x1 : Int32) (x3 : Int32) (z0 : Int32) (z1 : Int32) (SM : Ob) (res : Int32) (H : Heap) (locs : List Loc) (ls : Array Slot), f12_whoIn_29 k4 x1 x3 z0 z1 SM = some res → GW D cy ad (w12 cy aM SM) A s H locs → lv_has ls 4 [(0, .ref (aM 0)), (1, .int x1), (3, .int x3)] → W p l e rm12_whoIn s m args below meth c H locs 0 0 (MQ below (QI D cy (w12 cy aM SM) A res) args s 0 0 A) (F0 m 29 ls [.int z1, .int z0]) := by
  intro x1 x3 z0 z1 SM res H locs ls hf hW hl
  unfold f12_whoIn_29 at hf
  refine lv_ior hC.1 hC.2.1 dX12_whoIn_29 ?_
  refine lv_topi (fun x2_1 ex2_1 => ?_)
  have hf := lt_nm hf ex2_1
  refine lv_istore_n (lv' := [(2, .int x2_1), (0, .ref (aM 0)), (1, .int x1), (3, .int x3)]) hC.1 hC.2.1 dX12_whoIn_30 rfl hl (by decide) rfl (fun ls hl => ?_)
  obtain ⟨x3_2, ex3_2⟩ : ∃ y : Int32, y = x3 + 1 := ⟨_, rfl⟩
  have hf := lt_nm hf ex3_2
  refine lv_iinc (v := x3_2) (lv' := [(3, .int x3_2), (2, .int x2_1), (0, .ref (aM 0)), (1, .int x1)]) hC.1 hC.2.1 dX12_whoIn_31 hl (k := 3) rfl (by rw [ex3_2]; rfl) (by decide) rfl (fun ls hl => ?_)
  refine lv_goto (tgt := 4) hC.1 hC.2.1 dX12_whoIn_34 (by decide) ?_
  exact hk4 _ _ _ _ _ _ _ _ hf hW (lv_sub hl [2, 3, 1, 0] rfl)
set_option maxRecDepth 100000 in
set_option maxHeartbeats 4000000 in
theorem t12_whoIn_4 (hC : Cx p s m args meth c cX12_whoIn 4 wsX12_whoIn RX12 (some .int)) : ∀ n : Nat, ∀ (x1 : Int32) (x2 : Int32) (x3 : Int32) (SM : Ob) (res : Int32) (H : Heap) (locs : List Loc) (ls : Array Slot), f12_whoIn_4 n x1 x2 x3 SM = some res → GW D cy ad (w12 cy aM SM) A s H locs → lv_has ls 4 [(0, .ref (aM 0)), (1, .int x1), (2, .int x2), (3, .int x3)] → W p l e rm12_whoIn s m args below meth c H locs 0 0 (MQ below (QI D cy (w12 cy aM SM) A res) args s 0 0 A) (F0 m 4 ls []) := by
  intro n
  induction n with
  | zero =>
    intro _ _ _ _ _ _ _ _ hf _ _
    exact nomatch (show (none : Option (Int32)) = some _ from hf)
  | succ n ih =>
    intro x1 x2 x3 SM res H locs ls hf hW hl
    rw [f12_whoIn_4] at hf
    refine lv_iload_n hC.1 hC.2.1 dX12_whoIn_4 rfl (lv_at hl 3 rfl) ?_
    refine lv_aload_n hC.1 hC.2.1 dX12_whoIn_5 rfl (lv_at hl 0 rfl) ?_
    obtain ⟨r_1, hg_2, hf⟩ := bd_of hf
    refine g_calliV hC hW (c12_guests l D cy ad aM hg_2) (cwV 0 hC.2.2.2.2.1 gX12_whoIn_X12_guests rfl rfl rfl hdV12_guests ⟨Nat.le_of_ble_eq_true rfl, Nat.le_of_ble_eq_true rfl⟩) (Sub.all _ _) 0 11 rfl rfl rfl rfl hl.1 rfl (Nat.le_of_ble_eq_true rfl) dX12_whoIn_6 ⟨Nat.zero_le _, Nat.zero_le _⟩ (fun H locs hW => ?_)
    refine lv_icmp_ge (tgt := 37) hC.1 hC.2.1 dX12_whoIn_9 (by decide) (fun hc_3 => ?_) (fun hc_3 => ?_)
    · have hf := ite_t hf hc_3
      refine lv_iload_n hC.1 hC.2.1 dX12_whoIn_37 rfl (lv_at hl 2 rfl) ?_
      obtain rfl := Option.some.inj hf
      exact g_iret hC hW dX12_whoIn_38
    · have hf := ite_f hf hc_3
      refine lv_iload_n hC.1 hC.2.1 dX12_whoIn_12 rfl (lv_at hl 2 rfl) ?_
      refine lv_iload_n hC.1 hC.2.1 dX12_whoIn_13 rfl (lv_at hl 1 rfl) ?_
      refine lv_iload_n hC.1 hC.2.1 dX12_whoIn_14 rfl (lv_at hl 3 rfl) ?_
      obtain ⟨r_4, hg_5, hf⟩ := bd_of hf
      refine g_calliS hC hW (c12_worldsOf l D cy ad  hg_5) (va_cwS 1 hC.2.2.2.2.1 gX12_whoIn_X12_worldsOf rfl rfl rfl hdS12_worldsOf ⟨Nat.le_of_ble_eq_true rfl, Nat.le_of_ble_eq_true rfl⟩) (Sub.nil _) rfl hl.1 rfl (Nat.le_of_ble_eq_true rfl) dX12_whoIn_15 ⟨Nat.zero_le _, Nat.zero_le _⟩ (fun H locs hW => ?_)
      refine lv_iand hC.1 hC.2.1 dX12_whoIn_18 ?_
      refine lv_if_eq (tgt := 28) hC.1 hC.2.1 dX12_whoIn_19 (by decide) (fun hc_6 => ?_) (fun hc_6 => ?_)
      · have hf := ite_t hf hc_6
        refine lv_iconst (v := 0) hC.1 hC.2.1 dX12_whoIn_28 (by decide) ?_
        exact t12_whoIn_29 hC ih  _ _ _ _ _ _ _ _ _ hf hW (lv_sub hl [0, 1, 3] rfl)
      · have hf := ite_f hf hc_6
        refine lv_iconst (v := 1) hC.1 hC.2.1 dX12_whoIn_22 (by decide) ?_
        refine lv_iload_n hC.1 hC.2.1 dX12_whoIn_23 rfl (lv_at hl 3 rfl) ?_
        refine lv_ishl hC.1 hC.2.1 dX12_whoIn_24 ?_
        refine lv_goto (tgt := 29) hC.1 hC.2.1 dX12_whoIn_25 (by decide) ?_
        exact t12_whoIn_29 hC ih  _ _ _ _ _ _ _ _ _ hf hW (lv_sub hl [0, 1, 3] rfl)
set_option maxRecDepth 100000 in
set_option maxHeartbeats 4000000 in
theorem t12_whoIn_0 (hC : Cx p s m args meth c cX12_whoIn 4 wsX12_whoIn RX12 (some .int)) : ∀ (x1 : Int32) (SM : Ob) (res : Int32) (H : Heap) (locs : List Loc) (ls : Array Slot), f12_whoIn x1 SM = some res → GW D cy ad (w12 cy aM SM) A s H locs → lv_has ls 4 [(0, .ref (aM 0)), (1, .int x1)] → W p l e rm12_whoIn s m args below meth c H locs 0 0 (MQ below (QI D cy (w12 cy aM SM) A res) args s 0 0 A) (F0 m 0 ls []) := by
  intro x1 SM res H locs ls hf hW hl
  unfold f12_whoIn at hf
  refine lv_iconst (v := 0) hC.1 hC.2.1 dX12_whoIn_0 (by decide) ?_
  refine lv_istore_n (lv' := [(2, .int 0), (0, .ref (aM 0)), (1, .int x1)]) hC.1 hC.2.1 dX12_whoIn_1 rfl hl (by decide) rfl (fun ls hl => ?_)
  refine lv_iconst (v := 0) hC.1 hC.2.1 dX12_whoIn_2 (by decide) ?_
  refine lv_istore_n (lv' := [(3, .int 0), (2, .int 0), (0, .ref (aM 0)), (1, .int x1)]) hC.1 hC.2.1 dX12_whoIn_3 rfl hl (by decide) rfl (fun ls hl => ?_)
  exact t12_whoIn_4 hC _ _ _ _ _ _ _ _ _ hf hW (lv_sub hl [2, 3, 1, 0] rfl)
set_option maxRecDepth 100000 in
set_option maxHeartbeats 4000000 in
theorem c12_whoIn (l : Launch) (D : va_G) (cy : Nat → ClassId) (ad : Nat → Nat) (aM : Nat → Nat) {x1 : Int32} {SM : Ob} {res : Int32} (h : f12_whoIn x1 SM = some res) : GCi l yX12_whoIn wsX12_whoIn rm12_whoIn [.ref (aM 0), .int x1] D cy ad (w12 cy aM SM) (w12 cy aM SM) res := fun sz => GC.start (own := RX12) (Qc := fun A => QI D cy (w12 cy aM SM) A res) sz (by decide) rfl rfl (Nat.le_of_ble_eq_true rfl) (fun p e s m below meth c A ls hC hW hl => t12_whoIn_0 hC _ _ _ _ _ _ h hW (lv_sub hl [0, 1] rfl))
abbrev rm12_alone : Room := { frames := 0, cells := 0, slots := 0, locals := 0 }
theorem hdS12_alone : (yX12_alone.cls ≠ "java/lang/invoke/MethodHandle" ∧ yX12_alone.cls ≠ "java/lang/invoke/VarHandle" ∧ (parseMethodDescriptor yX12_alone.desc).map (fun d => d.parameters.length) = some 1) := by decide +kernel
set_option maxRecDepth 100000 in
set_option maxHeartbeats 4000000 in
theorem t12_alone_22 (hC : Cx p s m args meth c cX12_alone 3 wsX12_alone RX12 (some .int)) {k4 : Int32 → Int32 → Int32 → Option (Int32)} (hk4 : ∀ (x0 : Int32) (x1 : Int32) (x2 : Int32) (res : Int32) (H : Heap) (locs : List Loc) (ls : Array Slot), k4 x0 x1 x2 = some res → GW D cy ad (([] : va_W)) A s H locs → lv_has ls 3 [(0, .int x0), (1, .int x1), (2, .int x2)] → W p l e rm12_alone s m args below meth c H locs 0 0 (MQ below (QI D cy (([] : va_W)) A res) args s 0 0 A) (F0 m 4 ls [])) : ∀ (x0 : Int32) (x2 : Int32) (z0 : Int32) (res : Int32) (H : Heap) (locs : List Loc) (ls : Array Slot), f12_alone_22 k4 x0 x2 z0 = some res → GW D cy ad (([] : va_W)) A s H locs → lv_has ls 3 [(0, .int x0), (2, .int x2)] → W p l e rm12_alone s m args below meth c H locs 0 0 (MQ below (QI D cy (([] : va_W)) A res) args s 0 0 A) (F0 m 22 ls [.int z0]) := by
  intro x0 x2 z0 res H locs ls hf hW hl
  unfold f12_alone_22 at hf
  refine lv_istore_n (lv' := [(1, .int z0), (0, .int x0), (2, .int x2)]) hC.1 hC.2.1 dX12_alone_22 rfl hl (by decide) rfl (fun ls hl => ?_)
  obtain ⟨x2_1, ex2_1⟩ : ∃ y : Int32, y = x2 + 1 := ⟨_, rfl⟩
  have hf := lt_nm hf ex2_1
  refine lv_iinc (v := x2_1) (lv' := [(2, .int x2_1), (1, .int z0), (0, .int x0)]) hC.1 hC.2.1 dX12_alone_23 hl (k := 2) rfl (by rw [ex2_1]; rfl) (by decide) rfl (fun ls hl => ?_)
  refine lv_goto (tgt := 4) hC.1 hC.2.1 dX12_alone_26 (by decide) ?_
  exact hk4 _ _ _ _ _ _ _ hf hW (lv_sub hl [2, 1, 0] rfl)
set_option maxRecDepth 100000 in
set_option maxHeartbeats 4000000 in
theorem t12_alone_4 (hC : Cx p s m args meth c cX12_alone 3 wsX12_alone RX12 (some .int)) : ∀ n : Nat, ∀ (x0 : Int32) (x1 : Int32) (x2 : Int32) (res : Int32) (H : Heap) (locs : List Loc) (ls : Array Slot), f12_alone_4 n x0 x1 x2 = some res → GW D cy ad (([] : va_W)) A s H locs → lv_has ls 3 [(0, .int x0), (1, .int x1), (2, .int x2)] → W p l e rm12_alone s m args below meth c H locs 0 0 (MQ below (QI D cy (([] : va_W)) A res) args s 0 0 A) (F0 m 4 ls []) := by
  intro n
  induction n with
  | zero =>
    intro _ _ _ _ _ _ _ hf _ _
    exact nomatch (show (none : Option (Int32)) = some _ from hf)
  | succ n ih =>
    intro x0 x1 x2 res H locs ls hf hW hl
    rw [f12_alone_4] at hf
    refine lv_iload_n hC.1 hC.2.1 dX12_alone_4 rfl (lv_at hl 2 rfl) ?_
    refine lv_bipush (v := 8) hC.1 hC.2.1 dX12_alone_5 (by decide) ?_
    refine lv_icmp_ge (tgt := 29) hC.1 hC.2.1 dX12_alone_7 (by decide) (fun hc_1 => ?_) (fun hc_1 => ?_)
    · have hf := ite_t hf hc_1
      refine lv_iload_n hC.1 hC.2.1 dX12_alone_29 rfl (lv_at hl 1 rfl) ?_
      obtain rfl := Option.some.inj hf
      exact g_iret hC hW dX12_alone_30
    · have hf := ite_f hf hc_1
      refine lv_iload_n hC.1 hC.2.1 dX12_alone_10 rfl (lv_at hl 0 rfl) ?_
      refine lv_iconst (v := 1) hC.1 hC.2.1 dX12_alone_11 (by decide) ?_
      refine lv_iload_n hC.1 hC.2.1 dX12_alone_12 rfl (lv_at hl 2 rfl) ?_
      refine lv_ishl hC.1 hC.2.1 dX12_alone_13 ?_
      refine lv_icmp_ne (tgt := 21) hC.1 hC.2.1 dX12_alone_14 (by decide) (fun hc_2 => ?_) (fun hc_2 => ?_)
      · have hf := ite_f hf hc_2
        refine lv_iload_n hC.1 hC.2.1 dX12_alone_21 rfl (lv_at hl 1 rfl) ?_
        exact t12_alone_22 hC ih  _ _ _ _ _ _ _ hf hW (lv_sub hl [0, 2] rfl)
      · have hf := ite_t hf hc_2
        refine lv_iload_n hC.1 hC.2.1 dX12_alone_17 rfl (lv_at hl 2 rfl) ?_
        refine lv_goto (tgt := 22) hC.1 hC.2.1 dX12_alone_18 (by decide) ?_
        exact t12_alone_22 hC ih  _ _ _ _ _ _ _ hf hW (lv_sub hl [0, 2] rfl)
set_option maxRecDepth 100000 in
set_option maxHeartbeats 4000000 in
theorem t12_alone_0 (hC : Cx p s m args meth c cX12_alone 3 wsX12_alone RX12 (some .int)) : ∀ (x0 : Int32) (res : Int32) (H : Heap) (locs : List Loc) (ls : Array Slot), f12_alone x0 = some res → GW D cy ad (([] : va_W)) A s H locs → lv_has ls 3 [(0, .int x0)] → W p l e rm12_alone s m args below meth c H locs 0 0 (MQ below (QI D cy (([] : va_W)) A res) args s 0 0 A) (F0 m 0 ls []) := by
  intro x0 res H locs ls hf hW hl
  unfold f12_alone at hf
  refine lv_iconst (v := (-1)) hC.1 hC.2.1 dX12_alone_0 (by decide) ?_
  refine lv_istore_n (lv' := [(1, .int (-1)), (0, .int x0)]) hC.1 hC.2.1 dX12_alone_1 rfl hl (by decide) rfl (fun ls hl => ?_)
  refine lv_iconst (v := 0) hC.1 hC.2.1 dX12_alone_2 (by decide) ?_
  refine lv_istore_n (lv' := [(2, .int 0), (1, .int (-1)), (0, .int x0)]) hC.1 hC.2.1 dX12_alone_3 rfl hl (by decide) rfl (fun ls hl => ?_)
  exact t12_alone_4 hC _ _ _ _ _ _ _ _ hf hW (lv_sub hl [2, 1, 0] rfl)
set_option maxRecDepth 100000 in
set_option maxHeartbeats 4000000 in
theorem c12_alone (l : Launch) (D : va_G) (cy : Nat → ClassId) (ad : Nat → Nat) {x0 : Int32} {res : Int32} (h : f12_alone x0 = some res) : GCi l yX12_alone wsX12_alone rm12_alone [.int x0] D cy ad (([] : va_W)) (([] : va_W)) res := fun sz => GC.start (own := RX12) (Qc := fun A => QI D cy (([] : va_W)) A res) sz (by decide) rfl rfl (Nat.le_of_ble_eq_true rfl) (fun p e s m below meth c A ls hC hW hl => t12_alone_0 hC _ _ _ _ _ h hW (lv_sub hl [0] rfl))
abbrev rm12_guest : Room := { frames := 2, cells := 0, slots := 0, locals := 41 }
theorem hdV12_guest : yX12_guest.cls = RX12 ∧ (yX12_guest.cls ≠ "java/lang/invoke/MethodHandle" ∧ yX12_guest.cls ≠ "java/lang/invoke/VarHandle" ∧ (parseMethodDescriptor yX12_guest.desc).map (fun d => d.parameters.length) = some 2) := by decide +kernel
theorem hin12_guest_12 : ∀ x ∈ u_ws RX12 TX12 39, x ∈ wsX12_guest := fun _ h => List.mem_cons_of_mem _ (List.mem_append_right _ h)
set_option maxRecDepth 100000 in
set_option maxHeartbeats 4000000 in
theorem t12_guest_32 (hC : Cx p s m args meth c cX12_guest 3 wsX12_guest RX12 (some .int)) : ∀ (z0 : Int32) (SM : Ob) (res : Int32 × Ob) (H : Heap) (locs : List Loc) (ls : Array Slot), f12_guest_32 z0 SM = some res → GW D cy ad (w12 cy aM SM) A s H locs → lv_has ls 3 [] → W p l e rm12_guest s m args below meth c H locs 0 0 (MQ below (QI D cy (w12 cy aM (res.2)) A (res.1)) args s 0 0 A) (F0 m 32 ls [.int z0]) := by
  intro z0 SM res H locs ls hf hW hl
  unfold f12_guest_32 at hf
  obtain rfl := Option.some.inj hf
  exact g_iret hC hW dX12_guest_32
set_option maxRecDepth 100000 in
set_option maxHeartbeats 4000000 in
theorem t12_guest_31 (hC : Cx p s m args meth c cX12_guest 3 wsX12_guest RX12 (some .int)) : ∀ (SM : Ob) (res : Int32 × Ob) (H : Heap) (locs : List Loc) (ls : Array Slot), f12_guest_31 SM = some res → GW D cy ad (w12 cy aM SM) A s H locs → lv_has ls 3 [] → W p l e rm12_guest s m args below meth c H locs 0 0 (MQ below (QI D cy (w12 cy aM (res.2)) A (res.1)) args s 0 0 A) (F0 m 31 ls []) := by
  intro SM res H locs ls hf hW hl
  unfold f12_guest_31 at hf
  refine lv_iconst (v := (-1)) hC.1 hC.2.1 dX12_guest_31 (by decide) ?_
  exact t12_guest_32 hC  _ _ _ _ _ _ hf hW (lv_sub hl [] rfl)
set_option maxRecDepth 100000 in
set_option maxHeartbeats 4000000 in
theorem t12_guest_0 (hC : Cx p s m args meth c cX12_guest 3 wsX12_guest RX12 (some .int)) : ∀ (x1 : Int32) (x2 : Int32) (SM : Ob) (res : Int32 × Ob) (H : Heap) (locs : List Loc) (ls : Array Slot), f12_guest x1 x2 SM = some res → GW D cy ad (w12 cy aM SM) A s H locs → lv_has ls 3 [(0, .ref (aM 0)), (1, .int x1), (2, .int x2)] → W p l e rm12_guest s m args below meth c H locs 0 0 (MQ below (QI D cy (w12 cy aM (res.2)) A (res.1)) args s 0 0 A) (F0 m 0 ls []) := by
  intro x1 x2 SM res H locs ls hf hW hl
  unfold f12_guest at hf
  refine lv_aload_n hC.1 hC.2.1 dX12_guest_0 rfl (lv_at hl 0 rfl) ?_
  refine lv_iconst (v := 0) hC.1 hC.2.1 dX12_guest_1 (by decide) ?_
  obtain ⟨SM_1, eSM_1⟩ : ∃ y : Ob, y = oI SM 0 0 := ⟨_, rfl⟩
  have hf := lt_nm hf eSM_1
  refine g_put hC hW hin12_guest_12 tyX12 tyX12_ok nmX12 0 rfl rfl 0 (by decide) 1 rfl rfl rfl rfl (Nat.le_of_ble_eq_true rfl) (w' := w12 cy aM SM_1) (by rw [eSM_1]; rfl) dX12_guest_2 (fun H locs hW => ?_)
  refine lv_aload_n hC.1 hC.2.1 dX12_guest_5 rfl (lv_at hl 0 rfl) ?_
  refine lv_iload_n hC.1 hC.2.1 dX12_guest_6 rfl (lv_at hl 1 rfl) ?_
  obtain ⟨r_2, hg_3, hf⟩ := bd_of hf
  refine g_calliV hC hW (c12_isGuest l D cy ad aM hg_3) (cwV 1 hC.2.2.2.2.1 gX12_guest_X12_isGuest rfl rfl rfl hdV12_isGuest ⟨Nat.le_of_ble_eq_true rfl, Nat.le_of_ble_eq_true rfl⟩) (Sub.all _ _) 0 11 rfl rfl rfl rfl hl.1 rfl (Nat.le_of_ble_eq_true rfl) dX12_guest_7 ⟨Nat.zero_le _, Nat.zero_le _⟩ (fun H locs hW => ?_)
  refine lv_if_eq (tgt := 31) hC.1 hC.2.1 dX12_guest_10 (by decide) (fun hc_4 => ?_) (fun hc_4 => ?_)
  · have hf := ite_t hf hc_4
    exact t12_guest_31 hC  _ _ _ _ _ hf hW (lv_sub hl [] rfl)
  · have hf := ite_f hf hc_4
    refine lv_iload_n hC.1 hC.2.1 dX12_guest_13 rfl (lv_at hl 2 rfl) ?_
    refine lv_iconst (v := 0) hC.1 hC.2.1 dX12_guest_14 (by decide) ?_
    refine lv_iconst (v := 4) hC.1 hC.2.1 dX12_guest_15 (by decide) ?_
    obtain ⟨r_5, hg_6, hf⟩ := bd_of hf
    refine g_calliS hC hW (c12_within l D cy ad  hg_6) (va_cwS 3 hC.2.2.2.2.1 gX12_guest_X12_within rfl rfl rfl hdS12_within ⟨Nat.le_of_ble_eq_true rfl, Nat.le_of_ble_eq_true rfl⟩) (Sub.nil _) rfl hl.1 rfl (Nat.le_of_ble_eq_true rfl) dX12_guest_16 ⟨Nat.zero_le _, Nat.zero_le _⟩ (fun H locs hW => ?_)
    refine lv_if_eq (tgt := 31) hC.1 hC.2.1 dX12_guest_19 (by decide) (fun hc_7 => ?_) (fun hc_7 => ?_)
    · have hf := ite_t hf hc_7
      exact t12_guest_31 hC  _ _ _ _ _ hf hW (lv_sub hl [] rfl)
    · have hf := ite_f hf hc_7
      refine lv_aload_n hC.1 hC.2.1 dX12_guest_22 rfl (lv_at hl 0 rfl) ?_
      refine lv_iload_n hC.1 hC.2.1 dX12_guest_23 rfl (lv_at hl 1 rfl) ?_
      refine lv_iload_n hC.1 hC.2.1 dX12_guest_24 rfl (lv_at hl 2 rfl) ?_
      obtain ⟨r_8, hg_9, hf⟩ := bd_of hf
      refine g_calliV hC hW (c12_guestOf l D cy ad aM hg_9) (cwV 2 hC.2.2.2.2.1 gX12_guest_X12_guestOf rfl rfl rfl hdV12_guestOf ⟨Nat.le_of_ble_eq_true rfl, Nat.le_of_ble_eq_true rfl⟩) (Sub.all _ _) 0 11 rfl rfl rfl rfl hl.1 rfl (Nat.le_of_ble_eq_true rfl) dX12_guest_25 ⟨Nat.zero_le _, Nat.zero_le _⟩ (fun H locs hW => ?_)
      refine lv_goto (tgt := 32) hC.1 hC.2.1 dX12_guest_28 (by decide) ?_
      exact t12_guest_32 hC  _ _ _ _ _ _ hf hW (lv_sub hl [] rfl)
set_option maxRecDepth 100000 in
set_option maxHeartbeats 4000000 in
theorem c12_guest (l : Launch) (D : va_G) (cy : Nat → ClassId) (ad : Nat → Nat) (aM : Nat → Nat) {x1 : Int32} {x2 : Int32} {SM : Ob} {res : Int32 × Ob} (h : f12_guest x1 x2 SM = some res) : GCi l yX12_guest wsX12_guest rm12_guest [.ref (aM 0), .int x1, .int x2] D cy ad (w12 cy aM SM) (w12 cy aM (res.2)) (res.1) := fun sz => GC.start (own := RX12) (Qc := fun A => QI D cy (w12 cy aM (res.2)) A (res.1)) sz (by decide) rfl rfl (Nat.le_of_ble_eq_true rfl) (fun p e s m below meth c A ls hC hW hl => t12_guest_0 hC _ _ _ _ _ _ _ h hW (lv_sub hl [0, 1, 2] rfl))
abbrev rm12_shows : Room := { frames := 2, cells := 0, slots := 0, locals := 40 }
theorem hdV12_shows : yX12_shows.cls = RX12 ∧ (yX12_shows.cls ≠ "java/lang/invoke/MethodHandle" ∧ yX12_shows.cls ≠ "java/lang/invoke/VarHandle" ∧ (parseMethodDescriptor yX12_shows.desc).map (fun d => d.parameters.length) = some 1) := by decide +kernel
theorem hin12_shows_12 : ∀ x ∈ u_ws RX12 TX12 39, x ∈ wsX12_shows := fun _ h => List.mem_cons_of_mem _ (List.mem_append_right _ h)
set_option maxRecDepth 100000 in
set_option maxHeartbeats 4000000 in
theorem t12_shows_29 (hC : Cx p s m args meth c cX12_shows 2 wsX12_shows RX12 (some .int)) : ∀ (z0 : Int32) (SM : Ob) (res : Int32 × Ob) (H : Heap) (locs : List Loc) (ls : Array Slot), f12_shows_29 z0 SM = some res → GW D cy ad (w12 cy aM SM) A s H locs → lv_has ls 2 [] → W p l e rm12_shows s m args below meth c H locs 0 0 (MQ below (QI D cy (w12 cy aM (res.2)) A (res.1)) args s 0 0 A) (F0 m 29 ls [.int z0]) := by
  intro z0 SM res H locs ls hf hW hl
  unfold f12_shows_29 at hf
  obtain rfl := Option.some.inj hf
  exact g_iret hC hW dX12_shows_29
set_option maxRecDepth 100000 in
set_option maxHeartbeats 4000000 in
theorem t12_shows_0 (hC : Cx p s m args meth c cX12_shows 2 wsX12_shows RX12 (some .int)) : ∀ (x1 : Int32) (SM : Ob) (res : Int32 × Ob) (H : Heap) (locs : List Loc) (ls : Array Slot), f12_shows x1 SM = some res → GW D cy ad (w12 cy aM SM) A s H locs → lv_has ls 2 [(0, .ref (aM 0)), (1, .int x1)] → W p l e rm12_shows s m args below meth c H locs 0 0 (MQ below (QI D cy (w12 cy aM (res.2)) A (res.1)) args s 0 0 A) (F0 m 0 ls []) := by
  intro x1 SM res H locs ls hf hW hl
  unfold f12_shows at hf
  refine lv_aload_n hC.1 hC.2.1 dX12_shows_0 rfl (lv_at hl 0 rfl) ?_
  refine lv_iconst (v := 0) hC.1 hC.2.1 dX12_shows_1 (by decide) ?_
  obtain ⟨SM_1, eSM_1⟩ : ∃ y : Ob, y = oI SM 0 0 := ⟨_, rfl⟩
  have hf := lt_nm hf eSM_1
  refine g_put hC hW hin12_shows_12 tyX12 tyX12_ok nmX12 0 rfl rfl 0 (by decide) 1 rfl rfl rfl rfl (Nat.le_of_ble_eq_true rfl) (w' := w12 cy aM SM_1) (by rw [eSM_1]; rfl) dX12_shows_2 (fun H locs hW => ?_)
  refine lv_iload_n hC.1 hC.2.1 dX12_shows_5 rfl (lv_at hl 1 rfl) ?_
  refine lv_iconst (v := 0) hC.1 hC.2.1 dX12_shows_6 (by decide) ?_
  refine lv_aload_n hC.1 hC.2.1 dX12_shows_7 rfl (lv_at hl 0 rfl) ?_
  obtain ⟨r_2, hg_3, hf⟩ := bd_of hf
  refine g_calliV hC hW (c12_worlds l D cy ad aM hg_3) (cwV 0 hC.2.2.2.2.1 gX12_shows_X12_worlds rfl rfl rfl hdV12_worlds ⟨Nat.le_of_ble_eq_true rfl, Nat.le_of_ble_eq_true rfl⟩) (Sub.all _ _) 0 11 rfl rfl rfl rfl hl.1 rfl (Nat.le_of_ble_eq_true rfl) dX12_shows_8 ⟨Nat.zero_le _, Nat.zero_le _⟩ (fun H locs hW => ?_)
  refine lv_iconst (v := 1) hC.1 hC.2.1 dX12_shows_11 (by decide) ?_
  refine lv_isub hC.1 hC.2.1 dX12_shows_12 ?_
  obtain ⟨r_4, hg_5, hf⟩ := bd_of hf
  refine g_calliS hC hW (c12_within l D cy ad  hg_5) (va_cwS 3 hC.2.2.2.2.1 gX12_shows_X12_within rfl rfl rfl hdS12_within ⟨Nat.le_of_ble_eq_true rfl, Nat.le_of_ble_eq_true rfl⟩) (Sub.nil _) rfl hl.1 rfl (Nat.le_of_ble_eq_true rfl) dX12_shows_13 ⟨Nat.zero_le _, Nat.zero_le _⟩ (fun H locs hW => ?_)
  refine lv_if_eq (tgt := 28) hC.1 hC.2.1 dX12_shows_16 (by decide) (fun hc_6 => ?_) (fun hc_6 => ?_)
  · have hf := ite_t hf hc_6
    refine lv_iconst (v := (-1)) hC.1 hC.2.1 dX12_shows_28 (by decide) ?_
    exact t12_shows_29 hC  _ _ _ _ _ _ hf hW (lv_sub hl [] rfl)
  · have hf := ite_f hf hc_6
    refine lv_aload_n hC.1 hC.2.1 dX12_shows_19 rfl (lv_at hl 0 rfl) ?_
    refine g_get hC hW hin12_shows_12 0 rfl rfl 29 (by decide) 2 rfl rfl dX12_shows_20 ?_
    refine lv_iload_n hC.1 hC.2.1 dX12_shows_23 rfl (lv_at hl 1 rfl) ?_
    obtain ⟨hi_7, hf⟩ := ck_of hf
    refine g_iald hC hW 19 rfl hi_7 dX12_shows_24 ?_
    refine lv_goto (tgt := 29) hC.1 hC.2.1 dX12_shows_25 (by decide) ?_
    exact t12_shows_29 hC  _ _ _ _ _ _ hf hW (lv_sub hl [] rfl)
set_option maxRecDepth 100000 in
set_option maxHeartbeats 4000000 in
theorem c12_shows (l : Launch) (D : va_G) (cy : Nat → ClassId) (ad : Nat → Nat) (aM : Nat → Nat) {x1 : Int32} {SM : Ob} {res : Int32 × Ob} (h : f12_shows x1 SM = some res) : GCi l yX12_shows wsX12_shows rm12_shows [.ref (aM 0), .int x1] D cy ad (w12 cy aM SM) (w12 cy aM (res.2)) (res.1) := fun sz => GC.start (own := RX12) (Qc := fun A => QI D cy (w12 cy aM (res.2)) A (res.1)) sz (by decide) rfl rfl (Nat.le_of_ble_eq_true rfl) (fun p e s m below meth c A ls hC hW hl => t12_shows_0 hC _ _ _ _ _ _ h hW (lv_sub hl [0, 1] rfl))
abbrev rm12_left : Room := { frames := 0, cells := 0, slots := 0, locals := 0 }
theorem hdV12_left : yX12_left.cls = RX12 ∧ (yX12_left.cls ≠ "java/lang/invoke/MethodHandle" ∧ yX12_left.cls ≠ "java/lang/invoke/VarHandle" ∧ (parseMethodDescriptor yX12_left.desc).map (fun d => d.parameters.length) = some 0) := by decide +kernel
theorem hin12_left_12 : ∀ x ∈ u_ws RX12 TX12 39, x ∈ wsX12_left := fun _ h => List.mem_cons_of_mem _ (List.mem_append_right _ h)
set_option maxRecDepth 100000 in
set_option maxHeartbeats 4000000 in
theorem t12_left_0 (hC : Cx p s m args meth c cX12_left 1 wsX12_left RX12 (some .int)) : ∀ (SM : Ob) (res : Int32 × Ob) (H : Heap) (locs : List Loc) (ls : Array Slot), f12_left SM = some res → GW D cy ad (w12 cy aM SM) A s H locs → lv_has ls 1 [(0, .ref (aM 0))] → W p l e rm12_left s m args below meth c H locs 0 0 (MQ below (QI D cy (w12 cy aM (res.2)) A (res.1)) args s 0 0 A) (F0 m 0 ls []) := by
  intro SM res H locs ls hf hW hl
  unfold f12_left at hf
  refine lv_aload_n hC.1 hC.2.1 dX12_left_0 rfl (lv_at hl 0 rfl) ?_
  refine lv_iconst (v := 0) hC.1 hC.2.1 dX12_left_1 (by decide) ?_
  obtain ⟨SM_1, eSM_1⟩ : ∃ y : Ob, y = oI SM 0 0 := ⟨_, rfl⟩
  have hf := lt_nm hf eSM_1
  refine g_put hC hW hin12_left_12 tyX12 tyX12_ok nmX12 0 rfl rfl 0 (by decide) 1 rfl rfl rfl rfl (Nat.le_of_ble_eq_true rfl) (w' := w12 cy aM SM_1) (by rw [eSM_1]; rfl) dX12_left_2 (fun H locs hW => ?_)
  refine lv_aload_n hC.1 hC.2.1 dX12_left_5 rfl (lv_at hl 0 rfl) ?_
  refine g_get hC hW hin12_left_12 0 rfl rfl 25 (by decide) 2 rfl rfl dX12_left_6 ?_
  refine lv_iconst (v := 0) hC.1 hC.2.1 dX12_left_9 (by decide) ?_
  obtain ⟨hi_2, hf⟩ := ck_of hf
  refine g_iald hC hW 16 rfl hi_2 dX12_left_10 ?_
  obtain rfl := Option.some.inj hf
  exact g_iret hC hW dX12_left_11
set_option maxRecDepth 100000 in
set_option maxHeartbeats 4000000 in
theorem c12_left (l : Launch) (D : va_G) (cy : Nat → ClassId) (ad : Nat → Nat) (aM : Nat → Nat) {SM : Ob} {res : Int32 × Ob} (h : f12_left SM = some res) : GCi l yX12_left wsX12_left rm12_left [.ref (aM 0)] D cy ad (w12 cy aM SM) (w12 cy aM (res.2)) (res.1) := fun sz => GC.start (own := RX12) (Qc := fun A => QI D cy (w12 cy aM (res.2)) A (res.1)) sz (by decide) rfl rfl (Nat.le_of_ble_eq_true rfl) (fun p e s m below meth c A ls hC hW hl => t12_left_0 hC _ _ _ _ _ h hW (lv_sub hl [0] rfl))
abbrev rm12_leaves : Room := { frames := 2, cells := 0, slots := 0, locals := 45 }
theorem hdV12_leaves : yX12_leaves.cls = RX12 ∧ (yX12_leaves.cls ≠ "java/lang/invoke/MethodHandle" ∧ yX12_leaves.cls ≠ "java/lang/invoke/VarHandle" ∧ (parseMethodDescriptor yX12_leaves.desc).map (fun d => d.parameters.length) = some 1) := by decide +kernel
theorem hin12_leaves_12 : ∀ x ∈ u_ws RX12 TX12 39, x ∈ wsX12_leaves := fun _ h => List.mem_cons_of_mem _ (List.mem_append_right _ h)
set_option maxRecDepth 100000 in
set_option maxHeartbeats 4000000 in
theorem t12_leaves_0 (hC : Cx p s m args meth c cX12_leaves 2 wsX12_leaves RX12 (some .int)) : ∀ (x1 : Int32) (SM : Ob) (res : Int32 × Ob) (H : Heap) (locs : List Loc) (ls : Array Slot), f12_leaves x1 SM = some res → GW D cy ad (w12 cy aM SM) A s H locs → lv_has ls 2 [(0, .ref (aM 0)), (1, .int x1)] → W p l e rm12_leaves s m args below meth c H locs 0 0 (MQ below (QI D cy (w12 cy aM (res.2)) A (res.1)) args s 0 0 A) (F0 m 0 ls []) := by
  intro x1 SM res H locs ls hf hW hl
  unfold f12_leaves at hf
  refine lv_aload_n hC.1 hC.2.1 dX12_leaves_0 rfl (lv_at hl 0 rfl) ?_
  refine g_get hC hW hin12_leaves_12 0 rfl rfl 25 (by decide) 1 rfl rfl dX12_leaves_1 ?_
  refine lv_iconst (v := 0) hC.1 hC.2.1 dX12_leaves_4 (by decide) ?_
  obtain ⟨hi_1, hf⟩ := ck_of hf
  refine g_iald hC hW 16 rfl hi_1 dX12_leaves_5 ?_
  refine lv_iload_n hC.1 hC.2.1 dX12_leaves_6 rfl (lv_at hl 1 rfl) ?_
  refine lv_iand hC.1 hC.2.1 dX12_leaves_7 ?_
  refine lv_if_ne (tgt := 13) hC.1 hC.2.1 dX12_leaves_8 (by decide) (fun hc_2 => ?_) (fun hc_2 => ?_)
  · have hf := ite_f hf hc_2
    refine lv_aload_n hC.1 hC.2.1 dX12_leaves_13 rfl (lv_at hl 0 rfl) ?_
    obtain ⟨r_3, hg_4, hf⟩ := bd_of hf
    refine g_callvV hC hW (c12_keeps l D cy ad aM hg_4) (cwV 0 hC.2.2.2.2.1 gX12_leaves_X12_keeps rfl rfl rfl hdV12_keeps ⟨Nat.le_of_ble_eq_true rfl, Nat.le_of_ble_eq_true rfl⟩) (Sub.all _ _) 0 11 rfl rfl rfl rfl hl.1 rfl (Nat.le_of_ble_eq_true rfl) dX12_leaves_14 ⟨Nat.zero_le _, Nat.zero_le _⟩ (fun H locs hW => ?_)
    refine lv_aload_n hC.1 hC.2.1 dX12_leaves_17 rfl (lv_at hl 0 rfl) ?_
    refine g_get hC hW hin12_leaves_12 0 rfl rfl 25 (by decide) 1 rfl rfl dX12_leaves_18 ?_
    refine lv_iconst (v := 0) hC.1 hC.2.1 dX12_leaves_21 (by decide) ?_
    refine lv_dup2_11 hC.1 hC.2.1 dX12_leaves_22 rfl rfl ?_
    obtain ⟨hi_5, hf⟩ := ck_of hf
    refine g_iald hC hW 16 rfl hi_5 dX12_leaves_23 ?_
    refine lv_iload_n hC.1 hC.2.1 dX12_leaves_24 rfl (lv_at hl 1 rfl) ?_
    refine lv_iand hC.1 hC.2.1 dX12_leaves_25 ?_
    obtain ⟨hi_6, hf⟩ := ck_of hf
    obtain ⟨SM_7, eSM_7⟩ : ∃ y : Ob, y = oA r_3 25 (Int32.toNatClampNeg 0) ((r_3.2.2.1 25 (Int32.toNatClampNeg 0)) &&& x1) := ⟨_, rfl⟩
    have hf := lt_nm hf eSM_7
    refine g_iast hC hW 16 rfl hi_6 (w' := w12 cy aM SM_7) (by rw [eSM_7]; rfl) dX12_leaves_26 (fun H locs hW => ?_)
    refine lv_aload_n hC.1 hC.2.1 dX12_leaves_27 rfl (lv_at hl 0 rfl) ?_
    refine g_get hC hW hin12_leaves_12 0 rfl rfl 25 (by decide) 1 rfl rfl dX12_leaves_28 ?_
    refine lv_iconst (v := 0) hC.1 hC.2.1 dX12_leaves_31 (by decide) ?_
    obtain ⟨hi_8, hf⟩ := ck_of hf
    refine g_iald hC hW 16 rfl hi_8 dX12_leaves_32 ?_
    obtain ⟨r_9, hg_10, hf⟩ := bd_of hf
    refine g_calliS hC hW (c12_bits l D cy ad  hg_10) (va_cwS 1 hC.2.2.2.2.1 gX12_leaves_X12_bits rfl rfl rfl hdS12_bits ⟨Nat.le_of_ble_eq_true rfl, Nat.le_of_ble_eq_true rfl⟩) (Sub.nil _) rfl hl.1 rfl (Nat.le_of_ble_eq_true rfl) dX12_leaves_33 ⟨Nat.zero_le _, Nat.zero_le _⟩ (fun H locs hW => ?_)
    obtain rfl := Option.some.inj hf
    exact g_iret hC hW dX12_leaves_36
  · have hf := ite_t hf hc_2
    refine lv_iconst (v := (-1)) hC.1 hC.2.1 dX12_leaves_11 (by decide) ?_
    obtain rfl := Option.some.inj hf
    exact g_iret hC hW dX12_leaves_12
set_option maxRecDepth 100000 in
set_option maxHeartbeats 4000000 in
theorem c12_leaves (l : Launch) (D : va_G) (cy : Nat → ClassId) (ad : Nat → Nat) (aM : Nat → Nat) {x1 : Int32} {SM : Ob} {res : Int32 × Ob} (h : f12_leaves x1 SM = some res) : GCi l yX12_leaves wsX12_leaves rm12_leaves [.ref (aM 0), .int x1] D cy ad (w12 cy aM SM) (w12 cy aM (res.2)) (res.1) := fun sz => GC.start (own := RX12) (Qc := fun A => QI D cy (w12 cy aM (res.2)) A (res.1)) sz (by decide) rfl rfl (Nat.le_of_ble_eq_true rfl) (fun p e s m below meth c A ls hC hW hl => t12_leaves_0 hC _ _ _ _ _ _ h hW (lv_sub hl [0, 1] rfl))
abbrev rm12_answerIn : Room := { frames := 4, cells := 0, slots := 0, locals := 85 }
theorem hdV12_answerIn : yX12_answerIn.cls = RX12 ∧ (yX12_answerIn.cls ≠ "java/lang/invoke/MethodHandle" ∧ yX12_answerIn.cls ≠ "java/lang/invoke/VarHandle" ∧ (parseMethodDescriptor yX12_answerIn.desc).map (fun d => d.parameters.length) = some 3) := by decide +kernel
set_option maxRecDepth 100000 in
set_option maxHeartbeats 4000000 in
theorem t12_answerIn_24 (hC : Cx p s m args meth c cX12_answerIn 4 wsX12_answerIn RX12 (some .int)) : ∀ (z1 : Int32) (z2 : Int32) (SM : Ob) (res : Int32) (H : Heap) (locs : List Loc) (ls : Array Slot), f12_answerIn_24 z1 z2 SM = some res → GW D cy ad (w12 cy aM SM) A s H locs → lv_has ls 4 [] → W p l e rm12_answerIn s m args below meth c H locs 0 0 (MQ below (QI D cy (w12 cy aM SM) A res) args s 0 0 A) (F0 m 24 ls [.int z2, .int z1, .ref (aM 0)]) := by
  intro z1 z2 SM res H locs ls hf hW hl
  unfold f12_answerIn_24 at hf
  obtain ⟨r_1, hg_2, hf⟩ := bd_of hf
  refine g_calliV hC hW (c12_saidIn l D cy ad aM hg_2) (cwV 2 hC.2.2.2.2.1 gX12_answerIn_X12_saidIn rfl rfl rfl hdV12_saidIn ⟨Nat.le_of_ble_eq_true rfl, Nat.le_of_ble_eq_true rfl⟩) (Sub.all _ _) 0 11 rfl rfl rfl rfl hl.1 rfl (Nat.le_of_ble_eq_true rfl) dX12_answerIn_24 ⟨Nat.zero_le _, Nat.zero_le _⟩ (fun H locs hW => ?_)
  obtain rfl := Option.some.inj hf
  exact g_iret hC hW dX12_answerIn_27
set_option maxRecDepth 100000 in
set_option maxHeartbeats 4000000 in
theorem t12_answerIn_0 (hC : Cx p s m args meth c cX12_answerIn 4 wsX12_answerIn RX12 (some .int)) : ∀ (x1 : Int32) (x2 : Int32) (x3 : Int32) (SM : Ob) (res : Int32) (H : Heap) (locs : List Loc) (ls : Array Slot), f12_answerIn x1 x2 x3 SM = some res → GW D cy ad (w12 cy aM SM) A s H locs → lv_has ls 4 [(0, .ref (aM 0)), (1, .int x1), (2, .int x2), (3, .int x3)] → W p l e rm12_answerIn s m args below meth c H locs 0 0 (MQ below (QI D cy (w12 cy aM SM) A res) args s 0 0 A) (F0 m 0 ls []) := by
  intro x1 x2 x3 SM res H locs ls hf hW hl
  unfold f12_answerIn at hf
  refine lv_aload_n hC.1 hC.2.1 dX12_answerIn_0 rfl (lv_at hl 0 rfl) ?_
  refine lv_iload_n hC.1 hC.2.1 dX12_answerIn_1 rfl (lv_at hl 1 rfl) ?_
  refine lv_iload_n hC.1 hC.2.1 dX12_answerIn_2 rfl (lv_at hl 3 rfl) ?_
  refine lv_if_eq (tgt := 13) hC.1 hC.2.1 dX12_answerIn_3 (by decide) (fun hc_1 => ?_) (fun hc_1 => ?_)
  · have hf := ite_t hf hc_1
    refine lv_iload_n hC.1 hC.2.1 dX12_answerIn_13 rfl (lv_at hl 2 rfl) ?_
    obtain ⟨r_2, hg_3, hf⟩ := bd_of hf
    refine g_calliS hC hW (c12_worldsOf l D cy ad  hg_3) (va_cwS 1 hC.2.2.2.2.1 gX12_answerIn_X12_worldsOf rfl rfl rfl hdS12_worldsOf ⟨Nat.le_of_ble_eq_true rfl, Nat.le_of_ble_eq_true rfl⟩) (Sub.nil _) rfl hl.1 rfl (Nat.le_of_ble_eq_true rfl) dX12_answerIn_14 ⟨Nat.zero_le _, Nat.zero_le _⟩ (fun H locs hW => ?_)
    refine lv_iconst (v := (-1)) hC.1 hC.2.1 dX12_answerIn_17 (by decide) ?_
    refine lv_ixor hC.1 hC.2.1 dX12_answerIn_18 ?_
    refine lv_aload_n hC.1 hC.2.1 dX12_answerIn_19 rfl (lv_at hl 0 rfl) ?_
    obtain ⟨r_4, hg_5, hf⟩ := bd_of hf
    refine g_calliV hC hW (c12_everyWorld l D cy ad aM hg_5) (cwV 0 hC.2.2.2.2.1 gX12_answerIn_X12_everyWorld rfl rfl rfl hdV12_everyWorld ⟨Nat.le_of_ble_eq_true rfl, Nat.le_of_ble_eq_true rfl⟩) (Sub.all _ _) 0 11 rfl rfl rfl rfl hl.1 rfl (Nat.le_of_ble_eq_true rfl) dX12_answerIn_20 ⟨Nat.zero_le _, Nat.zero_le _⟩ (fun H locs hW => ?_)
    refine lv_iand hC.1 hC.2.1 dX12_answerIn_23 ?_
    exact t12_answerIn_24 hC  _ _ _ _ _ _ _ hf hW (lv_sub hl [] rfl)
  · have hf := ite_f hf hc_1
    refine lv_iload_n hC.1 hC.2.1 dX12_answerIn_6 rfl (lv_at hl 2 rfl) ?_
    obtain ⟨r_6, hg_7, hf⟩ := bd_of hf
    refine g_calliS hC hW (c12_worldsOf l D cy ad  hg_7) (va_cwS 1 hC.2.2.2.2.1 gX12_answerIn_X12_worldsOf rfl rfl rfl hdS12_worldsOf ⟨Nat.le_of_ble_eq_true rfl, Nat.le_of_ble_eq_true rfl⟩) (Sub.nil _) rfl hl.1 rfl (Nat.le_of_ble_eq_true rfl) dX12_answerIn_7 ⟨Nat.zero_le _, Nat.zero_le _⟩ (fun H locs hW => ?_)
    refine lv_goto (tgt := 24) hC.1 hC.2.1 dX12_answerIn_10 (by decide) ?_
    exact t12_answerIn_24 hC  _ _ _ _ _ _ _ hf hW (lv_sub hl [] rfl)
set_option maxRecDepth 100000 in
set_option maxHeartbeats 4000000 in
theorem c12_answerIn (l : Launch) (D : va_G) (cy : Nat → ClassId) (ad : Nat → Nat) (aM : Nat → Nat) {x1 : Int32} {x2 : Int32} {x3 : Int32} {SM : Ob} {res : Int32} (h : f12_answerIn x1 x2 x3 SM = some res) : GCi l yX12_answerIn wsX12_answerIn rm12_answerIn [.ref (aM 0), .int x1, .int x2, .int x3] D cy ad (w12 cy aM SM) (w12 cy aM SM) res := fun sz => GC.start (own := RX12) (Qc := fun A => QI D cy (w12 cy aM SM) A res) sz (by decide) rfl rfl (Nat.le_of_ble_eq_true rfl) (fun p e s m below meth c A ls hC hW hl => t12_answerIn_0 hC _ _ _ _ _ _ _ _ h hW (lv_sub hl [0, 1, 2, 3] rfl))
end
