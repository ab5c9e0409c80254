/-! laid by program: functions, walks and contracts of 12_likely, 12_odds, 12_errors, 12_findRooms, 12_hunt -/
set_option maxRecDepth 20000 in
theorem gX12_likely_X12_guests : GoodIn wsX12_likely (wsV RX12 328 RX12 yX12_guests wsX12_guests) := goodIn_r _ [2, 3, 4, 5, 6, 7, 29, 30, 31, 32, 33, 34, 35, 36, 37, 38, 39, 40, 41, 42, 43, 44, 45, 46, 47, 48, 49, 50, 51, 52, 53, 54, 55, 56, 57, 58, 59, 60, 61, 62, 63, 64, 65, 66, 67] rfl (by decide +kernel)
set_option maxRecDepth 20000 in
theorem gX12_likely_X12_oddsOf : GoodIn wsX12_likely (wsV RX12 423 RX12 yX12_oddsOf wsX12_oddsOf) := goodIn_r _ [8, 9, 10, 5, 11, 12, 13, 14, 5, 15, 16, 17, 18, 19, 20, 21, 22, 23, 24, 7, 25, 26, 27, 28, 29, 30, 31, 32, 33, 34, 35, 36, 37, 38, 39, 40, 41, 42, 43, 44, 45, 46, 47, 48, 49, 50, 51, 52, 53, 54, 55, 56, 57, 58, 59, 60, 61, 62, 63, 64, 65, 66, 67] rfl (by decide +kernel)
theorem dX12_likely_0 : decode cX12_likely 0 = .ok (.aload_n 0, 1) := by decide +kernel
theorem dX12_likely_1 : decode cX12_likely 1 = .ok (.iconst 0, 1) := by decide +kernel
theorem dX12_likely_2 : decode cX12_likely 2 = .ok (.putfield 1, 3) := by decide +kernel
theorem dX12_likely_5 : decode cX12_likely 5 = .ok (.iconst (-1), 1) := by decide +kernel
theorem dX12_likely_6 : decode cX12_likely 6 = .ok (.istore_n 1, 1) := by decide +kernel
theorem dX12_likely_7 : decode cX12_likely 7 = .ok (.lconst 0, 1) := by decide +kernel
theorem dX12_likely_8 : decode cX12_likely 8 = .ok (.lstore_n 2, 1) := by decide +kernel
theorem dX12_likely_9 : decode cX12_likely 9 = .ok (.iconst 0, 1) := by decide +kernel
theorem dX12_likely_10 : decode cX12_likely 10 = .ok (.istore 4, 2) := by decide +kernel
theorem dX12_likely_12 : decode cX12_likely 12 = .ok (.iload 4, 2) := by decide +kernel
theorem dX12_likely_14 : decode cX12_likely 14 = .ok (.aload_n 0, 1) := by decide +kernel
theorem dX12_likely_15 : decode cX12_likely 15 = .ok (.invokevirtual 328, 3) := by decide +kernel
theorem dX12_likely_18 : decode cX12_likely 18 = .ok (.if_icmp .ge 45, 3) := by decide +kernel
theorem dX12_likely_21 : decode cX12_likely 21 = .ok (.aload_n 0, 1) := by decide +kernel
theorem dX12_likely_22 : decode cX12_likely 22 = .ok (.iload 4, 2) := by decide +kernel
theorem dX12_likely_24 : decode cX12_likely 24 = .ok (.invokevirtual 423, 3) := by decide +kernel
theorem dX12_likely_27 : decode cX12_likely 27 = .ok (.lstore 5, 2) := by decide +kernel
theorem dX12_likely_29 : decode cX12_likely 29 = .ok (.lload 5, 2) := by decide +kernel
theorem dX12_likely_31 : decode cX12_likely 31 = .ok (.lload_n 2, 1) := by decide +kernel
theorem dX12_likely_32 : decode cX12_likely 32 = .ok (.lcmp, 1) := by decide +kernel
theorem dX12_likely_33 : decode cX12_likely 33 = .ok (.ifCond .le 8, 3) := by decide +kernel
theorem dX12_likely_36 : decode cX12_likely 36 = .ok (.iload 4, 2) := by decide +kernel
theorem dX12_likely_38 : decode cX12_likely 38 = .ok (.goto 4, 3) := by decide +kernel
theorem dX12_likely_41 : decode cX12_likely 41 = .ok (.iload_n 1, 1) := by decide +kernel
theorem dX12_likely_42 : decode cX12_likely 42 = .ok (.istore_n 1, 1) := by decide +kernel
theorem dX12_likely_43 : decode cX12_likely 43 = .ok (.lload 5, 2) := by decide +kernel
theorem dX12_likely_45 : decode cX12_likely 45 = .ok (.lload_n 2, 1) := by decide +kernel
theorem dX12_likely_46 : decode cX12_likely 46 = .ok (.lcmp, 1) := by decide +kernel
theorem dX12_likely_47 : decode cX12_likely 47 = .ok (.ifCond .le 8, 3) := by decide +kernel
theorem dX12_likely_50 : decode cX12_likely 50 = .ok (.lload 5, 2) := by decide +kernel
theorem dX12_likely_52 : decode cX12_likely 52 = .ok (.goto 4, 3) := by decide +kernel
theorem dX12_likely_55 : decode cX12_likely 55 = .ok (.lload_n 2, 1) := by decide +kernel
theorem dX12_likely_56 : decode cX12_likely 56 = .ok (.lstore_n 2, 1) := by decide +kernel
theorem dX12_likely_57 : decode cX12_likely 57 = .ok (.iinc 4 1, 3) := by decide +kernel
theorem dX12_likely_60 : decode cX12_likely 60 = .ok (.goto (-48), 3) := by decide +kernel
theorem dX12_likely_63 : decode cX12_likely 63 = .ok (.iload_n 1, 1) := by decide +kernel
theorem dX12_likely_64 : decode cX12_likely 64 = .ok (.ireturn, 1) := by decide +kernel
set_option maxRecDepth 20000 in
theorem gX12_odds_X12_guests : GoodIn wsX12_odds (wsV RX12 328 RX12 yX12_guests wsX12_guests) := goodIn_r _ [3, 4, 5, 6, 7, 8, 34, 35, 36, 37, 38, 39, 40, 41, 42, 43, 44, 45, 46, 47, 48, 49, 50, 51, 52, 53, 54, 55, 56, 57, 58, 59, 60, 61, 62, 63, 64, 65, 66, 67, 68, 69, 70, 71, 72] rfl (by decide +kernel)
set_option maxRecDepth 20000 in
theorem gX12_odds_X12_oddsOf : GoodIn wsX12_odds (wsV RX12 423 RX12 yX12_oddsOf wsX12_oddsOf) := goodIn_r _ [9, 10, 11, 6, 12, 13, 14, 15, 6, 16, 17, 18, 19, 20, 21, 22, 23, 24, 25, 8, 26, 27, 28, 29, 34, 35, 36, 37, 38, 39, 40, 41, 42, 43, 44, 45, 46, 47, 48, 49, 50, 51, 52, 53, 54, 55, 56, 57, 58, 59, 60, 61, 62, 63, 64, 65, 66, 67, 68, 69, 70, 71, 72] rfl (by decide +kernel)
set_option maxRecDepth 20000 in
theorem gX12_odds_X12_isGuest : GoodIn wsX12_odds (wsV RX12 365 RX12 yX12_isGuest wsX12_isGuest) := goodIn_r _ [30, 31, 32, 6, 33, 3, 4, 5, 6, 7, 8, 34, 35, 36, 37, 38, 39, 40, 41, 42, 43, 44, 45, 46, 47, 48, 49, 50, 51, 52, 53, 54, 55, 56, 57, 58, 59, 60, 61, 62, 63, 64, 65, 66, 67, 68, 69, 70, 71, 72] rfl (by decide +kernel)
theorem dX12_odds_0 : decode cX12_odds 0 = .ok (.aload_n 0, 1) := by decide +kernel
theorem dX12_odds_1 : decode cX12_odds 1 = .ok (.iconst 0, 1) := by decide +kernel
theorem dX12_odds_2 : decode cX12_odds 2 = .ok (.putfield 1, 3) := by decide +kernel
theorem dX12_odds_5 : decode cX12_odds 5 = .ok (.lconst 0, 1) := by decide +kernel
theorem dX12_odds_6 : decode cX12_odds 6 = .ok (.lstore_n 2, 1) := by decide +kernel
theorem dX12_odds_7 : decode cX12_odds 7 = .ok (.iconst 0, 1) := by decide +kernel
theorem dX12_odds_8 : decode cX12_odds 8 = .ok (.istore 4, 2) := by decide +kernel
theorem dX12_odds_10 : decode cX12_odds 10 = .ok (.iload 4, 2) := by decide +kernel
theorem dX12_odds_12 : decode cX12_odds 12 = .ok (.aload_n 0, 1) := by decide +kernel
theorem dX12_odds_13 : decode cX12_odds 13 = .ok (.invokevirtual 328, 3) := by decide +kernel
theorem dX12_odds_16 : decode cX12_odds 16 = .ok (.if_icmp .ge 18, 3) := by decide +kernel
theorem dX12_odds_19 : decode cX12_odds 19 = .ok (.lload_n 2, 1) := by decide +kernel
theorem dX12_odds_20 : decode cX12_odds 20 = .ok (.aload_n 0, 1) := by decide +kernel
theorem dX12_odds_21 : decode cX12_odds 21 = .ok (.iload 4, 2) := by decide +kernel
theorem dX12_odds_23 : decode cX12_odds 23 = .ok (.invokevirtual 423, 3) := by decide +kernel
theorem dX12_odds_26 : decode cX12_odds 26 = .ok (.ladd, 1) := by decide +kernel
theorem dX12_odds_27 : decode cX12_odds 27 = .ok (.lstore_n 2, 1) := by decide +kernel
theorem dX12_odds_28 : decode cX12_odds 28 = .ok (.iinc 4 1, 3) := by decide +kernel
theorem dX12_odds_31 : decode cX12_odds 31 = .ok (.goto (-21), 3) := by decide +kernel
theorem dX12_odds_34 : decode cX12_odds 34 = .ok (.aload_n 0, 1) := by decide +kernel
theorem dX12_odds_35 : decode cX12_odds 35 = .ok (.iload_n 1, 1) := by decide +kernel
theorem dX12_odds_36 : decode cX12_odds 36 = .ok (.invokevirtual 365, 3) := by decide +kernel
theorem dX12_odds_39 : decode cX12_odds 39 = .ok (.ifCond .eq 9, 3) := by decide +kernel
theorem dX12_odds_42 : decode cX12_odds 42 = .ok (.lload_n 2, 1) := by decide +kernel
theorem dX12_odds_43 : decode cX12_odds 43 = .ok (.lconst 0, 1) := by decide +kernel
theorem dX12_odds_44 : decode cX12_odds 44 = .ok (.lcmp, 1) := by decide +kernel
theorem dX12_odds_45 : decode cX12_odds 45 = .ok (.ifCond .ne 7, 3) := by decide +kernel
theorem dX12_odds_48 : decode cX12_odds 48 = .ok (.iconst (-1), 1) := by decide +kernel
theorem dX12_odds_49 : decode cX12_odds 49 = .ok (.goto 15, 3) := by decide +kernel
theorem dX12_odds_52 : decode cX12_odds 52 = .ok (.aload_n 0, 1) := by decide +kernel
theorem dX12_odds_53 : decode cX12_odds 53 = .ok (.iload_n 1, 1) := by decide +kernel
theorem dX12_odds_54 : decode cX12_odds 54 = .ok (.invokevirtual 423, 3) := by decide +kernel
theorem dX12_odds_57 : decode cX12_odds 57 = .ok (.ldc2_w 426, 3) := by decide +kernel
theorem dX12_odds_60 : decode cX12_odds 60 = .ok (.lmul, 1) := by decide +kernel
theorem dX12_odds_61 : decode cX12_odds 61 = .ok (.lload_n 2, 1) := by decide +kernel
theorem dX12_odds_62 : decode cX12_odds 62 = .ok (.ldiv, 1) := by decide +kernel
theorem dX12_odds_63 : decode cX12_odds 63 = .ok (.l2i, 1) := by decide +kernel
theorem dX12_odds_64 : decode cX12_odds 64 = .ok (.ireturn, 1) := by decide +kernel
set_option maxRecDepth 20000 in
theorem gX12_errors_X12_isGuest : GoodIn wsX12_errors (wsV RX12 365 RX12 yX12_isGuest wsX12_isGuest) := goodIn_r _ [6, 7, 8, 9, 10, 11, 12, 13, 9, 14, 15, 38, 39, 40, 41, 42, 43, 44, 45, 46, 47, 48, 49, 50, 51, 52, 53, 54, 55, 56, 57, 58, 59, 60, 61, 62, 63, 64, 65, 66, 67, 68, 69, 70, 71, 72, 73, 74, 75, 76] rfl (by decide +kernel)
set_option maxRecDepth 20000 in
theorem gX12_errors_X12_signs : GoodIn wsX12_errors (wsV RX12 337 RX12 yX12_signs wsX12_signs) := goodIn_r _ [16, 17, 18, 9, 19, 15, 38, 39, 40, 41, 42, 43, 44, 45, 46, 47, 48, 49, 50, 51, 52, 53, 54, 55, 56, 57, 58, 59, 60, 61, 62, 63, 64, 65, 66, 67, 68, 69, 70, 71, 72, 73, 74, 75, 76] rfl (by decide +kernel)
set_option maxRecDepth 20000 in
theorem gX12_errors_X12_within : GoodIn wsX12_errors (va_wsS RX12 241 yX12_within wsX12_within) := goodIn_r _ [20, 21, 9, 22] rfl (by decide +kernel)
set_option maxRecDepth 20000 in
theorem gX12_errors_X12_worlds : GoodIn wsX12_errors (wsV RX12 331 RX12 yX12_worlds wsX12_worlds) := goodIn_r _ [23, 24, 25, 9, 26, 11, 12, 13, 9, 14, 15, 38, 39, 40, 41, 42, 43, 44, 45, 46, 47, 48, 49, 50, 51, 52, 53, 54, 55, 56, 57, 58, 59, 60, 61, 62, 63, 64, 65, 66, 67, 68, 69, 70, 71, 72, 73, 74, 75, 76] rfl (by decide +kernel)
set_option maxRecDepth 20000 in
theorem gX12_errors_X12_isIn : GoodIn wsX12_errors (va_wsS RX12 400 yX12_isIn wsX12_isIn) := goodIn_r _ [27, 28, 9, 29] rfl (by decide +kernel)
set_option maxRecDepth 20000 in
theorem gX12_errors_X12_errsOf : GoodIn wsX12_errors (wsV RX12 416 RX12 yX12_errsOf wsX12_errsOf) := goodIn_r _ [30, 31, 32, 9, 33, 15, 38, 39, 40, 41, 42, 43, 44, 45, 46, 47, 48, 49, 50, 51, 52, 53, 54, 55, 56, 57, 58, 59, 60, 61, 62, 63, 64, 65, 66, 67, 68, 69, 70, 71, 72, 73, 74, 75, 76] rfl (by decide +kernel)
set_option maxRecDepth 20000 in
theorem gX12_errors_X12_guestOf : GoodIn wsX12_errors (wsV RX12 353 RX12 yX12_guestOf wsX12_guestOf) := goodIn_r _ [34, 35, 36, 9, 37, 15, 38, 39, 40, 41, 42, 43, 44, 45, 46, 47, 48, 49, 50, 51, 52, 53, 54, 55, 56, 57, 58, 59, 60, 61, 62, 63, 64, 65, 66, 67, 68, 69, 70, 71, 72, 73, 74, 75, 76] rfl (by decide +kernel)
theorem dX12_errors_0 : decode cX12_errors 0 = .ok (.aload_n 0, 1) := by decide +kernel
theorem dX12_errors_1 : decode cX12_errors 1 = .ok (.iconst 0, 1) := by decide +kernel
theorem dX12_errors_2 : decode cX12_errors 2 = .ok (.putfield 1, 3) := by decide +kernel
theorem dX12_errors_5 : decode cX12_errors 5 = .ok (.aload_n 0, 1) := by decide +kernel
theorem dX12_errors_6 : decode cX12_errors 6 = .ok (.iload_n 1, 1) := by decide +kernel
theorem dX12_errors_7 : decode cX12_errors 7 = .ok (.invokevirtual 365, 3) := by decide +kernel
theorem dX12_errors_10 : decode cX12_errors 10 = .ok (.ifCond .eq 26, 3) := by decide +kernel
theorem dX12_errors_13 : decode cX12_errors 13 = .ok (.iload_n 2, 1) := by decide +kernel
theorem dX12_errors_14 : decode cX12_errors 14 = .ok (.iconst 0, 1) := by decide +kernel
theorem dX12_errors_15 : decode cX12_errors 15 = .ok (.aload_n 0, 1) := by decide +kernel
theorem dX12_errors_16 : decode cX12_errors 16 = .ok (.invokevirtual 337, 3) := by decide +kernel
theorem dX12_errors_19 : decode cX12_errors 19 = .ok (.iconst 1, 1) := by decide +kernel
theorem dX12_errors_20 : decode cX12_errors 20 = .ok (.isub, 1) := by decide +kernel
theorem dX12_errors_21 : decode cX12_errors 21 = .ok (.invokestatic 241, 3) := by decide +kernel
theorem dX12_errors_24 : decode cX12_errors 24 = .ok (.ifCond .eq 12, 3) := by decide +kernel
theorem dX12_errors_27 : decode cX12_errors 27 = .ok (.iload_n 3, 1) := by decide +kernel
theorem dX12_errors_28 : decode cX12_errors 28 = .ok (.iconst 0, 1) := by decide +kernel
theorem dX12_errors_29 : decode cX12_errors 29 = .ok (.iconst 1, 1) := by decide +kernel
theorem dX12_errors_30 : decode cX12_errors 30 = .ok (.invokestatic 241, 3) := by decide +kernel
theorem dX12_errors_33 : decode cX12_errors 33 = .ok (.ifCond .ne 5, 3) := by decide +kernel
theorem dX12_errors_36 : decode cX12_errors 36 = .ok (.iconst (-1), 1) := by decide +kernel
theorem dX12_errors_37 : decode cX12_errors 37 = .ok (.ireturn, 1) := by decide +kernel
theorem dX12_errors_38 : decode cX12_errors 38 = .ok (.lconst 0, 1) := by decide +kernel
theorem dX12_errors_39 : decode cX12_errors 39 = .ok (.lstore 4, 2) := by decide +kernel
theorem dX12_errors_41 : decode cX12_errors 41 = .ok (.lconst 0, 1) := by decide +kernel
theorem dX12_errors_42 : decode cX12_errors 42 = .ok (.lstore 6, 2) := by decide +kernel
theorem dX12_errors_44 : decode cX12_errors 44 = .ok (.iconst 0, 1) := by decide +kernel
theorem dX12_errors_45 : decode cX12_errors 45 = .ok (.istore 8, 2) := by decide +kernel
theorem dX12_errors_47 : decode cX12_errors 47 = .ok (.iload 8, 2) := by decide +kernel
theorem dX12_errors_49 : decode cX12_errors 49 = .ok (.aload_n 0, 1) := by decide +kernel
theorem dX12_errors_50 : decode cX12_errors 50 = .ok (.invokevirtual 331, 3) := by decide +kernel
theorem dX12_errors_53 : decode cX12_errors 53 = .ok (.if_icmp .ge 131, 3) := by decide +kernel
theorem dX12_errors_56 : decode cX12_errors 56 = .ok (.aload_n 0, 1) := by decide +kernel
theorem dX12_errors_57 : decode cX12_errors 57 = .ok (.getfield 131, 3) := by decide +kernel
theorem dX12_errors_60 : decode cX12_errors 60 = .ok (.iconst 0, 1) := by decide +kernel
theorem dX12_errors_61 : decode cX12_errors 61 = .ok (.iaload, 1) := by decide +kernel
theorem dX12_errors_62 : decode cX12_errors 62 = .ok (.iload 8, 2) := by decide +kernel
theorem dX12_errors_64 : decode cX12_errors 64 = .ok (.invokestatic 400, 3) := by decide +kernel
theorem dX12_errors_67 : decode cX12_errors 67 = .ok (.ifCond .eq 111, 3) := by decide +kernel
theorem dX12_errors_70 : decode cX12_errors 70 = .ok (.iload 8, 2) := by decide +kernel
theorem dX12_errors_72 : decode cX12_errors 72 = .ok (.iconst 4, 1) := by decide +kernel
theorem dX12_errors_73 : decode cX12_errors 73 = .ok (.idiv, 1) := by decide +kernel
theorem dX12_errors_74 : decode cX12_errors 74 = .ok (.iload_n 1, 1) := by decide +kernel
theorem dX12_errors_75 : decode cX12_errors 75 = .ok (.if_icmp .ne 7, 3) := by decide +kernel
theorem dX12_errors_78 : decode cX12_errors 78 = .ok (.iconst 1, 1) := by decide +kernel
theorem dX12_errors_79 : decode cX12_errors 79 = .ok (.goto 4, 3) := by decide +kernel
theorem dX12_errors_82 : decode cX12_errors 82 = .ok (.iconst 0, 1) := by decide +kernel
theorem dX12_errors_83 : decode cX12_errors 83 = .ok (.iload_n 3, 1) := by decide +kernel
theorem dX12_errors_84 : decode cX12_errors 84 = .ok (.iconst 1, 1) := by decide +kernel
theorem dX12_errors_85 : decode cX12_errors 85 = .ok (.if_icmp .ne 7, 3) := by decide +kernel
theorem dX12_errors_88 : decode cX12_errors 88 = .ok (.iconst 1, 1) := by decide +kernel
theorem dX12_errors_89 : decode cX12_errors 89 = .ok (.goto 4, 3) := by decide +kernel
theorem dX12_errors_92 : decode cX12_errors 92 = .ok (.iconst 0, 1) := by decide +kernel
theorem dX12_errors_93 : decode cX12_errors 93 = .ok (.if_icmp .ne 85, 3) := by decide +kernel
theorem dX12_errors_96 : decode cX12_errors 96 = .ok (.aload_n 0, 1) := by decide +kernel
theorem dX12_errors_97 : decode cX12_errors 97 = .ok (.getfield 138, 3) := by decide +kernel
theorem dX12_errors_100 : decode cX12_errors 100 = .ok (.iload_n 2, 1) := by decide +kernel
theorem dX12_errors_101 : decode cX12_errors 101 = .ok (.iaload, 1) := by decide +kernel
theorem dX12_errors_102 : decode cX12_errors 102 = .ok (.iload 8, 2) := by decide +kernel
theorem dX12_errors_104 : decode cX12_errors 104 = .ok (.invokestatic 400, 3) := by decide +kernel
theorem dX12_errors_107 : decode cX12_errors 107 = .ok (.ifCond .eq 14, 3) := by decide +kernel
theorem dX12_errors_110 : decode cX12_errors 110 = .ok (.bipush 10, 2) := by decide +kernel
theorem dX12_errors_112 : decode cX12_errors 112 = .ok (.aload_n 0, 1) := by decide +kernel
theorem dX12_errors_113 : decode cX12_errors 113 = .ok (.iload_n 2, 1) := by decide +kernel
theorem dX12_errors_114 : decode cX12_errors 114 = .ok (.invokevirtual 416, 3) := by decide +kernel
theorem dX12_errors_117 : decode cX12_errors 117 = .ok (.isub, 1) := by decide +kernel
theorem dX12_errors_118 : decode cX12_errors 118 = .ok (.goto 8, 3) := by decide +kernel
theorem dX12_errors_121 : decode cX12_errors 121 = .ok (.aload_n 0, 1) := by decide +kernel
theorem dX12_errors_122 : decode cX12_errors 122 = .ok (.iload_n 2, 1) := by decide +kernel
theorem dX12_errors_123 : decode cX12_errors 123 = .ok (.invokevirtual 416, 3) := by decide +kernel
theorem dX12_errors_126 : decode cX12_errors 126 = .ok (.istore 9, 2) := by decide +kernel
theorem dX12_errors_128 : decode cX12_errors 128 = .ok (.lload 4, 2) := by decide +kernel
theorem dX12_errors_130 : decode cX12_errors 130 = .ok (.aload_n 0, 1) := by decide +kernel
theorem dX12_errors_131 : decode cX12_errors 131 = .ok (.iload 8, 2) := by decide +kernel
theorem dX12_errors_133 : decode cX12_errors 133 = .ok (.iconst 4, 1) := by decide +kernel
theorem dX12_errors_134 : decode cX12_errors 134 = .ok (.idiv, 1) := by decide +kernel
theorem dX12_errors_135 : decode cX12_errors 135 = .ok (.iconst 2, 1) := by decide +kernel
theorem dX12_errors_136 : decode cX12_errors 136 = .ok (.invokevirtual 353, 3) := by decide +kernel
theorem dX12_errors_139 : decode cX12_errors 139 = .ok (.i2l, 1) := by decide +kernel
theorem dX12_errors_140 : decode cX12_errors 140 = .ok (.iload_n 3, 1) := by decide +kernel
theorem dX12_errors_141 : decode cX12_errors 141 = .ok (.ifCond .ne 8, 3) := by decide +kernel
theorem dX12_errors_144 : decode cX12_errors 144 = .ok (.iload 9, 2) := by decide +kernel
theorem dX12_errors_146 : decode cX12_errors 146 = .ok (.goto 8, 3) := by decide +kernel
theorem dX12_errors_149 : decode cX12_errors 149 = .ok (.bipush 10, 2) := by decide +kernel
theorem dX12_errors_151 : decode cX12_errors 151 = .ok (.iload 9, 2) := by decide +kernel
theorem dX12_errors_153 : decode cX12_errors 153 = .ok (.isub, 1) := by decide +kernel
theorem dX12_errors_154 : decode cX12_errors 154 = .ok (.i2l, 1) := by decide +kernel
theorem dX12_errors_155 : decode cX12_errors 155 = .ok (.lmul, 1) := by decide +kernel
theorem dX12_errors_156 : decode cX12_errors 156 = .ok (.ladd, 1) := by decide +kernel
theorem dX12_errors_157 : decode cX12_errors 157 = .ok (.lstore 4, 2) := by decide +kernel
theorem dX12_errors_159 : decode cX12_errors 159 = .ok (.lload 6, 2) := by decide +kernel
theorem dX12_errors_161 : decode cX12_errors 161 = .ok (.ldc2_w 188, 3) := by decide +kernel
theorem dX12_errors_164 : decode cX12_errors 164 = .ok (.aload_n 0, 1) := by decide +kernel
theorem dX12_errors_165 : decode cX12_errors 165 = .ok (.iload 8, 2) := by decide +kernel
theorem dX12_errors_167 : decode cX12_errors 167 = .ok (.iconst 4, 1) := by decide +kernel
theorem dX12_errors_168 : decode cX12_errors 168 = .ok (.idiv, 1) := by decide +kernel
theorem dX12_errors_169 : decode cX12_errors 169 = .ok (.iconst 2, 1) := by decide +kernel
theorem dX12_errors_170 : decode cX12_errors 170 = .ok (.invokevirtual 353, 3) := by decide +kernel
theorem dX12_errors_173 : decode cX12_errors 173 = .ok (.i2l, 1) := by decide +kernel
theorem dX12_errors_174 : decode cX12_errors 174 = .ok (.lmul, 1) := by decide +kernel
theorem dX12_errors_175 : decode cX12_errors 175 = .ok (.ladd, 1) := by decide +kernel
theorem dX12_errors_176 : decode cX12_errors 176 = .ok (.lstore 6, 2) := by decide +kernel
theorem dX12_errors_178 : decode cX12_errors 178 = .ok (.iinc 8 1, 3) := by decide +kernel
theorem dX12_errors_181 : decode cX12_errors 181 = .ok (.goto (-134), 3) := by decide +kernel
theorem dX12_errors_184 : decode cX12_errors 184 = .ok (.lload 6, 2) := by decide +kernel
theorem dX12_errors_186 : decode cX12_errors 186 = .ok (.lconst 0, 1) := by decide +kernel
theorem dX12_errors_187 : decode cX12_errors 187 = .ok (.lcmp, 1) := by decide +kernel
theorem dX12_errors_188 : decode cX12_errors 188 = .ok (.ifCond .ne 7, 3) := by decide +kernel
theorem dX12_errors_191 : decode cX12_errors 191 = .ok (.iconst (-1), 1) := by decide +kernel
theorem dX12_errors_192 : decode cX12_errors 192 = .ok (.goto 13, 3) := by decide +kernel
theorem dX12_errors_195 : decode cX12_errors 195 = .ok (.lload 4, 2) := by decide +kernel
theorem dX12_errors_197 : decode cX12_errors 197 = .ok (.ldc2_w 426, 3) := by decide +kernel
theorem dX12_errors_200 : decode cX12_errors 200 = .ok (.lmul, 1) := by decide +kernel
theorem dX12_errors_201 : decode cX12_errors 201 = .ok (.lload 6, 2) := by decide +kernel
theorem dX12_errors_203 : decode cX12_errors 203 = .ok (.ldiv, 1) := by decide +kernel
theorem dX12_errors_204 : decode cX12_errors 204 = .ok (.l2i, 1) := by decide +kernel
theorem dX12_errors_205 : decode cX12_errors 205 = .ok (.ireturn, 1) := by decide +kernel
set_option maxRecDepth 20000 in
theorem gX12_findRooms_X12_whoIn : GoodIn wsX12_findRooms (wsV RX12 384 RX12 yX12_whoIn wsX12_whoIn) := goodIn_r _ [4, 5, 6, 7, 8, 9, 10, 11, 7, 12, 13, 14, 15, 16, 24, 25, 26, 27, 28, 29, 30, 31, 32, 33, 34, 35, 36, 37, 38, 39, 40, 41, 42, 43, 44, 45, 46, 47, 48, 49, 50, 51, 52, 53, 54, 55, 56, 57, 58, 59, 60, 61, 62] rfl (by decide +kernel)
set_option maxRecDepth 20000 in
theorem gX12_findRooms_X12_guests : GoodIn wsX12_findRooms (wsV RX12 328 RX12 yX12_guests wsX12_guests) := goodIn_r _ [9, 10, 11, 7, 12, 13, 24, 25, 26, 27, 28, 29, 30, 31, 32, 33, 34, 35, 36, 37, 38, 39, 40, 41, 42, 43, 44, 45, 46, 47, 48, 49, 50, 51, 52, 53, 54, 55, 56, 57, 58, 59, 60, 61, 62] rfl (by decide +kernel)
set_option maxRecDepth 20000 in
theorem gX12_findRooms_X12_guestOf : GoodIn wsX12_findRooms (wsV RX12 353 RX12 yX12_guestOf wsX12_guestOf) := goodIn_r _ [17, 18, 19, 7, 20, 13, 24, 25, 26, 27, 28, 29, 30, 31, 32, 33, 34, 35, 36, 37, 38, 39, 40, 41, 42, 43, 44, 45, 46, 47, 48, 49, 50, 51, 52, 53, 54, 55, 56, 57, 58, 59, 60, 61, 62] rfl (by decide +kernel)
set_option maxRecDepth 20000 in
theorem gX12_findRooms_X12_isIn : GoodIn wsX12_findRooms (va_wsS RX12 400 yX12_isIn wsX12_isIn) := goodIn_r _ [21, 22, 7, 23] rfl (by decide +kernel)
theorem dX12_findRooms_0 : decode cX12_findRooms 0 = .ok (.aload_n 0, 1) := by decide +kernel
theorem dX12_findRooms_1 : decode cX12_findRooms 1 = .ok (.aload_n 0, 1) := by decide +kernel
theorem dX12_findRooms_2 : decode cX12_findRooms 2 = .ok (.getfield 131, 3) := by decide +kernel
theorem dX12_findRooms_5 : decode cX12_findRooms 5 = .ok (.iconst 0, 1) := by decide +kernel
theorem dX12_findRooms_6 : decode cX12_findRooms 6 = .ok (.iaload, 1) := by decide +kernel
theorem dX12_findRooms_7 : decode cX12_findRooms 7 = .ok (.invokevirtual 384, 3) := by decide +kernel
theorem dX12_findRooms_10 : decode cX12_findRooms 10 = .ok (.istore_n 1, 1) := by decide +kernel
theorem dX12_findRooms_11 : decode cX12_findRooms 11 = .ok (.iconst 0, 1) := by decide +kernel
theorem dX12_findRooms_12 : decode cX12_findRooms 12 = .ok (.istore_n 2, 1) := by decide +kernel
theorem dX12_findRooms_13 : decode cX12_findRooms 13 = .ok (.iload_n 2, 1) := by decide +kernel
theorem dX12_findRooms_14 : decode cX12_findRooms 14 = .ok (.bipush 13, 2) := by decide +kernel
theorem dX12_findRooms_16 : decode cX12_findRooms 16 = .ok (.if_icmp .ge 16, 3) := by decide +kernel
theorem dX12_findRooms_19 : decode cX12_findRooms 19 = .ok (.aload_n 0, 1) := by decide +kernel
theorem dX12_findRooms_20 : decode cX12_findRooms 20 = .ok (.getfield 147, 3) := by decide +kernel
theorem dX12_findRooms_23 : decode cX12_findRooms 23 = .ok (.iload_n 2, 1) := by decide +kernel
theorem dX12_findRooms_24 : decode cX12_findRooms 24 = .ok (.iconst 0, 1) := by decide +kernel
theorem dX12_findRooms_25 : decode cX12_findRooms 25 = .ok (.iastore, 1) := by decide +kernel
theorem dX12_findRooms_26 : decode cX12_findRooms 26 = .ok (.iinc 2 1, 3) := by decide +kernel
theorem dX12_findRooms_29 : decode cX12_findRooms 29 = .ok (.goto (-16), 3) := by decide +kernel
theorem dX12_findRooms_32 : decode cX12_findRooms 32 = .ok (.iconst 0, 1) := by decide +kernel
theorem dX12_findRooms_33 : decode cX12_findRooms 33 = .ok (.istore_n 2, 1) := by decide +kernel
theorem dX12_findRooms_34 : decode cX12_findRooms 34 = .ok (.iload_n 2, 1) := by decide +kernel
theorem dX12_findRooms_35 : decode cX12_findRooms 35 = .ok (.aload_n 0, 1) := by decide +kernel
theorem dX12_findRooms_36 : decode cX12_findRooms 36 = .ok (.invokevirtual 328, 3) := by decide +kernel
theorem dX12_findRooms_39 : decode cX12_findRooms 39 = .ok (.if_icmp .ge 41, 3) := by decide +kernel
theorem dX12_findRooms_42 : decode cX12_findRooms 42 = .ok (.aload_n 0, 1) := by decide +kernel
theorem dX12_findRooms_43 : decode cX12_findRooms 43 = .ok (.getfield 147, 3) := by decide +kernel
theorem dX12_findRooms_46 : decode cX12_findRooms 46 = .ok (.aload_n 0, 1) := by decide +kernel
theorem dX12_findRooms_47 : decode cX12_findRooms 47 = .ok (.iload_n 2, 1) := by decide +kernel
theorem dX12_findRooms_48 : decode cX12_findRooms 48 = .ok (.iconst 1, 1) := by decide +kernel
theorem dX12_findRooms_49 : decode cX12_findRooms 49 = .ok (.invokevirtual 353, 3) := by decide +kernel
theorem dX12_findRooms_52 : decode cX12_findRooms 52 = .ok (.dup2, 1) := by decide +kernel
theorem dX12_findRooms_53 : decode cX12_findRooms 53 = .ok (.iaload, 1) := by decide +kernel
theorem dX12_findRooms_54 : decode cX12_findRooms 54 = .ok (.iload_n 1, 1) := by decide +kernel
theorem dX12_findRooms_55 : decode cX12_findRooms 55 = .ok (.iload_n 2, 1) := by decide +kernel
theorem dX12_findRooms_56 : decode cX12_findRooms 56 = .ok (.invokestatic 400, 3) := by decide +kernel
theorem dX12_findRooms_59 : decode cX12_findRooms 59 = .ok (.ifCond .eq 12, 3) := by decide +kernel
theorem dX12_findRooms_62 : decode cX12_findRooms 62 = .ok (.aload_n 0, 1) := by decide +kernel
theorem dX12_findRooms_63 : decode cX12_findRooms 63 = .ok (.iload_n 2, 1) := by decide +kernel
theorem dX12_findRooms_64 : decode cX12_findRooms 64 = .ok (.iconst 2, 1) := by decide +kernel
theorem dX12_findRooms_65 : decode cX12_findRooms 65 = .ok (.invokevirtual 353, 3) := by decide +kernel
theorem dX12_findRooms_68 : decode cX12_findRooms 68 = .ok (.goto 4, 3) := by decide +kernel
theorem dX12_findRooms_71 : decode cX12_findRooms 71 = .ok (.iconst 0, 1) := by decide +kernel
theorem dX12_findRooms_72 : decode cX12_findRooms 72 = .ok (.iadd, 1) := by decide +kernel
theorem dX12_findRooms_73 : decode cX12_findRooms 73 = .ok (.iastore, 1) := by decide +kernel
theorem dX12_findRooms_74 : decode cX12_findRooms 74 = .ok (.iinc 2 1, 3) := by decide +kernel
theorem dX12_findRooms_77 : decode cX12_findRooms 77 = .ok (.goto (-43), 3) := by decide +kernel
theorem dX12_findRooms_80 : decode cX12_findRooms 80 = .ok (.iconst 0, 1) := by decide +kernel
theorem dX12_findRooms_81 : decode cX12_findRooms 81 = .ok (.istore_n 2, 1) := by decide +kernel
theorem dX12_findRooms_82 : decode cX12_findRooms 82 = .ok (.iconst 1, 1) := by decide +kernel
theorem dX12_findRooms_83 : decode cX12_findRooms 83 = .ok (.istore_n 3, 1) := by decide +kernel
theorem dX12_findRooms_84 : decode cX12_findRooms 84 = .ok (.iload_n 3, 1) := by decide +kernel
theorem dX12_findRooms_85 : decode cX12_findRooms 85 = .ok (.bipush 13, 2) := by decide +kernel
theorem dX12_findRooms_87 : decode cX12_findRooms 87 = .ok (.if_icmp .ge 82, 3) := by decide +kernel
theorem dX12_findRooms_90 : decode cX12_findRooms 90 = .ok (.aload_n 0, 1) := by decide +kernel
theorem dX12_findRooms_91 : decode cX12_findRooms 91 = .ok (.getfield 147, 3) := by decide +kernel
theorem dX12_findRooms_94 : decode cX12_findRooms 94 = .ok (.iload_n 3, 1) := by decide +kernel
theorem dX12_findRooms_95 : decode cX12_findRooms 95 = .ok (.iaload, 1) := by decide +kernel
theorem dX12_findRooms_96 : decode cX12_findRooms 96 = .ok (.ifCond .le 67, 3) := by decide +kernel
theorem dX12_findRooms_99 : decode cX12_findRooms 99 = .ok (.iload_n 2, 1) := by decide +kernel
theorem dX12_findRooms_100 : decode cX12_findRooms 100 = .ok (.istore 4, 2) := by decide +kernel
theorem dX12_findRooms_102 : decode cX12_findRooms 102 = .ok (.iload 4, 2) := by decide +kernel
theorem dX12_findRooms_104 : decode cX12_findRooms 104 = .ok (.ifCond .le 48, 3) := by decide +kernel
theorem dX12_findRooms_107 : decode cX12_findRooms 107 = .ok (.aload_n 0, 1) := by decide +kernel
theorem dX12_findRooms_108 : decode cX12_findRooms 108 = .ok (.getfield 147, 3) := by decide +kernel
theorem dX12_findRooms_111 : decode cX12_findRooms 111 = .ok (.aload_n 0, 1) := by decide +kernel
theorem dX12_findRooms_112 : decode cX12_findRooms 112 = .ok (.getfield 150, 3) := by decide +kernel
theorem dX12_findRooms_115 : decode cX12_findRooms 115 = .ok (.iload 4, 2) := by decide +kernel
theorem dX12_findRooms_117 : decode cX12_findRooms 117 = .ok (.iconst 1, 1) := by decide +kernel
theorem dX12_findRooms_118 : decode cX12_findRooms 118 = .ok (.isub, 1) := by decide +kernel
theorem dX12_findRooms_119 : decode cX12_findRooms 119 = .ok (.iaload, 1) := by decide +kernel
theorem dX12_findRooms_120 : decode cX12_findRooms 120 = .ok (.iaload, 1) := by decide +kernel
theorem dX12_findRooms_121 : decode cX12_findRooms 121 = .ok (.aload_n 0, 1) := by decide +kernel
theorem dX12_findRooms_122 : decode cX12_findRooms 122 = .ok (.getfield 147, 3) := by decide +kernel
theorem dX12_findRooms_125 : decode cX12_findRooms 125 = .ok (.iload_n 3, 1) := by decide +kernel
theorem dX12_findRooms_126 : decode cX12_findRooms 126 = .ok (.iaload, 1) := by decide +kernel
theorem dX12_findRooms_127 : decode cX12_findRooms 127 = .ok (.if_icmp .ge 25, 3) := by decide +kernel
theorem dX12_findRooms_130 : decode cX12_findRooms 130 = .ok (.aload_n 0, 1) := by decide +kernel
theorem dX12_findRooms_131 : decode cX12_findRooms 131 = .ok (.getfield 150, 3) := by decide +kernel
theorem dX12_findRooms_134 : decode cX12_findRooms 134 = .ok (.iload 4, 2) := by decide +kernel
theorem dX12_findRooms_136 : decode cX12_findRooms 136 = .ok (.aload_n 0, 1) := by decide +kernel
theorem dX12_findRooms_137 : decode cX12_findRooms 137 = .ok (.getfield 150, 3) := by decide +kernel
theorem dX12_findRooms_140 : decode cX12_findRooms 140 = .ok (.iload 4, 2) := by decide +kernel
theorem dX12_findRooms_142 : decode cX12_findRooms 142 = .ok (.iconst 1, 1) := by decide +kernel
theorem dX12_findRooms_143 : decode cX12_findRooms 143 = .ok (.isub, 1) := by decide +kernel
theorem dX12_findRooms_144 : decode cX12_findRooms 144 = .ok (.iaload, 1) := by decide +kernel
theorem dX12_findRooms_145 : decode cX12_findRooms 145 = .ok (.iastore, 1) := by decide +kernel
theorem dX12_findRooms_146 : decode cX12_findRooms 146 = .ok (.iinc 4 (-1), 3) := by decide +kernel
theorem dX12_findRooms_149 : decode cX12_findRooms 149 = .ok (.goto (-47), 3) := by decide +kernel
theorem dX12_findRooms_152 : decode cX12_findRooms 152 = .ok (.aload_n 0, 1) := by decide +kernel
theorem dX12_findRooms_153 : decode cX12_findRooms 153 = .ok (.getfield 150, 3) := by decide +kernel
theorem dX12_findRooms_156 : decode cX12_findRooms 156 = .ok (.iload 4, 2) := by decide +kernel
theorem dX12_findRooms_158 : decode cX12_findRooms 158 = .ok (.iload_n 3, 1) := by decide +kernel
theorem dX12_findRooms_159 : decode cX12_findRooms 159 = .ok (.iastore, 1) := by decide +kernel
theorem dX12_findRooms_160 : decode cX12_findRooms 160 = .ok (.iinc 2 1, 3) := by decide +kernel
theorem dX12_findRooms_163 : decode cX12_findRooms 163 = .ok (.iinc 3 1, 3) := by decide +kernel
theorem dX12_findRooms_166 : decode cX12_findRooms 166 = .ok (.goto (-82), 3) := by decide +kernel
theorem dX12_findRooms_169 : decode cX12_findRooms 169 = .ok (.iload_n 2, 1) := by decide +kernel
theorem dX12_findRooms_170 : decode cX12_findRooms 170 = .ok (.ireturn, 1) := by decide +kernel
set_option maxRecDepth 20000 in
theorem gX12_hunt_X12_findRooms : GoodIn wsX12_hunt (wsV RX12 428 RX12 yX12_findRooms wsX12_findRooms) := goodIn_r _ [5, 6, 7, 8, 9, 10, 2, 3, 11, 12, 13, 8, 14, 15, 16, 17, 18, 19, 20, 21, 22, 23, 24, 25, 26, 27, 28, 29, 33, 34, 35, 36, 37, 38, 39, 40, 41, 42, 43, 44, 45, 46, 47, 48, 49, 50, 51, 52, 53, 54, 55, 56, 57, 58, 59, 60, 61, 62, 63, 64, 65, 66, 67, 68, 69, 70, 71] rfl (by decide +kernel)
set_option maxRecDepth 20000 in
theorem gX12_hunt_X12_within : GoodIn wsX12_hunt (va_wsS RX12 241 yX12_within wsX12_within) := goodIn_r _ [30, 31, 8, 32] rfl (by decide +kernel)
theorem dX12_hunt_0 : decode cX12_hunt 0 = .ok (.aload_n 0, 1) := by decide +kernel
theorem dX12_hunt_1 : decode cX12_hunt 1 = .ok (.iconst 0, 1) := by decide +kernel
theorem dX12_hunt_2 : decode cX12_hunt 2 = .ok (.putfield 1, 3) := by decide +kernel
theorem dX12_hunt_5 : decode cX12_hunt 5 = .ok (.aload_n 0, 1) := by decide +kernel
theorem dX12_hunt_6 : decode cX12_hunt 6 = .ok (.invokevirtual 428, 3) := by decide +kernel
theorem dX12_hunt_9 : decode cX12_hunt 9 = .ok (.istore_n 2, 1) := by decide +kernel
theorem dX12_hunt_10 : decode cX12_hunt 10 = .ok (.iload_n 2, 1) := by decide +kernel
theorem dX12_hunt_11 : decode cX12_hunt 11 = .ok (.ifCond .eq 14, 3) := by decide +kernel
theorem dX12_hunt_14 : decode cX12_hunt 14 = .ok (.iload_n 1, 1) := by decide +kernel
theorem dX12_hunt_15 : decode cX12_hunt 15 = .ok (.iconst 0, 1) := by decide +kernel
theorem dX12_hunt_16 : decode cX12_hunt 16 = .ok (.iconst 1, 1) := by decide +kernel
theorem dX12_hunt_17 : decode cX12_hunt 17 = .ok (.iload_n 2, 1) := by decide +kernel
theorem dX12_hunt_18 : decode cX12_hunt 18 = .ok (.iadd, 1) := by decide +kernel
theorem dX12_hunt_19 : decode cX12_hunt 19 = .ok (.invokestatic 241, 3) := by decide +kernel
theorem dX12_hunt_22 : decode cX12_hunt 22 = .ok (.ifCond .ne 5, 3) := by decide +kernel
theorem dX12_hunt_25 : decode cX12_hunt 25 = .ok (.iconst (-1), 1) := by decide +kernel
theorem dX12_hunt_26 : decode cX12_hunt 26 = .ok (.ireturn, 1) := by decide +kernel
theorem dX12_hunt_27 : decode cX12_hunt 27 = .ok (.lconst 0, 1) := by decide +kernel
theorem dX12_hunt_28 : decode cX12_hunt 28 = .ok (.lstore_n 3, 1) := by decide +kernel
theorem dX12_hunt_29 : decode cX12_hunt 29 = .ok (.lconst 0, 1) := by decide +kernel
theorem dX12_hunt_30 : decode cX12_hunt 30 = .ok (.lstore 5, 2) := by decide +kernel
theorem dX12_hunt_32 : decode cX12_hunt 32 = .ok (.iconst 0, 1) := by decide +kernel
theorem dX12_hunt_33 : decode cX12_hunt 33 = .ok (.istore 7, 2) := by decide +kernel
theorem dX12_hunt_35 : decode cX12_hunt 35 = .ok (.iload 7, 2) := by decide +kernel
theorem dX12_hunt_37 : decode cX12_hunt 37 = .ok (.iload_n 2, 1) := by decide +kernel
theorem dX12_hunt_38 : decode cX12_hunt 38 = .ok (.if_icmp .ge 49, 3) := by decide +kernel
theorem dX12_hunt_41 : decode cX12_hunt 41 = .ok (.lload_n 3, 1) := by decide +kernel
theorem dX12_hunt_42 : decode cX12_hunt 42 = .ok (.iload 7, 2) := by decide +kernel
theorem dX12_hunt_44 : decode cX12_hunt 44 = .ok (.iconst 1, 1) := by decide +kernel
theorem dX12_hunt_45 : decode cX12_hunt 45 = .ok (.iadd, 1) := by decide +kernel
theorem dX12_hunt_46 : decode cX12_hunt 46 = .ok (.i2l, 1) := by decide +kernel
theorem dX12_hunt_47 : decode cX12_hunt 47 = .ok (.aload_n 0, 1) := by decide +kernel
theorem dX12_hunt_48 : decode cX12_hunt 48 = .ok (.getfield 147, 3) := by decide +kernel
theorem dX12_hunt_51 : decode cX12_hunt 51 = .ok (.aload_n 0, 1) := by decide +kernel
theorem dX12_hunt_52 : decode cX12_hunt 52 = .ok (.getfield 150, 3) := by decide +kernel
theorem dX12_hunt_55 : decode cX12_hunt 55 = .ok (.iload 7, 2) := by decide +kernel
theorem dX12_hunt_57 : decode cX12_hunt 57 = .ok (.iaload, 1) := by decide +kernel
theorem dX12_hunt_58 : decode cX12_hunt 58 = .ok (.iaload, 1) := by decide +kernel
theorem dX12_hunt_59 : decode cX12_hunt 59 = .ok (.i2l, 1) := by decide +kernel
theorem dX12_hunt_60 : decode cX12_hunt 60 = .ok (.lmul, 1) := by decide +kernel
theorem dX12_hunt_61 : decode cX12_hunt 61 = .ok (.ladd, 1) := by decide +kernel
theorem dX12_hunt_62 : decode cX12_hunt 62 = .ok (.lstore_n 3, 1) := by decide +kernel
theorem dX12_hunt_63 : decode cX12_hunt 63 = .ok (.lload 5, 2) := by decide +kernel
theorem dX12_hunt_65 : decode cX12_hunt 65 = .ok (.aload_n 0, 1) := by decide +kernel
theorem dX12_hunt_66 : decode cX12_hunt 66 = .ok (.getfield 147, 3) := by decide +kernel
theorem dX12_hunt_69 : decode cX12_hunt 69 = .ok (.aload_n 0, 1) := by decide +kernel
theorem dX12_hunt_70 : decode cX12_hunt 70 = .ok (.getfield 150, 3) := by decide +kernel
theorem dX12_hunt_73 : decode cX12_hunt 73 = .ok (.iload 7, 2) := by decide +kernel
theorem dX12_hunt_75 : decode cX12_hunt 75 = .ok (.iaload, 1) := by decide +kernel
theorem dX12_hunt_76 : decode cX12_hunt 76 = .ok (.iaload, 1) := by decide +kernel
theorem dX12_hunt_77 : decode cX12_hunt 77 = .ok (.i2l, 1) := by decide +kernel
theorem dX12_hunt_78 : decode cX12_hunt 78 = .ok (.ladd, 1) := by decide +kernel
theorem dX12_hunt_79 : decode cX12_hunt 79 = .ok (.lstore 5, 2) := by decide +kernel
theorem dX12_hunt_81 : decode cX12_hunt 81 = .ok (.iinc 7 1, 3) := by decide +kernel
theorem dX12_hunt_84 : decode cX12_hunt 84 = .ok (.goto (-49), 3) := by decide +kernel
theorem dX12_hunt_87 : decode cX12_hunt 87 = .ok (.iload_n 1, 1) := by decide +kernel
theorem dX12_hunt_88 : decode cX12_hunt 88 = .ok (.ifCond .ne 15, 3) := by decide +kernel
theorem dX12_hunt_91 : decode cX12_hunt 91 = .ok (.lload_n 3, 1) := by decide +kernel
theorem dX12_hunt_92 : decode cX12_hunt 92 = .ok (.ldc2_w 431, 3) := by decide +kernel
theorem dX12_hunt_95 : decode cX12_hunt 95 = .ok (.lmul, 1) := by decide +kernel
theorem dX12_hunt_96 : decode cX12_hunt 96 = .ok (.lload 5, 2) := by decide +kernel
theorem dX12_hunt_98 : decode cX12_hunt 98 = .ok (.ldiv, 1) := by decide +kernel
theorem dX12_hunt_99 : decode cX12_hunt 99 = .ok (.l2i, 1) := by decide +kernel
theorem dX12_hunt_100 : decode cX12_hunt 100 = .ok (.goto 20, 3) := by decide +kernel
theorem dX12_hunt_103 : decode cX12_hunt 103 = .ok (.iload_n 1, 1) := by decide +kernel
theorem dX12_hunt_104 : decode cX12_hunt 104 = .ok (.iconst 1, 1) := by decide +kernel
theorem dX12_hunt_105 : decode cX12_hunt 105 = .ok (.if_icmp .ne 7, 3) := by decide +kernel
theorem dX12_hunt_108 : decode cX12_hunt 108 = .ok (.iload_n 2, 1) := by decide +kernel
theorem dX12_hunt_109 : decode cX12_hunt 109 = .ok (.goto 11, 3) := by decide +kernel
theorem dX12_hunt_112 : decode cX12_hunt 112 = .ok (.aload_n 0, 1) := by decide +kernel
theorem dX12_hunt_113 : decode cX12_hunt 113 = .ok (.getfield 150, 3) := by decide +kernel
theorem dX12_hunt_116 : decode cX12_hunt 116 = .ok (.iload_n 1, 1) := by decide +kernel
theorem dX12_hunt_117 : decode cX12_hunt 117 = .ok (.iconst 2, 1) := by decide +kernel
theorem dX12_hunt_118 : decode cX12_hunt 118 = .ok (.isub, 1) := by decide +kernel
theorem dX12_hunt_119 : decode cX12_hunt 119 = .ok (.iaload, 1) := by decide +kernel
theorem dX12_hunt_120 : decode cX12_hunt 120 = .ok (.ireturn, 1) := by decide +kernel
section
variable {p : Program} {l : Launch} {e : Env} {s : State} {m : MethodId} {args : Array Value} {below : List Frame} {meth : Method} {c : Code} {D : va_G} {cy : Nat → ClassId} {ad : Nat → Nat} {A : Nat → Prop} {aM aB aO aI aN aT aC aG aR aQ aK aL aX aH aJ aP aU aE0 aE1 aE2 aE3 : Nat → Nat} {gi : Value}
abbrev rm12_likely : Room := { frames := 3, cells := 0, slots := 0, locals := 72 }
theorem hdV12_likely : yX12_likely.cls = RX12 ∧ (yX12_likely.cls ≠ "java/lang/invoke/MethodHandle" ∧ yX12_likely.cls ≠ "java/lang/invoke/VarHandle" ∧ (parseMethodDescriptor yX12_likely.desc).map (fun d => d.parameters.length) = some 0) := by decide +kernel
theorem hin12_likely_12 : ∀ x ∈ u_ws RX12 TX12 39, x ∈ wsX12_likely := fun _ h => List.mem_cons_of_mem _ (List.mem_append_right _ h)
set_option maxRecDepth 100000 in
set_option maxHeartbeats 4000000 in
theorem t12_likely_56 (hC : Cx p s m args meth c cX12_likely 7 wsX12_likely RX12 (some .int)) {k12 : Int32 → Int64 → Int32 → Ob → Option (Int32 × Ob)} (hk12 : ∀ (x1 : Int32) (x2 : Int64) (x4 : Int32) (SM : Ob) (res : Int32 × Ob) (H : Heap) (locs : List Loc) (ls : Array Slot), k12 x1 x2 x4 SM = some res → GW D cy ad (w12 cy aM SM) A s H locs → lv_has ls 7 [(0, .ref (aM 0)), (1, .int x1), (2, .long x2), (4, .int x4)] → W p l e rm12_likely s m args below meth c H locs 0 0 (MQ below (QI D cy (w12 cy aM (res.2)) A (res.1)) args s 0 0 A) (F0 m 12 ls [])) : ∀ (x1 : Int32) (x4 : Int32) (z0 : Int64) (SM : Ob) (res : Int32 × Ob) (H : Heap) (locs : List Loc) (ls : Array Slot), f12_likely_56 k12 x1 x4 z0 SM = some res → GW D cy ad (w12 cy aM SM) A s H locs → lv_has ls 7 [(0, .ref (aM 0)), (1, .int x1), (4, .int x4)] → W p l e rm12_likely s m args below meth c H locs 0 0 (MQ below (QI D cy (w12 cy aM (res.2)) A (res.1)) args s 0 0 A) (F0 m 56 ls [.long z0]) := by
  intro x1 x4 z0 SM res H locs ls hf hW hl
  unfold f12_likely_56 at hf
  refine lv_lstore_n (lv' := [(2, .long z0), (0, .ref (aM 0)), (1, .int x1), (4, .int x4)]) hC.1 hC.2.1 dX12_likely_56 rfl hl (by decide) rfl (fun ls hl => ?_)
  obtain ⟨x4_1, ex4_1⟩ : ∃ y : Int32, y = x4 + 1 := ⟨_, rfl⟩
  have hf := lt_nm hf ex4_1
  refine lv_iinc (v := x4_1) (lv' := [(4, .int x4_1), (2, .long z0), (0, .ref (aM 0)), (1, .int x1)]) hC.1 hC.2.1 dX12_likely_57 hl (k := 3) rfl (by rw [ex4_1]; rfl) (by decide) rfl (fun ls hl => ?_)
  refine lv_goto (tgt := 12) hC.1 hC.2.1 dX12_likely_60 (by decide) ?_
  exact hk12 _ _ _ _ _ _ _ _ hf hW (lv_sub hl [2, 3, 1, 0] rfl)
set_option maxRecDepth 100000 in
set_option maxHeartbeats 4000000 in
theorem t12_likely_42 (hC : Cx p s m args meth c cX12_likely 7 wsX12_likely RX12 (some .int)) {k12 : Int32 → Int64 → Int32 → Ob → Option (Int32 × Ob)} (hk12 : ∀ (x1 : Int32) (x2 : Int64) (x4 : Int32) (SM : Ob) (res : Int32 × Ob) (H : Heap) (locs : List Loc) (ls : Array Slot), k12 x1 x2 x4 SM = some res → GW D cy ad (w12 cy aM SM) A s H locs → lv_has ls 7 [(0, .ref (aM 0)), (1, .int x1), (2, .long x2), (4, .int x4)] → W p l e rm12_likely s m args below meth c H locs 0 0 (MQ below (QI D cy (w12 cy aM (res.2)) A (res.1)) args s 0 0 A) (F0 m 12 ls [])) : ∀ (x2 : Int64) (x4 : Int32) (x5 : Int64) (z0 : Int32) (SM : Ob) (res : Int32 × Ob) (H : Heap) (locs : List Loc) (ls : Array Slot), f12_likely_42 k12 x2 x4 x5 z0 SM = some res → GW D cy ad (w12 cy aM SM) A s H locs → lv_has ls 7 [(0, .ref (aM 0)), (2, .long x2), (4, .int x4), (5, .long x5)] → W p l e rm12_likely s m args below meth c H locs 0 0 (MQ below (QI D cy (w12 cy aM (res.2)) A (res.1)) args s 0 0 A) (F0 m 42 ls [.int z0]) := by
  intro x2 x4 x5 z0 SM res H locs ls hf hW hl
  unfold f12_likely_42 at hf
  refine lv_istore_n (lv' := [(1, .int z0), (0, .ref (aM 0)), (2, .long x2), (4, .int x4), (5, .long x5)]) hC.1 hC.2.1 dX12_likely_42 rfl hl (by decide) rfl (fun ls hl => ?_)
  refine lv_lload hC.1 hC.2.1 dX12_likely_43 (lv_at hl 4 rfl) ?_
  refine lv_lload_n hC.1 hC.2.1 dX12_likely_45 rfl (lv_at hl 2 rfl) ?_
  refine W.lcmp hC.1 hC.2.1 dX12_likely_46 ?_
  refine lv_if_le (tgt := 55) hC.1 hC.2.1 dX12_likely_47 (by decide) (fun hc_1 => ?_) (fun hc_1 => ?_)
  · have hf := ite_t hf hc_1
    refine lv_lload_n hC.1 hC.2.1 dX12_likely_55 rfl (lv_at hl 2 rfl) ?_
    exact t12_likely_56 hC hk12  _ _ _ _ _ _ _ _ hf hW (lv_sub hl [1, 0, 3] rfl)
  · have hf := ite_f hf hc_1
    refine lv_lload hC.1 hC.2.1 dX12_likely_50 (lv_at hl 4 rfl) ?_
    refine lv_goto (tgt := 56) hC.1 hC.2.1 dX12_likely_52 (by decide) ?_
    exact t12_likely_56 hC hk12  _ _ _ _ _ _ _ _ hf hW (lv_sub hl [1, 0, 3] rfl)
set_option maxRecDepth 100000 in
set_option maxHeartbeats 4000000 in
theorem t12_likely_12 (hC : Cx p s m args meth c cX12_likely 7 wsX12_likely RX12 (some .int)) : ∀ n : Nat, ∀ (x1 : Int32) (x2 : Int64) (x4 : Int32) (SM : Ob) (res : Int32 × Ob) (H : Heap) (locs : List Loc) (ls : Array Slot), f12_likely_12 n x1 x2 x4 SM = some res → GW D cy ad (w12 cy aM SM) A s H locs → lv_has ls 7 [(0, .ref (aM 0)), (1, .int x1), (2, .long x2), (4, .int x4)] → W p l e rm12_likely s m args below meth c H locs 0 0 (MQ below (QI D cy (w12 cy aM (res.2)) A (res.1)) args s 0 0 A) (F0 m 12 ls []) := by
  intro n
  induction n with
  | zero =>
    intro _ _ _ _ _ _ _ _ hf _ _
    exact nomatch (show (none : Option (Int32 × Ob)) = some _ from hf)
  | succ n ih =>
    intro x1 x2 x4 SM res H locs ls hf hW hl
    rw [f12_likely_12] at hf
    refine lv_iload hC.1 hC.2.1 dX12_likely_12 (lv_at hl 3 rfl) ?_
    refine lv_aload_n hC.1 hC.2.1 dX12_likely_14 rfl (lv_at hl 0 rfl) ?_
    obtain ⟨r_1, hg_2, hf⟩ := bd_of hf
    refine g_calliV hC hW (c12_guests l D cy ad aM hg_2) (cwV 0 hC.2.2.2.2.1 gX12_likely_X12_guests rfl rfl rfl hdV12_guests ⟨Nat.le_of_ble_eq_true rfl, Nat.le_of_ble_eq_true rfl⟩) (Sub.all _ _) 0 11 rfl rfl rfl rfl hl.1 rfl (Nat.le_of_ble_eq_true rfl) dX12_likely_15 ⟨Nat.zero_le _, Nat.zero_le _⟩ (fun H locs hW => ?_)
    refine lv_icmp_ge (tgt := 63) hC.1 hC.2.1 dX12_likely_18 (by decide) (fun hc_3 => ?_) (fun hc_3 => ?_)
    · have hf := ite_t hf hc_3
      refine lv_iload_n hC.1 hC.2.1 dX12_likely_63 rfl (lv_at hl 1 rfl) ?_
      obtain rfl := Option.some.inj hf
      exact g_iret hC hW dX12_likely_64
    · have hf := ite_f hf hc_3
      refine lv_aload_n hC.1 hC.2.1 dX12_likely_21 rfl (lv_at hl 0 rfl) ?_
      refine lv_iload hC.1 hC.2.1 dX12_likely_22 (lv_at hl 3 rfl) ?_
      obtain ⟨r_4, hg_5, hf⟩ := bd_of hf
      refine g_calllV hC hW (c12_oddsOf l D cy ad aM hg_5) (cwV 1 hC.2.2.2.2.1 gX12_likely_X12_oddsOf rfl rfl rfl hdV12_oddsOf ⟨Nat.le_of_ble_eq_true rfl, Nat.le_of_ble_eq_true rfl⟩) (Sub.all _ _) 0 11 rfl rfl rfl rfl hl.1 rfl (Nat.le_of_ble_eq_true rfl) dX12_likely_24 ⟨Nat.zero_le _, Nat.zero_le _⟩ (fun H locs hW => ?_)
      refine lv_lstore (lv' := [(5, .long r_4), (0, .ref (aM 0)), (1, .int x1), (2, .long x2), (4, .int x4)]) hC.1 hC.2.1 dX12_likely_27 hl (by decide) rfl (fun ls hl => ?_)
      refine lv_lload hC.1 hC.2.1 dX12_likely_29 (lv_at hl 0 rfl) ?_
      refine lv_lload_n hC.1 hC.2.1 dX12_likely_31 rfl (lv_at hl 3 rfl) ?_
      refine W.lcmp hC.1 hC.2.1 dX12_likely_32 ?_
      refine lv_if_le (tgt := 41) hC.1 hC.2.1 dX12_likely_33 (by decide) (fun hc_6 => ?_) (fun hc_6 => ?_)
      · have hf := ite_t hf hc_6
        refine lv_iload_n hC.1 hC.2.1 dX12_likely_41 rfl (lv_at hl 2 rfl) ?_
        exact t12_likely_42 hC ih  _ _ _ _ _ _ _ _ _ hf hW (lv_sub hl [1, 3, 4, 0] rfl)
      · have hf := ite_f hf hc_6
        refine lv_iload hC.1 hC.2.1 dX12_likely_36 (lv_at hl 4 rfl) ?_
        refine lv_goto (tgt := 42) hC.1 hC.2.1 dX12_likely_38 (by decide) ?_
        exact t12_likely_42 hC ih  _ _ _ _ _ _ _ _ _ hf hW (lv_sub hl [1, 3, 4, 0] rfl)
set_option maxRecDepth 100000 in
set_option maxHeartbeats 4000000 in
theorem t12_likely_0 (hC : Cx p s m args meth c cX12_likely 7 wsX12_likely RX12 (some .int)) : ∀ (SM : Ob) (res : Int32 × Ob) (H : Heap) (locs : List Loc) (ls : Array Slot), f12_likely SM = some res → GW D cy ad (w12 cy aM SM) A s H locs → lv_has ls 7 [(0, .ref (aM 0))] → W p l e rm12_likely s m args below meth c H locs 0 0 (MQ below (QI D cy (w12 cy aM (res.2)) A (res.1)) args s 0 0 A) (F0 m 0 ls []) := by
  intro SM res H locs ls hf hW hl
  unfold f12_likely at hf
  refine lv_aload_n hC.1 hC.2.1 dX12_likely_0 rfl (lv_at hl 0 rfl) ?_
  refine lv_iconst (v := 0) hC.1 hC.2.1 dX12_likely_1 (by decide) ?_
  obtain ⟨SM_1, eSM_1⟩ : ∃ y : Ob, y = oI SM 0 0 := ⟨_, rfl⟩
  have hf := lt_nm hf eSM_1
  refine g_put hC hW hin12_likely_12 tyX12 tyX12_ok nmX12 0 rfl rfl 0 (by decide) 1 rfl rfl rfl rfl (Nat.le_of_ble_eq_true rfl) (w' := w12 cy aM SM_1) (by rw [eSM_1]; rfl) dX12_likely_2 (fun H locs hW => ?_)
  refine lv_iconst (v := (-1)) hC.1 hC.2.1 dX12_likely_5 (by decide) ?_
  refine lv_istore_n (lv' := [(1, .int (-1)), (0, .ref (aM 0))]) hC.1 hC.2.1 dX12_likely_6 rfl hl (by decide) rfl (fun ls hl => ?_)
  refine lv_lconst (v := 0) hC.1 hC.2.1 dX12_likely_7 (by decide) ?_
  refine lv_lstore_n (lv' := [(2, .long 0), (1, .int (-1)), (0, .ref (aM 0))]) hC.1 hC.2.1 dX12_likely_8 rfl hl (by decide) rfl (fun ls hl => ?_)
  refine lv_iconst (v := 0) hC.1 hC.2.1 dX12_likely_9 (by decide) ?_
  refine lv_istore (lv' := [(4, .int 0), (2, .long 0), (1, .int (-1)), (0, .ref (aM 0))]) hC.1 hC.2.1 dX12_likely_10 hl (by decide) rfl (fun ls hl => ?_)
  exact t12_likely_12 hC _ _ _ _ _ _ _ _ _ hf hW (lv_sub hl [3, 2, 1, 0] rfl)
set_option maxRecDepth 100000 in
set_option maxHeartbeats 4000000 in
theorem c12_likely (l : Launch) (D : va_G) (cy : Nat → ClassId) (ad : Nat → Nat) (aM : Nat → Nat) {SM : Ob} {res : Int32 × Ob} (h : f12_likely SM = some res) : GCi l yX12_likely wsX12_likely rm12_likely [.ref (aM 0)] D cy ad (w12 cy aM SM) (w12 cy aM (res.2)) (res.1) := fun sz => GC.start (own := RX12) (Qc := fun A => QI D cy (w12 cy aM (res.2)) A (res.1)) sz (by decide) rfl rfl (Nat.le_of_ble_eq_true rfl) (fun p e s m below meth c A ls hC hW hl => t12_likely_0 hC _ _ _ _ _ h hW (lv_sub hl [0] rfl))
abbrev rm12_odds : Room := { frames := 3, cells := 0, slots := 0, locals := 72 }
theorem hdV12_odds : yX12_odds.cls = RX12 ∧ (yX12_odds.cls ≠ "java/lang/invoke/MethodHandle" ∧ yX12_odds.cls ≠ "java/lang/invoke/VarHandle" ∧ (parseMethodDescriptor yX12_odds.desc).map (fun d => d.parameters.length) = some 1) := by decide +kernel
theorem hin12_odds_12 : ∀ x ∈ u_ws RX12 TX12 39, x ∈ wsX12_odds := fun _ h => List.mem_cons_of_mem _ (List.mem_append_right _ h)
set_option maxRecDepth 100000 in
set_option maxHeartbeats 4000000 in
theorem t12_odds_64 (hC : Cx p s m args meth c cX12_odds 5 wsX12_odds RX12 (some .int)) : ∀ (z0 : Int32) (SM : Ob) (res : Int32 × Ob) (H : Heap) (locs : List Loc) (ls : Array Slot), f12_odds_64 z0 SM = some res → GW D cy ad (w12 cy aM SM) A s H locs → lv_has ls 5 [] → W p l e rm12_odds s m args below meth c H locs 0 0 (MQ below (QI D cy (w12 cy aM (res.2)) A (res.1)) args s 0 0 A) (F0 m 64 ls [.int z0]) := by
  intro z0 SM res H locs ls hf hW hl
  unfold f12_odds_64 at hf
  obtain rfl := Option.some.inj hf
  exact g_iret hC hW dX12_odds_64
set_option maxRecDepth 100000 in
set_option maxHeartbeats 4000000 in
theorem t12_odds_48 (hC : Cx p s m args meth c cX12_odds 5 wsX12_odds RX12 (some .int)) : ∀ (SM : Ob) (res : Int32 × Ob) (H : Heap) (locs : List Loc) (ls : Array Slot), f12_odds_48 SM = some res → GW D cy ad (w12 cy aM SM) A s H locs → lv_has ls 5 [] → W p l e rm12_odds s m args below meth c H locs 0 0 (MQ below (QI D cy (w12 cy aM (res.2)) A (res.1)) args s 0 0 A) (F0 m 48 ls []) := by
  intro SM res H locs ls hf hW hl
  unfold f12_odds_48 at hf
  refine lv_iconst (v := (-1)) hC.1 hC.2.1 dX12_odds_48 (by decide) ?_
  refine lv_goto (tgt := 64) hC.1 hC.2.1 dX12_odds_49 (by decide) ?_
  exact t12_odds_64 hC  _ _ _ _ _ _ hf hW (lv_sub hl [] rfl)
set_option maxRecDepth 100000 in
set_option maxHeartbeats 4000000 in
theorem t12_odds_10 (hC : Cx p s m args meth c cX12_odds 5 wsX12_odds RX12 (some .int)) : ∀ n : Nat, ∀ (x1 : Int32) (x2 : Int64) (x4 : Int32) (SM : Ob) (res : Int32 × Ob) (H : Heap) (locs : List Loc) (ls : Array Slot), f12_odds_10 n x1 x2 x4 SM = some res → GW D cy ad (w12 cy aM SM) A s H locs → lv_has ls 5 [(0, .ref (aM 0)), (1, .int x1), (2, .long x2), (4, .int x4)] → W p l e rm12_odds s m args below meth c H locs 0 0 (MQ below (QI D cy (w12 cy aM (res.2)) A (res.1)) args s 0 0 A) (F0 m 10 ls []) := by
  intro n
  induction n with
  | zero =>
    intro _ _ _ _ _ _ _ _ hf _ _
    exact nomatch (show (none : Option (Int32 × Ob)) = some _ from hf)
  | succ n ih =>
    intro x1 x2 x4 SM res H locs ls hf hW hl
    rw [f12_odds_10] at hf
    refine lv_iload hC.1 hC.2.1 dX12_odds_10 (lv_at hl 3 rfl) ?_
    refine lv_aload_n hC.1 hC.2.1 dX12_odds_12 rfl (lv_at hl 0 rfl) ?_
    obtain ⟨r_1, hg_2, hf⟩ := bd_of hf
    refine g_calliV hC hW (c12_guests l D cy ad aM hg_2) (cwV 0 hC.2.2.2.2.1 gX12_odds_X12_guests rfl rfl rfl hdV12_guests ⟨Nat.le_of_ble_eq_true rfl, Nat.le_of_ble_eq_true rfl⟩) (Sub.all _ _) 0 11 rfl rfl rfl rfl hl.1 rfl (Nat.le_of_ble_eq_true rfl) dX12_odds_13 ⟨Nat.zero_le _, Nat.zero_le _⟩ (fun H locs hW => ?_)
    refine lv_icmp_ge (tgt := 34) hC.1 hC.2.1 dX12_odds_16 (by decide) (fun hc_3 => ?_) (fun hc_3 => ?_)
    · have hf := ite_t hf hc_3
      refine lv_aload_n hC.1 hC.2.1 dX12_odds_34 rfl (lv_at hl 0 rfl) ?_
      refine lv_iload_n hC.1 hC.2.1 dX12_odds_35 rfl (lv_at hl 1 rfl) ?_
      obtain ⟨r_4, hg_5, hf⟩ := bd_of hf
      refine g_calliV hC hW (c12_isGuest l D cy ad aM hg_5) (cwV 1 hC.2.2.2.2.1 gX12_odds_X12_isGuest rfl rfl rfl hdV12_isGuest ⟨Nat.le_of_ble_eq_true rfl, Nat.le_of_ble_eq_true rfl⟩) (Sub.all _ _) 0 11 rfl rfl rfl rfl hl.1 rfl (Nat.le_of_ble_eq_true rfl) dX12_odds_36 ⟨Nat.zero_le _, Nat.zero_le _⟩ (fun H locs hW => ?_)
      refine lv_if_eq (tgt := 48) hC.1 hC.2.1 dX12_odds_39 (by decide) (fun hc_6 => ?_) (fun hc_6 => ?_)
      · have hf := ite_t hf hc_6
        exact t12_odds_48 hC  _ _ _ _ _ hf hW (lv_sub hl [] rfl)
      · have hf := ite_f hf hc_6
        refine lv_lload_n hC.1 hC.2.1 dX12_odds_42 rfl (lv_at hl 2 rfl) ?_
        refine lv_lconst (v := 0) hC.1 hC.2.1 dX12_odds_43 (by decide) ?_
        refine W.lcmp hC.1 hC.2.1 dX12_odds_44 ?_
        refine lv_if_ne (tgt := 52) hC.1 hC.2.1 dX12_odds_45 (by decide) (fun hc_7 => ?_) (fun hc_7 => ?_)
        · have hf := ite_f hf hc_7
          refine lv_aload_n hC.1 hC.2.1 dX12_odds_52 rfl (lv_at hl 0 rfl) ?_
          refine lv_iload_n hC.1 hC.2.1 dX12_odds_53 rfl (lv_at hl 1 rfl) ?_
          obtain ⟨r_8, hg_9, hf⟩ := bd_of hf
          refine g_calllV hC hW (c12_oddsOf l D cy ad aM hg_9) (cwV 1 hC.2.2.2.2.1 gX12_odds_X12_oddsOf rfl rfl rfl hdV12_oddsOf ⟨Nat.le_of_ble_eq_true rfl, Nat.le_of_ble_eq_true rfl⟩) (Sub.all _ _) 0 11 rfl rfl rfl rfl hl.1 rfl (Nat.le_of_ble_eq_true rfl) dX12_odds_54 ⟨Nat.zero_le _, Nat.zero_le _⟩ (fun H locs hW => ?_)
          refine lv_ldc2 (v := 1000000) hC.1 hC.2.1 hC.2.2.2.1 (hC.2.2.2.2.1 _ (List.mem_of_getElem? (i := 2) rfl)) dX12_odds_57 ?_
          refine lv_lmul hC.1 hC.2.1 dX12_odds_60 ?_
          refine lv_lload_n hC.1 hC.2.1 dX12_odds_61 rfl (lv_at hl 2 rfl) ?_
          obtain ⟨hz_10, hf⟩ := ck_of hf
          refine lv_ldiv hC.1 hC.2.1 dX12_odds_62 (nzl_of hz_10) ?_
          refine lv_l2i (v := Int64.toInt32 ((r_8 * 1000000) / x2)) hC.1 hC.2.1 dX12_odds_63 rfl ?_
          exact t12_odds_64 hC  _ _ _ _ _ _ hf hW (lv_sub hl [] rfl)
        · have hf := ite_t hf hc_7
          exact t12_odds_48 hC  _ _ _ _ _ hf hW (lv_sub hl [] rfl)
    · have hf := ite_f hf hc_3
      refine lv_lload_n hC.1 hC.2.1 dX12_odds_19 rfl (lv_at hl 2 rfl) ?_
      refine lv_aload_n hC.1 hC.2.1 dX12_odds_20 rfl (lv_at hl 0 rfl) ?_
      refine lv_iload hC.1 hC.2.1 dX12_odds_21 (lv_at hl 3 rfl) ?_
      obtain ⟨r_11, hg_12, hf⟩ := bd_of hf
      refine g_calllV hC hW (c12_oddsOf l D cy ad aM hg_12) (cwV 1 hC.2.2.2.2.1 gX12_odds_X12_oddsOf rfl rfl rfl hdV12_oddsOf ⟨Nat.le_of_ble_eq_true rfl, Nat.le_of_ble_eq_true rfl⟩) (Sub.all _ _) 0 11 rfl rfl rfl rfl hl.1 rfl (Nat.le_of_ble_eq_true rfl) dX12_odds_23 ⟨Nat.zero_le _, Nat.zero_le _⟩ (fun H locs hW => ?_)
      refine lv_ladd hC.1 hC.2.1 dX12_odds_26 ?_
      refine lv_topl (fun x2_13 ex2_13 => ?_)
      have hf := lt_nm hf ex2_13
      refine lv_lstore_n (lv' := [(2, .long x2_13), (0, .ref (aM 0)), (1, .int x1), (4, .int x4)]) hC.1 hC.2.1 dX12_odds_27 rfl hl (by decide) rfl (fun ls hl => ?_)
      obtain ⟨x4_14, ex4_14⟩ : ∃ y : Int32, y = x4 + 1 := ⟨_, rfl⟩
      have hf := lt_nm hf ex4_14
      refine lv_iinc (v := x4_14) (lv' := [(4, .int x4_14), (2, .long x2_13), (0, .ref (aM 0)), (1, .int x1)]) hC.1 hC.2.1 dX12_odds_28 hl (k := 3) rfl (by rw [ex4_14]; rfl) (by decide) rfl (fun ls hl => ?_)
      refine lv_goto (tgt := 10) hC.1 hC.2.1 dX12_odds_31 (by decide) ?_
      exact ih _ _ _ _ _ _ _ _ hf hW (lv_sub hl [2, 3, 1, 0] rfl)
set_option maxRecDepth 100000 in
set_option maxHeartbeats 4000000 in
theorem t12_odds_0 (hC : Cx p s m args meth c cX12_odds 5 wsX12_odds RX12 (some .int)) : ∀ (x1 : Int32) (SM : Ob) (res : Int32 × Ob) (H : Heap) (locs : List Loc) (ls : Array Slot), f12_odds x1 SM = some res → GW D cy ad (w12 cy aM SM) A s H locs → lv_has ls 5 [(0, .ref (aM 0)), (1, .int x1)] → W p l e rm12_odds s m args below meth c H locs 0 0 (MQ below (QI D cy (w12 cy aM (res.2)) A (res.1)) args s 0 0 A) (F0 m 0 ls []) := by
  intro x1 SM res H locs ls hf hW hl
  unfold f12_odds at hf
  refine lv_aload_n hC.1 hC.2.1 dX12_odds_0 rfl (lv_at hl 0 rfl) ?_
  refine lv_iconst (v := 0) hC.1 hC.2.1 dX12_odds_1 (by decide) ?_
  obtain ⟨SM_1, eSM_1⟩ : ∃ y : Ob, y = oI SM 0 0 := ⟨_, rfl⟩
  have hf := lt_nm hf eSM_1
  refine g_put hC hW hin12_odds_12 tyX12 tyX12_ok nmX12 0 rfl rfl 0 (by decide) 1 rfl rfl rfl rfl (Nat.le_of_ble_eq_true rfl) (w' := w12 cy aM SM_1) (by rw [eSM_1]; rfl) dX12_odds_2 (fun H locs hW => ?_)
  refine lv_lconst (v := 0) hC.1 hC.2.1 dX12_odds_5 (by decide) ?_
  refine lv_lstore_n (lv' := [(2, .long 0), (0, .ref (aM 0)), (1, .int x1)]) hC.1 hC.2.1 dX12_odds_6 rfl hl (by decide) rfl (fun ls hl => ?_)
  refine lv_iconst (v := 0) hC.1 hC.2.1 dX12_odds_7 (by decide) ?_
  refine lv_istore (lv' := [(4, .int 0), (2, .long 0), (0, .ref (aM 0)), (1, .int x1)]) hC.1 hC.2.1 dX12_odds_8 hl (by decide) rfl (fun ls hl => ?_)
  exact t12_odds_10 hC _ _ _ _ _ _ _ _ _ hf hW (lv_sub hl [2, 3, 1, 0] rfl)
set_option maxRecDepth 100000 in
set_option maxHeartbeats 4000000 in
theorem c12_odds (l : Launch) (D : va_G) (cy : Nat → ClassId) (ad : Nat → Nat) (aM : Nat → Nat) {x1 : Int32} {SM : Ob} {res : Int32 × Ob} (h : f12_odds x1 SM = some res) : GCi l yX12_odds wsX12_odds rm12_odds [.ref (aM 0), .int x1] D cy ad (w12 cy aM SM) (w12 cy aM (res.2)) (res.1) := fun sz => GC.start (own := RX12) (Qc := fun A => QI D cy (w12 cy aM (res.2)) A (res.1)) sz (by decide) rfl rfl (Nat.le_of_ble_eq_true rfl) (fun p e s m below meth c A ls hC hW hl => t12_odds_0 hC _ _ _ _ _ _ h hW (lv_sub hl [0, 1] rfl))
abbrev rm12_errors : Room := { frames := 2, cells := 0, slots := 0, locals := 41 }
theorem hdV12_errors : yX12_errors.cls = RX12 ∧ (yX12_errors.cls ≠ "java/lang/invoke/MethodHandle" ∧ yX12_errors.cls ≠ "java/lang/invoke/VarHandle" ∧ (parseMethodDescriptor yX12_errors.desc).map (fun d => d.parameters.length) = some 3) := by decide +kernel
theorem hin12_errors_12 : ∀ x ∈ u_ws RX12 TX12 39, x ∈ wsX12_errors := fun _ h => List.mem_cons_of_mem _ (List.mem_append_right _ h)
set_option maxRecDepth 100000 in
set_option maxHeartbeats 4000000 in
theorem t12_errors_36 (hC : Cx p s m args meth c cX12_errors 10 wsX12_errors RX12 (some .int)) : ∀ (SM : Ob) (res : Int32 × Ob) (H : Heap) (locs : List Loc) (ls : Array Slot), f12_errors_36 SM = some res → GW D cy ad (w12 cy aM SM) A s H locs → lv_has ls 10 [] → W p l e rm12_errors s m args below meth c H locs 0 0 (MQ below (QI D cy (w12 cy aM (res.2)) A (res.1)) args s 0 0 A) (F0 m 36 ls []) := by
  intro SM res H locs ls hf hW hl
  unfold f12_errors_36 at hf
  refine lv_iconst (v := (-1)) hC.1 hC.2.1 dX12_errors_36 (by decide) ?_
  obtain rfl := Option.some.inj hf
  exact g_iret hC hW dX12_errors_37
set_option maxRecDepth 100000 in
set_option maxHeartbeats 4000000 in
theorem t12_errors_178 (hC : Cx p s m args meth c cX12_errors 10 wsX12_errors RX12 (some .int)) {k47 : Int32 → Int32 → Int32 → Int64 → Int64 → Int32 → Ob → Option (Int32 × Ob)} (hk47 : ∀ (x1 : Int32) (x2 : Int32) (x3 : Int32) (x4 : Int64) (x6 : Int64) (x8 : Int32) (SM : Ob) (res : Int32 × Ob) (H : Heap) (locs : List Loc) (ls : Array Slot), k47 x1 x2 x3 x4 x6 x8 SM = some res → GW D cy ad (w12 cy aM SM) A s H locs → lv_has ls 10 [(0, .ref (aM 0)), (1, .int x1), (2, .int x2), (3, .int x3), (4, .long x4), (6, .long x6), (8, .int x8)] → W p l e rm12_errors s m args below meth c H locs 0 0 (MQ below (QI D cy (w12 cy aM (res.2)) A (res.1)) args s 0 0 A) (F0 m 47 ls [])) : ∀ (x1 : Int32) (x2 : Int32) (x3 : Int32) (x4 : Int64) (x6 : Int64) (x8 : Int32) (SM : Ob) (res : Int32 × Ob) (H : Heap) (locs : List Loc) (ls : Array Slot), f12_errors_178 k47 x1 x2 x3 x4 x6 x8 SM = some res → GW D cy ad (w12 cy aM SM) A s H locs → lv_has ls 10 [(0, .ref (aM 0)), (1, .int x1), (2, .int x2), (3, .int x3), (4, .long x4), (6, .long x6), (8, .int x8)] → W p l e rm12_errors s m args below meth c H locs 0 0 (MQ below (QI D cy (w12 cy aM (res.2)) A (res.1)) args s 0 0 A) (F0 m 178 ls []) := by
  intro x1 x2 x3 x4 x6 x8 SM res H locs ls hf hW hl
  unfold f12_errors_178 at hf
  obtain ⟨x8_1, ex8_1⟩ : ∃ y : Int32, y = x8 + 1 := ⟨_, rfl⟩
  have hf := lt_nm hf ex8_1
  refine lv_iinc (v := x8_1) (lv' := [(8, .int x8_1), (0, .ref (aM 0)), (1, .int x1), (2, .int x2), (3, .int x3), (4, .long x4), (6, .long x6)]) hC.1 hC.2.1 dX12_errors_178 hl (k := 6) rfl (by rw [ex8_1]; rfl) (by decide) rfl (fun ls hl => ?_)
  refine lv_goto (tgt := 47) hC.1 hC.2.1 dX12_errors_181 (by decide) ?_
  exact hk47 _ _ _ _ _ _ _ _ _ _ _ hf hW (lv_sub hl [1, 2, 3, 4, 5, 6, 0] rfl)
set_option maxRecDepth 100000 in
set_option maxHeartbeats 4000000 in
theorem t12_errors_154 (hC : Cx p s m args meth c cX12_errors 10 wsX12_errors RX12 (some .int)) {k47 : Int32 → Int32 → Int32 → Int64 → Int64 → Int32 → Ob → Option (Int32 × Ob)} (hk47 : ∀ (x1 : Int32) (x2 : Int32) (x3 : Int32) (x4 : Int64) (x6 : Int64) (x8 : Int32) (SM : Ob) (res : Int32 × Ob) (H : Heap) (locs : List Loc) (ls : Array Slot), k47 x1 x2 x3 x4 x6 x8 SM = some res → GW D cy ad (w12 cy aM SM) A s H locs → lv_has ls 10 [(0, .ref (aM 0)), (1, .int x1), (2, .int x2), (3, .int x3), (4, .long x4), (6, .long x6), (8, .int x8)] → W p l e rm12_errors s m args below meth c H locs 0 0 (MQ below (QI D cy (w12 cy aM (res.2)) A (res.1)) args s 0 0 A) (F0 m 47 ls [])) : ∀ (x1 : Int32) (x2 : Int32) (x3 : Int32) (x6 : Int64) (x8 : Int32) (z0 : Int64) (z1 : Int64) (z2 : Int32) (SM : Ob) (res : Int32 × Ob) (H : Heap) (locs : List Loc) (ls : Array Slot), f12_errors_154 k47 x1 x2 x3 x6 x8 z0 z1 z2 SM = some res → GW D cy ad (w12 cy aM SM) A s H locs → lv_has ls 10 [(0, .ref (aM 0)), (1, .int x1), (2, .int x2), (3, .int x3), (6, .long x6), (8, .int x8)] → W p l e rm12_errors s m args below meth c H locs 0 0 (MQ below (QI D cy (w12 cy aM (res.2)) A (res.1)) args s 0 0 A) (F0 m 154 ls [.int z2, .long z1, .long z0]) := by
  intro x1 x2 x3 x6 x8 z0 z1 z2 SM res H locs ls hf hW hl
  unfold f12_errors_154 at hf
  refine lv_i2l (v := Int32.toInt64 z2) hC.1 hC.2.1 dX12_errors_154 rfl ?_
  refine lv_lmul hC.1 hC.2.1 dX12_errors_155 ?_
  refine lv_ladd hC.1 hC.2.1 dX12_errors_156 ?_
  refine lv_topl (fun x4_1 ex4_1 => ?_)
  have hf := lt_nm hf ex4_1
  refine lv_lstore (lv' := [(4, .long x4_1), (0, .ref (aM 0)), (1, .int x1), (2, .int x2), (3, .int x3), (6, .long x6), (8, .int x8)]) hC.1 hC.2.1 dX12_errors_157 hl (by decide) rfl (fun ls hl => ?_)
  refine lv_lload hC.1 hC.2.1 dX12_errors_159 (lv_at hl 5 rfl) ?_
  refine lv_ldc2 (v := 10) hC.1 hC.2.1 hC.2.2.2.1 (hC.2.2.2.2.1 _ (List.mem_of_getElem? (i := 4) rfl)) dX12_errors_161 ?_
  refine lv_aload_n hC.1 hC.2.1 dX12_errors_164 rfl (lv_at hl 1 rfl) ?_
  refine lv_iload hC.1 hC.2.1 dX12_errors_165 (lv_at hl 6 rfl) ?_
  refine lv_iconst (v := 4) hC.1 hC.2.1 dX12_errors_167 (by decide) ?_
  obtain ⟨hz_2, hf⟩ := ck_of hf
  refine lv_idiv hC.1 hC.2.1 dX12_errors_168 (nz_of hz_2) ?_
  refine lv_iconst (v := 2) hC.1 hC.2.1 dX12_errors_169 (by decide) ?_
  obtain ⟨r_3, hg_4, hf⟩ := bd_of hf
  refine g_calliV hC hW (c12_guestOf l D cy ad aM hg_4) (cwV 2 hC.2.2.2.2.1 gX12_errors_X12_guestOf rfl rfl rfl hdV12_guestOf ⟨Nat.le_of_ble_eq_true rfl, Nat.le_of_ble_eq_true rfl⟩) (Sub.all _ _) 0 11 rfl rfl rfl rfl hl.1 rfl (Nat.le_of_ble_eq_true rfl) dX12_errors_170 ⟨Nat.zero_le _, Nat.zero_le _⟩ (fun H locs hW => ?_)
  refine lv_i2l (v := Int32.toInt64 r_3) hC.1 hC.2.1 dX12_errors_173 rfl ?_
  refine lv_lmul hC.1 hC.2.1 dX12_errors_174 ?_
  refine lv_ladd hC.1 hC.2.1 dX12_errors_175 ?_
  refine lv_topl (fun x6_5 ex6_5 => ?_)
  have hf := lt_nm hf ex6_5
  refine lv_lstore (lv' := [(6, .long x6_5), (4, .long x4_1), (0, .ref (aM 0)), (1, .int x1), (2, .int x2), (3, .int x3), (8, .int x8)]) hC.1 hC.2.1 dX12_errors_176 hl (by decide) rfl (fun ls hl => ?_)
  exact t12_errors_178 hC hk47  _ _ _ _ _ _ _ _ _ _ _ hf hW (lv_sub hl [2, 3, 4, 5, 1, 0, 6] rfl)
set_option maxRecDepth 100000 in
set_option maxHeartbeats 4000000 in
theorem t12_errors_126 (hC : Cx p s m args meth c cX12_errors 10 wsX12_errors RX12 (some .int)) {k47 : Int32 → Int32 → Int32 → Int64 → Int64 → Int32 → Ob → Option (Int32 × Ob)} (hk47 : ∀ (x1 : Int32) (x2 : Int32) (x3 : Int32) (x4 : Int64) (x6 : Int64) (x8 : Int32) (SM : Ob) (res : Int32 × Ob) (H : Heap) (locs : List Loc) (ls : Array Slot), k47 x1 x2 x3 x4 x6 x8 SM = some res → GW D cy ad (w12 cy aM SM) A s H locs → lv_has ls 10 [(0, .ref (aM 0)), (1, .int x1), (2, .int x2), (3, .int x3), (4, .long x4), (6, .long x6), (8, .int x8)] → W p l e rm12_errors s m args below meth c H locs 0 0 (MQ below (QI D cy (w12 cy aM (res.2)) A (res.1)) args s 0 0 A) (F0 m 47 ls [])) : ∀ (x1 : Int32) (x2 : Int32) (x3 : Int32) (x4 : Int64) (x6 : Int64) (x8 : Int32) (z0 : Int32) (SM : Ob) (res : Int32 × Ob) (H : Heap) (locs : List Loc) (ls : Array Slot), f12_errors_126 k47 x1 x2 x3 x4 x6 x8 z0 SM = some res → GW D cy ad (w12 cy aM SM) A s H locs → lv_has ls 10 [(0, .ref (aM 0)), (1, .int x1), (2, .int x2), (3, .int x3), (4, .long x4), (6, .long x6), (8, .int x8)] → W p l e rm12_errors s m args below meth c H locs 0 0 (MQ below (QI D cy (w12 cy aM (res.2)) A (res.1)) args s 0 0 A) (F0 m 126 ls [.int z0]) := by
  intro x1 x2 x3 x4 x6 x8 z0 SM res H locs ls hf hW hl
  unfold f12_errors_126 at hf
  refine lv_istore (lv' := [(9, .int z0), (0, .ref (aM 0)), (1, .int x1), (2, .int x2), (3, .int x3), (4, .long x4), (6, .long x6), (8, .int x8)]) hC.1 hC.2.1 dX12_errors_126 hl (by decide) rfl (fun ls hl => ?_)
  refine lv_lload hC.1 hC.2.1 dX12_errors_128 (lv_at hl 5 rfl) ?_
  refine lv_aload_n hC.1 hC.2.1 dX12_errors_130 rfl (lv_at hl 1 rfl) ?_
  refine lv_iload hC.1 hC.2.1 dX12_errors_131 (lv_at hl 7 rfl) ?_
  refine lv_iconst (v := 4) hC.1 hC.2.1 dX12_errors_133 (by decide) ?_
  obtain ⟨hz_1, hf⟩ := ck_of hf
  refine lv_idiv hC.1 hC.2.1 dX12_errors_134 (nz_of hz_1) ?_
  refine lv_iconst (v := 2) hC.1 hC.2.1 dX12_errors_135 (by decide) ?_
  obtain ⟨r_2, hg_3, hf⟩ := bd_of hf
  refine g_calliV hC hW (c12_guestOf l D cy ad aM hg_3) (cwV 2 hC.2.2.2.2.1 gX12_errors_X12_guestOf rfl rfl rfl hdV12_guestOf ⟨Nat.le_of_ble_eq_true rfl, Nat.le_of_ble_eq_true rfl⟩) (Sub.all _ _) 0 11 rfl rfl rfl rfl hl.1 rfl (Nat.le_of_ble_eq_true rfl) dX12_errors_136 ⟨Nat.zero_le _, Nat.zero_le _⟩ (fun H locs hW => ?_)
  refine lv_i2l (v := Int32.toInt64 r_2) hC.1 hC.2.1 dX12_errors_139 rfl ?_
  refine lv_iload_n hC.1 hC.2.1 dX12_errors_140 rfl (lv_at hl 4 rfl) ?_
  refine lv_if_ne (tgt := 149) hC.1 hC.2.1 dX12_errors_141 (by decide) (fun hc_4 => ?_) (fun hc_4 => ?_)
  · have hf := ite_f hf hc_4
    refine lv_bipush (v := 10) hC.1 hC.2.1 dX12_errors_149 (by decide) ?_
    refine lv_iload hC.1 hC.2.1 dX12_errors_151 (lv_at hl 0 rfl) ?_
    refine lv_isub hC.1 hC.2.1 dX12_errors_153 ?_
    exact t12_errors_154 hC hk47  _ _ _ _ _ _ _ _ _ _ _ _ _ hf hW (lv_sub hl [1, 2, 3, 4, 6, 7] rfl)
  · have hf := ite_t hf hc_4
    refine lv_iload hC.1 hC.2.1 dX12_errors_144 (lv_at hl 0 rfl) ?_
    refine lv_goto (tgt := 154) hC.1 hC.2.1 dX12_errors_146 (by decide) ?_
    exact t12_errors_154 hC hk47  _ _ _ _ _ _ _ _ _ _ _ _ _ hf hW (lv_sub hl [1, 2, 3, 4, 6, 7] rfl)
set_option maxRecDepth 100000 in
set_option maxHeartbeats 4000000 in
theorem t12_errors_93 (hC : Cx p s m args meth c cX12_errors 10 wsX12_errors RX12 (some .int)) {k47 : Int32 → Int32 → Int32 → Int64 → Int64 → Int32 → Ob → Option (Int32 × Ob)} (hk47 : ∀ (x1 : Int32) (x2 : Int32) (x3 : Int32) (x4 : Int64) (x6 : Int64) (x8 : Int32) (SM : Ob) (res : Int32 × Ob) (H : Heap) (locs : List Loc) (ls : Array Slot), k47 x1 x2 x3 x4 x6 x8 SM = some res → GW D cy ad (w12 cy aM SM) A s H locs → lv_has ls 10 [(0, .ref (aM 0)), (1, .int x1), (2, .int x2), (3, .int x3), (4, .long x4), (6, .long x6), (8, .int x8)] → W p l e rm12_errors s m args below meth c H locs 0 0 (MQ below (QI D cy (w12 cy aM (res.2)) A (res.1)) args s 0 0 A) (F0 m 47 ls [])) : ∀ (x1 : Int32) (x2 : Int32) (x3 : Int32) (x4 : Int64) (x6 : Int64) (x8 : Int32) (z0 : Int32) (z1 : Int32) (SM : Ob) (res : Int32 × Ob) (H : Heap) (locs : List Loc) (ls : Array Slot), f12_errors_93 k47 x1 x2 x3 x4 x6 x8 z0 z1 SM = some res → GW D cy ad (w12 cy aM SM) A s H locs → lv_has ls 10 [(0, .ref (aM 0)), (1, .int x1), (2, .int x2), (3, .int x3), (4, .long x4), (6, .long x6), (8, .int x8)] → W p l e rm12_errors s m args below meth c H locs 0 0 (MQ below (QI D cy (w12 cy aM (res.2)) A (res.1)) args s 0 0 A) (F0 m 93 ls [.int z1, .int z0]) := by
  intro x1 x2 x3 x4 x6 x8 z0 z1 SM res H locs ls hf hW hl
  unfold f12_errors_93 at hf
  refine lv_icmp_ne (tgt := 178) hC.1 hC.2.1 dX12_errors_93 (by decide) (fun hc_1 => ?_) (fun hc_1 => ?_)
  · have hf := ite_f hf hc_1
    exact t12_errors_178 hC hk47  _ _ _ _ _ _ _ _ _ _ _ hf hW (lv_sub hl [0, 1, 2, 3, 4, 5, 6] rfl)
  · have hf := ite_t hf hc_1
    refine lv_aload_n hC.1 hC.2.1 dX12_errors_96 rfl (lv_at hl 0 rfl) ?_
    refine g_get hC hW hin12_errors_12 0 rfl rfl 28 (by decide) 3 rfl rfl dX12_errors_97 ?_
    refine lv_iload_n hC.1 hC.2.1 dX12_errors_100 rfl (lv_at hl 2 rfl) ?_
    obtain ⟨hi_2, hf⟩ := ck_of hf
    refine g_iald hC hW 18 rfl hi_2 dX12_errors_101 ?_
    refine lv_iload hC.1 hC.2.1 dX12_errors_102 (lv_at hl 6 rfl) ?_
    obtain ⟨r_3, hg_4, hf⟩ := bd_of hf
    refine g_calliS hC hW (c12_isIn l D cy ad  hg_4) (va_cwS 2 hC.2.2.2.2.1 gX12_errors_X12_isIn rfl rfl rfl hdS12_isIn ⟨Nat.le_of_ble_eq_true rfl, Nat.le_of_ble_eq_true rfl⟩) (Sub.nil _) rfl hl.1 rfl (Nat.le_of_ble_eq_true rfl) dX12_errors_104 ⟨Nat.zero_le _, Nat.zero_le _⟩ (fun H locs hW => ?_)
    refine lv_if_eq (tgt := 121) hC.1 hC.2.1 dX12_errors_107 (by decide) (fun hc_5 => ?_) (fun hc_5 => ?_)
    · have hf := ite_t hf hc_5
      refine lv_aload_n hC.1 hC.2.1 dX12_errors_121 rfl (lv_at hl 0 rfl) ?_
      refine lv_iload_n hC.1 hC.2.1 dX12_errors_122 rfl (lv_at hl 2 rfl) ?_
      obtain ⟨r_6, hg_7, hf⟩ := bd_of hf
      refine g_calliV hC hW (c12_errsOf l D cy ad aM hg_7) (cwV 1 hC.2.2.2.2.1 gX12_errors_X12_errsOf rfl rfl rfl hdV12_errsOf ⟨Nat.le_of_ble_eq_true rfl, Nat.le_of_ble_eq_true rfl⟩) (Sub.all _ _) 0 11 rfl rfl rfl rfl hl.1 rfl (Nat.le_of_ble_eq_true rfl) dX12_errors_123 ⟨Nat.zero_le _, Nat.zero_le _⟩ (fun H locs hW => ?_)
      exact t12_errors_126 hC hk47  _ _ _ _ _ _ _ _ _ _ _ _ hf hW (lv_sub hl [0, 1, 2, 3, 4, 5, 6] rfl)
    · have hf := ite_f hf hc_5
      refine lv_bipush (v := 10) hC.1 hC.2.1 dX12_errors_110 (by decide) ?_
      refine lv_aload_n hC.1 hC.2.1 dX12_errors_112 rfl (lv_at hl 0 rfl) ?_
      refine lv_iload_n hC.1 hC.2.1 dX12_errors_113 rfl (lv_at hl 2 rfl) ?_
      obtain ⟨r_8, hg_9, hf⟩ := bd_of hf
      refine g_calliV hC hW (c12_errsOf l D cy ad aM hg_9) (cwV 1 hC.2.2.2.2.1 gX12_errors_X12_errsOf rfl rfl rfl hdV12_errsOf ⟨Nat.le_of_ble_eq_true rfl, Nat.le_of_ble_eq_true rfl⟩) (Sub.all _ _) 0 11 rfl rfl rfl rfl hl.1 rfl (Nat.le_of_ble_eq_true rfl) dX12_errors_114 ⟨Nat.zero_le _, Nat.zero_le _⟩ (fun H locs hW => ?_)
      refine lv_isub hC.1 hC.2.1 dX12_errors_117 ?_
      refine lv_goto (tgt := 126) hC.1 hC.2.1 dX12_errors_118 (by decide) ?_
      exact t12_errors_126 hC hk47  _ _ _ _ _ _ _ _ _ _ _ _ hf hW (lv_sub hl [0, 1, 2, 3, 4, 5, 6] rfl)
set_option maxRecDepth 100000 in
set_option maxHeartbeats 4000000 in
theorem t12_errors_83 (hC : Cx p s m args meth c cX12_errors 10 wsX12_errors RX12 (some .int)) {k47 : Int32 → Int32 → Int32 → Int64 → Int64 → Int32 → Ob → Option (Int32 × Ob)} (hk47 : ∀ (x1 : Int32) (x2 : Int32) (x3 : Int32) (x4 : Int64) (x6 : Int64) (x8 : Int32) (SM : Ob) (res : Int32 × Ob) (H : Heap) (locs : List Loc) (ls : Array Slot), k47 x1 x2 x3 x4 x6 x8 SM = some res → GW D cy ad (w12 cy aM SM) A s H locs → lv_has ls 10 [(0, .ref (aM 0)), (1, .int x1), (2, .int x2), (3, .int x3), (4, .long x4), (6, .long x6), (8, .int x8)] → W p l e rm12_errors s m args below meth c H locs 0 0 (MQ below (QI D cy (w12 cy aM (res.2)) A (res.1)) args s 0 0 A) (F0 m 47 ls [])) : ∀ (x1 : Int32) (x2 : Int32) (x3 : Int32) (x4 : Int64) (x6 : Int64) (x8 : Int32) (z0 : Int32) (SM : Ob) (res : Int32 × Ob) (H : Heap) (locs : List Loc) (ls : Array Slot), f12_errors_83 k47 x1 x2 x3 x4 x6 x8 z0 SM = some res → GW D cy ad (w12 cy aM SM) A s H locs → lv_has ls 10 [(0, .ref (aM 0)), (1, .int x1), (2, .int x2), (3, .int x3), (4, .long x4), (6, .long x6), (8, .int x8)] → W p l e rm12_errors s m args below meth c H locs 0 0 (MQ below (QI D cy (w12 cy aM (res.2)) A (res.1)) args s 0 0 A) (F0 m 83 ls [.int z0]) := by
  intro x1 x2 x3 x4 x6 x8 z0 SM res H locs ls hf hW hl
  unfold f12_errors_83 at hf
  refine lv_iload_n hC.1 hC.2.1 dX12_errors_83 rfl (lv_at hl 3 rfl) ?_
  refine lv_iconst (v := 1) hC.1 hC.2.1 dX12_errors_84 (by decide) ?_
  refine lv_icmp_ne (tgt := 92) hC.1 hC.2.1 dX12_errors_85 (by decide) (fun hc_1 => ?_) (fun hc_1 => ?_)
  · have hf := ite_f hf hc_1
    refine lv_iconst (v := 0) hC.1 hC.2.1 dX12_errors_92 (by decide) ?_
    exact t12_errors_93 hC hk47  _ _ _ _ _ _ _ _ _ _ _ _ _ hf hW (lv_sub hl [0, 1, 2, 3, 4, 5, 6] rfl)
  · have hf := ite_t hf hc_1
    refine lv_iconst (v := 1) hC.1 hC.2.1 dX12_errors_88 (by decide) ?_
    refine lv_goto (tgt := 93) hC.1 hC.2.1 dX12_errors_89 (by decide) ?_
    exact t12_errors_93 hC hk47  _ _ _ _ _ _ _ _ _ _ _ _ _ hf hW (lv_sub hl [0, 1, 2, 3, 4, 5, 6] rfl)
set_option maxRecDepth 100000 in
set_option maxHeartbeats 4000000 in
theorem t12_errors_205 (hC : Cx p s m args meth c cX12_errors 10 wsX12_errors RX12 (some .int)) : ∀ (z0 : Int32) (SM : Ob) (res : Int32 × Ob) (H : Heap) (locs : List Loc) (ls : Array Slot), f12_errors_205 z0 SM = some res → GW D cy ad (w12 cy aM SM) A s H locs → lv_has ls 10 [] → W p l e rm12_errors s m args below meth c H locs 0 0 (MQ below (QI D cy (w12 cy aM (res.2)) A (res.1)) args s 0 0 A) (F0 m 205 ls [.int z0]) := by
  intro z0 SM res H locs ls hf hW hl
  unfold f12_errors_205 at hf
  obtain rfl := Option.some.inj hf
  exact g_iret hC hW dX12_errors_205
set_option maxRecDepth 100000 in
set_option maxHeartbeats 4000000 in
theorem t12_errors_47 (hC : Cx p s m args meth c cX12_errors 10 wsX12_errors RX12 (some .int)) : ∀ n : Nat, ∀ (x1 : Int32) (x2 : Int32) (x3 : Int32) (x4 : Int64) (x6 : Int64) (x8 : Int32) (SM : Ob) (res : Int32 × Ob) (H : Heap) (locs : List Loc) (ls : Array Slot), f12_errors_47 n x1 x2 x3 x4 x6 x8 SM = some res → GW D cy ad (w12 cy aM SM) A s H locs → lv_has ls 10 [(0, .ref (aM 0)), (1, .int x1), (2, .int x2), (3, .int x3), (4, .long x4), (6, .long x6), (8, .int x8)] → W p l e rm12_errors s m args below meth c H locs 0 0 (MQ below (QI D cy (w12 cy aM (res.2)) A (res.1)) args s 0 0 A) (F0 m 47 ls []) := by
  intro n
  induction n with
  | zero =>
    intro _ _ _ _ _ _ _ _ _ _ _ hf _ _
    exact nomatch (show (none : Option (Int32 × Ob)) = some _ from hf)
  | succ n ih =>
    intro x1 x2 x3 x4 x6 x8 SM res H locs ls hf hW hl
    rw [f12_errors_47] at hf
    refine lv_iload hC.1 hC.2.1 dX12_errors_47 (lv_at hl 6 rfl) ?_
    refine lv_aload_n hC.1 hC.2.1 dX12_errors_49 rfl (lv_at hl 0 rfl) ?_
    obtain ⟨r_1, hg_2, hf⟩ := bd_of hf
    refine g_calliV hC hW (c12_worlds l D cy ad aM hg_2) (cwV 0 hC.2.2.2.2.1 gX12_errors_X12_worlds rfl rfl rfl hdV12_worlds ⟨Nat.le_of_ble_eq_true rfl, Nat.le_of_ble_eq_true rfl⟩) (Sub.all _ _) 0 11 rfl rfl rfl rfl hl.1 rfl (Nat.le_of_ble_eq_true rfl) dX12_errors_50 ⟨Nat.zero_le _, Nat.zero_le _⟩ (fun H locs hW => ?_)
    refine lv_icmp_ge (tgt := 184) hC.1 hC.2.1 dX12_errors_53 (by decide) (fun hc_3 => ?_) (fun hc_3 => ?_)
    · have hf := ite_t hf hc_3
      refine lv_lload hC.1 hC.2.1 dX12_errors_184 (lv_at hl 5 rfl) ?_
      refine lv_lconst (v := 0) hC.1 hC.2.1 dX12_errors_186 (by decide) ?_
      refine W.lcmp hC.1 hC.2.1 dX12_errors_187 ?_
      refine lv_if_ne (tgt := 195) hC.1 hC.2.1 dX12_errors_188 (by decide) (fun hc_4 => ?_) (fun hc_4 => ?_)
      · have hf := ite_f hf hc_4
        refine lv_lload hC.1 hC.2.1 dX12_errors_195 (lv_at hl 4 rfl) ?_
        refine lv_ldc2 (v := 1000000) hC.1 hC.2.1 hC.2.2.2.1 (hC.2.2.2.2.1 _ (List.mem_of_getElem? (i := 5) rfl)) dX12_errors_197 ?_
        refine lv_lmul hC.1 hC.2.1 dX12_errors_200 ?_
        refine lv_lload hC.1 hC.2.1 dX12_errors_201 (lv_at hl 5 rfl) ?_
        obtain ⟨hz_5, hf⟩ := ck_of hf
        refine lv_ldiv hC.1 hC.2.1 dX12_errors_203 (nzl_of hz_5) ?_
        refine lv_l2i (v := Int64.toInt32 ((x4 * 1000000) / x6)) hC.1 hC.2.1 dX12_errors_204 rfl ?_
        exact t12_errors_205 hC  _ _ _ _ _ _ hf hW (lv_sub hl [] rfl)
      · have hf := ite_t hf hc_4
        refine lv_iconst (v := (-1)) hC.1 hC.2.1 dX12_errors_191 (by decide) ?_
        refine lv_goto (tgt := 205) hC.1 hC.2.1 dX12_errors_192 (by decide) ?_
        exact t12_errors_205 hC  _ _ _ _ _ _ hf hW (lv_sub hl [] rfl)
    · have hf := ite_f hf hc_3
      refine lv_aload_n hC.1 hC.2.1 dX12_errors_56 rfl (lv_at hl 0 rfl) ?_
      refine g_get hC hW hin12_errors_12 0 rfl rfl 25 (by decide) 2 rfl rfl dX12_errors_57 ?_
      refine lv_iconst (v := 0) hC.1 hC.2.1 dX12_errors_60 (by decide) ?_
      obtain ⟨hi_6, hf⟩ := ck_of hf
      refine g_iald hC hW 16 rfl hi_6 dX12_errors_61 ?_
      refine lv_iload hC.1 hC.2.1 dX12_errors_62 (lv_at hl 6 rfl) ?_
      obtain ⟨r_7, hg_8, hf⟩ := bd_of hf
      refine g_calliS hC hW (c12_isIn l D cy ad  hg_8) (va_cwS 2 hC.2.2.2.2.1 gX12_errors_X12_isIn rfl rfl rfl hdS12_isIn ⟨Nat.le_of_ble_eq_true rfl, Nat.le_of_ble_eq_true rfl⟩) (Sub.nil _) rfl hl.1 rfl (Nat.le_of_ble_eq_true rfl) dX12_errors_64 ⟨Nat.zero_le _, Nat.zero_le _⟩ (fun H locs hW => ?_)
      refine lv_if_eq (tgt := 178) hC.1 hC.2.1 dX12_errors_67 (by decide) (fun hc_9 => ?_) (fun hc_9 => ?_)
      · have hf := ite_t hf hc_9
        exact t12_errors_178 hC ih  _ _ _ _ _ _ _ _ _ _ _ hf hW (lv_sub hl [0, 1, 2, 3, 4, 5, 6] rfl)
      · have hf := ite_f hf hc_9
        refine lv_iload hC.1 hC.2.1 dX12_errors_70 (lv_at hl 6 rfl) ?_
        refine lv_iconst (v := 4) hC.1 hC.2.1 dX12_errors_72 (by decide) ?_
        obtain ⟨hz_10, hf⟩ := ck_of hf
        refine lv_idiv hC.1 hC.2.1 dX12_errors_73 (nz_of hz_10) ?_
        refine lv_iload_n hC.1 hC.2.1 dX12_errors_74 rfl (lv_at hl 1 rfl) ?_
        refine lv_icmp_ne (tgt := 82) hC.1 hC.2.1 dX12_errors_75 (by decide) (fun hc_11 => ?_) (fun hc_11 => ?_)
        · have hf := ite_f hf hc_11
          refine lv_iconst (v := 0) hC.1 hC.2.1 dX12_errors_82 (by decide) ?_
          exact t12_errors_83 hC ih  _ _ _ _ _ _ _ _ _ _ _ _ hf hW (lv_sub hl [0, 1, 2, 3, 4, 5, 6] rfl)
        · have hf := ite_t hf hc_11
          refine lv_iconst (v := 1) hC.1 hC.2.1 dX12_errors_78 (by decide) ?_
          refine lv_goto (tgt := 83) hC.1 hC.2.1 dX12_errors_79 (by decide) ?_
          exact t12_errors_83 hC ih  _ _ _ _ _ _ _ _ _ _ _ _ hf hW (lv_sub hl [0, 1, 2, 3, 4, 5, 6] rfl)
set_option maxRecDepth 100000 in
set_option maxHeartbeats 4000000 in
theorem t12_errors_0 (hC : Cx p s m args meth c cX12_errors 10 wsX12_errors RX12 (some .int)) : ∀ (x1 : Int32) (x2 : Int32) (x3 : Int32) (SM : Ob) (res : Int32 × Ob) (H : Heap) (locs : List Loc) (ls : Array Slot), f12_errors x1 x2 x3 SM = some res → GW D cy ad (w12 cy aM SM) A s H locs → lv_has ls 10 [(0, .ref (aM 0)), (1, .int x1), (2, .int x2), (3, .int x3)] → W p l e rm12_errors s m args below meth c H locs 0 0 (MQ below (QI D cy (w12 cy aM (res.2)) A (res.1)) args s 0 0 A) (F0 m 0 ls []) := by
  intro x1 x2 x3 SM res H locs ls hf hW hl
  unfold f12_errors at hf
  refine lv_aload_n hC.1 hC.2.1 dX12_errors_0 rfl (lv_at hl 0 rfl) ?_
  refine lv_iconst (v := 0) hC.1 hC.2.1 dX12_errors_1 (by decide) ?_
  obtain ⟨SM_1, eSM_1⟩ : ∃ y : Ob, y = oI SM 0 0 := ⟨_, rfl⟩
  have hf := lt_nm hf eSM_1
  refine g_put hC hW hin12_errors_12 tyX12 tyX12_ok nmX12 0 rfl rfl 0 (by decide) 1 rfl rfl rfl rfl (Nat.le_of_ble_eq_true rfl) (w' := w12 cy aM SM_1) (by rw [eSM_1]; rfl) dX12_errors_2 (fun H locs hW => ?_)
  refine lv_aload_n hC.1 hC.2.1 dX12_errors_5 rfl (lv_at hl 0 rfl) ?_
  refine lv_iload_n hC.1 hC.2.1 dX12_errors_6 rfl (lv_at hl 1 rfl) ?_
  obtain ⟨r_2, hg_3, hf⟩ := bd_of hf
  refine g_calliV hC hW (c12_isGuest l D cy ad aM hg_3) (cwV 1 hC.2.2.2.2.1 gX12_errors_X12_isGuest rfl rfl rfl hdV12_isGuest ⟨Nat.le_of_ble_eq_true rfl, Nat.le_of_ble_eq_true rfl⟩) (Sub.all _ _) 0 11 rfl rfl rfl rfl hl.1 rfl (Nat.le_of_ble_eq_true rfl) dX12_errors_7 ⟨Nat.zero_le _, Nat.zero_le _⟩ (fun H locs hW => ?_)
  refine lv_if_eq (tgt := 36) hC.1 hC.2.1 dX12_errors_10 (by decide) (fun hc_4 => ?_) (fun hc_4 => ?_)
  · have hf := ite_t hf hc_4
    exact t12_errors_36 hC  _ _ _ _ _ hf hW (lv_sub hl [] rfl)
  · have hf := ite_f hf hc_4
    refine lv_iload_n hC.1 hC.2.1 dX12_errors_13 rfl (lv_at hl 2 rfl) ?_
    refine lv_iconst (v := 0) hC.1 hC.2.1 dX12_errors_14 (by decide) ?_
    refine lv_aload_n hC.1 hC.2.1 dX12_errors_15 rfl (lv_at hl 0 rfl) ?_
    obtain ⟨r_5, hg_6, hf⟩ := bd_of hf
    refine g_calliV hC hW (c12_signs l D cy ad aM hg_6) (cwV 0 hC.2.2.2.2.1 gX12_errors_X12_signs rfl rfl rfl hdV12_signs ⟨Nat.le_of_ble_eq_true rfl, Nat.le_of_ble_eq_true rfl⟩) (Sub.all _ _) 0 11 rfl rfl rfl rfl hl.1 rfl (Nat.le_of_ble_eq_true rfl) dX12_errors_16 ⟨Nat.zero_le _, Nat.zero_le _⟩ (fun H locs hW => ?_)
    refine lv_iconst (v := 1) hC.1 hC.2.1 dX12_errors_19 (by decide) ?_
    refine lv_isub hC.1 hC.2.1 dX12_errors_20 ?_
    obtain ⟨r_7, hg_8, hf⟩ := bd_of hf
    refine g_calliS hC hW (c12_within l D cy ad  hg_8) (va_cwS 3 hC.2.2.2.2.1 gX12_errors_X12_within rfl rfl rfl hdS12_within ⟨Nat.le_of_ble_eq_true rfl, Nat.le_of_ble_eq_true rfl⟩) (Sub.nil _) rfl hl.1 rfl (Nat.le_of_ble_eq_true rfl) dX12_errors_21 ⟨Nat.zero_le _, Nat.zero_le _⟩ (fun H locs hW => ?_)
    refine lv_if_eq (tgt := 36) hC.1 hC.2.1 dX12_errors_24 (by decide) (fun hc_9 => ?_) (fun hc_9 => ?_)
    · have hf := ite_t hf hc_9
      exact t12_errors_36 hC  _ _ _ _ _ hf hW (lv_sub hl [] rfl)
    · have hf := ite_f hf hc_9
      refine lv_iload_n hC.1 hC.2.1 dX12_errors_27 rfl (lv_at hl 3 rfl) ?_
      refine lv_iconst (v := 0) hC.1 hC.2.1 dX12_errors_28 (by decide) ?_
      refine lv_iconst (v := 1) hC.1 hC.2.1 dX12_errors_29 (by decide) ?_
      obtain ⟨r_10, hg_11, hf⟩ := bd_of hf
      refine g_calliS hC hW (c12_within l D cy ad  hg_11) (va_cwS 3 hC.2.2.2.2.1 gX12_errors_X12_within rfl rfl rfl hdS12_within ⟨Nat.le_of_ble_eq_true rfl, Nat.le_of_ble_eq_true rfl⟩) (Sub.nil _) rfl hl.1 rfl (Nat.le_of_ble_eq_true rfl) dX12_errors_30 ⟨Nat.zero_le _, Nat.zero_le _⟩ (fun H locs hW => ?_)
      refine lv_if_ne (tgt := 38) hC.1 hC.2.1 dX12_errors_33 (by decide) (fun hc_12 => ?_) (fun hc_12 => ?_)
      · have hf := ite_f hf hc_12
        refine lv_lconst (v := 0) hC.1 hC.2.1 dX12_errors_38 (by decide) ?_
        refine lv_lstore (lv' := [(4, .long 0), (0, .ref (aM 0)), (1, .int x1), (2, .int x2), (3, .int x3)]) hC.1 hC.2.1 dX12_errors_39 hl (by decide) rfl (fun ls hl => ?_)
        refine lv_lconst (v := 0) hC.1 hC.2.1 dX12_errors_41 (by decide) ?_
        refine lv_lstore (lv' := [(6, .long 0), (4, .long 0), (0, .ref (aM 0)), (1, .int x1), (2, .int x2), (3, .int x3)]) hC.1 hC.2.1 dX12_errors_42 hl (by decide) rfl (fun ls hl => ?_)
        refine lv_iconst (v := 0) hC.1 hC.2.1 dX12_errors_44 (by decide) ?_
        refine lv_istore (lv' := [(8, .int 0), (6, .long 0), (4, .long 0), (0, .ref (aM 0)), (1, .int x1), (2, .int x2), (3, .int x3)]) hC.1 hC.2.1 dX12_errors_45 hl (by decide) rfl (fun ls hl => ?_)
        exact t12_errors_47 hC _ _ _ _ _ _ _ _ _ _ _ _ hf hW (lv_sub hl [3, 4, 5, 6, 2, 1, 0] rfl)
      · have hf := ite_t hf hc_12
        exact t12_errors_36 hC  _ _ _ _ _ hf hW (lv_sub hl [] rfl)
set_option maxRecDepth 100000 in
set_option maxHeartbeats 4000000 in
theorem c12_errors (l : Launch) (D : va_G) (cy : Nat → ClassId) (ad : Nat → Nat) (aM : Nat → Nat) {x1 : Int32} {x2 : Int32} {x3 : Int32} {SM : Ob} {res : Int32 × Ob} (h : f12_errors x1 x2 x3 SM = some res) : GCi l yX12_errors wsX12_errors rm12_errors [.ref (aM 0), .int x1, .int x2, .int x3] D cy ad (w12 cy aM SM) (w12 cy aM (res.2)) (res.1) := fun sz => GC.start (own := RX12) (Qc := fun A => QI D cy (w12 cy aM (res.2)) A (res.1)) sz (by decide) rfl rfl (Nat.le_of_ble_eq_true rfl) (fun p e s m below meth c A ls hC hW hl => t12_errors_0 hC _ _ _ _ _ _ _ _ h hW (lv_sub hl [0, 1, 2, 3] rfl))
abbrev rm12_findRooms : Room := { frames := 2, cells := 0, slots := 0, locals := 43 }
theorem hdV12_findRooms : yX12_findRooms.cls = RX12 ∧ (yX12_findRooms.cls ≠ "java/lang/invoke/MethodHandle" ∧ yX12_findRooms.cls ≠ "java/lang/invoke/VarHandle" ∧ (parseMethodDescriptor yX12_findRooms.desc).map (fun d => d.parameters.length) = some 0) := by decide +kernel
theorem hin12_findRooms_12 : ∀ x ∈ u_ws RX12 TX12 39, x ∈ wsX12_findRooms := fun _ h => List.mem_cons_of_mem _ (List.mem_append_right _ h)
set_option maxRecDepth 100000 in
set_option maxHeartbeats 4000000 in
theorem t12_findRooms_72 (hC : Cx p s m args meth c cX12_findRooms 5 wsX12_findRooms RX12 (some .int)) {k34 : Int32 → Int32 → Ob → Option (Int32 × Ob)} (hk34 : ∀ (x1 : Int32) (x2 : Int32) (SM : Ob) (res : Int32 × Ob) (H : Heap) (locs : List Loc) (ls : Array Slot), k34 x1 x2 SM = some res → GW D cy ad (w12 cy aM SM) A s H locs → lv_has ls 5 [(0, .ref (aM 0)), (1, .int x1), (2, .int x2)] → W p l e rm12_findRooms s m args below meth c H locs 0 0 (MQ below (QI D cy (w12 cy aM (res.2)) A (res.1)) args s 0 0 A) (F0 m 34 ls [])) : ∀ (x1 : Int32) (x2 : Int32) (z1 : Int32) (z2 : Int32) (z3 : Int32) (SM : Ob) (res : Int32 × Ob) (H : Heap) (locs : List Loc) (ls : Array Slot), f12_findRooms_72 k34 x1 x2 z1 z2 z3 SM = some res → GW D cy ad (w12 cy aM SM) A s H locs → lv_has ls 5 [(0, .ref (aM 0)), (1, .int x1), (2, .int x2)] → W p l e rm12_findRooms s m args below meth c H locs 0 0 (MQ below (QI D cy (w12 cy aM (res.2)) A (res.1)) args s 0 0 A) (F0 m 72 ls [.int z3, .int z2, .int z1, .ref (aM 32)]) := by
  intro x1 x2 z1 z2 z3 SM res H locs ls hf hW hl
  unfold f12_findRooms_72 at hf
  refine lv_iadd hC.1 hC.2.1 dX12_findRooms_72 ?_
  obtain ⟨hi_1, hf⟩ := ck_of hf
  obtain ⟨SM_2, eSM_2⟩ : ∃ y : Ob, y = oA SM 31 (Int32.toNatClampNeg z1) (z2 + z3) := ⟨_, rfl⟩
  have hf := lt_nm hf eSM_2
  refine g_iast hC hW 21 rfl hi_1 (w' := w12 cy aM SM_2) (by rw [eSM_2]; rfl) dX12_findRooms_73 (fun H locs hW => ?_)
  obtain ⟨x2_3, ex2_3⟩ : ∃ y : Int32, y = x2 + 1 := ⟨_, rfl⟩
  have hf := lt_nm hf ex2_3
  refine lv_iinc (v := x2_3) (lv' := [(2, .int x2_3), (0, .ref (aM 0)), (1, .int x1)]) hC.1 hC.2.1 dX12_findRooms_74 hl (k := 2) rfl (by rw [ex2_3]; rfl) (by decide) rfl (fun ls hl => ?_)
  refine lv_goto (tgt := 34) hC.1 hC.2.1 dX12_findRooms_77 (by decide) ?_
  exact hk34 _ _ _ _ _ _ _ hf hW (lv_sub hl [1, 2, 0] rfl)
set_option maxRecDepth 100000 in
set_option maxHeartbeats 4000000 in
theorem t12_findRooms_163 (hC : Cx p s m args meth c cX12_findRooms 5 wsX12_findRooms RX12 (some .int)) {k84 : Int32 → Int32 → Ob → Option (Int32 × Ob)} (hk84 : ∀ (x2 : Int32) (x3 : Int32) (SM : Ob) (res : Int32 × Ob) (H : Heap) (locs : List Loc) (ls : Array Slot), k84 x2 x3 SM = some res → GW D cy ad (w12 cy aM SM) A s H locs → lv_has ls 5 [(0, .ref (aM 0)), (2, .int x2), (3, .int x3)] → W p l e rm12_findRooms s m args below meth c H locs 0 0 (MQ below (QI D cy (w12 cy aM (res.2)) A (res.1)) args s 0 0 A) (F0 m 84 ls [])) : ∀ (x2 : Int32) (x3 : Int32) (SM : Ob) (res : Int32 × Ob) (H : Heap) (locs : List Loc) (ls : Array Slot), f12_findRooms_163 k84 x2 x3 SM = some res → GW D cy ad (w12 cy aM SM) A s H locs → lv_has ls 5 [(0, .ref (aM 0)), (2, .int x2), (3, .int x3)] → W p l e rm12_findRooms s m args below meth c H locs 0 0 (MQ below (QI D cy (w12 cy aM (res.2)) A (res.1)) args s 0 0 A) (F0 m 163 ls []) := by
  intro x2 x3 SM res H locs ls hf hW hl
  unfold f12_findRooms_163 at hf
  obtain ⟨x3_1, ex3_1⟩ : ∃ y : Int32, y = x3 + 1 := ⟨_, rfl⟩
  have hf := lt_nm hf ex3_1
  refine lv_iinc (v := x3_1) (lv' := [(3, .int x3_1), (0, .ref (aM 0)), (2, .int x2)]) hC.1 hC.2.1 dX12_findRooms_163 hl (k := 2) rfl (by rw [ex3_1]; rfl) (by decide) rfl (fun ls hl => ?_)
  refine lv_goto (tgt := 84) hC.1 hC.2.1 dX12_findRooms_166 (by decide) ?_
  exact hk84 _ _ _ _ _ _ _ hf hW (lv_sub hl [1, 2, 0] rfl)
set_option maxRecDepth 100000 in
set_option maxHeartbeats 4000000 in
theorem t12_findRooms_152 (hC : Cx p s m args meth c cX12_findRooms 5 wsX12_findRooms RX12 (some .int)) {k84 : Int32 → Int32 → Ob → Option (Int32 × Ob)} (hk84 : ∀ (x2 : Int32) (x3 : Int32) (SM : Ob) (res : Int32 × Ob) (H : Heap) (locs : List Loc) (ls : Array Slot), k84 x2 x3 SM = some res → GW D cy ad (w12 cy aM SM) A s H locs → lv_has ls 5 [(0, .ref (aM 0)), (2, .int x2), (3, .int x3)] → W p l e rm12_findRooms s m args below meth c H locs 0 0 (MQ below (QI D cy (w12 cy aM (res.2)) A (res.1)) args s 0 0 A) (F0 m 84 ls [])) : ∀ (x2 : Int32) (x3 : Int32) (x4 : Int32) (SM : Ob) (res : Int32 × Ob) (H : Heap) (locs : List Loc) (ls : Array Slot), f12_findRooms_152 k84 x2 x3 x4 SM = some res → GW D cy ad (w12 cy aM SM) A s H locs → lv_has ls 5 [(0, .ref (aM 0)), (2, .int x2), (3, .int x3), (4, .int x4)] → W p l e rm12_findRooms s m args below meth c H locs 0 0 (MQ below (QI D cy (w12 cy aM (res.2)) A (res.1)) args s 0 0 A) (F0 m 152 ls []) := by
  intro x2 x3 x4 SM res H locs ls hf hW hl
  unfold f12_findRooms_152 at hf
  refine lv_aload_n hC.1 hC.2.1 dX12_findRooms_152 rfl (lv_at hl 0 rfl) ?_
  refine g_get hC hW hin12_findRooms_12 0 rfl rfl 32 (by decide) 3 rfl rfl dX12_findRooms_153 ?_
  refine lv_iload hC.1 hC.2.1 dX12_findRooms_156 (lv_at hl 3 rfl) ?_
  refine lv_iload_n hC.1 hC.2.1 dX12_findRooms_158 rfl (lv_at hl 2 rfl) ?_
  obtain ⟨hi_1, hf⟩ := ck_of hf
  obtain ⟨SM_2, eSM_2⟩ : ∃ y : Ob, y = oA SM 32 (Int32.toNatClampNeg x4) x3 := ⟨_, rfl⟩
  have hf := lt_nm hf eSM_2
  refine g_iast hC hW 22 rfl hi_1 (w' := w12 cy aM SM_2) (by rw [eSM_2]; rfl) dX12_findRooms_159 (fun H locs hW => ?_)
  obtain ⟨x2_3, ex2_3⟩ : ∃ y : Int32, y = x2 + 1 := ⟨_, rfl⟩
  have hf := lt_nm hf ex2_3
  refine lv_iinc (v := x2_3) (lv' := [(2, .int x2_3), (0, .ref (aM 0)), (3, .int x3), (4, .int x4)]) hC.1 hC.2.1 dX12_findRooms_160 hl (k := 1) rfl (by rw [ex2_3]; rfl) (by decide) rfl (fun ls hl => ?_)
  exact t12_findRooms_163 hC hk84  _ _ _ _ _ _ _ hf hW (lv_sub hl [1, 0, 2] rfl)
set_option maxRecDepth 100000 in
set_option maxHeartbeats 4000000 in
theorem t12_findRooms_102 (hC : Cx p s m args meth c cX12_findRooms 5 wsX12_findRooms RX12 (some .int)) {k84 : Int32 → Int32 → Ob → Option (Int32 × Ob)} (hk84 : ∀ (x2 : Int32) (x3 : Int32) (SM : Ob) (res : Int32 × Ob) (H : Heap) (locs : List Loc) (ls : Array Slot), k84 x2 x3 SM = some res → GW D cy ad (w12 cy aM SM) A s H locs → lv_has ls 5 [(0, .ref (aM 0)), (2, .int x2), (3, .int x3)] → W p l e rm12_findRooms s m args below meth c H locs 0 0 (MQ below (QI D cy (w12 cy aM (res.2)) A (res.1)) args s 0 0 A) (F0 m 84 ls [])) : ∀ n : Nat, ∀ (x2 : Int32) (x3 : Int32) (x4 : Int32) (SM : Ob) (res : Int32 × Ob) (H : Heap) (locs : List Loc) (ls : Array Slot), f12_findRooms_102 k84 n x2 x3 x4 SM = some res → GW D cy ad (w12 cy aM SM) A s H locs → lv_has ls 5 [(0, .ref (aM 0)), (2, .int x2), (3, .int x3), (4, .int x4)] → W p l e rm12_findRooms s m args below meth c H locs 0 0 (MQ below (QI D cy (w12 cy aM (res.2)) A (res.1)) args s 0 0 A) (F0 m 102 ls []) := by
  intro n
  induction n with
  | zero =>
    intro _ _ _ _ _ _ _ _ hf _ _
    exact nomatch (show (none : Option (Int32 × Ob)) = some _ from hf)
  | succ n ih =>
    intro x2 x3 x4 SM res H locs ls hf hW hl
    rw [f12_findRooms_102] at hf
    refine lv_iload hC.1 hC.2.1 dX12_findRooms_102 (lv_at hl 3 rfl) ?_
    refine lv_if_le (tgt := 152) hC.1 hC.2.1 dX12_findRooms_104 (by decide) (fun hc_1 => ?_) (fun hc_1 => ?_)
    · have hf := ite_t hf hc_1
      exact t12_findRooms_152 hC hk84  _ _ _ _ _ _ _ _ hf hW (lv_sub hl [0, 1, 2, 3] rfl)
    · have hf := ite_f hf hc_1
      refine lv_aload_n hC.1 hC.2.1 dX12_findRooms_107 rfl (lv_at hl 0 rfl) ?_
      refine g_get hC hW hin12_findRooms_12 0 rfl rfl 31 (by decide) 2 rfl rfl dX12_findRooms_108 ?_
      refine lv_aload_n hC.1 hC.2.1 dX12_findRooms_111 rfl (lv_at hl 0 rfl) ?_
      refine g_get hC hW hin12_findRooms_12 0 rfl rfl 32 (by decide) 3 rfl rfl dX12_findRooms_112 ?_
      refine lv_iload hC.1 hC.2.1 dX12_findRooms_115 (lv_at hl 3 rfl) ?_
      refine lv_iconst (v := 1) hC.1 hC.2.1 dX12_findRooms_117 (by decide) ?_
      refine lv_isub hC.1 hC.2.1 dX12_findRooms_118 ?_
      obtain ⟨hi_2, hf⟩ := ck_of hf
      refine g_iald hC hW 22 rfl hi_2 dX12_findRooms_119 ?_
      obtain ⟨hi_3, hf⟩ := ck_of hf
      refine g_iald hC hW 21 rfl hi_3 dX12_findRooms_120 ?_
      refine lv_aload_n hC.1 hC.2.1 dX12_findRooms_121 rfl (lv_at hl 0 rfl) ?_
      refine g_get hC hW hin12_findRooms_12 0 rfl rfl 31 (by decide) 2 rfl rfl dX12_findRooms_122 ?_
      refine lv_iload_n hC.1 hC.2.1 dX12_findRooms_125 rfl (lv_at hl 2 rfl) ?_
      obtain ⟨hi_4, hf⟩ := ck_of hf
      refine g_iald hC hW 21 rfl hi_4 dX12_findRooms_126 ?_
      refine lv_icmp_ge (tgt := 152) hC.1 hC.2.1 dX12_findRooms_127 (by decide) (fun hc_5 => ?_) (fun hc_5 => ?_)
      · have hf := ite_t hf hc_5
        exact t12_findRooms_152 hC hk84  _ _ _ _ _ _ _ _ hf hW (lv_sub hl [0, 1, 2, 3] rfl)
      · have hf := ite_f hf hc_5
        refine lv_aload_n hC.1 hC.2.1 dX12_findRooms_130 rfl (lv_at hl 0 rfl) ?_
        refine g_get hC hW hin12_findRooms_12 0 rfl rfl 32 (by decide) 3 rfl rfl dX12_findRooms_131 ?_
        refine lv_iload hC.1 hC.2.1 dX12_findRooms_134 (lv_at hl 3 rfl) ?_
        refine lv_aload_n hC.1 hC.2.1 dX12_findRooms_136 rfl (lv_at hl 0 rfl) ?_
        refine g_get hC hW hin12_findRooms_12 0 rfl rfl 32 (by decide) 3 rfl rfl dX12_findRooms_137 ?_
        refine lv_iload hC.1 hC.2.1 dX12_findRooms_140 (lv_at hl 3 rfl) ?_
        refine lv_iconst (v := 1) hC.1 hC.2.1 dX12_findRooms_142 (by decide) ?_
        refine lv_isub hC.1 hC.2.1 dX12_findRooms_143 ?_
        obtain ⟨hi_6, hf⟩ := ck_of hf
        refine g_iald hC hW 22 rfl hi_6 dX12_findRooms_144 ?_
        obtain ⟨hi_7, hf⟩ := ck_of hf
        obtain ⟨SM_8, eSM_8⟩ : ∃ y : Ob, y = oA SM 32 (Int32.toNatClampNeg x4) (SM.2.2.1 32 (Int32.toNatClampNeg (x4 - 1))) := ⟨_, rfl⟩
        have hf := lt_nm hf eSM_8
        refine g_iast hC hW 22 rfl hi_7 (w' := w12 cy aM SM_8) (by rw [eSM_8]; rfl) dX12_findRooms_145 (fun H locs hW => ?_)
        obtain ⟨x4_9, ex4_9⟩ : ∃ y : Int32, y = x4 + (-1) := ⟨_, rfl⟩
        have hf := lt_nm hf ex4_9
        refine lv_iinc (v := x4_9) (lv' := [(4, .int x4_9), (0, .ref (aM 0)), (2, .int x2), (3, .int x3)]) hC.1 hC.2.1 dX12_findRooms_146 hl (k := 3) rfl (by rw [ex4_9]; rfl) (by decide) rfl (fun ls hl => ?_)
        refine lv_goto (tgt := 102) hC.1 hC.2.1 dX12_findRooms_149 (by decide) ?_
        exact ih _ _ _ _ _ _ _ _ hf hW (lv_sub hl [1, 2, 3, 0] rfl)
set_option maxRecDepth 100000 in
set_option maxHeartbeats 4000000 in
theorem t12_findRooms_84 (hC : Cx p s m args meth c cX12_findRooms 5 wsX12_findRooms RX12 (some .int)) : ∀ n : Nat, ∀ (x2 : Int32) (x3 : Int32) (SM : Ob) (res : Int32 × Ob) (H : Heap) (locs : List Loc) (ls : Array Slot), f12_findRooms_84 n x2 x3 SM = some res → GW D cy ad (w12 cy aM SM) A s H locs → lv_has ls 5 [(0, .ref (aM 0)), (2, .int x2), (3, .int x3)] → W p l e rm12_findRooms s m args below meth c H locs 0 0 (MQ below (QI D cy (w12 cy aM (res.2)) A (res.1)) args s 0 0 A) (F0 m 84 ls []) := by
  intro n
  induction n with
  | zero =>
    intro _ _ _ _ _ _ _ hf _ _
    exact nomatch (show (none : Option (Int32 × Ob)) = some _ from hf)
  | succ n ih =>
    intro x2 x3 SM res H locs ls hf hW hl
    rw [f12_findRooms_84] at hf
    refine lv_iload_n hC.1 hC.2.1 dX12_findRooms_84 rfl (lv_at hl 2 rfl) ?_
    refine lv_bipush (v := 13) hC.1 hC.2.1 dX12_findRooms_85 (by decide) ?_
    refine lv_icmp_ge (tgt := 169) hC.1 hC.2.1 dX12_findRooms_87 (by decide) (fun hc_1 => ?_) (fun hc_1 => ?_)
    · have hf := ite_t hf hc_1
      refine lv_iload_n hC.1 hC.2.1 dX12_findRooms_169 rfl (lv_at hl 1 rfl) ?_
      obtain rfl := Option.some.inj hf
      exact g_iret hC hW dX12_findRooms_170
    · have hf := ite_f hf hc_1
      refine lv_aload_n hC.1 hC.2.1 dX12_findRooms_90 rfl (lv_at hl 0 rfl) ?_
      refine g_get hC hW hin12_findRooms_12 0 rfl rfl 31 (by decide) 2 rfl rfl dX12_findRooms_91 ?_
      refine lv_iload_n hC.1 hC.2.1 dX12_findRooms_94 rfl (lv_at hl 2 rfl) ?_
      obtain ⟨hi_2, hf⟩ := ck_of hf
      refine g_iald hC hW 21 rfl hi_2 dX12_findRooms_95 ?_
      refine lv_if_le (tgt := 163) hC.1 hC.2.1 dX12_findRooms_96 (by decide) (fun hc_3 => ?_) (fun hc_3 => ?_)
      · have hf := ite_t hf hc_3
        exact t12_findRooms_163 hC ih  _ _ _ _ _ _ _ hf hW (lv_sub hl [0, 1, 2] rfl)
      · have hf := ite_f hf hc_3
        refine lv_iload_n hC.1 hC.2.1 dX12_findRooms_99 rfl (lv_at hl 1 rfl) ?_
        refine lv_istore (lv' := [(4, .int x2), (0, .ref (aM 0)), (2, .int x2), (3, .int x3)]) hC.1 hC.2.1 dX12_findRooms_100 hl (by decide) rfl (fun ls hl => ?_)
        exact t12_findRooms_102 hC ih _ _ _ _ _ _ _ _ _ hf hW (lv_sub hl [1, 2, 3, 0] rfl)
set_option maxRecDepth 100000 in
set_option maxHeartbeats 4000000 in
theorem t12_findRooms_34 (hC : Cx p s m args meth c cX12_findRooms 5 wsX12_findRooms RX12 (some .int)) : ∀ n : Nat, ∀ (x1 : Int32) (x2 : Int32) (SM : Ob) (res : Int32 × Ob) (H : Heap) (locs : List Loc) (ls : Array Slot), f12_findRooms_34 n x1 x2 SM = some res → GW D cy ad (w12 cy aM SM) A s H locs → lv_has ls 5 [(0, .ref (aM 0)), (1, .int x1), (2, .int x2)] → W p l e rm12_findRooms s m args below meth c H locs 0 0 (MQ below (QI D cy (w12 cy aM (res.2)) A (res.1)) args s 0 0 A) (F0 m 34 ls []) := by
  intro n
  induction n with
  | zero =>
    intro _ _ _ _ _ _ _ hf _ _
    exact nomatch (show (none : Option (Int32 × Ob)) = some _ from hf)
  | succ n ih =>
    intro x1 x2 SM res H locs ls hf hW hl
    rw [f12_findRooms_34] at hf
    refine lv_iload_n hC.1 hC.2.1 dX12_findRooms_34 rfl (lv_at hl 2 rfl) ?_
    refine lv_aload_n hC.1 hC.2.1 dX12_findRooms_35 rfl (lv_at hl 0 rfl) ?_
    obtain ⟨r_1, hg_2, hf⟩ := bd_of hf
    refine g_calliV hC hW (c12_guests l D cy ad aM hg_2) (cwV 0 hC.2.2.2.2.1 gX12_findRooms_X12_guests rfl rfl rfl hdV12_guests ⟨Nat.le_of_ble_eq_true rfl, Nat.le_of_ble_eq_true rfl⟩) (Sub.all _ _) 0 11 rfl rfl rfl rfl hl.1 rfl (Nat.le_of_ble_eq_true rfl) dX12_findRooms_36 ⟨Nat.zero_le _, Nat.zero_le _⟩ (fun H locs hW => ?_)
    refine lv_icmp_ge (tgt := 80) hC.1 hC.2.1 dX12_findRooms_39 (by decide) (fun hc_3 => ?_) (fun hc_3 => ?_)
    · have hf := ite_t hf hc_3
      refine lv_iconst (v := 0) hC.1 hC.2.1 dX12_findRooms_80 (by decide) ?_
      refine lv_istore_n (lv' := [(2, .int 0), (0, .ref (aM 0)), (1, .int x1)]) hC.1 hC.2.1 dX12_findRooms_81 rfl hl (by decide) rfl (fun ls hl => ?_)
      refine lv_iconst (v := 1) hC.1 hC.2.1 dX12_findRooms_82 (by decide) ?_
      refine lv_istore_n (lv' := [(3, .int 1), (2, .int 0), (0, .ref (aM 0)), (1, .int x1)]) hC.1 hC.2.1 dX12_findRooms_83 rfl hl (by decide) rfl (fun ls hl => ?_)
      exact t12_findRooms_84 hC _ _ _ _ _ _ _ _ hf hW (lv_sub hl [2, 1, 0] rfl)
    · have hf := ite_f hf hc_3
      refine lv_aload_n hC.1 hC.2.1 dX12_findRooms_42 rfl (lv_at hl 0 rfl) ?_
      refine g_get hC hW hin12_findRooms_12 0 rfl rfl 31 (by decide) 2 rfl rfl dX12_findRooms_43 ?_
      refine lv_aload_n hC.1 hC.2.1 dX12_findRooms_46 rfl (lv_at hl 0 rfl) ?_
      refine lv_iload_n hC.1 hC.2.1 dX12_findRooms_47 rfl (lv_at hl 2 rfl) ?_
      refine lv_iconst (v := 1) hC.1 hC.2.1 dX12_findRooms_48 (by decide) ?_
      obtain ⟨r_4, hg_5, hf⟩ := bd_of hf
      refine g_calliV hC hW (c12_guestOf l D cy ad aM hg_5) (cwV 2 hC.2.2.2.2.1 gX12_findRooms_X12_guestOf rfl rfl rfl hdV12_guestOf ⟨Nat.le_of_ble_eq_true rfl, Nat.le_of_ble_eq_true rfl⟩) (Sub.all _ _) 0 11 rfl rfl rfl rfl hl.1 rfl (Nat.le_of_ble_eq_true rfl) dX12_findRooms_49 ⟨Nat.zero_le _, Nat.zero_le _⟩ (fun H locs hW => ?_)
      refine lv_dup2_11 hC.1 hC.2.1 dX12_findRooms_52 rfl rfl ?_
      obtain ⟨hi_6, hf⟩ := ck_of hf
      refine g_iald hC hW 21 rfl hi_6 dX12_findRooms_53 ?_
      refine lv_iload_n hC.1 hC.2.1 dX12_findRooms_54 rfl (lv_at hl 1 rfl) ?_
      refine lv_iload_n hC.1 hC.2.1 dX12_findRooms_55 rfl (lv_at hl 2 rfl) ?_
      obtain ⟨r_7, hg_8, hf⟩ := bd_of hf
      refine g_calliS hC hW (c12_isIn l D cy ad  hg_8) (va_cwS 2 hC.2.2.2.2.1 gX12_findRooms_X12_isIn rfl rfl rfl hdS12_isIn ⟨Nat.le_of_ble_eq_true rfl, Nat.le_of_ble_eq_true rfl⟩) (Sub.nil _) rfl hl.1 rfl (Nat.le_of_ble_eq_true rfl) dX12_findRooms_56 ⟨Nat.zero_le _, Nat.zero_le _⟩ (fun H locs hW => ?_)
      refine lv_if_eq (tgt := 71) hC.1 hC.2.1 dX12_findRooms_59 (by decide) (fun hc_9 => ?_) (fun hc_9 => ?_)
      · have hf := ite_t hf hc_9
        refine lv_iconst (v := 0) hC.1 hC.2.1 dX12_findRooms_71 (by decide) ?_
        exact t12_findRooms_72 hC ih  _ _ _ _ _ _ _ _ _ _ hf hW (lv_sub hl [0, 1, 2] rfl)
      · have hf := ite_f hf hc_9
        refine lv_aload_n hC.1 hC.2.1 dX12_findRooms_62 rfl (lv_at hl 0 rfl) ?_
        refine lv_iload_n hC.1 hC.2.1 dX12_findRooms_63 rfl (lv_at hl 2 rfl) ?_
        refine lv_iconst (v := 2) hC.1 hC.2.1 dX12_findRooms_64 (by decide) ?_
        obtain ⟨r_10, hg_11, hf⟩ := bd_of hf
        refine g_calliV hC hW (c12_guestOf l D cy ad aM hg_11) (cwV 2 hC.2.2.2.2.1 gX12_findRooms_X12_guestOf rfl rfl rfl hdV12_guestOf ⟨Nat.le_of_ble_eq_true rfl, Nat.le_of_ble_eq_true rfl⟩) (Sub.all _ _) 0 11 rfl rfl rfl rfl hl.1 rfl (Nat.le_of_ble_eq_true rfl) dX12_findRooms_65 ⟨Nat.zero_le _, Nat.zero_le _⟩ (fun H locs hW => ?_)
        refine lv_goto (tgt := 72) hC.1 hC.2.1 dX12_findRooms_68 (by decide) ?_
        exact t12_findRooms_72 hC ih  _ _ _ _ _ _ _ _ _ _ hf hW (lv_sub hl [0, 1, 2] rfl)
set_option maxRecDepth 100000 in
set_option maxHeartbeats 4000000 in
theorem t12_findRooms_13 (hC : Cx p s m args meth c cX12_findRooms 5 wsX12_findRooms RX12 (some .int)) : ∀ n : Nat, ∀ (x1 : Int32) (x2 : Int32) (SM : Ob) (res : Int32 × Ob) (H : Heap) (locs : List Loc) (ls : Array Slot), f12_findRooms_13 n x1 x2 SM = some res → GW D cy ad (w12 cy aM SM) A s H locs → lv_has ls 5 [(0, .ref (aM 0)), (1, .int x1), (2, .int x2)] → W p l e rm12_findRooms s m args below meth c H locs 0 0 (MQ below (QI D cy (w12 cy aM (res.2)) A (res.1)) args s 0 0 A) (F0 m 13 ls []) := by
  intro n
  induction n with
  | zero =>
    intro _ _ _ _ _ _ _ hf _ _
    exact nomatch (show (none : Option (Int32 × Ob)) = some _ from hf)
  | succ n ih =>
    intro x1 x2 SM res H locs ls hf hW hl
    rw [f12_findRooms_13] at hf
    refine lv_iload_n hC.1 hC.2.1 dX12_findRooms_13 rfl (lv_at hl 2 rfl) ?_
    refine lv_bipush (v := 13) hC.1 hC.2.1 dX12_findRooms_14 (by decide) ?_
    refine lv_icmp_ge (tgt := 32) hC.1 hC.2.1 dX12_findRooms_16 (by decide) (fun hc_1 => ?_) (fun hc_1 => ?_)
    · have hf := ite_t hf hc_1
      refine lv_iconst (v := 0) hC.1 hC.2.1 dX12_findRooms_32 (by decide) ?_
      refine lv_istore_n (lv' := [(2, .int 0), (0, .ref (aM 0)), (1, .int x1)]) hC.1 hC.2.1 dX12_findRooms_33 rfl hl (by decide) rfl (fun ls hl => ?_)
      exact t12_findRooms_34 hC _ _ _ _ _ _ _ _ hf hW (lv_sub hl [1, 2, 0] rfl)
    · have hf := ite_f hf hc_1
      refine lv_aload_n hC.1 hC.2.1 dX12_findRooms_19 rfl (lv_at hl 0 rfl) ?_
      refine g_get hC hW hin12_findRooms_12 0 rfl rfl 31 (by decide) 2 rfl rfl dX12_findRooms_20 ?_
      refine lv_iload_n hC.1 hC.2.1 dX12_findRooms_23 rfl (lv_at hl 2 rfl) ?_
      refine lv_iconst (v := 0) hC.1 hC.2.1 dX12_findRooms_24 (by decide) ?_
      obtain ⟨hi_2, hf⟩ := ck_of hf
      obtain ⟨SM_3, eSM_3⟩ : ∃ y : Ob, y = oA SM 31 (Int32.toNatClampNeg x2) 0 := ⟨_, rfl⟩
      have hf := lt_nm hf eSM_3
      refine g_iast hC hW 21 rfl hi_2 (w' := w12 cy aM SM_3) (by rw [eSM_3]; rfl) dX12_findRooms_25 (fun H locs hW => ?_)
      obtain ⟨x2_4, ex2_4⟩ : ∃ y : Int32, y = x2 + 1 := ⟨_, rfl⟩
      have hf := lt_nm hf ex2_4
      refine lv_iinc (v := x2_4) (lv' := [(2, .int x2_4), (0, .ref (aM 0)), (1, .int x1)]) hC.1 hC.2.1 dX12_findRooms_26 hl (k := 2) rfl (by rw [ex2_4]; rfl) (by decide) rfl (fun ls hl => ?_)
      refine lv_goto (tgt := 13) hC.1 hC.2.1 dX12_findRooms_29 (by decide) ?_
      exact ih _ _ _ _ _ _ _ hf hW (lv_sub hl [1, 2, 0] rfl)
set_option maxRecDepth 100000 in
set_option maxHeartbeats 4000000 in
theorem t12_findRooms_0 (hC : Cx p s m args meth c cX12_findRooms 5 wsX12_findRooms RX12 (some .int)) : ∀ (SM : Ob) (res : Int32 × Ob) (H : Heap) (locs : List Loc) (ls : Array Slot), f12_findRooms SM = some res → GW D cy ad (w12 cy aM SM) A s H locs → lv_has ls 5 [(0, .ref (aM 0))] → W p l e rm12_findRooms s m args below meth c H locs 0 0 (MQ below (QI D cy (w12 cy aM (res.2)) A (res.1)) args s 0 0 A) (F0 m 0 ls []) := by
  intro SM res H locs ls hf hW hl
  unfold f12_findRooms at hf
  refine lv_aload_n hC.1 hC.2.1 dX12_findRooms_0 rfl (lv_at hl 0 rfl) ?_
  refine lv_aload_n hC.1 hC.2.1 dX12_findRooms_1 rfl (lv_at hl 0 rfl) ?_
  refine g_get hC hW hin12_findRooms_12 0 rfl rfl 25 (by decide) 1 rfl rfl dX12_findRooms_2 ?_
  refine lv_iconst (v := 0) hC.1 hC.2.1 dX12_findRooms_5 (by decide) ?_
  obtain ⟨hi_1, hf⟩ := ck_of hf
  refine g_iald hC hW 16 rfl hi_1 dX12_findRooms_6 ?_
  obtain ⟨r_2, hg_3, hf⟩ := bd_of hf
  refine g_calliV hC hW (c12_whoIn l D cy ad aM hg_3) (cwV 1 hC.2.2.2.2.1 gX12_findRooms_X12_whoIn rfl rfl rfl hdV12_whoIn ⟨Nat.le_of_ble_eq_true rfl, Nat.le_of_ble_eq_true rfl⟩) (Sub.all _ _) 0 11 rfl rfl rfl rfl hl.1 rfl (Nat.le_of_ble_eq_true rfl) dX12_findRooms_7 ⟨Nat.zero_le _, Nat.zero_le _⟩ (fun H locs hW => ?_)
  refine lv_istore_n (lv' := [(1, .int r_2), (0, .ref (aM 0))]) hC.1 hC.2.1 dX12_findRooms_10 rfl hl (by decide) rfl (fun ls hl => ?_)
  refine lv_iconst (v := 0) hC.1 hC.2.1 dX12_findRooms_11 (by decide) ?_
  refine lv_istore_n (lv' := [(2, .int 0), (1, .int r_2), (0, .ref (aM 0))]) hC.1 hC.2.1 dX12_findRooms_12 rfl hl (by decide) rfl (fun ls hl => ?_)
  exact t12_findRooms_13 hC _ _ _ _ _ _ _ _ hf hW (lv_sub hl [2, 1, 0] rfl)
set_option maxRecDepth 100000 in
set_option maxHeartbeats 4000000 in
theorem c12_findRooms (l : Launch) (D : va_G) (cy : Nat → ClassId) (ad : Nat → Nat) (aM : Nat → Nat) {SM : Ob} {res : Int32 × Ob} (h : f12_findRooms SM = some res) : GCi l yX12_findRooms wsX12_findRooms rm12_findRooms [.ref (aM 0)] D cy ad (w12 cy aM SM) (w12 cy aM (res.2)) (res.1) := fun sz => GC.start (own := RX12) (Qc := fun A => QI D cy (w12 cy aM (res.2)) A (res.1)) sz (by decide) rfl rfl (Nat.le_of_ble_eq_true rfl) (fun p e s m below meth c A ls hC hW hl => t12_findRooms_0 hC _ _ _ _ _ h hW (lv_sub hl [0] rfl))
abbrev rm12_hunt : Room := { frames := 3, cells := 0, slots := 0, locals := 67 }
theorem hdV12_hunt : yX12_hunt.cls = RX12 ∧ (yX12_hunt.cls ≠ "java/lang/invoke/MethodHandle" ∧ yX12_hunt.cls ≠ "java/lang/invoke/VarHandle" ∧ (parseMethodDescriptor yX12_hunt.desc).map (fun d => d.parameters.length) = some 1) := by decide +kernel
theorem hin12_hunt_12 : ∀ x ∈ u_ws RX12 TX12 39, x ∈ wsX12_hunt := fun _ h => List.mem_cons_of_mem _ (List.mem_append_right _ h)
set_option maxRecDepth 100000 in
set_option maxHeartbeats 4000000 in
theorem t12_hunt_25 (hC : Cx p s m args meth c cX12_hunt 8 wsX12_hunt RX12 (some .int)) : ∀ (SM : Ob) (res : Int32 × Ob) (H : Heap) (locs : List Loc) (ls : Array Slot), f12_hunt_25 SM = some res → GW D cy ad (w12 cy aM SM) A s H locs → lv_has ls 8 [] → W p l e rm12_hunt s m args below meth c H locs 0 0 (MQ below (QI D cy (w12 cy aM (res.2)) A (res.1)) args s 0 0 A) (F0 m 25 ls []) := by
  intro SM res H locs ls hf hW hl
  unfold f12_hunt_25 at hf
  refine lv_iconst (v := (-1)) hC.1 hC.2.1 dX12_hunt_25 (by decide) ?_
  obtain rfl := Option.some.inj hf
  exact g_iret hC hW dX12_hunt_26
set_option maxRecDepth 100000 in
set_option maxHeartbeats 4000000 in
theorem t12_hunt_120 (hC : Cx p s m args meth c cX12_hunt 8 wsX12_hunt RX12 (some .int)) : ∀ (z0 : Int32) (SM : Ob) (res : Int32 × Ob) (H : Heap) (locs : List Loc) (ls : Array Slot), f12_hunt_120 z0 SM = some res → GW D cy ad (w12 cy aM SM) A s H locs → lv_has ls 8 [] → W p l e rm12_hunt s m args below meth c H locs 0 0 (MQ below (QI D cy (w12 cy aM (res.2)) A (res.1)) args s 0 0 A) (F0 m 120 ls [.int z0]) := by
  intro z0 SM res H locs ls hf hW hl
  unfold f12_hunt_120 at hf
  obtain rfl := Option.some.inj hf
  exact g_iret hC hW dX12_hunt_120
set_option maxRecDepth 100000 in
set_option maxHeartbeats 4000000 in
theorem t12_hunt_35 (hC : Cx p s m args meth c cX12_hunt 8 wsX12_hunt RX12 (some .int)) : ∀ n : Nat, ∀ (x1 : Int32) (x2 : Int32) (x3 : Int64) (x5 : Int64) (x7 : Int32) (SM : Ob) (res : Int32 × Ob) (H : Heap) (locs : List Loc) (ls : Array Slot), f12_hunt_35 n x1 x2 x3 x5 x7 SM = some res → GW D cy ad (w12 cy aM SM) A s H locs → lv_has ls 8 [(0, .ref (aM 0)), (1, .int x1), (2, .int x2), (3, .long x3), (5, .long x5), (7, .int x7)] → W p l e rm12_hunt s m args below meth c H locs 0 0 (MQ below (QI D cy (w12 cy aM (res.2)) A (res.1)) args s 0 0 A) (F0 m 35 ls []) := by
  intro n
  induction n with
  | zero =>
    intro _ _ _ _ _ _ _ _ _ _ hf _ _
    exact nomatch (show (none : Option (Int32 × Ob)) = some _ from hf)
  | succ n ih =>
    intro x1 x2 x3 x5 x7 SM res H locs ls hf hW hl
    rw [f12_hunt_35] at hf
    refine lv_iload hC.1 hC.2.1 dX12_hunt_35 (lv_at hl 5 rfl) ?_
    refine lv_iload_n hC.1 hC.2.1 dX12_hunt_37 rfl (lv_at hl 2 rfl) ?_
    refine lv_icmp_ge (tgt := 87) hC.1 hC.2.1 dX12_hunt_38 (by decide) (fun hc_1 => ?_) (fun hc_1 => ?_)
    · have hf := ite_t hf hc_1
      refine lv_iload_n hC.1 hC.2.1 dX12_hunt_87 rfl (lv_at hl 1 rfl) ?_
      refine lv_if_ne (tgt := 103) hC.1 hC.2.1 dX12_hunt_88 (by decide) (fun hc_2 => ?_) (fun hc_2 => ?_)
      · have hf := ite_f hf hc_2
        refine lv_iload_n hC.1 hC.2.1 dX12_hunt_103 rfl (lv_at hl 1 rfl) ?_
        refine lv_iconst (v := 1) hC.1 hC.2.1 dX12_hunt_104 (by decide) ?_
        refine lv_icmp_ne (tgt := 112) hC.1 hC.2.1 dX12_hunt_105 (by decide) (fun hc_3 => ?_) (fun hc_3 => ?_)
        · have hf := ite_f hf hc_3
          refine lv_aload_n hC.1 hC.2.1 dX12_hunt_112 rfl (lv_at hl 0 rfl) ?_
          refine g_get hC hW hin12_hunt_12 0 rfl rfl 32 (by decide) 3 rfl rfl dX12_hunt_113 ?_
          refine lv_iload_n hC.1 hC.2.1 dX12_hunt_116 rfl (lv_at hl 1 rfl) ?_
          refine lv_iconst (v := 2) hC.1 hC.2.1 dX12_hunt_117 (by decide) ?_
          refine lv_isub hC.1 hC.2.1 dX12_hunt_118 ?_
          obtain ⟨hi_4, hf⟩ := ck_of hf
          refine g_iald hC hW 22 rfl hi_4 dX12_hunt_119 ?_
          exact t12_hunt_120 hC  _ _ _ _ _ _ hf hW (lv_sub hl [] rfl)
        · have hf := ite_t hf hc_3
          refine lv_iload_n hC.1 hC.2.1 dX12_hunt_108 rfl (lv_at hl 2 rfl) ?_
          refine lv_goto (tgt := 120) hC.1 hC.2.1 dX12_hunt_109 (by decide) ?_
          exact t12_hunt_120 hC  _ _ _ _ _ _ hf hW (lv_sub hl [] rfl)
      · have hf := ite_t hf hc_2
        refine lv_lload_n hC.1 hC.2.1 dX12_hunt_91 rfl (lv_at hl 3 rfl) ?_
        refine lv_ldc2 (v := 1000) hC.1 hC.2.1 hC.2.2.2.1 (hC.2.2.2.2.1 _ (List.mem_of_getElem? (i := 4) rfl)) dX12_hunt_92 ?_
        refine lv_lmul hC.1 hC.2.1 dX12_hunt_95 ?_
        refine lv_lload hC.1 hC.2.1 dX12_hunt_96 (lv_at hl 4 rfl) ?_
        obtain ⟨hz_5, hf⟩ := ck_of hf
        refine lv_ldiv hC.1 hC.2.1 dX12_hunt_98 (nzl_of hz_5) ?_
        refine lv_l2i (v := Int64.toInt32 ((x3 * 1000) / x5)) hC.1 hC.2.1 dX12_hunt_99 rfl ?_
        refine lv_goto (tgt := 120) hC.1 hC.2.1 dX12_hunt_100 (by decide) ?_
        exact t12_hunt_120 hC  _ _ _ _ _ _ hf hW (lv_sub hl [] rfl)
    · have hf := ite_f hf hc_1
      refine lv_lload_n hC.1 hC.2.1 dX12_hunt_41 rfl (lv_at hl 3 rfl) ?_
      refine lv_iload hC.1 hC.2.1 dX12_hunt_42 (lv_at hl 5 rfl) ?_
      refine lv_iconst (v := 1) hC.1 hC.2.1 dX12_hunt_44 (by decide) ?_
      refine lv_iadd hC.1 hC.2.1 dX12_hunt_45 ?_
      refine lv_i2l (v := Int32.toInt64 (x7 + 1)) hC.1 hC.2.1 dX12_hunt_46 rfl ?_
      refine lv_aload_n hC.1 hC.2.1 dX12_hunt_47 rfl (lv_at hl 0 rfl) ?_
      refine g_get hC hW hin12_hunt_12 0 rfl rfl 31 (by decide) 2 rfl rfl dX12_hunt_48 ?_
      refine lv_aload_n hC.1 hC.2.1 dX12_hunt_51 rfl (lv_at hl 0 rfl) ?_
      refine g_get hC hW hin12_hunt_12 0 rfl rfl 32 (by decide) 3 rfl rfl dX12_hunt_52 ?_
      refine lv_iload hC.1 hC.2.1 dX12_hunt_55 (lv_at hl 5 rfl) ?_
      obtain ⟨hi_6, hf⟩ := ck_of hf
      refine g_iald hC hW 22 rfl hi_6 dX12_hunt_57 ?_
      obtain ⟨hi_7, hf⟩ := ck_of hf
      refine g_iald hC hW 21 rfl hi_7 dX12_hunt_58 ?_
      refine lv_i2l (v := Int32.toInt64 (SM.2.2.1 31 (Int32.toNatClampNeg (SM.2.2.1 32 (Int32.toNatClampNeg x7))))) hC.1 hC.2.1 dX12_hunt_59 rfl ?_
      refine lv_lmul hC.1 hC.2.1 dX12_hunt_60 ?_
      refine lv_ladd hC.1 hC.2.1 dX12_hunt_61 ?_
      refine lv_topl (fun x3_8 ex3_8 => ?_)
      have hf := lt_nm hf ex3_8
      refine lv_lstore_n (lv' := [(3, .long x3_8), (0, .ref (aM 0)), (1, .int x1), (2, .int x2), (5, .long x5), (7, .int x7)]) hC.1 hC.2.1 dX12_hunt_62 rfl hl (by decide) rfl (fun ls hl => ?_)
      refine lv_lload hC.1 hC.2.1 dX12_hunt_63 (lv_at hl 4 rfl) ?_
      refine lv_aload_n hC.1 hC.2.1 dX12_hunt_65 rfl (lv_at hl 1 rfl) ?_
      refine g_get hC hW hin12_hunt_12 0 rfl rfl 31 (by decide) 2 rfl rfl dX12_hunt_66 ?_
      refine lv_aload_n hC.1 hC.2.1 dX12_hunt_69 rfl (lv_at hl 1 rfl) ?_
      refine g_get hC hW hin12_hunt_12 0 rfl rfl 32 (by decide) 3 rfl rfl dX12_hunt_70 ?_
      refine lv_iload hC.1 hC.2.1 dX12_hunt_73 (lv_at hl 5 rfl) ?_
      obtain ⟨hi_9, hf⟩ := ck_of hf
      refine g_iald hC hW 22 rfl hi_9 dX12_hunt_75 ?_
      obtain ⟨hi_10, hf⟩ := ck_of hf
      refine g_iald hC hW 21 rfl hi_10 dX12_hunt_76 ?_
      refine lv_i2l (v := Int32.toInt64 (SM.2.2.1 31 (Int32.toNatClampNeg (SM.2.2.1 32 (Int32.toNatClampNeg x7))))) hC.1 hC.2.1 dX12_hunt_77 rfl ?_
      refine lv_ladd hC.1 hC.2.1 dX12_hunt_78 ?_
      refine lv_topl (fun x5_11 ex5_11 => ?_)
      have hf := lt_nm hf ex5_11
      refine lv_lstore (lv' := [(5, .long x5_11), (3, .long x3_8), (0, .ref (aM 0)), (1, .int x1), (2, .int x2), (7, .int x7)]) hC.1 hC.2.1 dX12_hunt_79 hl (by decide) rfl (fun ls hl => ?_)
      obtain ⟨x7_12, ex7_12⟩ : ∃ y : Int32, y = x7 + 1 := ⟨_, rfl⟩
      have hf := lt_nm hf ex7_12
      refine lv_iinc (v := x7_12) (lv' := [(7, .int x7_12), (5, .long x5_11), (3, .long x3_8), (0, .ref (aM 0)), (1, .int x1), (2, .int x2)]) hC.1 hC.2.1 dX12_hunt_81 hl (k := 5) rfl (by rw [ex7_12]; rfl) (by decide) rfl (fun ls hl => ?_)
      refine lv_goto (tgt := 35) hC.1 hC.2.1 dX12_hunt_84 (by decide) ?_
      exact ih _ _ _ _ _ _ _ _ _ _ hf hW (lv_sub hl [3, 4, 5, 2, 1, 0] rfl)
set_option maxRecDepth 100000 in
set_option maxHeartbeats 4000000 in
theorem t12_hunt_0 (hC : Cx p s m args meth c cX12_hunt 8 wsX12_hunt RX12 (some .int)) : ∀ (x1 : Int32) (SM : Ob) (res : Int32 × Ob) (H : Heap) (locs : List Loc) (ls : Array Slot), f12_hunt x1 SM = some res → GW D cy ad (w12 cy aM SM) A s H locs → lv_has ls 8 [(0, .ref (aM 0)), (1, .int x1)] → W p l e rm12_hunt s m args below meth c H locs 0 0 (MQ below (QI D cy (w12 cy aM (res.2)) A (res.1)) args s 0 0 A) (F0 m 0 ls []) := by
  intro x1 SM res H locs ls hf hW hl
  unfold f12_hunt at hf
  refine lv_aload_n hC.1 hC.2.1 dX12_hunt_0 rfl (lv_at hl 0 rfl) ?_
  refine lv_iconst (v := 0) hC.1 hC.2.1 dX12_hunt_1 (by decide) ?_
  obtain ⟨SM_1, eSM_1⟩ : ∃ y : Ob, y = oI SM 0 0 := ⟨_, rfl⟩
  have hf := lt_nm hf eSM_1
  refine g_put hC hW hin12_hunt_12 tyX12 tyX12_ok nmX12 0 rfl rfl 0 (by decide) 1 rfl rfl rfl rfl (Nat.le_of_ble_eq_true rfl) (w' := w12 cy aM SM_1) (by rw [eSM_1]; rfl) dX12_hunt_2 (fun H locs hW => ?_)
  refine lv_aload_n hC.1 hC.2.1 dX12_hunt_5 rfl (lv_at hl 0 rfl) ?_
  obtain ⟨r_2, hg_3, hf⟩ := bd_of hf
  refine g_calliV hC hW (c12_findRooms l D cy ad aM hg_3) (cwV 0 hC.2.2.2.2.1 gX12_hunt_X12_findRooms rfl rfl rfl hdV12_findRooms ⟨Nat.le_of_ble_eq_true rfl, Nat.le_of_ble_eq_true rfl⟩) (Sub.all _ _) 0 11 rfl rfl rfl rfl hl.1 rfl (Nat.le_of_ble_eq_true rfl) dX12_hunt_6 ⟨Nat.zero_le _, Nat.zero_le _⟩ (fun H locs hW => ?_)
  refine lv_topi (fun x2_4 ex2_4 => ?_)
  have hf := lt_nm hf ex2_4
  refine lv_istore_n (lv' := [(2, .int x2_4), (0, .ref (aM 0)), (1, .int x1)]) hC.1 hC.2.1 dX12_hunt_9 rfl hl (by decide) rfl (fun ls hl => ?_)
  refine lv_iload_n hC.1 hC.2.1 dX12_hunt_10 rfl (lv_at hl 0 rfl) ?_
  refine lv_if_eq (tgt := 25) hC.1 hC.2.1 dX12_hunt_11 (by decide) (fun hc_5 => ?_) (fun hc_5 => ?_)
  · have hf := ite_t hf hc_5
    exact t12_hunt_25 hC  _ _ _ _ _ hf hW (lv_sub hl [] rfl)
  · have hf := ite_f hf hc_5
    refine lv_iload_n hC.1 hC.2.1 dX12_hunt_14 rfl (lv_at hl 2 rfl) ?_
    refine lv_iconst (v := 0) hC.1 hC.2.1 dX12_hunt_15 (by decide) ?_
    refine lv_iconst (v := 1) hC.1 hC.2.1 dX12_hunt_16 (by decide) ?_
    refine lv_iload_n hC.1 hC.2.1 dX12_hunt_17 rfl (lv_at hl 0 rfl) ?_
    refine lv_iadd hC.1 hC.2.1 dX12_hunt_18 ?_
    obtain ⟨r_6, hg_7, hf⟩ := bd_of hf
    refine g_calliS hC hW (c12_within l D cy ad  hg_7) (va_cwS 3 hC.2.2.2.2.1 gX12_hunt_X12_within rfl rfl rfl hdS12_within ⟨Nat.le_of_ble_eq_true rfl, Nat.le_of_ble_eq_true rfl⟩) (Sub.nil _) rfl hl.1 rfl (Nat.le_of_ble_eq_true rfl) dX12_hunt_19 ⟨Nat.zero_le _, Nat.zero_le _⟩ (fun H locs hW => ?_)
    refine lv_if_ne (tgt := 27) hC.1 hC.2.1 dX12_hunt_22 (by decide) (fun hc_8 => ?_) (fun hc_8 => ?_)
    · have hf := ite_f hf hc_8
      refine lv_lconst (v := 0) hC.1 hC.2.1 dX12_hunt_27 (by decide) ?_
      refine lv_lstore_n (lv' := [(3, .long 0), (2, .int x2_4), (0, .ref (aM 0)), (1, .int x1)]) hC.1 hC.2.1 dX12_hunt_28 rfl hl (by decide) rfl (fun ls hl => ?_)
      refine lv_lconst (v := 0) hC.1 hC.2.1 dX12_hunt_29 (by decide) ?_
      refine lv_lstore (lv' := [(5, .long 0), (3, .long 0), (2, .int x2_4), (0, .ref (aM 0)), (1, .int x1)]) hC.1 hC.2.1 dX12_hunt_30 hl (by decide) rfl (fun ls hl => ?_)
      refine lv_iconst (v := 0) hC.1 hC.2.1 dX12_hunt_32 (by decide) ?_
      refine lv_istore (lv' := [(7, .int 0), (5, .long 0), (3, .long 0), (2, .int x2_4), (0, .ref (aM 0)), (1, .int x1)]) hC.1 hC.2.1 dX12_hunt_33 hl (by decide) rfl (fun ls hl => ?_)
      exact t12_hunt_35 hC _ _ _ _ _ _ _ _ _ _ _ hf hW (lv_sub hl [4, 5, 3, 2, 1, 0] rfl)
    · have hf := ite_t hf hc_8
      exact t12_hunt_25 hC  _ _ _ _ _ hf hW (lv_sub hl [] rfl)
set_option maxRecDepth 100000 in
set_option maxHeartbeats 4000000 in
theorem c12_hunt (l : Launch) (D : va_G) (cy : Nat → ClassId) (ad : Nat → Nat) (aM : Nat → Nat) {x1 : Int32} {SM : Ob} {res : Int32 × Ob} (h : f12_hunt x1 SM = some res) : GCi l yX12_hunt wsX12_hunt rm12_hunt [.ref (aM 0), .int x1] D cy ad (w12 cy aM SM) (w12 cy aM (res.2)) (res.1) := fun sz => GC.start (own := RX12) (Qc := fun A => QI D cy (w12 cy aM (res.2)) A (res.1)) sz (by decide) rfl rfl (Nat.le_of_ble_eq_true rfl) (fun p e s m below meth c A ls hC hW hl => t12_hunt_0 hC _ _ _ _ _ _ h hW (lv_sub hl [0, 1] rfl))
end
