/-! laid by program: functions, walks and contracts of 12_sure, 12_knowing, 12_rounds, 12_common, 12_hear, 12_errsOf, 12_oddsIn, 12_oddsOf -/
set_option maxRecDepth 20000 in
theorem gX12_sure_X12_isGuest : GoodIn wsX12_sure (wsV RX12 365 RX12 yX12_isGuest wsX12_isGuest) := goodIn_r _ [3, 4, 5, 6, 7, 8, 9, 10, 6, 11, 12, 46, 47, 48, 49, 50, 51, 52, 53, 54, 55, 56, 57, 58, 59, 60, 61, 62, 63, 64, 65, 66, 67, 68, 69, 70, 71, 72, 73, 74, 75, 76, 77, 78, 79, 80, 81, 82, 83, 84] rfl (by decide +kernel)
set_option maxRecDepth 20000 in
theorem gX12_sure_X12_isLeft : GoodIn wsX12_sure (wsV RX12 407 RX12 yX12_isLeft wsX12_isLeft) := goodIn_r _ [13, 14, 15, 6, 16, 2, 17, 18, 19, 6, 20, 8, 9, 10, 11, 12, 21, 22, 23, 24, 25, 26, 46, 47, 48, 49, 50, 51, 52, 53, 54, 55, 56, 57, 58, 59, 60, 61, 62, 63, 64, 65, 66, 67, 68, 69, 70, 71, 72, 73, 74, 75, 76, 77, 78, 79, 80, 81, 82, 83, 84] rfl (by decide +kernel)
set_option maxRecDepth 20000 in
theorem gX12_sure_X12_viewIn : GoodIn wsX12_sure (wsV RX12 410 RX12 yX12_viewIn wsX12_viewIn) := goodIn_r _ [27, 28, 29, 6, 30, 31, 17, 18, 19, 6, 20, 8, 9, 10, 11, 12, 24, 25, 26, 32, 33, 34, 35, 46, 47, 48, 49, 50, 51, 52, 53, 54, 55, 56, 57, 58, 59, 60, 61, 62, 63, 64, 65, 66, 67, 68, 69, 70, 71, 72, 73, 74, 75, 76, 77, 78, 79, 80, 81, 82, 83, 84] rfl (by decide +kernel)
set_option maxRecDepth 20000 in
theorem gX12_sure_X12_worlds : GoodIn wsX12_sure (wsV RX12 331 RX12 yX12_worlds wsX12_worlds) := goodIn_r _ [17, 18, 19, 6, 20, 8, 9, 10, 6, 11, 12, 46, 47, 48, 49, 50, 51, 52, 53, 54, 55, 56, 57, 58, 59, 60, 61, 62, 63, 64, 65, 66, 67, 68, 69, 70, 71, 72, 73, 74, 75, 76, 77, 78, 79, 80, 81, 82, 83, 84] rfl (by decide +kernel)
set_option maxRecDepth 20000 in
theorem gX12_sure_X12_isIn : GoodIn wsX12_sure (va_wsS RX12 400 yX12_isIn wsX12_isIn) := goodIn_r _ [24, 25, 6, 26] rfl (by decide +kernel)
set_option maxRecDepth 20000 in
theorem gX12_sure_X12_whoIn : GoodIn wsX12_sure (wsV RX12 384 RX12 yX12_whoIn wsX12_whoIn) := goodIn_r _ [36, 37, 38, 6, 39, 8, 9, 10, 6, 11, 12, 40, 41, 42, 46, 47, 48, 49, 50, 51, 52, 53, 54, 55, 56, 57, 58, 59, 60, 61, 62, 63, 64, 65, 66, 67, 68, 69, 70, 71, 72, 73, 74, 75, 76, 77, 78, 79, 80, 81, 82, 83, 84] rfl (by decide +kernel)
set_option maxRecDepth 20000 in
theorem gX12_sure_X12_alone : GoodIn wsX12_sure (va_wsS RX12 396 yX12_alone wsX12_alone) := goodIn_r _ [43, 44, 6, 45] rfl (by decide +kernel)
theorem dX12_sure_0 : decode cX12_sure 0 = .ok (.aload_n 0, 1) := by decide +kernel
theorem dX12_sure_1 : decode cX12_sure 1 = .ok (.iconst 0, 1) := by decide +kernel
theorem dX12_sure_2 : decode cX12_sure 2 = .ok (.putfield 1, 3) := by decide +kernel
theorem dX12_sure_5 : decode cX12_sure 5 = .ok (.aload_n 0, 1) := by decide +kernel
theorem dX12_sure_6 : decode cX12_sure 6 = .ok (.iload_n 1, 1) := by decide +kernel
theorem dX12_sure_7 : decode cX12_sure 7 = .ok (.invokevirtual 365, 3) := by decide +kernel
theorem dX12_sure_10 : decode cX12_sure 10 = .ok (.ifCond .eq 24, 3) := by decide +kernel
theorem dX12_sure_13 : decode cX12_sure 13 = .ok (.aload_n 0, 1) := by decide +kernel
theorem dX12_sure_14 : decode cX12_sure 14 = .ok (.iload_n 2, 1) := by decide +kernel
theorem dX12_sure_15 : decode cX12_sure 15 = .ok (.invokevirtual 365, 3) := by decide +kernel
theorem dX12_sure_18 : decode cX12_sure 18 = .ok (.ifCond .eq 16, 3) := by decide +kernel
theorem dX12_sure_21 : decode cX12_sure 21 = .ok (.iload_n 1, 1) := by decide +kernel
theorem dX12_sure_22 : decode cX12_sure 22 = .ok (.iload_n 2, 1) := by decide +kernel
theorem dX12_sure_23 : decode cX12_sure 23 = .ok (.if_icmp .eq 11, 3) := by decide +kernel
theorem dX12_sure_26 : decode cX12_sure 26 = .ok (.aload_n 0, 1) := by decide +kernel
theorem dX12_sure_27 : decode cX12_sure 27 = .ok (.iload_n 3, 1) := by decide +kernel
theorem dX12_sure_28 : decode cX12_sure 28 = .ok (.invokevirtual 407, 3) := by decide +kernel
theorem dX12_sure_31 : decode cX12_sure 31 = .ok (.ifCond .ne 5, 3) := by decide +kernel
theorem dX12_sure_34 : decode cX12_sure 34 = .ok (.iconst (-1), 1) := by decide +kernel
theorem dX12_sure_35 : decode cX12_sure 35 = .ok (.ireturn, 1) := by decide +kernel
theorem dX12_sure_36 : decode cX12_sure 36 = .ok (.aload_n 0, 1) := by decide +kernel
theorem dX12_sure_37 : decode cX12_sure 37 = .ok (.aload_n 0, 1) := by decide +kernel
theorem dX12_sure_38 : decode cX12_sure 38 = .ok (.getfield 131, 3) := by decide +kernel
theorem dX12_sure_41 : decode cX12_sure 41 = .ok (.iconst 0, 1) := by decide +kernel
theorem dX12_sure_42 : decode cX12_sure 42 = .ok (.iaload, 1) := by decide +kernel
theorem dX12_sure_43 : decode cX12_sure 43 = .ok (.iload_n 1, 1) := by decide +kernel
theorem dX12_sure_44 : decode cX12_sure 44 = .ok (.iload_n 3, 1) := by decide +kernel
theorem dX12_sure_45 : decode cX12_sure 45 = .ok (.invokevirtual 410, 3) := by decide +kernel
theorem dX12_sure_48 : decode cX12_sure 48 = .ok (.istore 4, 2) := by decide +kernel
theorem dX12_sure_50 : decode cX12_sure 50 = .ok (.iconst 1, 1) := by decide +kernel
theorem dX12_sure_51 : decode cX12_sure 51 = .ok (.istore 5, 2) := by decide +kernel
theorem dX12_sure_53 : decode cX12_sure 53 = .ok (.iconst 0, 1) := by decide +kernel
theorem dX12_sure_54 : decode cX12_sure 54 = .ok (.istore 6, 2) := by decide +kernel
theorem dX12_sure_56 : decode cX12_sure 56 = .ok (.iload 6, 2) := by decide +kernel
theorem dX12_sure_58 : decode cX12_sure 58 = .ok (.aload_n 0, 1) := by decide +kernel
theorem dX12_sure_59 : decode cX12_sure 59 = .ok (.invokevirtual 331, 3) := by decide +kernel
theorem dX12_sure_62 : decode cX12_sure 62 = .ok (.if_icmp .ge 50, 3) := by decide +kernel
theorem dX12_sure_65 : decode cX12_sure 65 = .ok (.iload 4, 2) := by decide +kernel
theorem dX12_sure_67 : decode cX12_sure 67 = .ok (.iload 6, 2) := by decide +kernel
theorem dX12_sure_69 : decode cX12_sure 69 = .ok (.invokestatic 400, 3) := by decide +kernel
theorem dX12_sure_72 : decode cX12_sure 72 = .ok (.ifCond .eq 30, 3) := by decide +kernel
theorem dX12_sure_75 : decode cX12_sure 75 = .ok (.aload_n 0, 1) := by decide +kernel
theorem dX12_sure_76 : decode cX12_sure 76 = .ok (.aload_n 0, 1) := by decide +kernel
theorem dX12_sure_77 : decode cX12_sure 77 = .ok (.aload_n 0, 1) := by decide +kernel
theorem dX12_sure_78 : decode cX12_sure 78 = .ok (.getfield 131, 3) := by decide +kernel
theorem dX12_sure_81 : decode cX12_sure 81 = .ok (.iconst 0, 1) := by decide +kernel
theorem dX12_sure_82 : decode cX12_sure 82 = .ok (.iaload, 1) := by decide +kernel
theorem dX12_sure_83 : decode cX12_sure 83 = .ok (.iload_n 2, 1) := by decide +kernel
theorem dX12_sure_84 : decode cX12_sure 84 = .ok (.iload 6, 2) := by decide +kernel
theorem dX12_sure_86 : decode cX12_sure 86 = .ok (.invokevirtual 410, 3) := by decide +kernel
theorem dX12_sure_89 : decode cX12_sure 89 = .ok (.invokevirtual 384, 3) := by decide +kernel
theorem dX12_sure_92 : decode cX12_sure 92 = .ok (.invokestatic 396, 3) := by decide +kernel
theorem dX12_sure_95 : decode cX12_sure 95 = .ok (.ifCond .ge 7, 3) := by decide +kernel
theorem dX12_sure_98 : decode cX12_sure 98 = .ok (.iconst 0, 1) := by decide +kernel
theorem dX12_sure_99 : decode cX12_sure 99 = .ok (.goto 5, 3) := by decide +kernel
theorem dX12_sure_102 : decode cX12_sure 102 = .ok (.iload 5, 2) := by decide +kernel
theorem dX12_sure_104 : decode cX12_sure 104 = .ok (.istore 5, 2) := by decide +kernel
theorem dX12_sure_106 : decode cX12_sure 106 = .ok (.iinc 6 1, 3) := by decide +kernel
theorem dX12_sure_109 : decode cX12_sure 109 = .ok (.goto (-53), 3) := by decide +kernel
theorem dX12_sure_112 : decode cX12_sure 112 = .ok (.iload 5, 2) := by decide +kernel
theorem dX12_sure_114 : decode cX12_sure 114 = .ok (.ireturn, 1) := by decide +kernel
set_option maxRecDepth 20000 in
theorem gX12_knowing_X12_guests : GoodIn wsX12_knowing (wsV RX12 328 RX12 yX12_guests wsX12_guests) := goodIn_r _ [1, 2, 3, 4, 5, 6, 33, 34, 35, 36, 37, 38, 39, 40, 41, 42, 43, 44, 45, 46, 47, 48, 49, 50, 51, 52, 53, 54, 55, 56, 57, 58, 59, 60, 61, 62, 63, 64, 65, 66, 67, 68, 69, 70, 71] rfl (by decide +kernel)
set_option maxRecDepth 20000 in
theorem gX12_knowing_X12_viewIn : GoodIn wsX12_knowing (wsV RX12 410 RX12 yX12_viewIn wsX12_viewIn) := goodIn_r _ [7, 8, 9, 4, 10, 11, 12, 13, 14, 4, 15, 1, 2, 3, 5, 6, 16, 17, 18, 19, 20, 21, 22, 33, 34, 35, 36, 37, 38, 39, 40, 41, 42, 43, 44, 45, 46, 47, 48, 49, 50, 51, 52, 53, 54, 55, 56, 57, 58, 59, 60, 61, 62, 63, 64, 65, 66, 67, 68, 69, 70, 71] rfl (by decide +kernel)
set_option maxRecDepth 20000 in
theorem gX12_knowing_X12_whoIn : GoodIn wsX12_knowing (wsV RX12 384 RX12 yX12_whoIn wsX12_whoIn) := goodIn_r _ [23, 24, 25, 4, 26, 1, 2, 3, 4, 5, 6, 27, 28, 29, 33, 34, 35, 36, 37, 38, 39, 40, 41, 42, 43, 44, 45, 46, 47, 48, 49, 50, 51, 52, 53, 54, 55, 56, 57, 58, 59, 60, 61, 62, 63, 64, 65, 66, 67, 68, 69, 70, 71] rfl (by decide +kernel)
set_option maxRecDepth 20000 in
theorem gX12_knowing_X12_alone : GoodIn wsX12_knowing (va_wsS RX12 396 yX12_alone wsX12_alone) := goodIn_r _ [30, 31, 4, 32] rfl (by decide +kernel)
theorem dX12_knowing_0 : decode cX12_knowing 0 = .ok (.iconst 0, 1) := by decide +kernel
theorem dX12_knowing_1 : decode cX12_knowing 1 = .ok (.istore_n 3, 1) := by decide +kernel
theorem dX12_knowing_2 : decode cX12_knowing 2 = .ok (.iconst 0, 1) := by decide +kernel
theorem dX12_knowing_3 : decode cX12_knowing 3 = .ok (.istore 4, 2) := by decide +kernel
theorem dX12_knowing_5 : decode cX12_knowing 5 = .ok (.iload 4, 2) := by decide +kernel
theorem dX12_knowing_7 : decode cX12_knowing 7 = .ok (.aload_n 0, 1) := by decide +kernel
theorem dX12_knowing_8 : decode cX12_knowing 8 = .ok (.invokevirtual 328, 3) := by decide +kernel
theorem dX12_knowing_11 : decode cX12_knowing 11 = .ok (.if_icmp .ge 38, 3) := by decide +kernel
theorem dX12_knowing_14 : decode cX12_knowing 14 = .ok (.iload_n 3, 1) := by decide +kernel
theorem dX12_knowing_15 : decode cX12_knowing 15 = .ok (.aload_n 0, 1) := by decide +kernel
theorem dX12_knowing_16 : decode cX12_knowing 16 = .ok (.aload_n 0, 1) := by decide +kernel
theorem dX12_knowing_17 : decode cX12_knowing 17 = .ok (.iload_n 1, 1) := by decide +kernel
theorem dX12_knowing_18 : decode cX12_knowing 18 = .ok (.iload 4, 2) := by decide +kernel
theorem dX12_knowing_20 : decode cX12_knowing 20 = .ok (.iload_n 2, 1) := by decide +kernel
theorem dX12_knowing_21 : decode cX12_knowing 21 = .ok (.invokevirtual 410, 3) := by decide +kernel
theorem dX12_knowing_24 : decode cX12_knowing 24 = .ok (.invokevirtual 384, 3) := by decide +kernel
theorem dX12_knowing_27 : decode cX12_knowing 27 = .ok (.invokestatic 396, 3) := by decide +kernel
theorem dX12_knowing_30 : decode cX12_knowing 30 = .ok (.ifCond .lt 10, 3) := by decide +kernel
theorem dX12_knowing_33 : decode cX12_knowing 33 = .ok (.iconst 1, 1) := by decide +kernel
theorem dX12_knowing_34 : decode cX12_knowing 34 = .ok (.iload 4, 2) := by decide +kernel
theorem dX12_knowing_36 : decode cX12_knowing 36 = .ok (.ishl, 1) := by decide +kernel
theorem dX12_knowing_37 : decode cX12_knowing 37 = .ok (.goto 4, 3) := by decide +kernel
theorem dX12_knowing_40 : decode cX12_knowing 40 = .ok (.iconst 0, 1) := by decide +kernel
theorem dX12_knowing_41 : decode cX12_knowing 41 = .ok (.ior, 1) := by decide +kernel
theorem dX12_knowing_42 : decode cX12_knowing 42 = .ok (.istore_n 3, 1) := by decide +kernel
theorem dX12_knowing_43 : decode cX12_knowing 43 = .ok (.iinc 4 1, 3) := by decide +kernel
theorem dX12_knowing_46 : decode cX12_knowing 46 = .ok (.goto (-41), 3) := by decide +kernel
theorem dX12_knowing_49 : decode cX12_knowing 49 = .ok (.iload_n 3, 1) := by decide +kernel
theorem dX12_knowing_50 : decode cX12_knowing 50 = .ok (.ireturn, 1) := by decide +kernel
set_option maxRecDepth 20000 in
theorem gX12_rounds_X12_isLeft : GoodIn wsX12_rounds (wsV RX12 407 RX12 yX12_isLeft wsX12_isLeft) := goodIn_r _ [3, 4, 5, 6, 7, 2, 8, 9, 10, 6, 11, 12, 13, 14, 15, 16, 17, 18, 19, 20, 21, 22, 46, 47, 48, 49, 50, 51, 52, 53, 54, 55, 56, 57, 58, 59, 60, 61, 62, 63, 64, 65, 66, 67, 68, 69, 70, 71, 72, 73, 74, 75, 76, 77, 78, 79, 80, 81, 82, 83, 84] rfl (by decide +kernel)
set_option maxRecDepth 20000 in
theorem gX12_rounds_X12_within : GoodIn wsX12_rounds (va_wsS RX12 241 yX12_within wsX12_within) := goodIn_r _ [17, 18, 6, 19] rfl (by decide +kernel)
set_option maxRecDepth 20000 in
theorem gX12_rounds_X12_knowing : GoodIn wsX12_rounds (wsV RX12 413 RX12 yX12_knowing wsX12_knowing) := goodIn_r _ [23, 24, 25, 6, 26, 12, 13, 14, 6, 15, 16, 27, 28, 29, 30, 31, 8, 9, 10, 11, 20, 21, 22, 32, 33, 34, 35, 36, 37, 38, 39, 40, 41, 42, 43, 44, 45, 46, 47, 48, 49, 50, 51, 52, 53, 54, 55, 56, 57, 58, 59, 60, 61, 62, 63, 64, 65, 66, 67, 68, 69, 70, 71, 72, 73, 74, 75, 76, 77, 78, 79, 80, 81, 82, 83, 84] rfl (by decide +kernel)
set_option maxRecDepth 20000 in
theorem gX12_rounds_X12_worlds : GoodIn wsX12_rounds (wsV RX12 331 RX12 yX12_worlds wsX12_worlds) := goodIn_r _ [8, 9, 10, 6, 11, 12, 13, 14, 6, 15, 16, 46, 47, 48, 49, 50, 51, 52, 53, 54, 55, 56, 57, 58, 59, 60, 61, 62, 63, 64, 65, 66, 67, 68, 69, 70, 71, 72, 73, 74, 75, 76, 77, 78, 79, 80, 81, 82, 83, 84] rfl (by decide +kernel)
set_option maxRecDepth 20000 in
theorem gX12_rounds_X12_isIn : GoodIn wsX12_rounds (va_wsS RX12 400 yX12_isIn wsX12_isIn) := goodIn_r _ [20, 21, 6, 22] rfl (by decide +kernel)
theorem dX12_rounds_0 : decode cX12_rounds 0 = .ok (.aload_n 0, 1) := by decide +kernel
theorem dX12_rounds_1 : decode cX12_rounds 1 = .ok (.iconst 0, 1) := by decide +kernel
theorem dX12_rounds_2 : decode cX12_rounds 2 = .ok (.putfield 1, 3) := by decide +kernel
theorem dX12_rounds_5 : decode cX12_rounds 5 = .ok (.aload_n 0, 1) := by decide +kernel
theorem dX12_rounds_6 : decode cX12_rounds 6 = .ok (.iload_n 1, 1) := by decide +kernel
theorem dX12_rounds_7 : decode cX12_rounds 7 = .ok (.invokevirtual 407, 3) := by decide +kernel
theorem dX12_rounds_10 : decode cX12_rounds 10 = .ok (.ifCond .eq 12, 3) := by decide +kernel
theorem dX12_rounds_13 : decode cX12_rounds 13 = .ok (.iload_n 2, 1) := by decide +kernel
theorem dX12_rounds_14 : decode cX12_rounds 14 = .ok (.iconst 0, 1) := by decide +kernel
theorem dX12_rounds_15 : decode cX12_rounds 15 = .ok (.iconst 1, 1) := by decide +kernel
theorem dX12_rounds_16 : decode cX12_rounds 16 = .ok (.invokestatic 241, 3) := by decide +kernel
theorem dX12_rounds_19 : decode cX12_rounds 19 = .ok (.ifCond .ne 5, 3) := by decide +kernel
theorem dX12_rounds_22 : decode cX12_rounds 22 = .ok (.iconst (-1), 1) := by decide +kernel
theorem dX12_rounds_23 : decode cX12_rounds 23 = .ok (.ireturn, 1) := by decide +kernel
theorem dX12_rounds_24 : decode cX12_rounds 24 = .ok (.aload_n 0, 1) := by decide +kernel
theorem dX12_rounds_25 : decode cX12_rounds 25 = .ok (.getfield 131, 3) := by decide +kernel
theorem dX12_rounds_28 : decode cX12_rounds 28 = .ok (.iconst 0, 1) := by decide +kernel
theorem dX12_rounds_29 : decode cX12_rounds 29 = .ok (.iaload, 1) := by decide +kernel
theorem dX12_rounds_30 : decode cX12_rounds 30 = .ok (.istore_n 3, 1) := by decide +kernel
theorem dX12_rounds_31 : decode cX12_rounds 31 = .ok (.iconst 1, 1) := by decide +kernel
theorem dX12_rounds_32 : decode cX12_rounds 32 = .ok (.istore 4, 2) := by decide +kernel
theorem dX12_rounds_34 : decode cX12_rounds 34 = .ok (.iload 4, 2) := by decide +kernel
theorem dX12_rounds_36 : decode cX12_rounds 36 = .ok (.bipush 33, 2) := by decide +kernel
theorem dX12_rounds_38 : decode cX12_rounds 38 = .ok (.if_icmp .gt 98, 3) := by decide +kernel
theorem dX12_rounds_41 : decode cX12_rounds 41 = .ok (.aload_n 0, 1) := by decide +kernel
theorem dX12_rounds_42 : decode cX12_rounds 42 = .ok (.iload_n 3, 1) := by decide +kernel
theorem dX12_rounds_43 : decode cX12_rounds 43 = .ok (.iload_n 1, 1) := by decide +kernel
theorem dX12_rounds_44 : decode cX12_rounds 44 = .ok (.invokevirtual 413, 3) := by decide +kernel
theorem dX12_rounds_47 : decode cX12_rounds 47 = .ok (.istore 5, 2) := by decide +kernel
theorem dX12_rounds_49 : decode cX12_rounds 49 = .ok (.iload 5, 2) := by decide +kernel
theorem dX12_rounds_51 : decode cX12_rounds 51 = .ok (.ifCond .eq 15, 3) := by decide +kernel
theorem dX12_rounds_54 : decode cX12_rounds 54 = .ok (.iload_n 2, 1) := by decide +kernel
theorem dX12_rounds_55 : decode cX12_rounds 55 = .ok (.ifCond .ne 8, 3) := by decide +kernel
theorem dX12_rounds_58 : decode cX12_rounds 58 = .ok (.iload 4, 2) := by decide +kernel
theorem dX12_rounds_60 : decode cX12_rounds 60 = .ok (.goto 5, 3) := by decide +kernel
theorem dX12_rounds_63 : decode cX12_rounds 63 = .ok (.iload 5, 2) := by decide +kernel
theorem dX12_rounds_65 : decode cX12_rounds 65 = .ok (.ireturn, 1) := by decide +kernel
theorem dX12_rounds_66 : decode cX12_rounds 66 = .ok (.iconst 0, 1) := by decide +kernel
theorem dX12_rounds_67 : decode cX12_rounds 67 = .ok (.istore 6, 2) := by decide +kernel
theorem dX12_rounds_69 : decode cX12_rounds 69 = .ok (.iconst 0, 1) := by decide +kernel
theorem dX12_rounds_70 : decode cX12_rounds 70 = .ok (.istore 7, 2) := by decide +kernel
theorem dX12_rounds_72 : decode cX12_rounds 72 = .ok (.iload 7, 2) := by decide +kernel
theorem dX12_rounds_74 : decode cX12_rounds 74 = .ok (.aload_n 0, 1) := by decide +kernel
theorem dX12_rounds_75 : decode cX12_rounds 75 = .ok (.invokevirtual 331, 3) := by decide +kernel
theorem dX12_rounds_78 : decode cX12_rounds 78 = .ok (.if_icmp .ge 41, 3) := by decide +kernel
theorem dX12_rounds_81 : decode cX12_rounds 81 = .ok (.iload 6, 2) := by decide +kernel
theorem dX12_rounds_83 : decode cX12_rounds 83 = .ok (.iload_n 3, 1) := by decide +kernel
theorem dX12_rounds_84 : decode cX12_rounds 84 = .ok (.iload 7, 2) := by decide +kernel
theorem dX12_rounds_86 : decode cX12_rounds 86 = .ok (.invokestatic 400, 3) := by decide +kernel
theorem dX12_rounds_89 : decode cX12_rounds 89 = .ok (.ifCond .eq 20, 3) := by decide +kernel
theorem dX12_rounds_92 : decode cX12_rounds 92 = .ok (.aload_n 0, 1) := by decide +kernel
theorem dX12_rounds_93 : decode cX12_rounds 93 = .ok (.iload_n 3, 1) := by decide +kernel
theorem dX12_rounds_94 : decode cX12_rounds 94 = .ok (.iload 7, 2) := by decide +kernel
theorem dX12_rounds_96 : decode cX12_rounds 96 = .ok (.invokevirtual 413, 3) := by decide +kernel
theorem dX12_rounds_99 : decode cX12_rounds 99 = .ok (.ifCond .ne 10, 3) := by decide +kernel
theorem dX12_rounds_102 : decode cX12_rounds 102 = .ok (.iconst 1, 1) := by decide +kernel
theorem dX12_rounds_103 : decode cX12_rounds 103 = .ok (.iload 7, 2) := by decide +kernel
theorem dX12_rounds_105 : decode cX12_rounds 105 = .ok (.ishl, 1) := by decide +kernel
theorem dX12_rounds_106 : decode cX12_rounds 106 = .ok (.goto 4, 3) := by decide +kernel
theorem dX12_rounds_109 : decode cX12_rounds 109 = .ok (.iconst 0, 1) := by decide +kernel
theorem dX12_rounds_110 : decode cX12_rounds 110 = .ok (.ior, 1) := by decide +kernel
theorem dX12_rounds_111 : decode cX12_rounds 111 = .ok (.istore 6, 2) := by decide +kernel
theorem dX12_rounds_113 : decode cX12_rounds 113 = .ok (.iinc 7 1, 3) := by decide +kernel
theorem dX12_rounds_116 : decode cX12_rounds 116 = .ok (.goto (-44), 3) := by decide +kernel
theorem dX12_rounds_119 : decode cX12_rounds 119 = .ok (.iload 6, 2) := by decide +kernel
theorem dX12_rounds_121 : decode cX12_rounds 121 = .ok (.iload_n 3, 1) := by decide +kernel
theorem dX12_rounds_122 : decode cX12_rounds 122 = .ok (.if_icmp .ne 5, 3) := by decide +kernel
theorem dX12_rounds_125 : decode cX12_rounds 125 = .ok (.iconst (-1), 1) := by decide +kernel
theorem dX12_rounds_126 : decode cX12_rounds 126 = .ok (.ireturn, 1) := by decide +kernel
theorem dX12_rounds_127 : decode cX12_rounds 127 = .ok (.iload 6, 2) := by decide +kernel
theorem dX12_rounds_129 : decode cX12_rounds 129 = .ok (.istore_n 3, 1) := by decide +kernel
theorem dX12_rounds_130 : decode cX12_rounds 130 = .ok (.iinc 4 1, 3) := by decide +kernel
theorem dX12_rounds_133 : decode cX12_rounds 133 = .ok (.goto (-99), 3) := by decide +kernel
theorem dX12_rounds_136 : decode cX12_rounds 136 = .ok (.iconst (-1), 1) := by decide +kernel
theorem dX12_rounds_137 : decode cX12_rounds 137 = .ok (.ireturn, 1) := by decide +kernel
set_option maxRecDepth 20000 in
theorem gX12_common_X12_isLeft : GoodIn wsX12_common (wsV RX12 407 RX12 yX12_isLeft wsX12_isLeft) := goodIn_r _ [3, 4, 5, 6, 7, 2, 8, 9, 10, 6, 11, 12, 13, 14, 15, 16, 17, 18, 19, 20, 21, 22, 39, 40, 41, 42, 43, 44, 45, 46, 47, 48, 49, 50, 51, 52, 53, 54, 55, 56, 57, 58, 59, 60, 61, 62, 63, 64, 65, 66, 67, 68, 69, 70, 71, 72, 73, 74, 75, 76, 77] rfl (by decide +kernel)
set_option maxRecDepth 20000 in
theorem gX12_common_X12_worlds : GoodIn wsX12_common (wsV RX12 331 RX12 yX12_worlds wsX12_worlds) := goodIn_r _ [8, 9, 10, 6, 11, 12, 13, 14, 6, 15, 16, 39, 40, 41, 42, 43, 44, 45, 46, 47, 48, 49, 50, 51, 52, 53, 54, 55, 56, 57, 58, 59, 60, 61, 62, 63, 64, 65, 66, 67, 68, 69, 70, 71, 72, 73, 74, 75, 76, 77] rfl (by decide +kernel)
set_option maxRecDepth 20000 in
theorem gX12_common_X12_guests : GoodIn wsX12_common (wsV RX12 328 RX12 yX12_guests wsX12_guests) := goodIn_r _ [12, 13, 14, 6, 15, 16, 39, 40, 41, 42, 43, 44, 45, 46, 47, 48, 49, 50, 51, 52, 53, 54, 55, 56, 57, 58, 59, 60, 61, 62, 63, 64, 65, 66, 67, 68, 69, 70, 71, 72, 73, 74, 75, 76, 77] rfl (by decide +kernel)
set_option maxRecDepth 20000 in
theorem gX12_common_X12_isIn : GoodIn wsX12_common (va_wsS RX12 400 yX12_isIn wsX12_isIn) := goodIn_r _ [20, 21, 6, 22] rfl (by decide +kernel)
set_option maxRecDepth 20000 in
theorem gX12_common_X12_viewIn : GoodIn wsX12_common (wsV RX12 410 RX12 yX12_viewIn wsX12_viewIn) := goodIn_r _ [23, 24, 25, 6, 26, 27, 8, 9, 10, 6, 11, 12, 13, 14, 15, 16, 20, 21, 22, 28, 29, 30, 31, 39, 40, 41, 42, 43, 44, 45, 46, 47, 48, 49, 50, 51, 52, 53, 54, 55, 56, 57, 58, 59, 60, 61, 62, 63, 64, 65, 66, 67, 68, 69, 70, 71, 72, 73, 74, 75, 76, 77] rfl (by decide +kernel)
set_option maxRecDepth 20000 in
theorem gX12_common_X12_whoIn : GoodIn wsX12_common (wsV RX12 384 RX12 yX12_whoIn wsX12_whoIn) := goodIn_r _ [32, 33, 34, 6, 35, 12, 13, 14, 6, 15, 16, 36, 37, 38, 39, 40, 41, 42, 43, 44, 45, 46, 47, 48, 49, 50, 51, 52, 53, 54, 55, 56, 57, 58, 59, 60, 61, 62, 63, 64, 65, 66, 67, 68, 69, 70, 71, 72, 73, 74, 75, 76, 77] rfl (by decide +kernel)
theorem dX12_common_0 : decode cX12_common 0 = .ok (.aload_n 0, 1) := by decide +kernel
theorem dX12_common_1 : decode cX12_common 1 = .ok (.iconst 0, 1) := by decide +kernel
theorem dX12_common_2 : decode cX12_common 2 = .ok (.putfield 1, 3) := by decide +kernel
theorem dX12_common_5 : decode cX12_common 5 = .ok (.aload_n 0, 1) := by decide +kernel
theorem dX12_common_6 : decode cX12_common 6 = .ok (.iload_n 1, 1) := by decide +kernel
theorem dX12_common_7 : decode cX12_common 7 = .ok (.invokevirtual 407, 3) := by decide +kernel
theorem dX12_common_10 : decode cX12_common 10 = .ok (.ifCond .ne 5, 3) := by decide +kernel
theorem dX12_common_13 : decode cX12_common 13 = .ok (.iconst (-1), 1) := by decide +kernel
theorem dX12_common_14 : decode cX12_common 14 = .ok (.ireturn, 1) := by decide +kernel
theorem dX12_common_15 : decode cX12_common 15 = .ok (.iconst 1, 1) := by decide +kernel
theorem dX12_common_16 : decode cX12_common 16 = .ok (.iload_n 1, 1) := by decide +kernel
theorem dX12_common_17 : decode cX12_common 17 = .ok (.ishl, 1) := by decide +kernel
theorem dX12_common_18 : decode cX12_common 18 = .ok (.istore_n 2, 1) := by decide +kernel
theorem dX12_common_19 : decode cX12_common 19 = .ok (.iconst 0, 1) := by decide +kernel
theorem dX12_common_20 : decode cX12_common 20 = .ok (.istore_n 3, 1) := by decide +kernel
theorem dX12_common_21 : decode cX12_common 21 = .ok (.iload_n 3, 1) := by decide +kernel
theorem dX12_common_22 : decode cX12_common 22 = .ok (.bipush 32, 2) := by decide +kernel
theorem dX12_common_24 : decode cX12_common 24 = .ok (.if_icmp .ge 79, 3) := by decide +kernel
theorem dX12_common_27 : decode cX12_common 27 = .ok (.iload_n 2, 1) := by decide +kernel
theorem dX12_common_28 : decode cX12_common 28 = .ok (.istore 4, 2) := by decide +kernel
theorem dX12_common_30 : decode cX12_common 30 = .ok (.iconst 0, 1) := by decide +kernel
theorem dX12_common_31 : decode cX12_common 31 = .ok (.istore 5, 2) := by decide +kernel
theorem dX12_common_33 : decode cX12_common 33 = .ok (.iload 5, 2) := by decide +kernel
theorem dX12_common_35 : decode cX12_common 35 = .ok (.aload_n 0, 1) := by decide +kernel
theorem dX12_common_36 : decode cX12_common 36 = .ok (.invokevirtual 331, 3) := by decide +kernel
theorem dX12_common_39 : decode cX12_common 39 = .ok (.if_icmp .ge 55, 3) := by decide +kernel
theorem dX12_common_42 : decode cX12_common 42 = .ok (.iconst 0, 1) := by decide +kernel
theorem dX12_common_43 : decode cX12_common 43 = .ok (.istore 6, 2) := by decide +kernel
theorem dX12_common_45 : decode cX12_common 45 = .ok (.iload 6, 2) := by decide +kernel
theorem dX12_common_47 : decode cX12_common 47 = .ok (.aload_n 0, 1) := by decide +kernel
theorem dX12_common_48 : decode cX12_common 48 = .ok (.invokevirtual 328, 3) := by decide +kernel
theorem dX12_common_51 : decode cX12_common 51 = .ok (.if_icmp .ge 37, 3) := by decide +kernel
theorem dX12_common_54 : decode cX12_common 54 = .ok (.iload_n 2, 1) := by decide +kernel
theorem dX12_common_55 : decode cX12_common 55 = .ok (.iload 5, 2) := by decide +kernel
theorem dX12_common_57 : decode cX12_common 57 = .ok (.invokestatic 400, 3) := by decide +kernel
theorem dX12_common_60 : decode cX12_common 60 = .ok (.ifCond .eq 28, 3) := by decide +kernel
theorem dX12_common_63 : decode cX12_common 63 = .ok (.iload 4, 2) := by decide +kernel
theorem dX12_common_65 : decode cX12_common 65 = .ok (.aload_n 0, 1) := by decide +kernel
theorem dX12_common_66 : decode cX12_common 66 = .ok (.aload_n 0, 1) := by decide +kernel
theorem dX12_common_67 : decode cX12_common 67 = .ok (.getfield 131, 3) := by decide +kernel
theorem dX12_common_70 : decode cX12_common 70 = .ok (.iconst 0, 1) := by decide +kernel
theorem dX12_common_71 : decode cX12_common 71 = .ok (.iaload, 1) := by decide +kernel
theorem dX12_common_72 : decode cX12_common 72 = .ok (.iload 6, 2) := by decide +kernel
theorem dX12_common_74 : decode cX12_common 74 = .ok (.iload 5, 2) := by decide +kernel
theorem dX12_common_76 : decode cX12_common 76 = .ok (.invokevirtual 410, 3) := by decide +kernel
theorem dX12_common_79 : decode cX12_common 79 = .ok (.ior, 1) := by decide +kernel
theorem dX12_common_80 : decode cX12_common 80 = .ok (.istore 4, 2) := by decide +kernel
theorem dX12_common_82 : decode cX12_common 82 = .ok (.iinc 6 1, 3) := by decide +kernel
theorem dX12_common_85 : decode cX12_common 85 = .ok (.goto (-40), 3) := by decide +kernel
theorem dX12_common_88 : decode cX12_common 88 = .ok (.iinc 5 1, 3) := by decide +kernel
theorem dX12_common_91 : decode cX12_common 91 = .ok (.goto (-58), 3) := by decide +kernel
theorem dX12_common_94 : decode cX12_common 94 = .ok (.iload 4, 2) := by decide +kernel
theorem dX12_common_96 : decode cX12_common 96 = .ok (.istore_n 2, 1) := by decide +kernel
theorem dX12_common_97 : decode cX12_common 97 = .ok (.iinc 3 1, 3) := by decide +kernel
theorem dX12_common_100 : decode cX12_common 100 = .ok (.goto (-79), 3) := by decide +kernel
theorem dX12_common_103 : decode cX12_common 103 = .ok (.aload_n 0, 1) := by decide +kernel
theorem dX12_common_104 : decode cX12_common 104 = .ok (.iload_n 2, 1) := by decide +kernel
theorem dX12_common_105 : decode cX12_common 105 = .ok (.invokevirtual 384, 3) := by decide +kernel
theorem dX12_common_108 : decode cX12_common 108 = .ok (.ireturn, 1) := by decide +kernel
set_option maxRecDepth 20000 in
theorem gX12_hear_X12_signs : GoodIn wsX12_hear (wsV RX12 337 RX12 yX12_signs wsX12_signs) := goodIn_r _ [3, 4, 5, 6, 7, 8, 12, 13, 14, 15, 16, 17, 18, 19, 20, 21, 22, 23, 24, 25, 26, 27, 28, 29, 30, 31, 32, 33, 34, 35, 36, 37, 38, 39, 40, 41, 42, 43, 44, 45, 46, 47, 48, 49, 50] rfl (by decide +kernel)
set_option maxRecDepth 20000 in
theorem gX12_hear_X12_within : GoodIn wsX12_hear (va_wsS RX12 241 yX12_within wsX12_within) := goodIn_r _ [9, 10, 6, 11] rfl (by decide +kernel)
theorem dX12_hear_0 : decode cX12_hear 0 = .ok (.aload_n 0, 1) := by decide +kernel
theorem dX12_hear_1 : decode cX12_hear 1 = .ok (.iconst 0, 1) := by decide +kernel
theorem dX12_hear_2 : decode cX12_hear 2 = .ok (.putfield 1, 3) := by decide +kernel
theorem dX12_hear_5 : decode cX12_hear 5 = .ok (.iload_n 1, 1) := by decide +kernel
theorem dX12_hear_6 : decode cX12_hear 6 = .ok (.iconst 0, 1) := by decide +kernel
theorem dX12_hear_7 : decode cX12_hear 7 = .ok (.aload_n 0, 1) := by decide +kernel
theorem dX12_hear_8 : decode cX12_hear 8 = .ok (.invokevirtual 337, 3) := by decide +kernel
theorem dX12_hear_11 : decode cX12_hear 11 = .ok (.iconst 1, 1) := by decide +kernel
theorem dX12_hear_12 : decode cX12_hear 12 = .ok (.isub, 1) := by decide +kernel
theorem dX12_hear_13 : decode cX12_hear 13 = .ok (.invokestatic 241, 3) := by decide +kernel
theorem dX12_hear_16 : decode cX12_hear 16 = .ok (.ifCond .eq 15, 3) := by decide +kernel
theorem dX12_hear_19 : decode cX12_hear 19 = .ok (.aload_n 0, 1) := by decide +kernel
theorem dX12_hear_20 : decode cX12_hear 20 = .ok (.getfield 131, 3) := by decide +kernel
theorem dX12_hear_23 : decode cX12_hear 23 = .ok (.bipush 12, 2) := by decide +kernel
theorem dX12_hear_25 : decode cX12_hear 25 = .ok (.iaload, 1) := by decide +kernel
theorem dX12_hear_26 : decode cX12_hear 26 = .ok (.bipush 8, 2) := by decide +kernel
theorem dX12_hear_28 : decode cX12_hear 28 = .ok (.if_icmp .ne 5, 3) := by decide +kernel
theorem dX12_hear_31 : decode cX12_hear 31 = .ok (.iconst 0, 1) := by decide +kernel
theorem dX12_hear_32 : decode cX12_hear 32 = .ok (.ireturn, 1) := by decide +kernel
theorem dX12_hear_33 : decode cX12_hear 33 = .ok (.aload_n 0, 1) := by decide +kernel
theorem dX12_hear_34 : decode cX12_hear 34 = .ok (.getfield 131, 3) := by decide +kernel
theorem dX12_hear_37 : decode cX12_hear 37 = .ok (.bipush 13, 2) := by decide +kernel
theorem dX12_hear_39 : decode cX12_hear 39 = .ok (.iconst 2, 1) := by decide +kernel
theorem dX12_hear_40 : decode cX12_hear 40 = .ok (.aload_n 0, 1) := by decide +kernel
theorem dX12_hear_41 : decode cX12_hear 41 = .ok (.getfield 131, 3) := by decide +kernel
theorem dX12_hear_44 : decode cX12_hear 44 = .ok (.bipush 12, 2) := by decide +kernel
theorem dX12_hear_46 : decode cX12_hear 46 = .ok (.iaload, 1) := by decide +kernel
theorem dX12_hear_47 : decode cX12_hear 47 = .ok (.imul, 1) := by decide +kernel
theorem dX12_hear_48 : decode cX12_hear 48 = .ok (.iadd, 1) := by decide +kernel
theorem dX12_hear_49 : decode cX12_hear 49 = .ok (.iload_n 1, 1) := by decide +kernel
theorem dX12_hear_50 : decode cX12_hear 50 = .ok (.iastore, 1) := by decide +kernel
theorem dX12_hear_51 : decode cX12_hear 51 = .ok (.aload_n 0, 1) := by decide +kernel
theorem dX12_hear_52 : decode cX12_hear 52 = .ok (.getfield 131, 3) := by decide +kernel
theorem dX12_hear_55 : decode cX12_hear 55 = .ok (.bipush 13, 2) := by decide +kernel
theorem dX12_hear_57 : decode cX12_hear 57 = .ok (.iconst 2, 1) := by decide +kernel
theorem dX12_hear_58 : decode cX12_hear 58 = .ok (.aload_n 0, 1) := by decide +kernel
theorem dX12_hear_59 : decode cX12_hear 59 = .ok (.getfield 131, 3) := by decide +kernel
theorem dX12_hear_62 : decode cX12_hear 62 = .ok (.bipush 12, 2) := by decide +kernel
theorem dX12_hear_64 : decode cX12_hear 64 = .ok (.iaload, 1) := by decide +kernel
theorem dX12_hear_65 : decode cX12_hear 65 = .ok (.imul, 1) := by decide +kernel
theorem dX12_hear_66 : decode cX12_hear 66 = .ok (.iadd, 1) := by decide +kernel
theorem dX12_hear_67 : decode cX12_hear 67 = .ok (.iconst 1, 1) := by decide +kernel
theorem dX12_hear_68 : decode cX12_hear 68 = .ok (.iadd, 1) := by decide +kernel
theorem dX12_hear_69 : decode cX12_hear 69 = .ok (.iload_n 2, 1) := by decide +kernel
theorem dX12_hear_70 : decode cX12_hear 70 = .ok (.ifCond .eq 7, 3) := by decide +kernel
theorem dX12_hear_73 : decode cX12_hear 73 = .ok (.iconst 1, 1) := by decide +kernel
theorem dX12_hear_74 : decode cX12_hear 74 = .ok (.goto 4, 3) := by decide +kernel
theorem dX12_hear_77 : decode cX12_hear 77 = .ok (.iconst 0, 1) := by decide +kernel
theorem dX12_hear_78 : decode cX12_hear 78 = .ok (.iastore, 1) := by decide +kernel
theorem dX12_hear_79 : decode cX12_hear 79 = .ok (.aload_n 0, 1) := by decide +kernel
theorem dX12_hear_80 : decode cX12_hear 80 = .ok (.getfield 131, 3) := by decide +kernel
theorem dX12_hear_83 : decode cX12_hear 83 = .ok (.bipush 12, 2) := by decide +kernel
theorem dX12_hear_85 : decode cX12_hear 85 = .ok (.dup2, 1) := by decide +kernel
theorem dX12_hear_86 : decode cX12_hear 86 = .ok (.iaload, 1) := by decide +kernel
theorem dX12_hear_87 : decode cX12_hear 87 = .ok (.iconst 1, 1) := by decide +kernel
theorem dX12_hear_88 : decode cX12_hear 88 = .ok (.iadd, 1) := by decide +kernel
theorem dX12_hear_89 : decode cX12_hear 89 = .ok (.iastore, 1) := by decide +kernel
theorem dX12_hear_90 : decode cX12_hear 90 = .ok (.iconst 1, 1) := by decide +kernel
theorem dX12_hear_91 : decode cX12_hear 91 = .ok (.ireturn, 1) := by decide +kernel
theorem dX12_errsOf_0 : decode cX12_errsOf 0 = .ok (.aload_n 0, 1) := by decide +kernel
theorem dX12_errsOf_1 : decode cX12_errsOf 1 = .ok (.getfield 101, 3) := by decide +kernel
theorem dX12_errsOf_4 : decode cX12_errsOf 4 = .ok (.bipush 43, 2) := by decide +kernel
theorem dX12_errsOf_6 : decode cX12_errsOf 6 = .ok (.iconst 2, 1) := by decide +kernel
theorem dX12_errsOf_7 : decode cX12_errsOf 7 = .ok (.iload_n 1, 1) := by decide +kernel
theorem dX12_errsOf_8 : decode cX12_errsOf 8 = .ok (.imul, 1) := by decide +kernel
theorem dX12_errsOf_9 : decode cX12_errsOf 9 = .ok (.iadd, 1) := by decide +kernel
theorem dX12_errsOf_10 : decode cX12_errsOf 10 = .ok (.iaload, 1) := by decide +kernel
theorem dX12_errsOf_11 : decode cX12_errsOf 11 = .ok (.ireturn, 1) := by decide +kernel
set_option maxRecDepth 20000 in
theorem gX12_oddsIn_X12_guestOf : GoodIn wsX12_oddsIn (wsV RX12 353 RX12 yX12_guestOf wsX12_guestOf) := goodIn_r _ [3, 4, 5, 6, 7, 8, 16, 17, 18, 19, 20, 21, 22, 23, 24, 25, 26, 27, 28, 29, 30, 31, 32, 33, 34, 35, 36, 37, 38, 39, 40, 41, 42, 43, 44, 45, 46, 47, 48, 49, 50, 51, 52, 53, 54] rfl (by decide +kernel)
set_option maxRecDepth 20000 in
theorem gX12_oddsIn_X12_isIn : GoodIn wsX12_oddsIn (va_wsS RX12 400 yX12_isIn wsX12_isIn) := goodIn_r _ [9, 10, 6, 11] rfl (by decide +kernel)
set_option maxRecDepth 20000 in
theorem gX12_oddsIn_X12_errsOf : GoodIn wsX12_oddsIn (wsV RX12 416 RX12 yX12_errsOf wsX12_errsOf) := goodIn_r _ [12, 13, 14, 6, 15, 8, 16, 17, 18, 19, 20, 21, 22, 23, 24, 25, 26, 27, 28, 29, 30, 31, 32, 33, 34, 35, 36, 37, 38, 39, 40, 41, 42, 43, 44, 45, 46, 47, 48, 49, 50, 51, 52, 53, 54] rfl (by decide +kernel)
theorem dX12_oddsIn_0 : decode cX12_oddsIn 0 = .ok (.aload_n 0, 1) := by decide +kernel
theorem dX12_oddsIn_1 : decode cX12_oddsIn 1 = .ok (.iload_n 1, 1) := by decide +kernel
theorem dX12_oddsIn_2 : decode cX12_oddsIn 2 = .ok (.iconst 4, 1) := by decide +kernel
theorem dX12_oddsIn_3 : decode cX12_oddsIn 3 = .ok (.idiv, 1) := by decide +kernel
theorem dX12_oddsIn_4 : decode cX12_oddsIn 4 = .ok (.iconst 2, 1) := by decide +kernel
theorem dX12_oddsIn_5 : decode cX12_oddsIn 5 = .ok (.invokevirtual 353, 3) := by decide +kernel
theorem dX12_oddsIn_8 : decode cX12_oddsIn 8 = .ok (.i2l, 1) := by decide +kernel
theorem dX12_oddsIn_9 : decode cX12_oddsIn 9 = .ok (.lstore_n 2, 1) := by decide +kernel
theorem dX12_oddsIn_10 : decode cX12_oddsIn 10 = .ok (.iconst 0, 1) := by decide +kernel
theorem dX12_oddsIn_11 : decode cX12_oddsIn 11 = .ok (.istore 4, 2) := by decide +kernel
theorem dX12_oddsIn_13 : decode cX12_oddsIn 13 = .ok (.iload 4, 2) := by decide +kernel
theorem dX12_oddsIn_15 : decode cX12_oddsIn 15 = .ok (.aload_n 0, 1) := by decide +kernel
theorem dX12_oddsIn_16 : decode cX12_oddsIn 16 = .ok (.getfield 131, 3) := by decide +kernel
theorem dX12_oddsIn_19 : decode cX12_oddsIn 19 = .ok (.bipush 12, 2) := by decide +kernel
theorem dX12_oddsIn_21 : decode cX12_oddsIn 21 = .ok (.iaload, 1) := by decide +kernel
theorem dX12_oddsIn_22 : decode cX12_oddsIn 22 = .ok (.if_icmp .ge 94, 3) := by decide +kernel
theorem dX12_oddsIn_25 : decode cX12_oddsIn 25 = .ok (.aload_n 0, 1) := by decide +kernel
theorem dX12_oddsIn_26 : decode cX12_oddsIn 26 = .ok (.getfield 131, 3) := by decide +kernel
theorem dX12_oddsIn_29 : decode cX12_oddsIn 29 = .ok (.bipush 13, 2) := by decide +kernel
theorem dX12_oddsIn_31 : decode cX12_oddsIn 31 = .ok (.iconst 2, 1) := by decide +kernel
theorem dX12_oddsIn_32 : decode cX12_oddsIn 32 = .ok (.iload 4, 2) := by decide +kernel
theorem dX12_oddsIn_34 : decode cX12_oddsIn 34 = .ok (.imul, 1) := by decide +kernel
theorem dX12_oddsIn_35 : decode cX12_oddsIn 35 = .ok (.iadd, 1) := by decide +kernel
theorem dX12_oddsIn_36 : decode cX12_oddsIn 36 = .ok (.iaload, 1) := by decide +kernel
theorem dX12_oddsIn_37 : decode cX12_oddsIn 37 = .ok (.istore 5, 2) := by decide +kernel
theorem dX12_oddsIn_39 : decode cX12_oddsIn 39 = .ok (.aload_n 0, 1) := by decide +kernel
theorem dX12_oddsIn_40 : decode cX12_oddsIn 40 = .ok (.getfield 138, 3) := by decide +kernel
theorem dX12_oddsIn_43 : decode cX12_oddsIn 43 = .ok (.iload 5, 2) := by decide +kernel
theorem dX12_oddsIn_45 : decode cX12_oddsIn 45 = .ok (.iaload, 1) := by decide +kernel
theorem dX12_oddsIn_46 : decode cX12_oddsIn 46 = .ok (.iload_n 1, 1) := by decide +kernel
theorem dX12_oddsIn_47 : decode cX12_oddsIn 47 = .ok (.invokestatic 400, 3) := by decide +kernel
theorem dX12_oddsIn_50 : decode cX12_oddsIn 50 = .ok (.aload_n 0, 1) := by decide +kernel
theorem dX12_oddsIn_51 : decode cX12_oddsIn 51 = .ok (.getfield 131, 3) := by decide +kernel
theorem dX12_oddsIn_54 : decode cX12_oddsIn 54 = .ok (.bipush 13, 2) := by decide +kernel
theorem dX12_oddsIn_56 : decode cX12_oddsIn 56 = .ok (.iconst 2, 1) := by decide +kernel
theorem dX12_oddsIn_57 : decode cX12_oddsIn 57 = .ok (.iload 4, 2) := by decide +kernel
theorem dX12_oddsIn_59 : decode cX12_oddsIn 59 = .ok (.imul, 1) := by decide +kernel
theorem dX12_oddsIn_60 : decode cX12_oddsIn 60 = .ok (.iadd, 1) := by decide +kernel
theorem dX12_oddsIn_61 : decode cX12_oddsIn 61 = .ok (.iconst 1, 1) := by decide +kernel
theorem dX12_oddsIn_62 : decode cX12_oddsIn 62 = .ok (.iadd, 1) := by decide +kernel
theorem dX12_oddsIn_63 : decode cX12_oddsIn 63 = .ok (.iaload, 1) := by decide +kernel
theorem dX12_oddsIn_64 : decode cX12_oddsIn 64 = .ok (.iconst 1, 1) := by decide +kernel
theorem dX12_oddsIn_65 : decode cX12_oddsIn 65 = .ok (.if_icmp .ne 7, 3) := by decide +kernel
theorem dX12_oddsIn_68 : decode cX12_oddsIn 68 = .ok (.iconst 1, 1) := by decide +kernel
theorem dX12_oddsIn_69 : decode cX12_oddsIn 69 = .ok (.goto 4, 3) := by decide +kernel
theorem dX12_oddsIn_72 : decode cX12_oddsIn 72 = .ok (.iconst 0, 1) := by decide +kernel
theorem dX12_oddsIn_73 : decode cX12_oddsIn 73 = .ok (.if_icmp .ne 7, 3) := by decide +kernel
theorem dX12_oddsIn_76 : decode cX12_oddsIn 76 = .ok (.iconst 1, 1) := by decide +kernel
theorem dX12_oddsIn_77 : decode cX12_oddsIn 77 = .ok (.goto 4, 3) := by decide +kernel
theorem dX12_oddsIn_80 : decode cX12_oddsIn 80 = .ok (.iconst 0, 1) := by decide +kernel
theorem dX12_oddsIn_81 : decode cX12_oddsIn 81 = .ok (.istore 6, 2) := by decide +kernel
theorem dX12_oddsIn_83 : decode cX12_oddsIn 83 = .ok (.lload_n 2, 1) := by decide +kernel
theorem dX12_oddsIn_84 : decode cX12_oddsIn 84 = .ok (.iload 6, 2) := by decide +kernel
theorem dX12_oddsIn_86 : decode cX12_oddsIn 86 = .ok (.ifCond .eq 15, 3) := by decide +kernel
theorem dX12_oddsIn_89 : decode cX12_oddsIn 89 = .ok (.bipush 10, 2) := by decide +kernel
theorem dX12_oddsIn_91 : decode cX12_oddsIn 91 = .ok (.aload_n 0, 1) := by decide +kernel
theorem dX12_oddsIn_92 : decode cX12_oddsIn 92 = .ok (.iload 5, 2) := by decide +kernel
theorem dX12_oddsIn_94 : decode cX12_oddsIn 94 = .ok (.invokevirtual 416, 3) := by decide +kernel
theorem dX12_oddsIn_97 : decode cX12_oddsIn 97 = .ok (.isub, 1) := by decide +kernel
theorem dX12_oddsIn_98 : decode cX12_oddsIn 98 = .ok (.goto 9, 3) := by decide +kernel
theorem dX12_oddsIn_101 : decode cX12_oddsIn 101 = .ok (.aload_n 0, 1) := by decide +kernel
theorem dX12_oddsIn_102 : decode cX12_oddsIn 102 = .ok (.iload 5, 2) := by decide +kernel
theorem dX12_oddsIn_104 : decode cX12_oddsIn 104 = .ok (.invokevirtual 416, 3) := by decide +kernel
theorem dX12_oddsIn_107 : decode cX12_oddsIn 107 = .ok (.i2l, 1) := by decide +kernel
theorem dX12_oddsIn_108 : decode cX12_oddsIn 108 = .ok (.lmul, 1) := by decide +kernel
theorem dX12_oddsIn_109 : decode cX12_oddsIn 109 = .ok (.lstore_n 2, 1) := by decide +kernel
theorem dX12_oddsIn_110 : decode cX12_oddsIn 110 = .ok (.iinc 4 1, 3) := by decide +kernel
theorem dX12_oddsIn_113 : decode cX12_oddsIn 113 = .ok (.goto (-100), 3) := by decide +kernel
theorem dX12_oddsIn_116 : decode cX12_oddsIn 116 = .ok (.lload_n 2, 1) := by decide +kernel
theorem dX12_oddsIn_117 : decode cX12_oddsIn 117 = .ok (.lreturn, 1) := by decide +kernel
set_option maxRecDepth 20000 in
theorem gX12_oddsOf_X12_isIn : GoodIn wsX12_oddsOf (va_wsS RX12 400 yX12_isIn wsX12_isIn) := goodIn_r _ [2, 3, 4, 5] rfl (by decide +kernel)
set_option maxRecDepth 20000 in
theorem gX12_oddsOf_X12_oddsIn : GoodIn wsX12_oddsOf (wsV RX12 419 RX12 yX12_oddsIn wsX12_oddsIn) := goodIn_r _ [6, 7, 8, 4, 9, 1, 10, 11, 12, 13, 4, 14, 15, 2, 3, 5, 16, 17, 18, 19, 20, 21, 22, 23, 24, 25, 26, 27, 28, 29, 30, 31, 32, 33, 34, 35, 36, 37, 38, 39, 40, 41, 42, 43, 44, 45, 46, 47, 48, 49, 50, 51, 52, 53, 54, 55, 56, 57, 58] rfl (by decide +kernel)
theorem dX12_oddsOf_0 : decode cX12_oddsOf 0 = .ok (.lconst 0, 1) := by decide +kernel
theorem dX12_oddsOf_1 : decode cX12_oddsOf 1 = .ok (.lstore_n 2, 1) := by decide +kernel
theorem dX12_oddsOf_2 : decode cX12_oddsOf 2 = .ok (.iconst 4, 1) := by decide +kernel
theorem dX12_oddsOf_3 : decode cX12_oddsOf 3 = .ok (.iload_n 1, 1) := by decide +kernel
theorem dX12_oddsOf_4 : decode cX12_oddsOf 4 = .ok (.imul, 1) := by decide +kernel
theorem dX12_oddsOf_5 : decode cX12_oddsOf 5 = .ok (.istore 4, 2) := by decide +kernel
theorem dX12_oddsOf_7 : decode cX12_oddsOf 7 = .ok (.iload 4, 2) := by decide +kernel
theorem dX12_oddsOf_9 : decode cX12_oddsOf 9 = .ok (.iconst 4, 1) := by decide +kernel
theorem dX12_oddsOf_10 : decode cX12_oddsOf 10 = .ok (.iload_n 1, 1) := by decide +kernel
theorem dX12_oddsOf_11 : decode cX12_oddsOf 11 = .ok (.imul, 1) := by decide +kernel
theorem dX12_oddsOf_12 : decode cX12_oddsOf 12 = .ok (.iconst 4, 1) := by decide +kernel
theorem dX12_oddsOf_13 : decode cX12_oddsOf 13 = .ok (.iadd, 1) := by decide +kernel
theorem dX12_oddsOf_14 : decode cX12_oddsOf 14 = .ok (.if_icmp .ge 36, 3) := by decide +kernel
theorem dX12_oddsOf_17 : decode cX12_oddsOf 17 = .ok (.lload_n 2, 1) := by decide +kernel
theorem dX12_oddsOf_18 : decode cX12_oddsOf 18 = .ok (.aload_n 0, 1) := by decide +kernel
theorem dX12_oddsOf_19 : decode cX12_oddsOf 19 = .ok (.getfield 131, 3) := by decide +kernel
theorem dX12_oddsOf_22 : decode cX12_oddsOf 22 = .ok (.iconst 0, 1) := by decide +kernel
theorem dX12_oddsOf_23 : decode cX12_oddsOf 23 = .ok (.iaload, 1) := by decide +kernel
theorem dX12_oddsOf_24 : decode cX12_oddsOf 24 = .ok (.iload 4, 2) := by decide +kernel
theorem dX12_oddsOf_26 : decode cX12_oddsOf 26 = .ok (.invokestatic 400, 3) := by decide +kernel
theorem dX12_oddsOf_29 : decode cX12_oddsOf 29 = .ok (.ifCond .eq 12, 3) := by decide +kernel
theorem dX12_oddsOf_32 : decode cX12_oddsOf 32 = .ok (.aload_n 0, 1) := by decide +kernel
theorem dX12_oddsOf_33 : decode cX12_oddsOf 33 = .ok (.iload 4, 2) := by decide +kernel
theorem dX12_oddsOf_35 : decode cX12_oddsOf 35 = .ok (.invokevirtual 419, 3) := by decide +kernel
theorem dX12_oddsOf_38 : decode cX12_oddsOf 38 = .ok (.goto 4, 3) := by decide +kernel
theorem dX12_oddsOf_41 : decode cX12_oddsOf 41 = .ok (.lconst 0, 1) := by decide +kernel
theorem dX12_oddsOf_42 : decode cX12_oddsOf 42 = .ok (.ladd, 1) := by decide +kernel
theorem dX12_oddsOf_43 : decode cX12_oddsOf 43 = .ok (.lstore_n 2, 1) := by decide +kernel
theorem dX12_oddsOf_44 : decode cX12_oddsOf 44 = .ok (.iinc 4 1, 3) := by decide +kernel
theorem dX12_oddsOf_47 : decode cX12_oddsOf 47 = .ok (.goto (-40), 3) := by decide +kernel
theorem dX12_oddsOf_50 : decode cX12_oddsOf 50 = .ok (.lload_n 2, 1) := by decide +kernel
theorem dX12_oddsOf_51 : decode cX12_oddsOf 51 = .ok (.lreturn, 1) := by decide +kernel
section
variable {p : Program} {l : Launch} {e : Env} {s : State} {m : MethodId} {args : Array Value} {below : List Frame} {meth : Method} {c : Code} {D : va_G} {cy : Nat → ClassId} {ad : Nat → Nat} {A : Nat → Prop} {aM aB aO aI aN aT aC aG aR aQ aK aL aX aH aJ aP aU aE0 aE1 aE2 aE3 : Nat → Nat} {gi : Value}
abbrev rm12_sure : Room := { frames := 3, cells := 0, slots := 0, locals := 65 }
theorem hdV12_sure : yX12_sure.cls = RX12 ∧ (yX12_sure.cls ≠ "java/lang/invoke/MethodHandle" ∧ yX12_sure.cls ≠ "java/lang/invoke/VarHandle" ∧ (parseMethodDescriptor yX12_sure.desc).map (fun d => d.parameters.length) = some 3) := by decide +kernel
theorem hin12_sure_12 : ∀ x ∈ u_ws RX12 TX12 39, x ∈ wsX12_sure := fun _ h => List.mem_cons_of_mem _ (List.mem_append_right _ h)
set_option maxRecDepth 100000 in
set_option maxHeartbeats 4000000 in
theorem t12_sure_34 (hC : Cx p s m args meth c cX12_sure 7 wsX12_sure RX12 (some .int)) : ∀ (SM : Ob) (res : Int32 × Ob) (H : Heap) (locs : List Loc) (ls : Array Slot), f12_sure_34 SM = some res → GW D cy ad (w12 cy aM SM) A s H locs → lv_has ls 7 [] → W p l e rm12_sure s m args below meth c H locs 0 0 (MQ below (QI D cy (w12 cy aM (res.2)) A (res.1)) args s 0 0 A) (F0 m 34 ls []) := by
  intro SM res H locs ls hf hW hl
  unfold f12_sure_34 at hf
  refine lv_iconst (v := (-1)) hC.1 hC.2.1 dX12_sure_34 (by decide) ?_
  obtain rfl := Option.some.inj hf
  exact g_iret hC hW dX12_sure_35
set_option maxRecDepth 100000 in
set_option maxHeartbeats 4000000 in
theorem t12_sure_104 (hC : Cx p s m args meth c cX12_sure 7 wsX12_sure RX12 (some .int)) {k56 : Int32 → Int32 → Int32 → Int32 → Ob → Option (Int32 × Ob)} (hk56 : ∀ (x2 : Int32) (x4 : Int32) (x5 : Int32) (x6 : Int32) (SM : Ob) (res : Int32 × Ob) (H : Heap) (locs : List Loc) (ls : Array Slot), k56 x2 x4 x5 x6 SM = some res → GW D cy ad (w12 cy aM SM) A s H locs → lv_has ls 7 [(0, .ref (aM 0)), (2, .int x2), (4, .int x4), (5, .int x5), (6, .int x6)] → W p l e rm12_sure s m args below meth c H locs 0 0 (MQ below (QI D cy (w12 cy aM (res.2)) A (res.1)) args s 0 0 A) (F0 m 56 ls [])) : ∀ (x2 : Int32) (x4 : Int32) (x6 : Int32) (z0 : Int32) (SM : Ob) (res : Int32 × Ob) (H : Heap) (locs : List Loc) (ls : Array Slot), f12_sure_104 k56 x2 x4 x6 z0 SM = some res → GW D cy ad (w12 cy aM SM) A s H locs → lv_has ls 7 [(0, .ref (aM 0)), (2, .int x2), (4, .int x4), (6, .int x6)] → W p l e rm12_sure s m args below meth c H locs 0 0 (MQ below (QI D cy (w12 cy aM (res.2)) A (res.1)) args s 0 0 A) (F0 m 104 ls [.int z0]) := by
  intro x2 x4 x6 z0 SM res H locs ls hf hW hl
  unfold f12_sure_104 at hf
  refine lv_istore (lv' := [(5, .int z0), (0, .ref (aM 0)), (2, .int x2), (4, .int x4), (6, .int x6)]) hC.1 hC.2.1 dX12_sure_104 hl (by decide) rfl (fun ls hl => ?_)
  obtain ⟨x6_1, ex6_1⟩ : ∃ y : Int32, y = x6 + 1 := ⟨_, rfl⟩
  have hf := lt_nm hf ex6_1
  refine lv_iinc (v := x6_1) (lv' := [(6, .int x6_1), (5, .int z0), (0, .ref (aM 0)), (2, .int x2), (4, .int x4)]) hC.1 hC.2.1 dX12_sure_106 hl (k := 4) rfl (by rw [ex6_1]; rfl) (by decide) rfl (fun ls hl => ?_)
  refine lv_goto (tgt := 56) hC.1 hC.2.1 dX12_sure_109 (by decide) ?_
  exact hk56 _ _ _ _ _ _ _ _ _ hf hW (lv_sub hl [2, 3, 4, 1, 0] rfl)
set_option maxRecDepth 100000 in
set_option maxHeartbeats 4000000 in
theorem t12_sure_102 (hC : Cx p s m args meth c cX12_sure 7 wsX12_sure RX12 (some .int)) {k56 : Int32 → Int32 → Int32 → Int32 → Ob → Option (Int32 × Ob)} (hk56 : ∀ (x2 : Int32) (x4 : Int32) (x5 : Int32) (x6 : Int32) (SM : Ob) (res : Int32 × Ob) (H : Heap) (locs : List Loc) (ls : Array Slot), k56 x2 x4 x5 x6 SM = some res → GW D cy ad (w12 cy aM SM) A s H locs → lv_has ls 7 [(0, .ref (aM 0)), (2, .int x2), (4, .int x4), (5, .int x5), (6, .int x6)] → W p l e rm12_sure s m args below meth c H locs 0 0 (MQ below (QI D cy (w12 cy aM (res.2)) A (res.1)) args s 0 0 A) (F0 m 56 ls [])) : ∀ (x2 : Int32) (x4 : Int32) (x5 : Int32) (x6 : Int32) (SM : Ob) (res : Int32 × Ob) (H : Heap) (locs : List Loc) (ls : Array Slot), f12_sure_102 k56 x2 x4 x5 x6 SM = some res → GW D cy ad (w12 cy aM SM) A s H locs → lv_has ls 7 [(0, .ref (aM 0)), (2, .int x2), (4, .int x4), (5, .int x5), (6, .int x6)] → W p l e rm12_sure s m args below meth c H locs 0 0 (MQ below (QI D cy (w12 cy aM (res.2)) A (res.1)) args s 0 0 A) (F0 m 102 ls []) := by
  intro x2 x4 x5 x6 SM res H locs ls hf hW hl
  unfold f12_sure_102 at hf
  refine lv_iload hC.1 hC.2.1 dX12_sure_102 (lv_at hl 3 rfl) ?_
  exact t12_sure_104 hC hk56  _ _ _ _ _ _ _ _ _ hf hW (lv_sub hl [0, 1, 2, 4] rfl)
set_option maxRecDepth 100000 in
set_option maxHeartbeats 4000000 in
theorem t12_sure_56 (hC : Cx p s m args meth c cX12_sure 7 wsX12_sure RX12 (some .int)) : ∀ n : Nat, ∀ (x2 : Int32) (x4 : Int32) (x5 : Int32) (x6 : Int32) (SM : Ob) (res : Int32 × Ob) (H : Heap) (locs : List Loc) (ls : Array Slot), f12_sure_56 n x2 x4 x5 x6 SM = some res → GW D cy ad (w12 cy aM SM) A s H locs → lv_has ls 7 [(0, .ref (aM 0)), (2, .int x2), (4, .int x4), (5, .int x5), (6, .int x6)] → W p l e rm12_sure s m args below meth c H locs 0 0 (MQ below (QI D cy (w12 cy aM (res.2)) A (res.1)) args s 0 0 A) (F0 m 56 ls []) := by
  intro n
  induction n with
  | zero =>
    intro _ _ _ _ _ _ _ _ _ hf _ _
    exact nomatch (show (none : Option (Int32 × Ob)) = some _ from hf)
  | succ n ih =>
    intro x2 x4 x5 x6 SM res H locs ls hf hW hl
    rw [f12_sure_56] at hf
    refine lv_iload hC.1 hC.2.1 dX12_sure_56 (lv_at hl 4 rfl) ?_
    refine lv_aload_n hC.1 hC.2.1 dX12_sure_58 rfl (lv_at hl 0 rfl) ?_
    obtain ⟨r_1, hg_2, hf⟩ := bd_of hf
    refine g_calliV hC hW (c12_worlds l D cy ad aM hg_2) (cwV 0 hC.2.2.2.2.1 gX12_sure_X12_worlds rfl rfl rfl hdV12_worlds ⟨Nat.le_of_ble_eq_true rfl, Nat.le_of_ble_eq_true rfl⟩) (Sub.all _ _) 0 11 rfl rfl rfl rfl hl.1 rfl (Nat.le_of_ble_eq_true rfl) dX12_sure_59 ⟨Nat.zero_le _, Nat.zero_le _⟩ (fun H locs hW => ?_)
    refine lv_icmp_ge (tgt := 112) hC.1 hC.2.1 dX12_sure_62 (by decide) (fun hc_3 => ?_) (fun hc_3 => ?_)
    · have hf := ite_t hf hc_3
      refine lv_iload hC.1 hC.2.1 dX12_sure_112 (lv_at hl 3 rfl) ?_
      obtain rfl := Option.some.inj hf
      exact g_iret hC hW dX12_sure_114
    · have hf := ite_f hf hc_3
      refine lv_iload hC.1 hC.2.1 dX12_sure_65 (lv_at hl 2 rfl) ?_
      refine lv_iload hC.1 hC.2.1 dX12_sure_67 (lv_at hl 4 rfl) ?_
      obtain ⟨r_4, hg_5, hf⟩ := bd_of hf
      refine g_calliS hC hW (c12_isIn l D cy ad  hg_5) (va_cwS 2 hC.2.2.2.2.1 gX12_sure_X12_isIn rfl rfl rfl hdS12_isIn ⟨Nat.le_of_ble_eq_true rfl, Nat.le_of_ble_eq_true rfl⟩) (Sub.nil _) rfl hl.1 rfl (Nat.le_of_ble_eq_true rfl) dX12_sure_69 ⟨Nat.zero_le _, Nat.zero_le _⟩ (fun H locs hW => ?_)
      refine lv_if_eq (tgt := 102) hC.1 hC.2.1 dX12_sure_72 (by decide) (fun hc_6 => ?_) (fun hc_6 => ?_)
      · have hf := ite_t hf hc_6
        exact t12_sure_102 hC ih  _ _ _ _ _ _ _ _ _ hf hW (lv_sub hl [0, 1, 2, 3, 4] rfl)
      · have hf := ite_f hf hc_6
        refine lv_aload_n hC.1 hC.2.1 dX12_sure_75 rfl (lv_at hl 0 rfl) ?_
        refine lv_aload_n hC.1 hC.2.1 dX12_sure_76 rfl (lv_at hl 0 rfl) ?_
        refine lv_aload_n hC.1 hC.2.1 dX12_sure_77 rfl (lv_at hl 0 rfl) ?_
        refine g_get hC hW hin12_sure_12 0 rfl rfl 25 (by decide) 2 rfl rfl dX12_sure_78 ?_
        refine lv_iconst (v := 0) hC.1 hC.2.1 dX12_sure_81 (by decide) ?_
        obtain ⟨hi_7, hf⟩ := ck_of hf
        refine g_iald hC hW 16 rfl hi_7 dX12_sure_82 ?_
        refine lv_iload_n hC.1 hC.2.1 dX12_sure_83 rfl (lv_at hl 1 rfl) ?_
        refine lv_iload hC.1 hC.2.1 dX12_sure_84 (lv_at hl 4 rfl) ?_
        obtain ⟨r_8, hg_9, hf⟩ := bd_of hf
        refine g_calliV hC hW (c12_viewIn l D cy ad aM hg_9) (cwV 3 hC.2.2.2.2.1 gX12_sure_X12_viewIn rfl rfl rfl hdV12_viewIn ⟨Nat.le_of_ble_eq_true rfl, Nat.le_of_ble_eq_true rfl⟩) (Sub.all _ _) 0 11 rfl rfl rfl rfl hl.1 rfl (Nat.le_of_ble_eq_true rfl) dX12_sure_86 ⟨Nat.zero_le _, Nat.zero_le _⟩ (fun H locs hW => ?_)
        obtain ⟨r_10, hg_11, hf⟩ := bd_of hf
        refine g_calliV hC hW (c12_whoIn l D cy ad aM hg_11) (cwV 1 hC.2.2.2.2.1 gX12_sure_X12_whoIn rfl rfl rfl hdV12_whoIn ⟨Nat.le_of_ble_eq_true rfl, Nat.le_of_ble_eq_true rfl⟩) (Sub.all _ _) 0 11 rfl rfl rfl rfl hl.1 rfl (Nat.le_of_ble_eq_true rfl) dX12_sure_89 ⟨Nat.zero_le _, Nat.zero_le _⟩ (fun H locs hW => ?_)
        obtain ⟨r_12, hg_13, hf⟩ := bd_of hf
        refine g_calliS hC hW (c12_alone l D cy ad  hg_13) (va_cwS 1 hC.2.2.2.2.1 gX12_sure_X12_alone rfl rfl rfl hdS12_alone ⟨Nat.le_of_ble_eq_true rfl, Nat.le_of_ble_eq_true rfl⟩) (Sub.nil _) rfl hl.1 rfl (Nat.le_of_ble_eq_true rfl) dX12_sure_92 ⟨Nat.zero_le _, Nat.zero_le _⟩ (fun H locs hW => ?_)
        refine lv_if_ge (tgt := 102) hC.1 hC.2.1 dX12_sure_95 (by decide) (fun hc_14 => ?_) (fun hc_14 => ?_)
        · have hf := ite_t hf hc_14
          exact t12_sure_102 hC ih  _ _ _ _ _ _ _ _ _ hf hW (lv_sub hl [0, 1, 2, 3, 4] rfl)
        · have hf := ite_f hf hc_14
          refine lv_iconst (v := 0) hC.1 hC.2.1 dX12_sure_98 (by decide) ?_
          refine lv_goto (tgt := 104) hC.1 hC.2.1 dX12_sure_99 (by decide) ?_
          exact t12_sure_104 hC ih  _ _ _ _ _ _ _ _ _ hf hW (lv_sub hl [0, 1, 2, 4] rfl)
set_option maxRecDepth 100000 in
set_option maxHeartbeats 4000000 in
theorem t12_sure_0 (hC : Cx p s m args meth c cX12_sure 7 wsX12_sure RX12 (some .int)) : ∀ (x1 : Int32) (x2 : Int32) (x3 : Int32) (SM : Ob) (res : Int32 × Ob) (H : Heap) (locs : List Loc) (ls : Array Slot), f12_sure x1 x2 x3 SM = some res → GW D cy ad (w12 cy aM SM) A s H locs → lv_has ls 7 [(0, .ref (aM 0)), (1, .int x1), (2, .int x2), (3, .int x3)] → W p l e rm12_sure s m args below meth c H locs 0 0 (MQ below (QI D cy (w12 cy aM (res.2)) A (res.1)) args s 0 0 A) (F0 m 0 ls []) := by
  intro x1 x2 x3 SM res H locs ls hf hW hl
  unfold f12_sure at hf
  refine lv_aload_n hC.1 hC.2.1 dX12_sure_0 rfl (lv_at hl 0 rfl) ?_
  refine lv_iconst (v := 0) hC.1 hC.2.1 dX12_sure_1 (by decide) ?_
  obtain ⟨SM_1, eSM_1⟩ : ∃ y : Ob, y = oI SM 0 0 := ⟨_, rfl⟩
  have hf := lt_nm hf eSM_1
  refine g_put hC hW hin12_sure_12 tyX12 tyX12_ok nmX12 0 rfl rfl 0 (by decide) 1 rfl rfl rfl rfl (Nat.le_of_ble_eq_true rfl) (w' := w12 cy aM SM_1) (by rw [eSM_1]; rfl) dX12_sure_2 (fun H locs hW => ?_)
  refine lv_aload_n hC.1 hC.2.1 dX12_sure_5 rfl (lv_at hl 0 rfl) ?_
  refine lv_iload_n hC.1 hC.2.1 dX12_sure_6 rfl (lv_at hl 1 rfl) ?_
  obtain ⟨r_2, hg_3, hf⟩ := bd_of hf
  refine g_calliV hC hW (c12_isGuest l D cy ad aM hg_3) (cwV 1 hC.2.2.2.2.1 gX12_sure_X12_isGuest rfl rfl rfl hdV12_isGuest ⟨Nat.le_of_ble_eq_true rfl, Nat.le_of_ble_eq_true rfl⟩) (Sub.all _ _) 0 11 rfl rfl rfl rfl hl.1 rfl (Nat.le_of_ble_eq_true rfl) dX12_sure_7 ⟨Nat.zero_le _, Nat.zero_le _⟩ (fun H locs hW => ?_)
  refine lv_if_eq (tgt := 34) hC.1 hC.2.1 dX12_sure_10 (by decide) (fun hc_4 => ?_) (fun hc_4 => ?_)
  · have hf := ite_t hf hc_4
    exact t12_sure_34 hC  _ _ _ _ _ hf hW (lv_sub hl [] rfl)
  · have hf := ite_f hf hc_4
    refine lv_aload_n hC.1 hC.2.1 dX12_sure_13 rfl (lv_at hl 0 rfl) ?_
    refine lv_iload_n hC.1 hC.2.1 dX12_sure_14 rfl (lv_at hl 2 rfl) ?_
    obtain ⟨r_5, hg_6, hf⟩ := bd_of hf
    refine g_calliV hC hW (c12_isGuest l D cy ad aM hg_6) (cwV 1 hC.2.2.2.2.1 gX12_sure_X12_isGuest rfl rfl rfl hdV12_isGuest ⟨Nat.le_of_ble_eq_true rfl, Nat.le_of_ble_eq_true rfl⟩) (Sub.all _ _) 0 11 rfl rfl rfl rfl hl.1 rfl (Nat.le_of_ble_eq_true rfl) dX12_sure_15 ⟨Nat.zero_le _, Nat.zero_le _⟩ (fun H locs hW => ?_)
    refine lv_if_eq (tgt := 34) hC.1 hC.2.1 dX12_sure_18 (by decide) (fun hc_7 => ?_) (fun hc_7 => ?_)
    · have hf := ite_t hf hc_7
      exact t12_sure_34 hC  _ _ _ _ _ hf hW (lv_sub hl [] rfl)
    · have hf := ite_f hf hc_7
      refine lv_iload_n hC.1 hC.2.1 dX12_sure_21 rfl (lv_at hl 1 rfl) ?_
      refine lv_iload_n hC.1 hC.2.1 dX12_sure_22 rfl (lv_at hl 2 rfl) ?_
      refine lv_icmp_eq (tgt := 34) hC.1 hC.2.1 dX12_sure_23 (by decide) (fun hc_8 => ?_) (fun hc_8 => ?_)
      · have hf := ite_t hf hc_8
        exact t12_sure_34 hC  _ _ _ _ _ hf hW (lv_sub hl [] rfl)
      · have hf := ite_f hf hc_8
        refine lv_aload_n hC.1 hC.2.1 dX12_sure_26 rfl (lv_at hl 0 rfl) ?_
        refine lv_iload_n hC.1 hC.2.1 dX12_sure_27 rfl (lv_at hl 3 rfl) ?_
        obtain ⟨r_9, hg_10, hf⟩ := bd_of hf
        refine g_calliV hC hW (c12_isLeft l D cy ad aM hg_10) (cwV 1 hC.2.2.2.2.1 gX12_sure_X12_isLeft rfl rfl rfl hdV12_isLeft ⟨Nat.le_of_ble_eq_true rfl, Nat.le_of_ble_eq_true rfl⟩) (Sub.all _ _) 0 11 rfl rfl rfl rfl hl.1 rfl (Nat.le_of_ble_eq_true rfl) dX12_sure_28 ⟨Nat.zero_le _, Nat.zero_le _⟩ (fun H locs hW => ?_)
        refine lv_if_ne (tgt := 36) hC.1 hC.2.1 dX12_sure_31 (by decide) (fun hc_11 => ?_) (fun hc_11 => ?_)
        · have hf := ite_f hf hc_11
          refine lv_aload_n hC.1 hC.2.1 dX12_sure_36 rfl (lv_at hl 0 rfl) ?_
          refine lv_aload_n hC.1 hC.2.1 dX12_sure_37 rfl (lv_at hl 0 rfl) ?_
          refine g_get hC hW hin12_sure_12 0 rfl rfl 25 (by decide) 2 rfl rfl dX12_sure_38 ?_
          refine lv_iconst (v := 0) hC.1 hC.2.1 dX12_sure_41 (by decide) ?_
          obtain ⟨hi_12, hf⟩ := ck_of hf
          refine g_iald hC hW 16 rfl hi_12 dX12_sure_42 ?_
          refine lv_iload_n hC.1 hC.2.1 dX12_sure_43 rfl (lv_at hl 1 rfl) ?_
          refine lv_iload_n hC.1 hC.2.1 dX12_sure_44 rfl (lv_at hl 3 rfl) ?_
          obtain ⟨r_13, hg_14, hf⟩ := bd_of hf
          refine g_calliV hC hW (c12_viewIn l D cy ad aM hg_14) (cwV 3 hC.2.2.2.2.1 gX12_sure_X12_viewIn rfl rfl rfl hdV12_viewIn ⟨Nat.le_of_ble_eq_true rfl, Nat.le_of_ble_eq_true rfl⟩) (Sub.all _ _) 0 11 rfl rfl rfl rfl hl.1 rfl (Nat.le_of_ble_eq_true rfl) dX12_sure_45 ⟨Nat.zero_le _, Nat.zero_le _⟩ (fun H locs hW => ?_)
          refine lv_istore (lv' := [(4, .int r_13), (0, .ref (aM 0)), (1, .int x1), (2, .int x2), (3, .int x3)]) hC.1 hC.2.1 dX12_sure_48 hl (by decide) rfl (fun ls hl => ?_)
          refine lv_iconst (v := 1) hC.1 hC.2.1 dX12_sure_50 (by decide) ?_
          refine lv_istore (lv' := [(5, .int 1), (4, .int r_13), (0, .ref (aM 0)), (1, .int x1), (2, .int x2), (3, .int x3)]) hC.1 hC.2.1 dX12_sure_51 hl (by decide) rfl (fun ls hl => ?_)
          refine lv_iconst (v := 0) hC.1 hC.2.1 dX12_sure_53 (by decide) ?_
          refine lv_istore (lv' := [(6, .int 0), (5, .int 1), (4, .int r_13), (0, .ref (aM 0)), (1, .int x1), (2, .int x2), (3, .int x3)]) hC.1 hC.2.1 dX12_sure_54 hl (by decide) rfl (fun ls hl => ?_)
          exact t12_sure_56 hC _ _ _ _ _ _ _ _ _ _ hf hW (lv_sub hl [3, 5, 2, 1, 0] rfl)
        · have hf := ite_t hf hc_11
          exact t12_sure_34 hC  _ _ _ _ _ hf hW (lv_sub hl [] rfl)
set_option maxRecDepth 100000 in
set_option maxHeartbeats 4000000 in
theorem c12_sure (l : Launch) (D : va_G) (cy : Nat → ClassId) (ad : Nat → Nat) (aM : Nat → Nat) {x1 : Int32} {x2 : Int32} {x3 : Int32} {SM : Ob} {res : Int32 × Ob} (h : f12_sure x1 x2 x3 SM = some res) : GCi l yX12_sure wsX12_sure rm12_sure [.ref (aM 0), .int x1, .int x2, .int x3] D cy ad (w12 cy aM SM) (w12 cy aM (res.2)) (res.1) := fun sz => GC.start (own := RX12) (Qc := fun A => QI D cy (w12 cy aM (res.2)) A (res.1)) sz (by decide) rfl rfl (Nat.le_of_ble_eq_true rfl) (fun p e s m below meth c A ls hC hW hl => t12_sure_0 hC _ _ _ _ _ _ _ _ h hW (lv_sub hl [0, 1, 2, 3] rfl))
abbrev rm12_knowing : Room := { frames := 3, cells := 0, slots := 0, locals := 65 }
theorem hdV12_knowing : yX12_knowing.cls = RX12 ∧ (yX12_knowing.cls ≠ "java/lang/invoke/MethodHandle" ∧ yX12_knowing.cls ≠ "java/lang/invoke/VarHandle" ∧ (parseMethodDescriptor yX12_knowing.desc).map (fun d => d.parameters.length) = some 2) := by decide +kernel
set_option maxRecDepth 100000 in
set_option maxHeartbeats 4000000 in
theorem t12_knowing_41 (hC : Cx p s m args meth c cX12_knowing 5 wsX12_knowing RX12 (some .int)) {k5 : Int32 → Int32 → Int32 → Int32 → Ob → Option (Int32)} (hk5 : ∀ (x1 : Int32) (x2 : Int32) (x3 : Int32) (x4 : Int32) (SM : Ob) (res : Int32) (H : Heap) (locs : List Loc) (ls : Array Slot), k5 x1 x2 x3 x4 SM = some res → GW D cy ad (w12 cy aM SM) A s H locs → lv_has ls 5 [(0, .ref (aM 0)), (1, .int x1), (2, .int x2), (3, .int x3), (4, .int x4)] → W p l e rm12_knowing s m args below meth c H locs 0 0 (MQ below (QI D cy (w12 cy aM SM) A res) args s 0 0 A) (F0 m 5 ls [])) : ∀ (x1 : Int32) (x2 : Int32) (x4 : Int32) (z0 : Int32) (z1 : Int32) (SM : Ob) (res : Int32) (H : Heap) (locs : List Loc) (ls : Array Slot), f12_knowing_41 k5 x1 x2 x4 z0 z1 SM = some res → GW D cy ad (w12 cy aM SM) A s H locs → lv_has ls 5 [(0, .ref (aM 0)), (1, .int x1), (2, .int x2), (4, .int x4)] → W p l e rm12_knowing s m args below meth c H locs 0 0 (MQ below (QI D cy (w12 cy aM SM) A res) args s 0 0 A) (F0 m 41 ls [.int z1, .int z0]) := by
  intro x1 x2 x4 z0 z1 SM res H locs ls hf hW hl
  unfold f12_knowing_41 at hf
  refine lv_ior hC.1 hC.2.1 dX12_knowing_41 ?_
  refine lv_topi (fun x3_1 ex3_1 => ?_)
  have hf := lt_nm hf ex3_1
  refine lv_istore_n (lv' := [(3, .int x3_1), (0, .ref (aM 0)), (1, .int x1), (2, .int x2), (4, .int x4)]) hC.1 hC.2.1 dX12_knowing_42 rfl hl (by decide) rfl (fun ls hl => ?_)
  obtain ⟨x4_2, ex4_2⟩ : ∃ y : Int32, y = x4 + 1 := ⟨_, rfl⟩
  have hf := lt_nm hf ex4_2
  refine lv_iinc (v := x4_2) (lv' := [(4, .int x4_2), (3, .int x3_1), (0, .ref (aM 0)), (1, .int x1), (2, .int x2)]) hC.1 hC.2.1 dX12_knowing_43 hl (k := 4) rfl (by rw [ex4_2]; rfl) (by decide) rfl (fun ls hl => ?_)
  refine lv_goto (tgt := 5) hC.1 hC.2.1 dX12_knowing_46 (by decide) ?_
  exact hk5 _ _ _ _ _ _ _ _ _ hf hW (lv_sub hl [2, 3, 4, 1, 0] rfl)
set_option maxRecDepth 100000 in
set_option maxHeartbeats 4000000 in
theorem t12_knowing_5 (hC : Cx p s m args meth c cX12_knowing 5 wsX12_knowing RX12 (some .int)) : ∀ n : Nat, ∀ (x1 : Int32) (x2 : Int32) (x3 : Int32) (x4 : Int32) (SM : Ob) (res : Int32) (H : Heap) (locs : List Loc) (ls : Array Slot), f12_knowing_5 n x1 x2 x3 x4 SM = some res → GW D cy ad (w12 cy aM SM) A s H locs → lv_has ls 5 [(0, .ref (aM 0)), (1, .int x1), (2, .int x2), (3, .int x3), (4, .int x4)] → W p l e rm12_knowing s m args below meth c H locs 0 0 (MQ below (QI D cy (w12 cy aM SM) A res) args s 0 0 A) (F0 m 5 ls []) := by
  intro n
  induction n with
  | zero =>
    intro _ _ _ _ _ _ _ _ _ hf _ _
    exact nomatch (show (none : Option (Int32)) = some _ from hf)
  | succ n ih =>
    intro x1 x2 x3 x4 SM res H locs ls hf hW hl
    rw [f12_knowing_5] at hf
    refine lv_iload hC.1 hC.2.1 dX12_knowing_5 (lv_at hl 4 rfl) ?_
    refine lv_aload_n hC.1 hC.2.1 dX12_knowing_7 rfl (lv_at hl 0 rfl) ?_
    obtain ⟨r_1, hg_2, hf⟩ := bd_of hf
    refine g_calliV hC hW (c12_guests l D cy ad aM hg_2) (cwV 0 hC.2.2.2.2.1 gX12_knowing_X12_guests rfl rfl rfl hdV12_guests ⟨Nat.le_of_ble_eq_true rfl, Nat.le_of_ble_eq_true rfl⟩) (Sub.all _ _) 0 11 rfl rfl rfl rfl hl.1 rfl (Nat.le_of_ble_eq_true rfl) dX12_knowing_8 ⟨Nat.zero_le _, Nat.zero_le _⟩ (fun H locs hW => ?_)
    refine lv_icmp_ge (tgt := 49) hC.1 hC.2.1 dX12_knowing_11 (by decide) (fun hc_3 => ?_) (fun hc_3 => ?_)
    · have hf := ite_t hf hc_3
      refine lv_iload_n hC.1 hC.2.1 dX12_knowing_49 rfl (lv_at hl 3 rfl) ?_
      obtain rfl := Option.some.inj hf
      exact g_iret hC hW dX12_knowing_50
    · have hf := ite_f hf hc_3
      refine lv_iload_n hC.1 hC.2.1 dX12_knowing_14 rfl (lv_at hl 3 rfl) ?_
      refine lv_aload_n hC.1 hC.2.1 dX12_knowing_15 rfl (lv_at hl 0 rfl) ?_
      refine lv_aload_n hC.1 hC.2.1 dX12_knowing_16 rfl (lv_at hl 0 rfl) ?_
      refine lv_iload_n hC.1 hC.2.1 dX12_knowing_17 rfl (lv_at hl 1 rfl) ?_
      refine lv_iload hC.1 hC.2.1 dX12_knowing_18 (lv_at hl 4 rfl) ?_
      refine lv_iload_n hC.1 hC.2.1 dX12_knowing_20 rfl (lv_at hl 2 rfl) ?_
      obtain ⟨r_4, hg_5, hf⟩ := bd_of hf
      refine g_calliV hC hW (c12_viewIn l D cy ad aM hg_5) (cwV 3 hC.2.2.2.2.1 gX12_knowing_X12_viewIn rfl rfl rfl hdV12_viewIn ⟨Nat.le_of_ble_eq_true rfl, Nat.le_of_ble_eq_true rfl⟩) (Sub.all _ _) 0 11 rfl rfl rfl rfl hl.1 rfl (Nat.le_of_ble_eq_true rfl) dX12_knowing_21 ⟨Nat.zero_le _, Nat.zero_le _⟩ (fun H locs hW => ?_)
      obtain ⟨r_6, hg_7, hf⟩ := bd_of hf
      refine g_calliV hC hW (c12_whoIn l D cy ad aM hg_7) (cwV 1 hC.2.2.2.2.1 gX12_knowing_X12_whoIn rfl rfl rfl hdV12_whoIn ⟨Nat.le_of_ble_eq_true rfl, Nat.le_of_ble_eq_true rfl⟩) (Sub.all _ _) 0 11 rfl rfl rfl rfl hl.1 rfl (Nat.le_of_ble_eq_true rfl) dX12_knowing_24 ⟨Nat.zero_le _, Nat.zero_le _⟩ (fun H locs hW => ?_)
      obtain ⟨r_8, hg_9, hf⟩ := bd_of hf
      refine g_calliS hC hW (c12_alone l D cy ad  hg_9) (va_cwS 1 hC.2.2.2.2.1 gX12_knowing_X12_alone rfl rfl rfl hdS12_alone ⟨Nat.le_of_ble_eq_true rfl, Nat.le_of_ble_eq_true rfl⟩) (Sub.nil _) rfl hl.1 rfl (Nat.le_of_ble_eq_true rfl) dX12_knowing_27 ⟨Nat.zero_le _, Nat.zero_le _⟩ (fun H locs hW => ?_)
      refine lv_if_lt (tgt := 40) hC.1 hC.2.1 dX12_knowing_30 (by decide) (fun hc_10 => ?_) (fun hc_10 => ?_)
      · have hf := ite_t hf hc_10
        refine lv_iconst (v := 0) hC.1 hC.2.1 dX12_knowing_40 (by decide) ?_
        exact t12_knowing_41 hC ih  _ _ _ _ _ _ _ _ _ _ hf hW (lv_sub hl [0, 1, 2, 4] rfl)
      · have hf := ite_f hf hc_10
        refine lv_iconst (v := 1) hC.1 hC.2.1 dX12_knowing_33 (by decide) ?_
        refine lv_iload hC.1 hC.2.1 dX12_knowing_34 (lv_at hl 4 rfl) ?_
        refine lv_ishl hC.1 hC.2.1 dX12_knowing_36 ?_
        refine lv_goto (tgt := 41) hC.1 hC.2.1 dX12_knowing_37 (by decide) ?_
        exact t12_knowing_41 hC ih  _ _ _ _ _ _ _ _ _ _ hf hW (lv_sub hl [0, 1, 2, 4] rfl)
set_option maxRecDepth 100000 in
set_option maxHeartbeats 4000000 in
theorem t12_knowing_0 (hC : Cx p s m args meth c cX12_knowing 5 wsX12_knowing RX12 (some .int)) : ∀ (x1 : Int32) (x2 : Int32) (SM : Ob) (res : Int32) (H : Heap) (locs : List Loc) (ls : Array Slot), f12_knowing x1 x2 SM = some res → GW D cy ad (w12 cy aM SM) A s H locs → lv_has ls 5 [(0, .ref (aM 0)), (1, .int x1), (2, .int x2)] → W p l e rm12_knowing s m args below meth c H locs 0 0 (MQ below (QI D cy (w12 cy aM SM) A res) args s 0 0 A) (F0 m 0 ls []) := by
  intro x1 x2 SM res H locs ls hf hW hl
  unfold f12_knowing at hf
  refine lv_iconst (v := 0) hC.1 hC.2.1 dX12_knowing_0 (by decide) ?_
  refine lv_istore_n (lv' := [(3, .int 0), (0, .ref (aM 0)), (1, .int x1), (2, .int x2)]) hC.1 hC.2.1 dX12_knowing_1 rfl hl (by decide) rfl (fun ls hl => ?_)
  refine lv_iconst (v := 0) hC.1 hC.2.1 dX12_knowing_2 (by decide) ?_
  refine lv_istore (lv' := [(4, .int 0), (3, .int 0), (0, .ref (aM 0)), (1, .int x1), (2, .int x2)]) hC.1 hC.2.1 dX12_knowing_3 hl (by decide) rfl (fun ls hl => ?_)
  exact t12_knowing_5 hC _ _ _ _ _ _ _ _ _ _ hf hW (lv_sub hl [2, 3, 4, 1, 0] rfl)
set_option maxRecDepth 100000 in
set_option maxHeartbeats 4000000 in
theorem c12_knowing (l : Launch) (D : va_G) (cy : Nat → ClassId) (ad : Nat → Nat) (aM : Nat → Nat) {x1 : Int32} {x2 : Int32} {SM : Ob} {res : Int32} (h : f12_knowing x1 x2 SM = some res) : GCi l yX12_knowing wsX12_knowing rm12_knowing [.ref (aM 0), .int x1, .int x2] D cy ad (w12 cy aM SM) (w12 cy aM SM) res := fun sz => GC.start (own := RX12) (Qc := fun A => QI D cy (w12 cy aM SM) A res) sz (by decide) rfl rfl (Nat.le_of_ble_eq_true rfl) (fun p e s m below meth c A ls hC hW hl => t12_knowing_0 hC _ _ _ _ _ _ _ h hW (lv_sub hl [0, 1, 2] rfl))
abbrev rm12_rounds : Room := { frames := 4, cells := 0, slots := 0, locals := 89 }
theorem hdV12_rounds : yX12_rounds.cls = RX12 ∧ (yX12_rounds.cls ≠ "java/lang/invoke/MethodHandle" ∧ yX12_rounds.cls ≠ "java/lang/invoke/VarHandle" ∧ (parseMethodDescriptor yX12_rounds.desc).map (fun d => d.parameters.length) = some 2) := by decide +kernel
theorem hin12_rounds_12 : ∀ x ∈ u_ws RX12 TX12 39, x ∈ wsX12_rounds := fun _ h => List.mem_cons_of_mem _ (List.mem_append_right _ h)
set_option maxRecDepth 100000 in
set_option maxHeartbeats 4000000 in
theorem t12_rounds_22 (hC : Cx p s m args meth c cX12_rounds 8 wsX12_rounds RX12 (some .int)) : ∀ (SM : Ob) (res : Int32 × Ob) (H : Heap) (locs : List Loc) (ls : Array Slot), f12_rounds_22 SM = some res → GW D cy ad (w12 cy aM SM) A s H locs → lv_has ls 8 [] → W p l e rm12_rounds s m args below meth c H locs 0 0 (MQ below (QI D cy (w12 cy aM (res.2)) A (res.1)) args s 0 0 A) (F0 m 22 ls []) := by
  intro SM res H locs ls hf hW hl
  unfold f12_rounds_22 at hf
  refine lv_iconst (v := (-1)) hC.1 hC.2.1 dX12_rounds_22 (by decide) ?_
  obtain rfl := Option.some.inj hf
  exact g_iret hC hW dX12_rounds_23
set_option maxRecDepth 100000 in
set_option maxHeartbeats 4000000 in
theorem t12_rounds_65 (hC : Cx p s m args meth c cX12_rounds 8 wsX12_rounds RX12 (some .int)) : ∀ (z0 : Int32) (SM : Ob) (res : Int32 × Ob) (H : Heap) (locs : List Loc) (ls : Array Slot), f12_rounds_65 z0 SM = some res → GW D cy ad (w12 cy aM SM) A s H locs → lv_has ls 8 [] → W p l e rm12_rounds s m args below meth c H locs 0 0 (MQ below (QI D cy (w12 cy aM (res.2)) A (res.1)) args s 0 0 A) (F0 m 65 ls [.int z0]) := by
  intro z0 SM res H locs ls hf hW hl
  unfold f12_rounds_65 at hf
  obtain rfl := Option.some.inj hf
  exact g_iret hC hW dX12_rounds_65
set_option maxRecDepth 100000 in
set_option maxHeartbeats 4000000 in
theorem t12_rounds_110 (hC : Cx p s m args meth c cX12_rounds 8 wsX12_rounds RX12 (some .int)) {k34 : Int32 → Int32 → Int32 → Int32 → Ob → Option (Int32 × Ob)} (hk34 : ∀ (x1 : Int32) (x2 : Int32) (x3 : Int32) (x4 : Int32) (SM : Ob) (res : Int32 × Ob) (H : Heap) (locs : List Loc) (ls : Array Slot), k34 x1 x2 x3 x4 SM = some res → GW D cy ad (w12 cy aM SM) A s H locs → lv_has ls 8 [(0, .ref (aM 0)), (1, .int x1), (2, .int x2), (3, .int x3), (4, .int x4)] → W p l e rm12_rounds s m args below meth c H locs 0 0 (MQ below (QI D cy (w12 cy aM (res.2)) A (res.1)) args s 0 0 A) (F0 m 34 ls [])) {k72 : Int32 → Int32 → Int32 → Int32 → Int32 → Int32 → Ob → Option (Int32 × Ob)} (hk72 : ∀ (x1 : Int32) (x2 : Int32) (x3 : Int32) (x4 : Int32) (x6 : Int32) (x7 : Int32) (SM : Ob) (res : Int32 × Ob) (H : Heap) (locs : List Loc) (ls : Array Slot), k72 x1 x2 x3 x4 x6 x7 SM = some res → GW D cy ad (w12 cy aM SM) A s H locs → lv_has ls 8 [(0, .ref (aM 0)), (1, .int x1), (2, .int x2), (3, .int x3), (4, .int x4), (6, .int x6), (7, .int x7)] → W p l e rm12_rounds s m args below meth c H locs 0 0 (MQ below (QI D cy (w12 cy aM (res.2)) A (res.1)) args s 0 0 A) (F0 m 72 ls [])) : ∀ (x1 : Int32) (x2 : Int32) (x3 : Int32) (x4 : Int32) (x7 : Int32) (z0 : Int32) (z1 : Int32) (SM : Ob) (res : Int32 × Ob) (H : Heap) (locs : List Loc) (ls : Array Slot), f12_rounds_110 k34 k72 x1 x2 x3 x4 x7 z0 z1 SM = some res → GW D cy ad (w12 cy aM SM) A s H locs → lv_has ls 8 [(0, .ref (aM 0)), (1, .int x1), (2, .int x2), (3, .int x3), (4, .int x4), (7, .int x7)] → W p l e rm12_rounds s m args below meth c H locs 0 0 (MQ below (QI D cy (w12 cy aM (res.2)) A (res.1)) args s 0 0 A) (F0 m 110 ls [.int z1, .int z0]) := by
  intro x1 x2 x3 x4 x7 z0 z1 SM res H locs ls hf hW hl
  unfold f12_rounds_110 at hf
  refine lv_ior hC.1 hC.2.1 dX12_rounds_110 ?_
  refine lv_topi (fun x6_1 ex6_1 => ?_)
  have hf := lt_nm hf ex6_1
  refine lv_istore (lv' := [(6, .int x6_1), (0, .ref (aM 0)), (1, .int x1), (2, .int x2), (3, .int x3), (4, .int x4), (7, .int x7)]) hC.1 hC.2.1 dX12_rounds_111 hl (by decide) rfl (fun ls hl => ?_)
  obtain ⟨x7_2, ex7_2⟩ : ∃ y : Int32, y = x7 + 1 := ⟨_, rfl⟩
  have hf := lt_nm hf ex7_2
  refine lv_iinc (v := x7_2) (lv' := [(7, .int x7_2), (6, .int x6_1), (0, .ref (aM 0)), (1, .int x1), (2, .int x2), (3, .int x3), (4, .int x4)]) hC.1 hC.2.1 dX12_rounds_113 hl (k := 6) rfl (by rw [ex7_2]; rfl) (by decide) rfl (fun ls hl => ?_)
  refine lv_goto (tgt := 72) hC.1 hC.2.1 dX12_rounds_116 (by decide) ?_
  exact hk72 _ _ _ _ _ _ _ _ _ _ _ hf hW (lv_sub hl [2, 3, 4, 5, 6, 1, 0] rfl)
set_option maxRecDepth 100000 in
set_option maxHeartbeats 4000000 in
theorem t12_rounds_109 (hC : Cx p s m args meth c cX12_rounds 8 wsX12_rounds RX12 (some .int)) {k34 : Int32 → Int32 → Int32 → Int32 → Ob → Option (Int32 × Ob)} (hk34 : ∀ (x1 : Int32) (x2 : Int32) (x3 : Int32) (x4 : Int32) (SM : Ob) (res : Int32 × Ob) (H : Heap) (locs : List Loc) (ls : Array Slot), k34 x1 x2 x3 x4 SM = some res → GW D cy ad (w12 cy aM SM) A s H locs → lv_has ls 8 [(0, .ref (aM 0)), (1, .int x1), (2, .int x2), (3, .int x3), (4, .int x4)] → W p l e rm12_rounds s m args below meth c H locs 0 0 (MQ below (QI D cy (w12 cy aM (res.2)) A (res.1)) args s 0 0 A) (F0 m 34 ls [])) {k72 : Int32 → Int32 → Int32 → Int32 → Int32 → Int32 → Ob → Option (Int32 × Ob)} (hk72 : ∀ (x1 : Int32) (x2 : Int32) (x3 : Int32) (x4 : Int32) (x6 : Int32) (x7 : Int32) (SM : Ob) (res : Int32 × Ob) (H : Heap) (locs : List Loc) (ls : Array Slot), k72 x1 x2 x3 x4 x6 x7 SM = some res → GW D cy ad (w12 cy aM SM) A s H locs → lv_has ls 8 [(0, .ref (aM 0)), (1, .int x1), (2, .int x2), (3, .int x3), (4, .int x4), (6, .int x6), (7, .int x7)] → W p l e rm12_rounds s m args below meth c H locs 0 0 (MQ below (QI D cy (w12 cy aM (res.2)) A (res.1)) args s 0 0 A) (F0 m 72 ls [])) : ∀ (x1 : Int32) (x2 : Int32) (x3 : Int32) (x4 : Int32) (x7 : Int32) (z0 : Int32) (SM : Ob) (res : Int32 × Ob) (H : Heap) (locs : List Loc) (ls : Array Slot), f12_rounds_109 k34 k72 x1 x2 x3 x4 x7 z0 SM = some res → GW D cy ad (w12 cy aM SM) A s H locs → lv_has ls 8 [(0, .ref (aM 0)), (1, .int x1), (2, .int x2), (3, .int x3), (4, .int x4), (7, .int x7)] → W p l e rm12_rounds s m args below meth c H locs 0 0 (MQ below (QI D cy (w12 cy aM (res.2)) A (res.1)) args s 0 0 A) (F0 m 109 ls [.int z0]) := by
  intro x1 x2 x3 x4 x7 z0 SM res H locs ls hf hW hl
  unfold f12_rounds_109 at hf
  refine lv_iconst (v := 0) hC.1 hC.2.1 dX12_rounds_109 (by decide) ?_
  exact t12_rounds_110 hC hk34 hk72  _ _ _ _ _ _ _ _ _ _ _ _ hf hW (lv_sub hl [0, 1, 2, 3, 4, 5] rfl)
set_option maxRecDepth 100000 in
set_option maxHeartbeats 4000000 in
theorem t12_rounds_72 (hC : Cx p s m args meth c cX12_rounds 8 wsX12_rounds RX12 (some .int)) {k34 : Int32 → Int32 → Int32 → Int32 → Ob → Option (Int32 × Ob)} (hk34 : ∀ (x1 : Int32) (x2 : Int32) (x3 : Int32) (x4 : Int32) (SM : Ob) (res : Int32 × Ob) (H : Heap) (locs : List Loc) (ls : Array Slot), k34 x1 x2 x3 x4 SM = some res → GW D cy ad (w12 cy aM SM) A s H locs → lv_has ls 8 [(0, .ref (aM 0)), (1, .int x1), (2, .int x2), (3, .int x3), (4, .int x4)] → W p l e rm12_rounds s m args below meth c H locs 0 0 (MQ below (QI D cy (w12 cy aM (res.2)) A (res.1)) args s 0 0 A) (F0 m 34 ls [])) : ∀ n : Nat, ∀ (x1 : Int32) (x2 : Int32) (x3 : Int32) (x4 : Int32) (x6 : Int32) (x7 : Int32) (SM : Ob) (res : Int32 × Ob) (H : Heap) (locs : List Loc) (ls : Array Slot), f12_rounds_72 k34 n x1 x2 x3 x4 x6 x7 SM = some res → GW D cy ad (w12 cy aM SM) A s H locs → lv_has ls 8 [(0, .ref (aM 0)), (1, .int x1), (2, .int x2), (3, .int x3), (4, .int x4), (6, .int x6), (7, .int x7)] → W p l e rm12_rounds s m args below meth c H locs 0 0 (MQ below (QI D cy (w12 cy aM (res.2)) A (res.1)) args s 0 0 A) (F0 m 72 ls []) := by
  intro n
  induction n with
  | zero =>
    intro _ _ _ _ _ _ _ _ _ _ _ hf _ _
    exact nomatch (show (none : Option (Int32 × Ob)) = some _ from hf)
  | succ n ih =>
    intro x1 x2 x3 x4 x6 x7 SM res H locs ls hf hW hl
    rw [f12_rounds_72] at hf
    refine lv_iload hC.1 hC.2.1 dX12_rounds_72 (lv_at hl 6 rfl) ?_
    refine lv_aload_n hC.1 hC.2.1 dX12_rounds_74 rfl (lv_at hl 0 rfl) ?_
    obtain ⟨r_1, hg_2, hf⟩ := bd_of hf
    refine g_calliV hC hW (c12_worlds l D cy ad aM hg_2) (cwV 0 hC.2.2.2.2.1 gX12_rounds_X12_worlds rfl rfl rfl hdV12_worlds ⟨Nat.le_of_ble_eq_true rfl, Nat.le_of_ble_eq_true rfl⟩) (Sub.all _ _) 0 11 rfl rfl rfl rfl hl.1 rfl (Nat.le_of_ble_eq_true rfl) dX12_rounds_75 ⟨Nat.zero_le _, Nat.zero_le _⟩ (fun H locs hW => ?_)
    refine lv_icmp_ge (tgt := 119) hC.1 hC.2.1 dX12_rounds_78 (by decide) (fun hc_3 => ?_) (fun hc_3 => ?_)
    · have hf := ite_t hf hc_3
      refine lv_iload hC.1 hC.2.1 dX12_rounds_119 (lv_at hl 5 rfl) ?_
      refine lv_iload_n hC.1 hC.2.1 dX12_rounds_121 rfl (lv_at hl 3 rfl) ?_
      refine lv_icmp_ne (tgt := 127) hC.1 hC.2.1 dX12_rounds_122 (by decide) (fun hc_4 => ?_) (fun hc_4 => ?_)
      · have hf := ite_f hf hc_4
        refine lv_iload hC.1 hC.2.1 dX12_rounds_127 (lv_at hl 5 rfl) ?_
        refine lv_istore_n (lv' := [(3, .int x6), (0, .ref (aM 0)), (1, .int x1), (2, .int x2), (4, .int x4), (6, .int x6), (7, .int x7)]) hC.1 hC.2.1 dX12_rounds_129 rfl hl (by decide) rfl (fun ls hl => ?_)
        obtain ⟨x4_5, ex4_5⟩ : ∃ y : Int32, y = x4 + 1 := ⟨_, rfl⟩
        have hf := lt_nm hf ex4_5
        refine lv_iinc (v := x4_5) (lv' := [(4, .int x4_5), (3, .int x6), (0, .ref (aM 0)), (1, .int x1), (2, .int x2), (6, .int x6), (7, .int x7)]) hC.1 hC.2.1 dX12_rounds_130 hl (k := 4) rfl (by rw [ex4_5]; rfl) (by decide) rfl (fun ls hl => ?_)
        refine lv_goto (tgt := 34) hC.1 hC.2.1 dX12_rounds_133 (by decide) ?_
        exact hk34 _ _ _ _ _ _ _ _ _ hf hW (lv_sub hl [2, 3, 4, 1, 0] rfl)
      · have hf := ite_t hf hc_4
        refine lv_iconst (v := (-1)) hC.1 hC.2.1 dX12_rounds_125 (by decide) ?_
        obtain rfl := Option.some.inj hf
        exact g_iret hC hW dX12_rounds_126
    · have hf := ite_f hf hc_3
      refine lv_iload hC.1 hC.2.1 dX12_rounds_81 (lv_at hl 5 rfl) ?_
      refine lv_iload_n hC.1 hC.2.1 dX12_rounds_83 rfl (lv_at hl 3 rfl) ?_
      refine lv_iload hC.1 hC.2.1 dX12_rounds_84 (lv_at hl 6 rfl) ?_
      obtain ⟨r_6, hg_7, hf⟩ := bd_of hf
      refine g_calliS hC hW (c12_isIn l D cy ad  hg_7) (va_cwS 2 hC.2.2.2.2.1 gX12_rounds_X12_isIn rfl rfl rfl hdS12_isIn ⟨Nat.le_of_ble_eq_true rfl, Nat.le_of_ble_eq_true rfl⟩) (Sub.nil _) rfl hl.1 rfl (Nat.le_of_ble_eq_true rfl) dX12_rounds_86 ⟨Nat.zero_le _, Nat.zero_le _⟩ (fun H locs hW => ?_)
      refine lv_if_eq (tgt := 109) hC.1 hC.2.1 dX12_rounds_89 (by decide) (fun hc_8 => ?_) (fun hc_8 => ?_)
      · have hf := ite_t hf hc_8
        exact t12_rounds_109 hC hk34 ih  _ _ _ _ _ _ _ _ _ _ _ hf hW (lv_sub hl [0, 1, 2, 3, 4, 6] rfl)
      · have hf := ite_f hf hc_8
        refine lv_aload_n hC.1 hC.2.1 dX12_rounds_92 rfl (lv_at hl 0 rfl) ?_
        refine lv_iload_n hC.1 hC.2.1 dX12_rounds_93 rfl (lv_at hl 3 rfl) ?_
        refine lv_iload hC.1 hC.2.1 dX12_rounds_94 (lv_at hl 6 rfl) ?_
        obtain ⟨r_9, hg_10, hf⟩ := bd_of hf
        refine g_calliV hC hW (c12_knowing l D cy ad aM hg_10) (cwV 2 hC.2.2.2.2.1 gX12_rounds_X12_knowing rfl rfl rfl hdV12_knowing ⟨Nat.le_of_ble_eq_true rfl, Nat.le_of_ble_eq_true rfl⟩) (Sub.all _ _) 0 11 rfl rfl rfl rfl hl.1 rfl (Nat.le_of_ble_eq_true rfl) dX12_rounds_96 ⟨Nat.zero_le _, Nat.zero_le _⟩ (fun H locs hW => ?_)
        refine lv_if_ne (tgt := 109) hC.1 hC.2.1 dX12_rounds_99 (by decide) (fun hc_11 => ?_) (fun hc_11 => ?_)
        · have hf := ite_f hf hc_11
          exact t12_rounds_109 hC hk34 ih  _ _ _ _ _ _ _ _ _ _ _ hf hW (lv_sub hl [0, 1, 2, 3, 4, 6] rfl)
        · have hf := ite_t hf hc_11
          refine lv_iconst (v := 1) hC.1 hC.2.1 dX12_rounds_102 (by decide) ?_
          refine lv_iload hC.1 hC.2.1 dX12_rounds_103 (lv_at hl 6 rfl) ?_
          refine lv_ishl hC.1 hC.2.1 dX12_rounds_105 ?_
          refine lv_goto (tgt := 110) hC.1 hC.2.1 dX12_rounds_106 (by decide) ?_
          exact t12_rounds_110 hC hk34 ih  _ _ _ _ _ _ _ _ _ _ _ _ hf hW (lv_sub hl [0, 1, 2, 3, 4, 6] rfl)
set_option maxRecDepth 100000 in
set_option maxHeartbeats 4000000 in
theorem t12_rounds_34 (hC : Cx p s m args meth c cX12_rounds 8 wsX12_rounds RX12 (some .int)) : ∀ n : Nat, ∀ (x1 : Int32) (x2 : Int32) (x3 : Int32) (x4 : Int32) (SM : Ob) (res : Int32 × Ob) (H : Heap) (locs : List Loc) (ls : Array Slot), f12_rounds_34 n x1 x2 x3 x4 SM = some res → GW D cy ad (w12 cy aM SM) A s H locs → lv_has ls 8 [(0, .ref (aM 0)), (1, .int x1), (2, .int x2), (3, .int x3), (4, .int x4)] → W p l e rm12_rounds s m args below meth c H locs 0 0 (MQ below (QI D cy (w12 cy aM (res.2)) A (res.1)) args s 0 0 A) (F0 m 34 ls []) := by
  intro n
  induction n with
  | zero =>
    intro _ _ _ _ _ _ _ _ _ hf _ _
    exact nomatch (show (none : Option (Int32 × Ob)) = some _ from hf)
  | succ n ih =>
    intro x1 x2 x3 x4 SM res H locs ls hf hW hl
    rw [f12_rounds_34] at hf
    refine lv_iload hC.1 hC.2.1 dX12_rounds_34 (lv_at hl 4 rfl) ?_
    refine lv_bipush (v := 33) hC.1 hC.2.1 dX12_rounds_36 (by decide) ?_
    refine lv_icmp_gt (tgt := 136) hC.1 hC.2.1 dX12_rounds_38 (by decide) (fun hc_1 => ?_) (fun hc_1 => ?_)
    · have hf := ite_t hf hc_1
      refine lv_iconst (v := (-1)) hC.1 hC.2.1 dX12_rounds_136 (by decide) ?_
      obtain rfl := Option.some.inj hf
      exact g_iret hC hW dX12_rounds_137
    · have hf := ite_f hf hc_1
      refine lv_aload_n hC.1 hC.2.1 dX12_rounds_41 rfl (lv_at hl 0 rfl) ?_
      refine lv_iload_n hC.1 hC.2.1 dX12_rounds_42 rfl (lv_at hl 3 rfl) ?_
      refine lv_iload_n hC.1 hC.2.1 dX12_rounds_43 rfl (lv_at hl 1 rfl) ?_
      obtain ⟨r_2, hg_3, hf⟩ := bd_of hf
      refine g_calliV hC hW (c12_knowing l D cy ad aM hg_3) (cwV 2 hC.2.2.2.2.1 gX12_rounds_X12_knowing rfl rfl rfl hdV12_knowing ⟨Nat.le_of_ble_eq_true rfl, Nat.le_of_ble_eq_true rfl⟩) (Sub.all _ _) 0 11 rfl rfl rfl rfl hl.1 rfl (Nat.le_of_ble_eq_true rfl) dX12_rounds_44 ⟨Nat.zero_le _, Nat.zero_le _⟩ (fun H locs hW => ?_)
      refine lv_istore (lv' := [(5, .int r_2), (0, .ref (aM 0)), (1, .int x1), (2, .int x2), (3, .int x3), (4, .int x4)]) hC.1 hC.2.1 dX12_rounds_47 hl (by decide) rfl (fun ls hl => ?_)
      refine lv_iload hC.1 hC.2.1 dX12_rounds_49 (lv_at hl 0 rfl) ?_
      refine lv_if_eq (tgt := 66) hC.1 hC.2.1 dX12_rounds_51 (by decide) (fun hc_4 => ?_) (fun hc_4 => ?_)
      · have hf := ite_t hf hc_4
        refine lv_iconst (v := 0) hC.1 hC.2.1 dX12_rounds_66 (by decide) ?_
        refine lv_istore (lv' := [(6, .int 0), (5, .int r_2), (0, .ref (aM 0)), (1, .int x1), (2, .int x2), (3, .int x3), (4, .int x4)]) hC.1 hC.2.1 dX12_rounds_67 hl (by decide) rfl (fun ls hl => ?_)
        refine lv_iconst (v := 0) hC.1 hC.2.1 dX12_rounds_69 (by decide) ?_
        refine lv_istore (lv' := [(7, .int 0), (6, .int 0), (5, .int r_2), (0, .ref (aM 0)), (1, .int x1), (2, .int x2), (3, .int x3), (4, .int x4)]) hC.1 hC.2.1 dX12_rounds_70 hl (by decide) rfl (fun ls hl => ?_)
        exact t12_rounds_72 hC ih _ _ _ _ _ _ _ _ _ _ _ _ hf hW (lv_sub hl [3, 4, 5, 6, 7, 1, 0] rfl)
      · have hf := ite_f hf hc_4
        refine lv_iload_n hC.1 hC.2.1 dX12_rounds_54 rfl (lv_at hl 3 rfl) ?_
        refine lv_if_ne (tgt := 63) hC.1 hC.2.1 dX12_rounds_55 (by decide) (fun hc_5 => ?_) (fun hc_5 => ?_)
        · have hf := ite_f hf hc_5
          refine lv_iload hC.1 hC.2.1 dX12_rounds_63 (lv_at hl 0 rfl) ?_
          exact t12_rounds_65 hC  _ _ _ _ _ _ hf hW (lv_sub hl [] rfl)
        · have hf := ite_t hf hc_5
          refine lv_iload hC.1 hC.2.1 dX12_rounds_58 (lv_at hl 5 rfl) ?_
          refine lv_goto (tgt := 65) hC.1 hC.2.1 dX12_rounds_60 (by decide) ?_
          exact t12_rounds_65 hC  _ _ _ _ _ _ hf hW (lv_sub hl [] rfl)
set_option maxRecDepth 100000 in
set_option maxHeartbeats 4000000 in
theorem t12_rounds_0 (hC : Cx p s m args meth c cX12_rounds 8 wsX12_rounds RX12 (some .int)) : ∀ (x1 : Int32) (x2 : Int32) (SM : Ob) (res : Int32 × Ob) (H : Heap) (locs : List Loc) (ls : Array Slot), f12_rounds x1 x2 SM = some res → GW D cy ad (w12 cy aM SM) A s H locs → lv_has ls 8 [(0, .ref (aM 0)), (1, .int x1), (2, .int x2)] → W p l e rm12_rounds s m args below meth c H locs 0 0 (MQ below (QI D cy (w12 cy aM (res.2)) A (res.1)) args s 0 0 A) (F0 m 0 ls []) := by
  intro x1 x2 SM res H locs ls hf hW hl
  unfold f12_rounds at hf
  refine lv_aload_n hC.1 hC.2.1 dX12_rounds_0 rfl (lv_at hl 0 rfl) ?_
  refine lv_iconst (v := 0) hC.1 hC.2.1 dX12_rounds_1 (by decide) ?_
  obtain ⟨SM_1, eSM_1⟩ : ∃ y : Ob, y = oI SM 0 0 := ⟨_, rfl⟩
  have hf := lt_nm hf eSM_1
  refine g_put hC hW hin12_rounds_12 tyX12 tyX12_ok nmX12 0 rfl rfl 0 (by decide) 1 rfl rfl rfl rfl (Nat.le_of_ble_eq_true rfl) (w' := w12 cy aM SM_1) (by rw [eSM_1]; rfl) dX12_rounds_2 (fun H locs hW => ?_)
  refine lv_aload_n hC.1 hC.2.1 dX12_rounds_5 rfl (lv_at hl 0 rfl) ?_
  refine lv_iload_n hC.1 hC.2.1 dX12_rounds_6 rfl (lv_at hl 1 rfl) ?_
  obtain ⟨r_2, hg_3, hf⟩ := bd_of hf
  refine g_calliV hC hW (c12_isLeft l D cy ad aM hg_3) (cwV 1 hC.2.2.2.2.1 gX12_rounds_X12_isLeft rfl rfl rfl hdV12_isLeft ⟨Nat.le_of_ble_eq_true rfl, Nat.le_of_ble_eq_true rfl⟩) (Sub.all _ _) 0 11 rfl rfl rfl rfl hl.1 rfl (Nat.le_of_ble_eq_true rfl) dX12_rounds_7 ⟨Nat.zero_le _, Nat.zero_le _⟩ (fun H locs hW => ?_)
  refine lv_if_eq (tgt := 22) hC.1 hC.2.1 dX12_rounds_10 (by decide) (fun hc_4 => ?_) (fun hc_4 => ?_)
  · have hf := ite_t hf hc_4
    exact t12_rounds_22 hC  _ _ _ _ _ hf hW (lv_sub hl [] rfl)
  · have hf := ite_f hf hc_4
    refine lv_iload_n hC.1 hC.2.1 dX12_rounds_13 rfl (lv_at hl 2 rfl) ?_
    refine lv_iconst (v := 0) hC.1 hC.2.1 dX12_rounds_14 (by decide) ?_
    refine lv_iconst (v := 1) hC.1 hC.2.1 dX12_rounds_15 (by decide) ?_
    obtain ⟨r_5, hg_6, hf⟩ := bd_of hf
    refine g_calliS hC hW (c12_within l D cy ad  hg_6) (va_cwS 3 hC.2.2.2.2.1 gX12_rounds_X12_within rfl rfl rfl hdS12_within ⟨Nat.le_of_ble_eq_true rfl, Nat.le_of_ble_eq_true rfl⟩) (Sub.nil _) rfl hl.1 rfl (Nat.le_of_ble_eq_true rfl) dX12_rounds_16 ⟨Nat.zero_le _, Nat.zero_le _⟩ (fun H locs hW => ?_)
    refine lv_if_ne (tgt := 24) hC.1 hC.2.1 dX12_rounds_19 (by decide) (fun hc_7 => ?_) (fun hc_7 => ?_)
    · have hf := ite_f hf hc_7
      refine lv_aload_n hC.1 hC.2.1 dX12_rounds_24 rfl (lv_at hl 0 rfl) ?_
      refine g_get hC hW hin12_rounds_12 0 rfl rfl 25 (by decide) 2 rfl rfl dX12_rounds_25 ?_
      refine lv_iconst (v := 0) hC.1 hC.2.1 dX12_rounds_28 (by decide) ?_
      obtain ⟨hi_8, hf⟩ := ck_of hf
      refine g_iald hC hW 16 rfl hi_8 dX12_rounds_29 ?_
      refine lv_topi (fun x3_9 ex3_9 => ?_)
      have hf := lt_nm hf ex3_9
      refine lv_istore_n (lv' := [(3, .int x3_9), (0, .ref (aM 0)), (1, .int x1), (2, .int x2)]) hC.1 hC.2.1 dX12_rounds_30 rfl hl (by decide) rfl (fun ls hl => ?_)
      refine lv_iconst (v := 1) hC.1 hC.2.1 dX12_rounds_31 (by decide) ?_
      refine lv_istore (lv' := [(4, .int 1), (3, .int x3_9), (0, .ref (aM 0)), (1, .int x1), (2, .int x2)]) hC.1 hC.2.1 dX12_rounds_32 hl (by decide) rfl (fun ls hl => ?_)
      exact t12_rounds_34 hC _ _ _ _ _ _ _ _ _ _ hf hW (lv_sub hl [2, 3, 4, 1, 0] rfl)
    · have hf := ite_t hf hc_7
      exact t12_rounds_22 hC  _ _ _ _ _ hf hW (lv_sub hl [] rfl)
set_option maxRecDepth 100000 in
set_option maxHeartbeats 4000000 in
theorem c12_rounds (l : Launch) (D : va_G) (cy : Nat → ClassId) (ad : Nat → Nat) (aM : Nat → Nat) {x1 : Int32} {x2 : Int32} {SM : Ob} {res : Int32 × Ob} (h : f12_rounds x1 x2 SM = some res) : GCi l yX12_rounds wsX12_rounds rm12_rounds [.ref (aM 0), .int x1, .int x2] D cy ad (w12 cy aM SM) (w12 cy aM (res.2)) (res.1) := fun sz => GC.start (own := RX12) (Qc := fun A => QI D cy (w12 cy aM (res.2)) A (res.1)) sz (by decide) rfl rfl (Nat.le_of_ble_eq_true rfl) (fun p e s m below meth c A ls hC hW hl => t12_rounds_0 hC _ _ _ _ _ _ _ h hW (lv_sub hl [0, 1, 2] rfl))
abbrev rm12_common : Room := { frames := 3, cells := 0, slots := 0, locals := 65 }
theorem hdV12_common : yX12_common.cls = RX12 ∧ (yX12_common.cls ≠ "java/lang/invoke/MethodHandle" ∧ yX12_common.cls ≠ "java/lang/invoke/VarHandle" ∧ (parseMethodDescriptor yX12_common.desc).map (fun d => d.parameters.length) = some 1) := by decide +kernel
theorem hin12_common_12 : ∀ x ∈ u_ws RX12 TX12 39, x ∈ wsX12_common := fun _ h => List.mem_cons_of_mem _ (List.mem_append_right _ h)
set_option maxRecDepth 100000 in
set_option maxHeartbeats 4000000 in
theorem t12_common_88 (hC : Cx p s m args meth c cX12_common 7 wsX12_common RX12 (some .int)) {k21 : Int32 → Int32 → Ob → Option (Int32 × Ob)} (hk21 : ∀ (x2 : Int32) (x3 : Int32) (SM : Ob) (res : Int32 × Ob) (H : Heap) (locs : List Loc) (ls : Array Slot), k21 x2 x3 SM = some res → GW D cy ad (w12 cy aM SM) A s H locs → lv_has ls 7 [(0, .ref (aM 0)), (2, .int x2), (3, .int x3)] → W p l e rm12_common s m args below meth c H locs 0 0 (MQ below (QI D cy (w12 cy aM (res.2)) A (res.1)) args s 0 0 A) (F0 m 21 ls [])) {k33 : Int32 → Int32 → Int32 → Int32 → Ob → Option (Int32 × Ob)} (hk33 : ∀ (x2 : Int32) (x3 : Int32) (x4 : Int32) (x5 : Int32) (SM : Ob) (res : Int32 × Ob) (H : Heap) (locs : List Loc) (ls : Array Slot), k33 x2 x3 x4 x5 SM = some res → GW D cy ad (w12 cy aM SM) A s H locs → lv_has ls 7 [(0, .ref (aM 0)), (2, .int x2), (3, .int x3), (4, .int x4), (5, .int x5)] → W p l e rm12_common s m args below meth c H locs 0 0 (MQ below (QI D cy (w12 cy aM (res.2)) A (res.1)) args s 0 0 A) (F0 m 33 ls [])) : ∀ (x2 : Int32) (x3 : Int32) (x4 : Int32) (x5 : Int32) (SM : Ob) (res : Int32 × Ob) (H : Heap) (locs : List Loc) (ls : Array Slot), f12_common_88 k21 k33 x2 x3 x4 x5 SM = some res → GW D cy ad (w12 cy aM SM) A s H locs → lv_has ls 7 [(0, .ref (aM 0)), (2, .int x2), (3, .int x3), (4, .int x4), (5, .int x5)] → W p l e rm12_common s m args below meth c H locs 0 0 (MQ below (QI D cy (w12 cy aM (res.2)) A (res.1)) args s 0 0 A) (F0 m 88 ls []) := by
  intro x2 x3 x4 x5 SM res H locs ls hf hW hl
  unfold f12_common_88 at hf
  obtain ⟨x5_1, ex5_1⟩ : ∃ y : Int32, y = x5 + 1 := ⟨_, rfl⟩
  have hf := lt_nm hf ex5_1
  refine lv_iinc (v := x5_1) (lv' := [(5, .int x5_1), (0, .ref (aM 0)), (2, .int x2), (3, .int x3), (4, .int x4)]) hC.1 hC.2.1 dX12_common_88 hl (k := 4) rfl (by rw [ex5_1]; rfl) (by decide) rfl (fun ls hl => ?_)
  refine lv_goto (tgt := 33) hC.1 hC.2.1 dX12_common_91 (by decide) ?_
  exact hk33 _ _ _ _ _ _ _ _ _ hf hW (lv_sub hl [1, 2, 3, 4, 0] rfl)
set_option maxRecDepth 100000 in
set_option maxHeartbeats 4000000 in
theorem t12_common_45 (hC : Cx p s m args meth c cX12_common 7 wsX12_common RX12 (some .int)) {k21 : Int32 → Int32 → Ob → Option (Int32 × Ob)} (hk21 : ∀ (x2 : Int32) (x3 : Int32) (SM : Ob) (res : Int32 × Ob) (H : Heap) (locs : List Loc) (ls : Array Slot), k21 x2 x3 SM = some res → GW D cy ad (w12 cy aM SM) A s H locs → lv_has ls 7 [(0, .ref (aM 0)), (2, .int x2), (3, .int x3)] → W p l e rm12_common s m args below meth c H locs 0 0 (MQ below (QI D cy (w12 cy aM (res.2)) A (res.1)) args s 0 0 A) (F0 m 21 ls [])) {k33 : Int32 → Int32 → Int32 → Int32 → Ob → Option (Int32 × Ob)} (hk33 : ∀ (x2 : Int32) (x3 : Int32) (x4 : Int32) (x5 : Int32) (SM : Ob) (res : Int32 × Ob) (H : Heap) (locs : List Loc) (ls : Array Slot), k33 x2 x3 x4 x5 SM = some res → GW D cy ad (w12 cy aM SM) A s H locs → lv_has ls 7 [(0, .ref (aM 0)), (2, .int x2), (3, .int x3), (4, .int x4), (5, .int x5)] → W p l e rm12_common s m args below meth c H locs 0 0 (MQ below (QI D cy (w12 cy aM (res.2)) A (res.1)) args s 0 0 A) (F0 m 33 ls [])) : ∀ n : Nat, ∀ (x2 : Int32) (x3 : Int32) (x4 : Int32) (x5 : Int32) (x6 : Int32) (SM : Ob) (res : Int32 × Ob) (H : Heap) (locs : List Loc) (ls : Array Slot), f12_common_45 k21 k33 n x2 x3 x4 x5 x6 SM = some res → GW D cy ad (w12 cy aM SM) A s H locs → lv_has ls 7 [(0, .ref (aM 0)), (2, .int x2), (3, .int x3), (4, .int x4), (5, .int x5), (6, .int x6)] → W p l e rm12_common s m args below meth c H locs 0 0 (MQ below (QI D cy (w12 cy aM (res.2)) A (res.1)) args s 0 0 A) (F0 m 45 ls []) := by
  intro n
  induction n with
  | zero =>
    intro _ _ _ _ _ _ _ _ _ _ hf _ _
    exact nomatch (show (none : Option (Int32 × Ob)) = some _ from hf)
  | succ n ih =>
    intro x2 x3 x4 x5 x6 SM res H locs ls hf hW hl
    rw [f12_common_45] at hf
    refine lv_iload hC.1 hC.2.1 dX12_common_45 (lv_at hl 5 rfl) ?_
    refine lv_aload_n hC.1 hC.2.1 dX12_common_47 rfl (lv_at hl 0 rfl) ?_
    obtain ⟨r_1, hg_2, hf⟩ := bd_of hf
    refine g_calliV hC hW (c12_guests l D cy ad aM hg_2) (cwV 0 hC.2.2.2.2.1 gX12_common_X12_guests rfl rfl rfl hdV12_guests ⟨Nat.le_of_ble_eq_true rfl, Nat.le_of_ble_eq_true rfl⟩) (Sub.all _ _) 0 11 rfl rfl rfl rfl hl.1 rfl (Nat.le_of_ble_eq_true rfl) dX12_common_48 ⟨Nat.zero_le _, Nat.zero_le _⟩ (fun H locs hW => ?_)
    refine lv_icmp_ge (tgt := 88) hC.1 hC.2.1 dX12_common_51 (by decide) (fun hc_3 => ?_) (fun hc_3 => ?_)
    · have hf := ite_t hf hc_3
      exact t12_common_88 hC hk21 hk33  _ _ _ _ _ _ _ _ _ hf hW (lv_sub hl [0, 1, 2, 3, 4] rfl)
    · have hf := ite_f hf hc_3
      refine lv_iload_n hC.1 hC.2.1 dX12_common_54 rfl (lv_at hl 1 rfl) ?_
      refine lv_iload hC.1 hC.2.1 dX12_common_55 (lv_at hl 4 rfl) ?_
      obtain ⟨r_4, hg_5, hf⟩ := bd_of hf
      refine g_calliS hC hW (c12_isIn l D cy ad  hg_5) (va_cwS 2 hC.2.2.2.2.1 gX12_common_X12_isIn rfl rfl rfl hdS12_isIn ⟨Nat.le_of_ble_eq_true rfl, Nat.le_of_ble_eq_true rfl⟩) (Sub.nil _) rfl hl.1 rfl (Nat.le_of_ble_eq_true rfl) dX12_common_57 ⟨Nat.zero_le _, Nat.zero_le _⟩ (fun H locs hW => ?_)
      refine lv_if_eq (tgt := 88) hC.1 hC.2.1 dX12_common_60 (by decide) (fun hc_6 => ?_) (fun hc_6 => ?_)
      · have hf := ite_t hf hc_6
        exact t12_common_88 hC hk21 hk33  _ _ _ _ _ _ _ _ _ hf hW (lv_sub hl [0, 1, 2, 3, 4] rfl)
      · have hf := ite_f hf hc_6
        refine lv_iload hC.1 hC.2.1 dX12_common_63 (lv_at hl 3 rfl) ?_
        refine lv_aload_n hC.1 hC.2.1 dX12_common_65 rfl (lv_at hl 0 rfl) ?_
        refine lv_aload_n hC.1 hC.2.1 dX12_common_66 rfl (lv_at hl 0 rfl) ?_
        refine g_get hC hW hin12_common_12 0 rfl rfl 25 (by decide) 2 rfl rfl dX12_common_67 ?_
        refine lv_iconst (v := 0) hC.1 hC.2.1 dX12_common_70 (by decide) ?_
        obtain ⟨hi_7, hf⟩ := ck_of hf
        refine g_iald hC hW 16 rfl hi_7 dX12_common_71 ?_
        refine lv_iload hC.1 hC.2.1 dX12_common_72 (lv_at hl 5 rfl) ?_
        refine lv_iload hC.1 hC.2.1 dX12_common_74 (lv_at hl 4 rfl) ?_
        obtain ⟨r_8, hg_9, hf⟩ := bd_of hf
        refine g_calliV hC hW (c12_viewIn l D cy ad aM hg_9) (cwV 3 hC.2.2.2.2.1 gX12_common_X12_viewIn rfl rfl rfl hdV12_viewIn ⟨Nat.le_of_ble_eq_true rfl, Nat.le_of_ble_eq_true rfl⟩) (Sub.all _ _) 0 11 rfl rfl rfl rfl hl.1 rfl (Nat.le_of_ble_eq_true rfl) dX12_common_76 ⟨Nat.zero_le _, Nat.zero_le _⟩ (fun H locs hW => ?_)
        refine lv_ior hC.1 hC.2.1 dX12_common_79 ?_
        refine lv_topi (fun x4_10 ex4_10 => ?_)
        have hf := lt_nm hf ex4_10
        refine lv_istore (lv' := [(4, .int x4_10), (0, .ref (aM 0)), (2, .int x2), (3, .int x3), (5, .int x5), (6, .int x6)]) hC.1 hC.2.1 dX12_common_80 hl (by decide) rfl (fun ls hl => ?_)
        obtain ⟨x6_11, ex6_11⟩ : ∃ y : Int32, y = x6 + 1 := ⟨_, rfl⟩
        have hf := lt_nm hf ex6_11
        refine lv_iinc (v := x6_11) (lv' := [(6, .int x6_11), (4, .int x4_10), (0, .ref (aM 0)), (2, .int x2), (3, .int x3), (5, .int x5)]) hC.1 hC.2.1 dX12_common_82 hl (k := 5) rfl (by rw [ex6_11]; rfl) (by decide) rfl (fun ls hl => ?_)
        refine lv_goto (tgt := 45) hC.1 hC.2.1 dX12_common_85 (by decide) ?_
        exact ih _ _ _ _ _ _ _ _ _ _ hf hW (lv_sub hl [2, 3, 4, 1, 5, 0] rfl)
set_option maxRecDepth 100000 in
set_option maxHeartbeats 4000000 in
theorem t12_common_33 (hC : Cx p s m args meth c cX12_common 7 wsX12_common RX12 (some .int)) {k21 : Int32 → Int32 → Ob → Option (Int32 × Ob)} (hk21 : ∀ (x2 : Int32) (x3 : Int32) (SM : Ob) (res : Int32 × Ob) (H : Heap) (locs : List Loc) (ls : Array Slot), k21 x2 x3 SM = some res → GW D cy ad (w12 cy aM SM) A s H locs → lv_has ls 7 [(0, .ref (aM 0)), (2, .int x2), (3, .int x3)] → W p l e rm12_common s m args below meth c H locs 0 0 (MQ below (QI D cy (w12 cy aM (res.2)) A (res.1)) args s 0 0 A) (F0 m 21 ls [])) : ∀ n : Nat, ∀ (x2 : Int32) (x3 : Int32) (x4 : Int32) (x5 : Int32) (SM : Ob) (res : Int32 × Ob) (H : Heap) (locs : List Loc) (ls : Array Slot), f12_common_33 k21 n x2 x3 x4 x5 SM = some res → GW D cy ad (w12 cy aM SM) A s H locs → lv_has ls 7 [(0, .ref (aM 0)), (2, .int x2), (3, .int x3), (4, .int x4), (5, .int x5)] → W p l e rm12_common s m args below meth c H locs 0 0 (MQ below (QI D cy (w12 cy aM (res.2)) A (res.1)) args s 0 0 A) (F0 m 33 ls []) := by
  intro n
  induction n with
  | zero =>
    intro _ _ _ _ _ _ _ _ _ hf _ _
    exact nomatch (show (none : Option (Int32 × Ob)) = some _ from hf)
  | succ n ih =>
    intro x2 x3 x4 x5 SM res H locs ls hf hW hl
    rw [f12_common_33] at hf
    refine lv_iload hC.1 hC.2.1 dX12_common_33 (lv_at hl 4 rfl) ?_
    refine lv_aload_n hC.1 hC.2.1 dX12_common_35 rfl (lv_at hl 0 rfl) ?_
    obtain ⟨r_1, hg_2, hf⟩ := bd_of hf
    refine g_calliV hC hW (c12_worlds l D cy ad aM hg_2) (cwV 0 hC.2.2.2.2.1 gX12_common_X12_worlds rfl rfl rfl hdV12_worlds ⟨Nat.le_of_ble_eq_true rfl, Nat.le_of_ble_eq_true rfl⟩) (Sub.all _ _) 0 11 rfl rfl rfl rfl hl.1 rfl (Nat.le_of_ble_eq_true rfl) dX12_common_36 ⟨Nat.zero_le _, Nat.zero_le _⟩ (fun H locs hW => ?_)
    refine lv_icmp_ge (tgt := 94) hC.1 hC.2.1 dX12_common_39 (by decide) (fun hc_3 => ?_) (fun hc_3 => ?_)
    · have hf := ite_t hf hc_3
      refine lv_iload hC.1 hC.2.1 dX12_common_94 (lv_at hl 3 rfl) ?_
      refine lv_istore_n (lv' := [(2, .int x4), (0, .ref (aM 0)), (3, .int x3), (4, .int x4), (5, .int x5)]) hC.1 hC.2.1 dX12_common_96 rfl hl (by decide) rfl (fun ls hl => ?_)
      obtain ⟨x3_4, ex3_4⟩ : ∃ y : Int32, y = x3 + 1 := ⟨_, rfl⟩
      have hf := lt_nm hf ex3_4
      refine lv_iinc (v := x3_4) (lv' := [(3, .int x3_4), (2, .int x4), (0, .ref (aM 0)), (4, .int x4), (5, .int x5)]) hC.1 hC.2.1 dX12_common_97 hl (k := 2) rfl (by rw [ex3_4]; rfl) (by decide) rfl (fun ls hl => ?_)
      refine lv_goto (tgt := 21) hC.1 hC.2.1 dX12_common_100 (by decide) ?_
      exact hk21 _ _ _ _ _ _ _ hf hW (lv_sub hl [2, 1, 0] rfl)
    · have hf := ite_f hf hc_3
      refine lv_iconst (v := 0) hC.1 hC.2.1 dX12_common_42 (by decide) ?_
      refine lv_istore (lv' := [(6, .int 0), (0, .ref (aM 0)), (2, .int x2), (3, .int x3), (4, .int x4), (5, .int x5)]) hC.1 hC.2.1 dX12_common_43 hl (by decide) rfl (fun ls hl => ?_)
      exact t12_common_45 hC hk21 ih _ _ _ _ _ _ _ _ _ _ _ hf hW (lv_sub hl [1, 2, 3, 4, 5, 0] rfl)
set_option maxRecDepth 100000 in
set_option maxHeartbeats 4000000 in
theorem t12_common_21 (hC : Cx p s m args meth c cX12_common 7 wsX12_common RX12 (some .int)) : ∀ n : Nat, ∀ (x2 : Int32) (x3 : Int32) (SM : Ob) (res : Int32 × Ob) (H : Heap) (locs : List Loc) (ls : Array Slot), f12_common_21 n x2 x3 SM = some res → GW D cy ad (w12 cy aM SM) A s H locs → lv_has ls 7 [(0, .ref (aM 0)), (2, .int x2), (3, .int x3)] → W p l e rm12_common s m args below meth c H locs 0 0 (MQ below (QI D cy (w12 cy aM (res.2)) A (res.1)) args s 0 0 A) (F0 m 21 ls []) := by
  intro n
  induction n with
  | zero =>
    intro _ _ _ _ _ _ _ hf _ _
    exact nomatch (show (none : Option (Int32 × Ob)) = some _ from hf)
  | succ n ih =>
    intro x2 x3 SM res H locs ls hf hW hl
    rw [f12_common_21] at hf
    refine lv_iload_n hC.1 hC.2.1 dX12_common_21 rfl (lv_at hl 2 rfl) ?_
    refine lv_bipush (v := 32) hC.1 hC.2.1 dX12_common_22 (by decide) ?_
    refine lv_icmp_ge (tgt := 103) hC.1 hC.2.1 dX12_common_24 (by decide) (fun hc_1 => ?_) (fun hc_1 => ?_)
    · have hf := ite_t hf hc_1
      refine lv_aload_n hC.1 hC.2.1 dX12_common_103 rfl (lv_at hl 0 rfl) ?_
      refine lv_iload_n hC.1 hC.2.1 dX12_common_104 rfl (lv_at hl 1 rfl) ?_
      obtain ⟨r_2, hg_3, hf⟩ := bd_of hf
      refine g_calliV hC hW (c12_whoIn l D cy ad aM hg_3) (cwV 1 hC.2.2.2.2.1 gX12_common_X12_whoIn rfl rfl rfl hdV12_whoIn ⟨Nat.le_of_ble_eq_true rfl, Nat.le_of_ble_eq_true rfl⟩) (Sub.all _ _) 0 11 rfl rfl rfl rfl hl.1 rfl (Nat.le_of_ble_eq_true rfl) dX12_common_105 ⟨Nat.zero_le _, Nat.zero_le _⟩ (fun H locs hW => ?_)
      obtain rfl := Option.some.inj hf
      exact g_iret hC hW dX12_common_108
    · have hf := ite_f hf hc_1
      refine lv_iload_n hC.1 hC.2.1 dX12_common_27 rfl (lv_at hl 1 rfl) ?_
      refine lv_istore (lv' := [(4, .int x2), (0, .ref (aM 0)), (2, .int x2), (3, .int x3)]) hC.1 hC.2.1 dX12_common_28 hl (by decide) rfl (fun ls hl => ?_)
      refine lv_iconst (v := 0) hC.1 hC.2.1 dX12_common_30 (by decide) ?_
      refine lv_istore (lv' := [(5, .int 0), (4, .int x2), (0, .ref (aM 0)), (2, .int x2), (3, .int x3)]) hC.1 hC.2.1 dX12_common_31 hl (by decide) rfl (fun ls hl => ?_)
      exact t12_common_33 hC ih _ _ _ _ _ _ _ _ _ _ hf hW (lv_sub hl [2, 3, 4, 1, 0] rfl)
set_option maxRecDepth 100000 in
set_option maxHeartbeats 4000000 in
theorem t12_common_0 (hC : Cx p s m args meth c cX12_common 7 wsX12_common RX12 (some .int)) : ∀ (x1 : Int32) (SM : Ob) (res : Int32 × Ob) (H : Heap) (locs : List Loc) (ls : Array Slot), f12_common x1 SM = some res → GW D cy ad (w12 cy aM SM) A s H locs → lv_has ls 7 [(0, .ref (aM 0)), (1, .int x1)] → W p l e rm12_common s m args below meth c H locs 0 0 (MQ below (QI D cy (w12 cy aM (res.2)) A (res.1)) args s 0 0 A) (F0 m 0 ls []) := by
  intro x1 SM res H locs ls hf hW hl
  unfold f12_common at hf
  refine lv_aload_n hC.1 hC.2.1 dX12_common_0 rfl (lv_at hl 0 rfl) ?_
  refine lv_iconst (v := 0) hC.1 hC.2.1 dX12_common_1 (by decide) ?_
  obtain ⟨SM_1, eSM_1⟩ : ∃ y : Ob, y = oI SM 0 0 := ⟨_, rfl⟩
  have hf := lt_nm hf eSM_1
  refine g_put hC hW hin12_common_12 tyX12 tyX12_ok nmX12 0 rfl rfl 0 (by decide) 1 rfl rfl rfl rfl (Nat.le_of_ble_eq_true rfl) (w' := w12 cy aM SM_1) (by rw [eSM_1]; rfl) dX12_common_2 (fun H locs hW => ?_)
  refine lv_aload_n hC.1 hC.2.1 dX12_common_5 rfl (lv_at hl 0 rfl) ?_
  refine lv_iload_n hC.1 hC.2.1 dX12_common_6 rfl (lv_at hl 1 rfl) ?_
  obtain ⟨r_2, hg_3, hf⟩ := bd_of hf
  refine g_calliV hC hW (c12_isLeft l D cy ad aM hg_3) (cwV 1 hC.2.2.2.2.1 gX12_common_X12_isLeft rfl rfl rfl hdV12_isLeft ⟨Nat.le_of_ble_eq_true rfl, Nat.le_of_ble_eq_true rfl⟩) (Sub.all _ _) 0 11 rfl rfl rfl rfl hl.1 rfl (Nat.le_of_ble_eq_true rfl) dX12_common_7 ⟨Nat.zero_le _, Nat.zero_le _⟩ (fun H locs hW => ?_)
  refine lv_if_ne (tgt := 15) hC.1 hC.2.1 dX12_common_10 (by decide) (fun hc_4 => ?_) (fun hc_4 => ?_)
  · have hf := ite_f hf hc_4
    refine lv_iconst (v := 1) hC.1 hC.2.1 dX12_common_15 (by decide) ?_
    refine lv_iload_n hC.1 hC.2.1 dX12_common_16 rfl (lv_at hl 1 rfl) ?_
    refine lv_ishl hC.1 hC.2.1 dX12_common_17 ?_
    refine lv_topi (fun x2_5 ex2_5 => ?_)
    have hf := lt_nm hf ex2_5
    refine lv_istore_n (lv' := [(2, .int x2_5), (0, .ref (aM 0)), (1, .int x1)]) hC.1 hC.2.1 dX12_common_18 rfl hl (by decide) rfl (fun ls hl => ?_)
    refine lv_iconst (v := 0) hC.1 hC.2.1 dX12_common_19 (by decide) ?_
    refine lv_istore_n (lv' := [(3, .int 0), (2, .int x2_5), (0, .ref (aM 0)), (1, .int x1)]) hC.1 hC.2.1 dX12_common_20 rfl hl (by decide) rfl (fun ls hl => ?_)
    exact t12_common_21 hC _ _ _ _ _ _ _ _ hf hW (lv_sub hl [2, 1, 0] rfl)
  · have hf := ite_t hf hc_4
    refine lv_iconst (v := (-1)) hC.1 hC.2.1 dX12_common_13 (by decide) ?_
    obtain rfl := Option.some.inj hf
    exact g_iret hC hW dX12_common_14
set_option maxRecDepth 100000 in
set_option maxHeartbeats 4000000 in
theorem c12_common (l : Launch) (D : va_G) (cy : Nat → ClassId) (ad : Nat → Nat) (aM : Nat → Nat) {x1 : Int32} {SM : Ob} {res : Int32 × Ob} (h : f12_common x1 SM = some res) : GCi l yX12_common wsX12_common rm12_common [.ref (aM 0), .int x1] D cy ad (w12 cy aM SM) (w12 cy aM (res.2)) (res.1) := fun sz => GC.start (own := RX12) (Qc := fun A => QI D cy (w12 cy aM (res.2)) A (res.1)) sz (by decide) rfl rfl (Nat.le_of_ble_eq_true rfl) (fun p e s m below meth c A ls hC hW hl => t12_common_0 hC _ _ _ _ _ _ h hW (lv_sub hl [0, 1] rfl))
abbrev rm12_hear : Room := { frames := 1, cells := 0, slots := 0, locals := 22 }
theorem hdV12_hear : yX12_hear.cls = RX12 ∧ (yX12_hear.cls ≠ "java/lang/invoke/MethodHandle" ∧ yX12_hear.cls ≠ "java/lang/invoke/VarHandle" ∧ (parseMethodDescriptor yX12_hear.desc).map (fun d => d.parameters.length) = some 2) := by decide +kernel
theorem hin12_hear_12 : ∀ x ∈ u_ws RX12 TX12 39, x ∈ wsX12_hear := fun _ h => List.mem_cons_of_mem _ (List.mem_append_right _ h)
set_option maxRecDepth 100000 in
set_option maxHeartbeats 4000000 in
theorem t12_hear_31 (hC : Cx p s m args meth c cX12_hear 3 wsX12_hear RX12 (some .boolean)) : ∀ (SM : Ob) (res : Int32 × Ob) (H : Heap) (locs : List Loc) (ls : Array Slot), f12_hear_31 SM = some res → GW D cy ad (w12 cy aM SM) A s H locs → lv_has ls 3 [] → W p l e rm12_hear s m args below meth c H locs 0 0 (MQ below (QI D cy (w12 cy aM (res.2)) A (res.1)) args s 0 0 A) (F0 m 31 ls []) := by
  intro SM res H locs ls hf hW hl
  unfold f12_hear_31 at hf
  refine lv_iconst (v := 0) hC.1 hC.2.1 dX12_hear_31 (by decide) ?_
  obtain rfl := Option.some.inj hf
  exact g_zret (v := 0) hC hW (by decide) dX12_hear_32
set_option maxRecDepth 100000 in
set_option maxHeartbeats 4000000 in
theorem t12_hear_78 (hC : Cx p s m args meth c cX12_hear 3 wsX12_hear RX12 (some .boolean)) : ∀ (z1 : Int32) (z2 : Int32) (SM : Ob) (res : Int32 × Ob) (H : Heap) (locs : List Loc) (ls : Array Slot), f12_hear_78 z1 z2 SM = some res → GW D cy ad (w12 cy aM SM) A s H locs → lv_has ls 3 [(0, .ref (aM 0))] → W p l e rm12_hear s m args below meth c H locs 0 0 (MQ below (QI D cy (w12 cy aM (res.2)) A (res.1)) args s 0 0 A) (F0 m 78 ls [.int z2, .int z1, .ref (aM 26)]) := by
  intro z1 z2 SM res H locs ls hf hW hl
  unfold f12_hear_78 at hf
  obtain ⟨hi_1, hf⟩ := ck_of hf
  obtain ⟨SM_2, eSM_2⟩ : ∃ y : Ob, y = oA SM 25 (Int32.toNatClampNeg z1) z2 := ⟨_, rfl⟩
  have hf := lt_nm hf eSM_2
  refine g_iast hC hW 16 rfl hi_1 (w' := w12 cy aM SM_2) (by rw [eSM_2]; rfl) dX12_hear_78 (fun H locs hW => ?_)
  refine lv_aload_n hC.1 hC.2.1 dX12_hear_79 rfl (lv_at hl 0 rfl) ?_
  refine g_get hC hW hin12_hear_12 0 rfl rfl 25 (by decide) 2 rfl rfl dX12_hear_80 ?_
  refine lv_bipush (v := 12) hC.1 hC.2.1 dX12_hear_83 (by decide) ?_
  refine lv_dup2_11 hC.1 hC.2.1 dX12_hear_85 rfl rfl ?_
  obtain ⟨hi_3, hf⟩ := ck_of hf
  refine g_iald hC hW 16 rfl hi_3 dX12_hear_86 ?_
  refine lv_iconst (v := 1) hC.1 hC.2.1 dX12_hear_87 (by decide) ?_
  refine lv_iadd hC.1 hC.2.1 dX12_hear_88 ?_
  obtain ⟨hi_4, hf⟩ := ck_of hf
  obtain ⟨SM_5, eSM_5⟩ : ∃ y : Ob, y = oA SM_2 25 (Int32.toNatClampNeg 12) ((SM_2.2.2.1 25 (Int32.toNatClampNeg 12)) + 1) := ⟨_, rfl⟩
  have hf := lt_nm hf eSM_5
  refine g_iast hC hW 16 rfl hi_4 (w' := w12 cy aM SM_5) (by rw [eSM_5]; rfl) dX12_hear_89 (fun H locs hW => ?_)
  refine lv_iconst (v := 1) hC.1 hC.2.1 dX12_hear_90 (by decide) ?_
  obtain rfl := Option.some.inj hf
  exact g_zret (v := 1) hC hW (by decide) dX12_hear_91
set_option maxRecDepth 100000 in
set_option maxHeartbeats 4000000 in
theorem t12_hear_0 (hC : Cx p s m args meth c cX12_hear 3 wsX12_hear RX12 (some .boolean)) : ∀ (x1 : Int32) (x2 : Int32) (SM : Ob) (res : Int32 × Ob) (H : Heap) (locs : List Loc) (ls : Array Slot), f12_hear x1 x2 SM = some res → GW D cy ad (w12 cy aM SM) A s H locs → lv_has ls 3 [(0, .ref (aM 0)), (1, .int x1), (2, .int x2)] → W p l e rm12_hear s m args below meth c H locs 0 0 (MQ below (QI D cy (w12 cy aM (res.2)) A (res.1)) args s 0 0 A) (F0 m 0 ls []) := by
  intro x1 x2 SM res H locs ls hf hW hl
  unfold f12_hear at hf
  refine lv_aload_n hC.1 hC.2.1 dX12_hear_0 rfl (lv_at hl 0 rfl) ?_
  refine lv_iconst (v := 0) hC.1 hC.2.1 dX12_hear_1 (by decide) ?_
  obtain ⟨SM_1, eSM_1⟩ : ∃ y : Ob, y = oI SM 0 0 := ⟨_, rfl⟩
  have hf := lt_nm hf eSM_1
  refine g_put hC hW hin12_hear_12 tyX12 tyX12_ok nmX12 0 rfl rfl 0 (by decide) 1 rfl rfl rfl rfl (Nat.le_of_ble_eq_true rfl) (w' := w12 cy aM SM_1) (by rw [eSM_1]; rfl) dX12_hear_2 (fun H locs hW => ?_)
  refine lv_iload_n hC.1 hC.2.1 dX12_hear_5 rfl (lv_at hl 1 rfl) ?_
  refine lv_iconst (v := 0) hC.1 hC.2.1 dX12_hear_6 (by decide) ?_
  refine lv_aload_n hC.1 hC.2.1 dX12_hear_7 rfl (lv_at hl 0 rfl) ?_
  obtain ⟨r_2, hg_3, hf⟩ := bd_of hf
  refine g_calliV hC hW (c12_signs l D cy ad aM hg_3) (cwV 0 hC.2.2.2.2.1 gX12_hear_X12_signs rfl rfl rfl hdV12_signs ⟨Nat.le_of_ble_eq_true rfl, Nat.le_of_ble_eq_true rfl⟩) (Sub.all _ _) 0 11 rfl rfl rfl rfl hl.1 rfl (Nat.le_of_ble_eq_true rfl) dX12_hear_8 ⟨Nat.zero_le _, Nat.zero_le _⟩ (fun H locs hW => ?_)
  refine lv_iconst (v := 1) hC.1 hC.2.1 dX12_hear_11 (by decide) ?_
  refine lv_isub hC.1 hC.2.1 dX12_hear_12 ?_
  obtain ⟨r_4, hg_5, hf⟩ := bd_of hf
  refine g_calliS hC hW (c12_within l D cy ad  hg_5) (va_cwS 3 hC.2.2.2.2.1 gX12_hear_X12_within rfl rfl rfl hdS12_within ⟨Nat.le_of_ble_eq_true rfl, Nat.le_of_ble_eq_true rfl⟩) (Sub.nil _) rfl hl.1 rfl (Nat.le_of_ble_eq_true rfl) dX12_hear_13 ⟨Nat.zero_le _, Nat.zero_le _⟩ (fun H locs hW => ?_)
  refine lv_if_eq (tgt := 31) hC.1 hC.2.1 dX12_hear_16 (by decide) (fun hc_6 => ?_) (fun hc_6 => ?_)
  · have hf := ite_t hf hc_6
    exact t12_hear_31 hC  _ _ _ _ _ hf hW (lv_sub hl [] rfl)
  · have hf := ite_f hf hc_6
    refine lv_aload_n hC.1 hC.2.1 dX12_hear_19 rfl (lv_at hl 0 rfl) ?_
    refine g_get hC hW hin12_hear_12 0 rfl rfl 25 (by decide) 2 rfl rfl dX12_hear_20 ?_
    refine lv_bipush (v := 12) hC.1 hC.2.1 dX12_hear_23 (by decide) ?_
    obtain ⟨hi_7, hf⟩ := ck_of hf
    refine g_iald hC hW 16 rfl hi_7 dX12_hear_25 ?_
    refine lv_bipush (v := 8) hC.1 hC.2.1 dX12_hear_26 (by decide) ?_
    refine lv_icmp_ne (tgt := 33) hC.1 hC.2.1 dX12_hear_28 (by decide) (fun hc_8 => ?_) (fun hc_8 => ?_)
    · have hf := ite_f hf hc_8
      refine lv_aload_n hC.1 hC.2.1 dX12_hear_33 rfl (lv_at hl 0 rfl) ?_
      refine g_get hC hW hin12_hear_12 0 rfl rfl 25 (by decide) 2 rfl rfl dX12_hear_34 ?_
      refine lv_bipush (v := 13) hC.1 hC.2.1 dX12_hear_37 (by decide) ?_
      refine lv_iconst (v := 2) hC.1 hC.2.1 dX12_hear_39 (by decide) ?_
      refine lv_aload_n hC.1 hC.2.1 dX12_hear_40 rfl (lv_at hl 0 rfl) ?_
      refine g_get hC hW hin12_hear_12 0 rfl rfl 25 (by decide) 2 rfl rfl dX12_hear_41 ?_
      refine lv_bipush (v := 12) hC.1 hC.2.1 dX12_hear_44 (by decide) ?_
      obtain ⟨hi_9, hf⟩ := ck_of hf
      refine g_iald hC hW 16 rfl hi_9 dX12_hear_46 ?_
      refine lv_imul hC.1 hC.2.1 dX12_hear_47 ?_
      refine lv_iadd hC.1 hC.2.1 dX12_hear_48 ?_
      refine lv_iload_n hC.1 hC.2.1 dX12_hear_49 rfl (lv_at hl 1 rfl) ?_
      obtain ⟨hi_10, hf⟩ := ck_of hf
      obtain ⟨SM_11, eSM_11⟩ : ∃ y : Ob, y = oA SM_1 25 (Int32.toNatClampNeg (13 + (2 * (SM_1.2.2.1 25 (Int32.toNatClampNeg 12))))) x1 := ⟨_, rfl⟩
      have hf := lt_nm hf eSM_11
      refine g_iast hC hW 16 rfl hi_10 (w' := w12 cy aM SM_11) (by rw [eSM_11]; rfl) dX12_hear_50 (fun H locs hW => ?_)
      refine lv_aload_n hC.1 hC.2.1 dX12_hear_51 rfl (lv_at hl 0 rfl) ?_
      refine g_get hC hW hin12_hear_12 0 rfl rfl 25 (by decide) 2 rfl rfl dX12_hear_52 ?_
      refine lv_bipush (v := 13) hC.1 hC.2.1 dX12_hear_55 (by decide) ?_
      refine lv_iconst (v := 2) hC.1 hC.2.1 dX12_hear_57 (by decide) ?_
      refine lv_aload_n hC.1 hC.2.1 dX12_hear_58 rfl (lv_at hl 0 rfl) ?_
      refine g_get hC hW hin12_hear_12 0 rfl rfl 25 (by decide) 2 rfl rfl dX12_hear_59 ?_
      refine lv_bipush (v := 12) hC.1 hC.2.1 dX12_hear_62 (by decide) ?_
      obtain ⟨hi_12, hf⟩ := ck_of hf
      refine g_iald hC hW 16 rfl hi_12 dX12_hear_64 ?_
      refine lv_imul hC.1 hC.2.1 dX12_hear_65 ?_
      refine lv_iadd hC.1 hC.2.1 dX12_hear_66 ?_
      refine lv_iconst (v := 1) hC.1 hC.2.1 dX12_hear_67 (by decide) ?_
      refine lv_iadd hC.1 hC.2.1 dX12_hear_68 ?_
      refine lv_iload_n hC.1 hC.2.1 dX12_hear_69 rfl (lv_at hl 2 rfl) ?_
      refine lv_if_eq (tgt := 77) hC.1 hC.2.1 dX12_hear_70 (by decide) (fun hc_13 => ?_) (fun hc_13 => ?_)
      · have hf := ite_t hf hc_13
        refine lv_iconst (v := 0) hC.1 hC.2.1 dX12_hear_77 (by decide) ?_
        exact t12_hear_78 hC  _ _ _ _ _ _ _ hf hW (lv_sub hl [0] rfl)
      · have hf := ite_f hf hc_13
        refine lv_iconst (v := 1) hC.1 hC.2.1 dX12_hear_73 (by decide) ?_
        refine lv_goto (tgt := 78) hC.1 hC.2.1 dX12_hear_74 (by decide) ?_
        exact t12_hear_78 hC  _ _ _ _ _ _ _ hf hW (lv_sub hl [0] rfl)
    · have hf := ite_t hf hc_8
      exact t12_hear_31 hC  _ _ _ _ _ hf hW (lv_sub hl [] rfl)
set_option maxRecDepth 100000 in
set_option maxHeartbeats 4000000 in
theorem c12_hear (l : Launch) (D : va_G) (cy : Nat → ClassId) (ad : Nat → Nat) (aM : Nat → Nat) {x1 : Int32} {x2 : Int32} {SM : Ob} {res : Int32 × Ob} (h : f12_hear x1 x2 SM = some res) : GCi l yX12_hear wsX12_hear rm12_hear [.ref (aM 0), .int x1, .int x2] D cy ad (w12 cy aM SM) (w12 cy aM (res.2)) (res.1) := fun sz => GC.start (own := RX12) (Qc := fun A => QI D cy (w12 cy aM (res.2)) A (res.1)) sz (by decide) rfl rfl (Nat.le_of_ble_eq_true rfl) (fun p e s m below meth c A ls hC hW hl => t12_hear_0 hC _ _ _ _ _ _ _ h hW (lv_sub hl [0, 1, 2] rfl))
abbrev rm12_errsOf : Room := { frames := 0, cells := 0, slots := 0, locals := 0 }
theorem hdV12_errsOf : yX12_errsOf.cls = RX12 ∧ (yX12_errsOf.cls ≠ "java/lang/invoke/MethodHandle" ∧ yX12_errsOf.cls ≠ "java/lang/invoke/VarHandle" ∧ (parseMethodDescriptor yX12_errsOf.desc).map (fun d => d.parameters.length) = some 1) := by decide +kernel
theorem hin12_errsOf_12 : ∀ x ∈ u_ws RX12 TX12 39, x ∈ wsX12_errsOf := fun _ h => List.mem_cons_of_mem _ (List.mem_append_right _ h)
set_option maxRecDepth 100000 in
set_option maxHeartbeats 4000000 in
theorem t12_errsOf_0 (hC : Cx p s m args meth c cX12_errsOf 2 wsX12_errsOf RX12 (some .int)) : ∀ (x1 : Int32) (SM : Ob) (res : Int32) (H : Heap) (locs : List Loc) (ls : Array Slot), f12_errsOf x1 SM = some res → GW D cy ad (w12 cy aM SM) A s H locs → lv_has ls 2 [(0, .ref (aM 0)), (1, .int x1)] → W p l e rm12_errsOf s m args below meth c H locs 0 0 (MQ below (QI D cy (w12 cy aM SM) A res) args s 0 0 A) (F0 m 0 ls []) := by
  intro x1 SM res H locs ls hf hW hl
  unfold f12_errsOf at hf
  refine lv_aload_n hC.1 hC.2.1 dX12_errsOf_0 rfl (lv_at hl 0 rfl) ?_
  refine g_get hC hW hin12_errsOf_12 0 rfl rfl 10 (by decide) 1 rfl rfl dX12_errsOf_1 ?_
  refine lv_bipush (v := 43) hC.1 hC.2.1 dX12_errsOf_4 (by decide) ?_
  refine lv_iconst (v := 2) hC.1 hC.2.1 dX12_errsOf_6 (by decide) ?_
  refine lv_iload_n hC.1 hC.2.1 dX12_errsOf_7 rfl (lv_at hl 1 rfl) ?_
  refine lv_imul hC.1 hC.2.1 dX12_errsOf_8 ?_
  refine lv_iadd hC.1 hC.2.1 dX12_errsOf_9 ?_
  obtain ⟨hi_1, hf⟩ := ck_of hf
  refine g_iald hC hW 6 rfl hi_1 dX12_errsOf_10 ?_
  obtain rfl := Option.some.inj hf
  exact g_iret hC hW dX12_errsOf_11
set_option maxRecDepth 100000 in
set_option maxHeartbeats 4000000 in
theorem c12_errsOf (l : Launch) (D : va_G) (cy : Nat → ClassId) (ad : Nat → Nat) (aM : Nat → Nat) {x1 : Int32} {SM : Ob} {res : Int32} (h : f12_errsOf x1 SM = some res) : GCi l yX12_errsOf wsX12_errsOf rm12_errsOf [.ref (aM 0), .int x1] D cy ad (w12 cy aM SM) (w12 cy aM SM) res := fun sz => GC.start (own := RX12) (Qc := fun A => QI D cy (w12 cy aM SM) A res) sz (by decide) rfl rfl (Nat.le_of_ble_eq_true rfl) (fun p e s m below meth c A ls hC hW hl => t12_errsOf_0 hC _ _ _ _ _ _ h hW (lv_sub hl [0, 1] rfl))
abbrev rm12_oddsIn : Room := { frames := 1, cells := 0, slots := 0, locals := 22 }
theorem hdV12_oddsIn : yX12_oddsIn.cls = RX12 ∧ (yX12_oddsIn.cls ≠ "java/lang/invoke/MethodHandle" ∧ yX12_oddsIn.cls ≠ "java/lang/invoke/VarHandle" ∧ (parseMethodDescriptor yX12_oddsIn.desc).map (fun d => d.parameters.length) = some 1) := by decide +kernel
theorem hin12_oddsIn_12 : ∀ x ∈ u_ws RX12 TX12 39, x ∈ wsX12_oddsIn := fun _ h => List.mem_cons_of_mem _ (List.mem_append_right _ h)
set_option maxRecDepth 100000 in
set_option maxHeartbeats 4000000 in
theorem t12_oddsIn_107 (hC : Cx p s m args meth c cX12_oddsIn 7 wsX12_oddsIn RX12 (some .long)) {k13 : Int32 → Int64 → Int32 → Ob → Option (Int64)} (hk13 : ∀ (x1 : Int32) (x2 : Int64) (x4 : Int32) (SM : Ob) (res : Int64) (H : Heap) (locs : List Loc) (ls : Array Slot), k13 x1 x2 x4 SM = some res → GW D cy ad (w12 cy aM SM) A s H locs → lv_has ls 7 [(0, .ref (aM 0)), (1, .int x1), (2, .long x2), (4, .int x4)] → W p l e rm12_oddsIn s m args below meth c H locs 0 0 (MQ below (QL D cy (w12 cy aM SM) A res) args s 0 0 A) (F0 m 13 ls [])) : ∀ (x1 : Int32) (x4 : Int32) (z0 : Int64) (z1 : Int32) (SM : Ob) (res : Int64) (H : Heap) (locs : List Loc) (ls : Array Slot), f12_oddsIn_107 k13 x1 x4 z0 z1 SM = some res → GW D cy ad (w12 cy aM SM) A s H locs → lv_has ls 7 [(0, .ref (aM 0)), (1, .int x1), (4, .int x4)] → W p l e rm12_oddsIn s m args below meth c H locs 0 0 (MQ below (QL D cy (w12 cy aM SM) A res) args s 0 0 A) (F0 m 107 ls [.int z1, .long z0]) := by
  intro x1 x4 z0 z1 SM res H locs ls hf hW hl
  unfold f12_oddsIn_107 at hf
  refine lv_i2l (v := Int32.toInt64 z1) hC.1 hC.2.1 dX12_oddsIn_107 rfl ?_
  refine lv_lmul hC.1 hC.2.1 dX12_oddsIn_108 ?_
  refine lv_topl (fun x2_1 ex2_1 => ?_)
  have hf := lt_nm hf ex2_1
  refine lv_lstore_n (lv' := [(2, .long x2_1), (0, .ref (aM 0)), (1, .int x1), (4, .int x4)]) hC.1 hC.2.1 dX12_oddsIn_109 rfl hl (by decide) rfl (fun ls hl => ?_)
  obtain ⟨x4_2, ex4_2⟩ : ∃ y : Int32, y = x4 + 1 := ⟨_, rfl⟩
  have hf := lt_nm hf ex4_2
  refine lv_iinc (v := x4_2) (lv' := [(4, .int x4_2), (2, .long x2_1), (0, .ref (aM 0)), (1, .int x1)]) hC.1 hC.2.1 dX12_oddsIn_110 hl (k := 3) rfl (by rw [ex4_2]; rfl) (by decide) rfl (fun ls hl => ?_)
  refine lv_goto (tgt := 13) hC.1 hC.2.1 dX12_oddsIn_113 (by decide) ?_
  exact hk13 _ _ _ _ _ _ _ _ hf hW (lv_sub hl [2, 3, 1, 0] rfl)
set_option maxRecDepth 100000 in
set_option maxHeartbeats 4000000 in
theorem t12_oddsIn_81 (hC : Cx p s m args meth c cX12_oddsIn 7 wsX12_oddsIn RX12 (some .long)) {k13 : Int32 → Int64 → Int32 → Ob → Option (Int64)} (hk13 : ∀ (x1 : Int32) (x2 : Int64) (x4 : Int32) (SM : Ob) (res : Int64) (H : Heap) (locs : List Loc) (ls : Array Slot), k13 x1 x2 x4 SM = some res → GW D cy ad (w12 cy aM SM) A s H locs → lv_has ls 7 [(0, .ref (aM 0)), (1, .int x1), (2, .long x2), (4, .int x4)] → W p l e rm12_oddsIn s m args below meth c H locs 0 0 (MQ below (QL D cy (w12 cy aM SM) A res) args s 0 0 A) (F0 m 13 ls [])) : ∀ (x1 : Int32) (x2 : Int64) (x4 : Int32) (x5 : Int32) (z0 : Int32) (SM : Ob) (res : Int64) (H : Heap) (locs : List Loc) (ls : Array Slot), f12_oddsIn_81 k13 x1 x2 x4 x5 z0 SM = some res → GW D cy ad (w12 cy aM SM) A s H locs → lv_has ls 7 [(0, .ref (aM 0)), (1, .int x1), (2, .long x2), (4, .int x4), (5, .int x5)] → W p l e rm12_oddsIn s m args below meth c H locs 0 0 (MQ below (QL D cy (w12 cy aM SM) A res) args s 0 0 A) (F0 m 81 ls [.int z0]) := by
  intro x1 x2 x4 x5 z0 SM res H locs ls hf hW hl
  unfold f12_oddsIn_81 at hf
  refine lv_istore (lv' := [(6, .int z0), (0, .ref (aM 0)), (1, .int x1), (2, .long x2), (4, .int x4), (5, .int x5)]) hC.1 hC.2.1 dX12_oddsIn_81 hl (by decide) rfl (fun ls hl => ?_)
  refine lv_lload_n hC.1 hC.2.1 dX12_oddsIn_83 rfl (lv_at hl 3 rfl) ?_
  refine lv_iload hC.1 hC.2.1 dX12_oddsIn_84 (lv_at hl 0 rfl) ?_
  refine lv_if_eq (tgt := 101) hC.1 hC.2.1 dX12_oddsIn_86 (by decide) (fun hc_1 => ?_) (fun hc_1 => ?_)
  · have hf := ite_t hf hc_1
    refine lv_aload_n hC.1 hC.2.1 dX12_oddsIn_101 rfl (lv_at hl 1 rfl) ?_
    refine lv_iload hC.1 hC.2.1 dX12_oddsIn_102 (lv_at hl 5 rfl) ?_
    obtain ⟨r_2, hg_3, hf⟩ := bd_of hf
    refine g_calliV hC hW (c12_errsOf l D cy ad aM hg_3) (cwV 1 hC.2.2.2.2.1 gX12_oddsIn_X12_errsOf rfl rfl rfl hdV12_errsOf ⟨Nat.le_of_ble_eq_true rfl, Nat.le_of_ble_eq_true rfl⟩) (Sub.all _ _) 0 11 rfl rfl rfl rfl hl.1 rfl (Nat.le_of_ble_eq_true rfl) dX12_oddsIn_104 ⟨Nat.zero_le _, Nat.zero_le _⟩ (fun H locs hW => ?_)
    exact t12_oddsIn_107 hC hk13  _ _ _ _ _ _ _ _ _ hf hW (lv_sub hl [1, 2, 4] rfl)
  · have hf := ite_f hf hc_1
    refine lv_bipush (v := 10) hC.1 hC.2.1 dX12_oddsIn_89 (by decide) ?_
    refine lv_aload_n hC.1 hC.2.1 dX12_oddsIn_91 rfl (lv_at hl 1 rfl) ?_
    refine lv_iload hC.1 hC.2.1 dX12_oddsIn_92 (lv_at hl 5 rfl) ?_
    obtain ⟨r_4, hg_5, hf⟩ := bd_of hf
    refine g_calliV hC hW (c12_errsOf l D cy ad aM hg_5) (cwV 1 hC.2.2.2.2.1 gX12_oddsIn_X12_errsOf rfl rfl rfl hdV12_errsOf ⟨Nat.le_of_ble_eq_true rfl, Nat.le_of_ble_eq_true rfl⟩) (Sub.all _ _) 0 11 rfl rfl rfl rfl hl.1 rfl (Nat.le_of_ble_eq_true rfl) dX12_oddsIn_94 ⟨Nat.zero_le _, Nat.zero_le _⟩ (fun H locs hW => ?_)
    refine lv_isub hC.1 hC.2.1 dX12_oddsIn_97 ?_
    refine lv_goto (tgt := 107) hC.1 hC.2.1 dX12_oddsIn_98 (by decide) ?_
    exact t12_oddsIn_107 hC hk13  _ _ _ _ _ _ _ _ _ hf hW (lv_sub hl [1, 2, 4] rfl)
set_option maxRecDepth 100000 in
set_option maxHeartbeats 4000000 in
theorem t12_oddsIn_73 (hC : Cx p s m args meth c cX12_oddsIn 7 wsX12_oddsIn RX12 (some .long)) {k13 : Int32 → Int64 → Int32 → Ob → Option (Int64)} (hk13 : ∀ (x1 : Int32) (x2 : Int64) (x4 : Int32) (SM : Ob) (res : Int64) (H : Heap) (locs : List Loc) (ls : Array Slot), k13 x1 x2 x4 SM = some res → GW D cy ad (w12 cy aM SM) A s H locs → lv_has ls 7 [(0, .ref (aM 0)), (1, .int x1), (2, .long x2), (4, .int x4)] → W p l e rm12_oddsIn s m args below meth c H locs 0 0 (MQ below (QL D cy (w12 cy aM SM) A res) args s 0 0 A) (F0 m 13 ls [])) : ∀ (x1 : Int32) (x2 : Int64) (x4 : Int32) (x5 : Int32) (z0 : Int32) (z1 : Int32) (SM : Ob) (res : Int64) (H : Heap) (locs : List Loc) (ls : Array Slot), f12_oddsIn_73 k13 x1 x2 x4 x5 z0 z1 SM = some res → GW D cy ad (w12 cy aM SM) A s H locs → lv_has ls 7 [(0, .ref (aM 0)), (1, .int x1), (2, .long x2), (4, .int x4), (5, .int x5)] → W p l e rm12_oddsIn s m args below meth c H locs 0 0 (MQ below (QL D cy (w12 cy aM SM) A res) args s 0 0 A) (F0 m 73 ls [.int z1, .int z0]) := by
  intro x1 x2 x4 x5 z0 z1 SM res H locs ls hf hW hl
  unfold f12_oddsIn_73 at hf
  refine lv_icmp_ne (tgt := 80) hC.1 hC.2.1 dX12_oddsIn_73 (by decide) (fun hc_1 => ?_) (fun hc_1 => ?_)
  · have hf := ite_f hf hc_1
    refine lv_iconst (v := 0) hC.1 hC.2.1 dX12_oddsIn_80 (by decide) ?_
    exact t12_oddsIn_81 hC hk13  _ _ _ _ _ _ _ _ _ _ hf hW (lv_sub hl [0, 1, 2, 3, 4] rfl)
  · have hf := ite_t hf hc_1
    refine lv_iconst (v := 1) hC.1 hC.2.1 dX12_oddsIn_76 (by decide) ?_
    refine lv_goto (tgt := 81) hC.1 hC.2.1 dX12_oddsIn_77 (by decide) ?_
    exact t12_oddsIn_81 hC hk13  _ _ _ _ _ _ _ _ _ _ hf hW (lv_sub hl [0, 1, 2, 3, 4] rfl)
set_option maxRecDepth 100000 in
set_option maxHeartbeats 4000000 in
theorem t12_oddsIn_13 (hC : Cx p s m args meth c cX12_oddsIn 7 wsX12_oddsIn RX12 (some .long)) : ∀ n : Nat, ∀ (x1 : Int32) (x2 : Int64) (x4 : Int32) (SM : Ob) (res : Int64) (H : Heap) (locs : List Loc) (ls : Array Slot), f12_oddsIn_13 n x1 x2 x4 SM = some res → GW D cy ad (w12 cy aM SM) A s H locs → lv_has ls 7 [(0, .ref (aM 0)), (1, .int x1), (2, .long x2), (4, .int x4)] → W p l e rm12_oddsIn s m args below meth c H locs 0 0 (MQ below (QL D cy (w12 cy aM SM) A res) args s 0 0 A) (F0 m 13 ls []) := by
  intro n
  induction n with
  | zero =>
    intro _ _ _ _ _ _ _ _ hf _ _
    exact nomatch (show (none : Option (Int64)) = some _ from hf)
  | succ n ih =>
    intro x1 x2 x4 SM res H locs ls hf hW hl
    rw [f12_oddsIn_13] at hf
    refine lv_iload hC.1 hC.2.1 dX12_oddsIn_13 (lv_at hl 3 rfl) ?_
    refine lv_aload_n hC.1 hC.2.1 dX12_oddsIn_15 rfl (lv_at hl 0 rfl) ?_
    refine g_get hC hW hin12_oddsIn_12 0 rfl rfl 25 (by decide) 1 rfl rfl dX12_oddsIn_16 ?_
    refine lv_bipush (v := 12) hC.1 hC.2.1 dX12_oddsIn_19 (by decide) ?_
    obtain ⟨hi_1, hf⟩ := ck_of hf
    refine g_iald hC hW 16 rfl hi_1 dX12_oddsIn_21 ?_
    refine lv_icmp_ge (tgt := 116) hC.1 hC.2.1 dX12_oddsIn_22 (by decide) (fun hc_2 => ?_) (fun hc_2 => ?_)
    · have hf := ite_t hf hc_2
      refine lv_lload_n hC.1 hC.2.1 dX12_oddsIn_116 rfl (lv_at hl 2 rfl) ?_
      obtain rfl := Option.some.inj hf
      exact g_lret hC hW dX12_oddsIn_117
    · have hf := ite_f hf hc_2
      refine lv_aload_n hC.1 hC.2.1 dX12_oddsIn_25 rfl (lv_at hl 0 rfl) ?_
      refine g_get hC hW hin12_oddsIn_12 0 rfl rfl 25 (by decide) 1 rfl rfl dX12_oddsIn_26 ?_
      refine lv_bipush (v := 13) hC.1 hC.2.1 dX12_oddsIn_29 (by decide) ?_
      refine lv_iconst (v := 2) hC.1 hC.2.1 dX12_oddsIn_31 (by decide) ?_
      refine lv_iload hC.1 hC.2.1 dX12_oddsIn_32 (lv_at hl 3 rfl) ?_
      refine lv_imul hC.1 hC.2.1 dX12_oddsIn_34 ?_
      refine lv_iadd hC.1 hC.2.1 dX12_oddsIn_35 ?_
      obtain ⟨hi_3, hf⟩ := ck_of hf
      refine g_iald hC hW 16 rfl hi_3 dX12_oddsIn_36 ?_
      refine lv_topi (fun x5_4 ex5_4 => ?_)
      have hf := lt_nm hf ex5_4
      refine lv_istore (lv' := [(5, .int x5_4), (0, .ref (aM 0)), (1, .int x1), (2, .long x2), (4, .int x4)]) hC.1 hC.2.1 dX12_oddsIn_37 hl (by decide) rfl (fun ls hl => ?_)
      refine lv_aload_n hC.1 hC.2.1 dX12_oddsIn_39 rfl (lv_at hl 1 rfl) ?_
      refine g_get hC hW hin12_oddsIn_12 0 rfl rfl 28 (by decide) 2 rfl rfl dX12_oddsIn_40 ?_
      refine lv_iload hC.1 hC.2.1 dX12_oddsIn_43 (lv_at hl 0 rfl) ?_
      obtain ⟨hi_5, hf⟩ := ck_of hf
      refine g_iald hC hW 18 rfl hi_5 dX12_oddsIn_45 ?_
      refine lv_iload_n hC.1 hC.2.1 dX12_oddsIn_46 rfl (lv_at hl 2 rfl) ?_
      obtain ⟨r_6, hg_7, hf⟩ := bd_of hf
      refine g_calliS hC hW (c12_isIn l D cy ad  hg_7) (va_cwS 2 hC.2.2.2.2.1 gX12_oddsIn_X12_isIn rfl rfl rfl hdS12_isIn ⟨Nat.le_of_ble_eq_true rfl, Nat.le_of_ble_eq_true rfl⟩) (Sub.nil _) rfl hl.1 rfl (Nat.le_of_ble_eq_true rfl) dX12_oddsIn_47 ⟨Nat.zero_le _, Nat.zero_le _⟩ (fun H locs hW => ?_)
      refine lv_aload_n hC.1 hC.2.1 dX12_oddsIn_50 rfl (lv_at hl 1 rfl) ?_
      refine g_get hC hW hin12_oddsIn_12 0 rfl rfl 25 (by decide) 1 rfl rfl dX12_oddsIn_51 ?_
      refine lv_bipush (v := 13) hC.1 hC.2.1 dX12_oddsIn_54 (by decide) ?_
      refine lv_iconst (v := 2) hC.1 hC.2.1 dX12_oddsIn_56 (by decide) ?_
      refine lv_iload hC.1 hC.2.1 dX12_oddsIn_57 (lv_at hl 4 rfl) ?_
      refine lv_imul hC.1 hC.2.1 dX12_oddsIn_59 ?_
      refine lv_iadd hC.1 hC.2.1 dX12_oddsIn_60 ?_
      refine lv_iconst (v := 1) hC.1 hC.2.1 dX12_oddsIn_61 (by decide) ?_
      refine lv_iadd hC.1 hC.2.1 dX12_oddsIn_62 ?_
      obtain ⟨hi_8, hf⟩ := ck_of hf
      refine g_iald hC hW 16 rfl hi_8 dX12_oddsIn_63 ?_
      refine lv_iconst (v := 1) hC.1 hC.2.1 dX12_oddsIn_64 (by decide) ?_
      refine lv_icmp_ne (tgt := 72) hC.1 hC.2.1 dX12_oddsIn_65 (by decide) (fun hc_9 => ?_) (fun hc_9 => ?_)
      · have hf := ite_f hf hc_9
        refine lv_iconst (v := 0) hC.1 hC.2.1 dX12_oddsIn_72 (by decide) ?_
        exact t12_oddsIn_73 hC ih  _ _ _ _ _ _ _ _ _ _ _ hf hW (lv_sub hl [1, 2, 3, 4, 0] rfl)
      · have hf := ite_t hf hc_9
        refine lv_iconst (v := 1) hC.1 hC.2.1 dX12_oddsIn_68 (by decide) ?_
        refine lv_goto (tgt := 73) hC.1 hC.2.1 dX12_oddsIn_69 (by decide) ?_
        exact t12_oddsIn_73 hC ih  _ _ _ _ _ _ _ _ _ _ _ hf hW (lv_sub hl [1, 2, 3, 4, 0] rfl)
set_option maxRecDepth 100000 in
set_option maxHeartbeats 4000000 in
theorem t12_oddsIn_0 (hC : Cx p s m args meth c cX12_oddsIn 7 wsX12_oddsIn RX12 (some .long)) : ∀ (x1 : Int32) (SM : Ob) (res : Int64) (H : Heap) (locs : List Loc) (ls : Array Slot), f12_oddsIn x1 SM = some res → GW D cy ad (w12 cy aM SM) A s H locs → lv_has ls 7 [(0, .ref (aM 0)), (1, .int x1)] → W p l e rm12_oddsIn s m args below meth c H locs 0 0 (MQ below (QL D cy (w12 cy aM SM) A res) args s 0 0 A) (F0 m 0 ls []) := by
  intro x1 SM res H locs ls hf hW hl
  unfold f12_oddsIn at hf
  refine lv_aload_n hC.1 hC.2.1 dX12_oddsIn_0 rfl (lv_at hl 0 rfl) ?_
  refine lv_iload_n hC.1 hC.2.1 dX12_oddsIn_1 rfl (lv_at hl 1 rfl) ?_
  refine lv_iconst (v := 4) hC.1 hC.2.1 dX12_oddsIn_2 (by decide) ?_
  obtain ⟨hz_1, hf⟩ := ck_of hf
  refine lv_idiv hC.1 hC.2.1 dX12_oddsIn_3 (nz_of hz_1) ?_
  refine lv_iconst (v := 2) hC.1 hC.2.1 dX12_oddsIn_4 (by decide) ?_
  obtain ⟨r_2, hg_3, hf⟩ := bd_of hf
  refine g_calliV hC hW (c12_guestOf l D cy ad aM hg_3) (cwV 2 hC.2.2.2.2.1 gX12_oddsIn_X12_guestOf rfl rfl rfl hdV12_guestOf ⟨Nat.le_of_ble_eq_true rfl, Nat.le_of_ble_eq_true rfl⟩) (Sub.all _ _) 0 11 rfl rfl rfl rfl hl.1 rfl (Nat.le_of_ble_eq_true rfl) dX12_oddsIn_5 ⟨Nat.zero_le _, Nat.zero_le _⟩ (fun H locs hW => ?_)
  refine lv_i2l (v := Int32.toInt64 r_2) hC.1 hC.2.1 dX12_oddsIn_8 rfl ?_
  refine lv_topl (fun x2_4 ex2_4 => ?_)
  have hf := lt_nm hf ex2_4
  refine lv_lstore_n (lv' := [(2, .long x2_4), (0, .ref (aM 0)), (1, .int x1)]) hC.1 hC.2.1 dX12_oddsIn_9 rfl hl (by decide) rfl (fun ls hl => ?_)
  refine lv_iconst (v := 0) hC.1 hC.2.1 dX12_oddsIn_10 (by decide) ?_
  refine lv_istore (lv' := [(4, .int 0), (2, .long x2_4), (0, .ref (aM 0)), (1, .int x1)]) hC.1 hC.2.1 dX12_oddsIn_11 hl (by decide) rfl (fun ls hl => ?_)
  exact t12_oddsIn_13 hC _ _ _ _ _ _ _ _ _ hf hW (lv_sub hl [2, 3, 1, 0] rfl)
set_option maxRecDepth 100000 in
set_option maxHeartbeats 4000000 in
theorem c12_oddsIn (l : Launch) (D : va_G) (cy : Nat → ClassId) (ad : Nat → Nat) (aM : Nat → Nat) {x1 : Int32} {SM : Ob} {res : Int64} (h : f12_oddsIn x1 SM = some res) : GCl l yX12_oddsIn wsX12_oddsIn rm12_oddsIn [.ref (aM 0), .int x1] D cy ad (w12 cy aM SM) (w12 cy aM SM) res := fun sz => GC.start (own := RX12) (Qc := fun A => QL D cy (w12 cy aM SM) A res) sz (by decide) rfl rfl (Nat.le_of_ble_eq_true rfl) (fun p e s m below meth c A ls hC hW hl => t12_oddsIn_0 hC _ _ _ _ _ _ h hW (lv_sub hl [0, 1] rfl))
abbrev rm12_oddsOf : Room := { frames := 2, cells := 0, slots := 0, locals := 48 }
theorem hdV12_oddsOf : yX12_oddsOf.cls = RX12 ∧ (yX12_oddsOf.cls ≠ "java/lang/invoke/MethodHandle" ∧ yX12_oddsOf.cls ≠ "java/lang/invoke/VarHandle" ∧ (parseMethodDescriptor yX12_oddsOf.desc).map (fun d => d.parameters.length) = some 1) := by decide +kernel
theorem hin12_oddsOf_12 : ∀ x ∈ u_ws RX12 TX12 39, x ∈ wsX12_oddsOf := fun _ h => List.mem_cons_of_mem _ (List.mem_append_right _ h)
set_option maxRecDepth 100000 in
set_option maxHeartbeats 4000000 in
theorem t12_oddsOf_42 (hC : Cx p s m args meth c cX12_oddsOf 5 wsX12_oddsOf RX12 (some .long)) {k7 : Int32 → Int64 → Int32 → Ob → Option (Int64)} (hk7 : ∀ (x1 : Int32) (x2 : Int64) (x4 : Int32) (SM : Ob) (res : Int64) (H : Heap) (locs : List Loc) (ls : Array Slot), k7 x1 x2 x4 SM = some res → GW D cy ad (w12 cy aM SM) A s H locs → lv_has ls 5 [(0, .ref (aM 0)), (1, .int x1), (2, .long x2), (4, .int x4)] → W p l e rm12_oddsOf s m args below meth c H locs 0 0 (MQ below (QL D cy (w12 cy aM SM) A res) args s 0 0 A) (F0 m 7 ls [])) : ∀ (x1 : Int32) (x4 : Int32) (z0 : Int64) (z1 : Int64) (SM : Ob) (res : Int64) (H : Heap) (locs : List Loc) (ls : Array Slot), f12_oddsOf_42 k7 x1 x4 z0 z1 SM = some res → GW D cy ad (w12 cy aM SM) A s H locs → lv_has ls 5 [(0, .ref (aM 0)), (1, .int x1), (4, .int x4)] → W p l e rm12_oddsOf s m args below meth c H locs 0 0 (MQ below (QL D cy (w12 cy aM SM) A res) args s 0 0 A) (F0 m 42 ls [.long z1, .long z0]) := by
  intro x1 x4 z0 z1 SM res H locs ls hf hW hl
  unfold f12_oddsOf_42 at hf
  refine lv_ladd hC.1 hC.2.1 dX12_oddsOf_42 ?_
  refine lv_topl (fun x2_1 ex2_1 => ?_)
  have hf := lt_nm hf ex2_1
  refine lv_lstore_n (lv' := [(2, .long x2_1), (0, .ref (aM 0)), (1, .int x1), (4, .int x4)]) hC.1 hC.2.1 dX12_oddsOf_43 rfl hl (by decide) rfl (fun ls hl => ?_)
  obtain ⟨x4_2, ex4_2⟩ : ∃ y : Int32, y = x4 + 1 := ⟨_, rfl⟩
  have hf := lt_nm hf ex4_2
  refine lv_iinc (v := x4_2) (lv' := [(4, .int x4_2), (2, .long x2_1), (0, .ref (aM 0)), (1, .int x1)]) hC.1 hC.2.1 dX12_oddsOf_44 hl (k := 3) rfl (by rw [ex4_2]; rfl) (by decide) rfl (fun ls hl => ?_)
  refine lv_goto (tgt := 7) hC.1 hC.2.1 dX12_oddsOf_47 (by decide) ?_
  exact hk7 _ _ _ _ _ _ _ _ hf hW (lv_sub hl [2, 3, 1, 0] rfl)
set_option maxRecDepth 100000 in
set_option maxHeartbeats 4000000 in
theorem t12_oddsOf_7 (hC : Cx p s m args meth c cX12_oddsOf 5 wsX12_oddsOf RX12 (some .long)) : ∀ n : Nat, ∀ (x1 : Int32) (x2 : Int64) (x4 : Int32) (SM : Ob) (res : Int64) (H : Heap) (locs : List Loc) (ls : Array Slot), f12_oddsOf_7 n x1 x2 x4 SM = some res → GW D cy ad (w12 cy aM SM) A s H locs → lv_has ls 5 [(0, .ref (aM 0)), (1, .int x1), (2, .long x2), (4, .int x4)] → W p l e rm12_oddsOf s m args below meth c H locs 0 0 (MQ below (QL D cy (w12 cy aM SM) A res) args s 0 0 A) (F0 m 7 ls []) := by
  intro n
  induction n with
  | zero =>
    intro _ _ _ _ _ _ _ _ hf _ _
    exact nomatch (show (none : Option (Int64)) = some _ from hf)
  | succ n ih =>
    intro x1 x2 x4 SM res H locs ls hf hW hl
    rw [f12_oddsOf_7] at hf
    refine lv_iload hC.1 hC.2.1 dX12_oddsOf_7 (lv_at hl 3 rfl) ?_
    refine lv_iconst (v := 4) hC.1 hC.2.1 dX12_oddsOf_9 (by decide) ?_
    refine lv_iload_n hC.1 hC.2.1 dX12_oddsOf_10 rfl (lv_at hl 1 rfl) ?_
    refine lv_imul hC.1 hC.2.1 dX12_oddsOf_11 ?_
    refine lv_iconst (v := 4) hC.1 hC.2.1 dX12_oddsOf_12 (by decide) ?_
    refine lv_iadd hC.1 hC.2.1 dX12_oddsOf_13 ?_
    refine lv_icmp_ge (tgt := 50) hC.1 hC.2.1 dX12_oddsOf_14 (by decide) (fun hc_1 => ?_) (fun hc_1 => ?_)
    · have hf := ite_t hf hc_1
      refine lv_lload_n hC.1 hC.2.1 dX12_oddsOf_50 rfl (lv_at hl 2 rfl) ?_
      obtain rfl := Option.some.inj hf
      exact g_lret hC hW dX12_oddsOf_51
    · have hf := ite_f hf hc_1
      refine lv_lload_n hC.1 hC.2.1 dX12_oddsOf_17 rfl (lv_at hl 2 rfl) ?_
      refine lv_aload_n hC.1 hC.2.1 dX12_oddsOf_18 rfl (lv_at hl 0 rfl) ?_
      refine g_get hC hW hin12_oddsOf_12 0 rfl rfl 25 (by decide) 1 rfl rfl dX12_oddsOf_19 ?_
      refine lv_iconst (v := 0) hC.1 hC.2.1 dX12_oddsOf_22 (by decide) ?_
      obtain ⟨hi_2, hf⟩ := ck_of hf
      refine g_iald hC hW 16 rfl hi_2 dX12_oddsOf_23 ?_
      refine lv_iload hC.1 hC.2.1 dX12_oddsOf_24 (lv_at hl 3 rfl) ?_
      obtain ⟨r_3, hg_4, hf⟩ := bd_of hf
      refine g_calliS hC hW (c12_isIn l D cy ad  hg_4) (va_cwS 2 hC.2.2.2.2.1 gX12_oddsOf_X12_isIn rfl rfl rfl hdS12_isIn ⟨Nat.le_of_ble_eq_true rfl, Nat.le_of_ble_eq_true rfl⟩) (Sub.nil _) rfl hl.1 rfl (Nat.le_of_ble_eq_true rfl) dX12_oddsOf_26 ⟨Nat.zero_le _, Nat.zero_le _⟩ (fun H locs hW => ?_)
      refine lv_if_eq (tgt := 41) hC.1 hC.2.1 dX12_oddsOf_29 (by decide) (fun hc_5 => ?_) (fun hc_5 => ?_)
      · have hf := ite_t hf hc_5
        refine lv_lconst (v := 0) hC.1 hC.2.1 dX12_oddsOf_41 (by decide) ?_
        exact t12_oddsOf_42 hC ih  _ _ _ _ _ _ _ _ _ hf hW (lv_sub hl [0, 1, 3] rfl)
      · have hf := ite_f hf hc_5
        refine lv_aload_n hC.1 hC.2.1 dX12_oddsOf_32 rfl (lv_at hl 0 rfl) ?_
        refine lv_iload hC.1 hC.2.1 dX12_oddsOf_33 (lv_at hl 3 rfl) ?_
        obtain ⟨r_6, hg_7, hf⟩ := bd_of hf
        refine g_calllV hC hW (c12_oddsIn l D cy ad aM hg_7) (cwV 1 hC.2.2.2.2.1 gX12_oddsOf_X12_oddsIn rfl rfl rfl hdV12_oddsIn ⟨Nat.le_of_ble_eq_true rfl, Nat.le_of_ble_eq_true rfl⟩) (Sub.all _ _) 0 11 rfl rfl rfl rfl hl.1 rfl (Nat.le_of_ble_eq_true rfl) dX12_oddsOf_35 ⟨Nat.zero_le _, Nat.zero_le _⟩ (fun H locs hW => ?_)
        refine lv_goto (tgt := 42) hC.1 hC.2.1 dX12_oddsOf_38 (by decide) ?_
        exact t12_oddsOf_42 hC ih  _ _ _ _ _ _ _ _ _ hf hW (lv_sub hl [0, 1, 3] rfl)
set_option maxRecDepth 100000 in
set_option maxHeartbeats 4000000 in
theorem t12_oddsOf_0 (hC : Cx p s m args meth c cX12_oddsOf 5 wsX12_oddsOf RX12 (some .long)) : ∀ (x1 : Int32) (SM : Ob) (res : Int64) (H : Heap) (locs : List Loc) (ls : Array Slot), f12_oddsOf x1 SM = some res → GW D cy ad (w12 cy aM SM) A s H locs → lv_has ls 5 [(0, .ref (aM 0)), (1, .int x1)] → W p l e rm12_oddsOf s m args below meth c H locs 0 0 (MQ below (QL D cy (w12 cy aM SM) A res) args s 0 0 A) (F0 m 0 ls []) := by
  intro x1 SM res H locs ls hf hW hl
  unfold f12_oddsOf at hf
  refine lv_lconst (v := 0) hC.1 hC.2.1 dX12_oddsOf_0 (by decide) ?_
  refine lv_lstore_n (lv' := [(2, .long 0), (0, .ref (aM 0)), (1, .int x1)]) hC.1 hC.2.1 dX12_oddsOf_1 rfl hl (by decide) rfl (fun ls hl => ?_)
  refine lv_iconst (v := 4) hC.1 hC.2.1 dX12_oddsOf_2 (by decide) ?_
  refine lv_iload_n hC.1 hC.2.1 dX12_oddsOf_3 rfl (lv_at hl 2 rfl) ?_
  refine lv_imul hC.1 hC.2.1 dX12_oddsOf_4 ?_
  refine lv_topi (fun x4_1 ex4_1 => ?_)
  have hf := lt_nm hf ex4_1
  refine lv_istore (lv' := [(4, .int x4_1), (2, .long 0), (0, .ref (aM 0)), (1, .int x1)]) hC.1 hC.2.1 dX12_oddsOf_5 hl (by decide) rfl (fun ls hl => ?_)
  exact t12_oddsOf_7 hC _ _ _ _ _ _ _ _ _ hf hW (lv_sub hl [2, 3, 1, 0] rfl)
set_option maxRecDepth 100000 in
set_option maxHeartbeats 4000000 in
theorem c12_oddsOf (l : Launch) (D : va_G) (cy : Nat → ClassId) (ad : Nat → Nat) (aM : Nat → Nat) {x1 : Int32} {SM : Ob} {res : Int64} (h : f12_oddsOf x1 SM = some res) : GCl l yX12_oddsOf wsX12_oddsOf rm12_oddsOf [.ref (aM 0), .int x1] D cy ad (w12 cy aM SM) (w12 cy aM SM) res := fun sz => GC.start (own := RX12) (Qc := fun A => QL D cy (w12 cy aM SM) A res) sz (by decide) rfl rfl (Nat.le_of_ble_eq_true rfl) (fun p e s m below meth c A ls hC hW hl => t12_oddsOf_0 hC _ _ _ _ _ _ h hW (lv_sub hl [0, 1] rfl))
end
