/-! laid by program: functions, walks and contracts of 12_begins, 12_isLetter, 12_isDigit, 12_rank, 12_isSignOf, 12_cutAll, 12_wrong, 12_isSign, 12_isWord, 12_takeSign, 12_hasSign -/
set_option maxRecDepth 20000 in
theorem gX12_begins_X12_signs : GoodIn wsX12_begins (wsV RX12 337 RX12 yX12_signs wsX12_signs) := goodIn_r _ [8, 9, 10, 11, 12, 2, 51, 52, 53, 54, 55, 56, 57, 58, 59, 60, 61, 62, 63, 64, 65, 66, 67, 68, 69, 70, 71, 72, 73, 74, 75, 76, 77, 78, 79, 80, 81, 82, 83, 84, 85, 86, 87, 88, 89] rfl (by decide +kernel)
set_option maxRecDepth 20000 in
theorem gX12_begins_X12_soIn : GoodIn wsX12_begins (wsV RX12 340 RX12 yX12_soIn wsX12_soIn) := goodIn_r _ [13, 14, 15, 11, 16, 17, 18, 19, 1, 20, 21, 22, 11, 23, 24, 25, 26, 27, 2, 28, 29, 30, 31, 32, 33, 34, 35, 36, 37, 38, 39, 40, 41, 42, 43, 44, 45, 46, 51, 52, 53, 54, 55, 56, 57, 58, 59, 60, 61, 62, 63, 64, 65, 66, 67, 68, 69, 70, 71, 72, 73, 74, 75, 76, 77, 78, 79, 80, 81, 82, 83, 84, 85, 86, 87, 88, 89] rfl (by decide +kernel)
set_option maxRecDepth 20000 in
theorem gX12_begins_X12_starts : GoodIn wsX12_begins (wsV RX12 343 RX12 yX12_starts wsX12_starts) := goodIn_r _ [47, 48, 49, 11, 50, 4, 39, 40, 41, 11, 42, 43, 44, 45, 46, 24, 25, 26, 27, 2, 51, 52, 53, 54, 55, 56, 57, 58, 59, 60, 61, 62, 63, 64, 65, 66, 67, 68, 69, 70, 71, 72, 73, 74, 75, 76, 77, 78, 79, 80, 81, 82, 83, 84, 85, 86, 87, 88, 89] rfl (by decide +kernel)
theorem dX12_begins_0 : decode cX12_begins 0 = .ok (.iconst 0, 1) := by decide +kernel
theorem dX12_begins_1 : decode cX12_begins 1 = .ok (.istore_n 1, 1) := by decide +kernel
theorem dX12_begins_2 : decode cX12_begins 2 = .ok (.iload_n 1, 1) := by decide +kernel
theorem dX12_begins_3 : decode cX12_begins 3 = .ok (.aload_n 0, 1) := by decide +kernel
theorem dX12_begins_4 : decode cX12_begins 4 = .ok (.invokevirtual 337, 3) := by decide +kernel
theorem dX12_begins_7 : decode cX12_begins 7 = .ok (.if_icmp .ge 32, 3) := by decide +kernel
theorem dX12_begins_10 : decode cX12_begins 10 = .ok (.aload_n 0, 1) := by decide +kernel
theorem dX12_begins_11 : decode cX12_begins 11 = .ok (.getfield 138, 3) := by decide +kernel
theorem dX12_begins_14 : decode cX12_begins 14 = .ok (.iload_n 1, 1) := by decide +kernel
theorem dX12_begins_15 : decode cX12_begins 15 = .ok (.aload_n 0, 1) := by decide +kernel
theorem dX12_begins_16 : decode cX12_begins 16 = .ok (.aload_n 0, 1) := by decide +kernel
theorem dX12_begins_17 : decode cX12_begins 17 = .ok (.getfield 101, 3) := by decide +kernel
theorem dX12_begins_20 : decode cX12_begins 20 = .ok (.bipush 43, 2) := by decide +kernel
theorem dX12_begins_22 : decode cX12_begins 22 = .ok (.iconst 2, 1) := by decide +kernel
theorem dX12_begins_23 : decode cX12_begins 23 = .ok (.iload_n 1, 1) := by decide +kernel
theorem dX12_begins_24 : decode cX12_begins 24 = .ok (.imul, 1) := by decide +kernel
theorem dX12_begins_25 : decode cX12_begins 25 = .ok (.iadd, 1) := by decide +kernel
theorem dX12_begins_26 : decode cX12_begins 26 = .ok (.iconst 1, 1) := by decide +kernel
theorem dX12_begins_27 : decode cX12_begins 27 = .ok (.iadd, 1) := by decide +kernel
theorem dX12_begins_28 : decode cX12_begins 28 = .ok (.iaload, 1) := by decide +kernel
theorem dX12_begins_29 : decode cX12_begins 29 = .ok (.invokevirtual 340, 3) := by decide +kernel
theorem dX12_begins_32 : decode cX12_begins 32 = .ok (.iastore, 1) := by decide +kernel
theorem dX12_begins_33 : decode cX12_begins 33 = .ok (.iinc 1 1, 3) := by decide +kernel
theorem dX12_begins_36 : decode cX12_begins 36 = .ok (.goto (-34), 3) := by decide +kernel
theorem dX12_begins_39 : decode cX12_begins 39 = .ok (.iconst 0, 1) := by decide +kernel
theorem dX12_begins_40 : decode cX12_begins 40 = .ok (.istore_n 1, 1) := by decide +kernel
theorem dX12_begins_41 : decode cX12_begins 41 = .ok (.iload_n 1, 1) := by decide +kernel
theorem dX12_begins_42 : decode cX12_begins 42 = .ok (.bipush 32, 2) := by decide +kernel
theorem dX12_begins_44 : decode cX12_begins 44 = .ok (.if_icmp .ge 53, 3) := by decide +kernel
theorem dX12_begins_47 : decode cX12_begins 47 = .ok (.aload_n 0, 1) := by decide +kernel
theorem dX12_begins_48 : decode cX12_begins 48 = .ok (.getfield 141, 3) := by decide +kernel
theorem dX12_begins_51 : decode cX12_begins 51 = .ok (.iload_n 1, 1) := by decide +kernel
theorem dX12_begins_52 : decode cX12_begins 52 = .ok (.iconst 0, 1) := by decide +kernel
theorem dX12_begins_53 : decode cX12_begins 53 = .ok (.iastore, 1) := by decide +kernel
theorem dX12_begins_54 : decode cX12_begins 54 = .ok (.iconst 0, 1) := by decide +kernel
theorem dX12_begins_55 : decode cX12_begins 55 = .ok (.istore_n 2, 1) := by decide +kernel
theorem dX12_begins_56 : decode cX12_begins 56 = .ok (.iload_n 2, 1) := by decide +kernel
theorem dX12_begins_57 : decode cX12_begins 57 = .ok (.aload_n 0, 1) := by decide +kernel
theorem dX12_begins_58 : decode cX12_begins 58 = .ok (.invokevirtual 337, 3) := by decide +kernel
theorem dX12_begins_61 : decode cX12_begins 61 = .ok (.if_icmp .ge 30, 3) := by decide +kernel
theorem dX12_begins_64 : decode cX12_begins 64 = .ok (.aload_n 0, 1) := by decide +kernel
theorem dX12_begins_65 : decode cX12_begins 65 = .ok (.getfield 141, 3) := by decide +kernel
theorem dX12_begins_68 : decode cX12_begins 68 = .ok (.iload_n 1, 1) := by decide +kernel
theorem dX12_begins_69 : decode cX12_begins 69 = .ok (.dup2, 1) := by decide +kernel
theorem dX12_begins_70 : decode cX12_begins 70 = .ok (.iaload, 1) := by decide +kernel
theorem dX12_begins_71 : decode cX12_begins 71 = .ok (.aload_n 0, 1) := by decide +kernel
theorem dX12_begins_72 : decode cX12_begins 72 = .ok (.getfield 138, 3) := by decide +kernel
theorem dX12_begins_75 : decode cX12_begins 75 = .ok (.iload_n 2, 1) := by decide +kernel
theorem dX12_begins_76 : decode cX12_begins 76 = .ok (.iaload, 1) := by decide +kernel
theorem dX12_begins_77 : decode cX12_begins 77 = .ok (.iload_n 1, 1) := by decide +kernel
theorem dX12_begins_78 : decode cX12_begins 78 = .ok (.ishr, 1) := by decide +kernel
theorem dX12_begins_79 : decode cX12_begins 79 = .ok (.iconst 1, 1) := by decide +kernel
theorem dX12_begins_80 : decode cX12_begins 80 = .ok (.iand, 1) := by decide +kernel
theorem dX12_begins_81 : decode cX12_begins 81 = .ok (.iload_n 2, 1) := by decide +kernel
theorem dX12_begins_82 : decode cX12_begins 82 = .ok (.ishl, 1) := by decide +kernel
theorem dX12_begins_83 : decode cX12_begins 83 = .ok (.ior, 1) := by decide +kernel
theorem dX12_begins_84 : decode cX12_begins 84 = .ok (.iastore, 1) := by decide +kernel
theorem dX12_begins_85 : decode cX12_begins 85 = .ok (.iinc 2 1, 3) := by decide +kernel
theorem dX12_begins_88 : decode cX12_begins 88 = .ok (.goto (-32), 3) := by decide +kernel
theorem dX12_begins_91 : decode cX12_begins 91 = .ok (.iinc 1 1, 3) := by decide +kernel
theorem dX12_begins_94 : decode cX12_begins 94 = .ok (.goto (-53), 3) := by decide +kernel
theorem dX12_begins_97 : decode cX12_begins 97 = .ok (.aload_n 0, 1) := by decide +kernel
theorem dX12_begins_98 : decode cX12_begins 98 = .ok (.iconst 0, 1) := by decide +kernel
theorem dX12_begins_99 : decode cX12_begins 99 = .ok (.invokevirtual 343, 3) := by decide +kernel
theorem dX12_begins_102 : decode cX12_begins 102 = .ok (.aload_n 0, 1) := by decide +kernel
theorem dX12_begins_103 : decode cX12_begins 103 = .ok (.getfield 131, 3) := by decide +kernel
theorem dX12_begins_106 : decode cX12_begins 106 = .ok (.bipush 12, 2) := by decide +kernel
theorem dX12_begins_108 : decode cX12_begins 108 = .ok (.iconst 0, 1) := by decide +kernel
theorem dX12_begins_109 : decode cX12_begins 109 = .ok (.iastore, 1) := by decide +kernel
theorem dX12_begins_110 : decode cX12_begins 110 = .ok (.aload_n 0, 1) := by decide +kernel
theorem dX12_begins_111 : decode cX12_begins 111 = .ok (.getfield 122, 3) := by decide +kernel
theorem dX12_begins_114 : decode cX12_begins 114 = .ok (.iconst 0, 1) := by decide +kernel
theorem dX12_begins_115 : decode cX12_begins 115 = .ok (.iconst 0, 1) := by decide +kernel
theorem dX12_begins_116 : decode cX12_begins 116 = .ok (.iastore, 1) := by decide +kernel
theorem dX12_begins_117 : decode cX12_begins 117 = .ok (.aload_n 0, 1) := by decide +kernel
theorem dX12_begins_118 : decode cX12_begins 118 = .ok (.iconst 0, 1) := by decide +kernel
theorem dX12_begins_119 : decode cX12_begins 119 = .ok (.putfield 346, 3) := by decide +kernel
theorem dX12_begins_122 : decode cX12_begins 122 = .ok (.iconst 0, 1) := by decide +kernel
theorem dX12_begins_123 : decode cX12_begins 123 = .ok (.istore_n 1, 1) := by decide +kernel
theorem dX12_begins_124 : decode cX12_begins 124 = .ok (.iload_n 1, 1) := by decide +kernel
theorem dX12_begins_125 : decode cX12_begins 125 = .ok (.iconst 4, 1) := by decide +kernel
theorem dX12_begins_126 : decode cX12_begins 126 = .ok (.if_icmp .ge 16, 3) := by decide +kernel
theorem dX12_begins_129 : decode cX12_begins 129 = .ok (.aload_n 0, 1) := by decide +kernel
theorem dX12_begins_130 : decode cX12_begins 130 = .ok (.getfield 134, 3) := by decide +kernel
theorem dX12_begins_133 : decode cX12_begins 133 = .ok (.iload_n 1, 1) := by decide +kernel
theorem dX12_begins_134 : decode cX12_begins 134 = .ok (.iconst 0, 1) := by decide +kernel
theorem dX12_begins_135 : decode cX12_begins 135 = .ok (.bastore, 1) := by decide +kernel
theorem dX12_begins_136 : decode cX12_begins 136 = .ok (.iinc 1 1, 3) := by decide +kernel
theorem dX12_begins_139 : decode cX12_begins 139 = .ok (.goto (-15), 3) := by decide +kernel
theorem dX12_begins_142 : decode cX12_begins 142 = .ok (.return_, 1) := by decide +kernel
theorem dX12_isLetter_0 : decode cX12_isLetter 0 = .ok (.iload_n 0, 1) := by decide +kernel
theorem dX12_isLetter_1 : decode cX12_isLetter 1 = .ok (.bipush 97, 2) := by decide +kernel
theorem dX12_isLetter_3 : decode cX12_isLetter 3 = .ok (.if_icmp .lt 13, 3) := by decide +kernel
theorem dX12_isLetter_6 : decode cX12_isLetter 6 = .ok (.iload_n 0, 1) := by decide +kernel
theorem dX12_isLetter_7 : decode cX12_isLetter 7 = .ok (.bipush 122, 2) := by decide +kernel
theorem dX12_isLetter_9 : decode cX12_isLetter 9 = .ok (.if_icmp .gt 7, 3) := by decide +kernel
theorem dX12_isLetter_12 : decode cX12_isLetter 12 = .ok (.iconst 1, 1) := by decide +kernel
theorem dX12_isLetter_13 : decode cX12_isLetter 13 = .ok (.goto 4, 3) := by decide +kernel
theorem dX12_isLetter_16 : decode cX12_isLetter 16 = .ok (.iconst 0, 1) := by decide +kernel
theorem dX12_isLetter_17 : decode cX12_isLetter 17 = .ok (.ireturn, 1) := by decide +kernel
theorem dX12_isDigit_0 : decode cX12_isDigit 0 = .ok (.iload_n 0, 1) := by decide +kernel
theorem dX12_isDigit_1 : decode cX12_isDigit 1 = .ok (.bipush 48, 2) := by decide +kernel
theorem dX12_isDigit_3 : decode cX12_isDigit 3 = .ok (.if_icmp .lt 13, 3) := by decide +kernel
theorem dX12_isDigit_6 : decode cX12_isDigit 6 = .ok (.iload_n 0, 1) := by decide +kernel
theorem dX12_isDigit_7 : decode cX12_isDigit 7 = .ok (.bipush 57, 2) := by decide +kernel
theorem dX12_isDigit_9 : decode cX12_isDigit 9 = .ok (.if_icmp .gt 7, 3) := by decide +kernel
theorem dX12_isDigit_12 : decode cX12_isDigit 12 = .ok (.iconst 1, 1) := by decide +kernel
theorem dX12_isDigit_13 : decode cX12_isDigit 13 = .ok (.goto 4, 3) := by decide +kernel
theorem dX12_isDigit_16 : decode cX12_isDigit 16 = .ok (.iconst 0, 1) := by decide +kernel
theorem dX12_isDigit_17 : decode cX12_isDigit 17 = .ok (.ireturn, 1) := by decide +kernel
set_option maxRecDepth 20000 in
theorem gX12_rank_X12_isLetter : GoodIn wsX12_rank (va_wsS RX12 172 yX12_isLetter wsX12_isLetter) := goodIn_r _ [1, 2, 3, 4] rfl (by decide +kernel)
theorem dX12_rank_0 : decode cX12_rank 0 = .ok (.iload_n 0, 1) := by decide +kernel
theorem dX12_rank_1 : decode cX12_rank 1 = .ok (.invokestatic 172, 3) := by decide +kernel
theorem dX12_rank_4 : decode cX12_rank 4 = .ok (.ifCond .eq 10, 3) := by decide +kernel
theorem dX12_rank_7 : decode cX12_rank 7 = .ok (.iload_n 0, 1) := by decide +kernel
theorem dX12_rank_8 : decode cX12_rank 8 = .ok (.bipush 96, 2) := by decide +kernel
theorem dX12_rank_10 : decode cX12_rank 10 = .ok (.isub, 1) := by decide +kernel
theorem dX12_rank_11 : decode cX12_rank 11 = .ok (.goto 7, 3) := by decide +kernel
theorem dX12_rank_14 : decode cX12_rank 14 = .ok (.iload_n 0, 1) := by decide +kernel
theorem dX12_rank_15 : decode cX12_rank 15 = .ok (.bipush 21, 2) := by decide +kernel
theorem dX12_rank_17 : decode cX12_rank 17 = .ok (.isub, 1) := by decide +kernel
theorem dX12_rank_18 : decode cX12_rank 18 = .ok (.ireturn, 1) := by decide +kernel
theorem dX12_isSignOf_0 : decode cX12_isSignOf 0 = .ok (.iload_n 0, 1) := by decide +kernel
theorem dX12_isSignOf_1 : decode cX12_isSignOf 1 = .ok (.bipush 40, 2) := by decide +kernel
theorem dX12_isSignOf_3 : decode cX12_isSignOf 3 = .ok (.if_icmp .eq 45, 3) := by decide +kernel
theorem dX12_isSignOf_6 : decode cX12_isSignOf 6 = .ok (.iload_n 0, 1) := by decide +kernel
theorem dX12_isSignOf_7 : decode cX12_isSignOf 7 = .ok (.bipush 41, 2) := by decide +kernel
theorem dX12_isSignOf_9 : decode cX12_isSignOf 9 = .ok (.if_icmp .eq 39, 3) := by decide +kernel
theorem dX12_isSignOf_12 : decode cX12_isSignOf 12 = .ok (.iload_n 0, 1) := by decide +kernel
theorem dX12_isSignOf_13 : decode cX12_isSignOf 13 = .ok (.bipush 59, 2) := by decide +kernel
theorem dX12_isSignOf_15 : decode cX12_isSignOf 15 = .ok (.if_icmp .eq 33, 3) := by decide +kernel
theorem dX12_isSignOf_18 : decode cX12_isSignOf 18 = .ok (.iload_n 0, 1) := by decide +kernel
theorem dX12_isSignOf_19 : decode cX12_isSignOf 19 = .ok (.bipush 61, 2) := by decide +kernel
theorem dX12_isSignOf_21 : decode cX12_isSignOf 21 = .ok (.if_icmp .eq 27, 3) := by decide +kernel
theorem dX12_isSignOf_24 : decode cX12_isSignOf 24 = .ok (.iload_n 0, 1) := by decide +kernel
theorem dX12_isSignOf_25 : decode cX12_isSignOf 25 = .ok (.bipush 60, 2) := by decide +kernel
theorem dX12_isSignOf_27 : decode cX12_isSignOf 27 = .ok (.if_icmp .eq 21, 3) := by decide +kernel
theorem dX12_isSignOf_30 : decode cX12_isSignOf 30 = .ok (.iload_n 0, 1) := by decide +kernel
theorem dX12_isSignOf_31 : decode cX12_isSignOf 31 = .ok (.bipush 43, 2) := by decide +kernel
theorem dX12_isSignOf_33 : decode cX12_isSignOf 33 = .ok (.if_icmp .eq 15, 3) := by decide +kernel
theorem dX12_isSignOf_36 : decode cX12_isSignOf 36 = .ok (.iload_n 0, 1) := by decide +kernel
theorem dX12_isSignOf_37 : decode cX12_isSignOf 37 = .ok (.bipush 45, 2) := by decide +kernel
theorem dX12_isSignOf_39 : decode cX12_isSignOf 39 = .ok (.if_icmp .eq 9, 3) := by decide +kernel
theorem dX12_isSignOf_42 : decode cX12_isSignOf 42 = .ok (.iload_n 0, 1) := by decide +kernel
theorem dX12_isSignOf_43 : decode cX12_isSignOf 43 = .ok (.bipush 42, 2) := by decide +kernel
theorem dX12_isSignOf_45 : decode cX12_isSignOf 45 = .ok (.if_icmp .ne 7, 3) := by decide +kernel
theorem dX12_isSignOf_48 : decode cX12_isSignOf 48 = .ok (.iconst 1, 1) := by decide +kernel
theorem dX12_isSignOf_49 : decode cX12_isSignOf 49 = .ok (.goto 4, 3) := by decide +kernel
theorem dX12_isSignOf_52 : decode cX12_isSignOf 52 = .ok (.iconst 0, 1) := by decide +kernel
theorem dX12_isSignOf_53 : decode cX12_isSignOf 53 = .ok (.ireturn, 1) := by decide +kernel
set_option maxRecDepth 20000 in
theorem gX12_cutAll_X12_isLetter : GoodIn wsX12_cutAll (va_wsS RX12 172 yX12_isLetter wsX12_isLetter) := goodIn_r _ [12, 13, 14, 15] rfl (by decide +kernel)
set_option maxRecDepth 20000 in
theorem gX12_cutAll_X12_rank : GoodIn wsX12_cutAll (va_wsS RX12 181 yX12_rank wsX12_rank) := goodIn_r _ [16, 17, 14, 18, 12, 13, 14, 15] rfl (by decide +kernel)
set_option maxRecDepth 20000 in
theorem gX12_cutAll_X12_isDigit : GoodIn wsX12_cutAll (va_wsS RX12 185 yX12_isDigit wsX12_isDigit) := goodIn_r _ [19, 20, 14, 21] rfl (by decide +kernel)
set_option maxRecDepth 20000 in
theorem gX12_cutAll_X12_isSignOf : GoodIn wsX12_cutAll (va_wsS RX12 192 yX12_isSignOf wsX12_isSignOf) := goodIn_r _ [22, 23, 14, 24] rfl (by decide +kernel)
theorem dX12_cutAll_0 : decode cX12_cutAll 0 = .ok (.aload_n 0, 1) := by decide +kernel
theorem dX12_cutAll_1 : decode cX12_cutAll 1 = .ok (.aload_n 0, 1) := by decide +kernel
theorem dX12_cutAll_2 : decode cX12_cutAll 2 = .ok (.getfield 11, 3) := by decide +kernel
theorem dX12_cutAll_5 : decode cX12_cutAll 5 = .ok (.putfield 176, 3) := by decide +kernel
theorem dX12_cutAll_8 : decode cX12_cutAll 8 = .ok (.aload_n 0, 1) := by decide +kernel
theorem dX12_cutAll_9 : decode cX12_cutAll 9 = .ok (.iconst 0, 1) := by decide +kernel
theorem dX12_cutAll_10 : decode cX12_cutAll 10 = .ok (.putfield 11, 3) := by decide +kernel
theorem dX12_cutAll_13 : decode cX12_cutAll 13 = .ok (.iconst 0, 1) := by decide +kernel
theorem dX12_cutAll_14 : decode cX12_cutAll 14 = .ok (.istore_n 1, 1) := by decide +kernel
theorem dX12_cutAll_15 : decode cX12_cutAll 15 = .ok (.iconst 0, 1) := by decide +kernel
theorem dX12_cutAll_16 : decode cX12_cutAll 16 = .ok (.istore_n 2, 1) := by decide +kernel
theorem dX12_cutAll_17 : decode cX12_cutAll 17 = .ok (.iload_n 2, 1) := by decide +kernel
theorem dX12_cutAll_18 : decode cX12_cutAll 18 = .ok (.aload_n 0, 1) := by decide +kernel
theorem dX12_cutAll_19 : decode cX12_cutAll 19 = .ok (.getfield 176, 3) := by decide +kernel
theorem dX12_cutAll_22 : decode cX12_cutAll 22 = .ok (.if_icmp .ge 257, 3) := by decide +kernel
theorem dX12_cutAll_25 : decode cX12_cutAll 25 = .ok (.aload_n 0, 1) := by decide +kernel
theorem dX12_cutAll_26 : decode cX12_cutAll 26 = .ok (.getfield 14, 3) := by decide +kernel
theorem dX12_cutAll_29 : decode cX12_cutAll 29 = .ok (.iload_n 2, 1) := by decide +kernel
theorem dX12_cutAll_30 : decode cX12_cutAll 30 = .ok (.iaload, 1) := by decide +kernel
theorem dX12_cutAll_31 : decode cX12_cutAll 31 = .ok (.istore_n 3, 1) := by decide +kernel
theorem dX12_cutAll_32 : decode cX12_cutAll 32 = .ok (.iload_n 3, 1) := by decide +kernel
theorem dX12_cutAll_33 : decode cX12_cutAll 33 = .ok (.bipush 10, 2) := by decide +kernel
theorem dX12_cutAll_35 : decode cX12_cutAll 35 = .ok (.if_icmp .eq 9, 3) := by decide +kernel
theorem dX12_cutAll_38 : decode cX12_cutAll 38 = .ok (.iload_n 3, 1) := by decide +kernel
theorem dX12_cutAll_39 : decode cX12_cutAll 39 = .ok (.bipush 32, 2) := by decide +kernel
theorem dX12_cutAll_41 : decode cX12_cutAll 41 = .ok (.if_icmp .ne 9, 3) := by decide +kernel
theorem dX12_cutAll_44 : decode cX12_cutAll 44 = .ok (.iinc 2 1, 3) := by decide +kernel
theorem dX12_cutAll_47 : decode cX12_cutAll 47 = .ok (.goto (-30), 3) := by decide +kernel
theorem dX12_cutAll_50 : decode cX12_cutAll 50 = .ok (.iload_n 2, 1) := by decide +kernel
theorem dX12_cutAll_51 : decode cX12_cutAll 51 = .ok (.istore 4, 2) := by decide +kernel
theorem dX12_cutAll_53 : decode cX12_cutAll 53 = .ok (.lconst 0, 1) := by decide +kernel
theorem dX12_cutAll_54 : decode cX12_cutAll 54 = .ok (.lstore 5, 2) := by decide +kernel
theorem dX12_cutAll_56 : decode cX12_cutAll 56 = .ok (.aload_n 0, 1) := by decide +kernel
theorem dX12_cutAll_57 : decode cX12_cutAll 57 = .ok (.getfield 27, 3) := by decide +kernel
theorem dX12_cutAll_60 : decode cX12_cutAll 60 = .ok (.iload_n 1, 1) := by decide +kernel
theorem dX12_cutAll_61 : decode cX12_cutAll 61 = .ok (.iload_n 2, 1) := by decide +kernel
theorem dX12_cutAll_62 : decode cX12_cutAll 62 = .ok (.iastore, 1) := by decide +kernel
theorem dX12_cutAll_63 : decode cX12_cutAll 63 = .ok (.iload_n 3, 1) := by decide +kernel
theorem dX12_cutAll_64 : decode cX12_cutAll 64 = .ok (.invokestatic 172, 3) := by decide +kernel
theorem dX12_cutAll_67 : decode cX12_cutAll 67 = .ok (.ifCond .eq 85, 3) := by decide +kernel
theorem dX12_cutAll_70 : decode cX12_cutAll 70 = .ok (.iload_n 2, 1) := by decide +kernel
theorem dX12_cutAll_71 : decode cX12_cutAll 71 = .ok (.aload_n 0, 1) := by decide +kernel
theorem dX12_cutAll_72 : decode cX12_cutAll 72 = .ok (.getfield 176, 3) := by decide +kernel
theorem dX12_cutAll_75 : decode cX12_cutAll 75 = .ok (.if_icmp .ge 54, 3) := by decide +kernel
theorem dX12_cutAll_78 : decode cX12_cutAll 78 = .ok (.aload_n 0, 1) := by decide +kernel
theorem dX12_cutAll_79 : decode cX12_cutAll 79 = .ok (.getfield 14, 3) := by decide +kernel
theorem dX12_cutAll_82 : decode cX12_cutAll 82 = .ok (.iload_n 2, 1) := by decide +kernel
theorem dX12_cutAll_83 : decode cX12_cutAll 83 = .ok (.iaload, 1) := by decide +kernel
theorem dX12_cutAll_84 : decode cX12_cutAll 84 = .ok (.invokestatic 172, 3) := by decide +kernel
theorem dX12_cutAll_87 : decode cX12_cutAll 87 = .ok (.ifCond .eq 42, 3) := by decide +kernel
theorem dX12_cutAll_90 : decode cX12_cutAll 90 = .ok (.iload_n 2, 1) := by decide +kernel
theorem dX12_cutAll_91 : decode cX12_cutAll 91 = .ok (.iload 4, 2) := by decide +kernel
theorem dX12_cutAll_93 : decode cX12_cutAll 93 = .ok (.isub, 1) := by decide +kernel
theorem dX12_cutAll_94 : decode cX12_cutAll 94 = .ok (.bipush 8, 2) := by decide +kernel
theorem dX12_cutAll_96 : decode cX12_cutAll 96 = .ok (.if_icmp .ge 23, 3) := by decide +kernel
theorem dX12_cutAll_99 : decode cX12_cutAll 99 = .ok (.ldc2_w 179, 3) := by decide +kernel
theorem dX12_cutAll_102 : decode cX12_cutAll 102 = .ok (.lload 5, 2) := by decide +kernel
theorem dX12_cutAll_104 : decode cX12_cutAll 104 = .ok (.lmul, 1) := by decide +kernel
theorem dX12_cutAll_105 : decode cX12_cutAll 105 = .ok (.aload_n 0, 1) := by decide +kernel
theorem dX12_cutAll_106 : decode cX12_cutAll 106 = .ok (.getfield 14, 3) := by decide +kernel
theorem dX12_cutAll_109 : decode cX12_cutAll 109 = .ok (.iload_n 2, 1) := by decide +kernel
theorem dX12_cutAll_110 : decode cX12_cutAll 110 = .ok (.iaload, 1) := by decide +kernel
theorem dX12_cutAll_111 : decode cX12_cutAll 111 = .ok (.invokestatic 181, 3) := by decide +kernel
theorem dX12_cutAll_114 : decode cX12_cutAll 114 = .ok (.i2l, 1) := by decide +kernel
theorem dX12_cutAll_115 : decode cX12_cutAll 115 = .ok (.ladd, 1) := by decide +kernel
theorem dX12_cutAll_116 : decode cX12_cutAll 116 = .ok (.goto 5, 3) := by decide +kernel
theorem dX12_cutAll_119 : decode cX12_cutAll 119 = .ok (.lload 5, 2) := by decide +kernel
theorem dX12_cutAll_121 : decode cX12_cutAll 121 = .ok (.lstore 5, 2) := by decide +kernel
theorem dX12_cutAll_123 : decode cX12_cutAll 123 = .ok (.iinc 2 1, 3) := by decide +kernel
theorem dX12_cutAll_126 : decode cX12_cutAll 126 = .ok (.goto (-56), 3) := by decide +kernel
theorem dX12_cutAll_129 : decode cX12_cutAll 129 = .ok (.aload_n 0, 1) := by decide +kernel
theorem dX12_cutAll_130 : decode cX12_cutAll 130 = .ok (.getfield 24, 3) := by decide +kernel
theorem dX12_cutAll_133 : decode cX12_cutAll 133 = .ok (.iload_n 1, 1) := by decide +kernel
theorem dX12_cutAll_134 : decode cX12_cutAll 134 = .ok (.iload_n 2, 1) := by decide +kernel
theorem dX12_cutAll_135 : decode cX12_cutAll 135 = .ok (.iload 4, 2) := by decide +kernel
theorem dX12_cutAll_137 : decode cX12_cutAll 137 = .ok (.isub, 1) := by decide +kernel
theorem dX12_cutAll_138 : decode cX12_cutAll 138 = .ok (.bipush 8, 2) := by decide +kernel
theorem dX12_cutAll_140 : decode cX12_cutAll 140 = .ok (.if_icmp .le 7, 3) := by decide +kernel
theorem dX12_cutAll_143 : decode cX12_cutAll 143 = .ok (.iconst 4, 1) := by decide +kernel
theorem dX12_cutAll_144 : decode cX12_cutAll 144 = .ok (.goto 4, 3) := by decide +kernel
theorem dX12_cutAll_147 : decode cX12_cutAll 147 = .ok (.iconst 1, 1) := by decide +kernel
theorem dX12_cutAll_148 : decode cX12_cutAll 148 = .ok (.iastore, 1) := by decide +kernel
theorem dX12_cutAll_149 : decode cX12_cutAll 149 = .ok (.goto 116, 3) := by decide +kernel
theorem dX12_cutAll_152 : decode cX12_cutAll 152 = .ok (.iload_n 3, 1) := by decide +kernel
theorem dX12_cutAll_153 : decode cX12_cutAll 153 = .ok (.invokestatic 185, 3) := by decide +kernel
theorem dX12_cutAll_156 : decode cX12_cutAll 156 = .ok (.ifCond .eq 84, 3) := by decide +kernel
theorem dX12_cutAll_159 : decode cX12_cutAll 159 = .ok (.iload_n 2, 1) := by decide +kernel
theorem dX12_cutAll_160 : decode cX12_cutAll 160 = .ok (.aload_n 0, 1) := by decide +kernel
theorem dX12_cutAll_161 : decode cX12_cutAll 161 = .ok (.getfield 176, 3) := by decide +kernel
theorem dX12_cutAll_164 : decode cX12_cutAll 164 = .ok (.if_icmp .ge 54, 3) := by decide +kernel
theorem dX12_cutAll_167 : decode cX12_cutAll 167 = .ok (.aload_n 0, 1) := by decide +kernel
theorem dX12_cutAll_168 : decode cX12_cutAll 168 = .ok (.getfield 14, 3) := by decide +kernel
theorem dX12_cutAll_171 : decode cX12_cutAll 171 = .ok (.iload_n 2, 1) := by decide +kernel
theorem dX12_cutAll_172 : decode cX12_cutAll 172 = .ok (.iaload, 1) := by decide +kernel
theorem dX12_cutAll_173 : decode cX12_cutAll 173 = .ok (.invokestatic 185, 3) := by decide +kernel
theorem dX12_cutAll_176 : decode cX12_cutAll 176 = .ok (.ifCond .eq 42, 3) := by decide +kernel
theorem dX12_cutAll_179 : decode cX12_cutAll 179 = .ok (.iload_n 2, 1) := by decide +kernel
theorem dX12_cutAll_180 : decode cX12_cutAll 180 = .ok (.iload 4, 2) := by decide +kernel
theorem dX12_cutAll_182 : decode cX12_cutAll 182 = .ok (.isub, 1) := by decide +kernel
theorem dX12_cutAll_183 : decode cX12_cutAll 183 = .ok (.iconst 4, 1) := by decide +kernel
theorem dX12_cutAll_184 : decode cX12_cutAll 184 = .ok (.if_icmp .ge 24, 3) := by decide +kernel
theorem dX12_cutAll_187 : decode cX12_cutAll 187 = .ok (.ldc2_w 188, 3) := by decide +kernel
theorem dX12_cutAll_190 : decode cX12_cutAll 190 = .ok (.lload 5, 2) := by decide +kernel
theorem dX12_cutAll_192 : decode cX12_cutAll 192 = .ok (.lmul, 1) := by decide +kernel
theorem dX12_cutAll_193 : decode cX12_cutAll 193 = .ok (.aload_n 0, 1) := by decide +kernel
theorem dX12_cutAll_194 : decode cX12_cutAll 194 = .ok (.getfield 14, 3) := by decide +kernel
theorem dX12_cutAll_197 : decode cX12_cutAll 197 = .ok (.iload_n 2, 1) := by decide +kernel
theorem dX12_cutAll_198 : decode cX12_cutAll 198 = .ok (.iaload, 1) := by decide +kernel
theorem dX12_cutAll_199 : decode cX12_cutAll 199 = .ok (.i2l, 1) := by decide +kernel
theorem dX12_cutAll_200 : decode cX12_cutAll 200 = .ok (.ladd, 1) := by decide +kernel
theorem dX12_cutAll_201 : decode cX12_cutAll 201 = .ok (.ldc2_w 190, 3) := by decide +kernel
theorem dX12_cutAll_204 : decode cX12_cutAll 204 = .ok (.lsub, 1) := by decide +kernel
theorem dX12_cutAll_205 : decode cX12_cutAll 205 = .ok (.goto 5, 3) := by decide +kernel
theorem dX12_cutAll_208 : decode cX12_cutAll 208 = .ok (.lload 5, 2) := by decide +kernel
theorem dX12_cutAll_210 : decode cX12_cutAll 210 = .ok (.lstore 5, 2) := by decide +kernel
theorem dX12_cutAll_212 : decode cX12_cutAll 212 = .ok (.iinc 2 1, 3) := by decide +kernel
theorem dX12_cutAll_215 : decode cX12_cutAll 215 = .ok (.goto (-56), 3) := by decide +kernel
theorem dX12_cutAll_218 : decode cX12_cutAll 218 = .ok (.aload_n 0, 1) := by decide +kernel
theorem dX12_cutAll_219 : decode cX12_cutAll 219 = .ok (.getfield 24, 3) := by decide +kernel
theorem dX12_cutAll_222 : decode cX12_cutAll 222 = .ok (.iload_n 1, 1) := by decide +kernel
theorem dX12_cutAll_223 : decode cX12_cutAll 223 = .ok (.iload_n 2, 1) := by decide +kernel
theorem dX12_cutAll_224 : decode cX12_cutAll 224 = .ok (.iload 4, 2) := by decide +kernel
theorem dX12_cutAll_226 : decode cX12_cutAll 226 = .ok (.isub, 1) := by decide +kernel
theorem dX12_cutAll_227 : decode cX12_cutAll 227 = .ok (.iconst 4, 1) := by decide +kernel
theorem dX12_cutAll_228 : decode cX12_cutAll 228 = .ok (.if_icmp .le 7, 3) := by decide +kernel
theorem dX12_cutAll_231 : decode cX12_cutAll 231 = .ok (.iconst 4, 1) := by decide +kernel
theorem dX12_cutAll_232 : decode cX12_cutAll 232 = .ok (.goto 4, 3) := by decide +kernel
theorem dX12_cutAll_235 : decode cX12_cutAll 235 = .ok (.iconst 2, 1) := by decide +kernel
theorem dX12_cutAll_236 : decode cX12_cutAll 236 = .ok (.iastore, 1) := by decide +kernel
theorem dX12_cutAll_237 : decode cX12_cutAll 237 = .ok (.goto 28, 3) := by decide +kernel
theorem dX12_cutAll_240 : decode cX12_cutAll 240 = .ok (.iload_n 3, 1) := by decide +kernel
theorem dX12_cutAll_241 : decode cX12_cutAll 241 = .ok (.i2l, 1) := by decide +kernel
theorem dX12_cutAll_242 : decode cX12_cutAll 242 = .ok (.lstore 5, 2) := by decide +kernel
theorem dX12_cutAll_244 : decode cX12_cutAll 244 = .ok (.aload_n 0, 1) := by decide +kernel
theorem dX12_cutAll_245 : decode cX12_cutAll 245 = .ok (.getfield 24, 3) := by decide +kernel
theorem dX12_cutAll_248 : decode cX12_cutAll 248 = .ok (.iload_n 1, 1) := by decide +kernel
theorem dX12_cutAll_249 : decode cX12_cutAll 249 = .ok (.iload_n 3, 1) := by decide +kernel
theorem dX12_cutAll_250 : decode cX12_cutAll 250 = .ok (.invokestatic 192, 3) := by decide +kernel
theorem dX12_cutAll_253 : decode cX12_cutAll 253 = .ok (.ifCond .eq 7, 3) := by decide +kernel
theorem dX12_cutAll_256 : decode cX12_cutAll 256 = .ok (.iconst 3, 1) := by decide +kernel
theorem dX12_cutAll_257 : decode cX12_cutAll 257 = .ok (.goto 4, 3) := by decide +kernel
theorem dX12_cutAll_260 : decode cX12_cutAll 260 = .ok (.iconst 4, 1) := by decide +kernel
theorem dX12_cutAll_261 : decode cX12_cutAll 261 = .ok (.iastore, 1) := by decide +kernel
theorem dX12_cutAll_262 : decode cX12_cutAll 262 = .ok (.iinc 2 1, 3) := by decide +kernel
theorem dX12_cutAll_265 : decode cX12_cutAll 265 = .ok (.aload_n 0, 1) := by decide +kernel
theorem dX12_cutAll_266 : decode cX12_cutAll 266 = .ok (.getfield 30, 3) := by decide +kernel
theorem dX12_cutAll_269 : decode cX12_cutAll 269 = .ok (.iload_n 1, 1) := by decide +kernel
theorem dX12_cutAll_270 : decode cX12_cutAll 270 = .ok (.lload 5, 2) := by decide +kernel
theorem dX12_cutAll_272 : decode cX12_cutAll 272 = .ok (.lastore, 1) := by decide +kernel
theorem dX12_cutAll_273 : decode cX12_cutAll 273 = .ok (.iinc 1 1, 3) := by decide +kernel
theorem dX12_cutAll_276 : decode cX12_cutAll 276 = .ok (.goto (-259), 3) := by decide +kernel
theorem dX12_cutAll_279 : decode cX12_cutAll 279 = .ok (.aload_n 0, 1) := by decide +kernel
theorem dX12_cutAll_280 : decode cX12_cutAll 280 = .ok (.getfield 24, 3) := by decide +kernel
theorem dX12_cutAll_283 : decode cX12_cutAll 283 = .ok (.iload_n 1, 1) := by decide +kernel
theorem dX12_cutAll_284 : decode cX12_cutAll 284 = .ok (.iconst 0, 1) := by decide +kernel
theorem dX12_cutAll_285 : decode cX12_cutAll 285 = .ok (.iastore, 1) := by decide +kernel
theorem dX12_cutAll_286 : decode cX12_cutAll 286 = .ok (.aload_n 0, 1) := by decide +kernel
theorem dX12_cutAll_287 : decode cX12_cutAll 287 = .ok (.getfield 27, 3) := by decide +kernel
theorem dX12_cutAll_290 : decode cX12_cutAll 290 = .ok (.iload_n 1, 1) := by decide +kernel
theorem dX12_cutAll_291 : decode cX12_cutAll 291 = .ok (.aload_n 0, 1) := by decide +kernel
theorem dX12_cutAll_292 : decode cX12_cutAll 292 = .ok (.getfield 176, 3) := by decide +kernel
theorem dX12_cutAll_295 : decode cX12_cutAll 295 = .ok (.iastore, 1) := by decide +kernel
theorem dX12_cutAll_296 : decode cX12_cutAll 296 = .ok (.aload_n 0, 1) := by decide +kernel
theorem dX12_cutAll_297 : decode cX12_cutAll 297 = .ok (.iconst 0, 1) := by decide +kernel
theorem dX12_cutAll_298 : decode cX12_cutAll 298 = .ok (.putfield 195, 3) := by decide +kernel
theorem dX12_cutAll_301 : decode cX12_cutAll 301 = .ok (.aload_n 0, 1) := by decide +kernel
theorem dX12_cutAll_302 : decode cX12_cutAll 302 = .ok (.iconst 0, 1) := by decide +kernel
theorem dX12_cutAll_303 : decode cX12_cutAll 303 = .ok (.putfield 198, 3) := by decide +kernel
theorem dX12_cutAll_306 : decode cX12_cutAll 306 = .ok (.return_, 1) := by decide +kernel
theorem dX12_wrong_0 : decode cX12_wrong 0 = .ok (.aload_n 0, 1) := by decide +kernel
theorem dX12_wrong_1 : decode cX12_wrong 1 = .ok (.getfield 198, 3) := by decide +kernel
theorem dX12_wrong_4 : decode cX12_wrong 4 = .ok (.ifCond .ne 21, 3) := by decide +kernel
theorem dX12_wrong_7 : decode cX12_wrong 7 = .ok (.aload_n 0, 1) := by decide +kernel
theorem dX12_wrong_8 : decode cX12_wrong 8 = .ok (.iload_n 1, 1) := by decide +kernel
theorem dX12_wrong_9 : decode cX12_wrong 9 = .ok (.bipush 16, 2) := by decide +kernel
theorem dX12_wrong_11 : decode cX12_wrong 11 = .ok (.aload_n 0, 1) := by decide +kernel
theorem dX12_wrong_12 : decode cX12_wrong 12 = .ok (.getfield 27, 3) := by decide +kernel
theorem dX12_wrong_15 : decode cX12_wrong 15 = .ok (.aload_n 0, 1) := by decide +kernel
theorem dX12_wrong_16 : decode cX12_wrong 16 = .ok (.getfield 195, 3) := by decide +kernel
theorem dX12_wrong_19 : decode cX12_wrong 19 = .ok (.iaload, 1) := by decide +kernel
theorem dX12_wrong_20 : decode cX12_wrong 20 = .ok (.imul, 1) := by decide +kernel
theorem dX12_wrong_21 : decode cX12_wrong 21 = .ok (.iadd, 1) := by decide +kernel
theorem dX12_wrong_22 : decode cX12_wrong 22 = .ok (.putfield 198, 3) := by decide +kernel
theorem dX12_wrong_25 : decode cX12_wrong 25 = .ok (.return_, 1) := by decide +kernel
theorem dX12_isSign_0 : decode cX12_isSign 0 = .ok (.aload_n 0, 1) := by decide +kernel
theorem dX12_isSign_1 : decode cX12_isSign 1 = .ok (.getfield 198, 3) := by decide +kernel
theorem dX12_isSign_4 : decode cX12_isSign 4 = .ok (.ifCond .ne 35, 3) := by decide +kernel
theorem dX12_isSign_7 : decode cX12_isSign 7 = .ok (.aload_n 0, 1) := by decide +kernel
theorem dX12_isSign_8 : decode cX12_isSign 8 = .ok (.getfield 24, 3) := by decide +kernel
theorem dX12_isSign_11 : decode cX12_isSign 11 = .ok (.aload_n 0, 1) := by decide +kernel
theorem dX12_isSign_12 : decode cX12_isSign 12 = .ok (.getfield 195, 3) := by decide +kernel
theorem dX12_isSign_15 : decode cX12_isSign 15 = .ok (.iaload, 1) := by decide +kernel
theorem dX12_isSign_16 : decode cX12_isSign 16 = .ok (.iconst 3, 1) := by decide +kernel
theorem dX12_isSign_17 : decode cX12_isSign 17 = .ok (.if_icmp .ne 22, 3) := by decide +kernel
theorem dX12_isSign_20 : decode cX12_isSign 20 = .ok (.aload_n 0, 1) := by decide +kernel
theorem dX12_isSign_21 : decode cX12_isSign 21 = .ok (.getfield 30, 3) := by decide +kernel
theorem dX12_isSign_24 : decode cX12_isSign 24 = .ok (.aload_n 0, 1) := by decide +kernel
theorem dX12_isSign_25 : decode cX12_isSign 25 = .ok (.getfield 195, 3) := by decide +kernel
theorem dX12_isSign_28 : decode cX12_isSign 28 = .ok (.laload, 1) := by decide +kernel
theorem dX12_isSign_29 : decode cX12_isSign 29 = .ok (.iload_n 1, 1) := by decide +kernel
theorem dX12_isSign_30 : decode cX12_isSign 30 = .ok (.i2l, 1) := by decide +kernel
theorem dX12_isSign_31 : decode cX12_isSign 31 = .ok (.lcmp, 1) := by decide +kernel
theorem dX12_isSign_32 : decode cX12_isSign 32 = .ok (.ifCond .ne 7, 3) := by decide +kernel
theorem dX12_isSign_35 : decode cX12_isSign 35 = .ok (.iconst 1, 1) := by decide +kernel
theorem dX12_isSign_36 : decode cX12_isSign 36 = .ok (.goto 4, 3) := by decide +kernel
theorem dX12_isSign_39 : decode cX12_isSign 39 = .ok (.iconst 0, 1) := by decide +kernel
theorem dX12_isSign_40 : decode cX12_isSign 40 = .ok (.ireturn, 1) := by decide +kernel
theorem dX12_isWord_0 : decode cX12_isWord 0 = .ok (.aload_n 0, 1) := by decide +kernel
theorem dX12_isWord_1 : decode cX12_isWord 1 = .ok (.getfield 198, 3) := by decide +kernel
theorem dX12_isWord_4 : decode cX12_isWord 4 = .ok (.ifCond .ne 39, 3) := by decide +kernel
theorem dX12_isWord_7 : decode cX12_isWord 7 = .ok (.aload_n 0, 1) := by decide +kernel
theorem dX12_isWord_8 : decode cX12_isWord 8 = .ok (.getfield 24, 3) := by decide +kernel
theorem dX12_isWord_11 : decode cX12_isWord 11 = .ok (.aload_n 0, 1) := by decide +kernel
theorem dX12_isWord_12 : decode cX12_isWord 12 = .ok (.getfield 195, 3) := by decide +kernel
theorem dX12_isWord_15 : decode cX12_isWord 15 = .ok (.iaload, 1) := by decide +kernel
theorem dX12_isWord_16 : decode cX12_isWord 16 = .ok (.iconst 1, 1) := by decide +kernel
theorem dX12_isWord_17 : decode cX12_isWord 17 = .ok (.if_icmp .ne 26, 3) := by decide +kernel
theorem dX12_isWord_20 : decode cX12_isWord 20 = .ok (.aload_n 0, 1) := by decide +kernel
theorem dX12_isWord_21 : decode cX12_isWord 21 = .ok (.getfield 30, 3) := by decide +kernel
theorem dX12_isWord_24 : decode cX12_isWord 24 = .ok (.aload_n 0, 1) := by decide +kernel
theorem dX12_isWord_25 : decode cX12_isWord 25 = .ok (.getfield 195, 3) := by decide +kernel
theorem dX12_isWord_28 : decode cX12_isWord 28 = .ok (.laload, 1) := by decide +kernel
theorem dX12_isWord_29 : decode cX12_isWord 29 = .ok (.aload_n 0, 1) := by decide +kernel
theorem dX12_isWord_30 : decode cX12_isWord 30 = .ok (.getfield 98, 3) := by decide +kernel
theorem dX12_isWord_33 : decode cX12_isWord 33 = .ok (.iload_n 1, 1) := by decide +kernel
theorem dX12_isWord_34 : decode cX12_isWord 34 = .ok (.laload, 1) := by decide +kernel
theorem dX12_isWord_35 : decode cX12_isWord 35 = .ok (.lcmp, 1) := by decide +kernel
theorem dX12_isWord_36 : decode cX12_isWord 36 = .ok (.ifCond .ne 7, 3) := by decide +kernel
theorem dX12_isWord_39 : decode cX12_isWord 39 = .ok (.iconst 1, 1) := by decide +kernel
theorem dX12_isWord_40 : decode cX12_isWord 40 = .ok (.goto 4, 3) := by decide +kernel
theorem dX12_isWord_43 : decode cX12_isWord 43 = .ok (.iconst 0, 1) := by decide +kernel
theorem dX12_isWord_44 : decode cX12_isWord 44 = .ok (.ireturn, 1) := by decide +kernel
set_option maxRecDepth 20000 in
theorem gX12_takeSign_X12_isSign : GoodIn wsX12_takeSign (wsV RX12 201 RX12 yX12_isSign wsX12_isSign) := goodIn_r _ [2, 3, 4, 5, 6, 7, 8, 1, 9, 15, 16, 17, 18, 19, 20, 21, 22, 23, 24, 25, 26, 27, 28, 29, 30, 31, 32, 33, 34, 35, 36, 37, 38, 39, 40, 41, 42, 43, 44, 45, 46, 47, 48, 49, 50, 51, 52, 53] rfl (by decide +kernel)
set_option maxRecDepth 20000 in
theorem gX12_takeSign_X12_wrong : GoodIn wsX12_takeSign (wsV RX12 204 RX12 yX12_wrong wsX12_wrong) := goodIn_r _ [10, 11, 12, 5, 13, 7, 14, 1, 15, 16, 17, 18, 19, 20, 21, 22, 23, 24, 25, 26, 27, 28, 29, 30, 31, 32, 33, 34, 35, 36, 37, 38, 39, 40, 41, 42, 43, 44, 45, 46, 47, 48, 49, 50, 51, 52, 53] rfl (by decide +kernel)
theorem dX12_takeSign_0 : decode cX12_takeSign 0 = .ok (.aload_n 0, 1) := by decide +kernel
theorem dX12_takeSign_1 : decode cX12_takeSign 1 = .ok (.iload_n 1, 1) := by decide +kernel
theorem dX12_takeSign_2 : decode cX12_takeSign 2 = .ok (.invokevirtual 201, 3) := by decide +kernel
theorem dX12_takeSign_5 : decode cX12_takeSign 5 = .ok (.ifCond .eq 16, 3) := by decide +kernel
theorem dX12_takeSign_8 : decode cX12_takeSign 8 = .ok (.aload_n 0, 1) := by decide +kernel
theorem dX12_takeSign_9 : decode cX12_takeSign 9 = .ok (.dup, 1) := by decide +kernel
theorem dX12_takeSign_10 : decode cX12_takeSign 10 = .ok (.getfield 195, 3) := by decide +kernel
theorem dX12_takeSign_13 : decode cX12_takeSign 13 = .ok (.iconst 1, 1) := by decide +kernel
theorem dX12_takeSign_14 : decode cX12_takeSign 14 = .ok (.iadd, 1) := by decide +kernel
theorem dX12_takeSign_15 : decode cX12_takeSign 15 = .ok (.putfield 195, 3) := by decide +kernel
theorem dX12_takeSign_18 : decode cX12_takeSign 18 = .ok (.goto 8, 3) := by decide +kernel
theorem dX12_takeSign_21 : decode cX12_takeSign 21 = .ok (.aload_n 0, 1) := by decide +kernel
theorem dX12_takeSign_22 : decode cX12_takeSign 22 = .ok (.iconst 1, 1) := by decide +kernel
theorem dX12_takeSign_23 : decode cX12_takeSign 23 = .ok (.invokevirtual 204, 3) := by decide +kernel
theorem dX12_takeSign_26 : decode cX12_takeSign 26 = .ok (.return_, 1) := by decide +kernel
set_option maxRecDepth 20000 in
theorem gX12_hasSign_X12_isSign : GoodIn wsX12_hasSign (wsV RX12 201 RX12 yX12_isSign wsX12_isSign) := goodIn_r _ [2, 3, 4, 5, 6, 7, 8, 1, 9, 10, 11, 12, 13, 14, 15, 16, 17, 18, 19, 20, 21, 22, 23, 24, 25, 26, 27, 28, 29, 30, 31, 32, 33, 34, 35, 36, 37, 38, 39, 40, 41, 42, 43, 44, 45, 46, 47, 48] rfl (by decide +kernel)
theorem dX12_hasSign_0 : decode cX12_hasSign 0 = .ok (.aload_n 0, 1) := by decide +kernel
theorem dX12_hasSign_1 : decode cX12_hasSign 1 = .ok (.iload_n 1, 1) := by decide +kernel
theorem dX12_hasSign_2 : decode cX12_hasSign 2 = .ok (.invokevirtual 201, 3) := by decide +kernel
theorem dX12_hasSign_5 : decode cX12_hasSign 5 = .ok (.istore_n 2, 1) := by decide +kernel
theorem dX12_hasSign_6 : decode cX12_hasSign 6 = .ok (.aload_n 0, 1) := by decide +kernel
theorem dX12_hasSign_7 : decode cX12_hasSign 7 = .ok (.dup, 1) := by decide +kernel
theorem dX12_hasSign_8 : decode cX12_hasSign 8 = .ok (.getfield 195, 3) := by decide +kernel
theorem dX12_hasSign_11 : decode cX12_hasSign 11 = .ok (.iload_n 2, 1) := by decide +kernel
theorem dX12_hasSign_12 : decode cX12_hasSign 12 = .ok (.ifCond .eq 7, 3) := by decide +kernel
theorem dX12_hasSign_15 : decode cX12_hasSign 15 = .ok (.iconst 1, 1) := by decide +kernel
theorem dX12_hasSign_16 : decode cX12_hasSign 16 = .ok (.goto 4, 3) := by decide +kernel
theorem dX12_hasSign_19 : decode cX12_hasSign 19 = .ok (.iconst 0, 1) := by decide +kernel
theorem dX12_hasSign_20 : decode cX12_hasSign 20 = .ok (.iadd, 1) := by decide +kernel
theorem dX12_hasSign_21 : decode cX12_hasSign 21 = .ok (.putfield 195, 3) := by decide +kernel
theorem dX12_hasSign_24 : decode cX12_hasSign 24 = .ok (.iload_n 2, 1) := by decide +kernel
theorem dX12_hasSign_25 : decode cX12_hasSign 25 = .ok (.ireturn, 1) := by decide +kernel
section
variable {p : Program} {l : Launch} {e : Env} {s : State} {m : MethodId} {args : Array Value} {below : List Frame} {meth : Method} {c : Code} {D : va_G} {cy : Nat → ClassId} {ad : Nat → Nat} {A : Nat → Prop} {aM aB aO aI aN aT aC aG aR aQ aK aL aX aH aJ aP aU aE0 aE1 aE2 aE3 : Nat → Nat} {gi : Value}
abbrev rm12_begins : Room := { frames := 4, cells := 0, slots := 0, locals := 94 }
theorem hdV12_begins : yX12_begins.cls = RX12 ∧ (yX12_begins.cls ≠ "java/lang/invoke/MethodHandle" ∧ yX12_begins.cls ≠ "java/lang/invoke/VarHandle" ∧ (parseMethodDescriptor yX12_begins.desc).map (fun d => d.parameters.length) = some 0) := by decide +kernel
theorem hin12_begins_12 : ∀ x ∈ u_ws RX12 TX12 39, x ∈ wsX12_begins := fun _ h => List.mem_cons_of_mem _ (List.mem_append_right _ h)
set_option maxRecDepth 100000 in
set_option maxHeartbeats 4000000 in
theorem t12_begins_56 (hC : Cx p s m args meth c cX12_begins 3 wsX12_begins RX12 none) {k41 : Int32 → Ob → Option (Ob)} (hk41 : ∀ (x1 : Int32) (SM : Ob) (res : Ob) (H : Heap) (locs : List Loc) (ls : Array Slot), k41 x1 SM = some res → GW D cy ad (w12 cy aM SM) A s H locs → lv_has ls 3 [(0, .ref (aM 0)), (1, .int x1)] → W p l e rm12_begins s m args below meth c H locs 0 0 (MQ below (QV D cy (w12 cy aM res) A) args s 0 0 A) (F0 m 41 ls [])) : ∀ n : Nat, ∀ (x1 : Int32) (x2 : Int32) (SM : Ob) (res : Ob) (H : Heap) (locs : List Loc) (ls : Array Slot), f12_begins_56 k41 n x1 x2 SM = some res → GW D cy ad (w12 cy aM SM) A s H locs → lv_has ls 3 [(0, .ref (aM 0)), (1, .int x1), (2, .int x2)] → W p l e rm12_begins s m args below meth c H locs 0 0 (MQ below (QV D cy (w12 cy aM res) A) args s 0 0 A) (F0 m 56 ls []) := by
  intro n
  induction n with
  | zero =>
    intro _ _ _ _ _ _ _ hf _ _
    exact nomatch (show (none : Option (Ob)) = some _ from hf)
  | succ n ih =>
    intro x1 x2 SM res H locs ls hf hW hl
    rw [f12_begins_56] at hf
    refine lv_iload_n hC.1 hC.2.1 dX12_begins_56 rfl (lv_at hl 2 rfl) ?_
    refine lv_aload_n hC.1 hC.2.1 dX12_begins_57 rfl (lv_at hl 0 rfl) ?_
    obtain ⟨r_1, hg_2, hf⟩ := bd_of hf
    refine g_calliV hC hW (c12_signs l D cy ad aM hg_2) (cwV 0 hC.2.2.2.2.1 gX12_begins_X12_signs rfl rfl rfl hdV12_signs ⟨Nat.le_of_ble_eq_true rfl, Nat.le_of_ble_eq_true rfl⟩) (Sub.all _ _) 0 11 rfl rfl rfl rfl hl.1 rfl (Nat.le_of_ble_eq_true rfl) dX12_begins_58 ⟨Nat.zero_le _, Nat.zero_le _⟩ (fun H locs hW => ?_)
    refine lv_icmp_ge (tgt := 91) hC.1 hC.2.1 dX12_begins_61 (by decide) (fun hc_3 => ?_) (fun hc_3 => ?_)
    · have hf := ite_t hf hc_3
      obtain ⟨x1_4, ex1_4⟩ : ∃ y : Int32, y = x1 + 1 := ⟨_, rfl⟩
      have hf := lt_nm hf ex1_4
      refine lv_iinc (v := x1_4) (lv' := [(1, .int x1_4), (0, .ref (aM 0)), (2, .int x2)]) hC.1 hC.2.1 dX12_begins_91 hl (k := 1) rfl (by rw [ex1_4]; rfl) (by decide) rfl (fun ls hl => ?_)
      refine lv_goto (tgt := 41) hC.1 hC.2.1 dX12_begins_94 (by decide) ?_
      exact hk41 _ _ _ _ _ _ hf hW (lv_sub hl [1, 0] rfl)
    · have hf := ite_f hf hc_3
      refine lv_aload_n hC.1 hC.2.1 dX12_begins_64 rfl (lv_at hl 0 rfl) ?_
      refine g_get hC hW hin12_begins_12 0 rfl rfl 29 (by decide) 3 rfl rfl dX12_begins_65 ?_
      refine lv_iload_n hC.1 hC.2.1 dX12_begins_68 rfl (lv_at hl 1 rfl) ?_
      refine lv_dup2_11 hC.1 hC.2.1 dX12_begins_69 rfl rfl ?_
      obtain ⟨hi_5, hf⟩ := ck_of hf
      refine g_iald hC hW 19 rfl hi_5 dX12_begins_70 ?_
      refine lv_aload_n hC.1 hC.2.1 dX12_begins_71 rfl (lv_at hl 0 rfl) ?_
      refine g_get hC hW hin12_begins_12 0 rfl rfl 28 (by decide) 1 rfl rfl dX12_begins_72 ?_
      refine lv_iload_n hC.1 hC.2.1 dX12_begins_75 rfl (lv_at hl 2 rfl) ?_
      obtain ⟨hi_6, hf⟩ := ck_of hf
      refine g_iald hC hW 18 rfl hi_6 dX12_begins_76 ?_
      refine lv_iload_n hC.1 hC.2.1 dX12_begins_77 rfl (lv_at hl 1 rfl) ?_
      refine lv_ishr hC.1 hC.2.1 dX12_begins_78 ?_
      refine lv_iconst (v := 1) hC.1 hC.2.1 dX12_begins_79 (by decide) ?_
      refine lv_iand hC.1 hC.2.1 dX12_begins_80 ?_
      refine lv_iload_n hC.1 hC.2.1 dX12_begins_81 rfl (lv_at hl 2 rfl) ?_
      refine lv_ishl hC.1 hC.2.1 dX12_begins_82 ?_
      refine lv_ior hC.1 hC.2.1 dX12_begins_83 ?_
      obtain ⟨hi_7, hf⟩ := ck_of hf
      obtain ⟨SM_8, eSM_8⟩ : ∃ y : Ob, y = oA SM 29 (Int32.toNatClampNeg x1) ((SM.2.2.1 29 (Int32.toNatClampNeg x1)) ||| ((((SM.2.2.1 28 (Int32.toNatClampNeg x2)) >>> (x1 &&& 31)) &&& 1) <<< (x2 &&& 31))) := ⟨_, rfl⟩
      have hf := lt_nm hf eSM_8
      refine g_iast hC hW 19 rfl hi_7 (w' := w12 cy aM SM_8) (by rw [eSM_8]; rfl) dX12_begins_84 (fun H locs hW => ?_)
      obtain ⟨x2_9, ex2_9⟩ : ∃ y : Int32, y = x2 + 1 := ⟨_, rfl⟩
      have hf := lt_nm hf ex2_9
      refine lv_iinc (v := x2_9) (lv' := [(2, .int x2_9), (0, .ref (aM 0)), (1, .int x1)]) hC.1 hC.2.1 dX12_begins_85 hl (k := 2) rfl (by rw [ex2_9]; rfl) (by decide) rfl (fun ls hl => ?_)
      refine lv_goto (tgt := 56) hC.1 hC.2.1 dX12_begins_88 (by decide) ?_
      exact ih _ _ _ _ _ _ _ hf hW (lv_sub hl [1, 2, 0] rfl)
set_option maxRecDepth 100000 in
set_option maxHeartbeats 4000000 in
theorem t12_begins_124 (hC : Cx p s m args meth c cX12_begins 3 wsX12_begins RX12 none) : ∀ n : Nat, ∀ (x1 : Int32) (SM : Ob) (res : Ob) (H : Heap) (locs : List Loc) (ls : Array Slot), f12_begins_124 n x1 SM = some res → GW D cy ad (w12 cy aM SM) A s H locs → lv_has ls 3 [(0, .ref (aM 0)), (1, .int x1)] → W p l e rm12_begins s m args below meth c H locs 0 0 (MQ below (QV D cy (w12 cy aM res) A) args s 0 0 A) (F0 m 124 ls []) := by
  intro n
  induction n with
  | zero =>
    intro _ _ _ _ _ _ hf _ _
    exact nomatch (show (none : Option (Ob)) = some _ from hf)
  | succ n ih =>
    intro x1 SM res H locs ls hf hW hl
    rw [f12_begins_124] at hf
    refine lv_iload_n hC.1 hC.2.1 dX12_begins_124 rfl (lv_at hl 1 rfl) ?_
    refine lv_iconst (v := 4) hC.1 hC.2.1 dX12_begins_125 (by decide) ?_
    refine lv_icmp_ge (tgt := 142) hC.1 hC.2.1 dX12_begins_126 (by decide) (fun hc_1 => ?_) (fun hc_1 => ?_)
    · have hf := ite_t hf hc_1
      obtain rfl := Option.some.inj hf
      exact g_vret hC hW dX12_begins_142
    · have hf := ite_f hf hc_1
      refine lv_aload_n hC.1 hC.2.1 dX12_begins_129 rfl (lv_at hl 0 rfl) ?_
      refine g_get hC hW hin12_begins_12 0 rfl rfl 27 (by decide) 7 rfl rfl dX12_begins_130 ?_
      refine lv_iload_n hC.1 hC.2.1 dX12_begins_133 rfl (lv_at hl 1 rfl) ?_
      refine lv_iconst (v := 0) hC.1 hC.2.1 dX12_begins_134 (by decide) ?_
      obtain ⟨hi_2, hf⟩ := ck_of hf
      obtain ⟨SM_3, eSM_3⟩ : ∃ y : Ob, y = oA SM 27 (Int32.toNatClampNeg x1) (vp_nar .boolean 0) := ⟨_, rfl⟩
      have hf := lt_nm hf eSM_3
      refine g_zast hC hW 17 rfl hi_2 (w' := w12 cy aM SM_3) (by rw [eSM_3]; rfl) dX12_begins_135 (fun H locs hW => ?_)
      obtain ⟨x1_4, ex1_4⟩ : ∃ y : Int32, y = x1 + 1 := ⟨_, rfl⟩
      have hf := lt_nm hf ex1_4
      refine lv_iinc (v := x1_4) (lv' := [(1, .int x1_4), (0, .ref (aM 0))]) hC.1 hC.2.1 dX12_begins_136 hl (k := 1) rfl (by rw [ex1_4]; rfl) (by decide) rfl (fun ls hl => ?_)
      refine lv_goto (tgt := 124) hC.1 hC.2.1 dX12_begins_139 (by decide) ?_
      exact ih _ _ _ _ _ _ hf hW (lv_sub hl [1, 0] rfl)
set_option maxRecDepth 100000 in
set_option maxHeartbeats 4000000 in
theorem t12_begins_41 (hC : Cx p s m args meth c cX12_begins 3 wsX12_begins RX12 none) : ∀ n : Nat, ∀ (x1 : Int32) (SM : Ob) (res : Ob) (H : Heap) (locs : List Loc) (ls : Array Slot), f12_begins_41 n x1 SM = some res → GW D cy ad (w12 cy aM SM) A s H locs → lv_has ls 3 [(0, .ref (aM 0)), (1, .int x1)] → W p l e rm12_begins s m args below meth c H locs 0 0 (MQ below (QV D cy (w12 cy aM res) A) args s 0 0 A) (F0 m 41 ls []) := by
  intro n
  induction n with
  | zero =>
    intro _ _ _ _ _ _ hf _ _
    exact nomatch (show (none : Option (Ob)) = some _ from hf)
  | succ n ih =>
    intro x1 SM res H locs ls hf hW hl
    rw [f12_begins_41] at hf
    refine lv_iload_n hC.1 hC.2.1 dX12_begins_41 rfl (lv_at hl 1 rfl) ?_
    refine lv_bipush (v := 32) hC.1 hC.2.1 dX12_begins_42 (by decide) ?_
    refine lv_icmp_ge (tgt := 97) hC.1 hC.2.1 dX12_begins_44 (by decide) (fun hc_1 => ?_) (fun hc_1 => ?_)
    · have hf := ite_t hf hc_1
      refine lv_aload_n hC.1 hC.2.1 dX12_begins_97 rfl (lv_at hl 0 rfl) ?_
      refine lv_iconst (v := 0) hC.1 hC.2.1 dX12_begins_98 (by decide) ?_
      obtain ⟨r_2, hg_3, hf⟩ := bd_of hf
      refine g_callvV hC hW (c12_starts l D cy ad aM hg_3) (cwV 1 hC.2.2.2.2.1 gX12_begins_X12_starts rfl rfl rfl hdV12_starts ⟨Nat.le_of_ble_eq_true rfl, Nat.le_of_ble_eq_true rfl⟩) (Sub.all _ _) 0 11 rfl rfl rfl rfl hl.1 rfl (Nat.le_of_ble_eq_true rfl) dX12_begins_99 ⟨Nat.zero_le _, Nat.zero_le _⟩ (fun H locs hW => ?_)
      refine lv_aload_n hC.1 hC.2.1 dX12_begins_102 rfl (lv_at hl 0 rfl) ?_
      refine g_get hC hW hin12_begins_12 0 rfl rfl 25 (by decide) 4 rfl rfl dX12_begins_103 ?_
      refine lv_bipush (v := 12) hC.1 hC.2.1 dX12_begins_106 (by decide) ?_
      refine lv_iconst (v := 0) hC.1 hC.2.1 dX12_begins_108 (by decide) ?_
      obtain ⟨hi_4, hf⟩ := ck_of hf
      obtain ⟨SM_5, eSM_5⟩ : ∃ y : Ob, y = oA r_2 25 (Int32.toNatClampNeg 12) 0 := ⟨_, rfl⟩
      have hf := lt_nm hf eSM_5
      refine g_iast hC hW 16 rfl hi_4 (w' := w12 cy aM SM_5) (by rw [eSM_5]; rfl) dX12_begins_109 (fun H locs hW => ?_)
      refine lv_aload_n hC.1 hC.2.1 dX12_begins_110 rfl (lv_at hl 0 rfl) ?_
      refine g_get hC hW hin12_begins_12 0 rfl rfl 22 (by decide) 5 rfl rfl dX12_begins_111 ?_
      refine lv_iconst (v := 0) hC.1 hC.2.1 dX12_begins_114 (by decide) ?_
      refine lv_iconst (v := 0) hC.1 hC.2.1 dX12_begins_115 (by decide) ?_
      obtain ⟨hi_6, hf⟩ := ck_of hf
      obtain ⟨SM_7, eSM_7⟩ : ∃ y : Ob, y = oA SM_5 22 (Int32.toNatClampNeg 0) 0 := ⟨_, rfl⟩
      have hf := lt_nm hf eSM_7
      refine g_iast hC hW 13 rfl hi_6 (w' := w12 cy aM SM_7) (by rw [eSM_7]; rfl) dX12_begins_116 (fun H locs hW => ?_)
      refine lv_aload_n hC.1 hC.2.1 dX12_begins_117 rfl (lv_at hl 0 rfl) ?_
      refine lv_iconst (v := 0) hC.1 hC.2.1 dX12_begins_118 (by decide) ?_
      obtain ⟨SM_8, eSM_8⟩ : ∃ y : Ob, y = oI SM_7 26 0 := ⟨_, rfl⟩
      have hf := lt_nm hf eSM_8
      refine g_put hC hW hin12_begins_12 tyX12 tyX12_ok nmX12 0 rfl rfl 26 (by decide) 6 rfl rfl rfl rfl (Nat.le_of_ble_eq_true rfl) (w' := w12 cy aM SM_8) (by rw [eSM_8]; rfl) dX12_begins_119 (fun H locs hW => ?_)
      refine lv_iconst (v := 0) hC.1 hC.2.1 dX12_begins_122 (by decide) ?_
      refine lv_istore_n (lv' := [(1, .int 0), (0, .ref (aM 0))]) hC.1 hC.2.1 dX12_begins_123 rfl hl (by decide) rfl (fun ls hl => ?_)
      exact t12_begins_124 hC _ _ _ _ _ _ _ hf hW (lv_sub hl [1, 0] rfl)
    · have hf := ite_f hf hc_1
      refine lv_aload_n hC.1 hC.2.1 dX12_begins_47 rfl (lv_at hl 0 rfl) ?_
      refine g_get hC hW hin12_begins_12 0 rfl rfl 29 (by decide) 3 rfl rfl dX12_begins_48 ?_
      refine lv_iload_n hC.1 hC.2.1 dX12_begins_51 rfl (lv_at hl 1 rfl) ?_
      refine lv_iconst (v := 0) hC.1 hC.2.1 dX12_begins_52 (by decide) ?_
      obtain ⟨hi_9, hf⟩ := ck_of hf
      obtain ⟨SM_10, eSM_10⟩ : ∃ y : Ob, y = oA SM 29 (Int32.toNatClampNeg x1) 0 := ⟨_, rfl⟩
      have hf := lt_nm hf eSM_10
      refine g_iast hC hW 19 rfl hi_9 (w' := w12 cy aM SM_10) (by rw [eSM_10]; rfl) dX12_begins_53 (fun H locs hW => ?_)
      refine lv_iconst (v := 0) hC.1 hC.2.1 dX12_begins_54 (by decide) ?_
      refine lv_istore_n (lv' := [(2, .int 0), (0, .ref (aM 0)), (1, .int x1)]) hC.1 hC.2.1 dX12_begins_55 rfl hl (by decide) rfl (fun ls hl => ?_)
      exact t12_begins_56 hC ih _ _ _ _ _ _ _ _ hf hW (lv_sub hl [1, 2, 0] rfl)
set_option maxRecDepth 100000 in
set_option maxHeartbeats 4000000 in
theorem t12_begins_2 (hC : Cx p s m args meth c cX12_begins 3 wsX12_begins RX12 none) : ∀ n : Nat, ∀ (x1 : Int32) (SM : Ob) (res : Ob) (H : Heap) (locs : List Loc) (ls : Array Slot), f12_begins_2 n x1 SM = some res → GW D cy ad (w12 cy aM SM) A s H locs → lv_has ls 3 [(0, .ref (aM 0)), (1, .int x1)] → W p l e rm12_begins s m args below meth c H locs 0 0 (MQ below (QV D cy (w12 cy aM res) A) args s 0 0 A) (F0 m 2 ls []) := by
  intro n
  induction n with
  | zero =>
    intro _ _ _ _ _ _ hf _ _
    exact nomatch (show (none : Option (Ob)) = some _ from hf)
  | succ n ih =>
    intro x1 SM res H locs ls hf hW hl
    rw [f12_begins_2] at hf
    refine lv_iload_n hC.1 hC.2.1 dX12_begins_2 rfl (lv_at hl 1 rfl) ?_
    refine lv_aload_n hC.1 hC.2.1 dX12_begins_3 rfl (lv_at hl 0 rfl) ?_
    obtain ⟨r_1, hg_2, hf⟩ := bd_of hf
    refine g_calliV hC hW (c12_signs l D cy ad aM hg_2) (cwV 0 hC.2.2.2.2.1 gX12_begins_X12_signs rfl rfl rfl hdV12_signs ⟨Nat.le_of_ble_eq_true rfl, Nat.le_of_ble_eq_true rfl⟩) (Sub.all _ _) 0 11 rfl rfl rfl rfl hl.1 rfl (Nat.le_of_ble_eq_true rfl) dX12_begins_4 ⟨Nat.zero_le _, Nat.zero_le _⟩ (fun H locs hW => ?_)
    refine lv_icmp_ge (tgt := 39) hC.1 hC.2.1 dX12_begins_7 (by decide) (fun hc_3 => ?_) (fun hc_3 => ?_)
    · have hf := ite_t hf hc_3
      refine lv_iconst (v := 0) hC.1 hC.2.1 dX12_begins_39 (by decide) ?_
      refine lv_istore_n (lv' := [(1, .int 0), (0, .ref (aM 0))]) hC.1 hC.2.1 dX12_begins_40 rfl hl (by decide) rfl (fun ls hl => ?_)
      exact t12_begins_41 hC _ _ _ _ _ _ _ hf hW (lv_sub hl [1, 0] rfl)
    · have hf := ite_f hf hc_3
      refine lv_aload_n hC.1 hC.2.1 dX12_begins_10 rfl (lv_at hl 0 rfl) ?_
      refine g_get hC hW hin12_begins_12 0 rfl rfl 28 (by decide) 1 rfl rfl dX12_begins_11 ?_
      refine lv_iload_n hC.1 hC.2.1 dX12_begins_14 rfl (lv_at hl 1 rfl) ?_
      refine lv_aload_n hC.1 hC.2.1 dX12_begins_15 rfl (lv_at hl 0 rfl) ?_
      refine lv_aload_n hC.1 hC.2.1 dX12_begins_16 rfl (lv_at hl 0 rfl) ?_
      refine g_get hC hW hin12_begins_12 0 rfl rfl 10 (by decide) 2 rfl rfl dX12_begins_17 ?_
      refine lv_bipush (v := 43) hC.1 hC.2.1 dX12_begins_20 (by decide) ?_
      refine lv_iconst (v := 2) hC.1 hC.2.1 dX12_begins_22 (by decide) ?_
      refine lv_iload_n hC.1 hC.2.1 dX12_begins_23 rfl (lv_at hl 1 rfl) ?_
      refine lv_imul hC.1 hC.2.1 dX12_begins_24 ?_
      refine lv_iadd hC.1 hC.2.1 dX12_begins_25 ?_
      refine lv_iconst (v := 1) hC.1 hC.2.1 dX12_begins_26 (by decide) ?_
      refine lv_iadd hC.1 hC.2.1 dX12_begins_27 ?_
      obtain ⟨hi_4, hf⟩ := ck_of hf
      refine g_iald hC hW 6 rfl hi_4 dX12_begins_28 ?_
      obtain ⟨r_5, hg_6, hf⟩ := bd_of hf
      refine g_calliV hC hW (c12_soIn l D cy ad aM hg_6) (cwV 1 hC.2.2.2.2.1 gX12_begins_X12_soIn rfl rfl rfl hdV12_soIn ⟨Nat.le_of_ble_eq_true rfl, Nat.le_of_ble_eq_true rfl⟩) (Sub.all _ _) 0 11 rfl rfl rfl rfl hl.1 rfl (Nat.le_of_ble_eq_true rfl) dX12_begins_29 ⟨Nat.zero_le _, Nat.zero_le _⟩ (fun H locs hW => ?_)
      obtain ⟨hi_7, hf⟩ := ck_of hf
      obtain ⟨SM_8, eSM_8⟩ : ∃ y : Ob, y = oA (r_5.2) 28 (Int32.toNatClampNeg x1) (r_5.1) := ⟨_, rfl⟩
      have hf := lt_nm hf eSM_8
      refine g_iast hC hW 18 rfl hi_7 (w' := w12 cy aM SM_8) (by rw [eSM_8]; rfl) dX12_begins_32 (fun H locs hW => ?_)
      obtain ⟨x1_9, ex1_9⟩ : ∃ y : Int32, y = x1 + 1 := ⟨_, rfl⟩
      have hf := lt_nm hf ex1_9
      refine lv_iinc (v := x1_9) (lv' := [(1, .int x1_9), (0, .ref (aM 0))]) hC.1 hC.2.1 dX12_begins_33 hl (k := 1) rfl (by rw [ex1_9]; rfl) (by decide) rfl (fun ls hl => ?_)
      refine lv_goto (tgt := 2) hC.1 hC.2.1 dX12_begins_36 (by decide) ?_
      exact ih _ _ _ _ _ _ hf hW (lv_sub hl [1, 0] rfl)
set_option maxRecDepth 100000 in
set_option maxHeartbeats 4000000 in
theorem t12_begins_0 (hC : Cx p s m args meth c cX12_begins 3 wsX12_begins RX12 none) : ∀ (SM : Ob) (res : Ob) (H : Heap) (locs : List Loc) (ls : Array Slot), f12_begins SM = some res → GW D cy ad (w12 cy aM SM) A s H locs → lv_has ls 3 [(0, .ref (aM 0))] → W p l e rm12_begins s m args below meth c H locs 0 0 (MQ below (QV D cy (w12 cy aM res) A) args s 0 0 A) (F0 m 0 ls []) := by
  intro SM res H locs ls hf hW hl
  unfold f12_begins at hf
  refine lv_iconst (v := 0) hC.1 hC.2.1 dX12_begins_0 (by decide) ?_
  refine lv_istore_n (lv' := [(1, .int 0), (0, .ref (aM 0))]) hC.1 hC.2.1 dX12_begins_1 rfl hl (by decide) rfl (fun ls hl => ?_)
  exact t12_begins_2 hC _ _ _ _ _ _ _ hf hW (lv_sub hl [1, 0] rfl)
set_option maxRecDepth 100000 in
set_option maxHeartbeats 4000000 in
theorem c12_begins (l : Launch) (D : va_G) (cy : Nat → ClassId) (ad : Nat → Nat) (aM : Nat → Nat) {SM : Ob} {res : Ob} (h : f12_begins SM = some res) : GCv l yX12_begins wsX12_begins rm12_begins [.ref (aM 0)] D cy ad (w12 cy aM SM) (w12 cy aM res) := fun sz => GC.start (own := RX12) (Qc := fun A => QV D cy (w12 cy aM res) A) sz (by decide) rfl rfl (Nat.le_of_ble_eq_true rfl) (fun p e s m below meth c A ls hC hW hl => t12_begins_0 hC _ _ _ _ _ h hW (lv_sub hl [0] rfl))
abbrev rm12_isLetter : Room := { frames := 0, cells := 0, slots := 0, locals := 0 }
theorem hdS12_isLetter : (yX12_isLetter.cls ≠ "java/lang/invoke/MethodHandle" ∧ yX12_isLetter.cls ≠ "java/lang/invoke/VarHandle" ∧ (parseMethodDescriptor yX12_isLetter.desc).map (fun d => d.parameters.length) = some 1) := by decide +kernel
set_option maxRecDepth 100000 in
set_option maxHeartbeats 4000000 in
theorem t12_isLetter_17 (hC : Cx p s m args meth c cX12_isLetter 1 wsX12_isLetter RX12 (some .boolean)) : ∀ (z0 : Int32) (res : Int32) (H : Heap) (locs : List Loc) (ls : Array Slot), f12_isLetter_17 z0 = some res → GW D cy ad (([] : va_W)) A s H locs → lv_has ls 1 [] → W p l e rm12_isLetter s m args below meth c H locs 0 0 (MQ below (QI D cy (([] : va_W)) A res) args s 0 0 A) (F0 m 17 ls [.int z0]) := by
  intro z0 res H locs ls hf hW hl
  unfold f12_isLetter_17 at hf
  obtain ⟨hz, hf⟩ := ck_of hf
  obtain rfl := Option.some.inj hf
  exact g_zret hC hW hz dX12_isLetter_17
set_option maxRecDepth 100000 in
set_option maxHeartbeats 4000000 in
theorem t12_isLetter_16 (hC : Cx p s m args meth c cX12_isLetter 1 wsX12_isLetter RX12 (some .boolean)) : ∀ (res : Int32) (H : Heap) (locs : List Loc) (ls : Array Slot), f12_isLetter_16 = some res → GW D cy ad (([] : va_W)) A s H locs → lv_has ls 1 [] → W p l e rm12_isLetter s m args below meth c H locs 0 0 (MQ below (QI D cy (([] : va_W)) A res) args s 0 0 A) (F0 m 16 ls []) := by
  intro res H locs ls hf hW hl
  unfold f12_isLetter_16 at hf
  refine lv_iconst (v := 0) hC.1 hC.2.1 dX12_isLetter_16 (by decide) ?_
  exact t12_isLetter_17 hC  _ _ _ _ _ hf hW (lv_sub hl [] rfl)
set_option maxRecDepth 100000 in
set_option maxHeartbeats 4000000 in
theorem t12_isLetter_0 (hC : Cx p s m args meth c cX12_isLetter 1 wsX12_isLetter RX12 (some .boolean)) : ∀ (x0 : Int32) (res : Int32) (H : Heap) (locs : List Loc) (ls : Array Slot), f12_isLetter x0 = some res → GW D cy ad (([] : va_W)) A s H locs → lv_has ls 1 [(0, .int x0)] → W p l e rm12_isLetter s m args below meth c H locs 0 0 (MQ below (QI D cy (([] : va_W)) A res) args s 0 0 A) (F0 m 0 ls []) := by
  intro x0 res H locs ls hf hW hl
  unfold f12_isLetter at hf
  refine lv_iload_n hC.1 hC.2.1 dX12_isLetter_0 rfl (lv_at hl 0 rfl) ?_
  refine lv_bipush (v := 97) hC.1 hC.2.1 dX12_isLetter_1 (by decide) ?_
  refine lv_icmp_lt (tgt := 16) hC.1 hC.2.1 dX12_isLetter_3 (by decide) (fun hc_1 => ?_) (fun hc_1 => ?_)
  · have hf := ite_t hf hc_1
    exact t12_isLetter_16 hC  _ _ _ _ hf hW (lv_sub hl [] rfl)
  · have hf := ite_f hf hc_1
    refine lv_iload_n hC.1 hC.2.1 dX12_isLetter_6 rfl (lv_at hl 0 rfl) ?_
    refine lv_bipush (v := 122) hC.1 hC.2.1 dX12_isLetter_7 (by decide) ?_
    refine lv_icmp_gt (tgt := 16) hC.1 hC.2.1 dX12_isLetter_9 (by decide) (fun hc_2 => ?_) (fun hc_2 => ?_)
    · have hf := ite_t hf hc_2
      exact t12_isLetter_16 hC  _ _ _ _ hf hW (lv_sub hl [] rfl)
    · have hf := ite_f hf hc_2
      refine lv_iconst (v := 1) hC.1 hC.2.1 dX12_isLetter_12 (by decide) ?_
      refine lv_goto (tgt := 17) hC.1 hC.2.1 dX12_isLetter_13 (by decide) ?_
      exact t12_isLetter_17 hC  _ _ _ _ _ hf hW (lv_sub hl [] rfl)
set_option maxRecDepth 100000 in
set_option maxHeartbeats 4000000 in
theorem c12_isLetter (l : Launch) (D : va_G) (cy : Nat → ClassId) (ad : Nat → Nat) {x0 : Int32} {res : Int32} (h : f12_isLetter x0 = some res) : GCi l yX12_isLetter wsX12_isLetter rm12_isLetter [.int x0] D cy ad (([] : va_W)) (([] : va_W)) res := fun sz => GC.start (own := RX12) (Qc := fun A => QI D cy (([] : va_W)) A res) sz (by decide) rfl rfl (Nat.le_of_ble_eq_true rfl) (fun p e s m below meth c A ls hC hW hl => t12_isLetter_0 hC _ _ _ _ _ h hW (lv_sub hl [0] rfl))
abbrev rm12_isDigit : Room := { frames := 0, cells := 0, slots := 0, locals := 0 }
theorem hdS12_isDigit : (yX12_isDigit.cls ≠ "java/lang/invoke/MethodHandle" ∧ yX12_isDigit.cls ≠ "java/lang/invoke/VarHandle" ∧ (parseMethodDescriptor yX12_isDigit.desc).map (fun d => d.parameters.length) = some 1) := by decide +kernel
set_option maxRecDepth 100000 in
set_option maxHeartbeats 4000000 in
theorem t12_isDigit_17 (hC : Cx p s m args meth c cX12_isDigit 1 wsX12_isDigit RX12 (some .boolean)) : ∀ (z0 : Int32) (res : Int32) (H : Heap) (locs : List Loc) (ls : Array Slot), f12_isDigit_17 z0 = some res → GW D cy ad (([] : va_W)) A s H locs → lv_has ls 1 [] → W p l e rm12_isDigit s m args below meth c H locs 0 0 (MQ below (QI D cy (([] : va_W)) A res) args s 0 0 A) (F0 m 17 ls [.int z0]) := by
  intro z0 res H locs ls hf hW hl
  unfold f12_isDigit_17 at hf
  obtain ⟨hz, hf⟩ := ck_of hf
  obtain rfl := Option.some.inj hf
  exact g_zret hC hW hz dX12_isDigit_17
set_option maxRecDepth 100000 in
set_option maxHeartbeats 4000000 in
theorem t12_isDigit_16 (hC : Cx p s m args meth c cX12_isDigit 1 wsX12_isDigit RX12 (some .boolean)) : ∀ (res : Int32) (H : Heap) (locs : List Loc) (ls : Array Slot), f12_isDigit_16 = some res → GW D cy ad (([] : va_W)) A s H locs → lv_has ls 1 [] → W p l e rm12_isDigit s m args below meth c H locs 0 0 (MQ below (QI D cy (([] : va_W)) A res) args s 0 0 A) (F0 m 16 ls []) := by
  intro res H locs ls hf hW hl
  unfold f12_isDigit_16 at hf
  refine lv_iconst (v := 0) hC.1 hC.2.1 dX12_isDigit_16 (by decide) ?_
  exact t12_isDigit_17 hC  _ _ _ _ _ hf hW (lv_sub hl [] rfl)
set_option maxRecDepth 100000 in
set_option maxHeartbeats 4000000 in
theorem t12_isDigit_0 (hC : Cx p s m args meth c cX12_isDigit 1 wsX12_isDigit RX12 (some .boolean)) : ∀ (x0 : Int32) (res : Int32) (H : Heap) (locs : List Loc) (ls : Array Slot), f12_isDigit x0 = some res → GW D cy ad (([] : va_W)) A s H locs → lv_has ls 1 [(0, .int x0)] → W p l e rm12_isDigit s m args below meth c H locs 0 0 (MQ below (QI D cy (([] : va_W)) A res) args s 0 0 A) (F0 m 0 ls []) := by
  intro x0 res H locs ls hf hW hl
  unfold f12_isDigit at hf
  refine lv_iload_n hC.1 hC.2.1 dX12_isDigit_0 rfl (lv_at hl 0 rfl) ?_
  refine lv_bipush (v := 48) hC.1 hC.2.1 dX12_isDigit_1 (by decide) ?_
  refine lv_icmp_lt (tgt := 16) hC.1 hC.2.1 dX12_isDigit_3 (by decide) (fun hc_1 => ?_) (fun hc_1 => ?_)
  · have hf := ite_t hf hc_1
    exact t12_isDigit_16 hC  _ _ _ _ hf hW (lv_sub hl [] rfl)
  · have hf := ite_f hf hc_1
    refine lv_iload_n hC.1 hC.2.1 dX12_isDigit_6 rfl (lv_at hl 0 rfl) ?_
    refine lv_bipush (v := 57) hC.1 hC.2.1 dX12_isDigit_7 (by decide) ?_
    refine lv_icmp_gt (tgt := 16) hC.1 hC.2.1 dX12_isDigit_9 (by decide) (fun hc_2 => ?_) (fun hc_2 => ?_)
    · have hf := ite_t hf hc_2
      exact t12_isDigit_16 hC  _ _ _ _ hf hW (lv_sub hl [] rfl)
    · have hf := ite_f hf hc_2
      refine lv_iconst (v := 1) hC.1 hC.2.1 dX12_isDigit_12 (by decide) ?_
      refine lv_goto (tgt := 17) hC.1 hC.2.1 dX12_isDigit_13 (by decide) ?_
      exact t12_isDigit_17 hC  _ _ _ _ _ hf hW (lv_sub hl [] rfl)
set_option maxRecDepth 100000 in
set_option maxHeartbeats 4000000 in
theorem c12_isDigit (l : Launch) (D : va_G) (cy : Nat → ClassId) (ad : Nat → Nat) {x0 : Int32} {res : Int32} (h : f12_isDigit x0 = some res) : GCi l yX12_isDigit wsX12_isDigit rm12_isDigit [.int x0] D cy ad (([] : va_W)) (([] : va_W)) res := fun sz => GC.start (own := RX12) (Qc := fun A => QI D cy (([] : va_W)) A res) sz (by decide) rfl rfl (Nat.le_of_ble_eq_true rfl) (fun p e s m below meth c A ls hC hW hl => t12_isDigit_0 hC _ _ _ _ _ h hW (lv_sub hl [0] rfl))
abbrev rm12_rank : Room := { frames := 1, cells := 0, slots := 0, locals := 20 }
theorem hdS12_rank : (yX12_rank.cls ≠ "java/lang/invoke/MethodHandle" ∧ yX12_rank.cls ≠ "java/lang/invoke/VarHandle" ∧ (parseMethodDescriptor yX12_rank.desc).map (fun d => d.parameters.length) = some 1) := by decide +kernel
set_option maxRecDepth 100000 in
set_option maxHeartbeats 4000000 in
theorem t12_rank_18 (hC : Cx p s m args meth c cX12_rank 1 wsX12_rank RX12 (some .int)) : ∀ (z0 : Int32) (res : Int32) (H : Heap) (locs : List Loc) (ls : Array Slot), f12_rank_18 z0 = some res → GW D cy ad (([] : va_W)) A s H locs → lv_has ls 1 [] → W p l e rm12_rank s m args below meth c H locs 0 0 (MQ below (QI D cy (([] : va_W)) A res) args s 0 0 A) (F0 m 18 ls [.int z0]) := by
  intro z0 res H locs ls hf hW hl
  unfold f12_rank_18 at hf
  obtain rfl := Option.some.inj hf
  exact g_iret hC hW dX12_rank_18
set_option maxRecDepth 100000 in
set_option maxHeartbeats 4000000 in
theorem t12_rank_0 (hC : Cx p s m args meth c cX12_rank 1 wsX12_rank RX12 (some .int)) : ∀ (x0 : Int32) (res : Int32) (H : Heap) (locs : List Loc) (ls : Array Slot), f12_rank x0 = some res → GW D cy ad (([] : va_W)) A s H locs → lv_has ls 1 [(0, .int x0)] → W p l e rm12_rank s m args below meth c H locs 0 0 (MQ below (QI D cy (([] : va_W)) A res) args s 0 0 A) (F0 m 0 ls []) := by
  intro x0 res H locs ls hf hW hl
  unfold f12_rank at hf
  refine lv_iload_n hC.1 hC.2.1 dX12_rank_0 rfl (lv_at hl 0 rfl) ?_
  obtain ⟨r_1, hg_2, hf⟩ := bd_of hf
  refine g_calliS hC hW (c12_isLetter l D cy ad  hg_2) (va_cwS 1 hC.2.2.2.2.1 gX12_rank_X12_isLetter rfl rfl rfl hdS12_isLetter ⟨Nat.le_of_ble_eq_true rfl, Nat.le_of_ble_eq_true rfl⟩) (Sub.all _ _) rfl hl.1 rfl (Nat.le_of_ble_eq_true rfl) dX12_rank_1 ⟨Nat.zero_le _, Nat.zero_le _⟩ (fun H locs hW => ?_)
  refine lv_if_eq (tgt := 14) hC.1 hC.2.1 dX12_rank_4 (by decide) (fun hc_3 => ?_) (fun hc_3 => ?_)
  · have hf := ite_t hf hc_3
    refine lv_iload_n hC.1 hC.2.1 dX12_rank_14 rfl (lv_at hl 0 rfl) ?_
    refine lv_bipush (v := 21) hC.1 hC.2.1 dX12_rank_15 (by decide) ?_
    refine lv_isub hC.1 hC.2.1 dX12_rank_17 ?_
    exact t12_rank_18 hC  _ _ _ _ _ hf hW (lv_sub hl [] rfl)
  · have hf := ite_f hf hc_3
    refine lv_iload_n hC.1 hC.2.1 dX12_rank_7 rfl (lv_at hl 0 rfl) ?_
    refine lv_bipush (v := 96) hC.1 hC.2.1 dX12_rank_8 (by decide) ?_
    refine lv_isub hC.1 hC.2.1 dX12_rank_10 ?_
    refine lv_goto (tgt := 18) hC.1 hC.2.1 dX12_rank_11 (by decide) ?_
    exact t12_rank_18 hC  _ _ _ _ _ hf hW (lv_sub hl [] rfl)
set_option maxRecDepth 100000 in
set_option maxHeartbeats 4000000 in
theorem c12_rank (l : Launch) (D : va_G) (cy : Nat → ClassId) (ad : Nat → Nat) {x0 : Int32} {res : Int32} (h : f12_rank x0 = some res) : GCi l yX12_rank wsX12_rank rm12_rank [.int x0] D cy ad (([] : va_W)) (([] : va_W)) res := fun sz => GC.start (own := RX12) (Qc := fun A => QI D cy (([] : va_W)) A res) sz (by decide) rfl rfl (Nat.le_of_ble_eq_true rfl) (fun p e s m below meth c A ls hC hW hl => t12_rank_0 hC _ _ _ _ _ h hW (lv_sub hl [0] rfl))
abbrev rm12_isSignOf : Room := { frames := 0, cells := 0, slots := 0, locals := 0 }
theorem hdS12_isSignOf : (yX12_isSignOf.cls ≠ "java/lang/invoke/MethodHandle" ∧ yX12_isSignOf.cls ≠ "java/lang/invoke/VarHandle" ∧ (parseMethodDescriptor yX12_isSignOf.desc).map (fun d => d.parameters.length) = some 1) := by decide +kernel
set_option maxRecDepth 100000 in
set_option maxHeartbeats 4000000 in
theorem t12_isSignOf_53 (hC : Cx p s m args meth c cX12_isSignOf 1 wsX12_isSignOf RX12 (some .boolean)) : ∀ (z0 : Int32) (res : Int32) (H : Heap) (locs : List Loc) (ls : Array Slot), f12_isSignOf_53 z0 = some res → GW D cy ad (([] : va_W)) A s H locs → lv_has ls 1 [] → W p l e rm12_isSignOf s m args below meth c H locs 0 0 (MQ below (QI D cy (([] : va_W)) A res) args s 0 0 A) (F0 m 53 ls [.int z0]) := by
  intro z0 res H locs ls hf hW hl
  unfold f12_isSignOf_53 at hf
  obtain ⟨hz, hf⟩ := ck_of hf
  obtain rfl := Option.some.inj hf
  exact g_zret hC hW hz dX12_isSignOf_53
set_option maxRecDepth 100000 in
set_option maxHeartbeats 4000000 in
theorem t12_isSignOf_48 (hC : Cx p s m args meth c cX12_isSignOf 1 wsX12_isSignOf RX12 (some .boolean)) : ∀ (res : Int32) (H : Heap) (locs : List Loc) (ls : Array Slot), f12_isSignOf_48 = some res → GW D cy ad (([] : va_W)) A s H locs → lv_has ls 1 [] → W p l e rm12_isSignOf s m args below meth c H locs 0 0 (MQ below (QI D cy (([] : va_W)) A res) args s 0 0 A) (F0 m 48 ls []) := by
  intro res H locs ls hf hW hl
  unfold f12_isSignOf_48 at hf
  refine lv_iconst (v := 1) hC.1 hC.2.1 dX12_isSignOf_48 (by decide) ?_
  refine lv_goto (tgt := 53) hC.1 hC.2.1 dX12_isSignOf_49 (by decide) ?_
  exact t12_isSignOf_53 hC  _ _ _ _ _ hf hW (lv_sub hl [] rfl)
set_option maxRecDepth 100000 in
set_option maxHeartbeats 4000000 in
theorem t12_isSignOf_0 (hC : Cx p s m args meth c cX12_isSignOf 1 wsX12_isSignOf RX12 (some .boolean)) : ∀ (x0 : Int32) (res : Int32) (H : Heap) (locs : List Loc) (ls : Array Slot), f12_isSignOf x0 = some res → GW D cy ad (([] : va_W)) A s H locs → lv_has ls 1 [(0, .int x0)] → W p l e rm12_isSignOf s m args below meth c H locs 0 0 (MQ below (QI D cy (([] : va_W)) A res) args s 0 0 A) (F0 m 0 ls []) := by
  intro x0 res H locs ls hf hW hl
  unfold f12_isSignOf at hf
  refine lv_iload_n hC.1 hC.2.1 dX12_isSignOf_0 rfl (lv_at hl 0 rfl) ?_
  refine lv_bipush (v := 40) hC.1 hC.2.1 dX12_isSignOf_1 (by decide) ?_
  refine lv_icmp_eq (tgt := 48) hC.1 hC.2.1 dX12_isSignOf_3 (by decide) (fun hc_1 => ?_) (fun hc_1 => ?_)
  · have hf := ite_t hf hc_1
    exact t12_isSignOf_48 hC  _ _ _ _ hf hW (lv_sub hl [] rfl)
  · have hf := ite_f hf hc_1
    refine lv_iload_n hC.1 hC.2.1 dX12_isSignOf_6 rfl (lv_at hl 0 rfl) ?_
    refine lv_bipush (v := 41) hC.1 hC.2.1 dX12_isSignOf_7 (by decide) ?_
    refine lv_icmp_eq (tgt := 48) hC.1 hC.2.1 dX12_isSignOf_9 (by decide) (fun hc_2 => ?_) (fun hc_2 => ?_)
    · have hf := ite_t hf hc_2
      exact t12_isSignOf_48 hC  _ _ _ _ hf hW (lv_sub hl [] rfl)
    · have hf := ite_f hf hc_2
      refine lv_iload_n hC.1 hC.2.1 dX12_isSignOf_12 rfl (lv_at hl 0 rfl) ?_
      refine lv_bipush (v := 59) hC.1 hC.2.1 dX12_isSignOf_13 (by decide) ?_
      refine lv_icmp_eq (tgt := 48) hC.1 hC.2.1 dX12_isSignOf_15 (by decide) (fun hc_3 => ?_) (fun hc_3 => ?_)
      · have hf := ite_t hf hc_3
        exact t12_isSignOf_48 hC  _ _ _ _ hf hW (lv_sub hl [] rfl)
      · have hf := ite_f hf hc_3
        refine lv_iload_n hC.1 hC.2.1 dX12_isSignOf_18 rfl (lv_at hl 0 rfl) ?_
        refine lv_bipush (v := 61) hC.1 hC.2.1 dX12_isSignOf_19 (by decide) ?_
        refine lv_icmp_eq (tgt := 48) hC.1 hC.2.1 dX12_isSignOf_21 (by decide) (fun hc_4 => ?_) (fun hc_4 => ?_)
        · have hf := ite_t hf hc_4
          exact t12_isSignOf_48 hC  _ _ _ _ hf hW (lv_sub hl [] rfl)
        · have hf := ite_f hf hc_4
          refine lv_iload_n hC.1 hC.2.1 dX12_isSignOf_24 rfl (lv_at hl 0 rfl) ?_
          refine lv_bipush (v := 60) hC.1 hC.2.1 dX12_isSignOf_25 (by decide) ?_
          refine lv_icmp_eq (tgt := 48) hC.1 hC.2.1 dX12_isSignOf_27 (by decide) (fun hc_5 => ?_) (fun hc_5 => ?_)
          · have hf := ite_t hf hc_5
            exact t12_isSignOf_48 hC  _ _ _ _ hf hW (lv_sub hl [] rfl)
          · have hf := ite_f hf hc_5
            refine lv_iload_n hC.1 hC.2.1 dX12_isSignOf_30 rfl (lv_at hl 0 rfl) ?_
            refine lv_bipush (v := 43) hC.1 hC.2.1 dX12_isSignOf_31 (by decide) ?_
            refine lv_icmp_eq (tgt := 48) hC.1 hC.2.1 dX12_isSignOf_33 (by decide) (fun hc_6 => ?_) (fun hc_6 => ?_)
            · have hf := ite_t hf hc_6
              exact t12_isSignOf_48 hC  _ _ _ _ hf hW (lv_sub hl [] rfl)
            · have hf := ite_f hf hc_6
              refine lv_iload_n hC.1 hC.2.1 dX12_isSignOf_36 rfl (lv_at hl 0 rfl) ?_
              refine lv_bipush (v := 45) hC.1 hC.2.1 dX12_isSignOf_37 (by decide) ?_
              refine lv_icmp_eq (tgt := 48) hC.1 hC.2.1 dX12_isSignOf_39 (by decide) (fun hc_7 => ?_) (fun hc_7 => ?_)
              · have hf := ite_t hf hc_7
                exact t12_isSignOf_48 hC  _ _ _ _ hf hW (lv_sub hl [] rfl)
              · have hf := ite_f hf hc_7
                refine lv_iload_n hC.1 hC.2.1 dX12_isSignOf_42 rfl (lv_at hl 0 rfl) ?_
                refine lv_bipush (v := 42) hC.1 hC.2.1 dX12_isSignOf_43 (by decide) ?_
                refine lv_icmp_ne (tgt := 52) hC.1 hC.2.1 dX12_isSignOf_45 (by decide) (fun hc_8 => ?_) (fun hc_8 => ?_)
                · have hf := ite_f hf hc_8
                  refine lv_iconst (v := 0) hC.1 hC.2.1 dX12_isSignOf_52 (by decide) ?_
                  exact t12_isSignOf_53 hC  _ _ _ _ _ hf hW (lv_sub hl [] rfl)
                · have hf := ite_t hf hc_8
                  exact t12_isSignOf_48 hC  _ _ _ _ hf hW (lv_sub hl [] rfl)
set_option maxRecDepth 100000 in
set_option maxHeartbeats 4000000 in
theorem c12_isSignOf (l : Launch) (D : va_G) (cy : Nat → ClassId) (ad : Nat → Nat) {x0 : Int32} {res : Int32} (h : f12_isSignOf x0 = some res) : GCi l yX12_isSignOf wsX12_isSignOf rm12_isSignOf [.int x0] D cy ad (([] : va_W)) (([] : va_W)) res := fun sz => GC.start (own := RX12) (Qc := fun A => QI D cy (([] : va_W)) A res) sz (by decide) rfl rfl (Nat.le_of_ble_eq_true rfl) (fun p e s m below meth c A ls hC hW hl => t12_isSignOf_0 hC _ _ _ _ _ h hW (lv_sub hl [0] rfl))
abbrev rm12_cutAll : Room := { frames := 2, cells := 0, slots := 0, locals := 40 }
theorem hdV12_cutAll : yX12_cutAll.cls = RX12 ∧ (yX12_cutAll.cls ≠ "java/lang/invoke/MethodHandle" ∧ yX12_cutAll.cls ≠ "java/lang/invoke/VarHandle" ∧ (parseMethodDescriptor yX12_cutAll.desc).map (fun d => d.parameters.length) = some 0) := by decide +kernel
theorem hin12_cutAll_12 : ∀ x ∈ u_ws RX12 TX12 39, x ∈ wsX12_cutAll := fun _ h => List.mem_cons_of_mem _ (List.mem_append_right _ h)
set_option maxRecDepth 100000 in
set_option maxHeartbeats 4000000 in
theorem t12_cutAll_44 (hC : Cx p s m args meth c cX12_cutAll 7 wsX12_cutAll RX12 none) {k17 : Int32 → Int32 → Ob → Option (Ob)} (hk17 : ∀ (x1 : Int32) (x2 : Int32) (SM : Ob) (res : Ob) (H : Heap) (locs : List Loc) (ls : Array Slot), k17 x1 x2 SM = some res → GW D cy ad (w12 cy aM SM) A s H locs → lv_has ls 7 [(0, .ref (aM 0)), (1, .int x1), (2, .int x2)] → W p l e rm12_cutAll s m args below meth c H locs 0 0 (MQ below (QV D cy (w12 cy aM res) A) args s 0 0 A) (F0 m 17 ls [])) : ∀ (x1 : Int32) (x2 : Int32) (SM : Ob) (res : Ob) (H : Heap) (locs : List Loc) (ls : Array Slot), f12_cutAll_44 k17 x1 x2 SM = some res → GW D cy ad (w12 cy aM SM) A s H locs → lv_has ls 7 [(0, .ref (aM 0)), (1, .int x1), (2, .int x2)] → W p l e rm12_cutAll s m args below meth c H locs 0 0 (MQ below (QV D cy (w12 cy aM res) A) args s 0 0 A) (F0 m 44 ls []) := by
  intro x1 x2 SM res H locs ls hf hW hl
  unfold f12_cutAll_44 at hf
  obtain ⟨x2_1, ex2_1⟩ : ∃ y : Int32, y = x2 + 1 := ⟨_, rfl⟩
  have hf := lt_nm hf ex2_1
  refine lv_iinc (v := x2_1) (lv' := [(2, .int x2_1), (0, .ref (aM 0)), (1, .int x1)]) hC.1 hC.2.1 dX12_cutAll_44 hl (k := 2) rfl (by rw [ex2_1]; rfl) (by decide) rfl (fun ls hl => ?_)
  refine lv_goto (tgt := 17) hC.1 hC.2.1 dX12_cutAll_47 (by decide) ?_
  exact hk17 _ _ _ _ _ _ _ hf hW (lv_sub hl [1, 2, 0] rfl)
set_option maxRecDepth 100000 in
set_option maxHeartbeats 4000000 in
theorem t12_cutAll_121 (hC : Cx p s m args meth c cX12_cutAll 7 wsX12_cutAll RX12 none) {k17 : Int32 → Int32 → Ob → Option (Ob)} (hk17 : ∀ (x1 : Int32) (x2 : Int32) (SM : Ob) (res : Ob) (H : Heap) (locs : List Loc) (ls : Array Slot), k17 x1 x2 SM = some res → GW D cy ad (w12 cy aM SM) A s H locs → lv_has ls 7 [(0, .ref (aM 0)), (1, .int x1), (2, .int x2)] → W p l e rm12_cutAll s m args below meth c H locs 0 0 (MQ below (QV D cy (w12 cy aM res) A) args s 0 0 A) (F0 m 17 ls [])) {k70 : Int32 → Int32 → Int32 → Int64 → Ob → Option (Ob)} (hk70 : ∀ (x1 : Int32) (x2 : Int32) (x4 : Int32) (x5 : Int64) (SM : Ob) (res : Ob) (H : Heap) (locs : List Loc) (ls : Array Slot), k70 x1 x2 x4 x5 SM = some res → GW D cy ad (w12 cy aM SM) A s H locs → lv_has ls 7 [(0, .ref (aM 0)), (1, .int x1), (2, .int x2), (4, .int x4), (5, .long x5)] → W p l e rm12_cutAll s m args below meth c H locs 0 0 (MQ below (QV D cy (w12 cy aM res) A) args s 0 0 A) (F0 m 70 ls [])) : ∀ (x1 : Int32) (x2 : Int32) (x4 : Int32) (z0 : Int64) (SM : Ob) (res : Ob) (H : Heap) (locs : List Loc) (ls : Array Slot), f12_cutAll_121 k17 k70 x1 x2 x4 z0 SM = some res → GW D cy ad (w12 cy aM SM) A s H locs → lv_has ls 7 [(0, .ref (aM 0)), (1, .int x1), (2, .int x2), (4, .int x4)] → W p l e rm12_cutAll s m args below meth c H locs 0 0 (MQ below (QV D cy (w12 cy aM res) A) args s 0 0 A) (F0 m 121 ls [.long z0]) := by
  intro x1 x2 x4 z0 SM res H locs ls hf hW hl
  unfold f12_cutAll_121 at hf
  refine lv_lstore (lv' := [(5, .long z0), (0, .ref (aM 0)), (1, .int x1), (2, .int x2), (4, .int x4)]) hC.1 hC.2.1 dX12_cutAll_121 hl (by decide) rfl (fun ls hl => ?_)
  obtain ⟨x2_1, ex2_1⟩ : ∃ y : Int32, y = x2 + 1 := ⟨_, rfl⟩
  have hf := lt_nm hf ex2_1
  refine lv_iinc (v := x2_1) (lv' := [(2, .int x2_1), (5, .long z0), (0, .ref (aM 0)), (1, .int x1), (4, .int x4)]) hC.1 hC.2.1 dX12_cutAll_123 hl (k := 3) rfl (by rw [ex2_1]; rfl) (by decide) rfl (fun ls hl => ?_)
  refine lv_goto (tgt := 70) hC.1 hC.2.1 dX12_cutAll_126 (by decide) ?_
  exact hk70 _ _ _ _ _ _ _ _ _ hf hW (lv_sub hl [2, 3, 0, 4, 1] rfl)
set_option maxRecDepth 100000 in
set_option maxHeartbeats 4000000 in
theorem t12_cutAll_265 (hC : Cx p s m args meth c cX12_cutAll 7 wsX12_cutAll RX12 none) {k17 : Int32 → Int32 → Ob → Option (Ob)} (hk17 : ∀ (x1 : Int32) (x2 : Int32) (SM : Ob) (res : Ob) (H : Heap) (locs : List Loc) (ls : Array Slot), k17 x1 x2 SM = some res → GW D cy ad (w12 cy aM SM) A s H locs → lv_has ls 7 [(0, .ref (aM 0)), (1, .int x1), (2, .int x2)] → W p l e rm12_cutAll s m args below meth c H locs 0 0 (MQ below (QV D cy (w12 cy aM res) A) args s 0 0 A) (F0 m 17 ls [])) : ∀ (x1 : Int32) (x2 : Int32) (x5 : Int64) (SM : Ob) (res : Ob) (H : Heap) (locs : List Loc) (ls : Array Slot), f12_cutAll_265 k17 x1 x2 x5 SM = some res → GW D cy ad (w12 cy aM SM) A s H locs → lv_has ls 7 [(0, .ref (aM 0)), (1, .int x1), (2, .int x2), (5, .long x5)] → W p l e rm12_cutAll s m args below meth c H locs 0 0 (MQ below (QV D cy (w12 cy aM res) A) args s 0 0 A) (F0 m 265 ls []) := by
  intro x1 x2 x5 SM res H locs ls hf hW hl
  unfold f12_cutAll_265 at hf
  refine lv_aload_n hC.1 hC.2.1 dX12_cutAll_265 rfl (lv_at hl 0 rfl) ?_
  refine g_get hC hW hin12_cutAll_12 0 rfl rfl 6 (by decide) 9 rfl rfl dX12_cutAll_266 ?_
  refine lv_iload_n hC.1 hC.2.1 dX12_cutAll_269 rfl (lv_at hl 1 rfl) ?_
  refine lv_lload hC.1 hC.2.1 dX12_cutAll_270 (lv_at hl 3 rfl) ?_
  obtain ⟨hi_1, hf⟩ := ck_of hf
  obtain ⟨SM_2, eSM_2⟩ : ∃ y : Ob, y = oJ SM 6 (Int32.toNatClampNeg x1) x5 := ⟨_, rfl⟩
  have hf := lt_nm hf eSM_2
  refine g_last hC hW 4 rfl hi_1 (w' := w12 cy aM SM_2) (by rw [eSM_2]; rfl) dX12_cutAll_272 (fun H locs hW => ?_)
  obtain ⟨x1_3, ex1_3⟩ : ∃ y : Int32, y = x1 + 1 := ⟨_, rfl⟩
  have hf := lt_nm hf ex1_3
  refine lv_iinc (v := x1_3) (lv' := [(1, .int x1_3), (0, .ref (aM 0)), (2, .int x2), (5, .long x5)]) hC.1 hC.2.1 dX12_cutAll_273 hl (k := 1) rfl (by rw [ex1_3]; rfl) (by decide) rfl (fun ls hl => ?_)
  refine lv_goto (tgt := 17) hC.1 hC.2.1 dX12_cutAll_276 (by decide) ?_
  exact hk17 _ _ _ _ _ _ _ hf hW (lv_sub hl [1, 0, 2] rfl)
set_option maxRecDepth 100000 in
set_option maxHeartbeats 4000000 in
theorem t12_cutAll_148 (hC : Cx p s m args meth c cX12_cutAll 7 wsX12_cutAll RX12 none) {k17 : Int32 → Int32 → Ob → Option (Ob)} (hk17 : ∀ (x1 : Int32) (x2 : Int32) (SM : Ob) (res : Ob) (H : Heap) (locs : List Loc) (ls : Array Slot), k17 x1 x2 SM = some res → GW D cy ad (w12 cy aM SM) A s H locs → lv_has ls 7 [(0, .ref (aM 0)), (1, .int x1), (2, .int x2)] → W p l e rm12_cutAll s m args below meth c H locs 0 0 (MQ below (QV D cy (w12 cy aM res) A) args s 0 0 A) (F0 m 17 ls [])) : ∀ (x1 : Int32) (x2 : Int32) (x5 : Int64) (z1 : Int32) (z2 : Int32) (SM : Ob) (res : Ob) (H : Heap) (locs : List Loc) (ls : Array Slot), f12_cutAll_148 k17 x1 x2 x5 z1 z2 SM = some res → GW D cy ad (w12 cy aM SM) A s H locs → lv_has ls 7 [(0, .ref (aM 0)), (1, .int x1), (2, .int x2), (5, .long x5)] → W p l e rm12_cutAll s m args below meth c H locs 0 0 (MQ below (QV D cy (w12 cy aM res) A) args s 0 0 A) (F0 m 148 ls [.int z2, .int z1, .ref (aM 5)]) := by
  intro x1 x2 x5 z1 z2 SM res H locs ls hf hW hl
  unfold f12_cutAll_148 at hf
  obtain ⟨hi_1, hf⟩ := ck_of hf
  obtain ⟨SM_2, eSM_2⟩ : ∃ y : Ob, y = oA SM 4 (Int32.toNatClampNeg z1) z2 := ⟨_, rfl⟩
  have hf := lt_nm hf eSM_2
  refine g_iast hC hW 2 rfl hi_1 (w' := w12 cy aM SM_2) (by rw [eSM_2]; rfl) dX12_cutAll_148 (fun H locs hW => ?_)
  refine lv_goto (tgt := 265) hC.1 hC.2.1 dX12_cutAll_149 (by decide) ?_
  exact t12_cutAll_265 hC hk17  _ _ _ _ _ _ _ _ hf hW (lv_sub hl [0, 1, 2, 3] rfl)
set_option maxRecDepth 100000 in
set_option maxHeartbeats 4000000 in
theorem t12_cutAll_129 (hC : Cx p s m args meth c cX12_cutAll 7 wsX12_cutAll RX12 none) {k17 : Int32 → Int32 → Ob → Option (Ob)} (hk17 : ∀ (x1 : Int32) (x2 : Int32) (SM : Ob) (res : Ob) (H : Heap) (locs : List Loc) (ls : Array Slot), k17 x1 x2 SM = some res → GW D cy ad (w12 cy aM SM) A s H locs → lv_has ls 7 [(0, .ref (aM 0)), (1, .int x1), (2, .int x2)] → W p l e rm12_cutAll s m args below meth c H locs 0 0 (MQ below (QV D cy (w12 cy aM res) A) args s 0 0 A) (F0 m 17 ls [])) : ∀ (x1 : Int32) (x2 : Int32) (x4 : Int32) (x5 : Int64) (SM : Ob) (res : Ob) (H : Heap) (locs : List Loc) (ls : Array Slot), f12_cutAll_129 k17 x1 x2 x4 x5 SM = some res → GW D cy ad (w12 cy aM SM) A s H locs → lv_has ls 7 [(0, .ref (aM 0)), (1, .int x1), (2, .int x2), (4, .int x4), (5, .long x5)] → W p l e rm12_cutAll s m args below meth c H locs 0 0 (MQ below (QV D cy (w12 cy aM res) A) args s 0 0 A) (F0 m 129 ls []) := by
  intro x1 x2 x4 x5 SM res H locs ls hf hW hl
  unfold f12_cutAll_129 at hf
  refine lv_aload_n hC.1 hC.2.1 dX12_cutAll_129 rfl (lv_at hl 0 rfl) ?_
  refine g_get hC hW hin12_cutAll_12 0 rfl rfl 4 (by decide) 6 rfl rfl dX12_cutAll_130 ?_
  refine lv_iload_n hC.1 hC.2.1 dX12_cutAll_133 rfl (lv_at hl 1 rfl) ?_
  refine lv_iload_n hC.1 hC.2.1 dX12_cutAll_134 rfl (lv_at hl 2 rfl) ?_
  refine lv_iload hC.1 hC.2.1 dX12_cutAll_135 (lv_at hl 3 rfl) ?_
  refine lv_isub hC.1 hC.2.1 dX12_cutAll_137 ?_
  refine lv_bipush (v := 8) hC.1 hC.2.1 dX12_cutAll_138 (by decide) ?_
  refine lv_icmp_le (tgt := 147) hC.1 hC.2.1 dX12_cutAll_140 (by decide) (fun hc_1 => ?_) (fun hc_1 => ?_)
  · have hf := ite_t hf hc_1
    refine lv_iconst (v := 1) hC.1 hC.2.1 dX12_cutAll_147 (by decide) ?_
    exact t12_cutAll_148 hC hk17  _ _ _ _ _ _ _ _ _ _ hf hW (lv_sub hl [0, 1, 2, 4] rfl)
  · have hf := ite_f hf hc_1
    refine lv_iconst (v := 4) hC.1 hC.2.1 dX12_cutAll_143 (by decide) ?_
    refine lv_goto (tgt := 148) hC.1 hC.2.1 dX12_cutAll_144 (by decide) ?_
    exact t12_cutAll_148 hC hk17  _ _ _ _ _ _ _ _ _ _ hf hW (lv_sub hl [0, 1, 2, 4] rfl)
set_option maxRecDepth 100000 in
set_option maxHeartbeats 4000000 in
theorem t12_cutAll_70 (hC : Cx p s m args meth c cX12_cutAll 7 wsX12_cutAll RX12 none) {k17 : Int32 → Int32 → Ob → Option (Ob)} (hk17 : ∀ (x1 : Int32) (x2 : Int32) (SM : Ob) (res : Ob) (H : Heap) (locs : List Loc) (ls : Array Slot), k17 x1 x2 SM = some res → GW D cy ad (w12 cy aM SM) A s H locs → lv_has ls 7 [(0, .ref (aM 0)), (1, .int x1), (2, .int x2)] → W p l e rm12_cutAll s m args below meth c H locs 0 0 (MQ below (QV D cy (w12 cy aM res) A) args s 0 0 A) (F0 m 17 ls [])) : ∀ n : Nat, ∀ (x1 : Int32) (x2 : Int32) (x4 : Int32) (x5 : Int64) (SM : Ob) (res : Ob) (H : Heap) (locs : List Loc) (ls : Array Slot), f12_cutAll_70 k17 n x1 x2 x4 x5 SM = some res → GW D cy ad (w12 cy aM SM) A s H locs → lv_has ls 7 [(0, .ref (aM 0)), (1, .int x1), (2, .int x2), (4, .int x4), (5, .long x5)] → W p l e rm12_cutAll s m args below meth c H locs 0 0 (MQ below (QV D cy (w12 cy aM res) A) args s 0 0 A) (F0 m 70 ls []) := by
  intro n
  induction n with
  | zero =>
    intro _ _ _ _ _ _ _ _ _ hf _ _
    exact nomatch (show (none : Option (Ob)) = some _ from hf)
  | succ n ih =>
    intro x1 x2 x4 x5 SM res H locs ls hf hW hl
    rw [f12_cutAll_70] at hf
    refine lv_iload_n hC.1 hC.2.1 dX12_cutAll_70 rfl (lv_at hl 2 rfl) ?_
    refine lv_aload_n hC.1 hC.2.1 dX12_cutAll_71 rfl (lv_at hl 0 rfl) ?_
    refine g_get hC hW hin12_cutAll_12 0 rfl rfl 3 (by decide) 2 rfl rfl dX12_cutAll_72 ?_
    refine lv_icmp_ge (tgt := 129) hC.1 hC.2.1 dX12_cutAll_75 (by decide) (fun hc_1 => ?_) (fun hc_1 => ?_)
    · have hf := ite_t hf hc_1
      exact t12_cutAll_129 hC hk17  _ _ _ _ _ _ _ _ _ hf hW (lv_sub hl [0, 1, 2, 3, 4] rfl)
    · have hf := ite_f hf hc_1
      refine lv_aload_n hC.1 hC.2.1 dX12_cutAll_78 rfl (lv_at hl 0 rfl) ?_
      refine g_get hC hW hin12_cutAll_12 0 rfl rfl 1 (by decide) 3 rfl rfl dX12_cutAll_79 ?_
      refine lv_iload_n hC.1 hC.2.1 dX12_cutAll_82 rfl (lv_at hl 2 rfl) ?_
      obtain ⟨hi_2, hf⟩ := ck_of hf
      refine g_iald hC hW 1 rfl hi_2 dX12_cutAll_83 ?_
      obtain ⟨r_3, hg_4, hf⟩ := bd_of hf
      refine g_calliS hC hW (c12_isLetter l D cy ad  hg_4) (va_cwS 1 hC.2.2.2.2.1 gX12_cutAll_X12_isLetter rfl rfl rfl hdS12_isLetter ⟨Nat.le_of_ble_eq_true rfl, Nat.le_of_ble_eq_true rfl⟩) (Sub.nil _) rfl hl.1 rfl (Nat.le_of_ble_eq_true rfl) dX12_cutAll_84 ⟨Nat.zero_le _, Nat.zero_le _⟩ (fun H locs hW => ?_)
      refine lv_if_eq (tgt := 129) hC.1 hC.2.1 dX12_cutAll_87 (by decide) (fun hc_5 => ?_) (fun hc_5 => ?_)
      · have hf := ite_t hf hc_5
        exact t12_cutAll_129 hC hk17  _ _ _ _ _ _ _ _ _ hf hW (lv_sub hl [0, 1, 2, 3, 4] rfl)
      · have hf := ite_f hf hc_5
        refine lv_iload_n hC.1 hC.2.1 dX12_cutAll_90 rfl (lv_at hl 2 rfl) ?_
        refine lv_iload hC.1 hC.2.1 dX12_cutAll_91 (lv_at hl 3 rfl) ?_
        refine lv_isub hC.1 hC.2.1 dX12_cutAll_93 ?_
        refine lv_bipush (v := 8) hC.1 hC.2.1 dX12_cutAll_94 (by decide) ?_
        refine lv_icmp_ge (tgt := 119) hC.1 hC.2.1 dX12_cutAll_96 (by decide) (fun hc_6 => ?_) (fun hc_6 => ?_)
        · have hf := ite_t hf hc_6
          refine lv_lload hC.1 hC.2.1 dX12_cutAll_119 (lv_at hl 4 rfl) ?_
          exact t12_cutAll_121 hC hk17 ih  _ _ _ _ _ _ _ _ _ hf hW (lv_sub hl [0, 1, 2, 3] rfl)
        · have hf := ite_f hf hc_6
          refine lv_ldc2 (v := 37) hC.1 hC.2.1 hC.2.2.2.1 (hC.2.2.2.2.1 _ (List.mem_of_getElem? (i := 5) rfl)) dX12_cutAll_99 ?_
          refine lv_lload hC.1 hC.2.1 dX12_cutAll_102 (lv_at hl 4 rfl) ?_
          refine lv_lmul hC.1 hC.2.1 dX12_cutAll_104 ?_
          refine lv_aload_n hC.1 hC.2.1 dX12_cutAll_105 rfl (lv_at hl 0 rfl) ?_
          refine g_get hC hW hin12_cutAll_12 0 rfl rfl 1 (by decide) 3 rfl rfl dX12_cutAll_106 ?_
          refine lv_iload_n hC.1 hC.2.1 dX12_cutAll_109 rfl (lv_at hl 2 rfl) ?_
          obtain ⟨hi_7, hf⟩ := ck_of hf
          refine g_iald hC hW 1 rfl hi_7 dX12_cutAll_110 ?_
          obtain ⟨r_8, hg_9, hf⟩ := bd_of hf
          refine g_calliS hC hW (c12_rank l D cy ad  hg_9) (va_cwS 1 hC.2.2.2.2.1 gX12_cutAll_X12_rank rfl rfl rfl hdS12_rank ⟨Nat.le_of_ble_eq_true rfl, Nat.le_of_ble_eq_true rfl⟩) (Sub.nil _) rfl hl.1 rfl (Nat.le_of_ble_eq_true rfl) dX12_cutAll_111 ⟨Nat.zero_le _, Nat.zero_le _⟩ (fun H locs hW => ?_)
          refine lv_i2l (v := Int32.toInt64 r_8) hC.1 hC.2.1 dX12_cutAll_114 rfl ?_
          refine lv_ladd hC.1 hC.2.1 dX12_cutAll_115 ?_
          refine lv_goto (tgt := 121) hC.1 hC.2.1 dX12_cutAll_116 (by decide) ?_
          exact t12_cutAll_121 hC hk17 ih  _ _ _ _ _ _ _ _ _ hf hW (lv_sub hl [0, 1, 2, 3] rfl)
set_option maxRecDepth 100000 in
set_option maxHeartbeats 4000000 in
theorem t12_cutAll_210 (hC : Cx p s m args meth c cX12_cutAll 7 wsX12_cutAll RX12 none) {k17 : Int32 → Int32 → Ob → Option (Ob)} (hk17 : ∀ (x1 : Int32) (x2 : Int32) (SM : Ob) (res : Ob) (H : Heap) (locs : List Loc) (ls : Array Slot), k17 x1 x2 SM = some res → GW D cy ad (w12 cy aM SM) A s H locs → lv_has ls 7 [(0, .ref (aM 0)), (1, .int x1), (2, .int x2)] → W p l e rm12_cutAll s m args below meth c H locs 0 0 (MQ below (QV D cy (w12 cy aM res) A) args s 0 0 A) (F0 m 17 ls [])) {k159 : Int32 → Int32 → Int32 → Int64 → Ob → Option (Ob)} (hk159 : ∀ (x1 : Int32) (x2 : Int32) (x4 : Int32) (x5 : Int64) (SM : Ob) (res : Ob) (H : Heap) (locs : List Loc) (ls : Array Slot), k159 x1 x2 x4 x5 SM = some res → GW D cy ad (w12 cy aM SM) A s H locs → lv_has ls 7 [(0, .ref (aM 0)), (1, .int x1), (2, .int x2), (4, .int x4), (5, .long x5)] → W p l e rm12_cutAll s m args below meth c H locs 0 0 (MQ below (QV D cy (w12 cy aM res) A) args s 0 0 A) (F0 m 159 ls [])) : ∀ (x1 : Int32) (x2 : Int32) (x4 : Int32) (z0 : Int64) (SM : Ob) (res : Ob) (H : Heap) (locs : List Loc) (ls : Array Slot), f12_cutAll_210 k17 k159 x1 x2 x4 z0 SM = some res → GW D cy ad (w12 cy aM SM) A s H locs → lv_has ls 7 [(0, .ref (aM 0)), (1, .int x1), (2, .int x2), (4, .int x4)] → W p l e rm12_cutAll s m args below meth c H locs 0 0 (MQ below (QV D cy (w12 cy aM res) A) args s 0 0 A) (F0 m 210 ls [.long z0]) := by
  intro x1 x2 x4 z0 SM res H locs ls hf hW hl
  unfold f12_cutAll_210 at hf
  refine lv_lstore (lv' := [(5, .long z0), (0, .ref (aM 0)), (1, .int x1), (2, .int x2), (4, .int x4)]) hC.1 hC.2.1 dX12_cutAll_210 hl (by decide) rfl (fun ls hl => ?_)
  obtain ⟨x2_1, ex2_1⟩ : ∃ y : Int32, y = x2 + 1 := ⟨_, rfl⟩
  have hf := lt_nm hf ex2_1
  refine lv_iinc (v := x2_1) (lv' := [(2, .int x2_1), (5, .long z0), (0, .ref (aM 0)), (1, .int x1), (4, .int x4)]) hC.1 hC.2.1 dX12_cutAll_212 hl (k := 3) rfl (by rw [ex2_1]; rfl) (by decide) rfl (fun ls hl => ?_)
  refine lv_goto (tgt := 159) hC.1 hC.2.1 dX12_cutAll_215 (by decide) ?_
  exact hk159 _ _ _ _ _ _ _ _ _ hf hW (lv_sub hl [2, 3, 0, 4, 1] rfl)
set_option maxRecDepth 100000 in
set_option maxHeartbeats 4000000 in
theorem t12_cutAll_236 (hC : Cx p s m args meth c cX12_cutAll 7 wsX12_cutAll RX12 none) {k17 : Int32 → Int32 → Ob → Option (Ob)} (hk17 : ∀ (x1 : Int32) (x2 : Int32) (SM : Ob) (res : Ob) (H : Heap) (locs : List Loc) (ls : Array Slot), k17 x1 x2 SM = some res → GW D cy ad (w12 cy aM SM) A s H locs → lv_has ls 7 [(0, .ref (aM 0)), (1, .int x1), (2, .int x2)] → W p l e rm12_cutAll s m args below meth c H locs 0 0 (MQ below (QV D cy (w12 cy aM res) A) args s 0 0 A) (F0 m 17 ls [])) : ∀ (x1 : Int32) (x2 : Int32) (x5 : Int64) (z1 : Int32) (z2 : Int32) (SM : Ob) (res : Ob) (H : Heap) (locs : List Loc) (ls : Array Slot), f12_cutAll_236 k17 x1 x2 x5 z1 z2 SM = some res → GW D cy ad (w12 cy aM SM) A s H locs → lv_has ls 7 [(0, .ref (aM 0)), (1, .int x1), (2, .int x2), (5, .long x5)] → W p l e rm12_cutAll s m args below meth c H locs 0 0 (MQ below (QV D cy (w12 cy aM res) A) args s 0 0 A) (F0 m 236 ls [.int z2, .int z1, .ref (aM 5)]) := by
  intro x1 x2 x5 z1 z2 SM res H locs ls hf hW hl
  unfold f12_cutAll_236 at hf
  obtain ⟨hi_1, hf⟩ := ck_of hf
  obtain ⟨SM_2, eSM_2⟩ : ∃ y : Ob, y = oA SM 4 (Int32.toNatClampNeg z1) z2 := ⟨_, rfl⟩
  have hf := lt_nm hf eSM_2
  refine g_iast hC hW 2 rfl hi_1 (w' := w12 cy aM SM_2) (by rw [eSM_2]; rfl) dX12_cutAll_236 (fun H locs hW => ?_)
  refine lv_goto (tgt := 265) hC.1 hC.2.1 dX12_cutAll_237 (by decide) ?_
  exact t12_cutAll_265 hC hk17  _ _ _ _ _ _ _ _ hf hW (lv_sub hl [0, 1, 2, 3] rfl)
set_option maxRecDepth 100000 in
set_option maxHeartbeats 4000000 in
theorem t12_cutAll_218 (hC : Cx p s m args meth c cX12_cutAll 7 wsX12_cutAll RX12 none) {k17 : Int32 → Int32 → Ob → Option (Ob)} (hk17 : ∀ (x1 : Int32) (x2 : Int32) (SM : Ob) (res : Ob) (H : Heap) (locs : List Loc) (ls : Array Slot), k17 x1 x2 SM = some res → GW D cy ad (w12 cy aM SM) A s H locs → lv_has ls 7 [(0, .ref (aM 0)), (1, .int x1), (2, .int x2)] → W p l e rm12_cutAll s m args below meth c H locs 0 0 (MQ below (QV D cy (w12 cy aM res) A) args s 0 0 A) (F0 m 17 ls [])) : ∀ (x1 : Int32) (x2 : Int32) (x4 : Int32) (x5 : Int64) (SM : Ob) (res : Ob) (H : Heap) (locs : List Loc) (ls : Array Slot), f12_cutAll_218 k17 x1 x2 x4 x5 SM = some res → GW D cy ad (w12 cy aM SM) A s H locs → lv_has ls 7 [(0, .ref (aM 0)), (1, .int x1), (2, .int x2), (4, .int x4), (5, .long x5)] → W p l e rm12_cutAll s m args below meth c H locs 0 0 (MQ below (QV D cy (w12 cy aM res) A) args s 0 0 A) (F0 m 218 ls []) := by
  intro x1 x2 x4 x5 SM res H locs ls hf hW hl
  unfold f12_cutAll_218 at hf
  refine lv_aload_n hC.1 hC.2.1 dX12_cutAll_218 rfl (lv_at hl 0 rfl) ?_
  refine g_get hC hW hin12_cutAll_12 0 rfl rfl 4 (by decide) 6 rfl rfl dX12_cutAll_219 ?_
  refine lv_iload_n hC.1 hC.2.1 dX12_cutAll_222 rfl (lv_at hl 1 rfl) ?_
  refine lv_iload_n hC.1 hC.2.1 dX12_cutAll_223 rfl (lv_at hl 2 rfl) ?_
  refine lv_iload hC.1 hC.2.1 dX12_cutAll_224 (lv_at hl 3 rfl) ?_
  refine lv_isub hC.1 hC.2.1 dX12_cutAll_226 ?_
  refine lv_iconst (v := 4) hC.1 hC.2.1 dX12_cutAll_227 (by decide) ?_
  refine lv_icmp_le (tgt := 235) hC.1 hC.2.1 dX12_cutAll_228 (by decide) (fun hc_1 => ?_) (fun hc_1 => ?_)
  · have hf := ite_t hf hc_1
    refine lv_iconst (v := 2) hC.1 hC.2.1 dX12_cutAll_235 (by decide) ?_
    exact t12_cutAll_236 hC hk17  _ _ _ _ _ _ _ _ _ _ hf hW (lv_sub hl [0, 1, 2, 4] rfl)
  · have hf := ite_f hf hc_1
    refine lv_iconst (v := 4) hC.1 hC.2.1 dX12_cutAll_231 (by decide) ?_
    refine lv_goto (tgt := 236) hC.1 hC.2.1 dX12_cutAll_232 (by decide) ?_
    exact t12_cutAll_236 hC hk17  _ _ _ _ _ _ _ _ _ _ hf hW (lv_sub hl [0, 1, 2, 4] rfl)
set_option maxRecDepth 100000 in
set_option maxHeartbeats 4000000 in
theorem t12_cutAll_159 (hC : Cx p s m args meth c cX12_cutAll 7 wsX12_cutAll RX12 none) {k17 : Int32 → Int32 → Ob → Option (Ob)} (hk17 : ∀ (x1 : Int32) (x2 : Int32) (SM : Ob) (res : Ob) (H : Heap) (locs : List Loc) (ls : Array Slot), k17 x1 x2 SM = some res → GW D cy ad (w12 cy aM SM) A s H locs → lv_has ls 7 [(0, .ref (aM 0)), (1, .int x1), (2, .int x2)] → W p l e rm12_cutAll s m args below meth c H locs 0 0 (MQ below (QV D cy (w12 cy aM res) A) args s 0 0 A) (F0 m 17 ls [])) : ∀ n : Nat, ∀ (x1 : Int32) (x2 : Int32) (x4 : Int32) (x5 : Int64) (SM : Ob) (res : Ob) (H : Heap) (locs : List Loc) (ls : Array Slot), f12_cutAll_159 k17 n x1 x2 x4 x5 SM = some res → GW D cy ad (w12 cy aM SM) A s H locs → lv_has ls 7 [(0, .ref (aM 0)), (1, .int x1), (2, .int x2), (4, .int x4), (5, .long x5)] → W p l e rm12_cutAll s m args below meth c H locs 0 0 (MQ below (QV D cy (w12 cy aM res) A) args s 0 0 A) (F0 m 159 ls []) := by
  intro n
  induction n with
  | zero =>
    intro _ _ _ _ _ _ _ _ _ hf _ _
    exact nomatch (show (none : Option (Ob)) = some _ from hf)
  | succ n ih =>
    intro x1 x2 x4 x5 SM res H locs ls hf hW hl
    rw [f12_cutAll_159] at hf
    refine lv_iload_n hC.1 hC.2.1 dX12_cutAll_159 rfl (lv_at hl 2 rfl) ?_
    refine lv_aload_n hC.1 hC.2.1 dX12_cutAll_160 rfl (lv_at hl 0 rfl) ?_
    refine g_get hC hW hin12_cutAll_12 0 rfl rfl 3 (by decide) 2 rfl rfl dX12_cutAll_161 ?_
    refine lv_icmp_ge (tgt := 218) hC.1 hC.2.1 dX12_cutAll_164 (by decide) (fun hc_1 => ?_) (fun hc_1 => ?_)
    · have hf := ite_t hf hc_1
      exact t12_cutAll_218 hC hk17  _ _ _ _ _ _ _ _ _ hf hW (lv_sub hl [0, 1, 2, 3, 4] rfl)
    · have hf := ite_f hf hc_1
      refine lv_aload_n hC.1 hC.2.1 dX12_cutAll_167 rfl (lv_at hl 0 rfl) ?_
      refine g_get hC hW hin12_cutAll_12 0 rfl rfl 1 (by decide) 3 rfl rfl dX12_cutAll_168 ?_
      refine lv_iload_n hC.1 hC.2.1 dX12_cutAll_171 rfl (lv_at hl 2 rfl) ?_
      obtain ⟨hi_2, hf⟩ := ck_of hf
      refine g_iald hC hW 1 rfl hi_2 dX12_cutAll_172 ?_
      obtain ⟨r_3, hg_4, hf⟩ := bd_of hf
      refine g_calliS hC hW (c12_isDigit l D cy ad  hg_4) (va_cwS 1 hC.2.2.2.2.1 gX12_cutAll_X12_isDigit rfl rfl rfl hdS12_isDigit ⟨Nat.le_of_ble_eq_true rfl, Nat.le_of_ble_eq_true rfl⟩) (Sub.nil _) rfl hl.1 rfl (Nat.le_of_ble_eq_true rfl) dX12_cutAll_173 ⟨Nat.zero_le _, Nat.zero_le _⟩ (fun H locs hW => ?_)
      refine lv_if_eq (tgt := 218) hC.1 hC.2.1 dX12_cutAll_176 (by decide) (fun hc_5 => ?_) (fun hc_5 => ?_)
      · have hf := ite_t hf hc_5
        exact t12_cutAll_218 hC hk17  _ _ _ _ _ _ _ _ _ hf hW (lv_sub hl [0, 1, 2, 3, 4] rfl)
      · have hf := ite_f hf hc_5
        refine lv_iload_n hC.1 hC.2.1 dX12_cutAll_179 rfl (lv_at hl 2 rfl) ?_
        refine lv_iload hC.1 hC.2.1 dX12_cutAll_180 (lv_at hl 3 rfl) ?_
        refine lv_isub hC.1 hC.2.1 dX12_cutAll_182 ?_
        refine lv_iconst (v := 4) hC.1 hC.2.1 dX12_cutAll_183 (by decide) ?_
        refine lv_icmp_ge (tgt := 208) hC.1 hC.2.1 dX12_cutAll_184 (by decide) (fun hc_6 => ?_) (fun hc_6 => ?_)
        · have hf := ite_t hf hc_6
          refine lv_lload hC.1 hC.2.1 dX12_cutAll_208 (lv_at hl 4 rfl) ?_
          exact t12_cutAll_210 hC hk17 ih  _ _ _ _ _ _ _ _ _ hf hW (lv_sub hl [0, 1, 2, 3] rfl)
        · have hf := ite_f hf hc_6
          refine lv_ldc2 (v := 10) hC.1 hC.2.1 hC.2.2.2.1 (hC.2.2.2.2.1 _ (List.mem_of_getElem? (i := 7) rfl)) dX12_cutAll_187 ?_
          refine lv_lload hC.1 hC.2.1 dX12_cutAll_190 (lv_at hl 4 rfl) ?_
          refine lv_lmul hC.1 hC.2.1 dX12_cutAll_192 ?_
          refine lv_aload_n hC.1 hC.2.1 dX12_cutAll_193 rfl (lv_at hl 0 rfl) ?_
          refine g_get hC hW hin12_cutAll_12 0 rfl rfl 1 (by decide) 3 rfl rfl dX12_cutAll_194 ?_
          refine lv_iload_n hC.1 hC.2.1 dX12_cutAll_197 rfl (lv_at hl 2 rfl) ?_
          obtain ⟨hi_7, hf⟩ := ck_of hf
          refine g_iald hC hW 1 rfl hi_7 dX12_cutAll_198 ?_
          refine lv_i2l (v := Int32.toInt64 (SM.2.2.1 1 (Int32.toNatClampNeg x2))) hC.1 hC.2.1 dX12_cutAll_199 rfl ?_
          refine lv_ladd hC.1 hC.2.1 dX12_cutAll_200 ?_
          refine lv_ldc2 (v := 48) hC.1 hC.2.1 hC.2.2.2.1 (hC.2.2.2.2.1 _ (List.mem_of_getElem? (i := 8) rfl)) dX12_cutAll_201 ?_
          refine lv_lsub hC.1 hC.2.1 dX12_cutAll_204 ?_
          refine lv_goto (tgt := 210) hC.1 hC.2.1 dX12_cutAll_205 (by decide) ?_
          exact t12_cutAll_210 hC hk17 ih  _ _ _ _ _ _ _ _ _ hf hW (lv_sub hl [0, 1, 2, 3] rfl)
set_option maxRecDepth 100000 in
set_option maxHeartbeats 4000000 in
theorem t12_cutAll_261 (hC : Cx p s m args meth c cX12_cutAll 7 wsX12_cutAll RX12 none) {k17 : Int32 → Int32 → Ob → Option (Ob)} (hk17 : ∀ (x1 : Int32) (x2 : Int32) (SM : Ob) (res : Ob) (H : Heap) (locs : List Loc) (ls : Array Slot), k17 x1 x2 SM = some res → GW D cy ad (w12 cy aM SM) A s H locs → lv_has ls 7 [(0, .ref (aM 0)), (1, .int x1), (2, .int x2)] → W p l e rm12_cutAll s m args below meth c H locs 0 0 (MQ below (QV D cy (w12 cy aM res) A) args s 0 0 A) (F0 m 17 ls [])) : ∀ (x1 : Int32) (x2 : Int32) (x5 : Int64) (z1 : Int32) (z2 : Int32) (SM : Ob) (res : Ob) (H : Heap) (locs : List Loc) (ls : Array Slot), f12_cutAll_261 k17 x1 x2 x5 z1 z2 SM = some res → GW D cy ad (w12 cy aM SM) A s H locs → lv_has ls 7 [(0, .ref (aM 0)), (1, .int x1), (2, .int x2), (5, .long x5)] → W p l e rm12_cutAll s m args below meth c H locs 0 0 (MQ below (QV D cy (w12 cy aM res) A) args s 0 0 A) (F0 m 261 ls [.int z2, .int z1, .ref (aM 5)]) := by
  intro x1 x2 x5 z1 z2 SM res H locs ls hf hW hl
  unfold f12_cutAll_261 at hf
  obtain ⟨hi_1, hf⟩ := ck_of hf
  obtain ⟨SM_2, eSM_2⟩ : ∃ y : Ob, y = oA SM 4 (Int32.toNatClampNeg z1) z2 := ⟨_, rfl⟩
  have hf := lt_nm hf eSM_2
  refine g_iast hC hW 2 rfl hi_1 (w' := w12 cy aM SM_2) (by rw [eSM_2]; rfl) dX12_cutAll_261 (fun H locs hW => ?_)
  obtain ⟨x2_3, ex2_3⟩ : ∃ y : Int32, y = x2 + 1 := ⟨_, rfl⟩
  have hf := lt_nm hf ex2_3
  refine lv_iinc (v := x2_3) (lv' := [(2, .int x2_3), (0, .ref (aM 0)), (1, .int x1), (5, .long x5)]) hC.1 hC.2.1 dX12_cutAll_262 hl (k := 2) rfl (by rw [ex2_3]; rfl) (by decide) rfl (fun ls hl => ?_)
  exact t12_cutAll_265 hC hk17  _ _ _ _ _ _ _ _ hf hW (lv_sub hl [1, 2, 0, 3] rfl)
set_option maxRecDepth 100000 in
set_option maxHeartbeats 4000000 in
theorem t12_cutAll_17 (hC : Cx p s m args meth c cX12_cutAll 7 wsX12_cutAll RX12 none) : ∀ n : Nat, ∀ (x1 : Int32) (x2 : Int32) (SM : Ob) (res : Ob) (H : Heap) (locs : List Loc) (ls : Array Slot), f12_cutAll_17 n x1 x2 SM = some res → GW D cy ad (w12 cy aM SM) A s H locs → lv_has ls 7 [(0, .ref (aM 0)), (1, .int x1), (2, .int x2)] → W p l e rm12_cutAll s m args below meth c H locs 0 0 (MQ below (QV D cy (w12 cy aM res) A) args s 0 0 A) (F0 m 17 ls []) := by
  intro n
  induction n with
  | zero =>
    intro _ _ _ _ _ _ _ hf _ _
    exact nomatch (show (none : Option (Ob)) = some _ from hf)
  | succ n ih =>
    intro x1 x2 SM res H locs ls hf hW hl
    rw [f12_cutAll_17] at hf
    refine lv_iload_n hC.1 hC.2.1 dX12_cutAll_17 rfl (lv_at hl 2 rfl) ?_
    refine lv_aload_n hC.1 hC.2.1 dX12_cutAll_18 rfl (lv_at hl 0 rfl) ?_
    refine g_get hC hW hin12_cutAll_12 0 rfl rfl 3 (by decide) 2 rfl rfl dX12_cutAll_19 ?_
    refine lv_icmp_ge (tgt := 279) hC.1 hC.2.1 dX12_cutAll_22 (by decide) (fun hc_1 => ?_) (fun hc_1 => ?_)
    · have hf := ite_t hf hc_1
      refine lv_aload_n hC.1 hC.2.1 dX12_cutAll_279 rfl (lv_at hl 0 rfl) ?_
      refine g_get hC hW hin12_cutAll_12 0 rfl rfl 4 (by decide) 6 rfl rfl dX12_cutAll_280 ?_
      refine lv_iload_n hC.1 hC.2.1 dX12_cutAll_283 rfl (lv_at hl 1 rfl) ?_
      refine lv_iconst (v := 0) hC.1 hC.2.1 dX12_cutAll_284 (by decide) ?_
      obtain ⟨hi_2, hf⟩ := ck_of hf
      obtain ⟨SM_3, eSM_3⟩ : ∃ y : Ob, y = oA SM 4 (Int32.toNatClampNeg x1) 0 := ⟨_, rfl⟩
      have hf := lt_nm hf eSM_3
      refine g_iast hC hW 2 rfl hi_2 (w' := w12 cy aM SM_3) (by rw [eSM_3]; rfl) dX12_cutAll_285 (fun H locs hW => ?_)
      refine lv_aload_n hC.1 hC.2.1 dX12_cutAll_286 rfl (lv_at hl 0 rfl) ?_
      refine g_get hC hW hin12_cutAll_12 0 rfl rfl 5 (by decide) 4 rfl rfl dX12_cutAll_287 ?_
      refine lv_iload_n hC.1 hC.2.1 dX12_cutAll_290 rfl (lv_at hl 1 rfl) ?_
      refine lv_aload_n hC.1 hC.2.1 dX12_cutAll_291 rfl (lv_at hl 0 rfl) ?_
      refine g_get hC hW hin12_cutAll_12 0 rfl rfl 3 (by decide) 2 rfl rfl dX12_cutAll_292 ?_
      obtain ⟨hi_4, hf⟩ := ck_of hf
      obtain ⟨SM_5, eSM_5⟩ : ∃ y : Ob, y = oA SM_3 5 (Int32.toNatClampNeg x1) (SM_3.1 3) := ⟨_, rfl⟩
      have hf := lt_nm hf eSM_5
      refine g_iast hC hW 3 rfl hi_4 (w' := w12 cy aM SM_5) (by rw [eSM_5]; rfl) dX12_cutAll_295 (fun H locs hW => ?_)
      refine lv_aload_n hC.1 hC.2.1 dX12_cutAll_296 rfl (lv_at hl 0 rfl) ?_
      refine lv_iconst (v := 0) hC.1 hC.2.1 dX12_cutAll_297 (by decide) ?_
      obtain ⟨SM_6, eSM_6⟩ : ∃ y : Ob, y = oI SM_5 7 0 := ⟨_, rfl⟩
      have hf := lt_nm hf eSM_6
      refine g_put hC hW hin12_cutAll_12 tyX12 tyX12_ok nmX12 0 rfl rfl 7 (by decide) 10 rfl rfl rfl rfl (Nat.le_of_ble_eq_true rfl) (w' := w12 cy aM SM_6) (by rw [eSM_6]; rfl) dX12_cutAll_298 (fun H locs hW => ?_)
      refine lv_aload_n hC.1 hC.2.1 dX12_cutAll_301 rfl (lv_at hl 0 rfl) ?_
      refine lv_iconst (v := 0) hC.1 hC.2.1 dX12_cutAll_302 (by decide) ?_
      obtain ⟨SM_7, eSM_7⟩ : ∃ y : Ob, y = oI SM_6 8 0 := ⟨_, rfl⟩
      have hf := lt_nm hf eSM_7
      refine g_put hC hW hin12_cutAll_12 tyX12 tyX12_ok nmX12 0 rfl rfl 8 (by decide) 11 rfl rfl rfl rfl (Nat.le_of_ble_eq_true rfl) (w' := w12 cy aM SM_7) (by rw [eSM_7]; rfl) dX12_cutAll_303 (fun H locs hW => ?_)
      obtain rfl := Option.some.inj hf
      exact g_vret hC hW dX12_cutAll_306
    · have hf := ite_f hf hc_1
      refine lv_aload_n hC.1 hC.2.1 dX12_cutAll_25 rfl (lv_at hl 0 rfl) ?_
      refine g_get hC hW hin12_cutAll_12 0 rfl rfl 1 (by decide) 3 rfl rfl dX12_cutAll_26 ?_
      refine lv_iload_n hC.1 hC.2.1 dX12_cutAll_29 rfl (lv_at hl 2 rfl) ?_
      obtain ⟨hi_8, hf⟩ := ck_of hf
      refine g_iald hC hW 1 rfl hi_8 dX12_cutAll_30 ?_
      refine lv_topi (fun x3_9 ex3_9 => ?_)
      have hf := lt_nm hf ex3_9
      refine lv_istore_n (lv' := [(3, .int x3_9), (0, .ref (aM 0)), (1, .int x1), (2, .int x2)]) hC.1 hC.2.1 dX12_cutAll_31 rfl hl (by decide) rfl (fun ls hl => ?_)
      refine lv_iload_n hC.1 hC.2.1 dX12_cutAll_32 rfl (lv_at hl 0 rfl) ?_
      refine lv_bipush (v := 10) hC.1 hC.2.1 dX12_cutAll_33 (by decide) ?_
      refine lv_icmp_eq (tgt := 44) hC.1 hC.2.1 dX12_cutAll_35 (by decide) (fun hc_10 => ?_) (fun hc_10 => ?_)
      · have hf := ite_t hf hc_10
        exact t12_cutAll_44 hC ih  _ _ _ _ _ _ _ hf hW (lv_sub hl [1, 2, 3] rfl)
      · have hf := ite_f hf hc_10
        refine lv_iload_n hC.1 hC.2.1 dX12_cutAll_38 rfl (lv_at hl 0 rfl) ?_
        refine lv_bipush (v := 32) hC.1 hC.2.1 dX12_cutAll_39 (by decide) ?_
        refine lv_icmp_ne (tgt := 50) hC.1 hC.2.1 dX12_cutAll_41 (by decide) (fun hc_11 => ?_) (fun hc_11 => ?_)
        · have hf := ite_f hf hc_11
          refine lv_iload_n hC.1 hC.2.1 dX12_cutAll_50 rfl (lv_at hl 3 rfl) ?_
          refine lv_istore (lv' := [(4, .int x2), (3, .int x3_9), (0, .ref (aM 0)), (1, .int x1), (2, .int x2)]) hC.1 hC.2.1 dX12_cutAll_51 hl (by decide) rfl (fun ls hl => ?_)
          refine lv_lconst (v := 0) hC.1 hC.2.1 dX12_cutAll_53 (by decide) ?_
          refine lv_lstore (lv' := [(5, .long 0), (4, .int x2), (3, .int x3_9), (0, .ref (aM 0)), (1, .int x1), (2, .int x2)]) hC.1 hC.2.1 dX12_cutAll_54 hl (by decide) rfl (fun ls hl => ?_)
          refine lv_aload_n hC.1 hC.2.1 dX12_cutAll_56 rfl (lv_at hl 3 rfl) ?_
          refine g_get hC hW hin12_cutAll_12 0 rfl rfl 5 (by decide) 4 rfl rfl dX12_cutAll_57 ?_
          refine lv_iload_n hC.1 hC.2.1 dX12_cutAll_60 rfl (lv_at hl 4 rfl) ?_
          refine lv_iload_n hC.1 hC.2.1 dX12_cutAll_61 rfl (lv_at hl 5 rfl) ?_
          obtain ⟨hi_12, hf⟩ := ck_of hf
          obtain ⟨SM_13, eSM_13⟩ : ∃ y : Ob, y = oA SM 5 (Int32.toNatClampNeg x1) x2 := ⟨_, rfl⟩
          have hf := lt_nm hf eSM_13
          refine g_iast hC hW 3 rfl hi_12 (w' := w12 cy aM SM_13) (by rw [eSM_13]; rfl) dX12_cutAll_62 (fun H locs hW => ?_)
          refine lv_iload_n hC.1 hC.2.1 dX12_cutAll_63 rfl (lv_at hl 2 rfl) ?_
          obtain ⟨r_14, hg_15, hf⟩ := bd_of hf
          refine g_calliS hC hW (c12_isLetter l D cy ad  hg_15) (va_cwS 1 hC.2.2.2.2.1 gX12_cutAll_X12_isLetter rfl rfl rfl hdS12_isLetter ⟨Nat.le_of_ble_eq_true rfl, Nat.le_of_ble_eq_true rfl⟩) (Sub.nil _) rfl hl.1 rfl (Nat.le_of_ble_eq_true rfl) dX12_cutAll_64 ⟨Nat.zero_le _, Nat.zero_le _⟩ (fun H locs hW => ?_)
          refine lv_if_eq (tgt := 152) hC.1 hC.2.1 dX12_cutAll_67 (by decide) (fun hc_16 => ?_) (fun hc_16 => ?_)
          · have hf := ite_t hf hc_16
            refine lv_iload_n hC.1 hC.2.1 dX12_cutAll_152 rfl (lv_at hl 2 rfl) ?_
            obtain ⟨r_17, hg_18, hf⟩ := bd_of hf
            refine g_calliS hC hW (c12_isDigit l D cy ad  hg_18) (va_cwS 1 hC.2.2.2.2.1 gX12_cutAll_X12_isDigit rfl rfl rfl hdS12_isDigit ⟨Nat.le_of_ble_eq_true rfl, Nat.le_of_ble_eq_true rfl⟩) (Sub.nil _) rfl hl.1 rfl (Nat.le_of_ble_eq_true rfl) dX12_cutAll_153 ⟨Nat.zero_le _, Nat.zero_le _⟩ (fun H locs hW => ?_)
            refine lv_if_eq (tgt := 240) hC.1 hC.2.1 dX12_cutAll_156 (by decide) (fun hc_19 => ?_) (fun hc_19 => ?_)
            · have hf := ite_t hf hc_19
              refine lv_iload_n hC.1 hC.2.1 dX12_cutAll_240 rfl (lv_at hl 2 rfl) ?_
              refine lv_i2l (v := Int32.toInt64 x3_9) hC.1 hC.2.1 dX12_cutAll_241 rfl ?_
              refine lv_topl (fun x5_20 ex5_20 => ?_)
              have hf := lt_nm hf ex5_20
              refine lv_lstore (lv' := [(5, .long x5_20), (4, .int x2), (3, .int x3_9), (0, .ref (aM 0)), (1, .int x1), (2, .int x2)]) hC.1 hC.2.1 dX12_cutAll_242 hl (by decide) rfl (fun ls hl => ?_)
              refine lv_aload_n hC.1 hC.2.1 dX12_cutAll_244 rfl (lv_at hl 3 rfl) ?_
              refine g_get hC hW hin12_cutAll_12 0 rfl rfl 4 (by decide) 6 rfl rfl dX12_cutAll_245 ?_
              refine lv_iload_n hC.1 hC.2.1 dX12_cutAll_248 rfl (lv_at hl 4 rfl) ?_
              refine lv_iload_n hC.1 hC.2.1 dX12_cutAll_249 rfl (lv_at hl 2 rfl) ?_
              obtain ⟨r_21, hg_22, hf⟩ := bd_of hf
              refine g_calliS hC hW (c12_isSignOf l D cy ad  hg_22) (va_cwS 1 hC.2.2.2.2.1 gX12_cutAll_X12_isSignOf rfl rfl rfl hdS12_isSignOf ⟨Nat.le_of_ble_eq_true rfl, Nat.le_of_ble_eq_true rfl⟩) (Sub.nil _) rfl hl.1 rfl (Nat.le_of_ble_eq_true rfl) dX12_cutAll_250 ⟨Nat.zero_le _, Nat.zero_le _⟩ (fun H locs hW => ?_)
              refine lv_if_eq (tgt := 260) hC.1 hC.2.1 dX12_cutAll_253 (by decide) (fun hc_23 => ?_) (fun hc_23 => ?_)
              · have hf := ite_t hf hc_23
                refine lv_iconst (v := 4) hC.1 hC.2.1 dX12_cutAll_260 (by decide) ?_
                exact t12_cutAll_261 hC ih  _ _ _ _ _ _ _ _ _ _ hf hW (lv_sub hl [3, 4, 5, 0] rfl)
              · have hf := ite_f hf hc_23
                refine lv_iconst (v := 3) hC.1 hC.2.1 dX12_cutAll_256 (by decide) ?_
                refine lv_goto (tgt := 261) hC.1 hC.2.1 dX12_cutAll_257 (by decide) ?_
                exact t12_cutAll_261 hC ih  _ _ _ _ _ _ _ _ _ _ hf hW (lv_sub hl [3, 4, 5, 0] rfl)
            · have hf := ite_f hf hc_19
              exact t12_cutAll_159 hC ih _ _ _ _ _ _ _ _ _ _ hf hW (lv_sub hl [3, 4, 5, 1, 0] rfl)
          · have hf := ite_f hf hc_16
            exact t12_cutAll_70 hC ih _ _ _ _ _ _ _ _ _ _ hf hW (lv_sub hl [3, 4, 5, 1, 0] rfl)
        · have hf := ite_t hf hc_11
          exact t12_cutAll_44 hC ih  _ _ _ _ _ _ _ hf hW (lv_sub hl [1, 2, 3] rfl)
set_option maxRecDepth 100000 in
set_option maxHeartbeats 4000000 in
theorem t12_cutAll_0 (hC : Cx p s m args meth c cX12_cutAll 7 wsX12_cutAll RX12 none) : ∀ (SM : Ob) (res : Ob) (H : Heap) (locs : List Loc) (ls : Array Slot), f12_cutAll SM = some res → GW D cy ad (w12 cy aM SM) A s H locs → lv_has ls 7 [(0, .ref (aM 0))] → W p l e rm12_cutAll s m args below meth c H locs 0 0 (MQ below (QV D cy (w12 cy aM res) A) args s 0 0 A) (F0 m 0 ls []) := by
  intro SM res H locs ls hf hW hl
  unfold f12_cutAll at hf
  refine lv_aload_n hC.1 hC.2.1 dX12_cutAll_0 rfl (lv_at hl 0 rfl) ?_
  refine lv_aload_n hC.1 hC.2.1 dX12_cutAll_1 rfl (lv_at hl 0 rfl) ?_
  refine g_get hC hW hin12_cutAll_12 0 rfl rfl 2 (by decide) 1 rfl rfl dX12_cutAll_2 ?_
  obtain ⟨SM_1, eSM_1⟩ : ∃ y : Ob, y = oI SM 3 (SM.1 2) := ⟨_, rfl⟩
  have hf := lt_nm hf eSM_1
  refine g_put hC hW hin12_cutAll_12 tyX12 tyX12_ok nmX12 0 rfl rfl 3 (by decide) 2 rfl rfl rfl rfl (Nat.le_of_ble_eq_true rfl) (w' := w12 cy aM SM_1) (by rw [eSM_1]; rfl) dX12_cutAll_5 (fun H locs hW => ?_)
  refine lv_aload_n hC.1 hC.2.1 dX12_cutAll_8 rfl (lv_at hl 0 rfl) ?_
  refine lv_iconst (v := 0) hC.1 hC.2.1 dX12_cutAll_9 (by decide) ?_
  obtain ⟨SM_2, eSM_2⟩ : ∃ y : Ob, y = oI SM_1 2 0 := ⟨_, rfl⟩
  have hf := lt_nm hf eSM_2
  refine g_put hC hW hin12_cutAll_12 tyX12 tyX12_ok nmX12 0 rfl rfl 2 (by decide) 1 rfl rfl rfl rfl (Nat.le_of_ble_eq_true rfl) (w' := w12 cy aM SM_2) (by rw [eSM_2]; rfl) dX12_cutAll_10 (fun H locs hW => ?_)
  refine lv_iconst (v := 0) hC.1 hC.2.1 dX12_cutAll_13 (by decide) ?_
  refine lv_istore_n (lv' := [(1, .int 0), (0, .ref (aM 0))]) hC.1 hC.2.1 dX12_cutAll_14 rfl hl (by decide) rfl (fun ls hl => ?_)
  refine lv_iconst (v := 0) hC.1 hC.2.1 dX12_cutAll_15 (by decide) ?_
  refine lv_istore_n (lv' := [(2, .int 0), (1, .int 0), (0, .ref (aM 0))]) hC.1 hC.2.1 dX12_cutAll_16 rfl hl (by decide) rfl (fun ls hl => ?_)
  exact t12_cutAll_17 hC _ _ _ _ _ _ _ _ hf hW (lv_sub hl [2, 1, 0] rfl)
set_option maxRecDepth 100000 in
set_option maxHeartbeats 4000000 in
theorem c12_cutAll (l : Launch) (D : va_G) (cy : Nat → ClassId) (ad : Nat → Nat) (aM : Nat → Nat) {SM : Ob} {res : Ob} (h : f12_cutAll SM = some res) : GCv l yX12_cutAll wsX12_cutAll rm12_cutAll [.ref (aM 0)] D cy ad (w12 cy aM SM) (w12 cy aM res) := fun sz => GC.start (own := RX12) (Qc := fun A => QV D cy (w12 cy aM res) A) sz (by decide) rfl rfl (Nat.le_of_ble_eq_true rfl) (fun p e s m below meth c A ls hC hW hl => t12_cutAll_0 hC _ _ _ _ _ h hW (lv_sub hl [0] rfl))
abbrev rm12_wrong : Room := { frames := 0, cells := 0, slots := 0, locals := 0 }
theorem hdV12_wrong : yX12_wrong.cls = RX12 ∧ (yX12_wrong.cls ≠ "java/lang/invoke/MethodHandle" ∧ yX12_wrong.cls ≠ "java/lang/invoke/VarHandle" ∧ (parseMethodDescriptor yX12_wrong.desc).map (fun d => d.parameters.length) = some 1) := by decide +kernel
theorem hin12_wrong_12 : ∀ x ∈ u_ws RX12 TX12 39, x ∈ wsX12_wrong := fun _ h => List.mem_cons_of_mem _ (List.mem_append_right _ h)
set_option maxRecDepth 100000 in
set_option maxHeartbeats 4000000 in
theorem t12_wrong_25 (hC : Cx p s m args meth c cX12_wrong 2 wsX12_wrong RX12 none) : ∀ (SM : Ob) (res : Ob) (H : Heap) (locs : List Loc) (ls : Array Slot), f12_wrong_25 SM = some res → GW D cy ad (w12 cy aM SM) A s H locs → lv_has ls 2 [] → W p l e rm12_wrong s m args below meth c H locs 0 0 (MQ below (QV D cy (w12 cy aM res) A) args s 0 0 A) (F0 m 25 ls []) := by
  intro SM res H locs ls hf hW hl
  unfold f12_wrong_25 at hf
  obtain rfl := Option.some.inj hf
  exact g_vret hC hW dX12_wrong_25
set_option maxRecDepth 100000 in
set_option maxHeartbeats 4000000 in
theorem t12_wrong_0 (hC : Cx p s m args meth c cX12_wrong 2 wsX12_wrong RX12 none) : ∀ (x1 : Int32) (SM : Ob) (res : Ob) (H : Heap) (locs : List Loc) (ls : Array Slot), f12_wrong x1 SM = some res → GW D cy ad (w12 cy aM SM) A s H locs → lv_has ls 2 [(0, .ref (aM 0)), (1, .int x1)] → W p l e rm12_wrong s m args below meth c H locs 0 0 (MQ below (QV D cy (w12 cy aM res) A) args s 0 0 A) (F0 m 0 ls []) := by
  intro x1 SM res H locs ls hf hW hl
  unfold f12_wrong at hf
  refine lv_aload_n hC.1 hC.2.1 dX12_wrong_0 rfl (lv_at hl 0 rfl) ?_
  refine g_get hC hW hin12_wrong_12 0 rfl rfl 8 (by decide) 1 rfl rfl dX12_wrong_1 ?_
  refine lv_if_ne (tgt := 25) hC.1 hC.2.1 dX12_wrong_4 (by decide) (fun hc_1 => ?_) (fun hc_1 => ?_)
  · have hf := ite_f hf hc_1
    exact t12_wrong_25 hC  _ _ _ _ _ hf hW (lv_sub hl [] rfl)
  · have hf := ite_t hf hc_1
    refine lv_aload_n hC.1 hC.2.1 dX12_wrong_7 rfl (lv_at hl 0 rfl) ?_
    refine lv_iload_n hC.1 hC.2.1 dX12_wrong_8 rfl (lv_at hl 1 rfl) ?_
    refine lv_bipush (v := 16) hC.1 hC.2.1 dX12_wrong_9 (by decide) ?_
    refine lv_aload_n hC.1 hC.2.1 dX12_wrong_11 rfl (lv_at hl 0 rfl) ?_
    refine g_get hC hW hin12_wrong_12 0 rfl rfl 5 (by decide) 2 rfl rfl dX12_wrong_12 ?_
    refine lv_aload_n hC.1 hC.2.1 dX12_wrong_15 rfl (lv_at hl 0 rfl) ?_
    refine g_get hC hW hin12_wrong_12 0 rfl rfl 7 (by decide) 3 rfl rfl dX12_wrong_16 ?_
    obtain ⟨hi_2, hf⟩ := ck_of hf
    refine g_iald hC hW 3 rfl hi_2 dX12_wrong_19 ?_
    refine lv_imul hC.1 hC.2.1 dX12_wrong_20 ?_
    refine lv_iadd hC.1 hC.2.1 dX12_wrong_21 ?_
    obtain ⟨SM_3, eSM_3⟩ : ∃ y : Ob, y = oI SM 8 (x1 + (16 * (SM.2.2.1 5 (Int32.toNatClampNeg (SM.1 7))))) := ⟨_, rfl⟩
    have hf := lt_nm hf eSM_3
    refine g_put hC hW hin12_wrong_12 tyX12 tyX12_ok nmX12 0 rfl rfl 8 (by decide) 1 rfl rfl rfl rfl (Nat.le_of_ble_eq_true rfl) (w' := w12 cy aM SM_3) (by rw [eSM_3]; rfl) dX12_wrong_22 (fun H locs hW => ?_)
    exact t12_wrong_25 hC  _ _ _ _ _ hf hW (lv_sub hl [] rfl)
set_option maxRecDepth 100000 in
set_option maxHeartbeats 4000000 in
theorem c12_wrong (l : Launch) (D : va_G) (cy : Nat → ClassId) (ad : Nat → Nat) (aM : Nat → Nat) {x1 : Int32} {SM : Ob} {res : Ob} (h : f12_wrong x1 SM = some res) : GCv l yX12_wrong wsX12_wrong rm12_wrong [.ref (aM 0), .int x1] D cy ad (w12 cy aM SM) (w12 cy aM res) := fun sz => GC.start (own := RX12) (Qc := fun A => QV D cy (w12 cy aM res) A) sz (by decide) rfl rfl (Nat.le_of_ble_eq_true rfl) (fun p e s m below meth c A ls hC hW hl => t12_wrong_0 hC _ _ _ _ _ _ h hW (lv_sub hl [0, 1] rfl))
abbrev rm12_isSign : Room := { frames := 0, cells := 0, slots := 0, locals := 0 }
theorem hdV12_isSign : yX12_isSign.cls = RX12 ∧ (yX12_isSign.cls ≠ "java/lang/invoke/MethodHandle" ∧ yX12_isSign.cls ≠ "java/lang/invoke/VarHandle" ∧ (parseMethodDescriptor yX12_isSign.desc).map (fun d => d.parameters.length) = some 1) := by decide +kernel
theorem hin12_isSign_12 : ∀ x ∈ u_ws RX12 TX12 39, x ∈ wsX12_isSign := fun _ h => List.mem_cons_of_mem _ (List.mem_append_right _ h)
set_option maxRecDepth 100000 in
set_option maxHeartbeats 4000000 in
theorem t12_isSign_40 (hC : Cx p s m args meth c cX12_isSign 2 wsX12_isSign RX12 (some .boolean)) : ∀ (z0 : Int32) (SM : Ob) (res : Int32) (H : Heap) (locs : List Loc) (ls : Array Slot), f12_isSign_40 z0 SM = some res → GW D cy ad (w12 cy aM SM) A s H locs → lv_has ls 2 [] → W p l e rm12_isSign s m args below meth c H locs 0 0 (MQ below (QI D cy (w12 cy aM SM) A res) args s 0 0 A) (F0 m 40 ls [.int z0]) := by
  intro z0 SM res H locs ls hf hW hl
  unfold f12_isSign_40 at hf
  obtain ⟨hz, hf⟩ := ck_of hf
  obtain rfl := Option.some.inj hf
  exact g_zret hC hW hz dX12_isSign_40
set_option maxRecDepth 100000 in
set_option maxHeartbeats 4000000 in
theorem t12_isSign_39 (hC : Cx p s m args meth c cX12_isSign 2 wsX12_isSign RX12 (some .boolean)) : ∀ (SM : Ob) (res : Int32) (H : Heap) (locs : List Loc) (ls : Array Slot), f12_isSign_39 SM = some res → GW D cy ad (w12 cy aM SM) A s H locs → lv_has ls 2 [] → W p l e rm12_isSign s m args below meth c H locs 0 0 (MQ below (QI D cy (w12 cy aM SM) A res) args s 0 0 A) (F0 m 39 ls []) := by
  intro SM res H locs ls hf hW hl
  unfold f12_isSign_39 at hf
  refine lv_iconst (v := 0) hC.1 hC.2.1 dX12_isSign_39 (by decide) ?_
  exact t12_isSign_40 hC  _ _ _ _ _ _ hf hW (lv_sub hl [] rfl)
set_option maxRecDepth 100000 in
set_option maxHeartbeats 4000000 in
theorem t12_isSign_0 (hC : Cx p s m args meth c cX12_isSign 2 wsX12_isSign RX12 (some .boolean)) : ∀ (x1 : Int32) (SM : Ob) (res : Int32) (H : Heap) (locs : List Loc) (ls : Array Slot), f12_isSign x1 SM = some res → GW D cy ad (w12 cy aM SM) A s H locs → lv_has ls 2 [(0, .ref (aM 0)), (1, .int x1)] → W p l e rm12_isSign s m args below meth c H locs 0 0 (MQ below (QI D cy (w12 cy aM SM) A res) args s 0 0 A) (F0 m 0 ls []) := by
  intro x1 SM res H locs ls hf hW hl
  unfold f12_isSign at hf
  refine lv_aload_n hC.1 hC.2.1 dX12_isSign_0 rfl (lv_at hl 0 rfl) ?_
  refine g_get hC hW hin12_isSign_12 0 rfl rfl 8 (by decide) 1 rfl rfl dX12_isSign_1 ?_
  refine lv_if_ne (tgt := 39) hC.1 hC.2.1 dX12_isSign_4 (by decide) (fun hc_1 => ?_) (fun hc_1 => ?_)
  · have hf := ite_f hf hc_1
    exact t12_isSign_39 hC  _ _ _ _ _ hf hW (lv_sub hl [] rfl)
  · have hf := ite_t hf hc_1
    refine lv_aload_n hC.1 hC.2.1 dX12_isSign_7 rfl (lv_at hl 0 rfl) ?_
    refine g_get hC hW hin12_isSign_12 0 rfl rfl 4 (by decide) 2 rfl rfl dX12_isSign_8 ?_
    refine lv_aload_n hC.1 hC.2.1 dX12_isSign_11 rfl (lv_at hl 0 rfl) ?_
    refine g_get hC hW hin12_isSign_12 0 rfl rfl 7 (by decide) 3 rfl rfl dX12_isSign_12 ?_
    obtain ⟨hi_2, hf⟩ := ck_of hf
    refine g_iald hC hW 2 rfl hi_2 dX12_isSign_15 ?_
    refine lv_iconst (v := 3) hC.1 hC.2.1 dX12_isSign_16 (by decide) ?_
    refine lv_icmp_ne (tgt := 39) hC.1 hC.2.1 dX12_isSign_17 (by decide) (fun hc_3 => ?_) (fun hc_3 => ?_)
    · have hf := ite_f hf hc_3
      exact t12_isSign_39 hC  _ _ _ _ _ hf hW (lv_sub hl [] rfl)
    · have hf := ite_t hf hc_3
      refine lv_aload_n hC.1 hC.2.1 dX12_isSign_20 rfl (lv_at hl 0 rfl) ?_
      refine g_get hC hW hin12_isSign_12 0 rfl rfl 6 (by decide) 4 rfl rfl dX12_isSign_21 ?_
      refine lv_aload_n hC.1 hC.2.1 dX12_isSign_24 rfl (lv_at hl 0 rfl) ?_
      refine g_get hC hW hin12_isSign_12 0 rfl rfl 7 (by decide) 3 rfl rfl dX12_isSign_25 ?_
      obtain ⟨hi_4, hf⟩ := ck_of hf
      refine g_lald hC hW 4 rfl hi_4 dX12_isSign_28 ?_
      refine lv_iload_n hC.1 hC.2.1 dX12_isSign_29 rfl (lv_at hl 1 rfl) ?_
      refine lv_i2l (v := Int32.toInt64 x1) hC.1 hC.2.1 dX12_isSign_30 rfl ?_
      refine W.lcmp hC.1 hC.2.1 dX12_isSign_31 ?_
      refine lv_if_ne (tgt := 39) hC.1 hC.2.1 dX12_isSign_32 (by decide) (fun hc_5 => ?_) (fun hc_5 => ?_)
      · have hf := ite_f hf hc_5
        exact t12_isSign_39 hC  _ _ _ _ _ hf hW (lv_sub hl [] rfl)
      · have hf := ite_t hf hc_5
        refine lv_iconst (v := 1) hC.1 hC.2.1 dX12_isSign_35 (by decide) ?_
        refine lv_goto (tgt := 40) hC.1 hC.2.1 dX12_isSign_36 (by decide) ?_
        exact t12_isSign_40 hC  _ _ _ _ _ _ hf hW (lv_sub hl [] rfl)
set_option maxRecDepth 100000 in
set_option maxHeartbeats 4000000 in
theorem c12_isSign (l : Launch) (D : va_G) (cy : Nat → ClassId) (ad : Nat → Nat) (aM : Nat → Nat) {x1 : Int32} {SM : Ob} {res : Int32} (h : f12_isSign x1 SM = some res) : GCi l yX12_isSign wsX12_isSign rm12_isSign [.ref (aM 0), .int x1] D cy ad (w12 cy aM SM) (w12 cy aM SM) res := fun sz => GC.start (own := RX12) (Qc := fun A => QI D cy (w12 cy aM SM) A res) sz (by decide) rfl rfl (Nat.le_of_ble_eq_true rfl) (fun p e s m below meth c A ls hC hW hl => t12_isSign_0 hC _ _ _ _ _ _ h hW (lv_sub hl [0, 1] rfl))
abbrev rm12_isWord : Room := { frames := 0, cells := 0, slots := 0, locals := 0 }
theorem hdV12_isWord : yX12_isWord.cls = RX12 ∧ (yX12_isWord.cls ≠ "java/lang/invoke/MethodHandle" ∧ yX12_isWord.cls ≠ "java/lang/invoke/VarHandle" ∧ (parseMethodDescriptor yX12_isWord.desc).map (fun d => d.parameters.length) = some 1) := by decide +kernel
theorem hin12_isWord_12 : ∀ x ∈ u_ws RX12 TX12 39, x ∈ wsX12_isWord := fun _ h => List.mem_cons_of_mem _ (List.mem_append_right _ h)
set_option maxRecDepth 100000 in
set_option maxHeartbeats 4000000 in
theorem t12_isWord_44 (hC : Cx p s m args meth c cX12_isWord 2 wsX12_isWord RX12 (some .boolean)) : ∀ (z0 : Int32) (SM : Ob) (res : Int32) (H : Heap) (locs : List Loc) (ls : Array Slot), f12_isWord_44 z0 SM = some res → GW D cy ad (w12 cy aM SM) A s H locs → lv_has ls 2 [] → W p l e rm12_isWord s m args below meth c H locs 0 0 (MQ below (QI D cy (w12 cy aM SM) A res) args s 0 0 A) (F0 m 44 ls [.int z0]) := by
  intro z0 SM res H locs ls hf hW hl
  unfold f12_isWord_44 at hf
  obtain ⟨hz, hf⟩ := ck_of hf
  obtain rfl := Option.some.inj hf
  exact g_zret hC hW hz dX12_isWord_44
set_option maxRecDepth 100000 in
set_option maxHeartbeats 4000000 in
theorem t12_isWord_43 (hC : Cx p s m args meth c cX12_isWord 2 wsX12_isWord RX12 (some .boolean)) : ∀ (SM : Ob) (res : Int32) (H : Heap) (locs : List Loc) (ls : Array Slot), f12_isWord_43 SM = some res → GW D cy ad (w12 cy aM SM) A s H locs → lv_has ls 2 [] → W p l e rm12_isWord s m args below meth c H locs 0 0 (MQ below (QI D cy (w12 cy aM SM) A res) args s 0 0 A) (F0 m 43 ls []) := by
  intro SM res H locs ls hf hW hl
  unfold f12_isWord_43 at hf
  refine lv_iconst (v := 0) hC.1 hC.2.1 dX12_isWord_43 (by decide) ?_
  exact t12_isWord_44 hC  _ _ _ _ _ _ hf hW (lv_sub hl [] rfl)
set_option maxRecDepth 100000 in
set_option maxHeartbeats 4000000 in
theorem t12_isWord_0 (hC : Cx p s m args meth c cX12_isWord 2 wsX12_isWord RX12 (some .boolean)) : ∀ (x1 : Int32) (SM : Ob) (res : Int32) (H : Heap) (locs : List Loc) (ls : Array Slot), f12_isWord x1 SM = some res → GW D cy ad (w12 cy aM SM) A s H locs → lv_has ls 2 [(0, .ref (aM 0)), (1, .int x1)] → W p l e rm12_isWord s m args below meth c H locs 0 0 (MQ below (QI D cy (w12 cy aM SM) A res) args s 0 0 A) (F0 m 0 ls []) := by
  intro x1 SM res H locs ls hf hW hl
  unfold f12_isWord at hf
  refine lv_aload_n hC.1 hC.2.1 dX12_isWord_0 rfl (lv_at hl 0 rfl) ?_
  refine g_get hC hW hin12_isWord_12 0 rfl rfl 8 (by decide) 1 rfl rfl dX12_isWord_1 ?_
  refine lv_if_ne (tgt := 43) hC.1 hC.2.1 dX12_isWord_4 (by decide) (fun hc_1 => ?_) (fun hc_1 => ?_)
  · have hf := ite_f hf hc_1
    exact t12_isWord_43 hC  _ _ _ _ _ hf hW (lv_sub hl [] rfl)
  · have hf := ite_t hf hc_1
    refine lv_aload_n hC.1 hC.2.1 dX12_isWord_7 rfl (lv_at hl 0 rfl) ?_
    refine g_get hC hW hin12_isWord_12 0 rfl rfl 4 (by decide) 2 rfl rfl dX12_isWord_8 ?_
    refine lv_aload_n hC.1 hC.2.1 dX12_isWord_11 rfl (lv_at hl 0 rfl) ?_
    refine g_get hC hW hin12_isWord_12 0 rfl rfl 7 (by decide) 3 rfl rfl dX12_isWord_12 ?_
    obtain ⟨hi_2, hf⟩ := ck_of hf
    refine g_iald hC hW 2 rfl hi_2 dX12_isWord_15 ?_
    refine lv_iconst (v := 1) hC.1 hC.2.1 dX12_isWord_16 (by decide) ?_
    refine lv_icmp_ne (tgt := 43) hC.1 hC.2.1 dX12_isWord_17 (by decide) (fun hc_3 => ?_) (fun hc_3 => ?_)
    · have hf := ite_f hf hc_3
      exact t12_isWord_43 hC  _ _ _ _ _ hf hW (lv_sub hl [] rfl)
    · have hf := ite_t hf hc_3
      refine lv_aload_n hC.1 hC.2.1 dX12_isWord_20 rfl (lv_at hl 0 rfl) ?_
      refine g_get hC hW hin12_isWord_12 0 rfl rfl 6 (by decide) 4 rfl rfl dX12_isWord_21 ?_
      refine lv_aload_n hC.1 hC.2.1 dX12_isWord_24 rfl (lv_at hl 0 rfl) ?_
      refine g_get hC hW hin12_isWord_12 0 rfl rfl 7 (by decide) 3 rfl rfl dX12_isWord_25 ?_
      obtain ⟨hi_4, hf⟩ := ck_of hf
      refine g_lald hC hW 4 rfl hi_4 dX12_isWord_28 ?_
      refine lv_aload_n hC.1 hC.2.1 dX12_isWord_29 rfl (lv_at hl 0 rfl) ?_
      refine g_get hC hW hin12_isWord_12 0 rfl rfl 9 (by decide) 5 rfl rfl dX12_isWord_30 ?_
      refine lv_iload_n hC.1 hC.2.1 dX12_isWord_33 rfl (lv_at hl 1 rfl) ?_
      obtain ⟨hi_5, hf⟩ := ck_of hf
      refine g_lald hC hW 5 rfl hi_5 dX12_isWord_34 ?_
      refine W.lcmp hC.1 hC.2.1 dX12_isWord_35 ?_
      refine lv_if_ne (tgt := 43) hC.1 hC.2.1 dX12_isWord_36 (by decide) (fun hc_6 => ?_) (fun hc_6 => ?_)
      · have hf := ite_f hf hc_6
        exact t12_isWord_43 hC  _ _ _ _ _ hf hW (lv_sub hl [] rfl)
      · have hf := ite_t hf hc_6
        refine lv_iconst (v := 1) hC.1 hC.2.1 dX12_isWord_39 (by decide) ?_
        refine lv_goto (tgt := 44) hC.1 hC.2.1 dX12_isWord_40 (by decide) ?_
        exact t12_isWord_44 hC  _ _ _ _ _ _ hf hW (lv_sub hl [] rfl)
set_option maxRecDepth 100000 in
set_option maxHeartbeats 4000000 in
theorem c12_isWord (l : Launch) (D : va_G) (cy : Nat → ClassId) (ad : Nat → Nat) (aM : Nat → Nat) {x1 : Int32} {SM : Ob} {res : Int32} (h : f12_isWord x1 SM = some res) : GCi l yX12_isWord wsX12_isWord rm12_isWord [.ref (aM 0), .int x1] D cy ad (w12 cy aM SM) (w12 cy aM SM) res := fun sz => GC.start (own := RX12) (Qc := fun A => QI D cy (w12 cy aM SM) A res) sz (by decide) rfl rfl (Nat.le_of_ble_eq_true rfl) (fun p e s m below meth c A ls hC hW hl => t12_isWord_0 hC _ _ _ _ _ _ h hW (lv_sub hl [0, 1] rfl))
abbrev rm12_takeSign : Room := { frames := 1, cells := 0, slots := 0, locals := 21 }
theorem hdV12_takeSign : yX12_takeSign.cls = RX12 ∧ (yX12_takeSign.cls ≠ "java/lang/invoke/MethodHandle" ∧ yX12_takeSign.cls ≠ "java/lang/invoke/VarHandle" ∧ (parseMethodDescriptor yX12_takeSign.desc).map (fun d => d.parameters.length) = some 1) := by decide +kernel
theorem hin12_takeSign_12 : ∀ x ∈ u_ws RX12 TX12 39, x ∈ wsX12_takeSign := fun _ h => List.mem_cons_of_mem _ (List.mem_append_right _ h)
set_option maxRecDepth 100000 in
set_option maxHeartbeats 4000000 in
theorem t12_takeSign_26 (hC : Cx p s m args meth c cX12_takeSign 2 wsX12_takeSign RX12 none) : ∀ (SM : Ob) (res : Ob) (H : Heap) (locs : List Loc) (ls : Array Slot), f12_takeSign_26 SM = some res → GW D cy ad (w12 cy aM SM) A s H locs → lv_has ls 2 [] → W p l e rm12_takeSign s m args below meth c H locs 0 0 (MQ below (QV D cy (w12 cy aM res) A) args s 0 0 A) (F0 m 26 ls []) := by
  intro SM res H locs ls hf hW hl
  unfold f12_takeSign_26 at hf
  obtain rfl := Option.some.inj hf
  exact g_vret hC hW dX12_takeSign_26
set_option maxRecDepth 100000 in
set_option maxHeartbeats 4000000 in
theorem t12_takeSign_0 (hC : Cx p s m args meth c cX12_takeSign 2 wsX12_takeSign RX12 none) : ∀ (x1 : Int32) (SM : Ob) (res : Ob) (H : Heap) (locs : List Loc) (ls : Array Slot), f12_takeSign x1 SM = some res → GW D cy ad (w12 cy aM SM) A s H locs → lv_has ls 2 [(0, .ref (aM 0)), (1, .int x1)] → W p l e rm12_takeSign s m args below meth c H locs 0 0 (MQ below (QV D cy (w12 cy aM res) A) args s 0 0 A) (F0 m 0 ls []) := by
  intro x1 SM res H locs ls hf hW hl
  unfold f12_takeSign at hf
  refine lv_aload_n hC.1 hC.2.1 dX12_takeSign_0 rfl (lv_at hl 0 rfl) ?_
  refine lv_iload_n hC.1 hC.2.1 dX12_takeSign_1 rfl (lv_at hl 1 rfl) ?_
  obtain ⟨r_1, hg_2, hf⟩ := bd_of hf
  refine g_calliV hC hW (c12_isSign l D cy ad aM hg_2) (cwV 1 hC.2.2.2.2.1 gX12_takeSign_X12_isSign rfl rfl rfl hdV12_isSign ⟨Nat.le_of_ble_eq_true rfl, Nat.le_of_ble_eq_true rfl⟩) (Sub.all _ _) 0 11 rfl rfl rfl rfl hl.1 rfl (Nat.le_of_ble_eq_true rfl) dX12_takeSign_2 ⟨Nat.zero_le _, Nat.zero_le _⟩ (fun H locs hW => ?_)
  refine lv_if_eq (tgt := 21) hC.1 hC.2.1 dX12_takeSign_5 (by decide) (fun hc_3 => ?_) (fun hc_3 => ?_)
  · have hf := ite_t hf hc_3
    refine lv_aload_n hC.1 hC.2.1 dX12_takeSign_21 rfl (lv_at hl 0 rfl) ?_
    refine lv_iconst (v := 1) hC.1 hC.2.1 dX12_takeSign_22 (by decide) ?_
    obtain ⟨r_4, hg_5, hf⟩ := bd_of hf
    refine g_callvV hC hW (c12_wrong l D cy ad aM hg_5) (cwV 1 hC.2.2.2.2.1 gX12_takeSign_X12_wrong rfl rfl rfl hdV12_wrong ⟨Nat.le_of_ble_eq_true rfl, Nat.le_of_ble_eq_true rfl⟩) (Sub.all _ _) 0 11 rfl rfl rfl rfl hl.1 rfl (Nat.le_of_ble_eq_true rfl) dX12_takeSign_23 ⟨Nat.zero_le _, Nat.zero_le _⟩ (fun H locs hW => ?_)
    exact t12_takeSign_26 hC  _ _ _ _ _ hf hW (lv_sub hl [] rfl)
  · have hf := ite_f hf hc_3
    refine lv_aload_n hC.1 hC.2.1 dX12_takeSign_8 rfl (lv_at hl 0 rfl) ?_
    refine lv_dup hC.1 hC.2.1 dX12_takeSign_9 rfl ?_
    refine g_get hC hW hin12_takeSign_12 0 rfl rfl 7 (by decide) 1 rfl rfl dX12_takeSign_10 ?_
    refine lv_iconst (v := 1) hC.1 hC.2.1 dX12_takeSign_13 (by decide) ?_
    refine lv_iadd hC.1 hC.2.1 dX12_takeSign_14 ?_
    obtain ⟨SM_6, eSM_6⟩ : ∃ y : Ob, y = oI SM 7 ((SM.1 7) + 1) := ⟨_, rfl⟩
    have hf := lt_nm hf eSM_6
    refine g_put hC hW hin12_takeSign_12 tyX12 tyX12_ok nmX12 0 rfl rfl 7 (by decide) 1 rfl rfl rfl rfl (Nat.le_of_ble_eq_true rfl) (w' := w12 cy aM SM_6) (by rw [eSM_6]; rfl) dX12_takeSign_15 (fun H locs hW => ?_)
    refine lv_goto (tgt := 26) hC.1 hC.2.1 dX12_takeSign_18 (by decide) ?_
    exact t12_takeSign_26 hC  _ _ _ _ _ hf hW (lv_sub hl [] rfl)
set_option maxRecDepth 100000 in
set_option maxHeartbeats 4000000 in
theorem c12_takeSign (l : Launch) (D : va_G) (cy : Nat → ClassId) (ad : Nat → Nat) (aM : Nat → Nat) {x1 : Int32} {SM : Ob} {res : Ob} (h : f12_takeSign x1 SM = some res) : GCv l yX12_takeSign wsX12_takeSign rm12_takeSign [.ref (aM 0), .int x1] D cy ad (w12 cy aM SM) (w12 cy aM res) := fun sz => GC.start (own := RX12) (Qc := fun A => QV D cy (w12 cy aM res) A) sz (by decide) rfl rfl (Nat.le_of_ble_eq_true rfl) (fun p e s m below meth c A ls hC hW hl => t12_takeSign_0 hC _ _ _ _ _ _ h hW (lv_sub hl [0, 1] rfl))
abbrev rm12_hasSign : Room := { frames := 1, cells := 0, slots := 0, locals := 21 }
theorem hdV12_hasSign : yX12_hasSign.cls = RX12 ∧ (yX12_hasSign.cls ≠ "java/lang/invoke/MethodHandle" ∧ yX12_hasSign.cls ≠ "java/lang/invoke/VarHandle" ∧ (parseMethodDescriptor yX12_hasSign.desc).map (fun d => d.parameters.length) = some 1) := by decide +kernel
theorem hin12_hasSign_12 : ∀ x ∈ u_ws RX12 TX12 39, x ∈ wsX12_hasSign := fun _ h => List.mem_cons_of_mem _ (List.mem_append_right _ h)
set_option maxRecDepth 100000 in
set_option maxHeartbeats 4000000 in
theorem t12_hasSign_20 (hC : Cx p s m args meth c cX12_hasSign 3 wsX12_hasSign RX12 (some .boolean)) : ∀ (x2 : Int32) (z1 : Int32) (z2 : Int32) (SM : Ob) (res : Int32 × Ob) (H : Heap) (locs : List Loc) (ls : Array Slot), f12_hasSign_20 x2 z1 z2 SM = some res → GW D cy ad (w12 cy aM SM) A s H locs → lv_has ls 3 [(2, .int x2)] → W p l e rm12_hasSign s m args below meth c H locs 0 0 (MQ below (QI D cy (w12 cy aM (res.2)) A (res.1)) args s 0 0 A) (F0 m 20 ls [.int z2, .int z1, .ref (aM 0)]) := by
  intro x2 z1 z2 SM res H locs ls hf hW hl
  unfold f12_hasSign_20 at hf
  refine lv_iadd hC.1 hC.2.1 dX12_hasSign_20 ?_
  obtain ⟨SM_1, eSM_1⟩ : ∃ y : Ob, y = oI SM 7 (z1 + z2) := ⟨_, rfl⟩
  have hf := lt_nm hf eSM_1
  refine g_put hC hW hin12_hasSign_12 tyX12 tyX12_ok nmX12 0 rfl rfl 7 (by decide) 1 rfl rfl rfl rfl (Nat.le_of_ble_eq_true rfl) (w' := w12 cy aM SM_1) (by rw [eSM_1]; rfl) dX12_hasSign_21 (fun H locs hW => ?_)
  refine lv_iload_n hC.1 hC.2.1 dX12_hasSign_24 rfl (lv_at hl 0 rfl) ?_
  obtain ⟨hz, hf⟩ := ck_of hf
  obtain rfl := Option.some.inj hf
  exact g_zret hC hW hz dX12_hasSign_25
set_option maxRecDepth 100000 in
set_option maxHeartbeats 4000000 in
theorem t12_hasSign_0 (hC : Cx p s m args meth c cX12_hasSign 3 wsX12_hasSign RX12 (some .boolean)) : ∀ (x1 : Int32) (SM : Ob) (res : Int32 × Ob) (H : Heap) (locs : List Loc) (ls : Array Slot), f12_hasSign x1 SM = some res → GW D cy ad (w12 cy aM SM) A s H locs → lv_has ls 3 [(0, .ref (aM 0)), (1, .int x1)] → W p l e rm12_hasSign s m args below meth c H locs 0 0 (MQ below (QI D cy (w12 cy aM (res.2)) A (res.1)) args s 0 0 A) (F0 m 0 ls []) := by
  intro x1 SM res H locs ls hf hW hl
  unfold f12_hasSign at hf
  refine lv_aload_n hC.1 hC.2.1 dX12_hasSign_0 rfl (lv_at hl 0 rfl) ?_
  refine lv_iload_n hC.1 hC.2.1 dX12_hasSign_1 rfl (lv_at hl 1 rfl) ?_
  obtain ⟨r_1, hg_2, hf⟩ := bd_of hf
  refine g_calliV hC hW (c12_isSign l D cy ad aM hg_2) (cwV 1 hC.2.2.2.2.1 gX12_hasSign_X12_isSign rfl rfl rfl hdV12_isSign ⟨Nat.le_of_ble_eq_true rfl, Nat.le_of_ble_eq_true rfl⟩) (Sub.all _ _) 0 11 rfl rfl rfl rfl hl.1 rfl (Nat.le_of_ble_eq_true rfl) dX12_hasSign_2 ⟨Nat.zero_le _, Nat.zero_le _⟩ (fun H locs hW => ?_)
  refine lv_istore_n (lv' := [(2, .int r_1), (0, .ref (aM 0)), (1, .int x1)]) hC.1 hC.2.1 dX12_hasSign_5 rfl hl (by decide) rfl (fun ls hl => ?_)
  refine lv_aload_n hC.1 hC.2.1 dX12_hasSign_6 rfl (lv_at hl 1 rfl) ?_
  refine lv_dup hC.1 hC.2.1 dX12_hasSign_7 rfl ?_
  refine g_get hC hW hin12_hasSign_12 0 rfl rfl 7 (by decide) 1 rfl rfl dX12_hasSign_8 ?_
  refine lv_iload_n hC.1 hC.2.1 dX12_hasSign_11 rfl (lv_at hl 0 rfl) ?_
  refine lv_if_eq (tgt := 19) hC.1 hC.2.1 dX12_hasSign_12 (by decide) (fun hc_3 => ?_) (fun hc_3 => ?_)
  · have hf := ite_t hf hc_3
    refine lv_iconst (v := 0) hC.1 hC.2.1 dX12_hasSign_19 (by decide) ?_
    exact t12_hasSign_20 hC  _ _ _ _ _ _ _ _ hf hW (lv_sub hl [0] rfl)
  · have hf := ite_f hf hc_3
    refine lv_iconst (v := 1) hC.1 hC.2.1 dX12_hasSign_15 (by decide) ?_
    refine lv_goto (tgt := 20) hC.1 hC.2.1 dX12_hasSign_16 (by decide) ?_
    exact t12_hasSign_20 hC  _ _ _ _ _ _ _ _ hf hW (lv_sub hl [0] rfl)
set_option maxRecDepth 100000 in
set_option maxHeartbeats 4000000 in
theorem c12_hasSign (l : Launch) (D : va_G) (cy : Nat → ClassId) (ad : Nat → Nat) (aM : Nat → Nat) {x1 : Int32} {SM : Ob} {res : Int32 × Ob} (h : f12_hasSign x1 SM = some res) : GCi l yX12_hasSign wsX12_hasSign rm12_hasSign [.ref (aM 0), .int x1] D cy ad (w12 cy aM SM) (w12 cy aM (res.2)) (res.1) := fun sz => GC.start (own := RX12) (Qc := fun A => QI D cy (w12 cy aM (res.2)) A (res.1)) sz (by decide) rfl rfl (Nat.le_of_ble_eq_true rfl) (fun p e s m below meth c A ls hC hW hl => t12_hasSign_0 hC _ _ _ _ _ _ h hW (lv_sub hl [0, 1] rfl))
end
