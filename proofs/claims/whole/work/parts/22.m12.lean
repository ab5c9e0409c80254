/-! laid by program: functions, walks and contracts of 12_same, 12_bill, 12_mayLie -/
set_option maxRecDepth 20000 in
theorem gX12_same_X12_within : GoodIn wsX12_same (va_wsS RX12 241 yX12_within wsX12_within) := goodIn_r _ [3, 4, 5, 6] rfl (by decide +kernel)
set_option maxRecDepth 20000 in
theorem gX12_same_X12_guests : GoodIn wsX12_same (wsV RX12 328 RX12 yX12_guests wsX12_guests) := goodIn_r _ [7, 8, 9, 5, 10, 11, 19, 20, 21, 22, 23, 24, 25, 26, 27, 28, 29, 30, 31, 32, 33, 34, 35, 36, 37, 38, 39, 40, 41, 42, 43, 44, 45, 46, 47, 48, 49, 50, 51, 52, 53, 54, 55, 56, 57] rfl (by decide +kernel)
set_option maxRecDepth 20000 in
theorem gX12_same_X12_whoIn : GoodIn wsX12_same (wsV RX12 384 RX12 yX12_whoIn wsX12_whoIn) := goodIn_r _ [12, 13, 14, 5, 15, 7, 8, 9, 5, 10, 11, 16, 17, 18, 19, 20, 21, 22, 23, 24, 25, 26, 27, 28, 29, 30, 31, 32, 33, 34, 35, 36, 37, 38, 39, 40, 41, 42, 43, 44, 45, 46, 47, 48, 49, 50, 51, 52, 53, 54, 55, 56, 57] rfl (by decide +kernel)
theorem dX12_same_0 : decode cX12_same 0 = .ok (.aload_n 0, 1) := by decide +kernel
theorem dX12_same_1 : decode cX12_same 1 = .ok (.iconst 0, 1) := by decide +kernel
theorem dX12_same_2 : decode cX12_same 2 = .ok (.putfield 1, 3) := by decide +kernel
theorem dX12_same_5 : decode cX12_same 5 = .ok (.iload_n 1, 1) := by decide +kernel
theorem dX12_same_6 : decode cX12_same 6 = .ok (.iconst 0, 1) := by decide +kernel
theorem dX12_same_7 : decode cX12_same 7 = .ok (.iconst 1, 1) := by decide +kernel
theorem dX12_same_8 : decode cX12_same 8 = .ok (.invokestatic 241, 3) := by decide +kernel
theorem dX12_same_11 : decode cX12_same 11 = .ok (.ifCond .ne 6, 3) := by decide +kernel
theorem dX12_same_14 : decode cX12_same 14 = .ok (.bipush (-2), 2) := by decide +kernel
theorem dX12_same_16 : decode cX12_same 16 = .ok (.ireturn, 1) := by decide +kernel
theorem dX12_same_17 : decode cX12_same 17 = .ok (.iconst 1, 1) := by decide +kernel
theorem dX12_same_18 : decode cX12_same 18 = .ok (.aload_n 0, 1) := by decide +kernel
theorem dX12_same_19 : decode cX12_same 19 = .ok (.invokevirtual 328, 3) := by decide +kernel
theorem dX12_same_22 : decode cX12_same 22 = .ok (.ishl, 1) := by decide +kernel
theorem dX12_same_23 : decode cX12_same 23 = .ok (.iconst 1, 1) := by decide +kernel
theorem dX12_same_24 : decode cX12_same 24 = .ok (.isub, 1) := by decide +kernel
theorem dX12_same_25 : decode cX12_same 25 = .ok (.istore_n 2, 1) := by decide +kernel
theorem dX12_same_26 : decode cX12_same 26 = .ok (.iconst (-1), 1) := by decide +kernel
theorem dX12_same_27 : decode cX12_same 27 = .ok (.istore_n 3, 1) := by decide +kernel
theorem dX12_same_28 : decode cX12_same 28 = .ok (.iconst 0, 1) := by decide +kernel
theorem dX12_same_29 : decode cX12_same 29 = .ok (.istore 4, 2) := by decide +kernel
theorem dX12_same_31 : decode cX12_same 31 = .ok (.iload 4, 2) := by decide +kernel
theorem dX12_same_33 : decode cX12_same 33 = .ok (.aload_n 0, 1) := by decide +kernel
theorem dX12_same_34 : decode cX12_same 34 = .ok (.getfield 131, 3) := by decide +kernel
theorem dX12_same_37 : decode cX12_same 37 = .ok (.iconst 1, 1) := by decide +kernel
theorem dX12_same_38 : decode cX12_same 38 = .ok (.iaload, 1) := by decide +kernel
theorem dX12_same_39 : decode cX12_same 39 = .ok (.if_icmp .gt 60, 3) := by decide +kernel
theorem dX12_same_42 : decode cX12_same 42 = .ok (.iload_n 2, 1) := by decide +kernel
theorem dX12_same_43 : decode cX12_same 43 = .ok (.iload 4, 2) := by decide +kernel
theorem dX12_same_45 : decode cX12_same 45 = .ok (.aload_n 0, 1) := by decide +kernel
theorem dX12_same_46 : decode cX12_same 46 = .ok (.getfield 131, 3) := by decide +kernel
theorem dX12_same_49 : decode cX12_same 49 = .ok (.iconst 1, 1) := by decide +kernel
theorem dX12_same_50 : decode cX12_same 50 = .ok (.iaload, 1) := by decide +kernel
theorem dX12_same_51 : decode cX12_same 51 = .ok (.if_icmp .ge 15, 3) := by decide +kernel
theorem dX12_same_54 : decode cX12_same 54 = .ok (.aload_n 0, 1) := by decide +kernel
theorem dX12_same_55 : decode cX12_same 55 = .ok (.getfield 131, 3) := by decide +kernel
theorem dX12_same_58 : decode cX12_same 58 = .ok (.iconst 2, 1) := by decide +kernel
theorem dX12_same_59 : decode cX12_same 59 = .ok (.iload 4, 2) := by decide +kernel
theorem dX12_same_61 : decode cX12_same 61 = .ok (.iadd, 1) := by decide +kernel
theorem dX12_same_62 : decode cX12_same 62 = .ok (.iaload, 1) := by decide +kernel
theorem dX12_same_63 : decode cX12_same 63 = .ok (.goto 13, 3) := by decide +kernel
theorem dX12_same_66 : decode cX12_same 66 = .ok (.aload_n 0, 1) := by decide +kernel
theorem dX12_same_67 : decode cX12_same 67 = .ok (.aload_n 0, 1) := by decide +kernel
theorem dX12_same_68 : decode cX12_same 68 = .ok (.getfield 131, 3) := by decide +kernel
theorem dX12_same_71 : decode cX12_same 71 = .ok (.iconst 0, 1) := by decide +kernel
theorem dX12_same_72 : decode cX12_same 72 = .ok (.iaload, 1) := by decide +kernel
theorem dX12_same_73 : decode cX12_same 73 = .ok (.invokevirtual 384, 3) := by decide +kernel
theorem dX12_same_76 : decode cX12_same 76 = .ok (.iand, 1) := by decide +kernel
theorem dX12_same_77 : decode cX12_same 77 = .ok (.istore_n 2, 1) := by decide +kernel
theorem dX12_same_78 : decode cX12_same 78 = .ok (.iload_n 2, 1) := by decide +kernel
theorem dX12_same_79 : decode cX12_same 79 = .ok (.ifCond .ne 12, 3) := by decide +kernel
theorem dX12_same_82 : decode cX12_same 82 = .ok (.iload_n 3, 1) := by decide +kernel
theorem dX12_same_83 : decode cX12_same 83 = .ok (.ifCond .ge 8, 3) := by decide +kernel
theorem dX12_same_86 : decode cX12_same 86 = .ok (.iload 4, 2) := by decide +kernel
theorem dX12_same_88 : decode cX12_same 88 = .ok (.goto 4, 3) := by decide +kernel
theorem dX12_same_91 : decode cX12_same 91 = .ok (.iload_n 3, 1) := by decide +kernel
theorem dX12_same_92 : decode cX12_same 92 = .ok (.istore_n 3, 1) := by decide +kernel
theorem dX12_same_93 : decode cX12_same 93 = .ok (.iinc 4 1, 3) := by decide +kernel
theorem dX12_same_96 : decode cX12_same 96 = .ok (.goto (-65), 3) := by decide +kernel
theorem dX12_same_99 : decode cX12_same 99 = .ok (.iload_n 1, 1) := by decide +kernel
theorem dX12_same_100 : decode cX12_same 100 = .ok (.ifCond .ne 7, 3) := by decide +kernel
theorem dX12_same_103 : decode cX12_same 103 = .ok (.iload_n 2, 1) := by decide +kernel
theorem dX12_same_104 : decode cX12_same 104 = .ok (.goto 4, 3) := by decide +kernel
theorem dX12_same_107 : decode cX12_same 107 = .ok (.iload_n 3, 1) := by decide +kernel
theorem dX12_same_108 : decode cX12_same 108 = .ok (.ireturn, 1) := by decide +kernel
set_option maxRecDepth 20000 in
theorem gX12_bill_X12_isGuest : GoodIn wsX12_bill (wsV RX12 365 RX12 yX12_isGuest wsX12_isGuest) := goodIn_r _ [6, 7, 8, 9, 10, 11, 12, 13, 9, 14, 3, 32, 33, 34, 35, 36, 37, 38, 39, 40, 41, 42, 43, 44, 45, 46, 47, 48, 49, 50, 51, 52, 53, 54, 55, 56, 57, 58, 59, 60, 61, 62, 63, 64, 65, 66, 67, 68, 69, 70] rfl (by decide +kernel)
set_option maxRecDepth 20000 in
theorem gX12_bill_X12_within : GoodIn wsX12_bill (va_wsS RX12 241 yX12_within wsX12_within) := goodIn_r _ [15, 16, 9, 17] rfl (by decide +kernel)
set_option maxRecDepth 20000 in
theorem gX12_bill_X12_guests : GoodIn wsX12_bill (wsV RX12 328 RX12 yX12_guests wsX12_guests) := goodIn_r _ [11, 12, 13, 9, 14, 3, 32, 33, 34, 35, 36, 37, 38, 39, 40, 41, 42, 43, 44, 45, 46, 47, 48, 49, 50, 51, 52, 53, 54, 55, 56, 57, 58, 59, 60, 61, 62, 63, 64, 65, 66, 67, 68, 69, 70] rfl (by decide +kernel)
set_option maxRecDepth 20000 in
theorem gX12_bill_X12_guestOf : GoodIn wsX12_bill (wsV RX12 353 RX12 yX12_guestOf wsX12_guestOf) := goodIn_r _ [18, 19, 20, 9, 21, 3, 32, 33, 34, 35, 36, 37, 38, 39, 40, 41, 42, 43, 44, 45, 46, 47, 48, 49, 50, 51, 52, 53, 54, 55, 56, 57, 58, 59, 60, 61, 62, 63, 64, 65, 66, 67, 68, 69, 70] rfl (by decide +kernel)
set_option maxRecDepth 20000 in
theorem gX12_bill_X12_worthAt : GoodIn wsX12_bill (wsV RX12 433 RX12 yX12_worthAt wsX12_worthAt) := goodIn_r _ [22, 23, 24, 9, 25, 26, 27, 28, 2, 29, 30, 9, 31, 32, 33, 34, 35, 36, 37, 38, 39, 40, 41, 42, 43, 44, 45, 46, 47, 48, 49, 50, 51, 52, 53, 54, 55, 56, 57, 58, 59, 60, 61, 62, 63, 64, 65, 66, 67, 68, 69, 70] rfl (by decide +kernel)
theorem dX12_bill_0 : decode cX12_bill 0 = .ok (.aload_n 0, 1) := by decide +kernel
theorem dX12_bill_1 : decode cX12_bill 1 = .ok (.iconst 0, 1) := by decide +kernel
theorem dX12_bill_2 : decode cX12_bill 2 = .ok (.putfield 1, 3) := by decide +kernel
theorem dX12_bill_5 : decode cX12_bill 5 = .ok (.aload_n 0, 1) := by decide +kernel
theorem dX12_bill_6 : decode cX12_bill 6 = .ok (.iload_n 2, 1) := by decide +kernel
theorem dX12_bill_7 : decode cX12_bill 7 = .ok (.invokevirtual 365, 3) := by decide +kernel
theorem dX12_bill_10 : decode cX12_bill 10 = .ok (.ifCond .eq 14, 3) := by decide +kernel
theorem dX12_bill_13 : decode cX12_bill 13 = .ok (.iload_n 1, 1) := by decide +kernel
theorem dX12_bill_14 : decode cX12_bill 14 = .ok (.iconst 0, 1) := by decide +kernel
theorem dX12_bill_15 : decode cX12_bill 15 = .ok (.sipush 9999, 3) := by decide +kernel
theorem dX12_bill_18 : decode cX12_bill 18 = .ok (.invokestatic 241, 3) := by decide +kernel
theorem dX12_bill_21 : decode cX12_bill 21 = .ok (.ifCond .ne 5, 3) := by decide +kernel
theorem dX12_bill_24 : decode cX12_bill 24 = .ok (.iconst (-1), 1) := by decide +kernel
theorem dX12_bill_25 : decode cX12_bill 25 = .ok (.ireturn, 1) := by decide +kernel
theorem dX12_bill_26 : decode cX12_bill 26 = .ok (.iconst 0, 1) := by decide +kernel
theorem dX12_bill_27 : decode cX12_bill 27 = .ok (.istore_n 3, 1) := by decide +kernel
theorem dX12_bill_28 : decode cX12_bill 28 = .ok (.iconst 0, 1) := by decide +kernel
theorem dX12_bill_29 : decode cX12_bill 29 = .ok (.istore 4, 2) := by decide +kernel
theorem dX12_bill_31 : decode cX12_bill 31 = .ok (.iload 4, 2) := by decide +kernel
theorem dX12_bill_33 : decode cX12_bill 33 = .ok (.aload_n 0, 1) := by decide +kernel
theorem dX12_bill_34 : decode cX12_bill 34 = .ok (.invokevirtual 328, 3) := by decide +kernel
theorem dX12_bill_37 : decode cX12_bill 37 = .ok (.if_icmp .ge 110, 3) := by decide +kernel
theorem dX12_bill_40 : decode cX12_bill 40 = .ok (.aload_n 0, 1) := by decide +kernel
theorem dX12_bill_41 : decode cX12_bill 41 = .ok (.getfield 125, 3) := by decide +kernel
theorem dX12_bill_44 : decode cX12_bill 44 = .ok (.iconst 0, 1) := by decide +kernel
theorem dX12_bill_45 : decode cX12_bill 45 = .ok (.aload_n 0, 1) := by decide +kernel
theorem dX12_bill_46 : decode cX12_bill 46 = .ok (.iload 4, 2) := by decide +kernel
theorem dX12_bill_48 : decode cX12_bill 48 = .ok (.iconst 1, 1) := by decide +kernel
theorem dX12_bill_49 : decode cX12_bill 49 = .ok (.invokevirtual 353, 3) := by decide +kernel
theorem dX12_bill_52 : decode cX12_bill 52 = .ok (.iastore, 1) := by decide +kernel
theorem dX12_bill_53 : decode cX12_bill 53 = .ok (.aload_n 0, 1) := by decide +kernel
theorem dX12_bill_54 : decode cX12_bill 54 = .ok (.getfield 125, 3) := by decide +kernel
theorem dX12_bill_57 : decode cX12_bill 57 = .ok (.iconst 1, 1) := by decide +kernel
theorem dX12_bill_58 : decode cX12_bill 58 = .ok (.aload_n 0, 1) := by decide +kernel
theorem dX12_bill_59 : decode cX12_bill 59 = .ok (.iload 4, 2) := by decide +kernel
theorem dX12_bill_61 : decode cX12_bill 61 = .ok (.iconst 2, 1) := by decide +kernel
theorem dX12_bill_62 : decode cX12_bill 62 = .ok (.invokevirtual 353, 3) := by decide +kernel
theorem dX12_bill_65 : decode cX12_bill 65 = .ok (.iastore, 1) := by decide +kernel
theorem dX12_bill_66 : decode cX12_bill 66 = .ok (.aload_n 0, 1) := by decide +kernel
theorem dX12_bill_67 : decode cX12_bill 67 = .ok (.getfield 125, 3) := by decide +kernel
theorem dX12_bill_70 : decode cX12_bill 70 = .ok (.iconst 2, 1) := by decide +kernel
theorem dX12_bill_71 : decode cX12_bill 71 = .ok (.aload_n 0, 1) := by decide +kernel
theorem dX12_bill_72 : decode cX12_bill 72 = .ok (.invokevirtual 328, 3) := by decide +kernel
theorem dX12_bill_75 : decode cX12_bill 75 = .ok (.iastore, 1) := by decide +kernel
theorem dX12_bill_76 : decode cX12_bill 76 = .ok (.aload_n 0, 1) := by decide +kernel
theorem dX12_bill_77 : decode cX12_bill 77 = .ok (.getfield 101, 3) := by decide +kernel
theorem dX12_bill_80 : decode cX12_bill 80 = .ok (.iconst 2, 1) := by decide +kernel
theorem dX12_bill_81 : decode cX12_bill 81 = .ok (.iaload, 1) := by decide +kernel
theorem dX12_bill_82 : decode cX12_bill 82 = .ok (.ifCond .ge 7, 3) := by decide +kernel
theorem dX12_bill_85 : decode cX12_bill 85 = .ok (.iconst 1, 1) := by decide +kernel
theorem dX12_bill_86 : decode cX12_bill 86 = .ok (.goto 13, 3) := by decide +kernel
theorem dX12_bill_89 : decode cX12_bill 89 = .ok (.aload_n 0, 1) := by decide +kernel
theorem dX12_bill_90 : decode cX12_bill 90 = .ok (.aload_n 0, 1) := by decide +kernel
theorem dX12_bill_91 : decode cX12_bill 91 = .ok (.getfield 101, 3) := by decide +kernel
theorem dX12_bill_94 : decode cX12_bill 94 = .ok (.iconst 2, 1) := by decide +kernel
theorem dX12_bill_95 : decode cX12_bill 95 = .ok (.iaload, 1) := by decide +kernel
theorem dX12_bill_96 : decode cX12_bill 96 = .ok (.invokevirtual 433, 3) := by decide +kernel
theorem dX12_bill_99 : decode cX12_bill 99 = .ok (.istore 5, 2) := by decide +kernel
theorem dX12_bill_101 : decode cX12_bill 101 = .ok (.aload_n 0, 1) := by decide +kernel
theorem dX12_bill_102 : decode cX12_bill 102 = .ok (.getfield 153, 3) := by decide +kernel
theorem dX12_bill_105 : decode cX12_bill 105 = .ok (.iload 4, 2) := by decide +kernel
theorem dX12_bill_107 : decode cX12_bill 107 = .ok (.iload 5, 2) := by decide +kernel
theorem dX12_bill_109 : decode cX12_bill 109 = .ok (.ifCond .ge 7, 3) := by decide +kernel
theorem dX12_bill_112 : decode cX12_bill 112 = .ok (.iconst 0, 1) := by decide +kernel
theorem dX12_bill_113 : decode cX12_bill 113 = .ok (.goto 17, 3) := by decide +kernel
theorem dX12_bill_116 : decode cX12_bill 116 = .ok (.iload 5, 2) := by decide +kernel
theorem dX12_bill_118 : decode cX12_bill 118 = .ok (.bipush 99, 2) := by decide +kernel
theorem dX12_bill_120 : decode cX12_bill 120 = .ok (.if_icmp .le 8, 3) := by decide +kernel
theorem dX12_bill_123 : decode cX12_bill 123 = .ok (.bipush 99, 2) := by decide +kernel
theorem dX12_bill_125 : decode cX12_bill 125 = .ok (.goto 5, 3) := by decide +kernel
theorem dX12_bill_128 : decode cX12_bill 128 = .ok (.iload 5, 2) := by decide +kernel
theorem dX12_bill_130 : decode cX12_bill 130 = .ok (.iastore, 1) := by decide +kernel
theorem dX12_bill_131 : decode cX12_bill 131 = .ok (.iload_n 3, 1) := by decide +kernel
theorem dX12_bill_132 : decode cX12_bill 132 = .ok (.aload_n 0, 1) := by decide +kernel
theorem dX12_bill_133 : decode cX12_bill 133 = .ok (.getfield 153, 3) := by decide +kernel
theorem dX12_bill_136 : decode cX12_bill 136 = .ok (.iload 4, 2) := by decide +kernel
theorem dX12_bill_138 : decode cX12_bill 138 = .ok (.iaload, 1) := by decide +kernel
theorem dX12_bill_139 : decode cX12_bill 139 = .ok (.iadd, 1) := by decide +kernel
theorem dX12_bill_140 : decode cX12_bill 140 = .ok (.istore_n 3, 1) := by decide +kernel
theorem dX12_bill_141 : decode cX12_bill 141 = .ok (.iinc 4 1, 3) := by decide +kernel
theorem dX12_bill_144 : decode cX12_bill 144 = .ok (.goto (-113), 3) := by decide +kernel
theorem dX12_bill_147 : decode cX12_bill 147 = .ok (.iload_n 3, 1) := by decide +kernel
theorem dX12_bill_148 : decode cX12_bill 148 = .ok (.ifCond .ne 5, 3) := by decide +kernel
theorem dX12_bill_151 : decode cX12_bill 151 = .ok (.iconst 0, 1) := by decide +kernel
theorem dX12_bill_152 : decode cX12_bill 152 = .ok (.ireturn, 1) := by decide +kernel
theorem dX12_bill_153 : decode cX12_bill 153 = .ok (.iload_n 1, 1) := by decide +kernel
theorem dX12_bill_154 : decode cX12_bill 154 = .ok (.istore 4, 2) := by decide +kernel
theorem dX12_bill_156 : decode cX12_bill 156 = .ok (.iconst 0, 1) := by decide +kernel
theorem dX12_bill_157 : decode cX12_bill 157 = .ok (.istore 5, 2) := by decide +kernel
theorem dX12_bill_159 : decode cX12_bill 159 = .ok (.iload 5, 2) := by decide +kernel
theorem dX12_bill_161 : decode cX12_bill 161 = .ok (.aload_n 0, 1) := by decide +kernel
theorem dX12_bill_162 : decode cX12_bill 162 = .ok (.invokevirtual 328, 3) := by decide +kernel
theorem dX12_bill_165 : decode cX12_bill 165 = .ok (.if_icmp .ge 57, 3) := by decide +kernel
theorem dX12_bill_168 : decode cX12_bill 168 = .ok (.aload_n 0, 1) := by decide +kernel
theorem dX12_bill_169 : decode cX12_bill 169 = .ok (.getfield 156, 3) := by decide +kernel
theorem dX12_bill_172 : decode cX12_bill 172 = .ok (.iload 5, 2) := by decide +kernel
theorem dX12_bill_174 : decode cX12_bill 174 = .ok (.iload_n 1, 1) := by decide +kernel
theorem dX12_bill_175 : decode cX12_bill 175 = .ok (.aload_n 0, 1) := by decide +kernel
theorem dX12_bill_176 : decode cX12_bill 176 = .ok (.getfield 153, 3) := by decide +kernel
theorem dX12_bill_179 : decode cX12_bill 179 = .ok (.iload 5, 2) := by decide +kernel
theorem dX12_bill_181 : decode cX12_bill 181 = .ok (.iaload, 1) := by decide +kernel
theorem dX12_bill_182 : decode cX12_bill 182 = .ok (.imul, 1) := by decide +kernel
theorem dX12_bill_183 : decode cX12_bill 183 = .ok (.iload_n 3, 1) := by decide +kernel
theorem dX12_bill_184 : decode cX12_bill 184 = .ok (.irem, 1) := by decide +kernel
theorem dX12_bill_185 : decode cX12_bill 185 = .ok (.iastore, 1) := by decide +kernel
theorem dX12_bill_186 : decode cX12_bill 186 = .ok (.aload_n 0, 1) := by decide +kernel
theorem dX12_bill_187 : decode cX12_bill 187 = .ok (.getfield 153, 3) := by decide +kernel
theorem dX12_bill_190 : decode cX12_bill 190 = .ok (.iload 5, 2) := by decide +kernel
theorem dX12_bill_192 : decode cX12_bill 192 = .ok (.iload_n 1, 1) := by decide +kernel
theorem dX12_bill_193 : decode cX12_bill 193 = .ok (.aload_n 0, 1) := by decide +kernel
theorem dX12_bill_194 : decode cX12_bill 194 = .ok (.getfield 153, 3) := by decide +kernel
theorem dX12_bill_197 : decode cX12_bill 197 = .ok (.iload 5, 2) := by decide +kernel
theorem dX12_bill_199 : decode cX12_bill 199 = .ok (.iaload, 1) := by decide +kernel
theorem dX12_bill_200 : decode cX12_bill 200 = .ok (.imul, 1) := by decide +kernel
theorem dX12_bill_201 : decode cX12_bill 201 = .ok (.iload_n 3, 1) := by decide +kernel
theorem dX12_bill_202 : decode cX12_bill 202 = .ok (.idiv, 1) := by decide +kernel
theorem dX12_bill_203 : decode cX12_bill 203 = .ok (.iastore, 1) := by decide +kernel
theorem dX12_bill_204 : decode cX12_bill 204 = .ok (.iload 4, 2) := by decide +kernel
theorem dX12_bill_206 : decode cX12_bill 206 = .ok (.aload_n 0, 1) := by decide +kernel
theorem dX12_bill_207 : decode cX12_bill 207 = .ok (.getfield 153, 3) := by decide +kernel
theorem dX12_bill_210 : decode cX12_bill 210 = .ok (.iload 5, 2) := by decide +kernel
theorem dX12_bill_212 : decode cX12_bill 212 = .ok (.iaload, 1) := by decide +kernel
theorem dX12_bill_213 : decode cX12_bill 213 = .ok (.isub, 1) := by decide +kernel
theorem dX12_bill_214 : decode cX12_bill 214 = .ok (.istore 4, 2) := by decide +kernel
theorem dX12_bill_216 : decode cX12_bill 216 = .ok (.iinc 5 1, 3) := by decide +kernel
theorem dX12_bill_219 : decode cX12_bill 219 = .ok (.goto (-60), 3) := by decide +kernel
theorem dX12_bill_222 : decode cX12_bill 222 = .ok (.iconst 0, 1) := by decide +kernel
theorem dX12_bill_223 : decode cX12_bill 223 = .ok (.istore 5, 2) := by decide +kernel
theorem dX12_bill_225 : decode cX12_bill 225 = .ok (.iload 5, 2) := by decide +kernel
theorem dX12_bill_227 : decode cX12_bill 227 = .ok (.iload 4, 2) := by decide +kernel
theorem dX12_bill_229 : decode cX12_bill 229 = .ok (.if_icmp .ge 75, 3) := by decide +kernel
theorem dX12_bill_232 : decode cX12_bill 232 = .ok (.iconst 0, 1) := by decide +kernel
theorem dX12_bill_233 : decode cX12_bill 233 = .ok (.istore 6, 2) := by decide +kernel
theorem dX12_bill_235 : decode cX12_bill 235 = .ok (.iconst 1, 1) := by decide +kernel
theorem dX12_bill_236 : decode cX12_bill 236 = .ok (.istore 7, 2) := by decide +kernel
theorem dX12_bill_238 : decode cX12_bill 238 = .ok (.iload 7, 2) := by decide +kernel
theorem dX12_bill_240 : decode cX12_bill 240 = .ok (.aload_n 0, 1) := by decide +kernel
theorem dX12_bill_241 : decode cX12_bill 241 = .ok (.invokevirtual 328, 3) := by decide +kernel
theorem dX12_bill_244 : decode cX12_bill 244 = .ok (.if_icmp .ge 35, 3) := by decide +kernel
theorem dX12_bill_247 : decode cX12_bill 247 = .ok (.aload_n 0, 1) := by decide +kernel
theorem dX12_bill_248 : decode cX12_bill 248 = .ok (.getfield 156, 3) := by decide +kernel
theorem dX12_bill_251 : decode cX12_bill 251 = .ok (.iload 7, 2) := by decide +kernel
theorem dX12_bill_253 : decode cX12_bill 253 = .ok (.iaload, 1) := by decide +kernel
theorem dX12_bill_254 : decode cX12_bill 254 = .ok (.aload_n 0, 1) := by decide +kernel
theorem dX12_bill_255 : decode cX12_bill 255 = .ok (.getfield 156, 3) := by decide +kernel
theorem dX12_bill_258 : decode cX12_bill 258 = .ok (.iload 6, 2) := by decide +kernel
theorem dX12_bill_260 : decode cX12_bill 260 = .ok (.iaload, 1) := by decide +kernel
theorem dX12_bill_261 : decode cX12_bill 261 = .ok (.if_icmp .le 8, 3) := by decide +kernel
theorem dX12_bill_264 : decode cX12_bill 264 = .ok (.iload 7, 2) := by decide +kernel
theorem dX12_bill_266 : decode cX12_bill 266 = .ok (.goto 5, 3) := by decide +kernel
theorem dX12_bill_269 : decode cX12_bill 269 = .ok (.iload 6, 2) := by decide +kernel
theorem dX12_bill_271 : decode cX12_bill 271 = .ok (.istore 6, 2) := by decide +kernel
theorem dX12_bill_273 : decode cX12_bill 273 = .ok (.iinc 7 1, 3) := by decide +kernel
theorem dX12_bill_276 : decode cX12_bill 276 = .ok (.goto (-38), 3) := by decide +kernel
theorem dX12_bill_279 : decode cX12_bill 279 = .ok (.aload_n 0, 1) := by decide +kernel
theorem dX12_bill_280 : decode cX12_bill 280 = .ok (.getfield 153, 3) := by decide +kernel
theorem dX12_bill_283 : decode cX12_bill 283 = .ok (.iload 6, 2) := by decide +kernel
theorem dX12_bill_285 : decode cX12_bill 285 = .ok (.dup2, 1) := by decide +kernel
theorem dX12_bill_286 : decode cX12_bill 286 = .ok (.iaload, 1) := by decide +kernel
theorem dX12_bill_287 : decode cX12_bill 287 = .ok (.iconst 1, 1) := by decide +kernel
theorem dX12_bill_288 : decode cX12_bill 288 = .ok (.iadd, 1) := by decide +kernel
theorem dX12_bill_289 : decode cX12_bill 289 = .ok (.iastore, 1) := by decide +kernel
theorem dX12_bill_290 : decode cX12_bill 290 = .ok (.aload_n 0, 1) := by decide +kernel
theorem dX12_bill_291 : decode cX12_bill 291 = .ok (.getfield 156, 3) := by decide +kernel
theorem dX12_bill_294 : decode cX12_bill 294 = .ok (.iload 6, 2) := by decide +kernel
theorem dX12_bill_296 : decode cX12_bill 296 = .ok (.iconst (-1), 1) := by decide +kernel
theorem dX12_bill_297 : decode cX12_bill 297 = .ok (.iastore, 1) := by decide +kernel
theorem dX12_bill_298 : decode cX12_bill 298 = .ok (.iinc 5 1, 3) := by decide +kernel
theorem dX12_bill_301 : decode cX12_bill 301 = .ok (.goto (-76), 3) := by decide +kernel
theorem dX12_bill_304 : decode cX12_bill 304 = .ok (.aload_n 0, 1) := by decide +kernel
theorem dX12_bill_305 : decode cX12_bill 305 = .ok (.getfield 153, 3) := by decide +kernel
theorem dX12_bill_308 : decode cX12_bill 308 = .ok (.iload_n 2, 1) := by decide +kernel
theorem dX12_bill_309 : decode cX12_bill 309 = .ok (.iaload, 1) := by decide +kernel
theorem dX12_bill_310 : decode cX12_bill 310 = .ok (.ireturn, 1) := by decide +kernel
set_option maxRecDepth 20000 in
theorem gX12_mayLie_X12_guestOf : GoodIn wsX12_mayLie (wsV RX12 353 RX12 yX12_guestOf wsX12_guestOf) := goodIn_r _ [2, 3, 4, 5, 6, 7, 11, 12, 13, 14, 15, 16, 17, 18, 19, 20, 21, 22, 23, 24, 25, 26, 27, 28, 29, 30, 31, 32, 33, 34, 35, 36, 37, 38, 39, 40, 41, 42, 43, 44, 45, 46, 47, 48, 49] rfl (by decide +kernel)
set_option maxRecDepth 20000 in
theorem gX12_mayLie_X12_isIn : GoodIn wsX12_mayLie (va_wsS RX12 400 yX12_isIn wsX12_isIn) := goodIn_r _ [8, 9, 5, 10] rfl (by decide +kernel)
theorem dX12_mayLie_0 : decode cX12_mayLie 0 = .ok (.iconst 0, 1) := by decide +kernel
theorem dX12_mayLie_1 : decode cX12_mayLie 1 = .ok (.istore_n 3, 1) := by decide +kernel
theorem dX12_mayLie_2 : decode cX12_mayLie 2 = .ok (.iconst 1, 1) := by decide +kernel
theorem dX12_mayLie_3 : decode cX12_mayLie 3 = .ok (.istore 4, 2) := by decide +kernel
theorem dX12_mayLie_5 : decode cX12_mayLie 5 = .ok (.iconst 0, 1) := by decide +kernel
theorem dX12_mayLie_6 : decode cX12_mayLie 6 = .ok (.istore 5, 2) := by decide +kernel
theorem dX12_mayLie_8 : decode cX12_mayLie 8 = .ok (.iload 5, 2) := by decide +kernel
theorem dX12_mayLie_10 : decode cX12_mayLie 10 = .ok (.iload_n 1, 1) := by decide +kernel
theorem dX12_mayLie_11 : decode cX12_mayLie 11 = .ok (.if_icmp .ge 65, 3) := by decide +kernel
theorem dX12_mayLie_14 : decode cX12_mayLie 14 = .ok (.iload_n 3, 1) := by decide +kernel
theorem dX12_mayLie_15 : decode cX12_mayLie 15 = .ok (.aload_n 0, 1) := by decide +kernel
theorem dX12_mayLie_16 : decode cX12_mayLie 16 = .ok (.getfield 159, 3) := by decide +kernel
theorem dX12_mayLie_19 : decode cX12_mayLie 19 = .ok (.iload 5, 2) := by decide +kernel
theorem dX12_mayLie_21 : decode cX12_mayLie 21 = .ok (.iaload, 1) := by decide +kernel
theorem dX12_mayLie_22 : decode cX12_mayLie 22 = .ok (.iload_n 2, 1) := by decide +kernel
theorem dX12_mayLie_23 : decode cX12_mayLie 23 = .ok (.if_icmp .ne 7, 3) := by decide +kernel
theorem dX12_mayLie_26 : decode cX12_mayLie 26 = .ok (.iconst 1, 1) := by decide +kernel
theorem dX12_mayLie_27 : decode cX12_mayLie 27 = .ok (.goto 4, 3) := by decide +kernel
theorem dX12_mayLie_30 : decode cX12_mayLie 30 = .ok (.iconst 0, 1) := by decide +kernel
theorem dX12_mayLie_31 : decode cX12_mayLie 31 = .ok (.iadd, 1) := by decide +kernel
theorem dX12_mayLie_32 : decode cX12_mayLie 32 = .ok (.istore_n 3, 1) := by decide +kernel
theorem dX12_mayLie_33 : decode cX12_mayLie 33 = .ok (.iload 4, 2) := by decide +kernel
theorem dX12_mayLie_35 : decode cX12_mayLie 35 = .ok (.ifCond .eq 32, 3) := by decide +kernel
theorem dX12_mayLie_38 : decode cX12_mayLie 38 = .ok (.aload_n 0, 1) := by decide +kernel
theorem dX12_mayLie_39 : decode cX12_mayLie 39 = .ok (.getfield 159, 3) := by decide +kernel
theorem dX12_mayLie_42 : decode cX12_mayLie 42 = .ok (.iload 5, 2) := by decide +kernel
theorem dX12_mayLie_44 : decode cX12_mayLie 44 = .ok (.iaload, 1) := by decide +kernel
theorem dX12_mayLie_45 : decode cX12_mayLie 45 = .ok (.iload_n 2, 1) := by decide +kernel
theorem dX12_mayLie_46 : decode cX12_mayLie 46 = .ok (.if_icmp .ne 17, 3) := by decide +kernel
theorem dX12_mayLie_49 : decode cX12_mayLie 49 = .ok (.aload_n 0, 1) := by decide +kernel
theorem dX12_mayLie_50 : decode cX12_mayLie 50 = .ok (.iload_n 1, 1) := by decide +kernel
theorem dX12_mayLie_51 : decode cX12_mayLie 51 = .ok (.iconst 4, 1) := by decide +kernel
theorem dX12_mayLie_52 : decode cX12_mayLie 52 = .ok (.invokevirtual 353, 3) := by decide +kernel
theorem dX12_mayLie_55 : decode cX12_mayLie 55 = .ok (.iload 5, 2) := by decide +kernel
theorem dX12_mayLie_57 : decode cX12_mayLie 57 = .ok (.invokestatic 400, 3) := by decide +kernel
theorem dX12_mayLie_60 : decode cX12_mayLie 60 = .ok (.ifCond .ne 7, 3) := by decide +kernel
theorem dX12_mayLie_63 : decode cX12_mayLie 63 = .ok (.iconst 1, 1) := by decide +kernel
theorem dX12_mayLie_64 : decode cX12_mayLie 64 = .ok (.goto 4, 3) := by decide +kernel
theorem dX12_mayLie_67 : decode cX12_mayLie 67 = .ok (.iconst 0, 1) := by decide +kernel
theorem dX12_mayLie_68 : decode cX12_mayLie 68 = .ok (.istore 4, 2) := by decide +kernel
theorem dX12_mayLie_70 : decode cX12_mayLie 70 = .ok (.iinc 5 1, 3) := by decide +kernel
theorem dX12_mayLie_73 : decode cX12_mayLie 73 = .ok (.goto (-65), 3) := by decide +kernel
theorem dX12_mayLie_76 : decode cX12_mayLie 76 = .ok (.iload 4, 2) := by decide +kernel
theorem dX12_mayLie_78 : decode cX12_mayLie 78 = .ok (.ifCond .eq 12, 3) := by decide +kernel
theorem dX12_mayLie_81 : decode cX12_mayLie 81 = .ok (.iload_n 3, 1) := by decide +kernel
theorem dX12_mayLie_82 : decode cX12_mayLie 82 = .ok (.iconst 3, 1) := by decide +kernel
theorem dX12_mayLie_83 : decode cX12_mayLie 83 = .ok (.if_icmp .ge 7, 3) := by decide +kernel
theorem dX12_mayLie_86 : decode cX12_mayLie 86 = .ok (.iconst 1, 1) := by decide +kernel
theorem dX12_mayLie_87 : decode cX12_mayLie 87 = .ok (.goto 4, 3) := by decide +kernel
theorem dX12_mayLie_90 : decode cX12_mayLie 90 = .ok (.iconst 0, 1) := by decide +kernel
theorem dX12_mayLie_91 : decode cX12_mayLie 91 = .ok (.ireturn, 1) := by decide +kernel
section
variable {p : Program} {l : Launch} {e : Env} {s : State} {m : MethodId} {args : Array Value} {below : List Frame} {meth : Method} {c : Code} {D : va_G} {cy : Nat → ClassId} {ad : Nat → Nat} {A : Nat → Prop} {aM aB aO aI aN aT aC aG aR aQ aK aL aX aH aJ aP aU aE0 aE1 aE2 aE3 : Nat → Nat} {gi : Value}
abbrev rm12_same : Room := { frames := 2, cells := 0, slots := 0, locals := 43 }
theorem hdV12_same : yX12_same.cls = RX12 ∧ (yX12_same.cls ≠ "java/lang/invoke/MethodHandle" ∧ yX12_same.cls ≠ "java/lang/invoke/VarHandle" ∧ (parseMethodDescriptor yX12_same.desc).map (fun d => d.parameters.length) = some 1) := by decide +kernel
theorem hin12_same_12 : ∀ x ∈ u_ws RX12 TX12 39, x ∈ wsX12_same := fun _ h => List.mem_cons_of_mem _ (List.mem_append_right _ h)
set_option maxRecDepth 100000 in
set_option maxHeartbeats 4000000 in
theorem t12_same_92 (hC : Cx p s m args meth c cX12_same 5 wsX12_same RX12 (some .int)) {k31 : Int32 → Int32 → Int32 → Int32 → Ob → Option (Int32 × Ob)} (hk31 : ∀ (x1 : Int32) (x2 : Int32) (x3 : Int32) (x4 : Int32) (SM : Ob) (res : Int32 × Ob) (H : Heap) (locs : List Loc) (ls : Array Slot), k31 x1 x2 x3 x4 SM = some res → GW D cy ad (w12 cy aM SM) A s H locs → lv_has ls 5 [(0, .ref (aM 0)), (1, .int x1), (2, .int x2), (3, .int x3), (4, .int x4)] → W p l e rm12_same s m args below meth c H locs 0 0 (MQ below (QI D cy (w12 cy aM (res.2)) A (res.1)) args s 0 0 A) (F0 m 31 ls [])) : ∀ (x1 : Int32) (x2 : Int32) (x4 : Int32) (z0 : Int32) (SM : Ob) (res : Int32 × Ob) (H : Heap) (locs : List Loc) (ls : Array Slot), f12_same_92 k31 x1 x2 x4 z0 SM = some res → GW D cy ad (w12 cy aM SM) A s H locs → lv_has ls 5 [(0, .ref (aM 0)), (1, .int x1), (2, .int x2), (4, .int x4)] → W p l e rm12_same s m args below meth c H locs 0 0 (MQ below (QI D cy (w12 cy aM (res.2)) A (res.1)) args s 0 0 A) (F0 m 92 ls [.int z0]) := by
  intro x1 x2 x4 z0 SM res H locs ls hf hW hl
  unfold f12_same_92 at hf
  refine lv_istore_n (lv' := [(3, .int z0), (0, .ref (aM 0)), (1, .int x1), (2, .int x2), (4, .int x4)]) hC.1 hC.2.1 dX12_same_92 rfl hl (by decide) rfl (fun ls hl => ?_)
  obtain ⟨x4_1, ex4_1⟩ : ∃ y : Int32, y = x4 + 1 := ⟨_, rfl⟩
  have hf := lt_nm hf ex4_1
  refine lv_iinc (v := x4_1) (lv' := [(4, .int x4_1), (3, .int z0), (0, .ref (aM 0)), (1, .int x1), (2, .int x2)]) hC.1 hC.2.1 dX12_same_93 hl (k := 4) rfl (by rw [ex4_1]; rfl) (by decide) rfl (fun ls hl => ?_)
  refine lv_goto (tgt := 31) hC.1 hC.2.1 dX12_same_96 (by decide) ?_
  exact hk31 _ _ _ _ _ _ _ _ _ hf hW (lv_sub hl [2, 3, 4, 1, 0] rfl)
set_option maxRecDepth 100000 in
set_option maxHeartbeats 4000000 in
theorem t12_same_91 (hC : Cx p s m args meth c cX12_same 5 wsX12_same RX12 (some .int)) {k31 : Int32 → Int32 → Int32 → Int32 → Ob → Option (Int32 × Ob)} (hk31 : ∀ (x1 : Int32) (x2 : Int32) (x3 : Int32) (x4 : Int32) (SM : Ob) (res : Int32 × Ob) (H : Heap) (locs : List Loc) (ls : Array Slot), k31 x1 x2 x3 x4 SM = some res → GW D cy ad (w12 cy aM SM) A s H locs → lv_has ls 5 [(0, .ref (aM 0)), (1, .int x1), (2, .int x2), (3, .int x3), (4, .int x4)] → W p l e rm12_same s m args below meth c H locs 0 0 (MQ below (QI D cy (w12 cy aM (res.2)) A (res.1)) args s 0 0 A) (F0 m 31 ls [])) : ∀ (x1 : Int32) (x2 : Int32) (x3 : Int32) (x4 : Int32) (SM : Ob) (res : Int32 × Ob) (H : Heap) (locs : List Loc) (ls : Array Slot), f12_same_91 k31 x1 x2 x3 x4 SM = some res → GW D cy ad (w12 cy aM SM) A s H locs → lv_has ls 5 [(0, .ref (aM 0)), (1, .int x1), (2, .int x2), (3, .int x3), (4, .int x4)] → W p l e rm12_same s m args below meth c H locs 0 0 (MQ below (QI D cy (w12 cy aM (res.2)) A (res.1)) args s 0 0 A) (F0 m 91 ls []) := by
  intro x1 x2 x3 x4 SM res H locs ls hf hW hl
  unfold f12_same_91 at hf
  refine lv_iload_n hC.1 hC.2.1 dX12_same_91 rfl (lv_at hl 3 rfl) ?_
  exact t12_same_92 hC hk31  _ _ _ _ _ _ _ _ _ hf hW (lv_sub hl [0, 1, 2, 4] rfl)
set_option maxRecDepth 100000 in
set_option maxHeartbeats 4000000 in
theorem t12_same_76 (hC : Cx p s m args meth c cX12_same 5 wsX12_same RX12 (some .int)) {k31 : Int32 → Int32 → Int32 → Int32 → Ob → Option (Int32 × Ob)} (hk31 : ∀ (x1 : Int32) (x2 : Int32) (x3 : Int32) (x4 : Int32) (SM : Ob) (res : Int32 × Ob) (H : Heap) (locs : List Loc) (ls : Array Slot), k31 x1 x2 x3 x4 SM = some res → GW D cy ad (w12 cy aM SM) A s H locs → lv_has ls 5 [(0, .ref (aM 0)), (1, .int x1), (2, .int x2), (3, .int x3), (4, .int x4)] → W p l e rm12_same s m args below meth c H locs 0 0 (MQ below (QI D cy (w12 cy aM (res.2)) A (res.1)) args s 0 0 A) (F0 m 31 ls [])) : ∀ (x1 : Int32) (x3 : Int32) (x4 : Int32) (z0 : Int32) (z1 : Int32) (SM : Ob) (res : Int32 × Ob) (H : Heap) (locs : List Loc) (ls : Array Slot), f12_same_76 k31 x1 x3 x4 z0 z1 SM = some res → GW D cy ad (w12 cy aM SM) A s H locs → lv_has ls 5 [(0, .ref (aM 0)), (1, .int x1), (3, .int x3), (4, .int x4)] → W p l e rm12_same s m args below meth c H locs 0 0 (MQ below (QI D cy (w12 cy aM (res.2)) A (res.1)) args s 0 0 A) (F0 m 76 ls [.int z1, .int z0]) := by
  intro x1 x3 x4 z0 z1 SM res H locs ls hf hW hl
  unfold f12_same_76 at hf
  refine lv_iand hC.1 hC.2.1 dX12_same_76 ?_
  refine lv_topi (fun x2_1 ex2_1 => ?_)
  have hf := lt_nm hf ex2_1
  refine lv_istore_n (lv' := [(2, .int x2_1), (0, .ref (aM 0)), (1, .int x1), (3, .int x3), (4, .int x4)]) hC.1 hC.2.1 dX12_same_77 rfl hl (by decide) rfl (fun ls hl => ?_)
  refine lv_iload_n hC.1 hC.2.1 dX12_same_78 rfl (lv_at hl 0 rfl) ?_
  refine lv_if_ne (tgt := 91) hC.1 hC.2.1 dX12_same_79 (by decide) (fun hc_2 => ?_) (fun hc_2 => ?_)
  · have hf := ite_f hf hc_2
    exact t12_same_91 hC hk31  _ _ _ _ _ _ _ _ _ hf hW (lv_sub hl [1, 2, 0, 3, 4] rfl)
  · have hf := ite_t hf hc_2
    refine lv_iload_n hC.1 hC.2.1 dX12_same_82 rfl (lv_at hl 3 rfl) ?_
    refine lv_if_ge (tgt := 91) hC.1 hC.2.1 dX12_same_83 (by decide) (fun hc_3 => ?_) (fun hc_3 => ?_)
    · have hf := ite_t hf hc_3
      exact t12_same_91 hC hk31  _ _ _ _ _ _ _ _ _ hf hW (lv_sub hl [1, 2, 0, 3, 4] rfl)
    · have hf := ite_f hf hc_3
      refine lv_iload hC.1 hC.2.1 dX12_same_86 (lv_at hl 4 rfl) ?_
      refine lv_goto (tgt := 92) hC.1 hC.2.1 dX12_same_88 (by decide) ?_
      exact t12_same_92 hC hk31  _ _ _ _ _ _ _ _ _ hf hW (lv_sub hl [1, 2, 0, 4] rfl)
set_option maxRecDepth 100000 in
set_option maxHeartbeats 4000000 in
theorem t12_same_108 (hC : Cx p s m args meth c cX12_same 5 wsX12_same RX12 (some .int)) : ∀ (z0 : Int32) (SM : Ob) (res : Int32 × Ob) (H : Heap) (locs : List Loc) (ls : Array Slot), f12_same_108 z0 SM = some res → GW D cy ad (w12 cy aM SM) A s H locs → lv_has ls 5 [] → W p l e rm12_same s m args below meth c H locs 0 0 (MQ below (QI D cy (w12 cy aM (res.2)) A (res.1)) args s 0 0 A) (F0 m 108 ls [.int z0]) := by
  intro z0 SM res H locs ls hf hW hl
  unfold f12_same_108 at hf
  obtain rfl := Option.some.inj hf
  exact g_iret hC hW dX12_same_108
set_option maxRecDepth 100000 in
set_option maxHeartbeats 4000000 in
theorem t12_same_31 (hC : Cx p s m args meth c cX12_same 5 wsX12_same RX12 (some .int)) : ∀ n : Nat, ∀ (x1 : Int32) (x2 : Int32) (x3 : Int32) (x4 : Int32) (SM : Ob) (res : Int32 × Ob) (H : Heap) (locs : List Loc) (ls : Array Slot), f12_same_31 n x1 x2 x3 x4 SM = some res → GW D cy ad (w12 cy aM SM) A s H locs → lv_has ls 5 [(0, .ref (aM 0)), (1, .int x1), (2, .int x2), (3, .int x3), (4, .int x4)] → W p l e rm12_same s m args below meth c H locs 0 0 (MQ below (QI D cy (w12 cy aM (res.2)) A (res.1)) args s 0 0 A) (F0 m 31 ls []) := by
  intro n
  induction n with
  | zero =>
    intro _ _ _ _ _ _ _ _ _ hf _ _
    exact nomatch (show (none : Option (Int32 × Ob)) = some _ from hf)
  | succ n ih =>
    intro x1 x2 x3 x4 SM res H locs ls hf hW hl
    rw [f12_same_31] at hf
    refine lv_iload hC.1 hC.2.1 dX12_same_31 (lv_at hl 4 rfl) ?_
    refine lv_aload_n hC.1 hC.2.1 dX12_same_33 rfl (lv_at hl 0 rfl) ?_
    refine g_get hC hW hin12_same_12 0 rfl rfl 25 (by decide) 2 rfl rfl dX12_same_34 ?_
    refine lv_iconst (v := 1) hC.1 hC.2.1 dX12_same_37 (by decide) ?_
    obtain ⟨hi_1, hf⟩ := ck_of hf
    refine g_iald hC hW 16 rfl hi_1 dX12_same_38 ?_
    refine lv_icmp_gt (tgt := 99) hC.1 hC.2.1 dX12_same_39 (by decide) (fun hc_2 => ?_) (fun hc_2 => ?_)
    · have hf := ite_t hf hc_2
      refine lv_iload_n hC.1 hC.2.1 dX12_same_99 rfl (lv_at hl 1 rfl) ?_
      refine lv_if_ne (tgt := 107) hC.1 hC.2.1 dX12_same_100 (by decide) (fun hc_3 => ?_) (fun hc_3 => ?_)
      · have hf := ite_f hf hc_3
        refine lv_iload_n hC.1 hC.2.1 dX12_same_107 rfl (lv_at hl 3 rfl) ?_
        exact t12_same_108 hC  _ _ _ _ _ _ hf hW (lv_sub hl [] rfl)
      · have hf := ite_t hf hc_3
        refine lv_iload_n hC.1 hC.2.1 dX12_same_103 rfl (lv_at hl 2 rfl) ?_
        refine lv_goto (tgt := 108) hC.1 hC.2.1 dX12_same_104 (by decide) ?_
        exact t12_same_108 hC  _ _ _ _ _ _ hf hW (lv_sub hl [] rfl)
    · have hf := ite_f hf hc_2
      refine lv_iload_n hC.1 hC.2.1 dX12_same_42 rfl (lv_at hl 2 rfl) ?_
      refine lv_iload hC.1 hC.2.1 dX12_same_43 (lv_at hl 4 rfl) ?_
      refine lv_aload_n hC.1 hC.2.1 dX12_same_45 rfl (lv_at hl 0 rfl) ?_
      refine g_get hC hW hin12_same_12 0 rfl rfl 25 (by decide) 2 rfl rfl dX12_same_46 ?_
      refine lv_iconst (v := 1) hC.1 hC.2.1 dX12_same_49 (by decide) ?_
      obtain ⟨hi_4, hf⟩ := ck_of hf
      refine g_iald hC hW 16 rfl hi_4 dX12_same_50 ?_
      refine lv_icmp_ge (tgt := 66) hC.1 hC.2.1 dX12_same_51 (by decide) (fun hc_5 => ?_) (fun hc_5 => ?_)
      · have hf := ite_t hf hc_5
        refine lv_aload_n hC.1 hC.2.1 dX12_same_66 rfl (lv_at hl 0 rfl) ?_
        refine lv_aload_n hC.1 hC.2.1 dX12_same_67 rfl (lv_at hl 0 rfl) ?_
        refine g_get hC hW hin12_same_12 0 rfl rfl 25 (by decide) 2 rfl rfl dX12_same_68 ?_
        refine lv_iconst (v := 0) hC.1 hC.2.1 dX12_same_71 (by decide) ?_
        obtain ⟨hi_6, hf⟩ := ck_of hf
        refine g_iald hC hW 16 rfl hi_6 dX12_same_72 ?_
        obtain ⟨r_7, hg_8, hf⟩ := bd_of hf
        refine g_calliV hC hW (c12_whoIn l D cy ad aM hg_8) (cwV 1 hC.2.2.2.2.1 gX12_same_X12_whoIn rfl rfl rfl hdV12_whoIn ⟨Nat.le_of_ble_eq_true rfl, Nat.le_of_ble_eq_true rfl⟩) (Sub.all _ _) 0 11 rfl rfl rfl rfl hl.1 rfl (Nat.le_of_ble_eq_true rfl) dX12_same_73 ⟨Nat.zero_le _, Nat.zero_le _⟩ (fun H locs hW => ?_)
        exact t12_same_76 hC ih  _ _ _ _ _ _ _ _ _ _ hf hW (lv_sub hl [0, 1, 3, 4] rfl)
      · have hf := ite_f hf hc_5
        refine lv_aload_n hC.1 hC.2.1 dX12_same_54 rfl (lv_at hl 0 rfl) ?_
        refine g_get hC hW hin12_same_12 0 rfl rfl 25 (by decide) 2 rfl rfl dX12_same_55 ?_
        refine lv_iconst (v := 2) hC.1 hC.2.1 dX12_same_58 (by decide) ?_
        refine lv_iload hC.1 hC.2.1 dX12_same_59 (lv_at hl 4 rfl) ?_
        refine lv_iadd hC.1 hC.2.1 dX12_same_61 ?_
        obtain ⟨hi_9, hf⟩ := ck_of hf
        refine g_iald hC hW 16 rfl hi_9 dX12_same_62 ?_
        refine lv_goto (tgt := 76) hC.1 hC.2.1 dX12_same_63 (by decide) ?_
        exact t12_same_76 hC ih  _ _ _ _ _ _ _ _ _ _ hf hW (lv_sub hl [0, 1, 3, 4] rfl)
set_option maxRecDepth 100000 in
set_option maxHeartbeats 4000000 in
theorem t12_same_0 (hC : Cx p s m args meth c cX12_same 5 wsX12_same RX12 (some .int)) : ∀ (x1 : Int32) (SM : Ob) (res : Int32 × Ob) (H : Heap) (locs : List Loc) (ls : Array Slot), f12_same x1 SM = some res → GW D cy ad (w12 cy aM SM) A s H locs → lv_has ls 5 [(0, .ref (aM 0)), (1, .int x1)] → W p l e rm12_same s m args below meth c H locs 0 0 (MQ below (QI D cy (w12 cy aM (res.2)) A (res.1)) args s 0 0 A) (F0 m 0 ls []) := by
  intro x1 SM res H locs ls hf hW hl
  unfold f12_same at hf
  refine lv_aload_n hC.1 hC.2.1 dX12_same_0 rfl (lv_at hl 0 rfl) ?_
  refine lv_iconst (v := 0) hC.1 hC.2.1 dX12_same_1 (by decide) ?_
  obtain ⟨SM_1, eSM_1⟩ : ∃ y : Ob, y = oI SM 0 0 := ⟨_, rfl⟩
  have hf := lt_nm hf eSM_1
  refine g_put hC hW hin12_same_12 tyX12 tyX12_ok nmX12 0 rfl rfl 0 (by decide) 1 rfl rfl rfl rfl (Nat.le_of_ble_eq_true rfl) (w' := w12 cy aM SM_1) (by rw [eSM_1]; rfl) dX12_same_2 (fun H locs hW => ?_)
  refine lv_iload_n hC.1 hC.2.1 dX12_same_5 rfl (lv_at hl 1 rfl) ?_
  refine lv_iconst (v := 0) hC.1 hC.2.1 dX12_same_6 (by decide) ?_
  refine lv_iconst (v := 1) hC.1 hC.2.1 dX12_same_7 (by decide) ?_
  obtain ⟨r_2, hg_3, hf⟩ := bd_of hf
  refine g_calliS hC hW (c12_within l D cy ad  hg_3) (va_cwS 3 hC.2.2.2.2.1 gX12_same_X12_within rfl rfl rfl hdS12_within ⟨Nat.le_of_ble_eq_true rfl, Nat.le_of_ble_eq_true rfl⟩) (Sub.nil _) rfl hl.1 rfl (Nat.le_of_ble_eq_true rfl) dX12_same_8 ⟨Nat.zero_le _, Nat.zero_le _⟩ (fun H locs hW => ?_)
  refine lv_if_ne (tgt := 17) hC.1 hC.2.1 dX12_same_11 (by decide) (fun hc_4 => ?_) (fun hc_4 => ?_)
  · have hf := ite_f hf hc_4
    refine lv_iconst (v := 1) hC.1 hC.2.1 dX12_same_17 (by decide) ?_
    refine lv_aload_n hC.1 hC.2.1 dX12_same_18 rfl (lv_at hl 0 rfl) ?_
    obtain ⟨r_5, hg_6, hf⟩ := bd_of hf
    refine g_calliV hC hW (c12_guests l D cy ad aM hg_6) (cwV 0 hC.2.2.2.2.1 gX12_same_X12_guests rfl rfl rfl hdV12_guests ⟨Nat.le_of_ble_eq_true rfl, Nat.le_of_ble_eq_true rfl⟩) (Sub.all _ _) 0 11 rfl rfl rfl rfl hl.1 rfl (Nat.le_of_ble_eq_true rfl) dX12_same_19 ⟨Nat.zero_le _, Nat.zero_le _⟩ (fun H locs hW => ?_)
    refine lv_ishl hC.1 hC.2.1 dX12_same_22 ?_
    refine lv_iconst (v := 1) hC.1 hC.2.1 dX12_same_23 (by decide) ?_
    refine lv_isub hC.1 hC.2.1 dX12_same_24 ?_
    refine lv_topi (fun x2_7 ex2_7 => ?_)
    have hf := lt_nm hf ex2_7
    refine lv_istore_n (lv' := [(2, .int x2_7), (0, .ref (aM 0)), (1, .int x1)]) hC.1 hC.2.1 dX12_same_25 rfl hl (by decide) rfl (fun ls hl => ?_)
    refine lv_iconst (v := (-1)) hC.1 hC.2.1 dX12_same_26 (by decide) ?_
    refine lv_istore_n (lv' := [(3, .int (-1)), (2, .int x2_7), (0, .ref (aM 0)), (1, .int x1)]) hC.1 hC.2.1 dX12_same_27 rfl hl (by decide) rfl (fun ls hl => ?_)
    refine lv_iconst (v := 0) hC.1 hC.2.1 dX12_same_28 (by decide) ?_
    refine lv_istore (lv' := [(4, .int 0), (3, .int (-1)), (2, .int x2_7), (0, .ref (aM 0)), (1, .int x1)]) hC.1 hC.2.1 dX12_same_29 hl (by decide) rfl (fun ls hl => ?_)
    exact t12_same_31 hC _ _ _ _ _ _ _ _ _ _ hf hW (lv_sub hl [3, 4, 2, 1, 0] rfl)
  · have hf := ite_t hf hc_4
    refine lv_bipush (v := (-2)) hC.1 hC.2.1 dX12_same_14 (by decide) ?_
    obtain rfl := Option.some.inj hf
    exact g_iret hC hW dX12_same_16
set_option maxRecDepth 100000 in
set_option maxHeartbeats 4000000 in
theorem c12_same (l : Launch) (D : va_G) (cy : Nat → ClassId) (ad : Nat → Nat) (aM : Nat → Nat) {x1 : Int32} {SM : Ob} {res : Int32 × Ob} (h : f12_same x1 SM = some res) : GCi l yX12_same wsX12_same rm12_same [.ref (aM 0), .int x1] D cy ad (w12 cy aM SM) (w12 cy aM (res.2)) (res.1) := fun sz => GC.start (own := RX12) (Qc := fun A => QI D cy (w12 cy aM (res.2)) A (res.1)) sz (by decide) rfl rfl (Nat.le_of_ble_eq_true rfl) (fun p e s m below meth c A ls hC hW hl => t12_same_0 hC _ _ _ _ _ _ h hW (lv_sub hl [0, 1] rfl))
abbrev rm12_bill : Room := { frames := 2, cells := 0, slots := 0, locals := 46 }
theorem hdV12_bill : yX12_bill.cls = RX12 ∧ (yX12_bill.cls ≠ "java/lang/invoke/MethodHandle" ∧ yX12_bill.cls ≠ "java/lang/invoke/VarHandle" ∧ (parseMethodDescriptor yX12_bill.desc).map (fun d => d.parameters.length) = some 2) := by decide +kernel
theorem hin12_bill_12 : ∀ x ∈ u_ws RX12 TX12 39, x ∈ wsX12_bill := fun _ h => List.mem_cons_of_mem _ (List.mem_append_right _ h)
set_option maxRecDepth 100000 in
set_option maxHeartbeats 4000000 in
theorem t12_bill_24 (hC : Cx p s m args meth c cX12_bill 8 wsX12_bill RX12 (some .int)) : ∀ (SM : Ob) (res : Int32 × Ob) (H : Heap) (locs : List Loc) (ls : Array Slot), f12_bill_24 SM = some res → GW D cy ad (w12 cy aM SM) A s H locs → lv_has ls 8 [] → W p l e rm12_bill s m args below meth c H locs 0 0 (MQ below (QI D cy (w12 cy aM (res.2)) A (res.1)) args s 0 0 A) (F0 m 24 ls []) := by
  intro SM res H locs ls hf hW hl
  unfold f12_bill_24 at hf
  refine lv_iconst (v := (-1)) hC.1 hC.2.1 dX12_bill_24 (by decide) ?_
  obtain rfl := Option.some.inj hf
  exact g_iret hC hW dX12_bill_25
set_option maxRecDepth 100000 in
set_option maxHeartbeats 4000000 in
theorem t12_bill_130 (hC : Cx p s m args meth c cX12_bill 8 wsX12_bill RX12 (some .int)) {k31 : Int32 → Int32 → Int32 → Int32 → Ob → Option (Int32 × Ob)} (hk31 : ∀ (x1 : Int32) (x2 : Int32) (x3 : Int32) (x4 : Int32) (SM : Ob) (res : Int32 × Ob) (H : Heap) (locs : List Loc) (ls : Array Slot), k31 x1 x2 x3 x4 SM = some res → GW D cy ad (w12 cy aM SM) A s H locs → lv_has ls 8 [(0, .ref (aM 0)), (1, .int x1), (2, .int x2), (3, .int x3), (4, .int x4)] → W p l e rm12_bill s m args below meth c H locs 0 0 (MQ below (QI D cy (w12 cy aM (res.2)) A (res.1)) args s 0 0 A) (F0 m 31 ls [])) : ∀ (x1 : Int32) (x2 : Int32) (x3 : Int32) (x4 : Int32) (z1 : Int32) (z2 : Int32) (SM : Ob) (res : Int32 × Ob) (H : Heap) (locs : List Loc) (ls : Array Slot), f12_bill_130 k31 x1 x2 x3 x4 z1 z2 SM = some res → GW D cy ad (w12 cy aM SM) A s H locs → lv_has ls 8 [(0, .ref (aM 0)), (1, .int x1), (2, .int x2), (3, .int x3), (4, .int x4)] → W p l e rm12_bill s m args below meth c H locs 0 0 (MQ below (QI D cy (w12 cy aM (res.2)) A (res.1)) args s 0 0 A) (F0 m 130 ls [.int z2, .int z1, .ref (aM 34)]) := by
  intro x1 x2 x3 x4 z1 z2 SM res H locs ls hf hW hl
  unfold f12_bill_130 at hf
  obtain ⟨hi_1, hf⟩ := ck_of hf
  obtain ⟨SM_2, eSM_2⟩ : ∃ y : Ob, y = oA SM 33 (Int32.toNatClampNeg z1) z2 := ⟨_, rfl⟩
  have hf := lt_nm hf eSM_2
  refine g_iast hC hW 23 rfl hi_1 (w' := w12 cy aM SM_2) (by rw [eSM_2]; rfl) dX12_bill_130 (fun H locs hW => ?_)
  refine lv_iload_n hC.1 hC.2.1 dX12_bill_131 rfl (lv_at hl 3 rfl) ?_
  refine lv_aload_n hC.1 hC.2.1 dX12_bill_132 rfl (lv_at hl 0 rfl) ?_
  refine g_get hC hW hin12_bill_12 0 rfl rfl 33 (by decide) 4 rfl rfl dX12_bill_133 ?_
  refine lv_iload hC.1 hC.2.1 dX12_bill_136 (lv_at hl 4 rfl) ?_
  obtain ⟨hi_3, hf⟩ := ck_of hf
  refine g_iald hC hW 23 rfl hi_3 dX12_bill_138 ?_
  refine lv_iadd hC.1 hC.2.1 dX12_bill_139 ?_
  refine lv_topi (fun x3_4 ex3_4 => ?_)
  have hf := lt_nm hf ex3_4
  refine lv_istore_n (lv' := [(3, .int x3_4), (0, .ref (aM 0)), (1, .int x1), (2, .int x2), (4, .int x4)]) hC.1 hC.2.1 dX12_bill_140 rfl hl (by decide) rfl (fun ls hl => ?_)
  obtain ⟨x4_5, ex4_5⟩ : ∃ y : Int32, y = x4 + 1 := ⟨_, rfl⟩
  have hf := lt_nm hf ex4_5
  refine lv_iinc (v := x4_5) (lv' := [(4, .int x4_5), (3, .int x3_4), (0, .ref (aM 0)), (1, .int x1), (2, .int x2)]) hC.1 hC.2.1 dX12_bill_141 hl (k := 4) rfl (by rw [ex4_5]; rfl) (by decide) rfl (fun ls hl => ?_)
  refine lv_goto (tgt := 31) hC.1 hC.2.1 dX12_bill_144 (by decide) ?_
  exact hk31 _ _ _ _ _ _ _ _ _ hf hW (lv_sub hl [2, 3, 4, 1, 0] rfl)
set_option maxRecDepth 100000 in
set_option maxHeartbeats 4000000 in
theorem t12_bill_99 (hC : Cx p s m args meth c cX12_bill 8 wsX12_bill RX12 (some .int)) {k31 : Int32 → Int32 → Int32 → Int32 → Ob → Option (Int32 × Ob)} (hk31 : ∀ (x1 : Int32) (x2 : Int32) (x3 : Int32) (x4 : Int32) (SM : Ob) (res : Int32 × Ob) (H : Heap) (locs : List Loc) (ls : Array Slot), k31 x1 x2 x3 x4 SM = some res → GW D cy ad (w12 cy aM SM) A s H locs → lv_has ls 8 [(0, .ref (aM 0)), (1, .int x1), (2, .int x2), (3, .int x3), (4, .int x4)] → W p l e rm12_bill s m args below meth c H locs 0 0 (MQ below (QI D cy (w12 cy aM (res.2)) A (res.1)) args s 0 0 A) (F0 m 31 ls [])) : ∀ (x1 : Int32) (x2 : Int32) (x3 : Int32) (x4 : Int32) (z0 : Int32) (SM : Ob) (res : Int32 × Ob) (H : Heap) (locs : List Loc) (ls : Array Slot), f12_bill_99 k31 x1 x2 x3 x4 z0 SM = some res → GW D cy ad (w12 cy aM SM) A s H locs → lv_has ls 8 [(0, .ref (aM 0)), (1, .int x1), (2, .int x2), (3, .int x3), (4, .int x4)] → W p l e rm12_bill s m args below meth c H locs 0 0 (MQ below (QI D cy (w12 cy aM (res.2)) A (res.1)) args s 0 0 A) (F0 m 99 ls [.int z0]) := by
  intro x1 x2 x3 x4 z0 SM res H locs ls hf hW hl
  unfold f12_bill_99 at hf
  refine lv_istore (lv' := [(5, .int z0), (0, .ref (aM 0)), (1, .int x1), (2, .int x2), (3, .int x3), (4, .int x4)]) hC.1 hC.2.1 dX12_bill_99 hl (by decide) rfl (fun ls hl => ?_)
  refine lv_aload_n hC.1 hC.2.1 dX12_bill_101 rfl (lv_at hl 1 rfl) ?_
  refine g_get hC hW hin12_bill_12 0 rfl rfl 33 (by decide) 4 rfl rfl dX12_bill_102 ?_
  refine lv_iload hC.1 hC.2.1 dX12_bill_105 (lv_at hl 5 rfl) ?_
  refine lv_iload hC.1 hC.2.1 dX12_bill_107 (lv_at hl 0 rfl) ?_
  refine lv_if_ge (tgt := 116) hC.1 hC.2.1 dX12_bill_109 (by decide) (fun hc_1 => ?_) (fun hc_1 => ?_)
  · have hf := ite_t hf hc_1
    refine lv_iload hC.1 hC.2.1 dX12_bill_116 (lv_at hl 0 rfl) ?_
    refine lv_bipush (v := 99) hC.1 hC.2.1 dX12_bill_118 (by decide) ?_
    refine lv_icmp_le (tgt := 128) hC.1 hC.2.1 dX12_bill_120 (by decide) (fun hc_2 => ?_) (fun hc_2 => ?_)
    · have hf := ite_t hf hc_2
      refine lv_iload hC.1 hC.2.1 dX12_bill_128 (lv_at hl 0 rfl) ?_
      exact t12_bill_130 hC hk31  _ _ _ _ _ _ _ _ _ _ _ hf hW (lv_sub hl [1, 2, 3, 4, 5] rfl)
    · have hf := ite_f hf hc_2
      refine lv_bipush (v := 99) hC.1 hC.2.1 dX12_bill_123 (by decide) ?_
      refine lv_goto (tgt := 130) hC.1 hC.2.1 dX12_bill_125 (by decide) ?_
      exact t12_bill_130 hC hk31  _ _ _ _ _ _ _ _ _ _ _ hf hW (lv_sub hl [1, 2, 3, 4, 5] rfl)
  · have hf := ite_f hf hc_1
    refine lv_iconst (v := 0) hC.1 hC.2.1 dX12_bill_112 (by decide) ?_
    refine lv_goto (tgt := 130) hC.1 hC.2.1 dX12_bill_113 (by decide) ?_
    exact t12_bill_130 hC hk31  _ _ _ _ _ _ _ _ _ _ _ hf hW (lv_sub hl [1, 2, 3, 4, 5] rfl)
set_option maxRecDepth 100000 in
set_option maxHeartbeats 4000000 in
theorem t12_bill_271 (hC : Cx p s m args meth c cX12_bill 8 wsX12_bill RX12 (some .int)) {k225 : Int32 → Int32 → Int32 → Ob → Option (Int32 × Ob)} (hk225 : ∀ (x2 : Int32) (x4 : Int32) (x5 : Int32) (SM : Ob) (res : Int32 × Ob) (H : Heap) (locs : List Loc) (ls : Array Slot), k225 x2 x4 x5 SM = some res → GW D cy ad (w12 cy aM SM) A s H locs → lv_has ls 8 [(0, .ref (aM 0)), (2, .int x2), (4, .int x4), (5, .int x5)] → W p l e rm12_bill s m args below meth c H locs 0 0 (MQ below (QI D cy (w12 cy aM (res.2)) A (res.1)) args s 0 0 A) (F0 m 225 ls [])) {k238 : Int32 → Int32 → Int32 → Int32 → Int32 → Ob → Option (Int32 × Ob)} (hk238 : ∀ (x2 : Int32) (x4 : Int32) (x5 : Int32) (x6 : Int32) (x7 : Int32) (SM : Ob) (res : Int32 × Ob) (H : Heap) (locs : List Loc) (ls : Array Slot), k238 x2 x4 x5 x6 x7 SM = some res → GW D cy ad (w12 cy aM SM) A s H locs → lv_has ls 8 [(0, .ref (aM 0)), (2, .int x2), (4, .int x4), (5, .int x5), (6, .int x6), (7, .int x7)] → W p l e rm12_bill s m args below meth c H locs 0 0 (MQ below (QI D cy (w12 cy aM (res.2)) A (res.1)) args s 0 0 A) (F0 m 238 ls [])) : ∀ (x2 : Int32) (x4 : Int32) (x5 : Int32) (x7 : Int32) (z0 : Int32) (SM : Ob) (res : Int32 × Ob) (H : Heap) (locs : List Loc) (ls : Array Slot), f12_bill_271 k225 k238 x2 x4 x5 x7 z0 SM = some res → GW D cy ad (w12 cy aM SM) A s H locs → lv_has ls 8 [(0, .ref (aM 0)), (2, .int x2), (4, .int x4), (5, .int x5), (7, .int x7)] → W p l e rm12_bill s m args below meth c H locs 0 0 (MQ below (QI D cy (w12 cy aM (res.2)) A (res.1)) args s 0 0 A) (F0 m 271 ls [.int z0]) := by
  intro x2 x4 x5 x7 z0 SM res H locs ls hf hW hl
  unfold f12_bill_271 at hf
  refine lv_istore (lv' := [(6, .int z0), (0, .ref (aM 0)), (2, .int x2), (4, .int x4), (5, .int x5), (7, .int x7)]) hC.1 hC.2.1 dX12_bill_271 hl (by decide) rfl (fun ls hl => ?_)
  obtain ⟨x7_1, ex7_1⟩ : ∃ y : Int32, y = x7 + 1 := ⟨_, rfl⟩
  have hf := lt_nm hf ex7_1
  refine lv_iinc (v := x7_1) (lv' := [(7, .int x7_1), (6, .int z0), (0, .ref (aM 0)), (2, .int x2), (4, .int x4), (5, .int x5)]) hC.1 hC.2.1 dX12_bill_273 hl (k := 5) rfl (by rw [ex7_1]; rfl) (by decide) rfl (fun ls hl => ?_)
  refine lv_goto (tgt := 238) hC.1 hC.2.1 dX12_bill_276 (by decide) ?_
  exact hk238 _ _ _ _ _ _ _ _ _ _ hf hW (lv_sub hl [2, 3, 4, 5, 1, 0] rfl)
set_option maxRecDepth 100000 in
set_option maxHeartbeats 4000000 in
theorem t12_bill_238 (hC : Cx p s m args meth c cX12_bill 8 wsX12_bill RX12 (some .int)) {k225 : Int32 → Int32 → Int32 → Ob → Option (Int32 × Ob)} (hk225 : ∀ (x2 : Int32) (x4 : Int32) (x5 : Int32) (SM : Ob) (res : Int32 × Ob) (H : Heap) (locs : List Loc) (ls : Array Slot), k225 x2 x4 x5 SM = some res → GW D cy ad (w12 cy aM SM) A s H locs → lv_has ls 8 [(0, .ref (aM 0)), (2, .int x2), (4, .int x4), (5, .int x5)] → W p l e rm12_bill s m args below meth c H locs 0 0 (MQ below (QI D cy (w12 cy aM (res.2)) A (res.1)) args s 0 0 A) (F0 m 225 ls [])) : ∀ n : Nat, ∀ (x2 : Int32) (x4 : Int32) (x5 : Int32) (x6 : Int32) (x7 : Int32) (SM : Ob) (res : Int32 × Ob) (H : Heap) (locs : List Loc) (ls : Array Slot), f12_bill_238 k225 n x2 x4 x5 x6 x7 SM = some res → GW D cy ad (w12 cy aM SM) A s H locs → lv_has ls 8 [(0, .ref (aM 0)), (2, .int x2), (4, .int x4), (5, .int x5), (6, .int x6), (7, .int x7)] → W p l e rm12_bill s m args below meth c H locs 0 0 (MQ below (QI D cy (w12 cy aM (res.2)) A (res.1)) args s 0 0 A) (F0 m 238 ls []) := by
  intro n
  induction n with
  | zero =>
    intro _ _ _ _ _ _ _ _ _ _ hf _ _
    exact nomatch (show (none : Option (Int32 × Ob)) = some _ from hf)
  | succ n ih =>
    intro x2 x4 x5 x6 x7 SM res H locs ls hf hW hl
    rw [f12_bill_238] at hf
    refine lv_iload hC.1 hC.2.1 dX12_bill_238 (lv_at hl 5 rfl) ?_
    refine lv_aload_n hC.1 hC.2.1 dX12_bill_240 rfl (lv_at hl 0 rfl) ?_
    obtain ⟨r_1, hg_2, hf⟩ := bd_of hf
    refine g_calliV hC hW (c12_guests l D cy ad aM hg_2) (cwV 0 hC.2.2.2.2.1 gX12_bill_X12_guests rfl rfl rfl hdV12_guests ⟨Nat.le_of_ble_eq_true rfl, Nat.le_of_ble_eq_true rfl⟩) (Sub.all _ _) 0 11 rfl rfl rfl rfl hl.1 rfl (Nat.le_of_ble_eq_true rfl) dX12_bill_241 ⟨Nat.zero_le _, Nat.zero_le _⟩ (fun H locs hW => ?_)
    refine lv_icmp_ge (tgt := 279) hC.1 hC.2.1 dX12_bill_244 (by decide) (fun hc_3 => ?_) (fun hc_3 => ?_)
    · have hf := ite_t hf hc_3
      refine lv_aload_n hC.1 hC.2.1 dX12_bill_279 rfl (lv_at hl 0 rfl) ?_
      refine g_get hC hW hin12_bill_12 0 rfl rfl 33 (by decide) 4 rfl rfl dX12_bill_280 ?_
      refine lv_iload hC.1 hC.2.1 dX12_bill_283 (lv_at hl 4 rfl) ?_
      refine lv_dup2_11 hC.1 hC.2.1 dX12_bill_285 rfl rfl ?_
      obtain ⟨hi_4, hf⟩ := ck_of hf
      refine g_iald hC hW 23 rfl hi_4 dX12_bill_286 ?_
      refine lv_iconst (v := 1) hC.1 hC.2.1 dX12_bill_287 (by decide) ?_
      refine lv_iadd hC.1 hC.2.1 dX12_bill_288 ?_
      obtain ⟨hi_5, hf⟩ := ck_of hf
      obtain ⟨SM_6, eSM_6⟩ : ∃ y : Ob, y = oA SM 33 (Int32.toNatClampNeg x6) ((SM.2.2.1 33 (Int32.toNatClampNeg x6)) + 1) := ⟨_, rfl⟩
      have hf := lt_nm hf eSM_6
      refine g_iast hC hW 23 rfl hi_5 (w' := w12 cy aM SM_6) (by rw [eSM_6]; rfl) dX12_bill_289 (fun H locs hW => ?_)
      refine lv_aload_n hC.1 hC.2.1 dX12_bill_290 rfl (lv_at hl 0 rfl) ?_
      refine g_get hC hW hin12_bill_12 0 rfl rfl 34 (by decide) 5 rfl rfl dX12_bill_291 ?_
      refine lv_iload hC.1 hC.2.1 dX12_bill_294 (lv_at hl 4 rfl) ?_
      refine lv_iconst (v := (-1)) hC.1 hC.2.1 dX12_bill_296 (by decide) ?_
      obtain ⟨hi_7, hf⟩ := ck_of hf
      obtain ⟨SM_8, eSM_8⟩ : ∃ y : Ob, y = oA SM_6 34 (Int32.toNatClampNeg x6) (-1) := ⟨_, rfl⟩
      have hf := lt_nm hf eSM_8
      refine g_iast hC hW 24 rfl hi_7 (w' := w12 cy aM SM_8) (by rw [eSM_8]; rfl) dX12_bill_297 (fun H locs hW => ?_)
      obtain ⟨x5_9, ex5_9⟩ : ∃ y : Int32, y = x5 + 1 := ⟨_, rfl⟩
      have hf := lt_nm hf ex5_9
      refine lv_iinc (v := x5_9) (lv' := [(5, .int x5_9), (0, .ref (aM 0)), (2, .int x2), (4, .int x4), (6, .int x6), (7, .int x7)]) hC.1 hC.2.1 dX12_bill_298 hl (k := 3) rfl (by rw [ex5_9]; rfl) (by decide) rfl (fun ls hl => ?_)
      refine lv_goto (tgt := 225) hC.1 hC.2.1 dX12_bill_301 (by decide) ?_
      exact hk225 _ _ _ _ _ _ _ _ hf hW (lv_sub hl [1, 2, 3, 0] rfl)
    · have hf := ite_f hf hc_3
      refine lv_aload_n hC.1 hC.2.1 dX12_bill_247 rfl (lv_at hl 0 rfl) ?_
      refine g_get hC hW hin12_bill_12 0 rfl rfl 34 (by decide) 5 rfl rfl dX12_bill_248 ?_
      refine lv_iload hC.1 hC.2.1 dX12_bill_251 (lv_at hl 5 rfl) ?_
      obtain ⟨hi_10, hf⟩ := ck_of hf
      refine g_iald hC hW 24 rfl hi_10 dX12_bill_253 ?_
      refine lv_aload_n hC.1 hC.2.1 dX12_bill_254 rfl (lv_at hl 0 rfl) ?_
      refine g_get hC hW hin12_bill_12 0 rfl rfl 34 (by decide) 5 rfl rfl dX12_bill_255 ?_
      refine lv_iload hC.1 hC.2.1 dX12_bill_258 (lv_at hl 4 rfl) ?_
      obtain ⟨hi_11, hf⟩ := ck_of hf
      refine g_iald hC hW 24 rfl hi_11 dX12_bill_260 ?_
      refine lv_icmp_le (tgt := 269) hC.1 hC.2.1 dX12_bill_261 (by decide) (fun hc_12 => ?_) (fun hc_12 => ?_)
      · have hf := ite_t hf hc_12
        refine lv_iload hC.1 hC.2.1 dX12_bill_269 (lv_at hl 4 rfl) ?_
        exact t12_bill_271 hC hk225 ih  _ _ _ _ _ _ _ _ _ _ hf hW (lv_sub hl [0, 1, 2, 3, 5] rfl)
      · have hf := ite_f hf hc_12
        refine lv_iload hC.1 hC.2.1 dX12_bill_264 (lv_at hl 5 rfl) ?_
        refine lv_goto (tgt := 271) hC.1 hC.2.1 dX12_bill_266 (by decide) ?_
        exact t12_bill_271 hC hk225 ih  _ _ _ _ _ _ _ _ _ _ hf hW (lv_sub hl [0, 1, 2, 3, 5] rfl)
set_option maxRecDepth 100000 in
set_option maxHeartbeats 4000000 in
theorem t12_bill_225 (hC : Cx p s m args meth c cX12_bill 8 wsX12_bill RX12 (some .int)) : ∀ n : Nat, ∀ (x2 : Int32) (x4 : Int32) (x5 : Int32) (SM : Ob) (res : Int32 × Ob) (H : Heap) (locs : List Loc) (ls : Array Slot), f12_bill_225 n x2 x4 x5 SM = some res → GW D cy ad (w12 cy aM SM) A s H locs → lv_has ls 8 [(0, .ref (aM 0)), (2, .int x2), (4, .int x4), (5, .int x5)] → W p l e rm12_bill s m args below meth c H locs 0 0 (MQ below (QI D cy (w12 cy aM (res.2)) A (res.1)) args s 0 0 A) (F0 m 225 ls []) := by
  intro n
  induction n with
  | zero =>
    intro _ _ _ _ _ _ _ _ hf _ _
    exact nomatch (show (none : Option (Int32 × Ob)) = some _ from hf)
  | succ n ih =>
    intro x2 x4 x5 SM res H locs ls hf hW hl
    rw [f12_bill_225] at hf
    refine lv_iload hC.1 hC.2.1 dX12_bill_225 (lv_at hl 3 rfl) ?_
    refine lv_iload hC.1 hC.2.1 dX12_bill_227 (lv_at hl 2 rfl) ?_
    refine lv_icmp_ge (tgt := 304) hC.1 hC.2.1 dX12_bill_229 (by decide) (fun hc_1 => ?_) (fun hc_1 => ?_)
    · have hf := ite_t hf hc_1
      refine lv_aload_n hC.1 hC.2.1 dX12_bill_304 rfl (lv_at hl 0 rfl) ?_
      refine g_get hC hW hin12_bill_12 0 rfl rfl 33 (by decide) 4 rfl rfl dX12_bill_305 ?_
      refine lv_iload_n hC.1 hC.2.1 dX12_bill_308 rfl (lv_at hl 1 rfl) ?_
      obtain ⟨hi_2, hf⟩ := ck_of hf
      refine g_iald hC hW 23 rfl hi_2 dX12_bill_309 ?_
      obtain rfl := Option.some.inj hf
      exact g_iret hC hW dX12_bill_310
    · have hf := ite_f hf hc_1
      refine lv_iconst (v := 0) hC.1 hC.2.1 dX12_bill_232 (by decide) ?_
      refine lv_istore (lv' := [(6, .int 0), (0, .ref (aM 0)), (2, .int x2), (4, .int x4), (5, .int x5)]) hC.1 hC.2.1 dX12_bill_233 hl (by decide) rfl (fun ls hl => ?_)
      refine lv_iconst (v := 1) hC.1 hC.2.1 dX12_bill_235 (by decide) ?_
      refine lv_istore (lv' := [(7, .int 1), (6, .int 0), (0, .ref (aM 0)), (2, .int x2), (4, .int x4), (5, .int x5)]) hC.1 hC.2.1 dX12_bill_236 hl (by decide) rfl (fun ls hl => ?_)
      exact t12_bill_238 hC ih _ _ _ _ _ _ _ _ _ _ _ hf hW (lv_sub hl [2, 3, 4, 5, 1, 0] rfl)
set_option maxRecDepth 100000 in
set_option maxHeartbeats 4000000 in
theorem t12_bill_159 (hC : Cx p s m args meth c cX12_bill 8 wsX12_bill RX12 (some .int)) : ∀ n : Nat, ∀ (x1 : Int32) (x2 : Int32) (x3 : Int32) (x4 : Int32) (x5 : Int32) (SM : Ob) (res : Int32 × Ob) (H : Heap) (locs : List Loc) (ls : Array Slot), f12_bill_159 n x1 x2 x3 x4 x5 SM = some res → GW D cy ad (w12 cy aM SM) A s H locs → lv_has ls 8 [(0, .ref (aM 0)), (1, .int x1), (2, .int x2), (3, .int x3), (4, .int x4), (5, .int x5)] → W p l e rm12_bill s m args below meth c H locs 0 0 (MQ below (QI D cy (w12 cy aM (res.2)) A (res.1)) args s 0 0 A) (F0 m 159 ls []) := by
  intro n
  induction n with
  | zero =>
    intro _ _ _ _ _ _ _ _ _ _ hf _ _
    exact nomatch (show (none : Option (Int32 × Ob)) = some _ from hf)
  | succ n ih =>
    intro x1 x2 x3 x4 x5 SM res H locs ls hf hW hl
    rw [f12_bill_159] at hf
    refine lv_iload hC.1 hC.2.1 dX12_bill_159 (lv_at hl 5 rfl) ?_
    refine lv_aload_n hC.1 hC.2.1 dX12_bill_161 rfl (lv_at hl 0 rfl) ?_
    obtain ⟨r_1, hg_2, hf⟩ := bd_of hf
    refine g_calliV hC hW (c12_guests l D cy ad aM hg_2) (cwV 0 hC.2.2.2.2.1 gX12_bill_X12_guests rfl rfl rfl hdV12_guests ⟨Nat.le_of_ble_eq_true rfl, Nat.le_of_ble_eq_true rfl⟩) (Sub.all _ _) 0 11 rfl rfl rfl rfl hl.1 rfl (Nat.le_of_ble_eq_true rfl) dX12_bill_162 ⟨Nat.zero_le _, Nat.zero_le _⟩ (fun H locs hW => ?_)
    refine lv_icmp_ge (tgt := 222) hC.1 hC.2.1 dX12_bill_165 (by decide) (fun hc_3 => ?_) (fun hc_3 => ?_)
    · have hf := ite_t hf hc_3
      refine lv_iconst (v := 0) hC.1 hC.2.1 dX12_bill_222 (by decide) ?_
      refine lv_istore (lv' := [(5, .int 0), (0, .ref (aM 0)), (1, .int x1), (2, .int x2), (3, .int x3), (4, .int x4)]) hC.1 hC.2.1 dX12_bill_223 hl (by decide) rfl (fun ls hl => ?_)
      exact t12_bill_225 hC _ _ _ _ _ _ _ _ _ hf hW (lv_sub hl [1, 3, 5, 0] rfl)
    · have hf := ite_f hf hc_3
      refine lv_aload_n hC.1 hC.2.1 dX12_bill_168 rfl (lv_at hl 0 rfl) ?_
      refine g_get hC hW hin12_bill_12 0 rfl rfl 34 (by decide) 5 rfl rfl dX12_bill_169 ?_
      refine lv_iload hC.1 hC.2.1 dX12_bill_172 (lv_at hl 5 rfl) ?_
      refine lv_iload_n hC.1 hC.2.1 dX12_bill_174 rfl (lv_at hl 1 rfl) ?_
      refine lv_aload_n hC.1 hC.2.1 dX12_bill_175 rfl (lv_at hl 0 rfl) ?_
      refine g_get hC hW hin12_bill_12 0 rfl rfl 33 (by decide) 4 rfl rfl dX12_bill_176 ?_
      refine lv_iload hC.1 hC.2.1 dX12_bill_179 (lv_at hl 5 rfl) ?_
      obtain ⟨hi_4, hf⟩ := ck_of hf
      refine g_iald hC hW 23 rfl hi_4 dX12_bill_181 ?_
      refine lv_imul hC.1 hC.2.1 dX12_bill_182 ?_
      refine lv_iload_n hC.1 hC.2.1 dX12_bill_183 rfl (lv_at hl 3 rfl) ?_
      obtain ⟨hz_5, hf⟩ := ck_of hf
      refine lv_irem hC.1 hC.2.1 dX12_bill_184 (nz_of hz_5) ?_
      obtain ⟨hi_6, hf⟩ := ck_of hf
      obtain ⟨SM_7, eSM_7⟩ : ∃ y : Ob, y = oA SM 34 (Int32.toNatClampNeg x5) ((x1 * (SM.2.2.1 33 (Int32.toNatClampNeg x5))) - (x1 * (SM.2.2.1 33 (Int32.toNatClampNeg x5))) / x3 * x3) := ⟨_, rfl⟩
      have hf := lt_nm hf eSM_7
      refine g_iast hC hW 24 rfl hi_6 (w' := w12 cy aM SM_7) (by rw [eSM_7]; rfl) dX12_bill_185 (fun H locs hW => ?_)
      refine lv_aload_n hC.1 hC.2.1 dX12_bill_186 rfl (lv_at hl 0 rfl) ?_
      refine g_get hC hW hin12_bill_12 0 rfl rfl 33 (by decide) 4 rfl rfl dX12_bill_187 ?_
      refine lv_iload hC.1 hC.2.1 dX12_bill_190 (lv_at hl 5 rfl) ?_
      refine lv_iload_n hC.1 hC.2.1 dX12_bill_192 rfl (lv_at hl 1 rfl) ?_
      refine lv_aload_n hC.1 hC.2.1 dX12_bill_193 rfl (lv_at hl 0 rfl) ?_
      refine g_get hC hW hin12_bill_12 0 rfl rfl 33 (by decide) 4 rfl rfl dX12_bill_194 ?_
      refine lv_iload hC.1 hC.2.1 dX12_bill_197 (lv_at hl 5 rfl) ?_
      obtain ⟨hi_8, hf⟩ := ck_of hf
      refine g_iald hC hW 23 rfl hi_8 dX12_bill_199 ?_
      refine lv_imul hC.1 hC.2.1 dX12_bill_200 ?_
      refine lv_iload_n hC.1 hC.2.1 dX12_bill_201 rfl (lv_at hl 3 rfl) ?_
      obtain ⟨hz_9, hf⟩ := ck_of hf
      refine lv_idiv hC.1 hC.2.1 dX12_bill_202 (nz_of hz_9) ?_
      obtain ⟨hi_10, hf⟩ := ck_of hf
      obtain ⟨SM_11, eSM_11⟩ : ∃ y : Ob, y = oA SM_7 33 (Int32.toNatClampNeg x5) ((x1 * (SM_7.2.2.1 33 (Int32.toNatClampNeg x5))) / x3) := ⟨_, rfl⟩
      have hf := lt_nm hf eSM_11
      refine g_iast hC hW 23 rfl hi_10 (w' := w12 cy aM SM_11) (by rw [eSM_11]; rfl) dX12_bill_203 (fun H locs hW => ?_)
      refine lv_iload hC.1 hC.2.1 dX12_bill_204 (lv_at hl 4 rfl) ?_
      refine lv_aload_n hC.1 hC.2.1 dX12_bill_206 rfl (lv_at hl 0 rfl) ?_
      refine g_get hC hW hin12_bill_12 0 rfl rfl 33 (by decide) 4 rfl rfl dX12_bill_207 ?_
      refine lv_iload hC.1 hC.2.1 dX12_bill_210 (lv_at hl 5 rfl) ?_
      obtain ⟨hi_12, hf⟩ := ck_of hf
      refine g_iald hC hW 23 rfl hi_12 dX12_bill_212 ?_
      refine lv_isub hC.1 hC.2.1 dX12_bill_213 ?_
      refine lv_topi (fun x4_13 ex4_13 => ?_)
      have hf := lt_nm hf ex4_13
      refine lv_istore (lv' := [(4, .int x4_13), (0, .ref (aM 0)), (1, .int x1), (2, .int x2), (3, .int x3), (5, .int x5)]) hC.1 hC.2.1 dX12_bill_214 hl (by decide) rfl (fun ls hl => ?_)
      obtain ⟨x5_14, ex5_14⟩ : ∃ y : Int32, y = x5 + 1 := ⟨_, rfl⟩
      have hf := lt_nm hf ex5_14
      refine lv_iinc (v := x5_14) (lv' := [(5, .int x5_14), (4, .int x4_13), (0, .ref (aM 0)), (1, .int x1), (2, .int x2), (3, .int x3)]) hC.1 hC.2.1 dX12_bill_216 hl (k := 5) rfl (by rw [ex5_14]; rfl) (by decide) rfl (fun ls hl => ?_)
      refine lv_goto (tgt := 159) hC.1 hC.2.1 dX12_bill_219 (by decide) ?_
      exact ih _ _ _ _ _ _ _ _ _ _ hf hW (lv_sub hl [2, 3, 4, 5, 1, 0] rfl)
set_option maxRecDepth 100000 in
set_option maxHeartbeats 4000000 in
theorem t12_bill_31 (hC : Cx p s m args meth c cX12_bill 8 wsX12_bill RX12 (some .int)) : ∀ n : Nat, ∀ (x1 : Int32) (x2 : Int32) (x3 : Int32) (x4 : Int32) (SM : Ob) (res : Int32 × Ob) (H : Heap) (locs : List Loc) (ls : Array Slot), f12_bill_31 n x1 x2 x3 x4 SM = some res → GW D cy ad (w12 cy aM SM) A s H locs → lv_has ls 8 [(0, .ref (aM 0)), (1, .int x1), (2, .int x2), (3, .int x3), (4, .int x4)] → W p l e rm12_bill s m args below meth c H locs 0 0 (MQ below (QI D cy (w12 cy aM (res.2)) A (res.1)) args s 0 0 A) (F0 m 31 ls []) := by
  intro n
  induction n with
  | zero =>
    intro _ _ _ _ _ _ _ _ _ hf _ _
    exact nomatch (show (none : Option (Int32 × Ob)) = some _ from hf)
  | succ n ih =>
    intro x1 x2 x3 x4 SM res H locs ls hf hW hl
    rw [f12_bill_31] at hf
    refine lv_iload hC.1 hC.2.1 dX12_bill_31 (lv_at hl 4 rfl) ?_
    refine lv_aload_n hC.1 hC.2.1 dX12_bill_33 rfl (lv_at hl 0 rfl) ?_
    obtain ⟨r_1, hg_2, hf⟩ := bd_of hf
    refine g_calliV hC hW (c12_guests l D cy ad aM hg_2) (cwV 0 hC.2.2.2.2.1 gX12_bill_X12_guests rfl rfl rfl hdV12_guests ⟨Nat.le_of_ble_eq_true rfl, Nat.le_of_ble_eq_true rfl⟩) (Sub.all _ _) 0 11 rfl rfl rfl rfl hl.1 rfl (Nat.le_of_ble_eq_true rfl) dX12_bill_34 ⟨Nat.zero_le _, Nat.zero_le _⟩ (fun H locs hW => ?_)
    refine lv_icmp_ge (tgt := 147) hC.1 hC.2.1 dX12_bill_37 (by decide) (fun hc_3 => ?_) (fun hc_3 => ?_)
    · have hf := ite_t hf hc_3
      refine lv_iload_n hC.1 hC.2.1 dX12_bill_147 rfl (lv_at hl 3 rfl) ?_
      refine lv_if_ne (tgt := 153) hC.1 hC.2.1 dX12_bill_148 (by decide) (fun hc_4 => ?_) (fun hc_4 => ?_)
      · have hf := ite_f hf hc_4
        refine lv_iload_n hC.1 hC.2.1 dX12_bill_153 rfl (lv_at hl 1 rfl) ?_
        refine lv_istore (lv' := [(4, .int x1), (0, .ref (aM 0)), (1, .int x1), (2, .int x2), (3, .int x3)]) hC.1 hC.2.1 dX12_bill_154 hl (by decide) rfl (fun ls hl => ?_)
        refine lv_iconst (v := 0) hC.1 hC.2.1 dX12_bill_156 (by decide) ?_
        refine lv_istore (lv' := [(5, .int 0), (4, .int x1), (0, .ref (aM 0)), (1, .int x1), (2, .int x2), (3, .int x3)]) hC.1 hC.2.1 dX12_bill_157 hl (by decide) rfl (fun ls hl => ?_)
        exact t12_bill_159 hC _ _ _ _ _ _ _ _ _ _ _ hf hW (lv_sub hl [2, 3, 4, 5, 1, 0] rfl)
      · have hf := ite_t hf hc_4
        refine lv_iconst (v := 0) hC.1 hC.2.1 dX12_bill_151 (by decide) ?_
        obtain rfl := Option.some.inj hf
        exact g_iret hC hW dX12_bill_152
    · have hf := ite_f hf hc_3
      refine lv_aload_n hC.1 hC.2.1 dX12_bill_40 rfl (lv_at hl 0 rfl) ?_
      refine g_get hC hW hin12_bill_12 0 rfl rfl 23 (by decide) 2 rfl rfl dX12_bill_41 ?_
      refine lv_iconst (v := 0) hC.1 hC.2.1 dX12_bill_44 (by decide) ?_
      refine lv_aload_n hC.1 hC.2.1 dX12_bill_45 rfl (lv_at hl 0 rfl) ?_
      refine lv_iload hC.1 hC.2.1 dX12_bill_46 (lv_at hl 4 rfl) ?_
      refine lv_iconst (v := 1) hC.1 hC.2.1 dX12_bill_48 (by decide) ?_
      obtain ⟨r_5, hg_6, hf⟩ := bd_of hf
      refine g_calliV hC hW (c12_guestOf l D cy ad aM hg_6) (cwV 2 hC.2.2.2.2.1 gX12_bill_X12_guestOf rfl rfl rfl hdV12_guestOf ⟨Nat.le_of_ble_eq_true rfl, Nat.le_of_ble_eq_true rfl⟩) (Sub.all _ _) 0 11 rfl rfl rfl rfl hl.1 rfl (Nat.le_of_ble_eq_true rfl) dX12_bill_49 ⟨Nat.zero_le _, Nat.zero_le _⟩ (fun H locs hW => ?_)
      obtain ⟨hi_7, hf⟩ := ck_of hf
      obtain ⟨SM_8, eSM_8⟩ : ∃ y : Ob, y = oA SM 23 (Int32.toNatClampNeg 0) r_5 := ⟨_, rfl⟩
      have hf := lt_nm hf eSM_8
      refine g_iast hC hW 14 rfl hi_7 (w' := w12 cy aM SM_8) (by rw [eSM_8]; rfl) dX12_bill_52 (fun H locs hW => ?_)
      refine lv_aload_n hC.1 hC.2.1 dX12_bill_53 rfl (lv_at hl 0 rfl) ?_
      refine g_get hC hW hin12_bill_12 0 rfl rfl 23 (by decide) 2 rfl rfl dX12_bill_54 ?_
      refine lv_iconst (v := 1) hC.1 hC.2.1 dX12_bill_57 (by decide) ?_
      refine lv_aload_n hC.1 hC.2.1 dX12_bill_58 rfl (lv_at hl 0 rfl) ?_
      refine lv_iload hC.1 hC.2.1 dX12_bill_59 (lv_at hl 4 rfl) ?_
      refine lv_iconst (v := 2) hC.1 hC.2.1 dX12_bill_61 (by decide) ?_
      obtain ⟨r_9, hg_10, hf⟩ := bd_of hf
      refine g_calliV hC hW (c12_guestOf l D cy ad aM hg_10) (cwV 2 hC.2.2.2.2.1 gX12_bill_X12_guestOf rfl rfl rfl hdV12_guestOf ⟨Nat.le_of_ble_eq_true rfl, Nat.le_of_ble_eq_true rfl⟩) (Sub.all _ _) 0 11 rfl rfl rfl rfl hl.1 rfl (Nat.le_of_ble_eq_true rfl) dX12_bill_62 ⟨Nat.zero_le _, Nat.zero_le _⟩ (fun H locs hW => ?_)
      obtain ⟨hi_11, hf⟩ := ck_of hf
      obtain ⟨SM_12, eSM_12⟩ : ∃ y : Ob, y = oA SM_8 23 (Int32.toNatClampNeg 1) r_9 := ⟨_, rfl⟩
      have hf := lt_nm hf eSM_12
      refine g_iast hC hW 14 rfl hi_11 (w' := w12 cy aM SM_12) (by rw [eSM_12]; rfl) dX12_bill_65 (fun H locs hW => ?_)
      refine lv_aload_n hC.1 hC.2.1 dX12_bill_66 rfl (lv_at hl 0 rfl) ?_
      refine g_get hC hW hin12_bill_12 0 rfl rfl 23 (by decide) 2 rfl rfl dX12_bill_67 ?_
      refine lv_iconst (v := 2) hC.1 hC.2.1 dX12_bill_70 (by decide) ?_
      refine lv_aload_n hC.1 hC.2.1 dX12_bill_71 rfl (lv_at hl 0 rfl) ?_
      obtain ⟨r_13, hg_14, hf⟩ := bd_of hf
      refine g_calliV hC hW (c12_guests l D cy ad aM hg_14) (cwV 0 hC.2.2.2.2.1 gX12_bill_X12_guests rfl rfl rfl hdV12_guests ⟨Nat.le_of_ble_eq_true rfl, Nat.le_of_ble_eq_true rfl⟩) (Sub.all _ _) 0 11 rfl rfl rfl rfl hl.1 rfl (Nat.le_of_ble_eq_true rfl) dX12_bill_72 ⟨Nat.zero_le _, Nat.zero_le _⟩ (fun H locs hW => ?_)
      obtain ⟨hi_15, hf⟩ := ck_of hf
      obtain ⟨SM_16, eSM_16⟩ : ∃ y : Ob, y = oA SM_12 23 (Int32.toNatClampNeg 2) r_13 := ⟨_, rfl⟩
      have hf := lt_nm hf eSM_16
      refine g_iast hC hW 14 rfl hi_15 (w' := w12 cy aM SM_16) (by rw [eSM_16]; rfl) dX12_bill_75 (fun H locs hW => ?_)
      refine lv_aload_n hC.1 hC.2.1 dX12_bill_76 rfl (lv_at hl 0 rfl) ?_
      refine g_get hC hW hin12_bill_12 0 rfl rfl 10 (by decide) 3 rfl rfl dX12_bill_77 ?_
      refine lv_iconst (v := 2) hC.1 hC.2.1 dX12_bill_80 (by decide) ?_
      obtain ⟨hi_17, hf⟩ := ck_of hf
      refine g_iald hC hW 6 rfl hi_17 dX12_bill_81 ?_
      refine lv_if_ge (tgt := 89) hC.1 hC.2.1 dX12_bill_82 (by decide) (fun hc_18 => ?_) (fun hc_18 => ?_)
      · have hf := ite_t hf hc_18
        refine lv_aload_n hC.1 hC.2.1 dX12_bill_89 rfl (lv_at hl 0 rfl) ?_
        refine lv_aload_n hC.1 hC.2.1 dX12_bill_90 rfl (lv_at hl 0 rfl) ?_
        refine g_get hC hW hin12_bill_12 0 rfl rfl 10 (by decide) 3 rfl rfl dX12_bill_91 ?_
        refine lv_iconst (v := 2) hC.1 hC.2.1 dX12_bill_94 (by decide) ?_
        obtain ⟨hi_19, hf⟩ := ck_of hf
        refine g_iald hC hW 6 rfl hi_19 dX12_bill_95 ?_
        obtain ⟨r_20, hg_21, hf⟩ := bd_of hf
        refine g_calliV hC hW (c12_worthAt l D cy ad aM hg_21) (cwV 1 hC.2.2.2.2.1 gX12_bill_X12_worthAt rfl rfl rfl hdV12_worthAt ⟨Nat.le_of_ble_eq_true rfl, Nat.le_of_ble_eq_true rfl⟩) (Sub.all _ _) 0 11 rfl rfl rfl rfl hl.1 rfl (Nat.le_of_ble_eq_true rfl) dX12_bill_96 ⟨Nat.zero_le _, Nat.zero_le _⟩ (fun H locs hW => ?_)
        exact t12_bill_99 hC ih  _ _ _ _ _ _ _ _ _ _ hf hW (lv_sub hl [0, 1, 2, 3, 4] rfl)
      · have hf := ite_f hf hc_18
        refine lv_iconst (v := 1) hC.1 hC.2.1 dX12_bill_85 (by decide) ?_
        refine lv_goto (tgt := 99) hC.1 hC.2.1 dX12_bill_86 (by decide) ?_
        exact t12_bill_99 hC ih  _ _ _ _ _ _ _ _ _ _ hf hW (lv_sub hl [0, 1, 2, 3, 4] rfl)
set_option maxRecDepth 100000 in
set_option maxHeartbeats 4000000 in
theorem t12_bill_0 (hC : Cx p s m args meth c cX12_bill 8 wsX12_bill RX12 (some .int)) : ∀ (x1 : Int32) (x2 : Int32) (SM : Ob) (res : Int32 × Ob) (H : Heap) (locs : List Loc) (ls : Array Slot), f12_bill x1 x2 SM = some res → GW D cy ad (w12 cy aM SM) A s H locs → lv_has ls 8 [(0, .ref (aM 0)), (1, .int x1), (2, .int x2)] → W p l e rm12_bill s m args below meth c H locs 0 0 (MQ below (QI D cy (w12 cy aM (res.2)) A (res.1)) args s 0 0 A) (F0 m 0 ls []) := by
  intro x1 x2 SM res H locs ls hf hW hl
  unfold f12_bill at hf
  refine lv_aload_n hC.1 hC.2.1 dX12_bill_0 rfl (lv_at hl 0 rfl) ?_
  refine lv_iconst (v := 0) hC.1 hC.2.1 dX12_bill_1 (by decide) ?_
  obtain ⟨SM_1, eSM_1⟩ : ∃ y : Ob, y = oI SM 0 0 := ⟨_, rfl⟩
  have hf := lt_nm hf eSM_1
  refine g_put hC hW hin12_bill_12 tyX12 tyX12_ok nmX12 0 rfl rfl 0 (by decide) 1 rfl rfl rfl rfl (Nat.le_of_ble_eq_true rfl) (w' := w12 cy aM SM_1) (by rw [eSM_1]; rfl) dX12_bill_2 (fun H locs hW => ?_)
  refine lv_aload_n hC.1 hC.2.1 dX12_bill_5 rfl (lv_at hl 0 rfl) ?_
  refine lv_iload_n hC.1 hC.2.1 dX12_bill_6 rfl (lv_at hl 2 rfl) ?_
  obtain ⟨r_2, hg_3, hf⟩ := bd_of hf
  refine g_calliV hC hW (c12_isGuest l D cy ad aM hg_3) (cwV 1 hC.2.2.2.2.1 gX12_bill_X12_isGuest rfl rfl rfl hdV12_isGuest ⟨Nat.le_of_ble_eq_true rfl, Nat.le_of_ble_eq_true rfl⟩) (Sub.all _ _) 0 11 rfl rfl rfl rfl hl.1 rfl (Nat.le_of_ble_eq_true rfl) dX12_bill_7 ⟨Nat.zero_le _, Nat.zero_le _⟩ (fun H locs hW => ?_)
  refine lv_if_eq (tgt := 24) hC.1 hC.2.1 dX12_bill_10 (by decide) (fun hc_4 => ?_) (fun hc_4 => ?_)
  · have hf := ite_t hf hc_4
    exact t12_bill_24 hC  _ _ _ _ _ hf hW (lv_sub hl [] rfl)
  · have hf := ite_f hf hc_4
    refine lv_iload_n hC.1 hC.2.1 dX12_bill_13 rfl (lv_at hl 1 rfl) ?_
    refine lv_iconst (v := 0) hC.1 hC.2.1 dX12_bill_14 (by decide) ?_
    refine lv_sipush (v := 9999) hC.1 hC.2.1 dX12_bill_15 (by decide) ?_
    obtain ⟨r_5, hg_6, hf⟩ := bd_of hf
    refine g_calliS hC hW (c12_within l D cy ad  hg_6) (va_cwS 3 hC.2.2.2.2.1 gX12_bill_X12_within rfl rfl rfl hdS12_within ⟨Nat.le_of_ble_eq_true rfl, Nat.le_of_ble_eq_true rfl⟩) (Sub.nil _) rfl hl.1 rfl (Nat.le_of_ble_eq_true rfl) dX12_bill_18 ⟨Nat.zero_le _, Nat.zero_le _⟩ (fun H locs hW => ?_)
    refine lv_if_ne (tgt := 26) hC.1 hC.2.1 dX12_bill_21 (by decide) (fun hc_7 => ?_) (fun hc_7 => ?_)
    · have hf := ite_f hf hc_7
      refine lv_iconst (v := 0) hC.1 hC.2.1 dX12_bill_26 (by decide) ?_
      refine lv_istore_n (lv' := [(3, .int 0), (0, .ref (aM 0)), (1, .int x1), (2, .int x2)]) hC.1 hC.2.1 dX12_bill_27 rfl hl (by decide) rfl (fun ls hl => ?_)
      refine lv_iconst (v := 0) hC.1 hC.2.1 dX12_bill_28 (by decide) ?_
      refine lv_istore (lv' := [(4, .int 0), (3, .int 0), (0, .ref (aM 0)), (1, .int x1), (2, .int x2)]) hC.1 hC.2.1 dX12_bill_29 hl (by decide) rfl (fun ls hl => ?_)
      exact t12_bill_31 hC _ _ _ _ _ _ _ _ _ _ hf hW (lv_sub hl [2, 3, 4, 1, 0] rfl)
    · have hf := ite_t hf hc_7
      exact t12_bill_24 hC  _ _ _ _ _ hf hW (lv_sub hl [] rfl)
set_option maxRecDepth 100000 in
set_option maxHeartbeats 4000000 in
theorem c12_bill (l : Launch) (D : va_G) (cy : Nat → ClassId) (ad : Nat → Nat) (aM : Nat → Nat) {x1 : Int32} {x2 : Int32} {SM : Ob} {res : Int32 × Ob} (h : f12_bill x1 x2 SM = some res) : GCi l yX12_bill wsX12_bill rm12_bill [.ref (aM 0), .int x1, .int x2] D cy ad (w12 cy aM SM) (w12 cy aM (res.2)) (res.1) := fun sz => GC.start (own := RX12) (Qc := fun A => QI D cy (w12 cy aM (res.2)) A (res.1)) sz (by decide) rfl rfl (Nat.le_of_ble_eq_true rfl) (fun p e s m below meth c A ls hC hW hl => t12_bill_0 hC _ _ _ _ _ _ _ h hW (lv_sub hl [0, 1, 2] rfl))
abbrev rm12_mayLie : Room := { frames := 1, cells := 0, slots := 0, locals := 22 }
theorem hdV12_mayLie : yX12_mayLie.cls = RX12 ∧ (yX12_mayLie.cls ≠ "java/lang/invoke/MethodHandle" ∧ yX12_mayLie.cls ≠ "java/lang/invoke/VarHandle" ∧ (parseMethodDescriptor yX12_mayLie.desc).map (fun d => d.parameters.length) = some 2) := by decide +kernel
theorem hin12_mayLie_12 : ∀ x ∈ u_ws RX12 TX12 39, x ∈ wsX12_mayLie := fun _ h => List.mem_cons_of_mem _ (List.mem_append_right _ h)
set_option maxRecDepth 100000 in
set_option maxHeartbeats 4000000 in
theorem t12_mayLie_68 (hC : Cx p s m args meth c cX12_mayLie 6 wsX12_mayLie RX12 (some .boolean)) {k8 : Int32 → Int32 → Int32 → Int32 → Int32 → Ob → Option (Int32)} (hk8 : ∀ (x1 : Int32) (x2 : Int32) (x3 : Int32) (x4 : Int32) (x5 : Int32) (SM : Ob) (res : Int32) (H : Heap) (locs : List Loc) (ls : Array Slot), k8 x1 x2 x3 x4 x5 SM = some res → GW D cy ad (w12 cy aM SM) A s H locs → lv_has ls 6 [(0, .ref (aM 0)), (1, .int x1), (2, .int x2), (3, .int x3), (4, .int x4), (5, .int x5)] → W p l e rm12_mayLie s m args below meth c H locs 0 0 (MQ below (QI D cy (w12 cy aM SM) A res) args s 0 0 A) (F0 m 8 ls [])) : ∀ (x1 : Int32) (x2 : Int32) (x3 : Int32) (x5 : Int32) (z0 : Int32) (SM : Ob) (res : Int32) (H : Heap) (locs : List Loc) (ls : Array Slot), f12_mayLie_68 k8 x1 x2 x3 x5 z0 SM = some res → GW D cy ad (w12 cy aM SM) A s H locs → lv_has ls 6 [(0, .ref (aM 0)), (1, .int x1), (2, .int x2), (3, .int x3), (5, .int x5)] → W p l e rm12_mayLie s m args below meth c H locs 0 0 (MQ below (QI D cy (w12 cy aM SM) A res) args s 0 0 A) (F0 m 68 ls [.int z0]) := by
  intro x1 x2 x3 x5 z0 SM res H locs ls hf hW hl
  unfold f12_mayLie_68 at hf
  refine lv_istore (lv' := [(4, .int z0), (0, .ref (aM 0)), (1, .int x1), (2, .int x2), (3, .int x3), (5, .int x5)]) hC.1 hC.2.1 dX12_mayLie_68 hl (by decide) rfl (fun ls hl => ?_)
  obtain ⟨x5_1, ex5_1⟩ : ∃ y : Int32, y = x5 + 1 := ⟨_, rfl⟩
  have hf := lt_nm hf ex5_1
  refine lv_iinc (v := x5_1) (lv' := [(5, .int x5_1), (4, .int z0), (0, .ref (aM 0)), (1, .int x1), (2, .int x2), (3, .int x3)]) hC.1 hC.2.1 dX12_mayLie_70 hl (k := 5) rfl (by rw [ex5_1]; rfl) (by decide) rfl (fun ls hl => ?_)
  refine lv_goto (tgt := 8) hC.1 hC.2.1 dX12_mayLie_73 (by decide) ?_
  exact hk8 _ _ _ _ _ _ _ _ _ _ hf hW (lv_sub hl [2, 3, 4, 5, 1, 0] rfl)
set_option maxRecDepth 100000 in
set_option maxHeartbeats 4000000 in
theorem t12_mayLie_63 (hC : Cx p s m args meth c cX12_mayLie 6 wsX12_mayLie RX12 (some .boolean)) {k8 : Int32 → Int32 → Int32 → Int32 → Int32 → Ob → Option (Int32)} (hk8 : ∀ (x1 : Int32) (x2 : Int32) (x3 : Int32) (x4 : Int32) (x5 : Int32) (SM : Ob) (res : Int32) (H : Heap) (locs : List Loc) (ls : Array Slot), k8 x1 x2 x3 x4 x5 SM = some res → GW D cy ad (w12 cy aM SM) A s H locs → lv_has ls 6 [(0, .ref (aM 0)), (1, .int x1), (2, .int x2), (3, .int x3), (4, .int x4), (5, .int x5)] → W p l e rm12_mayLie s m args below meth c H locs 0 0 (MQ below (QI D cy (w12 cy aM SM) A res) args s 0 0 A) (F0 m 8 ls [])) : ∀ (x1 : Int32) (x2 : Int32) (x3 : Int32) (x5 : Int32) (SM : Ob) (res : Int32) (H : Heap) (locs : List Loc) (ls : Array Slot), f12_mayLie_63 k8 x1 x2 x3 x5 SM = some res → GW D cy ad (w12 cy aM SM) A s H locs → lv_has ls 6 [(0, .ref (aM 0)), (1, .int x1), (2, .int x2), (3, .int x3), (5, .int x5)] → W p l e rm12_mayLie s m args below meth c H locs 0 0 (MQ below (QI D cy (w12 cy aM SM) A res) args s 0 0 A) (F0 m 63 ls []) := by
  intro x1 x2 x3 x5 SM res H locs ls hf hW hl
  unfold f12_mayLie_63 at hf
  refine lv_iconst (v := 1) hC.1 hC.2.1 dX12_mayLie_63 (by decide) ?_
  refine lv_goto (tgt := 68) hC.1 hC.2.1 dX12_mayLie_64 (by decide) ?_
  exact t12_mayLie_68 hC hk8  _ _ _ _ _ _ _ _ _ _ hf hW (lv_sub hl [0, 1, 2, 3, 4] rfl)
set_option maxRecDepth 100000 in
set_option maxHeartbeats 4000000 in
theorem t12_mayLie_67 (hC : Cx p s m args meth c cX12_mayLie 6 wsX12_mayLie RX12 (some .boolean)) {k8 : Int32 → Int32 → Int32 → Int32 → Int32 → Ob → Option (Int32)} (hk8 : ∀ (x1 : Int32) (x2 : Int32) (x3 : Int32) (x4 : Int32) (x5 : Int32) (SM : Ob) (res : Int32) (H : Heap) (locs : List Loc) (ls : Array Slot), k8 x1 x2 x3 x4 x5 SM = some res → GW D cy ad (w12 cy aM SM) A s H locs → lv_has ls 6 [(0, .ref (aM 0)), (1, .int x1), (2, .int x2), (3, .int x3), (4, .int x4), (5, .int x5)] → W p l e rm12_mayLie s m args below meth c H locs 0 0 (MQ below (QI D cy (w12 cy aM SM) A res) args s 0 0 A) (F0 m 8 ls [])) : ∀ (x1 : Int32) (x2 : Int32) (x3 : Int32) (x5 : Int32) (SM : Ob) (res : Int32) (H : Heap) (locs : List Loc) (ls : Array Slot), f12_mayLie_67 k8 x1 x2 x3 x5 SM = some res → GW D cy ad (w12 cy aM SM) A s H locs → lv_has ls 6 [(0, .ref (aM 0)), (1, .int x1), (2, .int x2), (3, .int x3), (5, .int x5)] → W p l e rm12_mayLie s m args below meth c H locs 0 0 (MQ below (QI D cy (w12 cy aM SM) A res) args s 0 0 A) (F0 m 67 ls []) := by
  intro x1 x2 x3 x5 SM res H locs ls hf hW hl
  unfold f12_mayLie_67 at hf
  refine lv_iconst (v := 0) hC.1 hC.2.1 dX12_mayLie_67 (by decide) ?_
  exact t12_mayLie_68 hC hk8  _ _ _ _ _ _ _ _ _ _ hf hW (lv_sub hl [0, 1, 2, 3, 4] rfl)
set_option maxRecDepth 100000 in
set_option maxHeartbeats 4000000 in
theorem t12_mayLie_31 (hC : Cx p s m args meth c cX12_mayLie 6 wsX12_mayLie RX12 (some .boolean)) {k8 : Int32 → Int32 → Int32 → Int32 → Int32 → Ob → Option (Int32)} (hk8 : ∀ (x1 : Int32) (x2 : Int32) (x3 : Int32) (x4 : Int32) (x5 : Int32) (SM : Ob) (res : Int32) (H : Heap) (locs : List Loc) (ls : Array Slot), k8 x1 x2 x3 x4 x5 SM = some res → GW D cy ad (w12 cy aM SM) A s H locs → lv_has ls 6 [(0, .ref (aM 0)), (1, .int x1), (2, .int x2), (3, .int x3), (4, .int x4), (5, .int x5)] → W p l e rm12_mayLie s m args below meth c H locs 0 0 (MQ below (QI D cy (w12 cy aM SM) A res) args s 0 0 A) (F0 m 8 ls [])) : ∀ (x1 : Int32) (x2 : Int32) (x4 : Int32) (x5 : Int32) (z0 : Int32) (z1 : Int32) (SM : Ob) (res : Int32) (H : Heap) (locs : List Loc) (ls : Array Slot), f12_mayLie_31 k8 x1 x2 x4 x5 z0 z1 SM = some res → GW D cy ad (w12 cy aM SM) A s H locs → lv_has ls 6 [(0, .ref (aM 0)), (1, .int x1), (2, .int x2), (4, .int x4), (5, .int x5)] → W p l e rm12_mayLie s m args below meth c H locs 0 0 (MQ below (QI D cy (w12 cy aM SM) A res) args s 0 0 A) (F0 m 31 ls [.int z1, .int z0]) := by
  intro x1 x2 x4 x5 z0 z1 SM res H locs ls hf hW hl
  unfold f12_mayLie_31 at hf
  refine lv_iadd hC.1 hC.2.1 dX12_mayLie_31 ?_
  refine lv_topi (fun x3_1 ex3_1 => ?_)
  have hf := lt_nm hf ex3_1
  refine lv_istore_n (lv' := [(3, .int x3_1), (0, .ref (aM 0)), (1, .int x1), (2, .int x2), (4, .int x4), (5, .int x5)]) hC.1 hC.2.1 dX12_mayLie_32 rfl hl (by decide) rfl (fun ls hl => ?_)
  refine lv_iload hC.1 hC.2.1 dX12_mayLie_33 (lv_at hl 4 rfl) ?_
  refine lv_if_eq (tgt := 67) hC.1 hC.2.1 dX12_mayLie_35 (by decide) (fun hc_2 => ?_) (fun hc_2 => ?_)
  · have hf := ite_t hf hc_2
    exact t12_mayLie_67 hC hk8  _ _ _ _ _ _ _ _ _ hf hW (lv_sub hl [1, 2, 3, 0, 5] rfl)
  · have hf := ite_f hf hc_2
    refine lv_aload_n hC.1 hC.2.1 dX12_mayLie_38 rfl (lv_at hl 1 rfl) ?_
    refine g_get hC hW hin12_mayLie_12 0 rfl rfl 35 (by decide) 1 rfl rfl dX12_mayLie_39 ?_
    refine lv_iload hC.1 hC.2.1 dX12_mayLie_42 (lv_at hl 5 rfl) ?_
    obtain ⟨hi_3, hf⟩ := ck_of hf
    refine g_iald hC hW 25 rfl hi_3 dX12_mayLie_44 ?_
    refine lv_iload_n hC.1 hC.2.1 dX12_mayLie_45 rfl (lv_at hl 3 rfl) ?_
    refine lv_icmp_ne (tgt := 63) hC.1 hC.2.1 dX12_mayLie_46 (by decide) (fun hc_4 => ?_) (fun hc_4 => ?_)
    · have hf := ite_f hf hc_4
      exact t12_mayLie_63 hC hk8  _ _ _ _ _ _ _ _ _ hf hW (lv_sub hl [1, 2, 3, 0, 5] rfl)
    · have hf := ite_t hf hc_4
      refine lv_aload_n hC.1 hC.2.1 dX12_mayLie_49 rfl (lv_at hl 1 rfl) ?_
      refine lv_iload_n hC.1 hC.2.1 dX12_mayLie_50 rfl (lv_at hl 2 rfl) ?_
      refine lv_iconst (v := 4) hC.1 hC.2.1 dX12_mayLie_51 (by decide) ?_
      obtain ⟨r_5, hg_6, hf⟩ := bd_of hf
      refine g_calliV hC hW (c12_guestOf l D cy ad aM hg_6) (cwV 2 hC.2.2.2.2.1 gX12_mayLie_X12_guestOf rfl rfl rfl hdV12_guestOf ⟨Nat.le_of_ble_eq_true rfl, Nat.le_of_ble_eq_true rfl⟩) (Sub.all _ _) 0 11 rfl rfl rfl rfl hl.1 rfl (Nat.le_of_ble_eq_true rfl) dX12_mayLie_52 ⟨Nat.zero_le _, Nat.zero_le _⟩ (fun H locs hW => ?_)
      refine lv_iload hC.1 hC.2.1 dX12_mayLie_55 (lv_at hl 5 rfl) ?_
      obtain ⟨r_7, hg_8, hf⟩ := bd_of hf
      refine g_calliS hC hW (c12_isIn l D cy ad  hg_8) (va_cwS 2 hC.2.2.2.2.1 gX12_mayLie_X12_isIn rfl rfl rfl hdS12_isIn ⟨Nat.le_of_ble_eq_true rfl, Nat.le_of_ble_eq_true rfl⟩) (Sub.nil _) rfl hl.1 rfl (Nat.le_of_ble_eq_true rfl) dX12_mayLie_57 ⟨Nat.zero_le _, Nat.zero_le _⟩ (fun H locs hW => ?_)
      refine lv_if_ne (tgt := 67) hC.1 hC.2.1 dX12_mayLie_60 (by decide) (fun hc_9 => ?_) (fun hc_9 => ?_)
      · have hf := ite_f hf hc_9
        exact t12_mayLie_67 hC hk8  _ _ _ _ _ _ _ _ _ hf hW (lv_sub hl [1, 2, 3, 0, 5] rfl)
      · have hf := ite_t hf hc_9
        exact t12_mayLie_63 hC hk8  _ _ _ _ _ _ _ _ _ hf hW (lv_sub hl [1, 2, 3, 0, 5] rfl)
set_option maxRecDepth 100000 in
set_option maxHeartbeats 4000000 in
theorem t12_mayLie_91 (hC : Cx p s m args meth c cX12_mayLie 6 wsX12_mayLie RX12 (some .boolean)) : ∀ (z0 : Int32) (SM : Ob) (res : Int32) (H : Heap) (locs : List Loc) (ls : Array Slot), f12_mayLie_91 z0 SM = some res → GW D cy ad (w12 cy aM SM) A s H locs → lv_has ls 6 [] → W p l e rm12_mayLie s m args below meth c H locs 0 0 (MQ below (QI D cy (w12 cy aM SM) A res) args s 0 0 A) (F0 m 91 ls [.int z0]) := by
  intro z0 SM res H locs ls hf hW hl
  unfold f12_mayLie_91 at hf
  obtain ⟨hz, hf⟩ := ck_of hf
  obtain rfl := Option.some.inj hf
  exact g_zret hC hW hz dX12_mayLie_91
set_option maxRecDepth 100000 in
set_option maxHeartbeats 4000000 in
theorem t12_mayLie_90 (hC : Cx p s m args meth c cX12_mayLie 6 wsX12_mayLie RX12 (some .boolean)) : ∀ (SM : Ob) (res : Int32) (H : Heap) (locs : List Loc) (ls : Array Slot), f12_mayLie_90 SM = some res → GW D cy ad (w12 cy aM SM) A s H locs → lv_has ls 6 [] → W p l e rm12_mayLie s m args below meth c H locs 0 0 (MQ below (QI D cy (w12 cy aM SM) A res) args s 0 0 A) (F0 m 90 ls []) := by
  intro SM res H locs ls hf hW hl
  unfold f12_mayLie_90 at hf
  refine lv_iconst (v := 0) hC.1 hC.2.1 dX12_mayLie_90 (by decide) ?_
  exact t12_mayLie_91 hC  _ _ _ _ _ _ hf hW (lv_sub hl [] rfl)
set_option maxRecDepth 100000 in
set_option maxHeartbeats 4000000 in
theorem t12_mayLie_8 (hC : Cx p s m args meth c cX12_mayLie 6 wsX12_mayLie RX12 (some .boolean)) : ∀ n : Nat, ∀ (x1 : Int32) (x2 : Int32) (x3 : Int32) (x4 : Int32) (x5 : Int32) (SM : Ob) (res : Int32) (H : Heap) (locs : List Loc) (ls : Array Slot), f12_mayLie_8 n x1 x2 x3 x4 x5 SM = some res → GW D cy ad (w12 cy aM SM) A s H locs → lv_has ls 6 [(0, .ref (aM 0)), (1, .int x1), (2, .int x2), (3, .int x3), (4, .int x4), (5, .int x5)] → W p l e rm12_mayLie s m args below meth c H locs 0 0 (MQ below (QI D cy (w12 cy aM SM) A res) args s 0 0 A) (F0 m 8 ls []) := by
  intro n
  induction n with
  | zero =>
    intro _ _ _ _ _ _ _ _ _ _ hf _ _
    exact nomatch (show (none : Option (Int32)) = some _ from hf)
  | succ n ih =>
    intro x1 x2 x3 x4 x5 SM res H locs ls hf hW hl
    rw [f12_mayLie_8] at hf
    refine lv_iload hC.1 hC.2.1 dX12_mayLie_8 (lv_at hl 5 rfl) ?_
    refine lv_iload_n hC.1 hC.2.1 dX12_mayLie_10 rfl (lv_at hl 1 rfl) ?_
    refine lv_icmp_ge (tgt := 76) hC.1 hC.2.1 dX12_mayLie_11 (by decide) (fun hc_1 => ?_) (fun hc_1 => ?_)
    · have hf := ite_t hf hc_1
      refine lv_iload hC.1 hC.2.1 dX12_mayLie_76 (lv_at hl 4 rfl) ?_
      refine lv_if_eq (tgt := 90) hC.1 hC.2.1 dX12_mayLie_78 (by decide) (fun hc_2 => ?_) (fun hc_2 => ?_)
      · have hf := ite_t hf hc_2
        exact t12_mayLie_90 hC  _ _ _ _ _ hf hW (lv_sub hl [] rfl)
      · have hf := ite_f hf hc_2
        refine lv_iload_n hC.1 hC.2.1 dX12_mayLie_81 rfl (lv_at hl 3 rfl) ?_
        refine lv_iconst (v := 3) hC.1 hC.2.1 dX12_mayLie_82 (by decide) ?_
        refine lv_icmp_ge (tgt := 90) hC.1 hC.2.1 dX12_mayLie_83 (by decide) (fun hc_3 => ?_) (fun hc_3 => ?_)
        · have hf := ite_t hf hc_3
          exact t12_mayLie_90 hC  _ _ _ _ _ hf hW (lv_sub hl [] rfl)
        · have hf := ite_f hf hc_3
          refine lv_iconst (v := 1) hC.1 hC.2.1 dX12_mayLie_86 (by decide) ?_
          refine lv_goto (tgt := 91) hC.1 hC.2.1 dX12_mayLie_87 (by decide) ?_
          exact t12_mayLie_91 hC  _ _ _ _ _ _ hf hW (lv_sub hl [] rfl)
    · have hf := ite_f hf hc_1
      refine lv_iload_n hC.1 hC.2.1 dX12_mayLie_14 rfl (lv_at hl 3 rfl) ?_
      refine lv_aload_n hC.1 hC.2.1 dX12_mayLie_15 rfl (lv_at hl 0 rfl) ?_
      refine g_get hC hW hin12_mayLie_12 0 rfl rfl 35 (by decide) 1 rfl rfl dX12_mayLie_16 ?_
      refine lv_iload hC.1 hC.2.1 dX12_mayLie_19 (lv_at hl 5 rfl) ?_
      obtain ⟨hi_4, hf⟩ := ck_of hf
      refine g_iald hC hW 25 rfl hi_4 dX12_mayLie_21 ?_
      refine lv_iload_n hC.1 hC.2.1 dX12_mayLie_22 rfl (lv_at hl 2 rfl) ?_
      refine lv_icmp_ne (tgt := 30) hC.1 hC.2.1 dX12_mayLie_23 (by decide) (fun hc_5 => ?_) (fun hc_5 => ?_)
      · have hf := ite_f hf hc_5
        refine lv_iconst (v := 0) hC.1 hC.2.1 dX12_mayLie_30 (by decide) ?_
        exact t12_mayLie_31 hC ih  _ _ _ _ _ _ _ _ _ _ _ hf hW (lv_sub hl [0, 1, 2, 4, 5] rfl)
      · have hf := ite_t hf hc_5
        refine lv_iconst (v := 1) hC.1 hC.2.1 dX12_mayLie_26 (by decide) ?_
        refine lv_goto (tgt := 31) hC.1 hC.2.1 dX12_mayLie_27 (by decide) ?_
        exact t12_mayLie_31 hC ih  _ _ _ _ _ _ _ _ _ _ _ hf hW (lv_sub hl [0, 1, 2, 4, 5] rfl)
set_option maxRecDepth 100000 in
set_option maxHeartbeats 4000000 in
theorem t12_mayLie_0 (hC : Cx p s m args meth c cX12_mayLie 6 wsX12_mayLie RX12 (some .boolean)) : ∀ (x1 : Int32) (x2 : Int32) (SM : Ob) (res : Int32) (H : Heap) (locs : List Loc) (ls : Array Slot), f12_mayLie x1 x2 SM = some res → GW D cy ad (w12 cy aM SM) A s H locs → lv_has ls 6 [(0, .ref (aM 0)), (1, .int x1), (2, .int x2)] → W p l e rm12_mayLie s m args below meth c H locs 0 0 (MQ below (QI D cy (w12 cy aM SM) A res) args s 0 0 A) (F0 m 0 ls []) := by
  intro x1 x2 SM res H locs ls hf hW hl
  unfold f12_mayLie at hf
  refine lv_iconst (v := 0) hC.1 hC.2.1 dX12_mayLie_0 (by decide) ?_
  refine lv_istore_n (lv' := [(3, .int 0), (0, .ref (aM 0)), (1, .int x1), (2, .int x2)]) hC.1 hC.2.1 dX12_mayLie_1 rfl hl (by decide) rfl (fun ls hl => ?_)
  refine lv_iconst (v := 1) hC.1 hC.2.1 dX12_mayLie_2 (by decide) ?_
  refine lv_istore (lv' := [(4, .int 1), (3, .int 0), (0, .ref (aM 0)), (1, .int x1), (2, .int x2)]) hC.1 hC.2.1 dX12_mayLie_3 hl (by decide) rfl (fun ls hl => ?_)
  refine lv_iconst (v := 0) hC.1 hC.2.1 dX12_mayLie_5 (by decide) ?_
  refine lv_istore (lv' := [(5, .int 0), (4, .int 1), (3, .int 0), (0, .ref (aM 0)), (1, .int x1), (2, .int x2)]) hC.1 hC.2.1 dX12_mayLie_6 hl (by decide) rfl (fun ls hl => ?_)
  exact t12_mayLie_8 hC _ _ _ _ _ _ _ _ _ _ _ hf hW (lv_sub hl [3, 4, 5, 2, 1, 0] rfl)
set_option maxRecDepth 100000 in
set_option maxHeartbeats 4000000 in
theorem c12_mayLie (l : Launch) (D : va_G) (cy : Nat → ClassId) (ad : Nat → Nat) (aM : Nat → Nat) {x1 : Int32} {x2 : Int32} {SM : Ob} {res : Int32} (h : f12_mayLie x1 x2 SM = some res) : GCi l yX12_mayLie wsX12_mayLie rm12_mayLie [.ref (aM 0), .int x1, .int x2] D cy ad (w12 cy aM SM) (w12 cy aM SM) res := fun sz => GC.start (own := RX12) (Qc := fun A => QI D cy (w12 cy aM SM) A res) sz (by decide) rfl rfl (Nat.le_of_ble_eq_true rfl) (fun p e s m below meth c A ls hC hW hl => t12_mayLie_0 hC _ _ _ _ _ _ _ h hW (lv_sub hl [0, 1, 2] rfl))
end
