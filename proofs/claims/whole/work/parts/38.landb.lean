/-! laid by program: functions, walks and contracts of 5_payment, 5_bedAll, 5_neighbours, 5_watchesAll, 5_awake -/
theorem dX5_payment_0 : decode cX5_payment 0 = .ok (.iconst 0, 1) := by decide +kernel
theorem dX5_payment_1 : decode cX5_payment 1 = .ok (.istore_n 3, 1) := by decide +kernel
theorem dX5_payment_2 : decode cX5_payment 2 = .ok (.iconst 0, 1) := by decide +kernel
theorem dX5_payment_3 : decode cX5_payment 3 = .ok (.istore 4, 2) := by decide +kernel
theorem dX5_payment_5 : decode cX5_payment 5 = .ok (.iload 4, 2) := by decide +kernel
theorem dX5_payment_7 : decode cX5_payment 7 = .ok (.aload_n 0, 1) := by decide +kernel
theorem dX5_payment_8 : decode cX5_payment 8 = .ok (.getfield 21, 3) := by decide +kernel
theorem dX5_payment_11 : decode cX5_payment 11 = .ok (.if_icmp .ge 19, 3) := by decide +kernel
theorem dX5_payment_14 : decode cX5_payment 14 = .ok (.iload_n 3, 1) := by decide +kernel
theorem dX5_payment_15 : decode cX5_payment 15 = .ok (.aload_n 0, 1) := by decide +kernel
theorem dX5_payment_16 : decode cX5_payment 16 = .ok (.getfield 27, 3) := by decide +kernel
theorem dX5_payment_19 : decode cX5_payment 19 = .ok (.iload 4, 2) := by decide +kernel
theorem dX5_payment_21 : decode cX5_payment 21 = .ok (.iaload, 1) := by decide +kernel
theorem dX5_payment_22 : decode cX5_payment 22 = .ok (.iadd, 1) := by decide +kernel
theorem dX5_payment_23 : decode cX5_payment 23 = .ok (.istore_n 3, 1) := by decide +kernel
theorem dX5_payment_24 : decode cX5_payment 24 = .ok (.iinc 4 1, 3) := by decide +kernel
theorem dX5_payment_27 : decode cX5_payment 27 = .ok (.goto (-22), 3) := by decide +kernel
theorem dX5_payment_30 : decode cX5_payment 30 = .ok (.iload_n 3, 1) := by decide +kernel
theorem dX5_payment_31 : decode cX5_payment 31 = .ok (.ifCond .ne 5, 3) := by decide +kernel
theorem dX5_payment_34 : decode cX5_payment 34 = .ok (.iconst 0, 1) := by decide +kernel
theorem dX5_payment_35 : decode cX5_payment 35 = .ok (.ireturn, 1) := by decide +kernel
theorem dX5_payment_36 : decode cX5_payment 36 = .ok (.iload_n 1, 1) := by decide +kernel
theorem dX5_payment_37 : decode cX5_payment 37 = .ok (.aload_n 0, 1) := by decide +kernel
theorem dX5_payment_38 : decode cX5_payment 38 = .ok (.getfield 27, 3) := by decide +kernel
theorem dX5_payment_41 : decode cX5_payment 41 = .ok (.iload_n 2, 1) := by decide +kernel
theorem dX5_payment_42 : decode cX5_payment 42 = .ok (.iaload, 1) := by decide +kernel
theorem dX5_payment_43 : decode cX5_payment 43 = .ok (.imul, 1) := by decide +kernel
theorem dX5_payment_44 : decode cX5_payment 44 = .ok (.iload_n 3, 1) := by decide +kernel
theorem dX5_payment_45 : decode cX5_payment 45 = .ok (.irem, 1) := by decide +kernel
theorem dX5_payment_46 : decode cX5_payment 46 = .ok (.istore 4, 2) := by decide +kernel
theorem dX5_payment_48 : decode cX5_payment 48 = .ok (.iload_n 1, 1) := by decide +kernel
theorem dX5_payment_49 : decode cX5_payment 49 = .ok (.istore 5, 2) := by decide +kernel
theorem dX5_payment_51 : decode cX5_payment 51 = .ok (.iconst 0, 1) := by decide +kernel
theorem dX5_payment_52 : decode cX5_payment 52 = .ok (.istore 6, 2) := by decide +kernel
theorem dX5_payment_54 : decode cX5_payment 54 = .ok (.iconst 0, 1) := by decide +kernel
theorem dX5_payment_55 : decode cX5_payment 55 = .ok (.istore 7, 2) := by decide +kernel
theorem dX5_payment_57 : decode cX5_payment 57 = .ok (.iload 7, 2) := by decide +kernel
theorem dX5_payment_59 : decode cX5_payment 59 = .ok (.aload_n 0, 1) := by decide +kernel
theorem dX5_payment_60 : decode cX5_payment 60 = .ok (.getfield 21, 3) := by decide +kernel
theorem dX5_payment_63 : decode cX5_payment 63 = .ok (.if_icmp .ge 56, 3) := by decide +kernel
theorem dX5_payment_66 : decode cX5_payment 66 = .ok (.iload_n 1, 1) := by decide +kernel
theorem dX5_payment_67 : decode cX5_payment 67 = .ok (.aload_n 0, 1) := by decide +kernel
theorem dX5_payment_68 : decode cX5_payment 68 = .ok (.getfield 27, 3) := by decide +kernel
theorem dX5_payment_71 : decode cX5_payment 71 = .ok (.iload 7, 2) := by decide +kernel
theorem dX5_payment_73 : decode cX5_payment 73 = .ok (.iaload, 1) := by decide +kernel
theorem dX5_payment_74 : decode cX5_payment 74 = .ok (.imul, 1) := by decide +kernel
theorem dX5_payment_75 : decode cX5_payment 75 = .ok (.istore 8, 2) := by decide +kernel
theorem dX5_payment_77 : decode cX5_payment 77 = .ok (.iload 5, 2) := by decide +kernel
theorem dX5_payment_79 : decode cX5_payment 79 = .ok (.iload 8, 2) := by decide +kernel
theorem dX5_payment_81 : decode cX5_payment 81 = .ok (.iload_n 3, 1) := by decide +kernel
theorem dX5_payment_82 : decode cX5_payment 82 = .ok (.idiv, 1) := by decide +kernel
theorem dX5_payment_83 : decode cX5_payment 83 = .ok (.isub, 1) := by decide +kernel
theorem dX5_payment_84 : decode cX5_payment 84 = .ok (.istore 5, 2) := by decide +kernel
theorem dX5_payment_86 : decode cX5_payment 86 = .ok (.iload 8, 2) := by decide +kernel
theorem dX5_payment_88 : decode cX5_payment 88 = .ok (.iload_n 3, 1) := by decide +kernel
theorem dX5_payment_89 : decode cX5_payment 89 = .ok (.irem, 1) := by decide +kernel
theorem dX5_payment_90 : decode cX5_payment 90 = .ok (.iload 4, 2) := by decide +kernel
theorem dX5_payment_92 : decode cX5_payment 92 = .ok (.if_icmp .gt 18, 3) := by decide +kernel
theorem dX5_payment_95 : decode cX5_payment 95 = .ok (.iload 8, 2) := by decide +kernel
theorem dX5_payment_97 : decode cX5_payment 97 = .ok (.iload_n 3, 1) := by decide +kernel
theorem dX5_payment_98 : decode cX5_payment 98 = .ok (.irem, 1) := by decide +kernel
theorem dX5_payment_99 : decode cX5_payment 99 = .ok (.iload 4, 2) := by decide +kernel
theorem dX5_payment_101 : decode cX5_payment 101 = .ok (.if_icmp .ne 12, 3) := by decide +kernel
theorem dX5_payment_104 : decode cX5_payment 104 = .ok (.iload 7, 2) := by decide +kernel
theorem dX5_payment_106 : decode cX5_payment 106 = .ok (.iload_n 2, 1) := by decide +kernel
theorem dX5_payment_107 : decode cX5_payment 107 = .ok (.if_icmp .ge 6, 3) := by decide +kernel
theorem dX5_payment_110 : decode cX5_payment 110 = .ok (.iinc 6 1, 3) := by decide +kernel
theorem dX5_payment_113 : decode cX5_payment 113 = .ok (.iinc 7 1, 3) := by decide +kernel
theorem dX5_payment_116 : decode cX5_payment 116 = .ok (.goto (-59), 3) := by decide +kernel
theorem dX5_payment_119 : decode cX5_payment 119 = .ok (.iload_n 1, 1) := by decide +kernel
theorem dX5_payment_120 : decode cX5_payment 120 = .ok (.aload_n 0, 1) := by decide +kernel
theorem dX5_payment_121 : decode cX5_payment 121 = .ok (.getfield 27, 3) := by decide +kernel
theorem dX5_payment_124 : decode cX5_payment 124 = .ok (.iload_n 2, 1) := by decide +kernel
theorem dX5_payment_125 : decode cX5_payment 125 = .ok (.iaload, 1) := by decide +kernel
theorem dX5_payment_126 : decode cX5_payment 126 = .ok (.imul, 1) := by decide +kernel
theorem dX5_payment_127 : decode cX5_payment 127 = .ok (.iload_n 3, 1) := by decide +kernel
theorem dX5_payment_128 : decode cX5_payment 128 = .ok (.idiv, 1) := by decide +kernel
theorem dX5_payment_129 : decode cX5_payment 129 = .ok (.iload 6, 2) := by decide +kernel
theorem dX5_payment_131 : decode cX5_payment 131 = .ok (.iload 5, 2) := by decide +kernel
theorem dX5_payment_133 : decode cX5_payment 133 = .ok (.if_icmp .ge 7, 3) := by decide +kernel
theorem dX5_payment_136 : decode cX5_payment 136 = .ok (.iconst 1, 1) := by decide +kernel
theorem dX5_payment_137 : decode cX5_payment 137 = .ok (.goto 4, 3) := by decide +kernel
theorem dX5_payment_140 : decode cX5_payment 140 = .ok (.iconst 0, 1) := by decide +kernel
theorem dX5_payment_141 : decode cX5_payment 141 = .ok (.iadd, 1) := by decide +kernel
theorem dX5_payment_142 : decode cX5_payment 142 = .ok (.ireturn, 1) := by decide +kernel
set_option maxRecDepth 20000 in
theorem gX5_bedAll_X5_bedFrom : GoodIn wsX5_bedAll (va_wsS RX5 30 yX5_bedFrom wsX5_bedFrom) := goodIn_r _ [1, 2, 3, 4, 5, 6, 7, 8, 9, 10, 11, 12, 13, 14, 15, 1, 2, 3, 16, 17, 18, 19, 20, 21, 22, 23, 24, 25, 26, 27, 28, 29, 30, 31] rfl (by decide +kernel)
theorem dX5_bedAll_0 : decode cX5_bedAll 0 = .ok (.iconst 0, 1) := by decide +kernel
theorem dX5_bedAll_1 : decode cX5_bedAll 1 = .ok (.istore_n 2, 1) := by decide +kernel
theorem dX5_bedAll_2 : decode cX5_bedAll 2 = .ok (.iload_n 2, 1) := by decide +kernel
theorem dX5_bedAll_3 : decode cX5_bedAll 3 = .ok (.bipush 8, 2) := by decide +kernel
theorem dX5_bedAll_5 : decode cX5_bedAll 5 = .ok (.if_icmp .ge 22, 3) := by decide +kernel
theorem dX5_bedAll_8 : decode cX5_bedAll 8 = .ok (.aload_n 0, 1) := by decide +kernel
theorem dX5_bedAll_9 : decode cX5_bedAll 9 = .ok (.aload_n 1, 1) := by decide +kernel
theorem dX5_bedAll_10 : decode cX5_bedAll 10 = .ok (.iconst 0, 1) := by decide +kernel
theorem dX5_bedAll_11 : decode cX5_bedAll 11 = .ok (.iconst 0, 1) := by decide +kernel
theorem dX5_bedAll_12 : decode cX5_bedAll 12 = .ok (.iload_n 2, 1) := by decide +kernel
theorem dX5_bedAll_13 : decode cX5_bedAll 13 = .ok (.invokestatic 30, 3) := by decide +kernel
theorem dX5_bedAll_16 : decode cX5_bedAll 16 = .ok (.ifCond .eq 5, 3) := by decide +kernel
theorem dX5_bedAll_19 : decode cX5_bedAll 19 = .ok (.iload_n 2, 1) := by decide +kernel
theorem dX5_bedAll_20 : decode cX5_bedAll 20 = .ok (.ireturn, 1) := by decide +kernel
theorem dX5_bedAll_21 : decode cX5_bedAll 21 = .ok (.iinc 2 1, 3) := by decide +kernel
theorem dX5_bedAll_24 : decode cX5_bedAll 24 = .ok (.goto (-22), 3) := by decide +kernel
theorem dX5_bedAll_27 : decode cX5_bedAll 27 = .ok (.aload_n 0, 1) := by decide +kernel
theorem dX5_bedAll_28 : decode cX5_bedAll 28 = .ok (.aload_n 1, 1) := by decide +kernel
theorem dX5_bedAll_29 : decode cX5_bedAll 29 = .ok (.iconst 0, 1) := by decide +kernel
theorem dX5_bedAll_30 : decode cX5_bedAll 30 = .ok (.iconst 0, 1) := by decide +kernel
theorem dX5_bedAll_31 : decode cX5_bedAll 31 = .ok (.bipush 8, 2) := by decide +kernel
theorem dX5_bedAll_33 : decode cX5_bedAll 33 = .ok (.invokestatic 30, 3) := by decide +kernel
theorem dX5_bedAll_36 : decode cX5_bedAll 36 = .ok (.pop, 1) := by decide +kernel
theorem dX5_bedAll_37 : decode cX5_bedAll 37 = .ok (.bipush 8, 2) := by decide +kernel
theorem dX5_bedAll_39 : decode cX5_bedAll 39 = .ok (.ireturn, 1) := by decide +kernel
theorem dX5_neighbours_0 : decode cX5_neighbours 0 = .ok (.iconst 0, 1) := by decide +kernel
theorem dX5_neighbours_1 : decode cX5_neighbours 1 = .ok (.istore_n 3, 1) := by decide +kernel
theorem dX5_neighbours_2 : decode cX5_neighbours 2 = .ok (.iconst 0, 1) := by decide +kernel
theorem dX5_neighbours_3 : decode cX5_neighbours 3 = .ok (.istore 4, 2) := by decide +kernel
theorem dX5_neighbours_5 : decode cX5_neighbours 5 = .ok (.iload 4, 2) := by decide +kernel
theorem dX5_neighbours_7 : decode cX5_neighbours 7 = .ok (.aload_n 0, 1) := by decide +kernel
theorem dX5_neighbours_8 : decode cX5_neighbours 8 = .ok (.getfield 21, 3) := by decide +kernel
theorem dX5_neighbours_11 : decode cX5_neighbours 11 = .ok (.if_icmp .ge 43, 3) := by decide +kernel
theorem dX5_neighbours_14 : decode cX5_neighbours 14 = .ok (.iload 4, 2) := by decide +kernel
theorem dX5_neighbours_16 : decode cX5_neighbours 16 = .ok (.iload_n 1, 1) := by decide +kernel
theorem dX5_neighbours_17 : decode cX5_neighbours 17 = .ok (.if_icmp .eq 31, 3) := by decide +kernel
theorem dX5_neighbours_20 : decode cX5_neighbours 20 = .ok (.aload_n 0, 1) := by decide +kernel
theorem dX5_neighbours_21 : decode cX5_neighbours 21 = .ok (.getfield 51, 3) := by decide +kernel
theorem dX5_neighbours_24 : decode cX5_neighbours 24 = .ok (.iload 4, 2) := by decide +kernel
theorem dX5_neighbours_26 : decode cX5_neighbours 26 = .ok (.iaload, 1) := by decide +kernel
theorem dX5_neighbours_27 : decode cX5_neighbours 27 = .ok (.aload_n 0, 1) := by decide +kernel
theorem dX5_neighbours_28 : decode cX5_neighbours 28 = .ok (.getfield 51, 3) := by decide +kernel
theorem dX5_neighbours_31 : decode cX5_neighbours 31 = .ok (.iload_n 1, 1) := by decide +kernel
theorem dX5_neighbours_32 : decode cX5_neighbours 32 = .ok (.iaload, 1) := by decide +kernel
theorem dX5_neighbours_33 : decode cX5_neighbours 33 = .ok (.isub, 1) := by decide +kernel
theorem dX5_neighbours_34 : decode cX5_neighbours 34 = .ok (.invokestatic 54, 3) := by decide +kernel
theorem dX5_neighbours_37 : decode cX5_neighbours 37 = .ok (.iload_n 2, 1) := by decide +kernel
theorem dX5_neighbours_38 : decode cX5_neighbours 38 = .ok (.if_icmp .gt 10, 3) := by decide +kernel
theorem dX5_neighbours_41 : decode cX5_neighbours 41 = .ok (.iload_n 3, 1) := by decide +kernel
theorem dX5_neighbours_42 : decode cX5_neighbours 42 = .ok (.iconst 1, 1) := by decide +kernel
theorem dX5_neighbours_43 : decode cX5_neighbours 43 = .ok (.iload 4, 2) := by decide +kernel
theorem dX5_neighbours_45 : decode cX5_neighbours 45 = .ok (.ishl, 1) := by decide +kernel
theorem dX5_neighbours_46 : decode cX5_neighbours 46 = .ok (.ior, 1) := by decide +kernel
theorem dX5_neighbours_47 : decode cX5_neighbours 47 = .ok (.istore_n 3, 1) := by decide +kernel
theorem dX5_neighbours_48 : decode cX5_neighbours 48 = .ok (.iinc 4 1, 3) := by decide +kernel
theorem dX5_neighbours_51 : decode cX5_neighbours 51 = .ok (.goto (-46), 3) := by decide +kernel
theorem dX5_neighbours_54 : decode cX5_neighbours 54 = .ok (.iload_n 3, 1) := by decide +kernel
theorem dX5_neighbours_55 : decode cX5_neighbours 55 = .ok (.ireturn, 1) := by decide +kernel
set_option maxRecDepth 20000 in
theorem gX5_watchesAll_J6_bitCount_0f7a4 : GoodIn wsX5_watchesAll (va_wsS RX5 34 yJ6_bitCount_0f7a4 wsJ6_bitCount_0f7a4) := goodIn_r _ [3, 4, 5, 6, 7, 8, 9] rfl (by decide +kernel)
theorem dX5_watchesAll_0 : decode cX5_watchesAll 0 = .ok (.iconst 0, 1) := by decide +kernel
theorem dX5_watchesAll_1 : decode cX5_watchesAll 1 = .ok (.istore 4, 2) := by decide +kernel
theorem dX5_watchesAll_3 : decode cX5_watchesAll 3 = .ok (.iload 4, 2) := by decide +kernel
theorem dX5_watchesAll_5 : decode cX5_watchesAll 5 = .ok (.aload_n 1, 1) := by decide +kernel
theorem dX5_watchesAll_6 : decode cX5_watchesAll 6 = .ok (.getfield 21, 3) := by decide +kernel
theorem dX5_watchesAll_9 : decode cX5_watchesAll 9 = .ok (.if_icmp .ge 27, 3) := by decide +kernel
theorem dX5_watchesAll_12 : decode cX5_watchesAll 12 = .ok (.iload_n 2, 1) := by decide +kernel
theorem dX5_watchesAll_13 : decode cX5_watchesAll 13 = .ok (.aload_n 0, 1) := by decide +kernel
theorem dX5_watchesAll_14 : decode cX5_watchesAll 14 = .ok (.getfield 18, 3) := by decide +kernel
theorem dX5_watchesAll_17 : decode cX5_watchesAll 17 = .ok (.iload 4, 2) := by decide +kernel
theorem dX5_watchesAll_19 : decode cX5_watchesAll 19 = .ok (.iaload, 1) := by decide +kernel
theorem dX5_watchesAll_20 : decode cX5_watchesAll 20 = .ok (.iand, 1) := by decide +kernel
theorem dX5_watchesAll_21 : decode cX5_watchesAll 21 = .ok (.invokestatic 34, 3) := by decide +kernel
theorem dX5_watchesAll_24 : decode cX5_watchesAll 24 = .ok (.iload_n 3, 1) := by decide +kernel
theorem dX5_watchesAll_25 : decode cX5_watchesAll 25 = .ok (.if_icmp .ge 5, 3) := by decide +kernel
theorem dX5_watchesAll_28 : decode cX5_watchesAll 28 = .ok (.iconst 0, 1) := by decide +kernel
theorem dX5_watchesAll_29 : decode cX5_watchesAll 29 = .ok (.ireturn, 1) := by decide +kernel
theorem dX5_watchesAll_30 : decode cX5_watchesAll 30 = .ok (.iinc 4 1, 3) := by decide +kernel
theorem dX5_watchesAll_33 : decode cX5_watchesAll 33 = .ok (.goto (-30), 3) := by decide +kernel
theorem dX5_watchesAll_36 : decode cX5_watchesAll 36 = .ok (.iconst 1, 1) := by decide +kernel
theorem dX5_watchesAll_37 : decode cX5_watchesAll 37 = .ok (.ireturn, 1) := by decide +kernel
set_option maxRecDepth 20000 in
theorem gX5_awake_X5_neighbours : GoodIn wsX5_awake (va_wsS RX5 43 yX5_neighbours wsX5_neighbours) := goodIn_r _ [3, 4, 5, 6, 1, 7, 8, 9, 10, 11, 23, 24, 25, 26, 27, 28, 29, 30, 31, 32, 33, 34, 35] rfl (by decide +kernel)
set_option maxRecDepth 20000 in
theorem gX5_awake_J6_bitCount_0f7a4 : GoodIn wsX5_awake (va_wsS RX5 34 yJ6_bitCount_0f7a4 wsJ6_bitCount_0f7a4) := goodIn_r _ [12, 13, 14, 15, 16, 17, 18] rfl (by decide +kernel)
set_option maxRecDepth 20000 in
theorem gX5_awake_X5_watchesAll : GoodIn wsX5_awake (wsV RX5 47 RX5 yX5_watchesAll wsX5_watchesAll) := goodIn_r _ [19, 20, 21, 5, 22, 1, 2, 12, 13, 14, 15, 16, 17, 18, 23, 24, 25, 26, 27, 28, 29, 30, 31, 32, 33, 34, 35, 36, 37, 38] rfl (by decide +kernel)
theorem dX5_awake_0 : decode cX5_awake 0 = .ok (.iconst 0, 1) := by decide +kernel
theorem dX5_awake_1 : decode cX5_awake 1 = .ok (.istore 4, 2) := by decide +kernel
theorem dX5_awake_3 : decode cX5_awake 3 = .ok (.iload 4, 2) := by decide +kernel
theorem dX5_awake_5 : decode cX5_awake 5 = .ok (.aload_n 1, 1) := by decide +kernel
theorem dX5_awake_6 : decode cX5_awake 6 = .ok (.getfield 21, 3) := by decide +kernel
theorem dX5_awake_9 : decode cX5_awake 9 = .ok (.if_icmp .ge 23, 3) := by decide +kernel
theorem dX5_awake_12 : decode cX5_awake 12 = .ok (.aload_n 0, 1) := by decide +kernel
theorem dX5_awake_13 : decode cX5_awake 13 = .ok (.getfield 18, 3) := by decide +kernel
theorem dX5_awake_16 : decode cX5_awake 16 = .ok (.iload 4, 2) := by decide +kernel
theorem dX5_awake_18 : decode cX5_awake 18 = .ok (.aload_n 1, 1) := by decide +kernel
theorem dX5_awake_19 : decode cX5_awake 19 = .ok (.iload 4, 2) := by decide +kernel
theorem dX5_awake_21 : decode cX5_awake 21 = .ok (.iload_n 3, 1) := by decide +kernel
theorem dX5_awake_22 : decode cX5_awake 22 = .ok (.invokestatic 43, 3) := by decide +kernel
theorem dX5_awake_25 : decode cX5_awake 25 = .ok (.iastore, 1) := by decide +kernel
theorem dX5_awake_26 : decode cX5_awake 26 = .ok (.iinc 4 1, 3) := by decide +kernel
theorem dX5_awake_29 : decode cX5_awake 29 = .ok (.goto (-26), 3) := by decide +kernel
theorem dX5_awake_32 : decode cX5_awake 32 = .ok (.iconst (-1), 1) := by decide +kernel
theorem dX5_awake_33 : decode cX5_awake 33 = .ok (.istore 4, 2) := by decide +kernel
theorem dX5_awake_35 : decode cX5_awake 35 = .ok (.iconst 0, 1) := by decide +kernel
theorem dX5_awake_36 : decode cX5_awake 36 = .ok (.istore 5, 2) := by decide +kernel
theorem dX5_awake_38 : decode cX5_awake 38 = .ok (.iload 5, 2) := by decide +kernel
theorem dX5_awake_40 : decode cX5_awake 40 = .ok (.iconst 1, 1) := by decide +kernel
theorem dX5_awake_41 : decode cX5_awake 41 = .ok (.aload_n 1, 1) := by decide +kernel
theorem dX5_awake_42 : decode cX5_awake 42 = .ok (.getfield 21, 3) := by decide +kernel
theorem dX5_awake_45 : decode cX5_awake 45 = .ok (.ishl, 1) := by decide +kernel
theorem dX5_awake_46 : decode cX5_awake 46 = .ok (.if_icmp .ge 55, 3) := by decide +kernel
theorem dX5_awake_49 : decode cX5_awake 49 = .ok (.iload 4, 2) := by decide +kernel
theorem dX5_awake_51 : decode cX5_awake 51 = .ok (.iconst (-1), 1) := by decide +kernel
theorem dX5_awake_52 : decode cX5_awake 52 = .ok (.if_icmp .eq 16, 3) := by decide +kernel
theorem dX5_awake_55 : decode cX5_awake 55 = .ok (.iload 5, 2) := by decide +kernel
theorem dX5_awake_57 : decode cX5_awake 57 = .ok (.invokestatic 34, 3) := by decide +kernel
theorem dX5_awake_60 : decode cX5_awake 60 = .ok (.iload 4, 2) := by decide +kernel
theorem dX5_awake_62 : decode cX5_awake 62 = .ok (.invokestatic 34, 3) := by decide +kernel
theorem dX5_awake_65 : decode cX5_awake 65 = .ok (.if_icmp .ge 7, 3) := by decide +kernel
theorem dX5_awake_68 : decode cX5_awake 68 = .ok (.iconst 1, 1) := by decide +kernel
theorem dX5_awake_69 : decode cX5_awake 69 = .ok (.goto 4, 3) := by decide +kernel
theorem dX5_awake_72 : decode cX5_awake 72 = .ok (.iconst 0, 1) := by decide +kernel
theorem dX5_awake_73 : decode cX5_awake 73 = .ok (.istore 6, 2) := by decide +kernel
theorem dX5_awake_75 : decode cX5_awake 75 = .ok (.iload 6, 2) := by decide +kernel
theorem dX5_awake_77 : decode cX5_awake 77 = .ok (.ifCond .eq 18, 3) := by decide +kernel
theorem dX5_awake_80 : decode cX5_awake 80 = .ok (.aload_n 0, 1) := by decide +kernel
theorem dX5_awake_81 : decode cX5_awake 81 = .ok (.aload_n 1, 1) := by decide +kernel
theorem dX5_awake_82 : decode cX5_awake 82 = .ok (.iload 5, 2) := by decide +kernel
theorem dX5_awake_84 : decode cX5_awake 84 = .ok (.iload_n 2, 1) := by decide +kernel
theorem dX5_awake_85 : decode cX5_awake 85 = .ok (.invokevirtual 47, 3) := by decide +kernel
theorem dX5_awake_88 : decode cX5_awake 88 = .ok (.ifCond .eq 7, 3) := by decide +kernel
theorem dX5_awake_91 : decode cX5_awake 91 = .ok (.iload 5, 2) := by decide +kernel
theorem dX5_awake_93 : decode cX5_awake 93 = .ok (.istore 4, 2) := by decide +kernel
theorem dX5_awake_95 : decode cX5_awake 95 = .ok (.iinc 5 1, 3) := by decide +kernel
theorem dX5_awake_98 : decode cX5_awake 98 = .ok (.goto (-60), 3) := by decide +kernel
theorem dX5_awake_101 : decode cX5_awake 101 = .ok (.iload 4, 2) := by decide +kernel
theorem dX5_awake_103 : decode cX5_awake 103 = .ok (.ireturn, 1) := by decide +kernel
section
variable {p : Program} {l : Launch} {e : Env} {s : State} {m : MethodId} {args : Array Value} {below : List Frame} {meth : Method} {c : Code} {D : va_G} {cy : Nat → ClassId} {ad : Nat → Nat} {A : Nat → Prop} {aM aB aO aI aN aT aC aG aR aQ aK aL aX aH aJ aP aU aE0 aE1 aE2 aE3 : Nat → Nat} {gi : Value}
abbrev rm5_payment : Room := { frames := 0, cells := 0, slots := 0, locals := 0 }
theorem hdS5_payment : (yX5_payment.cls ≠ "java/lang/invoke/MethodHandle" ∧ yX5_payment.cls ≠ "java/lang/invoke/VarHandle" ∧ (parseMethodDescriptor yX5_payment.desc).map (fun d => d.parameters.length) = some 3) := by decide +kernel
theorem hin5_payment_4 : ∀ x ∈ u_ws RX4 TX4 13, x ∈ wsX5_payment := fun _ h => List.mem_cons_of_mem _ (List.mem_append_right _ h)
set_option maxRecDepth 100000 in
set_option maxHeartbeats 4000000 in
theorem t5_payment_113 (hC : Cx p s m args meth c cX5_payment 9 wsX5_payment RX5 (some .int)) {k57 : Int32 → Int32 → Int32 → Int32 → Int32 → Int32 → Int32 → Ob → Option (Int32)} (hk57 : ∀ (x1 : Int32) (x2 : Int32) (x3 : Int32) (x4 : Int32) (x5 : Int32) (x6 : Int32) (x7 : Int32) (SI : Ob) (res : Int32) (H : Heap) (locs : List Loc) (ls : Array Slot), k57 x1 x2 x3 x4 x5 x6 x7 SI = some res → GW D cy ad (w4 cy aI SI) A s H locs → lv_has ls 9 [(0, .ref (aI 0)), (1, .int x1), (2, .int x2), (3, .int x3), (4, .int x4), (5, .int x5), (6, .int x6), (7, .int x7)] → W p l e rm5_payment s m args below meth c H locs 0 0 (MQ below (QI D cy (w4 cy aI SI) A res) args s 0 0 A) (F0 m 57 ls [])) : ∀ (x1 : Int32) (x2 : Int32) (x3 : Int32) (x4 : Int32) (x5 : Int32) (x6 : Int32) (x7 : Int32) (SI : Ob) (res : Int32) (H : Heap) (locs : List Loc) (ls : Array Slot), f5_payment_113 k57 x1 x2 x3 x4 x5 x6 x7 SI = some res → GW D cy ad (w4 cy aI SI) A s H locs → lv_has ls 9 [(0, .ref (aI 0)), (1, .int x1), (2, .int x2), (3, .int x3), (4, .int x4), (5, .int x5), (6, .int x6), (7, .int x7)] → W p l e rm5_payment s m args below meth c H locs 0 0 (MQ below (QI D cy (w4 cy aI SI) A res) args s 0 0 A) (F0 m 113 ls []) := by
  intro x1 x2 x3 x4 x5 x6 x7 SI res H locs ls hf hW hl
  unfold f5_payment_113 at hf
  obtain ⟨x7_1, ex7_1⟩ : ∃ y : Int32, y = x7 + 1 := ⟨_, rfl⟩
  have hf := lt_nm hf ex7_1
  refine lv_iinc (v := x7_1) (lv' := [(7, .int x7_1), (0, .ref (aI 0)), (1, .int x1), (2, .int x2), (3, .int x3), (4, .int x4), (5, .int x5), (6, .int x6)]) hC.1 hC.2.1 dX5_payment_113 hl (k := 7) rfl (by rw [ex7_1]; rfl) (by decide) rfl (fun ls hl => ?_)
  refine lv_goto (tgt := 57) hC.1 hC.2.1 dX5_payment_116 (by decide) ?_
  exact hk57 _ _ _ _ _ _ _ _ _ _ _ _ hf hW (lv_sub hl [1, 2, 3, 4, 5, 6, 7, 0] rfl)
set_option maxRecDepth 100000 in
set_option maxHeartbeats 4000000 in
theorem t5_payment_110 (hC : Cx p s m args meth c cX5_payment 9 wsX5_payment RX5 (some .int)) {k57 : Int32 → Int32 → Int32 → Int32 → Int32 → Int32 → Int32 → Ob → Option (Int32)} (hk57 : ∀ (x1 : Int32) (x2 : Int32) (x3 : Int32) (x4 : Int32) (x5 : Int32) (x6 : Int32) (x7 : Int32) (SI : Ob) (res : Int32) (H : Heap) (locs : List Loc) (ls : Array Slot), k57 x1 x2 x3 x4 x5 x6 x7 SI = some res → GW D cy ad (w4 cy aI SI) A s H locs → lv_has ls 9 [(0, .ref (aI 0)), (1, .int x1), (2, .int x2), (3, .int x3), (4, .int x4), (5, .int x5), (6, .int x6), (7, .int x7)] → W p l e rm5_payment s m args below meth c H locs 0 0 (MQ below (QI D cy (w4 cy aI SI) A res) args s 0 0 A) (F0 m 57 ls [])) : ∀ (x1 : Int32) (x2 : Int32) (x3 : Int32) (x4 : Int32) (x5 : Int32) (x6 : Int32) (x7 : Int32) (SI : Ob) (res : Int32) (H : Heap) (locs : List Loc) (ls : Array Slot), f5_payment_110 k57 x1 x2 x3 x4 x5 x6 x7 SI = some res → GW D cy ad (w4 cy aI SI) A s H locs → lv_has ls 9 [(0, .ref (aI 0)), (1, .int x1), (2, .int x2), (3, .int x3), (4, .int x4), (5, .int x5), (6, .int x6), (7, .int x7)] → W p l e rm5_payment s m args below meth c H locs 0 0 (MQ below (QI D cy (w4 cy aI SI) A res) args s 0 0 A) (F0 m 110 ls []) := by
  intro x1 x2 x3 x4 x5 x6 x7 SI res H locs ls hf hW hl
  unfold f5_payment_110 at hf
  obtain ⟨x6_1, ex6_1⟩ : ∃ y : Int32, y = x6 + 1 := ⟨_, rfl⟩
  have hf := lt_nm hf ex6_1
  refine lv_iinc (v := x6_1) (lv' := [(6, .int x6_1), (0, .ref (aI 0)), (1, .int x1), (2, .int x2), (3, .int x3), (4, .int x4), (5, .int x5), (7, .int x7)]) hC.1 hC.2.1 dX5_payment_110 hl (k := 6) rfl (by rw [ex6_1]; rfl) (by decide) rfl (fun ls hl => ?_)
  exact t5_payment_113 hC hk57  _ _ _ _ _ _ _ _ _ _ _ _ hf hW (lv_sub hl [1, 2, 3, 4, 5, 6, 0, 7] rfl)
set_option maxRecDepth 100000 in
set_option maxHeartbeats 4000000 in
theorem t5_payment_141 (hC : Cx p s m args meth c cX5_payment 9 wsX5_payment RX5 (some .int)) : ∀ (z0 : Int32) (z1 : Int32) (SI : Ob) (res : Int32) (H : Heap) (locs : List Loc) (ls : Array Slot), f5_payment_141 z0 z1 SI = some res → GW D cy ad (w4 cy aI SI) A s H locs → lv_has ls 9 [] → W p l e rm5_payment s m args below meth c H locs 0 0 (MQ below (QI D cy (w4 cy aI SI) A res) args s 0 0 A) (F0 m 141 ls [.int z1, .int z0]) := by
  intro z0 z1 SI res H locs ls hf hW hl
  unfold f5_payment_141 at hf
  refine lv_iadd hC.1 hC.2.1 dX5_payment_141 ?_
  obtain rfl := Option.some.inj hf
  exact g_iret hC hW dX5_payment_142
set_option maxRecDepth 100000 in
set_option maxHeartbeats 4000000 in
theorem t5_payment_57 (hC : Cx p s m args meth c cX5_payment 9 wsX5_payment RX5 (some .int)) : ∀ n : Nat, ∀ (x1 : Int32) (x2 : Int32) (x3 : Int32) (x4 : Int32) (x5 : Int32) (x6 : Int32) (x7 : Int32) (SI : Ob) (res : Int32) (H : Heap) (locs : List Loc) (ls : Array Slot), f5_payment_57 n x1 x2 x3 x4 x5 x6 x7 SI = some res → GW D cy ad (w4 cy aI SI) A s H locs → lv_has ls 9 [(0, .ref (aI 0)), (1, .int x1), (2, .int x2), (3, .int x3), (4, .int x4), (5, .int x5), (6, .int x6), (7, .int x7)] → W p l e rm5_payment s m args below meth c H locs 0 0 (MQ below (QI D cy (w4 cy aI SI) A res) args s 0 0 A) (F0 m 57 ls []) := by
  intro n
  induction n with
  | zero =>
    intro _ _ _ _ _ _ _ _ _ _ _ _ hf _ _
    exact nomatch (show (none : Option (Int32)) = some _ from hf)
  | succ n ih =>
    intro x1 x2 x3 x4 x5 x6 x7 SI res H locs ls hf hW hl
    rw [f5_payment_57] at hf
    refine lv_iload hC.1 hC.2.1 dX5_payment_57 (lv_at hl 7 rfl) ?_
    refine lv_aload_n hC.1 hC.2.1 dX5_payment_59 rfl (lv_at hl 0 rfl) ?_
    refine g_get hC hW hin5_payment_4 0 rfl rfl 0 (by decide) 1 rfl rfl dX5_payment_60 ?_
    refine lv_icmp_ge (tgt := 119) hC.1 hC.2.1 dX5_payment_63 (by decide) (fun hc_1 => ?_) (fun hc_1 => ?_)
    · have hf := ite_t hf hc_1
      refine lv_iload_n hC.1 hC.2.1 dX5_payment_119 rfl (lv_at hl 1 rfl) ?_
      refine lv_aload_n hC.1 hC.2.1 dX5_payment_120 rfl (lv_at hl 0 rfl) ?_
      refine g_get hC hW hin5_payment_4 0 rfl rfl 7 (by decide) 2 rfl rfl dX5_payment_121 ?_
      refine lv_iload_n hC.1 hC.2.1 dX5_payment_124 rfl (lv_at hl 2 rfl) ?_
      obtain ⟨hi_2, hf⟩ := ck_of hf
      refine g_iald hC hW 7 rfl hi_2 dX5_payment_125 ?_
      refine lv_imul hC.1 hC.2.1 dX5_payment_126 ?_
      refine lv_iload_n hC.1 hC.2.1 dX5_payment_127 rfl (lv_at hl 3 rfl) ?_
      obtain ⟨hz_3, hf⟩ := ck_of hf
      refine lv_idiv hC.1 hC.2.1 dX5_payment_128 (nz_of hz_3) ?_
      refine lv_iload hC.1 hC.2.1 dX5_payment_129 (lv_at hl 6 rfl) ?_
      refine lv_iload hC.1 hC.2.1 dX5_payment_131 (lv_at hl 5 rfl) ?_
      refine lv_icmp_ge (tgt := 140) hC.1 hC.2.1 dX5_payment_133 (by decide) (fun hc_4 => ?_) (fun hc_4 => ?_)
      · have hf := ite_t hf hc_4
        refine lv_iconst (v := 0) hC.1 hC.2.1 dX5_payment_140 (by decide) ?_
        exact t5_payment_141 hC  _ _ _ _ _ _ _ hf hW (lv_sub hl [] rfl)
      · have hf := ite_f hf hc_4
        refine lv_iconst (v := 1) hC.1 hC.2.1 dX5_payment_136 (by decide) ?_
        refine lv_goto (tgt := 141) hC.1 hC.2.1 dX5_payment_137 (by decide) ?_
        exact t5_payment_141 hC  _ _ _ _ _ _ _ hf hW (lv_sub hl [] rfl)
    · have hf := ite_f hf hc_1
      refine lv_iload_n hC.1 hC.2.1 dX5_payment_66 rfl (lv_at hl 1 rfl) ?_
      refine lv_aload_n hC.1 hC.2.1 dX5_payment_67 rfl (lv_at hl 0 rfl) ?_
      refine g_get hC hW hin5_payment_4 0 rfl rfl 7 (by decide) 2 rfl rfl dX5_payment_68 ?_
      refine lv_iload hC.1 hC.2.1 dX5_payment_71 (lv_at hl 7 rfl) ?_
      obtain ⟨hi_5, hf⟩ := ck_of hf
      refine g_iald hC hW 7 rfl hi_5 dX5_payment_73 ?_
      refine lv_imul hC.1 hC.2.1 dX5_payment_74 ?_
      refine lv_topi (fun x8_6 ex8_6 => ?_)
      have hf := lt_nm hf ex8_6
      refine lv_istore (lv' := [(8, .int x8_6), (0, .ref (aI 0)), (1, .int x1), (2, .int x2), (3, .int x3), (4, .int x4), (5, .int x5), (6, .int x6), (7, .int x7)]) hC.1 hC.2.1 dX5_payment_75 hl (by decide) rfl (fun ls hl => ?_)
      refine lv_iload hC.1 hC.2.1 dX5_payment_77 (lv_at hl 6 rfl) ?_
      refine lv_iload hC.1 hC.2.1 dX5_payment_79 (lv_at hl 0 rfl) ?_
      refine lv_iload_n hC.1 hC.2.1 dX5_payment_81 rfl (lv_at hl 4 rfl) ?_
      obtain ⟨hz_7, hf⟩ := ck_of hf
      refine lv_idiv hC.1 hC.2.1 dX5_payment_82 (nz_of hz_7) ?_
      refine lv_isub hC.1 hC.2.1 dX5_payment_83 ?_
      refine lv_topi (fun x5_8 ex5_8 => ?_)
      have hf := lt_nm hf ex5_8
      refine lv_istore (lv' := [(5, .int x5_8), (8, .int x8_6), (0, .ref (aI 0)), (1, .int x1), (2, .int x2), (3, .int x3), (4, .int x4), (6, .int x6), (7, .int x7)]) hC.1 hC.2.1 dX5_payment_84 hl (by decide) rfl (fun ls hl => ?_)
      refine lv_iload hC.1 hC.2.1 dX5_payment_86 (lv_at hl 1 rfl) ?_
      refine lv_iload_n hC.1 hC.2.1 dX5_payment_88 rfl (lv_at hl 5 rfl) ?_
      obtain ⟨hz_9, hf⟩ := ck_of hf
      refine lv_irem hC.1 hC.2.1 dX5_payment_89 (nz_of hz_9) ?_
      refine lv_iload hC.1 hC.2.1 dX5_payment_90 (lv_at hl 6 rfl) ?_
      refine lv_icmp_gt (tgt := 110) hC.1 hC.2.1 dX5_payment_92 (by decide) (fun hc_10 => ?_) (fun hc_10 => ?_)
      · have hf := ite_t hf hc_10
        exact t5_payment_110 hC ih  _ _ _ _ _ _ _ _ _ _ _ _ hf hW (lv_sub hl [2, 3, 4, 5, 6, 0, 7, 8] rfl)
      · have hf := ite_f hf hc_10
        refine lv_iload hC.1 hC.2.1 dX5_payment_95 (lv_at hl 1 rfl) ?_
        refine lv_iload_n hC.1 hC.2.1 dX5_payment_97 rfl (lv_at hl 5 rfl) ?_
        obtain ⟨hz_11, hf⟩ := ck_of hf
        refine lv_irem hC.1 hC.2.1 dX5_payment_98 (nz_of hz_11) ?_
        refine lv_iload hC.1 hC.2.1 dX5_payment_99 (lv_at hl 6 rfl) ?_
        refine lv_icmp_ne (tgt := 113) hC.1 hC.2.1 dX5_payment_101 (by decide) (fun hc_12 => ?_) (fun hc_12 => ?_)
        · have hf := ite_f hf hc_12
          exact t5_payment_113 hC ih  _ _ _ _ _ _ _ _ _ _ _ _ hf hW (lv_sub hl [2, 3, 4, 5, 6, 0, 7, 8] rfl)
        · have hf := ite_t hf hc_12
          refine lv_iload hC.1 hC.2.1 dX5_payment_104 (lv_at hl 8 rfl) ?_
          refine lv_iload_n hC.1 hC.2.1 dX5_payment_106 rfl (lv_at hl 4 rfl) ?_
          refine lv_icmp_ge (tgt := 113) hC.1 hC.2.1 dX5_payment_107 (by decide) (fun hc_13 => ?_) (fun hc_13 => ?_)
          · have hf := ite_t hf hc_13
            exact t5_payment_113 hC ih  _ _ _ _ _ _ _ _ _ _ _ _ hf hW (lv_sub hl [2, 3, 4, 5, 6, 0, 7, 8] rfl)
          · have hf := ite_f hf hc_13
            exact t5_payment_110 hC ih  _ _ _ _ _ _ _ _ _ _ _ _ hf hW (lv_sub hl [2, 3, 4, 5, 6, 0, 7, 8] rfl)
set_option maxRecDepth 100000 in
set_option maxHeartbeats 4000000 in
theorem t5_payment_5 (hC : Cx p s m args meth c cX5_payment 9 wsX5_payment RX5 (some .int)) : ∀ n : Nat, ∀ (x1 : Int32) (x2 : Int32) (x3 : Int32) (x4 : Int32) (SI : Ob) (res : Int32) (H : Heap) (locs : List Loc) (ls : Array Slot), f5_payment_5 n x1 x2 x3 x4 SI = some res → GW D cy ad (w4 cy aI SI) A s H locs → lv_has ls 9 [(0, .ref (aI 0)), (1, .int x1), (2, .int x2), (3, .int x3), (4, .int x4)] → W p l e rm5_payment s m args below meth c H locs 0 0 (MQ below (QI D cy (w4 cy aI SI) A res) args s 0 0 A) (F0 m 5 ls []) := by
  intro n
  induction n with
  | zero =>
    intro _ _ _ _ _ _ _ _ _ hf _ _
    exact nomatch (show (none : Option (Int32)) = some _ from hf)
  | succ n ih =>
    intro x1 x2 x3 x4 SI res H locs ls hf hW hl
    rw [f5_payment_5] at hf
    refine lv_iload hC.1 hC.2.1 dX5_payment_5 (lv_at hl 4 rfl) ?_
    refine lv_aload_n hC.1 hC.2.1 dX5_payment_7 rfl (lv_at hl 0 rfl) ?_
    refine g_get hC hW hin5_payment_4 0 rfl rfl 0 (by decide) 1 rfl rfl dX5_payment_8 ?_
    refine lv_icmp_ge (tgt := 30) hC.1 hC.2.1 dX5_payment_11 (by decide) (fun hc_1 => ?_) (fun hc_1 => ?_)
    · have hf := ite_t hf hc_1
      refine lv_iload_n hC.1 hC.2.1 dX5_payment_30 rfl (lv_at hl 3 rfl) ?_
      refine lv_if_ne (tgt := 36) hC.1 hC.2.1 dX5_payment_31 (by decide) (fun hc_2 => ?_) (fun hc_2 => ?_)
      · have hf := ite_f hf hc_2
        refine lv_iload_n hC.1 hC.2.1 dX5_payment_36 rfl (lv_at hl 1 rfl) ?_
        refine lv_aload_n hC.1 hC.2.1 dX5_payment_37 rfl (lv_at hl 0 rfl) ?_
        refine g_get hC hW hin5_payment_4 0 rfl rfl 7 (by decide) 2 rfl rfl dX5_payment_38 ?_
        refine lv_iload_n hC.1 hC.2.1 dX5_payment_41 rfl (lv_at hl 2 rfl) ?_
        obtain ⟨hi_3, hf⟩ := ck_of hf
        refine g_iald hC hW 7 rfl hi_3 dX5_payment_42 ?_
        refine lv_imul hC.1 hC.2.1 dX5_payment_43 ?_
        refine lv_iload_n hC.1 hC.2.1 dX5_payment_44 rfl (lv_at hl 3 rfl) ?_
        obtain ⟨hz_4, hf⟩ := ck_of hf
        refine lv_irem hC.1 hC.2.1 dX5_payment_45 (nz_of hz_4) ?_
        refine lv_topi (fun x4_5 ex4_5 => ?_)
        have hf := lt_nm hf ex4_5
        refine lv_istore (lv' := [(4, .int x4_5), (0, .ref (aI 0)), (1, .int x1), (2, .int x2), (3, .int x3)]) hC.1 hC.2.1 dX5_payment_46 hl (by decide) rfl (fun ls hl => ?_)
        refine lv_iload_n hC.1 hC.2.1 dX5_payment_48 rfl (lv_at hl 2 rfl) ?_
        refine lv_istore (lv' := [(5, .int x1), (4, .int x4_5), (0, .ref (aI 0)), (1, .int x1), (2, .int x2), (3, .int x3)]) hC.1 hC.2.1 dX5_payment_49 hl (by decide) rfl (fun ls hl => ?_)
        refine lv_iconst (v := 0) hC.1 hC.2.1 dX5_payment_51 (by decide) ?_
        refine lv_istore (lv' := [(6, .int 0), (5, .int x1), (4, .int x4_5), (0, .ref (aI 0)), (1, .int x1), (2, .int x2), (3, .int x3)]) hC.1 hC.2.1 dX5_payment_52 hl (by decide) rfl (fun ls hl => ?_)
        refine lv_iconst (v := 0) hC.1 hC.2.1 dX5_payment_54 (by decide) ?_
        refine lv_istore (lv' := [(7, .int 0), (6, .int 0), (5, .int x1), (4, .int x4_5), (0, .ref (aI 0)), (1, .int x1), (2, .int x2), (3, .int x3)]) hC.1 hC.2.1 dX5_payment_55 hl (by decide) rfl (fun ls hl => ?_)
        exact t5_payment_57 hC _ _ _ _ _ _ _ _ _ _ _ _ _ hf hW (lv_sub hl [4, 5, 6, 7, 3, 2, 1, 0] rfl)
      · have hf := ite_t hf hc_2
        refine lv_iconst (v := 0) hC.1 hC.2.1 dX5_payment_34 (by decide) ?_
        obtain rfl := Option.some.inj hf
        exact g_iret hC hW dX5_payment_35
    · have hf := ite_f hf hc_1
      refine lv_iload_n hC.1 hC.2.1 dX5_payment_14 rfl (lv_at hl 3 rfl) ?_
      refine lv_aload_n hC.1 hC.2.1 dX5_payment_15 rfl (lv_at hl 0 rfl) ?_
      refine g_get hC hW hin5_payment_4 0 rfl rfl 7 (by decide) 2 rfl rfl dX5_payment_16 ?_
      refine lv_iload hC.1 hC.2.1 dX5_payment_19 (lv_at hl 4 rfl) ?_
      obtain ⟨hi_6, hf⟩ := ck_of hf
      refine g_iald hC hW 7 rfl hi_6 dX5_payment_21 ?_
      refine lv_iadd hC.1 hC.2.1 dX5_payment_22 ?_
      refine lv_topi (fun x3_7 ex3_7 => ?_)
      have hf := lt_nm hf ex3_7
      refine lv_istore_n (lv' := [(3, .int x3_7), (0, .ref (aI 0)), (1, .int x1), (2, .int x2), (4, .int x4)]) hC.1 hC.2.1 dX5_payment_23 rfl hl (by decide) rfl (fun ls hl => ?_)
      obtain ⟨x4_8, ex4_8⟩ : ∃ y : Int32, y = x4 + 1 := ⟨_, rfl⟩
      have hf := lt_nm hf ex4_8
      refine lv_iinc (v := x4_8) (lv' := [(4, .int x4_8), (3, .int x3_7), (0, .ref (aI 0)), (1, .int x1), (2, .int x2)]) hC.1 hC.2.1 dX5_payment_24 hl (k := 4) rfl (by rw [ex4_8]; rfl) (by decide) rfl (fun ls hl => ?_)
      refine lv_goto (tgt := 5) hC.1 hC.2.1 dX5_payment_27 (by decide) ?_
      exact ih _ _ _ _ _ _ _ _ _ hf hW (lv_sub hl [2, 3, 4, 1, 0] rfl)
set_option maxRecDepth 100000 in
set_option maxHeartbeats 4000000 in
theorem t5_payment_0 (hC : Cx p s m args meth c cX5_payment 9 wsX5_payment RX5 (some .int)) : ∀ (x1 : Int32) (x2 : Int32) (SI : Ob) (res : Int32) (H : Heap) (locs : List Loc) (ls : Array Slot), f5_payment x1 x2 SI = some res → GW D cy ad (w4 cy aI SI) A s H locs → lv_has ls 9 [(0, .ref (aI 0)), (1, .int x1), (2, .int x2)] → W p l e rm5_payment s m args below meth c H locs 0 0 (MQ below (QI D cy (w4 cy aI SI) A res) args s 0 0 A) (F0 m 0 ls []) := by
  intro x1 x2 SI res H locs ls hf hW hl
  unfold f5_payment at hf
  refine lv_iconst (v := 0) hC.1 hC.2.1 dX5_payment_0 (by decide) ?_
  refine lv_istore_n (lv' := [(3, .int 0), (0, .ref (aI 0)), (1, .int x1), (2, .int x2)]) hC.1 hC.2.1 dX5_payment_1 rfl hl (by decide) rfl (fun ls hl => ?_)
  refine lv_iconst (v := 0) hC.1 hC.2.1 dX5_payment_2 (by decide) ?_
  refine lv_istore (lv' := [(4, .int 0), (3, .int 0), (0, .ref (aI 0)), (1, .int x1), (2, .int x2)]) hC.1 hC.2.1 dX5_payment_3 hl (by decide) rfl (fun ls hl => ?_)
  exact t5_payment_5 hC _ _ _ _ _ _ _ _ _ _ hf hW (lv_sub hl [2, 3, 4, 1, 0] rfl)
set_option maxRecDepth 100000 in
set_option maxHeartbeats 4000000 in
theorem c5_payment (l : Launch) (D : va_G) (cy : Nat → ClassId) (ad : Nat → Nat) (aI : Nat → Nat) {x1 : Int32} {x2 : Int32} {SI : Ob} {res : Int32} (h : f5_payment x1 x2 SI = some res) : GCi l yX5_payment wsX5_payment rm5_payment [.ref (aI 0), .int x1, .int x2] D cy ad (w4 cy aI SI) (w4 cy aI SI) res := fun sz => GC.start (own := RX5) (Qc := fun A => QI D cy (w4 cy aI SI) A res) sz (by decide) rfl rfl (Nat.le_of_ble_eq_true rfl) (fun p e s m below meth c A ls hC hW hl => t5_payment_0 hC _ _ _ _ _ _ _ h hW (lv_sub hl [0, 1, 2] rfl))
abbrev rm5_bedAll : Room := { frames := 14, cells := 0, slots := 0, locals := 358 }
theorem hdV5_bedAll : yX5_bedAll.cls = RX5 ∧ (yX5_bedAll.cls ≠ "java/lang/invoke/MethodHandle" ∧ yX5_bedAll.cls ≠ "java/lang/invoke/VarHandle" ∧ (parseMethodDescriptor yX5_bedAll.desc).map (fun d => d.parameters.length) = some 1) := by decide +kernel
set_option maxRecDepth 100000 in
set_option maxHeartbeats 4000000 in
theorem t5_bedAll_2 (hC : Cx p s m args meth c cX5_bedAll 3 wsX5_bedAll RX5 (some .int)) : ∀ n : Nat, ∀ (x2 : Int32) (SL : Ob) (SI : Ob) (res : Int32 × Ob) (H : Heap) (locs : List Loc) (ls : Array Slot), f5_bedAll_2 n x2 SL SI = some res → GW D cy ad (w5 cy aL SL ++ (w4 cy aI SI)) A s H locs → lv_has ls 3 [(0, .ref (aL 0)), (1, .ref (aI 0)), (2, .int x2)] → W p l e rm5_bedAll s m args below meth c H locs 0 0 (MQ below (QI D cy (w5 cy aL (res.2) ++ (w4 cy aI SI)) A (res.1)) args s 0 0 A) (F0 m 2 ls []) := by
  intro n
  induction n with
  | zero =>
    intro _ _ _ _ _ _ _ hf _ _
    exact nomatch (show (none : Option (Int32 × Ob)) = some _ from hf)
  | succ n ih =>
    intro x2 SL SI res H locs ls hf hW hl
    rw [f5_bedAll_2] at hf
    refine lv_iload_n hC.1 hC.2.1 dX5_bedAll_2 rfl (lv_at hl 2 rfl) ?_
    refine lv_bipush (v := 8) hC.1 hC.2.1 dX5_bedAll_3 (by decide) ?_
    refine lv_icmp_ge (tgt := 27) hC.1 hC.2.1 dX5_bedAll_5 (by decide) (fun hc_1 => ?_) (fun hc_1 => ?_)
    · have hf := ite_t hf hc_1
      refine lv_aload_n hC.1 hC.2.1 dX5_bedAll_27 rfl (lv_at hl 0 rfl) ?_
      refine lv_aload_n hC.1 hC.2.1 dX5_bedAll_28 rfl (lv_at hl 1 rfl) ?_
      refine lv_iconst (v := 0) hC.1 hC.2.1 dX5_bedAll_29 (by decide) ?_
      refine lv_iconst (v := 0) hC.1 hC.2.1 dX5_bedAll_30 (by decide) ?_
      refine lv_bipush (v := 8) hC.1 hC.2.1 dX5_bedAll_31 (by decide) ?_
      obtain ⟨r_2, hg_3, hf⟩ := bd_of hf
      refine g_calliS (w' := w5 cy aL (r_2.2) ++ (w4 cy aI SI)) hC hW (c5_bedFrom l D cy ad aL aI DP hg_3) (va_cwS 5 hC.2.2.2.2.1 gX5_bedAll_X5_bedFrom rfl rfl rfl hdS5_bedFrom ⟨Nat.le_of_ble_eq_true rfl, Nat.le_of_ble_eq_true rfl⟩) (Sub.all _ _) rfl hl.1 rfl (Nat.le_of_ble_eq_true rfl) dX5_bedAll_33 ⟨Nat.zero_le _, Nat.zero_le _⟩ (fun H locs hW => ?_)
      refine lv_pop hC.1 hC.2.1 dX5_bedAll_36 rfl ?_
      refine lv_bipush (v := 8) hC.1 hC.2.1 dX5_bedAll_37 (by decide) ?_
      obtain rfl := Option.some.inj hf
      exact g_iret hC hW dX5_bedAll_39
    · have hf := ite_f hf hc_1
      refine lv_aload_n hC.1 hC.2.1 dX5_bedAll_8 rfl (lv_at hl 0 rfl) ?_
      refine lv_aload_n hC.1 hC.2.1 dX5_bedAll_9 rfl (lv_at hl 1 rfl) ?_
      refine lv_iconst (v := 0) hC.1 hC.2.1 dX5_bedAll_10 (by decide) ?_
      refine lv_iconst (v := 0) hC.1 hC.2.1 dX5_bedAll_11 (by decide) ?_
      refine lv_iload_n hC.1 hC.2.1 dX5_bedAll_12 rfl (lv_at hl 2 rfl) ?_
      obtain ⟨r_4, hg_5, hf⟩ := bd_of hf
      refine g_calliS (w' := w5 cy aL (r_4.2) ++ (w4 cy aI SI)) hC hW (c5_bedFrom l D cy ad aL aI DP hg_5) (va_cwS 5 hC.2.2.2.2.1 gX5_bedAll_X5_bedFrom rfl rfl rfl hdS5_bedFrom ⟨Nat.le_of_ble_eq_true rfl, Nat.le_of_ble_eq_true rfl⟩) (Sub.all _ _) rfl hl.1 rfl (Nat.le_of_ble_eq_true rfl) dX5_bedAll_13 ⟨Nat.zero_le _, Nat.zero_le _⟩ (fun H locs hW => ?_)
      refine lv_if_eq (tgt := 21) hC.1 hC.2.1 dX5_bedAll_16 (by decide) (fun hc_6 => ?_) (fun hc_6 => ?_)
      · have hf := ite_t hf hc_6
        obtain ⟨x2_7, ex2_7⟩ : ∃ y : Int32, y = x2 + 1 := ⟨_, rfl⟩
        have hf := lt_nm hf ex2_7
        refine lv_iinc (v := x2_7) (lv' := [(2, .int x2_7), (0, .ref (aL 0)), (1, .ref (aI 0))]) hC.1 hC.2.1 dX5_bedAll_21 hl (k := 2) rfl (by rw [ex2_7]; rfl) (by decide) rfl (fun ls hl => ?_)
        refine lv_goto (tgt := 2) hC.1 hC.2.1 dX5_bedAll_24 (by decide) ?_
        exact ih _ _ _ _ _ _ _ hf hW (lv_sub hl [1, 2, 0] rfl)
      · have hf := ite_f hf hc_6
        refine lv_iload_n hC.1 hC.2.1 dX5_bedAll_19 rfl (lv_at hl 2 rfl) ?_
        obtain rfl := Option.some.inj hf
        exact g_iret hC hW dX5_bedAll_20
set_option maxRecDepth 100000 in
set_option maxHeartbeats 4000000 in
theorem t5_bedAll_0 (hC : Cx p s m args meth c cX5_bedAll 3 wsX5_bedAll RX5 (some .int)) : ∀ (SL : Ob) (SI : Ob) (res : Int32 × Ob) (H : Heap) (locs : List Loc) (ls : Array Slot), f5_bedAll SL SI = some res → GW D cy ad (w5 cy aL SL ++ (w4 cy aI SI)) A s H locs → lv_has ls 3 [(0, .ref (aL 0)), (1, .ref (aI 0))] → W p l e rm5_bedAll s m args below meth c H locs 0 0 (MQ below (QI D cy (w5 cy aL (res.2) ++ (w4 cy aI SI)) A (res.1)) args s 0 0 A) (F0 m 0 ls []) := by
  intro SL SI res H locs ls hf hW hl
  unfold f5_bedAll at hf
  refine lv_iconst (v := 0) hC.1 hC.2.1 dX5_bedAll_0 (by decide) ?_
  refine lv_istore_n (lv' := [(2, .int 0), (0, .ref (aL 0)), (1, .ref (aI 0))]) hC.1 hC.2.1 dX5_bedAll_1 rfl hl (by decide) rfl (fun ls hl => ?_)
  exact t5_bedAll_2 hC _ _ _ _ _ _ _ _ hf hW (lv_sub hl [1, 2, 0] rfl)
set_option maxRecDepth 100000 in
set_option maxHeartbeats 4000000 in
theorem c5_bedAll (l : Launch) (D : va_G) (cy : Nat → ClassId) (ad : Nat → Nat) (aL : Nat → Nat) (aI : Nat → Nat) {SL : Ob} {SI : Ob} {res : Int32 × Ob} (h : f5_bedAll SL SI = some res) : GCi l yX5_bedAll wsX5_bedAll rm5_bedAll [.ref (aL 0), .ref (aI 0)] D cy ad (w5 cy aL SL ++ (w4 cy aI SI)) (w5 cy aL (res.2) ++ (w4 cy aI SI)) (res.1) := fun sz => GC.start (own := RX5) (Qc := fun A => QI D cy (w5 cy aL (res.2) ++ (w4 cy aI SI)) A (res.1)) sz (by decide) rfl rfl (Nat.le_of_ble_eq_true rfl) (fun p e s m below meth c A ls hC hW hl => t5_bedAll_0 hC _ _ _ _ _ _ h hW (lv_sub hl [0, 1] rfl))
abbrev rm5_neighbours : Room := { frames := 1, cells := 0, slots := 0, locals := 30 }
theorem hdS5_neighbours : (yX5_neighbours.cls ≠ "java/lang/invoke/MethodHandle" ∧ yX5_neighbours.cls ≠ "java/lang/invoke/VarHandle" ∧ (parseMethodDescriptor yX5_neighbours.desc).map (fun d => d.parameters.length) = some 3) := by decide +kernel
theorem hin5_neighbours_4 : ∀ x ∈ u_ws RX4 TX4 13, x ∈ wsX5_neighbours := fun _ h => List.mem_cons_of_mem _ (List.mem_append_right _ h)
set_option maxRecDepth 100000 in
set_option maxHeartbeats 4000000 in
theorem t5_neighbours_48 (hC : Cx p s m args meth c cX5_neighbours 5 wsX5_neighbours RX5 (some .int)) {k5 : Int32 → Int32 → Int32 → Int32 → Ob → Option (Int32)} (hk5 : ∀ (x1 : Int32) (x2 : Int32) (x3 : Int32) (x4 : Int32) (SI : Ob) (res : Int32) (H : Heap) (locs : List Loc) (ls : Array Slot), k5 x1 x2 x3 x4 SI = some res → GW D cy ad (w4 cy aI SI) A s H locs → lv_has ls 5 [(0, .ref (aI 0)), (1, .int x1), (2, .int x2), (3, .int x3), (4, .int x4)] → W p l e rm5_neighbours s m args below meth c H locs 0 0 (MQ below (QI D cy (w4 cy aI SI) A res) args s 0 0 A) (F0 m 5 ls [])) : ∀ (x1 : Int32) (x2 : Int32) (x3 : Int32) (x4 : Int32) (SI : Ob) (res : Int32) (H : Heap) (locs : List Loc) (ls : Array Slot), f5_neighbours_48 k5 x1 x2 x3 x4 SI = some res → GW D cy ad (w4 cy aI SI) A s H locs → lv_has ls 5 [(0, .ref (aI 0)), (1, .int x1), (2, .int x2), (3, .int x3), (4, .int x4)] → W p l e rm5_neighbours s m args below meth c H locs 0 0 (MQ below (QI D cy (w4 cy aI SI) A res) args s 0 0 A) (F0 m 48 ls []) := by
  intro x1 x2 x3 x4 SI res H locs ls hf hW hl
  unfold f5_neighbours_48 at hf
  obtain ⟨x4_1, ex4_1⟩ : ∃ y : Int32, y = x4 + 1 := ⟨_, rfl⟩
  have hf := lt_nm hf ex4_1
  refine lv_iinc (v := x4_1) (lv' := [(4, .int x4_1), (0, .ref (aI 0)), (1, .int x1), (2, .int x2), (3, .int x3)]) hC.1 hC.2.1 dX5_neighbours_48 hl (k := 4) rfl (by rw [ex4_1]; rfl) (by decide) rfl (fun ls hl => ?_)
  refine lv_goto (tgt := 5) hC.1 hC.2.1 dX5_neighbours_51 (by decide) ?_
  exact hk5 _ _ _ _ _ _ _ _ _ hf hW (lv_sub hl [1, 2, 3, 4, 0] rfl)
set_option maxRecDepth 100000 in
set_option maxHeartbeats 4000000 in
theorem t5_neighbours_5 (hC : Cx p s m args meth c cX5_neighbours 5 wsX5_neighbours RX5 (some .int)) : ∀ n : Nat, ∀ (x1 : Int32) (x2 : Int32) (x3 : Int32) (x4 : Int32) (SI : Ob) (res : Int32) (H : Heap) (locs : List Loc) (ls : Array Slot), f5_neighbours_5 n x1 x2 x3 x4 SI = some res → GW D cy ad (w4 cy aI SI) A s H locs → lv_has ls 5 [(0, .ref (aI 0)), (1, .int x1), (2, .int x2), (3, .int x3), (4, .int x4)] → W p l e rm5_neighbours s m args below meth c H locs 0 0 (MQ below (QI D cy (w4 cy aI SI) A res) args s 0 0 A) (F0 m 5 ls []) := by
  intro n
  induction n with
  | zero =>
    intro _ _ _ _ _ _ _ _ _ hf _ _
    exact nomatch (show (none : Option (Int32)) = some _ from hf)
  | succ n ih =>
    intro x1 x2 x3 x4 SI res H locs ls hf hW hl
    rw [f5_neighbours_5] at hf
    refine lv_iload hC.1 hC.2.1 dX5_neighbours_5 (lv_at hl 4 rfl) ?_
    refine lv_aload_n hC.1 hC.2.1 dX5_neighbours_7 rfl (lv_at hl 0 rfl) ?_
    refine g_get hC hW hin5_neighbours_4 0 rfl rfl 0 (by decide) 1 rfl rfl dX5_neighbours_8 ?_
    refine lv_icmp_ge (tgt := 54) hC.1 hC.2.1 dX5_neighbours_11 (by decide) (fun hc_1 => ?_) (fun hc_1 => ?_)
    · have hf := ite_t hf hc_1
      refine lv_iload_n hC.1 hC.2.1 dX5_neighbours_54 rfl (lv_at hl 3 rfl) ?_
      obtain rfl := Option.some.inj hf
      exact g_iret hC hW dX5_neighbours_55
    · have hf := ite_f hf hc_1
      refine lv_iload hC.1 hC.2.1 dX5_neighbours_14 (lv_at hl 4 rfl) ?_
      refine lv_iload_n hC.1 hC.2.1 dX5_neighbours_16 rfl (lv_at hl 1 rfl) ?_
      refine lv_icmp_eq (tgt := 48) hC.1 hC.2.1 dX5_neighbours_17 (by decide) (fun hc_2 => ?_) (fun hc_2 => ?_)
      · have hf := ite_t hf hc_2
        exact t5_neighbours_48 hC ih  _ _ _ _ _ _ _ _ _ hf hW (lv_sub hl [0, 1, 2, 3, 4] rfl)
      · have hf := ite_f hf hc_2
        refine lv_aload_n hC.1 hC.2.1 dX5_neighbours_20 rfl (lv_at hl 0 rfl) ?_
        refine g_get hC hW hin5_neighbours_4 0 rfl rfl 3 (by decide) 2 rfl rfl dX5_neighbours_21 ?_
        refine lv_iload hC.1 hC.2.1 dX5_neighbours_24 (lv_at hl 4 rfl) ?_
        obtain ⟨hi_3, hf⟩ := ck_of hf
        refine g_iald hC hW 3 rfl hi_3 dX5_neighbours_26 ?_
        refine lv_aload_n hC.1 hC.2.1 dX5_neighbours_27 rfl (lv_at hl 0 rfl) ?_
        refine g_get hC hW hin5_neighbours_4 0 rfl rfl 3 (by decide) 2 rfl rfl dX5_neighbours_28 ?_
        refine lv_iload_n hC.1 hC.2.1 dX5_neighbours_31 rfl (lv_at hl 1 rfl) ?_
        obtain ⟨hi_4, hf⟩ := ck_of hf
        refine g_iald hC hW 3 rfl hi_4 dX5_neighbours_32 ?_
        refine lv_isub hC.1 hC.2.1 dX5_neighbours_33 ?_
        refine va_mabs hC.1 hC.2.1 (by rw [hC.2.2.1]; exact hl.1.symm) hC.2.2.2.1 (hC.2.2.2.2.1 _ (List.mem_of_getElem? (i := 3) rfl)) (hC.2.2.2.2.1 _ (List.mem_of_getElem? (i := 4) rfl)) (hC.2.2.2.2.1 _ (List.mem_of_getElem? (i := 5) rfl)) (hC.2.2.2.2.1 _ (List.mem_of_getElem? (i := 6) rfl)) (Nat.le_of_ble_eq_true rfl) (Nat.le_of_ble_eq_true rfl) (Nat.zero_le _) (Nat.zero_le _) dX5_neighbours_34 ?_
        refine lv_iload_n hC.1 hC.2.1 dX5_neighbours_37 rfl (lv_at hl 2 rfl) ?_
        refine lv_icmp_gt (tgt := 48) hC.1 hC.2.1 dX5_neighbours_38 (by decide) (fun hc_5 => ?_) (fun hc_5 => ?_)
        · have hf := ite_t hf hc_5
          exact t5_neighbours_48 hC ih  _ _ _ _ _ _ _ _ _ hf hW (lv_sub hl [0, 1, 2, 3, 4] rfl)
        · have hf := ite_f hf hc_5
          refine lv_iload_n hC.1 hC.2.1 dX5_neighbours_41 rfl (lv_at hl 3 rfl) ?_
          refine lv_iconst (v := 1) hC.1 hC.2.1 dX5_neighbours_42 (by decide) ?_
          refine lv_iload hC.1 hC.2.1 dX5_neighbours_43 (lv_at hl 4 rfl) ?_
          refine lv_ishl hC.1 hC.2.1 dX5_neighbours_45 ?_
          refine lv_ior hC.1 hC.2.1 dX5_neighbours_46 ?_
          refine lv_topi (fun x3_6 ex3_6 => ?_)
          have hf := lt_nm hf ex3_6
          refine lv_istore_n (lv' := [(3, .int x3_6), (0, .ref (aI 0)), (1, .int x1), (2, .int x2), (4, .int x4)]) hC.1 hC.2.1 dX5_neighbours_47 rfl hl (by decide) rfl (fun ls hl => ?_)
          exact t5_neighbours_48 hC ih  _ _ _ _ _ _ _ _ _ hf hW (lv_sub hl [1, 2, 3, 0, 4] rfl)
set_option maxRecDepth 100000 in
set_option maxHeartbeats 4000000 in
theorem t5_neighbours_0 (hC : Cx p s m args meth c cX5_neighbours 5 wsX5_neighbours RX5 (some .int)) : ∀ (x1 : Int32) (x2 : Int32) (SI : Ob) (res : Int32) (H : Heap) (locs : List Loc) (ls : Array Slot), f5_neighbours x1 x2 SI = some res → GW D cy ad (w4 cy aI SI) A s H locs → lv_has ls 5 [(0, .ref (aI 0)), (1, .int x1), (2, .int x2)] → W p l e rm5_neighbours s m args below meth c H locs 0 0 (MQ below (QI D cy (w4 cy aI SI) A res) args s 0 0 A) (F0 m 0 ls []) := by
  intro x1 x2 SI res H locs ls hf hW hl
  unfold f5_neighbours at hf
  refine lv_iconst (v := 0) hC.1 hC.2.1 dX5_neighbours_0 (by decide) ?_
  refine lv_istore_n (lv' := [(3, .int 0), (0, .ref (aI 0)), (1, .int x1), (2, .int x2)]) hC.1 hC.2.1 dX5_neighbours_1 rfl hl (by decide) rfl (fun ls hl => ?_)
  refine lv_iconst (v := 0) hC.1 hC.2.1 dX5_neighbours_2 (by decide) ?_
  refine lv_istore (lv' := [(4, .int 0), (3, .int 0), (0, .ref (aI 0)), (1, .int x1), (2, .int x2)]) hC.1 hC.2.1 dX5_neighbours_3 hl (by decide) rfl (fun ls hl => ?_)
  exact t5_neighbours_5 hC _ _ _ _ _ _ _ _ _ _ hf hW (lv_sub hl [2, 3, 4, 1, 0] rfl)
set_option maxRecDepth 100000 in
set_option maxHeartbeats 4000000 in
theorem c5_neighbours (l : Launch) (D : va_G) (cy : Nat → ClassId) (ad : Nat → Nat) (aI : Nat → Nat) {x1 : Int32} {x2 : Int32} {SI : Ob} {res : Int32} (h : f5_neighbours x1 x2 SI = some res) : GCi l yX5_neighbours wsX5_neighbours rm5_neighbours [.ref (aI 0), .int x1, .int x2] D cy ad (w4 cy aI SI) (w4 cy aI SI) res := fun sz => GC.start (own := RX5) (Qc := fun A => QI D cy (w4 cy aI SI) A res) sz (by decide) rfl rfl (Nat.le_of_ble_eq_true rfl) (fun p e s m below meth c A ls hC hW hl => t5_neighbours_0 hC _ _ _ _ _ _ _ h hW (lv_sub hl [0, 1, 2] rfl))
abbrev rm5_watchesAll : Room := { frames := 1, cells := 0, slots := 0, locals := 20 }
theorem hdV5_watchesAll : yX5_watchesAll.cls = RX5 ∧ (yX5_watchesAll.cls ≠ "java/lang/invoke/MethodHandle" ∧ yX5_watchesAll.cls ≠ "java/lang/invoke/VarHandle" ∧ (parseMethodDescriptor yX5_watchesAll.desc).map (fun d => d.parameters.length) = some 3) := by decide +kernel
theorem hin5_watchesAll_4 : ∀ x ∈ u_ws RX4 TX4 13, x ∈ wsX5_watchesAll := fun _ h => List.mem_cons_of_mem _ (List.mem_append_left _ (List.mem_append_right _ h))
theorem hin5_watchesAll_5 : ∀ x ∈ u_ws RX5 TX5 3, x ∈ wsX5_watchesAll := fun _ h => List.mem_cons_of_mem _ (List.mem_append_right _ h)
set_option maxRecDepth 100000 in
set_option maxHeartbeats 4000000 in
theorem t5_watchesAll_3 (hC : Cx p s m args meth c cX5_watchesAll 5 wsX5_watchesAll RX5 (some .boolean)) : ∀ n : Nat, ∀ (x2 : Int32) (x3 : Int32) (x4 : Int32) (SL : Ob) (SI : Ob) (res : Int32) (H : Heap) (locs : List Loc) (ls : Array Slot), f5_watchesAll_3 n x2 x3 x4 SL SI = some res → GW D cy ad (w5 cy aL SL ++ (w4 cy aI SI)) A s H locs → lv_has ls 5 [(0, .ref (aL 0)), (1, .ref (aI 0)), (2, .int x2), (3, .int x3), (4, .int x4)] → W p l e rm5_watchesAll s m args below meth c H locs 0 0 (MQ below (QI D cy (w5 cy aL SL ++ (w4 cy aI SI)) A res) args s 0 0 A) (F0 m 3 ls []) := by
  intro n
  induction n with
  | zero =>
    intro _ _ _ _ _ _ _ _ _ hf _ _
    exact nomatch (show (none : Option (Int32)) = some _ from hf)
  | succ n ih =>
    intro x2 x3 x4 SL SI res H locs ls hf hW hl
    rw [f5_watchesAll_3] at hf
    refine lv_iload hC.1 hC.2.1 dX5_watchesAll_3 (lv_at hl 4 rfl) ?_
    refine lv_aload_n hC.1 hC.2.1 dX5_watchesAll_5 rfl (lv_at hl 1 rfl) ?_
    refine g_get hC hW hin5_watchesAll_4 4 rfl rfl 0 (by decide) 1 rfl rfl dX5_watchesAll_6 ?_
    refine lv_icmp_ge (tgt := 36) hC.1 hC.2.1 dX5_watchesAll_9 (by decide) (fun hc_1 => ?_) (fun hc_1 => ?_)
    · have hf := ite_t hf hc_1
      refine lv_iconst (v := 1) hC.1 hC.2.1 dX5_watchesAll_36 (by decide) ?_
      obtain rfl := Option.some.inj hf
      exact g_zret (v := 1) hC hW (by decide) dX5_watchesAll_37
    · have hf := ite_f hf hc_1
      refine lv_iload_n hC.1 hC.2.1 dX5_watchesAll_12 rfl (lv_at hl 2 rfl) ?_
      refine lv_aload_n hC.1 hC.2.1 dX5_watchesAll_13 rfl (lv_at hl 0 rfl) ?_
      refine g_get hC hW hin5_watchesAll_5 0 rfl rfl 2 (by decide) 2 rfl rfl dX5_watchesAll_14 ?_
      refine lv_iload hC.1 hC.2.1 dX5_watchesAll_17 (lv_at hl 4 rfl) ?_
      obtain ⟨hi_2, hf⟩ := ck_of hf
      refine g_iald hC hW 3 rfl hi_2 dX5_watchesAll_19 ?_
      refine lv_iand hC.1 hC.2.1 dX5_watchesAll_20 ?_
      obtain ⟨r_3, hg_4, hf⟩ := bd_of hf
      refine g_calliS (w' := w5 cy aL SL ++ (w4 cy aI SI)) hC hW (cj6_bitCount l D cy ad  hg_4) (va_cwS 1 hC.2.2.2.2.1 gX5_watchesAll_J6_bitCount_0f7a4 rfl rfl rfl hdSj6_bitCount ⟨Nat.le_of_ble_eq_true rfl, Nat.le_of_ble_eq_true rfl⟩) (Sub.nil _) rfl hl.1 rfl (Nat.le_of_ble_eq_true rfl) dX5_watchesAll_21 ⟨Nat.zero_le _, Nat.zero_le _⟩ (fun H locs hW => ?_)
      refine lv_iload_n hC.1 hC.2.1 dX5_watchesAll_24 rfl (lv_at hl 3 rfl) ?_
      refine lv_icmp_ge (tgt := 30) hC.1 hC.2.1 dX5_watchesAll_25 (by decide) (fun hc_5 => ?_) (fun hc_5 => ?_)
      · have hf := ite_t hf hc_5
        obtain ⟨x4_6, ex4_6⟩ : ∃ y : Int32, y = x4 + 1 := ⟨_, rfl⟩
        have hf := lt_nm hf ex4_6
        refine lv_iinc (v := x4_6) (lv' := [(4, .int x4_6), (0, .ref (aL 0)), (1, .ref (aI 0)), (2, .int x2), (3, .int x3)]) hC.1 hC.2.1 dX5_watchesAll_30 hl (k := 4) rfl (by rw [ex4_6]; rfl) (by decide) rfl (fun ls hl => ?_)
        refine lv_goto (tgt := 3) hC.1 hC.2.1 dX5_watchesAll_33 (by decide) ?_
        exact ih _ _ _ _ _ _ _ _ _ hf hW (lv_sub hl [1, 2, 3, 4, 0] rfl)
      · have hf := ite_f hf hc_5
        refine lv_iconst (v := 0) hC.1 hC.2.1 dX5_watchesAll_28 (by decide) ?_
        obtain rfl := Option.some.inj hf
        exact g_zret (v := 0) hC hW (by decide) dX5_watchesAll_29
set_option maxRecDepth 100000 in
set_option maxHeartbeats 4000000 in
theorem t5_watchesAll_0 (hC : Cx p s m args meth c cX5_watchesAll 5 wsX5_watchesAll RX5 (some .boolean)) : ∀ (x2 : Int32) (x3 : Int32) (SL : Ob) (SI : Ob) (res : Int32) (H : Heap) (locs : List Loc) (ls : Array Slot), f5_watchesAll x2 x3 SL SI = some res → GW D cy ad (w5 cy aL SL ++ (w4 cy aI SI)) A s H locs → lv_has ls 5 [(0, .ref (aL 0)), (1, .ref (aI 0)), (2, .int x2), (3, .int x3)] → W p l e rm5_watchesAll s m args below meth c H locs 0 0 (MQ below (QI D cy (w5 cy aL SL ++ (w4 cy aI SI)) A res) args s 0 0 A) (F0 m 0 ls []) := by
  intro x2 x3 SL SI res H locs ls hf hW hl
  unfold f5_watchesAll at hf
  refine lv_iconst (v := 0) hC.1 hC.2.1 dX5_watchesAll_0 (by decide) ?_
  refine lv_istore (lv' := [(4, .int 0), (0, .ref (aL 0)), (1, .ref (aI 0)), (2, .int x2), (3, .int x3)]) hC.1 hC.2.1 dX5_watchesAll_1 hl (by decide) rfl (fun ls hl => ?_)
  exact t5_watchesAll_3 hC _ _ _ _ _ _ _ _ _ _ hf hW (lv_sub hl [1, 2, 3, 4, 0] rfl)
set_option maxRecDepth 100000 in
set_option maxHeartbeats 4000000 in
theorem c5_watchesAll (l : Launch) (D : va_G) (cy : Nat → ClassId) (ad : Nat → Nat) (aL : Nat → Nat) (aI : Nat → Nat) {x2 : Int32} {x3 : Int32} {SL : Ob} {SI : Ob} {res : Int32} (h : f5_watchesAll x2 x3 SL SI = some res) : GCi l yX5_watchesAll wsX5_watchesAll rm5_watchesAll [.ref (aL 0), .ref (aI 0), .int x2, .int x3] D cy ad (w5 cy aL SL ++ (w4 cy aI SI)) (w5 cy aL SL ++ (w4 cy aI SI)) res := fun sz => GC.start (own := RX5) (Qc := fun A => QI D cy (w5 cy aL SL ++ (w4 cy aI SI)) A res) sz (by decide) rfl rfl (Nat.le_of_ble_eq_true rfl) (fun p e s m below meth c A ls hC hW hl => t5_watchesAll_0 hC _ _ _ _ _ _ _ _ h hW (lv_sub hl [0, 1, 2, 3] rfl))
abbrev rm5_awake : Room := { frames := 2, cells := 0, slots := 0, locals := 54 }
theorem hdV5_awake : yX5_awake.cls = RX5 ∧ (yX5_awake.cls ≠ "java/lang/invoke/MethodHandle" ∧ yX5_awake.cls ≠ "java/lang/invoke/VarHandle" ∧ (parseMethodDescriptor yX5_awake.desc).map (fun d => d.parameters.length) = some 3) := by decide +kernel
theorem hin5_awake_4 : ∀ x ∈ u_ws RX4 TX4 13, x ∈ wsX5_awake := fun _ h => List.mem_cons_of_mem _ (List.mem_append_left _ (List.mem_append_right _ h))
theorem hin5_awake_5 : ∀ x ∈ u_ws RX5 TX5 3, x ∈ wsX5_awake := fun _ h => List.mem_cons_of_mem _ (List.mem_append_right _ h)
set_option maxRecDepth 100000 in
set_option maxHeartbeats 4000000 in
theorem t5_awake_95 (hC : Cx p s m args meth c cX5_awake 7 wsX5_awake RX5 (some .int)) {k38 : Int32 → Int32 → Int32 → Ob → Ob → Option (Int32 × Ob)} (hk38 : ∀ (x2 : Int32) (x4 : Int32) (x5 : Int32) (SL : Ob) (SI : Ob) (res : Int32 × Ob) (H : Heap) (locs : List Loc) (ls : Array Slot), k38 x2 x4 x5 SL SI = some res → GW D cy ad (w5 cy aL SL ++ (w4 cy aI SI)) A s H locs → lv_has ls 7 [(0, .ref (aL 0)), (1, .ref (aI 0)), (2, .int x2), (4, .int x4), (5, .int x5)] → W p l e rm5_awake s m args below meth c H locs 0 0 (MQ below (QI D cy (w5 cy aL (res.2) ++ (w4 cy aI SI)) A (res.1)) args s 0 0 A) (F0 m 38 ls [])) : ∀ (x2 : Int32) (x4 : Int32) (x5 : Int32) (SL : Ob) (SI : Ob) (res : Int32 × Ob) (H : Heap) (locs : List Loc) (ls : Array Slot), f5_awake_95 k38 x2 x4 x5 SL SI = some res → GW D cy ad (w5 cy aL SL ++ (w4 cy aI SI)) A s H locs → lv_has ls 7 [(0, .ref (aL 0)), (1, .ref (aI 0)), (2, .int x2), (4, .int x4), (5, .int x5)] → W p l e rm5_awake s m args below meth c H locs 0 0 (MQ below (QI D cy (w5 cy aL (res.2) ++ (w4 cy aI SI)) A (res.1)) args s 0 0 A) (F0 m 95 ls []) := by
  intro x2 x4 x5 SL SI res H locs ls hf hW hl
  unfold f5_awake_95 at hf
  obtain ⟨x5_1, ex5_1⟩ : ∃ y : Int32, y = x5 + 1 := ⟨_, rfl⟩
  have hf := lt_nm hf ex5_1
  refine lv_iinc (v := x5_1) (lv' := [(5, .int x5_1), (0, .ref (aL 0)), (1, .ref (aI 0)), (2, .int x2), (4, .int x4)]) hC.1 hC.2.1 dX5_awake_95 hl (k := 4) rfl (by rw [ex5_1]; rfl) (by decide) rfl (fun ls hl => ?_)
  refine lv_goto (tgt := 38) hC.1 hC.2.1 dX5_awake_98 (by decide) ?_
  exact hk38 _ _ _ _ _ _ _ _ _ hf hW (lv_sub hl [1, 2, 3, 4, 0] rfl)
set_option maxRecDepth 100000 in
set_option maxHeartbeats 4000000 in
theorem t5_awake_73 (hC : Cx p s m args meth c cX5_awake 7 wsX5_awake RX5 (some .int)) {k38 : Int32 → Int32 → Int32 → Ob → Ob → Option (Int32 × Ob)} (hk38 : ∀ (x2 : Int32) (x4 : Int32) (x5 : Int32) (SL : Ob) (SI : Ob) (res : Int32 × Ob) (H : Heap) (locs : List Loc) (ls : Array Slot), k38 x2 x4 x5 SL SI = some res → GW D cy ad (w5 cy aL SL ++ (w4 cy aI SI)) A s H locs → lv_has ls 7 [(0, .ref (aL 0)), (1, .ref (aI 0)), (2, .int x2), (4, .int x4), (5, .int x5)] → W p l e rm5_awake s m args below meth c H locs 0 0 (MQ below (QI D cy (w5 cy aL (res.2) ++ (w4 cy aI SI)) A (res.1)) args s 0 0 A) (F0 m 38 ls [])) : ∀ (x2 : Int32) (x4 : Int32) (x5 : Int32) (z0 : Int32) (SL : Ob) (SI : Ob) (res : Int32 × Ob) (H : Heap) (locs : List Loc) (ls : Array Slot), f5_awake_73 k38 x2 x4 x5 z0 SL SI = some res → GW D cy ad (w5 cy aL SL ++ (w4 cy aI SI)) A s H locs → lv_has ls 7 [(0, .ref (aL 0)), (1, .ref (aI 0)), (2, .int x2), (4, .int x4), (5, .int x5)] → W p l e rm5_awake s m args below meth c H locs 0 0 (MQ below (QI D cy (w5 cy aL (res.2) ++ (w4 cy aI SI)) A (res.1)) args s 0 0 A) (F0 m 73 ls [.int z0]) := by
  intro x2 x4 x5 z0 SL SI res H locs ls hf hW hl
  unfold f5_awake_73 at hf
  refine lv_istore (lv' := [(6, .int z0), (0, .ref (aL 0)), (1, .ref (aI 0)), (2, .int x2), (4, .int x4), (5, .int x5)]) hC.1 hC.2.1 dX5_awake_73 hl (by decide) rfl (fun ls hl => ?_)
  refine lv_iload hC.1 hC.2.1 dX5_awake_75 (lv_at hl 0 rfl) ?_
  refine lv_if_eq (tgt := 95) hC.1 hC.2.1 dX5_awake_77 (by decide) (fun hc_1 => ?_) (fun hc_1 => ?_)
  · have hf := ite_t hf hc_1
    exact t5_awake_95 hC hk38  _ _ _ _ _ _ _ _ _ hf hW (lv_sub hl [1, 2, 3, 4, 5] rfl)
  · have hf := ite_f hf hc_1
    refine lv_aload_n hC.1 hC.2.1 dX5_awake_80 rfl (lv_at hl 1 rfl) ?_
    refine lv_aload_n hC.1 hC.2.1 dX5_awake_81 rfl (lv_at hl 2 rfl) ?_
    refine lv_iload hC.1 hC.2.1 dX5_awake_82 (lv_at hl 5 rfl) ?_
    refine lv_iload_n hC.1 hC.2.1 dX5_awake_84 rfl (lv_at hl 3 rfl) ?_
    obtain ⟨r_2, hg_3, hf⟩ := bd_of hf
    refine g_calliV (w' := w5 cy aL SL ++ (w4 cy aI SI)) hC hW (c5_watchesAll l D cy ad aL aI hg_3) (cwV 3 hC.2.2.2.2.1 gX5_awake_X5_watchesAll rfl rfl rfl hdV5_watchesAll ⟨Nat.le_of_ble_eq_true rfl, Nat.le_of_ble_eq_true rfl⟩) (Sub.all _ _) 0 5 rfl rfl rfl rfl hl.1 rfl (Nat.le_of_ble_eq_true rfl) dX5_awake_85 ⟨Nat.zero_le _, Nat.zero_le _⟩ (fun H locs hW => ?_)
    refine lv_if_eq (tgt := 95) hC.1 hC.2.1 dX5_awake_88 (by decide) (fun hc_4 => ?_) (fun hc_4 => ?_)
    · have hf := ite_t hf hc_4
      exact t5_awake_95 hC hk38  _ _ _ _ _ _ _ _ _ hf hW (lv_sub hl [1, 2, 3, 4, 5] rfl)
    · have hf := ite_f hf hc_4
      refine lv_iload hC.1 hC.2.1 dX5_awake_91 (lv_at hl 5 rfl) ?_
      refine lv_istore (lv' := [(4, .int x5), (6, .int z0), (0, .ref (aL 0)), (1, .ref (aI 0)), (2, .int x2), (5, .int x5)]) hC.1 hC.2.1 dX5_awake_93 hl (by decide) rfl (fun ls hl => ?_)
      exact t5_awake_95 hC hk38  _ _ _ _ _ _ _ _ _ hf hW (lv_sub hl [2, 3, 4, 0, 5] rfl)
set_option maxRecDepth 100000 in
set_option maxHeartbeats 4000000 in
theorem t5_awake_68 (hC : Cx p s m args meth c cX5_awake 7 wsX5_awake RX5 (some .int)) {k38 : Int32 → Int32 → Int32 → Ob → Ob → Option (Int32 × Ob)} (hk38 : ∀ (x2 : Int32) (x4 : Int32) (x5 : Int32) (SL : Ob) (SI : Ob) (res : Int32 × Ob) (H : Heap) (locs : List Loc) (ls : Array Slot), k38 x2 x4 x5 SL SI = some res → GW D cy ad (w5 cy aL SL ++ (w4 cy aI SI)) A s H locs → lv_has ls 7 [(0, .ref (aL 0)), (1, .ref (aI 0)), (2, .int x2), (4, .int x4), (5, .int x5)] → W p l e rm5_awake s m args below meth c H locs 0 0 (MQ below (QI D cy (w5 cy aL (res.2) ++ (w4 cy aI SI)) A (res.1)) args s 0 0 A) (F0 m 38 ls [])) : ∀ (x2 : Int32) (x4 : Int32) (x5 : Int32) (SL : Ob) (SI : Ob) (res : Int32 × Ob) (H : Heap) (locs : List Loc) (ls : Array Slot), f5_awake_68 k38 x2 x4 x5 SL SI = some res → GW D cy ad (w5 cy aL SL ++ (w4 cy aI SI)) A s H locs → lv_has ls 7 [(0, .ref (aL 0)), (1, .ref (aI 0)), (2, .int x2), (4, .int x4), (5, .int x5)] → W p l e rm5_awake s m args below meth c H locs 0 0 (MQ below (QI D cy (w5 cy aL (res.2) ++ (w4 cy aI SI)) A (res.1)) args s 0 0 A) (F0 m 68 ls []) := by
  intro x2 x4 x5 SL SI res H locs ls hf hW hl
  unfold f5_awake_68 at hf
  refine lv_iconst (v := 1) hC.1 hC.2.1 dX5_awake_68 (by decide) ?_
  refine lv_goto (tgt := 73) hC.1 hC.2.1 dX5_awake_69 (by decide) ?_
  exact t5_awake_73 hC hk38  _ _ _ _ _ _ _ _ _ _ hf hW (lv_sub hl [0, 1, 2, 3, 4] rfl)
set_option maxRecDepth 100000 in
set_option maxHeartbeats 4000000 in
theorem t5_awake_38 (hC : Cx p s m args meth c cX5_awake 7 wsX5_awake RX5 (some .int)) : ∀ n : Nat, ∀ (x2 : Int32) (x4 : Int32) (x5 : Int32) (SL : Ob) (SI : Ob) (res : Int32 × Ob) (H : Heap) (locs : List Loc) (ls : Array Slot), f5_awake_38 n x2 x4 x5 SL SI = some res → GW D cy ad (w5 cy aL SL ++ (w4 cy aI SI)) A s H locs → lv_has ls 7 [(0, .ref (aL 0)), (1, .ref (aI 0)), (2, .int x2), (4, .int x4), (5, .int x5)] → W p l e rm5_awake s m args below meth c H locs 0 0 (MQ below (QI D cy (w5 cy aL (res.2) ++ (w4 cy aI SI)) A (res.1)) args s 0 0 A) (F0 m 38 ls []) := by
  intro n
  induction n with
  | zero =>
    intro _ _ _ _ _ _ _ _ _ hf _ _
    exact nomatch (show (none : Option (Int32 × Ob)) = some _ from hf)
  | succ n ih =>
    intro x2 x4 x5 SL SI res H locs ls hf hW hl
    rw [f5_awake_38] at hf
    refine lv_iload hC.1 hC.2.1 dX5_awake_38 (lv_at hl 4 rfl) ?_
    refine lv_iconst (v := 1) hC.1 hC.2.1 dX5_awake_40 (by decide) ?_
    refine lv_aload_n hC.1 hC.2.1 dX5_awake_41 rfl (lv_at hl 1 rfl) ?_
    refine g_get hC hW hin5_awake_4 4 rfl rfl 0 (by decide) 1 rfl rfl dX5_awake_42 ?_
    refine lv_ishl hC.1 hC.2.1 dX5_awake_45 ?_
    refine lv_icmp_ge (tgt := 101) hC.1 hC.2.1 dX5_awake_46 (by decide) (fun hc_1 => ?_) (fun hc_1 => ?_)
    · have hf := ite_t hf hc_1
      refine lv_iload hC.1 hC.2.1 dX5_awake_101 (lv_at hl 3 rfl) ?_
      obtain rfl := Option.some.inj hf
      exact g_iret hC hW dX5_awake_103
    · have hf := ite_f hf hc_1
      refine lv_iload hC.1 hC.2.1 dX5_awake_49 (lv_at hl 3 rfl) ?_
      refine lv_iconst (v := (-1)) hC.1 hC.2.1 dX5_awake_51 (by decide) ?_
      refine lv_icmp_eq (tgt := 68) hC.1 hC.2.1 dX5_awake_52 (by decide) (fun hc_2 => ?_) (fun hc_2 => ?_)
      · have hf := ite_t hf hc_2
        exact t5_awake_68 hC ih  _ _ _ _ _ _ _ _ _ hf hW (lv_sub hl [0, 1, 2, 3, 4] rfl)
      · have hf := ite_f hf hc_2
        refine lv_iload hC.1 hC.2.1 dX5_awake_55 (lv_at hl 4 rfl) ?_
        obtain ⟨r_3, hg_4, hf⟩ := bd_of hf
        refine g_calliS (w' := w5 cy aL SL ++ (w4 cy aI SI)) hC hW (cj6_bitCount l D cy ad  hg_4) (va_cwS 1 hC.2.2.2.2.1 gX5_awake_J6_bitCount_0f7a4 rfl rfl rfl hdSj6_bitCount ⟨Nat.le_of_ble_eq_true rfl, Nat.le_of_ble_eq_true rfl⟩) (Sub.nil _) rfl hl.1 rfl (Nat.le_of_ble_eq_true rfl) dX5_awake_57 ⟨Nat.zero_le _, Nat.zero_le _⟩ (fun H locs hW => ?_)
        refine lv_iload hC.1 hC.2.1 dX5_awake_60 (lv_at hl 3 rfl) ?_
        obtain ⟨r_5, hg_6, hf⟩ := bd_of hf
        refine g_calliS (w' := w5 cy aL SL ++ (w4 cy aI SI)) hC hW (cj6_bitCount l D cy ad  hg_6) (va_cwS 1 hC.2.2.2.2.1 gX5_awake_J6_bitCount_0f7a4 rfl rfl rfl hdSj6_bitCount ⟨Nat.le_of_ble_eq_true rfl, Nat.le_of_ble_eq_true rfl⟩) (Sub.nil _) rfl hl.1 rfl (Nat.le_of_ble_eq_true rfl) dX5_awake_62 ⟨Nat.zero_le _, Nat.zero_le _⟩ (fun H locs hW => ?_)
        refine lv_icmp_ge (tgt := 72) hC.1 hC.2.1 dX5_awake_65 (by decide) (fun hc_7 => ?_) (fun hc_7 => ?_)
        · have hf := ite_t hf hc_7
          refine lv_iconst (v := 0) hC.1 hC.2.1 dX5_awake_72 (by decide) ?_
          exact t5_awake_73 hC ih  _ _ _ _ _ _ _ _ _ _ hf hW (lv_sub hl [0, 1, 2, 3, 4] rfl)
        · have hf := ite_f hf hc_7
          exact t5_awake_68 hC ih  _ _ _ _ _ _ _ _ _ hf hW (lv_sub hl [0, 1, 2, 3, 4] rfl)
set_option maxRecDepth 100000 in
set_option maxHeartbeats 4000000 in
theorem t5_awake_3 (hC : Cx p s m args meth c cX5_awake 7 wsX5_awake RX5 (some .int)) : ∀ n : Nat, ∀ (x2 : Int32) (x3 : Int32) (x4 : Int32) (SL : Ob) (SI : Ob) (res : Int32 × Ob) (H : Heap) (locs : List Loc) (ls : Array Slot), f5_awake_3 n x2 x3 x4 SL SI = some res → GW D cy ad (w5 cy aL SL ++ (w4 cy aI SI)) A s H locs → lv_has ls 7 [(0, .ref (aL 0)), (1, .ref (aI 0)), (2, .int x2), (3, .int x3), (4, .int x4)] → W p l e rm5_awake s m args below meth c H locs 0 0 (MQ below (QI D cy (w5 cy aL (res.2) ++ (w4 cy aI SI)) A (res.1)) args s 0 0 A) (F0 m 3 ls []) := by
  intro n
  induction n with
  | zero =>
    intro _ _ _ _ _ _ _ _ _ hf _ _
    exact nomatch (show (none : Option (Int32 × Ob)) = some _ from hf)
  | succ n ih =>
    intro x2 x3 x4 SL SI res H locs ls hf hW hl
    rw [f5_awake_3] at hf
    refine lv_iload hC.1 hC.2.1 dX5_awake_3 (lv_at hl 4 rfl) ?_
    refine lv_aload_n hC.1 hC.2.1 dX5_awake_5 rfl (lv_at hl 1 rfl) ?_
    refine g_get hC hW hin5_awake_4 4 rfl rfl 0 (by decide) 1 rfl rfl dX5_awake_6 ?_
    refine lv_icmp_ge (tgt := 32) hC.1 hC.2.1 dX5_awake_9 (by decide) (fun hc_1 => ?_) (fun hc_1 => ?_)
    · have hf := ite_t hf hc_1
      refine lv_iconst (v := (-1)) hC.1 hC.2.1 dX5_awake_32 (by decide) ?_
      refine lv_istore (lv' := [(4, .int (-1)), (0, .ref (aL 0)), (1, .ref (aI 0)), (2, .int x2), (3, .int x3)]) hC.1 hC.2.1 dX5_awake_33 hl (by decide) rfl (fun ls hl => ?_)
      refine lv_iconst (v := 0) hC.1 hC.2.1 dX5_awake_35 (by decide) ?_
      refine lv_istore (lv' := [(5, .int 0), (4, .int (-1)), (0, .ref (aL 0)), (1, .ref (aI 0)), (2, .int x2), (3, .int x3)]) hC.1 hC.2.1 dX5_awake_36 hl (by decide) rfl (fun ls hl => ?_)
      exact t5_awake_38 hC _ _ _ _ _ _ _ _ _ _ hf hW (lv_sub hl [2, 3, 4, 1, 0] rfl)
    · have hf := ite_f hf hc_1
      refine lv_aload_n hC.1 hC.2.1 dX5_awake_12 rfl (lv_at hl 0 rfl) ?_
      refine g_get hC hW hin5_awake_5 0 rfl rfl 2 (by decide) 2 rfl rfl dX5_awake_13 ?_
      refine lv_iload hC.1 hC.2.1 dX5_awake_16 (lv_at hl 4 rfl) ?_
      refine lv_aload_n hC.1 hC.2.1 dX5_awake_18 rfl (lv_at hl 1 rfl) ?_
      refine lv_iload hC.1 hC.2.1 dX5_awake_19 (lv_at hl 4 rfl) ?_
      refine lv_iload_n hC.1 hC.2.1 dX5_awake_21 rfl (lv_at hl 3 rfl) ?_
      obtain ⟨r_2, hg_3, hf⟩ := bd_of hf
      refine g_calliS (w' := w5 cy aL SL ++ (w4 cy aI SI)) hC hW (c5_neighbours l D cy ad aI hg_3) (va_cwS 3 hC.2.2.2.2.1 gX5_awake_X5_neighbours rfl rfl rfl hdS5_neighbours ⟨Nat.le_of_ble_eq_true rfl, Nat.le_of_ble_eq_true rfl⟩) (⟨[4, 5, 6, 7, 8, 9, 10, 11, 12, 13, 14, 15], [0, 1, 2, 3], [0, 1, 2, 3, 4, 5, 6, 7, 8, 9, 10, 11, 12, 13, 14, 15], w5 cy aL SL, rfl, rfl, rfl, rfl, by decide, rfl, rfl⟩) rfl hl.1 rfl (Nat.le_of_ble_eq_true rfl) dX5_awake_22 ⟨Nat.zero_le _, Nat.zero_le _⟩ (fun H locs hW => ?_)
      obtain ⟨hi_4, hf⟩ := ck_of hf
      obtain ⟨SL_5, eSL_5⟩ : ∃ y : Ob, y = oA SL 2 (Int32.toNatClampNeg x4) r_2 := ⟨_, rfl⟩
      have hf := lt_nm hf eSL_5
      refine g_iast hC hW 3 rfl hi_4 (w' := w5 cy aL SL_5 ++ (w4 cy aI SI)) (by rw [eSL_5]; rfl) dX5_awake_25 (fun H locs hW => ?_)
      obtain ⟨x4_6, ex4_6⟩ : ∃ y : Int32, y = x4 + 1 := ⟨_, rfl⟩
      have hf := lt_nm hf ex4_6
      refine lv_iinc (v := x4_6) (lv' := [(4, .int x4_6), (0, .ref (aL 0)), (1, .ref (aI 0)), (2, .int x2), (3, .int x3)]) hC.1 hC.2.1 dX5_awake_26 hl (k := 4) rfl (by rw [ex4_6]; rfl) (by decide) rfl (fun ls hl => ?_)
      refine lv_goto (tgt := 3) hC.1 hC.2.1 dX5_awake_29 (by decide) ?_
      exact ih _ _ _ _ _ _ _ _ _ hf hW (lv_sub hl [1, 2, 3, 4, 0] rfl)
set_option maxRecDepth 100000 in
set_option maxHeartbeats 4000000 in
theorem t5_awake_0 (hC : Cx p s m args meth c cX5_awake 7 wsX5_awake RX5 (some .int)) : ∀ (x2 : Int32) (x3 : Int32) (SL : Ob) (SI : Ob) (res : Int32 × Ob) (H : Heap) (locs : List Loc) (ls : Array Slot), f5_awake x2 x3 SL SI = some res → GW D cy ad (w5 cy aL SL ++ (w4 cy aI SI)) A s H locs → lv_has ls 7 [(0, .ref (aL 0)), (1, .ref (aI 0)), (2, .int x2), (3, .int x3)] → W p l e rm5_awake s m args below meth c H locs 0 0 (MQ below (QI D cy (w5 cy aL (res.2) ++ (w4 cy aI SI)) A (res.1)) args s 0 0 A) (F0 m 0 ls []) := by
  intro x2 x3 SL SI res H locs ls hf hW hl
  unfold f5_awake at hf
  refine lv_iconst (v := 0) hC.1 hC.2.1 dX5_awake_0 (by decide) ?_
  refine lv_istore (lv' := [(4, .int 0), (0, .ref (aL 0)), (1, .ref (aI 0)), (2, .int x2), (3, .int x3)]) hC.1 hC.2.1 dX5_awake_1 hl (by decide) rfl (fun ls hl => ?_)
  exact t5_awake_3 hC _ _ _ _ _ _ _ _ _ _ hf hW (lv_sub hl [1, 2, 3, 4, 0] rfl)
set_option maxRecDepth 100000 in
set_option maxHeartbeats 4000000 in
theorem c5_awake (l : Launch) (D : va_G) (cy : Nat → ClassId) (ad : Nat → Nat) (aL : Nat → Nat) (aI : Nat → Nat) {x2 : Int32} {x3 : Int32} {SL : Ob} {SI : Ob} {res : Int32 × Ob} (h : f5_awake x2 x3 SL SI = some res) : GCi l yX5_awake wsX5_awake rm5_awake [.ref (aL 0), .ref (aI 0), .int x2, .int x3] D cy ad (w5 cy aL SL ++ (w4 cy aI SI)) (w5 cy aL (res.2) ++ (w4 cy aI SI)) (res.1) := fun sz => GC.start (own := RX5) (Qc := fun A => QI D cy (w5 cy aL (res.2) ++ (w4 cy aI SI)) A (res.1)) sz (by decide) rfl rfl (Nat.le_of_ble_eq_true rfl) (fun p e s m below meth c A ls hC hW hl => t5_awake_0 hC _ _ _ _ _ _ _ _ h hW (lv_sub hl [0, 1, 2, 3] rfl))
end
