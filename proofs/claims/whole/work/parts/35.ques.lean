/-! laid by program: functions, walks and contracts of 8_best, 8_isNew, 8_findParting, 8_bestPart, 8_deepest -/
set_option maxRecDepth 20000 in
theorem gX8_best_X4_guestsIn : GoodIn wsX8_best (wsV RX8 18 RX4 yX4_guestsIn wsX4_guestsIn) := goodIn_r _ [6, 7, 8, 9, 10, 11, 12, 13, 14, 9, 15, 37, 38, 39, 40, 41, 42, 43, 44, 45, 46, 47, 48, 49] rfl (by decide +kernel)
set_option maxRecDepth 20000 in
theorem gX8_best_J6_bitCount_0f7a4 : GoodIn wsX8_best (va_wsS RX8 24 yJ6_bitCount_0f7a4 wsJ6_bitCount_0f7a4) := goodIn_r _ [16, 17, 18, 19, 20, 21, 22] rfl (by decide +kernel)
set_option maxRecDepth 20000 in
theorem gX8_best_X4_worldsOf : GoodIn wsX8_best (wsV RX8 33 RX4 yX4_worldsOf wsX4_worldsOf) := goodIn_r _ [23, 13, 14, 9, 15] rfl (by decide +kernel)
set_option maxRecDepth 20000 in
theorem gX8_best_X4_sayable : GoodIn wsX8_best (wsV RX8 36 RX4 yX4_sayable wsX4_sayable) := goodIn_r _ [24, 25, 26, 9, 27, 28, 29, 30, 31, 9, 32, 11, 12, 13, 14, 15, 33, 34, 35, 36, 37, 38, 39, 40, 41, 42, 43, 44, 45, 46, 47, 48, 49] rfl (by decide +kernel)
theorem dX8_best_0 : decode cX8_best 0 = .ok (.aload_n 0, 1) := by decide +kernel
theorem dX8_best_1 : decode cX8_best 1 = .ok (.iload_n 1, 1) := by decide +kernel
theorem dX8_best_2 : decode cX8_best 2 = .ok (.invokevirtual 18, 3) := by decide +kernel
theorem dX8_best_5 : decode cX8_best 5 = .ok (.invokestatic 24, 3) := by decide +kernel
theorem dX8_best_8 : decode cX8_best 8 = .ok (.istore_n 2, 1) := by decide +kernel
theorem dX8_best_9 : decode cX8_best 9 = .ok (.iconst (-1), 1) := by decide +kernel
theorem dX8_best_10 : decode cX8_best 10 = .ok (.istore_n 3, 1) := by decide +kernel
theorem dX8_best_11 : decode cX8_best 11 = .ok (.iconst 0, 1) := by decide +kernel
theorem dX8_best_12 : decode cX8_best 12 = .ok (.istore 4, 2) := by decide +kernel
theorem dX8_best_14 : decode cX8_best 14 = .ok (.iload 4, 2) := by decide +kernel
theorem dX8_best_16 : decode cX8_best 16 = .ok (.aload_n 0, 1) := by decide +kernel
theorem dX8_best_17 : decode cX8_best 17 = .ok (.getfield 29, 3) := by decide +kernel
theorem dX8_best_20 : decode cX8_best 20 = .ok (.if_icmp .ge 102, 3) := by decide +kernel
theorem dX8_best_23 : decode cX8_best 23 = .ok (.iconst 0, 1) := by decide +kernel
theorem dX8_best_24 : decode cX8_best 24 = .ok (.istore 5, 2) := by decide +kernel
theorem dX8_best_26 : decode cX8_best 26 = .ok (.iload 5, 2) := by decide +kernel
theorem dX8_best_28 : decode cX8_best 28 = .ok (.aload_n 0, 1) := by decide +kernel
theorem dX8_best_29 : decode cX8_best 29 = .ok (.getfield 29, 3) := by decide +kernel
theorem dX8_best_32 : decode cX8_best 32 = .ok (.if_icmp .ge 84, 3) := by decide +kernel
theorem dX8_best_35 : decode cX8_best 35 = .ok (.aload_n 0, 1) := by decide +kernel
theorem dX8_best_36 : decode cX8_best 36 = .ok (.iload 5, 2) := by decide +kernel
theorem dX8_best_38 : decode cX8_best 38 = .ok (.invokevirtual 33, 3) := by decide +kernel
theorem dX8_best_41 : decode cX8_best 41 = .ok (.istore 6, 2) := by decide +kernel
theorem dX8_best_43 : decode cX8_best 43 = .ok (.aload_n 0, 1) := by decide +kernel
theorem dX8_best_44 : decode cX8_best 44 = .ok (.iload_n 1, 1) := by decide +kernel
theorem dX8_best_45 : decode cX8_best 45 = .ok (.aload_n 0, 1) := by decide +kernel
theorem dX8_best_46 : decode cX8_best 46 = .ok (.iload 4, 2) := by decide +kernel
theorem dX8_best_48 : decode cX8_best 48 = .ok (.iload 6, 2) := by decide +kernel
theorem dX8_best_50 : decode cX8_best 50 = .ok (.invokevirtual 36, 3) := by decide +kernel
theorem dX8_best_53 : decode cX8_best 53 = .ok (.iand, 1) := by decide +kernel
theorem dX8_best_54 : decode cX8_best 54 = .ok (.invokevirtual 18, 3) := by decide +kernel
theorem dX8_best_57 : decode cX8_best 57 = .ok (.invokestatic 24, 3) := by decide +kernel
theorem dX8_best_60 : decode cX8_best 60 = .ok (.istore 7, 2) := by decide +kernel
theorem dX8_best_62 : decode cX8_best 62 = .ok (.aload_n 0, 1) := by decide +kernel
theorem dX8_best_63 : decode cX8_best 63 = .ok (.iload_n 1, 1) := by decide +kernel
theorem dX8_best_64 : decode cX8_best 64 = .ok (.aload_n 0, 1) := by decide +kernel
theorem dX8_best_65 : decode cX8_best 65 = .ok (.iload 4, 2) := by decide +kernel
theorem dX8_best_67 : decode cX8_best 67 = .ok (.iload 6, 2) := by decide +kernel
theorem dX8_best_69 : decode cX8_best 69 = .ok (.iconst (-1), 1) := by decide +kernel
theorem dX8_best_70 : decode cX8_best 70 = .ok (.ixor, 1) := by decide +kernel
theorem dX8_best_71 : decode cX8_best 71 = .ok (.invokevirtual 36, 3) := by decide +kernel
theorem dX8_best_74 : decode cX8_best 74 = .ok (.iand, 1) := by decide +kernel
theorem dX8_best_75 : decode cX8_best 75 = .ok (.invokevirtual 18, 3) := by decide +kernel
theorem dX8_best_78 : decode cX8_best 78 = .ok (.invokestatic 24, 3) := by decide +kernel
theorem dX8_best_81 : decode cX8_best 81 = .ok (.istore 8, 2) := by decide +kernel
theorem dX8_best_83 : decode cX8_best 83 = .ok (.iload 7, 2) := by decide +kernel
theorem dX8_best_85 : decode cX8_best 85 = .ok (.iload 8, 2) := by decide +kernel
theorem dX8_best_87 : decode cX8_best 87 = .ok (.invokestatic 40, 3) := by decide +kernel
theorem dX8_best_90 : decode cX8_best 90 = .ok (.istore 9, 2) := by decide +kernel
theorem dX8_best_92 : decode cX8_best 92 = .ok (.iload 9, 2) := by decide +kernel
theorem dX8_best_94 : decode cX8_best 94 = .ok (.iload_n 2, 1) := by decide +kernel
theorem dX8_best_95 : decode cX8_best 95 = .ok (.if_icmp .ge 15, 3) := by decide +kernel
theorem dX8_best_98 : decode cX8_best 98 = .ok (.iload 9, 2) := by decide +kernel
theorem dX8_best_100 : decode cX8_best 100 = .ok (.istore_n 2, 1) := by decide +kernel
theorem dX8_best_101 : decode cX8_best 101 = .ok (.iload 4, 2) := by decide +kernel
theorem dX8_best_103 : decode cX8_best 103 = .ok (.bipush 8, 2) := by decide +kernel
theorem dX8_best_105 : decode cX8_best 105 = .ok (.imul, 1) := by decide +kernel
theorem dX8_best_106 : decode cX8_best 106 = .ok (.iload 5, 2) := by decide +kernel
theorem dX8_best_108 : decode cX8_best 108 = .ok (.iadd, 1) := by decide +kernel
theorem dX8_best_109 : decode cX8_best 109 = .ok (.istore_n 3, 1) := by decide +kernel
theorem dX8_best_110 : decode cX8_best 110 = .ok (.iinc 5 1, 3) := by decide +kernel
theorem dX8_best_113 : decode cX8_best 113 = .ok (.goto (-87), 3) := by decide +kernel
theorem dX8_best_116 : decode cX8_best 116 = .ok (.iinc 4 1, 3) := by decide +kernel
theorem dX8_best_119 : decode cX8_best 119 = .ok (.goto (-105), 3) := by decide +kernel
theorem dX8_best_122 : decode cX8_best 122 = .ok (.iload_n 3, 1) := by decide +kernel
theorem dX8_best_123 : decode cX8_best 123 = .ok (.ireturn, 1) := by decide +kernel
theorem dX8_isNew_0 : decode cX8_isNew 0 = .ok (.iconst 0, 1) := by decide +kernel
theorem dX8_isNew_1 : decode cX8_isNew 1 = .ok (.istore_n 3, 1) := by decide +kernel
theorem dX8_isNew_2 : decode cX8_isNew 2 = .ok (.iload_n 3, 1) := by decide +kernel
theorem dX8_isNew_3 : decode cX8_isNew 3 = .ok (.iload_n 2, 1) := by decide +kernel
theorem dX8_isNew_4 : decode cX8_isNew 4 = .ok (.if_icmp .ge 21, 3) := by decide +kernel
theorem dX8_isNew_7 : decode cX8_isNew 7 = .ok (.aload_n 0, 1) := by decide +kernel
theorem dX8_isNew_8 : decode cX8_isNew 8 = .ok (.getfield 9, 3) := by decide +kernel
theorem dX8_isNew_11 : decode cX8_isNew 11 = .ok (.iload_n 3, 1) := by decide +kernel
theorem dX8_isNew_12 : decode cX8_isNew 12 = .ok (.iaload, 1) := by decide +kernel
theorem dX8_isNew_13 : decode cX8_isNew 13 = .ok (.iload_n 1, 1) := by decide +kernel
theorem dX8_isNew_14 : decode cX8_isNew 14 = .ok (.if_icmp .ne 5, 3) := by decide +kernel
theorem dX8_isNew_17 : decode cX8_isNew 17 = .ok (.iconst 0, 1) := by decide +kernel
theorem dX8_isNew_18 : decode cX8_isNew 18 = .ok (.ireturn, 1) := by decide +kernel
theorem dX8_isNew_19 : decode cX8_isNew 19 = .ok (.iinc 3 1, 3) := by decide +kernel
theorem dX8_isNew_22 : decode cX8_isNew 22 = .ok (.goto (-20), 3) := by decide +kernel
theorem dX8_isNew_25 : decode cX8_isNew 25 = .ok (.iconst 1, 1) := by decide +kernel
theorem dX8_isNew_26 : decode cX8_isNew 26 = .ok (.ireturn, 1) := by decide +kernel
set_option maxRecDepth 20000 in
theorem gX8_findParting_X4_worldsOf : GoodIn wsX8_findParting (wsV RX8 33 RX4 yX4_worldsOf wsX4_worldsOf) := goodIn_r _ [4, 5, 6, 7, 8] rfl (by decide +kernel)
set_option maxRecDepth 20000 in
theorem gX8_findParting_X4_sayable : GoodIn wsX8_findParting (wsV RX8 36 RX4 yX4_sayable wsX4_sayable) := goodIn_r _ [9, 10, 11, 7, 12, 13, 14, 15, 16, 7, 17, 18, 19, 5, 6, 8, 20, 21, 22, 23, 33, 34, 35, 36, 37, 38, 39, 40, 41, 42, 43, 44, 45] rfl (by decide +kernel)
set_option maxRecDepth 20000 in
theorem gX8_findParting_X4_guestsIn : GoodIn wsX8_findParting (wsV RX8 18 RX4 yX4_guestsIn wsX4_guestsIn) := goodIn_r _ [24, 25, 26, 7, 27, 18, 19, 5, 6, 7, 8, 33, 34, 35, 36, 37, 38, 39, 40, 41, 42, 43, 44, 45] rfl (by decide +kernel)
set_option maxRecDepth 20000 in
theorem gX8_findParting_X8_isNew : GoodIn wsX8_findParting (wsV RX8 55 RX8 yX8_isNew wsX8_isNew) := goodIn_r _ [28, 29, 30, 31, 32, 3, 46, 47] rfl (by decide +kernel)
theorem dX8_findParting_0 : decode cX8_findParting 0 = .ok (.iconst 0, 1) := by decide +kernel
theorem dX8_findParting_1 : decode cX8_findParting 1 = .ok (.istore 4, 2) := by decide +kernel
theorem dX8_findParting_3 : decode cX8_findParting 3 = .ok (.iconst 0, 1) := by decide +kernel
theorem dX8_findParting_4 : decode cX8_findParting 4 = .ok (.istore 5, 2) := by decide +kernel
theorem dX8_findParting_6 : decode cX8_findParting 6 = .ok (.iload 5, 2) := by decide +kernel
theorem dX8_findParting_8 : decode cX8_findParting 8 = .ok (.aload_n 1, 1) := by decide +kernel
theorem dX8_findParting_9 : decode cX8_findParting 9 = .ok (.getfield 29, 3) := by decide +kernel
theorem dX8_findParting_12 : decode cX8_findParting 12 = .ok (.if_icmp .ge 114, 3) := by decide +kernel
theorem dX8_findParting_15 : decode cX8_findParting 15 = .ok (.iconst 0, 1) := by decide +kernel
theorem dX8_findParting_16 : decode cX8_findParting 16 = .ok (.istore 6, 2) := by decide +kernel
theorem dX8_findParting_18 : decode cX8_findParting 18 = .ok (.iload 6, 2) := by decide +kernel
theorem dX8_findParting_20 : decode cX8_findParting 20 = .ok (.aload_n 1, 1) := by decide +kernel
theorem dX8_findParting_21 : decode cX8_findParting 21 = .ok (.getfield 29, 3) := by decide +kernel
theorem dX8_findParting_24 : decode cX8_findParting 24 = .ok (.if_icmp .ge 96, 3) := by decide +kernel
theorem dX8_findParting_27 : decode cX8_findParting 27 = .ok (.aload_n 1, 1) := by decide +kernel
theorem dX8_findParting_28 : decode cX8_findParting 28 = .ok (.iload_n 2, 1) := by decide +kernel
theorem dX8_findParting_29 : decode cX8_findParting 29 = .ok (.aload_n 1, 1) := by decide +kernel
theorem dX8_findParting_30 : decode cX8_findParting 30 = .ok (.iload 5, 2) := by decide +kernel
theorem dX8_findParting_32 : decode cX8_findParting 32 = .ok (.aload_n 1, 1) := by decide +kernel
theorem dX8_findParting_33 : decode cX8_findParting 33 = .ok (.iload 6, 2) := by decide +kernel
theorem dX8_findParting_35 : decode cX8_findParting 35 = .ok (.invokevirtual 33, 3) := by decide +kernel
theorem dX8_findParting_38 : decode cX8_findParting 38 = .ok (.invokevirtual 36, 3) := by decide +kernel
theorem dX8_findParting_41 : decode cX8_findParting 41 = .ok (.iand, 1) := by decide +kernel
theorem dX8_findParting_42 : decode cX8_findParting 42 = .ok (.invokevirtual 18, 3) := by decide +kernel
theorem dX8_findParting_45 : decode cX8_findParting 45 = .ok (.istore 7, 2) := by decide +kernel
theorem dX8_findParting_47 : decode cX8_findParting 47 = .ok (.aload_n 1, 1) := by decide +kernel
theorem dX8_findParting_48 : decode cX8_findParting 48 = .ok (.getfield 52, 3) := by decide +kernel
theorem dX8_findParting_51 : decode cX8_findParting 51 = .ok (.iload 5, 2) := by decide +kernel
theorem dX8_findParting_53 : decode cX8_findParting 53 = .ok (.iaload, 1) := by decide +kernel
theorem dX8_findParting_54 : decode cX8_findParting 54 = .ok (.iconst 3, 1) := by decide +kernel
theorem dX8_findParting_55 : decode cX8_findParting 55 = .ok (.if_icmp .eq 18, 3) := by decide +kernel
theorem dX8_findParting_58 : decode cX8_findParting 58 = .ok (.iload 7, 2) := by decide +kernel
theorem dX8_findParting_60 : decode cX8_findParting 60 = .ok (.ifCond .eq 13, 3) := by decide +kernel
theorem dX8_findParting_63 : decode cX8_findParting 63 = .ok (.iload 7, 2) := by decide +kernel
theorem dX8_findParting_65 : decode cX8_findParting 65 = .ok (.iload_n 3, 1) := by decide +kernel
theorem dX8_findParting_66 : decode cX8_findParting 66 = .ok (.if_icmp .eq 7, 3) := by decide +kernel
theorem dX8_findParting_69 : decode cX8_findParting 69 = .ok (.iconst 1, 1) := by decide +kernel
theorem dX8_findParting_70 : decode cX8_findParting 70 = .ok (.goto 4, 3) := by decide +kernel
theorem dX8_findParting_73 : decode cX8_findParting 73 = .ok (.iconst 0, 1) := by decide +kernel
theorem dX8_findParting_74 : decode cX8_findParting 74 = .ok (.istore 8, 2) := by decide +kernel
theorem dX8_findParting_76 : decode cX8_findParting 76 = .ok (.iload 8, 2) := by decide +kernel
theorem dX8_findParting_78 : decode cX8_findParting 78 = .ok (.ifCond .eq 36, 3) := by decide +kernel
theorem dX8_findParting_81 : decode cX8_findParting 81 = .ok (.iload 4, 2) := by decide +kernel
theorem dX8_findParting_83 : decode cX8_findParting 83 = .ok (.aload_n 0, 1) := by decide +kernel
theorem dX8_findParting_84 : decode cX8_findParting 84 = .ok (.getfield 9, 3) := by decide +kernel
theorem dX8_findParting_87 : decode cX8_findParting 87 = .ok (.arraylength, 1) := by decide +kernel
theorem dX8_findParting_88 : decode cX8_findParting 88 = .ok (.if_icmp .ge 26, 3) := by decide +kernel
theorem dX8_findParting_91 : decode cX8_findParting 91 = .ok (.aload_n 0, 1) := by decide +kernel
theorem dX8_findParting_92 : decode cX8_findParting 92 = .ok (.iload 7, 2) := by decide +kernel
theorem dX8_findParting_94 : decode cX8_findParting 94 = .ok (.iload 4, 2) := by decide +kernel
theorem dX8_findParting_96 : decode cX8_findParting 96 = .ok (.invokevirtual 55, 3) := by decide +kernel
theorem dX8_findParting_99 : decode cX8_findParting 99 = .ok (.ifCond .eq 15, 3) := by decide +kernel
theorem dX8_findParting_102 : decode cX8_findParting 102 = .ok (.aload_n 0, 1) := by decide +kernel
theorem dX8_findParting_103 : decode cX8_findParting 103 = .ok (.getfield 9, 3) := by decide +kernel
theorem dX8_findParting_106 : decode cX8_findParting 106 = .ok (.iload 4, 2) := by decide +kernel
theorem dX8_findParting_108 : decode cX8_findParting 108 = .ok (.iload 7, 2) := by decide +kernel
theorem dX8_findParting_110 : decode cX8_findParting 110 = .ok (.iastore, 1) := by decide +kernel
theorem dX8_findParting_111 : decode cX8_findParting 111 = .ok (.iinc 4 1, 3) := by decide +kernel
theorem dX8_findParting_114 : decode cX8_findParting 114 = .ok (.iinc 6 1, 3) := by decide +kernel
theorem dX8_findParting_117 : decode cX8_findParting 117 = .ok (.goto (-99), 3) := by decide +kernel
theorem dX8_findParting_120 : decode cX8_findParting 120 = .ok (.iinc 5 1, 3) := by decide +kernel
theorem dX8_findParting_123 : decode cX8_findParting 123 = .ok (.goto (-117), 3) := by decide +kernel
theorem dX8_findParting_126 : decode cX8_findParting 126 = .ok (.iload 4, 2) := by decide +kernel
theorem dX8_findParting_128 : decode cX8_findParting 128 = .ok (.ireturn, 1) := by decide +kernel
theorem dX8_bestPart_0 : decode cX8_bestPart 0 = .ok (.iconst (-1), 1) := by decide +kernel
theorem dX8_bestPart_1 : decode cX8_bestPart 1 = .ok (.istore_n 3, 1) := by decide +kernel
theorem dX8_bestPart_2 : decode cX8_bestPart 2 = .ok (.iconst 0, 1) := by decide +kernel
theorem dX8_bestPart_3 : decode cX8_bestPart 3 = .ok (.istore 4, 2) := by decide +kernel
theorem dX8_bestPart_5 : decode cX8_bestPart 5 = .ok (.iload 4, 2) := by decide +kernel
theorem dX8_bestPart_7 : decode cX8_bestPart 7 = .ok (.iload_n 2, 1) := by decide +kernel
theorem dX8_bestPart_8 : decode cX8_bestPart 8 = .ok (.if_icmp .ge 100, 3) := by decide +kernel
theorem dX8_bestPart_11 : decode cX8_bestPart 11 = .ok (.iload_n 1, 1) := by decide +kernel
theorem dX8_bestPart_12 : decode cX8_bestPart 12 = .ok (.aload_n 0, 1) := by decide +kernel
theorem dX8_bestPart_13 : decode cX8_bestPart 13 = .ok (.getfield 9, 3) := by decide +kernel
theorem dX8_bestPart_16 : decode cX8_bestPart 16 = .ok (.iload 4, 2) := by decide +kernel
theorem dX8_bestPart_18 : decode cX8_bestPart 18 = .ok (.iaload, 1) := by decide +kernel
theorem dX8_bestPart_19 : decode cX8_bestPart 19 = .ok (.iand, 1) := by decide +kernel
theorem dX8_bestPart_20 : decode cX8_bestPart 20 = .ok (.istore 5, 2) := by decide +kernel
theorem dX8_bestPart_22 : decode cX8_bestPart 22 = .ok (.iload_n 1, 1) := by decide +kernel
theorem dX8_bestPart_23 : decode cX8_bestPart 23 = .ok (.aload_n 0, 1) := by decide +kernel
theorem dX8_bestPart_24 : decode cX8_bestPart 24 = .ok (.getfield 9, 3) := by decide +kernel
theorem dX8_bestPart_27 : decode cX8_bestPart 27 = .ok (.iload 4, 2) := by decide +kernel
theorem dX8_bestPart_29 : decode cX8_bestPart 29 = .ok (.iaload, 1) := by decide +kernel
theorem dX8_bestPart_30 : decode cX8_bestPart 30 = .ok (.iconst (-1), 1) := by decide +kernel
theorem dX8_bestPart_31 : decode cX8_bestPart 31 = .ok (.ixor, 1) := by decide +kernel
theorem dX8_bestPart_32 : decode cX8_bestPart 32 = .ok (.iand, 1) := by decide +kernel
theorem dX8_bestPart_33 : decode cX8_bestPart 33 = .ok (.istore 6, 2) := by decide +kernel
theorem dX8_bestPart_35 : decode cX8_bestPart 35 = .ok (.iload 5, 2) := by decide +kernel
theorem dX8_bestPart_37 : decode cX8_bestPart 37 = .ok (.ifCond .eq 65, 3) := by decide +kernel
theorem dX8_bestPart_40 : decode cX8_bestPart 40 = .ok (.iload 6, 2) := by decide +kernel
theorem dX8_bestPart_42 : decode cX8_bestPart 42 = .ok (.ifCond .eq 60, 3) := by decide +kernel
theorem dX8_bestPart_45 : decode cX8_bestPart 45 = .ok (.aload_n 0, 1) := by decide +kernel
theorem dX8_bestPart_46 : decode cX8_bestPart 46 = .ok (.getfield 15, 3) := by decide +kernel
theorem dX8_bestPart_49 : decode cX8_bestPart 49 = .ok (.iload 5, 2) := by decide +kernel
theorem dX8_bestPart_51 : decode cX8_bestPart 51 = .ok (.iaload, 1) := by decide +kernel
theorem dX8_bestPart_52 : decode cX8_bestPart 52 = .ok (.iconst (-1), 1) := by decide +kernel
theorem dX8_bestPart_53 : decode cX8_bestPart 53 = .ok (.if_icmp .eq 49, 3) := by decide +kernel
theorem dX8_bestPart_56 : decode cX8_bestPart 56 = .ok (.aload_n 0, 1) := by decide +kernel
theorem dX8_bestPart_57 : decode cX8_bestPart 57 = .ok (.getfield 15, 3) := by decide +kernel
theorem dX8_bestPart_60 : decode cX8_bestPart 60 = .ok (.iload 6, 2) := by decide +kernel
theorem dX8_bestPart_62 : decode cX8_bestPart 62 = .ok (.iaload, 1) := by decide +kernel
theorem dX8_bestPart_63 : decode cX8_bestPart 63 = .ok (.iconst (-1), 1) := by decide +kernel
theorem dX8_bestPart_64 : decode cX8_bestPart 64 = .ok (.if_icmp .eq 38, 3) := by decide +kernel
theorem dX8_bestPart_67 : decode cX8_bestPart 67 = .ok (.iconst 1, 1) := by decide +kernel
theorem dX8_bestPart_68 : decode cX8_bestPart 68 = .ok (.aload_n 0, 1) := by decide +kernel
theorem dX8_bestPart_69 : decode cX8_bestPart 69 = .ok (.getfield 15, 3) := by decide +kernel
theorem dX8_bestPart_72 : decode cX8_bestPart 72 = .ok (.iload 5, 2) := by decide +kernel
theorem dX8_bestPart_74 : decode cX8_bestPart 74 = .ok (.iaload, 1) := by decide +kernel
theorem dX8_bestPart_75 : decode cX8_bestPart 75 = .ok (.aload_n 0, 1) := by decide +kernel
theorem dX8_bestPart_76 : decode cX8_bestPart 76 = .ok (.getfield 15, 3) := by decide +kernel
theorem dX8_bestPart_79 : decode cX8_bestPart 79 = .ok (.iload 6, 2) := by decide +kernel
theorem dX8_bestPart_81 : decode cX8_bestPart 81 = .ok (.iaload, 1) := by decide +kernel
theorem dX8_bestPart_82 : decode cX8_bestPart 82 = .ok (.invokestatic 40, 3) := by decide +kernel
theorem dX8_bestPart_85 : decode cX8_bestPart 85 = .ok (.iadd, 1) := by decide +kernel
theorem dX8_bestPart_86 : decode cX8_bestPart 86 = .ok (.istore 7, 2) := by decide +kernel
theorem dX8_bestPart_88 : decode cX8_bestPart 88 = .ok (.iload_n 3, 1) := by decide +kernel
theorem dX8_bestPart_89 : decode cX8_bestPart 89 = .ok (.iconst (-1), 1) := by decide +kernel
theorem dX8_bestPart_90 : decode cX8_bestPart 90 = .ok (.if_icmp .eq 9, 3) := by decide +kernel
theorem dX8_bestPart_93 : decode cX8_bestPart 93 = .ok (.iload 7, 2) := by decide +kernel
theorem dX8_bestPart_95 : decode cX8_bestPart 95 = .ok (.iload_n 3, 1) := by decide +kernel
theorem dX8_bestPart_96 : decode cX8_bestPart 96 = .ok (.if_icmp .ge 6, 3) := by decide +kernel
theorem dX8_bestPart_99 : decode cX8_bestPart 99 = .ok (.iload 7, 2) := by decide +kernel
theorem dX8_bestPart_101 : decode cX8_bestPart 101 = .ok (.istore_n 3, 1) := by decide +kernel
theorem dX8_bestPart_102 : decode cX8_bestPart 102 = .ok (.iinc 4 1, 3) := by decide +kernel
theorem dX8_bestPart_105 : decode cX8_bestPart 105 = .ok (.goto (-100), 3) := by decide +kernel
theorem dX8_bestPart_108 : decode cX8_bestPart 108 = .ok (.iload_n 3, 1) := by decide +kernel
theorem dX8_bestPart_109 : decode cX8_bestPart 109 = .ok (.ireturn, 1) := by decide +kernel
set_option maxRecDepth 20000 in
theorem gX8_deepest_X4_guestsIn : GoodIn wsX8_deepest (wsV RX8 18 RX4 yX4_guestsIn wsX4_guestsIn) := goodIn_r _ [2, 3, 4, 5, 6, 7, 8, 9, 10, 5, 11, 55, 56, 57, 58, 59, 60, 61, 62, 63, 64, 65, 66, 67] rfl (by decide +kernel)
set_option maxRecDepth 20000 in
theorem gX8_deepest_X8_findParting : GoodIn wsX8_deepest (wsV RX8 45 RX8 yX8_findParting wsX8_findParting) := goodIn_r _ [12, 13, 14, 15, 16, 17, 18, 19, 20, 9, 10, 5, 11, 21, 22, 23, 24, 25, 26, 27, 28, 29, 7, 8, 30, 31, 32, 33, 2, 3, 4, 6, 34, 35, 36, 15, 37, 55, 56, 57, 58, 59, 60, 61, 62, 63, 64, 65, 66, 67, 53, 54] rfl (by decide +kernel)
set_option maxRecDepth 20000 in
theorem gX8_deepest_J6_bitCount_0f7a4 : GoodIn wsX8_deepest (va_wsS RX8 24 yJ6_bitCount_0f7a4 wsJ6_bitCount_0f7a4) := goodIn_r _ [38, 39, 40, 41, 42, 43, 44] rfl (by decide +kernel)
set_option maxRecDepth 20000 in
theorem gX8_deepest_X8_bestPart : GoodIn wsX8_deepest (wsV RX8 49 RX8 yX8_bestPart wsX8_bestPart) := goodIn_r _ [45, 46, 47, 15, 48, 19, 1, 49, 50, 51, 52, 53, 54] rfl (by decide +kernel)
theorem dX8_deepest_0 : decode cX8_deepest 0 = .ok (.aload_n 1, 1) := by decide +kernel
theorem dX8_deepest_1 : decode cX8_deepest 1 = .ok (.iload_n 2, 1) := by decide +kernel
theorem dX8_deepest_2 : decode cX8_deepest 2 = .ok (.invokevirtual 18, 3) := by decide +kernel
theorem dX8_deepest_5 : decode cX8_deepest 5 = .ok (.istore_n 3, 1) := by decide +kernel
theorem dX8_deepest_6 : decode cX8_deepest 6 = .ok (.iload_n 3, 1) := by decide +kernel
theorem dX8_deepest_7 : decode cX8_deepest 7 = .ok (.ifCond .ne 5, 3) := by decide +kernel
theorem dX8_deepest_10 : decode cX8_deepest 10 = .ok (.iconst (-1), 1) := by decide +kernel
theorem dX8_deepest_11 : decode cX8_deepest 11 = .ok (.ireturn, 1) := by decide +kernel
theorem dX8_deepest_12 : decode cX8_deepest 12 = .ok (.aload_n 0, 1) := by decide +kernel
theorem dX8_deepest_13 : decode cX8_deepest 13 = .ok (.aload_n 1, 1) := by decide +kernel
theorem dX8_deepest_14 : decode cX8_deepest 14 = .ok (.iload_n 2, 1) := by decide +kernel
theorem dX8_deepest_15 : decode cX8_deepest 15 = .ok (.iload_n 3, 1) := by decide +kernel
theorem dX8_deepest_16 : decode cX8_deepest 16 = .ok (.invokevirtual 45, 3) := by decide +kernel
theorem dX8_deepest_19 : decode cX8_deepest 19 = .ok (.istore 4, 2) := by decide +kernel
theorem dX8_deepest_21 : decode cX8_deepest 21 = .ok (.iconst 1, 1) := by decide +kernel
theorem dX8_deepest_22 : decode cX8_deepest 22 = .ok (.istore 5, 2) := by decide +kernel
theorem dX8_deepest_24 : decode cX8_deepest 24 = .ok (.iload 5, 2) := by decide +kernel
theorem dX8_deepest_26 : decode cX8_deepest 26 = .ok (.iload_n 3, 1) := by decide +kernel
theorem dX8_deepest_27 : decode cX8_deepest 27 = .ok (.if_icmp .gt 54, 3) := by decide +kernel
theorem dX8_deepest_30 : decode cX8_deepest 30 = .ok (.iload 5, 2) := by decide +kernel
theorem dX8_deepest_32 : decode cX8_deepest 32 = .ok (.sipush 256, 3) := by decide +kernel
theorem dX8_deepest_35 : decode cX8_deepest 35 = .ok (.if_icmp .ge 46, 3) := by decide +kernel
theorem dX8_deepest_38 : decode cX8_deepest 38 = .ok (.iload 5, 2) := by decide +kernel
theorem dX8_deepest_40 : decode cX8_deepest 40 = .ok (.iload_n 3, 1) := by decide +kernel
theorem dX8_deepest_41 : decode cX8_deepest 41 = .ok (.iconst (-1), 1) := by decide +kernel
theorem dX8_deepest_42 : decode cX8_deepest 42 = .ok (.ixor, 1) := by decide +kernel
theorem dX8_deepest_43 : decode cX8_deepest 43 = .ok (.iand, 1) := by decide +kernel
theorem dX8_deepest_44 : decode cX8_deepest 44 = .ok (.ifCond .ne 31, 3) := by decide +kernel
theorem dX8_deepest_47 : decode cX8_deepest 47 = .ok (.aload_n 0, 1) := by decide +kernel
theorem dX8_deepest_48 : decode cX8_deepest 48 = .ok (.getfield 15, 3) := by decide +kernel
theorem dX8_deepest_51 : decode cX8_deepest 51 = .ok (.iload 5, 2) := by decide +kernel
theorem dX8_deepest_53 : decode cX8_deepest 53 = .ok (.iload 5, 2) := by decide +kernel
theorem dX8_deepest_55 : decode cX8_deepest 55 = .ok (.invokestatic 24, 3) := by decide +kernel
theorem dX8_deepest_58 : decode cX8_deepest 58 = .ok (.iconst 1, 1) := by decide +kernel
theorem dX8_deepest_59 : decode cX8_deepest 59 = .ok (.if_icmp .ne 7, 3) := by decide +kernel
theorem dX8_deepest_62 : decode cX8_deepest 62 = .ok (.iconst 0, 1) := by decide +kernel
theorem dX8_deepest_63 : decode cX8_deepest 63 = .ok (.goto 11, 3) := by decide +kernel
theorem dX8_deepest_66 : decode cX8_deepest 66 = .ok (.aload_n 0, 1) := by decide +kernel
theorem dX8_deepest_67 : decode cX8_deepest 67 = .ok (.iload 5, 2) := by decide +kernel
theorem dX8_deepest_69 : decode cX8_deepest 69 = .ok (.iload 4, 2) := by decide +kernel
theorem dX8_deepest_71 : decode cX8_deepest 71 = .ok (.invokevirtual 49, 3) := by decide +kernel
theorem dX8_deepest_74 : decode cX8_deepest 74 = .ok (.iastore, 1) := by decide +kernel
theorem dX8_deepest_75 : decode cX8_deepest 75 = .ok (.iinc 5 1, 3) := by decide +kernel
theorem dX8_deepest_78 : decode cX8_deepest 78 = .ok (.goto (-54), 3) := by decide +kernel
theorem dX8_deepest_81 : decode cX8_deepest 81 = .ok (.aload_n 0, 1) := by decide +kernel
theorem dX8_deepest_82 : decode cX8_deepest 82 = .ok (.getfield 15, 3) := by decide +kernel
theorem dX8_deepest_85 : decode cX8_deepest 85 = .ok (.iload_n 3, 1) := by decide +kernel
theorem dX8_deepest_86 : decode cX8_deepest 86 = .ok (.iaload, 1) := by decide +kernel
theorem dX8_deepest_87 : decode cX8_deepest 87 = .ok (.ireturn, 1) := by decide +kernel
section
variable {p : Program} {l : Launch} {e : Env} {s : State} {m : MethodId} {args : Array Value} {below : List Frame} {meth : Method} {c : Code} {D : va_G} {cy : Nat → ClassId} {ad : Nat → Nat} {A : Nat → Prop} {aM aB aO aI aN aT aC aG aR aQ aK aL aX aH aJ aP aU aE0 aE1 aE2 aE3 : Nat → Nat} {gi : Value}
abbrev rm8_best : Room := { frames := 2, cells := 0, slots := 0, locals := 44 }
theorem hdS8_best : (yX8_best.cls ≠ "java/lang/invoke/MethodHandle" ∧ yX8_best.cls ≠ "java/lang/invoke/VarHandle" ∧ (parseMethodDescriptor yX8_best.desc).map (fun d => d.parameters.length) = some 2) := by decide +kernel
theorem hin8_best_4 : ∀ x ∈ u_ws RX4 TX4 13, x ∈ wsX8_best := fun _ h => List.mem_cons_of_mem _ (List.mem_append_right _ h)
set_option maxRecDepth 100000 in
set_option maxHeartbeats 4000000 in
theorem t8_best_110 (hC : Cx p s m args meth c cX8_best 10 wsX8_best RX8 (some .int)) {k14 : Int32 → Int32 → Int32 → Int32 → Ob → Option (Int32)} (hk14 : ∀ (x1 : Int32) (x2 : Int32) (x3 : Int32) (x4 : Int32) (SI : Ob) (res : Int32) (H : Heap) (locs : List Loc) (ls : Array Slot), k14 x1 x2 x3 x4 SI = some res → GW D cy ad (w4 cy aI SI) A s H locs → lv_has ls 10 [(0, .ref (aI 0)), (1, .int x1), (2, .int x2), (3, .int x3), (4, .int x4)] → W p l e rm8_best s m args below meth c H locs 0 0 (MQ below (QI D cy (w4 cy aI SI) A res) args s 0 0 A) (F0 m 14 ls [])) {k26 : Int32 → Int32 → Int32 → Int32 → Int32 → Ob → Option (Int32)} (hk26 : ∀ (x1 : Int32) (x2 : Int32) (x3 : Int32) (x4 : Int32) (x5 : Int32) (SI : Ob) (res : Int32) (H : Heap) (locs : List Loc) (ls : Array Slot), k26 x1 x2 x3 x4 x5 SI = some res → GW D cy ad (w4 cy aI SI) A s H locs → lv_has ls 10 [(0, .ref (aI 0)), (1, .int x1), (2, .int x2), (3, .int x3), (4, .int x4), (5, .int x5)] → W p l e rm8_best s m args below meth c H locs 0 0 (MQ below (QI D cy (w4 cy aI SI) A res) args s 0 0 A) (F0 m 26 ls [])) : ∀ (x1 : Int32) (x2 : Int32) (x3 : Int32) (x4 : Int32) (x5 : Int32) (SI : Ob) (res : Int32) (H : Heap) (locs : List Loc) (ls : Array Slot), f8_best_110 k14 k26 x1 x2 x3 x4 x5 SI = some res → GW D cy ad (w4 cy aI SI) A s H locs → lv_has ls 10 [(0, .ref (aI 0)), (1, .int x1), (2, .int x2), (3, .int x3), (4, .int x4), (5, .int x5)] → W p l e rm8_best s m args below meth c H locs 0 0 (MQ below (QI D cy (w4 cy aI SI) A res) args s 0 0 A) (F0 m 110 ls []) := by
  intro x1 x2 x3 x4 x5 SI res H locs ls hf hW hl
  unfold f8_best_110 at hf
  obtain ⟨x5_1, ex5_1⟩ : ∃ y : Int32, y = x5 + 1 := ⟨_, rfl⟩
  have hf := lt_nm hf ex5_1
  refine lv_iinc (v := x5_1) (lv' := [(5, .int x5_1), (0, .ref (aI 0)), (1, .int x1), (2, .int x2), (3, .int x3), (4, .int x4)]) hC.1 hC.2.1 dX8_best_110 hl (k := 5) rfl (by rw [ex5_1]; rfl) (by decide) rfl (fun ls hl => ?_)
  refine lv_goto (tgt := 26) hC.1 hC.2.1 dX8_best_113 (by decide) ?_
  exact hk26 _ _ _ _ _ _ _ _ _ _ hf hW (lv_sub hl [1, 2, 3, 4, 5, 0] rfl)
set_option maxRecDepth 100000 in
set_option maxHeartbeats 4000000 in
theorem t8_best_26 (hC : Cx p s m args meth c cX8_best 10 wsX8_best RX8 (some .int)) {k14 : Int32 → Int32 → Int32 → Int32 → Ob → Option (Int32)} (hk14 : ∀ (x1 : Int32) (x2 : Int32) (x3 : Int32) (x4 : Int32) (SI : Ob) (res : Int32) (H : Heap) (locs : List Loc) (ls : Array Slot), k14 x1 x2 x3 x4 SI = some res → GW D cy ad (w4 cy aI SI) A s H locs → lv_has ls 10 [(0, .ref (aI 0)), (1, .int x1), (2, .int x2), (3, .int x3), (4, .int x4)] → W p l e rm8_best s m args below meth c H locs 0 0 (MQ below (QI D cy (w4 cy aI SI) A res) args s 0 0 A) (F0 m 14 ls [])) : ∀ n : Nat, ∀ (x1 : Int32) (x2 : Int32) (x3 : Int32) (x4 : Int32) (x5 : Int32) (SI : Ob) (res : Int32) (H : Heap) (locs : List Loc) (ls : Array Slot), f8_best_26 k14 n x1 x2 x3 x4 x5 SI = some res → GW D cy ad (w4 cy aI SI) A s H locs → lv_has ls 10 [(0, .ref (aI 0)), (1, .int x1), (2, .int x2), (3, .int x3), (4, .int x4), (5, .int x5)] → W p l e rm8_best s m args below meth c H locs 0 0 (MQ below (QI D cy (w4 cy aI SI) A res) args s 0 0 A) (F0 m 26 ls []) := by
  intro n
  induction n with
  | zero =>
    intro _ _ _ _ _ _ _ _ _ _ hf _ _
    exact nomatch (show (none : Option (Int32)) = some _ from hf)
  | succ n ih =>
    intro x1 x2 x3 x4 x5 SI res H locs ls hf hW hl
    rw [f8_best_26] at hf
    refine lv_iload hC.1 hC.2.1 dX8_best_26 (lv_at hl 5 rfl) ?_
    refine lv_aload_n hC.1 hC.2.1 dX8_best_28 rfl (lv_at hl 0 rfl) ?_
    refine g_get hC hW hin8_best_4 0 rfl rfl 0 (by decide) 1 rfl rfl dX8_best_29 ?_
    refine lv_icmp_ge (tgt := 116) hC.1 hC.2.1 dX8_best_32 (by decide) (fun hc_1 => ?_) (fun hc_1 => ?_)
    · have hf := ite_t hf hc_1
      obtain ⟨x4_2, ex4_2⟩ : ∃ y : Int32, y = x4 + 1 := ⟨_, rfl⟩
      have hf := lt_nm hf ex4_2
      refine lv_iinc (v := x4_2) (lv' := [(4, .int x4_2), (0, .ref (aI 0)), (1, .int x1), (2, .int x2), (3, .int x3), (5, .int x5)]) hC.1 hC.2.1 dX8_best_116 hl (k := 4) rfl (by rw [ex4_2]; rfl) (by decide) rfl (fun ls hl => ?_)
      refine lv_goto (tgt := 14) hC.1 hC.2.1 dX8_best_119 (by decide) ?_
      exact hk14 _ _ _ _ _ _ _ _ _ hf hW (lv_sub hl [1, 2, 3, 4, 0] rfl)
    · have hf := ite_f hf hc_1
      refine lv_aload_n hC.1 hC.2.1 dX8_best_35 rfl (lv_at hl 0 rfl) ?_
      refine lv_iload hC.1 hC.2.1 dX8_best_36 (lv_at hl 5 rfl) ?_
      obtain ⟨r_3, hg_4, hf⟩ := bd_of hf
      refine g_calliV (w' := w4 cy aI SI) hC hW (c4_worldsOf l D cy ad aI hg_4) (cwV 1 hC.2.2.2.2.1 gX8_best_X4_worldsOf rfl rfl rfl hdV4_worldsOf ⟨Nat.le_of_ble_eq_true rfl, Nat.le_of_ble_eq_true rfl⟩) (Sub.all _ _) 0 4 rfl rfl rfl rfl hl.1 rfl (Nat.le_of_ble_eq_true rfl) dX8_best_38 ⟨Nat.zero_le _, Nat.zero_le _⟩ (fun H locs hW => ?_)
      refine lv_istore (lv' := [(6, .int r_3), (0, .ref (aI 0)), (1, .int x1), (2, .int x2), (3, .int x3), (4, .int x4), (5, .int x5)]) hC.1 hC.2.1 dX8_best_41 hl (by decide) rfl (fun ls hl => ?_)
      refine lv_aload_n hC.1 hC.2.1 dX8_best_43 rfl (lv_at hl 1 rfl) ?_
      refine lv_iload_n hC.1 hC.2.1 dX8_best_44 rfl (lv_at hl 2 rfl) ?_
      refine lv_aload_n hC.1 hC.2.1 dX8_best_45 rfl (lv_at hl 1 rfl) ?_
      refine lv_iload hC.1 hC.2.1 dX8_best_46 (lv_at hl 5 rfl) ?_
      refine lv_iload hC.1 hC.2.1 dX8_best_48 (lv_at hl 0 rfl) ?_
      obtain ⟨r_5, hg_6, hf⟩ := bd_of hf
      refine g_calliV (w' := w4 cy aI SI) hC hW (c4_sayable l D cy ad aI hg_6) (cwV 2 hC.2.2.2.2.1 gX8_best_X4_sayable rfl rfl rfl hdV4_sayable ⟨Nat.le_of_ble_eq_true rfl, Nat.le_of_ble_eq_true rfl⟩) (Sub.all _ _) 0 4 rfl rfl rfl rfl hl.1 rfl (Nat.le_of_ble_eq_true rfl) dX8_best_50 ⟨Nat.zero_le _, Nat.zero_le _⟩ (fun H locs hW => ?_)
      refine lv_iand hC.1 hC.2.1 dX8_best_53 ?_
      obtain ⟨r_7, hg_8, hf⟩ := bd_of hf
      refine g_calliV (w' := w4 cy aI SI) hC hW (c4_guestsIn l D cy ad aI hg_8) (cwV 1 hC.2.2.2.2.1 gX8_best_X4_guestsIn rfl rfl rfl hdV4_guestsIn ⟨Nat.le_of_ble_eq_true rfl, Nat.le_of_ble_eq_true rfl⟩) (Sub.all _ _) 0 4 rfl rfl rfl rfl hl.1 rfl (Nat.le_of_ble_eq_true rfl) dX8_best_54 ⟨Nat.zero_le _, Nat.zero_le _⟩ (fun H locs hW => ?_)
      obtain ⟨r_9, hg_10, hf⟩ := bd_of hf
      refine g_calliS (w' := w4 cy aI SI) hC hW (cj6_bitCount l D cy ad  hg_10) (va_cwS 1 hC.2.2.2.2.1 gX8_best_J6_bitCount_0f7a4 rfl rfl rfl hdSj6_bitCount ⟨Nat.le_of_ble_eq_true rfl, Nat.le_of_ble_eq_true rfl⟩) (Sub.nil _) rfl hl.1 rfl (Nat.le_of_ble_eq_true rfl) dX8_best_57 ⟨Nat.zero_le _, Nat.zero_le _⟩ (fun H locs hW => ?_)
      refine lv_istore (lv' := [(7, .int r_9), (6, .int r_3), (0, .ref (aI 0)), (1, .int x1), (2, .int x2), (3, .int x3), (4, .int x4), (5, .int x5)]) hC.1 hC.2.1 dX8_best_60 hl (by decide) rfl (fun ls hl => ?_)
      refine lv_aload_n hC.1 hC.2.1 dX8_best_62 rfl (lv_at hl 2 rfl) ?_
      refine lv_iload_n hC.1 hC.2.1 dX8_best_63 rfl (lv_at hl 3 rfl) ?_
      refine lv_aload_n hC.1 hC.2.1 dX8_best_64 rfl (lv_at hl 2 rfl) ?_
      refine lv_iload hC.1 hC.2.1 dX8_best_65 (lv_at hl 6 rfl) ?_
      refine lv_iload hC.1 hC.2.1 dX8_best_67 (lv_at hl 1 rfl) ?_
      refine lv_iconst (v := (-1)) hC.1 hC.2.1 dX8_best_69 (by decide) ?_
      refine lv_ixor hC.1 hC.2.1 dX8_best_70 ?_
      obtain ⟨r_11, hg_12, hf⟩ := bd_of hf
      refine g_calliV (w' := w4 cy aI SI) hC hW (c4_sayable l D cy ad aI hg_12) (cwV 2 hC.2.2.2.2.1 gX8_best_X4_sayable rfl rfl rfl hdV4_sayable ⟨Nat.le_of_ble_eq_true rfl, Nat.le_of_ble_eq_true rfl⟩) (Sub.all _ _) 0 4 rfl rfl rfl rfl hl.1 rfl (Nat.le_of_ble_eq_true rfl) dX8_best_71 ⟨Nat.zero_le _, Nat.zero_le _⟩ (fun H locs hW => ?_)
      refine lv_iand hC.1 hC.2.1 dX8_best_74 ?_
      obtain ⟨r_13, hg_14, hf⟩ := bd_of hf
      refine g_calliV (w' := w4 cy aI SI) hC hW (c4_guestsIn l D cy ad aI hg_14) (cwV 1 hC.2.2.2.2.1 gX8_best_X4_guestsIn rfl rfl rfl hdV4_guestsIn ⟨Nat.le_of_ble_eq_true rfl, Nat.le_of_ble_eq_true rfl⟩) (Sub.all _ _) 0 4 rfl rfl rfl rfl hl.1 rfl (Nat.le_of_ble_eq_true rfl) dX8_best_75 ⟨Nat.zero_le _, Nat.zero_le _⟩ (fun H locs hW => ?_)
      obtain ⟨r_15, hg_16, hf⟩ := bd_of hf
      refine g_calliS (w' := w4 cy aI SI) hC hW (cj6_bitCount l D cy ad  hg_16) (va_cwS 1 hC.2.2.2.2.1 gX8_best_J6_bitCount_0f7a4 rfl rfl rfl hdSj6_bitCount ⟨Nat.le_of_ble_eq_true rfl, Nat.le_of_ble_eq_true rfl⟩) (Sub.nil _) rfl hl.1 rfl (Nat.le_of_ble_eq_true rfl) dX8_best_78 ⟨Nat.zero_le _, Nat.zero_le _⟩ (fun H locs hW => ?_)
      refine lv_istore (lv' := [(8, .int r_15), (7, .int r_9), (6, .int r_3), (0, .ref (aI 0)), (1, .int x1), (2, .int x2), (3, .int x3), (4, .int x4), (5, .int x5)]) hC.1 hC.2.1 dX8_best_81 hl (by decide) rfl (fun ls hl => ?_)
      refine lv_iload hC.1 hC.2.1 dX8_best_83 (lv_at hl 1 rfl) ?_
      refine lv_iload hC.1 hC.2.1 dX8_best_85 (lv_at hl 0 rfl) ?_
      refine va_mmax hC.1 hC.2.1 (by rw [hC.2.2.1]; exact hl.1.symm) hC.2.2.2.1 (hC.2.2.2.2.1 _ (List.mem_of_getElem? (i := 2) rfl)) (hC.2.2.2.2.1 _ (List.mem_of_getElem? (i := 3) rfl)) (hC.2.2.2.2.1 _ (List.mem_of_getElem? (i := 4) rfl)) (hC.2.2.2.2.1 _ (List.mem_of_getElem? (i := 5) rfl)) (Nat.le_of_ble_eq_true rfl) (Nat.le_of_ble_eq_true rfl) (Nat.zero_le _) (Nat.zero_le _) dX8_best_87 ?_
      refine lv_topi (fun x9_17 ex9_17 => ?_)
      have hf := lt_nm hf ex9_17
      refine lv_istore (lv' := [(9, .int x9_17), (8, .int r_15), (7, .int r_9), (6, .int r_3), (0, .ref (aI 0)), (1, .int x1), (2, .int x2), (3, .int x3), (4, .int x4), (5, .int x5)]) hC.1 hC.2.1 dX8_best_90 hl (by decide) rfl (fun ls hl => ?_)
      refine lv_iload hC.1 hC.2.1 dX8_best_92 (lv_at hl 0 rfl) ?_
      refine lv_iload_n hC.1 hC.2.1 dX8_best_94 rfl (lv_at hl 6 rfl) ?_
      refine lv_icmp_ge (tgt := 110) hC.1 hC.2.1 dX8_best_95 (by decide) (fun hc_18 => ?_) (fun hc_18 => ?_)
      · have hf := ite_t hf hc_18
        exact t8_best_110 hC hk14 ih  _ _ _ _ _ _ _ _ _ _ hf hW (lv_sub hl [4, 5, 6, 7, 8, 9] rfl)
      · have hf := ite_f hf hc_18
        refine lv_iload hC.1 hC.2.1 dX8_best_98 (lv_at hl 0 rfl) ?_
        refine lv_istore_n (lv' := [(2, .int x9_17), (9, .int x9_17), (8, .int r_15), (7, .int r_9), (6, .int r_3), (0, .ref (aI 0)), (1, .int x1), (3, .int x3), (4, .int x4), (5, .int x5)]) hC.1 hC.2.1 dX8_best_100 rfl hl (by decide) rfl (fun ls hl => ?_)
        refine lv_iload hC.1 hC.2.1 dX8_best_101 (lv_at hl 8 rfl) ?_
        refine lv_bipush (v := 8) hC.1 hC.2.1 dX8_best_103 (by decide) ?_
        refine lv_imul hC.1 hC.2.1 dX8_best_105 ?_
        refine lv_iload hC.1 hC.2.1 dX8_best_106 (lv_at hl 9 rfl) ?_
        refine lv_iadd hC.1 hC.2.1 dX8_best_108 ?_
        refine lv_topi (fun x3_19 ex3_19 => ?_)
        have hf := lt_nm hf ex3_19
        refine lv_istore_n (lv' := [(3, .int x3_19), (2, .int x9_17), (9, .int x9_17), (8, .int r_15), (7, .int r_9), (6, .int r_3), (0, .ref (aI 0)), (1, .int x1), (4, .int x4), (5, .int x5)]) hC.1 hC.2.1 dX8_best_109 rfl hl (by decide) rfl (fun ls hl => ?_)
        exact t8_best_110 hC hk14 ih  _ _ _ _ _ _ _ _ _ _ hf hW (lv_sub hl [6, 7, 1, 0, 8, 9] rfl)
set_option maxRecDepth 100000 in
set_option maxHeartbeats 4000000 in
theorem t8_best_14 (hC : Cx p s m args meth c cX8_best 10 wsX8_best RX8 (some .int)) : ∀ n : Nat, ∀ (x1 : Int32) (x2 : Int32) (x3 : Int32) (x4 : Int32) (SI : Ob) (res : Int32) (H : Heap) (locs : List Loc) (ls : Array Slot), f8_best_14 n x1 x2 x3 x4 SI = some res → GW D cy ad (w4 cy aI SI) A s H locs → lv_has ls 10 [(0, .ref (aI 0)), (1, .int x1), (2, .int x2), (3, .int x3), (4, .int x4)] → W p l e rm8_best s m args below meth c H locs 0 0 (MQ below (QI D cy (w4 cy aI SI) A res) args s 0 0 A) (F0 m 14 ls []) := by
  intro n
  induction n with
  | zero =>
    intro _ _ _ _ _ _ _ _ _ hf _ _
    exact nomatch (show (none : Option (Int32)) = some _ from hf)
  | succ n ih =>
    intro x1 x2 x3 x4 SI res H locs ls hf hW hl
    rw [f8_best_14] at hf
    refine lv_iload hC.1 hC.2.1 dX8_best_14 (lv_at hl 4 rfl) ?_
    refine lv_aload_n hC.1 hC.2.1 dX8_best_16 rfl (lv_at hl 0 rfl) ?_
    refine g_get hC hW hin8_best_4 0 rfl rfl 0 (by decide) 1 rfl rfl dX8_best_17 ?_
    refine lv_icmp_ge (tgt := 122) hC.1 hC.2.1 dX8_best_20 (by decide) (fun hc_1 => ?_) (fun hc_1 => ?_)
    · have hf := ite_t hf hc_1
      refine lv_iload_n hC.1 hC.2.1 dX8_best_122 rfl (lv_at hl 3 rfl) ?_
      obtain rfl := Option.some.inj hf
      exact g_iret hC hW dX8_best_123
    · have hf := ite_f hf hc_1
      refine lv_iconst (v := 0) hC.1 hC.2.1 dX8_best_23 (by decide) ?_
      refine lv_istore (lv' := [(5, .int 0), (0, .ref (aI 0)), (1, .int x1), (2, .int x2), (3, .int x3), (4, .int x4)]) hC.1 hC.2.1 dX8_best_24 hl (by decide) rfl (fun ls hl => ?_)
      exact t8_best_26 hC ih _ _ _ _ _ _ _ _ _ _ _ hf hW (lv_sub hl [1, 2, 3, 4, 5, 0] rfl)
set_option maxRecDepth 100000 in
set_option maxHeartbeats 4000000 in
theorem t8_best_0 (hC : Cx p s m args meth c cX8_best 10 wsX8_best RX8 (some .int)) : ∀ (x1 : Int32) (SI : Ob) (res : Int32) (H : Heap) (locs : List Loc) (ls : Array Slot), f8_best x1 SI = some res → GW D cy ad (w4 cy aI SI) A s H locs → lv_has ls 10 [(0, .ref (aI 0)), (1, .int x1)] → W p l e rm8_best s m args below meth c H locs 0 0 (MQ below (QI D cy (w4 cy aI SI) A res) args s 0 0 A) (F0 m 0 ls []) := by
  intro x1 SI res H locs ls hf hW hl
  unfold f8_best at hf
  refine lv_aload_n hC.1 hC.2.1 dX8_best_0 rfl (lv_at hl 0 rfl) ?_
  refine lv_iload_n hC.1 hC.2.1 dX8_best_1 rfl (lv_at hl 1 rfl) ?_
  obtain ⟨r_1, hg_2, hf⟩ := bd_of hf
  refine g_calliV (w' := w4 cy aI SI) hC hW (c4_guestsIn l D cy ad aI hg_2) (cwV 1 hC.2.2.2.2.1 gX8_best_X4_guestsIn rfl rfl rfl hdV4_guestsIn ⟨Nat.le_of_ble_eq_true rfl, Nat.le_of_ble_eq_true rfl⟩) (Sub.all _ _) 0 4 rfl rfl rfl rfl hl.1 rfl (Nat.le_of_ble_eq_true rfl) dX8_best_2 ⟨Nat.zero_le _, Nat.zero_le _⟩ (fun H locs hW => ?_)
  obtain ⟨r_3, hg_4, hf⟩ := bd_of hf
  refine g_calliS (w' := w4 cy aI SI) hC hW (cj6_bitCount l D cy ad  hg_4) (va_cwS 1 hC.2.2.2.2.1 gX8_best_J6_bitCount_0f7a4 rfl rfl rfl hdSj6_bitCount ⟨Nat.le_of_ble_eq_true rfl, Nat.le_of_ble_eq_true rfl⟩) (Sub.nil _) rfl hl.1 rfl (Nat.le_of_ble_eq_true rfl) dX8_best_5 ⟨Nat.zero_le _, Nat.zero_le _⟩ (fun H locs hW => ?_)
  refine lv_istore_n (lv' := [(2, .int r_3), (0, .ref (aI 0)), (1, .int x1)]) hC.1 hC.2.1 dX8_best_8 rfl hl (by decide) rfl (fun ls hl => ?_)
  refine lv_iconst (v := (-1)) hC.1 hC.2.1 dX8_best_9 (by decide) ?_
  refine lv_istore_n (lv' := [(3, .int (-1)), (2, .int r_3), (0, .ref (aI 0)), (1, .int x1)]) hC.1 hC.2.1 dX8_best_10 rfl hl (by decide) rfl (fun ls hl => ?_)
  refine lv_iconst (v := 0) hC.1 hC.2.1 dX8_best_11 (by decide) ?_
  refine lv_istore (lv' := [(4, .int 0), (3, .int (-1)), (2, .int r_3), (0, .ref (aI 0)), (1, .int x1)]) hC.1 hC.2.1 dX8_best_12 hl (by decide) rfl (fun ls hl => ?_)
  exact t8_best_14 hC _ _ _ _ _ _ _ _ _ _ hf hW (lv_sub hl [3, 4, 2, 1, 0] rfl)
set_option maxRecDepth 100000 in
set_option maxHeartbeats 4000000 in
theorem c8_best (l : Launch) (D : va_G) (cy : Nat → ClassId) (ad : Nat → Nat) (aI : Nat → Nat) {x1 : Int32} {SI : Ob} {res : Int32} (h : f8_best x1 SI = some res) : GCi l yX8_best wsX8_best rm8_best [.ref (aI 0), .int x1] D cy ad (w4 cy aI SI) (w4 cy aI SI) res := fun sz => GC.start (own := RX8) (Qc := fun A => QI D cy (w4 cy aI SI) A res) sz (by decide) rfl rfl (Nat.le_of_ble_eq_true rfl) (fun p e s m below meth c A ls hC hW hl => t8_best_0 hC _ _ _ _ _ _ h hW (lv_sub hl [0, 1] rfl))
abbrev rm8_isNew : Room := { frames := 0, cells := 0, slots := 0, locals := 0 }
theorem hdV8_isNew : yX8_isNew.cls = RX8 ∧ (yX8_isNew.cls ≠ "java/lang/invoke/MethodHandle" ∧ yX8_isNew.cls ≠ "java/lang/invoke/VarHandle" ∧ (parseMethodDescriptor yX8_isNew.desc).map (fun d => d.parameters.length) = some 2) := by decide +kernel
theorem hin8_isNew_8 : ∀ x ∈ u_ws RX8 TX8 2, x ∈ wsX8_isNew := fun _ h => List.mem_cons_of_mem _ (List.mem_append_right _ h)
set_option maxRecDepth 100000 in
set_option maxHeartbeats 4000000 in
theorem t8_isNew_2 (hC : Cx p s m args meth c cX8_isNew 4 wsX8_isNew RX8 (some .boolean)) : ∀ n : Nat, ∀ (x1 : Int32) (x2 : Int32) (x3 : Int32) (SQ : Ob) (res : Int32) (H : Heap) (locs : List Loc) (ls : Array Slot), f8_isNew_2 n x1 x2 x3 SQ = some res → GW D cy ad (w8 cy aQ SQ) A s H locs → lv_has ls 4 [(0, .ref (aQ 0)), (1, .int x1), (2, .int x2), (3, .int x3)] → W p l e rm8_isNew s m args below meth c H locs 0 0 (MQ below (QI D cy (w8 cy aQ SQ) A res) args s 0 0 A) (F0 m 2 ls []) := by
  intro n
  induction n with
  | zero =>
    intro _ _ _ _ _ _ _ _ hf _ _
    exact nomatch (show (none : Option (Int32)) = some _ from hf)
  | succ n ih =>
    intro x1 x2 x3 SQ res H locs ls hf hW hl
    rw [f8_isNew_2] at hf
    refine lv_iload_n hC.1 hC.2.1 dX8_isNew_2 rfl (lv_at hl 3 rfl) ?_
    refine lv_iload_n hC.1 hC.2.1 dX8_isNew_3 rfl (lv_at hl 2 rfl) ?_
    refine lv_icmp_ge (tgt := 25) hC.1 hC.2.1 dX8_isNew_4 (by decide) (fun hc_1 => ?_) (fun hc_1 => ?_)
    · have hf := ite_t hf hc_1
      refine lv_iconst (v := 1) hC.1 hC.2.1 dX8_isNew_25 (by decide) ?_
      obtain rfl := Option.some.inj hf
      exact g_zret (v := 1) hC hW (by decide) dX8_isNew_26
    · have hf := ite_f hf hc_1
      refine lv_aload_n hC.1 hC.2.1 dX8_isNew_7 rfl (lv_at hl 0 rfl) ?_
      refine g_get hC hW hin8_isNew_8 0 rfl rfl 0 (by decide) 1 rfl rfl dX8_isNew_8 ?_
      refine lv_iload_n hC.1 hC.2.1 dX8_isNew_11 rfl (lv_at hl 3 rfl) ?_
      obtain ⟨hi_2, hf⟩ := ck_of hf
      refine g_iald hC hW 1 rfl hi_2 dX8_isNew_12 ?_
      refine lv_iload_n hC.1 hC.2.1 dX8_isNew_13 rfl (lv_at hl 1 rfl) ?_
      refine lv_icmp_ne (tgt := 19) hC.1 hC.2.1 dX8_isNew_14 (by decide) (fun hc_3 => ?_) (fun hc_3 => ?_)
      · have hf := ite_f hf hc_3
        obtain ⟨x3_4, ex3_4⟩ : ∃ y : Int32, y = x3 + 1 := ⟨_, rfl⟩
        have hf := lt_nm hf ex3_4
        refine lv_iinc (v := x3_4) (lv' := [(3, .int x3_4), (0, .ref (aQ 0)), (1, .int x1), (2, .int x2)]) hC.1 hC.2.1 dX8_isNew_19 hl (k := 3) rfl (by rw [ex3_4]; rfl) (by decide) rfl (fun ls hl => ?_)
        refine lv_goto (tgt := 2) hC.1 hC.2.1 dX8_isNew_22 (by decide) ?_
        exact ih _ _ _ _ _ _ _ _ hf hW (lv_sub hl [1, 2, 3, 0] rfl)
      · have hf := ite_t hf hc_3
        refine lv_iconst (v := 0) hC.1 hC.2.1 dX8_isNew_17 (by decide) ?_
        obtain rfl := Option.some.inj hf
        exact g_zret (v := 0) hC hW (by decide) dX8_isNew_18
set_option maxRecDepth 100000 in
set_option maxHeartbeats 4000000 in
theorem t8_isNew_0 (hC : Cx p s m args meth c cX8_isNew 4 wsX8_isNew RX8 (some .boolean)) : ∀ (x1 : Int32) (x2 : Int32) (SQ : Ob) (res : Int32) (H : Heap) (locs : List Loc) (ls : Array Slot), f8_isNew x1 x2 SQ = some res → GW D cy ad (w8 cy aQ SQ) A s H locs → lv_has ls 4 [(0, .ref (aQ 0)), (1, .int x1), (2, .int x2)] → W p l e rm8_isNew s m args below meth c H locs 0 0 (MQ below (QI D cy (w8 cy aQ SQ) A res) args s 0 0 A) (F0 m 0 ls []) := by
  intro x1 x2 SQ res H locs ls hf hW hl
  unfold f8_isNew at hf
  refine lv_iconst (v := 0) hC.1 hC.2.1 dX8_isNew_0 (by decide) ?_
  refine lv_istore_n (lv' := [(3, .int 0), (0, .ref (aQ 0)), (1, .int x1), (2, .int x2)]) hC.1 hC.2.1 dX8_isNew_1 rfl hl (by decide) rfl (fun ls hl => ?_)
  exact t8_isNew_2 hC _ _ _ _ _ _ _ _ _ hf hW (lv_sub hl [1, 2, 3, 0] rfl)
set_option maxRecDepth 100000 in
set_option maxHeartbeats 4000000 in
theorem c8_isNew (l : Launch) (D : va_G) (cy : Nat → ClassId) (ad : Nat → Nat) (aQ : Nat → Nat) {x1 : Int32} {x2 : Int32} {SQ : Ob} {res : Int32} (h : f8_isNew x1 x2 SQ = some res) : GCi l yX8_isNew wsX8_isNew rm8_isNew [.ref (aQ 0), .int x1, .int x2] D cy ad (w8 cy aQ SQ) (w8 cy aQ SQ) res := fun sz => GC.start (own := RX8) (Qc := fun A => QI D cy (w8 cy aQ SQ) A res) sz (by decide) rfl rfl (Nat.le_of_ble_eq_true rfl) (fun p e s m below meth c A ls hC hW hl => t8_isNew_0 hC _ _ _ _ _ _ _ h hW (lv_sub hl [0, 1, 2] rfl))
abbrev rm8_findParting : Room := { frames := 2, cells := 0, slots := 0, locals := 44 }
theorem hdV8_findParting : yX8_findParting.cls = RX8 ∧ (yX8_findParting.cls ≠ "java/lang/invoke/MethodHandle" ∧ yX8_findParting.cls ≠ "java/lang/invoke/VarHandle" ∧ (parseMethodDescriptor yX8_findParting.desc).map (fun d => d.parameters.length) = some 3) := by decide +kernel
theorem hin8_findParting_4 : ∀ x ∈ u_ws RX4 TX4 13, x ∈ wsX8_findParting := fun _ h => List.mem_cons_of_mem _ (List.mem_append_left _ (List.mem_append_right _ h))
theorem hin8_findParting_8 : ∀ x ∈ u_ws RX8 TX8 2, x ∈ wsX8_findParting := fun _ h => List.mem_cons_of_mem _ (List.mem_append_right _ h)
set_option maxRecDepth 100000 in
set_option maxHeartbeats 4000000 in
theorem t8_findParting_114 (hC : Cx p s m args meth c cX8_findParting 9 wsX8_findParting RX8 (some .int)) {k6 : Int32 → Int32 → Int32 → Int32 → Ob → Ob → Option (Int32 × Ob)} (hk6 : ∀ (x2 : Int32) (x3 : Int32) (x4 : Int32) (x5 : Int32) (SQ : Ob) (SI : Ob) (res : Int32 × Ob) (H : Heap) (locs : List Loc) (ls : Array Slot), k6 x2 x3 x4 x5 SQ SI = some res → GW D cy ad (w8 cy aQ SQ ++ (w4 cy aI SI)) A s H locs → lv_has ls 9 [(0, .ref (aQ 0)), (1, .ref (aI 0)), (2, .int x2), (3, .int x3), (4, .int x4), (5, .int x5)] → W p l e rm8_findParting s m args below meth c H locs 0 0 (MQ below (QI D cy (w8 cy aQ (res.2) ++ (w4 cy aI SI)) A (res.1)) args s 0 0 A) (F0 m 6 ls [])) {k18 : Int32 → Int32 → Int32 → Int32 → Int32 → Ob → Ob → Option (Int32 × Ob)} (hk18 : ∀ (x2 : Int32) (x3 : Int32) (x4 : Int32) (x5 : Int32) (x6 : Int32) (SQ : Ob) (SI : Ob) (res : Int32 × Ob) (H : Heap) (locs : List Loc) (ls : Array Slot), k18 x2 x3 x4 x5 x6 SQ SI = some res → GW D cy ad (w8 cy aQ SQ ++ (w4 cy aI SI)) A s H locs → lv_has ls 9 [(0, .ref (aQ 0)), (1, .ref (aI 0)), (2, .int x2), (3, .int x3), (4, .int x4), (5, .int x5), (6, .int x6)] → W p l e rm8_findParting s m args below meth c H locs 0 0 (MQ below (QI D cy (w8 cy aQ (res.2) ++ (w4 cy aI SI)) A (res.1)) args s 0 0 A) (F0 m 18 ls [])) : ∀ (x2 : Int32) (x3 : Int32) (x4 : Int32) (x5 : Int32) (x6 : Int32) (SQ : Ob) (SI : Ob) (res : Int32 × Ob) (H : Heap) (locs : List Loc) (ls : Array Slot), f8_findParting_114 k6 k18 x2 x3 x4 x5 x6 SQ SI = some res → GW D cy ad (w8 cy aQ SQ ++ (w4 cy aI SI)) A s H locs → lv_has ls 9 [(0, .ref (aQ 0)), (1, .ref (aI 0)), (2, .int x2), (3, .int x3), (4, .int x4), (5, .int x5), (6, .int x6)] → W p l e rm8_findParting s m args below meth c H locs 0 0 (MQ below (QI D cy (w8 cy aQ (res.2) ++ (w4 cy aI SI)) A (res.1)) args s 0 0 A) (F0 m 114 ls []) := by
  intro x2 x3 x4 x5 x6 SQ SI res H locs ls hf hW hl
  unfold f8_findParting_114 at hf
  obtain ⟨x6_1, ex6_1⟩ : ∃ y : Int32, y = x6 + 1 := ⟨_, rfl⟩
  have hf := lt_nm hf ex6_1
  refine lv_iinc (v := x6_1) (lv' := [(6, .int x6_1), (0, .ref (aQ 0)), (1, .ref (aI 0)), (2, .int x2), (3, .int x3), (4, .int x4), (5, .int x5)]) hC.1 hC.2.1 dX8_findParting_114 hl (k := 6) rfl (by rw [ex6_1]; rfl) (by decide) rfl (fun ls hl => ?_)
  refine lv_goto (tgt := 18) hC.1 hC.2.1 dX8_findParting_117 (by decide) ?_
  exact hk18 _ _ _ _ _ _ _ _ _ _ _ hf hW (lv_sub hl [1, 2, 3, 4, 5, 6, 0] rfl)
set_option maxRecDepth 100000 in
set_option maxHeartbeats 4000000 in
theorem t8_findParting_74 (hC : Cx p s m args meth c cX8_findParting 9 wsX8_findParting RX8 (some .int)) {k6 : Int32 → Int32 → Int32 → Int32 → Ob → Ob → Option (Int32 × Ob)} (hk6 : ∀ (x2 : Int32) (x3 : Int32) (x4 : Int32) (x5 : Int32) (SQ : Ob) (SI : Ob) (res : Int32 × Ob) (H : Heap) (locs : List Loc) (ls : Array Slot), k6 x2 x3 x4 x5 SQ SI = some res → GW D cy ad (w8 cy aQ SQ ++ (w4 cy aI SI)) A s H locs → lv_has ls 9 [(0, .ref (aQ 0)), (1, .ref (aI 0)), (2, .int x2), (3, .int x3), (4, .int x4), (5, .int x5)] → W p l e rm8_findParting s m args below meth c H locs 0 0 (MQ below (QI D cy (w8 cy aQ (res.2) ++ (w4 cy aI SI)) A (res.1)) args s 0 0 A) (F0 m 6 ls [])) {k18 : Int32 → Int32 → Int32 → Int32 → Int32 → Ob → Ob → Option (Int32 × Ob)} (hk18 : ∀ (x2 : Int32) (x3 : Int32) (x4 : Int32) (x5 : Int32) (x6 : Int32) (SQ : Ob) (SI : Ob) (res : Int32 × Ob) (H : Heap) (locs : List Loc) (ls : Array Slot), k18 x2 x3 x4 x5 x6 SQ SI = some res → GW D cy ad (w8 cy aQ SQ ++ (w4 cy aI SI)) A s H locs → lv_has ls 9 [(0, .ref (aQ 0)), (1, .ref (aI 0)), (2, .int x2), (3, .int x3), (4, .int x4), (5, .int x5), (6, .int x6)] → W p l e rm8_findParting s m args below meth c H locs 0 0 (MQ below (QI D cy (w8 cy aQ (res.2) ++ (w4 cy aI SI)) A (res.1)) args s 0 0 A) (F0 m 18 ls [])) : ∀ (x2 : Int32) (x3 : Int32) (x4 : Int32) (x5 : Int32) (x6 : Int32) (x7 : Int32) (z0 : Int32) (SQ : Ob) (SI : Ob) (res : Int32 × Ob) (H : Heap) (locs : List Loc) (ls : Array Slot), f8_findParting_74 k6 k18 x2 x3 x4 x5 x6 x7 z0 SQ SI = some res → GW D cy ad (w8 cy aQ SQ ++ (w4 cy aI SI)) A s H locs → lv_has ls 9 [(0, .ref (aQ 0)), (1, .ref (aI 0)), (2, .int x2), (3, .int x3), (4, .int x4), (5, .int x5), (6, .int x6), (7, .int x7)] → W p l e rm8_findParting s m args below meth c H locs 0 0 (MQ below (QI D cy (w8 cy aQ (res.2) ++ (w4 cy aI SI)) A (res.1)) args s 0 0 A) (F0 m 74 ls [.int z0]) := by
  intro x2 x3 x4 x5 x6 x7 z0 SQ SI res H locs ls hf hW hl
  unfold f8_findParting_74 at hf
  refine lv_istore (lv' := [(8, .int z0), (0, .ref (aQ 0)), (1, .ref (aI 0)), (2, .int x2), (3, .int x3), (4, .int x4), (5, .int x5), (6, .int x6), (7, .int x7)]) hC.1 hC.2.1 dX8_findParting_74 hl (by decide) rfl (fun ls hl => ?_)
  refine lv_iload hC.1 hC.2.1 dX8_findParting_76 (lv_at hl 0 rfl) ?_
  refine lv_if_eq (tgt := 114) hC.1 hC.2.1 dX8_findParting_78 (by decide) (fun hc_1 => ?_) (fun hc_1 => ?_)
  · have hf := ite_t hf hc_1
    exact t8_findParting_114 hC hk6 hk18  _ _ _ _ _ _ _ _ _ _ _ hf hW (lv_sub hl [1, 2, 3, 4, 5, 6, 7] rfl)
  · have hf := ite_f hf hc_1
    refine lv_iload hC.1 hC.2.1 dX8_findParting_81 (lv_at hl 5 rfl) ?_
    refine lv_aload_n hC.1 hC.2.1 dX8_findParting_83 rfl (lv_at hl 1 rfl) ?_
    refine g_get hC hW hin8_findParting_8 0 rfl rfl 0 (by decide) 3 rfl rfl dX8_findParting_84 ?_
    refine va_alen hC.1 hC.2.1 hW.2.2.1 hW.1 1 0 rfl rfl (v := 64) rfl dX8_findParting_87 ?_
    refine lv_icmp_ge (tgt := 114) hC.1 hC.2.1 dX8_findParting_88 (by decide) (fun hc_2 => ?_) (fun hc_2 => ?_)
    · have hf := ite_t hf hc_2
      exact t8_findParting_114 hC hk6 hk18  _ _ _ _ _ _ _ _ _ _ _ hf hW (lv_sub hl [1, 2, 3, 4, 5, 6, 7] rfl)
    · have hf := ite_f hf hc_2
      refine lv_aload_n hC.1 hC.2.1 dX8_findParting_91 rfl (lv_at hl 1 rfl) ?_
      refine lv_iload hC.1 hC.2.1 dX8_findParting_92 (lv_at hl 8 rfl) ?_
      refine lv_iload hC.1 hC.2.1 dX8_findParting_94 (lv_at hl 5 rfl) ?_
      obtain ⟨r_3, hg_4, hf⟩ := bd_of hf
      refine g_calliV (w' := w8 cy aQ SQ ++ (w4 cy aI SI)) hC hW (c8_isNew l D cy ad aQ hg_4) (cwV 2 hC.2.2.2.2.1 gX8_findParting_X8_isNew rfl rfl rfl hdV8_isNew ⟨Nat.le_of_ble_eq_true rfl, Nat.le_of_ble_eq_true rfl⟩) (⟨[0, 1, 2], [3, 4, 5, 6, 7, 8, 9, 10, 11, 12, 13, 14], [12, 13, 14, 0, 1, 2, 3, 4, 5, 6, 7, 8, 9, 10, 11], w4 cy aI SI, rfl, rfl, rfl, rfl, by decide, rfl, rfl⟩) 0 7 rfl rfl rfl rfl hl.1 rfl (Nat.le_of_ble_eq_true rfl) dX8_findParting_96 ⟨Nat.zero_le _, Nat.zero_le _⟩ (fun H locs hW => ?_)
      refine lv_if_eq (tgt := 114) hC.1 hC.2.1 dX8_findParting_99 (by decide) (fun hc_5 => ?_) (fun hc_5 => ?_)
      · have hf := ite_t hf hc_5
        exact t8_findParting_114 hC hk6 hk18  _ _ _ _ _ _ _ _ _ _ _ hf hW (lv_sub hl [1, 2, 3, 4, 5, 6, 7] rfl)
      · have hf := ite_f hf hc_5
        refine lv_aload_n hC.1 hC.2.1 dX8_findParting_102 rfl (lv_at hl 1 rfl) ?_
        refine g_get hC hW hin8_findParting_8 0 rfl rfl 0 (by decide) 3 rfl rfl dX8_findParting_103 ?_
        refine lv_iload hC.1 hC.2.1 dX8_findParting_106 (lv_at hl 5 rfl) ?_
        refine lv_iload hC.1 hC.2.1 dX8_findParting_108 (lv_at hl 8 rfl) ?_
        obtain ⟨hi_6, hf⟩ := ck_of hf
        obtain ⟨SQ_7, eSQ_7⟩ : ∃ y : Ob, y = oA SQ 0 (Int32.toNatClampNeg x4) x7 := ⟨_, rfl⟩
        have hf := lt_nm hf eSQ_7
        refine g_iast hC hW 1 rfl hi_6 (w' := w8 cy aQ SQ_7 ++ (w4 cy aI SI)) (by rw [eSQ_7]; rfl) dX8_findParting_110 (fun H locs hW => ?_)
        obtain ⟨x4_8, ex4_8⟩ : ∃ y : Int32, y = x4 + 1 := ⟨_, rfl⟩
        have hf := lt_nm hf ex4_8
        refine lv_iinc (v := x4_8) (lv' := [(4, .int x4_8), (8, .int z0), (0, .ref (aQ 0)), (1, .ref (aI 0)), (2, .int x2), (3, .int x3), (5, .int x5), (6, .int x6), (7, .int x7)]) hC.1 hC.2.1 dX8_findParting_111 hl (k := 5) rfl (by rw [ex4_8]; rfl) (by decide) rfl (fun ls hl => ?_)
        exact t8_findParting_114 hC hk6 hk18  _ _ _ _ _ _ _ _ _ _ _ hf hW (lv_sub hl [2, 3, 4, 5, 0, 6, 7] rfl)
set_option maxRecDepth 100000 in
set_option maxHeartbeats 4000000 in
theorem t8_findParting_73 (hC : Cx p s m args meth c cX8_findParting 9 wsX8_findParting RX8 (some .int)) {k6 : Int32 → Int32 → Int32 → Int32 → Ob → Ob → Option (Int32 × Ob)} (hk6 : ∀ (x2 : Int32) (x3 : Int32) (x4 : Int32) (x5 : Int32) (SQ : Ob) (SI : Ob) (res : Int32 × Ob) (H : Heap) (locs : List Loc) (ls : Array Slot), k6 x2 x3 x4 x5 SQ SI = some res → GW D cy ad (w8 cy aQ SQ ++ (w4 cy aI SI)) A s H locs → lv_has ls 9 [(0, .ref (aQ 0)), (1, .ref (aI 0)), (2, .int x2), (3, .int x3), (4, .int x4), (5, .int x5)] → W p l e rm8_findParting s m args below meth c H locs 0 0 (MQ below (QI D cy (w8 cy aQ (res.2) ++ (w4 cy aI SI)) A (res.1)) args s 0 0 A) (F0 m 6 ls [])) {k18 : Int32 → Int32 → Int32 → Int32 → Int32 → Ob → Ob → Option (Int32 × Ob)} (hk18 : ∀ (x2 : Int32) (x3 : Int32) (x4 : Int32) (x5 : Int32) (x6 : Int32) (SQ : Ob) (SI : Ob) (res : Int32 × Ob) (H : Heap) (locs : List Loc) (ls : Array Slot), k18 x2 x3 x4 x5 x6 SQ SI = some res → GW D cy ad (w8 cy aQ SQ ++ (w4 cy aI SI)) A s H locs → lv_has ls 9 [(0, .ref (aQ 0)), (1, .ref (aI 0)), (2, .int x2), (3, .int x3), (4, .int x4), (5, .int x5), (6, .int x6)] → W p l e rm8_findParting s m args below meth c H locs 0 0 (MQ below (QI D cy (w8 cy aQ (res.2) ++ (w4 cy aI SI)) A (res.1)) args s 0 0 A) (F0 m 18 ls [])) : ∀ (x2 : Int32) (x3 : Int32) (x4 : Int32) (x5 : Int32) (x6 : Int32) (x7 : Int32) (SQ : Ob) (SI : Ob) (res : Int32 × Ob) (H : Heap) (locs : List Loc) (ls : Array Slot), f8_findParting_73 k6 k18 x2 x3 x4 x5 x6 x7 SQ SI = some res → GW D cy ad (w8 cy aQ SQ ++ (w4 cy aI SI)) A s H locs → lv_has ls 9 [(0, .ref (aQ 0)), (1, .ref (aI 0)), (2, .int x2), (3, .int x3), (4, .int x4), (5, .int x5), (6, .int x6), (7, .int x7)] → W p l e rm8_findParting s m args below meth c H locs 0 0 (MQ below (QI D cy (w8 cy aQ (res.2) ++ (w4 cy aI SI)) A (res.1)) args s 0 0 A) (F0 m 73 ls []) := by
  intro x2 x3 x4 x5 x6 x7 SQ SI res H locs ls hf hW hl
  unfold f8_findParting_73 at hf
  refine lv_iconst (v := 0) hC.1 hC.2.1 dX8_findParting_73 (by decide) ?_
  exact t8_findParting_74 hC hk6 hk18  _ _ _ _ _ _ _ _ _ _ _ _ _ hf hW (lv_sub hl [0, 1, 2, 3, 4, 5, 6, 7] rfl)
set_option maxRecDepth 100000 in
set_option maxHeartbeats 4000000 in
theorem t8_findParting_18 (hC : Cx p s m args meth c cX8_findParting 9 wsX8_findParting RX8 (some .int)) {k6 : Int32 → Int32 → Int32 → Int32 → Ob → Ob → Option (Int32 × Ob)} (hk6 : ∀ (x2 : Int32) (x3 : Int32) (x4 : Int32) (x5 : Int32) (SQ : Ob) (SI : Ob) (res : Int32 × Ob) (H : Heap) (locs : List Loc) (ls : Array Slot), k6 x2 x3 x4 x5 SQ SI = some res → GW D cy ad (w8 cy aQ SQ ++ (w4 cy aI SI)) A s H locs → lv_has ls 9 [(0, .ref (aQ 0)), (1, .ref (aI 0)), (2, .int x2), (3, .int x3), (4, .int x4), (5, .int x5)] → W p l e rm8_findParting s m args below meth c H locs 0 0 (MQ below (QI D cy (w8 cy aQ (res.2) ++ (w4 cy aI SI)) A (res.1)) args s 0 0 A) (F0 m 6 ls [])) : ∀ n : Nat, ∀ (x2 : Int32) (x3 : Int32) (x4 : Int32) (x5 : Int32) (x6 : Int32) (SQ : Ob) (SI : Ob) (res : Int32 × Ob) (H : Heap) (locs : List Loc) (ls : Array Slot), f8_findParting_18 k6 n x2 x3 x4 x5 x6 SQ SI = some res → GW D cy ad (w8 cy aQ SQ ++ (w4 cy aI SI)) A s H locs → lv_has ls 9 [(0, .ref (aQ 0)), (1, .ref (aI 0)), (2, .int x2), (3, .int x3), (4, .int x4), (5, .int x5), (6, .int x6)] → W p l e rm8_findParting s m args below meth c H locs 0 0 (MQ below (QI D cy (w8 cy aQ (res.2) ++ (w4 cy aI SI)) A (res.1)) args s 0 0 A) (F0 m 18 ls []) := by
  intro n
  induction n with
  | zero =>
    intro _ _ _ _ _ _ _ _ _ _ _ hf _ _
    exact nomatch (show (none : Option (Int32 × Ob)) = some _ from hf)
  | succ n ih =>
    intro x2 x3 x4 x5 x6 SQ SI res H locs ls hf hW hl
    rw [f8_findParting_18] at hf
    refine lv_iload hC.1 hC.2.1 dX8_findParting_18 (lv_at hl 6 rfl) ?_
    refine lv_aload_n hC.1 hC.2.1 dX8_findParting_20 rfl (lv_at hl 1 rfl) ?_
    refine g_get hC hW hin8_findParting_4 3 rfl rfl 0 (by decide) 1 rfl rfl dX8_findParting_21 ?_
    refine lv_icmp_ge (tgt := 120) hC.1 hC.2.1 dX8_findParting_24 (by decide) (fun hc_1 => ?_) (fun hc_1 => ?_)
    · have hf := ite_t hf hc_1
      obtain ⟨x5_2, ex5_2⟩ : ∃ y : Int32, y = x5 + 1 := ⟨_, rfl⟩
      have hf := lt_nm hf ex5_2
      refine lv_iinc (v := x5_2) (lv' := [(5, .int x5_2), (0, .ref (aQ 0)), (1, .ref (aI 0)), (2, .int x2), (3, .int x3), (4, .int x4), (6, .int x6)]) hC.1 hC.2.1 dX8_findParting_120 hl (k := 5) rfl (by rw [ex5_2]; rfl) (by decide) rfl (fun ls hl => ?_)
      refine lv_goto (tgt := 6) hC.1 hC.2.1 dX8_findParting_123 (by decide) ?_
      exact hk6 _ _ _ _ _ _ _ _ _ _ hf hW (lv_sub hl [1, 2, 3, 4, 5, 0] rfl)
    · have hf := ite_f hf hc_1
      refine lv_aload_n hC.1 hC.2.1 dX8_findParting_27 rfl (lv_at hl 1 rfl) ?_
      refine lv_iload_n hC.1 hC.2.1 dX8_findParting_28 rfl (lv_at hl 2 rfl) ?_
      refine lv_aload_n hC.1 hC.2.1 dX8_findParting_29 rfl (lv_at hl 1 rfl) ?_
      refine lv_iload hC.1 hC.2.1 dX8_findParting_30 (lv_at hl 5 rfl) ?_
      refine lv_aload_n hC.1 hC.2.1 dX8_findParting_32 rfl (lv_at hl 1 rfl) ?_
      refine lv_iload hC.1 hC.2.1 dX8_findParting_33 (lv_at hl 6 rfl) ?_
      obtain ⟨r_3, hg_4, hf⟩ := bd_of hf
      refine g_calliV (w' := w8 cy aQ SQ ++ (w4 cy aI SI)) hC hW (c4_worldsOf l D cy ad aI hg_4) (cwV 1 hC.2.2.2.2.1 gX8_findParting_X4_worldsOf rfl rfl rfl hdV4_worldsOf ⟨Nat.le_of_ble_eq_true rfl, Nat.le_of_ble_eq_true rfl⟩) (⟨[3, 4, 5, 6, 7, 8, 9, 10, 11, 12, 13, 14], [0, 1, 2], [0, 1, 2, 3, 4, 5, 6, 7, 8, 9, 10, 11, 12, 13, 14], w8 cy aQ SQ, rfl, rfl, rfl, rfl, by decide, rfl, rfl⟩) 0 4 rfl rfl rfl rfl hl.1 rfl (Nat.le_of_ble_eq_true rfl) dX8_findParting_35 ⟨Nat.zero_le _, Nat.zero_le _⟩ (fun H locs hW => ?_)
      obtain ⟨r_5, hg_6, hf⟩ := bd_of hf
      refine g_calliV (w' := w8 cy aQ SQ ++ (w4 cy aI SI)) hC hW (c4_sayable l D cy ad aI hg_6) (cwV 2 hC.2.2.2.2.1 gX8_findParting_X4_sayable rfl rfl rfl hdV4_sayable ⟨Nat.le_of_ble_eq_true rfl, Nat.le_of_ble_eq_true rfl⟩) (⟨[3, 4, 5, 6, 7, 8, 9, 10, 11, 12, 13, 14], [0, 1, 2], [0, 1, 2, 3, 4, 5, 6, 7, 8, 9, 10, 11, 12, 13, 14], w8 cy aQ SQ, rfl, rfl, rfl, rfl, by decide, rfl, rfl⟩) 0 4 rfl rfl rfl rfl hl.1 rfl (Nat.le_of_ble_eq_true rfl) dX8_findParting_38 ⟨Nat.zero_le _, Nat.zero_le _⟩ (fun H locs hW => ?_)
      refine lv_iand hC.1 hC.2.1 dX8_findParting_41 ?_
      obtain ⟨r_7, hg_8, hf⟩ := bd_of hf
      refine g_calliV (w' := w8 cy aQ SQ ++ (w4 cy aI SI)) hC hW (c4_guestsIn l D cy ad aI hg_8) (cwV 1 hC.2.2.2.2.1 gX8_findParting_X4_guestsIn rfl rfl rfl hdV4_guestsIn ⟨Nat.le_of_ble_eq_true rfl, Nat.le_of_ble_eq_true rfl⟩) (⟨[3, 4, 5, 6, 7, 8, 9, 10, 11, 12, 13, 14], [0, 1, 2], [0, 1, 2, 3, 4, 5, 6, 7, 8, 9, 10, 11, 12, 13, 14], w8 cy aQ SQ, rfl, rfl, rfl, rfl, by decide, rfl, rfl⟩) 0 4 rfl rfl rfl rfl hl.1 rfl (Nat.le_of_ble_eq_true rfl) dX8_findParting_42 ⟨Nat.zero_le _, Nat.zero_le _⟩ (fun H locs hW => ?_)
      refine lv_istore (lv' := [(7, .int r_7), (0, .ref (aQ 0)), (1, .ref (aI 0)), (2, .int x2), (3, .int x3), (4, .int x4), (5, .int x5), (6, .int x6)]) hC.1 hC.2.1 dX8_findParting_45 hl (by decide) rfl (fun ls hl => ?_)
      refine lv_aload_n hC.1 hC.2.1 dX8_findParting_47 rfl (lv_at hl 2 rfl) ?_
      refine g_get hC hW hin8_findParting_4 3 rfl rfl 2 (by decide) 2 rfl rfl dX8_findParting_48 ?_
      refine lv_iload hC.1 hC.2.1 dX8_findParting_51 (lv_at hl 6 rfl) ?_
      obtain ⟨hi_9, hf⟩ := ck_of hf
      refine g_iald hC hW 5 rfl hi_9 dX8_findParting_53 ?_
      refine lv_iconst (v := 3) hC.1 hC.2.1 dX8_findParting_54 (by decide) ?_
      refine lv_icmp_eq (tgt := 73) hC.1 hC.2.1 dX8_findParting_55 (by decide) (fun hc_10 => ?_) (fun hc_10 => ?_)
      · have hf := ite_t hf hc_10
        exact t8_findParting_73 hC hk6 ih  _ _ _ _ _ _ _ _ _ _ _ _ hf hW (lv_sub hl [1, 2, 3, 4, 5, 6, 7, 0] rfl)
      · have hf := ite_f hf hc_10
        refine lv_iload hC.1 hC.2.1 dX8_findParting_58 (lv_at hl 0 rfl) ?_
        refine lv_if_eq (tgt := 73) hC.1 hC.2.1 dX8_findParting_60 (by decide) (fun hc_11 => ?_) (fun hc_11 => ?_)
        · have hf := ite_t hf hc_11
          exact t8_findParting_73 hC hk6 ih  _ _ _ _ _ _ _ _ _ _ _ _ hf hW (lv_sub hl [1, 2, 3, 4, 5, 6, 7, 0] rfl)
        · have hf := ite_f hf hc_11
          refine lv_iload hC.1 hC.2.1 dX8_findParting_63 (lv_at hl 0 rfl) ?_
          refine lv_iload_n hC.1 hC.2.1 dX8_findParting_65 rfl (lv_at hl 4 rfl) ?_
          refine lv_icmp_eq (tgt := 73) hC.1 hC.2.1 dX8_findParting_66 (by decide) (fun hc_12 => ?_) (fun hc_12 => ?_)
          · have hf := ite_t hf hc_12
            exact t8_findParting_73 hC hk6 ih  _ _ _ _ _ _ _ _ _ _ _ _ hf hW (lv_sub hl [1, 2, 3, 4, 5, 6, 7, 0] rfl)
          · have hf := ite_f hf hc_12
            refine lv_iconst (v := 1) hC.1 hC.2.1 dX8_findParting_69 (by decide) ?_
            refine lv_goto (tgt := 74) hC.1 hC.2.1 dX8_findParting_70 (by decide) ?_
            exact t8_findParting_74 hC hk6 ih  _ _ _ _ _ _ _ _ _ _ _ _ _ hf hW (lv_sub hl [1, 2, 3, 4, 5, 6, 7, 0] rfl)
set_option maxRecDepth 100000 in
set_option maxHeartbeats 4000000 in
theorem t8_findParting_6 (hC : Cx p s m args meth c cX8_findParting 9 wsX8_findParting RX8 (some .int)) : ∀ n : Nat, ∀ (x2 : Int32) (x3 : Int32) (x4 : Int32) (x5 : Int32) (SQ : Ob) (SI : Ob) (res : Int32 × Ob) (H : Heap) (locs : List Loc) (ls : Array Slot), f8_findParting_6 n x2 x3 x4 x5 SQ SI = some res → GW D cy ad (w8 cy aQ SQ ++ (w4 cy aI SI)) A s H locs → lv_has ls 9 [(0, .ref (aQ 0)), (1, .ref (aI 0)), (2, .int x2), (3, .int x3), (4, .int x4), (5, .int x5)] → W p l e rm8_findParting s m args below meth c H locs 0 0 (MQ below (QI D cy (w8 cy aQ (res.2) ++ (w4 cy aI SI)) A (res.1)) args s 0 0 A) (F0 m 6 ls []) := by
  intro n
  induction n with
  | zero =>
    intro _ _ _ _ _ _ _ _ _ _ hf _ _
    exact nomatch (show (none : Option (Int32 × Ob)) = some _ from hf)
  | succ n ih =>
    intro x2 x3 x4 x5 SQ SI res H locs ls hf hW hl
    rw [f8_findParting_6] at hf
    refine lv_iload hC.1 hC.2.1 dX8_findParting_6 (lv_at hl 5 rfl) ?_
    refine lv_aload_n hC.1 hC.2.1 dX8_findParting_8 rfl (lv_at hl 1 rfl) ?_
    refine g_get hC hW hin8_findParting_4 3 rfl rfl 0 (by decide) 1 rfl rfl dX8_findParting_9 ?_
    refine lv_icmp_ge (tgt := 126) hC.1 hC.2.1 dX8_findParting_12 (by decide) (fun hc_1 => ?_) (fun hc_1 => ?_)
    · have hf := ite_t hf hc_1
      refine lv_iload hC.1 hC.2.1 dX8_findParting_126 (lv_at hl 4 rfl) ?_
      obtain rfl := Option.some.inj hf
      exact g_iret hC hW dX8_findParting_128
    · have hf := ite_f hf hc_1
      refine lv_iconst (v := 0) hC.1 hC.2.1 dX8_findParting_15 (by decide) ?_
      refine lv_istore (lv' := [(6, .int 0), (0, .ref (aQ 0)), (1, .ref (aI 0)), (2, .int x2), (3, .int x3), (4, .int x4), (5, .int x5)]) hC.1 hC.2.1 dX8_findParting_16 hl (by decide) rfl (fun ls hl => ?_)
      exact t8_findParting_18 hC ih _ _ _ _ _ _ _ _ _ _ _ _ hf hW (lv_sub hl [1, 2, 3, 4, 5, 6, 0] rfl)
set_option maxRecDepth 100000 in
set_option maxHeartbeats 4000000 in
theorem t8_findParting_0 (hC : Cx p s m args meth c cX8_findParting 9 wsX8_findParting RX8 (some .int)) : ∀ (x2 : Int32) (x3 : Int32) (SQ : Ob) (SI : Ob) (res : Int32 × Ob) (H : Heap) (locs : List Loc) (ls : Array Slot), f8_findParting x2 x3 SQ SI = some res → GW D cy ad (w8 cy aQ SQ ++ (w4 cy aI SI)) A s H locs → lv_has ls 9 [(0, .ref (aQ 0)), (1, .ref (aI 0)), (2, .int x2), (3, .int x3)] → W p l e rm8_findParting s m args below meth c H locs 0 0 (MQ below (QI D cy (w8 cy aQ (res.2) ++ (w4 cy aI SI)) A (res.1)) args s 0 0 A) (F0 m 0 ls []) := by
  intro x2 x3 SQ SI res H locs ls hf hW hl
  unfold f8_findParting at hf
  refine lv_iconst (v := 0) hC.1 hC.2.1 dX8_findParting_0 (by decide) ?_
  refine lv_istore (lv' := [(4, .int 0), (0, .ref (aQ 0)), (1, .ref (aI 0)), (2, .int x2), (3, .int x3)]) hC.1 hC.2.1 dX8_findParting_1 hl (by decide) rfl (fun ls hl => ?_)
  refine lv_iconst (v := 0) hC.1 hC.2.1 dX8_findParting_3 (by decide) ?_
  refine lv_istore (lv' := [(5, .int 0), (4, .int 0), (0, .ref (aQ 0)), (1, .ref (aI 0)), (2, .int x2), (3, .int x3)]) hC.1 hC.2.1 dX8_findParting_4 hl (by decide) rfl (fun ls hl => ?_)
  exact t8_findParting_6 hC _ _ _ _ _ _ _ _ _ _ _ hf hW (lv_sub hl [2, 3, 4, 5, 1, 0] rfl)
set_option maxRecDepth 100000 in
set_option maxHeartbeats 4000000 in
theorem c8_findParting (l : Launch) (D : va_G) (cy : Nat → ClassId) (ad : Nat → Nat) (aQ : Nat → Nat) (aI : Nat → Nat) {x2 : Int32} {x3 : Int32} {SQ : Ob} {SI : Ob} {res : Int32 × Ob} (h : f8_findParting x2 x3 SQ SI = some res) : GCi l yX8_findParting wsX8_findParting rm8_findParting [.ref (aQ 0), .ref (aI 0), .int x2, .int x3] D cy ad (w8 cy aQ SQ ++ (w4 cy aI SI)) (w8 cy aQ (res.2) ++ (w4 cy aI SI)) (res.1) := fun sz => GC.start (own := RX8) (Qc := fun A => QI D cy (w8 cy aQ (res.2) ++ (w4 cy aI SI)) A (res.1)) sz (by decide) rfl rfl (Nat.le_of_ble_eq_true rfl) (fun p e s m below meth c A ls hC hW hl => t8_findParting_0 hC _ _ _ _ _ _ _ _ h hW (lv_sub hl [0, 1, 2, 3] rfl))
abbrev rm8_bestPart : Room := { frames := 1, cells := 0, slots := 0, locals := 30 }
theorem hdV8_bestPart : yX8_bestPart.cls = RX8 ∧ (yX8_bestPart.cls ≠ "java/lang/invoke/MethodHandle" ∧ yX8_bestPart.cls ≠ "java/lang/invoke/VarHandle" ∧ (parseMethodDescriptor yX8_bestPart.desc).map (fun d => d.parameters.length) = some 2) := by decide +kernel
theorem hin8_bestPart_8 : ∀ x ∈ u_ws RX8 TX8 2, x ∈ wsX8_bestPart := fun _ h => List.mem_cons_of_mem _ (List.mem_append_right _ h)
set_option maxRecDepth 100000 in
set_option maxHeartbeats 4000000 in
theorem t8_bestPart_102 (hC : Cx p s m args meth c cX8_bestPart 8 wsX8_bestPart RX8 (some .int)) {k5 : Int32 → Int32 → Int32 → Int32 → Ob → Option (Int32)} (hk5 : ∀ (x1 : Int32) (x2 : Int32) (x3 : Int32) (x4 : Int32) (SQ : Ob) (res : Int32) (H : Heap) (locs : List Loc) (ls : Array Slot), k5 x1 x2 x3 x4 SQ = some res → GW D cy ad (w8 cy aQ SQ) A s H locs → lv_has ls 8 [(0, .ref (aQ 0)), (1, .int x1), (2, .int x2), (3, .int x3), (4, .int x4)] → W p l e rm8_bestPart s m args below meth c H locs 0 0 (MQ below (QI D cy (w8 cy aQ SQ) A res) args s 0 0 A) (F0 m 5 ls [])) : ∀ (x1 : Int32) (x2 : Int32) (x3 : Int32) (x4 : Int32) (SQ : Ob) (res : Int32) (H : Heap) (locs : List Loc) (ls : Array Slot), f8_bestPart_102 k5 x1 x2 x3 x4 SQ = some res → GW D cy ad (w8 cy aQ SQ) A s H locs → lv_has ls 8 [(0, .ref (aQ 0)), (1, .int x1), (2, .int x2), (3, .int x3), (4, .int x4)] → W p l e rm8_bestPart s m args below meth c H locs 0 0 (MQ below (QI D cy (w8 cy aQ SQ) A res) args s 0 0 A) (F0 m 102 ls []) := by
  intro x1 x2 x3 x4 SQ res H locs ls hf hW hl
  unfold f8_bestPart_102 at hf
  obtain ⟨x4_1, ex4_1⟩ : ∃ y : Int32, y = x4 + 1 := ⟨_, rfl⟩
  have hf := lt_nm hf ex4_1
  refine lv_iinc (v := x4_1) (lv' := [(4, .int x4_1), (0, .ref (aQ 0)), (1, .int x1), (2, .int x2), (3, .int x3)]) hC.1 hC.2.1 dX8_bestPart_102 hl (k := 4) rfl (by rw [ex4_1]; rfl) (by decide) rfl (fun ls hl => ?_)
  refine lv_goto (tgt := 5) hC.1 hC.2.1 dX8_bestPart_105 (by decide) ?_
  exact hk5 _ _ _ _ _ _ _ _ _ hf hW (lv_sub hl [1, 2, 3, 4, 0] rfl)
set_option maxRecDepth 100000 in
set_option maxHeartbeats 4000000 in
theorem t8_bestPart_99 (hC : Cx p s m args meth c cX8_bestPart 8 wsX8_bestPart RX8 (some .int)) {k5 : Int32 → Int32 → Int32 → Int32 → Ob → Option (Int32)} (hk5 : ∀ (x1 : Int32) (x2 : Int32) (x3 : Int32) (x4 : Int32) (SQ : Ob) (res : Int32) (H : Heap) (locs : List Loc) (ls : Array Slot), k5 x1 x2 x3 x4 SQ = some res → GW D cy ad (w8 cy aQ SQ) A s H locs → lv_has ls 8 [(0, .ref (aQ 0)), (1, .int x1), (2, .int x2), (3, .int x3), (4, .int x4)] → W p l e rm8_bestPart s m args below meth c H locs 0 0 (MQ below (QI D cy (w8 cy aQ SQ) A res) args s 0 0 A) (F0 m 5 ls [])) : ∀ (x1 : Int32) (x2 : Int32) (x4 : Int32) (x7 : Int32) (SQ : Ob) (res : Int32) (H : Heap) (locs : List Loc) (ls : Array Slot), f8_bestPart_99 k5 x1 x2 x4 x7 SQ = some res → GW D cy ad (w8 cy aQ SQ) A s H locs → lv_has ls 8 [(0, .ref (aQ 0)), (1, .int x1), (2, .int x2), (4, .int x4), (7, .int x7)] → W p l e rm8_bestPart s m args below meth c H locs 0 0 (MQ below (QI D cy (w8 cy aQ SQ) A res) args s 0 0 A) (F0 m 99 ls []) := by
  intro x1 x2 x4 x7 SQ res H locs ls hf hW hl
  unfold f8_bestPart_99 at hf
  refine lv_iload hC.1 hC.2.1 dX8_bestPart_99 (lv_at hl 4 rfl) ?_
  refine lv_istore_n (lv' := [(3, .int x7), (0, .ref (aQ 0)), (1, .int x1), (2, .int x2), (4, .int x4), (7, .int x7)]) hC.1 hC.2.1 dX8_bestPart_101 rfl hl (by decide) rfl (fun ls hl => ?_)
  exact t8_bestPart_102 hC hk5  _ _ _ _ _ _ _ _ _ hf hW (lv_sub hl [1, 2, 3, 0, 4] rfl)
set_option maxRecDepth 100000 in
set_option maxHeartbeats 4000000 in
theorem t8_bestPart_5 (hC : Cx p s m args meth c cX8_bestPart 8 wsX8_bestPart RX8 (some .int)) : ∀ n : Nat, ∀ (x1 : Int32) (x2 : Int32) (x3 : Int32) (x4 : Int32) (SQ : Ob) (res : Int32) (H : Heap) (locs : List Loc) (ls : Array Slot), f8_bestPart_5 n x1 x2 x3 x4 SQ = some res → GW D cy ad (w8 cy aQ SQ) A s H locs → lv_has ls 8 [(0, .ref (aQ 0)), (1, .int x1), (2, .int x2), (3, .int x3), (4, .int x4)] → W p l e rm8_bestPart s m args below meth c H locs 0 0 (MQ below (QI D cy (w8 cy aQ SQ) A res) args s 0 0 A) (F0 m 5 ls []) := by
  intro n
  induction n with
  | zero =>
    intro _ _ _ _ _ _ _ _ _ hf _ _
    exact nomatch (show (none : Option (Int32)) = some _ from hf)
  | succ n ih =>
    intro x1 x2 x3 x4 SQ res H locs ls hf hW hl
    rw [f8_bestPart_5] at hf
    refine lv_iload hC.1 hC.2.1 dX8_bestPart_5 (lv_at hl 4 rfl) ?_
    refine lv_iload_n hC.1 hC.2.1 dX8_bestPart_7 rfl (lv_at hl 2 rfl) ?_
    refine lv_icmp_ge (tgt := 108) hC.1 hC.2.1 dX8_bestPart_8 (by decide) (fun hc_1 => ?_) (fun hc_1 => ?_)
    · have hf := ite_t hf hc_1
      refine lv_iload_n hC.1 hC.2.1 dX8_bestPart_108 rfl (lv_at hl 3 rfl) ?_
      obtain rfl := Option.some.inj hf
      exact g_iret hC hW dX8_bestPart_109
    · have hf := ite_f hf hc_1
      refine lv_iload_n hC.1 hC.2.1 dX8_bestPart_11 rfl (lv_at hl 1 rfl) ?_
      refine lv_aload_n hC.1 hC.2.1 dX8_bestPart_12 rfl (lv_at hl 0 rfl) ?_
      refine g_get hC hW hin8_bestPart_8 0 rfl rfl 0 (by decide) 1 rfl rfl dX8_bestPart_13 ?_
      refine lv_iload hC.1 hC.2.1 dX8_bestPart_16 (lv_at hl 4 rfl) ?_
      obtain ⟨hi_2, hf⟩ := ck_of hf
      refine g_iald hC hW 1 rfl hi_2 dX8_bestPart_18 ?_
      refine lv_iand hC.1 hC.2.1 dX8_bestPart_19 ?_
      refine lv_topi (fun x5_3 ex5_3 => ?_)
      have hf := lt_nm hf ex5_3
      refine lv_istore (lv' := [(5, .int x5_3), (0, .ref (aQ 0)), (1, .int x1), (2, .int x2), (3, .int x3), (4, .int x4)]) hC.1 hC.2.1 dX8_bestPart_20 hl (by decide) rfl (fun ls hl => ?_)
      refine lv_iload_n hC.1 hC.2.1 dX8_bestPart_22 rfl (lv_at hl 2 rfl) ?_
      refine lv_aload_n hC.1 hC.2.1 dX8_bestPart_23 rfl (lv_at hl 1 rfl) ?_
      refine g_get hC hW hin8_bestPart_8 0 rfl rfl 0 (by decide) 1 rfl rfl dX8_bestPart_24 ?_
      refine lv_iload hC.1 hC.2.1 dX8_bestPart_27 (lv_at hl 5 rfl) ?_
      obtain ⟨hi_4, hf⟩ := ck_of hf
      refine g_iald hC hW 1 rfl hi_4 dX8_bestPart_29 ?_
      refine lv_iconst (v := (-1)) hC.1 hC.2.1 dX8_bestPart_30 (by decide) ?_
      refine lv_ixor hC.1 hC.2.1 dX8_bestPart_31 ?_
      refine lv_iand hC.1 hC.2.1 dX8_bestPart_32 ?_
      refine lv_topi (fun x6_5 ex6_5 => ?_)
      have hf := lt_nm hf ex6_5
      refine lv_istore (lv' := [(6, .int x6_5), (5, .int x5_3), (0, .ref (aQ 0)), (1, .int x1), (2, .int x2), (3, .int x3), (4, .int x4)]) hC.1 hC.2.1 dX8_bestPart_33 hl (by decide) rfl (fun ls hl => ?_)
      refine lv_iload hC.1 hC.2.1 dX8_bestPart_35 (lv_at hl 1 rfl) ?_
      refine lv_if_eq (tgt := 102) hC.1 hC.2.1 dX8_bestPart_37 (by decide) (fun hc_6 => ?_) (fun hc_6 => ?_)
      · have hf := ite_t hf hc_6
        exact t8_bestPart_102 hC ih  _ _ _ _ _ _ _ _ _ hf hW (lv_sub hl [2, 3, 4, 5, 6] rfl)
      · have hf := ite_f hf hc_6
        refine lv_iload hC.1 hC.2.1 dX8_bestPart_40 (lv_at hl 0 rfl) ?_
        refine lv_if_eq (tgt := 102) hC.1 hC.2.1 dX8_bestPart_42 (by decide) (fun hc_7 => ?_) (fun hc_7 => ?_)
        · have hf := ite_t hf hc_7
          exact t8_bestPart_102 hC ih  _ _ _ _ _ _ _ _ _ hf hW (lv_sub hl [2, 3, 4, 5, 6] rfl)
        · have hf := ite_f hf hc_7
          refine lv_aload_n hC.1 hC.2.1 dX8_bestPart_45 rfl (lv_at hl 2 rfl) ?_
          refine g_get hC hW hin8_bestPart_8 0 rfl rfl 1 (by decide) 2 rfl rfl dX8_bestPart_46 ?_
          refine lv_iload hC.1 hC.2.1 dX8_bestPart_49 (lv_at hl 1 rfl) ?_
          obtain ⟨hi_8, hf⟩ := ck_of hf
          refine g_iald hC hW 2 rfl hi_8 dX8_bestPart_51 ?_
          refine lv_iconst (v := (-1)) hC.1 hC.2.1 dX8_bestPart_52 (by decide) ?_
          refine lv_icmp_eq (tgt := 102) hC.1 hC.2.1 dX8_bestPart_53 (by decide) (fun hc_9 => ?_) (fun hc_9 => ?_)
          · have hf := ite_t hf hc_9
            exact t8_bestPart_102 hC ih  _ _ _ _ _ _ _ _ _ hf hW (lv_sub hl [2, 3, 4, 5, 6] rfl)
          · have hf := ite_f hf hc_9
            refine lv_aload_n hC.1 hC.2.1 dX8_bestPart_56 rfl (lv_at hl 2 rfl) ?_
            refine g_get hC hW hin8_bestPart_8 0 rfl rfl 1 (by decide) 2 rfl rfl dX8_bestPart_57 ?_
            refine lv_iload hC.1 hC.2.1 dX8_bestPart_60 (lv_at hl 0 rfl) ?_
            obtain ⟨hi_10, hf⟩ := ck_of hf
            refine g_iald hC hW 2 rfl hi_10 dX8_bestPart_62 ?_
            refine lv_iconst (v := (-1)) hC.1 hC.2.1 dX8_bestPart_63 (by decide) ?_
            refine lv_icmp_eq (tgt := 102) hC.1 hC.2.1 dX8_bestPart_64 (by decide) (fun hc_11 => ?_) (fun hc_11 => ?_)
            · have hf := ite_t hf hc_11
              exact t8_bestPart_102 hC ih  _ _ _ _ _ _ _ _ _ hf hW (lv_sub hl [2, 3, 4, 5, 6] rfl)
            · have hf := ite_f hf hc_11
              refine lv_iconst (v := 1) hC.1 hC.2.1 dX8_bestPart_67 (by decide) ?_
              refine lv_aload_n hC.1 hC.2.1 dX8_bestPart_68 rfl (lv_at hl 2 rfl) ?_
              refine g_get hC hW hin8_bestPart_8 0 rfl rfl 1 (by decide) 2 rfl rfl dX8_bestPart_69 ?_
              refine lv_iload hC.1 hC.2.1 dX8_bestPart_72 (lv_at hl 1 rfl) ?_
              obtain ⟨hi_12, hf⟩ := ck_of hf
              refine g_iald hC hW 2 rfl hi_12 dX8_bestPart_74 ?_
              refine lv_aload_n hC.1 hC.2.1 dX8_bestPart_75 rfl (lv_at hl 2 rfl) ?_
              refine g_get hC hW hin8_bestPart_8 0 rfl rfl 1 (by decide) 2 rfl rfl dX8_bestPart_76 ?_
              refine lv_iload hC.1 hC.2.1 dX8_bestPart_79 (lv_at hl 0 rfl) ?_
              obtain ⟨hi_13, hf⟩ := ck_of hf
              refine g_iald hC hW 2 rfl hi_13 dX8_bestPart_81 ?_
              refine va_mmax hC.1 hC.2.1 (by rw [hC.2.2.1]; exact hl.1.symm) hC.2.2.2.1 (hC.2.2.2.2.1 _ (List.mem_of_getElem? (i := 3) rfl)) (hC.2.2.2.2.1 _ (List.mem_of_getElem? (i := 4) rfl)) (hC.2.2.2.2.1 _ (List.mem_of_getElem? (i := 5) rfl)) (hC.2.2.2.2.1 _ (List.mem_of_getElem? (i := 6) rfl)) (Nat.le_of_ble_eq_true rfl) (Nat.le_of_ble_eq_true rfl) (Nat.zero_le _) (Nat.zero_le _) dX8_bestPart_82 ?_
              refine lv_iadd hC.1 hC.2.1 dX8_bestPart_85 ?_
              refine lv_topi (fun x7_14 ex7_14 => ?_)
              have hf := lt_nm hf ex7_14
              refine lv_istore (lv' := [(7, .int x7_14), (6, .int x6_5), (5, .int x5_3), (0, .ref (aQ 0)), (1, .int x1), (2, .int x2), (3, .int x3), (4, .int x4)]) hC.1 hC.2.1 dX8_bestPart_86 hl (by decide) rfl (fun ls hl => ?_)
              refine lv_iload_n hC.1 hC.2.1 dX8_bestPart_88 rfl (lv_at hl 6 rfl) ?_
              refine lv_iconst (v := (-1)) hC.1 hC.2.1 dX8_bestPart_89 (by decide) ?_
              refine lv_icmp_eq (tgt := 99) hC.1 hC.2.1 dX8_bestPart_90 (by decide) (fun hc_15 => ?_) (fun hc_15 => ?_)
              · have hf := ite_t hf hc_15
                exact t8_bestPart_99 hC ih  _ _ _ _ _ _ _ _ _ hf hW (lv_sub hl [3, 4, 5, 7, 0] rfl)
              · have hf := ite_f hf hc_15
                refine lv_iload hC.1 hC.2.1 dX8_bestPart_93 (lv_at hl 0 rfl) ?_
                refine lv_iload_n hC.1 hC.2.1 dX8_bestPart_95 rfl (lv_at hl 6 rfl) ?_
                refine lv_icmp_ge (tgt := 102) hC.1 hC.2.1 dX8_bestPart_96 (by decide) (fun hc_16 => ?_) (fun hc_16 => ?_)
                · have hf := ite_t hf hc_16
                  exact t8_bestPart_102 hC ih  _ _ _ _ _ _ _ _ _ hf hW (lv_sub hl [3, 4, 5, 6, 7] rfl)
                · have hf := ite_f hf hc_16
                  exact t8_bestPart_99 hC ih  _ _ _ _ _ _ _ _ _ hf hW (lv_sub hl [3, 4, 5, 7, 0] rfl)
set_option maxRecDepth 100000 in
set_option maxHeartbeats 4000000 in
theorem t8_bestPart_0 (hC : Cx p s m args meth c cX8_bestPart 8 wsX8_bestPart RX8 (some .int)) : ∀ (x1 : Int32) (x2 : Int32) (SQ : Ob) (res : Int32) (H : Heap) (locs : List Loc) (ls : Array Slot), f8_bestPart x1 x2 SQ = some res → GW D cy ad (w8 cy aQ SQ) A s H locs → lv_has ls 8 [(0, .ref (aQ 0)), (1, .int x1), (2, .int x2)] → W p l e rm8_bestPart s m args below meth c H locs 0 0 (MQ below (QI D cy (w8 cy aQ SQ) A res) args s 0 0 A) (F0 m 0 ls []) := by
  intro x1 x2 SQ res H locs ls hf hW hl
  unfold f8_bestPart at hf
  refine lv_iconst (v := (-1)) hC.1 hC.2.1 dX8_bestPart_0 (by decide) ?_
  refine lv_istore_n (lv' := [(3, .int (-1)), (0, .ref (aQ 0)), (1, .int x1), (2, .int x2)]) hC.1 hC.2.1 dX8_bestPart_1 rfl hl (by decide) rfl (fun ls hl => ?_)
  refine lv_iconst (v := 0) hC.1 hC.2.1 dX8_bestPart_2 (by decide) ?_
  refine lv_istore (lv' := [(4, .int 0), (3, .int (-1)), (0, .ref (aQ 0)), (1, .int x1), (2, .int x2)]) hC.1 hC.2.1 dX8_bestPart_3 hl (by decide) rfl (fun ls hl => ?_)
  exact t8_bestPart_5 hC _ _ _ _ _ _ _ _ _ _ hf hW (lv_sub hl [2, 3, 4, 1, 0] rfl)
set_option maxRecDepth 100000 in
set_option maxHeartbeats 4000000 in
theorem c8_bestPart (l : Launch) (D : va_G) (cy : Nat → ClassId) (ad : Nat → Nat) (aQ : Nat → Nat) {x1 : Int32} {x2 : Int32} {SQ : Ob} {res : Int32} (h : f8_bestPart x1 x2 SQ = some res) : GCi l yX8_bestPart wsX8_bestPart rm8_bestPart [.ref (aQ 0), .int x1, .int x2] D cy ad (w8 cy aQ SQ) (w8 cy aQ SQ) res := fun sz => GC.start (own := RX8) (Qc := fun A => QI D cy (w8 cy aQ SQ) A res) sz (by decide) rfl rfl (Nat.le_of_ble_eq_true rfl) (fun p e s m below meth c A ls hC hW hl => t8_bestPart_0 hC _ _ _ _ _ _ _ h hW (lv_sub hl [0, 1, 2] rfl))
abbrev rm8_deepest : Room := { frames := 3, cells := 0, slots := 0, locals := 72 }
theorem hdV8_deepest : yX8_deepest.cls = RX8 ∧ (yX8_deepest.cls ≠ "java/lang/invoke/MethodHandle" ∧ yX8_deepest.cls ≠ "java/lang/invoke/VarHandle" ∧ (parseMethodDescriptor yX8_deepest.desc).map (fun d => d.parameters.length) = some 2) := by decide +kernel
theorem hin8_deepest_8 : ∀ x ∈ u_ws RX8 TX8 2, x ∈ wsX8_deepest := fun _ h => List.mem_cons_of_mem _ (List.mem_append_left _ (List.mem_append_right _ h))
set_option maxRecDepth 100000 in
set_option maxHeartbeats 4000000 in
theorem t8_deepest_75 (hC : Cx p s m args meth c cX8_deepest 6 wsX8_deepest RX8 (some .int)) {k24 : Int32 → Int32 → Int32 → Ob → Ob → Option (Int32 × Ob)} (hk24 : ∀ (x3 : Int32) (x4 : Int32) (x5 : Int32) (SQ : Ob) (SI : Ob) (res : Int32 × Ob) (H : Heap) (locs : List Loc) (ls : Array Slot), k24 x3 x4 x5 SQ SI = some res → GW D cy ad (w8 cy aQ SQ ++ (w4 cy aI SI)) A s H locs → lv_has ls 6 [(0, .ref (aQ 0)), (3, .int x3), (4, .int x4), (5, .int x5)] → W p l e rm8_deepest s m args below meth c H locs 0 0 (MQ below (QI D cy (w8 cy aQ (res.2) ++ (w4 cy aI SI)) A (res.1)) args s 0 0 A) (F0 m 24 ls [])) : ∀ (x3 : Int32) (x4 : Int32) (x5 : Int32) (SQ : Ob) (SI : Ob) (res : Int32 × Ob) (H : Heap) (locs : List Loc) (ls : Array Slot), f8_deepest_75 k24 x3 x4 x5 SQ SI = some res → GW D cy ad (w8 cy aQ SQ ++ (w4 cy aI SI)) A s H locs → lv_has ls 6 [(0, .ref (aQ 0)), (3, .int x3), (4, .int x4), (5, .int x5)] → W p l e rm8_deepest s m args below meth c H locs 0 0 (MQ below (QI D cy (w8 cy aQ (res.2) ++ (w4 cy aI SI)) A (res.1)) args s 0 0 A) (F0 m 75 ls []) := by
  intro x3 x4 x5 SQ SI res H locs ls hf hW hl
  unfold f8_deepest_75 at hf
  obtain ⟨x5_1, ex5_1⟩ : ∃ y : Int32, y = x5 + 1 := ⟨_, rfl⟩
  have hf := lt_nm hf ex5_1
  refine lv_iinc (v := x5_1) (lv' := [(5, .int x5_1), (0, .ref (aQ 0)), (3, .int x3), (4, .int x4)]) hC.1 hC.2.1 dX8_deepest_75 hl (k := 3) rfl (by rw [ex5_1]; rfl) (by decide) rfl (fun ls hl => ?_)
  refine lv_goto (tgt := 24) hC.1 hC.2.1 dX8_deepest_78 (by decide) ?_
  exact hk24 _ _ _ _ _ _ _ _ _ hf hW (lv_sub hl [1, 2, 3, 0] rfl)
set_option maxRecDepth 100000 in
set_option maxHeartbeats 4000000 in
theorem t8_deepest_74 (hC : Cx p s m args meth c cX8_deepest 6 wsX8_deepest RX8 (some .int)) {k24 : Int32 → Int32 → Int32 → Ob → Ob → Option (Int32 × Ob)} (hk24 : ∀ (x3 : Int32) (x4 : Int32) (x5 : Int32) (SQ : Ob) (SI : Ob) (res : Int32 × Ob) (H : Heap) (locs : List Loc) (ls : Array Slot), k24 x3 x4 x5 SQ SI = some res → GW D cy ad (w8 cy aQ SQ ++ (w4 cy aI SI)) A s H locs → lv_has ls 6 [(0, .ref (aQ 0)), (3, .int x3), (4, .int x4), (5, .int x5)] → W p l e rm8_deepest s m args below meth c H locs 0 0 (MQ below (QI D cy (w8 cy aQ (res.2) ++ (w4 cy aI SI)) A (res.1)) args s 0 0 A) (F0 m 24 ls [])) : ∀ (x3 : Int32) (x4 : Int32) (x5 : Int32) (z1 : Int32) (z2 : Int32) (SQ : Ob) (SI : Ob) (res : Int32 × Ob) (H : Heap) (locs : List Loc) (ls : Array Slot), f8_deepest_74 k24 x3 x4 x5 z1 z2 SQ SI = some res → GW D cy ad (w8 cy aQ SQ ++ (w4 cy aI SI)) A s H locs → lv_has ls 6 [(0, .ref (aQ 0)), (3, .int x3), (4, .int x4), (5, .int x5)] → W p l e rm8_deepest s m args below meth c H locs 0 0 (MQ below (QI D cy (w8 cy aQ (res.2) ++ (w4 cy aI SI)) A (res.1)) args s 0 0 A) (F0 m 74 ls [.int z2, .int z1, .ref (aQ 2)]) := by
  intro x3 x4 x5 z1 z2 SQ SI res H locs ls hf hW hl
  unfold f8_deepest_74 at hf
  obtain ⟨hi_1, hf⟩ := ck_of hf
  obtain ⟨SQ_2, eSQ_2⟩ : ∃ y : Ob, y = oA SQ 1 (Int32.toNatClampNeg z1) z2 := ⟨_, rfl⟩
  have hf := lt_nm hf eSQ_2
  refine g_iast hC hW 2 rfl hi_1 (w' := w8 cy aQ SQ_2 ++ (w4 cy aI SI)) (by rw [eSQ_2]; rfl) dX8_deepest_74 (fun H locs hW => ?_)
  exact t8_deepest_75 hC hk24  _ _ _ _ _ _ _ _ _ hf hW (lv_sub hl [0, 1, 2, 3] rfl)
set_option maxRecDepth 100000 in
set_option maxHeartbeats 4000000 in
theorem t8_deepest_81 (hC : Cx p s m args meth c cX8_deepest 6 wsX8_deepest RX8 (some .int)) : ∀ (x3 : Int32) (SQ : Ob) (SI : Ob) (res : Int32 × Ob) (H : Heap) (locs : List Loc) (ls : Array Slot), f8_deepest_81 x3 SQ SI = some res → GW D cy ad (w8 cy aQ SQ ++ (w4 cy aI SI)) A s H locs → lv_has ls 6 [(0, .ref (aQ 0)), (3, .int x3)] → W p l e rm8_deepest s m args below meth c H locs 0 0 (MQ below (QI D cy (w8 cy aQ (res.2) ++ (w4 cy aI SI)) A (res.1)) args s 0 0 A) (F0 m 81 ls []) := by
  intro x3 SQ SI res H locs ls hf hW hl
  unfold f8_deepest_81 at hf
  refine lv_aload_n hC.1 hC.2.1 dX8_deepest_81 rfl (lv_at hl 0 rfl) ?_
  refine g_get hC hW hin8_deepest_8 0 rfl rfl 1 (by decide) 1 rfl rfl dX8_deepest_82 ?_
  refine lv_iload_n hC.1 hC.2.1 dX8_deepest_85 rfl (lv_at hl 1 rfl) ?_
  obtain ⟨hi_1, hf⟩ := ck_of hf
  refine g_iald hC hW 2 rfl hi_1 dX8_deepest_86 ?_
  obtain rfl := Option.some.inj hf
  exact g_iret hC hW dX8_deepest_87
set_option maxRecDepth 100000 in
set_option maxHeartbeats 4000000 in
theorem t8_deepest_24 (hC : Cx p s m args meth c cX8_deepest 6 wsX8_deepest RX8 (some .int)) : ∀ n : Nat, ∀ (x3 : Int32) (x4 : Int32) (x5 : Int32) (SQ : Ob) (SI : Ob) (res : Int32 × Ob) (H : Heap) (locs : List Loc) (ls : Array Slot), f8_deepest_24 n x3 x4 x5 SQ SI = some res → GW D cy ad (w8 cy aQ SQ ++ (w4 cy aI SI)) A s H locs → lv_has ls 6 [(0, .ref (aQ 0)), (3, .int x3), (4, .int x4), (5, .int x5)] → W p l e rm8_deepest s m args below meth c H locs 0 0 (MQ below (QI D cy (w8 cy aQ (res.2) ++ (w4 cy aI SI)) A (res.1)) args s 0 0 A) (F0 m 24 ls []) := by
  intro n
  induction n with
  | zero =>
    intro _ _ _ _ _ _ _ _ _ hf _ _
    exact nomatch (show (none : Option (Int32 × Ob)) = some _ from hf)
  | succ n ih =>
    intro x3 x4 x5 SQ SI res H locs ls hf hW hl
    rw [f8_deepest_24] at hf
    refine lv_iload hC.1 hC.2.1 dX8_deepest_24 (lv_at hl 3 rfl) ?_
    refine lv_iload_n hC.1 hC.2.1 dX8_deepest_26 rfl (lv_at hl 1 rfl) ?_
    refine lv_icmp_gt (tgt := 81) hC.1 hC.2.1 dX8_deepest_27 (by decide) (fun hc_1 => ?_) (fun hc_1 => ?_)
    · have hf := ite_t hf hc_1
      exact t8_deepest_81 hC  _ _ _ _ _ _ _ hf hW (lv_sub hl [0, 1] rfl)
    · have hf := ite_f hf hc_1
      refine lv_iload hC.1 hC.2.1 dX8_deepest_30 (lv_at hl 3 rfl) ?_
      refine lv_sipush (v := 256) hC.1 hC.2.1 dX8_deepest_32 (by decide) ?_
      refine lv_icmp_ge (tgt := 81) hC.1 hC.2.1 dX8_deepest_35 (by decide) (fun hc_2 => ?_) (fun hc_2 => ?_)
      · have hf := ite_t hf hc_2
        exact t8_deepest_81 hC  _ _ _ _ _ _ _ hf hW (lv_sub hl [0, 1] rfl)
      · have hf := ite_f hf hc_2
        refine lv_iload hC.1 hC.2.1 dX8_deepest_38 (lv_at hl 3 rfl) ?_
        refine lv_iload_n hC.1 hC.2.1 dX8_deepest_40 rfl (lv_at hl 1 rfl) ?_
        refine lv_iconst (v := (-1)) hC.1 hC.2.1 dX8_deepest_41 (by decide) ?_
        refine lv_ixor hC.1 hC.2.1 dX8_deepest_42 ?_
        refine lv_iand hC.1 hC.2.1 dX8_deepest_43 ?_
        refine lv_if_ne (tgt := 75) hC.1 hC.2.1 dX8_deepest_44 (by decide) (fun hc_3 => ?_) (fun hc_3 => ?_)
        · have hf := ite_f hf hc_3
          exact t8_deepest_75 hC ih  _ _ _ _ _ _ _ _ _ hf hW (lv_sub hl [0, 1, 2, 3] rfl)
        · have hf := ite_t hf hc_3
          refine lv_aload_n hC.1 hC.2.1 dX8_deepest_47 rfl (lv_at hl 0 rfl) ?_
          refine g_get hC hW hin8_deepest_8 0 rfl rfl 1 (by decide) 1 rfl rfl dX8_deepest_48 ?_
          refine lv_iload hC.1 hC.2.1 dX8_deepest_51 (lv_at hl 3 rfl) ?_
          refine lv_iload hC.1 hC.2.1 dX8_deepest_53 (lv_at hl 3 rfl) ?_
          obtain ⟨r_4, hg_5, hf⟩ := bd_of hf
          refine g_calliS (w' := w8 cy aQ SQ ++ (w4 cy aI SI)) hC hW (cj6_bitCount l D cy ad  hg_5) (va_cwS 1 hC.2.2.2.2.1 gX8_deepest_J6_bitCount_0f7a4 rfl rfl rfl hdSj6_bitCount ⟨Nat.le_of_ble_eq_true rfl, Nat.le_of_ble_eq_true rfl⟩) (Sub.nil _) rfl hl.1 rfl (Nat.le_of_ble_eq_true rfl) dX8_deepest_55 ⟨Nat.zero_le _, Nat.zero_le _⟩ (fun H locs hW => ?_)
          refine lv_iconst (v := 1) hC.1 hC.2.1 dX8_deepest_58 (by decide) ?_
          refine lv_icmp_ne (tgt := 66) hC.1 hC.2.1 dX8_deepest_59 (by decide) (fun hc_6 => ?_) (fun hc_6 => ?_)
          · have hf := ite_f hf hc_6
            refine lv_aload_n hC.1 hC.2.1 dX8_deepest_66 rfl (lv_at hl 0 rfl) ?_
            refine lv_iload hC.1 hC.2.1 dX8_deepest_67 (lv_at hl 3 rfl) ?_
            refine lv_iload hC.1 hC.2.1 dX8_deepest_69 (lv_at hl 2 rfl) ?_
            obtain ⟨r_7, hg_8, hf⟩ := bd_of hf
            refine g_calliV (w' := w8 cy aQ SQ ++ (w4 cy aI SI)) hC hW (c8_bestPart l D cy ad aQ hg_8) (cwV 2 hC.2.2.2.2.1 gX8_deepest_X8_bestPart rfl rfl rfl hdV8_bestPart ⟨Nat.le_of_ble_eq_true rfl, Nat.le_of_ble_eq_true rfl⟩) (⟨[0, 1, 2], [3, 4, 5, 6, 7, 8, 9, 10, 11, 12, 13, 14], [12, 13, 14, 0, 1, 2, 3, 4, 5, 6, 7, 8, 9, 10, 11], w4 cy aI SI, rfl, rfl, rfl, rfl, by decide, rfl, rfl⟩) 0 7 rfl rfl rfl rfl hl.1 rfl (Nat.le_of_ble_eq_true rfl) dX8_deepest_71 ⟨Nat.zero_le _, Nat.zero_le _⟩ (fun H locs hW => ?_)
            exact t8_deepest_74 hC ih  _ _ _ _ _ _ _ _ _ _ _ hf hW (lv_sub hl [0, 1, 2, 3] rfl)
          · have hf := ite_t hf hc_6
            refine lv_iconst (v := 0) hC.1 hC.2.1 dX8_deepest_62 (by decide) ?_
            refine lv_goto (tgt := 74) hC.1 hC.2.1 dX8_deepest_63 (by decide) ?_
            exact t8_deepest_74 hC ih  _ _ _ _ _ _ _ _ _ _ _ hf hW (lv_sub hl [0, 1, 2, 3] rfl)
set_option maxRecDepth 100000 in
set_option maxHeartbeats 4000000 in
theorem t8_deepest_0 (hC : Cx p s m args meth c cX8_deepest 6 wsX8_deepest RX8 (some .int)) : ∀ (x2 : Int32) (SQ : Ob) (SI : Ob) (res : Int32 × Ob) (H : Heap) (locs : List Loc) (ls : Array Slot), f8_deepest x2 SQ SI = some res → GW D cy ad (w8 cy aQ SQ ++ (w4 cy aI SI)) A s H locs → lv_has ls 6 [(0, .ref (aQ 0)), (1, .ref (aI 0)), (2, .int x2)] → W p l e rm8_deepest s m args below meth c H locs 0 0 (MQ below (QI D cy (w8 cy aQ (res.2) ++ (w4 cy aI SI)) A (res.1)) args s 0 0 A) (F0 m 0 ls []) := by
  intro x2 SQ SI res H locs ls hf hW hl
  unfold f8_deepest at hf
  refine lv_aload_n hC.1 hC.2.1 dX8_deepest_0 rfl (lv_at hl 1 rfl) ?_
  refine lv_iload_n hC.1 hC.2.1 dX8_deepest_1 rfl (lv_at hl 2 rfl) ?_
  obtain ⟨r_1, hg_2, hf⟩ := bd_of hf
  refine g_calliV (w' := w8 cy aQ SQ ++ (w4 cy aI SI)) hC hW (c4_guestsIn l D cy ad aI hg_2) (cwV 1 hC.2.2.2.2.1 gX8_deepest_X4_guestsIn rfl rfl rfl hdV4_guestsIn ⟨Nat.le_of_ble_eq_true rfl, Nat.le_of_ble_eq_true rfl⟩) (⟨[3, 4, 5, 6, 7, 8, 9, 10, 11, 12, 13, 14], [0, 1, 2], [0, 1, 2, 3, 4, 5, 6, 7, 8, 9, 10, 11, 12, 13, 14], w8 cy aQ SQ, rfl, rfl, rfl, rfl, by decide, rfl, rfl⟩) 0 4 rfl rfl rfl rfl hl.1 rfl (Nat.le_of_ble_eq_true rfl) dX8_deepest_2 ⟨Nat.zero_le _, Nat.zero_le _⟩ (fun H locs hW => ?_)
  refine lv_istore_n (lv' := [(3, .int r_1), (0, .ref (aQ 0)), (1, .ref (aI 0)), (2, .int x2)]) hC.1 hC.2.1 dX8_deepest_5 rfl hl (by decide) rfl (fun ls hl => ?_)
  refine lv_iload_n hC.1 hC.2.1 dX8_deepest_6 rfl (lv_at hl 0 rfl) ?_
  refine lv_if_ne (tgt := 12) hC.1 hC.2.1 dX8_deepest_7 (by decide) (fun hc_3 => ?_) (fun hc_3 => ?_)
  · have hf := ite_f hf hc_3
    refine lv_aload_n hC.1 hC.2.1 dX8_deepest_12 rfl (lv_at hl 1 rfl) ?_
    refine lv_aload_n hC.1 hC.2.1 dX8_deepest_13 rfl (lv_at hl 2 rfl) ?_
    refine lv_iload_n hC.1 hC.2.1 dX8_deepest_14 rfl (lv_at hl 3 rfl) ?_
    refine lv_iload_n hC.1 hC.2.1 dX8_deepest_15 rfl (lv_at hl 0 rfl) ?_
    obtain ⟨r_4, hg_5, hf⟩ := bd_of hf
    refine g_calliV (w' := w8 cy aQ (r_4.2) ++ (w4 cy aI SI)) hC hW (c8_findParting l D cy ad aQ aI hg_5) (cwV 3 hC.2.2.2.2.1 gX8_deepest_X8_findParting rfl rfl rfl hdV8_findParting ⟨Nat.le_of_ble_eq_true rfl, Nat.le_of_ble_eq_true rfl⟩) (Sub.all _ _) 0 7 rfl rfl rfl rfl hl.1 rfl (Nat.le_of_ble_eq_true rfl) dX8_deepest_16 ⟨Nat.zero_le _, Nat.zero_le _⟩ (fun H locs hW => ?_)
    refine lv_topi (fun x4_6 ex4_6 => ?_)
    have hf := lt_nm hf ex4_6
    refine lv_istore (lv' := [(4, .int x4_6), (3, .int r_1), (0, .ref (aQ 0)), (1, .ref (aI 0)), (2, .int x2)]) hC.1 hC.2.1 dX8_deepest_19 hl (by decide) rfl (fun ls hl => ?_)
    refine lv_iconst (v := 1) hC.1 hC.2.1 dX8_deepest_21 (by decide) ?_
    refine lv_istore (lv' := [(5, .int 1), (4, .int x4_6), (3, .int r_1), (0, .ref (aQ 0)), (1, .ref (aI 0)), (2, .int x2)]) hC.1 hC.2.1 dX8_deepest_22 hl (by decide) rfl (fun ls hl => ?_)
    exact t8_deepest_24 hC _ _ _ _ _ _ _ _ _ _ hf hW (lv_sub hl [3, 2, 1, 0] rfl)
  · have hf := ite_t hf hc_3
    refine lv_iconst (v := (-1)) hC.1 hC.2.1 dX8_deepest_10 (by decide) ?_
    obtain rfl := Option.some.inj hf
    exact g_iret hC hW dX8_deepest_11
set_option maxRecDepth 100000 in
set_option maxHeartbeats 4000000 in
theorem c8_deepest (l : Launch) (D : va_G) (cy : Nat → ClassId) (ad : Nat → Nat) (aQ : Nat → Nat) (aI : Nat → Nat) {x2 : Int32} {SQ : Ob} {SI : Ob} {res : Int32 × Ob} (h : f8_deepest x2 SQ SI = some res) : GCi l yX8_deepest wsX8_deepest rm8_deepest [.ref (aQ 0), .ref (aI 0), .int x2] D cy ad (w8 cy aQ SQ ++ (w4 cy aI SI)) (w8 cy aQ (res.2) ++ (w4 cy aI SI)) (res.1) := fun sz => GC.start (own := RX8) (Qc := fun A => QI D cy (w8 cy aQ (res.2) ++ (w4 cy aI SI)) A (res.1)) sz (by decide) rfl rfl (Nat.le_of_ble_eq_true rfl) (fun p e s m below meth c A ls hC hW hl => t8_deepest_0 hC _ _ _ _ _ _ _ h hW (lv_sub hl [0, 1, 2] rfl))
end
