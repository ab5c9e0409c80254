/-! laid by program: functions, walks and contracts of 1_weight, 1_together, 1_mostLikely, 1_share, 1_wrongly, 1_weighRooms, 1_heaviest, 1_search -/
theorem dX1_weight_0 : decode cX1_weight 0 = .ok (.aload_n 0, 1) := by decide +kernel
theorem dX1_weight_1 : decode cX1_weight 1 = .ok (.getfield 18, 3) := by decide +kernel
theorem dX1_weight_4 : decode cX1_weight 4 = .ok (.iload_n 2, 1) := by decide +kernel
theorem dX1_weight_5 : decode cX1_weight 5 = .ok (.iconst 4, 1) := by decide +kernel
theorem dX1_weight_6 : decode cX1_weight 6 = .ok (.idiv, 1) := by decide +kernel
theorem dX1_weight_7 : decode cX1_weight 7 = .ok (.iaload, 1) := by decide +kernel
theorem dX1_weight_8 : decode cX1_weight 8 = .ok (.i2l, 1) := by decide +kernel
theorem dX1_weight_9 : decode cX1_weight 9 = .ok (.lstore_n 3, 1) := by decide +kernel
theorem dX1_weight_10 : decode cX1_weight 10 = .ok (.iconst 0, 1) := by decide +kernel
theorem dX1_weight_11 : decode cX1_weight 11 = .ok (.istore 5, 2) := by decide +kernel
theorem dX1_weight_13 : decode cX1_weight 13 = .ok (.iload 5, 2) := by decide +kernel
theorem dX1_weight_15 : decode cX1_weight 15 = .ok (.aload_n 1, 1) := by decide +kernel
theorem dX1_weight_16 : decode cX1_weight 16 = .ok (.getfield 23, 3) := by decide +kernel
theorem dX1_weight_19 : decode cX1_weight 19 = .ok (.if_icmp .ge 85, 3) := by decide +kernel
theorem dX1_weight_22 : decode cX1_weight 22 = .ok (.aload_n 1, 1) := by decide +kernel
theorem dX1_weight_23 : decode cX1_weight 23 = .ok (.getfield 29, 3) := by decide +kernel
theorem dX1_weight_26 : decode cX1_weight 26 = .ok (.iload 5, 2) := by decide +kernel
theorem dX1_weight_28 : decode cX1_weight 28 = .ok (.iaload, 1) := by decide +kernel
theorem dX1_weight_29 : decode cX1_weight 29 = .ok (.istore 6, 2) := by decide +kernel
theorem dX1_weight_31 : decode cX1_weight 31 = .ok (.aload_n 0, 1) := by decide +kernel
theorem dX1_weight_32 : decode cX1_weight 32 = .ok (.getfield 32, 3) := by decide +kernel
theorem dX1_weight_35 : decode cX1_weight 35 = .ok (.iload_n 2, 1) := by decide +kernel
theorem dX1_weight_36 : decode cX1_weight 36 = .ok (.iaload, 1) := by decide +kernel
theorem dX1_weight_37 : decode cX1_weight 37 = .ok (.iload 6, 2) := by decide +kernel
theorem dX1_weight_39 : decode cX1_weight 39 = .ok (.iushr, 1) := by decide +kernel
theorem dX1_weight_40 : decode cX1_weight 40 = .ok (.iconst 1, 1) := by decide +kernel
theorem dX1_weight_41 : decode cX1_weight 41 = .ok (.iand, 1) := by decide +kernel
theorem dX1_weight_42 : decode cX1_weight 42 = .ok (.iconst 1, 1) := by decide +kernel
theorem dX1_weight_43 : decode cX1_weight 43 = .ok (.if_icmp .ne 7, 3) := by decide +kernel
theorem dX1_weight_46 : decode cX1_weight 46 = .ok (.iconst 1, 1) := by decide +kernel
theorem dX1_weight_47 : decode cX1_weight 47 = .ok (.goto 4, 3) := by decide +kernel
theorem dX1_weight_50 : decode cX1_weight 50 = .ok (.iconst 0, 1) := by decide +kernel
theorem dX1_weight_51 : decode cX1_weight 51 = .ok (.aload_n 1, 1) := by decide +kernel
theorem dX1_weight_52 : decode cX1_weight 52 = .ok (.getfield 35, 3) := by decide +kernel
theorem dX1_weight_55 : decode cX1_weight 55 = .ok (.iload 5, 2) := by decide +kernel
theorem dX1_weight_57 : decode cX1_weight 57 = .ok (.baload, 1) := by decide +kernel
theorem dX1_weight_58 : decode cX1_weight 58 = .ok (.if_icmp .ne 7, 3) := by decide +kernel
theorem dX1_weight_61 : decode cX1_weight 61 = .ok (.iconst 1, 1) := by decide +kernel
theorem dX1_weight_62 : decode cX1_weight 62 = .ok (.goto 4, 3) := by decide +kernel
theorem dX1_weight_65 : decode cX1_weight 65 = .ok (.iconst 0, 1) := by decide +kernel
theorem dX1_weight_66 : decode cX1_weight 66 = .ok (.istore 7, 2) := by decide +kernel
theorem dX1_weight_68 : decode cX1_weight 68 = .ok (.lload_n 3, 1) := by decide +kernel
theorem dX1_weight_69 : decode cX1_weight 69 = .ok (.iload 7, 2) := by decide +kernel
theorem dX1_weight_71 : decode cX1_weight 71 = .ok (.ifCond .eq 17, 3) := by decide +kernel
theorem dX1_weight_74 : decode cX1_weight 74 = .ok (.bipush 10, 2) := by decide +kernel
theorem dX1_weight_76 : decode cX1_weight 76 = .ok (.aload_n 0, 1) := by decide +kernel
theorem dX1_weight_77 : decode cX1_weight 77 = .ok (.getfield 39, 3) := by decide +kernel
theorem dX1_weight_80 : decode cX1_weight 80 = .ok (.iload 6, 2) := by decide +kernel
theorem dX1_weight_82 : decode cX1_weight 82 = .ok (.iaload, 1) := by decide +kernel
theorem dX1_weight_83 : decode cX1_weight 83 = .ok (.isub, 1) := by decide +kernel
theorem dX1_weight_84 : decode cX1_weight 84 = .ok (.i2l, 1) := by decide +kernel
theorem dX1_weight_85 : decode cX1_weight 85 = .ok (.goto 11, 3) := by decide +kernel
theorem dX1_weight_88 : decode cX1_weight 88 = .ok (.aload_n 0, 1) := by decide +kernel
theorem dX1_weight_89 : decode cX1_weight 89 = .ok (.getfield 39, 3) := by decide +kernel
theorem dX1_weight_92 : decode cX1_weight 92 = .ok (.iload 6, 2) := by decide +kernel
theorem dX1_weight_94 : decode cX1_weight 94 = .ok (.iaload, 1) := by decide +kernel
theorem dX1_weight_95 : decode cX1_weight 95 = .ok (.i2l, 1) := by decide +kernel
theorem dX1_weight_96 : decode cX1_weight 96 = .ok (.lmul, 1) := by decide +kernel
theorem dX1_weight_97 : decode cX1_weight 97 = .ok (.lstore_n 3, 1) := by decide +kernel
theorem dX1_weight_98 : decode cX1_weight 98 = .ok (.iinc 5 1, 3) := by decide +kernel
theorem dX1_weight_101 : decode cX1_weight 101 = .ok (.goto (-88), 3) := by decide +kernel
theorem dX1_weight_104 : decode cX1_weight 104 = .ok (.lload_n 3, 1) := by decide +kernel
theorem dX1_weight_105 : decode cX1_weight 105 = .ok (.lreturn, 1) := by decide +kernel
set_option maxRecDepth 20000 in
theorem gX1_together_X1_weight : GoodIn wsX1_together (va_wsS RX1 48 yX1_weight wsX1_weight) := goodIn_r _ [3, 4, 5, 6, 7, 8, 9, 10, 11, 12, 13, 14, 15, 16, 17, 18, 19, 20, 21, 22, 23, 24, 25, 26, 27, 28, 29, 30, 31, 32, 33, 34] rfl (by decide +kernel)
theorem dX1_together_0 : decode cX1_together 0 = .ok (.lconst 0, 1) := by decide +kernel
theorem dX1_together_1 : decode cX1_together 1 = .ok (.lstore_n 3, 1) := by decide +kernel
theorem dX1_together_2 : decode cX1_together 2 = .ok (.iconst 0, 1) := by decide +kernel
theorem dX1_together_3 : decode cX1_together 3 = .ok (.istore 5, 2) := by decide +kernel
theorem dX1_together_5 : decode cX1_together 5 = .ok (.iload 5, 2) := by decide +kernel
theorem dX1_together_7 : decode cX1_together 7 = .ok (.aload_n 0, 1) := by decide +kernel
theorem dX1_together_8 : decode cX1_together 8 = .ok (.getfield 42, 3) := by decide +kernel
theorem dX1_together_11 : decode cX1_together 11 = .ok (.iconst 4, 1) := by decide +kernel
theorem dX1_together_12 : decode cX1_together 12 = .ok (.imul, 1) := by decide +kernel
theorem dX1_together_13 : decode cX1_together 13 = .ok (.if_icmp .ge 37, 3) := by decide +kernel
theorem dX1_together_16 : decode cX1_together 16 = .ok (.aload_n 1, 1) := by decide +kernel
theorem dX1_together_17 : decode cX1_together 17 = .ok (.getfield 45, 3) := by decide +kernel
theorem dX1_together_20 : decode cX1_together 20 = .ok (.iload 5, 2) := by decide +kernel
theorem dX1_together_22 : decode cX1_together 22 = .ok (.iushr, 1) := by decide +kernel
theorem dX1_together_23 : decode cX1_together 23 = .ok (.iload_n 2, 1) := by decide +kernel
theorem dX1_together_24 : decode cX1_together 24 = .ok (.iload 5, 2) := by decide +kernel
theorem dX1_together_26 : decode cX1_together 26 = .ok (.iushr, 1) := by decide +kernel
theorem dX1_together_27 : decode cX1_together 27 = .ok (.iand, 1) := by decide +kernel
theorem dX1_together_28 : decode cX1_together 28 = .ok (.iconst 1, 1) := by decide +kernel
theorem dX1_together_29 : decode cX1_together 29 = .ok (.iand, 1) := by decide +kernel
theorem dX1_together_30 : decode cX1_together 30 = .ok (.iconst 1, 1) := by decide +kernel
theorem dX1_together_31 : decode cX1_together 31 = .ok (.if_icmp .ne 13, 3) := by decide +kernel
theorem dX1_together_34 : decode cX1_together 34 = .ok (.lload_n 3, 1) := by decide +kernel
theorem dX1_together_35 : decode cX1_together 35 = .ok (.aload_n 0, 1) := by decide +kernel
theorem dX1_together_36 : decode cX1_together 36 = .ok (.aload_n 1, 1) := by decide +kernel
theorem dX1_together_37 : decode cX1_together 37 = .ok (.iload 5, 2) := by decide +kernel
theorem dX1_together_39 : decode cX1_together 39 = .ok (.invokestatic 48, 3) := by decide +kernel
theorem dX1_together_42 : decode cX1_together 42 = .ok (.ladd, 1) := by decide +kernel
theorem dX1_together_43 : decode cX1_together 43 = .ok (.lstore_n 3, 1) := by decide +kernel
theorem dX1_together_44 : decode cX1_together 44 = .ok (.iinc 5 1, 3) := by decide +kernel
theorem dX1_together_47 : decode cX1_together 47 = .ok (.goto (-42), 3) := by decide +kernel
theorem dX1_together_50 : decode cX1_together 50 = .ok (.lload_n 3, 1) := by decide +kernel
theorem dX1_together_51 : decode cX1_together 51 = .ok (.lreturn, 1) := by decide +kernel
set_option maxRecDepth 20000 in
theorem gX1_mostLikely_X4_worldsOf : GoodIn wsX1_mostLikely (wsV RX1 52 RX4 yX4_worldsOf wsX4_worldsOf) := goodIn_r _ [2, 3, 4, 5, 6] rfl (by decide +kernel)
set_option maxRecDepth 20000 in
theorem gX1_mostLikely_X1_together : GoodIn wsX1_mostLikely (va_wsS RX1 56 yX1_together wsX1_together) := goodIn_r _ [7, 8, 9, 10, 1, 11, 12, 13, 9, 14, 15, 16, 17, 18, 19, 20, 21, 22, 23, 24, 25, 26, 27, 28, 29, 30, 31, 32, 33, 34, 35, 36, 37, 38, 39, 40, 41, 42] rfl (by decide +kernel)
theorem dX1_mostLikely_0 : decode cX1_mostLikely 0 = .ok (.lconst 0, 1) := by decide +kernel
theorem dX1_mostLikely_1 : decode cX1_mostLikely 1 = .ok (.lstore_n 2, 1) := by decide +kernel
theorem dX1_mostLikely_2 : decode cX1_mostLikely 2 = .ok (.iconst (-1), 1) := by decide +kernel
theorem dX1_mostLikely_3 : decode cX1_mostLikely 3 = .ok (.istore 4, 2) := by decide +kernel
theorem dX1_mostLikely_5 : decode cX1_mostLikely 5 = .ok (.iconst 0, 1) := by decide +kernel
theorem dX1_mostLikely_6 : decode cX1_mostLikely 6 = .ok (.istore 5, 2) := by decide +kernel
theorem dX1_mostLikely_8 : decode cX1_mostLikely 8 = .ok (.iload 5, 2) := by decide +kernel
theorem dX1_mostLikely_10 : decode cX1_mostLikely 10 = .ok (.aload_n 0, 1) := by decide +kernel
theorem dX1_mostLikely_11 : decode cX1_mostLikely 11 = .ok (.getfield 42, 3) := by decide +kernel
theorem dX1_mostLikely_14 : decode cX1_mostLikely 14 = .ok (.if_icmp .ge 36, 3) := by decide +kernel
theorem dX1_mostLikely_17 : decode cX1_mostLikely 17 = .ok (.aload_n 0, 1) := by decide +kernel
theorem dX1_mostLikely_18 : decode cX1_mostLikely 18 = .ok (.aload_n 1, 1) := by decide +kernel
theorem dX1_mostLikely_19 : decode cX1_mostLikely 19 = .ok (.aload_n 0, 1) := by decide +kernel
theorem dX1_mostLikely_20 : decode cX1_mostLikely 20 = .ok (.iload 5, 2) := by decide +kernel
theorem dX1_mostLikely_22 : decode cX1_mostLikely 22 = .ok (.invokevirtual 52, 3) := by decide +kernel
theorem dX1_mostLikely_25 : decode cX1_mostLikely 25 = .ok (.invokestatic 56, 3) := by decide +kernel
theorem dX1_mostLikely_28 : decode cX1_mostLikely 28 = .ok (.lstore 6, 2) := by decide +kernel
theorem dX1_mostLikely_30 : decode cX1_mostLikely 30 = .ok (.lload 6, 2) := by decide +kernel
theorem dX1_mostLikely_32 : decode cX1_mostLikely 32 = .ok (.lload_n 2, 1) := by decide +kernel
theorem dX1_mostLikely_33 : decode cX1_mostLikely 33 = .ok (.lcmp, 1) := by decide +kernel
theorem dX1_mostLikely_34 : decode cX1_mostLikely 34 = .ok (.ifCond .le 10, 3) := by decide +kernel
theorem dX1_mostLikely_37 : decode cX1_mostLikely 37 = .ok (.lload 6, 2) := by decide +kernel
theorem dX1_mostLikely_39 : decode cX1_mostLikely 39 = .ok (.lstore_n 2, 1) := by decide +kernel
theorem dX1_mostLikely_40 : decode cX1_mostLikely 40 = .ok (.iload 5, 2) := by decide +kernel
theorem dX1_mostLikely_42 : decode cX1_mostLikely 42 = .ok (.istore 4, 2) := by decide +kernel
theorem dX1_mostLikely_44 : decode cX1_mostLikely 44 = .ok (.iinc 5 1, 3) := by decide +kernel
theorem dX1_mostLikely_47 : decode cX1_mostLikely 47 = .ok (.goto (-39), 3) := by decide +kernel
theorem dX1_mostLikely_50 : decode cX1_mostLikely 50 = .ok (.iload 4, 2) := by decide +kernel
theorem dX1_mostLikely_52 : decode cX1_mostLikely 52 = .ok (.ireturn, 1) := by decide +kernel
set_option maxRecDepth 20000 in
theorem gX1_share_X4_all : GoodIn wsX1_share (wsV RX1 59 RX4 yX4_all wsX4_all) := goodIn_r _ [2, 3, 4, 5, 6, 7, 27, 28, 29, 30, 31, 32, 33, 34, 35, 36, 37, 38, 39] rfl (by decide +kernel)
set_option maxRecDepth 20000 in
theorem gX1_share_X1_together : GoodIn wsX1_share (va_wsS RX1 56 yX1_together wsX1_together) := goodIn_r _ [8, 9, 10, 11, 12, 13, 14, 15, 10, 16, 17, 18, 19, 20, 21, 22, 27, 28, 29, 30, 31, 32, 33, 34, 35, 36, 37, 38, 39, 40, 41, 42, 43, 44, 45, 46, 47, 48] rfl (by decide +kernel)
set_option maxRecDepth 20000 in
theorem gX1_share_X4_worldsOf : GoodIn wsX1_share (wsV RX1 52 RX4 yX4_worldsOf wsX4_worldsOf) := goodIn_r _ [23, 24, 25, 5, 26] rfl (by decide +kernel)
theorem dX1_share_0 : decode cX1_share 0 = .ok (.aload_n 0, 1) := by decide +kernel
theorem dX1_share_1 : decode cX1_share 1 = .ok (.aload_n 1, 1) := by decide +kernel
theorem dX1_share_2 : decode cX1_share 2 = .ok (.aload_n 0, 1) := by decide +kernel
theorem dX1_share_3 : decode cX1_share 3 = .ok (.invokevirtual 59, 3) := by decide +kernel
theorem dX1_share_6 : decode cX1_share 6 = .ok (.invokestatic 56, 3) := by decide +kernel
theorem dX1_share_9 : decode cX1_share 9 = .ok (.lstore_n 3, 1) := by decide +kernel
theorem dX1_share_10 : decode cX1_share 10 = .ok (.lload_n 3, 1) := by decide +kernel
theorem dX1_share_11 : decode cX1_share 11 = .ok (.lconst 0, 1) := by decide +kernel
theorem dX1_share_12 : decode cX1_share 12 = .ok (.lcmp, 1) := by decide +kernel
theorem dX1_share_13 : decode cX1_share 13 = .ok (.ifCond .ne 7, 3) := by decide +kernel
theorem dX1_share_16 : decode cX1_share 16 = .ok (.iconst (-1), 1) := by decide +kernel
theorem dX1_share_17 : decode cX1_share 17 = .ok (.goto 20, 3) := by decide +kernel
theorem dX1_share_20 : decode cX1_share 20 = .ok (.aload_n 0, 1) := by decide +kernel
theorem dX1_share_21 : decode cX1_share 21 = .ok (.aload_n 1, 1) := by decide +kernel
theorem dX1_share_22 : decode cX1_share 22 = .ok (.aload_n 0, 1) := by decide +kernel
theorem dX1_share_23 : decode cX1_share 23 = .ok (.iload_n 2, 1) := by decide +kernel
theorem dX1_share_24 : decode cX1_share 24 = .ok (.invokevirtual 52, 3) := by decide +kernel
theorem dX1_share_27 : decode cX1_share 27 = .ok (.invokestatic 56, 3) := by decide +kernel
theorem dX1_share_30 : decode cX1_share 30 = .ok (.ldc2_w 63, 3) := by decide +kernel
theorem dX1_share_33 : decode cX1_share 33 = .ok (.lmul, 1) := by decide +kernel
theorem dX1_share_34 : decode cX1_share 34 = .ok (.lload_n 3, 1) := by decide +kernel
theorem dX1_share_35 : decode cX1_share 35 = .ok (.ldiv, 1) := by decide +kernel
theorem dX1_share_36 : decode cX1_share 36 = .ok (.l2i, 1) := by decide +kernel
theorem dX1_share_37 : decode cX1_share 37 = .ok (.ireturn, 1) := by decide +kernel
set_option maxRecDepth 20000 in
theorem gX1_wrongly_X4_worldsOf : GoodIn wsX1_wrongly (wsV RX1 52 RX4 yX4_worldsOf wsX4_worldsOf) := goodIn_r _ [6, 7, 8, 9, 10] rfl (by decide +kernel)
theorem dX1_wrongly_0 : decode cX1_wrongly 0 = .ok (.iload_n 1, 1) := by decide +kernel
theorem dX1_wrongly_1 : decode cX1_wrongly 1 = .ok (.iload 4, 2) := by decide +kernel
theorem dX1_wrongly_3 : decode cX1_wrongly 3 = .ok (.ifCond .eq 11, 3) := by decide +kernel
theorem dX1_wrongly_6 : decode cX1_wrongly 6 = .ok (.aload_n 0, 1) := by decide +kernel
theorem dX1_wrongly_7 : decode cX1_wrongly 7 = .ok (.iload_n 2, 1) := by decide +kernel
theorem dX1_wrongly_8 : decode cX1_wrongly 8 = .ok (.invokevirtual 52, 3) := by decide +kernel
theorem dX1_wrongly_11 : decode cX1_wrongly 11 = .ok (.goto 10, 3) := by decide +kernel
theorem dX1_wrongly_14 : decode cX1_wrongly 14 = .ok (.aload_n 0, 1) := by decide +kernel
theorem dX1_wrongly_15 : decode cX1_wrongly 15 = .ok (.iload_n 2, 1) := by decide +kernel
theorem dX1_wrongly_16 : decode cX1_wrongly 16 = .ok (.invokevirtual 52, 3) := by decide +kernel
theorem dX1_wrongly_19 : decode cX1_wrongly 19 = .ok (.iconst (-1), 1) := by decide +kernel
theorem dX1_wrongly_20 : decode cX1_wrongly 20 = .ok (.ixor, 1) := by decide +kernel
theorem dX1_wrongly_21 : decode cX1_wrongly 21 = .ok (.iand, 1) := by decide +kernel
theorem dX1_wrongly_22 : decode cX1_wrongly 22 = .ok (.istore 5, 2) := by decide +kernel
theorem dX1_wrongly_24 : decode cX1_wrongly 24 = .ok (.lconst 0, 1) := by decide +kernel
theorem dX1_wrongly_25 : decode cX1_wrongly 25 = .ok (.lstore 6, 2) := by decide +kernel
theorem dX1_wrongly_27 : decode cX1_wrongly 27 = .ok (.lconst 0, 1) := by decide +kernel
theorem dX1_wrongly_28 : decode cX1_wrongly 28 = .ok (.lstore 8, 2) := by decide +kernel
theorem dX1_wrongly_30 : decode cX1_wrongly 30 = .ok (.iconst 0, 1) := by decide +kernel
theorem dX1_wrongly_31 : decode cX1_wrongly 31 = .ok (.istore 10, 2) := by decide +kernel
theorem dX1_wrongly_33 : decode cX1_wrongly 33 = .ok (.iload 10, 2) := by decide +kernel
theorem dX1_wrongly_35 : decode cX1_wrongly 35 = .ok (.aload_n 0, 1) := by decide +kernel
theorem dX1_wrongly_36 : decode cX1_wrongly 36 = .ok (.getfield 42, 3) := by decide +kernel
theorem dX1_wrongly_39 : decode cX1_wrongly 39 = .ok (.iconst 4, 1) := by decide +kernel
theorem dX1_wrongly_40 : decode cX1_wrongly 40 = .ok (.imul, 1) := by decide +kernel
theorem dX1_wrongly_41 : decode cX1_wrongly 41 = .ok (.if_icmp .ge 98, 3) := by decide +kernel
theorem dX1_wrongly_44 : decode cX1_wrongly 44 = .ok (.iload 5, 2) := by decide +kernel
theorem dX1_wrongly_46 : decode cX1_wrongly 46 = .ok (.iload 10, 2) := by decide +kernel
theorem dX1_wrongly_48 : decode cX1_wrongly 48 = .ok (.iushr, 1) := by decide +kernel
theorem dX1_wrongly_49 : decode cX1_wrongly 49 = .ok (.iconst 1, 1) := by decide +kernel
theorem dX1_wrongly_50 : decode cX1_wrongly 50 = .ok (.iand, 1) := by decide +kernel
theorem dX1_wrongly_51 : decode cX1_wrongly 51 = .ok (.iconst 1, 1) := by decide +kernel
theorem dX1_wrongly_52 : decode cX1_wrongly 52 = .ok (.if_icmp .ne 81, 3) := by decide +kernel
theorem dX1_wrongly_55 : decode cX1_wrongly 55 = .ok (.aload_n 0, 1) := by decide +kernel
theorem dX1_wrongly_56 : decode cX1_wrongly 56 = .ok (.getfield 32, 3) := by decide +kernel
theorem dX1_wrongly_59 : decode cX1_wrongly 59 = .ok (.iload 10, 2) := by decide +kernel
theorem dX1_wrongly_61 : decode cX1_wrongly 61 = .ok (.iaload, 1) := by decide +kernel
theorem dX1_wrongly_62 : decode cX1_wrongly 62 = .ok (.iload_n 3, 1) := by decide +kernel
theorem dX1_wrongly_63 : decode cX1_wrongly 63 = .ok (.iushr, 1) := by decide +kernel
theorem dX1_wrongly_64 : decode cX1_wrongly 64 = .ok (.iconst 1, 1) := by decide +kernel
theorem dX1_wrongly_65 : decode cX1_wrongly 65 = .ok (.iand, 1) := by decide +kernel
theorem dX1_wrongly_66 : decode cX1_wrongly 66 = .ok (.iconst 1, 1) := by decide +kernel
theorem dX1_wrongly_67 : decode cX1_wrongly 67 = .ok (.if_icmp .ne 7, 3) := by decide +kernel
theorem dX1_wrongly_70 : decode cX1_wrongly 70 = .ok (.iconst 1, 1) := by decide +kernel
theorem dX1_wrongly_71 : decode cX1_wrongly 71 = .ok (.goto 4, 3) := by decide +kernel
theorem dX1_wrongly_74 : decode cX1_wrongly 74 = .ok (.iconst 0, 1) := by decide +kernel
theorem dX1_wrongly_75 : decode cX1_wrongly 75 = .ok (.istore 11, 2) := by decide +kernel
theorem dX1_wrongly_77 : decode cX1_wrongly 77 = .ok (.aload_n 0, 1) := by decide +kernel
theorem dX1_wrongly_78 : decode cX1_wrongly 78 = .ok (.getfield 18, 3) := by decide +kernel
theorem dX1_wrongly_81 : decode cX1_wrongly 81 = .ok (.iload 10, 2) := by decide +kernel
theorem dX1_wrongly_83 : decode cX1_wrongly 83 = .ok (.iconst 4, 1) := by decide +kernel
theorem dX1_wrongly_84 : decode cX1_wrongly 84 = .ok (.idiv, 1) := by decide +kernel
theorem dX1_wrongly_85 : decode cX1_wrongly 85 = .ok (.iaload, 1) := by decide +kernel
theorem dX1_wrongly_86 : decode cX1_wrongly 86 = .ok (.istore 12, 2) := by decide +kernel
theorem dX1_wrongly_88 : decode cX1_wrongly 88 = .ok (.lload 6, 2) := by decide +kernel
theorem dX1_wrongly_90 : decode cX1_wrongly 90 = .ok (.iload 12, 2) := by decide +kernel
theorem dX1_wrongly_92 : decode cX1_wrongly 92 = .ok (.iload 11, 2) := by decide +kernel
theorem dX1_wrongly_94 : decode cX1_wrongly 94 = .ok (.iload 4, 2) := by decide +kernel
theorem dX1_wrongly_96 : decode cX1_wrongly 96 = .ok (.if_icmp .ne 12, 3) := by decide +kernel
theorem dX1_wrongly_99 : decode cX1_wrongly 99 = .ok (.aload_n 0, 1) := by decide +kernel
theorem dX1_wrongly_100 : decode cX1_wrongly 100 = .ok (.getfield 39, 3) := by decide +kernel
theorem dX1_wrongly_103 : decode cX1_wrongly 103 = .ok (.iload_n 3, 1) := by decide +kernel
theorem dX1_wrongly_104 : decode cX1_wrongly 104 = .ok (.iaload, 1) := by decide +kernel
theorem dX1_wrongly_105 : decode cX1_wrongly 105 = .ok (.goto 12, 3) := by decide +kernel
theorem dX1_wrongly_108 : decode cX1_wrongly 108 = .ok (.bipush 10, 2) := by decide +kernel
theorem dX1_wrongly_110 : decode cX1_wrongly 110 = .ok (.aload_n 0, 1) := by decide +kernel
theorem dX1_wrongly_111 : decode cX1_wrongly 111 = .ok (.getfield 39, 3) := by decide +kernel
theorem dX1_wrongly_114 : decode cX1_wrongly 114 = .ok (.iload_n 3, 1) := by decide +kernel
theorem dX1_wrongly_115 : decode cX1_wrongly 115 = .ok (.iaload, 1) := by decide +kernel
theorem dX1_wrongly_116 : decode cX1_wrongly 116 = .ok (.isub, 1) := by decide +kernel
theorem dX1_wrongly_117 : decode cX1_wrongly 117 = .ok (.imul, 1) := by decide +kernel
theorem dX1_wrongly_118 : decode cX1_wrongly 118 = .ok (.i2l, 1) := by decide +kernel
theorem dX1_wrongly_119 : decode cX1_wrongly 119 = .ok (.ladd, 1) := by decide +kernel
theorem dX1_wrongly_120 : decode cX1_wrongly 120 = .ok (.lstore 6, 2) := by decide +kernel
theorem dX1_wrongly_122 : decode cX1_wrongly 122 = .ok (.lload 8, 2) := by decide +kernel
theorem dX1_wrongly_124 : decode cX1_wrongly 124 = .ok (.iload 12, 2) := by decide +kernel
theorem dX1_wrongly_126 : decode cX1_wrongly 126 = .ok (.bipush 10, 2) := by decide +kernel
theorem dX1_wrongly_128 : decode cX1_wrongly 128 = .ok (.imul, 1) := by decide +kernel
theorem dX1_wrongly_129 : decode cX1_wrongly 129 = .ok (.i2l, 1) := by decide +kernel
theorem dX1_wrongly_130 : decode cX1_wrongly 130 = .ok (.ladd, 1) := by decide +kernel
theorem dX1_wrongly_131 : decode cX1_wrongly 131 = .ok (.lstore 8, 2) := by decide +kernel
theorem dX1_wrongly_133 : decode cX1_wrongly 133 = .ok (.iinc 10 1, 3) := by decide +kernel
theorem dX1_wrongly_136 : decode cX1_wrongly 136 = .ok (.goto (-103), 3) := by decide +kernel
theorem dX1_wrongly_139 : decode cX1_wrongly 139 = .ok (.lload 8, 2) := by decide +kernel
theorem dX1_wrongly_141 : decode cX1_wrongly 141 = .ok (.lconst 0, 1) := by decide +kernel
theorem dX1_wrongly_142 : decode cX1_wrongly 142 = .ok (.lcmp, 1) := by decide +kernel
theorem dX1_wrongly_143 : decode cX1_wrongly 143 = .ok (.ifCond .ne 7, 3) := by decide +kernel
theorem dX1_wrongly_146 : decode cX1_wrongly 146 = .ok (.iconst (-1), 1) := by decide +kernel
theorem dX1_wrongly_147 : decode cX1_wrongly 147 = .ok (.goto 13, 3) := by decide +kernel
theorem dX1_wrongly_150 : decode cX1_wrongly 150 = .ok (.lload 6, 2) := by decide +kernel
theorem dX1_wrongly_152 : decode cX1_wrongly 152 = .ok (.ldc2_w 63, 3) := by decide +kernel
theorem dX1_wrongly_155 : decode cX1_wrongly 155 = .ok (.lmul, 1) := by decide +kernel
theorem dX1_wrongly_156 : decode cX1_wrongly 156 = .ok (.lload 8, 2) := by decide +kernel
theorem dX1_wrongly_158 : decode cX1_wrongly 158 = .ok (.ldiv, 1) := by decide +kernel
theorem dX1_wrongly_159 : decode cX1_wrongly 159 = .ok (.l2i, 1) := by decide +kernel
theorem dX1_wrongly_160 : decode cX1_wrongly 160 = .ok (.ireturn, 1) := by decide +kernel
theorem dX1_weighRooms_0 : decode cX1_weighRooms 0 = .ok (.iconst 0, 1) := by decide +kernel
theorem dX1_weighRooms_1 : decode cX1_weighRooms 1 = .ok (.istore_n 3, 1) := by decide +kernel
theorem dX1_weighRooms_2 : decode cX1_weighRooms 2 = .ok (.iload_n 3, 1) := by decide +kernel
theorem dX1_weighRooms_3 : decode cX1_weighRooms 3 = .ok (.bipush 12, 2) := by decide +kernel
theorem dX1_weighRooms_5 : decode cX1_weighRooms 5 = .ok (.if_icmp .gt 16, 3) := by decide +kernel
theorem dX1_weighRooms_8 : decode cX1_weighRooms 8 = .ok (.aload_n 0, 1) := by decide +kernel
theorem dX1_weighRooms_9 : decode cX1_weighRooms 9 = .ok (.getfield 9, 3) := by decide +kernel
theorem dX1_weighRooms_12 : decode cX1_weighRooms 12 = .ok (.iload_n 3, 1) := by decide +kernel
theorem dX1_weighRooms_13 : decode cX1_weighRooms 13 = .ok (.iconst 0, 1) := by decide +kernel
theorem dX1_weighRooms_14 : decode cX1_weighRooms 14 = .ok (.iastore, 1) := by decide +kernel
theorem dX1_weighRooms_15 : decode cX1_weighRooms 15 = .ok (.iinc 3 1, 3) := by decide +kernel
theorem dX1_weighRooms_18 : decode cX1_weighRooms 18 = .ok (.goto (-16), 3) := by decide +kernel
theorem dX1_weighRooms_21 : decode cX1_weighRooms 21 = .ok (.iconst 0, 1) := by decide +kernel
theorem dX1_weighRooms_22 : decode cX1_weighRooms 22 = .ok (.istore_n 3, 1) := by decide +kernel
theorem dX1_weighRooms_23 : decode cX1_weighRooms 23 = .ok (.iconst 0, 1) := by decide +kernel
theorem dX1_weighRooms_24 : decode cX1_weighRooms 24 = .ok (.istore 4, 2) := by decide +kernel
theorem dX1_weighRooms_26 : decode cX1_weighRooms 26 = .ok (.iload 4, 2) := by decide +kernel
theorem dX1_weighRooms_28 : decode cX1_weighRooms 28 = .ok (.aload_n 1, 1) := by decide +kernel
theorem dX1_weighRooms_29 : decode cX1_weighRooms 29 = .ok (.getfield 42, 3) := by decide +kernel
theorem dX1_weighRooms_32 : decode cX1_weighRooms 32 = .ok (.if_icmp .ge 51, 3) := by decide +kernel
theorem dX1_weighRooms_35 : decode cX1_weighRooms 35 = .ok (.iload_n 2, 1) := by decide +kernel
theorem dX1_weighRooms_36 : decode cX1_weighRooms 36 = .ok (.iload 4, 2) := by decide +kernel
theorem dX1_weighRooms_38 : decode cX1_weighRooms 38 = .ok (.iushr, 1) := by decide +kernel
theorem dX1_weighRooms_39 : decode cX1_weighRooms 39 = .ok (.iconst 1, 1) := by decide +kernel
theorem dX1_weighRooms_40 : decode cX1_weighRooms 40 = .ok (.iand, 1) := by decide +kernel
theorem dX1_weighRooms_41 : decode cX1_weighRooms 41 = .ok (.iconst 1, 1) := by decide +kernel
theorem dX1_weighRooms_42 : decode cX1_weighRooms 42 = .ok (.if_icmp .ne 35, 3) := by decide +kernel
theorem dX1_weighRooms_45 : decode cX1_weighRooms 45 = .ok (.aload_n 0, 1) := by decide +kernel
theorem dX1_weighRooms_46 : decode cX1_weighRooms 46 = .ok (.getfield 9, 3) := by decide +kernel
theorem dX1_weighRooms_49 : decode cX1_weighRooms 49 = .ok (.aload_n 1, 1) := by decide +kernel
theorem dX1_weighRooms_50 : decode cX1_weighRooms 50 = .ok (.getfield 72, 3) := by decide +kernel
theorem dX1_weighRooms_53 : decode cX1_weighRooms 53 = .ok (.iload 4, 2) := by decide +kernel
theorem dX1_weighRooms_55 : decode cX1_weighRooms 55 = .ok (.iaload, 1) := by decide +kernel
theorem dX1_weighRooms_56 : decode cX1_weighRooms 56 = .ok (.dup2, 1) := by decide +kernel
theorem dX1_weighRooms_57 : decode cX1_weighRooms 57 = .ok (.iaload, 1) := by decide +kernel
theorem dX1_weighRooms_58 : decode cX1_weighRooms 58 = .ok (.aload_n 1, 1) := by decide +kernel
theorem dX1_weighRooms_59 : decode cX1_weighRooms 59 = .ok (.getfield 18, 3) := by decide +kernel
theorem dX1_weighRooms_62 : decode cX1_weighRooms 62 = .ok (.iload 4, 2) := by decide +kernel
theorem dX1_weighRooms_64 : decode cX1_weighRooms 64 = .ok (.iaload, 1) := by decide +kernel
theorem dX1_weighRooms_65 : decode cX1_weighRooms 65 = .ok (.iadd, 1) := by decide +kernel
theorem dX1_weighRooms_66 : decode cX1_weighRooms 66 = .ok (.iastore, 1) := by decide +kernel
theorem dX1_weighRooms_67 : decode cX1_weighRooms 67 = .ok (.iload_n 3, 1) := by decide +kernel
theorem dX1_weighRooms_68 : decode cX1_weighRooms 68 = .ok (.aload_n 1, 1) := by decide +kernel
theorem dX1_weighRooms_69 : decode cX1_weighRooms 69 = .ok (.getfield 18, 3) := by decide +kernel
theorem dX1_weighRooms_72 : decode cX1_weighRooms 72 = .ok (.iload 4, 2) := by decide +kernel
theorem dX1_weighRooms_74 : decode cX1_weighRooms 74 = .ok (.iaload, 1) := by decide +kernel
theorem dX1_weighRooms_75 : decode cX1_weighRooms 75 = .ok (.iadd, 1) := by decide +kernel
theorem dX1_weighRooms_76 : decode cX1_weighRooms 76 = .ok (.istore_n 3, 1) := by decide +kernel
theorem dX1_weighRooms_77 : decode cX1_weighRooms 77 = .ok (.iinc 4 1, 3) := by decide +kernel
theorem dX1_weighRooms_80 : decode cX1_weighRooms 80 = .ok (.goto (-54), 3) := by decide +kernel
theorem dX1_weighRooms_83 : decode cX1_weighRooms 83 = .ok (.iload_n 3, 1) := by decide +kernel
theorem dX1_weighRooms_84 : decode cX1_weighRooms 84 = .ok (.ireturn, 1) := by decide +kernel
theorem dX1_heaviest_0 : decode cX1_heaviest 0 = .ok (.iconst 0, 1) := by decide +kernel
theorem dX1_heaviest_1 : decode cX1_heaviest 1 = .ok (.istore_n 1, 1) := by decide +kernel
theorem dX1_heaviest_2 : decode cX1_heaviest 2 = .ok (.iconst 1, 1) := by decide +kernel
theorem dX1_heaviest_3 : decode cX1_heaviest 3 = .ok (.istore_n 2, 1) := by decide +kernel
theorem dX1_heaviest_4 : decode cX1_heaviest 4 = .ok (.iload_n 2, 1) := by decide +kernel
theorem dX1_heaviest_5 : decode cX1_heaviest 5 = .ok (.bipush 12, 2) := by decide +kernel
theorem dX1_heaviest_7 : decode cX1_heaviest 7 = .ok (.if_icmp .gt 26, 3) := by decide +kernel
theorem dX1_heaviest_10 : decode cX1_heaviest 10 = .ok (.aload_n 0, 1) := by decide +kernel
theorem dX1_heaviest_11 : decode cX1_heaviest 11 = .ok (.getfield 9, 3) := by decide +kernel
theorem dX1_heaviest_14 : decode cX1_heaviest 14 = .ok (.iload_n 2, 1) := by decide +kernel
theorem dX1_heaviest_15 : decode cX1_heaviest 15 = .ok (.iaload, 1) := by decide +kernel
theorem dX1_heaviest_16 : decode cX1_heaviest 16 = .ok (.aload_n 0, 1) := by decide +kernel
theorem dX1_heaviest_17 : decode cX1_heaviest 17 = .ok (.getfield 9, 3) := by decide +kernel
theorem dX1_heaviest_20 : decode cX1_heaviest 20 = .ok (.iload_n 1, 1) := by decide +kernel
theorem dX1_heaviest_21 : decode cX1_heaviest 21 = .ok (.iaload, 1) := by decide +kernel
theorem dX1_heaviest_22 : decode cX1_heaviest 22 = .ok (.if_icmp .le 5, 3) := by decide +kernel
theorem dX1_heaviest_25 : decode cX1_heaviest 25 = .ok (.iload_n 2, 1) := by decide +kernel
theorem dX1_heaviest_26 : decode cX1_heaviest 26 = .ok (.istore_n 1, 1) := by decide +kernel
theorem dX1_heaviest_27 : decode cX1_heaviest 27 = .ok (.iinc 2 1, 3) := by decide +kernel
theorem dX1_heaviest_30 : decode cX1_heaviest 30 = .ok (.goto (-26), 3) := by decide +kernel
theorem dX1_heaviest_33 : decode cX1_heaviest 33 = .ok (.iload_n 1, 1) := by decide +kernel
theorem dX1_heaviest_34 : decode cX1_heaviest 34 = .ok (.ireturn, 1) := by decide +kernel
set_option maxRecDepth 20000 in
theorem gX1_search_X1_weighRooms : GoodIn wsX1_search (wsV RX1 65 RX1 yX1_weighRooms wsX1_weighRooms) := goodIn_r _ [3, 4, 5, 6, 7, 1, 8, 9, 10, 15, 16, 17, 18, 19, 20, 21, 22, 23, 24, 25, 26, 27, 28, 29] rfl (by decide +kernel)
set_option maxRecDepth 20000 in
theorem gX1_search_X1_heaviest : GoodIn wsX1_search (wsV RX1 69 RX1 yX1_heaviest wsX1_heaviest) := goodIn_r _ [11, 12, 13, 6, 14, 1, 15, 16] rfl (by decide +kernel)
theorem dX1_search_0 : decode cX1_search 0 = .ok (.iload_n 2, 1) := by decide +kernel
theorem dX1_search_1 : decode cX1_search 1 = .ok (.ifCond .ne 5, 3) := by decide +kernel
theorem dX1_search_4 : decode cX1_search 4 = .ok (.iconst (-1), 1) := by decide +kernel
theorem dX1_search_5 : decode cX1_search 5 = .ok (.ireturn, 1) := by decide +kernel
theorem dX1_search_6 : decode cX1_search 6 = .ok (.aload_n 0, 1) := by decide +kernel
theorem dX1_search_7 : decode cX1_search 7 = .ok (.aload_n 1, 1) := by decide +kernel
theorem dX1_search_8 : decode cX1_search 8 = .ok (.iload_n 2, 1) := by decide +kernel
theorem dX1_search_9 : decode cX1_search 9 = .ok (.invokevirtual 65, 3) := by decide +kernel
theorem dX1_search_12 : decode cX1_search 12 = .ok (.istore 4, 2) := by decide +kernel
theorem dX1_search_14 : decode cX1_search 14 = .ok (.iconst 0, 1) := by decide +kernel
theorem dX1_search_15 : decode cX1_search 15 = .ok (.istore 5, 2) := by decide +kernel
theorem dX1_search_17 : decode cX1_search 17 = .ok (.iconst 0, 1) := by decide +kernel
theorem dX1_search_18 : decode cX1_search 18 = .ok (.istore 6, 2) := by decide +kernel
theorem dX1_search_20 : decode cX1_search 20 = .ok (.iconst 0, 1) := by decide +kernel
theorem dX1_search_21 : decode cX1_search 21 = .ok (.istore 7, 2) := by decide +kernel
theorem dX1_search_23 : decode cX1_search 23 = .ok (.iload 7, 2) := by decide +kernel
theorem dX1_search_25 : decode cX1_search 25 = .ok (.bipush 8, 2) := by decide +kernel
theorem dX1_search_27 : decode cX1_search 27 = .ok (.if_icmp .ge 63, 3) := by decide +kernel
theorem dX1_search_30 : decode cX1_search 30 = .ok (.aload_n 0, 1) := by decide +kernel
theorem dX1_search_31 : decode cX1_search 31 = .ok (.invokevirtual 69, 3) := by decide +kernel
theorem dX1_search_34 : decode cX1_search 34 = .ok (.istore 8, 2) := by decide +kernel
theorem dX1_search_36 : decode cX1_search 36 = .ok (.aload_n 0, 1) := by decide +kernel
theorem dX1_search_37 : decode cX1_search 37 = .ok (.getfield 9, 3) := by decide +kernel
theorem dX1_search_40 : decode cX1_search 40 = .ok (.iload 8, 2) := by decide +kernel
theorem dX1_search_42 : decode cX1_search 42 = .ok (.iaload, 1) := by decide +kernel
theorem dX1_search_43 : decode cX1_search 43 = .ok (.ifCond .ne 6, 3) := by decide +kernel
theorem dX1_search_46 : decode cX1_search 46 = .ok (.goto 44, 3) := by decide +kernel
theorem dX1_search_49 : decode cX1_search 49 = .ok (.aload_n 0, 1) := by decide +kernel
theorem dX1_search_50 : decode cX1_search 50 = .ok (.getfield 15, 3) := by decide +kernel
theorem dX1_search_53 : decode cX1_search 53 = .ok (.iload 7, 2) := by decide +kernel
theorem dX1_search_55 : decode cX1_search 55 = .ok (.iload 8, 2) := by decide +kernel
theorem dX1_search_57 : decode cX1_search 57 = .ok (.iastore, 1) := by decide +kernel
theorem dX1_search_58 : decode cX1_search 58 = .ok (.iinc 5 1, 3) := by decide +kernel
theorem dX1_search_61 : decode cX1_search 61 = .ok (.iload 6, 2) := by decide +kernel
theorem dX1_search_63 : decode cX1_search 63 = .ok (.iload 5, 2) := by decide +kernel
theorem dX1_search_65 : decode cX1_search 65 = .ok (.aload_n 0, 1) := by decide +kernel
theorem dX1_search_66 : decode cX1_search 66 = .ok (.getfield 9, 3) := by decide +kernel
theorem dX1_search_69 : decode cX1_search 69 = .ok (.iload 8, 2) := by decide +kernel
theorem dX1_search_71 : decode cX1_search 71 = .ok (.iaload, 1) := by decide +kernel
theorem dX1_search_72 : decode cX1_search 72 = .ok (.imul, 1) := by decide +kernel
theorem dX1_search_73 : decode cX1_search 73 = .ok (.iadd, 1) := by decide +kernel
theorem dX1_search_74 : decode cX1_search 74 = .ok (.istore 6, 2) := by decide +kernel
theorem dX1_search_76 : decode cX1_search 76 = .ok (.aload_n 0, 1) := by decide +kernel
theorem dX1_search_77 : decode cX1_search 77 = .ok (.getfield 9, 3) := by decide +kernel
theorem dX1_search_80 : decode cX1_search 80 = .ok (.iload 8, 2) := by decide +kernel
theorem dX1_search_82 : decode cX1_search 82 = .ok (.iconst 0, 1) := by decide +kernel
theorem dX1_search_83 : decode cX1_search 83 = .ok (.iastore, 1) := by decide +kernel
theorem dX1_search_84 : decode cX1_search 84 = .ok (.iinc 7 1, 3) := by decide +kernel
theorem dX1_search_87 : decode cX1_search 87 = .ok (.goto (-64), 3) := by decide +kernel
theorem dX1_search_90 : decode cX1_search 90 = .ok (.iload_n 3, 1) := by decide +kernel
theorem dX1_search_91 : decode cX1_search 91 = .ok (.ifCond .ne 22, 3) := by decide +kernel
theorem dX1_search_94 : decode cX1_search 94 = .ok (.iload 4, 2) := by decide +kernel
theorem dX1_search_96 : decode cX1_search 96 = .ok (.ifCond .ne 7, 3) := by decide +kernel
theorem dX1_search_99 : decode cX1_search 99 = .ok (.iconst (-1), 1) := by decide +kernel
theorem dX1_search_100 : decode cX1_search 100 = .ok (.goto 12, 3) := by decide +kernel
theorem dX1_search_103 : decode cX1_search 103 = .ok (.iload 6, 2) := by decide +kernel
theorem dX1_search_105 : decode cX1_search 105 = .ok (.sipush 1000, 3) := by decide +kernel
theorem dX1_search_108 : decode cX1_search 108 = .ok (.imul, 1) := by decide +kernel
theorem dX1_search_109 : decode cX1_search 109 = .ok (.iload 4, 2) := by decide +kernel
theorem dX1_search_111 : decode cX1_search 111 = .ok (.idiv, 1) := by decide +kernel
theorem dX1_search_112 : decode cX1_search 112 = .ok (.ireturn, 1) := by decide +kernel
theorem dX1_search_113 : decode cX1_search 113 = .ok (.iload_n 3, 1) := by decide +kernel
theorem dX1_search_114 : decode cX1_search 114 = .ok (.iconst 1, 1) := by decide +kernel
theorem dX1_search_115 : decode cX1_search 115 = .ok (.if_icmp .ne 6, 3) := by decide +kernel
theorem dX1_search_118 : decode cX1_search 118 = .ok (.iload 5, 2) := by decide +kernel
theorem dX1_search_120 : decode cX1_search 120 = .ok (.ireturn, 1) := by decide +kernel
theorem dX1_search_121 : decode cX1_search 121 = .ok (.iload_n 3, 1) := by decide +kernel
theorem dX1_search_122 : decode cX1_search 122 = .ok (.iconst 2, 1) := by decide +kernel
theorem dX1_search_123 : decode cX1_search 123 = .ok (.isub, 1) := by decide +kernel
theorem dX1_search_124 : decode cX1_search 124 = .ok (.ifCond .lt 22, 3) := by decide +kernel
theorem dX1_search_127 : decode cX1_search 127 = .ok (.iload_n 3, 1) := by decide +kernel
theorem dX1_search_128 : decode cX1_search 128 = .ok (.iconst 2, 1) := by decide +kernel
theorem dX1_search_129 : decode cX1_search 129 = .ok (.isub, 1) := by decide +kernel
theorem dX1_search_130 : decode cX1_search 130 = .ok (.iload 5, 2) := by decide +kernel
theorem dX1_search_132 : decode cX1_search 132 = .ok (.if_icmp .ge 14, 3) := by decide +kernel
theorem dX1_search_135 : decode cX1_search 135 = .ok (.aload_n 0, 1) := by decide +kernel
theorem dX1_search_136 : decode cX1_search 136 = .ok (.getfield 15, 3) := by decide +kernel
theorem dX1_search_139 : decode cX1_search 139 = .ok (.iload_n 3, 1) := by decide +kernel
theorem dX1_search_140 : decode cX1_search 140 = .ok (.iconst 2, 1) := by decide +kernel
theorem dX1_search_141 : decode cX1_search 141 = .ok (.isub, 1) := by decide +kernel
theorem dX1_search_142 : decode cX1_search 142 = .ok (.iaload, 1) := by decide +kernel
theorem dX1_search_143 : decode cX1_search 143 = .ok (.goto 4, 3) := by decide +kernel
theorem dX1_search_146 : decode cX1_search 146 = .ok (.iconst (-1), 1) := by decide +kernel
theorem dX1_search_147 : decode cX1_search 147 = .ok (.ireturn, 1) := by decide +kernel
section
variable {p : Program} {l : Launch} {e : Env} {s : State} {m : MethodId} {args : Array Value} {below : List Frame} {meth : Method} {c : Code} {D : va_G} {cy : Nat → ClassId} {ad : Nat → Nat} {A : Nat → Prop} {aM aB aO aI aN aT aC aG aR aQ aK aL aX aH aJ aP aU aE0 aE1 aE2 aE3 : Nat → Nat} {gi : Value}
abbrev rm1_weight : Room := { frames := 0, cells := 0, slots := 0, locals := 0 }
theorem hdS1_weight : (yX1_weight.cls ≠ "java/lang/invoke/MethodHandle" ∧ yX1_weight.cls ≠ "java/lang/invoke/VarHandle" ∧ (parseMethodDescriptor yX1_weight.desc).map (fun d => d.parameters.length) = some 3) := by decide +kernel
theorem hin1_weight_4 : ∀ x ∈ u_ws RX4 TX4 13, x ∈ wsX1_weight := fun _ h => List.mem_cons_of_mem _ (List.mem_append_left _ (List.mem_append_right _ h))
theorem hin1_weight_0 : ∀ x ∈ u_ws RX0 TX0 9, x ∈ wsX1_weight := fun _ h => List.mem_cons_of_mem _ (List.mem_append_right _ h)
set_option maxRecDepth 100000 in
set_option maxHeartbeats 4000000 in
theorem t1_weight_96 (hC : Cx p s m args meth c cX1_weight 8 wsX1_weight RX1 (some .long)) {k13 : Int32 → Int64 → Int32 → Ob → Ob → Option (Int64)} (hk13 : ∀ (x2 : Int32) (x3 : Int64) (x5 : Int32) (SI : Ob) (SB : Ob) (res : Int64) (H : Heap) (locs : List Loc) (ls : Array Slot), k13 x2 x3 x5 SI SB = some res → GW D cy ad (w4 cy aI SI ++ (w0 cy aB SB)) A s H locs → lv_has ls 8 [(0, .ref (aI 0)), (1, .ref (aB 0)), (2, .int x2), (3, .long x3), (5, .int x5)] → W p l e rm1_weight s m args below meth c H locs 0 0 (MQ below (QL D cy (w4 cy aI SI ++ (w0 cy aB SB)) A res) args s 0 0 A) (F0 m 13 ls [])) : ∀ (x2 : Int32) (x5 : Int32) (z0 : Int64) (z1 : Int64) (SI : Ob) (SB : Ob) (res : Int64) (H : Heap) (locs : List Loc) (ls : Array Slot), f1_weight_96 k13 x2 x5 z0 z1 SI SB = some res → GW D cy ad (w4 cy aI SI ++ (w0 cy aB SB)) A s H locs → lv_has ls 8 [(0, .ref (aI 0)), (1, .ref (aB 0)), (2, .int x2), (5, .int x5)] → W p l e rm1_weight s m args below meth c H locs 0 0 (MQ below (QL D cy (w4 cy aI SI ++ (w0 cy aB SB)) A res) args s 0 0 A) (F0 m 96 ls [.long z1, .long z0]) := by
  intro x2 x5 z0 z1 SI SB res H locs ls hf hW hl
  unfold f1_weight_96 at hf
  refine lv_lmul hC.1 hC.2.1 dX1_weight_96 ?_
  refine lv_topl (fun x3_1 ex3_1 => ?_)
  have hf := lt_nm hf ex3_1
  refine lv_lstore_n (lv' := [(3, .long x3_1), (0, .ref (aI 0)), (1, .ref (aB 0)), (2, .int x2), (5, .int x5)]) hC.1 hC.2.1 dX1_weight_97 rfl hl (by decide) rfl (fun ls hl => ?_)
  obtain ⟨x5_2, ex5_2⟩ : ∃ y : Int32, y = x5 + 1 := ⟨_, rfl⟩
  have hf := lt_nm hf ex5_2
  refine lv_iinc (v := x5_2) (lv' := [(5, .int x5_2), (3, .long x3_1), (0, .ref (aI 0)), (1, .ref (aB 0)), (2, .int x2)]) hC.1 hC.2.1 dX1_weight_98 hl (k := 4) rfl (by rw [ex5_2]; rfl) (by decide) rfl (fun ls hl => ?_)
  refine lv_goto (tgt := 13) hC.1 hC.2.1 dX1_weight_101 (by decide) ?_
  exact hk13 _ _ _ _ _ _ _ _ _ hf hW (lv_sub hl [2, 3, 4, 1, 0] rfl)
set_option maxRecDepth 100000 in
set_option maxHeartbeats 4000000 in
theorem t1_weight_66 (hC : Cx p s m args meth c cX1_weight 8 wsX1_weight RX1 (some .long)) {k13 : Int32 → Int64 → Int32 → Ob → Ob → Option (Int64)} (hk13 : ∀ (x2 : Int32) (x3 : Int64) (x5 : Int32) (SI : Ob) (SB : Ob) (res : Int64) (H : Heap) (locs : List Loc) (ls : Array Slot), k13 x2 x3 x5 SI SB = some res → GW D cy ad (w4 cy aI SI ++ (w0 cy aB SB)) A s H locs → lv_has ls 8 [(0, .ref (aI 0)), (1, .ref (aB 0)), (2, .int x2), (3, .long x3), (5, .int x5)] → W p l e rm1_weight s m args below meth c H locs 0 0 (MQ below (QL D cy (w4 cy aI SI ++ (w0 cy aB SB)) A res) args s 0 0 A) (F0 m 13 ls [])) : ∀ (x2 : Int32) (x3 : Int64) (x5 : Int32) (x6 : Int32) (z0 : Int32) (SI : Ob) (SB : Ob) (res : Int64) (H : Heap) (locs : List Loc) (ls : Array Slot), f1_weight_66 k13 x2 x3 x5 x6 z0 SI SB = some res → GW D cy ad (w4 cy aI SI ++ (w0 cy aB SB)) A s H locs → lv_has ls 8 [(0, .ref (aI 0)), (1, .ref (aB 0)), (2, .int x2), (3, .long x3), (5, .int x5), (6, .int x6)] → W p l e rm1_weight s m args below meth c H locs 0 0 (MQ below (QL D cy (w4 cy aI SI ++ (w0 cy aB SB)) A res) args s 0 0 A) (F0 m 66 ls [.int z0]) := by
  intro x2 x3 x5 x6 z0 SI SB res H locs ls hf hW hl
  unfold f1_weight_66 at hf
  refine lv_istore (lv' := [(7, .int z0), (0, .ref (aI 0)), (1, .ref (aB 0)), (2, .int x2), (3, .long x3), (5, .int x5), (6, .int x6)]) hC.1 hC.2.1 dX1_weight_66 hl (by decide) rfl (fun ls hl => ?_)
  refine lv_lload_n hC.1 hC.2.1 dX1_weight_68 rfl (lv_at hl 4 rfl) ?_
  refine lv_iload hC.1 hC.2.1 dX1_weight_69 (lv_at hl 0 rfl) ?_
  refine lv_if_eq (tgt := 88) hC.1 hC.2.1 dX1_weight_71 (by decide) (fun hc_1 => ?_) (fun hc_1 => ?_)
  · have hf := ite_t hf hc_1
    refine lv_aload_n hC.1 hC.2.1 dX1_weight_88 rfl (lv_at hl 1 rfl) ?_
    refine g_get hC hW hin1_weight_4 0 rfl rfl 10 (by decide) 6 rfl rfl dX1_weight_89 ?_
    refine lv_iload hC.1 hC.2.1 dX1_weight_92 (lv_at hl 6 rfl) ?_
    obtain ⟨hi_2, hf⟩ := ck_of hf
    refine g_iald hC hW 9 rfl hi_2 dX1_weight_94 ?_
    refine lv_i2l (v := Int32.toInt64 (SI.2.2.1 10 (Int32.toNatClampNeg x6))) hC.1 hC.2.1 dX1_weight_95 rfl ?_
    exact t1_weight_96 hC hk13  _ _ _ _ _ _ _ _ _ _ hf hW (lv_sub hl [1, 2, 3, 5] rfl)
  · have hf := ite_f hf hc_1
    refine lv_bipush (v := 10) hC.1 hC.2.1 dX1_weight_74 (by decide) ?_
    refine lv_aload_n hC.1 hC.2.1 dX1_weight_76 rfl (lv_at hl 1 rfl) ?_
    refine g_get hC hW hin1_weight_4 0 rfl rfl 10 (by decide) 6 rfl rfl dX1_weight_77 ?_
    refine lv_iload hC.1 hC.2.1 dX1_weight_80 (lv_at hl 6 rfl) ?_
    obtain ⟨hi_3, hf⟩ := ck_of hf
    refine g_iald hC hW 9 rfl hi_3 dX1_weight_82 ?_
    refine lv_isub hC.1 hC.2.1 dX1_weight_83 ?_
    refine lv_i2l (v := Int32.toInt64 (10 - (SI.2.2.1 10 (Int32.toNatClampNeg x6)))) hC.1 hC.2.1 dX1_weight_84 rfl ?_
    refine lv_goto (tgt := 96) hC.1 hC.2.1 dX1_weight_85 (by decide) ?_
    exact t1_weight_96 hC hk13  _ _ _ _ _ _ _ _ _ _ hf hW (lv_sub hl [1, 2, 3, 5] rfl)
set_option maxRecDepth 100000 in
set_option maxHeartbeats 4000000 in
theorem t1_weight_51 (hC : Cx p s m args meth c cX1_weight 8 wsX1_weight RX1 (some .long)) {k13 : Int32 → Int64 → Int32 → Ob → Ob → Option (Int64)} (hk13 : ∀ (x2 : Int32) (x3 : Int64) (x5 : Int32) (SI : Ob) (SB : Ob) (res : Int64) (H : Heap) (locs : List Loc) (ls : Array Slot), k13 x2 x3 x5 SI SB = some res → GW D cy ad (w4 cy aI SI ++ (w0 cy aB SB)) A s H locs → lv_has ls 8 [(0, .ref (aI 0)), (1, .ref (aB 0)), (2, .int x2), (3, .long x3), (5, .int x5)] → W p l e rm1_weight s m args below meth c H locs 0 0 (MQ below (QL D cy (w4 cy aI SI ++ (w0 cy aB SB)) A res) args s 0 0 A) (F0 m 13 ls [])) : ∀ (x2 : Int32) (x3 : Int64) (x5 : Int32) (x6 : Int32) (z0 : Int32) (SI : Ob) (SB : Ob) (res : Int64) (H : Heap) (locs : List Loc) (ls : Array Slot), f1_weight_51 k13 x2 x3 x5 x6 z0 SI SB = some res → GW D cy ad (w4 cy aI SI ++ (w0 cy aB SB)) A s H locs → lv_has ls 8 [(0, .ref (aI 0)), (1, .ref (aB 0)), (2, .int x2), (3, .long x3), (5, .int x5), (6, .int x6)] → W p l e rm1_weight s m args below meth c H locs 0 0 (MQ below (QL D cy (w4 cy aI SI ++ (w0 cy aB SB)) A res) args s 0 0 A) (F0 m 51 ls [.int z0]) := by
  intro x2 x3 x5 x6 z0 SI SB res H locs ls hf hW hl
  unfold f1_weight_51 at hf
  refine lv_aload_n hC.1 hC.2.1 dX1_weight_51 rfl (lv_at hl 1 rfl) ?_
  refine g_get hC hW hin1_weight_0 12 rfl rfl 5 (by decide) 5 rfl rfl dX1_weight_52 ?_
  refine lv_iload hC.1 hC.2.1 dX1_weight_55 (lv_at hl 4 rfl) ?_
  obtain ⟨hi_1, hf⟩ := ck_of hf
  refine g_zald hC hW 15 rfl hi_1 dX1_weight_57 ?_
  refine lv_icmp_ne (tgt := 65) hC.1 hC.2.1 dX1_weight_58 (by decide) (fun hc_2 => ?_) (fun hc_2 => ?_)
  · have hf := ite_f hf hc_2
    refine lv_iconst (v := 0) hC.1 hC.2.1 dX1_weight_65 (by decide) ?_
    exact t1_weight_66 hC hk13  _ _ _ _ _ _ _ _ _ _ _ hf hW (lv_sub hl [0, 1, 2, 3, 4, 5] rfl)
  · have hf := ite_t hf hc_2
    refine lv_iconst (v := 1) hC.1 hC.2.1 dX1_weight_61 (by decide) ?_
    refine lv_goto (tgt := 66) hC.1 hC.2.1 dX1_weight_62 (by decide) ?_
    exact t1_weight_66 hC hk13  _ _ _ _ _ _ _ _ _ _ _ hf hW (lv_sub hl [0, 1, 2, 3, 4, 5] rfl)
set_option maxRecDepth 100000 in
set_option maxHeartbeats 4000000 in
theorem t1_weight_13 (hC : Cx p s m args meth c cX1_weight 8 wsX1_weight RX1 (some .long)) : ∀ n : Nat, ∀ (x2 : Int32) (x3 : Int64) (x5 : Int32) (SI : Ob) (SB : Ob) (res : Int64) (H : Heap) (locs : List Loc) (ls : Array Slot), f1_weight_13 n x2 x3 x5 SI SB = some res → GW D cy ad (w4 cy aI SI ++ (w0 cy aB SB)) A s H locs → lv_has ls 8 [(0, .ref (aI 0)), (1, .ref (aB 0)), (2, .int x2), (3, .long x3), (5, .int x5)] → W p l e rm1_weight s m args below meth c H locs 0 0 (MQ below (QL D cy (w4 cy aI SI ++ (w0 cy aB SB)) A res) args s 0 0 A) (F0 m 13 ls []) := by
  intro n
  induction n with
  | zero =>
    intro _ _ _ _ _ _ _ _ _ hf _ _
    exact nomatch (show (none : Option (Int64)) = some _ from hf)
  | succ n ih =>
    intro x2 x3 x5 SI SB res H locs ls hf hW hl
    rw [f1_weight_13] at hf
    refine lv_iload hC.1 hC.2.1 dX1_weight_13 (lv_at hl 4 rfl) ?_
    refine lv_aload_n hC.1 hC.2.1 dX1_weight_15 rfl (lv_at hl 1 rfl) ?_
    refine g_get hC hW hin1_weight_0 12 rfl rfl 3 (by decide) 2 rfl rfl dX1_weight_16 ?_
    refine lv_icmp_ge (tgt := 104) hC.1 hC.2.1 dX1_weight_19 (by decide) (fun hc_1 => ?_) (fun hc_1 => ?_)
    · have hf := ite_t hf hc_1
      refine lv_lload_n hC.1 hC.2.1 dX1_weight_104 rfl (lv_at hl 3 rfl) ?_
      obtain rfl := Option.some.inj hf
      exact g_lret hC hW dX1_weight_105
    · have hf := ite_f hf hc_1
      refine lv_aload_n hC.1 hC.2.1 dX1_weight_22 rfl (lv_at hl 1 rfl) ?_
      refine g_get hC hW hin1_weight_0 12 rfl rfl 4 (by decide) 3 rfl rfl dX1_weight_23 ?_
      refine lv_iload hC.1 hC.2.1 dX1_weight_26 (lv_at hl 4 rfl) ?_
      obtain ⟨hi_2, hf⟩ := ck_of hf
      refine g_iald hC hW 14 rfl hi_2 dX1_weight_28 ?_
      refine lv_topi (fun x6_3 ex6_3 => ?_)
      have hf := lt_nm hf ex6_3
      refine lv_istore (lv' := [(6, .int x6_3), (0, .ref (aI 0)), (1, .ref (aB 0)), (2, .int x2), (3, .long x3), (5, .int x5)]) hC.1 hC.2.1 dX1_weight_29 hl (by decide) rfl (fun ls hl => ?_)
      refine lv_aload_n hC.1 hC.2.1 dX1_weight_31 rfl (lv_at hl 1 rfl) ?_
      refine g_get hC hW hin1_weight_4 0 rfl rfl 12 (by decide) 4 rfl rfl dX1_weight_32 ?_
      refine lv_iload_n hC.1 hC.2.1 dX1_weight_35 rfl (lv_at hl 3 rfl) ?_
      obtain ⟨hi_4, hf⟩ := ck_of hf
      refine g_iald hC hW 11 rfl hi_4 dX1_weight_36 ?_
      refine lv_iload hC.1 hC.2.1 dX1_weight_37 (lv_at hl 0 rfl) ?_
      refine lv_iushr (v := ush (SI.2.2.1 12 (Int32.toNatClampNeg x2)) x6_3) hC.1 hC.2.1 dX1_weight_39 rfl ?_
      refine lv_iconst (v := 1) hC.1 hC.2.1 dX1_weight_40 (by decide) ?_
      refine lv_iand hC.1 hC.2.1 dX1_weight_41 ?_
      refine lv_iconst (v := 1) hC.1 hC.2.1 dX1_weight_42 (by decide) ?_
      refine lv_icmp_ne (tgt := 50) hC.1 hC.2.1 dX1_weight_43 (by decide) (fun hc_5 => ?_) (fun hc_5 => ?_)
      · have hf := ite_f hf hc_5
        refine lv_iconst (v := 0) hC.1 hC.2.1 dX1_weight_50 (by decide) ?_
        exact t1_weight_51 hC ih  _ _ _ _ _ _ _ _ _ _ _ hf hW (lv_sub hl [1, 2, 3, 4, 5, 0] rfl)
      · have hf := ite_t hf hc_5
        refine lv_iconst (v := 1) hC.1 hC.2.1 dX1_weight_46 (by decide) ?_
        refine lv_goto (tgt := 51) hC.1 hC.2.1 dX1_weight_47 (by decide) ?_
        exact t1_weight_51 hC ih  _ _ _ _ _ _ _ _ _ _ _ hf hW (lv_sub hl [1, 2, 3, 4, 5, 0] rfl)
set_option maxRecDepth 100000 in
set_option maxHeartbeats 4000000 in
theorem t1_weight_0 (hC : Cx p s m args meth c cX1_weight 8 wsX1_weight RX1 (some .long)) : ∀ (x2 : Int32) (SI : Ob) (SB : Ob) (res : Int64) (H : Heap) (locs : List Loc) (ls : Array Slot), f1_weight x2 SI SB = some res → GW D cy ad (w4 cy aI SI ++ (w0 cy aB SB)) A s H locs → lv_has ls 8 [(0, .ref (aI 0)), (1, .ref (aB 0)), (2, .int x2)] → W p l e rm1_weight s m args below meth c H locs 0 0 (MQ below (QL D cy (w4 cy aI SI ++ (w0 cy aB SB)) A res) args s 0 0 A) (F0 m 0 ls []) := by
  intro x2 SI SB res H locs ls hf hW hl
  unfold f1_weight at hf
  refine lv_aload_n hC.1 hC.2.1 dX1_weight_0 rfl (lv_at hl 0 rfl) ?_
  refine g_get hC hW hin1_weight_4 0 rfl rfl 4 (by decide) 1 rfl rfl dX1_weight_1 ?_
  refine lv_iload_n hC.1 hC.2.1 dX1_weight_4 rfl (lv_at hl 2 rfl) ?_
  refine lv_iconst (v := 4) hC.1 hC.2.1 dX1_weight_5 (by decide) ?_
  obtain ⟨hz_1, hf⟩ := ck_of hf
  refine lv_idiv hC.1 hC.2.1 dX1_weight_6 (nz_of hz_1) ?_
  obtain ⟨hi_2, hf⟩ := ck_of hf
  refine g_iald hC hW 4 rfl hi_2 dX1_weight_7 ?_
  refine lv_i2l (v := Int32.toInt64 (SI.2.2.1 4 (Int32.toNatClampNeg (x2 / 4)))) hC.1 hC.2.1 dX1_weight_8 rfl ?_
  refine lv_topl (fun x3_3 ex3_3 => ?_)
  have hf := lt_nm hf ex3_3
  refine lv_lstore_n (lv' := [(3, .long x3_3), (0, .ref (aI 0)), (1, .ref (aB 0)), (2, .int x2)]) hC.1 hC.2.1 dX1_weight_9 rfl hl (by decide) rfl (fun ls hl => ?_)
  refine lv_iconst (v := 0) hC.1 hC.2.1 dX1_weight_10 (by decide) ?_
  refine lv_istore (lv' := [(5, .int 0), (3, .long x3_3), (0, .ref (aI 0)), (1, .ref (aB 0)), (2, .int x2)]) hC.1 hC.2.1 dX1_weight_11 hl (by decide) rfl (fun ls hl => ?_)
  exact t1_weight_13 hC _ _ _ _ _ _ _ _ _ _ hf hW (lv_sub hl [2, 3, 4, 1, 0] rfl)
set_option maxRecDepth 100000 in
set_option maxHeartbeats 4000000 in
theorem c1_weight (l : Launch) (D : va_G) (cy : Nat → ClassId) (ad : Nat → Nat) (aI : Nat → Nat) (aB : Nat → Nat) {x2 : Int32} {SI : Ob} {SB : Ob} {res : Int64} (h : f1_weight x2 SI SB = some res) : GCl l yX1_weight wsX1_weight rm1_weight [.ref (aI 0), .ref (aB 0), .int x2] D cy ad (w4 cy aI SI ++ (w0 cy aB SB)) (w4 cy aI SI ++ (w0 cy aB SB)) res := fun sz => GC.start (own := RX1) (Qc := fun A => QL D cy (w4 cy aI SI ++ (w0 cy aB SB)) A res) sz (by decide) rfl rfl (Nat.le_of_ble_eq_true rfl) (fun p e s m below meth c A ls hC hW hl => t1_weight_0 hC _ _ _ _ _ _ _ h hW (lv_sub hl [0, 1, 2] rfl))
abbrev rm1_together : Room := { frames := 1, cells := 0, slots := 0, locals := 27 }
theorem hdS1_together : (yX1_together.cls ≠ "java/lang/invoke/MethodHandle" ∧ yX1_together.cls ≠ "java/lang/invoke/VarHandle" ∧ (parseMethodDescriptor yX1_together.desc).map (fun d => d.parameters.length) = some 3) := by decide +kernel
theorem hin1_together_4 : ∀ x ∈ u_ws RX4 TX4 13, x ∈ wsX1_together := fun _ h => List.mem_cons_of_mem _ (List.mem_append_left _ (List.mem_append_right _ h))
theorem hin1_together_0 : ∀ x ∈ u_ws RX0 TX0 9, x ∈ wsX1_together := fun _ h => List.mem_cons_of_mem _ (List.mem_append_right _ h)
set_option maxRecDepth 100000 in
set_option maxHeartbeats 4000000 in
theorem t1_together_44 (hC : Cx p s m args meth c cX1_together 6 wsX1_together RX1 (some .long)) {k5 : Int32 → Int64 → Int32 → Ob → Ob → Option (Int64)} (hk5 : ∀ (x2 : Int32) (x3 : Int64) (x5 : Int32) (SI : Ob) (SB : Ob) (res : Int64) (H : Heap) (locs : List Loc) (ls : Array Slot), k5 x2 x3 x5 SI SB = some res → GW D cy ad (w4 cy aI SI ++ (w0 cy aB SB)) A s H locs → lv_has ls 6 [(0, .ref (aI 0)), (1, .ref (aB 0)), (2, .int x2), (3, .long x3), (5, .int x5)] → W p l e rm1_together s m args below meth c H locs 0 0 (MQ below (QL D cy (w4 cy aI SI ++ (w0 cy aB SB)) A res) args s 0 0 A) (F0 m 5 ls [])) : ∀ (x2 : Int32) (x3 : Int64) (x5 : Int32) (SI : Ob) (SB : Ob) (res : Int64) (H : Heap) (locs : List Loc) (ls : Array Slot), f1_together_44 k5 x2 x3 x5 SI SB = some res → GW D cy ad (w4 cy aI SI ++ (w0 cy aB SB)) A s H locs → lv_has ls 6 [(0, .ref (aI 0)), (1, .ref (aB 0)), (2, .int x2), (3, .long x3), (5, .int x5)] → W p l e rm1_together s m args below meth c H locs 0 0 (MQ below (QL D cy (w4 cy aI SI ++ (w0 cy aB SB)) A res) args s 0 0 A) (F0 m 44 ls []) := by
  intro x2 x3 x5 SI SB res H locs ls hf hW hl
  unfold f1_together_44 at hf
  obtain ⟨x5_1, ex5_1⟩ : ∃ y : Int32, y = x5 + 1 := ⟨_, rfl⟩
  have hf := lt_nm hf ex5_1
  refine lv_iinc (v := x5_1) (lv' := [(5, .int x5_1), (0, .ref (aI 0)), (1, .ref (aB 0)), (2, .int x2), (3, .long x3)]) hC.1 hC.2.1 dX1_together_44 hl (k := 4) rfl (by rw [ex5_1]; rfl) (by decide) rfl (fun ls hl => ?_)
  refine lv_goto (tgt := 5) hC.1 hC.2.1 dX1_together_47 (by decide) ?_
  exact hk5 _ _ _ _ _ _ _ _ _ hf hW (lv_sub hl [1, 2, 3, 4, 0] rfl)
set_option maxRecDepth 100000 in
set_option maxHeartbeats 4000000 in
theorem t1_together_5 (hC : Cx p s m args meth c cX1_together 6 wsX1_together RX1 (some .long)) : ∀ n : Nat, ∀ (x2 : Int32) (x3 : Int64) (x5 : Int32) (SI : Ob) (SB : Ob) (res : Int64) (H : Heap) (locs : List Loc) (ls : Array Slot), f1_together_5 n x2 x3 x5 SI SB = some res → GW D cy ad (w4 cy aI SI ++ (w0 cy aB SB)) A s H locs → lv_has ls 6 [(0, .ref (aI 0)), (1, .ref (aB 0)), (2, .int x2), (3, .long x3), (5, .int x5)] → W p l e rm1_together s m args below meth c H locs 0 0 (MQ below (QL D cy (w4 cy aI SI ++ (w0 cy aB SB)) A res) args s 0 0 A) (F0 m 5 ls []) := by
  intro n
  induction n with
  | zero =>
    intro _ _ _ _ _ _ _ _ _ hf _ _
    exact nomatch (show (none : Option (Int64)) = some _ from hf)
  | succ n ih =>
    intro x2 x3 x5 SI SB res H locs ls hf hW hl
    rw [f1_together_5] at hf
    refine lv_iload hC.1 hC.2.1 dX1_together_5 (lv_at hl 4 rfl) ?_
    refine lv_aload_n hC.1 hC.2.1 dX1_together_7 rfl (lv_at hl 0 rfl) ?_
    refine g_get hC hW hin1_together_4 0 rfl rfl 0 (by decide) 1 rfl rfl dX1_together_8 ?_
    refine lv_iconst (v := 4) hC.1 hC.2.1 dX1_together_11 (by decide) ?_
    refine lv_imul hC.1 hC.2.1 dX1_together_12 ?_
    refine lv_icmp_ge (tgt := 50) hC.1 hC.2.1 dX1_together_13 (by decide) (fun hc_1 => ?_) (fun hc_1 => ?_)
    · have hf := ite_t hf hc_1
      refine lv_lload_n hC.1 hC.2.1 dX1_together_50 rfl (lv_at hl 3 rfl) ?_
      obtain rfl := Option.some.inj hf
      exact g_lret hC hW dX1_together_51
    · have hf := ite_f hf hc_1
      refine lv_aload_n hC.1 hC.2.1 dX1_together_16 rfl (lv_at hl 1 rfl) ?_
      refine g_get hC hW hin1_together_0 12 rfl rfl 0 (by decide) 2 rfl rfl dX1_together_17 ?_
      refine lv_iload hC.1 hC.2.1 dX1_together_20 (lv_at hl 4 rfl) ?_
      refine lv_iushr (v := ush (SB.1 0) x5) hC.1 hC.2.1 dX1_together_22 rfl ?_
      refine lv_iload_n hC.1 hC.2.1 dX1_together_23 rfl (lv_at hl 2 rfl) ?_
      refine lv_iload hC.1 hC.2.1 dX1_together_24 (lv_at hl 4 rfl) ?_
      refine lv_iushr (v := ush x2 x5) hC.1 hC.2.1 dX1_together_26 rfl ?_
      refine lv_iand hC.1 hC.2.1 dX1_together_27 ?_
      refine lv_iconst (v := 1) hC.1 hC.2.1 dX1_together_28 (by decide) ?_
      refine lv_iand hC.1 hC.2.1 dX1_together_29 ?_
      refine lv_iconst (v := 1) hC.1 hC.2.1 dX1_together_30 (by decide) ?_
      refine lv_icmp_ne (tgt := 44) hC.1 hC.2.1 dX1_together_31 (by decide) (fun hc_2 => ?_) (fun hc_2 => ?_)
      · have hf := ite_f hf hc_2
        exact t1_together_44 hC ih  _ _ _ _ _ _ _ _ _ hf hW (lv_sub hl [0, 1, 2, 3, 4] rfl)
      · have hf := ite_t hf hc_2
        refine lv_lload_n hC.1 hC.2.1 dX1_together_34 rfl (lv_at hl 3 rfl) ?_
        refine lv_aload_n hC.1 hC.2.1 dX1_together_35 rfl (lv_at hl 0 rfl) ?_
        refine lv_aload_n hC.1 hC.2.1 dX1_together_36 rfl (lv_at hl 1 rfl) ?_
        refine lv_iload hC.1 hC.2.1 dX1_together_37 (lv_at hl 4 rfl) ?_
        obtain ⟨r_3, hg_4, hf⟩ := bd_of hf
        refine g_calllS (w' := w4 cy aI SI ++ (w0 cy aB SB)) hC hW (c1_weight l D cy ad aI aB hg_4) (va_cwS 3 hC.2.2.2.2.1 gX1_together_X1_weight rfl rfl rfl hdS1_weight ⟨Nat.le_of_ble_eq_true rfl, Nat.le_of_ble_eq_true rfl⟩) (Sub.all _ _) rfl hl.1 rfl (Nat.le_of_ble_eq_true rfl) dX1_together_39 ⟨Nat.zero_le _, Nat.zero_le _⟩ (fun H locs hW => ?_)
        refine lv_ladd hC.1 hC.2.1 dX1_together_42 ?_
        refine lv_topl (fun x3_5 ex3_5 => ?_)
        have hf := lt_nm hf ex3_5
        refine lv_lstore_n (lv' := [(3, .long x3_5), (0, .ref (aI 0)), (1, .ref (aB 0)), (2, .int x2), (5, .int x5)]) hC.1 hC.2.1 dX1_together_43 rfl hl (by decide) rfl (fun ls hl => ?_)
        exact t1_together_44 hC ih  _ _ _ _ _ _ _ _ _ hf hW (lv_sub hl [1, 2, 3, 0, 4] rfl)
set_option maxRecDepth 100000 in
set_option maxHeartbeats 4000000 in
theorem t1_together_0 (hC : Cx p s m args meth c cX1_together 6 wsX1_together RX1 (some .long)) : ∀ (x2 : Int32) (SI : Ob) (SB : Ob) (res : Int64) (H : Heap) (locs : List Loc) (ls : Array Slot), f1_together x2 SI SB = some res → GW D cy ad (w4 cy aI SI ++ (w0 cy aB SB)) A s H locs → lv_has ls 6 [(0, .ref (aI 0)), (1, .ref (aB 0)), (2, .int x2)] → W p l e rm1_together s m args below meth c H locs 0 0 (MQ below (QL D cy (w4 cy aI SI ++ (w0 cy aB SB)) A res) args s 0 0 A) (F0 m 0 ls []) := by
  intro x2 SI SB res H locs ls hf hW hl
  unfold f1_together at hf
  refine lv_lconst (v := 0) hC.1 hC.2.1 dX1_together_0 (by decide) ?_
  refine lv_lstore_n (lv' := [(3, .long 0), (0, .ref (aI 0)), (1, .ref (aB 0)), (2, .int x2)]) hC.1 hC.2.1 dX1_together_1 rfl hl (by decide) rfl (fun ls hl => ?_)
  refine lv_iconst (v := 0) hC.1 hC.2.1 dX1_together_2 (by decide) ?_
  refine lv_istore (lv' := [(5, .int 0), (3, .long 0), (0, .ref (aI 0)), (1, .ref (aB 0)), (2, .int x2)]) hC.1 hC.2.1 dX1_together_3 hl (by decide) rfl (fun ls hl => ?_)
  exact t1_together_5 hC _ _ _ _ _ _ _ _ _ _ hf hW (lv_sub hl [2, 3, 4, 1, 0] rfl)
set_option maxRecDepth 100000 in
set_option maxHeartbeats 4000000 in
theorem c1_together (l : Launch) (D : va_G) (cy : Nat → ClassId) (ad : Nat → Nat) (aI : Nat → Nat) (aB : Nat → Nat) {x2 : Int32} {SI : Ob} {SB : Ob} {res : Int64} (h : f1_together x2 SI SB = some res) : GCl l yX1_together wsX1_together rm1_together [.ref (aI 0), .ref (aB 0), .int x2] D cy ad (w4 cy aI SI ++ (w0 cy aB SB)) (w4 cy aI SI ++ (w0 cy aB SB)) res := fun sz => GC.start (own := RX1) (Qc := fun A => QL D cy (w4 cy aI SI ++ (w0 cy aB SB)) A res) sz (by decide) rfl rfl (Nat.le_of_ble_eq_true rfl) (fun p e s m below meth c A ls hC hW hl => t1_together_0 hC _ _ _ _ _ _ _ h hW (lv_sub hl [0, 1, 2] rfl))
abbrev rm1_mostLikely : Room := { frames := 2, cells := 0, slots := 0, locals := 52 }
theorem hdS1_mostLikely : (yX1_mostLikely.cls ≠ "java/lang/invoke/MethodHandle" ∧ yX1_mostLikely.cls ≠ "java/lang/invoke/VarHandle" ∧ (parseMethodDescriptor yX1_mostLikely.desc).map (fun d => d.parameters.length) = some 2) := by decide +kernel
theorem hin1_mostLikely_4 : ∀ x ∈ u_ws RX4 TX4 13, x ∈ wsX1_mostLikely := fun _ h => List.mem_cons_of_mem _ (List.mem_append_left _ (List.mem_append_right _ h))
set_option maxRecDepth 100000 in
set_option maxHeartbeats 4000000 in
theorem t1_mostLikely_44 (hC : Cx p s m args meth c cX1_mostLikely 8 wsX1_mostLikely RX1 (some .int)) {k8 : Int64 → Int32 → Int32 → Ob → Ob → Option (Int32)} (hk8 : ∀ (x2 : Int64) (x4 : Int32) (x5 : Int32) (SI : Ob) (SB : Ob) (res : Int32) (H : Heap) (locs : List Loc) (ls : Array Slot), k8 x2 x4 x5 SI SB = some res → GW D cy ad (w4 cy aI SI ++ (w0 cy aB SB)) A s H locs → lv_has ls 8 [(0, .ref (aI 0)), (1, .ref (aB 0)), (2, .long x2), (4, .int x4), (5, .int x5)] → W p l e rm1_mostLikely s m args below meth c H locs 0 0 (MQ below (QI D cy (w4 cy aI SI ++ (w0 cy aB SB)) A res) args s 0 0 A) (F0 m 8 ls [])) : ∀ (x2 : Int64) (x4 : Int32) (x5 : Int32) (SI : Ob) (SB : Ob) (res : Int32) (H : Heap) (locs : List Loc) (ls : Array Slot), f1_mostLikely_44 k8 x2 x4 x5 SI SB = some res → GW D cy ad (w4 cy aI SI ++ (w0 cy aB SB)) A s H locs → lv_has ls 8 [(0, .ref (aI 0)), (1, .ref (aB 0)), (2, .long x2), (4, .int x4), (5, .int x5)] → W p l e rm1_mostLikely s m args below meth c H locs 0 0 (MQ below (QI D cy (w4 cy aI SI ++ (w0 cy aB SB)) A res) args s 0 0 A) (F0 m 44 ls []) := by
  intro x2 x4 x5 SI SB res H locs ls hf hW hl
  unfold f1_mostLikely_44 at hf
  obtain ⟨x5_1, ex5_1⟩ : ∃ y : Int32, y = x5 + 1 := ⟨_, rfl⟩
  have hf := lt_nm hf ex5_1
  refine lv_iinc (v := x5_1) (lv' := [(5, .int x5_1), (0, .ref (aI 0)), (1, .ref (aB 0)), (2, .long x2), (4, .int x4)]) hC.1 hC.2.1 dX1_mostLikely_44 hl (k := 4) rfl (by rw [ex5_1]; rfl) (by decide) rfl (fun ls hl => ?_)
  refine lv_goto (tgt := 8) hC.1 hC.2.1 dX1_mostLikely_47 (by decide) ?_
  exact hk8 _ _ _ _ _ _ _ _ _ hf hW (lv_sub hl [1, 2, 3, 4, 0] rfl)
set_option maxRecDepth 100000 in
set_option maxHeartbeats 4000000 in
theorem t1_mostLikely_8 (hC : Cx p s m args meth c cX1_mostLikely 8 wsX1_mostLikely RX1 (some .int)) : ∀ n : Nat, ∀ (x2 : Int64) (x4 : Int32) (x5 : Int32) (SI : Ob) (SB : Ob) (res : Int32) (H : Heap) (locs : List Loc) (ls : Array Slot), f1_mostLikely_8 n x2 x4 x5 SI SB = some res → GW D cy ad (w4 cy aI SI ++ (w0 cy aB SB)) A s H locs → lv_has ls 8 [(0, .ref (aI 0)), (1, .ref (aB 0)), (2, .long x2), (4, .int x4), (5, .int x5)] → W p l e rm1_mostLikely s m args below meth c H locs 0 0 (MQ below (QI D cy (w4 cy aI SI ++ (w0 cy aB SB)) A res) args s 0 0 A) (F0 m 8 ls []) := by
  intro n
  induction n with
  | zero =>
    intro _ _ _ _ _ _ _ _ _ hf _ _
    exact nomatch (show (none : Option (Int32)) = some _ from hf)
  | succ n ih =>
    intro x2 x4 x5 SI SB res H locs ls hf hW hl
    rw [f1_mostLikely_8] at hf
    refine lv_iload hC.1 hC.2.1 dX1_mostLikely_8 (lv_at hl 4 rfl) ?_
    refine lv_aload_n hC.1 hC.2.1 dX1_mostLikely_10 rfl (lv_at hl 0 rfl) ?_
    refine g_get hC hW hin1_mostLikely_4 0 rfl rfl 0 (by decide) 1 rfl rfl dX1_mostLikely_11 ?_
    refine lv_icmp_ge (tgt := 50) hC.1 hC.2.1 dX1_mostLikely_14 (by decide) (fun hc_1 => ?_) (fun hc_1 => ?_)
    · have hf := ite_t hf hc_1
      refine lv_iload hC.1 hC.2.1 dX1_mostLikely_50 (lv_at hl 3 rfl) ?_
      obtain rfl := Option.some.inj hf
      exact g_iret hC hW dX1_mostLikely_52
    · have hf := ite_f hf hc_1
      refine lv_aload_n hC.1 hC.2.1 dX1_mostLikely_17 rfl (lv_at hl 0 rfl) ?_
      refine lv_aload_n hC.1 hC.2.1 dX1_mostLikely_18 rfl (lv_at hl 1 rfl) ?_
      refine lv_aload_n hC.1 hC.2.1 dX1_mostLikely_19 rfl (lv_at hl 0 rfl) ?_
      refine lv_iload hC.1 hC.2.1 dX1_mostLikely_20 (lv_at hl 4 rfl) ?_
      obtain ⟨r_2, hg_3, hf⟩ := bd_of hf
      refine g_calliV (w' := w4 cy aI SI ++ (w0 cy aB SB)) hC hW (c4_worldsOf l D cy ad aI hg_3) (cwV 1 hC.2.2.2.2.1 gX1_mostLikely_X4_worldsOf rfl rfl rfl hdV4_worldsOf ⟨Nat.le_of_ble_eq_true rfl, Nat.le_of_ble_eq_true rfl⟩) (⟨[0, 1, 2, 3, 4, 5, 6, 7, 8, 9, 10, 11], [12, 13, 14, 15, 16, 17], [6, 7, 8, 9, 10, 11, 12, 13, 14, 15, 16, 17, 0, 1, 2, 3, 4, 5], w0 cy aB SB, rfl, rfl, rfl, rfl, by decide, rfl, rfl⟩) 0 4 rfl rfl rfl rfl hl.1 rfl (Nat.le_of_ble_eq_true rfl) dX1_mostLikely_22 ⟨Nat.zero_le _, Nat.zero_le _⟩ (fun H locs hW => ?_)
      obtain ⟨r_4, hg_5, hf⟩ := bd_of hf
      refine g_calllS (w' := w4 cy aI SI ++ (w0 cy aB SB)) hC hW (c1_together l D cy ad aI aB hg_5) (va_cwS 3 hC.2.2.2.2.1 gX1_mostLikely_X1_together rfl rfl rfl hdS1_together ⟨Nat.le_of_ble_eq_true rfl, Nat.le_of_ble_eq_true rfl⟩) (Sub.all _ _) rfl hl.1 rfl (Nat.le_of_ble_eq_true rfl) dX1_mostLikely_25 ⟨Nat.zero_le _, Nat.zero_le _⟩ (fun H locs hW => ?_)
      refine lv_lstore (lv' := [(6, .long r_4), (0, .ref (aI 0)), (1, .ref (aB 0)), (2, .long x2), (4, .int x4), (5, .int x5)]) hC.1 hC.2.1 dX1_mostLikely_28 hl (by decide) rfl (fun ls hl => ?_)
      refine lv_lload hC.1 hC.2.1 dX1_mostLikely_30 (lv_at hl 0 rfl) ?_
      refine lv_lload_n hC.1 hC.2.1 dX1_mostLikely_32 rfl (lv_at hl 3 rfl) ?_
      refine W.lcmp hC.1 hC.2.1 dX1_mostLikely_33 ?_
      refine lv_if_le (tgt := 44) hC.1 hC.2.1 dX1_mostLikely_34 (by decide) (fun hc_6 => ?_) (fun hc_6 => ?_)
      · have hf := ite_t hf hc_6
        exact t1_mostLikely_44 hC ih  _ _ _ _ _ _ _ _ _ hf hW (lv_sub hl [1, 2, 3, 4, 5] rfl)
      · have hf := ite_f hf hc_6
        refine lv_lload hC.1 hC.2.1 dX1_mostLikely_37 (lv_at hl 0 rfl) ?_
        refine lv_lstore_n (lv' := [(2, .long r_4), (6, .long r_4), (0, .ref (aI 0)), (1, .ref (aB 0)), (4, .int x4), (5, .int x5)]) hC.1 hC.2.1 dX1_mostLikely_39 rfl hl (by decide) rfl (fun ls hl => ?_)
        refine lv_iload hC.1 hC.2.1 dX1_mostLikely_40 (lv_at hl 5 rfl) ?_
        refine lv_istore (lv' := [(4, .int x5), (2, .long r_4), (6, .long r_4), (0, .ref (aI 0)), (1, .ref (aB 0)), (5, .int x5)]) hC.1 hC.2.1 dX1_mostLikely_42 hl (by decide) rfl (fun ls hl => ?_)
        exact t1_mostLikely_44 hC ih  _ _ _ _ _ _ _ _ _ hf hW (lv_sub hl [3, 4, 1, 0, 5] rfl)
set_option maxRecDepth 100000 in
set_option maxHeartbeats 4000000 in
theorem t1_mostLikely_0 (hC : Cx p s m args meth c cX1_mostLikely 8 wsX1_mostLikely RX1 (some .int)) : ∀ (SI : Ob) (SB : Ob) (res : Int32) (H : Heap) (locs : List Loc) (ls : Array Slot), f1_mostLikely SI SB = some res → GW D cy ad (w4 cy aI SI ++ (w0 cy aB SB)) A s H locs → lv_has ls 8 [(0, .ref (aI 0)), (1, .ref (aB 0))] → W p l e rm1_mostLikely s m args below meth c H locs 0 0 (MQ below (QI D cy (w4 cy aI SI ++ (w0 cy aB SB)) A res) args s 0 0 A) (F0 m 0 ls []) := by
  intro SI SB res H locs ls hf hW hl
  unfold f1_mostLikely at hf
  refine lv_lconst (v := 0) hC.1 hC.2.1 dX1_mostLikely_0 (by decide) ?_
  refine lv_lstore_n (lv' := [(2, .long 0), (0, .ref (aI 0)), (1, .ref (aB 0))]) hC.1 hC.2.1 dX1_mostLikely_1 rfl hl (by decide) rfl (fun ls hl => ?_)
  refine lv_iconst (v := (-1)) hC.1 hC.2.1 dX1_mostLikely_2 (by decide) ?_
  refine lv_istore (lv' := [(4, .int (-1)), (2, .long 0), (0, .ref (aI 0)), (1, .ref (aB 0))]) hC.1 hC.2.1 dX1_mostLikely_3 hl (by decide) rfl (fun ls hl => ?_)
  refine lv_iconst (v := 0) hC.1 hC.2.1 dX1_mostLikely_5 (by decide) ?_
  refine lv_istore (lv' := [(5, .int 0), (4, .int (-1)), (2, .long 0), (0, .ref (aI 0)), (1, .ref (aB 0))]) hC.1 hC.2.1 dX1_mostLikely_6 hl (by decide) rfl (fun ls hl => ?_)
  exact t1_mostLikely_8 hC _ _ _ _ _ _ _ _ _ _ hf hW (lv_sub hl [3, 4, 2, 1, 0] rfl)
set_option maxRecDepth 100000 in
set_option maxHeartbeats 4000000 in
theorem c1_mostLikely (l : Launch) (D : va_G) (cy : Nat → ClassId) (ad : Nat → Nat) (aI : Nat → Nat) (aB : Nat → Nat) {SI : Ob} {SB : Ob} {res : Int32} (h : f1_mostLikely SI SB = some res) : GCi l yX1_mostLikely wsX1_mostLikely rm1_mostLikely [.ref (aI 0), .ref (aB 0)] D cy ad (w4 cy aI SI ++ (w0 cy aB SB)) (w4 cy aI SI ++ (w0 cy aB SB)) res := fun sz => GC.start (own := RX1) (Qc := fun A => QI D cy (w4 cy aI SI ++ (w0 cy aB SB)) A res) sz (by decide) rfl rfl (Nat.le_of_ble_eq_true rfl) (fun p e s m below meth c A ls hC hW hl => t1_mostLikely_0 hC _ _ _ _ _ _ h hW (lv_sub hl [0, 1] rfl))
abbrev rm1_share : Room := { frames := 2, cells := 0, slots := 0, locals := 52 }
theorem hdS1_share : (yX1_share.cls ≠ "java/lang/invoke/MethodHandle" ∧ yX1_share.cls ≠ "java/lang/invoke/VarHandle" ∧ (parseMethodDescriptor yX1_share.desc).map (fun d => d.parameters.length) = some 3) := by decide +kernel
set_option maxRecDepth 100000 in
set_option maxHeartbeats 4000000 in
theorem t1_share_37 (hC : Cx p s m args meth c cX1_share 5 wsX1_share RX1 (some .int)) : ∀ (z0 : Int32) (SI : Ob) (SB : Ob) (res : Int32) (H : Heap) (locs : List Loc) (ls : Array Slot), f1_share_37 z0 SI SB = some res → GW D cy ad (w4 cy aI SI ++ (w0 cy aB SB)) A s H locs → lv_has ls 5 [] → W p l e rm1_share s m args below meth c H locs 0 0 (MQ below (QI D cy (w4 cy aI SI ++ (w0 cy aB SB)) A res) args s 0 0 A) (F0 m 37 ls [.int z0]) := by
  intro z0 SI SB res H locs ls hf hW hl
  unfold f1_share_37 at hf
  obtain rfl := Option.some.inj hf
  exact g_iret hC hW dX1_share_37
set_option maxRecDepth 100000 in
set_option maxHeartbeats 4000000 in
theorem t1_share_0 (hC : Cx p s m args meth c cX1_share 5 wsX1_share RX1 (some .int)) : ∀ (x2 : Int32) (SI : Ob) (SB : Ob) (res : Int32) (H : Heap) (locs : List Loc) (ls : Array Slot), f1_share x2 SI SB = some res → GW D cy ad (w4 cy aI SI ++ (w0 cy aB SB)) A s H locs → lv_has ls 5 [(0, .ref (aI 0)), (1, .ref (aB 0)), (2, .int x2)] → W p l e rm1_share s m args below meth c H locs 0 0 (MQ below (QI D cy (w4 cy aI SI ++ (w0 cy aB SB)) A res) args s 0 0 A) (F0 m 0 ls []) := by
  intro x2 SI SB res H locs ls hf hW hl
  unfold f1_share at hf
  refine lv_aload_n hC.1 hC.2.1 dX1_share_0 rfl (lv_at hl 0 rfl) ?_
  refine lv_aload_n hC.1 hC.2.1 dX1_share_1 rfl (lv_at hl 1 rfl) ?_
  refine lv_aload_n hC.1 hC.2.1 dX1_share_2 rfl (lv_at hl 0 rfl) ?_
  obtain ⟨r_1, hg_2, hf⟩ := bd_of hf
  refine g_calliV (w' := w4 cy aI SI ++ (w0 cy aB SB)) hC hW (c4_all l D cy ad aI hg_2) (cwV 0 hC.2.2.2.2.1 gX1_share_X4_all rfl rfl rfl hdV4_all ⟨Nat.le_of_ble_eq_true rfl, Nat.le_of_ble_eq_true rfl⟩) (⟨[0, 1, 2, 3, 4, 5, 6, 7, 8, 9, 10, 11], [12, 13, 14, 15, 16, 17], [6, 7, 8, 9, 10, 11, 12, 13, 14, 15, 16, 17, 0, 1, 2, 3, 4, 5], w0 cy aB SB, rfl, rfl, rfl, rfl, by decide, rfl, rfl⟩) 0 4 rfl rfl rfl rfl hl.1 rfl (Nat.le_of_ble_eq_true rfl) dX1_share_3 ⟨Nat.zero_le _, Nat.zero_le _⟩ (fun H locs hW => ?_)
  obtain ⟨r_3, hg_4, hf⟩ := bd_of hf
  refine g_calllS (w' := w4 cy aI SI ++ (w0 cy aB SB)) hC hW (c1_together l D cy ad aI aB hg_4) (va_cwS 3 hC.2.2.2.2.1 gX1_share_X1_together rfl rfl rfl hdS1_together ⟨Nat.le_of_ble_eq_true rfl, Nat.le_of_ble_eq_true rfl⟩) (Sub.all _ _) rfl hl.1 rfl (Nat.le_of_ble_eq_true rfl) dX1_share_6 ⟨Nat.zero_le _, Nat.zero_le _⟩ (fun H locs hW => ?_)
  refine lv_lstore_n (lv' := [(3, .long r_3), (0, .ref (aI 0)), (1, .ref (aB 0)), (2, .int x2)]) hC.1 hC.2.1 dX1_share_9 rfl hl (by decide) rfl (fun ls hl => ?_)
  refine lv_lload_n hC.1 hC.2.1 dX1_share_10 rfl (lv_at hl 0 rfl) ?_
  refine lv_lconst (v := 0) hC.1 hC.2.1 dX1_share_11 (by decide) ?_
  refine W.lcmp hC.1 hC.2.1 dX1_share_12 ?_
  refine lv_if_ne (tgt := 20) hC.1 hC.2.1 dX1_share_13 (by decide) (fun hc_5 => ?_) (fun hc_5 => ?_)
  · have hf := ite_f hf hc_5
    refine lv_aload_n hC.1 hC.2.1 dX1_share_20 rfl (lv_at hl 1 rfl) ?_
    refine lv_aload_n hC.1 hC.2.1 dX1_share_21 rfl (lv_at hl 2 rfl) ?_
    refine lv_aload_n hC.1 hC.2.1 dX1_share_22 rfl (lv_at hl 1 rfl) ?_
    refine lv_iload_n hC.1 hC.2.1 dX1_share_23 rfl (lv_at hl 3 rfl) ?_
    obtain ⟨r_6, hg_7, hf⟩ := bd_of hf
    refine g_calliV (w' := w4 cy aI SI ++ (w0 cy aB SB)) hC hW (c4_worldsOf l D cy ad aI hg_7) (cwV 1 hC.2.2.2.2.1 gX1_share_X4_worldsOf rfl rfl rfl hdV4_worldsOf ⟨Nat.le_of_ble_eq_true rfl, Nat.le_of_ble_eq_true rfl⟩) (⟨[0, 1, 2, 3, 4, 5, 6, 7, 8, 9, 10, 11], [12, 13, 14, 15, 16, 17], [6, 7, 8, 9, 10, 11, 12, 13, 14, 15, 16, 17, 0, 1, 2, 3, 4, 5], w0 cy aB SB, rfl, rfl, rfl, rfl, by decide, rfl, rfl⟩) 0 4 rfl rfl rfl rfl hl.1 rfl (Nat.le_of_ble_eq_true rfl) dX1_share_24 ⟨Nat.zero_le _, Nat.zero_le _⟩ (fun H locs hW => ?_)
    obtain ⟨r_8, hg_9, hf⟩ := bd_of hf
    refine g_calllS (w' := w4 cy aI SI ++ (w0 cy aB SB)) hC hW (c1_together l D cy ad aI aB hg_9) (va_cwS 3 hC.2.2.2.2.1 gX1_share_X1_together rfl rfl rfl hdS1_together ⟨Nat.le_of_ble_eq_true rfl, Nat.le_of_ble_eq_true rfl⟩) (Sub.all _ _) rfl hl.1 rfl (Nat.le_of_ble_eq_true rfl) dX1_share_27 ⟨Nat.zero_le _, Nat.zero_le _⟩ (fun H locs hW => ?_)
    refine lv_ldc2 (v := 1000000) hC.1 hC.2.1 hC.2.2.2.1 (hC.2.2.2.2.1 _ (List.mem_of_getElem? (i := 1) rfl)) dX1_share_30 ?_
    refine lv_lmul hC.1 hC.2.1 dX1_share_33 ?_
    refine lv_lload_n hC.1 hC.2.1 dX1_share_34 rfl (lv_at hl 0 rfl) ?_
    obtain ⟨hz_10, hf⟩ := ck_of hf
    refine lv_ldiv hC.1 hC.2.1 dX1_share_35 (nzl_of hz_10) ?_
    refine lv_l2i (v := Int64.toInt32 ((r_8 * 1000000) / r_3)) hC.1 hC.2.1 dX1_share_36 rfl ?_
    exact t1_share_37 hC  _ _ _ _ _ _ _ hf hW (lv_sub hl [] rfl)
  · have hf := ite_t hf hc_5
    refine lv_iconst (v := (-1)) hC.1 hC.2.1 dX1_share_16 (by decide) ?_
    refine lv_goto (tgt := 37) hC.1 hC.2.1 dX1_share_17 (by decide) ?_
    exact t1_share_37 hC  _ _ _ _ _ _ _ hf hW (lv_sub hl [] rfl)
set_option maxRecDepth 100000 in
set_option maxHeartbeats 4000000 in
theorem c1_share (l : Launch) (D : va_G) (cy : Nat → ClassId) (ad : Nat → Nat) (aI : Nat → Nat) (aB : Nat → Nat) {x2 : Int32} {SI : Ob} {SB : Ob} {res : Int32} (h : f1_share x2 SI SB = some res) : GCi l yX1_share wsX1_share rm1_share [.ref (aI 0), .ref (aB 0), .int x2] D cy ad (w4 cy aI SI ++ (w0 cy aB SB)) (w4 cy aI SI ++ (w0 cy aB SB)) res := fun sz => GC.start (own := RX1) (Qc := fun A => QI D cy (w4 cy aI SI ++ (w0 cy aB SB)) A res) sz (by decide) rfl rfl (Nat.le_of_ble_eq_true rfl) (fun p e s m below meth c A ls hC hW hl => t1_share_0 hC _ _ _ _ _ _ _ h hW (lv_sub hl [0, 1, 2] rfl))
abbrev rm1_wrongly : Room := { frames := 1, cells := 0, slots := 0, locals := 21 }
theorem hdS1_wrongly : (yX1_wrongly.cls ≠ "java/lang/invoke/MethodHandle" ∧ yX1_wrongly.cls ≠ "java/lang/invoke/VarHandle" ∧ (parseMethodDescriptor yX1_wrongly.desc).map (fun d => d.parameters.length) = some 5) := by decide +kernel
theorem hin1_wrongly_4 : ∀ x ∈ u_ws RX4 TX4 13, x ∈ wsX1_wrongly := fun _ h => List.mem_cons_of_mem _ (List.mem_append_right _ h)
set_option maxRecDepth 100000 in
set_option maxHeartbeats 4000000 in
theorem t1_wrongly_133 (hC : Cx p s m args meth c cX1_wrongly 13 wsX1_wrongly RX1 (some .int)) {k33 : Int32 → Int32 → Int32 → Int64 → Int64 → Int32 → Ob → Option (Int32)} (hk33 : ∀ (x3 : Int32) (x4 : Int32) (x5 : Int32) (x6 : Int64) (x8 : Int64) (x10 : Int32) (SI : Ob) (res : Int32) (H : Heap) (locs : List Loc) (ls : Array Slot), k33 x3 x4 x5 x6 x8 x10 SI = some res → GW D cy ad (w4 cy aI SI) A s H locs → lv_has ls 13 [(0, .ref (aI 0)), (3, .int x3), (4, .int x4), (5, .int x5), (6, .long x6), (8, .long x8), (10, .int x10)] → W p l e rm1_wrongly s m args below meth c H locs 0 0 (MQ below (QI D cy (w4 cy aI SI) A res) args s 0 0 A) (F0 m 33 ls [])) : ∀ (x3 : Int32) (x4 : Int32) (x5 : Int32) (x6 : Int64) (x8 : Int64) (x10 : Int32) (SI : Ob) (res : Int32) (H : Heap) (locs : List Loc) (ls : Array Slot), f1_wrongly_133 k33 x3 x4 x5 x6 x8 x10 SI = some res → GW D cy ad (w4 cy aI SI) A s H locs → lv_has ls 13 [(0, .ref (aI 0)), (3, .int x3), (4, .int x4), (5, .int x5), (6, .long x6), (8, .long x8), (10, .int x10)] → W p l e rm1_wrongly s m args below meth c H locs 0 0 (MQ below (QI D cy (w4 cy aI SI) A res) args s 0 0 A) (F0 m 133 ls []) := by
  intro x3 x4 x5 x6 x8 x10 SI res H locs ls hf hW hl
  unfold f1_wrongly_133 at hf
  obtain ⟨x10_1, ex10_1⟩ : ∃ y : Int32, y = x10 + 1 := ⟨_, rfl⟩
  have hf := lt_nm hf ex10_1
  refine lv_iinc (v := x10_1) (lv' := [(10, .int x10_1), (0, .ref (aI 0)), (3, .int x3), (4, .int x4), (5, .int x5), (6, .long x6), (8, .long x8)]) hC.1 hC.2.1 dX1_wrongly_133 hl (k := 6) rfl (by rw [ex10_1]; rfl) (by decide) rfl (fun ls hl => ?_)
  refine lv_goto (tgt := 33) hC.1 hC.2.1 dX1_wrongly_136 (by decide) ?_
  exact hk33 _ _ _ _ _ _ _ _ _ _ _ hf hW (lv_sub hl [1, 2, 3, 4, 5, 6, 0] rfl)
set_option maxRecDepth 100000 in
set_option maxHeartbeats 4000000 in
theorem t1_wrongly_117 (hC : Cx p s m args meth c cX1_wrongly 13 wsX1_wrongly RX1 (some .int)) {k33 : Int32 → Int32 → Int32 → Int64 → Int64 → Int32 → Ob → Option (Int32)} (hk33 : ∀ (x3 : Int32) (x4 : Int32) (x5 : Int32) (x6 : Int64) (x8 : Int64) (x10 : Int32) (SI : Ob) (res : Int32) (H : Heap) (locs : List Loc) (ls : Array Slot), k33 x3 x4 x5 x6 x8 x10 SI = some res → GW D cy ad (w4 cy aI SI) A s H locs → lv_has ls 13 [(0, .ref (aI 0)), (3, .int x3), (4, .int x4), (5, .int x5), (6, .long x6), (8, .long x8), (10, .int x10)] → W p l e rm1_wrongly s m args below meth c H locs 0 0 (MQ below (QI D cy (w4 cy aI SI) A res) args s 0 0 A) (F0 m 33 ls [])) : ∀ (x3 : Int32) (x4 : Int32) (x5 : Int32) (x8 : Int64) (x10 : Int32) (x12 : Int32) (z0 : Int64) (z1 : Int32) (z2 : Int32) (SI : Ob) (res : Int32) (H : Heap) (locs : List Loc) (ls : Array Slot), f1_wrongly_117 k33 x3 x4 x5 x8 x10 x12 z0 z1 z2 SI = some res → GW D cy ad (w4 cy aI SI) A s H locs → lv_has ls 13 [(0, .ref (aI 0)), (3, .int x3), (4, .int x4), (5, .int x5), (8, .long x8), (10, .int x10), (12, .int x12)] → W p l e rm1_wrongly s m args below meth c H locs 0 0 (MQ below (QI D cy (w4 cy aI SI) A res) args s 0 0 A) (F0 m 117 ls [.int z2, .int z1, .long z0]) := by
  intro x3 x4 x5 x8 x10 x12 z0 z1 z2 SI res H locs ls hf hW hl
  unfold f1_wrongly_117 at hf
  refine lv_imul hC.1 hC.2.1 dX1_wrongly_117 ?_
  refine lv_i2l (v := Int32.toInt64 (z1 * z2)) hC.1 hC.2.1 dX1_wrongly_118 rfl ?_
  refine lv_ladd hC.1 hC.2.1 dX1_wrongly_119 ?_
  refine lv_topl (fun x6_1 ex6_1 => ?_)
  have hf := lt_nm hf ex6_1
  refine lv_lstore (lv' := [(6, .long x6_1), (0, .ref (aI 0)), (3, .int x3), (4, .int x4), (5, .int x5), (8, .long x8), (10, .int x10), (12, .int x12)]) hC.1 hC.2.1 dX1_wrongly_120 hl (by decide) rfl (fun ls hl => ?_)
  refine lv_lload hC.1 hC.2.1 dX1_wrongly_122 (lv_at hl 5 rfl) ?_
  refine lv_iload hC.1 hC.2.1 dX1_wrongly_124 (lv_at hl 7 rfl) ?_
  refine lv_bipush (v := 10) hC.1 hC.2.1 dX1_wrongly_126 (by decide) ?_
  refine lv_imul hC.1 hC.2.1 dX1_wrongly_128 ?_
  refine lv_i2l (v := Int32.toInt64 (x12 * 10)) hC.1 hC.2.1 dX1_wrongly_129 rfl ?_
  refine lv_ladd hC.1 hC.2.1 dX1_wrongly_130 ?_
  refine lv_topl (fun x8_2 ex8_2 => ?_)
  have hf := lt_nm hf ex8_2
  refine lv_lstore (lv' := [(8, .long x8_2), (6, .long x6_1), (0, .ref (aI 0)), (3, .int x3), (4, .int x4), (5, .int x5), (10, .int x10), (12, .int x12)]) hC.1 hC.2.1 dX1_wrongly_131 hl (by decide) rfl (fun ls hl => ?_)
  exact t1_wrongly_133 hC hk33  _ _ _ _ _ _ _ _ _ _ _ hf hW (lv_sub hl [2, 3, 4, 5, 1, 0, 6] rfl)
set_option maxRecDepth 100000 in
set_option maxHeartbeats 4000000 in
theorem t1_wrongly_75 (hC : Cx p s m args meth c cX1_wrongly 13 wsX1_wrongly RX1 (some .int)) {k33 : Int32 → Int32 → Int32 → Int64 → Int64 → Int32 → Ob → Option (Int32)} (hk33 : ∀ (x3 : Int32) (x4 : Int32) (x5 : Int32) (x6 : Int64) (x8 : Int64) (x10 : Int32) (SI : Ob) (res : Int32) (H : Heap) (locs : List Loc) (ls : Array Slot), k33 x3 x4 x5 x6 x8 x10 SI = some res → GW D cy ad (w4 cy aI SI) A s H locs → lv_has ls 13 [(0, .ref (aI 0)), (3, .int x3), (4, .int x4), (5, .int x5), (6, .long x6), (8, .long x8), (10, .int x10)] → W p l e rm1_wrongly s m args below meth c H locs 0 0 (MQ below (QI D cy (w4 cy aI SI) A res) args s 0 0 A) (F0 m 33 ls [])) : ∀ (x3 : Int32) (x4 : Int32) (x5 : Int32) (x6 : Int64) (x8 : Int64) (x10 : Int32) (z0 : Int32) (SI : Ob) (res : Int32) (H : Heap) (locs : List Loc) (ls : Array Slot), f1_wrongly_75 k33 x3 x4 x5 x6 x8 x10 z0 SI = some res → GW D cy ad (w4 cy aI SI) A s H locs → lv_has ls 13 [(0, .ref (aI 0)), (3, .int x3), (4, .int x4), (5, .int x5), (6, .long x6), (8, .long x8), (10, .int x10)] → W p l e rm1_wrongly s m args below meth c H locs 0 0 (MQ below (QI D cy (w4 cy aI SI) A res) args s 0 0 A) (F0 m 75 ls [.int z0]) := by
  intro x3 x4 x5 x6 x8 x10 z0 SI res H locs ls hf hW hl
  unfold f1_wrongly_75 at hf
  refine lv_istore (lv' := [(11, .int z0), (0, .ref (aI 0)), (3, .int x3), (4, .int x4), (5, .int x5), (6, .long x6), (8, .long x8), (10, .int x10)]) hC.1 hC.2.1 dX1_wrongly_75 hl (by decide) rfl (fun ls hl => ?_)
  refine lv_aload_n hC.1 hC.2.1 dX1_wrongly_77 rfl (lv_at hl 1 rfl) ?_
  refine g_get hC hW hin1_wrongly_4 0 rfl rfl 4 (by decide) 3 rfl rfl dX1_wrongly_78 ?_
  refine lv_iload hC.1 hC.2.1 dX1_wrongly_81 (lv_at hl 7 rfl) ?_
  refine lv_iconst (v := 4) hC.1 hC.2.1 dX1_wrongly_83 (by decide) ?_
  obtain ⟨hz_1, hf⟩ := ck_of hf
  refine lv_idiv hC.1 hC.2.1 dX1_wrongly_84 (nz_of hz_1) ?_
  obtain ⟨hi_2, hf⟩ := ck_of hf
  refine g_iald hC hW 4 rfl hi_2 dX1_wrongly_85 ?_
  refine lv_topi (fun x12_3 ex12_3 => ?_)
  have hf := lt_nm hf ex12_3
  refine lv_istore (lv' := [(12, .int x12_3), (11, .int z0), (0, .ref (aI 0)), (3, .int x3), (4, .int x4), (5, .int x5), (6, .long x6), (8, .long x8), (10, .int x10)]) hC.1 hC.2.1 dX1_wrongly_86 hl (by decide) rfl (fun ls hl => ?_)
  refine lv_lload hC.1 hC.2.1 dX1_wrongly_88 (lv_at hl 6 rfl) ?_
  refine lv_iload hC.1 hC.2.1 dX1_wrongly_90 (lv_at hl 0 rfl) ?_
  refine lv_iload hC.1 hC.2.1 dX1_wrongly_92 (lv_at hl 1 rfl) ?_
  refine lv_iload hC.1 hC.2.1 dX1_wrongly_94 (lv_at hl 4 rfl) ?_
  refine lv_icmp_ne (tgt := 108) hC.1 hC.2.1 dX1_wrongly_96 (by decide) (fun hc_4 => ?_) (fun hc_4 => ?_)
  · have hf := ite_f hf hc_4
    refine lv_bipush (v := 10) hC.1 hC.2.1 dX1_wrongly_108 (by decide) ?_
    refine lv_aload_n hC.1 hC.2.1 dX1_wrongly_110 rfl (lv_at hl 2 rfl) ?_
    refine g_get hC hW hin1_wrongly_4 0 rfl rfl 10 (by decide) 4 rfl rfl dX1_wrongly_111 ?_
    refine lv_iload_n hC.1 hC.2.1 dX1_wrongly_114 rfl (lv_at hl 3 rfl) ?_
    obtain ⟨hi_5, hf⟩ := ck_of hf
    refine g_iald hC hW 9 rfl hi_5 dX1_wrongly_115 ?_
    refine lv_isub hC.1 hC.2.1 dX1_wrongly_116 ?_
    exact t1_wrongly_117 hC hk33  _ _ _ _ _ _ _ _ _ _ _ _ _ _ hf hW (lv_sub hl [2, 3, 4, 5, 7, 8, 0] rfl)
  · have hf := ite_t hf hc_4
    refine lv_aload_n hC.1 hC.2.1 dX1_wrongly_99 rfl (lv_at hl 2 rfl) ?_
    refine g_get hC hW hin1_wrongly_4 0 rfl rfl 10 (by decide) 4 rfl rfl dX1_wrongly_100 ?_
    refine lv_iload_n hC.1 hC.2.1 dX1_wrongly_103 rfl (lv_at hl 3 rfl) ?_
    obtain ⟨hi_6, hf⟩ := ck_of hf
    refine g_iald hC hW 9 rfl hi_6 dX1_wrongly_104 ?_
    refine lv_goto (tgt := 117) hC.1 hC.2.1 dX1_wrongly_105 (by decide) ?_
    exact t1_wrongly_117 hC hk33  _ _ _ _ _ _ _ _ _ _ _ _ _ _ hf hW (lv_sub hl [2, 3, 4, 5, 7, 8, 0] rfl)
set_option maxRecDepth 100000 in
set_option maxHeartbeats 4000000 in
theorem t1_wrongly_160 (hC : Cx p s m args meth c cX1_wrongly 13 wsX1_wrongly RX1 (some .int)) : ∀ (z0 : Int32) (SI : Ob) (res : Int32) (H : Heap) (locs : List Loc) (ls : Array Slot), f1_wrongly_160 z0 SI = some res → GW D cy ad (w4 cy aI SI) A s H locs → lv_has ls 13 [] → W p l e rm1_wrongly s m args below meth c H locs 0 0 (MQ below (QI D cy (w4 cy aI SI) A res) args s 0 0 A) (F0 m 160 ls [.int z0]) := by
  intro z0 SI res H locs ls hf hW hl
  unfold f1_wrongly_160 at hf
  obtain rfl := Option.some.inj hf
  exact g_iret hC hW dX1_wrongly_160
set_option maxRecDepth 100000 in
set_option maxHeartbeats 4000000 in
theorem t1_wrongly_33 (hC : Cx p s m args meth c cX1_wrongly 13 wsX1_wrongly RX1 (some .int)) : ∀ n : Nat, ∀ (x3 : Int32) (x4 : Int32) (x5 : Int32) (x6 : Int64) (x8 : Int64) (x10 : Int32) (SI : Ob) (res : Int32) (H : Heap) (locs : List Loc) (ls : Array Slot), f1_wrongly_33 n x3 x4 x5 x6 x8 x10 SI = some res → GW D cy ad (w4 cy aI SI) A s H locs → lv_has ls 13 [(0, .ref (aI 0)), (3, .int x3), (4, .int x4), (5, .int x5), (6, .long x6), (8, .long x8), (10, .int x10)] → W p l e rm1_wrongly s m args below meth c H locs 0 0 (MQ below (QI D cy (w4 cy aI SI) A res) args s 0 0 A) (F0 m 33 ls []) := by
  intro n
  induction n with
  | zero =>
    intro _ _ _ _ _ _ _ _ _ _ _ hf _ _
    exact nomatch (show (none : Option (Int32)) = some _ from hf)
  | succ n ih =>
    intro x3 x4 x5 x6 x8 x10 SI res H locs ls hf hW hl
    rw [f1_wrongly_33] at hf
    refine lv_iload hC.1 hC.2.1 dX1_wrongly_33 (lv_at hl 6 rfl) ?_
    refine lv_aload_n hC.1 hC.2.1 dX1_wrongly_35 rfl (lv_at hl 0 rfl) ?_
    refine g_get hC hW hin1_wrongly_4 0 rfl rfl 0 (by decide) 1 rfl rfl dX1_wrongly_36 ?_
    refine lv_iconst (v := 4) hC.1 hC.2.1 dX1_wrongly_39 (by decide) ?_
    refine lv_imul hC.1 hC.2.1 dX1_wrongly_40 ?_
    refine lv_icmp_ge (tgt := 139) hC.1 hC.2.1 dX1_wrongly_41 (by decide) (fun hc_1 => ?_) (fun hc_1 => ?_)
    · have hf := ite_t hf hc_1
      refine lv_lload hC.1 hC.2.1 dX1_wrongly_139 (lv_at hl 5 rfl) ?_
      refine lv_lconst (v := 0) hC.1 hC.2.1 dX1_wrongly_141 (by decide) ?_
      refine W.lcmp hC.1 hC.2.1 dX1_wrongly_142 ?_
      refine lv_if_ne (tgt := 150) hC.1 hC.2.1 dX1_wrongly_143 (by decide) (fun hc_2 => ?_) (fun hc_2 => ?_)
      · have hf := ite_f hf hc_2
        refine lv_lload hC.1 hC.2.1 dX1_wrongly_150 (lv_at hl 4 rfl) ?_
        refine lv_ldc2 (v := 1000000) hC.1 hC.2.1 hC.2.2.2.1 (hC.2.2.2.2.1 _ (List.mem_of_getElem? (i := 5) rfl)) dX1_wrongly_152 ?_
        refine lv_lmul hC.1 hC.2.1 dX1_wrongly_155 ?_
        refine lv_lload hC.1 hC.2.1 dX1_wrongly_156 (lv_at hl 5 rfl) ?_
        obtain ⟨hz_3, hf⟩ := ck_of hf
        refine lv_ldiv hC.1 hC.2.1 dX1_wrongly_158 (nzl_of hz_3) ?_
        refine lv_l2i (v := Int64.toInt32 ((x6 * 1000000) / x8)) hC.1 hC.2.1 dX1_wrongly_159 rfl ?_
        exact t1_wrongly_160 hC  _ _ _ _ _ _ hf hW (lv_sub hl [] rfl)
      · have hf := ite_t hf hc_2
        refine lv_iconst (v := (-1)) hC.1 hC.2.1 dX1_wrongly_146 (by decide) ?_
        refine lv_goto (tgt := 160) hC.1 hC.2.1 dX1_wrongly_147 (by decide) ?_
        exact t1_wrongly_160 hC  _ _ _ _ _ _ hf hW (lv_sub hl [] rfl)
    · have hf := ite_f hf hc_1
      refine lv_iload hC.1 hC.2.1 dX1_wrongly_44 (lv_at hl 3 rfl) ?_
      refine lv_iload hC.1 hC.2.1 dX1_wrongly_46 (lv_at hl 6 rfl) ?_
      refine lv_iushr (v := ush x5 x10) hC.1 hC.2.1 dX1_wrongly_48 rfl ?_
      refine lv_iconst (v := 1) hC.1 hC.2.1 dX1_wrongly_49 (by decide) ?_
      refine lv_iand hC.1 hC.2.1 dX1_wrongly_50 ?_
      refine lv_iconst (v := 1) hC.1 hC.2.1 dX1_wrongly_51 (by decide) ?_
      refine lv_icmp_ne (tgt := 133) hC.1 hC.2.1 dX1_wrongly_52 (by decide) (fun hc_4 => ?_) (fun hc_4 => ?_)
      · have hf := ite_f hf hc_4
        exact t1_wrongly_133 hC ih  _ _ _ _ _ _ _ _ _ _ _ hf hW (lv_sub hl [0, 1, 2, 3, 4, 5, 6] rfl)
      · have hf := ite_t hf hc_4
        refine lv_aload_n hC.1 hC.2.1 dX1_wrongly_55 rfl (lv_at hl 0 rfl) ?_
        refine g_get hC hW hin1_wrongly_4 0 rfl rfl 12 (by decide) 2 rfl rfl dX1_wrongly_56 ?_
        refine lv_iload hC.1 hC.2.1 dX1_wrongly_59 (lv_at hl 6 rfl) ?_
        obtain ⟨hi_5, hf⟩ := ck_of hf
        refine g_iald hC hW 11 rfl hi_5 dX1_wrongly_61 ?_
        refine lv_iload_n hC.1 hC.2.1 dX1_wrongly_62 rfl (lv_at hl 1 rfl) ?_
        refine lv_iushr (v := ush (SI.2.2.1 12 (Int32.toNatClampNeg x10)) x3) hC.1 hC.2.1 dX1_wrongly_63 rfl ?_
        refine lv_iconst (v := 1) hC.1 hC.2.1 dX1_wrongly_64 (by decide) ?_
        refine lv_iand hC.1 hC.2.1 dX1_wrongly_65 ?_
        refine lv_iconst (v := 1) hC.1 hC.2.1 dX1_wrongly_66 (by decide) ?_
        refine lv_icmp_ne (tgt := 74) hC.1 hC.2.1 dX1_wrongly_67 (by decide) (fun hc_6 => ?_) (fun hc_6 => ?_)
        · have hf := ite_f hf hc_6
          refine lv_iconst (v := 0) hC.1 hC.2.1 dX1_wrongly_74 (by decide) ?_
          exact t1_wrongly_75 hC ih  _ _ _ _ _ _ _ _ _ _ _ _ hf hW (lv_sub hl [0, 1, 2, 3, 4, 5, 6] rfl)
        · have hf := ite_t hf hc_6
          refine lv_iconst (v := 1) hC.1 hC.2.1 dX1_wrongly_70 (by decide) ?_
          refine lv_goto (tgt := 75) hC.1 hC.2.1 dX1_wrongly_71 (by decide) ?_
          exact t1_wrongly_75 hC ih  _ _ _ _ _ _ _ _ _ _ _ _ hf hW (lv_sub hl [0, 1, 2, 3, 4, 5, 6] rfl)
set_option maxRecDepth 100000 in
set_option maxHeartbeats 4000000 in
theorem t1_wrongly_21 (hC : Cx p s m args meth c cX1_wrongly 13 wsX1_wrongly RX1 (some .int)) : ∀ (x3 : Int32) (x4 : Int32) (z0 : Int32) (z1 : Int32) (SI : Ob) (res : Int32) (H : Heap) (locs : List Loc) (ls : Array Slot), f1_wrongly_21 x3 x4 z0 z1 SI = some res → GW D cy ad (w4 cy aI SI) A s H locs → lv_has ls 13 [(0, .ref (aI 0)), (3, .int x3), (4, .int x4)] → W p l e rm1_wrongly s m args below meth c H locs 0 0 (MQ below (QI D cy (w4 cy aI SI) A res) args s 0 0 A) (F0 m 21 ls [.int z1, .int z0]) := by
  intro x3 x4 z0 z1 SI res H locs ls hf hW hl
  unfold f1_wrongly_21 at hf
  refine lv_iand hC.1 hC.2.1 dX1_wrongly_21 ?_
  refine lv_topi (fun x5_1 ex5_1 => ?_)
  have hf := lt_nm hf ex5_1
  refine lv_istore (lv' := [(5, .int x5_1), (0, .ref (aI 0)), (3, .int x3), (4, .int x4)]) hC.1 hC.2.1 dX1_wrongly_22 hl (by decide) rfl (fun ls hl => ?_)
  refine lv_lconst (v := 0) hC.1 hC.2.1 dX1_wrongly_24 (by decide) ?_
  refine lv_lstore (lv' := [(6, .long 0), (5, .int x5_1), (0, .ref (aI 0)), (3, .int x3), (4, .int x4)]) hC.1 hC.2.1 dX1_wrongly_25 hl (by decide) rfl (fun ls hl => ?_)
  refine lv_lconst (v := 0) hC.1 hC.2.1 dX1_wrongly_27 (by decide) ?_
  refine lv_lstore (lv' := [(8, .long 0), (6, .long 0), (5, .int x5_1), (0, .ref (aI 0)), (3, .int x3), (4, .int x4)]) hC.1 hC.2.1 dX1_wrongly_28 hl (by decide) rfl (fun ls hl => ?_)
  refine lv_iconst (v := 0) hC.1 hC.2.1 dX1_wrongly_30 (by decide) ?_
  refine lv_istore (lv' := [(10, .int 0), (8, .long 0), (6, .long 0), (5, .int x5_1), (0, .ref (aI 0)), (3, .int x3), (4, .int x4)]) hC.1 hC.2.1 dX1_wrongly_31 hl (by decide) rfl (fun ls hl => ?_)
  exact t1_wrongly_33 hC _ _ _ _ _ _ _ _ _ _ _ _ hf hW (lv_sub hl [4, 5, 6, 3, 2, 1, 0] rfl)
set_option maxRecDepth 100000 in
set_option maxHeartbeats 4000000 in
theorem t1_wrongly_0 (hC : Cx p s m args meth c cX1_wrongly 13 wsX1_wrongly RX1 (some .int)) : ∀ (x1 : Int32) (x2 : Int32) (x3 : Int32) (x4 : Int32) (SI : Ob) (res : Int32) (H : Heap) (locs : List Loc) (ls : Array Slot), f1_wrongly x1 x2 x3 x4 SI = some res → GW D cy ad (w4 cy aI SI) A s H locs → lv_has ls 13 [(0, .ref (aI 0)), (1, .int x1), (2, .int x2), (3, .int x3), (4, .int x4)] → W p l e rm1_wrongly s m args below meth c H locs 0 0 (MQ below (QI D cy (w4 cy aI SI) A res) args s 0 0 A) (F0 m 0 ls []) := by
  intro x1 x2 x3 x4 SI res H locs ls hf hW hl
  unfold f1_wrongly at hf
  refine lv_iload_n hC.1 hC.2.1 dX1_wrongly_0 rfl (lv_at hl 1 rfl) ?_
  refine lv_iload hC.1 hC.2.1 dX1_wrongly_1 (lv_at hl 4 rfl) ?_
  refine lv_if_eq (tgt := 14) hC.1 hC.2.1 dX1_wrongly_3 (by decide) (fun hc_1 => ?_) (fun hc_1 => ?_)
  · have hf := ite_t hf hc_1
    refine lv_aload_n hC.1 hC.2.1 dX1_wrongly_14 rfl (lv_at hl 0 rfl) ?_
    refine lv_iload_n hC.1 hC.2.1 dX1_wrongly_15 rfl (lv_at hl 2 rfl) ?_
    obtain ⟨r_2, hg_3, hf⟩ := bd_of hf
    refine g_calliV (w' := w4 cy aI SI) hC hW (c4_worldsOf l D cy ad aI hg_3) (cwV 1 hC.2.2.2.2.1 gX1_wrongly_X4_worldsOf rfl rfl rfl hdV4_worldsOf ⟨Nat.le_of_ble_eq_true rfl, Nat.le_of_ble_eq_true rfl⟩) (Sub.all _ _) 0 4 rfl rfl rfl rfl hl.1 rfl (Nat.le_of_ble_eq_true rfl) dX1_wrongly_16 ⟨Nat.zero_le _, Nat.zero_le _⟩ (fun H locs hW => ?_)
    refine lv_iconst (v := (-1)) hC.1 hC.2.1 dX1_wrongly_19 (by decide) ?_
    refine lv_ixor hC.1 hC.2.1 dX1_wrongly_20 ?_
    exact t1_wrongly_21 hC  _ _ _ _ _ _ _ _ _ hf hW (lv_sub hl [0, 3, 4] rfl)
  · have hf := ite_f hf hc_1
    refine lv_aload_n hC.1 hC.2.1 dX1_wrongly_6 rfl (lv_at hl 0 rfl) ?_
    refine lv_iload_n hC.1 hC.2.1 dX1_wrongly_7 rfl (lv_at hl 2 rfl) ?_
    obtain ⟨r_4, hg_5, hf⟩ := bd_of hf
    refine g_calliV (w' := w4 cy aI SI) hC hW (c4_worldsOf l D cy ad aI hg_5) (cwV 1 hC.2.2.2.2.1 gX1_wrongly_X4_worldsOf rfl rfl rfl hdV4_worldsOf ⟨Nat.le_of_ble_eq_true rfl, Nat.le_of_ble_eq_true rfl⟩) (Sub.all _ _) 0 4 rfl rfl rfl rfl hl.1 rfl (Nat.le_of_ble_eq_true rfl) dX1_wrongly_8 ⟨Nat.zero_le _, Nat.zero_le _⟩ (fun H locs hW => ?_)
    refine lv_goto (tgt := 21) hC.1 hC.2.1 dX1_wrongly_11 (by decide) ?_
    exact t1_wrongly_21 hC  _ _ _ _ _ _ _ _ _ hf hW (lv_sub hl [0, 3, 4] rfl)
set_option maxRecDepth 100000 in
set_option maxHeartbeats 4000000 in
theorem c1_wrongly (l : Launch) (D : va_G) (cy : Nat → ClassId) (ad : Nat → Nat) (aI : Nat → Nat) {x1 : Int32} {x2 : Int32} {x3 : Int32} {x4 : Int32} {SI : Ob} {res : Int32} (h : f1_wrongly x1 x2 x3 x4 SI = some res) : GCi l yX1_wrongly wsX1_wrongly rm1_wrongly [.ref (aI 0), .int x1, .int x2, .int x3, .int x4] D cy ad (w4 cy aI SI) (w4 cy aI SI) res := fun sz => GC.start (own := RX1) (Qc := fun A => QI D cy (w4 cy aI SI) A res) sz (by decide) rfl rfl (Nat.le_of_ble_eq_true rfl) (fun p e s m below meth c A ls hC hW hl => t1_wrongly_0 hC _ _ _ _ _ _ _ _ _ h hW (lv_sub hl [0, 1, 2, 3, 4] rfl))
abbrev rm1_weighRooms : Room := { frames := 0, cells := 0, slots := 0, locals := 0 }
theorem hdV1_weighRooms : yX1_weighRooms.cls = RX1 ∧ (yX1_weighRooms.cls ≠ "java/lang/invoke/MethodHandle" ∧ yX1_weighRooms.cls ≠ "java/lang/invoke/VarHandle" ∧ (parseMethodDescriptor yX1_weighRooms.desc).map (fun d => d.parameters.length) = some 2) := by decide +kernel
theorem hin1_weighRooms_1 : ∀ x ∈ u_ws RX1 TX1 2, x ∈ wsX1_weighRooms := fun _ h => List.mem_cons_of_mem _ (List.mem_append_left _ (List.mem_append_right _ h))
theorem hin1_weighRooms_4 : ∀ x ∈ u_ws RX4 TX4 13, x ∈ wsX1_weighRooms := fun _ h => List.mem_cons_of_mem _ (List.mem_append_right _ h)
set_option maxRecDepth 100000 in
set_option maxHeartbeats 4000000 in
theorem t1_weighRooms_77 (hC : Cx p s m args meth c cX1_weighRooms 5 wsX1_weighRooms RX1 (some .int)) {k26 : Int32 → Int32 → Int32 → Ob → Ob → Option (Int32 × Ob)} (hk26 : ∀ (x2 : Int32) (x3 : Int32) (x4 : Int32) (SK : Ob) (SI : Ob) (res : Int32 × Ob) (H : Heap) (locs : List Loc) (ls : Array Slot), k26 x2 x3 x4 SK SI = some res → GW D cy ad (w1 cy aK SK ++ (w4 cy aI SI)) A s H locs → lv_has ls 5 [(0, .ref (aK 0)), (1, .ref (aI 0)), (2, .int x2), (3, .int x3), (4, .int x4)] → W p l e rm1_weighRooms s m args below meth c H locs 0 0 (MQ below (QI D cy (w1 cy aK (res.2) ++ (w4 cy aI SI)) A (res.1)) args s 0 0 A) (F0 m 26 ls [])) : ∀ (x2 : Int32) (x3 : Int32) (x4 : Int32) (SK : Ob) (SI : Ob) (res : Int32 × Ob) (H : Heap) (locs : List Loc) (ls : Array Slot), f1_weighRooms_77 k26 x2 x3 x4 SK SI = some res → GW D cy ad (w1 cy aK SK ++ (w4 cy aI SI)) A s H locs → lv_has ls 5 [(0, .ref (aK 0)), (1, .ref (aI 0)), (2, .int x2), (3, .int x3), (4, .int x4)] → W p l e rm1_weighRooms s m args below meth c H locs 0 0 (MQ below (QI D cy (w1 cy aK (res.2) ++ (w4 cy aI SI)) A (res.1)) args s 0 0 A) (F0 m 77 ls []) := by
  intro x2 x3 x4 SK SI res H locs ls hf hW hl
  unfold f1_weighRooms_77 at hf
  obtain ⟨x4_1, ex4_1⟩ : ∃ y : Int32, y = x4 + 1 := ⟨_, rfl⟩
  have hf := lt_nm hf ex4_1
  refine lv_iinc (v := x4_1) (lv' := [(4, .int x4_1), (0, .ref (aK 0)), (1, .ref (aI 0)), (2, .int x2), (3, .int x3)]) hC.1 hC.2.1 dX1_weighRooms_77 hl (k := 4) rfl (by rw [ex4_1]; rfl) (by decide) rfl (fun ls hl => ?_)
  refine lv_goto (tgt := 26) hC.1 hC.2.1 dX1_weighRooms_80 (by decide) ?_
  exact hk26 _ _ _ _ _ _ _ _ _ hf hW (lv_sub hl [1, 2, 3, 4, 0] rfl)
set_option maxRecDepth 100000 in
set_option maxHeartbeats 4000000 in
theorem t1_weighRooms_26 (hC : Cx p s m args meth c cX1_weighRooms 5 wsX1_weighRooms RX1 (some .int)) : ∀ n : Nat, ∀ (x2 : Int32) (x3 : Int32) (x4 : Int32) (SK : Ob) (SI : Ob) (res : Int32 × Ob) (H : Heap) (locs : List Loc) (ls : Array Slot), f1_weighRooms_26 n x2 x3 x4 SK SI = some res → GW D cy ad (w1 cy aK SK ++ (w4 cy aI SI)) A s H locs → lv_has ls 5 [(0, .ref (aK 0)), (1, .ref (aI 0)), (2, .int x2), (3, .int x3), (4, .int x4)] → W p l e rm1_weighRooms s m args below meth c H locs 0 0 (MQ below (QI D cy (w1 cy aK (res.2) ++ (w4 cy aI SI)) A (res.1)) args s 0 0 A) (F0 m 26 ls []) := by
  intro n
  induction n with
  | zero =>
    intro _ _ _ _ _ _ _ _ _ hf _ _
    exact nomatch (show (none : Option (Int32 × Ob)) = some _ from hf)
  | succ n ih =>
    intro x2 x3 x4 SK SI res H locs ls hf hW hl
    rw [f1_weighRooms_26] at hf
    refine lv_iload hC.1 hC.2.1 dX1_weighRooms_26 (lv_at hl 4 rfl) ?_
    refine lv_aload_n hC.1 hC.2.1 dX1_weighRooms_28 rfl (lv_at hl 1 rfl) ?_
    refine g_get hC hW hin1_weighRooms_4 3 rfl rfl 0 (by decide) 2 rfl rfl dX1_weighRooms_29 ?_
    refine lv_icmp_ge (tgt := 83) hC.1 hC.2.1 dX1_weighRooms_32 (by decide) (fun hc_1 => ?_) (fun hc_1 => ?_)
    · have hf := ite_t hf hc_1
      refine lv_iload_n hC.1 hC.2.1 dX1_weighRooms_83 rfl (lv_at hl 3 rfl) ?_
      obtain rfl := Option.some.inj hf
      exact g_iret hC hW dX1_weighRooms_84
    · have hf := ite_f hf hc_1
      refine lv_iload_n hC.1 hC.2.1 dX1_weighRooms_35 rfl (lv_at hl 2 rfl) ?_
      refine lv_iload hC.1 hC.2.1 dX1_weighRooms_36 (lv_at hl 4 rfl) ?_
      refine lv_iushr (v := ush x2 x4) hC.1 hC.2.1 dX1_weighRooms_38 rfl ?_
      refine lv_iconst (v := 1) hC.1 hC.2.1 dX1_weighRooms_39 (by decide) ?_
      refine lv_iand hC.1 hC.2.1 dX1_weighRooms_40 ?_
      refine lv_iconst (v := 1) hC.1 hC.2.1 dX1_weighRooms_41 (by decide) ?_
      refine lv_icmp_ne (tgt := 77) hC.1 hC.2.1 dX1_weighRooms_42 (by decide) (fun hc_2 => ?_) (fun hc_2 => ?_)
      · have hf := ite_f hf hc_2
        exact t1_weighRooms_77 hC ih  _ _ _ _ _ _ _ _ _ hf hW (lv_sub hl [0, 1, 2, 3, 4] rfl)
      · have hf := ite_t hf hc_2
        refine lv_aload_n hC.1 hC.2.1 dX1_weighRooms_45 rfl (lv_at hl 0 rfl) ?_
        refine g_get hC hW hin1_weighRooms_1 0 rfl rfl 0 (by decide) 1 rfl rfl dX1_weighRooms_46 ?_
        refine lv_aload_n hC.1 hC.2.1 dX1_weighRooms_49 rfl (lv_at hl 1 rfl) ?_
        refine g_get hC hW hin1_weighRooms_4 3 rfl rfl 3 (by decide) 3 rfl rfl dX1_weighRooms_50 ?_
        refine lv_iload hC.1 hC.2.1 dX1_weighRooms_53 (lv_at hl 4 rfl) ?_
        obtain ⟨hi_3, hf⟩ := ck_of hf
        refine g_iald hC hW 6 rfl hi_3 dX1_weighRooms_55 ?_
        refine lv_dup2_11 hC.1 hC.2.1 dX1_weighRooms_56 rfl rfl ?_
        obtain ⟨hi_4, hf⟩ := ck_of hf
        refine g_iald hC hW 1 rfl hi_4 dX1_weighRooms_57 ?_
        refine lv_aload_n hC.1 hC.2.1 dX1_weighRooms_58 rfl (lv_at hl 1 rfl) ?_
        refine g_get hC hW hin1_weighRooms_4 3 rfl rfl 4 (by decide) 4 rfl rfl dX1_weighRooms_59 ?_
        refine lv_iload hC.1 hC.2.1 dX1_weighRooms_62 (lv_at hl 4 rfl) ?_
        obtain ⟨hi_5, hf⟩ := ck_of hf
        refine g_iald hC hW 7 rfl hi_5 dX1_weighRooms_64 ?_
        refine lv_iadd hC.1 hC.2.1 dX1_weighRooms_65 ?_
        obtain ⟨hi_6, hf⟩ := ck_of hf
        obtain ⟨SK_7, eSK_7⟩ : ∃ y : Ob, y = oA SK 0 (Int32.toNatClampNeg (SI.2.2.1 3 (Int32.toNatClampNeg x4))) ((SK.2.2.1 0 (Int32.toNatClampNeg (SI.2.2.1 3 (Int32.toNatClampNeg x4)))) + (SI.2.2.1 4 (Int32.toNatClampNeg x4))) := ⟨_, rfl⟩
        have hf := lt_nm hf eSK_7
        refine g_iast hC hW 1 rfl hi_6 (w' := w1 cy aK SK_7 ++ (w4 cy aI SI)) (by rw [eSK_7]; rfl) dX1_weighRooms_66 (fun H locs hW => ?_)
        refine lv_iload_n hC.1 hC.2.1 dX1_weighRooms_67 rfl (lv_at hl 3 rfl) ?_
        refine lv_aload_n hC.1 hC.2.1 dX1_weighRooms_68 rfl (lv_at hl 1 rfl) ?_
        refine g_get hC hW hin1_weighRooms_4 3 rfl rfl 4 (by decide) 4 rfl rfl dX1_weighRooms_69 ?_
        refine lv_iload hC.1 hC.2.1 dX1_weighRooms_72 (lv_at hl 4 rfl) ?_
        obtain ⟨hi_8, hf⟩ := ck_of hf
        refine g_iald hC hW 7 rfl hi_8 dX1_weighRooms_74 ?_
        refine lv_iadd hC.1 hC.2.1 dX1_weighRooms_75 ?_
        refine lv_topi (fun x3_9 ex3_9 => ?_)
        have hf := lt_nm hf ex3_9
        refine lv_istore_n (lv' := [(3, .int x3_9), (0, .ref (aK 0)), (1, .ref (aI 0)), (2, .int x2), (4, .int x4)]) hC.1 hC.2.1 dX1_weighRooms_76 rfl hl (by decide) rfl (fun ls hl => ?_)
        exact t1_weighRooms_77 hC ih  _ _ _ _ _ _ _ _ _ hf hW (lv_sub hl [1, 2, 3, 0, 4] rfl)
set_option maxRecDepth 100000 in
set_option maxHeartbeats 4000000 in
theorem t1_weighRooms_2 (hC : Cx p s m args meth c cX1_weighRooms 5 wsX1_weighRooms RX1 (some .int)) : ∀ n : Nat, ∀ (x2 : Int32) (x3 : Int32) (SK : Ob) (SI : Ob) (res : Int32 × Ob) (H : Heap) (locs : List Loc) (ls : Array Slot), f1_weighRooms_2 n x2 x3 SK SI = some res → GW D cy ad (w1 cy aK SK ++ (w4 cy aI SI)) A s H locs → lv_has ls 5 [(0, .ref (aK 0)), (1, .ref (aI 0)), (2, .int x2), (3, .int x3)] → W p l e rm1_weighRooms s m args below meth c H locs 0 0 (MQ below (QI D cy (w1 cy aK (res.2) ++ (w4 cy aI SI)) A (res.1)) args s 0 0 A) (F0 m 2 ls []) := by
  intro n
  induction n with
  | zero =>
    intro _ _ _ _ _ _ _ _ hf _ _
    exact nomatch (show (none : Option (Int32 × Ob)) = some _ from hf)
  | succ n ih =>
    intro x2 x3 SK SI res H locs ls hf hW hl
    rw [f1_weighRooms_2] at hf
    refine lv_iload_n hC.1 hC.2.1 dX1_weighRooms_2 rfl (lv_at hl 3 rfl) ?_
    refine lv_bipush (v := 12) hC.1 hC.2.1 dX1_weighRooms_3 (by decide) ?_
    refine lv_icmp_gt (tgt := 21) hC.1 hC.2.1 dX1_weighRooms_5 (by decide) (fun hc_1 => ?_) (fun hc_1 => ?_)
    · have hf := ite_t hf hc_1
      refine lv_iconst (v := 0) hC.1 hC.2.1 dX1_weighRooms_21 (by decide) ?_
      refine lv_istore_n (lv' := [(3, .int 0), (0, .ref (aK 0)), (1, .ref (aI 0)), (2, .int x2)]) hC.1 hC.2.1 dX1_weighRooms_22 rfl hl (by decide) rfl (fun ls hl => ?_)
      refine lv_iconst (v := 0) hC.1 hC.2.1 dX1_weighRooms_23 (by decide) ?_
      refine lv_istore (lv' := [(4, .int 0), (3, .int 0), (0, .ref (aK 0)), (1, .ref (aI 0)), (2, .int x2)]) hC.1 hC.2.1 dX1_weighRooms_24 hl (by decide) rfl (fun ls hl => ?_)
      exact t1_weighRooms_26 hC _ _ _ _ _ _ _ _ _ _ hf hW (lv_sub hl [2, 3, 4, 1, 0] rfl)
    · have hf := ite_f hf hc_1
      refine lv_aload_n hC.1 hC.2.1 dX1_weighRooms_8 rfl (lv_at hl 0 rfl) ?_
      refine g_get hC hW hin1_weighRooms_1 0 rfl rfl 0 (by decide) 1 rfl rfl dX1_weighRooms_9 ?_
      refine lv_iload_n hC.1 hC.2.1 dX1_weighRooms_12 rfl (lv_at hl 3 rfl) ?_
      refine lv_iconst (v := 0) hC.1 hC.2.1 dX1_weighRooms_13 (by decide) ?_
      obtain ⟨hi_2, hf⟩ := ck_of hf
      obtain ⟨SK_3, eSK_3⟩ : ∃ y : Ob, y = oA SK 0 (Int32.toNatClampNeg x3) 0 := ⟨_, rfl⟩
      have hf := lt_nm hf eSK_3
      refine g_iast hC hW 1 rfl hi_2 (w' := w1 cy aK SK_3 ++ (w4 cy aI SI)) (by rw [eSK_3]; rfl) dX1_weighRooms_14 (fun H locs hW => ?_)
      obtain ⟨x3_4, ex3_4⟩ : ∃ y : Int32, y = x3 + 1 := ⟨_, rfl⟩
      have hf := lt_nm hf ex3_4
      refine lv_iinc (v := x3_4) (lv' := [(3, .int x3_4), (0, .ref (aK 0)), (1, .ref (aI 0)), (2, .int x2)]) hC.1 hC.2.1 dX1_weighRooms_15 hl (k := 3) rfl (by rw [ex3_4]; rfl) (by decide) rfl (fun ls hl => ?_)
      refine lv_goto (tgt := 2) hC.1 hC.2.1 dX1_weighRooms_18 (by decide) ?_
      exact ih _ _ _ _ _ _ _ _ hf hW (lv_sub hl [1, 2, 3, 0] rfl)
set_option maxRecDepth 100000 in
set_option maxHeartbeats 4000000 in
theorem t1_weighRooms_0 (hC : Cx p s m args meth c cX1_weighRooms 5 wsX1_weighRooms RX1 (some .int)) : ∀ (x2 : Int32) (SK : Ob) (SI : Ob) (res : Int32 × Ob) (H : Heap) (locs : List Loc) (ls : Array Slot), f1_weighRooms x2 SK SI = some res → GW D cy ad (w1 cy aK SK ++ (w4 cy aI SI)) A s H locs → lv_has ls 5 [(0, .ref (aK 0)), (1, .ref (aI 0)), (2, .int x2)] → W p l e rm1_weighRooms s m args below meth c H locs 0 0 (MQ below (QI D cy (w1 cy aK (res.2) ++ (w4 cy aI SI)) A (res.1)) args s 0 0 A) (F0 m 0 ls []) := by
  intro x2 SK SI res H locs ls hf hW hl
  unfold f1_weighRooms at hf
  refine lv_iconst (v := 0) hC.1 hC.2.1 dX1_weighRooms_0 (by decide) ?_
  refine lv_istore_n (lv' := [(3, .int 0), (0, .ref (aK 0)), (1, .ref (aI 0)), (2, .int x2)]) hC.1 hC.2.1 dX1_weighRooms_1 rfl hl (by decide) rfl (fun ls hl => ?_)
  exact t1_weighRooms_2 hC _ _ _ _ _ _ _ _ _ hf hW (lv_sub hl [1, 2, 3, 0] rfl)
set_option maxRecDepth 100000 in
set_option maxHeartbeats 4000000 in
theorem c1_weighRooms (l : Launch) (D : va_G) (cy : Nat → ClassId) (ad : Nat → Nat) (aK : Nat → Nat) (aI : Nat → Nat) {x2 : Int32} {SK : Ob} {SI : Ob} {res : Int32 × Ob} (h : f1_weighRooms x2 SK SI = some res) : GCi l yX1_weighRooms wsX1_weighRooms rm1_weighRooms [.ref (aK 0), .ref (aI 0), .int x2] D cy ad (w1 cy aK SK ++ (w4 cy aI SI)) (w1 cy aK (res.2) ++ (w4 cy aI SI)) (res.1) := fun sz => GC.start (own := RX1) (Qc := fun A => QI D cy (w1 cy aK (res.2) ++ (w4 cy aI SI)) A (res.1)) sz (by decide) rfl rfl (Nat.le_of_ble_eq_true rfl) (fun p e s m below meth c A ls hC hW hl => t1_weighRooms_0 hC _ _ _ _ _ _ _ h hW (lv_sub hl [0, 1, 2] rfl))
abbrev rm1_heaviest : Room := { frames := 0, cells := 0, slots := 0, locals := 0 }
theorem hdV1_heaviest : yX1_heaviest.cls = RX1 ∧ (yX1_heaviest.cls ≠ "java/lang/invoke/MethodHandle" ∧ yX1_heaviest.cls ≠ "java/lang/invoke/VarHandle" ∧ (parseMethodDescriptor yX1_heaviest.desc).map (fun d => d.parameters.length) = some 0) := by decide +kernel
theorem hin1_heaviest_1 : ∀ x ∈ u_ws RX1 TX1 2, x ∈ wsX1_heaviest := fun _ h => List.mem_cons_of_mem _ (List.mem_append_right _ h)
set_option maxRecDepth 100000 in
set_option maxHeartbeats 4000000 in
theorem t1_heaviest_27 (hC : Cx p s m args meth c cX1_heaviest 3 wsX1_heaviest RX1 (some .int)) {k4 : Int32 → Int32 → Ob → Option (Int32)} (hk4 : ∀ (x1 : Int32) (x2 : Int32) (SK : Ob) (res : Int32) (H : Heap) (locs : List Loc) (ls : Array Slot), k4 x1 x2 SK = some res → GW D cy ad (w1 cy aK SK) A s H locs → lv_has ls 3 [(0, .ref (aK 0)), (1, .int x1), (2, .int x2)] → W p l e rm1_heaviest s m args below meth c H locs 0 0 (MQ below (QI D cy (w1 cy aK SK) A res) args s 0 0 A) (F0 m 4 ls [])) : ∀ (x1 : Int32) (x2 : Int32) (SK : Ob) (res : Int32) (H : Heap) (locs : List Loc) (ls : Array Slot), f1_heaviest_27 k4 x1 x2 SK = some res → GW D cy ad (w1 cy aK SK) A s H locs → lv_has ls 3 [(0, .ref (aK 0)), (1, .int x1), (2, .int x2)] → W p l e rm1_heaviest s m args below meth c H locs 0 0 (MQ below (QI D cy (w1 cy aK SK) A res) args s 0 0 A) (F0 m 27 ls []) := by
  intro x1 x2 SK res H locs ls hf hW hl
  unfold f1_heaviest_27 at hf
  obtain ⟨x2_1, ex2_1⟩ : ∃ y : Int32, y = x2 + 1 := ⟨_, rfl⟩
  have hf := lt_nm hf ex2_1
  refine lv_iinc (v := x2_1) (lv' := [(2, .int x2_1), (0, .ref (aK 0)), (1, .int x1)]) hC.1 hC.2.1 dX1_heaviest_27 hl (k := 2) rfl (by rw [ex2_1]; rfl) (by decide) rfl (fun ls hl => ?_)
  refine lv_goto (tgt := 4) hC.1 hC.2.1 dX1_heaviest_30 (by decide) ?_
  exact hk4 _ _ _ _ _ _ _ hf hW (lv_sub hl [1, 2, 0] rfl)
set_option maxRecDepth 100000 in
set_option maxHeartbeats 4000000 in
theorem t1_heaviest_4 (hC : Cx p s m args meth c cX1_heaviest 3 wsX1_heaviest RX1 (some .int)) : ∀ n : Nat, ∀ (x1 : Int32) (x2 : Int32) (SK : Ob) (res : Int32) (H : Heap) (locs : List Loc) (ls : Array Slot), f1_heaviest_4 n x1 x2 SK = some res → GW D cy ad (w1 cy aK SK) A s H locs → lv_has ls 3 [(0, .ref (aK 0)), (1, .int x1), (2, .int x2)] → W p l e rm1_heaviest s m args below meth c H locs 0 0 (MQ below (QI D cy (w1 cy aK SK) A res) args s 0 0 A) (F0 m 4 ls []) := by
  intro n
  induction n with
  | zero =>
    intro _ _ _ _ _ _ _ hf _ _
    exact nomatch (show (none : Option (Int32)) = some _ from hf)
  | succ n ih =>
    intro x1 x2 SK res H locs ls hf hW hl
    rw [f1_heaviest_4] at hf
    refine lv_iload_n hC.1 hC.2.1 dX1_heaviest_4 rfl (lv_at hl 2 rfl) ?_
    refine lv_bipush (v := 12) hC.1 hC.2.1 dX1_heaviest_5 (by decide) ?_
    refine lv_icmp_gt (tgt := 33) hC.1 hC.2.1 dX1_heaviest_7 (by decide) (fun hc_1 => ?_) (fun hc_1 => ?_)
    · have hf := ite_t hf hc_1
      refine lv_iload_n hC.1 hC.2.1 dX1_heaviest_33 rfl (lv_at hl 1 rfl) ?_
      obtain rfl := Option.some.inj hf
      exact g_iret hC hW dX1_heaviest_34
    · have hf := ite_f hf hc_1
      refine lv_aload_n hC.1 hC.2.1 dX1_heaviest_10 rfl (lv_at hl 0 rfl) ?_
      refine g_get hC hW hin1_heaviest_1 0 rfl rfl 0 (by decide) 1 rfl rfl dX1_heaviest_11 ?_
      refine lv_iload_n hC.1 hC.2.1 dX1_heaviest_14 rfl (lv_at hl 2 rfl) ?_
      obtain ⟨hi_2, hf⟩ := ck_of hf
      refine g_iald hC hW 1 rfl hi_2 dX1_heaviest_15 ?_
      refine lv_aload_n hC.1 hC.2.1 dX1_heaviest_16 rfl (lv_at hl 0 rfl) ?_
      refine g_get hC hW hin1_heaviest_1 0 rfl rfl 0 (by decide) 1 rfl rfl dX1_heaviest_17 ?_
      refine lv_iload_n hC.1 hC.2.1 dX1_heaviest_20 rfl (lv_at hl 1 rfl) ?_
      obtain ⟨hi_3, hf⟩ := ck_of hf
      refine g_iald hC hW 1 rfl hi_3 dX1_heaviest_21 ?_
      refine lv_icmp_le (tgt := 27) hC.1 hC.2.1 dX1_heaviest_22 (by decide) (fun hc_4 => ?_) (fun hc_4 => ?_)
      · have hf := ite_t hf hc_4
        exact t1_heaviest_27 hC ih  _ _ _ _ _ _ _ hf hW (lv_sub hl [0, 1, 2] rfl)
      · have hf := ite_f hf hc_4
        refine lv_iload_n hC.1 hC.2.1 dX1_heaviest_25 rfl (lv_at hl 2 rfl) ?_
        refine lv_istore_n (lv' := [(1, .int x2), (0, .ref (aK 0)), (2, .int x2)]) hC.1 hC.2.1 dX1_heaviest_26 rfl hl (by decide) rfl (fun ls hl => ?_)
        exact t1_heaviest_27 hC ih  _ _ _ _ _ _ _ hf hW (lv_sub hl [1, 0, 2] rfl)
set_option maxRecDepth 100000 in
set_option maxHeartbeats 4000000 in
theorem t1_heaviest_0 (hC : Cx p s m args meth c cX1_heaviest 3 wsX1_heaviest RX1 (some .int)) : ∀ (SK : Ob) (res : Int32) (H : Heap) (locs : List Loc) (ls : Array Slot), f1_heaviest SK = some res → GW D cy ad (w1 cy aK SK) A s H locs → lv_has ls 3 [(0, .ref (aK 0))] → W p l e rm1_heaviest s m args below meth c H locs 0 0 (MQ below (QI D cy (w1 cy aK SK) A res) args s 0 0 A) (F0 m 0 ls []) := by
  intro SK res H locs ls hf hW hl
  unfold f1_heaviest at hf
  refine lv_iconst (v := 0) hC.1 hC.2.1 dX1_heaviest_0 (by decide) ?_
  refine lv_istore_n (lv' := [(1, .int 0), (0, .ref (aK 0))]) hC.1 hC.2.1 dX1_heaviest_1 rfl hl (by decide) rfl (fun ls hl => ?_)
  refine lv_iconst (v := 1) hC.1 hC.2.1 dX1_heaviest_2 (by decide) ?_
  refine lv_istore_n (lv' := [(2, .int 1), (1, .int 0), (0, .ref (aK 0))]) hC.1 hC.2.1 dX1_heaviest_3 rfl hl (by decide) rfl (fun ls hl => ?_)
  exact t1_heaviest_4 hC _ _ _ _ _ _ _ _ hf hW (lv_sub hl [2, 1, 0] rfl)
set_option maxRecDepth 100000 in
set_option maxHeartbeats 4000000 in
theorem c1_heaviest (l : Launch) (D : va_G) (cy : Nat → ClassId) (ad : Nat → Nat) (aK : Nat → Nat) {SK : Ob} {res : Int32} (h : f1_heaviest SK = some res) : GCi l yX1_heaviest wsX1_heaviest rm1_heaviest [.ref (aK 0)] D cy ad (w1 cy aK SK) (w1 cy aK SK) res := fun sz => GC.start (own := RX1) (Qc := fun A => QI D cy (w1 cy aK SK) A res) sz (by decide) rfl rfl (Nat.le_of_ble_eq_true rfl) (fun p e s m below meth c A ls hC hW hl => t1_heaviest_0 hC _ _ _ _ _ h hW (lv_sub hl [0] rfl))
abbrev rm1_search : Room := { frames := 1, cells := 0, slots := 0, locals := 24 }
theorem hdV1_search : yX1_search.cls = RX1 ∧ (yX1_search.cls ≠ "java/lang/invoke/MethodHandle" ∧ yX1_search.cls ≠ "java/lang/invoke/VarHandle" ∧ (parseMethodDescriptor yX1_search.desc).map (fun d => d.parameters.length) = some 3) := by decide +kernel
theorem hin1_search_1 : ∀ x ∈ u_ws RX1 TX1 2, x ∈ wsX1_search := fun _ h => List.mem_cons_of_mem _ (List.mem_append_left _ (List.mem_append_right _ h))
set_option maxRecDepth 100000 in
set_option maxHeartbeats 4000000 in
theorem t1_search_112 (hC : Cx p s m args meth c cX1_search 9 wsX1_search RX1 (some .int)) : ∀ (z0 : Int32) (SK : Ob) (SI : Ob) (res : Int32 × Ob) (H : Heap) (locs : List Loc) (ls : Array Slot), f1_search_112 z0 SK SI = some res → GW D cy ad (w1 cy aK SK ++ (w4 cy aI SI)) A s H locs → lv_has ls 9 [] → W p l e rm1_search s m args below meth c H locs 0 0 (MQ below (QI D cy (w1 cy aK (res.2) ++ (w4 cy aI SI)) A (res.1)) args s 0 0 A) (F0 m 112 ls [.int z0]) := by
  intro z0 SK SI res H locs ls hf hW hl
  unfold f1_search_112 at hf
  obtain rfl := Option.some.inj hf
  exact g_iret hC hW dX1_search_112
set_option maxRecDepth 100000 in
set_option maxHeartbeats 4000000 in
theorem t1_search_147 (hC : Cx p s m args meth c cX1_search 9 wsX1_search RX1 (some .int)) : ∀ (z0 : Int32) (SK : Ob) (SI : Ob) (res : Int32 × Ob) (H : Heap) (locs : List Loc) (ls : Array Slot), f1_search_147 z0 SK SI = some res → GW D cy ad (w1 cy aK SK ++ (w4 cy aI SI)) A s H locs → lv_has ls 9 [] → W p l e rm1_search s m args below meth c H locs 0 0 (MQ below (QI D cy (w1 cy aK (res.2) ++ (w4 cy aI SI)) A (res.1)) args s 0 0 A) (F0 m 147 ls [.int z0]) := by
  intro z0 SK SI res H locs ls hf hW hl
  unfold f1_search_147 at hf
  obtain rfl := Option.some.inj hf
  exact g_iret hC hW dX1_search_147
set_option maxRecDepth 100000 in
set_option maxHeartbeats 4000000 in
theorem t1_search_146 (hC : Cx p s m args meth c cX1_search 9 wsX1_search RX1 (some .int)) : ∀ (SK : Ob) (SI : Ob) (res : Int32 × Ob) (H : Heap) (locs : List Loc) (ls : Array Slot), f1_search_146 SK SI = some res → GW D cy ad (w1 cy aK SK ++ (w4 cy aI SI)) A s H locs → lv_has ls 9 [] → W p l e rm1_search s m args below meth c H locs 0 0 (MQ below (QI D cy (w1 cy aK (res.2) ++ (w4 cy aI SI)) A (res.1)) args s 0 0 A) (F0 m 146 ls []) := by
  intro SK SI res H locs ls hf hW hl
  unfold f1_search_146 at hf
  refine lv_iconst (v := (-1)) hC.1 hC.2.1 dX1_search_146 (by decide) ?_
  exact t1_search_147 hC  _ _ _ _ _ _ _ hf hW (lv_sub hl [] rfl)
set_option maxRecDepth 100000 in
set_option maxHeartbeats 4000000 in
theorem t1_search_90 (hC : Cx p s m args meth c cX1_search 9 wsX1_search RX1 (some .int)) : ∀ (x3 : Int32) (x4 : Int32) (x5 : Int32) (x6 : Int32) (SK : Ob) (SI : Ob) (res : Int32 × Ob) (H : Heap) (locs : List Loc) (ls : Array Slot), f1_search_90 x3 x4 x5 x6 SK SI = some res → GW D cy ad (w1 cy aK SK ++ (w4 cy aI SI)) A s H locs → lv_has ls 9 [(0, .ref (aK 0)), (3, .int x3), (4, .int x4), (5, .int x5), (6, .int x6)] → W p l e rm1_search s m args below meth c H locs 0 0 (MQ below (QI D cy (w1 cy aK (res.2) ++ (w4 cy aI SI)) A (res.1)) args s 0 0 A) (F0 m 90 ls []) := by
  intro x3 x4 x5 x6 SK SI res H locs ls hf hW hl
  unfold f1_search_90 at hf
  refine lv_iload_n hC.1 hC.2.1 dX1_search_90 rfl (lv_at hl 1 rfl) ?_
  refine lv_if_ne (tgt := 113) hC.1 hC.2.1 dX1_search_91 (by decide) (fun hc_1 => ?_) (fun hc_1 => ?_)
  · have hf := ite_f hf hc_1
    refine lv_iload_n hC.1 hC.2.1 dX1_search_113 rfl (lv_at hl 1 rfl) ?_
    refine lv_iconst (v := 1) hC.1 hC.2.1 dX1_search_114 (by decide) ?_
    refine lv_icmp_ne (tgt := 121) hC.1 hC.2.1 dX1_search_115 (by decide) (fun hc_2 => ?_) (fun hc_2 => ?_)
    · have hf := ite_f hf hc_2
      refine lv_iload_n hC.1 hC.2.1 dX1_search_121 rfl (lv_at hl 1 rfl) ?_
      refine lv_iconst (v := 2) hC.1 hC.2.1 dX1_search_122 (by decide) ?_
      refine lv_isub hC.1 hC.2.1 dX1_search_123 ?_
      refine lv_if_lt (tgt := 146) hC.1 hC.2.1 dX1_search_124 (by decide) (fun hc_3 => ?_) (fun hc_3 => ?_)
      · have hf := ite_t hf hc_3
        exact t1_search_146 hC  _ _ _ _ _ _ hf hW (lv_sub hl [] rfl)
      · have hf := ite_f hf hc_3
        refine lv_iload_n hC.1 hC.2.1 dX1_search_127 rfl (lv_at hl 1 rfl) ?_
        refine lv_iconst (v := 2) hC.1 hC.2.1 dX1_search_128 (by decide) ?_
        refine lv_isub hC.1 hC.2.1 dX1_search_129 ?_
        refine lv_iload hC.1 hC.2.1 dX1_search_130 (lv_at hl 3 rfl) ?_
        refine lv_icmp_ge (tgt := 146) hC.1 hC.2.1 dX1_search_132 (by decide) (fun hc_4 => ?_) (fun hc_4 => ?_)
        · have hf := ite_t hf hc_4
          exact t1_search_146 hC  _ _ _ _ _ _ hf hW (lv_sub hl [] rfl)
        · have hf := ite_f hf hc_4
          refine lv_aload_n hC.1 hC.2.1 dX1_search_135 rfl (lv_at hl 0 rfl) ?_
          refine g_get hC hW hin1_search_1 0 rfl rfl 1 (by decide) 2 rfl rfl dX1_search_136 ?_
          refine lv_iload_n hC.1 hC.2.1 dX1_search_139 rfl (lv_at hl 1 rfl) ?_
          refine lv_iconst (v := 2) hC.1 hC.2.1 dX1_search_140 (by decide) ?_
          refine lv_isub hC.1 hC.2.1 dX1_search_141 ?_
          obtain ⟨hi_5, hf⟩ := ck_of hf
          refine g_iald hC hW 2 rfl hi_5 dX1_search_142 ?_
          refine lv_goto (tgt := 147) hC.1 hC.2.1 dX1_search_143 (by decide) ?_
          exact t1_search_147 hC  _ _ _ _ _ _ _ hf hW (lv_sub hl [] rfl)
    · have hf := ite_t hf hc_2
      refine lv_iload hC.1 hC.2.1 dX1_search_118 (lv_at hl 3 rfl) ?_
      obtain rfl := Option.some.inj hf
      exact g_iret hC hW dX1_search_120
  · have hf := ite_t hf hc_1
    refine lv_iload hC.1 hC.2.1 dX1_search_94 (lv_at hl 2 rfl) ?_
    refine lv_if_ne (tgt := 103) hC.1 hC.2.1 dX1_search_96 (by decide) (fun hc_6 => ?_) (fun hc_6 => ?_)
    · have hf := ite_f hf hc_6
      refine lv_iload hC.1 hC.2.1 dX1_search_103 (lv_at hl 4 rfl) ?_
      refine lv_sipush (v := 1000) hC.1 hC.2.1 dX1_search_105 (by decide) ?_
      refine lv_imul hC.1 hC.2.1 dX1_search_108 ?_
      refine lv_iload hC.1 hC.2.1 dX1_search_109 (lv_at hl 2 rfl) ?_
      obtain ⟨hz_7, hf⟩ := ck_of hf
      refine lv_idiv hC.1 hC.2.1 dX1_search_111 (nz_of hz_7) ?_
      exact t1_search_112 hC  _ _ _ _ _ _ _ hf hW (lv_sub hl [] rfl)
    · have hf := ite_t hf hc_6
      refine lv_iconst (v := (-1)) hC.1 hC.2.1 dX1_search_99 (by decide) ?_
      refine lv_goto (tgt := 112) hC.1 hC.2.1 dX1_search_100 (by decide) ?_
      exact t1_search_112 hC  _ _ _ _ _ _ _ hf hW (lv_sub hl [] rfl)
set_option maxRecDepth 100000 in
set_option maxHeartbeats 4000000 in
theorem t1_search_23 (hC : Cx p s m args meth c cX1_search 9 wsX1_search RX1 (some .int)) : ∀ n : Nat, ∀ (x3 : Int32) (x4 : Int32) (x5 : Int32) (x6 : Int32) (x7 : Int32) (SK : Ob) (SI : Ob) (res : Int32 × Ob) (H : Heap) (locs : List Loc) (ls : Array Slot), f1_search_23 n x3 x4 x5 x6 x7 SK SI = some res → GW D cy ad (w1 cy aK SK ++ (w4 cy aI SI)) A s H locs → lv_has ls 9 [(0, .ref (aK 0)), (3, .int x3), (4, .int x4), (5, .int x5), (6, .int x6), (7, .int x7)] → W p l e rm1_search s m args below meth c H locs 0 0 (MQ below (QI D cy (w1 cy aK (res.2) ++ (w4 cy aI SI)) A (res.1)) args s 0 0 A) (F0 m 23 ls []) := by
  intro n
  induction n with
  | zero =>
    intro _ _ _ _ _ _ _ _ _ _ _ hf _ _
    exact nomatch (show (none : Option (Int32 × Ob)) = some _ from hf)
  | succ n ih =>
    intro x3 x4 x5 x6 x7 SK SI res H locs ls hf hW hl
    rw [f1_search_23] at hf
    refine lv_iload hC.1 hC.2.1 dX1_search_23 (lv_at hl 5 rfl) ?_
    refine lv_bipush (v := 8) hC.1 hC.2.1 dX1_search_25 (by decide) ?_
    refine lv_icmp_ge (tgt := 90) hC.1 hC.2.1 dX1_search_27 (by decide) (fun hc_1 => ?_) (fun hc_1 => ?_)
    · have hf := ite_t hf hc_1
      exact t1_search_90 hC  _ _ _ _ _ _ _ _ _ _ hf hW (lv_sub hl [0, 1, 2, 3, 4] rfl)
    · have hf := ite_f hf hc_1
      refine lv_aload_n hC.1 hC.2.1 dX1_search_30 rfl (lv_at hl 0 rfl) ?_
      obtain ⟨r_2, hg_3, hf⟩ := bd_of hf
      refine g_calliV (w' := w1 cy aK SK ++ (w4 cy aI SI)) hC hW (c1_heaviest l D cy ad aK hg_3) (cwV 0 hC.2.2.2.2.1 gX1_search_X1_heaviest rfl rfl rfl hdV1_heaviest ⟨Nat.le_of_ble_eq_true rfl, Nat.le_of_ble_eq_true rfl⟩) (⟨[0, 1, 2], [3, 4, 5, 6, 7, 8, 9, 10, 11, 12, 13, 14], [12, 13, 14, 0, 1, 2, 3, 4, 5, 6, 7, 8, 9, 10, 11], w4 cy aI SI, rfl, rfl, rfl, rfl, by decide, rfl, rfl⟩) 0 1 rfl rfl rfl rfl hl.1 rfl (Nat.le_of_ble_eq_true rfl) dX1_search_31 ⟨Nat.zero_le _, Nat.zero_le _⟩ (fun H locs hW => ?_)
      refine lv_istore (lv' := [(8, .int r_2), (0, .ref (aK 0)), (3, .int x3), (4, .int x4), (5, .int x5), (6, .int x6), (7, .int x7)]) hC.1 hC.2.1 dX1_search_34 hl (by decide) rfl (fun ls hl => ?_)
      refine lv_aload_n hC.1 hC.2.1 dX1_search_36 rfl (lv_at hl 1 rfl) ?_
      refine g_get hC hW hin1_search_1 0 rfl rfl 0 (by decide) 1 rfl rfl dX1_search_37 ?_
      refine lv_iload hC.1 hC.2.1 dX1_search_40 (lv_at hl 0 rfl) ?_
      obtain ⟨hi_4, hf⟩ := ck_of hf
      refine g_iald hC hW 1 rfl hi_4 dX1_search_42 ?_
      refine lv_if_ne (tgt := 49) hC.1 hC.2.1 dX1_search_43 (by decide) (fun hc_5 => ?_) (fun hc_5 => ?_)
      · have hf := ite_f hf hc_5
        refine lv_aload_n hC.1 hC.2.1 dX1_search_49 rfl (lv_at hl 1 rfl) ?_
        refine g_get hC hW hin1_search_1 0 rfl rfl 1 (by decide) 2 rfl rfl dX1_search_50 ?_
        refine lv_iload hC.1 hC.2.1 dX1_search_53 (lv_at hl 6 rfl) ?_
        refine lv_iload hC.1 hC.2.1 dX1_search_55 (lv_at hl 0 rfl) ?_
        obtain ⟨hi_6, hf⟩ := ck_of hf
        obtain ⟨SK_7, eSK_7⟩ : ∃ y : Ob, y = oA SK 1 (Int32.toNatClampNeg x7) r_2 := ⟨_, rfl⟩
        have hf := lt_nm hf eSK_7
        refine g_iast hC hW 2 rfl hi_6 (w' := w1 cy aK SK_7 ++ (w4 cy aI SI)) (by rw [eSK_7]; rfl) dX1_search_57 (fun H locs hW => ?_)
        obtain ⟨x5_8, ex5_8⟩ : ∃ y : Int32, y = x5 + 1 := ⟨_, rfl⟩
        have hf := lt_nm hf ex5_8
        refine lv_iinc (v := x5_8) (lv' := [(5, .int x5_8), (8, .int r_2), (0, .ref (aK 0)), (3, .int x3), (4, .int x4), (6, .int x6), (7, .int x7)]) hC.1 hC.2.1 dX1_search_58 hl (k := 4) rfl (by rw [ex5_8]; rfl) (by decide) rfl (fun ls hl => ?_)
        refine lv_iload hC.1 hC.2.1 dX1_search_61 (lv_at hl 5 rfl) ?_
        refine lv_iload hC.1 hC.2.1 dX1_search_63 (lv_at hl 0 rfl) ?_
        refine lv_aload_n hC.1 hC.2.1 dX1_search_65 rfl (lv_at hl 2 rfl) ?_
        refine g_get hC hW hin1_search_1 0 rfl rfl 0 (by decide) 1 rfl rfl dX1_search_66 ?_
        refine lv_iload hC.1 hC.2.1 dX1_search_69 (lv_at hl 1 rfl) ?_
        obtain ⟨hi_9, hf⟩ := ck_of hf
        refine g_iald hC hW 1 rfl hi_9 dX1_search_71 ?_
        refine lv_imul hC.1 hC.2.1 dX1_search_72 ?_
        refine lv_iadd hC.1 hC.2.1 dX1_search_73 ?_
        refine lv_topi (fun x6_10 ex6_10 => ?_)
        have hf := lt_nm hf ex6_10
        refine lv_istore (lv' := [(6, .int x6_10), (5, .int x5_8), (8, .int r_2), (0, .ref (aK 0)), (3, .int x3), (4, .int x4), (7, .int x7)]) hC.1 hC.2.1 dX1_search_74 hl (by decide) rfl (fun ls hl => ?_)
        refine lv_aload_n hC.1 hC.2.1 dX1_search_76 rfl (lv_at hl 3 rfl) ?_
        refine g_get hC hW hin1_search_1 0 rfl rfl 0 (by decide) 1 rfl rfl dX1_search_77 ?_
        refine lv_iload hC.1 hC.2.1 dX1_search_80 (lv_at hl 2 rfl) ?_
        refine lv_iconst (v := 0) hC.1 hC.2.1 dX1_search_82 (by decide) ?_
        obtain ⟨hi_11, hf⟩ := ck_of hf
        obtain ⟨SK_12, eSK_12⟩ : ∃ y : Ob, y = oA SK_7 0 (Int32.toNatClampNeg r_2) 0 := ⟨_, rfl⟩
        have hf := lt_nm hf eSK_12
        refine g_iast hC hW 1 rfl hi_11 (w' := w1 cy aK SK_12 ++ (w4 cy aI SI)) (by rw [eSK_12]; rfl) dX1_search_83 (fun H locs hW => ?_)
        obtain ⟨x7_13, ex7_13⟩ : ∃ y : Int32, y = x7 + 1 := ⟨_, rfl⟩
        have hf := lt_nm hf ex7_13
        refine lv_iinc (v := x7_13) (lv' := [(7, .int x7_13), (6, .int x6_10), (5, .int x5_8), (8, .int r_2), (0, .ref (aK 0)), (3, .int x3), (4, .int x4)]) hC.1 hC.2.1 dX1_search_84 hl (k := 6) rfl (by rw [ex7_13]; rfl) (by decide) rfl (fun ls hl => ?_)
        refine lv_goto (tgt := 23) hC.1 hC.2.1 dX1_search_87 (by decide) ?_
        exact ih _ _ _ _ _ _ _ _ _ _ _ hf hW (lv_sub hl [4, 5, 6, 2, 1, 0] rfl)
      · have hf := ite_t hf hc_5
        refine lv_goto (tgt := 90) hC.1 hC.2.1 dX1_search_46 (by decide) ?_
        exact t1_search_90 hC  _ _ _ _ _ _ _ _ _ _ hf hW (lv_sub hl [1, 2, 3, 4, 5] rfl)
set_option maxRecDepth 100000 in
set_option maxHeartbeats 4000000 in
theorem t1_search_0 (hC : Cx p s m args meth c cX1_search 9 wsX1_search RX1 (some .int)) : ∀ (x2 : Int32) (x3 : Int32) (SK : Ob) (SI : Ob) (res : Int32 × Ob) (H : Heap) (locs : List Loc) (ls : Array Slot), f1_search x2 x3 SK SI = some res → GW D cy ad (w1 cy aK SK ++ (w4 cy aI SI)) A s H locs → lv_has ls 9 [(0, .ref (aK 0)), (1, .ref (aI 0)), (2, .int x2), (3, .int x3)] → W p l e rm1_search s m args below meth c H locs 0 0 (MQ below (QI D cy (w1 cy aK (res.2) ++ (w4 cy aI SI)) A (res.1)) args s 0 0 A) (F0 m 0 ls []) := by
  intro x2 x3 SK SI res H locs ls hf hW hl
  unfold f1_search at hf
  refine lv_iload_n hC.1 hC.2.1 dX1_search_0 rfl (lv_at hl 2 rfl) ?_
  refine lv_if_ne (tgt := 6) hC.1 hC.2.1 dX1_search_1 (by decide) (fun hc_1 => ?_) (fun hc_1 => ?_)
  · have hf := ite_f hf hc_1
    refine lv_aload_n hC.1 hC.2.1 dX1_search_6 rfl (lv_at hl 0 rfl) ?_
    refine lv_aload_n hC.1 hC.2.1 dX1_search_7 rfl (lv_at hl 1 rfl) ?_
    refine lv_iload_n hC.1 hC.2.1 dX1_search_8 rfl (lv_at hl 2 rfl) ?_
    obtain ⟨r_2, hg_3, hf⟩ := bd_of hf
    refine g_calliV (w' := w1 cy aK (r_2.2) ++ (w4 cy aI SI)) hC hW (c1_weighRooms l D cy ad aK aI hg_3) (cwV 2 hC.2.2.2.2.1 gX1_search_X1_weighRooms rfl rfl rfl hdV1_weighRooms ⟨Nat.le_of_ble_eq_true rfl, Nat.le_of_ble_eq_true rfl⟩) (Sub.all _ _) 0 1 rfl rfl rfl rfl hl.1 rfl (Nat.le_of_ble_eq_true rfl) dX1_search_9 ⟨Nat.zero_le _, Nat.zero_le _⟩ (fun H locs hW => ?_)
    refine lv_topi (fun x4_4 ex4_4 => ?_)
    have hf := lt_nm hf ex4_4
    refine lv_istore (lv' := [(4, .int x4_4), (0, .ref (aK 0)), (1, .ref (aI 0)), (2, .int x2), (3, .int x3)]) hC.1 hC.2.1 dX1_search_12 hl (by decide) rfl (fun ls hl => ?_)
    refine lv_iconst (v := 0) hC.1 hC.2.1 dX1_search_14 (by decide) ?_
    refine lv_istore (lv' := [(5, .int 0), (4, .int x4_4), (0, .ref (aK 0)), (1, .ref (aI 0)), (2, .int x2), (3, .int x3)]) hC.1 hC.2.1 dX1_search_15 hl (by decide) rfl (fun ls hl => ?_)
    refine lv_iconst (v := 0) hC.1 hC.2.1 dX1_search_17 (by decide) ?_
    refine lv_istore (lv' := [(6, .int 0), (5, .int 0), (4, .int x4_4), (0, .ref (aK 0)), (1, .ref (aI 0)), (2, .int x2), (3, .int x3)]) hC.1 hC.2.1 dX1_search_18 hl (by decide) rfl (fun ls hl => ?_)
    refine lv_iconst (v := 0) hC.1 hC.2.1 dX1_search_20 (by decide) ?_
    refine lv_istore (lv' := [(7, .int 0), (6, .int 0), (5, .int 0), (4, .int x4_4), (0, .ref (aK 0)), (1, .ref (aI 0)), (2, .int x2), (3, .int x3)]) hC.1 hC.2.1 dX1_search_21 hl (by decide) rfl (fun ls hl => ?_)
    exact t1_search_23 hC _ _ _ _ _ _ _ _ _ _ _ _ hf hW (lv_sub hl [4, 7, 3, 2, 1, 0] rfl)
  · have hf := ite_t hf hc_1
    refine lv_iconst (v := (-1)) hC.1 hC.2.1 dX1_search_4 (by decide) ?_
    obtain rfl := Option.some.inj hf
    exact g_iret hC hW dX1_search_5
set_option maxRecDepth 100000 in
set_option maxHeartbeats 4000000 in
theorem c1_search (l : Launch) (D : va_G) (cy : Nat → ClassId) (ad : Nat → Nat) (aK : Nat → Nat) (aI : Nat → Nat) {x2 : Int32} {x3 : Int32} {SK : Ob} {SI : Ob} {res : Int32 × Ob} (h : f1_search x2 x3 SK SI = some res) : GCi l yX1_search wsX1_search rm1_search [.ref (aK 0), .ref (aI 0), .int x2, .int x3] D cy ad (w1 cy aK SK ++ (w4 cy aI SI)) (w1 cy aK (res.2) ++ (w4 cy aI SI)) (res.1) := fun sz => GC.start (own := RX1) (Qc := fun A => QI D cy (w1 cy aK (res.2) ++ (w4 cy aI SI)) A (res.1)) sz (by decide) rfl rfl (Nat.le_of_ble_eq_true rfl) (fun p e s m below meth c A ls hC hW hl => t1_search_0 hC _ _ _ _ _ _ _ _ h hW (lv_sub hl [0, 1, 2, 3] rfl))
end
