/-! laid by program: functions, walks and contracts of 6_withLooks, 6_view, 6_looks, 6_doubtful, 6_knowing, 6_tellingSigns, 6_sayingRounds, 6_seenFrom, 6_reached, 6_next, 6_below, 6_drawnGuest, 6_ofNight, 6_drawnYears -/
theorem dX6_withLooks_0 : decode cX6_withLooks 0 = .ok (.iconst 0, 1) := by decide +kernel
theorem dX6_withLooks_1 : decode cX6_withLooks 1 = .ok (.istore 5, 2) := by decide +kernel
theorem dX6_withLooks_3 : decode cX6_withLooks 3 = .ok (.iconst 0, 1) := by decide +kernel
theorem dX6_withLooks_4 : decode cX6_withLooks 4 = .ok (.istore 6, 2) := by decide +kernel
theorem dX6_withLooks_6 : decode cX6_withLooks 6 = .ok (.iload 6, 2) := by decide +kernel
theorem dX6_withLooks_8 : decode cX6_withLooks 8 = .ok (.bipush 32, 2) := by decide +kernel
theorem dX6_withLooks_10 : decode cX6_withLooks 10 = .ok (.if_icmp .ge 46, 3) := by decide +kernel
theorem dX6_withLooks_13 : decode cX6_withLooks 13 = .ok (.iload_n 2, 1) := by decide +kernel
theorem dX6_withLooks_14 : decode cX6_withLooks 14 = .ok (.iload 6, 2) := by decide +kernel
theorem dX6_withLooks_16 : decode cX6_withLooks 16 = .ok (.iushr, 1) := by decide +kernel
theorem dX6_withLooks_17 : decode cX6_withLooks 17 = .ok (.iconst 1, 1) := by decide +kernel
theorem dX6_withLooks_18 : decode cX6_withLooks 18 = .ok (.iand, 1) := by decide +kernel
theorem dX6_withLooks_19 : decode cX6_withLooks 19 = .ok (.iconst 1, 1) := by decide +kernel
theorem dX6_withLooks_20 : decode cX6_withLooks 20 = .ok (.if_icmp .ne 30, 3) := by decide +kernel
theorem dX6_withLooks_23 : decode cX6_withLooks 23 = .ok (.lload_n 3, 1) := by decide +kernel
theorem dX6_withLooks_24 : decode cX6_withLooks 24 = .ok (.aload_n 0, 1) := by decide +kernel
theorem dX6_withLooks_25 : decode cX6_withLooks 25 = .ok (.getfield 15, 3) := by decide +kernel
theorem dX6_withLooks_28 : decode cX6_withLooks 28 = .ok (.iload 6, 2) := by decide +kernel
theorem dX6_withLooks_30 : decode cX6_withLooks 30 = .ok (.iaload, 1) := by decide +kernel
theorem dX6_withLooks_31 : decode cX6_withLooks 31 = .ok (.iload_n 1, 1) := by decide +kernel
theorem dX6_withLooks_32 : decode cX6_withLooks 32 = .ok (.iand, 1) := by decide +kernel
theorem dX6_withLooks_33 : decode cX6_withLooks 33 = .ok (.lushr, 1) := by decide +kernel
theorem dX6_withLooks_34 : decode cX6_withLooks 34 = .ok (.lconst 1, 1) := by decide +kernel
theorem dX6_withLooks_35 : decode cX6_withLooks 35 = .ok (.land, 1) := by decide +kernel
theorem dX6_withLooks_36 : decode cX6_withLooks 36 = .ok (.lconst 1, 1) := by decide +kernel
theorem dX6_withLooks_37 : decode cX6_withLooks 37 = .ok (.lcmp, 1) := by decide +kernel
theorem dX6_withLooks_38 : decode cX6_withLooks 38 = .ok (.ifCond .ne 12, 3) := by decide +kernel
theorem dX6_withLooks_41 : decode cX6_withLooks 41 = .ok (.iload 5, 2) := by decide +kernel
theorem dX6_withLooks_43 : decode cX6_withLooks 43 = .ok (.iconst 1, 1) := by decide +kernel
theorem dX6_withLooks_44 : decode cX6_withLooks 44 = .ok (.iload 6, 2) := by decide +kernel
theorem dX6_withLooks_46 : decode cX6_withLooks 46 = .ok (.ishl, 1) := by decide +kernel
theorem dX6_withLooks_47 : decode cX6_withLooks 47 = .ok (.ior, 1) := by decide +kernel
theorem dX6_withLooks_48 : decode cX6_withLooks 48 = .ok (.istore 5, 2) := by decide +kernel
theorem dX6_withLooks_50 : decode cX6_withLooks 50 = .ok (.iinc 6 1, 3) := by decide +kernel
theorem dX6_withLooks_53 : decode cX6_withLooks 53 = .ok (.goto (-47), 3) := by decide +kernel
theorem dX6_withLooks_56 : decode cX6_withLooks 56 = .ok (.iload 5, 2) := by decide +kernel
theorem dX6_withLooks_58 : decode cX6_withLooks 58 = .ok (.ireturn, 1) := by decide +kernel
set_option maxRecDepth 20000 in
theorem gX6_view_X6_withLooks : GoodIn wsX6_view (va_wsS RX6 18 yX6_withLooks wsX6_withLooks) := goodIn_r _ [3, 4, 5, 6, 2, 7, 8, 9, 10, 11, 12, 13, 14, 15, 16, 17, 18, 19] rfl (by decide +kernel)
theorem dX6_view_0 : decode cX6_view 0 = .ok (.aload_n 0, 1) := by decide +kernel
theorem dX6_view_1 : decode cX6_view 1 = .ok (.aload_n 0, 1) := by decide +kernel
theorem dX6_view_2 : decode cX6_view 2 = .ok (.getfield 9, 3) := by decide +kernel
theorem dX6_view_5 : decode cX6_view 5 = .ok (.iload_n 1, 1) := by decide +kernel
theorem dX6_view_6 : decode cX6_view 6 = .ok (.iaload, 1) := by decide +kernel
theorem dX6_view_7 : decode cX6_view 7 = .ok (.iload_n 3, 1) := by decide +kernel
theorem dX6_view_8 : decode cX6_view 8 = .ok (.lconst 1, 1) := by decide +kernel
theorem dX6_view_9 : decode cX6_view 9 = .ok (.aload_n 0, 1) := by decide +kernel
theorem dX6_view_10 : decode cX6_view 10 = .ok (.getfield 15, 3) := by decide +kernel
theorem dX6_view_13 : decode cX6_view 13 = .ok (.iload_n 2, 1) := by decide +kernel
theorem dX6_view_14 : decode cX6_view 14 = .ok (.iaload, 1) := by decide +kernel
theorem dX6_view_15 : decode cX6_view 15 = .ok (.aload_n 0, 1) := by decide +kernel
theorem dX6_view_16 : decode cX6_view 16 = .ok (.getfield 9, 3) := by decide +kernel
theorem dX6_view_19 : decode cX6_view 19 = .ok (.iload_n 1, 1) := by decide +kernel
theorem dX6_view_20 : decode cX6_view 20 = .ok (.iaload, 1) := by decide +kernel
theorem dX6_view_21 : decode cX6_view 21 = .ok (.iand, 1) := by decide +kernel
theorem dX6_view_22 : decode cX6_view 22 = .ok (.lshl, 1) := by decide +kernel
theorem dX6_view_23 : decode cX6_view 23 = .ok (.invokestatic 18, 3) := by decide +kernel
theorem dX6_view_26 : decode cX6_view 26 = .ok (.ireturn, 1) := by decide +kernel
theorem dX6_looks_0 : decode cX6_looks 0 = .ok (.lconst 0, 1) := by decide +kernel
theorem dX6_looks_1 : decode cX6_looks 1 = .ok (.lstore 4, 2) := by decide +kernel
theorem dX6_looks_3 : decode cX6_looks 3 = .ok (.iconst 0, 1) := by decide +kernel
theorem dX6_looks_4 : decode cX6_looks 4 = .ok (.istore 6, 2) := by decide +kernel
theorem dX6_looks_6 : decode cX6_looks 6 = .ok (.iload 6, 2) := by decide +kernel
theorem dX6_looks_8 : decode cX6_looks 8 = .ok (.iconst 4, 1) := by decide +kernel
theorem dX6_looks_9 : decode cX6_looks 9 = .ok (.if_icmp .ge 43, 3) := by decide +kernel
theorem dX6_looks_12 : decode cX6_looks 12 = .ok (.iload_n 3, 1) := by decide +kernel
theorem dX6_looks_13 : decode cX6_looks 13 = .ok (.iconst 4, 1) := by decide +kernel
theorem dX6_looks_14 : decode cX6_looks 14 = .ok (.imul, 1) := by decide +kernel
theorem dX6_looks_15 : decode cX6_looks 15 = .ok (.iload 6, 2) := by decide +kernel
theorem dX6_looks_17 : decode cX6_looks 17 = .ok (.iadd, 1) := by decide +kernel
theorem dX6_looks_18 : decode cX6_looks 18 = .ok (.istore 7, 2) := by decide +kernel
theorem dX6_looks_20 : decode cX6_looks 20 = .ok (.iload_n 2, 1) := by decide +kernel
theorem dX6_looks_21 : decode cX6_looks 21 = .ok (.iload 7, 2) := by decide +kernel
theorem dX6_looks_23 : decode cX6_looks 23 = .ok (.iushr, 1) := by decide +kernel
theorem dX6_looks_24 : decode cX6_looks 24 = .ok (.iconst 1, 1) := by decide +kernel
theorem dX6_looks_25 : decode cX6_looks 25 = .ok (.iand, 1) := by decide +kernel
theorem dX6_looks_26 : decode cX6_looks 26 = .ok (.iconst 1, 1) := by decide +kernel
theorem dX6_looks_27 : decode cX6_looks 27 = .ok (.if_icmp .ne 19, 3) := by decide +kernel
theorem dX6_looks_30 : decode cX6_looks 30 = .ok (.lload 4, 2) := by decide +kernel
theorem dX6_looks_32 : decode cX6_looks 32 = .ok (.lconst 1, 1) := by decide +kernel
theorem dX6_looks_33 : decode cX6_looks 33 = .ok (.aload_n 0, 1) := by decide +kernel
theorem dX6_looks_34 : decode cX6_looks 34 = .ok (.getfield 15, 3) := by decide +kernel
theorem dX6_looks_37 : decode cX6_looks 37 = .ok (.iload 7, 2) := by decide +kernel
theorem dX6_looks_39 : decode cX6_looks 39 = .ok (.iaload, 1) := by decide +kernel
theorem dX6_looks_40 : decode cX6_looks 40 = .ok (.iload_n 1, 1) := by decide +kernel
theorem dX6_looks_41 : decode cX6_looks 41 = .ok (.iand, 1) := by decide +kernel
theorem dX6_looks_42 : decode cX6_looks 42 = .ok (.lshl, 1) := by decide +kernel
theorem dX6_looks_43 : decode cX6_looks 43 = .ok (.lor, 1) := by decide +kernel
theorem dX6_looks_44 : decode cX6_looks 44 = .ok (.lstore 4, 2) := by decide +kernel
theorem dX6_looks_46 : decode cX6_looks 46 = .ok (.iinc 6 1, 3) := by decide +kernel
theorem dX6_looks_49 : decode cX6_looks 49 = .ok (.goto (-43), 3) := by decide +kernel
theorem dX6_looks_52 : decode cX6_looks 52 = .ok (.lload 4, 2) := by decide +kernel
theorem dX6_looks_54 : decode cX6_looks 54 = .ok (.lreturn, 1) := by decide +kernel
set_option maxRecDepth 20000 in
theorem gX6_doubtful_X6_looks : GoodIn wsX6_doubtful (va_wsS RX6 28 yX6_looks wsX6_looks) := goodIn_r _ [2, 3, 4, 5, 6, 7, 8, 9, 10, 11, 12, 13, 14, 15, 16, 17, 18, 19] rfl (by decide +kernel)
theorem dX6_doubtful_0 : decode cX6_doubtful 0 = .ok (.lconst 0, 1) := by decide +kernel
theorem dX6_doubtful_1 : decode cX6_doubtful 1 = .ok (.lstore_n 3, 1) := by decide +kernel
theorem dX6_doubtful_2 : decode cX6_doubtful 2 = .ok (.lconst 0, 1) := by decide +kernel
theorem dX6_doubtful_3 : decode cX6_doubtful 3 = .ok (.lstore 5, 2) := by decide +kernel
theorem dX6_doubtful_5 : decode cX6_doubtful 5 = .ok (.iconst 0, 1) := by decide +kernel
theorem dX6_doubtful_6 : decode cX6_doubtful 6 = .ok (.istore 7, 2) := by decide +kernel
theorem dX6_doubtful_8 : decode cX6_doubtful 8 = .ok (.iload 7, 2) := by decide +kernel
theorem dX6_doubtful_10 : decode cX6_doubtful 10 = .ok (.aload_n 0, 1) := by decide +kernel
theorem dX6_doubtful_11 : decode cX6_doubtful 11 = .ok (.getfield 24, 3) := by decide +kernel
theorem dX6_doubtful_14 : decode cX6_doubtful 14 = .ok (.if_icmp .ge 33, 3) := by decide +kernel
theorem dX6_doubtful_17 : decode cX6_doubtful 17 = .ok (.aload_n 0, 1) := by decide +kernel
theorem dX6_doubtful_18 : decode cX6_doubtful 18 = .ok (.iload_n 1, 1) := by decide +kernel
theorem dX6_doubtful_19 : decode cX6_doubtful 19 = .ok (.iload_n 2, 1) := by decide +kernel
theorem dX6_doubtful_20 : decode cX6_doubtful 20 = .ok (.iload 7, 2) := by decide +kernel
theorem dX6_doubtful_22 : decode cX6_doubtful 22 = .ok (.invokestatic 28, 3) := by decide +kernel
theorem dX6_doubtful_25 : decode cX6_doubtful 25 = .ok (.lstore 8, 2) := by decide +kernel
theorem dX6_doubtful_27 : decode cX6_doubtful 27 = .ok (.lload 5, 2) := by decide +kernel
theorem dX6_doubtful_29 : decode cX6_doubtful 29 = .ok (.lload_n 3, 1) := by decide +kernel
theorem dX6_doubtful_30 : decode cX6_doubtful 30 = .ok (.lload 8, 2) := by decide +kernel
theorem dX6_doubtful_32 : decode cX6_doubtful 32 = .ok (.land, 1) := by decide +kernel
theorem dX6_doubtful_33 : decode cX6_doubtful 33 = .ok (.lor, 1) := by decide +kernel
theorem dX6_doubtful_34 : decode cX6_doubtful 34 = .ok (.lstore 5, 2) := by decide +kernel
theorem dX6_doubtful_36 : decode cX6_doubtful 36 = .ok (.lload_n 3, 1) := by decide +kernel
theorem dX6_doubtful_37 : decode cX6_doubtful 37 = .ok (.lload 8, 2) := by decide +kernel
theorem dX6_doubtful_39 : decode cX6_doubtful 39 = .ok (.lor, 1) := by decide +kernel
theorem dX6_doubtful_40 : decode cX6_doubtful 40 = .ok (.lstore_n 3, 1) := by decide +kernel
theorem dX6_doubtful_41 : decode cX6_doubtful 41 = .ok (.iinc 7 1, 3) := by decide +kernel
theorem dX6_doubtful_44 : decode cX6_doubtful 44 = .ok (.goto (-36), 3) := by decide +kernel
theorem dX6_doubtful_47 : decode cX6_doubtful 47 = .ok (.lload 5, 2) := by decide +kernel
theorem dX6_doubtful_49 : decode cX6_doubtful 49 = .ok (.lreturn, 1) := by decide +kernel
set_option maxRecDepth 20000 in
theorem gX6_knowing_X6_doubtful : GoodIn wsX6_knowing (va_wsS RX6 32 yX6_doubtful wsX6_doubtful) := goodIn_r _ [3, 4, 5, 6, 7, 8, 9, 5, 10, 11, 15, 16, 17, 18, 19, 20, 21, 22, 23, 24, 25, 26, 27] rfl (by decide +kernel)
set_option maxRecDepth 20000 in
theorem gX6_knowing_X6_withLooks : GoodIn wsX6_knowing (va_wsS RX6 18 yX6_withLooks wsX6_withLooks) := goodIn_r _ [12, 13, 5, 14, 11, 15, 16, 17, 18, 19, 20, 21, 22, 23, 24, 25, 26, 27] rfl (by decide +kernel)
theorem dX6_knowing_0 : decode cX6_knowing 0 = .ok (.aload_n 0, 1) := by decide +kernel
theorem dX6_knowing_1 : decode cX6_knowing 1 = .ok (.getfield 9, 3) := by decide +kernel
theorem dX6_knowing_4 : decode cX6_knowing 4 = .ok (.iload_n 1, 1) := by decide +kernel
theorem dX6_knowing_5 : decode cX6_knowing 5 = .ok (.iaload, 1) := by decide +kernel
theorem dX6_knowing_6 : decode cX6_knowing 6 = .ok (.istore_n 3, 1) := by decide +kernel
theorem dX6_knowing_7 : decode cX6_knowing 7 = .ok (.aload_n 0, 1) := by decide +kernel
theorem dX6_knowing_8 : decode cX6_knowing 8 = .ok (.iload_n 3, 1) := by decide +kernel
theorem dX6_knowing_9 : decode cX6_knowing 9 = .ok (.iload_n 2, 1) := by decide +kernel
theorem dX6_knowing_10 : decode cX6_knowing 10 = .ok (.aload_n 0, 1) := by decide +kernel
theorem dX6_knowing_11 : decode cX6_knowing 11 = .ok (.iload_n 3, 1) := by decide +kernel
theorem dX6_knowing_12 : decode cX6_knowing 12 = .ok (.iload_n 2, 1) := by decide +kernel
theorem dX6_knowing_13 : decode cX6_knowing 13 = .ok (.invokestatic 32, 3) := by decide +kernel
theorem dX6_knowing_16 : decode cX6_knowing 16 = .ok (.ldc2_w 36, 3) := by decide +kernel
theorem dX6_knowing_19 : decode cX6_knowing 19 = .ok (.lxor, 1) := by decide +kernel
theorem dX6_knowing_20 : decode cX6_knowing 20 = .ok (.invokestatic 18, 3) := by decide +kernel
theorem dX6_knowing_23 : decode cX6_knowing 23 = .ok (.ireturn, 1) := by decide +kernel
set_option maxRecDepth 20000 in
theorem gX6_tellingSigns_J6_bitCount_0f7a4 : GoodIn wsX6_tellingSigns (va_wsS RX6 41 yJ6_bitCount_0f7a4 wsJ6_bitCount_0f7a4) := goodIn_r _ [2, 3, 4, 5, 6, 7, 8] rfl (by decide +kernel)
set_option maxRecDepth 20000 in
theorem gX6_tellingSigns_X6_doubtful : GoodIn wsX6_tellingSigns (va_wsS RX6 32 yX6_doubtful wsX6_doubtful) := goodIn_r _ [9, 10, 11, 12, 13, 14, 15, 11, 16, 17, 18, 19, 20, 21, 22, 23, 24, 25, 26, 27, 28, 29, 30] rfl (by decide +kernel)
theorem dX6_tellingSigns_0 : decode cX6_tellingSigns 0 = .ok (.iconst (-1), 1) := by decide +kernel
theorem dX6_tellingSigns_1 : decode cX6_tellingSigns 1 = .ok (.istore_n 2, 1) := by decide +kernel
theorem dX6_tellingSigns_2 : decode cX6_tellingSigns 2 = .ok (.iconst 0, 1) := by decide +kernel
theorem dX6_tellingSigns_3 : decode cX6_tellingSigns 3 = .ok (.istore_n 3, 1) := by decide +kernel
theorem dX6_tellingSigns_4 : decode cX6_tellingSigns 4 = .ok (.iload_n 3, 1) := by decide +kernel
theorem dX6_tellingSigns_5 : decode cX6_tellingSigns 5 = .ok (.iconst 1, 1) := by decide +kernel
theorem dX6_tellingSigns_6 : decode cX6_tellingSigns 6 = .ok (.aload_n 0, 1) := by decide +kernel
theorem dX6_tellingSigns_7 : decode cX6_tellingSigns 7 = .ok (.getfield 38, 3) := by decide +kernel
theorem dX6_tellingSigns_10 : decode cX6_tellingSigns 10 = .ok (.ishl, 1) := by decide +kernel
theorem dX6_tellingSigns_11 : decode cX6_tellingSigns 11 = .ok (.if_icmp .ge 50, 3) := by decide +kernel
theorem dX6_tellingSigns_14 : decode cX6_tellingSigns 14 = .ok (.iload_n 2, 1) := by decide +kernel
theorem dX6_tellingSigns_15 : decode cX6_tellingSigns 15 = .ok (.iconst (-1), 1) := by decide +kernel
theorem dX6_tellingSigns_16 : decode cX6_tellingSigns 16 = .ok (.if_icmp .eq 14, 3) := by decide +kernel
theorem dX6_tellingSigns_19 : decode cX6_tellingSigns 19 = .ok (.iload_n 3, 1) := by decide +kernel
theorem dX6_tellingSigns_20 : decode cX6_tellingSigns 20 = .ok (.invokestatic 41, 3) := by decide +kernel
theorem dX6_tellingSigns_23 : decode cX6_tellingSigns 23 = .ok (.iload_n 2, 1) := by decide +kernel
theorem dX6_tellingSigns_24 : decode cX6_tellingSigns 24 = .ok (.invokestatic 41, 3) := by decide +kernel
theorem dX6_tellingSigns_27 : decode cX6_tellingSigns 27 = .ok (.if_icmp .ge 7, 3) := by decide +kernel
theorem dX6_tellingSigns_30 : decode cX6_tellingSigns 30 = .ok (.iconst 1, 1) := by decide +kernel
theorem dX6_tellingSigns_31 : decode cX6_tellingSigns 31 = .ok (.goto 4, 3) := by decide +kernel
theorem dX6_tellingSigns_34 : decode cX6_tellingSigns 34 = .ok (.iconst 0, 1) := by decide +kernel
theorem dX6_tellingSigns_35 : decode cX6_tellingSigns 35 = .ok (.istore 4, 2) := by decide +kernel
theorem dX6_tellingSigns_37 : decode cX6_tellingSigns 37 = .ok (.iload 4, 2) := by decide +kernel
theorem dX6_tellingSigns_39 : decode cX6_tellingSigns 39 = .ok (.ifCond .eq 16, 3) := by decide +kernel
theorem dX6_tellingSigns_42 : decode cX6_tellingSigns 42 = .ok (.aload_n 0, 1) := by decide +kernel
theorem dX6_tellingSigns_43 : decode cX6_tellingSigns 43 = .ok (.iload_n 3, 1) := by decide +kernel
theorem dX6_tellingSigns_44 : decode cX6_tellingSigns 44 = .ok (.iload_n 1, 1) := by decide +kernel
theorem dX6_tellingSigns_45 : decode cX6_tellingSigns 45 = .ok (.invokestatic 32, 3) := by decide +kernel
theorem dX6_tellingSigns_48 : decode cX6_tellingSigns 48 = .ok (.lconst 0, 1) := by decide +kernel
theorem dX6_tellingSigns_49 : decode cX6_tellingSigns 49 = .ok (.lcmp, 1) := by decide +kernel
theorem dX6_tellingSigns_50 : decode cX6_tellingSigns 50 = .ok (.ifCond .ne 5, 3) := by decide +kernel
theorem dX6_tellingSigns_53 : decode cX6_tellingSigns 53 = .ok (.iload_n 3, 1) := by decide +kernel
theorem dX6_tellingSigns_54 : decode cX6_tellingSigns 54 = .ok (.istore_n 2, 1) := by decide +kernel
theorem dX6_tellingSigns_55 : decode cX6_tellingSigns 55 = .ok (.iinc 3 1, 3) := by decide +kernel
theorem dX6_tellingSigns_58 : decode cX6_tellingSigns 58 = .ok (.goto (-54), 3) := by decide +kernel
theorem dX6_tellingSigns_61 : decode cX6_tellingSigns 61 = .ok (.iload_n 2, 1) := by decide +kernel
theorem dX6_tellingSigns_62 : decode cX6_tellingSigns 62 = .ok (.ireturn, 1) := by decide +kernel
set_option maxRecDepth 20000 in
theorem gX6_sayingRounds_X6_knowing : GoodIn wsX6_sayingRounds (va_wsS RX6 47 yX6_knowing wsX6_knowing) := goodIn_r _ [2, 3, 4, 5, 6, 7, 8, 9, 4, 10, 1, 11, 12, 13, 14, 15, 16, 17, 18, 19, 20, 21, 22, 23, 24, 25, 26, 27, 28, 29, 30] rfl (by decide +kernel)
theorem dX6_sayingRounds_0 : decode cX6_sayingRounds 0 = .ok (.iload_n 2, 1) := by decide +kernel
theorem dX6_sayingRounds_1 : decode cX6_sayingRounds 1 = .ok (.istore 4, 2) := by decide +kernel
theorem dX6_sayingRounds_3 : decode cX6_sayingRounds 3 = .ok (.iconst 1, 1) := by decide +kernel
theorem dX6_sayingRounds_4 : decode cX6_sayingRounds 4 = .ok (.istore 5, 2) := by decide +kernel
theorem dX6_sayingRounds_6 : decode cX6_sayingRounds 6 = .ok (.iload 5, 2) := by decide +kernel
theorem dX6_sayingRounds_8 : decode cX6_sayingRounds 8 = .ok (.bipush 32, 2) := by decide +kernel
theorem dX6_sayingRounds_10 : decode cX6_sayingRounds 10 = .ok (.if_icmp .gt 97, 3) := by decide +kernel
theorem dX6_sayingRounds_13 : decode cX6_sayingRounds 13 = .ok (.iconst 0, 1) := by decide +kernel
theorem dX6_sayingRounds_14 : decode cX6_sayingRounds 14 = .ok (.istore 6, 2) := by decide +kernel
theorem dX6_sayingRounds_16 : decode cX6_sayingRounds 16 = .ok (.iload 4, 2) := by decide +kernel
theorem dX6_sayingRounds_18 : decode cX6_sayingRounds 18 = .ok (.istore 7, 2) := by decide +kernel
theorem dX6_sayingRounds_20 : decode cX6_sayingRounds 20 = .ok (.iconst 0, 1) := by decide +kernel
theorem dX6_sayingRounds_21 : decode cX6_sayingRounds 21 = .ok (.istore 8, 2) := by decide +kernel
theorem dX6_sayingRounds_23 : decode cX6_sayingRounds 23 = .ok (.iload 8, 2) := by decide +kernel
theorem dX6_sayingRounds_25 : decode cX6_sayingRounds 25 = .ok (.aload_n 0, 1) := by decide +kernel
theorem dX6_sayingRounds_26 : decode cX6_sayingRounds 26 = .ok (.getfield 24, 3) := by decide +kernel
theorem dX6_sayingRounds_29 : decode cX6_sayingRounds 29 = .ok (.if_icmp .ge 42, 3) := by decide +kernel
theorem dX6_sayingRounds_32 : decode cX6_sayingRounds 32 = .ok (.aload_n 0, 1) := by decide +kernel
theorem dX6_sayingRounds_33 : decode cX6_sayingRounds 33 = .ok (.iload 8, 2) := by decide +kernel
theorem dX6_sayingRounds_35 : decode cX6_sayingRounds 35 = .ok (.iload 4, 2) := by decide +kernel
theorem dX6_sayingRounds_37 : decode cX6_sayingRounds 37 = .ok (.invokestatic 47, 3) := by decide +kernel
theorem dX6_sayingRounds_40 : decode cX6_sayingRounds 40 = .ok (.istore 9, 2) := by decide +kernel
theorem dX6_sayingRounds_42 : decode cX6_sayingRounds 42 = .ok (.iload 6, 2) := by decide +kernel
theorem dX6_sayingRounds_44 : decode cX6_sayingRounds 44 = .ok (.iload 9, 2) := by decide +kernel
theorem dX6_sayingRounds_46 : decode cX6_sayingRounds 46 = .ok (.iload_n 1, 1) := by decide +kernel
theorem dX6_sayingRounds_47 : decode cX6_sayingRounds 47 = .ok (.iushr, 1) := by decide +kernel
theorem dX6_sayingRounds_48 : decode cX6_sayingRounds 48 = .ok (.iconst 1, 1) := by decide +kernel
theorem dX6_sayingRounds_49 : decode cX6_sayingRounds 49 = .ok (.iand, 1) := by decide +kernel
theorem dX6_sayingRounds_50 : decode cX6_sayingRounds 50 = .ok (.iload 8, 2) := by decide +kernel
theorem dX6_sayingRounds_52 : decode cX6_sayingRounds 52 = .ok (.ishl, 1) := by decide +kernel
theorem dX6_sayingRounds_53 : decode cX6_sayingRounds 53 = .ok (.ior, 1) := by decide +kernel
theorem dX6_sayingRounds_54 : decode cX6_sayingRounds 54 = .ok (.istore 6, 2) := by decide +kernel
theorem dX6_sayingRounds_56 : decode cX6_sayingRounds 56 = .ok (.iload 7, 2) := by decide +kernel
theorem dX6_sayingRounds_58 : decode cX6_sayingRounds 58 = .ok (.iload 9, 2) := by decide +kernel
theorem dX6_sayingRounds_60 : decode cX6_sayingRounds 60 = .ok (.iconst (-1), 1) := by decide +kernel
theorem dX6_sayingRounds_61 : decode cX6_sayingRounds 61 = .ok (.ixor, 1) := by decide +kernel
theorem dX6_sayingRounds_62 : decode cX6_sayingRounds 62 = .ok (.iand, 1) := by decide +kernel
theorem dX6_sayingRounds_63 : decode cX6_sayingRounds 63 = .ok (.istore 7, 2) := by decide +kernel
theorem dX6_sayingRounds_65 : decode cX6_sayingRounds 65 = .ok (.iinc 8 1, 3) := by decide +kernel
theorem dX6_sayingRounds_68 : decode cX6_sayingRounds 68 = .ok (.goto (-45), 3) := by decide +kernel
theorem dX6_sayingRounds_71 : decode cX6_sayingRounds 71 = .ok (.iload 6, 2) := by decide +kernel
theorem dX6_sayingRounds_73 : decode cX6_sayingRounds 73 = .ok (.ifCond .eq 15, 3) := by decide +kernel
theorem dX6_sayingRounds_76 : decode cX6_sayingRounds 76 = .ok (.iload_n 3, 1) := by decide +kernel
theorem dX6_sayingRounds_77 : decode cX6_sayingRounds 77 = .ok (.ifCond .eq 8, 3) := by decide +kernel
theorem dX6_sayingRounds_80 : decode cX6_sayingRounds 80 = .ok (.iload 6, 2) := by decide +kernel
theorem dX6_sayingRounds_82 : decode cX6_sayingRounds 82 = .ok (.goto 5, 3) := by decide +kernel
theorem dX6_sayingRounds_85 : decode cX6_sayingRounds 85 = .ok (.iload 5, 2) := by decide +kernel
theorem dX6_sayingRounds_87 : decode cX6_sayingRounds 87 = .ok (.ireturn, 1) := by decide +kernel
theorem dX6_sayingRounds_88 : decode cX6_sayingRounds 88 = .ok (.iload 7, 2) := by decide +kernel
theorem dX6_sayingRounds_90 : decode cX6_sayingRounds 90 = .ok (.iload 4, 2) := by decide +kernel
theorem dX6_sayingRounds_92 : decode cX6_sayingRounds 92 = .ok (.if_icmp .ne 5, 3) := by decide +kernel
theorem dX6_sayingRounds_95 : decode cX6_sayingRounds 95 = .ok (.iconst (-1), 1) := by decide +kernel
theorem dX6_sayingRounds_96 : decode cX6_sayingRounds 96 = .ok (.ireturn, 1) := by decide +kernel
theorem dX6_sayingRounds_97 : decode cX6_sayingRounds 97 = .ok (.iload 7, 2) := by decide +kernel
theorem dX6_sayingRounds_99 : decode cX6_sayingRounds 99 = .ok (.istore 4, 2) := by decide +kernel
theorem dX6_sayingRounds_101 : decode cX6_sayingRounds 101 = .ok (.iinc 5 1, 3) := by decide +kernel
theorem dX6_sayingRounds_104 : decode cX6_sayingRounds 104 = .ok (.goto (-98), 3) := by decide +kernel
theorem dX6_sayingRounds_107 : decode cX6_sayingRounds 107 = .ok (.iconst (-1), 1) := by decide +kernel
theorem dX6_sayingRounds_108 : decode cX6_sayingRounds 108 = .ok (.ireturn, 1) := by decide +kernel
set_option maxRecDepth 20000 in
theorem gX6_seenFrom_X6_looks : GoodIn wsX6_seenFrom (va_wsS RX6 28 yX6_looks wsX6_looks) := goodIn_r _ [2, 3, 4, 5, 6, 10, 11, 12, 13, 14, 15, 16, 17, 18, 19, 20, 21, 22] rfl (by decide +kernel)
set_option maxRecDepth 20000 in
theorem gX6_seenFrom_X6_withLooks : GoodIn wsX6_seenFrom (va_wsS RX6 18 yX6_withLooks wsX6_withLooks) := goodIn_r _ [7, 8, 4, 9, 6, 10, 11, 12, 13, 14, 15, 16, 17, 18, 19, 20, 21, 22] rfl (by decide +kernel)
theorem dX6_seenFrom_0 : decode cX6_seenFrom 0 = .ok (.lconst 0, 1) := by decide +kernel
theorem dX6_seenFrom_1 : decode cX6_seenFrom 1 = .ok (.lstore 4, 2) := by decide +kernel
theorem dX6_seenFrom_3 : decode cX6_seenFrom 3 = .ok (.iconst 0, 1) := by decide +kernel
theorem dX6_seenFrom_4 : decode cX6_seenFrom 4 = .ok (.istore 6, 2) := by decide +kernel
theorem dX6_seenFrom_6 : decode cX6_seenFrom 6 = .ok (.iload 6, 2) := by decide +kernel
theorem dX6_seenFrom_8 : decode cX6_seenFrom 8 = .ok (.aload_n 0, 1) := by decide +kernel
theorem dX6_seenFrom_9 : decode cX6_seenFrom 9 = .ok (.getfield 24, 3) := by decide +kernel
theorem dX6_seenFrom_12 : decode cX6_seenFrom 12 = .ok (.if_icmp .ge 22, 3) := by decide +kernel
theorem dX6_seenFrom_15 : decode cX6_seenFrom 15 = .ok (.lload 4, 2) := by decide +kernel
theorem dX6_seenFrom_17 : decode cX6_seenFrom 17 = .ok (.aload_n 0, 1) := by decide +kernel
theorem dX6_seenFrom_18 : decode cX6_seenFrom 18 = .ok (.iload_n 1, 1) := by decide +kernel
theorem dX6_seenFrom_19 : decode cX6_seenFrom 19 = .ok (.iload_n 3, 1) := by decide +kernel
theorem dX6_seenFrom_20 : decode cX6_seenFrom 20 = .ok (.iload 6, 2) := by decide +kernel
theorem dX6_seenFrom_22 : decode cX6_seenFrom 22 = .ok (.invokestatic 28, 3) := by decide +kernel
theorem dX6_seenFrom_25 : decode cX6_seenFrom 25 = .ok (.lor, 1) := by decide +kernel
theorem dX6_seenFrom_26 : decode cX6_seenFrom 26 = .ok (.lstore 4, 2) := by decide +kernel
theorem dX6_seenFrom_28 : decode cX6_seenFrom 28 = .ok (.iinc 6 1, 3) := by decide +kernel
theorem dX6_seenFrom_31 : decode cX6_seenFrom 31 = .ok (.goto (-25), 3) := by decide +kernel
theorem dX6_seenFrom_34 : decode cX6_seenFrom 34 = .ok (.aload_n 0, 1) := by decide +kernel
theorem dX6_seenFrom_35 : decode cX6_seenFrom 35 = .ok (.iload_n 1, 1) := by decide +kernel
theorem dX6_seenFrom_36 : decode cX6_seenFrom 36 = .ok (.iload_n 2, 1) := by decide +kernel
theorem dX6_seenFrom_37 : decode cX6_seenFrom 37 = .ok (.lload 4, 2) := by decide +kernel
theorem dX6_seenFrom_39 : decode cX6_seenFrom 39 = .ok (.invokestatic 18, 3) := by decide +kernel
theorem dX6_seenFrom_42 : decode cX6_seenFrom 42 = .ok (.ireturn, 1) := by decide +kernel
set_option maxRecDepth 20000 in
theorem gX6_reached_X6_seenFrom : GoodIn wsX6_reached (va_wsS RX6 51 yX6_seenFrom wsX6_seenFrom) := goodIn_r _ [3, 4, 5, 6, 1, 7, 8, 5, 9, 10, 11, 12, 13, 14, 15, 16, 17, 18, 19, 20, 21, 22, 23, 24, 25, 26] rfl (by decide +kernel)
theorem dX6_reached_0 : decode cX6_reached 0 = .ok (.iconst 1, 1) := by decide +kernel
theorem dX6_reached_1 : decode cX6_reached 1 = .ok (.iload_n 1, 1) := by decide +kernel
theorem dX6_reached_2 : decode cX6_reached 2 = .ok (.ishl, 1) := by decide +kernel
theorem dX6_reached_3 : decode cX6_reached 3 = .ok (.istore_n 3, 1) := by decide +kernel
theorem dX6_reached_4 : decode cX6_reached 4 = .ok (.iconst 0, 1) := by decide +kernel
theorem dX6_reached_5 : decode cX6_reached 5 = .ok (.istore 4, 2) := by decide +kernel
theorem dX6_reached_7 : decode cX6_reached 7 = .ok (.iload 4, 2) := by decide +kernel
theorem dX6_reached_9 : decode cX6_reached 9 = .ok (.bipush 32, 2) := by decide +kernel
theorem dX6_reached_11 : decode cX6_reached 11 = .ok (.if_icmp .ge 55, 3) := by decide +kernel
theorem dX6_reached_14 : decode cX6_reached 14 = .ok (.iload_n 3, 1) := by decide +kernel
theorem dX6_reached_15 : decode cX6_reached 15 = .ok (.istore 5, 2) := by decide +kernel
theorem dX6_reached_17 : decode cX6_reached 17 = .ok (.iconst 0, 1) := by decide +kernel
theorem dX6_reached_18 : decode cX6_reached 18 = .ok (.istore 6, 2) := by decide +kernel
theorem dX6_reached_20 : decode cX6_reached 20 = .ok (.iload 6, 2) := by decide +kernel
theorem dX6_reached_22 : decode cX6_reached 22 = .ok (.aload_n 0, 1) := by decide +kernel
theorem dX6_reached_23 : decode cX6_reached 23 = .ok (.getfield 24, 3) := by decide +kernel
theorem dX6_reached_26 : decode cX6_reached 26 = .ok (.if_icmp .ge 25, 3) := by decide +kernel
theorem dX6_reached_29 : decode cX6_reached 29 = .ok (.iload_n 3, 1) := by decide +kernel
theorem dX6_reached_30 : decode cX6_reached 30 = .ok (.aload_n 0, 1) := by decide +kernel
theorem dX6_reached_31 : decode cX6_reached 31 = .ok (.aload_n 0, 1) := by decide +kernel
theorem dX6_reached_32 : decode cX6_reached 32 = .ok (.getfield 9, 3) := by decide +kernel
theorem dX6_reached_35 : decode cX6_reached 35 = .ok (.iload 6, 2) := by decide +kernel
theorem dX6_reached_37 : decode cX6_reached 37 = .ok (.iaload, 1) := by decide +kernel
theorem dX6_reached_38 : decode cX6_reached 38 = .ok (.iload_n 2, 1) := by decide +kernel
theorem dX6_reached_39 : decode cX6_reached 39 = .ok (.iload_n 3, 1) := by decide +kernel
theorem dX6_reached_40 : decode cX6_reached 40 = .ok (.invokestatic 51, 3) := by decide +kernel
theorem dX6_reached_43 : decode cX6_reached 43 = .ok (.ior, 1) := by decide +kernel
theorem dX6_reached_44 : decode cX6_reached 44 = .ok (.istore_n 3, 1) := by decide +kernel
theorem dX6_reached_45 : decode cX6_reached 45 = .ok (.iinc 6 1, 3) := by decide +kernel
theorem dX6_reached_48 : decode cX6_reached 48 = .ok (.goto (-28), 3) := by decide +kernel
theorem dX6_reached_51 : decode cX6_reached 51 = .ok (.iload_n 3, 1) := by decide +kernel
theorem dX6_reached_52 : decode cX6_reached 52 = .ok (.iload 5, 2) := by decide +kernel
theorem dX6_reached_54 : decode cX6_reached 54 = .ok (.if_icmp .ne 6, 3) := by decide +kernel
theorem dX6_reached_57 : decode cX6_reached 57 = .ok (.goto 9, 3) := by decide +kernel
theorem dX6_reached_60 : decode cX6_reached 60 = .ok (.iinc 4 1, 3) := by decide +kernel
theorem dX6_reached_63 : decode cX6_reached 63 = .ok (.goto (-56), 3) := by decide +kernel
theorem dX6_reached_66 : decode cX6_reached 66 = .ok (.iload_n 3, 1) := by decide +kernel
theorem dX6_reached_67 : decode cX6_reached 67 = .ok (.ireturn, 1) := by decide +kernel
theorem dX6_next_0 : decode cX6_next 0 = .ok (.lload_n 0, 1) := by decide +kernel
theorem dX6_next_1 : decode cX6_next 1 = .ok (.ldc2_w 73, 3) := by decide +kernel
theorem dX6_next_4 : decode cX6_next 4 = .ok (.lmul, 1) := by decide +kernel
theorem dX6_next_5 : decode cX6_next 5 = .ok (.ldc2_w 75, 3) := by decide +kernel
theorem dX6_next_8 : decode cX6_next 8 = .ok (.ladd, 1) := by decide +kernel
theorem dX6_next_9 : decode cX6_next 9 = .ok (.ldc2_w 77, 3) := by decide +kernel
theorem dX6_next_12 : decode cX6_next 12 = .ok (.lrem, 1) := by decide +kernel
theorem dX6_next_13 : decode cX6_next 13 = .ok (.lreturn, 1) := by decide +kernel
theorem dX6_below_0 : decode cX6_below 0 = .ok (.iload_n 2, 1) := by decide +kernel
theorem dX6_below_1 : decode cX6_below 1 = .ok (.ifCond .gt 7, 3) := by decide +kernel
theorem dX6_below_4 : decode cX6_below 4 = .ok (.iconst 0, 1) := by decide +kernel
theorem dX6_below_5 : decode cX6_below 5 = .ok (.goto 12, 3) := by decide +kernel
theorem dX6_below_8 : decode cX6_below 8 = .ok (.lload_n 0, 1) := by decide +kernel
theorem dX6_below_9 : decode cX6_below 9 = .ok (.ldc2_w 79, 3) := by decide +kernel
theorem dX6_below_12 : decode cX6_below 12 = .ok (.ldiv, 1) := by decide +kernel
theorem dX6_below_13 : decode cX6_below 13 = .ok (.iload_n 2, 1) := by decide +kernel
theorem dX6_below_14 : decode cX6_below 14 = .ok (.i2l, 1) := by decide +kernel
theorem dX6_below_15 : decode cX6_below 15 = .ok (.lrem, 1) := by decide +kernel
theorem dX6_below_16 : decode cX6_below 16 = .ok (.l2i, 1) := by decide +kernel
theorem dX6_below_17 : decode cX6_below 17 = .ok (.ireturn, 1) := by decide +kernel
theorem dX6_drawnGuest_0 : decode cX6_drawnGuest 0 = .ok (.iload_n 1, 1) := by decide +kernel
theorem dX6_drawnGuest_1 : decode cX6_drawnGuest 1 = .ok (.istore_n 2, 1) := by decide +kernel
theorem dX6_drawnGuest_2 : decode cX6_drawnGuest 2 = .ok (.iconst 0, 1) := by decide +kernel
theorem dX6_drawnGuest_3 : decode cX6_drawnGuest 3 = .ok (.istore_n 3, 1) := by decide +kernel
theorem dX6_drawnGuest_4 : decode cX6_drawnGuest 4 = .ok (.iload_n 3, 1) := by decide +kernel
theorem dX6_drawnGuest_5 : decode cX6_drawnGuest 5 = .ok (.aload_n 0, 1) := by decide +kernel
theorem dX6_drawnGuest_6 : decode cX6_drawnGuest 6 = .ok (.getfield 24, 3) := by decide +kernel
theorem dX6_drawnGuest_9 : decode cX6_drawnGuest 9 = .ok (.if_icmp .ge 30, 3) := by decide +kernel
theorem dX6_drawnGuest_12 : decode cX6_drawnGuest 12 = .ok (.iload_n 2, 1) := by decide +kernel
theorem dX6_drawnGuest_13 : decode cX6_drawnGuest 13 = .ok (.aload_n 0, 1) := by decide +kernel
theorem dX6_drawnGuest_14 : decode cX6_drawnGuest 14 = .ok (.getfield 55, 3) := by decide +kernel
theorem dX6_drawnGuest_17 : decode cX6_drawnGuest 17 = .ok (.iload_n 3, 1) := by decide +kernel
theorem dX6_drawnGuest_18 : decode cX6_drawnGuest 18 = .ok (.iaload, 1) := by decide +kernel
theorem dX6_drawnGuest_19 : decode cX6_drawnGuest 19 = .ok (.if_icmp .ge 5, 3) := by decide +kernel
theorem dX6_drawnGuest_22 : decode cX6_drawnGuest 22 = .ok (.iload_n 3, 1) := by decide +kernel
theorem dX6_drawnGuest_23 : decode cX6_drawnGuest 23 = .ok (.ireturn, 1) := by decide +kernel
theorem dX6_drawnGuest_24 : decode cX6_drawnGuest 24 = .ok (.iload_n 2, 1) := by decide +kernel
theorem dX6_drawnGuest_25 : decode cX6_drawnGuest 25 = .ok (.aload_n 0, 1) := by decide +kernel
theorem dX6_drawnGuest_26 : decode cX6_drawnGuest 26 = .ok (.getfield 55, 3) := by decide +kernel
theorem dX6_drawnGuest_29 : decode cX6_drawnGuest 29 = .ok (.iload_n 3, 1) := by decide +kernel
theorem dX6_drawnGuest_30 : decode cX6_drawnGuest 30 = .ok (.iaload, 1) := by decide +kernel
theorem dX6_drawnGuest_31 : decode cX6_drawnGuest 31 = .ok (.isub, 1) := by decide +kernel
theorem dX6_drawnGuest_32 : decode cX6_drawnGuest 32 = .ok (.istore_n 2, 1) := by decide +kernel
theorem dX6_drawnGuest_33 : decode cX6_drawnGuest 33 = .ok (.iinc 3 1, 3) := by decide +kernel
theorem dX6_drawnGuest_36 : decode cX6_drawnGuest 36 = .ok (.goto (-32), 3) := by decide +kernel
theorem dX6_drawnGuest_39 : decode cX6_drawnGuest 39 = .ok (.iconst 0, 1) := by decide +kernel
theorem dX6_drawnGuest_40 : decode cX6_drawnGuest 40 = .ok (.ireturn, 1) := by decide +kernel
set_option maxRecDepth 20000 in
theorem gX6_ofNight_J6_bitCount_0f7a4 : GoodIn wsX6_ofNight (va_wsS RX6 41 yJ6_bitCount_0f7a4 wsJ6_bitCount_0f7a4) := goodIn_r _ [4, 5, 6, 7, 8, 9, 10] rfl (by decide +kernel)
set_option maxRecDepth 20000 in
theorem gX6_ofNight_X4_all : GoodIn wsX6_ofNight (wsV RX6 81 RX4 yX4_all wsX4_all) := goodIn_r _ [11, 12, 13, 14, 15, 16, 25, 26, 27, 28, 29, 30, 31, 32, 33, 34, 35, 36, 37] rfl (by decide +kernel)
set_option maxRecDepth 20000 in
theorem gX6_ofNight_X6_doubtful : GoodIn wsX6_ofNight (va_wsS RX6 32 yX6_doubtful wsX6_doubtful) := goodIn_r _ [17, 18, 19, 20, 21, 22, 23, 19, 24, 1, 25, 26, 27, 28, 29, 30, 31, 32, 33, 34, 35, 36, 37] rfl (by decide +kernel)
theorem dX6_ofNight_0 : decode cX6_ofNight 0 = .ok (.aload_n 0, 1) := by decide +kernel
theorem dX6_ofNight_1 : decode cX6_ofNight 1 = .ok (.getfield 15, 3) := by decide +kernel
theorem dX6_ofNight_4 : decode cX6_ofNight 4 = .ok (.iload_n 1, 1) := by decide +kernel
theorem dX6_ofNight_5 : decode cX6_ofNight 5 = .ok (.iconst 4, 1) := by decide +kernel
theorem dX6_ofNight_6 : decode cX6_ofNight 6 = .ok (.imul, 1) := by decide +kernel
theorem dX6_ofNight_7 : decode cX6_ofNight 7 = .ok (.iload_n 2, 1) := by decide +kernel
theorem dX6_ofNight_8 : decode cX6_ofNight 8 = .ok (.iadd, 1) := by decide +kernel
theorem dX6_ofNight_9 : decode cX6_ofNight 9 = .ok (.iaload, 1) := by decide +kernel
theorem dX6_ofNight_10 : decode cX6_ofNight 10 = .ok (.istore 4, 2) := by decide +kernel
theorem dX6_ofNight_12 : decode cX6_ofNight 12 = .ok (.iload_n 3, 1) := by decide +kernel
theorem dX6_ofNight_13 : decode cX6_ofNight 13 = .ok (.iconst 2, 1) := by decide +kernel
theorem dX6_ofNight_14 : decode cX6_ofNight 14 = .ok (.if_icmp .ne 9, 3) := by decide +kernel
theorem dX6_ofNight_17 : decode cX6_ofNight 17 = .ok (.iload 4, 2) := by decide +kernel
theorem dX6_ofNight_19 : decode cX6_ofNight 19 = .ok (.invokestatic 41, 3) := by decide +kernel
theorem dX6_ofNight_22 : decode cX6_ofNight 22 = .ok (.ireturn, 1) := by decide +kernel
theorem dX6_ofNight_23 : decode cX6_ofNight 23 = .ok (.iload_n 3, 1) := by decide +kernel
theorem dX6_ofNight_24 : decode cX6_ofNight 24 = .ok (.ifCond .ne 14, 3) := by decide +kernel
theorem dX6_ofNight_27 : decode cX6_ofNight 27 = .ok (.iconst 1, 1) := by decide +kernel
theorem dX6_ofNight_28 : decode cX6_ofNight 28 = .ok (.aload_n 0, 1) := by decide +kernel
theorem dX6_ofNight_29 : decode cX6_ofNight 29 = .ok (.getfield 38, 3) := by decide +kernel
theorem dX6_ofNight_32 : decode cX6_ofNight 32 = .ok (.ishl, 1) := by decide +kernel
theorem dX6_ofNight_33 : decode cX6_ofNight 33 = .ok (.iconst 1, 1) := by decide +kernel
theorem dX6_ofNight_34 : decode cX6_ofNight 34 = .ok (.isub, 1) := by decide +kernel
theorem dX6_ofNight_35 : decode cX6_ofNight 35 = .ok (.goto 9, 3) := by decide +kernel
theorem dX6_ofNight_38 : decode cX6_ofNight 38 = .ok (.aload_n 0, 1) := by decide +kernel
theorem dX6_ofNight_39 : decode cX6_ofNight 39 = .ok (.getfield 9, 3) := by decide +kernel
theorem dX6_ofNight_42 : decode cX6_ofNight 42 = .ok (.iload_n 1, 1) := by decide +kernel
theorem dX6_ofNight_43 : decode cX6_ofNight 43 = .ok (.iaload, 1) := by decide +kernel
theorem dX6_ofNight_44 : decode cX6_ofNight 44 = .ok (.istore 5, 2) := by decide +kernel
theorem dX6_ofNight_46 : decode cX6_ofNight 46 = .ok (.aload_n 0, 1) := by decide +kernel
theorem dX6_ofNight_47 : decode cX6_ofNight 47 = .ok (.iload 5, 2) := by decide +kernel
theorem dX6_ofNight_49 : decode cX6_ofNight 49 = .ok (.aload_n 0, 1) := by decide +kernel
theorem dX6_ofNight_50 : decode cX6_ofNight 50 = .ok (.invokevirtual 81, 3) := by decide +kernel
theorem dX6_ofNight_53 : decode cX6_ofNight 53 = .ok (.invokestatic 32, 3) := by decide +kernel
theorem dX6_ofNight_56 : decode cX6_ofNight 56 = .ok (.iload 4, 2) := by decide +kernel
theorem dX6_ofNight_58 : decode cX6_ofNight 58 = .ok (.iload 5, 2) := by decide +kernel
theorem dX6_ofNight_60 : decode cX6_ofNight 60 = .ok (.iand, 1) := by decide +kernel
theorem dX6_ofNight_61 : decode cX6_ofNight 61 = .ok (.lushr, 1) := by decide +kernel
theorem dX6_ofNight_62 : decode cX6_ofNight 62 = .ok (.lconst 1, 1) := by decide +kernel
theorem dX6_ofNight_63 : decode cX6_ofNight 63 = .ok (.land, 1) := by decide +kernel
theorem dX6_ofNight_64 : decode cX6_ofNight 64 = .ok (.lconst 0, 1) := by decide +kernel
theorem dX6_ofNight_65 : decode cX6_ofNight 65 = .ok (.lcmp, 1) := by decide +kernel
theorem dX6_ofNight_66 : decode cX6_ofNight 66 = .ok (.ifCond .ne 7, 3) := by decide +kernel
theorem dX6_ofNight_69 : decode cX6_ofNight 69 = .ok (.iconst 1, 1) := by decide +kernel
theorem dX6_ofNight_70 : decode cX6_ofNight 70 = .ok (.goto 4, 3) := by decide +kernel
theorem dX6_ofNight_73 : decode cX6_ofNight 73 = .ok (.iconst 0, 1) := by decide +kernel
theorem dX6_ofNight_74 : decode cX6_ofNight 74 = .ok (.ireturn, 1) := by decide +kernel
set_option maxRecDepth 20000 in
theorem gX6_drawnYears_X6_next : GoodIn wsX6_drawnYears (va_wsS RX6 58 yX6_next wsX6_next) := goodIn_r _ [3, 4, 5, 6, 7, 8, 9] rfl (by decide +kernel)
set_option maxRecDepth 20000 in
theorem gX6_drawnYears_X6_below : GoodIn wsX6_drawnYears (va_wsS RX6 62 yX6_below wsX6_below) := goodIn_r _ [10, 11, 5, 12, 13] rfl (by decide +kernel)
set_option maxRecDepth 20000 in
theorem gX6_drawnYears_X6_drawnGuest : GoodIn wsX6_drawnYears (va_wsS RX6 66 yX6_drawnGuest wsX6_drawnGuest) := goodIn_r _ [14, 15, 5, 16, 1, 2, 42, 43, 44, 45, 46, 47, 48, 49, 50, 51, 52, 53, 54] rfl (by decide +kernel)
set_option maxRecDepth 20000 in
theorem gX6_drawnYears_X6_ofNight : GoodIn wsX6_drawnYears (va_wsS RX6 70 yX6_ofNight wsX6_ofNight) := goodIn_r _ [17, 18, 5, 19, 20, 21, 22, 23, 24, 25, 26, 27, 28, 29, 30, 31, 32, 33, 34, 35, 36, 37, 5, 38, 1, 39, 40, 41, 42, 43, 44, 45, 46, 47, 48, 49, 50, 51, 52, 53, 54] rfl (by decide +kernel)
theorem dX6_drawnYears_0 : decode cX6_drawnYears 0 = .ok (.iconst 0, 1) := by decide +kernel
theorem dX6_drawnYears_1 : decode cX6_drawnYears 1 = .ok (.istore 4, 2) := by decide +kernel
theorem dX6_drawnYears_3 : decode cX6_drawnYears 3 = .ok (.iconst 0, 1) := by decide +kernel
theorem dX6_drawnYears_4 : decode cX6_drawnYears 4 = .ok (.istore 5, 2) := by decide +kernel
theorem dX6_drawnYears_6 : decode cX6_drawnYears 6 = .ok (.iload 5, 2) := by decide +kernel
theorem dX6_drawnYears_8 : decode cX6_drawnYears 8 = .ok (.aload_n 0, 1) := by decide +kernel
theorem dX6_drawnYears_9 : decode cX6_drawnYears 9 = .ok (.getfield 24, 3) := by decide +kernel
theorem dX6_drawnYears_12 : decode cX6_drawnYears 12 = .ok (.if_icmp .ge 21, 3) := by decide +kernel
theorem dX6_drawnYears_15 : decode cX6_drawnYears 15 = .ok (.iload 4, 2) := by decide +kernel
theorem dX6_drawnYears_17 : decode cX6_drawnYears 17 = .ok (.aload_n 0, 1) := by decide +kernel
theorem dX6_drawnYears_18 : decode cX6_drawnYears 18 = .ok (.getfield 55, 3) := by decide +kernel
theorem dX6_drawnYears_21 : decode cX6_drawnYears 21 = .ok (.iload 5, 2) := by decide +kernel
theorem dX6_drawnYears_23 : decode cX6_drawnYears 23 = .ok (.iaload, 1) := by decide +kernel
theorem dX6_drawnYears_24 : decode cX6_drawnYears 24 = .ok (.iadd, 1) := by decide +kernel
theorem dX6_drawnYears_25 : decode cX6_drawnYears 25 = .ok (.istore 4, 2) := by decide +kernel
theorem dX6_drawnYears_27 : decode cX6_drawnYears 27 = .ok (.iinc 5 1, 3) := by decide +kernel
theorem dX6_drawnYears_30 : decode cX6_drawnYears 30 = .ok (.goto (-24), 3) := by decide +kernel
theorem dX6_drawnYears_33 : decode cX6_drawnYears 33 = .ok (.iload_n 1, 1) := by decide +kernel
theorem dX6_drawnYears_34 : decode cX6_drawnYears 34 = .ok (.i2l, 1) := by decide +kernel
theorem dX6_drawnYears_35 : decode cX6_drawnYears 35 = .ok (.lstore 5, 2) := by decide +kernel
theorem dX6_drawnYears_37 : decode cX6_drawnYears 37 = .ok (.iconst 0, 1) := by decide +kernel
theorem dX6_drawnYears_38 : decode cX6_drawnYears 38 = .ok (.istore 7, 2) := by decide +kernel
theorem dX6_drawnYears_40 : decode cX6_drawnYears 40 = .ok (.iconst 0, 1) := by decide +kernel
theorem dX6_drawnYears_41 : decode cX6_drawnYears 41 = .ok (.istore 8, 2) := by decide +kernel
theorem dX6_drawnYears_43 : decode cX6_drawnYears 43 = .ok (.iload 8, 2) := by decide +kernel
theorem dX6_drawnYears_45 : decode cX6_drawnYears 45 = .ok (.iload_n 2, 1) := by decide +kernel
theorem dX6_drawnYears_46 : decode cX6_drawnYears 46 = .ok (.if_icmp .ge 54, 3) := by decide +kernel
theorem dX6_drawnYears_49 : decode cX6_drawnYears 49 = .ok (.lload 5, 2) := by decide +kernel
theorem dX6_drawnYears_51 : decode cX6_drawnYears 51 = .ok (.invokestatic 58, 3) := by decide +kernel
theorem dX6_drawnYears_54 : decode cX6_drawnYears 54 = .ok (.lstore 5, 2) := by decide +kernel
theorem dX6_drawnYears_56 : decode cX6_drawnYears 56 = .ok (.aload_n 0, 1) := by decide +kernel
theorem dX6_drawnYears_57 : decode cX6_drawnYears 57 = .ok (.lload 5, 2) := by decide +kernel
theorem dX6_drawnYears_59 : decode cX6_drawnYears 59 = .ok (.iload 4, 2) := by decide +kernel
theorem dX6_drawnYears_61 : decode cX6_drawnYears 61 = .ok (.invokestatic 62, 3) := by decide +kernel
theorem dX6_drawnYears_64 : decode cX6_drawnYears 64 = .ok (.invokestatic 66, 3) := by decide +kernel
theorem dX6_drawnYears_67 : decode cX6_drawnYears 67 = .ok (.istore 9, 2) := by decide +kernel
theorem dX6_drawnYears_69 : decode cX6_drawnYears 69 = .ok (.lload 5, 2) := by decide +kernel
theorem dX6_drawnYears_71 : decode cX6_drawnYears 71 = .ok (.invokestatic 58, 3) := by decide +kernel
theorem dX6_drawnYears_74 : decode cX6_drawnYears 74 = .ok (.lstore 5, 2) := by decide +kernel
theorem dX6_drawnYears_76 : decode cX6_drawnYears 76 = .ok (.iload 7, 2) := by decide +kernel
theorem dX6_drawnYears_78 : decode cX6_drawnYears 78 = .ok (.aload_n 0, 1) := by decide +kernel
theorem dX6_drawnYears_79 : decode cX6_drawnYears 79 = .ok (.iload 9, 2) := by decide +kernel
theorem dX6_drawnYears_81 : decode cX6_drawnYears 81 = .ok (.lload 5, 2) := by decide +kernel
theorem dX6_drawnYears_83 : decode cX6_drawnYears 83 = .ok (.iconst 4, 1) := by decide +kernel
theorem dX6_drawnYears_84 : decode cX6_drawnYears 84 = .ok (.invokestatic 62, 3) := by decide +kernel
theorem dX6_drawnYears_87 : decode cX6_drawnYears 87 = .ok (.iload_n 3, 1) := by decide +kernel
theorem dX6_drawnYears_88 : decode cX6_drawnYears 88 = .ok (.invokestatic 70, 3) := by decide +kernel
theorem dX6_drawnYears_91 : decode cX6_drawnYears 91 = .ok (.iadd, 1) := by decide +kernel
theorem dX6_drawnYears_92 : decode cX6_drawnYears 92 = .ok (.istore 7, 2) := by decide +kernel
theorem dX6_drawnYears_94 : decode cX6_drawnYears 94 = .ok (.iinc 8 1, 3) := by decide +kernel
theorem dX6_drawnYears_97 : decode cX6_drawnYears 97 = .ok (.goto (-54), 3) := by decide +kernel
theorem dX6_drawnYears_100 : decode cX6_drawnYears 100 = .ok (.iload 7, 2) := by decide +kernel
theorem dX6_drawnYears_102 : decode cX6_drawnYears 102 = .ok (.ireturn, 1) := by decide +kernel
section
variable {p : Program} {l : Launch} {e : Env} {s : State} {m : MethodId} {args : Array Value} {below : List Frame} {meth : Method} {c : Code} {D : va_G} {cy : Nat → ClassId} {ad : Nat → Nat} {A : Nat → Prop} {aM aB aO aI aN aT aC aG aR aQ aK aL aX aH aJ aP aU aE0 aE1 aE2 aE3 : Nat → Nat} {gi : Value}
abbrev rm6_withLooks : Room := { frames := 0, cells := 0, slots := 0, locals := 0 }
theorem hdS6_withLooks : (yX6_withLooks.cls ≠ "java/lang/invoke/MethodHandle" ∧ yX6_withLooks.cls ≠ "java/lang/invoke/VarHandle" ∧ (parseMethodDescriptor yX6_withLooks.desc).map (fun d => d.parameters.length) = some 4) := by decide +kernel
theorem hin6_withLooks_4 : ∀ x ∈ u_ws RX4 TX4 13, x ∈ wsX6_withLooks := fun _ h => List.mem_cons_of_mem _ (List.mem_append_right _ h)
set_option maxRecDepth 100000 in
set_option maxHeartbeats 4000000 in
theorem t6_withLooks_50 (hC : Cx p s m args meth c cX6_withLooks 7 wsX6_withLooks RX6 (some .int)) {k6 : Int32 → Int32 → Int64 → Int32 → Int32 → Ob → Option (Int32)} (hk6 : ∀ (x1 : Int32) (x2 : Int32) (x3 : Int64) (x5 : Int32) (x6 : Int32) (SI : Ob) (res : Int32) (H : Heap) (locs : List Loc) (ls : Array Slot), k6 x1 x2 x3 x5 x6 SI = some res → GW D cy ad (w4 cy aI SI) A s H locs → lv_has ls 7 [(0, .ref (aI 0)), (1, .int x1), (2, .int x2), (3, .long x3), (5, .int x5), (6, .int x6)] → W p l e rm6_withLooks s m args below meth c H locs 0 0 (MQ below (QI D cy (w4 cy aI SI) A res) args s 0 0 A) (F0 m 6 ls [])) : ∀ (x1 : Int32) (x2 : Int32) (x3 : Int64) (x5 : Int32) (x6 : Int32) (SI : Ob) (res : Int32) (H : Heap) (locs : List Loc) (ls : Array Slot), f6_withLooks_50 k6 x1 x2 x3 x5 x6 SI = some res → GW D cy ad (w4 cy aI SI) A s H locs → lv_has ls 7 [(0, .ref (aI 0)), (1, .int x1), (2, .int x2), (3, .long x3), (5, .int x5), (6, .int x6)] → W p l e rm6_withLooks s m args below meth c H locs 0 0 (MQ below (QI D cy (w4 cy aI SI) A res) args s 0 0 A) (F0 m 50 ls []) := by
  intro x1 x2 x3 x5 x6 SI res H locs ls hf hW hl
  unfold f6_withLooks_50 at hf
  obtain ⟨x6_1, ex6_1⟩ : ∃ y : Int32, y = x6 + 1 := ⟨_, rfl⟩
  have hf := lt_nm hf ex6_1
  refine lv_iinc (v := x6_1) (lv' := [(6, .int x6_1), (0, .ref (aI 0)), (1, .int x1), (2, .int x2), (3, .long x3), (5, .int x5)]) hC.1 hC.2.1 dX6_withLooks_50 hl (k := 5) rfl (by rw [ex6_1]; rfl) (by decide) rfl (fun ls hl => ?_)
  refine lv_goto (tgt := 6) hC.1 hC.2.1 dX6_withLooks_53 (by decide) ?_
  exact hk6 _ _ _ _ _ _ _ _ _ _ hf hW (lv_sub hl [1, 2, 3, 4, 5, 0] rfl)
set_option maxRecDepth 100000 in
set_option maxHeartbeats 4000000 in
theorem t6_withLooks_6 (hC : Cx p s m args meth c cX6_withLooks 7 wsX6_withLooks RX6 (some .int)) : ∀ n : Nat, ∀ (x1 : Int32) (x2 : Int32) (x3 : Int64) (x5 : Int32) (x6 : Int32) (SI : Ob) (res : Int32) (H : Heap) (locs : List Loc) (ls : Array Slot), f6_withLooks_6 n x1 x2 x3 x5 x6 SI = some res → GW D cy ad (w4 cy aI SI) A s H locs → lv_has ls 7 [(0, .ref (aI 0)), (1, .int x1), (2, .int x2), (3, .long x3), (5, .int x5), (6, .int x6)] → W p l e rm6_withLooks s m args below meth c H locs 0 0 (MQ below (QI D cy (w4 cy aI SI) A res) args s 0 0 A) (F0 m 6 ls []) := by
  intro n
  induction n with
  | zero =>
    intro _ _ _ _ _ _ _ _ _ _ hf _ _
    exact nomatch (show (none : Option (Int32)) = some _ from hf)
  | succ n ih =>
    intro x1 x2 x3 x5 x6 SI res H locs ls hf hW hl
    rw [f6_withLooks_6] at hf
    refine lv_iload hC.1 hC.2.1 dX6_withLooks_6 (lv_at hl 5 rfl) ?_
    refine lv_bipush (v := 32) hC.1 hC.2.1 dX6_withLooks_8 (by decide) ?_
    refine lv_icmp_ge (tgt := 56) hC.1 hC.2.1 dX6_withLooks_10 (by decide) (fun hc_1 => ?_) (fun hc_1 => ?_)
    · have hf := ite_t hf hc_1
      refine lv_iload hC.1 hC.2.1 dX6_withLooks_56 (lv_at hl 4 rfl) ?_
      obtain rfl := Option.some.inj hf
      exact g_iret hC hW dX6_withLooks_58
    · have hf := ite_f hf hc_1
      refine lv_iload_n hC.1 hC.2.1 dX6_withLooks_13 rfl (lv_at hl 2 rfl) ?_
      refine lv_iload hC.1 hC.2.1 dX6_withLooks_14 (lv_at hl 5 rfl) ?_
      refine lv_iushr (v := ush x2 x6) hC.1 hC.2.1 dX6_withLooks_16 rfl ?_
      refine lv_iconst (v := 1) hC.1 hC.2.1 dX6_withLooks_17 (by decide) ?_
      refine lv_iand hC.1 hC.2.1 dX6_withLooks_18 ?_
      refine lv_iconst (v := 1) hC.1 hC.2.1 dX6_withLooks_19 (by decide) ?_
      refine lv_icmp_ne (tgt := 50) hC.1 hC.2.1 dX6_withLooks_20 (by decide) (fun hc_2 => ?_) (fun hc_2 => ?_)
      · have hf := ite_f hf hc_2
        exact t6_withLooks_50 hC ih  _ _ _ _ _ _ _ _ _ _ hf hW (lv_sub hl [0, 1, 2, 3, 4, 5] rfl)
      · have hf := ite_t hf hc_2
        refine lv_lload_n hC.1 hC.2.1 dX6_withLooks_23 rfl (lv_at hl 3 rfl) ?_
        refine lv_aload_n hC.1 hC.2.1 dX6_withLooks_24 rfl (lv_at hl 0 rfl) ?_
        refine g_get hC hW hin6_withLooks_4 0 rfl rfl 12 (by decide) 1 rfl rfl dX6_withLooks_25 ?_
        refine lv_iload hC.1 hC.2.1 dX6_withLooks_28 (lv_at hl 5 rfl) ?_
        obtain ⟨hi_3, hf⟩ := ck_of hf
        refine g_iald hC hW 11 rfl hi_3 dX6_withLooks_30 ?_
        refine lv_iload_n hC.1 hC.2.1 dX6_withLooks_31 rfl (lv_at hl 1 rfl) ?_
        refine lv_iand hC.1 hC.2.1 dX6_withLooks_32 ?_
        refine lv_lushr (v := lush x3 ((SI.2.2.1 12 (Int32.toNatClampNeg x6)) &&& x1)) hC.1 hC.2.1 dX6_withLooks_33 rfl ?_
        refine lv_lconst (v := 1) hC.1 hC.2.1 dX6_withLooks_34 (by decide) ?_
        refine lv_land hC.1 hC.2.1 dX6_withLooks_35 ?_
        refine lv_lconst (v := 1) hC.1 hC.2.1 dX6_withLooks_36 (by decide) ?_
        refine W.lcmp hC.1 hC.2.1 dX6_withLooks_37 ?_
        refine lv_if_ne (tgt := 50) hC.1 hC.2.1 dX6_withLooks_38 (by decide) (fun hc_4 => ?_) (fun hc_4 => ?_)
        · have hf := ite_f hf hc_4
          exact t6_withLooks_50 hC ih  _ _ _ _ _ _ _ _ _ _ hf hW (lv_sub hl [0, 1, 2, 3, 4, 5] rfl)
        · have hf := ite_t hf hc_4
          refine lv_iload hC.1 hC.2.1 dX6_withLooks_41 (lv_at hl 4 rfl) ?_
          refine lv_iconst (v := 1) hC.1 hC.2.1 dX6_withLooks_43 (by decide) ?_
          refine lv_iload hC.1 hC.2.1 dX6_withLooks_44 (lv_at hl 5 rfl) ?_
          refine lv_ishl hC.1 hC.2.1 dX6_withLooks_46 ?_
          refine lv_ior hC.1 hC.2.1 dX6_withLooks_47 ?_
          refine lv_topi (fun x5_5 ex5_5 => ?_)
          have hf := lt_nm hf ex5_5
          refine lv_istore (lv' := [(5, .int x5_5), (0, .ref (aI 0)), (1, .int x1), (2, .int x2), (3, .long x3), (6, .int x6)]) hC.1 hC.2.1 dX6_withLooks_48 hl (by decide) rfl (fun ls hl => ?_)
          exact t6_withLooks_50 hC ih  _ _ _ _ _ _ _ _ _ _ hf hW (lv_sub hl [1, 2, 3, 4, 0, 5] rfl)
set_option maxRecDepth 100000 in
set_option maxHeartbeats 4000000 in
theorem t6_withLooks_0 (hC : Cx p s m args meth c cX6_withLooks 7 wsX6_withLooks RX6 (some .int)) : ∀ (x1 : Int32) (x2 : Int32) (x3 : Int64) (SI : Ob) (res : Int32) (H : Heap) (locs : List Loc) (ls : Array Slot), f6_withLooks x1 x2 x3 SI = some res → GW D cy ad (w4 cy aI SI) A s H locs → lv_has ls 7 [(0, .ref (aI 0)), (1, .int x1), (2, .int x2), (3, .long x3)] → W p l e rm6_withLooks s m args below meth c H locs 0 0 (MQ below (QI D cy (w4 cy aI SI) A res) args s 0 0 A) (F0 m 0 ls []) := by
  intro x1 x2 x3 SI res H locs ls hf hW hl
  unfold f6_withLooks at hf
  refine lv_iconst (v := 0) hC.1 hC.2.1 dX6_withLooks_0 (by decide) ?_
  refine lv_istore (lv' := [(5, .int 0), (0, .ref (aI 0)), (1, .int x1), (2, .int x2), (3, .long x3)]) hC.1 hC.2.1 dX6_withLooks_1 hl (by decide) rfl (fun ls hl => ?_)
  refine lv_iconst (v := 0) hC.1 hC.2.1 dX6_withLooks_3 (by decide) ?_
  refine lv_istore (lv' := [(6, .int 0), (5, .int 0), (0, .ref (aI 0)), (1, .int x1), (2, .int x2), (3, .long x3)]) hC.1 hC.2.1 dX6_withLooks_4 hl (by decide) rfl (fun ls hl => ?_)
  exact t6_withLooks_6 hC _ _ _ _ _ _ _ _ _ _ _ hf hW (lv_sub hl [2, 3, 4, 5, 1, 0] rfl)
set_option maxRecDepth 100000 in
set_option maxHeartbeats 4000000 in
theorem c6_withLooks (l : Launch) (D : va_G) (cy : Nat → ClassId) (ad : Nat → Nat) (aI : Nat → Nat) {x1 : Int32} {x2 : Int32} {x3 : Int64} {SI : Ob} {res : Int32} (h : f6_withLooks x1 x2 x3 SI = some res) : GCi l yX6_withLooks wsX6_withLooks rm6_withLooks [.ref (aI 0), .int x1, .int x2, .long x3] D cy ad (w4 cy aI SI) (w4 cy aI SI) res := fun sz => GC.start (own := RX6) (Qc := fun A => QI D cy (w4 cy aI SI) A res) sz (by decide) rfl rfl (Nat.le_of_ble_eq_true rfl) (fun p e s m below meth c A ls hC hW hl => t6_withLooks_0 hC _ _ _ _ _ _ _ _ h hW (lv_sub hl [0, 1, 2, 3] rfl))
abbrev rm6_view : Room := { frames := 1, cells := 0, slots := 0, locals := 26 }
theorem hdS6_view : (yX6_view.cls ≠ "java/lang/invoke/MethodHandle" ∧ yX6_view.cls ≠ "java/lang/invoke/VarHandle" ∧ (parseMethodDescriptor yX6_view.desc).map (fun d => d.parameters.length) = some 4) := by decide +kernel
theorem hin6_view_4 : ∀ x ∈ u_ws RX4 TX4 13, x ∈ wsX6_view := fun _ h => List.mem_cons_of_mem _ (List.mem_append_right _ h)
set_option maxRecDepth 100000 in
set_option maxHeartbeats 4000000 in
theorem t6_view_0 (hC : Cx p s m args meth c cX6_view 4 wsX6_view RX6 (some .int)) : ∀ (x1 : Int32) (x2 : Int32) (x3 : Int32) (SI : Ob) (res : Int32) (H : Heap) (locs : List Loc) (ls : Array Slot), f6_view x1 x2 x3 SI = some res → GW D cy ad (w4 cy aI SI) A s H locs → lv_has ls 4 [(0, .ref (aI 0)), (1, .int x1), (2, .int x2), (3, .int x3)] → W p l e rm6_view s m args below meth c H locs 0 0 (MQ below (QI D cy (w4 cy aI SI) A res) args s 0 0 A) (F0 m 0 ls []) := by
  intro x1 x2 x3 SI res H locs ls hf hW hl
  unfold f6_view at hf
  refine lv_aload_n hC.1 hC.2.1 dX6_view_0 rfl (lv_at hl 0 rfl) ?_
  refine lv_aload_n hC.1 hC.2.1 dX6_view_1 rfl (lv_at hl 0 rfl) ?_
  refine g_get hC hW hin6_view_4 0 rfl rfl 5 (by decide) 1 rfl rfl dX6_view_2 ?_
  refine lv_iload_n hC.1 hC.2.1 dX6_view_5 rfl (lv_at hl 1 rfl) ?_
  obtain ⟨hi_1, hf⟩ := ck_of hf
  refine g_iald hC hW 5 rfl hi_1 dX6_view_6 ?_
  refine lv_iload_n hC.1 hC.2.1 dX6_view_7 rfl (lv_at hl 3 rfl) ?_
  refine lv_lconst (v := 1) hC.1 hC.2.1 dX6_view_8 (by decide) ?_
  refine lv_aload_n hC.1 hC.2.1 dX6_view_9 rfl (lv_at hl 0 rfl) ?_
  refine g_get hC hW hin6_view_4 0 rfl rfl 12 (by decide) 2 rfl rfl dX6_view_10 ?_
  refine lv_iload_n hC.1 hC.2.1 dX6_view_13 rfl (lv_at hl 2 rfl) ?_
  obtain ⟨hi_2, hf⟩ := ck_of hf
  refine g_iald hC hW 11 rfl hi_2 dX6_view_14 ?_
  refine lv_aload_n hC.1 hC.2.1 dX6_view_15 rfl (lv_at hl 0 rfl) ?_
  refine g_get hC hW hin6_view_4 0 rfl rfl 5 (by decide) 1 rfl rfl dX6_view_16 ?_
  refine lv_iload_n hC.1 hC.2.1 dX6_view_19 rfl (lv_at hl 1 rfl) ?_
  obtain ⟨hi_3, hf⟩ := ck_of hf
  refine g_iald hC hW 5 rfl hi_3 dX6_view_20 ?_
  refine lv_iand hC.1 hC.2.1 dX6_view_21 ?_
  refine lv_lshl (v := 1 <<< (Int32.toInt64 ((SI.2.2.1 12 (Int32.toNatClampNeg x2)) &&& (SI.2.2.1 5 (Int32.toNatClampNeg x1))) &&& 63)) hC.1 hC.2.1 dX6_view_22 rfl ?_
  obtain ⟨r_4, hg_5, hf⟩ := bd_of hf
  refine g_calliS (w' := w4 cy aI SI) hC hW (c6_withLooks l D cy ad aI hg_5) (va_cwS 4 hC.2.2.2.2.1 gX6_view_X6_withLooks rfl rfl rfl hdS6_withLooks ⟨Nat.le_of_ble_eq_true rfl, Nat.le_of_ble_eq_true rfl⟩) (Sub.all _ _) rfl hl.1 rfl (Nat.le_of_ble_eq_true rfl) dX6_view_23 ⟨Nat.zero_le _, Nat.zero_le _⟩ (fun H locs hW => ?_)
  obtain rfl := Option.some.inj hf
  exact g_iret hC hW dX6_view_26
set_option maxRecDepth 100000 in
set_option maxHeartbeats 4000000 in
theorem c6_view (l : Launch) (D : va_G) (cy : Nat → ClassId) (ad : Nat → Nat) (aI : Nat → Nat) {x1 : Int32} {x2 : Int32} {x3 : Int32} {SI : Ob} {res : Int32} (h : f6_view x1 x2 x3 SI = some res) : GCi l yX6_view wsX6_view rm6_view [.ref (aI 0), .int x1, .int x2, .int x3] D cy ad (w4 cy aI SI) (w4 cy aI SI) res := fun sz => GC.start (own := RX6) (Qc := fun A => QI D cy (w4 cy aI SI) A res) sz (by decide) rfl rfl (Nat.le_of_ble_eq_true rfl) (fun p e s m below meth c A ls hC hW hl => t6_view_0 hC _ _ _ _ _ _ _ _ h hW (lv_sub hl [0, 1, 2, 3] rfl))
abbrev rm6_looks : Room := { frames := 0, cells := 0, slots := 0, locals := 0 }
theorem hdS6_looks : (yX6_looks.cls ≠ "java/lang/invoke/MethodHandle" ∧ yX6_looks.cls ≠ "java/lang/invoke/VarHandle" ∧ (parseMethodDescriptor yX6_looks.desc).map (fun d => d.parameters.length) = some 4) := by decide +kernel
theorem hin6_looks_4 : ∀ x ∈ u_ws RX4 TX4 13, x ∈ wsX6_looks := fun _ h => List.mem_cons_of_mem _ (List.mem_append_right _ h)
set_option maxRecDepth 100000 in
set_option maxHeartbeats 4000000 in
theorem t6_looks_46 (hC : Cx p s m args meth c cX6_looks 8 wsX6_looks RX6 (some .long)) {k6 : Int32 → Int32 → Int32 → Int64 → Int32 → Ob → Option (Int64)} (hk6 : ∀ (x1 : Int32) (x2 : Int32) (x3 : Int32) (x4 : Int64) (x6 : Int32) (SI : Ob) (res : Int64) (H : Heap) (locs : List Loc) (ls : Array Slot), k6 x1 x2 x3 x4 x6 SI = some res → GW D cy ad (w4 cy aI SI) A s H locs → lv_has ls 8 [(0, .ref (aI 0)), (1, .int x1), (2, .int x2), (3, .int x3), (4, .long x4), (6, .int x6)] → W p l e rm6_looks s m args below meth c H locs 0 0 (MQ below (QL D cy (w4 cy aI SI) A res) args s 0 0 A) (F0 m 6 ls [])) : ∀ (x1 : Int32) (x2 : Int32) (x3 : Int32) (x4 : Int64) (x6 : Int32) (SI : Ob) (res : Int64) (H : Heap) (locs : List Loc) (ls : Array Slot), f6_looks_46 k6 x1 x2 x3 x4 x6 SI = some res → GW D cy ad (w4 cy aI SI) A s H locs → lv_has ls 8 [(0, .ref (aI 0)), (1, .int x1), (2, .int x2), (3, .int x3), (4, .long x4), (6, .int x6)] → W p l e rm6_looks s m args below meth c H locs 0 0 (MQ below (QL D cy (w4 cy aI SI) A res) args s 0 0 A) (F0 m 46 ls []) := by
  intro x1 x2 x3 x4 x6 SI res H locs ls hf hW hl
  unfold f6_looks_46 at hf
  obtain ⟨x6_1, ex6_1⟩ : ∃ y : Int32, y = x6 + 1 := ⟨_, rfl⟩
  have hf := lt_nm hf ex6_1
  refine lv_iinc (v := x6_1) (lv' := [(6, .int x6_1), (0, .ref (aI 0)), (1, .int x1), (2, .int x2), (3, .int x3), (4, .long x4)]) hC.1 hC.2.1 dX6_looks_46 hl (k := 5) rfl (by rw [ex6_1]; rfl) (by decide) rfl (fun ls hl => ?_)
  refine lv_goto (tgt := 6) hC.1 hC.2.1 dX6_looks_49 (by decide) ?_
  exact hk6 _ _ _ _ _ _ _ _ _ _ hf hW (lv_sub hl [1, 2, 3, 4, 5, 0] rfl)
set_option maxRecDepth 100000 in
set_option maxHeartbeats 4000000 in
theorem t6_looks_6 (hC : Cx p s m args meth c cX6_looks 8 wsX6_looks RX6 (some .long)) : ∀ n : Nat, ∀ (x1 : Int32) (x2 : Int32) (x3 : Int32) (x4 : Int64) (x6 : Int32) (SI : Ob) (res : Int64) (H : Heap) (locs : List Loc) (ls : Array Slot), f6_looks_6 n x1 x2 x3 x4 x6 SI = some res → GW D cy ad (w4 cy aI SI) A s H locs → lv_has ls 8 [(0, .ref (aI 0)), (1, .int x1), (2, .int x2), (3, .int x3), (4, .long x4), (6, .int x6)] → W p l e rm6_looks s m args below meth c H locs 0 0 (MQ below (QL D cy (w4 cy aI SI) A res) args s 0 0 A) (F0 m 6 ls []) := by
  intro n
  induction n with
  | zero =>
    intro _ _ _ _ _ _ _ _ _ _ hf _ _
    exact nomatch (show (none : Option (Int64)) = some _ from hf)
  | succ n ih =>
    intro x1 x2 x3 x4 x6 SI res H locs ls hf hW hl
    rw [f6_looks_6] at hf
    refine lv_iload hC.1 hC.2.1 dX6_looks_6 (lv_at hl 5 rfl) ?_
    refine lv_iconst (v := 4) hC.1 hC.2.1 dX6_looks_8 (by decide) ?_
    refine lv_icmp_ge (tgt := 52) hC.1 hC.2.1 dX6_looks_9 (by decide) (fun hc_1 => ?_) (fun hc_1 => ?_)
    · have hf := ite_t hf hc_1
      refine lv_lload hC.1 hC.2.1 dX6_looks_52 (lv_at hl 4 rfl) ?_
      obtain rfl := Option.some.inj hf
      exact g_lret hC hW dX6_looks_54
    · have hf := ite_f hf hc_1
      refine lv_iload_n hC.1 hC.2.1 dX6_looks_12 rfl (lv_at hl 3 rfl) ?_
      refine lv_iconst (v := 4) hC.1 hC.2.1 dX6_looks_13 (by decide) ?_
      refine lv_imul hC.1 hC.2.1 dX6_looks_14 ?_
      refine lv_iload hC.1 hC.2.1 dX6_looks_15 (lv_at hl 5 rfl) ?_
      refine lv_iadd hC.1 hC.2.1 dX6_looks_17 ?_
      refine lv_topi (fun x7_2 ex7_2 => ?_)
      have hf := lt_nm hf ex7_2
      refine lv_istore (lv' := [(7, .int x7_2), (0, .ref (aI 0)), (1, .int x1), (2, .int x2), (3, .int x3), (4, .long x4), (6, .int x6)]) hC.1 hC.2.1 dX6_looks_18 hl (by decide) rfl (fun ls hl => ?_)
      refine lv_iload_n hC.1 hC.2.1 dX6_looks_20 rfl (lv_at hl 3 rfl) ?_
      refine lv_iload hC.1 hC.2.1 dX6_looks_21 (lv_at hl 0 rfl) ?_
      refine lv_iushr (v := ush x2 x7_2) hC.1 hC.2.1 dX6_looks_23 rfl ?_
      refine lv_iconst (v := 1) hC.1 hC.2.1 dX6_looks_24 (by decide) ?_
      refine lv_iand hC.1 hC.2.1 dX6_looks_25 ?_
      refine lv_iconst (v := 1) hC.1 hC.2.1 dX6_looks_26 (by decide) ?_
      refine lv_icmp_ne (tgt := 46) hC.1 hC.2.1 dX6_looks_27 (by decide) (fun hc_3 => ?_) (fun hc_3 => ?_)
      · have hf := ite_f hf hc_3
        exact t6_looks_46 hC ih  _ _ _ _ _ _ _ _ _ _ hf hW (lv_sub hl [1, 2, 3, 4, 5, 6] rfl)
      · have hf := ite_t hf hc_3
        refine lv_lload hC.1 hC.2.1 dX6_looks_30 (lv_at hl 5 rfl) ?_
        refine lv_lconst (v := 1) hC.1 hC.2.1 dX6_looks_32 (by decide) ?_
        refine lv_aload_n hC.1 hC.2.1 dX6_looks_33 rfl (lv_at hl 1 rfl) ?_
        refine g_get hC hW hin6_looks_4 0 rfl rfl 12 (by decide) 1 rfl rfl dX6_looks_34 ?_
        refine lv_iload hC.1 hC.2.1 dX6_looks_37 (lv_at hl 0 rfl) ?_
        obtain ⟨hi_4, hf⟩ := ck_of hf
        refine g_iald hC hW 11 rfl hi_4 dX6_looks_39 ?_
        refine lv_iload_n hC.1 hC.2.1 dX6_looks_40 rfl (lv_at hl 2 rfl) ?_
        refine lv_iand hC.1 hC.2.1 dX6_looks_41 ?_
        refine lv_lshl (v := 1 <<< (Int32.toInt64 ((SI.2.2.1 12 (Int32.toNatClampNeg x7_2)) &&& x1) &&& 63)) hC.1 hC.2.1 dX6_looks_42 rfl ?_
        refine lv_lor hC.1 hC.2.1 dX6_looks_43 ?_
        refine lv_topl (fun x4_5 ex4_5 => ?_)
        have hf := lt_nm hf ex4_5
        refine lv_lstore (lv' := [(4, .long x4_5), (7, .int x7_2), (0, .ref (aI 0)), (1, .int x1), (2, .int x2), (3, .int x3), (6, .int x6)]) hC.1 hC.2.1 dX6_looks_44 hl (by decide) rfl (fun ls hl => ?_)
        exact t6_looks_46 hC ih  _ _ _ _ _ _ _ _ _ _ hf hW (lv_sub hl [2, 3, 4, 5, 0, 6] rfl)
set_option maxRecDepth 100000 in
set_option maxHeartbeats 4000000 in
theorem t6_looks_0 (hC : Cx p s m args meth c cX6_looks 8 wsX6_looks RX6 (some .long)) : ∀ (x1 : Int32) (x2 : Int32) (x3 : Int32) (SI : Ob) (res : Int64) (H : Heap) (locs : List Loc) (ls : Array Slot), f6_looks x1 x2 x3 SI = some res → GW D cy ad (w4 cy aI SI) A s H locs → lv_has ls 8 [(0, .ref (aI 0)), (1, .int x1), (2, .int x2), (3, .int x3)] → W p l e rm6_looks s m args below meth c H locs 0 0 (MQ below (QL D cy (w4 cy aI SI) A res) args s 0 0 A) (F0 m 0 ls []) := by
  intro x1 x2 x3 SI res H locs ls hf hW hl
  unfold f6_looks at hf
  refine lv_lconst (v := 0) hC.1 hC.2.1 dX6_looks_0 (by decide) ?_
  refine lv_lstore (lv' := [(4, .long 0), (0, .ref (aI 0)), (1, .int x1), (2, .int x2), (3, .int x3)]) hC.1 hC.2.1 dX6_looks_1 hl (by decide) rfl (fun ls hl => ?_)
  refine lv_iconst (v := 0) hC.1 hC.2.1 dX6_looks_3 (by decide) ?_
  refine lv_istore (lv' := [(6, .int 0), (4, .long 0), (0, .ref (aI 0)), (1, .int x1), (2, .int x2), (3, .int x3)]) hC.1 hC.2.1 dX6_looks_4 hl (by decide) rfl (fun ls hl => ?_)
  exact t6_looks_6 hC _ _ _ _ _ _ _ _ _ _ _ hf hW (lv_sub hl [2, 3, 4, 5, 1, 0] rfl)
set_option maxRecDepth 100000 in
set_option maxHeartbeats 4000000 in
theorem c6_looks (l : Launch) (D : va_G) (cy : Nat → ClassId) (ad : Nat → Nat) (aI : Nat → Nat) {x1 : Int32} {x2 : Int32} {x3 : Int32} {SI : Ob} {res : Int64} (h : f6_looks x1 x2 x3 SI = some res) : GCl l yX6_looks wsX6_looks rm6_looks [.ref (aI 0), .int x1, .int x2, .int x3] D cy ad (w4 cy aI SI) (w4 cy aI SI) res := fun sz => GC.start (own := RX6) (Qc := fun A => QL D cy (w4 cy aI SI) A res) sz (by decide) rfl rfl (Nat.le_of_ble_eq_true rfl) (fun p e s m below meth c A ls hC hW hl => t6_looks_0 hC _ _ _ _ _ _ _ _ h hW (lv_sub hl [0, 1, 2, 3] rfl))
abbrev rm6_doubtful : Room := { frames := 1, cells := 0, slots := 0, locals := 27 }
theorem hdS6_doubtful : (yX6_doubtful.cls ≠ "java/lang/invoke/MethodHandle" ∧ yX6_doubtful.cls ≠ "java/lang/invoke/VarHandle" ∧ (parseMethodDescriptor yX6_doubtful.desc).map (fun d => d.parameters.length) = some 3) := by decide +kernel
theorem hin6_doubtful_4 : ∀ x ∈ u_ws RX4 TX4 13, x ∈ wsX6_doubtful := fun _ h => List.mem_cons_of_mem _ (List.mem_append_right _ h)
set_option maxRecDepth 100000 in
set_option maxHeartbeats 4000000 in
theorem t6_doubtful_8 (hC : Cx p s m args meth c cX6_doubtful 10 wsX6_doubtful RX6 (some .long)) : ∀ n : Nat, ∀ (x1 : Int32) (x2 : Int32) (x3 : Int64) (x5 : Int64) (x7 : Int32) (SI : Ob) (res : Int64) (H : Heap) (locs : List Loc) (ls : Array Slot), f6_doubtful_8 n x1 x2 x3 x5 x7 SI = some res → GW D cy ad (w4 cy aI SI) A s H locs → lv_has ls 10 [(0, .ref (aI 0)), (1, .int x1), (2, .int x2), (3, .long x3), (5, .long x5), (7, .int x7)] → W p l e rm6_doubtful s m args below meth c H locs 0 0 (MQ below (QL D cy (w4 cy aI SI) A res) args s 0 0 A) (F0 m 8 ls []) := by
  intro n
  induction n with
  | zero =>
    intro _ _ _ _ _ _ _ _ _ _ hf _ _
    exact nomatch (show (none : Option (Int64)) = some _ from hf)
  | succ n ih =>
    intro x1 x2 x3 x5 x7 SI res H locs ls hf hW hl
    rw [f6_doubtful_8] at hf
    refine lv_iload hC.1 hC.2.1 dX6_doubtful_8 (lv_at hl 5 rfl) ?_
    refine lv_aload_n hC.1 hC.2.1 dX6_doubtful_10 rfl (lv_at hl 0 rfl) ?_
    refine g_get hC hW hin6_doubtful_4 0 rfl rfl 0 (by decide) 1 rfl rfl dX6_doubtful_11 ?_
    refine lv_icmp_ge (tgt := 47) hC.1 hC.2.1 dX6_doubtful_14 (by decide) (fun hc_1 => ?_) (fun hc_1 => ?_)
    · have hf := ite_t hf hc_1
      refine lv_lload hC.1 hC.2.1 dX6_doubtful_47 (lv_at hl 4 rfl) ?_
      obtain rfl := Option.some.inj hf
      exact g_lret hC hW dX6_doubtful_49
    · have hf := ite_f hf hc_1
      refine lv_aload_n hC.1 hC.2.1 dX6_doubtful_17 rfl (lv_at hl 0 rfl) ?_
      refine lv_iload_n hC.1 hC.2.1 dX6_doubtful_18 rfl (lv_at hl 1 rfl) ?_
      refine lv_iload_n hC.1 hC.2.1 dX6_doubtful_19 rfl (lv_at hl 2 rfl) ?_
      refine lv_iload hC.1 hC.2.1 dX6_doubtful_20 (lv_at hl 5 rfl) ?_
      obtain ⟨r_2, hg_3, hf⟩ := bd_of hf
      refine g_calllS (w' := w4 cy aI SI) hC hW (c6_looks l D cy ad aI hg_3) (va_cwS 4 hC.2.2.2.2.1 gX6_doubtful_X6_looks rfl rfl rfl hdS6_looks ⟨Nat.le_of_ble_eq_true rfl, Nat.le_of_ble_eq_true rfl⟩) (Sub.all _ _) rfl hl.1 rfl (Nat.le_of_ble_eq_true rfl) dX6_doubtful_22 ⟨Nat.zero_le _, Nat.zero_le _⟩ (fun H locs hW => ?_)
      refine lv_lstore (lv' := [(8, .long r_2), (0, .ref (aI 0)), (1, .int x1), (2, .int x2), (3, .long x3), (5, .long x5), (7, .int x7)]) hC.1 hC.2.1 dX6_doubtful_25 hl (by decide) rfl (fun ls hl => ?_)
      refine lv_lload hC.1 hC.2.1 dX6_doubtful_27 (lv_at hl 5 rfl) ?_
      refine lv_lload_n hC.1 hC.2.1 dX6_doubtful_29 rfl (lv_at hl 4 rfl) ?_
      refine lv_lload hC.1 hC.2.1 dX6_doubtful_30 (lv_at hl 0 rfl) ?_
      refine lv_land hC.1 hC.2.1 dX6_doubtful_32 ?_
      refine lv_lor hC.1 hC.2.1 dX6_doubtful_33 ?_
      refine lv_topl (fun x5_4 ex5_4 => ?_)
      have hf := lt_nm hf ex5_4
      refine lv_lstore (lv' := [(5, .long x5_4), (8, .long r_2), (0, .ref (aI 0)), (1, .int x1), (2, .int x2), (3, .long x3), (7, .int x7)]) hC.1 hC.2.1 dX6_doubtful_34 hl (by decide) rfl (fun ls hl => ?_)
      refine lv_lload_n hC.1 hC.2.1 dX6_doubtful_36 rfl (lv_at hl 5 rfl) ?_
      refine lv_lload hC.1 hC.2.1 dX6_doubtful_37 (lv_at hl 1 rfl) ?_
      refine lv_lor hC.1 hC.2.1 dX6_doubtful_39 ?_
      refine lv_topl (fun x3_5 ex3_5 => ?_)
      have hf := lt_nm hf ex3_5
      refine lv_lstore_n (lv' := [(3, .long x3_5), (5, .long x5_4), (8, .long r_2), (0, .ref (aI 0)), (1, .int x1), (2, .int x2), (7, .int x7)]) hC.1 hC.2.1 dX6_doubtful_40 rfl hl (by decide) rfl (fun ls hl => ?_)
      obtain ⟨x7_6, ex7_6⟩ : ∃ y : Int32, y = x7 + 1 := ⟨_, rfl⟩
      have hf := lt_nm hf ex7_6
      refine lv_iinc (v := x7_6) (lv' := [(7, .int x7_6), (3, .long x3_5), (5, .long x5_4), (8, .long r_2), (0, .ref (aI 0)), (1, .int x1), (2, .int x2)]) hC.1 hC.2.1 dX6_doubtful_41 hl (k := 6) rfl (by rw [ex7_6]; rfl) (by decide) rfl (fun ls hl => ?_)
      refine lv_goto (tgt := 8) hC.1 hC.2.1 dX6_doubtful_44 (by decide) ?_
      exact ih _ _ _ _ _ _ _ _ _ _ hf hW (lv_sub hl [4, 5, 6, 1, 2, 0] rfl)
set_option maxRecDepth 100000 in
set_option maxHeartbeats 4000000 in
theorem t6_doubtful_0 (hC : Cx p s m args meth c cX6_doubtful 10 wsX6_doubtful RX6 (some .long)) : ∀ (x1 : Int32) (x2 : Int32) (SI : Ob) (res : Int64) (H : Heap) (locs : List Loc) (ls : Array Slot), f6_doubtful x1 x2 SI = some res → GW D cy ad (w4 cy aI SI) A s H locs → lv_has ls 10 [(0, .ref (aI 0)), (1, .int x1), (2, .int x2)] → W p l e rm6_doubtful s m args below meth c H locs 0 0 (MQ below (QL D cy (w4 cy aI SI) A res) args s 0 0 A) (F0 m 0 ls []) := by
  intro x1 x2 SI res H locs ls hf hW hl
  unfold f6_doubtful at hf
  refine lv_lconst (v := 0) hC.1 hC.2.1 dX6_doubtful_0 (by decide) ?_
  refine lv_lstore_n (lv' := [(3, .long 0), (0, .ref (aI 0)), (1, .int x1), (2, .int x2)]) hC.1 hC.2.1 dX6_doubtful_1 rfl hl (by decide) rfl (fun ls hl => ?_)
  refine lv_lconst (v := 0) hC.1 hC.2.1 dX6_doubtful_2 (by decide) ?_
  refine lv_lstore (lv' := [(5, .long 0), (3, .long 0), (0, .ref (aI 0)), (1, .int x1), (2, .int x2)]) hC.1 hC.2.1 dX6_doubtful_3 hl (by decide) rfl (fun ls hl => ?_)
  refine lv_iconst (v := 0) hC.1 hC.2.1 dX6_doubtful_5 (by decide) ?_
  refine lv_istore (lv' := [(7, .int 0), (5, .long 0), (3, .long 0), (0, .ref (aI 0)), (1, .int x1), (2, .int x2)]) hC.1 hC.2.1 dX6_doubtful_6 hl (by decide) rfl (fun ls hl => ?_)
  exact t6_doubtful_8 hC _ _ _ _ _ _ _ _ _ _ _ hf hW (lv_sub hl [3, 4, 5, 2, 1, 0] rfl)
set_option maxRecDepth 100000 in
set_option maxHeartbeats 4000000 in
theorem c6_doubtful (l : Launch) (D : va_G) (cy : Nat → ClassId) (ad : Nat → Nat) (aI : Nat → Nat) {x1 : Int32} {x2 : Int32} {SI : Ob} {res : Int64} (h : f6_doubtful x1 x2 SI = some res) : GCl l yX6_doubtful wsX6_doubtful rm6_doubtful [.ref (aI 0), .int x1, .int x2] D cy ad (w4 cy aI SI) (w4 cy aI SI) res := fun sz => GC.start (own := RX6) (Qc := fun A => QL D cy (w4 cy aI SI) A res) sz (by decide) rfl rfl (Nat.le_of_ble_eq_true rfl) (fun p e s m below meth c A ls hC hW hl => t6_doubtful_0 hC _ _ _ _ _ _ _ h hW (lv_sub hl [0, 1, 2] rfl))
abbrev rm6_knowing : Room := { frames := 2, cells := 0, slots := 0, locals := 56 }
theorem hdS6_knowing : (yX6_knowing.cls ≠ "java/lang/invoke/MethodHandle" ∧ yX6_knowing.cls ≠ "java/lang/invoke/VarHandle" ∧ (parseMethodDescriptor yX6_knowing.desc).map (fun d => d.parameters.length) = some 3) := by decide +kernel
theorem hin6_knowing_4 : ∀ x ∈ u_ws RX4 TX4 13, x ∈ wsX6_knowing := fun _ h => List.mem_cons_of_mem _ (List.mem_append_right _ h)
set_option maxRecDepth 100000 in
set_option maxHeartbeats 4000000 in
theorem t6_knowing_0 (hC : Cx p s m args meth c cX6_knowing 4 wsX6_knowing RX6 (some .int)) : ∀ (x1 : Int32) (x2 : Int32) (SI : Ob) (res : Int32) (H : Heap) (locs : List Loc) (ls : Array Slot), f6_knowing x1 x2 SI = some res → GW D cy ad (w4 cy aI SI) A s H locs → lv_has ls 4 [(0, .ref (aI 0)), (1, .int x1), (2, .int x2)] → W p l e rm6_knowing s m args below meth c H locs 0 0 (MQ below (QI D cy (w4 cy aI SI) A res) args s 0 0 A) (F0 m 0 ls []) := by
  intro x1 x2 SI res H locs ls hf hW hl
  unfold f6_knowing at hf
  refine lv_aload_n hC.1 hC.2.1 dX6_knowing_0 rfl (lv_at hl 0 rfl) ?_
  refine g_get hC hW hin6_knowing_4 0 rfl rfl 5 (by decide) 1 rfl rfl dX6_knowing_1 ?_
  refine lv_iload_n hC.1 hC.2.1 dX6_knowing_4 rfl (lv_at hl 1 rfl) ?_
  obtain ⟨hi_1, hf⟩ := ck_of hf
  refine g_iald hC hW 5 rfl hi_1 dX6_knowing_5 ?_
  refine lv_topi (fun x3_2 ex3_2 => ?_)
  have hf := lt_nm hf ex3_2
  refine lv_istore_n (lv' := [(3, .int x3_2), (0, .ref (aI 0)), (1, .int x1), (2, .int x2)]) hC.1 hC.2.1 dX6_knowing_6 rfl hl (by decide) rfl (fun ls hl => ?_)
  refine lv_aload_n hC.1 hC.2.1 dX6_knowing_7 rfl (lv_at hl 1 rfl) ?_
  refine lv_iload_n hC.1 hC.2.1 dX6_knowing_8 rfl (lv_at hl 0 rfl) ?_
  refine lv_iload_n hC.1 hC.2.1 dX6_knowing_9 rfl (lv_at hl 3 rfl) ?_
  refine lv_aload_n hC.1 hC.2.1 dX6_knowing_10 rfl (lv_at hl 1 rfl) ?_
  refine lv_iload_n hC.1 hC.2.1 dX6_knowing_11 rfl (lv_at hl 0 rfl) ?_
  refine lv_iload_n hC.1 hC.2.1 dX6_knowing_12 rfl (lv_at hl 3 rfl) ?_
  obtain ⟨r_3, hg_4, hf⟩ := bd_of hf
  refine g_calllS (w' := w4 cy aI SI) hC hW (c6_doubtful l D cy ad aI hg_4) (va_cwS 3 hC.2.2.2.2.1 gX6_knowing_X6_doubtful rfl rfl rfl hdS6_doubtful ⟨Nat.le_of_ble_eq_true rfl, Nat.le_of_ble_eq_true rfl⟩) (Sub.all _ _) rfl hl.1 rfl (Nat.le_of_ble_eq_true rfl) dX6_knowing_13 ⟨Nat.zero_le _, Nat.zero_le _⟩ (fun H locs hW => ?_)
  refine lv_ldc2 (v := (-1)) hC.1 hC.2.1 hC.2.2.2.1 (hC.2.2.2.2.1 _ (List.mem_of_getElem? (i := 2) rfl)) dX6_knowing_16 ?_
  refine lv_lxor hC.1 hC.2.1 dX6_knowing_19 ?_
  obtain ⟨r_5, hg_6, hf⟩ := bd_of hf
  refine g_calliS (w' := w4 cy aI SI) hC hW (c6_withLooks l D cy ad aI hg_6) (va_cwS 4 hC.2.2.2.2.1 gX6_knowing_X6_withLooks rfl rfl rfl hdS6_withLooks ⟨Nat.le_of_ble_eq_true rfl, Nat.le_of_ble_eq_true rfl⟩) (Sub.all _ _) rfl hl.1 rfl (Nat.le_of_ble_eq_true rfl) dX6_knowing_20 ⟨Nat.zero_le _, Nat.zero_le _⟩ (fun H locs hW => ?_)
  obtain rfl := Option.some.inj hf
  exact g_iret hC hW dX6_knowing_23
set_option maxRecDepth 100000 in
set_option maxHeartbeats 4000000 in
theorem c6_knowing (l : Launch) (D : va_G) (cy : Nat → ClassId) (ad : Nat → Nat) (aI : Nat → Nat) {x1 : Int32} {x2 : Int32} {SI : Ob} {res : Int32} (h : f6_knowing x1 x2 SI = some res) : GCi l yX6_knowing wsX6_knowing rm6_knowing [.ref (aI 0), .int x1, .int x2] D cy ad (w4 cy aI SI) (w4 cy aI SI) res := fun sz => GC.start (own := RX6) (Qc := fun A => QI D cy (w4 cy aI SI) A res) sz (by decide) rfl rfl (Nat.le_of_ble_eq_true rfl) (fun p e s m below meth c A ls hC hW hl => t6_knowing_0 hC _ _ _ _ _ _ _ h hW (lv_sub hl [0, 1, 2] rfl))
abbrev rm6_tellingSigns : Room := { frames := 2, cells := 0, slots := 0, locals := 56 }
theorem hdS6_tellingSigns : (yX6_tellingSigns.cls ≠ "java/lang/invoke/MethodHandle" ∧ yX6_tellingSigns.cls ≠ "java/lang/invoke/VarHandle" ∧ (parseMethodDescriptor yX6_tellingSigns.desc).map (fun d => d.parameters.length) = some 2) := by decide +kernel
theorem hin6_tellingSigns_4 : ∀ x ∈ u_ws RX4 TX4 13, x ∈ wsX6_tellingSigns := fun _ h => List.mem_cons_of_mem _ (List.mem_append_right _ h)
set_option maxRecDepth 100000 in
set_option maxHeartbeats 4000000 in
theorem t6_tellingSigns_55 (hC : Cx p s m args meth c cX6_tellingSigns 5 wsX6_tellingSigns RX6 (some .int)) {k4 : Int32 → Int32 → Int32 → Ob → Option (Int32)} (hk4 : ∀ (x1 : Int32) (x2 : Int32) (x3 : Int32) (SI : Ob) (res : Int32) (H : Heap) (locs : List Loc) (ls : Array Slot), k4 x1 x2 x3 SI = some res → GW D cy ad (w4 cy aI SI) A s H locs → lv_has ls 5 [(0, .ref (aI 0)), (1, .int x1), (2, .int x2), (3, .int x3)] → W p l e rm6_tellingSigns s m args below meth c H locs 0 0 (MQ below (QI D cy (w4 cy aI SI) A res) args s 0 0 A) (F0 m 4 ls [])) : ∀ (x1 : Int32) (x2 : Int32) (x3 : Int32) (SI : Ob) (res : Int32) (H : Heap) (locs : List Loc) (ls : Array Slot), f6_tellingSigns_55 k4 x1 x2 x3 SI = some res → GW D cy ad (w4 cy aI SI) A s H locs → lv_has ls 5 [(0, .ref (aI 0)), (1, .int x1), (2, .int x2), (3, .int x3)] → W p l e rm6_tellingSigns s m args below meth c H locs 0 0 (MQ below (QI D cy (w4 cy aI SI) A res) args s 0 0 A) (F0 m 55 ls []) := by
  intro x1 x2 x3 SI res H locs ls hf hW hl
  unfold f6_tellingSigns_55 at hf
  obtain ⟨x3_1, ex3_1⟩ : ∃ y : Int32, y = x3 + 1 := ⟨_, rfl⟩
  have hf := lt_nm hf ex3_1
  refine lv_iinc (v := x3_1) (lv' := [(3, .int x3_1), (0, .ref (aI 0)), (1, .int x1), (2, .int x2)]) hC.1 hC.2.1 dX6_tellingSigns_55 hl (k := 3) rfl (by rw [ex3_1]; rfl) (by decide) rfl (fun ls hl => ?_)
  refine lv_goto (tgt := 4) hC.1 hC.2.1 dX6_tellingSigns_58 (by decide) ?_
  exact hk4 _ _ _ _ _ _ _ _ hf hW (lv_sub hl [1, 2, 3, 0] rfl)
set_option maxRecDepth 100000 in
set_option maxHeartbeats 4000000 in
theorem t6_tellingSigns_35 (hC : Cx p s m args meth c cX6_tellingSigns 5 wsX6_tellingSigns RX6 (some .int)) {k4 : Int32 → Int32 → Int32 → Ob → Option (Int32)} (hk4 : ∀ (x1 : Int32) (x2 : Int32) (x3 : Int32) (SI : Ob) (res : Int32) (H : Heap) (locs : List Loc) (ls : Array Slot), k4 x1 x2 x3 SI = some res → GW D cy ad (w4 cy aI SI) A s H locs → lv_has ls 5 [(0, .ref (aI 0)), (1, .int x1), (2, .int x2), (3, .int x3)] → W p l e rm6_tellingSigns s m args below meth c H locs 0 0 (MQ below (QI D cy (w4 cy aI SI) A res) args s 0 0 A) (F0 m 4 ls [])) : ∀ (x1 : Int32) (x2 : Int32) (x3 : Int32) (z0 : Int32) (SI : Ob) (res : Int32) (H : Heap) (locs : List Loc) (ls : Array Slot), f6_tellingSigns_35 k4 x1 x2 x3 z0 SI = some res → GW D cy ad (w4 cy aI SI) A s H locs → lv_has ls 5 [(0, .ref (aI 0)), (1, .int x1), (2, .int x2), (3, .int x3)] → W p l e rm6_tellingSigns s m args below meth c H locs 0 0 (MQ below (QI D cy (w4 cy aI SI) A res) args s 0 0 A) (F0 m 35 ls [.int z0]) := by
  intro x1 x2 x3 z0 SI res H locs ls hf hW hl
  unfold f6_tellingSigns_35 at hf
  refine lv_istore (lv' := [(4, .int z0), (0, .ref (aI 0)), (1, .int x1), (2, .int x2), (3, .int x3)]) hC.1 hC.2.1 dX6_tellingSigns_35 hl (by decide) rfl (fun ls hl => ?_)
  refine lv_iload hC.1 hC.2.1 dX6_tellingSigns_37 (lv_at hl 0 rfl) ?_
  refine lv_if_eq (tgt := 55) hC.1 hC.2.1 dX6_tellingSigns_39 (by decide) (fun hc_1 => ?_) (fun hc_1 => ?_)
  · have hf := ite_t hf hc_1
    exact t6_tellingSigns_55 hC hk4  _ _ _ _ _ _ _ _ hf hW (lv_sub hl [1, 2, 3, 4] rfl)
  · have hf := ite_f hf hc_1
    refine lv_aload_n hC.1 hC.2.1 dX6_tellingSigns_42 rfl (lv_at hl 1 rfl) ?_
    refine lv_iload_n hC.1 hC.2.1 dX6_tellingSigns_43 rfl (lv_at hl 4 rfl) ?_
    refine lv_iload_n hC.1 hC.2.1 dX6_tellingSigns_44 rfl (lv_at hl 2 rfl) ?_
    obtain ⟨r_2, hg_3, hf⟩ := bd_of hf
    refine g_calllS (w' := w4 cy aI SI) hC hW (c6_doubtful l D cy ad aI hg_3) (va_cwS 3 hC.2.2.2.2.1 gX6_tellingSigns_X6_doubtful rfl rfl rfl hdS6_doubtful ⟨Nat.le_of_ble_eq_true rfl, Nat.le_of_ble_eq_true rfl⟩) (Sub.all _ _) rfl hl.1 rfl (Nat.le_of_ble_eq_true rfl) dX6_tellingSigns_45 ⟨Nat.zero_le _, Nat.zero_le _⟩ (fun H locs hW => ?_)
    refine lv_lconst (v := 0) hC.1 hC.2.1 dX6_tellingSigns_48 (by decide) ?_
    refine W.lcmp hC.1 hC.2.1 dX6_tellingSigns_49 ?_
    refine lv_if_ne (tgt := 55) hC.1 hC.2.1 dX6_tellingSigns_50 (by decide) (fun hc_4 => ?_) (fun hc_4 => ?_)
    · have hf := ite_f hf hc_4
      exact t6_tellingSigns_55 hC hk4  _ _ _ _ _ _ _ _ hf hW (lv_sub hl [1, 2, 3, 4] rfl)
    · have hf := ite_t hf hc_4
      refine lv_iload_n hC.1 hC.2.1 dX6_tellingSigns_53 rfl (lv_at hl 4 rfl) ?_
      refine lv_istore_n (lv' := [(2, .int x3), (4, .int z0), (0, .ref (aI 0)), (1, .int x1), (3, .int x3)]) hC.1 hC.2.1 dX6_tellingSigns_54 rfl hl (by decide) rfl (fun ls hl => ?_)
      exact t6_tellingSigns_55 hC hk4  _ _ _ _ _ _ _ _ hf hW (lv_sub hl [2, 3, 0, 4] rfl)
set_option maxRecDepth 100000 in
set_option maxHeartbeats 4000000 in
theorem t6_tellingSigns_30 (hC : Cx p s m args meth c cX6_tellingSigns 5 wsX6_tellingSigns RX6 (some .int)) {k4 : Int32 → Int32 → Int32 → Ob → Option (Int32)} (hk4 : ∀ (x1 : Int32) (x2 : Int32) (x3 : Int32) (SI : Ob) (res : Int32) (H : Heap) (locs : List Loc) (ls : Array Slot), k4 x1 x2 x3 SI = some res → GW D cy ad (w4 cy aI SI) A s H locs → lv_has ls 5 [(0, .ref (aI 0)), (1, .int x1), (2, .int x2), (3, .int x3)] → W p l e rm6_tellingSigns s m args below meth c H locs 0 0 (MQ below (QI D cy (w4 cy aI SI) A res) args s 0 0 A) (F0 m 4 ls [])) : ∀ (x1 : Int32) (x2 : Int32) (x3 : Int32) (SI : Ob) (res : Int32) (H : Heap) (locs : List Loc) (ls : Array Slot), f6_tellingSigns_30 k4 x1 x2 x3 SI = some res → GW D cy ad (w4 cy aI SI) A s H locs → lv_has ls 5 [(0, .ref (aI 0)), (1, .int x1), (2, .int x2), (3, .int x3)] → W p l e rm6_tellingSigns s m args below meth c H locs 0 0 (MQ below (QI D cy (w4 cy aI SI) A res) args s 0 0 A) (F0 m 30 ls []) := by
  intro x1 x2 x3 SI res H locs ls hf hW hl
  unfold f6_tellingSigns_30 at hf
  refine lv_iconst (v := 1) hC.1 hC.2.1 dX6_tellingSigns_30 (by decide) ?_
  refine lv_goto (tgt := 35) hC.1 hC.2.1 dX6_tellingSigns_31 (by decide) ?_
  exact t6_tellingSigns_35 hC hk4  _ _ _ _ _ _ _ _ _ hf hW (lv_sub hl [0, 1, 2, 3] rfl)
set_option maxRecDepth 100000 in
set_option maxHeartbeats 4000000 in
theorem t6_tellingSigns_4 (hC : Cx p s m args meth c cX6_tellingSigns 5 wsX6_tellingSigns RX6 (some .int)) : ∀ n : Nat, ∀ (x1 : Int32) (x2 : Int32) (x3 : Int32) (SI : Ob) (res : Int32) (H : Heap) (locs : List Loc) (ls : Array Slot), f6_tellingSigns_4 n x1 x2 x3 SI = some res → GW D cy ad (w4 cy aI SI) A s H locs → lv_has ls 5 [(0, .ref (aI 0)), (1, .int x1), (2, .int x2), (3, .int x3)] → W p l e rm6_tellingSigns s m args below meth c H locs 0 0 (MQ below (QI D cy (w4 cy aI SI) A res) args s 0 0 A) (F0 m 4 ls []) := by
  intro n
  induction n with
  | zero =>
    intro _ _ _ _ _ _ _ _ hf _ _
    exact nomatch (show (none : Option (Int32)) = some _ from hf)
  | succ n ih =>
    intro x1 x2 x3 SI res H locs ls hf hW hl
    rw [f6_tellingSigns_4] at hf
    refine lv_iload_n hC.1 hC.2.1 dX6_tellingSigns_4 rfl (lv_at hl 3 rfl) ?_
    refine lv_iconst (v := 1) hC.1 hC.2.1 dX6_tellingSigns_5 (by decide) ?_
    refine lv_aload_n hC.1 hC.2.1 dX6_tellingSigns_6 rfl (lv_at hl 0 rfl) ?_
    refine g_get hC hW hin6_tellingSigns_4 0 rfl rfl 8 (by decide) 1 rfl rfl dX6_tellingSigns_7 ?_
    refine lv_ishl hC.1 hC.2.1 dX6_tellingSigns_10 ?_
    refine lv_icmp_ge (tgt := 61) hC.1 hC.2.1 dX6_tellingSigns_11 (by decide) (fun hc_1 => ?_) (fun hc_1 => ?_)
    · have hf := ite_t hf hc_1
      refine lv_iload_n hC.1 hC.2.1 dX6_tellingSigns_61 rfl (lv_at hl 2 rfl) ?_
      obtain rfl := Option.some.inj hf
      exact g_iret hC hW dX6_tellingSigns_62
    · have hf := ite_f hf hc_1
      refine lv_iload_n hC.1 hC.2.1 dX6_tellingSigns_14 rfl (lv_at hl 2 rfl) ?_
      refine lv_iconst (v := (-1)) hC.1 hC.2.1 dX6_tellingSigns_15 (by decide) ?_
      refine lv_icmp_eq (tgt := 30) hC.1 hC.2.1 dX6_tellingSigns_16 (by decide) (fun hc_2 => ?_) (fun hc_2 => ?_)
      · have hf := ite_t hf hc_2
        exact t6_tellingSigns_30 hC ih  _ _ _ _ _ _ _ _ hf hW (lv_sub hl [0, 1, 2, 3] rfl)
      · have hf := ite_f hf hc_2
        refine lv_iload_n hC.1 hC.2.1 dX6_tellingSigns_19 rfl (lv_at hl 3 rfl) ?_
        obtain ⟨r_3, hg_4, hf⟩ := bd_of hf
        refine g_calliS (w' := w4 cy aI SI) hC hW (cj6_bitCount l D cy ad  hg_4) (va_cwS 1 hC.2.2.2.2.1 gX6_tellingSigns_J6_bitCount_0f7a4 rfl rfl rfl hdSj6_bitCount ⟨Nat.le_of_ble_eq_true rfl, Nat.le_of_ble_eq_true rfl⟩) (Sub.nil _) rfl hl.1 rfl (Nat.le_of_ble_eq_true rfl) dX6_tellingSigns_20 ⟨Nat.zero_le _, Nat.zero_le _⟩ (fun H locs hW => ?_)
        refine lv_iload_n hC.1 hC.2.1 dX6_tellingSigns_23 rfl (lv_at hl 2 rfl) ?_
        obtain ⟨r_5, hg_6, hf⟩ := bd_of hf
        refine g_calliS (w' := w4 cy aI SI) hC hW (cj6_bitCount l D cy ad  hg_6) (va_cwS 1 hC.2.2.2.2.1 gX6_tellingSigns_J6_bitCount_0f7a4 rfl rfl rfl hdSj6_bitCount ⟨Nat.le_of_ble_eq_true rfl, Nat.le_of_ble_eq_true rfl⟩) (Sub.nil _) rfl hl.1 rfl (Nat.le_of_ble_eq_true rfl) dX6_tellingSigns_24 ⟨Nat.zero_le _, Nat.zero_le _⟩ (fun H locs hW => ?_)
        refine lv_icmp_ge (tgt := 34) hC.1 hC.2.1 dX6_tellingSigns_27 (by decide) (fun hc_7 => ?_) (fun hc_7 => ?_)
        · have hf := ite_t hf hc_7
          refine lv_iconst (v := 0) hC.1 hC.2.1 dX6_tellingSigns_34 (by decide) ?_
          exact t6_tellingSigns_35 hC ih  _ _ _ _ _ _ _ _ _ hf hW (lv_sub hl [0, 1, 2, 3] rfl)
        · have hf := ite_f hf hc_7
          exact t6_tellingSigns_30 hC ih  _ _ _ _ _ _ _ _ hf hW (lv_sub hl [0, 1, 2, 3] rfl)
set_option maxRecDepth 100000 in
set_option maxHeartbeats 4000000 in
theorem t6_tellingSigns_0 (hC : Cx p s m args meth c cX6_tellingSigns 5 wsX6_tellingSigns RX6 (some .int)) : ∀ (x1 : Int32) (SI : Ob) (res : Int32) (H : Heap) (locs : List Loc) (ls : Array Slot), f6_tellingSigns x1 SI = some res → GW D cy ad (w4 cy aI SI) A s H locs → lv_has ls 5 [(0, .ref (aI 0)), (1, .int x1)] → W p l e rm6_tellingSigns s m args below meth c H locs 0 0 (MQ below (QI D cy (w4 cy aI SI) A res) args s 0 0 A) (F0 m 0 ls []) := by
  intro x1 SI res H locs ls hf hW hl
  unfold f6_tellingSigns at hf
  refine lv_iconst (v := (-1)) hC.1 hC.2.1 dX6_tellingSigns_0 (by decide) ?_
  refine lv_istore_n (lv' := [(2, .int (-1)), (0, .ref (aI 0)), (1, .int x1)]) hC.1 hC.2.1 dX6_tellingSigns_1 rfl hl (by decide) rfl (fun ls hl => ?_)
  refine lv_iconst (v := 0) hC.1 hC.2.1 dX6_tellingSigns_2 (by decide) ?_
  refine lv_istore_n (lv' := [(3, .int 0), (2, .int (-1)), (0, .ref (aI 0)), (1, .int x1)]) hC.1 hC.2.1 dX6_tellingSigns_3 rfl hl (by decide) rfl (fun ls hl => ?_)
  exact t6_tellingSigns_4 hC _ _ _ _ _ _ _ _ _ hf hW (lv_sub hl [2, 3, 1, 0] rfl)
set_option maxRecDepth 100000 in
set_option maxHeartbeats 4000000 in
theorem c6_tellingSigns (l : Launch) (D : va_G) (cy : Nat → ClassId) (ad : Nat → Nat) (aI : Nat → Nat) {x1 : Int32} {SI : Ob} {res : Int32} (h : f6_tellingSigns x1 SI = some res) : GCi l yX6_tellingSigns wsX6_tellingSigns rm6_tellingSigns [.ref (aI 0), .int x1] D cy ad (w4 cy aI SI) (w4 cy aI SI) res := fun sz => GC.start (own := RX6) (Qc := fun A => QI D cy (w4 cy aI SI) A res) sz (by decide) rfl rfl (Nat.le_of_ble_eq_true rfl) (fun p e s m below meth c A ls hC hW hl => t6_tellingSigns_0 hC _ _ _ _ _ _ h hW (lv_sub hl [0, 1] rfl))
abbrev rm6_sayingRounds : Room := { frames := 3, cells := 0, slots := 0, locals := 79 }
theorem hdS6_sayingRounds : (yX6_sayingRounds.cls ≠ "java/lang/invoke/MethodHandle" ∧ yX6_sayingRounds.cls ≠ "java/lang/invoke/VarHandle" ∧ (parseMethodDescriptor yX6_sayingRounds.desc).map (fun d => d.parameters.length) = some 4) := by decide +kernel
theorem hin6_sayingRounds_4 : ∀ x ∈ u_ws RX4 TX4 13, x ∈ wsX6_sayingRounds := fun _ h => List.mem_cons_of_mem _ (List.mem_append_right _ h)
set_option maxRecDepth 100000 in
set_option maxHeartbeats 4000000 in
theorem t6_sayingRounds_87 (hC : Cx p s m args meth c cX6_sayingRounds 10 wsX6_sayingRounds RX6 (some .int)) : ∀ (z0 : Int32) (SI : Ob) (res : Int32) (H : Heap) (locs : List Loc) (ls : Array Slot), f6_sayingRounds_87 z0 SI = some res → GW D cy ad (w4 cy aI SI) A s H locs → lv_has ls 10 [] → W p l e rm6_sayingRounds s m args below meth c H locs 0 0 (MQ below (QI D cy (w4 cy aI SI) A res) args s 0 0 A) (F0 m 87 ls [.int z0]) := by
  intro z0 SI res H locs ls hf hW hl
  unfold f6_sayingRounds_87 at hf
  obtain rfl := Option.some.inj hf
  exact g_iret hC hW dX6_sayingRounds_87
set_option maxRecDepth 100000 in
set_option maxHeartbeats 4000000 in
theorem t6_sayingRounds_23 (hC : Cx p s m args meth c cX6_sayingRounds 10 wsX6_sayingRounds RX6 (some .int)) {k6 : Int32 → Int32 → Int32 → Int32 → Ob → Option (Int32)} (hk6 : ∀ (x1 : Int32) (x3 : Int32) (x4 : Int32) (x5 : Int32) (SI : Ob) (res : Int32) (H : Heap) (locs : List Loc) (ls : Array Slot), k6 x1 x3 x4 x5 SI = some res → GW D cy ad (w4 cy aI SI) A s H locs → lv_has ls 10 [(0, .ref (aI 0)), (1, .int x1), (3, .int x3), (4, .int x4), (5, .int x5)] → W p l e rm6_sayingRounds s m args below meth c H locs 0 0 (MQ below (QI D cy (w4 cy aI SI) A res) args s 0 0 A) (F0 m 6 ls [])) : ∀ n : Nat, ∀ (x1 : Int32) (x3 : Int32) (x4 : Int32) (x5 : Int32) (x6 : Int32) (x7 : Int32) (x8 : Int32) (SI : Ob) (res : Int32) (H : Heap) (locs : List Loc) (ls : Array Slot), f6_sayingRounds_23 k6 n x1 x3 x4 x5 x6 x7 x8 SI = some res → GW D cy ad (w4 cy aI SI) A s H locs → lv_has ls 10 [(0, .ref (aI 0)), (1, .int x1), (3, .int x3), (4, .int x4), (5, .int x5), (6, .int x6), (7, .int x7), (8, .int x8)] → W p l e rm6_sayingRounds s m args below meth c H locs 0 0 (MQ below (QI D cy (w4 cy aI SI) A res) args s 0 0 A) (F0 m 23 ls []) := by
  intro n
  induction n with
  | zero =>
    intro _ _ _ _ _ _ _ _ _ _ _ _ hf _ _
    exact nomatch (show (none : Option (Int32)) = some _ from hf)
  | succ n ih =>
    intro x1 x3 x4 x5 x6 x7 x8 SI res H locs ls hf hW hl
    rw [f6_sayingRounds_23] at hf
    refine lv_iload hC.1 hC.2.1 dX6_sayingRounds_23 (lv_at hl 7 rfl) ?_
    refine lv_aload_n hC.1 hC.2.1 dX6_sayingRounds_25 rfl (lv_at hl 0 rfl) ?_
    refine g_get hC hW hin6_sayingRounds_4 0 rfl rfl 0 (by decide) 1 rfl rfl dX6_sayingRounds_26 ?_
    refine lv_icmp_ge (tgt := 71) hC.1 hC.2.1 dX6_sayingRounds_29 (by decide) (fun hc_1 => ?_) (fun hc_1 => ?_)
    · have hf := ite_t hf hc_1
      refine lv_iload hC.1 hC.2.1 dX6_sayingRounds_71 (lv_at hl 5 rfl) ?_
      refine lv_if_eq (tgt := 88) hC.1 hC.2.1 dX6_sayingRounds_73 (by decide) (fun hc_2 => ?_) (fun hc_2 => ?_)
      · have hf := ite_t hf hc_2
        refine lv_iload hC.1 hC.2.1 dX6_sayingRounds_88 (lv_at hl 6 rfl) ?_
        refine lv_iload hC.1 hC.2.1 dX6_sayingRounds_90 (lv_at hl 3 rfl) ?_
        refine lv_icmp_ne (tgt := 97) hC.1 hC.2.1 dX6_sayingRounds_92 (by decide) (fun hc_3 => ?_) (fun hc_3 => ?_)
        · have hf := ite_f hf hc_3
          refine lv_iload hC.1 hC.2.1 dX6_sayingRounds_97 (lv_at hl 6 rfl) ?_
          refine lv_istore (lv' := [(4, .int x7), (0, .ref (aI 0)), (1, .int x1), (3, .int x3), (5, .int x5), (6, .int x6), (7, .int x7), (8, .int x8)]) hC.1 hC.2.1 dX6_sayingRounds_99 hl (by decide) rfl (fun ls hl => ?_)
          obtain ⟨x5_4, ex5_4⟩ : ∃ y : Int32, y = x5 + 1 := ⟨_, rfl⟩
          have hf := lt_nm hf ex5_4
          refine lv_iinc (v := x5_4) (lv' := [(5, .int x5_4), (4, .int x7), (0, .ref (aI 0)), (1, .int x1), (3, .int x3), (6, .int x6), (7, .int x7), (8, .int x8)]) hC.1 hC.2.1 dX6_sayingRounds_101 hl (k := 4) rfl (by rw [ex5_4]; rfl) (by decide) rfl (fun ls hl => ?_)
          refine lv_goto (tgt := 6) hC.1 hC.2.1 dX6_sayingRounds_104 (by decide) ?_
          exact hk6 _ _ _ _ _ _ _ _ _ hf hW (lv_sub hl [2, 3, 4, 1, 0] rfl)
        · have hf := ite_t hf hc_3
          refine lv_iconst (v := (-1)) hC.1 hC.2.1 dX6_sayingRounds_95 (by decide) ?_
          obtain rfl := Option.some.inj hf
          exact g_iret hC hW dX6_sayingRounds_96
      · have hf := ite_f hf hc_2
        refine lv_iload_n hC.1 hC.2.1 dX6_sayingRounds_76 rfl (lv_at hl 2 rfl) ?_
        refine lv_if_eq (tgt := 85) hC.1 hC.2.1 dX6_sayingRounds_77 (by decide) (fun hc_5 => ?_) (fun hc_5 => ?_)
        · have hf := ite_t hf hc_5
          refine lv_iload hC.1 hC.2.1 dX6_sayingRounds_85 (lv_at hl 4 rfl) ?_
          exact t6_sayingRounds_87 hC  _ _ _ _ _ _ hf hW (lv_sub hl [] rfl)
        · have hf := ite_f hf hc_5
          refine lv_iload hC.1 hC.2.1 dX6_sayingRounds_80 (lv_at hl 5 rfl) ?_
          refine lv_goto (tgt := 87) hC.1 hC.2.1 dX6_sayingRounds_82 (by decide) ?_
          exact t6_sayingRounds_87 hC  _ _ _ _ _ _ hf hW (lv_sub hl [] rfl)
    · have hf := ite_f hf hc_1
      refine lv_aload_n hC.1 hC.2.1 dX6_sayingRounds_32 rfl (lv_at hl 0 rfl) ?_
      refine lv_iload hC.1 hC.2.1 dX6_sayingRounds_33 (lv_at hl 7 rfl) ?_
      refine lv_iload hC.1 hC.2.1 dX6_sayingRounds_35 (lv_at hl 3 rfl) ?_
      obtain ⟨r_6, hg_7, hf⟩ := bd_of hf
      refine g_calliS (w' := w4 cy aI SI) hC hW (c6_knowing l D cy ad aI hg_7) (va_cwS 3 hC.2.2.2.2.1 gX6_sayingRounds_X6_knowing rfl rfl rfl hdS6_knowing ⟨Nat.le_of_ble_eq_true rfl, Nat.le_of_ble_eq_true rfl⟩) (Sub.all _ _) rfl hl.1 rfl (Nat.le_of_ble_eq_true rfl) dX6_sayingRounds_37 ⟨Nat.zero_le _, Nat.zero_le _⟩ (fun H locs hW => ?_)
      refine lv_istore (lv' := [(9, .int r_6), (0, .ref (aI 0)), (1, .int x1), (3, .int x3), (4, .int x4), (5, .int x5), (6, .int x6), (7, .int x7), (8, .int x8)]) hC.1 hC.2.1 dX6_sayingRounds_40 hl (by decide) rfl (fun ls hl => ?_)
      refine lv_iload hC.1 hC.2.1 dX6_sayingRounds_42 (lv_at hl 6 rfl) ?_
      refine lv_iload hC.1 hC.2.1 dX6_sayingRounds_44 (lv_at hl 0 rfl) ?_
      refine lv_iload_n hC.1 hC.2.1 dX6_sayingRounds_46 rfl (lv_at hl 2 rfl) ?_
      refine lv_iushr (v := ush r_6 x1) hC.1 hC.2.1 dX6_sayingRounds_47 rfl ?_
      refine lv_iconst (v := 1) hC.1 hC.2.1 dX6_sayingRounds_48 (by decide) ?_
      refine lv_iand hC.1 hC.2.1 dX6_sayingRounds_49 ?_
      refine lv_iload hC.1 hC.2.1 dX6_sayingRounds_50 (lv_at hl 8 rfl) ?_
      refine lv_ishl hC.1 hC.2.1 dX6_sayingRounds_52 ?_
      refine lv_ior hC.1 hC.2.1 dX6_sayingRounds_53 ?_
      refine lv_topi (fun x6_8 ex6_8 => ?_)
      have hf := lt_nm hf ex6_8
      refine lv_istore (lv' := [(6, .int x6_8), (9, .int r_6), (0, .ref (aI 0)), (1, .int x1), (3, .int x3), (4, .int x4), (5, .int x5), (7, .int x7), (8, .int x8)]) hC.1 hC.2.1 dX6_sayingRounds_54 hl (by decide) rfl (fun ls hl => ?_)
      refine lv_iload hC.1 hC.2.1 dX6_sayingRounds_56 (lv_at hl 7 rfl) ?_
      refine lv_iload hC.1 hC.2.1 dX6_sayingRounds_58 (lv_at hl 1 rfl) ?_
      refine lv_iconst (v := (-1)) hC.1 hC.2.1 dX6_sayingRounds_60 (by decide) ?_
      refine lv_ixor hC.1 hC.2.1 dX6_sayingRounds_61 ?_
      refine lv_iand hC.1 hC.2.1 dX6_sayingRounds_62 ?_
      refine lv_topi (fun x7_9 ex7_9 => ?_)
      have hf := lt_nm hf ex7_9
      refine lv_istore (lv' := [(7, .int x7_9), (6, .int x6_8), (9, .int r_6), (0, .ref (aI 0)), (1, .int x1), (3, .int x3), (4, .int x4), (5, .int x5), (8, .int x8)]) hC.1 hC.2.1 dX6_sayingRounds_63 hl (by decide) rfl (fun ls hl => ?_)
      obtain ⟨x8_10, ex8_10⟩ : ∃ y : Int32, y = x8 + 1 := ⟨_, rfl⟩
      have hf := lt_nm hf ex8_10
      refine lv_iinc (v := x8_10) (lv' := [(8, .int x8_10), (7, .int x7_9), (6, .int x6_8), (9, .int r_6), (0, .ref (aI 0)), (1, .int x1), (3, .int x3), (4, .int x4), (5, .int x5)]) hC.1 hC.2.1 dX6_sayingRounds_65 hl (k := 8) rfl (by rw [ex8_10]; rfl) (by decide) rfl (fun ls hl => ?_)
      refine lv_goto (tgt := 23) hC.1 hC.2.1 dX6_sayingRounds_68 (by decide) ?_
      exact ih _ _ _ _ _ _ _ _ _ _ _ _ hf hW (lv_sub hl [4, 5, 6, 7, 8, 2, 1, 0] rfl)
set_option maxRecDepth 100000 in
set_option maxHeartbeats 4000000 in
theorem t6_sayingRounds_6 (hC : Cx p s m args meth c cX6_sayingRounds 10 wsX6_sayingRounds RX6 (some .int)) : ∀ n : Nat, ∀ (x1 : Int32) (x3 : Int32) (x4 : Int32) (x5 : Int32) (SI : Ob) (res : Int32) (H : Heap) (locs : List Loc) (ls : Array Slot), f6_sayingRounds_6 n x1 x3 x4 x5 SI = some res → GW D cy ad (w4 cy aI SI) A s H locs → lv_has ls 10 [(0, .ref (aI 0)), (1, .int x1), (3, .int x3), (4, .int x4), (5, .int x5)] → W p l e rm6_sayingRounds s m args below meth c H locs 0 0 (MQ below (QI D cy (w4 cy aI SI) A res) args s 0 0 A) (F0 m 6 ls []) := by
  intro n
  induction n with
  | zero =>
    intro _ _ _ _ _ _ _ _ _ hf _ _
    exact nomatch (show (none : Option (Int32)) = some _ from hf)
  | succ n ih =>
    intro x1 x3 x4 x5 SI res H locs ls hf hW hl
    rw [f6_sayingRounds_6] at hf
    refine lv_iload hC.1 hC.2.1 dX6_sayingRounds_6 (lv_at hl 4 rfl) ?_
    refine lv_bipush (v := 32) hC.1 hC.2.1 dX6_sayingRounds_8 (by decide) ?_
    refine lv_icmp_gt (tgt := 107) hC.1 hC.2.1 dX6_sayingRounds_10 (by decide) (fun hc_1 => ?_) (fun hc_1 => ?_)
    · have hf := ite_t hf hc_1
      refine lv_iconst (v := (-1)) hC.1 hC.2.1 dX6_sayingRounds_107 (by decide) ?_
      obtain rfl := Option.some.inj hf
      exact g_iret hC hW dX6_sayingRounds_108
    · have hf := ite_f hf hc_1
      refine lv_iconst (v := 0) hC.1 hC.2.1 dX6_sayingRounds_13 (by decide) ?_
      refine lv_istore (lv' := [(6, .int 0), (0, .ref (aI 0)), (1, .int x1), (3, .int x3), (4, .int x4), (5, .int x5)]) hC.1 hC.2.1 dX6_sayingRounds_14 hl (by decide) rfl (fun ls hl => ?_)
      refine lv_iload hC.1 hC.2.1 dX6_sayingRounds_16 (lv_at hl 4 rfl) ?_
      refine lv_istore (lv' := [(7, .int x4), (6, .int 0), (0, .ref (aI 0)), (1, .int x1), (3, .int x3), (4, .int x4), (5, .int x5)]) hC.1 hC.2.1 dX6_sayingRounds_18 hl (by decide) rfl (fun ls hl => ?_)
      refine lv_iconst (v := 0) hC.1 hC.2.1 dX6_sayingRounds_20 (by decide) ?_
      refine lv_istore (lv' := [(8, .int 0), (7, .int x4), (6, .int 0), (0, .ref (aI 0)), (1, .int x1), (3, .int x3), (4, .int x4), (5, .int x5)]) hC.1 hC.2.1 dX6_sayingRounds_21 hl (by decide) rfl (fun ls hl => ?_)
      exact t6_sayingRounds_23 hC ih _ _ _ _ _ _ _ _ _ _ _ _ _ hf hW (lv_sub hl [3, 4, 5, 6, 7, 2, 1, 0] rfl)
set_option maxRecDepth 100000 in
set_option maxHeartbeats 4000000 in
theorem t6_sayingRounds_0 (hC : Cx p s m args meth c cX6_sayingRounds 10 wsX6_sayingRounds RX6 (some .int)) : ∀ (x1 : Int32) (x2 : Int32) (x3 : Int32) (SI : Ob) (res : Int32) (H : Heap) (locs : List Loc) (ls : Array Slot), f6_sayingRounds x1 x2 x3 SI = some res → GW D cy ad (w4 cy aI SI) A s H locs → lv_has ls 10 [(0, .ref (aI 0)), (1, .int x1), (2, .int x2), (3, .int x3)] → W p l e rm6_sayingRounds s m args below meth c H locs 0 0 (MQ below (QI D cy (w4 cy aI SI) A res) args s 0 0 A) (F0 m 0 ls []) := by
  intro x1 x2 x3 SI res H locs ls hf hW hl
  unfold f6_sayingRounds at hf
  refine lv_iload_n hC.1 hC.2.1 dX6_sayingRounds_0 rfl (lv_at hl 2 rfl) ?_
  refine lv_istore (lv' := [(4, .int x2), (0, .ref (aI 0)), (1, .int x1), (2, .int x2), (3, .int x3)]) hC.1 hC.2.1 dX6_sayingRounds_1 hl (by decide) rfl (fun ls hl => ?_)
  refine lv_iconst (v := 1) hC.1 hC.2.1 dX6_sayingRounds_3 (by decide) ?_
  refine lv_istore (lv' := [(5, .int 1), (4, .int x2), (0, .ref (aI 0)), (1, .int x1), (2, .int x2), (3, .int x3)]) hC.1 hC.2.1 dX6_sayingRounds_4 hl (by decide) rfl (fun ls hl => ?_)
  exact t6_sayingRounds_6 hC _ _ _ _ _ _ _ _ _ _ hf hW (lv_sub hl [2, 3, 5, 1, 0] rfl)
set_option maxRecDepth 100000 in
set_option maxHeartbeats 4000000 in
theorem c6_sayingRounds (l : Launch) (D : va_G) (cy : Nat → ClassId) (ad : Nat → Nat) (aI : Nat → Nat) {x1 : Int32} {x2 : Int32} {x3 : Int32} {SI : Ob} {res : Int32} (h : f6_sayingRounds x1 x2 x3 SI = some res) : GCi l yX6_sayingRounds wsX6_sayingRounds rm6_sayingRounds [.ref (aI 0), .int x1, .int x2, .int x3] D cy ad (w4 cy aI SI) (w4 cy aI SI) res := fun sz => GC.start (own := RX6) (Qc := fun A => QI D cy (w4 cy aI SI) A res) sz (by decide) rfl rfl (Nat.le_of_ble_eq_true rfl) (fun p e s m below meth c A ls hC hW hl => t6_sayingRounds_0 hC _ _ _ _ _ _ _ _ h hW (lv_sub hl [0, 1, 2, 3] rfl))
abbrev rm6_seenFrom : Room := { frames := 1, cells := 0, slots := 0, locals := 27 }
theorem hdS6_seenFrom : (yX6_seenFrom.cls ≠ "java/lang/invoke/MethodHandle" ∧ yX6_seenFrom.cls ≠ "java/lang/invoke/VarHandle" ∧ (parseMethodDescriptor yX6_seenFrom.desc).map (fun d => d.parameters.length) = some 4) := by decide +kernel
theorem hin6_seenFrom_4 : ∀ x ∈ u_ws RX4 TX4 13, x ∈ wsX6_seenFrom := fun _ h => List.mem_cons_of_mem _ (List.mem_append_right _ h)
set_option maxRecDepth 100000 in
set_option maxHeartbeats 4000000 in
theorem t6_seenFrom_6 (hC : Cx p s m args meth c cX6_seenFrom 7 wsX6_seenFrom RX6 (some .int)) : ∀ n : Nat, ∀ (x1 : Int32) (x2 : Int32) (x3 : Int32) (x4 : Int64) (x6 : Int32) (SI : Ob) (res : Int32) (H : Heap) (locs : List Loc) (ls : Array Slot), f6_seenFrom_6 n x1 x2 x3 x4 x6 SI = some res → GW D cy ad (w4 cy aI SI) A s H locs → lv_has ls 7 [(0, .ref (aI 0)), (1, .int x1), (2, .int x2), (3, .int x3), (4, .long x4), (6, .int x6)] → W p l e rm6_seenFrom s m args below meth c H locs 0 0 (MQ below (QI D cy (w4 cy aI SI) A res) args s 0 0 A) (F0 m 6 ls []) := by
  intro n
  induction n with
  | zero =>
    intro _ _ _ _ _ _ _ _ _ _ hf _ _
    exact nomatch (show (none : Option (Int32)) = some _ from hf)
  | succ n ih =>
    intro x1 x2 x3 x4 x6 SI res H locs ls hf hW hl
    rw [f6_seenFrom_6] at hf
    refine lv_iload hC.1 hC.2.1 dX6_seenFrom_6 (lv_at hl 5 rfl) ?_
    refine lv_aload_n hC.1 hC.2.1 dX6_seenFrom_8 rfl (lv_at hl 0 rfl) ?_
    refine g_get hC hW hin6_seenFrom_4 0 rfl rfl 0 (by decide) 1 rfl rfl dX6_seenFrom_9 ?_
    refine lv_icmp_ge (tgt := 34) hC.1 hC.2.1 dX6_seenFrom_12 (by decide) (fun hc_1 => ?_) (fun hc_1 => ?_)
    · have hf := ite_t hf hc_1
      refine lv_aload_n hC.1 hC.2.1 dX6_seenFrom_34 rfl (lv_at hl 0 rfl) ?_
      refine lv_iload_n hC.1 hC.2.1 dX6_seenFrom_35 rfl (lv_at hl 1 rfl) ?_
      refine lv_iload_n hC.1 hC.2.1 dX6_seenFrom_36 rfl (lv_at hl 2 rfl) ?_
      refine lv_lload hC.1 hC.2.1 dX6_seenFrom_37 (lv_at hl 4 rfl) ?_
      obtain ⟨r_2, hg_3, hf⟩ := bd_of hf
      refine g_calliS (w' := w4 cy aI SI) hC hW (c6_withLooks l D cy ad aI hg_3) (va_cwS 4 hC.2.2.2.2.1 gX6_seenFrom_X6_withLooks rfl rfl rfl hdS6_withLooks ⟨Nat.le_of_ble_eq_true rfl, Nat.le_of_ble_eq_true rfl⟩) (Sub.all _ _) rfl hl.1 rfl (Nat.le_of_ble_eq_true rfl) dX6_seenFrom_39 ⟨Nat.zero_le _, Nat.zero_le _⟩ (fun H locs hW => ?_)
      obtain rfl := Option.some.inj hf
      exact g_iret hC hW dX6_seenFrom_42
    · have hf := ite_f hf hc_1
      refine lv_lload hC.1 hC.2.1 dX6_seenFrom_15 (lv_at hl 4 rfl) ?_
      refine lv_aload_n hC.1 hC.2.1 dX6_seenFrom_17 rfl (lv_at hl 0 rfl) ?_
      refine lv_iload_n hC.1 hC.2.1 dX6_seenFrom_18 rfl (lv_at hl 1 rfl) ?_
      refine lv_iload_n hC.1 hC.2.1 dX6_seenFrom_19 rfl (lv_at hl 3 rfl) ?_
      refine lv_iload hC.1 hC.2.1 dX6_seenFrom_20 (lv_at hl 5 rfl) ?_
      obtain ⟨r_4, hg_5, hf⟩ := bd_of hf
      refine g_calllS (w' := w4 cy aI SI) hC hW (c6_looks l D cy ad aI hg_5) (va_cwS 4 hC.2.2.2.2.1 gX6_seenFrom_X6_looks rfl rfl rfl hdS6_looks ⟨Nat.le_of_ble_eq_true rfl, Nat.le_of_ble_eq_true rfl⟩) (Sub.all _ _) rfl hl.1 rfl (Nat.le_of_ble_eq_true rfl) dX6_seenFrom_22 ⟨Nat.zero_le _, Nat.zero_le _⟩ (fun H locs hW => ?_)
      refine lv_lor hC.1 hC.2.1 dX6_seenFrom_25 ?_
      refine lv_topl (fun x4_6 ex4_6 => ?_)
      have hf := lt_nm hf ex4_6
      refine lv_lstore (lv' := [(4, .long x4_6), (0, .ref (aI 0)), (1, .int x1), (2, .int x2), (3, .int x3), (6, .int x6)]) hC.1 hC.2.1 dX6_seenFrom_26 hl (by decide) rfl (fun ls hl => ?_)
      obtain ⟨x6_7, ex6_7⟩ : ∃ y : Int32, y = x6 + 1 := ⟨_, rfl⟩
      have hf := lt_nm hf ex6_7
      refine lv_iinc (v := x6_7) (lv' := [(6, .int x6_7), (4, .long x4_6), (0, .ref (aI 0)), (1, .int x1), (2, .int x2), (3, .int x3)]) hC.1 hC.2.1 dX6_seenFrom_28 hl (k := 5) rfl (by rw [ex6_7]; rfl) (by decide) rfl (fun ls hl => ?_)
      refine lv_goto (tgt := 6) hC.1 hC.2.1 dX6_seenFrom_31 (by decide) ?_
      exact ih _ _ _ _ _ _ _ _ _ _ hf hW (lv_sub hl [2, 3, 4, 5, 1, 0] rfl)
set_option maxRecDepth 100000 in
set_option maxHeartbeats 4000000 in
theorem t6_seenFrom_0 (hC : Cx p s m args meth c cX6_seenFrom 7 wsX6_seenFrom RX6 (some .int)) : ∀ (x1 : Int32) (x2 : Int32) (x3 : Int32) (SI : Ob) (res : Int32) (H : Heap) (locs : List Loc) (ls : Array Slot), f6_seenFrom x1 x2 x3 SI = some res → GW D cy ad (w4 cy aI SI) A s H locs → lv_has ls 7 [(0, .ref (aI 0)), (1, .int x1), (2, .int x2), (3, .int x3)] → W p l e rm6_seenFrom s m args below meth c H locs 0 0 (MQ below (QI D cy (w4 cy aI SI) A res) args s 0 0 A) (F0 m 0 ls []) := by
  intro x1 x2 x3 SI res H locs ls hf hW hl
  unfold f6_seenFrom at hf
  refine lv_lconst (v := 0) hC.1 hC.2.1 dX6_seenFrom_0 (by decide) ?_
  refine lv_lstore (lv' := [(4, .long 0), (0, .ref (aI 0)), (1, .int x1), (2, .int x2), (3, .int x3)]) hC.1 hC.2.1 dX6_seenFrom_1 hl (by decide) rfl (fun ls hl => ?_)
  refine lv_iconst (v := 0) hC.1 hC.2.1 dX6_seenFrom_3 (by decide) ?_
  refine lv_istore (lv' := [(6, .int 0), (4, .long 0), (0, .ref (aI 0)), (1, .int x1), (2, .int x2), (3, .int x3)]) hC.1 hC.2.1 dX6_seenFrom_4 hl (by decide) rfl (fun ls hl => ?_)
  exact t6_seenFrom_6 hC _ _ _ _ _ _ _ _ _ _ _ hf hW (lv_sub hl [2, 3, 4, 5, 1, 0] rfl)
set_option maxRecDepth 100000 in
set_option maxHeartbeats 4000000 in
theorem c6_seenFrom (l : Launch) (D : va_G) (cy : Nat → ClassId) (ad : Nat → Nat) (aI : Nat → Nat) {x1 : Int32} {x2 : Int32} {x3 : Int32} {SI : Ob} {res : Int32} (h : f6_seenFrom x1 x2 x3 SI = some res) : GCi l yX6_seenFrom wsX6_seenFrom rm6_seenFrom [.ref (aI 0), .int x1, .int x2, .int x3] D cy ad (w4 cy aI SI) (w4 cy aI SI) res := fun sz => GC.start (own := RX6) (Qc := fun A => QI D cy (w4 cy aI SI) A res) sz (by decide) rfl rfl (Nat.le_of_ble_eq_true rfl) (fun p e s m below meth c A ls hC hW hl => t6_seenFrom_0 hC _ _ _ _ _ _ _ _ h hW (lv_sub hl [0, 1, 2, 3] rfl))
abbrev rm6_reached : Room := { frames := 2, cells := 0, slots := 0, locals := 53 }
theorem hdS6_reached : (yX6_reached.cls ≠ "java/lang/invoke/MethodHandle" ∧ yX6_reached.cls ≠ "java/lang/invoke/VarHandle" ∧ (parseMethodDescriptor yX6_reached.desc).map (fun d => d.parameters.length) = some 3) := by decide +kernel
theorem hin6_reached_4 : ∀ x ∈ u_ws RX4 TX4 13, x ∈ wsX6_reached := fun _ h => List.mem_cons_of_mem _ (List.mem_append_right _ h)
set_option maxRecDepth 100000 in
set_option maxHeartbeats 4000000 in
theorem t6_reached_66 (hC : Cx p s m args meth c cX6_reached 7 wsX6_reached RX6 (some .int)) : ∀ (x3 : Int32) (SI : Ob) (res : Int32) (H : Heap) (locs : List Loc) (ls : Array Slot), f6_reached_66 x3 SI = some res → GW D cy ad (w4 cy aI SI) A s H locs → lv_has ls 7 [(3, .int x3)] → W p l e rm6_reached s m args below meth c H locs 0 0 (MQ below (QI D cy (w4 cy aI SI) A res) args s 0 0 A) (F0 m 66 ls []) := by
  intro x3 SI res H locs ls hf hW hl
  unfold f6_reached_66 at hf
  refine lv_iload_n hC.1 hC.2.1 dX6_reached_66 rfl (lv_at hl 0 rfl) ?_
  obtain rfl := Option.some.inj hf
  exact g_iret hC hW dX6_reached_67
set_option maxRecDepth 100000 in
set_option maxHeartbeats 4000000 in
theorem t6_reached_20 (hC : Cx p s m args meth c cX6_reached 7 wsX6_reached RX6 (some .int)) {k7 : Int32 → Int32 → Int32 → Ob → Option (Int32)} (hk7 : ∀ (x2 : Int32) (x3 : Int32) (x4 : Int32) (SI : Ob) (res : Int32) (H : Heap) (locs : List Loc) (ls : Array Slot), k7 x2 x3 x4 SI = some res → GW D cy ad (w4 cy aI SI) A s H locs → lv_has ls 7 [(0, .ref (aI 0)), (2, .int x2), (3, .int x3), (4, .int x4)] → W p l e rm6_reached s m args below meth c H locs 0 0 (MQ below (QI D cy (w4 cy aI SI) A res) args s 0 0 A) (F0 m 7 ls [])) : ∀ n : Nat, ∀ (x2 : Int32) (x3 : Int32) (x4 : Int32) (x5 : Int32) (x6 : Int32) (SI : Ob) (res : Int32) (H : Heap) (locs : List Loc) (ls : Array Slot), f6_reached_20 k7 n x2 x3 x4 x5 x6 SI = some res → GW D cy ad (w4 cy aI SI) A s H locs → lv_has ls 7 [(0, .ref (aI 0)), (2, .int x2), (3, .int x3), (4, .int x4), (5, .int x5), (6, .int x6)] → W p l e rm6_reached s m args below meth c H locs 0 0 (MQ below (QI D cy (w4 cy aI SI) A res) args s 0 0 A) (F0 m 20 ls []) := by
  intro n
  induction n with
  | zero =>
    intro _ _ _ _ _ _ _ _ _ _ hf _ _
    exact nomatch (show (none : Option (Int32)) = some _ from hf)
  | succ n ih =>
    intro x2 x3 x4 x5 x6 SI res H locs ls hf hW hl
    rw [f6_reached_20] at hf
    refine lv_iload hC.1 hC.2.1 dX6_reached_20 (lv_at hl 5 rfl) ?_
    refine lv_aload_n hC.1 hC.2.1 dX6_reached_22 rfl (lv_at hl 0 rfl) ?_
    refine g_get hC hW hin6_reached_4 0 rfl rfl 0 (by decide) 1 rfl rfl dX6_reached_23 ?_
    refine lv_icmp_ge (tgt := 51) hC.1 hC.2.1 dX6_reached_26 (by decide) (fun hc_1 => ?_) (fun hc_1 => ?_)
    · have hf := ite_t hf hc_1
      refine lv_iload_n hC.1 hC.2.1 dX6_reached_51 rfl (lv_at hl 2 rfl) ?_
      refine lv_iload hC.1 hC.2.1 dX6_reached_52 (lv_at hl 4 rfl) ?_
      refine lv_icmp_ne (tgt := 60) hC.1 hC.2.1 dX6_reached_54 (by decide) (fun hc_2 => ?_) (fun hc_2 => ?_)
      · have hf := ite_f hf hc_2
        obtain ⟨x4_3, ex4_3⟩ : ∃ y : Int32, y = x4 + 1 := ⟨_, rfl⟩
        have hf := lt_nm hf ex4_3
        refine lv_iinc (v := x4_3) (lv' := [(4, .int x4_3), (0, .ref (aI 0)), (2, .int x2), (3, .int x3), (5, .int x5), (6, .int x6)]) hC.1 hC.2.1 dX6_reached_60 hl (k := 3) rfl (by rw [ex4_3]; rfl) (by decide) rfl (fun ls hl => ?_)
        refine lv_goto (tgt := 7) hC.1 hC.2.1 dX6_reached_63 (by decide) ?_
        exact hk7 _ _ _ _ _ _ _ _ hf hW (lv_sub hl [1, 2, 3, 0] rfl)
      · have hf := ite_t hf hc_2
        refine lv_goto (tgt := 66) hC.1 hC.2.1 dX6_reached_57 (by decide) ?_
        exact t6_reached_66 hC  _ _ _ _ _ _ hf hW (lv_sub hl [2] rfl)
    · have hf := ite_f hf hc_1
      refine lv_iload_n hC.1 hC.2.1 dX6_reached_29 rfl (lv_at hl 2 rfl) ?_
      refine lv_aload_n hC.1 hC.2.1 dX6_reached_30 rfl (lv_at hl 0 rfl) ?_
      refine lv_aload_n hC.1 hC.2.1 dX6_reached_31 rfl (lv_at hl 0 rfl) ?_
      refine g_get hC hW hin6_reached_4 0 rfl rfl 5 (by decide) 2 rfl rfl dX6_reached_32 ?_
      refine lv_iload hC.1 hC.2.1 dX6_reached_35 (lv_at hl 5 rfl) ?_
      obtain ⟨hi_4, hf⟩ := ck_of hf
      refine g_iald hC hW 5 rfl hi_4 dX6_reached_37 ?_
      refine lv_iload_n hC.1 hC.2.1 dX6_reached_38 rfl (lv_at hl 1 rfl) ?_
      refine lv_iload_n hC.1 hC.2.1 dX6_reached_39 rfl (lv_at hl 2 rfl) ?_
      obtain ⟨r_5, hg_6, hf⟩ := bd_of hf
      refine g_calliS (w' := w4 cy aI SI) hC hW (c6_seenFrom l D cy ad aI hg_6) (va_cwS 4 hC.2.2.2.2.1 gX6_reached_X6_seenFrom rfl rfl rfl hdS6_seenFrom ⟨Nat.le_of_ble_eq_true rfl, Nat.le_of_ble_eq_true rfl⟩) (Sub.all _ _) rfl hl.1 rfl (Nat.le_of_ble_eq_true rfl) dX6_reached_40 ⟨Nat.zero_le _, Nat.zero_le _⟩ (fun H locs hW => ?_)
      refine lv_ior hC.1 hC.2.1 dX6_reached_43 ?_
      refine lv_topi (fun x3_7 ex3_7 => ?_)
      have hf := lt_nm hf ex3_7
      refine lv_istore_n (lv' := [(3, .int x3_7), (0, .ref (aI 0)), (2, .int x2), (4, .int x4), (5, .int x5), (6, .int x6)]) hC.1 hC.2.1 dX6_reached_44 rfl hl (by decide) rfl (fun ls hl => ?_)
      obtain ⟨x6_8, ex6_8⟩ : ∃ y : Int32, y = x6 + 1 := ⟨_, rfl⟩
      have hf := lt_nm hf ex6_8
      refine lv_iinc (v := x6_8) (lv' := [(6, .int x6_8), (3, .int x3_7), (0, .ref (aI 0)), (2, .int x2), (4, .int x4), (5, .int x5)]) hC.1 hC.2.1 dX6_reached_45 hl (k := 5) rfl (by rw [ex6_8]; rfl) (by decide) rfl (fun ls hl => ?_)
      refine lv_goto (tgt := 20) hC.1 hC.2.1 dX6_reached_48 (by decide) ?_
      exact ih _ _ _ _ _ _ _ _ _ _ hf hW (lv_sub hl [2, 3, 1, 4, 5, 0] rfl)
set_option maxRecDepth 100000 in
set_option maxHeartbeats 4000000 in
theorem t6_reached_7 (hC : Cx p s m args meth c cX6_reached 7 wsX6_reached RX6 (some .int)) : ∀ n : Nat, ∀ (x2 : Int32) (x3 : Int32) (x4 : Int32) (SI : Ob) (res : Int32) (H : Heap) (locs : List Loc) (ls : Array Slot), f6_reached_7 n x2 x3 x4 SI = some res → GW D cy ad (w4 cy aI SI) A s H locs → lv_has ls 7 [(0, .ref (aI 0)), (2, .int x2), (3, .int x3), (4, .int x4)] → W p l e rm6_reached s m args below meth c H locs 0 0 (MQ below (QI D cy (w4 cy aI SI) A res) args s 0 0 A) (F0 m 7 ls []) := by
  intro n
  induction n with
  | zero =>
    intro _ _ _ _ _ _ _ _ hf _ _
    exact nomatch (show (none : Option (Int32)) = some _ from hf)
  | succ n ih =>
    intro x2 x3 x4 SI res H locs ls hf hW hl
    rw [f6_reached_7] at hf
    refine lv_iload hC.1 hC.2.1 dX6_reached_7 (lv_at hl 3 rfl) ?_
    refine lv_bipush (v := 32) hC.1 hC.2.1 dX6_reached_9 (by decide) ?_
    refine lv_icmp_ge (tgt := 66) hC.1 hC.2.1 dX6_reached_11 (by decide) (fun hc_1 => ?_) (fun hc_1 => ?_)
    · have hf := ite_t hf hc_1
      exact t6_reached_66 hC  _ _ _ _ _ _ hf hW (lv_sub hl [2] rfl)
    · have hf := ite_f hf hc_1
      refine lv_iload_n hC.1 hC.2.1 dX6_reached_14 rfl (lv_at hl 2 rfl) ?_
      refine lv_istore (lv' := [(5, .int x3), (0, .ref (aI 0)), (2, .int x2), (3, .int x3), (4, .int x4)]) hC.1 hC.2.1 dX6_reached_15 hl (by decide) rfl (fun ls hl => ?_)
      refine lv_iconst (v := 0) hC.1 hC.2.1 dX6_reached_17 (by decide) ?_
      refine lv_istore (lv' := [(6, .int 0), (5, .int x3), (0, .ref (aI 0)), (2, .int x2), (3, .int x3), (4, .int x4)]) hC.1 hC.2.1 dX6_reached_18 hl (by decide) rfl (fun ls hl => ?_)
      exact t6_reached_20 hC ih _ _ _ _ _ _ _ _ _ _ _ hf hW (lv_sub hl [2, 3, 4, 5, 1, 0] rfl)
set_option maxRecDepth 100000 in
set_option maxHeartbeats 4000000 in
theorem t6_reached_0 (hC : Cx p s m args meth c cX6_reached 7 wsX6_reached RX6 (some .int)) : ∀ (x1 : Int32) (x2 : Int32) (SI : Ob) (res : Int32) (H : Heap) (locs : List Loc) (ls : Array Slot), f6_reached x1 x2 SI = some res → GW D cy ad (w4 cy aI SI) A s H locs → lv_has ls 7 [(0, .ref (aI 0)), (1, .int x1), (2, .int x2)] → W p l e rm6_reached s m args below meth c H locs 0 0 (MQ below (QI D cy (w4 cy aI SI) A res) args s 0 0 A) (F0 m 0 ls []) := by
  intro x1 x2 SI res H locs ls hf hW hl
  unfold f6_reached at hf
  refine lv_iconst (v := 1) hC.1 hC.2.1 dX6_reached_0 (by decide) ?_
  refine lv_iload_n hC.1 hC.2.1 dX6_reached_1 rfl (lv_at hl 1 rfl) ?_
  refine lv_ishl hC.1 hC.2.1 dX6_reached_2 ?_
  refine lv_topi (fun x3_1 ex3_1 => ?_)
  have hf := lt_nm hf ex3_1
  refine lv_istore_n (lv' := [(3, .int x3_1), (0, .ref (aI 0)), (1, .int x1), (2, .int x2)]) hC.1 hC.2.1 dX6_reached_3 rfl hl (by decide) rfl (fun ls hl => ?_)
  refine lv_iconst (v := 0) hC.1 hC.2.1 dX6_reached_4 (by decide) ?_
  refine lv_istore (lv' := [(4, .int 0), (3, .int x3_1), (0, .ref (aI 0)), (1, .int x1), (2, .int x2)]) hC.1 hC.2.1 dX6_reached_5 hl (by decide) rfl (fun ls hl => ?_)
  exact t6_reached_7 hC _ _ _ _ _ _ _ _ _ hf hW (lv_sub hl [2, 4, 1, 0] rfl)
set_option maxRecDepth 100000 in
set_option maxHeartbeats 4000000 in
theorem c6_reached (l : Launch) (D : va_G) (cy : Nat → ClassId) (ad : Nat → Nat) (aI : Nat → Nat) {x1 : Int32} {x2 : Int32} {SI : Ob} {res : Int32} (h : f6_reached x1 x2 SI = some res) : GCi l yX6_reached wsX6_reached rm6_reached [.ref (aI 0), .int x1, .int x2] D cy ad (w4 cy aI SI) (w4 cy aI SI) res := fun sz => GC.start (own := RX6) (Qc := fun A => QI D cy (w4 cy aI SI) A res) sz (by decide) rfl rfl (Nat.le_of_ble_eq_true rfl) (fun p e s m below meth c A ls hC hW hl => t6_reached_0 hC _ _ _ _ _ _ _ h hW (lv_sub hl [0, 1, 2] rfl))
abbrev rm6_next : Room := { frames := 0, cells := 0, slots := 0, locals := 0 }
theorem hdS6_next : (yX6_next.cls ≠ "java/lang/invoke/MethodHandle" ∧ yX6_next.cls ≠ "java/lang/invoke/VarHandle" ∧ (parseMethodDescriptor yX6_next.desc).map (fun d => d.parameters.length) = some 1) := by decide +kernel
set_option maxRecDepth 100000 in
set_option maxHeartbeats 4000000 in
theorem t6_next_0 (hC : Cx p s m args meth c cX6_next 2 wsX6_next RX6 (some .long)) : ∀ (x0 : Int64) (res : Int64) (H : Heap) (locs : List Loc) (ls : Array Slot), f6_next x0 = some res → GW D cy ad (([] : va_W)) A s H locs → lv_has ls 2 [(0, .long x0)] → W p l e rm6_next s m args below meth c H locs 0 0 (MQ below (QL D cy (([] : va_W)) A res) args s 0 0 A) (F0 m 0 ls []) := by
  intro x0 res H locs ls hf hW hl
  unfold f6_next at hf
  refine lv_lload_n hC.1 hC.2.1 dX6_next_0 rfl (lv_at hl 0 rfl) ?_
  refine lv_ldc2 (v := 1103515245) hC.1 hC.2.1 hC.2.2.2.1 (hC.2.2.2.2.1 _ (List.mem_of_getElem? (i := 1) rfl)) dX6_next_1 ?_
  refine lv_lmul hC.1 hC.2.1 dX6_next_4 ?_
  refine lv_ldc2 (v := 12345) hC.1 hC.2.1 hC.2.2.2.1 (hC.2.2.2.2.1 _ (List.mem_of_getElem? (i := 2) rfl)) dX6_next_5 ?_
  refine lv_ladd hC.1 hC.2.1 dX6_next_8 ?_
  refine lv_ldc2 (v := 2147483648) hC.1 hC.2.1 hC.2.2.2.1 (hC.2.2.2.2.1 _ (List.mem_of_getElem? (i := 3) rfl)) dX6_next_9 ?_
  obtain ⟨hz_1, hf⟩ := ck_of hf
  refine lv_lrem hC.1 hC.2.1 dX6_next_12 (nzl_of hz_1) ?_
  obtain rfl := Option.some.inj hf
  exact g_lret hC hW dX6_next_13
set_option maxRecDepth 100000 in
set_option maxHeartbeats 4000000 in
theorem c6_next (l : Launch) (D : va_G) (cy : Nat → ClassId) (ad : Nat → Nat) {x0 : Int64} {res : Int64} (h : f6_next x0 = some res) : GCl l yX6_next wsX6_next rm6_next [.long x0] D cy ad (([] : va_W)) (([] : va_W)) res := fun sz => GC.start (own := RX6) (Qc := fun A => QL D cy (([] : va_W)) A res) sz (by decide) rfl rfl (Nat.le_of_ble_eq_true rfl) (fun p e s m below meth c A ls hC hW hl => t6_next_0 hC _ _ _ _ _ h hW (lv_sub hl [0] rfl))
abbrev rm6_below : Room := { frames := 0, cells := 0, slots := 0, locals := 0 }
theorem hdS6_below : (yX6_below.cls ≠ "java/lang/invoke/MethodHandle" ∧ yX6_below.cls ≠ "java/lang/invoke/VarHandle" ∧ (parseMethodDescriptor yX6_below.desc).map (fun d => d.parameters.length) = some 2) := by decide +kernel
set_option maxRecDepth 100000 in
set_option maxHeartbeats 4000000 in
theorem t6_below_17 (hC : Cx p s m args meth c cX6_below 3 wsX6_below RX6 (some .int)) : ∀ (z0 : Int32) (res : Int32) (H : Heap) (locs : List Loc) (ls : Array Slot), f6_below_17 z0 = some res → GW D cy ad (([] : va_W)) A s H locs → lv_has ls 3 [] → W p l e rm6_below s m args below meth c H locs 0 0 (MQ below (QI D cy (([] : va_W)) A res) args s 0 0 A) (F0 m 17 ls [.int z0]) := by
  intro z0 res H locs ls hf hW hl
  unfold f6_below_17 at hf
  obtain rfl := Option.some.inj hf
  exact g_iret hC hW dX6_below_17
set_option maxRecDepth 100000 in
set_option maxHeartbeats 4000000 in
theorem t6_below_0 (hC : Cx p s m args meth c cX6_below 3 wsX6_below RX6 (some .int)) : ∀ (x0 : Int64) (x2 : Int32) (res : Int32) (H : Heap) (locs : List Loc) (ls : Array Slot), f6_below x0 x2 = some res → GW D cy ad (([] : va_W)) A s H locs → lv_has ls 3 [(0, .long x0), (2, .int x2)] → W p l e rm6_below s m args below meth c H locs 0 0 (MQ below (QI D cy (([] : va_W)) A res) args s 0 0 A) (F0 m 0 ls []) := by
  intro x0 x2 res H locs ls hf hW hl
  unfold f6_below at hf
  refine lv_iload_n hC.1 hC.2.1 dX6_below_0 rfl (lv_at hl 1 rfl) ?_
  refine lv_if_gt (tgt := 8) hC.1 hC.2.1 dX6_below_1 (by decide) (fun hc_1 => ?_) (fun hc_1 => ?_)
  · have hf := ite_t hf hc_1
    refine lv_lload_n hC.1 hC.2.1 dX6_below_8 rfl (lv_at hl 0 rfl) ?_
    refine lv_ldc2 (v := 65536) hC.1 hC.2.1 hC.2.2.2.1 (hC.2.2.2.2.1 _ (List.mem_of_getElem? (i := 1) rfl)) dX6_below_9 ?_
    obtain ⟨hz_2, hf⟩ := ck_of hf
    refine lv_ldiv hC.1 hC.2.1 dX6_below_12 (nzl_of hz_2) ?_
    refine lv_iload_n hC.1 hC.2.1 dX6_below_13 rfl (lv_at hl 1 rfl) ?_
    refine lv_i2l (v := Int32.toInt64 x2) hC.1 hC.2.1 dX6_below_14 rfl ?_
    obtain ⟨hz_3, hf⟩ := ck_of hf
    refine lv_lrem hC.1 hC.2.1 dX6_below_15 (nzl_of hz_3) ?_
    refine lv_l2i (v := Int64.toInt32 ((x0 / 65536) - (x0 / 65536) / (Int32.toInt64 x2) * (Int32.toInt64 x2))) hC.1 hC.2.1 dX6_below_16 rfl ?_
    exact t6_below_17 hC  _ _ _ _ _ hf hW (lv_sub hl [] rfl)
  · have hf := ite_f hf hc_1
    refine lv_iconst (v := 0) hC.1 hC.2.1 dX6_below_4 (by decide) ?_
    refine lv_goto (tgt := 17) hC.1 hC.2.1 dX6_below_5 (by decide) ?_
    exact t6_below_17 hC  _ _ _ _ _ hf hW (lv_sub hl [] rfl)
set_option maxRecDepth 100000 in
set_option maxHeartbeats 4000000 in
theorem c6_below (l : Launch) (D : va_G) (cy : Nat → ClassId) (ad : Nat → Nat) {x0 : Int64} {x2 : Int32} {res : Int32} (h : f6_below x0 x2 = some res) : GCi l yX6_below wsX6_below rm6_below [.long x0, .int x2] D cy ad (([] : va_W)) (([] : va_W)) res := fun sz => GC.start (own := RX6) (Qc := fun A => QI D cy (([] : va_W)) A res) sz (by decide) rfl rfl (Nat.le_of_ble_eq_true rfl) (fun p e s m below meth c A ls hC hW hl => t6_below_0 hC _ _ _ _ _ _ h hW (lv_sub hl [0, 1] rfl))
abbrev rm6_drawnGuest : Room := { frames := 0, cells := 0, slots := 0, locals := 0 }
theorem hdS6_drawnGuest : (yX6_drawnGuest.cls ≠ "java/lang/invoke/MethodHandle" ∧ yX6_drawnGuest.cls ≠ "java/lang/invoke/VarHandle" ∧ (parseMethodDescriptor yX6_drawnGuest.desc).map (fun d => d.parameters.length) = some 2) := by decide +kernel
theorem hin6_drawnGuest_4 : ∀ x ∈ u_ws RX4 TX4 13, x ∈ wsX6_drawnGuest := fun _ h => List.mem_cons_of_mem _ (List.mem_append_right _ h)
set_option maxRecDepth 100000 in
set_option maxHeartbeats 4000000 in
theorem t6_drawnGuest_4 (hC : Cx p s m args meth c cX6_drawnGuest 4 wsX6_drawnGuest RX6 (some .int)) : ∀ n : Nat, ∀ (x2 : Int32) (x3 : Int32) (SI : Ob) (res : Int32) (H : Heap) (locs : List Loc) (ls : Array Slot), f6_drawnGuest_4 n x2 x3 SI = some res → GW D cy ad (w4 cy aI SI) A s H locs → lv_has ls 4 [(0, .ref (aI 0)), (2, .int x2), (3, .int x3)] → W p l e rm6_drawnGuest s m args below meth c H locs 0 0 (MQ below (QI D cy (w4 cy aI SI) A res) args s 0 0 A) (F0 m 4 ls []) := by
  intro n
  induction n with
  | zero =>
    intro _ _ _ _ _ _ _ hf _ _
    exact nomatch (show (none : Option (Int32)) = some _ from hf)
  | succ n ih =>
    intro x2 x3 SI res H locs ls hf hW hl
    rw [f6_drawnGuest_4] at hf
    refine lv_iload_n hC.1 hC.2.1 dX6_drawnGuest_4 rfl (lv_at hl 2 rfl) ?_
    refine lv_aload_n hC.1 hC.2.1 dX6_drawnGuest_5 rfl (lv_at hl 0 rfl) ?_
    refine g_get hC hW hin6_drawnGuest_4 0 rfl rfl 0 (by decide) 1 rfl rfl dX6_drawnGuest_6 ?_
    refine lv_icmp_ge (tgt := 39) hC.1 hC.2.1 dX6_drawnGuest_9 (by decide) (fun hc_1 => ?_) (fun hc_1 => ?_)
    · have hf := ite_t hf hc_1
      refine lv_iconst (v := 0) hC.1 hC.2.1 dX6_drawnGuest_39 (by decide) ?_
      obtain rfl := Option.some.inj hf
      exact g_iret hC hW dX6_drawnGuest_40
    · have hf := ite_f hf hc_1
      refine lv_iload_n hC.1 hC.2.1 dX6_drawnGuest_12 rfl (lv_at hl 1 rfl) ?_
      refine lv_aload_n hC.1 hC.2.1 dX6_drawnGuest_13 rfl (lv_at hl 0 rfl) ?_
      refine g_get hC hW hin6_drawnGuest_4 0 rfl rfl 4 (by decide) 2 rfl rfl dX6_drawnGuest_14 ?_
      refine lv_iload_n hC.1 hC.2.1 dX6_drawnGuest_17 rfl (lv_at hl 2 rfl) ?_
      obtain ⟨hi_2, hf⟩ := ck_of hf
      refine g_iald hC hW 4 rfl hi_2 dX6_drawnGuest_18 ?_
      refine lv_icmp_ge (tgt := 24) hC.1 hC.2.1 dX6_drawnGuest_19 (by decide) (fun hc_3 => ?_) (fun hc_3 => ?_)
      · have hf := ite_t hf hc_3
        refine lv_iload_n hC.1 hC.2.1 dX6_drawnGuest_24 rfl (lv_at hl 1 rfl) ?_
        refine lv_aload_n hC.1 hC.2.1 dX6_drawnGuest_25 rfl (lv_at hl 0 rfl) ?_
        refine g_get hC hW hin6_drawnGuest_4 0 rfl rfl 4 (by decide) 2 rfl rfl dX6_drawnGuest_26 ?_
        refine lv_iload_n hC.1 hC.2.1 dX6_drawnGuest_29 rfl (lv_at hl 2 rfl) ?_
        obtain ⟨hi_4, hf⟩ := ck_of hf
        refine g_iald hC hW 4 rfl hi_4 dX6_drawnGuest_30 ?_
        refine lv_isub hC.1 hC.2.1 dX6_drawnGuest_31 ?_
        refine lv_topi (fun x2_5 ex2_5 => ?_)
        have hf := lt_nm hf ex2_5
        refine lv_istore_n (lv' := [(2, .int x2_5), (0, .ref (aI 0)), (3, .int x3)]) hC.1 hC.2.1 dX6_drawnGuest_32 rfl hl (by decide) rfl (fun ls hl => ?_)
        obtain ⟨x3_6, ex3_6⟩ : ∃ y : Int32, y = x3 + 1 := ⟨_, rfl⟩
        have hf := lt_nm hf ex3_6
        refine lv_iinc (v := x3_6) (lv' := [(3, .int x3_6), (2, .int x2_5), (0, .ref (aI 0))]) hC.1 hC.2.1 dX6_drawnGuest_33 hl (k := 2) rfl (by rw [ex3_6]; rfl) (by decide) rfl (fun ls hl => ?_)
        refine lv_goto (tgt := 4) hC.1 hC.2.1 dX6_drawnGuest_36 (by decide) ?_
        exact ih _ _ _ _ _ _ _ hf hW (lv_sub hl [2, 1, 0] rfl)
      · have hf := ite_f hf hc_3
        refine lv_iload_n hC.1 hC.2.1 dX6_drawnGuest_22 rfl (lv_at hl 2 rfl) ?_
        obtain rfl := Option.some.inj hf
        exact g_iret hC hW dX6_drawnGuest_23
set_option maxRecDepth 100000 in
set_option maxHeartbeats 4000000 in
theorem t6_drawnGuest_0 (hC : Cx p s m args meth c cX6_drawnGuest 4 wsX6_drawnGuest RX6 (some .int)) : ∀ (x1 : Int32) (SI : Ob) (res : Int32) (H : Heap) (locs : List Loc) (ls : Array Slot), f6_drawnGuest x1 SI = some res → GW D cy ad (w4 cy aI SI) A s H locs → lv_has ls 4 [(0, .ref (aI 0)), (1, .int x1)] → W p l e rm6_drawnGuest s m args below meth c H locs 0 0 (MQ below (QI D cy (w4 cy aI SI) A res) args s 0 0 A) (F0 m 0 ls []) := by
  intro x1 SI res H locs ls hf hW hl
  unfold f6_drawnGuest at hf
  refine lv_iload_n hC.1 hC.2.1 dX6_drawnGuest_0 rfl (lv_at hl 1 rfl) ?_
  refine lv_istore_n (lv' := [(2, .int x1), (0, .ref (aI 0)), (1, .int x1)]) hC.1 hC.2.1 dX6_drawnGuest_1 rfl hl (by decide) rfl (fun ls hl => ?_)
  refine lv_iconst (v := 0) hC.1 hC.2.1 dX6_drawnGuest_2 (by decide) ?_
  refine lv_istore_n (lv' := [(3, .int 0), (2, .int x1), (0, .ref (aI 0)), (1, .int x1)]) hC.1 hC.2.1 dX6_drawnGuest_3 rfl hl (by decide) rfl (fun ls hl => ?_)
  exact t6_drawnGuest_4 hC _ _ _ _ _ _ _ _ hf hW (lv_sub hl [2, 1, 0] rfl)
set_option maxRecDepth 100000 in
set_option maxHeartbeats 4000000 in
theorem c6_drawnGuest (l : Launch) (D : va_G) (cy : Nat → ClassId) (ad : Nat → Nat) (aI : Nat → Nat) {x1 : Int32} {SI : Ob} {res : Int32} (h : f6_drawnGuest x1 SI = some res) : GCi l yX6_drawnGuest wsX6_drawnGuest rm6_drawnGuest [.ref (aI 0), .int x1] D cy ad (w4 cy aI SI) (w4 cy aI SI) res := fun sz => GC.start (own := RX6) (Qc := fun A => QI D cy (w4 cy aI SI) A res) sz (by decide) rfl rfl (Nat.le_of_ble_eq_true rfl) (fun p e s m below meth c A ls hC hW hl => t6_drawnGuest_0 hC _ _ _ _ _ _ h hW (lv_sub hl [0, 1] rfl))
abbrev rm6_ofNight : Room := { frames := 2, cells := 0, slots := 0, locals := 56 }
theorem hdS6_ofNight : (yX6_ofNight.cls ≠ "java/lang/invoke/MethodHandle" ∧ yX6_ofNight.cls ≠ "java/lang/invoke/VarHandle" ∧ (parseMethodDescriptor yX6_ofNight.desc).map (fun d => d.parameters.length) = some 4) := by decide +kernel
theorem hin6_ofNight_4 : ∀ x ∈ u_ws RX4 TX4 13, x ∈ wsX6_ofNight := fun _ h => List.mem_cons_of_mem _ (List.mem_append_right _ h)
set_option maxRecDepth 100000 in
set_option maxHeartbeats 4000000 in
theorem t6_ofNight_74 (hC : Cx p s m args meth c cX6_ofNight 6 wsX6_ofNight RX6 (some .int)) : ∀ (z0 : Int32) (SI : Ob) (res : Int32) (H : Heap) (locs : List Loc) (ls : Array Slot), f6_ofNight_74 z0 SI = some res → GW D cy ad (w4 cy aI SI) A s H locs → lv_has ls 6 [] → W p l e rm6_ofNight s m args below meth c H locs 0 0 (MQ below (QI D cy (w4 cy aI SI) A res) args s 0 0 A) (F0 m 74 ls [.int z0]) := by
  intro z0 SI res H locs ls hf hW hl
  unfold f6_ofNight_74 at hf
  obtain rfl := Option.some.inj hf
  exact g_iret hC hW dX6_ofNight_74
set_option maxRecDepth 100000 in
set_option maxHeartbeats 4000000 in
theorem t6_ofNight_44 (hC : Cx p s m args meth c cX6_ofNight 6 wsX6_ofNight RX6 (some .int)) : ∀ (x4 : Int32) (z0 : Int32) (SI : Ob) (res : Int32) (H : Heap) (locs : List Loc) (ls : Array Slot), f6_ofNight_44 x4 z0 SI = some res → GW D cy ad (w4 cy aI SI) A s H locs → lv_has ls 6 [(0, .ref (aI 0)), (4, .int x4)] → W p l e rm6_ofNight s m args below meth c H locs 0 0 (MQ below (QI D cy (w4 cy aI SI) A res) args s 0 0 A) (F0 m 44 ls [.int z0]) := by
  intro x4 z0 SI res H locs ls hf hW hl
  unfold f6_ofNight_44 at hf
  refine lv_istore (lv' := [(5, .int z0), (0, .ref (aI 0)), (4, .int x4)]) hC.1 hC.2.1 dX6_ofNight_44 hl (by decide) rfl (fun ls hl => ?_)
  refine lv_aload_n hC.1 hC.2.1 dX6_ofNight_46 rfl (lv_at hl 1 rfl) ?_
  refine lv_iload hC.1 hC.2.1 dX6_ofNight_47 (lv_at hl 0 rfl) ?_
  refine lv_aload_n hC.1 hC.2.1 dX6_ofNight_49 rfl (lv_at hl 1 rfl) ?_
  obtain ⟨r_1, hg_2, hf⟩ := bd_of hf
  refine g_calliV (w' := w4 cy aI SI) hC hW (c4_all l D cy ad aI hg_2) (cwV 0 hC.2.2.2.2.1 gX6_ofNight_X4_all rfl rfl rfl hdV4_all ⟨Nat.le_of_ble_eq_true rfl, Nat.le_of_ble_eq_true rfl⟩) (Sub.all _ _) 0 4 rfl rfl rfl rfl hl.1 rfl (Nat.le_of_ble_eq_true rfl) dX6_ofNight_50 ⟨Nat.zero_le _, Nat.zero_le _⟩ (fun H locs hW => ?_)
  obtain ⟨r_3, hg_4, hf⟩ := bd_of hf
  refine g_calllS (w' := w4 cy aI SI) hC hW (c6_doubtful l D cy ad aI hg_4) (va_cwS 3 hC.2.2.2.2.1 gX6_ofNight_X6_doubtful rfl rfl rfl hdS6_doubtful ⟨Nat.le_of_ble_eq_true rfl, Nat.le_of_ble_eq_true rfl⟩) (Sub.all _ _) rfl hl.1 rfl (Nat.le_of_ble_eq_true rfl) dX6_ofNight_53 ⟨Nat.zero_le _, Nat.zero_le _⟩ (fun H locs hW => ?_)
  refine lv_iload hC.1 hC.2.1 dX6_ofNight_56 (lv_at hl 2 rfl) ?_
  refine lv_iload hC.1 hC.2.1 dX6_ofNight_58 (lv_at hl 0 rfl) ?_
  refine lv_iand hC.1 hC.2.1 dX6_ofNight_60 ?_
  refine lv_lushr (v := lush r_3 (x4 &&& z0)) hC.1 hC.2.1 dX6_ofNight_61 rfl ?_
  refine lv_lconst (v := 1) hC.1 hC.2.1 dX6_ofNight_62 (by decide) ?_
  refine lv_land hC.1 hC.2.1 dX6_ofNight_63 ?_
  refine lv_lconst (v := 0) hC.1 hC.2.1 dX6_ofNight_64 (by decide) ?_
  refine W.lcmp hC.1 hC.2.1 dX6_ofNight_65 ?_
  refine lv_if_ne (tgt := 73) hC.1 hC.2.1 dX6_ofNight_66 (by decide) (fun hc_5 => ?_) (fun hc_5 => ?_)
  · have hf := ite_f hf hc_5
    refine lv_iconst (v := 0) hC.1 hC.2.1 dX6_ofNight_73 (by decide) ?_
    exact t6_ofNight_74 hC  _ _ _ _ _ _ hf hW (lv_sub hl [] rfl)
  · have hf := ite_t hf hc_5
    refine lv_iconst (v := 1) hC.1 hC.2.1 dX6_ofNight_69 (by decide) ?_
    refine lv_goto (tgt := 74) hC.1 hC.2.1 dX6_ofNight_70 (by decide) ?_
    exact t6_ofNight_74 hC  _ _ _ _ _ _ hf hW (lv_sub hl [] rfl)
set_option maxRecDepth 100000 in
set_option maxHeartbeats 4000000 in
theorem t6_ofNight_0 (hC : Cx p s m args meth c cX6_ofNight 6 wsX6_ofNight RX6 (some .int)) : ∀ (x1 : Int32) (x2 : Int32) (x3 : Int32) (SI : Ob) (res : Int32) (H : Heap) (locs : List Loc) (ls : Array Slot), f6_ofNight x1 x2 x3 SI = some res → GW D cy ad (w4 cy aI SI) A s H locs → lv_has ls 6 [(0, .ref (aI 0)), (1, .int x1), (2, .int x2), (3, .int x3)] → W p l e rm6_ofNight s m args below meth c H locs 0 0 (MQ below (QI D cy (w4 cy aI SI) A res) args s 0 0 A) (F0 m 0 ls []) := by
  intro x1 x2 x3 SI res H locs ls hf hW hl
  unfold f6_ofNight at hf
  refine lv_aload_n hC.1 hC.2.1 dX6_ofNight_0 rfl (lv_at hl 0 rfl) ?_
  refine g_get hC hW hin6_ofNight_4 0 rfl rfl 12 (by decide) 1 rfl rfl dX6_ofNight_1 ?_
  refine lv_iload_n hC.1 hC.2.1 dX6_ofNight_4 rfl (lv_at hl 1 rfl) ?_
  refine lv_iconst (v := 4) hC.1 hC.2.1 dX6_ofNight_5 (by decide) ?_
  refine lv_imul hC.1 hC.2.1 dX6_ofNight_6 ?_
  refine lv_iload_n hC.1 hC.2.1 dX6_ofNight_7 rfl (lv_at hl 2 rfl) ?_
  refine lv_iadd hC.1 hC.2.1 dX6_ofNight_8 ?_
  obtain ⟨hi_1, hf⟩ := ck_of hf
  refine g_iald hC hW 11 rfl hi_1 dX6_ofNight_9 ?_
  refine lv_topi (fun x4_2 ex4_2 => ?_)
  have hf := lt_nm hf ex4_2
  refine lv_istore (lv' := [(4, .int x4_2), (0, .ref (aI 0)), (1, .int x1), (2, .int x2), (3, .int x3)]) hC.1 hC.2.1 dX6_ofNight_10 hl (by decide) rfl (fun ls hl => ?_)
  refine lv_iload_n hC.1 hC.2.1 dX6_ofNight_12 rfl (lv_at hl 4 rfl) ?_
  refine lv_iconst (v := 2) hC.1 hC.2.1 dX6_ofNight_13 (by decide) ?_
  refine lv_icmp_ne (tgt := 23) hC.1 hC.2.1 dX6_ofNight_14 (by decide) (fun hc_3 => ?_) (fun hc_3 => ?_)
  · have hf := ite_f hf hc_3
    refine lv_iload_n hC.1 hC.2.1 dX6_ofNight_23 rfl (lv_at hl 4 rfl) ?_
    refine lv_if_ne (tgt := 38) hC.1 hC.2.1 dX6_ofNight_24 (by decide) (fun hc_4 => ?_) (fun hc_4 => ?_)
    · have hf := ite_f hf hc_4
      refine lv_aload_n hC.1 hC.2.1 dX6_ofNight_38 rfl (lv_at hl 1 rfl) ?_
      refine g_get hC hW hin6_ofNight_4 0 rfl rfl 5 (by decide) 3 rfl rfl dX6_ofNight_39 ?_
      refine lv_iload_n hC.1 hC.2.1 dX6_ofNight_42 rfl (lv_at hl 2 rfl) ?_
      obtain ⟨hi_5, hf⟩ := ck_of hf
      refine g_iald hC hW 5 rfl hi_5 dX6_ofNight_43 ?_
      exact t6_ofNight_44 hC  _ _ _ _ _ _ _ hf hW (lv_sub hl [1, 0] rfl)
    · have hf := ite_t hf hc_4
      refine lv_iconst (v := 1) hC.1 hC.2.1 dX6_ofNight_27 (by decide) ?_
      refine lv_aload_n hC.1 hC.2.1 dX6_ofNight_28 rfl (lv_at hl 1 rfl) ?_
      refine g_get hC hW hin6_ofNight_4 0 rfl rfl 8 (by decide) 2 rfl rfl dX6_ofNight_29 ?_
      refine lv_ishl hC.1 hC.2.1 dX6_ofNight_32 ?_
      refine lv_iconst (v := 1) hC.1 hC.2.1 dX6_ofNight_33 (by decide) ?_
      refine lv_isub hC.1 hC.2.1 dX6_ofNight_34 ?_
      refine lv_goto (tgt := 44) hC.1 hC.2.1 dX6_ofNight_35 (by decide) ?_
      exact t6_ofNight_44 hC  _ _ _ _ _ _ _ hf hW (lv_sub hl [1, 0] rfl)
  · have hf := ite_t hf hc_3
    refine lv_iload hC.1 hC.2.1 dX6_ofNight_17 (lv_at hl 0 rfl) ?_
    obtain ⟨r_6, hg_7, hf⟩ := bd_of hf
    refine g_calliS (w' := w4 cy aI SI) hC hW (cj6_bitCount l D cy ad  hg_7) (va_cwS 1 hC.2.2.2.2.1 gX6_ofNight_J6_bitCount_0f7a4 rfl rfl rfl hdSj6_bitCount ⟨Nat.le_of_ble_eq_true rfl, Nat.le_of_ble_eq_true rfl⟩) (Sub.nil _) rfl hl.1 rfl (Nat.le_of_ble_eq_true rfl) dX6_ofNight_19 ⟨Nat.zero_le _, Nat.zero_le _⟩ (fun H locs hW => ?_)
    obtain rfl := Option.some.inj hf
    exact g_iret hC hW dX6_ofNight_22
set_option maxRecDepth 100000 in
set_option maxHeartbeats 4000000 in
theorem c6_ofNight (l : Launch) (D : va_G) (cy : Nat → ClassId) (ad : Nat → Nat) (aI : Nat → Nat) {x1 : Int32} {x2 : Int32} {x3 : Int32} {SI : Ob} {res : Int32} (h : f6_ofNight x1 x2 x3 SI = some res) : GCi l yX6_ofNight wsX6_ofNight rm6_ofNight [.ref (aI 0), .int x1, .int x2, .int x3] D cy ad (w4 cy aI SI) (w4 cy aI SI) res := fun sz => GC.start (own := RX6) (Qc := fun A => QI D cy (w4 cy aI SI) A res) sz (by decide) rfl rfl (Nat.le_of_ble_eq_true rfl) (fun p e s m below meth c A ls hC hW hl => t6_ofNight_0 hC _ _ _ _ _ _ _ _ h hW (lv_sub hl [0, 1, 2, 3] rfl))
abbrev rm6_drawnYears : Room := { frames := 3, cells := 0, slots := 0, locals := 81 }
theorem hdS6_drawnYears : (yX6_drawnYears.cls ≠ "java/lang/invoke/MethodHandle" ∧ yX6_drawnYears.cls ≠ "java/lang/invoke/VarHandle" ∧ (parseMethodDescriptor yX6_drawnYears.desc).map (fun d => d.parameters.length) = some 4) := by decide +kernel
theorem hin6_drawnYears_4 : ∀ x ∈ u_ws RX4 TX4 13, x ∈ wsX6_drawnYears := fun _ h => List.mem_cons_of_mem _ (List.mem_append_right _ h)
set_option maxRecDepth 100000 in
set_option maxHeartbeats 4000000 in
theorem t6_drawnYears_43 (hC : Cx p s m args meth c cX6_drawnYears 10 wsX6_drawnYears RX6 (some .int)) : ∀ n : Nat, ∀ (x2 : Int32) (x3 : Int32) (x4 : Int32) (x5 : Int64) (x7 : Int32) (x8 : Int32) (SI : Ob) (res : Int32) (H : Heap) (locs : List Loc) (ls : Array Slot), f6_drawnYears_43 n x2 x3 x4 x5 x7 x8 SI = some res → GW D cy ad (w4 cy aI SI) A s H locs → lv_has ls 10 [(0, .ref (aI 0)), (2, .int x2), (3, .int x3), (4, .int x4), (5, .long x5), (7, .int x7), (8, .int x8)] → W p l e rm6_drawnYears s m args below meth c H locs 0 0 (MQ below (QI D cy (w4 cy aI SI) A res) args s 0 0 A) (F0 m 43 ls []) := by
  intro n
  induction n with
  | zero =>
    intro _ _ _ _ _ _ _ _ _ _ _ hf _ _
    exact nomatch (show (none : Option (Int32)) = some _ from hf)
  | succ n ih =>
    intro x2 x3 x4 x5 x7 x8 SI res H locs ls hf hW hl
    rw [f6_drawnYears_43] at hf
    refine lv_iload hC.1 hC.2.1 dX6_drawnYears_43 (lv_at hl 6 rfl) ?_
    refine lv_iload_n hC.1 hC.2.1 dX6_drawnYears_45 rfl (lv_at hl 1 rfl) ?_
    refine lv_icmp_ge (tgt := 100) hC.1 hC.2.1 dX6_drawnYears_46 (by decide) (fun hc_1 => ?_) (fun hc_1 => ?_)
    · have hf := ite_t hf hc_1
      refine lv_iload hC.1 hC.2.1 dX6_drawnYears_100 (lv_at hl 5 rfl) ?_
      obtain rfl := Option.some.inj hf
      exact g_iret hC hW dX6_drawnYears_102
    · have hf := ite_f hf hc_1
      refine lv_lload hC.1 hC.2.1 dX6_drawnYears_49 (lv_at hl 4 rfl) ?_
      obtain ⟨r_2, hg_3, hf⟩ := bd_of hf
      refine g_calllS (w' := w4 cy aI SI) hC hW (c6_next l D cy ad  hg_3) (va_cwS 1 hC.2.2.2.2.1 gX6_drawnYears_X6_next rfl rfl rfl hdS6_next ⟨Nat.le_of_ble_eq_true rfl, Nat.le_of_ble_eq_true rfl⟩) (Sub.nil _) rfl hl.1 rfl (Nat.le_of_ble_eq_true rfl) dX6_drawnYears_51 ⟨Nat.zero_le _, Nat.zero_le _⟩ (fun H locs hW => ?_)
      refine lv_lstore (lv' := [(5, .long r_2), (0, .ref (aI 0)), (2, .int x2), (3, .int x3), (4, .int x4), (7, .int x7), (8, .int x8)]) hC.1 hC.2.1 dX6_drawnYears_54 hl (by decide) rfl (fun ls hl => ?_)
      refine lv_aload_n hC.1 hC.2.1 dX6_drawnYears_56 rfl (lv_at hl 1 rfl) ?_
      refine lv_lload hC.1 hC.2.1 dX6_drawnYears_57 (lv_at hl 0 rfl) ?_
      refine lv_iload hC.1 hC.2.1 dX6_drawnYears_59 (lv_at hl 4 rfl) ?_
      obtain ⟨r_4, hg_5, hf⟩ := bd_of hf
      refine g_calliS (w' := w4 cy aI SI) hC hW (c6_below l D cy ad  hg_5) (va_cwS 2 hC.2.2.2.2.1 gX6_drawnYears_X6_below rfl rfl rfl hdS6_below ⟨Nat.le_of_ble_eq_true rfl, Nat.le_of_ble_eq_true rfl⟩) (Sub.nil _) rfl hl.1 rfl (Nat.le_of_ble_eq_true rfl) dX6_drawnYears_61 ⟨Nat.zero_le _, Nat.zero_le _⟩ (fun H locs hW => ?_)
      obtain ⟨r_6, hg_7, hf⟩ := bd_of hf
      refine g_calliS (w' := w4 cy aI SI) hC hW (c6_drawnGuest l D cy ad aI hg_7) (va_cwS 2 hC.2.2.2.2.1 gX6_drawnYears_X6_drawnGuest rfl rfl rfl hdS6_drawnGuest ⟨Nat.le_of_ble_eq_true rfl, Nat.le_of_ble_eq_true rfl⟩) (Sub.all _ _) rfl hl.1 rfl (Nat.le_of_ble_eq_true rfl) dX6_drawnYears_64 ⟨Nat.zero_le _, Nat.zero_le _⟩ (fun H locs hW => ?_)
      refine lv_istore (lv' := [(9, .int r_6), (5, .long r_2), (0, .ref (aI 0)), (2, .int x2), (3, .int x3), (4, .int x4), (7, .int x7), (8, .int x8)]) hC.1 hC.2.1 dX6_drawnYears_67 hl (by decide) rfl (fun ls hl => ?_)
      refine lv_lload hC.1 hC.2.1 dX6_drawnYears_69 (lv_at hl 1 rfl) ?_
      obtain ⟨r_8, hg_9, hf⟩ := bd_of hf
      refine g_calllS (w' := w4 cy aI SI) hC hW (c6_next l D cy ad  hg_9) (va_cwS 1 hC.2.2.2.2.1 gX6_drawnYears_X6_next rfl rfl rfl hdS6_next ⟨Nat.le_of_ble_eq_true rfl, Nat.le_of_ble_eq_true rfl⟩) (Sub.nil _) rfl hl.1 rfl (Nat.le_of_ble_eq_true rfl) dX6_drawnYears_71 ⟨Nat.zero_le _, Nat.zero_le _⟩ (fun H locs hW => ?_)
      refine lv_lstore (lv' := [(5, .long r_8), (9, .int r_6), (0, .ref (aI 0)), (2, .int x2), (3, .int x3), (4, .int x4), (7, .int x7), (8, .int x8)]) hC.1 hC.2.1 dX6_drawnYears_74 hl (by decide) rfl (fun ls hl => ?_)
      refine lv_iload hC.1 hC.2.1 dX6_drawnYears_76 (lv_at hl 6 rfl) ?_
      refine lv_aload_n hC.1 hC.2.1 dX6_drawnYears_78 rfl (lv_at hl 2 rfl) ?_
      refine lv_iload hC.1 hC.2.1 dX6_drawnYears_79 (lv_at hl 1 rfl) ?_
      refine lv_lload hC.1 hC.2.1 dX6_drawnYears_81 (lv_at hl 0 rfl) ?_
      refine lv_iconst (v := 4) hC.1 hC.2.1 dX6_drawnYears_83 (by decide) ?_
      obtain ⟨r_10, hg_11, hf⟩ := bd_of hf
      refine g_calliS (w' := w4 cy aI SI) hC hW (c6_below l D cy ad  hg_11) (va_cwS 2 hC.2.2.2.2.1 gX6_drawnYears_X6_below rfl rfl rfl hdS6_below ⟨Nat.le_of_ble_eq_true rfl, Nat.le_of_ble_eq_true rfl⟩) (Sub.nil _) rfl hl.1 rfl (Nat.le_of_ble_eq_true rfl) dX6_drawnYears_84 ⟨Nat.zero_le _, Nat.zero_le _⟩ (fun H locs hW => ?_)
      refine lv_iload_n hC.1 hC.2.1 dX6_drawnYears_87 rfl (lv_at hl 4 rfl) ?_
      obtain ⟨r_12, hg_13, hf⟩ := bd_of hf
      refine g_calliS (w' := w4 cy aI SI) hC hW (c6_ofNight l D cy ad aI hg_13) (va_cwS 4 hC.2.2.2.2.1 gX6_drawnYears_X6_ofNight rfl rfl rfl hdS6_ofNight ⟨Nat.le_of_ble_eq_true rfl, Nat.le_of_ble_eq_true rfl⟩) (Sub.all _ _) rfl hl.1 rfl (Nat.le_of_ble_eq_true rfl) dX6_drawnYears_88 ⟨Nat.zero_le _, Nat.zero_le _⟩ (fun H locs hW => ?_)
      refine lv_iadd hC.1 hC.2.1 dX6_drawnYears_91 ?_
      refine lv_topi (fun x7_14 ex7_14 => ?_)
      have hf := lt_nm hf ex7_14
      refine lv_istore (lv' := [(7, .int x7_14), (5, .long r_8), (9, .int r_6), (0, .ref (aI 0)), (2, .int x2), (3, .int x3), (4, .int x4), (8, .int x8)]) hC.1 hC.2.1 dX6_drawnYears_92 hl (by decide) rfl (fun ls hl => ?_)
      obtain ⟨x8_15, ex8_15⟩ : ∃ y : Int32, y = x8 + 1 := ⟨_, rfl⟩
      have hf := lt_nm hf ex8_15
      refine lv_iinc (v := x8_15) (lv' := [(8, .int x8_15), (7, .int x7_14), (5, .long r_8), (9, .int r_6), (0, .ref (aI 0)), (2, .int x2), (3, .int x3), (4, .int x4)]) hC.1 hC.2.1 dX6_drawnYears_94 hl (k := 7) rfl (by rw [ex8_15]; rfl) (by decide) rfl (fun ls hl => ?_)
      refine lv_goto (tgt := 43) hC.1 hC.2.1 dX6_drawnYears_97 (by decide) ?_
      exact ih _ _ _ _ _ _ _ _ _ _ _ hf hW (lv_sub hl [4, 5, 6, 7, 2, 1, 0] rfl)
set_option maxRecDepth 100000 in
set_option maxHeartbeats 4000000 in
theorem t6_drawnYears_6 (hC : Cx p s m args meth c cX6_drawnYears 10 wsX6_drawnYears RX6 (some .int)) : ∀ n : Nat, ∀ (x1 : Int32) (x2 : Int32) (x3 : Int32) (x4 : Int32) (x5 : Int32) (SI : Ob) (res : Int32) (H : Heap) (locs : List Loc) (ls : Array Slot), f6_drawnYears_6 n x1 x2 x3 x4 x5 SI = some res → GW D cy ad (w4 cy aI SI) A s H locs → lv_has ls 10 [(0, .ref (aI 0)), (1, .int x1), (2, .int x2), (3, .int x3), (4, .int x4), (5, .int x5)] → W p l e rm6_drawnYears s m args below meth c H locs 0 0 (MQ below (QI D cy (w4 cy aI SI) A res) args s 0 0 A) (F0 m 6 ls []) := by
  intro n
  induction n with
  | zero =>
    intro _ _ _ _ _ _ _ _ _ _ hf _ _
    exact nomatch (show (none : Option (Int32)) = some _ from hf)
  | succ n ih =>
    intro x1 x2 x3 x4 x5 SI res H locs ls hf hW hl
    rw [f6_drawnYears_6] at hf
    refine lv_iload hC.1 hC.2.1 dX6_drawnYears_6 (lv_at hl 5 rfl) ?_
    refine lv_aload_n hC.1 hC.2.1 dX6_drawnYears_8 rfl (lv_at hl 0 rfl) ?_
    refine g_get hC hW hin6_drawnYears_4 0 rfl rfl 0 (by decide) 1 rfl rfl dX6_drawnYears_9 ?_
    refine lv_icmp_ge (tgt := 33) hC.1 hC.2.1 dX6_drawnYears_12 (by decide) (fun hc_1 => ?_) (fun hc_1 => ?_)
    · have hf := ite_t hf hc_1
      refine lv_iload_n hC.1 hC.2.1 dX6_drawnYears_33 rfl (lv_at hl 1 rfl) ?_
      refine lv_i2l (v := Int32.toInt64 x1) hC.1 hC.2.1 dX6_drawnYears_34 rfl ?_
      refine lv_topl (fun x5_2 ex5_2 => ?_)
      have hf := lt_nm hf ex5_2
      refine lv_lstore (lv' := [(5, .long x5_2), (0, .ref (aI 0)), (1, .int x1), (2, .int x2), (3, .int x3), (4, .int x4)]) hC.1 hC.2.1 dX6_drawnYears_35 hl (by decide) rfl (fun ls hl => ?_)
      refine lv_iconst (v := 0) hC.1 hC.2.1 dX6_drawnYears_37 (by decide) ?_
      refine lv_istore (lv' := [(7, .int 0), (5, .long x5_2), (0, .ref (aI 0)), (1, .int x1), (2, .int x2), (3, .int x3), (4, .int x4)]) hC.1 hC.2.1 dX6_drawnYears_38 hl (by decide) rfl (fun ls hl => ?_)
      refine lv_iconst (v := 0) hC.1 hC.2.1 dX6_drawnYears_40 (by decide) ?_
      refine lv_istore (lv' := [(8, .int 0), (7, .int 0), (5, .long x5_2), (0, .ref (aI 0)), (1, .int x1), (2, .int x2), (3, .int x3), (4, .int x4)]) hC.1 hC.2.1 dX6_drawnYears_41 hl (by decide) rfl (fun ls hl => ?_)
      exact t6_drawnYears_43 hC _ _ _ _ _ _ _ _ _ _ _ _ hf hW (lv_sub hl [3, 5, 6, 7, 2, 1, 0] rfl)
    · have hf := ite_f hf hc_1
      refine lv_iload hC.1 hC.2.1 dX6_drawnYears_15 (lv_at hl 4 rfl) ?_
      refine lv_aload_n hC.1 hC.2.1 dX6_drawnYears_17 rfl (lv_at hl 0 rfl) ?_
      refine g_get hC hW hin6_drawnYears_4 0 rfl rfl 4 (by decide) 2 rfl rfl dX6_drawnYears_18 ?_
      refine lv_iload hC.1 hC.2.1 dX6_drawnYears_21 (lv_at hl 5 rfl) ?_
      obtain ⟨hi_3, hf⟩ := ck_of hf
      refine g_iald hC hW 4 rfl hi_3 dX6_drawnYears_23 ?_
      refine lv_iadd hC.1 hC.2.1 dX6_drawnYears_24 ?_
      refine lv_topi (fun x4_4 ex4_4 => ?_)
      have hf := lt_nm hf ex4_4
      refine lv_istore (lv' := [(4, .int x4_4), (0, .ref (aI 0)), (1, .int x1), (2, .int x2), (3, .int x3), (5, .int x5)]) hC.1 hC.2.1 dX6_drawnYears_25 hl (by decide) rfl (fun ls hl => ?_)
      obtain ⟨x5_5, ex5_5⟩ : ∃ y : Int32, y = x5 + 1 := ⟨_, rfl⟩
      have hf := lt_nm hf ex5_5
      refine lv_iinc (v := x5_5) (lv' := [(5, .int x5_5), (4, .int x4_4), (0, .ref (aI 0)), (1, .int x1), (2, .int x2), (3, .int x3)]) hC.1 hC.2.1 dX6_drawnYears_27 hl (k := 5) rfl (by rw [ex5_5]; rfl) (by decide) rfl (fun ls hl => ?_)
      refine lv_goto (tgt := 6) hC.1 hC.2.1 dX6_drawnYears_30 (by decide) ?_
      exact ih _ _ _ _ _ _ _ _ _ _ hf hW (lv_sub hl [2, 3, 4, 5, 1, 0] rfl)
set_option maxRecDepth 100000 in
set_option maxHeartbeats 4000000 in
theorem t6_drawnYears_0 (hC : Cx p s m args meth c cX6_drawnYears 10 wsX6_drawnYears RX6 (some .int)) : ∀ (x1 : Int32) (x2 : Int32) (x3 : Int32) (SI : Ob) (res : Int32) (H : Heap) (locs : List Loc) (ls : Array Slot), f6_drawnYears x1 x2 x3 SI = some res → GW D cy ad (w4 cy aI SI) A s H locs → lv_has ls 10 [(0, .ref (aI 0)), (1, .int x1), (2, .int x2), (3, .int x3)] → W p l e rm6_drawnYears s m args below meth c H locs 0 0 (MQ below (QI D cy (w4 cy aI SI) A res) args s 0 0 A) (F0 m 0 ls []) := by
  intro x1 x2 x3 SI res H locs ls hf hW hl
  unfold f6_drawnYears at hf
  refine lv_iconst (v := 0) hC.1 hC.2.1 dX6_drawnYears_0 (by decide) ?_
  refine lv_istore (lv' := [(4, .int 0), (0, .ref (aI 0)), (1, .int x1), (2, .int x2), (3, .int x3)]) hC.1 hC.2.1 dX6_drawnYears_1 hl (by decide) rfl (fun ls hl => ?_)
  refine lv_iconst (v := 0) hC.1 hC.2.1 dX6_drawnYears_3 (by decide) ?_
  refine lv_istore (lv' := [(5, .int 0), (4, .int 0), (0, .ref (aI 0)), (1, .int x1), (2, .int x2), (3, .int x3)]) hC.1 hC.2.1 dX6_drawnYears_4 hl (by decide) rfl (fun ls hl => ?_)
  exact t6_drawnYears_6 hC _ _ _ _ _ _ _ _ _ _ _ hf hW (lv_sub hl [2, 3, 4, 5, 1, 0] rfl)
set_option maxRecDepth 100000 in
set_option maxHeartbeats 4000000 in
theorem c6_drawnYears (l : Launch) (D : va_G) (cy : Nat → ClassId) (ad : Nat → Nat) (aI : Nat → Nat) {x1 : Int32} {x2 : Int32} {x3 : Int32} {SI : Ob} {res : Int32} (h : f6_drawnYears x1 x2 x3 SI = some res) : GCi l yX6_drawnYears wsX6_drawnYears rm6_drawnYears [.ref (aI 0), .int x1, .int x2, .int x3] D cy ad (w4 cy aI SI) (w4 cy aI SI) res := fun sz => GC.start (own := RX6) (Qc := fun A => QI D cy (w4 cy aI SI) A res) sz (by decide) rfl rfl (Nat.le_of_ble_eq_true rfl) (fun p e s m below meth c A ls hC hW hl => t6_drawnYears_0 hC _ _ _ _ _ _ _ _ h hW (lv_sub hl [0, 1, 2, 3] rfl))
end
