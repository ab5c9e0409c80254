/-! laid by program: functions, walks and contracts of 12_beds, 12_isWatched, 12_watch, 12_draw, 12_drawsOne, 12_likeIn, 12_years, 12_mark, 12_count -/
set_option maxRecDepth 20000 in
theorem gX12_beds_X12_isGuest : GoodIn wsX12_beds (wsV RX12 365 RX12 yX12_isGuest wsX12_isGuest) := goodIn_r _ [4, 5, 6, 7, 8, 9, 10, 11, 7, 12, 13, 30, 31, 32, 33, 34, 35, 36, 37, 38, 39, 40, 41, 42, 43, 44, 45, 46, 47, 48, 49, 50, 51, 52, 53, 54, 55, 56, 57, 58, 59, 60, 61, 62, 63, 64, 65, 66, 67, 68] rfl (by decide +kernel)
set_option maxRecDepth 20000 in
theorem gX12_beds_X12_goesThrough : GoodIn wsX12_beds (wsV RX12 442 RX12 yX12_goesThrough wsX12_goesThrough) := goodIn_r _ [14, 15, 16, 7, 17, 2, 3, 18, 9, 10, 11, 7, 12, 13, 19, 20, 21, 22, 23, 24, 25, 26, 27, 28, 29, 14, 15, 16, 30, 31, 32, 33, 34, 35, 36, 37, 38, 39, 40, 41, 42, 43, 44, 45, 46, 47, 48, 49, 50, 51, 52, 53, 54, 55, 56, 57, 58, 59, 60, 61, 62, 63, 64, 65, 66, 67, 68] rfl (by decide +kernel)
theorem dX12_beds_0 : decode cX12_beds 0 = .ok (.aload_n 0, 1) := by decide +kernel
theorem dX12_beds_1 : decode cX12_beds 1 = .ok (.iconst 0, 1) := by decide +kernel
theorem dX12_beds_2 : decode cX12_beds 2 = .ok (.putfield 1, 3) := by decide +kernel
theorem dX12_beds_5 : decode cX12_beds 5 = .ok (.iload_n 1, 1) := by decide +kernel
theorem dX12_beds_6 : decode cX12_beds 6 = .ok (.iconst (-1), 1) := by decide +kernel
theorem dX12_beds_7 : decode cX12_beds 7 = .ok (.if_icmp .eq 14, 3) := by decide +kernel
theorem dX12_beds_10 : decode cX12_beds 10 = .ok (.aload_n 0, 1) := by decide +kernel
theorem dX12_beds_11 : decode cX12_beds 11 = .ok (.iload_n 1, 1) := by decide +kernel
theorem dX12_beds_12 : decode cX12_beds 12 = .ok (.invokevirtual 365, 3) := by decide +kernel
theorem dX12_beds_15 : decode cX12_beds 15 = .ok (.ifCond .ne 6, 3) := by decide +kernel
theorem dX12_beds_18 : decode cX12_beds 18 = .ok (.bipush (-2), 2) := by decide +kernel
theorem dX12_beds_20 : decode cX12_beds 20 = .ok (.ireturn, 1) := by decide +kernel
theorem dX12_beds_21 : decode cX12_beds 21 = .ok (.aload_n 0, 1) := by decide +kernel
theorem dX12_beds_22 : decode cX12_beds 22 = .ok (.iconst (-1), 1) := by decide +kernel
theorem dX12_beds_23 : decode cX12_beds 23 = .ok (.putfield 436, 3) := by decide +kernel
theorem dX12_beds_26 : decode cX12_beds 26 = .ok (.aload_n 0, 1) := by decide +kernel
theorem dX12_beds_27 : decode cX12_beds 27 = .ok (.iconst 0, 1) := by decide +kernel
theorem dX12_beds_28 : decode cX12_beds 28 = .ok (.iconst 0, 1) := by decide +kernel
theorem dX12_beds_29 : decode cX12_beds 29 = .ok (.invokevirtual 442, 3) := by decide +kernel
theorem dX12_beds_32 : decode cX12_beds 32 = .ok (.iload_n 1, 1) := by decide +kernel
theorem dX12_beds_33 : decode cX12_beds 33 = .ok (.ifCond .ge 10, 3) := by decide +kernel
theorem dX12_beds_36 : decode cX12_beds 36 = .ok (.aload_n 0, 1) := by decide +kernel
theorem dX12_beds_37 : decode cX12_beds 37 = .ok (.getfield 436, 3) := by decide +kernel
theorem dX12_beds_40 : decode cX12_beds 40 = .ok (.goto 9, 3) := by decide +kernel
theorem dX12_beds_43 : decode cX12_beds 43 = .ok (.aload_n 0, 1) := by decide +kernel
theorem dX12_beds_44 : decode cX12_beds 44 = .ok (.getfield 162, 3) := by decide +kernel
theorem dX12_beds_47 : decode cX12_beds 47 = .ok (.iload_n 1, 1) := by decide +kernel
theorem dX12_beds_48 : decode cX12_beds 48 = .ok (.iaload, 1) := by decide +kernel
theorem dX12_beds_49 : decode cX12_beds 49 = .ok (.ireturn, 1) := by decide +kernel
set_option maxRecDepth 20000 in
theorem gX12_isWatched_X12_guests : GoodIn wsX12_isWatched (wsV RX12 328 RX12 yX12_guests wsX12_guests) := goodIn_r _ [1, 2, 3, 4, 5, 6, 14, 15, 16, 17, 18, 19, 20, 21, 22, 23, 24, 25, 26, 27, 28, 29, 30, 31, 32, 33, 34, 35, 36, 37, 38, 39, 40, 41, 42, 43, 44, 45, 46, 47, 48, 49, 50, 51, 52] rfl (by decide +kernel)
set_option maxRecDepth 20000 in
theorem gX12_isWatched_X12_guestOf : GoodIn wsX12_isWatched (wsV RX12 353 RX12 yX12_guestOf wsX12_guestOf) := goodIn_r _ [7, 8, 9, 4, 10, 6, 14, 15, 16, 17, 18, 19, 20, 21, 22, 23, 24, 25, 26, 27, 28, 29, 30, 31, 32, 33, 34, 35, 36, 37, 38, 39, 40, 41, 42, 43, 44, 45, 46, 47, 48, 49, 50, 51, 52] rfl (by decide +kernel)
set_option maxRecDepth 20000 in
theorem gX12_isWatched_X12_isIn : GoodIn wsX12_isWatched (va_wsS RX12 400 yX12_isIn wsX12_isIn) := goodIn_r _ [11, 12, 4, 13] rfl (by decide +kernel)
theorem dX12_isWatched_0 : decode cX12_isWatched 0 = .ok (.iconst 1, 1) := by decide +kernel
theorem dX12_isWatched_1 : decode cX12_isWatched 1 = .ok (.istore 4, 2) := by decide +kernel
theorem dX12_isWatched_3 : decode cX12_isWatched 3 = .ok (.iconst 0, 1) := by decide +kernel
theorem dX12_isWatched_4 : decode cX12_isWatched 4 = .ok (.istore 5, 2) := by decide +kernel
theorem dX12_isWatched_6 : decode cX12_isWatched 6 = .ok (.iload 5, 2) := by decide +kernel
theorem dX12_isWatched_8 : decode cX12_isWatched 8 = .ok (.aload_n 0, 1) := by decide +kernel
theorem dX12_isWatched_9 : decode cX12_isWatched 9 = .ok (.invokevirtual 328, 3) := by decide +kernel
theorem dX12_isWatched_12 : decode cX12_isWatched 12 = .ok (.if_icmp .ge 104, 3) := by decide +kernel
theorem dX12_isWatched_15 : decode cX12_isWatched 15 = .ok (.iconst 0, 1) := by decide +kernel
theorem dX12_isWatched_16 : decode cX12_isWatched 16 = .ok (.istore 6, 2) := by decide +kernel
theorem dX12_isWatched_18 : decode cX12_isWatched 18 = .ok (.iconst 0, 1) := by decide +kernel
theorem dX12_isWatched_19 : decode cX12_isWatched 19 = .ok (.istore 7, 2) := by decide +kernel
theorem dX12_isWatched_21 : decode cX12_isWatched 21 = .ok (.iload 7, 2) := by decide +kernel
theorem dX12_isWatched_23 : decode cX12_isWatched 23 = .ok (.aload_n 0, 1) := by decide +kernel
theorem dX12_isWatched_24 : decode cX12_isWatched 24 = .ok (.invokevirtual 328, 3) := by decide +kernel
theorem dX12_isWatched_27 : decode cX12_isWatched 27 = .ok (.if_icmp .ge 65, 3) := by decide +kernel
theorem dX12_isWatched_30 : decode cX12_isWatched 30 = .ok (.aload_n 0, 1) := by decide +kernel
theorem dX12_isWatched_31 : decode cX12_isWatched 31 = .ok (.iload 7, 2) := by decide +kernel
theorem dX12_isWatched_33 : decode cX12_isWatched 33 = .ok (.iconst 1, 1) := by decide +kernel
theorem dX12_isWatched_34 : decode cX12_isWatched 34 = .ok (.invokevirtual 353, 3) := by decide +kernel
theorem dX12_isWatched_37 : decode cX12_isWatched 37 = .ok (.aload_n 0, 1) := by decide +kernel
theorem dX12_isWatched_38 : decode cX12_isWatched 38 = .ok (.iload 5, 2) := by decide +kernel
theorem dX12_isWatched_40 : decode cX12_isWatched 40 = .ok (.iconst 1, 1) := by decide +kernel
theorem dX12_isWatched_41 : decode cX12_isWatched 41 = .ok (.invokevirtual 353, 3) := by decide +kernel
theorem dX12_isWatched_44 : decode cX12_isWatched 44 = .ok (.isub, 1) := by decide +kernel
theorem dX12_isWatched_45 : decode cX12_isWatched 45 = .ok (.istore 8, 2) := by decide +kernel
theorem dX12_isWatched_47 : decode cX12_isWatched 47 = .ok (.iload 6, 2) := by decide +kernel
theorem dX12_isWatched_49 : decode cX12_isWatched 49 = .ok (.iload 7, 2) := by decide +kernel
theorem dX12_isWatched_51 : decode cX12_isWatched 51 = .ok (.iload 5, 2) := by decide +kernel
theorem dX12_isWatched_53 : decode cX12_isWatched 53 = .ok (.if_icmp .eq 29, 3) := by decide +kernel
theorem dX12_isWatched_56 : decode cX12_isWatched 56 = .ok (.iload_n 1, 1) := by decide +kernel
theorem dX12_isWatched_57 : decode cX12_isWatched 57 = .ok (.iload 7, 2) := by decide +kernel
theorem dX12_isWatched_59 : decode cX12_isWatched 59 = .ok (.invokestatic 400, 3) := by decide +kernel
theorem dX12_isWatched_62 : decode cX12_isWatched 62 = .ok (.ifCond .eq 20, 3) := by decide +kernel
theorem dX12_isWatched_65 : decode cX12_isWatched 65 = .ok (.iload 8, 2) := by decide +kernel
theorem dX12_isWatched_67 : decode cX12_isWatched 67 = .ok (.iload_n 3, 1) := by decide +kernel
theorem dX12_isWatched_68 : decode cX12_isWatched 68 = .ok (.if_icmp .gt 14, 3) := by decide +kernel
theorem dX12_isWatched_71 : decode cX12_isWatched 71 = .ok (.iload 8, 2) := by decide +kernel
theorem dX12_isWatched_73 : decode cX12_isWatched 73 = .ok (.ineg, 1) := by decide +kernel
theorem dX12_isWatched_74 : decode cX12_isWatched 74 = .ok (.iload_n 3, 1) := by decide +kernel
theorem dX12_isWatched_75 : decode cX12_isWatched 75 = .ok (.if_icmp .gt 7, 3) := by decide +kernel
theorem dX12_isWatched_78 : decode cX12_isWatched 78 = .ok (.iconst 1, 1) := by decide +kernel
theorem dX12_isWatched_79 : decode cX12_isWatched 79 = .ok (.goto 4, 3) := by decide +kernel
theorem dX12_isWatched_82 : decode cX12_isWatched 82 = .ok (.iconst 0, 1) := by decide +kernel
theorem dX12_isWatched_83 : decode cX12_isWatched 83 = .ok (.iadd, 1) := by decide +kernel
theorem dX12_isWatched_84 : decode cX12_isWatched 84 = .ok (.istore 6, 2) := by decide +kernel
theorem dX12_isWatched_86 : decode cX12_isWatched 86 = .ok (.iinc 7 1, 3) := by decide +kernel
theorem dX12_isWatched_89 : decode cX12_isWatched 89 = .ok (.goto (-68), 3) := by decide +kernel
theorem dX12_isWatched_92 : decode cX12_isWatched 92 = .ok (.iload 4, 2) := by decide +kernel
theorem dX12_isWatched_94 : decode cX12_isWatched 94 = .ok (.ifCond .eq 13, 3) := by decide +kernel
theorem dX12_isWatched_97 : decode cX12_isWatched 97 = .ok (.iload 6, 2) := by decide +kernel
theorem dX12_isWatched_99 : decode cX12_isWatched 99 = .ok (.iload_n 2, 1) := by decide +kernel
theorem dX12_isWatched_100 : decode cX12_isWatched 100 = .ok (.if_icmp .lt 7, 3) := by decide +kernel
theorem dX12_isWatched_103 : decode cX12_isWatched 103 = .ok (.iconst 1, 1) := by decide +kernel
theorem dX12_isWatched_104 : decode cX12_isWatched 104 = .ok (.goto 4, 3) := by decide +kernel
theorem dX12_isWatched_107 : decode cX12_isWatched 107 = .ok (.iconst 0, 1) := by decide +kernel
theorem dX12_isWatched_108 : decode cX12_isWatched 108 = .ok (.istore 4, 2) := by decide +kernel
theorem dX12_isWatched_110 : decode cX12_isWatched 110 = .ok (.iinc 5 1, 3) := by decide +kernel
theorem dX12_isWatched_113 : decode cX12_isWatched 113 = .ok (.goto (-107), 3) := by decide +kernel
theorem dX12_isWatched_116 : decode cX12_isWatched 116 = .ok (.iload 4, 2) := by decide +kernel
theorem dX12_isWatched_118 : decode cX12_isWatched 118 = .ok (.ireturn, 1) := by decide +kernel
set_option maxRecDepth 20000 in
theorem gX12_watch_X12_guests : GoodIn wsX12_watch (wsV RX12 328 RX12 yX12_guests wsX12_guests) := goodIn_r _ [2, 3, 4, 5, 6, 7, 25, 26, 27, 28, 29, 30, 31, 32, 33, 34, 35, 36, 37, 38, 39, 40, 41, 42, 43, 44, 45, 46, 47, 48, 49, 50, 51, 52, 53, 54, 55, 56, 57, 58, 59, 60, 61, 62, 63] rfl (by decide +kernel)
set_option maxRecDepth 20000 in
theorem gX12_watch_X12_within : GoodIn wsX12_watch (va_wsS RX12 241 yX12_within wsX12_within) := goodIn_r _ [8, 9, 5, 10] rfl (by decide +kernel)
set_option maxRecDepth 20000 in
theorem gX12_watch_X12_bits : GoodIn wsX12_watch (va_wsS RX12 371 yX12_bits wsX12_bits) := goodIn_r _ [11, 12, 5, 13] rfl (by decide +kernel)
set_option maxRecDepth 20000 in
theorem gX12_watch_X12_isWatched : GoodIn wsX12_watch (wsV RX12 445 RX12 yX12_isWatched wsX12_isWatched) := goodIn_r _ [14, 15, 16, 5, 17, 2, 3, 4, 5, 6, 7, 18, 19, 20, 21, 22, 23, 24, 25, 26, 27, 28, 29, 30, 31, 32, 33, 34, 35, 36, 37, 38, 39, 40, 41, 42, 43, 44, 45, 46, 47, 48, 49, 50, 51, 52, 53, 54, 55, 56, 57, 58, 59, 60, 61, 62, 63] rfl (by decide +kernel)
theorem dX12_watch_0 : decode cX12_watch 0 = .ok (.aload_n 0, 1) := by decide +kernel
theorem dX12_watch_1 : decode cX12_watch 1 = .ok (.iconst 0, 1) := by decide +kernel
theorem dX12_watch_2 : decode cX12_watch 2 = .ok (.putfield 1, 3) := by decide +kernel
theorem dX12_watch_5 : decode cX12_watch 5 = .ok (.iconst (-1), 1) := by decide +kernel
theorem dX12_watch_6 : decode cX12_watch 6 = .ok (.istore_n 3, 1) := by decide +kernel
theorem dX12_watch_7 : decode cX12_watch 7 = .ok (.iconst 0, 1) := by decide +kernel
theorem dX12_watch_8 : decode cX12_watch 8 = .ok (.istore 4, 2) := by decide +kernel
theorem dX12_watch_10 : decode cX12_watch 10 = .ok (.iload 4, 2) := by decide +kernel
theorem dX12_watch_12 : decode cX12_watch 12 = .ok (.iconst 1, 1) := by decide +kernel
theorem dX12_watch_13 : decode cX12_watch 13 = .ok (.aload_n 0, 1) := by decide +kernel
theorem dX12_watch_14 : decode cX12_watch 14 = .ok (.invokevirtual 328, 3) := by decide +kernel
theorem dX12_watch_17 : decode cX12_watch 17 = .ok (.ishl, 1) := by decide +kernel
theorem dX12_watch_18 : decode cX12_watch 18 = .ok (.if_icmp .ge 62, 3) := by decide +kernel
theorem dX12_watch_21 : decode cX12_watch 21 = .ok (.iload_n 1, 1) := by decide +kernel
theorem dX12_watch_22 : decode cX12_watch 22 = .ok (.iconst 1, 1) := by decide +kernel
theorem dX12_watch_23 : decode cX12_watch 23 = .ok (.iconst 2, 1) := by decide +kernel
theorem dX12_watch_24 : decode cX12_watch 24 = .ok (.invokestatic 241, 3) := by decide +kernel
theorem dX12_watch_27 : decode cX12_watch 27 = .ok (.ifCond .eq 53, 3) := by decide +kernel
theorem dX12_watch_30 : decode cX12_watch 30 = .ok (.iload_n 2, 1) := by decide +kernel
theorem dX12_watch_31 : decode cX12_watch 31 = .ok (.iconst 0, 1) := by decide +kernel
theorem dX12_watch_32 : decode cX12_watch 32 = .ok (.bipush 11, 2) := by decide +kernel
theorem dX12_watch_34 : decode cX12_watch 34 = .ok (.invokestatic 241, 3) := by decide +kernel
theorem dX12_watch_37 : decode cX12_watch 37 = .ok (.ifCond .eq 43, 3) := by decide +kernel
theorem dX12_watch_40 : decode cX12_watch 40 = .ok (.iload_n 3, 1) := by decide +kernel
theorem dX12_watch_41 : decode cX12_watch 41 = .ok (.ifCond .lt 15, 3) := by decide +kernel
theorem dX12_watch_44 : decode cX12_watch 44 = .ok (.iload 4, 2) := by decide +kernel
theorem dX12_watch_46 : decode cX12_watch 46 = .ok (.invokestatic 371, 3) := by decide +kernel
theorem dX12_watch_49 : decode cX12_watch 49 = .ok (.iload_n 3, 1) := by decide +kernel
theorem dX12_watch_50 : decode cX12_watch 50 = .ok (.invokestatic 371, 3) := by decide +kernel
theorem dX12_watch_53 : decode cX12_watch 53 = .ok (.if_icmp .ge 19, 3) := by decide +kernel
theorem dX12_watch_56 : decode cX12_watch 56 = .ok (.aload_n 0, 1) := by decide +kernel
theorem dX12_watch_57 : decode cX12_watch 57 = .ok (.iload 4, 2) := by decide +kernel
theorem dX12_watch_59 : decode cX12_watch 59 = .ok (.iload_n 1, 1) := by decide +kernel
theorem dX12_watch_60 : decode cX12_watch 60 = .ok (.iload_n 2, 1) := by decide +kernel
theorem dX12_watch_61 : decode cX12_watch 61 = .ok (.invokevirtual 445, 3) := by decide +kernel
theorem dX12_watch_64 : decode cX12_watch 64 = .ok (.ifCond .eq 8, 3) := by decide +kernel
theorem dX12_watch_67 : decode cX12_watch 67 = .ok (.iload 4, 2) := by decide +kernel
theorem dX12_watch_69 : decode cX12_watch 69 = .ok (.goto 4, 3) := by decide +kernel
theorem dX12_watch_72 : decode cX12_watch 72 = .ok (.iload_n 3, 1) := by decide +kernel
theorem dX12_watch_73 : decode cX12_watch 73 = .ok (.istore_n 3, 1) := by decide +kernel
theorem dX12_watch_74 : decode cX12_watch 74 = .ok (.iinc 4 1, 3) := by decide +kernel
theorem dX12_watch_77 : decode cX12_watch 77 = .ok (.goto (-67), 3) := by decide +kernel
theorem dX12_watch_80 : decode cX12_watch 80 = .ok (.iload_n 3, 1) := by decide +kernel
theorem dX12_watch_81 : decode cX12_watch 81 = .ok (.ireturn, 1) := by decide +kernel
theorem dX12_draw_0 : decode cX12_draw 0 = .ok (.aload_n 0, 1) := by decide +kernel
theorem dX12_draw_1 : decode cX12_draw 1 = .ok (.aload_n 0, 1) := by decide +kernel
theorem dX12_draw_2 : decode cX12_draw 2 = .ok (.getfield 448, 3) := by decide +kernel
theorem dX12_draw_5 : decode cX12_draw 5 = .ok (.ldc2_w 452, 3) := by decide +kernel
theorem dX12_draw_8 : decode cX12_draw 8 = .ok (.lmul, 1) := by decide +kernel
theorem dX12_draw_9 : decode cX12_draw 9 = .ok (.ldc2_w 454, 3) := by decide +kernel
theorem dX12_draw_12 : decode cX12_draw 12 = .ok (.ladd, 1) := by decide +kernel
theorem dX12_draw_13 : decode cX12_draw 13 = .ok (.ldc2_w 456, 3) := by decide +kernel
theorem dX12_draw_16 : decode cX12_draw 16 = .ok (.lrem, 1) := by decide +kernel
theorem dX12_draw_17 : decode cX12_draw 17 = .ok (.putfield 448, 3) := by decide +kernel
theorem dX12_draw_20 : decode cX12_draw 20 = .ok (.aload_n 0, 1) := by decide +kernel
theorem dX12_draw_21 : decode cX12_draw 21 = .ok (.getfield 448, 3) := by decide +kernel
theorem dX12_draw_24 : decode cX12_draw 24 = .ok (.ldc2_w 458, 3) := by decide +kernel
theorem dX12_draw_27 : decode cX12_draw 27 = .ok (.ldiv, 1) := by decide +kernel
theorem dX12_draw_28 : decode cX12_draw 28 = .ok (.iload_n 1, 1) := by decide +kernel
theorem dX12_draw_29 : decode cX12_draw 29 = .ok (.i2l, 1) := by decide +kernel
theorem dX12_draw_30 : decode cX12_draw 30 = .ok (.lrem, 1) := by decide +kernel
theorem dX12_draw_31 : decode cX12_draw 31 = .ok (.l2i, 1) := by decide +kernel
theorem dX12_draw_32 : decode cX12_draw 32 = .ok (.ireturn, 1) := by decide +kernel
set_option maxRecDepth 20000 in
theorem gX12_drawsOne_X12_guests : GoodIn wsX12_drawsOne (wsV RX12 328 RX12 yX12_guests wsX12_guests) := goodIn_r _ [1, 2, 3, 4, 5, 6, 20, 21, 22, 23, 24, 25, 26, 27, 28, 29, 30, 31, 32, 33, 34, 35, 36, 37, 38, 39, 40, 41, 42, 43, 44, 45, 46, 47, 48, 49, 50, 51, 52, 53, 54, 55, 56, 57, 58] rfl (by decide +kernel)
set_option maxRecDepth 20000 in
theorem gX12_drawsOne_X12_guestOf : GoodIn wsX12_drawsOne (wsV RX12 353 RX12 yX12_guestOf wsX12_guestOf) := goodIn_r _ [7, 8, 9, 4, 10, 6, 20, 21, 22, 23, 24, 25, 26, 27, 28, 29, 30, 31, 32, 33, 34, 35, 36, 37, 38, 39, 40, 41, 42, 43, 44, 45, 46, 47, 48, 49, 50, 51, 52, 53, 54, 55, 56, 57, 58] rfl (by decide +kernel)
set_option maxRecDepth 20000 in
theorem gX12_drawsOne_X12_draw : GoodIn wsX12_drawsOne (wsV RX12 460 RX12 yX12_draw wsX12_draw) := goodIn_r _ [11, 12, 13, 4, 14, 15, 16, 17, 18, 19, 20, 21, 22, 23, 24, 25, 26, 27, 28, 29, 30, 31, 32, 33, 34, 35, 36, 37, 38, 39, 40, 41, 42, 43, 44, 45, 46, 47, 48, 49, 50, 51, 52, 53, 54, 55, 56, 57, 58] rfl (by decide +kernel)
theorem dX12_drawsOne_0 : decode cX12_drawsOne 0 = .ok (.iconst 0, 1) := by decide +kernel
theorem dX12_drawsOne_1 : decode cX12_drawsOne 1 = .ok (.istore_n 1, 1) := by decide +kernel
theorem dX12_drawsOne_2 : decode cX12_drawsOne 2 = .ok (.iconst 0, 1) := by decide +kernel
theorem dX12_drawsOne_3 : decode cX12_drawsOne 3 = .ok (.istore_n 2, 1) := by decide +kernel
theorem dX12_drawsOne_4 : decode cX12_drawsOne 4 = .ok (.iload_n 2, 1) := by decide +kernel
theorem dX12_drawsOne_5 : decode cX12_drawsOne 5 = .ok (.aload_n 0, 1) := by decide +kernel
theorem dX12_drawsOne_6 : decode cX12_drawsOne 6 = .ok (.invokevirtual 328, 3) := by decide +kernel
theorem dX12_drawsOne_9 : decode cX12_drawsOne 9 = .ok (.if_icmp .ge 18, 3) := by decide +kernel
theorem dX12_drawsOne_12 : decode cX12_drawsOne 12 = .ok (.iload_n 1, 1) := by decide +kernel
theorem dX12_drawsOne_13 : decode cX12_drawsOne 13 = .ok (.aload_n 0, 1) := by decide +kernel
theorem dX12_drawsOne_14 : decode cX12_drawsOne 14 = .ok (.iload_n 2, 1) := by decide +kernel
theorem dX12_drawsOne_15 : decode cX12_drawsOne 15 = .ok (.iconst 2, 1) := by decide +kernel
theorem dX12_drawsOne_16 : decode cX12_drawsOne 16 = .ok (.invokevirtual 353, 3) := by decide +kernel
theorem dX12_drawsOne_19 : decode cX12_drawsOne 19 = .ok (.iadd, 1) := by decide +kernel
theorem dX12_drawsOne_20 : decode cX12_drawsOne 20 = .ok (.istore_n 1, 1) := by decide +kernel
theorem dX12_drawsOne_21 : decode cX12_drawsOne 21 = .ok (.iinc 2 1, 3) := by decide +kernel
theorem dX12_drawsOne_24 : decode cX12_drawsOne 24 = .ok (.goto (-20), 3) := by decide +kernel
theorem dX12_drawsOne_27 : decode cX12_drawsOne 27 = .ok (.aload_n 0, 1) := by decide +kernel
theorem dX12_drawsOne_28 : decode cX12_drawsOne 28 = .ok (.iload_n 1, 1) := by decide +kernel
theorem dX12_drawsOne_29 : decode cX12_drawsOne 29 = .ok (.invokevirtual 460, 3) := by decide +kernel
theorem dX12_drawsOne_32 : decode cX12_drawsOne 32 = .ok (.istore_n 2, 1) := by decide +kernel
theorem dX12_drawsOne_33 : decode cX12_drawsOne 33 = .ok (.iconst 0, 1) := by decide +kernel
theorem dX12_drawsOne_34 : decode cX12_drawsOne 34 = .ok (.istore_n 3, 1) := by decide +kernel
theorem dX12_drawsOne_35 : decode cX12_drawsOne 35 = .ok (.iload_n 2, 1) := by decide +kernel
theorem dX12_drawsOne_36 : decode cX12_drawsOne 36 = .ok (.aload_n 0, 1) := by decide +kernel
theorem dX12_drawsOne_37 : decode cX12_drawsOne 37 = .ok (.iload_n 3, 1) := by decide +kernel
theorem dX12_drawsOne_38 : decode cX12_drawsOne 38 = .ok (.iconst 2, 1) := by decide +kernel
theorem dX12_drawsOne_39 : decode cX12_drawsOne 39 = .ok (.invokevirtual 353, 3) := by decide +kernel
theorem dX12_drawsOne_42 : decode cX12_drawsOne 42 = .ok (.if_icmp .lt 18, 3) := by decide +kernel
theorem dX12_drawsOne_45 : decode cX12_drawsOne 45 = .ok (.iload_n 2, 1) := by decide +kernel
theorem dX12_drawsOne_46 : decode cX12_drawsOne 46 = .ok (.aload_n 0, 1) := by decide +kernel
theorem dX12_drawsOne_47 : decode cX12_drawsOne 47 = .ok (.iload_n 3, 1) := by decide +kernel
theorem dX12_drawsOne_48 : decode cX12_drawsOne 48 = .ok (.iconst 2, 1) := by decide +kernel
theorem dX12_drawsOne_49 : decode cX12_drawsOne 49 = .ok (.invokevirtual 353, 3) := by decide +kernel
theorem dX12_drawsOne_52 : decode cX12_drawsOne 52 = .ok (.isub, 1) := by decide +kernel
theorem dX12_drawsOne_53 : decode cX12_drawsOne 53 = .ok (.istore_n 2, 1) := by decide +kernel
theorem dX12_drawsOne_54 : decode cX12_drawsOne 54 = .ok (.iinc 3 1, 3) := by decide +kernel
theorem dX12_drawsOne_57 : decode cX12_drawsOne 57 = .ok (.goto (-22), 3) := by decide +kernel
theorem dX12_drawsOne_60 : decode cX12_drawsOne 60 = .ok (.iload_n 3, 1) := by decide +kernel
theorem dX12_drawsOne_61 : decode cX12_drawsOne 61 = .ok (.ireturn, 1) := by decide +kernel
set_option maxRecDepth 20000 in
theorem gX12_likeIn_X12_worlds : GoodIn wsX12_likeIn (wsV RX12 331 RX12 yX12_worlds wsX12_worlds) := goodIn_r _ [2, 3, 4, 5, 6, 7, 8, 9, 5, 10, 11, 19, 20, 21, 22, 23, 24, 25, 26, 27, 28, 29, 30, 31, 32, 33, 34, 35, 36, 37, 38, 39, 40, 41, 42, 43, 44, 45, 46, 47, 48, 49, 50, 51, 52, 53, 54, 55, 56, 57] rfl (by decide +kernel)
set_option maxRecDepth 20000 in
theorem gX12_likeIn_X12_whoIn : GoodIn wsX12_likeIn (wsV RX12 384 RX12 yX12_whoIn wsX12_whoIn) := goodIn_r _ [12, 13, 14, 5, 15, 7, 8, 9, 5, 10, 11, 16, 17, 18, 19, 20, 21, 22, 23, 24, 25, 26, 27, 28, 29, 30, 31, 32, 33, 34, 35, 36, 37, 38, 39, 40, 41, 42, 43, 44, 45, 46, 47, 48, 49, 50, 51, 52, 53, 54, 55, 56, 57] rfl (by decide +kernel)
theorem dX12_likeIn_0 : decode cX12_likeIn 0 = .ok (.iconst 0, 1) := by decide +kernel
theorem dX12_likeIn_1 : decode cX12_likeIn 1 = .ok (.istore_n 3, 1) := by decide +kernel
theorem dX12_likeIn_2 : decode cX12_likeIn 2 = .ok (.iconst 0, 1) := by decide +kernel
theorem dX12_likeIn_3 : decode cX12_likeIn 3 = .ok (.istore 4, 2) := by decide +kernel
theorem dX12_likeIn_5 : decode cX12_likeIn 5 = .ok (.iload 4, 2) := by decide +kernel
theorem dX12_likeIn_7 : decode cX12_likeIn 7 = .ok (.aload_n 0, 1) := by decide +kernel
theorem dX12_likeIn_8 : decode cX12_likeIn 8 = .ok (.invokevirtual 331, 3) := by decide +kernel
theorem dX12_likeIn_11 : decode cX12_likeIn 11 = .ok (.if_icmp .ge 39, 3) := by decide +kernel
theorem dX12_likeIn_14 : decode cX12_likeIn 14 = .ok (.iload_n 3, 1) := by decide +kernel
theorem dX12_likeIn_15 : decode cX12_likeIn 15 = .ok (.aload_n 0, 1) := by decide +kernel
theorem dX12_likeIn_16 : decode cX12_likeIn 16 = .ok (.getfield 141, 3) := by decide +kernel
theorem dX12_likeIn_19 : decode cX12_likeIn 19 = .ok (.iload 4, 2) := by decide +kernel
theorem dX12_likeIn_21 : decode cX12_likeIn 21 = .ok (.iaload, 1) := by decide +kernel
theorem dX12_likeIn_22 : decode cX12_likeIn 22 = .ok (.aload_n 0, 1) := by decide +kernel
theorem dX12_likeIn_23 : decode cX12_likeIn 23 = .ok (.getfield 141, 3) := by decide +kernel
theorem dX12_likeIn_26 : decode cX12_likeIn 26 = .ok (.iload_n 1, 1) := by decide +kernel
theorem dX12_likeIn_27 : decode cX12_likeIn 27 = .ok (.iaload, 1) := by decide +kernel
theorem dX12_likeIn_28 : decode cX12_likeIn 28 = .ok (.ixor, 1) := by decide +kernel
theorem dX12_likeIn_29 : decode cX12_likeIn 29 = .ok (.iload_n 2, 1) := by decide +kernel
theorem dX12_likeIn_30 : decode cX12_likeIn 30 = .ok (.iand, 1) := by decide +kernel
theorem dX12_likeIn_31 : decode cX12_likeIn 31 = .ok (.ifCond .ne 10, 3) := by decide +kernel
theorem dX12_likeIn_34 : decode cX12_likeIn 34 = .ok (.iconst 1, 1) := by decide +kernel
theorem dX12_likeIn_35 : decode cX12_likeIn 35 = .ok (.iload 4, 2) := by decide +kernel
theorem dX12_likeIn_37 : decode cX12_likeIn 37 = .ok (.ishl, 1) := by decide +kernel
theorem dX12_likeIn_38 : decode cX12_likeIn 38 = .ok (.goto 4, 3) := by decide +kernel
theorem dX12_likeIn_41 : decode cX12_likeIn 41 = .ok (.iconst 0, 1) := by decide +kernel
theorem dX12_likeIn_42 : decode cX12_likeIn 42 = .ok (.ior, 1) := by decide +kernel
theorem dX12_likeIn_43 : decode cX12_likeIn 43 = .ok (.istore_n 3, 1) := by decide +kernel
theorem dX12_likeIn_44 : decode cX12_likeIn 44 = .ok (.iinc 4 1, 3) := by decide +kernel
theorem dX12_likeIn_47 : decode cX12_likeIn 47 = .ok (.goto (-42), 3) := by decide +kernel
theorem dX12_likeIn_50 : decode cX12_likeIn 50 = .ok (.aload_n 0, 1) := by decide +kernel
theorem dX12_likeIn_51 : decode cX12_likeIn 51 = .ok (.iload_n 3, 1) := by decide +kernel
theorem dX12_likeIn_52 : decode cX12_likeIn 52 = .ok (.invokevirtual 384, 3) := by decide +kernel
theorem dX12_likeIn_55 : decode cX12_likeIn 55 = .ok (.ireturn, 1) := by decide +kernel
set_option maxRecDepth 20000 in
theorem gX12_years_X12_within : GoodIn wsX12_years (va_wsS RX12 241 yX12_within wsX12_within) := goodIn_r _ [4, 5, 6, 7] rfl (by decide +kernel)
set_option maxRecDepth 20000 in
theorem gX12_years_X12_guests : GoodIn wsX12_years (wsV RX12 328 RX12 yX12_guests wsX12_guests) := goodIn_r _ [8, 9, 10, 6, 11, 12, 50, 51, 52, 53, 54, 55, 56, 57, 58, 59, 60, 61, 62, 63, 64, 65, 66, 67, 68, 69, 70, 71, 72, 73, 74, 75, 76, 77, 78, 79, 80, 81, 82, 83, 84, 85, 86, 87, 88] rfl (by decide +kernel)
set_option maxRecDepth 20000 in
theorem gX12_years_X12_drawsOne : GoodIn wsX12_years (wsV RX12 463 RX12 yX12_drawsOne wsX12_drawsOne) := goodIn_r _ [13, 14, 15, 6, 16, 8, 9, 10, 6, 11, 12, 17, 18, 19, 20, 21, 22, 23, 24, 2, 25, 26, 27, 28, 50, 51, 52, 53, 54, 55, 56, 57, 58, 59, 60, 61, 62, 63, 64, 65, 66, 67, 68, 69, 70, 71, 72, 73, 74, 75, 76, 77, 78, 79, 80, 81, 82, 83, 84, 85, 86, 87, 88] rfl (by decide +kernel)
set_option maxRecDepth 20000 in
theorem gX12_years_X12_draw : GoodIn wsX12_years (wsV RX12 460 RX12 yX12_draw wsX12_draw) := goodIn_r _ [21, 22, 23, 6, 24, 2, 25, 26, 27, 28, 50, 51, 52, 53, 54, 55, 56, 57, 58, 59, 60, 61, 62, 63, 64, 65, 66, 67, 68, 69, 70, 71, 72, 73, 74, 75, 76, 77, 78, 79, 80, 81, 82, 83, 84, 85, 86, 87, 88] rfl (by decide +kernel)
set_option maxRecDepth 20000 in
theorem gX12_years_X12_likeIn : GoodIn wsX12_years (wsV RX12 466 RX12 yX12_likeIn wsX12_likeIn) := goodIn_r _ [29, 30, 31, 6, 32, 3, 33, 34, 35, 6, 36, 8, 9, 10, 11, 12, 37, 38, 39, 40, 41, 42, 43, 50, 51, 52, 53, 54, 55, 56, 57, 58, 59, 60, 61, 62, 63, 64, 65, 66, 67, 68, 69, 70, 71, 72, 73, 74, 75, 76, 77, 78, 79, 80, 81, 82, 83, 84, 85, 86, 87, 88] rfl (by decide +kernel)
set_option maxRecDepth 20000 in
theorem gX12_years_X12_alone : GoodIn wsX12_years (va_wsS RX12 396 yX12_alone wsX12_alone) := goodIn_r _ [44, 45, 6, 46] rfl (by decide +kernel)
set_option maxRecDepth 20000 in
theorem gX12_years_X12_guestOf : GoodIn wsX12_years (wsV RX12 353 RX12 yX12_guestOf wsX12_guestOf) := goodIn_r _ [17, 18, 19, 6, 20, 12, 50, 51, 52, 53, 54, 55, 56, 57, 58, 59, 60, 61, 62, 63, 64, 65, 66, 67, 68, 69, 70, 71, 72, 73, 74, 75, 76, 77, 78, 79, 80, 81, 82, 83, 84, 85, 86, 87, 88] rfl (by decide +kernel)
set_option maxRecDepth 20000 in
theorem gX12_years_X12_bits : GoodIn wsX12_years (va_wsS RX12 371 yX12_bits wsX12_bits) := goodIn_r _ [47, 48, 6, 49] rfl (by decide +kernel)
theorem dX12_years_0 : decode cX12_years 0 = .ok (.aload_n 0, 1) := by decide +kernel
theorem dX12_years_1 : decode cX12_years 1 = .ok (.iconst 0, 1) := by decide +kernel
theorem dX12_years_2 : decode cX12_years 2 = .ok (.putfield 1, 3) := by decide +kernel
theorem dX12_years_5 : decode cX12_years 5 = .ok (.iload_n 1, 1) := by decide +kernel
theorem dX12_years_6 : decode cX12_years 6 = .ok (.iconst 0, 1) := by decide +kernel
theorem dX12_years_7 : decode cX12_years 7 = .ok (.sipush 9999, 3) := by decide +kernel
theorem dX12_years_10 : decode cX12_years 10 = .ok (.invokestatic 241, 3) := by decide +kernel
theorem dX12_years_13 : decode cX12_years 13 = .ok (.ifCond .eq 29, 3) := by decide +kernel
theorem dX12_years_16 : decode cX12_years 16 = .ok (.iload_n 2, 1) := by decide +kernel
theorem dX12_years_17 : decode cX12_years 17 = .ok (.iconst 1, 1) := by decide +kernel
theorem dX12_years_18 : decode cX12_years 18 = .ok (.bipush 100, 2) := by decide +kernel
theorem dX12_years_20 : decode cX12_years 20 = .ok (.invokestatic 241, 3) := by decide +kernel
theorem dX12_years_23 : decode cX12_years 23 = .ok (.ifCond .eq 19, 3) := by decide +kernel
theorem dX12_years_26 : decode cX12_years 26 = .ok (.iload_n 3, 1) := by decide +kernel
theorem dX12_years_27 : decode cX12_years 27 = .ok (.iconst 0, 1) := by decide +kernel
theorem dX12_years_28 : decode cX12_years 28 = .ok (.iconst 2, 1) := by decide +kernel
theorem dX12_years_29 : decode cX12_years 29 = .ok (.invokestatic 241, 3) := by decide +kernel
theorem dX12_years_32 : decode cX12_years 32 = .ok (.ifCond .eq 10, 3) := by decide +kernel
theorem dX12_years_35 : decode cX12_years 35 = .ok (.aload_n 0, 1) := by decide +kernel
theorem dX12_years_36 : decode cX12_years 36 = .ok (.invokevirtual 328, 3) := by decide +kernel
theorem dX12_years_39 : decode cX12_years 39 = .ok (.ifCond .ne 5, 3) := by decide +kernel
theorem dX12_years_42 : decode cX12_years 42 = .ok (.iconst (-1), 1) := by decide +kernel
theorem dX12_years_43 : decode cX12_years 43 = .ok (.ireturn, 1) := by decide +kernel
theorem dX12_years_44 : decode cX12_years 44 = .ok (.aload_n 0, 1) := by decide +kernel
theorem dX12_years_45 : decode cX12_years 45 = .ok (.iload_n 1, 1) := by decide +kernel
theorem dX12_years_46 : decode cX12_years 46 = .ok (.i2l, 1) := by decide +kernel
theorem dX12_years_47 : decode cX12_years 47 = .ok (.putfield 448, 3) := by decide +kernel
theorem dX12_years_50 : decode cX12_years 50 = .ok (.iconst 0, 1) := by decide +kernel
theorem dX12_years_51 : decode cX12_years 51 = .ok (.istore 4, 2) := by decide +kernel
theorem dX12_years_53 : decode cX12_years 53 = .ok (.iconst 0, 1) := by decide +kernel
theorem dX12_years_54 : decode cX12_years 54 = .ok (.istore 5, 2) := by decide +kernel
theorem dX12_years_56 : decode cX12_years 56 = .ok (.iconst 0, 1) := by decide +kernel
theorem dX12_years_57 : decode cX12_years 57 = .ok (.istore 6, 2) := by decide +kernel
theorem dX12_years_59 : decode cX12_years 59 = .ok (.iconst 0, 1) := by decide +kernel
theorem dX12_years_60 : decode cX12_years 60 = .ok (.istore 7, 2) := by decide +kernel
theorem dX12_years_62 : decode cX12_years 62 = .ok (.iload 7, 2) := by decide +kernel
theorem dX12_years_64 : decode cX12_years 64 = .ok (.iload_n 2, 1) := by decide +kernel
theorem dX12_years_65 : decode cX12_years 65 = .ok (.if_icmp .ge 95, 3) := by decide +kernel
theorem dX12_years_68 : decode cX12_years 68 = .ok (.aload_n 0, 1) := by decide +kernel
theorem dX12_years_69 : decode cX12_years 69 = .ok (.invokevirtual 463, 3) := by decide +kernel
theorem dX12_years_72 : decode cX12_years 72 = .ok (.istore 8, 2) := by decide +kernel
theorem dX12_years_74 : decode cX12_years 74 = .ok (.iconst 4, 1) := by decide +kernel
theorem dX12_years_75 : decode cX12_years 75 = .ok (.iload 8, 2) := by decide +kernel
theorem dX12_years_77 : decode cX12_years 77 = .ok (.imul, 1) := by decide +kernel
theorem dX12_years_78 : decode cX12_years 78 = .ok (.aload_n 0, 1) := by decide +kernel
theorem dX12_years_79 : decode cX12_years 79 = .ok (.iconst 4, 1) := by decide +kernel
theorem dX12_years_80 : decode cX12_years 80 = .ok (.invokevirtual 460, 3) := by decide +kernel
theorem dX12_years_83 : decode cX12_years 83 = .ok (.iadd, 1) := by decide +kernel
theorem dX12_years_84 : decode cX12_years 84 = .ok (.istore 9, 2) := by decide +kernel
theorem dX12_years_86 : decode cX12_years 86 = .ok (.iload 4, 2) := by decide +kernel
theorem dX12_years_88 : decode cX12_years 88 = .ok (.aload_n 0, 1) := by decide +kernel
theorem dX12_years_89 : decode cX12_years 89 = .ok (.iload 9, 2) := by decide +kernel
theorem dX12_years_91 : decode cX12_years 91 = .ok (.bipush 63, 2) := by decide +kernel
theorem dX12_years_93 : decode cX12_years 93 = .ok (.invokevirtual 466, 3) := by decide +kernel
theorem dX12_years_96 : decode cX12_years 96 = .ok (.invokestatic 396, 3) := by decide +kernel
theorem dX12_years_99 : decode cX12_years 99 = .ok (.ifCond .lt 7, 3) := by decide +kernel
theorem dX12_years_102 : decode cX12_years 102 = .ok (.iconst 1, 1) := by decide +kernel
theorem dX12_years_103 : decode cX12_years 103 = .ok (.goto 4, 3) := by decide +kernel
theorem dX12_years_106 : decode cX12_years 106 = .ok (.iconst 0, 1) := by decide +kernel
theorem dX12_years_107 : decode cX12_years 107 = .ok (.iadd, 1) := by decide +kernel
theorem dX12_years_108 : decode cX12_years 108 = .ok (.istore 4, 2) := by decide +kernel
theorem dX12_years_110 : decode cX12_years 110 = .ok (.iload 5, 2) := by decide +kernel
theorem dX12_years_112 : decode cX12_years 112 = .ok (.aload_n 0, 1) := by decide +kernel
theorem dX12_years_113 : decode cX12_years 113 = .ok (.iload 9, 2) := by decide +kernel
theorem dX12_years_115 : decode cX12_years 115 = .ok (.aload_n 0, 1) := by decide +kernel
theorem dX12_years_116 : decode cX12_years 116 = .ok (.iload 8, 2) := by decide +kernel
theorem dX12_years_118 : decode cX12_years 118 = .ok (.iconst 3, 1) := by decide +kernel
theorem dX12_years_119 : decode cX12_years 119 = .ok (.invokevirtual 353, 3) := by decide +kernel
theorem dX12_years_122 : decode cX12_years 122 = .ok (.invokevirtual 466, 3) := by decide +kernel
theorem dX12_years_125 : decode cX12_years 125 = .ok (.invokestatic 396, 3) := by decide +kernel
theorem dX12_years_128 : decode cX12_years 128 = .ok (.ifCond .lt 7, 3) := by decide +kernel
theorem dX12_years_131 : decode cX12_years 131 = .ok (.iconst 1, 1) := by decide +kernel
theorem dX12_years_132 : decode cX12_years 132 = .ok (.goto 4, 3) := by decide +kernel
theorem dX12_years_135 : decode cX12_years 135 = .ok (.iconst 0, 1) := by decide +kernel
theorem dX12_years_136 : decode cX12_years 136 = .ok (.iadd, 1) := by decide +kernel
theorem dX12_years_137 : decode cX12_years 137 = .ok (.istore 5, 2) := by decide +kernel
theorem dX12_years_139 : decode cX12_years 139 = .ok (.iload 6, 2) := by decide +kernel
theorem dX12_years_141 : decode cX12_years 141 = .ok (.aload_n 0, 1) := by decide +kernel
theorem dX12_years_142 : decode cX12_years 142 = .ok (.getfield 141, 3) := by decide +kernel
theorem dX12_years_145 : decode cX12_years 145 = .ok (.iload 9, 2) := by decide +kernel
theorem dX12_years_147 : decode cX12_years 147 = .ok (.iaload, 1) := by decide +kernel
theorem dX12_years_148 : decode cX12_years 148 = .ok (.invokestatic 371, 3) := by decide +kernel
theorem dX12_years_151 : decode cX12_years 151 = .ok (.iadd, 1) := by decide +kernel
theorem dX12_years_152 : decode cX12_years 152 = .ok (.istore 6, 2) := by decide +kernel
theorem dX12_years_154 : decode cX12_years 154 = .ok (.iinc 7 1, 3) := by decide +kernel
theorem dX12_years_157 : decode cX12_years 157 = .ok (.goto (-95), 3) := by decide +kernel
theorem dX12_years_160 : decode cX12_years 160 = .ok (.iload_n 3, 1) := by decide +kernel
theorem dX12_years_161 : decode cX12_years 161 = .ok (.ifCond .ne 8, 3) := by decide +kernel
theorem dX12_years_164 : decode cX12_years 164 = .ok (.iload 4, 2) := by decide +kernel
theorem dX12_years_166 : decode cX12_years 166 = .ok (.goto 15, 3) := by decide +kernel
theorem dX12_years_169 : decode cX12_years 169 = .ok (.iload_n 3, 1) := by decide +kernel
theorem dX12_years_170 : decode cX12_years 170 = .ok (.iconst 1, 1) := by decide +kernel
theorem dX12_years_171 : decode cX12_years 171 = .ok (.if_icmp .ne 8, 3) := by decide +kernel
theorem dX12_years_174 : decode cX12_years 174 = .ok (.iload 5, 2) := by decide +kernel
theorem dX12_years_176 : decode cX12_years 176 = .ok (.goto 5, 3) := by decide +kernel
theorem dX12_years_179 : decode cX12_years 179 = .ok (.iload 6, 2) := by decide +kernel
theorem dX12_years_181 : decode cX12_years 181 = .ok (.ireturn, 1) := by decide +kernel
set_option maxRecDepth 20000 in
theorem gX12_mark_X12_within : GoodIn wsX12_mark (va_wsS RX12 241 yX12_within wsX12_within) := goodIn_r _ [4, 5, 6, 7] rfl (by decide +kernel)
set_option maxRecDepth 20000 in
theorem gX12_mark_X12_copies : GoodIn wsX12_mark (wsV RX12 349 RX12 yX12_copies wsX12_copies) := goodIn_r _ [8, 9, 10, 6, 11, 12, 13, 14, 15, 16, 17, 18, 19, 20, 21, 22, 23, 24, 25, 26, 27, 28, 29, 30, 31, 32, 33, 34, 35, 36, 37, 38, 39, 40, 41, 42, 43, 44, 45, 46, 47, 48, 49, 50, 51] rfl (by decide +kernel)
theorem dX12_mark_0 : decode cX12_mark 0 = .ok (.aload_n 0, 1) := by decide +kernel
theorem dX12_mark_1 : decode cX12_mark 1 = .ok (.iconst 0, 1) := by decide +kernel
theorem dX12_mark_2 : decode cX12_mark 2 = .ok (.putfield 1, 3) := by decide +kernel
theorem dX12_mark_5 : decode cX12_mark 5 = .ok (.iload_n 1, 1) := by decide +kernel
theorem dX12_mark_6 : decode cX12_mark 6 = .ok (.iconst 0, 1) := by decide +kernel
theorem dX12_mark_7 : decode cX12_mark 7 = .ok (.iconst 3, 1) := by decide +kernel
theorem dX12_mark_8 : decode cX12_mark 8 = .ok (.invokestatic 241, 3) := by decide +kernel
theorem dX12_mark_11 : decode cX12_mark 11 = .ok (.ifCond .eq 16, 3) := by decide +kernel
theorem dX12_mark_14 : decode cX12_mark 14 = .ok (.iload_n 2, 1) := by decide +kernel
theorem dX12_mark_15 : decode cX12_mark 15 = .ok (.ifCond .eq 14, 3) := by decide +kernel
theorem dX12_mark_18 : decode cX12_mark 18 = .ok (.aload_n 0, 1) := by decide +kernel
theorem dX12_mark_19 : decode cX12_mark 19 = .ok (.getfield 134, 3) := by decide +kernel
theorem dX12_mark_22 : decode cX12_mark 22 = .ok (.iload_n 1, 1) := by decide +kernel
theorem dX12_mark_23 : decode cX12_mark 23 = .ok (.baload, 1) := by decide +kernel
theorem dX12_mark_24 : decode cX12_mark 24 = .ok (.ifCond .ne 5, 3) := by decide +kernel
theorem dX12_mark_27 : decode cX12_mark 27 = .ok (.iconst 0, 1) := by decide +kernel
theorem dX12_mark_28 : decode cX12_mark 28 = .ok (.ireturn, 1) := by decide +kernel
theorem dX12_mark_29 : decode cX12_mark 29 = .ok (.aload_n 0, 1) := by decide +kernel
theorem dX12_mark_30 : decode cX12_mark 30 = .ok (.getfield 134, 3) := by decide +kernel
theorem dX12_mark_33 : decode cX12_mark 33 = .ok (.iload_n 1, 1) := by decide +kernel
theorem dX12_mark_34 : decode cX12_mark 34 = .ok (.iconst 1, 1) := by decide +kernel
theorem dX12_mark_35 : decode cX12_mark 35 = .ok (.bastore, 1) := by decide +kernel
theorem dX12_mark_36 : decode cX12_mark 36 = .ok (.aload_n 0, 1) := by decide +kernel
theorem dX12_mark_37 : decode cX12_mark 37 = .ok (.iload_n 2, 1) := by decide +kernel
theorem dX12_mark_38 : decode cX12_mark 38 = .ok (.ifCond .eq 12, 3) := by decide +kernel
theorem dX12_mark_41 : decode cX12_mark 41 = .ok (.bipush 30, 2) := by decide +kernel
theorem dX12_mark_43 : decode cX12_mark 43 = .ok (.iconst 1, 1) := by decide +kernel
theorem dX12_mark_44 : decode cX12_mark 44 = .ok (.iload_n 1, 1) := by decide +kernel
theorem dX12_mark_45 : decode cX12_mark 45 = .ok (.iadd, 1) := by decide +kernel
theorem dX12_mark_46 : decode cX12_mark 46 = .ok (.imul, 1) := by decide +kernel
theorem dX12_mark_47 : decode cX12_mark 47 = .ok (.goto 4, 3) := by decide +kernel
theorem dX12_mark_50 : decode cX12_mark 50 = .ok (.iconst 0, 1) := by decide +kernel
theorem dX12_mark_51 : decode cX12_mark 51 = .ok (.iload_n 2, 1) := by decide +kernel
theorem dX12_mark_52 : decode cX12_mark 52 = .ok (.ifCond .eq 7, 3) := by decide +kernel
theorem dX12_mark_55 : decode cX12_mark 55 = .ok (.iconst 0, 1) := by decide +kernel
theorem dX12_mark_56 : decode cX12_mark 56 = .ok (.goto 9, 3) := by decide +kernel
theorem dX12_mark_59 : decode cX12_mark 59 = .ok (.bipush 30, 2) := by decide +kernel
theorem dX12_mark_61 : decode cX12_mark 61 = .ok (.iconst 1, 1) := by decide +kernel
theorem dX12_mark_62 : decode cX12_mark 62 = .ok (.iload_n 1, 1) := by decide +kernel
theorem dX12_mark_63 : decode cX12_mark 63 = .ok (.iadd, 1) := by decide +kernel
theorem dX12_mark_64 : decode cX12_mark 64 = .ok (.imul, 1) := by decide +kernel
theorem dX12_mark_65 : decode cX12_mark 65 = .ok (.bipush 30, 2) := by decide +kernel
theorem dX12_mark_67 : decode cX12_mark 67 = .ok (.invokevirtual 349, 3) := by decide +kernel
theorem dX12_mark_70 : decode cX12_mark 70 = .ok (.aload_n 0, 1) := by decide +kernel
theorem dX12_mark_71 : decode cX12_mark 71 = .ok (.iload_n 2, 1) := by decide +kernel
theorem dX12_mark_72 : decode cX12_mark 72 = .ok (.ifCond .eq 7, 3) := by decide +kernel
theorem dX12_mark_75 : decode cX12_mark 75 = .ok (.iconst 0, 1) := by decide +kernel
theorem dX12_mark_76 : decode cX12_mark 76 = .ok (.goto 7, 3) := by decide +kernel
theorem dX12_mark_79 : decode cX12_mark 79 = .ok (.aload_n 0, 1) := by decide +kernel
theorem dX12_mark_80 : decode cX12_mark 80 = .ok (.getfield 346, 3) := by decide +kernel
theorem dX12_mark_83 : decode cX12_mark 83 = .ok (.putfield 346, 3) := by decide +kernel
theorem dX12_mark_86 : decode cX12_mark 86 = .ok (.iconst 1, 1) := by decide +kernel
theorem dX12_mark_87 : decode cX12_mark 87 = .ok (.ireturn, 1) := by decide +kernel
set_option maxRecDepth 20000 in
theorem gX12_count_X12_guests : GoodIn wsX12_count (wsV RX12 328 RX12 yX12_guests wsX12_guests) := goodIn_r _ [6, 7, 8, 9, 10, 11, 19, 20, 21, 22, 23, 24, 25, 26, 27, 28, 29, 30, 31, 32, 33, 34, 35, 36, 37, 38, 39, 40, 41, 42, 43, 44, 45, 46, 47, 48, 49, 50, 51, 52, 53, 54, 55, 56, 57] rfl (by decide +kernel)
set_option maxRecDepth 20000 in
theorem gX12_count_X12_signs : GoodIn wsX12_count (wsV RX12 337 RX12 yX12_signs wsX12_signs) := goodIn_r _ [12, 13, 14, 9, 15, 11, 19, 20, 21, 22, 23, 24, 25, 26, 27, 28, 29, 30, 31, 32, 33, 34, 35, 36, 37, 38, 39, 40, 41, 42, 43, 44, 45, 46, 47, 48, 49, 50, 51, 52, 53, 54, 55, 56, 57] rfl (by decide +kernel)
set_option maxRecDepth 20000 in
theorem gX12_count_X12_bits : GoodIn wsX12_count (va_wsS RX12 371 yX12_bits wsX12_bits) := goodIn_r _ [16, 17, 9, 18] rfl (by decide +kernel)
theorem dX12_count_0 : decode cX12_count 0 = .ok (.aload_n 0, 1) := by decide +kernel
theorem dX12_count_1 : decode cX12_count 1 = .ok (.iconst 0, 1) := by decide +kernel
theorem dX12_count_2 : decode cX12_count 2 = .ok (.putfield 1, 3) := by decide +kernel
theorem dX12_count_5 : decode cX12_count 5 = .ok (.iload_n 1, 1) := by decide +kernel
theorem dX12_count_6 : decode cX12_count 6 = .ok (.tableswitch 98 0 7 #[46, 51, 56, 66, 73, 80, 88, 93], 46) := by decide +kernel
theorem dX12_count_52 : decode cX12_count 52 = .ok (.aload_n 0, 1) := by decide +kernel
theorem dX12_count_53 : decode cX12_count 53 = .ok (.invokevirtual 328, 3) := by decide +kernel
theorem dX12_count_56 : decode cX12_count 56 = .ok (.ireturn, 1) := by decide +kernel
theorem dX12_count_57 : decode cX12_count 57 = .ok (.aload_n 0, 1) := by decide +kernel
theorem dX12_count_58 : decode cX12_count 58 = .ok (.invokevirtual 337, 3) := by decide +kernel
theorem dX12_count_61 : decode cX12_count 61 = .ok (.ireturn, 1) := by decide +kernel
theorem dX12_count_62 : decode cX12_count 62 = .ok (.aload_n 0, 1) := by decide +kernel
theorem dX12_count_63 : decode cX12_count 63 = .ok (.getfield 131, 3) := by decide +kernel
theorem dX12_count_66 : decode cX12_count 66 = .ok (.iconst 0, 1) := by decide +kernel
theorem dX12_count_67 : decode cX12_count 67 = .ok (.iaload, 1) := by decide +kernel
theorem dX12_count_68 : decode cX12_count 68 = .ok (.invokestatic 371, 3) := by decide +kernel
theorem dX12_count_71 : decode cX12_count 71 = .ok (.ireturn, 1) := by decide +kernel
theorem dX12_count_72 : decode cX12_count 72 = .ok (.aload_n 0, 1) := by decide +kernel
theorem dX12_count_73 : decode cX12_count 73 = .ok (.getfield 131, 3) := by decide +kernel
theorem dX12_count_76 : decode cX12_count 76 = .ok (.iconst 1, 1) := by decide +kernel
theorem dX12_count_77 : decode cX12_count 77 = .ok (.iaload, 1) := by decide +kernel
theorem dX12_count_78 : decode cX12_count 78 = .ok (.ireturn, 1) := by decide +kernel
theorem dX12_count_79 : decode cX12_count 79 = .ok (.aload_n 0, 1) := by decide +kernel
theorem dX12_count_80 : decode cX12_count 80 = .ok (.getfield 122, 3) := by decide +kernel
theorem dX12_count_83 : decode cX12_count 83 = .ok (.iconst 0, 1) := by decide +kernel
theorem dX12_count_84 : decode cX12_count 84 = .ok (.iaload, 1) := by decide +kernel
theorem dX12_count_85 : decode cX12_count 85 = .ok (.ireturn, 1) := by decide +kernel
theorem dX12_count_86 : decode cX12_count 86 = .ok (.aload_n 0, 1) := by decide +kernel
theorem dX12_count_87 : decode cX12_count 87 = .ok (.getfield 131, 3) := by decide +kernel
theorem dX12_count_90 : decode cX12_count 90 = .ok (.bipush 12, 2) := by decide +kernel
theorem dX12_count_92 : decode cX12_count 92 = .ok (.iaload, 1) := by decide +kernel
theorem dX12_count_93 : decode cX12_count 93 = .ok (.ireturn, 1) := by decide +kernel
theorem dX12_count_94 : decode cX12_count 94 = .ok (.aload_n 0, 1) := by decide +kernel
theorem dX12_count_95 : decode cX12_count 95 = .ok (.getfield 346, 3) := by decide +kernel
theorem dX12_count_98 : decode cX12_count 98 = .ok (.ireturn, 1) := by decide +kernel
theorem dX12_count_99 : decode cX12_count 99 = .ok (.aload_n 0, 1) := by decide +kernel
theorem dX12_count_100 : decode cX12_count 100 = .ok (.getfield 11, 3) := by decide +kernel
theorem dX12_count_103 : decode cX12_count 103 = .ok (.ireturn, 1) := by decide +kernel
theorem dX12_count_104 : decode cX12_count 104 = .ok (.iconst (-1), 1) := by decide +kernel
theorem dX12_count_105 : decode cX12_count 105 = .ok (.ireturn, 1) := by decide +kernel
section
variable {p : Program} {l : Launch} {e : Env} {s : State} {m : MethodId} {args : Array Value} {below : List Frame} {meth : Method} {c : Code} {D : va_G} {cy : Nat → ClassId} {ad : Nat → Nat} {A : Nat → Prop} {aM aB aO aI aN aT aC aG aR aQ aK aL aX aH aJ aP aU aE0 aE1 aE2 aE3 : Nat → Nat} {gi : Value}
abbrev rm12_beds : Room := { frames := 15, cells := 0, slots := 0, locals := 346 }
theorem hdV12_beds : yX12_beds.cls = RX12 ∧ (yX12_beds.cls ≠ "java/lang/invoke/MethodHandle" ∧ yX12_beds.cls ≠ "java/lang/invoke/VarHandle" ∧ (parseMethodDescriptor yX12_beds.desc).map (fun d => d.parameters.length) = some 1) := by decide +kernel
theorem hin12_beds_12 : ∀ x ∈ u_ws RX12 TX12 39, x ∈ wsX12_beds := fun _ h => List.mem_cons_of_mem _ (List.mem_append_right _ h)
set_option maxRecDepth 100000 in
set_option maxHeartbeats 4000000 in
theorem t12_beds_49 (hC : Cx p s m args meth c cX12_beds 2 wsX12_beds RX12 (some .int)) : ∀ (z0 : Int32) (SM : Ob) (res : Int32 × Ob) (H : Heap) (locs : List Loc) (ls : Array Slot), f12_beds_49 z0 SM = some res → GW D cy ad (w12 cy aM SM) A s H locs → lv_has ls 2 [] → W p l e rm12_beds s m args below meth c H locs 0 0 (MQ below (QI D cy (w12 cy aM (res.2)) A (res.1)) args s 0 0 A) (F0 m 49 ls [.int z0]) := by
  intro z0 SM res H locs ls hf hW hl
  unfold f12_beds_49 at hf
  obtain rfl := Option.some.inj hf
  exact g_iret hC hW dX12_beds_49
set_option maxRecDepth 100000 in
set_option maxHeartbeats 4000000 in
theorem t12_beds_21 (hC : Cx p s m args meth c cX12_beds 2 wsX12_beds RX12 (some .int)) : ∀ (x1 : Int32) (SM : Ob) (res : Int32 × Ob) (H : Heap) (locs : List Loc) (ls : Array Slot), f12_beds_21 x1 SM = some res → GW D cy ad (w12 cy aM SM) A s H locs → lv_has ls 2 [(0, .ref (aM 0)), (1, .int x1)] → W p l e rm12_beds s m args below meth c H locs 0 0 (MQ below (QI D cy (w12 cy aM (res.2)) A (res.1)) args s 0 0 A) (F0 m 21 ls []) := by
  intro x1 SM res H locs ls hf hW hl
  unfold f12_beds_21 at hf
  refine lv_aload_n hC.1 hC.2.1 dX12_beds_21 rfl (lv_at hl 0 rfl) ?_
  refine lv_iconst (v := (-1)) hC.1 hC.2.1 dX12_beds_22 (by decide) ?_
  obtain ⟨SM_1, eSM_1⟩ : ∃ y : Ob, y = oI SM 37 (-1) := ⟨_, rfl⟩
  have hf := lt_nm hf eSM_1
  refine g_put hC hW hin12_beds_12 tyX12 tyX12_ok nmX12 0 rfl rfl 37 (by decide) 2 rfl rfl rfl rfl (Nat.le_of_ble_eq_true rfl) (w' := w12 cy aM SM_1) (by rw [eSM_1]; rfl) dX12_beds_23 (fun H locs hW => ?_)
  refine lv_aload_n hC.1 hC.2.1 dX12_beds_26 rfl (lv_at hl 0 rfl) ?_
  refine lv_iconst (v := 0) hC.1 hC.2.1 dX12_beds_27 (by decide) ?_
  refine lv_iconst (v := 0) hC.1 hC.2.1 dX12_beds_28 (by decide) ?_
  obtain ⟨r_2, hg_3, hf⟩ := bd_of hf
  refine g_callvV hC hW (c12_goesThrough l D cy ad aM DP hg_3) (cwV 2 hC.2.2.2.2.1 gX12_beds_X12_goesThrough rfl rfl rfl hdV12_goesThrough ⟨Nat.le_of_ble_eq_true rfl, Nat.le_of_ble_eq_true rfl⟩) (Sub.all _ _) 0 11 rfl rfl rfl rfl hl.1 rfl (Nat.le_of_ble_eq_true rfl) dX12_beds_29 ⟨Nat.zero_le _, Nat.zero_le _⟩ (fun H locs hW => ?_)
  refine lv_iload_n hC.1 hC.2.1 dX12_beds_32 rfl (lv_at hl 1 rfl) ?_
  refine lv_if_ge (tgt := 43) hC.1 hC.2.1 dX12_beds_33 (by decide) (fun hc_4 => ?_) (fun hc_4 => ?_)
  · have hf := ite_t hf hc_4
    refine lv_aload_n hC.1 hC.2.1 dX12_beds_43 rfl (lv_at hl 0 rfl) ?_
    refine g_get hC hW hin12_beds_12 0 rfl rfl 36 (by decide) 3 rfl rfl dX12_beds_44 ?_
    refine lv_iload_n hC.1 hC.2.1 dX12_beds_47 rfl (lv_at hl 1 rfl) ?_
    obtain ⟨hi_5, hf⟩ := ck_of hf
    refine g_iald hC hW 26 rfl hi_5 dX12_beds_48 ?_
    exact t12_beds_49 hC  _ _ _ _ _ _ hf hW (lv_sub hl [] rfl)
  · have hf := ite_f hf hc_4
    refine lv_aload_n hC.1 hC.2.1 dX12_beds_36 rfl (lv_at hl 0 rfl) ?_
    refine g_get hC hW hin12_beds_12 0 rfl rfl 37 (by decide) 2 rfl rfl dX12_beds_37 ?_
    refine lv_goto (tgt := 49) hC.1 hC.2.1 dX12_beds_40 (by decide) ?_
    exact t12_beds_49 hC  _ _ _ _ _ _ hf hW (lv_sub hl [] rfl)
set_option maxRecDepth 100000 in
set_option maxHeartbeats 4000000 in
theorem t12_beds_0 (hC : Cx p s m args meth c cX12_beds 2 wsX12_beds RX12 (some .int)) : ∀ (x1 : Int32) (SM : Ob) (res : Int32 × Ob) (H : Heap) (locs : List Loc) (ls : Array Slot), f12_beds x1 SM = some res → GW D cy ad (w12 cy aM SM) A s H locs → lv_has ls 2 [(0, .ref (aM 0)), (1, .int x1)] → W p l e rm12_beds s m args below meth c H locs 0 0 (MQ below (QI D cy (w12 cy aM (res.2)) A (res.1)) args s 0 0 A) (F0 m 0 ls []) := by
  intro x1 SM res H locs ls hf hW hl
  unfold f12_beds at hf
  refine lv_aload_n hC.1 hC.2.1 dX12_beds_0 rfl (lv_at hl 0 rfl) ?_
  refine lv_iconst (v := 0) hC.1 hC.2.1 dX12_beds_1 (by decide) ?_
  obtain ⟨SM_1, eSM_1⟩ : ∃ y : Ob, y = oI SM 0 0 := ⟨_, rfl⟩
  have hf := lt_nm hf eSM_1
  refine g_put hC hW hin12_beds_12 tyX12 tyX12_ok nmX12 0 rfl rfl 0 (by decide) 1 rfl rfl rfl rfl (Nat.le_of_ble_eq_true rfl) (w' := w12 cy aM SM_1) (by rw [eSM_1]; rfl) dX12_beds_2 (fun H locs hW => ?_)
  refine lv_iload_n hC.1 hC.2.1 dX12_beds_5 rfl (lv_at hl 1 rfl) ?_
  refine lv_iconst (v := (-1)) hC.1 hC.2.1 dX12_beds_6 (by decide) ?_
  refine lv_icmp_eq (tgt := 21) hC.1 hC.2.1 dX12_beds_7 (by decide) (fun hc_2 => ?_) (fun hc_2 => ?_)
  · have hf := ite_t hf hc_2
    exact t12_beds_21 hC  _ _ _ _ _ _ hf hW (lv_sub hl [0, 1] rfl)
  · have hf := ite_f hf hc_2
    refine lv_aload_n hC.1 hC.2.1 dX12_beds_10 rfl (lv_at hl 0 rfl) ?_
    refine lv_iload_n hC.1 hC.2.1 dX12_beds_11 rfl (lv_at hl 1 rfl) ?_
    obtain ⟨r_3, hg_4, hf⟩ := bd_of hf
    refine g_calliV hC hW (c12_isGuest l D cy ad aM hg_4) (cwV 1 hC.2.2.2.2.1 gX12_beds_X12_isGuest rfl rfl rfl hdV12_isGuest ⟨Nat.le_of_ble_eq_true rfl, Nat.le_of_ble_eq_true rfl⟩) (Sub.all _ _) 0 11 rfl rfl rfl rfl hl.1 rfl (Nat.le_of_ble_eq_true rfl) dX12_beds_12 ⟨Nat.zero_le _, Nat.zero_le _⟩ (fun H locs hW => ?_)
    refine lv_if_ne (tgt := 21) hC.1 hC.2.1 dX12_beds_15 (by decide) (fun hc_5 => ?_) (fun hc_5 => ?_)
    · have hf := ite_f hf hc_5
      exact t12_beds_21 hC  _ _ _ _ _ _ hf hW (lv_sub hl [0, 1] rfl)
    · have hf := ite_t hf hc_5
      refine lv_bipush (v := (-2)) hC.1 hC.2.1 dX12_beds_18 (by decide) ?_
      obtain rfl := Option.some.inj hf
      exact g_iret hC hW dX12_beds_20
set_option maxRecDepth 100000 in
set_option maxHeartbeats 4000000 in
theorem c12_beds (l : Launch) (D : va_G) (cy : Nat → ClassId) (ad : Nat → Nat) (aM : Nat → Nat) {x1 : Int32} {SM : Ob} {res : Int32 × Ob} (h : f12_beds x1 SM = some res) : GCi l yX12_beds wsX12_beds rm12_beds [.ref (aM 0), .int x1] D cy ad (w12 cy aM SM) (w12 cy aM (res.2)) (res.1) := fun sz => GC.start (own := RX12) (Qc := fun A => QI D cy (w12 cy aM (res.2)) A (res.1)) sz (by decide) rfl rfl (Nat.le_of_ble_eq_true rfl) (fun p e s m below meth c A ls hC hW hl => t12_beds_0 hC _ _ _ _ _ _ h hW (lv_sub hl [0, 1] rfl))
abbrev rm12_isWatched : Room := { frames := 1, cells := 0, slots := 0, locals := 22 }
theorem hdV12_isWatched : yX12_isWatched.cls = RX12 ∧ (yX12_isWatched.cls ≠ "java/lang/invoke/MethodHandle" ∧ yX12_isWatched.cls ≠ "java/lang/invoke/VarHandle" ∧ (parseMethodDescriptor yX12_isWatched.desc).map (fun d => d.parameters.length) = some 3) := by decide +kernel
set_option maxRecDepth 100000 in
set_option maxHeartbeats 4000000 in
theorem t12_isWatched_83 (hC : Cx p s m args meth c cX12_isWatched 9 wsX12_isWatched RX12 (some .boolean)) {k6 : Int32 → Int32 → Int32 → Int32 → Int32 → Ob → Option (Int32)} (hk6 : ∀ (x1 : Int32) (x2 : Int32) (x3 : Int32) (x4 : Int32) (x5 : Int32) (SM : Ob) (res : Int32) (H : Heap) (locs : List Loc) (ls : Array Slot), k6 x1 x2 x3 x4 x5 SM = some res → GW D cy ad (w12 cy aM SM) A s H locs → lv_has ls 9 [(0, .ref (aM 0)), (1, .int x1), (2, .int x2), (3, .int x3), (4, .int x4), (5, .int x5)] → W p l e rm12_isWatched s m args below meth c H locs 0 0 (MQ below (QI D cy (w12 cy aM SM) A res) args s 0 0 A) (F0 m 6 ls [])) {k21 : Int32 → Int32 → Int32 → Int32 → Int32 → Int32 → Int32 → Ob → Option (Int32)} (hk21 : ∀ (x1 : Int32) (x2 : Int32) (x3 : Int32) (x4 : Int32) (x5 : Int32) (x6 : Int32) (x7 : Int32) (SM : Ob) (res : Int32) (H : Heap) (locs : List Loc) (ls : Array Slot), k21 x1 x2 x3 x4 x5 x6 x7 SM = some res → GW D cy ad (w12 cy aM SM) A s H locs → lv_has ls 9 [(0, .ref (aM 0)), (1, .int x1), (2, .int x2), (3, .int x3), (4, .int x4), (5, .int x5), (6, .int x6), (7, .int x7)] → W p l e rm12_isWatched s m args below meth c H locs 0 0 (MQ below (QI D cy (w12 cy aM SM) A res) args s 0 0 A) (F0 m 21 ls [])) : ∀ (x1 : Int32) (x2 : Int32) (x3 : Int32) (x4 : Int32) (x5 : Int32) (x7 : Int32) (z0 : Int32) (z1 : Int32) (SM : Ob) (res : Int32) (H : Heap) (locs : List Loc) (ls : Array Slot), f12_isWatched_83 k6 k21 x1 x2 x3 x4 x5 x7 z0 z1 SM = some res → GW D cy ad (w12 cy aM SM) A s H locs → lv_has ls 9 [(0, .ref (aM 0)), (1, .int x1), (2, .int x2), (3, .int x3), (4, .int x4), (5, .int x5), (7, .int x7)] → W p l e rm12_isWatched s m args below meth c H locs 0 0 (MQ below (QI D cy (w12 cy aM SM) A res) args s 0 0 A) (F0 m 83 ls [.int z1, .int z0]) := by
  intro x1 x2 x3 x4 x5 x7 z0 z1 SM res H locs ls hf hW hl
  unfold f12_isWatched_83 at hf
  refine lv_iadd hC.1 hC.2.1 dX12_isWatched_83 ?_
  refine lv_topi (fun x6_1 ex6_1 => ?_)
  have hf := lt_nm hf ex6_1
  refine lv_istore (lv' := [(6, .int x6_1), (0, .ref (aM 0)), (1, .int x1), (2, .int x2), (3, .int x3), (4, .int x4), (5, .int x5), (7, .int x7)]) hC.1 hC.2.1 dX12_isWatched_84 hl (by decide) rfl (fun ls hl => ?_)
  obtain ⟨x7_2, ex7_2⟩ : ∃ y : Int32, y = x7 + 1 := ⟨_, rfl⟩
  have hf := lt_nm hf ex7_2
  refine lv_iinc (v := x7_2) (lv' := [(7, .int x7_2), (6, .int x6_1), (0, .ref (aM 0)), (1, .int x1), (2, .int x2), (3, .int x3), (4, .int x4), (5, .int x5)]) hC.1 hC.2.1 dX12_isWatched_86 hl (k := 7) rfl (by rw [ex7_2]; rfl) (by decide) rfl (fun ls hl => ?_)
  refine lv_goto (tgt := 21) hC.1 hC.2.1 dX12_isWatched_89 (by decide) ?_
  exact hk21 _ _ _ _ _ _ _ _ _ _ _ _ hf hW (lv_sub hl [2, 3, 4, 5, 6, 7, 1, 0] rfl)
set_option maxRecDepth 100000 in
set_option maxHeartbeats 4000000 in
theorem t12_isWatched_82 (hC : Cx p s m args meth c cX12_isWatched 9 wsX12_isWatched RX12 (some .boolean)) {k6 : Int32 → Int32 → Int32 → Int32 → Int32 → Ob → Option (Int32)} (hk6 : ∀ (x1 : Int32) (x2 : Int32) (x3 : Int32) (x4 : Int32) (x5 : Int32) (SM : Ob) (res : Int32) (H : Heap) (locs : List Loc) (ls : Array Slot), k6 x1 x2 x3 x4 x5 SM = some res → GW D cy ad (w12 cy aM SM) A s H locs → lv_has ls 9 [(0, .ref (aM 0)), (1, .int x1), (2, .int x2), (3, .int x3), (4, .int x4), (5, .int x5)] → W p l e rm12_isWatched s m args below meth c H locs 0 0 (MQ below (QI D cy (w12 cy aM SM) A res) args s 0 0 A) (F0 m 6 ls [])) {k21 : Int32 → Int32 → Int32 → Int32 → Int32 → Int32 → Int32 → Ob → Option (Int32)} (hk21 : ∀ (x1 : Int32) (x2 : Int32) (x3 : Int32) (x4 : Int32) (x5 : Int32) (x6 : Int32) (x7 : Int32) (SM : Ob) (res : Int32) (H : Heap) (locs : List Loc) (ls : Array Slot), k21 x1 x2 x3 x4 x5 x6 x7 SM = some res → GW D cy ad (w12 cy aM SM) A s H locs → lv_has ls 9 [(0, .ref (aM 0)), (1, .int x1), (2, .int x2), (3, .int x3), (4, .int x4), (5, .int x5), (6, .int x6), (7, .int x7)] → W p l e rm12_isWatched s m args below meth c H locs 0 0 (MQ below (QI D cy (w12 cy aM SM) A res) args s 0 0 A) (F0 m 21 ls [])) : ∀ (x1 : Int32) (x2 : Int32) (x3 : Int32) (x4 : Int32) (x5 : Int32) (x7 : Int32) (z0 : Int32) (SM : Ob) (res : Int32) (H : Heap) (locs : List Loc) (ls : Array Slot), f12_isWatched_82 k6 k21 x1 x2 x3 x4 x5 x7 z0 SM = some res → GW D cy ad (w12 cy aM SM) A s H locs → lv_has ls 9 [(0, .ref (aM 0)), (1, .int x1), (2, .int x2), (3, .int x3), (4, .int x4), (5, .int x5), (7, .int x7)] → W p l e rm12_isWatched s m args below meth c H locs 0 0 (MQ below (QI D cy (w12 cy aM SM) A res) args s 0 0 A) (F0 m 82 ls [.int z0]) := by
  intro x1 x2 x3 x4 x5 x7 z0 SM res H locs ls hf hW hl
  unfold f12_isWatched_82 at hf
  refine lv_iconst (v := 0) hC.1 hC.2.1 dX12_isWatched_82 (by decide) ?_
  exact t12_isWatched_83 hC hk6 hk21  _ _ _ _ _ _ _ _ _ _ _ _ _ hf hW (lv_sub hl [0, 1, 2, 3, 4, 5, 6] rfl)
set_option maxRecDepth 100000 in
set_option maxHeartbeats 4000000 in
theorem t12_isWatched_108 (hC : Cx p s m args meth c cX12_isWatched 9 wsX12_isWatched RX12 (some .boolean)) {k6 : Int32 → Int32 → Int32 → Int32 → Int32 → Ob → Option (Int32)} (hk6 : ∀ (x1 : Int32) (x2 : Int32) (x3 : Int32) (x4 : Int32) (x5 : Int32) (SM : Ob) (res : Int32) (H : Heap) (locs : List Loc) (ls : Array Slot), k6 x1 x2 x3 x4 x5 SM = some res → GW D cy ad (w12 cy aM SM) A s H locs → lv_has ls 9 [(0, .ref (aM 0)), (1, .int x1), (2, .int x2), (3, .int x3), (4, .int x4), (5, .int x5)] → W p l e rm12_isWatched s m args below meth c H locs 0 0 (MQ below (QI D cy (w12 cy aM SM) A res) args s 0 0 A) (F0 m 6 ls [])) : ∀ (x1 : Int32) (x2 : Int32) (x3 : Int32) (x5 : Int32) (z0 : Int32) (SM : Ob) (res : Int32) (H : Heap) (locs : List Loc) (ls : Array Slot), f12_isWatched_108 k6 x1 x2 x3 x5 z0 SM = some res → GW D cy ad (w12 cy aM SM) A s H locs → lv_has ls 9 [(0, .ref (aM 0)), (1, .int x1), (2, .int x2), (3, .int x3), (5, .int x5)] → W p l e rm12_isWatched s m args below meth c H locs 0 0 (MQ below (QI D cy (w12 cy aM SM) A res) args s 0 0 A) (F0 m 108 ls [.int z0]) := by
  intro x1 x2 x3 x5 z0 SM res H locs ls hf hW hl
  unfold f12_isWatched_108 at hf
  refine lv_istore (lv' := [(4, .int z0), (0, .ref (aM 0)), (1, .int x1), (2, .int x2), (3, .int x3), (5, .int x5)]) hC.1 hC.2.1 dX12_isWatched_108 hl (by decide) rfl (fun ls hl => ?_)
  obtain ⟨x5_1, ex5_1⟩ : ∃ y : Int32, y = x5 + 1 := ⟨_, rfl⟩
  have hf := lt_nm hf ex5_1
  refine lv_iinc (v := x5_1) (lv' := [(5, .int x5_1), (4, .int z0), (0, .ref (aM 0)), (1, .int x1), (2, .int x2), (3, .int x3)]) hC.1 hC.2.1 dX12_isWatched_110 hl (k := 5) rfl (by rw [ex5_1]; rfl) (by decide) rfl (fun ls hl => ?_)
  refine lv_goto (tgt := 6) hC.1 hC.2.1 dX12_isWatched_113 (by decide) ?_
  exact hk6 _ _ _ _ _ _ _ _ _ _ hf hW (lv_sub hl [2, 3, 4, 5, 1, 0] rfl)
set_option maxRecDepth 100000 in
set_option maxHeartbeats 4000000 in
theorem t12_isWatched_107 (hC : Cx p s m args meth c cX12_isWatched 9 wsX12_isWatched RX12 (some .boolean)) {k6 : Int32 → Int32 → Int32 → Int32 → Int32 → Ob → Option (Int32)} (hk6 : ∀ (x1 : Int32) (x2 : Int32) (x3 : Int32) (x4 : Int32) (x5 : Int32) (SM : Ob) (res : Int32) (H : Heap) (locs : List Loc) (ls : Array Slot), k6 x1 x2 x3 x4 x5 SM = some res → GW D cy ad (w12 cy aM SM) A s H locs → lv_has ls 9 [(0, .ref (aM 0)), (1, .int x1), (2, .int x2), (3, .int x3), (4, .int x4), (5, .int x5)] → W p l e rm12_isWatched s m args below meth c H locs 0 0 (MQ below (QI D cy (w12 cy aM SM) A res) args s 0 0 A) (F0 m 6 ls [])) : ∀ (x1 : Int32) (x2 : Int32) (x3 : Int32) (x5 : Int32) (SM : Ob) (res : Int32) (H : Heap) (locs : List Loc) (ls : Array Slot), f12_isWatched_107 k6 x1 x2 x3 x5 SM = some res → GW D cy ad (w12 cy aM SM) A s H locs → lv_has ls 9 [(0, .ref (aM 0)), (1, .int x1), (2, .int x2), (3, .int x3), (5, .int x5)] → W p l e rm12_isWatched s m args below meth c H locs 0 0 (MQ below (QI D cy (w12 cy aM SM) A res) args s 0 0 A) (F0 m 107 ls []) := by
  intro x1 x2 x3 x5 SM res H locs ls hf hW hl
  unfold f12_isWatched_107 at hf
  refine lv_iconst (v := 0) hC.1 hC.2.1 dX12_isWatched_107 (by decide) ?_
  exact t12_isWatched_108 hC hk6  _ _ _ _ _ _ _ _ _ _ hf hW (lv_sub hl [0, 1, 2, 3, 4] rfl)
set_option maxRecDepth 100000 in
set_option maxHeartbeats 4000000 in
theorem t12_isWatched_21 (hC : Cx p s m args meth c cX12_isWatched 9 wsX12_isWatched RX12 (some .boolean)) {k6 : Int32 → Int32 → Int32 → Int32 → Int32 → Ob → Option (Int32)} (hk6 : ∀ (x1 : Int32) (x2 : Int32) (x3 : Int32) (x4 : Int32) (x5 : Int32) (SM : Ob) (res : Int32) (H : Heap) (locs : List Loc) (ls : Array Slot), k6 x1 x2 x3 x4 x5 SM = some res → GW D cy ad (w12 cy aM SM) A s H locs → lv_has ls 9 [(0, .ref (aM 0)), (1, .int x1), (2, .int x2), (3, .int x3), (4, .int x4), (5, .int x5)] → W p l e rm12_isWatched s m args below meth c H locs 0 0 (MQ below (QI D cy (w12 cy aM SM) A res) args s 0 0 A) (F0 m 6 ls [])) : ∀ n : Nat, ∀ (x1 : Int32) (x2 : Int32) (x3 : Int32) (x4 : Int32) (x5 : Int32) (x6 : Int32) (x7 : Int32) (SM : Ob) (res : Int32) (H : Heap) (locs : List Loc) (ls : Array Slot), f12_isWatched_21 k6 n x1 x2 x3 x4 x5 x6 x7 SM = some res → GW D cy ad (w12 cy aM SM) A s H locs → lv_has ls 9 [(0, .ref (aM 0)), (1, .int x1), (2, .int x2), (3, .int x3), (4, .int x4), (5, .int x5), (6, .int x6), (7, .int x7)] → W p l e rm12_isWatched s m args below meth c H locs 0 0 (MQ below (QI D cy (w12 cy aM SM) A res) args s 0 0 A) (F0 m 21 ls []) := by
  intro n
  induction n with
  | zero =>
    intro _ _ _ _ _ _ _ _ _ _ _ _ hf _ _
    exact nomatch (show (none : Option (Int32)) = some _ from hf)
  | succ n ih =>
    intro x1 x2 x3 x4 x5 x6 x7 SM res H locs ls hf hW hl
    rw [f12_isWatched_21] at hf
    refine lv_iload hC.1 hC.2.1 dX12_isWatched_21 (lv_at hl 7 rfl) ?_
    refine lv_aload_n hC.1 hC.2.1 dX12_isWatched_23 rfl (lv_at hl 0 rfl) ?_
    obtain ⟨r_1, hg_2, hf⟩ := bd_of hf
    refine g_calliV hC hW (c12_guests l D cy ad aM hg_2) (cwV 0 hC.2.2.2.2.1 gX12_isWatched_X12_guests rfl rfl rfl hdV12_guests ⟨Nat.le_of_ble_eq_true rfl, Nat.le_of_ble_eq_true rfl⟩) (Sub.all _ _) 0 11 rfl rfl rfl rfl hl.1 rfl (Nat.le_of_ble_eq_true rfl) dX12_isWatched_24 ⟨Nat.zero_le _, Nat.zero_le _⟩ (fun H locs hW => ?_)
    refine lv_icmp_ge (tgt := 92) hC.1 hC.2.1 dX12_isWatched_27 (by decide) (fun hc_3 => ?_) (fun hc_3 => ?_)
    · have hf := ite_t hf hc_3
      refine lv_iload hC.1 hC.2.1 dX12_isWatched_92 (lv_at hl 4 rfl) ?_
      refine lv_if_eq (tgt := 107) hC.1 hC.2.1 dX12_isWatched_94 (by decide) (fun hc_4 => ?_) (fun hc_4 => ?_)
      · have hf := ite_t hf hc_4
        exact t12_isWatched_107 hC hk6  _ _ _ _ _ _ _ _ _ hf hW (lv_sub hl [0, 1, 2, 3, 5] rfl)
      · have hf := ite_f hf hc_4
        refine lv_iload hC.1 hC.2.1 dX12_isWatched_97 (lv_at hl 6 rfl) ?_
        refine lv_iload_n hC.1 hC.2.1 dX12_isWatched_99 rfl (lv_at hl 2 rfl) ?_
        refine lv_icmp_lt (tgt := 107) hC.1 hC.2.1 dX12_isWatched_100 (by decide) (fun hc_5 => ?_) (fun hc_5 => ?_)
        · have hf := ite_t hf hc_5
          exact t12_isWatched_107 hC hk6  _ _ _ _ _ _ _ _ _ hf hW (lv_sub hl [0, 1, 2, 3, 5] rfl)
        · have hf := ite_f hf hc_5
          refine lv_iconst (v := 1) hC.1 hC.2.1 dX12_isWatched_103 (by decide) ?_
          refine lv_goto (tgt := 108) hC.1 hC.2.1 dX12_isWatched_104 (by decide) ?_
          exact t12_isWatched_108 hC hk6  _ _ _ _ _ _ _ _ _ _ hf hW (lv_sub hl [0, 1, 2, 3, 5] rfl)
    · have hf := ite_f hf hc_3
      refine lv_aload_n hC.1 hC.2.1 dX12_isWatched_30 rfl (lv_at hl 0 rfl) ?_
      refine lv_iload hC.1 hC.2.1 dX12_isWatched_31 (lv_at hl 7 rfl) ?_
      refine lv_iconst (v := 1) hC.1 hC.2.1 dX12_isWatched_33 (by decide) ?_
      obtain ⟨r_6, hg_7, hf⟩ := bd_of hf
      refine g_calliV hC hW (c12_guestOf l D cy ad aM hg_7) (cwV 2 hC.2.2.2.2.1 gX12_isWatched_X12_guestOf rfl rfl rfl hdV12_guestOf ⟨Nat.le_of_ble_eq_true rfl, Nat.le_of_ble_eq_true rfl⟩) (Sub.all _ _) 0 11 rfl rfl rfl rfl hl.1 rfl (Nat.le_of_ble_eq_true rfl) dX12_isWatched_34 ⟨Nat.zero_le _, Nat.zero_le _⟩ (fun H locs hW => ?_)
      refine lv_aload_n hC.1 hC.2.1 dX12_isWatched_37 rfl (lv_at hl 0 rfl) ?_
      refine lv_iload hC.1 hC.2.1 dX12_isWatched_38 (lv_at hl 5 rfl) ?_
      refine lv_iconst (v := 1) hC.1 hC.2.1 dX12_isWatched_40 (by decide) ?_
      obtain ⟨r_8, hg_9, hf⟩ := bd_of hf
      refine g_calliV hC hW (c12_guestOf l D cy ad aM hg_9) (cwV 2 hC.2.2.2.2.1 gX12_isWatched_X12_guestOf rfl rfl rfl hdV12_guestOf ⟨Nat.le_of_ble_eq_true rfl, Nat.le_of_ble_eq_true rfl⟩) (Sub.all _ _) 0 11 rfl rfl rfl rfl hl.1 rfl (Nat.le_of_ble_eq_true rfl) dX12_isWatched_41 ⟨Nat.zero_le _, Nat.zero_le _⟩ (fun H locs hW => ?_)
      refine lv_isub hC.1 hC.2.1 dX12_isWatched_44 ?_
      refine lv_topi (fun x8_10 ex8_10 => ?_)
      have hf := lt_nm hf ex8_10
      refine lv_istore (lv' := [(8, .int x8_10), (0, .ref (aM 0)), (1, .int x1), (2, .int x2), (3, .int x3), (4, .int x4), (5, .int x5), (6, .int x6), (7, .int x7)]) hC.1 hC.2.1 dX12_isWatched_45 hl (by decide) rfl (fun ls hl => ?_)
      refine lv_iload hC.1 hC.2.1 dX12_isWatched_47 (lv_at hl 7 rfl) ?_
      refine lv_iload hC.1 hC.2.1 dX12_isWatched_49 (lv_at hl 8 rfl) ?_
      refine lv_iload hC.1 hC.2.1 dX12_isWatched_51 (lv_at hl 6 rfl) ?_
      refine lv_icmp_eq (tgt := 82) hC.1 hC.2.1 dX12_isWatched_53 (by decide) (fun hc_11 => ?_) (fun hc_11 => ?_)
      · have hf := ite_t hf hc_11
        exact t12_isWatched_82 hC hk6 ih  _ _ _ _ _ _ _ _ _ _ _ _ hf hW (lv_sub hl [1, 2, 3, 4, 5, 6, 8] rfl)
      · have hf := ite_f hf hc_11
        refine lv_iload_n hC.1 hC.2.1 dX12_isWatched_56 rfl (lv_at hl 2 rfl) ?_
        refine lv_iload hC.1 hC.2.1 dX12_isWatched_57 (lv_at hl 8 rfl) ?_
        obtain ⟨r_12, hg_13, hf⟩ := bd_of hf
        refine g_calliS hC hW (c12_isIn l D cy ad  hg_13) (va_cwS 2 hC.2.2.2.2.1 gX12_isWatched_X12_isIn rfl rfl rfl hdS12_isIn ⟨Nat.le_of_ble_eq_true rfl, Nat.le_of_ble_eq_true rfl⟩) (Sub.nil _) rfl hl.1 rfl (Nat.le_of_ble_eq_true rfl) dX12_isWatched_59 ⟨Nat.zero_le _, Nat.zero_le _⟩ (fun H locs hW => ?_)
        refine lv_if_eq (tgt := 82) hC.1 hC.2.1 dX12_isWatched_62 (by decide) (fun hc_14 => ?_) (fun hc_14 => ?_)
        · have hf := ite_t hf hc_14
          exact t12_isWatched_82 hC hk6 ih  _ _ _ _ _ _ _ _ _ _ _ _ hf hW (lv_sub hl [1, 2, 3, 4, 5, 6, 8] rfl)
        · have hf := ite_f hf hc_14
          refine lv_iload hC.1 hC.2.1 dX12_isWatched_65 (lv_at hl 0 rfl) ?_
          refine lv_iload_n hC.1 hC.2.1 dX12_isWatched_67 rfl (lv_at hl 4 rfl) ?_
          refine lv_icmp_gt (tgt := 82) hC.1 hC.2.1 dX12_isWatched_68 (by decide) (fun hc_15 => ?_) (fun hc_15 => ?_)
          · have hf := ite_t hf hc_15
            exact t12_isWatched_82 hC hk6 ih  _ _ _ _ _ _ _ _ _ _ _ _ hf hW (lv_sub hl [1, 2, 3, 4, 5, 6, 8] rfl)
          · have hf := ite_f hf hc_15
            refine lv_iload hC.1 hC.2.1 dX12_isWatched_71 (lv_at hl 0 rfl) ?_
            refine lv_ineg hC.1 hC.2.1 dX12_isWatched_73 ?_
            refine lv_iload_n hC.1 hC.2.1 dX12_isWatched_74 rfl (lv_at hl 4 rfl) ?_
            refine lv_icmp_gt (tgt := 82) hC.1 hC.2.1 dX12_isWatched_75 (by decide) (fun hc_16 => ?_) (fun hc_16 => ?_)
            · have hf := ite_t hf hc_16
              exact t12_isWatched_82 hC hk6 ih  _ _ _ _ _ _ _ _ _ _ _ _ hf hW (lv_sub hl [1, 2, 3, 4, 5, 6, 8] rfl)
            · have hf := ite_f hf hc_16
              refine lv_iconst (v := 1) hC.1 hC.2.1 dX12_isWatched_78 (by decide) ?_
              refine lv_goto (tgt := 83) hC.1 hC.2.1 dX12_isWatched_79 (by decide) ?_
              exact t12_isWatched_83 hC hk6 ih  _ _ _ _ _ _ _ _ _ _ _ _ _ hf hW (lv_sub hl [1, 2, 3, 4, 5, 6, 8] rfl)
set_option maxRecDepth 100000 in
set_option maxHeartbeats 4000000 in
theorem t12_isWatched_6 (hC : Cx p s m args meth c cX12_isWatched 9 wsX12_isWatched RX12 (some .boolean)) : ∀ n : Nat, ∀ (x1 : Int32) (x2 : Int32) (x3 : Int32) (x4 : Int32) (x5 : Int32) (SM : Ob) (res : Int32) (H : Heap) (locs : List Loc) (ls : Array Slot), f12_isWatched_6 n x1 x2 x3 x4 x5 SM = some res → GW D cy ad (w12 cy aM SM) A s H locs → lv_has ls 9 [(0, .ref (aM 0)), (1, .int x1), (2, .int x2), (3, .int x3), (4, .int x4), (5, .int x5)] → W p l e rm12_isWatched s m args below meth c H locs 0 0 (MQ below (QI D cy (w12 cy aM SM) A res) args s 0 0 A) (F0 m 6 ls []) := by
  intro n
  induction n with
  | zero =>
    intro _ _ _ _ _ _ _ _ _ _ hf _ _
    exact nomatch (show (none : Option (Int32)) = some _ from hf)
  | succ n ih =>
    intro x1 x2 x3 x4 x5 SM res H locs ls hf hW hl
    rw [f12_isWatched_6] at hf
    refine lv_iload hC.1 hC.2.1 dX12_isWatched_6 (lv_at hl 5 rfl) ?_
    refine lv_aload_n hC.1 hC.2.1 dX12_isWatched_8 rfl (lv_at hl 0 rfl) ?_
    obtain ⟨r_1, hg_2, hf⟩ := bd_of hf
    refine g_calliV hC hW (c12_guests l D cy ad aM hg_2) (cwV 0 hC.2.2.2.2.1 gX12_isWatched_X12_guests rfl rfl rfl hdV12_guests ⟨Nat.le_of_ble_eq_true rfl, Nat.le_of_ble_eq_true rfl⟩) (Sub.all _ _) 0 11 rfl rfl rfl rfl hl.1 rfl (Nat.le_of_ble_eq_true rfl) dX12_isWatched_9 ⟨Nat.zero_le _, Nat.zero_le _⟩ (fun H locs hW => ?_)
    refine lv_icmp_ge (tgt := 116) hC.1 hC.2.1 dX12_isWatched_12 (by decide) (fun hc_3 => ?_) (fun hc_3 => ?_)
    · have hf := ite_t hf hc_3
      refine lv_iload hC.1 hC.2.1 dX12_isWatched_116 (lv_at hl 4 rfl) ?_
      obtain ⟨hz, hf⟩ := ck_of hf
      obtain rfl := Option.some.inj hf
      exact g_zret hC hW hz dX12_isWatched_118
    · have hf := ite_f hf hc_3
      refine lv_iconst (v := 0) hC.1 hC.2.1 dX12_isWatched_15 (by decide) ?_
      refine lv_istore (lv' := [(6, .int 0), (0, .ref (aM 0)), (1, .int x1), (2, .int x2), (3, .int x3), (4, .int x4), (5, .int x5)]) hC.1 hC.2.1 dX12_isWatched_16 hl (by decide) rfl (fun ls hl => ?_)
      refine lv_iconst (v := 0) hC.1 hC.2.1 dX12_isWatched_18 (by decide) ?_
      refine lv_istore (lv' := [(7, .int 0), (6, .int 0), (0, .ref (aM 0)), (1, .int x1), (2, .int x2), (3, .int x3), (4, .int x4), (5, .int x5)]) hC.1 hC.2.1 dX12_isWatched_19 hl (by decide) rfl (fun ls hl => ?_)
      exact t12_isWatched_21 hC ih _ _ _ _ _ _ _ _ _ _ _ _ _ hf hW (lv_sub hl [2, 3, 4, 5, 6, 7, 1, 0] rfl)
set_option maxRecDepth 100000 in
set_option maxHeartbeats 4000000 in
theorem t12_isWatched_0 (hC : Cx p s m args meth c cX12_isWatched 9 wsX12_isWatched RX12 (some .boolean)) : ∀ (x1 : Int32) (x2 : Int32) (x3 : Int32) (SM : Ob) (res : Int32) (H : Heap) (locs : List Loc) (ls : Array Slot), f12_isWatched x1 x2 x3 SM = some res → GW D cy ad (w12 cy aM SM) A s H locs → lv_has ls 9 [(0, .ref (aM 0)), (1, .int x1), (2, .int x2), (3, .int x3)] → W p l e rm12_isWatched s m args below meth c H locs 0 0 (MQ below (QI D cy (w12 cy aM SM) A res) args s 0 0 A) (F0 m 0 ls []) := by
  intro x1 x2 x3 SM res H locs ls hf hW hl
  unfold f12_isWatched at hf
  refine lv_iconst (v := 1) hC.1 hC.2.1 dX12_isWatched_0 (by decide) ?_
  refine lv_istore (lv' := [(4, .int 1), (0, .ref (aM 0)), (1, .int x1), (2, .int x2), (3, .int x3)]) hC.1 hC.2.1 dX12_isWatched_1 hl (by decide) rfl (fun ls hl => ?_)
  refine lv_iconst (v := 0) hC.1 hC.2.1 dX12_isWatched_3 (by decide) ?_
  refine lv_istore (lv' := [(5, .int 0), (4, .int 1), (0, .ref (aM 0)), (1, .int x1), (2, .int x2), (3, .int x3)]) hC.1 hC.2.1 dX12_isWatched_4 hl (by decide) rfl (fun ls hl => ?_)
  exact t12_isWatched_6 hC _ _ _ _ _ _ _ _ _ _ _ hf hW (lv_sub hl [2, 3, 4, 5, 1, 0] rfl)
set_option maxRecDepth 100000 in
set_option maxHeartbeats 4000000 in
theorem c12_isWatched (l : Launch) (D : va_G) (cy : Nat → ClassId) (ad : Nat → Nat) (aM : Nat → Nat) {x1 : Int32} {x2 : Int32} {x3 : Int32} {SM : Ob} {res : Int32} (h : f12_isWatched x1 x2 x3 SM = some res) : GCi l yX12_isWatched wsX12_isWatched rm12_isWatched [.ref (aM 0), .int x1, .int x2, .int x3] D cy ad (w12 cy aM SM) (w12 cy aM SM) res := fun sz => GC.start (own := RX12) (Qc := fun A => QI D cy (w12 cy aM SM) A res) sz (by decide) rfl rfl (Nat.le_of_ble_eq_true rfl) (fun p e s m below meth c A ls hC hW hl => t12_isWatched_0 hC _ _ _ _ _ _ _ _ h hW (lv_sub hl [0, 1, 2, 3] rfl))
abbrev rm12_watch : Room := { frames := 2, cells := 0, slots := 0, locals := 50 }
theorem hdV12_watch : yX12_watch.cls = RX12 ∧ (yX12_watch.cls ≠ "java/lang/invoke/MethodHandle" ∧ yX12_watch.cls ≠ "java/lang/invoke/VarHandle" ∧ (parseMethodDescriptor yX12_watch.desc).map (fun d => d.parameters.length) = some 2) := by decide +kernel
theorem hin12_watch_12 : ∀ x ∈ u_ws RX12 TX12 39, x ∈ wsX12_watch := fun _ h => List.mem_cons_of_mem _ (List.mem_append_right _ h)
set_option maxRecDepth 100000 in
set_option maxHeartbeats 4000000 in
theorem t12_watch_73 (hC : Cx p s m args meth c cX12_watch 5 wsX12_watch RX12 (some .int)) {k10 : Int32 → Int32 → Int32 → Int32 → Ob → Option (Int32 × Ob)} (hk10 : ∀ (x1 : Int32) (x2 : Int32) (x3 : Int32) (x4 : Int32) (SM : Ob) (res : Int32 × Ob) (H : Heap) (locs : List Loc) (ls : Array Slot), k10 x1 x2 x3 x4 SM = some res → GW D cy ad (w12 cy aM SM) A s H locs → lv_has ls 5 [(0, .ref (aM 0)), (1, .int x1), (2, .int x2), (3, .int x3), (4, .int x4)] → W p l e rm12_watch s m args below meth c H locs 0 0 (MQ below (QI D cy (w12 cy aM (res.2)) A (res.1)) args s 0 0 A) (F0 m 10 ls [])) : ∀ (x1 : Int32) (x2 : Int32) (x4 : Int32) (z0 : Int32) (SM : Ob) (res : Int32 × Ob) (H : Heap) (locs : List Loc) (ls : Array Slot), f12_watch_73 k10 x1 x2 x4 z0 SM = some res → GW D cy ad (w12 cy aM SM) A s H locs → lv_has ls 5 [(0, .ref (aM 0)), (1, .int x1), (2, .int x2), (4, .int x4)] → W p l e rm12_watch s m args below meth c H locs 0 0 (MQ below (QI D cy (w12 cy aM (res.2)) A (res.1)) args s 0 0 A) (F0 m 73 ls [.int z0]) := by
  intro x1 x2 x4 z0 SM res H locs ls hf hW hl
  unfold f12_watch_73 at hf
  refine lv_istore_n (lv' := [(3, .int z0), (0, .ref (aM 0)), (1, .int x1), (2, .int x2), (4, .int x4)]) hC.1 hC.2.1 dX12_watch_73 rfl hl (by decide) rfl (fun ls hl => ?_)
  obtain ⟨x4_1, ex4_1⟩ : ∃ y : Int32, y = x4 + 1 := ⟨_, rfl⟩
  have hf := lt_nm hf ex4_1
  refine lv_iinc (v := x4_1) (lv' := [(4, .int x4_1), (3, .int z0), (0, .ref (aM 0)), (1, .int x1), (2, .int x2)]) hC.1 hC.2.1 dX12_watch_74 hl (k := 4) rfl (by rw [ex4_1]; rfl) (by decide) rfl (fun ls hl => ?_)
  refine lv_goto (tgt := 10) hC.1 hC.2.1 dX12_watch_77 (by decide) ?_
  exact hk10 _ _ _ _ _ _ _ _ _ hf hW (lv_sub hl [2, 3, 4, 1, 0] rfl)
set_option maxRecDepth 100000 in
set_option maxHeartbeats 4000000 in
theorem t12_watch_72 (hC : Cx p s m args meth c cX12_watch 5 wsX12_watch RX12 (some .int)) {k10 : Int32 → Int32 → Int32 → Int32 → Ob → Option (Int32 × Ob)} (hk10 : ∀ (x1 : Int32) (x2 : Int32) (x3 : Int32) (x4 : Int32) (SM : Ob) (res : Int32 × Ob) (H : Heap) (locs : List Loc) (ls : Array Slot), k10 x1 x2 x3 x4 SM = some res → GW D cy ad (w12 cy aM SM) A s H locs → lv_has ls 5 [(0, .ref (aM 0)), (1, .int x1), (2, .int x2), (3, .int x3), (4, .int x4)] → W p l e rm12_watch s m args below meth c H locs 0 0 (MQ below (QI D cy (w12 cy aM (res.2)) A (res.1)) args s 0 0 A) (F0 m 10 ls [])) : ∀ (x1 : Int32) (x2 : Int32) (x3 : Int32) (x4 : Int32) (SM : Ob) (res : Int32 × Ob) (H : Heap) (locs : List Loc) (ls : Array Slot), f12_watch_72 k10 x1 x2 x3 x4 SM = some res → GW D cy ad (w12 cy aM SM) A s H locs → lv_has ls 5 [(0, .ref (aM 0)), (1, .int x1), (2, .int x2), (3, .int x3), (4, .int x4)] → W p l e rm12_watch s m args below meth c H locs 0 0 (MQ below (QI D cy (w12 cy aM (res.2)) A (res.1)) args s 0 0 A) (F0 m 72 ls []) := by
  intro x1 x2 x3 x4 SM res H locs ls hf hW hl
  unfold f12_watch_72 at hf
  refine lv_iload_n hC.1 hC.2.1 dX12_watch_72 rfl (lv_at hl 3 rfl) ?_
  exact t12_watch_73 hC hk10  _ _ _ _ _ _ _ _ _ hf hW (lv_sub hl [0, 1, 2, 4] rfl)
set_option maxRecDepth 100000 in
set_option maxHeartbeats 4000000 in
theorem t12_watch_56 (hC : Cx p s m args meth c cX12_watch 5 wsX12_watch RX12 (some .int)) {k10 : Int32 → Int32 → Int32 → Int32 → Ob → Option (Int32 × Ob)} (hk10 : ∀ (x1 : Int32) (x2 : Int32) (x3 : Int32) (x4 : Int32) (SM : Ob) (res : Int32 × Ob) (H : Heap) (locs : List Loc) (ls : Array Slot), k10 x1 x2 x3 x4 SM = some res → GW D cy ad (w12 cy aM SM) A s H locs → lv_has ls 5 [(0, .ref (aM 0)), (1, .int x1), (2, .int x2), (3, .int x3), (4, .int x4)] → W p l e rm12_watch s m args below meth c H locs 0 0 (MQ below (QI D cy (w12 cy aM (res.2)) A (res.1)) args s 0 0 A) (F0 m 10 ls [])) : ∀ (x1 : Int32) (x2 : Int32) (x3 : Int32) (x4 : Int32) (SM : Ob) (res : Int32 × Ob) (H : Heap) (locs : List Loc) (ls : Array Slot), f12_watch_56 k10 x1 x2 x3 x4 SM = some res → GW D cy ad (w12 cy aM SM) A s H locs → lv_has ls 5 [(0, .ref (aM 0)), (1, .int x1), (2, .int x2), (3, .int x3), (4, .int x4)] → W p l e rm12_watch s m args below meth c H locs 0 0 (MQ below (QI D cy (w12 cy aM (res.2)) A (res.1)) args s 0 0 A) (F0 m 56 ls []) := by
  intro x1 x2 x3 x4 SM res H locs ls hf hW hl
  unfold f12_watch_56 at hf
  refine lv_aload_n hC.1 hC.2.1 dX12_watch_56 rfl (lv_at hl 0 rfl) ?_
  refine lv_iload hC.1 hC.2.1 dX12_watch_57 (lv_at hl 4 rfl) ?_
  refine lv_iload_n hC.1 hC.2.1 dX12_watch_59 rfl (lv_at hl 1 rfl) ?_
  refine lv_iload_n hC.1 hC.2.1 dX12_watch_60 rfl (lv_at hl 2 rfl) ?_
  obtain ⟨r_1, hg_2, hf⟩ := bd_of hf
  refine g_calliV hC hW (c12_isWatched l D cy ad aM hg_2) (cwV 3 hC.2.2.2.2.1 gX12_watch_X12_isWatched rfl rfl rfl hdV12_isWatched ⟨Nat.le_of_ble_eq_true rfl, Nat.le_of_ble_eq_true rfl⟩) (Sub.all _ _) 0 11 rfl rfl rfl rfl hl.1 rfl (Nat.le_of_ble_eq_true rfl) dX12_watch_61 ⟨Nat.zero_le _, Nat.zero_le _⟩ (fun H locs hW => ?_)
  refine lv_if_eq (tgt := 72) hC.1 hC.2.1 dX12_watch_64 (by decide) (fun hc_3 => ?_) (fun hc_3 => ?_)
  · have hf := ite_t hf hc_3
    exact t12_watch_72 hC hk10  _ _ _ _ _ _ _ _ _ hf hW (lv_sub hl [0, 1, 2, 3, 4] rfl)
  · have hf := ite_f hf hc_3
    refine lv_iload hC.1 hC.2.1 dX12_watch_67 (lv_at hl 4 rfl) ?_
    refine lv_goto (tgt := 73) hC.1 hC.2.1 dX12_watch_69 (by decide) ?_
    exact t12_watch_73 hC hk10  _ _ _ _ _ _ _ _ _ hf hW (lv_sub hl [0, 1, 2, 4] rfl)
set_option maxRecDepth 100000 in
set_option maxHeartbeats 4000000 in
theorem t12_watch_80 (hC : Cx p s m args meth c cX12_watch 5 wsX12_watch RX12 (some .int)) : ∀ (x3 : Int32) (SM : Ob) (res : Int32 × Ob) (H : Heap) (locs : List Loc) (ls : Array Slot), f12_watch_80 x3 SM = some res → GW D cy ad (w12 cy aM SM) A s H locs → lv_has ls 5 [(3, .int x3)] → W p l e rm12_watch s m args below meth c H locs 0 0 (MQ below (QI D cy (w12 cy aM (res.2)) A (res.1)) args s 0 0 A) (F0 m 80 ls []) := by
  intro x3 SM res H locs ls hf hW hl
  unfold f12_watch_80 at hf
  refine lv_iload_n hC.1 hC.2.1 dX12_watch_80 rfl (lv_at hl 0 rfl) ?_
  obtain rfl := Option.some.inj hf
  exact g_iret hC hW dX12_watch_81
set_option maxRecDepth 100000 in
set_option maxHeartbeats 4000000 in
theorem t12_watch_10 (hC : Cx p s m args meth c cX12_watch 5 wsX12_watch RX12 (some .int)) : ∀ n : Nat, ∀ (x1 : Int32) (x2 : Int32) (x3 : Int32) (x4 : Int32) (SM : Ob) (res : Int32 × Ob) (H : Heap) (locs : List Loc) (ls : Array Slot), f12_watch_10 n x1 x2 x3 x4 SM = some res → GW D cy ad (w12 cy aM SM) A s H locs → lv_has ls 5 [(0, .ref (aM 0)), (1, .int x1), (2, .int x2), (3, .int x3), (4, .int x4)] → W p l e rm12_watch s m args below meth c H locs 0 0 (MQ below (QI D cy (w12 cy aM (res.2)) A (res.1)) args s 0 0 A) (F0 m 10 ls []) := by
  intro n
  induction n with
  | zero =>
    intro _ _ _ _ _ _ _ _ _ hf _ _
    exact nomatch (show (none : Option (Int32 × Ob)) = some _ from hf)
  | succ n ih =>
    intro x1 x2 x3 x4 SM res H locs ls hf hW hl
    rw [f12_watch_10] at hf
    refine lv_iload hC.1 hC.2.1 dX12_watch_10 (lv_at hl 4 rfl) ?_
    refine lv_iconst (v := 1) hC.1 hC.2.1 dX12_watch_12 (by decide) ?_
    refine lv_aload_n hC.1 hC.2.1 dX12_watch_13 rfl (lv_at hl 0 rfl) ?_
    obtain ⟨r_1, hg_2, hf⟩ := bd_of hf
    refine g_calliV hC hW (c12_guests l D cy ad aM hg_2) (cwV 0 hC.2.2.2.2.1 gX12_watch_X12_guests rfl rfl rfl hdV12_guests ⟨Nat.le_of_ble_eq_true rfl, Nat.le_of_ble_eq_true rfl⟩) (Sub.all _ _) 0 11 rfl rfl rfl rfl hl.1 rfl (Nat.le_of_ble_eq_true rfl) dX12_watch_14 ⟨Nat.zero_le _, Nat.zero_le _⟩ (fun H locs hW => ?_)
    refine lv_ishl hC.1 hC.2.1 dX12_watch_17 ?_
    refine lv_icmp_ge (tgt := 80) hC.1 hC.2.1 dX12_watch_18 (by decide) (fun hc_3 => ?_) (fun hc_3 => ?_)
    · have hf := ite_t hf hc_3
      exact t12_watch_80 hC  _ _ _ _ _ _ hf hW (lv_sub hl [3] rfl)
    · have hf := ite_f hf hc_3
      refine lv_iload_n hC.1 hC.2.1 dX12_watch_21 rfl (lv_at hl 1 rfl) ?_
      refine lv_iconst (v := 1) hC.1 hC.2.1 dX12_watch_22 (by decide) ?_
      refine lv_iconst (v := 2) hC.1 hC.2.1 dX12_watch_23 (by decide) ?_
      obtain ⟨r_4, hg_5, hf⟩ := bd_of hf
      refine g_calliS hC hW (c12_within l D cy ad  hg_5) (va_cwS 3 hC.2.2.2.2.1 gX12_watch_X12_within rfl rfl rfl hdS12_within ⟨Nat.le_of_ble_eq_true rfl, Nat.le_of_ble_eq_true rfl⟩) (Sub.nil _) rfl hl.1 rfl (Nat.le_of_ble_eq_true rfl) dX12_watch_24 ⟨Nat.zero_le _, Nat.zero_le _⟩ (fun H locs hW => ?_)
      refine lv_if_eq (tgt := 80) hC.1 hC.2.1 dX12_watch_27 (by decide) (fun hc_6 => ?_) (fun hc_6 => ?_)
      · have hf := ite_t hf hc_6
        exact t12_watch_80 hC  _ _ _ _ _ _ hf hW (lv_sub hl [3] rfl)
      · have hf := ite_f hf hc_6
        refine lv_iload_n hC.1 hC.2.1 dX12_watch_30 rfl (lv_at hl 2 rfl) ?_
        refine lv_iconst (v := 0) hC.1 hC.2.1 dX12_watch_31 (by decide) ?_
        refine lv_bipush (v := 11) hC.1 hC.2.1 dX12_watch_32 (by decide) ?_
        obtain ⟨r_7, hg_8, hf⟩ := bd_of hf
        refine g_calliS hC hW (c12_within l D cy ad  hg_8) (va_cwS 3 hC.2.2.2.2.1 gX12_watch_X12_within rfl rfl rfl hdS12_within ⟨Nat.le_of_ble_eq_true rfl, Nat.le_of_ble_eq_true rfl⟩) (Sub.nil _) rfl hl.1 rfl (Nat.le_of_ble_eq_true rfl) dX12_watch_34 ⟨Nat.zero_le _, Nat.zero_le _⟩ (fun H locs hW => ?_)
        refine lv_if_eq (tgt := 80) hC.1 hC.2.1 dX12_watch_37 (by decide) (fun hc_9 => ?_) (fun hc_9 => ?_)
        · have hf := ite_t hf hc_9
          exact t12_watch_80 hC  _ _ _ _ _ _ hf hW (lv_sub hl [3] rfl)
        · have hf := ite_f hf hc_9
          refine lv_iload_n hC.1 hC.2.1 dX12_watch_40 rfl (lv_at hl 3 rfl) ?_
          refine lv_if_lt (tgt := 56) hC.1 hC.2.1 dX12_watch_41 (by decide) (fun hc_10 => ?_) (fun hc_10 => ?_)
          · have hf := ite_t hf hc_10
            exact t12_watch_56 hC ih  _ _ _ _ _ _ _ _ _ hf hW (lv_sub hl [0, 1, 2, 3, 4] rfl)
          · have hf := ite_f hf hc_10
            refine lv_iload hC.1 hC.2.1 dX12_watch_44 (lv_at hl 4 rfl) ?_
            obtain ⟨r_11, hg_12, hf⟩ := bd_of hf
            refine g_calliS hC hW (c12_bits l D cy ad  hg_12) (va_cwS 1 hC.2.2.2.2.1 gX12_watch_X12_bits rfl rfl rfl hdS12_bits ⟨Nat.le_of_ble_eq_true rfl, Nat.le_of_ble_eq_true rfl⟩) (Sub.nil _) rfl hl.1 rfl (Nat.le_of_ble_eq_true rfl) dX12_watch_46 ⟨Nat.zero_le _, Nat.zero_le _⟩ (fun H locs hW => ?_)
            refine lv_iload_n hC.1 hC.2.1 dX12_watch_49 rfl (lv_at hl 3 rfl) ?_
            obtain ⟨r_13, hg_14, hf⟩ := bd_of hf
            refine g_calliS hC hW (c12_bits l D cy ad  hg_14) (va_cwS 1 hC.2.2.2.2.1 gX12_watch_X12_bits rfl rfl rfl hdS12_bits ⟨Nat.le_of_ble_eq_true rfl, Nat.le_of_ble_eq_true rfl⟩) (Sub.nil _) rfl hl.1 rfl (Nat.le_of_ble_eq_true rfl) dX12_watch_50 ⟨Nat.zero_le _, Nat.zero_le _⟩ (fun H locs hW => ?_)
            refine lv_icmp_ge (tgt := 72) hC.1 hC.2.1 dX12_watch_53 (by decide) (fun hc_15 => ?_) (fun hc_15 => ?_)
            · have hf := ite_t hf hc_15
              exact t12_watch_72 hC ih  _ _ _ _ _ _ _ _ _ hf hW (lv_sub hl [0, 1, 2, 3, 4] rfl)
            · have hf := ite_f hf hc_15
              exact t12_watch_56 hC ih  _ _ _ _ _ _ _ _ _ hf hW (lv_sub hl [0, 1, 2, 3, 4] rfl)
set_option maxRecDepth 100000 in
set_option maxHeartbeats 4000000 in
theorem t12_watch_0 (hC : Cx p s m args meth c cX12_watch 5 wsX12_watch RX12 (some .int)) : ∀ (x1 : Int32) (x2 : Int32) (SM : Ob) (res : Int32 × Ob) (H : Heap) (locs : List Loc) (ls : Array Slot), f12_watch x1 x2 SM = some res → GW D cy ad (w12 cy aM SM) A s H locs → lv_has ls 5 [(0, .ref (aM 0)), (1, .int x1), (2, .int x2)] → W p l e rm12_watch s m args below meth c H locs 0 0 (MQ below (QI D cy (w12 cy aM (res.2)) A (res.1)) args s 0 0 A) (F0 m 0 ls []) := by
  intro x1 x2 SM res H locs ls hf hW hl
  unfold f12_watch at hf
  refine lv_aload_n hC.1 hC.2.1 dX12_watch_0 rfl (lv_at hl 0 rfl) ?_
  refine lv_iconst (v := 0) hC.1 hC.2.1 dX12_watch_1 (by decide) ?_
  obtain ⟨SM_1, eSM_1⟩ : ∃ y : Ob, y = oI SM 0 0 := ⟨_, rfl⟩
  have hf := lt_nm hf eSM_1
  refine g_put hC hW hin12_watch_12 tyX12 tyX12_ok nmX12 0 rfl rfl 0 (by decide) 1 rfl rfl rfl rfl (Nat.le_of_ble_eq_true rfl) (w' := w12 cy aM SM_1) (by rw [eSM_1]; rfl) dX12_watch_2 (fun H locs hW => ?_)
  refine lv_iconst (v := (-1)) hC.1 hC.2.1 dX12_watch_5 (by decide) ?_
  refine lv_istore_n (lv' := [(3, .int (-1)), (0, .ref (aM 0)), (1, .int x1), (2, .int x2)]) hC.1 hC.2.1 dX12_watch_6 rfl hl (by decide) rfl (fun ls hl => ?_)
  refine lv_iconst (v := 0) hC.1 hC.2.1 dX12_watch_7 (by decide) ?_
  refine lv_istore (lv' := [(4, .int 0), (3, .int (-1)), (0, .ref (aM 0)), (1, .int x1), (2, .int x2)]) hC.1 hC.2.1 dX12_watch_8 hl (by decide) rfl (fun ls hl => ?_)
  exact t12_watch_10 hC _ _ _ _ _ _ _ _ _ _ hf hW (lv_sub hl [2, 3, 4, 1, 0] rfl)
set_option maxRecDepth 100000 in
set_option maxHeartbeats 4000000 in
theorem c12_watch (l : Launch) (D : va_G) (cy : Nat → ClassId) (ad : Nat → Nat) (aM : Nat → Nat) {x1 : Int32} {x2 : Int32} {SM : Ob} {res : Int32 × Ob} (h : f12_watch x1 x2 SM = some res) : GCi l yX12_watch wsX12_watch rm12_watch [.ref (aM 0), .int x1, .int x2] D cy ad (w12 cy aM SM) (w12 cy aM (res.2)) (res.1) := fun sz => GC.start (own := RX12) (Qc := fun A => QI D cy (w12 cy aM (res.2)) A (res.1)) sz (by decide) rfl rfl (Nat.le_of_ble_eq_true rfl) (fun p e s m below meth c A ls hC hW hl => t12_watch_0 hC _ _ _ _ _ _ _ h hW (lv_sub hl [0, 1, 2] rfl))
abbrev rm12_draw : Room := { frames := 0, cells := 0, slots := 0, locals := 0 }
theorem hdV12_draw : yX12_draw.cls = RX12 ∧ (yX12_draw.cls ≠ "java/lang/invoke/MethodHandle" ∧ yX12_draw.cls ≠ "java/lang/invoke/VarHandle" ∧ (parseMethodDescriptor yX12_draw.desc).map (fun d => d.parameters.length) = some 1) := by decide +kernel
theorem hin12_draw_12 : ∀ x ∈ u_ws RX12 TX12 39, x ∈ wsX12_draw := fun _ h => List.mem_cons_of_mem _ (List.mem_append_right _ h)
set_option maxRecDepth 100000 in
set_option maxHeartbeats 4000000 in
theorem t12_draw_0 (hC : Cx p s m args meth c cX12_draw 2 wsX12_draw RX12 (some .int)) : ∀ (x1 : Int32) (SM : Ob) (res : Int32 × Ob) (H : Heap) (locs : List Loc) (ls : Array Slot), f12_draw x1 SM = some res → GW D cy ad (w12 cy aM SM) A s H locs → lv_has ls 2 [(0, .ref (aM 0)), (1, .int x1)] → W p l e rm12_draw s m args below meth c H locs 0 0 (MQ below (QI D cy (w12 cy aM (res.2)) A (res.1)) args s 0 0 A) (F0 m 0 ls []) := by
  intro x1 SM res H locs ls hf hW hl
  unfold f12_draw at hf
  refine lv_aload_n hC.1 hC.2.1 dX12_draw_0 rfl (lv_at hl 0 rfl) ?_
  refine lv_aload_n hC.1 hC.2.1 dX12_draw_1 rfl (lv_at hl 0 rfl) ?_
  refine g_get hC hW hin12_draw_12 0 rfl rfl 38 (by decide) 1 rfl rfl dX12_draw_2 ?_
  refine lv_ldc2 (v := 1103515245) hC.1 hC.2.1 hC.2.2.2.1 (hC.2.2.2.2.1 _ (List.mem_of_getElem? (i := 2) rfl)) dX12_draw_5 ?_
  refine lv_lmul hC.1 hC.2.1 dX12_draw_8 ?_
  refine lv_ldc2 (v := 12345) hC.1 hC.2.1 hC.2.2.2.1 (hC.2.2.2.2.1 _ (List.mem_of_getElem? (i := 3) rfl)) dX12_draw_9 ?_
  refine lv_ladd hC.1 hC.2.1 dX12_draw_12 ?_
  refine lv_ldc2 (v := 2147483648) hC.1 hC.2.1 hC.2.2.2.1 (hC.2.2.2.2.1 _ (List.mem_of_getElem? (i := 4) rfl)) dX12_draw_13 ?_
  obtain ⟨hz_1, hf⟩ := ck_of hf
  refine lv_lrem hC.1 hC.2.1 dX12_draw_16 (nzl_of hz_1) ?_
  obtain ⟨SM_2, eSM_2⟩ : ∃ y : Ob, y = oL SM 38 ((((SM.2.1 38) * 1103515245) + 12345) - (((SM.2.1 38) * 1103515245) + 12345) / 2147483648 * 2147483648) := ⟨_, rfl⟩
  have hf := lt_nm hf eSM_2
  refine g_put hC hW hin12_draw_12 tyX12 tyX12_ok nmX12 0 rfl rfl 38 (by decide) 1 rfl rfl rfl rfl (Nat.le_of_ble_eq_true rfl) (w' := w12 cy aM SM_2) (by rw [eSM_2]; rfl) dX12_draw_17 (fun H locs hW => ?_)
  refine lv_aload_n hC.1 hC.2.1 dX12_draw_20 rfl (lv_at hl 0 rfl) ?_
  refine g_get hC hW hin12_draw_12 0 rfl rfl 38 (by decide) 1 rfl rfl dX12_draw_21 ?_
  refine lv_ldc2 (v := 65536) hC.1 hC.2.1 hC.2.2.2.1 (hC.2.2.2.2.1 _ (List.mem_of_getElem? (i := 5) rfl)) dX12_draw_24 ?_
  obtain ⟨hz_3, hf⟩ := ck_of hf
  refine lv_ldiv hC.1 hC.2.1 dX12_draw_27 (nzl_of hz_3) ?_
  refine lv_iload_n hC.1 hC.2.1 dX12_draw_28 rfl (lv_at hl 1 rfl) ?_
  refine lv_i2l (v := Int32.toInt64 x1) hC.1 hC.2.1 dX12_draw_29 rfl ?_
  obtain ⟨hz_4, hf⟩ := ck_of hf
  refine lv_lrem hC.1 hC.2.1 dX12_draw_30 (nzl_of hz_4) ?_
  refine lv_l2i (v := Int64.toInt32 (((SM_2.2.1 38) / 65536) - ((SM_2.2.1 38) / 65536) / (Int32.toInt64 x1) * (Int32.toInt64 x1))) hC.1 hC.2.1 dX12_draw_31 rfl ?_
  obtain rfl := Option.some.inj hf
  exact g_iret hC hW dX12_draw_32
set_option maxRecDepth 100000 in
set_option maxHeartbeats 4000000 in
theorem c12_draw (l : Launch) (D : va_G) (cy : Nat → ClassId) (ad : Nat → Nat) (aM : Nat → Nat) {x1 : Int32} {SM : Ob} {res : Int32 × Ob} (h : f12_draw x1 SM = some res) : GCi l yX12_draw wsX12_draw rm12_draw [.ref (aM 0), .int x1] D cy ad (w12 cy aM SM) (w12 cy aM (res.2)) (res.1) := fun sz => GC.start (own := RX12) (Qc := fun A => QI D cy (w12 cy aM (res.2)) A (res.1)) sz (by decide) rfl rfl (Nat.le_of_ble_eq_true rfl) (fun p e s m below meth c A ls hC hW hl => t12_draw_0 hC _ _ _ _ _ _ h hW (lv_sub hl [0, 1] rfl))
abbrev rm12_drawsOne : Room := { frames := 1, cells := 0, slots := 0, locals := 22 }
theorem hdV12_drawsOne : yX12_drawsOne.cls = RX12 ∧ (yX12_drawsOne.cls ≠ "java/lang/invoke/MethodHandle" ∧ yX12_drawsOne.cls ≠ "java/lang/invoke/VarHandle" ∧ (parseMethodDescriptor yX12_drawsOne.desc).map (fun d => d.parameters.length) = some 0) := by decide +kernel
set_option maxRecDepth 100000 in
set_option maxHeartbeats 4000000 in
theorem t12_drawsOne_35 (hC : Cx p s m args meth c cX12_drawsOne 4 wsX12_drawsOne RX12 (some .int)) : ∀ n : Nat, ∀ (x2 : Int32) (x3 : Int32) (SM : Ob) (res : Int32 × Ob) (H : Heap) (locs : List Loc) (ls : Array Slot), f12_drawsOne_35 n x2 x3 SM = some res → GW D cy ad (w12 cy aM SM) A s H locs → lv_has ls 4 [(0, .ref (aM 0)), (2, .int x2), (3, .int x3)] → W p l e rm12_drawsOne s m args below meth c H locs 0 0 (MQ below (QI D cy (w12 cy aM (res.2)) A (res.1)) args s 0 0 A) (F0 m 35 ls []) := by
  intro n
  induction n with
  | zero =>
    intro _ _ _ _ _ _ _ hf _ _
    exact nomatch (show (none : Option (Int32 × Ob)) = some _ from hf)
  | succ n ih =>
    intro x2 x3 SM res H locs ls hf hW hl
    rw [f12_drawsOne_35] at hf
    refine lv_iload_n hC.1 hC.2.1 dX12_drawsOne_35 rfl (lv_at hl 1 rfl) ?_
    refine lv_aload_n hC.1 hC.2.1 dX12_drawsOne_36 rfl (lv_at hl 0 rfl) ?_
    refine lv_iload_n hC.1 hC.2.1 dX12_drawsOne_37 rfl (lv_at hl 2 rfl) ?_
    refine lv_iconst (v := 2) hC.1 hC.2.1 dX12_drawsOne_38 (by decide) ?_
    obtain ⟨r_1, hg_2, hf⟩ := bd_of hf
    refine g_calliV hC hW (c12_guestOf l D cy ad aM hg_2) (cwV 2 hC.2.2.2.2.1 gX12_drawsOne_X12_guestOf rfl rfl rfl hdV12_guestOf ⟨Nat.le_of_ble_eq_true rfl, Nat.le_of_ble_eq_true rfl⟩) (Sub.all _ _) 0 11 rfl rfl rfl rfl hl.1 rfl (Nat.le_of_ble_eq_true rfl) dX12_drawsOne_39 ⟨Nat.zero_le _, Nat.zero_le _⟩ (fun H locs hW => ?_)
    refine lv_icmp_lt (tgt := 60) hC.1 hC.2.1 dX12_drawsOne_42 (by decide) (fun hc_3 => ?_) (fun hc_3 => ?_)
    · have hf := ite_t hf hc_3
      refine lv_iload_n hC.1 hC.2.1 dX12_drawsOne_60 rfl (lv_at hl 2 rfl) ?_
      obtain rfl := Option.some.inj hf
      exact g_iret hC hW dX12_drawsOne_61
    · have hf := ite_f hf hc_3
      refine lv_iload_n hC.1 hC.2.1 dX12_drawsOne_45 rfl (lv_at hl 1 rfl) ?_
      refine lv_aload_n hC.1 hC.2.1 dX12_drawsOne_46 rfl (lv_at hl 0 rfl) ?_
      refine lv_iload_n hC.1 hC.2.1 dX12_drawsOne_47 rfl (lv_at hl 2 rfl) ?_
      refine lv_iconst (v := 2) hC.1 hC.2.1 dX12_drawsOne_48 (by decide) ?_
      obtain ⟨r_4, hg_5, hf⟩ := bd_of hf
      refine g_calliV hC hW (c12_guestOf l D cy ad aM hg_5) (cwV 2 hC.2.2.2.2.1 gX12_drawsOne_X12_guestOf rfl rfl rfl hdV12_guestOf ⟨Nat.le_of_ble_eq_true rfl, Nat.le_of_ble_eq_true rfl⟩) (Sub.all _ _) 0 11 rfl rfl rfl rfl hl.1 rfl (Nat.le_of_ble_eq_true rfl) dX12_drawsOne_49 ⟨Nat.zero_le _, Nat.zero_le _⟩ (fun H locs hW => ?_)
      refine lv_isub hC.1 hC.2.1 dX12_drawsOne_52 ?_
      refine lv_topi (fun x2_6 ex2_6 => ?_)
      have hf := lt_nm hf ex2_6
      refine lv_istore_n (lv' := [(2, .int x2_6), (0, .ref (aM 0)), (3, .int x3)]) hC.1 hC.2.1 dX12_drawsOne_53 rfl hl (by decide) rfl (fun ls hl => ?_)
      obtain ⟨x3_7, ex3_7⟩ : ∃ y : Int32, y = x3 + 1 := ⟨_, rfl⟩
      have hf := lt_nm hf ex3_7
      refine lv_iinc (v := x3_7) (lv' := [(3, .int x3_7), (2, .int x2_6), (0, .ref (aM 0))]) hC.1 hC.2.1 dX12_drawsOne_54 hl (k := 2) rfl (by rw [ex3_7]; rfl) (by decide) rfl (fun ls hl => ?_)
      refine lv_goto (tgt := 35) hC.1 hC.2.1 dX12_drawsOne_57 (by decide) ?_
      exact ih _ _ _ _ _ _ _ hf hW (lv_sub hl [2, 1, 0] rfl)
set_option maxRecDepth 100000 in
set_option maxHeartbeats 4000000 in
theorem t12_drawsOne_4 (hC : Cx p s m args meth c cX12_drawsOne 4 wsX12_drawsOne RX12 (some .int)) : ∀ n : Nat, ∀ (x1 : Int32) (x2 : Int32) (SM : Ob) (res : Int32 × Ob) (H : Heap) (locs : List Loc) (ls : Array Slot), f12_drawsOne_4 n x1 x2 SM = some res → GW D cy ad (w12 cy aM SM) A s H locs → lv_has ls 4 [(0, .ref (aM 0)), (1, .int x1), (2, .int x2)] → W p l e rm12_drawsOne s m args below meth c H locs 0 0 (MQ below (QI D cy (w12 cy aM (res.2)) A (res.1)) args s 0 0 A) (F0 m 4 ls []) := by
  intro n
  induction n with
  | zero =>
    intro _ _ _ _ _ _ _ hf _ _
    exact nomatch (show (none : Option (Int32 × Ob)) = some _ from hf)
  | succ n ih =>
    intro x1 x2 SM res H locs ls hf hW hl
    rw [f12_drawsOne_4] at hf
    refine lv_iload_n hC.1 hC.2.1 dX12_drawsOne_4 rfl (lv_at hl 2 rfl) ?_
    refine lv_aload_n hC.1 hC.2.1 dX12_drawsOne_5 rfl (lv_at hl 0 rfl) ?_
    obtain ⟨r_1, hg_2, hf⟩ := bd_of hf
    refine g_calliV hC hW (c12_guests l D cy ad aM hg_2) (cwV 0 hC.2.2.2.2.1 gX12_drawsOne_X12_guests rfl rfl rfl hdV12_guests ⟨Nat.le_of_ble_eq_true rfl, Nat.le_of_ble_eq_true rfl⟩) (Sub.all _ _) 0 11 rfl rfl rfl rfl hl.1 rfl (Nat.le_of_ble_eq_true rfl) dX12_drawsOne_6 ⟨Nat.zero_le _, Nat.zero_le _⟩ (fun H locs hW => ?_)
    refine lv_icmp_ge (tgt := 27) hC.1 hC.2.1 dX12_drawsOne_9 (by decide) (fun hc_3 => ?_) (fun hc_3 => ?_)
    · have hf := ite_t hf hc_3
      refine lv_aload_n hC.1 hC.2.1 dX12_drawsOne_27 rfl (lv_at hl 0 rfl) ?_
      refine lv_iload_n hC.1 hC.2.1 dX12_drawsOne_28 rfl (lv_at hl 1 rfl) ?_
      obtain ⟨r_4, hg_5, hf⟩ := bd_of hf
      refine g_calliV hC hW (c12_draw l D cy ad aM hg_5) (cwV 1 hC.2.2.2.2.1 gX12_drawsOne_X12_draw rfl rfl rfl hdV12_draw ⟨Nat.le_of_ble_eq_true rfl, Nat.le_of_ble_eq_true rfl⟩) (Sub.all _ _) 0 11 rfl rfl rfl rfl hl.1 rfl (Nat.le_of_ble_eq_true rfl) dX12_drawsOne_29 ⟨Nat.zero_le _, Nat.zero_le _⟩ (fun H locs hW => ?_)
      refine lv_topi (fun x2_6 ex2_6 => ?_)
      have hf := lt_nm hf ex2_6
      refine lv_istore_n (lv' := [(2, .int x2_6), (0, .ref (aM 0)), (1, .int x1)]) hC.1 hC.2.1 dX12_drawsOne_32 rfl hl (by decide) rfl (fun ls hl => ?_)
      refine lv_iconst (v := 0) hC.1 hC.2.1 dX12_drawsOne_33 (by decide) ?_
      refine lv_istore_n (lv' := [(3, .int 0), (2, .int x2_6), (0, .ref (aM 0)), (1, .int x1)]) hC.1 hC.2.1 dX12_drawsOne_34 rfl hl (by decide) rfl (fun ls hl => ?_)
      exact t12_drawsOne_35 hC _ _ _ _ _ _ _ _ hf hW (lv_sub hl [2, 1, 0] rfl)
    · have hf := ite_f hf hc_3
      refine lv_iload_n hC.1 hC.2.1 dX12_drawsOne_12 rfl (lv_at hl 1 rfl) ?_
      refine lv_aload_n hC.1 hC.2.1 dX12_drawsOne_13 rfl (lv_at hl 0 rfl) ?_
      refine lv_iload_n hC.1 hC.2.1 dX12_drawsOne_14 rfl (lv_at hl 2 rfl) ?_
      refine lv_iconst (v := 2) hC.1 hC.2.1 dX12_drawsOne_15 (by decide) ?_
      obtain ⟨r_7, hg_8, hf⟩ := bd_of hf
      refine g_calliV hC hW (c12_guestOf l D cy ad aM hg_8) (cwV 2 hC.2.2.2.2.1 gX12_drawsOne_X12_guestOf rfl rfl rfl hdV12_guestOf ⟨Nat.le_of_ble_eq_true rfl, Nat.le_of_ble_eq_true rfl⟩) (Sub.all _ _) 0 11 rfl rfl rfl rfl hl.1 rfl (Nat.le_of_ble_eq_true rfl) dX12_drawsOne_16 ⟨Nat.zero_le _, Nat.zero_le _⟩ (fun H locs hW => ?_)
      refine lv_iadd hC.1 hC.2.1 dX12_drawsOne_19 ?_
      refine lv_topi (fun x1_9 ex1_9 => ?_)
      have hf := lt_nm hf ex1_9
      refine lv_istore_n (lv' := [(1, .int x1_9), (0, .ref (aM 0)), (2, .int x2)]) hC.1 hC.2.1 dX12_drawsOne_20 rfl hl (by decide) rfl (fun ls hl => ?_)
      obtain ⟨x2_10, ex2_10⟩ : ∃ y : Int32, y = x2 + 1 := ⟨_, rfl⟩
      have hf := lt_nm hf ex2_10
      refine lv_iinc (v := x2_10) (lv' := [(2, .int x2_10), (1, .int x1_9), (0, .ref (aM 0))]) hC.1 hC.2.1 dX12_drawsOne_21 hl (k := 2) rfl (by rw [ex2_10]; rfl) (by decide) rfl (fun ls hl => ?_)
      refine lv_goto (tgt := 4) hC.1 hC.2.1 dX12_drawsOne_24 (by decide) ?_
      exact ih _ _ _ _ _ _ _ hf hW (lv_sub hl [2, 1, 0] rfl)
set_option maxRecDepth 100000 in
set_option maxHeartbeats 4000000 in
theorem t12_drawsOne_0 (hC : Cx p s m args meth c cX12_drawsOne 4 wsX12_drawsOne RX12 (some .int)) : ∀ (SM : Ob) (res : Int32 × Ob) (H : Heap) (locs : List Loc) (ls : Array Slot), f12_drawsOne SM = some res → GW D cy ad (w12 cy aM SM) A s H locs → lv_has ls 4 [(0, .ref (aM 0))] → W p l e rm12_drawsOne s m args below meth c H locs 0 0 (MQ below (QI D cy (w12 cy aM (res.2)) A (res.1)) args s 0 0 A) (F0 m 0 ls []) := by
  intro SM res H locs ls hf hW hl
  unfold f12_drawsOne at hf
  refine lv_iconst (v := 0) hC.1 hC.2.1 dX12_drawsOne_0 (by decide) ?_
  refine lv_istore_n (lv' := [(1, .int 0), (0, .ref (aM 0))]) hC.1 hC.2.1 dX12_drawsOne_1 rfl hl (by decide) rfl (fun ls hl => ?_)
  refine lv_iconst (v := 0) hC.1 hC.2.1 dX12_drawsOne_2 (by decide) ?_
  refine lv_istore_n (lv' := [(2, .int 0), (1, .int 0), (0, .ref (aM 0))]) hC.1 hC.2.1 dX12_drawsOne_3 rfl hl (by decide) rfl (fun ls hl => ?_)
  exact t12_drawsOne_4 hC _ _ _ _ _ _ _ _ hf hW (lv_sub hl [2, 1, 0] rfl)
set_option maxRecDepth 100000 in
set_option maxHeartbeats 4000000 in
theorem c12_drawsOne (l : Launch) (D : va_G) (cy : Nat → ClassId) (ad : Nat → Nat) (aM : Nat → Nat) {SM : Ob} {res : Int32 × Ob} (h : f12_drawsOne SM = some res) : GCi l yX12_drawsOne wsX12_drawsOne rm12_drawsOne [.ref (aM 0)] D cy ad (w12 cy aM SM) (w12 cy aM (res.2)) (res.1) := fun sz => GC.start (own := RX12) (Qc := fun A => QI D cy (w12 cy aM (res.2)) A (res.1)) sz (by decide) rfl rfl (Nat.le_of_ble_eq_true rfl) (fun p e s m below meth c A ls hC hW hl => t12_drawsOne_0 hC _ _ _ _ _ h hW (lv_sub hl [0] rfl))
abbrev rm12_likeIn : Room := { frames := 2, cells := 0, slots := 0, locals := 43 }
theorem hdV12_likeIn : yX12_likeIn.cls = RX12 ∧ (yX12_likeIn.cls ≠ "java/lang/invoke/MethodHandle" ∧ yX12_likeIn.cls ≠ "java/lang/invoke/VarHandle" ∧ (parseMethodDescriptor yX12_likeIn.desc).map (fun d => d.parameters.length) = some 2) := by decide +kernel
theorem hin12_likeIn_12 : ∀ x ∈ u_ws RX12 TX12 39, x ∈ wsX12_likeIn := fun _ h => List.mem_cons_of_mem _ (List.mem_append_right _ h)
set_option maxRecDepth 100000 in
set_option maxHeartbeats 4000000 in
theorem t12_likeIn_42 (hC : Cx p s m args meth c cX12_likeIn 5 wsX12_likeIn RX12 (some .int)) {k5 : Int32 → Int32 → Int32 → Int32 → Ob → Option (Int32)} (hk5 : ∀ (x1 : Int32) (x2 : Int32) (x3 : Int32) (x4 : Int32) (SM : Ob) (res : Int32) (H : Heap) (locs : List Loc) (ls : Array Slot), k5 x1 x2 x3 x4 SM = some res → GW D cy ad (w12 cy aM SM) A s H locs → lv_has ls 5 [(0, .ref (aM 0)), (1, .int x1), (2, .int x2), (3, .int x3), (4, .int x4)] → W p l e rm12_likeIn s m args below meth c H locs 0 0 (MQ below (QI D cy (w12 cy aM SM) A res) args s 0 0 A) (F0 m 5 ls [])) : ∀ (x1 : Int32) (x2 : Int32) (x4 : Int32) (z0 : Int32) (z1 : Int32) (SM : Ob) (res : Int32) (H : Heap) (locs : List Loc) (ls : Array Slot), f12_likeIn_42 k5 x1 x2 x4 z0 z1 SM = some res → GW D cy ad (w12 cy aM SM) A s H locs → lv_has ls 5 [(0, .ref (aM 0)), (1, .int x1), (2, .int x2), (4, .int x4)] → W p l e rm12_likeIn s m args below meth c H locs 0 0 (MQ below (QI D cy (w12 cy aM SM) A res) args s 0 0 A) (F0 m 42 ls [.int z1, .int z0]) := by
  intro x1 x2 x4 z0 z1 SM res H locs ls hf hW hl
  unfold f12_likeIn_42 at hf
  refine lv_ior hC.1 hC.2.1 dX12_likeIn_42 ?_
  refine lv_topi (fun x3_1 ex3_1 => ?_)
  have hf := lt_nm hf ex3_1
  refine lv_istore_n (lv' := [(3, .int x3_1), (0, .ref (aM 0)), (1, .int x1), (2, .int x2), (4, .int x4)]) hC.1 hC.2.1 dX12_likeIn_43 rfl hl (by decide) rfl (fun ls hl => ?_)
  obtain ⟨x4_2, ex4_2⟩ : ∃ y : Int32, y = x4 + 1 := ⟨_, rfl⟩
  have hf := lt_nm hf ex4_2
  refine lv_iinc (v := x4_2) (lv' := [(4, .int x4_2), (3, .int x3_1), (0, .ref (aM 0)), (1, .int x1), (2, .int x2)]) hC.1 hC.2.1 dX12_likeIn_44 hl (k := 4) rfl (by rw [ex4_2]; rfl) (by decide) rfl (fun ls hl => ?_)
  refine lv_goto (tgt := 5) hC.1 hC.2.1 dX12_likeIn_47 (by decide) ?_
  exact hk5 _ _ _ _ _ _ _ _ _ hf hW (lv_sub hl [2, 3, 4, 1, 0] rfl)
set_option maxRecDepth 100000 in
set_option maxHeartbeats 4000000 in
theorem t12_likeIn_5 (hC : Cx p s m args meth c cX12_likeIn 5 wsX12_likeIn RX12 (some .int)) : ∀ n : Nat, ∀ (x1 : Int32) (x2 : Int32) (x3 : Int32) (x4 : Int32) (SM : Ob) (res : Int32) (H : Heap) (locs : List Loc) (ls : Array Slot), f12_likeIn_5 n x1 x2 x3 x4 SM = some res → GW D cy ad (w12 cy aM SM) A s H locs → lv_has ls 5 [(0, .ref (aM 0)), (1, .int x1), (2, .int x2), (3, .int x3), (4, .int x4)] → W p l e rm12_likeIn s m args below meth c H locs 0 0 (MQ below (QI D cy (w12 cy aM SM) A res) args s 0 0 A) (F0 m 5 ls []) := by
  intro n
  induction n with
  | zero =>
    intro _ _ _ _ _ _ _ _ _ hf _ _
    exact nomatch (show (none : Option (Int32)) = some _ from hf)
  | succ n ih =>
    intro x1 x2 x3 x4 SM res H locs ls hf hW hl
    rw [f12_likeIn_5] at hf
    refine lv_iload hC.1 hC.2.1 dX12_likeIn_5 (lv_at hl 4 rfl) ?_
    refine lv_aload_n hC.1 hC.2.1 dX12_likeIn_7 rfl (lv_at hl 0 rfl) ?_
    obtain ⟨r_1, hg_2, hf⟩ := bd_of hf
    refine g_calliV hC hW (c12_worlds l D cy ad aM hg_2) (cwV 0 hC.2.2.2.2.1 gX12_likeIn_X12_worlds rfl rfl rfl hdV12_worlds ⟨Nat.le_of_ble_eq_true rfl, Nat.le_of_ble_eq_true rfl⟩) (Sub.all _ _) 0 11 rfl rfl rfl rfl hl.1 rfl (Nat.le_of_ble_eq_true rfl) dX12_likeIn_8 ⟨Nat.zero_le _, Nat.zero_le _⟩ (fun H locs hW => ?_)
    refine lv_icmp_ge (tgt := 50) hC.1 hC.2.1 dX12_likeIn_11 (by decide) (fun hc_3 => ?_) (fun hc_3 => ?_)
    · have hf := ite_t hf hc_3
      refine lv_aload_n hC.1 hC.2.1 dX12_likeIn_50 rfl (lv_at hl 0 rfl) ?_
      refine lv_iload_n hC.1 hC.2.1 dX12_likeIn_51 rfl (lv_at hl 3 rfl) ?_
      obtain ⟨r_4, hg_5, hf⟩ := bd_of hf
      refine g_calliV hC hW (c12_whoIn l D cy ad aM hg_5) (cwV 1 hC.2.2.2.2.1 gX12_likeIn_X12_whoIn rfl rfl rfl hdV12_whoIn ⟨Nat.le_of_ble_eq_true rfl, Nat.le_of_ble_eq_true rfl⟩) (Sub.all _ _) 0 11 rfl rfl rfl rfl hl.1 rfl (Nat.le_of_ble_eq_true rfl) dX12_likeIn_52 ⟨Nat.zero_le _, Nat.zero_le _⟩ (fun H locs hW => ?_)
      obtain rfl := Option.some.inj hf
      exact g_iret hC hW dX12_likeIn_55
    · have hf := ite_f hf hc_3
      refine lv_iload_n hC.1 hC.2.1 dX12_likeIn_14 rfl (lv_at hl 3 rfl) ?_
      refine lv_aload_n hC.1 hC.2.1 dX12_likeIn_15 rfl (lv_at hl 0 rfl) ?_
      refine g_get hC hW hin12_likeIn_12 0 rfl rfl 29 (by decide) 1 rfl rfl dX12_likeIn_16 ?_
      refine lv_iload hC.1 hC.2.1 dX12_likeIn_19 (lv_at hl 4 rfl) ?_
      obtain ⟨hi_6, hf⟩ := ck_of hf
      refine g_iald hC hW 19 rfl hi_6 dX12_likeIn_21 ?_
      refine lv_aload_n hC.1 hC.2.1 dX12_likeIn_22 rfl (lv_at hl 0 rfl) ?_
      refine g_get hC hW hin12_likeIn_12 0 rfl rfl 29 (by decide) 1 rfl rfl dX12_likeIn_23 ?_
      refine lv_iload_n hC.1 hC.2.1 dX12_likeIn_26 rfl (lv_at hl 1 rfl) ?_
      obtain ⟨hi_7, hf⟩ := ck_of hf
      refine g_iald hC hW 19 rfl hi_7 dX12_likeIn_27 ?_
      refine lv_ixor hC.1 hC.2.1 dX12_likeIn_28 ?_
      refine lv_iload_n hC.1 hC.2.1 dX12_likeIn_29 rfl (lv_at hl 2 rfl) ?_
      refine lv_iand hC.1 hC.2.1 dX12_likeIn_30 ?_
      refine lv_if_ne (tgt := 41) hC.1 hC.2.1 dX12_likeIn_31 (by decide) (fun hc_8 => ?_) (fun hc_8 => ?_)
      · have hf := ite_f hf hc_8
        refine lv_iconst (v := 0) hC.1 hC.2.1 dX12_likeIn_41 (by decide) ?_
        exact t12_likeIn_42 hC ih  _ _ _ _ _ _ _ _ _ _ hf hW (lv_sub hl [0, 1, 2, 4] rfl)
      · have hf := ite_t hf hc_8
        refine lv_iconst (v := 1) hC.1 hC.2.1 dX12_likeIn_34 (by decide) ?_
        refine lv_iload hC.1 hC.2.1 dX12_likeIn_35 (lv_at hl 4 rfl) ?_
        refine lv_ishl hC.1 hC.2.1 dX12_likeIn_37 ?_
        refine lv_goto (tgt := 42) hC.1 hC.2.1 dX12_likeIn_38 (by decide) ?_
        exact t12_likeIn_42 hC ih  _ _ _ _ _ _ _ _ _ _ hf hW (lv_sub hl [0, 1, 2, 4] rfl)
set_option maxRecDepth 100000 in
set_option maxHeartbeats 4000000 in
theorem t12_likeIn_0 (hC : Cx p s m args meth c cX12_likeIn 5 wsX12_likeIn RX12 (some .int)) : ∀ (x1 : Int32) (x2 : Int32) (SM : Ob) (res : Int32) (H : Heap) (locs : List Loc) (ls : Array Slot), f12_likeIn x1 x2 SM = some res → GW D cy ad (w12 cy aM SM) A s H locs → lv_has ls 5 [(0, .ref (aM 0)), (1, .int x1), (2, .int x2)] → W p l e rm12_likeIn s m args below meth c H locs 0 0 (MQ below (QI D cy (w12 cy aM SM) A res) args s 0 0 A) (F0 m 0 ls []) := by
  intro x1 x2 SM res H locs ls hf hW hl
  unfold f12_likeIn at hf
  refine lv_iconst (v := 0) hC.1 hC.2.1 dX12_likeIn_0 (by decide) ?_
  refine lv_istore_n (lv' := [(3, .int 0), (0, .ref (aM 0)), (1, .int x1), (2, .int x2)]) hC.1 hC.2.1 dX12_likeIn_1 rfl hl (by decide) rfl (fun ls hl => ?_)
  refine lv_iconst (v := 0) hC.1 hC.2.1 dX12_likeIn_2 (by decide) ?_
  refine lv_istore (lv' := [(4, .int 0), (3, .int 0), (0, .ref (aM 0)), (1, .int x1), (2, .int x2)]) hC.1 hC.2.1 dX12_likeIn_3 hl (by decide) rfl (fun ls hl => ?_)
  exact t12_likeIn_5 hC _ _ _ _ _ _ _ _ _ _ hf hW (lv_sub hl [2, 3, 4, 1, 0] rfl)
set_option maxRecDepth 100000 in
set_option maxHeartbeats 4000000 in
theorem c12_likeIn (l : Launch) (D : va_G) (cy : Nat → ClassId) (ad : Nat → Nat) (aM : Nat → Nat) {x1 : Int32} {x2 : Int32} {SM : Ob} {res : Int32} (h : f12_likeIn x1 x2 SM = some res) : GCi l yX12_likeIn wsX12_likeIn rm12_likeIn [.ref (aM 0), .int x1, .int x2] D cy ad (w12 cy aM SM) (w12 cy aM SM) res := fun sz => GC.start (own := RX12) (Qc := fun A => QI D cy (w12 cy aM SM) A res) sz (by decide) rfl rfl (Nat.le_of_ble_eq_true rfl) (fun p e s m below meth c A ls hC hW hl => t12_likeIn_0 hC _ _ _ _ _ _ _ h hW (lv_sub hl [0, 1, 2] rfl))
abbrev rm12_years : Room := { frames := 3, cells := 0, slots := 0, locals := 67 }
theorem hdV12_years : yX12_years.cls = RX12 ∧ (yX12_years.cls ≠ "java/lang/invoke/MethodHandle" ∧ yX12_years.cls ≠ "java/lang/invoke/VarHandle" ∧ (parseMethodDescriptor yX12_years.desc).map (fun d => d.parameters.length) = some 3) := by decide +kernel
theorem hin12_years_12 : ∀ x ∈ u_ws RX12 TX12 39, x ∈ wsX12_years := fun _ h => List.mem_cons_of_mem _ (List.mem_append_right _ h)
set_option maxRecDepth 100000 in
set_option maxHeartbeats 4000000 in
theorem t12_years_42 (hC : Cx p s m args meth c cX12_years 10 wsX12_years RX12 (some .int)) : ∀ (SM : Ob) (res : Int32 × Ob) (H : Heap) (locs : List Loc) (ls : Array Slot), f12_years_42 SM = some res → GW D cy ad (w12 cy aM SM) A s H locs → lv_has ls 10 [] → W p l e rm12_years s m args below meth c H locs 0 0 (MQ below (QI D cy (w12 cy aM (res.2)) A (res.1)) args s 0 0 A) (F0 m 42 ls []) := by
  intro SM res H locs ls hf hW hl
  unfold f12_years_42 at hf
  refine lv_iconst (v := (-1)) hC.1 hC.2.1 dX12_years_42 (by decide) ?_
  obtain rfl := Option.some.inj hf
  exact g_iret hC hW dX12_years_43
set_option maxRecDepth 100000 in
set_option maxHeartbeats 4000000 in
theorem t12_years_136 (hC : Cx p s m args meth c cX12_years 10 wsX12_years RX12 (some .int)) {k62 : Int32 → Int32 → Int32 → Int32 → Int32 → Int32 → Ob → Option (Int32 × Ob)} (hk62 : ∀ (x2 : Int32) (x3 : Int32) (x4 : Int32) (x5 : Int32) (x6 : Int32) (x7 : Int32) (SM : Ob) (res : Int32 × Ob) (H : Heap) (locs : List Loc) (ls : Array Slot), k62 x2 x3 x4 x5 x6 x7 SM = some res → GW D cy ad (w12 cy aM SM) A s H locs → lv_has ls 10 [(0, .ref (aM 0)), (2, .int x2), (3, .int x3), (4, .int x4), (5, .int x5), (6, .int x6), (7, .int x7)] → W p l e rm12_years s m args below meth c H locs 0 0 (MQ below (QI D cy (w12 cy aM (res.2)) A (res.1)) args s 0 0 A) (F0 m 62 ls [])) : ∀ (x2 : Int32) (x3 : Int32) (x4 : Int32) (x6 : Int32) (x7 : Int32) (x9 : Int32) (z0 : Int32) (z1 : Int32) (SM : Ob) (res : Int32 × Ob) (H : Heap) (locs : List Loc) (ls : Array Slot), f12_years_136 k62 x2 x3 x4 x6 x7 x9 z0 z1 SM = some res → GW D cy ad (w12 cy aM SM) A s H locs → lv_has ls 10 [(0, .ref (aM 0)), (2, .int x2), (3, .int x3), (4, .int x4), (6, .int x6), (7, .int x7), (9, .int x9)] → W p l e rm12_years s m args below meth c H locs 0 0 (MQ below (QI D cy (w12 cy aM (res.2)) A (res.1)) args s 0 0 A) (F0 m 136 ls [.int z1, .int z0]) := by
  intro x2 x3 x4 x6 x7 x9 z0 z1 SM res H locs ls hf hW hl
  unfold f12_years_136 at hf
  refine lv_iadd hC.1 hC.2.1 dX12_years_136 ?_
  refine lv_topi (fun x5_1 ex5_1 => ?_)
  have hf := lt_nm hf ex5_1
  refine lv_istore (lv' := [(5, .int x5_1), (0, .ref (aM 0)), (2, .int x2), (3, .int x3), (4, .int x4), (6, .int x6), (7, .int x7), (9, .int x9)]) hC.1 hC.2.1 dX12_years_137 hl (by decide) rfl (fun ls hl => ?_)
  refine lv_iload hC.1 hC.2.1 dX12_years_139 (lv_at hl 5 rfl) ?_
  refine lv_aload_n hC.1 hC.2.1 dX12_years_141 rfl (lv_at hl 1 rfl) ?_
  refine g_get hC hW hin12_years_12 0 rfl rfl 29 (by decide) 3 rfl rfl dX12_years_142 ?_
  refine lv_iload hC.1 hC.2.1 dX12_years_145 (lv_at hl 7 rfl) ?_
  obtain ⟨hi_2, hf⟩ := ck_of hf
  refine g_iald hC hW 19 rfl hi_2 dX12_years_147 ?_
  obtain ⟨r_3, hg_4, hf⟩ := bd_of hf
  refine g_calliS hC hW (c12_bits l D cy ad  hg_4) (va_cwS 1 hC.2.2.2.2.1 gX12_years_X12_bits rfl rfl rfl hdS12_bits ⟨Nat.le_of_ble_eq_true rfl, Nat.le_of_ble_eq_true rfl⟩) (Sub.nil _) rfl hl.1 rfl (Nat.le_of_ble_eq_true rfl) dX12_years_148 ⟨Nat.zero_le _, Nat.zero_le _⟩ (fun H locs hW => ?_)
  refine lv_iadd hC.1 hC.2.1 dX12_years_151 ?_
  refine lv_topi (fun x6_5 ex6_5 => ?_)
  have hf := lt_nm hf ex6_5
  refine lv_istore (lv' := [(6, .int x6_5), (5, .int x5_1), (0, .ref (aM 0)), (2, .int x2), (3, .int x3), (4, .int x4), (7, .int x7), (9, .int x9)]) hC.1 hC.2.1 dX12_years_152 hl (by decide) rfl (fun ls hl => ?_)
  obtain ⟨x7_6, ex7_6⟩ : ∃ y : Int32, y = x7 + 1 := ⟨_, rfl⟩
  have hf := lt_nm hf ex7_6
  refine lv_iinc (v := x7_6) (lv' := [(7, .int x7_6), (6, .int x6_5), (5, .int x5_1), (0, .ref (aM 0)), (2, .int x2), (3, .int x3), (4, .int x4), (9, .int x9)]) hC.1 hC.2.1 dX12_years_154 hl (k := 6) rfl (by rw [ex7_6]; rfl) (by decide) rfl (fun ls hl => ?_)
  refine lv_goto (tgt := 62) hC.1 hC.2.1 dX12_years_157 (by decide) ?_
  exact hk62 _ _ _ _ _ _ _ _ _ _ _ hf hW (lv_sub hl [3, 4, 5, 6, 2, 1, 0] rfl)
set_option maxRecDepth 100000 in
set_option maxHeartbeats 4000000 in
theorem t12_years_107 (hC : Cx p s m args meth c cX12_years 10 wsX12_years RX12 (some .int)) {k62 : Int32 → Int32 → Int32 → Int32 → Int32 → Int32 → Ob → Option (Int32 × Ob)} (hk62 : ∀ (x2 : Int32) (x3 : Int32) (x4 : Int32) (x5 : Int32) (x6 : Int32) (x7 : Int32) (SM : Ob) (res : Int32 × Ob) (H : Heap) (locs : List Loc) (ls : Array Slot), k62 x2 x3 x4 x5 x6 x7 SM = some res → GW D cy ad (w12 cy aM SM) A s H locs → lv_has ls 10 [(0, .ref (aM 0)), (2, .int x2), (3, .int x3), (4, .int x4), (5, .int x5), (6, .int x6), (7, .int x7)] → W p l e rm12_years s m args below meth c H locs 0 0 (MQ below (QI D cy (w12 cy aM (res.2)) A (res.1)) args s 0 0 A) (F0 m 62 ls [])) : ∀ (x2 : Int32) (x3 : Int32) (x5 : Int32) (x6 : Int32) (x7 : Int32) (x8 : Int32) (x9 : Int32) (z0 : Int32) (z1 : Int32) (SM : Ob) (res : Int32 × Ob) (H : Heap) (locs : List Loc) (ls : Array Slot), f12_years_107 k62 x2 x3 x5 x6 x7 x8 x9 z0 z1 SM = some res → GW D cy ad (w12 cy aM SM) A s H locs → lv_has ls 10 [(0, .ref (aM 0)), (2, .int x2), (3, .int x3), (5, .int x5), (6, .int x6), (7, .int x7), (8, .int x8), (9, .int x9)] → W p l e rm12_years s m args below meth c H locs 0 0 (MQ below (QI D cy (w12 cy aM (res.2)) A (res.1)) args s 0 0 A) (F0 m 107 ls [.int z1, .int z0]) := by
  intro x2 x3 x5 x6 x7 x8 x9 z0 z1 SM res H locs ls hf hW hl
  unfold f12_years_107 at hf
  refine lv_iadd hC.1 hC.2.1 dX12_years_107 ?_
  refine lv_topi (fun x4_1 ex4_1 => ?_)
  have hf := lt_nm hf ex4_1
  refine lv_istore (lv' := [(4, .int x4_1), (0, .ref (aM 0)), (2, .int x2), (3, .int x3), (5, .int x5), (6, .int x6), (7, .int x7), (8, .int x8), (9, .int x9)]) hC.1 hC.2.1 dX12_years_108 hl (by decide) rfl (fun ls hl => ?_)
  refine lv_iload hC.1 hC.2.1 dX12_years_110 (lv_at hl 4 rfl) ?_
  refine lv_aload_n hC.1 hC.2.1 dX12_years_112 rfl (lv_at hl 1 rfl) ?_
  refine lv_iload hC.1 hC.2.1 dX12_years_113 (lv_at hl 8 rfl) ?_
  refine lv_aload_n hC.1 hC.2.1 dX12_years_115 rfl (lv_at hl 1 rfl) ?_
  refine lv_iload hC.1 hC.2.1 dX12_years_116 (lv_at hl 7 rfl) ?_
  refine lv_iconst (v := 3) hC.1 hC.2.1 dX12_years_118 (by decide) ?_
  obtain ⟨r_2, hg_3, hf⟩ := bd_of hf
  refine g_calliV hC hW (c12_guestOf l D cy ad aM hg_3) (cwV 2 hC.2.2.2.2.1 gX12_years_X12_guestOf rfl rfl rfl hdV12_guestOf ⟨Nat.le_of_ble_eq_true rfl, Nat.le_of_ble_eq_true rfl⟩) (Sub.all _ _) 0 11 rfl rfl rfl rfl hl.1 rfl (Nat.le_of_ble_eq_true rfl) dX12_years_119 ⟨Nat.zero_le _, Nat.zero_le _⟩ (fun H locs hW => ?_)
  obtain ⟨r_4, hg_5, hf⟩ := bd_of hf
  refine g_calliV hC hW (c12_likeIn l D cy ad aM hg_5) (cwV 2 hC.2.2.2.2.1 gX12_years_X12_likeIn rfl rfl rfl hdV12_likeIn ⟨Nat.le_of_ble_eq_true rfl, Nat.le_of_ble_eq_true rfl⟩) (Sub.all _ _) 0 11 rfl rfl rfl rfl hl.1 rfl (Nat.le_of_ble_eq_true rfl) dX12_years_122 ⟨Nat.zero_le _, Nat.zero_le _⟩ (fun H locs hW => ?_)
  obtain ⟨r_6, hg_7, hf⟩ := bd_of hf
  refine g_calliS hC hW (c12_alone l D cy ad  hg_7) (va_cwS 1 hC.2.2.2.2.1 gX12_years_X12_alone rfl rfl rfl hdS12_alone ⟨Nat.le_of_ble_eq_true rfl, Nat.le_of_ble_eq_true rfl⟩) (Sub.nil _) rfl hl.1 rfl (Nat.le_of_ble_eq_true rfl) dX12_years_125 ⟨Nat.zero_le _, Nat.zero_le _⟩ (fun H locs hW => ?_)
  refine lv_if_lt (tgt := 135) hC.1 hC.2.1 dX12_years_128 (by decide) (fun hc_8 => ?_) (fun hc_8 => ?_)
  · have hf := ite_t hf hc_8
    refine lv_iconst (v := 0) hC.1 hC.2.1 dX12_years_135 (by decide) ?_
    exact t12_years_136 hC hk62  _ _ _ _ _ _ _ _ _ _ _ _ _ hf hW (lv_sub hl [1, 2, 3, 0, 5, 6, 8] rfl)
  · have hf := ite_f hf hc_8
    refine lv_iconst (v := 1) hC.1 hC.2.1 dX12_years_131 (by decide) ?_
    refine lv_goto (tgt := 136) hC.1 hC.2.1 dX12_years_132 (by decide) ?_
    exact t12_years_136 hC hk62  _ _ _ _ _ _ _ _ _ _ _ _ _ hf hW (lv_sub hl [1, 2, 3, 0, 5, 6, 8] rfl)
set_option maxRecDepth 100000 in
set_option maxHeartbeats 4000000 in
theorem t12_years_181 (hC : Cx p s m args meth c cX12_years 10 wsX12_years RX12 (some .int)) : ∀ (z0 : Int32) (SM : Ob) (res : Int32 × Ob) (H : Heap) (locs : List Loc) (ls : Array Slot), f12_years_181 z0 SM = some res → GW D cy ad (w12 cy aM SM) A s H locs → lv_has ls 10 [] → W p l e rm12_years s m args below meth c H locs 0 0 (MQ below (QI D cy (w12 cy aM (res.2)) A (res.1)) args s 0 0 A) (F0 m 181 ls [.int z0]) := by
  intro z0 SM res H locs ls hf hW hl
  unfold f12_years_181 at hf
  obtain rfl := Option.some.inj hf
  exact g_iret hC hW dX12_years_181
set_option maxRecDepth 100000 in
set_option maxHeartbeats 4000000 in
theorem t12_years_62 (hC : Cx p s m args meth c cX12_years 10 wsX12_years RX12 (some .int)) : ∀ n : Nat, ∀ (x2 : Int32) (x3 : Int32) (x4 : Int32) (x5 : Int32) (x6 : Int32) (x7 : Int32) (SM : Ob) (res : Int32 × Ob) (H : Heap) (locs : List Loc) (ls : Array Slot), f12_years_62 n x2 x3 x4 x5 x6 x7 SM = some res → GW D cy ad (w12 cy aM SM) A s H locs → lv_has ls 10 [(0, .ref (aM 0)), (2, .int x2), (3, .int x3), (4, .int x4), (5, .int x5), (6, .int x6), (7, .int x7)] → W p l e rm12_years s m args below meth c H locs 0 0 (MQ below (QI D cy (w12 cy aM (res.2)) A (res.1)) args s 0 0 A) (F0 m 62 ls []) := by
  intro n
  induction n with
  | zero =>
    intro _ _ _ _ _ _ _ _ _ _ _ hf _ _
    exact nomatch (show (none : Option (Int32 × Ob)) = some _ from hf)
  | succ n ih =>
    intro x2 x3 x4 x5 x6 x7 SM res H locs ls hf hW hl
    rw [f12_years_62] at hf
    refine lv_iload hC.1 hC.2.1 dX12_years_62 (lv_at hl 6 rfl) ?_
    refine lv_iload_n hC.1 hC.2.1 dX12_years_64 rfl (lv_at hl 1 rfl) ?_
    refine lv_icmp_ge (tgt := 160) hC.1 hC.2.1 dX12_years_65 (by decide) (fun hc_1 => ?_) (fun hc_1 => ?_)
    · have hf := ite_t hf hc_1
      refine lv_iload_n hC.1 hC.2.1 dX12_years_160 rfl (lv_at hl 2 rfl) ?_
      refine lv_if_ne (tgt := 169) hC.1 hC.2.1 dX12_years_161 (by decide) (fun hc_2 => ?_) (fun hc_2 => ?_)
      · have hf := ite_f hf hc_2
        refine lv_iload_n hC.1 hC.2.1 dX12_years_169 rfl (lv_at hl 2 rfl) ?_
        refine lv_iconst (v := 1) hC.1 hC.2.1 dX12_years_170 (by decide) ?_
        refine lv_icmp_ne (tgt := 179) hC.1 hC.2.1 dX12_years_171 (by decide) (fun hc_3 => ?_) (fun hc_3 => ?_)
        · have hf := ite_f hf hc_3
          refine lv_iload hC.1 hC.2.1 dX12_years_179 (lv_at hl 5 rfl) ?_
          exact t12_years_181 hC  _ _ _ _ _ _ hf hW (lv_sub hl [] rfl)
        · have hf := ite_t hf hc_3
          refine lv_iload hC.1 hC.2.1 dX12_years_174 (lv_at hl 4 rfl) ?_
          refine lv_goto (tgt := 181) hC.1 hC.2.1 dX12_years_176 (by decide) ?_
          exact t12_years_181 hC  _ _ _ _ _ _ hf hW (lv_sub hl [] rfl)
      · have hf := ite_t hf hc_2
        refine lv_iload hC.1 hC.2.1 dX12_years_164 (lv_at hl 3 rfl) ?_
        refine lv_goto (tgt := 181) hC.1 hC.2.1 dX12_years_166 (by decide) ?_
        exact t12_years_181 hC  _ _ _ _ _ _ hf hW (lv_sub hl [] rfl)
    · have hf := ite_f hf hc_1
      refine lv_aload_n hC.1 hC.2.1 dX12_years_68 rfl (lv_at hl 0 rfl) ?_
      obtain ⟨r_4, hg_5, hf⟩ := bd_of hf
      refine g_calliV hC hW (c12_drawsOne l D cy ad aM hg_5) (cwV 0 hC.2.2.2.2.1 gX12_years_X12_drawsOne rfl rfl rfl hdV12_drawsOne ⟨Nat.le_of_ble_eq_true rfl, Nat.le_of_ble_eq_true rfl⟩) (Sub.all _ _) 0 11 rfl rfl rfl rfl hl.1 rfl (Nat.le_of_ble_eq_true rfl) dX12_years_69 ⟨Nat.zero_le _, Nat.zero_le _⟩ (fun H locs hW => ?_)
      refine lv_topi (fun x8_6 ex8_6 => ?_)
      have hf := lt_nm hf ex8_6
      refine lv_istore (lv' := [(8, .int x8_6), (0, .ref (aM 0)), (2, .int x2), (3, .int x3), (4, .int x4), (5, .int x5), (6, .int x6), (7, .int x7)]) hC.1 hC.2.1 dX12_years_72 hl (by decide) rfl (fun ls hl => ?_)
      refine lv_iconst (v := 4) hC.1 hC.2.1 dX12_years_74 (by decide) ?_
      refine lv_iload hC.1 hC.2.1 dX12_years_75 (lv_at hl 0 rfl) ?_
      refine lv_imul hC.1 hC.2.1 dX12_years_77 ?_
      refine lv_aload_n hC.1 hC.2.1 dX12_years_78 rfl (lv_at hl 1 rfl) ?_
      refine lv_iconst (v := 4) hC.1 hC.2.1 dX12_years_79 (by decide) ?_
      obtain ⟨r_7, hg_8, hf⟩ := bd_of hf
      refine g_calliV hC hW (c12_draw l D cy ad aM hg_8) (cwV 1 hC.2.2.2.2.1 gX12_years_X12_draw rfl rfl rfl hdV12_draw ⟨Nat.le_of_ble_eq_true rfl, Nat.le_of_ble_eq_true rfl⟩) (Sub.all _ _) 0 11 rfl rfl rfl rfl hl.1 rfl (Nat.le_of_ble_eq_true rfl) dX12_years_80 ⟨Nat.zero_le _, Nat.zero_le _⟩ (fun H locs hW => ?_)
      refine lv_iadd hC.1 hC.2.1 dX12_years_83 ?_
      refine lv_topi (fun x9_9 ex9_9 => ?_)
      have hf := lt_nm hf ex9_9
      refine lv_istore (lv' := [(9, .int x9_9), (8, .int x8_6), (0, .ref (aM 0)), (2, .int x2), (3, .int x3), (4, .int x4), (5, .int x5), (6, .int x6), (7, .int x7)]) hC.1 hC.2.1 dX12_years_84 hl (by decide) rfl (fun ls hl => ?_)
      refine lv_iload hC.1 hC.2.1 dX12_years_86 (lv_at hl 5 rfl) ?_
      refine lv_aload_n hC.1 hC.2.1 dX12_years_88 rfl (lv_at hl 2 rfl) ?_
      refine lv_iload hC.1 hC.2.1 dX12_years_89 (lv_at hl 0 rfl) ?_
      refine lv_bipush (v := 63) hC.1 hC.2.1 dX12_years_91 (by decide) ?_
      obtain ⟨r_10, hg_11, hf⟩ := bd_of hf
      refine g_calliV hC hW (c12_likeIn l D cy ad aM hg_11) (cwV 2 hC.2.2.2.2.1 gX12_years_X12_likeIn rfl rfl rfl hdV12_likeIn ⟨Nat.le_of_ble_eq_true rfl, Nat.le_of_ble_eq_true rfl⟩) (Sub.all _ _) 0 11 rfl rfl rfl rfl hl.1 rfl (Nat.le_of_ble_eq_true rfl) dX12_years_93 ⟨Nat.zero_le _, Nat.zero_le _⟩ (fun H locs hW => ?_)
      obtain ⟨r_12, hg_13, hf⟩ := bd_of hf
      refine g_calliS hC hW (c12_alone l D cy ad  hg_13) (va_cwS 1 hC.2.2.2.2.1 gX12_years_X12_alone rfl rfl rfl hdS12_alone ⟨Nat.le_of_ble_eq_true rfl, Nat.le_of_ble_eq_true rfl⟩) (Sub.nil _) rfl hl.1 rfl (Nat.le_of_ble_eq_true rfl) dX12_years_96 ⟨Nat.zero_le _, Nat.zero_le _⟩ (fun H locs hW => ?_)
      refine lv_if_lt (tgt := 106) hC.1 hC.2.1 dX12_years_99 (by decide) (fun hc_14 => ?_) (fun hc_14 => ?_)
      · have hf := ite_t hf hc_14
        refine lv_iconst (v := 0) hC.1 hC.2.1 dX12_years_106 (by decide) ?_
        exact t12_years_107 hC ih  _ _ _ _ _ _ _ _ _ _ _ _ _ _ hf hW (lv_sub hl [2, 3, 4, 6, 7, 8, 1, 0] rfl)
      · have hf := ite_f hf hc_14
        refine lv_iconst (v := 1) hC.1 hC.2.1 dX12_years_102 (by decide) ?_
        refine lv_goto (tgt := 107) hC.1 hC.2.1 dX12_years_103 (by decide) ?_
        exact t12_years_107 hC ih  _ _ _ _ _ _ _ _ _ _ _ _ _ _ hf hW (lv_sub hl [2, 3, 4, 6, 7, 8, 1, 0] rfl)
set_option maxRecDepth 100000 in
set_option maxHeartbeats 4000000 in
theorem t12_years_0 (hC : Cx p s m args meth c cX12_years 10 wsX12_years RX12 (some .int)) : ∀ (x1 : Int32) (x2 : Int32) (x3 : Int32) (SM : Ob) (res : Int32 × Ob) (H : Heap) (locs : List Loc) (ls : Array Slot), f12_years x1 x2 x3 SM = some res → GW D cy ad (w12 cy aM SM) A s H locs → lv_has ls 10 [(0, .ref (aM 0)), (1, .int x1), (2, .int x2), (3, .int x3)] → W p l e rm12_years s m args below meth c H locs 0 0 (MQ below (QI D cy (w12 cy aM (res.2)) A (res.1)) args s 0 0 A) (F0 m 0 ls []) := by
  intro x1 x2 x3 SM res H locs ls hf hW hl
  unfold f12_years at hf
  refine lv_aload_n hC.1 hC.2.1 dX12_years_0 rfl (lv_at hl 0 rfl) ?_
  refine lv_iconst (v := 0) hC.1 hC.2.1 dX12_years_1 (by decide) ?_
  obtain ⟨SM_1, eSM_1⟩ : ∃ y : Ob, y = oI SM 0 0 := ⟨_, rfl⟩
  have hf := lt_nm hf eSM_1
  refine g_put hC hW hin12_years_12 tyX12 tyX12_ok nmX12 0 rfl rfl 0 (by decide) 1 rfl rfl rfl rfl (Nat.le_of_ble_eq_true rfl) (w' := w12 cy aM SM_1) (by rw [eSM_1]; rfl) dX12_years_2 (fun H locs hW => ?_)
  refine lv_iload_n hC.1 hC.2.1 dX12_years_5 rfl (lv_at hl 1 rfl) ?_
  refine lv_iconst (v := 0) hC.1 hC.2.1 dX12_years_6 (by decide) ?_
  refine lv_sipush (v := 9999) hC.1 hC.2.1 dX12_years_7 (by decide) ?_
  obtain ⟨r_2, hg_3, hf⟩ := bd_of hf
  refine g_calliS hC hW (c12_within l D cy ad  hg_3) (va_cwS 3 hC.2.2.2.2.1 gX12_years_X12_within rfl rfl rfl hdS12_within ⟨Nat.le_of_ble_eq_true rfl, Nat.le_of_ble_eq_true rfl⟩) (Sub.nil _) rfl hl.1 rfl (Nat.le_of_ble_eq_true rfl) dX12_years_10 ⟨Nat.zero_le _, Nat.zero_le _⟩ (fun H locs hW => ?_)
  refine lv_if_eq (tgt := 42) hC.1 hC.2.1 dX12_years_13 (by decide) (fun hc_4 => ?_) (fun hc_4 => ?_)
  · have hf := ite_t hf hc_4
    exact t12_years_42 hC  _ _ _ _ _ hf hW (lv_sub hl [] rfl)
  · have hf := ite_f hf hc_4
    refine lv_iload_n hC.1 hC.2.1 dX12_years_16 rfl (lv_at hl 2 rfl) ?_
    refine lv_iconst (v := 1) hC.1 hC.2.1 dX12_years_17 (by decide) ?_
    refine lv_bipush (v := 100) hC.1 hC.2.1 dX12_years_18 (by decide) ?_
    obtain ⟨r_5, hg_6, hf⟩ := bd_of hf
    refine g_calliS hC hW (c12_within l D cy ad  hg_6) (va_cwS 3 hC.2.2.2.2.1 gX12_years_X12_within rfl rfl rfl hdS12_within ⟨Nat.le_of_ble_eq_true rfl, Nat.le_of_ble_eq_true rfl⟩) (Sub.nil _) rfl hl.1 rfl (Nat.le_of_ble_eq_true rfl) dX12_years_20 ⟨Nat.zero_le _, Nat.zero_le _⟩ (fun H locs hW => ?_)
    refine lv_if_eq (tgt := 42) hC.1 hC.2.1 dX12_years_23 (by decide) (fun hc_7 => ?_) (fun hc_7 => ?_)
    · have hf := ite_t hf hc_7
      exact t12_years_42 hC  _ _ _ _ _ hf hW (lv_sub hl [] rfl)
    · have hf := ite_f hf hc_7
      refine lv_iload_n hC.1 hC.2.1 dX12_years_26 rfl (lv_at hl 3 rfl) ?_
      refine lv_iconst (v := 0) hC.1 hC.2.1 dX12_years_27 (by decide) ?_
      refine lv_iconst (v := 2) hC.1 hC.2.1 dX12_years_28 (by decide) ?_
      obtain ⟨r_8, hg_9, hf⟩ := bd_of hf
      refine g_calliS hC hW (c12_within l D cy ad  hg_9) (va_cwS 3 hC.2.2.2.2.1 gX12_years_X12_within rfl rfl rfl hdS12_within ⟨Nat.le_of_ble_eq_true rfl, Nat.le_of_ble_eq_true rfl⟩) (Sub.nil _) rfl hl.1 rfl (Nat.le_of_ble_eq_true rfl) dX12_years_29 ⟨Nat.zero_le _, Nat.zero_le _⟩ (fun H locs hW => ?_)
      refine lv_if_eq (tgt := 42) hC.1 hC.2.1 dX12_years_32 (by decide) (fun hc_10 => ?_) (fun hc_10 => ?_)
      · have hf := ite_t hf hc_10
        exact t12_years_42 hC  _ _ _ _ _ hf hW (lv_sub hl [] rfl)
      · have hf := ite_f hf hc_10
        refine lv_aload_n hC.1 hC.2.1 dX12_years_35 rfl (lv_at hl 0 rfl) ?_
        obtain ⟨r_11, hg_12, hf⟩ := bd_of hf
        refine g_calliV hC hW (c12_guests l D cy ad aM hg_12) (cwV 0 hC.2.2.2.2.1 gX12_years_X12_guests rfl rfl rfl hdV12_guests ⟨Nat.le_of_ble_eq_true rfl, Nat.le_of_ble_eq_true rfl⟩) (Sub.all _ _) 0 11 rfl rfl rfl rfl hl.1 rfl (Nat.le_of_ble_eq_true rfl) dX12_years_36 ⟨Nat.zero_le _, Nat.zero_le _⟩ (fun H locs hW => ?_)
        refine lv_if_ne (tgt := 44) hC.1 hC.2.1 dX12_years_39 (by decide) (fun hc_13 => ?_) (fun hc_13 => ?_)
        · have hf := ite_f hf hc_13
          refine lv_aload_n hC.1 hC.2.1 dX12_years_44 rfl (lv_at hl 0 rfl) ?_
          refine lv_iload_n hC.1 hC.2.1 dX12_years_45 rfl (lv_at hl 1 rfl) ?_
          refine lv_i2l (v := Int32.toInt64 x1) hC.1 hC.2.1 dX12_years_46 rfl ?_
          obtain ⟨SM_14, eSM_14⟩ : ∃ y : Ob, y = oL SM_1 38 (Int32.toInt64 x1) := ⟨_, rfl⟩
          have hf := lt_nm hf eSM_14
          refine g_put hC hW hin12_years_12 tyX12 tyX12_ok nmX12 0 rfl rfl 38 (by decide) 2 rfl rfl rfl rfl (Nat.le_of_ble_eq_true rfl) (w' := w12 cy aM SM_14) (by rw [eSM_14]; rfl) dX12_years_47 (fun H locs hW => ?_)
          refine lv_iconst (v := 0) hC.1 hC.2.1 dX12_years_50 (by decide) ?_
          refine lv_istore (lv' := [(4, .int 0), (0, .ref (aM 0)), (1, .int x1), (2, .int x2), (3, .int x3)]) hC.1 hC.2.1 dX12_years_51 hl (by decide) rfl (fun ls hl => ?_)
          refine lv_iconst (v := 0) hC.1 hC.2.1 dX12_years_53 (by decide) ?_
          refine lv_istore (lv' := [(5, .int 0), (4, .int 0), (0, .ref (aM 0)), (1, .int x1), (2, .int x2), (3, .int x3)]) hC.1 hC.2.1 dX12_years_54 hl (by decide) rfl (fun ls hl => ?_)
          refine lv_iconst (v := 0) hC.1 hC.2.1 dX12_years_56 (by decide) ?_
          refine lv_istore (lv' := [(6, .int 0), (5, .int 0), (4, .int 0), (0, .ref (aM 0)), (1, .int x1), (2, .int x2), (3, .int x3)]) hC.1 hC.2.1 dX12_years_57 hl (by decide) rfl (fun ls hl => ?_)
          refine lv_iconst (v := 0) hC.1 hC.2.1 dX12_years_59 (by decide) ?_
          refine lv_istore (lv' := [(7, .int 0), (6, .int 0), (5, .int 0), (4, .int 0), (0, .ref (aM 0)), (1, .int x1), (2, .int x2), (3, .int x3)]) hC.1 hC.2.1 dX12_years_60 hl (by decide) rfl (fun ls hl => ?_)
          exact t12_years_62 hC _ _ _ _ _ _ _ _ _ _ _ _ hf hW (lv_sub hl [4, 6, 7, 3, 2, 1, 0] rfl)
        · have hf := ite_t hf hc_13
          exact t12_years_42 hC  _ _ _ _ _ hf hW (lv_sub hl [] rfl)
set_option maxRecDepth 100000 in
set_option maxHeartbeats 4000000 in
theorem c12_years (l : Launch) (D : va_G) (cy : Nat → ClassId) (ad : Nat → Nat) (aM : Nat → Nat) {x1 : Int32} {x2 : Int32} {x3 : Int32} {SM : Ob} {res : Int32 × Ob} (h : f12_years x1 x2 x3 SM = some res) : GCi l yX12_years wsX12_years rm12_years [.ref (aM 0), .int x1, .int x2, .int x3] D cy ad (w12 cy aM SM) (w12 cy aM (res.2)) (res.1) := fun sz => GC.start (own := RX12) (Qc := fun A => QI D cy (w12 cy aM (res.2)) A (res.1)) sz (by decide) rfl rfl (Nat.le_of_ble_eq_true rfl) (fun p e s m below meth c A ls hC hW hl => t12_years_0 hC _ _ _ _ _ _ _ _ h hW (lv_sub hl [0, 1, 2, 3] rfl))
abbrev rm12_mark : Room := { frames := 1, cells := 0, slots := 0, locals := 24 }
theorem hdV12_mark : yX12_mark.cls = RX12 ∧ (yX12_mark.cls ≠ "java/lang/invoke/MethodHandle" ∧ yX12_mark.cls ≠ "java/lang/invoke/VarHandle" ∧ (parseMethodDescriptor yX12_mark.desc).map (fun d => d.parameters.length) = some 2) := by decide +kernel
theorem hin12_mark_12 : ∀ x ∈ u_ws RX12 TX12 39, x ∈ wsX12_mark := fun _ h => List.mem_cons_of_mem _ (List.mem_append_right _ h)
set_option maxRecDepth 100000 in
set_option maxHeartbeats 4000000 in
theorem t12_mark_27 (hC : Cx p s m args meth c cX12_mark 3 wsX12_mark RX12 (some .boolean)) : ∀ (SM : Ob) (res : Int32 × Ob) (H : Heap) (locs : List Loc) (ls : Array Slot), f12_mark_27 SM = some res → GW D cy ad (w12 cy aM SM) A s H locs → lv_has ls 3 [] → W p l e rm12_mark s m args below meth c H locs 0 0 (MQ below (QI D cy (w12 cy aM (res.2)) A (res.1)) args s 0 0 A) (F0 m 27 ls []) := by
  intro SM res H locs ls hf hW hl
  unfold f12_mark_27 at hf
  refine lv_iconst (v := 0) hC.1 hC.2.1 dX12_mark_27 (by decide) ?_
  obtain rfl := Option.some.inj hf
  exact g_zret (v := 0) hC hW (by decide) dX12_mark_28
set_option maxRecDepth 100000 in
set_option maxHeartbeats 4000000 in
theorem t12_mark_83 (hC : Cx p s m args meth c cX12_mark 3 wsX12_mark RX12 (some .boolean)) : ∀ (z1 : Int32) (SM : Ob) (res : Int32 × Ob) (H : Heap) (locs : List Loc) (ls : Array Slot), f12_mark_83 z1 SM = some res → GW D cy ad (w12 cy aM SM) A s H locs → lv_has ls 3 [] → W p l e rm12_mark s m args below meth c H locs 0 0 (MQ below (QI D cy (w12 cy aM (res.2)) A (res.1)) args s 0 0 A) (F0 m 83 ls [.int z1, .ref (aM 0)]) := by
  intro z1 SM res H locs ls hf hW hl
  unfold f12_mark_83 at hf
  obtain ⟨SM_1, eSM_1⟩ : ∃ y : Ob, y = oI SM 26 z1 := ⟨_, rfl⟩
  have hf := lt_nm hf eSM_1
  refine g_put hC hW hin12_mark_12 tyX12 tyX12_ok nmX12 0 rfl rfl 26 (by decide) 3 rfl rfl rfl rfl (Nat.le_of_ble_eq_true rfl) (w' := w12 cy aM SM_1) (by rw [eSM_1]; rfl) dX12_mark_83 (fun H locs hW => ?_)
  refine lv_iconst (v := 1) hC.1 hC.2.1 dX12_mark_86 (by decide) ?_
  obtain rfl := Option.some.inj hf
  exact g_zret (v := 1) hC hW (by decide) dX12_mark_87
set_option maxRecDepth 100000 in
set_option maxHeartbeats 4000000 in
theorem t12_mark_65 (hC : Cx p s m args meth c cX12_mark 3 wsX12_mark RX12 (some .boolean)) : ∀ (x2 : Int32) (z1 : Int32) (z2 : Int32) (SM : Ob) (res : Int32 × Ob) (H : Heap) (locs : List Loc) (ls : Array Slot), f12_mark_65 x2 z1 z2 SM = some res → GW D cy ad (w12 cy aM SM) A s H locs → lv_has ls 3 [(0, .ref (aM 0)), (2, .int x2)] → W p l e rm12_mark s m args below meth c H locs 0 0 (MQ below (QI D cy (w12 cy aM (res.2)) A (res.1)) args s 0 0 A) (F0 m 65 ls [.int z2, .int z1, .ref (aM 0)]) := by
  intro x2 z1 z2 SM res H locs ls hf hW hl
  unfold f12_mark_65 at hf
  refine lv_bipush (v := 30) hC.1 hC.2.1 dX12_mark_65 (by decide) ?_
  obtain ⟨r_1, hg_2, hf⟩ := bd_of hf
  refine g_callvV hC hW (c12_copies l D cy ad aM hg_2) (cwV 3 hC.2.2.2.2.1 gX12_mark_X12_copies rfl rfl rfl hdV12_copies ⟨Nat.le_of_ble_eq_true rfl, Nat.le_of_ble_eq_true rfl⟩) (Sub.all _ _) 0 11 rfl rfl rfl rfl hl.1 rfl (Nat.le_of_ble_eq_true rfl) dX12_mark_67 ⟨Nat.zero_le _, Nat.zero_le _⟩ (fun H locs hW => ?_)
  refine lv_aload_n hC.1 hC.2.1 dX12_mark_70 rfl (lv_at hl 0 rfl) ?_
  refine lv_iload_n hC.1 hC.2.1 dX12_mark_71 rfl (lv_at hl 1 rfl) ?_
  refine lv_if_eq (tgt := 79) hC.1 hC.2.1 dX12_mark_72 (by decide) (fun hc_3 => ?_) (fun hc_3 => ?_)
  · have hf := ite_t hf hc_3
    refine lv_aload_n hC.1 hC.2.1 dX12_mark_79 rfl (lv_at hl 0 rfl) ?_
    refine g_get hC hW hin12_mark_12 0 rfl rfl 26 (by decide) 3 rfl rfl dX12_mark_80 ?_
    exact t12_mark_83 hC  _ _ _ _ _ _ hf hW (lv_sub hl [] rfl)
  · have hf := ite_f hf hc_3
    refine lv_iconst (v := 0) hC.1 hC.2.1 dX12_mark_75 (by decide) ?_
    refine lv_goto (tgt := 83) hC.1 hC.2.1 dX12_mark_76 (by decide) ?_
    exact t12_mark_83 hC  _ _ _ _ _ _ hf hW (lv_sub hl [] rfl)
set_option maxRecDepth 100000 in
set_option maxHeartbeats 4000000 in
theorem t12_mark_51 (hC : Cx p s m args meth c cX12_mark 3 wsX12_mark RX12 (some .boolean)) : ∀ (x1 : Int32) (x2 : Int32) (z1 : Int32) (SM : Ob) (res : Int32 × Ob) (H : Heap) (locs : List Loc) (ls : Array Slot), f12_mark_51 x1 x2 z1 SM = some res → GW D cy ad (w12 cy aM SM) A s H locs → lv_has ls 3 [(0, .ref (aM 0)), (1, .int x1), (2, .int x2)] → W p l e rm12_mark s m args below meth c H locs 0 0 (MQ below (QI D cy (w12 cy aM (res.2)) A (res.1)) args s 0 0 A) (F0 m 51 ls [.int z1, .ref (aM 0)]) := by
  intro x1 x2 z1 SM res H locs ls hf hW hl
  unfold f12_mark_51 at hf
  refine lv_iload_n hC.1 hC.2.1 dX12_mark_51 rfl (lv_at hl 2 rfl) ?_
  refine lv_if_eq (tgt := 59) hC.1 hC.2.1 dX12_mark_52 (by decide) (fun hc_1 => ?_) (fun hc_1 => ?_)
  · have hf := ite_t hf hc_1
    refine lv_bipush (v := 30) hC.1 hC.2.1 dX12_mark_59 (by decide) ?_
    refine lv_iconst (v := 1) hC.1 hC.2.1 dX12_mark_61 (by decide) ?_
    refine lv_iload_n hC.1 hC.2.1 dX12_mark_62 rfl (lv_at hl 1 rfl) ?_
    refine lv_iadd hC.1 hC.2.1 dX12_mark_63 ?_
    refine lv_imul hC.1 hC.2.1 dX12_mark_64 ?_
    exact t12_mark_65 hC  _ _ _ _ _ _ _ _ hf hW (lv_sub hl [0, 2] rfl)
  · have hf := ite_f hf hc_1
    refine lv_iconst (v := 0) hC.1 hC.2.1 dX12_mark_55 (by decide) ?_
    refine lv_goto (tgt := 65) hC.1 hC.2.1 dX12_mark_56 (by decide) ?_
    exact t12_mark_65 hC  _ _ _ _ _ _ _ _ hf hW (lv_sub hl [0, 2] rfl)
set_option maxRecDepth 100000 in
set_option maxHeartbeats 4000000 in
theorem t12_mark_29 (hC : Cx p s m args meth c cX12_mark 3 wsX12_mark RX12 (some .boolean)) : ∀ (x1 : Int32) (x2 : Int32) (SM : Ob) (res : Int32 × Ob) (H : Heap) (locs : List Loc) (ls : Array Slot), f12_mark_29 x1 x2 SM = some res → GW D cy ad (w12 cy aM SM) A s H locs → lv_has ls 3 [(0, .ref (aM 0)), (1, .int x1), (2, .int x2)] → W p l e rm12_mark s m args below meth c H locs 0 0 (MQ below (QI D cy (w12 cy aM (res.2)) A (res.1)) args s 0 0 A) (F0 m 29 ls []) := by
  intro x1 x2 SM res H locs ls hf hW hl
  unfold f12_mark_29 at hf
  refine lv_aload_n hC.1 hC.2.1 dX12_mark_29 rfl (lv_at hl 0 rfl) ?_
  refine g_get hC hW hin12_mark_12 0 rfl rfl 27 (by decide) 2 rfl rfl dX12_mark_30 ?_
  refine lv_iload_n hC.1 hC.2.1 dX12_mark_33 rfl (lv_at hl 1 rfl) ?_
  refine lv_iconst (v := 1) hC.1 hC.2.1 dX12_mark_34 (by decide) ?_
  obtain ⟨hi_1, hf⟩ := ck_of hf
  obtain ⟨SM_2, eSM_2⟩ : ∃ y : Ob, y = oA SM 27 (Int32.toNatClampNeg x1) (vp_nar .boolean 1) := ⟨_, rfl⟩
  have hf := lt_nm hf eSM_2
  refine g_zast hC hW 17 rfl hi_1 (w' := w12 cy aM SM_2) (by rw [eSM_2]; rfl) dX12_mark_35 (fun H locs hW => ?_)
  refine lv_aload_n hC.1 hC.2.1 dX12_mark_36 rfl (lv_at hl 0 rfl) ?_
  refine lv_iload_n hC.1 hC.2.1 dX12_mark_37 rfl (lv_at hl 2 rfl) ?_
  refine lv_if_eq (tgt := 50) hC.1 hC.2.1 dX12_mark_38 (by decide) (fun hc_3 => ?_) (fun hc_3 => ?_)
  · have hf := ite_t hf hc_3
    refine lv_iconst (v := 0) hC.1 hC.2.1 dX12_mark_50 (by decide) ?_
    exact t12_mark_51 hC  _ _ _ _ _ _ _ _ hf hW (lv_sub hl [0, 1, 2] rfl)
  · have hf := ite_f hf hc_3
    refine lv_bipush (v := 30) hC.1 hC.2.1 dX12_mark_41 (by decide) ?_
    refine lv_iconst (v := 1) hC.1 hC.2.1 dX12_mark_43 (by decide) ?_
    refine lv_iload_n hC.1 hC.2.1 dX12_mark_44 rfl (lv_at hl 1 rfl) ?_
    refine lv_iadd hC.1 hC.2.1 dX12_mark_45 ?_
    refine lv_imul hC.1 hC.2.1 dX12_mark_46 ?_
    refine lv_goto (tgt := 51) hC.1 hC.2.1 dX12_mark_47 (by decide) ?_
    exact t12_mark_51 hC  _ _ _ _ _ _ _ _ hf hW (lv_sub hl [0, 1, 2] rfl)
set_option maxRecDepth 100000 in
set_option maxHeartbeats 4000000 in
theorem t12_mark_0 (hC : Cx p s m args meth c cX12_mark 3 wsX12_mark RX12 (some .boolean)) : ∀ (x1 : Int32) (x2 : Int32) (SM : Ob) (res : Int32 × Ob) (H : Heap) (locs : List Loc) (ls : Array Slot), f12_mark x1 x2 SM = some res → GW D cy ad (w12 cy aM SM) A s H locs → lv_has ls 3 [(0, .ref (aM 0)), (1, .int x1), (2, .int x2)] → W p l e rm12_mark s m args below meth c H locs 0 0 (MQ below (QI D cy (w12 cy aM (res.2)) A (res.1)) args s 0 0 A) (F0 m 0 ls []) := by
  intro x1 x2 SM res H locs ls hf hW hl
  unfold f12_mark at hf
  refine lv_aload_n hC.1 hC.2.1 dX12_mark_0 rfl (lv_at hl 0 rfl) ?_
  refine lv_iconst (v := 0) hC.1 hC.2.1 dX12_mark_1 (by decide) ?_
  obtain ⟨SM_1, eSM_1⟩ : ∃ y : Ob, y = oI SM 0 0 := ⟨_, rfl⟩
  have hf := lt_nm hf eSM_1
  refine g_put hC hW hin12_mark_12 tyX12 tyX12_ok nmX12 0 rfl rfl 0 (by decide) 1 rfl rfl rfl rfl (Nat.le_of_ble_eq_true rfl) (w' := w12 cy aM SM_1) (by rw [eSM_1]; rfl) dX12_mark_2 (fun H locs hW => ?_)
  refine lv_iload_n hC.1 hC.2.1 dX12_mark_5 rfl (lv_at hl 1 rfl) ?_
  refine lv_iconst (v := 0) hC.1 hC.2.1 dX12_mark_6 (by decide) ?_
  refine lv_iconst (v := 3) hC.1 hC.2.1 dX12_mark_7 (by decide) ?_
  obtain ⟨r_2, hg_3, hf⟩ := bd_of hf
  refine g_calliS hC hW (c12_within l D cy ad  hg_3) (va_cwS 3 hC.2.2.2.2.1 gX12_mark_X12_within rfl rfl rfl hdS12_within ⟨Nat.le_of_ble_eq_true rfl, Nat.le_of_ble_eq_true rfl⟩) (Sub.nil _) rfl hl.1 rfl (Nat.le_of_ble_eq_true rfl) dX12_mark_8 ⟨Nat.zero_le _, Nat.zero_le _⟩ (fun H locs hW => ?_)
  refine lv_if_eq (tgt := 27) hC.1 hC.2.1 dX12_mark_11 (by decide) (fun hc_4 => ?_) (fun hc_4 => ?_)
  · have hf := ite_t hf hc_4
    exact t12_mark_27 hC  _ _ _ _ _ hf hW (lv_sub hl [] rfl)
  · have hf := ite_f hf hc_4
    refine lv_iload_n hC.1 hC.2.1 dX12_mark_14 rfl (lv_at hl 2 rfl) ?_
    refine lv_if_eq (tgt := 29) hC.1 hC.2.1 dX12_mark_15 (by decide) (fun hc_5 => ?_) (fun hc_5 => ?_)
    · have hf := ite_t hf hc_5
      exact t12_mark_29 hC  _ _ _ _ _ _ _ hf hW (lv_sub hl [0, 1, 2] rfl)
    · have hf := ite_f hf hc_5
      refine lv_aload_n hC.1 hC.2.1 dX12_mark_18 rfl (lv_at hl 0 rfl) ?_
      refine g_get hC hW hin12_mark_12 0 rfl rfl 27 (by decide) 2 rfl rfl dX12_mark_19 ?_
      refine lv_iload_n hC.1 hC.2.1 dX12_mark_22 rfl (lv_at hl 1 rfl) ?_
      obtain ⟨hi_6, hf⟩ := ck_of hf
      refine g_zald hC hW 17 rfl hi_6 dX12_mark_23 ?_
      refine lv_if_ne (tgt := 29) hC.1 hC.2.1 dX12_mark_24 (by decide) (fun hc_7 => ?_) (fun hc_7 => ?_)
      · have hf := ite_f hf hc_7
        exact t12_mark_29 hC  _ _ _ _ _ _ _ hf hW (lv_sub hl [0, 1, 2] rfl)
      · have hf := ite_t hf hc_7
        exact t12_mark_27 hC  _ _ _ _ _ hf hW (lv_sub hl [] rfl)
set_option maxRecDepth 100000 in
set_option maxHeartbeats 4000000 in
theorem c12_mark (l : Launch) (D : va_G) (cy : Nat → ClassId) (ad : Nat → Nat) (aM : Nat → Nat) {x1 : Int32} {x2 : Int32} {SM : Ob} {res : Int32 × Ob} (h : f12_mark x1 x2 SM = some res) : GCi l yX12_mark wsX12_mark rm12_mark [.ref (aM 0), .int x1, .int x2] D cy ad (w12 cy aM SM) (w12 cy aM (res.2)) (res.1) := fun sz => GC.start (own := RX12) (Qc := fun A => QI D cy (w12 cy aM (res.2)) A (res.1)) sz (by decide) rfl rfl (Nat.le_of_ble_eq_true rfl) (fun p e s m below meth c A ls hC hW hl => t12_mark_0 hC _ _ _ _ _ _ _ h hW (lv_sub hl [0, 1, 2] rfl))
abbrev rm12_count : Room := { frames := 1, cells := 0, slots := 0, locals := 22 }
theorem hdV12_count : yX12_count.cls = RX12 ∧ (yX12_count.cls ≠ "java/lang/invoke/MethodHandle" ∧ yX12_count.cls ≠ "java/lang/invoke/VarHandle" ∧ (parseMethodDescriptor yX12_count.desc).map (fun d => d.parameters.length) = some 1) := by decide +kernel
theorem hin12_count_12 : ∀ x ∈ u_ws RX12 TX12 39, x ∈ wsX12_count := fun _ h => List.mem_cons_of_mem _ (List.mem_append_right _ h)
set_option maxRecDepth 100000 in
set_option maxHeartbeats 4000000 in
theorem t12_count_0 (hC : Cx p s m args meth c cX12_count 2 wsX12_count RX12 (some .int)) : ∀ (x1 : Int32) (SM : Ob) (res : Int32 × Ob) (H : Heap) (locs : List Loc) (ls : Array Slot), f12_count x1 SM = some res → GW D cy ad (w12 cy aM SM) A s H locs → lv_has ls 2 [(0, .ref (aM 0)), (1, .int x1)] → W p l e rm12_count s m args below meth c H locs 0 0 (MQ below (QI D cy (w12 cy aM (res.2)) A (res.1)) args s 0 0 A) (F0 m 0 ls []) := by
  intro x1 SM res H locs ls hf hW hl
  unfold f12_count at hf
  refine lv_aload_n hC.1 hC.2.1 dX12_count_0 rfl (lv_at hl 0 rfl) ?_
  refine lv_iconst (v := 0) hC.1 hC.2.1 dX12_count_1 (by decide) ?_
  obtain ⟨SM_1, eSM_1⟩ : ∃ y : Ob, y = oI SM 0 0 := ⟨_, rfl⟩
  have hf := lt_nm hf eSM_1
  refine g_put hC hW hin12_count_12 tyX12 tyX12_ok nmX12 0 rfl rfl 0 (by decide) 1 rfl rfl rfl rfl (Nat.le_of_ble_eq_true rfl) (w' := w12 cy aM SM_1) (by rw [eSM_1]; rfl) dX12_count_2 (fun H locs hW => ?_)
  refine lv_iload_n hC.1 hC.2.1 dX12_count_5 rfl (lv_at hl 1 rfl) ?_
  by_cases hc_2 : x1 = 0
  · have hf := ite_t hf hc_2
    refine lv_tableIn (tgt := 52) hC.1 hC.2.1 dX12_count_6 (by rw [hc_2]; decide) (by rw [hc_2]; decide) (by rw [hc_2]; rfl) (by decide) ?_
    refine lv_aload_n hC.1 hC.2.1 dX12_count_52 rfl (lv_at hl 0 rfl) ?_
    obtain ⟨r_3, hg_4, hf⟩ := bd_of hf
    refine g_calliV hC hW (c12_guests l D cy ad aM hg_4) (cwV 0 hC.2.2.2.2.1 gX12_count_X12_guests rfl rfl rfl hdV12_guests ⟨Nat.le_of_ble_eq_true rfl, Nat.le_of_ble_eq_true rfl⟩) (Sub.all _ _) 0 11 rfl rfl rfl rfl hl.1 rfl (Nat.le_of_ble_eq_true rfl) dX12_count_53 ⟨Nat.zero_le _, Nat.zero_le _⟩ (fun H locs hW => ?_)
    obtain rfl := Option.some.inj hf
    exact g_iret hC hW dX12_count_56
  · have hf := ite_f hf hc_2
    by_cases hc_5 : x1 = 1
    · have hf := ite_t hf hc_5
      refine lv_tableIn (tgt := 57) hC.1 hC.2.1 dX12_count_6 (by rw [hc_5]; decide) (by rw [hc_5]; decide) (by rw [hc_5]; rfl) (by decide) ?_
      refine lv_aload_n hC.1 hC.2.1 dX12_count_57 rfl (lv_at hl 0 rfl) ?_
      obtain ⟨r_6, hg_7, hf⟩ := bd_of hf
      refine g_calliV hC hW (c12_signs l D cy ad aM hg_7) (cwV 0 hC.2.2.2.2.1 gX12_count_X12_signs rfl rfl rfl hdV12_signs ⟨Nat.le_of_ble_eq_true rfl, Nat.le_of_ble_eq_true rfl⟩) (Sub.all _ _) 0 11 rfl rfl rfl rfl hl.1 rfl (Nat.le_of_ble_eq_true rfl) dX12_count_58 ⟨Nat.zero_le _, Nat.zero_le _⟩ (fun H locs hW => ?_)
      obtain rfl := Option.some.inj hf
      exact g_iret hC hW dX12_count_61
    · have hf := ite_f hf hc_5
      by_cases hc_8 : x1 = 2
      · have hf := ite_t hf hc_8
        refine lv_tableIn (tgt := 62) hC.1 hC.2.1 dX12_count_6 (by rw [hc_8]; decide) (by rw [hc_8]; decide) (by rw [hc_8]; rfl) (by decide) ?_
        refine lv_aload_n hC.1 hC.2.1 dX12_count_62 rfl (lv_at hl 0 rfl) ?_
        refine g_get hC hW hin12_count_12 0 rfl rfl 25 (by decide) 2 rfl rfl dX12_count_63 ?_
        refine lv_iconst (v := 0) hC.1 hC.2.1 dX12_count_66 (by decide) ?_
        obtain ⟨hi_9, hf⟩ := ck_of hf
        refine g_iald hC hW 16 rfl hi_9 dX12_count_67 ?_
        obtain ⟨r_10, hg_11, hf⟩ := bd_of hf
        refine g_calliS hC hW (c12_bits l D cy ad  hg_11) (va_cwS 1 hC.2.2.2.2.1 gX12_count_X12_bits rfl rfl rfl hdS12_bits ⟨Nat.le_of_ble_eq_true rfl, Nat.le_of_ble_eq_true rfl⟩) (Sub.nil _) rfl hl.1 rfl (Nat.le_of_ble_eq_true rfl) dX12_count_68 ⟨Nat.zero_le _, Nat.zero_le _⟩ (fun H locs hW => ?_)
        obtain rfl := Option.some.inj hf
        exact g_iret hC hW dX12_count_71
      · have hf := ite_f hf hc_8
        by_cases hc_12 : x1 = 3
        · have hf := ite_t hf hc_12
          refine lv_tableIn (tgt := 72) hC.1 hC.2.1 dX12_count_6 (by rw [hc_12]; decide) (by rw [hc_12]; decide) (by rw [hc_12]; rfl) (by decide) ?_
          refine lv_aload_n hC.1 hC.2.1 dX12_count_72 rfl (lv_at hl 0 rfl) ?_
          refine g_get hC hW hin12_count_12 0 rfl rfl 25 (by decide) 2 rfl rfl dX12_count_73 ?_
          refine lv_iconst (v := 1) hC.1 hC.2.1 dX12_count_76 (by decide) ?_
          obtain ⟨hi_13, hf⟩ := ck_of hf
          refine g_iald hC hW 16 rfl hi_13 dX12_count_77 ?_
          obtain rfl := Option.some.inj hf
          exact g_iret hC hW dX12_count_78
        · have hf := ite_f hf hc_12
          by_cases hc_14 : x1 = 4
          · have hf := ite_t hf hc_14
            refine lv_tableIn (tgt := 79) hC.1 hC.2.1 dX12_count_6 (by rw [hc_14]; decide) (by rw [hc_14]; decide) (by rw [hc_14]; rfl) (by decide) ?_
            refine lv_aload_n hC.1 hC.2.1 dX12_count_79 rfl (lv_at hl 0 rfl) ?_
            refine g_get hC hW hin12_count_12 0 rfl rfl 22 (by decide) 3 rfl rfl dX12_count_80 ?_
            refine lv_iconst (v := 0) hC.1 hC.2.1 dX12_count_83 (by decide) ?_
            obtain ⟨hi_15, hf⟩ := ck_of hf
            refine g_iald hC hW 13 rfl hi_15 dX12_count_84 ?_
            obtain rfl := Option.some.inj hf
            exact g_iret hC hW dX12_count_85
          · have hf := ite_f hf hc_14
            by_cases hc_16 : x1 = 5
            · have hf := ite_t hf hc_16
              refine lv_tableIn (tgt := 86) hC.1 hC.2.1 dX12_count_6 (by rw [hc_16]; decide) (by rw [hc_16]; decide) (by rw [hc_16]; rfl) (by decide) ?_
              refine lv_aload_n hC.1 hC.2.1 dX12_count_86 rfl (lv_at hl 0 rfl) ?_
              refine g_get hC hW hin12_count_12 0 rfl rfl 25 (by decide) 2 rfl rfl dX12_count_87 ?_
              refine lv_bipush (v := 12) hC.1 hC.2.1 dX12_count_90 (by decide) ?_
              obtain ⟨hi_17, hf⟩ := ck_of hf
              refine g_iald hC hW 16 rfl hi_17 dX12_count_92 ?_
              obtain rfl := Option.some.inj hf
              exact g_iret hC hW dX12_count_93
            · have hf := ite_f hf hc_16
              by_cases hc_18 : x1 = 6
              · have hf := ite_t hf hc_18
                refine lv_tableIn (tgt := 94) hC.1 hC.2.1 dX12_count_6 (by rw [hc_18]; decide) (by rw [hc_18]; decide) (by rw [hc_18]; rfl) (by decide) ?_
                refine lv_aload_n hC.1 hC.2.1 dX12_count_94 rfl (lv_at hl 0 rfl) ?_
                refine g_get hC hW hin12_count_12 0 rfl rfl 26 (by decide) 4 rfl rfl dX12_count_95 ?_
                obtain rfl := Option.some.inj hf
                exact g_iret hC hW dX12_count_98
              · have hf := ite_f hf hc_18
                by_cases hc_19 : x1 = 7
                · have hf := ite_t hf hc_19
                  refine lv_tableIn (tgt := 99) hC.1 hC.2.1 dX12_count_6 (by rw [hc_19]; decide) (by rw [hc_19]; decide) (by rw [hc_19]; rfl) (by decide) ?_
                  refine lv_aload_n hC.1 hC.2.1 dX12_count_99 rfl (lv_at hl 0 rfl) ?_
                  refine g_get hC hW hin12_count_12 0 rfl rfl 2 (by decide) 5 rfl rfl dX12_count_100 ?_
                  obtain rfl := Option.some.inj hf
                  exact g_iret hC hW dX12_count_103
                · have hf := ite_f hf hc_19
                  refine lv_tableOut (tgt := 104) hC.1 hC.2.1 dX12_count_6 (tab_out [0, 1, 2, 3, 4, 5, 6, 7] (List.forall_mem_cons.mpr ⟨hc_2, (List.forall_mem_cons.mpr ⟨hc_5, (List.forall_mem_cons.mpr ⟨hc_8, (List.forall_mem_cons.mpr ⟨hc_12, (List.forall_mem_cons.mpr ⟨hc_14, (List.forall_mem_cons.mpr ⟨hc_16, (List.forall_mem_cons.mpr ⟨hc_18, (List.forall_mem_cons.mpr ⟨hc_19, (fun _ h => by cases h)⟩)⟩)⟩)⟩)⟩)⟩)⟩)⟩) (by decide)) (by decide) ?_
                  refine lv_iconst (v := (-1)) hC.1 hC.2.1 dX12_count_104 (by decide) ?_
                  obtain rfl := Option.some.inj hf
                  exact g_iret hC hW dX12_count_105
set_option maxRecDepth 100000 in
set_option maxHeartbeats 4000000 in
theorem c12_count (l : Launch) (D : va_G) (cy : Nat → ClassId) (ad : Nat → Nat) (aM : Nat → Nat) {x1 : Int32} {SM : Ob} {res : Int32 × Ob} (h : f12_count x1 SM = some res) : GCi l yX12_count wsX12_count rm12_count [.ref (aM 0), .int x1] D cy ad (w12 cy aM SM) (w12 cy aM (res.2)) (res.1) := fun sz => GC.start (own := RX12) (Qc := fun A => QI D cy (w12 cy aM (res.2)) A (res.1)) sz (by decide) rfl rfl (Nat.le_of_ble_eq_true rfl) (fun p e s m below meth c A ls hC hW hl => t12_count_0 hC _ _ _ _ _ _ h hW (lv_sub hl [0, 1] rfl))
end
