/-! laid by program: functions, walks and contracts of 12_lay, 12_feed, 12_standsAsAlways, 12_signs, 12_guests, 12_guestOf, 12_isAlone, 12_worldsOf, 12_soOf, 12_worlds, 12_everyWorld, 12_soIn, 12_starts -/
theorem dX12_lay_0 : decode cX12_lay 0 = .ok (.bipush 56, 2) := by decide +kernel
theorem dX12_lay_2 : decode cX12_lay 2 = .ok (.istore_n 3, 1) := by decide +kernel
theorem dX12_lay_3 : decode cX12_lay 3 = .ok (.iload_n 3, 1) := by decide +kernel
theorem dX12_lay_4 : decode cX12_lay 4 = .ok (.ifCond .lt 71, 3) := by decide +kernel
theorem dX12_lay_7 : decode cX12_lay 7 = .ok (.lload_n 1, 1) := by decide +kernel
theorem dX12_lay_8 : decode cX12_lay 8 = .ok (.iload_n 3, 1) := by decide +kernel
theorem dX12_lay_9 : decode cX12_lay 9 = .ok (.lshr, 1) := by decide +kernel
theorem dX12_lay_10 : decode cX12_lay 10 = .ok (.l2i, 1) := by decide +kernel
theorem dX12_lay_11 : decode cX12_lay 11 = .ok (.sipush 255, 3) := by decide +kernel
theorem dX12_lay_14 : decode cX12_lay 14 = .ok (.iand, 1) := by decide +kernel
theorem dX12_lay_15 : decode cX12_lay 15 = .ok (.istore 4, 2) := by decide +kernel
theorem dX12_lay_17 : decode cX12_lay 17 = .ok (.iload 4, 2) := by decide +kernel
theorem dX12_lay_19 : decode cX12_lay 19 = .ok (.bipush 10, 2) := by decide +kernel
theorem dX12_lay_21 : decode cX12_lay 21 = .ok (.if_icmp .eq 17, 3) := by decide +kernel
theorem dX12_lay_24 : decode cX12_lay 24 = .ok (.iload 4, 2) := by decide +kernel
theorem dX12_lay_26 : decode cX12_lay 26 = .ok (.bipush 32, 2) := by decide +kernel
theorem dX12_lay_28 : decode cX12_lay 28 = .ok (.if_icmp .lt 41, 3) := by decide +kernel
theorem dX12_lay_31 : decode cX12_lay 31 = .ok (.iload 4, 2) := by decide +kernel
theorem dX12_lay_33 : decode cX12_lay 33 = .ok (.bipush 126, 2) := by decide +kernel
theorem dX12_lay_35 : decode cX12_lay 35 = .ok (.if_icmp .gt 34, 3) := by decide +kernel
theorem dX12_lay_38 : decode cX12_lay 38 = .ok (.aload_n 0, 1) := by decide +kernel
theorem dX12_lay_39 : decode cX12_lay 39 = .ok (.getfield 11, 3) := by decide +kernel
theorem dX12_lay_42 : decode cX12_lay 42 = .ok (.sipush 1000, 3) := by decide +kernel
theorem dX12_lay_45 : decode cX12_lay 45 = .ok (.if_icmp .ge 24, 3) := by decide +kernel
theorem dX12_lay_48 : decode cX12_lay 48 = .ok (.aload_n 0, 1) := by decide +kernel
theorem dX12_lay_49 : decode cX12_lay 49 = .ok (.getfield 14, 3) := by decide +kernel
theorem dX12_lay_52 : decode cX12_lay 52 = .ok (.aload_n 0, 1) := by decide +kernel
theorem dX12_lay_53 : decode cX12_lay 53 = .ok (.getfield 11, 3) := by decide +kernel
theorem dX12_lay_56 : decode cX12_lay 56 = .ok (.iload 4, 2) := by decide +kernel
theorem dX12_lay_58 : decode cX12_lay 58 = .ok (.iastore, 1) := by decide +kernel
theorem dX12_lay_59 : decode cX12_lay 59 = .ok (.aload_n 0, 1) := by decide +kernel
theorem dX12_lay_60 : decode cX12_lay 60 = .ok (.dup, 1) := by decide +kernel
theorem dX12_lay_61 : decode cX12_lay 61 = .ok (.getfield 11, 3) := by decide +kernel
theorem dX12_lay_64 : decode cX12_lay 64 = .ok (.iconst 1, 1) := by decide +kernel
theorem dX12_lay_65 : decode cX12_lay 65 = .ok (.iadd, 1) := by decide +kernel
theorem dX12_lay_66 : decode cX12_lay 66 = .ok (.putfield 11, 3) := by decide +kernel
theorem dX12_lay_69 : decode cX12_lay 69 = .ok (.iinc 3 (-8), 3) := by decide +kernel
theorem dX12_lay_72 : decode cX12_lay 72 = .ok (.goto (-69), 3) := by decide +kernel
theorem dX12_lay_75 : decode cX12_lay 75 = .ok (.return_, 1) := by decide +kernel
set_option maxRecDepth 20000 in
theorem gX12_feed_X12_lay : GoodIn wsX12_feed (wsV RX12 7 RX12 yX12_lay wsX12_lay) := goodIn_r _ [3, 4, 5, 6, 7, 2, 8, 9, 10, 11, 12, 13, 14, 15, 16, 17, 18, 19, 20, 21, 22, 23, 24, 25, 26, 27, 28, 29, 30, 31, 32, 33, 34, 35, 36, 37, 38, 39, 40, 41, 42, 43, 44, 45, 46, 47] rfl (by decide +kernel)
theorem dX12_feed_0 : decode cX12_feed 0 = .ok (.aload_n 0, 1) := by decide +kernel
theorem dX12_feed_1 : decode cX12_feed 1 = .ok (.iconst 0, 1) := by decide +kernel
theorem dX12_feed_2 : decode cX12_feed 2 = .ok (.putfield 1, 3) := by decide +kernel
theorem dX12_feed_5 : decode cX12_feed 5 = .ok (.aload_n 0, 1) := by decide +kernel
theorem dX12_feed_6 : decode cX12_feed 6 = .ok (.lload_n 1, 1) := by decide +kernel
theorem dX12_feed_7 : decode cX12_feed 7 = .ok (.invokevirtual 7, 3) := by decide +kernel
theorem dX12_feed_10 : decode cX12_feed 10 = .ok (.aload_n 0, 1) := by decide +kernel
theorem dX12_feed_11 : decode cX12_feed 11 = .ok (.lload_n 3, 1) := by decide +kernel
theorem dX12_feed_12 : decode cX12_feed 12 = .ok (.invokevirtual 7, 3) := by decide +kernel
theorem dX12_feed_15 : decode cX12_feed 15 = .ok (.aload_n 0, 1) := by decide +kernel
theorem dX12_feed_16 : decode cX12_feed 16 = .ok (.lload 5, 2) := by decide +kernel
theorem dX12_feed_18 : decode cX12_feed 18 = .ok (.invokevirtual 7, 3) := by decide +kernel
theorem dX12_feed_21 : decode cX12_feed 21 = .ok (.aload_n 0, 1) := by decide +kernel
theorem dX12_feed_22 : decode cX12_feed 22 = .ok (.getfield 11, 3) := by decide +kernel
theorem dX12_feed_25 : decode cX12_feed 25 = .ok (.ireturn, 1) := by decide +kernel
theorem dX12_standsAsAlways_0 : decode cX12_standsAsAlways 0 = .ok (.iconst 0, 1) := by decide +kernel
theorem dX12_standsAsAlways_1 : decode cX12_standsAsAlways 1 = .ok (.istore_n 2, 1) := by decide +kernel
theorem dX12_standsAsAlways_2 : decode cX12_standsAsAlways 2 = .ok (.iload_n 2, 1) := by decide +kernel
theorem dX12_standsAsAlways_3 : decode cX12_standsAsAlways 3 = .ok (.bipush 60, 2) := by decide +kernel
theorem dX12_standsAsAlways_5 : decode cX12_standsAsAlways 5 = .ok (.if_icmp .ge 18, 3) := by decide +kernel
theorem dX12_standsAsAlways_8 : decode cX12_standsAsAlways 8 = .ok (.aload_n 0, 1) := by decide +kernel
theorem dX12_standsAsAlways_9 : decode cX12_standsAsAlways 9 = .ok (.getfield 101, 3) := by decide +kernel
theorem dX12_standsAsAlways_12 : decode cX12_standsAsAlways 12 = .ok (.iload_n 1, 1) := by decide +kernel
theorem dX12_standsAsAlways_13 : decode cX12_standsAsAlways 13 = .ok (.iload_n 2, 1) := by decide +kernel
theorem dX12_standsAsAlways_14 : decode cX12_standsAsAlways 14 = .ok (.iadd, 1) := by decide +kernel
theorem dX12_standsAsAlways_15 : decode cX12_standsAsAlways 15 = .ok (.iconst 0, 1) := by decide +kernel
theorem dX12_standsAsAlways_16 : decode cX12_standsAsAlways 16 = .ok (.iastore, 1) := by decide +kernel
theorem dX12_standsAsAlways_17 : decode cX12_standsAsAlways 17 = .ok (.iinc 2 1, 3) := by decide +kernel
theorem dX12_standsAsAlways_20 : decode cX12_standsAsAlways 20 = .ok (.goto (-18), 3) := by decide +kernel
theorem dX12_standsAsAlways_23 : decode cX12_standsAsAlways 23 = .ok (.aload_n 0, 1) := by decide +kernel
theorem dX12_standsAsAlways_24 : decode cX12_standsAsAlways 24 = .ok (.getfield 101, 3) := by decide +kernel
theorem dX12_standsAsAlways_27 : decode cX12_standsAsAlways 27 = .ok (.iload_n 1, 1) := by decide +kernel
theorem dX12_standsAsAlways_28 : decode cX12_standsAsAlways 28 = .ok (.iconst 2, 1) := by decide +kernel
theorem dX12_standsAsAlways_29 : decode cX12_standsAsAlways 29 = .ok (.iadd, 1) := by decide +kernel
theorem dX12_standsAsAlways_30 : decode cX12_standsAsAlways 30 = .ok (.iconst (-1), 1) := by decide +kernel
theorem dX12_standsAsAlways_31 : decode cX12_standsAsAlways 31 = .ok (.iastore, 1) := by decide +kernel
theorem dX12_standsAsAlways_32 : decode cX12_standsAsAlways 32 = .ok (.return_, 1) := by decide +kernel
theorem dX12_signs_0 : decode cX12_signs 0 = .ok (.aload_n 0, 1) := by decide +kernel
theorem dX12_signs_1 : decode cX12_signs 1 = .ok (.getfield 101, 3) := by decide +kernel
theorem dX12_signs_4 : decode cX12_signs 4 = .ok (.iconst 1, 1) := by decide +kernel
theorem dX12_signs_5 : decode cX12_signs 5 = .ok (.iaload, 1) := by decide +kernel
theorem dX12_signs_6 : decode cX12_signs 6 = .ok (.ireturn, 1) := by decide +kernel
theorem dX12_guests_0 : decode cX12_guests 0 = .ok (.aload_n 0, 1) := by decide +kernel
theorem dX12_guests_1 : decode cX12_guests 1 = .ok (.getfield 101, 3) := by decide +kernel
theorem dX12_guests_4 : decode cX12_guests 4 = .ok (.iconst 0, 1) := by decide +kernel
theorem dX12_guests_5 : decode cX12_guests 5 = .ok (.iaload, 1) := by decide +kernel
theorem dX12_guests_6 : decode cX12_guests 6 = .ok (.ireturn, 1) := by decide +kernel
theorem dX12_guestOf_0 : decode cX12_guestOf 0 = .ok (.aload_n 0, 1) := by decide +kernel
theorem dX12_guestOf_1 : decode cX12_guestOf 1 = .ok (.getfield 101, 3) := by decide +kernel
theorem dX12_guestOf_4 : decode cX12_guestOf 4 = .ok (.iconst 3, 1) := by decide +kernel
theorem dX12_guestOf_5 : decode cX12_guestOf 5 = .ok (.iconst 5, 1) := by decide +kernel
theorem dX12_guestOf_6 : decode cX12_guestOf 6 = .ok (.iload_n 1, 1) := by decide +kernel
theorem dX12_guestOf_7 : decode cX12_guestOf 7 = .ok (.imul, 1) := by decide +kernel
theorem dX12_guestOf_8 : decode cX12_guestOf 8 = .ok (.iadd, 1) := by decide +kernel
theorem dX12_guestOf_9 : decode cX12_guestOf 9 = .ok (.iload_n 2, 1) := by decide +kernel
theorem dX12_guestOf_10 : decode cX12_guestOf 10 = .ok (.iadd, 1) := by decide +kernel
theorem dX12_guestOf_11 : decode cX12_guestOf 11 = .ok (.iaload, 1) := by decide +kernel
theorem dX12_guestOf_12 : decode cX12_guestOf 12 = .ok (.ireturn, 1) := by decide +kernel
set_option maxRecDepth 20000 in
theorem gX12_isAlone_X12_guests : GoodIn wsX12_isAlone (wsV RX12 328 RX12 yX12_guests wsX12_guests) := goodIn_r _ [1, 2, 3, 4, 5, 6, 11, 12, 13, 14, 15, 16, 17, 18, 19, 20, 21, 22, 23, 24, 25, 26, 27, 28, 29, 30, 31, 32, 33, 34, 35, 36, 37, 38, 39, 40, 41, 42, 43, 44, 45, 46, 47, 48, 49] rfl (by decide +kernel)
set_option maxRecDepth 20000 in
theorem gX12_isAlone_X12_guestOf : GoodIn wsX12_isAlone (wsV RX12 353 RX12 yX12_guestOf wsX12_guestOf) := goodIn_r _ [7, 8, 9, 4, 10, 6, 11, 12, 13, 14, 15, 16, 17, 18, 19, 20, 21, 22, 23, 24, 25, 26, 27, 28, 29, 30, 31, 32, 33, 34, 35, 36, 37, 38, 39, 40, 41, 42, 43, 44, 45, 46, 47, 48, 49] rfl (by decide +kernel)
theorem dX12_isAlone_0 : decode cX12_isAlone 0 = .ok (.iconst 1, 1) := by decide +kernel
theorem dX12_isAlone_1 : decode cX12_isAlone 1 = .ok (.istore_n 2, 1) := by decide +kernel
theorem dX12_isAlone_2 : decode cX12_isAlone 2 = .ok (.iconst 0, 1) := by decide +kernel
theorem dX12_isAlone_3 : decode cX12_isAlone 3 = .ok (.istore_n 3, 1) := by decide +kernel
theorem dX12_isAlone_4 : decode cX12_isAlone 4 = .ok (.iload_n 3, 1) := by decide +kernel
theorem dX12_isAlone_5 : decode cX12_isAlone 5 = .ok (.aload_n 0, 1) := by decide +kernel
theorem dX12_isAlone_6 : decode cX12_isAlone 6 = .ok (.invokevirtual 328, 3) := by decide +kernel
theorem dX12_isAlone_9 : decode cX12_isAlone 9 = .ok (.if_icmp .ge 39, 3) := by decide +kernel
theorem dX12_isAlone_12 : decode cX12_isAlone 12 = .ok (.iload_n 2, 1) := by decide +kernel
theorem dX12_isAlone_13 : decode cX12_isAlone 13 = .ok (.ifCond .eq 27, 3) := by decide +kernel
theorem dX12_isAlone_16 : decode cX12_isAlone 16 = .ok (.iload_n 3, 1) := by decide +kernel
theorem dX12_isAlone_17 : decode cX12_isAlone 17 = .ok (.iload_n 1, 1) := by decide +kernel
theorem dX12_isAlone_18 : decode cX12_isAlone 18 = .ok (.if_icmp .eq 18, 3) := by decide +kernel
theorem dX12_isAlone_21 : decode cX12_isAlone 21 = .ok (.aload_n 0, 1) := by decide +kernel
theorem dX12_isAlone_22 : decode cX12_isAlone 22 = .ok (.iload_n 3, 1) := by decide +kernel
theorem dX12_isAlone_23 : decode cX12_isAlone 23 = .ok (.iconst 1, 1) := by decide +kernel
theorem dX12_isAlone_24 : decode cX12_isAlone 24 = .ok (.invokevirtual 353, 3) := by decide +kernel
theorem dX12_isAlone_27 : decode cX12_isAlone 27 = .ok (.aload_n 0, 1) := by decide +kernel
theorem dX12_isAlone_28 : decode cX12_isAlone 28 = .ok (.iload_n 1, 1) := by decide +kernel
theorem dX12_isAlone_29 : decode cX12_isAlone 29 = .ok (.iconst 1, 1) := by decide +kernel
theorem dX12_isAlone_30 : decode cX12_isAlone 30 = .ok (.invokevirtual 353, 3) := by decide +kernel
theorem dX12_isAlone_33 : decode cX12_isAlone 33 = .ok (.if_icmp .eq 7, 3) := by decide +kernel
theorem dX12_isAlone_36 : decode cX12_isAlone 36 = .ok (.iconst 1, 1) := by decide +kernel
theorem dX12_isAlone_37 : decode cX12_isAlone 37 = .ok (.goto 4, 3) := by decide +kernel
theorem dX12_isAlone_40 : decode cX12_isAlone 40 = .ok (.iconst 0, 1) := by decide +kernel
theorem dX12_isAlone_41 : decode cX12_isAlone 41 = .ok (.istore_n 2, 1) := by decide +kernel
theorem dX12_isAlone_42 : decode cX12_isAlone 42 = .ok (.iinc 3 1, 3) := by decide +kernel
theorem dX12_isAlone_45 : decode cX12_isAlone 45 = .ok (.goto (-41), 3) := by decide +kernel
theorem dX12_isAlone_48 : decode cX12_isAlone 48 = .ok (.iload_n 2, 1) := by decide +kernel
theorem dX12_isAlone_49 : decode cX12_isAlone 49 = .ok (.ireturn, 1) := by decide +kernel
theorem dX12_worldsOf_0 : decode cX12_worldsOf 0 = .ok (.bipush 15, 2) := by decide +kernel
theorem dX12_worldsOf_2 : decode cX12_worldsOf 2 = .ok (.iconst 4, 1) := by decide +kernel
theorem dX12_worldsOf_3 : decode cX12_worldsOf 3 = .ok (.iload_n 0, 1) := by decide +kernel
theorem dX12_worldsOf_4 : decode cX12_worldsOf 4 = .ok (.imul, 1) := by decide +kernel
theorem dX12_worldsOf_5 : decode cX12_worldsOf 5 = .ok (.ishl, 1) := by decide +kernel
theorem dX12_worldsOf_6 : decode cX12_worldsOf 6 = .ok (.ireturn, 1) := by decide +kernel
set_option maxRecDepth 20000 in
theorem gX12_soOf_X12_guests : GoodIn wsX12_soOf (wsV RX12 328 RX12 yX12_guests wsX12_guests) := goodIn_r _ [1, 2, 3, 4, 5, 6, 18, 19, 20, 21, 22, 23, 24, 25, 26, 27, 28, 29, 30, 31, 32, 33, 34, 35, 36, 37, 38, 39, 40, 41, 42, 43, 44, 45, 46, 47, 48, 49, 50, 51, 52, 53, 54, 55, 56] rfl (by decide +kernel)
set_option maxRecDepth 20000 in
theorem gX12_soOf_X12_guestOf : GoodIn wsX12_soOf (wsV RX12 353 RX12 yX12_guestOf wsX12_guestOf) := goodIn_r _ [7, 8, 9, 4, 10, 6, 18, 19, 20, 21, 22, 23, 24, 25, 26, 27, 28, 29, 30, 31, 32, 33, 34, 35, 36, 37, 38, 39, 40, 41, 42, 43, 44, 45, 46, 47, 48, 49, 50, 51, 52, 53, 54, 55, 56] rfl (by decide +kernel)
set_option maxRecDepth 20000 in
theorem gX12_soOf_X12_isAlone : GoodIn wsX12_soOf (wsV RX12 356 RX12 yX12_isAlone wsX12_isAlone) := goodIn_r _ [11, 12, 13, 4, 14, 1, 2, 3, 4, 5, 6, 7, 8, 9, 10, 18, 19, 20, 21, 22, 23, 24, 25, 26, 27, 28, 29, 30, 31, 32, 33, 34, 35, 36, 37, 38, 39, 40, 41, 42, 43, 44, 45, 46, 47, 48, 49, 50, 51, 52, 53, 54, 55, 56] rfl (by decide +kernel)
set_option maxRecDepth 20000 in
theorem gX12_soOf_X12_worldsOf : GoodIn wsX12_soOf (va_wsS RX12 359 yX12_worldsOf wsX12_worldsOf) := goodIn_r _ [15, 16, 4, 17] rfl (by decide +kernel)
theorem dX12_soOf_0 : decode cX12_soOf 0 = .ok (.iconst 0, 1) := by decide +kernel
theorem dX12_soOf_1 : decode cX12_soOf 1 = .ok (.istore_n 2, 1) := by decide +kernel
theorem dX12_soOf_2 : decode cX12_soOf 2 = .ok (.iconst 0, 1) := by decide +kernel
theorem dX12_soOf_3 : decode cX12_soOf 3 = .ok (.istore_n 3, 1) := by decide +kernel
theorem dX12_soOf_4 : decode cX12_soOf 4 = .ok (.iload_n 3, 1) := by decide +kernel
theorem dX12_soOf_5 : decode cX12_soOf 5 = .ok (.aload_n 0, 1) := by decide +kernel
theorem dX12_soOf_6 : decode cX12_soOf 6 = .ok (.invokevirtual 328, 3) := by decide +kernel
theorem dX12_soOf_9 : decode cX12_soOf 9 = .ok (.if_icmp .ge 121, 3) := by decide +kernel
theorem dX12_soOf_12 : decode cX12_soOf 12 = .ok (.aload_n 0, 1) := by decide +kernel
theorem dX12_soOf_13 : decode cX12_soOf 13 = .ok (.iload_n 3, 1) := by decide +kernel
theorem dX12_soOf_14 : decode cX12_soOf 14 = .ok (.iconst 1, 1) := by decide +kernel
theorem dX12_soOf_15 : decode cX12_soOf 15 = .ok (.invokevirtual 353, 3) := by decide +kernel
theorem dX12_soOf_18 : decode cX12_soOf 18 = .ok (.istore 4, 2) := by decide +kernel
theorem dX12_soOf_20 : decode cX12_soOf 20 = .ok (.iload_n 1, 1) := by decide +kernel
theorem dX12_soOf_21 : decode cX12_soOf 21 = .ok (.iconst 4, 1) := by decide +kernel
theorem dX12_soOf_22 : decode cX12_soOf 22 = .ok (.if_icmp .ne 19, 3) := by decide +kernel
theorem dX12_soOf_25 : decode cX12_soOf 25 = .ok (.iload 4, 2) := by decide +kernel
theorem dX12_soOf_27 : decode cX12_soOf 27 = .ok (.iconst 2, 1) := by decide +kernel
theorem dX12_soOf_28 : decode cX12_soOf 28 = .ok (.irem, 1) := by decide +kernel
theorem dX12_soOf_29 : decode cX12_soOf 29 = .ok (.iconst 1, 1) := by decide +kernel
theorem dX12_soOf_30 : decode cX12_soOf 30 = .ok (.if_icmp .ne 7, 3) := by decide +kernel
theorem dX12_soOf_33 : decode cX12_soOf 33 = .ok (.iconst 1, 1) := by decide +kernel
theorem dX12_soOf_34 : decode cX12_soOf 34 = .ok (.goto 57, 3) := by decide +kernel
theorem dX12_soOf_37 : decode cX12_soOf 37 = .ok (.iconst 0, 1) := by decide +kernel
theorem dX12_soOf_38 : decode cX12_soOf 38 = .ok (.goto 53, 3) := by decide +kernel
theorem dX12_soOf_41 : decode cX12_soOf 41 = .ok (.iload_n 1, 1) := by decide +kernel
theorem dX12_soOf_42 : decode cX12_soOf 42 = .ok (.iconst 5, 1) := by decide +kernel
theorem dX12_soOf_43 : decode cX12_soOf 43 = .ok (.if_icmp .ne 18, 3) := by decide +kernel
theorem dX12_soOf_46 : decode cX12_soOf 46 = .ok (.iload 4, 2) := by decide +kernel
theorem dX12_soOf_48 : decode cX12_soOf 48 = .ok (.bipush 6, 2) := by decide +kernel
theorem dX12_soOf_50 : decode cX12_soOf 50 = .ok (.if_icmp .gt 7, 3) := by decide +kernel
theorem dX12_soOf_53 : decode cX12_soOf 53 = .ok (.iconst 1, 1) := by decide +kernel
theorem dX12_soOf_54 : decode cX12_soOf 54 = .ok (.goto 37, 3) := by decide +kernel
theorem dX12_soOf_57 : decode cX12_soOf 57 = .ok (.iconst 0, 1) := by decide +kernel
theorem dX12_soOf_58 : decode cX12_soOf 58 = .ok (.goto 33, 3) := by decide +kernel
theorem dX12_soOf_61 : decode cX12_soOf 61 = .ok (.iload_n 1, 1) := by decide +kernel
theorem dX12_soOf_62 : decode cX12_soOf 62 = .ok (.bipush 6, 2) := by decide +kernel
theorem dX12_soOf_64 : decode cX12_soOf 64 = .ok (.if_icmp .ne 11, 3) := by decide +kernel
theorem dX12_soOf_67 : decode cX12_soOf 67 = .ok (.aload_n 0, 1) := by decide +kernel
theorem dX12_soOf_68 : decode cX12_soOf 68 = .ok (.iload_n 3, 1) := by decide +kernel
theorem dX12_soOf_69 : decode cX12_soOf 69 = .ok (.invokevirtual 356, 3) := by decide +kernel
theorem dX12_soOf_72 : decode cX12_soOf 72 = .ok (.goto 19, 3) := by decide +kernel
theorem dX12_soOf_75 : decode cX12_soOf 75 = .ok (.aload_n 0, 1) := by decide +kernel
theorem dX12_soOf_76 : decode cX12_soOf 76 = .ok (.iload_n 3, 1) := by decide +kernel
theorem dX12_soOf_77 : decode cX12_soOf 77 = .ok (.iconst 2, 1) := by decide +kernel
theorem dX12_soOf_78 : decode cX12_soOf 78 = .ok (.invokevirtual 353, 3) := by decide +kernel
theorem dX12_soOf_81 : decode cX12_soOf 81 = .ok (.bipush 10, 2) := by decide +kernel
theorem dX12_soOf_83 : decode cX12_soOf 83 = .ok (.if_icmp .lt 7, 3) := by decide +kernel
theorem dX12_soOf_86 : decode cX12_soOf 86 = .ok (.iconst 1, 1) := by decide +kernel
theorem dX12_soOf_87 : decode cX12_soOf 87 = .ok (.goto 4, 3) := by decide +kernel
theorem dX12_soOf_90 : decode cX12_soOf 90 = .ok (.iconst 0, 1) := by decide +kernel
theorem dX12_soOf_91 : decode cX12_soOf 91 = .ok (.istore 5, 2) := by decide +kernel
theorem dX12_soOf_93 : decode cX12_soOf 93 = .ok (.iload_n 2, 1) := by decide +kernel
theorem dX12_soOf_94 : decode cX12_soOf 94 = .ok (.iload_n 1, 1) := by decide +kernel
theorem dX12_soOf_95 : decode cX12_soOf 95 = .ok (.iconst 4, 1) := by decide +kernel
theorem dX12_soOf_96 : decode cX12_soOf 96 = .ok (.if_icmp .ge 13, 3) := by decide +kernel
theorem dX12_soOf_99 : decode cX12_soOf 99 = .ok (.iconst 1, 1) := by decide +kernel
theorem dX12_soOf_100 : decode cX12_soOf 100 = .ok (.iconst 4, 1) := by decide +kernel
theorem dX12_soOf_101 : decode cX12_soOf 101 = .ok (.iload_n 3, 1) := by decide +kernel
theorem dX12_soOf_102 : decode cX12_soOf 102 = .ok (.imul, 1) := by decide +kernel
theorem dX12_soOf_103 : decode cX12_soOf 103 = .ok (.iload_n 1, 1) := by decide +kernel
theorem dX12_soOf_104 : decode cX12_soOf 104 = .ok (.iadd, 1) := by decide +kernel
theorem dX12_soOf_105 : decode cX12_soOf 105 = .ok (.ishl, 1) := by decide +kernel
theorem dX12_soOf_106 : decode cX12_soOf 106 = .ok (.goto 16, 3) := by decide +kernel
theorem dX12_soOf_109 : decode cX12_soOf 109 = .ok (.iload 5, 2) := by decide +kernel
theorem dX12_soOf_111 : decode cX12_soOf 111 = .ok (.ifCond .eq 10, 3) := by decide +kernel
theorem dX12_soOf_114 : decode cX12_soOf 114 = .ok (.iload_n 3, 1) := by decide +kernel
theorem dX12_soOf_115 : decode cX12_soOf 115 = .ok (.invokestatic 359, 3) := by decide +kernel
theorem dX12_soOf_118 : decode cX12_soOf 118 = .ok (.goto 4, 3) := by decide +kernel
theorem dX12_soOf_121 : decode cX12_soOf 121 = .ok (.iconst 0, 1) := by decide +kernel
theorem dX12_soOf_122 : decode cX12_soOf 122 = .ok (.ior, 1) := by decide +kernel
theorem dX12_soOf_123 : decode cX12_soOf 123 = .ok (.istore_n 2, 1) := by decide +kernel
theorem dX12_soOf_124 : decode cX12_soOf 124 = .ok (.iinc 3 1, 3) := by decide +kernel
theorem dX12_soOf_127 : decode cX12_soOf 127 = .ok (.goto (-123), 3) := by decide +kernel
theorem dX12_soOf_130 : decode cX12_soOf 130 = .ok (.iload_n 2, 1) := by decide +kernel
theorem dX12_soOf_131 : decode cX12_soOf 131 = .ok (.ireturn, 1) := by decide +kernel
set_option maxRecDepth 20000 in
theorem gX12_worlds_X12_guests : GoodIn wsX12_worlds (wsV RX12 328 RX12 yX12_guests wsX12_guests) := goodIn_r _ [1, 2, 3, 4, 5, 6, 7, 8, 9, 10, 11, 12, 13, 14, 15, 16, 17, 18, 19, 20, 21, 22, 23, 24, 25, 26, 27, 28, 29, 30, 31, 32, 33, 34, 35, 36, 37, 38, 39, 40, 41, 42, 43, 44, 45] rfl (by decide +kernel)
theorem dX12_worlds_0 : decode cX12_worlds 0 = .ok (.iconst 4, 1) := by decide +kernel
theorem dX12_worlds_1 : decode cX12_worlds 1 = .ok (.aload_n 0, 1) := by decide +kernel
theorem dX12_worlds_2 : decode cX12_worlds 2 = .ok (.invokevirtual 328, 3) := by decide +kernel
theorem dX12_worlds_5 : decode cX12_worlds 5 = .ok (.imul, 1) := by decide +kernel
theorem dX12_worlds_6 : decode cX12_worlds 6 = .ok (.ireturn, 1) := by decide +kernel
set_option maxRecDepth 20000 in
theorem gX12_everyWorld_X12_worlds : GoodIn wsX12_everyWorld (wsV RX12 331 RX12 yX12_worlds wsX12_worlds) := goodIn_r _ [1, 2, 3, 4, 5, 6, 7, 8, 4, 9, 10, 11, 12, 13, 14, 15, 16, 17, 18, 19, 20, 21, 22, 23, 24, 25, 26, 27, 28, 29, 30, 31, 32, 33, 34, 35, 36, 37, 38, 39, 40, 41, 42, 43, 44, 45, 46, 47, 48, 49] rfl (by decide +kernel)
theorem dX12_everyWorld_0 : decode cX12_everyWorld 0 = .ok (.aload_n 0, 1) := by decide +kernel
theorem dX12_everyWorld_1 : decode cX12_everyWorld 1 = .ok (.invokevirtual 331, 3) := by decide +kernel
theorem dX12_everyWorld_4 : decode cX12_everyWorld 4 = .ok (.bipush 32, 2) := by decide +kernel
theorem dX12_everyWorld_6 : decode cX12_everyWorld 6 = .ok (.if_icmp .ne 7, 3) := by decide +kernel
theorem dX12_everyWorld_9 : decode cX12_everyWorld 9 = .ok (.iconst (-1), 1) := by decide +kernel
theorem dX12_everyWorld_10 : decode cX12_everyWorld 10 = .ok (.goto 11, 3) := by decide +kernel
theorem dX12_everyWorld_13 : decode cX12_everyWorld 13 = .ok (.iconst 1, 1) := by decide +kernel
theorem dX12_everyWorld_14 : decode cX12_everyWorld 14 = .ok (.aload_n 0, 1) := by decide +kernel
theorem dX12_everyWorld_15 : decode cX12_everyWorld 15 = .ok (.invokevirtual 331, 3) := by decide +kernel
theorem dX12_everyWorld_18 : decode cX12_everyWorld 18 = .ok (.ishl, 1) := by decide +kernel
theorem dX12_everyWorld_19 : decode cX12_everyWorld 19 = .ok (.iconst 1, 1) := by decide +kernel
theorem dX12_everyWorld_20 : decode cX12_everyWorld 20 = .ok (.isub, 1) := by decide +kernel
theorem dX12_everyWorld_21 : decode cX12_everyWorld 21 = .ok (.ireturn, 1) := by decide +kernel
set_option maxRecDepth 20000 in
theorem gX12_soIn_X12_soOf : GoodIn wsX12_soIn (wsV RX12 362 RX12 yX12_soOf wsX12_soOf) := goodIn_r _ [5, 6, 7, 8, 9, 10, 11, 12, 8, 13, 14, 15, 16, 17, 18, 19, 20, 21, 22, 23, 24, 25, 34, 35, 36, 37, 38, 39, 40, 41, 42, 43, 44, 45, 46, 47, 48, 49, 50, 51, 52, 53, 54, 55, 56, 57, 58, 59, 60, 61, 62, 63, 64, 65, 66, 67, 68, 69, 70, 71, 72] rfl (by decide +kernel)
set_option maxRecDepth 20000 in
theorem gX12_soIn_X12_worldsOf : GoodIn wsX12_soIn (va_wsS RX12 359 yX12_worldsOf wsX12_worldsOf) := goodIn_r _ [23, 24, 8, 25] rfl (by decide +kernel)
set_option maxRecDepth 20000 in
theorem gX12_soIn_X12_everyWorld : GoodIn wsX12_soIn (wsV RX12 334 RX12 yX12_everyWorld wsX12_everyWorld) := goodIn_r _ [26, 27, 28, 8, 29, 30, 31, 32, 8, 33, 10, 11, 12, 13, 14, 34, 35, 36, 37, 38, 39, 40, 41, 42, 43, 44, 45, 46, 47, 48, 49, 50, 51, 52, 53, 54, 55, 56, 57, 58, 59, 60, 61, 62, 63, 64, 65, 66, 67, 68, 69, 70, 71, 72] rfl (by decide +kernel)
theorem dX12_soIn_0 : decode cX12_soIn 0 = .ok (.iconst 0, 1) := by decide +kernel
theorem dX12_soIn_1 : decode cX12_soIn 1 = .ok (.istore_n 2, 1) := by decide +kernel
theorem dX12_soIn_2 : decode cX12_soIn 2 = .ok (.iload_n 1, 1) := by decide +kernel
theorem dX12_soIn_3 : decode cX12_soIn 3 = .ok (.istore_n 3, 1) := by decide +kernel
theorem dX12_soIn_4 : decode cX12_soIn 4 = .ok (.aload_n 0, 1) := by decide +kernel
theorem dX12_soIn_5 : decode cX12_soIn 5 = .ok (.getfield 104, 3) := by decide +kernel
theorem dX12_soIn_8 : decode cX12_soIn 8 = .ok (.iload_n 3, 1) := by decide +kernel
theorem dX12_soIn_9 : decode cX12_soIn 9 = .ok (.iaload, 1) := by decide +kernel
theorem dX12_soIn_10 : decode cX12_soIn 10 = .ok (.ifCond .eq 183, 3) := by decide +kernel
theorem dX12_soIn_13 : decode cX12_soIn 13 = .ok (.aload_n 0, 1) := by decide +kernel
theorem dX12_soIn_14 : decode cX12_soIn 14 = .ok (.getfield 104, 3) := by decide +kernel
theorem dX12_soIn_17 : decode cX12_soIn 17 = .ok (.iload_n 3, 1) := by decide +kernel
theorem dX12_soIn_18 : decode cX12_soIn 18 = .ok (.iaload, 1) := by decide +kernel
theorem dX12_soIn_19 : decode cX12_soIn 19 = .ok (.istore 4, 2) := by decide +kernel
theorem dX12_soIn_21 : decode cX12_soIn 21 = .ok (.iload 4, 2) := by decide +kernel
theorem dX12_soIn_23 : decode cX12_soIn 23 = .ok (.iconst 2, 1) := by decide +kernel
theorem dX12_soIn_24 : decode cX12_soIn 24 = .ok (.if_icmp .ne 25, 3) := by decide +kernel
theorem dX12_soIn_27 : decode cX12_soIn 27 = .ok (.aload_n 0, 1) := by decide +kernel
theorem dX12_soIn_28 : decode cX12_soIn 28 = .ok (.getfield 128, 3) := by decide +kernel
theorem dX12_soIn_31 : decode cX12_soIn 31 = .ok (.iload_n 2, 1) := by decide +kernel
theorem dX12_soIn_32 : decode cX12_soIn 32 = .ok (.aload_n 0, 1) := by decide +kernel
theorem dX12_soIn_33 : decode cX12_soIn 33 = .ok (.aload_n 0, 1) := by decide +kernel
theorem dX12_soIn_34 : decode cX12_soIn 34 = .ok (.getfield 107, 3) := by decide +kernel
theorem dX12_soIn_37 : decode cX12_soIn 37 = .ok (.iload_n 3, 1) := by decide +kernel
theorem dX12_soIn_38 : decode cX12_soIn 38 = .ok (.iaload, 1) := by decide +kernel
theorem dX12_soIn_39 : decode cX12_soIn 39 = .ok (.invokevirtual 362, 3) := by decide +kernel
theorem dX12_soIn_42 : decode cX12_soIn 42 = .ok (.iastore, 1) := by decide +kernel
theorem dX12_soIn_43 : decode cX12_soIn 43 = .ok (.iinc 2 1, 3) := by decide +kernel
theorem dX12_soIn_46 : decode cX12_soIn 46 = .ok (.goto 141, 3) := by decide +kernel
theorem dX12_soIn_49 : decode cX12_soIn 49 = .ok (.iload 4, 2) := by decide +kernel
theorem dX12_soIn_51 : decode cX12_soIn 51 = .ok (.iconst 1, 1) := by decide +kernel
theorem dX12_soIn_52 : decode cX12_soIn 52 = .ok (.if_icmp .ne 52, 3) := by decide +kernel
theorem dX12_soIn_55 : decode cX12_soIn 55 = .ok (.aload_n 0, 1) := by decide +kernel
theorem dX12_soIn_56 : decode cX12_soIn 56 = .ok (.getfield 128, 3) := by decide +kernel
theorem dX12_soIn_59 : decode cX12_soIn 59 = .ok (.iload_n 2, 1) := by decide +kernel
theorem dX12_soIn_60 : decode cX12_soIn 60 = .ok (.aload_n 0, 1) := by decide +kernel
theorem dX12_soIn_61 : decode cX12_soIn 61 = .ok (.getfield 107, 3) := by decide +kernel
theorem dX12_soIn_64 : decode cX12_soIn 64 = .ok (.iload_n 3, 1) := by decide +kernel
theorem dX12_soIn_65 : decode cX12_soIn 65 = .ok (.iaload, 1) := by decide +kernel
theorem dX12_soIn_66 : decode cX12_soIn 66 = .ok (.bipush 20, 2) := by decide +kernel
theorem dX12_soIn_68 : decode cX12_soIn 68 = .ok (.if_icmp .ge 15, 3) := by decide +kernel
theorem dX12_soIn_71 : decode cX12_soIn 71 = .ok (.aload_n 0, 1) := by decide +kernel
theorem dX12_soIn_72 : decode cX12_soIn 72 = .ok (.getfield 107, 3) := by decide +kernel
theorem dX12_soIn_75 : decode cX12_soIn 75 = .ok (.iload_n 3, 1) := by decide +kernel
theorem dX12_soIn_76 : decode cX12_soIn 76 = .ok (.iaload, 1) := by decide +kernel
theorem dX12_soIn_77 : decode cX12_soIn 77 = .ok (.invokestatic 359, 3) := by decide +kernel
theorem dX12_soIn_80 : decode cX12_soIn 80 = .ok (.goto 17, 3) := by decide +kernel
theorem dX12_soIn_83 : decode cX12_soIn 83 = .ok (.aload_n 0, 1) := by decide +kernel
theorem dX12_soIn_84 : decode cX12_soIn 84 = .ok (.getfield 138, 3) := by decide +kernel
theorem dX12_soIn_87 : decode cX12_soIn 87 = .ok (.aload_n 0, 1) := by decide +kernel
theorem dX12_soIn_88 : decode cX12_soIn 88 = .ok (.getfield 107, 3) := by decide +kernel
theorem dX12_soIn_91 : decode cX12_soIn 91 = .ok (.iload_n 3, 1) := by decide +kernel
theorem dX12_soIn_92 : decode cX12_soIn 92 = .ok (.iaload, 1) := by decide +kernel
theorem dX12_soIn_93 : decode cX12_soIn 93 = .ok (.bipush 20, 2) := by decide +kernel
theorem dX12_soIn_95 : decode cX12_soIn 95 = .ok (.isub, 1) := by decide +kernel
theorem dX12_soIn_96 : decode cX12_soIn 96 = .ok (.iaload, 1) := by decide +kernel
theorem dX12_soIn_97 : decode cX12_soIn 97 = .ok (.iastore, 1) := by decide +kernel
theorem dX12_soIn_98 : decode cX12_soIn 98 = .ok (.iinc 2 1, 3) := by decide +kernel
theorem dX12_soIn_101 : decode cX12_soIn 101 = .ok (.goto 86, 3) := by decide +kernel
theorem dX12_soIn_104 : decode cX12_soIn 104 = .ok (.iload 4, 2) := by decide +kernel
theorem dX12_soIn_106 : decode cX12_soIn 106 = .ok (.iconst 3, 1) := by decide +kernel
theorem dX12_soIn_107 : decode cX12_soIn 107 = .ok (.if_icmp .ne 29, 3) := by decide +kernel
theorem dX12_soIn_110 : decode cX12_soIn 110 = .ok (.aload_n 0, 1) := by decide +kernel
theorem dX12_soIn_111 : decode cX12_soIn 111 = .ok (.getfield 128, 3) := by decide +kernel
theorem dX12_soIn_114 : decode cX12_soIn 114 = .ok (.iload_n 2, 1) := by decide +kernel
theorem dX12_soIn_115 : decode cX12_soIn 115 = .ok (.iconst 1, 1) := by decide +kernel
theorem dX12_soIn_116 : decode cX12_soIn 116 = .ok (.isub, 1) := by decide +kernel
theorem dX12_soIn_117 : decode cX12_soIn 117 = .ok (.aload_n 0, 1) := by decide +kernel
theorem dX12_soIn_118 : decode cX12_soIn 118 = .ok (.getfield 128, 3) := by decide +kernel
theorem dX12_soIn_121 : decode cX12_soIn 121 = .ok (.iload_n 2, 1) := by decide +kernel
theorem dX12_soIn_122 : decode cX12_soIn 122 = .ok (.iconst 1, 1) := by decide +kernel
theorem dX12_soIn_123 : decode cX12_soIn 123 = .ok (.isub, 1) := by decide +kernel
theorem dX12_soIn_124 : decode cX12_soIn 124 = .ok (.iaload, 1) := by decide +kernel
theorem dX12_soIn_125 : decode cX12_soIn 125 = .ok (.iconst (-1), 1) := by decide +kernel
theorem dX12_soIn_126 : decode cX12_soIn 126 = .ok (.ixor, 1) := by decide +kernel
theorem dX12_soIn_127 : decode cX12_soIn 127 = .ok (.aload_n 0, 1) := by decide +kernel
theorem dX12_soIn_128 : decode cX12_soIn 128 = .ok (.invokevirtual 334, 3) := by decide +kernel
theorem dX12_soIn_131 : decode cX12_soIn 131 = .ok (.iand, 1) := by decide +kernel
theorem dX12_soIn_132 : decode cX12_soIn 132 = .ok (.iastore, 1) := by decide +kernel
theorem dX12_soIn_133 : decode cX12_soIn 133 = .ok (.goto 54, 3) := by decide +kernel
theorem dX12_soIn_136 : decode cX12_soIn 136 = .ok (.iinc 2 (-1), 3) := by decide +kernel
theorem dX12_soIn_139 : decode cX12_soIn 139 = .ok (.aload_n 0, 1) := by decide +kernel
theorem dX12_soIn_140 : decode cX12_soIn 140 = .ok (.getfield 128, 3) := by decide +kernel
theorem dX12_soIn_143 : decode cX12_soIn 143 = .ok (.iload_n 2, 1) := by decide +kernel
theorem dX12_soIn_144 : decode cX12_soIn 144 = .ok (.iconst 1, 1) := by decide +kernel
theorem dX12_soIn_145 : decode cX12_soIn 145 = .ok (.isub, 1) := by decide +kernel
theorem dX12_soIn_146 : decode cX12_soIn 146 = .ok (.iload 4, 2) := by decide +kernel
theorem dX12_soIn_148 : decode cX12_soIn 148 = .ok (.bipush 9, 2) := by decide +kernel
theorem dX12_soIn_150 : decode cX12_soIn 150 = .ok (.if_icmp .ne 21, 3) := by decide +kernel
theorem dX12_soIn_153 : decode cX12_soIn 153 = .ok (.aload_n 0, 1) := by decide +kernel
theorem dX12_soIn_154 : decode cX12_soIn 154 = .ok (.getfield 128, 3) := by decide +kernel
theorem dX12_soIn_157 : decode cX12_soIn 157 = .ok (.iload_n 2, 1) := by decide +kernel
theorem dX12_soIn_158 : decode cX12_soIn 158 = .ok (.iconst 1, 1) := by decide +kernel
theorem dX12_soIn_159 : decode cX12_soIn 159 = .ok (.isub, 1) := by decide +kernel
theorem dX12_soIn_160 : decode cX12_soIn 160 = .ok (.iaload, 1) := by decide +kernel
theorem dX12_soIn_161 : decode cX12_soIn 161 = .ok (.aload_n 0, 1) := by decide +kernel
theorem dX12_soIn_162 : decode cX12_soIn 162 = .ok (.getfield 128, 3) := by decide +kernel
theorem dX12_soIn_165 : decode cX12_soIn 165 = .ok (.iload_n 2, 1) := by decide +kernel
theorem dX12_soIn_166 : decode cX12_soIn 166 = .ok (.iaload, 1) := by decide +kernel
theorem dX12_soIn_167 : decode cX12_soIn 167 = .ok (.iand, 1) := by decide +kernel
theorem dX12_soIn_168 : decode cX12_soIn 168 = .ok (.goto 18, 3) := by decide +kernel
theorem dX12_soIn_171 : decode cX12_soIn 171 = .ok (.aload_n 0, 1) := by decide +kernel
theorem dX12_soIn_172 : decode cX12_soIn 172 = .ok (.getfield 128, 3) := by decide +kernel
theorem dX12_soIn_175 : decode cX12_soIn 175 = .ok (.iload_n 2, 1) := by decide +kernel
theorem dX12_soIn_176 : decode cX12_soIn 176 = .ok (.iconst 1, 1) := by decide +kernel
theorem dX12_soIn_177 : decode cX12_soIn 177 = .ok (.isub, 1) := by decide +kernel
theorem dX12_soIn_178 : decode cX12_soIn 178 = .ok (.iaload, 1) := by decide +kernel
theorem dX12_soIn_179 : decode cX12_soIn 179 = .ok (.aload_n 0, 1) := by decide +kernel
theorem dX12_soIn_180 : decode cX12_soIn 180 = .ok (.getfield 128, 3) := by decide +kernel
theorem dX12_soIn_183 : decode cX12_soIn 183 = .ok (.iload_n 2, 1) := by decide +kernel
theorem dX12_soIn_184 : decode cX12_soIn 184 = .ok (.iaload, 1) := by decide +kernel
theorem dX12_soIn_185 : decode cX12_soIn 185 = .ok (.ior, 1) := by decide +kernel
theorem dX12_soIn_186 : decode cX12_soIn 186 = .ok (.iastore, 1) := by decide +kernel
theorem dX12_soIn_187 : decode cX12_soIn 187 = .ok (.iinc 3 1, 3) := by decide +kernel
theorem dX12_soIn_190 : decode cX12_soIn 190 = .ok (.goto (-186), 3) := by decide +kernel
theorem dX12_soIn_193 : decode cX12_soIn 193 = .ok (.aload_n 0, 1) := by decide +kernel
theorem dX12_soIn_194 : decode cX12_soIn 194 = .ok (.getfield 128, 3) := by decide +kernel
theorem dX12_soIn_197 : decode cX12_soIn 197 = .ok (.iconst 0, 1) := by decide +kernel
theorem dX12_soIn_198 : decode cX12_soIn 198 = .ok (.iaload, 1) := by decide +kernel
theorem dX12_soIn_199 : decode cX12_soIn 199 = .ok (.ireturn, 1) := by decide +kernel
set_option maxRecDepth 20000 in
theorem gX12_starts_X12_everyWorld : GoodIn wsX12_starts (wsV RX12 334 RX12 yX12_everyWorld wsX12_everyWorld) := goodIn_r _ [2, 3, 4, 5, 6, 7, 8, 9, 5, 10, 11, 12, 13, 14, 15, 16, 17, 18, 19, 20, 21, 22, 23, 24, 25, 26, 27, 28, 29, 30, 31, 32, 33, 34, 35, 36, 37, 38, 39, 40, 41, 42, 43, 44, 45, 46, 47, 48, 49, 50, 51, 52, 53, 54] rfl (by decide +kernel)
theorem dX12_starts_0 : decode cX12_starts 0 = .ok (.aload_n 0, 1) := by decide +kernel
theorem dX12_starts_1 : decode cX12_starts 1 = .ok (.getfield 131, 3) := by decide +kernel
theorem dX12_starts_4 : decode cX12_starts 4 = .ok (.iload_n 1, 1) := by decide +kernel
theorem dX12_starts_5 : decode cX12_starts 5 = .ok (.iconst 0, 1) := by decide +kernel
theorem dX12_starts_6 : decode cX12_starts 6 = .ok (.iadd, 1) := by decide +kernel
theorem dX12_starts_7 : decode cX12_starts 7 = .ok (.aload_n 0, 1) := by decide +kernel
theorem dX12_starts_8 : decode cX12_starts 8 = .ok (.invokevirtual 334, 3) := by decide +kernel
theorem dX12_starts_11 : decode cX12_starts 11 = .ok (.iastore, 1) := by decide +kernel
theorem dX12_starts_12 : decode cX12_starts 12 = .ok (.aload_n 0, 1) := by decide +kernel
theorem dX12_starts_13 : decode cX12_starts 13 = .ok (.getfield 131, 3) := by decide +kernel
theorem dX12_starts_16 : decode cX12_starts 16 = .ok (.iload_n 1, 1) := by decide +kernel
theorem dX12_starts_17 : decode cX12_starts 17 = .ok (.iconst 1, 1) := by decide +kernel
theorem dX12_starts_18 : decode cX12_starts 18 = .ok (.iadd, 1) := by decide +kernel
theorem dX12_starts_19 : decode cX12_starts 19 = .ok (.iconst 0, 1) := by decide +kernel
theorem dX12_starts_20 : decode cX12_starts 20 = .ok (.iastore, 1) := by decide +kernel
theorem dX12_starts_21 : decode cX12_starts 21 = .ok (.return_, 1) := by decide +kernel
section
variable {p : Program} {l : Launch} {e : Env} {s : State} {m : MethodId} {args : Array Value} {below : List Frame} {meth : Method} {c : Code} {D : va_G} {cy : Nat → ClassId} {ad : Nat → Nat} {A : Nat → Prop} {aM aB aO aI aN aT aC aG aR aQ aK aL aX aH aJ aP aU aE0 aE1 aE2 aE3 : Nat → Nat} {gi : Value}
abbrev rm12_lay : Room := { frames := 0, cells := 0, slots := 0, locals := 0 }
theorem hdV12_lay : yX12_lay.cls = RX12 ∧ (yX12_lay.cls ≠ "java/lang/invoke/MethodHandle" ∧ yX12_lay.cls ≠ "java/lang/invoke/VarHandle" ∧ (parseMethodDescriptor yX12_lay.desc).map (fun d => d.parameters.length) = some 1) := by decide +kernel
theorem hin12_lay_12 : ∀ x ∈ u_ws RX12 TX12 39, x ∈ wsX12_lay := fun _ h => List.mem_cons_of_mem _ (List.mem_append_right _ h)
set_option maxRecDepth 100000 in
set_option maxHeartbeats 4000000 in
theorem t12_lay_69 (hC : Cx p s m args meth c cX12_lay 5 wsX12_lay RX12 none) {k3 : Int64 → Int32 → Ob → Option (Ob)} (hk3 : ∀ (x1 : Int64) (x3 : Int32) (SM : Ob) (res : Ob) (H : Heap) (locs : List Loc) (ls : Array Slot), k3 x1 x3 SM = some res → GW D cy ad (w12 cy aM SM) A s H locs → lv_has ls 5 [(0, .ref (aM 0)), (1, .long x1), (3, .int x3)] → W p l e rm12_lay s m args below meth c H locs 0 0 (MQ below (QV D cy (w12 cy aM res) A) args s 0 0 A) (F0 m 3 ls [])) : ∀ (x1 : Int64) (x3 : Int32) (SM : Ob) (res : Ob) (H : Heap) (locs : List Loc) (ls : Array Slot), f12_lay_69 k3 x1 x3 SM = some res → GW D cy ad (w12 cy aM SM) A s H locs → lv_has ls 5 [(0, .ref (aM 0)), (1, .long x1), (3, .int x3)] → W p l e rm12_lay s m args below meth c H locs 0 0 (MQ below (QV D cy (w12 cy aM res) A) args s 0 0 A) (F0 m 69 ls []) := by
  intro x1 x3 SM res H locs ls hf hW hl
  unfold f12_lay_69 at hf
  obtain ⟨x3_1, ex3_1⟩ : ∃ y : Int32, y = x3 + (-8) := ⟨_, rfl⟩
  have hf := lt_nm hf ex3_1
  refine lv_iinc (v := x3_1) (lv' := [(3, .int x3_1), (0, .ref (aM 0)), (1, .long x1)]) hC.1 hC.2.1 dX12_lay_69 hl (k := 2) rfl (by rw [ex3_1]; rfl) (by decide) rfl (fun ls hl => ?_)
  refine lv_goto (tgt := 3) hC.1 hC.2.1 dX12_lay_72 (by decide) ?_
  exact hk3 _ _ _ _ _ _ _ hf hW (lv_sub hl [1, 2, 0] rfl)
set_option maxRecDepth 100000 in
set_option maxHeartbeats 4000000 in
theorem t12_lay_38 (hC : Cx p s m args meth c cX12_lay 5 wsX12_lay RX12 none) {k3 : Int64 → Int32 → Ob → Option (Ob)} (hk3 : ∀ (x1 : Int64) (x3 : Int32) (SM : Ob) (res : Ob) (H : Heap) (locs : List Loc) (ls : Array Slot), k3 x1 x3 SM = some res → GW D cy ad (w12 cy aM SM) A s H locs → lv_has ls 5 [(0, .ref (aM 0)), (1, .long x1), (3, .int x3)] → W p l e rm12_lay s m args below meth c H locs 0 0 (MQ below (QV D cy (w12 cy aM res) A) args s 0 0 A) (F0 m 3 ls [])) : ∀ (x1 : Int64) (x3 : Int32) (x4 : Int32) (SM : Ob) (res : Ob) (H : Heap) (locs : List Loc) (ls : Array Slot), f12_lay_38 k3 x1 x3 x4 SM = some res → GW D cy ad (w12 cy aM SM) A s H locs → lv_has ls 5 [(0, .ref (aM 0)), (1, .long x1), (3, .int x3), (4, .int x4)] → W p l e rm12_lay s m args below meth c H locs 0 0 (MQ below (QV D cy (w12 cy aM res) A) args s 0 0 A) (F0 m 38 ls []) := by
  intro x1 x3 x4 SM res H locs ls hf hW hl
  unfold f12_lay_38 at hf
  refine lv_aload_n hC.1 hC.2.1 dX12_lay_38 rfl (lv_at hl 0 rfl) ?_
  refine g_get hC hW hin12_lay_12 0 rfl rfl 2 (by decide) 1 rfl rfl dX12_lay_39 ?_
  refine lv_sipush (v := 1000) hC.1 hC.2.1 dX12_lay_42 (by decide) ?_
  refine lv_icmp_ge (tgt := 69) hC.1 hC.2.1 dX12_lay_45 (by decide) (fun hc_1 => ?_) (fun hc_1 => ?_)
  · have hf := ite_t hf hc_1
    exact t12_lay_69 hC hk3  _ _ _ _ _ _ _ hf hW (lv_sub hl [0, 1, 2] rfl)
  · have hf := ite_f hf hc_1
    refine lv_aload_n hC.1 hC.2.1 dX12_lay_48 rfl (lv_at hl 0 rfl) ?_
    refine g_get hC hW hin12_lay_12 0 rfl rfl 1 (by decide) 2 rfl rfl dX12_lay_49 ?_
    refine lv_aload_n hC.1 hC.2.1 dX12_lay_52 rfl (lv_at hl 0 rfl) ?_
    refine g_get hC hW hin12_lay_12 0 rfl rfl 2 (by decide) 1 rfl rfl dX12_lay_53 ?_
    refine lv_iload hC.1 hC.2.1 dX12_lay_56 (lv_at hl 3 rfl) ?_
    obtain ⟨hi_2, hf⟩ := ck_of hf
    obtain ⟨SM_3, eSM_3⟩ : ∃ y : Ob, y = oA SM 1 (Int32.toNatClampNeg (SM.1 2)) x4 := ⟨_, rfl⟩
    have hf := lt_nm hf eSM_3
    refine g_iast hC hW 1 rfl hi_2 (w' := w12 cy aM SM_3) (by rw [eSM_3]; rfl) dX12_lay_58 (fun H locs hW => ?_)
    refine lv_aload_n hC.1 hC.2.1 dX12_lay_59 rfl (lv_at hl 0 rfl) ?_
    refine lv_dup hC.1 hC.2.1 dX12_lay_60 rfl ?_
    refine g_get hC hW hin12_lay_12 0 rfl rfl 2 (by decide) 1 rfl rfl dX12_lay_61 ?_
    refine lv_iconst (v := 1) hC.1 hC.2.1 dX12_lay_64 (by decide) ?_
    refine lv_iadd hC.1 hC.2.1 dX12_lay_65 ?_
    obtain ⟨SM_4, eSM_4⟩ : ∃ y : Ob, y = oI SM_3 2 ((SM_3.1 2) + 1) := ⟨_, rfl⟩
    have hf := lt_nm hf eSM_4
    refine g_put hC hW hin12_lay_12 tyX12 tyX12_ok nmX12 0 rfl rfl 2 (by decide) 1 rfl rfl rfl rfl (Nat.le_of_ble_eq_true rfl) (w' := w12 cy aM SM_4) (by rw [eSM_4]; rfl) dX12_lay_66 (fun H locs hW => ?_)
    exact t12_lay_69 hC hk3  _ _ _ _ _ _ _ hf hW (lv_sub hl [0, 1, 2] rfl)
set_option maxRecDepth 100000 in
set_option maxHeartbeats 4000000 in
theorem t12_lay_3 (hC : Cx p s m args meth c cX12_lay 5 wsX12_lay RX12 none) : ∀ n : Nat, ∀ (x1 : Int64) (x3 : Int32) (SM : Ob) (res : Ob) (H : Heap) (locs : List Loc) (ls : Array Slot), f12_lay_3 n x1 x3 SM = some res → GW D cy ad (w12 cy aM SM) A s H locs → lv_has ls 5 [(0, .ref (aM 0)), (1, .long x1), (3, .int x3)] → W p l e rm12_lay s m args below meth c H locs 0 0 (MQ below (QV D cy (w12 cy aM res) A) args s 0 0 A) (F0 m 3 ls []) := by
  intro n
  induction n with
  | zero =>
    intro _ _ _ _ _ _ _ hf _ _
    exact nomatch (show (none : Option (Ob)) = some _ from hf)
  | succ n ih =>
    intro x1 x3 SM res H locs ls hf hW hl
    rw [f12_lay_3] at hf
    refine lv_iload_n hC.1 hC.2.1 dX12_lay_3 rfl (lv_at hl 2 rfl) ?_
    refine lv_if_lt (tgt := 75) hC.1 hC.2.1 dX12_lay_4 (by decide) (fun hc_1 => ?_) (fun hc_1 => ?_)
    · have hf := ite_t hf hc_1
      obtain rfl := Option.some.inj hf
      exact g_vret hC hW dX12_lay_75
    · have hf := ite_f hf hc_1
      refine lv_lload_n hC.1 hC.2.1 dX12_lay_7 rfl (lv_at hl 1 rfl) ?_
      refine lv_iload_n hC.1 hC.2.1 dX12_lay_8 rfl (lv_at hl 2 rfl) ?_
      refine lv_lshr (v := x1 >>> (Int32.toInt64 x3 &&& 63)) hC.1 hC.2.1 dX12_lay_9 rfl ?_
      refine lv_l2i (v := Int64.toInt32 (x1 >>> (Int32.toInt64 x3 &&& 63))) hC.1 hC.2.1 dX12_lay_10 rfl ?_
      refine lv_sipush (v := 255) hC.1 hC.2.1 dX12_lay_11 (by decide) ?_
      refine lv_iand hC.1 hC.2.1 dX12_lay_14 ?_
      refine lv_topi (fun x4_2 ex4_2 => ?_)
      have hf := lt_nm hf ex4_2
      refine lv_istore (lv' := [(4, .int x4_2), (0, .ref (aM 0)), (1, .long x1), (3, .int x3)]) hC.1 hC.2.1 dX12_lay_15 hl (by decide) rfl (fun ls hl => ?_)
      refine lv_iload hC.1 hC.2.1 dX12_lay_17 (lv_at hl 0 rfl) ?_
      refine lv_bipush (v := 10) hC.1 hC.2.1 dX12_lay_19 (by decide) ?_
      refine lv_icmp_eq (tgt := 38) hC.1 hC.2.1 dX12_lay_21 (by decide) (fun hc_3 => ?_) (fun hc_3 => ?_)
      · have hf := ite_t hf hc_3
        exact t12_lay_38 hC ih  _ _ _ _ _ _ _ _ hf hW (lv_sub hl [1, 2, 3, 0] rfl)
      · have hf := ite_f hf hc_3
        refine lv_iload hC.1 hC.2.1 dX12_lay_24 (lv_at hl 0 rfl) ?_
        refine lv_bipush (v := 32) hC.1 hC.2.1 dX12_lay_26 (by decide) ?_
        refine lv_icmp_lt (tgt := 69) hC.1 hC.2.1 dX12_lay_28 (by decide) (fun hc_4 => ?_) (fun hc_4 => ?_)
        · have hf := ite_t hf hc_4
          exact t12_lay_69 hC ih  _ _ _ _ _ _ _ hf hW (lv_sub hl [1, 2, 3] rfl)
        · have hf := ite_f hf hc_4
          refine lv_iload hC.1 hC.2.1 dX12_lay_31 (lv_at hl 0 rfl) ?_
          refine lv_bipush (v := 126) hC.1 hC.2.1 dX12_lay_33 (by decide) ?_
          refine lv_icmp_gt (tgt := 69) hC.1 hC.2.1 dX12_lay_35 (by decide) (fun hc_5 => ?_) (fun hc_5 => ?_)
          · have hf := ite_t hf hc_5
            exact t12_lay_69 hC ih  _ _ _ _ _ _ _ hf hW (lv_sub hl [1, 2, 3] rfl)
          · have hf := ite_f hf hc_5
            exact t12_lay_38 hC ih  _ _ _ _ _ _ _ _ hf hW (lv_sub hl [1, 2, 3, 0] rfl)
set_option maxRecDepth 100000 in
set_option maxHeartbeats 4000000 in
theorem t12_lay_0 (hC : Cx p s m args meth c cX12_lay 5 wsX12_lay RX12 none) : ∀ (x1 : Int64) (SM : Ob) (res : Ob) (H : Heap) (locs : List Loc) (ls : Array Slot), f12_lay x1 SM = some res → GW D cy ad (w12 cy aM SM) A s H locs → lv_has ls 5 [(0, .ref (aM 0)), (1, .long x1)] → W p l e rm12_lay s m args below meth c H locs 0 0 (MQ below (QV D cy (w12 cy aM res) A) args s 0 0 A) (F0 m 0 ls []) := by
  intro x1 SM res H locs ls hf hW hl
  unfold f12_lay at hf
  refine lv_bipush (v := 56) hC.1 hC.2.1 dX12_lay_0 (by decide) ?_
  refine lv_istore_n (lv' := [(3, .int 56), (0, .ref (aM 0)), (1, .long x1)]) hC.1 hC.2.1 dX12_lay_2 rfl hl (by decide) rfl (fun ls hl => ?_)
  exact t12_lay_3 hC _ _ _ _ _ _ _ _ hf hW (lv_sub hl [1, 2, 0] rfl)
set_option maxRecDepth 100000 in
set_option maxHeartbeats 4000000 in
theorem c12_lay (l : Launch) (D : va_G) (cy : Nat → ClassId) (ad : Nat → Nat) (aM : Nat → Nat) {x1 : Int64} {SM : Ob} {res : Ob} (h : f12_lay x1 SM = some res) : GCv l yX12_lay wsX12_lay rm12_lay [.ref (aM 0), .long x1] D cy ad (w12 cy aM SM) (w12 cy aM res) := fun sz => GC.start (own := RX12) (Qc := fun A => QV D cy (w12 cy aM res) A) sz (by decide) rfl rfl (Nat.le_of_ble_eq_true rfl) (fun p e s m below meth c A ls hC hW hl => t12_lay_0 hC _ _ _ _ _ _ h hW (lv_sub hl [0, 1] rfl))
abbrev rm12_feed : Room := { frames := 1, cells := 0, slots := 0, locals := 24 }
theorem hdV12_feed : yX12_feed.cls = RX12 ∧ (yX12_feed.cls ≠ "java/lang/invoke/MethodHandle" ∧ yX12_feed.cls ≠ "java/lang/invoke/VarHandle" ∧ (parseMethodDescriptor yX12_feed.desc).map (fun d => d.parameters.length) = some 3) := by decide +kernel
theorem hin12_feed_12 : ∀ x ∈ u_ws RX12 TX12 39, x ∈ wsX12_feed := fun _ h => List.mem_cons_of_mem _ (List.mem_append_right _ h)
set_option maxRecDepth 100000 in
set_option maxHeartbeats 4000000 in
theorem t12_feed_0 (hC : Cx p s m args meth c cX12_feed 7 wsX12_feed RX12 (some .int)) : ∀ (x1 : Int64) (x3 : Int64) (x5 : Int64) (SM : Ob) (res : Int32 × Ob) (H : Heap) (locs : List Loc) (ls : Array Slot), f12_feed x1 x3 x5 SM = some res → GW D cy ad (w12 cy aM SM) A s H locs → lv_has ls 7 [(0, .ref (aM 0)), (1, .long x1), (3, .long x3), (5, .long x5)] → W p l e rm12_feed s m args below meth c H locs 0 0 (MQ below (QI D cy (w12 cy aM (res.2)) A (res.1)) args s 0 0 A) (F0 m 0 ls []) := by
  intro x1 x3 x5 SM res H locs ls hf hW hl
  unfold f12_feed at hf
  refine lv_aload_n hC.1 hC.2.1 dX12_feed_0 rfl (lv_at hl 0 rfl) ?_
  refine lv_iconst (v := 0) hC.1 hC.2.1 dX12_feed_1 (by decide) ?_
  obtain ⟨SM_1, eSM_1⟩ : ∃ y : Ob, y = oI SM 0 0 := ⟨_, rfl⟩
  have hf := lt_nm hf eSM_1
  refine g_put hC hW hin12_feed_12 tyX12 tyX12_ok nmX12 0 rfl rfl 0 (by decide) 1 rfl rfl rfl rfl (Nat.le_of_ble_eq_true rfl) (w' := w12 cy aM SM_1) (by rw [eSM_1]; rfl) dX12_feed_2 (fun H locs hW => ?_)
  refine lv_aload_n hC.1 hC.2.1 dX12_feed_5 rfl (lv_at hl 0 rfl) ?_
  refine lv_lload_n hC.1 hC.2.1 dX12_feed_6 rfl (lv_at hl 1 rfl) ?_
  obtain ⟨r_2, hg_3, hf⟩ := bd_of hf
  refine g_callvV hC hW (c12_lay l D cy ad aM hg_3) (cwV 1 hC.2.2.2.2.1 gX12_feed_X12_lay rfl rfl rfl hdV12_lay ⟨Nat.le_of_ble_eq_true rfl, Nat.le_of_ble_eq_true rfl⟩) (Sub.all _ _) 0 11 rfl rfl rfl rfl hl.1 rfl (Nat.le_of_ble_eq_true rfl) dX12_feed_7 ⟨Nat.zero_le _, Nat.zero_le _⟩ (fun H locs hW => ?_)
  refine lv_aload_n hC.1 hC.2.1 dX12_feed_10 rfl (lv_at hl 0 rfl) ?_
  refine lv_lload_n hC.1 hC.2.1 dX12_feed_11 rfl (lv_at hl 2 rfl) ?_
  obtain ⟨r_4, hg_5, hf⟩ := bd_of hf
  refine g_callvV hC hW (c12_lay l D cy ad aM hg_5) (cwV 1 hC.2.2.2.2.1 gX12_feed_X12_lay rfl rfl rfl hdV12_lay ⟨Nat.le_of_ble_eq_true rfl, Nat.le_of_ble_eq_true rfl⟩) (Sub.all _ _) 0 11 rfl rfl rfl rfl hl.1 rfl (Nat.le_of_ble_eq_true rfl) dX12_feed_12 ⟨Nat.zero_le _, Nat.zero_le _⟩ (fun H locs hW => ?_)
  refine lv_aload_n hC.1 hC.2.1 dX12_feed_15 rfl (lv_at hl 0 rfl) ?_
  refine lv_lload hC.1 hC.2.1 dX12_feed_16 (lv_at hl 3 rfl) ?_
  obtain ⟨r_6, hg_7, hf⟩ := bd_of hf
  refine g_callvV hC hW (c12_lay l D cy ad aM hg_7) (cwV 1 hC.2.2.2.2.1 gX12_feed_X12_lay rfl rfl rfl hdV12_lay ⟨Nat.le_of_ble_eq_true rfl, Nat.le_of_ble_eq_true rfl⟩) (Sub.all _ _) 0 11 rfl rfl rfl rfl hl.1 rfl (Nat.le_of_ble_eq_true rfl) dX12_feed_18 ⟨Nat.zero_le _, Nat.zero_le _⟩ (fun H locs hW => ?_)
  refine lv_aload_n hC.1 hC.2.1 dX12_feed_21 rfl (lv_at hl 0 rfl) ?_
  refine g_get hC hW hin12_feed_12 0 rfl rfl 2 (by decide) 2 rfl rfl dX12_feed_22 ?_
  obtain rfl := Option.some.inj hf
  exact g_iret hC hW dX12_feed_25
set_option maxRecDepth 100000 in
set_option maxHeartbeats 4000000 in
theorem c12_feed (l : Launch) (D : va_G) (cy : Nat → ClassId) (ad : Nat → Nat) (aM : Nat → Nat) {x1 : Int64} {x3 : Int64} {x5 : Int64} {SM : Ob} {res : Int32 × Ob} (h : f12_feed x1 x3 x5 SM = some res) : GCi l yX12_feed wsX12_feed rm12_feed [.ref (aM 0), .long x1, .long x3, .long x5] D cy ad (w12 cy aM SM) (w12 cy aM (res.2)) (res.1) := fun sz => GC.start (own := RX12) (Qc := fun A => QI D cy (w12 cy aM (res.2)) A (res.1)) sz (by decide) rfl rfl (Nat.le_of_ble_eq_true rfl) (fun p e s m below meth c A ls hC hW hl => t12_feed_0 hC _ _ _ _ _ _ _ _ h hW (lv_sub hl [0, 1, 2, 3] rfl))
abbrev rm12_standsAsAlways : Room := { frames := 0, cells := 0, slots := 0, locals := 0 }
theorem hdV12_standsAsAlways : yX12_standsAsAlways.cls = RX12 ∧ (yX12_standsAsAlways.cls ≠ "java/lang/invoke/MethodHandle" ∧ yX12_standsAsAlways.cls ≠ "java/lang/invoke/VarHandle" ∧ (parseMethodDescriptor yX12_standsAsAlways.desc).map (fun d => d.parameters.length) = some 1) := by decide +kernel
theorem hin12_standsAsAlways_12 : ∀ x ∈ u_ws RX12 TX12 39, x ∈ wsX12_standsAsAlways := fun _ h => List.mem_cons_of_mem _ (List.mem_append_right _ h)
set_option maxRecDepth 100000 in
set_option maxHeartbeats 4000000 in
theorem t12_standsAsAlways_2 (hC : Cx p s m args meth c cX12_standsAsAlways 3 wsX12_standsAsAlways RX12 none) : ∀ n : Nat, ∀ (x1 : Int32) (x2 : Int32) (SM : Ob) (res : Ob) (H : Heap) (locs : List Loc) (ls : Array Slot), f12_standsAsAlways_2 n x1 x2 SM = some res → GW D cy ad (w12 cy aM SM) A s H locs → lv_has ls 3 [(0, .ref (aM 0)), (1, .int x1), (2, .int x2)] → W p l e rm12_standsAsAlways s m args below meth c H locs 0 0 (MQ below (QV D cy (w12 cy aM res) A) args s 0 0 A) (F0 m 2 ls []) := by
  intro n
  induction n with
  | zero =>
    intro _ _ _ _ _ _ _ hf _ _
    exact nomatch (show (none : Option (Ob)) = some _ from hf)
  | succ n ih =>
    intro x1 x2 SM res H locs ls hf hW hl
    rw [f12_standsAsAlways_2] at hf
    refine lv_iload_n hC.1 hC.2.1 dX12_standsAsAlways_2 rfl (lv_at hl 2 rfl) ?_
    refine lv_bipush (v := 60) hC.1 hC.2.1 dX12_standsAsAlways_3 (by decide) ?_
    refine lv_icmp_ge (tgt := 23) hC.1 hC.2.1 dX12_standsAsAlways_5 (by decide) (fun hc_1 => ?_) (fun hc_1 => ?_)
    · have hf := ite_t hf hc_1
      refine lv_aload_n hC.1 hC.2.1 dX12_standsAsAlways_23 rfl (lv_at hl 0 rfl) ?_
      refine g_get hC hW hin12_standsAsAlways_12 0 rfl rfl 10 (by decide) 1 rfl rfl dX12_standsAsAlways_24 ?_
      refine lv_iload_n hC.1 hC.2.1 dX12_standsAsAlways_27 rfl (lv_at hl 1 rfl) ?_
      refine lv_iconst (v := 2) hC.1 hC.2.1 dX12_standsAsAlways_28 (by decide) ?_
      refine lv_iadd hC.1 hC.2.1 dX12_standsAsAlways_29 ?_
      refine lv_iconst (v := (-1)) hC.1 hC.2.1 dX12_standsAsAlways_30 (by decide) ?_
      obtain ⟨hi_2, hf⟩ := ck_of hf
      obtain ⟨SM_3, eSM_3⟩ : ∃ y : Ob, y = oA SM 10 (Int32.toNatClampNeg (x1 + 2)) (-1) := ⟨_, rfl⟩
      have hf := lt_nm hf eSM_3
      refine g_iast hC hW 6 rfl hi_2 (w' := w12 cy aM SM_3) (by rw [eSM_3]; rfl) dX12_standsAsAlways_31 (fun H locs hW => ?_)
      obtain rfl := Option.some.inj hf
      exact g_vret hC hW dX12_standsAsAlways_32
    · have hf := ite_f hf hc_1
      refine lv_aload_n hC.1 hC.2.1 dX12_standsAsAlways_8 rfl (lv_at hl 0 rfl) ?_
      refine g_get hC hW hin12_standsAsAlways_12 0 rfl rfl 10 (by decide) 1 rfl rfl dX12_standsAsAlways_9 ?_
      refine lv_iload_n hC.1 hC.2.1 dX12_standsAsAlways_12 rfl (lv_at hl 1 rfl) ?_
      refine lv_iload_n hC.1 hC.2.1 dX12_standsAsAlways_13 rfl (lv_at hl 2 rfl) ?_
      refine lv_iadd hC.1 hC.2.1 dX12_standsAsAlways_14 ?_
      refine lv_iconst (v := 0) hC.1 hC.2.1 dX12_standsAsAlways_15 (by decide) ?_
      obtain ⟨hi_4, hf⟩ := ck_of hf
      obtain ⟨SM_5, eSM_5⟩ : ∃ y : Ob, y = oA SM 10 (Int32.toNatClampNeg (x1 + x2)) 0 := ⟨_, rfl⟩
      have hf := lt_nm hf eSM_5
      refine g_iast hC hW 6 rfl hi_4 (w' := w12 cy aM SM_5) (by rw [eSM_5]; rfl) dX12_standsAsAlways_16 (fun H locs hW => ?_)
      obtain ⟨x2_6, ex2_6⟩ : ∃ y : Int32, y = x2 + 1 := ⟨_, rfl⟩
      have hf := lt_nm hf ex2_6
      refine lv_iinc (v := x2_6) (lv' := [(2, .int x2_6), (0, .ref (aM 0)), (1, .int x1)]) hC.1 hC.2.1 dX12_standsAsAlways_17 hl (k := 2) rfl (by rw [ex2_6]; rfl) (by decide) rfl (fun ls hl => ?_)
      refine lv_goto (tgt := 2) hC.1 hC.2.1 dX12_standsAsAlways_20 (by decide) ?_
      exact ih _ _ _ _ _ _ _ hf hW (lv_sub hl [1, 2, 0] rfl)
set_option maxRecDepth 100000 in
set_option maxHeartbeats 4000000 in
theorem t12_standsAsAlways_0 (hC : Cx p s m args meth c cX12_standsAsAlways 3 wsX12_standsAsAlways RX12 none) : ∀ (x1 : Int32) (SM : Ob) (res : Ob) (H : Heap) (locs : List Loc) (ls : Array Slot), f12_standsAsAlways x1 SM = some res → GW D cy ad (w12 cy aM SM) A s H locs → lv_has ls 3 [(0, .ref (aM 0)), (1, .int x1)] → W p l e rm12_standsAsAlways s m args below meth c H locs 0 0 (MQ below (QV D cy (w12 cy aM res) A) args s 0 0 A) (F0 m 0 ls []) := by
  intro x1 SM res H locs ls hf hW hl
  unfold f12_standsAsAlways at hf
  refine lv_iconst (v := 0) hC.1 hC.2.1 dX12_standsAsAlways_0 (by decide) ?_
  refine lv_istore_n (lv' := [(2, .int 0), (0, .ref (aM 0)), (1, .int x1)]) hC.1 hC.2.1 dX12_standsAsAlways_1 rfl hl (by decide) rfl (fun ls hl => ?_)
  exact t12_standsAsAlways_2 hC _ _ _ _ _ _ _ _ hf hW (lv_sub hl [1, 2, 0] rfl)
set_option maxRecDepth 100000 in
set_option maxHeartbeats 4000000 in
theorem c12_standsAsAlways (l : Launch) (D : va_G) (cy : Nat → ClassId) (ad : Nat → Nat) (aM : Nat → Nat) {x1 : Int32} {SM : Ob} {res : Ob} (h : f12_standsAsAlways x1 SM = some res) : GCv l yX12_standsAsAlways wsX12_standsAsAlways rm12_standsAsAlways [.ref (aM 0), .int x1] D cy ad (w12 cy aM SM) (w12 cy aM res) := fun sz => GC.start (own := RX12) (Qc := fun A => QV D cy (w12 cy aM res) A) sz (by decide) rfl rfl (Nat.le_of_ble_eq_true rfl) (fun p e s m below meth c A ls hC hW hl => t12_standsAsAlways_0 hC _ _ _ _ _ _ h hW (lv_sub hl [0, 1] rfl))
abbrev rm12_signs : Room := { frames := 0, cells := 0, slots := 0, locals := 0 }
theorem hdV12_signs : yX12_signs.cls = RX12 ∧ (yX12_signs.cls ≠ "java/lang/invoke/MethodHandle" ∧ yX12_signs.cls ≠ "java/lang/invoke/VarHandle" ∧ (parseMethodDescriptor yX12_signs.desc).map (fun d => d.parameters.length) = some 0) := by decide +kernel
theorem hin12_signs_12 : ∀ x ∈ u_ws RX12 TX12 39, x ∈ wsX12_signs := fun _ h => List.mem_cons_of_mem _ (List.mem_append_right _ h)
set_option maxRecDepth 100000 in
set_option maxHeartbeats 4000000 in
theorem t12_signs_0 (hC : Cx p s m args meth c cX12_signs 1 wsX12_signs RX12 (some .int)) : ∀ (SM : Ob) (res : Int32) (H : Heap) (locs : List Loc) (ls : Array Slot), f12_signs SM = some res → GW D cy ad (w12 cy aM SM) A s H locs → lv_has ls 1 [(0, .ref (aM 0))] → W p l e rm12_signs s m args below meth c H locs 0 0 (MQ below (QI D cy (w12 cy aM SM) A res) args s 0 0 A) (F0 m 0 ls []) := by
  intro SM res H locs ls hf hW hl
  unfold f12_signs at hf
  refine lv_aload_n hC.1 hC.2.1 dX12_signs_0 rfl (lv_at hl 0 rfl) ?_
  refine g_get hC hW hin12_signs_12 0 rfl rfl 10 (by decide) 1 rfl rfl dX12_signs_1 ?_
  refine lv_iconst (v := 1) hC.1 hC.2.1 dX12_signs_4 (by decide) ?_
  obtain ⟨hi_1, hf⟩ := ck_of hf
  refine g_iald hC hW 6 rfl hi_1 dX12_signs_5 ?_
  obtain rfl := Option.some.inj hf
  exact g_iret hC hW dX12_signs_6
set_option maxRecDepth 100000 in
set_option maxHeartbeats 4000000 in
theorem c12_signs (l : Launch) (D : va_G) (cy : Nat → ClassId) (ad : Nat → Nat) (aM : Nat → Nat) {SM : Ob} {res : Int32} (h : f12_signs SM = some res) : GCi l yX12_signs wsX12_signs rm12_signs [.ref (aM 0)] D cy ad (w12 cy aM SM) (w12 cy aM SM) res := fun sz => GC.start (own := RX12) (Qc := fun A => QI D cy (w12 cy aM SM) A res) sz (by decide) rfl rfl (Nat.le_of_ble_eq_true rfl) (fun p e s m below meth c A ls hC hW hl => t12_signs_0 hC _ _ _ _ _ h hW (lv_sub hl [0] rfl))
abbrev rm12_guests : Room := { frames := 0, cells := 0, slots := 0, locals := 0 }
theorem hdV12_guests : yX12_guests.cls = RX12 ∧ (yX12_guests.cls ≠ "java/lang/invoke/MethodHandle" ∧ yX12_guests.cls ≠ "java/lang/invoke/VarHandle" ∧ (parseMethodDescriptor yX12_guests.desc).map (fun d => d.parameters.length) = some 0) := by decide +kernel
theorem hin12_guests_12 : ∀ x ∈ u_ws RX12 TX12 39, x ∈ wsX12_guests := fun _ h => List.mem_cons_of_mem _ (List.mem_append_right _ h)
set_option maxRecDepth 100000 in
set_option maxHeartbeats 4000000 in
theorem t12_guests_0 (hC : Cx p s m args meth c cX12_guests 1 wsX12_guests RX12 (some .int)) : ∀ (SM : Ob) (res : Int32) (H : Heap) (locs : List Loc) (ls : Array Slot), f12_guests SM = some res → GW D cy ad (w12 cy aM SM) A s H locs → lv_has ls 1 [(0, .ref (aM 0))] → W p l e rm12_guests s m args below meth c H locs 0 0 (MQ below (QI D cy (w12 cy aM SM) A res) args s 0 0 A) (F0 m 0 ls []) := by
  intro SM res H locs ls hf hW hl
  unfold f12_guests at hf
  refine lv_aload_n hC.1 hC.2.1 dX12_guests_0 rfl (lv_at hl 0 rfl) ?_
  refine g_get hC hW hin12_guests_12 0 rfl rfl 10 (by decide) 1 rfl rfl dX12_guests_1 ?_
  refine lv_iconst (v := 0) hC.1 hC.2.1 dX12_guests_4 (by decide) ?_
  obtain ⟨hi_1, hf⟩ := ck_of hf
  refine g_iald hC hW 6 rfl hi_1 dX12_guests_5 ?_
  obtain rfl := Option.some.inj hf
  exact g_iret hC hW dX12_guests_6
set_option maxRecDepth 100000 in
set_option maxHeartbeats 4000000 in
theorem c12_guests (l : Launch) (D : va_G) (cy : Nat → ClassId) (ad : Nat → Nat) (aM : Nat → Nat) {SM : Ob} {res : Int32} (h : f12_guests SM = some res) : GCi l yX12_guests wsX12_guests rm12_guests [.ref (aM 0)] D cy ad (w12 cy aM SM) (w12 cy aM SM) res := fun sz => GC.start (own := RX12) (Qc := fun A => QI D cy (w12 cy aM SM) A res) sz (by decide) rfl rfl (Nat.le_of_ble_eq_true rfl) (fun p e s m below meth c A ls hC hW hl => t12_guests_0 hC _ _ _ _ _ h hW (lv_sub hl [0] rfl))
abbrev rm12_guestOf : Room := { frames := 0, cells := 0, slots := 0, locals := 0 }
theorem hdV12_guestOf : yX12_guestOf.cls = RX12 ∧ (yX12_guestOf.cls ≠ "java/lang/invoke/MethodHandle" ∧ yX12_guestOf.cls ≠ "java/lang/invoke/VarHandle" ∧ (parseMethodDescriptor yX12_guestOf.desc).map (fun d => d.parameters.length) = some 2) := by decide +kernel
theorem hin12_guestOf_12 : ∀ x ∈ u_ws RX12 TX12 39, x ∈ wsX12_guestOf := fun _ h => List.mem_cons_of_mem _ (List.mem_append_right _ h)
set_option maxRecDepth 100000 in
set_option maxHeartbeats 4000000 in
theorem t12_guestOf_0 (hC : Cx p s m args meth c cX12_guestOf 3 wsX12_guestOf RX12 (some .int)) : ∀ (x1 : Int32) (x2 : Int32) (SM : Ob) (res : Int32) (H : Heap) (locs : List Loc) (ls : Array Slot), f12_guestOf x1 x2 SM = some res → GW D cy ad (w12 cy aM SM) A s H locs → lv_has ls 3 [(0, .ref (aM 0)), (1, .int x1), (2, .int x2)] → W p l e rm12_guestOf s m args below meth c H locs 0 0 (MQ below (QI D cy (w12 cy aM SM) A res) args s 0 0 A) (F0 m 0 ls []) := by
  intro x1 x2 SM res H locs ls hf hW hl
  unfold f12_guestOf at hf
  refine lv_aload_n hC.1 hC.2.1 dX12_guestOf_0 rfl (lv_at hl 0 rfl) ?_
  refine g_get hC hW hin12_guestOf_12 0 rfl rfl 10 (by decide) 1 rfl rfl dX12_guestOf_1 ?_
  refine lv_iconst (v := 3) hC.1 hC.2.1 dX12_guestOf_4 (by decide) ?_
  refine lv_iconst (v := 5) hC.1 hC.2.1 dX12_guestOf_5 (by decide) ?_
  refine lv_iload_n hC.1 hC.2.1 dX12_guestOf_6 rfl (lv_at hl 1 rfl) ?_
  refine lv_imul hC.1 hC.2.1 dX12_guestOf_7 ?_
  refine lv_iadd hC.1 hC.2.1 dX12_guestOf_8 ?_
  refine lv_iload_n hC.1 hC.2.1 dX12_guestOf_9 rfl (lv_at hl 2 rfl) ?_
  refine lv_iadd hC.1 hC.2.1 dX12_guestOf_10 ?_
  obtain ⟨hi_1, hf⟩ := ck_of hf
  refine g_iald hC hW 6 rfl hi_1 dX12_guestOf_11 ?_
  obtain rfl := Option.some.inj hf
  exact g_iret hC hW dX12_guestOf_12
set_option maxRecDepth 100000 in
set_option maxHeartbeats 4000000 in
theorem c12_guestOf (l : Launch) (D : va_G) (cy : Nat → ClassId) (ad : Nat → Nat) (aM : Nat → Nat) {x1 : Int32} {x2 : Int32} {SM : Ob} {res : Int32} (h : f12_guestOf x1 x2 SM = some res) : GCi l yX12_guestOf wsX12_guestOf rm12_guestOf [.ref (aM 0), .int x1, .int x2] D cy ad (w12 cy aM SM) (w12 cy aM SM) res := fun sz => GC.start (own := RX12) (Qc := fun A => QI D cy (w12 cy aM SM) A res) sz (by decide) rfl rfl (Nat.le_of_ble_eq_true rfl) (fun p e s m below meth c A ls hC hW hl => t12_guestOf_0 hC _ _ _ _ _ _ _ h hW (lv_sub hl [0, 1, 2] rfl))
abbrev rm12_isAlone : Room := { frames := 1, cells := 0, slots := 0, locals := 22 }
theorem hdV12_isAlone : yX12_isAlone.cls = RX12 ∧ (yX12_isAlone.cls ≠ "java/lang/invoke/MethodHandle" ∧ yX12_isAlone.cls ≠ "java/lang/invoke/VarHandle" ∧ (parseMethodDescriptor yX12_isAlone.desc).map (fun d => d.parameters.length) = some 1) := by decide +kernel
set_option maxRecDepth 100000 in
set_option maxHeartbeats 4000000 in
theorem t12_isAlone_41 (hC : Cx p s m args meth c cX12_isAlone 4 wsX12_isAlone RX12 (some .boolean)) {k4 : Int32 → Int32 → Int32 → Ob → Option (Int32)} (hk4 : ∀ (x1 : Int32) (x2 : Int32) (x3 : Int32) (SM : Ob) (res : Int32) (H : Heap) (locs : List Loc) (ls : Array Slot), k4 x1 x2 x3 SM = some res → GW D cy ad (w12 cy aM SM) A s H locs → lv_has ls 4 [(0, .ref (aM 0)), (1, .int x1), (2, .int x2), (3, .int x3)] → W p l e rm12_isAlone s m args below meth c H locs 0 0 (MQ below (QI D cy (w12 cy aM SM) A res) args s 0 0 A) (F0 m 4 ls [])) : ∀ (x1 : Int32) (x3 : Int32) (z0 : Int32) (SM : Ob) (res : Int32) (H : Heap) (locs : List Loc) (ls : Array Slot), f12_isAlone_41 k4 x1 x3 z0 SM = some res → GW D cy ad (w12 cy aM SM) A s H locs → lv_has ls 4 [(0, .ref (aM 0)), (1, .int x1), (3, .int x3)] → W p l e rm12_isAlone s m args below meth c H locs 0 0 (MQ below (QI D cy (w12 cy aM SM) A res) args s 0 0 A) (F0 m 41 ls [.int z0]) := by
  intro x1 x3 z0 SM res H locs ls hf hW hl
  unfold f12_isAlone_41 at hf
  refine lv_istore_n (lv' := [(2, .int z0), (0, .ref (aM 0)), (1, .int x1), (3, .int x3)]) hC.1 hC.2.1 dX12_isAlone_41 rfl hl (by decide) rfl (fun ls hl => ?_)
  obtain ⟨x3_1, ex3_1⟩ : ∃ y : Int32, y = x3 + 1 := ⟨_, rfl⟩
  have hf := lt_nm hf ex3_1
  refine lv_iinc (v := x3_1) (lv' := [(3, .int x3_1), (2, .int z0), (0, .ref (aM 0)), (1, .int x1)]) hC.1 hC.2.1 dX12_isAlone_42 hl (k := 3) rfl (by rw [ex3_1]; rfl) (by decide) rfl (fun ls hl => ?_)
  refine lv_goto (tgt := 4) hC.1 hC.2.1 dX12_isAlone_45 (by decide) ?_
  exact hk4 _ _ _ _ _ _ _ _ hf hW (lv_sub hl [2, 3, 1, 0] rfl)
set_option maxRecDepth 100000 in
set_option maxHeartbeats 4000000 in
theorem t12_isAlone_36 (hC : Cx p s m args meth c cX12_isAlone 4 wsX12_isAlone RX12 (some .boolean)) {k4 : Int32 → Int32 → Int32 → Ob → Option (Int32)} (hk4 : ∀ (x1 : Int32) (x2 : Int32) (x3 : Int32) (SM : Ob) (res : Int32) (H : Heap) (locs : List Loc) (ls : Array Slot), k4 x1 x2 x3 SM = some res → GW D cy ad (w12 cy aM SM) A s H locs → lv_has ls 4 [(0, .ref (aM 0)), (1, .int x1), (2, .int x2), (3, .int x3)] → W p l e rm12_isAlone s m args below meth c H locs 0 0 (MQ below (QI D cy (w12 cy aM SM) A res) args s 0 0 A) (F0 m 4 ls [])) : ∀ (x1 : Int32) (x3 : Int32) (SM : Ob) (res : Int32) (H : Heap) (locs : List Loc) (ls : Array Slot), f12_isAlone_36 k4 x1 x3 SM = some res → GW D cy ad (w12 cy aM SM) A s H locs → lv_has ls 4 [(0, .ref (aM 0)), (1, .int x1), (3, .int x3)] → W p l e rm12_isAlone s m args below meth c H locs 0 0 (MQ below (QI D cy (w12 cy aM SM) A res) args s 0 0 A) (F0 m 36 ls []) := by
  intro x1 x3 SM res H locs ls hf hW hl
  unfold f12_isAlone_36 at hf
  refine lv_iconst (v := 1) hC.1 hC.2.1 dX12_isAlone_36 (by decide) ?_
  refine lv_goto (tgt := 41) hC.1 hC.2.1 dX12_isAlone_37 (by decide) ?_
  exact t12_isAlone_41 hC hk4  _ _ _ _ _ _ _ _ hf hW (lv_sub hl [0, 1, 2] rfl)
set_option maxRecDepth 100000 in
set_option maxHeartbeats 4000000 in
theorem t12_isAlone_40 (hC : Cx p s m args meth c cX12_isAlone 4 wsX12_isAlone RX12 (some .boolean)) {k4 : Int32 → Int32 → Int32 → Ob → Option (Int32)} (hk4 : ∀ (x1 : Int32) (x2 : Int32) (x3 : Int32) (SM : Ob) (res : Int32) (H : Heap) (locs : List Loc) (ls : Array Slot), k4 x1 x2 x3 SM = some res → GW D cy ad (w12 cy aM SM) A s H locs → lv_has ls 4 [(0, .ref (aM 0)), (1, .int x1), (2, .int x2), (3, .int x3)] → W p l e rm12_isAlone s m args below meth c H locs 0 0 (MQ below (QI D cy (w12 cy aM SM) A res) args s 0 0 A) (F0 m 4 ls [])) : ∀ (x1 : Int32) (x3 : Int32) (SM : Ob) (res : Int32) (H : Heap) (locs : List Loc) (ls : Array Slot), f12_isAlone_40 k4 x1 x3 SM = some res → GW D cy ad (w12 cy aM SM) A s H locs → lv_has ls 4 [(0, .ref (aM 0)), (1, .int x1), (3, .int x3)] → W p l e rm12_isAlone s m args below meth c H locs 0 0 (MQ below (QI D cy (w12 cy aM SM) A res) args s 0 0 A) (F0 m 40 ls []) := by
  intro x1 x3 SM res H locs ls hf hW hl
  unfold f12_isAlone_40 at hf
  refine lv_iconst (v := 0) hC.1 hC.2.1 dX12_isAlone_40 (by decide) ?_
  exact t12_isAlone_41 hC hk4  _ _ _ _ _ _ _ _ hf hW (lv_sub hl [0, 1, 2] rfl)
set_option maxRecDepth 100000 in
set_option maxHeartbeats 4000000 in
theorem t12_isAlone_4 (hC : Cx p s m args meth c cX12_isAlone 4 wsX12_isAlone RX12 (some .boolean)) : ∀ n : Nat, ∀ (x1 : Int32) (x2 : Int32) (x3 : Int32) (SM : Ob) (res : Int32) (H : Heap) (locs : List Loc) (ls : Array Slot), f12_isAlone_4 n x1 x2 x3 SM = some res → GW D cy ad (w12 cy aM SM) A s H locs → lv_has ls 4 [(0, .ref (aM 0)), (1, .int x1), (2, .int x2), (3, .int x3)] → W p l e rm12_isAlone s m args below meth c H locs 0 0 (MQ below (QI D cy (w12 cy aM SM) A res) args s 0 0 A) (F0 m 4 ls []) := by
  intro n
  induction n with
  | zero =>
    intro _ _ _ _ _ _ _ _ hf _ _
    exact nomatch (show (none : Option (Int32)) = some _ from hf)
  | succ n ih =>
    intro x1 x2 x3 SM res H locs ls hf hW hl
    rw [f12_isAlone_4] at hf
    refine lv_iload_n hC.1 hC.2.1 dX12_isAlone_4 rfl (lv_at hl 3 rfl) ?_
    refine lv_aload_n hC.1 hC.2.1 dX12_isAlone_5 rfl (lv_at hl 0 rfl) ?_
    obtain ⟨r_1, hg_2, hf⟩ := bd_of hf
    refine g_calliV hC hW (c12_guests l D cy ad aM hg_2) (cwV 0 hC.2.2.2.2.1 gX12_isAlone_X12_guests rfl rfl rfl hdV12_guests ⟨Nat.le_of_ble_eq_true rfl, Nat.le_of_ble_eq_true rfl⟩) (Sub.all _ _) 0 11 rfl rfl rfl rfl hl.1 rfl (Nat.le_of_ble_eq_true rfl) dX12_isAlone_6 ⟨Nat.zero_le _, Nat.zero_le _⟩ (fun H locs hW => ?_)
    refine lv_icmp_ge (tgt := 48) hC.1 hC.2.1 dX12_isAlone_9 (by decide) (fun hc_3 => ?_) (fun hc_3 => ?_)
    · have hf := ite_t hf hc_3
      refine lv_iload_n hC.1 hC.2.1 dX12_isAlone_48 rfl (lv_at hl 2 rfl) ?_
      obtain ⟨hz, hf⟩ := ck_of hf
      obtain rfl := Option.some.inj hf
      exact g_zret hC hW hz dX12_isAlone_49
    · have hf := ite_f hf hc_3
      refine lv_iload_n hC.1 hC.2.1 dX12_isAlone_12 rfl (lv_at hl 2 rfl) ?_
      refine lv_if_eq (tgt := 40) hC.1 hC.2.1 dX12_isAlone_13 (by decide) (fun hc_4 => ?_) (fun hc_4 => ?_)
      · have hf := ite_t hf hc_4
        exact t12_isAlone_40 hC ih  _ _ _ _ _ _ _ hf hW (lv_sub hl [0, 1, 3] rfl)
      · have hf := ite_f hf hc_4
        refine lv_iload_n hC.1 hC.2.1 dX12_isAlone_16 rfl (lv_at hl 3 rfl) ?_
        refine lv_iload_n hC.1 hC.2.1 dX12_isAlone_17 rfl (lv_at hl 1 rfl) ?_
        refine lv_icmp_eq (tgt := 36) hC.1 hC.2.1 dX12_isAlone_18 (by decide) (fun hc_5 => ?_) (fun hc_5 => ?_)
        · have hf := ite_t hf hc_5
          exact t12_isAlone_36 hC ih  _ _ _ _ _ _ _ hf hW (lv_sub hl [0, 1, 3] rfl)
        · have hf := ite_f hf hc_5
          refine lv_aload_n hC.1 hC.2.1 dX12_isAlone_21 rfl (lv_at hl 0 rfl) ?_
          refine lv_iload_n hC.1 hC.2.1 dX12_isAlone_22 rfl (lv_at hl 3 rfl) ?_
          refine lv_iconst (v := 1) hC.1 hC.2.1 dX12_isAlone_23 (by decide) ?_
          obtain ⟨r_6, hg_7, hf⟩ := bd_of hf
          refine g_calliV hC hW (c12_guestOf l D cy ad aM hg_7) (cwV 2 hC.2.2.2.2.1 gX12_isAlone_X12_guestOf rfl rfl rfl hdV12_guestOf ⟨Nat.le_of_ble_eq_true rfl, Nat.le_of_ble_eq_true rfl⟩) (Sub.all _ _) 0 11 rfl rfl rfl rfl hl.1 rfl (Nat.le_of_ble_eq_true rfl) dX12_isAlone_24 ⟨Nat.zero_le _, Nat.zero_le _⟩ (fun H locs hW => ?_)
          refine lv_aload_n hC.1 hC.2.1 dX12_isAlone_27 rfl (lv_at hl 0 rfl) ?_
          refine lv_iload_n hC.1 hC.2.1 dX12_isAlone_28 rfl (lv_at hl 1 rfl) ?_
          refine lv_iconst (v := 1) hC.1 hC.2.1 dX12_isAlone_29 (by decide) ?_
          obtain ⟨r_8, hg_9, hf⟩ := bd_of hf
          refine g_calliV hC hW (c12_guestOf l D cy ad aM hg_9) (cwV 2 hC.2.2.2.2.1 gX12_isAlone_X12_guestOf rfl rfl rfl hdV12_guestOf ⟨Nat.le_of_ble_eq_true rfl, Nat.le_of_ble_eq_true rfl⟩) (Sub.all _ _) 0 11 rfl rfl rfl rfl hl.1 rfl (Nat.le_of_ble_eq_true rfl) dX12_isAlone_30 ⟨Nat.zero_le _, Nat.zero_le _⟩ (fun H locs hW => ?_)
          refine lv_icmp_eq (tgt := 40) hC.1 hC.2.1 dX12_isAlone_33 (by decide) (fun hc_10 => ?_) (fun hc_10 => ?_)
          · have hf := ite_t hf hc_10
            exact t12_isAlone_40 hC ih  _ _ _ _ _ _ _ hf hW (lv_sub hl [0, 1, 3] rfl)
          · have hf := ite_f hf hc_10
            exact t12_isAlone_36 hC ih  _ _ _ _ _ _ _ hf hW (lv_sub hl [0, 1, 3] rfl)
set_option maxRecDepth 100000 in
set_option maxHeartbeats 4000000 in
theorem t12_isAlone_0 (hC : Cx p s m args meth c cX12_isAlone 4 wsX12_isAlone RX12 (some .boolean)) : ∀ (x1 : Int32) (SM : Ob) (res : Int32) (H : Heap) (locs : List Loc) (ls : Array Slot), f12_isAlone x1 SM = some res → GW D cy ad (w12 cy aM SM) A s H locs → lv_has ls 4 [(0, .ref (aM 0)), (1, .int x1)] → W p l e rm12_isAlone s m args below meth c H locs 0 0 (MQ below (QI D cy (w12 cy aM SM) A res) args s 0 0 A) (F0 m 0 ls []) := by
  intro x1 SM res H locs ls hf hW hl
  unfold f12_isAlone at hf
  refine lv_iconst (v := 1) hC.1 hC.2.1 dX12_isAlone_0 (by decide) ?_
  refine lv_istore_n (lv' := [(2, .int 1), (0, .ref (aM 0)), (1, .int x1)]) hC.1 hC.2.1 dX12_isAlone_1 rfl hl (by decide) rfl (fun ls hl => ?_)
  refine lv_iconst (v := 0) hC.1 hC.2.1 dX12_isAlone_2 (by decide) ?_
  refine lv_istore_n (lv' := [(3, .int 0), (2, .int 1), (0, .ref (aM 0)), (1, .int x1)]) hC.1 hC.2.1 dX12_isAlone_3 rfl hl (by decide) rfl (fun ls hl => ?_)
  exact t12_isAlone_4 hC _ _ _ _ _ _ _ _ _ hf hW (lv_sub hl [2, 3, 1, 0] rfl)
set_option maxRecDepth 100000 in
set_option maxHeartbeats 4000000 in
theorem c12_isAlone (l : Launch) (D : va_G) (cy : Nat → ClassId) (ad : Nat → Nat) (aM : Nat → Nat) {x1 : Int32} {SM : Ob} {res : Int32} (h : f12_isAlone x1 SM = some res) : GCi l yX12_isAlone wsX12_isAlone rm12_isAlone [.ref (aM 0), .int x1] D cy ad (w12 cy aM SM) (w12 cy aM SM) res := fun sz => GC.start (own := RX12) (Qc := fun A => QI D cy (w12 cy aM SM) A res) sz (by decide) rfl rfl (Nat.le_of_ble_eq_true rfl) (fun p e s m below meth c A ls hC hW hl => t12_isAlone_0 hC _ _ _ _ _ _ h hW (lv_sub hl [0, 1] rfl))
abbrev rm12_worldsOf : Room := { frames := 0, cells := 0, slots := 0, locals := 0 }
theorem hdS12_worldsOf : (yX12_worldsOf.cls ≠ "java/lang/invoke/MethodHandle" ∧ yX12_worldsOf.cls ≠ "java/lang/invoke/VarHandle" ∧ (parseMethodDescriptor yX12_worldsOf.desc).map (fun d => d.parameters.length) = some 1) := by decide +kernel
set_option maxRecDepth 100000 in
set_option maxHeartbeats 4000000 in
theorem t12_worldsOf_0 (hC : Cx p s m args meth c cX12_worldsOf 1 wsX12_worldsOf RX12 (some .int)) : ∀ (x0 : Int32) (res : Int32) (H : Heap) (locs : List Loc) (ls : Array Slot), f12_worldsOf x0 = some res → GW D cy ad (([] : va_W)) A s H locs → lv_has ls 1 [(0, .int x0)] → W p l e rm12_worldsOf s m args below meth c H locs 0 0 (MQ below (QI D cy (([] : va_W)) A res) args s 0 0 A) (F0 m 0 ls []) := by
  intro x0 res H locs ls hf hW hl
  unfold f12_worldsOf at hf
  refine lv_bipush (v := 15) hC.1 hC.2.1 dX12_worldsOf_0 (by decide) ?_
  refine lv_iconst (v := 4) hC.1 hC.2.1 dX12_worldsOf_2 (by decide) ?_
  refine lv_iload_n hC.1 hC.2.1 dX12_worldsOf_3 rfl (lv_at hl 0 rfl) ?_
  refine lv_imul hC.1 hC.2.1 dX12_worldsOf_4 ?_
  refine lv_ishl hC.1 hC.2.1 dX12_worldsOf_5 ?_
  obtain rfl := Option.some.inj hf
  exact g_iret hC hW dX12_worldsOf_6
set_option maxRecDepth 100000 in
set_option maxHeartbeats 4000000 in
theorem c12_worldsOf (l : Launch) (D : va_G) (cy : Nat → ClassId) (ad : Nat → Nat) {x0 : Int32} {res : Int32} (h : f12_worldsOf x0 = some res) : GCi l yX12_worldsOf wsX12_worldsOf rm12_worldsOf [.int x0] D cy ad (([] : va_W)) (([] : va_W)) res := fun sz => GC.start (own := RX12) (Qc := fun A => QI D cy (([] : va_W)) A res) sz (by decide) rfl rfl (Nat.le_of_ble_eq_true rfl) (fun p e s m below meth c A ls hC hW hl => t12_worldsOf_0 hC _ _ _ _ _ h hW (lv_sub hl [0] rfl))
abbrev rm12_soOf : Room := { frames := 2, cells := 0, slots := 0, locals := 45 }
theorem hdV12_soOf : yX12_soOf.cls = RX12 ∧ (yX12_soOf.cls ≠ "java/lang/invoke/MethodHandle" ∧ yX12_soOf.cls ≠ "java/lang/invoke/VarHandle" ∧ (parseMethodDescriptor yX12_soOf.desc).map (fun d => d.parameters.length) = some 1) := by decide +kernel
set_option maxRecDepth 100000 in
set_option maxHeartbeats 4000000 in
theorem t12_soOf_122 (hC : Cx p s m args meth c cX12_soOf 6 wsX12_soOf RX12 (some .int)) {k4 : Int32 → Int32 → Int32 → Ob → Option (Int32)} (hk4 : ∀ (x1 : Int32) (x2 : Int32) (x3 : Int32) (SM : Ob) (res : Int32) (H : Heap) (locs : List Loc) (ls : Array Slot), k4 x1 x2 x3 SM = some res → GW D cy ad (w12 cy aM SM) A s H locs → lv_has ls 6 [(0, .ref (aM 0)), (1, .int x1), (2, .int x2), (3, .int x3)] → W p l e rm12_soOf s m args below meth c H locs 0 0 (MQ below (QI D cy (w12 cy aM SM) A res) args s 0 0 A) (F0 m 4 ls [])) : ∀ (x1 : Int32) (x3 : Int32) (z0 : Int32) (z1 : Int32) (SM : Ob) (res : Int32) (H : Heap) (locs : List Loc) (ls : Array Slot), f12_soOf_122 k4 x1 x3 z0 z1 SM = some res → GW D cy ad (w12 cy aM SM) A s H locs → lv_has ls 6 [(0, .ref (aM 0)), (1, .int x1), (3, .int x3)] → W p l e rm12_soOf s m args below meth c H locs 0 0 (MQ below (QI D cy (w12 cy aM SM) A res) args s 0 0 A) (F0 m 122 ls [.int z1, .int z0]) := by
  intro x1 x3 z0 z1 SM res H locs ls hf hW hl
  unfold f12_soOf_122 at hf
  refine lv_ior hC.1 hC.2.1 dX12_soOf_122 ?_
  refine lv_topi (fun x2_1 ex2_1 => ?_)
  have hf := lt_nm hf ex2_1
  refine lv_istore_n (lv' := [(2, .int x2_1), (0, .ref (aM 0)), (1, .int x1), (3, .int x3)]) hC.1 hC.2.1 dX12_soOf_123 rfl hl (by decide) rfl (fun ls hl => ?_)
  obtain ⟨x3_2, ex3_2⟩ : ∃ y : Int32, y = x3 + 1 := ⟨_, rfl⟩
  have hf := lt_nm hf ex3_2
  refine lv_iinc (v := x3_2) (lv' := [(3, .int x3_2), (2, .int x2_1), (0, .ref (aM 0)), (1, .int x1)]) hC.1 hC.2.1 dX12_soOf_124 hl (k := 3) rfl (by rw [ex3_2]; rfl) (by decide) rfl (fun ls hl => ?_)
  refine lv_goto (tgt := 4) hC.1 hC.2.1 dX12_soOf_127 (by decide) ?_
  exact hk4 _ _ _ _ _ _ _ _ hf hW (lv_sub hl [2, 3, 1, 0] rfl)
set_option maxRecDepth 100000 in
set_option maxHeartbeats 4000000 in
theorem t12_soOf_91 (hC : Cx p s m args meth c cX12_soOf 6 wsX12_soOf RX12 (some .int)) {k4 : Int32 → Int32 → Int32 → Ob → Option (Int32)} (hk4 : ∀ (x1 : Int32) (x2 : Int32) (x3 : Int32) (SM : Ob) (res : Int32) (H : Heap) (locs : List Loc) (ls : Array Slot), k4 x1 x2 x3 SM = some res → GW D cy ad (w12 cy aM SM) A s H locs → lv_has ls 6 [(0, .ref (aM 0)), (1, .int x1), (2, .int x2), (3, .int x3)] → W p l e rm12_soOf s m args below meth c H locs 0 0 (MQ below (QI D cy (w12 cy aM SM) A res) args s 0 0 A) (F0 m 4 ls [])) : ∀ (x1 : Int32) (x2 : Int32) (x3 : Int32) (z0 : Int32) (SM : Ob) (res : Int32) (H : Heap) (locs : List Loc) (ls : Array Slot), f12_soOf_91 k4 x1 x2 x3 z0 SM = some res → GW D cy ad (w12 cy aM SM) A s H locs → lv_has ls 6 [(0, .ref (aM 0)), (1, .int x1), (2, .int x2), (3, .int x3)] → W p l e rm12_soOf s m args below meth c H locs 0 0 (MQ below (QI D cy (w12 cy aM SM) A res) args s 0 0 A) (F0 m 91 ls [.int z0]) := by
  intro x1 x2 x3 z0 SM res H locs ls hf hW hl
  unfold f12_soOf_91 at hf
  refine lv_istore (lv' := [(5, .int z0), (0, .ref (aM 0)), (1, .int x1), (2, .int x2), (3, .int x3)]) hC.1 hC.2.1 dX12_soOf_91 hl (by decide) rfl (fun ls hl => ?_)
  refine lv_iload_n hC.1 hC.2.1 dX12_soOf_93 rfl (lv_at hl 3 rfl) ?_
  refine lv_iload_n hC.1 hC.2.1 dX12_soOf_94 rfl (lv_at hl 2 rfl) ?_
  refine lv_iconst (v := 4) hC.1 hC.2.1 dX12_soOf_95 (by decide) ?_
  refine lv_icmp_ge (tgt := 109) hC.1 hC.2.1 dX12_soOf_96 (by decide) (fun hc_1 => ?_) (fun hc_1 => ?_)
  · have hf := ite_t hf hc_1
    refine lv_iload hC.1 hC.2.1 dX12_soOf_109 (lv_at hl 0 rfl) ?_
    refine lv_if_eq (tgt := 121) hC.1 hC.2.1 dX12_soOf_111 (by decide) (fun hc_2 => ?_) (fun hc_2 => ?_)
    · have hf := ite_t hf hc_2
      refine lv_iconst (v := 0) hC.1 hC.2.1 dX12_soOf_121 (by decide) ?_
      exact t12_soOf_122 hC hk4  _ _ _ _ _ _ _ _ _ hf hW (lv_sub hl [1, 2, 4] rfl)
    · have hf := ite_f hf hc_2
      refine lv_iload_n hC.1 hC.2.1 dX12_soOf_114 rfl (lv_at hl 4 rfl) ?_
      obtain ⟨r_3, hg_4, hf⟩ := bd_of hf
      refine g_calliS hC hW (c12_worldsOf l D cy ad  hg_4) (va_cwS 1 hC.2.2.2.2.1 gX12_soOf_X12_worldsOf rfl rfl rfl hdS12_worldsOf ⟨Nat.le_of_ble_eq_true rfl, Nat.le_of_ble_eq_true rfl⟩) (Sub.nil _) rfl hl.1 rfl (Nat.le_of_ble_eq_true rfl) dX12_soOf_115 ⟨Nat.zero_le _, Nat.zero_le _⟩ (fun H locs hW => ?_)
      refine lv_goto (tgt := 122) hC.1 hC.2.1 dX12_soOf_118 (by decide) ?_
      exact t12_soOf_122 hC hk4  _ _ _ _ _ _ _ _ _ hf hW (lv_sub hl [1, 2, 4] rfl)
  · have hf := ite_f hf hc_1
    refine lv_iconst (v := 1) hC.1 hC.2.1 dX12_soOf_99 (by decide) ?_
    refine lv_iconst (v := 4) hC.1 hC.2.1 dX12_soOf_100 (by decide) ?_
    refine lv_iload_n hC.1 hC.2.1 dX12_soOf_101 rfl (lv_at hl 4 rfl) ?_
    refine lv_imul hC.1 hC.2.1 dX12_soOf_102 ?_
    refine lv_iload_n hC.1 hC.2.1 dX12_soOf_103 rfl (lv_at hl 2 rfl) ?_
    refine lv_iadd hC.1 hC.2.1 dX12_soOf_104 ?_
    refine lv_ishl hC.1 hC.2.1 dX12_soOf_105 ?_
    refine lv_goto (tgt := 122) hC.1 hC.2.1 dX12_soOf_106 (by decide) ?_
    exact t12_soOf_122 hC hk4  _ _ _ _ _ _ _ _ _ hf hW (lv_sub hl [1, 2, 4] rfl)
set_option maxRecDepth 100000 in
set_option maxHeartbeats 4000000 in
theorem t12_soOf_4 (hC : Cx p s m args meth c cX12_soOf 6 wsX12_soOf RX12 (some .int)) : ∀ n : Nat, ∀ (x1 : Int32) (x2 : Int32) (x3 : Int32) (SM : Ob) (res : Int32) (H : Heap) (locs : List Loc) (ls : Array Slot), f12_soOf_4 n x1 x2 x3 SM = some res → GW D cy ad (w12 cy aM SM) A s H locs → lv_has ls 6 [(0, .ref (aM 0)), (1, .int x1), (2, .int x2), (3, .int x3)] → W p l e rm12_soOf s m args below meth c H locs 0 0 (MQ below (QI D cy (w12 cy aM SM) A res) args s 0 0 A) (F0 m 4 ls []) := by
  intro n
  induction n with
  | zero =>
    intro _ _ _ _ _ _ _ _ hf _ _
    exact nomatch (show (none : Option (Int32)) = some _ from hf)
  | succ n ih =>
    intro x1 x2 x3 SM res H locs ls hf hW hl
    rw [f12_soOf_4] at hf
    refine lv_iload_n hC.1 hC.2.1 dX12_soOf_4 rfl (lv_at hl 3 rfl) ?_
    refine lv_aload_n hC.1 hC.2.1 dX12_soOf_5 rfl (lv_at hl 0 rfl) ?_
    obtain ⟨r_1, hg_2, hf⟩ := bd_of hf
    refine g_calliV hC hW (c12_guests l D cy ad aM hg_2) (cwV 0 hC.2.2.2.2.1 gX12_soOf_X12_guests rfl rfl rfl hdV12_guests ⟨Nat.le_of_ble_eq_true rfl, Nat.le_of_ble_eq_true rfl⟩) (Sub.all _ _) 0 11 rfl rfl rfl rfl hl.1 rfl (Nat.le_of_ble_eq_true rfl) dX12_soOf_6 ⟨Nat.zero_le _, Nat.zero_le _⟩ (fun H locs hW => ?_)
    refine lv_icmp_ge (tgt := 130) hC.1 hC.2.1 dX12_soOf_9 (by decide) (fun hc_3 => ?_) (fun hc_3 => ?_)
    · have hf := ite_t hf hc_3
      refine lv_iload_n hC.1 hC.2.1 dX12_soOf_130 rfl (lv_at hl 2 rfl) ?_
      obtain rfl := Option.some.inj hf
      exact g_iret hC hW dX12_soOf_131
    · have hf := ite_f hf hc_3
      refine lv_aload_n hC.1 hC.2.1 dX12_soOf_12 rfl (lv_at hl 0 rfl) ?_
      refine lv_iload_n hC.1 hC.2.1 dX12_soOf_13 rfl (lv_at hl 3 rfl) ?_
      refine lv_iconst (v := 1) hC.1 hC.2.1 dX12_soOf_14 (by decide) ?_
      obtain ⟨r_4, hg_5, hf⟩ := bd_of hf
      refine g_calliV hC hW (c12_guestOf l D cy ad aM hg_5) (cwV 2 hC.2.2.2.2.1 gX12_soOf_X12_guestOf rfl rfl rfl hdV12_guestOf ⟨Nat.le_of_ble_eq_true rfl, Nat.le_of_ble_eq_true rfl⟩) (Sub.all _ _) 0 11 rfl rfl rfl rfl hl.1 rfl (Nat.le_of_ble_eq_true rfl) dX12_soOf_15 ⟨Nat.zero_le _, Nat.zero_le _⟩ (fun H locs hW => ?_)
      refine lv_istore (lv' := [(4, .int r_4), (0, .ref (aM 0)), (1, .int x1), (2, .int x2), (3, .int x3)]) hC.1 hC.2.1 dX12_soOf_18 hl (by decide) rfl (fun ls hl => ?_)
      refine lv_iload_n hC.1 hC.2.1 dX12_soOf_20 rfl (lv_at hl 2 rfl) ?_
      refine lv_iconst (v := 4) hC.1 hC.2.1 dX12_soOf_21 (by decide) ?_
      refine lv_icmp_ne (tgt := 41) hC.1 hC.2.1 dX12_soOf_22 (by decide) (fun hc_6 => ?_) (fun hc_6 => ?_)
      · have hf := ite_f hf hc_6
        refine lv_iload_n hC.1 hC.2.1 dX12_soOf_41 rfl (lv_at hl 2 rfl) ?_
        refine lv_iconst (v := 5) hC.1 hC.2.1 dX12_soOf_42 (by decide) ?_
        refine lv_icmp_ne (tgt := 61) hC.1 hC.2.1 dX12_soOf_43 (by decide) (fun hc_7 => ?_) (fun hc_7 => ?_)
        · have hf := ite_f hf hc_7
          refine lv_iload_n hC.1 hC.2.1 dX12_soOf_61 rfl (lv_at hl 2 rfl) ?_
          refine lv_bipush (v := 6) hC.1 hC.2.1 dX12_soOf_62 (by decide) ?_
          refine lv_icmp_ne (tgt := 75) hC.1 hC.2.1 dX12_soOf_64 (by decide) (fun hc_8 => ?_) (fun hc_8 => ?_)
          · have hf := ite_f hf hc_8
            refine lv_aload_n hC.1 hC.2.1 dX12_soOf_75 rfl (lv_at hl 1 rfl) ?_
            refine lv_iload_n hC.1 hC.2.1 dX12_soOf_76 rfl (lv_at hl 4 rfl) ?_
            refine lv_iconst (v := 2) hC.1 hC.2.1 dX12_soOf_77 (by decide) ?_
            obtain ⟨r_9, hg_10, hf⟩ := bd_of hf
            refine g_calliV hC hW (c12_guestOf l D cy ad aM hg_10) (cwV 2 hC.2.2.2.2.1 gX12_soOf_X12_guestOf rfl rfl rfl hdV12_guestOf ⟨Nat.le_of_ble_eq_true rfl, Nat.le_of_ble_eq_true rfl⟩) (Sub.all _ _) 0 11 rfl rfl rfl rfl hl.1 rfl (Nat.le_of_ble_eq_true rfl) dX12_soOf_78 ⟨Nat.zero_le _, Nat.zero_le _⟩ (fun H locs hW => ?_)
            refine lv_bipush (v := 10) hC.1 hC.2.1 dX12_soOf_81 (by decide) ?_
            refine lv_icmp_lt (tgt := 90) hC.1 hC.2.1 dX12_soOf_83 (by decide) (fun hc_11 => ?_) (fun hc_11 => ?_)
            · have hf := ite_t hf hc_11
              refine lv_iconst (v := 0) hC.1 hC.2.1 dX12_soOf_90 (by decide) ?_
              exact t12_soOf_91 hC ih  _ _ _ _ _ _ _ _ _ hf hW (lv_sub hl [1, 2, 3, 4] rfl)
            · have hf := ite_f hf hc_11
              refine lv_iconst (v := 1) hC.1 hC.2.1 dX12_soOf_86 (by decide) ?_
              refine lv_goto (tgt := 91) hC.1 hC.2.1 dX12_soOf_87 (by decide) ?_
              exact t12_soOf_91 hC ih  _ _ _ _ _ _ _ _ _ hf hW (lv_sub hl [1, 2, 3, 4] rfl)
          · have hf := ite_t hf hc_8
            refine lv_aload_n hC.1 hC.2.1 dX12_soOf_67 rfl (lv_at hl 1 rfl) ?_
            refine lv_iload_n hC.1 hC.2.1 dX12_soOf_68 rfl (lv_at hl 4 rfl) ?_
            obtain ⟨r_12, hg_13, hf⟩ := bd_of hf
            refine g_calliV hC hW (c12_isAlone l D cy ad aM hg_13) (cwV 1 hC.2.2.2.2.1 gX12_soOf_X12_isAlone rfl rfl rfl hdV12_isAlone ⟨Nat.le_of_ble_eq_true rfl, Nat.le_of_ble_eq_true rfl⟩) (Sub.all _ _) 0 11 rfl rfl rfl rfl hl.1 rfl (Nat.le_of_ble_eq_true rfl) dX12_soOf_69 ⟨Nat.zero_le _, Nat.zero_le _⟩ (fun H locs hW => ?_)
            refine lv_goto (tgt := 91) hC.1 hC.2.1 dX12_soOf_72 (by decide) ?_
            exact t12_soOf_91 hC ih  _ _ _ _ _ _ _ _ _ hf hW (lv_sub hl [1, 2, 3, 4] rfl)
        · have hf := ite_t hf hc_7
          refine lv_iload hC.1 hC.2.1 dX12_soOf_46 (lv_at hl 0 rfl) ?_
          refine lv_bipush (v := 6) hC.1 hC.2.1 dX12_soOf_48 (by decide) ?_
          refine lv_icmp_gt (tgt := 57) hC.1 hC.2.1 dX12_soOf_50 (by decide) (fun hc_14 => ?_) (fun hc_14 => ?_)
          · have hf := ite_t hf hc_14
            refine lv_iconst (v := 0) hC.1 hC.2.1 dX12_soOf_57 (by decide) ?_
            refine lv_goto (tgt := 91) hC.1 hC.2.1 dX12_soOf_58 (by decide) ?_
            exact t12_soOf_91 hC ih  _ _ _ _ _ _ _ _ _ hf hW (lv_sub hl [1, 2, 3, 4] rfl)
          · have hf := ite_f hf hc_14
            refine lv_iconst (v := 1) hC.1 hC.2.1 dX12_soOf_53 (by decide) ?_
            refine lv_goto (tgt := 91) hC.1 hC.2.1 dX12_soOf_54 (by decide) ?_
            exact t12_soOf_91 hC ih  _ _ _ _ _ _ _ _ _ hf hW (lv_sub hl [1, 2, 3, 4] rfl)
      · have hf := ite_t hf hc_6
        refine lv_iload hC.1 hC.2.1 dX12_soOf_25 (lv_at hl 0 rfl) ?_
        refine lv_iconst (v := 2) hC.1 hC.2.1 dX12_soOf_27 (by decide) ?_
        obtain ⟨hz_15, hf⟩ := ck_of hf
        refine lv_irem hC.1 hC.2.1 dX12_soOf_28 (nz_of hz_15) ?_
        refine lv_iconst (v := 1) hC.1 hC.2.1 dX12_soOf_29 (by decide) ?_
        refine lv_icmp_ne (tgt := 37) hC.1 hC.2.1 dX12_soOf_30 (by decide) (fun hc_16 => ?_) (fun hc_16 => ?_)
        · have hf := ite_f hf hc_16
          refine lv_iconst (v := 0) hC.1 hC.2.1 dX12_soOf_37 (by decide) ?_
          refine lv_goto (tgt := 91) hC.1 hC.2.1 dX12_soOf_38 (by decide) ?_
          exact t12_soOf_91 hC ih  _ _ _ _ _ _ _ _ _ hf hW (lv_sub hl [1, 2, 3, 4] rfl)
        · have hf := ite_t hf hc_16
          refine lv_iconst (v := 1) hC.1 hC.2.1 dX12_soOf_33 (by decide) ?_
          refine lv_goto (tgt := 91) hC.1 hC.2.1 dX12_soOf_34 (by decide) ?_
          exact t12_soOf_91 hC ih  _ _ _ _ _ _ _ _ _ hf hW (lv_sub hl [1, 2, 3, 4] rfl)
set_option maxRecDepth 100000 in
set_option maxHeartbeats 4000000 in
theorem t12_soOf_0 (hC : Cx p s m args meth c cX12_soOf 6 wsX12_soOf RX12 (some .int)) : ∀ (x1 : Int32) (SM : Ob) (res : Int32) (H : Heap) (locs : List Loc) (ls : Array Slot), f12_soOf x1 SM = some res → GW D cy ad (w12 cy aM SM) A s H locs → lv_has ls 6 [(0, .ref (aM 0)), (1, .int x1)] → W p l e rm12_soOf s m args below meth c H locs 0 0 (MQ below (QI D cy (w12 cy aM SM) A res) args s 0 0 A) (F0 m 0 ls []) := by
  intro x1 SM res H locs ls hf hW hl
  unfold f12_soOf at hf
  refine lv_iconst (v := 0) hC.1 hC.2.1 dX12_soOf_0 (by decide) ?_
  refine lv_istore_n (lv' := [(2, .int 0), (0, .ref (aM 0)), (1, .int x1)]) hC.1 hC.2.1 dX12_soOf_1 rfl hl (by decide) rfl (fun ls hl => ?_)
  refine lv_iconst (v := 0) hC.1 hC.2.1 dX12_soOf_2 (by decide) ?_
  refine lv_istore_n (lv' := [(3, .int 0), (2, .int 0), (0, .ref (aM 0)), (1, .int x1)]) hC.1 hC.2.1 dX12_soOf_3 rfl hl (by decide) rfl (fun ls hl => ?_)
  exact t12_soOf_4 hC _ _ _ _ _ _ _ _ _ hf hW (lv_sub hl [2, 3, 1, 0] rfl)
set_option maxRecDepth 100000 in
set_option maxHeartbeats 4000000 in
theorem c12_soOf (l : Launch) (D : va_G) (cy : Nat → ClassId) (ad : Nat → Nat) (aM : Nat → Nat) {x1 : Int32} {SM : Ob} {res : Int32} (h : f12_soOf x1 SM = some res) : GCi l yX12_soOf wsX12_soOf rm12_soOf [.ref (aM 0), .int x1] D cy ad (w12 cy aM SM) (w12 cy aM SM) res := fun sz => GC.start (own := RX12) (Qc := fun A => QI D cy (w12 cy aM SM) A res) sz (by decide) rfl rfl (Nat.le_of_ble_eq_true rfl) (fun p e s m below meth c A ls hC hW hl => t12_soOf_0 hC _ _ _ _ _ _ h hW (lv_sub hl [0, 1] rfl))
abbrev rm12_worlds : Room := { frames := 1, cells := 0, slots := 0, locals := 20 }
theorem hdV12_worlds : yX12_worlds.cls = RX12 ∧ (yX12_worlds.cls ≠ "java/lang/invoke/MethodHandle" ∧ yX12_worlds.cls ≠ "java/lang/invoke/VarHandle" ∧ (parseMethodDescriptor yX12_worlds.desc).map (fun d => d.parameters.length) = some 0) := by decide +kernel
set_option maxRecDepth 100000 in
set_option maxHeartbeats 4000000 in
theorem t12_worlds_0 (hC : Cx p s m args meth c cX12_worlds 1 wsX12_worlds RX12 (some .int)) : ∀ (SM : Ob) (res : Int32) (H : Heap) (locs : List Loc) (ls : Array Slot), f12_worlds SM = some res → GW D cy ad (w12 cy aM SM) A s H locs → lv_has ls 1 [(0, .ref (aM 0))] → W p l e rm12_worlds s m args below meth c H locs 0 0 (MQ below (QI D cy (w12 cy aM SM) A res) args s 0 0 A) (F0 m 0 ls []) := by
  intro SM res H locs ls hf hW hl
  unfold f12_worlds at hf
  refine lv_iconst (v := 4) hC.1 hC.2.1 dX12_worlds_0 (by decide) ?_
  refine lv_aload_n hC.1 hC.2.1 dX12_worlds_1 rfl (lv_at hl 0 rfl) ?_
  obtain ⟨r_1, hg_2, hf⟩ := bd_of hf
  refine g_calliV hC hW (c12_guests l D cy ad aM hg_2) (cwV 0 hC.2.2.2.2.1 gX12_worlds_X12_guests rfl rfl rfl hdV12_guests ⟨Nat.le_of_ble_eq_true rfl, Nat.le_of_ble_eq_true rfl⟩) (Sub.all _ _) 0 11 rfl rfl rfl rfl hl.1 rfl (Nat.le_of_ble_eq_true rfl) dX12_worlds_2 ⟨Nat.zero_le _, Nat.zero_le _⟩ (fun H locs hW => ?_)
  refine lv_imul hC.1 hC.2.1 dX12_worlds_5 ?_
  obtain rfl := Option.some.inj hf
  exact g_iret hC hW dX12_worlds_6
set_option maxRecDepth 100000 in
set_option maxHeartbeats 4000000 in
theorem c12_worlds (l : Launch) (D : va_G) (cy : Nat → ClassId) (ad : Nat → Nat) (aM : Nat → Nat) {SM : Ob} {res : Int32} (h : f12_worlds SM = some res) : GCi l yX12_worlds wsX12_worlds rm12_worlds [.ref (aM 0)] D cy ad (w12 cy aM SM) (w12 cy aM SM) res := fun sz => GC.start (own := RX12) (Qc := fun A => QI D cy (w12 cy aM SM) A res) sz (by decide) rfl rfl (Nat.le_of_ble_eq_true rfl) (fun p e s m below meth c A ls hC hW hl => t12_worlds_0 hC _ _ _ _ _ h hW (lv_sub hl [0] rfl))
abbrev rm12_everyWorld : Room := { frames := 2, cells := 0, slots := 0, locals := 40 }
theorem hdV12_everyWorld : yX12_everyWorld.cls = RX12 ∧ (yX12_everyWorld.cls ≠ "java/lang/invoke/MethodHandle" ∧ yX12_everyWorld.cls ≠ "java/lang/invoke/VarHandle" ∧ (parseMethodDescriptor yX12_everyWorld.desc).map (fun d => d.parameters.length) = some 0) := by decide +kernel
set_option maxRecDepth 100000 in
set_option maxHeartbeats 4000000 in
theorem t12_everyWorld_21 (hC : Cx p s m args meth c cX12_everyWorld 1 wsX12_everyWorld RX12 (some .int)) : ∀ (z0 : Int32) (SM : Ob) (res : Int32) (H : Heap) (locs : List Loc) (ls : Array Slot), f12_everyWorld_21 z0 SM = some res → GW D cy ad (w12 cy aM SM) A s H locs → lv_has ls 1 [] → W p l e rm12_everyWorld s m args below meth c H locs 0 0 (MQ below (QI D cy (w12 cy aM SM) A res) args s 0 0 A) (F0 m 21 ls [.int z0]) := by
  intro z0 SM res H locs ls hf hW hl
  unfold f12_everyWorld_21 at hf
  obtain rfl := Option.some.inj hf
  exact g_iret hC hW dX12_everyWorld_21
set_option maxRecDepth 100000 in
set_option maxHeartbeats 4000000 in
theorem t12_everyWorld_0 (hC : Cx p s m args meth c cX12_everyWorld 1 wsX12_everyWorld RX12 (some .int)) : ∀ (SM : Ob) (res : Int32) (H : Heap) (locs : List Loc) (ls : Array Slot), f12_everyWorld SM = some res → GW D cy ad (w12 cy aM SM) A s H locs → lv_has ls 1 [(0, .ref (aM 0))] → W p l e rm12_everyWorld s m args below meth c H locs 0 0 (MQ below (QI D cy (w12 cy aM SM) A res) args s 0 0 A) (F0 m 0 ls []) := by
  intro SM res H locs ls hf hW hl
  unfold f12_everyWorld at hf
  refine lv_aload_n hC.1 hC.2.1 dX12_everyWorld_0 rfl (lv_at hl 0 rfl) ?_
  obtain ⟨r_1, hg_2, hf⟩ := bd_of hf
  refine g_calliV hC hW (c12_worlds l D cy ad aM hg_2) (cwV 0 hC.2.2.2.2.1 gX12_everyWorld_X12_worlds rfl rfl rfl hdV12_worlds ⟨Nat.le_of_ble_eq_true rfl, Nat.le_of_ble_eq_true rfl⟩) (Sub.all _ _) 0 11 rfl rfl rfl rfl hl.1 rfl (Nat.le_of_ble_eq_true rfl) dX12_everyWorld_1 ⟨Nat.zero_le _, Nat.zero_le _⟩ (fun H locs hW => ?_)
  refine lv_bipush (v := 32) hC.1 hC.2.1 dX12_everyWorld_4 (by decide) ?_
  refine lv_icmp_ne (tgt := 13) hC.1 hC.2.1 dX12_everyWorld_6 (by decide) (fun hc_3 => ?_) (fun hc_3 => ?_)
  · have hf := ite_f hf hc_3
    refine lv_iconst (v := 1) hC.1 hC.2.1 dX12_everyWorld_13 (by decide) ?_
    refine lv_aload_n hC.1 hC.2.1 dX12_everyWorld_14 rfl (lv_at hl 0 rfl) ?_
    obtain ⟨r_4, hg_5, hf⟩ := bd_of hf
    refine g_calliV hC hW (c12_worlds l D cy ad aM hg_5) (cwV 0 hC.2.2.2.2.1 gX12_everyWorld_X12_worlds rfl rfl rfl hdV12_worlds ⟨Nat.le_of_ble_eq_true rfl, Nat.le_of_ble_eq_true rfl⟩) (Sub.all _ _) 0 11 rfl rfl rfl rfl hl.1 rfl (Nat.le_of_ble_eq_true rfl) dX12_everyWorld_15 ⟨Nat.zero_le _, Nat.zero_le _⟩ (fun H locs hW => ?_)
    refine lv_ishl hC.1 hC.2.1 dX12_everyWorld_18 ?_
    refine lv_iconst (v := 1) hC.1 hC.2.1 dX12_everyWorld_19 (by decide) ?_
    refine lv_isub hC.1 hC.2.1 dX12_everyWorld_20 ?_
    exact t12_everyWorld_21 hC  _ _ _ _ _ _ hf hW (lv_sub hl [] rfl)
  · have hf := ite_t hf hc_3
    refine lv_iconst (v := (-1)) hC.1 hC.2.1 dX12_everyWorld_9 (by decide) ?_
    refine lv_goto (tgt := 21) hC.1 hC.2.1 dX12_everyWorld_10 (by decide) ?_
    exact t12_everyWorld_21 hC  _ _ _ _ _ _ hf hW (lv_sub hl [] rfl)
set_option maxRecDepth 100000 in
set_option maxHeartbeats 4000000 in
theorem c12_everyWorld (l : Launch) (D : va_G) (cy : Nat → ClassId) (ad : Nat → Nat) (aM : Nat → Nat) {SM : Ob} {res : Int32} (h : f12_everyWorld SM = some res) : GCi l yX12_everyWorld wsX12_everyWorld rm12_everyWorld [.ref (aM 0)] D cy ad (w12 cy aM SM) (w12 cy aM SM) res := fun sz => GC.start (own := RX12) (Qc := fun A => QI D cy (w12 cy aM SM) A res) sz (by decide) rfl rfl (Nat.le_of_ble_eq_true rfl) (fun p e s m below meth c A ls hC hW hl => t12_everyWorld_0 hC _ _ _ _ _ h hW (lv_sub hl [0] rfl))
abbrev rm12_soIn : Room := { frames := 3, cells := 0, slots := 0, locals := 70 }
theorem hdV12_soIn : yX12_soIn.cls = RX12 ∧ (yX12_soIn.cls ≠ "java/lang/invoke/MethodHandle" ∧ yX12_soIn.cls ≠ "java/lang/invoke/VarHandle" ∧ (parseMethodDescriptor yX12_soIn.desc).map (fun d => d.parameters.length) = some 1) := by decide +kernel
theorem hin12_soIn_12 : ∀ x ∈ u_ws RX12 TX12 39, x ∈ wsX12_soIn := fun _ h => List.mem_cons_of_mem _ (List.mem_append_right _ h)
set_option maxRecDepth 100000 in
set_option maxHeartbeats 4000000 in
theorem t12_soIn_187 (hC : Cx p s m args meth c cX12_soIn 5 wsX12_soIn RX12 (some .int)) {k4 : Int32 → Int32 → Ob → Option (Int32 × Ob)} (hk4 : ∀ (x2 : Int32) (x3 : Int32) (SM : Ob) (res : Int32 × Ob) (H : Heap) (locs : List Loc) (ls : Array Slot), k4 x2 x3 SM = some res → GW D cy ad (w12 cy aM SM) A s H locs → lv_has ls 5 [(0, .ref (aM 0)), (2, .int x2), (3, .int x3)] → W p l e rm12_soIn s m args below meth c H locs 0 0 (MQ below (QI D cy (w12 cy aM (res.2)) A (res.1)) args s 0 0 A) (F0 m 4 ls [])) : ∀ (x2 : Int32) (x3 : Int32) (SM : Ob) (res : Int32 × Ob) (H : Heap) (locs : List Loc) (ls : Array Slot), f12_soIn_187 k4 x2 x3 SM = some res → GW D cy ad (w12 cy aM SM) A s H locs → lv_has ls 5 [(0, .ref (aM 0)), (2, .int x2), (3, .int x3)] → W p l e rm12_soIn s m args below meth c H locs 0 0 (MQ below (QI D cy (w12 cy aM (res.2)) A (res.1)) args s 0 0 A) (F0 m 187 ls []) := by
  intro x2 x3 SM res H locs ls hf hW hl
  unfold f12_soIn_187 at hf
  obtain ⟨x3_1, ex3_1⟩ : ∃ y : Int32, y = x3 + 1 := ⟨_, rfl⟩
  have hf := lt_nm hf ex3_1
  refine lv_iinc (v := x3_1) (lv' := [(3, .int x3_1), (0, .ref (aM 0)), (2, .int x2)]) hC.1 hC.2.1 dX12_soIn_187 hl (k := 2) rfl (by rw [ex3_1]; rfl) (by decide) rfl (fun ls hl => ?_)
  refine lv_goto (tgt := 4) hC.1 hC.2.1 dX12_soIn_190 (by decide) ?_
  exact hk4 _ _ _ _ _ _ _ hf hW (lv_sub hl [1, 2, 0] rfl)
set_option maxRecDepth 100000 in
set_option maxHeartbeats 4000000 in
theorem t12_soIn_97 (hC : Cx p s m args meth c cX12_soIn 5 wsX12_soIn RX12 (some .int)) {k4 : Int32 → Int32 → Ob → Option (Int32 × Ob)} (hk4 : ∀ (x2 : Int32) (x3 : Int32) (SM : Ob) (res : Int32 × Ob) (H : Heap) (locs : List Loc) (ls : Array Slot), k4 x2 x3 SM = some res → GW D cy ad (w12 cy aM SM) A s H locs → lv_has ls 5 [(0, .ref (aM 0)), (2, .int x2), (3, .int x3)] → W p l e rm12_soIn s m args below meth c H locs 0 0 (MQ below (QI D cy (w12 cy aM (res.2)) A (res.1)) args s 0 0 A) (F0 m 4 ls [])) : ∀ (x2 : Int32) (x3 : Int32) (z1 : Int32) (z2 : Int32) (SM : Ob) (res : Int32 × Ob) (H : Heap) (locs : List Loc) (ls : Array Slot), f12_soIn_97 k4 x2 x3 z1 z2 SM = some res → GW D cy ad (w12 cy aM SM) A s H locs → lv_has ls 5 [(0, .ref (aM 0)), (2, .int x2), (3, .int x3)] → W p l e rm12_soIn s m args below meth c H locs 0 0 (MQ below (QI D cy (w12 cy aM (res.2)) A (res.1)) args s 0 0 A) (F0 m 97 ls [.int z2, .int z1, .ref (aM 25)]) := by
  intro x2 x3 z1 z2 SM res H locs ls hf hW hl
  unfold f12_soIn_97 at hf
  obtain ⟨hi_1, hf⟩ := ck_of hf
  obtain ⟨SM_2, eSM_2⟩ : ∃ y : Ob, y = oA SM 24 (Int32.toNatClampNeg z1) z2 := ⟨_, rfl⟩
  have hf := lt_nm hf eSM_2
  refine g_iast hC hW 15 rfl hi_1 (w' := w12 cy aM SM_2) (by rw [eSM_2]; rfl) dX12_soIn_97 (fun H locs hW => ?_)
  obtain ⟨x2_3, ex2_3⟩ : ∃ y : Int32, y = x2 + 1 := ⟨_, rfl⟩
  have hf := lt_nm hf ex2_3
  refine lv_iinc (v := x2_3) (lv' := [(2, .int x2_3), (0, .ref (aM 0)), (3, .int x3)]) hC.1 hC.2.1 dX12_soIn_98 hl (k := 1) rfl (by rw [ex2_3]; rfl) (by decide) rfl (fun ls hl => ?_)
  refine lv_goto (tgt := 187) hC.1 hC.2.1 dX12_soIn_101 (by decide) ?_
  exact t12_soIn_187 hC hk4  _ _ _ _ _ _ _ hf hW (lv_sub hl [1, 0, 2] rfl)
set_option maxRecDepth 100000 in
set_option maxHeartbeats 4000000 in
theorem t12_soIn_186 (hC : Cx p s m args meth c cX12_soIn 5 wsX12_soIn RX12 (some .int)) {k4 : Int32 → Int32 → Ob → Option (Int32 × Ob)} (hk4 : ∀ (x2 : Int32) (x3 : Int32) (SM : Ob) (res : Int32 × Ob) (H : Heap) (locs : List Loc) (ls : Array Slot), k4 x2 x3 SM = some res → GW D cy ad (w12 cy aM SM) A s H locs → lv_has ls 5 [(0, .ref (aM 0)), (2, .int x2), (3, .int x3)] → W p l e rm12_soIn s m args below meth c H locs 0 0 (MQ below (QI D cy (w12 cy aM (res.2)) A (res.1)) args s 0 0 A) (F0 m 4 ls [])) : ∀ (x2 : Int32) (x3 : Int32) (z1 : Int32) (z2 : Int32) (SM : Ob) (res : Int32 × Ob) (H : Heap) (locs : List Loc) (ls : Array Slot), f12_soIn_186 k4 x2 x3 z1 z2 SM = some res → GW D cy ad (w12 cy aM SM) A s H locs → lv_has ls 5 [(0, .ref (aM 0)), (2, .int x2), (3, .int x3)] → W p l e rm12_soIn s m args below meth c H locs 0 0 (MQ below (QI D cy (w12 cy aM (res.2)) A (res.1)) args s 0 0 A) (F0 m 186 ls [.int z2, .int z1, .ref (aM 25)]) := by
  intro x2 x3 z1 z2 SM res H locs ls hf hW hl
  unfold f12_soIn_186 at hf
  obtain ⟨hi_1, hf⟩ := ck_of hf
  obtain ⟨SM_2, eSM_2⟩ : ∃ y : Ob, y = oA SM 24 (Int32.toNatClampNeg z1) z2 := ⟨_, rfl⟩
  have hf := lt_nm hf eSM_2
  refine g_iast hC hW 15 rfl hi_1 (w' := w12 cy aM SM_2) (by rw [eSM_2]; rfl) dX12_soIn_186 (fun H locs hW => ?_)
  exact t12_soIn_187 hC hk4  _ _ _ _ _ _ _ hf hW (lv_sub hl [0, 1, 2] rfl)
set_option maxRecDepth 100000 in
set_option maxHeartbeats 4000000 in
theorem t12_soIn_4 (hC : Cx p s m args meth c cX12_soIn 5 wsX12_soIn RX12 (some .int)) : ∀ n : Nat, ∀ (x2 : Int32) (x3 : Int32) (SM : Ob) (res : Int32 × Ob) (H : Heap) (locs : List Loc) (ls : Array Slot), f12_soIn_4 n x2 x3 SM = some res → GW D cy ad (w12 cy aM SM) A s H locs → lv_has ls 5 [(0, .ref (aM 0)), (2, .int x2), (3, .int x3)] → W p l e rm12_soIn s m args below meth c H locs 0 0 (MQ below (QI D cy (w12 cy aM (res.2)) A (res.1)) args s 0 0 A) (F0 m 4 ls []) := by
  intro n
  induction n with
  | zero =>
    intro _ _ _ _ _ _ _ hf _ _
    exact nomatch (show (none : Option (Int32 × Ob)) = some _ from hf)
  | succ n ih =>
    intro x2 x3 SM res H locs ls hf hW hl
    rw [f12_soIn_4] at hf
    refine lv_aload_n hC.1 hC.2.1 dX12_soIn_4 rfl (lv_at hl 0 rfl) ?_
    refine g_get hC hW hin12_soIn_12 0 rfl rfl 11 (by decide) 1 rfl rfl dX12_soIn_5 ?_
    refine lv_iload_n hC.1 hC.2.1 dX12_soIn_8 rfl (lv_at hl 2 rfl) ?_
    obtain ⟨hi_1, hf⟩ := ck_of hf
    refine g_iald hC hW 7 rfl hi_1 dX12_soIn_9 ?_
    refine lv_if_eq (tgt := 193) hC.1 hC.2.1 dX12_soIn_10 (by decide) (fun hc_2 => ?_) (fun hc_2 => ?_)
    · have hf := ite_t hf hc_2
      refine lv_aload_n hC.1 hC.2.1 dX12_soIn_193 rfl (lv_at hl 0 rfl) ?_
      refine g_get hC hW hin12_soIn_12 0 rfl rfl 24 (by decide) 2 rfl rfl dX12_soIn_194 ?_
      refine lv_iconst (v := 0) hC.1 hC.2.1 dX12_soIn_197 (by decide) ?_
      obtain ⟨hi_3, hf⟩ := ck_of hf
      refine g_iald hC hW 15 rfl hi_3 dX12_soIn_198 ?_
      obtain rfl := Option.some.inj hf
      exact g_iret hC hW dX12_soIn_199
    · have hf := ite_f hf hc_2
      refine lv_aload_n hC.1 hC.2.1 dX12_soIn_13 rfl (lv_at hl 0 rfl) ?_
      refine g_get hC hW hin12_soIn_12 0 rfl rfl 11 (by decide) 1 rfl rfl dX12_soIn_14 ?_
      refine lv_iload_n hC.1 hC.2.1 dX12_soIn_17 rfl (lv_at hl 2 rfl) ?_
      obtain ⟨hi_4, hf⟩ := ck_of hf
      refine g_iald hC hW 7 rfl hi_4 dX12_soIn_18 ?_
      refine lv_topi (fun x4_5 ex4_5 => ?_)
      have hf := lt_nm hf ex4_5
      refine lv_istore (lv' := [(4, .int x4_5), (0, .ref (aM 0)), (2, .int x2), (3, .int x3)]) hC.1 hC.2.1 dX12_soIn_19 hl (by decide) rfl (fun ls hl => ?_)
      refine lv_iload hC.1 hC.2.1 dX12_soIn_21 (lv_at hl 0 rfl) ?_
      refine lv_iconst (v := 2) hC.1 hC.2.1 dX12_soIn_23 (by decide) ?_
      refine lv_icmp_ne (tgt := 49) hC.1 hC.2.1 dX12_soIn_24 (by decide) (fun hc_6 => ?_) (fun hc_6 => ?_)
      · have hf := ite_f hf hc_6
        refine lv_iload hC.1 hC.2.1 dX12_soIn_49 (lv_at hl 0 rfl) ?_
        refine lv_iconst (v := 1) hC.1 hC.2.1 dX12_soIn_51 (by decide) ?_
        refine lv_icmp_ne (tgt := 104) hC.1 hC.2.1 dX12_soIn_52 (by decide) (fun hc_7 => ?_) (fun hc_7 => ?_)
        · have hf := ite_f hf hc_7
          refine lv_iload hC.1 hC.2.1 dX12_soIn_104 (lv_at hl 0 rfl) ?_
          refine lv_iconst (v := 3) hC.1 hC.2.1 dX12_soIn_106 (by decide) ?_
          refine lv_icmp_ne (tgt := 136) hC.1 hC.2.1 dX12_soIn_107 (by decide) (fun hc_8 => ?_) (fun hc_8 => ?_)
          · have hf := ite_f hf hc_8
            obtain ⟨x2_9, ex2_9⟩ : ∃ y : Int32, y = x2 + (-1) := ⟨_, rfl⟩
            have hf := lt_nm hf ex2_9
            refine lv_iinc (v := x2_9) (lv' := [(2, .int x2_9), (4, .int x4_5), (0, .ref (aM 0)), (3, .int x3)]) hC.1 hC.2.1 dX12_soIn_136 hl (k := 2) rfl (by rw [ex2_9]; rfl) (by decide) rfl (fun ls hl => ?_)
            refine lv_aload_n hC.1 hC.2.1 dX12_soIn_139 rfl (lv_at hl 2 rfl) ?_
            refine g_get hC hW hin12_soIn_12 0 rfl rfl 24 (by decide) 2 rfl rfl dX12_soIn_140 ?_
            refine lv_iload_n hC.1 hC.2.1 dX12_soIn_143 rfl (lv_at hl 0 rfl) ?_
            refine lv_iconst (v := 1) hC.1 hC.2.1 dX12_soIn_144 (by decide) ?_
            refine lv_isub hC.1 hC.2.1 dX12_soIn_145 ?_
            refine lv_iload hC.1 hC.2.1 dX12_soIn_146 (lv_at hl 1 rfl) ?_
            refine lv_bipush (v := 9) hC.1 hC.2.1 dX12_soIn_148 (by decide) ?_
            refine lv_icmp_ne (tgt := 171) hC.1 hC.2.1 dX12_soIn_150 (by decide) (fun hc_10 => ?_) (fun hc_10 => ?_)
            · have hf := ite_f hf hc_10
              refine lv_aload_n hC.1 hC.2.1 dX12_soIn_171 rfl (lv_at hl 2 rfl) ?_
              refine g_get hC hW hin12_soIn_12 0 rfl rfl 24 (by decide) 2 rfl rfl dX12_soIn_172 ?_
              refine lv_iload_n hC.1 hC.2.1 dX12_soIn_175 rfl (lv_at hl 0 rfl) ?_
              refine lv_iconst (v := 1) hC.1 hC.2.1 dX12_soIn_176 (by decide) ?_
              refine lv_isub hC.1 hC.2.1 dX12_soIn_177 ?_
              obtain ⟨hi_11, hf⟩ := ck_of hf
              refine g_iald hC hW 15 rfl hi_11 dX12_soIn_178 ?_
              refine lv_aload_n hC.1 hC.2.1 dX12_soIn_179 rfl (lv_at hl 2 rfl) ?_
              refine g_get hC hW hin12_soIn_12 0 rfl rfl 24 (by decide) 2 rfl rfl dX12_soIn_180 ?_
              refine lv_iload_n hC.1 hC.2.1 dX12_soIn_183 rfl (lv_at hl 0 rfl) ?_
              obtain ⟨hi_12, hf⟩ := ck_of hf
              refine g_iald hC hW 15 rfl hi_12 dX12_soIn_184 ?_
              refine lv_ior hC.1 hC.2.1 dX12_soIn_185 ?_
              exact t12_soIn_186 hC ih  _ _ _ _ _ _ _ _ _ hf hW (lv_sub hl [2, 0, 3] rfl)
            · have hf := ite_t hf hc_10
              refine lv_aload_n hC.1 hC.2.1 dX12_soIn_153 rfl (lv_at hl 2 rfl) ?_
              refine g_get hC hW hin12_soIn_12 0 rfl rfl 24 (by decide) 2 rfl rfl dX12_soIn_154 ?_
              refine lv_iload_n hC.1 hC.2.1 dX12_soIn_157 rfl (lv_at hl 0 rfl) ?_
              refine lv_iconst (v := 1) hC.1 hC.2.1 dX12_soIn_158 (by decide) ?_
              refine lv_isub hC.1 hC.2.1 dX12_soIn_159 ?_
              obtain ⟨hi_13, hf⟩ := ck_of hf
              refine g_iald hC hW 15 rfl hi_13 dX12_soIn_160 ?_
              refine lv_aload_n hC.1 hC.2.1 dX12_soIn_161 rfl (lv_at hl 2 rfl) ?_
              refine g_get hC hW hin12_soIn_12 0 rfl rfl 24 (by decide) 2 rfl rfl dX12_soIn_162 ?_
              refine lv_iload_n hC.1 hC.2.1 dX12_soIn_165 rfl (lv_at hl 0 rfl) ?_
              obtain ⟨hi_14, hf⟩ := ck_of hf
              refine g_iald hC hW 15 rfl hi_14 dX12_soIn_166 ?_
              refine lv_iand hC.1 hC.2.1 dX12_soIn_167 ?_
              refine lv_goto (tgt := 186) hC.1 hC.2.1 dX12_soIn_168 (by decide) ?_
              exact t12_soIn_186 hC ih  _ _ _ _ _ _ _ _ _ hf hW (lv_sub hl [2, 0, 3] rfl)
          · have hf := ite_t hf hc_8
            refine lv_aload_n hC.1 hC.2.1 dX12_soIn_110 rfl (lv_at hl 1 rfl) ?_
            refine g_get hC hW hin12_soIn_12 0 rfl rfl 24 (by decide) 2 rfl rfl dX12_soIn_111 ?_
            refine lv_iload_n hC.1 hC.2.1 dX12_soIn_114 rfl (lv_at hl 2 rfl) ?_
            refine lv_iconst (v := 1) hC.1 hC.2.1 dX12_soIn_115 (by decide) ?_
            refine lv_isub hC.1 hC.2.1 dX12_soIn_116 ?_
            refine lv_aload_n hC.1 hC.2.1 dX12_soIn_117 rfl (lv_at hl 1 rfl) ?_
            refine g_get hC hW hin12_soIn_12 0 rfl rfl 24 (by decide) 2 rfl rfl dX12_soIn_118 ?_
            refine lv_iload_n hC.1 hC.2.1 dX12_soIn_121 rfl (lv_at hl 2 rfl) ?_
            refine lv_iconst (v := 1) hC.1 hC.2.1 dX12_soIn_122 (by decide) ?_
            refine lv_isub hC.1 hC.2.1 dX12_soIn_123 ?_
            obtain ⟨hi_15, hf⟩ := ck_of hf
            refine g_iald hC hW 15 rfl hi_15 dX12_soIn_124 ?_
            refine lv_iconst (v := (-1)) hC.1 hC.2.1 dX12_soIn_125 (by decide) ?_
            refine lv_ixor hC.1 hC.2.1 dX12_soIn_126 ?_
            refine lv_aload_n hC.1 hC.2.1 dX12_soIn_127 rfl (lv_at hl 1 rfl) ?_
            obtain ⟨r_16, hg_17, hf⟩ := bd_of hf
            refine g_calliV hC hW (c12_everyWorld l D cy ad aM hg_17) (cwV 0 hC.2.2.2.2.1 gX12_soIn_X12_everyWorld rfl rfl rfl hdV12_everyWorld ⟨Nat.le_of_ble_eq_true rfl, Nat.le_of_ble_eq_true rfl⟩) (Sub.all _ _) 0 11 rfl rfl rfl rfl hl.1 rfl (Nat.le_of_ble_eq_true rfl) dX12_soIn_128 ⟨Nat.zero_le _, Nat.zero_le _⟩ (fun H locs hW => ?_)
            refine lv_iand hC.1 hC.2.1 dX12_soIn_131 ?_
            obtain ⟨hi_18, hf⟩ := ck_of hf
            obtain ⟨SM_19, eSM_19⟩ : ∃ y : Ob, y = oA SM 24 (Int32.toNatClampNeg (x2 - 1)) (((SM.2.2.1 24 (Int32.toNatClampNeg (x2 - 1))) ^^^ (-1)) &&& r_16) := ⟨_, rfl⟩
            have hf := lt_nm hf eSM_19
            refine g_iast hC hW 15 rfl hi_18 (w' := w12 cy aM SM_19) (by rw [eSM_19]; rfl) dX12_soIn_132 (fun H locs hW => ?_)
            refine lv_goto (tgt := 187) hC.1 hC.2.1 dX12_soIn_133 (by decide) ?_
            exact t12_soIn_187 hC ih  _ _ _ _ _ _ _ hf hW (lv_sub hl [1, 2, 3] rfl)
        · have hf := ite_t hf hc_7
          refine lv_aload_n hC.1 hC.2.1 dX12_soIn_55 rfl (lv_at hl 1 rfl) ?_
          refine g_get hC hW hin12_soIn_12 0 rfl rfl 24 (by decide) 2 rfl rfl dX12_soIn_56 ?_
          refine lv_iload_n hC.1 hC.2.1 dX12_soIn_59 rfl (lv_at hl 2 rfl) ?_
          refine lv_aload_n hC.1 hC.2.1 dX12_soIn_60 rfl (lv_at hl 1 rfl) ?_
          refine g_get hC hW hin12_soIn_12 0 rfl rfl 12 (by decide) 3 rfl rfl dX12_soIn_61 ?_
          refine lv_iload_n hC.1 hC.2.1 dX12_soIn_64 rfl (lv_at hl 3 rfl) ?_
          obtain ⟨hi_20, hf⟩ := ck_of hf
          refine g_iald hC hW 8 rfl hi_20 dX12_soIn_65 ?_
          refine lv_bipush (v := 20) hC.1 hC.2.1 dX12_soIn_66 (by decide) ?_
          refine lv_icmp_ge (tgt := 83) hC.1 hC.2.1 dX12_soIn_68 (by decide) (fun hc_21 => ?_) (fun hc_21 => ?_)
          · have hf := ite_t hf hc_21
            refine lv_aload_n hC.1 hC.2.1 dX12_soIn_83 rfl (lv_at hl 1 rfl) ?_
            refine g_get hC hW hin12_soIn_12 0 rfl rfl 28 (by decide) 4 rfl rfl dX12_soIn_84 ?_
            refine lv_aload_n hC.1 hC.2.1 dX12_soIn_87 rfl (lv_at hl 1 rfl) ?_
            refine g_get hC hW hin12_soIn_12 0 rfl rfl 12 (by decide) 3 rfl rfl dX12_soIn_88 ?_
            refine lv_iload_n hC.1 hC.2.1 dX12_soIn_91 rfl (lv_at hl 3 rfl) ?_
            obtain ⟨hi_22, hf⟩ := ck_of hf
            refine g_iald hC hW 8 rfl hi_22 dX12_soIn_92 ?_
            refine lv_bipush (v := 20) hC.1 hC.2.1 dX12_soIn_93 (by decide) ?_
            refine lv_isub hC.1 hC.2.1 dX12_soIn_95 ?_
            obtain ⟨hi_23, hf⟩ := ck_of hf
            refine g_iald hC hW 18 rfl hi_23 dX12_soIn_96 ?_
            exact t12_soIn_97 hC ih  _ _ _ _ _ _ _ _ _ hf hW (lv_sub hl [1, 2, 3] rfl)
          · have hf := ite_f hf hc_21
            refine lv_aload_n hC.1 hC.2.1 dX12_soIn_71 rfl (lv_at hl 1 rfl) ?_
            refine g_get hC hW hin12_soIn_12 0 rfl rfl 12 (by decide) 3 rfl rfl dX12_soIn_72 ?_
            refine lv_iload_n hC.1 hC.2.1 dX12_soIn_75 rfl (lv_at hl 3 rfl) ?_
            obtain ⟨hi_24, hf⟩ := ck_of hf
            refine g_iald hC hW 8 rfl hi_24 dX12_soIn_76 ?_
            obtain ⟨r_25, hg_26, hf⟩ := bd_of hf
            refine g_calliS hC hW (c12_worldsOf l D cy ad  hg_26) (va_cwS 1 hC.2.2.2.2.1 gX12_soIn_X12_worldsOf rfl rfl rfl hdS12_worldsOf ⟨Nat.le_of_ble_eq_true rfl, Nat.le_of_ble_eq_true rfl⟩) (Sub.nil _) rfl hl.1 rfl (Nat.le_of_ble_eq_true rfl) dX12_soIn_77 ⟨Nat.zero_le _, Nat.zero_le _⟩ (fun H locs hW => ?_)
            refine lv_goto (tgt := 97) hC.1 hC.2.1 dX12_soIn_80 (by decide) ?_
            exact t12_soIn_97 hC ih  _ _ _ _ _ _ _ _ _ hf hW (lv_sub hl [1, 2, 3] rfl)
      · have hf := ite_t hf hc_6
        refine lv_aload_n hC.1 hC.2.1 dX12_soIn_27 rfl (lv_at hl 1 rfl) ?_
        refine g_get hC hW hin12_soIn_12 0 rfl rfl 24 (by decide) 2 rfl rfl dX12_soIn_28 ?_
        refine lv_iload_n hC.1 hC.2.1 dX12_soIn_31 rfl (lv_at hl 2 rfl) ?_
        refine lv_aload_n hC.1 hC.2.1 dX12_soIn_32 rfl (lv_at hl 1 rfl) ?_
        refine lv_aload_n hC.1 hC.2.1 dX12_soIn_33 rfl (lv_at hl 1 rfl) ?_
        refine g_get hC hW hin12_soIn_12 0 rfl rfl 12 (by decide) 3 rfl rfl dX12_soIn_34 ?_
        refine lv_iload_n hC.1 hC.2.1 dX12_soIn_37 rfl (lv_at hl 3 rfl) ?_
        obtain ⟨hi_27, hf⟩ := ck_of hf
        refine g_iald hC hW 8 rfl hi_27 dX12_soIn_38 ?_
        obtain ⟨r_28, hg_29, hf⟩ := bd_of hf
        refine g_calliV hC hW (c12_soOf l D cy ad aM hg_29) (cwV 1 hC.2.2.2.2.1 gX12_soIn_X12_soOf rfl rfl rfl hdV12_soOf ⟨Nat.le_of_ble_eq_true rfl, Nat.le_of_ble_eq_true rfl⟩) (Sub.all _ _) 0 11 rfl rfl rfl rfl hl.1 rfl (Nat.le_of_ble_eq_true rfl) dX12_soIn_39 ⟨Nat.zero_le _, Nat.zero_le _⟩ (fun H locs hW => ?_)
        obtain ⟨hi_30, hf⟩ := ck_of hf
        obtain ⟨SM_31, eSM_31⟩ : ∃ y : Ob, y = oA SM 24 (Int32.toNatClampNeg x2) r_28 := ⟨_, rfl⟩
        have hf := lt_nm hf eSM_31
        refine g_iast hC hW 15 rfl hi_30 (w' := w12 cy aM SM_31) (by rw [eSM_31]; rfl) dX12_soIn_42 (fun H locs hW => ?_)
        obtain ⟨x2_32, ex2_32⟩ : ∃ y : Int32, y = x2 + 1 := ⟨_, rfl⟩
        have hf := lt_nm hf ex2_32
        refine lv_iinc (v := x2_32) (lv' := [(2, .int x2_32), (4, .int x4_5), (0, .ref (aM 0)), (3, .int x3)]) hC.1 hC.2.1 dX12_soIn_43 hl (k := 2) rfl (by rw [ex2_32]; rfl) (by decide) rfl (fun ls hl => ?_)
        refine lv_goto (tgt := 187) hC.1 hC.2.1 dX12_soIn_46 (by decide) ?_
        exact t12_soIn_187 hC ih  _ _ _ _ _ _ _ hf hW (lv_sub hl [2, 0, 3] rfl)
set_option maxRecDepth 100000 in
set_option maxHeartbeats 4000000 in
theorem t12_soIn_0 (hC : Cx p s m args meth c cX12_soIn 5 wsX12_soIn RX12 (some .int)) : ∀ (x1 : Int32) (SM : Ob) (res : Int32 × Ob) (H : Heap) (locs : List Loc) (ls : Array Slot), f12_soIn x1 SM = some res → GW D cy ad (w12 cy aM SM) A s H locs → lv_has ls 5 [(0, .ref (aM 0)), (1, .int x1)] → W p l e rm12_soIn s m args below meth c H locs 0 0 (MQ below (QI D cy (w12 cy aM (res.2)) A (res.1)) args s 0 0 A) (F0 m 0 ls []) := by
  intro x1 SM res H locs ls hf hW hl
  unfold f12_soIn at hf
  refine lv_iconst (v := 0) hC.1 hC.2.1 dX12_soIn_0 (by decide) ?_
  refine lv_istore_n (lv' := [(2, .int 0), (0, .ref (aM 0)), (1, .int x1)]) hC.1 hC.2.1 dX12_soIn_1 rfl hl (by decide) rfl (fun ls hl => ?_)
  refine lv_iload_n hC.1 hC.2.1 dX12_soIn_2 rfl (lv_at hl 2 rfl) ?_
  refine lv_istore_n (lv' := [(3, .int x1), (2, .int 0), (0, .ref (aM 0)), (1, .int x1)]) hC.1 hC.2.1 dX12_soIn_3 rfl hl (by decide) rfl (fun ls hl => ?_)
  exact t12_soIn_4 hC _ _ _ _ _ _ _ _ hf hW (lv_sub hl [2, 1, 0] rfl)
set_option maxRecDepth 100000 in
set_option maxHeartbeats 4000000 in
theorem c12_soIn (l : Launch) (D : va_G) (cy : Nat → ClassId) (ad : Nat → Nat) (aM : Nat → Nat) {x1 : Int32} {SM : Ob} {res : Int32 × Ob} (h : f12_soIn x1 SM = some res) : GCi l yX12_soIn wsX12_soIn rm12_soIn [.ref (aM 0), .int x1] D cy ad (w12 cy aM SM) (w12 cy aM (res.2)) (res.1) := fun sz => GC.start (own := RX12) (Qc := fun A => QI D cy (w12 cy aM (res.2)) A (res.1)) sz (by decide) rfl rfl (Nat.le_of_ble_eq_true rfl) (fun p e s m below meth c A ls hC hW hl => t12_soIn_0 hC _ _ _ _ _ _ h hW (lv_sub hl [0, 1] rfl))
abbrev rm12_starts : Room := { frames := 3, cells := 0, slots := 0, locals := 60 }
theorem hdV12_starts : yX12_starts.cls = RX12 ∧ (yX12_starts.cls ≠ "java/lang/invoke/MethodHandle" ∧ yX12_starts.cls ≠ "java/lang/invoke/VarHandle" ∧ (parseMethodDescriptor yX12_starts.desc).map (fun d => d.parameters.length) = some 1) := by decide +kernel
theorem hin12_starts_12 : ∀ x ∈ u_ws RX12 TX12 39, x ∈ wsX12_starts := fun _ h => List.mem_cons_of_mem _ (List.mem_append_right _ h)
set_option maxRecDepth 100000 in
set_option maxHeartbeats 4000000 in
theorem t12_starts_0 (hC : Cx p s m args meth c cX12_starts 2 wsX12_starts RX12 none) : ∀ (x1 : Int32) (SM : Ob) (res : Ob) (H : Heap) (locs : List Loc) (ls : Array Slot), f12_starts x1 SM = some res → GW D cy ad (w12 cy aM SM) A s H locs → lv_has ls 2 [(0, .ref (aM 0)), (1, .int x1)] → W p l e rm12_starts s m args below meth c H locs 0 0 (MQ below (QV D cy (w12 cy aM res) A) args s 0 0 A) (F0 m 0 ls []) := by
  intro x1 SM res H locs ls hf hW hl
  unfold f12_starts at hf
  refine lv_aload_n hC.1 hC.2.1 dX12_starts_0 rfl (lv_at hl 0 rfl) ?_
  refine g_get hC hW hin12_starts_12 0 rfl rfl 25 (by decide) 1 rfl rfl dX12_starts_1 ?_
  refine lv_iload_n hC.1 hC.2.1 dX12_starts_4 rfl (lv_at hl 1 rfl) ?_
  refine lv_iconst (v := 0) hC.1 hC.2.1 dX12_starts_5 (by decide) ?_
  refine lv_iadd hC.1 hC.2.1 dX12_starts_6 ?_
  refine lv_aload_n hC.1 hC.2.1 dX12_starts_7 rfl (lv_at hl 0 rfl) ?_
  obtain ⟨r_1, hg_2, hf⟩ := bd_of hf
  refine g_calliV hC hW (c12_everyWorld l D cy ad aM hg_2) (cwV 0 hC.2.2.2.2.1 gX12_starts_X12_everyWorld rfl rfl rfl hdV12_everyWorld ⟨Nat.le_of_ble_eq_true rfl, Nat.le_of_ble_eq_true rfl⟩) (Sub.all _ _) 0 11 rfl rfl rfl rfl hl.1 rfl (Nat.le_of_ble_eq_true rfl) dX12_starts_8 ⟨Nat.zero_le _, Nat.zero_le _⟩ (fun H locs hW => ?_)
  obtain ⟨hi_3, hf⟩ := ck_of hf
  obtain ⟨SM_4, eSM_4⟩ : ∃ y : Ob, y = oA SM 25 (Int32.toNatClampNeg (x1 + 0)) r_1 := ⟨_, rfl⟩
  have hf := lt_nm hf eSM_4
  refine g_iast hC hW 16 rfl hi_3 (w' := w12 cy aM SM_4) (by rw [eSM_4]; rfl) dX12_starts_11 (fun H locs hW => ?_)
  refine lv_aload_n hC.1 hC.2.1 dX12_starts_12 rfl (lv_at hl 0 rfl) ?_
  refine g_get hC hW hin12_starts_12 0 rfl rfl 25 (by decide) 1 rfl rfl dX12_starts_13 ?_
  refine lv_iload_n hC.1 hC.2.1 dX12_starts_16 rfl (lv_at hl 1 rfl) ?_
  refine lv_iconst (v := 1) hC.1 hC.2.1 dX12_starts_17 (by decide) ?_
  refine lv_iadd hC.1 hC.2.1 dX12_starts_18 ?_
  refine lv_iconst (v := 0) hC.1 hC.2.1 dX12_starts_19 (by decide) ?_
  obtain ⟨hi_5, hf⟩ := ck_of hf
  obtain ⟨SM_6, eSM_6⟩ : ∃ y : Ob, y = oA SM_4 25 (Int32.toNatClampNeg (x1 + 1)) 0 := ⟨_, rfl⟩
  have hf := lt_nm hf eSM_6
  refine g_iast hC hW 16 rfl hi_5 (w' := w12 cy aM SM_6) (by rw [eSM_6]; rfl) dX12_starts_20 (fun H locs hW => ?_)
  obtain rfl := Option.some.inj hf
  exact g_vret hC hW dX12_starts_21
set_option maxRecDepth 100000 in
set_option maxHeartbeats 4000000 in
theorem c12_starts (l : Launch) (D : va_G) (cy : Nat → ClassId) (ad : Nat → Nat) (aM : Nat → Nat) {x1 : Int32} {SM : Ob} {res : Ob} (h : f12_starts x1 SM = some res) : GCv l yX12_starts wsX12_starts rm12_starts [.ref (aM 0), .int x1] D cy ad (w12 cy aM SM) (w12 cy aM res) := fun sz => GC.start (own := RX12) (Qc := fun A => QV D cy (w12 cy aM res) A) sz (by decide) rfl rfl (Nat.le_of_ble_eq_true rfl) (fun p e s m below meth c A ls hC hW hl => t12_starts_0 hC _ _ _ _ _ _ h hW (lv_sub hl [0, 1] rfl))
end
