/-! laid by program: functions, walks and contracts of 11_feed, 11_guest, 11_shows, 11_left, 11_leave, 11_answer, 11_sign, 11_weather, 11_night, 11_undo, 11_onlyOne, 11_judged, 11_spare, 11_who, 11_ask, 11_fewest, 11_tell, 11_isLeft, 11_knows -/
set_option maxRecDepth 20000 in
theorem gX11_feed_X10_put : GoodIn wsX11_feed (wsV RX11 77 RX10 yX10_put wsX10_put) := goodIn_r _ [3, 4, 5, 6, 7, 8, 9, 10, 23, 24, 25, 26, 27, 28, 29, 30] rfl (by decide +kernel)
theorem dX11_feed_0 : decode cX11_feed 0 = .ok (.aload_n 0, 1) := by decide +kernel
theorem dX11_feed_1 : decode cX11_feed 1 = .ok (.getfield 20, 3) := by decide +kernel
theorem dX11_feed_4 : decode cX11_feed 4 = .ok (.lload_n 1, 1) := by decide +kernel
theorem dX11_feed_5 : decode cX11_feed 5 = .ok (.invokevirtual 77, 3) := by decide +kernel
theorem dX11_feed_8 : decode cX11_feed 8 = .ok (.aload_n 0, 1) := by decide +kernel
theorem dX11_feed_9 : decode cX11_feed 9 = .ok (.getfield 20, 3) := by decide +kernel
theorem dX11_feed_12 : decode cX11_feed 12 = .ok (.lload_n 3, 1) := by decide +kernel
theorem dX11_feed_13 : decode cX11_feed 13 = .ok (.invokevirtual 77, 3) := by decide +kernel
theorem dX11_feed_16 : decode cX11_feed 16 = .ok (.aload_n 0, 1) := by decide +kernel
theorem dX11_feed_17 : decode cX11_feed 17 = .ok (.getfield 20, 3) := by decide +kernel
theorem dX11_feed_20 : decode cX11_feed 20 = .ok (.lload 5, 2) := by decide +kernel
theorem dX11_feed_22 : decode cX11_feed 22 = .ok (.invokevirtual 77, 3) := by decide +kernel
theorem dX11_feed_25 : decode cX11_feed 25 = .ok (.aload_n 0, 1) := by decide +kernel
theorem dX11_feed_26 : decode cX11_feed 26 = .ok (.getfield 20, 3) := by decide +kernel
theorem dX11_feed_29 : decode cX11_feed 29 = .ok (.getfield 83, 3) := by decide +kernel
theorem dX11_feed_32 : decode cX11_feed 32 = .ok (.ireturn, 1) := by decide +kernel
set_option maxRecDepth 20000 in
theorem gX11_guest_X4_hasGuest : GoodIn wsX11_guest (wsV RX11 105 RX4 yX4_hasGuest wsX4_hasGuest) := goodIn_r _ [7, 8, 9, 10, 11, 12, 25, 26, 27, 28, 29, 30, 31, 32, 33, 34, 35, 36, 37] rfl (by decide +kernel)
theorem dX11_guest_0 : decode cX11_guest 0 = .ok (.aload_n 0, 1) := by decide +kernel
theorem dX11_guest_1 : decode cX11_guest 1 = .ok (.getfield 24, 3) := by decide +kernel
theorem dX11_guest_4 : decode cX11_guest 4 = .ok (.iload_n 1, 1) := by decide +kernel
theorem dX11_guest_5 : decode cX11_guest 5 = .ok (.invokevirtual 105, 3) := by decide +kernel
theorem dX11_guest_8 : decode cX11_guest 8 = .ok (.ifCond .ne 5, 3) := by decide +kernel
theorem dX11_guest_11 : decode cX11_guest 11 = .ok (.iconst (-1), 1) := by decide +kernel
theorem dX11_guest_12 : decode cX11_guest 12 = .ok (.ireturn, 1) := by decide +kernel
theorem dX11_guest_13 : decode cX11_guest 13 = .ok (.iload_n 2, 1) := by decide +kernel
theorem dX11_guest_14 : decode cX11_guest 14 = .ok (.tableswitch 84 0 4 #[34, 44, 54, 64, 74], 34) := by decide +kernel
theorem dX11_guest_48 : decode cX11_guest 48 = .ok (.aload_n 0, 1) := by decide +kernel
theorem dX11_guest_49 : decode cX11_guest 49 = .ok (.getfield 24, 3) := by decide +kernel
theorem dX11_guest_52 : decode cX11_guest 52 = .ok (.getfield 109, 3) := by decide +kernel
theorem dX11_guest_55 : decode cX11_guest 55 = .ok (.iload_n 1, 1) := by decide +kernel
theorem dX11_guest_56 : decode cX11_guest 56 = .ok (.iaload, 1) := by decide +kernel
theorem dX11_guest_57 : decode cX11_guest 57 = .ok (.ireturn, 1) := by decide +kernel
theorem dX11_guest_58 : decode cX11_guest 58 = .ok (.aload_n 0, 1) := by decide +kernel
theorem dX11_guest_59 : decode cX11_guest 59 = .ok (.getfield 24, 3) := by decide +kernel
theorem dX11_guest_62 : decode cX11_guest 62 = .ok (.getfield 113, 3) := by decide +kernel
theorem dX11_guest_65 : decode cX11_guest 65 = .ok (.iload_n 1, 1) := by decide +kernel
theorem dX11_guest_66 : decode cX11_guest 66 = .ok (.iaload, 1) := by decide +kernel
theorem dX11_guest_67 : decode cX11_guest 67 = .ok (.ireturn, 1) := by decide +kernel
theorem dX11_guest_68 : decode cX11_guest 68 = .ok (.aload_n 0, 1) := by decide +kernel
theorem dX11_guest_69 : decode cX11_guest 69 = .ok (.getfield 24, 3) := by decide +kernel
theorem dX11_guest_72 : decode cX11_guest 72 = .ok (.getfield 116, 3) := by decide +kernel
theorem dX11_guest_75 : decode cX11_guest 75 = .ok (.iload_n 1, 1) := by decide +kernel
theorem dX11_guest_76 : decode cX11_guest 76 = .ok (.iaload, 1) := by decide +kernel
theorem dX11_guest_77 : decode cX11_guest 77 = .ok (.ireturn, 1) := by decide +kernel
theorem dX11_guest_78 : decode cX11_guest 78 = .ok (.aload_n 0, 1) := by decide +kernel
theorem dX11_guest_79 : decode cX11_guest 79 = .ok (.getfield 24, 3) := by decide +kernel
theorem dX11_guest_82 : decode cX11_guest 82 = .ok (.getfield 119, 3) := by decide +kernel
theorem dX11_guest_85 : decode cX11_guest 85 = .ok (.iload_n 1, 1) := by decide +kernel
theorem dX11_guest_86 : decode cX11_guest 86 = .ok (.iaload, 1) := by decide +kernel
theorem dX11_guest_87 : decode cX11_guest 87 = .ok (.ireturn, 1) := by decide +kernel
theorem dX11_guest_88 : decode cX11_guest 88 = .ok (.aload_n 0, 1) := by decide +kernel
theorem dX11_guest_89 : decode cX11_guest 89 = .ok (.getfield 24, 3) := by decide +kernel
theorem dX11_guest_92 : decode cX11_guest 92 = .ok (.getfield 122, 3) := by decide +kernel
theorem dX11_guest_95 : decode cX11_guest 95 = .ok (.iload_n 1, 1) := by decide +kernel
theorem dX11_guest_96 : decode cX11_guest 96 = .ok (.iaload, 1) := by decide +kernel
theorem dX11_guest_97 : decode cX11_guest 97 = .ok (.ireturn, 1) := by decide +kernel
theorem dX11_guest_98 : decode cX11_guest 98 = .ok (.iconst (-1), 1) := by decide +kernel
theorem dX11_guest_99 : decode cX11_guest 99 = .ok (.ireturn, 1) := by decide +kernel
set_option maxRecDepth 20000 in
theorem gX11_shows_X4_hasWorld : GoodIn wsX11_shows (wsV RX11 125 RX4 yX4_hasWorld wsX4_hasWorld) := goodIn_r _ [3, 4, 5, 6, 7, 8, 21, 22, 23, 24, 25, 26, 27, 28, 29, 30, 31, 32, 33] rfl (by decide +kernel)
theorem dX11_shows_0 : decode cX11_shows 0 = .ok (.aload_n 0, 1) := by decide +kernel
theorem dX11_shows_1 : decode cX11_shows 1 = .ok (.getfield 24, 3) := by decide +kernel
theorem dX11_shows_4 : decode cX11_shows 4 = .ok (.iload_n 1, 1) := by decide +kernel
theorem dX11_shows_5 : decode cX11_shows 5 = .ok (.invokevirtual 125, 3) := by decide +kernel
theorem dX11_shows_8 : decode cX11_shows 8 = .ok (.ifCond .eq 15, 3) := by decide +kernel
theorem dX11_shows_11 : decode cX11_shows 11 = .ok (.aload_n 0, 1) := by decide +kernel
theorem dX11_shows_12 : decode cX11_shows 12 = .ok (.getfield 24, 3) := by decide +kernel
theorem dX11_shows_15 : decode cX11_shows 15 = .ok (.getfield 128, 3) := by decide +kernel
theorem dX11_shows_18 : decode cX11_shows 18 = .ok (.iload_n 1, 1) := by decide +kernel
theorem dX11_shows_19 : decode cX11_shows 19 = .ok (.iaload, 1) := by decide +kernel
theorem dX11_shows_20 : decode cX11_shows 20 = .ok (.goto 4, 3) := by decide +kernel
theorem dX11_shows_23 : decode cX11_shows 23 = .ok (.iconst (-1), 1) := by decide +kernel
theorem dX11_shows_24 : decode cX11_shows 24 = .ok (.ireturn, 1) := by decide +kernel
theorem dX11_left_0 : decode cX11_left 0 = .ok (.aload_n 0, 1) := by decide +kernel
theorem dX11_left_1 : decode cX11_left 1 = .ok (.getfield 44, 3) := by decide +kernel
theorem dX11_left_4 : decode cX11_left 4 = .ok (.getfield 131, 3) := by decide +kernel
theorem dX11_left_7 : decode cX11_left 7 = .ok (.ireturn, 1) := by decide +kernel
set_option maxRecDepth 20000 in
theorem gX11_leave_X0_narrow : GoodIn wsX11_leave (wsV RX11 272 RX0 yX0_narrow wsX0_narrow) := goodIn_r _ [3, 4, 5, 6, 7, 8, 9, 10, 11, 6, 12, 13, 14, 15, 16, 36, 37, 38, 39, 40, 41, 42, 43, 44] rfl (by decide +kernel)
set_option maxRecDepth 20000 in
theorem gX11_leave_J6_bitCount_0f7a4 : GoodIn wsX11_leave (va_wsS RX11 178 yJ6_bitCount_0f7a4 wsJ6_bitCount_0f7a4) := goodIn_r _ [17, 18, 19, 20, 21, 22, 23] rfl (by decide +kernel)
theorem dX11_leave_0 : decode cX11_leave 0 = .ok (.aload_n 0, 1) := by decide +kernel
theorem dX11_leave_1 : decode cX11_leave 1 = .ok (.getfield 44, 3) := by decide +kernel
theorem dX11_leave_4 : decode cX11_leave 4 = .ok (.iload_n 1, 1) := by decide +kernel
theorem dX11_leave_5 : decode cX11_leave 5 = .ok (.invokevirtual 272, 3) := by decide +kernel
theorem dX11_leave_8 : decode cX11_leave 8 = .ok (.ifCond .eq 16, 3) := by decide +kernel
theorem dX11_leave_11 : decode cX11_leave 11 = .ok (.aload_n 0, 1) := by decide +kernel
theorem dX11_leave_12 : decode cX11_leave 12 = .ok (.getfield 44, 3) := by decide +kernel
theorem dX11_leave_15 : decode cX11_leave 15 = .ok (.getfield 131, 3) := by decide +kernel
theorem dX11_leave_18 : decode cX11_leave 18 = .ok (.invokestatic 178, 3) := by decide +kernel
theorem dX11_leave_21 : decode cX11_leave 21 = .ok (.goto 4, 3) := by decide +kernel
theorem dX11_leave_24 : decode cX11_leave 24 = .ok (.iconst (-1), 1) := by decide +kernel
theorem dX11_leave_25 : decode cX11_leave 25 = .ok (.ireturn, 1) := by decide +kernel
set_option maxRecDepth 20000 in
theorem gX11_answer_X4_hasGuest : GoodIn wsX11_answer (wsV RX11 105 RX4 yX4_hasGuest wsX4_hasGuest) := goodIn_r _ [2, 3, 4, 5, 6, 7, 63, 64, 65, 66, 67, 68, 69, 70, 71, 72, 73, 74, 75] rfl (by decide +kernel)
set_option maxRecDepth 20000 in
theorem gX11_answer_X4_worldsOf : GoodIn wsX11_answer (wsV RX11 134 RX4 yX4_worldsOf wsX4_worldsOf) := goodIn_r _ [8, 9, 10, 5, 11] rfl (by decide +kernel)
set_option maxRecDepth 20000 in
theorem gX11_answer_X4_sayable : GoodIn wsX11_answer (wsV RX11 138 RX4 yX4_sayable wsX4_sayable) := goodIn_r _ [12, 13, 14, 5, 15, 16, 17, 3, 4, 5, 6, 7, 18, 9, 10, 11, 19, 20, 21, 22, 63, 64, 65, 66, 67, 68, 69, 70, 71, 72, 73, 74, 75] rfl (by decide +kernel)
set_option maxRecDepth 20000 in
theorem gX11_answer_X11_leave : GoodIn wsX11_answer (wsV RX11 142 RX11 yX11_leave wsX11_leave) := goodIn_r _ [23, 24, 25, 26, 27, 28, 29, 30, 31, 32, 33, 34, 35, 36, 37, 38, 39, 40, 41, 42, 43, 44, 45, 46, 47, 48, 49, 50, 51, 52, 53, 54, 55, 56, 57, 58, 59, 60, 61, 62, 76, 77, 78, 79, 80, 81, 82, 83, 84] rfl (by decide +kernel)
theorem dX11_answer_0 : decode cX11_answer 0 = .ok (.aload_n 0, 1) := by decide +kernel
theorem dX11_answer_1 : decode cX11_answer 1 = .ok (.getfield 24, 3) := by decide +kernel
theorem dX11_answer_4 : decode cX11_answer 4 = .ok (.iload_n 1, 1) := by decide +kernel
theorem dX11_answer_5 : decode cX11_answer 5 = .ok (.invokevirtual 105, 3) := by decide +kernel
theorem dX11_answer_8 : decode cX11_answer 8 = .ok (.ifCond .eq 14, 3) := by decide +kernel
theorem dX11_answer_11 : decode cX11_answer 11 = .ok (.aload_n 0, 1) := by decide +kernel
theorem dX11_answer_12 : decode cX11_answer 12 = .ok (.getfield 24, 3) := by decide +kernel
theorem dX11_answer_15 : decode cX11_answer 15 = .ok (.iload_n 2, 1) := by decide +kernel
theorem dX11_answer_16 : decode cX11_answer 16 = .ok (.invokevirtual 105, 3) := by decide +kernel
theorem dX11_answer_19 : decode cX11_answer 19 = .ok (.ifCond .ne 5, 3) := by decide +kernel
theorem dX11_answer_22 : decode cX11_answer 22 = .ok (.iconst (-1), 1) := by decide +kernel
theorem dX11_answer_23 : decode cX11_answer 23 = .ok (.ireturn, 1) := by decide +kernel
theorem dX11_answer_24 : decode cX11_answer 24 = .ok (.aload_n 0, 1) := by decide +kernel
theorem dX11_answer_25 : decode cX11_answer 25 = .ok (.getfield 24, 3) := by decide +kernel
theorem dX11_answer_28 : decode cX11_answer 28 = .ok (.iload_n 2, 1) := by decide +kernel
theorem dX11_answer_29 : decode cX11_answer 29 = .ok (.invokevirtual 134, 3) := by decide +kernel
theorem dX11_answer_32 : decode cX11_answer 32 = .ok (.istore 4, 2) := by decide +kernel
theorem dX11_answer_34 : decode cX11_answer 34 = .ok (.aload_n 0, 1) := by decide +kernel
theorem dX11_answer_35 : decode cX11_answer 35 = .ok (.aload_n 0, 1) := by decide +kernel
theorem dX11_answer_36 : decode cX11_answer 36 = .ok (.getfield 24, 3) := by decide +kernel
theorem dX11_answer_39 : decode cX11_answer 39 = .ok (.iload_n 1, 1) := by decide +kernel
theorem dX11_answer_40 : decode cX11_answer 40 = .ok (.iload_n 3, 1) := by decide +kernel
theorem dX11_answer_41 : decode cX11_answer 41 = .ok (.ifCond .eq 8, 3) := by decide +kernel
theorem dX11_answer_44 : decode cX11_answer 44 = .ok (.iload 4, 2) := by decide +kernel
theorem dX11_answer_46 : decode cX11_answer 46 = .ok (.goto 7, 3) := by decide +kernel
theorem dX11_answer_49 : decode cX11_answer 49 = .ok (.iload 4, 2) := by decide +kernel
theorem dX11_answer_51 : decode cX11_answer 51 = .ok (.iconst (-1), 1) := by decide +kernel
theorem dX11_answer_52 : decode cX11_answer 52 = .ok (.ixor, 1) := by decide +kernel
theorem dX11_answer_53 : decode cX11_answer 53 = .ok (.invokevirtual 138, 3) := by decide +kernel
theorem dX11_answer_56 : decode cX11_answer 56 = .ok (.invokevirtual 142, 3) := by decide +kernel
theorem dX11_answer_59 : decode cX11_answer 59 = .ok (.ireturn, 1) := by decide +kernel
set_option maxRecDepth 20000 in
theorem gX11_sign_X4_hasSign : GoodIn wsX11_sign (wsV RX11 145 RX4 yX4_hasSign wsX4_hasSign) := goodIn_r _ [2, 3, 4, 5, 6, 7, 59, 60, 61, 62, 63, 64, 65, 66, 67, 68, 69, 70, 71] rfl (by decide +kernel)
set_option maxRecDepth 20000 in
theorem gX11_sign_X4_worldsShowing : GoodIn wsX11_sign (wsV RX11 148 RX4 yX4_worldsShowing wsX4_worldsShowing) := goodIn_r _ [8, 9, 10, 5, 11, 12, 13, 3, 4, 5, 6, 7, 14, 15, 16, 17, 18, 59, 60, 61, 62, 63, 64, 65, 66, 67, 68, 69, 70, 71] rfl (by decide +kernel)
set_option maxRecDepth 20000 in
theorem gX11_sign_X11_leave : GoodIn wsX11_sign (wsV RX11 142 RX11 yX11_leave wsX11_leave) := goodIn_r _ [19, 20, 21, 22, 23, 24, 25, 26, 27, 28, 29, 30, 31, 32, 33, 34, 35, 36, 37, 38, 39, 40, 41, 42, 43, 44, 45, 46, 47, 48, 49, 50, 51, 52, 53, 54, 55, 56, 57, 58, 72, 73, 74, 75, 76, 77, 78, 79, 80] rfl (by decide +kernel)
theorem dX11_sign_0 : decode cX11_sign 0 = .ok (.aload_n 0, 1) := by decide +kernel
theorem dX11_sign_1 : decode cX11_sign 1 = .ok (.getfield 24, 3) := by decide +kernel
theorem dX11_sign_4 : decode cX11_sign 4 = .ok (.iload_n 1, 1) := by decide +kernel
theorem dX11_sign_5 : decode cX11_sign 5 = .ok (.invokevirtual 145, 3) := by decide +kernel
theorem dX11_sign_8 : decode cX11_sign 8 = .ok (.ifCond .eq 19, 3) := by decide +kernel
theorem dX11_sign_11 : decode cX11_sign 11 = .ok (.aload_n 0, 1) := by decide +kernel
theorem dX11_sign_12 : decode cX11_sign 12 = .ok (.aload_n 0, 1) := by decide +kernel
theorem dX11_sign_13 : decode cX11_sign 13 = .ok (.getfield 24, 3) := by decide +kernel
theorem dX11_sign_16 : decode cX11_sign 16 = .ok (.iload_n 1, 1) := by decide +kernel
theorem dX11_sign_17 : decode cX11_sign 17 = .ok (.iload_n 2, 1) := by decide +kernel
theorem dX11_sign_18 : decode cX11_sign 18 = .ok (.invokevirtual 148, 3) := by decide +kernel
theorem dX11_sign_21 : decode cX11_sign 21 = .ok (.invokevirtual 142, 3) := by decide +kernel
theorem dX11_sign_24 : decode cX11_sign 24 = .ok (.goto 4, 3) := by decide +kernel
theorem dX11_sign_27 : decode cX11_sign 27 = .ok (.iconst (-1), 1) := by decide +kernel
theorem dX11_sign_28 : decode cX11_sign 28 = .ok (.ireturn, 1) := by decide +kernel
set_option maxRecDepth 20000 in
theorem gX11_weather_X4_worldsBy : GoodIn wsX11_weather (wsV RX11 152 RX4 yX4_worldsBy wsX4_worldsBy) := goodIn_r _ [2, 3, 4, 5, 6, 7, 8, 9, 10, 11, 5, 12, 13, 14, 15, 16, 17, 18, 19, 20, 21, 22, 23, 24, 25, 26, 67, 68, 69, 70, 71, 72, 73, 74, 75, 76, 77, 78, 79] rfl (by decide +kernel)
set_option maxRecDepth 20000 in
theorem gX11_weather_X11_leave : GoodIn wsX11_weather (wsV RX11 142 RX11 yX11_leave wsX11_leave) := goodIn_r _ [27, 28, 29, 30, 31, 32, 33, 34, 35, 36, 37, 38, 39, 40, 41, 42, 43, 44, 45, 46, 47, 48, 49, 50, 51, 52, 53, 54, 55, 56, 57, 58, 59, 60, 61, 62, 63, 64, 65, 66, 80, 81, 82, 83, 84, 85, 86, 87, 88] rfl (by decide +kernel)
theorem dX11_weather_0 : decode cX11_weather 0 = .ok (.iload_n 1, 1) := by decide +kernel
theorem dX11_weather_1 : decode cX11_weather 1 = .ok (.ifCond .lt 8, 3) := by decide +kernel
theorem dX11_weather_4 : decode cX11_weather 4 = .ok (.iload_n 1, 1) := by decide +kernel
theorem dX11_weather_5 : decode cX11_weather 5 = .ok (.iconst 4, 1) := by decide +kernel
theorem dX11_weather_6 : decode cX11_weather 6 = .ok (.if_icmp .lt 5, 3) := by decide +kernel
theorem dX11_weather_9 : decode cX11_weather 9 = .ok (.iconst (-1), 1) := by decide +kernel
theorem dX11_weather_10 : decode cX11_weather 10 = .ok (.ireturn, 1) := by decide +kernel
theorem dX11_weather_11 : decode cX11_weather 11 = .ok (.aload_n 0, 1) := by decide +kernel
theorem dX11_weather_12 : decode cX11_weather 12 = .ok (.aload_n 0, 1) := by decide +kernel
theorem dX11_weather_13 : decode cX11_weather 13 = .ok (.getfield 24, 3) := by decide +kernel
theorem dX11_weather_16 : decode cX11_weather 16 = .ok (.bipush 18, 2) := by decide +kernel
theorem dX11_weather_18 : decode cX11_weather 18 = .ok (.iload_n 1, 1) := by decide +kernel
theorem dX11_weather_19 : decode cX11_weather 19 = .ok (.iadd, 1) := by decide +kernel
theorem dX11_weather_20 : decode cX11_weather 20 = .ok (.invokevirtual 152, 3) := by decide +kernel
theorem dX11_weather_23 : decode cX11_weather 23 = .ok (.invokevirtual 142, 3) := by decide +kernel
theorem dX11_weather_26 : decode cX11_weather 26 = .ok (.ireturn, 1) := by decide +kernel
set_option maxRecDepth 20000 in
theorem gX11_night_X4_guestsIn : GoodIn wsX11_night (wsV RX11 161 RX4 yX4_guestsIn wsX4_guestsIn) := goodIn_r _ [6, 7, 8, 9, 10, 11, 12, 13, 14, 9, 15, 47, 48, 49, 50, 51, 52, 53, 54, 55, 56, 57, 58, 59] rfl (by decide +kernel)
set_option maxRecDepth 20000 in
theorem gX11_night_X4_all : GoodIn wsX11_night (wsV RX11 93 RX4 yX4_all wsX4_all) := goodIn_r _ [16, 17, 18, 9, 19, 11, 47, 48, 49, 50, 51, 52, 53, 54, 55, 56, 57, 58, 59] rfl (by decide +kernel)
set_option maxRecDepth 20000 in
theorem gX11_night_X0_endNight : GoodIn wsX11_night (wsV RX11 164 RX0 yX0_endNight wsX0_endNight) := goodIn_r _ [20, 21, 22, 23, 24, 25, 26, 27, 28, 29, 30, 23, 31, 32, 33, 34, 60, 61, 62, 63, 64, 65, 66, 67, 68] rfl (by decide +kernel)
theorem dX11_night_0 : decode cX11_night 0 = .ok (.aload_n 0, 1) := by decide +kernel
theorem dX11_night_1 : decode cX11_night 1 = .ok (.getfield 24, 3) := by decide +kernel
theorem dX11_night_4 : decode cX11_night 4 = .ok (.getfield 155, 3) := by decide +kernel
theorem dX11_night_7 : decode cX11_night 7 = .ok (.ifCond .eq 15, 3) := by decide +kernel
theorem dX11_night_10 : decode cX11_night 10 = .ok (.aload_n 0, 1) := by decide +kernel
theorem dX11_night_11 : decode cX11_night 11 = .ok (.getfield 44, 3) := by decide +kernel
theorem dX11_night_14 : decode cX11_night 14 = .ok (.getfield 158, 3) := by decide +kernel
theorem dX11_night_17 : decode cX11_night 17 = .ok (.bipush 10, 2) := by decide +kernel
theorem dX11_night_19 : decode cX11_night 19 = .ok (.if_icmp .lt 5, 3) := by decide +kernel
theorem dX11_night_22 : decode cX11_night 22 = .ok (.iconst (-1), 1) := by decide +kernel
theorem dX11_night_23 : decode cX11_night 23 = .ok (.ireturn, 1) := by decide +kernel
theorem dX11_night_24 : decode cX11_night 24 = .ok (.aload_n 0, 1) := by decide +kernel
theorem dX11_night_25 : decode cX11_night 25 = .ok (.getfield 24, 3) := by decide +kernel
theorem dX11_night_28 : decode cX11_night 28 = .ok (.aload_n 0, 1) := by decide +kernel
theorem dX11_night_29 : decode cX11_night 29 = .ok (.getfield 44, 3) := by decide +kernel
theorem dX11_night_32 : decode cX11_night 32 = .ok (.getfield 131, 3) := by decide +kernel
theorem dX11_night_35 : decode cX11_night 35 = .ok (.invokevirtual 161, 3) := by decide +kernel
theorem dX11_night_38 : decode cX11_night 38 = .ok (.istore_n 1, 1) := by decide +kernel
theorem dX11_night_39 : decode cX11_night 39 = .ok (.aload_n 0, 1) := by decide +kernel
theorem dX11_night_40 : decode cX11_night 40 = .ok (.getfield 44, 3) := by decide +kernel
theorem dX11_night_43 : decode cX11_night 43 = .ok (.iload_n 1, 1) := by decide +kernel
theorem dX11_night_44 : decode cX11_night 44 = .ok (.aload_n 0, 1) := by decide +kernel
theorem dX11_night_45 : decode cX11_night 45 = .ok (.getfield 24, 3) := by decide +kernel
theorem dX11_night_48 : decode cX11_night 48 = .ok (.invokevirtual 93, 3) := by decide +kernel
theorem dX11_night_51 : decode cX11_night 51 = .ok (.invokevirtual 164, 3) := by decide +kernel
theorem dX11_night_54 : decode cX11_night 54 = .ok (.iload_n 1, 1) := by decide +kernel
theorem dX11_night_55 : decode cX11_night 55 = .ok (.ireturn, 1) := by decide +kernel
set_option maxRecDepth 20000 in
theorem gX11_undo_X0_stepBack : GoodIn wsX11_undo (wsV RX11 168 RX0 yX0_stepBack wsX0_stepBack) := goodIn_r _ [2, 3, 4, 5, 6, 7, 8, 9, 10, 11, 24, 25, 26, 27, 28, 29, 30, 31, 32] rfl (by decide +kernel)
theorem dX11_undo_0 : decode cX11_undo 0 = .ok (.aload_n 0, 1) := by decide +kernel
theorem dX11_undo_1 : decode cX11_undo 1 = .ok (.getfield 44, 3) := by decide +kernel
theorem dX11_undo_4 : decode cX11_undo 4 = .ok (.invokevirtual 168, 3) := by decide +kernel
theorem dX11_undo_7 : decode cX11_undo 7 = .ok (.ireturn, 1) := by decide +kernel
set_option maxRecDepth 20000 in
theorem gX11_onlyOne_J6_bitCount_0f7a4 : GoodIn wsX11_onlyOne (va_wsS RX11 178 yJ6_bitCount_0f7a4 wsJ6_bitCount_0f7a4) := goodIn_r _ [1, 2, 3, 4, 5, 6, 7] rfl (by decide +kernel)
set_option maxRecDepth 20000 in
theorem gX11_onlyOne_J6_numberOfTrailingZeros_0f7a4 : GoodIn wsX11_onlyOne (va_wsS RX11 275 yJ6_numberOfTrailingZeros_0f7a4 wsJ6_numberOfTrailingZeros_0f7a4) := goodIn_r _ [8, 9, 3, 10, 11] rfl (by decide +kernel)
theorem dX11_onlyOne_0 : decode cX11_onlyOne 0 = .ok (.iload_n 0, 1) := by decide +kernel
theorem dX11_onlyOne_1 : decode cX11_onlyOne 1 = .ok (.invokestatic 178, 3) := by decide +kernel
theorem dX11_onlyOne_4 : decode cX11_onlyOne 4 = .ok (.iconst 1, 1) := by decide +kernel
theorem dX11_onlyOne_5 : decode cX11_onlyOne 5 = .ok (.if_icmp .ne 10, 3) := by decide +kernel
theorem dX11_onlyOne_8 : decode cX11_onlyOne 8 = .ok (.iload_n 0, 1) := by decide +kernel
theorem dX11_onlyOne_9 : decode cX11_onlyOne 9 = .ok (.invokestatic 275, 3) := by decide +kernel
theorem dX11_onlyOne_12 : decode cX11_onlyOne 12 = .ok (.goto 4, 3) := by decide +kernel
theorem dX11_onlyOne_15 : decode cX11_onlyOne 15 = .ok (.iconst (-1), 1) := by decide +kernel
theorem dX11_onlyOne_16 : decode cX11_onlyOne 16 = .ok (.ireturn, 1) := by decide +kernel
set_option maxRecDepth 20000 in
theorem gX11_judged_X4_all : GoodIn wsX11_judged (wsV RX11 93 RX4 yX4_all wsX4_all) := goodIn_r _ [3, 4, 5, 6, 7, 8, 60, 61, 62, 63, 64, 65, 66, 67, 68, 69, 70, 71, 72] rfl (by decide +kernel)
set_option maxRecDepth 20000 in
theorem gX11_judged_X7_firstThatCannotBe : GoodIn wsX11_judged (wsV RX11 172 RX7 yX7_firstThatCannotBe wsX7_firstThatCannotBe) := goodIn_r _ [9, 10, 11, 12, 13, 14, 15, 16, 17, 18, 19, 12, 20, 73, 74, 75] rfl (by decide +kernel)
set_option maxRecDepth 20000 in
theorem gX11_judged_X7_leftAtLast : GoodIn wsX11_judged (wsV RX11 175 RX7 yX7_leftAtLast wsX7_leftAtLast) := goodIn_r _ [21, 22, 23, 12, 24, 14, 17, 18, 19, 12, 20, 15, 16, 73, 74, 75] rfl (by decide +kernel)
set_option maxRecDepth 20000 in
theorem gX11_judged_J6_bitCount_0f7a4 : GoodIn wsX11_judged (va_wsS RX11 178 yJ6_bitCount_0f7a4 wsJ6_bitCount_0f7a4) := goodIn_r _ [25, 26, 27, 28, 29, 30, 31] rfl (by decide +kernel)
set_option maxRecDepth 20000 in
theorem gX11_judged_X4_guestsIn : GoodIn wsX11_judged (wsV RX11 161 RX4 yX4_guestsIn wsX4_guestsIn) := goodIn_r _ [32, 33, 34, 6, 35, 8, 36, 37, 38, 6, 39, 60, 61, 62, 63, 64, 65, 66, 67, 68, 69, 70, 71, 72] rfl (by decide +kernel)
set_option maxRecDepth 20000 in
theorem gX11_judged_X11_onlyOne : GoodIn wsX11_judged (va_wsS RX11 183 yX11_onlyOne wsX11_onlyOne) := goodIn_r _ [40, 41, 42, 43, 25, 26, 27, 28, 29, 30, 31, 44, 45, 46, 47] rfl (by decide +kernel)
theorem dX11_judged_0 : decode cX11_judged 0 = .ok (.iload_n 1, 1) := by decide +kernel
theorem dX11_judged_1 : decode cX11_judged 1 = .ok (.tableswitch 87 0 2 #[27, 42, 61], 27) := by decide +kernel
theorem dX11_judged_28 : decode cX11_judged 28 = .ok (.aload_n 0, 1) := by decide +kernel
theorem dX11_judged_29 : decode cX11_judged 29 = .ok (.getfield 34, 3) := by decide +kernel
theorem dX11_judged_32 : decode cX11_judged 32 = .ok (.aload_n 0, 1) := by decide +kernel
theorem dX11_judged_33 : decode cX11_judged 33 = .ok (.getfield 24, 3) := by decide +kernel
theorem dX11_judged_36 : decode cX11_judged 36 = .ok (.invokevirtual 93, 3) := by decide +kernel
theorem dX11_judged_39 : decode cX11_judged 39 = .ok (.invokevirtual 172, 3) := by decide +kernel
theorem dX11_judged_42 : decode cX11_judged 42 = .ok (.ireturn, 1) := by decide +kernel
theorem dX11_judged_43 : decode cX11_judged 43 = .ok (.aload_n 0, 1) := by decide +kernel
theorem dX11_judged_44 : decode cX11_judged 44 = .ok (.getfield 34, 3) := by decide +kernel
theorem dX11_judged_47 : decode cX11_judged 47 = .ok (.aload_n 0, 1) := by decide +kernel
theorem dX11_judged_48 : decode cX11_judged 48 = .ok (.getfield 24, 3) := by decide +kernel
theorem dX11_judged_51 : decode cX11_judged 51 = .ok (.invokevirtual 93, 3) := by decide +kernel
theorem dX11_judged_54 : decode cX11_judged 54 = .ok (.iconst (-1), 1) := by decide +kernel
theorem dX11_judged_55 : decode cX11_judged 55 = .ok (.invokevirtual 175, 3) := by decide +kernel
theorem dX11_judged_58 : decode cX11_judged 58 = .ok (.invokestatic 178, 3) := by decide +kernel
theorem dX11_judged_61 : decode cX11_judged 61 = .ok (.ireturn, 1) := by decide +kernel
theorem dX11_judged_62 : decode cX11_judged 62 = .ok (.aload_n 0, 1) := by decide +kernel
theorem dX11_judged_63 : decode cX11_judged 63 = .ok (.getfield 24, 3) := by decide +kernel
theorem dX11_judged_66 : decode cX11_judged 66 = .ok (.aload_n 0, 1) := by decide +kernel
theorem dX11_judged_67 : decode cX11_judged 67 = .ok (.getfield 34, 3) := by decide +kernel
theorem dX11_judged_70 : decode cX11_judged 70 = .ok (.aload_n 0, 1) := by decide +kernel
theorem dX11_judged_71 : decode cX11_judged 71 = .ok (.getfield 24, 3) := by decide +kernel
theorem dX11_judged_74 : decode cX11_judged 74 = .ok (.invokevirtual 93, 3) := by decide +kernel
theorem dX11_judged_77 : decode cX11_judged 77 = .ok (.iconst (-1), 1) := by decide +kernel
theorem dX11_judged_78 : decode cX11_judged 78 = .ok (.invokevirtual 175, 3) := by decide +kernel
theorem dX11_judged_81 : decode cX11_judged 81 = .ok (.invokevirtual 161, 3) := by decide +kernel
theorem dX11_judged_84 : decode cX11_judged 84 = .ok (.invokestatic 183, 3) := by decide +kernel
theorem dX11_judged_87 : decode cX11_judged 87 = .ok (.ireturn, 1) := by decide +kernel
theorem dX11_judged_88 : decode cX11_judged 88 = .ok (.bipush (-2), 2) := by decide +kernel
theorem dX11_judged_90 : decode cX11_judged 90 = .ok (.ireturn, 1) := by decide +kernel
set_option maxRecDepth 20000 in
theorem gX11_spare_X4_all : GoodIn wsX11_spare (wsV RX11 93 RX4 yX4_all wsX4_all) := goodIn_r _ [3, 4, 5, 6, 7, 8, 37, 38, 39, 40, 41, 42, 43, 44, 45, 46, 47, 48, 49] rfl (by decide +kernel)
set_option maxRecDepth 20000 in
theorem gX11_spare_X7_needless : GoodIn wsX11_spare (wsV RX11 186 RX7 yX7_needless wsX7_needless) := goodIn_r _ [9, 10, 11, 12, 13, 14, 15, 16, 17, 12, 18, 19, 20, 21, 22, 23, 24, 50, 51, 52] rfl (by decide +kernel)
theorem dX11_spare_0 : decode cX11_spare 0 = .ok (.aload_n 0, 1) := by decide +kernel
theorem dX11_spare_1 : decode cX11_spare 1 = .ok (.getfield 34, 3) := by decide +kernel
theorem dX11_spare_4 : decode cX11_spare 4 = .ok (.aload_n 0, 1) := by decide +kernel
theorem dX11_spare_5 : decode cX11_spare 5 = .ok (.getfield 24, 3) := by decide +kernel
theorem dX11_spare_8 : decode cX11_spare 8 = .ok (.invokevirtual 93, 3) := by decide +kernel
theorem dX11_spare_11 : decode cX11_spare 11 = .ok (.invokevirtual 186, 3) := by decide +kernel
theorem dX11_spare_14 : decode cX11_spare 14 = .ok (.ireturn, 1) := by decide +kernel
set_option maxRecDepth 20000 in
theorem gX11_who_X4_guestsIn : GoodIn wsX11_who (wsV RX11 161 RX4 yX4_guestsIn wsX4_guestsIn) := goodIn_r _ [4, 5, 6, 7, 8, 9, 10, 11, 12, 7, 13, 35, 36, 37, 38, 39, 40, 41, 42, 43, 44, 45, 46, 47] rfl (by decide +kernel)
theorem dX11_who_0 : decode cX11_who 0 = .ok (.aload_n 0, 1) := by decide +kernel
theorem dX11_who_1 : decode cX11_who 1 = .ok (.getfield 24, 3) := by decide +kernel
theorem dX11_who_4 : decode cX11_who 4 = .ok (.aload_n 0, 1) := by decide +kernel
theorem dX11_who_5 : decode cX11_who 5 = .ok (.getfield 44, 3) := by decide +kernel
theorem dX11_who_8 : decode cX11_who 8 = .ok (.getfield 131, 3) := by decide +kernel
theorem dX11_who_11 : decode cX11_who 11 = .ok (.invokevirtual 161, 3) := by decide +kernel
theorem dX11_who_14 : decode cX11_who 14 = .ok (.ireturn, 1) := by decide +kernel
set_option maxRecDepth 20000 in
theorem gX11_ask_X8_best : GoodIn wsX11_ask (va_wsS RX11 189 yX8_best wsX8_best) := goodIn_r _ [4, 5, 6, 7, 8, 9, 10, 11, 12, 13, 14, 15, 16, 17, 18, 19, 20, 21, 22, 23, 24, 25, 26, 27, 28, 29, 30, 31, 32, 33, 34, 35, 36, 37, 38, 39, 40, 41, 42, 43, 65, 66, 67, 68, 69, 70, 71, 72, 73, 74, 75, 76, 77] rfl (by decide +kernel)
theorem dX11_ask_0 : decode cX11_ask 0 = .ok (.aload_n 0, 1) := by decide +kernel
theorem dX11_ask_1 : decode cX11_ask 1 = .ok (.getfield 24, 3) := by decide +kernel
theorem dX11_ask_4 : decode cX11_ask 4 = .ok (.aload_n 0, 1) := by decide +kernel
theorem dX11_ask_5 : decode cX11_ask 5 = .ok (.getfield 44, 3) := by decide +kernel
theorem dX11_ask_8 : decode cX11_ask 8 = .ok (.getfield 131, 3) := by decide +kernel
theorem dX11_ask_11 : decode cX11_ask 11 = .ok (.invokestatic 189, 3) := by decide +kernel
theorem dX11_ask_14 : decode cX11_ask 14 = .ok (.ireturn, 1) := by decide +kernel
set_option maxRecDepth 20000 in
theorem gX11_fewest_X8_deepest : GoodIn wsX11_fewest (wsV RX11 193 RX8 yX8_deepest wsX8_deepest) := goodIn_r _ [5, 6, 7, 8, 9, 10, 11, 12, 13, 14, 15, 16, 17, 18, 19, 20, 21, 22, 23, 8, 24, 25, 26, 27, 28, 29, 30, 31, 32, 33, 34, 35, 36, 37, 38, 39, 40, 41, 42, 43, 44, 45, 46, 47, 48, 49, 50, 51, 52, 53, 54, 55, 56, 57, 58, 59, 60, 82, 83, 84, 85, 86, 87, 88, 89, 90, 91, 92, 93, 94, 95, 96] rfl (by decide +kernel)
theorem dX11_fewest_0 : decode cX11_fewest 0 = .ok (.aload_n 0, 1) := by decide +kernel
theorem dX11_fewest_1 : decode cX11_fewest 1 = .ok (.getfield 59, 3) := by decide +kernel
theorem dX11_fewest_4 : decode cX11_fewest 4 = .ok (.aload_n 0, 1) := by decide +kernel
theorem dX11_fewest_5 : decode cX11_fewest 5 = .ok (.getfield 24, 3) := by decide +kernel
theorem dX11_fewest_8 : decode cX11_fewest 8 = .ok (.aload_n 0, 1) := by decide +kernel
theorem dX11_fewest_9 : decode cX11_fewest 9 = .ok (.getfield 44, 3) := by decide +kernel
theorem dX11_fewest_12 : decode cX11_fewest 12 = .ok (.getfield 131, 3) := by decide +kernel
theorem dX11_fewest_15 : decode cX11_fewest 15 = .ok (.invokevirtual 193, 3) := by decide +kernel
theorem dX11_fewest_18 : decode cX11_fewest 18 = .ok (.ireturn, 1) := by decide +kernel
set_option maxRecDepth 20000 in
theorem gX11_tell_X6_tellingSigns : GoodIn wsX11_tell (va_wsS RX11 196 yX6_tellingSigns wsX6_tellingSigns) := goodIn_r _ [4, 5, 6, 7, 8, 9, 10, 11, 12, 13, 14, 15, 16, 17, 6, 18, 19, 20, 21, 22, 23, 45, 46, 47, 48, 49, 50, 51, 52, 53, 54, 55, 56, 57] rfl (by decide +kernel)
theorem dX11_tell_0 : decode cX11_tell 0 = .ok (.aload_n 0, 1) := by decide +kernel
theorem dX11_tell_1 : decode cX11_tell 1 = .ok (.getfield 24, 3) := by decide +kernel
theorem dX11_tell_4 : decode cX11_tell 4 = .ok (.aload_n 0, 1) := by decide +kernel
theorem dX11_tell_5 : decode cX11_tell 5 = .ok (.getfield 44, 3) := by decide +kernel
theorem dX11_tell_8 : decode cX11_tell 8 = .ok (.getfield 131, 3) := by decide +kernel
theorem dX11_tell_11 : decode cX11_tell 11 = .ok (.invokestatic 196, 3) := by decide +kernel
theorem dX11_tell_14 : decode cX11_tell 14 = .ok (.ireturn, 1) := by decide +kernel
set_option maxRecDepth 20000 in
theorem gX11_isLeft_X4_hasWorld : GoodIn wsX11_isLeft (wsV RX11 125 RX4 yX4_hasWorld wsX4_hasWorld) := goodIn_r _ [4, 5, 6, 7, 8, 9, 31, 32, 33, 34, 35, 36, 37, 38, 39, 40, 41, 42, 43] rfl (by decide +kernel)
theorem dX11_isLeft_0 : decode cX11_isLeft 0 = .ok (.aload_n 0, 1) := by decide +kernel
theorem dX11_isLeft_1 : decode cX11_isLeft 1 = .ok (.getfield 24, 3) := by decide +kernel
theorem dX11_isLeft_4 : decode cX11_isLeft 4 = .ok (.iload_n 1, 1) := by decide +kernel
theorem dX11_isLeft_5 : decode cX11_isLeft 5 = .ok (.invokevirtual 125, 3) := by decide +kernel
theorem dX11_isLeft_8 : decode cX11_isLeft 8 = .ok (.ifCond .eq 22, 3) := by decide +kernel
theorem dX11_isLeft_11 : decode cX11_isLeft 11 = .ok (.aload_n 0, 1) := by decide +kernel
theorem dX11_isLeft_12 : decode cX11_isLeft 12 = .ok (.getfield 44, 3) := by decide +kernel
theorem dX11_isLeft_15 : decode cX11_isLeft 15 = .ok (.getfield 131, 3) := by decide +kernel
theorem dX11_isLeft_18 : decode cX11_isLeft 18 = .ok (.iload_n 1, 1) := by decide +kernel
theorem dX11_isLeft_19 : decode cX11_isLeft 19 = .ok (.iushr, 1) := by decide +kernel
theorem dX11_isLeft_20 : decode cX11_isLeft 20 = .ok (.iconst 1, 1) := by decide +kernel
theorem dX11_isLeft_21 : decode cX11_isLeft 21 = .ok (.iand, 1) := by decide +kernel
theorem dX11_isLeft_22 : decode cX11_isLeft 22 = .ok (.iconst 1, 1) := by decide +kernel
theorem dX11_isLeft_23 : decode cX11_isLeft 23 = .ok (.if_icmp .ne 7, 3) := by decide +kernel
theorem dX11_isLeft_26 : decode cX11_isLeft 26 = .ok (.iconst 1, 1) := by decide +kernel
theorem dX11_isLeft_27 : decode cX11_isLeft 27 = .ok (.goto 4, 3) := by decide +kernel
theorem dX11_isLeft_30 : decode cX11_isLeft 30 = .ok (.iconst 0, 1) := by decide +kernel
theorem dX11_isLeft_31 : decode cX11_isLeft 31 = .ok (.ireturn, 1) := by decide +kernel
set_option maxRecDepth 20000 in
theorem gX11_knows_X4_hasGuest : GoodIn wsX11_knows (wsV RX11 105 RX4 yX4_hasGuest wsX4_hasGuest) := goodIn_r _ [4, 5, 6, 7, 8, 9, 57, 58, 59, 60, 61, 62, 63, 64, 65, 66, 67, 68, 69] rfl (by decide +kernel)
set_option maxRecDepth 20000 in
theorem gX11_knows_X11_isLeft : GoodIn wsX11_knows (wsV RX11 201 RX11 yX11_isLeft wsX11_isLeft) := goodIn_r _ [10, 11, 12, 13, 14, 1, 2, 3, 15, 16, 17, 7, 18, 9, 36, 37, 38, 39, 40, 41, 42, 43, 44, 45, 46, 47, 48, 49, 50, 51, 52, 53, 54, 55, 56, 57, 58, 59, 60, 61, 62, 63, 64, 65, 66, 67, 68, 69] rfl (by decide +kernel)
set_option maxRecDepth 20000 in
theorem gX11_knows_X6_view : GoodIn wsX11_knows (va_wsS RX11 204 yX6_view wsX6_view) := goodIn_r _ [19, 20, 21, 22, 23, 24, 25, 26, 21, 27, 57, 58, 59, 60, 61, 62, 63, 64, 65, 66, 67, 68, 69] rfl (by decide +kernel)
set_option maxRecDepth 20000 in
theorem gX11_knows_X4_guestsIn : GoodIn wsX11_knows (wsV RX11 161 RX4 yX4_guestsIn wsX4_guestsIn) := goodIn_r _ [28, 29, 30, 7, 31, 9, 32, 33, 34, 7, 35, 57, 58, 59, 60, 61, 62, 63, 64, 65, 66, 67, 68, 69] rfl (by decide +kernel)
theorem dX11_knows_0 : decode cX11_knows 0 = .ok (.aload_n 0, 1) := by decide +kernel
theorem dX11_knows_1 : decode cX11_knows 1 = .ok (.getfield 24, 3) := by decide +kernel
theorem dX11_knows_4 : decode cX11_knows 4 = .ok (.iload_n 1, 1) := by decide +kernel
theorem dX11_knows_5 : decode cX11_knows 5 = .ok (.invokevirtual 105, 3) := by decide +kernel
theorem dX11_knows_8 : decode cX11_knows 8 = .ok (.ifCond .eq 11, 3) := by decide +kernel
theorem dX11_knows_11 : decode cX11_knows 11 = .ok (.aload_n 0, 1) := by decide +kernel
theorem dX11_knows_12 : decode cX11_knows 12 = .ok (.iload_n 2, 1) := by decide +kernel
theorem dX11_knows_13 : decode cX11_knows 13 = .ok (.invokevirtual 201, 3) := by decide +kernel
theorem dX11_knows_16 : decode cX11_knows 16 = .ok (.ifCond .ne 5, 3) := by decide +kernel
theorem dX11_knows_19 : decode cX11_knows 19 = .ok (.iconst (-1), 1) := by decide +kernel
theorem dX11_knows_20 : decode cX11_knows 20 = .ok (.ireturn, 1) := by decide +kernel
theorem dX11_knows_21 : decode cX11_knows 21 = .ok (.aload_n 0, 1) := by decide +kernel
theorem dX11_knows_22 : decode cX11_knows 22 = .ok (.getfield 24, 3) := by decide +kernel
theorem dX11_knows_25 : decode cX11_knows 25 = .ok (.aload_n 0, 1) := by decide +kernel
theorem dX11_knows_26 : decode cX11_knows 26 = .ok (.getfield 24, 3) := by decide +kernel
theorem dX11_knows_29 : decode cX11_knows 29 = .ok (.iload_n 1, 1) := by decide +kernel
theorem dX11_knows_30 : decode cX11_knows 30 = .ok (.iload_n 2, 1) := by decide +kernel
theorem dX11_knows_31 : decode cX11_knows 31 = .ok (.aload_n 0, 1) := by decide +kernel
theorem dX11_knows_32 : decode cX11_knows 32 = .ok (.getfield 44, 3) := by decide +kernel
theorem dX11_knows_35 : decode cX11_knows 35 = .ok (.getfield 131, 3) := by decide +kernel
theorem dX11_knows_38 : decode cX11_knows 38 = .ok (.invokestatic 204, 3) := by decide +kernel
theorem dX11_knows_41 : decode cX11_knows 41 = .ok (.invokevirtual 161, 3) := by decide +kernel
theorem dX11_knows_44 : decode cX11_knows 44 = .ok (.ireturn, 1) := by decide +kernel
section
variable {p : Program} {l : Launch} {e : Env} {s : State} {m : MethodId} {args : Array Value} {below : List Frame} {meth : Method} {c : Code} {D : va_G} {cy : Nat → ClassId} {ad : Nat → Nat} {A : Nat → Prop} {aM aB aO aI aN aT aC aG aR aQ aK aL aX aH aJ aP aU aE0 aE1 aE2 aE3 : Nat → Nat} {gi : Value}
abbrev rm11_feed : Room := { frames := 1, cells := 0, slots := 0, locals := 25 }
theorem hdV11_feed : yX11_feed.cls = RX11 ∧ (yX11_feed.cls ≠ "java/lang/invoke/MethodHandle" ∧ yX11_feed.cls ≠ "java/lang/invoke/VarHandle" ∧ (parseMethodDescriptor yX11_feed.desc).map (fun d => d.parameters.length) = some 3) := by decide +kernel
theorem hin11_feed_11 : ∀ x ∈ u_ws RX11 TX11 12, x ∈ wsX11_feed := fun _ h => List.mem_cons_of_mem _ (List.mem_append_left _ (List.mem_append_right _ h))
theorem hin11_feed_10 : ∀ x ∈ u_ws RX10 TX10 8, x ∈ wsX11_feed := fun _ h => List.mem_cons_of_mem _ (List.mem_append_right _ h)
set_option maxRecDepth 100000 in
set_option maxHeartbeats 4000000 in
theorem t11_feed_0 (hC : Cx p s m args meth c cX11_feed 7 wsX11_feed RX11 (some .int)) : ∀ (x1 : Int64) (x3 : Int64) (x5 : Int64) (SX : Ob) (ST : Ob) (res : Int32 × Ob) (H : Heap) (locs : List Loc) (ls : Array Slot), f11_feed x1 x3 x5 SX ST = some res → GW D cy ad (w11 cy aX aT aR aH aJ aP aU aB aQ aK aL aE0 aE1 aE2 aE3 SX ++ (w10 cy aT ST)) A s H locs → lv_has ls 7 [(0, .ref (aX 0)), (1, .long x1), (3, .long x3), (5, .long x5)] → W p l e rm11_feed s m args below meth c H locs 0 0 (MQ below (QI D cy (w11 cy aX aT aR aH aJ aP aU aB aQ aK aL aE0 aE1 aE2 aE3 SX ++ (w10 cy aT (res.2))) A (res.1)) args s 0 0 A) (F0 m 0 ls []) := by
  intro x1 x3 x5 SX ST res H locs ls hf hW hl
  unfold f11_feed at hf
  refine lv_aload_n hC.1 hC.2.1 dX11_feed_0 rfl (lv_at hl 0 rfl) ?_
  refine g_get hC hW hin11_feed_11 0 rfl rfl 0 (by decide) 1 rfl rfl dX11_feed_1 ?_
  refine lv_lload_n hC.1 hC.2.1 dX11_feed_4 rfl (lv_at hl 1 rfl) ?_
  obtain ⟨r_1, hg_2, hf⟩ := bd_of hf
  refine g_callvV (w' := w11 cy aX aT aR aH aJ aP aU aB aQ aK aL aE0 aE1 aE2 aE3 SX ++ (w10 cy aT r_1)) hC hW (c10_put l D cy ad aT hg_2) (cwV 1 hC.2.2.2.2.1 gX11_feed_X10_put rfl rfl rfl hdV10_put ⟨Nat.le_of_ble_eq_true rfl, Nat.le_of_ble_eq_true rfl⟩) (⟨[3, 4, 5], [0, 1, 2], [0, 1, 2, 3, 4, 5], w11 cy aX aT aR aH aJ aP aU aB aQ aK aL aE0 aE1 aE2 aE3 SX, rfl, rfl, rfl, rfl, by decide, rfl, rfl⟩) 0 9 rfl rfl rfl rfl hl.1 rfl (Nat.le_of_ble_eq_true rfl) dX11_feed_5 ⟨Nat.zero_le _, Nat.zero_le _⟩ (fun H locs hW => ?_)
  refine lv_aload_n hC.1 hC.2.1 dX11_feed_8 rfl (lv_at hl 0 rfl) ?_
  refine g_get hC hW hin11_feed_11 0 rfl rfl 0 (by decide) 1 rfl rfl dX11_feed_9 ?_
  refine lv_lload_n hC.1 hC.2.1 dX11_feed_12 rfl (lv_at hl 2 rfl) ?_
  obtain ⟨r_3, hg_4, hf⟩ := bd_of hf
  refine g_callvV (w' := w11 cy aX aT aR aH aJ aP aU aB aQ aK aL aE0 aE1 aE2 aE3 SX ++ (w10 cy aT r_3)) hC hW (c10_put l D cy ad aT hg_4) (cwV 1 hC.2.2.2.2.1 gX11_feed_X10_put rfl rfl rfl hdV10_put ⟨Nat.le_of_ble_eq_true rfl, Nat.le_of_ble_eq_true rfl⟩) (⟨[3, 4, 5], [0, 1, 2], [0, 1, 2, 3, 4, 5], w11 cy aX aT aR aH aJ aP aU aB aQ aK aL aE0 aE1 aE2 aE3 SX, rfl, rfl, rfl, rfl, by decide, rfl, rfl⟩) 0 9 rfl rfl rfl rfl hl.1 rfl (Nat.le_of_ble_eq_true rfl) dX11_feed_13 ⟨Nat.zero_le _, Nat.zero_le _⟩ (fun H locs hW => ?_)
  refine lv_aload_n hC.1 hC.2.1 dX11_feed_16 rfl (lv_at hl 0 rfl) ?_
  refine g_get hC hW hin11_feed_11 0 rfl rfl 0 (by decide) 1 rfl rfl dX11_feed_17 ?_
  refine lv_lload hC.1 hC.2.1 dX11_feed_20 (lv_at hl 3 rfl) ?_
  obtain ⟨r_5, hg_6, hf⟩ := bd_of hf
  refine g_callvV (w' := w11 cy aX aT aR aH aJ aP aU aB aQ aK aL aE0 aE1 aE2 aE3 SX ++ (w10 cy aT r_5)) hC hW (c10_put l D cy ad aT hg_6) (cwV 1 hC.2.2.2.2.1 gX11_feed_X10_put rfl rfl rfl hdV10_put ⟨Nat.le_of_ble_eq_true rfl, Nat.le_of_ble_eq_true rfl⟩) (⟨[3, 4, 5], [0, 1, 2], [0, 1, 2, 3, 4, 5], w11 cy aX aT aR aH aJ aP aU aB aQ aK aL aE0 aE1 aE2 aE3 SX, rfl, rfl, rfl, rfl, by decide, rfl, rfl⟩) 0 9 rfl rfl rfl rfl hl.1 rfl (Nat.le_of_ble_eq_true rfl) dX11_feed_22 ⟨Nat.zero_le _, Nat.zero_le _⟩ (fun H locs hW => ?_)
  refine lv_aload_n hC.1 hC.2.1 dX11_feed_25 rfl (lv_at hl 0 rfl) ?_
  refine g_get hC hW hin11_feed_11 0 rfl rfl 0 (by decide) 1 rfl rfl dX11_feed_26 ?_
  refine g_get hC hW hin11_feed_10 3 rfl rfl 2 (by decide) 2 rfl rfl dX11_feed_29 ?_
  obtain rfl := Option.some.inj hf
  exact g_iret hC hW dX11_feed_32
set_option maxRecDepth 100000 in
set_option maxHeartbeats 4000000 in
theorem c11_feed (l : Launch) (D : va_G) (cy : Nat → ClassId) (ad : Nat → Nat) (aX : Nat → Nat) (aT : Nat → Nat) (aR : Nat → Nat) (aH : Nat → Nat) (aJ : Nat → Nat) (aP : Nat → Nat) (aU : Nat → Nat) (aB : Nat → Nat) (aQ : Nat → Nat) (aK : Nat → Nat) (aL : Nat → Nat) (aE0 : Nat → Nat) (aE1 : Nat → Nat) (aE2 : Nat → Nat) (aE3 : Nat → Nat) {x1 : Int64} {x3 : Int64} {x5 : Int64} {SX : Ob} {ST : Ob} {res : Int32 × Ob} (h : f11_feed x1 x3 x5 SX ST = some res) : GCi l yX11_feed wsX11_feed rm11_feed [.ref (aX 0), .long x1, .long x3, .long x5] D cy ad (w11 cy aX aT aR aH aJ aP aU aB aQ aK aL aE0 aE1 aE2 aE3 SX ++ (w10 cy aT ST)) (w11 cy aX aT aR aH aJ aP aU aB aQ aK aL aE0 aE1 aE2 aE3 SX ++ (w10 cy aT (res.2))) (res.1) := fun sz => GC.start (own := RX11) (Qc := fun A => QI D cy (w11 cy aX aT aR aH aJ aP aU aB aQ aK aL aE0 aE1 aE2 aE3 SX ++ (w10 cy aT (res.2))) A (res.1)) sz (by decide) rfl rfl (Nat.le_of_ble_eq_true rfl) (fun p e s m below meth c A ls hC hW hl => t11_feed_0 hC _ _ _ _ _ _ _ _ _ h hW (lv_sub hl [0, 1, 2, 3] rfl))
abbrev rm11_guest : Room := { frames := 1, cells := 0, slots := 0, locals := 21 }
theorem hdV11_guest : yX11_guest.cls = RX11 ∧ (yX11_guest.cls ≠ "java/lang/invoke/MethodHandle" ∧ yX11_guest.cls ≠ "java/lang/invoke/VarHandle" ∧ (parseMethodDescriptor yX11_guest.desc).map (fun d => d.parameters.length) = some 2) := by decide +kernel
theorem hin11_guest_11 : ∀ x ∈ u_ws RX11 TX11 12, x ∈ wsX11_guest := fun _ h => List.mem_cons_of_mem _ (List.mem_append_left _ (List.mem_append_right _ h))
theorem hin11_guest_4 : ∀ x ∈ u_ws RX4 TX4 13, x ∈ wsX11_guest := fun _ h => List.mem_cons_of_mem _ (List.mem_append_right _ h)
set_option maxRecDepth 100000 in
set_option maxHeartbeats 4000000 in
theorem t11_guest_0 (hC : Cx p s m args meth c cX11_guest 3 wsX11_guest RX11 (some .int)) : ∀ (x1 : Int32) (x2 : Int32) (SX : Ob) (SH : Ob) (res : Int32) (H : Heap) (locs : List Loc) (ls : Array Slot), f11_guest x1 x2 SX SH = some res → GW D cy ad (w11 cy aX aT aR aH aJ aP aU aB aQ aK aL aE0 aE1 aE2 aE3 SX ++ (w4 cy aH SH)) A s H locs → lv_has ls 3 [(0, .ref (aX 0)), (1, .int x1), (2, .int x2)] → W p l e rm11_guest s m args below meth c H locs 0 0 (MQ below (QI D cy (w11 cy aX aT aR aH aJ aP aU aB aQ aK aL aE0 aE1 aE2 aE3 SX ++ (w4 cy aH SH)) A res) args s 0 0 A) (F0 m 0 ls []) := by
  intro x1 x2 SX SH res H locs ls hf hW hl
  unfold f11_guest at hf
  refine lv_aload_n hC.1 hC.2.1 dX11_guest_0 rfl (lv_at hl 0 rfl) ?_
  refine g_get hC hW hin11_guest_11 0 rfl rfl 2 (by decide) 1 rfl rfl dX11_guest_1 ?_
  refine lv_iload_n hC.1 hC.2.1 dX11_guest_4 rfl (lv_at hl 1 rfl) ?_
  obtain ⟨r_1, hg_2, hf⟩ := bd_of hf
  refine g_calliV (w' := w11 cy aX aT aR aH aJ aP aU aB aQ aK aL aE0 aE1 aE2 aE3 SX ++ (w4 cy aH SH)) hC hW (c4_hasGuest l D cy ad aH hg_2) (cwV 1 hC.2.2.2.2.1 gX11_guest_X4_hasGuest rfl rfl rfl hdV4_hasGuest ⟨Nat.le_of_ble_eq_true rfl, Nat.le_of_ble_eq_true rfl⟩) (⟨[3, 4, 5, 6, 7, 8, 9, 10, 11, 12, 13, 14], [0, 1, 2], [0, 1, 2, 3, 4, 5, 6, 7, 8, 9, 10, 11, 12, 13, 14], w11 cy aX aT aR aH aJ aP aU aB aQ aK aL aE0 aE1 aE2 aE3 SX, rfl, rfl, rfl, rfl, by decide, rfl, rfl⟩) 0 4 rfl rfl rfl rfl hl.1 rfl (Nat.le_of_ble_eq_true rfl) dX11_guest_5 ⟨Nat.zero_le _, Nat.zero_le _⟩ (fun H locs hW => ?_)
  refine lv_if_ne (tgt := 13) hC.1 hC.2.1 dX11_guest_8 (by decide) (fun hc_3 => ?_) (fun hc_3 => ?_)
  · have hf := ite_f hf hc_3
    refine lv_iload_n hC.1 hC.2.1 dX11_guest_13 rfl (lv_at hl 2 rfl) ?_
    by_cases hc_4 : x2 = 0
    · have hf := ite_t hf hc_4
      refine lv_tableIn (tgt := 48) hC.1 hC.2.1 dX11_guest_14 (by rw [hc_4]; decide) (by rw [hc_4]; decide) (by rw [hc_4]; rfl) (by decide) ?_
      refine lv_aload_n hC.1 hC.2.1 dX11_guest_48 rfl (lv_at hl 0 rfl) ?_
      refine g_get hC hW hin11_guest_11 0 rfl rfl 2 (by decide) 1 rfl rfl dX11_guest_49 ?_
      refine g_get hC hW hin11_guest_4 3 rfl rfl 2 (by decide) 2 rfl rfl dX11_guest_52 ?_
      refine lv_iload_n hC.1 hC.2.1 dX11_guest_55 rfl (lv_at hl 1 rfl) ?_
      obtain ⟨hi_5, hf⟩ := ck_of hf
      refine g_iald hC hW 5 rfl hi_5 dX11_guest_56 ?_
      obtain rfl := Option.some.inj hf
      exact g_iret hC hW dX11_guest_57
    · have hf := ite_f hf hc_4
      by_cases hc_6 : x2 = 1
      · have hf := ite_t hf hc_6
        refine lv_tableIn (tgt := 58) hC.1 hC.2.1 dX11_guest_14 (by rw [hc_6]; decide) (by rw [hc_6]; decide) (by rw [hc_6]; rfl) (by decide) ?_
        refine lv_aload_n hC.1 hC.2.1 dX11_guest_58 rfl (lv_at hl 0 rfl) ?_
        refine g_get hC hW hin11_guest_11 0 rfl rfl 2 (by decide) 1 rfl rfl dX11_guest_59 ?_
        refine g_get hC hW hin11_guest_4 3 rfl rfl 3 (by decide) 3 rfl rfl dX11_guest_62 ?_
        refine lv_iload_n hC.1 hC.2.1 dX11_guest_65 rfl (lv_at hl 1 rfl) ?_
        obtain ⟨hi_7, hf⟩ := ck_of hf
        refine g_iald hC hW 6 rfl hi_7 dX11_guest_66 ?_
        obtain rfl := Option.some.inj hf
        exact g_iret hC hW dX11_guest_67
      · have hf := ite_f hf hc_6
        by_cases hc_8 : x2 = 2
        · have hf := ite_t hf hc_8
          refine lv_tableIn (tgt := 68) hC.1 hC.2.1 dX11_guest_14 (by rw [hc_8]; decide) (by rw [hc_8]; decide) (by rw [hc_8]; rfl) (by decide) ?_
          refine lv_aload_n hC.1 hC.2.1 dX11_guest_68 rfl (lv_at hl 0 rfl) ?_
          refine g_get hC hW hin11_guest_11 0 rfl rfl 2 (by decide) 1 rfl rfl dX11_guest_69 ?_
          refine g_get hC hW hin11_guest_4 3 rfl rfl 4 (by decide) 4 rfl rfl dX11_guest_72 ?_
          refine lv_iload_n hC.1 hC.2.1 dX11_guest_75 rfl (lv_at hl 1 rfl) ?_
          obtain ⟨hi_9, hf⟩ := ck_of hf
          refine g_iald hC hW 7 rfl hi_9 dX11_guest_76 ?_
          obtain rfl := Option.some.inj hf
          exact g_iret hC hW dX11_guest_77
        · have hf := ite_f hf hc_8
          by_cases hc_10 : x2 = 3
          · have hf := ite_t hf hc_10
            refine lv_tableIn (tgt := 78) hC.1 hC.2.1 dX11_guest_14 (by rw [hc_10]; decide) (by rw [hc_10]; decide) (by rw [hc_10]; rfl) (by decide) ?_
            refine lv_aload_n hC.1 hC.2.1 dX11_guest_78 rfl (lv_at hl 0 rfl) ?_
            refine g_get hC hW hin11_guest_11 0 rfl rfl 2 (by decide) 1 rfl rfl dX11_guest_79 ?_
            refine g_get hC hW hin11_guest_4 3 rfl rfl 5 (by decide) 5 rfl rfl dX11_guest_82 ?_
            refine lv_iload_n hC.1 hC.2.1 dX11_guest_85 rfl (lv_at hl 1 rfl) ?_
            obtain ⟨hi_11, hf⟩ := ck_of hf
            refine g_iald hC hW 8 rfl hi_11 dX11_guest_86 ?_
            obtain rfl := Option.some.inj hf
            exact g_iret hC hW dX11_guest_87
          · have hf := ite_f hf hc_10
            by_cases hc_12 : x2 = 4
            · have hf := ite_t hf hc_12
              refine lv_tableIn (tgt := 88) hC.1 hC.2.1 dX11_guest_14 (by rw [hc_12]; decide) (by rw [hc_12]; decide) (by rw [hc_12]; rfl) (by decide) ?_
              refine lv_aload_n hC.1 hC.2.1 dX11_guest_88 rfl (lv_at hl 0 rfl) ?_
              refine g_get hC hW hin11_guest_11 0 rfl rfl 2 (by decide) 1 rfl rfl dX11_guest_89 ?_
              refine g_get hC hW hin11_guest_4 3 rfl rfl 6 (by decide) 6 rfl rfl dX11_guest_92 ?_
              refine lv_iload_n hC.1 hC.2.1 dX11_guest_95 rfl (lv_at hl 1 rfl) ?_
              obtain ⟨hi_13, hf⟩ := ck_of hf
              refine g_iald hC hW 9 rfl hi_13 dX11_guest_96 ?_
              obtain rfl := Option.some.inj hf
              exact g_iret hC hW dX11_guest_97
            · have hf := ite_f hf hc_12
              refine lv_tableOut (tgt := 98) hC.1 hC.2.1 dX11_guest_14 (tab_out [0, 1, 2, 3, 4] (List.forall_mem_cons.mpr ⟨hc_4, (List.forall_mem_cons.mpr ⟨hc_6, (List.forall_mem_cons.mpr ⟨hc_8, (List.forall_mem_cons.mpr ⟨hc_10, (List.forall_mem_cons.mpr ⟨hc_12, (fun _ h => by cases h)⟩)⟩)⟩)⟩)⟩) (by decide)) (by decide) ?_
              refine lv_iconst (v := (-1)) hC.1 hC.2.1 dX11_guest_98 (by decide) ?_
              obtain rfl := Option.some.inj hf
              exact g_iret hC hW dX11_guest_99
  · have hf := ite_t hf hc_3
    refine lv_iconst (v := (-1)) hC.1 hC.2.1 dX11_guest_11 (by decide) ?_
    obtain rfl := Option.some.inj hf
    exact g_iret hC hW dX11_guest_12
set_option maxRecDepth 100000 in
set_option maxHeartbeats 4000000 in
theorem c11_guest (l : Launch) (D : va_G) (cy : Nat → ClassId) (ad : Nat → Nat) (aX : Nat → Nat) (aT : Nat → Nat) (aR : Nat → Nat) (aH : Nat → Nat) (aJ : Nat → Nat) (aP : Nat → Nat) (aU : Nat → Nat) (aB : Nat → Nat) (aQ : Nat → Nat) (aK : Nat → Nat) (aL : Nat → Nat) (aE0 : Nat → Nat) (aE1 : Nat → Nat) (aE2 : Nat → Nat) (aE3 : Nat → Nat) {x1 : Int32} {x2 : Int32} {SX : Ob} {SH : Ob} {res : Int32} (h : f11_guest x1 x2 SX SH = some res) : GCi l yX11_guest wsX11_guest rm11_guest [.ref (aX 0), .int x1, .int x2] D cy ad (w11 cy aX aT aR aH aJ aP aU aB aQ aK aL aE0 aE1 aE2 aE3 SX ++ (w4 cy aH SH)) (w11 cy aX aT aR aH aJ aP aU aB aQ aK aL aE0 aE1 aE2 aE3 SX ++ (w4 cy aH SH)) res := fun sz => GC.start (own := RX11) (Qc := fun A => QI D cy (w11 cy aX aT aR aH aJ aP aU aB aQ aK aL aE0 aE1 aE2 aE3 SX ++ (w4 cy aH SH)) A res) sz (by decide) rfl rfl (Nat.le_of_ble_eq_true rfl) (fun p e s m below meth c A ls hC hW hl => t11_guest_0 hC _ _ _ _ _ _ _ _ h hW (lv_sub hl [0, 1, 2] rfl))
abbrev rm11_shows : Room := { frames := 1, cells := 0, slots := 0, locals := 21 }
theorem hdV11_shows : yX11_shows.cls = RX11 ∧ (yX11_shows.cls ≠ "java/lang/invoke/MethodHandle" ∧ yX11_shows.cls ≠ "java/lang/invoke/VarHandle" ∧ (parseMethodDescriptor yX11_shows.desc).map (fun d => d.parameters.length) = some 1) := by decide +kernel
theorem hin11_shows_11 : ∀ x ∈ u_ws RX11 TX11 12, x ∈ wsX11_shows := fun _ h => List.mem_cons_of_mem _ (List.mem_append_left _ (List.mem_append_right _ h))
theorem hin11_shows_4 : ∀ x ∈ u_ws RX4 TX4 13, x ∈ wsX11_shows := fun _ h => List.mem_cons_of_mem _ (List.mem_append_right _ h)
set_option maxRecDepth 100000 in
set_option maxHeartbeats 4000000 in
theorem t11_shows_24 (hC : Cx p s m args meth c cX11_shows 2 wsX11_shows RX11 (some .int)) : ∀ (z0 : Int32) (SX : Ob) (SH : Ob) (res : Int32) (H : Heap) (locs : List Loc) (ls : Array Slot), f11_shows_24 z0 SX SH = some res → GW D cy ad (w11 cy aX aT aR aH aJ aP aU aB aQ aK aL aE0 aE1 aE2 aE3 SX ++ (w4 cy aH SH)) A s H locs → lv_has ls 2 [] → W p l e rm11_shows s m args below meth c H locs 0 0 (MQ below (QI D cy (w11 cy aX aT aR aH aJ aP aU aB aQ aK aL aE0 aE1 aE2 aE3 SX ++ (w4 cy aH SH)) A res) args s 0 0 A) (F0 m 24 ls [.int z0]) := by
  intro z0 SX SH res H locs ls hf hW hl
  unfold f11_shows_24 at hf
  obtain rfl := Option.some.inj hf
  exact g_iret hC hW dX11_shows_24
set_option maxRecDepth 100000 in
set_option maxHeartbeats 4000000 in
theorem t11_shows_0 (hC : Cx p s m args meth c cX11_shows 2 wsX11_shows RX11 (some .int)) : ∀ (x1 : Int32) (SX : Ob) (SH : Ob) (res : Int32) (H : Heap) (locs : List Loc) (ls : Array Slot), f11_shows x1 SX SH = some res → GW D cy ad (w11 cy aX aT aR aH aJ aP aU aB aQ aK aL aE0 aE1 aE2 aE3 SX ++ (w4 cy aH SH)) A s H locs → lv_has ls 2 [(0, .ref (aX 0)), (1, .int x1)] → W p l e rm11_shows s m args below meth c H locs 0 0 (MQ below (QI D cy (w11 cy aX aT aR aH aJ aP aU aB aQ aK aL aE0 aE1 aE2 aE3 SX ++ (w4 cy aH SH)) A res) args s 0 0 A) (F0 m 0 ls []) := by
  intro x1 SX SH res H locs ls hf hW hl
  unfold f11_shows at hf
  refine lv_aload_n hC.1 hC.2.1 dX11_shows_0 rfl (lv_at hl 0 rfl) ?_
  refine g_get hC hW hin11_shows_11 0 rfl rfl 2 (by decide) 1 rfl rfl dX11_shows_1 ?_
  refine lv_iload_n hC.1 hC.2.1 dX11_shows_4 rfl (lv_at hl 1 rfl) ?_
  obtain ⟨r_1, hg_2, hf⟩ := bd_of hf
  refine g_calliV (w' := w11 cy aX aT aR aH aJ aP aU aB aQ aK aL aE0 aE1 aE2 aE3 SX ++ (w4 cy aH SH)) hC hW (c4_hasWorld l D cy ad aH hg_2) (cwV 1 hC.2.2.2.2.1 gX11_shows_X4_hasWorld rfl rfl rfl hdV4_hasWorld ⟨Nat.le_of_ble_eq_true rfl, Nat.le_of_ble_eq_true rfl⟩) (⟨[3, 4, 5, 6, 7, 8, 9, 10, 11, 12, 13, 14], [0, 1, 2], [0, 1, 2, 3, 4, 5, 6, 7, 8, 9, 10, 11, 12, 13, 14], w11 cy aX aT aR aH aJ aP aU aB aQ aK aL aE0 aE1 aE2 aE3 SX, rfl, rfl, rfl, rfl, by decide, rfl, rfl⟩) 0 4 rfl rfl rfl rfl hl.1 rfl (Nat.le_of_ble_eq_true rfl) dX11_shows_5 ⟨Nat.zero_le _, Nat.zero_le _⟩ (fun H locs hW => ?_)
  refine lv_if_eq (tgt := 23) hC.1 hC.2.1 dX11_shows_8 (by decide) (fun hc_3 => ?_) (fun hc_3 => ?_)
  · have hf := ite_t hf hc_3
    refine lv_iconst (v := (-1)) hC.1 hC.2.1 dX11_shows_23 (by decide) ?_
    exact t11_shows_24 hC  _ _ _ _ _ _ _ hf hW (lv_sub hl [] rfl)
  · have hf := ite_f hf hc_3
    refine lv_aload_n hC.1 hC.2.1 dX11_shows_11 rfl (lv_at hl 0 rfl) ?_
    refine g_get hC hW hin11_shows_11 0 rfl rfl 2 (by decide) 1 rfl rfl dX11_shows_12 ?_
    refine g_get hC hW hin11_shows_4 3 rfl rfl 12 (by decide) 2 rfl rfl dX11_shows_15 ?_
    refine lv_iload_n hC.1 hC.2.1 dX11_shows_18 rfl (lv_at hl 1 rfl) ?_
    obtain ⟨hi_4, hf⟩ := ck_of hf
    refine g_iald hC hW 14 rfl hi_4 dX11_shows_19 ?_
    refine lv_goto (tgt := 24) hC.1 hC.2.1 dX11_shows_20 (by decide) ?_
    exact t11_shows_24 hC  _ _ _ _ _ _ _ hf hW (lv_sub hl [] rfl)
set_option maxRecDepth 100000 in
set_option maxHeartbeats 4000000 in
theorem c11_shows (l : Launch) (D : va_G) (cy : Nat → ClassId) (ad : Nat → Nat) (aX : Nat → Nat) (aT : Nat → Nat) (aR : Nat → Nat) (aH : Nat → Nat) (aJ : Nat → Nat) (aP : Nat → Nat) (aU : Nat → Nat) (aB : Nat → Nat) (aQ : Nat → Nat) (aK : Nat → Nat) (aL : Nat → Nat) (aE0 : Nat → Nat) (aE1 : Nat → Nat) (aE2 : Nat → Nat) (aE3 : Nat → Nat) {x1 : Int32} {SX : Ob} {SH : Ob} {res : Int32} (h : f11_shows x1 SX SH = some res) : GCi l yX11_shows wsX11_shows rm11_shows [.ref (aX 0), .int x1] D cy ad (w11 cy aX aT aR aH aJ aP aU aB aQ aK aL aE0 aE1 aE2 aE3 SX ++ (w4 cy aH SH)) (w11 cy aX aT aR aH aJ aP aU aB aQ aK aL aE0 aE1 aE2 aE3 SX ++ (w4 cy aH SH)) res := fun sz => GC.start (own := RX11) (Qc := fun A => QI D cy (w11 cy aX aT aR aH aJ aP aU aB aQ aK aL aE0 aE1 aE2 aE3 SX ++ (w4 cy aH SH)) A res) sz (by decide) rfl rfl (Nat.le_of_ble_eq_true rfl) (fun p e s m below meth c A ls hC hW hl => t11_shows_0 hC _ _ _ _ _ _ _ h hW (lv_sub hl [0, 1] rfl))
abbrev rm11_left : Room := { frames := 0, cells := 0, slots := 0, locals := 0 }
theorem hdV11_left : yX11_left.cls = RX11 ∧ (yX11_left.cls ≠ "java/lang/invoke/MethodHandle" ∧ yX11_left.cls ≠ "java/lang/invoke/VarHandle" ∧ (parseMethodDescriptor yX11_left.desc).map (fun d => d.parameters.length) = some 0) := by decide +kernel
theorem hin11_left_11 : ∀ x ∈ u_ws RX11 TX11 12, x ∈ wsX11_left := fun _ h => List.mem_cons_of_mem _ (List.mem_append_left _ (List.mem_append_right _ h))
theorem hin11_left_0 : ∀ x ∈ u_ws RX0 TX0 9, x ∈ wsX11_left := fun _ h => List.mem_cons_of_mem _ (List.mem_append_right _ h)
set_option maxRecDepth 100000 in
set_option maxHeartbeats 4000000 in
theorem t11_left_0 (hC : Cx p s m args meth c cX11_left 1 wsX11_left RX11 (some .int)) : ∀ (SX : Ob) (SB : Ob) (res : Int32) (H : Heap) (locs : List Loc) (ls : Array Slot), f11_left SX SB = some res → GW D cy ad (w11 cy aX aT aR aH aJ aP aU aB aQ aK aL aE0 aE1 aE2 aE3 SX ++ (w0 cy aB SB)) A s H locs → lv_has ls 1 [(0, .ref (aX 0))] → W p l e rm11_left s m args below meth c H locs 0 0 (MQ below (QI D cy (w11 cy aX aT aR aH aJ aP aU aB aQ aK aL aE0 aE1 aE2 aE3 SX ++ (w0 cy aB SB)) A res) args s 0 0 A) (F0 m 0 ls []) := by
  intro SX SB res H locs ls hf hW hl
  unfold f11_left at hf
  refine lv_aload_n hC.1 hC.2.1 dX11_left_0 rfl (lv_at hl 0 rfl) ?_
  refine g_get hC hW hin11_left_11 0 rfl rfl 6 (by decide) 1 rfl rfl dX11_left_1 ?_
  refine g_get hC hW hin11_left_0 3 rfl rfl 0 (by decide) 2 rfl rfl dX11_left_4 ?_
  obtain rfl := Option.some.inj hf
  exact g_iret hC hW dX11_left_7
set_option maxRecDepth 100000 in
set_option maxHeartbeats 4000000 in
theorem c11_left (l : Launch) (D : va_G) (cy : Nat → ClassId) (ad : Nat → Nat) (aX : Nat → Nat) (aT : Nat → Nat) (aR : Nat → Nat) (aH : Nat → Nat) (aJ : Nat → Nat) (aP : Nat → Nat) (aU : Nat → Nat) (aB : Nat → Nat) (aQ : Nat → Nat) (aK : Nat → Nat) (aL : Nat → Nat) (aE0 : Nat → Nat) (aE1 : Nat → Nat) (aE2 : Nat → Nat) (aE3 : Nat → Nat) {SX : Ob} {SB : Ob} {res : Int32} (h : f11_left SX SB = some res) : GCi l yX11_left wsX11_left rm11_left [.ref (aX 0)] D cy ad (w11 cy aX aT aR aH aJ aP aU aB aQ aK aL aE0 aE1 aE2 aE3 SX ++ (w0 cy aB SB)) (w11 cy aX aT aR aH aJ aP aU aB aQ aK aL aE0 aE1 aE2 aE3 SX ++ (w0 cy aB SB)) res := fun sz => GC.start (own := RX11) (Qc := fun A => QI D cy (w11 cy aX aT aR aH aJ aP aU aB aQ aK aL aE0 aE1 aE2 aE3 SX ++ (w0 cy aB SB)) A res) sz (by decide) rfl rfl (Nat.le_of_ble_eq_true rfl) (fun p e s m below meth c A ls hC hW hl => t11_left_0 hC _ _ _ _ _ _ h hW (lv_sub hl [0] rfl))
abbrev rm11_leave : Room := { frames := 2, cells := 0, slots := 0, locals := 43 }
theorem hdV11_leave : yX11_leave.cls = RX11 ∧ (yX11_leave.cls ≠ "java/lang/invoke/MethodHandle" ∧ yX11_leave.cls ≠ "java/lang/invoke/VarHandle" ∧ (parseMethodDescriptor yX11_leave.desc).map (fun d => d.parameters.length) = some 1) := by decide +kernel
theorem hin11_leave_11 : ∀ x ∈ u_ws RX11 TX11 12, x ∈ wsX11_leave := fun _ h => List.mem_cons_of_mem _ (List.mem_append_left _ (List.mem_append_right _ h))
theorem hin11_leave_0 : ∀ x ∈ u_ws RX0 TX0 9, x ∈ wsX11_leave := fun _ h => List.mem_cons_of_mem _ (List.mem_append_right _ h)
set_option maxRecDepth 100000 in
set_option maxHeartbeats 4000000 in
theorem t11_leave_25 (hC : Cx p s m args meth c cX11_leave 2 wsX11_leave RX11 (some .int)) : ∀ (z0 : Int32) (SX : Ob) (SB : Ob) (res : Int32 × Ob) (H : Heap) (locs : List Loc) (ls : Array Slot), f11_leave_25 z0 SX SB = some res → GW D cy ad (w11 cy aX aT aR aH aJ aP aU aB aQ aK aL aE0 aE1 aE2 aE3 SX ++ (w0 cy aB SB)) A s H locs → lv_has ls 2 [] → W p l e rm11_leave s m args below meth c H locs 0 0 (MQ below (QI D cy (w11 cy aX aT aR aH aJ aP aU aB aQ aK aL aE0 aE1 aE2 aE3 SX ++ (w0 cy aB (res.2))) A (res.1)) args s 0 0 A) (F0 m 25 ls [.int z0]) := by
  intro z0 SX SB res H locs ls hf hW hl
  unfold f11_leave_25 at hf
  obtain rfl := Option.some.inj hf
  exact g_iret hC hW dX11_leave_25
set_option maxRecDepth 100000 in
set_option maxHeartbeats 4000000 in
theorem t11_leave_0 (hC : Cx p s m args meth c cX11_leave 2 wsX11_leave RX11 (some .int)) : ∀ (x1 : Int32) (SX : Ob) (SB : Ob) (res : Int32 × Ob) (H : Heap) (locs : List Loc) (ls : Array Slot), f11_leave x1 SX SB = some res → GW D cy ad (w11 cy aX aT aR aH aJ aP aU aB aQ aK aL aE0 aE1 aE2 aE3 SX ++ (w0 cy aB SB)) A s H locs → lv_has ls 2 [(0, .ref (aX 0)), (1, .int x1)] → W p l e rm11_leave s m args below meth c H locs 0 0 (MQ below (QI D cy (w11 cy aX aT aR aH aJ aP aU aB aQ aK aL aE0 aE1 aE2 aE3 SX ++ (w0 cy aB (res.2))) A (res.1)) args s 0 0 A) (F0 m 0 ls []) := by
  intro x1 SX SB res H locs ls hf hW hl
  unfold f11_leave at hf
  refine lv_aload_n hC.1 hC.2.1 dX11_leave_0 rfl (lv_at hl 0 rfl) ?_
  refine g_get hC hW hin11_leave_11 0 rfl rfl 6 (by decide) 1 rfl rfl dX11_leave_1 ?_
  refine lv_iload_n hC.1 hC.2.1 dX11_leave_4 rfl (lv_at hl 1 rfl) ?_
  obtain ⟨r_1, hg_2, hf⟩ := bd_of hf
  refine g_calliV (w' := w11 cy aX aT aR aH aJ aP aU aB aQ aK aL aE0 aE1 aE2 aE3 SX ++ (w0 cy aB (r_1.2))) hC hW (c0_narrow l D cy ad aB hg_2) (cwV 1 hC.2.2.2.2.1 gX11_leave_X0_narrow rfl rfl rfl hdV0_narrow ⟨Nat.le_of_ble_eq_true rfl, Nat.le_of_ble_eq_true rfl⟩) (⟨[3, 4, 5, 6, 7, 8], [0, 1, 2], [0, 1, 2, 3, 4, 5, 6, 7, 8], w11 cy aX aT aR aH aJ aP aU aB aQ aK aL aE0 aE1 aE2 aE3 SX, rfl, rfl, rfl, rfl, by decide, rfl, rfl⟩) 0 0 rfl rfl rfl rfl hl.1 rfl (Nat.le_of_ble_eq_true rfl) dX11_leave_5 ⟨Nat.zero_le _, Nat.zero_le _⟩ (fun H locs hW => ?_)
  refine lv_if_eq (tgt := 24) hC.1 hC.2.1 dX11_leave_8 (by decide) (fun hc_3 => ?_) (fun hc_3 => ?_)
  · have hf := ite_t hf hc_3
    refine lv_iconst (v := (-1)) hC.1 hC.2.1 dX11_leave_24 (by decide) ?_
    exact t11_leave_25 hC  _ _ _ _ _ _ _ hf hW (lv_sub hl [] rfl)
  · have hf := ite_f hf hc_3
    refine lv_aload_n hC.1 hC.2.1 dX11_leave_11 rfl (lv_at hl 0 rfl) ?_
    refine g_get hC hW hin11_leave_11 0 rfl rfl 6 (by decide) 1 rfl rfl dX11_leave_12 ?_
    refine g_get hC hW hin11_leave_0 3 rfl rfl 0 (by decide) 2 rfl rfl dX11_leave_15 ?_
    obtain ⟨r_4, hg_5, hf⟩ := bd_of hf
    refine g_calliS (w' := w11 cy aX aT aR aH aJ aP aU aB aQ aK aL aE0 aE1 aE2 aE3 SX ++ (w0 cy aB (r_1.2))) hC hW (cj6_bitCount l D cy ad  hg_5) (va_cwS 1 hC.2.2.2.2.1 gX11_leave_J6_bitCount_0f7a4 rfl rfl rfl hdSj6_bitCount ⟨Nat.le_of_ble_eq_true rfl, Nat.le_of_ble_eq_true rfl⟩) (Sub.nil _) rfl hl.1 rfl (Nat.le_of_ble_eq_true rfl) dX11_leave_18 ⟨Nat.zero_le _, Nat.zero_le _⟩ (fun H locs hW => ?_)
    refine lv_goto (tgt := 25) hC.1 hC.2.1 dX11_leave_21 (by decide) ?_
    exact t11_leave_25 hC  _ _ _ _ _ _ _ hf hW (lv_sub hl [] rfl)
set_option maxRecDepth 100000 in
set_option maxHeartbeats 4000000 in
theorem c11_leave (l : Launch) (D : va_G) (cy : Nat → ClassId) (ad : Nat → Nat) (aX : Nat → Nat) (aT : Nat → Nat) (aR : Nat → Nat) (aH : Nat → Nat) (aJ : Nat → Nat) (aP : Nat → Nat) (aU : Nat → Nat) (aB : Nat → Nat) (aQ : Nat → Nat) (aK : Nat → Nat) (aL : Nat → Nat) (aE0 : Nat → Nat) (aE1 : Nat → Nat) (aE2 : Nat → Nat) (aE3 : Nat → Nat) {x1 : Int32} {SX : Ob} {SB : Ob} {res : Int32 × Ob} (h : f11_leave x1 SX SB = some res) : GCi l yX11_leave wsX11_leave rm11_leave [.ref (aX 0), .int x1] D cy ad (w11 cy aX aT aR aH aJ aP aU aB aQ aK aL aE0 aE1 aE2 aE3 SX ++ (w0 cy aB SB)) (w11 cy aX aT aR aH aJ aP aU aB aQ aK aL aE0 aE1 aE2 aE3 SX ++ (w0 cy aB (res.2))) (res.1) := fun sz => GC.start (own := RX11) (Qc := fun A => QI D cy (w11 cy aX aT aR aH aJ aP aU aB aQ aK aL aE0 aE1 aE2 aE3 SX ++ (w0 cy aB (res.2))) A (res.1)) sz (by decide) rfl rfl (Nat.le_of_ble_eq_true rfl) (fun p e s m below meth c A ls hC hW hl => t11_leave_0 hC _ _ _ _ _ _ _ h hW (lv_sub hl [0, 1] rfl))
abbrev rm11_answer : Room := { frames := 3, cells := 0, slots := 0, locals := 64 }
theorem hdV11_answer : yX11_answer.cls = RX11 ∧ (yX11_answer.cls ≠ "java/lang/invoke/MethodHandle" ∧ yX11_answer.cls ≠ "java/lang/invoke/VarHandle" ∧ (parseMethodDescriptor yX11_answer.desc).map (fun d => d.parameters.length) = some 3) := by decide +kernel
theorem hin11_answer_11 : ∀ x ∈ u_ws RX11 TX11 12, x ∈ wsX11_answer := fun _ h => List.mem_cons_of_mem _ (List.mem_append_left _ (List.mem_append_left _ (List.mem_append_right _ h)))
set_option maxRecDepth 100000 in
set_option maxHeartbeats 4000000 in
theorem t11_answer_22 (hC : Cx p s m args meth c cX11_answer 5 wsX11_answer RX11 (some .int)) : ∀ (SX : Ob) (SH : Ob) (SB : Ob) (res : Int32 × Ob) (H : Heap) (locs : List Loc) (ls : Array Slot), f11_answer_22 SX SH SB = some res → GW D cy ad (w11 cy aX aT aR aH aJ aP aU aB aQ aK aL aE0 aE1 aE2 aE3 SX ++ (w4 cy aH SH ++ (w0 cy aB SB))) A s H locs → lv_has ls 5 [] → W p l e rm11_answer s m args below meth c H locs 0 0 (MQ below (QI D cy (w11 cy aX aT aR aH aJ aP aU aB aQ aK aL aE0 aE1 aE2 aE3 SX ++ (w4 cy aH SH ++ (w0 cy aB (res.2)))) A (res.1)) args s 0 0 A) (F0 m 22 ls []) := by
  intro SX SH SB res H locs ls hf hW hl
  unfold f11_answer_22 at hf
  refine lv_iconst (v := (-1)) hC.1 hC.2.1 dX11_answer_22 (by decide) ?_
  obtain rfl := Option.some.inj hf
  exact g_iret hC hW dX11_answer_23
set_option maxRecDepth 100000 in
set_option maxHeartbeats 4000000 in
theorem t11_answer_53 (hC : Cx p s m args meth c cX11_answer 5 wsX11_answer RX11 (some .int)) : ∀ (z2 : Int32) (z3 : Int32) (SX : Ob) (SH : Ob) (SB : Ob) (res : Int32 × Ob) (H : Heap) (locs : List Loc) (ls : Array Slot), f11_answer_53 z2 z3 SX SH SB = some res → GW D cy ad (w11 cy aX aT aR aH aJ aP aU aB aQ aK aL aE0 aE1 aE2 aE3 SX ++ (w4 cy aH SH ++ (w0 cy aB SB))) A s H locs → lv_has ls 5 [] → W p l e rm11_answer s m args below meth c H locs 0 0 (MQ below (QI D cy (w11 cy aX aT aR aH aJ aP aU aB aQ aK aL aE0 aE1 aE2 aE3 SX ++ (w4 cy aH SH ++ (w0 cy aB (res.2)))) A (res.1)) args s 0 0 A) (F0 m 53 ls [.int z3, .int z2, .ref (aH 0), .ref (aX 0)]) := by
  intro z2 z3 SX SH SB res H locs ls hf hW hl
  unfold f11_answer_53 at hf
  obtain ⟨r_1, hg_2, hf⟩ := bd_of hf
  refine g_calliV (w' := w11 cy aX aT aR aH aJ aP aU aB aQ aK aL aE0 aE1 aE2 aE3 SX ++ (w4 cy aH SH ++ (w0 cy aB SB))) hC hW (c4_sayable l D cy ad aH hg_2) (cwV 2 hC.2.2.2.2.1 gX11_answer_X4_sayable rfl rfl rfl hdV4_sayable ⟨Nat.le_of_ble_eq_true rfl, Nat.le_of_ble_eq_true rfl⟩) (⟨[3, 4, 5, 6, 7, 8, 9, 10, 11, 12, 13, 14], [0, 1, 2, 15, 16, 17, 18, 19, 20], [0, 1, 2, 9, 10, 11, 12, 13, 14, 15, 16, 17, 18, 19, 20, 3, 4, 5, 6, 7, 8], w11 cy aX aT aR aH aJ aP aU aB aQ aK aL aE0 aE1 aE2 aE3 SX ++ (w0 cy aB SB), rfl, rfl, rfl, rfl, by decide, rfl, rfl⟩) 0 4 rfl rfl rfl rfl hl.1 rfl (Nat.le_of_ble_eq_true rfl) dX11_answer_53 ⟨Nat.zero_le _, Nat.zero_le _⟩ (fun H locs hW => ?_)
  obtain ⟨r_3, hg_4, hf⟩ := bd_of hf
  refine g_calliV (w' := w11 cy aX aT aR aH aJ aP aU aB aQ aK aL aE0 aE1 aE2 aE3 SX ++ (w4 cy aH SH ++ (w0 cy aB (r_3.2)))) hC hW (c11_leave l D cy ad aX aT aR aH aJ aP aU aB aQ aK aL _ _ _ _ hg_4) (cwV 1 hC.2.2.2.2.1 gX11_answer_X11_leave rfl rfl rfl hdV11_leave ⟨Nat.le_of_ble_eq_true rfl, Nat.le_of_ble_eq_true rfl⟩) (⟨[0, 1, 2, 15, 16, 17, 18, 19, 20], [3, 4, 5, 6, 7, 8, 9, 10, 11, 12, 13, 14], [12, 13, 14, 0, 1, 2, 3, 4, 5, 6, 7, 8, 9, 10, 11, 15, 16, 17, 18, 19, 20], w4 cy aH SH, rfl, rfl, rfl, rfl, by decide, rfl, rfl⟩) 0 10 rfl rfl rfl rfl hl.1 rfl (Nat.le_of_ble_eq_true rfl) dX11_answer_56 ⟨Nat.zero_le _, Nat.zero_le _⟩ (fun H locs hW => ?_)
  obtain rfl := Option.some.inj hf
  exact g_iret hC hW dX11_answer_59
set_option maxRecDepth 100000 in
set_option maxHeartbeats 4000000 in
theorem t11_answer_0 (hC : Cx p s m args meth c cX11_answer 5 wsX11_answer RX11 (some .int)) : ∀ (x1 : Int32) (x2 : Int32) (x3 : Int32) (SX : Ob) (SH : Ob) (SB : Ob) (res : Int32 × Ob) (H : Heap) (locs : List Loc) (ls : Array Slot), f11_answer x1 x2 x3 SX SH SB = some res → GW D cy ad (w11 cy aX aT aR aH aJ aP aU aB aQ aK aL aE0 aE1 aE2 aE3 SX ++ (w4 cy aH SH ++ (w0 cy aB SB))) A s H locs → lv_has ls 5 [(0, .ref (aX 0)), (1, .int x1), (2, .int x2), (3, .int x3)] → W p l e rm11_answer s m args below meth c H locs 0 0 (MQ below (QI D cy (w11 cy aX aT aR aH aJ aP aU aB aQ aK aL aE0 aE1 aE2 aE3 SX ++ (w4 cy aH SH ++ (w0 cy aB (res.2)))) A (res.1)) args s 0 0 A) (F0 m 0 ls []) := by
  intro x1 x2 x3 SX SH SB res H locs ls hf hW hl
  unfold f11_answer at hf
  refine lv_aload_n hC.1 hC.2.1 dX11_answer_0 rfl (lv_at hl 0 rfl) ?_
  refine g_get hC hW hin11_answer_11 0 rfl rfl 2 (by decide) 1 rfl rfl dX11_answer_1 ?_
  refine lv_iload_n hC.1 hC.2.1 dX11_answer_4 rfl (lv_at hl 1 rfl) ?_
  obtain ⟨r_1, hg_2, hf⟩ := bd_of hf
  refine g_calliV (w' := w11 cy aX aT aR aH aJ aP aU aB aQ aK aL aE0 aE1 aE2 aE3 SX ++ (w4 cy aH SH ++ (w0 cy aB SB))) hC hW (c4_hasGuest l D cy ad aH hg_2) (cwV 1 hC.2.2.2.2.1 gX11_answer_X4_hasGuest rfl rfl rfl hdV4_hasGuest ⟨Nat.le_of_ble_eq_true rfl, Nat.le_of_ble_eq_true rfl⟩) (⟨[3, 4, 5, 6, 7, 8, 9, 10, 11, 12, 13, 14], [0, 1, 2, 15, 16, 17, 18, 19, 20], [0, 1, 2, 9, 10, 11, 12, 13, 14, 15, 16, 17, 18, 19, 20, 3, 4, 5, 6, 7, 8], w11 cy aX aT aR aH aJ aP aU aB aQ aK aL aE0 aE1 aE2 aE3 SX ++ (w0 cy aB SB), rfl, rfl, rfl, rfl, by decide, rfl, rfl⟩) 0 4 rfl rfl rfl rfl hl.1 rfl (Nat.le_of_ble_eq_true rfl) dX11_answer_5 ⟨Nat.zero_le _, Nat.zero_le _⟩ (fun H locs hW => ?_)
  refine lv_if_eq (tgt := 22) hC.1 hC.2.1 dX11_answer_8 (by decide) (fun hc_3 => ?_) (fun hc_3 => ?_)
  · have hf := ite_t hf hc_3
    exact t11_answer_22 hC  _ _ _ _ _ _ _ hf hW (lv_sub hl [] rfl)
  · have hf := ite_f hf hc_3
    refine lv_aload_n hC.1 hC.2.1 dX11_answer_11 rfl (lv_at hl 0 rfl) ?_
    refine g_get hC hW hin11_answer_11 0 rfl rfl 2 (by decide) 1 rfl rfl dX11_answer_12 ?_
    refine lv_iload_n hC.1 hC.2.1 dX11_answer_15 rfl (lv_at hl 2 rfl) ?_
    obtain ⟨r_4, hg_5, hf⟩ := bd_of hf
    refine g_calliV (w' := w11 cy aX aT aR aH aJ aP aU aB aQ aK aL aE0 aE1 aE2 aE3 SX ++ (w4 cy aH SH ++ (w0 cy aB SB))) hC hW (c4_hasGuest l D cy ad aH hg_5) (cwV 1 hC.2.2.2.2.1 gX11_answer_X4_hasGuest rfl rfl rfl hdV4_hasGuest ⟨Nat.le_of_ble_eq_true rfl, Nat.le_of_ble_eq_true rfl⟩) (⟨[3, 4, 5, 6, 7, 8, 9, 10, 11, 12, 13, 14], [0, 1, 2, 15, 16, 17, 18, 19, 20], [0, 1, 2, 9, 10, 11, 12, 13, 14, 15, 16, 17, 18, 19, 20, 3, 4, 5, 6, 7, 8], w11 cy aX aT aR aH aJ aP aU aB aQ aK aL aE0 aE1 aE2 aE3 SX ++ (w0 cy aB SB), rfl, rfl, rfl, rfl, by decide, rfl, rfl⟩) 0 4 rfl rfl rfl rfl hl.1 rfl (Nat.le_of_ble_eq_true rfl) dX11_answer_16 ⟨Nat.zero_le _, Nat.zero_le _⟩ (fun H locs hW => ?_)
    refine lv_if_ne (tgt := 24) hC.1 hC.2.1 dX11_answer_19 (by decide) (fun hc_6 => ?_) (fun hc_6 => ?_)
    · have hf := ite_f hf hc_6
      refine lv_aload_n hC.1 hC.2.1 dX11_answer_24 rfl (lv_at hl 0 rfl) ?_
      refine g_get hC hW hin11_answer_11 0 rfl rfl 2 (by decide) 1 rfl rfl dX11_answer_25 ?_
      refine lv_iload_n hC.1 hC.2.1 dX11_answer_28 rfl (lv_at hl 2 rfl) ?_
      obtain ⟨r_7, hg_8, hf⟩ := bd_of hf
      refine g_calliV (w' := w11 cy aX aT aR aH aJ aP aU aB aQ aK aL aE0 aE1 aE2 aE3 SX ++ (w4 cy aH SH ++ (w0 cy aB SB))) hC hW (c4_worldsOf l D cy ad aH hg_8) (cwV 1 hC.2.2.2.2.1 gX11_answer_X4_worldsOf rfl rfl rfl hdV4_worldsOf ⟨Nat.le_of_ble_eq_true rfl, Nat.le_of_ble_eq_true rfl⟩) (⟨[3, 4, 5, 6, 7, 8, 9, 10, 11, 12, 13, 14], [0, 1, 2, 15, 16, 17, 18, 19, 20], [0, 1, 2, 9, 10, 11, 12, 13, 14, 15, 16, 17, 18, 19, 20, 3, 4, 5, 6, 7, 8], w11 cy aX aT aR aH aJ aP aU aB aQ aK aL aE0 aE1 aE2 aE3 SX ++ (w0 cy aB SB), rfl, rfl, rfl, rfl, by decide, rfl, rfl⟩) 0 4 rfl rfl rfl rfl hl.1 rfl (Nat.le_of_ble_eq_true rfl) dX11_answer_29 ⟨Nat.zero_le _, Nat.zero_le _⟩ (fun H locs hW => ?_)
      refine lv_istore (lv' := [(4, .int r_7), (0, .ref (aX 0)), (1, .int x1), (2, .int x2), (3, .int x3)]) hC.1 hC.2.1 dX11_answer_32 hl (by decide) rfl (fun ls hl => ?_)
      refine lv_aload_n hC.1 hC.2.1 dX11_answer_34 rfl (lv_at hl 1 rfl) ?_
      refine lv_aload_n hC.1 hC.2.1 dX11_answer_35 rfl (lv_at hl 1 rfl) ?_
      refine g_get hC hW hin11_answer_11 0 rfl rfl 2 (by decide) 1 rfl rfl dX11_answer_36 ?_
      refine lv_iload_n hC.1 hC.2.1 dX11_answer_39 rfl (lv_at hl 2 rfl) ?_
      refine lv_iload_n hC.1 hC.2.1 dX11_answer_40 rfl (lv_at hl 4 rfl) ?_
      refine lv_if_eq (tgt := 49) hC.1 hC.2.1 dX11_answer_41 (by decide) (fun hc_9 => ?_) (fun hc_9 => ?_)
      · have hf := ite_t hf hc_9
        refine lv_iload hC.1 hC.2.1 dX11_answer_49 (lv_at hl 0 rfl) ?_
        refine lv_iconst (v := (-1)) hC.1 hC.2.1 dX11_answer_51 (by decide) ?_
        refine lv_ixor hC.1 hC.2.1 dX11_answer_52 ?_
        exact t11_answer_53 hC  _ _ _ _ _ _ _ _ _ hf hW (lv_sub hl [] rfl)
      · have hf := ite_f hf hc_9
        refine lv_iload hC.1 hC.2.1 dX11_answer_44 (lv_at hl 0 rfl) ?_
        refine lv_goto (tgt := 53) hC.1 hC.2.1 dX11_answer_46 (by decide) ?_
        exact t11_answer_53 hC  _ _ _ _ _ _ _ _ _ hf hW (lv_sub hl [] rfl)
    · have hf := ite_t hf hc_6
      exact t11_answer_22 hC  _ _ _ _ _ _ _ hf hW (lv_sub hl [] rfl)
set_option maxRecDepth 100000 in
set_option maxHeartbeats 4000000 in
theorem c11_answer (l : Launch) (D : va_G) (cy : Nat → ClassId) (ad : Nat → Nat) (aX : Nat → Nat) (aT : Nat → Nat) (aR : Nat → Nat) (aH : Nat → Nat) (aJ : Nat → Nat) (aP : Nat → Nat) (aU : Nat → Nat) (aB : Nat → Nat) (aQ : Nat → Nat) (aK : Nat → Nat) (aL : Nat → Nat) (aE0 : Nat → Nat) (aE1 : Nat → Nat) (aE2 : Nat → Nat) (aE3 : Nat → Nat) {x1 : Int32} {x2 : Int32} {x3 : Int32} {SX : Ob} {SH : Ob} {SB : Ob} {res : Int32 × Ob} (h : f11_answer x1 x2 x3 SX SH SB = some res) : GCi l yX11_answer wsX11_answer rm11_answer [.ref (aX 0), .int x1, .int x2, .int x3] D cy ad (w11 cy aX aT aR aH aJ aP aU aB aQ aK aL aE0 aE1 aE2 aE3 SX ++ (w4 cy aH SH ++ (w0 cy aB SB))) (w11 cy aX aT aR aH aJ aP aU aB aQ aK aL aE0 aE1 aE2 aE3 SX ++ (w4 cy aH SH ++ (w0 cy aB (res.2)))) (res.1) := fun sz => GC.start (own := RX11) (Qc := fun A => QI D cy (w11 cy aX aT aR aH aJ aP aU aB aQ aK aL aE0 aE1 aE2 aE3 SX ++ (w4 cy aH SH ++ (w0 cy aB (res.2)))) A (res.1)) sz (by decide) rfl rfl (Nat.le_of_ble_eq_true rfl) (fun p e s m below meth c A ls hC hW hl => t11_answer_0 hC _ _ _ _ _ _ _ _ _ _ h hW (lv_sub hl [0, 1, 2, 3] rfl))
abbrev rm11_sign : Room := { frames := 3, cells := 0, slots := 0, locals := 64 }
theorem hdV11_sign : yX11_sign.cls = RX11 ∧ (yX11_sign.cls ≠ "java/lang/invoke/MethodHandle" ∧ yX11_sign.cls ≠ "java/lang/invoke/VarHandle" ∧ (parseMethodDescriptor yX11_sign.desc).map (fun d => d.parameters.length) = some 2) := by decide +kernel
theorem hin11_sign_11 : ∀ x ∈ u_ws RX11 TX11 12, x ∈ wsX11_sign := fun _ h => List.mem_cons_of_mem _ (List.mem_append_left _ (List.mem_append_left _ (List.mem_append_right _ h)))
set_option maxRecDepth 100000 in
set_option maxHeartbeats 4000000 in
theorem t11_sign_28 (hC : Cx p s m args meth c cX11_sign 3 wsX11_sign RX11 (some .int)) : ∀ (z0 : Int32) (SX : Ob) (SH : Ob) (SB : Ob) (res : Int32 × Ob) (H : Heap) (locs : List Loc) (ls : Array Slot), f11_sign_28 z0 SX SH SB = some res → GW D cy ad (w11 cy aX aT aR aH aJ aP aU aB aQ aK aL aE0 aE1 aE2 aE3 SX ++ (w4 cy aH SH ++ (w0 cy aB SB))) A s H locs → lv_has ls 3 [] → W p l e rm11_sign s m args below meth c H locs 0 0 (MQ below (QI D cy (w11 cy aX aT aR aH aJ aP aU aB aQ aK aL aE0 aE1 aE2 aE3 SX ++ (w4 cy aH SH ++ (w0 cy aB (res.2)))) A (res.1)) args s 0 0 A) (F0 m 28 ls [.int z0]) := by
  intro z0 SX SH SB res H locs ls hf hW hl
  unfold f11_sign_28 at hf
  obtain rfl := Option.some.inj hf
  exact g_iret hC hW dX11_sign_28
set_option maxRecDepth 100000 in
set_option maxHeartbeats 4000000 in
theorem t11_sign_0 (hC : Cx p s m args meth c cX11_sign 3 wsX11_sign RX11 (some .int)) : ∀ (x1 : Int32) (x2 : Int32) (SX : Ob) (SH : Ob) (SB : Ob) (res : Int32 × Ob) (H : Heap) (locs : List Loc) (ls : Array Slot), f11_sign x1 x2 SX SH SB = some res → GW D cy ad (w11 cy aX aT aR aH aJ aP aU aB aQ aK aL aE0 aE1 aE2 aE3 SX ++ (w4 cy aH SH ++ (w0 cy aB SB))) A s H locs → lv_has ls 3 [(0, .ref (aX 0)), (1, .int x1), (2, .int x2)] → W p l e rm11_sign s m args below meth c H locs 0 0 (MQ below (QI D cy (w11 cy aX aT aR aH aJ aP aU aB aQ aK aL aE0 aE1 aE2 aE3 SX ++ (w4 cy aH SH ++ (w0 cy aB (res.2)))) A (res.1)) args s 0 0 A) (F0 m 0 ls []) := by
  intro x1 x2 SX SH SB res H locs ls hf hW hl
  unfold f11_sign at hf
  refine lv_aload_n hC.1 hC.2.1 dX11_sign_0 rfl (lv_at hl 0 rfl) ?_
  refine g_get hC hW hin11_sign_11 0 rfl rfl 2 (by decide) 1 rfl rfl dX11_sign_1 ?_
  refine lv_iload_n hC.1 hC.2.1 dX11_sign_4 rfl (lv_at hl 1 rfl) ?_
  obtain ⟨r_1, hg_2, hf⟩ := bd_of hf
  refine g_calliV (w' := w11 cy aX aT aR aH aJ aP aU aB aQ aK aL aE0 aE1 aE2 aE3 SX ++ (w4 cy aH SH ++ (w0 cy aB SB))) hC hW (c4_hasSign l D cy ad aH hg_2) (cwV 1 hC.2.2.2.2.1 gX11_sign_X4_hasSign rfl rfl rfl hdV4_hasSign ⟨Nat.le_of_ble_eq_true rfl, Nat.le_of_ble_eq_true rfl⟩) (⟨[3, 4, 5, 6, 7, 8, 9, 10, 11, 12, 13, 14], [0, 1, 2, 15, 16, 17, 18, 19, 20], [0, 1, 2, 9, 10, 11, 12, 13, 14, 15, 16, 17, 18, 19, 20, 3, 4, 5, 6, 7, 8], w11 cy aX aT aR aH aJ aP aU aB aQ aK aL aE0 aE1 aE2 aE3 SX ++ (w0 cy aB SB), rfl, rfl, rfl, rfl, by decide, rfl, rfl⟩) 0 4 rfl rfl rfl rfl hl.1 rfl (Nat.le_of_ble_eq_true rfl) dX11_sign_5 ⟨Nat.zero_le _, Nat.zero_le _⟩ (fun H locs hW => ?_)
  refine lv_if_eq (tgt := 27) hC.1 hC.2.1 dX11_sign_8 (by decide) (fun hc_3 => ?_) (fun hc_3 => ?_)
  · have hf := ite_t hf hc_3
    refine lv_iconst (v := (-1)) hC.1 hC.2.1 dX11_sign_27 (by decide) ?_
    exact t11_sign_28 hC  _ _ _ _ _ _ _ _ hf hW (lv_sub hl [] rfl)
  · have hf := ite_f hf hc_3
    refine lv_aload_n hC.1 hC.2.1 dX11_sign_11 rfl (lv_at hl 0 rfl) ?_
    refine lv_aload_n hC.1 hC.2.1 dX11_sign_12 rfl (lv_at hl 0 rfl) ?_
    refine g_get hC hW hin11_sign_11 0 rfl rfl 2 (by decide) 1 rfl rfl dX11_sign_13 ?_
    refine lv_iload_n hC.1 hC.2.1 dX11_sign_16 rfl (lv_at hl 1 rfl) ?_
    refine lv_iload_n hC.1 hC.2.1 dX11_sign_17 rfl (lv_at hl 2 rfl) ?_
    obtain ⟨r_4, hg_5, hf⟩ := bd_of hf
    refine g_calliV (w' := w11 cy aX aT aR aH aJ aP aU aB aQ aK aL aE0 aE1 aE2 aE3 SX ++ (w4 cy aH SH ++ (w0 cy aB SB))) hC hW (c4_worldsShowing l D cy ad aH hg_5) (cwV 2 hC.2.2.2.2.1 gX11_sign_X4_worldsShowing rfl rfl rfl hdV4_worldsShowing ⟨Nat.le_of_ble_eq_true rfl, Nat.le_of_ble_eq_true rfl⟩) (⟨[3, 4, 5, 6, 7, 8, 9, 10, 11, 12, 13, 14], [0, 1, 2, 15, 16, 17, 18, 19, 20], [0, 1, 2, 9, 10, 11, 12, 13, 14, 15, 16, 17, 18, 19, 20, 3, 4, 5, 6, 7, 8], w11 cy aX aT aR aH aJ aP aU aB aQ aK aL aE0 aE1 aE2 aE3 SX ++ (w0 cy aB SB), rfl, rfl, rfl, rfl, by decide, rfl, rfl⟩) 0 4 rfl rfl rfl rfl hl.1 rfl (Nat.le_of_ble_eq_true rfl) dX11_sign_18 ⟨Nat.zero_le _, Nat.zero_le _⟩ (fun H locs hW => ?_)
    obtain ⟨r_6, hg_7, hf⟩ := bd_of hf
    refine g_calliV (w' := w11 cy aX aT aR aH aJ aP aU aB aQ aK aL aE0 aE1 aE2 aE3 SX ++ (w4 cy aH SH ++ (w0 cy aB (r_6.2)))) hC hW (c11_leave l D cy ad aX aT aR aH aJ aP aU aB aQ aK aL _ _ _ _ hg_7) (cwV 1 hC.2.2.2.2.1 gX11_sign_X11_leave rfl rfl rfl hdV11_leave ⟨Nat.le_of_ble_eq_true rfl, Nat.le_of_ble_eq_true rfl⟩) (⟨[0, 1, 2, 15, 16, 17, 18, 19, 20], [3, 4, 5, 6, 7, 8, 9, 10, 11, 12, 13, 14], [12, 13, 14, 0, 1, 2, 3, 4, 5, 6, 7, 8, 9, 10, 11, 15, 16, 17, 18, 19, 20], w4 cy aH SH, rfl, rfl, rfl, rfl, by decide, rfl, rfl⟩) 0 10 rfl rfl rfl rfl hl.1 rfl (Nat.le_of_ble_eq_true rfl) dX11_sign_21 ⟨Nat.zero_le _, Nat.zero_le _⟩ (fun H locs hW => ?_)
    refine lv_goto (tgt := 28) hC.1 hC.2.1 dX11_sign_24 (by decide) ?_
    exact t11_sign_28 hC  _ _ _ _ _ _ _ _ hf hW (lv_sub hl [] rfl)
set_option maxRecDepth 100000 in
set_option maxHeartbeats 4000000 in
theorem c11_sign (l : Launch) (D : va_G) (cy : Nat → ClassId) (ad : Nat → Nat) (aX : Nat → Nat) (aT : Nat → Nat) (aR : Nat → Nat) (aH : Nat → Nat) (aJ : Nat → Nat) (aP : Nat → Nat) (aU : Nat → Nat) (aB : Nat → Nat) (aQ : Nat → Nat) (aK : Nat → Nat) (aL : Nat → Nat) (aE0 : Nat → Nat) (aE1 : Nat → Nat) (aE2 : Nat → Nat) (aE3 : Nat → Nat) {x1 : Int32} {x2 : Int32} {SX : Ob} {SH : Ob} {SB : Ob} {res : Int32 × Ob} (h : f11_sign x1 x2 SX SH SB = some res) : GCi l yX11_sign wsX11_sign rm11_sign [.ref (aX 0), .int x1, .int x2] D cy ad (w11 cy aX aT aR aH aJ aP aU aB aQ aK aL aE0 aE1 aE2 aE3 SX ++ (w4 cy aH SH ++ (w0 cy aB SB))) (w11 cy aX aT aR aH aJ aP aU aB aQ aK aL aE0 aE1 aE2 aE3 SX ++ (w4 cy aH SH ++ (w0 cy aB (res.2)))) (res.1) := fun sz => GC.start (own := RX11) (Qc := fun A => QI D cy (w11 cy aX aT aR aH aJ aP aU aB aQ aK aL aE0 aE1 aE2 aE3 SX ++ (w4 cy aH SH ++ (w0 cy aB (res.2)))) A (res.1)) sz (by decide) rfl rfl (Nat.le_of_ble_eq_true rfl) (fun p e s m below meth c A ls hC hW hl => t11_sign_0 hC _ _ _ _ _ _ _ _ _ h hW (lv_sub hl [0, 1, 2] rfl))
abbrev rm11_weather : Room := { frames := 3, cells := 0, slots := 0, locals := 67 }
theorem hdV11_weather : yX11_weather.cls = RX11 ∧ (yX11_weather.cls ≠ "java/lang/invoke/MethodHandle" ∧ yX11_weather.cls ≠ "java/lang/invoke/VarHandle" ∧ (parseMethodDescriptor yX11_weather.desc).map (fun d => d.parameters.length) = some 1) := by decide +kernel
theorem hin11_weather_11 : ∀ x ∈ u_ws RX11 TX11 12, x ∈ wsX11_weather := fun _ h => List.mem_cons_of_mem _ (List.mem_append_left _ (List.mem_append_left _ (List.mem_append_right _ h)))
set_option maxRecDepth 100000 in
set_option maxHeartbeats 4000000 in
theorem t11_weather_9 (hC : Cx p s m args meth c cX11_weather 2 wsX11_weather RX11 (some .int)) : ∀ (SX : Ob) (SH : Ob) (SB : Ob) (res : Int32 × Ob) (H : Heap) (locs : List Loc) (ls : Array Slot), f11_weather_9 SX SH SB = some res → GW D cy ad (w11 cy aX aT aR aH aJ aP aU aB aQ aK aL aE0 aE1 aE2 aE3 SX ++ (w4 cy aH SH ++ (w0 cy aB SB))) A s H locs → lv_has ls 2 [] → W p l e rm11_weather s m args below meth c H locs 0 0 (MQ below (QI D cy (w11 cy aX aT aR aH aJ aP aU aB aQ aK aL aE0 aE1 aE2 aE3 SX ++ (w4 cy aH SH ++ (w0 cy aB (res.2)))) A (res.1)) args s 0 0 A) (F0 m 9 ls []) := by
  intro SX SH SB res H locs ls hf hW hl
  unfold f11_weather_9 at hf
  refine lv_iconst (v := (-1)) hC.1 hC.2.1 dX11_weather_9 (by decide) ?_
  obtain rfl := Option.some.inj hf
  exact g_iret hC hW dX11_weather_10
set_option maxRecDepth 100000 in
set_option maxHeartbeats 4000000 in
theorem t11_weather_0 (hC : Cx p s m args meth c cX11_weather 2 wsX11_weather RX11 (some .int)) : ∀ (x1 : Int32) (SX : Ob) (SH : Ob) (SB : Ob) (res : Int32 × Ob) (H : Heap) (locs : List Loc) (ls : Array Slot), f11_weather x1 SX SH SB = some res → GW D cy ad (w11 cy aX aT aR aH aJ aP aU aB aQ aK aL aE0 aE1 aE2 aE3 SX ++ (w4 cy aH SH ++ (w0 cy aB SB))) A s H locs → lv_has ls 2 [(0, .ref (aX 0)), (1, .int x1)] → W p l e rm11_weather s m args below meth c H locs 0 0 (MQ below (QI D cy (w11 cy aX aT aR aH aJ aP aU aB aQ aK aL aE0 aE1 aE2 aE3 SX ++ (w4 cy aH SH ++ (w0 cy aB (res.2)))) A (res.1)) args s 0 0 A) (F0 m 0 ls []) := by
  intro x1 SX SH SB res H locs ls hf hW hl
  unfold f11_weather at hf
  refine lv_iload_n hC.1 hC.2.1 dX11_weather_0 rfl (lv_at hl 1 rfl) ?_
  refine lv_if_lt (tgt := 9) hC.1 hC.2.1 dX11_weather_1 (by decide) (fun hc_1 => ?_) (fun hc_1 => ?_)
  · have hf := ite_t hf hc_1
    exact t11_weather_9 hC  _ _ _ _ _ _ _ hf hW (lv_sub hl [] rfl)
  · have hf := ite_f hf hc_1
    refine lv_iload_n hC.1 hC.2.1 dX11_weather_4 rfl (lv_at hl 1 rfl) ?_
    refine lv_iconst (v := 4) hC.1 hC.2.1 dX11_weather_5 (by decide) ?_
    refine lv_icmp_lt (tgt := 11) hC.1 hC.2.1 dX11_weather_6 (by decide) (fun hc_2 => ?_) (fun hc_2 => ?_)
    · have hf := ite_t hf hc_2
      refine lv_aload_n hC.1 hC.2.1 dX11_weather_11 rfl (lv_at hl 0 rfl) ?_
      refine lv_aload_n hC.1 hC.2.1 dX11_weather_12 rfl (lv_at hl 0 rfl) ?_
      refine g_get hC hW hin11_weather_11 0 rfl rfl 2 (by decide) 1 rfl rfl dX11_weather_13 ?_
      refine lv_bipush (v := 18) hC.1 hC.2.1 dX11_weather_16 (by decide) ?_
      refine lv_iload_n hC.1 hC.2.1 dX11_weather_18 rfl (lv_at hl 1 rfl) ?_
      refine lv_iadd hC.1 hC.2.1 dX11_weather_19 ?_
      obtain ⟨r_3, hg_4, hf⟩ := bd_of hf
      refine g_calliV (w' := w11 cy aX aT aR aH aJ aP aU aB aQ aK aL aE0 aE1 aE2 aE3 SX ++ (w4 cy aH SH ++ (w0 cy aB SB))) hC hW (c4_worldsBy l D cy ad aH hg_4) (cwV 1 hC.2.2.2.2.1 gX11_weather_X4_worldsBy rfl rfl rfl hdV4_worldsBy ⟨Nat.le_of_ble_eq_true rfl, Nat.le_of_ble_eq_true rfl⟩) (⟨[3, 4, 5, 6, 7, 8, 9, 10, 11, 12, 13, 14], [0, 1, 2, 15, 16, 17, 18, 19, 20], [0, 1, 2, 9, 10, 11, 12, 13, 14, 15, 16, 17, 18, 19, 20, 3, 4, 5, 6, 7, 8], w11 cy aX aT aR aH aJ aP aU aB aQ aK aL aE0 aE1 aE2 aE3 SX ++ (w0 cy aB SB), rfl, rfl, rfl, rfl, by decide, rfl, rfl⟩) 0 4 rfl rfl rfl rfl hl.1 rfl (Nat.le_of_ble_eq_true rfl) dX11_weather_20 ⟨Nat.zero_le _, Nat.zero_le _⟩ (fun H locs hW => ?_)
      obtain ⟨r_5, hg_6, hf⟩ := bd_of hf
      refine g_calliV (w' := w11 cy aX aT aR aH aJ aP aU aB aQ aK aL aE0 aE1 aE2 aE3 SX ++ (w4 cy aH SH ++ (w0 cy aB (r_5.2)))) hC hW (c11_leave l D cy ad aX aT aR aH aJ aP aU aB aQ aK aL _ _ _ _ hg_6) (cwV 1 hC.2.2.2.2.1 gX11_weather_X11_leave rfl rfl rfl hdV11_leave ⟨Nat.le_of_ble_eq_true rfl, Nat.le_of_ble_eq_true rfl⟩) (⟨[0, 1, 2, 15, 16, 17, 18, 19, 20], [3, 4, 5, 6, 7, 8, 9, 10, 11, 12, 13, 14], [12, 13, 14, 0, 1, 2, 3, 4, 5, 6, 7, 8, 9, 10, 11, 15, 16, 17, 18, 19, 20], w4 cy aH SH, rfl, rfl, rfl, rfl, by decide, rfl, rfl⟩) 0 10 rfl rfl rfl rfl hl.1 rfl (Nat.le_of_ble_eq_true rfl) dX11_weather_23 ⟨Nat.zero_le _, Nat.zero_le _⟩ (fun H locs hW => ?_)
      obtain rfl := Option.some.inj hf
      exact g_iret hC hW dX11_weather_26
    · have hf := ite_f hf hc_2
      exact t11_weather_9 hC  _ _ _ _ _ _ _ hf hW (lv_sub hl [] rfl)
set_option maxRecDepth 100000 in
set_option maxHeartbeats 4000000 in
theorem c11_weather (l : Launch) (D : va_G) (cy : Nat → ClassId) (ad : Nat → Nat) (aX : Nat → Nat) (aT : Nat → Nat) (aR : Nat → Nat) (aH : Nat → Nat) (aJ : Nat → Nat) (aP : Nat → Nat) (aU : Nat → Nat) (aB : Nat → Nat) (aQ : Nat → Nat) (aK : Nat → Nat) (aL : Nat → Nat) (aE0 : Nat → Nat) (aE1 : Nat → Nat) (aE2 : Nat → Nat) (aE3 : Nat → Nat) {x1 : Int32} {SX : Ob} {SH : Ob} {SB : Ob} {res : Int32 × Ob} (h : f11_weather x1 SX SH SB = some res) : GCi l yX11_weather wsX11_weather rm11_weather [.ref (aX 0), .int x1] D cy ad (w11 cy aX aT aR aH aJ aP aU aB aQ aK aL aE0 aE1 aE2 aE3 SX ++ (w4 cy aH SH ++ (w0 cy aB SB))) (w11 cy aX aT aR aH aJ aP aU aB aQ aK aL aE0 aE1 aE2 aE3 SX ++ (w4 cy aH SH ++ (w0 cy aB (res.2)))) (res.1) := fun sz => GC.start (own := RX11) (Qc := fun A => QI D cy (w11 cy aX aT aR aH aJ aP aU aB aQ aK aL aE0 aE1 aE2 aE3 SX ++ (w4 cy aH SH ++ (w0 cy aB (res.2)))) A (res.1)) sz (by decide) rfl rfl (Nat.le_of_ble_eq_true rfl) (fun p e s m below meth c A ls hC hW hl => t11_weather_0 hC _ _ _ _ _ _ _ _ h hW (lv_sub hl [0, 1] rfl))
abbrev rm11_night : Room := { frames := 2, cells := 0, slots := 0, locals := 44 }
theorem hdV11_night : yX11_night.cls = RX11 ∧ (yX11_night.cls ≠ "java/lang/invoke/MethodHandle" ∧ yX11_night.cls ≠ "java/lang/invoke/VarHandle" ∧ (parseMethodDescriptor yX11_night.desc).map (fun d => d.parameters.length) = some 0) := by decide +kernel
theorem hin11_night_11 : ∀ x ∈ u_ws RX11 TX11 12, x ∈ wsX11_night := fun _ h => List.mem_cons_of_mem _ (List.mem_append_left _ (List.mem_append_left _ (List.mem_append_right _ h)))
theorem hin11_night_4 : ∀ x ∈ u_ws RX4 TX4 13, x ∈ wsX11_night := fun _ h => List.mem_cons_of_mem _ (List.mem_append_left _ (List.mem_append_right _ h))
theorem hin11_night_0 : ∀ x ∈ u_ws RX0 TX0 9, x ∈ wsX11_night := fun _ h => List.mem_cons_of_mem _ (List.mem_append_right _ h)
set_option maxRecDepth 100000 in
set_option maxHeartbeats 4000000 in
theorem t11_night_22 (hC : Cx p s m args meth c cX11_night 2 wsX11_night RX11 (some .int)) : ∀ (SX : Ob) (SH : Ob) (SB : Ob) (res : Int32 × Ob) (H : Heap) (locs : List Loc) (ls : Array Slot), f11_night_22 SX SH SB = some res → GW D cy ad (w11 cy aX aT aR aH aJ aP aU aB aQ aK aL aE0 aE1 aE2 aE3 SX ++ (w4 cy aH SH ++ (w0 cy aB SB))) A s H locs → lv_has ls 2 [] → W p l e rm11_night s m args below meth c H locs 0 0 (MQ below (QI D cy (w11 cy aX aT aR aH aJ aP aU aB aQ aK aL aE0 aE1 aE2 aE3 SX ++ (w4 cy aH SH ++ (w0 cy aB (res.2)))) A (res.1)) args s 0 0 A) (F0 m 22 ls []) := by
  intro SX SH SB res H locs ls hf hW hl
  unfold f11_night_22 at hf
  refine lv_iconst (v := (-1)) hC.1 hC.2.1 dX11_night_22 (by decide) ?_
  obtain rfl := Option.some.inj hf
  exact g_iret hC hW dX11_night_23
set_option maxRecDepth 100000 in
set_option maxHeartbeats 4000000 in
theorem t11_night_0 (hC : Cx p s m args meth c cX11_night 2 wsX11_night RX11 (some .int)) : ∀ (SX : Ob) (SH : Ob) (SB : Ob) (res : Int32 × Ob) (H : Heap) (locs : List Loc) (ls : Array Slot), f11_night SX SH SB = some res → GW D cy ad (w11 cy aX aT aR aH aJ aP aU aB aQ aK aL aE0 aE1 aE2 aE3 SX ++ (w4 cy aH SH ++ (w0 cy aB SB))) A s H locs → lv_has ls 2 [(0, .ref (aX 0))] → W p l e rm11_night s m args below meth c H locs 0 0 (MQ below (QI D cy (w11 cy aX aT aR aH aJ aP aU aB aQ aK aL aE0 aE1 aE2 aE3 SX ++ (w4 cy aH SH ++ (w0 cy aB (res.2)))) A (res.1)) args s 0 0 A) (F0 m 0 ls []) := by
  intro SX SH SB res H locs ls hf hW hl
  unfold f11_night at hf
  refine lv_aload_n hC.1 hC.2.1 dX11_night_0 rfl (lv_at hl 0 rfl) ?_
  refine g_get hC hW hin11_night_11 0 rfl rfl 2 (by decide) 1 rfl rfl dX11_night_1 ?_
  refine g_get hC hW hin11_night_4 3 rfl rfl 0 (by decide) 2 rfl rfl dX11_night_4 ?_
  refine lv_if_eq (tgt := 22) hC.1 hC.2.1 dX11_night_7 (by decide) (fun hc_1 => ?_) (fun hc_1 => ?_)
  · have hf := ite_t hf hc_1
    exact t11_night_22 hC  _ _ _ _ _ _ _ hf hW (lv_sub hl [] rfl)
  · have hf := ite_f hf hc_1
    refine lv_aload_n hC.1 hC.2.1 dX11_night_10 rfl (lv_at hl 0 rfl) ?_
    refine g_get hC hW hin11_night_11 0 rfl rfl 6 (by decide) 3 rfl rfl dX11_night_11 ?_
    refine g_get hC hW hin11_night_0 15 rfl rfl 1 (by decide) 4 rfl rfl dX11_night_14 ?_
    refine lv_bipush (v := 10) hC.1 hC.2.1 dX11_night_17 (by decide) ?_
    refine lv_icmp_lt (tgt := 24) hC.1 hC.2.1 dX11_night_19 (by decide) (fun hc_2 => ?_) (fun hc_2 => ?_)
    · have hf := ite_t hf hc_2
      refine lv_aload_n hC.1 hC.2.1 dX11_night_24 rfl (lv_at hl 0 rfl) ?_
      refine g_get hC hW hin11_night_11 0 rfl rfl 2 (by decide) 1 rfl rfl dX11_night_25 ?_
      refine lv_aload_n hC.1 hC.2.1 dX11_night_28 rfl (lv_at hl 0 rfl) ?_
      refine g_get hC hW hin11_night_11 0 rfl rfl 6 (by decide) 3 rfl rfl dX11_night_29 ?_
      refine g_get hC hW hin11_night_0 15 rfl rfl 0 (by decide) 5 rfl rfl dX11_night_32 ?_
      obtain ⟨r_3, hg_4, hf⟩ := bd_of hf
      refine g_calliV (w' := w11 cy aX aT aR aH aJ aP aU aB aQ aK aL aE0 aE1 aE2 aE3 SX ++ (w4 cy aH SH ++ (w0 cy aB SB))) hC hW (c4_guestsIn l D cy ad aH hg_4) (cwV 1 hC.2.2.2.2.1 gX11_night_X4_guestsIn rfl rfl rfl hdV4_guestsIn ⟨Nat.le_of_ble_eq_true rfl, Nat.le_of_ble_eq_true rfl⟩) (⟨[3, 4, 5, 6, 7, 8, 9, 10, 11, 12, 13, 14], [0, 1, 2, 15, 16, 17, 18, 19, 20], [0, 1, 2, 9, 10, 11, 12, 13, 14, 15, 16, 17, 18, 19, 20, 3, 4, 5, 6, 7, 8], w11 cy aX aT aR aH aJ aP aU aB aQ aK aL aE0 aE1 aE2 aE3 SX ++ (w0 cy aB SB), rfl, rfl, rfl, rfl, by decide, rfl, rfl⟩) 0 4 rfl rfl rfl rfl hl.1 rfl (Nat.le_of_ble_eq_true rfl) dX11_night_35 ⟨Nat.zero_le _, Nat.zero_le _⟩ (fun H locs hW => ?_)
      refine lv_istore_n (lv' := [(1, .int r_3), (0, .ref (aX 0))]) hC.1 hC.2.1 dX11_night_38 rfl hl (by decide) rfl (fun ls hl => ?_)
      refine lv_aload_n hC.1 hC.2.1 dX11_night_39 rfl (lv_at hl 1 rfl) ?_
      refine g_get hC hW hin11_night_11 0 rfl rfl 6 (by decide) 3 rfl rfl dX11_night_40 ?_
      refine lv_iload_n hC.1 hC.2.1 dX11_night_43 rfl (lv_at hl 0 rfl) ?_
      refine lv_aload_n hC.1 hC.2.1 dX11_night_44 rfl (lv_at hl 1 rfl) ?_
      refine g_get hC hW hin11_night_11 0 rfl rfl 2 (by decide) 1 rfl rfl dX11_night_45 ?_
      obtain ⟨r_5, hg_6, hf⟩ := bd_of hf
      refine g_calliV (w' := w11 cy aX aT aR aH aJ aP aU aB aQ aK aL aE0 aE1 aE2 aE3 SX ++ (w4 cy aH SH ++ (w0 cy aB SB))) hC hW (c4_all l D cy ad aH hg_6) (cwV 0 hC.2.2.2.2.1 gX11_night_X4_all rfl rfl rfl hdV4_all ⟨Nat.le_of_ble_eq_true rfl, Nat.le_of_ble_eq_true rfl⟩) (⟨[3, 4, 5, 6, 7, 8, 9, 10, 11, 12, 13, 14], [0, 1, 2, 15, 16, 17, 18, 19, 20], [0, 1, 2, 9, 10, 11, 12, 13, 14, 15, 16, 17, 18, 19, 20, 3, 4, 5, 6, 7, 8], w11 cy aX aT aR aH aJ aP aU aB aQ aK aL aE0 aE1 aE2 aE3 SX ++ (w0 cy aB SB), rfl, rfl, rfl, rfl, by decide, rfl, rfl⟩) 0 4 rfl rfl rfl rfl hl.1 rfl (Nat.le_of_ble_eq_true rfl) dX11_night_48 ⟨Nat.zero_le _, Nat.zero_le _⟩ (fun H locs hW => ?_)
      obtain ⟨r_7, hg_8, hf⟩ := bd_of hf
      refine g_callvV (w' := w11 cy aX aT aR aH aJ aP aU aB aQ aK aL aE0 aE1 aE2 aE3 SX ++ (w4 cy aH SH ++ (w0 cy aB r_7))) hC hW (c0_endNight l D cy ad aB hg_8) (cwV 2 hC.2.2.2.2.1 gX11_night_X0_endNight rfl rfl rfl hdV0_endNight ⟨Nat.le_of_ble_eq_true rfl, Nat.le_of_ble_eq_true rfl⟩) (⟨[15, 16, 17, 18, 19, 20], [0, 1, 2, 3, 4, 5, 6, 7, 8, 9, 10, 11, 12, 13, 14], [0, 1, 2, 3, 4, 5, 6, 7, 8, 9, 10, 11, 12, 13, 14, 15, 16, 17, 18, 19, 20], w11 cy aX aT aR aH aJ aP aU aB aQ aK aL aE0 aE1 aE2 aE3 SX ++ (w4 cy aH SH), rfl, rfl, rfl, rfl, by decide, rfl, rfl⟩) 0 0 rfl rfl rfl rfl hl.1 rfl (Nat.le_of_ble_eq_true rfl) dX11_night_51 ⟨Nat.zero_le _, Nat.zero_le _⟩ (fun H locs hW => ?_)
      refine lv_iload_n hC.1 hC.2.1 dX11_night_54 rfl (lv_at hl 0 rfl) ?_
      obtain rfl := Option.some.inj hf
      exact g_iret hC hW dX11_night_55
    · have hf := ite_f hf hc_2
      exact t11_night_22 hC  _ _ _ _ _ _ _ hf hW (lv_sub hl [] rfl)
set_option maxRecDepth 100000 in
set_option maxHeartbeats 4000000 in
theorem c11_night (l : Launch) (D : va_G) (cy : Nat → ClassId) (ad : Nat → Nat) (aX : Nat → Nat) (aT : Nat → Nat) (aR : Nat → Nat) (aH : Nat → Nat) (aJ : Nat → Nat) (aP : Nat → Nat) (aU : Nat → Nat) (aB : Nat → Nat) (aQ : Nat → Nat) (aK : Nat → Nat) (aL : Nat → Nat) (aE0 : Nat → Nat) (aE1 : Nat → Nat) (aE2 : Nat → Nat) (aE3 : Nat → Nat) {SX : Ob} {SH : Ob} {SB : Ob} {res : Int32 × Ob} (h : f11_night SX SH SB = some res) : GCi l yX11_night wsX11_night rm11_night [.ref (aX 0)] D cy ad (w11 cy aX aT aR aH aJ aP aU aB aQ aK aL aE0 aE1 aE2 aE3 SX ++ (w4 cy aH SH ++ (w0 cy aB SB))) (w11 cy aX aT aR aH aJ aP aU aB aQ aK aL aE0 aE1 aE2 aE3 SX ++ (w4 cy aH SH ++ (w0 cy aB (res.2)))) (res.1) := fun sz => GC.start (own := RX11) (Qc := fun A => QI D cy (w11 cy aX aT aR aH aJ aP aU aB aQ aK aL aE0 aE1 aE2 aE3 SX ++ (w4 cy aH SH ++ (w0 cy aB (res.2)))) A (res.1)) sz (by decide) rfl rfl (Nat.le_of_ble_eq_true rfl) (fun p e s m below meth c A ls hC hW hl => t11_night_0 hC _ _ _ _ _ _ _ h hW (lv_sub hl [0] rfl))
abbrev rm11_undo : Room := { frames := 1, cells := 0, slots := 0, locals := 20 }
theorem hdV11_undo : yX11_undo.cls = RX11 ∧ (yX11_undo.cls ≠ "java/lang/invoke/MethodHandle" ∧ yX11_undo.cls ≠ "java/lang/invoke/VarHandle" ∧ (parseMethodDescriptor yX11_undo.desc).map (fun d => d.parameters.length) = some 0) := by decide +kernel
theorem hin11_undo_11 : ∀ x ∈ u_ws RX11 TX11 12, x ∈ wsX11_undo := fun _ h => List.mem_cons_of_mem _ (List.mem_append_left _ (List.mem_append_right _ h))
set_option maxRecDepth 100000 in
set_option maxHeartbeats 4000000 in
theorem t11_undo_0 (hC : Cx p s m args meth c cX11_undo 1 wsX11_undo RX11 (some .boolean)) : ∀ (SX : Ob) (SB : Ob) (res : Int32 × Ob) (H : Heap) (locs : List Loc) (ls : Array Slot), f11_undo SX SB = some res → GW D cy ad (w11 cy aX aT aR aH aJ aP aU aB aQ aK aL aE0 aE1 aE2 aE3 SX ++ (w0 cy aB SB)) A s H locs → lv_has ls 1 [(0, .ref (aX 0))] → W p l e rm11_undo s m args below meth c H locs 0 0 (MQ below (QI D cy (w11 cy aX aT aR aH aJ aP aU aB aQ aK aL aE0 aE1 aE2 aE3 SX ++ (w0 cy aB (res.2))) A (res.1)) args s 0 0 A) (F0 m 0 ls []) := by
  intro SX SB res H locs ls hf hW hl
  unfold f11_undo at hf
  refine lv_aload_n hC.1 hC.2.1 dX11_undo_0 rfl (lv_at hl 0 rfl) ?_
  refine g_get hC hW hin11_undo_11 0 rfl rfl 6 (by decide) 1 rfl rfl dX11_undo_1 ?_
  obtain ⟨r_1, hg_2, hf⟩ := bd_of hf
  refine g_calliV (w' := w11 cy aX aT aR aH aJ aP aU aB aQ aK aL aE0 aE1 aE2 aE3 SX ++ (w0 cy aB (r_1.2))) hC hW (c0_stepBack l D cy ad aB hg_2) (cwV 0 hC.2.2.2.2.1 gX11_undo_X0_stepBack rfl rfl rfl hdV0_stepBack ⟨Nat.le_of_ble_eq_true rfl, Nat.le_of_ble_eq_true rfl⟩) (⟨[3, 4, 5, 6, 7, 8], [0, 1, 2], [0, 1, 2, 3, 4, 5, 6, 7, 8], w11 cy aX aT aR aH aJ aP aU aB aQ aK aL aE0 aE1 aE2 aE3 SX, rfl, rfl, rfl, rfl, by decide, rfl, rfl⟩) 0 0 rfl rfl rfl rfl hl.1 rfl (Nat.le_of_ble_eq_true rfl) dX11_undo_4 ⟨Nat.zero_le _, Nat.zero_le _⟩ (fun H locs hW => ?_)
  obtain ⟨hz, hf⟩ := ck_of hf
  obtain rfl := Option.some.inj hf
  exact g_zret hC hW hz dX11_undo_7
set_option maxRecDepth 100000 in
set_option maxHeartbeats 4000000 in
theorem c11_undo (l : Launch) (D : va_G) (cy : Nat → ClassId) (ad : Nat → Nat) (aX : Nat → Nat) (aT : Nat → Nat) (aR : Nat → Nat) (aH : Nat → Nat) (aJ : Nat → Nat) (aP : Nat → Nat) (aU : Nat → Nat) (aB : Nat → Nat) (aQ : Nat → Nat) (aK : Nat → Nat) (aL : Nat → Nat) (aE0 : Nat → Nat) (aE1 : Nat → Nat) (aE2 : Nat → Nat) (aE3 : Nat → Nat) {SX : Ob} {SB : Ob} {res : Int32 × Ob} (h : f11_undo SX SB = some res) : GCi l yX11_undo wsX11_undo rm11_undo [.ref (aX 0)] D cy ad (w11 cy aX aT aR aH aJ aP aU aB aQ aK aL aE0 aE1 aE2 aE3 SX ++ (w0 cy aB SB)) (w11 cy aX aT aR aH aJ aP aU aB aQ aK aL aE0 aE1 aE2 aE3 SX ++ (w0 cy aB (res.2))) (res.1) := fun sz => GC.start (own := RX11) (Qc := fun A => QI D cy (w11 cy aX aT aR aH aJ aP aU aB aQ aK aL aE0 aE1 aE2 aE3 SX ++ (w0 cy aB (res.2))) A (res.1)) sz (by decide) rfl rfl (Nat.le_of_ble_eq_true rfl) (fun p e s m below meth c A ls hC hW hl => t11_undo_0 hC _ _ _ _ _ _ h hW (lv_sub hl [0] rfl))
abbrev rm11_onlyOne : Room := { frames := 1, cells := 0, slots := 0, locals := 21 }
theorem hdS11_onlyOne : (yX11_onlyOne.cls ≠ "java/lang/invoke/MethodHandle" ∧ yX11_onlyOne.cls ≠ "java/lang/invoke/VarHandle" ∧ (parseMethodDescriptor yX11_onlyOne.desc).map (fun d => d.parameters.length) = some 1) := by decide +kernel
set_option maxRecDepth 100000 in
set_option maxHeartbeats 4000000 in
theorem t11_onlyOne_16 (hC : Cx p s m args meth c cX11_onlyOne 1 wsX11_onlyOne RX11 (some .int)) : ∀ (z0 : Int32) (res : Int32) (H : Heap) (locs : List Loc) (ls : Array Slot), f11_onlyOne_16 z0 = some res → GW D cy ad (([] : va_W)) A s H locs → lv_has ls 1 [] → W p l e rm11_onlyOne s m args below meth c H locs 0 0 (MQ below (QI D cy (([] : va_W)) A res) args s 0 0 A) (F0 m 16 ls [.int z0]) := by
  intro z0 res H locs ls hf hW hl
  unfold f11_onlyOne_16 at hf
  obtain rfl := Option.some.inj hf
  exact g_iret hC hW dX11_onlyOne_16
set_option maxRecDepth 100000 in
set_option maxHeartbeats 4000000 in
theorem t11_onlyOne_0 (hC : Cx p s m args meth c cX11_onlyOne 1 wsX11_onlyOne RX11 (some .int)) : ∀ (x0 : Int32) (res : Int32) (H : Heap) (locs : List Loc) (ls : Array Slot), f11_onlyOne x0 = some res → GW D cy ad (([] : va_W)) A s H locs → lv_has ls 1 [(0, .int x0)] → W p l e rm11_onlyOne s m args below meth c H locs 0 0 (MQ below (QI D cy (([] : va_W)) A res) args s 0 0 A) (F0 m 0 ls []) := by
  intro x0 res H locs ls hf hW hl
  unfold f11_onlyOne at hf
  refine lv_iload_n hC.1 hC.2.1 dX11_onlyOne_0 rfl (lv_at hl 0 rfl) ?_
  obtain ⟨r_1, hg_2, hf⟩ := bd_of hf
  refine g_calliS (w' := ([] : va_W)) hC hW (cj6_bitCount l D cy ad  hg_2) (va_cwS 1 hC.2.2.2.2.1 gX11_onlyOne_J6_bitCount_0f7a4 rfl rfl rfl hdSj6_bitCount ⟨Nat.le_of_ble_eq_true rfl, Nat.le_of_ble_eq_true rfl⟩) (Sub.all _ _) rfl hl.1 rfl (Nat.le_of_ble_eq_true rfl) dX11_onlyOne_1 ⟨Nat.zero_le _, Nat.zero_le _⟩ (fun H locs hW => ?_)
  refine lv_iconst (v := 1) hC.1 hC.2.1 dX11_onlyOne_4 (by decide) ?_
  refine lv_icmp_ne (tgt := 15) hC.1 hC.2.1 dX11_onlyOne_5 (by decide) (fun hc_3 => ?_) (fun hc_3 => ?_)
  · have hf := ite_f hf hc_3
    refine lv_iconst (v := (-1)) hC.1 hC.2.1 dX11_onlyOne_15 (by decide) ?_
    exact t11_onlyOne_16 hC  _ _ _ _ _ hf hW (lv_sub hl [] rfl)
  · have hf := ite_t hf hc_3
    refine lv_iload_n hC.1 hC.2.1 dX11_onlyOne_8 rfl (lv_at hl 0 rfl) ?_
    obtain ⟨r_4, hg_5, hf⟩ := bd_of hf
    refine g_calliS (w' := ([] : va_W)) hC hW (cj6_numberOfTrailingZeros l D cy ad  hg_5) (va_cwS 1 hC.2.2.2.2.1 gX11_onlyOne_J6_numberOfTrailingZeros_0f7a4 rfl rfl rfl hdSj6_numberOfTrailingZeros ⟨Nat.le_of_ble_eq_true rfl, Nat.le_of_ble_eq_true rfl⟩) (Sub.all _ _) rfl hl.1 rfl (Nat.le_of_ble_eq_true rfl) dX11_onlyOne_9 ⟨Nat.zero_le _, Nat.zero_le _⟩ (fun H locs hW => ?_)
    refine lv_goto (tgt := 16) hC.1 hC.2.1 dX11_onlyOne_12 (by decide) ?_
    exact t11_onlyOne_16 hC  _ _ _ _ _ hf hW (lv_sub hl [] rfl)
set_option maxRecDepth 100000 in
set_option maxHeartbeats 4000000 in
theorem c11_onlyOne (l : Launch) (D : va_G) (cy : Nat → ClassId) (ad : Nat → Nat) {x0 : Int32} {res : Int32} (h : f11_onlyOne x0 = some res) : GCi l yX11_onlyOne wsX11_onlyOne rm11_onlyOne [.int x0] D cy ad (([] : va_W)) (([] : va_W)) res := fun sz => GC.start (own := RX11) (Qc := fun A => QI D cy (([] : va_W)) A res) sz (by decide) rfl rfl (Nat.le_of_ble_eq_true rfl) (fun p e s m below meth c A ls hC hW hl => t11_onlyOne_0 hC _ _ _ _ _ h hW (lv_sub hl [0] rfl))
abbrev rm11_judged : Room := { frames := 2, cells := 0, slots := 0, locals := 48 }
theorem hdV11_judged : yX11_judged.cls = RX11 ∧ (yX11_judged.cls ≠ "java/lang/invoke/MethodHandle" ∧ yX11_judged.cls ≠ "java/lang/invoke/VarHandle" ∧ (parseMethodDescriptor yX11_judged.desc).map (fun d => d.parameters.length) = some 1) := by decide +kernel
theorem hin11_judged_11 : ∀ x ∈ u_ws RX11 TX11 12, x ∈ wsX11_judged := fun _ h => List.mem_cons_of_mem _ (List.mem_append_left _ (List.mem_append_left _ (List.mem_append_right _ h)))
set_option maxRecDepth 100000 in
set_option maxHeartbeats 4000000 in
theorem t11_judged_0 (hC : Cx p s m args meth c cX11_judged 2 wsX11_judged RX11 (some .int)) : ∀ (x1 : Int32) (SX : Ob) (SH : Ob) (SP : Ob) (res : Int32) (H : Heap) (locs : List Loc) (ls : Array Slot), f11_judged x1 SX SH SP = some res → GW D cy ad (w11 cy aX aT aR aH aJ aP aU aB aQ aK aL aE0 aE1 aE2 aE3 SX ++ (w4 cy aH SH ++ (w7 cy aP SP))) A s H locs → lv_has ls 2 [(0, .ref (aX 0)), (1, .int x1)] → W p l e rm11_judged s m args below meth c H locs 0 0 (MQ below (QI D cy (w11 cy aX aT aR aH aJ aP aU aB aQ aK aL aE0 aE1 aE2 aE3 SX ++ (w4 cy aH SH ++ (w7 cy aP SP))) A res) args s 0 0 A) (F0 m 0 ls []) := by
  intro x1 SX SH SP res H locs ls hf hW hl
  unfold f11_judged at hf
  refine lv_iload_n hC.1 hC.2.1 dX11_judged_0 rfl (lv_at hl 1 rfl) ?_
  by_cases hc_1 : x1 = 0
  · have hf := ite_t hf hc_1
    refine lv_tableIn (tgt := 28) hC.1 hC.2.1 dX11_judged_1 (by rw [hc_1]; decide) (by rw [hc_1]; decide) (by rw [hc_1]; rfl) (by decide) ?_
    refine lv_aload_n hC.1 hC.2.1 dX11_judged_28 rfl (lv_at hl 0 rfl) ?_
    refine g_get hC hW hin11_judged_11 0 rfl rfl 4 (by decide) 1 rfl rfl dX11_judged_29 ?_
    refine lv_aload_n hC.1 hC.2.1 dX11_judged_32 rfl (lv_at hl 0 rfl) ?_
    refine g_get hC hW hin11_judged_11 0 rfl rfl 2 (by decide) 2 rfl rfl dX11_judged_33 ?_
    obtain ⟨r_2, hg_3, hf⟩ := bd_of hf
    refine g_calliV (w' := w11 cy aX aT aR aH aJ aP aU aB aQ aK aL aE0 aE1 aE2 aE3 SX ++ (w4 cy aH SH ++ (w7 cy aP SP))) hC hW (c4_all l D cy ad aH hg_3) (cwV 0 hC.2.2.2.2.1 gX11_judged_X4_all rfl rfl rfl hdV4_all ⟨Nat.le_of_ble_eq_true rfl, Nat.le_of_ble_eq_true rfl⟩) (⟨[3, 4, 5, 6, 7, 8, 9, 10, 11, 12, 13, 14], [0, 1, 2, 15, 16, 17], [0, 1, 2, 6, 7, 8, 9, 10, 11, 12, 13, 14, 15, 16, 17, 3, 4, 5], w11 cy aX aT aR aH aJ aP aU aB aQ aK aL aE0 aE1 aE2 aE3 SX ++ (w7 cy aP SP), rfl, rfl, rfl, rfl, by decide, rfl, rfl⟩) 0 4 rfl rfl rfl rfl hl.1 rfl (Nat.le_of_ble_eq_true rfl) dX11_judged_36 ⟨Nat.zero_le _, Nat.zero_le _⟩ (fun H locs hW => ?_)
    obtain ⟨r_4, hg_5, hf⟩ := bd_of hf
    refine g_calliV (w' := w11 cy aX aT aR aH aJ aP aU aB aQ aK aL aE0 aE1 aE2 aE3 SX ++ (w4 cy aH SH ++ (w7 cy aP SP))) hC hW (c7_firstThatCannotBe l D cy ad aP hg_5) (cwV 1 hC.2.2.2.2.1 gX11_judged_X7_firstThatCannotBe rfl rfl rfl hdV7_firstThatCannotBe ⟨Nat.le_of_ble_eq_true rfl, Nat.le_of_ble_eq_true rfl⟩) (⟨[15, 16, 17], [0, 1, 2, 3, 4, 5, 6, 7, 8, 9, 10, 11, 12, 13, 14], [0, 1, 2, 3, 4, 5, 6, 7, 8, 9, 10, 11, 12, 13, 14, 15, 16, 17], w11 cy aX aT aR aH aJ aP aU aB aQ aK aL aE0 aE1 aE2 aE3 SX ++ (w4 cy aH SH), rfl, rfl, rfl, rfl, by decide, rfl, rfl⟩) 0 6 rfl rfl rfl rfl hl.1 rfl (Nat.le_of_ble_eq_true rfl) dX11_judged_39 ⟨Nat.zero_le _, Nat.zero_le _⟩ (fun H locs hW => ?_)
    obtain rfl := Option.some.inj hf
    exact g_iret hC hW dX11_judged_42
  · have hf := ite_f hf hc_1
    by_cases hc_6 : x1 = 1
    · have hf := ite_t hf hc_6
      refine lv_tableIn (tgt := 43) hC.1 hC.2.1 dX11_judged_1 (by rw [hc_6]; decide) (by rw [hc_6]; decide) (by rw [hc_6]; rfl) (by decide) ?_
      refine lv_aload_n hC.1 hC.2.1 dX11_judged_43 rfl (lv_at hl 0 rfl) ?_
      refine g_get hC hW hin11_judged_11 0 rfl rfl 4 (by decide) 1 rfl rfl dX11_judged_44 ?_
      refine lv_aload_n hC.1 hC.2.1 dX11_judged_47 rfl (lv_at hl 0 rfl) ?_
      refine g_get hC hW hin11_judged_11 0 rfl rfl 2 (by decide) 2 rfl rfl dX11_judged_48 ?_
      obtain ⟨r_7, hg_8, hf⟩ := bd_of hf
      refine g_calliV (w' := w11 cy aX aT aR aH aJ aP aU aB aQ aK aL aE0 aE1 aE2 aE3 SX ++ (w4 cy aH SH ++ (w7 cy aP SP))) hC hW (c4_all l D cy ad aH hg_8) (cwV 0 hC.2.2.2.2.1 gX11_judged_X4_all rfl rfl rfl hdV4_all ⟨Nat.le_of_ble_eq_true rfl, Nat.le_of_ble_eq_true rfl⟩) (⟨[3, 4, 5, 6, 7, 8, 9, 10, 11, 12, 13, 14], [0, 1, 2, 15, 16, 17], [0, 1, 2, 6, 7, 8, 9, 10, 11, 12, 13, 14, 15, 16, 17, 3, 4, 5], w11 cy aX aT aR aH aJ aP aU aB aQ aK aL aE0 aE1 aE2 aE3 SX ++ (w7 cy aP SP), rfl, rfl, rfl, rfl, by decide, rfl, rfl⟩) 0 4 rfl rfl rfl rfl hl.1 rfl (Nat.le_of_ble_eq_true rfl) dX11_judged_51 ⟨Nat.zero_le _, Nat.zero_le _⟩ (fun H locs hW => ?_)
      refine lv_iconst (v := (-1)) hC.1 hC.2.1 dX11_judged_54 (by decide) ?_
      obtain ⟨r_9, hg_10, hf⟩ := bd_of hf
      refine g_calliV (w' := w11 cy aX aT aR aH aJ aP aU aB aQ aK aL aE0 aE1 aE2 aE3 SX ++ (w4 cy aH SH ++ (w7 cy aP SP))) hC hW (c7_leftAtLast l D cy ad aP hg_10) (cwV 2 hC.2.2.2.2.1 gX11_judged_X7_leftAtLast rfl rfl rfl hdV7_leftAtLast ⟨Nat.le_of_ble_eq_true rfl, Nat.le_of_ble_eq_true rfl⟩) (⟨[15, 16, 17], [0, 1, 2, 3, 4, 5, 6, 7, 8, 9, 10, 11, 12, 13, 14], [0, 1, 2, 3, 4, 5, 6, 7, 8, 9, 10, 11, 12, 13, 14, 15, 16, 17], w11 cy aX aT aR aH aJ aP aU aB aQ aK aL aE0 aE1 aE2 aE3 SX ++ (w4 cy aH SH), rfl, rfl, rfl, rfl, by decide, rfl, rfl⟩) 0 6 rfl rfl rfl rfl hl.1 rfl (Nat.le_of_ble_eq_true rfl) dX11_judged_55 ⟨Nat.zero_le _, Nat.zero_le _⟩ (fun H locs hW => ?_)
      obtain ⟨r_11, hg_12, hf⟩ := bd_of hf
      refine g_calliS (w' := w11 cy aX aT aR aH aJ aP aU aB aQ aK aL aE0 aE1 aE2 aE3 SX ++ (w4 cy aH SH ++ (w7 cy aP SP))) hC hW (cj6_bitCount l D cy ad  hg_12) (va_cwS 1 hC.2.2.2.2.1 gX11_judged_J6_bitCount_0f7a4 rfl rfl rfl hdSj6_bitCount ⟨Nat.le_of_ble_eq_true rfl, Nat.le_of_ble_eq_true rfl⟩) (Sub.nil _) rfl hl.1 rfl (Nat.le_of_ble_eq_true rfl) dX11_judged_58 ⟨Nat.zero_le _, Nat.zero_le _⟩ (fun H locs hW => ?_)
      obtain rfl := Option.some.inj hf
      exact g_iret hC hW dX11_judged_61
    · have hf := ite_f hf hc_6
      by_cases hc_13 : x1 = 2
      · have hf := ite_t hf hc_13
        refine lv_tableIn (tgt := 62) hC.1 hC.2.1 dX11_judged_1 (by rw [hc_13]; decide) (by rw [hc_13]; decide) (by rw [hc_13]; rfl) (by decide) ?_
        refine lv_aload_n hC.1 hC.2.1 dX11_judged_62 rfl (lv_at hl 0 rfl) ?_
        refine g_get hC hW hin11_judged_11 0 rfl rfl 2 (by decide) 2 rfl rfl dX11_judged_63 ?_
        refine lv_aload_n hC.1 hC.2.1 dX11_judged_66 rfl (lv_at hl 0 rfl) ?_
        refine g_get hC hW hin11_judged_11 0 rfl rfl 4 (by decide) 1 rfl rfl dX11_judged_67 ?_
        refine lv_aload_n hC.1 hC.2.1 dX11_judged_70 rfl (lv_at hl 0 rfl) ?_
        refine g_get hC hW hin11_judged_11 0 rfl rfl 2 (by decide) 2 rfl rfl dX11_judged_71 ?_
        obtain ⟨r_14, hg_15, hf⟩ := bd_of hf
        refine g_calliV (w' := w11 cy aX aT aR aH aJ aP aU aB aQ aK aL aE0 aE1 aE2 aE3 SX ++ (w4 cy aH SH ++ (w7 cy aP SP))) hC hW (c4_all l D cy ad aH hg_15) (cwV 0 hC.2.2.2.2.1 gX11_judged_X4_all rfl rfl rfl hdV4_all ⟨Nat.le_of_ble_eq_true rfl, Nat.le_of_ble_eq_true rfl⟩) (⟨[3, 4, 5, 6, 7, 8, 9, 10, 11, 12, 13, 14], [0, 1, 2, 15, 16, 17], [0, 1, 2, 6, 7, 8, 9, 10, 11, 12, 13, 14, 15, 16, 17, 3, 4, 5], w11 cy aX aT aR aH aJ aP aU aB aQ aK aL aE0 aE1 aE2 aE3 SX ++ (w7 cy aP SP), rfl, rfl, rfl, rfl, by decide, rfl, rfl⟩) 0 4 rfl rfl rfl rfl hl.1 rfl (Nat.le_of_ble_eq_true rfl) dX11_judged_74 ⟨Nat.zero_le _, Nat.zero_le _⟩ (fun H locs hW => ?_)
        refine lv_iconst (v := (-1)) hC.1 hC.2.1 dX11_judged_77 (by decide) ?_
        obtain ⟨r_16, hg_17, hf⟩ := bd_of hf
        refine g_calliV (w' := w11 cy aX aT aR aH aJ aP aU aB aQ aK aL aE0 aE1 aE2 aE3 SX ++ (w4 cy aH SH ++ (w7 cy aP SP))) hC hW (c7_leftAtLast l D cy ad aP hg_17) (cwV 2 hC.2.2.2.2.1 gX11_judged_X7_leftAtLast rfl rfl rfl hdV7_leftAtLast ⟨Nat.le_of_ble_eq_true rfl, Nat.le_of_ble_eq_true rfl⟩) (⟨[15, 16, 17], [0, 1, 2, 3, 4, 5, 6, 7, 8, 9, 10, 11, 12, 13, 14], [0, 1, 2, 3, 4, 5, 6, 7, 8, 9, 10, 11, 12, 13, 14, 15, 16, 17], w11 cy aX aT aR aH aJ aP aU aB aQ aK aL aE0 aE1 aE2 aE3 SX ++ (w4 cy aH SH), rfl, rfl, rfl, rfl, by decide, rfl, rfl⟩) 0 6 rfl rfl rfl rfl hl.1 rfl (Nat.le_of_ble_eq_true rfl) dX11_judged_78 ⟨Nat.zero_le _, Nat.zero_le _⟩ (fun H locs hW => ?_)
        obtain ⟨r_18, hg_19, hf⟩ := bd_of hf
        refine g_calliV (w' := w11 cy aX aT aR aH aJ aP aU aB aQ aK aL aE0 aE1 aE2 aE3 SX ++ (w4 cy aH SH ++ (w7 cy aP SP))) hC hW (c4_guestsIn l D cy ad aH hg_19) (cwV 1 hC.2.2.2.2.1 gX11_judged_X4_guestsIn rfl rfl rfl hdV4_guestsIn ⟨Nat.le_of_ble_eq_true rfl, Nat.le_of_ble_eq_true rfl⟩) (⟨[3, 4, 5, 6, 7, 8, 9, 10, 11, 12, 13, 14], [0, 1, 2, 15, 16, 17], [0, 1, 2, 6, 7, 8, 9, 10, 11, 12, 13, 14, 15, 16, 17, 3, 4, 5], w11 cy aX aT aR aH aJ aP aU aB aQ aK aL aE0 aE1 aE2 aE3 SX ++ (w7 cy aP SP), rfl, rfl, rfl, rfl, by decide, rfl, rfl⟩) 0 4 rfl rfl rfl rfl hl.1 rfl (Nat.le_of_ble_eq_true rfl) dX11_judged_81 ⟨Nat.zero_le _, Nat.zero_le _⟩ (fun H locs hW => ?_)
        obtain ⟨r_20, hg_21, hf⟩ := bd_of hf
        refine g_calliS (w' := w11 cy aX aT aR aH aJ aP aU aB aQ aK aL aE0 aE1 aE2 aE3 SX ++ (w4 cy aH SH ++ (w7 cy aP SP))) hC hW (c11_onlyOne l D cy ad  hg_21) (va_cwS 1 hC.2.2.2.2.1 gX11_judged_X11_onlyOne rfl rfl rfl hdS11_onlyOne ⟨Nat.le_of_ble_eq_true rfl, Nat.le_of_ble_eq_true rfl⟩) (Sub.nil _) rfl hl.1 rfl (Nat.le_of_ble_eq_true rfl) dX11_judged_84 ⟨Nat.zero_le _, Nat.zero_le _⟩ (fun H locs hW => ?_)
        obtain rfl := Option.some.inj hf
        exact g_iret hC hW dX11_judged_87
      · have hf := ite_f hf hc_13
        refine lv_tableOut (tgt := 88) hC.1 hC.2.1 dX11_judged_1 (tab_out [0, 1, 2] (List.forall_mem_cons.mpr ⟨hc_1, (List.forall_mem_cons.mpr ⟨hc_6, (List.forall_mem_cons.mpr ⟨hc_13, (fun _ h => by cases h)⟩)⟩)⟩) (by decide)) (by decide) ?_
        refine lv_bipush (v := (-2)) hC.1 hC.2.1 dX11_judged_88 (by decide) ?_
        obtain rfl := Option.some.inj hf
        exact g_iret hC hW dX11_judged_90
set_option maxRecDepth 100000 in
set_option maxHeartbeats 4000000 in
theorem c11_judged (l : Launch) (D : va_G) (cy : Nat → ClassId) (ad : Nat → Nat) (aX : Nat → Nat) (aT : Nat → Nat) (aR : Nat → Nat) (aH : Nat → Nat) (aJ : Nat → Nat) (aP : Nat → Nat) (aU : Nat → Nat) (aB : Nat → Nat) (aQ : Nat → Nat) (aK : Nat → Nat) (aL : Nat → Nat) (aE0 : Nat → Nat) (aE1 : Nat → Nat) (aE2 : Nat → Nat) (aE3 : Nat → Nat) {x1 : Int32} {SX : Ob} {SH : Ob} {SP : Ob} {res : Int32} (h : f11_judged x1 SX SH SP = some res) : GCi l yX11_judged wsX11_judged rm11_judged [.ref (aX 0), .int x1] D cy ad (w11 cy aX aT aR aH aJ aP aU aB aQ aK aL aE0 aE1 aE2 aE3 SX ++ (w4 cy aH SH ++ (w7 cy aP SP))) (w11 cy aX aT aR aH aJ aP aU aB aQ aK aL aE0 aE1 aE2 aE3 SX ++ (w4 cy aH SH ++ (w7 cy aP SP))) res := fun sz => GC.start (own := RX11) (Qc := fun A => QI D cy (w11 cy aX aT aR aH aJ aP aU aB aQ aK aL aE0 aE1 aE2 aE3 SX ++ (w4 cy aH SH ++ (w7 cy aP SP))) A res) sz (by decide) rfl rfl (Nat.le_of_ble_eq_true rfl) (fun p e s m below meth c A ls hC hW hl => t11_judged_0 hC _ _ _ _ _ _ _ _ h hW (lv_sub hl [0, 1] rfl))
abbrev rm11_spare : Room := { frames := 3, cells := 0, slots := 0, locals := 72 }
theorem hdV11_spare : yX11_spare.cls = RX11 ∧ (yX11_spare.cls ≠ "java/lang/invoke/MethodHandle" ∧ yX11_spare.cls ≠ "java/lang/invoke/VarHandle" ∧ (parseMethodDescriptor yX11_spare.desc).map (fun d => d.parameters.length) = some 0) := by decide +kernel
theorem hin11_spare_11 : ∀ x ∈ u_ws RX11 TX11 12, x ∈ wsX11_spare := fun _ h => List.mem_cons_of_mem _ (List.mem_append_left _ (List.mem_append_left _ (List.mem_append_right _ h)))
set_option maxRecDepth 100000 in
set_option maxHeartbeats 4000000 in
theorem t11_spare_0 (hC : Cx p s m args meth c cX11_spare 1 wsX11_spare RX11 (some .int)) : ∀ (SX : Ob) (SH : Ob) (SP : Ob) (res : Int32) (H : Heap) (locs : List Loc) (ls : Array Slot), f11_spare SX SH SP = some res → GW D cy ad (w11 cy aX aT aR aH aJ aP aU aB aQ aK aL aE0 aE1 aE2 aE3 SX ++ (w4 cy aH SH ++ (w7 cy aP SP))) A s H locs → lv_has ls 1 [(0, .ref (aX 0))] → W p l e rm11_spare s m args below meth c H locs 0 0 (MQ below (QI D cy (w11 cy aX aT aR aH aJ aP aU aB aQ aK aL aE0 aE1 aE2 aE3 SX ++ (w4 cy aH SH ++ (w7 cy aP SP))) A res) args s 0 0 A) (F0 m 0 ls []) := by
  intro SX SH SP res H locs ls hf hW hl
  unfold f11_spare at hf
  refine lv_aload_n hC.1 hC.2.1 dX11_spare_0 rfl (lv_at hl 0 rfl) ?_
  refine g_get hC hW hin11_spare_11 0 rfl rfl 4 (by decide) 1 rfl rfl dX11_spare_1 ?_
  refine lv_aload_n hC.1 hC.2.1 dX11_spare_4 rfl (lv_at hl 0 rfl) ?_
  refine g_get hC hW hin11_spare_11 0 rfl rfl 2 (by decide) 2 rfl rfl dX11_spare_5 ?_
  obtain ⟨r_1, hg_2, hf⟩ := bd_of hf
  refine g_calliV (w' := w11 cy aX aT aR aH aJ aP aU aB aQ aK aL aE0 aE1 aE2 aE3 SX ++ (w4 cy aH SH ++ (w7 cy aP SP))) hC hW (c4_all l D cy ad aH hg_2) (cwV 0 hC.2.2.2.2.1 gX11_spare_X4_all rfl rfl rfl hdV4_all ⟨Nat.le_of_ble_eq_true rfl, Nat.le_of_ble_eq_true rfl⟩) (⟨[3, 4, 5, 6, 7, 8, 9, 10, 11, 12, 13, 14], [0, 1, 2, 15, 16, 17], [0, 1, 2, 6, 7, 8, 9, 10, 11, 12, 13, 14, 15, 16, 17, 3, 4, 5], w11 cy aX aT aR aH aJ aP aU aB aQ aK aL aE0 aE1 aE2 aE3 SX ++ (w7 cy aP SP), rfl, rfl, rfl, rfl, by decide, rfl, rfl⟩) 0 4 rfl rfl rfl rfl hl.1 rfl (Nat.le_of_ble_eq_true rfl) dX11_spare_8 ⟨Nat.zero_le _, Nat.zero_le _⟩ (fun H locs hW => ?_)
  obtain ⟨r_3, hg_4, hf⟩ := bd_of hf
  refine g_calliV (w' := w11 cy aX aT aR aH aJ aP aU aB aQ aK aL aE0 aE1 aE2 aE3 SX ++ (w4 cy aH SH ++ (w7 cy aP SP))) hC hW (c7_needless l D cy ad aP hg_4) (cwV 1 hC.2.2.2.2.1 gX11_spare_X7_needless rfl rfl rfl hdV7_needless ⟨Nat.le_of_ble_eq_true rfl, Nat.le_of_ble_eq_true rfl⟩) (⟨[15, 16, 17], [0, 1, 2, 3, 4, 5, 6, 7, 8, 9, 10, 11, 12, 13, 14], [0, 1, 2, 3, 4, 5, 6, 7, 8, 9, 10, 11, 12, 13, 14, 15, 16, 17], w11 cy aX aT aR aH aJ aP aU aB aQ aK aL aE0 aE1 aE2 aE3 SX ++ (w4 cy aH SH), rfl, rfl, rfl, rfl, by decide, rfl, rfl⟩) 0 6 rfl rfl rfl rfl hl.1 rfl (Nat.le_of_ble_eq_true rfl) dX11_spare_11 ⟨Nat.zero_le _, Nat.zero_le _⟩ (fun H locs hW => ?_)
  obtain rfl := Option.some.inj hf
  exact g_iret hC hW dX11_spare_14
set_option maxRecDepth 100000 in
set_option maxHeartbeats 4000000 in
theorem c11_spare (l : Launch) (D : va_G) (cy : Nat → ClassId) (ad : Nat → Nat) (aX : Nat → Nat) (aT : Nat → Nat) (aR : Nat → Nat) (aH : Nat → Nat) (aJ : Nat → Nat) (aP : Nat → Nat) (aU : Nat → Nat) (aB : Nat → Nat) (aQ : Nat → Nat) (aK : Nat → Nat) (aL : Nat → Nat) (aE0 : Nat → Nat) (aE1 : Nat → Nat) (aE2 : Nat → Nat) (aE3 : Nat → Nat) {SX : Ob} {SH : Ob} {SP : Ob} {res : Int32} (h : f11_spare SX SH SP = some res) : GCi l yX11_spare wsX11_spare rm11_spare [.ref (aX 0)] D cy ad (w11 cy aX aT aR aH aJ aP aU aB aQ aK aL aE0 aE1 aE2 aE3 SX ++ (w4 cy aH SH ++ (w7 cy aP SP))) (w11 cy aX aT aR aH aJ aP aU aB aQ aK aL aE0 aE1 aE2 aE3 SX ++ (w4 cy aH SH ++ (w7 cy aP SP))) res := fun sz => GC.start (own := RX11) (Qc := fun A => QI D cy (w11 cy aX aT aR aH aJ aP aU aB aQ aK aL aE0 aE1 aE2 aE3 SX ++ (w4 cy aH SH ++ (w7 cy aP SP))) A res) sz (by decide) rfl rfl (Nat.le_of_ble_eq_true rfl) (fun p e s m below meth c A ls hC hW hl => t11_spare_0 hC _ _ _ _ _ _ _ h hW (lv_sub hl [0] rfl))
abbrev rm11_who : Room := { frames := 2, cells := 0, slots := 0, locals := 44 }
theorem hdV11_who : yX11_who.cls = RX11 ∧ (yX11_who.cls ≠ "java/lang/invoke/MethodHandle" ∧ yX11_who.cls ≠ "java/lang/invoke/VarHandle" ∧ (parseMethodDescriptor yX11_who.desc).map (fun d => d.parameters.length) = some 0) := by decide +kernel
theorem hin11_who_11 : ∀ x ∈ u_ws RX11 TX11 12, x ∈ wsX11_who := fun _ h => List.mem_cons_of_mem _ (List.mem_append_left _ (List.mem_append_left _ (List.mem_append_right _ h)))
theorem hin11_who_0 : ∀ x ∈ u_ws RX0 TX0 9, x ∈ wsX11_who := fun _ h => List.mem_cons_of_mem _ (List.mem_append_left _ (List.mem_append_right _ h))
set_option maxRecDepth 100000 in
set_option maxHeartbeats 4000000 in
theorem t11_who_0 (hC : Cx p s m args meth c cX11_who 1 wsX11_who RX11 (some .int)) : ∀ (SX : Ob) (SH : Ob) (SB : Ob) (res : Int32) (H : Heap) (locs : List Loc) (ls : Array Slot), f11_who SX SH SB = some res → GW D cy ad (w11 cy aX aT aR aH aJ aP aU aB aQ aK aL aE0 aE1 aE2 aE3 SX ++ (w4 cy aH SH ++ (w0 cy aB SB))) A s H locs → lv_has ls 1 [(0, .ref (aX 0))] → W p l e rm11_who s m args below meth c H locs 0 0 (MQ below (QI D cy (w11 cy aX aT aR aH aJ aP aU aB aQ aK aL aE0 aE1 aE2 aE3 SX ++ (w4 cy aH SH ++ (w0 cy aB SB))) A res) args s 0 0 A) (F0 m 0 ls []) := by
  intro SX SH SB res H locs ls hf hW hl
  unfold f11_who at hf
  refine lv_aload_n hC.1 hC.2.1 dX11_who_0 rfl (lv_at hl 0 rfl) ?_
  refine g_get hC hW hin11_who_11 0 rfl rfl 2 (by decide) 1 rfl rfl dX11_who_1 ?_
  refine lv_aload_n hC.1 hC.2.1 dX11_who_4 rfl (lv_at hl 0 rfl) ?_
  refine g_get hC hW hin11_who_11 0 rfl rfl 6 (by decide) 2 rfl rfl dX11_who_5 ?_
  refine g_get hC hW hin11_who_0 15 rfl rfl 0 (by decide) 3 rfl rfl dX11_who_8 ?_
  obtain ⟨r_1, hg_2, hf⟩ := bd_of hf
  refine g_calliV (w' := w11 cy aX aT aR aH aJ aP aU aB aQ aK aL aE0 aE1 aE2 aE3 SX ++ (w4 cy aH SH ++ (w0 cy aB SB))) hC hW (c4_guestsIn l D cy ad aH hg_2) (cwV 1 hC.2.2.2.2.1 gX11_who_X4_guestsIn rfl rfl rfl hdV4_guestsIn ⟨Nat.le_of_ble_eq_true rfl, Nat.le_of_ble_eq_true rfl⟩) (⟨[3, 4, 5, 6, 7, 8, 9, 10, 11, 12, 13, 14], [0, 1, 2, 15, 16, 17, 18, 19, 20], [0, 1, 2, 9, 10, 11, 12, 13, 14, 15, 16, 17, 18, 19, 20, 3, 4, 5, 6, 7, 8], w11 cy aX aT aR aH aJ aP aU aB aQ aK aL aE0 aE1 aE2 aE3 SX ++ (w0 cy aB SB), rfl, rfl, rfl, rfl, by decide, rfl, rfl⟩) 0 4 rfl rfl rfl rfl hl.1 rfl (Nat.le_of_ble_eq_true rfl) dX11_who_11 ⟨Nat.zero_le _, Nat.zero_le _⟩ (fun H locs hW => ?_)
  obtain rfl := Option.some.inj hf
  exact g_iret hC hW dX11_who_14
set_option maxRecDepth 100000 in
set_option maxHeartbeats 4000000 in
theorem c11_who (l : Launch) (D : va_G) (cy : Nat → ClassId) (ad : Nat → Nat) (aX : Nat → Nat) (aT : Nat → Nat) (aR : Nat → Nat) (aH : Nat → Nat) (aJ : Nat → Nat) (aP : Nat → Nat) (aU : Nat → Nat) (aB : Nat → Nat) (aQ : Nat → Nat) (aK : Nat → Nat) (aL : Nat → Nat) (aE0 : Nat → Nat) (aE1 : Nat → Nat) (aE2 : Nat → Nat) (aE3 : Nat → Nat) {SX : Ob} {SH : Ob} {SB : Ob} {res : Int32} (h : f11_who SX SH SB = some res) : GCi l yX11_who wsX11_who rm11_who [.ref (aX 0)] D cy ad (w11 cy aX aT aR aH aJ aP aU aB aQ aK aL aE0 aE1 aE2 aE3 SX ++ (w4 cy aH SH ++ (w0 cy aB SB))) (w11 cy aX aT aR aH aJ aP aU aB aQ aK aL aE0 aE1 aE2 aE3 SX ++ (w4 cy aH SH ++ (w0 cy aB SB))) res := fun sz => GC.start (own := RX11) (Qc := fun A => QI D cy (w11 cy aX aT aR aH aJ aP aU aB aQ aK aL aE0 aE1 aE2 aE3 SX ++ (w4 cy aH SH ++ (w0 cy aB SB))) A res) sz (by decide) rfl rfl (Nat.le_of_ble_eq_true rfl) (fun p e s m below meth c A ls hC hW hl => t11_who_0 hC _ _ _ _ _ _ _ h hW (lv_sub hl [0] rfl))
abbrev rm11_ask : Room := { frames := 3, cells := 0, slots := 0, locals := 73 }
theorem hdV11_ask : yX11_ask.cls = RX11 ∧ (yX11_ask.cls ≠ "java/lang/invoke/MethodHandle" ∧ yX11_ask.cls ≠ "java/lang/invoke/VarHandle" ∧ (parseMethodDescriptor yX11_ask.desc).map (fun d => d.parameters.length) = some 0) := by decide +kernel
theorem hin11_ask_11 : ∀ x ∈ u_ws RX11 TX11 12, x ∈ wsX11_ask := fun _ h => List.mem_cons_of_mem _ (List.mem_append_left _ (List.mem_append_left _ (List.mem_append_right _ h)))
theorem hin11_ask_0 : ∀ x ∈ u_ws RX0 TX0 9, x ∈ wsX11_ask := fun _ h => List.mem_cons_of_mem _ (List.mem_append_left _ (List.mem_append_right _ h))
set_option maxRecDepth 100000 in
set_option maxHeartbeats 4000000 in
theorem t11_ask_0 (hC : Cx p s m args meth c cX11_ask 1 wsX11_ask RX11 (some .int)) : ∀ (SX : Ob) (SH : Ob) (SB : Ob) (res : Int32) (H : Heap) (locs : List Loc) (ls : Array Slot), f11_ask SX SH SB = some res → GW D cy ad (w11 cy aX aT aR aH aJ aP aU aB aQ aK aL aE0 aE1 aE2 aE3 SX ++ (w4 cy aH SH ++ (w0 cy aB SB))) A s H locs → lv_has ls 1 [(0, .ref (aX 0))] → W p l e rm11_ask s m args below meth c H locs 0 0 (MQ below (QI D cy (w11 cy aX aT aR aH aJ aP aU aB aQ aK aL aE0 aE1 aE2 aE3 SX ++ (w4 cy aH SH ++ (w0 cy aB SB))) A res) args s 0 0 A) (F0 m 0 ls []) := by
  intro SX SH SB res H locs ls hf hW hl
  unfold f11_ask at hf
  refine lv_aload_n hC.1 hC.2.1 dX11_ask_0 rfl (lv_at hl 0 rfl) ?_
  refine g_get hC hW hin11_ask_11 0 rfl rfl 2 (by decide) 1 rfl rfl dX11_ask_1 ?_
  refine lv_aload_n hC.1 hC.2.1 dX11_ask_4 rfl (lv_at hl 0 rfl) ?_
  refine g_get hC hW hin11_ask_11 0 rfl rfl 6 (by decide) 2 rfl rfl dX11_ask_5 ?_
  refine g_get hC hW hin11_ask_0 15 rfl rfl 0 (by decide) 3 rfl rfl dX11_ask_8 ?_
  obtain ⟨r_1, hg_2, hf⟩ := bd_of hf
  refine g_calliS (w' := w11 cy aX aT aR aH aJ aP aU aB aQ aK aL aE0 aE1 aE2 aE3 SX ++ (w4 cy aH SH ++ (w0 cy aB SB))) hC hW (c8_best l D cy ad aH hg_2) (va_cwS 2 hC.2.2.2.2.1 gX11_ask_X8_best rfl rfl rfl hdS8_best ⟨Nat.le_of_ble_eq_true rfl, Nat.le_of_ble_eq_true rfl⟩) (⟨[3, 4, 5, 6, 7, 8, 9, 10, 11, 12, 13, 14], [0, 1, 2, 15, 16, 17, 18, 19, 20], [0, 1, 2, 9, 10, 11, 12, 13, 14, 15, 16, 17, 18, 19, 20, 3, 4, 5, 6, 7, 8], w11 cy aX aT aR aH aJ aP aU aB aQ aK aL aE0 aE1 aE2 aE3 SX ++ (w0 cy aB SB), rfl, rfl, rfl, rfl, by decide, rfl, rfl⟩) rfl hl.1 rfl (Nat.le_of_ble_eq_true rfl) dX11_ask_11 ⟨Nat.zero_le _, Nat.zero_le _⟩ (fun H locs hW => ?_)
  obtain rfl := Option.some.inj hf
  exact g_iret hC hW dX11_ask_14
set_option maxRecDepth 100000 in
set_option maxHeartbeats 4000000 in
theorem c11_ask (l : Launch) (D : va_G) (cy : Nat → ClassId) (ad : Nat → Nat) (aX : Nat → Nat) (aT : Nat → Nat) (aR : Nat → Nat) (aH : Nat → Nat) (aJ : Nat → Nat) (aP : Nat → Nat) (aU : Nat → Nat) (aB : Nat → Nat) (aQ : Nat → Nat) (aK : Nat → Nat) (aL : Nat → Nat) (aE0 : Nat → Nat) (aE1 : Nat → Nat) (aE2 : Nat → Nat) (aE3 : Nat → Nat) {SX : Ob} {SH : Ob} {SB : Ob} {res : Int32} (h : f11_ask SX SH SB = some res) : GCi l yX11_ask wsX11_ask rm11_ask [.ref (aX 0)] D cy ad (w11 cy aX aT aR aH aJ aP aU aB aQ aK aL aE0 aE1 aE2 aE3 SX ++ (w4 cy aH SH ++ (w0 cy aB SB))) (w11 cy aX aT aR aH aJ aP aU aB aQ aK aL aE0 aE1 aE2 aE3 SX ++ (w4 cy aH SH ++ (w0 cy aB SB))) res := fun sz => GC.start (own := RX11) (Qc := fun A => QI D cy (w11 cy aX aT aR aH aJ aP aU aB aQ aK aL aE0 aE1 aE2 aE3 SX ++ (w4 cy aH SH ++ (w0 cy aB SB))) A res) sz (by decide) rfl rfl (Nat.le_of_ble_eq_true rfl) (fun p e s m below meth c A ls hC hW hl => t11_ask_0 hC _ _ _ _ _ _ _ h hW (lv_sub hl [0] rfl))
abbrev rm11_fewest : Room := { frames := 4, cells := 0, slots := 0, locals := 97 }
theorem hdV11_fewest : yX11_fewest.cls = RX11 ∧ (yX11_fewest.cls ≠ "java/lang/invoke/MethodHandle" ∧ yX11_fewest.cls ≠ "java/lang/invoke/VarHandle" ∧ (parseMethodDescriptor yX11_fewest.desc).map (fun d => d.parameters.length) = some 0) := by decide +kernel
theorem hin11_fewest_11 : ∀ x ∈ u_ws RX11 TX11 12, x ∈ wsX11_fewest := fun _ h => List.mem_cons_of_mem _ (List.mem_append_left _ (List.mem_append_left _ (List.mem_append_left _ (List.mem_append_right _ h))))
theorem hin11_fewest_0 : ∀ x ∈ u_ws RX0 TX0 9, x ∈ wsX11_fewest := fun _ h => List.mem_cons_of_mem _ (List.mem_append_left _ (List.mem_append_left _ (List.mem_append_right _ h)))
set_option maxRecDepth 100000 in
set_option maxHeartbeats 4000000 in
theorem t11_fewest_0 (hC : Cx p s m args meth c cX11_fewest 1 wsX11_fewest RX11 (some .int)) : ∀ (SX : Ob) (SQ : Ob) (SH : Ob) (SB : Ob) (res : Int32 × Ob) (H : Heap) (locs : List Loc) (ls : Array Slot), f11_fewest SX SQ SH SB = some res → GW D cy ad (w11 cy aX aT aR aH aJ aP aU aB aQ aK aL aE0 aE1 aE2 aE3 SX ++ (w8 cy aQ SQ ++ (w4 cy aH SH ++ (w0 cy aB SB)))) A s H locs → lv_has ls 1 [(0, .ref (aX 0))] → W p l e rm11_fewest s m args below meth c H locs 0 0 (MQ below (QI D cy (w11 cy aX aT aR aH aJ aP aU aB aQ aK aL aE0 aE1 aE2 aE3 SX ++ (w8 cy aQ (res.2) ++ (w4 cy aH SH ++ (w0 cy aB SB)))) A (res.1)) args s 0 0 A) (F0 m 0 ls []) := by
  intro SX SQ SH SB res H locs ls hf hW hl
  unfold f11_fewest at hf
  refine lv_aload_n hC.1 hC.2.1 dX11_fewest_0 rfl (lv_at hl 0 rfl) ?_
  refine g_get hC hW hin11_fewest_11 0 rfl rfl 9 (by decide) 1 rfl rfl dX11_fewest_1 ?_
  refine lv_aload_n hC.1 hC.2.1 dX11_fewest_4 rfl (lv_at hl 0 rfl) ?_
  refine g_get hC hW hin11_fewest_11 0 rfl rfl 2 (by decide) 2 rfl rfl dX11_fewest_5 ?_
  refine lv_aload_n hC.1 hC.2.1 dX11_fewest_8 rfl (lv_at hl 0 rfl) ?_
  refine g_get hC hW hin11_fewest_11 0 rfl rfl 6 (by decide) 3 rfl rfl dX11_fewest_9 ?_
  refine g_get hC hW hin11_fewest_0 18 rfl rfl 0 (by decide) 4 rfl rfl dX11_fewest_12 ?_
  obtain ⟨r_1, hg_2, hf⟩ := bd_of hf
  refine g_calliV (w' := w11 cy aX aT aR aH aJ aP aU aB aQ aK aL aE0 aE1 aE2 aE3 SX ++ (w8 cy aQ (r_1.2) ++ (w4 cy aH SH ++ (w0 cy aB SB)))) hC hW (c8_deepest l D cy ad aQ aH hg_2) (cwV 2 hC.2.2.2.2.1 gX11_fewest_X8_deepest rfl rfl rfl hdV8_deepest ⟨Nat.le_of_ble_eq_true rfl, Nat.le_of_ble_eq_true rfl⟩) (⟨[3, 4, 5, 6, 7, 8, 9, 10, 11, 12, 13, 14, 15, 16, 17], [0, 1, 2, 18, 19, 20, 21, 22, 23], [0, 1, 2, 9, 10, 11, 12, 13, 14, 15, 16, 17, 18, 19, 20, 21, 22, 23, 3, 4, 5, 6, 7, 8], w11 cy aX aT aR aH aJ aP aU aB aQ aK aL aE0 aE1 aE2 aE3 SX ++ (w0 cy aB SB), rfl, rfl, rfl, rfl, by decide, rfl, rfl⟩) 0 7 rfl rfl rfl rfl hl.1 rfl (Nat.le_of_ble_eq_true rfl) dX11_fewest_15 ⟨Nat.zero_le _, Nat.zero_le _⟩ (fun H locs hW => ?_)
  obtain rfl := Option.some.inj hf
  exact g_iret hC hW dX11_fewest_18
set_option maxRecDepth 100000 in
set_option maxHeartbeats 4000000 in
theorem c11_fewest (l : Launch) (D : va_G) (cy : Nat → ClassId) (ad : Nat → Nat) (aX : Nat → Nat) (aT : Nat → Nat) (aR : Nat → Nat) (aH : Nat → Nat) (aJ : Nat → Nat) (aP : Nat → Nat) (aU : Nat → Nat) (aB : Nat → Nat) (aQ : Nat → Nat) (aK : Nat → Nat) (aL : Nat → Nat) (aE0 : Nat → Nat) (aE1 : Nat → Nat) (aE2 : Nat → Nat) (aE3 : Nat → Nat) {SX : Ob} {SQ : Ob} {SH : Ob} {SB : Ob} {res : Int32 × Ob} (h : f11_fewest SX SQ SH SB = some res) : GCi l yX11_fewest wsX11_fewest rm11_fewest [.ref (aX 0)] D cy ad (w11 cy aX aT aR aH aJ aP aU aB aQ aK aL aE0 aE1 aE2 aE3 SX ++ (w8 cy aQ SQ ++ (w4 cy aH SH ++ (w0 cy aB SB)))) (w11 cy aX aT aR aH aJ aP aU aB aQ aK aL aE0 aE1 aE2 aE3 SX ++ (w8 cy aQ (res.2) ++ (w4 cy aH SH ++ (w0 cy aB SB)))) (res.1) := fun sz => GC.start (own := RX11) (Qc := fun A => QI D cy (w11 cy aX aT aR aH aJ aP aU aB aQ aK aL aE0 aE1 aE2 aE3 SX ++ (w8 cy aQ (res.2) ++ (w4 cy aH SH ++ (w0 cy aB SB)))) A (res.1)) sz (by decide) rfl rfl (Nat.le_of_ble_eq_true rfl) (fun p e s m below meth c A ls hC hW hl => t11_fewest_0 hC _ _ _ _ _ _ _ _ h hW (lv_sub hl [0] rfl))
abbrev rm11_tell : Room := { frames := 3, cells := 0, slots := 0, locals := 80 }
theorem hdV11_tell : yX11_tell.cls = RX11 ∧ (yX11_tell.cls ≠ "java/lang/invoke/MethodHandle" ∧ yX11_tell.cls ≠ "java/lang/invoke/VarHandle" ∧ (parseMethodDescriptor yX11_tell.desc).map (fun d => d.parameters.length) = some 0) := by decide +kernel
theorem hin11_tell_11 : ∀ x ∈ u_ws RX11 TX11 12, x ∈ wsX11_tell := fun _ h => List.mem_cons_of_mem _ (List.mem_append_left _ (List.mem_append_left _ (List.mem_append_right _ h)))
theorem hin11_tell_0 : ∀ x ∈ u_ws RX0 TX0 9, x ∈ wsX11_tell := fun _ h => List.mem_cons_of_mem _ (List.mem_append_left _ (List.mem_append_right _ h))
set_option maxRecDepth 100000 in
set_option maxHeartbeats 4000000 in
theorem t11_tell_0 (hC : Cx p s m args meth c cX11_tell 1 wsX11_tell RX11 (some .int)) : ∀ (SX : Ob) (SH : Ob) (SB : Ob) (res : Int32) (H : Heap) (locs : List Loc) (ls : Array Slot), f11_tell SX SH SB = some res → GW D cy ad (w11 cy aX aT aR aH aJ aP aU aB aQ aK aL aE0 aE1 aE2 aE3 SX ++ (w4 cy aH SH ++ (w0 cy aB SB))) A s H locs → lv_has ls 1 [(0, .ref (aX 0))] → W p l e rm11_tell s m args below meth c H locs 0 0 (MQ below (QI D cy (w11 cy aX aT aR aH aJ aP aU aB aQ aK aL aE0 aE1 aE2 aE3 SX ++ (w4 cy aH SH ++ (w0 cy aB SB))) A res) args s 0 0 A) (F0 m 0 ls []) := by
  intro SX SH SB res H locs ls hf hW hl
  unfold f11_tell at hf
  refine lv_aload_n hC.1 hC.2.1 dX11_tell_0 rfl (lv_at hl 0 rfl) ?_
  refine g_get hC hW hin11_tell_11 0 rfl rfl 2 (by decide) 1 rfl rfl dX11_tell_1 ?_
  refine lv_aload_n hC.1 hC.2.1 dX11_tell_4 rfl (lv_at hl 0 rfl) ?_
  refine g_get hC hW hin11_tell_11 0 rfl rfl 6 (by decide) 2 rfl rfl dX11_tell_5 ?_
  refine g_get hC hW hin11_tell_0 15 rfl rfl 0 (by decide) 3 rfl rfl dX11_tell_8 ?_
  obtain ⟨r_1, hg_2, hf⟩ := bd_of hf
  refine g_calliS (w' := w11 cy aX aT aR aH aJ aP aU aB aQ aK aL aE0 aE1 aE2 aE3 SX ++ (w4 cy aH SH ++ (w0 cy aB SB))) hC hW (c6_tellingSigns l D cy ad aH hg_2) (va_cwS 2 hC.2.2.2.2.1 gX11_tell_X6_tellingSigns rfl rfl rfl hdS6_tellingSigns ⟨Nat.le_of_ble_eq_true rfl, Nat.le_of_ble_eq_true rfl⟩) (⟨[3, 4, 5, 6, 7, 8, 9, 10, 11, 12, 13, 14], [0, 1, 2, 15, 16, 17, 18, 19, 20], [0, 1, 2, 9, 10, 11, 12, 13, 14, 15, 16, 17, 18, 19, 20, 3, 4, 5, 6, 7, 8], w11 cy aX aT aR aH aJ aP aU aB aQ aK aL aE0 aE1 aE2 aE3 SX ++ (w0 cy aB SB), rfl, rfl, rfl, rfl, by decide, rfl, rfl⟩) rfl hl.1 rfl (Nat.le_of_ble_eq_true rfl) dX11_tell_11 ⟨Nat.zero_le _, Nat.zero_le _⟩ (fun H locs hW => ?_)
  obtain rfl := Option.some.inj hf
  exact g_iret hC hW dX11_tell_14
set_option maxRecDepth 100000 in
set_option maxHeartbeats 4000000 in
theorem c11_tell (l : Launch) (D : va_G) (cy : Nat → ClassId) (ad : Nat → Nat) (aX : Nat → Nat) (aT : Nat → Nat) (aR : Nat → Nat) (aH : Nat → Nat) (aJ : Nat → Nat) (aP : Nat → Nat) (aU : Nat → Nat) (aB : Nat → Nat) (aQ : Nat → Nat) (aK : Nat → Nat) (aL : Nat → Nat) (aE0 : Nat → Nat) (aE1 : Nat → Nat) (aE2 : Nat → Nat) (aE3 : Nat → Nat) {SX : Ob} {SH : Ob} {SB : Ob} {res : Int32} (h : f11_tell SX SH SB = some res) : GCi l yX11_tell wsX11_tell rm11_tell [.ref (aX 0)] D cy ad (w11 cy aX aT aR aH aJ aP aU aB aQ aK aL aE0 aE1 aE2 aE3 SX ++ (w4 cy aH SH ++ (w0 cy aB SB))) (w11 cy aX aT aR aH aJ aP aU aB aQ aK aL aE0 aE1 aE2 aE3 SX ++ (w4 cy aH SH ++ (w0 cy aB SB))) res := fun sz => GC.start (own := RX11) (Qc := fun A => QI D cy (w11 cy aX aT aR aH aJ aP aU aB aQ aK aL aE0 aE1 aE2 aE3 SX ++ (w4 cy aH SH ++ (w0 cy aB SB))) A res) sz (by decide) rfl rfl (Nat.le_of_ble_eq_true rfl) (fun p e s m below meth c A ls hC hW hl => t11_tell_0 hC _ _ _ _ _ _ _ h hW (lv_sub hl [0] rfl))
abbrev rm11_isLeft : Room := { frames := 1, cells := 0, slots := 0, locals := 21 }
theorem hdV11_isLeft : yX11_isLeft.cls = RX11 ∧ (yX11_isLeft.cls ≠ "java/lang/invoke/MethodHandle" ∧ yX11_isLeft.cls ≠ "java/lang/invoke/VarHandle" ∧ (parseMethodDescriptor yX11_isLeft.desc).map (fun d => d.parameters.length) = some 1) := by decide +kernel
theorem hin11_isLeft_11 : ∀ x ∈ u_ws RX11 TX11 12, x ∈ wsX11_isLeft := fun _ h => List.mem_cons_of_mem _ (List.mem_append_left _ (List.mem_append_left _ (List.mem_append_right _ h)))
theorem hin11_isLeft_0 : ∀ x ∈ u_ws RX0 TX0 9, x ∈ wsX11_isLeft := fun _ h => List.mem_cons_of_mem _ (List.mem_append_left _ (List.mem_append_right _ h))
set_option maxRecDepth 100000 in
set_option maxHeartbeats 4000000 in
theorem t11_isLeft_31 (hC : Cx p s m args meth c cX11_isLeft 2 wsX11_isLeft RX11 (some .boolean)) : ∀ (z0 : Int32) (SX : Ob) (SH : Ob) (SB : Ob) (res : Int32) (H : Heap) (locs : List Loc) (ls : Array Slot), f11_isLeft_31 z0 SX SH SB = some res → GW D cy ad (w11 cy aX aT aR aH aJ aP aU aB aQ aK aL aE0 aE1 aE2 aE3 SX ++ (w4 cy aH SH ++ (w0 cy aB SB))) A s H locs → lv_has ls 2 [] → W p l e rm11_isLeft s m args below meth c H locs 0 0 (MQ below (QI D cy (w11 cy aX aT aR aH aJ aP aU aB aQ aK aL aE0 aE1 aE2 aE3 SX ++ (w4 cy aH SH ++ (w0 cy aB SB))) A res) args s 0 0 A) (F0 m 31 ls [.int z0]) := by
  intro z0 SX SH SB res H locs ls hf hW hl
  unfold f11_isLeft_31 at hf
  obtain ⟨hz, hf⟩ := ck_of hf
  obtain rfl := Option.some.inj hf
  exact g_zret hC hW hz dX11_isLeft_31
set_option maxRecDepth 100000 in
set_option maxHeartbeats 4000000 in
theorem t11_isLeft_30 (hC : Cx p s m args meth c cX11_isLeft 2 wsX11_isLeft RX11 (some .boolean)) : ∀ (SX : Ob) (SH : Ob) (SB : Ob) (res : Int32) (H : Heap) (locs : List Loc) (ls : Array Slot), f11_isLeft_30 SX SH SB = some res → GW D cy ad (w11 cy aX aT aR aH aJ aP aU aB aQ aK aL aE0 aE1 aE2 aE3 SX ++ (w4 cy aH SH ++ (w0 cy aB SB))) A s H locs → lv_has ls 2 [] → W p l e rm11_isLeft s m args below meth c H locs 0 0 (MQ below (QI D cy (w11 cy aX aT aR aH aJ aP aU aB aQ aK aL aE0 aE1 aE2 aE3 SX ++ (w4 cy aH SH ++ (w0 cy aB SB))) A res) args s 0 0 A) (F0 m 30 ls []) := by
  intro SX SH SB res H locs ls hf hW hl
  unfold f11_isLeft_30 at hf
  refine lv_iconst (v := 0) hC.1 hC.2.1 dX11_isLeft_30 (by decide) ?_
  exact t11_isLeft_31 hC  _ _ _ _ _ _ _ _ hf hW (lv_sub hl [] rfl)
set_option maxRecDepth 100000 in
set_option maxHeartbeats 4000000 in
theorem t11_isLeft_0 (hC : Cx p s m args meth c cX11_isLeft 2 wsX11_isLeft RX11 (some .boolean)) : ∀ (x1 : Int32) (SX : Ob) (SH : Ob) (SB : Ob) (res : Int32) (H : Heap) (locs : List Loc) (ls : Array Slot), f11_isLeft x1 SX SH SB = some res → GW D cy ad (w11 cy aX aT aR aH aJ aP aU aB aQ aK aL aE0 aE1 aE2 aE3 SX ++ (w4 cy aH SH ++ (w0 cy aB SB))) A s H locs → lv_has ls 2 [(0, .ref (aX 0)), (1, .int x1)] → W p l e rm11_isLeft s m args below meth c H locs 0 0 (MQ below (QI D cy (w11 cy aX aT aR aH aJ aP aU aB aQ aK aL aE0 aE1 aE2 aE3 SX ++ (w4 cy aH SH ++ (w0 cy aB SB))) A res) args s 0 0 A) (F0 m 0 ls []) := by
  intro x1 SX SH SB res H locs ls hf hW hl
  unfold f11_isLeft at hf
  refine lv_aload_n hC.1 hC.2.1 dX11_isLeft_0 rfl (lv_at hl 0 rfl) ?_
  refine g_get hC hW hin11_isLeft_11 0 rfl rfl 2 (by decide) 1 rfl rfl dX11_isLeft_1 ?_
  refine lv_iload_n hC.1 hC.2.1 dX11_isLeft_4 rfl (lv_at hl 1 rfl) ?_
  obtain ⟨r_1, hg_2, hf⟩ := bd_of hf
  refine g_calliV (w' := w11 cy aX aT aR aH aJ aP aU aB aQ aK aL aE0 aE1 aE2 aE3 SX ++ (w4 cy aH SH ++ (w0 cy aB SB))) hC hW (c4_hasWorld l D cy ad aH hg_2) (cwV 1 hC.2.2.2.2.1 gX11_isLeft_X4_hasWorld rfl rfl rfl hdV4_hasWorld ⟨Nat.le_of_ble_eq_true rfl, Nat.le_of_ble_eq_true rfl⟩) (⟨[3, 4, 5, 6, 7, 8, 9, 10, 11, 12, 13, 14], [0, 1, 2, 15, 16, 17, 18, 19, 20], [0, 1, 2, 9, 10, 11, 12, 13, 14, 15, 16, 17, 18, 19, 20, 3, 4, 5, 6, 7, 8], w11 cy aX aT aR aH aJ aP aU aB aQ aK aL aE0 aE1 aE2 aE3 SX ++ (w0 cy aB SB), rfl, rfl, rfl, rfl, by decide, rfl, rfl⟩) 0 4 rfl rfl rfl rfl hl.1 rfl (Nat.le_of_ble_eq_true rfl) dX11_isLeft_5 ⟨Nat.zero_le _, Nat.zero_le _⟩ (fun H locs hW => ?_)
  refine lv_if_eq (tgt := 30) hC.1 hC.2.1 dX11_isLeft_8 (by decide) (fun hc_3 => ?_) (fun hc_3 => ?_)
  · have hf := ite_t hf hc_3
    exact t11_isLeft_30 hC  _ _ _ _ _ _ _ hf hW (lv_sub hl [] rfl)
  · have hf := ite_f hf hc_3
    refine lv_aload_n hC.1 hC.2.1 dX11_isLeft_11 rfl (lv_at hl 0 rfl) ?_
    refine g_get hC hW hin11_isLeft_11 0 rfl rfl 6 (by decide) 2 rfl rfl dX11_isLeft_12 ?_
    refine g_get hC hW hin11_isLeft_0 15 rfl rfl 0 (by decide) 3 rfl rfl dX11_isLeft_15 ?_
    refine lv_iload_n hC.1 hC.2.1 dX11_isLeft_18 rfl (lv_at hl 1 rfl) ?_
    refine lv_iushr (v := ush (SB.1 0) x1) hC.1 hC.2.1 dX11_isLeft_19 rfl ?_
    refine lv_iconst (v := 1) hC.1 hC.2.1 dX11_isLeft_20 (by decide) ?_
    refine lv_iand hC.1 hC.2.1 dX11_isLeft_21 ?_
    refine lv_iconst (v := 1) hC.1 hC.2.1 dX11_isLeft_22 (by decide) ?_
    refine lv_icmp_ne (tgt := 30) hC.1 hC.2.1 dX11_isLeft_23 (by decide) (fun hc_4 => ?_) (fun hc_4 => ?_)
    · have hf := ite_f hf hc_4
      exact t11_isLeft_30 hC  _ _ _ _ _ _ _ hf hW (lv_sub hl [] rfl)
    · have hf := ite_t hf hc_4
      refine lv_iconst (v := 1) hC.1 hC.2.1 dX11_isLeft_26 (by decide) ?_
      refine lv_goto (tgt := 31) hC.1 hC.2.1 dX11_isLeft_27 (by decide) ?_
      exact t11_isLeft_31 hC  _ _ _ _ _ _ _ _ hf hW (lv_sub hl [] rfl)
set_option maxRecDepth 100000 in
set_option maxHeartbeats 4000000 in
theorem c11_isLeft (l : Launch) (D : va_G) (cy : Nat → ClassId) (ad : Nat → Nat) (aX : Nat → Nat) (aT : Nat → Nat) (aR : Nat → Nat) (aH : Nat → Nat) (aJ : Nat → Nat) (aP : Nat → Nat) (aU : Nat → Nat) (aB : Nat → Nat) (aQ : Nat → Nat) (aK : Nat → Nat) (aL : Nat → Nat) (aE0 : Nat → Nat) (aE1 : Nat → Nat) (aE2 : Nat → Nat) (aE3 : Nat → Nat) {x1 : Int32} {SX : Ob} {SH : Ob} {SB : Ob} {res : Int32} (h : f11_isLeft x1 SX SH SB = some res) : GCi l yX11_isLeft wsX11_isLeft rm11_isLeft [.ref (aX 0), .int x1] D cy ad (w11 cy aX aT aR aH aJ aP aU aB aQ aK aL aE0 aE1 aE2 aE3 SX ++ (w4 cy aH SH ++ (w0 cy aB SB))) (w11 cy aX aT aR aH aJ aP aU aB aQ aK aL aE0 aE1 aE2 aE3 SX ++ (w4 cy aH SH ++ (w0 cy aB SB))) res := fun sz => GC.start (own := RX11) (Qc := fun A => QI D cy (w11 cy aX aT aR aH aJ aP aU aB aQ aK aL aE0 aE1 aE2 aE3 SX ++ (w4 cy aH SH ++ (w0 cy aB SB))) A res) sz (by decide) rfl rfl (Nat.le_of_ble_eq_true rfl) (fun p e s m below meth c A ls hC hW hl => t11_isLeft_0 hC _ _ _ _ _ _ _ _ h hW (lv_sub hl [0, 1] rfl))
abbrev rm11_knows : Room := { frames := 2, cells := 0, slots := 0, locals := 49 }
theorem hdV11_knows : yX11_knows.cls = RX11 ∧ (yX11_knows.cls ≠ "java/lang/invoke/MethodHandle" ∧ yX11_knows.cls ≠ "java/lang/invoke/VarHandle" ∧ (parseMethodDescriptor yX11_knows.desc).map (fun d => d.parameters.length) = some 2) := by decide +kernel
theorem hin11_knows_11 : ∀ x ∈ u_ws RX11 TX11 12, x ∈ wsX11_knows := fun _ h => List.mem_cons_of_mem _ (List.mem_append_left _ (List.mem_append_left _ (List.mem_append_right _ h)))
theorem hin11_knows_0 : ∀ x ∈ u_ws RX0 TX0 9, x ∈ wsX11_knows := fun _ h => List.mem_cons_of_mem _ (List.mem_append_left _ (List.mem_append_right _ h))
set_option maxRecDepth 100000 in
set_option maxHeartbeats 4000000 in
theorem t11_knows_19 (hC : Cx p s m args meth c cX11_knows 3 wsX11_knows RX11 (some .int)) : ∀ (SX : Ob) (SH : Ob) (SB : Ob) (res : Int32) (H : Heap) (locs : List Loc) (ls : Array Slot), f11_knows_19 SX SH SB = some res → GW D cy ad (w11 cy aX aT aR aH aJ aP aU aB aQ aK aL aE0 aE1 aE2 aE3 SX ++ (w4 cy aH SH ++ (w0 cy aB SB))) A s H locs → lv_has ls 3 [] → W p l e rm11_knows s m args below meth c H locs 0 0 (MQ below (QI D cy (w11 cy aX aT aR aH aJ aP aU aB aQ aK aL aE0 aE1 aE2 aE3 SX ++ (w4 cy aH SH ++ (w0 cy aB SB))) A res) args s 0 0 A) (F0 m 19 ls []) := by
  intro SX SH SB res H locs ls hf hW hl
  unfold f11_knows_19 at hf
  refine lv_iconst (v := (-1)) hC.1 hC.2.1 dX11_knows_19 (by decide) ?_
  obtain rfl := Option.some.inj hf
  exact g_iret hC hW dX11_knows_20
set_option maxRecDepth 100000 in
set_option maxHeartbeats 4000000 in
theorem t11_knows_0 (hC : Cx p s m args meth c cX11_knows 3 wsX11_knows RX11 (some .int)) : ∀ (x1 : Int32) (x2 : Int32) (SX : Ob) (SH : Ob) (SB : Ob) (res : Int32) (H : Heap) (locs : List Loc) (ls : Array Slot), f11_knows x1 x2 SX SH SB = some res → GW D cy ad (w11 cy aX aT aR aH aJ aP aU aB aQ aK aL aE0 aE1 aE2 aE3 SX ++ (w4 cy aH SH ++ (w0 cy aB SB))) A s H locs → lv_has ls 3 [(0, .ref (aX 0)), (1, .int x1), (2, .int x2)] → W p l e rm11_knows s m args below meth c H locs 0 0 (MQ below (QI D cy (w11 cy aX aT aR aH aJ aP aU aB aQ aK aL aE0 aE1 aE2 aE3 SX ++ (w4 cy aH SH ++ (w0 cy aB SB))) A res) args s 0 0 A) (F0 m 0 ls []) := by
  intro x1 x2 SX SH SB res H locs ls hf hW hl
  unfold f11_knows at hf
  refine lv_aload_n hC.1 hC.2.1 dX11_knows_0 rfl (lv_at hl 0 rfl) ?_
  refine g_get hC hW hin11_knows_11 0 rfl rfl 2 (by decide) 1 rfl rfl dX11_knows_1 ?_
  refine lv_iload_n hC.1 hC.2.1 dX11_knows_4 rfl (lv_at hl 1 rfl) ?_
  obtain ⟨r_1, hg_2, hf⟩ := bd_of hf
  refine g_calliV (w' := w11 cy aX aT aR aH aJ aP aU aB aQ aK aL aE0 aE1 aE2 aE3 SX ++ (w4 cy aH SH ++ (w0 cy aB SB))) hC hW (c4_hasGuest l D cy ad aH hg_2) (cwV 1 hC.2.2.2.2.1 gX11_knows_X4_hasGuest rfl rfl rfl hdV4_hasGuest ⟨Nat.le_of_ble_eq_true rfl, Nat.le_of_ble_eq_true rfl⟩) (⟨[3, 4, 5, 6, 7, 8, 9, 10, 11, 12, 13, 14], [0, 1, 2, 15, 16, 17, 18, 19, 20], [0, 1, 2, 9, 10, 11, 12, 13, 14, 15, 16, 17, 18, 19, 20, 3, 4, 5, 6, 7, 8], w11 cy aX aT aR aH aJ aP aU aB aQ aK aL aE0 aE1 aE2 aE3 SX ++ (w0 cy aB SB), rfl, rfl, rfl, rfl, by decide, rfl, rfl⟩) 0 4 rfl rfl rfl rfl hl.1 rfl (Nat.le_of_ble_eq_true rfl) dX11_knows_5 ⟨Nat.zero_le _, Nat.zero_le _⟩ (fun H locs hW => ?_)
  refine lv_if_eq (tgt := 19) hC.1 hC.2.1 dX11_knows_8 (by decide) (fun hc_3 => ?_) (fun hc_3 => ?_)
  · have hf := ite_t hf hc_3
    exact t11_knows_19 hC  _ _ _ _ _ _ _ hf hW (lv_sub hl [] rfl)
  · have hf := ite_f hf hc_3
    refine lv_aload_n hC.1 hC.2.1 dX11_knows_11 rfl (lv_at hl 0 rfl) ?_
    refine lv_iload_n hC.1 hC.2.1 dX11_knows_12 rfl (lv_at hl 2 rfl) ?_
    obtain ⟨r_4, hg_5, hf⟩ := bd_of hf
    refine g_calliV (w' := w11 cy aX aT aR aH aJ aP aU aB aQ aK aL aE0 aE1 aE2 aE3 SX ++ (w4 cy aH SH ++ (w0 cy aB SB))) hC hW (c11_isLeft l D cy ad aX aT aR aH aJ aP aU aB aQ aK aL _ _ _ _ hg_5) (cwV 1 hC.2.2.2.2.1 gX11_knows_X11_isLeft rfl rfl rfl hdV11_isLeft ⟨Nat.le_of_ble_eq_true rfl, Nat.le_of_ble_eq_true rfl⟩) (Sub.all _ _) 0 10 rfl rfl rfl rfl hl.1 rfl (Nat.le_of_ble_eq_true rfl) dX11_knows_13 ⟨Nat.zero_le _, Nat.zero_le _⟩ (fun H locs hW => ?_)
    refine lv_if_ne (tgt := 21) hC.1 hC.2.1 dX11_knows_16 (by decide) (fun hc_6 => ?_) (fun hc_6 => ?_)
    · have hf := ite_f hf hc_6
      refine lv_aload_n hC.1 hC.2.1 dX11_knows_21 rfl (lv_at hl 0 rfl) ?_
      refine g_get hC hW hin11_knows_11 0 rfl rfl 2 (by decide) 1 rfl rfl dX11_knows_22 ?_
      refine lv_aload_n hC.1 hC.2.1 dX11_knows_25 rfl (lv_at hl 0 rfl) ?_
      refine g_get hC hW hin11_knows_11 0 rfl rfl 2 (by decide) 1 rfl rfl dX11_knows_26 ?_
      refine lv_iload_n hC.1 hC.2.1 dX11_knows_29 rfl (lv_at hl 1 rfl) ?_
      refine lv_iload_n hC.1 hC.2.1 dX11_knows_30 rfl (lv_at hl 2 rfl) ?_
      refine lv_aload_n hC.1 hC.2.1 dX11_knows_31 rfl (lv_at hl 0 rfl) ?_
      refine g_get hC hW hin11_knows_11 0 rfl rfl 6 (by decide) 2 rfl rfl dX11_knows_32 ?_
      refine g_get hC hW hin11_knows_0 15 rfl rfl 0 (by decide) 3 rfl rfl dX11_knows_35 ?_
      obtain ⟨r_7, hg_8, hf⟩ := bd_of hf
      refine g_calliS (w' := w11 cy aX aT aR aH aJ aP aU aB aQ aK aL aE0 aE1 aE2 aE3 SX ++ (w4 cy aH SH ++ (w0 cy aB SB))) hC hW (c6_view l D cy ad aH hg_8) (va_cwS 4 hC.2.2.2.2.1 gX11_knows_X6_view rfl rfl rfl hdS6_view ⟨Nat.le_of_ble_eq_true rfl, Nat.le_of_ble_eq_true rfl⟩) (⟨[3, 4, 5, 6, 7, 8, 9, 10, 11, 12, 13, 14], [0, 1, 2, 15, 16, 17, 18, 19, 20], [0, 1, 2, 9, 10, 11, 12, 13, 14, 15, 16, 17, 18, 19, 20, 3, 4, 5, 6, 7, 8], w11 cy aX aT aR aH aJ aP aU aB aQ aK aL aE0 aE1 aE2 aE3 SX ++ (w0 cy aB SB), rfl, rfl, rfl, rfl, by decide, rfl, rfl⟩) rfl hl.1 rfl (Nat.le_of_ble_eq_true rfl) dX11_knows_38 ⟨Nat.zero_le _, Nat.zero_le _⟩ (fun H locs hW => ?_)
      obtain ⟨r_9, hg_10, hf⟩ := bd_of hf
      refine g_calliV (w' := w11 cy aX aT aR aH aJ aP aU aB aQ aK aL aE0 aE1 aE2 aE3 SX ++ (w4 cy aH SH ++ (w0 cy aB SB))) hC hW (c4_guestsIn l D cy ad aH hg_10) (cwV 1 hC.2.2.2.2.1 gX11_knows_X4_guestsIn rfl rfl rfl hdV4_guestsIn ⟨Nat.le_of_ble_eq_true rfl, Nat.le_of_ble_eq_true rfl⟩) (⟨[3, 4, 5, 6, 7, 8, 9, 10, 11, 12, 13, 14], [0, 1, 2, 15, 16, 17, 18, 19, 20], [0, 1, 2, 9, 10, 11, 12, 13, 14, 15, 16, 17, 18, 19, 20, 3, 4, 5, 6, 7, 8], w11 cy aX aT aR aH aJ aP aU aB aQ aK aL aE0 aE1 aE2 aE3 SX ++ (w0 cy aB SB), rfl, rfl, rfl, rfl, by decide, rfl, rfl⟩) 0 4 rfl rfl rfl rfl hl.1 rfl (Nat.le_of_ble_eq_true rfl) dX11_knows_41 ⟨Nat.zero_le _, Nat.zero_le _⟩ (fun H locs hW => ?_)
      obtain rfl := Option.some.inj hf
      exact g_iret hC hW dX11_knows_44
    · have hf := ite_t hf hc_6
      exact t11_knows_19 hC  _ _ _ _ _ _ _ hf hW (lv_sub hl [] rfl)
set_option maxRecDepth 100000 in
set_option maxHeartbeats 4000000 in
theorem c11_knows (l : Launch) (D : va_G) (cy : Nat → ClassId) (ad : Nat → Nat) (aX : Nat → Nat) (aT : Nat → Nat) (aR : Nat → Nat) (aH : Nat → Nat) (aJ : Nat → Nat) (aP : Nat → Nat) (aU : Nat → Nat) (aB : Nat → Nat) (aQ : Nat → Nat) (aK : Nat → Nat) (aL : Nat → Nat) (aE0 : Nat → Nat) (aE1 : Nat → Nat) (aE2 : Nat → Nat) (aE3 : Nat → Nat) {x1 : Int32} {x2 : Int32} {SX : Ob} {SH : Ob} {SB : Ob} {res : Int32} (h : f11_knows x1 x2 SX SH SB = some res) : GCi l yX11_knows wsX11_knows rm11_knows [.ref (aX 0), .int x1, .int x2] D cy ad (w11 cy aX aT aR aH aJ aP aU aB aQ aK aL aE0 aE1 aE2 aE3 SX ++ (w4 cy aH SH ++ (w0 cy aB SB))) (w11 cy aX aT aR aH aJ aP aU aB aQ aK aL aE0 aE1 aE2 aE3 SX ++ (w4 cy aH SH ++ (w0 cy aB SB))) res := fun sz => GC.start (own := RX11) (Qc := fun A => QI D cy (w11 cy aX aT aR aH aJ aP aU aB aQ aK aL aE0 aE1 aE2 aE3 SX ++ (w4 cy aH SH ++ (w0 cy aB SB))) A res) sz (by decide) rfl rfl (Nat.le_of_ble_eq_true rfl) (fun p e s m below meth c A ls hC hW hl => t11_knows_0 hC _ _ _ _ _ _ _ _ _ h hW (lv_sub hl [0, 1, 2] rfl))
end
