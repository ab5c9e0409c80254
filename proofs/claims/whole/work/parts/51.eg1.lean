/-! laid by program: functions, walks and contracts of 11_sure, 11_rounds, 11_common, 11_hear, 11_likely, 11_odds, 11_errors, 11_hunt, 11_same, 11_bill, 11_beds, 11_watch, 11_years -/
set_option maxRecDepth 20000 in
theorem gX11_sure_X4_hasGuest : GoodIn wsX11_sure (wsV RX11 105 RX4 yX4_hasGuest wsX4_hasGuest) := goodIn_r _ [4, 5, 6, 7, 8, 9, 60, 61, 62, 63, 64, 65, 66, 67, 68, 69, 70, 71, 72] rfl (by decide +kernel)
set_option maxRecDepth 20000 in
theorem gX11_sure_X11_isLeft : GoodIn wsX11_sure (wsV RX11 201 RX11 yX11_isLeft wsX11_isLeft) := goodIn_r _ [10, 11, 12, 13, 14, 1, 2, 3, 15, 16, 17, 7, 18, 9, 39, 40, 41, 42, 43, 44, 45, 46, 47, 48, 49, 50, 51, 52, 53, 54, 55, 56, 57, 58, 59, 60, 61, 62, 63, 64, 65, 66, 67, 68, 69, 70, 71, 72] rfl (by decide +kernel)
set_option maxRecDepth 20000 in
theorem gX11_sure_X6_view : GoodIn wsX11_sure (va_wsS RX11 204 yX6_view wsX6_view) := goodIn_r _ [19, 20, 21, 22, 23, 24, 25, 26, 21, 27, 60, 61, 62, 63, 64, 65, 66, 67, 68, 69, 70, 71, 72] rfl (by decide +kernel)
set_option maxRecDepth 20000 in
theorem gX11_sure_X6_knowing : GoodIn wsX11_sure (va_wsS RX11 208 yX6_knowing wsX6_knowing) := goodIn_r _ [28, 29, 21, 30, 23, 31, 32, 33, 21, 34, 35, 36, 37, 38, 24, 25, 26, 27, 60, 61, 62, 63, 64, 65, 66, 67, 68, 69, 70, 71, 72] rfl (by decide +kernel)
theorem dX11_sure_0 : decode cX11_sure 0 = .ok (.aload_n 0, 1) := by decide +kernel
theorem dX11_sure_1 : decode cX11_sure 1 = .ok (.getfield 24, 3) := by decide +kernel
theorem dX11_sure_4 : decode cX11_sure 4 = .ok (.iload_n 1, 1) := by decide +kernel
theorem dX11_sure_5 : decode cX11_sure 5 = .ok (.invokevirtual 105, 3) := by decide +kernel
theorem dX11_sure_8 : decode cX11_sure 8 = .ok (.ifCond .eq 27, 3) := by decide +kernel
theorem dX11_sure_11 : decode cX11_sure 11 = .ok (.aload_n 0, 1) := by decide +kernel
theorem dX11_sure_12 : decode cX11_sure 12 = .ok (.getfield 24, 3) := by decide +kernel
theorem dX11_sure_15 : decode cX11_sure 15 = .ok (.iload_n 2, 1) := by decide +kernel
theorem dX11_sure_16 : decode cX11_sure 16 = .ok (.invokevirtual 105, 3) := by decide +kernel
theorem dX11_sure_19 : decode cX11_sure 19 = .ok (.ifCond .eq 16, 3) := by decide +kernel
theorem dX11_sure_22 : decode cX11_sure 22 = .ok (.iload_n 1, 1) := by decide +kernel
theorem dX11_sure_23 : decode cX11_sure 23 = .ok (.iload_n 2, 1) := by decide +kernel
theorem dX11_sure_24 : decode cX11_sure 24 = .ok (.if_icmp .eq 11, 3) := by decide +kernel
theorem dX11_sure_27 : decode cX11_sure 27 = .ok (.aload_n 0, 1) := by decide +kernel
theorem dX11_sure_28 : decode cX11_sure 28 = .ok (.iload_n 3, 1) := by decide +kernel
theorem dX11_sure_29 : decode cX11_sure 29 = .ok (.invokevirtual 201, 3) := by decide +kernel
theorem dX11_sure_32 : decode cX11_sure 32 = .ok (.ifCond .ne 5, 3) := by decide +kernel
theorem dX11_sure_35 : decode cX11_sure 35 = .ok (.iconst (-1), 1) := by decide +kernel
theorem dX11_sure_36 : decode cX11_sure 36 = .ok (.ireturn, 1) := by decide +kernel
theorem dX11_sure_37 : decode cX11_sure 37 = .ok (.aload_n 0, 1) := by decide +kernel
theorem dX11_sure_38 : decode cX11_sure 38 = .ok (.getfield 24, 3) := by decide +kernel
theorem dX11_sure_41 : decode cX11_sure 41 = .ok (.iload_n 1, 1) := by decide +kernel
theorem dX11_sure_42 : decode cX11_sure 42 = .ok (.iload_n 3, 1) := by decide +kernel
theorem dX11_sure_43 : decode cX11_sure 43 = .ok (.aload_n 0, 1) := by decide +kernel
theorem dX11_sure_44 : decode cX11_sure 44 = .ok (.getfield 44, 3) := by decide +kernel
theorem dX11_sure_47 : decode cX11_sure 47 = .ok (.getfield 131, 3) := by decide +kernel
theorem dX11_sure_50 : decode cX11_sure 50 = .ok (.invokestatic 204, 3) := by decide +kernel
theorem dX11_sure_53 : decode cX11_sure 53 = .ok (.istore 4, 2) := by decide +kernel
theorem dX11_sure_55 : decode cX11_sure 55 = .ok (.iload 4, 2) := by decide +kernel
theorem dX11_sure_57 : decode cX11_sure 57 = .ok (.aload_n 0, 1) := by decide +kernel
theorem dX11_sure_58 : decode cX11_sure 58 = .ok (.getfield 24, 3) := by decide +kernel
theorem dX11_sure_61 : decode cX11_sure 61 = .ok (.iload_n 2, 1) := by decide +kernel
theorem dX11_sure_62 : decode cX11_sure 62 = .ok (.aload_n 0, 1) := by decide +kernel
theorem dX11_sure_63 : decode cX11_sure 63 = .ok (.getfield 44, 3) := by decide +kernel
theorem dX11_sure_66 : decode cX11_sure 66 = .ok (.getfield 131, 3) := by decide +kernel
theorem dX11_sure_69 : decode cX11_sure 69 = .ok (.invokestatic 208, 3) := by decide +kernel
theorem dX11_sure_72 : decode cX11_sure 72 = .ok (.iconst (-1), 1) := by decide +kernel
theorem dX11_sure_73 : decode cX11_sure 73 = .ok (.ixor, 1) := by decide +kernel
theorem dX11_sure_74 : decode cX11_sure 74 = .ok (.iand, 1) := by decide +kernel
theorem dX11_sure_75 : decode cX11_sure 75 = .ok (.ifCond .ne 7, 3) := by decide +kernel
theorem dX11_sure_78 : decode cX11_sure 78 = .ok (.iconst 1, 1) := by decide +kernel
theorem dX11_sure_79 : decode cX11_sure 79 = .ok (.goto 4, 3) := by decide +kernel
theorem dX11_sure_82 : decode cX11_sure 82 = .ok (.iconst 0, 1) := by decide +kernel
theorem dX11_sure_83 : decode cX11_sure 83 = .ok (.ireturn, 1) := by decide +kernel
set_option maxRecDepth 20000 in
theorem gX11_rounds_X11_isLeft : GoodIn wsX11_rounds (wsV RX11 201 RX11 yX11_isLeft wsX11_isLeft) := goodIn_r _ [4, 5, 6, 7, 8, 1, 2, 3, 9, 10, 11, 12, 13, 14, 35, 36, 37, 38, 39, 40, 41, 42, 43, 44, 45, 46, 47, 48, 49, 50, 51, 52, 53, 54, 55, 56, 57, 58, 59, 60, 61, 62, 63, 64, 65, 66, 67, 68] rfl (by decide +kernel)
set_option maxRecDepth 20000 in
theorem gX11_rounds_X6_sayingRounds : GoodIn wsX11_rounds (va_wsS RX11 212 yX6_sayingRounds wsX6_sayingRounds) := goodIn_r _ [15, 16, 17, 18, 19, 20, 21, 17, 22, 23, 24, 25, 26, 27, 28, 29, 30, 31, 32, 33, 34, 56, 57, 58, 59, 60, 61, 62, 63, 64, 65, 66, 67, 68] rfl (by decide +kernel)
theorem dX11_rounds_0 : decode cX11_rounds 0 = .ok (.aload_n 0, 1) := by decide +kernel
theorem dX11_rounds_1 : decode cX11_rounds 1 = .ok (.iload_n 1, 1) := by decide +kernel
theorem dX11_rounds_2 : decode cX11_rounds 2 = .ok (.invokevirtual 201, 3) := by decide +kernel
theorem dX11_rounds_5 : decode cX11_rounds 5 = .ok (.ifCond .eq 12, 3) := by decide +kernel
theorem dX11_rounds_8 : decode cX11_rounds 8 = .ok (.iload_n 2, 1) := by decide +kernel
theorem dX11_rounds_9 : decode cX11_rounds 9 = .ok (.ifCond .lt 8, 3) := by decide +kernel
theorem dX11_rounds_12 : decode cX11_rounds 12 = .ok (.iload_n 2, 1) := by decide +kernel
theorem dX11_rounds_13 : decode cX11_rounds 13 = .ok (.iconst 1, 1) := by decide +kernel
theorem dX11_rounds_14 : decode cX11_rounds 14 = .ok (.if_icmp .le 5, 3) := by decide +kernel
theorem dX11_rounds_17 : decode cX11_rounds 17 = .ok (.iconst (-1), 1) := by decide +kernel
theorem dX11_rounds_18 : decode cX11_rounds 18 = .ok (.ireturn, 1) := by decide +kernel
theorem dX11_rounds_19 : decode cX11_rounds 19 = .ok (.aload_n 0, 1) := by decide +kernel
theorem dX11_rounds_20 : decode cX11_rounds 20 = .ok (.getfield 24, 3) := by decide +kernel
theorem dX11_rounds_23 : decode cX11_rounds 23 = .ok (.iload_n 1, 1) := by decide +kernel
theorem dX11_rounds_24 : decode cX11_rounds 24 = .ok (.aload_n 0, 1) := by decide +kernel
theorem dX11_rounds_25 : decode cX11_rounds 25 = .ok (.getfield 44, 3) := by decide +kernel
theorem dX11_rounds_28 : decode cX11_rounds 28 = .ok (.getfield 131, 3) := by decide +kernel
theorem dX11_rounds_31 : decode cX11_rounds 31 = .ok (.iload_n 2, 1) := by decide +kernel
theorem dX11_rounds_32 : decode cX11_rounds 32 = .ok (.iconst 1, 1) := by decide +kernel
theorem dX11_rounds_33 : decode cX11_rounds 33 = .ok (.if_icmp .ne 7, 3) := by decide +kernel
theorem dX11_rounds_36 : decode cX11_rounds 36 = .ok (.iconst 1, 1) := by decide +kernel
theorem dX11_rounds_37 : decode cX11_rounds 37 = .ok (.goto 4, 3) := by decide +kernel
theorem dX11_rounds_40 : decode cX11_rounds 40 = .ok (.iconst 0, 1) := by decide +kernel
theorem dX11_rounds_41 : decode cX11_rounds 41 = .ok (.invokestatic 212, 3) := by decide +kernel
theorem dX11_rounds_44 : decode cX11_rounds 44 = .ok (.ireturn, 1) := by decide +kernel
set_option maxRecDepth 20000 in
theorem gX11_common_X11_isLeft : GoodIn wsX11_common (wsV RX11 201 RX11 yX11_isLeft wsX11_isLeft) := goodIn_r _ [4, 5, 6, 7, 8, 1, 2, 3, 9, 10, 11, 12, 13, 14, 39, 40, 41, 42, 43, 44, 45, 46, 47, 48, 49, 50, 51, 52, 53, 54, 55, 56, 57, 58, 59, 60, 61, 62, 63, 64, 65, 66, 67, 68, 69, 70, 71, 72] rfl (by decide +kernel)
set_option maxRecDepth 20000 in
theorem gX11_common_X6_reached : GoodIn wsX11_common (va_wsS RX11 216 yX6_reached wsX6_reached) := goodIn_r _ [15, 16, 17, 18, 19, 20, 21, 22, 17, 23, 24, 25, 26, 27, 28, 29, 30, 60, 61, 62, 63, 64, 65, 66, 67, 68, 69, 70, 71, 72] rfl (by decide +kernel)
set_option maxRecDepth 20000 in
theorem gX11_common_X4_guestsIn : GoodIn wsX11_common (wsV RX11 161 RX4 yX4_guestsIn wsX4_guestsIn) := goodIn_r _ [31, 32, 33, 12, 34, 14, 35, 36, 37, 12, 38, 60, 61, 62, 63, 64, 65, 66, 67, 68, 69, 70, 71, 72] rfl (by decide +kernel)
theorem dX11_common_0 : decode cX11_common 0 = .ok (.aload_n 0, 1) := by decide +kernel
theorem dX11_common_1 : decode cX11_common 1 = .ok (.iload_n 1, 1) := by decide +kernel
theorem dX11_common_2 : decode cX11_common 2 = .ok (.invokevirtual 201, 3) := by decide +kernel
theorem dX11_common_5 : decode cX11_common 5 = .ok (.ifCond .eq 28, 3) := by decide +kernel
theorem dX11_common_8 : decode cX11_common 8 = .ok (.aload_n 0, 1) := by decide +kernel
theorem dX11_common_9 : decode cX11_common 9 = .ok (.getfield 24, 3) := by decide +kernel
theorem dX11_common_12 : decode cX11_common 12 = .ok (.aload_n 0, 1) := by decide +kernel
theorem dX11_common_13 : decode cX11_common 13 = .ok (.getfield 24, 3) := by decide +kernel
theorem dX11_common_16 : decode cX11_common 16 = .ok (.iload_n 1, 1) := by decide +kernel
theorem dX11_common_17 : decode cX11_common 17 = .ok (.aload_n 0, 1) := by decide +kernel
theorem dX11_common_18 : decode cX11_common 18 = .ok (.getfield 44, 3) := by decide +kernel
theorem dX11_common_21 : decode cX11_common 21 = .ok (.getfield 131, 3) := by decide +kernel
theorem dX11_common_24 : decode cX11_common 24 = .ok (.invokestatic 216, 3) := by decide +kernel
theorem dX11_common_27 : decode cX11_common 27 = .ok (.invokevirtual 161, 3) := by decide +kernel
theorem dX11_common_30 : decode cX11_common 30 = .ok (.goto 4, 3) := by decide +kernel
theorem dX11_common_33 : decode cX11_common 33 = .ok (.iconst (-1), 1) := by decide +kernel
theorem dX11_common_34 : decode cX11_common 34 = .ok (.ireturn, 1) := by decide +kernel
set_option maxRecDepth 20000 in
theorem gX11_hear_X4_hasSign : GoodIn wsX11_hear (wsV RX11 145 RX4 yX4_hasSign wsX4_hasSign) := goodIn_r _ [3, 4, 5, 6, 7, 8, 29, 30, 31, 32, 33, 34, 35, 36, 37, 38, 39, 40, 41] rfl (by decide +kernel)
set_option maxRecDepth 20000 in
theorem gX11_hear_X0_hearAlso : GoodIn wsX11_hear (wsV RX11 219 RX0 yX0_hearAlso wsX0_hearAlso) := goodIn_r _ [9, 10, 11, 12, 13, 14, 15, 16, 42, 43, 44, 45, 46, 47, 48, 49, 50] rfl (by decide +kernel)
theorem dX11_hear_0 : decode cX11_hear 0 = .ok (.aload_n 0, 1) := by decide +kernel
theorem dX11_hear_1 : decode cX11_hear 1 = .ok (.getfield 24, 3) := by decide +kernel
theorem dX11_hear_4 : decode cX11_hear 4 = .ok (.iload_n 1, 1) := by decide +kernel
theorem dX11_hear_5 : decode cX11_hear 5 = .ok (.invokevirtual 145, 3) := by decide +kernel
theorem dX11_hear_8 : decode cX11_hear 8 = .ok (.ifCond .eq 19, 3) := by decide +kernel
theorem dX11_hear_11 : decode cX11_hear 11 = .ok (.aload_n 0, 1) := by decide +kernel
theorem dX11_hear_12 : decode cX11_hear 12 = .ok (.getfield 44, 3) := by decide +kernel
theorem dX11_hear_15 : decode cX11_hear 15 = .ok (.iload_n 1, 1) := by decide +kernel
theorem dX11_hear_16 : decode cX11_hear 16 = .ok (.iload_n 2, 1) := by decide +kernel
theorem dX11_hear_17 : decode cX11_hear 17 = .ok (.invokevirtual 219, 3) := by decide +kernel
theorem dX11_hear_20 : decode cX11_hear 20 = .ok (.ifCond .eq 7, 3) := by decide +kernel
theorem dX11_hear_23 : decode cX11_hear 23 = .ok (.iconst 1, 1) := by decide +kernel
theorem dX11_hear_24 : decode cX11_hear 24 = .ok (.goto 4, 3) := by decide +kernel
theorem dX11_hear_27 : decode cX11_hear 27 = .ok (.iconst 0, 1) := by decide +kernel
theorem dX11_hear_28 : decode cX11_hear 28 = .ok (.ireturn, 1) := by decide +kernel
set_option maxRecDepth 20000 in
theorem gX11_likely_X1_mostLikely : GoodIn wsX11_likely (va_wsS RX11 223 yX1_mostLikely wsX1_mostLikely) := goodIn_r _ [3, 4, 5, 6, 7, 8, 9, 10, 11, 12, 13, 14, 5, 15, 16, 17, 18, 19, 20, 21, 22, 23, 24, 25, 38, 39, 40, 41, 42, 43, 44, 45, 46, 47, 48, 49, 50, 51, 52, 53, 54, 55, 56, 57, 58, 59] rfl (by decide +kernel)
theorem dX11_likely_0 : decode cX11_likely 0 = .ok (.aload_n 0, 1) := by decide +kernel
theorem dX11_likely_1 : decode cX11_likely 1 = .ok (.getfield 24, 3) := by decide +kernel
theorem dX11_likely_4 : decode cX11_likely 4 = .ok (.aload_n 0, 1) := by decide +kernel
theorem dX11_likely_5 : decode cX11_likely 5 = .ok (.getfield 44, 3) := by decide +kernel
theorem dX11_likely_8 : decode cX11_likely 8 = .ok (.invokestatic 223, 3) := by decide +kernel
theorem dX11_likely_11 : decode cX11_likely 11 = .ok (.ireturn, 1) := by decide +kernel
set_option maxRecDepth 20000 in
theorem gX11_odds_X4_hasGuest : GoodIn wsX11_odds (wsV RX11 105 RX4 yX4_hasGuest wsX4_hasGuest) := goodIn_r _ [3, 4, 5, 6, 7, 8, 48, 49, 50, 51, 52, 53, 54, 55, 56, 57, 58, 59, 60] rfl (by decide +kernel)
set_option maxRecDepth 20000 in
theorem gX11_odds_X1_share : GoodIn wsX11_odds (va_wsS RX11 227 yX1_share wsX1_share) := goodIn_r _ [9, 10, 11, 12, 13, 14, 15, 16, 6, 17, 8, 18, 19, 11, 20, 21, 22, 23, 24, 25, 26, 27, 28, 29, 30, 31, 32, 33, 34, 35, 48, 49, 50, 51, 52, 53, 54, 55, 56, 57, 58, 59, 60, 61, 62, 63, 64, 65, 66, 67, 68, 69] rfl (by decide +kernel)
theorem dX11_odds_0 : decode cX11_odds 0 = .ok (.aload_n 0, 1) := by decide +kernel
theorem dX11_odds_1 : decode cX11_odds 1 = .ok (.getfield 24, 3) := by decide +kernel
theorem dX11_odds_4 : decode cX11_odds 4 = .ok (.iload_n 1, 1) := by decide +kernel
theorem dX11_odds_5 : decode cX11_odds 5 = .ok (.invokevirtual 105, 3) := by decide +kernel
theorem dX11_odds_8 : decode cX11_odds 8 = .ok (.ifCond .eq 18, 3) := by decide +kernel
theorem dX11_odds_11 : decode cX11_odds 11 = .ok (.aload_n 0, 1) := by decide +kernel
theorem dX11_odds_12 : decode cX11_odds 12 = .ok (.getfield 24, 3) := by decide +kernel
theorem dX11_odds_15 : decode cX11_odds 15 = .ok (.aload_n 0, 1) := by decide +kernel
theorem dX11_odds_16 : decode cX11_odds 16 = .ok (.getfield 44, 3) := by decide +kernel
theorem dX11_odds_19 : decode cX11_odds 19 = .ok (.iload_n 1, 1) := by decide +kernel
theorem dX11_odds_20 : decode cX11_odds 20 = .ok (.invokestatic 227, 3) := by decide +kernel
theorem dX11_odds_23 : decode cX11_odds 23 = .ok (.goto 4, 3) := by decide +kernel
theorem dX11_odds_26 : decode cX11_odds 26 = .ok (.iconst (-1), 1) := by decide +kernel
theorem dX11_odds_27 : decode cX11_odds 27 = .ok (.ireturn, 1) := by decide +kernel
set_option maxRecDepth 20000 in
theorem gX11_errors_X4_hasGuest : GoodIn wsX11_errors (wsV RX11 105 RX4 yX4_hasGuest wsX4_hasGuest) := goodIn_r _ [4, 5, 6, 7, 8, 9, 49, 50, 51, 52, 53, 54, 55, 56, 57, 58, 59, 60, 61] rfl (by decide +kernel)
set_option maxRecDepth 20000 in
theorem gX11_errors_X4_hasSign : GoodIn wsX11_errors (wsV RX11 145 RX4 yX4_hasSign wsX4_hasSign) := goodIn_r _ [10, 11, 12, 7, 13, 14, 49, 50, 51, 52, 53, 54, 55, 56, 57, 58, 59, 60, 61] rfl (by decide +kernel)
set_option maxRecDepth 20000 in
theorem gX11_errors_X1_wrongly : GoodIn wsX11_errors (va_wsS RX11 231 yX1_wrongly wsX1_wrongly) := goodIn_r _ [15, 16, 17, 18, 19, 20, 21, 22, 23, 24, 25, 26, 7, 27, 49, 50, 51, 52, 53, 54, 55, 56, 57, 58, 59, 60, 61] rfl (by decide +kernel)
theorem dX11_errors_0 : decode cX11_errors 0 = .ok (.aload_n 0, 1) := by decide +kernel
theorem dX11_errors_1 : decode cX11_errors 1 = .ok (.getfield 24, 3) := by decide +kernel
theorem dX11_errors_4 : decode cX11_errors 4 = .ok (.iload_n 1, 1) := by decide +kernel
theorem dX11_errors_5 : decode cX11_errors 5 = .ok (.invokevirtual 105, 3) := by decide +kernel
theorem dX11_errors_8 : decode cX11_errors 8 = .ok (.ifCond .eq 23, 3) := by decide +kernel
theorem dX11_errors_11 : decode cX11_errors 11 = .ok (.aload_n 0, 1) := by decide +kernel
theorem dX11_errors_12 : decode cX11_errors 12 = .ok (.getfield 24, 3) := by decide +kernel
theorem dX11_errors_15 : decode cX11_errors 15 = .ok (.iload_n 2, 1) := by decide +kernel
theorem dX11_errors_16 : decode cX11_errors 16 = .ok (.invokevirtual 145, 3) := by decide +kernel
theorem dX11_errors_19 : decode cX11_errors 19 = .ok (.ifCond .eq 12, 3) := by decide +kernel
theorem dX11_errors_22 : decode cX11_errors 22 = .ok (.iload_n 3, 1) := by decide +kernel
theorem dX11_errors_23 : decode cX11_errors 23 = .ok (.ifCond .lt 8, 3) := by decide +kernel
theorem dX11_errors_26 : decode cX11_errors 26 = .ok (.iload_n 3, 1) := by decide +kernel
theorem dX11_errors_27 : decode cX11_errors 27 = .ok (.iconst 1, 1) := by decide +kernel
theorem dX11_errors_28 : decode cX11_errors 28 = .ok (.if_icmp .le 5, 3) := by decide +kernel
theorem dX11_errors_31 : decode cX11_errors 31 = .ok (.iconst (-1), 1) := by decide +kernel
theorem dX11_errors_32 : decode cX11_errors 32 = .ok (.ireturn, 1) := by decide +kernel
theorem dX11_errors_33 : decode cX11_errors 33 = .ok (.aload_n 0, 1) := by decide +kernel
theorem dX11_errors_34 : decode cX11_errors 34 = .ok (.getfield 24, 3) := by decide +kernel
theorem dX11_errors_37 : decode cX11_errors 37 = .ok (.aload_n 0, 1) := by decide +kernel
theorem dX11_errors_38 : decode cX11_errors 38 = .ok (.getfield 44, 3) := by decide +kernel
theorem dX11_errors_41 : decode cX11_errors 41 = .ok (.getfield 131, 3) := by decide +kernel
theorem dX11_errors_44 : decode cX11_errors 44 = .ok (.iload_n 1, 1) := by decide +kernel
theorem dX11_errors_45 : decode cX11_errors 45 = .ok (.iload_n 2, 1) := by decide +kernel
theorem dX11_errors_46 : decode cX11_errors 46 = .ok (.iload_n 3, 1) := by decide +kernel
theorem dX11_errors_47 : decode cX11_errors 47 = .ok (.iconst 1, 1) := by decide +kernel
theorem dX11_errors_48 : decode cX11_errors 48 = .ok (.if_icmp .ne 7, 3) := by decide +kernel
theorem dX11_errors_51 : decode cX11_errors 51 = .ok (.iconst 1, 1) := by decide +kernel
theorem dX11_errors_52 : decode cX11_errors 52 = .ok (.goto 4, 3) := by decide +kernel
theorem dX11_errors_55 : decode cX11_errors 55 = .ok (.iconst 0, 1) := by decide +kernel
theorem dX11_errors_56 : decode cX11_errors 56 = .ok (.invokestatic 231, 3) := by decide +kernel
theorem dX11_errors_59 : decode cX11_errors 59 = .ok (.ireturn, 1) := by decide +kernel
set_option maxRecDepth 20000 in
theorem gX11_hunt_X4_guestsIn : GoodIn wsX11_hunt (wsV RX11 161 RX4 yX4_guestsIn wsX4_guestsIn) := goodIn_r _ [5, 6, 7, 8, 9, 10, 11, 12, 13, 8, 14, 54, 55, 56, 57, 58, 59, 60, 61, 62, 63, 64, 65, 66] rfl (by decide +kernel)
set_option maxRecDepth 20000 in
theorem gX11_hunt_X1_search : GoodIn wsX11_hunt (wsV RX11 235 RX1 yX1_search wsX1_search) := goodIn_r _ [15, 16, 17, 18, 19, 20, 21, 22, 23, 24, 18, 25, 26, 27, 28, 29, 30, 31, 32, 67, 68, 54, 55, 56, 57, 58, 59, 60, 61, 62, 63, 64, 65, 66] rfl (by decide +kernel)
theorem dX11_hunt_0 : decode cX11_hunt 0 = .ok (.iload_n 1, 1) := by decide +kernel
theorem dX11_hunt_1 : decode cX11_hunt 1 = .ok (.ifCond .ge 7, 3) := by decide +kernel
theorem dX11_hunt_4 : decode cX11_hunt 4 = .ok (.iconst (-1), 1) := by decide +kernel
theorem dX11_hunt_5 : decode cX11_hunt 5 = .ok (.goto 29, 3) := by decide +kernel
theorem dX11_hunt_8 : decode cX11_hunt 8 = .ok (.aload_n 0, 1) := by decide +kernel
theorem dX11_hunt_9 : decode cX11_hunt 9 = .ok (.getfield 66, 3) := by decide +kernel
theorem dX11_hunt_12 : decode cX11_hunt 12 = .ok (.aload_n 0, 1) := by decide +kernel
theorem dX11_hunt_13 : decode cX11_hunt 13 = .ok (.getfield 24, 3) := by decide +kernel
theorem dX11_hunt_16 : decode cX11_hunt 16 = .ok (.aload_n 0, 1) := by decide +kernel
theorem dX11_hunt_17 : decode cX11_hunt 17 = .ok (.getfield 24, 3) := by decide +kernel
theorem dX11_hunt_20 : decode cX11_hunt 20 = .ok (.aload_n 0, 1) := by decide +kernel
theorem dX11_hunt_21 : decode cX11_hunt 21 = .ok (.getfield 44, 3) := by decide +kernel
theorem dX11_hunt_24 : decode cX11_hunt 24 = .ok (.getfield 131, 3) := by decide +kernel
theorem dX11_hunt_27 : decode cX11_hunt 27 = .ok (.invokevirtual 161, 3) := by decide +kernel
theorem dX11_hunt_30 : decode cX11_hunt 30 = .ok (.iload_n 1, 1) := by decide +kernel
theorem dX11_hunt_31 : decode cX11_hunt 31 = .ok (.invokevirtual 235, 3) := by decide +kernel
theorem dX11_hunt_34 : decode cX11_hunt 34 = .ok (.ireturn, 1) := by decide +kernel
set_option maxRecDepth 20000 in
theorem gX11_same_X4_guestsIn : GoodIn wsX11_same (wsV RX11 161 RX4 yX4_guestsIn wsX4_guestsIn) := goodIn_r _ [4, 5, 6, 7, 8, 9, 10, 11, 12, 7, 13, 46, 47, 48, 49, 50, 51, 52, 53, 54, 55, 56, 57, 58] rfl (by decide +kernel)
set_option maxRecDepth 20000 in
theorem gX11_same_X0_inAllNights : GoodIn wsX11_same (wsV RX11 238 RX0 yX0_inAllNights wsX0_inAllNights) := goodIn_r _ [14, 15, 16, 17, 18, 19, 20, 37, 38, 39, 40, 41, 42, 43, 44, 45] rfl (by decide +kernel)
set_option maxRecDepth 20000 in
theorem gX11_same_X0_firstNightWithNone : GoodIn wsX11_same (wsV RX11 241 RX0 yX0_firstNightWithNone wsX0_firstNightWithNone) := goodIn_r _ [21, 22, 23, 17, 24, 19, 20, 37, 38, 39, 40, 41, 42, 43, 44, 45] rfl (by decide +kernel)
theorem dX11_same_0 : decode cX11_same 0 = .ok (.iload_n 1, 1) := by decide +kernel
theorem dX11_same_1 : decode cX11_same 1 = .ok (.lookupswitch 71 #[(0, 27), (1, 49)], 27) := by decide +kernel
theorem dX11_same_28 : decode cX11_same 28 = .ok (.aload_n 0, 1) := by decide +kernel
theorem dX11_same_29 : decode cX11_same 29 = .ok (.getfield 44, 3) := by decide +kernel
theorem dX11_same_32 : decode cX11_same 32 = .ok (.aload_n 0, 1) := by decide +kernel
theorem dX11_same_33 : decode cX11_same 33 = .ok (.getfield 24, 3) := by decide +kernel
theorem dX11_same_36 : decode cX11_same 36 = .ok (.aload_n 0, 1) := by decide +kernel
theorem dX11_same_37 : decode cX11_same 37 = .ok (.getfield 44, 3) := by decide +kernel
theorem dX11_same_40 : decode cX11_same 40 = .ok (.getfield 131, 3) := by decide +kernel
theorem dX11_same_43 : decode cX11_same 43 = .ok (.invokevirtual 161, 3) := by decide +kernel
theorem dX11_same_46 : decode cX11_same 46 = .ok (.invokevirtual 238, 3) := by decide +kernel
theorem dX11_same_49 : decode cX11_same 49 = .ok (.ireturn, 1) := by decide +kernel
theorem dX11_same_50 : decode cX11_same 50 = .ok (.aload_n 0, 1) := by decide +kernel
theorem dX11_same_51 : decode cX11_same 51 = .ok (.getfield 44, 3) := by decide +kernel
theorem dX11_same_54 : decode cX11_same 54 = .ok (.aload_n 0, 1) := by decide +kernel
theorem dX11_same_55 : decode cX11_same 55 = .ok (.getfield 24, 3) := by decide +kernel
theorem dX11_same_58 : decode cX11_same 58 = .ok (.aload_n 0, 1) := by decide +kernel
theorem dX11_same_59 : decode cX11_same 59 = .ok (.getfield 44, 3) := by decide +kernel
theorem dX11_same_62 : decode cX11_same 62 = .ok (.getfield 131, 3) := by decide +kernel
theorem dX11_same_65 : decode cX11_same 65 = .ok (.invokevirtual 161, 3) := by decide +kernel
theorem dX11_same_68 : decode cX11_same 68 = .ok (.invokevirtual 241, 3) := by decide +kernel
theorem dX11_same_71 : decode cX11_same 71 = .ok (.ireturn, 1) := by decide +kernel
theorem dX11_same_72 : decode cX11_same 72 = .ok (.bipush (-2), 2) := by decide +kernel
theorem dX11_same_74 : decode cX11_same 74 = .ok (.ireturn, 1) := by decide +kernel
set_option maxRecDepth 20000 in
theorem gX11_bill_X4_hasGuest : GoodIn wsX11_bill (wsV RX11 105 RX4 yX4_hasGuest wsX4_hasGuest) := goodIn_r _ [2, 3, 4, 5, 6, 7, 26, 27, 28, 29, 30, 31, 32, 33, 34, 35, 36, 37, 38] rfl (by decide +kernel)
set_option maxRecDepth 20000 in
theorem gX11_bill_X5_payment : GoodIn wsX11_bill (va_wsS RX11 244 yX5_payment wsX5_payment) := goodIn_r _ [8, 9, 10, 11, 12, 13, 26, 27, 28, 29, 30, 31, 32, 33, 34, 35, 36, 37, 38] rfl (by decide +kernel)
theorem dX11_bill_0 : decode cX11_bill 0 = .ok (.iload_n 1, 1) := by decide +kernel
theorem dX11_bill_1 : decode cX11_bill 1 = .ok (.ifCond .lt 21, 3) := by decide +kernel
theorem dX11_bill_4 : decode cX11_bill 4 = .ok (.iload_n 1, 1) := by decide +kernel
theorem dX11_bill_5 : decode cX11_bill 5 = .ok (.sipush 9999, 3) := by decide +kernel
theorem dX11_bill_8 : decode cX11_bill 8 = .ok (.if_icmp .gt 14, 3) := by decide +kernel
theorem dX11_bill_11 : decode cX11_bill 11 = .ok (.aload_n 0, 1) := by decide +kernel
theorem dX11_bill_12 : decode cX11_bill 12 = .ok (.getfield 24, 3) := by decide +kernel
theorem dX11_bill_15 : decode cX11_bill 15 = .ok (.iload_n 2, 1) := by decide +kernel
theorem dX11_bill_16 : decode cX11_bill 16 = .ok (.invokevirtual 105, 3) := by decide +kernel
theorem dX11_bill_19 : decode cX11_bill 19 = .ok (.ifCond .ne 5, 3) := by decide +kernel
theorem dX11_bill_22 : decode cX11_bill 22 = .ok (.iconst (-1), 1) := by decide +kernel
theorem dX11_bill_23 : decode cX11_bill 23 = .ok (.ireturn, 1) := by decide +kernel
theorem dX11_bill_24 : decode cX11_bill 24 = .ok (.aload_n 0, 1) := by decide +kernel
theorem dX11_bill_25 : decode cX11_bill 25 = .ok (.getfield 24, 3) := by decide +kernel
theorem dX11_bill_28 : decode cX11_bill 28 = .ok (.iload_n 1, 1) := by decide +kernel
theorem dX11_bill_29 : decode cX11_bill 29 = .ok (.iload_n 2, 1) := by decide +kernel
theorem dX11_bill_30 : decode cX11_bill 30 = .ok (.invokestatic 244, 3) := by decide +kernel
theorem dX11_bill_33 : decode cX11_bill 33 = .ok (.ireturn, 1) := by decide +kernel
set_option maxRecDepth 20000 in
theorem gX11_beds_X4_hasGuest : GoodIn wsX11_beds (wsV RX11 105 RX4 yX4_hasGuest wsX4_hasGuest) := goodIn_r _ [4, 5, 6, 7, 8, 9, 44, 45, 46, 47, 48, 49, 50, 51, 52, 53, 54, 55, 56] rfl (by decide +kernel)
set_option maxRecDepth 20000 in
theorem gX11_beds_X5_bedAll : GoodIn wsX11_beds (wsV RX11 247 RX5 yX5_bedAll wsX5_bedAll) := goodIn_r _ [10, 11, 12, 13, 14, 15, 16, 13, 17, 18, 19, 20, 21, 22, 23, 24, 25, 26, 27, 28, 44, 45, 46, 47, 48, 49, 50, 51, 52, 53, 54, 55, 56, 41, 42, 43] rfl (by decide +kernel)
theorem dX11_beds_0 : decode cX11_beds 0 = .ok (.iload_n 1, 1) := by decide +kernel
theorem dX11_beds_1 : decode cX11_beds 1 = .ok (.iconst (-1), 1) := by decide +kernel
theorem dX11_beds_2 : decode cX11_beds 2 = .ok (.if_icmp .eq 17, 3) := by decide +kernel
theorem dX11_beds_5 : decode cX11_beds 5 = .ok (.aload_n 0, 1) := by decide +kernel
theorem dX11_beds_6 : decode cX11_beds 6 = .ok (.getfield 24, 3) := by decide +kernel
theorem dX11_beds_9 : decode cX11_beds 9 = .ok (.iload_n 1, 1) := by decide +kernel
theorem dX11_beds_10 : decode cX11_beds 10 = .ok (.invokevirtual 105, 3) := by decide +kernel
theorem dX11_beds_13 : decode cX11_beds 13 = .ok (.ifCond .ne 6, 3) := by decide +kernel
theorem dX11_beds_16 : decode cX11_beds 16 = .ok (.bipush (-2), 2) := by decide +kernel
theorem dX11_beds_18 : decode cX11_beds 18 = .ok (.ireturn, 1) := by decide +kernel
theorem dX11_beds_19 : decode cX11_beds 19 = .ok (.aload_n 0, 1) := by decide +kernel
theorem dX11_beds_20 : decode cX11_beds 20 = .ok (.getfield 73, 3) := by decide +kernel
theorem dX11_beds_23 : decode cX11_beds 23 = .ok (.aload_n 0, 1) := by decide +kernel
theorem dX11_beds_24 : decode cX11_beds 24 = .ok (.getfield 24, 3) := by decide +kernel
theorem dX11_beds_27 : decode cX11_beds 27 = .ok (.invokevirtual 247, 3) := by decide +kernel
theorem dX11_beds_30 : decode cX11_beds 30 = .ok (.istore_n 2, 1) := by decide +kernel
theorem dX11_beds_31 : decode cX11_beds 31 = .ok (.iload_n 1, 1) := by decide +kernel
theorem dX11_beds_32 : decode cX11_beds 32 = .ok (.iconst (-1), 1) := by decide +kernel
theorem dX11_beds_33 : decode cX11_beds 33 = .ok (.if_icmp .ne 7, 3) := by decide +kernel
theorem dX11_beds_36 : decode cX11_beds 36 = .ok (.iload_n 2, 1) := by decide +kernel
theorem dX11_beds_37 : decode cX11_beds 37 = .ok (.goto 12, 3) := by decide +kernel
theorem dX11_beds_40 : decode cX11_beds 40 = .ok (.aload_n 0, 1) := by decide +kernel
theorem dX11_beds_41 : decode cX11_beds 41 = .ok (.getfield 73, 3) := by decide +kernel
theorem dX11_beds_44 : decode cX11_beds 44 = .ok (.getfield 250, 3) := by decide +kernel
theorem dX11_beds_47 : decode cX11_beds 47 = .ok (.iload_n 1, 1) := by decide +kernel
theorem dX11_beds_48 : decode cX11_beds 48 = .ok (.iaload, 1) := by decide +kernel
theorem dX11_beds_49 : decode cX11_beds 49 = .ok (.ireturn, 1) := by decide +kernel
set_option maxRecDepth 20000 in
theorem gX11_watch_X5_awake : GoodIn wsX11_watch (wsV RX11 253 RX5 yX5_awake wsX5_awake) := goodIn_r _ [3, 4, 5, 6, 7, 8, 9, 10, 11, 6, 12, 13, 14, 15, 16, 17, 18, 19, 20, 21, 22, 23, 24, 25, 26, 27, 28, 41, 42, 43, 44, 45, 46, 47, 48, 49, 50, 51, 52, 53, 54, 55, 56] rfl (by decide +kernel)
theorem dX11_watch_0 : decode cX11_watch 0 = .ok (.iload_n 1, 1) := by decide +kernel
theorem dX11_watch_1 : decode cX11_watch 1 = .ok (.iconst 1, 1) := by decide +kernel
theorem dX11_watch_2 : decode cX11_watch 2 = .ok (.if_icmp .lt 18, 3) := by decide +kernel
theorem dX11_watch_5 : decode cX11_watch 5 = .ok (.iload_n 1, 1) := by decide +kernel
theorem dX11_watch_6 : decode cX11_watch 6 = .ok (.iconst 2, 1) := by decide +kernel
theorem dX11_watch_7 : decode cX11_watch 7 = .ok (.if_icmp .gt 13, 3) := by decide +kernel
theorem dX11_watch_10 : decode cX11_watch 10 = .ok (.iload_n 2, 1) := by decide +kernel
theorem dX11_watch_11 : decode cX11_watch 11 = .ok (.ifCond .lt 9, 3) := by decide +kernel
theorem dX11_watch_14 : decode cX11_watch 14 = .ok (.iload_n 2, 1) := by decide +kernel
theorem dX11_watch_15 : decode cX11_watch 15 = .ok (.bipush 12, 2) := by decide +kernel
theorem dX11_watch_17 : decode cX11_watch 17 = .ok (.if_icmp .lt 5, 3) := by decide +kernel
theorem dX11_watch_20 : decode cX11_watch 20 = .ok (.iconst (-1), 1) := by decide +kernel
theorem dX11_watch_21 : decode cX11_watch 21 = .ok (.ireturn, 1) := by decide +kernel
theorem dX11_watch_22 : decode cX11_watch 22 = .ok (.aload_n 0, 1) := by decide +kernel
theorem dX11_watch_23 : decode cX11_watch 23 = .ok (.getfield 73, 3) := by decide +kernel
theorem dX11_watch_26 : decode cX11_watch 26 = .ok (.aload_n 0, 1) := by decide +kernel
theorem dX11_watch_27 : decode cX11_watch 27 = .ok (.getfield 24, 3) := by decide +kernel
theorem dX11_watch_30 : decode cX11_watch 30 = .ok (.iload_n 1, 1) := by decide +kernel
theorem dX11_watch_31 : decode cX11_watch 31 = .ok (.iload_n 2, 1) := by decide +kernel
theorem dX11_watch_32 : decode cX11_watch 32 = .ok (.invokevirtual 253, 3) := by decide +kernel
theorem dX11_watch_35 : decode cX11_watch 35 = .ok (.ireturn, 1) := by decide +kernel
set_option maxRecDepth 20000 in
theorem gX11_years_X6_drawnYears : GoodIn wsX11_years (va_wsS RX11 256 yX6_drawnYears wsX6_drawnYears) := goodIn_r _ [3, 4, 5, 6, 7, 8, 9, 10, 5, 11, 12, 13, 14, 15, 16, 17, 18, 19, 20, 21, 22, 23, 24, 25, 26, 27, 28, 29, 30, 31, 32, 33, 34, 35, 36, 37, 38, 39, 40, 41, 42, 43, 44, 45, 46, 59, 60, 61, 62, 63, 64, 65, 66, 67, 68, 69, 70, 71] rfl (by decide +kernel)
theorem dX11_years_0 : decode cX11_years 0 = .ok (.iload_n 1, 1) := by decide +kernel
theorem dX11_years_1 : decode cX11_years 1 = .ok (.ifCond .lt 21, 3) := by decide +kernel
theorem dX11_years_4 : decode cX11_years 4 = .ok (.iload_n 1, 1) := by decide +kernel
theorem dX11_years_5 : decode cX11_years 5 = .ok (.sipush 9999, 3) := by decide +kernel
theorem dX11_years_8 : decode cX11_years 8 = .ok (.if_icmp .gt 14, 3) := by decide +kernel
theorem dX11_years_11 : decode cX11_years 11 = .ok (.iload_n 2, 1) := by decide +kernel
theorem dX11_years_12 : decode cX11_years 12 = .ok (.iconst 1, 1) := by decide +kernel
theorem dX11_years_13 : decode cX11_years 13 = .ok (.if_icmp .lt 9, 3) := by decide +kernel
theorem dX11_years_16 : decode cX11_years 16 = .ok (.iload_n 2, 1) := by decide +kernel
theorem dX11_years_17 : decode cX11_years 17 = .ok (.bipush 100, 2) := by decide +kernel
theorem dX11_years_19 : decode cX11_years 19 = .ok (.if_icmp .le 5, 3) := by decide +kernel
theorem dX11_years_22 : decode cX11_years 22 = .ok (.iconst (-1), 1) := by decide +kernel
theorem dX11_years_23 : decode cX11_years 23 = .ok (.ireturn, 1) := by decide +kernel
theorem dX11_years_24 : decode cX11_years 24 = .ok (.iload_n 3, 1) := by decide +kernel
theorem dX11_years_25 : decode cX11_years 25 = .ok (.ifCond .lt 18, 3) := by decide +kernel
theorem dX11_years_28 : decode cX11_years 28 = .ok (.iload_n 3, 1) := by decide +kernel
theorem dX11_years_29 : decode cX11_years 29 = .ok (.iconst 2, 1) := by decide +kernel
theorem dX11_years_30 : decode cX11_years 30 = .ok (.if_icmp .gt 13, 3) := by decide +kernel
theorem dX11_years_33 : decode cX11_years 33 = .ok (.aload_n 0, 1) := by decide +kernel
theorem dX11_years_34 : decode cX11_years 34 = .ok (.getfield 24, 3) := by decide +kernel
theorem dX11_years_37 : decode cX11_years 37 = .ok (.getfield 155, 3) := by decide +kernel
theorem dX11_years_40 : decode cX11_years 40 = .ok (.ifCond .ne 5, 3) := by decide +kernel
theorem dX11_years_43 : decode cX11_years 43 = .ok (.iconst (-1), 1) := by decide +kernel
theorem dX11_years_44 : decode cX11_years 44 = .ok (.ireturn, 1) := by decide +kernel
theorem dX11_years_45 : decode cX11_years 45 = .ok (.aload_n 0, 1) := by decide +kernel
theorem dX11_years_46 : decode cX11_years 46 = .ok (.getfield 24, 3) := by decide +kernel
theorem dX11_years_49 : decode cX11_years 49 = .ok (.iload_n 1, 1) := by decide +kernel
theorem dX11_years_50 : decode cX11_years 50 = .ok (.iload_n 2, 1) := by decide +kernel
theorem dX11_years_51 : decode cX11_years 51 = .ok (.iload_n 3, 1) := by decide +kernel
theorem dX11_years_52 : decode cX11_years 52 = .ok (.invokestatic 256, 3) := by decide +kernel
theorem dX11_years_55 : decode cX11_years 55 = .ok (.ireturn, 1) := by decide +kernel
section
variable {p : Program} {l : Launch} {e : Env} {s : State} {m : MethodId} {args : Array Value} {below : List Frame} {meth : Method} {c : Code} {D : va_G} {cy : Nat → ClassId} {ad : Nat → Nat} {A : Nat → Prop} {aM aB aO aI aN aT aC aG aR aQ aK aL aX aH aJ aP aU aE0 aE1 aE2 aE3 : Nat → Nat} {gi : Value}
abbrev rm11_sure : Room := { frames := 3, cells := 0, slots := 0, locals := 79 }
theorem hdV11_sure : yX11_sure.cls = RX11 ∧ (yX11_sure.cls ≠ "java/lang/invoke/MethodHandle" ∧ yX11_sure.cls ≠ "java/lang/invoke/VarHandle" ∧ (parseMethodDescriptor yX11_sure.desc).map (fun d => d.parameters.length) = some 3) := by decide +kernel
theorem hin11_sure_11 : ∀ x ∈ u_ws RX11 TX11 12, x ∈ wsX11_sure := fun _ h => List.mem_cons_of_mem _ (List.mem_append_left _ (List.mem_append_left _ (List.mem_append_right _ h)))
theorem hin11_sure_0 : ∀ x ∈ u_ws RX0 TX0 9, x ∈ wsX11_sure := fun _ h => List.mem_cons_of_mem _ (List.mem_append_left _ (List.mem_append_right _ h))
set_option maxRecDepth 100000 in
set_option maxHeartbeats 4000000 in
theorem t11_sure_35 (hC : Cx p s m args meth c cX11_sure 5 wsX11_sure RX11 (some .int)) : ∀ (SX : Ob) (SH : Ob) (SB : Ob) (res : Int32) (H : Heap) (locs : List Loc) (ls : Array Slot), f11_sure_35 SX SH SB = some res → GW D cy ad (w11 cy aX aT aR aH aJ aP aU aB aQ aK aL aE0 aE1 aE2 aE3 SX ++ (w4 cy aH SH ++ (w0 cy aB SB))) A s H locs → lv_has ls 5 [] → W p l e rm11_sure s m args below meth c H locs 0 0 (MQ below (QI D cy (w11 cy aX aT aR aH aJ aP aU aB aQ aK aL aE0 aE1 aE2 aE3 SX ++ (w4 cy aH SH ++ (w0 cy aB SB))) A res) args s 0 0 A) (F0 m 35 ls []) := by
  intro SX SH SB res H locs ls hf hW hl
  unfold f11_sure_35 at hf
  refine lv_iconst (v := (-1)) hC.1 hC.2.1 dX11_sure_35 (by decide) ?_
  obtain rfl := Option.some.inj hf
  exact g_iret hC hW dX11_sure_36
set_option maxRecDepth 100000 in
set_option maxHeartbeats 4000000 in
theorem t11_sure_83 (hC : Cx p s m args meth c cX11_sure 5 wsX11_sure RX11 (some .int)) : ∀ (z0 : Int32) (SX : Ob) (SH : Ob) (SB : Ob) (res : Int32) (H : Heap) (locs : List Loc) (ls : Array Slot), f11_sure_83 z0 SX SH SB = some res → GW D cy ad (w11 cy aX aT aR aH aJ aP aU aB aQ aK aL aE0 aE1 aE2 aE3 SX ++ (w4 cy aH SH ++ (w0 cy aB SB))) A s H locs → lv_has ls 5 [] → W p l e rm11_sure s m args below meth c H locs 0 0 (MQ below (QI D cy (w11 cy aX aT aR aH aJ aP aU aB aQ aK aL aE0 aE1 aE2 aE3 SX ++ (w4 cy aH SH ++ (w0 cy aB SB))) A res) args s 0 0 A) (F0 m 83 ls [.int z0]) := by
  intro z0 SX SH SB res H locs ls hf hW hl
  unfold f11_sure_83 at hf
  obtain rfl := Option.some.inj hf
  exact g_iret hC hW dX11_sure_83
set_option maxRecDepth 100000 in
set_option maxHeartbeats 4000000 in
theorem t11_sure_0 (hC : Cx p s m args meth c cX11_sure 5 wsX11_sure RX11 (some .int)) : ∀ (x1 : Int32) (x2 : Int32) (x3 : Int32) (SX : Ob) (SH : Ob) (SB : Ob) (res : Int32) (H : Heap) (locs : List Loc) (ls : Array Slot), f11_sure x1 x2 x3 SX SH SB = some res → GW D cy ad (w11 cy aX aT aR aH aJ aP aU aB aQ aK aL aE0 aE1 aE2 aE3 SX ++ (w4 cy aH SH ++ (w0 cy aB SB))) A s H locs → lv_has ls 5 [(0, .ref (aX 0)), (1, .int x1), (2, .int x2), (3, .int x3)] → W p l e rm11_sure s m args below meth c H locs 0 0 (MQ below (QI D cy (w11 cy aX aT aR aH aJ aP aU aB aQ aK aL aE0 aE1 aE2 aE3 SX ++ (w4 cy aH SH ++ (w0 cy aB SB))) A res) args s 0 0 A) (F0 m 0 ls []) := by
  intro x1 x2 x3 SX SH SB res H locs ls hf hW hl
  unfold f11_sure at hf
  refine lv_aload_n hC.1 hC.2.1 dX11_sure_0 rfl (lv_at hl 0 rfl) ?_
  refine g_get hC hW hin11_sure_11 0 rfl rfl 2 (by decide) 1 rfl rfl dX11_sure_1 ?_
  refine lv_iload_n hC.1 hC.2.1 dX11_sure_4 rfl (lv_at hl 1 rfl) ?_
  obtain ⟨r_1, hg_2, hf⟩ := bd_of hf
  refine g_calliV (w' := w11 cy aX aT aR aH aJ aP aU aB aQ aK aL aE0 aE1 aE2 aE3 SX ++ (w4 cy aH SH ++ (w0 cy aB SB))) hC hW (c4_hasGuest l D cy ad aH hg_2) (cwV 1 hC.2.2.2.2.1 gX11_sure_X4_hasGuest rfl rfl rfl hdV4_hasGuest ⟨Nat.le_of_ble_eq_true rfl, Nat.le_of_ble_eq_true rfl⟩) (⟨[3, 4, 5, 6, 7, 8, 9, 10, 11, 12, 13, 14], [0, 1, 2, 15, 16, 17, 18, 19, 20], [0, 1, 2, 9, 10, 11, 12, 13, 14, 15, 16, 17, 18, 19, 20, 3, 4, 5, 6, 7, 8], w11 cy aX aT aR aH aJ aP aU aB aQ aK aL aE0 aE1 aE2 aE3 SX ++ (w0 cy aB SB), rfl, rfl, rfl, rfl, by decide, rfl, rfl⟩) 0 4 rfl rfl rfl rfl hl.1 rfl (Nat.le_of_ble_eq_true rfl) dX11_sure_5 ⟨Nat.zero_le _, Nat.zero_le _⟩ (fun H locs hW => ?_)
  refine lv_if_eq (tgt := 35) hC.1 hC.2.1 dX11_sure_8 (by decide) (fun hc_3 => ?_) (fun hc_3 => ?_)
  · have hf := ite_t hf hc_3
    exact t11_sure_35 hC  _ _ _ _ _ _ _ hf hW (lv_sub hl [] rfl)
  · have hf := ite_f hf hc_3
    refine lv_aload_n hC.1 hC.2.1 dX11_sure_11 rfl (lv_at hl 0 rfl) ?_
    refine g_get hC hW hin11_sure_11 0 rfl rfl 2 (by decide) 1 rfl rfl dX11_sure_12 ?_
    refine lv_iload_n hC.1 hC.2.1 dX11_sure_15 rfl (lv_at hl 2 rfl) ?_
    obtain ⟨r_4, hg_5, hf⟩ := bd_of hf
    refine g_calliV (w' := w11 cy aX aT aR aH aJ aP aU aB aQ aK aL aE0 aE1 aE2 aE3 SX ++ (w4 cy aH SH ++ (w0 cy aB SB))) hC hW (c4_hasGuest l D cy ad aH hg_5) (cwV 1 hC.2.2.2.2.1 gX11_sure_X4_hasGuest rfl rfl rfl hdV4_hasGuest ⟨Nat.le_of_ble_eq_true rfl, Nat.le_of_ble_eq_true rfl⟩) (⟨[3, 4, 5, 6, 7, 8, 9, 10, 11, 12, 13, 14], [0, 1, 2, 15, 16, 17, 18, 19, 20], [0, 1, 2, 9, 10, 11, 12, 13, 14, 15, 16, 17, 18, 19, 20, 3, 4, 5, 6, 7, 8], w11 cy aX aT aR aH aJ aP aU aB aQ aK aL aE0 aE1 aE2 aE3 SX ++ (w0 cy aB SB), rfl, rfl, rfl, rfl, by decide, rfl, rfl⟩) 0 4 rfl rfl rfl rfl hl.1 rfl (Nat.le_of_ble_eq_true rfl) dX11_sure_16 ⟨Nat.zero_le _, Nat.zero_le _⟩ (fun H locs hW => ?_)
    refine lv_if_eq (tgt := 35) hC.1 hC.2.1 dX11_sure_19 (by decide) (fun hc_6 => ?_) (fun hc_6 => ?_)
    · have hf := ite_t hf hc_6
      exact t11_sure_35 hC  _ _ _ _ _ _ _ hf hW (lv_sub hl [] rfl)
    · have hf := ite_f hf hc_6
      refine lv_iload_n hC.1 hC.2.1 dX11_sure_22 rfl (lv_at hl 1 rfl) ?_
      refine lv_iload_n hC.1 hC.2.1 dX11_sure_23 rfl (lv_at hl 2 rfl) ?_
      refine lv_icmp_eq (tgt := 35) hC.1 hC.2.1 dX11_sure_24 (by decide) (fun hc_7 => ?_) (fun hc_7 => ?_)
      · have hf := ite_t hf hc_7
        exact t11_sure_35 hC  _ _ _ _ _ _ _ hf hW (lv_sub hl [] rfl)
      · have hf := ite_f hf hc_7
        refine lv_aload_n hC.1 hC.2.1 dX11_sure_27 rfl (lv_at hl 0 rfl) ?_
        refine lv_iload_n hC.1 hC.2.1 dX11_sure_28 rfl (lv_at hl 3 rfl) ?_
        obtain ⟨r_8, hg_9, hf⟩ := bd_of hf
        refine g_calliV (w' := w11 cy aX aT aR aH aJ aP aU aB aQ aK aL aE0 aE1 aE2 aE3 SX ++ (w4 cy aH SH ++ (w0 cy aB SB))) hC hW (c11_isLeft l D cy ad aX aT aR aH aJ aP aU aB aQ aK aL _ _ _ _ hg_9) (cwV 1 hC.2.2.2.2.1 gX11_sure_X11_isLeft rfl rfl rfl hdV11_isLeft ⟨Nat.le_of_ble_eq_true rfl, Nat.le_of_ble_eq_true rfl⟩) (Sub.all _ _) 0 10 rfl rfl rfl rfl hl.1 rfl (Nat.le_of_ble_eq_true rfl) dX11_sure_29 ⟨Nat.zero_le _, Nat.zero_le _⟩ (fun H locs hW => ?_)
        refine lv_if_ne (tgt := 37) hC.1 hC.2.1 dX11_sure_32 (by decide) (fun hc_10 => ?_) (fun hc_10 => ?_)
        · have hf := ite_f hf hc_10
          refine lv_aload_n hC.1 hC.2.1 dX11_sure_37 rfl (lv_at hl 0 rfl) ?_
          refine g_get hC hW hin11_sure_11 0 rfl rfl 2 (by decide) 1 rfl rfl dX11_sure_38 ?_
          refine lv_iload_n hC.1 hC.2.1 dX11_sure_41 rfl (lv_at hl 1 rfl) ?_
          refine lv_iload_n hC.1 hC.2.1 dX11_sure_42 rfl (lv_at hl 3 rfl) ?_
          refine lv_aload_n hC.1 hC.2.1 dX11_sure_43 rfl (lv_at hl 0 rfl) ?_
          refine g_get hC hW hin11_sure_11 0 rfl rfl 6 (by decide) 2 rfl rfl dX11_sure_44 ?_
          refine g_get hC hW hin11_sure_0 15 rfl rfl 0 (by decide) 3 rfl rfl dX11_sure_47 ?_
          obtain ⟨r_11, hg_12, hf⟩ := bd_of hf
          refine g_calliS (w' := w11 cy aX aT aR aH aJ aP aU aB aQ aK aL aE0 aE1 aE2 aE3 SX ++ (w4 cy aH SH ++ (w0 cy aB SB))) hC hW (c6_view l D cy ad aH hg_12) (va_cwS 4 hC.2.2.2.2.1 gX11_sure_X6_view rfl rfl rfl hdS6_view ⟨Nat.le_of_ble_eq_true rfl, Nat.le_of_ble_eq_true rfl⟩) (⟨[3, 4, 5, 6, 7, 8, 9, 10, 11, 12, 13, 14], [0, 1, 2, 15, 16, 17, 18, 19, 20], [0, 1, 2, 9, 10, 11, 12, 13, 14, 15, 16, 17, 18, 19, 20, 3, 4, 5, 6, 7, 8], w11 cy aX aT aR aH aJ aP aU aB aQ aK aL aE0 aE1 aE2 aE3 SX ++ (w0 cy aB SB), rfl, rfl, rfl, rfl, by decide, rfl, rfl⟩) rfl hl.1 rfl (Nat.le_of_ble_eq_true rfl) dX11_sure_50 ⟨Nat.zero_le _, Nat.zero_le _⟩ (fun H locs hW => ?_)
          refine lv_istore (lv' := [(4, .int r_11), (0, .ref (aX 0)), (1, .int x1), (2, .int x2), (3, .int x3)]) hC.1 hC.2.1 dX11_sure_53 hl (by decide) rfl (fun ls hl => ?_)
          refine lv_iload hC.1 hC.2.1 dX11_sure_55 (lv_at hl 0 rfl) ?_
          refine lv_aload_n hC.1 hC.2.1 dX11_sure_57 rfl (lv_at hl 1 rfl) ?_
          refine g_get hC hW hin11_sure_11 0 rfl rfl 2 (by decide) 1 rfl rfl dX11_sure_58 ?_
          refine lv_iload_n hC.1 hC.2.1 dX11_sure_61 rfl (lv_at hl 3 rfl) ?_
          refine lv_aload_n hC.1 hC.2.1 dX11_sure_62 rfl (lv_at hl 1 rfl) ?_
          refine g_get hC hW hin11_sure_11 0 rfl rfl 6 (by decide) 2 rfl rfl dX11_sure_63 ?_
          refine g_get hC hW hin11_sure_0 15 rfl rfl 0 (by decide) 3 rfl rfl dX11_sure_66 ?_
          obtain ⟨r_13, hg_14, hf⟩ := bd_of hf
          refine g_calliS (w' := w11 cy aX aT aR aH aJ aP aU aB aQ aK aL aE0 aE1 aE2 aE3 SX ++ (w4 cy aH SH ++ (w0 cy aB SB))) hC hW (c6_knowing l D cy ad aH hg_14) (va_cwS 3 hC.2.2.2.2.1 gX11_sure_X6_knowing rfl rfl rfl hdS6_knowing ⟨Nat.le_of_ble_eq_true rfl, Nat.le_of_ble_eq_true rfl⟩) (⟨[3, 4, 5, 6, 7, 8, 9, 10, 11, 12, 13, 14], [0, 1, 2, 15, 16, 17, 18, 19, 20], [0, 1, 2, 9, 10, 11, 12, 13, 14, 15, 16, 17, 18, 19, 20, 3, 4, 5, 6, 7, 8], w11 cy aX aT aR aH aJ aP aU aB aQ aK aL aE0 aE1 aE2 aE3 SX ++ (w0 cy aB SB), rfl, rfl, rfl, rfl, by decide, rfl, rfl⟩) rfl hl.1 rfl (Nat.le_of_ble_eq_true rfl) dX11_sure_69 ⟨Nat.zero_le _, Nat.zero_le _⟩ (fun H locs hW => ?_)
          refine lv_iconst (v := (-1)) hC.1 hC.2.1 dX11_sure_72 (by decide) ?_
          refine lv_ixor hC.1 hC.2.1 dX11_sure_73 ?_
          refine lv_iand hC.1 hC.2.1 dX11_sure_74 ?_
          refine lv_if_ne (tgt := 82) hC.1 hC.2.1 dX11_sure_75 (by decide) (fun hc_15 => ?_) (fun hc_15 => ?_)
          · have hf := ite_f hf hc_15
            refine lv_iconst (v := 0) hC.1 hC.2.1 dX11_sure_82 (by decide) ?_
            exact t11_sure_83 hC  _ _ _ _ _ _ _ _ hf hW (lv_sub hl [] rfl)
          · have hf := ite_t hf hc_15
            refine lv_iconst (v := 1) hC.1 hC.2.1 dX11_sure_78 (by decide) ?_
            refine lv_goto (tgt := 83) hC.1 hC.2.1 dX11_sure_79 (by decide) ?_
            exact t11_sure_83 hC  _ _ _ _ _ _ _ _ hf hW (lv_sub hl [] rfl)
        · have hf := ite_t hf hc_10
          exact t11_sure_35 hC  _ _ _ _ _ _ _ hf hW (lv_sub hl [] rfl)
set_option maxRecDepth 100000 in
set_option maxHeartbeats 4000000 in
theorem c11_sure (l : Launch) (D : va_G) (cy : Nat → ClassId) (ad : Nat → Nat) (aX : Nat → Nat) (aT : Nat → Nat) (aR : Nat → Nat) (aH : Nat → Nat) (aJ : Nat → Nat) (aP : Nat → Nat) (aU : Nat → Nat) (aB : Nat → Nat) (aQ : Nat → Nat) (aK : Nat → Nat) (aL : Nat → Nat) (aE0 : Nat → Nat) (aE1 : Nat → Nat) (aE2 : Nat → Nat) (aE3 : Nat → Nat) {x1 : Int32} {x2 : Int32} {x3 : Int32} {SX : Ob} {SH : Ob} {SB : Ob} {res : Int32} (h : f11_sure x1 x2 x3 SX SH SB = some res) : GCi l yX11_sure wsX11_sure rm11_sure [.ref (aX 0), .int x1, .int x2, .int x3] D cy ad (w11 cy aX aT aR aH aJ aP aU aB aQ aK aL aE0 aE1 aE2 aE3 SX ++ (w4 cy aH SH ++ (w0 cy aB SB))) (w11 cy aX aT aR aH aJ aP aU aB aQ aK aL aE0 aE1 aE2 aE3 SX ++ (w4 cy aH SH ++ (w0 cy aB SB))) res := fun sz => GC.start (own := RX11) (Qc := fun A => QI D cy (w11 cy aX aT aR aH aJ aP aU aB aQ aK aL aE0 aE1 aE2 aE3 SX ++ (w4 cy aH SH ++ (w0 cy aB SB))) A res) sz (by decide) rfl rfl (Nat.le_of_ble_eq_true rfl) (fun p e s m below meth c A ls hC hW hl => t11_sure_0 hC _ _ _ _ _ _ _ _ _ _ h hW (lv_sub hl [0, 1, 2, 3] rfl))
abbrev rm11_rounds : Room := { frames := 4, cells := 0, slots := 0, locals := 108 }
theorem hdV11_rounds : yX11_rounds.cls = RX11 ∧ (yX11_rounds.cls ≠ "java/lang/invoke/MethodHandle" ∧ yX11_rounds.cls ≠ "java/lang/invoke/VarHandle" ∧ (parseMethodDescriptor yX11_rounds.desc).map (fun d => d.parameters.length) = some 2) := by decide +kernel
theorem hin11_rounds_11 : ∀ x ∈ u_ws RX11 TX11 12, x ∈ wsX11_rounds := fun _ h => List.mem_cons_of_mem _ (List.mem_append_left _ (List.mem_append_left _ (List.mem_append_right _ h)))
theorem hin11_rounds_0 : ∀ x ∈ u_ws RX0 TX0 9, x ∈ wsX11_rounds := fun _ h => List.mem_cons_of_mem _ (List.mem_append_left _ (List.mem_append_right _ h))
set_option maxRecDepth 100000 in
set_option maxHeartbeats 4000000 in
theorem t11_rounds_17 (hC : Cx p s m args meth c cX11_rounds 3 wsX11_rounds RX11 (some .int)) : ∀ (SX : Ob) (SH : Ob) (SB : Ob) (res : Int32) (H : Heap) (locs : List Loc) (ls : Array Slot), f11_rounds_17 SX SH SB = some res → GW D cy ad (w11 cy aX aT aR aH aJ aP aU aB aQ aK aL aE0 aE1 aE2 aE3 SX ++ (w4 cy aH SH ++ (w0 cy aB SB))) A s H locs → lv_has ls 3 [] → W p l e rm11_rounds s m args below meth c H locs 0 0 (MQ below (QI D cy (w11 cy aX aT aR aH aJ aP aU aB aQ aK aL aE0 aE1 aE2 aE3 SX ++ (w4 cy aH SH ++ (w0 cy aB SB))) A res) args s 0 0 A) (F0 m 17 ls []) := by
  intro SX SH SB res H locs ls hf hW hl
  unfold f11_rounds_17 at hf
  refine lv_iconst (v := (-1)) hC.1 hC.2.1 dX11_rounds_17 (by decide) ?_
  obtain rfl := Option.some.inj hf
  exact g_iret hC hW dX11_rounds_18
set_option maxRecDepth 100000 in
set_option maxHeartbeats 4000000 in
theorem t11_rounds_41 (hC : Cx p s m args meth c cX11_rounds 3 wsX11_rounds RX11 (some .int)) : ∀ (z1 : Int32) (z2 : Int32) (z3 : Int32) (SX : Ob) (SH : Ob) (SB : Ob) (res : Int32) (H : Heap) (locs : List Loc) (ls : Array Slot), f11_rounds_41 z1 z2 z3 SX SH SB = some res → GW D cy ad (w11 cy aX aT aR aH aJ aP aU aB aQ aK aL aE0 aE1 aE2 aE3 SX ++ (w4 cy aH SH ++ (w0 cy aB SB))) A s H locs → lv_has ls 3 [] → W p l e rm11_rounds s m args below meth c H locs 0 0 (MQ below (QI D cy (w11 cy aX aT aR aH aJ aP aU aB aQ aK aL aE0 aE1 aE2 aE3 SX ++ (w4 cy aH SH ++ (w0 cy aB SB))) A res) args s 0 0 A) (F0 m 41 ls [.int z3, .int z2, .int z1, .ref (aH 0)]) := by
  intro z1 z2 z3 SX SH SB res H locs ls hf hW hl
  unfold f11_rounds_41 at hf
  obtain ⟨r_1, hg_2, hf⟩ := bd_of hf
  refine g_calliS (w' := w11 cy aX aT aR aH aJ aP aU aB aQ aK aL aE0 aE1 aE2 aE3 SX ++ (w4 cy aH SH ++ (w0 cy aB SB))) hC hW (c6_sayingRounds l D cy ad aH hg_2) (va_cwS 4 hC.2.2.2.2.1 gX11_rounds_X6_sayingRounds rfl rfl rfl hdS6_sayingRounds ⟨Nat.le_of_ble_eq_true rfl, Nat.le_of_ble_eq_true rfl⟩) (⟨[3, 4, 5, 6, 7, 8, 9, 10, 11, 12, 13, 14], [0, 1, 2, 15, 16, 17, 18, 19, 20], [0, 1, 2, 9, 10, 11, 12, 13, 14, 15, 16, 17, 18, 19, 20, 3, 4, 5, 6, 7, 8], w11 cy aX aT aR aH aJ aP aU aB aQ aK aL aE0 aE1 aE2 aE3 SX ++ (w0 cy aB SB), rfl, rfl, rfl, rfl, by decide, rfl, rfl⟩) rfl hl.1 rfl (Nat.le_of_ble_eq_true rfl) dX11_rounds_41 ⟨Nat.zero_le _, Nat.zero_le _⟩ (fun H locs hW => ?_)
  obtain rfl := Option.some.inj hf
  exact g_iret hC hW dX11_rounds_44
set_option maxRecDepth 100000 in
set_option maxHeartbeats 4000000 in
theorem t11_rounds_0 (hC : Cx p s m args meth c cX11_rounds 3 wsX11_rounds RX11 (some .int)) : ∀ (x1 : Int32) (x2 : Int32) (SX : Ob) (SH : Ob) (SB : Ob) (res : Int32) (H : Heap) (locs : List Loc) (ls : Array Slot), f11_rounds x1 x2 SX SH SB = some res → GW D cy ad (w11 cy aX aT aR aH aJ aP aU aB aQ aK aL aE0 aE1 aE2 aE3 SX ++ (w4 cy aH SH ++ (w0 cy aB SB))) A s H locs → lv_has ls 3 [(0, .ref (aX 0)), (1, .int x1), (2, .int x2)] → W p l e rm11_rounds s m args below meth c H locs 0 0 (MQ below (QI D cy (w11 cy aX aT aR aH aJ aP aU aB aQ aK aL aE0 aE1 aE2 aE3 SX ++ (w4 cy aH SH ++ (w0 cy aB SB))) A res) args s 0 0 A) (F0 m 0 ls []) := by
  intro x1 x2 SX SH SB res H locs ls hf hW hl
  unfold f11_rounds at hf
  refine lv_aload_n hC.1 hC.2.1 dX11_rounds_0 rfl (lv_at hl 0 rfl) ?_
  refine lv_iload_n hC.1 hC.2.1 dX11_rounds_1 rfl (lv_at hl 1 rfl) ?_
  obtain ⟨r_1, hg_2, hf⟩ := bd_of hf
  refine g_calliV (w' := w11 cy aX aT aR aH aJ aP aU aB aQ aK aL aE0 aE1 aE2 aE3 SX ++ (w4 cy aH SH ++ (w0 cy aB SB))) hC hW (c11_isLeft l D cy ad aX aT aR aH aJ aP aU aB aQ aK aL _ _ _ _ hg_2) (cwV 1 hC.2.2.2.2.1 gX11_rounds_X11_isLeft rfl rfl rfl hdV11_isLeft ⟨Nat.le_of_ble_eq_true rfl, Nat.le_of_ble_eq_true rfl⟩) (Sub.all _ _) 0 10 rfl rfl rfl rfl hl.1 rfl (Nat.le_of_ble_eq_true rfl) dX11_rounds_2 ⟨Nat.zero_le _, Nat.zero_le _⟩ (fun H locs hW => ?_)
  refine lv_if_eq (tgt := 17) hC.1 hC.2.1 dX11_rounds_5 (by decide) (fun hc_3 => ?_) (fun hc_3 => ?_)
  · have hf := ite_t hf hc_3
    exact t11_rounds_17 hC  _ _ _ _ _ _ _ hf hW (lv_sub hl [] rfl)
  · have hf := ite_f hf hc_3
    refine lv_iload_n hC.1 hC.2.1 dX11_rounds_8 rfl (lv_at hl 2 rfl) ?_
    refine lv_if_lt (tgt := 17) hC.1 hC.2.1 dX11_rounds_9 (by decide) (fun hc_4 => ?_) (fun hc_4 => ?_)
    · have hf := ite_t hf hc_4
      exact t11_rounds_17 hC  _ _ _ _ _ _ _ hf hW (lv_sub hl [] rfl)
    · have hf := ite_f hf hc_4
      refine lv_iload_n hC.1 hC.2.1 dX11_rounds_12 rfl (lv_at hl 2 rfl) ?_
      refine lv_iconst (v := 1) hC.1 hC.2.1 dX11_rounds_13 (by decide) ?_
      refine lv_icmp_le (tgt := 19) hC.1 hC.2.1 dX11_rounds_14 (by decide) (fun hc_5 => ?_) (fun hc_5 => ?_)
      · have hf := ite_t hf hc_5
        refine lv_aload_n hC.1 hC.2.1 dX11_rounds_19 rfl (lv_at hl 0 rfl) ?_
        refine g_get hC hW hin11_rounds_11 0 rfl rfl 2 (by decide) 1 rfl rfl dX11_rounds_20 ?_
        refine lv_iload_n hC.1 hC.2.1 dX11_rounds_23 rfl (lv_at hl 1 rfl) ?_
        refine lv_aload_n hC.1 hC.2.1 dX11_rounds_24 rfl (lv_at hl 0 rfl) ?_
        refine g_get hC hW hin11_rounds_11 0 rfl rfl 6 (by decide) 2 rfl rfl dX11_rounds_25 ?_
        refine g_get hC hW hin11_rounds_0 15 rfl rfl 0 (by decide) 3 rfl rfl dX11_rounds_28 ?_
        refine lv_iload_n hC.1 hC.2.1 dX11_rounds_31 rfl (lv_at hl 2 rfl) ?_
        refine lv_iconst (v := 1) hC.1 hC.2.1 dX11_rounds_32 (by decide) ?_
        refine lv_icmp_ne (tgt := 40) hC.1 hC.2.1 dX11_rounds_33 (by decide) (fun hc_6 => ?_) (fun hc_6 => ?_)
        · have hf := ite_f hf hc_6
          refine lv_iconst (v := 0) hC.1 hC.2.1 dX11_rounds_40 (by decide) ?_
          exact t11_rounds_41 hC  _ _ _ _ _ _ _ _ _ _ hf hW (lv_sub hl [] rfl)
        · have hf := ite_t hf hc_6
          refine lv_iconst (v := 1) hC.1 hC.2.1 dX11_rounds_36 (by decide) ?_
          refine lv_goto (tgt := 41) hC.1 hC.2.1 dX11_rounds_37 (by decide) ?_
          exact t11_rounds_41 hC  _ _ _ _ _ _ _ _ _ _ hf hW (lv_sub hl [] rfl)
      · have hf := ite_f hf hc_5
        exact t11_rounds_17 hC  _ _ _ _ _ _ _ hf hW (lv_sub hl [] rfl)
set_option maxRecDepth 100000 in
set_option maxHeartbeats 4000000 in
theorem c11_rounds (l : Launch) (D : va_G) (cy : Nat → ClassId) (ad : Nat → Nat) (aX : Nat → Nat) (aT : Nat → Nat) (aR : Nat → Nat) (aH : Nat → Nat) (aJ : Nat → Nat) (aP : Nat → Nat) (aU : Nat → Nat) (aB : Nat → Nat) (aQ : Nat → Nat) (aK : Nat → Nat) (aL : Nat → Nat) (aE0 : Nat → Nat) (aE1 : Nat → Nat) (aE2 : Nat → Nat) (aE3 : Nat → Nat) {x1 : Int32} {x2 : Int32} {SX : Ob} {SH : Ob} {SB : Ob} {res : Int32} (h : f11_rounds x1 x2 SX SH SB = some res) : GCi l yX11_rounds wsX11_rounds rm11_rounds [.ref (aX 0), .int x1, .int x2] D cy ad (w11 cy aX aT aR aH aJ aP aU aB aQ aK aL aE0 aE1 aE2 aE3 SX ++ (w4 cy aH SH ++ (w0 cy aB SB))) (w11 cy aX aT aR aH aJ aP aU aB aQ aK aL aE0 aE1 aE2 aE3 SX ++ (w4 cy aH SH ++ (w0 cy aB SB))) res := fun sz => GC.start (own := RX11) (Qc := fun A => QI D cy (w11 cy aX aT aR aH aJ aP aU aB aQ aK aL aE0 aE1 aE2 aE3 SX ++ (w4 cy aH SH ++ (w0 cy aB SB))) A res) sz (by decide) rfl rfl (Nat.le_of_ble_eq_true rfl) (fun p e s m below meth c A ls hC hW hl => t11_rounds_0 hC _ _ _ _ _ _ _ _ _ h hW (lv_sub hl [0, 1, 2] rfl))
abbrev rm11_common : Room := { frames := 3, cells := 0, slots := 0, locals := 79 }
theorem hdV11_common : yX11_common.cls = RX11 ∧ (yX11_common.cls ≠ "java/lang/invoke/MethodHandle" ∧ yX11_common.cls ≠ "java/lang/invoke/VarHandle" ∧ (parseMethodDescriptor yX11_common.desc).map (fun d => d.parameters.length) = some 1) := by decide +kernel
theorem hin11_common_11 : ∀ x ∈ u_ws RX11 TX11 12, x ∈ wsX11_common := fun _ h => List.mem_cons_of_mem _ (List.mem_append_left _ (List.mem_append_left _ (List.mem_append_right _ h)))
theorem hin11_common_0 : ∀ x ∈ u_ws RX0 TX0 9, x ∈ wsX11_common := fun _ h => List.mem_cons_of_mem _ (List.mem_append_left _ (List.mem_append_right _ h))
set_option maxRecDepth 100000 in
set_option maxHeartbeats 4000000 in
theorem t11_common_34 (hC : Cx p s m args meth c cX11_common 2 wsX11_common RX11 (some .int)) : ∀ (z0 : Int32) (SX : Ob) (SH : Ob) (SB : Ob) (res : Int32) (H : Heap) (locs : List Loc) (ls : Array Slot), f11_common_34 z0 SX SH SB = some res → GW D cy ad (w11 cy aX aT aR aH aJ aP aU aB aQ aK aL aE0 aE1 aE2 aE3 SX ++ (w4 cy aH SH ++ (w0 cy aB SB))) A s H locs → lv_has ls 2 [] → W p l e rm11_common s m args below meth c H locs 0 0 (MQ below (QI D cy (w11 cy aX aT aR aH aJ aP aU aB aQ aK aL aE0 aE1 aE2 aE3 SX ++ (w4 cy aH SH ++ (w0 cy aB SB))) A res) args s 0 0 A) (F0 m 34 ls [.int z0]) := by
  intro z0 SX SH SB res H locs ls hf hW hl
  unfold f11_common_34 at hf
  obtain rfl := Option.some.inj hf
  exact g_iret hC hW dX11_common_34
set_option maxRecDepth 100000 in
set_option maxHeartbeats 4000000 in
theorem t11_common_0 (hC : Cx p s m args meth c cX11_common 2 wsX11_common RX11 (some .int)) : ∀ (x1 : Int32) (SX : Ob) (SH : Ob) (SB : Ob) (res : Int32) (H : Heap) (locs : List Loc) (ls : Array Slot), f11_common x1 SX SH SB = some res → GW D cy ad (w11 cy aX aT aR aH aJ aP aU aB aQ aK aL aE0 aE1 aE2 aE3 SX ++ (w4 cy aH SH ++ (w0 cy aB SB))) A s H locs → lv_has ls 2 [(0, .ref (aX 0)), (1, .int x1)] → W p l e rm11_common s m args below meth c H locs 0 0 (MQ below (QI D cy (w11 cy aX aT aR aH aJ aP aU aB aQ aK aL aE0 aE1 aE2 aE3 SX ++ (w4 cy aH SH ++ (w0 cy aB SB))) A res) args s 0 0 A) (F0 m 0 ls []) := by
  intro x1 SX SH SB res H locs ls hf hW hl
  unfold f11_common at hf
  refine lv_aload_n hC.1 hC.2.1 dX11_common_0 rfl (lv_at hl 0 rfl) ?_
  refine lv_iload_n hC.1 hC.2.1 dX11_common_1 rfl (lv_at hl 1 rfl) ?_
  obtain ⟨r_1, hg_2, hf⟩ := bd_of hf
  refine g_calliV (w' := w11 cy aX aT aR aH aJ aP aU aB aQ aK aL aE0 aE1 aE2 aE3 SX ++ (w4 cy aH SH ++ (w0 cy aB SB))) hC hW (c11_isLeft l D cy ad aX aT aR aH aJ aP aU aB aQ aK aL _ _ _ _ hg_2) (cwV 1 hC.2.2.2.2.1 gX11_common_X11_isLeft rfl rfl rfl hdV11_isLeft ⟨Nat.le_of_ble_eq_true rfl, Nat.le_of_ble_eq_true rfl⟩) (Sub.all _ _) 0 10 rfl rfl rfl rfl hl.1 rfl (Nat.le_of_ble_eq_true rfl) dX11_common_2 ⟨Nat.zero_le _, Nat.zero_le _⟩ (fun H locs hW => ?_)
  refine lv_if_eq (tgt := 33) hC.1 hC.2.1 dX11_common_5 (by decide) (fun hc_3 => ?_) (fun hc_3 => ?_)
  · have hf := ite_t hf hc_3
    refine lv_iconst (v := (-1)) hC.1 hC.2.1 dX11_common_33 (by decide) ?_
    exact t11_common_34 hC  _ _ _ _ _ _ _ _ hf hW (lv_sub hl [] rfl)
  · have hf := ite_f hf hc_3
    refine lv_aload_n hC.1 hC.2.1 dX11_common_8 rfl (lv_at hl 0 rfl) ?_
    refine g_get hC hW hin11_common_11 0 rfl rfl 2 (by decide) 1 rfl rfl dX11_common_9 ?_
    refine lv_aload_n hC.1 hC.2.1 dX11_common_12 rfl (lv_at hl 0 rfl) ?_
    refine g_get hC hW hin11_common_11 0 rfl rfl 2 (by decide) 1 rfl rfl dX11_common_13 ?_
    refine lv_iload_n hC.1 hC.2.1 dX11_common_16 rfl (lv_at hl 1 rfl) ?_
    refine lv_aload_n hC.1 hC.2.1 dX11_common_17 rfl (lv_at hl 0 rfl) ?_
    refine g_get hC hW hin11_common_11 0 rfl rfl 6 (by decide) 2 rfl rfl dX11_common_18 ?_
    refine g_get hC hW hin11_common_0 15 rfl rfl 0 (by decide) 3 rfl rfl dX11_common_21 ?_
    obtain ⟨r_4, hg_5, hf⟩ := bd_of hf
    refine g_calliS (w' := w11 cy aX aT aR aH aJ aP aU aB aQ aK aL aE0 aE1 aE2 aE3 SX ++ (w4 cy aH SH ++ (w0 cy aB SB))) hC hW (c6_reached l D cy ad aH hg_5) (va_cwS 3 hC.2.2.2.2.1 gX11_common_X6_reached rfl rfl rfl hdS6_reached ⟨Nat.le_of_ble_eq_true rfl, Nat.le_of_ble_eq_true rfl⟩) (⟨[3, 4, 5, 6, 7, 8, 9, 10, 11, 12, 13, 14], [0, 1, 2, 15, 16, 17, 18, 19, 20], [0, 1, 2, 9, 10, 11, 12, 13, 14, 15, 16, 17, 18, 19, 20, 3, 4, 5, 6, 7, 8], w11 cy aX aT aR aH aJ aP aU aB aQ aK aL aE0 aE1 aE2 aE3 SX ++ (w0 cy aB SB), rfl, rfl, rfl, rfl, by decide, rfl, rfl⟩) rfl hl.1 rfl (Nat.le_of_ble_eq_true rfl) dX11_common_24 ⟨Nat.zero_le _, Nat.zero_le _⟩ (fun H locs hW => ?_)
    obtain ⟨r_6, hg_7, hf⟩ := bd_of hf
    refine g_calliV (w' := w11 cy aX aT aR aH aJ aP aU aB aQ aK aL aE0 aE1 aE2 aE3 SX ++ (w4 cy aH SH ++ (w0 cy aB SB))) hC hW (c4_guestsIn l D cy ad aH hg_7) (cwV 1 hC.2.2.2.2.1 gX11_common_X4_guestsIn rfl rfl rfl hdV4_guestsIn ⟨Nat.le_of_ble_eq_true rfl, Nat.le_of_ble_eq_true rfl⟩) (⟨[3, 4, 5, 6, 7, 8, 9, 10, 11, 12, 13, 14], [0, 1, 2, 15, 16, 17, 18, 19, 20], [0, 1, 2, 9, 10, 11, 12, 13, 14, 15, 16, 17, 18, 19, 20, 3, 4, 5, 6, 7, 8], w11 cy aX aT aR aH aJ aP aU aB aQ aK aL aE0 aE1 aE2 aE3 SX ++ (w0 cy aB SB), rfl, rfl, rfl, rfl, by decide, rfl, rfl⟩) 0 4 rfl rfl rfl rfl hl.1 rfl (Nat.le_of_ble_eq_true rfl) dX11_common_27 ⟨Nat.zero_le _, Nat.zero_le _⟩ (fun H locs hW => ?_)
    refine lv_goto (tgt := 34) hC.1 hC.2.1 dX11_common_30 (by decide) ?_
    exact t11_common_34 hC  _ _ _ _ _ _ _ _ hf hW (lv_sub hl [] rfl)
set_option maxRecDepth 100000 in
set_option maxHeartbeats 4000000 in
theorem c11_common (l : Launch) (D : va_G) (cy : Nat → ClassId) (ad : Nat → Nat) (aX : Nat → Nat) (aT : Nat → Nat) (aR : Nat → Nat) (aH : Nat → Nat) (aJ : Nat → Nat) (aP : Nat → Nat) (aU : Nat → Nat) (aB : Nat → Nat) (aQ : Nat → Nat) (aK : Nat → Nat) (aL : Nat → Nat) (aE0 : Nat → Nat) (aE1 : Nat → Nat) (aE2 : Nat → Nat) (aE3 : Nat → Nat) {x1 : Int32} {SX : Ob} {SH : Ob} {SB : Ob} {res : Int32} (h : f11_common x1 SX SH SB = some res) : GCi l yX11_common wsX11_common rm11_common [.ref (aX 0), .int x1] D cy ad (w11 cy aX aT aR aH aJ aP aU aB aQ aK aL aE0 aE1 aE2 aE3 SX ++ (w4 cy aH SH ++ (w0 cy aB SB))) (w11 cy aX aT aR aH aJ aP aU aB aQ aK aL aE0 aE1 aE2 aE3 SX ++ (w4 cy aH SH ++ (w0 cy aB SB))) res := fun sz => GC.start (own := RX11) (Qc := fun A => QI D cy (w11 cy aX aT aR aH aJ aP aU aB aQ aK aL aE0 aE1 aE2 aE3 SX ++ (w4 cy aH SH ++ (w0 cy aB SB))) A res) sz (by decide) rfl rfl (Nat.le_of_ble_eq_true rfl) (fun p e s m below meth c A ls hC hW hl => t11_common_0 hC _ _ _ _ _ _ _ _ h hW (lv_sub hl [0, 1] rfl))
abbrev rm11_hear : Room := { frames := 1, cells := 0, slots := 0, locals := 22 }
theorem hdV11_hear : yX11_hear.cls = RX11 ∧ (yX11_hear.cls ≠ "java/lang/invoke/MethodHandle" ∧ yX11_hear.cls ≠ "java/lang/invoke/VarHandle" ∧ (parseMethodDescriptor yX11_hear.desc).map (fun d => d.parameters.length) = some 2) := by decide +kernel
theorem hin11_hear_11 : ∀ x ∈ u_ws RX11 TX11 12, x ∈ wsX11_hear := fun _ h => List.mem_cons_of_mem _ (List.mem_append_left _ (List.mem_append_left _ (List.mem_append_right _ h)))
set_option maxRecDepth 100000 in
set_option maxHeartbeats 4000000 in
theorem t11_hear_28 (hC : Cx p s m args meth c cX11_hear 3 wsX11_hear RX11 (some .boolean)) : ∀ (z0 : Int32) (SX : Ob) (SH : Ob) (SB : Ob) (res : Int32 × Ob) (H : Heap) (locs : List Loc) (ls : Array Slot), f11_hear_28 z0 SX SH SB = some res → GW D cy ad (w11 cy aX aT aR aH aJ aP aU aB aQ aK aL aE0 aE1 aE2 aE3 SX ++ (w4 cy aH SH ++ (w0 cy aB SB))) A s H locs → lv_has ls 3 [] → W p l e rm11_hear s m args below meth c H locs 0 0 (MQ below (QI D cy (w11 cy aX aT aR aH aJ aP aU aB aQ aK aL aE0 aE1 aE2 aE3 SX ++ (w4 cy aH SH ++ (w0 cy aB (res.2)))) A (res.1)) args s 0 0 A) (F0 m 28 ls [.int z0]) := by
  intro z0 SX SH SB res H locs ls hf hW hl
  unfold f11_hear_28 at hf
  obtain ⟨hz, hf⟩ := ck_of hf
  obtain rfl := Option.some.inj hf
  exact g_zret hC hW hz dX11_hear_28
set_option maxRecDepth 100000 in
set_option maxHeartbeats 4000000 in
theorem t11_hear_27 (hC : Cx p s m args meth c cX11_hear 3 wsX11_hear RX11 (some .boolean)) : ∀ (SX : Ob) (SH : Ob) (SB : Ob) (res : Int32 × Ob) (H : Heap) (locs : List Loc) (ls : Array Slot), f11_hear_27 SX SH SB = some res → GW D cy ad (w11 cy aX aT aR aH aJ aP aU aB aQ aK aL aE0 aE1 aE2 aE3 SX ++ (w4 cy aH SH ++ (w0 cy aB SB))) A s H locs → lv_has ls 3 [] → W p l e rm11_hear s m args below meth c H locs 0 0 (MQ below (QI D cy (w11 cy aX aT aR aH aJ aP aU aB aQ aK aL aE0 aE1 aE2 aE3 SX ++ (w4 cy aH SH ++ (w0 cy aB (res.2)))) A (res.1)) args s 0 0 A) (F0 m 27 ls []) := by
  intro SX SH SB res H locs ls hf hW hl
  unfold f11_hear_27 at hf
  refine lv_iconst (v := 0) hC.1 hC.2.1 dX11_hear_27 (by decide) ?_
  exact t11_hear_28 hC  _ _ _ _ _ _ _ _ hf hW (lv_sub hl [] rfl)
set_option maxRecDepth 100000 in
set_option maxHeartbeats 4000000 in
theorem t11_hear_0 (hC : Cx p s m args meth c cX11_hear 3 wsX11_hear RX11 (some .boolean)) : ∀ (x1 : Int32) (x2 : Int32) (SX : Ob) (SH : Ob) (SB : Ob) (res : Int32 × Ob) (H : Heap) (locs : List Loc) (ls : Array Slot), f11_hear x1 x2 SX SH SB = some res → GW D cy ad (w11 cy aX aT aR aH aJ aP aU aB aQ aK aL aE0 aE1 aE2 aE3 SX ++ (w4 cy aH SH ++ (w0 cy aB SB))) A s H locs → lv_has ls 3 [(0, .ref (aX 0)), (1, .int x1), (2, .int x2)] → W p l e rm11_hear s m args below meth c H locs 0 0 (MQ below (QI D cy (w11 cy aX aT aR aH aJ aP aU aB aQ aK aL aE0 aE1 aE2 aE3 SX ++ (w4 cy aH SH ++ (w0 cy aB (res.2)))) A (res.1)) args s 0 0 A) (F0 m 0 ls []) := by
  intro x1 x2 SX SH SB res H locs ls hf hW hl
  unfold f11_hear at hf
  refine lv_aload_n hC.1 hC.2.1 dX11_hear_0 rfl (lv_at hl 0 rfl) ?_
  refine g_get hC hW hin11_hear_11 0 rfl rfl 2 (by decide) 1 rfl rfl dX11_hear_1 ?_
  refine lv_iload_n hC.1 hC.2.1 dX11_hear_4 rfl (lv_at hl 1 rfl) ?_
  obtain ⟨r_1, hg_2, hf⟩ := bd_of hf
  refine g_calliV (w' := w11 cy aX aT aR aH aJ aP aU aB aQ aK aL aE0 aE1 aE2 aE3 SX ++ (w4 cy aH SH ++ (w0 cy aB SB))) hC hW (c4_hasSign l D cy ad aH hg_2) (cwV 1 hC.2.2.2.2.1 gX11_hear_X4_hasSign rfl rfl rfl hdV4_hasSign ⟨Nat.le_of_ble_eq_true rfl, Nat.le_of_ble_eq_true rfl⟩) (⟨[3, 4, 5, 6, 7, 8, 9, 10, 11, 12, 13, 14], [0, 1, 2, 15, 16, 17, 18, 19, 20], [0, 1, 2, 9, 10, 11, 12, 13, 14, 15, 16, 17, 18, 19, 20, 3, 4, 5, 6, 7, 8], w11 cy aX aT aR aH aJ aP aU aB aQ aK aL aE0 aE1 aE2 aE3 SX ++ (w0 cy aB SB), rfl, rfl, rfl, rfl, by decide, rfl, rfl⟩) 0 4 rfl rfl rfl rfl hl.1 rfl (Nat.le_of_ble_eq_true rfl) dX11_hear_5 ⟨Nat.zero_le _, Nat.zero_le _⟩ (fun H locs hW => ?_)
  refine lv_if_eq (tgt := 27) hC.1 hC.2.1 dX11_hear_8 (by decide) (fun hc_3 => ?_) (fun hc_3 => ?_)
  · have hf := ite_t hf hc_3
    exact t11_hear_27 hC  _ _ _ _ _ _ _ hf hW (lv_sub hl [] rfl)
  · have hf := ite_f hf hc_3
    refine lv_aload_n hC.1 hC.2.1 dX11_hear_11 rfl (lv_at hl 0 rfl) ?_
    refine g_get hC hW hin11_hear_11 0 rfl rfl 6 (by decide) 2 rfl rfl dX11_hear_12 ?_
    refine lv_iload_n hC.1 hC.2.1 dX11_hear_15 rfl (lv_at hl 1 rfl) ?_
    refine lv_iload_n hC.1 hC.2.1 dX11_hear_16 rfl (lv_at hl 2 rfl) ?_
    obtain ⟨r_4, hg_5, hf⟩ := bd_of hf
    refine g_calliV (w' := w11 cy aX aT aR aH aJ aP aU aB aQ aK aL aE0 aE1 aE2 aE3 SX ++ (w4 cy aH SH ++ (w0 cy aB (r_4.2)))) hC hW (c0_hearAlso l D cy ad aB hg_5) (cwV 2 hC.2.2.2.2.1 gX11_hear_X0_hearAlso rfl rfl rfl hdV0_hearAlso ⟨Nat.le_of_ble_eq_true rfl, Nat.le_of_ble_eq_true rfl⟩) (⟨[15, 16, 17, 18, 19, 20], [0, 1, 2, 3, 4, 5, 6, 7, 8, 9, 10, 11, 12, 13, 14], [0, 1, 2, 3, 4, 5, 6, 7, 8, 9, 10, 11, 12, 13, 14, 15, 16, 17, 18, 19, 20], w11 cy aX aT aR aH aJ aP aU aB aQ aK aL aE0 aE1 aE2 aE3 SX ++ (w4 cy aH SH), rfl, rfl, rfl, rfl, by decide, rfl, rfl⟩) 0 0 rfl rfl rfl rfl hl.1 rfl (Nat.le_of_ble_eq_true rfl) dX11_hear_17 ⟨Nat.zero_le _, Nat.zero_le _⟩ (fun H locs hW => ?_)
    refine lv_if_eq (tgt := 27) hC.1 hC.2.1 dX11_hear_20 (by decide) (fun hc_6 => ?_) (fun hc_6 => ?_)
    · have hf := ite_t hf hc_6
      exact t11_hear_27 hC  _ _ _ _ _ _ _ hf hW (lv_sub hl [] rfl)
    · have hf := ite_f hf hc_6
      refine lv_iconst (v := 1) hC.1 hC.2.1 dX11_hear_23 (by decide) ?_
      refine lv_goto (tgt := 28) hC.1 hC.2.1 dX11_hear_24 (by decide) ?_
      exact t11_hear_28 hC  _ _ _ _ _ _ _ _ hf hW (lv_sub hl [] rfl)
set_option maxRecDepth 100000 in
set_option maxHeartbeats 4000000 in
theorem c11_hear (l : Launch) (D : va_G) (cy : Nat → ClassId) (ad : Nat → Nat) (aX : Nat → Nat) (aT : Nat → Nat) (aR : Nat → Nat) (aH : Nat → Nat) (aJ : Nat → Nat) (aP : Nat → Nat) (aU : Nat → Nat) (aB : Nat → Nat) (aQ : Nat → Nat) (aK : Nat → Nat) (aL : Nat → Nat) (aE0 : Nat → Nat) (aE1 : Nat → Nat) (aE2 : Nat → Nat) (aE3 : Nat → Nat) {x1 : Int32} {x2 : Int32} {SX : Ob} {SH : Ob} {SB : Ob} {res : Int32 × Ob} (h : f11_hear x1 x2 SX SH SB = some res) : GCi l yX11_hear wsX11_hear rm11_hear [.ref (aX 0), .int x1, .int x2] D cy ad (w11 cy aX aT aR aH aJ aP aU aB aQ aK aL aE0 aE1 aE2 aE3 SX ++ (w4 cy aH SH ++ (w0 cy aB SB))) (w11 cy aX aT aR aH aJ aP aU aB aQ aK aL aE0 aE1 aE2 aE3 SX ++ (w4 cy aH SH ++ (w0 cy aB (res.2)))) (res.1) := fun sz => GC.start (own := RX11) (Qc := fun A => QI D cy (w11 cy aX aT aR aH aJ aP aU aB aQ aK aL aE0 aE1 aE2 aE3 SX ++ (w4 cy aH SH ++ (w0 cy aB (res.2)))) A (res.1)) sz (by decide) rfl rfl (Nat.le_of_ble_eq_true rfl) (fun p e s m below meth c A ls hC hW hl => t11_hear_0 hC _ _ _ _ _ _ _ _ _ h hW (lv_sub hl [0, 1, 2] rfl))
abbrev rm11_likely : Room := { frames := 3, cells := 0, slots := 0, locals := 79 }
theorem hdV11_likely : yX11_likely.cls = RX11 ∧ (yX11_likely.cls ≠ "java/lang/invoke/MethodHandle" ∧ yX11_likely.cls ≠ "java/lang/invoke/VarHandle" ∧ (parseMethodDescriptor yX11_likely.desc).map (fun d => d.parameters.length) = some 0) := by decide +kernel
theorem hin11_likely_11 : ∀ x ∈ u_ws RX11 TX11 12, x ∈ wsX11_likely := fun _ h => List.mem_cons_of_mem _ (List.mem_append_left _ (List.mem_append_left _ (List.mem_append_right _ h)))
set_option maxRecDepth 100000 in
set_option maxHeartbeats 4000000 in
theorem t11_likely_0 (hC : Cx p s m args meth c cX11_likely 1 wsX11_likely RX11 (some .int)) : ∀ (SX : Ob) (SH : Ob) (SB : Ob) (res : Int32) (H : Heap) (locs : List Loc) (ls : Array Slot), f11_likely SX SH SB = some res → GW D cy ad (w11 cy aX aT aR aH aJ aP aU aB aQ aK aL aE0 aE1 aE2 aE3 SX ++ (w4 cy aH SH ++ (w0 cy aB SB))) A s H locs → lv_has ls 1 [(0, .ref (aX 0))] → W p l e rm11_likely s m args below meth c H locs 0 0 (MQ below (QI D cy (w11 cy aX aT aR aH aJ aP aU aB aQ aK aL aE0 aE1 aE2 aE3 SX ++ (w4 cy aH SH ++ (w0 cy aB SB))) A res) args s 0 0 A) (F0 m 0 ls []) := by
  intro SX SH SB res H locs ls hf hW hl
  unfold f11_likely at hf
  refine lv_aload_n hC.1 hC.2.1 dX11_likely_0 rfl (lv_at hl 0 rfl) ?_
  refine g_get hC hW hin11_likely_11 0 rfl rfl 2 (by decide) 1 rfl rfl dX11_likely_1 ?_
  refine lv_aload_n hC.1 hC.2.1 dX11_likely_4 rfl (lv_at hl 0 rfl) ?_
  refine g_get hC hW hin11_likely_11 0 rfl rfl 6 (by decide) 2 rfl rfl dX11_likely_5 ?_
  obtain ⟨r_1, hg_2, hf⟩ := bd_of hf
  refine g_calliS (w' := w11 cy aX aT aR aH aJ aP aU aB aQ aK aL aE0 aE1 aE2 aE3 SX ++ (w4 cy aH SH ++ (w0 cy aB SB))) hC hW (c1_mostLikely l D cy ad aH aB hg_2) (va_cwS 2 hC.2.2.2.2.1 gX11_likely_X1_mostLikely rfl rfl rfl hdS1_mostLikely ⟨Nat.le_of_ble_eq_true rfl, Nat.le_of_ble_eq_true rfl⟩) (⟨[3, 4, 5, 6, 7, 8, 9, 10, 11, 12, 13, 14, 15, 16, 17, 18, 19, 20], [0, 1, 2], [0, 1, 2, 3, 4, 5, 6, 7, 8, 9, 10, 11, 12, 13, 14, 15, 16, 17, 18, 19, 20], w11 cy aX aT aR aH aJ aP aU aB aQ aK aL aE0 aE1 aE2 aE3 SX, rfl, rfl, rfl, rfl, by decide, rfl, rfl⟩) rfl hl.1 rfl (Nat.le_of_ble_eq_true rfl) dX11_likely_8 ⟨Nat.zero_le _, Nat.zero_le _⟩ (fun H locs hW => ?_)
  obtain rfl := Option.some.inj hf
  exact g_iret hC hW dX11_likely_11
set_option maxRecDepth 100000 in
set_option maxHeartbeats 4000000 in
theorem c11_likely (l : Launch) (D : va_G) (cy : Nat → ClassId) (ad : Nat → Nat) (aX : Nat → Nat) (aT : Nat → Nat) (aR : Nat → Nat) (aH : Nat → Nat) (aJ : Nat → Nat) (aP : Nat → Nat) (aU : Nat → Nat) (aB : Nat → Nat) (aQ : Nat → Nat) (aK : Nat → Nat) (aL : Nat → Nat) (aE0 : Nat → Nat) (aE1 : Nat → Nat) (aE2 : Nat → Nat) (aE3 : Nat → Nat) {SX : Ob} {SH : Ob} {SB : Ob} {res : Int32} (h : f11_likely SX SH SB = some res) : GCi l yX11_likely wsX11_likely rm11_likely [.ref (aX 0)] D cy ad (w11 cy aX aT aR aH aJ aP aU aB aQ aK aL aE0 aE1 aE2 aE3 SX ++ (w4 cy aH SH ++ (w0 cy aB SB))) (w11 cy aX aT aR aH aJ aP aU aB aQ aK aL aE0 aE1 aE2 aE3 SX ++ (w4 cy aH SH ++ (w0 cy aB SB))) res := fun sz => GC.start (own := RX11) (Qc := fun A => QI D cy (w11 cy aX aT aR aH aJ aP aU aB aQ aK aL aE0 aE1 aE2 aE3 SX ++ (w4 cy aH SH ++ (w0 cy aB SB))) A res) sz (by decide) rfl rfl (Nat.le_of_ble_eq_true rfl) (fun p e s m below meth c A ls hC hW hl => t11_likely_0 hC _ _ _ _ _ _ _ h hW (lv_sub hl [0] rfl))
abbrev rm11_odds : Room := { frames := 3, cells := 0, slots := 0, locals := 76 }
theorem hdV11_odds : yX11_odds.cls = RX11 ∧ (yX11_odds.cls ≠ "java/lang/invoke/MethodHandle" ∧ yX11_odds.cls ≠ "java/lang/invoke/VarHandle" ∧ (parseMethodDescriptor yX11_odds.desc).map (fun d => d.parameters.length) = some 1) := by decide +kernel
theorem hin11_odds_11 : ∀ x ∈ u_ws RX11 TX11 12, x ∈ wsX11_odds := fun _ h => List.mem_cons_of_mem _ (List.mem_append_left _ (List.mem_append_left _ (List.mem_append_right _ h)))
set_option maxRecDepth 100000 in
set_option maxHeartbeats 4000000 in
theorem t11_odds_27 (hC : Cx p s m args meth c cX11_odds 2 wsX11_odds RX11 (some .int)) : ∀ (z0 : Int32) (SX : Ob) (SH : Ob) (SB : Ob) (res : Int32) (H : Heap) (locs : List Loc) (ls : Array Slot), f11_odds_27 z0 SX SH SB = some res → GW D cy ad (w11 cy aX aT aR aH aJ aP aU aB aQ aK aL aE0 aE1 aE2 aE3 SX ++ (w4 cy aH SH ++ (w0 cy aB SB))) A s H locs → lv_has ls 2 [] → W p l e rm11_odds s m args below meth c H locs 0 0 (MQ below (QI D cy (w11 cy aX aT aR aH aJ aP aU aB aQ aK aL aE0 aE1 aE2 aE3 SX ++ (w4 cy aH SH ++ (w0 cy aB SB))) A res) args s 0 0 A) (F0 m 27 ls [.int z0]) := by
  intro z0 SX SH SB res H locs ls hf hW hl
  unfold f11_odds_27 at hf
  obtain rfl := Option.some.inj hf
  exact g_iret hC hW dX11_odds_27
set_option maxRecDepth 100000 in
set_option maxHeartbeats 4000000 in
theorem t11_odds_0 (hC : Cx p s m args meth c cX11_odds 2 wsX11_odds RX11 (some .int)) : ∀ (x1 : Int32) (SX : Ob) (SH : Ob) (SB : Ob) (res : Int32) (H : Heap) (locs : List Loc) (ls : Array Slot), f11_odds x1 SX SH SB = some res → GW D cy ad (w11 cy aX aT aR aH aJ aP aU aB aQ aK aL aE0 aE1 aE2 aE3 SX ++ (w4 cy aH SH ++ (w0 cy aB SB))) A s H locs → lv_has ls 2 [(0, .ref (aX 0)), (1, .int x1)] → W p l e rm11_odds s m args below meth c H locs 0 0 (MQ below (QI D cy (w11 cy aX aT aR aH aJ aP aU aB aQ aK aL aE0 aE1 aE2 aE3 SX ++ (w4 cy aH SH ++ (w0 cy aB SB))) A res) args s 0 0 A) (F0 m 0 ls []) := by
  intro x1 SX SH SB res H locs ls hf hW hl
  unfold f11_odds at hf
  refine lv_aload_n hC.1 hC.2.1 dX11_odds_0 rfl (lv_at hl 0 rfl) ?_
  refine g_get hC hW hin11_odds_11 0 rfl rfl 2 (by decide) 1 rfl rfl dX11_odds_1 ?_
  refine lv_iload_n hC.1 hC.2.1 dX11_odds_4 rfl (lv_at hl 1 rfl) ?_
  obtain ⟨r_1, hg_2, hf⟩ := bd_of hf
  refine g_calliV (w' := w11 cy aX aT aR aH aJ aP aU aB aQ aK aL aE0 aE1 aE2 aE3 SX ++ (w4 cy aH SH ++ (w0 cy aB SB))) hC hW (c4_hasGuest l D cy ad aH hg_2) (cwV 1 hC.2.2.2.2.1 gX11_odds_X4_hasGuest rfl rfl rfl hdV4_hasGuest ⟨Nat.le_of_ble_eq_true rfl, Nat.le_of_ble_eq_true rfl⟩) (⟨[3, 4, 5, 6, 7, 8, 9, 10, 11, 12, 13, 14], [0, 1, 2, 15, 16, 17, 18, 19, 20], [0, 1, 2, 9, 10, 11, 12, 13, 14, 15, 16, 17, 18, 19, 20, 3, 4, 5, 6, 7, 8], w11 cy aX aT aR aH aJ aP aU aB aQ aK aL aE0 aE1 aE2 aE3 SX ++ (w0 cy aB SB), rfl, rfl, rfl, rfl, by decide, rfl, rfl⟩) 0 4 rfl rfl rfl rfl hl.1 rfl (Nat.le_of_ble_eq_true rfl) dX11_odds_5 ⟨Nat.zero_le _, Nat.zero_le _⟩ (fun H locs hW => ?_)
  refine lv_if_eq (tgt := 26) hC.1 hC.2.1 dX11_odds_8 (by decide) (fun hc_3 => ?_) (fun hc_3 => ?_)
  · have hf := ite_t hf hc_3
    refine lv_iconst (v := (-1)) hC.1 hC.2.1 dX11_odds_26 (by decide) ?_
    exact t11_odds_27 hC  _ _ _ _ _ _ _ _ hf hW (lv_sub hl [] rfl)
  · have hf := ite_f hf hc_3
    refine lv_aload_n hC.1 hC.2.1 dX11_odds_11 rfl (lv_at hl 0 rfl) ?_
    refine g_get hC hW hin11_odds_11 0 rfl rfl 2 (by decide) 1 rfl rfl dX11_odds_12 ?_
    refine lv_aload_n hC.1 hC.2.1 dX11_odds_15 rfl (lv_at hl 0 rfl) ?_
    refine g_get hC hW hin11_odds_11 0 rfl rfl 6 (by decide) 2 rfl rfl dX11_odds_16 ?_
    refine lv_iload_n hC.1 hC.2.1 dX11_odds_19 rfl (lv_at hl 1 rfl) ?_
    obtain ⟨r_4, hg_5, hf⟩ := bd_of hf
    refine g_calliS (w' := w11 cy aX aT aR aH aJ aP aU aB aQ aK aL aE0 aE1 aE2 aE3 SX ++ (w4 cy aH SH ++ (w0 cy aB SB))) hC hW (c1_share l D cy ad aH aB hg_5) (va_cwS 3 hC.2.2.2.2.1 gX11_odds_X1_share rfl rfl rfl hdS1_share ⟨Nat.le_of_ble_eq_true rfl, Nat.le_of_ble_eq_true rfl⟩) (⟨[3, 4, 5, 6, 7, 8, 9, 10, 11, 12, 13, 14, 15, 16, 17, 18, 19, 20], [0, 1, 2], [0, 1, 2, 3, 4, 5, 6, 7, 8, 9, 10, 11, 12, 13, 14, 15, 16, 17, 18, 19, 20], w11 cy aX aT aR aH aJ aP aU aB aQ aK aL aE0 aE1 aE2 aE3 SX, rfl, rfl, rfl, rfl, by decide, rfl, rfl⟩) rfl hl.1 rfl (Nat.le_of_ble_eq_true rfl) dX11_odds_20 ⟨Nat.zero_le _, Nat.zero_le _⟩ (fun H locs hW => ?_)
    refine lv_goto (tgt := 27) hC.1 hC.2.1 dX11_odds_23 (by decide) ?_
    exact t11_odds_27 hC  _ _ _ _ _ _ _ _ hf hW (lv_sub hl [] rfl)
set_option maxRecDepth 100000 in
set_option maxHeartbeats 4000000 in
theorem c11_odds (l : Launch) (D : va_G) (cy : Nat → ClassId) (ad : Nat → Nat) (aX : Nat → Nat) (aT : Nat → Nat) (aR : Nat → Nat) (aH : Nat → Nat) (aJ : Nat → Nat) (aP : Nat → Nat) (aU : Nat → Nat) (aB : Nat → Nat) (aQ : Nat → Nat) (aK : Nat → Nat) (aL : Nat → Nat) (aE0 : Nat → Nat) (aE1 : Nat → Nat) (aE2 : Nat → Nat) (aE3 : Nat → Nat) {x1 : Int32} {SX : Ob} {SH : Ob} {SB : Ob} {res : Int32} (h : f11_odds x1 SX SH SB = some res) : GCi l yX11_odds wsX11_odds rm11_odds [.ref (aX 0), .int x1] D cy ad (w11 cy aX aT aR aH aJ aP aU aB aQ aK aL aE0 aE1 aE2 aE3 SX ++ (w4 cy aH SH ++ (w0 cy aB SB))) (w11 cy aX aT aR aH aJ aP aU aB aQ aK aL aE0 aE1 aE2 aE3 SX ++ (w4 cy aH SH ++ (w0 cy aB SB))) res := fun sz => GC.start (own := RX11) (Qc := fun A => QI D cy (w11 cy aX aT aR aH aJ aP aU aB aQ aK aL aE0 aE1 aE2 aE3 SX ++ (w4 cy aH SH ++ (w0 cy aB SB))) A res) sz (by decide) rfl rfl (Nat.le_of_ble_eq_true rfl) (fun p e s m below meth c A ls hC hW hl => t11_odds_0 hC _ _ _ _ _ _ _ _ h hW (lv_sub hl [0, 1] rfl))
abbrev rm11_errors : Room := { frames := 2, cells := 0, slots := 0, locals := 53 }
theorem hdV11_errors : yX11_errors.cls = RX11 ∧ (yX11_errors.cls ≠ "java/lang/invoke/MethodHandle" ∧ yX11_errors.cls ≠ "java/lang/invoke/VarHandle" ∧ (parseMethodDescriptor yX11_errors.desc).map (fun d => d.parameters.length) = some 3) := by decide +kernel
theorem hin11_errors_11 : ∀ x ∈ u_ws RX11 TX11 12, x ∈ wsX11_errors := fun _ h => List.mem_cons_of_mem _ (List.mem_append_left _ (List.mem_append_left _ (List.mem_append_right _ h)))
theorem hin11_errors_0 : ∀ x ∈ u_ws RX0 TX0 9, x ∈ wsX11_errors := fun _ h => List.mem_cons_of_mem _ (List.mem_append_left _ (List.mem_append_right _ h))
set_option maxRecDepth 100000 in
set_option maxHeartbeats 4000000 in
theorem t11_errors_31 (hC : Cx p s m args meth c cX11_errors 4 wsX11_errors RX11 (some .int)) : ∀ (SX : Ob) (SH : Ob) (SB : Ob) (res : Int32) (H : Heap) (locs : List Loc) (ls : Array Slot), f11_errors_31 SX SH SB = some res → GW D cy ad (w11 cy aX aT aR aH aJ aP aU aB aQ aK aL aE0 aE1 aE2 aE3 SX ++ (w4 cy aH SH ++ (w0 cy aB SB))) A s H locs → lv_has ls 4 [] → W p l e rm11_errors s m args below meth c H locs 0 0 (MQ below (QI D cy (w11 cy aX aT aR aH aJ aP aU aB aQ aK aL aE0 aE1 aE2 aE3 SX ++ (w4 cy aH SH ++ (w0 cy aB SB))) A res) args s 0 0 A) (F0 m 31 ls []) := by
  intro SX SH SB res H locs ls hf hW hl
  unfold f11_errors_31 at hf
  refine lv_iconst (v := (-1)) hC.1 hC.2.1 dX11_errors_31 (by decide) ?_
  obtain rfl := Option.some.inj hf
  exact g_iret hC hW dX11_errors_32
set_option maxRecDepth 100000 in
set_option maxHeartbeats 4000000 in
theorem t11_errors_56 (hC : Cx p s m args meth c cX11_errors 4 wsX11_errors RX11 (some .int)) : ∀ (z1 : Int32) (z2 : Int32) (z3 : Int32) (z4 : Int32) (SX : Ob) (SH : Ob) (SB : Ob) (res : Int32) (H : Heap) (locs : List Loc) (ls : Array Slot), f11_errors_56 z1 z2 z3 z4 SX SH SB = some res → GW D cy ad (w11 cy aX aT aR aH aJ aP aU aB aQ aK aL aE0 aE1 aE2 aE3 SX ++ (w4 cy aH SH ++ (w0 cy aB SB))) A s H locs → lv_has ls 4 [] → W p l e rm11_errors s m args below meth c H locs 0 0 (MQ below (QI D cy (w11 cy aX aT aR aH aJ aP aU aB aQ aK aL aE0 aE1 aE2 aE3 SX ++ (w4 cy aH SH ++ (w0 cy aB SB))) A res) args s 0 0 A) (F0 m 56 ls [.int z4, .int z3, .int z2, .int z1, .ref (aH 0)]) := by
  intro z1 z2 z3 z4 SX SH SB res H locs ls hf hW hl
  unfold f11_errors_56 at hf
  obtain ⟨r_1, hg_2, hf⟩ := bd_of hf
  refine g_calliS (w' := w11 cy aX aT aR aH aJ aP aU aB aQ aK aL aE0 aE1 aE2 aE3 SX ++ (w4 cy aH SH ++ (w0 cy aB SB))) hC hW (c1_wrongly l D cy ad aH hg_2) (va_cwS 5 hC.2.2.2.2.1 gX11_errors_X1_wrongly rfl rfl rfl hdS1_wrongly ⟨Nat.le_of_ble_eq_true rfl, Nat.le_of_ble_eq_true rfl⟩) (⟨[3, 4, 5, 6, 7, 8, 9, 10, 11, 12, 13, 14], [0, 1, 2, 15, 16, 17, 18, 19, 20], [0, 1, 2, 9, 10, 11, 12, 13, 14, 15, 16, 17, 18, 19, 20, 3, 4, 5, 6, 7, 8], w11 cy aX aT aR aH aJ aP aU aB aQ aK aL aE0 aE1 aE2 aE3 SX ++ (w0 cy aB SB), rfl, rfl, rfl, rfl, by decide, rfl, rfl⟩) rfl hl.1 rfl (Nat.le_of_ble_eq_true rfl) dX11_errors_56 ⟨Nat.zero_le _, Nat.zero_le _⟩ (fun H locs hW => ?_)
  obtain rfl := Option.some.inj hf
  exact g_iret hC hW dX11_errors_59
set_option maxRecDepth 100000 in
set_option maxHeartbeats 4000000 in
theorem t11_errors_0 (hC : Cx p s m args meth c cX11_errors 4 wsX11_errors RX11 (some .int)) : ∀ (x1 : Int32) (x2 : Int32) (x3 : Int32) (SX : Ob) (SH : Ob) (SB : Ob) (res : Int32) (H : Heap) (locs : List Loc) (ls : Array Slot), f11_errors x1 x2 x3 SX SH SB = some res → GW D cy ad (w11 cy aX aT aR aH aJ aP aU aB aQ aK aL aE0 aE1 aE2 aE3 SX ++ (w4 cy aH SH ++ (w0 cy aB SB))) A s H locs → lv_has ls 4 [(0, .ref (aX 0)), (1, .int x1), (2, .int x2), (3, .int x3)] → W p l e rm11_errors s m args below meth c H locs 0 0 (MQ below (QI D cy (w11 cy aX aT aR aH aJ aP aU aB aQ aK aL aE0 aE1 aE2 aE3 SX ++ (w4 cy aH SH ++ (w0 cy aB SB))) A res) args s 0 0 A) (F0 m 0 ls []) := by
  intro x1 x2 x3 SX SH SB res H locs ls hf hW hl
  unfold f11_errors at hf
  refine lv_aload_n hC.1 hC.2.1 dX11_errors_0 rfl (lv_at hl 0 rfl) ?_
  refine g_get hC hW hin11_errors_11 0 rfl rfl 2 (by decide) 1 rfl rfl dX11_errors_1 ?_
  refine lv_iload_n hC.1 hC.2.1 dX11_errors_4 rfl (lv_at hl 1 rfl) ?_
  obtain ⟨r_1, hg_2, hf⟩ := bd_of hf
  refine g_calliV (w' := w11 cy aX aT aR aH aJ aP aU aB aQ aK aL aE0 aE1 aE2 aE3 SX ++ (w4 cy aH SH ++ (w0 cy aB SB))) hC hW (c4_hasGuest l D cy ad aH hg_2) (cwV 1 hC.2.2.2.2.1 gX11_errors_X4_hasGuest rfl rfl rfl hdV4_hasGuest ⟨Nat.le_of_ble_eq_true rfl, Nat.le_of_ble_eq_true rfl⟩) (⟨[3, 4, 5, 6, 7, 8, 9, 10, 11, 12, 13, 14], [0, 1, 2, 15, 16, 17, 18, 19, 20], [0, 1, 2, 9, 10, 11, 12, 13, 14, 15, 16, 17, 18, 19, 20, 3, 4, 5, 6, 7, 8], w11 cy aX aT aR aH aJ aP aU aB aQ aK aL aE0 aE1 aE2 aE3 SX ++ (w0 cy aB SB), rfl, rfl, rfl, rfl, by decide, rfl, rfl⟩) 0 4 rfl rfl rfl rfl hl.1 rfl (Nat.le_of_ble_eq_true rfl) dX11_errors_5 ⟨Nat.zero_le _, Nat.zero_le _⟩ (fun H locs hW => ?_)
  refine lv_if_eq (tgt := 31) hC.1 hC.2.1 dX11_errors_8 (by decide) (fun hc_3 => ?_) (fun hc_3 => ?_)
  · have hf := ite_t hf hc_3
    exact t11_errors_31 hC  _ _ _ _ _ _ _ hf hW (lv_sub hl [] rfl)
  · have hf := ite_f hf hc_3
    refine lv_aload_n hC.1 hC.2.1 dX11_errors_11 rfl (lv_at hl 0 rfl) ?_
    refine g_get hC hW hin11_errors_11 0 rfl rfl 2 (by decide) 1 rfl rfl dX11_errors_12 ?_
    refine lv_iload_n hC.1 hC.2.1 dX11_errors_15 rfl (lv_at hl 2 rfl) ?_
    obtain ⟨r_4, hg_5, hf⟩ := bd_of hf
    refine g_calliV (w' := w11 cy aX aT aR aH aJ aP aU aB aQ aK aL aE0 aE1 aE2 aE3 SX ++ (w4 cy aH SH ++ (w0 cy aB SB))) hC hW (c4_hasSign l D cy ad aH hg_5) (cwV 1 hC.2.2.2.2.1 gX11_errors_X4_hasSign rfl rfl rfl hdV4_hasSign ⟨Nat.le_of_ble_eq_true rfl, Nat.le_of_ble_eq_true rfl⟩) (⟨[3, 4, 5, 6, 7, 8, 9, 10, 11, 12, 13, 14], [0, 1, 2, 15, 16, 17, 18, 19, 20], [0, 1, 2, 9, 10, 11, 12, 13, 14, 15, 16, 17, 18, 19, 20, 3, 4, 5, 6, 7, 8], w11 cy aX aT aR aH aJ aP aU aB aQ aK aL aE0 aE1 aE2 aE3 SX ++ (w0 cy aB SB), rfl, rfl, rfl, rfl, by decide, rfl, rfl⟩) 0 4 rfl rfl rfl rfl hl.1 rfl (Nat.le_of_ble_eq_true rfl) dX11_errors_16 ⟨Nat.zero_le _, Nat.zero_le _⟩ (fun H locs hW => ?_)
    refine lv_if_eq (tgt := 31) hC.1 hC.2.1 dX11_errors_19 (by decide) (fun hc_6 => ?_) (fun hc_6 => ?_)
    · have hf := ite_t hf hc_6
      exact t11_errors_31 hC  _ _ _ _ _ _ _ hf hW (lv_sub hl [] rfl)
    · have hf := ite_f hf hc_6
      refine lv_iload_n hC.1 hC.2.1 dX11_errors_22 rfl (lv_at hl 3 rfl) ?_
      refine lv_if_lt (tgt := 31) hC.1 hC.2.1 dX11_errors_23 (by decide) (fun hc_7 => ?_) (fun hc_7 => ?_)
      · have hf := ite_t hf hc_7
        exact t11_errors_31 hC  _ _ _ _ _ _ _ hf hW (lv_sub hl [] rfl)
      · have hf := ite_f hf hc_7
        refine lv_iload_n hC.1 hC.2.1 dX11_errors_26 rfl (lv_at hl 3 rfl) ?_
        refine lv_iconst (v := 1) hC.1 hC.2.1 dX11_errors_27 (by decide) ?_
        refine lv_icmp_le (tgt := 33) hC.1 hC.2.1 dX11_errors_28 (by decide) (fun hc_8 => ?_) (fun hc_8 => ?_)
        · have hf := ite_t hf hc_8
          refine lv_aload_n hC.1 hC.2.1 dX11_errors_33 rfl (lv_at hl 0 rfl) ?_
          refine g_get hC hW hin11_errors_11 0 rfl rfl 2 (by decide) 1 rfl rfl dX11_errors_34 ?_
          refine lv_aload_n hC.1 hC.2.1 dX11_errors_37 rfl (lv_at hl 0 rfl) ?_
          refine g_get hC hW hin11_errors_11 0 rfl rfl 6 (by decide) 2 rfl rfl dX11_errors_38 ?_
          refine g_get hC hW hin11_errors_0 15 rfl rfl 0 (by decide) 3 rfl rfl dX11_errors_41 ?_
          refine lv_iload_n hC.1 hC.2.1 dX11_errors_44 rfl (lv_at hl 1 rfl) ?_
          refine lv_iload_n hC.1 hC.2.1 dX11_errors_45 rfl (lv_at hl 2 rfl) ?_
          refine lv_iload_n hC.1 hC.2.1 dX11_errors_46 rfl (lv_at hl 3 rfl) ?_
          refine lv_iconst (v := 1) hC.1 hC.2.1 dX11_errors_47 (by decide) ?_
          refine lv_icmp_ne (tgt := 55) hC.1 hC.2.1 dX11_errors_48 (by decide) (fun hc_9 => ?_) (fun hc_9 => ?_)
          · have hf := ite_f hf hc_9
            refine lv_iconst (v := 0) hC.1 hC.2.1 dX11_errors_55 (by decide) ?_
            exact t11_errors_56 hC  _ _ _ _ _ _ _ _ _ _ _ hf hW (lv_sub hl [] rfl)
          · have hf := ite_t hf hc_9
            refine lv_iconst (v := 1) hC.1 hC.2.1 dX11_errors_51 (by decide) ?_
            refine lv_goto (tgt := 56) hC.1 hC.2.1 dX11_errors_52 (by decide) ?_
            exact t11_errors_56 hC  _ _ _ _ _ _ _ _ _ _ _ hf hW (lv_sub hl [] rfl)
        · have hf := ite_f hf hc_8
          exact t11_errors_31 hC  _ _ _ _ _ _ _ hf hW (lv_sub hl [] rfl)
set_option maxRecDepth 100000 in
set_option maxHeartbeats 4000000 in
theorem c11_errors (l : Launch) (D : va_G) (cy : Nat → ClassId) (ad : Nat → Nat) (aX : Nat → Nat) (aT : Nat → Nat) (aR : Nat → Nat) (aH : Nat → Nat) (aJ : Nat → Nat) (aP : Nat → Nat) (aU : Nat → Nat) (aB : Nat → Nat) (aQ : Nat → Nat) (aK : Nat → Nat) (aL : Nat → Nat) (aE0 : Nat → Nat) (aE1 : Nat → Nat) (aE2 : Nat → Nat) (aE3 : Nat → Nat) {x1 : Int32} {x2 : Int32} {x3 : Int32} {SX : Ob} {SH : Ob} {SB : Ob} {res : Int32} (h : f11_errors x1 x2 x3 SX SH SB = some res) : GCi l yX11_errors wsX11_errors rm11_errors [.ref (aX 0), .int x1, .int x2, .int x3] D cy ad (w11 cy aX aT aR aH aJ aP aU aB aQ aK aL aE0 aE1 aE2 aE3 SX ++ (w4 cy aH SH ++ (w0 cy aB SB))) (w11 cy aX aT aR aH aJ aP aU aB aQ aK aL aE0 aE1 aE2 aE3 SX ++ (w4 cy aH SH ++ (w0 cy aB SB))) res := fun sz => GC.start (own := RX11) (Qc := fun A => QI D cy (w11 cy aX aT aR aH aJ aP aU aB aQ aK aL aE0 aE1 aE2 aE3 SX ++ (w4 cy aH SH ++ (w0 cy aB SB))) A res) sz (by decide) rfl rfl (Nat.le_of_ble_eq_true rfl) (fun p e s m below meth c A ls hC hW hl => t11_errors_0 hC _ _ _ _ _ _ _ _ _ _ h hW (lv_sub hl [0, 1, 2, 3] rfl))
abbrev rm11_hunt : Room := { frames := 2, cells := 0, slots := 0, locals := 52 }
theorem hdV11_hunt : yX11_hunt.cls = RX11 ∧ (yX11_hunt.cls ≠ "java/lang/invoke/MethodHandle" ∧ yX11_hunt.cls ≠ "java/lang/invoke/VarHandle" ∧ (parseMethodDescriptor yX11_hunt.desc).map (fun d => d.parameters.length) = some 1) := by decide +kernel
theorem hin11_hunt_11 : ∀ x ∈ u_ws RX11 TX11 12, x ∈ wsX11_hunt := fun _ h => List.mem_cons_of_mem _ (List.mem_append_left _ (List.mem_append_left _ (List.mem_append_left _ (List.mem_append_right _ h))))
theorem hin11_hunt_0 : ∀ x ∈ u_ws RX0 TX0 9, x ∈ wsX11_hunt := fun _ h => List.mem_cons_of_mem _ (List.mem_append_left _ (List.mem_append_left _ (List.mem_append_right _ h)))
set_option maxRecDepth 100000 in
set_option maxHeartbeats 4000000 in
theorem t11_hunt_34 (hC : Cx p s m args meth c cX11_hunt 2 wsX11_hunt RX11 (some .int)) : ∀ (z0 : Int32) (SX : Ob) (SK : Ob) (SH : Ob) (SB : Ob) (res : Int32 × Ob) (H : Heap) (locs : List Loc) (ls : Array Slot), f11_hunt_34 z0 SX SK SH SB = some res → GW D cy ad (w11 cy aX aT aR aH aJ aP aU aB aQ aK aL aE0 aE1 aE2 aE3 SX ++ (w1 cy aK SK ++ (w4 cy aH SH ++ (w0 cy aB SB)))) A s H locs → lv_has ls 2 [] → W p l e rm11_hunt s m args below meth c H locs 0 0 (MQ below (QI D cy (w11 cy aX aT aR aH aJ aP aU aB aQ aK aL aE0 aE1 aE2 aE3 SX ++ (w1 cy aK (res.2) ++ (w4 cy aH SH ++ (w0 cy aB SB)))) A (res.1)) args s 0 0 A) (F0 m 34 ls [.int z0]) := by
  intro z0 SX SK SH SB res H locs ls hf hW hl
  unfold f11_hunt_34 at hf
  obtain rfl := Option.some.inj hf
  exact g_iret hC hW dX11_hunt_34
set_option maxRecDepth 100000 in
set_option maxHeartbeats 4000000 in
theorem t11_hunt_0 (hC : Cx p s m args meth c cX11_hunt 2 wsX11_hunt RX11 (some .int)) : ∀ (x1 : Int32) (SX : Ob) (SK : Ob) (SH : Ob) (SB : Ob) (res : Int32 × Ob) (H : Heap) (locs : List Loc) (ls : Array Slot), f11_hunt x1 SX SK SH SB = some res → GW D cy ad (w11 cy aX aT aR aH aJ aP aU aB aQ aK aL aE0 aE1 aE2 aE3 SX ++ (w1 cy aK SK ++ (w4 cy aH SH ++ (w0 cy aB SB)))) A s H locs → lv_has ls 2 [(0, .ref (aX 0)), (1, .int x1)] → W p l e rm11_hunt s m args below meth c H locs 0 0 (MQ below (QI D cy (w11 cy aX aT aR aH aJ aP aU aB aQ aK aL aE0 aE1 aE2 aE3 SX ++ (w1 cy aK (res.2) ++ (w4 cy aH SH ++ (w0 cy aB SB)))) A (res.1)) args s 0 0 A) (F0 m 0 ls []) := by
  intro x1 SX SK SH SB res H locs ls hf hW hl
  unfold f11_hunt at hf
  refine lv_iload_n hC.1 hC.2.1 dX11_hunt_0 rfl (lv_at hl 1 rfl) ?_
  refine lv_if_ge (tgt := 8) hC.1 hC.2.1 dX11_hunt_1 (by decide) (fun hc_1 => ?_) (fun hc_1 => ?_)
  · have hf := ite_t hf hc_1
    refine lv_aload_n hC.1 hC.2.1 dX11_hunt_8 rfl (lv_at hl 0 rfl) ?_
    refine g_get hC hW hin11_hunt_11 0 rfl rfl 10 (by decide) 1 rfl rfl dX11_hunt_9 ?_
    refine lv_aload_n hC.1 hC.2.1 dX11_hunt_12 rfl (lv_at hl 0 rfl) ?_
    refine g_get hC hW hin11_hunt_11 0 rfl rfl 2 (by decide) 2 rfl rfl dX11_hunt_13 ?_
    refine lv_aload_n hC.1 hC.2.1 dX11_hunt_16 rfl (lv_at hl 0 rfl) ?_
    refine g_get hC hW hin11_hunt_11 0 rfl rfl 2 (by decide) 2 rfl rfl dX11_hunt_17 ?_
    refine lv_aload_n hC.1 hC.2.1 dX11_hunt_20 rfl (lv_at hl 0 rfl) ?_
    refine g_get hC hW hin11_hunt_11 0 rfl rfl 6 (by decide) 3 rfl rfl dX11_hunt_21 ?_
    refine g_get hC hW hin11_hunt_0 18 rfl rfl 0 (by decide) 4 rfl rfl dX11_hunt_24 ?_
    obtain ⟨r_2, hg_3, hf⟩ := bd_of hf
    refine g_calliV (w' := w11 cy aX aT aR aH aJ aP aU aB aQ aK aL aE0 aE1 aE2 aE3 SX ++ (w1 cy aK SK ++ (w4 cy aH SH ++ (w0 cy aB SB)))) hC hW (c4_guestsIn l D cy ad aH hg_3) (cwV 1 hC.2.2.2.2.1 gX11_hunt_X4_guestsIn rfl rfl rfl hdV4_guestsIn ⟨Nat.le_of_ble_eq_true rfl, Nat.le_of_ble_eq_true rfl⟩) (⟨[6, 7, 8, 9, 10, 11, 12, 13, 14, 15, 16, 17], [0, 1, 2, 3, 4, 5, 18, 19, 20, 21, 22, 23], [0, 1, 2, 3, 4, 5, 12, 13, 14, 15, 16, 17, 18, 19, 20, 21, 22, 23, 6, 7, 8, 9, 10, 11], w11 cy aX aT aR aH aJ aP aU aB aQ aK aL aE0 aE1 aE2 aE3 SX ++ (w1 cy aK SK ++ (w0 cy aB SB)), rfl, rfl, rfl, rfl, by decide, rfl, rfl⟩) 0 4 rfl rfl rfl rfl hl.1 rfl (Nat.le_of_ble_eq_true rfl) dX11_hunt_27 ⟨Nat.zero_le _, Nat.zero_le _⟩ (fun H locs hW => ?_)
    refine lv_iload_n hC.1 hC.2.1 dX11_hunt_30 rfl (lv_at hl 1 rfl) ?_
    obtain ⟨r_4, hg_5, hf⟩ := bd_of hf
    refine g_calliV (w' := w11 cy aX aT aR aH aJ aP aU aB aQ aK aL aE0 aE1 aE2 aE3 SX ++ (w1 cy aK (r_4.2) ++ (w4 cy aH SH ++ (w0 cy aB SB)))) hC hW (c1_search l D cy ad aK aH hg_5) (cwV 3 hC.2.2.2.2.1 gX11_hunt_X1_search rfl rfl rfl hdV1_search ⟨Nat.le_of_ble_eq_true rfl, Nat.le_of_ble_eq_true rfl⟩) (⟨[3, 4, 5, 6, 7, 8, 9, 10, 11, 12, 13, 14, 15, 16, 17], [0, 1, 2, 18, 19, 20, 21, 22, 23], [0, 1, 2, 9, 10, 11, 12, 13, 14, 15, 16, 17, 18, 19, 20, 21, 22, 23, 3, 4, 5, 6, 7, 8], w11 cy aX aT aR aH aJ aP aU aB aQ aK aL aE0 aE1 aE2 aE3 SX ++ (w0 cy aB SB), rfl, rfl, rfl, rfl, by decide, rfl, rfl⟩) 0 1 rfl rfl rfl rfl hl.1 rfl (Nat.le_of_ble_eq_true rfl) dX11_hunt_31 ⟨Nat.zero_le _, Nat.zero_le _⟩ (fun H locs hW => ?_)
    exact t11_hunt_34 hC  _ _ _ _ _ _ _ _ _ hf hW (lv_sub hl [] rfl)
  · have hf := ite_f hf hc_1
    refine lv_iconst (v := (-1)) hC.1 hC.2.1 dX11_hunt_4 (by decide) ?_
    refine lv_goto (tgt := 34) hC.1 hC.2.1 dX11_hunt_5 (by decide) ?_
    exact t11_hunt_34 hC  _ _ _ _ _ _ _ _ _ hf hW (lv_sub hl [] rfl)
set_option maxRecDepth 100000 in
set_option maxHeartbeats 4000000 in
theorem c11_hunt (l : Launch) (D : va_G) (cy : Nat → ClassId) (ad : Nat → Nat) (aX : Nat → Nat) (aT : Nat → Nat) (aR : Nat → Nat) (aH : Nat → Nat) (aJ : Nat → Nat) (aP : Nat → Nat) (aU : Nat → Nat) (aB : Nat → Nat) (aQ : Nat → Nat) (aK : Nat → Nat) (aL : Nat → Nat) (aE0 : Nat → Nat) (aE1 : Nat → Nat) (aE2 : Nat → Nat) (aE3 : Nat → Nat) {x1 : Int32} {SX : Ob} {SK : Ob} {SH : Ob} {SB : Ob} {res : Int32 × Ob} (h : f11_hunt x1 SX SK SH SB = some res) : GCi l yX11_hunt wsX11_hunt rm11_hunt [.ref (aX 0), .int x1] D cy ad (w11 cy aX aT aR aH aJ aP aU aB aQ aK aL aE0 aE1 aE2 aE3 SX ++ (w1 cy aK SK ++ (w4 cy aH SH ++ (w0 cy aB SB)))) (w11 cy aX aT aR aH aJ aP aU aB aQ aK aL aE0 aE1 aE2 aE3 SX ++ (w1 cy aK (res.2) ++ (w4 cy aH SH ++ (w0 cy aB SB)))) (res.1) := fun sz => GC.start (own := RX11) (Qc := fun A => QI D cy (w11 cy aX aT aR aH aJ aP aU aB aQ aK aL aE0 aE1 aE2 aE3 SX ++ (w1 cy aK (res.2) ++ (w4 cy aH SH ++ (w0 cy aB SB)))) A (res.1)) sz (by decide) rfl rfl (Nat.le_of_ble_eq_true rfl) (fun p e s m below meth c A ls hC hW hl => t11_hunt_0 hC _ _ _ _ _ _ _ _ _ h hW (lv_sub hl [0, 1] rfl))
abbrev rm11_same : Room := { frames := 2, cells := 0, slots := 0, locals := 44 }
theorem hdV11_same : yX11_same.cls = RX11 ∧ (yX11_same.cls ≠ "java/lang/invoke/MethodHandle" ∧ yX11_same.cls ≠ "java/lang/invoke/VarHandle" ∧ (parseMethodDescriptor yX11_same.desc).map (fun d => d.parameters.length) = some 1) := by decide +kernel
theorem hin11_same_11 : ∀ x ∈ u_ws RX11 TX11 12, x ∈ wsX11_same := fun _ h => List.mem_cons_of_mem _ (List.mem_append_left _ (List.mem_append_left _ (List.mem_append_right _ h)))
theorem hin11_same_0 : ∀ x ∈ u_ws RX0 TX0 9, x ∈ wsX11_same := fun _ h => List.mem_cons_of_mem _ (List.mem_append_left _ (List.mem_append_right _ h))
set_option maxRecDepth 100000 in
set_option maxHeartbeats 4000000 in
theorem t11_same_0 (hC : Cx p s m args meth c cX11_same 2 wsX11_same RX11 (some .int)) : ∀ (x1 : Int32) (SX : Ob) (SH : Ob) (SB : Ob) (res : Int32) (H : Heap) (locs : List Loc) (ls : Array Slot), f11_same x1 SX SH SB = some res → GW D cy ad (w11 cy aX aT aR aH aJ aP aU aB aQ aK aL aE0 aE1 aE2 aE3 SX ++ (w4 cy aH SH ++ (w0 cy aB SB))) A s H locs → lv_has ls 2 [(0, .ref (aX 0)), (1, .int x1)] → W p l e rm11_same s m args below meth c H locs 0 0 (MQ below (QI D cy (w11 cy aX aT aR aH aJ aP aU aB aQ aK aL aE0 aE1 aE2 aE3 SX ++ (w4 cy aH SH ++ (w0 cy aB SB))) A res) args s 0 0 A) (F0 m 0 ls []) := by
  intro x1 SX SH SB res H locs ls hf hW hl
  unfold f11_same at hf
  refine lv_iload_n hC.1 hC.2.1 dX11_same_0 rfl (lv_at hl 1 rfl) ?_
  by_cases hc_1 : x1 = 0
  · have hf := ite_t hf hc_1
    refine lv_lookup (tgt := 28) hC.1 hC.2.1 dX11_same_1 (by decide) (by rw [hc_1] <;> rfl) (by decide) ?_
    refine lv_aload_n hC.1 hC.2.1 dX11_same_28 rfl (lv_at hl 0 rfl) ?_
    refine g_get hC hW hin11_same_11 0 rfl rfl 6 (by decide) 1 rfl rfl dX11_same_29 ?_
    refine lv_aload_n hC.1 hC.2.1 dX11_same_32 rfl (lv_at hl 0 rfl) ?_
    refine g_get hC hW hin11_same_11 0 rfl rfl 2 (by decide) 2 rfl rfl dX11_same_33 ?_
    refine lv_aload_n hC.1 hC.2.1 dX11_same_36 rfl (lv_at hl 0 rfl) ?_
    refine g_get hC hW hin11_same_11 0 rfl rfl 6 (by decide) 1 rfl rfl dX11_same_37 ?_
    refine g_get hC hW hin11_same_0 15 rfl rfl 0 (by decide) 3 rfl rfl dX11_same_40 ?_
    obtain ⟨r_2, hg_3, hf⟩ := bd_of hf
    refine g_calliV (w' := w11 cy aX aT aR aH aJ aP aU aB aQ aK aL aE0 aE1 aE2 aE3 SX ++ (w4 cy aH SH ++ (w0 cy aB SB))) hC hW (c4_guestsIn l D cy ad aH hg_3) (cwV 1 hC.2.2.2.2.1 gX11_same_X4_guestsIn rfl rfl rfl hdV4_guestsIn ⟨Nat.le_of_ble_eq_true rfl, Nat.le_of_ble_eq_true rfl⟩) (⟨[3, 4, 5, 6, 7, 8, 9, 10, 11, 12, 13, 14], [0, 1, 2, 15, 16, 17, 18, 19, 20], [0, 1, 2, 9, 10, 11, 12, 13, 14, 15, 16, 17, 18, 19, 20, 3, 4, 5, 6, 7, 8], w11 cy aX aT aR aH aJ aP aU aB aQ aK aL aE0 aE1 aE2 aE3 SX ++ (w0 cy aB SB), rfl, rfl, rfl, rfl, by decide, rfl, rfl⟩) 0 4 rfl rfl rfl rfl hl.1 rfl (Nat.le_of_ble_eq_true rfl) dX11_same_43 ⟨Nat.zero_le _, Nat.zero_le _⟩ (fun H locs hW => ?_)
    obtain ⟨r_4, hg_5, hf⟩ := bd_of hf
    refine g_calliV (w' := w11 cy aX aT aR aH aJ aP aU aB aQ aK aL aE0 aE1 aE2 aE3 SX ++ (w4 cy aH SH ++ (w0 cy aB SB))) hC hW (c0_inAllNights l D cy ad aB hg_5) (cwV 1 hC.2.2.2.2.1 gX11_same_X0_inAllNights rfl rfl rfl hdV0_inAllNights ⟨Nat.le_of_ble_eq_true rfl, Nat.le_of_ble_eq_true rfl⟩) (⟨[15, 16, 17, 18, 19, 20], [0, 1, 2, 3, 4, 5, 6, 7, 8, 9, 10, 11, 12, 13, 14], [0, 1, 2, 3, 4, 5, 6, 7, 8, 9, 10, 11, 12, 13, 14, 15, 16, 17, 18, 19, 20], w11 cy aX aT aR aH aJ aP aU aB aQ aK aL aE0 aE1 aE2 aE3 SX ++ (w4 cy aH SH), rfl, rfl, rfl, rfl, by decide, rfl, rfl⟩) 0 0 rfl rfl rfl rfl hl.1 rfl (Nat.le_of_ble_eq_true rfl) dX11_same_46 ⟨Nat.zero_le _, Nat.zero_le _⟩ (fun H locs hW => ?_)
    obtain rfl := Option.some.inj hf
    exact g_iret hC hW dX11_same_49
  · have hf := ite_f hf hc_1
    by_cases hc_6 : x1 = 1
    · have hf := ite_t hf hc_6
      refine lv_lookup (tgt := 50) hC.1 hC.2.1 dX11_same_1 (by decide) (by rw [hc_6] <;> rfl) (by decide) ?_
      refine lv_aload_n hC.1 hC.2.1 dX11_same_50 rfl (lv_at hl 0 rfl) ?_
      refine g_get hC hW hin11_same_11 0 rfl rfl 6 (by decide) 1 rfl rfl dX11_same_51 ?_
      refine lv_aload_n hC.1 hC.2.1 dX11_same_54 rfl (lv_at hl 0 rfl) ?_
      refine g_get hC hW hin11_same_11 0 rfl rfl 2 (by decide) 2 rfl rfl dX11_same_55 ?_
      refine lv_aload_n hC.1 hC.2.1 dX11_same_58 rfl (lv_at hl 0 rfl) ?_
      refine g_get hC hW hin11_same_11 0 rfl rfl 6 (by decide) 1 rfl rfl dX11_same_59 ?_
      refine g_get hC hW hin11_same_0 15 rfl rfl 0 (by decide) 3 rfl rfl dX11_same_62 ?_
      obtain ⟨r_7, hg_8, hf⟩ := bd_of hf
      refine g_calliV (w' := w11 cy aX aT aR aH aJ aP aU aB aQ aK aL aE0 aE1 aE2 aE3 SX ++ (w4 cy aH SH ++ (w0 cy aB SB))) hC hW (c4_guestsIn l D cy ad aH hg_8) (cwV 1 hC.2.2.2.2.1 gX11_same_X4_guestsIn rfl rfl rfl hdV4_guestsIn ⟨Nat.le_of_ble_eq_true rfl, Nat.le_of_ble_eq_true rfl⟩) (⟨[3, 4, 5, 6, 7, 8, 9, 10, 11, 12, 13, 14], [0, 1, 2, 15, 16, 17, 18, 19, 20], [0, 1, 2, 9, 10, 11, 12, 13, 14, 15, 16, 17, 18, 19, 20, 3, 4, 5, 6, 7, 8], w11 cy aX aT aR aH aJ aP aU aB aQ aK aL aE0 aE1 aE2 aE3 SX ++ (w0 cy aB SB), rfl, rfl, rfl, rfl, by decide, rfl, rfl⟩) 0 4 rfl rfl rfl rfl hl.1 rfl (Nat.le_of_ble_eq_true rfl) dX11_same_65 ⟨Nat.zero_le _, Nat.zero_le _⟩ (fun H locs hW => ?_)
      obtain ⟨r_9, hg_10, hf⟩ := bd_of hf
      refine g_calliV (w' := w11 cy aX aT aR aH aJ aP aU aB aQ aK aL aE0 aE1 aE2 aE3 SX ++ (w4 cy aH SH ++ (w0 cy aB SB))) hC hW (c0_firstNightWithNone l D cy ad aB hg_10) (cwV 1 hC.2.2.2.2.1 gX11_same_X0_firstNightWithNone rfl rfl rfl hdV0_firstNightWithNone ⟨Nat.le_of_ble_eq_true rfl, Nat.le_of_ble_eq_true rfl⟩) (⟨[15, 16, 17, 18, 19, 20], [0, 1, 2, 3, 4, 5, 6, 7, 8, 9, 10, 11, 12, 13, 14], [0, 1, 2, 3, 4, 5, 6, 7, 8, 9, 10, 11, 12, 13, 14, 15, 16, 17, 18, 19, 20], w11 cy aX aT aR aH aJ aP aU aB aQ aK aL aE0 aE1 aE2 aE3 SX ++ (w4 cy aH SH), rfl, rfl, rfl, rfl, by decide, rfl, rfl⟩) 0 0 rfl rfl rfl rfl hl.1 rfl (Nat.le_of_ble_eq_true rfl) dX11_same_68 ⟨Nat.zero_le _, Nat.zero_le _⟩ (fun H locs hW => ?_)
      obtain rfl := Option.some.inj hf
      exact g_iret hC hW dX11_same_71
    · have hf := ite_f hf hc_6
      refine lv_lookup (tgt := 72) hC.1 hC.2.1 dX11_same_1 (by decide) (lk_out _ (List.forall_mem_cons.mpr ⟨lk_ne (v := 0) (by decide) hc_1, (List.forall_mem_cons.mpr ⟨lk_ne (v := 1) (by decide) hc_6, (fun _ h => by cases h)⟩)⟩)) (by decide) ?_
      refine lv_bipush (v := (-2)) hC.1 hC.2.1 dX11_same_72 (by decide) ?_
      obtain rfl := Option.some.inj hf
      exact g_iret hC hW dX11_same_74
set_option maxRecDepth 100000 in
set_option maxHeartbeats 4000000 in
theorem c11_same (l : Launch) (D : va_G) (cy : Nat → ClassId) (ad : Nat → Nat) (aX : Nat → Nat) (aT : Nat → Nat) (aR : Nat → Nat) (aH : Nat → Nat) (aJ : Nat → Nat) (aP : Nat → Nat) (aU : Nat → Nat) (aB : Nat → Nat) (aQ : Nat → Nat) (aK : Nat → Nat) (aL : Nat → Nat) (aE0 : Nat → Nat) (aE1 : Nat → Nat) (aE2 : Nat → Nat) (aE3 : Nat → Nat) {x1 : Int32} {SX : Ob} {SH : Ob} {SB : Ob} {res : Int32} (h : f11_same x1 SX SH SB = some res) : GCi l yX11_same wsX11_same rm11_same [.ref (aX 0), .int x1] D cy ad (w11 cy aX aT aR aH aJ aP aU aB aQ aK aL aE0 aE1 aE2 aE3 SX ++ (w4 cy aH SH ++ (w0 cy aB SB))) (w11 cy aX aT aR aH aJ aP aU aB aQ aK aL aE0 aE1 aE2 aE3 SX ++ (w4 cy aH SH ++ (w0 cy aB SB))) res := fun sz => GC.start (own := RX11) (Qc := fun A => QI D cy (w11 cy aX aT aR aH aJ aP aU aB aQ aK aL aE0 aE1 aE2 aE3 SX ++ (w4 cy aH SH ++ (w0 cy aB SB))) A res) sz (by decide) rfl rfl (Nat.le_of_ble_eq_true rfl) (fun p e s m below meth c A ls hC hW hl => t11_same_0 hC _ _ _ _ _ _ _ _ h hW (lv_sub hl [0, 1] rfl))
abbrev rm11_bill : Room := { frames := 1, cells := 0, slots := 0, locals := 28 }
theorem hdV11_bill : yX11_bill.cls = RX11 ∧ (yX11_bill.cls ≠ "java/lang/invoke/MethodHandle" ∧ yX11_bill.cls ≠ "java/lang/invoke/VarHandle" ∧ (parseMethodDescriptor yX11_bill.desc).map (fun d => d.parameters.length) = some 2) := by decide +kernel
theorem hin11_bill_11 : ∀ x ∈ u_ws RX11 TX11 12, x ∈ wsX11_bill := fun _ h => List.mem_cons_of_mem _ (List.mem_append_left _ (List.mem_append_right _ h))
set_option maxRecDepth 100000 in
set_option maxHeartbeats 4000000 in
theorem t11_bill_22 (hC : Cx p s m args meth c cX11_bill 3 wsX11_bill RX11 (some .int)) : ∀ (SX : Ob) (SH : Ob) (res : Int32) (H : Heap) (locs : List Loc) (ls : Array Slot), f11_bill_22 SX SH = some res → GW D cy ad (w11 cy aX aT aR aH aJ aP aU aB aQ aK aL aE0 aE1 aE2 aE3 SX ++ (w4 cy aH SH)) A s H locs → lv_has ls 3 [] → W p l e rm11_bill s m args below meth c H locs 0 0 (MQ below (QI D cy (w11 cy aX aT aR aH aJ aP aU aB aQ aK aL aE0 aE1 aE2 aE3 SX ++ (w4 cy aH SH)) A res) args s 0 0 A) (F0 m 22 ls []) := by
  intro SX SH res H locs ls hf hW hl
  unfold f11_bill_22 at hf
  refine lv_iconst (v := (-1)) hC.1 hC.2.1 dX11_bill_22 (by decide) ?_
  obtain rfl := Option.some.inj hf
  exact g_iret hC hW dX11_bill_23
set_option maxRecDepth 100000 in
set_option maxHeartbeats 4000000 in
theorem t11_bill_0 (hC : Cx p s m args meth c cX11_bill 3 wsX11_bill RX11 (some .int)) : ∀ (x1 : Int32) (x2 : Int32) (SX : Ob) (SH : Ob) (res : Int32) (H : Heap) (locs : List Loc) (ls : Array Slot), f11_bill x1 x2 SX SH = some res → GW D cy ad (w11 cy aX aT aR aH aJ aP aU aB aQ aK aL aE0 aE1 aE2 aE3 SX ++ (w4 cy aH SH)) A s H locs → lv_has ls 3 [(0, .ref (aX 0)), (1, .int x1), (2, .int x2)] → W p l e rm11_bill s m args below meth c H locs 0 0 (MQ below (QI D cy (w11 cy aX aT aR aH aJ aP aU aB aQ aK aL aE0 aE1 aE2 aE3 SX ++ (w4 cy aH SH)) A res) args s 0 0 A) (F0 m 0 ls []) := by
  intro x1 x2 SX SH res H locs ls hf hW hl
  unfold f11_bill at hf
  refine lv_iload_n hC.1 hC.2.1 dX11_bill_0 rfl (lv_at hl 1 rfl) ?_
  refine lv_if_lt (tgt := 22) hC.1 hC.2.1 dX11_bill_1 (by decide) (fun hc_1 => ?_) (fun hc_1 => ?_)
  · have hf := ite_t hf hc_1
    exact t11_bill_22 hC  _ _ _ _ _ _ hf hW (lv_sub hl [] rfl)
  · have hf := ite_f hf hc_1
    refine lv_iload_n hC.1 hC.2.1 dX11_bill_4 rfl (lv_at hl 1 rfl) ?_
    refine lv_sipush (v := 9999) hC.1 hC.2.1 dX11_bill_5 (by decide) ?_
    refine lv_icmp_gt (tgt := 22) hC.1 hC.2.1 dX11_bill_8 (by decide) (fun hc_2 => ?_) (fun hc_2 => ?_)
    · have hf := ite_t hf hc_2
      exact t11_bill_22 hC  _ _ _ _ _ _ hf hW (lv_sub hl [] rfl)
    · have hf := ite_f hf hc_2
      refine lv_aload_n hC.1 hC.2.1 dX11_bill_11 rfl (lv_at hl 0 rfl) ?_
      refine g_get hC hW hin11_bill_11 0 rfl rfl 2 (by decide) 1 rfl rfl dX11_bill_12 ?_
      refine lv_iload_n hC.1 hC.2.1 dX11_bill_15 rfl (lv_at hl 2 rfl) ?_
      obtain ⟨r_3, hg_4, hf⟩ := bd_of hf
      refine g_calliV (w' := w11 cy aX aT aR aH aJ aP aU aB aQ aK aL aE0 aE1 aE2 aE3 SX ++ (w4 cy aH SH)) hC hW (c4_hasGuest l D cy ad aH hg_4) (cwV 1 hC.2.2.2.2.1 gX11_bill_X4_hasGuest rfl rfl rfl hdV4_hasGuest ⟨Nat.le_of_ble_eq_true rfl, Nat.le_of_ble_eq_true rfl⟩) (⟨[3, 4, 5, 6, 7, 8, 9, 10, 11, 12, 13, 14], [0, 1, 2], [0, 1, 2, 3, 4, 5, 6, 7, 8, 9, 10, 11, 12, 13, 14], w11 cy aX aT aR aH aJ aP aU aB aQ aK aL aE0 aE1 aE2 aE3 SX, rfl, rfl, rfl, rfl, by decide, rfl, rfl⟩) 0 4 rfl rfl rfl rfl hl.1 rfl (Nat.le_of_ble_eq_true rfl) dX11_bill_16 ⟨Nat.zero_le _, Nat.zero_le _⟩ (fun H locs hW => ?_)
      refine lv_if_ne (tgt := 24) hC.1 hC.2.1 dX11_bill_19 (by decide) (fun hc_5 => ?_) (fun hc_5 => ?_)
      · have hf := ite_f hf hc_5
        refine lv_aload_n hC.1 hC.2.1 dX11_bill_24 rfl (lv_at hl 0 rfl) ?_
        refine g_get hC hW hin11_bill_11 0 rfl rfl 2 (by decide) 1 rfl rfl dX11_bill_25 ?_
        refine lv_iload_n hC.1 hC.2.1 dX11_bill_28 rfl (lv_at hl 1 rfl) ?_
        refine lv_iload_n hC.1 hC.2.1 dX11_bill_29 rfl (lv_at hl 2 rfl) ?_
        obtain ⟨r_6, hg_7, hf⟩ := bd_of hf
        refine g_calliS (w' := w11 cy aX aT aR aH aJ aP aU aB aQ aK aL aE0 aE1 aE2 aE3 SX ++ (w4 cy aH SH)) hC hW (c5_payment l D cy ad aH hg_7) (va_cwS 3 hC.2.2.2.2.1 gX11_bill_X5_payment rfl rfl rfl hdS5_payment ⟨Nat.le_of_ble_eq_true rfl, Nat.le_of_ble_eq_true rfl⟩) (⟨[3, 4, 5, 6, 7, 8, 9, 10, 11, 12, 13, 14], [0, 1, 2], [0, 1, 2, 3, 4, 5, 6, 7, 8, 9, 10, 11, 12, 13, 14], w11 cy aX aT aR aH aJ aP aU aB aQ aK aL aE0 aE1 aE2 aE3 SX, rfl, rfl, rfl, rfl, by decide, rfl, rfl⟩) rfl hl.1 rfl (Nat.le_of_ble_eq_true rfl) dX11_bill_30 ⟨Nat.zero_le _, Nat.zero_le _⟩ (fun H locs hW => ?_)
        obtain rfl := Option.some.inj hf
        exact g_iret hC hW dX11_bill_33
      · have hf := ite_t hf hc_5
        exact t11_bill_22 hC  _ _ _ _ _ _ hf hW (lv_sub hl [] rfl)
set_option maxRecDepth 100000 in
set_option maxHeartbeats 4000000 in
theorem c11_bill (l : Launch) (D : va_G) (cy : Nat → ClassId) (ad : Nat → Nat) (aX : Nat → Nat) (aT : Nat → Nat) (aR : Nat → Nat) (aH : Nat → Nat) (aJ : Nat → Nat) (aP : Nat → Nat) (aU : Nat → Nat) (aB : Nat → Nat) (aQ : Nat → Nat) (aK : Nat → Nat) (aL : Nat → Nat) (aE0 : Nat → Nat) (aE1 : Nat → Nat) (aE2 : Nat → Nat) (aE3 : Nat → Nat) {x1 : Int32} {x2 : Int32} {SX : Ob} {SH : Ob} {res : Int32} (h : f11_bill x1 x2 SX SH = some res) : GCi l yX11_bill wsX11_bill rm11_bill [.ref (aX 0), .int x1, .int x2] D cy ad (w11 cy aX aT aR aH aJ aP aU aB aQ aK aL aE0 aE1 aE2 aE3 SX ++ (w4 cy aH SH)) (w11 cy aX aT aR aH aJ aP aU aB aQ aK aL aE0 aE1 aE2 aE3 SX ++ (w4 cy aH SH)) res := fun sz => GC.start (own := RX11) (Qc := fun A => QI D cy (w11 cy aX aT aR aH aJ aP aU aB aQ aK aL aE0 aE1 aE2 aE3 SX ++ (w4 cy aH SH)) A res) sz (by decide) rfl rfl (Nat.le_of_ble_eq_true rfl) (fun p e s m below meth c A ls hC hW hl => t11_bill_0 hC _ _ _ _ _ _ _ _ h hW (lv_sub hl [0, 1, 2] rfl))
abbrev rm11_beds : Room := { frames := 15, cells := 0, slots := 0, locals := 380 }
theorem hdV11_beds : yX11_beds.cls = RX11 ∧ (yX11_beds.cls ≠ "java/lang/invoke/MethodHandle" ∧ yX11_beds.cls ≠ "java/lang/invoke/VarHandle" ∧ (parseMethodDescriptor yX11_beds.desc).map (fun d => d.parameters.length) = some 1) := by decide +kernel
theorem hin11_beds_11 : ∀ x ∈ u_ws RX11 TX11 12, x ∈ wsX11_beds := fun _ h => List.mem_cons_of_mem _ (List.mem_append_left _ (List.mem_append_left _ (List.mem_append_right _ h)))
theorem hin11_beds_5 : ∀ x ∈ u_ws RX5 TX5 3, x ∈ wsX11_beds := fun _ h => List.mem_cons_of_mem _ (List.mem_append_left _ (List.mem_append_right _ h))
set_option maxRecDepth 100000 in
set_option maxHeartbeats 4000000 in
theorem t11_beds_49 (hC : Cx p s m args meth c cX11_beds 3 wsX11_beds RX11 (some .int)) : ∀ (z0 : Int32) (SX : Ob) (SL : Ob) (SH : Ob) (res : Int32 × Ob) (H : Heap) (locs : List Loc) (ls : Array Slot), f11_beds_49 z0 SX SL SH = some res → GW D cy ad (w11 cy aX aT aR aH aJ aP aU aB aQ aK aL aE0 aE1 aE2 aE3 SX ++ (w5 cy aL SL ++ (w4 cy aH SH))) A s H locs → lv_has ls 3 [] → W p l e rm11_beds s m args below meth c H locs 0 0 (MQ below (QI D cy (w11 cy aX aT aR aH aJ aP aU aB aQ aK aL aE0 aE1 aE2 aE3 SX ++ (w5 cy aL (res.2) ++ (w4 cy aH SH))) A (res.1)) args s 0 0 A) (F0 m 49 ls [.int z0]) := by
  intro z0 SX SL SH res H locs ls hf hW hl
  unfold f11_beds_49 at hf
  obtain rfl := Option.some.inj hf
  exact g_iret hC hW dX11_beds_49
set_option maxRecDepth 100000 in
set_option maxHeartbeats 4000000 in
theorem t11_beds_19 (hC : Cx p s m args meth c cX11_beds 3 wsX11_beds RX11 (some .int)) : ∀ (x1 : Int32) (SX : Ob) (SL : Ob) (SH : Ob) (res : Int32 × Ob) (H : Heap) (locs : List Loc) (ls : Array Slot), f11_beds_19 x1 SX SL SH = some res → GW D cy ad (w11 cy aX aT aR aH aJ aP aU aB aQ aK aL aE0 aE1 aE2 aE3 SX ++ (w5 cy aL SL ++ (w4 cy aH SH))) A s H locs → lv_has ls 3 [(0, .ref (aX 0)), (1, .int x1)] → W p l e rm11_beds s m args below meth c H locs 0 0 (MQ below (QI D cy (w11 cy aX aT aR aH aJ aP aU aB aQ aK aL aE0 aE1 aE2 aE3 SX ++ (w5 cy aL (res.2) ++ (w4 cy aH SH))) A (res.1)) args s 0 0 A) (F0 m 19 ls []) := by
  intro x1 SX SL SH res H locs ls hf hW hl
  unfold f11_beds_19 at hf
  refine lv_aload_n hC.1 hC.2.1 dX11_beds_19 rfl (lv_at hl 0 rfl) ?_
  refine g_get hC hW hin11_beds_11 0 rfl rfl 11 (by decide) 2 rfl rfl dX11_beds_20 ?_
  refine lv_aload_n hC.1 hC.2.1 dX11_beds_23 rfl (lv_at hl 0 rfl) ?_
  refine g_get hC hW hin11_beds_11 0 rfl rfl 2 (by decide) 1 rfl rfl dX11_beds_24 ?_
  obtain ⟨r_1, hg_2, hf⟩ := bd_of hf
  refine g_calliV (w' := w11 cy aX aT aR aH aJ aP aU aB aQ aK aL aE0 aE1 aE2 aE3 SX ++ (w5 cy aL (r_1.2) ++ (w4 cy aH SH))) hC hW (c5_bedAll l D cy ad aL aH hg_2) (cwV 1 hC.2.2.2.2.1 gX11_beds_X5_bedAll rfl rfl rfl hdV5_bedAll ⟨Nat.le_of_ble_eq_true rfl, Nat.le_of_ble_eq_true rfl⟩) (⟨[3, 4, 5, 6, 7, 8, 9, 10, 11, 12, 13, 14, 15, 16, 17, 18], [0, 1, 2], [0, 1, 2, 3, 4, 5, 6, 7, 8, 9, 10, 11, 12, 13, 14, 15, 16, 17, 18], w11 cy aX aT aR aH aJ aP aU aB aQ aK aL aE0 aE1 aE2 aE3 SX, rfl, rfl, rfl, rfl, by decide, rfl, rfl⟩) 0 5 rfl rfl rfl rfl hl.1 rfl (Nat.le_of_ble_eq_true rfl) dX11_beds_27 ⟨Nat.zero_le _, Nat.zero_le _⟩ (fun H locs hW => ?_)
  refine lv_topi (fun x2_3 ex2_3 => ?_)
  have hf := lt_nm hf ex2_3
  refine lv_istore_n (lv' := [(2, .int x2_3), (0, .ref (aX 0)), (1, .int x1)]) hC.1 hC.2.1 dX11_beds_30 rfl hl (by decide) rfl (fun ls hl => ?_)
  refine lv_iload_n hC.1 hC.2.1 dX11_beds_31 rfl (lv_at hl 2 rfl) ?_
  refine lv_iconst (v := (-1)) hC.1 hC.2.1 dX11_beds_32 (by decide) ?_
  refine lv_icmp_ne (tgt := 40) hC.1 hC.2.1 dX11_beds_33 (by decide) (fun hc_4 => ?_) (fun hc_4 => ?_)
  · have hf := ite_f hf hc_4
    refine lv_aload_n hC.1 hC.2.1 dX11_beds_40 rfl (lv_at hl 1 rfl) ?_
    refine g_get hC hW hin11_beds_11 0 rfl rfl 11 (by decide) 2 rfl rfl dX11_beds_41 ?_
    refine g_get hC hW hin11_beds_5 3 rfl rfl 0 (by decide) 3 rfl rfl dX11_beds_44 ?_
    refine lv_iload_n hC.1 hC.2.1 dX11_beds_47 rfl (lv_at hl 2 rfl) ?_
    obtain ⟨hi_5, hf⟩ := ck_of hf
    refine g_iald hC hW 4 rfl hi_5 dX11_beds_48 ?_
    exact t11_beds_49 hC  _ _ _ _ _ _ _ _ hf hW (lv_sub hl [] rfl)
  · have hf := ite_t hf hc_4
    refine lv_iload_n hC.1 hC.2.1 dX11_beds_36 rfl (lv_at hl 0 rfl) ?_
    refine lv_goto (tgt := 49) hC.1 hC.2.1 dX11_beds_37 (by decide) ?_
    exact t11_beds_49 hC  _ _ _ _ _ _ _ _ hf hW (lv_sub hl [] rfl)
set_option maxRecDepth 100000 in
set_option maxHeartbeats 4000000 in
theorem t11_beds_0 (hC : Cx p s m args meth c cX11_beds 3 wsX11_beds RX11 (some .int)) : ∀ (x1 : Int32) (SX : Ob) (SL : Ob) (SH : Ob) (res : Int32 × Ob) (H : Heap) (locs : List Loc) (ls : Array Slot), f11_beds x1 SX SL SH = some res → GW D cy ad (w11 cy aX aT aR aH aJ aP aU aB aQ aK aL aE0 aE1 aE2 aE3 SX ++ (w5 cy aL SL ++ (w4 cy aH SH))) A s H locs → lv_has ls 3 [(0, .ref (aX 0)), (1, .int x1)] → W p l e rm11_beds s m args below meth c H locs 0 0 (MQ below (QI D cy (w11 cy aX aT aR aH aJ aP aU aB aQ aK aL aE0 aE1 aE2 aE3 SX ++ (w5 cy aL (res.2) ++ (w4 cy aH SH))) A (res.1)) args s 0 0 A) (F0 m 0 ls []) := by
  intro x1 SX SL SH res H locs ls hf hW hl
  unfold f11_beds at hf
  refine lv_iload_n hC.1 hC.2.1 dX11_beds_0 rfl (lv_at hl 1 rfl) ?_
  refine lv_iconst (v := (-1)) hC.1 hC.2.1 dX11_beds_1 (by decide) ?_
  refine lv_icmp_eq (tgt := 19) hC.1 hC.2.1 dX11_beds_2 (by decide) (fun hc_1 => ?_) (fun hc_1 => ?_)
  · have hf := ite_t hf hc_1
    exact t11_beds_19 hC  _ _ _ _ _ _ _ _ hf hW (lv_sub hl [0, 1] rfl)
  · have hf := ite_f hf hc_1
    refine lv_aload_n hC.1 hC.2.1 dX11_beds_5 rfl (lv_at hl 0 rfl) ?_
    refine g_get hC hW hin11_beds_11 0 rfl rfl 2 (by decide) 1 rfl rfl dX11_beds_6 ?_
    refine lv_iload_n hC.1 hC.2.1 dX11_beds_9 rfl (lv_at hl 1 rfl) ?_
    obtain ⟨r_2, hg_3, hf⟩ := bd_of hf
    refine g_calliV (w' := w11 cy aX aT aR aH aJ aP aU aB aQ aK aL aE0 aE1 aE2 aE3 SX ++ (w5 cy aL SL ++ (w4 cy aH SH))) hC hW (c4_hasGuest l D cy ad aH hg_3) (cwV 1 hC.2.2.2.2.1 gX11_beds_X4_hasGuest rfl rfl rfl hdV4_hasGuest ⟨Nat.le_of_ble_eq_true rfl, Nat.le_of_ble_eq_true rfl⟩) (⟨[7, 8, 9, 10, 11, 12, 13, 14, 15, 16, 17, 18], [0, 1, 2, 3, 4, 5, 6], [0, 1, 2, 3, 4, 5, 6, 7, 8, 9, 10, 11, 12, 13, 14, 15, 16, 17, 18], w11 cy aX aT aR aH aJ aP aU aB aQ aK aL aE0 aE1 aE2 aE3 SX ++ (w5 cy aL SL), rfl, rfl, rfl, rfl, by decide, rfl, rfl⟩) 0 4 rfl rfl rfl rfl hl.1 rfl (Nat.le_of_ble_eq_true rfl) dX11_beds_10 ⟨Nat.zero_le _, Nat.zero_le _⟩ (fun H locs hW => ?_)
    refine lv_if_ne (tgt := 19) hC.1 hC.2.1 dX11_beds_13 (by decide) (fun hc_4 => ?_) (fun hc_4 => ?_)
    · have hf := ite_f hf hc_4
      exact t11_beds_19 hC  _ _ _ _ _ _ _ _ hf hW (lv_sub hl [0, 1] rfl)
    · have hf := ite_t hf hc_4
      refine lv_bipush (v := (-2)) hC.1 hC.2.1 dX11_beds_16 (by decide) ?_
      obtain rfl := Option.some.inj hf
      exact g_iret hC hW dX11_beds_18
set_option maxRecDepth 100000 in
set_option maxHeartbeats 4000000 in
theorem c11_beds (l : Launch) (D : va_G) (cy : Nat → ClassId) (ad : Nat → Nat) (aX : Nat → Nat) (aT : Nat → Nat) (aR : Nat → Nat) (aH : Nat → Nat) (aJ : Nat → Nat) (aP : Nat → Nat) (aU : Nat → Nat) (aB : Nat → Nat) (aQ : Nat → Nat) (aK : Nat → Nat) (aL : Nat → Nat) (aE0 : Nat → Nat) (aE1 : Nat → Nat) (aE2 : Nat → Nat) (aE3 : Nat → Nat) {x1 : Int32} {SX : Ob} {SL : Ob} {SH : Ob} {res : Int32 × Ob} (h : f11_beds x1 SX SL SH = some res) : GCi l yX11_beds wsX11_beds rm11_beds [.ref (aX 0), .int x1] D cy ad (w11 cy aX aT aR aH aJ aP aU aB aQ aK aL aE0 aE1 aE2 aE3 SX ++ (w5 cy aL SL ++ (w4 cy aH SH))) (w11 cy aX aT aR aH aJ aP aU aB aQ aK aL aE0 aE1 aE2 aE3 SX ++ (w5 cy aL (res.2) ++ (w4 cy aH SH))) (res.1) := fun sz => GC.start (own := RX11) (Qc := fun A => QI D cy (w11 cy aX aT aR aH aJ aP aU aB aQ aK aL aE0 aE1 aE2 aE3 SX ++ (w5 cy aL (res.2) ++ (w4 cy aH SH))) A (res.1)) sz (by decide) rfl rfl (Nat.le_of_ble_eq_true rfl) (fun p e s m below meth c A ls hC hW hl => t11_beds_0 hC _ _ _ _ _ _ _ _ h hW (lv_sub hl [0, 1] rfl))
abbrev rm11_watch : Room := { frames := 3, cells := 0, slots := 0, locals := 80 }
theorem hdV11_watch : yX11_watch.cls = RX11 ∧ (yX11_watch.cls ≠ "java/lang/invoke/MethodHandle" ∧ yX11_watch.cls ≠ "java/lang/invoke/VarHandle" ∧ (parseMethodDescriptor yX11_watch.desc).map (fun d => d.parameters.length) = some 2) := by decide +kernel
theorem hin11_watch_11 : ∀ x ∈ u_ws RX11 TX11 12, x ∈ wsX11_watch := fun _ h => List.mem_cons_of_mem _ (List.mem_append_left _ (List.mem_append_left _ (List.mem_append_right _ h)))
set_option maxRecDepth 100000 in
set_option maxHeartbeats 4000000 in
theorem t11_watch_20 (hC : Cx p s m args meth c cX11_watch 3 wsX11_watch RX11 (some .int)) : ∀ (SX : Ob) (SL : Ob) (SH : Ob) (res : Int32 × Ob) (H : Heap) (locs : List Loc) (ls : Array Slot), f11_watch_20 SX SL SH = some res → GW D cy ad (w11 cy aX aT aR aH aJ aP aU aB aQ aK aL aE0 aE1 aE2 aE3 SX ++ (w5 cy aL SL ++ (w4 cy aH SH))) A s H locs → lv_has ls 3 [] → W p l e rm11_watch s m args below meth c H locs 0 0 (MQ below (QI D cy (w11 cy aX aT aR aH aJ aP aU aB aQ aK aL aE0 aE1 aE2 aE3 SX ++ (w5 cy aL (res.2) ++ (w4 cy aH SH))) A (res.1)) args s 0 0 A) (F0 m 20 ls []) := by
  intro SX SL SH res H locs ls hf hW hl
  unfold f11_watch_20 at hf
  refine lv_iconst (v := (-1)) hC.1 hC.2.1 dX11_watch_20 (by decide) ?_
  obtain rfl := Option.some.inj hf
  exact g_iret hC hW dX11_watch_21
set_option maxRecDepth 100000 in
set_option maxHeartbeats 4000000 in
theorem t11_watch_0 (hC : Cx p s m args meth c cX11_watch 3 wsX11_watch RX11 (some .int)) : ∀ (x1 : Int32) (x2 : Int32) (SX : Ob) (SL : Ob) (SH : Ob) (res : Int32 × Ob) (H : Heap) (locs : List Loc) (ls : Array Slot), f11_watch x1 x2 SX SL SH = some res → GW D cy ad (w11 cy aX aT aR aH aJ aP aU aB aQ aK aL aE0 aE1 aE2 aE3 SX ++ (w5 cy aL SL ++ (w4 cy aH SH))) A s H locs → lv_has ls 3 [(0, .ref (aX 0)), (1, .int x1), (2, .int x2)] → W p l e rm11_watch s m args below meth c H locs 0 0 (MQ below (QI D cy (w11 cy aX aT aR aH aJ aP aU aB aQ aK aL aE0 aE1 aE2 aE3 SX ++ (w5 cy aL (res.2) ++ (w4 cy aH SH))) A (res.1)) args s 0 0 A) (F0 m 0 ls []) := by
  intro x1 x2 SX SL SH res H locs ls hf hW hl
  unfold f11_watch at hf
  refine lv_iload_n hC.1 hC.2.1 dX11_watch_0 rfl (lv_at hl 1 rfl) ?_
  refine lv_iconst (v := 1) hC.1 hC.2.1 dX11_watch_1 (by decide) ?_
  refine lv_icmp_lt (tgt := 20) hC.1 hC.2.1 dX11_watch_2 (by decide) (fun hc_1 => ?_) (fun hc_1 => ?_)
  · have hf := ite_t hf hc_1
    exact t11_watch_20 hC  _ _ _ _ _ _ _ hf hW (lv_sub hl [] rfl)
  · have hf := ite_f hf hc_1
    refine lv_iload_n hC.1 hC.2.1 dX11_watch_5 rfl (lv_at hl 1 rfl) ?_
    refine lv_iconst (v := 2) hC.1 hC.2.1 dX11_watch_6 (by decide) ?_
    refine lv_icmp_gt (tgt := 20) hC.1 hC.2.1 dX11_watch_7 (by decide) (fun hc_2 => ?_) (fun hc_2 => ?_)
    · have hf := ite_t hf hc_2
      exact t11_watch_20 hC  _ _ _ _ _ _ _ hf hW (lv_sub hl [] rfl)
    · have hf := ite_f hf hc_2
      refine lv_iload_n hC.1 hC.2.1 dX11_watch_10 rfl (lv_at hl 2 rfl) ?_
      refine lv_if_lt (tgt := 20) hC.1 hC.2.1 dX11_watch_11 (by decide) (fun hc_3 => ?_) (fun hc_3 => ?_)
      · have hf := ite_t hf hc_3
        exact t11_watch_20 hC  _ _ _ _ _ _ _ hf hW (lv_sub hl [] rfl)
      · have hf := ite_f hf hc_3
        refine lv_iload_n hC.1 hC.2.1 dX11_watch_14 rfl (lv_at hl 2 rfl) ?_
        refine lv_bipush (v := 12) hC.1 hC.2.1 dX11_watch_15 (by decide) ?_
        refine lv_icmp_lt (tgt := 22) hC.1 hC.2.1 dX11_watch_17 (by decide) (fun hc_4 => ?_) (fun hc_4 => ?_)
        · have hf := ite_t hf hc_4
          refine lv_aload_n hC.1 hC.2.1 dX11_watch_22 rfl (lv_at hl 0 rfl) ?_
          refine g_get hC hW hin11_watch_11 0 rfl rfl 11 (by decide) 1 rfl rfl dX11_watch_23 ?_
          refine lv_aload_n hC.1 hC.2.1 dX11_watch_26 rfl (lv_at hl 0 rfl) ?_
          refine g_get hC hW hin11_watch_11 0 rfl rfl 2 (by decide) 2 rfl rfl dX11_watch_27 ?_
          refine lv_iload_n hC.1 hC.2.1 dX11_watch_30 rfl (lv_at hl 1 rfl) ?_
          refine lv_iload_n hC.1 hC.2.1 dX11_watch_31 rfl (lv_at hl 2 rfl) ?_
          obtain ⟨r_5, hg_6, hf⟩ := bd_of hf
          refine g_calliV (w' := w11 cy aX aT aR aH aJ aP aU aB aQ aK aL aE0 aE1 aE2 aE3 SX ++ (w5 cy aL (r_5.2) ++ (w4 cy aH SH))) hC hW (c5_awake l D cy ad aL aH hg_6) (cwV 3 hC.2.2.2.2.1 gX11_watch_X5_awake rfl rfl rfl hdV5_awake ⟨Nat.le_of_ble_eq_true rfl, Nat.le_of_ble_eq_true rfl⟩) (⟨[3, 4, 5, 6, 7, 8, 9, 10, 11, 12, 13, 14, 15, 16, 17, 18], [0, 1, 2], [0, 1, 2, 3, 4, 5, 6, 7, 8, 9, 10, 11, 12, 13, 14, 15, 16, 17, 18], w11 cy aX aT aR aH aJ aP aU aB aQ aK aL aE0 aE1 aE2 aE3 SX, rfl, rfl, rfl, rfl, by decide, rfl, rfl⟩) 0 5 rfl rfl rfl rfl hl.1 rfl (Nat.le_of_ble_eq_true rfl) dX11_watch_32 ⟨Nat.zero_le _, Nat.zero_le _⟩ (fun H locs hW => ?_)
          obtain rfl := Option.some.inj hf
          exact g_iret hC hW dX11_watch_35
        · have hf := ite_f hf hc_4
          exact t11_watch_20 hC  _ _ _ _ _ _ _ hf hW (lv_sub hl [] rfl)
set_option maxRecDepth 100000 in
set_option maxHeartbeats 4000000 in
theorem c11_watch (l : Launch) (D : va_G) (cy : Nat → ClassId) (ad : Nat → Nat) (aX : Nat → Nat) (aT : Nat → Nat) (aR : Nat → Nat) (aH : Nat → Nat) (aJ : Nat → Nat) (aP : Nat → Nat) (aU : Nat → Nat) (aB : Nat → Nat) (aQ : Nat → Nat) (aK : Nat → Nat) (aL : Nat → Nat) (aE0 : Nat → Nat) (aE1 : Nat → Nat) (aE2 : Nat → Nat) (aE3 : Nat → Nat) {x1 : Int32} {x2 : Int32} {SX : Ob} {SL : Ob} {SH : Ob} {res : Int32 × Ob} (h : f11_watch x1 x2 SX SL SH = some res) : GCi l yX11_watch wsX11_watch rm11_watch [.ref (aX 0), .int x1, .int x2] D cy ad (w11 cy aX aT aR aH aJ aP aU aB aQ aK aL aE0 aE1 aE2 aE3 SX ++ (w5 cy aL SL ++ (w4 cy aH SH))) (w11 cy aX aT aR aH aJ aP aU aB aQ aK aL aE0 aE1 aE2 aE3 SX ++ (w5 cy aL (res.2) ++ (w4 cy aH SH))) (res.1) := fun sz => GC.start (own := RX11) (Qc := fun A => QI D cy (w11 cy aX aT aR aH aJ aP aU aB aQ aK aL aE0 aE1 aE2 aE3 SX ++ (w5 cy aL (res.2) ++ (w4 cy aH SH))) A (res.1)) sz (by decide) rfl rfl (Nat.le_of_ble_eq_true rfl) (fun p e s m below meth c A ls hC hW hl => t11_watch_0 hC _ _ _ _ _ _ _ _ _ h hW (lv_sub hl [0, 1, 2] rfl))
abbrev rm11_years : Room := { frames := 4, cells := 0, slots := 0, locals := 110 }
theorem hdV11_years : yX11_years.cls = RX11 ∧ (yX11_years.cls ≠ "java/lang/invoke/MethodHandle" ∧ yX11_years.cls ≠ "java/lang/invoke/VarHandle" ∧ (parseMethodDescriptor yX11_years.desc).map (fun d => d.parameters.length) = some 3) := by decide +kernel
theorem hin11_years_11 : ∀ x ∈ u_ws RX11 TX11 12, x ∈ wsX11_years := fun _ h => List.mem_cons_of_mem _ (List.mem_append_left _ (List.mem_append_right _ h))
theorem hin11_years_4 : ∀ x ∈ u_ws RX4 TX4 13, x ∈ wsX11_years := fun _ h => List.mem_cons_of_mem _ (List.mem_append_right _ h)
set_option maxRecDepth 100000 in
set_option maxHeartbeats 4000000 in
theorem t11_years_22 (hC : Cx p s m args meth c cX11_years 4 wsX11_years RX11 (some .int)) : ∀ (SX : Ob) (SH : Ob) (res : Int32) (H : Heap) (locs : List Loc) (ls : Array Slot), f11_years_22 SX SH = some res → GW D cy ad (w11 cy aX aT aR aH aJ aP aU aB aQ aK aL aE0 aE1 aE2 aE3 SX ++ (w4 cy aH SH)) A s H locs → lv_has ls 4 [] → W p l e rm11_years s m args below meth c H locs 0 0 (MQ below (QI D cy (w11 cy aX aT aR aH aJ aP aU aB aQ aK aL aE0 aE1 aE2 aE3 SX ++ (w4 cy aH SH)) A res) args s 0 0 A) (F0 m 22 ls []) := by
  intro SX SH res H locs ls hf hW hl
  unfold f11_years_22 at hf
  refine lv_iconst (v := (-1)) hC.1 hC.2.1 dX11_years_22 (by decide) ?_
  obtain rfl := Option.some.inj hf
  exact g_iret hC hW dX11_years_23
set_option maxRecDepth 100000 in
set_option maxHeartbeats 4000000 in
theorem t11_years_43 (hC : Cx p s m args meth c cX11_years 4 wsX11_years RX11 (some .int)) : ∀ (SX : Ob) (SH : Ob) (res : Int32) (H : Heap) (locs : List Loc) (ls : Array Slot), f11_years_43 SX SH = some res → GW D cy ad (w11 cy aX aT aR aH aJ aP aU aB aQ aK aL aE0 aE1 aE2 aE3 SX ++ (w4 cy aH SH)) A s H locs → lv_has ls 4 [] → W p l e rm11_years s m args below meth c H locs 0 0 (MQ below (QI D cy (w11 cy aX aT aR aH aJ aP aU aB aQ aK aL aE0 aE1 aE2 aE3 SX ++ (w4 cy aH SH)) A res) args s 0 0 A) (F0 m 43 ls []) := by
  intro SX SH res H locs ls hf hW hl
  unfold f11_years_43 at hf
  refine lv_iconst (v := (-1)) hC.1 hC.2.1 dX11_years_43 (by decide) ?_
  obtain rfl := Option.some.inj hf
  exact g_iret hC hW dX11_years_44
set_option maxRecDepth 100000 in
set_option maxHeartbeats 4000000 in
theorem t11_years_0 (hC : Cx p s m args meth c cX11_years 4 wsX11_years RX11 (some .int)) : ∀ (x1 : Int32) (x2 : Int32) (x3 : Int32) (SX : Ob) (SH : Ob) (res : Int32) (H : Heap) (locs : List Loc) (ls : Array Slot), f11_years x1 x2 x3 SX SH = some res → GW D cy ad (w11 cy aX aT aR aH aJ aP aU aB aQ aK aL aE0 aE1 aE2 aE3 SX ++ (w4 cy aH SH)) A s H locs → lv_has ls 4 [(0, .ref (aX 0)), (1, .int x1), (2, .int x2), (3, .int x3)] → W p l e rm11_years s m args below meth c H locs 0 0 (MQ below (QI D cy (w11 cy aX aT aR aH aJ aP aU aB aQ aK aL aE0 aE1 aE2 aE3 SX ++ (w4 cy aH SH)) A res) args s 0 0 A) (F0 m 0 ls []) := by
  intro x1 x2 x3 SX SH res H locs ls hf hW hl
  unfold f11_years at hf
  refine lv_iload_n hC.1 hC.2.1 dX11_years_0 rfl (lv_at hl 1 rfl) ?_
  refine lv_if_lt (tgt := 22) hC.1 hC.2.1 dX11_years_1 (by decide) (fun hc_1 => ?_) (fun hc_1 => ?_)
  · have hf := ite_t hf hc_1
    exact t11_years_22 hC  _ _ _ _ _ _ hf hW (lv_sub hl [] rfl)
  · have hf := ite_f hf hc_1
    refine lv_iload_n hC.1 hC.2.1 dX11_years_4 rfl (lv_at hl 1 rfl) ?_
    refine lv_sipush (v := 9999) hC.1 hC.2.1 dX11_years_5 (by decide) ?_
    refine lv_icmp_gt (tgt := 22) hC.1 hC.2.1 dX11_years_8 (by decide) (fun hc_2 => ?_) (fun hc_2 => ?_)
    · have hf := ite_t hf hc_2
      exact t11_years_22 hC  _ _ _ _ _ _ hf hW (lv_sub hl [] rfl)
    · have hf := ite_f hf hc_2
      refine lv_iload_n hC.1 hC.2.1 dX11_years_11 rfl (lv_at hl 2 rfl) ?_
      refine lv_iconst (v := 1) hC.1 hC.2.1 dX11_years_12 (by decide) ?_
      refine lv_icmp_lt (tgt := 22) hC.1 hC.2.1 dX11_years_13 (by decide) (fun hc_3 => ?_) (fun hc_3 => ?_)
      · have hf := ite_t hf hc_3
        exact t11_years_22 hC  _ _ _ _ _ _ hf hW (lv_sub hl [] rfl)
      · have hf := ite_f hf hc_3
        refine lv_iload_n hC.1 hC.2.1 dX11_years_16 rfl (lv_at hl 2 rfl) ?_
        refine lv_bipush (v := 100) hC.1 hC.2.1 dX11_years_17 (by decide) ?_
        refine lv_icmp_le (tgt := 24) hC.1 hC.2.1 dX11_years_19 (by decide) (fun hc_4 => ?_) (fun hc_4 => ?_)
        · have hf := ite_t hf hc_4
          refine lv_iload_n hC.1 hC.2.1 dX11_years_24 rfl (lv_at hl 3 rfl) ?_
          refine lv_if_lt (tgt := 43) hC.1 hC.2.1 dX11_years_25 (by decide) (fun hc_5 => ?_) (fun hc_5 => ?_)
          · have hf := ite_t hf hc_5
            exact t11_years_43 hC  _ _ _ _ _ _ hf hW (lv_sub hl [] rfl)
          · have hf := ite_f hf hc_5
            refine lv_iload_n hC.1 hC.2.1 dX11_years_28 rfl (lv_at hl 3 rfl) ?_
            refine lv_iconst (v := 2) hC.1 hC.2.1 dX11_years_29 (by decide) ?_
            refine lv_icmp_gt (tgt := 43) hC.1 hC.2.1 dX11_years_30 (by decide) (fun hc_6 => ?_) (fun hc_6 => ?_)
            · have hf := ite_t hf hc_6
              exact t11_years_43 hC  _ _ _ _ _ _ hf hW (lv_sub hl [] rfl)
            · have hf := ite_f hf hc_6
              refine lv_aload_n hC.1 hC.2.1 dX11_years_33 rfl (lv_at hl 0 rfl) ?_
              refine g_get hC hW hin11_years_11 0 rfl rfl 2 (by decide) 1 rfl rfl dX11_years_34 ?_
              refine g_get hC hW hin11_years_4 3 rfl rfl 0 (by decide) 2 rfl rfl dX11_years_37 ?_
              refine lv_if_ne (tgt := 45) hC.1 hC.2.1 dX11_years_40 (by decide) (fun hc_7 => ?_) (fun hc_7 => ?_)
              · have hf := ite_f hf hc_7
                refine lv_aload_n hC.1 hC.2.1 dX11_years_45 rfl (lv_at hl 0 rfl) ?_
                refine g_get hC hW hin11_years_11 0 rfl rfl 2 (by decide) 1 rfl rfl dX11_years_46 ?_
                refine lv_iload_n hC.1 hC.2.1 dX11_years_49 rfl (lv_at hl 1 rfl) ?_
                refine lv_iload_n hC.1 hC.2.1 dX11_years_50 rfl (lv_at hl 2 rfl) ?_
                refine lv_iload_n hC.1 hC.2.1 dX11_years_51 rfl (lv_at hl 3 rfl) ?_
                obtain ⟨r_8, hg_9, hf⟩ := bd_of hf
                refine g_calliS (w' := w11 cy aX aT aR aH aJ aP aU aB aQ aK aL aE0 aE1 aE2 aE3 SX ++ (w4 cy aH SH)) hC hW (c6_drawnYears l D cy ad aH hg_9) (va_cwS 4 hC.2.2.2.2.1 gX11_years_X6_drawnYears rfl rfl rfl hdS6_drawnYears ⟨Nat.le_of_ble_eq_true rfl, Nat.le_of_ble_eq_true rfl⟩) (⟨[3, 4, 5, 6, 7, 8, 9, 10, 11, 12, 13, 14], [0, 1, 2], [0, 1, 2, 3, 4, 5, 6, 7, 8, 9, 10, 11, 12, 13, 14], w11 cy aX aT aR aH aJ aP aU aB aQ aK aL aE0 aE1 aE2 aE3 SX, rfl, rfl, rfl, rfl, by decide, rfl, rfl⟩) rfl hl.1 rfl (Nat.le_of_ble_eq_true rfl) dX11_years_52 ⟨Nat.zero_le _, Nat.zero_le _⟩ (fun H locs hW => ?_)
                obtain rfl := Option.some.inj hf
                exact g_iret hC hW dX11_years_55
              · have hf := ite_t hf hc_7
                exact t11_years_43 hC  _ _ _ _ _ _ hf hW (lv_sub hl [] rfl)
        · have hf := ite_f hf hc_4
          exact t11_years_22 hC  _ _ _ _ _ _ hf hW (lv_sub hl [] rfl)
set_option maxRecDepth 100000 in
set_option maxHeartbeats 4000000 in
theorem c11_years (l : Launch) (D : va_G) (cy : Nat → ClassId) (ad : Nat → Nat) (aX : Nat → Nat) (aT : Nat → Nat) (aR : Nat → Nat) (aH : Nat → Nat) (aJ : Nat → Nat) (aP : Nat → Nat) (aU : Nat → Nat) (aB : Nat → Nat) (aQ : Nat → Nat) (aK : Nat → Nat) (aL : Nat → Nat) (aE0 : Nat → Nat) (aE1 : Nat → Nat) (aE2 : Nat → Nat) (aE3 : Nat → Nat) {x1 : Int32} {x2 : Int32} {x3 : Int32} {SX : Ob} {SH : Ob} {res : Int32} (h : f11_years x1 x2 x3 SX SH = some res) : GCi l yX11_years wsX11_years rm11_years [.ref (aX 0), .int x1, .int x2, .int x3] D cy ad (w11 cy aX aT aR aH aJ aP aU aB aQ aK aL aE0 aE1 aE2 aE3 SX ++ (w4 cy aH SH)) (w11 cy aX aT aR aH aJ aP aU aB aQ aK aL aE0 aE1 aE2 aE3 SX ++ (w4 cy aH SH)) res := fun sz => GC.start (own := RX11) (Qc := fun A => QI D cy (w11 cy aX aT aR aH aJ aP aU aB aQ aK aL aE0 aE1 aE2 aE3 SX ++ (w4 cy aH SH)) A res) sz (by decide) rfl rfl (Nat.le_of_ble_eq_true rfl) (fun p e s m below meth c A ls hC hW hl => t11_years_0 hC _ _ _ _ _ _ _ _ _ h hW (lv_sub hl [0, 1, 2, 3] rfl))
end
