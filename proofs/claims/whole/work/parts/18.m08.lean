/-! laid by program: functions, walks and contracts of 12_answer, 12_sign, 12_weather, 12_endsNight, 12_night, 12_undo, 12_lineIn, 12_runs, 12_judged, 12_spare, 12_who -/
set_option maxRecDepth 20000 in
theorem gX12_answer_X12_isGuest : GoodIn wsX12_answer (wsV RX12 365 RX12 yX12_isGuest wsX12_isGuest) := goodIn_r _ [2, 3, 4, 5, 6, 7, 8, 9, 5, 10, 11, 52, 53, 54, 55, 56, 57, 58, 59, 60, 61, 62, 63, 64, 65, 66, 67, 68, 69, 70, 71, 72, 73, 74, 75, 76, 77, 78, 79, 80, 81, 82, 83, 84, 85, 86, 87, 88, 89, 90] rfl (by decide +kernel)
set_option maxRecDepth 20000 in
theorem gX12_answer_X12_answerIn : GoodIn wsX12_answer (wsV RX12 377 RX12 yX12_answerIn wsX12_answerIn) := goodIn_r _ [12, 13, 14, 5, 15, 16, 17, 5, 18, 19, 20, 21, 22, 23, 24, 25, 26, 7, 8, 9, 10, 11, 27, 28, 29, 30, 31, 32, 33, 34, 52, 53, 54, 55, 56, 57, 58, 59, 60, 61, 62, 63, 64, 65, 66, 67, 68, 69, 70, 71, 72, 73, 74, 75, 76, 77, 78, 79, 80, 81, 82, 83, 84, 85, 86, 87, 88, 89, 90] rfl (by decide +kernel)
set_option maxRecDepth 20000 in
theorem gX12_answer_X12_leaves : GoodIn wsX12_answer (wsV RX12 381 RX12 yX12_leaves wsX12_leaves) := goodIn_r _ [35, 36, 37, 5, 38, 39, 40, 41, 42, 5, 43, 44, 45, 46, 47, 48, 49, 50, 51, 52, 53, 54, 55, 56, 57, 58, 59, 60, 61, 62, 63, 64, 65, 66, 67, 68, 69, 70, 71, 72, 73, 74, 75, 76, 77, 78, 79, 80, 81, 82, 83, 84, 85, 86, 87, 88, 89, 90] rfl (by decide +kernel)
theorem dX12_answer_0 : decode cX12_answer 0 = .ok (.aload_n 0, 1) := by decide +kernel
theorem dX12_answer_1 : decode cX12_answer 1 = .ok (.iconst 0, 1) := by decide +kernel
theorem dX12_answer_2 : decode cX12_answer 2 = .ok (.putfield 1, 3) := by decide +kernel
theorem dX12_answer_5 : decode cX12_answer 5 = .ok (.aload_n 0, 1) := by decide +kernel
theorem dX12_answer_6 : decode cX12_answer 6 = .ok (.iload_n 1, 1) := by decide +kernel
theorem dX12_answer_7 : decode cX12_answer 7 = .ok (.invokevirtual 365, 3) := by decide +kernel
theorem dX12_answer_10 : decode cX12_answer 10 = .ok (.ifCond .eq 25, 3) := by decide +kernel
theorem dX12_answer_13 : decode cX12_answer 13 = .ok (.aload_n 0, 1) := by decide +kernel
theorem dX12_answer_14 : decode cX12_answer 14 = .ok (.iload_n 2, 1) := by decide +kernel
theorem dX12_answer_15 : decode cX12_answer 15 = .ok (.invokevirtual 365, 3) := by decide +kernel
theorem dX12_answer_18 : decode cX12_answer 18 = .ok (.ifCond .eq 17, 3) := by decide +kernel
theorem dX12_answer_21 : decode cX12_answer 21 = .ok (.aload_n 0, 1) := by decide +kernel
theorem dX12_answer_22 : decode cX12_answer 22 = .ok (.aload_n 0, 1) := by decide +kernel
theorem dX12_answer_23 : decode cX12_answer 23 = .ok (.iload_n 1, 1) := by decide +kernel
theorem dX12_answer_24 : decode cX12_answer 24 = .ok (.iload_n 2, 1) := by decide +kernel
theorem dX12_answer_25 : decode cX12_answer 25 = .ok (.iload_n 3, 1) := by decide +kernel
theorem dX12_answer_26 : decode cX12_answer 26 = .ok (.invokevirtual 377, 3) := by decide +kernel
theorem dX12_answer_29 : decode cX12_answer 29 = .ok (.invokevirtual 381, 3) := by decide +kernel
theorem dX12_answer_32 : decode cX12_answer 32 = .ok (.goto 4, 3) := by decide +kernel
theorem dX12_answer_35 : decode cX12_answer 35 = .ok (.iconst (-1), 1) := by decide +kernel
theorem dX12_answer_36 : decode cX12_answer 36 = .ok (.ireturn, 1) := by decide +kernel
set_option maxRecDepth 20000 in
theorem gX12_sign_X12_signs : GoodIn wsX12_sign (wsV RX12 337 RX12 yX12_signs wsX12_signs) := goodIn_r _ [3, 4, 5, 6, 7, 8, 41, 42, 43, 44, 45, 46, 47, 48, 49, 50, 51, 52, 53, 54, 55, 56, 57, 58, 59, 60, 61, 62, 63, 64, 65, 66, 67, 68, 69, 70, 71, 72, 73, 74, 75, 76, 77, 78, 79] rfl (by decide +kernel)
set_option maxRecDepth 20000 in
theorem gX12_sign_X12_within : GoodIn wsX12_sign (va_wsS RX12 241 yX12_within wsX12_within) := goodIn_r _ [9, 10, 6, 11] rfl (by decide +kernel)
set_option maxRecDepth 20000 in
theorem gX12_sign_X12_everyWorld : GoodIn wsX12_sign (wsV RX12 334 RX12 yX12_everyWorld wsX12_everyWorld) := goodIn_r _ [12, 13, 14, 6, 15, 16, 17, 18, 6, 19, 20, 21, 22, 23, 8, 41, 42, 43, 44, 45, 46, 47, 48, 49, 50, 51, 52, 53, 54, 55, 56, 57, 58, 59, 60, 61, 62, 63, 64, 65, 66, 67, 68, 69, 70, 71, 72, 73, 74, 75, 76, 77, 78, 79] rfl (by decide +kernel)
set_option maxRecDepth 20000 in
theorem gX12_sign_X12_leaves : GoodIn wsX12_sign (wsV RX12 381 RX12 yX12_leaves wsX12_leaves) := goodIn_r _ [24, 25, 26, 6, 27, 28, 29, 30, 31, 6, 32, 33, 34, 35, 36, 37, 38, 39, 40, 41, 42, 43, 44, 45, 46, 47, 48, 49, 50, 51, 52, 53, 54, 55, 56, 57, 58, 59, 60, 61, 62, 63, 64, 65, 66, 67, 68, 69, 70, 71, 72, 73, 74, 75, 76, 77, 78, 79] rfl (by decide +kernel)
theorem dX12_sign_0 : decode cX12_sign 0 = .ok (.aload_n 0, 1) := by decide +kernel
theorem dX12_sign_1 : decode cX12_sign 1 = .ok (.iconst 0, 1) := by decide +kernel
theorem dX12_sign_2 : decode cX12_sign 2 = .ok (.putfield 1, 3) := by decide +kernel
theorem dX12_sign_5 : decode cX12_sign 5 = .ok (.iload_n 1, 1) := by decide +kernel
theorem dX12_sign_6 : decode cX12_sign 6 = .ok (.iconst 0, 1) := by decide +kernel
theorem dX12_sign_7 : decode cX12_sign 7 = .ok (.aload_n 0, 1) := by decide +kernel
theorem dX12_sign_8 : decode cX12_sign 8 = .ok (.invokevirtual 337, 3) := by decide +kernel
theorem dX12_sign_11 : decode cX12_sign 11 = .ok (.iconst 1, 1) := by decide +kernel
theorem dX12_sign_12 : decode cX12_sign 12 = .ok (.isub, 1) := by decide +kernel
theorem dX12_sign_13 : decode cX12_sign 13 = .ok (.invokestatic 241, 3) := by decide +kernel
theorem dX12_sign_16 : decode cX12_sign 16 = .ok (.ifCond .eq 36, 3) := by decide +kernel
theorem dX12_sign_19 : decode cX12_sign 19 = .ok (.aload_n 0, 1) := by decide +kernel
theorem dX12_sign_20 : decode cX12_sign 20 = .ok (.iload_n 2, 1) := by decide +kernel
theorem dX12_sign_21 : decode cX12_sign 21 = .ok (.ifCond .eq 12, 3) := by decide +kernel
theorem dX12_sign_24 : decode cX12_sign 24 = .ok (.aload_n 0, 1) := by decide +kernel
theorem dX12_sign_25 : decode cX12_sign 25 = .ok (.getfield 138, 3) := by decide +kernel
theorem dX12_sign_28 : decode cX12_sign 28 = .ok (.iload_n 1, 1) := by decide +kernel
theorem dX12_sign_29 : decode cX12_sign 29 = .ok (.iaload, 1) := by decide +kernel
theorem dX12_sign_30 : decode cX12_sign 30 = .ok (.goto 16, 3) := by decide +kernel
theorem dX12_sign_33 : decode cX12_sign 33 = .ok (.aload_n 0, 1) := by decide +kernel
theorem dX12_sign_34 : decode cX12_sign 34 = .ok (.getfield 138, 3) := by decide +kernel
theorem dX12_sign_37 : decode cX12_sign 37 = .ok (.iload_n 1, 1) := by decide +kernel
theorem dX12_sign_38 : decode cX12_sign 38 = .ok (.iaload, 1) := by decide +kernel
theorem dX12_sign_39 : decode cX12_sign 39 = .ok (.iconst (-1), 1) := by decide +kernel
theorem dX12_sign_40 : decode cX12_sign 40 = .ok (.ixor, 1) := by decide +kernel
theorem dX12_sign_41 : decode cX12_sign 41 = .ok (.aload_n 0, 1) := by decide +kernel
theorem dX12_sign_42 : decode cX12_sign 42 = .ok (.invokevirtual 334, 3) := by decide +kernel
theorem dX12_sign_45 : decode cX12_sign 45 = .ok (.iand, 1) := by decide +kernel
theorem dX12_sign_46 : decode cX12_sign 46 = .ok (.invokevirtual 381, 3) := by decide +kernel
theorem dX12_sign_49 : decode cX12_sign 49 = .ok (.goto 4, 3) := by decide +kernel
theorem dX12_sign_52 : decode cX12_sign 52 = .ok (.iconst (-1), 1) := by decide +kernel
theorem dX12_sign_53 : decode cX12_sign 53 = .ok (.ireturn, 1) := by decide +kernel
set_option maxRecDepth 20000 in
theorem gX12_weather_X12_within : GoodIn wsX12_weather (va_wsS RX12 241 yX12_within wsX12_within) := goodIn_r _ [2, 3, 4, 5] rfl (by decide +kernel)
set_option maxRecDepth 20000 in
theorem gX12_weather_X12_soOf : GoodIn wsX12_weather (wsV RX12 362 RX12 yX12_soOf wsX12_soOf) := goodIn_r _ [6, 7, 8, 4, 9, 10, 11, 12, 4, 13, 14, 15, 16, 17, 18, 19, 20, 21, 22, 23, 24, 25, 43, 44, 45, 46, 47, 48, 49, 50, 51, 52, 53, 54, 55, 56, 57, 58, 59, 60, 61, 62, 63, 64, 65, 66, 67, 68, 69, 70, 71, 72, 73, 74, 75, 76, 77, 78, 79, 80, 81] rfl (by decide +kernel)
set_option maxRecDepth 20000 in
theorem gX12_weather_X12_leaves : GoodIn wsX12_weather (wsV RX12 381 RX12 yX12_leaves wsX12_leaves) := goodIn_r _ [26, 27, 28, 4, 29, 30, 31, 32, 33, 4, 34, 35, 36, 37, 38, 39, 40, 41, 42, 43, 44, 45, 46, 47, 48, 49, 50, 51, 52, 53, 54, 55, 56, 57, 58, 59, 60, 61, 62, 63, 64, 65, 66, 67, 68, 69, 70, 71, 72, 73, 74, 75, 76, 77, 78, 79, 80, 81] rfl (by decide +kernel)
theorem dX12_weather_0 : decode cX12_weather 0 = .ok (.aload_n 0, 1) := by decide +kernel
theorem dX12_weather_1 : decode cX12_weather 1 = .ok (.iconst 0, 1) := by decide +kernel
theorem dX12_weather_2 : decode cX12_weather 2 = .ok (.putfield 1, 3) := by decide +kernel
theorem dX12_weather_5 : decode cX12_weather 5 = .ok (.iload_n 1, 1) := by decide +kernel
theorem dX12_weather_6 : decode cX12_weather 6 = .ok (.iconst 0, 1) := by decide +kernel
theorem dX12_weather_7 : decode cX12_weather 7 = .ok (.iconst 3, 1) := by decide +kernel
theorem dX12_weather_8 : decode cX12_weather 8 = .ok (.invokestatic 241, 3) := by decide +kernel
theorem dX12_weather_11 : decode cX12_weather 11 = .ok (.ifCond .eq 15, 3) := by decide +kernel
theorem dX12_weather_14 : decode cX12_weather 14 = .ok (.aload_n 0, 1) := by decide +kernel
theorem dX12_weather_15 : decode cX12_weather 15 = .ok (.aload_n 0, 1) := by decide +kernel
theorem dX12_weather_16 : decode cX12_weather 16 = .ok (.iload_n 1, 1) := by decide +kernel
theorem dX12_weather_17 : decode cX12_weather 17 = .ok (.invokevirtual 362, 3) := by decide +kernel
theorem dX12_weather_20 : decode cX12_weather 20 = .ok (.invokevirtual 381, 3) := by decide +kernel
theorem dX12_weather_23 : decode cX12_weather 23 = .ok (.goto 4, 3) := by decide +kernel
theorem dX12_weather_26 : decode cX12_weather 26 = .ok (.iconst (-1), 1) := by decide +kernel
theorem dX12_weather_27 : decode cX12_weather 27 = .ok (.ireturn, 1) := by decide +kernel
set_option maxRecDepth 20000 in
theorem gX12_endsNight_X12_whoIn : GoodIn wsX12_endsNight (wsV RX12 384 RX12 yX12_whoIn wsX12_whoIn) := goodIn_r _ [2, 3, 4, 5, 6, 7, 8, 9, 5, 10, 11, 12, 13, 14, 23, 24, 25, 26, 27, 28, 29, 30, 31, 32, 33, 34, 35, 36, 37, 38, 39, 40, 41, 42, 43, 44, 45, 46, 47, 48, 49, 50, 51, 52, 53, 54, 55, 56, 57, 58, 59, 60, 61] rfl (by decide +kernel)
set_option maxRecDepth 20000 in
theorem gX12_endsNight_X12_everyWorld : GoodIn wsX12_endsNight (wsV RX12 334 RX12 yX12_everyWorld wsX12_everyWorld) := goodIn_r _ [15, 16, 17, 5, 18, 19, 20, 21, 5, 22, 7, 8, 9, 10, 11, 23, 24, 25, 26, 27, 28, 29, 30, 31, 32, 33, 34, 35, 36, 37, 38, 39, 40, 41, 42, 43, 44, 45, 46, 47, 48, 49, 50, 51, 52, 53, 54, 55, 56, 57, 58, 59, 60, 61] rfl (by decide +kernel)
theorem dX12_endsNight_0 : decode cX12_endsNight 0 = .ok (.aload_n 0, 1) := by decide +kernel
theorem dX12_endsNight_1 : decode cX12_endsNight 1 = .ok (.getfield 131, 3) := by decide +kernel
theorem dX12_endsNight_4 : decode cX12_endsNight 4 = .ok (.iload_n 1, 1) := by decide +kernel
theorem dX12_endsNight_5 : decode cX12_endsNight 5 = .ok (.iconst 1, 1) := by decide +kernel
theorem dX12_endsNight_6 : decode cX12_endsNight 6 = .ok (.iadd, 1) := by decide +kernel
theorem dX12_endsNight_7 : decode cX12_endsNight 7 = .ok (.iaload, 1) := by decide +kernel
theorem dX12_endsNight_8 : decode cX12_endsNight 8 = .ok (.bipush 10, 2) := by decide +kernel
theorem dX12_endsNight_10 : decode cX12_endsNight 10 = .ok (.if_icmp .ge 44, 3) := by decide +kernel
theorem dX12_endsNight_13 : decode cX12_endsNight 13 = .ok (.aload_n 0, 1) := by decide +kernel
theorem dX12_endsNight_14 : decode cX12_endsNight 14 = .ok (.getfield 131, 3) := by decide +kernel
theorem dX12_endsNight_17 : decode cX12_endsNight 17 = .ok (.iload_n 1, 1) := by decide +kernel
theorem dX12_endsNight_18 : decode cX12_endsNight 18 = .ok (.iconst 2, 1) := by decide +kernel
theorem dX12_endsNight_19 : decode cX12_endsNight 19 = .ok (.iadd, 1) := by decide +kernel
theorem dX12_endsNight_20 : decode cX12_endsNight 20 = .ok (.aload_n 0, 1) := by decide +kernel
theorem dX12_endsNight_21 : decode cX12_endsNight 21 = .ok (.getfield 131, 3) := by decide +kernel
theorem dX12_endsNight_24 : decode cX12_endsNight 24 = .ok (.iload_n 1, 1) := by decide +kernel
theorem dX12_endsNight_25 : decode cX12_endsNight 25 = .ok (.iconst 1, 1) := by decide +kernel
theorem dX12_endsNight_26 : decode cX12_endsNight 26 = .ok (.iadd, 1) := by decide +kernel
theorem dX12_endsNight_27 : decode cX12_endsNight 27 = .ok (.iaload, 1) := by decide +kernel
theorem dX12_endsNight_28 : decode cX12_endsNight 28 = .ok (.iadd, 1) := by decide +kernel
theorem dX12_endsNight_29 : decode cX12_endsNight 29 = .ok (.aload_n 0, 1) := by decide +kernel
theorem dX12_endsNight_30 : decode cX12_endsNight 30 = .ok (.aload_n 0, 1) := by decide +kernel
theorem dX12_endsNight_31 : decode cX12_endsNight 31 = .ok (.getfield 131, 3) := by decide +kernel
theorem dX12_endsNight_34 : decode cX12_endsNight 34 = .ok (.iload_n 1, 1) := by decide +kernel
theorem dX12_endsNight_35 : decode cX12_endsNight 35 = .ok (.iconst 0, 1) := by decide +kernel
theorem dX12_endsNight_36 : decode cX12_endsNight 36 = .ok (.iadd, 1) := by decide +kernel
theorem dX12_endsNight_37 : decode cX12_endsNight 37 = .ok (.iaload, 1) := by decide +kernel
theorem dX12_endsNight_38 : decode cX12_endsNight 38 = .ok (.invokevirtual 384, 3) := by decide +kernel
theorem dX12_endsNight_41 : decode cX12_endsNight 41 = .ok (.iastore, 1) := by decide +kernel
theorem dX12_endsNight_42 : decode cX12_endsNight 42 = .ok (.aload_n 0, 1) := by decide +kernel
theorem dX12_endsNight_43 : decode cX12_endsNight 43 = .ok (.getfield 131, 3) := by decide +kernel
theorem dX12_endsNight_46 : decode cX12_endsNight 46 = .ok (.iload_n 1, 1) := by decide +kernel
theorem dX12_endsNight_47 : decode cX12_endsNight 47 = .ok (.iconst 1, 1) := by decide +kernel
theorem dX12_endsNight_48 : decode cX12_endsNight 48 = .ok (.iadd, 1) := by decide +kernel
theorem dX12_endsNight_49 : decode cX12_endsNight 49 = .ok (.dup2, 1) := by decide +kernel
theorem dX12_endsNight_50 : decode cX12_endsNight 50 = .ok (.iaload, 1) := by decide +kernel
theorem dX12_endsNight_51 : decode cX12_endsNight 51 = .ok (.iconst 1, 1) := by decide +kernel
theorem dX12_endsNight_52 : decode cX12_endsNight 52 = .ok (.iadd, 1) := by decide +kernel
theorem dX12_endsNight_53 : decode cX12_endsNight 53 = .ok (.iastore, 1) := by decide +kernel
theorem dX12_endsNight_54 : decode cX12_endsNight 54 = .ok (.aload_n 0, 1) := by decide +kernel
theorem dX12_endsNight_55 : decode cX12_endsNight 55 = .ok (.getfield 131, 3) := by decide +kernel
theorem dX12_endsNight_58 : decode cX12_endsNight 58 = .ok (.iload_n 1, 1) := by decide +kernel
theorem dX12_endsNight_59 : decode cX12_endsNight 59 = .ok (.iconst 0, 1) := by decide +kernel
theorem dX12_endsNight_60 : decode cX12_endsNight 60 = .ok (.iadd, 1) := by decide +kernel
theorem dX12_endsNight_61 : decode cX12_endsNight 61 = .ok (.aload_n 0, 1) := by decide +kernel
theorem dX12_endsNight_62 : decode cX12_endsNight 62 = .ok (.invokevirtual 334, 3) := by decide +kernel
theorem dX12_endsNight_65 : decode cX12_endsNight 65 = .ok (.iastore, 1) := by decide +kernel
theorem dX12_endsNight_66 : decode cX12_endsNight 66 = .ok (.return_, 1) := by decide +kernel
set_option maxRecDepth 20000 in
theorem gX12_night_X12_guests : GoodIn wsX12_night (wsV RX12 328 RX12 yX12_guests wsX12_guests) := goodIn_r _ [3, 4, 5, 6, 7, 8, 37, 38, 39, 40, 41, 42, 43, 44, 45, 46, 47, 48, 49, 50, 51, 52, 53, 54, 55, 56, 57, 58, 59, 60, 61, 62, 63, 64, 65, 66, 67, 68, 69, 70, 71, 72, 73, 74, 75] rfl (by decide +kernel)
set_option maxRecDepth 20000 in
theorem gX12_night_X12_keeps : GoodIn wsX12_night (wsV RX12 368 RX12 yX12_keeps wsX12_keeps) := goodIn_r _ [9, 10, 11, 6, 12, 13, 14, 15, 16, 6, 17, 2, 37, 38, 39, 40, 41, 42, 43, 44, 45, 46, 47, 48, 49, 50, 51, 52, 53, 54, 55, 56, 57, 58, 59, 60, 61, 62, 63, 64, 65, 66, 67, 68, 69, 70, 71, 72, 73, 74, 75] rfl (by decide +kernel)
set_option maxRecDepth 20000 in
theorem gX12_night_X12_endsNight : GoodIn wsX12_night (wsV RX12 387 RX12 yX12_endsNight wsX12_endsNight) := goodIn_r _ [18, 19, 20, 6, 21, 2, 22, 23, 24, 6, 25, 3, 4, 5, 7, 8, 26, 27, 28, 29, 30, 31, 32, 33, 34, 35, 36, 37, 38, 39, 40, 41, 42, 43, 44, 45, 46, 47, 48, 49, 50, 51, 52, 53, 54, 55, 56, 57, 58, 59, 60, 61, 62, 63, 64, 65, 66, 67, 68, 69, 70, 71, 72, 73, 74, 75] rfl (by decide +kernel)
theorem dX12_night_0 : decode cX12_night 0 = .ok (.aload_n 0, 1) := by decide +kernel
theorem dX12_night_1 : decode cX12_night 1 = .ok (.iconst 0, 1) := by decide +kernel
theorem dX12_night_2 : decode cX12_night 2 = .ok (.putfield 1, 3) := by decide +kernel
theorem dX12_night_5 : decode cX12_night 5 = .ok (.aload_n 0, 1) := by decide +kernel
theorem dX12_night_6 : decode cX12_night 6 = .ok (.invokevirtual 328, 3) := by decide +kernel
theorem dX12_night_9 : decode cX12_night 9 = .ok (.ifCond .eq 14, 3) := by decide +kernel
theorem dX12_night_12 : decode cX12_night 12 = .ok (.aload_n 0, 1) := by decide +kernel
theorem dX12_night_13 : decode cX12_night 13 = .ok (.getfield 131, 3) := by decide +kernel
theorem dX12_night_16 : decode cX12_night 16 = .ok (.iconst 1, 1) := by decide +kernel
theorem dX12_night_17 : decode cX12_night 17 = .ok (.iaload, 1) := by decide +kernel
theorem dX12_night_18 : decode cX12_night 18 = .ok (.bipush 10, 2) := by decide +kernel
theorem dX12_night_20 : decode cX12_night 20 = .ok (.if_icmp .ne 5, 3) := by decide +kernel
theorem dX12_night_23 : decode cX12_night 23 = .ok (.iconst (-1), 1) := by decide +kernel
theorem dX12_night_24 : decode cX12_night 24 = .ok (.ireturn, 1) := by decide +kernel
theorem dX12_night_25 : decode cX12_night 25 = .ok (.aload_n 0, 1) := by decide +kernel
theorem dX12_night_26 : decode cX12_night 26 = .ok (.invokevirtual 368, 3) := by decide +kernel
theorem dX12_night_29 : decode cX12_night 29 = .ok (.aload_n 0, 1) := by decide +kernel
theorem dX12_night_30 : decode cX12_night 30 = .ok (.iconst 0, 1) := by decide +kernel
theorem dX12_night_31 : decode cX12_night 31 = .ok (.invokevirtual 387, 3) := by decide +kernel
theorem dX12_night_34 : decode cX12_night 34 = .ok (.aload_n 0, 1) := by decide +kernel
theorem dX12_night_35 : decode cX12_night 35 = .ok (.getfield 131, 3) := by decide +kernel
theorem dX12_night_38 : decode cX12_night 38 = .ok (.iconst 2, 1) := by decide +kernel
theorem dX12_night_39 : decode cX12_night 39 = .ok (.aload_n 0, 1) := by decide +kernel
theorem dX12_night_40 : decode cX12_night 40 = .ok (.getfield 131, 3) := by decide +kernel
theorem dX12_night_43 : decode cX12_night 43 = .ok (.iconst 1, 1) := by decide +kernel
theorem dX12_night_44 : decode cX12_night 44 = .ok (.iaload, 1) := by decide +kernel
theorem dX12_night_45 : decode cX12_night 45 = .ok (.iadd, 1) := by decide +kernel
theorem dX12_night_46 : decode cX12_night 46 = .ok (.iconst 1, 1) := by decide +kernel
theorem dX12_night_47 : decode cX12_night 47 = .ok (.isub, 1) := by decide +kernel
theorem dX12_night_48 : decode cX12_night 48 = .ok (.iaload, 1) := by decide +kernel
theorem dX12_night_49 : decode cX12_night 49 = .ok (.ireturn, 1) := by decide +kernel
set_option maxRecDepth 20000 in
theorem gX12_undo_X12_copies : GoodIn wsX12_undo (wsV RX12 349 RX12 yX12_copies wsX12_copies) := goodIn_r _ [3, 4, 5, 6, 7, 8, 9, 10, 11, 12, 13, 14, 15, 16, 17, 18, 19, 20, 21, 22, 23, 24, 25, 26, 27, 28, 29, 30, 31, 32, 33, 34, 35, 36, 37, 38, 39, 40, 41, 42, 43, 44, 45, 46, 47] rfl (by decide +kernel)
theorem dX12_undo_0 : decode cX12_undo 0 = .ok (.aload_n 0, 1) := by decide +kernel
theorem dX12_undo_1 : decode cX12_undo 1 = .ok (.iconst 0, 1) := by decide +kernel
theorem dX12_undo_2 : decode cX12_undo 2 = .ok (.putfield 1, 3) := by decide +kernel
theorem dX12_undo_5 : decode cX12_undo 5 = .ok (.aload_n 0, 1) := by decide +kernel
theorem dX12_undo_6 : decode cX12_undo 6 = .ok (.getfield 346, 3) := by decide +kernel
theorem dX12_undo_9 : decode cX12_undo 9 = .ok (.ifCond .ne 5, 3) := by decide +kernel
theorem dX12_undo_12 : decode cX12_undo 12 = .ok (.iconst 0, 1) := by decide +kernel
theorem dX12_undo_13 : decode cX12_undo 13 = .ok (.ireturn, 1) := by decide +kernel
theorem dX12_undo_14 : decode cX12_undo 14 = .ok (.aload_n 0, 1) := by decide +kernel
theorem dX12_undo_15 : decode cX12_undo 15 = .ok (.dup, 1) := by decide +kernel
theorem dX12_undo_16 : decode cX12_undo 16 = .ok (.getfield 346, 3) := by decide +kernel
theorem dX12_undo_19 : decode cX12_undo 19 = .ok (.iconst 1, 1) := by decide +kernel
theorem dX12_undo_20 : decode cX12_undo 20 = .ok (.isub, 1) := by decide +kernel
theorem dX12_undo_21 : decode cX12_undo 21 = .ok (.putfield 346, 3) := by decide +kernel
theorem dX12_undo_24 : decode cX12_undo 24 = .ok (.aload_n 0, 1) := by decide +kernel
theorem dX12_undo_25 : decode cX12_undo 25 = .ok (.bipush 30, 2) := by decide +kernel
theorem dX12_undo_27 : decode cX12_undo 27 = .ok (.iconst 5, 1) := by decide +kernel
theorem dX12_undo_28 : decode cX12_undo 28 = .ok (.aload_n 0, 1) := by decide +kernel
theorem dX12_undo_29 : decode cX12_undo 29 = .ok (.getfield 346, 3) := by decide +kernel
theorem dX12_undo_32 : decode cX12_undo 32 = .ok (.iadd, 1) := by decide +kernel
theorem dX12_undo_33 : decode cX12_undo 33 = .ok (.imul, 1) := by decide +kernel
theorem dX12_undo_34 : decode cX12_undo 34 = .ok (.iconst 0, 1) := by decide +kernel
theorem dX12_undo_35 : decode cX12_undo 35 = .ok (.bipush 12, 2) := by decide +kernel
theorem dX12_undo_37 : decode cX12_undo 37 = .ok (.invokevirtual 349, 3) := by decide +kernel
theorem dX12_undo_40 : decode cX12_undo 40 = .ok (.iconst 1, 1) := by decide +kernel
theorem dX12_undo_41 : decode cX12_undo 41 = .ok (.ireturn, 1) := by decide +kernel
set_option maxRecDepth 20000 in
theorem gX12_lineIn_X12_soIn : GoodIn wsX12_lineIn (wsV RX12 340 RX12 yX12_soIn wsX12_soIn) := goodIn_r _ [3, 4, 5, 6, 7, 8, 9, 10, 2, 11, 12, 13, 6, 14, 15, 16, 17, 18, 19, 20, 21, 22, 23, 24, 25, 26, 27, 28, 29, 30, 31, 32, 33, 34, 35, 36, 37, 38, 43, 44, 45, 46, 47, 48, 49, 50, 51, 52, 53, 54, 55, 56, 57, 58, 59, 60, 61, 62, 63, 64, 65, 66, 67, 68, 69, 70, 71, 72, 73, 74, 75, 76, 77, 78, 79, 80, 81] rfl (by decide +kernel)
set_option maxRecDepth 20000 in
theorem gX12_lineIn_X12_saidIn : GoodIn wsX12_lineIn (wsV RX12 374 RX12 yX12_saidIn wsX12_saidIn) := goodIn_r _ [39, 40, 41, 6, 42, 20, 21, 22, 6, 23, 19, 28, 29, 30, 31, 32, 33, 34, 35, 36, 37, 38, 15, 16, 17, 18, 43, 44, 45, 46, 47, 48, 49, 50, 51, 52, 53, 54, 55, 56, 57, 58, 59, 60, 61, 62, 63, 64, 65, 66, 67, 68, 69, 70, 71, 72, 73, 74, 75, 76, 77, 78, 79, 80, 81] rfl (by decide +kernel)
set_option maxRecDepth 20000 in
theorem gX12_lineIn_X12_everyWorld : GoodIn wsX12_lineIn (wsV RX12 334 RX12 yX12_everyWorld wsX12_everyWorld) := goodIn_r _ [31, 32, 33, 6, 34, 35, 36, 37, 6, 38, 15, 16, 17, 18, 19, 43, 44, 45, 46, 47, 48, 49, 50, 51, 52, 53, 54, 55, 56, 57, 58, 59, 60, 61, 62, 63, 64, 65, 66, 67, 68, 69, 70, 71, 72, 73, 74, 75, 76, 77, 78, 79, 80, 81] rfl (by decide +kernel)
set_option maxRecDepth 20000 in
theorem gX12_lineIn_X12_soOf : GoodIn wsX12_lineIn (wsV RX12 362 RX12 yX12_soOf wsX12_soOf) := goodIn_r _ [11, 12, 13, 6, 14, 15, 16, 17, 6, 18, 19, 20, 21, 22, 23, 24, 25, 26, 27, 28, 29, 30, 43, 44, 45, 46, 47, 48, 49, 50, 51, 52, 53, 54, 55, 56, 57, 58, 59, 60, 61, 62, 63, 64, 65, 66, 67, 68, 69, 70, 71, 72, 73, 74, 75, 76, 77, 78, 79, 80, 81] rfl (by decide +kernel)
theorem dX12_lineIn_0 : decode cX12_lineIn 0 = .ok (.aload_n 0, 1) := by decide +kernel
theorem dX12_lineIn_1 : decode cX12_lineIn 1 = .ok (.getfield 122, 3) := by decide +kernel
theorem dX12_lineIn_4 : decode cX12_lineIn 4 = .ok (.iload_n 1, 1) := by decide +kernel
theorem dX12_lineIn_5 : decode cX12_lineIn 5 = .ok (.iaload, 1) := by decide +kernel
theorem dX12_lineIn_6 : decode cX12_lineIn 6 = .ok (.istore_n 2, 1) := by decide +kernel
theorem dX12_lineIn_7 : decode cX12_lineIn 7 = .ok (.iload_n 2, 1) := by decide +kernel
theorem dX12_lineIn_8 : decode cX12_lineIn 8 = .ok (.ifCond .ne 28, 3) := by decide +kernel
theorem dX12_lineIn_11 : decode cX12_lineIn 11 = .ok (.aload_n 0, 1) := by decide +kernel
theorem dX12_lineIn_12 : decode cX12_lineIn 12 = .ok (.aload_n 0, 1) := by decide +kernel
theorem dX12_lineIn_13 : decode cX12_lineIn 13 = .ok (.getfield 122, 3) := by decide +kernel
theorem dX12_lineIn_16 : decode cX12_lineIn 16 = .ok (.iload_n 1, 1) := by decide +kernel
theorem dX12_lineIn_17 : decode cX12_lineIn 17 = .ok (.iconst 1, 1) := by decide +kernel
theorem dX12_lineIn_18 : decode cX12_lineIn 18 = .ok (.iadd, 1) := by decide +kernel
theorem dX12_lineIn_19 : decode cX12_lineIn 19 = .ok (.iaload, 1) := by decide +kernel
theorem dX12_lineIn_20 : decode cX12_lineIn 20 = .ok (.aload_n 0, 1) := by decide +kernel
theorem dX12_lineIn_21 : decode cX12_lineIn 21 = .ok (.aload_n 0, 1) := by decide +kernel
theorem dX12_lineIn_22 : decode cX12_lineIn 22 = .ok (.getfield 122, 3) := by decide +kernel
theorem dX12_lineIn_25 : decode cX12_lineIn 25 = .ok (.iload_n 1, 1) := by decide +kernel
theorem dX12_lineIn_26 : decode cX12_lineIn 26 = .ok (.iconst 2, 1) := by decide +kernel
theorem dX12_lineIn_27 : decode cX12_lineIn 27 = .ok (.iadd, 1) := by decide +kernel
theorem dX12_lineIn_28 : decode cX12_lineIn 28 = .ok (.iaload, 1) := by decide +kernel
theorem dX12_lineIn_29 : decode cX12_lineIn 29 = .ok (.invokevirtual 340, 3) := by decide +kernel
theorem dX12_lineIn_32 : decode cX12_lineIn 32 = .ok (.invokevirtual 374, 3) := by decide +kernel
theorem dX12_lineIn_35 : decode cX12_lineIn 35 = .ok (.ireturn, 1) := by decide +kernel
theorem dX12_lineIn_36 : decode cX12_lineIn 36 = .ok (.iload_n 2, 1) := by decide +kernel
theorem dX12_lineIn_37 : decode cX12_lineIn 37 = .ok (.iconst 1, 1) := by decide +kernel
theorem dX12_lineIn_38 : decode cX12_lineIn 38 = .ok (.if_icmp .ne 19, 3) := by decide +kernel
theorem dX12_lineIn_41 : decode cX12_lineIn 41 = .ok (.aload_n 0, 1) := by decide +kernel
theorem dX12_lineIn_42 : decode cX12_lineIn 42 = .ok (.getfield 138, 3) := by decide +kernel
theorem dX12_lineIn_45 : decode cX12_lineIn 45 = .ok (.aload_n 0, 1) := by decide +kernel
theorem dX12_lineIn_46 : decode cX12_lineIn 46 = .ok (.getfield 122, 3) := by decide +kernel
theorem dX12_lineIn_49 : decode cX12_lineIn 49 = .ok (.iload_n 1, 1) := by decide +kernel
theorem dX12_lineIn_50 : decode cX12_lineIn 50 = .ok (.iconst 1, 1) := by decide +kernel
theorem dX12_lineIn_51 : decode cX12_lineIn 51 = .ok (.iadd, 1) := by decide +kernel
theorem dX12_lineIn_52 : decode cX12_lineIn 52 = .ok (.iaload, 1) := by decide +kernel
theorem dX12_lineIn_53 : decode cX12_lineIn 53 = .ok (.iaload, 1) := by decide +kernel
theorem dX12_lineIn_54 : decode cX12_lineIn 54 = .ok (.goto 55, 3) := by decide +kernel
theorem dX12_lineIn_57 : decode cX12_lineIn 57 = .ok (.iload_n 2, 1) := by decide +kernel
theorem dX12_lineIn_58 : decode cX12_lineIn 58 = .ok (.iconst 2, 1) := by decide +kernel
theorem dX12_lineIn_59 : decode cX12_lineIn 59 = .ok (.if_icmp .ne 26, 3) := by decide +kernel
theorem dX12_lineIn_62 : decode cX12_lineIn 62 = .ok (.aload_n 0, 1) := by decide +kernel
theorem dX12_lineIn_63 : decode cX12_lineIn 63 = .ok (.getfield 138, 3) := by decide +kernel
theorem dX12_lineIn_66 : decode cX12_lineIn 66 = .ok (.aload_n 0, 1) := by decide +kernel
theorem dX12_lineIn_67 : decode cX12_lineIn 67 = .ok (.getfield 122, 3) := by decide +kernel
theorem dX12_lineIn_70 : decode cX12_lineIn 70 = .ok (.iload_n 1, 1) := by decide +kernel
theorem dX12_lineIn_71 : decode cX12_lineIn 71 = .ok (.iconst 1, 1) := by decide +kernel
theorem dX12_lineIn_72 : decode cX12_lineIn 72 = .ok (.iadd, 1) := by decide +kernel
theorem dX12_lineIn_73 : decode cX12_lineIn 73 = .ok (.iaload, 1) := by decide +kernel
theorem dX12_lineIn_74 : decode cX12_lineIn 74 = .ok (.iaload, 1) := by decide +kernel
theorem dX12_lineIn_75 : decode cX12_lineIn 75 = .ok (.iconst (-1), 1) := by decide +kernel
theorem dX12_lineIn_76 : decode cX12_lineIn 76 = .ok (.ixor, 1) := by decide +kernel
theorem dX12_lineIn_77 : decode cX12_lineIn 77 = .ok (.aload_n 0, 1) := by decide +kernel
theorem dX12_lineIn_78 : decode cX12_lineIn 78 = .ok (.invokevirtual 334, 3) := by decide +kernel
theorem dX12_lineIn_81 : decode cX12_lineIn 81 = .ok (.iand, 1) := by decide +kernel
theorem dX12_lineIn_82 : decode cX12_lineIn 82 = .ok (.goto 27, 3) := by decide +kernel
theorem dX12_lineIn_85 : decode cX12_lineIn 85 = .ok (.iload_n 2, 1) := by decide +kernel
theorem dX12_lineIn_86 : decode cX12_lineIn 86 = .ok (.iconst 3, 1) := by decide +kernel
theorem dX12_lineIn_87 : decode cX12_lineIn 87 = .ok (.if_icmp .ne 18, 3) := by decide +kernel
theorem dX12_lineIn_90 : decode cX12_lineIn 90 = .ok (.aload_n 0, 1) := by decide +kernel
theorem dX12_lineIn_91 : decode cX12_lineIn 91 = .ok (.aload_n 0, 1) := by decide +kernel
theorem dX12_lineIn_92 : decode cX12_lineIn 92 = .ok (.getfield 122, 3) := by decide +kernel
theorem dX12_lineIn_95 : decode cX12_lineIn 95 = .ok (.iload_n 1, 1) := by decide +kernel
theorem dX12_lineIn_96 : decode cX12_lineIn 96 = .ok (.iconst 1, 1) := by decide +kernel
theorem dX12_lineIn_97 : decode cX12_lineIn 97 = .ok (.iadd, 1) := by decide +kernel
theorem dX12_lineIn_98 : decode cX12_lineIn 98 = .ok (.iaload, 1) := by decide +kernel
theorem dX12_lineIn_99 : decode cX12_lineIn 99 = .ok (.invokevirtual 362, 3) := by decide +kernel
theorem dX12_lineIn_102 : decode cX12_lineIn 102 = .ok (.goto 7, 3) := by decide +kernel
theorem dX12_lineIn_105 : decode cX12_lineIn 105 = .ok (.aload_n 0, 1) := by decide +kernel
theorem dX12_lineIn_106 : decode cX12_lineIn 106 = .ok (.invokevirtual 334, 3) := by decide +kernel
theorem dX12_lineIn_109 : decode cX12_lineIn 109 = .ok (.ireturn, 1) := by decide +kernel
set_option maxRecDepth 20000 in
theorem gX12_runs_X12_starts : GoodIn wsX12_runs (wsV RX12 343 RX12 yX12_starts wsX12_starts) := goodIn_r _ [3, 4, 5, 6, 7, 2, 8, 9, 10, 6, 11, 12, 13, 14, 15, 16, 17, 18, 19, 20, 60, 61, 62, 63, 64, 65, 66, 67, 68, 69, 70, 71, 72, 73, 74, 75, 76, 77, 78, 79, 80, 81, 82, 83, 84, 85, 86, 87, 88, 89, 90, 91, 92, 93, 94, 95, 96, 97, 98] rfl (by decide +kernel)
set_option maxRecDepth 20000 in
theorem gX12_runs_X12_lineIn : GoodIn wsX12_runs (wsV RX12 390 RX12 yX12_lineIn wsX12_lineIn) := goodIn_r _ [21, 22, 23, 6, 24, 1, 25, 26, 27, 28, 6, 29, 30, 31, 32, 33, 34, 35, 36, 16, 17, 18, 19, 20, 37, 38, 39, 40, 41, 42, 43, 44, 45, 46, 47, 8, 9, 10, 11, 12, 13, 14, 15, 48, 49, 50, 51, 60, 61, 62, 63, 64, 65, 66, 67, 68, 69, 70, 71, 72, 73, 74, 75, 76, 77, 78, 79, 80, 81, 82, 83, 84, 85, 86, 87, 88, 89, 90, 91, 92, 93, 94, 95, 96, 97, 98] rfl (by decide +kernel)
set_option maxRecDepth 20000 in
theorem gX12_runs_X12_endsNight : GoodIn wsX12_runs (wsV RX12 387 RX12 yX12_endsNight wsX12_endsNight) := goodIn_r _ [52, 53, 54, 6, 55, 2, 56, 57, 58, 6, 59, 16, 17, 18, 19, 20, 45, 46, 47, 8, 9, 10, 11, 12, 13, 14, 15, 60, 61, 62, 63, 64, 65, 66, 67, 68, 69, 70, 71, 72, 73, 74, 75, 76, 77, 78, 79, 80, 81, 82, 83, 84, 85, 86, 87, 88, 89, 90, 91, 92, 93, 94, 95, 96, 97, 98] rfl (by decide +kernel)
theorem dX12_runs_0 : decode cX12_runs 0 = .ok (.aload_n 0, 1) := by decide +kernel
theorem dX12_runs_1 : decode cX12_runs 1 = .ok (.sipush 630, 3) := by decide +kernel
theorem dX12_runs_4 : decode cX12_runs 4 = .ok (.invokevirtual 343, 3) := by decide +kernel
theorem dX12_runs_7 : decode cX12_runs 7 = .ok (.iconst (-1), 1) := by decide +kernel
theorem dX12_runs_8 : decode cX12_runs 8 = .ok (.istore_n 2, 1) := by decide +kernel
theorem dX12_runs_9 : decode cX12_runs 9 = .ok (.iconst 0, 1) := by decide +kernel
theorem dX12_runs_10 : decode cX12_runs 10 = .ok (.istore_n 3, 1) := by decide +kernel
theorem dX12_runs_11 : decode cX12_runs 11 = .ok (.iload_n 3, 1) := by decide +kernel
theorem dX12_runs_12 : decode cX12_runs 12 = .ok (.aload_n 0, 1) := by decide +kernel
theorem dX12_runs_13 : decode cX12_runs 13 = .ok (.getfield 122, 3) := by decide +kernel
theorem dX12_runs_16 : decode cX12_runs 16 = .ok (.iconst 0, 1) := by decide +kernel
theorem dX12_runs_17 : decode cX12_runs 17 = .ok (.iaload, 1) := by decide +kernel
theorem dX12_runs_18 : decode cX12_runs 18 = .ok (.if_icmp .ge 108, 3) := by decide +kernel
theorem dX12_runs_21 : decode cX12_runs 21 = .ok (.aload_n 0, 1) := by decide +kernel
theorem dX12_runs_22 : decode cX12_runs 22 = .ok (.getfield 131, 3) := by decide +kernel
theorem dX12_runs_25 : decode cX12_runs 25 = .ok (.sipush 630, 3) := by decide +kernel
theorem dX12_runs_28 : decode cX12_runs 28 = .ok (.iaload, 1) := by decide +kernel
theorem dX12_runs_29 : decode cX12_runs 29 = .ok (.aload_n 0, 1) := by decide +kernel
theorem dX12_runs_30 : decode cX12_runs 30 = .ok (.iconst 1, 1) := by decide +kernel
theorem dX12_runs_31 : decode cX12_runs 31 = .ok (.iconst 3, 1) := by decide +kernel
theorem dX12_runs_32 : decode cX12_runs 32 = .ok (.iload_n 3, 1) := by decide +kernel
theorem dX12_runs_33 : decode cX12_runs 33 = .ok (.imul, 1) := by decide +kernel
theorem dX12_runs_34 : decode cX12_runs 34 = .ok (.iadd, 1) := by decide +kernel
theorem dX12_runs_35 : decode cX12_runs 35 = .ok (.invokevirtual 390, 3) := by decide +kernel
theorem dX12_runs_38 : decode cX12_runs 38 = .ok (.iand, 1) := by decide +kernel
theorem dX12_runs_39 : decode cX12_runs 39 = .ok (.istore 4, 2) := by decide +kernel
theorem dX12_runs_41 : decode cX12_runs 41 = .ok (.aload_n 0, 1) := by decide +kernel
theorem dX12_runs_42 : decode cX12_runs 42 = .ok (.getfield 122, 3) := by decide +kernel
theorem dX12_runs_45 : decode cX12_runs 45 = .ok (.iconst 1, 1) := by decide +kernel
theorem dX12_runs_46 : decode cX12_runs 46 = .ok (.iconst 3, 1) := by decide +kernel
theorem dX12_runs_47 : decode cX12_runs 47 = .ok (.iload_n 3, 1) := by decide +kernel
theorem dX12_runs_48 : decode cX12_runs 48 = .ok (.imul, 1) := by decide +kernel
theorem dX12_runs_49 : decode cX12_runs 49 = .ok (.iadd, 1) := by decide +kernel
theorem dX12_runs_50 : decode cX12_runs 50 = .ok (.iaload, 1) := by decide +kernel
theorem dX12_runs_51 : decode cX12_runs 51 = .ok (.iconst 4, 1) := by decide +kernel
theorem dX12_runs_52 : decode cX12_runs 52 = .ok (.if_icmp .ne 7, 3) := by decide +kernel
theorem dX12_runs_55 : decode cX12_runs 55 = .ok (.iconst 1, 1) := by decide +kernel
theorem dX12_runs_56 : decode cX12_runs 56 = .ok (.goto 4, 3) := by decide +kernel
theorem dX12_runs_59 : decode cX12_runs 59 = .ok (.iconst 0, 1) := by decide +kernel
theorem dX12_runs_60 : decode cX12_runs 60 = .ok (.istore 5, 2) := by decide +kernel
theorem dX12_runs_62 : decode cX12_runs 62 = .ok (.iload_n 3, 1) := by decide +kernel
theorem dX12_runs_63 : decode cX12_runs 63 = .ok (.iload_n 1, 1) := by decide +kernel
theorem dX12_runs_64 : decode cX12_runs 64 = .ok (.if_icmp .eq 18, 3) := by decide +kernel
theorem dX12_runs_67 : decode cX12_runs 67 = .ok (.iload 5, 2) := by decide +kernel
theorem dX12_runs_69 : decode cX12_runs 69 = .ok (.ifCond .eq 13, 3) := by decide +kernel
theorem dX12_runs_72 : decode cX12_runs 72 = .ok (.aload_n 0, 1) := by decide +kernel
theorem dX12_runs_73 : decode cX12_runs 73 = .ok (.sipush 630, 3) := by decide +kernel
theorem dX12_runs_76 : decode cX12_runs 76 = .ok (.invokevirtual 387, 3) := by decide +kernel
theorem dX12_runs_79 : decode cX12_runs 79 = .ok (.goto 41, 3) := by decide +kernel
theorem dX12_runs_82 : decode cX12_runs 82 = .ok (.iload_n 3, 1) := by decide +kernel
theorem dX12_runs_83 : decode cX12_runs 83 = .ok (.iload_n 1, 1) := by decide +kernel
theorem dX12_runs_84 : decode cX12_runs 84 = .ok (.if_icmp .eq 21, 3) := by decide +kernel
theorem dX12_runs_87 : decode cX12_runs 87 = .ok (.iload 4, 2) := by decide +kernel
theorem dX12_runs_89 : decode cX12_runs 89 = .ok (.ifCond .eq 16, 3) := by decide +kernel
theorem dX12_runs_92 : decode cX12_runs 92 = .ok (.aload_n 0, 1) := by decide +kernel
theorem dX12_runs_93 : decode cX12_runs 93 = .ok (.getfield 131, 3) := by decide +kernel
theorem dX12_runs_96 : decode cX12_runs 96 = .ok (.sipush 630, 3) := by decide +kernel
theorem dX12_runs_99 : decode cX12_runs 99 = .ok (.iload 4, 2) := by decide +kernel
theorem dX12_runs_101 : decode cX12_runs 101 = .ok (.iastore, 1) := by decide +kernel
theorem dX12_runs_102 : decode cX12_runs 102 = .ok (.goto 18, 3) := by decide +kernel
theorem dX12_runs_105 : decode cX12_runs 105 = .ok (.iload_n 3, 1) := by decide +kernel
theorem dX12_runs_106 : decode cX12_runs 106 = .ok (.iload_n 1, 1) := by decide +kernel
theorem dX12_runs_107 : decode cX12_runs 107 = .ok (.if_icmp .eq 13, 3) := by decide +kernel
theorem dX12_runs_110 : decode cX12_runs 110 = .ok (.iload_n 2, 1) := by decide +kernel
theorem dX12_runs_111 : decode cX12_runs 111 = .ok (.ifCond .ge 7, 3) := by decide +kernel
theorem dX12_runs_114 : decode cX12_runs 114 = .ok (.iload_n 3, 1) := by decide +kernel
theorem dX12_runs_115 : decode cX12_runs 115 = .ok (.goto 4, 3) := by decide +kernel
theorem dX12_runs_118 : decode cX12_runs 118 = .ok (.iload_n 2, 1) := by decide +kernel
theorem dX12_runs_119 : decode cX12_runs 119 = .ok (.istore_n 2, 1) := by decide +kernel
theorem dX12_runs_120 : decode cX12_runs 120 = .ok (.iinc 3 1, 3) := by decide +kernel
theorem dX12_runs_123 : decode cX12_runs 123 = .ok (.goto (-112), 3) := by decide +kernel
theorem dX12_runs_126 : decode cX12_runs 126 = .ok (.iload_n 2, 1) := by decide +kernel
theorem dX12_runs_127 : decode cX12_runs 127 = .ok (.ireturn, 1) := by decide +kernel
set_option maxRecDepth 20000 in
theorem gX12_judged_X12_within : GoodIn wsX12_judged (va_wsS RX12 241 yX12_within wsX12_within) := goodIn_r _ [3, 4, 5, 6] rfl (by decide +kernel)
set_option maxRecDepth 20000 in
theorem gX12_judged_X12_runs : GoodIn wsX12_judged (wsV RX12 393 RX12 yX12_runs wsX12_runs) := goodIn_r _ [7, 8, 9, 5, 10, 11, 2, 12, 13, 14, 5, 15, 16, 17, 18, 19, 20, 21, 22, 23, 24, 25, 26, 27, 28, 29, 30, 31, 32, 33, 34, 35, 36, 37, 38, 39, 40, 41, 42, 43, 44, 45, 46, 47, 48, 49, 50, 51, 52, 53, 54, 55, 56, 57, 58, 59, 60, 61, 62, 63, 64, 65, 66, 67, 74, 75, 76, 77, 78, 79, 80, 81, 82, 83, 84, 85, 86, 87, 88, 89, 90, 91, 92, 93, 94, 95, 96, 97, 98, 99, 100, 101, 102, 103, 104, 105, 106, 107, 108, 109, 110, 111, 112] rfl (by decide +kernel)
set_option maxRecDepth 20000 in
theorem gX12_judged_X12_bits : GoodIn wsX12_judged (va_wsS RX12 371 yX12_bits wsX12_bits) := goodIn_r _ [68, 69, 5, 70] rfl (by decide +kernel)
set_option maxRecDepth 20000 in
theorem gX12_judged_X12_whoIn : GoodIn wsX12_judged (wsV RX12 384 RX12 yX12_whoIn wsX12_whoIn) := goodIn_r _ [64, 65, 66, 5, 67, 24, 25, 26, 5, 27, 28, 53, 54, 55, 74, 75, 76, 77, 78, 79, 80, 81, 82, 83, 84, 85, 86, 87, 88, 89, 90, 91, 92, 93, 94, 95, 96, 97, 98, 99, 100, 101, 102, 103, 104, 105, 106, 107, 108, 109, 110, 111, 112] rfl (by decide +kernel)
set_option maxRecDepth 20000 in
theorem gX12_judged_X12_alone : GoodIn wsX12_judged (va_wsS RX12 396 yX12_alone wsX12_alone) := goodIn_r _ [71, 72, 5, 73] rfl (by decide +kernel)
theorem dX12_judged_0 : decode cX12_judged 0 = .ok (.aload_n 0, 1) := by decide +kernel
theorem dX12_judged_1 : decode cX12_judged 1 = .ok (.iconst 0, 1) := by decide +kernel
theorem dX12_judged_2 : decode cX12_judged 2 = .ok (.putfield 1, 3) := by decide +kernel
theorem dX12_judged_5 : decode cX12_judged 5 = .ok (.iload_n 1, 1) := by decide +kernel
theorem dX12_judged_6 : decode cX12_judged 6 = .ok (.iconst 0, 1) := by decide +kernel
theorem dX12_judged_7 : decode cX12_judged 7 = .ok (.iconst 2, 1) := by decide +kernel
theorem dX12_judged_8 : decode cX12_judged 8 = .ok (.invokestatic 241, 3) := by decide +kernel
theorem dX12_judged_11 : decode cX12_judged 11 = .ok (.ifCond .ne 6, 3) := by decide +kernel
theorem dX12_judged_14 : decode cX12_judged 14 = .ok (.bipush (-2), 2) := by decide +kernel
theorem dX12_judged_16 : decode cX12_judged 16 = .ok (.ireturn, 1) := by decide +kernel
theorem dX12_judged_17 : decode cX12_judged 17 = .ok (.aload_n 0, 1) := by decide +kernel
theorem dX12_judged_18 : decode cX12_judged 18 = .ok (.iconst (-1), 1) := by decide +kernel
theorem dX12_judged_19 : decode cX12_judged 19 = .ok (.invokevirtual 393, 3) := by decide +kernel
theorem dX12_judged_22 : decode cX12_judged 22 = .ok (.istore_n 2, 1) := by decide +kernel
theorem dX12_judged_23 : decode cX12_judged 23 = .ok (.iload_n 1, 1) := by decide +kernel
theorem dX12_judged_24 : decode cX12_judged 24 = .ok (.ifCond .ne 7, 3) := by decide +kernel
theorem dX12_judged_27 : decode cX12_judged 27 = .ok (.iload_n 2, 1) := by decide +kernel
theorem dX12_judged_28 : decode cX12_judged 28 = .ok (.goto 37, 3) := by decide +kernel
theorem dX12_judged_31 : decode cX12_judged 31 = .ok (.iload_n 1, 1) := by decide +kernel
theorem dX12_judged_32 : decode cX12_judged 32 = .ok (.iconst 1, 1) := by decide +kernel
theorem dX12_judged_33 : decode cX12_judged 33 = .ok (.if_icmp .ne 17, 3) := by decide +kernel
theorem dX12_judged_36 : decode cX12_judged 36 = .ok (.aload_n 0, 1) := by decide +kernel
theorem dX12_judged_37 : decode cX12_judged 37 = .ok (.getfield 131, 3) := by decide +kernel
theorem dX12_judged_40 : decode cX12_judged 40 = .ok (.sipush 630, 3) := by decide +kernel
theorem dX12_judged_43 : decode cX12_judged 43 = .ok (.iaload, 1) := by decide +kernel
theorem dX12_judged_44 : decode cX12_judged 44 = .ok (.invokestatic 371, 3) := by decide +kernel
theorem dX12_judged_47 : decode cX12_judged 47 = .ok (.goto 18, 3) := by decide +kernel
theorem dX12_judged_50 : decode cX12_judged 50 = .ok (.aload_n 0, 1) := by decide +kernel
theorem dX12_judged_51 : decode cX12_judged 51 = .ok (.aload_n 0, 1) := by decide +kernel
theorem dX12_judged_52 : decode cX12_judged 52 = .ok (.getfield 131, 3) := by decide +kernel
theorem dX12_judged_55 : decode cX12_judged 55 = .ok (.sipush 630, 3) := by decide +kernel
theorem dX12_judged_58 : decode cX12_judged 58 = .ok (.iaload, 1) := by decide +kernel
theorem dX12_judged_59 : decode cX12_judged 59 = .ok (.invokevirtual 384, 3) := by decide +kernel
theorem dX12_judged_62 : decode cX12_judged 62 = .ok (.invokestatic 396, 3) := by decide +kernel
theorem dX12_judged_65 : decode cX12_judged 65 = .ok (.ireturn, 1) := by decide +kernel
set_option maxRecDepth 20000 in
theorem gX12_spare_X12_runs : GoodIn wsX12_spare (wsV RX12 393 RX12 yX12_runs wsX12_runs) := goodIn_r _ [4, 5, 6, 7, 8, 3, 2, 9, 10, 11, 7, 12, 13, 14, 15, 16, 17, 18, 19, 20, 21, 22, 23, 24, 25, 26, 27, 28, 29, 30, 31, 32, 33, 34, 35, 36, 37, 38, 39, 40, 41, 42, 43, 44, 45, 46, 47, 48, 49, 50, 51, 52, 53, 54, 55, 56, 57, 58, 59, 60, 61, 62, 63, 64, 65, 66, 67, 68, 69, 70, 71, 72, 73, 74, 75, 76, 77, 78, 79, 80, 81, 82, 83, 84, 85, 86, 87, 88, 89, 90, 91, 92, 93, 94, 95, 96, 97, 98, 99, 100, 101, 102, 103] rfl (by decide +kernel)
theorem dX12_spare_0 : decode cX12_spare 0 = .ok (.aload_n 0, 1) := by decide +kernel
theorem dX12_spare_1 : decode cX12_spare 1 = .ok (.iconst 0, 1) := by decide +kernel
theorem dX12_spare_2 : decode cX12_spare 2 = .ok (.putfield 1, 3) := by decide +kernel
theorem dX12_spare_5 : decode cX12_spare 5 = .ok (.aload_n 0, 1) := by decide +kernel
theorem dX12_spare_6 : decode cX12_spare 6 = .ok (.iconst (-1), 1) := by decide +kernel
theorem dX12_spare_7 : decode cX12_spare 7 = .ok (.invokevirtual 393, 3) := by decide +kernel
theorem dX12_spare_10 : decode cX12_spare 10 = .ok (.pop, 1) := by decide +kernel
theorem dX12_spare_11 : decode cX12_spare 11 = .ok (.aload_n 0, 1) := by decide +kernel
theorem dX12_spare_12 : decode cX12_spare 12 = .ok (.getfield 131, 3) := by decide +kernel
theorem dX12_spare_15 : decode cX12_spare 15 = .ok (.sipush 630, 3) := by decide +kernel
theorem dX12_spare_18 : decode cX12_spare 18 = .ok (.iaload, 1) := by decide +kernel
theorem dX12_spare_19 : decode cX12_spare 19 = .ok (.istore_n 1, 1) := by decide +kernel
theorem dX12_spare_20 : decode cX12_spare 20 = .ok (.iconst 0, 1) := by decide +kernel
theorem dX12_spare_21 : decode cX12_spare 21 = .ok (.istore_n 2, 1) := by decide +kernel
theorem dX12_spare_22 : decode cX12_spare 22 = .ok (.iconst 0, 1) := by decide +kernel
theorem dX12_spare_23 : decode cX12_spare 23 = .ok (.istore_n 3, 1) := by decide +kernel
theorem dX12_spare_24 : decode cX12_spare 24 = .ok (.iload_n 3, 1) := by decide +kernel
theorem dX12_spare_25 : decode cX12_spare 25 = .ok (.aload_n 0, 1) := by decide +kernel
theorem dX12_spare_26 : decode cX12_spare 26 = .ok (.getfield 122, 3) := by decide +kernel
theorem dX12_spare_29 : decode cX12_spare 29 = .ok (.iconst 0, 1) := by decide +kernel
theorem dX12_spare_30 : decode cX12_spare 30 = .ok (.iaload, 1) := by decide +kernel
theorem dX12_spare_31 : decode cX12_spare 31 = .ok (.if_icmp .ge 37, 3) := by decide +kernel
theorem dX12_spare_34 : decode cX12_spare 34 = .ok (.aload_n 0, 1) := by decide +kernel
theorem dX12_spare_35 : decode cX12_spare 35 = .ok (.iload_n 3, 1) := by decide +kernel
theorem dX12_spare_36 : decode cX12_spare 36 = .ok (.invokevirtual 393, 3) := by decide +kernel
theorem dX12_spare_39 : decode cX12_spare 39 = .ok (.pop, 1) := by decide +kernel
theorem dX12_spare_40 : decode cX12_spare 40 = .ok (.iload_n 2, 1) := by decide +kernel
theorem dX12_spare_41 : decode cX12_spare 41 = .ok (.aload_n 0, 1) := by decide +kernel
theorem dX12_spare_42 : decode cX12_spare 42 = .ok (.getfield 131, 3) := by decide +kernel
theorem dX12_spare_45 : decode cX12_spare 45 = .ok (.sipush 630, 3) := by decide +kernel
theorem dX12_spare_48 : decode cX12_spare 48 = .ok (.iaload, 1) := by decide +kernel
theorem dX12_spare_49 : decode cX12_spare 49 = .ok (.iload_n 1, 1) := by decide +kernel
theorem dX12_spare_50 : decode cX12_spare 50 = .ok (.if_icmp .ne 9, 3) := by decide +kernel
theorem dX12_spare_53 : decode cX12_spare 53 = .ok (.iconst 1, 1) := by decide +kernel
theorem dX12_spare_54 : decode cX12_spare 54 = .ok (.iload_n 3, 1) := by decide +kernel
theorem dX12_spare_55 : decode cX12_spare 55 = .ok (.ishl, 1) := by decide +kernel
theorem dX12_spare_56 : decode cX12_spare 56 = .ok (.goto 4, 3) := by decide +kernel
theorem dX12_spare_59 : decode cX12_spare 59 = .ok (.iconst 0, 1) := by decide +kernel
theorem dX12_spare_60 : decode cX12_spare 60 = .ok (.ior, 1) := by decide +kernel
theorem dX12_spare_61 : decode cX12_spare 61 = .ok (.istore_n 2, 1) := by decide +kernel
theorem dX12_spare_62 : decode cX12_spare 62 = .ok (.iinc 3 1, 3) := by decide +kernel
theorem dX12_spare_65 : decode cX12_spare 65 = .ok (.goto (-41), 3) := by decide +kernel
theorem dX12_spare_68 : decode cX12_spare 68 = .ok (.iload_n 2, 1) := by decide +kernel
theorem dX12_spare_69 : decode cX12_spare 69 = .ok (.ireturn, 1) := by decide +kernel
set_option maxRecDepth 20000 in
theorem gX12_who_X12_whoIn : GoodIn wsX12_who (wsV RX12 384 RX12 yX12_whoIn wsX12_whoIn) := goodIn_r _ [3, 4, 5, 6, 7, 8, 9, 10, 6, 11, 12, 13, 14, 15, 16, 17, 18, 19, 20, 21, 22, 23, 24, 25, 26, 27, 28, 29, 30, 31, 32, 33, 34, 35, 36, 37, 38, 39, 40, 41, 42, 43, 44, 45, 46, 47, 48, 49, 50, 51, 52, 53, 54] rfl (by decide +kernel)
theorem dX12_who_0 : decode cX12_who 0 = .ok (.aload_n 0, 1) := by decide +kernel
theorem dX12_who_1 : decode cX12_who 1 = .ok (.iconst 0, 1) := by decide +kernel
theorem dX12_who_2 : decode cX12_who 2 = .ok (.putfield 1, 3) := by decide +kernel
theorem dX12_who_5 : decode cX12_who 5 = .ok (.aload_n 0, 1) := by decide +kernel
theorem dX12_who_6 : decode cX12_who 6 = .ok (.aload_n 0, 1) := by decide +kernel
theorem dX12_who_7 : decode cX12_who 7 = .ok (.getfield 131, 3) := by decide +kernel
theorem dX12_who_10 : decode cX12_who 10 = .ok (.iconst 0, 1) := by decide +kernel
theorem dX12_who_11 : decode cX12_who 11 = .ok (.iaload, 1) := by decide +kernel
theorem dX12_who_12 : decode cX12_who 12 = .ok (.invokevirtual 384, 3) := by decide +kernel
theorem dX12_who_15 : decode cX12_who 15 = .ok (.ireturn, 1) := by decide +kernel
section
variable {p : Program} {l : Launch} {e : Env} {s : State} {m : MethodId} {args : Array Value} {below : List Frame} {meth : Method} {c : Code} {D : va_G} {cy : Nat → ClassId} {ad : Nat → Nat} {A : Nat → Prop} {aM aB aO aI aN aT aC aG aR aQ aK aL aX aH aJ aP aU aE0 aE1 aE2 aE3 : Nat → Nat} {gi : Value}
abbrev rm12_answer : Room := { frames := 5, cells := 0, slots := 0, locals := 108 }
theorem hdV12_answer : yX12_answer.cls = RX12 ∧ (yX12_answer.cls ≠ "java/lang/invoke/MethodHandle" ∧ yX12_answer.cls ≠ "java/lang/invoke/VarHandle" ∧ (parseMethodDescriptor yX12_answer.desc).map (fun d => d.parameters.length) = some 3) := by decide +kernel
theorem hin12_answer_12 : ∀ x ∈ u_ws RX12 TX12 39, x ∈ wsX12_answer := fun _ h => List.mem_cons_of_mem _ (List.mem_append_right _ h)
set_option maxRecDepth 100000 in
set_option maxHeartbeats 4000000 in
theorem t12_answer_36 (hC : Cx p s m args meth c cX12_answer 4 wsX12_answer RX12 (some .int)) : ∀ (z0 : Int32) (SM : Ob) (res : Int32 × Ob) (H : Heap) (locs : List Loc) (ls : Array Slot), f12_answer_36 z0 SM = some res → GW D cy ad (w12 cy aM SM) A s H locs → lv_has ls 4 [] → W p l e rm12_answer s m args below meth c H locs 0 0 (MQ below (QI D cy (w12 cy aM (res.2)) A (res.1)) args s 0 0 A) (F0 m 36 ls [.int z0]) := by
  intro z0 SM res H locs ls hf hW hl
  unfold f12_answer_36 at hf
  obtain rfl := Option.some.inj hf
  exact g_iret hC hW dX12_answer_36
set_option maxRecDepth 100000 in
set_option maxHeartbeats 4000000 in
theorem t12_answer_35 (hC : Cx p s m args meth c cX12_answer 4 wsX12_answer RX12 (some .int)) : ∀ (SM : Ob) (res : Int32 × Ob) (H : Heap) (locs : List Loc) (ls : Array Slot), f12_answer_35 SM = some res → GW D cy ad (w12 cy aM SM) A s H locs → lv_has ls 4 [] → W p l e rm12_answer s m args below meth c H locs 0 0 (MQ below (QI D cy (w12 cy aM (res.2)) A (res.1)) args s 0 0 A) (F0 m 35 ls []) := by
  intro SM res H locs ls hf hW hl
  unfold f12_answer_35 at hf
  refine lv_iconst (v := (-1)) hC.1 hC.2.1 dX12_answer_35 (by decide) ?_
  exact t12_answer_36 hC  _ _ _ _ _ _ hf hW (lv_sub hl [] rfl)
set_option maxRecDepth 100000 in
set_option maxHeartbeats 4000000 in
theorem t12_answer_0 (hC : Cx p s m args meth c cX12_answer 4 wsX12_answer RX12 (some .int)) : ∀ (x1 : Int32) (x2 : Int32) (x3 : Int32) (SM : Ob) (res : Int32 × Ob) (H : Heap) (locs : List Loc) (ls : Array Slot), f12_answer x1 x2 x3 SM = some res → GW D cy ad (w12 cy aM SM) A s H locs → lv_has ls 4 [(0, .ref (aM 0)), (1, .int x1), (2, .int x2), (3, .int x3)] → W p l e rm12_answer s m args below meth c H locs 0 0 (MQ below (QI D cy (w12 cy aM (res.2)) A (res.1)) args s 0 0 A) (F0 m 0 ls []) := by
  intro x1 x2 x3 SM res H locs ls hf hW hl
  unfold f12_answer at hf
  refine lv_aload_n hC.1 hC.2.1 dX12_answer_0 rfl (lv_at hl 0 rfl) ?_
  refine lv_iconst (v := 0) hC.1 hC.2.1 dX12_answer_1 (by decide) ?_
  obtain ⟨SM_1, eSM_1⟩ : ∃ y : Ob, y = oI SM 0 0 := ⟨_, rfl⟩
  have hf := lt_nm hf eSM_1
  refine g_put hC hW hin12_answer_12 tyX12 tyX12_ok nmX12 0 rfl rfl 0 (by decide) 1 rfl rfl rfl rfl (Nat.le_of_ble_eq_true rfl) (w' := w12 cy aM SM_1) (by rw [eSM_1]; rfl) dX12_answer_2 (fun H locs hW => ?_)
  refine lv_aload_n hC.1 hC.2.1 dX12_answer_5 rfl (lv_at hl 0 rfl) ?_
  refine lv_iload_n hC.1 hC.2.1 dX12_answer_6 rfl (lv_at hl 1 rfl) ?_
  obtain ⟨r_2, hg_3, hf⟩ := bd_of hf
  refine g_calliV hC hW (c12_isGuest l D cy ad aM hg_3) (cwV 1 hC.2.2.2.2.1 gX12_answer_X12_isGuest rfl rfl rfl hdV12_isGuest ⟨Nat.le_of_ble_eq_true rfl, Nat.le_of_ble_eq_true rfl⟩) (Sub.all _ _) 0 11 rfl rfl rfl rfl hl.1 rfl (Nat.le_of_ble_eq_true rfl) dX12_answer_7 ⟨Nat.zero_le _, Nat.zero_le _⟩ (fun H locs hW => ?_)
  refine lv_if_eq (tgt := 35) hC.1 hC.2.1 dX12_answer_10 (by decide) (fun hc_4 => ?_) (fun hc_4 => ?_)
  · have hf := ite_t hf hc_4
    exact t12_answer_35 hC  _ _ _ _ _ hf hW (lv_sub hl [] rfl)
  · have hf := ite_f hf hc_4
    refine lv_aload_n hC.1 hC.2.1 dX12_answer_13 rfl (lv_at hl 0 rfl) ?_
    refine lv_iload_n hC.1 hC.2.1 dX12_answer_14 rfl (lv_at hl 2 rfl) ?_
    obtain ⟨r_5, hg_6, hf⟩ := bd_of hf
    refine g_calliV hC hW (c12_isGuest l D cy ad aM hg_6) (cwV 1 hC.2.2.2.2.1 gX12_answer_X12_isGuest rfl rfl rfl hdV12_isGuest ⟨Nat.le_of_ble_eq_true rfl, Nat.le_of_ble_eq_true rfl⟩) (Sub.all _ _) 0 11 rfl rfl rfl rfl hl.1 rfl (Nat.le_of_ble_eq_true rfl) dX12_answer_15 ⟨Nat.zero_le _, Nat.zero_le _⟩ (fun H locs hW => ?_)
    refine lv_if_eq (tgt := 35) hC.1 hC.2.1 dX12_answer_18 (by decide) (fun hc_7 => ?_) (fun hc_7 => ?_)
    · have hf := ite_t hf hc_7
      exact t12_answer_35 hC  _ _ _ _ _ hf hW (lv_sub hl [] rfl)
    · have hf := ite_f hf hc_7
      refine lv_aload_n hC.1 hC.2.1 dX12_answer_21 rfl (lv_at hl 0 rfl) ?_
      refine lv_aload_n hC.1 hC.2.1 dX12_answer_22 rfl (lv_at hl 0 rfl) ?_
      refine lv_iload_n hC.1 hC.2.1 dX12_answer_23 rfl (lv_at hl 1 rfl) ?_
      refine lv_iload_n hC.1 hC.2.1 dX12_answer_24 rfl (lv_at hl 2 rfl) ?_
      refine lv_iload_n hC.1 hC.2.1 dX12_answer_25 rfl (lv_at hl 3 rfl) ?_
      obtain ⟨r_8, hg_9, hf⟩ := bd_of hf
      refine g_calliV hC hW (c12_answerIn l D cy ad aM hg_9) (cwV 3 hC.2.2.2.2.1 gX12_answer_X12_answerIn rfl rfl rfl hdV12_answerIn ⟨Nat.le_of_ble_eq_true rfl, Nat.le_of_ble_eq_true rfl⟩) (Sub.all _ _) 0 11 rfl rfl rfl rfl hl.1 rfl (Nat.le_of_ble_eq_true rfl) dX12_answer_26 ⟨Nat.zero_le _, Nat.zero_le _⟩ (fun H locs hW => ?_)
      obtain ⟨r_10, hg_11, hf⟩ := bd_of hf
      refine g_calliV hC hW (c12_leaves l D cy ad aM hg_11) (cwV 1 hC.2.2.2.2.1 gX12_answer_X12_leaves rfl rfl rfl hdV12_leaves ⟨Nat.le_of_ble_eq_true rfl, Nat.le_of_ble_eq_true rfl⟩) (Sub.all _ _) 0 11 rfl rfl rfl rfl hl.1 rfl (Nat.le_of_ble_eq_true rfl) dX12_answer_29 ⟨Nat.zero_le _, Nat.zero_le _⟩ (fun H locs hW => ?_)
      refine lv_goto (tgt := 36) hC.1 hC.2.1 dX12_answer_32 (by decide) ?_
      exact t12_answer_36 hC  _ _ _ _ _ _ hf hW (lv_sub hl [] rfl)
set_option maxRecDepth 100000 in
set_option maxHeartbeats 4000000 in
theorem c12_answer (l : Launch) (D : va_G) (cy : Nat → ClassId) (ad : Nat → Nat) (aM : Nat → Nat) {x1 : Int32} {x2 : Int32} {x3 : Int32} {SM : Ob} {res : Int32 × Ob} (h : f12_answer x1 x2 x3 SM = some res) : GCi l yX12_answer wsX12_answer rm12_answer [.ref (aM 0), .int x1, .int x2, .int x3] D cy ad (w12 cy aM SM) (w12 cy aM (res.2)) (res.1) := fun sz => GC.start (own := RX12) (Qc := fun A => QI D cy (w12 cy aM (res.2)) A (res.1)) sz (by decide) rfl rfl (Nat.le_of_ble_eq_true rfl) (fun p e s m below meth c A ls hC hW hl => t12_answer_0 hC _ _ _ _ _ _ _ _ h hW (lv_sub hl [0, 1, 2, 3] rfl))
abbrev rm12_sign : Room := { frames := 3, cells := 0, slots := 0, locals := 66 }
theorem hdV12_sign : yX12_sign.cls = RX12 ∧ (yX12_sign.cls ≠ "java/lang/invoke/MethodHandle" ∧ yX12_sign.cls ≠ "java/lang/invoke/VarHandle" ∧ (parseMethodDescriptor yX12_sign.desc).map (fun d => d.parameters.length) = some 2) := by decide +kernel
theorem hin12_sign_12 : ∀ x ∈ u_ws RX12 TX12 39, x ∈ wsX12_sign := fun _ h => List.mem_cons_of_mem _ (List.mem_append_right _ h)
set_option maxRecDepth 100000 in
set_option maxHeartbeats 4000000 in
theorem t12_sign_53 (hC : Cx p s m args meth c cX12_sign 3 wsX12_sign RX12 (some .int)) : ∀ (z0 : Int32) (SM : Ob) (res : Int32 × Ob) (H : Heap) (locs : List Loc) (ls : Array Slot), f12_sign_53 z0 SM = some res → GW D cy ad (w12 cy aM SM) A s H locs → lv_has ls 3 [] → W p l e rm12_sign s m args below meth c H locs 0 0 (MQ below (QI D cy (w12 cy aM (res.2)) A (res.1)) args s 0 0 A) (F0 m 53 ls [.int z0]) := by
  intro z0 SM res H locs ls hf hW hl
  unfold f12_sign_53 at hf
  obtain rfl := Option.some.inj hf
  exact g_iret hC hW dX12_sign_53
set_option maxRecDepth 100000 in
set_option maxHeartbeats 4000000 in
theorem t12_sign_46 (hC : Cx p s m args meth c cX12_sign 3 wsX12_sign RX12 (some .int)) : ∀ (z1 : Int32) (SM : Ob) (res : Int32 × Ob) (H : Heap) (locs : List Loc) (ls : Array Slot), f12_sign_46 z1 SM = some res → GW D cy ad (w12 cy aM SM) A s H locs → lv_has ls 3 [] → W p l e rm12_sign s m args below meth c H locs 0 0 (MQ below (QI D cy (w12 cy aM (res.2)) A (res.1)) args s 0 0 A) (F0 m 46 ls [.int z1, .ref (aM 0)]) := by
  intro z1 SM res H locs ls hf hW hl
  unfold f12_sign_46 at hf
  obtain ⟨r_1, hg_2, hf⟩ := bd_of hf
  refine g_calliV hC hW (c12_leaves l D cy ad aM hg_2) (cwV 1 hC.2.2.2.2.1 gX12_sign_X12_leaves rfl rfl rfl hdV12_leaves ⟨Nat.le_of_ble_eq_true rfl, Nat.le_of_ble_eq_true rfl⟩) (Sub.all _ _) 0 11 rfl rfl rfl rfl hl.1 rfl (Nat.le_of_ble_eq_true rfl) dX12_sign_46 ⟨Nat.zero_le _, Nat.zero_le _⟩ (fun H locs hW => ?_)
  refine lv_goto (tgt := 53) hC.1 hC.2.1 dX12_sign_49 (by decide) ?_
  exact t12_sign_53 hC  _ _ _ _ _ _ hf hW (lv_sub hl [] rfl)
set_option maxRecDepth 100000 in
set_option maxHeartbeats 4000000 in
theorem t12_sign_0 (hC : Cx p s m args meth c cX12_sign 3 wsX12_sign RX12 (some .int)) : ∀ (x1 : Int32) (x2 : Int32) (SM : Ob) (res : Int32 × Ob) (H : Heap) (locs : List Loc) (ls : Array Slot), f12_sign x1 x2 SM = some res → GW D cy ad (w12 cy aM SM) A s H locs → lv_has ls 3 [(0, .ref (aM 0)), (1, .int x1), (2, .int x2)] → W p l e rm12_sign s m args below meth c H locs 0 0 (MQ below (QI D cy (w12 cy aM (res.2)) A (res.1)) args s 0 0 A) (F0 m 0 ls []) := by
  intro x1 x2 SM res H locs ls hf hW hl
  unfold f12_sign at hf
  refine lv_aload_n hC.1 hC.2.1 dX12_sign_0 rfl (lv_at hl 0 rfl) ?_
  refine lv_iconst (v := 0) hC.1 hC.2.1 dX12_sign_1 (by decide) ?_
  obtain ⟨SM_1, eSM_1⟩ : ∃ y : Ob, y = oI SM 0 0 := ⟨_, rfl⟩
  have hf := lt_nm hf eSM_1
  refine g_put hC hW hin12_sign_12 tyX12 tyX12_ok nmX12 0 rfl rfl 0 (by decide) 1 rfl rfl rfl rfl (Nat.le_of_ble_eq_true rfl) (w' := w12 cy aM SM_1) (by rw [eSM_1]; rfl) dX12_sign_2 (fun H locs hW => ?_)
  refine lv_iload_n hC.1 hC.2.1 dX12_sign_5 rfl (lv_at hl 1 rfl) ?_
  refine lv_iconst (v := 0) hC.1 hC.2.1 dX12_sign_6 (by decide) ?_
  refine lv_aload_n hC.1 hC.2.1 dX12_sign_7 rfl (lv_at hl 0 rfl) ?_
  obtain ⟨r_2, hg_3, hf⟩ := bd_of hf
  refine g_calliV hC hW (c12_signs l D cy ad aM hg_3) (cwV 0 hC.2.2.2.2.1 gX12_sign_X12_signs rfl rfl rfl hdV12_signs ⟨Nat.le_of_ble_eq_true rfl, Nat.le_of_ble_eq_true rfl⟩) (Sub.all _ _) 0 11 rfl rfl rfl rfl hl.1 rfl (Nat.le_of_ble_eq_true rfl) dX12_sign_8 ⟨Nat.zero_le _, Nat.zero_le _⟩ (fun H locs hW => ?_)
  refine lv_iconst (v := 1) hC.1 hC.2.1 dX12_sign_11 (by decide) ?_
  refine lv_isub hC.1 hC.2.1 dX12_sign_12 ?_
  obtain ⟨r_4, hg_5, hf⟩ := bd_of hf
  refine g_calliS hC hW (c12_within l D cy ad  hg_5) (va_cwS 3 hC.2.2.2.2.1 gX12_sign_X12_within rfl rfl rfl hdS12_within ⟨Nat.le_of_ble_eq_true rfl, Nat.le_of_ble_eq_true rfl⟩) (Sub.nil _) rfl hl.1 rfl (Nat.le_of_ble_eq_true rfl) dX12_sign_13 ⟨Nat.zero_le _, Nat.zero_le _⟩ (fun H locs hW => ?_)
  refine lv_if_eq (tgt := 52) hC.1 hC.2.1 dX12_sign_16 (by decide) (fun hc_6 => ?_) (fun hc_6 => ?_)
  · have hf := ite_t hf hc_6
    refine lv_iconst (v := (-1)) hC.1 hC.2.1 dX12_sign_52 (by decide) ?_
    exact t12_sign_53 hC  _ _ _ _ _ _ hf hW (lv_sub hl [] rfl)
  · have hf := ite_f hf hc_6
    refine lv_aload_n hC.1 hC.2.1 dX12_sign_19 rfl (lv_at hl 0 rfl) ?_
    refine lv_iload_n hC.1 hC.2.1 dX12_sign_20 rfl (lv_at hl 2 rfl) ?_
    refine lv_if_eq (tgt := 33) hC.1 hC.2.1 dX12_sign_21 (by decide) (fun hc_7 => ?_) (fun hc_7 => ?_)
    · have hf := ite_t hf hc_7
      refine lv_aload_n hC.1 hC.2.1 dX12_sign_33 rfl (lv_at hl 0 rfl) ?_
      refine g_get hC hW hin12_sign_12 0 rfl rfl 28 (by decide) 2 rfl rfl dX12_sign_34 ?_
      refine lv_iload_n hC.1 hC.2.1 dX12_sign_37 rfl (lv_at hl 1 rfl) ?_
      obtain ⟨hi_8, hf⟩ := ck_of hf
      refine g_iald hC hW 18 rfl hi_8 dX12_sign_38 ?_
      refine lv_iconst (v := (-1)) hC.1 hC.2.1 dX12_sign_39 (by decide) ?_
      refine lv_ixor hC.1 hC.2.1 dX12_sign_40 ?_
      refine lv_aload_n hC.1 hC.2.1 dX12_sign_41 rfl (lv_at hl 0 rfl) ?_
      obtain ⟨r_9, hg_10, hf⟩ := bd_of hf
      refine g_calliV hC hW (c12_everyWorld l D cy ad aM hg_10) (cwV 0 hC.2.2.2.2.1 gX12_sign_X12_everyWorld rfl rfl rfl hdV12_everyWorld ⟨Nat.le_of_ble_eq_true rfl, Nat.le_of_ble_eq_true rfl⟩) (Sub.all _ _) 0 11 rfl rfl rfl rfl hl.1 rfl (Nat.le_of_ble_eq_true rfl) dX12_sign_42 ⟨Nat.zero_le _, Nat.zero_le _⟩ (fun H locs hW => ?_)
      refine lv_iand hC.1 hC.2.1 dX12_sign_45 ?_
      exact t12_sign_46 hC  _ _ _ _ _ _ hf hW (lv_sub hl [] rfl)
    · have hf := ite_f hf hc_7
      refine lv_aload_n hC.1 hC.2.1 dX12_sign_24 rfl (lv_at hl 0 rfl) ?_
      refine g_get hC hW hin12_sign_12 0 rfl rfl 28 (by decide) 2 rfl rfl dX12_sign_25 ?_
      refine lv_iload_n hC.1 hC.2.1 dX12_sign_28 rfl (lv_at hl 1 rfl) ?_
      obtain ⟨hi_11, hf⟩ := ck_of hf
      refine g_iald hC hW 18 rfl hi_11 dX12_sign_29 ?_
      refine lv_goto (tgt := 46) hC.1 hC.2.1 dX12_sign_30 (by decide) ?_
      exact t12_sign_46 hC  _ _ _ _ _ _ hf hW (lv_sub hl [] rfl)
set_option maxRecDepth 100000 in
set_option maxHeartbeats 4000000 in
theorem c12_sign (l : Launch) (D : va_G) (cy : Nat → ClassId) (ad : Nat → Nat) (aM : Nat → Nat) {x1 : Int32} {x2 : Int32} {SM : Ob} {res : Int32 × Ob} (h : f12_sign x1 x2 SM = some res) : GCi l yX12_sign wsX12_sign rm12_sign [.ref (aM 0), .int x1, .int x2] D cy ad (w12 cy aM SM) (w12 cy aM (res.2)) (res.1) := fun sz => GC.start (own := RX12) (Qc := fun A => QI D cy (w12 cy aM (res.2)) A (res.1)) sz (by decide) rfl rfl (Nat.le_of_ble_eq_true rfl) (fun p e s m below meth c A ls hC hW hl => t12_sign_0 hC _ _ _ _ _ _ _ h hW (lv_sub hl [0, 1, 2] rfl))
abbrev rm12_weather : Room := { frames := 3, cells := 0, slots := 0, locals := 70 }
theorem hdV12_weather : yX12_weather.cls = RX12 ∧ (yX12_weather.cls ≠ "java/lang/invoke/MethodHandle" ∧ yX12_weather.cls ≠ "java/lang/invoke/VarHandle" ∧ (parseMethodDescriptor yX12_weather.desc).map (fun d => d.parameters.length) = some 1) := by decide +kernel
theorem hin12_weather_12 : ∀ x ∈ u_ws RX12 TX12 39, x ∈ wsX12_weather := fun _ h => List.mem_cons_of_mem _ (List.mem_append_right _ h)
set_option maxRecDepth 100000 in
set_option maxHeartbeats 4000000 in
theorem t12_weather_27 (hC : Cx p s m args meth c cX12_weather 2 wsX12_weather RX12 (some .int)) : ∀ (z0 : Int32) (SM : Ob) (res : Int32 × Ob) (H : Heap) (locs : List Loc) (ls : Array Slot), f12_weather_27 z0 SM = some res → GW D cy ad (w12 cy aM SM) A s H locs → lv_has ls 2 [] → W p l e rm12_weather s m args below meth c H locs 0 0 (MQ below (QI D cy (w12 cy aM (res.2)) A (res.1)) args s 0 0 A) (F0 m 27 ls [.int z0]) := by
  intro z0 SM res H locs ls hf hW hl
  unfold f12_weather_27 at hf
  obtain rfl := Option.some.inj hf
  exact g_iret hC hW dX12_weather_27
set_option maxRecDepth 100000 in
set_option maxHeartbeats 4000000 in
theorem t12_weather_0 (hC : Cx p s m args meth c cX12_weather 2 wsX12_weather RX12 (some .int)) : ∀ (x1 : Int32) (SM : Ob) (res : Int32 × Ob) (H : Heap) (locs : List Loc) (ls : Array Slot), f12_weather x1 SM = some res → GW D cy ad (w12 cy aM SM) A s H locs → lv_has ls 2 [(0, .ref (aM 0)), (1, .int x1)] → W p l e rm12_weather s m args below meth c H locs 0 0 (MQ below (QI D cy (w12 cy aM (res.2)) A (res.1)) args s 0 0 A) (F0 m 0 ls []) := by
  intro x1 SM res H locs ls hf hW hl
  unfold f12_weather at hf
  refine lv_aload_n hC.1 hC.2.1 dX12_weather_0 rfl (lv_at hl 0 rfl) ?_
  refine lv_iconst (v := 0) hC.1 hC.2.1 dX12_weather_1 (by decide) ?_
  obtain ⟨SM_1, eSM_1⟩ : ∃ y : Ob, y = oI SM 0 0 := ⟨_, rfl⟩
  have hf := lt_nm hf eSM_1
  refine g_put hC hW hin12_weather_12 tyX12 tyX12_ok nmX12 0 rfl rfl 0 (by decide) 1 rfl rfl rfl rfl (Nat.le_of_ble_eq_true rfl) (w' := w12 cy aM SM_1) (by rw [eSM_1]; rfl) dX12_weather_2 (fun H locs hW => ?_)
  refine lv_iload_n hC.1 hC.2.1 dX12_weather_5 rfl (lv_at hl 1 rfl) ?_
  refine lv_iconst (v := 0) hC.1 hC.2.1 dX12_weather_6 (by decide) ?_
  refine lv_iconst (v := 3) hC.1 hC.2.1 dX12_weather_7 (by decide) ?_
  obtain ⟨r_2, hg_3, hf⟩ := bd_of hf
  refine g_calliS hC hW (c12_within l D cy ad  hg_3) (va_cwS 3 hC.2.2.2.2.1 gX12_weather_X12_within rfl rfl rfl hdS12_within ⟨Nat.le_of_ble_eq_true rfl, Nat.le_of_ble_eq_true rfl⟩) (Sub.nil _) rfl hl.1 rfl (Nat.le_of_ble_eq_true rfl) dX12_weather_8 ⟨Nat.zero_le _, Nat.zero_le _⟩ (fun H locs hW => ?_)
  refine lv_if_eq (tgt := 26) hC.1 hC.2.1 dX12_weather_11 (by decide) (fun hc_4 => ?_) (fun hc_4 => ?_)
  · have hf := ite_t hf hc_4
    refine lv_iconst (v := (-1)) hC.1 hC.2.1 dX12_weather_26 (by decide) ?_
    exact t12_weather_27 hC  _ _ _ _ _ _ hf hW (lv_sub hl [] rfl)
  · have hf := ite_f hf hc_4
    refine lv_aload_n hC.1 hC.2.1 dX12_weather_14 rfl (lv_at hl 0 rfl) ?_
    refine lv_aload_n hC.1 hC.2.1 dX12_weather_15 rfl (lv_at hl 0 rfl) ?_
    refine lv_iload_n hC.1 hC.2.1 dX12_weather_16 rfl (lv_at hl 1 rfl) ?_
    obtain ⟨r_5, hg_6, hf⟩ := bd_of hf
    refine g_calliV hC hW (c12_soOf l D cy ad aM hg_6) (cwV 1 hC.2.2.2.2.1 gX12_weather_X12_soOf rfl rfl rfl hdV12_soOf ⟨Nat.le_of_ble_eq_true rfl, Nat.le_of_ble_eq_true rfl⟩) (Sub.all _ _) 0 11 rfl rfl rfl rfl hl.1 rfl (Nat.le_of_ble_eq_true rfl) dX12_weather_17 ⟨Nat.zero_le _, Nat.zero_le _⟩ (fun H locs hW => ?_)
    obtain ⟨r_7, hg_8, hf⟩ := bd_of hf
    refine g_calliV hC hW (c12_leaves l D cy ad aM hg_8) (cwV 1 hC.2.2.2.2.1 gX12_weather_X12_leaves rfl rfl rfl hdV12_leaves ⟨Nat.le_of_ble_eq_true rfl, Nat.le_of_ble_eq_true rfl⟩) (Sub.all _ _) 0 11 rfl rfl rfl rfl hl.1 rfl (Nat.le_of_ble_eq_true rfl) dX12_weather_20 ⟨Nat.zero_le _, Nat.zero_le _⟩ (fun H locs hW => ?_)
    refine lv_goto (tgt := 27) hC.1 hC.2.1 dX12_weather_23 (by decide) ?_
    exact t12_weather_27 hC  _ _ _ _ _ _ hf hW (lv_sub hl [] rfl)
set_option maxRecDepth 100000 in
set_option maxHeartbeats 4000000 in
theorem c12_weather (l : Launch) (D : va_G) (cy : Nat → ClassId) (ad : Nat → Nat) (aM : Nat → Nat) {x1 : Int32} {SM : Ob} {res : Int32 × Ob} (h : f12_weather x1 SM = some res) : GCi l yX12_weather wsX12_weather rm12_weather [.ref (aM 0), .int x1] D cy ad (w12 cy aM SM) (w12 cy aM (res.2)) (res.1) := fun sz => GC.start (own := RX12) (Qc := fun A => QI D cy (w12 cy aM (res.2)) A (res.1)) sz (by decide) rfl rfl (Nat.le_of_ble_eq_true rfl) (fun p e s m below meth c A ls hC hW hl => t12_weather_0 hC _ _ _ _ _ _ h hW (lv_sub hl [0, 1] rfl))
abbrev rm12_endsNight : Room := { frames := 3, cells := 0, slots := 0, locals := 60 }
theorem hdV12_endsNight : yX12_endsNight.cls = RX12 ∧ (yX12_endsNight.cls ≠ "java/lang/invoke/MethodHandle" ∧ yX12_endsNight.cls ≠ "java/lang/invoke/VarHandle" ∧ (parseMethodDescriptor yX12_endsNight.desc).map (fun d => d.parameters.length) = some 1) := by decide +kernel
theorem hin12_endsNight_12 : ∀ x ∈ u_ws RX12 TX12 39, x ∈ wsX12_endsNight := fun _ h => List.mem_cons_of_mem _ (List.mem_append_right _ h)
set_option maxRecDepth 100000 in
set_option maxHeartbeats 4000000 in
theorem t12_endsNight_54 (hC : Cx p s m args meth c cX12_endsNight 2 wsX12_endsNight RX12 none) : ∀ (x1 : Int32) (SM : Ob) (res : Ob) (H : Heap) (locs : List Loc) (ls : Array Slot), f12_endsNight_54 x1 SM = some res → GW D cy ad (w12 cy aM SM) A s H locs → lv_has ls 2 [(0, .ref (aM 0)), (1, .int x1)] → W p l e rm12_endsNight s m args below meth c H locs 0 0 (MQ below (QV D cy (w12 cy aM res) A) args s 0 0 A) (F0 m 54 ls []) := by
  intro x1 SM res H locs ls hf hW hl
  unfold f12_endsNight_54 at hf
  refine lv_aload_n hC.1 hC.2.1 dX12_endsNight_54 rfl (lv_at hl 0 rfl) ?_
  refine g_get hC hW hin12_endsNight_12 0 rfl rfl 25 (by decide) 1 rfl rfl dX12_endsNight_55 ?_
  refine lv_iload_n hC.1 hC.2.1 dX12_endsNight_58 rfl (lv_at hl 1 rfl) ?_
  refine lv_iconst (v := 0) hC.1 hC.2.1 dX12_endsNight_59 (by decide) ?_
  refine lv_iadd hC.1 hC.2.1 dX12_endsNight_60 ?_
  refine lv_aload_n hC.1 hC.2.1 dX12_endsNight_61 rfl (lv_at hl 0 rfl) ?_
  obtain ⟨r_1, hg_2, hf⟩ := bd_of hf
  refine g_calliV hC hW (c12_everyWorld l D cy ad aM hg_2) (cwV 0 hC.2.2.2.2.1 gX12_endsNight_X12_everyWorld rfl rfl rfl hdV12_everyWorld ⟨Nat.le_of_ble_eq_true rfl, Nat.le_of_ble_eq_true rfl⟩) (Sub.all _ _) 0 11 rfl rfl rfl rfl hl.1 rfl (Nat.le_of_ble_eq_true rfl) dX12_endsNight_62 ⟨Nat.zero_le _, Nat.zero_le _⟩ (fun H locs hW => ?_)
  obtain ⟨hi_3, hf⟩ := ck_of hf
  obtain ⟨SM_4, eSM_4⟩ : ∃ y : Ob, y = oA SM 25 (Int32.toNatClampNeg (x1 + 0)) r_1 := ⟨_, rfl⟩
  have hf := lt_nm hf eSM_4
  refine g_iast hC hW 16 rfl hi_3 (w' := w12 cy aM SM_4) (by rw [eSM_4]; rfl) dX12_endsNight_65 (fun H locs hW => ?_)
  obtain rfl := Option.some.inj hf
  exact g_vret hC hW dX12_endsNight_66
set_option maxRecDepth 100000 in
set_option maxHeartbeats 4000000 in
theorem t12_endsNight_0 (hC : Cx p s m args meth c cX12_endsNight 2 wsX12_endsNight RX12 none) : ∀ (x1 : Int32) (SM : Ob) (res : Ob) (H : Heap) (locs : List Loc) (ls : Array Slot), f12_endsNight x1 SM = some res → GW D cy ad (w12 cy aM SM) A s H locs → lv_has ls 2 [(0, .ref (aM 0)), (1, .int x1)] → W p l e rm12_endsNight s m args below meth c H locs 0 0 (MQ below (QV D cy (w12 cy aM res) A) args s 0 0 A) (F0 m 0 ls []) := by
  intro x1 SM res H locs ls hf hW hl
  unfold f12_endsNight at hf
  refine lv_aload_n hC.1 hC.2.1 dX12_endsNight_0 rfl (lv_at hl 0 rfl) ?_
  refine g_get hC hW hin12_endsNight_12 0 rfl rfl 25 (by decide) 1 rfl rfl dX12_endsNight_1 ?_
  refine lv_iload_n hC.1 hC.2.1 dX12_endsNight_4 rfl (lv_at hl 1 rfl) ?_
  refine lv_iconst (v := 1) hC.1 hC.2.1 dX12_endsNight_5 (by decide) ?_
  refine lv_iadd hC.1 hC.2.1 dX12_endsNight_6 ?_
  obtain ⟨hi_1, hf⟩ := ck_of hf
  refine g_iald hC hW 16 rfl hi_1 dX12_endsNight_7 ?_
  refine lv_bipush (v := 10) hC.1 hC.2.1 dX12_endsNight_8 (by decide) ?_
  refine lv_icmp_ge (tgt := 54) hC.1 hC.2.1 dX12_endsNight_10 (by decide) (fun hc_2 => ?_) (fun hc_2 => ?_)
  · have hf := ite_t hf hc_2
    exact t12_endsNight_54 hC  _ _ _ _ _ _ hf hW (lv_sub hl [0, 1] rfl)
  · have hf := ite_f hf hc_2
    refine lv_aload_n hC.1 hC.2.1 dX12_endsNight_13 rfl (lv_at hl 0 rfl) ?_
    refine g_get hC hW hin12_endsNight_12 0 rfl rfl 25 (by decide) 1 rfl rfl dX12_endsNight_14 ?_
    refine lv_iload_n hC.1 hC.2.1 dX12_endsNight_17 rfl (lv_at hl 1 rfl) ?_
    refine lv_iconst (v := 2) hC.1 hC.2.1 dX12_endsNight_18 (by decide) ?_
    refine lv_iadd hC.1 hC.2.1 dX12_endsNight_19 ?_
    refine lv_aload_n hC.1 hC.2.1 dX12_endsNight_20 rfl (lv_at hl 0 rfl) ?_
    refine g_get hC hW hin12_endsNight_12 0 rfl rfl 25 (by decide) 1 rfl rfl dX12_endsNight_21 ?_
    refine lv_iload_n hC.1 hC.2.1 dX12_endsNight_24 rfl (lv_at hl 1 rfl) ?_
    refine lv_iconst (v := 1) hC.1 hC.2.1 dX12_endsNight_25 (by decide) ?_
    refine lv_iadd hC.1 hC.2.1 dX12_endsNight_26 ?_
    obtain ⟨hi_3, hf⟩ := ck_of hf
    refine g_iald hC hW 16 rfl hi_3 dX12_endsNight_27 ?_
    refine lv_iadd hC.1 hC.2.1 dX12_endsNight_28 ?_
    refine lv_aload_n hC.1 hC.2.1 dX12_endsNight_29 rfl (lv_at hl 0 rfl) ?_
    refine lv_aload_n hC.1 hC.2.1 dX12_endsNight_30 rfl (lv_at hl 0 rfl) ?_
    refine g_get hC hW hin12_endsNight_12 0 rfl rfl 25 (by decide) 1 rfl rfl dX12_endsNight_31 ?_
    refine lv_iload_n hC.1 hC.2.1 dX12_endsNight_34 rfl (lv_at hl 1 rfl) ?_
    refine lv_iconst (v := 0) hC.1 hC.2.1 dX12_endsNight_35 (by decide) ?_
    refine lv_iadd hC.1 hC.2.1 dX12_endsNight_36 ?_
    obtain ⟨hi_4, hf⟩ := ck_of hf
    refine g_iald hC hW 16 rfl hi_4 dX12_endsNight_37 ?_
    obtain ⟨r_5, hg_6, hf⟩ := bd_of hf
    refine g_calliV hC hW (c12_whoIn l D cy ad aM hg_6) (cwV 1 hC.2.2.2.2.1 gX12_endsNight_X12_whoIn rfl rfl rfl hdV12_whoIn ⟨Nat.le_of_ble_eq_true rfl, Nat.le_of_ble_eq_true rfl⟩) (Sub.all _ _) 0 11 rfl rfl rfl rfl hl.1 rfl (Nat.le_of_ble_eq_true rfl) dX12_endsNight_38 ⟨Nat.zero_le _, Nat.zero_le _⟩ (fun H locs hW => ?_)
    obtain ⟨hi_7, hf⟩ := ck_of hf
    obtain ⟨SM_8, eSM_8⟩ : ∃ y : Ob, y = oA SM 25 (Int32.toNatClampNeg ((x1 + 2) + (SM.2.2.1 25 (Int32.toNatClampNeg (x1 + 1))))) r_5 := ⟨_, rfl⟩
    have hf := lt_nm hf eSM_8
    refine g_iast hC hW 16 rfl hi_7 (w' := w12 cy aM SM_8) (by rw [eSM_8]; rfl) dX12_endsNight_41 (fun H locs hW => ?_)
    refine lv_aload_n hC.1 hC.2.1 dX12_endsNight_42 rfl (lv_at hl 0 rfl) ?_
    refine g_get hC hW hin12_endsNight_12 0 rfl rfl 25 (by decide) 1 rfl rfl dX12_endsNight_43 ?_
    refine lv_iload_n hC.1 hC.2.1 dX12_endsNight_46 rfl (lv_at hl 1 rfl) ?_
    refine lv_iconst (v := 1) hC.1 hC.2.1 dX12_endsNight_47 (by decide) ?_
    refine lv_iadd hC.1 hC.2.1 dX12_endsNight_48 ?_
    refine lv_dup2_11 hC.1 hC.2.1 dX12_endsNight_49 rfl rfl ?_
    obtain ⟨hi_9, hf⟩ := ck_of hf
    refine g_iald hC hW 16 rfl hi_9 dX12_endsNight_50 ?_
    refine lv_iconst (v := 1) hC.1 hC.2.1 dX12_endsNight_51 (by decide) ?_
    refine lv_iadd hC.1 hC.2.1 dX12_endsNight_52 ?_
    obtain ⟨hi_10, hf⟩ := ck_of hf
    obtain ⟨SM_11, eSM_11⟩ : ∃ y : Ob, y = oA SM_8 25 (Int32.toNatClampNeg (x1 + 1)) ((SM_8.2.2.1 25 (Int32.toNatClampNeg (x1 + 1))) + 1) := ⟨_, rfl⟩
    have hf := lt_nm hf eSM_11
    refine g_iast hC hW 16 rfl hi_10 (w' := w12 cy aM SM_11) (by rw [eSM_11]; rfl) dX12_endsNight_53 (fun H locs hW => ?_)
    exact t12_endsNight_54 hC  _ _ _ _ _ _ hf hW (lv_sub hl [0, 1] rfl)
set_option maxRecDepth 100000 in
set_option maxHeartbeats 4000000 in
theorem c12_endsNight (l : Launch) (D : va_G) (cy : Nat → ClassId) (ad : Nat → Nat) (aM : Nat → Nat) {x1 : Int32} {SM : Ob} {res : Ob} (h : f12_endsNight x1 SM = some res) : GCv l yX12_endsNight wsX12_endsNight rm12_endsNight [.ref (aM 0), .int x1] D cy ad (w12 cy aM SM) (w12 cy aM res) := fun sz => GC.start (own := RX12) (Qc := fun A => QV D cy (w12 cy aM res) A) sz (by decide) rfl rfl (Nat.le_of_ble_eq_true rfl) (fun p e s m below meth c A ls hC hW hl => t12_endsNight_0 hC _ _ _ _ _ _ h hW (lv_sub hl [0, 1] rfl))
abbrev rm12_night : Room := { frames := 4, cells := 0, slots := 0, locals := 81 }
theorem hdV12_night : yX12_night.cls = RX12 ∧ (yX12_night.cls ≠ "java/lang/invoke/MethodHandle" ∧ yX12_night.cls ≠ "java/lang/invoke/VarHandle" ∧ (parseMethodDescriptor yX12_night.desc).map (fun d => d.parameters.length) = some 0) := by decide +kernel
theorem hin12_night_12 : ∀ x ∈ u_ws RX12 TX12 39, x ∈ wsX12_night := fun _ h => List.mem_cons_of_mem _ (List.mem_append_right _ h)
set_option maxRecDepth 100000 in
set_option maxHeartbeats 4000000 in
theorem t12_night_23 (hC : Cx p s m args meth c cX12_night 1 wsX12_night RX12 (some .int)) : ∀ (SM : Ob) (res : Int32 × Ob) (H : Heap) (locs : List Loc) (ls : Array Slot), f12_night_23 SM = some res → GW D cy ad (w12 cy aM SM) A s H locs → lv_has ls 1 [] → W p l e rm12_night s m args below meth c H locs 0 0 (MQ below (QI D cy (w12 cy aM (res.2)) A (res.1)) args s 0 0 A) (F0 m 23 ls []) := by
  intro SM res H locs ls hf hW hl
  unfold f12_night_23 at hf
  refine lv_iconst (v := (-1)) hC.1 hC.2.1 dX12_night_23 (by decide) ?_
  obtain rfl := Option.some.inj hf
  exact g_iret hC hW dX12_night_24
set_option maxRecDepth 100000 in
set_option maxHeartbeats 4000000 in
theorem t12_night_0 (hC : Cx p s m args meth c cX12_night 1 wsX12_night RX12 (some .int)) : ∀ (SM : Ob) (res : Int32 × Ob) (H : Heap) (locs : List Loc) (ls : Array Slot), f12_night SM = some res → GW D cy ad (w12 cy aM SM) A s H locs → lv_has ls 1 [(0, .ref (aM 0))] → W p l e rm12_night s m args below meth c H locs 0 0 (MQ below (QI D cy (w12 cy aM (res.2)) A (res.1)) args s 0 0 A) (F0 m 0 ls []) := by
  intro SM res H locs ls hf hW hl
  unfold f12_night at hf
  refine lv_aload_n hC.1 hC.2.1 dX12_night_0 rfl (lv_at hl 0 rfl) ?_
  refine lv_iconst (v := 0) hC.1 hC.2.1 dX12_night_1 (by decide) ?_
  obtain ⟨SM_1, eSM_1⟩ : ∃ y : Ob, y = oI SM 0 0 := ⟨_, rfl⟩
  have hf := lt_nm hf eSM_1
  refine g_put hC hW hin12_night_12 tyX12 tyX12_ok nmX12 0 rfl rfl 0 (by decide) 1 rfl rfl rfl rfl (Nat.le_of_ble_eq_true rfl) (w' := w12 cy aM SM_1) (by rw [eSM_1]; rfl) dX12_night_2 (fun H locs hW => ?_)
  refine lv_aload_n hC.1 hC.2.1 dX12_night_5 rfl (lv_at hl 0 rfl) ?_
  obtain ⟨r_2, hg_3, hf⟩ := bd_of hf
  refine g_calliV hC hW (c12_guests l D cy ad aM hg_3) (cwV 0 hC.2.2.2.2.1 gX12_night_X12_guests rfl rfl rfl hdV12_guests ⟨Nat.le_of_ble_eq_true rfl, Nat.le_of_ble_eq_true rfl⟩) (Sub.all _ _) 0 11 rfl rfl rfl rfl hl.1 rfl (Nat.le_of_ble_eq_true rfl) dX12_night_6 ⟨Nat.zero_le _, Nat.zero_le _⟩ (fun H locs hW => ?_)
  refine lv_if_eq (tgt := 23) hC.1 hC.2.1 dX12_night_9 (by decide) (fun hc_4 => ?_) (fun hc_4 => ?_)
  · have hf := ite_t hf hc_4
    exact t12_night_23 hC  _ _ _ _ _ hf hW (lv_sub hl [] rfl)
  · have hf := ite_f hf hc_4
    refine lv_aload_n hC.1 hC.2.1 dX12_night_12 rfl (lv_at hl 0 rfl) ?_
    refine g_get hC hW hin12_night_12 0 rfl rfl 25 (by decide) 2 rfl rfl dX12_night_13 ?_
    refine lv_iconst (v := 1) hC.1 hC.2.1 dX12_night_16 (by decide) ?_
    obtain ⟨hi_5, hf⟩ := ck_of hf
    refine g_iald hC hW 16 rfl hi_5 dX12_night_17 ?_
    refine lv_bipush (v := 10) hC.1 hC.2.1 dX12_night_18 (by decide) ?_
    refine lv_icmp_ne (tgt := 25) hC.1 hC.2.1 dX12_night_20 (by decide) (fun hc_6 => ?_) (fun hc_6 => ?_)
    · have hf := ite_f hf hc_6
      refine lv_aload_n hC.1 hC.2.1 dX12_night_25 rfl (lv_at hl 0 rfl) ?_
      obtain ⟨r_7, hg_8, hf⟩ := bd_of hf
      refine g_callvV hC hW (c12_keeps l D cy ad aM hg_8) (cwV 0 hC.2.2.2.2.1 gX12_night_X12_keeps rfl rfl rfl hdV12_keeps ⟨Nat.le_of_ble_eq_true rfl, Nat.le_of_ble_eq_true rfl⟩) (Sub.all _ _) 0 11 rfl rfl rfl rfl hl.1 rfl (Nat.le_of_ble_eq_true rfl) dX12_night_26 ⟨Nat.zero_le _, Nat.zero_le _⟩ (fun H locs hW => ?_)
      refine lv_aload_n hC.1 hC.2.1 dX12_night_29 rfl (lv_at hl 0 rfl) ?_
      refine lv_iconst (v := 0) hC.1 hC.2.1 dX12_night_30 (by decide) ?_
      obtain ⟨r_9, hg_10, hf⟩ := bd_of hf
      refine g_callvV hC hW (c12_endsNight l D cy ad aM hg_10) (cwV 1 hC.2.2.2.2.1 gX12_night_X12_endsNight rfl rfl rfl hdV12_endsNight ⟨Nat.le_of_ble_eq_true rfl, Nat.le_of_ble_eq_true rfl⟩) (Sub.all _ _) 0 11 rfl rfl rfl rfl hl.1 rfl (Nat.le_of_ble_eq_true rfl) dX12_night_31 ⟨Nat.zero_le _, Nat.zero_le _⟩ (fun H locs hW => ?_)
      refine lv_aload_n hC.1 hC.2.1 dX12_night_34 rfl (lv_at hl 0 rfl) ?_
      refine g_get hC hW hin12_night_12 0 rfl rfl 25 (by decide) 2 rfl rfl dX12_night_35 ?_
      refine lv_iconst (v := 2) hC.1 hC.2.1 dX12_night_38 (by decide) ?_
      refine lv_aload_n hC.1 hC.2.1 dX12_night_39 rfl (lv_at hl 0 rfl) ?_
      refine g_get hC hW hin12_night_12 0 rfl rfl 25 (by decide) 2 rfl rfl dX12_night_40 ?_
      refine lv_iconst (v := 1) hC.1 hC.2.1 dX12_night_43 (by decide) ?_
      obtain ⟨hi_11, hf⟩ := ck_of hf
      refine g_iald hC hW 16 rfl hi_11 dX12_night_44 ?_
      refine lv_iadd hC.1 hC.2.1 dX12_night_45 ?_
      refine lv_iconst (v := 1) hC.1 hC.2.1 dX12_night_46 (by decide) ?_
      refine lv_isub hC.1 hC.2.1 dX12_night_47 ?_
      obtain ⟨hi_12, hf⟩ := ck_of hf
      refine g_iald hC hW 16 rfl hi_12 dX12_night_48 ?_
      obtain rfl := Option.some.inj hf
      exact g_iret hC hW dX12_night_49
    · have hf := ite_t hf hc_6
      exact t12_night_23 hC  _ _ _ _ _ hf hW (lv_sub hl [] rfl)
set_option maxRecDepth 100000 in
set_option maxHeartbeats 4000000 in
theorem c12_night (l : Launch) (D : va_G) (cy : Nat → ClassId) (ad : Nat → Nat) (aM : Nat → Nat) {SM : Ob} {res : Int32 × Ob} (h : f12_night SM = some res) : GCi l yX12_night wsX12_night rm12_night [.ref (aM 0)] D cy ad (w12 cy aM SM) (w12 cy aM (res.2)) (res.1) := fun sz => GC.start (own := RX12) (Qc := fun A => QI D cy (w12 cy aM (res.2)) A (res.1)) sz (by decide) rfl rfl (Nat.le_of_ble_eq_true rfl) (fun p e s m below meth c A ls hC hW hl => t12_night_0 hC _ _ _ _ _ h hW (lv_sub hl [0] rfl))
abbrev rm12_undo : Room := { frames := 1, cells := 0, slots := 0, locals := 24 }
theorem hdV12_undo : yX12_undo.cls = RX12 ∧ (yX12_undo.cls ≠ "java/lang/invoke/MethodHandle" ∧ yX12_undo.cls ≠ "java/lang/invoke/VarHandle" ∧ (parseMethodDescriptor yX12_undo.desc).map (fun d => d.parameters.length) = some 0) := by decide +kernel
theorem hin12_undo_12 : ∀ x ∈ u_ws RX12 TX12 39, x ∈ wsX12_undo := fun _ h => List.mem_cons_of_mem _ (List.mem_append_right _ h)
set_option maxRecDepth 100000 in
set_option maxHeartbeats 4000000 in
theorem t12_undo_0 (hC : Cx p s m args meth c cX12_undo 1 wsX12_undo RX12 (some .boolean)) : ∀ (SM : Ob) (res : Int32 × Ob) (H : Heap) (locs : List Loc) (ls : Array Slot), f12_undo SM = some res → GW D cy ad (w12 cy aM SM) A s H locs → lv_has ls 1 [(0, .ref (aM 0))] → W p l e rm12_undo s m args below meth c H locs 0 0 (MQ below (QI D cy (w12 cy aM (res.2)) A (res.1)) args s 0 0 A) (F0 m 0 ls []) := by
  intro SM res H locs ls hf hW hl
  unfold f12_undo at hf
  refine lv_aload_n hC.1 hC.2.1 dX12_undo_0 rfl (lv_at hl 0 rfl) ?_
  refine lv_iconst (v := 0) hC.1 hC.2.1 dX12_undo_1 (by decide) ?_
  obtain ⟨SM_1, eSM_1⟩ : ∃ y : Ob, y = oI SM 0 0 := ⟨_, rfl⟩
  have hf := lt_nm hf eSM_1
  refine g_put hC hW hin12_undo_12 tyX12 tyX12_ok nmX12 0 rfl rfl 0 (by decide) 1 rfl rfl rfl rfl (Nat.le_of_ble_eq_true rfl) (w' := w12 cy aM SM_1) (by rw [eSM_1]; rfl) dX12_undo_2 (fun H locs hW => ?_)
  refine lv_aload_n hC.1 hC.2.1 dX12_undo_5 rfl (lv_at hl 0 rfl) ?_
  refine g_get hC hW hin12_undo_12 0 rfl rfl 26 (by decide) 2 rfl rfl dX12_undo_6 ?_
  refine lv_if_ne (tgt := 14) hC.1 hC.2.1 dX12_undo_9 (by decide) (fun hc_2 => ?_) (fun hc_2 => ?_)
  · have hf := ite_f hf hc_2
    refine lv_aload_n hC.1 hC.2.1 dX12_undo_14 rfl (lv_at hl 0 rfl) ?_
    refine lv_dup hC.1 hC.2.1 dX12_undo_15 rfl ?_
    refine g_get hC hW hin12_undo_12 0 rfl rfl 26 (by decide) 2 rfl rfl dX12_undo_16 ?_
    refine lv_iconst (v := 1) hC.1 hC.2.1 dX12_undo_19 (by decide) ?_
    refine lv_isub hC.1 hC.2.1 dX12_undo_20 ?_
    obtain ⟨SM_3, eSM_3⟩ : ∃ y : Ob, y = oI SM_1 26 ((SM_1.1 26) - 1) := ⟨_, rfl⟩
    have hf := lt_nm hf eSM_3
    refine g_put hC hW hin12_undo_12 tyX12 tyX12_ok nmX12 0 rfl rfl 26 (by decide) 2 rfl rfl rfl rfl (Nat.le_of_ble_eq_true rfl) (w' := w12 cy aM SM_3) (by rw [eSM_3]; rfl) dX12_undo_21 (fun H locs hW => ?_)
    refine lv_aload_n hC.1 hC.2.1 dX12_undo_24 rfl (lv_at hl 0 rfl) ?_
    refine lv_bipush (v := 30) hC.1 hC.2.1 dX12_undo_25 (by decide) ?_
    refine lv_iconst (v := 5) hC.1 hC.2.1 dX12_undo_27 (by decide) ?_
    refine lv_aload_n hC.1 hC.2.1 dX12_undo_28 rfl (lv_at hl 0 rfl) ?_
    refine g_get hC hW hin12_undo_12 0 rfl rfl 26 (by decide) 2 rfl rfl dX12_undo_29 ?_
    refine lv_iadd hC.1 hC.2.1 dX12_undo_32 ?_
    refine lv_imul hC.1 hC.2.1 dX12_undo_33 ?_
    refine lv_iconst (v := 0) hC.1 hC.2.1 dX12_undo_34 (by decide) ?_
    refine lv_bipush (v := 12) hC.1 hC.2.1 dX12_undo_35 (by decide) ?_
    obtain ⟨r_4, hg_5, hf⟩ := bd_of hf
    refine g_callvV hC hW (c12_copies l D cy ad aM hg_5) (cwV 3 hC.2.2.2.2.1 gX12_undo_X12_copies rfl rfl rfl hdV12_copies ⟨Nat.le_of_ble_eq_true rfl, Nat.le_of_ble_eq_true rfl⟩) (Sub.all _ _) 0 11 rfl rfl rfl rfl hl.1 rfl (Nat.le_of_ble_eq_true rfl) dX12_undo_37 ⟨Nat.zero_le _, Nat.zero_le _⟩ (fun H locs hW => ?_)
    refine lv_iconst (v := 1) hC.1 hC.2.1 dX12_undo_40 (by decide) ?_
    obtain rfl := Option.some.inj hf
    exact g_zret (v := 1) hC hW (by decide) dX12_undo_41
  · have hf := ite_t hf hc_2
    refine lv_iconst (v := 0) hC.1 hC.2.1 dX12_undo_12 (by decide) ?_
    obtain rfl := Option.some.inj hf
    exact g_zret (v := 0) hC hW (by decide) dX12_undo_13
set_option maxRecDepth 100000 in
set_option maxHeartbeats 4000000 in
theorem c12_undo (l : Launch) (D : va_G) (cy : Nat → ClassId) (ad : Nat → Nat) (aM : Nat → Nat) {SM : Ob} {res : Int32 × Ob} (h : f12_undo SM = some res) : GCi l yX12_undo wsX12_undo rm12_undo [.ref (aM 0)] D cy ad (w12 cy aM SM) (w12 cy aM (res.2)) (res.1) := fun sz => GC.start (own := RX12) (Qc := fun A => QI D cy (w12 cy aM (res.2)) A (res.1)) sz (by decide) rfl rfl (Nat.le_of_ble_eq_true rfl) (fun p e s m below meth c A ls hC hW hl => t12_undo_0 hC _ _ _ _ _ h hW (lv_sub hl [0] rfl))
abbrev rm12_lineIn : Room := { frames := 4, cells := 0, slots := 0, locals := 94 }
theorem hdV12_lineIn : yX12_lineIn.cls = RX12 ∧ (yX12_lineIn.cls ≠ "java/lang/invoke/MethodHandle" ∧ yX12_lineIn.cls ≠ "java/lang/invoke/VarHandle" ∧ (parseMethodDescriptor yX12_lineIn.desc).map (fun d => d.parameters.length) = some 1) := by decide +kernel
theorem hin12_lineIn_12 : ∀ x ∈ u_ws RX12 TX12 39, x ∈ wsX12_lineIn := fun _ h => List.mem_cons_of_mem _ (List.mem_append_right _ h)
set_option maxRecDepth 100000 in
set_option maxHeartbeats 4000000 in
theorem t12_lineIn_109 (hC : Cx p s m args meth c cX12_lineIn 3 wsX12_lineIn RX12 (some .int)) : ∀ (z0 : Int32) (SM : Ob) (res : Int32 × Ob) (H : Heap) (locs : List Loc) (ls : Array Slot), f12_lineIn_109 z0 SM = some res → GW D cy ad (w12 cy aM SM) A s H locs → lv_has ls 3 [] → W p l e rm12_lineIn s m args below meth c H locs 0 0 (MQ below (QI D cy (w12 cy aM (res.2)) A (res.1)) args s 0 0 A) (F0 m 109 ls [.int z0]) := by
  intro z0 SM res H locs ls hf hW hl
  unfold f12_lineIn_109 at hf
  obtain rfl := Option.some.inj hf
  exact g_iret hC hW dX12_lineIn_109
set_option maxRecDepth 100000 in
set_option maxHeartbeats 4000000 in
theorem t12_lineIn_0 (hC : Cx p s m args meth c cX12_lineIn 3 wsX12_lineIn RX12 (some .int)) : ∀ (x1 : Int32) (SM : Ob) (res : Int32 × Ob) (H : Heap) (locs : List Loc) (ls : Array Slot), f12_lineIn x1 SM = some res → GW D cy ad (w12 cy aM SM) A s H locs → lv_has ls 3 [(0, .ref (aM 0)), (1, .int x1)] → W p l e rm12_lineIn s m args below meth c H locs 0 0 (MQ below (QI D cy (w12 cy aM (res.2)) A (res.1)) args s 0 0 A) (F0 m 0 ls []) := by
  intro x1 SM res H locs ls hf hW hl
  unfold f12_lineIn at hf
  refine lv_aload_n hC.1 hC.2.1 dX12_lineIn_0 rfl (lv_at hl 0 rfl) ?_
  refine g_get hC hW hin12_lineIn_12 0 rfl rfl 22 (by decide) 1 rfl rfl dX12_lineIn_1 ?_
  refine lv_iload_n hC.1 hC.2.1 dX12_lineIn_4 rfl (lv_at hl 1 rfl) ?_
  obtain ⟨hi_1, hf⟩ := ck_of hf
  refine g_iald hC hW 13 rfl hi_1 dX12_lineIn_5 ?_
  refine lv_topi (fun x2_2 ex2_2 => ?_)
  have hf := lt_nm hf ex2_2
  refine lv_istore_n (lv' := [(2, .int x2_2), (0, .ref (aM 0)), (1, .int x1)]) hC.1 hC.2.1 dX12_lineIn_6 rfl hl (by decide) rfl (fun ls hl => ?_)
  refine lv_iload_n hC.1 hC.2.1 dX12_lineIn_7 rfl (lv_at hl 0 rfl) ?_
  refine lv_if_ne (tgt := 36) hC.1 hC.2.1 dX12_lineIn_8 (by decide) (fun hc_3 => ?_) (fun hc_3 => ?_)
  · have hf := ite_f hf hc_3
    refine lv_iload_n hC.1 hC.2.1 dX12_lineIn_36 rfl (lv_at hl 0 rfl) ?_
    refine lv_iconst (v := 1) hC.1 hC.2.1 dX12_lineIn_37 (by decide) ?_
    refine lv_icmp_ne (tgt := 57) hC.1 hC.2.1 dX12_lineIn_38 (by decide) (fun hc_4 => ?_) (fun hc_4 => ?_)
    · have hf := ite_f hf hc_4
      refine lv_iload_n hC.1 hC.2.1 dX12_lineIn_57 rfl (lv_at hl 0 rfl) ?_
      refine lv_iconst (v := 2) hC.1 hC.2.1 dX12_lineIn_58 (by decide) ?_
      refine lv_icmp_ne (tgt := 85) hC.1 hC.2.1 dX12_lineIn_59 (by decide) (fun hc_5 => ?_) (fun hc_5 => ?_)
      · have hf := ite_f hf hc_5
        refine lv_iload_n hC.1 hC.2.1 dX12_lineIn_85 rfl (lv_at hl 0 rfl) ?_
        refine lv_iconst (v := 3) hC.1 hC.2.1 dX12_lineIn_86 (by decide) ?_
        refine lv_icmp_ne (tgt := 105) hC.1 hC.2.1 dX12_lineIn_87 (by decide) (fun hc_6 => ?_) (fun hc_6 => ?_)
        · have hf := ite_f hf hc_6
          refine lv_aload_n hC.1 hC.2.1 dX12_lineIn_105 rfl (lv_at hl 1 rfl) ?_
          obtain ⟨r_7, hg_8, hf⟩ := bd_of hf
          refine g_calliV hC hW (c12_everyWorld l D cy ad aM hg_8) (cwV 0 hC.2.2.2.2.1 gX12_lineIn_X12_everyWorld rfl rfl rfl hdV12_everyWorld ⟨Nat.le_of_ble_eq_true rfl, Nat.le_of_ble_eq_true rfl⟩) (Sub.all _ _) 0 11 rfl rfl rfl rfl hl.1 rfl (Nat.le_of_ble_eq_true rfl) dX12_lineIn_106 ⟨Nat.zero_le _, Nat.zero_le _⟩ (fun H locs hW => ?_)
          exact t12_lineIn_109 hC  _ _ _ _ _ _ hf hW (lv_sub hl [] rfl)
        · have hf := ite_t hf hc_6
          refine lv_aload_n hC.1 hC.2.1 dX12_lineIn_90 rfl (lv_at hl 1 rfl) ?_
          refine lv_aload_n hC.1 hC.2.1 dX12_lineIn_91 rfl (lv_at hl 1 rfl) ?_
          refine g_get hC hW hin12_lineIn_12 0 rfl rfl 22 (by decide) 1 rfl rfl dX12_lineIn_92 ?_
          refine lv_iload_n hC.1 hC.2.1 dX12_lineIn_95 rfl (lv_at hl 2 rfl) ?_
          refine lv_iconst (v := 1) hC.1 hC.2.1 dX12_lineIn_96 (by decide) ?_
          refine lv_iadd hC.1 hC.2.1 dX12_lineIn_97 ?_
          obtain ⟨hi_9, hf⟩ := ck_of hf
          refine g_iald hC hW 13 rfl hi_9 dX12_lineIn_98 ?_
          obtain ⟨r_10, hg_11, hf⟩ := bd_of hf
          refine g_calliV hC hW (c12_soOf l D cy ad aM hg_11) (cwV 1 hC.2.2.2.2.1 gX12_lineIn_X12_soOf rfl rfl rfl hdV12_soOf ⟨Nat.le_of_ble_eq_true rfl, Nat.le_of_ble_eq_true rfl⟩) (Sub.all _ _) 0 11 rfl rfl rfl rfl hl.1 rfl (Nat.le_of_ble_eq_true rfl) dX12_lineIn_99 ⟨Nat.zero_le _, Nat.zero_le _⟩ (fun H locs hW => ?_)
          refine lv_goto (tgt := 109) hC.1 hC.2.1 dX12_lineIn_102 (by decide) ?_
          exact t12_lineIn_109 hC  _ _ _ _ _ _ hf hW (lv_sub hl [] rfl)
      · have hf := ite_t hf hc_5
        refine lv_aload_n hC.1 hC.2.1 dX12_lineIn_62 rfl (lv_at hl 1 rfl) ?_
        refine g_get hC hW hin12_lineIn_12 0 rfl rfl 28 (by decide) 2 rfl rfl dX12_lineIn_63 ?_
        refine lv_aload_n hC.1 hC.2.1 dX12_lineIn_66 rfl (lv_at hl 1 rfl) ?_
        refine g_get hC hW hin12_lineIn_12 0 rfl rfl 22 (by decide) 1 rfl rfl dX12_lineIn_67 ?_
        refine lv_iload_n hC.1 hC.2.1 dX12_lineIn_70 rfl (lv_at hl 2 rfl) ?_
        refine lv_iconst (v := 1) hC.1 hC.2.1 dX12_lineIn_71 (by decide) ?_
        refine lv_iadd hC.1 hC.2.1 dX12_lineIn_72 ?_
        obtain ⟨hi_12, hf⟩ := ck_of hf
        refine g_iald hC hW 13 rfl hi_12 dX12_lineIn_73 ?_
        obtain ⟨hi_13, hf⟩ := ck_of hf
        refine g_iald hC hW 18 rfl hi_13 dX12_lineIn_74 ?_
        refine lv_iconst (v := (-1)) hC.1 hC.2.1 dX12_lineIn_75 (by decide) ?_
        refine lv_ixor hC.1 hC.2.1 dX12_lineIn_76 ?_
        refine lv_aload_n hC.1 hC.2.1 dX12_lineIn_77 rfl (lv_at hl 1 rfl) ?_
        obtain ⟨r_14, hg_15, hf⟩ := bd_of hf
        refine g_calliV hC hW (c12_everyWorld l D cy ad aM hg_15) (cwV 0 hC.2.2.2.2.1 gX12_lineIn_X12_everyWorld rfl rfl rfl hdV12_everyWorld ⟨Nat.le_of_ble_eq_true rfl, Nat.le_of_ble_eq_true rfl⟩) (Sub.all _ _) 0 11 rfl rfl rfl rfl hl.1 rfl (Nat.le_of_ble_eq_true rfl) dX12_lineIn_78 ⟨Nat.zero_le _, Nat.zero_le _⟩ (fun H locs hW => ?_)
        refine lv_iand hC.1 hC.2.1 dX12_lineIn_81 ?_
        refine lv_goto (tgt := 109) hC.1 hC.2.1 dX12_lineIn_82 (by decide) ?_
        exact t12_lineIn_109 hC  _ _ _ _ _ _ hf hW (lv_sub hl [] rfl)
    · have hf := ite_t hf hc_4
      refine lv_aload_n hC.1 hC.2.1 dX12_lineIn_41 rfl (lv_at hl 1 rfl) ?_
      refine g_get hC hW hin12_lineIn_12 0 rfl rfl 28 (by decide) 2 rfl rfl dX12_lineIn_42 ?_
      refine lv_aload_n hC.1 hC.2.1 dX12_lineIn_45 rfl (lv_at hl 1 rfl) ?_
      refine g_get hC hW hin12_lineIn_12 0 rfl rfl 22 (by decide) 1 rfl rfl dX12_lineIn_46 ?_
      refine lv_iload_n hC.1 hC.2.1 dX12_lineIn_49 rfl (lv_at hl 2 rfl) ?_
      refine lv_iconst (v := 1) hC.1 hC.2.1 dX12_lineIn_50 (by decide) ?_
      refine lv_iadd hC.1 hC.2.1 dX12_lineIn_51 ?_
      obtain ⟨hi_16, hf⟩ := ck_of hf
      refine g_iald hC hW 13 rfl hi_16 dX12_lineIn_52 ?_
      obtain ⟨hi_17, hf⟩ := ck_of hf
      refine g_iald hC hW 18 rfl hi_17 dX12_lineIn_53 ?_
      refine lv_goto (tgt := 109) hC.1 hC.2.1 dX12_lineIn_54 (by decide) ?_
      exact t12_lineIn_109 hC  _ _ _ _ _ _ hf hW (lv_sub hl [] rfl)
  · have hf := ite_t hf hc_3
    refine lv_aload_n hC.1 hC.2.1 dX12_lineIn_11 rfl (lv_at hl 1 rfl) ?_
    refine lv_aload_n hC.1 hC.2.1 dX12_lineIn_12 rfl (lv_at hl 1 rfl) ?_
    refine g_get hC hW hin12_lineIn_12 0 rfl rfl 22 (by decide) 1 rfl rfl dX12_lineIn_13 ?_
    refine lv_iload_n hC.1 hC.2.1 dX12_lineIn_16 rfl (lv_at hl 2 rfl) ?_
    refine lv_iconst (v := 1) hC.1 hC.2.1 dX12_lineIn_17 (by decide) ?_
    refine lv_iadd hC.1 hC.2.1 dX12_lineIn_18 ?_
    obtain ⟨hi_18, hf⟩ := ck_of hf
    refine g_iald hC hW 13 rfl hi_18 dX12_lineIn_19 ?_
    refine lv_aload_n hC.1 hC.2.1 dX12_lineIn_20 rfl (lv_at hl 1 rfl) ?_
    refine lv_aload_n hC.1 hC.2.1 dX12_lineIn_21 rfl (lv_at hl 1 rfl) ?_
    refine g_get hC hW hin12_lineIn_12 0 rfl rfl 22 (by decide) 1 rfl rfl dX12_lineIn_22 ?_
    refine lv_iload_n hC.1 hC.2.1 dX12_lineIn_25 rfl (lv_at hl 2 rfl) ?_
    refine lv_iconst (v := 2) hC.1 hC.2.1 dX12_lineIn_26 (by decide) ?_
    refine lv_iadd hC.1 hC.2.1 dX12_lineIn_27 ?_
    obtain ⟨hi_19, hf⟩ := ck_of hf
    refine g_iald hC hW 13 rfl hi_19 dX12_lineIn_28 ?_
    obtain ⟨r_20, hg_21, hf⟩ := bd_of hf
    refine g_calliV hC hW (c12_soIn l D cy ad aM hg_21) (cwV 1 hC.2.2.2.2.1 gX12_lineIn_X12_soIn rfl rfl rfl hdV12_soIn ⟨Nat.le_of_ble_eq_true rfl, Nat.le_of_ble_eq_true rfl⟩) (Sub.all _ _) 0 11 rfl rfl rfl rfl hl.1 rfl (Nat.le_of_ble_eq_true rfl) dX12_lineIn_29 ⟨Nat.zero_le _, Nat.zero_le _⟩ (fun H locs hW => ?_)
    obtain ⟨r_22, hg_23, hf⟩ := bd_of hf
    refine g_calliV hC hW (c12_saidIn l D cy ad aM hg_23) (cwV 2 hC.2.2.2.2.1 gX12_lineIn_X12_saidIn rfl rfl rfl hdV12_saidIn ⟨Nat.le_of_ble_eq_true rfl, Nat.le_of_ble_eq_true rfl⟩) (Sub.all _ _) 0 11 rfl rfl rfl rfl hl.1 rfl (Nat.le_of_ble_eq_true rfl) dX12_lineIn_32 ⟨Nat.zero_le _, Nat.zero_le _⟩ (fun H locs hW => ?_)
    obtain rfl := Option.some.inj hf
    exact g_iret hC hW dX12_lineIn_35
set_option maxRecDepth 100000 in
set_option maxHeartbeats 4000000 in
theorem c12_lineIn (l : Launch) (D : va_G) (cy : Nat → ClassId) (ad : Nat → Nat) (aM : Nat → Nat) {x1 : Int32} {SM : Ob} {res : Int32 × Ob} (h : f12_lineIn x1 SM = some res) : GCi l yX12_lineIn wsX12_lineIn rm12_lineIn [.ref (aM 0), .int x1] D cy ad (w12 cy aM SM) (w12 cy aM (res.2)) (res.1) := fun sz => GC.start (own := RX12) (Qc := fun A => QI D cy (w12 cy aM (res.2)) A (res.1)) sz (by decide) rfl rfl (Nat.le_of_ble_eq_true rfl) (fun p e s m below meth c A ls hC hW hl => t12_lineIn_0 hC _ _ _ _ _ _ h hW (lv_sub hl [0, 1] rfl))
abbrev rm12_runs : Room := { frames := 5, cells := 0, slots := 0, locals := 116 }
theorem hdV12_runs : yX12_runs.cls = RX12 ∧ (yX12_runs.cls ≠ "java/lang/invoke/MethodHandle" ∧ yX12_runs.cls ≠ "java/lang/invoke/VarHandle" ∧ (parseMethodDescriptor yX12_runs.desc).map (fun d => d.parameters.length) = some 1) := by decide +kernel
theorem hin12_runs_12 : ∀ x ∈ u_ws RX12 TX12 39, x ∈ wsX12_runs := fun _ h => List.mem_cons_of_mem _ (List.mem_append_right _ h)
set_option maxRecDepth 100000 in
set_option maxHeartbeats 4000000 in
theorem t12_runs_120 (hC : Cx p s m args meth c cX12_runs 6 wsX12_runs RX12 (some .int)) {k11 : Int32 → Int32 → Int32 → Ob → Option (Int32 × Ob)} (hk11 : ∀ (x1 : Int32) (x2 : Int32) (x3 : Int32) (SM : Ob) (res : Int32 × Ob) (H : Heap) (locs : List Loc) (ls : Array Slot), k11 x1 x2 x3 SM = some res → GW D cy ad (w12 cy aM SM) A s H locs → lv_has ls 6 [(0, .ref (aM 0)), (1, .int x1), (2, .int x2), (3, .int x3)] → W p l e rm12_runs s m args below meth c H locs 0 0 (MQ below (QI D cy (w12 cy aM (res.2)) A (res.1)) args s 0 0 A) (F0 m 11 ls [])) : ∀ (x1 : Int32) (x2 : Int32) (x3 : Int32) (SM : Ob) (res : Int32 × Ob) (H : Heap) (locs : List Loc) (ls : Array Slot), f12_runs_120 k11 x1 x2 x3 SM = some res → GW D cy ad (w12 cy aM SM) A s H locs → lv_has ls 6 [(0, .ref (aM 0)), (1, .int x1), (2, .int x2), (3, .int x3)] → W p l e rm12_runs s m args below meth c H locs 0 0 (MQ below (QI D cy (w12 cy aM (res.2)) A (res.1)) args s 0 0 A) (F0 m 120 ls []) := by
  intro x1 x2 x3 SM res H locs ls hf hW hl
  unfold f12_runs_120 at hf
  obtain ⟨x3_1, ex3_1⟩ : ∃ y : Int32, y = x3 + 1 := ⟨_, rfl⟩
  have hf := lt_nm hf ex3_1
  refine lv_iinc (v := x3_1) (lv' := [(3, .int x3_1), (0, .ref (aM 0)), (1, .int x1), (2, .int x2)]) hC.1 hC.2.1 dX12_runs_120 hl (k := 3) rfl (by rw [ex3_1]; rfl) (by decide) rfl (fun ls hl => ?_)
  refine lv_goto (tgt := 11) hC.1 hC.2.1 dX12_runs_123 (by decide) ?_
  exact hk11 _ _ _ _ _ _ _ _ hf hW (lv_sub hl [1, 2, 3, 0] rfl)
set_option maxRecDepth 100000 in
set_option maxHeartbeats 4000000 in
theorem t12_runs_119 (hC : Cx p s m args meth c cX12_runs 6 wsX12_runs RX12 (some .int)) {k11 : Int32 → Int32 → Int32 → Ob → Option (Int32 × Ob)} (hk11 : ∀ (x1 : Int32) (x2 : Int32) (x3 : Int32) (SM : Ob) (res : Int32 × Ob) (H : Heap) (locs : List Loc) (ls : Array Slot), k11 x1 x2 x3 SM = some res → GW D cy ad (w12 cy aM SM) A s H locs → lv_has ls 6 [(0, .ref (aM 0)), (1, .int x1), (2, .int x2), (3, .int x3)] → W p l e rm12_runs s m args below meth c H locs 0 0 (MQ below (QI D cy (w12 cy aM (res.2)) A (res.1)) args s 0 0 A) (F0 m 11 ls [])) : ∀ (x1 : Int32) (x3 : Int32) (z0 : Int32) (SM : Ob) (res : Int32 × Ob) (H : Heap) (locs : List Loc) (ls : Array Slot), f12_runs_119 k11 x1 x3 z0 SM = some res → GW D cy ad (w12 cy aM SM) A s H locs → lv_has ls 6 [(0, .ref (aM 0)), (1, .int x1), (3, .int x3)] → W p l e rm12_runs s m args below meth c H locs 0 0 (MQ below (QI D cy (w12 cy aM (res.2)) A (res.1)) args s 0 0 A) (F0 m 119 ls [.int z0]) := by
  intro x1 x3 z0 SM res H locs ls hf hW hl
  unfold f12_runs_119 at hf
  refine lv_istore_n (lv' := [(2, .int z0), (0, .ref (aM 0)), (1, .int x1), (3, .int x3)]) hC.1 hC.2.1 dX12_runs_119 rfl hl (by decide) rfl (fun ls hl => ?_)
  exact t12_runs_120 hC hk11  _ _ _ _ _ _ _ _ hf hW (lv_sub hl [1, 2, 0, 3] rfl)
set_option maxRecDepth 100000 in
set_option maxHeartbeats 4000000 in
theorem t12_runs_105 (hC : Cx p s m args meth c cX12_runs 6 wsX12_runs RX12 (some .int)) {k11 : Int32 → Int32 → Int32 → Ob → Option (Int32 × Ob)} (hk11 : ∀ (x1 : Int32) (x2 : Int32) (x3 : Int32) (SM : Ob) (res : Int32 × Ob) (H : Heap) (locs : List Loc) (ls : Array Slot), k11 x1 x2 x3 SM = some res → GW D cy ad (w12 cy aM SM) A s H locs → lv_has ls 6 [(0, .ref (aM 0)), (1, .int x1), (2, .int x2), (3, .int x3)] → W p l e rm12_runs s m args below meth c H locs 0 0 (MQ below (QI D cy (w12 cy aM (res.2)) A (res.1)) args s 0 0 A) (F0 m 11 ls [])) : ∀ (x1 : Int32) (x2 : Int32) (x3 : Int32) (SM : Ob) (res : Int32 × Ob) (H : Heap) (locs : List Loc) (ls : Array Slot), f12_runs_105 k11 x1 x2 x3 SM = some res → GW D cy ad (w12 cy aM SM) A s H locs → lv_has ls 6 [(0, .ref (aM 0)), (1, .int x1), (2, .int x2), (3, .int x3)] → W p l e rm12_runs s m args below meth c H locs 0 0 (MQ below (QI D cy (w12 cy aM (res.2)) A (res.1)) args s 0 0 A) (F0 m 105 ls []) := by
  intro x1 x2 x3 SM res H locs ls hf hW hl
  unfold f12_runs_105 at hf
  refine lv_iload_n hC.1 hC.2.1 dX12_runs_105 rfl (lv_at hl 3 rfl) ?_
  refine lv_iload_n hC.1 hC.2.1 dX12_runs_106 rfl (lv_at hl 1 rfl) ?_
  refine lv_icmp_eq (tgt := 120) hC.1 hC.2.1 dX12_runs_107 (by decide) (fun hc_1 => ?_) (fun hc_1 => ?_)
  · have hf := ite_t hf hc_1
    exact t12_runs_120 hC hk11  _ _ _ _ _ _ _ _ hf hW (lv_sub hl [0, 1, 2, 3] rfl)
  · have hf := ite_f hf hc_1
    refine lv_iload_n hC.1 hC.2.1 dX12_runs_110 rfl (lv_at hl 2 rfl) ?_
    refine lv_if_ge (tgt := 118) hC.1 hC.2.1 dX12_runs_111 (by decide) (fun hc_2 => ?_) (fun hc_2 => ?_)
    · have hf := ite_t hf hc_2
      refine lv_iload_n hC.1 hC.2.1 dX12_runs_118 rfl (lv_at hl 2 rfl) ?_
      exact t12_runs_119 hC hk11  _ _ _ _ _ _ _ _ hf hW (lv_sub hl [0, 1, 3] rfl)
    · have hf := ite_f hf hc_2
      refine lv_iload_n hC.1 hC.2.1 dX12_runs_114 rfl (lv_at hl 3 rfl) ?_
      refine lv_goto (tgt := 119) hC.1 hC.2.1 dX12_runs_115 (by decide) ?_
      exact t12_runs_119 hC hk11  _ _ _ _ _ _ _ _ hf hW (lv_sub hl [0, 1, 3] rfl)
set_option maxRecDepth 100000 in
set_option maxHeartbeats 4000000 in
theorem t12_runs_82 (hC : Cx p s m args meth c cX12_runs 6 wsX12_runs RX12 (some .int)) {k11 : Int32 → Int32 → Int32 → Ob → Option (Int32 × Ob)} (hk11 : ∀ (x1 : Int32) (x2 : Int32) (x3 : Int32) (SM : Ob) (res : Int32 × Ob) (H : Heap) (locs : List Loc) (ls : Array Slot), k11 x1 x2 x3 SM = some res → GW D cy ad (w12 cy aM SM) A s H locs → lv_has ls 6 [(0, .ref (aM 0)), (1, .int x1), (2, .int x2), (3, .int x3)] → W p l e rm12_runs s m args below meth c H locs 0 0 (MQ below (QI D cy (w12 cy aM (res.2)) A (res.1)) args s 0 0 A) (F0 m 11 ls [])) : ∀ (x1 : Int32) (x2 : Int32) (x3 : Int32) (x4 : Int32) (SM : Ob) (res : Int32 × Ob) (H : Heap) (locs : List Loc) (ls : Array Slot), f12_runs_82 k11 x1 x2 x3 x4 SM = some res → GW D cy ad (w12 cy aM SM) A s H locs → lv_has ls 6 [(0, .ref (aM 0)), (1, .int x1), (2, .int x2), (3, .int x3), (4, .int x4)] → W p l e rm12_runs s m args below meth c H locs 0 0 (MQ below (QI D cy (w12 cy aM (res.2)) A (res.1)) args s 0 0 A) (F0 m 82 ls []) := by
  intro x1 x2 x3 x4 SM res H locs ls hf hW hl
  unfold f12_runs_82 at hf
  refine lv_iload_n hC.1 hC.2.1 dX12_runs_82 rfl (lv_at hl 3 rfl) ?_
  refine lv_iload_n hC.1 hC.2.1 dX12_runs_83 rfl (lv_at hl 1 rfl) ?_
  refine lv_icmp_eq (tgt := 105) hC.1 hC.2.1 dX12_runs_84 (by decide) (fun hc_1 => ?_) (fun hc_1 => ?_)
  · have hf := ite_t hf hc_1
    exact t12_runs_105 hC hk11  _ _ _ _ _ _ _ _ hf hW (lv_sub hl [0, 1, 2, 3] rfl)
  · have hf := ite_f hf hc_1
    refine lv_iload hC.1 hC.2.1 dX12_runs_87 (lv_at hl 4 rfl) ?_
    refine lv_if_eq (tgt := 105) hC.1 hC.2.1 dX12_runs_89 (by decide) (fun hc_2 => ?_) (fun hc_2 => ?_)
    · have hf := ite_t hf hc_2
      exact t12_runs_105 hC hk11  _ _ _ _ _ _ _ _ hf hW (lv_sub hl [0, 1, 2, 3] rfl)
    · have hf := ite_f hf hc_2
      refine lv_aload_n hC.1 hC.2.1 dX12_runs_92 rfl (lv_at hl 0 rfl) ?_
      refine g_get hC hW hin12_runs_12 0 rfl rfl 25 (by decide) 2 rfl rfl dX12_runs_93 ?_
      refine lv_sipush (v := 630) hC.1 hC.2.1 dX12_runs_96 (by decide) ?_
      refine lv_iload hC.1 hC.2.1 dX12_runs_99 (lv_at hl 4 rfl) ?_
      obtain ⟨hi_3, hf⟩ := ck_of hf
      obtain ⟨SM_4, eSM_4⟩ : ∃ y : Ob, y = oA SM 25 (Int32.toNatClampNeg 630) x4 := ⟨_, rfl⟩
      have hf := lt_nm hf eSM_4
      refine g_iast hC hW 16 rfl hi_3 (w' := w12 cy aM SM_4) (by rw [eSM_4]; rfl) dX12_runs_101 (fun H locs hW => ?_)
      refine lv_goto (tgt := 120) hC.1 hC.2.1 dX12_runs_102 (by decide) ?_
      exact t12_runs_120 hC hk11  _ _ _ _ _ _ _ _ hf hW (lv_sub hl [0, 1, 2, 3] rfl)
set_option maxRecDepth 100000 in
set_option maxHeartbeats 4000000 in
theorem t12_runs_60 (hC : Cx p s m args meth c cX12_runs 6 wsX12_runs RX12 (some .int)) {k11 : Int32 → Int32 → Int32 → Ob → Option (Int32 × Ob)} (hk11 : ∀ (x1 : Int32) (x2 : Int32) (x3 : Int32) (SM : Ob) (res : Int32 × Ob) (H : Heap) (locs : List Loc) (ls : Array Slot), k11 x1 x2 x3 SM = some res → GW D cy ad (w12 cy aM SM) A s H locs → lv_has ls 6 [(0, .ref (aM 0)), (1, .int x1), (2, .int x2), (3, .int x3)] → W p l e rm12_runs s m args below meth c H locs 0 0 (MQ below (QI D cy (w12 cy aM (res.2)) A (res.1)) args s 0 0 A) (F0 m 11 ls [])) : ∀ (x1 : Int32) (x2 : Int32) (x3 : Int32) (x4 : Int32) (z0 : Int32) (SM : Ob) (res : Int32 × Ob) (H : Heap) (locs : List Loc) (ls : Array Slot), f12_runs_60 k11 x1 x2 x3 x4 z0 SM = some res → GW D cy ad (w12 cy aM SM) A s H locs → lv_has ls 6 [(0, .ref (aM 0)), (1, .int x1), (2, .int x2), (3, .int x3), (4, .int x4)] → W p l e rm12_runs s m args below meth c H locs 0 0 (MQ below (QI D cy (w12 cy aM (res.2)) A (res.1)) args s 0 0 A) (F0 m 60 ls [.int z0]) := by
  intro x1 x2 x3 x4 z0 SM res H locs ls hf hW hl
  unfold f12_runs_60 at hf
  refine lv_istore (lv' := [(5, .int z0), (0, .ref (aM 0)), (1, .int x1), (2, .int x2), (3, .int x3), (4, .int x4)]) hC.1 hC.2.1 dX12_runs_60 hl (by decide) rfl (fun ls hl => ?_)
  refine lv_iload_n hC.1 hC.2.1 dX12_runs_62 rfl (lv_at hl 4 rfl) ?_
  refine lv_iload_n hC.1 hC.2.1 dX12_runs_63 rfl (lv_at hl 2 rfl) ?_
  refine lv_icmp_eq (tgt := 82) hC.1 hC.2.1 dX12_runs_64 (by decide) (fun hc_1 => ?_) (fun hc_1 => ?_)
  · have hf := ite_t hf hc_1
    exact t12_runs_82 hC hk11  _ _ _ _ _ _ _ _ _ hf hW (lv_sub hl [1, 2, 3, 4, 5] rfl)
  · have hf := ite_f hf hc_1
    refine lv_iload hC.1 hC.2.1 dX12_runs_67 (lv_at hl 0 rfl) ?_
    refine lv_if_eq (tgt := 82) hC.1 hC.2.1 dX12_runs_69 (by decide) (fun hc_2 => ?_) (fun hc_2 => ?_)
    · have hf := ite_t hf hc_2
      exact t12_runs_82 hC hk11  _ _ _ _ _ _ _ _ _ hf hW (lv_sub hl [1, 2, 3, 4, 5] rfl)
    · have hf := ite_f hf hc_2
      refine lv_aload_n hC.1 hC.2.1 dX12_runs_72 rfl (lv_at hl 1 rfl) ?_
      refine lv_sipush (v := 630) hC.1 hC.2.1 dX12_runs_73 (by decide) ?_
      obtain ⟨r_3, hg_4, hf⟩ := bd_of hf
      refine g_callvV hC hW (c12_endsNight l D cy ad aM hg_4) (cwV 1 hC.2.2.2.2.1 gX12_runs_X12_endsNight rfl rfl rfl hdV12_endsNight ⟨Nat.le_of_ble_eq_true rfl, Nat.le_of_ble_eq_true rfl⟩) (Sub.all _ _) 0 11 rfl rfl rfl rfl hl.1 rfl (Nat.le_of_ble_eq_true rfl) dX12_runs_76 ⟨Nat.zero_le _, Nat.zero_le _⟩ (fun H locs hW => ?_)
      refine lv_goto (tgt := 120) hC.1 hC.2.1 dX12_runs_79 (by decide) ?_
      exact t12_runs_120 hC hk11  _ _ _ _ _ _ _ _ hf hW (lv_sub hl [1, 2, 3, 4] rfl)
set_option maxRecDepth 100000 in
set_option maxHeartbeats 4000000 in
theorem t12_runs_11 (hC : Cx p s m args meth c cX12_runs 6 wsX12_runs RX12 (some .int)) : ∀ n : Nat, ∀ (x1 : Int32) (x2 : Int32) (x3 : Int32) (SM : Ob) (res : Int32 × Ob) (H : Heap) (locs : List Loc) (ls : Array Slot), f12_runs_11 n x1 x2 x3 SM = some res → GW D cy ad (w12 cy aM SM) A s H locs → lv_has ls 6 [(0, .ref (aM 0)), (1, .int x1), (2, .int x2), (3, .int x3)] → W p l e rm12_runs s m args below meth c H locs 0 0 (MQ below (QI D cy (w12 cy aM (res.2)) A (res.1)) args s 0 0 A) (F0 m 11 ls []) := by
  intro n
  induction n with
  | zero =>
    intro _ _ _ _ _ _ _ _ hf _ _
    exact nomatch (show (none : Option (Int32 × Ob)) = some _ from hf)
  | succ n ih =>
    intro x1 x2 x3 SM res H locs ls hf hW hl
    rw [f12_runs_11] at hf
    refine lv_iload_n hC.1 hC.2.1 dX12_runs_11 rfl (lv_at hl 3 rfl) ?_
    refine lv_aload_n hC.1 hC.2.1 dX12_runs_12 rfl (lv_at hl 0 rfl) ?_
    refine g_get hC hW hin12_runs_12 0 rfl rfl 22 (by decide) 1 rfl rfl dX12_runs_13 ?_
    refine lv_iconst (v := 0) hC.1 hC.2.1 dX12_runs_16 (by decide) ?_
    obtain ⟨hi_1, hf⟩ := ck_of hf
    refine g_iald hC hW 13 rfl hi_1 dX12_runs_17 ?_
    refine lv_icmp_ge (tgt := 126) hC.1 hC.2.1 dX12_runs_18 (by decide) (fun hc_2 => ?_) (fun hc_2 => ?_)
    · have hf := ite_t hf hc_2
      refine lv_iload_n hC.1 hC.2.1 dX12_runs_126 rfl (lv_at hl 2 rfl) ?_
      obtain rfl := Option.some.inj hf
      exact g_iret hC hW dX12_runs_127
    · have hf := ite_f hf hc_2
      refine lv_aload_n hC.1 hC.2.1 dX12_runs_21 rfl (lv_at hl 0 rfl) ?_
      refine g_get hC hW hin12_runs_12 0 rfl rfl 25 (by decide) 2 rfl rfl dX12_runs_22 ?_
      refine lv_sipush (v := 630) hC.1 hC.2.1 dX12_runs_25 (by decide) ?_
      obtain ⟨hi_3, hf⟩ := ck_of hf
      refine g_iald hC hW 16 rfl hi_3 dX12_runs_28 ?_
      refine lv_aload_n hC.1 hC.2.1 dX12_runs_29 rfl (lv_at hl 0 rfl) ?_
      refine lv_iconst (v := 1) hC.1 hC.2.1 dX12_runs_30 (by decide) ?_
      refine lv_iconst (v := 3) hC.1 hC.2.1 dX12_runs_31 (by decide) ?_
      refine lv_iload_n hC.1 hC.2.1 dX12_runs_32 rfl (lv_at hl 3 rfl) ?_
      refine lv_imul hC.1 hC.2.1 dX12_runs_33 ?_
      refine lv_iadd hC.1 hC.2.1 dX12_runs_34 ?_
      obtain ⟨r_4, hg_5, hf⟩ := bd_of hf
      refine g_calliV hC hW (c12_lineIn l D cy ad aM hg_5) (cwV 1 hC.2.2.2.2.1 gX12_runs_X12_lineIn rfl rfl rfl hdV12_lineIn ⟨Nat.le_of_ble_eq_true rfl, Nat.le_of_ble_eq_true rfl⟩) (Sub.all _ _) 0 11 rfl rfl rfl rfl hl.1 rfl (Nat.le_of_ble_eq_true rfl) dX12_runs_35 ⟨Nat.zero_le _, Nat.zero_le _⟩ (fun H locs hW => ?_)
      refine lv_iand hC.1 hC.2.1 dX12_runs_38 ?_
      refine lv_topi (fun x4_6 ex4_6 => ?_)
      have hf := lt_nm hf ex4_6
      refine lv_istore (lv' := [(4, .int x4_6), (0, .ref (aM 0)), (1, .int x1), (2, .int x2), (3, .int x3)]) hC.1 hC.2.1 dX12_runs_39 hl (by decide) rfl (fun ls hl => ?_)
      refine lv_aload_n hC.1 hC.2.1 dX12_runs_41 rfl (lv_at hl 1 rfl) ?_
      refine g_get hC hW hin12_runs_12 0 rfl rfl 22 (by decide) 1 rfl rfl dX12_runs_42 ?_
      refine lv_iconst (v := 1) hC.1 hC.2.1 dX12_runs_45 (by decide) ?_
      refine lv_iconst (v := 3) hC.1 hC.2.1 dX12_runs_46 (by decide) ?_
      refine lv_iload_n hC.1 hC.2.1 dX12_runs_47 rfl (lv_at hl 4 rfl) ?_
      refine lv_imul hC.1 hC.2.1 dX12_runs_48 ?_
      refine lv_iadd hC.1 hC.2.1 dX12_runs_49 ?_
      obtain ⟨hi_7, hf⟩ := ck_of hf
      refine g_iald hC hW 13 rfl hi_7 dX12_runs_50 ?_
      refine lv_iconst (v := 4) hC.1 hC.2.1 dX12_runs_51 (by decide) ?_
      refine lv_icmp_ne (tgt := 59) hC.1 hC.2.1 dX12_runs_52 (by decide) (fun hc_8 => ?_) (fun hc_8 => ?_)
      · have hf := ite_f hf hc_8
        refine lv_iconst (v := 0) hC.1 hC.2.1 dX12_runs_59 (by decide) ?_
        exact t12_runs_60 hC ih  _ _ _ _ _ _ _ _ _ _ hf hW (lv_sub hl [1, 2, 3, 4, 0] rfl)
      · have hf := ite_t hf hc_8
        refine lv_iconst (v := 1) hC.1 hC.2.1 dX12_runs_55 (by decide) ?_
        refine lv_goto (tgt := 60) hC.1 hC.2.1 dX12_runs_56 (by decide) ?_
        exact t12_runs_60 hC ih  _ _ _ _ _ _ _ _ _ _ hf hW (lv_sub hl [1, 2, 3, 4, 0] rfl)
set_option maxRecDepth 100000 in
set_option maxHeartbeats 4000000 in
theorem t12_runs_0 (hC : Cx p s m args meth c cX12_runs 6 wsX12_runs RX12 (some .int)) : ∀ (x1 : Int32) (SM : Ob) (res : Int32 × Ob) (H : Heap) (locs : List Loc) (ls : Array Slot), f12_runs x1 SM = some res → GW D cy ad (w12 cy aM SM) A s H locs → lv_has ls 6 [(0, .ref (aM 0)), (1, .int x1)] → W p l e rm12_runs s m args below meth c H locs 0 0 (MQ below (QI D cy (w12 cy aM (res.2)) A (res.1)) args s 0 0 A) (F0 m 0 ls []) := by
  intro x1 SM res H locs ls hf hW hl
  unfold f12_runs at hf
  refine lv_aload_n hC.1 hC.2.1 dX12_runs_0 rfl (lv_at hl 0 rfl) ?_
  refine lv_sipush (v := 630) hC.1 hC.2.1 dX12_runs_1 (by decide) ?_
  obtain ⟨r_1, hg_2, hf⟩ := bd_of hf
  refine g_callvV hC hW (c12_starts l D cy ad aM hg_2) (cwV 1 hC.2.2.2.2.1 gX12_runs_X12_starts rfl rfl rfl hdV12_starts ⟨Nat.le_of_ble_eq_true rfl, Nat.le_of_ble_eq_true rfl⟩) (Sub.all _ _) 0 11 rfl rfl rfl rfl hl.1 rfl (Nat.le_of_ble_eq_true rfl) dX12_runs_4 ⟨Nat.zero_le _, Nat.zero_le _⟩ (fun H locs hW => ?_)
  refine lv_iconst (v := (-1)) hC.1 hC.2.1 dX12_runs_7 (by decide) ?_
  refine lv_istore_n (lv' := [(2, .int (-1)), (0, .ref (aM 0)), (1, .int x1)]) hC.1 hC.2.1 dX12_runs_8 rfl hl (by decide) rfl (fun ls hl => ?_)
  refine lv_iconst (v := 0) hC.1 hC.2.1 dX12_runs_9 (by decide) ?_
  refine lv_istore_n (lv' := [(3, .int 0), (2, .int (-1)), (0, .ref (aM 0)), (1, .int x1)]) hC.1 hC.2.1 dX12_runs_10 rfl hl (by decide) rfl (fun ls hl => ?_)
  exact t12_runs_11 hC _ _ _ _ _ _ _ _ _ hf hW (lv_sub hl [2, 3, 1, 0] rfl)
set_option maxRecDepth 100000 in
set_option maxHeartbeats 4000000 in
theorem c12_runs (l : Launch) (D : va_G) (cy : Nat → ClassId) (ad : Nat → Nat) (aM : Nat → Nat) {x1 : Int32} {SM : Ob} {res : Int32 × Ob} (h : f12_runs x1 SM = some res) : GCi l yX12_runs wsX12_runs rm12_runs [.ref (aM 0), .int x1] D cy ad (w12 cy aM SM) (w12 cy aM (res.2)) (res.1) := fun sz => GC.start (own := RX12) (Qc := fun A => QI D cy (w12 cy aM (res.2)) A (res.1)) sz (by decide) rfl rfl (Nat.le_of_ble_eq_true rfl) (fun p e s m below meth c A ls hC hW hl => t12_runs_0 hC _ _ _ _ _ _ h hW (lv_sub hl [0, 1] rfl))
abbrev rm12_judged : Room := { frames := 6, cells := 0, slots := 0, locals := 141 }
theorem hdV12_judged : yX12_judged.cls = RX12 ∧ (yX12_judged.cls ≠ "java/lang/invoke/MethodHandle" ∧ yX12_judged.cls ≠ "java/lang/invoke/VarHandle" ∧ (parseMethodDescriptor yX12_judged.desc).map (fun d => d.parameters.length) = some 1) := by decide +kernel
theorem hin12_judged_12 : ∀ x ∈ u_ws RX12 TX12 39, x ∈ wsX12_judged := fun _ h => List.mem_cons_of_mem _ (List.mem_append_right _ h)
set_option maxRecDepth 100000 in
set_option maxHeartbeats 4000000 in
theorem t12_judged_65 (hC : Cx p s m args meth c cX12_judged 3 wsX12_judged RX12 (some .int)) : ∀ (z0 : Int32) (SM : Ob) (res : Int32 × Ob) (H : Heap) (locs : List Loc) (ls : Array Slot), f12_judged_65 z0 SM = some res → GW D cy ad (w12 cy aM SM) A s H locs → lv_has ls 3 [] → W p l e rm12_judged s m args below meth c H locs 0 0 (MQ below (QI D cy (w12 cy aM (res.2)) A (res.1)) args s 0 0 A) (F0 m 65 ls [.int z0]) := by
  intro z0 SM res H locs ls hf hW hl
  unfold f12_judged_65 at hf
  obtain rfl := Option.some.inj hf
  exact g_iret hC hW dX12_judged_65
set_option maxRecDepth 100000 in
set_option maxHeartbeats 4000000 in
theorem t12_judged_0 (hC : Cx p s m args meth c cX12_judged 3 wsX12_judged RX12 (some .int)) : ∀ (x1 : Int32) (SM : Ob) (res : Int32 × Ob) (H : Heap) (locs : List Loc) (ls : Array Slot), f12_judged x1 SM = some res → GW D cy ad (w12 cy aM SM) A s H locs → lv_has ls 3 [(0, .ref (aM 0)), (1, .int x1)] → W p l e rm12_judged s m args below meth c H locs 0 0 (MQ below (QI D cy (w12 cy aM (res.2)) A (res.1)) args s 0 0 A) (F0 m 0 ls []) := by
  intro x1 SM res H locs ls hf hW hl
  unfold f12_judged at hf
  refine lv_aload_n hC.1 hC.2.1 dX12_judged_0 rfl (lv_at hl 0 rfl) ?_
  refine lv_iconst (v := 0) hC.1 hC.2.1 dX12_judged_1 (by decide) ?_
  obtain ⟨SM_1, eSM_1⟩ : ∃ y : Ob, y = oI SM 0 0 := ⟨_, rfl⟩
  have hf := lt_nm hf eSM_1
  refine g_put hC hW hin12_judged_12 tyX12 tyX12_ok nmX12 0 rfl rfl 0 (by decide) 1 rfl rfl rfl rfl (Nat.le_of_ble_eq_true rfl) (w' := w12 cy aM SM_1) (by rw [eSM_1]; rfl) dX12_judged_2 (fun H locs hW => ?_)
  refine lv_iload_n hC.1 hC.2.1 dX12_judged_5 rfl (lv_at hl 1 rfl) ?_
  refine lv_iconst (v := 0) hC.1 hC.2.1 dX12_judged_6 (by decide) ?_
  refine lv_iconst (v := 2) hC.1 hC.2.1 dX12_judged_7 (by decide) ?_
  obtain ⟨r_2, hg_3, hf⟩ := bd_of hf
  refine g_calliS hC hW (c12_within l D cy ad  hg_3) (va_cwS 3 hC.2.2.2.2.1 gX12_judged_X12_within rfl rfl rfl hdS12_within ⟨Nat.le_of_ble_eq_true rfl, Nat.le_of_ble_eq_true rfl⟩) (Sub.nil _) rfl hl.1 rfl (Nat.le_of_ble_eq_true rfl) dX12_judged_8 ⟨Nat.zero_le _, Nat.zero_le _⟩ (fun H locs hW => ?_)
  refine lv_if_ne (tgt := 17) hC.1 hC.2.1 dX12_judged_11 (by decide) (fun hc_4 => ?_) (fun hc_4 => ?_)
  · have hf := ite_f hf hc_4
    refine lv_aload_n hC.1 hC.2.1 dX12_judged_17 rfl (lv_at hl 0 rfl) ?_
    refine lv_iconst (v := (-1)) hC.1 hC.2.1 dX12_judged_18 (by decide) ?_
    obtain ⟨r_5, hg_6, hf⟩ := bd_of hf
    refine g_calliV hC hW (c12_runs l D cy ad aM hg_6) (cwV 1 hC.2.2.2.2.1 gX12_judged_X12_runs rfl rfl rfl hdV12_runs ⟨Nat.le_of_ble_eq_true rfl, Nat.le_of_ble_eq_true rfl⟩) (Sub.all _ _) 0 11 rfl rfl rfl rfl hl.1 rfl (Nat.le_of_ble_eq_true rfl) dX12_judged_19 ⟨Nat.zero_le _, Nat.zero_le _⟩ (fun H locs hW => ?_)
    refine lv_topi (fun x2_7 ex2_7 => ?_)
    have hf := lt_nm hf ex2_7
    refine lv_istore_n (lv' := [(2, .int x2_7), (0, .ref (aM 0)), (1, .int x1)]) hC.1 hC.2.1 dX12_judged_22 rfl hl (by decide) rfl (fun ls hl => ?_)
    refine lv_iload_n hC.1 hC.2.1 dX12_judged_23 rfl (lv_at hl 2 rfl) ?_
    refine lv_if_ne (tgt := 31) hC.1 hC.2.1 dX12_judged_24 (by decide) (fun hc_8 => ?_) (fun hc_8 => ?_)
    · have hf := ite_f hf hc_8
      refine lv_iload_n hC.1 hC.2.1 dX12_judged_31 rfl (lv_at hl 2 rfl) ?_
      refine lv_iconst (v := 1) hC.1 hC.2.1 dX12_judged_32 (by decide) ?_
      refine lv_icmp_ne (tgt := 50) hC.1 hC.2.1 dX12_judged_33 (by decide) (fun hc_9 => ?_) (fun hc_9 => ?_)
      · have hf := ite_f hf hc_9
        refine lv_aload_n hC.1 hC.2.1 dX12_judged_50 rfl (lv_at hl 1 rfl) ?_
        refine lv_aload_n hC.1 hC.2.1 dX12_judged_51 rfl (lv_at hl 1 rfl) ?_
        refine g_get hC hW hin12_judged_12 0 rfl rfl 25 (by decide) 2 rfl rfl dX12_judged_52 ?_
        refine lv_sipush (v := 630) hC.1 hC.2.1 dX12_judged_55 (by decide) ?_
        obtain ⟨hi_10, hf⟩ := ck_of hf
        refine g_iald hC hW 16 rfl hi_10 dX12_judged_58 ?_
        obtain ⟨r_11, hg_12, hf⟩ := bd_of hf
        refine g_calliV hC hW (c12_whoIn l D cy ad aM hg_12) (cwV 1 hC.2.2.2.2.1 gX12_judged_X12_whoIn rfl rfl rfl hdV12_whoIn ⟨Nat.le_of_ble_eq_true rfl, Nat.le_of_ble_eq_true rfl⟩) (Sub.all _ _) 0 11 rfl rfl rfl rfl hl.1 rfl (Nat.le_of_ble_eq_true rfl) dX12_judged_59 ⟨Nat.zero_le _, Nat.zero_le _⟩ (fun H locs hW => ?_)
        obtain ⟨r_13, hg_14, hf⟩ := bd_of hf
        refine g_calliS hC hW (c12_alone l D cy ad  hg_14) (va_cwS 1 hC.2.2.2.2.1 gX12_judged_X12_alone rfl rfl rfl hdS12_alone ⟨Nat.le_of_ble_eq_true rfl, Nat.le_of_ble_eq_true rfl⟩) (Sub.nil _) rfl hl.1 rfl (Nat.le_of_ble_eq_true rfl) dX12_judged_62 ⟨Nat.zero_le _, Nat.zero_le _⟩ (fun H locs hW => ?_)
        exact t12_judged_65 hC  _ _ _ _ _ _ hf hW (lv_sub hl [] rfl)
      · have hf := ite_t hf hc_9
        refine lv_aload_n hC.1 hC.2.1 dX12_judged_36 rfl (lv_at hl 1 rfl) ?_
        refine g_get hC hW hin12_judged_12 0 rfl rfl 25 (by decide) 2 rfl rfl dX12_judged_37 ?_
        refine lv_sipush (v := 630) hC.1 hC.2.1 dX12_judged_40 (by decide) ?_
        obtain ⟨hi_15, hf⟩ := ck_of hf
        refine g_iald hC hW 16 rfl hi_15 dX12_judged_43 ?_
        obtain ⟨r_16, hg_17, hf⟩ := bd_of hf
        refine g_calliS hC hW (c12_bits l D cy ad  hg_17) (va_cwS 1 hC.2.2.2.2.1 gX12_judged_X12_bits rfl rfl rfl hdS12_bits ⟨Nat.le_of_ble_eq_true rfl, Nat.le_of_ble_eq_true rfl⟩) (Sub.nil _) rfl hl.1 rfl (Nat.le_of_ble_eq_true rfl) dX12_judged_44 ⟨Nat.zero_le _, Nat.zero_le _⟩ (fun H locs hW => ?_)
        refine lv_goto (tgt := 65) hC.1 hC.2.1 dX12_judged_47 (by decide) ?_
        exact t12_judged_65 hC  _ _ _ _ _ _ hf hW (lv_sub hl [] rfl)
    · have hf := ite_t hf hc_8
      refine lv_iload_n hC.1 hC.2.1 dX12_judged_27 rfl (lv_at hl 0 rfl) ?_
      refine lv_goto (tgt := 65) hC.1 hC.2.1 dX12_judged_28 (by decide) ?_
      exact t12_judged_65 hC  _ _ _ _ _ _ hf hW (lv_sub hl [] rfl)
  · have hf := ite_t hf hc_4
    refine lv_bipush (v := (-2)) hC.1 hC.2.1 dX12_judged_14 (by decide) ?_
    obtain rfl := Option.some.inj hf
    exact g_iret hC hW dX12_judged_16
set_option maxRecDepth 100000 in
set_option maxHeartbeats 4000000 in
theorem c12_judged (l : Launch) (D : va_G) (cy : Nat → ClassId) (ad : Nat → Nat) (aM : Nat → Nat) {x1 : Int32} {SM : Ob} {res : Int32 × Ob} (h : f12_judged x1 SM = some res) : GCi l yX12_judged wsX12_judged rm12_judged [.ref (aM 0), .int x1] D cy ad (w12 cy aM SM) (w12 cy aM (res.2)) (res.1) := fun sz => GC.start (own := RX12) (Qc := fun A => QI D cy (w12 cy aM (res.2)) A (res.1)) sz (by decide) rfl rfl (Nat.le_of_ble_eq_true rfl) (fun p e s m below meth c A ls hC hW hl => t12_judged_0 hC _ _ _ _ _ _ h hW (lv_sub hl [0, 1] rfl))
abbrev rm12_spare : Room := { frames := 6, cells := 0, slots := 0, locals := 141 }
theorem hdV12_spare : yX12_spare.cls = RX12 ∧ (yX12_spare.cls ≠ "java/lang/invoke/MethodHandle" ∧ yX12_spare.cls ≠ "java/lang/invoke/VarHandle" ∧ (parseMethodDescriptor yX12_spare.desc).map (fun d => d.parameters.length) = some 0) := by decide +kernel
theorem hin12_spare_12 : ∀ x ∈ u_ws RX12 TX12 39, x ∈ wsX12_spare := fun _ h => List.mem_cons_of_mem _ (List.mem_append_right _ h)
set_option maxRecDepth 100000 in
set_option maxHeartbeats 4000000 in
theorem t12_spare_60 (hC : Cx p s m args meth c cX12_spare 4 wsX12_spare RX12 (some .int)) {k24 : Int32 → Int32 → Int32 → Ob → Option (Int32 × Ob)} (hk24 : ∀ (x1 : Int32) (x2 : Int32) (x3 : Int32) (SM : Ob) (res : Int32 × Ob) (H : Heap) (locs : List Loc) (ls : Array Slot), k24 x1 x2 x3 SM = some res → GW D cy ad (w12 cy aM SM) A s H locs → lv_has ls 4 [(0, .ref (aM 0)), (1, .int x1), (2, .int x2), (3, .int x3)] → W p l e rm12_spare s m args below meth c H locs 0 0 (MQ below (QI D cy (w12 cy aM (res.2)) A (res.1)) args s 0 0 A) (F0 m 24 ls [])) : ∀ (x1 : Int32) (x3 : Int32) (z0 : Int32) (z1 : Int32) (SM : Ob) (res : Int32 × Ob) (H : Heap) (locs : List Loc) (ls : Array Slot), f12_spare_60 k24 x1 x3 z0 z1 SM = some res → GW D cy ad (w12 cy aM SM) A s H locs → lv_has ls 4 [(0, .ref (aM 0)), (1, .int x1), (3, .int x3)] → W p l e rm12_spare s m args below meth c H locs 0 0 (MQ below (QI D cy (w12 cy aM (res.2)) A (res.1)) args s 0 0 A) (F0 m 60 ls [.int z1, .int z0]) := by
  intro x1 x3 z0 z1 SM res H locs ls hf hW hl
  unfold f12_spare_60 at hf
  refine lv_ior hC.1 hC.2.1 dX12_spare_60 ?_
  refine lv_topi (fun x2_1 ex2_1 => ?_)
  have hf := lt_nm hf ex2_1
  refine lv_istore_n (lv' := [(2, .int x2_1), (0, .ref (aM 0)), (1, .int x1), (3, .int x3)]) hC.1 hC.2.1 dX12_spare_61 rfl hl (by decide) rfl (fun ls hl => ?_)
  obtain ⟨x3_2, ex3_2⟩ : ∃ y : Int32, y = x3 + 1 := ⟨_, rfl⟩
  have hf := lt_nm hf ex3_2
  refine lv_iinc (v := x3_2) (lv' := [(3, .int x3_2), (2, .int x2_1), (0, .ref (aM 0)), (1, .int x1)]) hC.1 hC.2.1 dX12_spare_62 hl (k := 3) rfl (by rw [ex3_2]; rfl) (by decide) rfl (fun ls hl => ?_)
  refine lv_goto (tgt := 24) hC.1 hC.2.1 dX12_spare_65 (by decide) ?_
  exact hk24 _ _ _ _ _ _ _ _ hf hW (lv_sub hl [2, 3, 1, 0] rfl)
set_option maxRecDepth 100000 in
set_option maxHeartbeats 4000000 in
theorem t12_spare_24 (hC : Cx p s m args meth c cX12_spare 4 wsX12_spare RX12 (some .int)) : ∀ n : Nat, ∀ (x1 : Int32) (x2 : Int32) (x3 : Int32) (SM : Ob) (res : Int32 × Ob) (H : Heap) (locs : List Loc) (ls : Array Slot), f12_spare_24 n x1 x2 x3 SM = some res → GW D cy ad (w12 cy aM SM) A s H locs → lv_has ls 4 [(0, .ref (aM 0)), (1, .int x1), (2, .int x2), (3, .int x3)] → W p l e rm12_spare s m args below meth c H locs 0 0 (MQ below (QI D cy (w12 cy aM (res.2)) A (res.1)) args s 0 0 A) (F0 m 24 ls []) := by
  intro n
  induction n with
  | zero =>
    intro _ _ _ _ _ _ _ _ hf _ _
    exact nomatch (show (none : Option (Int32 × Ob)) = some _ from hf)
  | succ n ih =>
    intro x1 x2 x3 SM res H locs ls hf hW hl
    rw [f12_spare_24] at hf
    refine lv_iload_n hC.1 hC.2.1 dX12_spare_24 rfl (lv_at hl 3 rfl) ?_
    refine lv_aload_n hC.1 hC.2.1 dX12_spare_25 rfl (lv_at hl 0 rfl) ?_
    refine g_get hC hW hin12_spare_12 0 rfl rfl 22 (by decide) 3 rfl rfl dX12_spare_26 ?_
    refine lv_iconst (v := 0) hC.1 hC.2.1 dX12_spare_29 (by decide) ?_
    obtain ⟨hi_1, hf⟩ := ck_of hf
    refine g_iald hC hW 13 rfl hi_1 dX12_spare_30 ?_
    refine lv_icmp_ge (tgt := 68) hC.1 hC.2.1 dX12_spare_31 (by decide) (fun hc_2 => ?_) (fun hc_2 => ?_)
    · have hf := ite_t hf hc_2
      refine lv_iload_n hC.1 hC.2.1 dX12_spare_68 rfl (lv_at hl 2 rfl) ?_
      obtain rfl := Option.some.inj hf
      exact g_iret hC hW dX12_spare_69
    · have hf := ite_f hf hc_2
      refine lv_aload_n hC.1 hC.2.1 dX12_spare_34 rfl (lv_at hl 0 rfl) ?_
      refine lv_iload_n hC.1 hC.2.1 dX12_spare_35 rfl (lv_at hl 3 rfl) ?_
      obtain ⟨r_3, hg_4, hf⟩ := bd_of hf
      refine g_calliV hC hW (c12_runs l D cy ad aM hg_4) (cwV 1 hC.2.2.2.2.1 gX12_spare_X12_runs rfl rfl rfl hdV12_runs ⟨Nat.le_of_ble_eq_true rfl, Nat.le_of_ble_eq_true rfl⟩) (Sub.all _ _) 0 11 rfl rfl rfl rfl hl.1 rfl (Nat.le_of_ble_eq_true rfl) dX12_spare_36 ⟨Nat.zero_le _, Nat.zero_le _⟩ (fun H locs hW => ?_)
      refine lv_pop hC.1 hC.2.1 dX12_spare_39 rfl ?_
      refine lv_iload_n hC.1 hC.2.1 dX12_spare_40 rfl (lv_at hl 2 rfl) ?_
      refine lv_aload_n hC.1 hC.2.1 dX12_spare_41 rfl (lv_at hl 0 rfl) ?_
      refine g_get hC hW hin12_spare_12 0 rfl rfl 25 (by decide) 2 rfl rfl dX12_spare_42 ?_
      refine lv_sipush (v := 630) hC.1 hC.2.1 dX12_spare_45 (by decide) ?_
      obtain ⟨hi_5, hf⟩ := ck_of hf
      refine g_iald hC hW 16 rfl hi_5 dX12_spare_48 ?_
      refine lv_iload_n hC.1 hC.2.1 dX12_spare_49 rfl (lv_at hl 1 rfl) ?_
      refine lv_icmp_ne (tgt := 59) hC.1 hC.2.1 dX12_spare_50 (by decide) (fun hc_6 => ?_) (fun hc_6 => ?_)
      · have hf := ite_f hf hc_6
        refine lv_iconst (v := 0) hC.1 hC.2.1 dX12_spare_59 (by decide) ?_
        exact t12_spare_60 hC ih  _ _ _ _ _ _ _ _ _ hf hW (lv_sub hl [0, 1, 3] rfl)
      · have hf := ite_t hf hc_6
        refine lv_iconst (v := 1) hC.1 hC.2.1 dX12_spare_53 (by decide) ?_
        refine lv_iload_n hC.1 hC.2.1 dX12_spare_54 rfl (lv_at hl 3 rfl) ?_
        refine lv_ishl hC.1 hC.2.1 dX12_spare_55 ?_
        refine lv_goto (tgt := 60) hC.1 hC.2.1 dX12_spare_56 (by decide) ?_
        exact t12_spare_60 hC ih  _ _ _ _ _ _ _ _ _ hf hW (lv_sub hl [0, 1, 3] rfl)
set_option maxRecDepth 100000 in
set_option maxHeartbeats 4000000 in
theorem t12_spare_0 (hC : Cx p s m args meth c cX12_spare 4 wsX12_spare RX12 (some .int)) : ∀ (SM : Ob) (res : Int32 × Ob) (H : Heap) (locs : List Loc) (ls : Array Slot), f12_spare SM = some res → GW D cy ad (w12 cy aM SM) A s H locs → lv_has ls 4 [(0, .ref (aM 0))] → W p l e rm12_spare s m args below meth c H locs 0 0 (MQ below (QI D cy (w12 cy aM (res.2)) A (res.1)) args s 0 0 A) (F0 m 0 ls []) := by
  intro SM res H locs ls hf hW hl
  unfold f12_spare at hf
  refine lv_aload_n hC.1 hC.2.1 dX12_spare_0 rfl (lv_at hl 0 rfl) ?_
  refine lv_iconst (v := 0) hC.1 hC.2.1 dX12_spare_1 (by decide) ?_
  obtain ⟨SM_1, eSM_1⟩ : ∃ y : Ob, y = oI SM 0 0 := ⟨_, rfl⟩
  have hf := lt_nm hf eSM_1
  refine g_put hC hW hin12_spare_12 tyX12 tyX12_ok nmX12 0 rfl rfl 0 (by decide) 1 rfl rfl rfl rfl (Nat.le_of_ble_eq_true rfl) (w' := w12 cy aM SM_1) (by rw [eSM_1]; rfl) dX12_spare_2 (fun H locs hW => ?_)
  refine lv_aload_n hC.1 hC.2.1 dX12_spare_5 rfl (lv_at hl 0 rfl) ?_
  refine lv_iconst (v := (-1)) hC.1 hC.2.1 dX12_spare_6 (by decide) ?_
  obtain ⟨r_2, hg_3, hf⟩ := bd_of hf
  refine g_calliV hC hW (c12_runs l D cy ad aM hg_3) (cwV 1 hC.2.2.2.2.1 gX12_spare_X12_runs rfl rfl rfl hdV12_runs ⟨Nat.le_of_ble_eq_true rfl, Nat.le_of_ble_eq_true rfl⟩) (Sub.all _ _) 0 11 rfl rfl rfl rfl hl.1 rfl (Nat.le_of_ble_eq_true rfl) dX12_spare_7 ⟨Nat.zero_le _, Nat.zero_le _⟩ (fun H locs hW => ?_)
  refine lv_pop hC.1 hC.2.1 dX12_spare_10 rfl ?_
  refine lv_aload_n hC.1 hC.2.1 dX12_spare_11 rfl (lv_at hl 0 rfl) ?_
  refine g_get hC hW hin12_spare_12 0 rfl rfl 25 (by decide) 2 rfl rfl dX12_spare_12 ?_
  refine lv_sipush (v := 630) hC.1 hC.2.1 dX12_spare_15 (by decide) ?_
  obtain ⟨hi_4, hf⟩ := ck_of hf
  refine g_iald hC hW 16 rfl hi_4 dX12_spare_18 ?_
  refine lv_topi (fun x1_5 ex1_5 => ?_)
  have hf := lt_nm hf ex1_5
  refine lv_istore_n (lv' := [(1, .int x1_5), (0, .ref (aM 0))]) hC.1 hC.2.1 dX12_spare_19 rfl hl (by decide) rfl (fun ls hl => ?_)
  refine lv_iconst (v := 0) hC.1 hC.2.1 dX12_spare_20 (by decide) ?_
  refine lv_istore_n (lv' := [(2, .int 0), (1, .int x1_5), (0, .ref (aM 0))]) hC.1 hC.2.1 dX12_spare_21 rfl hl (by decide) rfl (fun ls hl => ?_)
  refine lv_iconst (v := 0) hC.1 hC.2.1 dX12_spare_22 (by decide) ?_
  refine lv_istore_n (lv' := [(3, .int 0), (2, .int 0), (1, .int x1_5), (0, .ref (aM 0))]) hC.1 hC.2.1 dX12_spare_23 rfl hl (by decide) rfl (fun ls hl => ?_)
  exact t12_spare_24 hC _ _ _ _ _ _ _ _ _ hf hW (lv_sub hl [3, 2, 1, 0] rfl)
set_option maxRecDepth 100000 in
set_option maxHeartbeats 4000000 in
theorem c12_spare (l : Launch) (D : va_G) (cy : Nat → ClassId) (ad : Nat → Nat) (aM : Nat → Nat) {SM : Ob} {res : Int32 × Ob} (h : f12_spare SM = some res) : GCi l yX12_spare wsX12_spare rm12_spare [.ref (aM 0)] D cy ad (w12 cy aM SM) (w12 cy aM (res.2)) (res.1) := fun sz => GC.start (own := RX12) (Qc := fun A => QI D cy (w12 cy aM (res.2)) A (res.1)) sz (by decide) rfl rfl (Nat.le_of_ble_eq_true rfl) (fun p e s m below meth c A ls hC hW hl => t12_spare_0 hC _ _ _ _ _ h hW (lv_sub hl [0] rfl))
abbrev rm12_who : Room := { frames := 2, cells := 0, slots := 0, locals := 43 }
theorem hdV12_who : yX12_who.cls = RX12 ∧ (yX12_who.cls ≠ "java/lang/invoke/MethodHandle" ∧ yX12_who.cls ≠ "java/lang/invoke/VarHandle" ∧ (parseMethodDescriptor yX12_who.desc).map (fun d => d.parameters.length) = some 0) := by decide +kernel
theorem hin12_who_12 : ∀ x ∈ u_ws RX12 TX12 39, x ∈ wsX12_who := fun _ h => List.mem_cons_of_mem _ (List.mem_append_right _ h)
set_option maxRecDepth 100000 in
set_option maxHeartbeats 4000000 in
theorem t12_who_0 (hC : Cx p s m args meth c cX12_who 1 wsX12_who RX12 (some .int)) : ∀ (SM : Ob) (res : Int32 × Ob) (H : Heap) (locs : List Loc) (ls : Array Slot), f12_who SM = some res → GW D cy ad (w12 cy aM SM) A s H locs → lv_has ls 1 [(0, .ref (aM 0))] → W p l e rm12_who s m args below meth c H locs 0 0 (MQ below (QI D cy (w12 cy aM (res.2)) A (res.1)) args s 0 0 A) (F0 m 0 ls []) := by
  intro SM res H locs ls hf hW hl
  unfold f12_who at hf
  refine lv_aload_n hC.1 hC.2.1 dX12_who_0 rfl (lv_at hl 0 rfl) ?_
  refine lv_iconst (v := 0) hC.1 hC.2.1 dX12_who_1 (by decide) ?_
  obtain ⟨SM_1, eSM_1⟩ : ∃ y : Ob, y = oI SM 0 0 := ⟨_, rfl⟩
  have hf := lt_nm hf eSM_1
  refine g_put hC hW hin12_who_12 tyX12 tyX12_ok nmX12 0 rfl rfl 0 (by decide) 1 rfl rfl rfl rfl (Nat.le_of_ble_eq_true rfl) (w' := w12 cy aM SM_1) (by rw [eSM_1]; rfl) dX12_who_2 (fun H locs hW => ?_)
  refine lv_aload_n hC.1 hC.2.1 dX12_who_5 rfl (lv_at hl 0 rfl) ?_
  refine lv_aload_n hC.1 hC.2.1 dX12_who_6 rfl (lv_at hl 0 rfl) ?_
  refine g_get hC hW hin12_who_12 0 rfl rfl 25 (by decide) 2 rfl rfl dX12_who_7 ?_
  refine lv_iconst (v := 0) hC.1 hC.2.1 dX12_who_10 (by decide) ?_
  obtain ⟨hi_2, hf⟩ := ck_of hf
  refine g_iald hC hW 16 rfl hi_2 dX12_who_11 ?_
  obtain ⟨r_3, hg_4, hf⟩ := bd_of hf
  refine g_calliV hC hW (c12_whoIn l D cy ad aM hg_4) (cwV 1 hC.2.2.2.2.1 gX12_who_X12_whoIn rfl rfl rfl hdV12_whoIn ⟨Nat.le_of_ble_eq_true rfl, Nat.le_of_ble_eq_true rfl⟩) (Sub.all _ _) 0 11 rfl rfl rfl rfl hl.1 rfl (Nat.le_of_ble_eq_true rfl) dX12_who_12 ⟨Nat.zero_le _, Nat.zero_le _⟩ (fun H locs hW => ?_)
  obtain rfl := Option.some.inj hf
  exact g_iret hC hW dX12_who_15
set_option maxRecDepth 100000 in
set_option maxHeartbeats 4000000 in
theorem c12_who (l : Launch) (D : va_G) (cy : Nat → ClassId) (ad : Nat → Nat) (aM : Nat → Nat) {SM : Ob} {res : Int32 × Ob} (h : f12_who SM = some res) : GCi l yX12_who wsX12_who rm12_who [.ref (aM 0)] D cy ad (w12 cy aM SM) (w12 cy aM (res.2)) (res.1) := fun sz => GC.start (own := RX12) (Qc := fun A => QI D cy (w12 cy aM (res.2)) A (res.1)) sz (by decide) rfl rfl (Nat.le_of_ble_eq_true rfl) (fun p e s m below meth c A ls hC hW hl => t12_who_0 hC _ _ _ _ _ h hW (lv_sub hl [0] rfl))
end
