/-! laid by program: functions, walks and contracts of 0_open, 0_copy, 0_remember, 0_narrow, 0_endNight, 0_stepBack, 0_hearAlso, 0_inAllNights, 0_firstNightWithNone -/
theorem dX0_open_0 : decode cX0_open 0 = .ok (.aload_n 0, 1) := by decide +kernel
theorem dX0_open_1 : decode cX0_open 1 = .ok (.iload_n 1, 1) := by decide +kernel
theorem dX0_open_2 : decode cX0_open 2 = .ok (.putfield 28, 3) := by decide +kernel
theorem dX0_open_5 : decode cX0_open 5 = .ok (.aload_n 0, 1) := by decide +kernel
theorem dX0_open_6 : decode cX0_open 6 = .ok (.iconst 0, 1) := by decide +kernel
theorem dX0_open_7 : decode cX0_open 7 = .ok (.putfield 32, 3) := by decide +kernel
theorem dX0_open_10 : decode cX0_open 10 = .ok (.aload_n 0, 1) := by decide +kernel
theorem dX0_open_11 : decode cX0_open 11 = .ok (.iconst 0, 1) := by decide +kernel
theorem dX0_open_12 : decode cX0_open 12 = .ok (.putfield 35, 3) := by decide +kernel
theorem dX0_open_15 : decode cX0_open 15 = .ok (.aload_n 0, 1) := by decide +kernel
theorem dX0_open_16 : decode cX0_open 16 = .ok (.iconst 0, 1) := by decide +kernel
theorem dX0_open_17 : decode cX0_open 17 = .ok (.putfield 38, 3) := by decide +kernel
theorem dX0_open_20 : decode cX0_open 20 = .ok (.return_, 1) := by decide +kernel
set_option maxRecDepth 20000 in
theorem gX0_copy_X0_open : GoodIn wsX0_copy (wsV RX0 41 RX0 yX0_open wsX0_open) := goodIn_r _ [7, 8, 9, 10, 11, 1, 2, 4, 12, 13, 14, 15, 16, 17, 18, 19, 20, 21] rfl (by decide +kernel)
theorem dX0_copy_0 : decode cX0_copy 0 = .ok (.aload_n 0, 1) := by decide +kernel
theorem dX0_copy_1 : decode cX0_copy 1 = .ok (.aload_n 1, 1) := by decide +kernel
theorem dX0_copy_2 : decode cX0_copy 2 = .ok (.getfield 28, 3) := by decide +kernel
theorem dX0_copy_5 : decode cX0_copy 5 = .ok (.invokevirtual 41, 3) := by decide +kernel
theorem dX0_copy_8 : decode cX0_copy 8 = .ok (.aload_n 0, 1) := by decide +kernel
theorem dX0_copy_9 : decode cX0_copy 9 = .ok (.aload_n 1, 1) := by decide +kernel
theorem dX0_copy_10 : decode cX0_copy 10 = .ok (.getfield 32, 3) := by decide +kernel
theorem dX0_copy_13 : decode cX0_copy 13 = .ok (.putfield 32, 3) := by decide +kernel
theorem dX0_copy_16 : decode cX0_copy 16 = .ok (.iconst 0, 1) := by decide +kernel
theorem dX0_copy_17 : decode cX0_copy 17 = .ok (.istore_n 2, 1) := by decide +kernel
theorem dX0_copy_18 : decode cX0_copy 18 = .ok (.iload_n 2, 1) := by decide +kernel
theorem dX0_copy_19 : decode cX0_copy 19 = .ok (.bipush 10, 2) := by decide +kernel
theorem dX0_copy_21 : decode cX0_copy 21 = .ok (.if_icmp .ge 21, 3) := by decide +kernel
theorem dX0_copy_24 : decode cX0_copy 24 = .ok (.aload_n 0, 1) := by decide +kernel
theorem dX0_copy_25 : decode cX0_copy 25 = .ok (.getfield 9, 3) := by decide +kernel
theorem dX0_copy_28 : decode cX0_copy 28 = .ok (.iload_n 2, 1) := by decide +kernel
theorem dX0_copy_29 : decode cX0_copy 29 = .ok (.aload_n 1, 1) := by decide +kernel
theorem dX0_copy_30 : decode cX0_copy 30 = .ok (.getfield 9, 3) := by decide +kernel
theorem dX0_copy_33 : decode cX0_copy 33 = .ok (.iload_n 2, 1) := by decide +kernel
theorem dX0_copy_34 : decode cX0_copy 34 = .ok (.iaload, 1) := by decide +kernel
theorem dX0_copy_35 : decode cX0_copy 35 = .ok (.iastore, 1) := by decide +kernel
theorem dX0_copy_36 : decode cX0_copy 36 = .ok (.iinc 2 1, 3) := by decide +kernel
theorem dX0_copy_39 : decode cX0_copy 39 = .ok (.goto (-21), 3) := by decide +kernel
theorem dX0_copy_42 : decode cX0_copy 42 = .ok (.aload_n 0, 1) := by decide +kernel
theorem dX0_copy_43 : decode cX0_copy 43 = .ok (.aload_n 1, 1) := by decide +kernel
theorem dX0_copy_44 : decode cX0_copy 44 = .ok (.getfield 35, 3) := by decide +kernel
theorem dX0_copy_47 : decode cX0_copy 47 = .ok (.putfield 35, 3) := by decide +kernel
theorem dX0_copy_50 : decode cX0_copy 50 = .ok (.iconst 0, 1) := by decide +kernel
theorem dX0_copy_51 : decode cX0_copy 51 = .ok (.istore_n 2, 1) := by decide +kernel
theorem dX0_copy_52 : decode cX0_copy 52 = .ok (.iload_n 2, 1) := by decide +kernel
theorem dX0_copy_53 : decode cX0_copy 53 = .ok (.bipush 8, 2) := by decide +kernel
theorem dX0_copy_55 : decode cX0_copy 55 = .ok (.if_icmp .ge 33, 3) := by decide +kernel
theorem dX0_copy_58 : decode cX0_copy 58 = .ok (.aload_n 0, 1) := by decide +kernel
theorem dX0_copy_59 : decode cX0_copy 59 = .ok (.getfield 15, 3) := by decide +kernel
theorem dX0_copy_62 : decode cX0_copy 62 = .ok (.iload_n 2, 1) := by decide +kernel
theorem dX0_copy_63 : decode cX0_copy 63 = .ok (.aload_n 1, 1) := by decide +kernel
theorem dX0_copy_64 : decode cX0_copy 64 = .ok (.getfield 15, 3) := by decide +kernel
theorem dX0_copy_67 : decode cX0_copy 67 = .ok (.iload_n 2, 1) := by decide +kernel
theorem dX0_copy_68 : decode cX0_copy 68 = .ok (.iaload, 1) := by decide +kernel
theorem dX0_copy_69 : decode cX0_copy 69 = .ok (.iastore, 1) := by decide +kernel
theorem dX0_copy_70 : decode cX0_copy 70 = .ok (.aload_n 0, 1) := by decide +kernel
theorem dX0_copy_71 : decode cX0_copy 71 = .ok (.getfield 18, 3) := by decide +kernel
theorem dX0_copy_74 : decode cX0_copy 74 = .ok (.iload_n 2, 1) := by decide +kernel
theorem dX0_copy_75 : decode cX0_copy 75 = .ok (.aload_n 1, 1) := by decide +kernel
theorem dX0_copy_76 : decode cX0_copy 76 = .ok (.getfield 18, 3) := by decide +kernel
theorem dX0_copy_79 : decode cX0_copy 79 = .ok (.iload_n 2, 1) := by decide +kernel
theorem dX0_copy_80 : decode cX0_copy 80 = .ok (.baload, 1) := by decide +kernel
theorem dX0_copy_81 : decode cX0_copy 81 = .ok (.bastore, 1) := by decide +kernel
theorem dX0_copy_82 : decode cX0_copy 82 = .ok (.iinc 2 1, 3) := by decide +kernel
theorem dX0_copy_85 : decode cX0_copy 85 = .ok (.goto (-33), 3) := by decide +kernel
theorem dX0_copy_88 : decode cX0_copy 88 = .ok (.return_, 1) := by decide +kernel
theorem dX0_remember_0 : decode cX0_remember 0 = .ok (.aload_n 0, 1) := by decide +kernel
theorem dX0_remember_1 : decode cX0_remember 1 = .ok (.getfield 38, 3) := by decide +kernel
theorem dX0_remember_4 : decode cX0_remember 4 = .ok (.bipush 16, 2) := by decide +kernel
theorem dX0_remember_6 : decode cX0_remember 6 = .ok (.if_icmp .lt 51, 3) := by decide +kernel
theorem dX0_remember_9 : decode cX0_remember 9 = .ok (.iconst 1, 1) := by decide +kernel
theorem dX0_remember_10 : decode cX0_remember 10 = .ok (.istore_n 1, 1) := by decide +kernel
theorem dX0_remember_11 : decode cX0_remember 11 = .ok (.iload_n 1, 1) := by decide +kernel
theorem dX0_remember_12 : decode cX0_remember 12 = .ok (.bipush 16, 2) := by decide +kernel
theorem dX0_remember_14 : decode cX0_remember 14 = .ok (.if_icmp .ge 37, 3) := by decide +kernel
theorem dX0_remember_17 : decode cX0_remember 17 = .ok (.aload_n 0, 1) := by decide +kernel
theorem dX0_remember_18 : decode cX0_remember 18 = .ok (.getfield 22, 3) := by decide +kernel
theorem dX0_remember_21 : decode cX0_remember 21 = .ok (.iload_n 1, 1) := by decide +kernel
theorem dX0_remember_22 : decode cX0_remember 22 = .ok (.iconst 1, 1) := by decide +kernel
theorem dX0_remember_23 : decode cX0_remember 23 = .ok (.isub, 1) := by decide +kernel
theorem dX0_remember_24 : decode cX0_remember 24 = .ok (.aload_n 0, 1) := by decide +kernel
theorem dX0_remember_25 : decode cX0_remember 25 = .ok (.getfield 22, 3) := by decide +kernel
theorem dX0_remember_28 : decode cX0_remember 28 = .ok (.iload_n 1, 1) := by decide +kernel
theorem dX0_remember_29 : decode cX0_remember 29 = .ok (.iaload, 1) := by decide +kernel
theorem dX0_remember_30 : decode cX0_remember 30 = .ok (.iastore, 1) := by decide +kernel
theorem dX0_remember_31 : decode cX0_remember 31 = .ok (.aload_n 0, 1) := by decide +kernel
theorem dX0_remember_32 : decode cX0_remember 32 = .ok (.getfield 25, 3) := by decide +kernel
theorem dX0_remember_35 : decode cX0_remember 35 = .ok (.iload_n 1, 1) := by decide +kernel
theorem dX0_remember_36 : decode cX0_remember 36 = .ok (.iconst 1, 1) := by decide +kernel
theorem dX0_remember_37 : decode cX0_remember 37 = .ok (.isub, 1) := by decide +kernel
theorem dX0_remember_38 : decode cX0_remember 38 = .ok (.aload_n 0, 1) := by decide +kernel
theorem dX0_remember_39 : decode cX0_remember 39 = .ok (.getfield 25, 3) := by decide +kernel
theorem dX0_remember_42 : decode cX0_remember 42 = .ok (.iload_n 1, 1) := by decide +kernel
theorem dX0_remember_43 : decode cX0_remember 43 = .ok (.iaload, 1) := by decide +kernel
theorem dX0_remember_44 : decode cX0_remember 44 = .ok (.iastore, 1) := by decide +kernel
theorem dX0_remember_45 : decode cX0_remember 45 = .ok (.iinc 1 1, 3) := by decide +kernel
theorem dX0_remember_48 : decode cX0_remember 48 = .ok (.goto (-37), 3) := by decide +kernel
theorem dX0_remember_51 : decode cX0_remember 51 = .ok (.aload_n 0, 1) := by decide +kernel
theorem dX0_remember_52 : decode cX0_remember 52 = .ok (.bipush 15, 2) := by decide +kernel
theorem dX0_remember_54 : decode cX0_remember 54 = .ok (.putfield 38, 3) := by decide +kernel
theorem dX0_remember_57 : decode cX0_remember 57 = .ok (.aload_n 0, 1) := by decide +kernel
theorem dX0_remember_58 : decode cX0_remember 58 = .ok (.getfield 22, 3) := by decide +kernel
theorem dX0_remember_61 : decode cX0_remember 61 = .ok (.aload_n 0, 1) := by decide +kernel
theorem dX0_remember_62 : decode cX0_remember 62 = .ok (.getfield 38, 3) := by decide +kernel
theorem dX0_remember_65 : decode cX0_remember 65 = .ok (.aload_n 0, 1) := by decide +kernel
theorem dX0_remember_66 : decode cX0_remember 66 = .ok (.getfield 28, 3) := by decide +kernel
theorem dX0_remember_69 : decode cX0_remember 69 = .ok (.iastore, 1) := by decide +kernel
theorem dX0_remember_70 : decode cX0_remember 70 = .ok (.aload_n 0, 1) := by decide +kernel
theorem dX0_remember_71 : decode cX0_remember 71 = .ok (.getfield 25, 3) := by decide +kernel
theorem dX0_remember_74 : decode cX0_remember 74 = .ok (.aload_n 0, 1) := by decide +kernel
theorem dX0_remember_75 : decode cX0_remember 75 = .ok (.getfield 38, 3) := by decide +kernel
theorem dX0_remember_78 : decode cX0_remember 78 = .ok (.aload_n 0, 1) := by decide +kernel
theorem dX0_remember_79 : decode cX0_remember 79 = .ok (.getfield 32, 3) := by decide +kernel
theorem dX0_remember_82 : decode cX0_remember 82 = .ok (.iastore, 1) := by decide +kernel
theorem dX0_remember_83 : decode cX0_remember 83 = .ok (.aload_n 0, 1) := by decide +kernel
theorem dX0_remember_84 : decode cX0_remember 84 = .ok (.dup, 1) := by decide +kernel
theorem dX0_remember_85 : decode cX0_remember 85 = .ok (.getfield 38, 3) := by decide +kernel
theorem dX0_remember_88 : decode cX0_remember 88 = .ok (.iconst 1, 1) := by decide +kernel
theorem dX0_remember_89 : decode cX0_remember 89 = .ok (.iadd, 1) := by decide +kernel
theorem dX0_remember_90 : decode cX0_remember 90 = .ok (.putfield 38, 3) := by decide +kernel
theorem dX0_remember_93 : decode cX0_remember 93 = .ok (.return_, 1) := by decide +kernel
set_option maxRecDepth 20000 in
theorem gX0_narrow_X0_remember : GoodIn wsX0_narrow (wsV RX0 45 RX0 yX0_remember wsX0_remember) := goodIn_r _ [2, 3, 4, 5, 6, 7, 8, 9, 1, 10, 11, 12, 13, 14, 15, 16, 17, 18, 19] rfl (by decide +kernel)
theorem dX0_narrow_0 : decode cX0_narrow 0 = .ok (.aload_n 0, 1) := by decide +kernel
theorem dX0_narrow_1 : decode cX0_narrow 1 = .ok (.getfield 28, 3) := by decide +kernel
theorem dX0_narrow_4 : decode cX0_narrow 4 = .ok (.iload_n 1, 1) := by decide +kernel
theorem dX0_narrow_5 : decode cX0_narrow 5 = .ok (.iand, 1) := by decide +kernel
theorem dX0_narrow_6 : decode cX0_narrow 6 = .ok (.istore_n 2, 1) := by decide +kernel
theorem dX0_narrow_7 : decode cX0_narrow 7 = .ok (.iload_n 2, 1) := by decide +kernel
theorem dX0_narrow_8 : decode cX0_narrow 8 = .ok (.ifCond .ne 5, 3) := by decide +kernel
theorem dX0_narrow_11 : decode cX0_narrow 11 = .ok (.iconst 0, 1) := by decide +kernel
theorem dX0_narrow_12 : decode cX0_narrow 12 = .ok (.ireturn, 1) := by decide +kernel
theorem dX0_narrow_13 : decode cX0_narrow 13 = .ok (.aload_n 0, 1) := by decide +kernel
theorem dX0_narrow_14 : decode cX0_narrow 14 = .ok (.invokevirtual 45, 3) := by decide +kernel
theorem dX0_narrow_17 : decode cX0_narrow 17 = .ok (.aload_n 0, 1) := by decide +kernel
theorem dX0_narrow_18 : decode cX0_narrow 18 = .ok (.iload_n 2, 1) := by decide +kernel
theorem dX0_narrow_19 : decode cX0_narrow 19 = .ok (.putfield 28, 3) := by decide +kernel
theorem dX0_narrow_22 : decode cX0_narrow 22 = .ok (.iconst 1, 1) := by decide +kernel
theorem dX0_narrow_23 : decode cX0_narrow 23 = .ok (.ireturn, 1) := by decide +kernel
set_option maxRecDepth 20000 in
theorem gX0_endNight_X0_remember : GoodIn wsX0_endNight (wsV RX0 45 RX0 yX0_remember wsX0_remember) := goodIn_r _ [4, 5, 6, 7, 8, 9, 10, 11, 3, 1, 12, 13, 14, 15, 16, 17, 18, 19, 20] rfl (by decide +kernel)
theorem dX0_endNight_0 : decode cX0_endNight 0 = .ok (.aload_n 0, 1) := by decide +kernel
theorem dX0_endNight_1 : decode cX0_endNight 1 = .ok (.getfield 32, 3) := by decide +kernel
theorem dX0_endNight_4 : decode cX0_endNight 4 = .ok (.bipush 10, 2) := by decide +kernel
theorem dX0_endNight_6 : decode cX0_endNight 6 = .ok (.if_icmp .ge 32, 3) := by decide +kernel
theorem dX0_endNight_9 : decode cX0_endNight 9 = .ok (.aload_n 0, 1) := by decide +kernel
theorem dX0_endNight_10 : decode cX0_endNight 10 = .ok (.invokevirtual 45, 3) := by decide +kernel
theorem dX0_endNight_13 : decode cX0_endNight 13 = .ok (.aload_n 0, 1) := by decide +kernel
theorem dX0_endNight_14 : decode cX0_endNight 14 = .ok (.getfield 9, 3) := by decide +kernel
theorem dX0_endNight_17 : decode cX0_endNight 17 = .ok (.aload_n 0, 1) := by decide +kernel
theorem dX0_endNight_18 : decode cX0_endNight 18 = .ok (.getfield 32, 3) := by decide +kernel
theorem dX0_endNight_21 : decode cX0_endNight 21 = .ok (.iload_n 1, 1) := by decide +kernel
theorem dX0_endNight_22 : decode cX0_endNight 22 = .ok (.iastore, 1) := by decide +kernel
theorem dX0_endNight_23 : decode cX0_endNight 23 = .ok (.aload_n 0, 1) := by decide +kernel
theorem dX0_endNight_24 : decode cX0_endNight 24 = .ok (.dup, 1) := by decide +kernel
theorem dX0_endNight_25 : decode cX0_endNight 25 = .ok (.getfield 32, 3) := by decide +kernel
theorem dX0_endNight_28 : decode cX0_endNight 28 = .ok (.iconst 1, 1) := by decide +kernel
theorem dX0_endNight_29 : decode cX0_endNight 29 = .ok (.iadd, 1) := by decide +kernel
theorem dX0_endNight_30 : decode cX0_endNight 30 = .ok (.putfield 32, 3) := by decide +kernel
theorem dX0_endNight_33 : decode cX0_endNight 33 = .ok (.aload_n 0, 1) := by decide +kernel
theorem dX0_endNight_34 : decode cX0_endNight 34 = .ok (.iload_n 2, 1) := by decide +kernel
theorem dX0_endNight_35 : decode cX0_endNight 35 = .ok (.putfield 28, 3) := by decide +kernel
theorem dX0_endNight_38 : decode cX0_endNight 38 = .ok (.return_, 1) := by decide +kernel
theorem dX0_stepBack_0 : decode cX0_stepBack 0 = .ok (.aload_n 0, 1) := by decide +kernel
theorem dX0_stepBack_1 : decode cX0_stepBack 1 = .ok (.getfield 38, 3) := by decide +kernel
theorem dX0_stepBack_4 : decode cX0_stepBack 4 = .ok (.ifCond .gt 5, 3) := by decide +kernel
theorem dX0_stepBack_7 : decode cX0_stepBack 7 = .ok (.iconst 0, 1) := by decide +kernel
theorem dX0_stepBack_8 : decode cX0_stepBack 8 = .ok (.ireturn, 1) := by decide +kernel
theorem dX0_stepBack_9 : decode cX0_stepBack 9 = .ok (.aload_n 0, 1) := by decide +kernel
theorem dX0_stepBack_10 : decode cX0_stepBack 10 = .ok (.dup, 1) := by decide +kernel
theorem dX0_stepBack_11 : decode cX0_stepBack 11 = .ok (.getfield 38, 3) := by decide +kernel
theorem dX0_stepBack_14 : decode cX0_stepBack 14 = .ok (.iconst 1, 1) := by decide +kernel
theorem dX0_stepBack_15 : decode cX0_stepBack 15 = .ok (.isub, 1) := by decide +kernel
theorem dX0_stepBack_16 : decode cX0_stepBack 16 = .ok (.putfield 38, 3) := by decide +kernel
theorem dX0_stepBack_19 : decode cX0_stepBack 19 = .ok (.aload_n 0, 1) := by decide +kernel
theorem dX0_stepBack_20 : decode cX0_stepBack 20 = .ok (.aload_n 0, 1) := by decide +kernel
theorem dX0_stepBack_21 : decode cX0_stepBack 21 = .ok (.getfield 22, 3) := by decide +kernel
theorem dX0_stepBack_24 : decode cX0_stepBack 24 = .ok (.aload_n 0, 1) := by decide +kernel
theorem dX0_stepBack_25 : decode cX0_stepBack 25 = .ok (.getfield 38, 3) := by decide +kernel
theorem dX0_stepBack_28 : decode cX0_stepBack 28 = .ok (.iaload, 1) := by decide +kernel
theorem dX0_stepBack_29 : decode cX0_stepBack 29 = .ok (.putfield 28, 3) := by decide +kernel
theorem dX0_stepBack_32 : decode cX0_stepBack 32 = .ok (.aload_n 0, 1) := by decide +kernel
theorem dX0_stepBack_33 : decode cX0_stepBack 33 = .ok (.aload_n 0, 1) := by decide +kernel
theorem dX0_stepBack_34 : decode cX0_stepBack 34 = .ok (.getfield 25, 3) := by decide +kernel
theorem dX0_stepBack_37 : decode cX0_stepBack 37 = .ok (.aload_n 0, 1) := by decide +kernel
theorem dX0_stepBack_38 : decode cX0_stepBack 38 = .ok (.getfield 38, 3) := by decide +kernel
theorem dX0_stepBack_41 : decode cX0_stepBack 41 = .ok (.iaload, 1) := by decide +kernel
theorem dX0_stepBack_42 : decode cX0_stepBack 42 = .ok (.putfield 32, 3) := by decide +kernel
theorem dX0_stepBack_45 : decode cX0_stepBack 45 = .ok (.iconst 1, 1) := by decide +kernel
theorem dX0_stepBack_46 : decode cX0_stepBack 46 = .ok (.ireturn, 1) := by decide +kernel
theorem dX0_hearAlso_0 : decode cX0_hearAlso 0 = .ok (.aload_n 0, 1) := by decide +kernel
theorem dX0_hearAlso_1 : decode cX0_hearAlso 1 = .ok (.getfield 35, 3) := by decide +kernel
theorem dX0_hearAlso_4 : decode cX0_hearAlso 4 = .ok (.bipush 8, 2) := by decide +kernel
theorem dX0_hearAlso_6 : decode cX0_hearAlso 6 = .ok (.if_icmp .lt 5, 3) := by decide +kernel
theorem dX0_hearAlso_9 : decode cX0_hearAlso 9 = .ok (.iconst 0, 1) := by decide +kernel
theorem dX0_hearAlso_10 : decode cX0_hearAlso 10 = .ok (.ireturn, 1) := by decide +kernel
theorem dX0_hearAlso_11 : decode cX0_hearAlso 11 = .ok (.aload_n 0, 1) := by decide +kernel
theorem dX0_hearAlso_12 : decode cX0_hearAlso 12 = .ok (.getfield 15, 3) := by decide +kernel
theorem dX0_hearAlso_15 : decode cX0_hearAlso 15 = .ok (.aload_n 0, 1) := by decide +kernel
theorem dX0_hearAlso_16 : decode cX0_hearAlso 16 = .ok (.getfield 35, 3) := by decide +kernel
theorem dX0_hearAlso_19 : decode cX0_hearAlso 19 = .ok (.iload_n 1, 1) := by decide +kernel
theorem dX0_hearAlso_20 : decode cX0_hearAlso 20 = .ok (.iastore, 1) := by decide +kernel
theorem dX0_hearAlso_21 : decode cX0_hearAlso 21 = .ok (.aload_n 0, 1) := by decide +kernel
theorem dX0_hearAlso_22 : decode cX0_hearAlso 22 = .ok (.getfield 18, 3) := by decide +kernel
theorem dX0_hearAlso_25 : decode cX0_hearAlso 25 = .ok (.aload_n 0, 1) := by decide +kernel
theorem dX0_hearAlso_26 : decode cX0_hearAlso 26 = .ok (.getfield 35, 3) := by decide +kernel
theorem dX0_hearAlso_29 : decode cX0_hearAlso 29 = .ok (.iload_n 2, 1) := by decide +kernel
theorem dX0_hearAlso_30 : decode cX0_hearAlso 30 = .ok (.bastore, 1) := by decide +kernel
theorem dX0_hearAlso_31 : decode cX0_hearAlso 31 = .ok (.aload_n 0, 1) := by decide +kernel
theorem dX0_hearAlso_32 : decode cX0_hearAlso 32 = .ok (.dup, 1) := by decide +kernel
theorem dX0_hearAlso_33 : decode cX0_hearAlso 33 = .ok (.getfield 35, 3) := by decide +kernel
theorem dX0_hearAlso_36 : decode cX0_hearAlso 36 = .ok (.iconst 1, 1) := by decide +kernel
theorem dX0_hearAlso_37 : decode cX0_hearAlso 37 = .ok (.iadd, 1) := by decide +kernel
theorem dX0_hearAlso_38 : decode cX0_hearAlso 38 = .ok (.putfield 35, 3) := by decide +kernel
theorem dX0_hearAlso_41 : decode cX0_hearAlso 41 = .ok (.iconst 1, 1) := by decide +kernel
theorem dX0_hearAlso_42 : decode cX0_hearAlso 42 = .ok (.ireturn, 1) := by decide +kernel
theorem dX0_inAllNights_0 : decode cX0_inAllNights 0 = .ok (.iload_n 1, 1) := by decide +kernel
theorem dX0_inAllNights_1 : decode cX0_inAllNights 1 = .ok (.istore_n 2, 1) := by decide +kernel
theorem dX0_inAllNights_2 : decode cX0_inAllNights 2 = .ok (.iconst 0, 1) := by decide +kernel
theorem dX0_inAllNights_3 : decode cX0_inAllNights 3 = .ok (.istore_n 3, 1) := by decide +kernel
theorem dX0_inAllNights_4 : decode cX0_inAllNights 4 = .ok (.iload_n 3, 1) := by decide +kernel
theorem dX0_inAllNights_5 : decode cX0_inAllNights 5 = .ok (.aload_n 0, 1) := by decide +kernel
theorem dX0_inAllNights_6 : decode cX0_inAllNights 6 = .ok (.getfield 32, 3) := by decide +kernel
theorem dX0_inAllNights_9 : decode cX0_inAllNights 9 = .ok (.if_icmp .ge 18, 3) := by decide +kernel
theorem dX0_inAllNights_12 : decode cX0_inAllNights 12 = .ok (.iload_n 2, 1) := by decide +kernel
theorem dX0_inAllNights_13 : decode cX0_inAllNights 13 = .ok (.aload_n 0, 1) := by decide +kernel
theorem dX0_inAllNights_14 : decode cX0_inAllNights 14 = .ok (.getfield 9, 3) := by decide +kernel
theorem dX0_inAllNights_17 : decode cX0_inAllNights 17 = .ok (.iload_n 3, 1) := by decide +kernel
theorem dX0_inAllNights_18 : decode cX0_inAllNights 18 = .ok (.iaload, 1) := by decide +kernel
theorem dX0_inAllNights_19 : decode cX0_inAllNights 19 = .ok (.iand, 1) := by decide +kernel
theorem dX0_inAllNights_20 : decode cX0_inAllNights 20 = .ok (.istore_n 2, 1) := by decide +kernel
theorem dX0_inAllNights_21 : decode cX0_inAllNights 21 = .ok (.iinc 3 1, 3) := by decide +kernel
theorem dX0_inAllNights_24 : decode cX0_inAllNights 24 = .ok (.goto (-20), 3) := by decide +kernel
theorem dX0_inAllNights_27 : decode cX0_inAllNights 27 = .ok (.iload_n 2, 1) := by decide +kernel
theorem dX0_inAllNights_28 : decode cX0_inAllNights 28 = .ok (.ireturn, 1) := by decide +kernel
theorem dX0_firstNightWithNone_0 : decode cX0_firstNightWithNone 0 = .ok (.sipush 255, 3) := by decide +kernel
theorem dX0_firstNightWithNone_3 : decode cX0_firstNightWithNone 3 = .ok (.istore_n 2, 1) := by decide +kernel
theorem dX0_firstNightWithNone_4 : decode cX0_firstNightWithNone 4 = .ok (.iconst 0, 1) := by decide +kernel
theorem dX0_firstNightWithNone_5 : decode cX0_firstNightWithNone 5 = .ok (.istore_n 3, 1) := by decide +kernel
theorem dX0_firstNightWithNone_6 : decode cX0_firstNightWithNone 6 = .ok (.iload_n 3, 1) := by decide +kernel
theorem dX0_firstNightWithNone_7 : decode cX0_firstNightWithNone 7 = .ok (.aload_n 0, 1) := by decide +kernel
theorem dX0_firstNightWithNone_8 : decode cX0_firstNightWithNone 8 = .ok (.getfield 32, 3) := by decide +kernel
theorem dX0_firstNightWithNone_11 : decode cX0_firstNightWithNone 11 = .ok (.if_icmp .ge 24, 3) := by decide +kernel
theorem dX0_firstNightWithNone_14 : decode cX0_firstNightWithNone 14 = .ok (.iload_n 2, 1) := by decide +kernel
theorem dX0_firstNightWithNone_15 : decode cX0_firstNightWithNone 15 = .ok (.aload_n 0, 1) := by decide +kernel
theorem dX0_firstNightWithNone_16 : decode cX0_firstNightWithNone 16 = .ok (.getfield 9, 3) := by decide +kernel
theorem dX0_firstNightWithNone_19 : decode cX0_firstNightWithNone 19 = .ok (.iload_n 3, 1) := by decide +kernel
theorem dX0_firstNightWithNone_20 : decode cX0_firstNightWithNone 20 = .ok (.iaload, 1) := by decide +kernel
theorem dX0_firstNightWithNone_21 : decode cX0_firstNightWithNone 21 = .ok (.iand, 1) := by decide +kernel
theorem dX0_firstNightWithNone_22 : decode cX0_firstNightWithNone 22 = .ok (.istore_n 2, 1) := by decide +kernel
theorem dX0_firstNightWithNone_23 : decode cX0_firstNightWithNone 23 = .ok (.iload_n 2, 1) := by decide +kernel
theorem dX0_firstNightWithNone_24 : decode cX0_firstNightWithNone 24 = .ok (.ifCond .ne 5, 3) := by decide +kernel
theorem dX0_firstNightWithNone_27 : decode cX0_firstNightWithNone 27 = .ok (.iload_n 3, 1) := by decide +kernel
theorem dX0_firstNightWithNone_28 : decode cX0_firstNightWithNone 28 = .ok (.ireturn, 1) := by decide +kernel
theorem dX0_firstNightWithNone_29 : decode cX0_firstNightWithNone 29 = .ok (.iinc 3 1, 3) := by decide +kernel
theorem dX0_firstNightWithNone_32 : decode cX0_firstNightWithNone 32 = .ok (.goto (-26), 3) := by decide +kernel
theorem dX0_firstNightWithNone_35 : decode cX0_firstNightWithNone 35 = .ok (.iload_n 2, 1) := by decide +kernel
theorem dX0_firstNightWithNone_36 : decode cX0_firstNightWithNone 36 = .ok (.iload_n 1, 1) := by decide +kernel
theorem dX0_firstNightWithNone_37 : decode cX0_firstNightWithNone 37 = .ok (.iand, 1) := by decide +kernel
theorem dX0_firstNightWithNone_38 : decode cX0_firstNightWithNone 38 = .ok (.ifCond .ne 10, 3) := by decide +kernel
theorem dX0_firstNightWithNone_41 : decode cX0_firstNightWithNone 41 = .ok (.aload_n 0, 1) := by decide +kernel
theorem dX0_firstNightWithNone_42 : decode cX0_firstNightWithNone 42 = .ok (.getfield 32, 3) := by decide +kernel
theorem dX0_firstNightWithNone_45 : decode cX0_firstNightWithNone 45 = .ok (.goto 4, 3) := by decide +kernel
theorem dX0_firstNightWithNone_48 : decode cX0_firstNightWithNone 48 = .ok (.iconst (-1), 1) := by decide +kernel
theorem dX0_firstNightWithNone_49 : decode cX0_firstNightWithNone 49 = .ok (.ireturn, 1) := by decide +kernel
section
variable {p : Program} {l : Launch} {e : Env} {s : State} {m : MethodId} {args : Array Value} {below : List Frame} {meth : Method} {c : Code} {D : va_G} {cy : Nat → ClassId} {ad : Nat → Nat} {A : Nat → Prop} {aM aB aO aI aN aT aC aG aR aQ aK aL aX aH aJ aP aU aE0 aE1 aE2 aE3 : Nat → Nat} {gi : Value}
abbrev rm0_open : Room := { frames := 0, cells := 0, slots := 0, locals := 0 }
theorem hdV0_open : yX0_open.cls = RX0 ∧ (yX0_open.cls ≠ "java/lang/invoke/MethodHandle" ∧ yX0_open.cls ≠ "java/lang/invoke/VarHandle" ∧ (parseMethodDescriptor yX0_open.desc).map (fun d => d.parameters.length) = some 1) := by decide +kernel
theorem hin0_open_0 : ∀ x ∈ u_ws RX0 TX0 9, x ∈ wsX0_open := fun _ h => List.mem_cons_of_mem _ (List.mem_append_right _ h)
set_option maxRecDepth 100000 in
set_option maxHeartbeats 4000000 in
theorem t0_open_0 (hC : Cx p s m args meth c cX0_open 2 wsX0_open RX0 none) : ∀ (x1 : Int32) (SB : Ob) (res : Ob) (H : Heap) (locs : List Loc) (ls : Array Slot), f0_open x1 SB = some res → GW D cy ad (w0 cy aB SB) A s H locs → lv_has ls 2 [(0, .ref (aB 0)), (1, .int x1)] → W p l e rm0_open s m args below meth c H locs 0 0 (MQ below (QV D cy (w0 cy aB res) A) args s 0 0 A) (F0 m 0 ls []) := by
  intro x1 SB res H locs ls hf hW hl
  unfold f0_open at hf
  refine lv_aload_n hC.1 hC.2.1 dX0_open_0 rfl (lv_at hl 0 rfl) ?_
  refine lv_iload_n hC.1 hC.2.1 dX0_open_1 rfl (lv_at hl 1 rfl) ?_
  obtain ⟨SB_1, eSB_1⟩ : ∃ y : Ob, y = oI SB 0 x1 := ⟨_, rfl⟩
  have hf := lt_nm hf eSB_1
  refine g_put hC hW hin0_open_0 tyX0 tyX0_ok nmX0 0 rfl rfl 0 (by decide) 1 rfl rfl rfl rfl (Nat.le_of_ble_eq_true rfl) (w' := w0 cy aB SB_1) (by rw [eSB_1]; rfl) dX0_open_2 (fun H locs hW => ?_)
  refine lv_aload_n hC.1 hC.2.1 dX0_open_5 rfl (lv_at hl 0 rfl) ?_
  refine lv_iconst (v := 0) hC.1 hC.2.1 dX0_open_6 (by decide) ?_
  obtain ⟨SB_2, eSB_2⟩ : ∃ y : Ob, y = oI SB_1 1 0 := ⟨_, rfl⟩
  have hf := lt_nm hf eSB_2
  refine g_put hC hW hin0_open_0 tyX0 tyX0_ok nmX0 0 rfl rfl 1 (by decide) 2 rfl rfl rfl rfl (Nat.le_of_ble_eq_true rfl) (w' := w0 cy aB SB_2) (by rw [eSB_2]; rfl) dX0_open_7 (fun H locs hW => ?_)
  refine lv_aload_n hC.1 hC.2.1 dX0_open_10 rfl (lv_at hl 0 rfl) ?_
  refine lv_iconst (v := 0) hC.1 hC.2.1 dX0_open_11 (by decide) ?_
  obtain ⟨SB_3, eSB_3⟩ : ∃ y : Ob, y = oI SB_2 3 0 := ⟨_, rfl⟩
  have hf := lt_nm hf eSB_3
  refine g_put hC hW hin0_open_0 tyX0 tyX0_ok nmX0 0 rfl rfl 3 (by decide) 3 rfl rfl rfl rfl (Nat.le_of_ble_eq_true rfl) (w' := w0 cy aB SB_3) (by rw [eSB_3]; rfl) dX0_open_12 (fun H locs hW => ?_)
  refine lv_aload_n hC.1 hC.2.1 dX0_open_15 rfl (lv_at hl 0 rfl) ?_
  refine lv_iconst (v := 0) hC.1 hC.2.1 dX0_open_16 (by decide) ?_
  obtain ⟨SB_4, eSB_4⟩ : ∃ y : Ob, y = oI SB_3 6 0 := ⟨_, rfl⟩
  have hf := lt_nm hf eSB_4
  refine g_put hC hW hin0_open_0 tyX0 tyX0_ok nmX0 0 rfl rfl 6 (by decide) 4 rfl rfl rfl rfl (Nat.le_of_ble_eq_true rfl) (w' := w0 cy aB SB_4) (by rw [eSB_4]; rfl) dX0_open_17 (fun H locs hW => ?_)
  obtain rfl := Option.some.inj hf
  exact g_vret hC hW dX0_open_20
set_option maxRecDepth 100000 in
set_option maxHeartbeats 4000000 in
theorem c0_open (l : Launch) (D : va_G) (cy : Nat → ClassId) (ad : Nat → Nat) (aB : Nat → Nat) {x1 : Int32} {SB : Ob} {res : Ob} (h : f0_open x1 SB = some res) : GCv l yX0_open wsX0_open rm0_open [.ref (aB 0), .int x1] D cy ad (w0 cy aB SB) (w0 cy aB res) := fun sz => GC.start (own := RX0) (Qc := fun A => QV D cy (w0 cy aB res) A) sz (by decide) rfl rfl (Nat.le_of_ble_eq_true rfl) (fun p e s m below meth c A ls hC hW hl => t0_open_0 hC _ _ _ _ _ _ h hW (lv_sub hl [0, 1] rfl))
abbrev rm0_copy : Room := { frames := 1, cells := 0, slots := 0, locals := 21 }
theorem hdV0_copy : yX0_copy.cls = RX0 ∧ (yX0_copy.cls ≠ "java/lang/invoke/MethodHandle" ∧ yX0_copy.cls ≠ "java/lang/invoke/VarHandle" ∧ (parseMethodDescriptor yX0_copy.desc).map (fun d => d.parameters.length) = some 1) := by decide +kernel
theorem hin0_copy_0 : ∀ x ∈ u_ws RX0 TX0 9, x ∈ wsX0_copy := fun _ h => List.mem_cons_of_mem _ (List.mem_append_right _ h)
set_option maxRecDepth 100000 in
set_option maxHeartbeats 4000000 in
theorem t0_copy_52 (hC : Cx p s m args meth c cX0_copy 3 wsX0_copy RX0 none) : ∀ n : Nat, ∀ (x2 : Int32) (SB : Ob) (SO : Ob) (res : Ob) (H : Heap) (locs : List Loc) (ls : Array Slot), f0_copy_52 n x2 SB SO = some res → GW D cy ad (w0 cy aB SB ++ (w0 cy aO SO)) A s H locs → lv_has ls 3 [(0, .ref (aB 0)), (1, .ref (aO 0)), (2, .int x2)] → W p l e rm0_copy s m args below meth c H locs 0 0 (MQ below (QV D cy (w0 cy aB res ++ (w0 cy aO SO)) A) args s 0 0 A) (F0 m 52 ls []) := by
  intro n
  induction n with
  | zero =>
    intro _ _ _ _ _ _ _ hf _ _
    exact nomatch (show (none : Option (Ob)) = some _ from hf)
  | succ n ih =>
    intro x2 SB SO res H locs ls hf hW hl
    rw [f0_copy_52] at hf
    refine lv_iload_n hC.1 hC.2.1 dX0_copy_52 rfl (lv_at hl 2 rfl) ?_
    refine lv_bipush (v := 8) hC.1 hC.2.1 dX0_copy_53 (by decide) ?_
    refine lv_icmp_ge (tgt := 88) hC.1 hC.2.1 dX0_copy_55 (by decide) (fun hc_1 => ?_) (fun hc_1 => ?_)
    · have hf := ite_t hf hc_1
      obtain rfl := Option.some.inj hf
      exact g_vret hC hW dX0_copy_88
    · have hf := ite_f hf hc_1
      refine lv_aload_n hC.1 hC.2.1 dX0_copy_58 rfl (lv_at hl 0 rfl) ?_
      refine g_get hC hW hin0_copy_0 0 rfl rfl 4 (by decide) 5 rfl rfl dX0_copy_59 ?_
      refine lv_iload_n hC.1 hC.2.1 dX0_copy_62 rfl (lv_at hl 2 rfl) ?_
      refine lv_aload_n hC.1 hC.2.1 dX0_copy_63 rfl (lv_at hl 1 rfl) ?_
      refine g_get hC hW hin0_copy_0 6 rfl rfl 4 (by decide) 5 rfl rfl dX0_copy_64 ?_
      refine lv_iload_n hC.1 hC.2.1 dX0_copy_67 rfl (lv_at hl 2 rfl) ?_
      obtain ⟨hi_2, hf⟩ := ck_of hf
      refine g_iald hC hW 8 rfl hi_2 dX0_copy_68 ?_
      obtain ⟨hi_3, hf⟩ := ck_of hf
      obtain ⟨SB_4, eSB_4⟩ : ∃ y : Ob, y = oA SB 4 (Int32.toNatClampNeg x2) (SO.2.2.1 4 (Int32.toNatClampNeg x2)) := ⟨_, rfl⟩
      have hf := lt_nm hf eSB_4
      refine g_iast hC hW 2 rfl hi_3 (w' := w0 cy aB SB_4 ++ (w0 cy aO SO)) (by rw [eSB_4]; rfl) dX0_copy_69 (fun H locs hW => ?_)
      refine lv_aload_n hC.1 hC.2.1 dX0_copy_70 rfl (lv_at hl 0 rfl) ?_
      refine g_get hC hW hin0_copy_0 0 rfl rfl 5 (by decide) 6 rfl rfl dX0_copy_71 ?_
      refine lv_iload_n hC.1 hC.2.1 dX0_copy_74 rfl (lv_at hl 2 rfl) ?_
      refine lv_aload_n hC.1 hC.2.1 dX0_copy_75 rfl (lv_at hl 1 rfl) ?_
      refine g_get hC hW hin0_copy_0 6 rfl rfl 5 (by decide) 6 rfl rfl dX0_copy_76 ?_
      refine lv_iload_n hC.1 hC.2.1 dX0_copy_79 rfl (lv_at hl 2 rfl) ?_
      obtain ⟨hi_5, hf⟩ := ck_of hf
      refine g_zald hC hW 9 rfl hi_5 dX0_copy_80 ?_
      obtain ⟨hi_6, hf⟩ := ck_of hf
      obtain ⟨SB_7, eSB_7⟩ : ∃ y : Ob, y = oA SB_4 5 (Int32.toNatClampNeg x2) (vp_nar .boolean (SO.2.2.1 5 (Int32.toNatClampNeg x2))) := ⟨_, rfl⟩
      have hf := lt_nm hf eSB_7
      refine g_zast hC hW 3 rfl hi_6 (w' := w0 cy aB SB_7 ++ (w0 cy aO SO)) (by rw [eSB_7]; rfl) dX0_copy_81 (fun H locs hW => ?_)
      obtain ⟨x2_8, ex2_8⟩ : ∃ y : Int32, y = x2 + 1 := ⟨_, rfl⟩
      have hf := lt_nm hf ex2_8
      refine lv_iinc (v := x2_8) (lv' := [(2, .int x2_8), (0, .ref (aB 0)), (1, .ref (aO 0))]) hC.1 hC.2.1 dX0_copy_82 hl (k := 2) rfl (by rw [ex2_8]; rfl) (by decide) rfl (fun ls hl => ?_)
      refine lv_goto (tgt := 52) hC.1 hC.2.1 dX0_copy_85 (by decide) ?_
      exact ih _ _ _ _ _ _ _ hf hW (lv_sub hl [1, 2, 0] rfl)
set_option maxRecDepth 100000 in
set_option maxHeartbeats 4000000 in
theorem t0_copy_18 (hC : Cx p s m args meth c cX0_copy 3 wsX0_copy RX0 none) : ∀ n : Nat, ∀ (x2 : Int32) (SB : Ob) (SO : Ob) (res : Ob) (H : Heap) (locs : List Loc) (ls : Array Slot), f0_copy_18 n x2 SB SO = some res → GW D cy ad (w0 cy aB SB ++ (w0 cy aO SO)) A s H locs → lv_has ls 3 [(0, .ref (aB 0)), (1, .ref (aO 0)), (2, .int x2)] → W p l e rm0_copy s m args below meth c H locs 0 0 (MQ below (QV D cy (w0 cy aB res ++ (w0 cy aO SO)) A) args s 0 0 A) (F0 m 18 ls []) := by
  intro n
  induction n with
  | zero =>
    intro _ _ _ _ _ _ _ hf _ _
    exact nomatch (show (none : Option (Ob)) = some _ from hf)
  | succ n ih =>
    intro x2 SB SO res H locs ls hf hW hl
    rw [f0_copy_18] at hf
    refine lv_iload_n hC.1 hC.2.1 dX0_copy_18 rfl (lv_at hl 2 rfl) ?_
    refine lv_bipush (v := 10) hC.1 hC.2.1 dX0_copy_19 (by decide) ?_
    refine lv_icmp_ge (tgt := 42) hC.1 hC.2.1 dX0_copy_21 (by decide) (fun hc_1 => ?_) (fun hc_1 => ?_)
    · have hf := ite_t hf hc_1
      refine lv_aload_n hC.1 hC.2.1 dX0_copy_42 rfl (lv_at hl 0 rfl) ?_
      refine lv_aload_n hC.1 hC.2.1 dX0_copy_43 rfl (lv_at hl 1 rfl) ?_
      refine g_get hC hW hin0_copy_0 6 rfl rfl 3 (by decide) 4 rfl rfl dX0_copy_44 ?_
      obtain ⟨SB_2, eSB_2⟩ : ∃ y : Ob, y = oI SB 3 (SO.1 3) := ⟨_, rfl⟩
      have hf := lt_nm hf eSB_2
      refine g_put hC hW hin0_copy_0 tyX0 tyX0_ok nmX0 0 rfl rfl 3 (by decide) 4 rfl rfl rfl rfl (Nat.le_of_ble_eq_true rfl) (w' := w0 cy aB SB_2 ++ (w0 cy aO SO)) (by rw [eSB_2]; rfl) dX0_copy_47 (fun H locs hW => ?_)
      refine lv_iconst (v := 0) hC.1 hC.2.1 dX0_copy_50 (by decide) ?_
      refine lv_istore_n (lv' := [(2, .int 0), (0, .ref (aB 0)), (1, .ref (aO 0))]) hC.1 hC.2.1 dX0_copy_51 rfl hl (by decide) rfl (fun ls hl => ?_)
      exact t0_copy_52 hC _ _ _ _ _ _ _ _ hf hW (lv_sub hl [1, 2, 0] rfl)
    · have hf := ite_f hf hc_1
      refine lv_aload_n hC.1 hC.2.1 dX0_copy_24 rfl (lv_at hl 0 rfl) ?_
      refine g_get hC hW hin0_copy_0 0 rfl rfl 2 (by decide) 3 rfl rfl dX0_copy_25 ?_
      refine lv_iload_n hC.1 hC.2.1 dX0_copy_28 rfl (lv_at hl 2 rfl) ?_
      refine lv_aload_n hC.1 hC.2.1 dX0_copy_29 rfl (lv_at hl 1 rfl) ?_
      refine g_get hC hW hin0_copy_0 6 rfl rfl 2 (by decide) 3 rfl rfl dX0_copy_30 ?_
      refine lv_iload_n hC.1 hC.2.1 dX0_copy_33 rfl (lv_at hl 2 rfl) ?_
      obtain ⟨hi_3, hf⟩ := ck_of hf
      refine g_iald hC hW 7 rfl hi_3 dX0_copy_34 ?_
      obtain ⟨hi_4, hf⟩ := ck_of hf
      obtain ⟨SB_5, eSB_5⟩ : ∃ y : Ob, y = oA SB 2 (Int32.toNatClampNeg x2) (SO.2.2.1 2 (Int32.toNatClampNeg x2)) := ⟨_, rfl⟩
      have hf := lt_nm hf eSB_5
      refine g_iast hC hW 1 rfl hi_4 (w' := w0 cy aB SB_5 ++ (w0 cy aO SO)) (by rw [eSB_5]; rfl) dX0_copy_35 (fun H locs hW => ?_)
      obtain ⟨x2_6, ex2_6⟩ : ∃ y : Int32, y = x2 + 1 := ⟨_, rfl⟩
      have hf := lt_nm hf ex2_6
      refine lv_iinc (v := x2_6) (lv' := [(2, .int x2_6), (0, .ref (aB 0)), (1, .ref (aO 0))]) hC.1 hC.2.1 dX0_copy_36 hl (k := 2) rfl (by rw [ex2_6]; rfl) (by decide) rfl (fun ls hl => ?_)
      refine lv_goto (tgt := 18) hC.1 hC.2.1 dX0_copy_39 (by decide) ?_
      exact ih _ _ _ _ _ _ _ hf hW (lv_sub hl [1, 2, 0] rfl)
set_option maxRecDepth 100000 in
set_option maxHeartbeats 4000000 in
theorem t0_copy_0 (hC : Cx p s m args meth c cX0_copy 3 wsX0_copy RX0 none) : ∀ (SB : Ob) (SO : Ob) (res : Ob) (H : Heap) (locs : List Loc) (ls : Array Slot), f0_copy SB SO = some res → GW D cy ad (w0 cy aB SB ++ (w0 cy aO SO)) A s H locs → lv_has ls 3 [(0, .ref (aB 0)), (1, .ref (aO 0))] → W p l e rm0_copy s m args below meth c H locs 0 0 (MQ below (QV D cy (w0 cy aB res ++ (w0 cy aO SO)) A) args s 0 0 A) (F0 m 0 ls []) := by
  intro SB SO res H locs ls hf hW hl
  unfold f0_copy at hf
  refine lv_aload_n hC.1 hC.2.1 dX0_copy_0 rfl (lv_at hl 0 rfl) ?_
  refine lv_aload_n hC.1 hC.2.1 dX0_copy_1 rfl (lv_at hl 1 rfl) ?_
  refine g_get hC hW hin0_copy_0 6 rfl rfl 0 (by decide) 1 rfl rfl dX0_copy_2 ?_
  obtain ⟨r_1, hg_2, hf⟩ := bd_of hf
  refine g_callvV (w' := w0 cy aB r_1 ++ (w0 cy aO SO)) hC hW (c0_open l D cy ad aB hg_2) (cwV 1 hC.2.2.2.2.1 gX0_copy_X0_open rfl rfl rfl hdV0_open ⟨Nat.le_of_ble_eq_true rfl, Nat.le_of_ble_eq_true rfl⟩) (⟨[0, 1, 2, 3, 4, 5], [6, 7, 8, 9, 10, 11], [6, 7, 8, 9, 10, 11, 0, 1, 2, 3, 4, 5], w0 cy aO SO, rfl, rfl, rfl, rfl, by decide, rfl, rfl⟩) 0 0 rfl rfl rfl rfl hl.1 rfl (Nat.le_of_ble_eq_true rfl) dX0_copy_5 ⟨Nat.zero_le _, Nat.zero_le _⟩ (fun H locs hW => ?_)
  refine lv_aload_n hC.1 hC.2.1 dX0_copy_8 rfl (lv_at hl 0 rfl) ?_
  refine lv_aload_n hC.1 hC.2.1 dX0_copy_9 rfl (lv_at hl 1 rfl) ?_
  refine g_get hC hW hin0_copy_0 6 rfl rfl 1 (by decide) 2 rfl rfl dX0_copy_10 ?_
  obtain ⟨SB_3, eSB_3⟩ : ∃ y : Ob, y = oI r_1 1 (SO.1 1) := ⟨_, rfl⟩
  have hf := lt_nm hf eSB_3
  refine g_put hC hW hin0_copy_0 tyX0 tyX0_ok nmX0 0 rfl rfl 1 (by decide) 2 rfl rfl rfl rfl (Nat.le_of_ble_eq_true rfl) (w' := w0 cy aB SB_3 ++ (w0 cy aO SO)) (by rw [eSB_3]; rfl) dX0_copy_13 (fun H locs hW => ?_)
  refine lv_iconst (v := 0) hC.1 hC.2.1 dX0_copy_16 (by decide) ?_
  refine lv_istore_n (lv' := [(2, .int 0), (0, .ref (aB 0)), (1, .ref (aO 0))]) hC.1 hC.2.1 dX0_copy_17 rfl hl (by decide) rfl (fun ls hl => ?_)
  exact t0_copy_18 hC _ _ _ _ _ _ _ _ hf hW (lv_sub hl [1, 2, 0] rfl)
set_option maxRecDepth 100000 in
set_option maxHeartbeats 4000000 in
theorem c0_copy (l : Launch) (D : va_G) (cy : Nat → ClassId) (ad : Nat → Nat) (aB : Nat → Nat) (aO : Nat → Nat) {SB : Ob} {SO : Ob} {res : Ob} (h : f0_copy SB SO = some res) : GCv l yX0_copy wsX0_copy rm0_copy [.ref (aB 0), .ref (aO 0)] D cy ad (w0 cy aB SB ++ (w0 cy aO SO)) (w0 cy aB res ++ (w0 cy aO SO)) := fun sz => GC.start (own := RX0) (Qc := fun A => QV D cy (w0 cy aB res ++ (w0 cy aO SO)) A) sz (by decide) rfl rfl (Nat.le_of_ble_eq_true rfl) (fun p e s m below meth c A ls hC hW hl => t0_copy_0 hC _ _ _ _ _ _ h hW (lv_sub hl [0, 1] rfl))
abbrev rm0_remember : Room := { frames := 0, cells := 0, slots := 0, locals := 0 }
theorem hdV0_remember : yX0_remember.cls = RX0 ∧ (yX0_remember.cls ≠ "java/lang/invoke/MethodHandle" ∧ yX0_remember.cls ≠ "java/lang/invoke/VarHandle" ∧ (parseMethodDescriptor yX0_remember.desc).map (fun d => d.parameters.length) = some 0) := by decide +kernel
theorem hin0_remember_0 : ∀ x ∈ u_ws RX0 TX0 9, x ∈ wsX0_remember := fun _ h => List.mem_cons_of_mem _ (List.mem_append_right _ h)
set_option maxRecDepth 100000 in
set_option maxHeartbeats 4000000 in
theorem t0_remember_57 (hC : Cx p s m args meth c cX0_remember 2 wsX0_remember RX0 none) : ∀ (SB : Ob) (res : Ob) (H : Heap) (locs : List Loc) (ls : Array Slot), f0_remember_57 SB = some res → GW D cy ad (w0 cy aB SB) A s H locs → lv_has ls 2 [(0, .ref (aB 0))] → W p l e rm0_remember s m args below meth c H locs 0 0 (MQ below (QV D cy (w0 cy aB res) A) args s 0 0 A) (F0 m 57 ls []) := by
  intro SB res H locs ls hf hW hl
  unfold f0_remember_57 at hf
  refine lv_aload_n hC.1 hC.2.1 dX0_remember_57 rfl (lv_at hl 0 rfl) ?_
  refine g_get hC hW hin0_remember_0 0 rfl rfl 7 (by decide) 2 rfl rfl dX0_remember_58 ?_
  refine lv_aload_n hC.1 hC.2.1 dX0_remember_61 rfl (lv_at hl 0 rfl) ?_
  refine g_get hC hW hin0_remember_0 0 rfl rfl 6 (by decide) 1 rfl rfl dX0_remember_62 ?_
  refine lv_aload_n hC.1 hC.2.1 dX0_remember_65 rfl (lv_at hl 0 rfl) ?_
  refine g_get hC hW hin0_remember_0 0 rfl rfl 0 (by decide) 4 rfl rfl dX0_remember_66 ?_
  obtain ⟨hi_1, hf⟩ := ck_of hf
  obtain ⟨SB_2, eSB_2⟩ : ∃ y : Ob, y = oA SB 7 (Int32.toNatClampNeg (SB.1 6)) (SB.1 0) := ⟨_, rfl⟩
  have hf := lt_nm hf eSB_2
  refine g_iast hC hW 4 rfl hi_1 (w' := w0 cy aB SB_2) (by rw [eSB_2]; rfl) dX0_remember_69 (fun H locs hW => ?_)
  refine lv_aload_n hC.1 hC.2.1 dX0_remember_70 rfl (lv_at hl 0 rfl) ?_
  refine g_get hC hW hin0_remember_0 0 rfl rfl 8 (by decide) 3 rfl rfl dX0_remember_71 ?_
  refine lv_aload_n hC.1 hC.2.1 dX0_remember_74 rfl (lv_at hl 0 rfl) ?_
  refine g_get hC hW hin0_remember_0 0 rfl rfl 6 (by decide) 1 rfl rfl dX0_remember_75 ?_
  refine lv_aload_n hC.1 hC.2.1 dX0_remember_78 rfl (lv_at hl 0 rfl) ?_
  refine g_get hC hW hin0_remember_0 0 rfl rfl 1 (by decide) 5 rfl rfl dX0_remember_79 ?_
  obtain ⟨hi_3, hf⟩ := ck_of hf
  obtain ⟨SB_4, eSB_4⟩ : ∃ y : Ob, y = oA SB_2 8 (Int32.toNatClampNeg (SB_2.1 6)) (SB_2.1 1) := ⟨_, rfl⟩
  have hf := lt_nm hf eSB_4
  refine g_iast hC hW 5 rfl hi_3 (w' := w0 cy aB SB_4) (by rw [eSB_4]; rfl) dX0_remember_82 (fun H locs hW => ?_)
  refine lv_aload_n hC.1 hC.2.1 dX0_remember_83 rfl (lv_at hl 0 rfl) ?_
  refine lv_dup hC.1 hC.2.1 dX0_remember_84 rfl ?_
  refine g_get hC hW hin0_remember_0 0 rfl rfl 6 (by decide) 1 rfl rfl dX0_remember_85 ?_
  refine lv_iconst (v := 1) hC.1 hC.2.1 dX0_remember_88 (by decide) ?_
  refine lv_iadd hC.1 hC.2.1 dX0_remember_89 ?_
  obtain ⟨SB_5, eSB_5⟩ : ∃ y : Ob, y = oI SB_4 6 ((SB_4.1 6) + 1) := ⟨_, rfl⟩
  have hf := lt_nm hf eSB_5
  refine g_put hC hW hin0_remember_0 tyX0 tyX0_ok nmX0 0 rfl rfl 6 (by decide) 1 rfl rfl rfl rfl (Nat.le_of_ble_eq_true rfl) (w' := w0 cy aB SB_5) (by rw [eSB_5]; rfl) dX0_remember_90 (fun H locs hW => ?_)
  obtain rfl := Option.some.inj hf
  exact g_vret hC hW dX0_remember_93
set_option maxRecDepth 100000 in
set_option maxHeartbeats 4000000 in
theorem t0_remember_11 (hC : Cx p s m args meth c cX0_remember 2 wsX0_remember RX0 none) : ∀ n : Nat, ∀ (x1 : Int32) (SB : Ob) (res : Ob) (H : Heap) (locs : List Loc) (ls : Array Slot), f0_remember_11 n x1 SB = some res → GW D cy ad (w0 cy aB SB) A s H locs → lv_has ls 2 [(0, .ref (aB 0)), (1, .int x1)] → W p l e rm0_remember s m args below meth c H locs 0 0 (MQ below (QV D cy (w0 cy aB res) A) args s 0 0 A) (F0 m 11 ls []) := by
  intro n
  induction n with
  | zero =>
    intro _ _ _ _ _ _ hf _ _
    exact nomatch (show (none : Option (Ob)) = some _ from hf)
  | succ n ih =>
    intro x1 SB res H locs ls hf hW hl
    rw [f0_remember_11] at hf
    refine lv_iload_n hC.1 hC.2.1 dX0_remember_11 rfl (lv_at hl 1 rfl) ?_
    refine lv_bipush (v := 16) hC.1 hC.2.1 dX0_remember_12 (by decide) ?_
    refine lv_icmp_ge (tgt := 51) hC.1 hC.2.1 dX0_remember_14 (by decide) (fun hc_1 => ?_) (fun hc_1 => ?_)
    · have hf := ite_t hf hc_1
      refine lv_aload_n hC.1 hC.2.1 dX0_remember_51 rfl (lv_at hl 0 rfl) ?_
      refine lv_bipush (v := 15) hC.1 hC.2.1 dX0_remember_52 (by decide) ?_
      obtain ⟨SB_2, eSB_2⟩ : ∃ y : Ob, y = oI SB 6 15 := ⟨_, rfl⟩
      have hf := lt_nm hf eSB_2
      refine g_put hC hW hin0_remember_0 tyX0 tyX0_ok nmX0 0 rfl rfl 6 (by decide) 1 rfl rfl rfl rfl (Nat.le_of_ble_eq_true rfl) (w' := w0 cy aB SB_2) (by rw [eSB_2]; rfl) dX0_remember_54 (fun H locs hW => ?_)
      exact t0_remember_57 hC  _ _ _ _ _ hf hW (lv_sub hl [0] rfl)
    · have hf := ite_f hf hc_1
      refine lv_aload_n hC.1 hC.2.1 dX0_remember_17 rfl (lv_at hl 0 rfl) ?_
      refine g_get hC hW hin0_remember_0 0 rfl rfl 7 (by decide) 2 rfl rfl dX0_remember_18 ?_
      refine lv_iload_n hC.1 hC.2.1 dX0_remember_21 rfl (lv_at hl 1 rfl) ?_
      refine lv_iconst (v := 1) hC.1 hC.2.1 dX0_remember_22 (by decide) ?_
      refine lv_isub hC.1 hC.2.1 dX0_remember_23 ?_
      refine lv_aload_n hC.1 hC.2.1 dX0_remember_24 rfl (lv_at hl 0 rfl) ?_
      refine g_get hC hW hin0_remember_0 0 rfl rfl 7 (by decide) 2 rfl rfl dX0_remember_25 ?_
      refine lv_iload_n hC.1 hC.2.1 dX0_remember_28 rfl (lv_at hl 1 rfl) ?_
      obtain ⟨hi_3, hf⟩ := ck_of hf
      refine g_iald hC hW 4 rfl hi_3 dX0_remember_29 ?_
      obtain ⟨hi_4, hf⟩ := ck_of hf
      obtain ⟨SB_5, eSB_5⟩ : ∃ y : Ob, y = oA SB 7 (Int32.toNatClampNeg (x1 - 1)) (SB.2.2.1 7 (Int32.toNatClampNeg x1)) := ⟨_, rfl⟩
      have hf := lt_nm hf eSB_5
      refine g_iast hC hW 4 rfl hi_4 (w' := w0 cy aB SB_5) (by rw [eSB_5]; rfl) dX0_remember_30 (fun H locs hW => ?_)
      refine lv_aload_n hC.1 hC.2.1 dX0_remember_31 rfl (lv_at hl 0 rfl) ?_
      refine g_get hC hW hin0_remember_0 0 rfl rfl 8 (by decide) 3 rfl rfl dX0_remember_32 ?_
      refine lv_iload_n hC.1 hC.2.1 dX0_remember_35 rfl (lv_at hl 1 rfl) ?_
      refine lv_iconst (v := 1) hC.1 hC.2.1 dX0_remember_36 (by decide) ?_
      refine lv_isub hC.1 hC.2.1 dX0_remember_37 ?_
      refine lv_aload_n hC.1 hC.2.1 dX0_remember_38 rfl (lv_at hl 0 rfl) ?_
      refine g_get hC hW hin0_remember_0 0 rfl rfl 8 (by decide) 3 rfl rfl dX0_remember_39 ?_
      refine lv_iload_n hC.1 hC.2.1 dX0_remember_42 rfl (lv_at hl 1 rfl) ?_
      obtain ⟨hi_6, hf⟩ := ck_of hf
      refine g_iald hC hW 5 rfl hi_6 dX0_remember_43 ?_
      obtain ⟨hi_7, hf⟩ := ck_of hf
      obtain ⟨SB_8, eSB_8⟩ : ∃ y : Ob, y = oA SB_5 8 (Int32.toNatClampNeg (x1 - 1)) (SB_5.2.2.1 8 (Int32.toNatClampNeg x1)) := ⟨_, rfl⟩
      have hf := lt_nm hf eSB_8
      refine g_iast hC hW 5 rfl hi_7 (w' := w0 cy aB SB_8) (by rw [eSB_8]; rfl) dX0_remember_44 (fun H locs hW => ?_)
      obtain ⟨x1_9, ex1_9⟩ : ∃ y : Int32, y = x1 + 1 := ⟨_, rfl⟩
      have hf := lt_nm hf ex1_9
      refine lv_iinc (v := x1_9) (lv' := [(1, .int x1_9), (0, .ref (aB 0))]) hC.1 hC.2.1 dX0_remember_45 hl (k := 1) rfl (by rw [ex1_9]; rfl) (by decide) rfl (fun ls hl => ?_)
      refine lv_goto (tgt := 11) hC.1 hC.2.1 dX0_remember_48 (by decide) ?_
      exact ih _ _ _ _ _ _ hf hW (lv_sub hl [1, 0] rfl)
set_option maxRecDepth 100000 in
set_option maxHeartbeats 4000000 in
theorem t0_remember_0 (hC : Cx p s m args meth c cX0_remember 2 wsX0_remember RX0 none) : ∀ (SB : Ob) (res : Ob) (H : Heap) (locs : List Loc) (ls : Array Slot), f0_remember SB = some res → GW D cy ad (w0 cy aB SB) A s H locs → lv_has ls 2 [(0, .ref (aB 0))] → W p l e rm0_remember s m args below meth c H locs 0 0 (MQ below (QV D cy (w0 cy aB res) A) args s 0 0 A) (F0 m 0 ls []) := by
  intro SB res H locs ls hf hW hl
  unfold f0_remember at hf
  refine lv_aload_n hC.1 hC.2.1 dX0_remember_0 rfl (lv_at hl 0 rfl) ?_
  refine g_get hC hW hin0_remember_0 0 rfl rfl 6 (by decide) 1 rfl rfl dX0_remember_1 ?_
  refine lv_bipush (v := 16) hC.1 hC.2.1 dX0_remember_4 (by decide) ?_
  refine lv_icmp_lt (tgt := 57) hC.1 hC.2.1 dX0_remember_6 (by decide) (fun hc_1 => ?_) (fun hc_1 => ?_)
  · have hf := ite_t hf hc_1
    exact t0_remember_57 hC  _ _ _ _ _ hf hW (lv_sub hl [0] rfl)
  · have hf := ite_f hf hc_1
    refine lv_iconst (v := 1) hC.1 hC.2.1 dX0_remember_9 (by decide) ?_
    refine lv_istore_n (lv' := [(1, .int 1), (0, .ref (aB 0))]) hC.1 hC.2.1 dX0_remember_10 rfl hl (by decide) rfl (fun ls hl => ?_)
    exact t0_remember_11 hC _ _ _ _ _ _ _ hf hW (lv_sub hl [1, 0] rfl)
set_option maxRecDepth 100000 in
set_option maxHeartbeats 4000000 in
theorem c0_remember (l : Launch) (D : va_G) (cy : Nat → ClassId) (ad : Nat → Nat) (aB : Nat → Nat) {SB : Ob} {res : Ob} (h : f0_remember SB = some res) : GCv l yX0_remember wsX0_remember rm0_remember [.ref (aB 0)] D cy ad (w0 cy aB SB) (w0 cy aB res) := fun sz => GC.start (own := RX0) (Qc := fun A => QV D cy (w0 cy aB res) A) sz (by decide) rfl rfl (Nat.le_of_ble_eq_true rfl) (fun p e s m below meth c A ls hC hW hl => t0_remember_0 hC _ _ _ _ _ h hW (lv_sub hl [0] rfl))
abbrev rm0_narrow : Room := { frames := 1, cells := 0, slots := 0, locals := 21 }
theorem hdV0_narrow : yX0_narrow.cls = RX0 ∧ (yX0_narrow.cls ≠ "java/lang/invoke/MethodHandle" ∧ yX0_narrow.cls ≠ "java/lang/invoke/VarHandle" ∧ (parseMethodDescriptor yX0_narrow.desc).map (fun d => d.parameters.length) = some 1) := by decide +kernel
theorem hin0_narrow_0 : ∀ x ∈ u_ws RX0 TX0 9, x ∈ wsX0_narrow := fun _ h => List.mem_cons_of_mem _ (List.mem_append_right _ h)
set_option maxRecDepth 100000 in
set_option maxHeartbeats 4000000 in
theorem t0_narrow_0 (hC : Cx p s m args meth c cX0_narrow 3 wsX0_narrow RX0 (some .boolean)) : ∀ (x1 : Int32) (SB : Ob) (res : Int32 × Ob) (H : Heap) (locs : List Loc) (ls : Array Slot), f0_narrow x1 SB = some res → GW D cy ad (w0 cy aB SB) A s H locs → lv_has ls 3 [(0, .ref (aB 0)), (1, .int x1)] → W p l e rm0_narrow s m args below meth c H locs 0 0 (MQ below (QI D cy (w0 cy aB (res.2)) A (res.1)) args s 0 0 A) (F0 m 0 ls []) := by
  intro x1 SB res H locs ls hf hW hl
  unfold f0_narrow at hf
  refine lv_aload_n hC.1 hC.2.1 dX0_narrow_0 rfl (lv_at hl 0 rfl) ?_
  refine g_get hC hW hin0_narrow_0 0 rfl rfl 0 (by decide) 1 rfl rfl dX0_narrow_1 ?_
  refine lv_iload_n hC.1 hC.2.1 dX0_narrow_4 rfl (lv_at hl 1 rfl) ?_
  refine lv_iand hC.1 hC.2.1 dX0_narrow_5 ?_
  refine lv_topi (fun x2_1 ex2_1 => ?_)
  have hf := lt_nm hf ex2_1
  refine lv_istore_n (lv' := [(2, .int x2_1), (0, .ref (aB 0)), (1, .int x1)]) hC.1 hC.2.1 dX0_narrow_6 rfl hl (by decide) rfl (fun ls hl => ?_)
  refine lv_iload_n hC.1 hC.2.1 dX0_narrow_7 rfl (lv_at hl 0 rfl) ?_
  refine lv_if_ne (tgt := 13) hC.1 hC.2.1 dX0_narrow_8 (by decide) (fun hc_2 => ?_) (fun hc_2 => ?_)
  · have hf := ite_f hf hc_2
    refine lv_aload_n hC.1 hC.2.1 dX0_narrow_13 rfl (lv_at hl 1 rfl) ?_
    obtain ⟨r_3, hg_4, hf⟩ := bd_of hf
    refine g_callvV (w' := w0 cy aB r_3) hC hW (c0_remember l D cy ad aB hg_4) (cwV 0 hC.2.2.2.2.1 gX0_narrow_X0_remember rfl rfl rfl hdV0_remember ⟨Nat.le_of_ble_eq_true rfl, Nat.le_of_ble_eq_true rfl⟩) (Sub.all _ _) 0 0 rfl rfl rfl rfl hl.1 rfl (Nat.le_of_ble_eq_true rfl) dX0_narrow_14 ⟨Nat.zero_le _, Nat.zero_le _⟩ (fun H locs hW => ?_)
    refine lv_aload_n hC.1 hC.2.1 dX0_narrow_17 rfl (lv_at hl 1 rfl) ?_
    refine lv_iload_n hC.1 hC.2.1 dX0_narrow_18 rfl (lv_at hl 0 rfl) ?_
    obtain ⟨SB_5, eSB_5⟩ : ∃ y : Ob, y = oI r_3 0 x2_1 := ⟨_, rfl⟩
    have hf := lt_nm hf eSB_5
    refine g_put hC hW hin0_narrow_0 tyX0 tyX0_ok nmX0 0 rfl rfl 0 (by decide) 1 rfl rfl rfl rfl (Nat.le_of_ble_eq_true rfl) (w' := w0 cy aB SB_5) (by rw [eSB_5]; rfl) dX0_narrow_19 (fun H locs hW => ?_)
    refine lv_iconst (v := 1) hC.1 hC.2.1 dX0_narrow_22 (by decide) ?_
    obtain rfl := Option.some.inj hf
    exact g_zret (v := 1) hC hW (by decide) dX0_narrow_23
  · have hf := ite_t hf hc_2
    refine lv_iconst (v := 0) hC.1 hC.2.1 dX0_narrow_11 (by decide) ?_
    obtain rfl := Option.some.inj hf
    exact g_zret (v := 0) hC hW (by decide) dX0_narrow_12
set_option maxRecDepth 100000 in
set_option maxHeartbeats 4000000 in
theorem c0_narrow (l : Launch) (D : va_G) (cy : Nat → ClassId) (ad : Nat → Nat) (aB : Nat → Nat) {x1 : Int32} {SB : Ob} {res : Int32 × Ob} (h : f0_narrow x1 SB = some res) : GCi l yX0_narrow wsX0_narrow rm0_narrow [.ref (aB 0), .int x1] D cy ad (w0 cy aB SB) (w0 cy aB (res.2)) (res.1) := fun sz => GC.start (own := RX0) (Qc := fun A => QI D cy (w0 cy aB (res.2)) A (res.1)) sz (by decide) rfl rfl (Nat.le_of_ble_eq_true rfl) (fun p e s m below meth c A ls hC hW hl => t0_narrow_0 hC _ _ _ _ _ _ h hW (lv_sub hl [0, 1] rfl))
abbrev rm0_endNight : Room := { frames := 1, cells := 0, slots := 0, locals := 21 }
theorem hdV0_endNight : yX0_endNight.cls = RX0 ∧ (yX0_endNight.cls ≠ "java/lang/invoke/MethodHandle" ∧ yX0_endNight.cls ≠ "java/lang/invoke/VarHandle" ∧ (parseMethodDescriptor yX0_endNight.desc).map (fun d => d.parameters.length) = some 2) := by decide +kernel
theorem hin0_endNight_0 : ∀ x ∈ u_ws RX0 TX0 9, x ∈ wsX0_endNight := fun _ h => List.mem_cons_of_mem _ (List.mem_append_right _ h)
set_option maxRecDepth 100000 in
set_option maxHeartbeats 4000000 in
theorem t0_endNight_38 (hC : Cx p s m args meth c cX0_endNight 3 wsX0_endNight RX0 none) : ∀ (SB : Ob) (res : Ob) (H : Heap) (locs : List Loc) (ls : Array Slot), f0_endNight_38 SB = some res → GW D cy ad (w0 cy aB SB) A s H locs → lv_has ls 3 [] → W p l e rm0_endNight s m args below meth c H locs 0 0 (MQ below (QV D cy (w0 cy aB res) A) args s 0 0 A) (F0 m 38 ls []) := by
  intro SB res H locs ls hf hW hl
  unfold f0_endNight_38 at hf
  obtain rfl := Option.some.inj hf
  exact g_vret hC hW dX0_endNight_38
set_option maxRecDepth 100000 in
set_option maxHeartbeats 4000000 in
theorem t0_endNight_0 (hC : Cx p s m args meth c cX0_endNight 3 wsX0_endNight RX0 none) : ∀ (x1 : Int32) (x2 : Int32) (SB : Ob) (res : Ob) (H : Heap) (locs : List Loc) (ls : Array Slot), f0_endNight x1 x2 SB = some res → GW D cy ad (w0 cy aB SB) A s H locs → lv_has ls 3 [(0, .ref (aB 0)), (1, .int x1), (2, .int x2)] → W p l e rm0_endNight s m args below meth c H locs 0 0 (MQ below (QV D cy (w0 cy aB res) A) args s 0 0 A) (F0 m 0 ls []) := by
  intro x1 x2 SB res H locs ls hf hW hl
  unfold f0_endNight at hf
  refine lv_aload_n hC.1 hC.2.1 dX0_endNight_0 rfl (lv_at hl 0 rfl) ?_
  refine g_get hC hW hin0_endNight_0 0 rfl rfl 1 (by decide) 1 rfl rfl dX0_endNight_1 ?_
  refine lv_bipush (v := 10) hC.1 hC.2.1 dX0_endNight_4 (by decide) ?_
  refine lv_icmp_ge (tgt := 38) hC.1 hC.2.1 dX0_endNight_6 (by decide) (fun hc_1 => ?_) (fun hc_1 => ?_)
  · have hf := ite_t hf hc_1
    exact t0_endNight_38 hC  _ _ _ _ _ hf hW (lv_sub hl [] rfl)
  · have hf := ite_f hf hc_1
    refine lv_aload_n hC.1 hC.2.1 dX0_endNight_9 rfl (lv_at hl 0 rfl) ?_
    obtain ⟨r_2, hg_3, hf⟩ := bd_of hf
    refine g_callvV (w' := w0 cy aB r_2) hC hW (c0_remember l D cy ad aB hg_3) (cwV 0 hC.2.2.2.2.1 gX0_endNight_X0_remember rfl rfl rfl hdV0_remember ⟨Nat.le_of_ble_eq_true rfl, Nat.le_of_ble_eq_true rfl⟩) (Sub.all _ _) 0 0 rfl rfl rfl rfl hl.1 rfl (Nat.le_of_ble_eq_true rfl) dX0_endNight_10 ⟨Nat.zero_le _, Nat.zero_le _⟩ (fun H locs hW => ?_)
    refine lv_aload_n hC.1 hC.2.1 dX0_endNight_13 rfl (lv_at hl 0 rfl) ?_
    refine g_get hC hW hin0_endNight_0 0 rfl rfl 2 (by decide) 2 rfl rfl dX0_endNight_14 ?_
    refine lv_aload_n hC.1 hC.2.1 dX0_endNight_17 rfl (lv_at hl 0 rfl) ?_
    refine g_get hC hW hin0_endNight_0 0 rfl rfl 1 (by decide) 1 rfl rfl dX0_endNight_18 ?_
    refine lv_iload_n hC.1 hC.2.1 dX0_endNight_21 rfl (lv_at hl 1 rfl) ?_
    obtain ⟨hi_4, hf⟩ := ck_of hf
    obtain ⟨SB_5, eSB_5⟩ : ∃ y : Ob, y = oA r_2 2 (Int32.toNatClampNeg (r_2.1 1)) x1 := ⟨_, rfl⟩
    have hf := lt_nm hf eSB_5
    refine g_iast hC hW 1 rfl hi_4 (w' := w0 cy aB SB_5) (by rw [eSB_5]; rfl) dX0_endNight_22 (fun H locs hW => ?_)
    refine lv_aload_n hC.1 hC.2.1 dX0_endNight_23 rfl (lv_at hl 0 rfl) ?_
    refine lv_dup hC.1 hC.2.1 dX0_endNight_24 rfl ?_
    refine g_get hC hW hin0_endNight_0 0 rfl rfl 1 (by decide) 1 rfl rfl dX0_endNight_25 ?_
    refine lv_iconst (v := 1) hC.1 hC.2.1 dX0_endNight_28 (by decide) ?_
    refine lv_iadd hC.1 hC.2.1 dX0_endNight_29 ?_
    obtain ⟨SB_6, eSB_6⟩ : ∃ y : Ob, y = oI SB_5 1 ((SB_5.1 1) + 1) := ⟨_, rfl⟩
    have hf := lt_nm hf eSB_6
    refine g_put hC hW hin0_endNight_0 tyX0 tyX0_ok nmX0 0 rfl rfl 1 (by decide) 1 rfl rfl rfl rfl (Nat.le_of_ble_eq_true rfl) (w' := w0 cy aB SB_6) (by rw [eSB_6]; rfl) dX0_endNight_30 (fun H locs hW => ?_)
    refine lv_aload_n hC.1 hC.2.1 dX0_endNight_33 rfl (lv_at hl 0 rfl) ?_
    refine lv_iload_n hC.1 hC.2.1 dX0_endNight_34 rfl (lv_at hl 2 rfl) ?_
    obtain ⟨SB_7, eSB_7⟩ : ∃ y : Ob, y = oI SB_6 0 x2 := ⟨_, rfl⟩
    have hf := lt_nm hf eSB_7
    refine g_put hC hW hin0_endNight_0 tyX0 tyX0_ok nmX0 0 rfl rfl 0 (by decide) 3 rfl rfl rfl rfl (Nat.le_of_ble_eq_true rfl) (w' := w0 cy aB SB_7) (by rw [eSB_7]; rfl) dX0_endNight_35 (fun H locs hW => ?_)
    exact t0_endNight_38 hC  _ _ _ _ _ hf hW (lv_sub hl [] rfl)
set_option maxRecDepth 100000 in
set_option maxHeartbeats 4000000 in
theorem c0_endNight (l : Launch) (D : va_G) (cy : Nat → ClassId) (ad : Nat → Nat) (aB : Nat → Nat) {x1 : Int32} {x2 : Int32} {SB : Ob} {res : Ob} (h : f0_endNight x1 x2 SB = some res) : GCv l yX0_endNight wsX0_endNight rm0_endNight [.ref (aB 0), .int x1, .int x2] D cy ad (w0 cy aB SB) (w0 cy aB res) := fun sz => GC.start (own := RX0) (Qc := fun A => QV D cy (w0 cy aB res) A) sz (by decide) rfl rfl (Nat.le_of_ble_eq_true rfl) (fun p e s m below meth c A ls hC hW hl => t0_endNight_0 hC _ _ _ _ _ _ _ h hW (lv_sub hl [0, 1, 2] rfl))
abbrev rm0_stepBack : Room := { frames := 0, cells := 0, slots := 0, locals := 0 }
theorem hdV0_stepBack : yX0_stepBack.cls = RX0 ∧ (yX0_stepBack.cls ≠ "java/lang/invoke/MethodHandle" ∧ yX0_stepBack.cls ≠ "java/lang/invoke/VarHandle" ∧ (parseMethodDescriptor yX0_stepBack.desc).map (fun d => d.parameters.length) = some 0) := by decide +kernel
theorem hin0_stepBack_0 : ∀ x ∈ u_ws RX0 TX0 9, x ∈ wsX0_stepBack := fun _ h => List.mem_cons_of_mem _ (List.mem_append_right _ h)
set_option maxRecDepth 100000 in
set_option maxHeartbeats 4000000 in
theorem t0_stepBack_0 (hC : Cx p s m args meth c cX0_stepBack 1 wsX0_stepBack RX0 (some .boolean)) : ∀ (SB : Ob) (res : Int32 × Ob) (H : Heap) (locs : List Loc) (ls : Array Slot), f0_stepBack SB = some res → GW D cy ad (w0 cy aB SB) A s H locs → lv_has ls 1 [(0, .ref (aB 0))] → W p l e rm0_stepBack s m args below meth c H locs 0 0 (MQ below (QI D cy (w0 cy aB (res.2)) A (res.1)) args s 0 0 A) (F0 m 0 ls []) := by
  intro SB res H locs ls hf hW hl
  unfold f0_stepBack at hf
  refine lv_aload_n hC.1 hC.2.1 dX0_stepBack_0 rfl (lv_at hl 0 rfl) ?_
  refine g_get hC hW hin0_stepBack_0 0 rfl rfl 6 (by decide) 1 rfl rfl dX0_stepBack_1 ?_
  refine lv_if_gt (tgt := 9) hC.1 hC.2.1 dX0_stepBack_4 (by decide) (fun hc_1 => ?_) (fun hc_1 => ?_)
  · have hf := ite_t hf hc_1
    refine lv_aload_n hC.1 hC.2.1 dX0_stepBack_9 rfl (lv_at hl 0 rfl) ?_
    refine lv_dup hC.1 hC.2.1 dX0_stepBack_10 rfl ?_
    refine g_get hC hW hin0_stepBack_0 0 rfl rfl 6 (by decide) 1 rfl rfl dX0_stepBack_11 ?_
    refine lv_iconst (v := 1) hC.1 hC.2.1 dX0_stepBack_14 (by decide) ?_
    refine lv_isub hC.1 hC.2.1 dX0_stepBack_15 ?_
    obtain ⟨SB_2, eSB_2⟩ : ∃ y : Ob, y = oI SB 6 ((SB.1 6) - 1) := ⟨_, rfl⟩
    have hf := lt_nm hf eSB_2
    refine g_put hC hW hin0_stepBack_0 tyX0 tyX0_ok nmX0 0 rfl rfl 6 (by decide) 1 rfl rfl rfl rfl (Nat.le_of_ble_eq_true rfl) (w' := w0 cy aB SB_2) (by rw [eSB_2]; rfl) dX0_stepBack_16 (fun H locs hW => ?_)
    refine lv_aload_n hC.1 hC.2.1 dX0_stepBack_19 rfl (lv_at hl 0 rfl) ?_
    refine lv_aload_n hC.1 hC.2.1 dX0_stepBack_20 rfl (lv_at hl 0 rfl) ?_
    refine g_get hC hW hin0_stepBack_0 0 rfl rfl 7 (by decide) 2 rfl rfl dX0_stepBack_21 ?_
    refine lv_aload_n hC.1 hC.2.1 dX0_stepBack_24 rfl (lv_at hl 0 rfl) ?_
    refine g_get hC hW hin0_stepBack_0 0 rfl rfl 6 (by decide) 1 rfl rfl dX0_stepBack_25 ?_
    obtain ⟨hi_3, hf⟩ := ck_of hf
    refine g_iald hC hW 4 rfl hi_3 dX0_stepBack_28 ?_
    obtain ⟨SB_4, eSB_4⟩ : ∃ y : Ob, y = oI SB_2 0 (SB_2.2.2.1 7 (Int32.toNatClampNeg (SB_2.1 6))) := ⟨_, rfl⟩
    have hf := lt_nm hf eSB_4
    refine g_put hC hW hin0_stepBack_0 tyX0 tyX0_ok nmX0 0 rfl rfl 0 (by decide) 3 rfl rfl rfl rfl (Nat.le_of_ble_eq_true rfl) (w' := w0 cy aB SB_4) (by rw [eSB_4]; rfl) dX0_stepBack_29 (fun H locs hW => ?_)
    refine lv_aload_n hC.1 hC.2.1 dX0_stepBack_32 rfl (lv_at hl 0 rfl) ?_
    refine lv_aload_n hC.1 hC.2.1 dX0_stepBack_33 rfl (lv_at hl 0 rfl) ?_
    refine g_get hC hW hin0_stepBack_0 0 rfl rfl 8 (by decide) 4 rfl rfl dX0_stepBack_34 ?_
    refine lv_aload_n hC.1 hC.2.1 dX0_stepBack_37 rfl (lv_at hl 0 rfl) ?_
    refine g_get hC hW hin0_stepBack_0 0 rfl rfl 6 (by decide) 1 rfl rfl dX0_stepBack_38 ?_
    obtain ⟨hi_5, hf⟩ := ck_of hf
    refine g_iald hC hW 5 rfl hi_5 dX0_stepBack_41 ?_
    obtain ⟨SB_6, eSB_6⟩ : ∃ y : Ob, y = oI SB_4 1 (SB_4.2.2.1 8 (Int32.toNatClampNeg (SB_4.1 6))) := ⟨_, rfl⟩
    have hf := lt_nm hf eSB_6
    refine g_put hC hW hin0_stepBack_0 tyX0 tyX0_ok nmX0 0 rfl rfl 1 (by decide) 5 rfl rfl rfl rfl (Nat.le_of_ble_eq_true rfl) (w' := w0 cy aB SB_6) (by rw [eSB_6]; rfl) dX0_stepBack_42 (fun H locs hW => ?_)
    refine lv_iconst (v := 1) hC.1 hC.2.1 dX0_stepBack_45 (by decide) ?_
    obtain rfl := Option.some.inj hf
    exact g_zret (v := 1) hC hW (by decide) dX0_stepBack_46
  · have hf := ite_f hf hc_1
    refine lv_iconst (v := 0) hC.1 hC.2.1 dX0_stepBack_7 (by decide) ?_
    obtain rfl := Option.some.inj hf
    exact g_zret (v := 0) hC hW (by decide) dX0_stepBack_8
set_option maxRecDepth 100000 in
set_option maxHeartbeats 4000000 in
theorem c0_stepBack (l : Launch) (D : va_G) (cy : Nat → ClassId) (ad : Nat → Nat) (aB : Nat → Nat) {SB : Ob} {res : Int32 × Ob} (h : f0_stepBack SB = some res) : GCi l yX0_stepBack wsX0_stepBack rm0_stepBack [.ref (aB 0)] D cy ad (w0 cy aB SB) (w0 cy aB (res.2)) (res.1) := fun sz => GC.start (own := RX0) (Qc := fun A => QI D cy (w0 cy aB (res.2)) A (res.1)) sz (by decide) rfl rfl (Nat.le_of_ble_eq_true rfl) (fun p e s m below meth c A ls hC hW hl => t0_stepBack_0 hC _ _ _ _ _ h hW (lv_sub hl [0] rfl))
abbrev rm0_hearAlso : Room := { frames := 0, cells := 0, slots := 0, locals := 0 }
theorem hdV0_hearAlso : yX0_hearAlso.cls = RX0 ∧ (yX0_hearAlso.cls ≠ "java/lang/invoke/MethodHandle" ∧ yX0_hearAlso.cls ≠ "java/lang/invoke/VarHandle" ∧ (parseMethodDescriptor yX0_hearAlso.desc).map (fun d => d.parameters.length) = some 2) := by decide +kernel
theorem hin0_hearAlso_0 : ∀ x ∈ u_ws RX0 TX0 9, x ∈ wsX0_hearAlso := fun _ h => List.mem_cons_of_mem _ (List.mem_append_right _ h)
set_option maxRecDepth 100000 in
set_option maxHeartbeats 4000000 in
theorem t0_hearAlso_0 (hC : Cx p s m args meth c cX0_hearAlso 3 wsX0_hearAlso RX0 (some .boolean)) : ∀ (x1 : Int32) (x2 : Int32) (SB : Ob) (res : Int32 × Ob) (H : Heap) (locs : List Loc) (ls : Array Slot), f0_hearAlso x1 x2 SB = some res → GW D cy ad (w0 cy aB SB) A s H locs → lv_has ls 3 [(0, .ref (aB 0)), (1, .int x1), (2, .int x2)] → W p l e rm0_hearAlso s m args below meth c H locs 0 0 (MQ below (QI D cy (w0 cy aB (res.2)) A (res.1)) args s 0 0 A) (F0 m 0 ls []) := by
  intro x1 x2 SB res H locs ls hf hW hl
  unfold f0_hearAlso at hf
  refine lv_aload_n hC.1 hC.2.1 dX0_hearAlso_0 rfl (lv_at hl 0 rfl) ?_
  refine g_get hC hW hin0_hearAlso_0 0 rfl rfl 3 (by decide) 1 rfl rfl dX0_hearAlso_1 ?_
  refine lv_bipush (v := 8) hC.1 hC.2.1 dX0_hearAlso_4 (by decide) ?_
  refine lv_icmp_lt (tgt := 11) hC.1 hC.2.1 dX0_hearAlso_6 (by decide) (fun hc_1 => ?_) (fun hc_1 => ?_)
  · have hf := ite_t hf hc_1
    refine lv_aload_n hC.1 hC.2.1 dX0_hearAlso_11 rfl (lv_at hl 0 rfl) ?_
    refine g_get hC hW hin0_hearAlso_0 0 rfl rfl 4 (by decide) 2 rfl rfl dX0_hearAlso_12 ?_
    refine lv_aload_n hC.1 hC.2.1 dX0_hearAlso_15 rfl (lv_at hl 0 rfl) ?_
    refine g_get hC hW hin0_hearAlso_0 0 rfl rfl 3 (by decide) 1 rfl rfl dX0_hearAlso_16 ?_
    refine lv_iload_n hC.1 hC.2.1 dX0_hearAlso_19 rfl (lv_at hl 1 rfl) ?_
    obtain ⟨hi_2, hf⟩ := ck_of hf
    obtain ⟨SB_3, eSB_3⟩ : ∃ y : Ob, y = oA SB 4 (Int32.toNatClampNeg (SB.1 3)) x1 := ⟨_, rfl⟩
    have hf := lt_nm hf eSB_3
    refine g_iast hC hW 2 rfl hi_2 (w' := w0 cy aB SB_3) (by rw [eSB_3]; rfl) dX0_hearAlso_20 (fun H locs hW => ?_)
    refine lv_aload_n hC.1 hC.2.1 dX0_hearAlso_21 rfl (lv_at hl 0 rfl) ?_
    refine g_get hC hW hin0_hearAlso_0 0 rfl rfl 5 (by decide) 3 rfl rfl dX0_hearAlso_22 ?_
    refine lv_aload_n hC.1 hC.2.1 dX0_hearAlso_25 rfl (lv_at hl 0 rfl) ?_
    refine g_get hC hW hin0_hearAlso_0 0 rfl rfl 3 (by decide) 1 rfl rfl dX0_hearAlso_26 ?_
    refine lv_iload_n hC.1 hC.2.1 dX0_hearAlso_29 rfl (lv_at hl 2 rfl) ?_
    obtain ⟨hi_4, hf⟩ := ck_of hf
    obtain ⟨SB_5, eSB_5⟩ : ∃ y : Ob, y = oA SB_3 5 (Int32.toNatClampNeg (SB_3.1 3)) (vp_nar .boolean x2) := ⟨_, rfl⟩
    have hf := lt_nm hf eSB_5
    refine g_zast hC hW 3 rfl hi_4 (w' := w0 cy aB SB_5) (by rw [eSB_5]; rfl) dX0_hearAlso_30 (fun H locs hW => ?_)
    refine lv_aload_n hC.1 hC.2.1 dX0_hearAlso_31 rfl (lv_at hl 0 rfl) ?_
    refine lv_dup hC.1 hC.2.1 dX0_hearAlso_32 rfl ?_
    refine g_get hC hW hin0_hearAlso_0 0 rfl rfl 3 (by decide) 1 rfl rfl dX0_hearAlso_33 ?_
    refine lv_iconst (v := 1) hC.1 hC.2.1 dX0_hearAlso_36 (by decide) ?_
    refine lv_iadd hC.1 hC.2.1 dX0_hearAlso_37 ?_
    obtain ⟨SB_6, eSB_6⟩ : ∃ y : Ob, y = oI SB_5 3 ((SB_5.1 3) + 1) := ⟨_, rfl⟩
    have hf := lt_nm hf eSB_6
    refine g_put hC hW hin0_hearAlso_0 tyX0 tyX0_ok nmX0 0 rfl rfl 3 (by decide) 1 rfl rfl rfl rfl (Nat.le_of_ble_eq_true rfl) (w' := w0 cy aB SB_6) (by rw [eSB_6]; rfl) dX0_hearAlso_38 (fun H locs hW => ?_)
    refine lv_iconst (v := 1) hC.1 hC.2.1 dX0_hearAlso_41 (by decide) ?_
    obtain rfl := Option.some.inj hf
    exact g_zret (v := 1) hC hW (by decide) dX0_hearAlso_42
  · have hf := ite_f hf hc_1
    refine lv_iconst (v := 0) hC.1 hC.2.1 dX0_hearAlso_9 (by decide) ?_
    obtain rfl := Option.some.inj hf
    exact g_zret (v := 0) hC hW (by decide) dX0_hearAlso_10
set_option maxRecDepth 100000 in
set_option maxHeartbeats 4000000 in
theorem c0_hearAlso (l : Launch) (D : va_G) (cy : Nat → ClassId) (ad : Nat → Nat) (aB : Nat → Nat) {x1 : Int32} {x2 : Int32} {SB : Ob} {res : Int32 × Ob} (h : f0_hearAlso x1 x2 SB = some res) : GCi l yX0_hearAlso wsX0_hearAlso rm0_hearAlso [.ref (aB 0), .int x1, .int x2] D cy ad (w0 cy aB SB) (w0 cy aB (res.2)) (res.1) := fun sz => GC.start (own := RX0) (Qc := fun A => QI D cy (w0 cy aB (res.2)) A (res.1)) sz (by decide) rfl rfl (Nat.le_of_ble_eq_true rfl) (fun p e s m below meth c A ls hC hW hl => t0_hearAlso_0 hC _ _ _ _ _ _ _ h hW (lv_sub hl [0, 1, 2] rfl))
abbrev rm0_inAllNights : Room := { frames := 0, cells := 0, slots := 0, locals := 0 }
theorem hdV0_inAllNights : yX0_inAllNights.cls = RX0 ∧ (yX0_inAllNights.cls ≠ "java/lang/invoke/MethodHandle" ∧ yX0_inAllNights.cls ≠ "java/lang/invoke/VarHandle" ∧ (parseMethodDescriptor yX0_inAllNights.desc).map (fun d => d.parameters.length) = some 1) := by decide +kernel
theorem hin0_inAllNights_0 : ∀ x ∈ u_ws RX0 TX0 9, x ∈ wsX0_inAllNights := fun _ h => List.mem_cons_of_mem _ (List.mem_append_right _ h)
set_option maxRecDepth 100000 in
set_option maxHeartbeats 4000000 in
theorem t0_inAllNights_4 (hC : Cx p s m args meth c cX0_inAllNights 4 wsX0_inAllNights RX0 (some .int)) : ∀ n : Nat, ∀ (x2 : Int32) (x3 : Int32) (SB : Ob) (res : Int32) (H : Heap) (locs : List Loc) (ls : Array Slot), f0_inAllNights_4 n x2 x3 SB = some res → GW D cy ad (w0 cy aB SB) A s H locs → lv_has ls 4 [(0, .ref (aB 0)), (2, .int x2), (3, .int x3)] → W p l e rm0_inAllNights s m args below meth c H locs 0 0 (MQ below (QI D cy (w0 cy aB SB) A res) args s 0 0 A) (F0 m 4 ls []) := by
  intro n
  induction n with
  | zero =>
    intro _ _ _ _ _ _ _ hf _ _
    exact nomatch (show (none : Option (Int32)) = some _ from hf)
  | succ n ih =>
    intro x2 x3 SB res H locs ls hf hW hl
    rw [f0_inAllNights_4] at hf
    refine lv_iload_n hC.1 hC.2.1 dX0_inAllNights_4 rfl (lv_at hl 2 rfl) ?_
    refine lv_aload_n hC.1 hC.2.1 dX0_inAllNights_5 rfl (lv_at hl 0 rfl) ?_
    refine g_get hC hW hin0_inAllNights_0 0 rfl rfl 1 (by decide) 1 rfl rfl dX0_inAllNights_6 ?_
    refine lv_icmp_ge (tgt := 27) hC.1 hC.2.1 dX0_inAllNights_9 (by decide) (fun hc_1 => ?_) (fun hc_1 => ?_)
    · have hf := ite_t hf hc_1
      refine lv_iload_n hC.1 hC.2.1 dX0_inAllNights_27 rfl (lv_at hl 1 rfl) ?_
      obtain rfl := Option.some.inj hf
      exact g_iret hC hW dX0_inAllNights_28
    · have hf := ite_f hf hc_1
      refine lv_iload_n hC.1 hC.2.1 dX0_inAllNights_12 rfl (lv_at hl 1 rfl) ?_
      refine lv_aload_n hC.1 hC.2.1 dX0_inAllNights_13 rfl (lv_at hl 0 rfl) ?_
      refine g_get hC hW hin0_inAllNights_0 0 rfl rfl 2 (by decide) 2 rfl rfl dX0_inAllNights_14 ?_
      refine lv_iload_n hC.1 hC.2.1 dX0_inAllNights_17 rfl (lv_at hl 2 rfl) ?_
      obtain ⟨hi_2, hf⟩ := ck_of hf
      refine g_iald hC hW 1 rfl hi_2 dX0_inAllNights_18 ?_
      refine lv_iand hC.1 hC.2.1 dX0_inAllNights_19 ?_
      refine lv_topi (fun x2_3 ex2_3 => ?_)
      have hf := lt_nm hf ex2_3
      refine lv_istore_n (lv' := [(2, .int x2_3), (0, .ref (aB 0)), (3, .int x3)]) hC.1 hC.2.1 dX0_inAllNights_20 rfl hl (by decide) rfl (fun ls hl => ?_)
      obtain ⟨x3_4, ex3_4⟩ : ∃ y : Int32, y = x3 + 1 := ⟨_, rfl⟩
      have hf := lt_nm hf ex3_4
      refine lv_iinc (v := x3_4) (lv' := [(3, .int x3_4), (2, .int x2_3), (0, .ref (aB 0))]) hC.1 hC.2.1 dX0_inAllNights_21 hl (k := 2) rfl (by rw [ex3_4]; rfl) (by decide) rfl (fun ls hl => ?_)
      refine lv_goto (tgt := 4) hC.1 hC.2.1 dX0_inAllNights_24 (by decide) ?_
      exact ih _ _ _ _ _ _ _ hf hW (lv_sub hl [2, 1, 0] rfl)
set_option maxRecDepth 100000 in
set_option maxHeartbeats 4000000 in
theorem t0_inAllNights_0 (hC : Cx p s m args meth c cX0_inAllNights 4 wsX0_inAllNights RX0 (some .int)) : ∀ (x1 : Int32) (SB : Ob) (res : Int32) (H : Heap) (locs : List Loc) (ls : Array Slot), f0_inAllNights x1 SB = some res → GW D cy ad (w0 cy aB SB) A s H locs → lv_has ls 4 [(0, .ref (aB 0)), (1, .int x1)] → W p l e rm0_inAllNights s m args below meth c H locs 0 0 (MQ below (QI D cy (w0 cy aB SB) A res) args s 0 0 A) (F0 m 0 ls []) := by
  intro x1 SB res H locs ls hf hW hl
  unfold f0_inAllNights at hf
  refine lv_iload_n hC.1 hC.2.1 dX0_inAllNights_0 rfl (lv_at hl 1 rfl) ?_
  refine lv_istore_n (lv' := [(2, .int x1), (0, .ref (aB 0)), (1, .int x1)]) hC.1 hC.2.1 dX0_inAllNights_1 rfl hl (by decide) rfl (fun ls hl => ?_)
  refine lv_iconst (v := 0) hC.1 hC.2.1 dX0_inAllNights_2 (by decide) ?_
  refine lv_istore_n (lv' := [(3, .int 0), (2, .int x1), (0, .ref (aB 0)), (1, .int x1)]) hC.1 hC.2.1 dX0_inAllNights_3 rfl hl (by decide) rfl (fun ls hl => ?_)
  exact t0_inAllNights_4 hC _ _ _ _ _ _ _ _ hf hW (lv_sub hl [2, 1, 0] rfl)
set_option maxRecDepth 100000 in
set_option maxHeartbeats 4000000 in
theorem c0_inAllNights (l : Launch) (D : va_G) (cy : Nat → ClassId) (ad : Nat → Nat) (aB : Nat → Nat) {x1 : Int32} {SB : Ob} {res : Int32} (h : f0_inAllNights x1 SB = some res) : GCi l yX0_inAllNights wsX0_inAllNights rm0_inAllNights [.ref (aB 0), .int x1] D cy ad (w0 cy aB SB) (w0 cy aB SB) res := fun sz => GC.start (own := RX0) (Qc := fun A => QI D cy (w0 cy aB SB) A res) sz (by decide) rfl rfl (Nat.le_of_ble_eq_true rfl) (fun p e s m below meth c A ls hC hW hl => t0_inAllNights_0 hC _ _ _ _ _ _ h hW (lv_sub hl [0, 1] rfl))
abbrev rm0_firstNightWithNone : Room := { frames := 0, cells := 0, slots := 0, locals := 0 }
theorem hdV0_firstNightWithNone : yX0_firstNightWithNone.cls = RX0 ∧ (yX0_firstNightWithNone.cls ≠ "java/lang/invoke/MethodHandle" ∧ yX0_firstNightWithNone.cls ≠ "java/lang/invoke/VarHandle" ∧ (parseMethodDescriptor yX0_firstNightWithNone.desc).map (fun d => d.parameters.length) = some 1) := by decide +kernel
theorem hin0_firstNightWithNone_0 : ∀ x ∈ u_ws RX0 TX0 9, x ∈ wsX0_firstNightWithNone := fun _ h => List.mem_cons_of_mem _ (List.mem_append_right _ h)
set_option maxRecDepth 100000 in
set_option maxHeartbeats 4000000 in
theorem t0_firstNightWithNone_49 (hC : Cx p s m args meth c cX0_firstNightWithNone 4 wsX0_firstNightWithNone RX0 (some .int)) : ∀ (z0 : Int32) (SB : Ob) (res : Int32) (H : Heap) (locs : List Loc) (ls : Array Slot), f0_firstNightWithNone_49 z0 SB = some res → GW D cy ad (w0 cy aB SB) A s H locs → lv_has ls 4 [] → W p l e rm0_firstNightWithNone s m args below meth c H locs 0 0 (MQ below (QI D cy (w0 cy aB SB) A res) args s 0 0 A) (F0 m 49 ls [.int z0]) := by
  intro z0 SB res H locs ls hf hW hl
  unfold f0_firstNightWithNone_49 at hf
  obtain rfl := Option.some.inj hf
  exact g_iret hC hW dX0_firstNightWithNone_49
set_option maxRecDepth 100000 in
set_option maxHeartbeats 4000000 in
theorem t0_firstNightWithNone_6 (hC : Cx p s m args meth c cX0_firstNightWithNone 4 wsX0_firstNightWithNone RX0 (some .int)) : ∀ n : Nat, ∀ (x1 : Int32) (x2 : Int32) (x3 : Int32) (SB : Ob) (res : Int32) (H : Heap) (locs : List Loc) (ls : Array Slot), f0_firstNightWithNone_6 n x1 x2 x3 SB = some res → GW D cy ad (w0 cy aB SB) A s H locs → lv_has ls 4 [(0, .ref (aB 0)), (1, .int x1), (2, .int x2), (3, .int x3)] → W p l e rm0_firstNightWithNone s m args below meth c H locs 0 0 (MQ below (QI D cy (w0 cy aB SB) A res) args s 0 0 A) (F0 m 6 ls []) := by
  intro n
  induction n with
  | zero =>
    intro _ _ _ _ _ _ _ _ hf _ _
    exact nomatch (show (none : Option (Int32)) = some _ from hf)
  | succ n ih =>
    intro x1 x2 x3 SB res H locs ls hf hW hl
    rw [f0_firstNightWithNone_6] at hf
    refine lv_iload_n hC.1 hC.2.1 dX0_firstNightWithNone_6 rfl (lv_at hl 3 rfl) ?_
    refine lv_aload_n hC.1 hC.2.1 dX0_firstNightWithNone_7 rfl (lv_at hl 0 rfl) ?_
    refine g_get hC hW hin0_firstNightWithNone_0 0 rfl rfl 1 (by decide) 1 rfl rfl dX0_firstNightWithNone_8 ?_
    refine lv_icmp_ge (tgt := 35) hC.1 hC.2.1 dX0_firstNightWithNone_11 (by decide) (fun hc_1 => ?_) (fun hc_1 => ?_)
    · have hf := ite_t hf hc_1
      refine lv_iload_n hC.1 hC.2.1 dX0_firstNightWithNone_35 rfl (lv_at hl 2 rfl) ?_
      refine lv_iload_n hC.1 hC.2.1 dX0_firstNightWithNone_36 rfl (lv_at hl 1 rfl) ?_
      refine lv_iand hC.1 hC.2.1 dX0_firstNightWithNone_37 ?_
      refine lv_if_ne (tgt := 48) hC.1 hC.2.1 dX0_firstNightWithNone_38 (by decide) (fun hc_2 => ?_) (fun hc_2 => ?_)
      · have hf := ite_f hf hc_2
        refine lv_iconst (v := (-1)) hC.1 hC.2.1 dX0_firstNightWithNone_48 (by decide) ?_
        exact t0_firstNightWithNone_49 hC  _ _ _ _ _ _ hf hW (lv_sub hl [] rfl)
      · have hf := ite_t hf hc_2
        refine lv_aload_n hC.1 hC.2.1 dX0_firstNightWithNone_41 rfl (lv_at hl 0 rfl) ?_
        refine g_get hC hW hin0_firstNightWithNone_0 0 rfl rfl 1 (by decide) 1 rfl rfl dX0_firstNightWithNone_42 ?_
        refine lv_goto (tgt := 49) hC.1 hC.2.1 dX0_firstNightWithNone_45 (by decide) ?_
        exact t0_firstNightWithNone_49 hC  _ _ _ _ _ _ hf hW (lv_sub hl [] rfl)
    · have hf := ite_f hf hc_1
      refine lv_iload_n hC.1 hC.2.1 dX0_firstNightWithNone_14 rfl (lv_at hl 2 rfl) ?_
      refine lv_aload_n hC.1 hC.2.1 dX0_firstNightWithNone_15 rfl (lv_at hl 0 rfl) ?_
      refine g_get hC hW hin0_firstNightWithNone_0 0 rfl rfl 2 (by decide) 2 rfl rfl dX0_firstNightWithNone_16 ?_
      refine lv_iload_n hC.1 hC.2.1 dX0_firstNightWithNone_19 rfl (lv_at hl 3 rfl) ?_
      obtain ⟨hi_3, hf⟩ := ck_of hf
      refine g_iald hC hW 1 rfl hi_3 dX0_firstNightWithNone_20 ?_
      refine lv_iand hC.1 hC.2.1 dX0_firstNightWithNone_21 ?_
      refine lv_topi (fun x2_4 ex2_4 => ?_)
      have hf := lt_nm hf ex2_4
      refine lv_istore_n (lv' := [(2, .int x2_4), (0, .ref (aB 0)), (1, .int x1), (3, .int x3)]) hC.1 hC.2.1 dX0_firstNightWithNone_22 rfl hl (by decide) rfl (fun ls hl => ?_)
      refine lv_iload_n hC.1 hC.2.1 dX0_firstNightWithNone_23 rfl (lv_at hl 0 rfl) ?_
      refine lv_if_ne (tgt := 29) hC.1 hC.2.1 dX0_firstNightWithNone_24 (by decide) (fun hc_5 => ?_) (fun hc_5 => ?_)
      · have hf := ite_f hf hc_5
        obtain ⟨x3_6, ex3_6⟩ : ∃ y : Int32, y = x3 + 1 := ⟨_, rfl⟩
        have hf := lt_nm hf ex3_6
        refine lv_iinc (v := x3_6) (lv' := [(3, .int x3_6), (2, .int x2_4), (0, .ref (aB 0)), (1, .int x1)]) hC.1 hC.2.1 dX0_firstNightWithNone_29 hl (k := 3) rfl (by rw [ex3_6]; rfl) (by decide) rfl (fun ls hl => ?_)
        refine lv_goto (tgt := 6) hC.1 hC.2.1 dX0_firstNightWithNone_32 (by decide) ?_
        exact ih _ _ _ _ _ _ _ _ hf hW (lv_sub hl [2, 3, 1, 0] rfl)
      · have hf := ite_t hf hc_5
        refine lv_iload_n hC.1 hC.2.1 dX0_firstNightWithNone_27 rfl (lv_at hl 3 rfl) ?_
        obtain rfl := Option.some.inj hf
        exact g_iret hC hW dX0_firstNightWithNone_28
set_option maxRecDepth 100000 in
set_option maxHeartbeats 4000000 in
theorem t0_firstNightWithNone_0 (hC : Cx p s m args meth c cX0_firstNightWithNone 4 wsX0_firstNightWithNone RX0 (some .int)) : ∀ (x1 : Int32) (SB : Ob) (res : Int32) (H : Heap) (locs : List Loc) (ls : Array Slot), f0_firstNightWithNone x1 SB = some res → GW D cy ad (w0 cy aB SB) A s H locs → lv_has ls 4 [(0, .ref (aB 0)), (1, .int x1)] → W p l e rm0_firstNightWithNone s m args below meth c H locs 0 0 (MQ below (QI D cy (w0 cy aB SB) A res) args s 0 0 A) (F0 m 0 ls []) := by
  intro x1 SB res H locs ls hf hW hl
  unfold f0_firstNightWithNone at hf
  refine lv_sipush (v := 255) hC.1 hC.2.1 dX0_firstNightWithNone_0 (by decide) ?_
  refine lv_istore_n (lv' := [(2, .int 255), (0, .ref (aB 0)), (1, .int x1)]) hC.1 hC.2.1 dX0_firstNightWithNone_3 rfl hl (by decide) rfl (fun ls hl => ?_)
  refine lv_iconst (v := 0) hC.1 hC.2.1 dX0_firstNightWithNone_4 (by decide) ?_
  refine lv_istore_n (lv' := [(3, .int 0), (2, .int 255), (0, .ref (aB 0)), (1, .int x1)]) hC.1 hC.2.1 dX0_firstNightWithNone_5 rfl hl (by decide) rfl (fun ls hl => ?_)
  exact t0_firstNightWithNone_6 hC _ _ _ _ _ _ _ _ _ hf hW (lv_sub hl [2, 3, 1, 0] rfl)
set_option maxRecDepth 100000 in
set_option maxHeartbeats 4000000 in
theorem c0_firstNightWithNone (l : Launch) (D : va_G) (cy : Nat → ClassId) (ad : Nat → Nat) (aB : Nat → Nat) {x1 : Int32} {SB : Ob} {res : Int32} (h : f0_firstNightWithNone x1 SB = some res) : GCi l yX0_firstNightWithNone wsX0_firstNightWithNone rm0_firstNightWithNone [.ref (aB 0), .int x1] D cy ad (w0 cy aB SB) (w0 cy aB SB) res := fun sz => GC.start (own := RX0) (Qc := fun A => QI D cy (w0 cy aB SB) A res) sz (by decide) rfl rfl (Nat.le_of_ble_eq_true rfl) (fun p e s m below meth c A ls hC hW hl => t0_firstNightWithNone_0 hC _ _ _ _ _ _ h hW (lv_sub hl [0, 1] rfl))
end
