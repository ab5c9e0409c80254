/-! laid by program: functions, walks and contracts of 4_clear, 4_addGuest, 4_addSign, 4_letShow, 4_guestNamed, 4_signNamed, 4_hasGuest, 4_hasSign, 4_hasWorld, 4_all, 4_worldsOf, 4_worldsShowing, 4_guestsIn, 4_isAlone, 4_isSo, 4_worldsBy, 4_sayable -/
theorem dX4_clear_0 : decode cX4_clear 0 = .ok (.aload_n 0, 1) := by decide +kernel
theorem dX4_clear_1 : decode cX4_clear 1 = .ok (.iconst 0, 1) := by decide +kernel
theorem dX4_clear_2 : decode cX4_clear 2 = .ok (.putfield 46, 3) := by decide +kernel
theorem dX4_clear_5 : decode cX4_clear 5 = .ok (.aload_n 0, 1) := by decide +kernel
theorem dX4_clear_6 : decode cX4_clear 6 = .ok (.iconst 0, 1) := by decide +kernel
theorem dX4_clear_7 : decode cX4_clear 7 = .ok (.putfield 50, 3) := by decide +kernel
theorem dX4_clear_10 : decode cX4_clear 10 = .ok (.iconst 0, 1) := by decide +kernel
theorem dX4_clear_11 : decode cX4_clear 11 = .ok (.istore_n 1, 1) := by decide +kernel
theorem dX4_clear_12 : decode cX4_clear 12 = .ok (.iload_n 1, 1) := by decide +kernel
theorem dX4_clear_13 : decode cX4_clear 13 = .ok (.bipush 32, 2) := by decide +kernel
theorem dX4_clear_15 : decode cX4_clear 15 = .ok (.if_icmp .ge 16, 3) := by decide +kernel
theorem dX4_clear_18 : decode cX4_clear 18 = .ok (.aload_n 0, 1) := by decide +kernel
theorem dX4_clear_19 : decode cX4_clear 19 = .ok (.getfield 43, 3) := by decide +kernel
theorem dX4_clear_22 : decode cX4_clear 22 = .ok (.iload_n 1, 1) := by decide +kernel
theorem dX4_clear_23 : decode cX4_clear 23 = .ok (.iconst 0, 1) := by decide +kernel
theorem dX4_clear_24 : decode cX4_clear 24 = .ok (.iastore, 1) := by decide +kernel
theorem dX4_clear_25 : decode cX4_clear 25 = .ok (.iinc 1 1, 3) := by decide +kernel
theorem dX4_clear_28 : decode cX4_clear 28 = .ok (.goto (-16), 3) := by decide +kernel
theorem dX4_clear_31 : decode cX4_clear 31 = .ok (.return_, 1) := by decide +kernel
theorem dX4_addGuest_0 : decode cX4_addGuest 0 = .ok (.aload_n 0, 1) := by decide +kernel
theorem dX4_addGuest_1 : decode cX4_addGuest 1 = .ok (.getfield 46, 3) := by decide +kernel
theorem dX4_addGuest_4 : decode cX4_addGuest 4 = .ok (.bipush 8, 2) := by decide +kernel
theorem dX4_addGuest_6 : decode cX4_addGuest 6 = .ok (.if_icmp .ge 75, 3) := by decide +kernel
theorem dX4_addGuest_9 : decode cX4_addGuest 9 = .ok (.aload_n 0, 1) := by decide +kernel
theorem dX4_addGuest_10 : decode cX4_addGuest 10 = .ok (.getfield 9, 3) := by decide +kernel
theorem dX4_addGuest_13 : decode cX4_addGuest 13 = .ok (.aload_n 0, 1) := by decide +kernel
theorem dX4_addGuest_14 : decode cX4_addGuest 14 = .ok (.getfield 46, 3) := by decide +kernel
theorem dX4_addGuest_17 : decode cX4_addGuest 17 = .ok (.lload_n 1, 1) := by decide +kernel
theorem dX4_addGuest_18 : decode cX4_addGuest 18 = .ok (.lastore, 1) := by decide +kernel
theorem dX4_addGuest_19 : decode cX4_addGuest 19 = .ok (.aload_n 0, 1) := by decide +kernel
theorem dX4_addGuest_20 : decode cX4_addGuest 20 = .ok (.getfield 15, 3) := by decide +kernel
theorem dX4_addGuest_23 : decode cX4_addGuest 23 = .ok (.aload_n 0, 1) := by decide +kernel
theorem dX4_addGuest_24 : decode cX4_addGuest 24 = .ok (.getfield 46, 3) := by decide +kernel
theorem dX4_addGuest_27 : decode cX4_addGuest 27 = .ok (.iload_n 3, 1) := by decide +kernel
theorem dX4_addGuest_28 : decode cX4_addGuest 28 = .ok (.iastore, 1) := by decide +kernel
theorem dX4_addGuest_29 : decode cX4_addGuest 29 = .ok (.aload_n 0, 1) := by decide +kernel
theorem dX4_addGuest_30 : decode cX4_addGuest 30 = .ok (.getfield 19, 3) := by decide +kernel
theorem dX4_addGuest_33 : decode cX4_addGuest 33 = .ok (.aload_n 0, 1) := by decide +kernel
theorem dX4_addGuest_34 : decode cX4_addGuest 34 = .ok (.getfield 46, 3) := by decide +kernel
theorem dX4_addGuest_37 : decode cX4_addGuest 37 = .ok (.iload 4, 2) := by decide +kernel
theorem dX4_addGuest_39 : decode cX4_addGuest 39 = .ok (.iastore, 1) := by decide +kernel
theorem dX4_addGuest_40 : decode cX4_addGuest 40 = .ok (.aload_n 0, 1) := by decide +kernel
theorem dX4_addGuest_41 : decode cX4_addGuest 41 = .ok (.getfield 22, 3) := by decide +kernel
theorem dX4_addGuest_44 : decode cX4_addGuest 44 = .ok (.aload_n 0, 1) := by decide +kernel
theorem dX4_addGuest_45 : decode cX4_addGuest 45 = .ok (.getfield 46, 3) := by decide +kernel
theorem dX4_addGuest_48 : decode cX4_addGuest 48 = .ok (.iload 5, 2) := by decide +kernel
theorem dX4_addGuest_50 : decode cX4_addGuest 50 = .ok (.iastore, 1) := by decide +kernel
theorem dX4_addGuest_51 : decode cX4_addGuest 51 = .ok (.aload_n 0, 1) := by decide +kernel
theorem dX4_addGuest_52 : decode cX4_addGuest 52 = .ok (.getfield 25, 3) := by decide +kernel
theorem dX4_addGuest_55 : decode cX4_addGuest 55 = .ok (.aload_n 0, 1) := by decide +kernel
theorem dX4_addGuest_56 : decode cX4_addGuest 56 = .ok (.getfield 46, 3) := by decide +kernel
theorem dX4_addGuest_59 : decode cX4_addGuest 59 = .ok (.iconst 0, 1) := by decide +kernel
theorem dX4_addGuest_60 : decode cX4_addGuest 60 = .ok (.iastore, 1) := by decide +kernel
theorem dX4_addGuest_61 : decode cX4_addGuest 61 = .ok (.aload_n 0, 1) := by decide +kernel
theorem dX4_addGuest_62 : decode cX4_addGuest 62 = .ok (.getfield 28, 3) := by decide +kernel
theorem dX4_addGuest_65 : decode cX4_addGuest 65 = .ok (.aload_n 0, 1) := by decide +kernel
theorem dX4_addGuest_66 : decode cX4_addGuest 66 = .ok (.getfield 46, 3) := by decide +kernel
theorem dX4_addGuest_69 : decode cX4_addGuest 69 = .ok (.iconst 0, 1) := by decide +kernel
theorem dX4_addGuest_70 : decode cX4_addGuest 70 = .ok (.iastore, 1) := by decide +kernel
theorem dX4_addGuest_71 : decode cX4_addGuest 71 = .ok (.aload_n 0, 1) := by decide +kernel
theorem dX4_addGuest_72 : decode cX4_addGuest 72 = .ok (.dup, 1) := by decide +kernel
theorem dX4_addGuest_73 : decode cX4_addGuest 73 = .ok (.getfield 46, 3) := by decide +kernel
theorem dX4_addGuest_76 : decode cX4_addGuest 76 = .ok (.iconst 1, 1) := by decide +kernel
theorem dX4_addGuest_77 : decode cX4_addGuest 77 = .ok (.iadd, 1) := by decide +kernel
theorem dX4_addGuest_78 : decode cX4_addGuest 78 = .ok (.putfield 46, 3) := by decide +kernel
theorem dX4_addGuest_81 : decode cX4_addGuest 81 = .ok (.return_, 1) := by decide +kernel
theorem dX4_addSign_0 : decode cX4_addSign 0 = .ok (.aload_n 0, 1) := by decide +kernel
theorem dX4_addSign_1 : decode cX4_addSign 1 = .ok (.getfield 50, 3) := by decide +kernel
theorem dX4_addSign_4 : decode cX4_addSign 4 = .ok (.bipush 6, 2) := by decide +kernel
theorem dX4_addSign_6 : decode cX4_addSign 6 = .ok (.if_icmp .ge 43, 3) := by decide +kernel
theorem dX4_addSign_9 : decode cX4_addSign 9 = .ok (.aload_n 0, 1) := by decide +kernel
theorem dX4_addSign_10 : decode cX4_addSign 10 = .ok (.getfield 34, 3) := by decide +kernel
theorem dX4_addSign_13 : decode cX4_addSign 13 = .ok (.aload_n 0, 1) := by decide +kernel
theorem dX4_addSign_14 : decode cX4_addSign 14 = .ok (.getfield 50, 3) := by decide +kernel
theorem dX4_addSign_17 : decode cX4_addSign 17 = .ok (.lload_n 1, 1) := by decide +kernel
theorem dX4_addSign_18 : decode cX4_addSign 18 = .ok (.lastore, 1) := by decide +kernel
theorem dX4_addSign_19 : decode cX4_addSign 19 = .ok (.aload_n 0, 1) := by decide +kernel
theorem dX4_addSign_20 : decode cX4_addSign 20 = .ok (.getfield 37, 3) := by decide +kernel
theorem dX4_addSign_23 : decode cX4_addSign 23 = .ok (.aload_n 0, 1) := by decide +kernel
theorem dX4_addSign_24 : decode cX4_addSign 24 = .ok (.getfield 50, 3) := by decide +kernel
theorem dX4_addSign_27 : decode cX4_addSign 27 = .ok (.iload_n 3, 1) := by decide +kernel
theorem dX4_addSign_28 : decode cX4_addSign 28 = .ok (.iastore, 1) := by decide +kernel
theorem dX4_addSign_29 : decode cX4_addSign 29 = .ok (.aload_n 0, 1) := by decide +kernel
theorem dX4_addSign_30 : decode cX4_addSign 30 = .ok (.getfield 40, 3) := by decide +kernel
theorem dX4_addSign_33 : decode cX4_addSign 33 = .ok (.aload_n 0, 1) := by decide +kernel
theorem dX4_addSign_34 : decode cX4_addSign 34 = .ok (.getfield 50, 3) := by decide +kernel
theorem dX4_addSign_37 : decode cX4_addSign 37 = .ok (.iconst 0, 1) := by decide +kernel
theorem dX4_addSign_38 : decode cX4_addSign 38 = .ok (.iastore, 1) := by decide +kernel
theorem dX4_addSign_39 : decode cX4_addSign 39 = .ok (.aload_n 0, 1) := by decide +kernel
theorem dX4_addSign_40 : decode cX4_addSign 40 = .ok (.dup, 1) := by decide +kernel
theorem dX4_addSign_41 : decode cX4_addSign 41 = .ok (.getfield 50, 3) := by decide +kernel
theorem dX4_addSign_44 : decode cX4_addSign 44 = .ok (.iconst 1, 1) := by decide +kernel
theorem dX4_addSign_45 : decode cX4_addSign 45 = .ok (.iadd, 1) := by decide +kernel
theorem dX4_addSign_46 : decode cX4_addSign 46 = .ok (.putfield 50, 3) := by decide +kernel
theorem dX4_addSign_49 : decode cX4_addSign 49 = .ok (.return_, 1) := by decide +kernel
theorem dX4_letShow_0 : decode cX4_letShow 0 = .ok (.aload_n 0, 1) := by decide +kernel
theorem dX4_letShow_1 : decode cX4_letShow 1 = .ok (.getfield 40, 3) := by decide +kernel
theorem dX4_letShow_4 : decode cX4_letShow 4 = .ok (.iload_n 1, 1) := by decide +kernel
theorem dX4_letShow_5 : decode cX4_letShow 5 = .ok (.iload_n 2, 1) := by decide +kernel
theorem dX4_letShow_6 : decode cX4_letShow 6 = .ok (.iastore, 1) := by decide +kernel
theorem dX4_letShow_7 : decode cX4_letShow 7 = .ok (.iconst 0, 1) := by decide +kernel
theorem dX4_letShow_8 : decode cX4_letShow 8 = .ok (.istore_n 3, 1) := by decide +kernel
theorem dX4_letShow_9 : decode cX4_letShow 9 = .ok (.iload_n 3, 1) := by decide +kernel
theorem dX4_letShow_10 : decode cX4_letShow 10 = .ok (.bipush 32, 2) := by decide +kernel
theorem dX4_letShow_12 : decode cX4_letShow 12 = .ok (.if_icmp .ge 25, 3) := by decide +kernel
theorem dX4_letShow_15 : decode cX4_letShow 15 = .ok (.aload_n 0, 1) := by decide +kernel
theorem dX4_letShow_16 : decode cX4_letShow 16 = .ok (.getfield 43, 3) := by decide +kernel
theorem dX4_letShow_19 : decode cX4_letShow 19 = .ok (.iload_n 3, 1) := by decide +kernel
theorem dX4_letShow_20 : decode cX4_letShow 20 = .ok (.dup2, 1) := by decide +kernel
theorem dX4_letShow_21 : decode cX4_letShow 21 = .ok (.iaload, 1) := by decide +kernel
theorem dX4_letShow_22 : decode cX4_letShow 22 = .ok (.iload_n 2, 1) := by decide +kernel
theorem dX4_letShow_23 : decode cX4_letShow 23 = .ok (.iload_n 3, 1) := by decide +kernel
theorem dX4_letShow_24 : decode cX4_letShow 24 = .ok (.iushr, 1) := by decide +kernel
theorem dX4_letShow_25 : decode cX4_letShow 25 = .ok (.iconst 1, 1) := by decide +kernel
theorem dX4_letShow_26 : decode cX4_letShow 26 = .ok (.iand, 1) := by decide +kernel
theorem dX4_letShow_27 : decode cX4_letShow 27 = .ok (.iload_n 1, 1) := by decide +kernel
theorem dX4_letShow_28 : decode cX4_letShow 28 = .ok (.ishl, 1) := by decide +kernel
theorem dX4_letShow_29 : decode cX4_letShow 29 = .ok (.ior, 1) := by decide +kernel
theorem dX4_letShow_30 : decode cX4_letShow 30 = .ok (.iastore, 1) := by decide +kernel
theorem dX4_letShow_31 : decode cX4_letShow 31 = .ok (.iinc 3 1, 3) := by decide +kernel
theorem dX4_letShow_34 : decode cX4_letShow 34 = .ok (.goto (-25), 3) := by decide +kernel
theorem dX4_letShow_37 : decode cX4_letShow 37 = .ok (.return_, 1) := by decide +kernel
theorem dX4_guestNamed_0 : decode cX4_guestNamed 0 = .ok (.iconst 0, 1) := by decide +kernel
theorem dX4_guestNamed_1 : decode cX4_guestNamed 1 = .ok (.istore_n 3, 1) := by decide +kernel
theorem dX4_guestNamed_2 : decode cX4_guestNamed 2 = .ok (.iload_n 3, 1) := by decide +kernel
theorem dX4_guestNamed_3 : decode cX4_guestNamed 3 = .ok (.aload_n 0, 1) := by decide +kernel
theorem dX4_guestNamed_4 : decode cX4_guestNamed 4 = .ok (.getfield 46, 3) := by decide +kernel
theorem dX4_guestNamed_7 : decode cX4_guestNamed 7 = .ok (.if_icmp .ge 22, 3) := by decide +kernel
theorem dX4_guestNamed_10 : decode cX4_guestNamed 10 = .ok (.aload_n 0, 1) := by decide +kernel
theorem dX4_guestNamed_11 : decode cX4_guestNamed 11 = .ok (.getfield 9, 3) := by decide +kernel
theorem dX4_guestNamed_14 : decode cX4_guestNamed 14 = .ok (.iload_n 3, 1) := by decide +kernel
theorem dX4_guestNamed_15 : decode cX4_guestNamed 15 = .ok (.laload, 1) := by decide +kernel
theorem dX4_guestNamed_16 : decode cX4_guestNamed 16 = .ok (.lload_n 1, 1) := by decide +kernel
theorem dX4_guestNamed_17 : decode cX4_guestNamed 17 = .ok (.lcmp, 1) := by decide +kernel
theorem dX4_guestNamed_18 : decode cX4_guestNamed 18 = .ok (.ifCond .ne 5, 3) := by decide +kernel
theorem dX4_guestNamed_21 : decode cX4_guestNamed 21 = .ok (.iload_n 3, 1) := by decide +kernel
theorem dX4_guestNamed_22 : decode cX4_guestNamed 22 = .ok (.ireturn, 1) := by decide +kernel
theorem dX4_guestNamed_23 : decode cX4_guestNamed 23 = .ok (.iinc 3 1, 3) := by decide +kernel
theorem dX4_guestNamed_26 : decode cX4_guestNamed 26 = .ok (.goto (-24), 3) := by decide +kernel
theorem dX4_guestNamed_29 : decode cX4_guestNamed 29 = .ok (.iconst (-1), 1) := by decide +kernel
theorem dX4_guestNamed_30 : decode cX4_guestNamed 30 = .ok (.ireturn, 1) := by decide +kernel
theorem dX4_signNamed_0 : decode cX4_signNamed 0 = .ok (.iconst 0, 1) := by decide +kernel
theorem dX4_signNamed_1 : decode cX4_signNamed 1 = .ok (.istore_n 3, 1) := by decide +kernel
theorem dX4_signNamed_2 : decode cX4_signNamed 2 = .ok (.iload_n 3, 1) := by decide +kernel
theorem dX4_signNamed_3 : decode cX4_signNamed 3 = .ok (.aload_n 0, 1) := by decide +kernel
theorem dX4_signNamed_4 : decode cX4_signNamed 4 = .ok (.getfield 50, 3) := by decide +kernel
theorem dX4_signNamed_7 : decode cX4_signNamed 7 = .ok (.if_icmp .ge 22, 3) := by decide +kernel
theorem dX4_signNamed_10 : decode cX4_signNamed 10 = .ok (.aload_n 0, 1) := by decide +kernel
theorem dX4_signNamed_11 : decode cX4_signNamed 11 = .ok (.getfield 34, 3) := by decide +kernel
theorem dX4_signNamed_14 : decode cX4_signNamed 14 = .ok (.iload_n 3, 1) := by decide +kernel
theorem dX4_signNamed_15 : decode cX4_signNamed 15 = .ok (.laload, 1) := by decide +kernel
theorem dX4_signNamed_16 : decode cX4_signNamed 16 = .ok (.lload_n 1, 1) := by decide +kernel
theorem dX4_signNamed_17 : decode cX4_signNamed 17 = .ok (.lcmp, 1) := by decide +kernel
theorem dX4_signNamed_18 : decode cX4_signNamed 18 = .ok (.ifCond .ne 5, 3) := by decide +kernel
theorem dX4_signNamed_21 : decode cX4_signNamed 21 = .ok (.iload_n 3, 1) := by decide +kernel
theorem dX4_signNamed_22 : decode cX4_signNamed 22 = .ok (.ireturn, 1) := by decide +kernel
theorem dX4_signNamed_23 : decode cX4_signNamed 23 = .ok (.iinc 3 1, 3) := by decide +kernel
theorem dX4_signNamed_26 : decode cX4_signNamed 26 = .ok (.goto (-24), 3) := by decide +kernel
theorem dX4_signNamed_29 : decode cX4_signNamed 29 = .ok (.iconst (-1), 1) := by decide +kernel
theorem dX4_signNamed_30 : decode cX4_signNamed 30 = .ok (.ireturn, 1) := by decide +kernel
theorem dX4_hasGuest_0 : decode cX4_hasGuest 0 = .ok (.iload_n 1, 1) := by decide +kernel
theorem dX4_hasGuest_1 : decode cX4_hasGuest 1 = .ok (.ifCond .lt 15, 3) := by decide +kernel
theorem dX4_hasGuest_4 : decode cX4_hasGuest 4 = .ok (.iload_n 1, 1) := by decide +kernel
theorem dX4_hasGuest_5 : decode cX4_hasGuest 5 = .ok (.aload_n 0, 1) := by decide +kernel
theorem dX4_hasGuest_6 : decode cX4_hasGuest 6 = .ok (.getfield 46, 3) := by decide +kernel
theorem dX4_hasGuest_9 : decode cX4_hasGuest 9 = .ok (.if_icmp .ge 7, 3) := by decide +kernel
theorem dX4_hasGuest_12 : decode cX4_hasGuest 12 = .ok (.iconst 1, 1) := by decide +kernel
theorem dX4_hasGuest_13 : decode cX4_hasGuest 13 = .ok (.goto 4, 3) := by decide +kernel
theorem dX4_hasGuest_16 : decode cX4_hasGuest 16 = .ok (.iconst 0, 1) := by decide +kernel
theorem dX4_hasGuest_17 : decode cX4_hasGuest 17 = .ok (.ireturn, 1) := by decide +kernel
theorem dX4_hasSign_0 : decode cX4_hasSign 0 = .ok (.iload_n 1, 1) := by decide +kernel
theorem dX4_hasSign_1 : decode cX4_hasSign 1 = .ok (.ifCond .lt 15, 3) := by decide +kernel
theorem dX4_hasSign_4 : decode cX4_hasSign 4 = .ok (.iload_n 1, 1) := by decide +kernel
theorem dX4_hasSign_5 : decode cX4_hasSign 5 = .ok (.aload_n 0, 1) := by decide +kernel
theorem dX4_hasSign_6 : decode cX4_hasSign 6 = .ok (.getfield 50, 3) := by decide +kernel
theorem dX4_hasSign_9 : decode cX4_hasSign 9 = .ok (.if_icmp .ge 7, 3) := by decide +kernel
theorem dX4_hasSign_12 : decode cX4_hasSign 12 = .ok (.iconst 1, 1) := by decide +kernel
theorem dX4_hasSign_13 : decode cX4_hasSign 13 = .ok (.goto 4, 3) := by decide +kernel
theorem dX4_hasSign_16 : decode cX4_hasSign 16 = .ok (.iconst 0, 1) := by decide +kernel
theorem dX4_hasSign_17 : decode cX4_hasSign 17 = .ok (.ireturn, 1) := by decide +kernel
theorem dX4_hasWorld_0 : decode cX4_hasWorld 0 = .ok (.iload_n 1, 1) := by decide +kernel
theorem dX4_hasWorld_1 : decode cX4_hasWorld 1 = .ok (.ifCond .lt 17, 3) := by decide +kernel
theorem dX4_hasWorld_4 : decode cX4_hasWorld 4 = .ok (.iload_n 1, 1) := by decide +kernel
theorem dX4_hasWorld_5 : decode cX4_hasWorld 5 = .ok (.aload_n 0, 1) := by decide +kernel
theorem dX4_hasWorld_6 : decode cX4_hasWorld 6 = .ok (.getfield 46, 3) := by decide +kernel
theorem dX4_hasWorld_9 : decode cX4_hasWorld 9 = .ok (.iconst 4, 1) := by decide +kernel
theorem dX4_hasWorld_10 : decode cX4_hasWorld 10 = .ok (.imul, 1) := by decide +kernel
theorem dX4_hasWorld_11 : decode cX4_hasWorld 11 = .ok (.if_icmp .ge 7, 3) := by decide +kernel
theorem dX4_hasWorld_14 : decode cX4_hasWorld 14 = .ok (.iconst 1, 1) := by decide +kernel
theorem dX4_hasWorld_15 : decode cX4_hasWorld 15 = .ok (.goto 4, 3) := by decide +kernel
theorem dX4_hasWorld_18 : decode cX4_hasWorld 18 = .ok (.iconst 0, 1) := by decide +kernel
theorem dX4_hasWorld_19 : decode cX4_hasWorld 19 = .ok (.ireturn, 1) := by decide +kernel
theorem dX4_all_0 : decode cX4_all 0 = .ok (.aload_n 0, 1) := by decide +kernel
theorem dX4_all_1 : decode cX4_all 1 = .ok (.getfield 46, 3) := by decide +kernel
theorem dX4_all_4 : decode cX4_all 4 = .ok (.ifCond .ne 7, 3) := by decide +kernel
theorem dX4_all_7 : decode cX4_all 7 = .ok (.iconst 0, 1) := by decide +kernel
theorem dX4_all_8 : decode cX4_all 8 = .ok (.goto 14, 3) := by decide +kernel
theorem dX4_all_11 : decode cX4_all 11 = .ok (.iconst (-1), 1) := by decide +kernel
theorem dX4_all_12 : decode cX4_all 12 = .ok (.bipush 32, 2) := by decide +kernel
theorem dX4_all_14 : decode cX4_all 14 = .ok (.aload_n 0, 1) := by decide +kernel
theorem dX4_all_15 : decode cX4_all 15 = .ok (.getfield 46, 3) := by decide +kernel
theorem dX4_all_18 : decode cX4_all 18 = .ok (.iconst 4, 1) := by decide +kernel
theorem dX4_all_19 : decode cX4_all 19 = .ok (.imul, 1) := by decide +kernel
theorem dX4_all_20 : decode cX4_all 20 = .ok (.isub, 1) := by decide +kernel
theorem dX4_all_21 : decode cX4_all 21 = .ok (.iushr, 1) := by decide +kernel
theorem dX4_all_22 : decode cX4_all 22 = .ok (.ireturn, 1) := by decide +kernel
theorem dX4_worldsOf_0 : decode cX4_worldsOf 0 = .ok (.bipush 15, 2) := by decide +kernel
theorem dX4_worldsOf_2 : decode cX4_worldsOf 2 = .ok (.iload_n 1, 1) := by decide +kernel
theorem dX4_worldsOf_3 : decode cX4_worldsOf 3 = .ok (.iconst 4, 1) := by decide +kernel
theorem dX4_worldsOf_4 : decode cX4_worldsOf 4 = .ok (.imul, 1) := by decide +kernel
theorem dX4_worldsOf_5 : decode cX4_worldsOf 5 = .ok (.ishl, 1) := by decide +kernel
theorem dX4_worldsOf_6 : decode cX4_worldsOf 6 = .ok (.ireturn, 1) := by decide +kernel
set_option maxRecDepth 20000 in
theorem gX4_worldsShowing_X4_hasSign : GoodIn wsX4_worldsShowing (wsV RX4 53 RX4 yX4_hasSign wsX4_hasSign) := goodIn_r _ [2, 3, 4, 5, 6, 7, 13, 14, 15, 16, 17, 18, 19, 20, 21, 22, 23, 24, 25] rfl (by decide +kernel)
set_option maxRecDepth 20000 in
theorem gX4_worldsShowing_X4_all : GoodIn wsX4_worldsShowing (wsV RX4 57 RX4 yX4_all wsX4_all) := goodIn_r _ [8, 9, 10, 5, 11, 12, 13, 14, 15, 16, 17, 18, 19, 20, 21, 22, 23, 24, 25] rfl (by decide +kernel)
theorem dX4_worldsShowing_0 : decode cX4_worldsShowing 0 = .ok (.aload_n 0, 1) := by decide +kernel
theorem dX4_worldsShowing_1 : decode cX4_worldsShowing 1 = .ok (.iload_n 1, 1) := by decide +kernel
theorem dX4_worldsShowing_2 : decode cX4_worldsShowing 2 = .ok (.invokevirtual 53, 3) := by decide +kernel
theorem dX4_worldsShowing_5 : decode cX4_worldsShowing 5 = .ok (.ifCond .ne 5, 3) := by decide +kernel
theorem dX4_worldsShowing_8 : decode cX4_worldsShowing 8 = .ok (.iconst 0, 1) := by decide +kernel
theorem dX4_worldsShowing_9 : decode cX4_worldsShowing 9 = .ok (.ireturn, 1) := by decide +kernel
theorem dX4_worldsShowing_10 : decode cX4_worldsShowing 10 = .ok (.iload_n 2, 1) := by decide +kernel
theorem dX4_worldsShowing_11 : decode cX4_worldsShowing 11 = .ok (.ifCond .eq 12, 3) := by decide +kernel
theorem dX4_worldsShowing_14 : decode cX4_worldsShowing 14 = .ok (.aload_n 0, 1) := by decide +kernel
theorem dX4_worldsShowing_15 : decode cX4_worldsShowing 15 = .ok (.getfield 40, 3) := by decide +kernel
theorem dX4_worldsShowing_18 : decode cX4_worldsShowing 18 = .ok (.iload_n 1, 1) := by decide +kernel
theorem dX4_worldsShowing_19 : decode cX4_worldsShowing 19 = .ok (.iaload, 1) := by decide +kernel
theorem dX4_worldsShowing_20 : decode cX4_worldsShowing 20 = .ok (.goto 16, 3) := by decide +kernel
theorem dX4_worldsShowing_23 : decode cX4_worldsShowing 23 = .ok (.aload_n 0, 1) := by decide +kernel
theorem dX4_worldsShowing_24 : decode cX4_worldsShowing 24 = .ok (.invokevirtual 57, 3) := by decide +kernel
theorem dX4_worldsShowing_27 : decode cX4_worldsShowing 27 = .ok (.aload_n 0, 1) := by decide +kernel
theorem dX4_worldsShowing_28 : decode cX4_worldsShowing 28 = .ok (.getfield 40, 3) := by decide +kernel
theorem dX4_worldsShowing_31 : decode cX4_worldsShowing 31 = .ok (.iload_n 1, 1) := by decide +kernel
theorem dX4_worldsShowing_32 : decode cX4_worldsShowing 32 = .ok (.iaload, 1) := by decide +kernel
theorem dX4_worldsShowing_33 : decode cX4_worldsShowing 33 = .ok (.iconst (-1), 1) := by decide +kernel
theorem dX4_worldsShowing_34 : decode cX4_worldsShowing 34 = .ok (.ixor, 1) := by decide +kernel
theorem dX4_worldsShowing_35 : decode cX4_worldsShowing 35 = .ok (.iand, 1) := by decide +kernel
theorem dX4_worldsShowing_36 : decode cX4_worldsShowing 36 = .ok (.ireturn, 1) := by decide +kernel
set_option maxRecDepth 20000 in
theorem gX4_guestsIn_X4_worldsOf : GoodIn wsX4_guestsIn (wsV RX4 61 RX4 yX4_worldsOf wsX4_worldsOf) := goodIn_r _ [2, 3, 4, 5, 6] rfl (by decide +kernel)
theorem dX4_guestsIn_0 : decode cX4_guestsIn 0 = .ok (.iconst 0, 1) := by decide +kernel
theorem dX4_guestsIn_1 : decode cX4_guestsIn 1 = .ok (.istore_n 2, 1) := by decide +kernel
theorem dX4_guestsIn_2 : decode cX4_guestsIn 2 = .ok (.iconst 0, 1) := by decide +kernel
theorem dX4_guestsIn_3 : decode cX4_guestsIn 3 = .ok (.istore_n 3, 1) := by decide +kernel
theorem dX4_guestsIn_4 : decode cX4_guestsIn 4 = .ok (.iload_n 3, 1) := by decide +kernel
theorem dX4_guestsIn_5 : decode cX4_guestsIn 5 = .ok (.aload_n 0, 1) := by decide +kernel
theorem dX4_guestsIn_6 : decode cX4_guestsIn 6 = .ok (.getfield 46, 3) := by decide +kernel
theorem dX4_guestsIn_9 : decode cX4_guestsIn 9 = .ok (.if_icmp .ge 25, 3) := by decide +kernel
theorem dX4_guestsIn_12 : decode cX4_guestsIn 12 = .ok (.iload_n 1, 1) := by decide +kernel
theorem dX4_guestsIn_13 : decode cX4_guestsIn 13 = .ok (.aload_n 0, 1) := by decide +kernel
theorem dX4_guestsIn_14 : decode cX4_guestsIn 14 = .ok (.iload_n 3, 1) := by decide +kernel
theorem dX4_guestsIn_15 : decode cX4_guestsIn 15 = .ok (.invokevirtual 61, 3) := by decide +kernel
theorem dX4_guestsIn_18 : decode cX4_guestsIn 18 = .ok (.iand, 1) := by decide +kernel
theorem dX4_guestsIn_19 : decode cX4_guestsIn 19 = .ok (.ifCond .eq 9, 3) := by decide +kernel
theorem dX4_guestsIn_22 : decode cX4_guestsIn 22 = .ok (.iload_n 2, 1) := by decide +kernel
theorem dX4_guestsIn_23 : decode cX4_guestsIn 23 = .ok (.iconst 1, 1) := by decide +kernel
theorem dX4_guestsIn_24 : decode cX4_guestsIn 24 = .ok (.iload_n 3, 1) := by decide +kernel
theorem dX4_guestsIn_25 : decode cX4_guestsIn 25 = .ok (.ishl, 1) := by decide +kernel
theorem dX4_guestsIn_26 : decode cX4_guestsIn 26 = .ok (.ior, 1) := by decide +kernel
theorem dX4_guestsIn_27 : decode cX4_guestsIn 27 = .ok (.istore_n 2, 1) := by decide +kernel
theorem dX4_guestsIn_28 : decode cX4_guestsIn 28 = .ok (.iinc 3 1, 3) := by decide +kernel
theorem dX4_guestsIn_31 : decode cX4_guestsIn 31 = .ok (.goto (-27), 3) := by decide +kernel
theorem dX4_guestsIn_34 : decode cX4_guestsIn 34 = .ok (.iload_n 2, 1) := by decide +kernel
theorem dX4_guestsIn_35 : decode cX4_guestsIn 35 = .ok (.ireturn, 1) := by decide +kernel
theorem dX4_isAlone_0 : decode cX4_isAlone 0 = .ok (.iconst 0, 1) := by decide +kernel
theorem dX4_isAlone_1 : decode cX4_isAlone 1 = .ok (.istore_n 2, 1) := by decide +kernel
theorem dX4_isAlone_2 : decode cX4_isAlone 2 = .ok (.iload_n 2, 1) := by decide +kernel
theorem dX4_isAlone_3 : decode cX4_isAlone 3 = .ok (.aload_n 0, 1) := by decide +kernel
theorem dX4_isAlone_4 : decode cX4_isAlone 4 = .ok (.getfield 46, 3) := by decide +kernel
theorem dX4_isAlone_7 : decode cX4_isAlone 7 = .ok (.if_icmp .ge 31, 3) := by decide +kernel
theorem dX4_isAlone_10 : decode cX4_isAlone 10 = .ok (.iload_n 2, 1) := by decide +kernel
theorem dX4_isAlone_11 : decode cX4_isAlone 11 = .ok (.iload_n 1, 1) := by decide +kernel
theorem dX4_isAlone_12 : decode cX4_isAlone 12 = .ok (.if_icmp .eq 20, 3) := by decide +kernel
theorem dX4_isAlone_15 : decode cX4_isAlone 15 = .ok (.aload_n 0, 1) := by decide +kernel
theorem dX4_isAlone_16 : decode cX4_isAlone 16 = .ok (.getfield 19, 3) := by decide +kernel
theorem dX4_isAlone_19 : decode cX4_isAlone 19 = .ok (.iload_n 2, 1) := by decide +kernel
theorem dX4_isAlone_20 : decode cX4_isAlone 20 = .ok (.iaload, 1) := by decide +kernel
theorem dX4_isAlone_21 : decode cX4_isAlone 21 = .ok (.aload_n 0, 1) := by decide +kernel
theorem dX4_isAlone_22 : decode cX4_isAlone 22 = .ok (.getfield 19, 3) := by decide +kernel
theorem dX4_isAlone_25 : decode cX4_isAlone 25 = .ok (.iload_n 1, 1) := by decide +kernel
theorem dX4_isAlone_26 : decode cX4_isAlone 26 = .ok (.iaload, 1) := by decide +kernel
theorem dX4_isAlone_27 : decode cX4_isAlone 27 = .ok (.if_icmp .ne 5, 3) := by decide +kernel
theorem dX4_isAlone_30 : decode cX4_isAlone 30 = .ok (.iconst 0, 1) := by decide +kernel
theorem dX4_isAlone_31 : decode cX4_isAlone 31 = .ok (.ireturn, 1) := by decide +kernel
theorem dX4_isAlone_32 : decode cX4_isAlone 32 = .ok (.iinc 2 1, 3) := by decide +kernel
theorem dX4_isAlone_35 : decode cX4_isAlone 35 = .ok (.goto (-33), 3) := by decide +kernel
theorem dX4_isAlone_38 : decode cX4_isAlone 38 = .ok (.iconst 1, 1) := by decide +kernel
theorem dX4_isAlone_39 : decode cX4_isAlone 39 = .ok (.ireturn, 1) := by decide +kernel
set_option maxRecDepth 20000 in
theorem gX4_isSo_X4_isAlone : GoodIn wsX4_isSo (wsV RX4 70 RX4 yX4_isAlone wsX4_isAlone) := goodIn_r _ [3, 4, 5, 6, 7, 8, 1, 9, 10, 11, 12, 13, 14, 15, 16, 17, 18, 19, 20, 21] rfl (by decide +kernel)
theorem dX4_isSo_0 : decode cX4_isSo 0 = .ok (.iload_n 1, 1) := by decide +kernel
theorem dX4_isSo_1 : decode cX4_isSo 1 = .ok (.tableswitch 68 22 24 #[27, 45, 62], 27) := by decide +kernel
theorem dX4_isSo_28 : decode cX4_isSo 28 = .ok (.aload_n 0, 1) := by decide +kernel
theorem dX4_isSo_29 : decode cX4_isSo 29 = .ok (.getfield 19, 3) := by decide +kernel
theorem dX4_isSo_32 : decode cX4_isSo 32 = .ok (.iload_n 2, 1) := by decide +kernel
theorem dX4_isSo_33 : decode cX4_isSo 33 = .ok (.iaload, 1) := by decide +kernel
theorem dX4_isSo_34 : decode cX4_isSo 34 = .ok (.iconst 1, 1) := by decide +kernel
theorem dX4_isSo_35 : decode cX4_isSo 35 = .ok (.iand, 1) := by decide +kernel
theorem dX4_isSo_36 : decode cX4_isSo 36 = .ok (.iconst 1, 1) := by decide +kernel
theorem dX4_isSo_37 : decode cX4_isSo 37 = .ok (.if_icmp .ne 7, 3) := by decide +kernel
theorem dX4_isSo_40 : decode cX4_isSo 40 = .ok (.iconst 1, 1) := by decide +kernel
theorem dX4_isSo_41 : decode cX4_isSo 41 = .ok (.goto 4, 3) := by decide +kernel
theorem dX4_isSo_44 : decode cX4_isSo 44 = .ok (.iconst 0, 1) := by decide +kernel
theorem dX4_isSo_45 : decode cX4_isSo 45 = .ok (.ireturn, 1) := by decide +kernel
theorem dX4_isSo_46 : decode cX4_isSo 46 = .ok (.aload_n 0, 1) := by decide +kernel
theorem dX4_isSo_47 : decode cX4_isSo 47 = .ok (.getfield 19, 3) := by decide +kernel
theorem dX4_isSo_50 : decode cX4_isSo 50 = .ok (.iload_n 2, 1) := by decide +kernel
theorem dX4_isSo_51 : decode cX4_isSo 51 = .ok (.iaload, 1) := by decide +kernel
theorem dX4_isSo_52 : decode cX4_isSo 52 = .ok (.bipush 6, 2) := by decide +kernel
theorem dX4_isSo_54 : decode cX4_isSo 54 = .ok (.if_icmp .gt 7, 3) := by decide +kernel
theorem dX4_isSo_57 : decode cX4_isSo 57 = .ok (.iconst 1, 1) := by decide +kernel
theorem dX4_isSo_58 : decode cX4_isSo 58 = .ok (.goto 4, 3) := by decide +kernel
theorem dX4_isSo_61 : decode cX4_isSo 61 = .ok (.iconst 0, 1) := by decide +kernel
theorem dX4_isSo_62 : decode cX4_isSo 62 = .ok (.ireturn, 1) := by decide +kernel
theorem dX4_isSo_63 : decode cX4_isSo 63 = .ok (.aload_n 0, 1) := by decide +kernel
theorem dX4_isSo_64 : decode cX4_isSo 64 = .ok (.iload_n 2, 1) := by decide +kernel
theorem dX4_isSo_65 : decode cX4_isSo 65 = .ok (.invokevirtual 70, 3) := by decide +kernel
theorem dX4_isSo_68 : decode cX4_isSo 68 = .ok (.ireturn, 1) := by decide +kernel
theorem dX4_isSo_69 : decode cX4_isSo 69 = .ok (.aload_n 0, 1) := by decide +kernel
theorem dX4_isSo_70 : decode cX4_isSo 70 = .ok (.getfield 22, 3) := by decide +kernel
theorem dX4_isSo_73 : decode cX4_isSo 73 = .ok (.iload_n 2, 1) := by decide +kernel
theorem dX4_isSo_74 : decode cX4_isSo 74 = .ok (.iaload, 1) := by decide +kernel
theorem dX4_isSo_75 : decode cX4_isSo 75 = .ok (.bipush 10, 2) := by decide +kernel
theorem dX4_isSo_77 : decode cX4_isSo 77 = .ok (.if_icmp .lt 7, 3) := by decide +kernel
theorem dX4_isSo_80 : decode cX4_isSo 80 = .ok (.iconst 1, 1) := by decide +kernel
theorem dX4_isSo_81 : decode cX4_isSo 81 = .ok (.goto 4, 3) := by decide +kernel
theorem dX4_isSo_84 : decode cX4_isSo 84 = .ok (.iconst 0, 1) := by decide +kernel
theorem dX4_isSo_85 : decode cX4_isSo 85 = .ok (.ireturn, 1) := by decide +kernel
set_option maxRecDepth 20000 in
theorem gX4_worldsBy_X4_all : GoodIn wsX4_worldsBy (wsV RX4 57 RX4 yX4_all wsX4_all) := goodIn_r _ [3, 4, 5, 6, 7, 2, 22, 23, 24, 25, 26, 27, 28, 29, 30, 31, 32, 33, 34] rfl (by decide +kernel)
set_option maxRecDepth 20000 in
theorem gX4_worldsBy_X4_isSo : GoodIn wsX4_worldsBy (wsV RX4 66 RX4 yX4_isSo wsX4_isSo) := goodIn_r _ [8, 9, 10, 6, 11, 12, 13, 14, 15, 16, 6, 17, 2, 22, 23, 24, 25, 26, 27, 28, 29, 30, 31, 32, 33, 34] rfl (by decide +kernel)
set_option maxRecDepth 20000 in
theorem gX4_worldsBy_X4_worldsOf : GoodIn wsX4_worldsBy (wsV RX4 61 RX4 yX4_worldsOf wsX4_worldsOf) := goodIn_r _ [18, 19, 20, 6, 21] rfl (by decide +kernel)
theorem dX4_worldsBy_0 : decode cX4_worldsBy 0 = .ok (.iload_n 1, 1) := by decide +kernel
theorem dX4_worldsBy_1 : decode cX4_worldsBy 1 = .ok (.bipush 18, 2) := by decide +kernel
theorem dX4_worldsBy_3 : decode cX4_worldsBy 3 = .ok (.if_icmp .lt 22, 3) := by decide +kernel
theorem dX4_worldsBy_6 : decode cX4_worldsBy 6 = .ok (.iload_n 1, 1) := by decide +kernel
theorem dX4_worldsBy_7 : decode cX4_worldsBy 7 = .ok (.bipush 21, 2) := by decide +kernel
theorem dX4_worldsBy_9 : decode cX4_worldsBy 9 = .ok (.if_icmp .gt 16, 3) := by decide +kernel
theorem dX4_worldsBy_12 : decode cX4_worldsBy 12 = .ok (.aload_n 0, 1) := by decide +kernel
theorem dX4_worldsBy_13 : decode cX4_worldsBy 13 = .ok (.invokevirtual 57, 3) := by decide +kernel
theorem dX4_worldsBy_16 : decode cX4_worldsBy 16 = .ok (.ldc 65, 2) := by decide +kernel
theorem dX4_worldsBy_18 : decode cX4_worldsBy 18 = .ok (.iload_n 1, 1) := by decide +kernel
theorem dX4_worldsBy_19 : decode cX4_worldsBy 19 = .ok (.bipush 18, 2) := by decide +kernel
theorem dX4_worldsBy_21 : decode cX4_worldsBy 21 = .ok (.isub, 1) := by decide +kernel
theorem dX4_worldsBy_22 : decode cX4_worldsBy 22 = .ok (.ishl, 1) := by decide +kernel
theorem dX4_worldsBy_23 : decode cX4_worldsBy 23 = .ok (.iand, 1) := by decide +kernel
theorem dX4_worldsBy_24 : decode cX4_worldsBy 24 = .ok (.ireturn, 1) := by decide +kernel
theorem dX4_worldsBy_25 : decode cX4_worldsBy 25 = .ok (.iconst 0, 1) := by decide +kernel
theorem dX4_worldsBy_26 : decode cX4_worldsBy 26 = .ok (.istore_n 2, 1) := by decide +kernel
theorem dX4_worldsBy_27 : decode cX4_worldsBy 27 = .ok (.iconst 0, 1) := by decide +kernel
theorem dX4_worldsBy_28 : decode cX4_worldsBy 28 = .ok (.istore_n 3, 1) := by decide +kernel
theorem dX4_worldsBy_29 : decode cX4_worldsBy 29 = .ok (.iload_n 3, 1) := by decide +kernel
theorem dX4_worldsBy_30 : decode cX4_worldsBy 30 = .ok (.aload_n 0, 1) := by decide +kernel
theorem dX4_worldsBy_31 : decode cX4_worldsBy 31 = .ok (.getfield 46, 3) := by decide +kernel
theorem dX4_worldsBy_34 : decode cX4_worldsBy 34 = .ok (.if_icmp .ge 26, 3) := by decide +kernel
theorem dX4_worldsBy_37 : decode cX4_worldsBy 37 = .ok (.aload_n 0, 1) := by decide +kernel
theorem dX4_worldsBy_38 : decode cX4_worldsBy 38 = .ok (.iload_n 1, 1) := by decide +kernel
theorem dX4_worldsBy_39 : decode cX4_worldsBy 39 = .ok (.iload_n 3, 1) := by decide +kernel
theorem dX4_worldsBy_40 : decode cX4_worldsBy 40 = .ok (.invokevirtual 66, 3) := by decide +kernel
theorem dX4_worldsBy_43 : decode cX4_worldsBy 43 = .ok (.ifCond .eq 11, 3) := by decide +kernel
theorem dX4_worldsBy_46 : decode cX4_worldsBy 46 = .ok (.iload_n 2, 1) := by decide +kernel
theorem dX4_worldsBy_47 : decode cX4_worldsBy 47 = .ok (.aload_n 0, 1) := by decide +kernel
theorem dX4_worldsBy_48 : decode cX4_worldsBy 48 = .ok (.iload_n 3, 1) := by decide +kernel
theorem dX4_worldsBy_49 : decode cX4_worldsBy 49 = .ok (.invokevirtual 61, 3) := by decide +kernel
theorem dX4_worldsBy_52 : decode cX4_worldsBy 52 = .ok (.ior, 1) := by decide +kernel
theorem dX4_worldsBy_53 : decode cX4_worldsBy 53 = .ok (.istore_n 2, 1) := by decide +kernel
theorem dX4_worldsBy_54 : decode cX4_worldsBy 54 = .ok (.iinc 3 1, 3) := by decide +kernel
theorem dX4_worldsBy_57 : decode cX4_worldsBy 57 = .ok (.goto (-28), 3) := by decide +kernel
theorem dX4_worldsBy_60 : decode cX4_worldsBy 60 = .ok (.iload_n 2, 1) := by decide +kernel
theorem dX4_worldsBy_61 : decode cX4_worldsBy 61 = .ok (.ireturn, 1) := by decide +kernel
set_option maxRecDepth 20000 in
theorem gX4_sayable_X4_hasGuest : GoodIn wsX4_sayable (wsV RX4 73 RX4 yX4_hasGuest wsX4_hasGuest) := goodIn_r _ [2, 3, 4, 5, 6, 7, 16, 17, 18, 19, 20, 21, 22, 23, 24, 25, 26, 27, 28] rfl (by decide +kernel)
set_option maxRecDepth 20000 in
theorem gX4_sayable_X4_worldsOf : GoodIn wsX4_sayable (wsV RX4 61 RX4 yX4_worldsOf wsX4_worldsOf) := goodIn_r _ [8, 9, 10, 5, 11] rfl (by decide +kernel)
set_option maxRecDepth 20000 in
theorem gX4_sayable_X4_all : GoodIn wsX4_sayable (wsV RX4 57 RX4 yX4_all wsX4_all) := goodIn_r _ [12, 13, 14, 5, 15, 7, 16, 17, 18, 19, 20, 21, 22, 23, 24, 25, 26, 27, 28] rfl (by decide +kernel)
theorem dX4_sayable_0 : decode cX4_sayable 0 = .ok (.aload_n 0, 1) := by decide +kernel
theorem dX4_sayable_1 : decode cX4_sayable 1 = .ok (.iload_n 1, 1) := by decide +kernel
theorem dX4_sayable_2 : decode cX4_sayable 2 = .ok (.invokevirtual 73, 3) := by decide +kernel
theorem dX4_sayable_5 : decode cX4_sayable 5 = .ok (.ifCond .ne 5, 3) := by decide +kernel
theorem dX4_sayable_8 : decode cX4_sayable 8 = .ok (.iconst 0, 1) := by decide +kernel
theorem dX4_sayable_9 : decode cX4_sayable 9 = .ok (.ireturn, 1) := by decide +kernel
theorem dX4_sayable_10 : decode cX4_sayable 10 = .ok (.iload_n 2, 1) := by decide +kernel
theorem dX4_sayable_11 : decode cX4_sayable 11 = .ok (.aload_n 0, 1) := by decide +kernel
theorem dX4_sayable_12 : decode cX4_sayable 12 = .ok (.iload_n 1, 1) := by decide +kernel
theorem dX4_sayable_13 : decode cX4_sayable 13 = .ok (.invokevirtual 61, 3) := by decide +kernel
theorem dX4_sayable_16 : decode cX4_sayable 16 = .ok (.ixor, 1) := by decide +kernel
theorem dX4_sayable_17 : decode cX4_sayable 17 = .ok (.istore_n 3, 1) := by decide +kernel
theorem dX4_sayable_18 : decode cX4_sayable 18 = .ok (.aload_n 0, 1) := by decide +kernel
theorem dX4_sayable_19 : decode cX4_sayable 19 = .ok (.getfield 15, 3) := by decide +kernel
theorem dX4_sayable_22 : decode cX4_sayable 22 = .ok (.iload_n 1, 1) := by decide +kernel
theorem dX4_sayable_23 : decode cX4_sayable 23 = .ok (.iaload, 1) := by decide +kernel
theorem dX4_sayable_24 : decode cX4_sayable 24 = .ok (.tableswitch 51 0 2 #[28, 35, 42], 28) := by decide +kernel
theorem dX4_sayable_52 : decode cX4_sayable 52 = .ok (.aload_n 0, 1) := by decide +kernel
theorem dX4_sayable_53 : decode cX4_sayable 53 = .ok (.invokevirtual 57, 3) := by decide +kernel
theorem dX4_sayable_56 : decode cX4_sayable 56 = .ok (.iload_n 3, 1) := by decide +kernel
theorem dX4_sayable_57 : decode cX4_sayable 57 = .ok (.iand, 1) := by decide +kernel
theorem dX4_sayable_58 : decode cX4_sayable 58 = .ok (.ireturn, 1) := by decide +kernel
theorem dX4_sayable_59 : decode cX4_sayable 59 = .ok (.aload_n 0, 1) := by decide +kernel
theorem dX4_sayable_60 : decode cX4_sayable 60 = .ok (.invokevirtual 57, 3) := by decide +kernel
theorem dX4_sayable_63 : decode cX4_sayable 63 = .ok (.iload_n 2, 1) := by decide +kernel
theorem dX4_sayable_64 : decode cX4_sayable 64 = .ok (.iand, 1) := by decide +kernel
theorem dX4_sayable_65 : decode cX4_sayable 65 = .ok (.ireturn, 1) := by decide +kernel
theorem dX4_sayable_66 : decode cX4_sayable 66 = .ok (.aload_n 0, 1) := by decide +kernel
theorem dX4_sayable_67 : decode cX4_sayable 67 = .ok (.invokevirtual 57, 3) := by decide +kernel
theorem dX4_sayable_70 : decode cX4_sayable 70 = .ok (.iload_n 3, 1) := by decide +kernel
theorem dX4_sayable_71 : decode cX4_sayable 71 = .ok (.iconst (-1), 1) := by decide +kernel
theorem dX4_sayable_72 : decode cX4_sayable 72 = .ok (.ixor, 1) := by decide +kernel
theorem dX4_sayable_73 : decode cX4_sayable 73 = .ok (.iand, 1) := by decide +kernel
theorem dX4_sayable_74 : decode cX4_sayable 74 = .ok (.ireturn, 1) := by decide +kernel
theorem dX4_sayable_75 : decode cX4_sayable 75 = .ok (.aload_n 0, 1) := by decide +kernel
theorem dX4_sayable_76 : decode cX4_sayable 76 = .ok (.invokevirtual 57, 3) := by decide +kernel
theorem dX4_sayable_79 : decode cX4_sayable 79 = .ok (.ireturn, 1) := by decide +kernel
section
variable {p : Program} {l : Launch} {e : Env} {s : State} {m : MethodId} {args : Array Value} {below : List Frame} {meth : Method} {c : Code} {D : va_G} {cy : Nat → ClassId} {ad : Nat → Nat} {A : Nat → Prop} {aM aB aO aI aN aT aC aG aR aQ aK aL aX aH aJ aP aU aE0 aE1 aE2 aE3 : Nat → Nat} {gi : Value}
abbrev rm4_clear : Room := { frames := 0, cells := 0, slots := 0, locals := 0 }
theorem hdV4_clear : yX4_clear.cls = RX4 ∧ (yX4_clear.cls ≠ "java/lang/invoke/MethodHandle" ∧ yX4_clear.cls ≠ "java/lang/invoke/VarHandle" ∧ (parseMethodDescriptor yX4_clear.desc).map (fun d => d.parameters.length) = some 0) := by decide +kernel
theorem hin4_clear_4 : ∀ x ∈ u_ws RX4 TX4 13, x ∈ wsX4_clear := fun _ h => List.mem_cons_of_mem _ (List.mem_append_right _ h)
set_option maxRecDepth 100000 in
set_option maxHeartbeats 4000000 in
theorem t4_clear_12 (hC : Cx p s m args meth c cX4_clear 2 wsX4_clear RX4 none) : ∀ n : Nat, ∀ (x1 : Int32) (SI : Ob) (res : Ob) (H : Heap) (locs : List Loc) (ls : Array Slot), f4_clear_12 n x1 SI = some res → GW D cy ad (w4 cy aI SI) A s H locs → lv_has ls 2 [(0, .ref (aI 0)), (1, .int x1)] → W p l e rm4_clear s m args below meth c H locs 0 0 (MQ below (QV D cy (w4 cy aI res) A) args s 0 0 A) (F0 m 12 ls []) := by
  intro n
  induction n with
  | zero =>
    intro _ _ _ _ _ _ hf _ _
    exact nomatch (show (none : Option (Ob)) = some _ from hf)
  | succ n ih =>
    intro x1 SI res H locs ls hf hW hl
    rw [f4_clear_12] at hf
    refine lv_iload_n hC.1 hC.2.1 dX4_clear_12 rfl (lv_at hl 1 rfl) ?_
    refine lv_bipush (v := 32) hC.1 hC.2.1 dX4_clear_13 (by decide) ?_
    refine lv_icmp_ge (tgt := 31) hC.1 hC.2.1 dX4_clear_15 (by decide) (fun hc_1 => ?_) (fun hc_1 => ?_)
    · have hf := ite_t hf hc_1
      obtain rfl := Option.some.inj hf
      exact g_vret hC hW dX4_clear_31
    · have hf := ite_f hf hc_1
      refine lv_aload_n hC.1 hC.2.1 dX4_clear_18 rfl (lv_at hl 0 rfl) ?_
      refine g_get hC hW hin4_clear_4 0 rfl rfl 12 (by decide) 3 rfl rfl dX4_clear_19 ?_
      refine lv_iload_n hC.1 hC.2.1 dX4_clear_22 rfl (lv_at hl 1 rfl) ?_
      refine lv_iconst (v := 0) hC.1 hC.2.1 dX4_clear_23 (by decide) ?_
      obtain ⟨hi_2, hf⟩ := ck_of hf
      obtain ⟨SI_3, eSI_3⟩ : ∃ y : Ob, y = oA SI 12 (Int32.toNatClampNeg x1) 0 := ⟨_, rfl⟩
      have hf := lt_nm hf eSI_3
      refine g_iast hC hW 11 rfl hi_2 (w' := w4 cy aI SI_3) (by rw [eSI_3]; rfl) dX4_clear_24 (fun H locs hW => ?_)
      obtain ⟨x1_4, ex1_4⟩ : ∃ y : Int32, y = x1 + 1 := ⟨_, rfl⟩
      have hf := lt_nm hf ex1_4
      refine lv_iinc (v := x1_4) (lv' := [(1, .int x1_4), (0, .ref (aI 0))]) hC.1 hC.2.1 dX4_clear_25 hl (k := 1) rfl (by rw [ex1_4]; rfl) (by decide) rfl (fun ls hl => ?_)
      refine lv_goto (tgt := 12) hC.1 hC.2.1 dX4_clear_28 (by decide) ?_
      exact ih _ _ _ _ _ _ hf hW (lv_sub hl [1, 0] rfl)
set_option maxRecDepth 100000 in
set_option maxHeartbeats 4000000 in
theorem t4_clear_0 (hC : Cx p s m args meth c cX4_clear 2 wsX4_clear RX4 none) : ∀ (SI : Ob) (res : Ob) (H : Heap) (locs : List Loc) (ls : Array Slot), f4_clear SI = some res → GW D cy ad (w4 cy aI SI) A s H locs → lv_has ls 2 [(0, .ref (aI 0))] → W p l e rm4_clear s m args below meth c H locs 0 0 (MQ below (QV D cy (w4 cy aI res) A) args s 0 0 A) (F0 m 0 ls []) := by
  intro SI res H locs ls hf hW hl
  unfold f4_clear at hf
  refine lv_aload_n hC.1 hC.2.1 dX4_clear_0 rfl (lv_at hl 0 rfl) ?_
  refine lv_iconst (v := 0) hC.1 hC.2.1 dX4_clear_1 (by decide) ?_
  obtain ⟨SI_1, eSI_1⟩ : ∃ y : Ob, y = oI SI 0 0 := ⟨_, rfl⟩
  have hf := lt_nm hf eSI_1
  refine g_put hC hW hin4_clear_4 tyX4 tyX4_ok nmX4 0 rfl rfl 0 (by decide) 1 rfl rfl rfl rfl (Nat.le_of_ble_eq_true rfl) (w' := w4 cy aI SI_1) (by rw [eSI_1]; rfl) dX4_clear_2 (fun H locs hW => ?_)
  refine lv_aload_n hC.1 hC.2.1 dX4_clear_5 rfl (lv_at hl 0 rfl) ?_
  refine lv_iconst (v := 0) hC.1 hC.2.1 dX4_clear_6 (by decide) ?_
  obtain ⟨SI_2, eSI_2⟩ : ∃ y : Ob, y = oI SI_1 8 0 := ⟨_, rfl⟩
  have hf := lt_nm hf eSI_2
  refine g_put hC hW hin4_clear_4 tyX4 tyX4_ok nmX4 0 rfl rfl 8 (by decide) 2 rfl rfl rfl rfl (Nat.le_of_ble_eq_true rfl) (w' := w4 cy aI SI_2) (by rw [eSI_2]; rfl) dX4_clear_7 (fun H locs hW => ?_)
  refine lv_iconst (v := 0) hC.1 hC.2.1 dX4_clear_10 (by decide) ?_
  refine lv_istore_n (lv' := [(1, .int 0), (0, .ref (aI 0))]) hC.1 hC.2.1 dX4_clear_11 rfl hl (by decide) rfl (fun ls hl => ?_)
  exact t4_clear_12 hC _ _ _ _ _ _ _ hf hW (lv_sub hl [1, 0] rfl)
set_option maxRecDepth 100000 in
set_option maxHeartbeats 4000000 in
theorem c4_clear (l : Launch) (D : va_G) (cy : Nat → ClassId) (ad : Nat → Nat) (aI : Nat → Nat) {SI : Ob} {res : Ob} (h : f4_clear SI = some res) : GCv l yX4_clear wsX4_clear rm4_clear [.ref (aI 0)] D cy ad (w4 cy aI SI) (w4 cy aI res) := fun sz => GC.start (own := RX4) (Qc := fun A => QV D cy (w4 cy aI res) A) sz (by decide) rfl rfl (Nat.le_of_ble_eq_true rfl) (fun p e s m below meth c A ls hC hW hl => t4_clear_0 hC _ _ _ _ _ h hW (lv_sub hl [0] rfl))
abbrev rm4_addGuest : Room := { frames := 0, cells := 0, slots := 0, locals := 0 }
theorem hdV4_addGuest : yX4_addGuest.cls = RX4 ∧ (yX4_addGuest.cls ≠ "java/lang/invoke/MethodHandle" ∧ yX4_addGuest.cls ≠ "java/lang/invoke/VarHandle" ∧ (parseMethodDescriptor yX4_addGuest.desc).map (fun d => d.parameters.length) = some 4) := by decide +kernel
theorem hin4_addGuest_4 : ∀ x ∈ u_ws RX4 TX4 13, x ∈ wsX4_addGuest := fun _ h => List.mem_cons_of_mem _ (List.mem_append_right _ h)
set_option maxRecDepth 100000 in
set_option maxHeartbeats 4000000 in
theorem t4_addGuest_81 (hC : Cx p s m args meth c cX4_addGuest 6 wsX4_addGuest RX4 none) : ∀ (SI : Ob) (res : Ob) (H : Heap) (locs : List Loc) (ls : Array Slot), f4_addGuest_81 SI = some res → GW D cy ad (w4 cy aI SI) A s H locs → lv_has ls 6 [] → W p l e rm4_addGuest s m args below meth c H locs 0 0 (MQ below (QV D cy (w4 cy aI res) A) args s 0 0 A) (F0 m 81 ls []) := by
  intro SI res H locs ls hf hW hl
  unfold f4_addGuest_81 at hf
  obtain rfl := Option.some.inj hf
  exact g_vret hC hW dX4_addGuest_81
set_option maxRecDepth 100000 in
set_option maxHeartbeats 4000000 in
theorem t4_addGuest_0 (hC : Cx p s m args meth c cX4_addGuest 6 wsX4_addGuest RX4 none) : ∀ (x1 : Int64) (x3 : Int32) (x4 : Int32) (x5 : Int32) (SI : Ob) (res : Ob) (H : Heap) (locs : List Loc) (ls : Array Slot), f4_addGuest x1 x3 x4 x5 SI = some res → GW D cy ad (w4 cy aI SI) A s H locs → lv_has ls 6 [(0, .ref (aI 0)), (1, .long x1), (3, .int x3), (4, .int x4), (5, .int x5)] → W p l e rm4_addGuest s m args below meth c H locs 0 0 (MQ below (QV D cy (w4 cy aI res) A) args s 0 0 A) (F0 m 0 ls []) := by
  intro x1 x3 x4 x5 SI res H locs ls hf hW hl
  unfold f4_addGuest at hf
  refine lv_aload_n hC.1 hC.2.1 dX4_addGuest_0 rfl (lv_at hl 0 rfl) ?_
  refine g_get hC hW hin4_addGuest_4 0 rfl rfl 0 (by decide) 1 rfl rfl dX4_addGuest_1 ?_
  refine lv_bipush (v := 8) hC.1 hC.2.1 dX4_addGuest_4 (by decide) ?_
  refine lv_icmp_ge (tgt := 81) hC.1 hC.2.1 dX4_addGuest_6 (by decide) (fun hc_1 => ?_) (fun hc_1 => ?_)
  · have hf := ite_t hf hc_1
    exact t4_addGuest_81 hC  _ _ _ _ _ hf hW (lv_sub hl [] rfl)
  · have hf := ite_f hf hc_1
    refine lv_aload_n hC.1 hC.2.1 dX4_addGuest_9 rfl (lv_at hl 0 rfl) ?_
    refine g_get hC hW hin4_addGuest_4 0 rfl rfl 1 (by decide) 2 rfl rfl dX4_addGuest_10 ?_
    refine lv_aload_n hC.1 hC.2.1 dX4_addGuest_13 rfl (lv_at hl 0 rfl) ?_
    refine g_get hC hW hin4_addGuest_4 0 rfl rfl 0 (by decide) 1 rfl rfl dX4_addGuest_14 ?_
    refine lv_lload_n hC.1 hC.2.1 dX4_addGuest_17 rfl (lv_at hl 1 rfl) ?_
    obtain ⟨hi_2, hf⟩ := ck_of hf
    obtain ⟨SI_3, eSI_3⟩ : ∃ y : Ob, y = oJ SI 1 (Int32.toNatClampNeg (SI.1 0)) x1 := ⟨_, rfl⟩
    have hf := lt_nm hf eSI_3
    refine g_last hC hW 1 rfl hi_2 (w' := w4 cy aI SI_3) (by rw [eSI_3]; rfl) dX4_addGuest_18 (fun H locs hW => ?_)
    refine lv_aload_n hC.1 hC.2.1 dX4_addGuest_19 rfl (lv_at hl 0 rfl) ?_
    refine g_get hC hW hin4_addGuest_4 0 rfl rfl 2 (by decide) 3 rfl rfl dX4_addGuest_20 ?_
    refine lv_aload_n hC.1 hC.2.1 dX4_addGuest_23 rfl (lv_at hl 0 rfl) ?_
    refine g_get hC hW hin4_addGuest_4 0 rfl rfl 0 (by decide) 1 rfl rfl dX4_addGuest_24 ?_
    refine lv_iload_n hC.1 hC.2.1 dX4_addGuest_27 rfl (lv_at hl 2 rfl) ?_
    obtain ⟨hi_4, hf⟩ := ck_of hf
    obtain ⟨SI_5, eSI_5⟩ : ∃ y : Ob, y = oA SI_3 2 (Int32.toNatClampNeg (SI_3.1 0)) x3 := ⟨_, rfl⟩
    have hf := lt_nm hf eSI_5
    refine g_iast hC hW 2 rfl hi_4 (w' := w4 cy aI SI_5) (by rw [eSI_5]; rfl) dX4_addGuest_28 (fun H locs hW => ?_)
    refine lv_aload_n hC.1 hC.2.1 dX4_addGuest_29 rfl (lv_at hl 0 rfl) ?_
    refine g_get hC hW hin4_addGuest_4 0 rfl rfl 3 (by decide) 4 rfl rfl dX4_addGuest_30 ?_
    refine lv_aload_n hC.1 hC.2.1 dX4_addGuest_33 rfl (lv_at hl 0 rfl) ?_
    refine g_get hC hW hin4_addGuest_4 0 rfl rfl 0 (by decide) 1 rfl rfl dX4_addGuest_34 ?_
    refine lv_iload hC.1 hC.2.1 dX4_addGuest_37 (lv_at hl 3 rfl) ?_
    obtain ⟨hi_6, hf⟩ := ck_of hf
    obtain ⟨SI_7, eSI_7⟩ : ∃ y : Ob, y = oA SI_5 3 (Int32.toNatClampNeg (SI_5.1 0)) x4 := ⟨_, rfl⟩
    have hf := lt_nm hf eSI_7
    refine g_iast hC hW 3 rfl hi_6 (w' := w4 cy aI SI_7) (by rw [eSI_7]; rfl) dX4_addGuest_39 (fun H locs hW => ?_)
    refine lv_aload_n hC.1 hC.2.1 dX4_addGuest_40 rfl (lv_at hl 0 rfl) ?_
    refine g_get hC hW hin4_addGuest_4 0 rfl rfl 4 (by decide) 5 rfl rfl dX4_addGuest_41 ?_
    refine lv_aload_n hC.1 hC.2.1 dX4_addGuest_44 rfl (lv_at hl 0 rfl) ?_
    refine g_get hC hW hin4_addGuest_4 0 rfl rfl 0 (by decide) 1 rfl rfl dX4_addGuest_45 ?_
    refine lv_iload hC.1 hC.2.1 dX4_addGuest_48 (lv_at hl 4 rfl) ?_
    obtain ⟨hi_8, hf⟩ := ck_of hf
    obtain ⟨SI_9, eSI_9⟩ : ∃ y : Ob, y = oA SI_7 4 (Int32.toNatClampNeg (SI_7.1 0)) x5 := ⟨_, rfl⟩
    have hf := lt_nm hf eSI_9
    refine g_iast hC hW 4 rfl hi_8 (w' := w4 cy aI SI_9) (by rw [eSI_9]; rfl) dX4_addGuest_50 (fun H locs hW => ?_)
    refine lv_aload_n hC.1 hC.2.1 dX4_addGuest_51 rfl (lv_at hl 0 rfl) ?_
    refine g_get hC hW hin4_addGuest_4 0 rfl rfl 5 (by decide) 6 rfl rfl dX4_addGuest_52 ?_
    refine lv_aload_n hC.1 hC.2.1 dX4_addGuest_55 rfl (lv_at hl 0 rfl) ?_
    refine g_get hC hW hin4_addGuest_4 0 rfl rfl 0 (by decide) 1 rfl rfl dX4_addGuest_56 ?_
    refine lv_iconst (v := 0) hC.1 hC.2.1 dX4_addGuest_59 (by decide) ?_
    obtain ⟨hi_10, hf⟩ := ck_of hf
    obtain ⟨SI_11, eSI_11⟩ : ∃ y : Ob, y = oA SI_9 5 (Int32.toNatClampNeg (SI_9.1 0)) 0 := ⟨_, rfl⟩
    have hf := lt_nm hf eSI_11
    refine g_iast hC hW 5 rfl hi_10 (w' := w4 cy aI SI_11) (by rw [eSI_11]; rfl) dX4_addGuest_60 (fun H locs hW => ?_)
    refine lv_aload_n hC.1 hC.2.1 dX4_addGuest_61 rfl (lv_at hl 0 rfl) ?_
    refine g_get hC hW hin4_addGuest_4 0 rfl rfl 6 (by decide) 7 rfl rfl dX4_addGuest_62 ?_
    refine lv_aload_n hC.1 hC.2.1 dX4_addGuest_65 rfl (lv_at hl 0 rfl) ?_
    refine g_get hC hW hin4_addGuest_4 0 rfl rfl 0 (by decide) 1 rfl rfl dX4_addGuest_66 ?_
    refine lv_iconst (v := 0) hC.1 hC.2.1 dX4_addGuest_69 (by decide) ?_
    obtain ⟨hi_12, hf⟩ := ck_of hf
    obtain ⟨SI_13, eSI_13⟩ : ∃ y : Ob, y = oA SI_11 6 (Int32.toNatClampNeg (SI_11.1 0)) 0 := ⟨_, rfl⟩
    have hf := lt_nm hf eSI_13
    refine g_iast hC hW 6 rfl hi_12 (w' := w4 cy aI SI_13) (by rw [eSI_13]; rfl) dX4_addGuest_70 (fun H locs hW => ?_)
    refine lv_aload_n hC.1 hC.2.1 dX4_addGuest_71 rfl (lv_at hl 0 rfl) ?_
    refine lv_dup hC.1 hC.2.1 dX4_addGuest_72 rfl ?_
    refine g_get hC hW hin4_addGuest_4 0 rfl rfl 0 (by decide) 1 rfl rfl dX4_addGuest_73 ?_
    refine lv_iconst (v := 1) hC.1 hC.2.1 dX4_addGuest_76 (by decide) ?_
    refine lv_iadd hC.1 hC.2.1 dX4_addGuest_77 ?_
    obtain ⟨SI_14, eSI_14⟩ : ∃ y : Ob, y = oI SI_13 0 ((SI_13.1 0) + 1) := ⟨_, rfl⟩
    have hf := lt_nm hf eSI_14
    refine g_put hC hW hin4_addGuest_4 tyX4 tyX4_ok nmX4 0 rfl rfl 0 (by decide) 1 rfl rfl rfl rfl (Nat.le_of_ble_eq_true rfl) (w' := w4 cy aI SI_14) (by rw [eSI_14]; rfl) dX4_addGuest_78 (fun H locs hW => ?_)
    exact t4_addGuest_81 hC  _ _ _ _ _ hf hW (lv_sub hl [] rfl)
set_option maxRecDepth 100000 in
set_option maxHeartbeats 4000000 in
theorem c4_addGuest (l : Launch) (D : va_G) (cy : Nat → ClassId) (ad : Nat → Nat) (aI : Nat → Nat) {x1 : Int64} {x3 : Int32} {x4 : Int32} {x5 : Int32} {SI : Ob} {res : Ob} (h : f4_addGuest x1 x3 x4 x5 SI = some res) : GCv l yX4_addGuest wsX4_addGuest rm4_addGuest [.ref (aI 0), .long x1, .int x3, .int x4, .int x5] D cy ad (w4 cy aI SI) (w4 cy aI res) := fun sz => GC.start (own := RX4) (Qc := fun A => QV D cy (w4 cy aI res) A) sz (by decide) rfl rfl (Nat.le_of_ble_eq_true rfl) (fun p e s m below meth c A ls hC hW hl => t4_addGuest_0 hC _ _ _ _ _ _ _ _ _ h hW (lv_sub hl [0, 1, 2, 3, 4] rfl))
abbrev rm4_addSign : Room := { frames := 0, cells := 0, slots := 0, locals := 0 }
theorem hdV4_addSign : yX4_addSign.cls = RX4 ∧ (yX4_addSign.cls ≠ "java/lang/invoke/MethodHandle" ∧ yX4_addSign.cls ≠ "java/lang/invoke/VarHandle" ∧ (parseMethodDescriptor yX4_addSign.desc).map (fun d => d.parameters.length) = some 2) := by decide +kernel
theorem hin4_addSign_4 : ∀ x ∈ u_ws RX4 TX4 13, x ∈ wsX4_addSign := fun _ h => List.mem_cons_of_mem _ (List.mem_append_right _ h)
set_option maxRecDepth 100000 in
set_option maxHeartbeats 4000000 in
theorem t4_addSign_49 (hC : Cx p s m args meth c cX4_addSign 4 wsX4_addSign RX4 none) : ∀ (SI : Ob) (res : Ob) (H : Heap) (locs : List Loc) (ls : Array Slot), f4_addSign_49 SI = some res → GW D cy ad (w4 cy aI SI) A s H locs → lv_has ls 4 [] → W p l e rm4_addSign s m args below meth c H locs 0 0 (MQ below (QV D cy (w4 cy aI res) A) args s 0 0 A) (F0 m 49 ls []) := by
  intro SI res H locs ls hf hW hl
  unfold f4_addSign_49 at hf
  obtain rfl := Option.some.inj hf
  exact g_vret hC hW dX4_addSign_49
set_option maxRecDepth 100000 in
set_option maxHeartbeats 4000000 in
theorem t4_addSign_0 (hC : Cx p s m args meth c cX4_addSign 4 wsX4_addSign RX4 none) : ∀ (x1 : Int64) (x3 : Int32) (SI : Ob) (res : Ob) (H : Heap) (locs : List Loc) (ls : Array Slot), f4_addSign x1 x3 SI = some res → GW D cy ad (w4 cy aI SI) A s H locs → lv_has ls 4 [(0, .ref (aI 0)), (1, .long x1), (3, .int x3)] → W p l e rm4_addSign s m args below meth c H locs 0 0 (MQ below (QV D cy (w4 cy aI res) A) args s 0 0 A) (F0 m 0 ls []) := by
  intro x1 x3 SI res H locs ls hf hW hl
  unfold f4_addSign at hf
  refine lv_aload_n hC.1 hC.2.1 dX4_addSign_0 rfl (lv_at hl 0 rfl) ?_
  refine g_get hC hW hin4_addSign_4 0 rfl rfl 8 (by decide) 1 rfl rfl dX4_addSign_1 ?_
  refine lv_bipush (v := 6) hC.1 hC.2.1 dX4_addSign_4 (by decide) ?_
  refine lv_icmp_ge (tgt := 49) hC.1 hC.2.1 dX4_addSign_6 (by decide) (fun hc_1 => ?_) (fun hc_1 => ?_)
  · have hf := ite_t hf hc_1
    exact t4_addSign_49 hC  _ _ _ _ _ hf hW (lv_sub hl [] rfl)
  · have hf := ite_f hf hc_1
    refine lv_aload_n hC.1 hC.2.1 dX4_addSign_9 rfl (lv_at hl 0 rfl) ?_
    refine g_get hC hW hin4_addSign_4 0 rfl rfl 9 (by decide) 2 rfl rfl dX4_addSign_10 ?_
    refine lv_aload_n hC.1 hC.2.1 dX4_addSign_13 rfl (lv_at hl 0 rfl) ?_
    refine g_get hC hW hin4_addSign_4 0 rfl rfl 8 (by decide) 1 rfl rfl dX4_addSign_14 ?_
    refine lv_lload_n hC.1 hC.2.1 dX4_addSign_17 rfl (lv_at hl 1 rfl) ?_
    obtain ⟨hi_2, hf⟩ := ck_of hf
    obtain ⟨SI_3, eSI_3⟩ : ∃ y : Ob, y = oJ SI 9 (Int32.toNatClampNeg (SI.1 8)) x1 := ⟨_, rfl⟩
    have hf := lt_nm hf eSI_3
    refine g_last hC hW 8 rfl hi_2 (w' := w4 cy aI SI_3) (by rw [eSI_3]; rfl) dX4_addSign_18 (fun H locs hW => ?_)
    refine lv_aload_n hC.1 hC.2.1 dX4_addSign_19 rfl (lv_at hl 0 rfl) ?_
    refine g_get hC hW hin4_addSign_4 0 rfl rfl 10 (by decide) 3 rfl rfl dX4_addSign_20 ?_
    refine lv_aload_n hC.1 hC.2.1 dX4_addSign_23 rfl (lv_at hl 0 rfl) ?_
    refine g_get hC hW hin4_addSign_4 0 rfl rfl 8 (by decide) 1 rfl rfl dX4_addSign_24 ?_
    refine lv_iload_n hC.1 hC.2.1 dX4_addSign_27 rfl (lv_at hl 2 rfl) ?_
    obtain ⟨hi_4, hf⟩ := ck_of hf
    obtain ⟨SI_5, eSI_5⟩ : ∃ y : Ob, y = oA SI_3 10 (Int32.toNatClampNeg (SI_3.1 8)) x3 := ⟨_, rfl⟩
    have hf := lt_nm hf eSI_5
    refine g_iast hC hW 9 rfl hi_4 (w' := w4 cy aI SI_5) (by rw [eSI_5]; rfl) dX4_addSign_28 (fun H locs hW => ?_)
    refine lv_aload_n hC.1 hC.2.1 dX4_addSign_29 rfl (lv_at hl 0 rfl) ?_
    refine g_get hC hW hin4_addSign_4 0 rfl rfl 11 (by decide) 4 rfl rfl dX4_addSign_30 ?_
    refine lv_aload_n hC.1 hC.2.1 dX4_addSign_33 rfl (lv_at hl 0 rfl) ?_
    refine g_get hC hW hin4_addSign_4 0 rfl rfl 8 (by decide) 1 rfl rfl dX4_addSign_34 ?_
    refine lv_iconst (v := 0) hC.1 hC.2.1 dX4_addSign_37 (by decide) ?_
    obtain ⟨hi_6, hf⟩ := ck_of hf
    obtain ⟨SI_7, eSI_7⟩ : ∃ y : Ob, y = oA SI_5 11 (Int32.toNatClampNeg (SI_5.1 8)) 0 := ⟨_, rfl⟩
    have hf := lt_nm hf eSI_7
    refine g_iast hC hW 10 rfl hi_6 (w' := w4 cy aI SI_7) (by rw [eSI_7]; rfl) dX4_addSign_38 (fun H locs hW => ?_)
    refine lv_aload_n hC.1 hC.2.1 dX4_addSign_39 rfl (lv_at hl 0 rfl) ?_
    refine lv_dup hC.1 hC.2.1 dX4_addSign_40 rfl ?_
    refine g_get hC hW hin4_addSign_4 0 rfl rfl 8 (by decide) 1 rfl rfl dX4_addSign_41 ?_
    refine lv_iconst (v := 1) hC.1 hC.2.1 dX4_addSign_44 (by decide) ?_
    refine lv_iadd hC.1 hC.2.1 dX4_addSign_45 ?_
    obtain ⟨SI_8, eSI_8⟩ : ∃ y : Ob, y = oI SI_7 8 ((SI_7.1 8) + 1) := ⟨_, rfl⟩
    have hf := lt_nm hf eSI_8
    refine g_put hC hW hin4_addSign_4 tyX4 tyX4_ok nmX4 0 rfl rfl 8 (by decide) 1 rfl rfl rfl rfl (Nat.le_of_ble_eq_true rfl) (w' := w4 cy aI SI_8) (by rw [eSI_8]; rfl) dX4_addSign_46 (fun H locs hW => ?_)
    exact t4_addSign_49 hC  _ _ _ _ _ hf hW (lv_sub hl [] rfl)
set_option maxRecDepth 100000 in
set_option maxHeartbeats 4000000 in
theorem c4_addSign (l : Launch) (D : va_G) (cy : Nat → ClassId) (ad : Nat → Nat) (aI : Nat → Nat) {x1 : Int64} {x3 : Int32} {SI : Ob} {res : Ob} (h : f4_addSign x1 x3 SI = some res) : GCv l yX4_addSign wsX4_addSign rm4_addSign [.ref (aI 0), .long x1, .int x3] D cy ad (w4 cy aI SI) (w4 cy aI res) := fun sz => GC.start (own := RX4) (Qc := fun A => QV D cy (w4 cy aI res) A) sz (by decide) rfl rfl (Nat.le_of_ble_eq_true rfl) (fun p e s m below meth c A ls hC hW hl => t4_addSign_0 hC _ _ _ _ _ _ _ h hW (lv_sub hl [0, 1, 2] rfl))
abbrev rm4_letShow : Room := { frames := 0, cells := 0, slots := 0, locals := 0 }
theorem hdV4_letShow : yX4_letShow.cls = RX4 ∧ (yX4_letShow.cls ≠ "java/lang/invoke/MethodHandle" ∧ yX4_letShow.cls ≠ "java/lang/invoke/VarHandle" ∧ (parseMethodDescriptor yX4_letShow.desc).map (fun d => d.parameters.length) = some 2) := by decide +kernel
theorem hin4_letShow_4 : ∀ x ∈ u_ws RX4 TX4 13, x ∈ wsX4_letShow := fun _ h => List.mem_cons_of_mem _ (List.mem_append_right _ h)
set_option maxRecDepth 100000 in
set_option maxHeartbeats 4000000 in
theorem t4_letShow_9 (hC : Cx p s m args meth c cX4_letShow 4 wsX4_letShow RX4 none) : ∀ n : Nat, ∀ (x1 : Int32) (x2 : Int32) (x3 : Int32) (SI : Ob) (res : Ob) (H : Heap) (locs : List Loc) (ls : Array Slot), f4_letShow_9 n x1 x2 x3 SI = some res → GW D cy ad (w4 cy aI SI) A s H locs → lv_has ls 4 [(0, .ref (aI 0)), (1, .int x1), (2, .int x2), (3, .int x3)] → W p l e rm4_letShow s m args below meth c H locs 0 0 (MQ below (QV D cy (w4 cy aI res) A) args s 0 0 A) (F0 m 9 ls []) := by
  intro n
  induction n with
  | zero =>
    intro _ _ _ _ _ _ _ _ hf _ _
    exact nomatch (show (none : Option (Ob)) = some _ from hf)
  | succ n ih =>
    intro x1 x2 x3 SI res H locs ls hf hW hl
    rw [f4_letShow_9] at hf
    refine lv_iload_n hC.1 hC.2.1 dX4_letShow_9 rfl (lv_at hl 3 rfl) ?_
    refine lv_bipush (v := 32) hC.1 hC.2.1 dX4_letShow_10 (by decide) ?_
    refine lv_icmp_ge (tgt := 37) hC.1 hC.2.1 dX4_letShow_12 (by decide) (fun hc_1 => ?_) (fun hc_1 => ?_)
    · have hf := ite_t hf hc_1
      obtain rfl := Option.some.inj hf
      exact g_vret hC hW dX4_letShow_37
    · have hf := ite_f hf hc_1
      refine lv_aload_n hC.1 hC.2.1 dX4_letShow_15 rfl (lv_at hl 0 rfl) ?_
      refine g_get hC hW hin4_letShow_4 0 rfl rfl 12 (by decide) 2 rfl rfl dX4_letShow_16 ?_
      refine lv_iload_n hC.1 hC.2.1 dX4_letShow_19 rfl (lv_at hl 3 rfl) ?_
      refine lv_dup2_11 hC.1 hC.2.1 dX4_letShow_20 rfl rfl ?_
      obtain ⟨hi_2, hf⟩ := ck_of hf
      refine g_iald hC hW 11 rfl hi_2 dX4_letShow_21 ?_
      refine lv_iload_n hC.1 hC.2.1 dX4_letShow_22 rfl (lv_at hl 2 rfl) ?_
      refine lv_iload_n hC.1 hC.2.1 dX4_letShow_23 rfl (lv_at hl 3 rfl) ?_
      refine lv_iushr (v := ush x2 x3) hC.1 hC.2.1 dX4_letShow_24 rfl ?_
      refine lv_iconst (v := 1) hC.1 hC.2.1 dX4_letShow_25 (by decide) ?_
      refine lv_iand hC.1 hC.2.1 dX4_letShow_26 ?_
      refine lv_iload_n hC.1 hC.2.1 dX4_letShow_27 rfl (lv_at hl 1 rfl) ?_
      refine lv_ishl hC.1 hC.2.1 dX4_letShow_28 ?_
      refine lv_ior hC.1 hC.2.1 dX4_letShow_29 ?_
      obtain ⟨hi_3, hf⟩ := ck_of hf
      obtain ⟨SI_4, eSI_4⟩ : ∃ y : Ob, y = oA SI 12 (Int32.toNatClampNeg x3) ((SI.2.2.1 12 (Int32.toNatClampNeg x3)) ||| (((ush x2 x3) &&& 1) <<< (x1 &&& 31))) := ⟨_, rfl⟩
      have hf := lt_nm hf eSI_4
      refine g_iast hC hW 11 rfl hi_3 (w' := w4 cy aI SI_4) (by rw [eSI_4]; rfl) dX4_letShow_30 (fun H locs hW => ?_)
      obtain ⟨x3_5, ex3_5⟩ : ∃ y : Int32, y = x3 + 1 := ⟨_, rfl⟩
      have hf := lt_nm hf ex3_5
      refine lv_iinc (v := x3_5) (lv' := [(3, .int x3_5), (0, .ref (aI 0)), (1, .int x1), (2, .int x2)]) hC.1 hC.2.1 dX4_letShow_31 hl (k := 3) rfl (by rw [ex3_5]; rfl) (by decide) rfl (fun ls hl => ?_)
      refine lv_goto (tgt := 9) hC.1 hC.2.1 dX4_letShow_34 (by decide) ?_
      exact ih _ _ _ _ _ _ _ _ hf hW (lv_sub hl [1, 2, 3, 0] rfl)
set_option maxRecDepth 100000 in
set_option maxHeartbeats 4000000 in
theorem t4_letShow_0 (hC : Cx p s m args meth c cX4_letShow 4 wsX4_letShow RX4 none) : ∀ (x1 : Int32) (x2 : Int32) (SI : Ob) (res : Ob) (H : Heap) (locs : List Loc) (ls : Array Slot), f4_letShow x1 x2 SI = some res → GW D cy ad (w4 cy aI SI) A s H locs → lv_has ls 4 [(0, .ref (aI 0)), (1, .int x1), (2, .int x2)] → W p l e rm4_letShow s m args below meth c H locs 0 0 (MQ below (QV D cy (w4 cy aI res) A) args s 0 0 A) (F0 m 0 ls []) := by
  intro x1 x2 SI res H locs ls hf hW hl
  unfold f4_letShow at hf
  refine lv_aload_n hC.1 hC.2.1 dX4_letShow_0 rfl (lv_at hl 0 rfl) ?_
  refine g_get hC hW hin4_letShow_4 0 rfl rfl 11 (by decide) 1 rfl rfl dX4_letShow_1 ?_
  refine lv_iload_n hC.1 hC.2.1 dX4_letShow_4 rfl (lv_at hl 1 rfl) ?_
  refine lv_iload_n hC.1 hC.2.1 dX4_letShow_5 rfl (lv_at hl 2 rfl) ?_
  obtain ⟨hi_1, hf⟩ := ck_of hf
  obtain ⟨SI_2, eSI_2⟩ : ∃ y : Ob, y = oA SI 11 (Int32.toNatClampNeg x1) x2 := ⟨_, rfl⟩
  have hf := lt_nm hf eSI_2
  refine g_iast hC hW 10 rfl hi_1 (w' := w4 cy aI SI_2) (by rw [eSI_2]; rfl) dX4_letShow_6 (fun H locs hW => ?_)
  refine lv_iconst (v := 0) hC.1 hC.2.1 dX4_letShow_7 (by decide) ?_
  refine lv_istore_n (lv' := [(3, .int 0), (0, .ref (aI 0)), (1, .int x1), (2, .int x2)]) hC.1 hC.2.1 dX4_letShow_8 rfl hl (by decide) rfl (fun ls hl => ?_)
  exact t4_letShow_9 hC _ _ _ _ _ _ _ _ _ hf hW (lv_sub hl [1, 2, 3, 0] rfl)
set_option maxRecDepth 100000 in
set_option maxHeartbeats 4000000 in
theorem c4_letShow (l : Launch) (D : va_G) (cy : Nat → ClassId) (ad : Nat → Nat) (aI : Nat → Nat) {x1 : Int32} {x2 : Int32} {SI : Ob} {res : Ob} (h : f4_letShow x1 x2 SI = some res) : GCv l yX4_letShow wsX4_letShow rm4_letShow [.ref (aI 0), .int x1, .int x2] D cy ad (w4 cy aI SI) (w4 cy aI res) := fun sz => GC.start (own := RX4) (Qc := fun A => QV D cy (w4 cy aI res) A) sz (by decide) rfl rfl (Nat.le_of_ble_eq_true rfl) (fun p e s m below meth c A ls hC hW hl => t4_letShow_0 hC _ _ _ _ _ _ _ h hW (lv_sub hl [0, 1, 2] rfl))
abbrev rm4_guestNamed : Room := { frames := 0, cells := 0, slots := 0, locals := 0 }
theorem hdV4_guestNamed : yX4_guestNamed.cls = RX4 ∧ (yX4_guestNamed.cls ≠ "java/lang/invoke/MethodHandle" ∧ yX4_guestNamed.cls ≠ "java/lang/invoke/VarHandle" ∧ (parseMethodDescriptor yX4_guestNamed.desc).map (fun d => d.parameters.length) = some 1) := by decide +kernel
theorem hin4_guestNamed_4 : ∀ x ∈ u_ws RX4 TX4 13, x ∈ wsX4_guestNamed := fun _ h => List.mem_cons_of_mem _ (List.mem_append_right _ h)
set_option maxRecDepth 100000 in
set_option maxHeartbeats 4000000 in
theorem t4_guestNamed_2 (hC : Cx p s m args meth c cX4_guestNamed 4 wsX4_guestNamed RX4 (some .int)) : ∀ n : Nat, ∀ (x1 : Int64) (x3 : Int32) (SI : Ob) (res : Int32) (H : Heap) (locs : List Loc) (ls : Array Slot), f4_guestNamed_2 n x1 x3 SI = some res → GW D cy ad (w4 cy aI SI) A s H locs → lv_has ls 4 [(0, .ref (aI 0)), (1, .long x1), (3, .int x3)] → W p l e rm4_guestNamed s m args below meth c H locs 0 0 (MQ below (QI D cy (w4 cy aI SI) A res) args s 0 0 A) (F0 m 2 ls []) := by
  intro n
  induction n with
  | zero =>
    intro _ _ _ _ _ _ _ hf _ _
    exact nomatch (show (none : Option (Int32)) = some _ from hf)
  | succ n ih =>
    intro x1 x3 SI res H locs ls hf hW hl
    rw [f4_guestNamed_2] at hf
    refine lv_iload_n hC.1 hC.2.1 dX4_guestNamed_2 rfl (lv_at hl 2 rfl) ?_
    refine lv_aload_n hC.1 hC.2.1 dX4_guestNamed_3 rfl (lv_at hl 0 rfl) ?_
    refine g_get hC hW hin4_guestNamed_4 0 rfl rfl 0 (by decide) 1 rfl rfl dX4_guestNamed_4 ?_
    refine lv_icmp_ge (tgt := 29) hC.1 hC.2.1 dX4_guestNamed_7 (by decide) (fun hc_1 => ?_) (fun hc_1 => ?_)
    · have hf := ite_t hf hc_1
      refine lv_iconst (v := (-1)) hC.1 hC.2.1 dX4_guestNamed_29 (by decide) ?_
      obtain rfl := Option.some.inj hf
      exact g_iret hC hW dX4_guestNamed_30
    · have hf := ite_f hf hc_1
      refine lv_aload_n hC.1 hC.2.1 dX4_guestNamed_10 rfl (lv_at hl 0 rfl) ?_
      refine g_get hC hW hin4_guestNamed_4 0 rfl rfl 1 (by decide) 2 rfl rfl dX4_guestNamed_11 ?_
      refine lv_iload_n hC.1 hC.2.1 dX4_guestNamed_14 rfl (lv_at hl 2 rfl) ?_
      obtain ⟨hi_2, hf⟩ := ck_of hf
      refine g_lald hC hW 1 rfl hi_2 dX4_guestNamed_15 ?_
      refine lv_lload_n hC.1 hC.2.1 dX4_guestNamed_16 rfl (lv_at hl 1 rfl) ?_
      refine W.lcmp hC.1 hC.2.1 dX4_guestNamed_17 ?_
      refine lv_if_ne (tgt := 23) hC.1 hC.2.1 dX4_guestNamed_18 (by decide) (fun hc_3 => ?_) (fun hc_3 => ?_)
      · have hf := ite_f hf hc_3
        obtain ⟨x3_4, ex3_4⟩ : ∃ y : Int32, y = x3 + 1 := ⟨_, rfl⟩
        have hf := lt_nm hf ex3_4
        refine lv_iinc (v := x3_4) (lv' := [(3, .int x3_4), (0, .ref (aI 0)), (1, .long x1)]) hC.1 hC.2.1 dX4_guestNamed_23 hl (k := 2) rfl (by rw [ex3_4]; rfl) (by decide) rfl (fun ls hl => ?_)
        refine lv_goto (tgt := 2) hC.1 hC.2.1 dX4_guestNamed_26 (by decide) ?_
        exact ih _ _ _ _ _ _ _ hf hW (lv_sub hl [1, 2, 0] rfl)
      · have hf := ite_t hf hc_3
        refine lv_iload_n hC.1 hC.2.1 dX4_guestNamed_21 rfl (lv_at hl 2 rfl) ?_
        obtain rfl := Option.some.inj hf
        exact g_iret hC hW dX4_guestNamed_22
set_option maxRecDepth 100000 in
set_option maxHeartbeats 4000000 in
theorem t4_guestNamed_0 (hC : Cx p s m args meth c cX4_guestNamed 4 wsX4_guestNamed RX4 (some .int)) : ∀ (x1 : Int64) (SI : Ob) (res : Int32) (H : Heap) (locs : List Loc) (ls : Array Slot), f4_guestNamed x1 SI = some res → GW D cy ad (w4 cy aI SI) A s H locs → lv_has ls 4 [(0, .ref (aI 0)), (1, .long x1)] → W p l e rm4_guestNamed s m args below meth c H locs 0 0 (MQ below (QI D cy (w4 cy aI SI) A res) args s 0 0 A) (F0 m 0 ls []) := by
  intro x1 SI res H locs ls hf hW hl
  unfold f4_guestNamed at hf
  refine lv_iconst (v := 0) hC.1 hC.2.1 dX4_guestNamed_0 (by decide) ?_
  refine lv_istore_n (lv' := [(3, .int 0), (0, .ref (aI 0)), (1, .long x1)]) hC.1 hC.2.1 dX4_guestNamed_1 rfl hl (by decide) rfl (fun ls hl => ?_)
  exact t4_guestNamed_2 hC _ _ _ _ _ _ _ _ hf hW (lv_sub hl [1, 2, 0] rfl)
set_option maxRecDepth 100000 in
set_option maxHeartbeats 4000000 in
theorem c4_guestNamed (l : Launch) (D : va_G) (cy : Nat → ClassId) (ad : Nat → Nat) (aI : Nat → Nat) {x1 : Int64} {SI : Ob} {res : Int32} (h : f4_guestNamed x1 SI = some res) : GCi l yX4_guestNamed wsX4_guestNamed rm4_guestNamed [.ref (aI 0), .long x1] D cy ad (w4 cy aI SI) (w4 cy aI SI) res := fun sz => GC.start (own := RX4) (Qc := fun A => QI D cy (w4 cy aI SI) A res) sz (by decide) rfl rfl (Nat.le_of_ble_eq_true rfl) (fun p e s m below meth c A ls hC hW hl => t4_guestNamed_0 hC _ _ _ _ _ _ h hW (lv_sub hl [0, 1] rfl))
abbrev rm4_signNamed : Room := { frames := 0, cells := 0, slots := 0, locals := 0 }
theorem hdV4_signNamed : yX4_signNamed.cls = RX4 ∧ (yX4_signNamed.cls ≠ "java/lang/invoke/MethodHandle" ∧ yX4_signNamed.cls ≠ "java/lang/invoke/VarHandle" ∧ (parseMethodDescriptor yX4_signNamed.desc).map (fun d => d.parameters.length) = some 1) := by decide +kernel
theorem hin4_signNamed_4 : ∀ x ∈ u_ws RX4 TX4 13, x ∈ wsX4_signNamed := fun _ h => List.mem_cons_of_mem _ (List.mem_append_right _ h)
set_option maxRecDepth 100000 in
set_option maxHeartbeats 4000000 in
theorem t4_signNamed_2 (hC : Cx p s m args meth c cX4_signNamed 4 wsX4_signNamed RX4 (some .int)) : ∀ n : Nat, ∀ (x1 : Int64) (x3 : Int32) (SI : Ob) (res : Int32) (H : Heap) (locs : List Loc) (ls : Array Slot), f4_signNamed_2 n x1 x3 SI = some res → GW D cy ad (w4 cy aI SI) A s H locs → lv_has ls 4 [(0, .ref (aI 0)), (1, .long x1), (3, .int x3)] → W p l e rm4_signNamed s m args below meth c H locs 0 0 (MQ below (QI D cy (w4 cy aI SI) A res) args s 0 0 A) (F0 m 2 ls []) := by
  intro n
  induction n with
  | zero =>
    intro _ _ _ _ _ _ _ hf _ _
    exact nomatch (show (none : Option (Int32)) = some _ from hf)
  | succ n ih =>
    intro x1 x3 SI res H locs ls hf hW hl
    rw [f4_signNamed_2] at hf
    refine lv_iload_n hC.1 hC.2.1 dX4_signNamed_2 rfl (lv_at hl 2 rfl) ?_
    refine lv_aload_n hC.1 hC.2.1 dX4_signNamed_3 rfl (lv_at hl 0 rfl) ?_
    refine g_get hC hW hin4_signNamed_4 0 rfl rfl 8 (by decide) 1 rfl rfl dX4_signNamed_4 ?_
    refine lv_icmp_ge (tgt := 29) hC.1 hC.2.1 dX4_signNamed_7 (by decide) (fun hc_1 => ?_) (fun hc_1 => ?_)
    · have hf := ite_t hf hc_1
      refine lv_iconst (v := (-1)) hC.1 hC.2.1 dX4_signNamed_29 (by decide) ?_
      obtain rfl := Option.some.inj hf
      exact g_iret hC hW dX4_signNamed_30
    · have hf := ite_f hf hc_1
      refine lv_aload_n hC.1 hC.2.1 dX4_signNamed_10 rfl (lv_at hl 0 rfl) ?_
      refine g_get hC hW hin4_signNamed_4 0 rfl rfl 9 (by decide) 2 rfl rfl dX4_signNamed_11 ?_
      refine lv_iload_n hC.1 hC.2.1 dX4_signNamed_14 rfl (lv_at hl 2 rfl) ?_
      obtain ⟨hi_2, hf⟩ := ck_of hf
      refine g_lald hC hW 8 rfl hi_2 dX4_signNamed_15 ?_
      refine lv_lload_n hC.1 hC.2.1 dX4_signNamed_16 rfl (lv_at hl 1 rfl) ?_
      refine W.lcmp hC.1 hC.2.1 dX4_signNamed_17 ?_
      refine lv_if_ne (tgt := 23) hC.1 hC.2.1 dX4_signNamed_18 (by decide) (fun hc_3 => ?_) (fun hc_3 => ?_)
      · have hf := ite_f hf hc_3
        obtain ⟨x3_4, ex3_4⟩ : ∃ y : Int32, y = x3 + 1 := ⟨_, rfl⟩
        have hf := lt_nm hf ex3_4
        refine lv_iinc (v := x3_4) (lv' := [(3, .int x3_4), (0, .ref (aI 0)), (1, .long x1)]) hC.1 hC.2.1 dX4_signNamed_23 hl (k := 2) rfl (by rw [ex3_4]; rfl) (by decide) rfl (fun ls hl => ?_)
        refine lv_goto (tgt := 2) hC.1 hC.2.1 dX4_signNamed_26 (by decide) ?_
        exact ih _ _ _ _ _ _ _ hf hW (lv_sub hl [1, 2, 0] rfl)
      · have hf := ite_t hf hc_3
        refine lv_iload_n hC.1 hC.2.1 dX4_signNamed_21 rfl (lv_at hl 2 rfl) ?_
        obtain rfl := Option.some.inj hf
        exact g_iret hC hW dX4_signNamed_22
set_option maxRecDepth 100000 in
set_option maxHeartbeats 4000000 in
theorem t4_signNamed_0 (hC : Cx p s m args meth c cX4_signNamed 4 wsX4_signNamed RX4 (some .int)) : ∀ (x1 : Int64) (SI : Ob) (res : Int32) (H : Heap) (locs : List Loc) (ls : Array Slot), f4_signNamed x1 SI = some res → GW D cy ad (w4 cy aI SI) A s H locs → lv_has ls 4 [(0, .ref (aI 0)), (1, .long x1)] → W p l e rm4_signNamed s m args below meth c H locs 0 0 (MQ below (QI D cy (w4 cy aI SI) A res) args s 0 0 A) (F0 m 0 ls []) := by
  intro x1 SI res H locs ls hf hW hl
  unfold f4_signNamed at hf
  refine lv_iconst (v := 0) hC.1 hC.2.1 dX4_signNamed_0 (by decide) ?_
  refine lv_istore_n (lv' := [(3, .int 0), (0, .ref (aI 0)), (1, .long x1)]) hC.1 hC.2.1 dX4_signNamed_1 rfl hl (by decide) rfl (fun ls hl => ?_)
  exact t4_signNamed_2 hC _ _ _ _ _ _ _ _ hf hW (lv_sub hl [1, 2, 0] rfl)
set_option maxRecDepth 100000 in
set_option maxHeartbeats 4000000 in
theorem c4_signNamed (l : Launch) (D : va_G) (cy : Nat → ClassId) (ad : Nat → Nat) (aI : Nat → Nat) {x1 : Int64} {SI : Ob} {res : Int32} (h : f4_signNamed x1 SI = some res) : GCi l yX4_signNamed wsX4_signNamed rm4_signNamed [.ref (aI 0), .long x1] D cy ad (w4 cy aI SI) (w4 cy aI SI) res := fun sz => GC.start (own := RX4) (Qc := fun A => QI D cy (w4 cy aI SI) A res) sz (by decide) rfl rfl (Nat.le_of_ble_eq_true rfl) (fun p e s m below meth c A ls hC hW hl => t4_signNamed_0 hC _ _ _ _ _ _ h hW (lv_sub hl [0, 1] rfl))
abbrev rm4_hasGuest : Room := { frames := 0, cells := 0, slots := 0, locals := 0 }
theorem hdV4_hasGuest : yX4_hasGuest.cls = RX4 ∧ (yX4_hasGuest.cls ≠ "java/lang/invoke/MethodHandle" ∧ yX4_hasGuest.cls ≠ "java/lang/invoke/VarHandle" ∧ (parseMethodDescriptor yX4_hasGuest.desc).map (fun d => d.parameters.length) = some 1) := by decide +kernel
theorem hin4_hasGuest_4 : ∀ x ∈ u_ws RX4 TX4 13, x ∈ wsX4_hasGuest := fun _ h => List.mem_cons_of_mem _ (List.mem_append_right _ h)
set_option maxRecDepth 100000 in
set_option maxHeartbeats 4000000 in
theorem t4_hasGuest_17 (hC : Cx p s m args meth c cX4_hasGuest 2 wsX4_hasGuest RX4 (some .boolean)) : ∀ (z0 : Int32) (SI : Ob) (res : Int32) (H : Heap) (locs : List Loc) (ls : Array Slot), f4_hasGuest_17 z0 SI = some res → GW D cy ad (w4 cy aI SI) A s H locs → lv_has ls 2 [] → W p l e rm4_hasGuest s m args below meth c H locs 0 0 (MQ below (QI D cy (w4 cy aI SI) A res) args s 0 0 A) (F0 m 17 ls [.int z0]) := by
  intro z0 SI res H locs ls hf hW hl
  unfold f4_hasGuest_17 at hf
  obtain ⟨hz, hf⟩ := ck_of hf
  obtain rfl := Option.some.inj hf
  exact g_zret hC hW hz dX4_hasGuest_17
set_option maxRecDepth 100000 in
set_option maxHeartbeats 4000000 in
theorem t4_hasGuest_16 (hC : Cx p s m args meth c cX4_hasGuest 2 wsX4_hasGuest RX4 (some .boolean)) : ∀ (SI : Ob) (res : Int32) (H : Heap) (locs : List Loc) (ls : Array Slot), f4_hasGuest_16 SI = some res → GW D cy ad (w4 cy aI SI) A s H locs → lv_has ls 2 [] → W p l e rm4_hasGuest s m args below meth c H locs 0 0 (MQ below (QI D cy (w4 cy aI SI) A res) args s 0 0 A) (F0 m 16 ls []) := by
  intro SI res H locs ls hf hW hl
  unfold f4_hasGuest_16 at hf
  refine lv_iconst (v := 0) hC.1 hC.2.1 dX4_hasGuest_16 (by decide) ?_
  exact t4_hasGuest_17 hC  _ _ _ _ _ _ hf hW (lv_sub hl [] rfl)
set_option maxRecDepth 100000 in
set_option maxHeartbeats 4000000 in
theorem t4_hasGuest_0 (hC : Cx p s m args meth c cX4_hasGuest 2 wsX4_hasGuest RX4 (some .boolean)) : ∀ (x1 : Int32) (SI : Ob) (res : Int32) (H : Heap) (locs : List Loc) (ls : Array Slot), f4_hasGuest x1 SI = some res → GW D cy ad (w4 cy aI SI) A s H locs → lv_has ls 2 [(0, .ref (aI 0)), (1, .int x1)] → W p l e rm4_hasGuest s m args below meth c H locs 0 0 (MQ below (QI D cy (w4 cy aI SI) A res) args s 0 0 A) (F0 m 0 ls []) := by
  intro x1 SI res H locs ls hf hW hl
  unfold f4_hasGuest at hf
  refine lv_iload_n hC.1 hC.2.1 dX4_hasGuest_0 rfl (lv_at hl 1 rfl) ?_
  refine lv_if_lt (tgt := 16) hC.1 hC.2.1 dX4_hasGuest_1 (by decide) (fun hc_1 => ?_) (fun hc_1 => ?_)
  · have hf := ite_t hf hc_1
    exact t4_hasGuest_16 hC  _ _ _ _ _ hf hW (lv_sub hl [] rfl)
  · have hf := ite_f hf hc_1
    refine lv_iload_n hC.1 hC.2.1 dX4_hasGuest_4 rfl (lv_at hl 1 rfl) ?_
    refine lv_aload_n hC.1 hC.2.1 dX4_hasGuest_5 rfl (lv_at hl 0 rfl) ?_
    refine g_get hC hW hin4_hasGuest_4 0 rfl rfl 0 (by decide) 1 rfl rfl dX4_hasGuest_6 ?_
    refine lv_icmp_ge (tgt := 16) hC.1 hC.2.1 dX4_hasGuest_9 (by decide) (fun hc_2 => ?_) (fun hc_2 => ?_)
    · have hf := ite_t hf hc_2
      exact t4_hasGuest_16 hC  _ _ _ _ _ hf hW (lv_sub hl [] rfl)
    · have hf := ite_f hf hc_2
      refine lv_iconst (v := 1) hC.1 hC.2.1 dX4_hasGuest_12 (by decide) ?_
      refine lv_goto (tgt := 17) hC.1 hC.2.1 dX4_hasGuest_13 (by decide) ?_
      exact t4_hasGuest_17 hC  _ _ _ _ _ _ hf hW (lv_sub hl [] rfl)
set_option maxRecDepth 100000 in
set_option maxHeartbeats 4000000 in
theorem c4_hasGuest (l : Launch) (D : va_G) (cy : Nat → ClassId) (ad : Nat → Nat) (aI : Nat → Nat) {x1 : Int32} {SI : Ob} {res : Int32} (h : f4_hasGuest x1 SI = some res) : GCi l yX4_hasGuest wsX4_hasGuest rm4_hasGuest [.ref (aI 0), .int x1] D cy ad (w4 cy aI SI) (w4 cy aI SI) res := fun sz => GC.start (own := RX4) (Qc := fun A => QI D cy (w4 cy aI SI) A res) sz (by decide) rfl rfl (Nat.le_of_ble_eq_true rfl) (fun p e s m below meth c A ls hC hW hl => t4_hasGuest_0 hC _ _ _ _ _ _ h hW (lv_sub hl [0, 1] rfl))
abbrev rm4_hasSign : Room := { frames := 0, cells := 0, slots := 0, locals := 0 }
theorem hdV4_hasSign : yX4_hasSign.cls = RX4 ∧ (yX4_hasSign.cls ≠ "java/lang/invoke/MethodHandle" ∧ yX4_hasSign.cls ≠ "java/lang/invoke/VarHandle" ∧ (parseMethodDescriptor yX4_hasSign.desc).map (fun d => d.parameters.length) = some 1) := by decide +kernel
theorem hin4_hasSign_4 : ∀ x ∈ u_ws RX4 TX4 13, x ∈ wsX4_hasSign := fun _ h => List.mem_cons_of_mem _ (List.mem_append_right _ h)
set_option maxRecDepth 100000 in
set_option maxHeartbeats 4000000 in
theorem t4_hasSign_17 (hC : Cx p s m args meth c cX4_hasSign 2 wsX4_hasSign RX4 (some .boolean)) : ∀ (z0 : Int32) (SI : Ob) (res : Int32) (H : Heap) (locs : List Loc) (ls : Array Slot), f4_hasSign_17 z0 SI = some res → GW D cy ad (w4 cy aI SI) A s H locs → lv_has ls 2 [] → W p l e rm4_hasSign s m args below meth c H locs 0 0 (MQ below (QI D cy (w4 cy aI SI) A res) args s 0 0 A) (F0 m 17 ls [.int z0]) := by
  intro z0 SI res H locs ls hf hW hl
  unfold f4_hasSign_17 at hf
  obtain ⟨hz, hf⟩ := ck_of hf
  obtain rfl := Option.some.inj hf
  exact g_zret hC hW hz dX4_hasSign_17
set_option maxRecDepth 100000 in
set_option maxHeartbeats 4000000 in
theorem t4_hasSign_16 (hC : Cx p s m args meth c cX4_hasSign 2 wsX4_hasSign RX4 (some .boolean)) : ∀ (SI : Ob) (res : Int32) (H : Heap) (locs : List Loc) (ls : Array Slot), f4_hasSign_16 SI = some res → GW D cy ad (w4 cy aI SI) A s H locs → lv_has ls 2 [] → W p l e rm4_hasSign s m args below meth c H locs 0 0 (MQ below (QI D cy (w4 cy aI SI) A res) args s 0 0 A) (F0 m 16 ls []) := by
  intro SI res H locs ls hf hW hl
  unfold f4_hasSign_16 at hf
  refine lv_iconst (v := 0) hC.1 hC.2.1 dX4_hasSign_16 (by decide) ?_
  exact t4_hasSign_17 hC  _ _ _ _ _ _ hf hW (lv_sub hl [] rfl)
set_option maxRecDepth 100000 in
set_option maxHeartbeats 4000000 in
theorem t4_hasSign_0 (hC : Cx p s m args meth c cX4_hasSign 2 wsX4_hasSign RX4 (some .boolean)) : ∀ (x1 : Int32) (SI : Ob) (res : Int32) (H : Heap) (locs : List Loc) (ls : Array Slot), f4_hasSign x1 SI = some res → GW D cy ad (w4 cy aI SI) A s H locs → lv_has ls 2 [(0, .ref (aI 0)), (1, .int x1)] → W p l e rm4_hasSign s m args below meth c H locs 0 0 (MQ below (QI D cy (w4 cy aI SI) A res) args s 0 0 A) (F0 m 0 ls []) := by
  intro x1 SI res H locs ls hf hW hl
  unfold f4_hasSign at hf
  refine lv_iload_n hC.1 hC.2.1 dX4_hasSign_0 rfl (lv_at hl 1 rfl) ?_
  refine lv_if_lt (tgt := 16) hC.1 hC.2.1 dX4_hasSign_1 (by decide) (fun hc_1 => ?_) (fun hc_1 => ?_)
  · have hf := ite_t hf hc_1
    exact t4_hasSign_16 hC  _ _ _ _ _ hf hW (lv_sub hl [] rfl)
  · have hf := ite_f hf hc_1
    refine lv_iload_n hC.1 hC.2.1 dX4_hasSign_4 rfl (lv_at hl 1 rfl) ?_
    refine lv_aload_n hC.1 hC.2.1 dX4_hasSign_5 rfl (lv_at hl 0 rfl) ?_
    refine g_get hC hW hin4_hasSign_4 0 rfl rfl 8 (by decide) 1 rfl rfl dX4_hasSign_6 ?_
    refine lv_icmp_ge (tgt := 16) hC.1 hC.2.1 dX4_hasSign_9 (by decide) (fun hc_2 => ?_) (fun hc_2 => ?_)
    · have hf := ite_t hf hc_2
      exact t4_hasSign_16 hC  _ _ _ _ _ hf hW (lv_sub hl [] rfl)
    · have hf := ite_f hf hc_2
      refine lv_iconst (v := 1) hC.1 hC.2.1 dX4_hasSign_12 (by decide) ?_
      refine lv_goto (tgt := 17) hC.1 hC.2.1 dX4_hasSign_13 (by decide) ?_
      exact t4_hasSign_17 hC  _ _ _ _ _ _ hf hW (lv_sub hl [] rfl)
set_option maxRecDepth 100000 in
set_option maxHeartbeats 4000000 in
theorem c4_hasSign (l : Launch) (D : va_G) (cy : Nat → ClassId) (ad : Nat → Nat) (aI : Nat → Nat) {x1 : Int32} {SI : Ob} {res : Int32} (h : f4_hasSign x1 SI = some res) : GCi l yX4_hasSign wsX4_hasSign rm4_hasSign [.ref (aI 0), .int x1] D cy ad (w4 cy aI SI) (w4 cy aI SI) res := fun sz => GC.start (own := RX4) (Qc := fun A => QI D cy (w4 cy aI SI) A res) sz (by decide) rfl rfl (Nat.le_of_ble_eq_true rfl) (fun p e s m below meth c A ls hC hW hl => t4_hasSign_0 hC _ _ _ _ _ _ h hW (lv_sub hl [0, 1] rfl))
abbrev rm4_hasWorld : Room := { frames := 0, cells := 0, slots := 0, locals := 0 }
theorem hdV4_hasWorld : yX4_hasWorld.cls = RX4 ∧ (yX4_hasWorld.cls ≠ "java/lang/invoke/MethodHandle" ∧ yX4_hasWorld.cls ≠ "java/lang/invoke/VarHandle" ∧ (parseMethodDescriptor yX4_hasWorld.desc).map (fun d => d.parameters.length) = some 1) := by decide +kernel
theorem hin4_hasWorld_4 : ∀ x ∈ u_ws RX4 TX4 13, x ∈ wsX4_hasWorld := fun _ h => List.mem_cons_of_mem _ (List.mem_append_right _ h)
set_option maxRecDepth 100000 in
set_option maxHeartbeats 4000000 in
theorem t4_hasWorld_19 (hC : Cx p s m args meth c cX4_hasWorld 2 wsX4_hasWorld RX4 (some .boolean)) : ∀ (z0 : Int32) (SI : Ob) (res : Int32) (H : Heap) (locs : List Loc) (ls : Array Slot), f4_hasWorld_19 z0 SI = some res → GW D cy ad (w4 cy aI SI) A s H locs → lv_has ls 2 [] → W p l e rm4_hasWorld s m args below meth c H locs 0 0 (MQ below (QI D cy (w4 cy aI SI) A res) args s 0 0 A) (F0 m 19 ls [.int z0]) := by
  intro z0 SI res H locs ls hf hW hl
  unfold f4_hasWorld_19 at hf
  obtain ⟨hz, hf⟩ := ck_of hf
  obtain rfl := Option.some.inj hf
  exact g_zret hC hW hz dX4_hasWorld_19
set_option maxRecDepth 100000 in
set_option maxHeartbeats 4000000 in
theorem t4_hasWorld_18 (hC : Cx p s m args meth c cX4_hasWorld 2 wsX4_hasWorld RX4 (some .boolean)) : ∀ (SI : Ob) (res : Int32) (H : Heap) (locs : List Loc) (ls : Array Slot), f4_hasWorld_18 SI = some res → GW D cy ad (w4 cy aI SI) A s H locs → lv_has ls 2 [] → W p l e rm4_hasWorld s m args below meth c H locs 0 0 (MQ below (QI D cy (w4 cy aI SI) A res) args s 0 0 A) (F0 m 18 ls []) := by
  intro SI res H locs ls hf hW hl
  unfold f4_hasWorld_18 at hf
  refine lv_iconst (v := 0) hC.1 hC.2.1 dX4_hasWorld_18 (by decide) ?_
  exact t4_hasWorld_19 hC  _ _ _ _ _ _ hf hW (lv_sub hl [] rfl)
set_option maxRecDepth 100000 in
set_option maxHeartbeats 4000000 in
theorem t4_hasWorld_0 (hC : Cx p s m args meth c cX4_hasWorld 2 wsX4_hasWorld RX4 (some .boolean)) : ∀ (x1 : Int32) (SI : Ob) (res : Int32) (H : Heap) (locs : List Loc) (ls : Array Slot), f4_hasWorld x1 SI = some res → GW D cy ad (w4 cy aI SI) A s H locs → lv_has ls 2 [(0, .ref (aI 0)), (1, .int x1)] → W p l e rm4_hasWorld s m args below meth c H locs 0 0 (MQ below (QI D cy (w4 cy aI SI) A res) args s 0 0 A) (F0 m 0 ls []) := by
  intro x1 SI res H locs ls hf hW hl
  unfold f4_hasWorld at hf
  refine lv_iload_n hC.1 hC.2.1 dX4_hasWorld_0 rfl (lv_at hl 1 rfl) ?_
  refine lv_if_lt (tgt := 18) hC.1 hC.2.1 dX4_hasWorld_1 (by decide) (fun hc_1 => ?_) (fun hc_1 => ?_)
  · have hf := ite_t hf hc_1
    exact t4_hasWorld_18 hC  _ _ _ _ _ hf hW (lv_sub hl [] rfl)
  · have hf := ite_f hf hc_1
    refine lv_iload_n hC.1 hC.2.1 dX4_hasWorld_4 rfl (lv_at hl 1 rfl) ?_
    refine lv_aload_n hC.1 hC.2.1 dX4_hasWorld_5 rfl (lv_at hl 0 rfl) ?_
    refine g_get hC hW hin4_hasWorld_4 0 rfl rfl 0 (by decide) 1 rfl rfl dX4_hasWorld_6 ?_
    refine lv_iconst (v := 4) hC.1 hC.2.1 dX4_hasWorld_9 (by decide) ?_
    refine lv_imul hC.1 hC.2.1 dX4_hasWorld_10 ?_
    refine lv_icmp_ge (tgt := 18) hC.1 hC.2.1 dX4_hasWorld_11 (by decide) (fun hc_2 => ?_) (fun hc_2 => ?_)
    · have hf := ite_t hf hc_2
      exact t4_hasWorld_18 hC  _ _ _ _ _ hf hW (lv_sub hl [] rfl)
    · have hf := ite_f hf hc_2
      refine lv_iconst (v := 1) hC.1 hC.2.1 dX4_hasWorld_14 (by decide) ?_
      refine lv_goto (tgt := 19) hC.1 hC.2.1 dX4_hasWorld_15 (by decide) ?_
      exact t4_hasWorld_19 hC  _ _ _ _ _ _ hf hW (lv_sub hl [] rfl)
set_option maxRecDepth 100000 in
set_option maxHeartbeats 4000000 in
theorem c4_hasWorld (l : Launch) (D : va_G) (cy : Nat → ClassId) (ad : Nat → Nat) (aI : Nat → Nat) {x1 : Int32} {SI : Ob} {res : Int32} (h : f4_hasWorld x1 SI = some res) : GCi l yX4_hasWorld wsX4_hasWorld rm4_hasWorld [.ref (aI 0), .int x1] D cy ad (w4 cy aI SI) (w4 cy aI SI) res := fun sz => GC.start (own := RX4) (Qc := fun A => QI D cy (w4 cy aI SI) A res) sz (by decide) rfl rfl (Nat.le_of_ble_eq_true rfl) (fun p e s m below meth c A ls hC hW hl => t4_hasWorld_0 hC _ _ _ _ _ _ h hW (lv_sub hl [0, 1] rfl))
abbrev rm4_all : Room := { frames := 0, cells := 0, slots := 0, locals := 0 }
theorem hdV4_all : yX4_all.cls = RX4 ∧ (yX4_all.cls ≠ "java/lang/invoke/MethodHandle" ∧ yX4_all.cls ≠ "java/lang/invoke/VarHandle" ∧ (parseMethodDescriptor yX4_all.desc).map (fun d => d.parameters.length) = some 0) := by decide +kernel
theorem hin4_all_4 : ∀ x ∈ u_ws RX4 TX4 13, x ∈ wsX4_all := fun _ h => List.mem_cons_of_mem _ (List.mem_append_right _ h)
set_option maxRecDepth 100000 in
set_option maxHeartbeats 4000000 in
theorem t4_all_22 (hC : Cx p s m args meth c cX4_all 1 wsX4_all RX4 (some .int)) : ∀ (z0 : Int32) (SI : Ob) (res : Int32) (H : Heap) (locs : List Loc) (ls : Array Slot), f4_all_22 z0 SI = some res → GW D cy ad (w4 cy aI SI) A s H locs → lv_has ls 1 [] → W p l e rm4_all s m args below meth c H locs 0 0 (MQ below (QI D cy (w4 cy aI SI) A res) args s 0 0 A) (F0 m 22 ls [.int z0]) := by
  intro z0 SI res H locs ls hf hW hl
  unfold f4_all_22 at hf
  obtain rfl := Option.some.inj hf
  exact g_iret hC hW dX4_all_22
set_option maxRecDepth 100000 in
set_option maxHeartbeats 4000000 in
theorem t4_all_0 (hC : Cx p s m args meth c cX4_all 1 wsX4_all RX4 (some .int)) : ∀ (SI : Ob) (res : Int32) (H : Heap) (locs : List Loc) (ls : Array Slot), f4_all SI = some res → GW D cy ad (w4 cy aI SI) A s H locs → lv_has ls 1 [(0, .ref (aI 0))] → W p l e rm4_all s m args below meth c H locs 0 0 (MQ below (QI D cy (w4 cy aI SI) A res) args s 0 0 A) (F0 m 0 ls []) := by
  intro SI res H locs ls hf hW hl
  unfold f4_all at hf
  refine lv_aload_n hC.1 hC.2.1 dX4_all_0 rfl (lv_at hl 0 rfl) ?_
  refine g_get hC hW hin4_all_4 0 rfl rfl 0 (by decide) 1 rfl rfl dX4_all_1 ?_
  refine lv_if_ne (tgt := 11) hC.1 hC.2.1 dX4_all_4 (by decide) (fun hc_1 => ?_) (fun hc_1 => ?_)
  · have hf := ite_f hf hc_1
    refine lv_iconst (v := (-1)) hC.1 hC.2.1 dX4_all_11 (by decide) ?_
    refine lv_bipush (v := 32) hC.1 hC.2.1 dX4_all_12 (by decide) ?_
    refine lv_aload_n hC.1 hC.2.1 dX4_all_14 rfl (lv_at hl 0 rfl) ?_
    refine g_get hC hW hin4_all_4 0 rfl rfl 0 (by decide) 1 rfl rfl dX4_all_15 ?_
    refine lv_iconst (v := 4) hC.1 hC.2.1 dX4_all_18 (by decide) ?_
    refine lv_imul hC.1 hC.2.1 dX4_all_19 ?_
    refine lv_isub hC.1 hC.2.1 dX4_all_20 ?_
    refine lv_iushr (v := ush (-1) (32 - ((SI.1 0) * 4))) hC.1 hC.2.1 dX4_all_21 rfl ?_
    exact t4_all_22 hC  _ _ _ _ _ _ hf hW (lv_sub hl [] rfl)
  · have hf := ite_t hf hc_1
    refine lv_iconst (v := 0) hC.1 hC.2.1 dX4_all_7 (by decide) ?_
    refine lv_goto (tgt := 22) hC.1 hC.2.1 dX4_all_8 (by decide) ?_
    exact t4_all_22 hC  _ _ _ _ _ _ hf hW (lv_sub hl [] rfl)
set_option maxRecDepth 100000 in
set_option maxHeartbeats 4000000 in
theorem c4_all (l : Launch) (D : va_G) (cy : Nat → ClassId) (ad : Nat → Nat) (aI : Nat → Nat) {SI : Ob} {res : Int32} (h : f4_all SI = some res) : GCi l yX4_all wsX4_all rm4_all [.ref (aI 0)] D cy ad (w4 cy aI SI) (w4 cy aI SI) res := fun sz => GC.start (own := RX4) (Qc := fun A => QI D cy (w4 cy aI SI) A res) sz (by decide) rfl rfl (Nat.le_of_ble_eq_true rfl) (fun p e s m below meth c A ls hC hW hl => t4_all_0 hC _ _ _ _ _ h hW (lv_sub hl [0] rfl))
abbrev rm4_worldsOf : Room := { frames := 0, cells := 0, slots := 0, locals := 0 }
theorem hdV4_worldsOf : yX4_worldsOf.cls = RX4 ∧ (yX4_worldsOf.cls ≠ "java/lang/invoke/MethodHandle" ∧ yX4_worldsOf.cls ≠ "java/lang/invoke/VarHandle" ∧ (parseMethodDescriptor yX4_worldsOf.desc).map (fun d => d.parameters.length) = some 1) := by decide +kernel
set_option maxRecDepth 100000 in
set_option maxHeartbeats 4000000 in
theorem t4_worldsOf_0 (hC : Cx p s m args meth c cX4_worldsOf 2 wsX4_worldsOf RX4 (some .int)) : ∀ (x1 : Int32) (SI : Ob) (res : Int32) (H : Heap) (locs : List Loc) (ls : Array Slot), f4_worldsOf x1 SI = some res → GW D cy ad (w4 cy aI SI) A s H locs → lv_has ls 2 [(1, .int x1)] → W p l e rm4_worldsOf s m args below meth c H locs 0 0 (MQ below (QI D cy (w4 cy aI SI) A res) args s 0 0 A) (F0 m 0 ls []) := by
  intro x1 SI res H locs ls hf hW hl
  unfold f4_worldsOf at hf
  refine lv_bipush (v := 15) hC.1 hC.2.1 dX4_worldsOf_0 (by decide) ?_
  refine lv_iload_n hC.1 hC.2.1 dX4_worldsOf_2 rfl (lv_at hl 0 rfl) ?_
  refine lv_iconst (v := 4) hC.1 hC.2.1 dX4_worldsOf_3 (by decide) ?_
  refine lv_imul hC.1 hC.2.1 dX4_worldsOf_4 ?_
  refine lv_ishl hC.1 hC.2.1 dX4_worldsOf_5 ?_
  obtain rfl := Option.some.inj hf
  exact g_iret hC hW dX4_worldsOf_6
set_option maxRecDepth 100000 in
set_option maxHeartbeats 4000000 in
theorem c4_worldsOf (l : Launch) (D : va_G) (cy : Nat → ClassId) (ad : Nat → Nat) (aI : Nat → Nat) {x1 : Int32} {SI : Ob} {res : Int32} (h : f4_worldsOf x1 SI = some res) : GCi l yX4_worldsOf wsX4_worldsOf rm4_worldsOf [.ref (aI 0), .int x1] D cy ad (w4 cy aI SI) (w4 cy aI SI) res := fun sz => GC.start (own := RX4) (Qc := fun A => QI D cy (w4 cy aI SI) A res) sz (by decide) rfl rfl (Nat.le_of_ble_eq_true rfl) (fun p e s m below meth c A ls hC hW hl => t4_worldsOf_0 hC _ _ _ _ _ _ h hW (lv_sub hl [1] rfl))
abbrev rm4_worldsShowing : Room := { frames := 1, cells := 0, slots := 0, locals := 21 }
theorem hdV4_worldsShowing : yX4_worldsShowing.cls = RX4 ∧ (yX4_worldsShowing.cls ≠ "java/lang/invoke/MethodHandle" ∧ yX4_worldsShowing.cls ≠ "java/lang/invoke/VarHandle" ∧ (parseMethodDescriptor yX4_worldsShowing.desc).map (fun d => d.parameters.length) = some 2) := by decide +kernel
theorem hin4_worldsShowing_4 : ∀ x ∈ u_ws RX4 TX4 13, x ∈ wsX4_worldsShowing := fun _ h => List.mem_cons_of_mem _ (List.mem_append_right _ h)
set_option maxRecDepth 100000 in
set_option maxHeartbeats 4000000 in
theorem t4_worldsShowing_36 (hC : Cx p s m args meth c cX4_worldsShowing 3 wsX4_worldsShowing RX4 (some .int)) : ∀ (z0 : Int32) (SI : Ob) (res : Int32) (H : Heap) (locs : List Loc) (ls : Array Slot), f4_worldsShowing_36 z0 SI = some res → GW D cy ad (w4 cy aI SI) A s H locs → lv_has ls 3 [] → W p l e rm4_worldsShowing s m args below meth c H locs 0 0 (MQ below (QI D cy (w4 cy aI SI) A res) args s 0 0 A) (F0 m 36 ls [.int z0]) := by
  intro z0 SI res H locs ls hf hW hl
  unfold f4_worldsShowing_36 at hf
  obtain rfl := Option.some.inj hf
  exact g_iret hC hW dX4_worldsShowing_36
set_option maxRecDepth 100000 in
set_option maxHeartbeats 4000000 in
theorem t4_worldsShowing_0 (hC : Cx p s m args meth c cX4_worldsShowing 3 wsX4_worldsShowing RX4 (some .int)) : ∀ (x1 : Int32) (x2 : Int32) (SI : Ob) (res : Int32) (H : Heap) (locs : List Loc) (ls : Array Slot), f4_worldsShowing x1 x2 SI = some res → GW D cy ad (w4 cy aI SI) A s H locs → lv_has ls 3 [(0, .ref (aI 0)), (1, .int x1), (2, .int x2)] → W p l e rm4_worldsShowing s m args below meth c H locs 0 0 (MQ below (QI D cy (w4 cy aI SI) A res) args s 0 0 A) (F0 m 0 ls []) := by
  intro x1 x2 SI res H locs ls hf hW hl
  unfold f4_worldsShowing at hf
  refine lv_aload_n hC.1 hC.2.1 dX4_worldsShowing_0 rfl (lv_at hl 0 rfl) ?_
  refine lv_iload_n hC.1 hC.2.1 dX4_worldsShowing_1 rfl (lv_at hl 1 rfl) ?_
  obtain ⟨r_1, hg_2, hf⟩ := bd_of hf
  refine g_calliV (w' := w4 cy aI SI) hC hW (c4_hasSign l D cy ad aI hg_2) (cwV 1 hC.2.2.2.2.1 gX4_worldsShowing_X4_hasSign rfl rfl rfl hdV4_hasSign ⟨Nat.le_of_ble_eq_true rfl, Nat.le_of_ble_eq_true rfl⟩) (Sub.all _ _) 0 4 rfl rfl rfl rfl hl.1 rfl (Nat.le_of_ble_eq_true rfl) dX4_worldsShowing_2 ⟨Nat.zero_le _, Nat.zero_le _⟩ (fun H locs hW => ?_)
  refine lv_if_ne (tgt := 10) hC.1 hC.2.1 dX4_worldsShowing_5 (by decide) (fun hc_3 => ?_) (fun hc_3 => ?_)
  · have hf := ite_f hf hc_3
    refine lv_iload_n hC.1 hC.2.1 dX4_worldsShowing_10 rfl (lv_at hl 2 rfl) ?_
    refine lv_if_eq (tgt := 23) hC.1 hC.2.1 dX4_worldsShowing_11 (by decide) (fun hc_4 => ?_) (fun hc_4 => ?_)
    · have hf := ite_t hf hc_4
      refine lv_aload_n hC.1 hC.2.1 dX4_worldsShowing_23 rfl (lv_at hl 0 rfl) ?_
      obtain ⟨r_5, hg_6, hf⟩ := bd_of hf
      refine g_calliV (w' := w4 cy aI SI) hC hW (c4_all l D cy ad aI hg_6) (cwV 0 hC.2.2.2.2.1 gX4_worldsShowing_X4_all rfl rfl rfl hdV4_all ⟨Nat.le_of_ble_eq_true rfl, Nat.le_of_ble_eq_true rfl⟩) (Sub.all _ _) 0 4 rfl rfl rfl rfl hl.1 rfl (Nat.le_of_ble_eq_true rfl) dX4_worldsShowing_24 ⟨Nat.zero_le _, Nat.zero_le _⟩ (fun H locs hW => ?_)
      refine lv_aload_n hC.1 hC.2.1 dX4_worldsShowing_27 rfl (lv_at hl 0 rfl) ?_
      refine g_get hC hW hin4_worldsShowing_4 0 rfl rfl 11 (by decide) 1 rfl rfl dX4_worldsShowing_28 ?_
      refine lv_iload_n hC.1 hC.2.1 dX4_worldsShowing_31 rfl (lv_at hl 1 rfl) ?_
      obtain ⟨hi_7, hf⟩ := ck_of hf
      refine g_iald hC hW 10 rfl hi_7 dX4_worldsShowing_32 ?_
      refine lv_iconst (v := (-1)) hC.1 hC.2.1 dX4_worldsShowing_33 (by decide) ?_
      refine lv_ixor hC.1 hC.2.1 dX4_worldsShowing_34 ?_
      refine lv_iand hC.1 hC.2.1 dX4_worldsShowing_35 ?_
      exact t4_worldsShowing_36 hC  _ _ _ _ _ _ hf hW (lv_sub hl [] rfl)
    · have hf := ite_f hf hc_4
      refine lv_aload_n hC.1 hC.2.1 dX4_worldsShowing_14 rfl (lv_at hl 0 rfl) ?_
      refine g_get hC hW hin4_worldsShowing_4 0 rfl rfl 11 (by decide) 1 rfl rfl dX4_worldsShowing_15 ?_
      refine lv_iload_n hC.1 hC.2.1 dX4_worldsShowing_18 rfl (lv_at hl 1 rfl) ?_
      obtain ⟨hi_8, hf⟩ := ck_of hf
      refine g_iald hC hW 10 rfl hi_8 dX4_worldsShowing_19 ?_
      refine lv_goto (tgt := 36) hC.1 hC.2.1 dX4_worldsShowing_20 (by decide) ?_
      exact t4_worldsShowing_36 hC  _ _ _ _ _ _ hf hW (lv_sub hl [] rfl)
  · have hf := ite_t hf hc_3
    refine lv_iconst (v := 0) hC.1 hC.2.1 dX4_worldsShowing_8 (by decide) ?_
    obtain rfl := Option.some.inj hf
    exact g_iret hC hW dX4_worldsShowing_9
set_option maxRecDepth 100000 in
set_option maxHeartbeats 4000000 in
theorem c4_worldsShowing (l : Launch) (D : va_G) (cy : Nat → ClassId) (ad : Nat → Nat) (aI : Nat → Nat) {x1 : Int32} {x2 : Int32} {SI : Ob} {res : Int32} (h : f4_worldsShowing x1 x2 SI = some res) : GCi l yX4_worldsShowing wsX4_worldsShowing rm4_worldsShowing [.ref (aI 0), .int x1, .int x2] D cy ad (w4 cy aI SI) (w4 cy aI SI) res := fun sz => GC.start (own := RX4) (Qc := fun A => QI D cy (w4 cy aI SI) A res) sz (by decide) rfl rfl (Nat.le_of_ble_eq_true rfl) (fun p e s m below meth c A ls hC hW hl => t4_worldsShowing_0 hC _ _ _ _ _ _ _ h hW (lv_sub hl [0, 1, 2] rfl))
abbrev rm4_guestsIn : Room := { frames := 1, cells := 0, slots := 0, locals := 21 }
theorem hdV4_guestsIn : yX4_guestsIn.cls = RX4 ∧ (yX4_guestsIn.cls ≠ "java/lang/invoke/MethodHandle" ∧ yX4_guestsIn.cls ≠ "java/lang/invoke/VarHandle" ∧ (parseMethodDescriptor yX4_guestsIn.desc).map (fun d => d.parameters.length) = some 1) := by decide +kernel
theorem hin4_guestsIn_4 : ∀ x ∈ u_ws RX4 TX4 13, x ∈ wsX4_guestsIn := fun _ h => List.mem_cons_of_mem _ (List.mem_append_right _ h)
set_option maxRecDepth 100000 in
set_option maxHeartbeats 4000000 in
theorem t4_guestsIn_28 (hC : Cx p s m args meth c cX4_guestsIn 4 wsX4_guestsIn RX4 (some .int)) {k4 : Int32 → Int32 → Int32 → Ob → Option (Int32)} (hk4 : ∀ (x1 : Int32) (x2 : Int32) (x3 : Int32) (SI : Ob) (res : Int32) (H : Heap) (locs : List Loc) (ls : Array Slot), k4 x1 x2 x3 SI = some res → GW D cy ad (w4 cy aI SI) A s H locs → lv_has ls 4 [(0, .ref (aI 0)), (1, .int x1), (2, .int x2), (3, .int x3)] → W p l e rm4_guestsIn s m args below meth c H locs 0 0 (MQ below (QI D cy (w4 cy aI SI) A res) args s 0 0 A) (F0 m 4 ls [])) : ∀ (x1 : Int32) (x2 : Int32) (x3 : Int32) (SI : Ob) (res : Int32) (H : Heap) (locs : List Loc) (ls : Array Slot), f4_guestsIn_28 k4 x1 x2 x3 SI = some res → GW D cy ad (w4 cy aI SI) A s H locs → lv_has ls 4 [(0, .ref (aI 0)), (1, .int x1), (2, .int x2), (3, .int x3)] → W p l e rm4_guestsIn s m args below meth c H locs 0 0 (MQ below (QI D cy (w4 cy aI SI) A res) args s 0 0 A) (F0 m 28 ls []) := by
  intro x1 x2 x3 SI res H locs ls hf hW hl
  unfold f4_guestsIn_28 at hf
  obtain ⟨x3_1, ex3_1⟩ : ∃ y : Int32, y = x3 + 1 := ⟨_, rfl⟩
  have hf := lt_nm hf ex3_1
  refine lv_iinc (v := x3_1) (lv' := [(3, .int x3_1), (0, .ref (aI 0)), (1, .int x1), (2, .int x2)]) hC.1 hC.2.1 dX4_guestsIn_28 hl (k := 3) rfl (by rw [ex3_1]; rfl) (by decide) rfl (fun ls hl => ?_)
  refine lv_goto (tgt := 4) hC.1 hC.2.1 dX4_guestsIn_31 (by decide) ?_
  exact hk4 _ _ _ _ _ _ _ _ hf hW (lv_sub hl [1, 2, 3, 0] rfl)
set_option maxRecDepth 100000 in
set_option maxHeartbeats 4000000 in
theorem t4_guestsIn_4 (hC : Cx p s m args meth c cX4_guestsIn 4 wsX4_guestsIn RX4 (some .int)) : ∀ n : Nat, ∀ (x1 : Int32) (x2 : Int32) (x3 : Int32) (SI : Ob) (res : Int32) (H : Heap) (locs : List Loc) (ls : Array Slot), f4_guestsIn_4 n x1 x2 x3 SI = some res → GW D cy ad (w4 cy aI SI) A s H locs → lv_has ls 4 [(0, .ref (aI 0)), (1, .int x1), (2, .int x2), (3, .int x3)] → W p l e rm4_guestsIn s m args below meth c H locs 0 0 (MQ below (QI D cy (w4 cy aI SI) A res) args s 0 0 A) (F0 m 4 ls []) := by
  intro n
  induction n with
  | zero =>
    intro _ _ _ _ _ _ _ _ hf _ _
    exact nomatch (show (none : Option (Int32)) = some _ from hf)
  | succ n ih =>
    intro x1 x2 x3 SI res H locs ls hf hW hl
    rw [f4_guestsIn_4] at hf
    refine lv_iload_n hC.1 hC.2.1 dX4_guestsIn_4 rfl (lv_at hl 3 rfl) ?_
    refine lv_aload_n hC.1 hC.2.1 dX4_guestsIn_5 rfl (lv_at hl 0 rfl) ?_
    refine g_get hC hW hin4_guestsIn_4 0 rfl rfl 0 (by decide) 1 rfl rfl dX4_guestsIn_6 ?_
    refine lv_icmp_ge (tgt := 34) hC.1 hC.2.1 dX4_guestsIn_9 (by decide) (fun hc_1 => ?_) (fun hc_1 => ?_)
    · have hf := ite_t hf hc_1
      refine lv_iload_n hC.1 hC.2.1 dX4_guestsIn_34 rfl (lv_at hl 2 rfl) ?_
      obtain rfl := Option.some.inj hf
      exact g_iret hC hW dX4_guestsIn_35
    · have hf := ite_f hf hc_1
      refine lv_iload_n hC.1 hC.2.1 dX4_guestsIn_12 rfl (lv_at hl 1 rfl) ?_
      refine lv_aload_n hC.1 hC.2.1 dX4_guestsIn_13 rfl (lv_at hl 0 rfl) ?_
      refine lv_iload_n hC.1 hC.2.1 dX4_guestsIn_14 rfl (lv_at hl 3 rfl) ?_
      obtain ⟨r_2, hg_3, hf⟩ := bd_of hf
      refine g_calliV (w' := w4 cy aI SI) hC hW (c4_worldsOf l D cy ad aI hg_3) (cwV 1 hC.2.2.2.2.1 gX4_guestsIn_X4_worldsOf rfl rfl rfl hdV4_worldsOf ⟨Nat.le_of_ble_eq_true rfl, Nat.le_of_ble_eq_true rfl⟩) (Sub.all _ _) 0 4 rfl rfl rfl rfl hl.1 rfl (Nat.le_of_ble_eq_true rfl) dX4_guestsIn_15 ⟨Nat.zero_le _, Nat.zero_le _⟩ (fun H locs hW => ?_)
      refine lv_iand hC.1 hC.2.1 dX4_guestsIn_18 ?_
      refine lv_if_eq (tgt := 28) hC.1 hC.2.1 dX4_guestsIn_19 (by decide) (fun hc_4 => ?_) (fun hc_4 => ?_)
      · have hf := ite_t hf hc_4
        exact t4_guestsIn_28 hC ih  _ _ _ _ _ _ _ _ hf hW (lv_sub hl [0, 1, 2, 3] rfl)
      · have hf := ite_f hf hc_4
        refine lv_iload_n hC.1 hC.2.1 dX4_guestsIn_22 rfl (lv_at hl 2 rfl) ?_
        refine lv_iconst (v := 1) hC.1 hC.2.1 dX4_guestsIn_23 (by decide) ?_
        refine lv_iload_n hC.1 hC.2.1 dX4_guestsIn_24 rfl (lv_at hl 3 rfl) ?_
        refine lv_ishl hC.1 hC.2.1 dX4_guestsIn_25 ?_
        refine lv_ior hC.1 hC.2.1 dX4_guestsIn_26 ?_
        refine lv_topi (fun x2_5 ex2_5 => ?_)
        have hf := lt_nm hf ex2_5
        refine lv_istore_n (lv' := [(2, .int x2_5), (0, .ref (aI 0)), (1, .int x1), (3, .int x3)]) hC.1 hC.2.1 dX4_guestsIn_27 rfl hl (by decide) rfl (fun ls hl => ?_)
        exact t4_guestsIn_28 hC ih  _ _ _ _ _ _ _ _ hf hW (lv_sub hl [1, 2, 0, 3] rfl)
set_option maxRecDepth 100000 in
set_option maxHeartbeats 4000000 in
theorem t4_guestsIn_0 (hC : Cx p s m args meth c cX4_guestsIn 4 wsX4_guestsIn RX4 (some .int)) : ∀ (x1 : Int32) (SI : Ob) (res : Int32) (H : Heap) (locs : List Loc) (ls : Array Slot), f4_guestsIn x1 SI = some res → GW D cy ad (w4 cy aI SI) A s H locs → lv_has ls 4 [(0, .ref (aI 0)), (1, .int x1)] → W p l e rm4_guestsIn s m args below meth c H locs 0 0 (MQ below (QI D cy (w4 cy aI SI) A res) args s 0 0 A) (F0 m 0 ls []) := by
  intro x1 SI res H locs ls hf hW hl
  unfold f4_guestsIn at hf
  refine lv_iconst (v := 0) hC.1 hC.2.1 dX4_guestsIn_0 (by decide) ?_
  refine lv_istore_n (lv' := [(2, .int 0), (0, .ref (aI 0)), (1, .int x1)]) hC.1 hC.2.1 dX4_guestsIn_1 rfl hl (by decide) rfl (fun ls hl => ?_)
  refine lv_iconst (v := 0) hC.1 hC.2.1 dX4_guestsIn_2 (by decide) ?_
  refine lv_istore_n (lv' := [(3, .int 0), (2, .int 0), (0, .ref (aI 0)), (1, .int x1)]) hC.1 hC.2.1 dX4_guestsIn_3 rfl hl (by decide) rfl (fun ls hl => ?_)
  exact t4_guestsIn_4 hC _ _ _ _ _ _ _ _ _ hf hW (lv_sub hl [2, 3, 1, 0] rfl)
set_option maxRecDepth 100000 in
set_option maxHeartbeats 4000000 in
theorem c4_guestsIn (l : Launch) (D : va_G) (cy : Nat → ClassId) (ad : Nat → Nat) (aI : Nat → Nat) {x1 : Int32} {SI : Ob} {res : Int32} (h : f4_guestsIn x1 SI = some res) : GCi l yX4_guestsIn wsX4_guestsIn rm4_guestsIn [.ref (aI 0), .int x1] D cy ad (w4 cy aI SI) (w4 cy aI SI) res := fun sz => GC.start (own := RX4) (Qc := fun A => QI D cy (w4 cy aI SI) A res) sz (by decide) rfl rfl (Nat.le_of_ble_eq_true rfl) (fun p e s m below meth c A ls hC hW hl => t4_guestsIn_0 hC _ _ _ _ _ _ h hW (lv_sub hl [0, 1] rfl))
abbrev rm4_isAlone : Room := { frames := 0, cells := 0, slots := 0, locals := 0 }
theorem hdV4_isAlone : yX4_isAlone.cls = RX4 ∧ (yX4_isAlone.cls ≠ "java/lang/invoke/MethodHandle" ∧ yX4_isAlone.cls ≠ "java/lang/invoke/VarHandle" ∧ (parseMethodDescriptor yX4_isAlone.desc).map (fun d => d.parameters.length) = some 1) := by decide +kernel
theorem hin4_isAlone_4 : ∀ x ∈ u_ws RX4 TX4 13, x ∈ wsX4_isAlone := fun _ h => List.mem_cons_of_mem _ (List.mem_append_right _ h)
set_option maxRecDepth 100000 in
set_option maxHeartbeats 4000000 in
theorem t4_isAlone_32 (hC : Cx p s m args meth c cX4_isAlone 3 wsX4_isAlone RX4 (some .boolean)) {k2 : Int32 → Int32 → Ob → Option (Int32)} (hk2 : ∀ (x1 : Int32) (x2 : Int32) (SI : Ob) (res : Int32) (H : Heap) (locs : List Loc) (ls : Array Slot), k2 x1 x2 SI = some res → GW D cy ad (w4 cy aI SI) A s H locs → lv_has ls 3 [(0, .ref (aI 0)), (1, .int x1), (2, .int x2)] → W p l e rm4_isAlone s m args below meth c H locs 0 0 (MQ below (QI D cy (w4 cy aI SI) A res) args s 0 0 A) (F0 m 2 ls [])) : ∀ (x1 : Int32) (x2 : Int32) (SI : Ob) (res : Int32) (H : Heap) (locs : List Loc) (ls : Array Slot), f4_isAlone_32 k2 x1 x2 SI = some res → GW D cy ad (w4 cy aI SI) A s H locs → lv_has ls 3 [(0, .ref (aI 0)), (1, .int x1), (2, .int x2)] → W p l e rm4_isAlone s m args below meth c H locs 0 0 (MQ below (QI D cy (w4 cy aI SI) A res) args s 0 0 A) (F0 m 32 ls []) := by
  intro x1 x2 SI res H locs ls hf hW hl
  unfold f4_isAlone_32 at hf
  obtain ⟨x2_1, ex2_1⟩ : ∃ y : Int32, y = x2 + 1 := ⟨_, rfl⟩
  have hf := lt_nm hf ex2_1
  refine lv_iinc (v := x2_1) (lv' := [(2, .int x2_1), (0, .ref (aI 0)), (1, .int x1)]) hC.1 hC.2.1 dX4_isAlone_32 hl (k := 2) rfl (by rw [ex2_1]; rfl) (by decide) rfl (fun ls hl => ?_)
  refine lv_goto (tgt := 2) hC.1 hC.2.1 dX4_isAlone_35 (by decide) ?_
  exact hk2 _ _ _ _ _ _ _ hf hW (lv_sub hl [1, 2, 0] rfl)
set_option maxRecDepth 100000 in
set_option maxHeartbeats 4000000 in
theorem t4_isAlone_2 (hC : Cx p s m args meth c cX4_isAlone 3 wsX4_isAlone RX4 (some .boolean)) : ∀ n : Nat, ∀ (x1 : Int32) (x2 : Int32) (SI : Ob) (res : Int32) (H : Heap) (locs : List Loc) (ls : Array Slot), f4_isAlone_2 n x1 x2 SI = some res → GW D cy ad (w4 cy aI SI) A s H locs → lv_has ls 3 [(0, .ref (aI 0)), (1, .int x1), (2, .int x2)] → W p l e rm4_isAlone s m args below meth c H locs 0 0 (MQ below (QI D cy (w4 cy aI SI) A res) args s 0 0 A) (F0 m 2 ls []) := by
  intro n
  induction n with
  | zero =>
    intro _ _ _ _ _ _ _ hf _ _
    exact nomatch (show (none : Option (Int32)) = some _ from hf)
  | succ n ih =>
    intro x1 x2 SI res H locs ls hf hW hl
    rw [f4_isAlone_2] at hf
    refine lv_iload_n hC.1 hC.2.1 dX4_isAlone_2 rfl (lv_at hl 2 rfl) ?_
    refine lv_aload_n hC.1 hC.2.1 dX4_isAlone_3 rfl (lv_at hl 0 rfl) ?_
    refine g_get hC hW hin4_isAlone_4 0 rfl rfl 0 (by decide) 1 rfl rfl dX4_isAlone_4 ?_
    refine lv_icmp_ge (tgt := 38) hC.1 hC.2.1 dX4_isAlone_7 (by decide) (fun hc_1 => ?_) (fun hc_1 => ?_)
    · have hf := ite_t hf hc_1
      refine lv_iconst (v := 1) hC.1 hC.2.1 dX4_isAlone_38 (by decide) ?_
      obtain rfl := Option.some.inj hf
      exact g_zret (v := 1) hC hW (by decide) dX4_isAlone_39
    · have hf := ite_f hf hc_1
      refine lv_iload_n hC.1 hC.2.1 dX4_isAlone_10 rfl (lv_at hl 2 rfl) ?_
      refine lv_iload_n hC.1 hC.2.1 dX4_isAlone_11 rfl (lv_at hl 1 rfl) ?_
      refine lv_icmp_eq (tgt := 32) hC.1 hC.2.1 dX4_isAlone_12 (by decide) (fun hc_2 => ?_) (fun hc_2 => ?_)
      · have hf := ite_t hf hc_2
        exact t4_isAlone_32 hC ih  _ _ _ _ _ _ _ hf hW (lv_sub hl [0, 1, 2] rfl)
      · have hf := ite_f hf hc_2
        refine lv_aload_n hC.1 hC.2.1 dX4_isAlone_15 rfl (lv_at hl 0 rfl) ?_
        refine g_get hC hW hin4_isAlone_4 0 rfl rfl 3 (by decide) 2 rfl rfl dX4_isAlone_16 ?_
        refine lv_iload_n hC.1 hC.2.1 dX4_isAlone_19 rfl (lv_at hl 2 rfl) ?_
        obtain ⟨hi_3, hf⟩ := ck_of hf
        refine g_iald hC hW 3 rfl hi_3 dX4_isAlone_20 ?_
        refine lv_aload_n hC.1 hC.2.1 dX4_isAlone_21 rfl (lv_at hl 0 rfl) ?_
        refine g_get hC hW hin4_isAlone_4 0 rfl rfl 3 (by decide) 2 rfl rfl dX4_isAlone_22 ?_
        refine lv_iload_n hC.1 hC.2.1 dX4_isAlone_25 rfl (lv_at hl 1 rfl) ?_
        obtain ⟨hi_4, hf⟩ := ck_of hf
        refine g_iald hC hW 3 rfl hi_4 dX4_isAlone_26 ?_
        refine lv_icmp_ne (tgt := 32) hC.1 hC.2.1 dX4_isAlone_27 (by decide) (fun hc_5 => ?_) (fun hc_5 => ?_)
        · have hf := ite_f hf hc_5
          exact t4_isAlone_32 hC ih  _ _ _ _ _ _ _ hf hW (lv_sub hl [0, 1, 2] rfl)
        · have hf := ite_t hf hc_5
          refine lv_iconst (v := 0) hC.1 hC.2.1 dX4_isAlone_30 (by decide) ?_
          obtain rfl := Option.some.inj hf
          exact g_zret (v := 0) hC hW (by decide) dX4_isAlone_31
set_option maxRecDepth 100000 in
set_option maxHeartbeats 4000000 in
theorem t4_isAlone_0 (hC : Cx p s m args meth c cX4_isAlone 3 wsX4_isAlone RX4 (some .boolean)) : ∀ (x1 : Int32) (SI : Ob) (res : Int32) (H : Heap) (locs : List Loc) (ls : Array Slot), f4_isAlone x1 SI = some res → GW D cy ad (w4 cy aI SI) A s H locs → lv_has ls 3 [(0, .ref (aI 0)), (1, .int x1)] → W p l e rm4_isAlone s m args below meth c H locs 0 0 (MQ below (QI D cy (w4 cy aI SI) A res) args s 0 0 A) (F0 m 0 ls []) := by
  intro x1 SI res H locs ls hf hW hl
  unfold f4_isAlone at hf
  refine lv_iconst (v := 0) hC.1 hC.2.1 dX4_isAlone_0 (by decide) ?_
  refine lv_istore_n (lv' := [(2, .int 0), (0, .ref (aI 0)), (1, .int x1)]) hC.1 hC.2.1 dX4_isAlone_1 rfl hl (by decide) rfl (fun ls hl => ?_)
  exact t4_isAlone_2 hC _ _ _ _ _ _ _ _ hf hW (lv_sub hl [1, 2, 0] rfl)
set_option maxRecDepth 100000 in
set_option maxHeartbeats 4000000 in
theorem c4_isAlone (l : Launch) (D : va_G) (cy : Nat → ClassId) (ad : Nat → Nat) (aI : Nat → Nat) {x1 : Int32} {SI : Ob} {res : Int32} (h : f4_isAlone x1 SI = some res) : GCi l yX4_isAlone wsX4_isAlone rm4_isAlone [.ref (aI 0), .int x1] D cy ad (w4 cy aI SI) (w4 cy aI SI) res := fun sz => GC.start (own := RX4) (Qc := fun A => QI D cy (w4 cy aI SI) A res) sz (by decide) rfl rfl (Nat.le_of_ble_eq_true rfl) (fun p e s m below meth c A ls hC hW hl => t4_isAlone_0 hC _ _ _ _ _ _ h hW (lv_sub hl [0, 1] rfl))
abbrev rm4_isSo : Room := { frames := 1, cells := 0, slots := 0, locals := 22 }
theorem hdV4_isSo : yX4_isSo.cls = RX4 ∧ (yX4_isSo.cls ≠ "java/lang/invoke/MethodHandle" ∧ yX4_isSo.cls ≠ "java/lang/invoke/VarHandle" ∧ (parseMethodDescriptor yX4_isSo.desc).map (fun d => d.parameters.length) = some 2) := by decide +kernel
theorem hin4_isSo_4 : ∀ x ∈ u_ws RX4 TX4 13, x ∈ wsX4_isSo := fun _ h => List.mem_cons_of_mem _ (List.mem_append_right _ h)
set_option maxRecDepth 100000 in
set_option maxHeartbeats 4000000 in
theorem t4_isSo_45 (hC : Cx p s m args meth c cX4_isSo 3 wsX4_isSo RX4 (some .boolean)) : ∀ (z0 : Int32) (SI : Ob) (res : Int32) (H : Heap) (locs : List Loc) (ls : Array Slot), f4_isSo_45 z0 SI = some res → GW D cy ad (w4 cy aI SI) A s H locs → lv_has ls 3 [] → W p l e rm4_isSo s m args below meth c H locs 0 0 (MQ below (QI D cy (w4 cy aI SI) A res) args s 0 0 A) (F0 m 45 ls [.int z0]) := by
  intro z0 SI res H locs ls hf hW hl
  unfold f4_isSo_45 at hf
  obtain ⟨hz, hf⟩ := ck_of hf
  obtain rfl := Option.some.inj hf
  exact g_zret hC hW hz dX4_isSo_45
set_option maxRecDepth 100000 in
set_option maxHeartbeats 4000000 in
theorem t4_isSo_62 (hC : Cx p s m args meth c cX4_isSo 3 wsX4_isSo RX4 (some .boolean)) : ∀ (z0 : Int32) (SI : Ob) (res : Int32) (H : Heap) (locs : List Loc) (ls : Array Slot), f4_isSo_62 z0 SI = some res → GW D cy ad (w4 cy aI SI) A s H locs → lv_has ls 3 [] → W p l e rm4_isSo s m args below meth c H locs 0 0 (MQ below (QI D cy (w4 cy aI SI) A res) args s 0 0 A) (F0 m 62 ls [.int z0]) := by
  intro z0 SI res H locs ls hf hW hl
  unfold f4_isSo_62 at hf
  obtain ⟨hz, hf⟩ := ck_of hf
  obtain rfl := Option.some.inj hf
  exact g_zret hC hW hz dX4_isSo_62
set_option maxRecDepth 100000 in
set_option maxHeartbeats 4000000 in
theorem t4_isSo_85 (hC : Cx p s m args meth c cX4_isSo 3 wsX4_isSo RX4 (some .boolean)) : ∀ (z0 : Int32) (SI : Ob) (res : Int32) (H : Heap) (locs : List Loc) (ls : Array Slot), f4_isSo_85 z0 SI = some res → GW D cy ad (w4 cy aI SI) A s H locs → lv_has ls 3 [] → W p l e rm4_isSo s m args below meth c H locs 0 0 (MQ below (QI D cy (w4 cy aI SI) A res) args s 0 0 A) (F0 m 85 ls [.int z0]) := by
  intro z0 SI res H locs ls hf hW hl
  unfold f4_isSo_85 at hf
  obtain ⟨hz, hf⟩ := ck_of hf
  obtain rfl := Option.some.inj hf
  exact g_zret hC hW hz dX4_isSo_85
set_option maxRecDepth 100000 in
set_option maxHeartbeats 4000000 in
theorem t4_isSo_0 (hC : Cx p s m args meth c cX4_isSo 3 wsX4_isSo RX4 (some .boolean)) : ∀ (x1 : Int32) (x2 : Int32) (SI : Ob) (res : Int32) (H : Heap) (locs : List Loc) (ls : Array Slot), f4_isSo x1 x2 SI = some res → GW D cy ad (w4 cy aI SI) A s H locs → lv_has ls 3 [(0, .ref (aI 0)), (1, .int x1), (2, .int x2)] → W p l e rm4_isSo s m args below meth c H locs 0 0 (MQ below (QI D cy (w4 cy aI SI) A res) args s 0 0 A) (F0 m 0 ls []) := by
  intro x1 x2 SI res H locs ls hf hW hl
  unfold f4_isSo at hf
  refine lv_iload_n hC.1 hC.2.1 dX4_isSo_0 rfl (lv_at hl 1 rfl) ?_
  by_cases hc_1 : x1 = 22
  · have hf := ite_t hf hc_1
    refine lv_tableIn (tgt := 28) hC.1 hC.2.1 dX4_isSo_1 (by rw [hc_1]; decide) (by rw [hc_1]; decide) (by rw [hc_1]; rfl) (by decide) ?_
    refine lv_aload_n hC.1 hC.2.1 dX4_isSo_28 rfl (lv_at hl 0 rfl) ?_
    refine g_get hC hW hin4_isSo_4 0 rfl rfl 3 (by decide) 1 rfl rfl dX4_isSo_29 ?_
    refine lv_iload_n hC.1 hC.2.1 dX4_isSo_32 rfl (lv_at hl 2 rfl) ?_
    obtain ⟨hi_2, hf⟩ := ck_of hf
    refine g_iald hC hW 3 rfl hi_2 dX4_isSo_33 ?_
    refine lv_iconst (v := 1) hC.1 hC.2.1 dX4_isSo_34 (by decide) ?_
    refine lv_iand hC.1 hC.2.1 dX4_isSo_35 ?_
    refine lv_iconst (v := 1) hC.1 hC.2.1 dX4_isSo_36 (by decide) ?_
    refine lv_icmp_ne (tgt := 44) hC.1 hC.2.1 dX4_isSo_37 (by decide) (fun hc_3 => ?_) (fun hc_3 => ?_)
    · have hf := ite_f hf hc_3
      refine lv_iconst (v := 0) hC.1 hC.2.1 dX4_isSo_44 (by decide) ?_
      exact t4_isSo_45 hC  _ _ _ _ _ _ hf hW (lv_sub hl [] rfl)
    · have hf := ite_t hf hc_3
      refine lv_iconst (v := 1) hC.1 hC.2.1 dX4_isSo_40 (by decide) ?_
      refine lv_goto (tgt := 45) hC.1 hC.2.1 dX4_isSo_41 (by decide) ?_
      exact t4_isSo_45 hC  _ _ _ _ _ _ hf hW (lv_sub hl [] rfl)
  · have hf := ite_f hf hc_1
    by_cases hc_4 : x1 = 23
    · have hf := ite_t hf hc_4
      refine lv_tableIn (tgt := 46) hC.1 hC.2.1 dX4_isSo_1 (by rw [hc_4]; decide) (by rw [hc_4]; decide) (by rw [hc_4]; rfl) (by decide) ?_
      refine lv_aload_n hC.1 hC.2.1 dX4_isSo_46 rfl (lv_at hl 0 rfl) ?_
      refine g_get hC hW hin4_isSo_4 0 rfl rfl 3 (by decide) 1 rfl rfl dX4_isSo_47 ?_
      refine lv_iload_n hC.1 hC.2.1 dX4_isSo_50 rfl (lv_at hl 2 rfl) ?_
      obtain ⟨hi_5, hf⟩ := ck_of hf
      refine g_iald hC hW 3 rfl hi_5 dX4_isSo_51 ?_
      refine lv_bipush (v := 6) hC.1 hC.2.1 dX4_isSo_52 (by decide) ?_
      refine lv_icmp_gt (tgt := 61) hC.1 hC.2.1 dX4_isSo_54 (by decide) (fun hc_6 => ?_) (fun hc_6 => ?_)
      · have hf := ite_t hf hc_6
        refine lv_iconst (v := 0) hC.1 hC.2.1 dX4_isSo_61 (by decide) ?_
        exact t4_isSo_62 hC  _ _ _ _ _ _ hf hW (lv_sub hl [] rfl)
      · have hf := ite_f hf hc_6
        refine lv_iconst (v := 1) hC.1 hC.2.1 dX4_isSo_57 (by decide) ?_
        refine lv_goto (tgt := 62) hC.1 hC.2.1 dX4_isSo_58 (by decide) ?_
        exact t4_isSo_62 hC  _ _ _ _ _ _ hf hW (lv_sub hl [] rfl)
    · have hf := ite_f hf hc_4
      by_cases hc_7 : x1 = 24
      · have hf := ite_t hf hc_7
        refine lv_tableIn (tgt := 63) hC.1 hC.2.1 dX4_isSo_1 (by rw [hc_7]; decide) (by rw [hc_7]; decide) (by rw [hc_7]; rfl) (by decide) ?_
        refine lv_aload_n hC.1 hC.2.1 dX4_isSo_63 rfl (lv_at hl 0 rfl) ?_
        refine lv_iload_n hC.1 hC.2.1 dX4_isSo_64 rfl (lv_at hl 2 rfl) ?_
        obtain ⟨r_8, hg_9, hf⟩ := bd_of hf
        refine g_calliV (w' := w4 cy aI SI) hC hW (c4_isAlone l D cy ad aI hg_9) (cwV 1 hC.2.2.2.2.1 gX4_isSo_X4_isAlone rfl rfl rfl hdV4_isAlone ⟨Nat.le_of_ble_eq_true rfl, Nat.le_of_ble_eq_true rfl⟩) (Sub.all _ _) 0 4 rfl rfl rfl rfl hl.1 rfl (Nat.le_of_ble_eq_true rfl) dX4_isSo_65 ⟨Nat.zero_le _, Nat.zero_le _⟩ (fun H locs hW => ?_)
        obtain ⟨hz, hf⟩ := ck_of hf
        obtain rfl := Option.some.inj hf
        exact g_zret hC hW hz dX4_isSo_68
      · have hf := ite_f hf hc_7
        refine lv_tableOut (tgt := 69) hC.1 hC.2.1 dX4_isSo_1 (tab_out [22, 23, 24] (List.forall_mem_cons.mpr ⟨hc_1, (List.forall_mem_cons.mpr ⟨hc_4, (List.forall_mem_cons.mpr ⟨hc_7, (fun _ h => by cases h)⟩)⟩)⟩) (by decide)) (by decide) ?_
        refine lv_aload_n hC.1 hC.2.1 dX4_isSo_69 rfl (lv_at hl 0 rfl) ?_
        refine g_get hC hW hin4_isSo_4 0 rfl rfl 4 (by decide) 2 rfl rfl dX4_isSo_70 ?_
        refine lv_iload_n hC.1 hC.2.1 dX4_isSo_73 rfl (lv_at hl 2 rfl) ?_
        obtain ⟨hi_10, hf⟩ := ck_of hf
        refine g_iald hC hW 4 rfl hi_10 dX4_isSo_74 ?_
        refine lv_bipush (v := 10) hC.1 hC.2.1 dX4_isSo_75 (by decide) ?_
        refine lv_icmp_lt (tgt := 84) hC.1 hC.2.1 dX4_isSo_77 (by decide) (fun hc_11 => ?_) (fun hc_11 => ?_)
        · have hf := ite_t hf hc_11
          refine lv_iconst (v := 0) hC.1 hC.2.1 dX4_isSo_84 (by decide) ?_
          exact t4_isSo_85 hC  _ _ _ _ _ _ hf hW (lv_sub hl [] rfl)
        · have hf := ite_f hf hc_11
          refine lv_iconst (v := 1) hC.1 hC.2.1 dX4_isSo_80 (by decide) ?_
          refine lv_goto (tgt := 85) hC.1 hC.2.1 dX4_isSo_81 (by decide) ?_
          exact t4_isSo_85 hC  _ _ _ _ _ _ hf hW (lv_sub hl [] rfl)
set_option maxRecDepth 100000 in
set_option maxHeartbeats 4000000 in
theorem c4_isSo (l : Launch) (D : va_G) (cy : Nat → ClassId) (ad : Nat → Nat) (aI : Nat → Nat) {x1 : Int32} {x2 : Int32} {SI : Ob} {res : Int32} (h : f4_isSo x1 x2 SI = some res) : GCi l yX4_isSo wsX4_isSo rm4_isSo [.ref (aI 0), .int x1, .int x2] D cy ad (w4 cy aI SI) (w4 cy aI SI) res := fun sz => GC.start (own := RX4) (Qc := fun A => QI D cy (w4 cy aI SI) A res) sz (by decide) rfl rfl (Nat.le_of_ble_eq_true rfl) (fun p e s m below meth c A ls hC hW hl => t4_isSo_0 hC _ _ _ _ _ _ _ h hW (lv_sub hl [0, 1, 2] rfl))
abbrev rm4_worldsBy : Room := { frames := 2, cells := 0, slots := 0, locals := 44 }
theorem hdV4_worldsBy : yX4_worldsBy.cls = RX4 ∧ (yX4_worldsBy.cls ≠ "java/lang/invoke/MethodHandle" ∧ yX4_worldsBy.cls ≠ "java/lang/invoke/VarHandle" ∧ (parseMethodDescriptor yX4_worldsBy.desc).map (fun d => d.parameters.length) = some 1) := by decide +kernel
theorem hin4_worldsBy_4 : ∀ x ∈ u_ws RX4 TX4 13, x ∈ wsX4_worldsBy := fun _ h => List.mem_cons_of_mem _ (List.mem_append_right _ h)
set_option maxRecDepth 100000 in
set_option maxHeartbeats 4000000 in
theorem t4_worldsBy_54 (hC : Cx p s m args meth c cX4_worldsBy 4 wsX4_worldsBy RX4 (some .int)) {k29 : Int32 → Int32 → Int32 → Ob → Option (Int32)} (hk29 : ∀ (x1 : Int32) (x2 : Int32) (x3 : Int32) (SI : Ob) (res : Int32) (H : Heap) (locs : List Loc) (ls : Array Slot), k29 x1 x2 x3 SI = some res → GW D cy ad (w4 cy aI SI) A s H locs → lv_has ls 4 [(0, .ref (aI 0)), (1, .int x1), (2, .int x2), (3, .int x3)] → W p l e rm4_worldsBy s m args below meth c H locs 0 0 (MQ below (QI D cy (w4 cy aI SI) A res) args s 0 0 A) (F0 m 29 ls [])) : ∀ (x1 : Int32) (x2 : Int32) (x3 : Int32) (SI : Ob) (res : Int32) (H : Heap) (locs : List Loc) (ls : Array Slot), f4_worldsBy_54 k29 x1 x2 x3 SI = some res → GW D cy ad (w4 cy aI SI) A s H locs → lv_has ls 4 [(0, .ref (aI 0)), (1, .int x1), (2, .int x2), (3, .int x3)] → W p l e rm4_worldsBy s m args below meth c H locs 0 0 (MQ below (QI D cy (w4 cy aI SI) A res) args s 0 0 A) (F0 m 54 ls []) := by
  intro x1 x2 x3 SI res H locs ls hf hW hl
  unfold f4_worldsBy_54 at hf
  obtain ⟨x3_1, ex3_1⟩ : ∃ y : Int32, y = x3 + 1 := ⟨_, rfl⟩
  have hf := lt_nm hf ex3_1
  refine lv_iinc (v := x3_1) (lv' := [(3, .int x3_1), (0, .ref (aI 0)), (1, .int x1), (2, .int x2)]) hC.1 hC.2.1 dX4_worldsBy_54 hl (k := 3) rfl (by rw [ex3_1]; rfl) (by decide) rfl (fun ls hl => ?_)
  refine lv_goto (tgt := 29) hC.1 hC.2.1 dX4_worldsBy_57 (by decide) ?_
  exact hk29 _ _ _ _ _ _ _ _ hf hW (lv_sub hl [1, 2, 3, 0] rfl)
set_option maxRecDepth 100000 in
set_option maxHeartbeats 4000000 in
theorem t4_worldsBy_29 (hC : Cx p s m args meth c cX4_worldsBy 4 wsX4_worldsBy RX4 (some .int)) : ∀ n : Nat, ∀ (x1 : Int32) (x2 : Int32) (x3 : Int32) (SI : Ob) (res : Int32) (H : Heap) (locs : List Loc) (ls : Array Slot), f4_worldsBy_29 n x1 x2 x3 SI = some res → GW D cy ad (w4 cy aI SI) A s H locs → lv_has ls 4 [(0, .ref (aI 0)), (1, .int x1), (2, .int x2), (3, .int x3)] → W p l e rm4_worldsBy s m args below meth c H locs 0 0 (MQ below (QI D cy (w4 cy aI SI) A res) args s 0 0 A) (F0 m 29 ls []) := by
  intro n
  induction n with
  | zero =>
    intro _ _ _ _ _ _ _ _ hf _ _
    exact nomatch (show (none : Option (Int32)) = some _ from hf)
  | succ n ih =>
    intro x1 x2 x3 SI res H locs ls hf hW hl
    rw [f4_worldsBy_29] at hf
    refine lv_iload_n hC.1 hC.2.1 dX4_worldsBy_29 rfl (lv_at hl 3 rfl) ?_
    refine lv_aload_n hC.1 hC.2.1 dX4_worldsBy_30 rfl (lv_at hl 0 rfl) ?_
    refine g_get hC hW hin4_worldsBy_4 0 rfl rfl 0 (by decide) 2 rfl rfl dX4_worldsBy_31 ?_
    refine lv_icmp_ge (tgt := 60) hC.1 hC.2.1 dX4_worldsBy_34 (by decide) (fun hc_1 => ?_) (fun hc_1 => ?_)
    · have hf := ite_t hf hc_1
      refine lv_iload_n hC.1 hC.2.1 dX4_worldsBy_60 rfl (lv_at hl 2 rfl) ?_
      obtain rfl := Option.some.inj hf
      exact g_iret hC hW dX4_worldsBy_61
    · have hf := ite_f hf hc_1
      refine lv_aload_n hC.1 hC.2.1 dX4_worldsBy_37 rfl (lv_at hl 0 rfl) ?_
      refine lv_iload_n hC.1 hC.2.1 dX4_worldsBy_38 rfl (lv_at hl 1 rfl) ?_
      refine lv_iload_n hC.1 hC.2.1 dX4_worldsBy_39 rfl (lv_at hl 3 rfl) ?_
      obtain ⟨r_2, hg_3, hf⟩ := bd_of hf
      refine g_calliV (w' := w4 cy aI SI) hC hW (c4_isSo l D cy ad aI hg_3) (cwV 2 hC.2.2.2.2.1 gX4_worldsBy_X4_isSo rfl rfl rfl hdV4_isSo ⟨Nat.le_of_ble_eq_true rfl, Nat.le_of_ble_eq_true rfl⟩) (Sub.all _ _) 0 4 rfl rfl rfl rfl hl.1 rfl (Nat.le_of_ble_eq_true rfl) dX4_worldsBy_40 ⟨Nat.zero_le _, Nat.zero_le _⟩ (fun H locs hW => ?_)
      refine lv_if_eq (tgt := 54) hC.1 hC.2.1 dX4_worldsBy_43 (by decide) (fun hc_4 => ?_) (fun hc_4 => ?_)
      · have hf := ite_t hf hc_4
        exact t4_worldsBy_54 hC ih  _ _ _ _ _ _ _ _ hf hW (lv_sub hl [0, 1, 2, 3] rfl)
      · have hf := ite_f hf hc_4
        refine lv_iload_n hC.1 hC.2.1 dX4_worldsBy_46 rfl (lv_at hl 2 rfl) ?_
        refine lv_aload_n hC.1 hC.2.1 dX4_worldsBy_47 rfl (lv_at hl 0 rfl) ?_
        refine lv_iload_n hC.1 hC.2.1 dX4_worldsBy_48 rfl (lv_at hl 3 rfl) ?_
        obtain ⟨r_5, hg_6, hf⟩ := bd_of hf
        refine g_calliV (w' := w4 cy aI SI) hC hW (c4_worldsOf l D cy ad aI hg_6) (cwV 1 hC.2.2.2.2.1 gX4_worldsBy_X4_worldsOf rfl rfl rfl hdV4_worldsOf ⟨Nat.le_of_ble_eq_true rfl, Nat.le_of_ble_eq_true rfl⟩) (Sub.all _ _) 0 4 rfl rfl rfl rfl hl.1 rfl (Nat.le_of_ble_eq_true rfl) dX4_worldsBy_49 ⟨Nat.zero_le _, Nat.zero_le _⟩ (fun H locs hW => ?_)
        refine lv_ior hC.1 hC.2.1 dX4_worldsBy_52 ?_
        refine lv_topi (fun x2_7 ex2_7 => ?_)
        have hf := lt_nm hf ex2_7
        refine lv_istore_n (lv' := [(2, .int x2_7), (0, .ref (aI 0)), (1, .int x1), (3, .int x3)]) hC.1 hC.2.1 dX4_worldsBy_53 rfl hl (by decide) rfl (fun ls hl => ?_)
        exact t4_worldsBy_54 hC ih  _ _ _ _ _ _ _ _ hf hW (lv_sub hl [1, 2, 0, 3] rfl)
set_option maxRecDepth 100000 in
set_option maxHeartbeats 4000000 in
theorem t4_worldsBy_25 (hC : Cx p s m args meth c cX4_worldsBy 4 wsX4_worldsBy RX4 (some .int)) : ∀ (x1 : Int32) (SI : Ob) (res : Int32) (H : Heap) (locs : List Loc) (ls : Array Slot), f4_worldsBy_25 x1 SI = some res → GW D cy ad (w4 cy aI SI) A s H locs → lv_has ls 4 [(0, .ref (aI 0)), (1, .int x1)] → W p l e rm4_worldsBy s m args below meth c H locs 0 0 (MQ below (QI D cy (w4 cy aI SI) A res) args s 0 0 A) (F0 m 25 ls []) := by
  intro x1 SI res H locs ls hf hW hl
  unfold f4_worldsBy_25 at hf
  refine lv_iconst (v := 0) hC.1 hC.2.1 dX4_worldsBy_25 (by decide) ?_
  refine lv_istore_n (lv' := [(2, .int 0), (0, .ref (aI 0)), (1, .int x1)]) hC.1 hC.2.1 dX4_worldsBy_26 rfl hl (by decide) rfl (fun ls hl => ?_)
  refine lv_iconst (v := 0) hC.1 hC.2.1 dX4_worldsBy_27 (by decide) ?_
  refine lv_istore_n (lv' := [(3, .int 0), (2, .int 0), (0, .ref (aI 0)), (1, .int x1)]) hC.1 hC.2.1 dX4_worldsBy_28 rfl hl (by decide) rfl (fun ls hl => ?_)
  exact t4_worldsBy_29 hC _ _ _ _ _ _ _ _ _ hf hW (lv_sub hl [2, 3, 1, 0] rfl)
set_option maxRecDepth 100000 in
set_option maxHeartbeats 4000000 in
theorem t4_worldsBy_0 (hC : Cx p s m args meth c cX4_worldsBy 4 wsX4_worldsBy RX4 (some .int)) : ∀ (x1 : Int32) (SI : Ob) (res : Int32) (H : Heap) (locs : List Loc) (ls : Array Slot), f4_worldsBy x1 SI = some res → GW D cy ad (w4 cy aI SI) A s H locs → lv_has ls 4 [(0, .ref (aI 0)), (1, .int x1)] → W p l e rm4_worldsBy s m args below meth c H locs 0 0 (MQ below (QI D cy (w4 cy aI SI) A res) args s 0 0 A) (F0 m 0 ls []) := by
  intro x1 SI res H locs ls hf hW hl
  unfold f4_worldsBy at hf
  refine lv_iload_n hC.1 hC.2.1 dX4_worldsBy_0 rfl (lv_at hl 1 rfl) ?_
  refine lv_bipush (v := 18) hC.1 hC.2.1 dX4_worldsBy_1 (by decide) ?_
  refine lv_icmp_lt (tgt := 25) hC.1 hC.2.1 dX4_worldsBy_3 (by decide) (fun hc_1 => ?_) (fun hc_1 => ?_)
  · have hf := ite_t hf hc_1
    exact t4_worldsBy_25 hC  _ _ _ _ _ _ hf hW (lv_sub hl [0, 1] rfl)
  · have hf := ite_f hf hc_1
    refine lv_iload_n hC.1 hC.2.1 dX4_worldsBy_6 rfl (lv_at hl 1 rfl) ?_
    refine lv_bipush (v := 21) hC.1 hC.2.1 dX4_worldsBy_7 (by decide) ?_
    refine lv_icmp_gt (tgt := 25) hC.1 hC.2.1 dX4_worldsBy_9 (by decide) (fun hc_2 => ?_) (fun hc_2 => ?_)
    · have hf := ite_t hf hc_2
      exact t4_worldsBy_25 hC  _ _ _ _ _ _ hf hW (lv_sub hl [0, 1] rfl)
    · have hf := ite_f hf hc_2
      refine lv_aload_n hC.1 hC.2.1 dX4_worldsBy_12 rfl (lv_at hl 0 rfl) ?_
      obtain ⟨r_3, hg_4, hf⟩ := bd_of hf
      refine g_calliV (w' := w4 cy aI SI) hC hW (c4_all l D cy ad aI hg_4) (cwV 0 hC.2.2.2.2.1 gX4_worldsBy_X4_all rfl rfl rfl hdV4_all ⟨Nat.le_of_ble_eq_true rfl, Nat.le_of_ble_eq_true rfl⟩) (Sub.all _ _) 0 4 rfl rfl rfl rfl hl.1 rfl (Nat.le_of_ble_eq_true rfl) dX4_worldsBy_13 ⟨Nat.zero_le _, Nat.zero_le _⟩ (fun H locs hW => ?_)
      refine lv_ldc (v := 286331153) hC.1 hC.2.1 hC.2.2.2.1 (hC.2.2.2.2.1 _ (List.mem_of_getElem? (i := 1) rfl)) dX4_worldsBy_16 ?_
      refine lv_iload_n hC.1 hC.2.1 dX4_worldsBy_18 rfl (lv_at hl 1 rfl) ?_
      refine lv_bipush (v := 18) hC.1 hC.2.1 dX4_worldsBy_19 (by decide) ?_
      refine lv_isub hC.1 hC.2.1 dX4_worldsBy_21 ?_
      refine lv_ishl hC.1 hC.2.1 dX4_worldsBy_22 ?_
      refine lv_iand hC.1 hC.2.1 dX4_worldsBy_23 ?_
      obtain rfl := Option.some.inj hf
      exact g_iret hC hW dX4_worldsBy_24
set_option maxRecDepth 100000 in
set_option maxHeartbeats 4000000 in
theorem c4_worldsBy (l : Launch) (D : va_G) (cy : Nat → ClassId) (ad : Nat → Nat) (aI : Nat → Nat) {x1 : Int32} {SI : Ob} {res : Int32} (h : f4_worldsBy x1 SI = some res) : GCi l yX4_worldsBy wsX4_worldsBy rm4_worldsBy [.ref (aI 0), .int x1] D cy ad (w4 cy aI SI) (w4 cy aI SI) res := fun sz => GC.start (own := RX4) (Qc := fun A => QI D cy (w4 cy aI SI) A res) sz (by decide) rfl rfl (Nat.le_of_ble_eq_true rfl) (fun p e s m below meth c A ls hC hW hl => t4_worldsBy_0 hC _ _ _ _ _ _ h hW (lv_sub hl [0, 1] rfl))
abbrev rm4_sayable : Room := { frames := 1, cells := 0, slots := 0, locals := 21 }
theorem hdV4_sayable : yX4_sayable.cls = RX4 ∧ (yX4_sayable.cls ≠ "java/lang/invoke/MethodHandle" ∧ yX4_sayable.cls ≠ "java/lang/invoke/VarHandle" ∧ (parseMethodDescriptor yX4_sayable.desc).map (fun d => d.parameters.length) = some 2) := by decide +kernel
theorem hin4_sayable_4 : ∀ x ∈ u_ws RX4 TX4 13, x ∈ wsX4_sayable := fun _ h => List.mem_cons_of_mem _ (List.mem_append_right _ h)
set_option maxRecDepth 100000 in
set_option maxHeartbeats 4000000 in
theorem t4_sayable_0 (hC : Cx p s m args meth c cX4_sayable 4 wsX4_sayable RX4 (some .int)) : ∀ (x1 : Int32) (x2 : Int32) (SI : Ob) (res : Int32) (H : Heap) (locs : List Loc) (ls : Array Slot), f4_sayable x1 x2 SI = some res → GW D cy ad (w4 cy aI SI) A s H locs → lv_has ls 4 [(0, .ref (aI 0)), (1, .int x1), (2, .int x2)] → W p l e rm4_sayable s m args below meth c H locs 0 0 (MQ below (QI D cy (w4 cy aI SI) A res) args s 0 0 A) (F0 m 0 ls []) := by
  intro x1 x2 SI res H locs ls hf hW hl
  unfold f4_sayable at hf
  refine lv_aload_n hC.1 hC.2.1 dX4_sayable_0 rfl (lv_at hl 0 rfl) ?_
  refine lv_iload_n hC.1 hC.2.1 dX4_sayable_1 rfl (lv_at hl 1 rfl) ?_
  obtain ⟨r_1, hg_2, hf⟩ := bd_of hf
  refine g_calliV (w' := w4 cy aI SI) hC hW (c4_hasGuest l D cy ad aI hg_2) (cwV 1 hC.2.2.2.2.1 gX4_sayable_X4_hasGuest rfl rfl rfl hdV4_hasGuest ⟨Nat.le_of_ble_eq_true rfl, Nat.le_of_ble_eq_true rfl⟩) (Sub.all _ _) 0 4 rfl rfl rfl rfl hl.1 rfl (Nat.le_of_ble_eq_true rfl) dX4_sayable_2 ⟨Nat.zero_le _, Nat.zero_le _⟩ (fun H locs hW => ?_)
  refine lv_if_ne (tgt := 10) hC.1 hC.2.1 dX4_sayable_5 (by decide) (fun hc_3 => ?_) (fun hc_3 => ?_)
  · have hf := ite_f hf hc_3
    refine lv_iload_n hC.1 hC.2.1 dX4_sayable_10 rfl (lv_at hl 2 rfl) ?_
    refine lv_aload_n hC.1 hC.2.1 dX4_sayable_11 rfl (lv_at hl 0 rfl) ?_
    refine lv_iload_n hC.1 hC.2.1 dX4_sayable_12 rfl (lv_at hl 1 rfl) ?_
    obtain ⟨r_4, hg_5, hf⟩ := bd_of hf
    refine g_calliV (w' := w4 cy aI SI) hC hW (c4_worldsOf l D cy ad aI hg_5) (cwV 1 hC.2.2.2.2.1 gX4_sayable_X4_worldsOf rfl rfl rfl hdV4_worldsOf ⟨Nat.le_of_ble_eq_true rfl, Nat.le_of_ble_eq_true rfl⟩) (Sub.all _ _) 0 4 rfl rfl rfl rfl hl.1 rfl (Nat.le_of_ble_eq_true rfl) dX4_sayable_13 ⟨Nat.zero_le _, Nat.zero_le _⟩ (fun H locs hW => ?_)
    refine lv_ixor hC.1 hC.2.1 dX4_sayable_16 ?_
    refine lv_topi (fun x3_6 ex3_6 => ?_)
    have hf := lt_nm hf ex3_6
    refine lv_istore_n (lv' := [(3, .int x3_6), (0, .ref (aI 0)), (1, .int x1), (2, .int x2)]) hC.1 hC.2.1 dX4_sayable_17 rfl hl (by decide) rfl (fun ls hl => ?_)
    refine lv_aload_n hC.1 hC.2.1 dX4_sayable_18 rfl (lv_at hl 1 rfl) ?_
    refine g_get hC hW hin4_sayable_4 0 rfl rfl 2 (by decide) 1 rfl rfl dX4_sayable_19 ?_
    refine lv_iload_n hC.1 hC.2.1 dX4_sayable_22 rfl (lv_at hl 2 rfl) ?_
    obtain ⟨hi_7, hf⟩ := ck_of hf
    refine g_iald hC hW 2 rfl hi_7 dX4_sayable_23 ?_
    by_cases hc_8 : (SI.2.2.1 2 (Int32.toNatClampNeg x1)) = 0
    · have hf := ite_t hf hc_8
      refine lv_tableIn (tgt := 52) hC.1 hC.2.1 dX4_sayable_24 (by rw [hc_8]; decide) (by rw [hc_8]; decide) (by rw [hc_8]; rfl) (by decide) ?_
      refine lv_aload_n hC.1 hC.2.1 dX4_sayable_52 rfl (lv_at hl 1 rfl) ?_
      obtain ⟨r_9, hg_10, hf⟩ := bd_of hf
      refine g_calliV (w' := w4 cy aI SI) hC hW (c4_all l D cy ad aI hg_10) (cwV 0 hC.2.2.2.2.1 gX4_sayable_X4_all rfl rfl rfl hdV4_all ⟨Nat.le_of_ble_eq_true rfl, Nat.le_of_ble_eq_true rfl⟩) (Sub.all _ _) 0 4 rfl rfl rfl rfl hl.1 rfl (Nat.le_of_ble_eq_true rfl) dX4_sayable_53 ⟨Nat.zero_le _, Nat.zero_le _⟩ (fun H locs hW => ?_)
      refine lv_iload_n hC.1 hC.2.1 dX4_sayable_56 rfl (lv_at hl 0 rfl) ?_
      refine lv_iand hC.1 hC.2.1 dX4_sayable_57 ?_
      obtain rfl := Option.some.inj hf
      exact g_iret hC hW dX4_sayable_58
    · have hf := ite_f hf hc_8
      by_cases hc_11 : (SI.2.2.1 2 (Int32.toNatClampNeg x1)) = 1
      · have hf := ite_t hf hc_11
        refine lv_tableIn (tgt := 59) hC.1 hC.2.1 dX4_sayable_24 (by rw [hc_11]; decide) (by rw [hc_11]; decide) (by rw [hc_11]; rfl) (by decide) ?_
        refine lv_aload_n hC.1 hC.2.1 dX4_sayable_59 rfl (lv_at hl 1 rfl) ?_
        obtain ⟨r_12, hg_13, hf⟩ := bd_of hf
        refine g_calliV (w' := w4 cy aI SI) hC hW (c4_all l D cy ad aI hg_13) (cwV 0 hC.2.2.2.2.1 gX4_sayable_X4_all rfl rfl rfl hdV4_all ⟨Nat.le_of_ble_eq_true rfl, Nat.le_of_ble_eq_true rfl⟩) (Sub.all _ _) 0 4 rfl rfl rfl rfl hl.1 rfl (Nat.le_of_ble_eq_true rfl) dX4_sayable_60 ⟨Nat.zero_le _, Nat.zero_le _⟩ (fun H locs hW => ?_)
        refine lv_iload_n hC.1 hC.2.1 dX4_sayable_63 rfl (lv_at hl 3 rfl) ?_
        refine lv_iand hC.1 hC.2.1 dX4_sayable_64 ?_
        obtain rfl := Option.some.inj hf
        exact g_iret hC hW dX4_sayable_65
      · have hf := ite_f hf hc_11
        by_cases hc_14 : (SI.2.2.1 2 (Int32.toNatClampNeg x1)) = 2
        · have hf := ite_t hf hc_14
          refine lv_tableIn (tgt := 66) hC.1 hC.2.1 dX4_sayable_24 (by rw [hc_14]; decide) (by rw [hc_14]; decide) (by rw [hc_14]; rfl) (by decide) ?_
          refine lv_aload_n hC.1 hC.2.1 dX4_sayable_66 rfl (lv_at hl 1 rfl) ?_
          obtain ⟨r_15, hg_16, hf⟩ := bd_of hf
          refine g_calliV (w' := w4 cy aI SI) hC hW (c4_all l D cy ad aI hg_16) (cwV 0 hC.2.2.2.2.1 gX4_sayable_X4_all rfl rfl rfl hdV4_all ⟨Nat.le_of_ble_eq_true rfl, Nat.le_of_ble_eq_true rfl⟩) (Sub.all _ _) 0 4 rfl rfl rfl rfl hl.1 rfl (Nat.le_of_ble_eq_true rfl) dX4_sayable_67 ⟨Nat.zero_le _, Nat.zero_le _⟩ (fun H locs hW => ?_)
          refine lv_iload_n hC.1 hC.2.1 dX4_sayable_70 rfl (lv_at hl 0 rfl) ?_
          refine lv_iconst (v := (-1)) hC.1 hC.2.1 dX4_sayable_71 (by decide) ?_
          refine lv_ixor hC.1 hC.2.1 dX4_sayable_72 ?_
          refine lv_iand hC.1 hC.2.1 dX4_sayable_73 ?_
          obtain rfl := Option.some.inj hf
          exact g_iret hC hW dX4_sayable_74
        · have hf := ite_f hf hc_14
          refine lv_tableOut (tgt := 75) hC.1 hC.2.1 dX4_sayable_24 (tab_out [0, 1, 2] (List.forall_mem_cons.mpr ⟨hc_8, (List.forall_mem_cons.mpr ⟨hc_11, (List.forall_mem_cons.mpr ⟨hc_14, (fun _ h => by cases h)⟩)⟩)⟩) (by decide)) (by decide) ?_
          refine lv_aload_n hC.1 hC.2.1 dX4_sayable_75 rfl (lv_at hl 1 rfl) ?_
          obtain ⟨r_17, hg_18, hf⟩ := bd_of hf
          refine g_calliV (w' := w4 cy aI SI) hC hW (c4_all l D cy ad aI hg_18) (cwV 0 hC.2.2.2.2.1 gX4_sayable_X4_all rfl rfl rfl hdV4_all ⟨Nat.le_of_ble_eq_true rfl, Nat.le_of_ble_eq_true rfl⟩) (Sub.all _ _) 0 4 rfl rfl rfl rfl hl.1 rfl (Nat.le_of_ble_eq_true rfl) dX4_sayable_76 ⟨Nat.zero_le _, Nat.zero_le _⟩ (fun H locs hW => ?_)
          obtain rfl := Option.some.inj hf
          exact g_iret hC hW dX4_sayable_79
  · have hf := ite_t hf hc_3
    refine lv_iconst (v := 0) hC.1 hC.2.1 dX4_sayable_8 (by decide) ?_
    obtain rfl := Option.some.inj hf
    exact g_iret hC hW dX4_sayable_9
set_option maxRecDepth 100000 in
set_option maxHeartbeats 4000000 in
theorem c4_sayable (l : Launch) (D : va_G) (cy : Nat → ClassId) (ad : Nat → Nat) (aI : Nat → Nat) {x1 : Int32} {x2 : Int32} {SI : Ob} {res : Int32} (h : f4_sayable x1 x2 SI = some res) : GCi l yX4_sayable wsX4_sayable rm4_sayable [.ref (aI 0), .int x1, .int x2] D cy ad (w4 cy aI SI) (w4 cy aI SI) res := fun sz => GC.start (own := RX4) (Qc := fun A => QI D cy (w4 cy aI SI) A res) sz (by decide) rfl rfl (Nat.le_of_ble_eq_true rfl) (fun p e s m below meth c A ls hC hW hl => t4_sayable_0 hC _ _ _ _ _ _ _ h hW (lv_sub hl [0, 1, 2] rfl))
end
