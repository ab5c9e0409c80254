/-! laid by program: functions, walks and contracts of 12_hasWord, 12_takeWord, 12_within, 12_takeNumber, 12_takeAfter, 12_wordHere, 12_takeOne, 12_isName, 12_find, 12_toldHere, 12_takeTold, 12_readName, 12_readGuest, 12_emit -/
set_option maxRecDepth 20000 in
theorem gX12_hasWord_X12_isWord : GoodIn wsX12_hasWord (wsV RX12 207 RX12 yX12_isWord wsX12_isWord) := goodIn_r _ [2, 3, 4, 5, 6, 7, 8, 1, 9, 10, 11, 12, 13, 14, 15, 16, 17, 18, 19, 20, 21, 22, 23, 24, 25, 26, 27, 28, 29, 30, 31, 32, 33, 34, 35, 36, 37, 38, 39, 40, 41, 42, 43, 44, 45, 46, 47, 48, 49] rfl (by decide +kernel)
theorem dX12_hasWord_0 : decode cX12_hasWord 0 = .ok (.aload_n 0, 1) := by decide +kernel
theorem dX12_hasWord_1 : decode cX12_hasWord 1 = .ok (.iload_n 1, 1) := by decide +kernel
theorem dX12_hasWord_2 : decode cX12_hasWord 2 = .ok (.invokevirtual 207, 3) := by decide +kernel
theorem dX12_hasWord_5 : decode cX12_hasWord 5 = .ok (.istore_n 2, 1) := by decide +kernel
theorem dX12_hasWord_6 : decode cX12_hasWord 6 = .ok (.aload_n 0, 1) := by decide +kernel
theorem dX12_hasWord_7 : decode cX12_hasWord 7 = .ok (.dup, 1) := by decide +kernel
theorem dX12_hasWord_8 : decode cX12_hasWord 8 = .ok (.getfield 195, 3) := by decide +kernel
theorem dX12_hasWord_11 : decode cX12_hasWord 11 = .ok (.iload_n 2, 1) := by decide +kernel
theorem dX12_hasWord_12 : decode cX12_hasWord 12 = .ok (.ifCond .eq 7, 3) := by decide +kernel
theorem dX12_hasWord_15 : decode cX12_hasWord 15 = .ok (.iconst 1, 1) := by decide +kernel
theorem dX12_hasWord_16 : decode cX12_hasWord 16 = .ok (.goto 4, 3) := by decide +kernel
theorem dX12_hasWord_19 : decode cX12_hasWord 19 = .ok (.iconst 0, 1) := by decide +kernel
theorem dX12_hasWord_20 : decode cX12_hasWord 20 = .ok (.iadd, 1) := by decide +kernel
theorem dX12_hasWord_21 : decode cX12_hasWord 21 = .ok (.putfield 195, 3) := by decide +kernel
theorem dX12_hasWord_24 : decode cX12_hasWord 24 = .ok (.iload_n 2, 1) := by decide +kernel
theorem dX12_hasWord_25 : decode cX12_hasWord 25 = .ok (.ireturn, 1) := by decide +kernel
set_option maxRecDepth 20000 in
theorem gX12_takeWord_X12_hasWord : GoodIn wsX12_takeWord (wsV RX12 210 RX12 yX12_hasWord wsX12_hasWord) := goodIn_r _ [1, 2, 3, 4, 5, 6, 7, 8, 9, 4, 10, 11, 12, 13, 14, 20, 21, 22, 23, 24, 25, 26, 27, 28, 29, 30, 31, 32, 33, 34, 35, 36, 37, 38, 39, 40, 41, 42, 43, 44, 45, 46, 47, 48, 49, 50, 51, 52, 53, 54, 55, 56, 57, 58] rfl (by decide +kernel)
set_option maxRecDepth 20000 in
theorem gX12_takeWord_X12_wrong : GoodIn wsX12_takeWord (wsV RX12 204 RX12 yX12_wrong wsX12_wrong) := goodIn_r _ [15, 16, 17, 4, 18, 11, 19, 6, 20, 21, 22, 23, 24, 25, 26, 27, 28, 29, 30, 31, 32, 33, 34, 35, 36, 37, 38, 39, 40, 41, 42, 43, 44, 45, 46, 47, 48, 49, 50, 51, 52, 53, 54, 55, 56, 57, 58] rfl (by decide +kernel)
theorem dX12_takeWord_0 : decode cX12_takeWord 0 = .ok (.aload_n 0, 1) := by decide +kernel
theorem dX12_takeWord_1 : decode cX12_takeWord 1 = .ok (.iload_n 1, 1) := by decide +kernel
theorem dX12_takeWord_2 : decode cX12_takeWord 2 = .ok (.invokevirtual 210, 3) := by decide +kernel
theorem dX12_takeWord_5 : decode cX12_takeWord 5 = .ok (.ifCond .ne 8, 3) := by decide +kernel
theorem dX12_takeWord_8 : decode cX12_takeWord 8 = .ok (.aload_n 0, 1) := by decide +kernel
theorem dX12_takeWord_9 : decode cX12_takeWord 9 = .ok (.iconst 1, 1) := by decide +kernel
theorem dX12_takeWord_10 : decode cX12_takeWord 10 = .ok (.invokevirtual 204, 3) := by decide +kernel
theorem dX12_takeWord_13 : decode cX12_takeWord 13 = .ok (.return_, 1) := by decide +kernel
theorem dX12_within_0 : decode cX12_within 0 = .ok (.iload_n 0, 1) := by decide +kernel
theorem dX12_within_1 : decode cX12_within 1 = .ok (.iload_n 1, 1) := by decide +kernel
theorem dX12_within_2 : decode cX12_within 2 = .ok (.if_icmp .lt 12, 3) := by decide +kernel
theorem dX12_within_5 : decode cX12_within 5 = .ok (.iload_n 0, 1) := by decide +kernel
theorem dX12_within_6 : decode cX12_within 6 = .ok (.iload_n 2, 1) := by decide +kernel
theorem dX12_within_7 : decode cX12_within 7 = .ok (.if_icmp .gt 7, 3) := by decide +kernel
theorem dX12_within_10 : decode cX12_within 10 = .ok (.iconst 1, 1) := by decide +kernel
theorem dX12_within_11 : decode cX12_within 11 = .ok (.goto 4, 3) := by decide +kernel
theorem dX12_within_14 : decode cX12_within 14 = .ok (.iconst 0, 1) := by decide +kernel
theorem dX12_within_15 : decode cX12_within 15 = .ok (.ireturn, 1) := by decide +kernel
set_option maxRecDepth 20000 in
theorem gX12_takeNumber_X12_wrong : GoodIn wsX12_takeNumber (wsV RX12 204 RX12 yX12_wrong wsX12_wrong) := goodIn_r _ [5, 6, 7, 8, 9, 1, 10, 3, 11, 12, 13, 14, 15, 16, 17, 18, 19, 20, 21, 22, 23, 24, 25, 26, 27, 28, 29, 30, 31, 32, 33, 34, 35, 36, 37, 38, 39, 40, 41, 42, 43, 44, 45, 46, 47, 48, 49] rfl (by decide +kernel)
theorem dX12_takeNumber_0 : decode cX12_takeNumber 0 = .ok (.aload_n 0, 1) := by decide +kernel
theorem dX12_takeNumber_1 : decode cX12_takeNumber 1 = .ok (.getfield 198, 3) := by decide +kernel
theorem dX12_takeNumber_4 : decode cX12_takeNumber 4 = .ok (.ifCond .ne 24, 3) := by decide +kernel
theorem dX12_takeNumber_7 : decode cX12_takeNumber 7 = .ok (.aload_n 0, 1) := by decide +kernel
theorem dX12_takeNumber_8 : decode cX12_takeNumber 8 = .ok (.getfield 24, 3) := by decide +kernel
theorem dX12_takeNumber_11 : decode cX12_takeNumber 11 = .ok (.aload_n 0, 1) := by decide +kernel
theorem dX12_takeNumber_12 : decode cX12_takeNumber 12 = .ok (.getfield 195, 3) := by decide +kernel
theorem dX12_takeNumber_15 : decode cX12_takeNumber 15 = .ok (.iaload, 1) := by decide +kernel
theorem dX12_takeNumber_16 : decode cX12_takeNumber 16 = .ok (.iconst 2, 1) := by decide +kernel
theorem dX12_takeNumber_17 : decode cX12_takeNumber 17 = .ok (.if_icmp .eq 11, 3) := by decide +kernel
theorem dX12_takeNumber_20 : decode cX12_takeNumber 20 = .ok (.aload_n 0, 1) := by decide +kernel
theorem dX12_takeNumber_21 : decode cX12_takeNumber 21 = .ok (.iconst 1, 1) := by decide +kernel
theorem dX12_takeNumber_22 : decode cX12_takeNumber 22 = .ok (.invokevirtual 204, 3) := by decide +kernel
theorem dX12_takeNumber_25 : decode cX12_takeNumber 25 = .ok (.goto 45, 3) := by decide +kernel
theorem dX12_takeNumber_28 : decode cX12_takeNumber 28 = .ok (.aload_n 0, 1) := by decide +kernel
theorem dX12_takeNumber_29 : decode cX12_takeNumber 29 = .ok (.getfield 198, 3) := by decide +kernel
theorem dX12_takeNumber_32 : decode cX12_takeNumber 32 = .ok (.ifCond .ne 38, 3) := by decide +kernel
theorem dX12_takeNumber_35 : decode cX12_takeNumber 35 = .ok (.aload_n 0, 1) := by decide +kernel
theorem dX12_takeNumber_36 : decode cX12_takeNumber 36 = .ok (.getfield 30, 3) := by decide +kernel
theorem dX12_takeNumber_39 : decode cX12_takeNumber 39 = .ok (.aload_n 0, 1) := by decide +kernel
theorem dX12_takeNumber_40 : decode cX12_takeNumber 40 = .ok (.getfield 195, 3) := by decide +kernel
theorem dX12_takeNumber_43 : decode cX12_takeNumber 43 = .ok (.laload, 1) := by decide +kernel
theorem dX12_takeNumber_44 : decode cX12_takeNumber 44 = .ok (.iload_n 1, 1) := by decide +kernel
theorem dX12_takeNumber_45 : decode cX12_takeNumber 45 = .ok (.i2l, 1) := by decide +kernel
theorem dX12_takeNumber_46 : decode cX12_takeNumber 46 = .ok (.lcmp, 1) := by decide +kernel
theorem dX12_takeNumber_47 : decode cX12_takeNumber 47 = .ok (.ifCond .lt 18, 3) := by decide +kernel
theorem dX12_takeNumber_50 : decode cX12_takeNumber 50 = .ok (.aload_n 0, 1) := by decide +kernel
theorem dX12_takeNumber_51 : decode cX12_takeNumber 51 = .ok (.getfield 30, 3) := by decide +kernel
theorem dX12_takeNumber_54 : decode cX12_takeNumber 54 = .ok (.aload_n 0, 1) := by decide +kernel
theorem dX12_takeNumber_55 : decode cX12_takeNumber 55 = .ok (.getfield 195, 3) := by decide +kernel
theorem dX12_takeNumber_58 : decode cX12_takeNumber 58 = .ok (.laload, 1) := by decide +kernel
theorem dX12_takeNumber_59 : decode cX12_takeNumber 59 = .ok (.iload_n 2, 1) := by decide +kernel
theorem dX12_takeNumber_60 : decode cX12_takeNumber 60 = .ok (.i2l, 1) := by decide +kernel
theorem dX12_takeNumber_61 : decode cX12_takeNumber 61 = .ok (.lcmp, 1) := by decide +kernel
theorem dX12_takeNumber_62 : decode cX12_takeNumber 62 = .ok (.ifCond .le 8, 3) := by decide +kernel
theorem dX12_takeNumber_65 : decode cX12_takeNumber 65 = .ok (.aload_n 0, 1) := by decide +kernel
theorem dX12_takeNumber_66 : decode cX12_takeNumber 66 = .ok (.iconst 4, 1) := by decide +kernel
theorem dX12_takeNumber_67 : decode cX12_takeNumber 67 = .ok (.invokevirtual 204, 3) := by decide +kernel
theorem dX12_takeNumber_70 : decode cX12_takeNumber 70 = .ok (.aload_n 0, 1) := by decide +kernel
theorem dX12_takeNumber_71 : decode cX12_takeNumber 71 = .ok (.getfield 198, 3) := by decide +kernel
theorem dX12_takeNumber_74 : decode cX12_takeNumber 74 = .ok (.ifCond .le 5, 3) := by decide +kernel
theorem dX12_takeNumber_77 : decode cX12_takeNumber 77 = .ok (.iconst 0, 1) := by decide +kernel
theorem dX12_takeNumber_78 : decode cX12_takeNumber 78 = .ok (.ireturn, 1) := by decide +kernel
theorem dX12_takeNumber_79 : decode cX12_takeNumber 79 = .ok (.aload_n 0, 1) := by decide +kernel
theorem dX12_takeNumber_80 : decode cX12_takeNumber 80 = .ok (.dup, 1) := by decide +kernel
theorem dX12_takeNumber_81 : decode cX12_takeNumber 81 = .ok (.getfield 195, 3) := by decide +kernel
theorem dX12_takeNumber_84 : decode cX12_takeNumber 84 = .ok (.iconst 1, 1) := by decide +kernel
theorem dX12_takeNumber_85 : decode cX12_takeNumber 85 = .ok (.iadd, 1) := by decide +kernel
theorem dX12_takeNumber_86 : decode cX12_takeNumber 86 = .ok (.putfield 195, 3) := by decide +kernel
theorem dX12_takeNumber_89 : decode cX12_takeNumber 89 = .ok (.aload_n 0, 1) := by decide +kernel
theorem dX12_takeNumber_90 : decode cX12_takeNumber 90 = .ok (.getfield 30, 3) := by decide +kernel
theorem dX12_takeNumber_93 : decode cX12_takeNumber 93 = .ok (.aload_n 0, 1) := by decide +kernel
theorem dX12_takeNumber_94 : decode cX12_takeNumber 94 = .ok (.getfield 195, 3) := by decide +kernel
theorem dX12_takeNumber_97 : decode cX12_takeNumber 97 = .ok (.iconst 1, 1) := by decide +kernel
theorem dX12_takeNumber_98 : decode cX12_takeNumber 98 = .ok (.isub, 1) := by decide +kernel
theorem dX12_takeNumber_99 : decode cX12_takeNumber 99 = .ok (.laload, 1) := by decide +kernel
theorem dX12_takeNumber_100 : decode cX12_takeNumber 100 = .ok (.l2i, 1) := by decide +kernel
theorem dX12_takeNumber_101 : decode cX12_takeNumber 101 = .ok (.ireturn, 1) := by decide +kernel
set_option maxRecDepth 20000 in
theorem gX12_takeAfter_X12_takeWord : GoodIn wsX12_takeAfter (wsV RX12 213 RX12 yX12_takeWord wsX12_takeWord) := goodIn_r _ [1, 2, 3, 4, 5, 6, 7, 8, 4, 9, 10, 11, 12, 13, 14, 15, 16, 17, 18, 19, 20, 21, 22, 23, 28, 29, 30, 31, 32, 33, 34, 35, 36, 37, 38, 39, 40, 41, 42, 43, 44, 45, 46, 47, 48, 49, 50, 51, 52, 53, 54, 55, 56, 57, 58, 59, 60, 61, 62, 63, 64, 65, 66] rfl (by decide +kernel)
set_option maxRecDepth 20000 in
theorem gX12_takeAfter_X12_takeNumber : GoodIn wsX12_takeAfter (wsV RX12 216 RX12 yX12_takeNumber wsX12_takeNumber) := goodIn_r _ [24, 25, 26, 4, 27, 15, 16, 10, 17, 19, 20, 21, 4, 22, 23, 28, 29, 30, 31, 32, 33, 34, 35, 36, 37, 38, 39, 40, 41, 42, 43, 44, 45, 46, 47, 48, 49, 50, 51, 52, 53, 54, 55, 56, 57, 58, 59, 60, 61, 62, 63, 64, 65, 66] rfl (by decide +kernel)
theorem dX12_takeAfter_0 : decode cX12_takeAfter 0 = .ok (.aload_n 0, 1) := by decide +kernel
theorem dX12_takeAfter_1 : decode cX12_takeAfter 1 = .ok (.iload_n 1, 1) := by decide +kernel
theorem dX12_takeAfter_2 : decode cX12_takeAfter 2 = .ok (.invokevirtual 213, 3) := by decide +kernel
theorem dX12_takeAfter_5 : decode cX12_takeAfter 5 = .ok (.aload_n 0, 1) := by decide +kernel
theorem dX12_takeAfter_6 : decode cX12_takeAfter 6 = .ok (.iload_n 2, 1) := by decide +kernel
theorem dX12_takeAfter_7 : decode cX12_takeAfter 7 = .ok (.iload_n 3, 1) := by decide +kernel
theorem dX12_takeAfter_8 : decode cX12_takeAfter 8 = .ok (.invokevirtual 216, 3) := by decide +kernel
theorem dX12_takeAfter_11 : decode cX12_takeAfter 11 = .ok (.ireturn, 1) := by decide +kernel
set_option maxRecDepth 20000 in
theorem gX12_wordHere_X12_isWord : GoodIn wsX12_wordHere (wsV RX12 207 RX12 yX12_isWord wsX12_isWord) := goodIn_r _ [1, 2, 3, 4, 5, 6, 7, 8, 9, 10, 11, 12, 13, 14, 15, 16, 17, 18, 19, 20, 21, 22, 23, 24, 25, 26, 27, 28, 29, 30, 31, 32, 33, 34, 35, 36, 37, 38, 39, 40, 41, 42, 43, 44, 45, 46, 47, 48, 49] rfl (by decide +kernel)
theorem dX12_wordHere_0 : decode cX12_wordHere 0 = .ok (.iconst (-1), 1) := by decide +kernel
theorem dX12_wordHere_1 : decode cX12_wordHere 1 = .ok (.istore_n 3, 1) := by decide +kernel
theorem dX12_wordHere_2 : decode cX12_wordHere 2 = .ok (.iconst 0, 1) := by decide +kernel
theorem dX12_wordHere_3 : decode cX12_wordHere 3 = .ok (.istore 4, 2) := by decide +kernel
theorem dX12_wordHere_5 : decode cX12_wordHere 5 = .ok (.iload 4, 2) := by decide +kernel
theorem dX12_wordHere_7 : decode cX12_wordHere 7 = .ok (.iload_n 2, 1) := by decide +kernel
theorem dX12_wordHere_8 : decode cX12_wordHere 8 = .ok (.if_icmp .ge 27, 3) := by decide +kernel
theorem dX12_wordHere_11 : decode cX12_wordHere 11 = .ok (.aload_n 0, 1) := by decide +kernel
theorem dX12_wordHere_12 : decode cX12_wordHere 12 = .ok (.iload_n 1, 1) := by decide +kernel
theorem dX12_wordHere_13 : decode cX12_wordHere 13 = .ok (.iload 4, 2) := by decide +kernel
theorem dX12_wordHere_15 : decode cX12_wordHere 15 = .ok (.iadd, 1) := by decide +kernel
theorem dX12_wordHere_16 : decode cX12_wordHere 16 = .ok (.invokevirtual 207, 3) := by decide +kernel
theorem dX12_wordHere_19 : decode cX12_wordHere 19 = .ok (.ifCond .eq 8, 3) := by decide +kernel
theorem dX12_wordHere_22 : decode cX12_wordHere 22 = .ok (.iload 4, 2) := by decide +kernel
theorem dX12_wordHere_24 : decode cX12_wordHere 24 = .ok (.goto 4, 3) := by decide +kernel
theorem dX12_wordHere_27 : decode cX12_wordHere 27 = .ok (.iload_n 3, 1) := by decide +kernel
theorem dX12_wordHere_28 : decode cX12_wordHere 28 = .ok (.istore_n 3, 1) := by decide +kernel
theorem dX12_wordHere_29 : decode cX12_wordHere 29 = .ok (.iinc 4 1, 3) := by decide +kernel
theorem dX12_wordHere_32 : decode cX12_wordHere 32 = .ok (.goto (-27), 3) := by decide +kernel
theorem dX12_wordHere_35 : decode cX12_wordHere 35 = .ok (.iload_n 3, 1) := by decide +kernel
theorem dX12_wordHere_36 : decode cX12_wordHere 36 = .ok (.ireturn, 1) := by decide +kernel
set_option maxRecDepth 20000 in
theorem gX12_takeOne_X12_wordHere : GoodIn wsX12_takeOne (wsV RX12 220 RX12 yX12_wordHere wsX12_wordHere) := goodIn_r _ [3, 4, 5, 6, 7, 8, 9, 10, 6, 11, 1, 12, 2, 13, 14, 20, 21, 22, 23, 24, 25, 26, 27, 28, 29, 30, 31, 32, 33, 34, 35, 36, 37, 38, 39, 40, 41, 42, 43, 44, 45, 46, 47, 48, 49, 50, 51, 52, 53, 54, 55, 56, 57, 58] rfl (by decide +kernel)
set_option maxRecDepth 20000 in
theorem gX12_takeOne_X12_wrong : GoodIn wsX12_takeOne (wsV RX12 204 RX12 yX12_wrong wsX12_wrong) := goodIn_r _ [15, 16, 17, 6, 18, 1, 19, 2, 20, 21, 22, 23, 24, 25, 26, 27, 28, 29, 30, 31, 32, 33, 34, 35, 36, 37, 38, 39, 40, 41, 42, 43, 44, 45, 46, 47, 48, 49, 50, 51, 52, 53, 54, 55, 56, 57, 58] rfl (by decide +kernel)
theorem dX12_takeOne_0 : decode cX12_takeOne 0 = .ok (.aload_n 0, 1) := by decide +kernel
theorem dX12_takeOne_1 : decode cX12_takeOne 1 = .ok (.getfield 198, 3) := by decide +kernel
theorem dX12_takeOne_4 : decode cX12_takeOne 4 = .ok (.ifCond .le 7, 3) := by decide +kernel
theorem dX12_takeOne_7 : decode cX12_takeOne 7 = .ok (.iconst (-1), 1) := by decide +kernel
theorem dX12_takeOne_8 : decode cX12_takeOne 8 = .ok (.goto 9, 3) := by decide +kernel
theorem dX12_takeOne_11 : decode cX12_takeOne 11 = .ok (.aload_n 0, 1) := by decide +kernel
theorem dX12_takeOne_12 : decode cX12_takeOne 12 = .ok (.iload_n 1, 1) := by decide +kernel
theorem dX12_takeOne_13 : decode cX12_takeOne 13 = .ok (.iload_n 2, 1) := by decide +kernel
theorem dX12_takeOne_14 : decode cX12_takeOne 14 = .ok (.invokevirtual 220, 3) := by decide +kernel
theorem dX12_takeOne_17 : decode cX12_takeOne 17 = .ok (.istore_n 3, 1) := by decide +kernel
theorem dX12_takeOne_18 : decode cX12_takeOne 18 = .ok (.aload_n 0, 1) := by decide +kernel
theorem dX12_takeOne_19 : decode cX12_takeOne 19 = .ok (.getfield 198, 3) := by decide +kernel
theorem dX12_takeOne_22 : decode cX12_takeOne 22 = .ok (.ifCond .ne 12, 3) := by decide +kernel
theorem dX12_takeOne_25 : decode cX12_takeOne 25 = .ok (.iload_n 3, 1) := by decide +kernel
theorem dX12_takeOne_26 : decode cX12_takeOne 26 = .ok (.ifCond .ge 8, 3) := by decide +kernel
theorem dX12_takeOne_29 : decode cX12_takeOne 29 = .ok (.aload_n 0, 1) := by decide +kernel
theorem dX12_takeOne_30 : decode cX12_takeOne 30 = .ok (.iconst 1, 1) := by decide +kernel
theorem dX12_takeOne_31 : decode cX12_takeOne 31 = .ok (.invokevirtual 204, 3) := by decide +kernel
theorem dX12_takeOne_34 : decode cX12_takeOne 34 = .ok (.aload_n 0, 1) := by decide +kernel
theorem dX12_takeOne_35 : decode cX12_takeOne 35 = .ok (.dup, 1) := by decide +kernel
theorem dX12_takeOne_36 : decode cX12_takeOne 36 = .ok (.getfield 195, 3) := by decide +kernel
theorem dX12_takeOne_39 : decode cX12_takeOne 39 = .ok (.aload_n 0, 1) := by decide +kernel
theorem dX12_takeOne_40 : decode cX12_takeOne 40 = .ok (.getfield 198, 3) := by decide +kernel
theorem dX12_takeOne_43 : decode cX12_takeOne 43 = .ok (.ifCond .le 7, 3) := by decide +kernel
theorem dX12_takeOne_46 : decode cX12_takeOne 46 = .ok (.iconst 0, 1) := by decide +kernel
theorem dX12_takeOne_47 : decode cX12_takeOne 47 = .ok (.goto 4, 3) := by decide +kernel
theorem dX12_takeOne_50 : decode cX12_takeOne 50 = .ok (.iconst 1, 1) := by decide +kernel
theorem dX12_takeOne_51 : decode cX12_takeOne 51 = .ok (.iadd, 1) := by decide +kernel
theorem dX12_takeOne_52 : decode cX12_takeOne 52 = .ok (.putfield 195, 3) := by decide +kernel
theorem dX12_takeOne_55 : decode cX12_takeOne 55 = .ok (.aload_n 0, 1) := by decide +kernel
theorem dX12_takeOne_56 : decode cX12_takeOne 56 = .ok (.getfield 198, 3) := by decide +kernel
theorem dX12_takeOne_59 : decode cX12_takeOne 59 = .ok (.ifCond .le 7, 3) := by decide +kernel
theorem dX12_takeOne_62 : decode cX12_takeOne 62 = .ok (.iconst 0, 1) := by decide +kernel
theorem dX12_takeOne_63 : decode cX12_takeOne 63 = .ok (.goto 4, 3) := by decide +kernel
theorem dX12_takeOne_66 : decode cX12_takeOne 66 = .ok (.iload_n 3, 1) := by decide +kernel
theorem dX12_takeOne_67 : decode cX12_takeOne 67 = .ok (.ireturn, 1) := by decide +kernel
set_option maxRecDepth 20000 in
theorem gX12_isName_X12_wordHere : GoodIn wsX12_isName (wsV RX12 220 RX12 yX12_wordHere wsX12_wordHere) := goodIn_r _ [4, 5, 6, 7, 8, 9, 10, 11, 7, 12, 1, 2, 3, 13, 14, 15, 16, 17, 18, 19, 20, 21, 22, 23, 24, 25, 26, 27, 28, 29, 30, 31, 32, 33, 34, 35, 36, 37, 38, 39, 40, 41, 42, 43, 44, 45, 46, 47, 48, 49, 50, 51, 52, 53] rfl (by decide +kernel)
theorem dX12_isName_0 : decode cX12_isName 0 = .ok (.aload_n 0, 1) := by decide +kernel
theorem dX12_isName_1 : decode cX12_isName 1 = .ok (.getfield 198, 3) := by decide +kernel
theorem dX12_isName_4 : decode cX12_isName 4 = .ok (.ifCond .ne 30, 3) := by decide +kernel
theorem dX12_isName_7 : decode cX12_isName 7 = .ok (.aload_n 0, 1) := by decide +kernel
theorem dX12_isName_8 : decode cX12_isName 8 = .ok (.getfield 24, 3) := by decide +kernel
theorem dX12_isName_11 : decode cX12_isName 11 = .ok (.aload_n 0, 1) := by decide +kernel
theorem dX12_isName_12 : decode cX12_isName 12 = .ok (.getfield 195, 3) := by decide +kernel
theorem dX12_isName_15 : decode cX12_isName 15 = .ok (.iaload, 1) := by decide +kernel
theorem dX12_isName_16 : decode cX12_isName 16 = .ok (.iconst 1, 1) := by decide +kernel
theorem dX12_isName_17 : decode cX12_isName 17 = .ok (.if_icmp .ne 17, 3) := by decide +kernel
theorem dX12_isName_20 : decode cX12_isName 20 = .ok (.aload_n 0, 1) := by decide +kernel
theorem dX12_isName_21 : decode cX12_isName 21 = .ok (.iconst 0, 1) := by decide +kernel
theorem dX12_isName_22 : decode cX12_isName 22 = .ok (.bipush 29, 2) := by decide +kernel
theorem dX12_isName_24 : decode cX12_isName 24 = .ok (.invokevirtual 220, 3) := by decide +kernel
theorem dX12_isName_27 : decode cX12_isName 27 = .ok (.ifCond .ge 7, 3) := by decide +kernel
theorem dX12_isName_30 : decode cX12_isName 30 = .ok (.iconst 1, 1) := by decide +kernel
theorem dX12_isName_31 : decode cX12_isName 31 = .ok (.goto 4, 3) := by decide +kernel
theorem dX12_isName_34 : decode cX12_isName 34 = .ok (.iconst 0, 1) := by decide +kernel
theorem dX12_isName_35 : decode cX12_isName 35 = .ok (.ireturn, 1) := by decide +kernel
theorem dX12_find_0 : decode cX12_find 0 = .ok (.iconst 0, 1) := by decide +kernel
theorem dX12_find_1 : decode cX12_find 1 = .ok (.istore_n 1, 1) := by decide +kernel
theorem dX12_find_2 : decode cX12_find 2 = .ok (.iload_n 1, 1) := by decide +kernel
theorem dX12_find_3 : decode cX12_find 3 = .ok (.aload_n 0, 1) := by decide +kernel
theorem dX12_find_4 : decode cX12_find 4 = .ok (.getfield 223, 3) := by decide +kernel
theorem dX12_find_7 : decode cX12_find 7 = .ok (.ifCond .eq 10, 3) := by decide +kernel
theorem dX12_find_10 : decode cX12_find 10 = .ok (.aload_n 0, 1) := by decide +kernel
theorem dX12_find_11 : decode cX12_find 11 = .ok (.getfield 227, 3) := by decide +kernel
theorem dX12_find_14 : decode cX12_find 14 = .ok (.goto 7, 3) := by decide +kernel
theorem dX12_find_17 : decode cX12_find 17 = .ok (.aload_n 0, 1) := by decide +kernel
theorem dX12_find_18 : decode cX12_find 18 = .ok (.getfield 230, 3) := by decide +kernel
theorem dX12_find_21 : decode cX12_find 21 = .ok (.if_icmp .ge 67, 3) := by decide +kernel
theorem dX12_find_24 : decode cX12_find 24 = .ok (.aload_n 0, 1) := by decide +kernel
theorem dX12_find_25 : decode cX12_find 25 = .ok (.getfield 223, 3) := by decide +kernel
theorem dX12_find_28 : decode cX12_find 28 = .ok (.ifCond .eq 12, 3) := by decide +kernel
theorem dX12_find_31 : decode cX12_find 31 = .ok (.aload_n 0, 1) := by decide +kernel
theorem dX12_find_32 : decode cX12_find 32 = .ok (.getfield 113, 3) := by decide +kernel
theorem dX12_find_35 : decode cX12_find 35 = .ok (.iload_n 1, 1) := by decide +kernel
theorem dX12_find_36 : decode cX12_find 36 = .ok (.laload, 1) := by decide +kernel
theorem dX12_find_37 : decode cX12_find 37 = .ok (.goto 9, 3) := by decide +kernel
theorem dX12_find_40 : decode cX12_find 40 = .ok (.aload_n 0, 1) := by decide +kernel
theorem dX12_find_41 : decode cX12_find 41 = .ok (.getfield 110, 3) := by decide +kernel
theorem dX12_find_44 : decode cX12_find 44 = .ok (.iload_n 1, 1) := by decide +kernel
theorem dX12_find_45 : decode cX12_find 45 = .ok (.laload, 1) := by decide +kernel
theorem dX12_find_46 : decode cX12_find 46 = .ok (.aload_n 0, 1) := by decide +kernel
theorem dX12_find_47 : decode cX12_find 47 = .ok (.getfield 30, 3) := by decide +kernel
theorem dX12_find_50 : decode cX12_find 50 = .ok (.aload_n 0, 1) := by decide +kernel
theorem dX12_find_51 : decode cX12_find 51 = .ok (.getfield 195, 3) := by decide +kernel
theorem dX12_find_54 : decode cX12_find 54 = .ok (.laload, 1) := by decide +kernel
theorem dX12_find_55 : decode cX12_find 55 = .ok (.lcmp, 1) := by decide +kernel
theorem dX12_find_56 : decode cX12_find 56 = .ok (.ifCond .ne 26, 3) := by decide +kernel
theorem dX12_find_59 : decode cX12_find 59 = .ok (.aload_n 0, 1) := by decide +kernel
theorem dX12_find_60 : decode cX12_find 60 = .ok (.getfield 223, 3) := by decide +kernel
theorem dX12_find_63 : decode cX12_find 63 = .ok (.ifCond .eq 12, 3) := by decide +kernel
theorem dX12_find_66 : decode cX12_find 66 = .ok (.aload_n 0, 1) := by decide +kernel
theorem dX12_find_67 : decode cX12_find 67 = .ok (.getfield 119, 3) := by decide +kernel
theorem dX12_find_70 : decode cX12_find 70 = .ok (.iload_n 1, 1) := by decide +kernel
theorem dX12_find_71 : decode cX12_find 71 = .ok (.iaload, 1) := by decide +kernel
theorem dX12_find_72 : decode cX12_find 72 = .ok (.goto 9, 3) := by decide +kernel
theorem dX12_find_75 : decode cX12_find 75 = .ok (.aload_n 0, 1) := by decide +kernel
theorem dX12_find_76 : decode cX12_find 76 = .ok (.getfield 116, 3) := by decide +kernel
theorem dX12_find_79 : decode cX12_find 79 = .ok (.iload_n 1, 1) := by decide +kernel
theorem dX12_find_80 : decode cX12_find 80 = .ok (.iaload, 1) := by decide +kernel
theorem dX12_find_81 : decode cX12_find 81 = .ok (.ireturn, 1) := by decide +kernel
theorem dX12_find_82 : decode cX12_find 82 = .ok (.iinc 1 1, 3) := by decide +kernel
theorem dX12_find_85 : decode cX12_find 85 = .ok (.goto (-83), 3) := by decide +kernel
theorem dX12_find_88 : decode cX12_find 88 = .ok (.iconst (-1), 1) := by decide +kernel
theorem dX12_find_89 : decode cX12_find 89 = .ok (.ireturn, 1) := by decide +kernel
set_option maxRecDepth 20000 in
theorem gX12_toldHere_X12_isName : GoodIn wsX12_toldHere (wsV RX12 233 RX12 yX12_isName wsX12_isName) := goodIn_r _ [2, 3, 4, 5, 6, 1, 7, 8, 9, 10, 11, 5, 12, 13, 14, 15, 16, 17, 18, 38, 39, 40, 41, 42, 43, 44, 45, 46, 47, 48, 49, 50, 51, 52, 53, 54, 55, 56, 57, 58, 59, 60, 61, 62, 63, 64, 65, 66, 67, 68, 69, 70, 71, 72, 73, 74, 75, 76] rfl (by decide +kernel)
set_option maxRecDepth 20000 in
theorem gX12_toldHere_X12_wrong : GoodIn wsX12_toldHere (wsV RX12 204 RX12 yX12_wrong wsX12_wrong) := goodIn_r _ [19, 20, 21, 5, 22, 1, 23, 8, 38, 39, 40, 41, 42, 43, 44, 45, 46, 47, 48, 49, 50, 51, 52, 53, 54, 55, 56, 57, 58, 59, 60, 61, 62, 63, 64, 65, 66, 67, 68, 69, 70, 71, 72, 73, 74, 75, 76] rfl (by decide +kernel)
set_option maxRecDepth 20000 in
theorem gX12_toldHere_X12_find : GoodIn wsX12_toldHere (wsV RX12 237 RX12 yX12_find wsX12_find) := goodIn_r _ [24, 25, 26, 5, 27, 28, 29, 30, 31, 32, 17, 8, 33, 34, 38, 39, 40, 41, 42, 43, 44, 45, 46, 47, 48, 49, 50, 51, 52, 53, 54, 55, 56, 57, 58, 59, 60, 61, 62, 63, 64, 65, 66, 67, 68, 69, 70, 71, 72, 73, 74, 75, 76] rfl (by decide +kernel)
set_option maxRecDepth 20000 in
theorem gX12_toldHere_X12_within : GoodIn wsX12_toldHere (va_wsS RX12 241 yX12_within wsX12_within) := goodIn_r _ [35, 36, 5, 37] rfl (by decide +kernel)
theorem dX12_toldHere_0 : decode cX12_toldHere 0 = .ok (.aload_n 0, 1) := by decide +kernel
theorem dX12_toldHere_1 : decode cX12_toldHere 1 = .ok (.getfield 198, 3) := by decide +kernel
theorem dX12_toldHere_4 : decode cX12_toldHere 4 = .ok (.ifCond .ne 15, 3) := by decide +kernel
theorem dX12_toldHere_7 : decode cX12_toldHere 7 = .ok (.aload_n 0, 1) := by decide +kernel
theorem dX12_toldHere_8 : decode cX12_toldHere 8 = .ok (.invokevirtual 233, 3) := by decide +kernel
theorem dX12_toldHere_11 : decode cX12_toldHere 11 = .ok (.ifCond .ne 8, 3) := by decide +kernel
theorem dX12_toldHere_14 : decode cX12_toldHere 14 = .ok (.aload_n 0, 1) := by decide +kernel
theorem dX12_toldHere_15 : decode cX12_toldHere 15 = .ok (.iconst 1, 1) := by decide +kernel
theorem dX12_toldHere_16 : decode cX12_toldHere 16 = .ok (.invokevirtual 204, 3) := by decide +kernel
theorem dX12_toldHere_19 : decode cX12_toldHere 19 = .ok (.aload_n 0, 1) := by decide +kernel
theorem dX12_toldHere_20 : decode cX12_toldHere 20 = .ok (.getfield 198, 3) := by decide +kernel
theorem dX12_toldHere_23 : decode cX12_toldHere 23 = .ok (.ifCond .le 7, 3) := by decide +kernel
theorem dX12_toldHere_26 : decode cX12_toldHere 26 = .ok (.iconst (-1), 1) := by decide +kernel
theorem dX12_toldHere_27 : decode cX12_toldHere 27 = .ok (.goto 9, 3) := by decide +kernel
theorem dX12_toldHere_30 : decode cX12_toldHere 30 = .ok (.aload_n 0, 1) := by decide +kernel
theorem dX12_toldHere_31 : decode cX12_toldHere 31 = .ok (.invokevirtual 237, 3) := by decide +kernel
theorem dX12_toldHere_34 : decode cX12_toldHere 34 = .ok (.iload_n 1, 1) := by decide +kernel
theorem dX12_toldHere_35 : decode cX12_toldHere 35 = .ok (.isub, 1) := by decide +kernel
theorem dX12_toldHere_36 : decode cX12_toldHere 36 = .ok (.istore_n 3, 1) := by decide +kernel
theorem dX12_toldHere_37 : decode cX12_toldHere 37 = .ok (.aload_n 0, 1) := by decide +kernel
theorem dX12_toldHere_38 : decode cX12_toldHere 38 = .ok (.getfield 198, 3) := by decide +kernel
theorem dX12_toldHere_41 : decode cX12_toldHere 41 = .ok (.ifCond .ne 19, 3) := by decide +kernel
theorem dX12_toldHere_44 : decode cX12_toldHere 44 = .ok (.iload_n 3, 1) := by decide +kernel
theorem dX12_toldHere_45 : decode cX12_toldHere 45 = .ok (.iconst 0, 1) := by decide +kernel
theorem dX12_toldHere_46 : decode cX12_toldHere 46 = .ok (.iload_n 2, 1) := by decide +kernel
theorem dX12_toldHere_47 : decode cX12_toldHere 47 = .ok (.iconst 1, 1) := by decide +kernel
theorem dX12_toldHere_48 : decode cX12_toldHere 48 = .ok (.isub, 1) := by decide +kernel
theorem dX12_toldHere_49 : decode cX12_toldHere 49 = .ok (.invokestatic 241, 3) := by decide +kernel
theorem dX12_toldHere_52 : decode cX12_toldHere 52 = .ok (.ifCond .ne 8, 3) := by decide +kernel
theorem dX12_toldHere_55 : decode cX12_toldHere 55 = .ok (.aload_n 0, 1) := by decide +kernel
theorem dX12_toldHere_56 : decode cX12_toldHere 56 = .ok (.iconst 2, 1) := by decide +kernel
theorem dX12_toldHere_57 : decode cX12_toldHere 57 = .ok (.invokevirtual 204, 3) := by decide +kernel
theorem dX12_toldHere_60 : decode cX12_toldHere 60 = .ok (.aload_n 0, 1) := by decide +kernel
theorem dX12_toldHere_61 : decode cX12_toldHere 61 = .ok (.getfield 198, 3) := by decide +kernel
theorem dX12_toldHere_64 : decode cX12_toldHere 64 = .ok (.ifCond .le 7, 3) := by decide +kernel
theorem dX12_toldHere_67 : decode cX12_toldHere 67 = .ok (.iconst 0, 1) := by decide +kernel
theorem dX12_toldHere_68 : decode cX12_toldHere 68 = .ok (.goto 4, 3) := by decide +kernel
theorem dX12_toldHere_71 : decode cX12_toldHere 71 = .ok (.iload_n 3, 1) := by decide +kernel
theorem dX12_toldHere_72 : decode cX12_toldHere 72 = .ok (.ireturn, 1) := by decide +kernel
set_option maxRecDepth 20000 in
theorem gX12_takeTold_X12_toldHere : GoodIn wsX12_takeTold (wsV RX12 245 RX12 yX12_toldHere wsX12_toldHere) := goodIn_r _ [3, 4, 5, 6, 7, 2, 8, 9, 10, 6, 11, 12, 1, 13, 14, 15, 16, 17, 18, 19, 20, 21, 22, 23, 24, 25, 26, 27, 28, 29, 30, 31, 32, 33, 34, 35, 36, 37, 38, 39, 40, 41, 42, 43, 44, 45, 46, 47, 48, 49, 50, 51, 52, 53, 54, 55, 56, 57, 58, 59, 60, 61, 62, 63, 64, 65, 66, 67, 68, 69, 70, 71, 72, 73, 74, 75, 76, 77, 78, 79, 80] rfl (by decide +kernel)
theorem dX12_takeTold_0 : decode cX12_takeTold 0 = .ok (.aload_n 0, 1) := by decide +kernel
theorem dX12_takeTold_1 : decode cX12_takeTold 1 = .ok (.iload_n 1, 1) := by decide +kernel
theorem dX12_takeTold_2 : decode cX12_takeTold 2 = .ok (.iload_n 2, 1) := by decide +kernel
theorem dX12_takeTold_3 : decode cX12_takeTold 3 = .ok (.invokevirtual 245, 3) := by decide +kernel
theorem dX12_takeTold_6 : decode cX12_takeTold 6 = .ok (.istore_n 3, 1) := by decide +kernel
theorem dX12_takeTold_7 : decode cX12_takeTold 7 = .ok (.aload_n 0, 1) := by decide +kernel
theorem dX12_takeTold_8 : decode cX12_takeTold 8 = .ok (.dup, 1) := by decide +kernel
theorem dX12_takeTold_9 : decode cX12_takeTold 9 = .ok (.getfield 195, 3) := by decide +kernel
theorem dX12_takeTold_12 : decode cX12_takeTold 12 = .ok (.aload_n 0, 1) := by decide +kernel
theorem dX12_takeTold_13 : decode cX12_takeTold 13 = .ok (.getfield 198, 3) := by decide +kernel
theorem dX12_takeTold_16 : decode cX12_takeTold 16 = .ok (.ifCond .le 7, 3) := by decide +kernel
theorem dX12_takeTold_19 : decode cX12_takeTold 19 = .ok (.iconst 0, 1) := by decide +kernel
theorem dX12_takeTold_20 : decode cX12_takeTold 20 = .ok (.goto 4, 3) := by decide +kernel
theorem dX12_takeTold_23 : decode cX12_takeTold 23 = .ok (.iconst 1, 1) := by decide +kernel
theorem dX12_takeTold_24 : decode cX12_takeTold 24 = .ok (.iadd, 1) := by decide +kernel
theorem dX12_takeTold_25 : decode cX12_takeTold 25 = .ok (.putfield 195, 3) := by decide +kernel
theorem dX12_takeTold_28 : decode cX12_takeTold 28 = .ok (.iload_n 3, 1) := by decide +kernel
theorem dX12_takeTold_29 : decode cX12_takeTold 29 = .ok (.ireturn, 1) := by decide +kernel
set_option maxRecDepth 20000 in
theorem gX12_readName_X12_isName : GoodIn wsX12_readName (wsV RX12 233 RX12 yX12_isName wsX12_isName) := goodIn_r _ [7, 8, 9, 10, 11, 2, 12, 1, 13, 14, 15, 10, 16, 17, 18, 19, 20, 5, 21, 35, 36, 37, 38, 39, 40, 41, 42, 43, 44, 45, 46, 47, 48, 49, 50, 51, 52, 53, 54, 55, 56, 57, 58, 59, 60, 61, 62, 63, 64, 65, 66, 67, 68, 69, 70, 71, 72, 73] rfl (by decide +kernel)
set_option maxRecDepth 20000 in
theorem gX12_readName_X12_wrong : GoodIn wsX12_readName (wsV RX12 204 RX12 yX12_wrong wsX12_wrong) := goodIn_r _ [22, 23, 24, 10, 25, 2, 26, 1, 35, 36, 37, 38, 39, 40, 41, 42, 43, 44, 45, 46, 47, 48, 49, 50, 51, 52, 53, 54, 55, 56, 57, 58, 59, 60, 61, 62, 63, 64, 65, 66, 67, 68, 69, 70, 71, 72, 73] rfl (by decide +kernel)
set_option maxRecDepth 20000 in
theorem gX12_readName_X12_find : GoodIn wsX12_readName (wsV RX12 237 RX12 yX12_find wsX12_find) := goodIn_r _ [27, 28, 29, 10, 30, 31, 4, 32, 3, 33, 5, 1, 6, 34, 35, 36, 37, 38, 39, 40, 41, 42, 43, 44, 45, 46, 47, 48, 49, 50, 51, 52, 53, 54, 55, 56, 57, 58, 59, 60, 61, 62, 63, 64, 65, 66, 67, 68, 69, 70, 71, 72, 73] rfl (by decide +kernel)
theorem dX12_readName_0 : decode cX12_readName 0 = .ok (.aload_n 0, 1) := by decide +kernel
theorem dX12_readName_1 : decode cX12_readName 1 = .ok (.dup, 1) := by decide +kernel
theorem dX12_readName_2 : decode cX12_readName 2 = .ok (.getfield 195, 3) := by decide +kernel
theorem dX12_readName_5 : decode cX12_readName 5 = .ok (.iconst 1, 1) := by decide +kernel
theorem dX12_readName_6 : decode cX12_readName 6 = .ok (.iadd, 1) := by decide +kernel
theorem dX12_readName_7 : decode cX12_readName 7 = .ok (.putfield 195, 3) := by decide +kernel
theorem dX12_readName_10 : decode cX12_readName 10 = .ok (.aload_n 0, 1) := by decide +kernel
theorem dX12_readName_11 : decode cX12_readName 11 = .ok (.invokevirtual 233, 3) := by decide +kernel
theorem dX12_readName_14 : decode cX12_readName 14 = .ok (.ifCond .ne 11, 3) := by decide +kernel
theorem dX12_readName_17 : decode cX12_readName 17 = .ok (.aload_n 0, 1) := by decide +kernel
theorem dX12_readName_18 : decode cX12_readName 18 = .ok (.iconst 1, 1) := by decide +kernel
theorem dX12_readName_19 : decode cX12_readName 19 = .ok (.invokevirtual 204, 3) := by decide +kernel
theorem dX12_readName_22 : decode cX12_readName 22 = .ok (.goto 15, 3) := by decide +kernel
theorem dX12_readName_25 : decode cX12_readName 25 = .ok (.aload_n 0, 1) := by decide +kernel
theorem dX12_readName_26 : decode cX12_readName 26 = .ok (.invokevirtual 237, 3) := by decide +kernel
theorem dX12_readName_29 : decode cX12_readName 29 = .ok (.ifCond .lt 8, 3) := by decide +kernel
theorem dX12_readName_32 : decode cX12_readName 32 = .ok (.aload_n 0, 1) := by decide +kernel
theorem dX12_readName_33 : decode cX12_readName 33 = .ok (.iconst 3, 1) := by decide +kernel
theorem dX12_readName_34 : decode cX12_readName 34 = .ok (.invokevirtual 204, 3) := by decide +kernel
theorem dX12_readName_37 : decode cX12_readName 37 = .ok (.aload_n 0, 1) := by decide +kernel
theorem dX12_readName_38 : decode cX12_readName 38 = .ok (.getfield 198, 3) := by decide +kernel
theorem dX12_readName_41 : decode cX12_readName 41 = .ok (.ifCond .ne 51, 3) := by decide +kernel
theorem dX12_readName_44 : decode cX12_readName 44 = .ok (.aload_n 0, 1) := by decide +kernel
theorem dX12_readName_45 : decode cX12_readName 45 = .ok (.getfield 113, 3) := by decide +kernel
theorem dX12_readName_48 : decode cX12_readName 48 = .ok (.aload_n 0, 1) := by decide +kernel
theorem dX12_readName_49 : decode cX12_readName 49 = .ok (.getfield 227, 3) := by decide +kernel
theorem dX12_readName_52 : decode cX12_readName 52 = .ok (.aload_n 0, 1) := by decide +kernel
theorem dX12_readName_53 : decode cX12_readName 53 = .ok (.getfield 30, 3) := by decide +kernel
theorem dX12_readName_56 : decode cX12_readName 56 = .ok (.aload_n 0, 1) := by decide +kernel
theorem dX12_readName_57 : decode cX12_readName 57 = .ok (.getfield 195, 3) := by decide +kernel
theorem dX12_readName_60 : decode cX12_readName 60 = .ok (.laload, 1) := by decide +kernel
theorem dX12_readName_61 : decode cX12_readName 61 = .ok (.lastore, 1) := by decide +kernel
theorem dX12_readName_62 : decode cX12_readName 62 = .ok (.aload_n 0, 1) := by decide +kernel
theorem dX12_readName_63 : decode cX12_readName 63 = .ok (.getfield 119, 3) := by decide +kernel
theorem dX12_readName_66 : decode cX12_readName 66 = .ok (.aload_n 0, 1) := by decide +kernel
theorem dX12_readName_67 : decode cX12_readName 67 = .ok (.getfield 227, 3) := by decide +kernel
theorem dX12_readName_70 : decode cX12_readName 70 = .ok (.iload_n 1, 1) := by decide +kernel
theorem dX12_readName_71 : decode cX12_readName 71 = .ok (.iastore, 1) := by decide +kernel
theorem dX12_readName_72 : decode cX12_readName 72 = .ok (.aload_n 0, 1) := by decide +kernel
theorem dX12_readName_73 : decode cX12_readName 73 = .ok (.dup, 1) := by decide +kernel
theorem dX12_readName_74 : decode cX12_readName 74 = .ok (.getfield 227, 3) := by decide +kernel
theorem dX12_readName_77 : decode cX12_readName 77 = .ok (.iconst 1, 1) := by decide +kernel
theorem dX12_readName_78 : decode cX12_readName 78 = .ok (.iadd, 1) := by decide +kernel
theorem dX12_readName_79 : decode cX12_readName 79 = .ok (.putfield 227, 3) := by decide +kernel
theorem dX12_readName_82 : decode cX12_readName 82 = .ok (.aload_n 0, 1) := by decide +kernel
theorem dX12_readName_83 : decode cX12_readName 83 = .ok (.dup, 1) := by decide +kernel
theorem dX12_readName_84 : decode cX12_readName 84 = .ok (.getfield 195, 3) := by decide +kernel
theorem dX12_readName_87 : decode cX12_readName 87 = .ok (.iconst 1, 1) := by decide +kernel
theorem dX12_readName_88 : decode cX12_readName 88 = .ok (.iadd, 1) := by decide +kernel
theorem dX12_readName_89 : decode cX12_readName 89 = .ok (.putfield 195, 3) := by decide +kernel
theorem dX12_readName_92 : decode cX12_readName 92 = .ok (.return_, 1) := by decide +kernel
set_option maxRecDepth 20000 in
theorem gX12_readGuest_X12_wrong : GoodIn wsX12_readGuest (wsV RX12 204 RX12 yX12_wrong wsX12_wrong) := goodIn_r _ [2, 3, 4, 5, 6, 7, 8, 9, 60, 61, 62, 63, 64, 65, 66, 67, 68, 69, 70, 71, 72, 73, 74, 75, 76, 77, 78, 79, 80, 81, 82, 83, 84, 85, 86, 87, 88, 89, 90, 91, 92, 93, 94, 95, 96, 97, 98] rfl (by decide +kernel)
set_option maxRecDepth 20000 in
theorem gX12_readGuest_X12_readName : GoodIn wsX12_readGuest (wsV RX12 275 RX12 yX12_readName wsX12_readName) := goodIn_r _ [10, 11, 12, 5, 13, 9, 7, 14, 15, 16, 17, 18, 19, 20, 5, 21, 22, 23, 24, 25, 26, 27, 28, 29, 30, 31, 2, 3, 4, 6, 8, 32, 33, 34, 35, 36, 37, 38, 39, 60, 61, 62, 63, 64, 65, 66, 67, 68, 69, 70, 71, 72, 73, 74, 75, 76, 77, 78, 79, 80, 81, 82, 83, 84, 85, 86, 87, 88, 89, 90, 91, 92, 93, 94, 95, 96, 97, 98] rfl (by decide +kernel)
set_option maxRecDepth 20000 in
theorem gX12_readGuest_X12_takeOne : GoodIn wsX12_readGuest (wsV RX12 278 RX12 yX12_takeOne wsX12_takeOne) := goodIn_r _ [40, 41, 42, 5, 43, 7, 9, 23, 24, 25, 5, 26, 27, 28, 29, 30, 22, 16, 31, 2, 3, 4, 6, 8, 60, 61, 62, 63, 64, 65, 66, 67, 68, 69, 70, 71, 72, 73, 74, 75, 76, 77, 78, 79, 80, 81, 82, 83, 84, 85, 86, 87, 88, 89, 90, 91, 92, 93, 94, 95, 96, 97, 98] rfl (by decide +kernel)
set_option maxRecDepth 20000 in
theorem gX12_readGuest_X12_takeAfter : GoodIn wsX12_readGuest (wsV RX12 281 RX12 yX12_takeAfter wsX12_takeAfter) := goodIn_r _ [44, 45, 46, 5, 47, 48, 49, 50, 5, 51, 52, 53, 54, 55, 9, 27, 28, 29, 30, 7, 22, 16, 31, 2, 3, 4, 6, 8, 56, 57, 58, 59, 60, 61, 62, 63, 64, 65, 66, 67, 68, 69, 70, 71, 72, 73, 74, 75, 76, 77, 78, 79, 80, 81, 82, 83, 84, 85, 86, 87, 88, 89, 90, 91, 92, 93, 94, 95, 96, 97, 98] rfl (by decide +kernel)
theorem dX12_readGuest_0 : decode cX12_readGuest 0 = .ok (.aload_n 0, 1) := by decide +kernel
theorem dX12_readGuest_1 : decode cX12_readGuest 1 = .ok (.getfield 101, 3) := by decide +kernel
theorem dX12_readGuest_4 : decode cX12_readGuest 4 = .ok (.bipush 60, 2) := by decide +kernel
theorem dX12_readGuest_6 : decode cX12_readGuest 6 = .ok (.iaload, 1) := by decide +kernel
theorem dX12_readGuest_7 : decode cX12_readGuest 7 = .ok (.istore_n 1, 1) := by decide +kernel
theorem dX12_readGuest_8 : decode cX12_readGuest 8 = .ok (.iload_n 1, 1) := by decide +kernel
theorem dX12_readGuest_9 : decode cX12_readGuest 9 = .ok (.bipush 8, 2) := by decide +kernel
theorem dX12_readGuest_11 : decode cX12_readGuest 11 = .ok (.if_icmp .ne 9, 3) := by decide +kernel
theorem dX12_readGuest_14 : decode cX12_readGuest 14 = .ok (.aload_n 0, 1) := by decide +kernel
theorem dX12_readGuest_15 : decode cX12_readGuest 15 = .ok (.iconst 5, 1) := by decide +kernel
theorem dX12_readGuest_16 : decode cX12_readGuest 16 = .ok (.invokevirtual 204, 3) := by decide +kernel
theorem dX12_readGuest_19 : decode cX12_readGuest 19 = .ok (.return_, 1) := by decide +kernel
theorem dX12_readGuest_20 : decode cX12_readGuest 20 = .ok (.aload_n 0, 1) := by decide +kernel
theorem dX12_readGuest_21 : decode cX12_readGuest 21 = .ok (.iload_n 1, 1) := by decide +kernel
theorem dX12_readGuest_22 : decode cX12_readGuest 22 = .ok (.invokevirtual 275, 3) := by decide +kernel
theorem dX12_readGuest_25 : decode cX12_readGuest 25 = .ok (.bipush 63, 2) := by decide +kernel
theorem dX12_readGuest_27 : decode cX12_readGuest 27 = .ok (.iconst 5, 1) := by decide +kernel
theorem dX12_readGuest_28 : decode cX12_readGuest 28 = .ok (.iload_n 1, 1) := by decide +kernel
theorem dX12_readGuest_29 : decode cX12_readGuest 29 = .ok (.imul, 1) := by decide +kernel
theorem dX12_readGuest_30 : decode cX12_readGuest 30 = .ok (.iadd, 1) := by decide +kernel
theorem dX12_readGuest_31 : decode cX12_readGuest 31 = .ok (.istore_n 2, 1) := by decide +kernel
theorem dX12_readGuest_32 : decode cX12_readGuest 32 = .ok (.aload_n 0, 1) := by decide +kernel
theorem dX12_readGuest_33 : decode cX12_readGuest 33 = .ok (.getfield 101, 3) := by decide +kernel
theorem dX12_readGuest_36 : decode cX12_readGuest 36 = .ok (.iload_n 2, 1) := by decide +kernel
theorem dX12_readGuest_37 : decode cX12_readGuest 37 = .ok (.aload_n 0, 1) := by decide +kernel
theorem dX12_readGuest_38 : decode cX12_readGuest 38 = .ok (.bipush 14, 2) := by decide +kernel
theorem dX12_readGuest_40 : decode cX12_readGuest 40 = .ok (.iconst 4, 1) := by decide +kernel
theorem dX12_readGuest_41 : decode cX12_readGuest 41 = .ok (.invokevirtual 278, 3) := by decide +kernel
theorem dX12_readGuest_44 : decode cX12_readGuest 44 = .ok (.iastore, 1) := by decide +kernel
theorem dX12_readGuest_45 : decode cX12_readGuest 45 = .ok (.aload_n 0, 1) := by decide +kernel
theorem dX12_readGuest_46 : decode cX12_readGuest 46 = .ok (.getfield 101, 3) := by decide +kernel
theorem dX12_readGuest_49 : decode cX12_readGuest 49 = .ok (.iload_n 2, 1) := by decide +kernel
theorem dX12_readGuest_50 : decode cX12_readGuest 50 = .ok (.iconst 1, 1) := by decide +kernel
theorem dX12_readGuest_51 : decode cX12_readGuest 51 = .ok (.iadd, 1) := by decide +kernel
theorem dX12_readGuest_52 : decode cX12_readGuest 52 = .ok (.aload_n 0, 1) := by decide +kernel
theorem dX12_readGuest_53 : decode cX12_readGuest 53 = .ok (.iconst 1, 1) := by decide +kernel
theorem dX12_readGuest_54 : decode cX12_readGuest 54 = .ok (.iconst 1, 1) := by decide +kernel
theorem dX12_readGuest_55 : decode cX12_readGuest 55 = .ok (.bipush 12, 2) := by decide +kernel
theorem dX12_readGuest_57 : decode cX12_readGuest 57 = .ok (.invokevirtual 281, 3) := by decide +kernel
theorem dX12_readGuest_60 : decode cX12_readGuest 60 = .ok (.iastore, 1) := by decide +kernel
theorem dX12_readGuest_61 : decode cX12_readGuest 61 = .ok (.aload_n 0, 1) := by decide +kernel
theorem dX12_readGuest_62 : decode cX12_readGuest 62 = .ok (.getfield 101, 3) := by decide +kernel
theorem dX12_readGuest_65 : decode cX12_readGuest 65 = .ok (.iload_n 2, 1) := by decide +kernel
theorem dX12_readGuest_66 : decode cX12_readGuest 66 = .ok (.iconst 2, 1) := by decide +kernel
theorem dX12_readGuest_67 : decode cX12_readGuest 67 = .ok (.iadd, 1) := by decide +kernel
theorem dX12_readGuest_68 : decode cX12_readGuest 68 = .ok (.aload_n 0, 1) := by decide +kernel
theorem dX12_readGuest_69 : decode cX12_readGuest 69 = .ok (.iconst 2, 1) := by decide +kernel
theorem dX12_readGuest_70 : decode cX12_readGuest 70 = .ok (.iconst 1, 1) := by decide +kernel
theorem dX12_readGuest_71 : decode cX12_readGuest 71 = .ok (.bipush 99, 2) := by decide +kernel
theorem dX12_readGuest_73 : decode cX12_readGuest 73 = .ok (.invokevirtual 281, 3) := by decide +kernel
theorem dX12_readGuest_76 : decode cX12_readGuest 76 = .ok (.iastore, 1) := by decide +kernel
theorem dX12_readGuest_77 : decode cX12_readGuest 77 = .ok (.aload_n 0, 1) := by decide +kernel
theorem dX12_readGuest_78 : decode cX12_readGuest 78 = .ok (.getfield 101, 3) := by decide +kernel
theorem dX12_readGuest_81 : decode cX12_readGuest 81 = .ok (.bipush 60, 2) := by decide +kernel
theorem dX12_readGuest_83 : decode cX12_readGuest 83 = .ok (.dup2, 1) := by decide +kernel
theorem dX12_readGuest_84 : decode cX12_readGuest 84 = .ok (.iaload, 1) := by decide +kernel
theorem dX12_readGuest_85 : decode cX12_readGuest 85 = .ok (.iconst 1, 1) := by decide +kernel
theorem dX12_readGuest_86 : decode cX12_readGuest 86 = .ok (.iadd, 1) := by decide +kernel
theorem dX12_readGuest_87 : decode cX12_readGuest 87 = .ok (.iastore, 1) := by decide +kernel
theorem dX12_readGuest_88 : decode cX12_readGuest 88 = .ok (.return_, 1) := by decide +kernel
theorem dX12_emit_0 : decode cX12_emit 0 = .ok (.aload_n 0, 1) := by decide +kernel
theorem dX12_emit_1 : decode cX12_emit 1 = .ok (.getfield 104, 3) := by decide +kernel
theorem dX12_emit_4 : decode cX12_emit 4 = .ok (.sipush 2200, 3) := by decide +kernel
theorem dX12_emit_7 : decode cX12_emit 7 = .ok (.aload_n 0, 1) := by decide +kernel
theorem dX12_emit_8 : decode cX12_emit 8 = .ok (.getfield 251, 3) := by decide +kernel
theorem dX12_emit_11 : decode cX12_emit 11 = .ok (.iadd, 1) := by decide +kernel
theorem dX12_emit_12 : decode cX12_emit 12 = .ok (.iload_n 1, 1) := by decide +kernel
theorem dX12_emit_13 : decode cX12_emit 13 = .ok (.iastore, 1) := by decide +kernel
theorem dX12_emit_14 : decode cX12_emit 14 = .ok (.aload_n 0, 1) := by decide +kernel
theorem dX12_emit_15 : decode cX12_emit 15 = .ok (.getfield 107, 3) := by decide +kernel
theorem dX12_emit_18 : decode cX12_emit 18 = .ok (.sipush 2200, 3) := by decide +kernel
theorem dX12_emit_21 : decode cX12_emit 21 = .ok (.aload_n 0, 1) := by decide +kernel
theorem dX12_emit_22 : decode cX12_emit 22 = .ok (.getfield 251, 3) := by decide +kernel
theorem dX12_emit_25 : decode cX12_emit 25 = .ok (.iadd, 1) := by decide +kernel
theorem dX12_emit_26 : decode cX12_emit 26 = .ok (.iload_n 2, 1) := by decide +kernel
theorem dX12_emit_27 : decode cX12_emit 27 = .ok (.iastore, 1) := by decide +kernel
theorem dX12_emit_28 : decode cX12_emit 28 = .ok (.aload_n 0, 1) := by decide +kernel
theorem dX12_emit_29 : decode cX12_emit 29 = .ok (.dup, 1) := by decide +kernel
theorem dX12_emit_30 : decode cX12_emit 30 = .ok (.getfield 251, 3) := by decide +kernel
theorem dX12_emit_33 : decode cX12_emit 33 = .ok (.iconst 1, 1) := by decide +kernel
theorem dX12_emit_34 : decode cX12_emit 34 = .ok (.iadd, 1) := by decide +kernel
theorem dX12_emit_35 : decode cX12_emit 35 = .ok (.putfield 251, 3) := by decide +kernel
theorem dX12_emit_38 : decode cX12_emit 38 = .ok (.return_, 1) := by decide +kernel
section
variable {p : Program} {l : Launch} {e : Env} {s : State} {m : MethodId} {args : Array Value} {below : List Frame} {meth : Method} {c : Code} {D : va_G} {cy : Nat → ClassId} {ad : Nat → Nat} {A : Nat → Prop} {aM aB aO aI aN aT aC aG aR aQ aK aL aX aH aJ aP aU aE0 aE1 aE2 aE3 : Nat → Nat} {gi : Value}
abbrev rm12_hasWord : Room := { frames := 1, cells := 0, slots := 0, locals := 21 }
theorem hdV12_hasWord : yX12_hasWord.cls = RX12 ∧ (yX12_hasWord.cls ≠ "java/lang/invoke/MethodHandle" ∧ yX12_hasWord.cls ≠ "java/lang/invoke/VarHandle" ∧ (parseMethodDescriptor yX12_hasWord.desc).map (fun d => d.parameters.length) = some 1) := by decide +kernel
theorem hin12_hasWord_12 : ∀ x ∈ u_ws RX12 TX12 39, x ∈ wsX12_hasWord := fun _ h => List.mem_cons_of_mem _ (List.mem_append_right _ h)
set_option maxRecDepth 100000 in
set_option maxHeartbeats 4000000 in
theorem t12_hasWord_20 (hC : Cx p s m args meth c cX12_hasWord 3 wsX12_hasWord RX12 (some .boolean)) : ∀ (x2 : Int32) (z1 : Int32) (z2 : Int32) (SM : Ob) (res : Int32 × Ob) (H : Heap) (locs : List Loc) (ls : Array Slot), f12_hasWord_20 x2 z1 z2 SM = some res → GW D cy ad (w12 cy aM SM) A s H locs → lv_has ls 3 [(2, .int x2)] → W p l e rm12_hasWord s m args below meth c H locs 0 0 (MQ below (QI D cy (w12 cy aM (res.2)) A (res.1)) args s 0 0 A) (F0 m 20 ls [.int z2, .int z1, .ref (aM 0)]) := by
  intro x2 z1 z2 SM res H locs ls hf hW hl
  unfold f12_hasWord_20 at hf
  refine lv_iadd hC.1 hC.2.1 dX12_hasWord_20 ?_
  obtain ⟨SM_1, eSM_1⟩ : ∃ y : Ob, y = oI SM 7 (z1 + z2) := ⟨_, rfl⟩
  have hf := lt_nm hf eSM_1
  refine g_put hC hW hin12_hasWord_12 tyX12 tyX12_ok nmX12 0 rfl rfl 7 (by decide) 1 rfl rfl rfl rfl (Nat.le_of_ble_eq_true rfl) (w' := w12 cy aM SM_1) (by rw [eSM_1]; rfl) dX12_hasWord_21 (fun H locs hW => ?_)
  refine lv_iload_n hC.1 hC.2.1 dX12_hasWord_24 rfl (lv_at hl 0 rfl) ?_
  obtain ⟨hz, hf⟩ := ck_of hf
  obtain rfl := Option.some.inj hf
  exact g_zret hC hW hz dX12_hasWord_25
set_option maxRecDepth 100000 in
set_option maxHeartbeats 4000000 in
theorem t12_hasWord_0 (hC : Cx p s m args meth c cX12_hasWord 3 wsX12_hasWord RX12 (some .boolean)) : ∀ (x1 : Int32) (SM : Ob) (res : Int32 × Ob) (H : Heap) (locs : List Loc) (ls : Array Slot), f12_hasWord x1 SM = some res → GW D cy ad (w12 cy aM SM) A s H locs → lv_has ls 3 [(0, .ref (aM 0)), (1, .int x1)] → W p l e rm12_hasWord s m args below meth c H locs 0 0 (MQ below (QI D cy (w12 cy aM (res.2)) A (res.1)) args s 0 0 A) (F0 m 0 ls []) := by
  intro x1 SM res H locs ls hf hW hl
  unfold f12_hasWord at hf
  refine lv_aload_n hC.1 hC.2.1 dX12_hasWord_0 rfl (lv_at hl 0 rfl) ?_
  refine lv_iload_n hC.1 hC.2.1 dX12_hasWord_1 rfl (lv_at hl 1 rfl) ?_
  obtain ⟨r_1, hg_2, hf⟩ := bd_of hf
  refine g_calliV hC hW (c12_isWord l D cy ad aM hg_2) (cwV 1 hC.2.2.2.2.1 gX12_hasWord_X12_isWord rfl rfl rfl hdV12_isWord ⟨Nat.le_of_ble_eq_true rfl, Nat.le_of_ble_eq_true rfl⟩) (Sub.all _ _) 0 11 rfl rfl rfl rfl hl.1 rfl (Nat.le_of_ble_eq_true rfl) dX12_hasWord_2 ⟨Nat.zero_le _, Nat.zero_le _⟩ (fun H locs hW => ?_)
  refine lv_istore_n (lv' := [(2, .int r_1), (0, .ref (aM 0)), (1, .int x1)]) hC.1 hC.2.1 dX12_hasWord_5 rfl hl (by decide) rfl (fun ls hl => ?_)
  refine lv_aload_n hC.1 hC.2.1 dX12_hasWord_6 rfl (lv_at hl 1 rfl) ?_
  refine lv_dup hC.1 hC.2.1 dX12_hasWord_7 rfl ?_
  refine g_get hC hW hin12_hasWord_12 0 rfl rfl 7 (by decide) 1 rfl rfl dX12_hasWord_8 ?_
  refine lv_iload_n hC.1 hC.2.1 dX12_hasWord_11 rfl (lv_at hl 0 rfl) ?_
  refine lv_if_eq (tgt := 19) hC.1 hC.2.1 dX12_hasWord_12 (by decide) (fun hc_3 => ?_) (fun hc_3 => ?_)
  · have hf := ite_t hf hc_3
    refine lv_iconst (v := 0) hC.1 hC.2.1 dX12_hasWord_19 (by decide) ?_
    exact t12_hasWord_20 hC  _ _ _ _ _ _ _ _ hf hW (lv_sub hl [0] rfl)
  · have hf := ite_f hf hc_3
    refine lv_iconst (v := 1) hC.1 hC.2.1 dX12_hasWord_15 (by decide) ?_
    refine lv_goto (tgt := 20) hC.1 hC.2.1 dX12_hasWord_16 (by decide) ?_
    exact t12_hasWord_20 hC  _ _ _ _ _ _ _ _ hf hW (lv_sub hl [0] rfl)
set_option maxRecDepth 100000 in
set_option maxHeartbeats 4000000 in
theorem c12_hasWord (l : Launch) (D : va_G) (cy : Nat → ClassId) (ad : Nat → Nat) (aM : Nat → Nat) {x1 : Int32} {SM : Ob} {res : Int32 × Ob} (h : f12_hasWord x1 SM = some res) : GCi l yX12_hasWord wsX12_hasWord rm12_hasWord [.ref (aM 0), .int x1] D cy ad (w12 cy aM SM) (w12 cy aM (res.2)) (res.1) := fun sz => GC.start (own := RX12) (Qc := fun A => QI D cy (w12 cy aM (res.2)) A (res.1)) sz (by decide) rfl rfl (Nat.le_of_ble_eq_true rfl) (fun p e s m below meth c A ls hC hW hl => t12_hasWord_0 hC _ _ _ _ _ _ h hW (lv_sub hl [0, 1] rfl))
abbrev rm12_takeWord : Room := { frames := 2, cells := 0, slots := 0, locals := 43 }
theorem hdV12_takeWord : yX12_takeWord.cls = RX12 ∧ (yX12_takeWord.cls ≠ "java/lang/invoke/MethodHandle" ∧ yX12_takeWord.cls ≠ "java/lang/invoke/VarHandle" ∧ (parseMethodDescriptor yX12_takeWord.desc).map (fun d => d.parameters.length) = some 1) := by decide +kernel
set_option maxRecDepth 100000 in
set_option maxHeartbeats 4000000 in
theorem t12_takeWord_13 (hC : Cx p s m args meth c cX12_takeWord 2 wsX12_takeWord RX12 none) : ∀ (SM : Ob) (res : Ob) (H : Heap) (locs : List Loc) (ls : Array Slot), f12_takeWord_13 SM = some res → GW D cy ad (w12 cy aM SM) A s H locs → lv_has ls 2 [] → W p l e rm12_takeWord s m args below meth c H locs 0 0 (MQ below (QV D cy (w12 cy aM res) A) args s 0 0 A) (F0 m 13 ls []) := by
  intro SM res H locs ls hf hW hl
  unfold f12_takeWord_13 at hf
  obtain rfl := Option.some.inj hf
  exact g_vret hC hW dX12_takeWord_13
set_option maxRecDepth 100000 in
set_option maxHeartbeats 4000000 in
theorem t12_takeWord_0 (hC : Cx p s m args meth c cX12_takeWord 2 wsX12_takeWord RX12 none) : ∀ (x1 : Int32) (SM : Ob) (res : Ob) (H : Heap) (locs : List Loc) (ls : Array Slot), f12_takeWord x1 SM = some res → GW D cy ad (w12 cy aM SM) A s H locs → lv_has ls 2 [(0, .ref (aM 0)), (1, .int x1)] → W p l e rm12_takeWord s m args below meth c H locs 0 0 (MQ below (QV D cy (w12 cy aM res) A) args s 0 0 A) (F0 m 0 ls []) := by
  intro x1 SM res H locs ls hf hW hl
  unfold f12_takeWord at hf
  refine lv_aload_n hC.1 hC.2.1 dX12_takeWord_0 rfl (lv_at hl 0 rfl) ?_
  refine lv_iload_n hC.1 hC.2.1 dX12_takeWord_1 rfl (lv_at hl 1 rfl) ?_
  obtain ⟨r_1, hg_2, hf⟩ := bd_of hf
  refine g_calliV hC hW (c12_hasWord l D cy ad aM hg_2) (cwV 1 hC.2.2.2.2.1 gX12_takeWord_X12_hasWord rfl rfl rfl hdV12_hasWord ⟨Nat.le_of_ble_eq_true rfl, Nat.le_of_ble_eq_true rfl⟩) (Sub.all _ _) 0 11 rfl rfl rfl rfl hl.1 rfl (Nat.le_of_ble_eq_true rfl) dX12_takeWord_2 ⟨Nat.zero_le _, Nat.zero_le _⟩ (fun H locs hW => ?_)
  refine lv_if_ne (tgt := 13) hC.1 hC.2.1 dX12_takeWord_5 (by decide) (fun hc_3 => ?_) (fun hc_3 => ?_)
  · have hf := ite_f hf hc_3
    exact t12_takeWord_13 hC  _ _ _ _ _ hf hW (lv_sub hl [] rfl)
  · have hf := ite_t hf hc_3
    refine lv_aload_n hC.1 hC.2.1 dX12_takeWord_8 rfl (lv_at hl 0 rfl) ?_
    refine lv_iconst (v := 1) hC.1 hC.2.1 dX12_takeWord_9 (by decide) ?_
    obtain ⟨r_4, hg_5, hf⟩ := bd_of hf
    refine g_callvV hC hW (c12_wrong l D cy ad aM hg_5) (cwV 1 hC.2.2.2.2.1 gX12_takeWord_X12_wrong rfl rfl rfl hdV12_wrong ⟨Nat.le_of_ble_eq_true rfl, Nat.le_of_ble_eq_true rfl⟩) (Sub.all _ _) 0 11 rfl rfl rfl rfl hl.1 rfl (Nat.le_of_ble_eq_true rfl) dX12_takeWord_10 ⟨Nat.zero_le _, Nat.zero_le _⟩ (fun H locs hW => ?_)
    exact t12_takeWord_13 hC  _ _ _ _ _ hf hW (lv_sub hl [] rfl)
set_option maxRecDepth 100000 in
set_option maxHeartbeats 4000000 in
theorem c12_takeWord (l : Launch) (D : va_G) (cy : Nat → ClassId) (ad : Nat → Nat) (aM : Nat → Nat) {x1 : Int32} {SM : Ob} {res : Ob} (h : f12_takeWord x1 SM = some res) : GCv l yX12_takeWord wsX12_takeWord rm12_takeWord [.ref (aM 0), .int x1] D cy ad (w12 cy aM SM) (w12 cy aM res) := fun sz => GC.start (own := RX12) (Qc := fun A => QV D cy (w12 cy aM res) A) sz (by decide) rfl rfl (Nat.le_of_ble_eq_true rfl) (fun p e s m below meth c A ls hC hW hl => t12_takeWord_0 hC _ _ _ _ _ _ h hW (lv_sub hl [0, 1] rfl))
abbrev rm12_within : Room := { frames := 0, cells := 0, slots := 0, locals := 0 }
theorem hdS12_within : (yX12_within.cls ≠ "java/lang/invoke/MethodHandle" ∧ yX12_within.cls ≠ "java/lang/invoke/VarHandle" ∧ (parseMethodDescriptor yX12_within.desc).map (fun d => d.parameters.length) = some 3) := by decide +kernel
set_option maxRecDepth 100000 in
set_option maxHeartbeats 4000000 in
theorem t12_within_15 (hC : Cx p s m args meth c cX12_within 3 wsX12_within RX12 (some .boolean)) : ∀ (z0 : Int32) (res : Int32) (H : Heap) (locs : List Loc) (ls : Array Slot), f12_within_15 z0 = some res → GW D cy ad (([] : va_W)) A s H locs → lv_has ls 3 [] → W p l e rm12_within s m args below meth c H locs 0 0 (MQ below (QI D cy (([] : va_W)) A res) args s 0 0 A) (F0 m 15 ls [.int z0]) := by
  intro z0 res H locs ls hf hW hl
  unfold f12_within_15 at hf
  obtain ⟨hz, hf⟩ := ck_of hf
  obtain rfl := Option.some.inj hf
  exact g_zret hC hW hz dX12_within_15
set_option maxRecDepth 100000 in
set_option maxHeartbeats 4000000 in
theorem t12_within_14 (hC : Cx p s m args meth c cX12_within 3 wsX12_within RX12 (some .boolean)) : ∀ (res : Int32) (H : Heap) (locs : List Loc) (ls : Array Slot), f12_within_14 = some res → GW D cy ad (([] : va_W)) A s H locs → lv_has ls 3 [] → W p l e rm12_within s m args below meth c H locs 0 0 (MQ below (QI D cy (([] : va_W)) A res) args s 0 0 A) (F0 m 14 ls []) := by
  intro res H locs ls hf hW hl
  unfold f12_within_14 at hf
  refine lv_iconst (v := 0) hC.1 hC.2.1 dX12_within_14 (by decide) ?_
  exact t12_within_15 hC  _ _ _ _ _ hf hW (lv_sub hl [] rfl)
set_option maxRecDepth 100000 in
set_option maxHeartbeats 4000000 in
theorem t12_within_0 (hC : Cx p s m args meth c cX12_within 3 wsX12_within RX12 (some .boolean)) : ∀ (x0 : Int32) (x1 : Int32) (x2 : Int32) (res : Int32) (H : Heap) (locs : List Loc) (ls : Array Slot), f12_within x0 x1 x2 = some res → GW D cy ad (([] : va_W)) A s H locs → lv_has ls 3 [(0, .int x0), (1, .int x1), (2, .int x2)] → W p l e rm12_within s m args below meth c H locs 0 0 (MQ below (QI D cy (([] : va_W)) A res) args s 0 0 A) (F0 m 0 ls []) := by
  intro x0 x1 x2 res H locs ls hf hW hl
  unfold f12_within at hf
  refine lv_iload_n hC.1 hC.2.1 dX12_within_0 rfl (lv_at hl 0 rfl) ?_
  refine lv_iload_n hC.1 hC.2.1 dX12_within_1 rfl (lv_at hl 1 rfl) ?_
  refine lv_icmp_lt (tgt := 14) hC.1 hC.2.1 dX12_within_2 (by decide) (fun hc_1 => ?_) (fun hc_1 => ?_)
  · have hf := ite_t hf hc_1
    exact t12_within_14 hC  _ _ _ _ hf hW (lv_sub hl [] rfl)
  · have hf := ite_f hf hc_1
    refine lv_iload_n hC.1 hC.2.1 dX12_within_5 rfl (lv_at hl 0 rfl) ?_
    refine lv_iload_n hC.1 hC.2.1 dX12_within_6 rfl (lv_at hl 2 rfl) ?_
    refine lv_icmp_gt (tgt := 14) hC.1 hC.2.1 dX12_within_7 (by decide) (fun hc_2 => ?_) (fun hc_2 => ?_)
    · have hf := ite_t hf hc_2
      exact t12_within_14 hC  _ _ _ _ hf hW (lv_sub hl [] rfl)
    · have hf := ite_f hf hc_2
      refine lv_iconst (v := 1) hC.1 hC.2.1 dX12_within_10 (by decide) ?_
      refine lv_goto (tgt := 15) hC.1 hC.2.1 dX12_within_11 (by decide) ?_
      exact t12_within_15 hC  _ _ _ _ _ hf hW (lv_sub hl [] rfl)
set_option maxRecDepth 100000 in
set_option maxHeartbeats 4000000 in
theorem c12_within (l : Launch) (D : va_G) (cy : Nat → ClassId) (ad : Nat → Nat) {x0 : Int32} {x1 : Int32} {x2 : Int32} {res : Int32} (h : f12_within x0 x1 x2 = some res) : GCi l yX12_within wsX12_within rm12_within [.int x0, .int x1, .int x2] D cy ad (([] : va_W)) (([] : va_W)) res := fun sz => GC.start (own := RX12) (Qc := fun A => QI D cy (([] : va_W)) A res) sz (by decide) rfl rfl (Nat.le_of_ble_eq_true rfl) (fun p e s m below meth c A ls hC hW hl => t12_within_0 hC _ _ _ _ _ _ _ h hW (lv_sub hl [0, 1, 2] rfl))
abbrev rm12_takeNumber : Room := { frames := 1, cells := 0, slots := 0, locals := 21 }
theorem hdV12_takeNumber : yX12_takeNumber.cls = RX12 ∧ (yX12_takeNumber.cls ≠ "java/lang/invoke/MethodHandle" ∧ yX12_takeNumber.cls ≠ "java/lang/invoke/VarHandle" ∧ (parseMethodDescriptor yX12_takeNumber.desc).map (fun d => d.parameters.length) = some 2) := by decide +kernel
theorem hin12_takeNumber_12 : ∀ x ∈ u_ws RX12 TX12 39, x ∈ wsX12_takeNumber := fun _ h => List.mem_cons_of_mem _ (List.mem_append_right _ h)
set_option maxRecDepth 100000 in
set_option maxHeartbeats 4000000 in
theorem t12_takeNumber_70 (hC : Cx p s m args meth c cX12_takeNumber 3 wsX12_takeNumber RX12 (some .int)) : ∀ (SM : Ob) (res : Int32 × Ob) (H : Heap) (locs : List Loc) (ls : Array Slot), f12_takeNumber_70 SM = some res → GW D cy ad (w12 cy aM SM) A s H locs → lv_has ls 3 [(0, .ref (aM 0))] → W p l e rm12_takeNumber s m args below meth c H locs 0 0 (MQ below (QI D cy (w12 cy aM (res.2)) A (res.1)) args s 0 0 A) (F0 m 70 ls []) := by
  intro SM res H locs ls hf hW hl
  unfold f12_takeNumber_70 at hf
  refine lv_aload_n hC.1 hC.2.1 dX12_takeNumber_70 rfl (lv_at hl 0 rfl) ?_
  refine g_get hC hW hin12_takeNumber_12 0 rfl rfl 8 (by decide) 1 rfl rfl dX12_takeNumber_71 ?_
  refine lv_if_le (tgt := 79) hC.1 hC.2.1 dX12_takeNumber_74 (by decide) (fun hc_1 => ?_) (fun hc_1 => ?_)
  · have hf := ite_t hf hc_1
    refine lv_aload_n hC.1 hC.2.1 dX12_takeNumber_79 rfl (lv_at hl 0 rfl) ?_
    refine lv_dup hC.1 hC.2.1 dX12_takeNumber_80 rfl ?_
    refine g_get hC hW hin12_takeNumber_12 0 rfl rfl 7 (by decide) 3 rfl rfl dX12_takeNumber_81 ?_
    refine lv_iconst (v := 1) hC.1 hC.2.1 dX12_takeNumber_84 (by decide) ?_
    refine lv_iadd hC.1 hC.2.1 dX12_takeNumber_85 ?_
    obtain ⟨SM_2, eSM_2⟩ : ∃ y : Ob, y = oI SM 7 ((SM.1 7) + 1) := ⟨_, rfl⟩
    have hf := lt_nm hf eSM_2
    refine g_put hC hW hin12_takeNumber_12 tyX12 tyX12_ok nmX12 0 rfl rfl 7 (by decide) 3 rfl rfl rfl rfl (Nat.le_of_ble_eq_true rfl) (w' := w12 cy aM SM_2) (by rw [eSM_2]; rfl) dX12_takeNumber_86 (fun H locs hW => ?_)
    refine lv_aload_n hC.1 hC.2.1 dX12_takeNumber_89 rfl (lv_at hl 0 rfl) ?_
    refine g_get hC hW hin12_takeNumber_12 0 rfl rfl 6 (by decide) 4 rfl rfl dX12_takeNumber_90 ?_
    refine lv_aload_n hC.1 hC.2.1 dX12_takeNumber_93 rfl (lv_at hl 0 rfl) ?_
    refine g_get hC hW hin12_takeNumber_12 0 rfl rfl 7 (by decide) 3 rfl rfl dX12_takeNumber_94 ?_
    refine lv_iconst (v := 1) hC.1 hC.2.1 dX12_takeNumber_97 (by decide) ?_
    refine lv_isub hC.1 hC.2.1 dX12_takeNumber_98 ?_
    obtain ⟨hi_3, hf⟩ := ck_of hf
    refine g_lald hC hW 4 rfl hi_3 dX12_takeNumber_99 ?_
    refine lv_l2i (v := Int64.toInt32 (SM_2.2.2.2 6 (Int32.toNatClampNeg ((SM_2.1 7) - 1)))) hC.1 hC.2.1 dX12_takeNumber_100 rfl ?_
    obtain rfl := Option.some.inj hf
    exact g_iret hC hW dX12_takeNumber_101
  · have hf := ite_f hf hc_1
    refine lv_iconst (v := 0) hC.1 hC.2.1 dX12_takeNumber_77 (by decide) ?_
    obtain rfl := Option.some.inj hf
    exact g_iret hC hW dX12_takeNumber_78
set_option maxRecDepth 100000 in
set_option maxHeartbeats 4000000 in
theorem t12_takeNumber_65 (hC : Cx p s m args meth c cX12_takeNumber 3 wsX12_takeNumber RX12 (some .int)) : ∀ (SM : Ob) (res : Int32 × Ob) (H : Heap) (locs : List Loc) (ls : Array Slot), f12_takeNumber_65 SM = some res → GW D cy ad (w12 cy aM SM) A s H locs → lv_has ls 3 [(0, .ref (aM 0))] → W p l e rm12_takeNumber s m args below meth c H locs 0 0 (MQ below (QI D cy (w12 cy aM (res.2)) A (res.1)) args s 0 0 A) (F0 m 65 ls []) := by
  intro SM res H locs ls hf hW hl
  unfold f12_takeNumber_65 at hf
  refine lv_aload_n hC.1 hC.2.1 dX12_takeNumber_65 rfl (lv_at hl 0 rfl) ?_
  refine lv_iconst (v := 4) hC.1 hC.2.1 dX12_takeNumber_66 (by decide) ?_
  obtain ⟨r_1, hg_2, hf⟩ := bd_of hf
  refine g_callvV hC hW (c12_wrong l D cy ad aM hg_2) (cwV 1 hC.2.2.2.2.1 gX12_takeNumber_X12_wrong rfl rfl rfl hdV12_wrong ⟨Nat.le_of_ble_eq_true rfl, Nat.le_of_ble_eq_true rfl⟩) (Sub.all _ _) 0 11 rfl rfl rfl rfl hl.1 rfl (Nat.le_of_ble_eq_true rfl) dX12_takeNumber_67 ⟨Nat.zero_le _, Nat.zero_le _⟩ (fun H locs hW => ?_)
  exact t12_takeNumber_70 hC  _ _ _ _ _ hf hW (lv_sub hl [0] rfl)
set_option maxRecDepth 100000 in
set_option maxHeartbeats 4000000 in
theorem t12_takeNumber_28 (hC : Cx p s m args meth c cX12_takeNumber 3 wsX12_takeNumber RX12 (some .int)) : ∀ (x1 : Int32) (x2 : Int32) (SM : Ob) (res : Int32 × Ob) (H : Heap) (locs : List Loc) (ls : Array Slot), f12_takeNumber_28 x1 x2 SM = some res → GW D cy ad (w12 cy aM SM) A s H locs → lv_has ls 3 [(0, .ref (aM 0)), (1, .int x1), (2, .int x2)] → W p l e rm12_takeNumber s m args below meth c H locs 0 0 (MQ below (QI D cy (w12 cy aM (res.2)) A (res.1)) args s 0 0 A) (F0 m 28 ls []) := by
  intro x1 x2 SM res H locs ls hf hW hl
  unfold f12_takeNumber_28 at hf
  refine lv_aload_n hC.1 hC.2.1 dX12_takeNumber_28 rfl (lv_at hl 0 rfl) ?_
  refine g_get hC hW hin12_takeNumber_12 0 rfl rfl 8 (by decide) 1 rfl rfl dX12_takeNumber_29 ?_
  refine lv_if_ne (tgt := 70) hC.1 hC.2.1 dX12_takeNumber_32 (by decide) (fun hc_1 => ?_) (fun hc_1 => ?_)
  · have hf := ite_f hf hc_1
    exact t12_takeNumber_70 hC  _ _ _ _ _ hf hW (lv_sub hl [0] rfl)
  · have hf := ite_t hf hc_1
    refine lv_aload_n hC.1 hC.2.1 dX12_takeNumber_35 rfl (lv_at hl 0 rfl) ?_
    refine g_get hC hW hin12_takeNumber_12 0 rfl rfl 6 (by decide) 4 rfl rfl dX12_takeNumber_36 ?_
    refine lv_aload_n hC.1 hC.2.1 dX12_takeNumber_39 rfl (lv_at hl 0 rfl) ?_
    refine g_get hC hW hin12_takeNumber_12 0 rfl rfl 7 (by decide) 3 rfl rfl dX12_takeNumber_40 ?_
    obtain ⟨hi_2, hf⟩ := ck_of hf
    refine g_lald hC hW 4 rfl hi_2 dX12_takeNumber_43 ?_
    refine lv_iload_n hC.1 hC.2.1 dX12_takeNumber_44 rfl (lv_at hl 1 rfl) ?_
    refine lv_i2l (v := Int32.toInt64 x1) hC.1 hC.2.1 dX12_takeNumber_45 rfl ?_
    refine W.lcmp hC.1 hC.2.1 dX12_takeNumber_46 ?_
    refine lv_if_lt (tgt := 65) hC.1 hC.2.1 dX12_takeNumber_47 (by decide) (fun hc_3 => ?_) (fun hc_3 => ?_)
    · have hf := ite_t hf hc_3
      exact t12_takeNumber_65 hC  _ _ _ _ _ hf hW (lv_sub hl [0] rfl)
    · have hf := ite_f hf hc_3
      refine lv_aload_n hC.1 hC.2.1 dX12_takeNumber_50 rfl (lv_at hl 0 rfl) ?_
      refine g_get hC hW hin12_takeNumber_12 0 rfl rfl 6 (by decide) 4 rfl rfl dX12_takeNumber_51 ?_
      refine lv_aload_n hC.1 hC.2.1 dX12_takeNumber_54 rfl (lv_at hl 0 rfl) ?_
      refine g_get hC hW hin12_takeNumber_12 0 rfl rfl 7 (by decide) 3 rfl rfl dX12_takeNumber_55 ?_
      obtain ⟨hi_4, hf⟩ := ck_of hf
      refine g_lald hC hW 4 rfl hi_4 dX12_takeNumber_58 ?_
      refine lv_iload_n hC.1 hC.2.1 dX12_takeNumber_59 rfl (lv_at hl 2 rfl) ?_
      refine lv_i2l (v := Int32.toInt64 x2) hC.1 hC.2.1 dX12_takeNumber_60 rfl ?_
      refine W.lcmp hC.1 hC.2.1 dX12_takeNumber_61 ?_
      refine lv_if_le (tgt := 70) hC.1 hC.2.1 dX12_takeNumber_62 (by decide) (fun hc_5 => ?_) (fun hc_5 => ?_)
      · have hf := ite_t hf hc_5
        exact t12_takeNumber_70 hC  _ _ _ _ _ hf hW (lv_sub hl [0] rfl)
      · have hf := ite_f hf hc_5
        exact t12_takeNumber_65 hC  _ _ _ _ _ hf hW (lv_sub hl [0] rfl)
set_option maxRecDepth 100000 in
set_option maxHeartbeats 4000000 in
theorem t12_takeNumber_0 (hC : Cx p s m args meth c cX12_takeNumber 3 wsX12_takeNumber RX12 (some .int)) : ∀ (x1 : Int32) (x2 : Int32) (SM : Ob) (res : Int32 × Ob) (H : Heap) (locs : List Loc) (ls : Array Slot), f12_takeNumber x1 x2 SM = some res → GW D cy ad (w12 cy aM SM) A s H locs → lv_has ls 3 [(0, .ref (aM 0)), (1, .int x1), (2, .int x2)] → W p l e rm12_takeNumber s m args below meth c H locs 0 0 (MQ below (QI D cy (w12 cy aM (res.2)) A (res.1)) args s 0 0 A) (F0 m 0 ls []) := by
  intro x1 x2 SM res H locs ls hf hW hl
  unfold f12_takeNumber at hf
  refine lv_aload_n hC.1 hC.2.1 dX12_takeNumber_0 rfl (lv_at hl 0 rfl) ?_
  refine g_get hC hW hin12_takeNumber_12 0 rfl rfl 8 (by decide) 1 rfl rfl dX12_takeNumber_1 ?_
  refine lv_if_ne (tgt := 28) hC.1 hC.2.1 dX12_takeNumber_4 (by decide) (fun hc_1 => ?_) (fun hc_1 => ?_)
  · have hf := ite_f hf hc_1
    exact t12_takeNumber_28 hC  _ _ _ _ _ _ _ hf hW (lv_sub hl [0, 1, 2] rfl)
  · have hf := ite_t hf hc_1
    refine lv_aload_n hC.1 hC.2.1 dX12_takeNumber_7 rfl (lv_at hl 0 rfl) ?_
    refine g_get hC hW hin12_takeNumber_12 0 rfl rfl 4 (by decide) 2 rfl rfl dX12_takeNumber_8 ?_
    refine lv_aload_n hC.1 hC.2.1 dX12_takeNumber_11 rfl (lv_at hl 0 rfl) ?_
    refine g_get hC hW hin12_takeNumber_12 0 rfl rfl 7 (by decide) 3 rfl rfl dX12_takeNumber_12 ?_
    obtain ⟨hi_2, hf⟩ := ck_of hf
    refine g_iald hC hW 2 rfl hi_2 dX12_takeNumber_15 ?_
    refine lv_iconst (v := 2) hC.1 hC.2.1 dX12_takeNumber_16 (by decide) ?_
    refine lv_icmp_eq (tgt := 28) hC.1 hC.2.1 dX12_takeNumber_17 (by decide) (fun hc_3 => ?_) (fun hc_3 => ?_)
    · have hf := ite_t hf hc_3
      exact t12_takeNumber_28 hC  _ _ _ _ _ _ _ hf hW (lv_sub hl [0, 1, 2] rfl)
    · have hf := ite_f hf hc_3
      refine lv_aload_n hC.1 hC.2.1 dX12_takeNumber_20 rfl (lv_at hl 0 rfl) ?_
      refine lv_iconst (v := 1) hC.1 hC.2.1 dX12_takeNumber_21 (by decide) ?_
      obtain ⟨r_4, hg_5, hf⟩ := bd_of hf
      refine g_callvV hC hW (c12_wrong l D cy ad aM hg_5) (cwV 1 hC.2.2.2.2.1 gX12_takeNumber_X12_wrong rfl rfl rfl hdV12_wrong ⟨Nat.le_of_ble_eq_true rfl, Nat.le_of_ble_eq_true rfl⟩) (Sub.all _ _) 0 11 rfl rfl rfl rfl hl.1 rfl (Nat.le_of_ble_eq_true rfl) dX12_takeNumber_22 ⟨Nat.zero_le _, Nat.zero_le _⟩ (fun H locs hW => ?_)
      refine lv_goto (tgt := 70) hC.1 hC.2.1 dX12_takeNumber_25 (by decide) ?_
      exact t12_takeNumber_70 hC  _ _ _ _ _ hf hW (lv_sub hl [0] rfl)
set_option maxRecDepth 100000 in
set_option maxHeartbeats 4000000 in
theorem c12_takeNumber (l : Launch) (D : va_G) (cy : Nat → ClassId) (ad : Nat → Nat) (aM : Nat → Nat) {x1 : Int32} {x2 : Int32} {SM : Ob} {res : Int32 × Ob} (h : f12_takeNumber x1 x2 SM = some res) : GCi l yX12_takeNumber wsX12_takeNumber rm12_takeNumber [.ref (aM 0), .int x1, .int x2] D cy ad (w12 cy aM SM) (w12 cy aM (res.2)) (res.1) := fun sz => GC.start (own := RX12) (Qc := fun A => QI D cy (w12 cy aM (res.2)) A (res.1)) sz (by decide) rfl rfl (Nat.le_of_ble_eq_true rfl) (fun p e s m below meth c A ls hC hW hl => t12_takeNumber_0 hC _ _ _ _ _ _ _ h hW (lv_sub hl [0, 1, 2] rfl))
abbrev rm12_takeAfter : Room := { frames := 3, cells := 0, slots := 0, locals := 64 }
theorem hdV12_takeAfter : yX12_takeAfter.cls = RX12 ∧ (yX12_takeAfter.cls ≠ "java/lang/invoke/MethodHandle" ∧ yX12_takeAfter.cls ≠ "java/lang/invoke/VarHandle" ∧ (parseMethodDescriptor yX12_takeAfter.desc).map (fun d => d.parameters.length) = some 3) := by decide +kernel
set_option maxRecDepth 100000 in
set_option maxHeartbeats 4000000 in
theorem t12_takeAfter_0 (hC : Cx p s m args meth c cX12_takeAfter 4 wsX12_takeAfter RX12 (some .int)) : ∀ (x1 : Int32) (x2 : Int32) (x3 : Int32) (SM : Ob) (res : Int32 × Ob) (H : Heap) (locs : List Loc) (ls : Array Slot), f12_takeAfter x1 x2 x3 SM = some res → GW D cy ad (w12 cy aM SM) A s H locs → lv_has ls 4 [(0, .ref (aM 0)), (1, .int x1), (2, .int x2), (3, .int x3)] → W p l e rm12_takeAfter s m args below meth c H locs 0 0 (MQ below (QI D cy (w12 cy aM (res.2)) A (res.1)) args s 0 0 A) (F0 m 0 ls []) := by
  intro x1 x2 x3 SM res H locs ls hf hW hl
  unfold f12_takeAfter at hf
  refine lv_aload_n hC.1 hC.2.1 dX12_takeAfter_0 rfl (lv_at hl 0 rfl) ?_
  refine lv_iload_n hC.1 hC.2.1 dX12_takeAfter_1 rfl (lv_at hl 1 rfl) ?_
  obtain ⟨r_1, hg_2, hf⟩ := bd_of hf
  refine g_callvV hC hW (c12_takeWord l D cy ad aM hg_2) (cwV 1 hC.2.2.2.2.1 gX12_takeAfter_X12_takeWord rfl rfl rfl hdV12_takeWord ⟨Nat.le_of_ble_eq_true rfl, Nat.le_of_ble_eq_true rfl⟩) (Sub.all _ _) 0 11 rfl rfl rfl rfl hl.1 rfl (Nat.le_of_ble_eq_true rfl) dX12_takeAfter_2 ⟨Nat.zero_le _, Nat.zero_le _⟩ (fun H locs hW => ?_)
  refine lv_aload_n hC.1 hC.2.1 dX12_takeAfter_5 rfl (lv_at hl 0 rfl) ?_
  refine lv_iload_n hC.1 hC.2.1 dX12_takeAfter_6 rfl (lv_at hl 2 rfl) ?_
  refine lv_iload_n hC.1 hC.2.1 dX12_takeAfter_7 rfl (lv_at hl 3 rfl) ?_
  obtain ⟨r_3, hg_4, hf⟩ := bd_of hf
  refine g_calliV hC hW (c12_takeNumber l D cy ad aM hg_4) (cwV 2 hC.2.2.2.2.1 gX12_takeAfter_X12_takeNumber rfl rfl rfl hdV12_takeNumber ⟨Nat.le_of_ble_eq_true rfl, Nat.le_of_ble_eq_true rfl⟩) (Sub.all _ _) 0 11 rfl rfl rfl rfl hl.1 rfl (Nat.le_of_ble_eq_true rfl) dX12_takeAfter_8 ⟨Nat.zero_le _, Nat.zero_le _⟩ (fun H locs hW => ?_)
  obtain rfl := Option.some.inj hf
  exact g_iret hC hW dX12_takeAfter_11
set_option maxRecDepth 100000 in
set_option maxHeartbeats 4000000 in
theorem c12_takeAfter (l : Launch) (D : va_G) (cy : Nat → ClassId) (ad : Nat → Nat) (aM : Nat → Nat) {x1 : Int32} {x2 : Int32} {x3 : Int32} {SM : Ob} {res : Int32 × Ob} (h : f12_takeAfter x1 x2 x3 SM = some res) : GCi l yX12_takeAfter wsX12_takeAfter rm12_takeAfter [.ref (aM 0), .int x1, .int x2, .int x3] D cy ad (w12 cy aM SM) (w12 cy aM (res.2)) (res.1) := fun sz => GC.start (own := RX12) (Qc := fun A => QI D cy (w12 cy aM (res.2)) A (res.1)) sz (by decide) rfl rfl (Nat.le_of_ble_eq_true rfl) (fun p e s m below meth c A ls hC hW hl => t12_takeAfter_0 hC _ _ _ _ _ _ _ _ h hW (lv_sub hl [0, 1, 2, 3] rfl))
abbrev rm12_wordHere : Room := { frames := 1, cells := 0, slots := 0, locals := 21 }
theorem hdV12_wordHere : yX12_wordHere.cls = RX12 ∧ (yX12_wordHere.cls ≠ "java/lang/invoke/MethodHandle" ∧ yX12_wordHere.cls ≠ "java/lang/invoke/VarHandle" ∧ (parseMethodDescriptor yX12_wordHere.desc).map (fun d => d.parameters.length) = some 2) := by decide +kernel
set_option maxRecDepth 100000 in
set_option maxHeartbeats 4000000 in
theorem t12_wordHere_28 (hC : Cx p s m args meth c cX12_wordHere 5 wsX12_wordHere RX12 (some .int)) {k5 : Int32 → Int32 → Int32 → Int32 → Ob → Option (Int32)} (hk5 : ∀ (x1 : Int32) (x2 : Int32) (x3 : Int32) (x4 : Int32) (SM : Ob) (res : Int32) (H : Heap) (locs : List Loc) (ls : Array Slot), k5 x1 x2 x3 x4 SM = some res → GW D cy ad (w12 cy aM SM) A s H locs → lv_has ls 5 [(0, .ref (aM 0)), (1, .int x1), (2, .int x2), (3, .int x3), (4, .int x4)] → W p l e rm12_wordHere s m args below meth c H locs 0 0 (MQ below (QI D cy (w12 cy aM SM) A res) args s 0 0 A) (F0 m 5 ls [])) : ∀ (x1 : Int32) (x2 : Int32) (x4 : Int32) (z0 : Int32) (SM : Ob) (res : Int32) (H : Heap) (locs : List Loc) (ls : Array Slot), f12_wordHere_28 k5 x1 x2 x4 z0 SM = some res → GW D cy ad (w12 cy aM SM) A s H locs → lv_has ls 5 [(0, .ref (aM 0)), (1, .int x1), (2, .int x2), (4, .int x4)] → W p l e rm12_wordHere s m args below meth c H locs 0 0 (MQ below (QI D cy (w12 cy aM SM) A res) args s 0 0 A) (F0 m 28 ls [.int z0]) := by
  intro x1 x2 x4 z0 SM res H locs ls hf hW hl
  unfold f12_wordHere_28 at hf
  refine lv_istore_n (lv' := [(3, .int z0), (0, .ref (aM 0)), (1, .int x1), (2, .int x2), (4, .int x4)]) hC.1 hC.2.1 dX12_wordHere_28 rfl hl (by decide) rfl (fun ls hl => ?_)
  obtain ⟨x4_1, ex4_1⟩ : ∃ y : Int32, y = x4 + 1 := ⟨_, rfl⟩
  have hf := lt_nm hf ex4_1
  refine lv_iinc (v := x4_1) (lv' := [(4, .int x4_1), (3, .int z0), (0, .ref (aM 0)), (1, .int x1), (2, .int x2)]) hC.1 hC.2.1 dX12_wordHere_29 hl (k := 4) rfl (by rw [ex4_1]; rfl) (by decide) rfl (fun ls hl => ?_)
  refine lv_goto (tgt := 5) hC.1 hC.2.1 dX12_wordHere_32 (by decide) ?_
  exact hk5 _ _ _ _ _ _ _ _ _ hf hW (lv_sub hl [2, 3, 4, 1, 0] rfl)
set_option maxRecDepth 100000 in
set_option maxHeartbeats 4000000 in
theorem t12_wordHere_5 (hC : Cx p s m args meth c cX12_wordHere 5 wsX12_wordHere RX12 (some .int)) : ∀ n : Nat, ∀ (x1 : Int32) (x2 : Int32) (x3 : Int32) (x4 : Int32) (SM : Ob) (res : Int32) (H : Heap) (locs : List Loc) (ls : Array Slot), f12_wordHere_5 n x1 x2 x3 x4 SM = some res → GW D cy ad (w12 cy aM SM) A s H locs → lv_has ls 5 [(0, .ref (aM 0)), (1, .int x1), (2, .int x2), (3, .int x3), (4, .int x4)] → W p l e rm12_wordHere s m args below meth c H locs 0 0 (MQ below (QI D cy (w12 cy aM SM) A res) args s 0 0 A) (F0 m 5 ls []) := by
  intro n
  induction n with
  | zero =>
    intro _ _ _ _ _ _ _ _ _ hf _ _
    exact nomatch (show (none : Option (Int32)) = some _ from hf)
  | succ n ih =>
    intro x1 x2 x3 x4 SM res H locs ls hf hW hl
    rw [f12_wordHere_5] at hf
    refine lv_iload hC.1 hC.2.1 dX12_wordHere_5 (lv_at hl 4 rfl) ?_
    refine lv_iload_n hC.1 hC.2.1 dX12_wordHere_7 rfl (lv_at hl 2 rfl) ?_
    refine lv_icmp_ge (tgt := 35) hC.1 hC.2.1 dX12_wordHere_8 (by decide) (fun hc_1 => ?_) (fun hc_1 => ?_)
    · have hf := ite_t hf hc_1
      refine lv_iload_n hC.1 hC.2.1 dX12_wordHere_35 rfl (lv_at hl 3 rfl) ?_
      obtain rfl := Option.some.inj hf
      exact g_iret hC hW dX12_wordHere_36
    · have hf := ite_f hf hc_1
      refine lv_aload_n hC.1 hC.2.1 dX12_wordHere_11 rfl (lv_at hl 0 rfl) ?_
      refine lv_iload_n hC.1 hC.2.1 dX12_wordHere_12 rfl (lv_at hl 1 rfl) ?_
      refine lv_iload hC.1 hC.2.1 dX12_wordHere_13 (lv_at hl 4 rfl) ?_
      refine lv_iadd hC.1 hC.2.1 dX12_wordHere_15 ?_
      obtain ⟨r_2, hg_3, hf⟩ := bd_of hf
      refine g_calliV hC hW (c12_isWord l D cy ad aM hg_3) (cwV 1 hC.2.2.2.2.1 gX12_wordHere_X12_isWord rfl rfl rfl hdV12_isWord ⟨Nat.le_of_ble_eq_true rfl, Nat.le_of_ble_eq_true rfl⟩) (Sub.all _ _) 0 11 rfl rfl rfl rfl hl.1 rfl (Nat.le_of_ble_eq_true rfl) dX12_wordHere_16 ⟨Nat.zero_le _, Nat.zero_le _⟩ (fun H locs hW => ?_)
      refine lv_if_eq (tgt := 27) hC.1 hC.2.1 dX12_wordHere_19 (by decide) (fun hc_4 => ?_) (fun hc_4 => ?_)
      · have hf := ite_t hf hc_4
        refine lv_iload_n hC.1 hC.2.1 dX12_wordHere_27 rfl (lv_at hl 3 rfl) ?_
        exact t12_wordHere_28 hC ih  _ _ _ _ _ _ _ _ _ hf hW (lv_sub hl [0, 1, 2, 4] rfl)
      · have hf := ite_f hf hc_4
        refine lv_iload hC.1 hC.2.1 dX12_wordHere_22 (lv_at hl 4 rfl) ?_
        refine lv_goto (tgt := 28) hC.1 hC.2.1 dX12_wordHere_24 (by decide) ?_
        exact t12_wordHere_28 hC ih  _ _ _ _ _ _ _ _ _ hf hW (lv_sub hl [0, 1, 2, 4] rfl)
set_option maxRecDepth 100000 in
set_option maxHeartbeats 4000000 in
theorem t12_wordHere_0 (hC : Cx p s m args meth c cX12_wordHere 5 wsX12_wordHere RX12 (some .int)) : ∀ (x1 : Int32) (x2 : Int32) (SM : Ob) (res : Int32) (H : Heap) (locs : List Loc) (ls : Array Slot), f12_wordHere x1 x2 SM = some res → GW D cy ad (w12 cy aM SM) A s H locs → lv_has ls 5 [(0, .ref (aM 0)), (1, .int x1), (2, .int x2)] → W p l e rm12_wordHere s m args below meth c H locs 0 0 (MQ below (QI D cy (w12 cy aM SM) A res) args s 0 0 A) (F0 m 0 ls []) := by
  intro x1 x2 SM res H locs ls hf hW hl
  unfold f12_wordHere at hf
  refine lv_iconst (v := (-1)) hC.1 hC.2.1 dX12_wordHere_0 (by decide) ?_
  refine lv_istore_n (lv' := [(3, .int (-1)), (0, .ref (aM 0)), (1, .int x1), (2, .int x2)]) hC.1 hC.2.1 dX12_wordHere_1 rfl hl (by decide) rfl (fun ls hl => ?_)
  refine lv_iconst (v := 0) hC.1 hC.2.1 dX12_wordHere_2 (by decide) ?_
  refine lv_istore (lv' := [(4, .int 0), (3, .int (-1)), (0, .ref (aM 0)), (1, .int x1), (2, .int x2)]) hC.1 hC.2.1 dX12_wordHere_3 hl (by decide) rfl (fun ls hl => ?_)
  exact t12_wordHere_5 hC _ _ _ _ _ _ _ _ _ _ hf hW (lv_sub hl [2, 3, 4, 1, 0] rfl)
set_option maxRecDepth 100000 in
set_option maxHeartbeats 4000000 in
theorem c12_wordHere (l : Launch) (D : va_G) (cy : Nat → ClassId) (ad : Nat → Nat) (aM : Nat → Nat) {x1 : Int32} {x2 : Int32} {SM : Ob} {res : Int32} (h : f12_wordHere x1 x2 SM = some res) : GCi l yX12_wordHere wsX12_wordHere rm12_wordHere [.ref (aM 0), .int x1, .int x2] D cy ad (w12 cy aM SM) (w12 cy aM SM) res := fun sz => GC.start (own := RX12) (Qc := fun A => QI D cy (w12 cy aM SM) A res) sz (by decide) rfl rfl (Nat.le_of_ble_eq_true rfl) (fun p e s m below meth c A ls hC hW hl => t12_wordHere_0 hC _ _ _ _ _ _ _ h hW (lv_sub hl [0, 1, 2] rfl))
abbrev rm12_takeOne : Room := { frames := 2, cells := 0, slots := 0, locals := 45 }
theorem hdV12_takeOne : yX12_takeOne.cls = RX12 ∧ (yX12_takeOne.cls ≠ "java/lang/invoke/MethodHandle" ∧ yX12_takeOne.cls ≠ "java/lang/invoke/VarHandle" ∧ (parseMethodDescriptor yX12_takeOne.desc).map (fun d => d.parameters.length) = some 2) := by decide +kernel
theorem hin12_takeOne_12 : ∀ x ∈ u_ws RX12 TX12 39, x ∈ wsX12_takeOne := fun _ h => List.mem_cons_of_mem _ (List.mem_append_right _ h)
set_option maxRecDepth 100000 in
set_option maxHeartbeats 4000000 in
theorem t12_takeOne_67 (hC : Cx p s m args meth c cX12_takeOne 4 wsX12_takeOne RX12 (some .int)) : ∀ (z0 : Int32) (SM : Ob) (res : Int32 × Ob) (H : Heap) (locs : List Loc) (ls : Array Slot), f12_takeOne_67 z0 SM = some res → GW D cy ad (w12 cy aM SM) A s H locs → lv_has ls 4 [] → W p l e rm12_takeOne s m args below meth c H locs 0 0 (MQ below (QI D cy (w12 cy aM (res.2)) A (res.1)) args s 0 0 A) (F0 m 67 ls [.int z0]) := by
  intro z0 SM res H locs ls hf hW hl
  unfold f12_takeOne_67 at hf
  obtain rfl := Option.some.inj hf
  exact g_iret hC hW dX12_takeOne_67
set_option maxRecDepth 100000 in
set_option maxHeartbeats 4000000 in
theorem t12_takeOne_51 (hC : Cx p s m args meth c cX12_takeOne 4 wsX12_takeOne RX12 (some .int)) : ∀ (x3 : Int32) (z1 : Int32) (z2 : Int32) (SM : Ob) (res : Int32 × Ob) (H : Heap) (locs : List Loc) (ls : Array Slot), f12_takeOne_51 x3 z1 z2 SM = some res → GW D cy ad (w12 cy aM SM) A s H locs → lv_has ls 4 [(0, .ref (aM 0)), (3, .int x3)] → W p l e rm12_takeOne s m args below meth c H locs 0 0 (MQ below (QI D cy (w12 cy aM (res.2)) A (res.1)) args s 0 0 A) (F0 m 51 ls [.int z2, .int z1, .ref (aM 0)]) := by
  intro x3 z1 z2 SM res H locs ls hf hW hl
  unfold f12_takeOne_51 at hf
  refine lv_iadd hC.1 hC.2.1 dX12_takeOne_51 ?_
  obtain ⟨SM_1, eSM_1⟩ : ∃ y : Ob, y = oI SM 7 (z1 + z2) := ⟨_, rfl⟩
  have hf := lt_nm hf eSM_1
  refine g_put hC hW hin12_takeOne_12 tyX12 tyX12_ok nmX12 0 rfl rfl 7 (by decide) 2 rfl rfl rfl rfl (Nat.le_of_ble_eq_true rfl) (w' := w12 cy aM SM_1) (by rw [eSM_1]; rfl) dX12_takeOne_52 (fun H locs hW => ?_)
  refine lv_aload_n hC.1 hC.2.1 dX12_takeOne_55 rfl (lv_at hl 0 rfl) ?_
  refine g_get hC hW hin12_takeOne_12 0 rfl rfl 8 (by decide) 1 rfl rfl dX12_takeOne_56 ?_
  refine lv_if_le (tgt := 66) hC.1 hC.2.1 dX12_takeOne_59 (by decide) (fun hc_2 => ?_) (fun hc_2 => ?_)
  · have hf := ite_t hf hc_2
    refine lv_iload_n hC.1 hC.2.1 dX12_takeOne_66 rfl (lv_at hl 1 rfl) ?_
    exact t12_takeOne_67 hC  _ _ _ _ _ _ hf hW (lv_sub hl [] rfl)
  · have hf := ite_f hf hc_2
    refine lv_iconst (v := 0) hC.1 hC.2.1 dX12_takeOne_62 (by decide) ?_
    refine lv_goto (tgt := 67) hC.1 hC.2.1 dX12_takeOne_63 (by decide) ?_
    exact t12_takeOne_67 hC  _ _ _ _ _ _ hf hW (lv_sub hl [] rfl)
set_option maxRecDepth 100000 in
set_option maxHeartbeats 4000000 in
theorem t12_takeOne_34 (hC : Cx p s m args meth c cX12_takeOne 4 wsX12_takeOne RX12 (some .int)) : ∀ (x3 : Int32) (SM : Ob) (res : Int32 × Ob) (H : Heap) (locs : List Loc) (ls : Array Slot), f12_takeOne_34 x3 SM = some res → GW D cy ad (w12 cy aM SM) A s H locs → lv_has ls 4 [(0, .ref (aM 0)), (3, .int x3)] → W p l e rm12_takeOne s m args below meth c H locs 0 0 (MQ below (QI D cy (w12 cy aM (res.2)) A (res.1)) args s 0 0 A) (F0 m 34 ls []) := by
  intro x3 SM res H locs ls hf hW hl
  unfold f12_takeOne_34 at hf
  refine lv_aload_n hC.1 hC.2.1 dX12_takeOne_34 rfl (lv_at hl 0 rfl) ?_
  refine lv_dup hC.1 hC.2.1 dX12_takeOne_35 rfl ?_
  refine g_get hC hW hin12_takeOne_12 0 rfl rfl 7 (by decide) 2 rfl rfl dX12_takeOne_36 ?_
  refine lv_aload_n hC.1 hC.2.1 dX12_takeOne_39 rfl (lv_at hl 0 rfl) ?_
  refine g_get hC hW hin12_takeOne_12 0 rfl rfl 8 (by decide) 1 rfl rfl dX12_takeOne_40 ?_
  refine lv_if_le (tgt := 50) hC.1 hC.2.1 dX12_takeOne_43 (by decide) (fun hc_1 => ?_) (fun hc_1 => ?_)
  · have hf := ite_t hf hc_1
    refine lv_iconst (v := 1) hC.1 hC.2.1 dX12_takeOne_50 (by decide) ?_
    exact t12_takeOne_51 hC  _ _ _ _ _ _ _ _ hf hW (lv_sub hl [0, 1] rfl)
  · have hf := ite_f hf hc_1
    refine lv_iconst (v := 0) hC.1 hC.2.1 dX12_takeOne_46 (by decide) ?_
    refine lv_goto (tgt := 51) hC.1 hC.2.1 dX12_takeOne_47 (by decide) ?_
    exact t12_takeOne_51 hC  _ _ _ _ _ _ _ _ hf hW (lv_sub hl [0, 1] rfl)
set_option maxRecDepth 100000 in
set_option maxHeartbeats 4000000 in
theorem t12_takeOne_17 (hC : Cx p s m args meth c cX12_takeOne 4 wsX12_takeOne RX12 (some .int)) : ∀ (z0 : Int32) (SM : Ob) (res : Int32 × Ob) (H : Heap) (locs : List Loc) (ls : Array Slot), f12_takeOne_17 z0 SM = some res → GW D cy ad (w12 cy aM SM) A s H locs → lv_has ls 4 [(0, .ref (aM 0))] → W p l e rm12_takeOne s m args below meth c H locs 0 0 (MQ below (QI D cy (w12 cy aM (res.2)) A (res.1)) args s 0 0 A) (F0 m 17 ls [.int z0]) := by
  intro z0 SM res H locs ls hf hW hl
  unfold f12_takeOne_17 at hf
  refine lv_istore_n (lv' := [(3, .int z0), (0, .ref (aM 0))]) hC.1 hC.2.1 dX12_takeOne_17 rfl hl (by decide) rfl (fun ls hl => ?_)
  refine lv_aload_n hC.1 hC.2.1 dX12_takeOne_18 rfl (lv_at hl 1 rfl) ?_
  refine g_get hC hW hin12_takeOne_12 0 rfl rfl 8 (by decide) 1 rfl rfl dX12_takeOne_19 ?_
  refine lv_if_ne (tgt := 34) hC.1 hC.2.1 dX12_takeOne_22 (by decide) (fun hc_1 => ?_) (fun hc_1 => ?_)
  · have hf := ite_f hf hc_1
    exact t12_takeOne_34 hC  _ _ _ _ _ _ hf hW (lv_sub hl [1, 0] rfl)
  · have hf := ite_t hf hc_1
    refine lv_iload_n hC.1 hC.2.1 dX12_takeOne_25 rfl (lv_at hl 0 rfl) ?_
    refine lv_if_ge (tgt := 34) hC.1 hC.2.1 dX12_takeOne_26 (by decide) (fun hc_2 => ?_) (fun hc_2 => ?_)
    · have hf := ite_t hf hc_2
      exact t12_takeOne_34 hC  _ _ _ _ _ _ hf hW (lv_sub hl [1, 0] rfl)
    · have hf := ite_f hf hc_2
      refine lv_aload_n hC.1 hC.2.1 dX12_takeOne_29 rfl (lv_at hl 1 rfl) ?_
      refine lv_iconst (v := 1) hC.1 hC.2.1 dX12_takeOne_30 (by decide) ?_
      obtain ⟨r_3, hg_4, hf⟩ := bd_of hf
      refine g_callvV hC hW (c12_wrong l D cy ad aM hg_4) (cwV 1 hC.2.2.2.2.1 gX12_takeOne_X12_wrong rfl rfl rfl hdV12_wrong ⟨Nat.le_of_ble_eq_true rfl, Nat.le_of_ble_eq_true rfl⟩) (Sub.all _ _) 0 11 rfl rfl rfl rfl hl.1 rfl (Nat.le_of_ble_eq_true rfl) dX12_takeOne_31 ⟨Nat.zero_le _, Nat.zero_le _⟩ (fun H locs hW => ?_)
      exact t12_takeOne_34 hC  _ _ _ _ _ _ hf hW (lv_sub hl [1, 0] rfl)
set_option maxRecDepth 100000 in
set_option maxHeartbeats 4000000 in
theorem t12_takeOne_0 (hC : Cx p s m args meth c cX12_takeOne 4 wsX12_takeOne RX12 (some .int)) : ∀ (x1 : Int32) (x2 : Int32) (SM : Ob) (res : Int32 × Ob) (H : Heap) (locs : List Loc) (ls : Array Slot), f12_takeOne x1 x2 SM = some res → GW D cy ad (w12 cy aM SM) A s H locs → lv_has ls 4 [(0, .ref (aM 0)), (1, .int x1), (2, .int x2)] → W p l e rm12_takeOne s m args below meth c H locs 0 0 (MQ below (QI D cy (w12 cy aM (res.2)) A (res.1)) args s 0 0 A) (F0 m 0 ls []) := by
  intro x1 x2 SM res H locs ls hf hW hl
  unfold f12_takeOne at hf
  refine lv_aload_n hC.1 hC.2.1 dX12_takeOne_0 rfl (lv_at hl 0 rfl) ?_
  refine g_get hC hW hin12_takeOne_12 0 rfl rfl 8 (by decide) 1 rfl rfl dX12_takeOne_1 ?_
  refine lv_if_le (tgt := 11) hC.1 hC.2.1 dX12_takeOne_4 (by decide) (fun hc_1 => ?_) (fun hc_1 => ?_)
  · have hf := ite_t hf hc_1
    refine lv_aload_n hC.1 hC.2.1 dX12_takeOne_11 rfl (lv_at hl 0 rfl) ?_
    refine lv_iload_n hC.1 hC.2.1 dX12_takeOne_12 rfl (lv_at hl 1 rfl) ?_
    refine lv_iload_n hC.1 hC.2.1 dX12_takeOne_13 rfl (lv_at hl 2 rfl) ?_
    obtain ⟨r_2, hg_3, hf⟩ := bd_of hf
    refine g_calliV hC hW (c12_wordHere l D cy ad aM hg_3) (cwV 2 hC.2.2.2.2.1 gX12_takeOne_X12_wordHere rfl rfl rfl hdV12_wordHere ⟨Nat.le_of_ble_eq_true rfl, Nat.le_of_ble_eq_true rfl⟩) (Sub.all _ _) 0 11 rfl rfl rfl rfl hl.1 rfl (Nat.le_of_ble_eq_true rfl) dX12_takeOne_14 ⟨Nat.zero_le _, Nat.zero_le _⟩ (fun H locs hW => ?_)
    exact t12_takeOne_17 hC  _ _ _ _ _ _ hf hW (lv_sub hl [0] rfl)
  · have hf := ite_f hf hc_1
    refine lv_iconst (v := (-1)) hC.1 hC.2.1 dX12_takeOne_7 (by decide) ?_
    refine lv_goto (tgt := 17) hC.1 hC.2.1 dX12_takeOne_8 (by decide) ?_
    exact t12_takeOne_17 hC  _ _ _ _ _ _ hf hW (lv_sub hl [0] rfl)
set_option maxRecDepth 100000 in
set_option maxHeartbeats 4000000 in
theorem c12_takeOne (l : Launch) (D : va_G) (cy : Nat → ClassId) (ad : Nat → Nat) (aM : Nat → Nat) {x1 : Int32} {x2 : Int32} {SM : Ob} {res : Int32 × Ob} (h : f12_takeOne x1 x2 SM = some res) : GCi l yX12_takeOne wsX12_takeOne rm12_takeOne [.ref (aM 0), .int x1, .int x2] D cy ad (w12 cy aM SM) (w12 cy aM (res.2)) (res.1) := fun sz => GC.start (own := RX12) (Qc := fun A => QI D cy (w12 cy aM (res.2)) A (res.1)) sz (by decide) rfl rfl (Nat.le_of_ble_eq_true rfl) (fun p e s m below meth c A ls hC hW hl => t12_takeOne_0 hC _ _ _ _ _ _ _ h hW (lv_sub hl [0, 1, 2] rfl))
abbrev rm12_isName : Room := { frames := 2, cells := 0, slots := 0, locals := 45 }
theorem hdV12_isName : yX12_isName.cls = RX12 ∧ (yX12_isName.cls ≠ "java/lang/invoke/MethodHandle" ∧ yX12_isName.cls ≠ "java/lang/invoke/VarHandle" ∧ (parseMethodDescriptor yX12_isName.desc).map (fun d => d.parameters.length) = some 0) := by decide +kernel
theorem hin12_isName_12 : ∀ x ∈ u_ws RX12 TX12 39, x ∈ wsX12_isName := fun _ h => List.mem_cons_of_mem _ (List.mem_append_right _ h)
set_option maxRecDepth 100000 in
set_option maxHeartbeats 4000000 in
theorem t12_isName_35 (hC : Cx p s m args meth c cX12_isName 1 wsX12_isName RX12 (some .boolean)) : ∀ (z0 : Int32) (SM : Ob) (res : Int32) (H : Heap) (locs : List Loc) (ls : Array Slot), f12_isName_35 z0 SM = some res → GW D cy ad (w12 cy aM SM) A s H locs → lv_has ls 1 [] → W p l e rm12_isName s m args below meth c H locs 0 0 (MQ below (QI D cy (w12 cy aM SM) A res) args s 0 0 A) (F0 m 35 ls [.int z0]) := by
  intro z0 SM res H locs ls hf hW hl
  unfold f12_isName_35 at hf
  obtain ⟨hz, hf⟩ := ck_of hf
  obtain rfl := Option.some.inj hf
  exact g_zret hC hW hz dX12_isName_35
set_option maxRecDepth 100000 in
set_option maxHeartbeats 4000000 in
theorem t12_isName_34 (hC : Cx p s m args meth c cX12_isName 1 wsX12_isName RX12 (some .boolean)) : ∀ (SM : Ob) (res : Int32) (H : Heap) (locs : List Loc) (ls : Array Slot), f12_isName_34 SM = some res → GW D cy ad (w12 cy aM SM) A s H locs → lv_has ls 1 [] → W p l e rm12_isName s m args below meth c H locs 0 0 (MQ below (QI D cy (w12 cy aM SM) A res) args s 0 0 A) (F0 m 34 ls []) := by
  intro SM res H locs ls hf hW hl
  unfold f12_isName_34 at hf
  refine lv_iconst (v := 0) hC.1 hC.2.1 dX12_isName_34 (by decide) ?_
  exact t12_isName_35 hC  _ _ _ _ _ _ hf hW (lv_sub hl [] rfl)
set_option maxRecDepth 100000 in
set_option maxHeartbeats 4000000 in
theorem t12_isName_0 (hC : Cx p s m args meth c cX12_isName 1 wsX12_isName RX12 (some .boolean)) : ∀ (SM : Ob) (res : Int32) (H : Heap) (locs : List Loc) (ls : Array Slot), f12_isName SM = some res → GW D cy ad (w12 cy aM SM) A s H locs → lv_has ls 1 [(0, .ref (aM 0))] → W p l e rm12_isName s m args below meth c H locs 0 0 (MQ below (QI D cy (w12 cy aM SM) A res) args s 0 0 A) (F0 m 0 ls []) := by
  intro SM res H locs ls hf hW hl
  unfold f12_isName at hf
  refine lv_aload_n hC.1 hC.2.1 dX12_isName_0 rfl (lv_at hl 0 rfl) ?_
  refine g_get hC hW hin12_isName_12 0 rfl rfl 8 (by decide) 1 rfl rfl dX12_isName_1 ?_
  refine lv_if_ne (tgt := 34) hC.1 hC.2.1 dX12_isName_4 (by decide) (fun hc_1 => ?_) (fun hc_1 => ?_)
  · have hf := ite_f hf hc_1
    exact t12_isName_34 hC  _ _ _ _ _ hf hW (lv_sub hl [] rfl)
  · have hf := ite_t hf hc_1
    refine lv_aload_n hC.1 hC.2.1 dX12_isName_7 rfl (lv_at hl 0 rfl) ?_
    refine g_get hC hW hin12_isName_12 0 rfl rfl 4 (by decide) 2 rfl rfl dX12_isName_8 ?_
    refine lv_aload_n hC.1 hC.2.1 dX12_isName_11 rfl (lv_at hl 0 rfl) ?_
    refine g_get hC hW hin12_isName_12 0 rfl rfl 7 (by decide) 3 rfl rfl dX12_isName_12 ?_
    obtain ⟨hi_2, hf⟩ := ck_of hf
    refine g_iald hC hW 2 rfl hi_2 dX12_isName_15 ?_
    refine lv_iconst (v := 1) hC.1 hC.2.1 dX12_isName_16 (by decide) ?_
    refine lv_icmp_ne (tgt := 34) hC.1 hC.2.1 dX12_isName_17 (by decide) (fun hc_3 => ?_) (fun hc_3 => ?_)
    · have hf := ite_f hf hc_3
      exact t12_isName_34 hC  _ _ _ _ _ hf hW (lv_sub hl [] rfl)
    · have hf := ite_t hf hc_3
      refine lv_aload_n hC.1 hC.2.1 dX12_isName_20 rfl (lv_at hl 0 rfl) ?_
      refine lv_iconst (v := 0) hC.1 hC.2.1 dX12_isName_21 (by decide) ?_
      refine lv_bipush (v := 29) hC.1 hC.2.1 dX12_isName_22 (by decide) ?_
      obtain ⟨r_4, hg_5, hf⟩ := bd_of hf
      refine g_calliV hC hW (c12_wordHere l D cy ad aM hg_5) (cwV 2 hC.2.2.2.2.1 gX12_isName_X12_wordHere rfl rfl rfl hdV12_wordHere ⟨Nat.le_of_ble_eq_true rfl, Nat.le_of_ble_eq_true rfl⟩) (Sub.all _ _) 0 11 rfl rfl rfl rfl hl.1 rfl (Nat.le_of_ble_eq_true rfl) dX12_isName_24 ⟨Nat.zero_le _, Nat.zero_le _⟩ (fun H locs hW => ?_)
      refine lv_if_ge (tgt := 34) hC.1 hC.2.1 dX12_isName_27 (by decide) (fun hc_6 => ?_) (fun hc_6 => ?_)
      · have hf := ite_t hf hc_6
        exact t12_isName_34 hC  _ _ _ _ _ hf hW (lv_sub hl [] rfl)
      · have hf := ite_f hf hc_6
        refine lv_iconst (v := 1) hC.1 hC.2.1 dX12_isName_30 (by decide) ?_
        refine lv_goto (tgt := 35) hC.1 hC.2.1 dX12_isName_31 (by decide) ?_
        exact t12_isName_35 hC  _ _ _ _ _ _ hf hW (lv_sub hl [] rfl)
set_option maxRecDepth 100000 in
set_option maxHeartbeats 4000000 in
theorem c12_isName (l : Launch) (D : va_G) (cy : Nat → ClassId) (ad : Nat → Nat) (aM : Nat → Nat) {SM : Ob} {res : Int32} (h : f12_isName SM = some res) : GCi l yX12_isName wsX12_isName rm12_isName [.ref (aM 0)] D cy ad (w12 cy aM SM) (w12 cy aM SM) res := fun sz => GC.start (own := RX12) (Qc := fun A => QI D cy (w12 cy aM SM) A res) sz (by decide) rfl rfl (Nat.le_of_ble_eq_true rfl) (fun p e s m below meth c A ls hC hW hl => t12_isName_0 hC _ _ _ _ _ h hW (lv_sub hl [0] rfl))
abbrev rm12_find : Room := { frames := 0, cells := 0, slots := 0, locals := 0 }
theorem hdV12_find : yX12_find.cls = RX12 ∧ (yX12_find.cls ≠ "java/lang/invoke/MethodHandle" ∧ yX12_find.cls ≠ "java/lang/invoke/VarHandle" ∧ (parseMethodDescriptor yX12_find.desc).map (fun d => d.parameters.length) = some 0) := by decide +kernel
theorem hin12_find_12 : ∀ x ∈ u_ws RX12 TX12 39, x ∈ wsX12_find := fun _ h => List.mem_cons_of_mem _ (List.mem_append_right _ h)
set_option maxRecDepth 100000 in
set_option maxHeartbeats 4000000 in
theorem t12_find_81 (hC : Cx p s m args meth c cX12_find 2 wsX12_find RX12 (some .int)) : ∀ (z0 : Int32) (SM : Ob) (res : Int32) (H : Heap) (locs : List Loc) (ls : Array Slot), f12_find_81 z0 SM = some res → GW D cy ad (w12 cy aM SM) A s H locs → lv_has ls 2 [] → W p l e rm12_find s m args below meth c H locs 0 0 (MQ below (QI D cy (w12 cy aM SM) A res) args s 0 0 A) (F0 m 81 ls [.int z0]) := by
  intro z0 SM res H locs ls hf hW hl
  unfold f12_find_81 at hf
  obtain rfl := Option.some.inj hf
  exact g_iret hC hW dX12_find_81
set_option maxRecDepth 100000 in
set_option maxHeartbeats 4000000 in
theorem t12_find_46 (hC : Cx p s m args meth c cX12_find 2 wsX12_find RX12 (some .int)) {k2 : Int32 → Ob → Option (Int32)} (hk2 : ∀ (x1 : Int32) (SM : Ob) (res : Int32) (H : Heap) (locs : List Loc) (ls : Array Slot), k2 x1 SM = some res → GW D cy ad (w12 cy aM SM) A s H locs → lv_has ls 2 [(0, .ref (aM 0)), (1, .int x1)] → W p l e rm12_find s m args below meth c H locs 0 0 (MQ below (QI D cy (w12 cy aM SM) A res) args s 0 0 A) (F0 m 2 ls [])) : ∀ (x1 : Int32) (z0 : Int64) (SM : Ob) (res : Int32) (H : Heap) (locs : List Loc) (ls : Array Slot), f12_find_46 k2 x1 z0 SM = some res → GW D cy ad (w12 cy aM SM) A s H locs → lv_has ls 2 [(0, .ref (aM 0)), (1, .int x1)] → W p l e rm12_find s m args below meth c H locs 0 0 (MQ below (QI D cy (w12 cy aM SM) A res) args s 0 0 A) (F0 m 46 ls [.long z0]) := by
  intro x1 z0 SM res H locs ls hf hW hl
  unfold f12_find_46 at hf
  refine lv_aload_n hC.1 hC.2.1 dX12_find_46 rfl (lv_at hl 0 rfl) ?_
  refine g_get hC hW hin12_find_12 0 rfl rfl 6 (by decide) 6 rfl rfl dX12_find_47 ?_
  refine lv_aload_n hC.1 hC.2.1 dX12_find_50 rfl (lv_at hl 0 rfl) ?_
  refine g_get hC hW hin12_find_12 0 rfl rfl 7 (by decide) 7 rfl rfl dX12_find_51 ?_
  obtain ⟨hi_1, hf⟩ := ck_of hf
  refine g_lald hC hW 4 rfl hi_1 dX12_find_54 ?_
  refine W.lcmp hC.1 hC.2.1 dX12_find_55 ?_
  refine lv_if_ne (tgt := 82) hC.1 hC.2.1 dX12_find_56 (by decide) (fun hc_2 => ?_) (fun hc_2 => ?_)
  · have hf := ite_f hf hc_2
    obtain ⟨x1_3, ex1_3⟩ : ∃ y : Int32, y = x1 + 1 := ⟨_, rfl⟩
    have hf := lt_nm hf ex1_3
    refine lv_iinc (v := x1_3) (lv' := [(1, .int x1_3), (0, .ref (aM 0))]) hC.1 hC.2.1 dX12_find_82 hl (k := 1) rfl (by rw [ex1_3]; rfl) (by decide) rfl (fun ls hl => ?_)
    refine lv_goto (tgt := 2) hC.1 hC.2.1 dX12_find_85 (by decide) ?_
    exact hk2 _ _ _ _ _ _ hf hW (lv_sub hl [1, 0] rfl)
  · have hf := ite_t hf hc_2
    refine lv_aload_n hC.1 hC.2.1 dX12_find_59 rfl (lv_at hl 0 rfl) ?_
    refine g_get hC hW hin12_find_12 0 rfl rfl 20 (by decide) 1 rfl rfl dX12_find_60 ?_
    refine lv_if_eq (tgt := 75) hC.1 hC.2.1 dX12_find_63 (by decide) (fun hc_4 => ?_) (fun hc_4 => ?_)
    · have hf := ite_t hf hc_4
      refine lv_aload_n hC.1 hC.2.1 dX12_find_75 rfl (lv_at hl 0 rfl) ?_
      refine g_get hC hW hin12_find_12 0 rfl rfl 16 (by decide) 9 rfl rfl dX12_find_76 ?_
      refine lv_iload_n hC.1 hC.2.1 dX12_find_79 rfl (lv_at hl 1 rfl) ?_
      obtain ⟨hi_5, hf⟩ := ck_of hf
      refine g_iald hC hW 11 rfl hi_5 dX12_find_80 ?_
      exact t12_find_81 hC  _ _ _ _ _ _ hf hW (lv_sub hl [] rfl)
    · have hf := ite_f hf hc_4
      refine lv_aload_n hC.1 hC.2.1 dX12_find_66 rfl (lv_at hl 0 rfl) ?_
      refine g_get hC hW hin12_find_12 0 rfl rfl 17 (by decide) 8 rfl rfl dX12_find_67 ?_
      refine lv_iload_n hC.1 hC.2.1 dX12_find_70 rfl (lv_at hl 1 rfl) ?_
      obtain ⟨hi_6, hf⟩ := ck_of hf
      refine g_iald hC hW 12 rfl hi_6 dX12_find_71 ?_
      refine lv_goto (tgt := 81) hC.1 hC.2.1 dX12_find_72 (by decide) ?_
      exact t12_find_81 hC  _ _ _ _ _ _ hf hW (lv_sub hl [] rfl)
set_option maxRecDepth 100000 in
set_option maxHeartbeats 4000000 in
theorem t12_find_21 (hC : Cx p s m args meth c cX12_find 2 wsX12_find RX12 (some .int)) {k2 : Int32 → Ob → Option (Int32)} (hk2 : ∀ (x1 : Int32) (SM : Ob) (res : Int32) (H : Heap) (locs : List Loc) (ls : Array Slot), k2 x1 SM = some res → GW D cy ad (w12 cy aM SM) A s H locs → lv_has ls 2 [(0, .ref (aM 0)), (1, .int x1)] → W p l e rm12_find s m args below meth c H locs 0 0 (MQ below (QI D cy (w12 cy aM SM) A res) args s 0 0 A) (F0 m 2 ls [])) : ∀ (x1 : Int32) (z0 : Int32) (z1 : Int32) (SM : Ob) (res : Int32) (H : Heap) (locs : List Loc) (ls : Array Slot), f12_find_21 k2 x1 z0 z1 SM = some res → GW D cy ad (w12 cy aM SM) A s H locs → lv_has ls 2 [(0, .ref (aM 0)), (1, .int x1)] → W p l e rm12_find s m args below meth c H locs 0 0 (MQ below (QI D cy (w12 cy aM SM) A res) args s 0 0 A) (F0 m 21 ls [.int z1, .int z0]) := by
  intro x1 z0 z1 SM res H locs ls hf hW hl
  unfold f12_find_21 at hf
  refine lv_icmp_ge (tgt := 88) hC.1 hC.2.1 dX12_find_21 (by decide) (fun hc_1 => ?_) (fun hc_1 => ?_)
  · have hf := ite_t hf hc_1
    refine lv_iconst (v := (-1)) hC.1 hC.2.1 dX12_find_88 (by decide) ?_
    obtain rfl := Option.some.inj hf
    exact g_iret hC hW dX12_find_89
  · have hf := ite_f hf hc_1
    refine lv_aload_n hC.1 hC.2.1 dX12_find_24 rfl (lv_at hl 0 rfl) ?_
    refine g_get hC hW hin12_find_12 0 rfl rfl 20 (by decide) 1 rfl rfl dX12_find_25 ?_
    refine lv_if_eq (tgt := 40) hC.1 hC.2.1 dX12_find_28 (by decide) (fun hc_2 => ?_) (fun hc_2 => ?_)
    · have hf := ite_t hf hc_2
      refine lv_aload_n hC.1 hC.2.1 dX12_find_40 rfl (lv_at hl 0 rfl) ?_
      refine g_get hC hW hin12_find_12 0 rfl rfl 14 (by decide) 5 rfl rfl dX12_find_41 ?_
      refine lv_iload_n hC.1 hC.2.1 dX12_find_44 rfl (lv_at hl 1 rfl) ?_
      obtain ⟨hi_3, hf⟩ := ck_of hf
      refine g_lald hC hW 9 rfl hi_3 dX12_find_45 ?_
      exact t12_find_46 hC hk2  _ _ _ _ _ _ _ hf hW (lv_sub hl [0, 1] rfl)
    · have hf := ite_f hf hc_2
      refine lv_aload_n hC.1 hC.2.1 dX12_find_31 rfl (lv_at hl 0 rfl) ?_
      refine g_get hC hW hin12_find_12 0 rfl rfl 15 (by decide) 4 rfl rfl dX12_find_32 ?_
      refine lv_iload_n hC.1 hC.2.1 dX12_find_35 rfl (lv_at hl 1 rfl) ?_
      obtain ⟨hi_4, hf⟩ := ck_of hf
      refine g_lald hC hW 10 rfl hi_4 dX12_find_36 ?_
      refine lv_goto (tgt := 46) hC.1 hC.2.1 dX12_find_37 (by decide) ?_
      exact t12_find_46 hC hk2  _ _ _ _ _ _ _ hf hW (lv_sub hl [0, 1] rfl)
set_option maxRecDepth 100000 in
set_option maxHeartbeats 4000000 in
theorem t12_find_2 (hC : Cx p s m args meth c cX12_find 2 wsX12_find RX12 (some .int)) : ∀ n : Nat, ∀ (x1 : Int32) (SM : Ob) (res : Int32) (H : Heap) (locs : List Loc) (ls : Array Slot), f12_find_2 n x1 SM = some res → GW D cy ad (w12 cy aM SM) A s H locs → lv_has ls 2 [(0, .ref (aM 0)), (1, .int x1)] → W p l e rm12_find s m args below meth c H locs 0 0 (MQ below (QI D cy (w12 cy aM SM) A res) args s 0 0 A) (F0 m 2 ls []) := by
  intro n
  induction n with
  | zero =>
    intro _ _ _ _ _ _ hf _ _
    exact nomatch (show (none : Option (Int32)) = some _ from hf)
  | succ n ih =>
    intro x1 SM res H locs ls hf hW hl
    rw [f12_find_2] at hf
    refine lv_iload_n hC.1 hC.2.1 dX12_find_2 rfl (lv_at hl 1 rfl) ?_
    refine lv_aload_n hC.1 hC.2.1 dX12_find_3 rfl (lv_at hl 0 rfl) ?_
    refine g_get hC hW hin12_find_12 0 rfl rfl 20 (by decide) 1 rfl rfl dX12_find_4 ?_
    refine lv_if_eq (tgt := 17) hC.1 hC.2.1 dX12_find_7 (by decide) (fun hc_1 => ?_) (fun hc_1 => ?_)
    · have hf := ite_t hf hc_1
      refine lv_aload_n hC.1 hC.2.1 dX12_find_17 rfl (lv_at hl 0 rfl) ?_
      refine g_get hC hW hin12_find_12 0 rfl rfl 18 (by decide) 3 rfl rfl dX12_find_18 ?_
      exact t12_find_21 hC ih  _ _ _ _ _ _ _ _ hf hW (lv_sub hl [0, 1] rfl)
    · have hf := ite_f hf hc_1
      refine lv_aload_n hC.1 hC.2.1 dX12_find_10 rfl (lv_at hl 0 rfl) ?_
      refine g_get hC hW hin12_find_12 0 rfl rfl 19 (by decide) 2 rfl rfl dX12_find_11 ?_
      refine lv_goto (tgt := 21) hC.1 hC.2.1 dX12_find_14 (by decide) ?_
      exact t12_find_21 hC ih  _ _ _ _ _ _ _ _ hf hW (lv_sub hl [0, 1] rfl)
set_option maxRecDepth 100000 in
set_option maxHeartbeats 4000000 in
theorem t12_find_0 (hC : Cx p s m args meth c cX12_find 2 wsX12_find RX12 (some .int)) : ∀ (SM : Ob) (res : Int32) (H : Heap) (locs : List Loc) (ls : Array Slot), f12_find SM = some res → GW D cy ad (w12 cy aM SM) A s H locs → lv_has ls 2 [(0, .ref (aM 0))] → W p l e rm12_find s m args below meth c H locs 0 0 (MQ below (QI D cy (w12 cy aM SM) A res) args s 0 0 A) (F0 m 0 ls []) := by
  intro SM res H locs ls hf hW hl
  unfold f12_find at hf
  refine lv_iconst (v := 0) hC.1 hC.2.1 dX12_find_0 (by decide) ?_
  refine lv_istore_n (lv' := [(1, .int 0), (0, .ref (aM 0))]) hC.1 hC.2.1 dX12_find_1 rfl hl (by decide) rfl (fun ls hl => ?_)
  exact t12_find_2 hC _ _ _ _ _ _ _ hf hW (lv_sub hl [1, 0] rfl)
set_option maxRecDepth 100000 in
set_option maxHeartbeats 4000000 in
theorem c12_find (l : Launch) (D : va_G) (cy : Nat → ClassId) (ad : Nat → Nat) (aM : Nat → Nat) {SM : Ob} {res : Int32} (h : f12_find SM = some res) : GCi l yX12_find wsX12_find rm12_find [.ref (aM 0)] D cy ad (w12 cy aM SM) (w12 cy aM SM) res := fun sz => GC.start (own := RX12) (Qc := fun A => QI D cy (w12 cy aM SM) A res) sz (by decide) rfl rfl (Nat.le_of_ble_eq_true rfl) (fun p e s m below meth c A ls hC hW hl => t12_find_0 hC _ _ _ _ _ h hW (lv_sub hl [0] rfl))
abbrev rm12_toldHere : Room := { frames := 3, cells := 0, slots := 0, locals := 65 }
theorem hdV12_toldHere : yX12_toldHere.cls = RX12 ∧ (yX12_toldHere.cls ≠ "java/lang/invoke/MethodHandle" ∧ yX12_toldHere.cls ≠ "java/lang/invoke/VarHandle" ∧ (parseMethodDescriptor yX12_toldHere.desc).map (fun d => d.parameters.length) = some 2) := by decide +kernel
theorem hin12_toldHere_12 : ∀ x ∈ u_ws RX12 TX12 39, x ∈ wsX12_toldHere := fun _ h => List.mem_cons_of_mem _ (List.mem_append_right _ h)
set_option maxRecDepth 100000 in
set_option maxHeartbeats 4000000 in
theorem t12_toldHere_72 (hC : Cx p s m args meth c cX12_toldHere 4 wsX12_toldHere RX12 (some .int)) : ∀ (z0 : Int32) (SM : Ob) (res : Int32 × Ob) (H : Heap) (locs : List Loc) (ls : Array Slot), f12_toldHere_72 z0 SM = some res → GW D cy ad (w12 cy aM SM) A s H locs → lv_has ls 4 [] → W p l e rm12_toldHere s m args below meth c H locs 0 0 (MQ below (QI D cy (w12 cy aM (res.2)) A (res.1)) args s 0 0 A) (F0 m 72 ls [.int z0]) := by
  intro z0 SM res H locs ls hf hW hl
  unfold f12_toldHere_72 at hf
  obtain rfl := Option.some.inj hf
  exact g_iret hC hW dX12_toldHere_72
set_option maxRecDepth 100000 in
set_option maxHeartbeats 4000000 in
theorem t12_toldHere_60 (hC : Cx p s m args meth c cX12_toldHere 4 wsX12_toldHere RX12 (some .int)) : ∀ (x3 : Int32) (SM : Ob) (res : Int32 × Ob) (H : Heap) (locs : List Loc) (ls : Array Slot), f12_toldHere_60 x3 SM = some res → GW D cy ad (w12 cy aM SM) A s H locs → lv_has ls 4 [(0, .ref (aM 0)), (3, .int x3)] → W p l e rm12_toldHere s m args below meth c H locs 0 0 (MQ below (QI D cy (w12 cy aM (res.2)) A (res.1)) args s 0 0 A) (F0 m 60 ls []) := by
  intro x3 SM res H locs ls hf hW hl
  unfold f12_toldHere_60 at hf
  refine lv_aload_n hC.1 hC.2.1 dX12_toldHere_60 rfl (lv_at hl 0 rfl) ?_
  refine g_get hC hW hin12_toldHere_12 0 rfl rfl 8 (by decide) 1 rfl rfl dX12_toldHere_61 ?_
  refine lv_if_le (tgt := 71) hC.1 hC.2.1 dX12_toldHere_64 (by decide) (fun hc_1 => ?_) (fun hc_1 => ?_)
  · have hf := ite_t hf hc_1
    refine lv_iload_n hC.1 hC.2.1 dX12_toldHere_71 rfl (lv_at hl 1 rfl) ?_
    exact t12_toldHere_72 hC  _ _ _ _ _ _ hf hW (lv_sub hl [] rfl)
  · have hf := ite_f hf hc_1
    refine lv_iconst (v := 0) hC.1 hC.2.1 dX12_toldHere_67 (by decide) ?_
    refine lv_goto (tgt := 72) hC.1 hC.2.1 dX12_toldHere_68 (by decide) ?_
    exact t12_toldHere_72 hC  _ _ _ _ _ _ hf hW (lv_sub hl [] rfl)
set_option maxRecDepth 100000 in
set_option maxHeartbeats 4000000 in
theorem t12_toldHere_36 (hC : Cx p s m args meth c cX12_toldHere 4 wsX12_toldHere RX12 (some .int)) : ∀ (x2 : Int32) (z0 : Int32) (SM : Ob) (res : Int32 × Ob) (H : Heap) (locs : List Loc) (ls : Array Slot), f12_toldHere_36 x2 z0 SM = some res → GW D cy ad (w12 cy aM SM) A s H locs → lv_has ls 4 [(0, .ref (aM 0)), (2, .int x2)] → W p l e rm12_toldHere s m args below meth c H locs 0 0 (MQ below (QI D cy (w12 cy aM (res.2)) A (res.1)) args s 0 0 A) (F0 m 36 ls [.int z0]) := by
  intro x2 z0 SM res H locs ls hf hW hl
  unfold f12_toldHere_36 at hf
  refine lv_istore_n (lv' := [(3, .int z0), (0, .ref (aM 0)), (2, .int x2)]) hC.1 hC.2.1 dX12_toldHere_36 rfl hl (by decide) rfl (fun ls hl => ?_)
  refine lv_aload_n hC.1 hC.2.1 dX12_toldHere_37 rfl (lv_at hl 1 rfl) ?_
  refine g_get hC hW hin12_toldHere_12 0 rfl rfl 8 (by decide) 1 rfl rfl dX12_toldHere_38 ?_
  refine lv_if_ne (tgt := 60) hC.1 hC.2.1 dX12_toldHere_41 (by decide) (fun hc_1 => ?_) (fun hc_1 => ?_)
  · have hf := ite_f hf hc_1
    exact t12_toldHere_60 hC  _ _ _ _ _ _ hf hW (lv_sub hl [1, 0] rfl)
  · have hf := ite_t hf hc_1
    refine lv_iload_n hC.1 hC.2.1 dX12_toldHere_44 rfl (lv_at hl 0 rfl) ?_
    refine lv_iconst (v := 0) hC.1 hC.2.1 dX12_toldHere_45 (by decide) ?_
    refine lv_iload_n hC.1 hC.2.1 dX12_toldHere_46 rfl (lv_at hl 2 rfl) ?_
    refine lv_iconst (v := 1) hC.1 hC.2.1 dX12_toldHere_47 (by decide) ?_
    refine lv_isub hC.1 hC.2.1 dX12_toldHere_48 ?_
    obtain ⟨r_2, hg_3, hf⟩ := bd_of hf
    refine g_calliS hC hW (c12_within l D cy ad  hg_3) (va_cwS 3 hC.2.2.2.2.1 gX12_toldHere_X12_within rfl rfl rfl hdS12_within ⟨Nat.le_of_ble_eq_true rfl, Nat.le_of_ble_eq_true rfl⟩) (Sub.nil _) rfl hl.1 rfl (Nat.le_of_ble_eq_true rfl) dX12_toldHere_49 ⟨Nat.zero_le _, Nat.zero_le _⟩ (fun H locs hW => ?_)
    refine lv_if_ne (tgt := 60) hC.1 hC.2.1 dX12_toldHere_52 (by decide) (fun hc_4 => ?_) (fun hc_4 => ?_)
    · have hf := ite_f hf hc_4
      exact t12_toldHere_60 hC  _ _ _ _ _ _ hf hW (lv_sub hl [1, 0] rfl)
    · have hf := ite_t hf hc_4
      refine lv_aload_n hC.1 hC.2.1 dX12_toldHere_55 rfl (lv_at hl 1 rfl) ?_
      refine lv_iconst (v := 2) hC.1 hC.2.1 dX12_toldHere_56 (by decide) ?_
      obtain ⟨r_5, hg_6, hf⟩ := bd_of hf
      refine g_callvV hC hW (c12_wrong l D cy ad aM hg_6) (cwV 1 hC.2.2.2.2.1 gX12_toldHere_X12_wrong rfl rfl rfl hdV12_wrong ⟨Nat.le_of_ble_eq_true rfl, Nat.le_of_ble_eq_true rfl⟩) (Sub.all _ _) 0 11 rfl rfl rfl rfl hl.1 rfl (Nat.le_of_ble_eq_true rfl) dX12_toldHere_57 ⟨Nat.zero_le _, Nat.zero_le _⟩ (fun H locs hW => ?_)
      exact t12_toldHere_60 hC  _ _ _ _ _ _ hf hW (lv_sub hl [1, 0] rfl)
set_option maxRecDepth 100000 in
set_option maxHeartbeats 4000000 in
theorem t12_toldHere_19 (hC : Cx p s m args meth c cX12_toldHere 4 wsX12_toldHere RX12 (some .int)) : ∀ (x1 : Int32) (x2 : Int32) (SM : Ob) (res : Int32 × Ob) (H : Heap) (locs : List Loc) (ls : Array Slot), f12_toldHere_19 x1 x2 SM = some res → GW D cy ad (w12 cy aM SM) A s H locs → lv_has ls 4 [(0, .ref (aM 0)), (1, .int x1), (2, .int x2)] → W p l e rm12_toldHere s m args below meth c H locs 0 0 (MQ below (QI D cy (w12 cy aM (res.2)) A (res.1)) args s 0 0 A) (F0 m 19 ls []) := by
  intro x1 x2 SM res H locs ls hf hW hl
  unfold f12_toldHere_19 at hf
  refine lv_aload_n hC.1 hC.2.1 dX12_toldHere_19 rfl (lv_at hl 0 rfl) ?_
  refine g_get hC hW hin12_toldHere_12 0 rfl rfl 8 (by decide) 1 rfl rfl dX12_toldHere_20 ?_
  refine lv_if_le (tgt := 30) hC.1 hC.2.1 dX12_toldHere_23 (by decide) (fun hc_1 => ?_) (fun hc_1 => ?_)
  · have hf := ite_t hf hc_1
    refine lv_aload_n hC.1 hC.2.1 dX12_toldHere_30 rfl (lv_at hl 0 rfl) ?_
    obtain ⟨r_2, hg_3, hf⟩ := bd_of hf
    refine g_calliV hC hW (c12_find l D cy ad aM hg_3) (cwV 0 hC.2.2.2.2.1 gX12_toldHere_X12_find rfl rfl rfl hdV12_find ⟨Nat.le_of_ble_eq_true rfl, Nat.le_of_ble_eq_true rfl⟩) (Sub.all _ _) 0 11 rfl rfl rfl rfl hl.1 rfl (Nat.le_of_ble_eq_true rfl) dX12_toldHere_31 ⟨Nat.zero_le _, Nat.zero_le _⟩ (fun H locs hW => ?_)
    refine lv_iload_n hC.1 hC.2.1 dX12_toldHere_34 rfl (lv_at hl 1 rfl) ?_
    refine lv_isub hC.1 hC.2.1 dX12_toldHere_35 ?_
    exact t12_toldHere_36 hC  _ _ _ _ _ _ _ hf hW (lv_sub hl [0, 2] rfl)
  · have hf := ite_f hf hc_1
    refine lv_iconst (v := (-1)) hC.1 hC.2.1 dX12_toldHere_26 (by decide) ?_
    refine lv_goto (tgt := 36) hC.1 hC.2.1 dX12_toldHere_27 (by decide) ?_
    exact t12_toldHere_36 hC  _ _ _ _ _ _ _ hf hW (lv_sub hl [0, 2] rfl)
set_option maxRecDepth 100000 in
set_option maxHeartbeats 4000000 in
theorem t12_toldHere_0 (hC : Cx p s m args meth c cX12_toldHere 4 wsX12_toldHere RX12 (some .int)) : ∀ (x1 : Int32) (x2 : Int32) (SM : Ob) (res : Int32 × Ob) (H : Heap) (locs : List Loc) (ls : Array Slot), f12_toldHere x1 x2 SM = some res → GW D cy ad (w12 cy aM SM) A s H locs → lv_has ls 4 [(0, .ref (aM 0)), (1, .int x1), (2, .int x2)] → W p l e rm12_toldHere s m args below meth c H locs 0 0 (MQ below (QI D cy (w12 cy aM (res.2)) A (res.1)) args s 0 0 A) (F0 m 0 ls []) := by
  intro x1 x2 SM res H locs ls hf hW hl
  unfold f12_toldHere at hf
  refine lv_aload_n hC.1 hC.2.1 dX12_toldHere_0 rfl (lv_at hl 0 rfl) ?_
  refine g_get hC hW hin12_toldHere_12 0 rfl rfl 8 (by decide) 1 rfl rfl dX12_toldHere_1 ?_
  refine lv_if_ne (tgt := 19) hC.1 hC.2.1 dX12_toldHere_4 (by decide) (fun hc_1 => ?_) (fun hc_1 => ?_)
  · have hf := ite_f hf hc_1
    exact t12_toldHere_19 hC  _ _ _ _ _ _ _ hf hW (lv_sub hl [0, 1, 2] rfl)
  · have hf := ite_t hf hc_1
    refine lv_aload_n hC.1 hC.2.1 dX12_toldHere_7 rfl (lv_at hl 0 rfl) ?_
    obtain ⟨r_2, hg_3, hf⟩ := bd_of hf
    refine g_calliV hC hW (c12_isName l D cy ad aM hg_3) (cwV 0 hC.2.2.2.2.1 gX12_toldHere_X12_isName rfl rfl rfl hdV12_isName ⟨Nat.le_of_ble_eq_true rfl, Nat.le_of_ble_eq_true rfl⟩) (Sub.all _ _) 0 11 rfl rfl rfl rfl hl.1 rfl (Nat.le_of_ble_eq_true rfl) dX12_toldHere_8 ⟨Nat.zero_le _, Nat.zero_le _⟩ (fun H locs hW => ?_)
    refine lv_if_ne (tgt := 19) hC.1 hC.2.1 dX12_toldHere_11 (by decide) (fun hc_4 => ?_) (fun hc_4 => ?_)
    · have hf := ite_f hf hc_4
      exact t12_toldHere_19 hC  _ _ _ _ _ _ _ hf hW (lv_sub hl [0, 1, 2] rfl)
    · have hf := ite_t hf hc_4
      refine lv_aload_n hC.1 hC.2.1 dX12_toldHere_14 rfl (lv_at hl 0 rfl) ?_
      refine lv_iconst (v := 1) hC.1 hC.2.1 dX12_toldHere_15 (by decide) ?_
      obtain ⟨r_5, hg_6, hf⟩ := bd_of hf
      refine g_callvV hC hW (c12_wrong l D cy ad aM hg_6) (cwV 1 hC.2.2.2.2.1 gX12_toldHere_X12_wrong rfl rfl rfl hdV12_wrong ⟨Nat.le_of_ble_eq_true rfl, Nat.le_of_ble_eq_true rfl⟩) (Sub.all _ _) 0 11 rfl rfl rfl rfl hl.1 rfl (Nat.le_of_ble_eq_true rfl) dX12_toldHere_16 ⟨Nat.zero_le _, Nat.zero_le _⟩ (fun H locs hW => ?_)
      exact t12_toldHere_19 hC  _ _ _ _ _ _ _ hf hW (lv_sub hl [0, 1, 2] rfl)
set_option maxRecDepth 100000 in
set_option maxHeartbeats 4000000 in
theorem c12_toldHere (l : Launch) (D : va_G) (cy : Nat → ClassId) (ad : Nat → Nat) (aM : Nat → Nat) {x1 : Int32} {x2 : Int32} {SM : Ob} {res : Int32 × Ob} (h : f12_toldHere x1 x2 SM = some res) : GCi l yX12_toldHere wsX12_toldHere rm12_toldHere [.ref (aM 0), .int x1, .int x2] D cy ad (w12 cy aM SM) (w12 cy aM (res.2)) (res.1) := fun sz => GC.start (own := RX12) (Qc := fun A => QI D cy (w12 cy aM (res.2)) A (res.1)) sz (by decide) rfl rfl (Nat.le_of_ble_eq_true rfl) (fun p e s m below meth c A ls hC hW hl => t12_toldHere_0 hC _ _ _ _ _ _ _ h hW (lv_sub hl [0, 1, 2] rfl))
abbrev rm12_takeTold : Room := { frames := 4, cells := 0, slots := 0, locals := 88 }
theorem hdV12_takeTold : yX12_takeTold.cls = RX12 ∧ (yX12_takeTold.cls ≠ "java/lang/invoke/MethodHandle" ∧ yX12_takeTold.cls ≠ "java/lang/invoke/VarHandle" ∧ (parseMethodDescriptor yX12_takeTold.desc).map (fun d => d.parameters.length) = some 2) := by decide +kernel
theorem hin12_takeTold_12 : ∀ x ∈ u_ws RX12 TX12 39, x ∈ wsX12_takeTold := fun _ h => List.mem_cons_of_mem _ (List.mem_append_right _ h)
set_option maxRecDepth 100000 in
set_option maxHeartbeats 4000000 in
theorem t12_takeTold_24 (hC : Cx p s m args meth c cX12_takeTold 4 wsX12_takeTold RX12 (some .int)) : ∀ (x3 : Int32) (z1 : Int32) (z2 : Int32) (SM : Ob) (res : Int32 × Ob) (H : Heap) (locs : List Loc) (ls : Array Slot), f12_takeTold_24 x3 z1 z2 SM = some res → GW D cy ad (w12 cy aM SM) A s H locs → lv_has ls 4 [(3, .int x3)] → W p l e rm12_takeTold s m args below meth c H locs 0 0 (MQ below (QI D cy (w12 cy aM (res.2)) A (res.1)) args s 0 0 A) (F0 m 24 ls [.int z2, .int z1, .ref (aM 0)]) := by
  intro x3 z1 z2 SM res H locs ls hf hW hl
  unfold f12_takeTold_24 at hf
  refine lv_iadd hC.1 hC.2.1 dX12_takeTold_24 ?_
  obtain ⟨SM_1, eSM_1⟩ : ∃ y : Ob, y = oI SM 7 (z1 + z2) := ⟨_, rfl⟩
  have hf := lt_nm hf eSM_1
  refine g_put hC hW hin12_takeTold_12 tyX12 tyX12_ok nmX12 0 rfl rfl 7 (by decide) 1 rfl rfl rfl rfl (Nat.le_of_ble_eq_true rfl) (w' := w12 cy aM SM_1) (by rw [eSM_1]; rfl) dX12_takeTold_25 (fun H locs hW => ?_)
  refine lv_iload_n hC.1 hC.2.1 dX12_takeTold_28 rfl (lv_at hl 0 rfl) ?_
  obtain rfl := Option.some.inj hf
  exact g_iret hC hW dX12_takeTold_29
set_option maxRecDepth 100000 in
set_option maxHeartbeats 4000000 in
theorem t12_takeTold_0 (hC : Cx p s m args meth c cX12_takeTold 4 wsX12_takeTold RX12 (some .int)) : ∀ (x1 : Int32) (x2 : Int32) (SM : Ob) (res : Int32 × Ob) (H : Heap) (locs : List Loc) (ls : Array Slot), f12_takeTold x1 x2 SM = some res → GW D cy ad (w12 cy aM SM) A s H locs → lv_has ls 4 [(0, .ref (aM 0)), (1, .int x1), (2, .int x2)] → W p l e rm12_takeTold s m args below meth c H locs 0 0 (MQ below (QI D cy (w12 cy aM (res.2)) A (res.1)) args s 0 0 A) (F0 m 0 ls []) := by
  intro x1 x2 SM res H locs ls hf hW hl
  unfold f12_takeTold at hf
  refine lv_aload_n hC.1 hC.2.1 dX12_takeTold_0 rfl (lv_at hl 0 rfl) ?_
  refine lv_iload_n hC.1 hC.2.1 dX12_takeTold_1 rfl (lv_at hl 1 rfl) ?_
  refine lv_iload_n hC.1 hC.2.1 dX12_takeTold_2 rfl (lv_at hl 2 rfl) ?_
  obtain ⟨r_1, hg_2, hf⟩ := bd_of hf
  refine g_calliV hC hW (c12_toldHere l D cy ad aM hg_2) (cwV 2 hC.2.2.2.2.1 gX12_takeTold_X12_toldHere rfl rfl rfl hdV12_toldHere ⟨Nat.le_of_ble_eq_true rfl, Nat.le_of_ble_eq_true rfl⟩) (Sub.all _ _) 0 11 rfl rfl rfl rfl hl.1 rfl (Nat.le_of_ble_eq_true rfl) dX12_takeTold_3 ⟨Nat.zero_le _, Nat.zero_le _⟩ (fun H locs hW => ?_)
  refine lv_topi (fun x3_3 ex3_3 => ?_)
  have hf := lt_nm hf ex3_3
  refine lv_istore_n (lv' := [(3, .int x3_3), (0, .ref (aM 0)), (1, .int x1), (2, .int x2)]) hC.1 hC.2.1 dX12_takeTold_6 rfl hl (by decide) rfl (fun ls hl => ?_)
  refine lv_aload_n hC.1 hC.2.1 dX12_takeTold_7 rfl (lv_at hl 1 rfl) ?_
  refine lv_dup hC.1 hC.2.1 dX12_takeTold_8 rfl ?_
  refine g_get hC hW hin12_takeTold_12 0 rfl rfl 7 (by decide) 1 rfl rfl dX12_takeTold_9 ?_
  refine lv_aload_n hC.1 hC.2.1 dX12_takeTold_12 rfl (lv_at hl 1 rfl) ?_
  refine g_get hC hW hin12_takeTold_12 0 rfl rfl 8 (by decide) 2 rfl rfl dX12_takeTold_13 ?_
  refine lv_if_le (tgt := 23) hC.1 hC.2.1 dX12_takeTold_16 (by decide) (fun hc_4 => ?_) (fun hc_4 => ?_)
  · have hf := ite_t hf hc_4
    refine lv_iconst (v := 1) hC.1 hC.2.1 dX12_takeTold_23 (by decide) ?_
    exact t12_takeTold_24 hC  _ _ _ _ _ _ _ _ hf hW (lv_sub hl [0] rfl)
  · have hf := ite_f hf hc_4
    refine lv_iconst (v := 0) hC.1 hC.2.1 dX12_takeTold_19 (by decide) ?_
    refine lv_goto (tgt := 24) hC.1 hC.2.1 dX12_takeTold_20 (by decide) ?_
    exact t12_takeTold_24 hC  _ _ _ _ _ _ _ _ hf hW (lv_sub hl [0] rfl)
set_option maxRecDepth 100000 in
set_option maxHeartbeats 4000000 in
theorem c12_takeTold (l : Launch) (D : va_G) (cy : Nat → ClassId) (ad : Nat → Nat) (aM : Nat → Nat) {x1 : Int32} {x2 : Int32} {SM : Ob} {res : Int32 × Ob} (h : f12_takeTold x1 x2 SM = some res) : GCi l yX12_takeTold wsX12_takeTold rm12_takeTold [.ref (aM 0), .int x1, .int x2] D cy ad (w12 cy aM SM) (w12 cy aM (res.2)) (res.1) := fun sz => GC.start (own := RX12) (Qc := fun A => QI D cy (w12 cy aM (res.2)) A (res.1)) sz (by decide) rfl rfl (Nat.le_of_ble_eq_true rfl) (fun p e s m below meth c A ls hC hW hl => t12_takeTold_0 hC _ _ _ _ _ _ _ h hW (lv_sub hl [0, 1, 2] rfl))
abbrev rm12_readName : Room := { frames := 3, cells := 0, slots := 0, locals := 65 }
theorem hdV12_readName : yX12_readName.cls = RX12 ∧ (yX12_readName.cls ≠ "java/lang/invoke/MethodHandle" ∧ yX12_readName.cls ≠ "java/lang/invoke/VarHandle" ∧ (parseMethodDescriptor yX12_readName.desc).map (fun d => d.parameters.length) = some 1) := by decide +kernel
theorem hin12_readName_12 : ∀ x ∈ u_ws RX12 TX12 39, x ∈ wsX12_readName := fun _ h => List.mem_cons_of_mem _ (List.mem_append_right _ h)
set_option maxRecDepth 100000 in
set_option maxHeartbeats 4000000 in
theorem t12_readName_92 (hC : Cx p s m args meth c cX12_readName 2 wsX12_readName RX12 none) : ∀ (SM : Ob) (res : Ob) (H : Heap) (locs : List Loc) (ls : Array Slot), f12_readName_92 SM = some res → GW D cy ad (w12 cy aM SM) A s H locs → lv_has ls 2 [] → W p l e rm12_readName s m args below meth c H locs 0 0 (MQ below (QV D cy (w12 cy aM res) A) args s 0 0 A) (F0 m 92 ls []) := by
  intro SM res H locs ls hf hW hl
  unfold f12_readName_92 at hf
  obtain rfl := Option.some.inj hf
  exact g_vret hC hW dX12_readName_92
set_option maxRecDepth 100000 in
set_option maxHeartbeats 4000000 in
theorem t12_readName_37 (hC : Cx p s m args meth c cX12_readName 2 wsX12_readName RX12 none) : ∀ (x1 : Int32) (SM : Ob) (res : Ob) (H : Heap) (locs : List Loc) (ls : Array Slot), f12_readName_37 x1 SM = some res → GW D cy ad (w12 cy aM SM) A s H locs → lv_has ls 2 [(0, .ref (aM 0)), (1, .int x1)] → W p l e rm12_readName s m args below meth c H locs 0 0 (MQ below (QV D cy (w12 cy aM res) A) args s 0 0 A) (F0 m 37 ls []) := by
  intro x1 SM res H locs ls hf hW hl
  unfold f12_readName_37 at hf
  refine lv_aload_n hC.1 hC.2.1 dX12_readName_37 rfl (lv_at hl 0 rfl) ?_
  refine g_get hC hW hin12_readName_12 0 rfl rfl 8 (by decide) 2 rfl rfl dX12_readName_38 ?_
  refine lv_if_ne (tgt := 92) hC.1 hC.2.1 dX12_readName_41 (by decide) (fun hc_1 => ?_) (fun hc_1 => ?_)
  · have hf := ite_f hf hc_1
    exact t12_readName_92 hC  _ _ _ _ _ hf hW (lv_sub hl [] rfl)
  · have hf := ite_t hf hc_1
    refine lv_aload_n hC.1 hC.2.1 dX12_readName_44 rfl (lv_at hl 0 rfl) ?_
    refine g_get hC hW hin12_readName_12 0 rfl rfl 15 (by decide) 3 rfl rfl dX12_readName_45 ?_
    refine lv_aload_n hC.1 hC.2.1 dX12_readName_48 rfl (lv_at hl 0 rfl) ?_
    refine g_get hC hW hin12_readName_12 0 rfl rfl 19 (by decide) 4 rfl rfl dX12_readName_49 ?_
    refine lv_aload_n hC.1 hC.2.1 dX12_readName_52 rfl (lv_at hl 0 rfl) ?_
    refine g_get hC hW hin12_readName_12 0 rfl rfl 6 (by decide) 5 rfl rfl dX12_readName_53 ?_
    refine lv_aload_n hC.1 hC.2.1 dX12_readName_56 rfl (lv_at hl 0 rfl) ?_
    refine g_get hC hW hin12_readName_12 0 rfl rfl 7 (by decide) 1 rfl rfl dX12_readName_57 ?_
    obtain ⟨hi_2, hf⟩ := ck_of hf
    refine g_lald hC hW 4 rfl hi_2 dX12_readName_60 ?_
    obtain ⟨hi_3, hf⟩ := ck_of hf
    obtain ⟨SM_4, eSM_4⟩ : ∃ y : Ob, y = oJ SM 15 (Int32.toNatClampNeg (SM.1 19)) (SM.2.2.2 6 (Int32.toNatClampNeg (SM.1 7))) := ⟨_, rfl⟩
    have hf := lt_nm hf eSM_4
    refine g_last hC hW 10 rfl hi_3 (w' := w12 cy aM SM_4) (by rw [eSM_4]; rfl) dX12_readName_61 (fun H locs hW => ?_)
    refine lv_aload_n hC.1 hC.2.1 dX12_readName_62 rfl (lv_at hl 0 rfl) ?_
    refine g_get hC hW hin12_readName_12 0 rfl rfl 17 (by decide) 6 rfl rfl dX12_readName_63 ?_
    refine lv_aload_n hC.1 hC.2.1 dX12_readName_66 rfl (lv_at hl 0 rfl) ?_
    refine g_get hC hW hin12_readName_12 0 rfl rfl 19 (by decide) 4 rfl rfl dX12_readName_67 ?_
    refine lv_iload_n hC.1 hC.2.1 dX12_readName_70 rfl (lv_at hl 1 rfl) ?_
    obtain ⟨hi_5, hf⟩ := ck_of hf
    obtain ⟨SM_6, eSM_6⟩ : ∃ y : Ob, y = oA SM_4 17 (Int32.toNatClampNeg (SM_4.1 19)) x1 := ⟨_, rfl⟩
    have hf := lt_nm hf eSM_6
    refine g_iast hC hW 12 rfl hi_5 (w' := w12 cy aM SM_6) (by rw [eSM_6]; rfl) dX12_readName_71 (fun H locs hW => ?_)
    refine lv_aload_n hC.1 hC.2.1 dX12_readName_72 rfl (lv_at hl 0 rfl) ?_
    refine lv_dup hC.1 hC.2.1 dX12_readName_73 rfl ?_
    refine g_get hC hW hin12_readName_12 0 rfl rfl 19 (by decide) 4 rfl rfl dX12_readName_74 ?_
    refine lv_iconst (v := 1) hC.1 hC.2.1 dX12_readName_77 (by decide) ?_
    refine lv_iadd hC.1 hC.2.1 dX12_readName_78 ?_
    obtain ⟨SM_7, eSM_7⟩ : ∃ y : Ob, y = oI SM_6 19 ((SM_6.1 19) + 1) := ⟨_, rfl⟩
    have hf := lt_nm hf eSM_7
    refine g_put hC hW hin12_readName_12 tyX12 tyX12_ok nmX12 0 rfl rfl 19 (by decide) 4 rfl rfl rfl rfl (Nat.le_of_ble_eq_true rfl) (w' := w12 cy aM SM_7) (by rw [eSM_7]; rfl) dX12_readName_79 (fun H locs hW => ?_)
    refine lv_aload_n hC.1 hC.2.1 dX12_readName_82 rfl (lv_at hl 0 rfl) ?_
    refine lv_dup hC.1 hC.2.1 dX12_readName_83 rfl ?_
    refine g_get hC hW hin12_readName_12 0 rfl rfl 7 (by decide) 1 rfl rfl dX12_readName_84 ?_
    refine lv_iconst (v := 1) hC.1 hC.2.1 dX12_readName_87 (by decide) ?_
    refine lv_iadd hC.1 hC.2.1 dX12_readName_88 ?_
    obtain ⟨SM_8, eSM_8⟩ : ∃ y : Ob, y = oI SM_7 7 ((SM_7.1 7) + 1) := ⟨_, rfl⟩
    have hf := lt_nm hf eSM_8
    refine g_put hC hW hin12_readName_12 tyX12 tyX12_ok nmX12 0 rfl rfl 7 (by decide) 1 rfl rfl rfl rfl (Nat.le_of_ble_eq_true rfl) (w' := w12 cy aM SM_8) (by rw [eSM_8]; rfl) dX12_readName_89 (fun H locs hW => ?_)
    exact t12_readName_92 hC  _ _ _ _ _ hf hW (lv_sub hl [] rfl)
set_option maxRecDepth 100000 in
set_option maxHeartbeats 4000000 in
theorem t12_readName_0 (hC : Cx p s m args meth c cX12_readName 2 wsX12_readName RX12 none) : ∀ (x1 : Int32) (SM : Ob) (res : Ob) (H : Heap) (locs : List Loc) (ls : Array Slot), f12_readName x1 SM = some res → GW D cy ad (w12 cy aM SM) A s H locs → lv_has ls 2 [(0, .ref (aM 0)), (1, .int x1)] → W p l e rm12_readName s m args below meth c H locs 0 0 (MQ below (QV D cy (w12 cy aM res) A) args s 0 0 A) (F0 m 0 ls []) := by
  intro x1 SM res H locs ls hf hW hl
  unfold f12_readName at hf
  refine lv_aload_n hC.1 hC.2.1 dX12_readName_0 rfl (lv_at hl 0 rfl) ?_
  refine lv_dup hC.1 hC.2.1 dX12_readName_1 rfl ?_
  refine g_get hC hW hin12_readName_12 0 rfl rfl 7 (by decide) 1 rfl rfl dX12_readName_2 ?_
  refine lv_iconst (v := 1) hC.1 hC.2.1 dX12_readName_5 (by decide) ?_
  refine lv_iadd hC.1 hC.2.1 dX12_readName_6 ?_
  obtain ⟨SM_1, eSM_1⟩ : ∃ y : Ob, y = oI SM 7 ((SM.1 7) + 1) := ⟨_, rfl⟩
  have hf := lt_nm hf eSM_1
  refine g_put hC hW hin12_readName_12 tyX12 tyX12_ok nmX12 0 rfl rfl 7 (by decide) 1 rfl rfl rfl rfl (Nat.le_of_ble_eq_true rfl) (w' := w12 cy aM SM_1) (by rw [eSM_1]; rfl) dX12_readName_7 (fun H locs hW => ?_)
  refine lv_aload_n hC.1 hC.2.1 dX12_readName_10 rfl (lv_at hl 0 rfl) ?_
  obtain ⟨r_2, hg_3, hf⟩ := bd_of hf
  refine g_calliV hC hW (c12_isName l D cy ad aM hg_3) (cwV 0 hC.2.2.2.2.1 gX12_readName_X12_isName rfl rfl rfl hdV12_isName ⟨Nat.le_of_ble_eq_true rfl, Nat.le_of_ble_eq_true rfl⟩) (Sub.all _ _) 0 11 rfl rfl rfl rfl hl.1 rfl (Nat.le_of_ble_eq_true rfl) dX12_readName_11 ⟨Nat.zero_le _, Nat.zero_le _⟩ (fun H locs hW => ?_)
  refine lv_if_ne (tgt := 25) hC.1 hC.2.1 dX12_readName_14 (by decide) (fun hc_4 => ?_) (fun hc_4 => ?_)
  · have hf := ite_f hf hc_4
    refine lv_aload_n hC.1 hC.2.1 dX12_readName_25 rfl (lv_at hl 0 rfl) ?_
    obtain ⟨r_5, hg_6, hf⟩ := bd_of hf
    refine g_calliV hC hW (c12_find l D cy ad aM hg_6) (cwV 0 hC.2.2.2.2.1 gX12_readName_X12_find rfl rfl rfl hdV12_find ⟨Nat.le_of_ble_eq_true rfl, Nat.le_of_ble_eq_true rfl⟩) (Sub.all _ _) 0 11 rfl rfl rfl rfl hl.1 rfl (Nat.le_of_ble_eq_true rfl) dX12_readName_26 ⟨Nat.zero_le _, Nat.zero_le _⟩ (fun H locs hW => ?_)
    refine lv_if_lt (tgt := 37) hC.1 hC.2.1 dX12_readName_29 (by decide) (fun hc_7 => ?_) (fun hc_7 => ?_)
    · have hf := ite_t hf hc_7
      exact t12_readName_37 hC  _ _ _ _ _ _ hf hW (lv_sub hl [0, 1] rfl)
    · have hf := ite_f hf hc_7
      refine lv_aload_n hC.1 hC.2.1 dX12_readName_32 rfl (lv_at hl 0 rfl) ?_
      refine lv_iconst (v := 3) hC.1 hC.2.1 dX12_readName_33 (by decide) ?_
      obtain ⟨r_8, hg_9, hf⟩ := bd_of hf
      refine g_callvV hC hW (c12_wrong l D cy ad aM hg_9) (cwV 1 hC.2.2.2.2.1 gX12_readName_X12_wrong rfl rfl rfl hdV12_wrong ⟨Nat.le_of_ble_eq_true rfl, Nat.le_of_ble_eq_true rfl⟩) (Sub.all _ _) 0 11 rfl rfl rfl rfl hl.1 rfl (Nat.le_of_ble_eq_true rfl) dX12_readName_34 ⟨Nat.zero_le _, Nat.zero_le _⟩ (fun H locs hW => ?_)
      exact t12_readName_37 hC  _ _ _ _ _ _ hf hW (lv_sub hl [0, 1] rfl)
  · have hf := ite_t hf hc_4
    refine lv_aload_n hC.1 hC.2.1 dX12_readName_17 rfl (lv_at hl 0 rfl) ?_
    refine lv_iconst (v := 1) hC.1 hC.2.1 dX12_readName_18 (by decide) ?_
    obtain ⟨r_10, hg_11, hf⟩ := bd_of hf
    refine g_callvV hC hW (c12_wrong l D cy ad aM hg_11) (cwV 1 hC.2.2.2.2.1 gX12_readName_X12_wrong rfl rfl rfl hdV12_wrong ⟨Nat.le_of_ble_eq_true rfl, Nat.le_of_ble_eq_true rfl⟩) (Sub.all _ _) 0 11 rfl rfl rfl rfl hl.1 rfl (Nat.le_of_ble_eq_true rfl) dX12_readName_19 ⟨Nat.zero_le _, Nat.zero_le _⟩ (fun H locs hW => ?_)
    refine lv_goto (tgt := 37) hC.1 hC.2.1 dX12_readName_22 (by decide) ?_
    exact t12_readName_37 hC  _ _ _ _ _ _ hf hW (lv_sub hl [0, 1] rfl)
set_option maxRecDepth 100000 in
set_option maxHeartbeats 4000000 in
theorem c12_readName (l : Launch) (D : va_G) (cy : Nat → ClassId) (ad : Nat → Nat) (aM : Nat → Nat) {x1 : Int32} {SM : Ob} {res : Ob} (h : f12_readName x1 SM = some res) : GCv l yX12_readName wsX12_readName rm12_readName [.ref (aM 0), .int x1] D cy ad (w12 cy aM SM) (w12 cy aM res) := fun sz => GC.start (own := RX12) (Qc := fun A => QV D cy (w12 cy aM res) A) sz (by decide) rfl rfl (Nat.le_of_ble_eq_true rfl) (fun p e s m below meth c A ls hC hW hl => t12_readName_0 hC _ _ _ _ _ _ h hW (lv_sub hl [0, 1] rfl))
abbrev rm12_readGuest : Room := { frames := 4, cells := 0, slots := 0, locals := 87 }
theorem hdV12_readGuest : yX12_readGuest.cls = RX12 ∧ (yX12_readGuest.cls ≠ "java/lang/invoke/MethodHandle" ∧ yX12_readGuest.cls ≠ "java/lang/invoke/VarHandle" ∧ (parseMethodDescriptor yX12_readGuest.desc).map (fun d => d.parameters.length) = some 0) := by decide +kernel
theorem hin12_readGuest_12 : ∀ x ∈ u_ws RX12 TX12 39, x ∈ wsX12_readGuest := fun _ h => List.mem_cons_of_mem _ (List.mem_append_right _ h)
set_option maxRecDepth 100000 in
set_option maxHeartbeats 4000000 in
theorem t12_readGuest_0 (hC : Cx p s m args meth c cX12_readGuest 3 wsX12_readGuest RX12 none) : ∀ (SM : Ob) (res : Ob) (H : Heap) (locs : List Loc) (ls : Array Slot), f12_readGuest SM = some res → GW D cy ad (w12 cy aM SM) A s H locs → lv_has ls 3 [(0, .ref (aM 0))] → W p l e rm12_readGuest s m args below meth c H locs 0 0 (MQ below (QV D cy (w12 cy aM res) A) args s 0 0 A) (F0 m 0 ls []) := by
  intro SM res H locs ls hf hW hl
  unfold f12_readGuest at hf
  refine lv_aload_n hC.1 hC.2.1 dX12_readGuest_0 rfl (lv_at hl 0 rfl) ?_
  refine g_get hC hW hin12_readGuest_12 0 rfl rfl 10 (by decide) 1 rfl rfl dX12_readGuest_1 ?_
  refine lv_bipush (v := 60) hC.1 hC.2.1 dX12_readGuest_4 (by decide) ?_
  obtain ⟨hi_1, hf⟩ := ck_of hf
  refine g_iald hC hW 6 rfl hi_1 dX12_readGuest_6 ?_
  refine lv_topi (fun x1_2 ex1_2 => ?_)
  have hf := lt_nm hf ex1_2
  refine lv_istore_n (lv' := [(1, .int x1_2), (0, .ref (aM 0))]) hC.1 hC.2.1 dX12_readGuest_7 rfl hl (by decide) rfl (fun ls hl => ?_)
  refine lv_iload_n hC.1 hC.2.1 dX12_readGuest_8 rfl (lv_at hl 0 rfl) ?_
  refine lv_bipush (v := 8) hC.1 hC.2.1 dX12_readGuest_9 (by decide) ?_
  refine lv_icmp_ne (tgt := 20) hC.1 hC.2.1 dX12_readGuest_11 (by decide) (fun hc_3 => ?_) (fun hc_3 => ?_)
  · have hf := ite_f hf hc_3
    refine lv_aload_n hC.1 hC.2.1 dX12_readGuest_20 rfl (lv_at hl 1 rfl) ?_
    refine lv_iload_n hC.1 hC.2.1 dX12_readGuest_21 rfl (lv_at hl 0 rfl) ?_
    obtain ⟨r_4, hg_5, hf⟩ := bd_of hf
    refine g_callvV hC hW (c12_readName l D cy ad aM hg_5) (cwV 1 hC.2.2.2.2.1 gX12_readGuest_X12_readName rfl rfl rfl hdV12_readName ⟨Nat.le_of_ble_eq_true rfl, Nat.le_of_ble_eq_true rfl⟩) (Sub.all _ _) 0 11 rfl rfl rfl rfl hl.1 rfl (Nat.le_of_ble_eq_true rfl) dX12_readGuest_22 ⟨Nat.zero_le _, Nat.zero_le _⟩ (fun H locs hW => ?_)
    refine lv_bipush (v := 63) hC.1 hC.2.1 dX12_readGuest_25 (by decide) ?_
    refine lv_iconst (v := 5) hC.1 hC.2.1 dX12_readGuest_27 (by decide) ?_
    refine lv_iload_n hC.1 hC.2.1 dX12_readGuest_28 rfl (lv_at hl 0 rfl) ?_
    refine lv_imul hC.1 hC.2.1 dX12_readGuest_29 ?_
    refine lv_iadd hC.1 hC.2.1 dX12_readGuest_30 ?_
    refine lv_topi (fun x2_6 ex2_6 => ?_)
    have hf := lt_nm hf ex2_6
    refine lv_istore_n (lv' := [(2, .int x2_6), (1, .int x1_2), (0, .ref (aM 0))]) hC.1 hC.2.1 dX12_readGuest_31 rfl hl (by decide) rfl (fun ls hl => ?_)
    refine lv_aload_n hC.1 hC.2.1 dX12_readGuest_32 rfl (lv_at hl 2 rfl) ?_
    refine g_get hC hW hin12_readGuest_12 0 rfl rfl 10 (by decide) 1 rfl rfl dX12_readGuest_33 ?_
    refine lv_iload_n hC.1 hC.2.1 dX12_readGuest_36 rfl (lv_at hl 0 rfl) ?_
    refine lv_aload_n hC.1 hC.2.1 dX12_readGuest_37 rfl (lv_at hl 2 rfl) ?_
    refine lv_bipush (v := 14) hC.1 hC.2.1 dX12_readGuest_38 (by decide) ?_
    refine lv_iconst (v := 4) hC.1 hC.2.1 dX12_readGuest_40 (by decide) ?_
    obtain ⟨r_7, hg_8, hf⟩ := bd_of hf
    refine g_calliV hC hW (c12_takeOne l D cy ad aM hg_8) (cwV 2 hC.2.2.2.2.1 gX12_readGuest_X12_takeOne rfl rfl rfl hdV12_takeOne ⟨Nat.le_of_ble_eq_true rfl, Nat.le_of_ble_eq_true rfl⟩) (Sub.all _ _) 0 11 rfl rfl rfl rfl hl.1 rfl (Nat.le_of_ble_eq_true rfl) dX12_readGuest_41 ⟨Nat.zero_le _, Nat.zero_le _⟩ (fun H locs hW => ?_)
    obtain ⟨hi_9, hf⟩ := ck_of hf
    obtain ⟨SM_10, eSM_10⟩ : ∃ y : Ob, y = oA (r_7.2) 10 (Int32.toNatClampNeg x2_6) (r_7.1) := ⟨_, rfl⟩
    have hf := lt_nm hf eSM_10
    refine g_iast hC hW 6 rfl hi_9 (w' := w12 cy aM SM_10) (by rw [eSM_10]; rfl) dX12_readGuest_44 (fun H locs hW => ?_)
    refine lv_aload_n hC.1 hC.2.1 dX12_readGuest_45 rfl (lv_at hl 2 rfl) ?_
    refine g_get hC hW hin12_readGuest_12 0 rfl rfl 10 (by decide) 1 rfl rfl dX12_readGuest_46 ?_
    refine lv_iload_n hC.1 hC.2.1 dX12_readGuest_49 rfl (lv_at hl 0 rfl) ?_
    refine lv_iconst (v := 1) hC.1 hC.2.1 dX12_readGuest_50 (by decide) ?_
    refine lv_iadd hC.1 hC.2.1 dX12_readGuest_51 ?_
    refine lv_aload_n hC.1 hC.2.1 dX12_readGuest_52 rfl (lv_at hl 2 rfl) ?_
    refine lv_iconst (v := 1) hC.1 hC.2.1 dX12_readGuest_53 (by decide) ?_
    refine lv_iconst (v := 1) hC.1 hC.2.1 dX12_readGuest_54 (by decide) ?_
    refine lv_bipush (v := 12) hC.1 hC.2.1 dX12_readGuest_55 (by decide) ?_
    obtain ⟨r_11, hg_12, hf⟩ := bd_of hf
    refine g_calliV hC hW (c12_takeAfter l D cy ad aM hg_12) (cwV 3 hC.2.2.2.2.1 gX12_readGuest_X12_takeAfter rfl rfl rfl hdV12_takeAfter ⟨Nat.le_of_ble_eq_true rfl, Nat.le_of_ble_eq_true rfl⟩) (Sub.all _ _) 0 11 rfl rfl rfl rfl hl.1 rfl (Nat.le_of_ble_eq_true rfl) dX12_readGuest_57 ⟨Nat.zero_le _, Nat.zero_le _⟩ (fun H locs hW => ?_)
    obtain ⟨hi_13, hf⟩ := ck_of hf
    obtain ⟨SM_14, eSM_14⟩ : ∃ y : Ob, y = oA (r_11.2) 10 (Int32.toNatClampNeg (x2_6 + 1)) (r_11.1) := ⟨_, rfl⟩
    have hf := lt_nm hf eSM_14
    refine g_iast hC hW 6 rfl hi_13 (w' := w12 cy aM SM_14) (by rw [eSM_14]; rfl) dX12_readGuest_60 (fun H locs hW => ?_)
    refine lv_aload_n hC.1 hC.2.1 dX12_readGuest_61 rfl (lv_at hl 2 rfl) ?_
    refine g_get hC hW hin12_readGuest_12 0 rfl rfl 10 (by decide) 1 rfl rfl dX12_readGuest_62 ?_
    refine lv_iload_n hC.1 hC.2.1 dX12_readGuest_65 rfl (lv_at hl 0 rfl) ?_
    refine lv_iconst (v := 2) hC.1 hC.2.1 dX12_readGuest_66 (by decide) ?_
    refine lv_iadd hC.1 hC.2.1 dX12_readGuest_67 ?_
    refine lv_aload_n hC.1 hC.2.1 dX12_readGuest_68 rfl (lv_at hl 2 rfl) ?_
    refine lv_iconst (v := 2) hC.1 hC.2.1 dX12_readGuest_69 (by decide) ?_
    refine lv_iconst (v := 1) hC.1 hC.2.1 dX12_readGuest_70 (by decide) ?_
    refine lv_bipush (v := 99) hC.1 hC.2.1 dX12_readGuest_71 (by decide) ?_
    obtain ⟨r_15, hg_16, hf⟩ := bd_of hf
    refine g_calliV hC hW (c12_takeAfter l D cy ad aM hg_16) (cwV 3 hC.2.2.2.2.1 gX12_readGuest_X12_takeAfter rfl rfl rfl hdV12_takeAfter ⟨Nat.le_of_ble_eq_true rfl, Nat.le_of_ble_eq_true rfl⟩) (Sub.all _ _) 0 11 rfl rfl rfl rfl hl.1 rfl (Nat.le_of_ble_eq_true rfl) dX12_readGuest_73 ⟨Nat.zero_le _, Nat.zero_le _⟩ (fun H locs hW => ?_)
    obtain ⟨hi_17, hf⟩ := ck_of hf
    obtain ⟨SM_18, eSM_18⟩ : ∃ y : Ob, y = oA (r_15.2) 10 (Int32.toNatClampNeg (x2_6 + 2)) (r_15.1) := ⟨_, rfl⟩
    have hf := lt_nm hf eSM_18
    refine g_iast hC hW 6 rfl hi_17 (w' := w12 cy aM SM_18) (by rw [eSM_18]; rfl) dX12_readGuest_76 (fun H locs hW => ?_)
    refine lv_aload_n hC.1 hC.2.1 dX12_readGuest_77 rfl (lv_at hl 2 rfl) ?_
    refine g_get hC hW hin12_readGuest_12 0 rfl rfl 10 (by decide) 1 rfl rfl dX12_readGuest_78 ?_
    refine lv_bipush (v := 60) hC.1 hC.2.1 dX12_readGuest_81 (by decide) ?_
    refine lv_dup2_11 hC.1 hC.2.1 dX12_readGuest_83 rfl rfl ?_
    obtain ⟨hi_19, hf⟩ := ck_of hf
    refine g_iald hC hW 6 rfl hi_19 dX12_readGuest_84 ?_
    refine lv_iconst (v := 1) hC.1 hC.2.1 dX12_readGuest_85 (by decide) ?_
    refine lv_iadd hC.1 hC.2.1 dX12_readGuest_86 ?_
    obtain ⟨hi_20, hf⟩ := ck_of hf
    obtain ⟨SM_21, eSM_21⟩ : ∃ y : Ob, y = oA SM_18 10 (Int32.toNatClampNeg 60) ((SM_18.2.2.1 10 (Int32.toNatClampNeg 60)) + 1) := ⟨_, rfl⟩
    have hf := lt_nm hf eSM_21
    refine g_iast hC hW 6 rfl hi_20 (w' := w12 cy aM SM_21) (by rw [eSM_21]; rfl) dX12_readGuest_87 (fun H locs hW => ?_)
    obtain rfl := Option.some.inj hf
    exact g_vret hC hW dX12_readGuest_88
  · have hf := ite_t hf hc_3
    refine lv_aload_n hC.1 hC.2.1 dX12_readGuest_14 rfl (lv_at hl 1 rfl) ?_
    refine lv_iconst (v := 5) hC.1 hC.2.1 dX12_readGuest_15 (by decide) ?_
    obtain ⟨r_22, hg_23, hf⟩ := bd_of hf
    refine g_callvV hC hW (c12_wrong l D cy ad aM hg_23) (cwV 1 hC.2.2.2.2.1 gX12_readGuest_X12_wrong rfl rfl rfl hdV12_wrong ⟨Nat.le_of_ble_eq_true rfl, Nat.le_of_ble_eq_true rfl⟩) (Sub.all _ _) 0 11 rfl rfl rfl rfl hl.1 rfl (Nat.le_of_ble_eq_true rfl) dX12_readGuest_16 ⟨Nat.zero_le _, Nat.zero_le _⟩ (fun H locs hW => ?_)
    obtain rfl := Option.some.inj hf
    exact g_vret hC hW dX12_readGuest_19
set_option maxRecDepth 100000 in
set_option maxHeartbeats 4000000 in
theorem c12_readGuest (l : Launch) (D : va_G) (cy : Nat → ClassId) (ad : Nat → Nat) (aM : Nat → Nat) {SM : Ob} {res : Ob} (h : f12_readGuest SM = some res) : GCv l yX12_readGuest wsX12_readGuest rm12_readGuest [.ref (aM 0)] D cy ad (w12 cy aM SM) (w12 cy aM res) := fun sz => GC.start (own := RX12) (Qc := fun A => QV D cy (w12 cy aM res) A) sz (by decide) rfl rfl (Nat.le_of_ble_eq_true rfl) (fun p e s m below meth c A ls hC hW hl => t12_readGuest_0 hC _ _ _ _ _ h hW (lv_sub hl [0] rfl))
abbrev rm12_emit : Room := { frames := 0, cells := 0, slots := 0, locals := 0 }
theorem hdV12_emit : yX12_emit.cls = RX12 ∧ (yX12_emit.cls ≠ "java/lang/invoke/MethodHandle" ∧ yX12_emit.cls ≠ "java/lang/invoke/VarHandle" ∧ (parseMethodDescriptor yX12_emit.desc).map (fun d => d.parameters.length) = some 2) := by decide +kernel
theorem hin12_emit_12 : ∀ x ∈ u_ws RX12 TX12 39, x ∈ wsX12_emit := fun _ h => List.mem_cons_of_mem _ (List.mem_append_right _ h)
set_option maxRecDepth 100000 in
set_option maxHeartbeats 4000000 in
theorem t12_emit_0 (hC : Cx p s m args meth c cX12_emit 3 wsX12_emit RX12 none) : ∀ (x1 : Int32) (x2 : Int32) (SM : Ob) (res : Ob) (H : Heap) (locs : List Loc) (ls : Array Slot), f12_emit x1 x2 SM = some res → GW D cy ad (w12 cy aM SM) A s H locs → lv_has ls 3 [(0, .ref (aM 0)), (1, .int x1), (2, .int x2)] → W p l e rm12_emit s m args below meth c H locs 0 0 (MQ below (QV D cy (w12 cy aM res) A) args s 0 0 A) (F0 m 0 ls []) := by
  intro x1 x2 SM res H locs ls hf hW hl
  unfold f12_emit at hf
  refine lv_aload_n hC.1 hC.2.1 dX12_emit_0 rfl (lv_at hl 0 rfl) ?_
  refine g_get hC hW hin12_emit_12 0 rfl rfl 11 (by decide) 1 rfl rfl dX12_emit_1 ?_
  refine lv_sipush (v := 2200) hC.1 hC.2.1 dX12_emit_4 (by decide) ?_
  refine lv_aload_n hC.1 hC.2.1 dX12_emit_7 rfl (lv_at hl 0 rfl) ?_
  refine g_get hC hW hin12_emit_12 0 rfl rfl 13 (by decide) 2 rfl rfl dX12_emit_8 ?_
  refine lv_iadd hC.1 hC.2.1 dX12_emit_11 ?_
  refine lv_iload_n hC.1 hC.2.1 dX12_emit_12 rfl (lv_at hl 1 rfl) ?_
  obtain ⟨hi_1, hf⟩ := ck_of hf
  obtain ⟨SM_2, eSM_2⟩ : ∃ y : Ob, y = oA SM 11 (Int32.toNatClampNeg (2200 + (SM.1 13))) x1 := ⟨_, rfl⟩
  have hf := lt_nm hf eSM_2
  refine g_iast hC hW 7 rfl hi_1 (w' := w12 cy aM SM_2) (by rw [eSM_2]; rfl) dX12_emit_13 (fun H locs hW => ?_)
  refine lv_aload_n hC.1 hC.2.1 dX12_emit_14 rfl (lv_at hl 0 rfl) ?_
  refine g_get hC hW hin12_emit_12 0 rfl rfl 12 (by decide) 3 rfl rfl dX12_emit_15 ?_
  refine lv_sipush (v := 2200) hC.1 hC.2.1 dX12_emit_18 (by decide) ?_
  refine lv_aload_n hC.1 hC.2.1 dX12_emit_21 rfl (lv_at hl 0 rfl) ?_
  refine g_get hC hW hin12_emit_12 0 rfl rfl 13 (by decide) 2 rfl rfl dX12_emit_22 ?_
  refine lv_iadd hC.1 hC.2.1 dX12_emit_25 ?_
  refine lv_iload_n hC.1 hC.2.1 dX12_emit_26 rfl (lv_at hl 2 rfl) ?_
  obtain ⟨hi_3, hf⟩ := ck_of hf
  obtain ⟨SM_4, eSM_4⟩ : ∃ y : Ob, y = oA SM_2 12 (Int32.toNatClampNeg (2200 + (SM_2.1 13))) x2 := ⟨_, rfl⟩
  have hf := lt_nm hf eSM_4
  refine g_iast hC hW 8 rfl hi_3 (w' := w12 cy aM SM_4) (by rw [eSM_4]; rfl) dX12_emit_27 (fun H locs hW => ?_)
  refine lv_aload_n hC.1 hC.2.1 dX12_emit_28 rfl (lv_at hl 0 rfl) ?_
  refine lv_dup hC.1 hC.2.1 dX12_emit_29 rfl ?_
  refine g_get hC hW hin12_emit_12 0 rfl rfl 13 (by decide) 2 rfl rfl dX12_emit_30 ?_
  refine lv_iconst (v := 1) hC.1 hC.2.1 dX12_emit_33 (by decide) ?_
  refine lv_iadd hC.1 hC.2.1 dX12_emit_34 ?_
  obtain ⟨SM_5, eSM_5⟩ : ∃ y : Ob, y = oI SM_4 13 ((SM_4.1 13) + 1) := ⟨_, rfl⟩
  have hf := lt_nm hf eSM_5
  refine g_put hC hW hin12_emit_12 tyX12 tyX12_ok nmX12 0 rfl rfl 13 (by decide) 2 rfl rfl rfl rfl (Nat.le_of_ble_eq_true rfl) (w' := w12 cy aM SM_5) (by rw [eSM_5]; rfl) dX12_emit_35 (fun H locs hW => ?_)
  obtain rfl := Option.some.inj hf
  exact g_vret hC hW dX12_emit_38
set_option maxRecDepth 100000 in
set_option maxHeartbeats 4000000 in
theorem c12_emit (l : Launch) (D : va_G) (cy : Nat → ClassId) (ad : Nat → Nat) (aM : Nat → Nat) {x1 : Int32} {x2 : Int32} {SM : Ob} {res : Ob} (h : f12_emit x1 x2 SM = some res) : GCv l yX12_emit wsX12_emit rm12_emit [.ref (aM 0), .int x1, .int x2] D cy ad (w12 cy aM SM) (w12 cy aM res) := fun sz => GC.start (own := RX12) (Qc := fun A => QV D cy (w12 cy aM res) A) sz (by decide) rfl rfl (Nat.le_of_ble_eq_true rfl) (fun p e s m below meth c A ls hC hW hl => t12_emit_0 hC _ _ _ _ _ _ _ h hW (lv_sub hl [0, 1, 2] rfl))
end
