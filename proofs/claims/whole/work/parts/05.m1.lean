/-! laid by program: functions, walks and contracts of 12_within, 12_isLetter, 12_isDigit, 12_rank, 12_isSignOf, 12_lay, 12_feed, 12_find, 12_wrong, 12_isSign, 12_both -/
theorem dX12_within_0 : decode cX12_within 0 = .ok (.iload_n 0, 1) := by decide +kernel
theorem dX12_within_1 : decode cX12_within 1 = .ok (.iload_n 1, 1) := by decide +kernel
theorem dX12_within_2 : decode cX12_within 2 = .ok (.if_icmp .lt 12, 3) := by decide +kernel
theorem dX12_within_5 : decode cX12_within 5 = .ok (.iload_n 0, 1) := by decide +kernel
theorem dX12_within_6 : decode cX12_within 6 = .ok (.iload_n 2, 1) := by decide +kernel
theorem dX12_within_7 : decode cX12_within 7 = .ok (.if_icmp .gt 7, 3) := by decide +kernel
theorem dX12_within_10 : decode cX12_within 10 = .ok (.iconst 1, 1) := by decide +kernel
theorem dX12_within_11 : decode cX12_within 11 = .ok (.goto 4, 3) := by decide +kernel
theorem dX12_within_14 : decode cX12_within 14 = .ok (.iconst 0, 1) := by decide +kernel
theorem dX12_within_15 : decode cX12_within 15 = .ok (.ireturn, 1) := by decide +kernel
theorem dX12_isLetter_0 : decode cX12_isLetter 0 = .ok (.iload_n 0, 1) := by decide +kernel
theorem dX12_isLetter_1 : decode cX12_isLetter 1 = .ok (.bipush 97, 2) := by decide +kernel
theorem dX12_isLetter_3 : decode cX12_isLetter 3 = .ok (.if_icmp .lt 13, 3) := by decide +kernel
theorem dX12_isLetter_6 : decode cX12_isLetter 6 = .ok (.iload_n 0, 1) := by decide +kernel
theorem dX12_isLetter_7 : decode cX12_isLetter 7 = .ok (.bipush 122, 2) := by decide +kernel
theorem dX12_isLetter_9 : decode cX12_isLetter 9 = .ok (.if_icmp .gt 7, 3) := by decide +kernel
theorem dX12_isLetter_12 : decode cX12_isLetter 12 = .ok (.iconst 1, 1) := by decide +kernel
theorem dX12_isLetter_13 : decode cX12_isLetter 13 = .ok (.goto 4, 3) := by decide +kernel
theorem dX12_isLetter_16 : decode cX12_isLetter 16 = .ok (.iconst 0, 1) := by decide +kernel
theorem dX12_isLetter_17 : decode cX12_isLetter 17 = .ok (.ireturn, 1) := by decide +kernel
theorem dX12_isDigit_0 : decode cX12_isDigit 0 = .ok (.iload_n 0, 1) := by decide +kernel
theorem dX12_isDigit_1 : decode cX12_isDigit 1 = .ok (.bipush 48, 2) := by decide +kernel
theorem dX12_isDigit_3 : decode cX12_isDigit 3 = .ok (.if_icmp .lt 13, 3) := by decide +kernel
theorem dX12_isDigit_6 : decode cX12_isDigit 6 = .ok (.iload_n 0, 1) := by decide +kernel
theorem dX12_isDigit_7 : decode cX12_isDigit 7 = .ok (.bipush 57, 2) := by decide +kernel
theorem dX12_isDigit_9 : decode cX12_isDigit 9 = .ok (.if_icmp .gt 7, 3) := by decide +kernel
theorem dX12_isDigit_12 : decode cX12_isDigit 12 = .ok (.iconst 1, 1) := by decide +kernel
theorem dX12_isDigit_13 : decode cX12_isDigit 13 = .ok (.goto 4, 3) := by decide +kernel
theorem dX12_isDigit_16 : decode cX12_isDigit 16 = .ok (.iconst 0, 1) := by decide +kernel
theorem dX12_isDigit_17 : decode cX12_isDigit 17 = .ok (.ireturn, 1) := by decide +kernel
set_option maxRecDepth 20000 in
theorem ggX12_rank_X12_isLetter : GoodIn wsX12_rank wsX12_isLetter := goodIn_r _ [4] (by decide +kernel) (by decide +kernel)
set_option maxRecDepth 20000 in
theorem gX12_rank_X12_isLetter : GoodIn wsX12_rank (va_wsS RX12 172 yX12_isLetter wsX12_isLetter) := goodIn_app (goodIn_of _ (by decide +kernel)) ggX12_rank_X12_isLetter
theorem dX12_rank_0 : decode cX12_rank 0 = .ok (.iload_n 0, 1) := by decide +kernel
theorem dX12_rank_1 : decode cX12_rank 1 = .ok (.invokestatic 172, 3) := by decide +kernel
theorem dX12_rank_4 : decode cX12_rank 4 = .ok (.ifCond .eq 10, 3) := by decide +kernel
theorem dX12_rank_7 : decode cX12_rank 7 = .ok (.iload_n 0, 1) := by decide +kernel
theorem dX12_rank_8 : decode cX12_rank 8 = .ok (.bipush 96, 2) := by decide +kernel
theorem dX12_rank_10 : decode cX12_rank 10 = .ok (.isub, 1) := by decide +kernel
theorem dX12_rank_11 : decode cX12_rank 11 = .ok (.goto 7, 3) := by decide +kernel
theorem dX12_rank_14 : decode cX12_rank 14 = .ok (.iload_n 0, 1) := by decide +kernel
theorem dX12_rank_15 : decode cX12_rank 15 = .ok (.bipush 21, 2) := by decide +kernel
theorem dX12_rank_17 : decode cX12_rank 17 = .ok (.isub, 1) := by decide +kernel
theorem dX12_rank_18 : decode cX12_rank 18 = .ok (.ireturn, 1) := by decide +kernel
theorem dX12_isSignOf_0 : decode cX12_isSignOf 0 = .ok (.iload_n 0, 1) := by decide +kernel
theorem dX12_isSignOf_1 : decode cX12_isSignOf 1 = .ok (.bipush 40, 2) := by decide +kernel
theorem dX12_isSignOf_3 : decode cX12_isSignOf 3 = .ok (.if_icmp .eq 45, 3) := by decide +kernel
theorem dX12_isSignOf_6 : decode cX12_isSignOf 6 = .ok (.iload_n 0, 1) := by decide +kernel
theorem dX12_isSignOf_7 : decode cX12_isSignOf 7 = .ok (.bipush 41, 2) := by decide +kernel
theorem dX12_isSignOf_9 : decode cX12_isSignOf 9 = .ok (.if_icmp .eq 39, 3) := by decide +kernel
theorem dX12_isSignOf_12 : decode cX12_isSignOf 12 = .ok (.iload_n 0, 1) := by decide +kernel
theorem dX12_isSignOf_13 : decode cX12_isSignOf 13 = .ok (.bipush 59, 2) := by decide +kernel
theorem dX12_isSignOf_15 : decode cX12_isSignOf 15 = .ok (.if_icmp .eq 33, 3) := by decide +kernel
theorem dX12_isSignOf_18 : decode cX12_isSignOf 18 = .ok (.iload_n 0, 1) := by decide +kernel
theorem dX12_isSignOf_19 : decode cX12_isSignOf 19 = .ok (.bipush 61, 2) := by decide +kernel
theorem dX12_isSignOf_21 : decode cX12_isSignOf 21 = .ok (.if_icmp .eq 27, 3) := by decide +kernel
theorem dX12_isSignOf_24 : decode cX12_isSignOf 24 = .ok (.iload_n 0, 1) := by decide +kernel
theorem dX12_isSignOf_25 : decode cX12_isSignOf 25 = .ok (.bipush 60, 2) := by decide +kernel
theorem dX12_isSignOf_27 : decode cX12_isSignOf 27 = .ok (.if_icmp .eq 21, 3) := by decide +kernel
theorem dX12_isSignOf_30 : decode cX12_isSignOf 30 = .ok (.iload_n 0, 1) := by decide +kernel
theorem dX12_isSignOf_31 : decode cX12_isSignOf 31 = .ok (.bipush 43, 2) := by decide +kernel
theorem dX12_isSignOf_33 : decode cX12_isSignOf 33 = .ok (.if_icmp .eq 15, 3) := by decide +kernel
theorem dX12_isSignOf_36 : decode cX12_isSignOf 36 = .ok (.iload_n 0, 1) := by decide +kernel
theorem dX12_isSignOf_37 : decode cX12_isSignOf 37 = .ok (.bipush 45, 2) := by decide +kernel
theorem dX12_isSignOf_39 : decode cX12_isSignOf 39 = .ok (.if_icmp .eq 9, 3) := by decide +kernel
theorem dX12_isSignOf_42 : decode cX12_isSignOf 42 = .ok (.iload_n 0, 1) := by decide +kernel
theorem dX12_isSignOf_43 : decode cX12_isSignOf 43 = .ok (.bipush 42, 2) := by decide +kernel
theorem dX12_isSignOf_45 : decode cX12_isSignOf 45 = .ok (.if_icmp .ne 7, 3) := by decide +kernel
theorem dX12_isSignOf_48 : decode cX12_isSignOf 48 = .ok (.iconst 1, 1) := by decide +kernel
theorem dX12_isSignOf_49 : decode cX12_isSignOf 49 = .ok (.goto 4, 3) := by decide +kernel
theorem dX12_isSignOf_52 : decode cX12_isSignOf 52 = .ok (.iconst 0, 1) := by decide +kernel
theorem dX12_isSignOf_53 : decode cX12_isSignOf 53 = .ok (.ireturn, 1) := by decide +kernel
theorem dX12_lay_0 : decode cX12_lay 0 = .ok (.bipush 56, 2) := by decide +kernel
theorem dX12_lay_2 : decode cX12_lay 2 = .ok (.istore_n 3, 1) := by decide +kernel
theorem dX12_lay_3 : decode cX12_lay 3 = .ok (.iload_n 3, 1) := by decide +kernel
theorem dX12_lay_4 : decode cX12_lay 4 = .ok (.ifCond .lt 71, 3) := by decide +kernel
theorem dX12_lay_7 : decode cX12_lay 7 = .ok (.lload_n 1, 1) := by decide +kernel
theorem dX12_lay_8 : decode cX12_lay 8 = .ok (.iload_n 3, 1) := by decide +kernel
theorem dX12_lay_9 : decode cX12_lay 9 = .ok (.lshr, 1) := by decide +kernel
theorem dX12_lay_10 : decode cX12_lay 10 = .ok (.l2i, 1) := by decide +kernel
theorem dX12_lay_11 : decode cX12_lay 11 = .ok (.sipush 255, 3) := by decide +kernel
theorem dX12_lay_14 : decode cX12_lay 14 = .ok (.iand, 1) := by decide +kernel
theorem dX12_lay_15 : decode cX12_lay 15 = .ok (.istore 4, 2) := by decide +kernel
theorem dX12_lay_17 : decode cX12_lay 17 = .ok (.iload 4, 2) := by decide +kernel
theorem dX12_lay_19 : decode cX12_lay 19 = .ok (.bipush 10, 2) := by decide +kernel
theorem dX12_lay_21 : decode cX12_lay 21 = .ok (.if_icmp .eq 17, 3) := by decide +kernel
theorem dX12_lay_24 : decode cX12_lay 24 = .ok (.iload 4, 2) := by decide +kernel
theorem dX12_lay_26 : decode cX12_lay 26 = .ok (.bipush 32, 2) := by decide +kernel
theorem dX12_lay_28 : decode cX12_lay 28 = .ok (.if_icmp .lt 41, 3) := by decide +kernel
theorem dX12_lay_31 : decode cX12_lay 31 = .ok (.iload 4, 2) := by decide +kernel
theorem dX12_lay_33 : decode cX12_lay 33 = .ok (.bipush 126, 2) := by decide +kernel
theorem dX12_lay_35 : decode cX12_lay 35 = .ok (.if_icmp .gt 34, 3) := by decide +kernel
theorem dX12_lay_38 : decode cX12_lay 38 = .ok (.aload_n 0, 1) := by decide +kernel
theorem dX12_lay_39 : decode cX12_lay 39 = .ok (.getfield 11, 3) := by decide +kernel
theorem dX12_lay_42 : decode cX12_lay 42 = .ok (.sipush 1000, 3) := by decide +kernel
theorem dX12_lay_45 : decode cX12_lay 45 = .ok (.if_icmp .ge 24, 3) := by decide +kernel
theorem dX12_lay_48 : decode cX12_lay 48 = .ok (.aload_n 0, 1) := by decide +kernel
theorem dX12_lay_49 : decode cX12_lay 49 = .ok (.getfield 14, 3) := by decide +kernel
theorem dX12_lay_52 : decode cX12_lay 52 = .ok (.aload_n 0, 1) := by decide +kernel
theorem dX12_lay_53 : decode cX12_lay 53 = .ok (.getfield 11, 3) := by decide +kernel
theorem dX12_lay_56 : decode cX12_lay 56 = .ok (.iload 4, 2) := by decide +kernel
theorem dX12_lay_58 : decode cX12_lay 58 = .ok (.iastore, 1) := by decide +kernel
theorem dX12_lay_59 : decode cX12_lay 59 = .ok (.aload_n 0, 1) := by decide +kernel
theorem dX12_lay_60 : decode cX12_lay 60 = .ok (.dup, 1) := by decide +kernel
theorem dX12_lay_61 : decode cX12_lay 61 = .ok (.getfield 11, 3) := by decide +kernel
theorem dX12_lay_64 : decode cX12_lay 64 = .ok (.iconst 1, 1) := by decide +kernel
theorem dX12_lay_65 : decode cX12_lay 65 = .ok (.iadd, 1) := by decide +kernel
theorem dX12_lay_66 : decode cX12_lay 66 = .ok (.putfield 11, 3) := by decide +kernel
theorem dX12_lay_69 : decode cX12_lay 69 = .ok (.iinc 3 (-8), 3) := by decide +kernel
theorem dX12_lay_72 : decode cX12_lay 72 = .ok (.goto (-69), 3) := by decide +kernel
theorem dX12_lay_75 : decode cX12_lay 75 = .ok (.return_, 1) := by decide +kernel
set_option maxRecDepth 20000 in
theorem ggX12_feed_X12_lay : GoodIn wsX12_feed wsX12_lay := goodIn_r _ [7, 2, 8, 9, 10, 11, 12, 13, 14, 15, 16, 17, 18, 19, 20, 21, 22, 23, 24, 25, 26, 27, 28, 29, 30, 31, 32, 33, 34, 35, 36, 37, 38, 39, 40, 41, 42, 43, 44, 45, 46, 47] (by decide +kernel) (by decide +kernel)
set_option maxRecDepth 20000 in
theorem gX12_feed_X12_lay : GoodIn wsX12_feed (wsV RX12 7 RX12 yX12_lay wsX12_lay) := goodIn_app (goodIn_of _ (by decide +kernel)) ggX12_feed_X12_lay
theorem dX12_feed_0 : decode cX12_feed 0 = .ok (.aload_n 0, 1) := by decide +kernel
theorem dX12_feed_1 : decode cX12_feed 1 = .ok (.iconst 0, 1) := by decide +kernel
theorem dX12_feed_2 : decode cX12_feed 2 = .ok (.putfield 1, 3) := by decide +kernel
theorem dX12_feed_5 : decode cX12_feed 5 = .ok (.aload_n 0, 1) := by decide +kernel
theorem dX12_feed_6 : decode cX12_feed 6 = .ok (.lload_n 1, 1) := by decide +kernel
theorem dX12_feed_7 : decode cX12_feed 7 = .ok (.invokevirtual 7, 3) := by decide +kernel
theorem dX12_feed_10 : decode cX12_feed 10 = .ok (.aload_n 0, 1) := by decide +kernel
theorem dX12_feed_11 : decode cX12_feed 11 = .ok (.lload_n 3, 1) := by decide +kernel
theorem dX12_feed_12 : decode cX12_feed 12 = .ok (.invokevirtual 7, 3) := by decide +kernel
theorem dX12_feed_15 : decode cX12_feed 15 = .ok (.aload_n 0, 1) := by decide +kernel
theorem dX12_feed_16 : decode cX12_feed 16 = .ok (.lload 5, 2) := by decide +kernel
theorem dX12_feed_18 : decode cX12_feed 18 = .ok (.invokevirtual 7, 3) := by decide +kernel
theorem dX12_feed_21 : decode cX12_feed 21 = .ok (.aload_n 0, 1) := by decide +kernel
theorem dX12_feed_22 : decode cX12_feed 22 = .ok (.getfield 11, 3) := by decide +kernel
theorem dX12_feed_25 : decode cX12_feed 25 = .ok (.ireturn, 1) := by decide +kernel
theorem dX12_find_0 : decode cX12_find 0 = .ok (.iconst 0, 1) := by decide +kernel
theorem dX12_find_1 : decode cX12_find 1 = .ok (.istore_n 1, 1) := by decide +kernel
theorem dX12_find_2 : decode cX12_find 2 = .ok (.iload_n 1, 1) := by decide +kernel
theorem dX12_find_3 : decode cX12_find 3 = .ok (.aload_n 0, 1) := by decide +kernel
theorem dX12_find_4 : decode cX12_find 4 = .ok (.getfield 223, 3) := by decide +kernel
theorem dX12_find_7 : decode cX12_find 7 = .ok (.ifCond .eq 10, 3) := by decide +kernel
theorem dX12_find_10 : decode cX12_find 10 = .ok (.aload_n 0, 1) := by decide +kernel
theorem dX12_find_11 : decode cX12_find 11 = .ok (.getfield 227, 3) := by decide +kernel
theorem dX12_find_14 : decode cX12_find 14 = .ok (.goto 7, 3) := by decide +kernel
theorem dX12_find_17 : decode cX12_find 17 = .ok (.aload_n 0, 1) := by decide +kernel
theorem dX12_find_18 : decode cX12_find 18 = .ok (.getfield 230, 3) := by decide +kernel
theorem dX12_find_21 : decode cX12_find 21 = .ok (.if_icmp .ge 67, 3) := by decide +kernel
theorem dX12_find_24 : decode cX12_find 24 = .ok (.aload_n 0, 1) := by decide +kernel
theorem dX12_find_25 : decode cX12_find 25 = .ok (.getfield 223, 3) := by decide +kernel
theorem dX12_find_28 : decode cX12_find 28 = .ok (.ifCond .eq 12, 3) := by decide +kernel
theorem dX12_find_31 : decode cX12_find 31 = .ok (.aload_n 0, 1) := by decide +kernel
theorem dX12_find_32 : decode cX12_find 32 = .ok (.getfield 113, 3) := by decide +kernel
theorem dX12_find_35 : decode cX12_find 35 = .ok (.iload_n 1, 1) := by decide +kernel
theorem dX12_find_36 : decode cX12_find 36 = .ok (.laload, 1) := by decide +kernel
theorem dX12_find_37 : decode cX12_find 37 = .ok (.goto 9, 3) := by decide +kernel
theorem dX12_find_40 : decode cX12_find 40 = .ok (.aload_n 0, 1) := by decide +kernel
theorem dX12_find_41 : decode cX12_find 41 = .ok (.getfield 110, 3) := by decide +kernel
theorem dX12_find_44 : decode cX12_find 44 = .ok (.iload_n 1, 1) := by decide +kernel
theorem dX12_find_45 : decode cX12_find 45 = .ok (.laload, 1) := by decide +kernel
theorem dX12_find_46 : decode cX12_find 46 = .ok (.aload_n 0, 1) := by decide +kernel
theorem dX12_find_47 : decode cX12_find 47 = .ok (.getfield 30, 3) := by decide +kernel
theorem dX12_find_50 : decode cX12_find 50 = .ok (.aload_n 0, 1) := by decide +kernel
theorem dX12_find_51 : decode cX12_find 51 = .ok (.getfield 195, 3) := by decide +kernel
theorem dX12_find_54 : decode cX12_find 54 = .ok (.laload, 1) := by decide +kernel
theorem dX12_find_55 : decode cX12_find 55 = .ok (.lcmp, 1) := by decide +kernel
theorem dX12_find_56 : decode cX12_find 56 = .ok (.ifCond .ne 26, 3) := by decide +kernel
theorem dX12_find_59 : decode cX12_find 59 = .ok (.aload_n 0, 1) := by decide +kernel
theorem dX12_find_60 : decode cX12_find 60 = .ok (.getfield 223, 3) := by decide +kernel
theorem dX12_find_63 : decode cX12_find 63 = .ok (.ifCond .eq 12, 3) := by decide +kernel
theorem dX12_find_66 : decode cX12_find 66 = .ok (.aload_n 0, 1) := by decide +kernel
theorem dX12_find_67 : decode cX12_find 67 = .ok (.getfield 119, 3) := by decide +kernel
theorem dX12_find_70 : decode cX12_find 70 = .ok (.iload_n 1, 1) := by decide +kernel
theorem dX12_find_71 : decode cX12_find 71 = .ok (.iaload, 1) := by decide +kernel
theorem dX12_find_72 : decode cX12_find 72 = .ok (.goto 9, 3) := by decide +kernel
theorem dX12_find_75 : decode cX12_find 75 = .ok (.aload_n 0, 1) := by decide +kernel
theorem dX12_find_76 : decode cX12_find 76 = .ok (.getfield 116, 3) := by decide +kernel
theorem dX12_find_79 : decode cX12_find 79 = .ok (.iload_n 1, 1) := by decide +kernel
theorem dX12_find_80 : decode cX12_find 80 = .ok (.iaload, 1) := by decide +kernel
theorem dX12_find_81 : decode cX12_find 81 = .ok (.ireturn, 1) := by decide +kernel
theorem dX12_find_82 : decode cX12_find 82 = .ok (.iinc 1 1, 3) := by decide +kernel
theorem dX12_find_85 : decode cX12_find 85 = .ok (.goto (-83), 3) := by decide +kernel
theorem dX12_find_88 : decode cX12_find 88 = .ok (.iconst (-1), 1) := by decide +kernel
theorem dX12_find_89 : decode cX12_find 89 = .ok (.ireturn, 1) := by decide +kernel
theorem dX12_wrong_0 : decode cX12_wrong 0 = .ok (.aload_n 0, 1) := by decide +kernel
theorem dX12_wrong_1 : decode cX12_wrong 1 = .ok (.getfield 198, 3) := by decide +kernel
theorem dX12_wrong_4 : decode cX12_wrong 4 = .ok (.ifCond .ne 21, 3) := by decide +kernel
theorem dX12_wrong_7 : decode cX12_wrong 7 = .ok (.aload_n 0, 1) := by decide +kernel
theorem dX12_wrong_8 : decode cX12_wrong 8 = .ok (.iload_n 1, 1) := by decide +kernel
theorem dX12_wrong_9 : decode cX12_wrong 9 = .ok (.bipush 16, 2) := by decide +kernel
theorem dX12_wrong_11 : decode cX12_wrong 11 = .ok (.aload_n 0, 1) := by decide +kernel
theorem dX12_wrong_12 : decode cX12_wrong 12 = .ok (.getfield 27, 3) := by decide +kernel
theorem dX12_wrong_15 : decode cX12_wrong 15 = .ok (.aload_n 0, 1) := by decide +kernel
theorem dX12_wrong_16 : decode cX12_wrong 16 = .ok (.getfield 195, 3) := by decide +kernel
theorem dX12_wrong_19 : decode cX12_wrong 19 = .ok (.iaload, 1) := by decide +kernel
theorem dX12_wrong_20 : decode cX12_wrong 20 = .ok (.imul, 1) := by decide +kernel
theorem dX12_wrong_21 : decode cX12_wrong 21 = .ok (.iadd, 1) := by decide +kernel
theorem dX12_wrong_22 : decode cX12_wrong 22 = .ok (.putfield 198, 3) := by decide +kernel
theorem dX12_wrong_25 : decode cX12_wrong 25 = .ok (.return_, 1) := by decide +kernel
theorem dX12_isSign_0 : decode cX12_isSign 0 = .ok (.aload_n 0, 1) := by decide +kernel
theorem dX12_isSign_1 : decode cX12_isSign 1 = .ok (.getfield 198, 3) := by decide +kernel
theorem dX12_isSign_4 : decode cX12_isSign 4 = .ok (.ifCond .ne 35, 3) := by decide +kernel
theorem dX12_isSign_7 : decode cX12_isSign 7 = .ok (.aload_n 0, 1) := by decide +kernel
theorem dX12_isSign_8 : decode cX12_isSign 8 = .ok (.getfield 24, 3) := by decide +kernel
theorem dX12_isSign_11 : decode cX12_isSign 11 = .ok (.aload_n 0, 1) := by decide +kernel
theorem dX12_isSign_12 : decode cX12_isSign 12 = .ok (.getfield 195, 3) := by decide +kernel
theorem dX12_isSign_15 : decode cX12_isSign 15 = .ok (.iaload, 1) := by decide +kernel
theorem dX12_isSign_16 : decode cX12_isSign 16 = .ok (.iconst 3, 1) := by decide +kernel
theorem dX12_isSign_17 : decode cX12_isSign 17 = .ok (.if_icmp .ne 22, 3) := by decide +kernel
theorem dX12_isSign_20 : decode cX12_isSign 20 = .ok (.aload_n 0, 1) := by decide +kernel
theorem dX12_isSign_21 : decode cX12_isSign 21 = .ok (.getfield 30, 3) := by decide +kernel
theorem dX12_isSign_24 : decode cX12_isSign 24 = .ok (.aload_n 0, 1) := by decide +kernel
theorem dX12_isSign_25 : decode cX12_isSign 25 = .ok (.getfield 195, 3) := by decide +kernel
theorem dX12_isSign_28 : decode cX12_isSign 28 = .ok (.laload, 1) := by decide +kernel
theorem dX12_isSign_29 : decode cX12_isSign 29 = .ok (.iload_n 1, 1) := by decide +kernel
theorem dX12_isSign_30 : decode cX12_isSign 30 = .ok (.i2l, 1) := by decide +kernel
theorem dX12_isSign_31 : decode cX12_isSign 31 = .ok (.lcmp, 1) := by decide +kernel
theorem dX12_isSign_32 : decode cX12_isSign 32 = .ok (.ifCond .ne 7, 3) := by decide +kernel
theorem dX12_isSign_35 : decode cX12_isSign 35 = .ok (.iconst 1, 1) := by decide +kernel
theorem dX12_isSign_36 : decode cX12_isSign 36 = .ok (.goto 4, 3) := by decide +kernel
theorem dX12_isSign_39 : decode cX12_isSign 39 = .ok (.iconst 0, 1) := by decide +kernel
theorem dX12_isSign_40 : decode cX12_isSign 40 = .ok (.ireturn, 1) := by decide +kernel
theorem dX12_both_0 : decode cX12_both 0 = .ok (.iload_n 0, 1) := by decide +kernel
theorem dX12_both_1 : decode cX12_both 1 = .ok (.tableswitch 87 4 9 #[39, 43, 47, 51, 62, 73], 39) := by decide +kernel
theorem dX12_both_40 : decode cX12_both 40 = .ok (.iload_n 1, 1) := by decide +kernel
theorem dX12_both_41 : decode cX12_both 41 = .ok (.iload_n 2, 1) := by decide +kernel
theorem dX12_both_42 : decode cX12_both 42 = .ok (.iadd, 1) := by decide +kernel
theorem dX12_both_43 : decode cX12_both 43 = .ok (.ireturn, 1) := by decide +kernel
theorem dX12_both_44 : decode cX12_both 44 = .ok (.iload_n 1, 1) := by decide +kernel
theorem dX12_both_45 : decode cX12_both 45 = .ok (.iload_n 2, 1) := by decide +kernel
theorem dX12_both_46 : decode cX12_both 46 = .ok (.isub, 1) := by decide +kernel
theorem dX12_both_47 : decode cX12_both 47 = .ok (.ireturn, 1) := by decide +kernel
theorem dX12_both_48 : decode cX12_both 48 = .ok (.iload_n 1, 1) := by decide +kernel
theorem dX12_both_49 : decode cX12_both 49 = .ok (.iload_n 2, 1) := by decide +kernel
theorem dX12_both_50 : decode cX12_both 50 = .ok (.imul, 1) := by decide +kernel
theorem dX12_both_51 : decode cX12_both 51 = .ok (.ireturn, 1) := by decide +kernel
theorem dX12_both_52 : decode cX12_both 52 = .ok (.iload_n 1, 1) := by decide +kernel
theorem dX12_both_53 : decode cX12_both 53 = .ok (.iload_n 2, 1) := by decide +kernel
theorem dX12_both_54 : decode cX12_both 54 = .ok (.if_icmp .ge 7, 3) := by decide +kernel
theorem dX12_both_57 : decode cX12_both 57 = .ok (.iconst 1, 1) := by decide +kernel
theorem dX12_both_58 : decode cX12_both 58 = .ok (.goto 4, 3) := by decide +kernel
theorem dX12_both_61 : decode cX12_both 61 = .ok (.iconst 0, 1) := by decide +kernel
theorem dX12_both_62 : decode cX12_both 62 = .ok (.ireturn, 1) := by decide +kernel
theorem dX12_both_63 : decode cX12_both 63 = .ok (.iload_n 1, 1) := by decide +kernel
theorem dX12_both_64 : decode cX12_both 64 = .ok (.iload_n 2, 1) := by decide +kernel
theorem dX12_both_65 : decode cX12_both 65 = .ok (.if_icmp .ne 7, 3) := by decide +kernel
theorem dX12_both_68 : decode cX12_both 68 = .ok (.iconst 1, 1) := by decide +kernel
theorem dX12_both_69 : decode cX12_both 69 = .ok (.goto 4, 3) := by decide +kernel
theorem dX12_both_72 : decode cX12_both 72 = .ok (.iconst 0, 1) := by decide +kernel
theorem dX12_both_73 : decode cX12_both 73 = .ok (.ireturn, 1) := by decide +kernel
theorem dX12_both_74 : decode cX12_both 74 = .ok (.iload_n 1, 1) := by decide +kernel
theorem dX12_both_75 : decode cX12_both 75 = .ok (.ifCond .eq 11, 3) := by decide +kernel
theorem dX12_both_78 : decode cX12_both 78 = .ok (.iload_n 2, 1) := by decide +kernel
theorem dX12_both_79 : decode cX12_both 79 = .ok (.ifCond .eq 7, 3) := by decide +kernel
theorem dX12_both_82 : decode cX12_both 82 = .ok (.iconst 1, 1) := by decide +kernel
theorem dX12_both_83 : decode cX12_both 83 = .ok (.goto 4, 3) := by decide +kernel
theorem dX12_both_86 : decode cX12_both 86 = .ok (.iconst 0, 1) := by decide +kernel
theorem dX12_both_87 : decode cX12_both 87 = .ok (.ireturn, 1) := by decide +kernel
theorem dX12_both_88 : decode cX12_both 88 = .ok (.iload_n 1, 1) := by decide +kernel
theorem dX12_both_89 : decode cX12_both 89 = .ok (.ifCond .ne 7, 3) := by decide +kernel
theorem dX12_both_92 : decode cX12_both 92 = .ok (.iload_n 2, 1) := by decide +kernel
theorem dX12_both_93 : decode cX12_both 93 = .ok (.ifCond .eq 7, 3) := by decide +kernel
theorem dX12_both_96 : decode cX12_both 96 = .ok (.iconst 1, 1) := by decide +kernel
theorem dX12_both_97 : decode cX12_both 97 = .ok (.goto 4, 3) := by decide +kernel
theorem dX12_both_100 : decode cX12_both 100 = .ok (.iconst 0, 1) := by decide +kernel
theorem dX12_both_101 : decode cX12_both 101 = .ok (.ireturn, 1) := by decide +kernel
def f12_within_15 (z0 : Int32) : Option (Int32) :=
  ck (isz z0) (some z0)
def f12_within_14 : Option (Int32) :=
  f12_within_15 0
def f12_within (x0 : Int32) (x1 : Int32) (x2 : Int32) : Option (Int32) :=
  if x0 < x1 then
    (f12_within_14 )
  else
    (if x2 < x0 then
      (f12_within_14 )
    else
      (f12_within_15 1))
def f12_isLetter_17 (z0 : Int32) : Option (Int32) :=
  ck (isz z0) (some z0)
def f12_isLetter_16 : Option (Int32) :=
  f12_isLetter_17 0
def f12_isLetter (x0 : Int32) : Option (Int32) :=
  if x0 < 97 then
    (f12_isLetter_16 )
  else
    (if 122 < x0 then
      (f12_isLetter_16 )
    else
      (f12_isLetter_17 1))
def f12_isDigit_17 (z0 : Int32) : Option (Int32) :=
  ck (isz z0) (some z0)
def f12_isDigit_16 : Option (Int32) :=
  f12_isDigit_17 0
def f12_isDigit (x0 : Int32) : Option (Int32) :=
  if x0 < 48 then
    (f12_isDigit_16 )
  else
    (if 57 < x0 then
      (f12_isDigit_16 )
    else
      (f12_isDigit_17 1))
def f12_rank_18 (z0 : Int32) : Option (Int32) :=
  some z0
def f12_rank (x0 : Int32) : Option (Int32) :=
  bd (f12_isLetter x0) fun r_1 =>
  if r_1 = 0 then
    (f12_rank_18 (x0 - 21))
  else
    (f12_rank_18 (x0 - 96))
def f12_isSignOf_53 (z0 : Int32) : Option (Int32) :=
  ck (isz z0) (some z0)
def f12_isSignOf_48 : Option (Int32) :=
  f12_isSignOf_53 1
def f12_isSignOf (x0 : Int32) : Option (Int32) :=
  if x0 = 40 then
    (f12_isSignOf_48 )
  else
    (if x0 = 41 then
      (f12_isSignOf_48 )
    else
      (if x0 = 59 then
        (f12_isSignOf_48 )
      else
        (if x0 = 61 then
          (f12_isSignOf_48 )
        else
          (if x0 = 60 then
            (f12_isSignOf_48 )
          else
            (if x0 = 43 then
              (f12_isSignOf_48 )
            else
              (if x0 = 45 then
                (f12_isSignOf_48 )
              else
                (if x0 = 42 then
                  (f12_isSignOf_48 )
                else
                  (f12_isSignOf_53 0))))))))
def f12_lay_69 (k3 : Int64 → Int32 → Ob → Option (Ob)) (x1 : Int64) (x3 : Int32) (SM : Ob) : Option (Ob) :=
  lt (x3 + (-8) : Int32) fun x3_1 =>
  k3 x1 x3_1 SM
def f12_lay_38 (k3 : Int64 → Int32 → Ob → Option (Ob)) (x1 : Int64) (x3 : Int32) (x4 : Int32) (SM : Ob) : Option (Ob) :=
  if 1000 ≤ (SM.1 2) then
    (f12_lay_69 k3 x1 x3 SM)
  else
    (ck (inb (SM.1 2) 1000) <|
    lt (oA SM 1 (Int32.toNatClampNeg (SM.1 2)) x4 : Ob) fun SM_3 =>
    lt (oI SM_3 2 ((SM_3.1 2) + 1) : Ob) fun SM_4 =>
    f12_lay_69 k3 x1 x3 SM_4)
def f12_lay_3 : Nat → Int64 → Int32 → Ob → Option (Ob)
  | 0, _, _, _ => none
  | n + 1, x1, x3, SM => if x3 < 0 then
    (some SM)
  else
    (lt ((Int64.toInt32 (x1 >>> (Int32.toInt64 x3 &&& 63))) &&& 255 : Int32) fun x4_2 =>
    if x4_2 = 10 then
      (f12_lay_38 (f12_lay_3 n) x1 x3 x4_2 SM)
    else
      (if x4_2 < 32 then
        (f12_lay_69 (f12_lay_3 n) x1 x3 SM)
      else
        (if 126 < x4_2 then
          (f12_lay_69 (f12_lay_3 n) x1 x3 SM)
        else
          (f12_lay_38 (f12_lay_3 n) x1 x3 x4_2 SM))))
def f12_lay (x1 : Int64) (SM : Ob) : Option (Ob) :=
  f12_lay_3 FU x1 56 SM
def f12_feed (x1 : Int64) (x3 : Int64) (x5 : Int64) (SM : Ob) : Option (Int32 × Ob) :=
  lt (oI SM 0 0 : Ob) fun SM_1 =>
  bd (f12_lay x1 SM_1) fun r_2 =>
  bd (f12_lay x3 r_2) fun r_4 =>
  bd (f12_lay x5 r_4) fun r_6 =>
  some (r_6.1 2, r_6)
def f12_find_81 (z0 : Int32) (SM : Ob) : Option (Int32) :=
  some z0
def f12_find_46 (k2 : Int32 → Ob → Option (Int32)) (x1 : Int32) (z0 : Int64) (SM : Ob) : Option (Int32) :=
  ck (inb (SM.1 7) 1002) <|
  if (lg_cmp z0 (SM.2.2.2 6 (Int32.toNatClampNeg (SM.1 7)))) = 0 then
    (if (SM.1 20) = 0 then
      (ck (inb x1 14) <|
      f12_find_81 (SM.2.2.1 16 (Int32.toNatClampNeg x1)) SM)
    else
      (ck (inb x1 14) <|
      f12_find_81 (SM.2.2.1 17 (Int32.toNatClampNeg x1)) SM))
  else
    (lt (x1 + 1 : Int32) fun x1_3 =>
    k2 x1_3 SM)
def f12_find_21 (k2 : Int32 → Ob → Option (Int32)) (x1 : Int32) (z0 : Int32) (z1 : Int32) (SM : Ob) : Option (Int32) :=
  if z1 ≤ z0 then
    (some (-1))
  else
    (if (SM.1 20) = 0 then
      (ck (inb x1 14) <|
      f12_find_46 k2 x1 (SM.2.2.2 14 (Int32.toNatClampNeg x1)) SM)
    else
      (ck (inb x1 14) <|
      f12_find_46 k2 x1 (SM.2.2.2 15 (Int32.toNatClampNeg x1)) SM))
def f12_find_2 : Nat → Int32 → Ob → Option (Int32)
  | 0, _, _ => none
  | n + 1, x1, SM => if (SM.1 20) = 0 then
    (f12_find_21 (f12_find_2 n) x1 x1 (SM.1 18) SM)
  else
    (f12_find_21 (f12_find_2 n) x1 x1 (SM.1 19) SM)
def f12_find (SM : Ob) : Option (Int32) :=
  f12_find_2 FU 0 SM
def f12_wrong_25 (SM : Ob) : Option (Ob) :=
  some SM
def f12_wrong (x1 : Int32) (SM : Ob) : Option (Ob) :=
  if (SM.1 8) = 0 then
    (ck (inb (SM.1 7) 1002) <|
    lt (oI SM 8 (x1 + (16 * (SM.2.2.1 5 (Int32.toNatClampNeg (SM.1 7))))) : Ob) fun SM_3 =>
    f12_wrong_25 SM_3)
  else
    (f12_wrong_25 SM)
def f12_isSign_40 (z0 : Int32) (SM : Ob) : Option (Int32) :=
  ck (isz z0) (some z0)
def f12_isSign_39 (SM : Ob) : Option (Int32) :=
  f12_isSign_40 0 SM
def f12_isSign (x1 : Int32) (SM : Ob) : Option (Int32) :=
  if (SM.1 8) = 0 then
    (ck (inb (SM.1 7) 1002) <|
    if (SM.2.2.1 4 (Int32.toNatClampNeg (SM.1 7))) = 3 then
      (ck (inb (SM.1 7) 1002) <|
      if (lg_cmp (SM.2.2.2 6 (Int32.toNatClampNeg (SM.1 7))) (Int32.toInt64 x1)) = 0 then
        (f12_isSign_40 1 SM)
      else
        (f12_isSign_39 SM))
    else
      (f12_isSign_39 SM))
  else
    (f12_isSign_39 SM)
def f12_both_62 (z0 : Int32) : Option (Int32) :=
  some z0
def f12_both_73 (z0 : Int32) : Option (Int32) :=
  some z0
def f12_both_87 (z0 : Int32) : Option (Int32) :=
  some z0
def f12_both_86 : Option (Int32) :=
  f12_both_87 0
def f12_both_101 (z0 : Int32) : Option (Int32) :=
  some z0
def f12_both_96 : Option (Int32) :=
  f12_both_101 1
def f12_both (x0 : Int32) (x1 : Int32) (x2 : Int32) : Option (Int32) :=
  if x0 = 4 then
    (some (x1 + x2))
  else if x0 = 5 then
      (some (x1 - x2))
    else if x0 = 6 then
        (some (x1 * x2))
      else if x0 = 7 then
          (if x2 ≤ x1 then
            (f12_both_62 0)
          else
            (f12_both_62 1))
        else if x0 = 8 then
            (if x1 = x2 then
              (f12_both_73 1)
            else
              (f12_both_73 0))
          else if x0 = 9 then
              (if x1 = 0 then
                (f12_both_86 )
              else
                (if x2 = 0 then
                  (f12_both_86 )
                else
                  (f12_both_87 1)))
            else 
    (if x1 = 0 then
                (if x2 = 0 then
                  (f12_both_101 0)
                else
                  (f12_both_96 ))
              else
                (f12_both_96 ))
section
variable {p : Program} {l : Launch} {e : Env} {s : State} {m : MethodId} {args : Array Value} {below : List Frame} {meth : Method} {c : Code} {D : va_G} {cy : Nat → ClassId} {ad : Nat → Nat} {A : Nat → Prop} {aM aB aO aI aN aT aC aG aR aQ aK aL : Nat → Nat}
abbrev rm12_within : Room := { frames := 0, cells := 0, slots := 0, locals := 0 }
theorem hdS12_within : (yX12_within.cls ≠ "java/lang/invoke/MethodHandle" ∧ yX12_within.cls ≠ "java/lang/invoke/VarHandle" ∧ (parseMethodDescriptor yX12_within.desc).map (fun d => d.parameters.length) = some 3) := by decide +kernel
set_option maxRecDepth 100000 in
set_option maxHeartbeats 4000000 in
theorem t12_within_15 (hC : Cx p s m args meth c cX12_within 3 wsX12_within RX12 (some .boolean)) : ∀ (z0 : Int32) (res : Int32) (H : Heap) (locs : List Loc) (ls : Array Slot), f12_within_15 z0 = some res → GW D cy ad (([] : va_W)) A s H locs → lv_has ls 3 [] → W p l e rm12_within s m args below meth c H locs 0 0 (MQ below (QI D cy (([] : va_W)) A res) args s 0 0 A) (F0 m 15 ls [.int z0]) := by
  intro z0 res H locs ls hf hW hl
  unfold f12_within_15 at hf
  obtain ⟨hz, hf⟩ := ck_of hf
  obtain rfl := Option.some.inj hf
  exact g_zret hC hW hz dX12_within_15
set_option maxRecDepth 100000 in
set_option maxHeartbeats 4000000 in
theorem t12_within_14 (hC : Cx p s m args meth c cX12_within 3 wsX12_within RX12 (some .boolean)) : ∀ (res : Int32) (H : Heap) (locs : List Loc) (ls : Array Slot), f12_within_14 = some res → GW D cy ad (([] : va_W)) A s H locs → lv_has ls 3 [] → W p l e rm12_within s m args below meth c H locs 0 0 (MQ below (QI D cy (([] : va_W)) A res) args s 0 0 A) (F0 m 14 ls []) := by
  intro res H locs ls hf hW hl
  unfold f12_within_14 at hf
  refine lv_iconst (v := 0) hC.1 hC.2.1 dX12_within_14 (by decide) ?_
  exact t12_within_15 hC  _ _ _ _ _ hf hW (lv_sub hl [] rfl)
set_option maxRecDepth 100000 in
set_option maxHeartbeats 4000000 in
theorem t12_within_0 (hC : Cx p s m args meth c cX12_within 3 wsX12_within RX12 (some .boolean)) : ∀ (x0 : Int32) (x1 : Int32) (x2 : Int32) (res : Int32) (H : Heap) (locs : List Loc) (ls : Array Slot), f12_within x0 x1 x2 = some res → GW D cy ad (([] : va_W)) A s H locs → lv_has ls 3 [(0, .int x0), (1, .int x1), (2, .int x2)] → W p l e rm12_within s m args below meth c H locs 0 0 (MQ below (QI D cy (([] : va_W)) A res) args s 0 0 A) (F0 m 0 ls []) := by
  intro x0 x1 x2 res H locs ls hf hW hl
  unfold f12_within at hf
  refine lv_iload_n hC.1 hC.2.1 dX12_within_0 rfl (lv_at hl 0 rfl) ?_
  refine lv_iload_n hC.1 hC.2.1 dX12_within_1 rfl (lv_at hl 1 rfl) ?_
  refine lv_icmp_lt (tgt := 14) hC.1 hC.2.1 dX12_within_2 (by decide) (fun hc_1 => ?_) (fun hc_1 => ?_)
  · have hf := ite_t hf hc_1
    exact t12_within_14 hC  _ _ _ _ hf hW (lv_sub hl [] rfl)
  · have hf := ite_f hf hc_1
    refine lv_iload_n hC.1 hC.2.1 dX12_within_5 rfl (lv_at hl 0 rfl) ?_
    refine lv_iload_n hC.1 hC.2.1 dX12_within_6 rfl (lv_at hl 2 rfl) ?_
    refine lv_icmp_gt (tgt := 14) hC.1 hC.2.1 dX12_within_7 (by decide) (fun hc_2 => ?_) (fun hc_2 => ?_)
    · have hf := ite_t hf hc_2
      exact t12_within_14 hC  _ _ _ _ hf hW (lv_sub hl [] rfl)
    · have hf := ite_f hf hc_2
      refine lv_iconst (v := 1) hC.1 hC.2.1 dX12_within_10 (by decide) ?_
      refine lv_goto (tgt := 15) hC.1 hC.2.1 dX12_within_11 (by decide) ?_
      exact t12_within_15 hC  _ _ _ _ _ hf hW (lv_sub hl [] rfl)
set_option maxRecDepth 100000 in
set_option maxHeartbeats 4000000 in
theorem c12_within (l : Launch) (D : va_G) (cy : Nat → ClassId) (ad : Nat → Nat) {x0 : Int32} {x1 : Int32} {x2 : Int32} {res : Int32} (h : f12_within x0 x1 x2 = some res) : GCi l yX12_within wsX12_within rm12_within [.int x0, .int x1, .int x2] D cy ad (([] : va_W)) (([] : va_W)) res := fun sz => GC.start (own := RX12) (Qc := fun A => QI D cy (([] : va_W)) A res) sz (by decide) rfl rfl (Nat.le_of_ble_eq_true rfl) (fun p e s m below meth c A ls hC hW hl => t12_within_0 hC _ _ _ _ _ _ _ h hW (lv_sub hl [0, 1, 2] rfl))
abbrev rm12_isLetter : Room := { frames := 0, cells := 0, slots := 0, locals := 0 }
theorem hdS12_isLetter : (yX12_isLetter.cls ≠ "java/lang/invoke/MethodHandle" ∧ yX12_isLetter.cls ≠ "java/lang/invoke/VarHandle" ∧ (parseMethodDescriptor yX12_isLetter.desc).map (fun d => d.parameters.length) = some 1) := by decide +kernel
set_option maxRecDepth 100000 in
set_option maxHeartbeats 4000000 in
theorem t12_isLetter_17 (hC : Cx p s m args meth c cX12_isLetter 1 wsX12_isLetter RX12 (some .boolean)) : ∀ (z0 : Int32) (res : Int32) (H : Heap) (locs : List Loc) (ls : Array Slot), f12_isLetter_17 z0 = some res → GW D cy ad (([] : va_W)) A s H locs → lv_has ls 1 [] → W p l e rm12_isLetter s m args below meth c H locs 0 0 (MQ below (QI D cy (([] : va_W)) A res) args s 0 0 A) (F0 m 17 ls [.int z0]) := by
  intro z0 res H locs ls hf hW hl
  unfold f12_isLetter_17 at hf
  obtain ⟨hz, hf⟩ := ck_of hf
  obtain rfl := Option.some.inj hf
  exact g_zret hC hW hz dX12_isLetter_17
set_option maxRecDepth 100000 in
set_option maxHeartbeats 4000000 in
theorem t12_isLetter_16 (hC : Cx p s m args meth c cX12_isLetter 1 wsX12_isLetter RX12 (some .boolean)) : ∀ (res : Int32) (H : Heap) (locs : List Loc) (ls : Array Slot), f12_isLetter_16 = some res → GW D cy ad (([] : va_W)) A s H locs → lv_has ls 1 [] → W p l e rm12_isLetter s m args below meth c H locs 0 0 (MQ below (QI D cy (([] : va_W)) A res) args s 0 0 A) (F0 m 16 ls []) := by
  intro res H locs ls hf hW hl
  unfold f12_isLetter_16 at hf
  refine lv_iconst (v := 0) hC.1 hC.2.1 dX12_isLetter_16 (by decide) ?_
  exact t12_isLetter_17 hC  _ _ _ _ _ hf hW (lv_sub hl [] rfl)
set_option maxRecDepth 100000 in
set_option maxHeartbeats 4000000 in
theorem t12_isLetter_0 (hC : Cx p s m args meth c cX12_isLetter 1 wsX12_isLetter RX12 (some .boolean)) : ∀ (x0 : Int32) (res : Int32) (H : Heap) (locs : List Loc) (ls : Array Slot), f12_isLetter x0 = some res → GW D cy ad (([] : va_W)) A s H locs → lv_has ls 1 [(0, .int x0)] → W p l e rm12_isLetter s m args below meth c H locs 0 0 (MQ below (QI D cy (([] : va_W)) A res) args s 0 0 A) (F0 m 0 ls []) := by
  intro x0 res H locs ls hf hW hl
  unfold f12_isLetter at hf
  refine lv_iload_n hC.1 hC.2.1 dX12_isLetter_0 rfl (lv_at hl 0 rfl) ?_
  refine lv_bipush (v := 97) hC.1 hC.2.1 dX12_isLetter_1 (by decide) ?_
  refine lv_icmp_lt (tgt := 16) hC.1 hC.2.1 dX12_isLetter_3 (by decide) (fun hc_1 => ?_) (fun hc_1 => ?_)
  · have hf := ite_t hf hc_1
    exact t12_isLetter_16 hC  _ _ _ _ hf hW (lv_sub hl [] rfl)
  · have hf := ite_f hf hc_1
    refine lv_iload_n hC.1 hC.2.1 dX12_isLetter_6 rfl (lv_at hl 0 rfl) ?_
    refine lv_bipush (v := 122) hC.1 hC.2.1 dX12_isLetter_7 (by decide) ?_
    refine lv_icmp_gt (tgt := 16) hC.1 hC.2.1 dX12_isLetter_9 (by decide) (fun hc_2 => ?_) (fun hc_2 => ?_)
    · have hf := ite_t hf hc_2
      exact t12_isLetter_16 hC  _ _ _ _ hf hW (lv_sub hl [] rfl)
    · have hf := ite_f hf hc_2
      refine lv_iconst (v := 1) hC.1 hC.2.1 dX12_isLetter_12 (by decide) ?_
      refine lv_goto (tgt := 17) hC.1 hC.2.1 dX12_isLetter_13 (by decide) ?_
      exact t12_isLetter_17 hC  _ _ _ _ _ hf hW (lv_sub hl [] rfl)
set_option maxRecDepth 100000 in
set_option maxHeartbeats 4000000 in
theorem c12_isLetter (l : Launch) (D : va_G) (cy : Nat → ClassId) (ad : Nat → Nat) {x0 : Int32} {res : Int32} (h : f12_isLetter x0 = some res) : GCi l yX12_isLetter wsX12_isLetter rm12_isLetter [.int x0] D cy ad (([] : va_W)) (([] : va_W)) res := fun sz => GC.start (own := RX12) (Qc := fun A => QI D cy (([] : va_W)) A res) sz (by decide) rfl rfl (Nat.le_of_ble_eq_true rfl) (fun p e s m below meth c A ls hC hW hl => t12_isLetter_0 hC _ _ _ _ _ h hW (lv_sub hl [0] rfl))
abbrev rm12_isDigit : Room := { frames := 0, cells := 0, slots := 0, locals := 0 }
theorem hdS12_isDigit : (yX12_isDigit.cls ≠ "java/lang/invoke/MethodHandle" ∧ yX12_isDigit.cls ≠ "java/lang/invoke/VarHandle" ∧ (parseMethodDescriptor yX12_isDigit.desc).map (fun d => d.parameters.length) = some 1) := by decide +kernel
set_option maxRecDepth 100000 in
set_option maxHeartbeats 4000000 in
theorem t12_isDigit_17 (hC : Cx p s m args meth c cX12_isDigit 1 wsX12_isDigit RX12 (some .boolean)) : ∀ (z0 : Int32) (res : Int32) (H : Heap) (locs : List Loc) (ls : Array Slot), f12_isDigit_17 z0 = some res → GW D cy ad (([] : va_W)) A s H locs → lv_has ls 1 [] → W p l e rm12_isDigit s m args below meth c H locs 0 0 (MQ below (QI D cy (([] : va_W)) A res) args s 0 0 A) (F0 m 17 ls [.int z0]) := by
  intro z0 res H locs ls hf hW hl
  unfold f12_isDigit_17 at hf
  obtain ⟨hz, hf⟩ := ck_of hf
  obtain rfl := Option.some.inj hf
  exact g_zret hC hW hz dX12_isDigit_17
set_option maxRecDepth 100000 in
set_option maxHeartbeats 4000000 in
theorem t12_isDigit_16 (hC : Cx p s m args meth c cX12_isDigit 1 wsX12_isDigit RX12 (some .boolean)) : ∀ (res : Int32) (H : Heap) (locs : List Loc) (ls : Array Slot), f12_isDigit_16 = some res → GW D cy ad (([] : va_W)) A s H locs → lv_has ls 1 [] → W p l e rm12_isDigit s m args below meth c H locs 0 0 (MQ below (QI D cy (([] : va_W)) A res) args s 0 0 A) (F0 m 16 ls []) := by
  intro res H locs ls hf hW hl
  unfold f12_isDigit_16 at hf
  refine lv_iconst (v := 0) hC.1 hC.2.1 dX12_isDigit_16 (by decide) ?_
  exact t12_isDigit_17 hC  _ _ _ _ _ hf hW (lv_sub hl [] rfl)
set_option maxRecDepth 100000 in
set_option maxHeartbeats 4000000 in
theorem t12_isDigit_0 (hC : Cx p s m args meth c cX12_isDigit 1 wsX12_isDigit RX12 (some .boolean)) : ∀ (x0 : Int32) (res : Int32) (H : Heap) (locs : List Loc) (ls : Array Slot), f12_isDigit x0 = some res → GW D cy ad (([] : va_W)) A s H locs → lv_has ls 1 [(0, .int x0)] → W p l e rm12_isDigit s m args below meth c H locs 0 0 (MQ below (QI D cy (([] : va_W)) A res) args s 0 0 A) (F0 m 0 ls []) := by
  intro x0 res H locs ls hf hW hl
  unfold f12_isDigit at hf
  refine lv_iload_n hC.1 hC.2.1 dX12_isDigit_0 rfl (lv_at hl 0 rfl) ?_
  refine lv_bipush (v := 48) hC.1 hC.2.1 dX12_isDigit_1 (by decide) ?_
  refine lv_icmp_lt (tgt := 16) hC.1 hC.2.1 dX12_isDigit_3 (by decide) (fun hc_1 => ?_) (fun hc_1 => ?_)
  · have hf := ite_t hf hc_1
    exact t12_isDigit_16 hC  _ _ _ _ hf hW (lv_sub hl [] rfl)
  · have hf := ite_f hf hc_1
    refine lv_iload_n hC.1 hC.2.1 dX12_isDigit_6 rfl (lv_at hl 0 rfl) ?_
    refine lv_bipush (v := 57) hC.1 hC.2.1 dX12_isDigit_7 (by decide) ?_
    refine lv_icmp_gt (tgt := 16) hC.1 hC.2.1 dX12_isDigit_9 (by decide) (fun hc_2 => ?_) (fun hc_2 => ?_)
    · have hf := ite_t hf hc_2
      exact t12_isDigit_16 hC  _ _ _ _ hf hW (lv_sub hl [] rfl)
    · have hf := ite_f hf hc_2
      refine lv_iconst (v := 1) hC.1 hC.2.1 dX12_isDigit_12 (by decide) ?_
      refine lv_goto (tgt := 17) hC.1 hC.2.1 dX12_isDigit_13 (by decide) ?_
      exact t12_isDigit_17 hC  _ _ _ _ _ hf hW (lv_sub hl [] rfl)
set_option maxRecDepth 100000 in
set_option maxHeartbeats 4000000 in
theorem c12_isDigit (l : Launch) (D : va_G) (cy : Nat → ClassId) (ad : Nat → Nat) {x0 : Int32} {res : Int32} (h : f12_isDigit x0 = some res) : GCi l yX12_isDigit wsX12_isDigit rm12_isDigit [.int x0] D cy ad (([] : va_W)) (([] : va_W)) res := fun sz => GC.start (own := RX12) (Qc := fun A => QI D cy (([] : va_W)) A res) sz (by decide) rfl rfl (Nat.le_of_ble_eq_true rfl) (fun p e s m below meth c A ls hC hW hl => t12_isDigit_0 hC _ _ _ _ _ h hW (lv_sub hl [0] rfl))
abbrev rm12_rank : Room := { frames := 1, cells := 0, slots := 0, locals := 20 }
theorem hdS12_rank : (yX12_rank.cls ≠ "java/lang/invoke/MethodHandle" ∧ yX12_rank.cls ≠ "java/lang/invoke/VarHandle" ∧ (parseMethodDescriptor yX12_rank.desc).map (fun d => d.parameters.length) = some 1) := by decide +kernel
set_option maxRecDepth 100000 in
set_option maxHeartbeats 4000000 in
theorem t12_rank_18 (hC : Cx p s m args meth c cX12_rank 1 wsX12_rank RX12 (some .int)) : ∀ (z0 : Int32) (res : Int32) (H : Heap) (locs : List Loc) (ls : Array Slot), f12_rank_18 z0 = some res → GW D cy ad (([] : va_W)) A s H locs → lv_has ls 1 [] → W p l e rm12_rank s m args below meth c H locs 0 0 (MQ below (QI D cy (([] : va_W)) A res) args s 0 0 A) (F0 m 18 ls [.int z0]) := by
  intro z0 res H locs ls hf hW hl
  unfold f12_rank_18 at hf
  obtain rfl := Option.some.inj hf
  exact g_iret hC hW dX12_rank_18
set_option maxRecDepth 100000 in
set_option maxHeartbeats 4000000 in
theorem t12_rank_0 (hC : Cx p s m args meth c cX12_rank 1 wsX12_rank RX12 (some .int)) : ∀ (x0 : Int32) (res : Int32) (H : Heap) (locs : List Loc) (ls : Array Slot), f12_rank x0 = some res → GW D cy ad (([] : va_W)) A s H locs → lv_has ls 1 [(0, .int x0)] → W p l e rm12_rank s m args below meth c H locs 0 0 (MQ below (QI D cy (([] : va_W)) A res) args s 0 0 A) (F0 m 0 ls []) := by
  intro x0 res H locs ls hf hW hl
  unfold f12_rank at hf
  refine lv_iload_n hC.1 hC.2.1 dX12_rank_0 rfl (lv_at hl 0 rfl) ?_
  obtain ⟨r_1, hg_2, hf⟩ := bd_of hf
  refine g_calliS hC hW (c12_isLetter l D cy ad  hg_2) (va_cwS 1 hC.2.2.2.2.1 gX12_rank_X12_isLetter rfl rfl rfl hdS12_isLetter ⟨Nat.le_of_ble_eq_true rfl, Nat.le_of_ble_eq_true rfl⟩) (Sub.all _ _) rfl hl.1 rfl (Nat.le_of_ble_eq_true rfl) dX12_rank_1 ⟨Nat.zero_le _, Nat.zero_le _⟩ (fun H locs hW => ?_)
  refine lv_if_eq (tgt := 14) hC.1 hC.2.1 dX12_rank_4 (by decide) (fun hc_3 => ?_) (fun hc_3 => ?_)
  · have hf := ite_t hf hc_3
    refine lv_iload_n hC.1 hC.2.1 dX12_rank_14 rfl (lv_at hl 0 rfl) ?_
    refine lv_bipush (v := 21) hC.1 hC.2.1 dX12_rank_15 (by decide) ?_
    refine lv_isub hC.1 hC.2.1 dX12_rank_17 ?_
    exact t12_rank_18 hC  _ _ _ _ _ hf hW (lv_sub hl [] rfl)
  · have hf := ite_f hf hc_3
    refine lv_iload_n hC.1 hC.2.1 dX12_rank_7 rfl (lv_at hl 0 rfl) ?_
    refine lv_bipush (v := 96) hC.1 hC.2.1 dX12_rank_8 (by decide) ?_
    refine lv_isub hC.1 hC.2.1 dX12_rank_10 ?_
    refine lv_goto (tgt := 18) hC.1 hC.2.1 dX12_rank_11 (by decide) ?_
    exact t12_rank_18 hC  _ _ _ _ _ hf hW (lv_sub hl [] rfl)
set_option maxRecDepth 100000 in
set_option maxHeartbeats 4000000 in
theorem c12_rank (l : Launch) (D : va_G) (cy : Nat → ClassId) (ad : Nat → Nat) {x0 : Int32} {res : Int32} (h : f12_rank x0 = some res) : GCi l yX12_rank wsX12_rank rm12_rank [.int x0] D cy ad (([] : va_W)) (([] : va_W)) res := fun sz => GC.start (own := RX12) (Qc := fun A => QI D cy (([] : va_W)) A res) sz (by decide) rfl rfl (Nat.le_of_ble_eq_true rfl) (fun p e s m below meth c A ls hC hW hl => t12_rank_0 hC _ _ _ _ _ h hW (lv_sub hl [0] rfl))
abbrev rm12_isSignOf : Room := { frames := 0, cells := 0, slots := 0, locals := 0 }
theorem hdS12_isSignOf : (yX12_isSignOf.cls ≠ "java/lang/invoke/MethodHandle" ∧ yX12_isSignOf.cls ≠ "java/lang/invoke/VarHandle" ∧ (parseMethodDescriptor yX12_isSignOf.desc).map (fun d => d.parameters.length) = some 1) := by decide +kernel
set_option maxRecDepth 100000 in
set_option maxHeartbeats 4000000 in
theorem t12_isSignOf_53 (hC : Cx p s m args meth c cX12_isSignOf 1 wsX12_isSignOf RX12 (some .boolean)) : ∀ (z0 : Int32) (res : Int32) (H : Heap) (locs : List Loc) (ls : Array Slot), f12_isSignOf_53 z0 = some res → GW D cy ad (([] : va_W)) A s H locs → lv_has ls 1 [] → W p l e rm12_isSignOf s m args below meth c H locs 0 0 (MQ below (QI D cy (([] : va_W)) A res) args s 0 0 A) (F0 m 53 ls [.int z0]) := by
  intro z0 res H locs ls hf hW hl
  unfold f12_isSignOf_53 at hf
  obtain ⟨hz, hf⟩ := ck_of hf
  obtain rfl := Option.some.inj hf
  exact g_zret hC hW hz dX12_isSignOf_53
set_option maxRecDepth 100000 in
set_option maxHeartbeats 4000000 in
theorem t12_isSignOf_48 (hC : Cx p s m args meth c cX12_isSignOf 1 wsX12_isSignOf RX12 (some .boolean)) : ∀ (res : Int32) (H : Heap) (locs : List Loc) (ls : Array Slot), f12_isSignOf_48 = some res → GW D cy ad (([] : va_W)) A s H locs → lv_has ls 1 [] → W p l e rm12_isSignOf s m args below meth c H locs 0 0 (MQ below (QI D cy (([] : va_W)) A res) args s 0 0 A) (F0 m 48 ls []) := by
  intro res H locs ls hf hW hl
  unfold f12_isSignOf_48 at hf
  refine lv_iconst (v := 1) hC.1 hC.2.1 dX12_isSignOf_48 (by decide) ?_
  refine lv_goto (tgt := 53) hC.1 hC.2.1 dX12_isSignOf_49 (by decide) ?_
  exact t12_isSignOf_53 hC  _ _ _ _ _ hf hW (lv_sub hl [] rfl)
set_option maxRecDepth 100000 in
set_option maxHeartbeats 4000000 in
theorem t12_isSignOf_0 (hC : Cx p s m args meth c cX12_isSignOf 1 wsX12_isSignOf RX12 (some .boolean)) : ∀ (x0 : Int32) (res : Int32) (H : Heap) (locs : List Loc) (ls : Array Slot), f12_isSignOf x0 = some res → GW D cy ad (([] : va_W)) A s H locs → lv_has ls 1 [(0, .int x0)] → W p l e rm12_isSignOf s m args below meth c H locs 0 0 (MQ below (QI D cy (([] : va_W)) A res) args s 0 0 A) (F0 m 0 ls []) := by
  intro x0 res H locs ls hf hW hl
  unfold f12_isSignOf at hf
  refine lv_iload_n hC.1 hC.2.1 dX12_isSignOf_0 rfl (lv_at hl 0 rfl) ?_
  refine lv_bipush (v := 40) hC.1 hC.2.1 dX12_isSignOf_1 (by decide) ?_
  refine lv_icmp_eq (tgt := 48) hC.1 hC.2.1 dX12_isSignOf_3 (by decide) (fun hc_1 => ?_) (fun hc_1 => ?_)
  · have hf := ite_t hf hc_1
    exact t12_isSignOf_48 hC  _ _ _ _ hf hW (lv_sub hl [] rfl)
  · have hf := ite_f hf hc_1
    refine lv_iload_n hC.1 hC.2.1 dX12_isSignOf_6 rfl (lv_at hl 0 rfl) ?_
    refine lv_bipush (v := 41) hC.1 hC.2.1 dX12_isSignOf_7 (by decide) ?_
    refine lv_icmp_eq (tgt := 48) hC.1 hC.2.1 dX12_isSignOf_9 (by decide) (fun hc_2 => ?_) (fun hc_2 => ?_)
    · have hf := ite_t hf hc_2
      exact t12_isSignOf_48 hC  _ _ _ _ hf hW (lv_sub hl [] rfl)
    · have hf := ite_f hf hc_2
      refine lv_iload_n hC.1 hC.2.1 dX12_isSignOf_12 rfl (lv_at hl 0 rfl) ?_
      refine lv_bipush (v := 59) hC.1 hC.2.1 dX12_isSignOf_13 (by decide) ?_
      refine lv_icmp_eq (tgt := 48) hC.1 hC.2.1 dX12_isSignOf_15 (by decide) (fun hc_3 => ?_) (fun hc_3 => ?_)
      · have hf := ite_t hf hc_3
        exact t12_isSignOf_48 hC  _ _ _ _ hf hW (lv_sub hl [] rfl)
      · have hf := ite_f hf hc_3
        refine lv_iload_n hC.1 hC.2.1 dX12_isSignOf_18 rfl (lv_at hl 0 rfl) ?_
        refine lv_bipush (v := 61) hC.1 hC.2.1 dX12_isSignOf_19 (by decide) ?_
        refine lv_icmp_eq (tgt := 48) hC.1 hC.2.1 dX12_isSignOf_21 (by decide) (fun hc_4 => ?_) (fun hc_4 => ?_)
        · have hf := ite_t hf hc_4
          exact t12_isSignOf_48 hC  _ _ _ _ hf hW (lv_sub hl [] rfl)
        · have hf := ite_f hf hc_4
          refine lv_iload_n hC.1 hC.2.1 dX12_isSignOf_24 rfl (lv_at hl 0 rfl) ?_
          refine lv_bipush (v := 60) hC.1 hC.2.1 dX12_isSignOf_25 (by decide) ?_
          refine lv_icmp_eq (tgt := 48) hC.1 hC.2.1 dX12_isSignOf_27 (by decide) (fun hc_5 => ?_) (fun hc_5 => ?_)
          · have hf := ite_t hf hc_5
            exact t12_isSignOf_48 hC  _ _ _ _ hf hW (lv_sub hl [] rfl)
          · have hf := ite_f hf hc_5
            refine lv_iload_n hC.1 hC.2.1 dX12_isSignOf_30 rfl (lv_at hl 0 rfl) ?_
            refine lv_bipush (v := 43) hC.1 hC.2.1 dX12_isSignOf_31 (by decide) ?_
            refine lv_icmp_eq (tgt := 48) hC.1 hC.2.1 dX12_isSignOf_33 (by decide) (fun hc_6 => ?_) (fun hc_6 => ?_)
            · have hf := ite_t hf hc_6
              exact t12_isSignOf_48 hC  _ _ _ _ hf hW (lv_sub hl [] rfl)
            · have hf := ite_f hf hc_6
              refine lv_iload_n hC.1 hC.2.1 dX12_isSignOf_36 rfl (lv_at hl 0 rfl) ?_
              refine lv_bipush (v := 45) hC.1 hC.2.1 dX12_isSignOf_37 (by decide) ?_
              refine lv_icmp_eq (tgt := 48) hC.1 hC.2.1 dX12_isSignOf_39 (by decide) (fun hc_7 => ?_) (fun hc_7 => ?_)
              · have hf := ite_t hf hc_7
                exact t12_isSignOf_48 hC  _ _ _ _ hf hW (lv_sub hl [] rfl)
              · have hf := ite_f hf hc_7
                refine lv_iload_n hC.1 hC.2.1 dX12_isSignOf_42 rfl (lv_at hl 0 rfl) ?_
                refine lv_bipush (v := 42) hC.1 hC.2.1 dX12_isSignOf_43 (by decide) ?_
                refine lv_icmp_ne (tgt := 52) hC.1 hC.2.1 dX12_isSignOf_45 (by decide) (fun hc_8 => ?_) (fun hc_8 => ?_)
                · have hf := ite_f hf hc_8
                  refine lv_iconst (v := 0) hC.1 hC.2.1 dX12_isSignOf_52 (by decide) ?_
                  exact t12_isSignOf_53 hC  _ _ _ _ _ hf hW (lv_sub hl [] rfl)
                · have hf := ite_t hf hc_8
                  exact t12_isSignOf_48 hC  _ _ _ _ hf hW (lv_sub hl [] rfl)
set_option maxRecDepth 100000 in
set_option maxHeartbeats 4000000 in
theorem c12_isSignOf (l : Launch) (D : va_G) (cy : Nat → ClassId) (ad : Nat → Nat) {x0 : Int32} {res : Int32} (h : f12_isSignOf x0 = some res) : GCi l yX12_isSignOf wsX12_isSignOf rm12_isSignOf [.int x0] D cy ad (([] : va_W)) (([] : va_W)) res := fun sz => GC.start (own := RX12) (Qc := fun A => QI D cy (([] : va_W)) A res) sz (by decide) rfl rfl (Nat.le_of_ble_eq_true rfl) (fun p e s m below meth c A ls hC hW hl => t12_isSignOf_0 hC _ _ _ _ _ h hW (lv_sub hl [0] rfl))
abbrev rm12_lay : Room := { frames := 0, cells := 0, slots := 0, locals := 0 }
theorem hdV12_lay : yX12_lay.cls = RX12 ∧ (yX12_lay.cls ≠ "java/lang/invoke/MethodHandle" ∧ yX12_lay.cls ≠ "java/lang/invoke/VarHandle" ∧ (parseMethodDescriptor yX12_lay.desc).map (fun d => d.parameters.length) = some 1) := by decide +kernel
theorem hin12_lay_12 : ∀ x ∈ u_ws RX12 TX12 39, x ∈ wsX12_lay := by decide +kernel
set_option maxRecDepth 100000 in
set_option maxHeartbeats 4000000 in
theorem t12_lay_69 (hC : Cx p s m args meth c cX12_lay 5 wsX12_lay RX12 none) {k3 : Int64 → Int32 → Ob → Option (Ob)} (hk3 : ∀ (x1 : Int64) (x3 : Int32) (SM : Ob) (res : Ob) (H : Heap) (locs : List Loc) (ls : Array Slot), k3 x1 x3 SM = some res → GW D cy ad (w12 cy aM SM) A s H locs → lv_has ls 5 [(0, .ref (aM 0)), (1, .long x1), (3, .int x3)] → W p l e rm12_lay s m args below meth c H locs 0 0 (MQ below (QV D cy (w12 cy aM res) A) args s 0 0 A) (F0 m 3 ls [])) : ∀ (x1 : Int64) (x3 : Int32) (SM : Ob) (res : Ob) (H : Heap) (locs : List Loc) (ls : Array Slot), f12_lay_69 k3 x1 x3 SM = some res → GW D cy ad (w12 cy aM SM) A s H locs → lv_has ls 5 [(0, .ref (aM 0)), (1, .long x1), (3, .int x3)] → W p l e rm12_lay s m args below meth c H locs 0 0 (MQ below (QV D cy (w12 cy aM res) A) args s 0 0 A) (F0 m 69 ls []) := by
  intro x1 x3 SM res H locs ls hf hW hl
  unfold f12_lay_69 at hf
  obtain ⟨x3_1, ex3_1⟩ : ∃ y : Int32, y = x3 + (-8) := ⟨_, rfl⟩
  have hf := lt_nm hf ex3_1
  refine lv_iinc (v := x3_1) (lv' := [(3, .int x3_1), (0, .ref (aM 0)), (1, .long x1)]) hC.1 hC.2.1 dX12_lay_69 hl (k := 2) rfl (by rw [ex3_1]; rfl) (by decide) rfl (fun ls hl => ?_)
  refine lv_goto (tgt := 3) hC.1 hC.2.1 dX12_lay_72 (by decide) ?_
  exact hk3 _ _ _ _ _ _ _ hf hW (lv_sub hl [1, 2, 0] rfl)
set_option maxRecDepth 100000 in
set_option maxHeartbeats 4000000 in
theorem t12_lay_38 (hC : Cx p s m args meth c cX12_lay 5 wsX12_lay RX12 none) {k3 : Int64 → Int32 → Ob → Option (Ob)} (hk3 : ∀ (x1 : Int64) (x3 : Int32) (SM : Ob) (res : Ob) (H : Heap) (locs : List Loc) (ls : Array Slot), k3 x1 x3 SM = some res → GW D cy ad (w12 cy aM SM) A s H locs → lv_has ls 5 [(0, .ref (aM 0)), (1, .long x1), (3, .int x3)] → W p l e rm12_lay s m args below meth c H locs 0 0 (MQ below (QV D cy (w12 cy aM res) A) args s 0 0 A) (F0 m 3 ls [])) : ∀ (x1 : Int64) (x3 : Int32) (x4 : Int32) (SM : Ob) (res : Ob) (H : Heap) (locs : List Loc) (ls : Array Slot), f12_lay_38 k3 x1 x3 x4 SM = some res → GW D cy ad (w12 cy aM SM) A s H locs → lv_has ls 5 [(0, .ref (aM 0)), (1, .long x1), (3, .int x3), (4, .int x4)] → W p l e rm12_lay s m args below meth c H locs 0 0 (MQ below (QV D cy (w12 cy aM res) A) args s 0 0 A) (F0 m 38 ls []) := by
  intro x1 x3 x4 SM res H locs ls hf hW hl
  unfold f12_lay_38 at hf
  refine lv_aload_n hC.1 hC.2.1 dX12_lay_38 rfl (lv_at hl 0 rfl) ?_
  refine g_get hC hW hin12_lay_12 0 rfl rfl 2 (by decide) 1 rfl rfl dX12_lay_39 ?_
  refine lv_sipush (v := 1000) hC.1 hC.2.1 dX12_lay_42 (by decide) ?_
  refine lv_icmp_ge (tgt := 69) hC.1 hC.2.1 dX12_lay_45 (by decide) (fun hc_1 => ?_) (fun hc_1 => ?_)
  · have hf := ite_t hf hc_1
    exact t12_lay_69 hC hk3  _ _ _ _ _ _ _ hf hW (lv_sub hl [0, 1, 2] rfl)
  · have hf := ite_f hf hc_1
    refine lv_aload_n hC.1 hC.2.1 dX12_lay_48 rfl (lv_at hl 0 rfl) ?_
    refine g_get hC hW hin12_lay_12 0 rfl rfl 1 (by decide) 2 rfl rfl dX12_lay_49 ?_
    refine lv_aload_n hC.1 hC.2.1 dX12_lay_52 rfl (lv_at hl 0 rfl) ?_
    refine g_get hC hW hin12_lay_12 0 rfl rfl 2 (by decide) 1 rfl rfl dX12_lay_53 ?_
    refine lv_iload hC.1 hC.2.1 dX12_lay_56 (lv_at hl 3 rfl) ?_
    obtain ⟨hi_2, hf⟩ := ck_of hf
    obtain ⟨SM_3, eSM_3⟩ : ∃ y : Ob, y = oA SM 1 (Int32.toNatClampNeg (SM.1 2)) x4 := ⟨_, rfl⟩
    have hf := lt_nm hf eSM_3
    refine g_iast hC hW 1 rfl hi_2 (w' := w12 cy aM SM_3) (by rw [eSM_3]; rfl) dX12_lay_58 (fun H locs hW => ?_)
    refine lv_aload_n hC.1 hC.2.1 dX12_lay_59 rfl (lv_at hl 0 rfl) ?_
    refine lv_dup hC.1 hC.2.1 dX12_lay_60 rfl ?_
    refine g_get hC hW hin12_lay_12 0 rfl rfl 2 (by decide) 1 rfl rfl dX12_lay_61 ?_
    refine lv_iconst (v := 1) hC.1 hC.2.1 dX12_lay_64 (by decide) ?_
    refine lv_iadd hC.1 hC.2.1 dX12_lay_65 ?_
    obtain ⟨SM_4, eSM_4⟩ : ∃ y : Ob, y = oI SM_3 2 ((SM_3.1 2) + 1) := ⟨_, rfl⟩
    have hf := lt_nm hf eSM_4
    refine g_put hC hW hin12_lay_12 tyX12 tyX12_ok nmX12 0 rfl rfl 2 (by decide) 1 rfl rfl rfl rfl (Nat.le_of_ble_eq_true rfl) (w' := w12 cy aM SM_4) (by rw [eSM_4]; rfl) dX12_lay_66 (fun H locs hW => ?_)
    exact t12_lay_69 hC hk3  _ _ _ _ _ _ _ hf hW (lv_sub hl [0, 1, 2] rfl)
set_option maxRecDepth 100000 in
set_option maxHeartbeats 4000000 in
theorem t12_lay_3 (hC : Cx p s m args meth c cX12_lay 5 wsX12_lay RX12 none) : ∀ n : Nat, ∀ (x1 : Int64) (x3 : Int32) (SM : Ob) (res : Ob) (H : Heap) (locs : List Loc) (ls : Array Slot), f12_lay_3 n x1 x3 SM = some res → GW D cy ad (w12 cy aM SM) A s H locs → lv_has ls 5 [(0, .ref (aM 0)), (1, .long x1), (3, .int x3)] → W p l e rm12_lay s m args below meth c H locs 0 0 (MQ below (QV D cy (w12 cy aM res) A) args s 0 0 A) (F0 m 3 ls []) := by
  intro n
  induction n with
  | zero =>
    intro _ _ _ _ _ _ _ hf _ _
    exact nomatch (show (none : Option (Ob)) = some _ from hf)
  | succ n ih =>
    intro x1 x3 SM res H locs ls hf hW hl
    rw [f12_lay_3] at hf
    refine lv_iload_n hC.1 hC.2.1 dX12_lay_3 rfl (lv_at hl 2 rfl) ?_
    refine lv_if_lt (tgt := 75) hC.1 hC.2.1 dX12_lay_4 (by decide) (fun hc_1 => ?_) (fun hc_1 => ?_)
    · have hf := ite_t hf hc_1
      obtain rfl := Option.some.inj hf
      exact g_vret hC hW dX12_lay_75
    · have hf := ite_f hf hc_1
      refine lv_lload_n hC.1 hC.2.1 dX12_lay_7 rfl (lv_at hl 1 rfl) ?_
      refine lv_iload_n hC.1 hC.2.1 dX12_lay_8 rfl (lv_at hl 2 rfl) ?_
      refine lv_lshr (v := x1 >>> (Int32.toInt64 x3 &&& 63)) hC.1 hC.2.1 dX12_lay_9 rfl ?_
      refine lv_l2i (v := Int64.toInt32 (x1 >>> (Int32.toInt64 x3 &&& 63))) hC.1 hC.2.1 dX12_lay_10 rfl ?_
      refine lv_sipush (v := 255) hC.1 hC.2.1 dX12_lay_11 (by decide) ?_
      refine lv_iand hC.1 hC.2.1 dX12_lay_14 ?_
      refine lv_topi (fun x4_2 ex4_2 => ?_)
      have hf := lt_nm hf ex4_2
      refine lv_istore (lv' := [(4, .int x4_2), (0, .ref (aM 0)), (1, .long x1), (3, .int x3)]) hC.1 hC.2.1 dX12_lay_15 hl (by decide) rfl (fun ls hl => ?_)
      refine lv_iload hC.1 hC.2.1 dX12_lay_17 (lv_at hl 0 rfl) ?_
      refine lv_bipush (v := 10) hC.1 hC.2.1 dX12_lay_19 (by decide) ?_
      refine lv_icmp_eq (tgt := 38) hC.1 hC.2.1 dX12_lay_21 (by decide) (fun hc_3 => ?_) (fun hc_3 => ?_)
      · have hf := ite_t hf hc_3
        exact t12_lay_38 hC ih  _ _ _ _ _ _ _ _ hf hW (lv_sub hl [1, 2, 3, 0] rfl)
      · have hf := ite_f hf hc_3
        refine lv_iload hC.1 hC.2.1 dX12_lay_24 (lv_at hl 0 rfl) ?_
        refine lv_bipush (v := 32) hC.1 hC.2.1 dX12_lay_26 (by decide) ?_
        refine lv_icmp_lt (tgt := 69) hC.1 hC.2.1 dX12_lay_28 (by decide) (fun hc_4 => ?_) (fun hc_4 => ?_)
        · have hf := ite_t hf hc_4
          exact t12_lay_69 hC ih  _ _ _ _ _ _ _ hf hW (lv_sub hl [1, 2, 3] rfl)
        · have hf := ite_f hf hc_4
          refine lv_iload hC.1 hC.2.1 dX12_lay_31 (lv_at hl 0 rfl) ?_
          refine lv_bipush (v := 126) hC.1 hC.2.1 dX12_lay_33 (by decide) ?_
          refine lv_icmp_gt (tgt := 69) hC.1 hC.2.1 dX12_lay_35 (by decide) (fun hc_5 => ?_) (fun hc_5 => ?_)
          · have hf := ite_t hf hc_5
            exact t12_lay_69 hC ih  _ _ _ _ _ _ _ hf hW (lv_sub hl [1, 2, 3] rfl)
          · have hf := ite_f hf hc_5
            exact t12_lay_38 hC ih  _ _ _ _ _ _ _ _ hf hW (lv_sub hl [1, 2, 3, 0] rfl)
set_option maxRecDepth 100000 in
set_option maxHeartbeats 4000000 in
theorem t12_lay_0 (hC : Cx p s m args meth c cX12_lay 5 wsX12_lay RX12 none) : ∀ (x1 : Int64) (SM : Ob) (res : Ob) (H : Heap) (locs : List Loc) (ls : Array Slot), f12_lay x1 SM = some res → GW D cy ad (w12 cy aM SM) A s H locs → lv_has ls 5 [(0, .ref (aM 0)), (1, .long x1)] → W p l e rm12_lay s m args below meth c H locs 0 0 (MQ below (QV D cy (w12 cy aM res) A) args s 0 0 A) (F0 m 0 ls []) := by
  intro x1 SM res H locs ls hf hW hl
  unfold f12_lay at hf
  refine lv_bipush (v := 56) hC.1 hC.2.1 dX12_lay_0 (by decide) ?_
  refine lv_istore_n (lv' := [(3, .int 56), (0, .ref (aM 0)), (1, .long x1)]) hC.1 hC.2.1 dX12_lay_2 rfl hl (by decide) rfl (fun ls hl => ?_)
  exact t12_lay_3 hC _ _ _ _ _ _ _ _ hf hW (lv_sub hl [1, 2, 0] rfl)
set_option maxRecDepth 100000 in
set_option maxHeartbeats 4000000 in
theorem c12_lay (l : Launch) (D : va_G) (cy : Nat → ClassId) (ad : Nat → Nat) (aM : Nat → Nat) {x1 : Int64} {SM : Ob} {res : Ob} (h : f12_lay x1 SM = some res) : GCv l yX12_lay wsX12_lay rm12_lay [.ref (aM 0), .long x1] D cy ad (w12 cy aM SM) (w12 cy aM res) := fun sz => GC.start (own := RX12) (Qc := fun A => QV D cy (w12 cy aM res) A) sz (by decide) rfl rfl (Nat.le_of_ble_eq_true rfl) (fun p e s m below meth c A ls hC hW hl => t12_lay_0 hC _ _ _ _ _ _ h hW (lv_sub hl [0, 1] rfl))
abbrev rm12_feed : Room := { frames := 1, cells := 0, slots := 0, locals := 24 }
theorem hdV12_feed : yX12_feed.cls = RX12 ∧ (yX12_feed.cls ≠ "java/lang/invoke/MethodHandle" ∧ yX12_feed.cls ≠ "java/lang/invoke/VarHandle" ∧ (parseMethodDescriptor yX12_feed.desc).map (fun d => d.parameters.length) = some 3) := by decide +kernel
theorem hin12_feed_12 : ∀ x ∈ u_ws RX12 TX12 39, x ∈ wsX12_feed := by decide +kernel
set_option maxRecDepth 100000 in
set_option maxHeartbeats 4000000 in
theorem t12_feed_0 (hC : Cx p s m args meth c cX12_feed 7 wsX12_feed RX12 (some .int)) : ∀ (x1 : Int64) (x3 : Int64) (x5 : Int64) (SM : Ob) (res : Int32 × Ob) (H : Heap) (locs : List Loc) (ls : Array Slot), f12_feed x1 x3 x5 SM = some res → GW D cy ad (w12 cy aM SM) A s H locs → lv_has ls 7 [(0, .ref (aM 0)), (1, .long x1), (3, .long x3), (5, .long x5)] → W p l e rm12_feed s m args below meth c H locs 0 0 (MQ below (QI D cy (w12 cy aM res.2) A (res.1)) args s 0 0 A) (F0 m 0 ls []) := by
  intro x1 x3 x5 SM res H locs ls hf hW hl
  unfold f12_feed at hf
  refine lv_aload_n hC.1 hC.2.1 dX12_feed_0 rfl (lv_at hl 0 rfl) ?_
  refine lv_iconst (v := 0) hC.1 hC.2.1 dX12_feed_1 (by decide) ?_
  obtain ⟨SM_1, eSM_1⟩ : ∃ y : Ob, y = oI SM 0 0 := ⟨_, rfl⟩
  have hf := lt_nm hf eSM_1
  refine g_put hC hW hin12_feed_12 tyX12 tyX12_ok nmX12 0 rfl rfl 0 (by decide) 1 rfl rfl rfl rfl (Nat.le_of_ble_eq_true rfl) (w' := w12 cy aM SM_1) (by rw [eSM_1]; rfl) dX12_feed_2 (fun H locs hW => ?_)
  refine lv_aload_n hC.1 hC.2.1 dX12_feed_5 rfl (lv_at hl 0 rfl) ?_
  refine lv_lload_n hC.1 hC.2.1 dX12_feed_6 rfl (lv_at hl 1 rfl) ?_
  obtain ⟨r_2, hg_3, hf⟩ := bd_of hf
  refine g_callvV hC hW (c12_lay l D cy ad aM hg_3) (cwV 1 hC.2.2.2.2.1 gX12_feed_X12_lay rfl rfl rfl hdV12_lay ⟨Nat.le_of_ble_eq_true rfl, Nat.le_of_ble_eq_true rfl⟩) (Sub.all _ _) 0 11 rfl rfl rfl rfl hl.1 rfl (Nat.le_of_ble_eq_true rfl) dX12_feed_7 ⟨Nat.zero_le _, Nat.zero_le _⟩ (fun H locs hW => ?_)
  refine lv_aload_n hC.1 hC.2.1 dX12_feed_10 rfl (lv_at hl 0 rfl) ?_
  refine lv_lload_n hC.1 hC.2.1 dX12_feed_11 rfl (lv_at hl 2 rfl) ?_
  obtain ⟨r_4, hg_5, hf⟩ := bd_of hf
  refine g_callvV hC hW (c12_lay l D cy ad aM hg_5) (cwV 1 hC.2.2.2.2.1 gX12_feed_X12_lay rfl rfl rfl hdV12_lay ⟨Nat.le_of_ble_eq_true rfl, Nat.le_of_ble_eq_true rfl⟩) (Sub.all _ _) 0 11 rfl rfl rfl rfl hl.1 rfl (Nat.le_of_ble_eq_true rfl) dX12_feed_12 ⟨Nat.zero_le _, Nat.zero_le _⟩ (fun H locs hW => ?_)
  refine lv_aload_n hC.1 hC.2.1 dX12_feed_15 rfl (lv_at hl 0 rfl) ?_
  refine lv_lload hC.1 hC.2.1 dX12_feed_16 (lv_at hl 3 rfl) ?_
  obtain ⟨r_6, hg_7, hf⟩ := bd_of hf
  refine g_callvV hC hW (c12_lay l D cy ad aM hg_7) (cwV 1 hC.2.2.2.2.1 gX12_feed_X12_lay rfl rfl rfl hdV12_lay ⟨Nat.le_of_ble_eq_true rfl, Nat.le_of_ble_eq_true rfl⟩) (Sub.all _ _) 0 11 rfl rfl rfl rfl hl.1 rfl (Nat.le_of_ble_eq_true rfl) dX12_feed_18 ⟨Nat.zero_le _, Nat.zero_le _⟩ (fun H locs hW => ?_)
  refine lv_aload_n hC.1 hC.2.1 dX12_feed_21 rfl (lv_at hl 0 rfl) ?_
  refine g_get hC hW hin12_feed_12 0 rfl rfl 2 (by decide) 2 rfl rfl dX12_feed_22 ?_
  obtain rfl := Option.some.inj hf
  exact g_iret hC hW dX12_feed_25
set_option maxRecDepth 100000 in
set_option maxHeartbeats 4000000 in
theorem c12_feed (l : Launch) (D : va_G) (cy : Nat → ClassId) (ad : Nat → Nat) (aM : Nat → Nat) {x1 : Int64} {x3 : Int64} {x5 : Int64} {SM : Ob} {res : Int32 × Ob} (h : f12_feed x1 x3 x5 SM = some res) : GCi l yX12_feed wsX12_feed rm12_feed [.ref (aM 0), .long x1, .long x3, .long x5] D cy ad (w12 cy aM SM) (w12 cy aM res.2) (res.1) := fun sz => GC.start (own := RX12) (Qc := fun A => QI D cy (w12 cy aM res.2) A (res.1)) sz (by decide) rfl rfl (Nat.le_of_ble_eq_true rfl) (fun p e s m below meth c A ls hC hW hl => t12_feed_0 hC _ _ _ _ _ _ _ _ h hW (lv_sub hl [0, 1, 2, 3] rfl))
abbrev rm12_find : Room := { frames := 0, cells := 0, slots := 0, locals := 0 }
theorem hdV12_find : yX12_find.cls = RX12 ∧ (yX12_find.cls ≠ "java/lang/invoke/MethodHandle" ∧ yX12_find.cls ≠ "java/lang/invoke/VarHandle" ∧ (parseMethodDescriptor yX12_find.desc).map (fun d => d.parameters.length) = some 0) := by decide +kernel
theorem hin12_find_12 : ∀ x ∈ u_ws RX12 TX12 39, x ∈ wsX12_find := by decide +kernel
set_option maxRecDepth 100000 in
set_option maxHeartbeats 4000000 in
theorem t12_find_81 (hC : Cx p s m args meth c cX12_find 2 wsX12_find RX12 (some .int)) : ∀ (z0 : Int32) (SM : Ob) (res : Int32) (H : Heap) (locs : List Loc) (ls : Array Slot), f12_find_81 z0 SM = some res → GW D cy ad (w12 cy aM SM) A s H locs → lv_has ls 2 [] → W p l e rm12_find s m args below meth c H locs 0 0 (MQ below (QI D cy (w12 cy aM SM) A res) args s 0 0 A) (F0 m 81 ls [.int z0]) := by
  intro z0 SM res H locs ls hf hW hl
  unfold f12_find_81 at hf
  obtain rfl := Option.some.inj hf
  exact g_iret hC hW dX12_find_81
set_option maxRecDepth 100000 in
set_option maxHeartbeats 4000000 in
theorem t12_find_46 (hC : Cx p s m args meth c cX12_find 2 wsX12_find RX12 (some .int)) {k2 : Int32 → Ob → Option (Int32)} (hk2 : ∀ (x1 : Int32) (SM : Ob) (res : Int32) (H : Heap) (locs : List Loc) (ls : Array Slot), k2 x1 SM = some res → GW D cy ad (w12 cy aM SM) A s H locs → lv_has ls 2 [(0, .ref (aM 0)), (1, .int x1)] → W p l e rm12_find s m args below meth c H locs 0 0 (MQ below (QI D cy (w12 cy aM SM) A res) args s 0 0 A) (F0 m 2 ls [])) : ∀ (x1 : Int32) (z0 : Int64) (SM : Ob) (res : Int32) (H : Heap) (locs : List Loc) (ls : Array Slot), f12_find_46 k2 x1 z0 SM = some res → GW D cy ad (w12 cy aM SM) A s H locs → lv_has ls 2 [(0, .ref (aM 0)), (1, .int x1)] → W p l e rm12_find s m args below meth c H locs 0 0 (MQ below (QI D cy (w12 cy aM SM) A res) args s 0 0 A) (F0 m 46 ls [.long z0]) := by
  intro x1 z0 SM res H locs ls hf hW hl
  unfold f12_find_46 at hf
  refine lv_aload_n hC.1 hC.2.1 dX12_find_46 rfl (lv_at hl 0 rfl) ?_
  refine g_get hC hW hin12_find_12 0 rfl rfl 6 (by decide) 6 rfl rfl dX12_find_47 ?_
  refine lv_aload_n hC.1 hC.2.1 dX12_find_50 rfl (lv_at hl 0 rfl) ?_
  refine g_get hC hW hin12_find_12 0 rfl rfl 7 (by decide) 7 rfl rfl dX12_find_51 ?_
  obtain ⟨hi_1, hf⟩ := ck_of hf
  refine g_lald hC hW 4 rfl hi_1 dX12_find_54 ?_
  refine W.lcmp hC.1 hC.2.1 dX12_find_55 ?_
  refine lv_if_ne (tgt := 82) hC.1 hC.2.1 dX12_find_56 (by decide) (fun hc_2 => ?_) (fun hc_2 => ?_)
  · have hf := ite_f hf hc_2
    obtain ⟨x1_3, ex1_3⟩ : ∃ y : Int32, y = x1 + 1 := ⟨_, rfl⟩
    have hf := lt_nm hf ex1_3
    refine lv_iinc (v := x1_3) (lv' := [(1, .int x1_3), (0, .ref (aM 0))]) hC.1 hC.2.1 dX12_find_82 hl (k := 1) rfl (by rw [ex1_3]; rfl) (by decide) rfl (fun ls hl => ?_)
    refine lv_goto (tgt := 2) hC.1 hC.2.1 dX12_find_85 (by decide) ?_
    exact hk2 _ _ _ _ _ _ hf hW (lv_sub hl [1, 0] rfl)
  · have hf := ite_t hf hc_2
    refine lv_aload_n hC.1 hC.2.1 dX12_find_59 rfl (lv_at hl 0 rfl) ?_
    refine g_get hC hW hin12_find_12 0 rfl rfl 20 (by decide) 1 rfl rfl dX12_find_60 ?_
    refine lv_if_eq (tgt := 75) hC.1 hC.2.1 dX12_find_63 (by decide) (fun hc_4 => ?_) (fun hc_4 => ?_)
    · have hf := ite_t hf hc_4
      refine lv_aload_n hC.1 hC.2.1 dX12_find_75 rfl (lv_at hl 0 rfl) ?_
      refine g_get hC hW hin12_find_12 0 rfl rfl 16 (by decide) 9 rfl rfl dX12_find_76 ?_
      refine lv_iload_n hC.1 hC.2.1 dX12_find_79 rfl (lv_at hl 1 rfl) ?_
      obtain ⟨hi_5, hf⟩ := ck_of hf
      refine g_iald hC hW 11 rfl hi_5 dX12_find_80 ?_
      exact t12_find_81 hC  _ _ _ _ _ _ hf hW (lv_sub hl [] rfl)
    · have hf := ite_f hf hc_4
      refine lv_aload_n hC.1 hC.2.1 dX12_find_66 rfl (lv_at hl 0 rfl) ?_
      refine g_get hC hW hin12_find_12 0 rfl rfl 17 (by decide) 8 rfl rfl dX12_find_67 ?_
      refine lv_iload_n hC.1 hC.2.1 dX12_find_70 rfl (lv_at hl 1 rfl) ?_
      obtain ⟨hi_6, hf⟩ := ck_of hf
      refine g_iald hC hW 12 rfl hi_6 dX12_find_71 ?_
      refine lv_goto (tgt := 81) hC.1 hC.2.1 dX12_find_72 (by decide) ?_
      exact t12_find_81 hC  _ _ _ _ _ _ hf hW (lv_sub hl [] rfl)
set_option maxRecDepth 100000 in
set_option maxHeartbeats 4000000 in
theorem t12_find_21 (hC : Cx p s m args meth c cX12_find 2 wsX12_find RX12 (some .int)) {k2 : Int32 → Ob → Option (Int32)} (hk2 : ∀ (x1 : Int32) (SM : Ob) (res : Int32) (H : Heap) (locs : List Loc) (ls : Array Slot), k2 x1 SM = some res → GW D cy ad (w12 cy aM SM) A s H locs → lv_has ls 2 [(0, .ref (aM 0)), (1, .int x1)] → W p l e rm12_find s m args below meth c H locs 0 0 (MQ below (QI D cy (w12 cy aM SM) A res) args s 0 0 A) (F0 m 2 ls [])) : ∀ (x1 : Int32) (z0 : Int32) (z1 : Int32) (SM : Ob) (res : Int32) (H : Heap) (locs : List Loc) (ls : Array Slot), f12_find_21 k2 x1 z0 z1 SM = some res → GW D cy ad (w12 cy aM SM) A s H locs → lv_has ls 2 [(0, .ref (aM 0)), (1, .int x1)] → W p l e rm12_find s m args below meth c H locs 0 0 (MQ below (QI D cy (w12 cy aM SM) A res) args s 0 0 A) (F0 m 21 ls [.int z1, .int z0]) := by
  intro x1 z0 z1 SM res H locs ls hf hW hl
  unfold f12_find_21 at hf
  refine lv_icmp_ge (tgt := 88) hC.1 hC.2.1 dX12_find_21 (by decide) (fun hc_1 => ?_) (fun hc_1 => ?_)
  · have hf := ite_t hf hc_1
    refine lv_iconst (v := (-1)) hC.1 hC.2.1 dX12_find_88 (by decide) ?_
    obtain rfl := Option.some.inj hf
    exact g_iret hC hW dX12_find_89
  · have hf := ite_f hf hc_1
    refine lv_aload_n hC.1 hC.2.1 dX12_find_24 rfl (lv_at hl 0 rfl) ?_
    refine g_get hC hW hin12_find_12 0 rfl rfl 20 (by decide) 1 rfl rfl dX12_find_25 ?_
    refine lv_if_eq (tgt := 40) hC.1 hC.2.1 dX12_find_28 (by decide) (fun hc_2 => ?_) (fun hc_2 => ?_)
    · have hf := ite_t hf hc_2
      refine lv_aload_n hC.1 hC.2.1 dX12_find_40 rfl (lv_at hl 0 rfl) ?_
      refine g_get hC hW hin12_find_12 0 rfl rfl 14 (by decide) 5 rfl rfl dX12_find_41 ?_
      refine lv_iload_n hC.1 hC.2.1 dX12_find_44 rfl (lv_at hl 1 rfl) ?_
      obtain ⟨hi_3, hf⟩ := ck_of hf
      refine g_lald hC hW 9 rfl hi_3 dX12_find_45 ?_
      exact t12_find_46 hC hk2  _ _ _ _ _ _ _ hf hW (lv_sub hl [0, 1] rfl)
    · have hf := ite_f hf hc_2
      refine lv_aload_n hC.1 hC.2.1 dX12_find_31 rfl (lv_at hl 0 rfl) ?_
      refine g_get hC hW hin12_find_12 0 rfl rfl 15 (by decide) 4 rfl rfl dX12_find_32 ?_
      refine lv_iload_n hC.1 hC.2.1 dX12_find_35 rfl (lv_at hl 1 rfl) ?_
      obtain ⟨hi_4, hf⟩ := ck_of hf
      refine g_lald hC hW 10 rfl hi_4 dX12_find_36 ?_
      refine lv_goto (tgt := 46) hC.1 hC.2.1 dX12_find_37 (by decide) ?_
      exact t12_find_46 hC hk2  _ _ _ _ _ _ _ hf hW (lv_sub hl [0, 1] rfl)
set_option maxRecDepth 100000 in
set_option maxHeartbeats 4000000 in
theorem t12_find_2 (hC : Cx p s m args meth c cX12_find 2 wsX12_find RX12 (some .int)) : ∀ n : Nat, ∀ (x1 : Int32) (SM : Ob) (res : Int32) (H : Heap) (locs : List Loc) (ls : Array Slot), f12_find_2 n x1 SM = some res → GW D cy ad (w12 cy aM SM) A s H locs → lv_has ls 2 [(0, .ref (aM 0)), (1, .int x1)] → W p l e rm12_find s m args below meth c H locs 0 0 (MQ below (QI D cy (w12 cy aM SM) A res) args s 0 0 A) (F0 m 2 ls []) := by
  intro n
  induction n with
  | zero =>
    intro _ _ _ _ _ _ hf _ _
    exact nomatch (show (none : Option (Int32)) = some _ from hf)
  | succ n ih =>
    intro x1 SM res H locs ls hf hW hl
    rw [f12_find_2] at hf
    refine lv_iload_n hC.1 hC.2.1 dX12_find_2 rfl (lv_at hl 1 rfl) ?_
    refine lv_aload_n hC.1 hC.2.1 dX12_find_3 rfl (lv_at hl 0 rfl) ?_
    refine g_get hC hW hin12_find_12 0 rfl rfl 20 (by decide) 1 rfl rfl dX12_find_4 ?_
    refine lv_if_eq (tgt := 17) hC.1 hC.2.1 dX12_find_7 (by decide) (fun hc_1 => ?_) (fun hc_1 => ?_)
    · have hf := ite_t hf hc_1
      refine lv_aload_n hC.1 hC.2.1 dX12_find_17 rfl (lv_at hl 0 rfl) ?_
      refine g_get hC hW hin12_find_12 0 rfl rfl 18 (by decide) 3 rfl rfl dX12_find_18 ?_
      exact t12_find_21 hC ih  _ _ _ _ _ _ _ _ hf hW (lv_sub hl [0, 1] rfl)
    · have hf := ite_f hf hc_1
      refine lv_aload_n hC.1 hC.2.1 dX12_find_10 rfl (lv_at hl 0 rfl) ?_
      refine g_get hC hW hin12_find_12 0 rfl rfl 19 (by decide) 2 rfl rfl dX12_find_11 ?_
      refine lv_goto (tgt := 21) hC.1 hC.2.1 dX12_find_14 (by decide) ?_
      exact t12_find_21 hC ih  _ _ _ _ _ _ _ _ hf hW (lv_sub hl [0, 1] rfl)
set_option maxRecDepth 100000 in
set_option maxHeartbeats 4000000 in
theorem t12_find_0 (hC : Cx p s m args meth c cX12_find 2 wsX12_find RX12 (some .int)) : ∀ (SM : Ob) (res : Int32) (H : Heap) (locs : List Loc) (ls : Array Slot), f12_find SM = some res → GW D cy ad (w12 cy aM SM) A s H locs → lv_has ls 2 [(0, .ref (aM 0))] → W p l e rm12_find s m args below meth c H locs 0 0 (MQ below (QI D cy (w12 cy aM SM) A res) args s 0 0 A) (F0 m 0 ls []) := by
  intro SM res H locs ls hf hW hl
  unfold f12_find at hf
  refine lv_iconst (v := 0) hC.1 hC.2.1 dX12_find_0 (by decide) ?_
  refine lv_istore_n (lv' := [(1, .int 0), (0, .ref (aM 0))]) hC.1 hC.2.1 dX12_find_1 rfl hl (by decide) rfl (fun ls hl => ?_)
  exact t12_find_2 hC _ _ _ _ _ _ _ hf hW (lv_sub hl [1, 0] rfl)
set_option maxRecDepth 100000 in
set_option maxHeartbeats 4000000 in
theorem c12_find (l : Launch) (D : va_G) (cy : Nat → ClassId) (ad : Nat → Nat) (aM : Nat → Nat) {SM : Ob} {res : Int32} (h : f12_find SM = some res) : GCi l yX12_find wsX12_find rm12_find [.ref (aM 0)] D cy ad (w12 cy aM SM) (w12 cy aM SM) res := fun sz => GC.start (own := RX12) (Qc := fun A => QI D cy (w12 cy aM SM) A res) sz (by decide) rfl rfl (Nat.le_of_ble_eq_true rfl) (fun p e s m below meth c A ls hC hW hl => t12_find_0 hC _ _ _ _ _ h hW (lv_sub hl [0] rfl))
abbrev rm12_wrong : Room := { frames := 0, cells := 0, slots := 0, locals := 0 }
theorem hdV12_wrong : yX12_wrong.cls = RX12 ∧ (yX12_wrong.cls ≠ "java/lang/invoke/MethodHandle" ∧ yX12_wrong.cls ≠ "java/lang/invoke/VarHandle" ∧ (parseMethodDescriptor yX12_wrong.desc).map (fun d => d.parameters.length) = some 1) := by decide +kernel
theorem hin12_wrong_12 : ∀ x ∈ u_ws RX12 TX12 39, x ∈ wsX12_wrong := by decide +kernel
set_option maxRecDepth 100000 in
set_option maxHeartbeats 4000000 in
theorem t12_wrong_25 (hC : Cx p s m args meth c cX12_wrong 2 wsX12_wrong RX12 none) : ∀ (SM : Ob) (res : Ob) (H : Heap) (locs : List Loc) (ls : Array Slot), f12_wrong_25 SM = some res → GW D cy ad (w12 cy aM SM) A s H locs → lv_has ls 2 [] → W p l e rm12_wrong s m args below meth c H locs 0 0 (MQ below (QV D cy (w12 cy aM res) A) args s 0 0 A) (F0 m 25 ls []) := by
  intro SM res H locs ls hf hW hl
  unfold f12_wrong_25 at hf
  obtain rfl := Option.some.inj hf
  exact g_vret hC hW dX12_wrong_25
set_option maxRecDepth 100000 in
set_option maxHeartbeats 4000000 in
theorem t12_wrong_0 (hC : Cx p s m args meth c cX12_wrong 2 wsX12_wrong RX12 none) : ∀ (x1 : Int32) (SM : Ob) (res : Ob) (H : Heap) (locs : List Loc) (ls : Array Slot), f12_wrong x1 SM = some res → GW D cy ad (w12 cy aM SM) A s H locs → lv_has ls 2 [(0, .ref (aM 0)), (1, .int x1)] → W p l e rm12_wrong s m args below meth c H locs 0 0 (MQ below (QV D cy (w12 cy aM res) A) args s 0 0 A) (F0 m 0 ls []) := by
  intro x1 SM res H locs ls hf hW hl
  unfold f12_wrong at hf
  refine lv_aload_n hC.1 hC.2.1 dX12_wrong_0 rfl (lv_at hl 0 rfl) ?_
  refine g_get hC hW hin12_wrong_12 0 rfl rfl 8 (by decide) 1 rfl rfl dX12_wrong_1 ?_
  refine lv_if_ne (tgt := 25) hC.1 hC.2.1 dX12_wrong_4 (by decide) (fun hc_1 => ?_) (fun hc_1 => ?_)
  · have hf := ite_f hf hc_1
    exact t12_wrong_25 hC  _ _ _ _ _ hf hW (lv_sub hl [] rfl)
  · have hf := ite_t hf hc_1
    refine lv_aload_n hC.1 hC.2.1 dX12_wrong_7 rfl (lv_at hl 0 rfl) ?_
    refine lv_iload_n hC.1 hC.2.1 dX12_wrong_8 rfl (lv_at hl 1 rfl) ?_
    refine lv_bipush (v := 16) hC.1 hC.2.1 dX12_wrong_9 (by decide) ?_
    refine lv_aload_n hC.1 hC.2.1 dX12_wrong_11 rfl (lv_at hl 0 rfl) ?_
    refine g_get hC hW hin12_wrong_12 0 rfl rfl 5 (by decide) 2 rfl rfl dX12_wrong_12 ?_
    refine lv_aload_n hC.1 hC.2.1 dX12_wrong_15 rfl (lv_at hl 0 rfl) ?_
    refine g_get hC hW hin12_wrong_12 0 rfl rfl 7 (by decide) 3 rfl rfl dX12_wrong_16 ?_
    obtain ⟨hi_2, hf⟩ := ck_of hf
    refine g_iald hC hW 3 rfl hi_2 dX12_wrong_19 ?_
    refine lv_imul hC.1 hC.2.1 dX12_wrong_20 ?_
    refine lv_iadd hC.1 hC.2.1 dX12_wrong_21 ?_
    obtain ⟨SM_3, eSM_3⟩ : ∃ y : Ob, y = oI SM 8 (x1 + (16 * (SM.2.2.1 5 (Int32.toNatClampNeg (SM.1 7))))) := ⟨_, rfl⟩
    have hf := lt_nm hf eSM_3
    refine g_put hC hW hin12_wrong_12 tyX12 tyX12_ok nmX12 0 rfl rfl 8 (by decide) 1 rfl rfl rfl rfl (Nat.le_of_ble_eq_true rfl) (w' := w12 cy aM SM_3) (by rw [eSM_3]; rfl) dX12_wrong_22 (fun H locs hW => ?_)
    exact t12_wrong_25 hC  _ _ _ _ _ hf hW (lv_sub hl [] rfl)
set_option maxRecDepth 100000 in
set_option maxHeartbeats 4000000 in
theorem c12_wrong (l : Launch) (D : va_G) (cy : Nat → ClassId) (ad : Nat → Nat) (aM : Nat → Nat) {x1 : Int32} {SM : Ob} {res : Ob} (h : f12_wrong x1 SM = some res) : GCv l yX12_wrong wsX12_wrong rm12_wrong [.ref (aM 0), .int x1] D cy ad (w12 cy aM SM) (w12 cy aM res) := fun sz => GC.start (own := RX12) (Qc := fun A => QV D cy (w12 cy aM res) A) sz (by decide) rfl rfl (Nat.le_of_ble_eq_true rfl) (fun p e s m below meth c A ls hC hW hl => t12_wrong_0 hC _ _ _ _ _ _ h hW (lv_sub hl [0, 1] rfl))
abbrev rm12_isSign : Room := { frames := 0, cells := 0, slots := 0, locals := 0 }
theorem hdV12_isSign : yX12_isSign.cls = RX12 ∧ (yX12_isSign.cls ≠ "java/lang/invoke/MethodHandle" ∧ yX12_isSign.cls ≠ "java/lang/invoke/VarHandle" ∧ (parseMethodDescriptor yX12_isSign.desc).map (fun d => d.parameters.length) = some 1) := by decide +kernel
theorem hin12_isSign_12 : ∀ x ∈ u_ws RX12 TX12 39, x ∈ wsX12_isSign := by decide +kernel
set_option maxRecDepth 100000 in
set_option maxHeartbeats 4000000 in
theorem t12_isSign_40 (hC : Cx p s m args meth c cX12_isSign 2 wsX12_isSign RX12 (some .boolean)) : ∀ (z0 : Int32) (SM : Ob) (res : Int32) (H : Heap) (locs : List Loc) (ls : Array Slot), f12_isSign_40 z0 SM = some res → GW D cy ad (w12 cy aM SM) A s H locs → lv_has ls 2 [] → W p l e rm12_isSign s m args below meth c H locs 0 0 (MQ below (QI D cy (w12 cy aM SM) A res) args s 0 0 A) (F0 m 40 ls [.int z0]) := by
  intro z0 SM res H locs ls hf hW hl
  unfold f12_isSign_40 at hf
  obtain ⟨hz, hf⟩ := ck_of hf
  obtain rfl := Option.some.inj hf
  exact g_zret hC hW hz dX12_isSign_40
set_option maxRecDepth 100000 in
set_option maxHeartbeats 4000000 in
theorem t12_isSign_39 (hC : Cx p s m args meth c cX12_isSign 2 wsX12_isSign RX12 (some .boolean)) : ∀ (SM : Ob) (res : Int32) (H : Heap) (locs : List Loc) (ls : Array Slot), f12_isSign_39 SM = some res → GW D cy ad (w12 cy aM SM) A s H locs → lv_has ls 2 [] → W p l e rm12_isSign s m args below meth c H locs 0 0 (MQ below (QI D cy (w12 cy aM SM) A res) args s 0 0 A) (F0 m 39 ls []) := by
  intro SM res H locs ls hf hW hl
  unfold f12_isSign_39 at hf
  refine lv_iconst (v := 0) hC.1 hC.2.1 dX12_isSign_39 (by decide) ?_
  exact t12_isSign_40 hC  _ _ _ _ _ _ hf hW (lv_sub hl [] rfl)
set_option maxRecDepth 100000 in
set_option maxHeartbeats 4000000 in
theorem t12_isSign_0 (hC : Cx p s m args meth c cX12_isSign 2 wsX12_isSign RX12 (some .boolean)) : ∀ (x1 : Int32) (SM : Ob) (res : Int32) (H : Heap) (locs : List Loc) (ls : Array Slot), f12_isSign x1 SM = some res → GW D cy ad (w12 cy aM SM) A s H locs → lv_has ls 2 [(0, .ref (aM 0)), (1, .int x1)] → W p l e rm12_isSign s m args below meth c H locs 0 0 (MQ below (QI D cy (w12 cy aM SM) A res) args s 0 0 A) (F0 m 0 ls []) := by
  intro x1 SM res H locs ls hf hW hl
  unfold f12_isSign at hf
  refine lv_aload_n hC.1 hC.2.1 dX12_isSign_0 rfl (lv_at hl 0 rfl) ?_
  refine g_get hC hW hin12_isSign_12 0 rfl rfl 8 (by decide) 1 rfl rfl dX12_isSign_1 ?_
  refine lv_if_ne (tgt := 39) hC.1 hC.2.1 dX12_isSign_4 (by decide) (fun hc_1 => ?_) (fun hc_1 => ?_)
  · have hf := ite_f hf hc_1
    exact t12_isSign_39 hC  _ _ _ _ _ hf hW (lv_sub hl [] rfl)
  · have hf := ite_t hf hc_1
    refine lv_aload_n hC.1 hC.2.1 dX12_isSign_7 rfl (lv_at hl 0 rfl) ?_
    refine g_get hC hW hin12_isSign_12 0 rfl rfl 4 (by decide) 2 rfl rfl dX12_isSign_8 ?_
    refine lv_aload_n hC.1 hC.2.1 dX12_isSign_11 rfl (lv_at hl 0 rfl) ?_
    refine g_get hC hW hin12_isSign_12 0 rfl rfl 7 (by decide) 3 rfl rfl dX12_isSign_12 ?_
    obtain ⟨hi_2, hf⟩ := ck_of hf
    refine g_iald hC hW 2 rfl hi_2 dX12_isSign_15 ?_
    refine lv_iconst (v := 3) hC.1 hC.2.1 dX12_isSign_16 (by decide) ?_
    refine lv_icmp_ne (tgt := 39) hC.1 hC.2.1 dX12_isSign_17 (by decide) (fun hc_3 => ?_) (fun hc_3 => ?_)
    · have hf := ite_f hf hc_3
      exact t12_isSign_39 hC  _ _ _ _ _ hf hW (lv_sub hl [] rfl)
    · have hf := ite_t hf hc_3
      refine lv_aload_n hC.1 hC.2.1 dX12_isSign_20 rfl (lv_at hl 0 rfl) ?_
      refine g_get hC hW hin12_isSign_12 0 rfl rfl 6 (by decide) 4 rfl rfl dX12_isSign_21 ?_
      refine lv_aload_n hC.1 hC.2.1 dX12_isSign_24 rfl (lv_at hl 0 rfl) ?_
      refine g_get hC hW hin12_isSign_12 0 rfl rfl 7 (by decide) 3 rfl rfl dX12_isSign_25 ?_
      obtain ⟨hi_4, hf⟩ := ck_of hf
      refine g_lald hC hW 4 rfl hi_4 dX12_isSign_28 ?_
      refine lv_iload_n hC.1 hC.2.1 dX12_isSign_29 rfl (lv_at hl 1 rfl) ?_
      refine lv_i2l (v := Int32.toInt64 x1) hC.1 hC.2.1 dX12_isSign_30 rfl ?_
      refine W.lcmp hC.1 hC.2.1 dX12_isSign_31 ?_
      refine lv_if_ne (tgt := 39) hC.1 hC.2.1 dX12_isSign_32 (by decide) (fun hc_5 => ?_) (fun hc_5 => ?_)
      · have hf := ite_f hf hc_5
        exact t12_isSign_39 hC  _ _ _ _ _ hf hW (lv_sub hl [] rfl)
      · have hf := ite_t hf hc_5
        refine lv_iconst (v := 1) hC.1 hC.2.1 dX12_isSign_35 (by decide) ?_
        refine lv_goto (tgt := 40) hC.1 hC.2.1 dX12_isSign_36 (by decide) ?_
        exact t12_isSign_40 hC  _ _ _ _ _ _ hf hW (lv_sub hl [] rfl)
set_option maxRecDepth 100000 in
set_option maxHeartbeats 4000000 in
theorem c12_isSign (l : Launch) (D : va_G) (cy : Nat → ClassId) (ad : Nat → Nat) (aM : Nat → Nat) {x1 : Int32} {SM : Ob} {res : Int32} (h : f12_isSign x1 SM = some res) : GCi l yX12_isSign wsX12_isSign rm12_isSign [.ref (aM 0), .int x1] D cy ad (w12 cy aM SM) (w12 cy aM SM) res := fun sz => GC.start (own := RX12) (Qc := fun A => QI D cy (w12 cy aM SM) A res) sz (by decide) rfl rfl (Nat.le_of_ble_eq_true rfl) (fun p e s m below meth c A ls hC hW hl => t12_isSign_0 hC _ _ _ _ _ _ h hW (lv_sub hl [0, 1] rfl))
abbrev rm12_both : Room := { frames := 0, cells := 0, slots := 0, locals := 0 }
theorem hdS12_both : (yX12_both.cls ≠ "java/lang/invoke/MethodHandle" ∧ yX12_both.cls ≠ "java/lang/invoke/VarHandle" ∧ (parseMethodDescriptor yX12_both.desc).map (fun d => d.parameters.length) = some 3) := by decide +kernel
set_option maxRecDepth 100000 in
set_option maxHeartbeats 4000000 in
theorem t12_both_62 (hC : Cx p s m args meth c cX12_both 3 wsX12_both RX12 (some .int)) : ∀ (z0 : Int32) (res : Int32) (H : Heap) (locs : List Loc) (ls : Array Slot), f12_both_62 z0 = some res → GW D cy ad (([] : va_W)) A s H locs → lv_has ls 3 [] → W p l e rm12_both s m args below meth c H locs 0 0 (MQ below (QI D cy (([] : va_W)) A res) args s 0 0 A) (F0 m 62 ls [.int z0]) := by
  intro z0 res H locs ls hf hW hl
  unfold f12_both_62 at hf
  obtain rfl := Option.some.inj hf
  exact g_iret hC hW dX12_both_62
set_option maxRecDepth 100000 in
set_option maxHeartbeats 4000000 in
theorem t12_both_73 (hC : Cx p s m args meth c cX12_both 3 wsX12_both RX12 (some .int)) : ∀ (z0 : Int32) (res : Int32) (H : Heap) (locs : List Loc) (ls : Array Slot), f12_both_73 z0 = some res → GW D cy ad (([] : va_W)) A s H locs → lv_has ls 3 [] → W p l e rm12_both s m args below meth c H locs 0 0 (MQ below (QI D cy (([] : va_W)) A res) args s 0 0 A) (F0 m 73 ls [.int z0]) := by
  intro z0 res H locs ls hf hW hl
  unfold f12_both_73 at hf
  obtain rfl := Option.some.inj hf
  exact g_iret hC hW dX12_both_73
set_option maxRecDepth 100000 in
set_option maxHeartbeats 4000000 in
theorem t12_both_87 (hC : Cx p s m args meth c cX12_both 3 wsX12_both RX12 (some .int)) : ∀ (z0 : Int32) (res : Int32) (H : Heap) (locs : List Loc) (ls : Array Slot), f12_both_87 z0 = some res → GW D cy ad (([] : va_W)) A s H locs → lv_has ls 3 [] → W p l e rm12_both s m args below meth c H locs 0 0 (MQ below (QI D cy (([] : va_W)) A res) args s 0 0 A) (F0 m 87 ls [.int z0]) := by
  intro z0 res H locs ls hf hW hl
  unfold f12_both_87 at hf
  obtain rfl := Option.some.inj hf
  exact g_iret hC hW dX12_both_87
set_option maxRecDepth 100000 in
set_option maxHeartbeats 4000000 in
theorem t12_both_86 (hC : Cx p s m args meth c cX12_both 3 wsX12_both RX12 (some .int)) : ∀ (res : Int32) (H : Heap) (locs : List Loc) (ls : Array Slot), f12_both_86 = some res → GW D cy ad (([] : va_W)) A s H locs → lv_has ls 3 [] → W p l e rm12_both s m args below meth c H locs 0 0 (MQ below (QI D cy (([] : va_W)) A res) args s 0 0 A) (F0 m 86 ls []) := by
  intro res H locs ls hf hW hl
  unfold f12_both_86 at hf
  refine lv_iconst (v := 0) hC.1 hC.2.1 dX12_both_86 (by decide) ?_
  exact t12_both_87 hC  _ _ _ _ _ hf hW (lv_sub hl [] rfl)
set_option maxRecDepth 100000 in
set_option maxHeartbeats 4000000 in
theorem t12_both_101 (hC : Cx p s m args meth c cX12_both 3 wsX12_both RX12 (some .int)) : ∀ (z0 : Int32) (res : Int32) (H : Heap) (locs : List Loc) (ls : Array Slot), f12_both_101 z0 = some res → GW D cy ad (([] : va_W)) A s H locs → lv_has ls 3 [] → W p l e rm12_both s m args below meth c H locs 0 0 (MQ below (QI D cy (([] : va_W)) A res) args s 0 0 A) (F0 m 101 ls [.int z0]) := by
  intro z0 res H locs ls hf hW hl
  unfold f12_both_101 at hf
  obtain rfl := Option.some.inj hf
  exact g_iret hC hW dX12_both_101
set_option maxRecDepth 100000 in
set_option maxHeartbeats 4000000 in
theorem t12_both_96 (hC : Cx p s m args meth c cX12_both 3 wsX12_both RX12 (some .int)) : ∀ (res : Int32) (H : Heap) (locs : List Loc) (ls : Array Slot), f12_both_96 = some res → GW D cy ad (([] : va_W)) A s H locs → lv_has ls 3 [] → W p l e rm12_both s m args below meth c H locs 0 0 (MQ below (QI D cy (([] : va_W)) A res) args s 0 0 A) (F0 m 96 ls []) := by
  intro res H locs ls hf hW hl
  unfold f12_both_96 at hf
  refine lv_iconst (v := 1) hC.1 hC.2.1 dX12_both_96 (by decide) ?_
  refine lv_goto (tgt := 101) hC.1 hC.2.1 dX12_both_97 (by decide) ?_
  exact t12_both_101 hC  _ _ _ _ _ hf hW (lv_sub hl [] rfl)
set_option maxRecDepth 100000 in
set_option maxHeartbeats 4000000 in
theorem t12_both_0 (hC : Cx p s m args meth c cX12_both 3 wsX12_both RX12 (some .int)) : ∀ (x0 : Int32) (x1 : Int32) (x2 : Int32) (res : Int32) (H : Heap) (locs : List Loc) (ls : Array Slot), f12_both x0 x1 x2 = some res → GW D cy ad (([] : va_W)) A s H locs → lv_has ls 3 [(0, .int x0), (1, .int x1), (2, .int x2)] → W p l e rm12_both s m args below meth c H locs 0 0 (MQ below (QI D cy (([] : va_W)) A res) args s 0 0 A) (F0 m 0 ls []) := by
  intro x0 x1 x2 res H locs ls hf hW hl
  unfold f12_both at hf
  refine lv_iload_n hC.1 hC.2.1 dX12_both_0 rfl (lv_at hl 0 rfl) ?_
  by_cases hc_1 : x0 = 4
  · have hf := ite_t hf hc_1
    refine lv_tableIn (tgt := 40) hC.1 hC.2.1 dX12_both_1 (by rw [hc_1]; decide) (by rw [hc_1]; decide) (by rw [hc_1]; rfl) (by decide) ?_
    refine lv_iload_n hC.1 hC.2.1 dX12_both_40 rfl (lv_at hl 1 rfl) ?_
    refine lv_iload_n hC.1 hC.2.1 dX12_both_41 rfl (lv_at hl 2 rfl) ?_
    refine lv_iadd hC.1 hC.2.1 dX12_both_42 ?_
    obtain rfl := Option.some.inj hf
    exact g_iret hC hW dX12_both_43
  · have hf := ite_f hf hc_1
    by_cases hc_2 : x0 = 5
    · have hf := ite_t hf hc_2
      refine lv_tableIn (tgt := 44) hC.1 hC.2.1 dX12_both_1 (by rw [hc_2]; decide) (by rw [hc_2]; decide) (by rw [hc_2]; rfl) (by decide) ?_
      refine lv_iload_n hC.1 hC.2.1 dX12_both_44 rfl (lv_at hl 1 rfl) ?_
      refine lv_iload_n hC.1 hC.2.1 dX12_both_45 rfl (lv_at hl 2 rfl) ?_
      refine lv_isub hC.1 hC.2.1 dX12_both_46 ?_
      obtain rfl := Option.some.inj hf
      exact g_iret hC hW dX12_both_47
    · have hf := ite_f hf hc_2
      by_cases hc_3 : x0 = 6
      · have hf := ite_t hf hc_3
        refine lv_tableIn (tgt := 48) hC.1 hC.2.1 dX12_both_1 (by rw [hc_3]; decide) (by rw [hc_3]; decide) (by rw [hc_3]; rfl) (by decide) ?_
        refine lv_iload_n hC.1 hC.2.1 dX12_both_48 rfl (lv_at hl 1 rfl) ?_
        refine lv_iload_n hC.1 hC.2.1 dX12_both_49 rfl (lv_at hl 2 rfl) ?_
        refine lv_imul hC.1 hC.2.1 dX12_both_50 ?_
        obtain rfl := Option.some.inj hf
        exact g_iret hC hW dX12_both_51
      · have hf := ite_f hf hc_3
        by_cases hc_4 : x0 = 7
        · have hf := ite_t hf hc_4
          refine lv_tableIn (tgt := 52) hC.1 hC.2.1 dX12_both_1 (by rw [hc_4]; decide) (by rw [hc_4]; decide) (by rw [hc_4]; rfl) (by decide) ?_
          refine lv_iload_n hC.1 hC.2.1 dX12_both_52 rfl (lv_at hl 1 rfl) ?_
          refine lv_iload_n hC.1 hC.2.1 dX12_both_53 rfl (lv_at hl 2 rfl) ?_
          refine lv_icmp_ge (tgt := 61) hC.1 hC.2.1 dX12_both_54 (by decide) (fun hc_5 => ?_) (fun hc_5 => ?_)
          · have hf := ite_t hf hc_5
            refine lv_iconst (v := 0) hC.1 hC.2.1 dX12_both_61 (by decide) ?_
            exact t12_both_62 hC  _ _ _ _ _ hf hW (lv_sub hl [] rfl)
          · have hf := ite_f hf hc_5
            refine lv_iconst (v := 1) hC.1 hC.2.1 dX12_both_57 (by decide) ?_
            refine lv_goto (tgt := 62) hC.1 hC.2.1 dX12_both_58 (by decide) ?_
            exact t12_both_62 hC  _ _ _ _ _ hf hW (lv_sub hl [] rfl)
        · have hf := ite_f hf hc_4
          by_cases hc_6 : x0 = 8
          · have hf := ite_t hf hc_6
            refine lv_tableIn (tgt := 63) hC.1 hC.2.1 dX12_both_1 (by rw [hc_6]; decide) (by rw [hc_6]; decide) (by rw [hc_6]; rfl) (by decide) ?_
            refine lv_iload_n hC.1 hC.2.1 dX12_both_63 rfl (lv_at hl 1 rfl) ?_
            refine lv_iload_n hC.1 hC.2.1 dX12_both_64 rfl (lv_at hl 2 rfl) ?_
            refine lv_icmp_ne (tgt := 72) hC.1 hC.2.1 dX12_both_65 (by decide) (fun hc_7 => ?_) (fun hc_7 => ?_)
            · have hf := ite_f hf hc_7
              refine lv_iconst (v := 0) hC.1 hC.2.1 dX12_both_72 (by decide) ?_
              exact t12_both_73 hC  _ _ _ _ _ hf hW (lv_sub hl [] rfl)
            · have hf := ite_t hf hc_7
              refine lv_iconst (v := 1) hC.1 hC.2.1 dX12_both_68 (by decide) ?_
              refine lv_goto (tgt := 73) hC.1 hC.2.1 dX12_both_69 (by decide) ?_
              exact t12_both_73 hC  _ _ _ _ _ hf hW (lv_sub hl [] rfl)
          · have hf := ite_f hf hc_6
            by_cases hc_8 : x0 = 9
            · have hf := ite_t hf hc_8
              refine lv_tableIn (tgt := 74) hC.1 hC.2.1 dX12_both_1 (by rw [hc_8]; decide) (by rw [hc_8]; decide) (by rw [hc_8]; rfl) (by decide) ?_
              refine lv_iload_n hC.1 hC.2.1 dX12_both_74 rfl (lv_at hl 1 rfl) ?_
              refine lv_if_eq (tgt := 86) hC.1 hC.2.1 dX12_both_75 (by decide) (fun hc_9 => ?_) (fun hc_9 => ?_)
              · have hf := ite_t hf hc_9
                exact t12_both_86 hC  _ _ _ _ hf hW (lv_sub hl [] rfl)
              · have hf := ite_f hf hc_9
                refine lv_iload_n hC.1 hC.2.1 dX12_both_78 rfl (lv_at hl 2 rfl) ?_
                refine lv_if_eq (tgt := 86) hC.1 hC.2.1 dX12_both_79 (by decide) (fun hc_10 => ?_) (fun hc_10 => ?_)
                · have hf := ite_t hf hc_10
                  exact t12_both_86 hC  _ _ _ _ hf hW (lv_sub hl [] rfl)
                · have hf := ite_f hf hc_10
                  refine lv_iconst (v := 1) hC.1 hC.2.1 dX12_both_82 (by decide) ?_
                  refine lv_goto (tgt := 87) hC.1 hC.2.1 dX12_both_83 (by decide) ?_
                  exact t12_both_87 hC  _ _ _ _ _ hf hW (lv_sub hl [] rfl)
            · have hf := ite_f hf hc_8
              refine lv_tableOut (tgt := 88) hC.1 hC.2.1 dX12_both_1 (tab_out [4, 5, 6, 7, 8, 9] (List.forall_mem_cons.mpr ⟨hc_1, (List.forall_mem_cons.mpr ⟨hc_2, (List.forall_mem_cons.mpr ⟨hc_3, (List.forall_mem_cons.mpr ⟨hc_4, (List.forall_mem_cons.mpr ⟨hc_6, (List.forall_mem_cons.mpr ⟨hc_8, (fun _ h => by cases h)⟩)⟩)⟩)⟩)⟩)⟩) (by decide)) (by decide) ?_
              refine lv_iload_n hC.1 hC.2.1 dX12_both_88 rfl (lv_at hl 1 rfl) ?_
              refine lv_if_ne (tgt := 96) hC.1 hC.2.1 dX12_both_89 (by decide) (fun hc_11 => ?_) (fun hc_11 => ?_)
              · have hf := ite_f hf hc_11
                exact t12_both_96 hC  _ _ _ _ hf hW (lv_sub hl [] rfl)
              · have hf := ite_t hf hc_11
                refine lv_iload_n hC.1 hC.2.1 dX12_both_92 rfl (lv_at hl 2 rfl) ?_
                refine lv_if_eq (tgt := 100) hC.1 hC.2.1 dX12_both_93 (by decide) (fun hc_12 => ?_) (fun hc_12 => ?_)
                · have hf := ite_t hf hc_12
                  refine lv_iconst (v := 0) hC.1 hC.2.1 dX12_both_100 (by decide) ?_
                  exact t12_both_101 hC  _ _ _ _ _ hf hW (lv_sub hl [] rfl)
                · have hf := ite_f hf hc_12
                  exact t12_both_96 hC  _ _ _ _ hf hW (lv_sub hl [] rfl)
set_option maxRecDepth 100000 in
set_option maxHeartbeats 4000000 in
theorem c12_both (l : Launch) (D : va_G) (cy : Nat → ClassId) (ad : Nat → Nat) {x0 : Int32} {x1 : Int32} {x2 : Int32} {res : Int32} (h : f12_both x0 x1 x2 = some res) : GCi l yX12_both wsX12_both rm12_both [.int x0, .int x1, .int x2] D cy ad (([] : va_W)) (([] : va_W)) res := fun sz => GC.start (own := RX12) (Qc := fun A => QI D cy (([] : va_W)) A res) sz (by decide) rfl rfl (Nat.le_of_ble_eq_true rfl) (fun p e s m below meth c A ls hC hW hl => t12_both_0 hC _ _ _ _ _ _ _ h hW (lv_sub hl [0, 1, 2] rfl))
end
