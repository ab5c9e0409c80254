/-! laid by program: functions, walks and contracts of 12_both0, 12_either, 12_item -/
set_option maxRecDepth 20000 in
theorem gX12_both0_X12_item : GoodIn wsX12_both0 (wsV RX12 304 RX12 yX12_item wsX12_item) := goodIn_r _ [1, 2, 3, 4, 29, 14, 30, 9, 31, 32, 33, 4, 34, 15, 35, 36, 37, 38, 10, 11, 12, 13, 16, 17, 39, 40, 41, 42, 43, 44, 45, 46, 47, 48, 49, 50, 51, 52, 53, 54, 55, 56, 57, 58, 59, 60, 61, 5, 6, 7, 8, 1, 2, 3, 18, 19, 20, 21, 22, 23, 24, 62, 63, 64, 65, 66, 67, 68, 69, 70, 71, 72, 0, 25, 26, 27, 28, 73, 74, 75, 76, 77, 78, 79, 80, 81, 82, 83, 84, 85, 86, 87, 88, 89, 90, 91, 92, 93, 94, 95, 96, 97, 98, 99, 100, 101, 102, 103, 104, 105, 106, 107, 108, 109, 110, 111] rfl (by decide +kernel)
set_option maxRecDepth 20000 in
theorem gX12_both0_X12_hasWord : GoodIn wsX12_both0 (wsV RX12 210 RX12 yX12_hasWord wsX12_hasWord) := goodIn_r _ [5, 6, 7, 4, 8, 9, 10, 11, 12, 4, 13, 14, 15, 16, 17, 73, 74, 75, 76, 77, 78, 79, 80, 81, 82, 83, 84, 85, 86, 87, 88, 89, 90, 91, 92, 93, 94, 95, 96, 97, 98, 99, 100, 101, 102, 103, 104, 105, 106, 107, 108, 109, 110, 111] rfl (by decide +kernel)
set_option maxRecDepth 20000 in
theorem gX12_both0_X12_emit : GoodIn wsX12_both0 (wsV RX12 291 RX12 yX12_emit wsX12_emit) := goodIn_r _ [18, 19, 20, 4, 21, 22, 23, 24, 73, 74, 75, 76, 77, 78, 79, 80, 81, 82, 83, 84, 85, 86, 87, 88, 89, 90, 91, 92, 93, 94, 95, 96, 97, 98, 99, 100, 101, 102, 103, 104, 105, 106, 107, 108, 109, 110, 111] rfl (by decide +kernel)
theorem dX12_both0_0 : decode cX12_both0 0 = .ok (.aload_n 0, 1) := by decide +kernel
theorem dX12_both0_1 : decode cX12_both0 1 = .ok (.iload_n 1, 1) := by decide +kernel
theorem dX12_both0_2 : decode cX12_both0 2 = .ok (.invokevirtual 304, 3) := by decide +kernel
theorem dX12_both0_5 : decode cX12_both0 5 = .ok (.aload_n 0, 1) := by decide +kernel
theorem dX12_both0_6 : decode cX12_both0 6 = .ok (.bipush 27, 2) := by decide +kernel
theorem dX12_both0_8 : decode cX12_both0 8 = .ok (.invokevirtual 210, 3) := by decide +kernel
theorem dX12_both0_11 : decode cX12_both0 11 = .ok (.ifCond .eq 18, 3) := by decide +kernel
theorem dX12_both0_14 : decode cX12_both0 14 = .ok (.aload_n 0, 1) := by decide +kernel
theorem dX12_both0_15 : decode cX12_both0 15 = .ok (.iload_n 1, 1) := by decide +kernel
theorem dX12_both0_16 : decode cX12_both0 16 = .ok (.invokevirtual 304, 3) := by decide +kernel
theorem dX12_both0_19 : decode cX12_both0 19 = .ok (.aload_n 0, 1) := by decide +kernel
theorem dX12_both0_20 : decode cX12_both0 20 = .ok (.bipush 9, 2) := by decide +kernel
theorem dX12_both0_22 : decode cX12_both0 22 = .ok (.iconst 0, 1) := by decide +kernel
theorem dX12_both0_23 : decode cX12_both0 23 = .ok (.invokevirtual 291, 3) := by decide +kernel
theorem dX12_both0_26 : decode cX12_both0 26 = .ok (.goto (-21), 3) := by decide +kernel
theorem dX12_both0_29 : decode cX12_both0 29 = .ok (.return_, 1) := by decide +kernel
set_option maxRecDepth 20000 in
theorem gX12_either_X12_both0 : GoodIn wsX12_either (wsV RX12 301 RX12 yX12_both0 wsX12_both0) := goodIn_r _ [1, 2, 3, 4, 25, 26, 27, 28, 4, 5, 6, 7, 8, 9, 10, 11, 12, 13, 14, 15, 16, 17, 18, 19, 20, 21, 22, 23, 24, 0, 1, 2, 3, 29, 30, 31, 32, 33, 34, 35, 36, 37, 38, 39, 40, 41, 42, 43, 44, 45, 46, 47, 48, 49, 50, 51, 52, 53, 54, 55, 56, 57, 58, 59, 60, 61, 62, 63, 64, 65, 66, 67, 68, 69, 70, 71, 72, 73, 74, 75, 76, 77, 78, 79, 80, 81, 82, 83, 84, 85, 86, 87, 88, 89, 90, 91, 92, 93, 94, 95, 96, 97, 98, 99, 100, 101, 102, 103, 104, 105, 106, 107, 108, 109, 110, 111] rfl (by decide +kernel)
set_option maxRecDepth 20000 in
theorem gX12_either_X12_hasWord : GoodIn wsX12_either (wsV RX12 210 RX12 yX12_hasWord wsX12_hasWord) := goodIn_r _ [5, 6, 7, 4, 8, 9, 10, 11, 12, 4, 13, 14, 15, 16, 17, 73, 74, 75, 76, 77, 78, 79, 80, 81, 82, 83, 84, 85, 86, 87, 88, 89, 90, 91, 92, 93, 94, 95, 96, 97, 98, 99, 100, 101, 102, 103, 104, 105, 106, 107, 108, 109, 110, 111] rfl (by decide +kernel)
set_option maxRecDepth 20000 in
theorem gX12_either_X12_emit : GoodIn wsX12_either (wsV RX12 291 RX12 yX12_emit wsX12_emit) := goodIn_r _ [18, 19, 20, 4, 21, 22, 23, 24, 73, 74, 75, 76, 77, 78, 79, 80, 81, 82, 83, 84, 85, 86, 87, 88, 89, 90, 91, 92, 93, 94, 95, 96, 97, 98, 99, 100, 101, 102, 103, 104, 105, 106, 107, 108, 109, 110, 111] rfl (by decide +kernel)
theorem dX12_either_0 : decode cX12_either 0 = .ok (.aload_n 0, 1) := by decide +kernel
theorem dX12_either_1 : decode cX12_either 1 = .ok (.iload_n 1, 1) := by decide +kernel
theorem dX12_either_2 : decode cX12_either 2 = .ok (.invokevirtual 301, 3) := by decide +kernel
theorem dX12_either_5 : decode cX12_either 5 = .ok (.aload_n 0, 1) := by decide +kernel
theorem dX12_either_6 : decode cX12_either 6 = .ok (.bipush 28, 2) := by decide +kernel
theorem dX12_either_8 : decode cX12_either 8 = .ok (.invokevirtual 210, 3) := by decide +kernel
theorem dX12_either_11 : decode cX12_either 11 = .ok (.ifCond .eq 18, 3) := by decide +kernel
theorem dX12_either_14 : decode cX12_either 14 = .ok (.aload_n 0, 1) := by decide +kernel
theorem dX12_either_15 : decode cX12_either 15 = .ok (.iload_n 1, 1) := by decide +kernel
theorem dX12_either_16 : decode cX12_either 16 = .ok (.invokevirtual 301, 3) := by decide +kernel
theorem dX12_either_19 : decode cX12_either 19 = .ok (.aload_n 0, 1) := by decide +kernel
theorem dX12_either_20 : decode cX12_either 20 = .ok (.bipush 10, 2) := by decide +kernel
theorem dX12_either_22 : decode cX12_either 22 = .ok (.iconst 0, 1) := by decide +kernel
theorem dX12_either_23 : decode cX12_either 23 = .ok (.invokevirtual 291, 3) := by decide +kernel
theorem dX12_either_26 : decode cX12_either 26 = .ok (.goto (-21), 3) := by decide +kernel
theorem dX12_either_29 : decode cX12_either 29 = .ok (.return_, 1) := by decide +kernel
set_option maxRecDepth 20000 in
theorem gX12_item_X12_isName : GoodIn wsX12_item (wsV RX12 233 RX12 yX12_isName wsX12_isName) := goodIn_r _ [4, 5, 6, 7, 8, 1, 9, 3, 10, 11, 12, 7, 13, 14, 15, 16, 17, 18, 19, 73, 74, 75, 76, 77, 78, 79, 80, 81, 82, 83, 84, 85, 86, 87, 88, 89, 90, 91, 92, 93, 94, 95, 96, 97, 98, 99, 100, 101, 102, 103, 104, 105, 106, 107, 108, 109, 110, 111] rfl (by decide +kernel)
set_option maxRecDepth 20000 in
theorem gX12_item_X12_wordHere : GoodIn wsX12_item (wsV RX12 220 RX12 yX12_wordHere wsX12_wordHere) := goodIn_r _ [10, 11, 12, 7, 13, 14, 15, 16, 7, 17, 1, 9, 3, 18, 19, 73, 74, 75, 76, 77, 78, 79, 80, 81, 82, 83, 84, 85, 86, 87, 88, 89, 90, 91, 92, 93, 94, 95, 96, 97, 98, 99, 100, 101, 102, 103, 104, 105, 106, 107, 108, 109, 110, 111] rfl (by decide +kernel)
set_option maxRecDepth 20000 in
theorem gX12_item_X12_isSign : GoodIn wsX12_item (wsV RX12 201 RX12 yX12_isSign wsX12_isSign) := goodIn_r _ [20, 21, 22, 7, 23, 1, 9, 3, 18, 73, 74, 75, 76, 77, 78, 79, 80, 81, 82, 83, 84, 85, 86, 87, 88, 89, 90, 91, 92, 93, 94, 95, 96, 97, 98, 99, 100, 101, 102, 103, 104, 105, 106, 107, 108, 109, 110, 111] rfl (by decide +kernel)
set_option maxRecDepth 20000 in
theorem gX12_item_X12_isWord : GoodIn wsX12_item (wsV RX12 207 RX12 yX12_isWord wsX12_isWord) := goodIn_r _ [14, 15, 16, 7, 17, 1, 9, 3, 18, 19, 73, 74, 75, 76, 77, 78, 79, 80, 81, 82, 83, 84, 85, 86, 87, 88, 89, 90, 91, 92, 93, 94, 95, 96, 97, 98, 99, 100, 101, 102, 103, 104, 105, 106, 107, 108, 109, 110, 111] rfl (by decide +kernel)
set_option maxRecDepth 20000 in
theorem gX12_item_X12_wrong : GoodIn wsX12_item (wsV RX12 204 RX12 yX12_wrong wsX12_wrong) := goodIn_r _ [24, 25, 26, 7, 27, 1, 28, 3, 73, 74, 75, 76, 77, 78, 79, 80, 81, 82, 83, 84, 85, 86, 87, 88, 89, 90, 91, 92, 93, 94, 95, 96, 97, 98, 99, 100, 101, 102, 103, 104, 105, 106, 107, 108, 109, 110, 111] rfl (by decide +kernel)
set_option maxRecDepth 20000 in
theorem gX12_item_X12_find : GoodIn wsX12_item (wsV RX12 237 RX12 yX12_find wsX12_find) := goodIn_r _ [29, 30, 31, 7, 32, 33, 34, 35, 36, 37, 18, 3, 38, 39, 73, 74, 75, 76, 77, 78, 79, 80, 81, 82, 83, 84, 85, 86, 87, 88, 89, 90, 91, 92, 93, 94, 95, 96, 97, 98, 99, 100, 101, 102, 103, 104, 105, 106, 107, 108, 109, 110, 111] rfl (by decide +kernel)
set_option maxRecDepth 20000 in
theorem gX12_item_X12_within : GoodIn wsX12_item (va_wsS RX12 241 yX12_within wsX12_within) := goodIn_r _ [40, 41, 7, 42] rfl (by decide +kernel)
set_option maxRecDepth 20000 in
theorem gX12_item_X12_hasWord : GoodIn wsX12_item (wsV RX12 210 RX12 yX12_hasWord wsX12_hasWord) := goodIn_r _ [43, 44, 45, 7, 46, 3, 14, 15, 16, 7, 17, 1, 9, 18, 19, 73, 74, 75, 76, 77, 78, 79, 80, 81, 82, 83, 84, 85, 86, 87, 88, 89, 90, 91, 92, 93, 94, 95, 96, 97, 98, 99, 100, 101, 102, 103, 104, 105, 106, 107, 108, 109, 110, 111] rfl (by decide +kernel)
set_option maxRecDepth 20000 in
theorem gX12_item_X12_item : GoodIn wsX12_item (wsV RX12 304 RX12 yX12_item wsX12_item) := goodIn_r _ [47, 48, 49, 7, 0, 1, 2, 3, 4, 5, 6, 7, 8, 9, 10, 11, 12, 13, 14, 15, 16, 17, 18, 19, 20, 21, 22, 23, 24, 25, 26, 27, 28, 29, 30, 31, 32, 33, 34, 35, 36, 37, 38, 39, 40, 41, 42, 43, 44, 45, 46, 47, 48, 49, 50, 51, 52, 53, 54, 55, 56, 57, 58, 59, 60, 61, 62, 63, 64, 65, 66, 67, 68, 69, 70, 71, 72, 73, 74, 75, 76, 77, 78, 79, 80, 81, 82, 83, 84, 85, 86, 87, 88, 89, 90, 91, 92, 93, 94, 95, 96, 97, 98, 99, 100, 101, 102, 103, 104, 105, 106, 107, 108, 109, 110, 111] rfl (by decide +kernel)
set_option maxRecDepth 20000 in
theorem gX12_item_X12_emit : GoodIn wsX12_item (wsV RX12 291 RX12 yX12_emit wsX12_emit) := goodIn_r _ [50, 51, 52, 7, 53, 54, 55, 56, 73, 74, 75, 76, 77, 78, 79, 80, 81, 82, 83, 84, 85, 86, 87, 88, 89, 90, 91, 92, 93, 94, 95, 96, 97, 98, 99, 100, 101, 102, 103, 104, 105, 106, 107, 108, 109, 110, 111] rfl (by decide +kernel)
set_option maxRecDepth 20000 in
theorem gX12_item_X12_hasSign : GoodIn wsX12_item (wsV RX12 307 RX12 yX12_hasSign wsX12_hasSign) := goodIn_r _ [57, 58, 59, 7, 60, 3, 20, 21, 22, 7, 23, 1, 9, 18, 73, 74, 75, 76, 77, 78, 79, 80, 81, 82, 83, 84, 85, 86, 87, 88, 89, 90, 91, 92, 93, 94, 95, 96, 97, 98, 99, 100, 101, 102, 103, 104, 105, 106, 107, 108, 109, 110, 111] rfl (by decide +kernel)
set_option maxRecDepth 20000 in
theorem gX12_item_X12_either : GoodIn wsX12_item (wsV RX12 288 RX12 yX12_either wsX12_either) := goodIn_r _ [61, 62, 63, 7, 69, 70, 71, 72, 7, 43, 44, 45, 46, 3, 14, 15, 16, 17, 1, 9, 18, 19, 50, 51, 52, 53, 54, 55, 56, 68, 47, 48, 49, 0, 2, 4, 5, 6, 8, 10, 11, 12, 13, 20, 21, 22, 23, 24, 25, 26, 27, 28, 29, 30, 31, 32, 33, 34, 35, 36, 37, 38, 39, 40, 41, 42, 57, 58, 59, 60, 61, 62, 63, 64, 65, 66, 67, 73, 74, 75, 76, 77, 78, 79, 80, 81, 82, 83, 84, 85, 86, 87, 88, 89, 90, 91, 92, 93, 94, 95, 96, 97, 98, 99, 100, 101, 102, 103, 104, 105, 106, 107, 108, 109, 110, 111] rfl (by decide +kernel)
set_option maxRecDepth 20000 in
theorem gX12_item_X12_takeSign : GoodIn wsX12_item (wsV RX12 257 RX12 yX12_takeSign wsX12_takeSign) := goodIn_r _ [64, 65, 66, 7, 67, 3, 20, 21, 22, 7, 23, 1, 9, 18, 24, 25, 26, 27, 28, 73, 74, 75, 76, 77, 78, 79, 80, 81, 82, 83, 84, 85, 86, 87, 88, 89, 90, 91, 92, 93, 94, 95, 96, 97, 98, 99, 100, 101, 102, 103, 104, 105, 106, 107, 108, 109, 110, 111] rfl (by decide +kernel)
theorem dX12_item_0 : decode cX12_item 0 = .ok (.aload_n 0, 1) := by decide +kernel
theorem dX12_item_1 : decode cX12_item 1 = .ok (.getfield 198, 3) := by decide +kernel
theorem dX12_item_4 : decode cX12_item 4 = .ok (.ifCond .le 4, 3) := by decide +kernel
theorem dX12_item_7 : decode cX12_item 7 = .ok (.return_, 1) := by decide +kernel
theorem dX12_item_8 : decode cX12_item 8 = .ok (.aload_n 0, 1) := by decide +kernel
theorem dX12_item_9 : decode cX12_item 9 = .ok (.invokevirtual 233, 3) := by decide +kernel
theorem dX12_item_12 : decode cX12_item 12 = .ok (.istore_n 2, 1) := by decide +kernel
theorem dX12_item_13 : decode cX12_item 13 = .ok (.aload_n 0, 1) := by decide +kernel
theorem dX12_item_14 : decode cX12_item 14 = .ok (.bipush 18, 2) := by decide +kernel
theorem dX12_item_16 : decode cX12_item 16 = .ok (.bipush 8, 2) := by decide +kernel
theorem dX12_item_18 : decode cX12_item 18 = .ok (.invokevirtual 220, 3) := by decide +kernel
theorem dX12_item_21 : decode cX12_item 21 = .ok (.istore_n 3, 1) := by decide +kernel
theorem dX12_item_22 : decode cX12_item 22 = .ok (.iload_n 2, 1) := by decide +kernel
theorem dX12_item_23 : decode cX12_item 23 = .ok (.ifCond .ne 31, 3) := by decide +kernel
theorem dX12_item_26 : decode cX12_item 26 = .ok (.iload_n 3, 1) := by decide +kernel
theorem dX12_item_27 : decode cX12_item 27 = .ok (.ifCond .ge 27, 3) := by decide +kernel
theorem dX12_item_30 : decode cX12_item 30 = .ok (.aload_n 0, 1) := by decide +kernel
theorem dX12_item_31 : decode cX12_item 31 = .ok (.bipush 40, 2) := by decide +kernel
theorem dX12_item_33 : decode cX12_item 33 = .ok (.invokevirtual 201, 3) := by decide +kernel
theorem dX12_item_36 : decode cX12_item 36 = .ok (.ifCond .ne 18, 3) := by decide +kernel
theorem dX12_item_39 : decode cX12_item 39 = .ok (.aload_n 0, 1) := by decide +kernel
theorem dX12_item_40 : decode cX12_item 40 = .ok (.bipush 26, 2) := by decide +kernel
theorem dX12_item_42 : decode cX12_item 42 = .ok (.invokevirtual 207, 3) := by decide +kernel
theorem dX12_item_45 : decode cX12_item 45 = .ok (.ifCond .ne 9, 3) := by decide +kernel
theorem dX12_item_48 : decode cX12_item 48 = .ok (.aload_n 0, 1) := by decide +kernel
theorem dX12_item_49 : decode cX12_item 49 = .ok (.iconst 1, 1) := by decide +kernel
theorem dX12_item_50 : decode cX12_item 50 = .ok (.invokevirtual 204, 3) := by decide +kernel
theorem dX12_item_53 : decode cX12_item 53 = .ok (.return_, 1) := by decide +kernel
theorem dX12_item_54 : decode cX12_item 54 = .ok (.iload_n 2, 1) := by decide +kernel
theorem dX12_item_55 : decode cX12_item 55 = .ok (.ifCond .eq 10, 3) := by decide +kernel
theorem dX12_item_58 : decode cX12_item 58 = .ok (.aload_n 0, 1) := by decide +kernel
theorem dX12_item_59 : decode cX12_item 59 = .ok (.invokevirtual 237, 3) := by decide +kernel
theorem dX12_item_62 : decode cX12_item 62 = .ok (.goto 4, 3) := by decide +kernel
theorem dX12_item_65 : decode cX12_item 65 = .ok (.iconst 0, 1) := by decide +kernel
theorem dX12_item_66 : decode cX12_item 66 = .ok (.istore 4, 2) := by decide +kernel
theorem dX12_item_68 : decode cX12_item 68 = .ok (.iload_n 2, 1) := by decide +kernel
theorem dX12_item_69 : decode cX12_item 69 = .ok (.ifCond .eq 38, 3) := by decide +kernel
theorem dX12_item_72 : decode cX12_item 72 = .ok (.iload 4, 2) := by decide +kernel
theorem dX12_item_74 : decode cX12_item 74 = .ok (.iconst 0, 1) := by decide +kernel
theorem dX12_item_75 : decode cX12_item 75 = .ok (.bipush 7, 2) := by decide +kernel
theorem dX12_item_77 : decode cX12_item 77 = .ok (.invokestatic 241, 3) := by decide +kernel
theorem dX12_item_80 : decode cX12_item 80 = .ok (.ifCond .ne 27, 3) := by decide +kernel
theorem dX12_item_83 : decode cX12_item 83 = .ok (.iload 4, 2) := by decide +kernel
theorem dX12_item_85 : decode cX12_item 85 = .ok (.bipush 20, 2) := by decide +kernel
theorem dX12_item_87 : decode cX12_item 87 = .ok (.aload_n 0, 1) := by decide +kernel
theorem dX12_item_88 : decode cX12_item 88 = .ok (.getfield 285, 3) := by decide +kernel
theorem dX12_item_91 : decode cX12_item 91 = .ok (.iconst 1, 1) := by decide +kernel
theorem dX12_item_92 : decode cX12_item 92 = .ok (.isub, 1) := by decide +kernel
theorem dX12_item_93 : decode cX12_item 93 = .ok (.invokestatic 241, 3) := by decide +kernel
theorem dX12_item_96 : decode cX12_item 96 = .ok (.ifCond .ne 11, 3) := by decide +kernel
theorem dX12_item_99 : decode cX12_item 99 = .ok (.aload_n 0, 1) := by decide +kernel
theorem dX12_item_100 : decode cX12_item 100 = .ok (.iconst 2, 1) := by decide +kernel
theorem dX12_item_101 : decode cX12_item 101 = .ok (.invokevirtual 204, 3) := by decide +kernel
theorem dX12_item_104 : decode cX12_item 104 = .ok (.goto 13, 3) := by decide +kernel
theorem dX12_item_107 : decode cX12_item 107 = .ok (.iload_n 1, 1) := by decide +kernel
theorem dX12_item_108 : decode cX12_item 108 = .ok (.iconst 5, 1) := by decide +kernel
theorem dX12_item_109 : decode cX12_item 109 = .ok (.if_icmp .ne 8, 3) := by decide +kernel
theorem dX12_item_112 : decode cX12_item 112 = .ok (.aload_n 0, 1) := by decide +kernel
theorem dX12_item_113 : decode cX12_item 113 = .ok (.iconst 5, 1) := by decide +kernel
theorem dX12_item_114 : decode cX12_item 114 = .ok (.invokevirtual 204, 3) := by decide +kernel
theorem dX12_item_117 : decode cX12_item 117 = .ok (.aload_n 0, 1) := by decide +kernel
theorem dX12_item_118 : decode cX12_item 118 = .ok (.getfield 198, 3) := by decide +kernel
theorem dX12_item_121 : decode cX12_item 121 = .ok (.ifCond .le 4, 3) := by decide +kernel
theorem dX12_item_124 : decode cX12_item 124 = .ok (.return_, 1) := by decide +kernel
theorem dX12_item_125 : decode cX12_item 125 = .ok (.aload_n 0, 1) := by decide +kernel
theorem dX12_item_126 : decode cX12_item 126 = .ok (.bipush 26, 2) := by decide +kernel
theorem dX12_item_128 : decode cX12_item 128 = .ok (.invokevirtual 210, 3) := by decide +kernel
theorem dX12_item_131 : decode cX12_item 131 = .ok (.ifCond .eq 19, 3) := by decide +kernel
theorem dX12_item_134 : decode cX12_item 134 = .ok (.aload_n 0, 1) := by decide +kernel
theorem dX12_item_135 : decode cX12_item 135 = .ok (.iload_n 1, 1) := by decide +kernel
theorem dX12_item_136 : decode cX12_item 136 = .ok (.iconst 1, 1) := by decide +kernel
theorem dX12_item_137 : decode cX12_item 137 = .ok (.iadd, 1) := by decide +kernel
theorem dX12_item_138 : decode cX12_item 138 = .ok (.invokevirtual 304, 3) := by decide +kernel
theorem dX12_item_141 : decode cX12_item 141 = .ok (.aload_n 0, 1) := by decide +kernel
theorem dX12_item_142 : decode cX12_item 142 = .ok (.iconst 3, 1) := by decide +kernel
theorem dX12_item_143 : decode cX12_item 143 = .ok (.iconst 0, 1) := by decide +kernel
theorem dX12_item_144 : decode cX12_item 144 = .ok (.invokevirtual 291, 3) := by decide +kernel
theorem dX12_item_147 : decode cX12_item 147 = .ok (.goto 61, 3) := by decide +kernel
theorem dX12_item_150 : decode cX12_item 150 = .ok (.aload_n 0, 1) := by decide +kernel
theorem dX12_item_151 : decode cX12_item 151 = .ok (.bipush 40, 2) := by decide +kernel
theorem dX12_item_153 : decode cX12_item 153 = .ok (.invokevirtual 307, 3) := by decide +kernel
theorem dX12_item_156 : decode cX12_item 156 = .ok (.ifCond .eq 19, 3) := by decide +kernel
theorem dX12_item_159 : decode cX12_item 159 = .ok (.aload_n 0, 1) := by decide +kernel
theorem dX12_item_160 : decode cX12_item 160 = .ok (.iload_n 1, 1) := by decide +kernel
theorem dX12_item_161 : decode cX12_item 161 = .ok (.iconst 1, 1) := by decide +kernel
theorem dX12_item_162 : decode cX12_item 162 = .ok (.iadd, 1) := by decide +kernel
theorem dX12_item_163 : decode cX12_item 163 = .ok (.invokevirtual 288, 3) := by decide +kernel
theorem dX12_item_166 : decode cX12_item 166 = .ok (.aload_n 0, 1) := by decide +kernel
theorem dX12_item_167 : decode cX12_item 167 = .ok (.bipush 41, 2) := by decide +kernel
theorem dX12_item_169 : decode cX12_item 169 = .ok (.invokevirtual 257, 3) := by decide +kernel
theorem dX12_item_172 : decode cX12_item 172 = .ok (.goto 36, 3) := by decide +kernel
theorem dX12_item_175 : decode cX12_item 175 = .ok (.aload_n 0, 1) := by decide +kernel
theorem dX12_item_176 : decode cX12_item 176 = .ok (.iload_n 3, 1) := by decide +kernel
theorem dX12_item_177 : decode cX12_item 177 = .ok (.ifCond .lt 7, 3) := by decide +kernel
theorem dX12_item_180 : decode cX12_item 180 = .ok (.iconst 2, 1) := by decide +kernel
theorem dX12_item_181 : decode cX12_item 181 = .ok (.goto 4, 3) := by decide +kernel
theorem dX12_item_184 : decode cX12_item 184 = .ok (.iconst 1, 1) := by decide +kernel
theorem dX12_item_185 : decode cX12_item 185 = .ok (.iload_n 3, 1) := by decide +kernel
theorem dX12_item_186 : decode cX12_item 186 = .ok (.ifCond .lt 7, 3) := by decide +kernel
theorem dX12_item_189 : decode cX12_item 189 = .ok (.iload_n 3, 1) := by decide +kernel
theorem dX12_item_190 : decode cX12_item 190 = .ok (.goto 5, 3) := by decide +kernel
theorem dX12_item_193 : decode cX12_item 193 = .ok (.iload 4, 2) := by decide +kernel
theorem dX12_item_195 : decode cX12_item 195 = .ok (.invokevirtual 291, 3) := by decide +kernel
theorem dX12_item_198 : decode cX12_item 198 = .ok (.aload_n 0, 1) := by decide +kernel
theorem dX12_item_199 : decode cX12_item 199 = .ok (.dup, 1) := by decide +kernel
theorem dX12_item_200 : decode cX12_item 200 = .ok (.getfield 195, 3) := by decide +kernel
theorem dX12_item_203 : decode cX12_item 203 = .ok (.iconst 1, 1) := by decide +kernel
theorem dX12_item_204 : decode cX12_item 204 = .ok (.iadd, 1) := by decide +kernel
theorem dX12_item_205 : decode cX12_item 205 = .ok (.putfield 195, 3) := by decide +kernel
theorem dX12_item_208 : decode cX12_item 208 = .ok (.return_, 1) := by decide +kernel



section
variable {p : Program} {l : Launch} {e : Env} {s : State} {m : MethodId} {args : Array Value} {below : List Frame} {meth : Method} {c : Code} {D : va_G} {cy : Nat → ClassId} {ad : Nat → Nat} {A : Nat → Prop} {aM aB aO aI aN aT aC aG aR aQ aK aL aX aH aJ aP aU aE0 aE1 aE2 aE3 : Nat → Nat} {gi : Value}
abbrev rm12_both0 (dp : Nat) : Room := { frames := 4 + 3 * dp, cells := 0, slots := 0, locals := 89 + 66 * dp }
theorem hdV12_both0 : yX12_both0.cls = RX12 ∧ (yX12_both0.cls ≠ "java/lang/invoke/MethodHandle" ∧ yX12_both0.cls ≠ "java/lang/invoke/VarHandle" ∧ (parseMethodDescriptor yX12_both0.desc).map (fun d => d.parameters.length) = some 1) := by decide +kernel
abbrev rm12_either (dp : Nat) : Room := { frames := 5 + 3 * dp, cells := 0, slots := 0, locals := 110 + 66 * dp }
theorem hdV12_either : yX12_either.cls = RX12 ∧ (yX12_either.cls ≠ "java/lang/invoke/MethodHandle" ∧ yX12_either.cls ≠ "java/lang/invoke/VarHandle" ∧ (parseMethodDescriptor yX12_either.desc).map (fun d => d.parameters.length) = some 1) := by decide +kernel
abbrev rm12_item (dp : Nat) : Room := { frames := 3 + 3 * dp, cells := 0, slots := 0, locals := 65 + 66 * dp }
theorem hdV12_item : yX12_item.cls = RX12 ∧ (yX12_item.cls ≠ "java/lang/invoke/MethodHandle" ∧ yX12_item.cls ≠ "java/lang/invoke/VarHandle" ∧ (parseMethodDescriptor yX12_item.desc).map (fun d => d.parameters.length) = some 1) := by decide +kernel
set_option maxRecDepth 100000 in
set_option maxHeartbeats 4000000 in
theorem t12_both0_5 (rec : Int32 → Ob → Option (Ob)) (hC : Cx p s m args meth c cX12_both0 2 wsX12_both0 RX12 none) (dp : Nat) (hrec : ∀ {x1 : Int32} {SM : Ob} {res : Ob}, rec x1 SM = some res → GCv l yX12_item wsX12_item (rm12_item dp) [.ref (aM 0), .int x1] D cy ad (w12 cy aM SM) (w12 cy aM res)) : ∀ n : Nat, ∀ (x1 : Int32) (SM : Ob) (res : Ob) (H : Heap) (locs : List Loc) (ls : Array Slot), f12_both0_5 rec n x1 SM = some res → GW D cy ad (w12 cy aM SM) A s H locs → lv_has ls 2 [(0, .ref (aM 0)), (1, .int x1)] → W p l e (rm12_both0 dp) s m args below meth c H locs 0 0 (MQ below (QV D cy (w12 cy aM res) A) args s 0 0 A) (F0 m 5 ls []) := by
  intro n
  induction n with
  | zero =>
    intro _ _ _ _ _ _ hf _ _
    exact nomatch (show (none : Option (Ob)) = some _ from hf)
  | succ n ih =>
    intro x1 SM res H locs ls hf hW hl
    rw [f12_both0_5] at hf
    refine lv_aload_n hC.1 hC.2.1 dX12_both0_5 rfl (lv_at hl 0 rfl) ?_
    refine lv_bipush (v := 27) hC.1 hC.2.1 dX12_both0_6 (by decide) ?_
    obtain ⟨r_1, hg_2, hf⟩ := bd_of hf
    refine g_calliV hC hW (c12_hasWord l D cy ad aM hg_2) (cwV 1 hC.2.2.2.2.1 gX12_both0_X12_hasWord rfl rfl rfl hdV12_hasWord ⟨by simp only [rm12_both0, rm12_hasWord]; omega, by simp only [rm12_both0, rm12_hasWord]; omega⟩) (Sub.all _ _) 0 11 rfl rfl rfl rfl hl.1 rfl (Nat.le_of_ble_eq_true rfl) dX12_both0_8 ⟨Nat.zero_le _, Nat.zero_le _⟩ (fun H locs hW => ?_)
    refine lv_if_eq (tgt := 29) hC.1 hC.2.1 dX12_both0_11 (by decide) (fun hc_3 => ?_) (fun hc_3 => ?_)
    · have hf := ite_t hf hc_3
      obtain rfl := Option.some.inj hf
      exact g_vret hC hW dX12_both0_29
    · have hf := ite_f hf hc_3
      refine lv_aload_n hC.1 hC.2.1 dX12_both0_14 rfl (lv_at hl 0 rfl) ?_
      refine lv_iload_n hC.1 hC.2.1 dX12_both0_15 rfl (lv_at hl 1 rfl) ?_
      obtain ⟨r_4, hg_5, hf⟩ := bd_of hf
      refine g_callvV hC hW (hrec hg_5) (cwV 1 hC.2.2.2.2.1 gX12_both0_X12_item rfl rfl rfl hdV12_item ⟨by simp only [rm12_both0, rm12_item]; omega, by simp only [rm12_both0, rm12_item]; omega⟩) (Sub.all _ _) 0 11 rfl rfl rfl rfl hl.1 rfl (Nat.le_of_ble_eq_true rfl) dX12_both0_16 ⟨Nat.zero_le _, Nat.zero_le _⟩ (fun H locs hW => ?_)
      refine lv_aload_n hC.1 hC.2.1 dX12_both0_19 rfl (lv_at hl 0 rfl) ?_
      refine lv_bipush (v := 9) hC.1 hC.2.1 dX12_both0_20 (by decide) ?_
      refine lv_iconst (v := 0) hC.1 hC.2.1 dX12_both0_22 (by decide) ?_
      obtain ⟨r_6, hg_7, hf⟩ := bd_of hf
      refine g_callvV hC hW (c12_emit l D cy ad aM hg_7) (cwV 2 hC.2.2.2.2.1 gX12_both0_X12_emit rfl rfl rfl hdV12_emit ⟨by simp only [rm12_both0, rm12_emit]; omega, by simp only [rm12_both0, rm12_emit]; omega⟩) (Sub.all _ _) 0 11 rfl rfl rfl rfl hl.1 rfl (Nat.le_of_ble_eq_true rfl) dX12_both0_23 ⟨Nat.zero_le _, Nat.zero_le _⟩ (fun H locs hW => ?_)
      refine lv_goto (tgt := 5) hC.1 hC.2.1 dX12_both0_26 (by decide) ?_
      exact ih _ _ _ _ _ _ hf hW (lv_sub hl [0, 1] rfl)
set_option maxRecDepth 100000 in
set_option maxHeartbeats 4000000 in
theorem t12_both0_0 (rec : Int32 → Ob → Option (Ob)) (hC : Cx p s m args meth c cX12_both0 2 wsX12_both0 RX12 none) (dp : Nat) (hrec : ∀ {x1 : Int32} {SM : Ob} {res : Ob}, rec x1 SM = some res → GCv l yX12_item wsX12_item (rm12_item dp) [.ref (aM 0), .int x1] D cy ad (w12 cy aM SM) (w12 cy aM res)) : ∀ (x1 : Int32) (SM : Ob) (res : Ob) (H : Heap) (locs : List Loc) (ls : Array Slot), f12_both0 rec x1 SM = some res → GW D cy ad (w12 cy aM SM) A s H locs → lv_has ls 2 [(0, .ref (aM 0)), (1, .int x1)] → W p l e (rm12_both0 dp) s m args below meth c H locs 0 0 (MQ below (QV D cy (w12 cy aM res) A) args s 0 0 A) (F0 m 0 ls []) := by
  intro x1 SM res H locs ls hf hW hl
  unfold f12_both0 at hf
  refine lv_aload_n hC.1 hC.2.1 dX12_both0_0 rfl (lv_at hl 0 rfl) ?_
  refine lv_iload_n hC.1 hC.2.1 dX12_both0_1 rfl (lv_at hl 1 rfl) ?_
  obtain ⟨r_1, hg_2, hf⟩ := bd_of hf
  refine g_callvV hC hW (hrec hg_2) (cwV 1 hC.2.2.2.2.1 gX12_both0_X12_item rfl rfl rfl hdV12_item ⟨by simp only [rm12_both0, rm12_item]; omega, by simp only [rm12_both0, rm12_item]; omega⟩) (Sub.all _ _) 0 11 rfl rfl rfl rfl hl.1 rfl (Nat.le_of_ble_eq_true rfl) dX12_both0_2 ⟨Nat.zero_le _, Nat.zero_le _⟩ (fun H locs hW => ?_)
  exact t12_both0_5 rec hC dp hrec _ _ _ _ _ _ _ hf hW (lv_sub hl [0, 1] rfl)
set_option maxRecDepth 100000 in
set_option maxHeartbeats 4000000 in
theorem c12_both0 (l : Launch) (D : va_G) (cy : Nat → ClassId) (ad : Nat → Nat) (aM : Nat → Nat) (rec : Int32 → Ob → Option (Ob)) (dp : Nat) (hrec : ∀ {x1 : Int32} {SM : Ob} {res : Ob}, rec x1 SM = some res → GCv l yX12_item wsX12_item (rm12_item dp) [.ref (aM 0), .int x1] D cy ad (w12 cy aM SM) (w12 cy aM res)) : ∀ {x1 : Int32} {SM : Ob} {res : Ob}, f12_both0 rec x1 SM = some res → GCv l yX12_both0 wsX12_both0 (rm12_both0 dp) [.ref (aM 0), .int x1] D cy ad (w12 cy aM SM) (w12 cy aM res) := fun {x1} {SM} {res} h sz => GC.start (own := RX12) (Qc := fun A => QV D cy (w12 cy aM res) A) sz (by decide) rfl rfl (Nat.le_of_ble_eq_true rfl) (fun p e s m below meth c A ls hC hW hl => t12_both0_0 rec hC dp hrec _ _ _ _ _ _ h hW (lv_sub hl [0, 1] rfl))
set_option maxRecDepth 100000 in
set_option maxHeartbeats 4000000 in
theorem t12_either_5 (rec : Int32 → Ob → Option (Ob)) (hC : Cx p s m args meth c cX12_either 2 wsX12_either RX12 none) (dp : Nat) (hrec : ∀ {x1 : Int32} {SM : Ob} {res : Ob}, rec x1 SM = some res → GCv l yX12_item wsX12_item (rm12_item dp) [.ref (aM 0), .int x1] D cy ad (w12 cy aM SM) (w12 cy aM res)) : ∀ n : Nat, ∀ (x1 : Int32) (SM : Ob) (res : Ob) (H : Heap) (locs : List Loc) (ls : Array Slot), f12_either_5 rec n x1 SM = some res → GW D cy ad (w12 cy aM SM) A s H locs → lv_has ls 2 [(0, .ref (aM 0)), (1, .int x1)] → W p l e (rm12_either dp) s m args below meth c H locs 0 0 (MQ below (QV D cy (w12 cy aM res) A) args s 0 0 A) (F0 m 5 ls []) := by
  intro n
  induction n with
  | zero =>
    intro _ _ _ _ _ _ hf _ _
    exact nomatch (show (none : Option (Ob)) = some _ from hf)
  | succ n ih =>
    intro x1 SM res H locs ls hf hW hl
    rw [f12_either_5] at hf
    refine lv_aload_n hC.1 hC.2.1 dX12_either_5 rfl (lv_at hl 0 rfl) ?_
    refine lv_bipush (v := 28) hC.1 hC.2.1 dX12_either_6 (by decide) ?_
    obtain ⟨r_1, hg_2, hf⟩ := bd_of hf
    refine g_calliV hC hW (c12_hasWord l D cy ad aM hg_2) (cwV 1 hC.2.2.2.2.1 gX12_either_X12_hasWord rfl rfl rfl hdV12_hasWord ⟨by simp only [rm12_either, rm12_hasWord]; omega, by simp only [rm12_either, rm12_hasWord]; omega⟩) (Sub.all _ _) 0 11 rfl rfl rfl rfl hl.1 rfl (Nat.le_of_ble_eq_true rfl) dX12_either_8 ⟨Nat.zero_le _, Nat.zero_le _⟩ (fun H locs hW => ?_)
    refine lv_if_eq (tgt := 29) hC.1 hC.2.1 dX12_either_11 (by decide) (fun hc_3 => ?_) (fun hc_3 => ?_)
    · have hf := ite_t hf hc_3
      obtain rfl := Option.some.inj hf
      exact g_vret hC hW dX12_either_29
    · have hf := ite_f hf hc_3
      refine lv_aload_n hC.1 hC.2.1 dX12_either_14 rfl (lv_at hl 0 rfl) ?_
      refine lv_iload_n hC.1 hC.2.1 dX12_either_15 rfl (lv_at hl 1 rfl) ?_
      obtain ⟨r_4, hg_5, hf⟩ := bd_of hf
      refine g_callvV hC hW (c12_both0 l D cy ad aM rec dp hrec hg_5) (cwV 1 hC.2.2.2.2.1 gX12_either_X12_both0 rfl rfl rfl hdV12_both0 ⟨by simp only [rm12_both0, rm12_either]; omega, by simp only [rm12_both0, rm12_either]; omega⟩) (Sub.all _ _) 0 11 rfl rfl rfl rfl hl.1 rfl (Nat.le_of_ble_eq_true rfl) dX12_either_16 ⟨Nat.zero_le _, Nat.zero_le _⟩ (fun H locs hW => ?_)
      refine lv_aload_n hC.1 hC.2.1 dX12_either_19 rfl (lv_at hl 0 rfl) ?_
      refine lv_bipush (v := 10) hC.1 hC.2.1 dX12_either_20 (by decide) ?_
      refine lv_iconst (v := 0) hC.1 hC.2.1 dX12_either_22 (by decide) ?_
      obtain ⟨r_6, hg_7, hf⟩ := bd_of hf
      refine g_callvV hC hW (c12_emit l D cy ad aM hg_7) (cwV 2 hC.2.2.2.2.1 gX12_either_X12_emit rfl rfl rfl hdV12_emit ⟨by simp only [rm12_either, rm12_emit]; omega, by simp only [rm12_either, rm12_emit]; omega⟩) (Sub.all _ _) 0 11 rfl rfl rfl rfl hl.1 rfl (Nat.le_of_ble_eq_true rfl) dX12_either_23 ⟨Nat.zero_le _, Nat.zero_le _⟩ (fun H locs hW => ?_)
      refine lv_goto (tgt := 5) hC.1 hC.2.1 dX12_either_26 (by decide) ?_
      exact ih _ _ _ _ _ _ hf hW (lv_sub hl [0, 1] rfl)
set_option maxRecDepth 100000 in
set_option maxHeartbeats 4000000 in
theorem t12_either_0 (rec : Int32 → Ob → Option (Ob)) (hC : Cx p s m args meth c cX12_either 2 wsX12_either RX12 none) (dp : Nat) (hrec : ∀ {x1 : Int32} {SM : Ob} {res : Ob}, rec x1 SM = some res → GCv l yX12_item wsX12_item (rm12_item dp) [.ref (aM 0), .int x1] D cy ad (w12 cy aM SM) (w12 cy aM res)) : ∀ (x1 : Int32) (SM : Ob) (res : Ob) (H : Heap) (locs : List Loc) (ls : Array Slot), f12_either rec x1 SM = some res → GW D cy ad (w12 cy aM SM) A s H locs → lv_has ls 2 [(0, .ref (aM 0)), (1, .int x1)] → W p l e (rm12_either dp) s m args below meth c H locs 0 0 (MQ below (QV D cy (w12 cy aM res) A) args s 0 0 A) (F0 m 0 ls []) := by
  intro x1 SM res H locs ls hf hW hl
  unfold f12_either at hf
  refine lv_aload_n hC.1 hC.2.1 dX12_either_0 rfl (lv_at hl 0 rfl) ?_
  refine lv_iload_n hC.1 hC.2.1 dX12_either_1 rfl (lv_at hl 1 rfl) ?_
  obtain ⟨r_1, hg_2, hf⟩ := bd_of hf
  refine g_callvV hC hW (c12_both0 l D cy ad aM rec dp hrec hg_2) (cwV 1 hC.2.2.2.2.1 gX12_either_X12_both0 rfl rfl rfl hdV12_both0 ⟨by simp only [rm12_both0, rm12_either]; omega, by simp only [rm12_both0, rm12_either]; omega⟩) (Sub.all _ _) 0 11 rfl rfl rfl rfl hl.1 rfl (Nat.le_of_ble_eq_true rfl) dX12_either_2 ⟨Nat.zero_le _, Nat.zero_le _⟩ (fun H locs hW => ?_)
  exact t12_either_5 rec hC dp hrec _ _ _ _ _ _ _ hf hW (lv_sub hl [0, 1] rfl)
set_option maxRecDepth 100000 in
set_option maxHeartbeats 4000000 in
theorem c12_either (l : Launch) (D : va_G) (cy : Nat → ClassId) (ad : Nat → Nat) (aM : Nat → Nat) (rec : Int32 → Ob → Option (Ob)) (dp : Nat) (hrec : ∀ {x1 : Int32} {SM : Ob} {res : Ob}, rec x1 SM = some res → GCv l yX12_item wsX12_item (rm12_item dp) [.ref (aM 0), .int x1] D cy ad (w12 cy aM SM) (w12 cy aM res)) : ∀ {x1 : Int32} {SM : Ob} {res : Ob}, f12_either rec x1 SM = some res → GCv l yX12_either wsX12_either (rm12_either dp) [.ref (aM 0), .int x1] D cy ad (w12 cy aM SM) (w12 cy aM res) := fun {x1} {SM} {res} h sz => GC.start (own := RX12) (Qc := fun A => QV D cy (w12 cy aM res) A) sz (by decide) rfl rfl (Nat.le_of_ble_eq_true rfl) (fun p e s m below meth c A ls hC hW hl => t12_either_0 rec hC dp hrec _ _ _ _ _ _ h hW (lv_sub hl [0, 1] rfl))
theorem hin12_item_12 : ∀ x ∈ u_ws RX12 TX12 39, x ∈ wsX12_item := fun _ h => List.mem_cons_of_mem _ (List.mem_append_right _ h)
set_option maxRecDepth 100000 in
set_option maxHeartbeats 4000000 in
theorem t12_item_208 (rec : Int32 → Ob → Option (Ob)) (hC : Cx p s m args meth c cX12_item 5 wsX12_item RX12 none) (dp : Nat) (hrec : ∀ {x1 : Int32} {SM : Ob} {res : Ob}, rec x1 SM = some res → GCv l yX12_item wsX12_item (rm12_item dp) [.ref (aM 0), .int x1] D cy ad (w12 cy aM SM) (w12 cy aM res)) : ∀ (SM : Ob) (res : Ob) (H : Heap) (locs : List Loc) (ls : Array Slot), f12_item_208 rec SM = some res → GW D cy ad (w12 cy aM SM) A s H locs → lv_has ls 5 [] → W p l e (rm12_item (dp + 1)) s m args below meth c H locs 0 0 (MQ below (QV D cy (w12 cy aM res) A) args s 0 0 A) (F0 m 208 ls []) := by
  intro SM res H locs ls hf hW hl
  unfold f12_item_208 at hf
  obtain rfl := Option.some.inj hf
  exact g_vret hC hW dX12_item_208
set_option maxRecDepth 100000 in
set_option maxHeartbeats 4000000 in
theorem t12_item_195 (rec : Int32 → Ob → Option (Ob)) (hC : Cx p s m args meth c cX12_item 5 wsX12_item RX12 none) (dp : Nat) (hrec : ∀ {x1 : Int32} {SM : Ob} {res : Ob}, rec x1 SM = some res → GCv l yX12_item wsX12_item (rm12_item dp) [.ref (aM 0), .int x1] D cy ad (w12 cy aM SM) (w12 cy aM res)) : ∀ (z1 : Int32) (z2 : Int32) (SM : Ob) (res : Ob) (H : Heap) (locs : List Loc) (ls : Array Slot), f12_item_195 rec z1 z2 SM = some res → GW D cy ad (w12 cy aM SM) A s H locs → lv_has ls 5 [(0, .ref (aM 0))] → W p l e (rm12_item (dp + 1)) s m args below meth c H locs 0 0 (MQ below (QV D cy (w12 cy aM res) A) args s 0 0 A) (F0 m 195 ls [.int z2, .int z1, .ref (aM 0)]) := by
  intro z1 z2 SM res H locs ls hf hW hl
  unfold f12_item_195 at hf
  obtain ⟨r_1, hg_2, hf⟩ := bd_of hf
  refine g_callvV hC hW (c12_emit l D cy ad aM hg_2) (cwV 2 hC.2.2.2.2.1 gX12_item_X12_emit rfl rfl rfl hdV12_emit ⟨by simp only [rm12_emit, rm12_item]; omega, by simp only [rm12_emit, rm12_item]; omega⟩) (Sub.all _ _) 0 11 rfl rfl rfl rfl hl.1 rfl (Nat.le_of_ble_eq_true rfl) dX12_item_195 ⟨Nat.zero_le _, Nat.zero_le _⟩ (fun H locs hW => ?_)
  refine lv_aload_n hC.1 hC.2.1 dX12_item_198 rfl (lv_at hl 0 rfl) ?_
  refine lv_dup hC.1 hC.2.1 dX12_item_199 rfl ?_
  refine g_get hC hW hin12_item_12 0 rfl rfl 7 (by decide) 3 rfl rfl dX12_item_200 ?_
  refine lv_iconst (v := 1) hC.1 hC.2.1 dX12_item_203 (by decide) ?_
  refine lv_iadd hC.1 hC.2.1 dX12_item_204 ?_
  obtain ⟨SM_3, eSM_3⟩ : ∃ y : Ob, y = oI r_1 7 ((r_1.1 7) + 1) := ⟨_, rfl⟩
  have hf := lt_nm hf eSM_3
  refine g_put hC hW hin12_item_12 tyX12 tyX12_ok nmX12 0 rfl rfl 7 (by decide) 3 rfl rfl rfl rfl (Nat.le_of_ble_eq_true rfl) (w' := w12 cy aM SM_3) (by rw [eSM_3]; rfl) dX12_item_205 (fun H locs hW => ?_)
  exact t12_item_208 rec hC dp hrec  _ _ _ _ _ hf hW (lv_sub hl [] rfl)
set_option maxRecDepth 100000 in
set_option maxHeartbeats 4000000 in
theorem t12_item_185 (rec : Int32 → Ob → Option (Ob)) (hC : Cx p s m args meth c cX12_item 5 wsX12_item RX12 none) (dp : Nat) (hrec : ∀ {x1 : Int32} {SM : Ob} {res : Ob}, rec x1 SM = some res → GCv l yX12_item wsX12_item (rm12_item dp) [.ref (aM 0), .int x1] D cy ad (w12 cy aM SM) (w12 cy aM res)) : ∀ (x3 : Int32) (x4 : Int32) (z1 : Int32) (SM : Ob) (res : Ob) (H : Heap) (locs : List Loc) (ls : Array Slot), f12_item_185 rec x3 x4 z1 SM = some res → GW D cy ad (w12 cy aM SM) A s H locs → lv_has ls 5 [(0, .ref (aM 0)), (3, .int x3), (4, .int x4)] → W p l e (rm12_item (dp + 1)) s m args below meth c H locs 0 0 (MQ below (QV D cy (w12 cy aM res) A) args s 0 0 A) (F0 m 185 ls [.int z1, .ref (aM 0)]) := by
  intro x3 x4 z1 SM res H locs ls hf hW hl
  unfold f12_item_185 at hf
  refine lv_iload_n hC.1 hC.2.1 dX12_item_185 rfl (lv_at hl 1 rfl) ?_
  refine lv_if_lt (tgt := 193) hC.1 hC.2.1 dX12_item_186 (by decide) (fun hc_1 => ?_) (fun hc_1 => ?_)
  · have hf := ite_t hf hc_1
    refine lv_iload hC.1 hC.2.1 dX12_item_193 (lv_at hl 2 rfl) ?_
    exact t12_item_195 rec hC dp hrec  _ _ _ _ _ _ _ hf hW (lv_sub hl [0] rfl)
  · have hf := ite_f hf hc_1
    refine lv_iload_n hC.1 hC.2.1 dX12_item_189 rfl (lv_at hl 1 rfl) ?_
    refine lv_goto (tgt := 195) hC.1 hC.2.1 dX12_item_190 (by decide) ?_
    exact t12_item_195 rec hC dp hrec  _ _ _ _ _ _ _ hf hW (lv_sub hl [0] rfl)
set_option maxRecDepth 100000 in
set_option maxHeartbeats 4000000 in
theorem t12_item_117 (rec : Int32 → Ob → Option (Ob)) (hC : Cx p s m args meth c cX12_item 5 wsX12_item RX12 none) (dp : Nat) (hrec : ∀ {x1 : Int32} {SM : Ob} {res : Ob}, rec x1 SM = some res → GCv l yX12_item wsX12_item (rm12_item dp) [.ref (aM 0), .int x1] D cy ad (w12 cy aM SM) (w12 cy aM res)) : ∀ (x1 : Int32) (x3 : Int32) (x4 : Int32) (SM : Ob) (res : Ob) (H : Heap) (locs : List Loc) (ls : Array Slot), f12_item_117 rec x1 x3 x4 SM = some res → GW D cy ad (w12 cy aM SM) A s H locs → lv_has ls 5 [(0, .ref (aM 0)), (1, .int x1), (3, .int x3), (4, .int x4)] → W p l e (rm12_item (dp + 1)) s m args below meth c H locs 0 0 (MQ below (QV D cy (w12 cy aM res) A) args s 0 0 A) (F0 m 117 ls []) := by
  intro x1 x3 x4 SM res H locs ls hf hW hl
  unfold f12_item_117 at hf
  refine lv_aload_n hC.1 hC.2.1 dX12_item_117 rfl (lv_at hl 0 rfl) ?_
  refine g_get hC hW hin12_item_12 0 rfl rfl 8 (by decide) 1 rfl rfl dX12_item_118 ?_
  refine lv_if_le (tgt := 125) hC.1 hC.2.1 dX12_item_121 (by decide) (fun hc_1 => ?_) (fun hc_1 => ?_)
  · have hf := ite_t hf hc_1
    refine lv_aload_n hC.1 hC.2.1 dX12_item_125 rfl (lv_at hl 0 rfl) ?_
    refine lv_bipush (v := 26) hC.1 hC.2.1 dX12_item_126 (by decide) ?_
    obtain ⟨r_2, hg_3, hf⟩ := bd_of hf
    refine g_calliV hC hW (c12_hasWord l D cy ad aM hg_3) (cwV 1 hC.2.2.2.2.1 gX12_item_X12_hasWord rfl rfl rfl hdV12_hasWord ⟨by simp only [rm12_hasWord, rm12_item]; omega, by simp only [rm12_hasWord, rm12_item]; omega⟩) (Sub.all _ _) 0 11 rfl rfl rfl rfl hl.1 rfl (Nat.le_of_ble_eq_true rfl) dX12_item_128 ⟨Nat.zero_le _, Nat.zero_le _⟩ (fun H locs hW => ?_)
    refine lv_if_eq (tgt := 150) hC.1 hC.2.1 dX12_item_131 (by decide) (fun hc_4 => ?_) (fun hc_4 => ?_)
    · have hf := ite_t hf hc_4
      refine lv_aload_n hC.1 hC.2.1 dX12_item_150 rfl (lv_at hl 0 rfl) ?_
      refine lv_bipush (v := 40) hC.1 hC.2.1 dX12_item_151 (by decide) ?_
      obtain ⟨r_5, hg_6, hf⟩ := bd_of hf
      refine g_calliV hC hW (c12_hasSign l D cy ad aM hg_6) (cwV 1 hC.2.2.2.2.1 gX12_item_X12_hasSign rfl rfl rfl hdV12_hasSign ⟨by simp only [rm12_hasSign, rm12_item]; omega, by simp only [rm12_hasSign, rm12_item]; omega⟩) (Sub.all _ _) 0 11 rfl rfl rfl rfl hl.1 rfl (Nat.le_of_ble_eq_true rfl) dX12_item_153 ⟨Nat.zero_le _, Nat.zero_le _⟩ (fun H locs hW => ?_)
      refine lv_if_eq (tgt := 175) hC.1 hC.2.1 dX12_item_156 (by decide) (fun hc_7 => ?_) (fun hc_7 => ?_)
      · have hf := ite_t hf hc_7
        refine lv_aload_n hC.1 hC.2.1 dX12_item_175 rfl (lv_at hl 0 rfl) ?_
        refine lv_iload_n hC.1 hC.2.1 dX12_item_176 rfl (lv_at hl 2 rfl) ?_
        refine lv_if_lt (tgt := 184) hC.1 hC.2.1 dX12_item_177 (by decide) (fun hc_8 => ?_) (fun hc_8 => ?_)
        · have hf := ite_t hf hc_8
          refine lv_iconst (v := 1) hC.1 hC.2.1 dX12_item_184 (by decide) ?_
          exact t12_item_185 rec hC dp hrec  _ _ _ _ _ _ _ _ hf hW (lv_sub hl [0, 2, 3] rfl)
        · have hf := ite_f hf hc_8
          refine lv_iconst (v := 2) hC.1 hC.2.1 dX12_item_180 (by decide) ?_
          refine lv_goto (tgt := 185) hC.1 hC.2.1 dX12_item_181 (by decide) ?_
          exact t12_item_185 rec hC dp hrec  _ _ _ _ _ _ _ _ hf hW (lv_sub hl [0, 2, 3] rfl)
      · have hf := ite_f hf hc_7
        refine lv_aload_n hC.1 hC.2.1 dX12_item_159 rfl (lv_at hl 0 rfl) ?_
        refine lv_iload_n hC.1 hC.2.1 dX12_item_160 rfl (lv_at hl 1 rfl) ?_
        refine lv_iconst (v := 1) hC.1 hC.2.1 dX12_item_161 (by decide) ?_
        refine lv_iadd hC.1 hC.2.1 dX12_item_162 ?_
        obtain ⟨r_9, hg_10, hf⟩ := bd_of hf
        refine g_callvV hC hW (c12_either l D cy ad aM rec dp hrec hg_10) (cwV 1 hC.2.2.2.2.1 gX12_item_X12_either rfl rfl rfl hdV12_either ⟨by simp only [rm12_either, rm12_item]; omega, by simp only [rm12_either, rm12_item]; omega⟩) (Sub.all _ _) 0 11 rfl rfl rfl rfl hl.1 rfl (Nat.le_of_ble_eq_true rfl) dX12_item_163 ⟨Nat.zero_le _, Nat.zero_le _⟩ (fun H locs hW => ?_)
        refine lv_aload_n hC.1 hC.2.1 dX12_item_166 rfl (lv_at hl 0 rfl) ?_
        refine lv_bipush (v := 41) hC.1 hC.2.1 dX12_item_167 (by decide) ?_
        obtain ⟨r_11, hg_12, hf⟩ := bd_of hf
        refine g_callvV hC hW (c12_takeSign l D cy ad aM hg_12) (cwV 1 hC.2.2.2.2.1 gX12_item_X12_takeSign rfl rfl rfl hdV12_takeSign ⟨by simp only [rm12_item, rm12_takeSign]; omega, by simp only [rm12_item, rm12_takeSign]; omega⟩) (Sub.all _ _) 0 11 rfl rfl rfl rfl hl.1 rfl (Nat.le_of_ble_eq_true rfl) dX12_item_169 ⟨Nat.zero_le _, Nat.zero_le _⟩ (fun H locs hW => ?_)
        refine lv_goto (tgt := 208) hC.1 hC.2.1 dX12_item_172 (by decide) ?_
        exact t12_item_208 rec hC dp hrec  _ _ _ _ _ hf hW (lv_sub hl [] rfl)
    · have hf := ite_f hf hc_4
      refine lv_aload_n hC.1 hC.2.1 dX12_item_134 rfl (lv_at hl 0 rfl) ?_
      refine lv_iload_n hC.1 hC.2.1 dX12_item_135 rfl (lv_at hl 1 rfl) ?_
      refine lv_iconst (v := 1) hC.1 hC.2.1 dX12_item_136 (by decide) ?_
      refine lv_iadd hC.1 hC.2.1 dX12_item_137 ?_
      obtain ⟨r_13, hg_14, hf⟩ := bd_of hf
      refine g_callvV hC hW (hrec hg_14) (cwV 1 hC.2.2.2.2.1 gX12_item_X12_item rfl rfl rfl hdV12_item ⟨by simp only [rm12_item]; omega, by simp only [rm12_item]; omega⟩) (Sub.all _ _) 0 11 rfl rfl rfl rfl hl.1 rfl (Nat.le_of_ble_eq_true rfl) dX12_item_138 ⟨Nat.zero_le _, Nat.zero_le _⟩ (fun H locs hW => ?_)
      refine lv_aload_n hC.1 hC.2.1 dX12_item_141 rfl (lv_at hl 0 rfl) ?_
      refine lv_iconst (v := 3) hC.1 hC.2.1 dX12_item_142 (by decide) ?_
      refine lv_iconst (v := 0) hC.1 hC.2.1 dX12_item_143 (by decide) ?_
      obtain ⟨r_15, hg_16, hf⟩ := bd_of hf
      refine g_callvV hC hW (c12_emit l D cy ad aM hg_16) (cwV 2 hC.2.2.2.2.1 gX12_item_X12_emit rfl rfl rfl hdV12_emit ⟨by simp only [rm12_emit, rm12_item]; omega, by simp only [rm12_emit, rm12_item]; omega⟩) (Sub.all _ _) 0 11 rfl rfl rfl rfl hl.1 rfl (Nat.le_of_ble_eq_true rfl) dX12_item_144 ⟨Nat.zero_le _, Nat.zero_le _⟩ (fun H locs hW => ?_)
      refine lv_goto (tgt := 208) hC.1 hC.2.1 dX12_item_147 (by decide) ?_
      exact t12_item_208 rec hC dp hrec  _ _ _ _ _ hf hW (lv_sub hl [] rfl)
  · have hf := ite_f hf hc_1
    obtain rfl := Option.some.inj hf
    exact g_vret hC hW dX12_item_124
set_option maxRecDepth 100000 in
set_option maxHeartbeats 4000000 in
theorem t12_item_107 (rec : Int32 → Ob → Option (Ob)) (hC : Cx p s m args meth c cX12_item 5 wsX12_item RX12 none) (dp : Nat) (hrec : ∀ {x1 : Int32} {SM : Ob} {res : Ob}, rec x1 SM = some res → GCv l yX12_item wsX12_item (rm12_item dp) [.ref (aM 0), .int x1] D cy ad (w12 cy aM SM) (w12 cy aM res)) : ∀ (x1 : Int32) (x3 : Int32) (x4 : Int32) (SM : Ob) (res : Ob) (H : Heap) (locs : List Loc) (ls : Array Slot), f12_item_107 rec x1 x3 x4 SM = some res → GW D cy ad (w12 cy aM SM) A s H locs → lv_has ls 5 [(0, .ref (aM 0)), (1, .int x1), (3, .int x3), (4, .int x4)] → W p l e (rm12_item (dp + 1)) s m args below meth c H locs 0 0 (MQ below (QV D cy (w12 cy aM res) A) args s 0 0 A) (F0 m 107 ls []) := by
  intro x1 x3 x4 SM res H locs ls hf hW hl
  unfold f12_item_107 at hf
  refine lv_iload_n hC.1 hC.2.1 dX12_item_107 rfl (lv_at hl 1 rfl) ?_
  refine lv_iconst (v := 5) hC.1 hC.2.1 dX12_item_108 (by decide) ?_
  refine lv_icmp_ne (tgt := 117) hC.1 hC.2.1 dX12_item_109 (by decide) (fun hc_1 => ?_) (fun hc_1 => ?_)
  · have hf := ite_f hf hc_1
    exact t12_item_117 rec hC dp hrec  _ _ _ _ _ _ _ _ hf hW (lv_sub hl [0, 1, 2, 3] rfl)
  · have hf := ite_t hf hc_1
    refine lv_aload_n hC.1 hC.2.1 dX12_item_112 rfl (lv_at hl 0 rfl) ?_
    refine lv_iconst (v := 5) hC.1 hC.2.1 dX12_item_113 (by decide) ?_
    obtain ⟨r_2, hg_3, hf⟩ := bd_of hf
    refine g_callvV hC hW (c12_wrong l D cy ad aM hg_3) (cwV 1 hC.2.2.2.2.1 gX12_item_X12_wrong rfl rfl rfl hdV12_wrong ⟨by simp only [rm12_item, rm12_wrong]; omega, by simp only [rm12_item, rm12_wrong]; omega⟩) (Sub.all _ _) 0 11 rfl rfl rfl rfl hl.1 rfl (Nat.le_of_ble_eq_true rfl) dX12_item_114 ⟨Nat.zero_le _, Nat.zero_le _⟩ (fun H locs hW => ?_)
    exact t12_item_117 rec hC dp hrec  _ _ _ _ _ _ _ _ hf hW (lv_sub hl [0, 1, 2, 3] rfl)
set_option maxRecDepth 100000 in
set_option maxHeartbeats 4000000 in
theorem t12_item_66 (rec : Int32 → Ob → Option (Ob)) (hC : Cx p s m args meth c cX12_item 5 wsX12_item RX12 none) (dp : Nat) (hrec : ∀ {x1 : Int32} {SM : Ob} {res : Ob}, rec x1 SM = some res → GCv l yX12_item wsX12_item (rm12_item dp) [.ref (aM 0), .int x1] D cy ad (w12 cy aM SM) (w12 cy aM res)) : ∀ (x1 : Int32) (x2 : Int32) (x3 : Int32) (z0 : Int32) (SM : Ob) (res : Ob) (H : Heap) (locs : List Loc) (ls : Array Slot), f12_item_66 rec x1 x2 x3 z0 SM = some res → GW D cy ad (w12 cy aM SM) A s H locs → lv_has ls 5 [(0, .ref (aM 0)), (1, .int x1), (2, .int x2), (3, .int x3)] → W p l e (rm12_item (dp + 1)) s m args below meth c H locs 0 0 (MQ below (QV D cy (w12 cy aM res) A) args s 0 0 A) (F0 m 66 ls [.int z0]) := by
  intro x1 x2 x3 z0 SM res H locs ls hf hW hl
  unfold f12_item_66 at hf
  refine lv_istore (lv' := [(4, .int z0), (0, .ref (aM 0)), (1, .int x1), (2, .int x2), (3, .int x3)]) hC.1 hC.2.1 dX12_item_66 hl (by decide) rfl (fun ls hl => ?_)
  refine lv_iload_n hC.1 hC.2.1 dX12_item_68 rfl (lv_at hl 3 rfl) ?_
  refine lv_if_eq (tgt := 107) hC.1 hC.2.1 dX12_item_69 (by decide) (fun hc_1 => ?_) (fun hc_1 => ?_)
  · have hf := ite_t hf hc_1
    exact t12_item_107 rec hC dp hrec  _ _ _ _ _ _ _ _ hf hW (lv_sub hl [1, 2, 4, 0] rfl)
  · have hf := ite_f hf hc_1
    refine lv_iload hC.1 hC.2.1 dX12_item_72 (lv_at hl 0 rfl) ?_
    refine lv_iconst (v := 0) hC.1 hC.2.1 dX12_item_74 (by decide) ?_
    refine lv_bipush (v := 7) hC.1 hC.2.1 dX12_item_75 (by decide) ?_
    obtain ⟨r_2, hg_3, hf⟩ := bd_of hf
    refine g_calliS hC hW (c12_within l D cy ad  hg_3) (va_cwS 3 hC.2.2.2.2.1 gX12_item_X12_within rfl rfl rfl hdS12_within ⟨by simp only [rm12_item, rm12_within]; omega, by simp only [rm12_item, rm12_within]; omega⟩) (Sub.nil _) rfl hl.1 rfl (Nat.le_of_ble_eq_true rfl) dX12_item_77 ⟨Nat.zero_le _, Nat.zero_le _⟩ (fun H locs hW => ?_)
    refine lv_if_ne (tgt := 107) hC.1 hC.2.1 dX12_item_80 (by decide) (fun hc_4 => ?_) (fun hc_4 => ?_)
    · have hf := ite_f hf hc_4
      exact t12_item_107 rec hC dp hrec  _ _ _ _ _ _ _ _ hf hW (lv_sub hl [1, 2, 4, 0] rfl)
    · have hf := ite_t hf hc_4
      refine lv_iload hC.1 hC.2.1 dX12_item_83 (lv_at hl 0 rfl) ?_
      refine lv_bipush (v := 20) hC.1 hC.2.1 dX12_item_85 (by decide) ?_
      refine lv_aload_n hC.1 hC.2.1 dX12_item_87 rfl (lv_at hl 1 rfl) ?_
      refine g_get hC hW hin12_item_12 0 rfl rfl 21 (by decide) 2 rfl rfl dX12_item_88 ?_
      refine lv_iconst (v := 1) hC.1 hC.2.1 dX12_item_91 (by decide) ?_
      refine lv_isub hC.1 hC.2.1 dX12_item_92 ?_
      obtain ⟨r_5, hg_6, hf⟩ := bd_of hf
      refine g_calliS hC hW (c12_within l D cy ad  hg_6) (va_cwS 3 hC.2.2.2.2.1 gX12_item_X12_within rfl rfl rfl hdS12_within ⟨by simp only [rm12_item, rm12_within]; omega, by simp only [rm12_item, rm12_within]; omega⟩) (Sub.nil _) rfl hl.1 rfl (Nat.le_of_ble_eq_true rfl) dX12_item_93 ⟨Nat.zero_le _, Nat.zero_le _⟩ (fun H locs hW => ?_)
      refine lv_if_ne (tgt := 107) hC.1 hC.2.1 dX12_item_96 (by decide) (fun hc_7 => ?_) (fun hc_7 => ?_)
      · have hf := ite_f hf hc_7
        exact t12_item_107 rec hC dp hrec  _ _ _ _ _ _ _ _ hf hW (lv_sub hl [1, 2, 4, 0] rfl)
      · have hf := ite_t hf hc_7
        refine lv_aload_n hC.1 hC.2.1 dX12_item_99 rfl (lv_at hl 1 rfl) ?_
        refine lv_iconst (v := 2) hC.1 hC.2.1 dX12_item_100 (by decide) ?_
        obtain ⟨r_8, hg_9, hf⟩ := bd_of hf
        refine g_callvV hC hW (c12_wrong l D cy ad aM hg_9) (cwV 1 hC.2.2.2.2.1 gX12_item_X12_wrong rfl rfl rfl hdV12_wrong ⟨by simp only [rm12_item, rm12_wrong]; omega, by simp only [rm12_item, rm12_wrong]; omega⟩) (Sub.all _ _) 0 11 rfl rfl rfl rfl hl.1 rfl (Nat.le_of_ble_eq_true rfl) dX12_item_101 ⟨Nat.zero_le _, Nat.zero_le _⟩ (fun H locs hW => ?_)
        refine lv_goto (tgt := 117) hC.1 hC.2.1 dX12_item_104 (by decide) ?_
        exact t12_item_117 rec hC dp hrec  _ _ _ _ _ _ _ _ hf hW (lv_sub hl [1, 2, 4, 0] rfl)
set_option maxRecDepth 100000 in
set_option maxHeartbeats 4000000 in
theorem t12_item_54 (rec : Int32 → Ob → Option (Ob)) (hC : Cx p s m args meth c cX12_item 5 wsX12_item RX12 none) (dp : Nat) (hrec : ∀ {x1 : Int32} {SM : Ob} {res : Ob}, rec x1 SM = some res → GCv l yX12_item wsX12_item (rm12_item dp) [.ref (aM 0), .int x1] D cy ad (w12 cy aM SM) (w12 cy aM res)) : ∀ (x1 : Int32) (x2 : Int32) (x3 : Int32) (SM : Ob) (res : Ob) (H : Heap) (locs : List Loc) (ls : Array Slot), f12_item_54 rec x1 x2 x3 SM = some res → GW D cy ad (w12 cy aM SM) A s H locs → lv_has ls 5 [(0, .ref (aM 0)), (1, .int x1), (2, .int x2), (3, .int x3)] → W p l e (rm12_item (dp + 1)) s m args below meth c H locs 0 0 (MQ below (QV D cy (w12 cy aM res) A) args s 0 0 A) (F0 m 54 ls []) := by
  intro x1 x2 x3 SM res H locs ls hf hW hl
  unfold f12_item_54 at hf
  refine lv_iload_n hC.1 hC.2.1 dX12_item_54 rfl (lv_at hl 2 rfl) ?_
  refine lv_if_eq (tgt := 65) hC.1 hC.2.1 dX12_item_55 (by decide) (fun hc_1 => ?_) (fun hc_1 => ?_)
  · have hf := ite_t hf hc_1
    refine lv_iconst (v := 0) hC.1 hC.2.1 dX12_item_65 (by decide) ?_
    exact t12_item_66 rec hC dp hrec  _ _ _ _ _ _ _ _ _ hf hW (lv_sub hl [0, 1, 2, 3] rfl)
  · have hf := ite_f hf hc_1
    refine lv_aload_n hC.1 hC.2.1 dX12_item_58 rfl (lv_at hl 0 rfl) ?_
    obtain ⟨r_2, hg_3, hf⟩ := bd_of hf
    refine g_calliV hC hW (c12_find l D cy ad aM hg_3) (cwV 0 hC.2.2.2.2.1 gX12_item_X12_find rfl rfl rfl hdV12_find ⟨by simp only [rm12_find, rm12_item]; omega, by simp only [rm12_find, rm12_item]; omega⟩) (Sub.all _ _) 0 11 rfl rfl rfl rfl hl.1 rfl (Nat.le_of_ble_eq_true rfl) dX12_item_59 ⟨Nat.zero_le _, Nat.zero_le _⟩ (fun H locs hW => ?_)
    refine lv_goto (tgt := 66) hC.1 hC.2.1 dX12_item_62 (by decide) ?_
    exact t12_item_66 rec hC dp hrec  _ _ _ _ _ _ _ _ _ hf hW (lv_sub hl [0, 1, 2, 3] rfl)
set_option maxRecDepth 100000 in
set_option maxHeartbeats 4000000 in
theorem t12_item_0 (rec : Int32 → Ob → Option (Ob)) (hC : Cx p s m args meth c cX12_item 5 wsX12_item RX12 none) (dp : Nat) (hrec : ∀ {x1 : Int32} {SM : Ob} {res : Ob}, rec x1 SM = some res → GCv l yX12_item wsX12_item (rm12_item dp) [.ref (aM 0), .int x1] D cy ad (w12 cy aM SM) (w12 cy aM res)) : ∀ (x1 : Int32) (SM : Ob) (res : Ob) (H : Heap) (locs : List Loc) (ls : Array Slot), f12_item_b rec x1 SM = some res → GW D cy ad (w12 cy aM SM) A s H locs → lv_has ls 5 [(0, .ref (aM 0)), (1, .int x1)] → W p l e (rm12_item (dp + 1)) s m args below meth c H locs 0 0 (MQ below (QV D cy (w12 cy aM res) A) args s 0 0 A) (F0 m 0 ls []) := by
  intro x1 SM res H locs ls hf hW hl
  unfold f12_item_b at hf
  refine lv_aload_n hC.1 hC.2.1 dX12_item_0 rfl (lv_at hl 0 rfl) ?_
  refine g_get hC hW hin12_item_12 0 rfl rfl 8 (by decide) 1 rfl rfl dX12_item_1 ?_
  refine lv_if_le (tgt := 8) hC.1 hC.2.1 dX12_item_4 (by decide) (fun hc_1 => ?_) (fun hc_1 => ?_)
  · have hf := ite_t hf hc_1
    refine lv_aload_n hC.1 hC.2.1 dX12_item_8 rfl (lv_at hl 0 rfl) ?_
    obtain ⟨r_2, hg_3, hf⟩ := bd_of hf
    refine g_calliV hC hW (c12_isName l D cy ad aM hg_3) (cwV 0 hC.2.2.2.2.1 gX12_item_X12_isName rfl rfl rfl hdV12_isName ⟨by simp only [rm12_isName, rm12_item]; omega, by simp only [rm12_isName, rm12_item]; omega⟩) (Sub.all _ _) 0 11 rfl rfl rfl rfl hl.1 rfl (Nat.le_of_ble_eq_true rfl) dX12_item_9 ⟨Nat.zero_le _, Nat.zero_le _⟩ (fun H locs hW => ?_)
    refine lv_istore_n (lv' := [(2, .int r_2), (0, .ref (aM 0)), (1, .int x1)]) hC.1 hC.2.1 dX12_item_12 rfl hl (by decide) rfl (fun ls hl => ?_)
    refine lv_aload_n hC.1 hC.2.1 dX12_item_13 rfl (lv_at hl 1 rfl) ?_
    refine lv_bipush (v := 18) hC.1 hC.2.1 dX12_item_14 (by decide) ?_
    refine lv_bipush (v := 8) hC.1 hC.2.1 dX12_item_16 (by decide) ?_
    obtain ⟨r_4, hg_5, hf⟩ := bd_of hf
    refine g_calliV hC hW (c12_wordHere l D cy ad aM hg_5) (cwV 2 hC.2.2.2.2.1 gX12_item_X12_wordHere rfl rfl rfl hdV12_wordHere ⟨by simp only [rm12_item, rm12_wordHere]; omega, by simp only [rm12_item, rm12_wordHere]; omega⟩) (Sub.all _ _) 0 11 rfl rfl rfl rfl hl.1 rfl (Nat.le_of_ble_eq_true rfl) dX12_item_18 ⟨Nat.zero_le _, Nat.zero_le _⟩ (fun H locs hW => ?_)
    refine lv_istore_n (lv' := [(3, .int r_4), (2, .int r_2), (0, .ref (aM 0)), (1, .int x1)]) hC.1 hC.2.1 dX12_item_21 rfl hl (by decide) rfl (fun ls hl => ?_)
    refine lv_iload_n hC.1 hC.2.1 dX12_item_22 rfl (lv_at hl 1 rfl) ?_
    refine lv_if_ne (tgt := 54) hC.1 hC.2.1 dX12_item_23 (by decide) (fun hc_6 => ?_) (fun hc_6 => ?_)
    · have hf := ite_f hf hc_6
      exact t12_item_54 rec hC dp hrec  _ _ _ _ _ _ _ _ hf hW (lv_sub hl [2, 3, 1, 0] rfl)
    · have hf := ite_t hf hc_6
      refine lv_iload_n hC.1 hC.2.1 dX12_item_26 rfl (lv_at hl 0 rfl) ?_
      refine lv_if_ge (tgt := 54) hC.1 hC.2.1 dX12_item_27 (by decide) (fun hc_7 => ?_) (fun hc_7 => ?_)
      · have hf := ite_t hf hc_7
        exact t12_item_54 rec hC dp hrec  _ _ _ _ _ _ _ _ hf hW (lv_sub hl [2, 3, 1, 0] rfl)
      · have hf := ite_f hf hc_7
        refine lv_aload_n hC.1 hC.2.1 dX12_item_30 rfl (lv_at hl 2 rfl) ?_
        refine lv_bipush (v := 40) hC.1 hC.2.1 dX12_item_31 (by decide) ?_
        obtain ⟨r_8, hg_9, hf⟩ := bd_of hf
        refine g_calliV hC hW (c12_isSign l D cy ad aM hg_9) (cwV 1 hC.2.2.2.2.1 gX12_item_X12_isSign rfl rfl rfl hdV12_isSign ⟨by simp only [rm12_isSign, rm12_item]; omega, by simp only [rm12_isSign, rm12_item]; omega⟩) (Sub.all _ _) 0 11 rfl rfl rfl rfl hl.1 rfl (Nat.le_of_ble_eq_true rfl) dX12_item_33 ⟨Nat.zero_le _, Nat.zero_le _⟩ (fun H locs hW => ?_)
        refine lv_if_ne (tgt := 54) hC.1 hC.2.1 dX12_item_36 (by decide) (fun hc_10 => ?_) (fun hc_10 => ?_)
        · have hf := ite_f hf hc_10
          exact t12_item_54 rec hC dp hrec  _ _ _ _ _ _ _ _ hf hW (lv_sub hl [2, 3, 1, 0] rfl)
        · have hf := ite_t hf hc_10
          refine lv_aload_n hC.1 hC.2.1 dX12_item_39 rfl (lv_at hl 2 rfl) ?_
          refine lv_bipush (v := 26) hC.1 hC.2.1 dX12_item_40 (by decide) ?_
          obtain ⟨r_11, hg_12, hf⟩ := bd_of hf
          refine g_calliV hC hW (c12_isWord l D cy ad aM hg_12) (cwV 1 hC.2.2.2.2.1 gX12_item_X12_isWord rfl rfl rfl hdV12_isWord ⟨by simp only [rm12_isWord, rm12_item]; omega, by simp only [rm12_isWord, rm12_item]; omega⟩) (Sub.all _ _) 0 11 rfl rfl rfl rfl hl.1 rfl (Nat.le_of_ble_eq_true rfl) dX12_item_42 ⟨Nat.zero_le _, Nat.zero_le _⟩ (fun H locs hW => ?_)
          refine lv_if_ne (tgt := 54) hC.1 hC.2.1 dX12_item_45 (by decide) (fun hc_13 => ?_) (fun hc_13 => ?_)
          · have hf := ite_f hf hc_13
            exact t12_item_54 rec hC dp hrec  _ _ _ _ _ _ _ _ hf hW (lv_sub hl [2, 3, 1, 0] rfl)
          · have hf := ite_t hf hc_13
            refine lv_aload_n hC.1 hC.2.1 dX12_item_48 rfl (lv_at hl 2 rfl) ?_
            refine lv_iconst (v := 1) hC.1 hC.2.1 dX12_item_49 (by decide) ?_
            obtain ⟨r_14, hg_15, hf⟩ := bd_of hf
            refine g_callvV hC hW (c12_wrong l D cy ad aM hg_15) (cwV 1 hC.2.2.2.2.1 gX12_item_X12_wrong rfl rfl rfl hdV12_wrong ⟨by simp only [rm12_item, rm12_wrong]; omega, by simp only [rm12_item, rm12_wrong]; omega⟩) (Sub.all _ _) 0 11 rfl rfl rfl rfl hl.1 rfl (Nat.le_of_ble_eq_true rfl) dX12_item_50 ⟨Nat.zero_le _, Nat.zero_le _⟩ (fun H locs hW => ?_)
            obtain rfl := Option.some.inj hf
            exact g_vret hC hW dX12_item_53
  · have hf := ite_f hf hc_1
    obtain rfl := Option.some.inj hf
    exact g_vret hC hW dX12_item_7
set_option maxRecDepth 100000 in
set_option maxHeartbeats 4000000 in
theorem c12_item (l : Launch) (D : va_G) (cy : Nat → ClassId) (ad : Nat → Nat) (aM : Nat → Nat) : ∀ dp : Nat, ∀ {x1 : Int32} {SM : Ob} {res : Ob}, f12_item dp x1 SM = some res → GCv l yX12_item wsX12_item (rm12_item dp) [.ref (aM 0), .int x1] D cy ad (w12 cy aM SM) (w12 cy aM res) := by
  intro dp
  induction dp with
  | zero =>
    intro _ _ _ h
    exact nomatch (show (none : Option (Ob)) = some _ from h)
  | succ dp ih =>
    intro x1 SM res h
    rw [f12_item] at h
    intro sz
    exact GC.start (own := RX12) (Qc := fun A => QV D cy (w12 cy aM res) A) sz (by decide) rfl rfl (Nat.le_of_ble_eq_true rfl) (fun p e s m below meth c A ls hC hW hl => t12_item_0 _ hC dp ih _ _ _ _ _ _ h hW (lv_sub hl [0, 1] rfl))
end
