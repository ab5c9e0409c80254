/-! laid by program: functions, walks and contracts of 12_products, 12_sums, 12_test, 12_all, 12_takePart -/
set_option maxRecDepth 20000 in
theorem gX12_products_X12_takePart : GoodIn wsX12_products (wsV RX12 322 RX12 yX12_takePart wsX12_takePart) := goodIn_r _ [1, 2, 3, 4, 37, 14, 15, 9, 16, 38, 39, 40, 4, 41, 28, 29, 30, 31, 32, 10, 11, 12, 13, 42, 43, 44, 45, 46, 47, 48, 49, 50, 1, 2, 3, 17, 18, 19, 20, 21, 22, 23, 5, 6, 7, 8, 51, 52, 53, 54, 55, 56, 57, 24, 25, 26, 27, 0, 33, 34, 35, 36, 58, 59, 60, 61, 62, 63, 64, 65, 66, 67, 68, 69, 70, 71, 72, 73, 74, 75, 76, 77, 78, 79, 80, 81, 82, 83, 84, 85, 86, 87, 88, 89, 90, 91, 92, 93, 94, 95, 96, 97, 98, 99, 100] rfl (by decide +kernel)
set_option maxRecDepth 20000 in
theorem gX12_products_X12_hasSign : GoodIn wsX12_products (wsV RX12 307 RX12 yX12_hasSign wsX12_hasSign) := goodIn_r _ [5, 6, 7, 4, 8, 9, 10, 11, 12, 4, 13, 14, 15, 16, 62, 63, 64, 65, 66, 67, 68, 69, 70, 71, 72, 73, 74, 75, 76, 77, 78, 79, 80, 81, 82, 83, 84, 85, 86, 87, 88, 89, 90, 91, 92, 93, 94, 95, 96, 97, 98, 99, 100] rfl (by decide +kernel)
set_option maxRecDepth 20000 in
theorem gX12_products_X12_emit : GoodIn wsX12_products (wsV RX12 291 RX12 yX12_emit wsX12_emit) := goodIn_r _ [17, 18, 19, 4, 20, 21, 22, 23, 62, 63, 64, 65, 66, 67, 68, 69, 70, 71, 72, 73, 74, 75, 76, 77, 78, 79, 80, 81, 82, 83, 84, 85, 86, 87, 88, 89, 90, 91, 92, 93, 94, 95, 96, 97, 98, 99, 100] rfl (by decide +kernel)
theorem dX12_products_0 : decode cX12_products 0 = .ok (.aload_n 0, 1) := by decide +kernel
theorem dX12_products_1 : decode cX12_products 1 = .ok (.iload_n 1, 1) := by decide +kernel
theorem dX12_products_2 : decode cX12_products 2 = .ok (.invokevirtual 322, 3) := by decide +kernel
theorem dX12_products_5 : decode cX12_products 5 = .ok (.aload_n 0, 1) := by decide +kernel
theorem dX12_products_6 : decode cX12_products 6 = .ok (.bipush 42, 2) := by decide +kernel
theorem dX12_products_8 : decode cX12_products 8 = .ok (.invokevirtual 307, 3) := by decide +kernel
theorem dX12_products_11 : decode cX12_products 11 = .ok (.ifCond .eq 18, 3) := by decide +kernel
theorem dX12_products_14 : decode cX12_products 14 = .ok (.aload_n 0, 1) := by decide +kernel
theorem dX12_products_15 : decode cX12_products 15 = .ok (.iload_n 1, 1) := by decide +kernel
theorem dX12_products_16 : decode cX12_products 16 = .ok (.invokevirtual 322, 3) := by decide +kernel
theorem dX12_products_19 : decode cX12_products 19 = .ok (.aload_n 0, 1) := by decide +kernel
theorem dX12_products_20 : decode cX12_products 20 = .ok (.bipush 6, 2) := by decide +kernel
theorem dX12_products_22 : decode cX12_products 22 = .ok (.iconst 0, 1) := by decide +kernel
theorem dX12_products_23 : decode cX12_products 23 = .ok (.invokevirtual 291, 3) := by decide +kernel
theorem dX12_products_26 : decode cX12_products 26 = .ok (.goto (-21), 3) := by decide +kernel
theorem dX12_products_29 : decode cX12_products 29 = .ok (.return_, 1) := by decide +kernel
set_option maxRecDepth 20000 in
theorem gX12_sums_X12_products : GoodIn wsX12_sums (wsV RX12 319 RX12 yX12_products wsX12_products) := goodIn_r _ [2, 3, 4, 5, 29, 30, 31, 32, 5, 33, 34, 35, 36, 1, 6, 7, 8, 9, 10, 11, 12, 13, 14, 15, 16, 17, 18, 19, 20, 21, 22, 23, 24, 25, 26, 27, 28, 0, 2, 3, 4, 37, 38, 39, 40, 41, 42, 43, 44, 45, 46, 47, 48, 49, 50, 51, 52, 53, 54, 55, 56, 57, 58, 59, 60, 61, 62, 63, 64, 65, 66, 67, 68, 69, 70, 71, 72, 73, 74, 75, 76, 77, 78, 79, 80, 81, 82, 83, 84, 85, 86, 87, 88, 89, 90, 91, 92, 93, 94, 95, 96, 97, 98, 99, 100] rfl (by decide +kernel)
set_option maxRecDepth 20000 in
theorem gX12_sums_X12_isSign : GoodIn wsX12_sums (wsV RX12 201 RX12 yX12_isSign wsX12_isSign) := goodIn_r _ [6, 7, 8, 5, 9, 10, 11, 1, 12, 62, 63, 64, 65, 66, 67, 68, 69, 70, 71, 72, 73, 74, 75, 76, 77, 78, 79, 80, 81, 82, 83, 84, 85, 86, 87, 88, 89, 90, 91, 92, 93, 94, 95, 96, 97, 98, 99, 100] rfl (by decide +kernel)
set_option maxRecDepth 20000 in
theorem gX12_sums_X12_emit : GoodIn wsX12_sums (wsV RX12 291 RX12 yX12_emit wsX12_emit) := goodIn_r _ [13, 14, 15, 5, 16, 17, 18, 19, 62, 63, 64, 65, 66, 67, 68, 69, 70, 71, 72, 73, 74, 75, 76, 77, 78, 79, 80, 81, 82, 83, 84, 85, 86, 87, 88, 89, 90, 91, 92, 93, 94, 95, 96, 97, 98, 99, 100] rfl (by decide +kernel)
theorem dX12_sums_0 : decode cX12_sums 0 = .ok (.aload_n 0, 1) := by decide +kernel
theorem dX12_sums_1 : decode cX12_sums 1 = .ok (.iload_n 1, 1) := by decide +kernel
theorem dX12_sums_2 : decode cX12_sums 2 = .ok (.invokevirtual 319, 3) := by decide +kernel
theorem dX12_sums_5 : decode cX12_sums 5 = .ok (.aload_n 0, 1) := by decide +kernel
theorem dX12_sums_6 : decode cX12_sums 6 = .ok (.bipush 43, 2) := by decide +kernel
theorem dX12_sums_8 : decode cX12_sums 8 = .ok (.invokevirtual 201, 3) := by decide +kernel
theorem dX12_sums_11 : decode cX12_sums 11 = .ok (.ifCond .ne 12, 3) := by decide +kernel
theorem dX12_sums_14 : decode cX12_sums 14 = .ok (.aload_n 0, 1) := by decide +kernel
theorem dX12_sums_15 : decode cX12_sums 15 = .ok (.bipush 45, 2) := by decide +kernel
theorem dX12_sums_17 : decode cX12_sums 17 = .ok (.invokevirtual 201, 3) := by decide +kernel
theorem dX12_sums_20 : decode cX12_sums 20 = .ok (.ifCond .eq 42, 3) := by decide +kernel
theorem dX12_sums_23 : decode cX12_sums 23 = .ok (.aload_n 0, 1) := by decide +kernel
theorem dX12_sums_24 : decode cX12_sums 24 = .ok (.bipush 43, 2) := by decide +kernel
theorem dX12_sums_26 : decode cX12_sums 26 = .ok (.invokevirtual 201, 3) := by decide +kernel
theorem dX12_sums_29 : decode cX12_sums 29 = .ok (.istore_n 2, 1) := by decide +kernel
theorem dX12_sums_30 : decode cX12_sums 30 = .ok (.aload_n 0, 1) := by decide +kernel
theorem dX12_sums_31 : decode cX12_sums 31 = .ok (.dup, 1) := by decide +kernel
theorem dX12_sums_32 : decode cX12_sums 32 = .ok (.getfield 195, 3) := by decide +kernel
theorem dX12_sums_35 : decode cX12_sums 35 = .ok (.iconst 1, 1) := by decide +kernel
theorem dX12_sums_36 : decode cX12_sums 36 = .ok (.iadd, 1) := by decide +kernel
theorem dX12_sums_37 : decode cX12_sums 37 = .ok (.putfield 195, 3) := by decide +kernel
theorem dX12_sums_40 : decode cX12_sums 40 = .ok (.aload_n 0, 1) := by decide +kernel
theorem dX12_sums_41 : decode cX12_sums 41 = .ok (.iload_n 1, 1) := by decide +kernel
theorem dX12_sums_42 : decode cX12_sums 42 = .ok (.invokevirtual 319, 3) := by decide +kernel
theorem dX12_sums_45 : decode cX12_sums 45 = .ok (.aload_n 0, 1) := by decide +kernel
theorem dX12_sums_46 : decode cX12_sums 46 = .ok (.iload_n 2, 1) := by decide +kernel
theorem dX12_sums_47 : decode cX12_sums 47 = .ok (.ifCond .eq 7, 3) := by decide +kernel
theorem dX12_sums_50 : decode cX12_sums 50 = .ok (.iconst 4, 1) := by decide +kernel
theorem dX12_sums_51 : decode cX12_sums 51 = .ok (.goto 4, 3) := by decide +kernel
theorem dX12_sums_54 : decode cX12_sums 54 = .ok (.iconst 5, 1) := by decide +kernel
theorem dX12_sums_55 : decode cX12_sums 55 = .ok (.iconst 0, 1) := by decide +kernel
theorem dX12_sums_56 : decode cX12_sums 56 = .ok (.invokevirtual 291, 3) := by decide +kernel
theorem dX12_sums_59 : decode cX12_sums 59 = .ok (.goto (-54), 3) := by decide +kernel
theorem dX12_sums_62 : decode cX12_sums 62 = .ok (.return_, 1) := by decide +kernel
set_option maxRecDepth 20000 in
theorem gX12_test_X12_sums : GoodIn wsX12_test (wsV RX12 316 RX12 yX12_sums wsX12_sums) := goodIn_r _ [1, 2, 3, 4, 37, 11, 38, 39, 40, 4, 5, 6, 7, 8, 9, 10, 12, 17, 18, 19, 20, 21, 22, 23, 24, 25, 26, 27, 28, 29, 30, 31, 32, 33, 34, 35, 36, 13, 14, 15, 16, 41, 42, 43, 44, 45, 46, 47, 48, 49, 50, 51, 52, 53, 54, 55, 56, 57, 58, 59, 60, 61, 0, 1, 2, 3, 62, 63, 64, 65, 66, 67, 68, 69, 70, 71, 72, 73, 74, 75, 76, 77, 78, 79, 80, 81, 82, 83, 84, 85, 86, 87, 88, 89, 90, 91, 92, 93, 94, 95, 96, 97, 98, 99, 100] rfl (by decide +kernel)
set_option maxRecDepth 20000 in
theorem gX12_test_X12_isSign : GoodIn wsX12_test (wsV RX12 201 RX12 yX12_isSign wsX12_isSign) := goodIn_r _ [5, 6, 7, 4, 8, 9, 10, 11, 12, 62, 63, 64, 65, 66, 67, 68, 69, 70, 71, 72, 73, 74, 75, 76, 77, 78, 79, 80, 81, 82, 83, 84, 85, 86, 87, 88, 89, 90, 91, 92, 93, 94, 95, 96, 97, 98, 99, 100] rfl (by decide +kernel)
set_option maxRecDepth 20000 in
theorem gX12_test_X12_hasSign : GoodIn wsX12_test (wsV RX12 307 RX12 yX12_hasSign wsX12_hasSign) := goodIn_r _ [13, 14, 15, 4, 16, 11, 5, 6, 7, 4, 8, 9, 10, 12, 62, 63, 64, 65, 66, 67, 68, 69, 70, 71, 72, 73, 74, 75, 76, 77, 78, 79, 80, 81, 82, 83, 84, 85, 86, 87, 88, 89, 90, 91, 92, 93, 94, 95, 96, 97, 98, 99, 100] rfl (by decide +kernel)
set_option maxRecDepth 20000 in
theorem gX12_test_X12_emit : GoodIn wsX12_test (wsV RX12 291 RX12 yX12_emit wsX12_emit) := goodIn_r _ [17, 18, 19, 4, 20, 21, 22, 23, 62, 63, 64, 65, 66, 67, 68, 69, 70, 71, 72, 73, 74, 75, 76, 77, 78, 79, 80, 81, 82, 83, 84, 85, 86, 87, 88, 89, 90, 91, 92, 93, 94, 95, 96, 97, 98, 99, 100] rfl (by decide +kernel)
theorem dX12_test_0 : decode cX12_test 0 = .ok (.aload_n 0, 1) := by decide +kernel
theorem dX12_test_1 : decode cX12_test 1 = .ok (.iload_n 1, 1) := by decide +kernel
theorem dX12_test_2 : decode cX12_test 2 = .ok (.invokevirtual 316, 3) := by decide +kernel
theorem dX12_test_5 : decode cX12_test 5 = .ok (.aload_n 0, 1) := by decide +kernel
theorem dX12_test_6 : decode cX12_test 6 = .ok (.bipush 60, 2) := by decide +kernel
theorem dX12_test_8 : decode cX12_test 8 = .ok (.invokevirtual 201, 3) := by decide +kernel
theorem dX12_test_11 : decode cX12_test 11 = .ok (.istore_n 2, 1) := by decide +kernel
theorem dX12_test_12 : decode cX12_test 12 = .ok (.aload_n 0, 1) := by decide +kernel
theorem dX12_test_13 : decode cX12_test 13 = .ok (.bipush 60, 2) := by decide +kernel
theorem dX12_test_15 : decode cX12_test 15 = .ok (.invokevirtual 307, 3) := by decide +kernel
theorem dX12_test_18 : decode cX12_test 18 = .ok (.ifCond .ne 12, 3) := by decide +kernel
theorem dX12_test_21 : decode cX12_test 21 = .ok (.aload_n 0, 1) := by decide +kernel
theorem dX12_test_22 : decode cX12_test 22 = .ok (.bipush 61, 2) := by decide +kernel
theorem dX12_test_24 : decode cX12_test 24 = .ok (.invokevirtual 307, 3) := by decide +kernel
theorem dX12_test_27 : decode cX12_test 27 = .ok (.ifCond .eq 24, 3) := by decide +kernel
theorem dX12_test_30 : decode cX12_test 30 = .ok (.aload_n 0, 1) := by decide +kernel
theorem dX12_test_31 : decode cX12_test 31 = .ok (.iload_n 1, 1) := by decide +kernel
theorem dX12_test_32 : decode cX12_test 32 = .ok (.invokevirtual 316, 3) := by decide +kernel
theorem dX12_test_35 : decode cX12_test 35 = .ok (.aload_n 0, 1) := by decide +kernel
theorem dX12_test_36 : decode cX12_test 36 = .ok (.iload_n 2, 1) := by decide +kernel
theorem dX12_test_37 : decode cX12_test 37 = .ok (.ifCond .eq 8, 3) := by decide +kernel
theorem dX12_test_40 : decode cX12_test 40 = .ok (.bipush 7, 2) := by decide +kernel
theorem dX12_test_42 : decode cX12_test 42 = .ok (.goto 5, 3) := by decide +kernel
theorem dX12_test_45 : decode cX12_test 45 = .ok (.bipush 8, 2) := by decide +kernel
theorem dX12_test_47 : decode cX12_test 47 = .ok (.iconst 0, 1) := by decide +kernel
theorem dX12_test_48 : decode cX12_test 48 = .ok (.invokevirtual 291, 3) := by decide +kernel
theorem dX12_test_51 : decode cX12_test 51 = .ok (.return_, 1) := by decide +kernel
set_option maxRecDepth 20000 in
theorem gX12_all_X12_test : GoodIn wsX12_all (wsV RX12 313 RX12 yX12_test wsX12_test) := goodIn_r _ [2, 3, 4, 5, 58, 59, 60, 61, 5, 29, 30, 31, 32, 10, 11, 1, 12, 25, 26, 27, 28, 14, 15, 16, 17, 18, 19, 20, 0, 2, 3, 4, 6, 7, 8, 9, 13, 21, 22, 23, 24, 33, 34, 35, 36, 37, 38, 39, 40, 41, 42, 43, 44, 45, 46, 47, 48, 49, 50, 51, 52, 53, 54, 55, 56, 57, 62, 63, 64, 65, 66, 67, 68, 69, 70, 71, 72, 73, 74, 75, 76, 77, 78, 79, 80, 81, 82, 83, 84, 85, 86, 87, 88, 89, 90, 91, 92, 93, 94, 95, 96, 97, 98, 99, 100] rfl (by decide +kernel)
set_option maxRecDepth 20000 in
theorem gX12_all_X12_isWord : GoodIn wsX12_all (wsV RX12 207 RX12 yX12_isWord wsX12_isWord) := goodIn_r _ [6, 7, 8, 5, 9, 10, 11, 1, 12, 13, 62, 63, 64, 65, 66, 67, 68, 69, 70, 71, 72, 73, 74, 75, 76, 77, 78, 79, 80, 81, 82, 83, 84, 85, 86, 87, 88, 89, 90, 91, 92, 93, 94, 95, 96, 97, 98, 99, 100] rfl (by decide +kernel)
set_option maxRecDepth 20000 in
theorem gX12_all_X12_emit : GoodIn wsX12_all (wsV RX12 291 RX12 yX12_emit wsX12_emit) := goodIn_r _ [14, 15, 16, 5, 17, 18, 19, 20, 62, 63, 64, 65, 66, 67, 68, 69, 70, 71, 72, 73, 74, 75, 76, 77, 78, 79, 80, 81, 82, 83, 84, 85, 86, 87, 88, 89, 90, 91, 92, 93, 94, 95, 96, 97, 98, 99, 100] rfl (by decide +kernel)
theorem dX12_all_0 : decode cX12_all 0 = .ok (.aload_n 0, 1) := by decide +kernel
theorem dX12_all_1 : decode cX12_all 1 = .ok (.iload_n 1, 1) := by decide +kernel
theorem dX12_all_2 : decode cX12_all 2 = .ok (.invokevirtual 313, 3) := by decide +kernel
theorem dX12_all_5 : decode cX12_all 5 = .ok (.aload_n 0, 1) := by decide +kernel
theorem dX12_all_6 : decode cX12_all 6 = .ok (.bipush 27, 2) := by decide +kernel
theorem dX12_all_8 : decode cX12_all 8 = .ok (.invokevirtual 207, 3) := by decide +kernel
theorem dX12_all_11 : decode cX12_all 11 = .ok (.ifCond .ne 12, 3) := by decide +kernel
theorem dX12_all_14 : decode cX12_all 14 = .ok (.aload_n 0, 1) := by decide +kernel
theorem dX12_all_15 : decode cX12_all 15 = .ok (.bipush 28, 2) := by decide +kernel
theorem dX12_all_17 : decode cX12_all 17 = .ok (.invokevirtual 207, 3) := by decide +kernel
theorem dX12_all_20 : decode cX12_all 20 = .ok (.ifCond .eq 44, 3) := by decide +kernel
theorem dX12_all_23 : decode cX12_all 23 = .ok (.aload_n 0, 1) := by decide +kernel
theorem dX12_all_24 : decode cX12_all 24 = .ok (.bipush 27, 2) := by decide +kernel
theorem dX12_all_26 : decode cX12_all 26 = .ok (.invokevirtual 207, 3) := by decide +kernel
theorem dX12_all_29 : decode cX12_all 29 = .ok (.istore_n 2, 1) := by decide +kernel
theorem dX12_all_30 : decode cX12_all 30 = .ok (.aload_n 0, 1) := by decide +kernel
theorem dX12_all_31 : decode cX12_all 31 = .ok (.dup, 1) := by decide +kernel
theorem dX12_all_32 : decode cX12_all 32 = .ok (.getfield 195, 3) := by decide +kernel
theorem dX12_all_35 : decode cX12_all 35 = .ok (.iconst 1, 1) := by decide +kernel
theorem dX12_all_36 : decode cX12_all 36 = .ok (.iadd, 1) := by decide +kernel
theorem dX12_all_37 : decode cX12_all 37 = .ok (.putfield 195, 3) := by decide +kernel
theorem dX12_all_40 : decode cX12_all 40 = .ok (.aload_n 0, 1) := by decide +kernel
theorem dX12_all_41 : decode cX12_all 41 = .ok (.iload_n 1, 1) := by decide +kernel
theorem dX12_all_42 : decode cX12_all 42 = .ok (.invokevirtual 313, 3) := by decide +kernel
theorem dX12_all_45 : decode cX12_all 45 = .ok (.aload_n 0, 1) := by decide +kernel
theorem dX12_all_46 : decode cX12_all 46 = .ok (.iload_n 2, 1) := by decide +kernel
theorem dX12_all_47 : decode cX12_all 47 = .ok (.ifCond .eq 8, 3) := by decide +kernel
theorem dX12_all_50 : decode cX12_all 50 = .ok (.bipush 9, 2) := by decide +kernel
theorem dX12_all_52 : decode cX12_all 52 = .ok (.goto 5, 3) := by decide +kernel
theorem dX12_all_55 : decode cX12_all 55 = .ok (.bipush 10, 2) := by decide +kernel
theorem dX12_all_57 : decode cX12_all 57 = .ok (.iconst 0, 1) := by decide +kernel
theorem dX12_all_58 : decode cX12_all 58 = .ok (.invokevirtual 291, 3) := by decide +kernel
theorem dX12_all_61 : decode cX12_all 61 = .ok (.goto (-56), 3) := by decide +kernel
theorem dX12_all_64 : decode cX12_all 64 = .ok (.return_, 1) := by decide +kernel
set_option maxRecDepth 20000 in
theorem gX12_takePart_X12_wordHere : GoodIn wsX12_takePart (wsV RX12 220 RX12 yX12_wordHere wsX12_wordHere) := goodIn_r _ [5, 6, 7, 8, 9, 10, 11, 12, 8, 13, 1, 2, 3, 4, 14, 62, 63, 64, 65, 66, 67, 68, 69, 70, 71, 72, 73, 74, 75, 76, 77, 78, 79, 80, 81, 82, 83, 84, 85, 86, 87, 88, 89, 90, 91, 92, 93, 94, 95, 96, 97, 98, 99, 100] rfl (by decide +kernel)
set_option maxRecDepth 20000 in
theorem gX12_takePart_X12_isSign : GoodIn wsX12_takePart (wsV RX12 201 RX12 yX12_isSign wsX12_isSign) := goodIn_r _ [15, 16, 17, 8, 18, 1, 2, 3, 4, 62, 63, 64, 65, 66, 67, 68, 69, 70, 71, 72, 73, 74, 75, 76, 77, 78, 79, 80, 81, 82, 83, 84, 85, 86, 87, 88, 89, 90, 91, 92, 93, 94, 95, 96, 97, 98, 99, 100] rfl (by decide +kernel)
set_option maxRecDepth 20000 in
theorem gX12_takePart_X12_isWord : GoodIn wsX12_takePart (wsV RX12 207 RX12 yX12_isWord wsX12_isWord) := goodIn_r _ [10, 11, 12, 8, 13, 1, 2, 3, 4, 14, 62, 63, 64, 65, 66, 67, 68, 69, 70, 71, 72, 73, 74, 75, 76, 77, 78, 79, 80, 81, 82, 83, 84, 85, 86, 87, 88, 89, 90, 91, 92, 93, 94, 95, 96, 97, 98, 99, 100] rfl (by decide +kernel)
set_option maxRecDepth 20000 in
theorem gX12_takePart_X12_wrong : GoodIn wsX12_takePart (wsV RX12 204 RX12 yX12_wrong wsX12_wrong) := goodIn_r _ [19, 20, 21, 8, 22, 1, 23, 3, 62, 63, 64, 65, 66, 67, 68, 69, 70, 71, 72, 73, 74, 75, 76, 77, 78, 79, 80, 81, 82, 83, 84, 85, 86, 87, 88, 89, 90, 91, 92, 93, 94, 95, 96, 97, 98, 99, 100] rfl (by decide +kernel)
set_option maxRecDepth 20000 in
theorem gX12_takePart_X12_hasWord : GoodIn wsX12_takePart (wsV RX12 210 RX12 yX12_hasWord wsX12_hasWord) := goodIn_r _ [24, 25, 26, 8, 27, 3, 10, 11, 12, 8, 13, 1, 2, 4, 14, 62, 63, 64, 65, 66, 67, 68, 69, 70, 71, 72, 73, 74, 75, 76, 77, 78, 79, 80, 81, 82, 83, 84, 85, 86, 87, 88, 89, 90, 91, 92, 93, 94, 95, 96, 97, 98, 99, 100] rfl (by decide +kernel)
set_option maxRecDepth 20000 in
theorem gX12_takePart_X12_takePart : GoodIn wsX12_takePart (wsV RX12 322 RX12 yX12_takePart wsX12_takePart) := goodIn_r _ [28, 29, 30, 8, 0, 1, 2, 3, 4, 5, 6, 7, 8, 9, 10, 11, 12, 13, 14, 15, 16, 17, 18, 19, 20, 21, 22, 23, 24, 25, 26, 27, 28, 29, 30, 31, 32, 33, 34, 35, 36, 37, 38, 39, 40, 41, 42, 43, 44, 45, 46, 47, 48, 49, 50, 51, 52, 53, 54, 55, 56, 57, 58, 59, 60, 61, 62, 63, 64, 65, 66, 67, 68, 69, 70, 71, 72, 73, 74, 75, 76, 77, 78, 79, 80, 81, 82, 83, 84, 85, 86, 87, 88, 89, 90, 91, 92, 93, 94, 95, 96, 97, 98, 99, 100] rfl (by decide +kernel)
set_option maxRecDepth 20000 in
theorem gX12_takePart_X12_emit : GoodIn wsX12_takePart (wsV RX12 291 RX12 yX12_emit wsX12_emit) := goodIn_r _ [31, 32, 33, 8, 34, 35, 36, 37, 62, 63, 64, 65, 66, 67, 68, 69, 70, 71, 72, 73, 74, 75, 76, 77, 78, 79, 80, 81, 82, 83, 84, 85, 86, 87, 88, 89, 90, 91, 92, 93, 94, 95, 96, 97, 98, 99, 100] rfl (by decide +kernel)
set_option maxRecDepth 20000 in
theorem gX12_takePart_X12_hasSign : GoodIn wsX12_takePart (wsV RX12 307 RX12 yX12_hasSign wsX12_hasSign) := goodIn_r _ [38, 39, 40, 8, 41, 3, 15, 16, 17, 8, 18, 1, 2, 4, 62, 63, 64, 65, 66, 67, 68, 69, 70, 71, 72, 73, 74, 75, 76, 77, 78, 79, 80, 81, 82, 83, 84, 85, 86, 87, 88, 89, 90, 91, 92, 93, 94, 95, 96, 97, 98, 99, 100] rfl (by decide +kernel)
set_option maxRecDepth 20000 in
theorem gX12_takePart_X12_all : GoodIn wsX12_takePart (wsV RX12 298 RX12 yX12_all wsX12_all) := goodIn_r _ [42, 43, 44, 8, 49, 3, 50, 51, 52, 8, 10, 11, 12, 13, 1, 2, 4, 14, 31, 32, 33, 34, 35, 36, 37, 53, 28, 29, 30, 38, 39, 40, 41, 15, 16, 17, 18, 54, 55, 56, 57, 0, 5, 6, 7, 9, 19, 20, 21, 22, 23, 24, 25, 26, 27, 42, 43, 44, 45, 46, 47, 48, 58, 59, 60, 61, 62, 63, 64, 65, 66, 67, 68, 69, 70, 71, 72, 73, 74, 75, 76, 77, 78, 79, 80, 81, 82, 83, 84, 85, 86, 87, 88, 89, 90, 91, 92, 93, 94, 95, 96, 97, 98, 99, 100] rfl (by decide +kernel)
set_option maxRecDepth 20000 in
theorem gX12_takePart_X12_takeSign : GoodIn wsX12_takePart (wsV RX12 257 RX12 yX12_takeSign wsX12_takeSign) := goodIn_r _ [45, 46, 47, 8, 48, 3, 15, 16, 17, 8, 18, 1, 2, 4, 19, 20, 21, 22, 23, 62, 63, 64, 65, 66, 67, 68, 69, 70, 71, 72, 73, 74, 75, 76, 77, 78, 79, 80, 81, 82, 83, 84, 85, 86, 87, 88, 89, 90, 91, 92, 93, 94, 95, 96, 97, 98, 99, 100] rfl (by decide +kernel)
theorem dX12_takePart_0 : decode cX12_takePart 0 = .ok (.aload_n 0, 1) := by decide +kernel
theorem dX12_takePart_1 : decode cX12_takePart 1 = .ok (.getfield 198, 3) := by decide +kernel
theorem dX12_takePart_4 : decode cX12_takePart 4 = .ok (.ifCond .le 4, 3) := by decide +kernel
theorem dX12_takePart_7 : decode cX12_takePart 7 = .ok (.return_, 1) := by decide +kernel
theorem dX12_takePart_8 : decode cX12_takePart 8 = .ok (.aload_n 0, 1) := by decide +kernel
theorem dX12_takePart_9 : decode cX12_takePart 9 = .ok (.getfield 24, 3) := by decide +kernel
theorem dX12_takePart_12 : decode cX12_takePart 12 = .ok (.aload_n 0, 1) := by decide +kernel
theorem dX12_takePart_13 : decode cX12_takePart 13 = .ok (.getfield 195, 3) := by decide +kernel
theorem dX12_takePart_16 : decode cX12_takePart 16 = .ok (.iaload, 1) := by decide +kernel
theorem dX12_takePart_17 : decode cX12_takePart 17 = .ok (.iconst 2, 1) := by decide +kernel
theorem dX12_takePart_18 : decode cX12_takePart 18 = .ok (.if_icmp .ne 7, 3) := by decide +kernel
theorem dX12_takePart_21 : decode cX12_takePart 21 = .ok (.iconst 1, 1) := by decide +kernel
theorem dX12_takePart_22 : decode cX12_takePart 22 = .ok (.goto 4, 3) := by decide +kernel
theorem dX12_takePart_25 : decode cX12_takePart 25 = .ok (.iconst 0, 1) := by decide +kernel
theorem dX12_takePart_26 : decode cX12_takePart 26 = .ok (.istore_n 2, 1) := by decide +kernel
theorem dX12_takePart_27 : decode cX12_takePart 27 = .ok (.aload_n 0, 1) := by decide +kernel
theorem dX12_takePart_28 : decode cX12_takePart 28 = .ok (.bipush 29, 2) := by decide +kernel
theorem dX12_takePart_30 : decode cX12_takePart 30 = .ok (.iconst 3, 1) := by decide +kernel
theorem dX12_takePart_31 : decode cX12_takePart 31 = .ok (.invokevirtual 220, 3) := by decide +kernel
theorem dX12_takePart_34 : decode cX12_takePart 34 = .ok (.istore_n 3, 1) := by decide +kernel
theorem dX12_takePart_35 : decode cX12_takePart 35 = .ok (.iload_n 3, 1) := by decide +kernel
theorem dX12_takePart_36 : decode cX12_takePart 36 = .ok (.ifCond .ge 33, 3) := by decide +kernel
theorem dX12_takePart_39 : decode cX12_takePart 39 = .ok (.iload_n 2, 1) := by decide +kernel
theorem dX12_takePart_40 : decode cX12_takePart 40 = .ok (.ifCond .ne 29, 3) := by decide +kernel
theorem dX12_takePart_43 : decode cX12_takePart 43 = .ok (.aload_n 0, 1) := by decide +kernel
theorem dX12_takePart_44 : decode cX12_takePart 44 = .ok (.bipush 40, 2) := by decide +kernel
theorem dX12_takePart_46 : decode cX12_takePart 46 = .ok (.invokevirtual 201, 3) := by decide +kernel
theorem dX12_takePart_49 : decode cX12_takePart 49 = .ok (.ifCond .ne 20, 3) := by decide +kernel
theorem dX12_takePart_52 : decode cX12_takePart 52 = .ok (.aload_n 0, 1) := by decide +kernel
theorem dX12_takePart_53 : decode cX12_takePart 53 = .ok (.bipush 26, 2) := by decide +kernel
theorem dX12_takePart_55 : decode cX12_takePart 55 = .ok (.invokevirtual 207, 3) := by decide +kernel
theorem dX12_takePart_58 : decode cX12_takePart 58 = .ok (.ifCond .ne 11, 3) := by decide +kernel
theorem dX12_takePart_61 : decode cX12_takePart 61 = .ok (.aload_n 0, 1) := by decide +kernel
theorem dX12_takePart_62 : decode cX12_takePart 62 = .ok (.iconst 1, 1) := by decide +kernel
theorem dX12_takePart_63 : decode cX12_takePart 63 = .ok (.invokevirtual 204, 3) := by decide +kernel
theorem dX12_takePart_66 : decode cX12_takePart 66 = .ok (.goto 13, 3) := by decide +kernel
theorem dX12_takePart_69 : decode cX12_takePart 69 = .ok (.iload_n 1, 1) := by decide +kernel
theorem dX12_takePart_70 : decode cX12_takePart 70 = .ok (.iconst 5, 1) := by decide +kernel
theorem dX12_takePart_71 : decode cX12_takePart 71 = .ok (.if_icmp .ne 8, 3) := by decide +kernel
theorem dX12_takePart_74 : decode cX12_takePart 74 = .ok (.aload_n 0, 1) := by decide +kernel
theorem dX12_takePart_75 : decode cX12_takePart 75 = .ok (.iconst 5, 1) := by decide +kernel
theorem dX12_takePart_76 : decode cX12_takePart 76 = .ok (.invokevirtual 204, 3) := by decide +kernel
theorem dX12_takePart_79 : decode cX12_takePart 79 = .ok (.aload_n 0, 1) := by decide +kernel
theorem dX12_takePart_80 : decode cX12_takePart 80 = .ok (.getfield 198, 3) := by decide +kernel
theorem dX12_takePart_83 : decode cX12_takePart 83 = .ok (.ifCond .le 4, 3) := by decide +kernel
theorem dX12_takePart_86 : decode cX12_takePart 86 = .ok (.return_, 1) := by decide +kernel
theorem dX12_takePart_87 : decode cX12_takePart 87 = .ok (.aload_n 0, 1) := by decide +kernel
theorem dX12_takePart_88 : decode cX12_takePart 88 = .ok (.bipush 26, 2) := by decide +kernel
theorem dX12_takePart_90 : decode cX12_takePart 90 = .ok (.invokevirtual 210, 3) := by decide +kernel
theorem dX12_takePart_93 : decode cX12_takePart 93 = .ok (.ifCond .eq 19, 3) := by decide +kernel
theorem dX12_takePart_96 : decode cX12_takePart 96 = .ok (.aload_n 0, 1) := by decide +kernel
theorem dX12_takePart_97 : decode cX12_takePart 97 = .ok (.iload_n 1, 1) := by decide +kernel
theorem dX12_takePart_98 : decode cX12_takePart 98 = .ok (.iconst 1, 1) := by decide +kernel
theorem dX12_takePart_99 : decode cX12_takePart 99 = .ok (.iadd, 1) := by decide +kernel
theorem dX12_takePart_100 : decode cX12_takePart 100 = .ok (.invokevirtual 322, 3) := by decide +kernel
theorem dX12_takePart_103 : decode cX12_takePart 103 = .ok (.aload_n 0, 1) := by decide +kernel
theorem dX12_takePart_104 : decode cX12_takePart 104 = .ok (.iconst 3, 1) := by decide +kernel
theorem dX12_takePart_105 : decode cX12_takePart 105 = .ok (.iconst 0, 1) := by decide +kernel
theorem dX12_takePart_106 : decode cX12_takePart 106 = .ok (.invokevirtual 291, 3) := by decide +kernel
theorem dX12_takePart_109 : decode cX12_takePart 109 = .ok (.goto 69, 3) := by decide +kernel
theorem dX12_takePart_112 : decode cX12_takePart 112 = .ok (.aload_n 0, 1) := by decide +kernel
theorem dX12_takePart_113 : decode cX12_takePart 113 = .ok (.bipush 40, 2) := by decide +kernel
theorem dX12_takePart_115 : decode cX12_takePart 115 = .ok (.invokevirtual 307, 3) := by decide +kernel
theorem dX12_takePart_118 : decode cX12_takePart 118 = .ok (.ifCond .eq 19, 3) := by decide +kernel
theorem dX12_takePart_121 : decode cX12_takePart 121 = .ok (.aload_n 0, 1) := by decide +kernel
theorem dX12_takePart_122 : decode cX12_takePart 122 = .ok (.iload_n 1, 1) := by decide +kernel
theorem dX12_takePart_123 : decode cX12_takePart 123 = .ok (.iconst 1, 1) := by decide +kernel
theorem dX12_takePart_124 : decode cX12_takePart 124 = .ok (.iadd, 1) := by decide +kernel
theorem dX12_takePart_125 : decode cX12_takePart 125 = .ok (.invokevirtual 298, 3) := by decide +kernel
theorem dX12_takePart_128 : decode cX12_takePart 128 = .ok (.aload_n 0, 1) := by decide +kernel
theorem dX12_takePart_129 : decode cX12_takePart 129 = .ok (.bipush 41, 2) := by decide +kernel
theorem dX12_takePart_131 : decode cX12_takePart 131 = .ok (.invokevirtual 257, 3) := by decide +kernel
theorem dX12_takePart_134 : decode cX12_takePart 134 = .ok (.goto 44, 3) := by decide +kernel
theorem dX12_takePart_137 : decode cX12_takePart 137 = .ok (.aload_n 0, 1) := by decide +kernel
theorem dX12_takePart_138 : decode cX12_takePart 138 = .ok (.iload_n 2, 1) := by decide +kernel
theorem dX12_takePart_139 : decode cX12_takePart 139 = .ok (.ifCond .eq 7, 3) := by decide +kernel
theorem dX12_takePart_142 : decode cX12_takePart 142 = .ok (.iconst 1, 1) := by decide +kernel
theorem dX12_takePart_143 : decode cX12_takePart 143 = .ok (.goto 4, 3) := by decide +kernel
theorem dX12_takePart_146 : decode cX12_takePart 146 = .ok (.iconst 2, 1) := by decide +kernel
theorem dX12_takePart_147 : decode cX12_takePart 147 = .ok (.iload_n 2, 1) := by decide +kernel
theorem dX12_takePart_148 : decode cX12_takePart 148 = .ok (.ifCond .eq 16, 3) := by decide +kernel
theorem dX12_takePart_151 : decode cX12_takePart 151 = .ok (.aload_n 0, 1) := by decide +kernel
theorem dX12_takePart_152 : decode cX12_takePart 152 = .ok (.getfield 30, 3) := by decide +kernel
theorem dX12_takePart_155 : decode cX12_takePart 155 = .ok (.aload_n 0, 1) := by decide +kernel
theorem dX12_takePart_156 : decode cX12_takePart 156 = .ok (.getfield 195, 3) := by decide +kernel
theorem dX12_takePart_159 : decode cX12_takePart 159 = .ok (.laload, 1) := by decide +kernel
theorem dX12_takePart_160 : decode cX12_takePart 160 = .ok (.l2i, 1) := by decide +kernel
theorem dX12_takePart_161 : decode cX12_takePart 161 = .ok (.goto 4, 3) := by decide +kernel
theorem dX12_takePart_164 : decode cX12_takePart 164 = .ok (.iload_n 3, 1) := by decide +kernel
theorem dX12_takePart_165 : decode cX12_takePart 165 = .ok (.invokevirtual 291, 3) := by decide +kernel
theorem dX12_takePart_168 : decode cX12_takePart 168 = .ok (.aload_n 0, 1) := by decide +kernel
theorem dX12_takePart_169 : decode cX12_takePart 169 = .ok (.dup, 1) := by decide +kernel
theorem dX12_takePart_170 : decode cX12_takePart 170 = .ok (.getfield 195, 3) := by decide +kernel
theorem dX12_takePart_173 : decode cX12_takePart 173 = .ok (.iconst 1, 1) := by decide +kernel
theorem dX12_takePart_174 : decode cX12_takePart 174 = .ok (.iadd, 1) := by decide +kernel
theorem dX12_takePart_175 : decode cX12_takePart 175 = .ok (.putfield 195, 3) := by decide +kernel
theorem dX12_takePart_178 : decode cX12_takePart 178 = .ok (.return_, 1) := by decide +kernel





section
variable {p : Program} {l : Launch} {e : Env} {s : State} {m : MethodId} {args : Array Value} {below : List Frame} {meth : Method} {c : Code} {D : va_G} {cy : Nat → ClassId} {ad : Nat → Nat} {A : Nat → Prop} {aM aB aO aI aN aT aC aG aR aQ aK aL aX aH aJ aP aU aE0 aE1 aE2 aE3 : Nat → Nat} {gi : Value}
abbrev rm12_products (dp : Nat) : Room := { frames := 3 + 5 * dp, cells := 0, slots := 0, locals := 68 + 110 * dp }
theorem hdV12_products : yX12_products.cls = RX12 ∧ (yX12_products.cls ≠ "java/lang/invoke/MethodHandle" ∧ yX12_products.cls ≠ "java/lang/invoke/VarHandle" ∧ (parseMethodDescriptor yX12_products.desc).map (fun d => d.parameters.length) = some 1) := by decide +kernel
abbrev rm12_sums (dp : Nat) : Room := { frames := 4 + 5 * dp, cells := 0, slots := 0, locals := 89 + 110 * dp }
theorem hdV12_sums : yX12_sums.cls = RX12 ∧ (yX12_sums.cls ≠ "java/lang/invoke/MethodHandle" ∧ yX12_sums.cls ≠ "java/lang/invoke/VarHandle" ∧ (parseMethodDescriptor yX12_sums.desc).map (fun d => d.parameters.length) = some 1) := by decide +kernel
abbrev rm12_test (dp : Nat) : Room := { frames := 5 + 5 * dp, cells := 0, slots := 0, locals := 111 + 110 * dp }
theorem hdV12_test : yX12_test.cls = RX12 ∧ (yX12_test.cls ≠ "java/lang/invoke/MethodHandle" ∧ yX12_test.cls ≠ "java/lang/invoke/VarHandle" ∧ (parseMethodDescriptor yX12_test.desc).map (fun d => d.parameters.length) = some 1) := by decide +kernel
abbrev rm12_all (dp : Nat) : Room := { frames := 6 + 5 * dp, cells := 0, slots := 0, locals := 133 + 110 * dp }
theorem hdV12_all : yX12_all.cls = RX12 ∧ (yX12_all.cls ≠ "java/lang/invoke/MethodHandle" ∧ yX12_all.cls ≠ "java/lang/invoke/VarHandle" ∧ (parseMethodDescriptor yX12_all.desc).map (fun d => d.parameters.length) = some 1) := by decide +kernel
abbrev rm12_takePart (dp : Nat) : Room := { frames := 2 + 5 * dp, cells := 0, slots := 0, locals := 45 + 110 * dp }
theorem hdV12_takePart : yX12_takePart.cls = RX12 ∧ (yX12_takePart.cls ≠ "java/lang/invoke/MethodHandle" ∧ yX12_takePart.cls ≠ "java/lang/invoke/VarHandle" ∧ (parseMethodDescriptor yX12_takePart.desc).map (fun d => d.parameters.length) = some 1) := by decide +kernel
set_option maxRecDepth 100000 in
set_option maxHeartbeats 4000000 in
theorem t12_products_5 (rec : Int32 → Ob → Option (Ob)) (hC : Cx p s m args meth c cX12_products 2 wsX12_products RX12 none) (dp : Nat) (hrec : ∀ {x1 : Int32} {SM : Ob} {res : Ob}, rec x1 SM = some res → GCv l yX12_takePart wsX12_takePart (rm12_takePart dp) [.ref (aM 0), .int x1] D cy ad (w12 cy aM SM) (w12 cy aM res)) : ∀ n : Nat, ∀ (x1 : Int32) (SM : Ob) (res : Ob) (H : Heap) (locs : List Loc) (ls : Array Slot), f12_products_5 rec n x1 SM = some res → GW D cy ad (w12 cy aM SM) A s H locs → lv_has ls 2 [(0, .ref (aM 0)), (1, .int x1)] → W p l e (rm12_products dp) s m args below meth c H locs 0 0 (MQ below (QV D cy (w12 cy aM res) A) args s 0 0 A) (F0 m 5 ls []) := by
  intro n
  induction n with
  | zero =>
    intro _ _ _ _ _ _ hf _ _
    exact nomatch (show (none : Option (Ob)) = some _ from hf)
  | succ n ih =>
    intro x1 SM res H locs ls hf hW hl
    rw [f12_products_5] at hf
    refine lv_aload_n hC.1 hC.2.1 dX12_products_5 rfl (lv_at hl 0 rfl) ?_
    refine lv_bipush (v := 42) hC.1 hC.2.1 dX12_products_6 (by decide) ?_
    obtain ⟨r_1, hg_2, hf⟩ := bd_of hf
    refine g_calliV hC hW (c12_hasSign l D cy ad aM hg_2) (cwV 1 hC.2.2.2.2.1 gX12_products_X12_hasSign rfl rfl rfl hdV12_hasSign ⟨by simp only [rm12_hasSign, rm12_products]; omega, by simp only [rm12_hasSign, rm12_products]; omega⟩) (Sub.all _ _) 0 11 rfl rfl rfl rfl hl.1 rfl (Nat.le_of_ble_eq_true rfl) dX12_products_8 ⟨Nat.zero_le _, Nat.zero_le _⟩ (fun H locs hW => ?_)
    refine lv_if_eq (tgt := 29) hC.1 hC.2.1 dX12_products_11 (by decide) (fun hc_3 => ?_) (fun hc_3 => ?_)
    · have hf := ite_t hf hc_3
      obtain rfl := Option.some.inj hf
      exact g_vret hC hW dX12_products_29
    · have hf := ite_f hf hc_3
      refine lv_aload_n hC.1 hC.2.1 dX12_products_14 rfl (lv_at hl 0 rfl) ?_
      refine lv_iload_n hC.1 hC.2.1 dX12_products_15 rfl (lv_at hl 1 rfl) ?_
      obtain ⟨r_4, hg_5, hf⟩ := bd_of hf
      refine g_callvV hC hW (hrec hg_5) (cwV 1 hC.2.2.2.2.1 gX12_products_X12_takePart rfl rfl rfl hdV12_takePart ⟨by simp only [rm12_products, rm12_takePart]; omega, by simp only [rm12_products, rm12_takePart]; omega⟩) (Sub.all _ _) 0 11 rfl rfl rfl rfl hl.1 rfl (Nat.le_of_ble_eq_true rfl) dX12_products_16 ⟨Nat.zero_le _, Nat.zero_le _⟩ (fun H locs hW => ?_)
      refine lv_aload_n hC.1 hC.2.1 dX12_products_19 rfl (lv_at hl 0 rfl) ?_
      refine lv_bipush (v := 6) hC.1 hC.2.1 dX12_products_20 (by decide) ?_
      refine lv_iconst (v := 0) hC.1 hC.2.1 dX12_products_22 (by decide) ?_
      obtain ⟨r_6, hg_7, hf⟩ := bd_of hf
      refine g_callvV hC hW (c12_emit l D cy ad aM hg_7) (cwV 2 hC.2.2.2.2.1 gX12_products_X12_emit rfl rfl rfl hdV12_emit ⟨by simp only [rm12_emit, rm12_products]; omega, by simp only [rm12_emit, rm12_products]; omega⟩) (Sub.all _ _) 0 11 rfl rfl rfl rfl hl.1 rfl (Nat.le_of_ble_eq_true rfl) dX12_products_23 ⟨Nat.zero_le _, Nat.zero_le _⟩ (fun H locs hW => ?_)
      refine lv_goto (tgt := 5) hC.1 hC.2.1 dX12_products_26 (by decide) ?_
      exact ih _ _ _ _ _ _ hf hW (lv_sub hl [0, 1] rfl)
set_option maxRecDepth 100000 in
set_option maxHeartbeats 4000000 in
theorem t12_products_0 (rec : Int32 → Ob → Option (Ob)) (hC : Cx p s m args meth c cX12_products 2 wsX12_products RX12 none) (dp : Nat) (hrec : ∀ {x1 : Int32} {SM : Ob} {res : Ob}, rec x1 SM = some res → GCv l yX12_takePart wsX12_takePart (rm12_takePart dp) [.ref (aM 0), .int x1] D cy ad (w12 cy aM SM) (w12 cy aM res)) : ∀ (x1 : Int32) (SM : Ob) (res : Ob) (H : Heap) (locs : List Loc) (ls : Array Slot), f12_products rec x1 SM = some res → GW D cy ad (w12 cy aM SM) A s H locs → lv_has ls 2 [(0, .ref (aM 0)), (1, .int x1)] → W p l e (rm12_products dp) s m args below meth c H locs 0 0 (MQ below (QV D cy (w12 cy aM res) A) args s 0 0 A) (F0 m 0 ls []) := by
  intro x1 SM res H locs ls hf hW hl
  unfold f12_products at hf
  refine lv_aload_n hC.1 hC.2.1 dX12_products_0 rfl (lv_at hl 0 rfl) ?_
  refine lv_iload_n hC.1 hC.2.1 dX12_products_1 rfl (lv_at hl 1 rfl) ?_
  obtain ⟨r_1, hg_2, hf⟩ := bd_of hf
  refine g_callvV hC hW (hrec hg_2) (cwV 1 hC.2.2.2.2.1 gX12_products_X12_takePart rfl rfl rfl hdV12_takePart ⟨by simp only [rm12_products, rm12_takePart]; omega, by simp only [rm12_products, rm12_takePart]; omega⟩) (Sub.all _ _) 0 11 rfl rfl rfl rfl hl.1 rfl (Nat.le_of_ble_eq_true rfl) dX12_products_2 ⟨Nat.zero_le _, Nat.zero_le _⟩ (fun H locs hW => ?_)
  exact t12_products_5 rec hC dp hrec _ _ _ _ _ _ _ hf hW (lv_sub hl [0, 1] rfl)
set_option maxRecDepth 100000 in
set_option maxHeartbeats 4000000 in
theorem c12_products (l : Launch) (D : va_G) (cy : Nat → ClassId) (ad : Nat → Nat) (aM : Nat → Nat) (rec : Int32 → Ob → Option (Ob)) (dp : Nat) (hrec : ∀ {x1 : Int32} {SM : Ob} {res : Ob}, rec x1 SM = some res → GCv l yX12_takePart wsX12_takePart (rm12_takePart dp) [.ref (aM 0), .int x1] D cy ad (w12 cy aM SM) (w12 cy aM res)) : ∀ {x1 : Int32} {SM : Ob} {res : Ob}, f12_products rec x1 SM = some res → GCv l yX12_products wsX12_products (rm12_products dp) [.ref (aM 0), .int x1] D cy ad (w12 cy aM SM) (w12 cy aM res) := fun {x1} {SM} {res} h sz => GC.start (own := RX12) (Qc := fun A => QV D cy (w12 cy aM res) A) sz (by decide) rfl rfl (Nat.le_of_ble_eq_true rfl) (fun p e s m below meth c A ls hC hW hl => t12_products_0 rec hC dp hrec _ _ _ _ _ _ h hW (lv_sub hl [0, 1] rfl))
theorem hin12_sums_12 : ∀ x ∈ u_ws RX12 TX12 39, x ∈ wsX12_sums := fun _ h => List.mem_cons_of_mem _ (List.mem_append_right _ h)
set_option maxRecDepth 100000 in
set_option maxHeartbeats 4000000 in
theorem t12_sums_55 (rec : Int32 → Ob → Option (Ob)) (hC : Cx p s m args meth c cX12_sums 3 wsX12_sums RX12 none) (dp : Nat) (hrec : ∀ {x1 : Int32} {SM : Ob} {res : Ob}, rec x1 SM = some res → GCv l yX12_takePart wsX12_takePart (rm12_takePart dp) [.ref (aM 0), .int x1] D cy ad (w12 cy aM SM) (w12 cy aM res)) {k5 : Int32 → Ob → Option (Ob)} (hk5 : ∀ (x1 : Int32) (SM : Ob) (res : Ob) (H : Heap) (locs : List Loc) (ls : Array Slot), k5 x1 SM = some res → GW D cy ad (w12 cy aM SM) A s H locs → lv_has ls 3 [(0, .ref (aM 0)), (1, .int x1)] → W p l e (rm12_sums dp) s m args below meth c H locs 0 0 (MQ below (QV D cy (w12 cy aM res) A) args s 0 0 A) (F0 m 5 ls [])) : ∀ (x1 : Int32) (z1 : Int32) (SM : Ob) (res : Ob) (H : Heap) (locs : List Loc) (ls : Array Slot), f12_sums_55 rec k5 x1 z1 SM = some res → GW D cy ad (w12 cy aM SM) A s H locs → lv_has ls 3 [(0, .ref (aM 0)), (1, .int x1)] → W p l e (rm12_sums dp) s m args below meth c H locs 0 0 (MQ below (QV D cy (w12 cy aM res) A) args s 0 0 A) (F0 m 55 ls [.int z1, .ref (aM 0)]) := by
  intro x1 z1 SM res H locs ls hf hW hl
  unfold f12_sums_55 at hf
  refine lv_iconst (v := 0) hC.1 hC.2.1 dX12_sums_55 (by decide) ?_
  obtain ⟨r_1, hg_2, hf⟩ := bd_of hf
  refine g_callvV hC hW (c12_emit l D cy ad aM hg_2) (cwV 2 hC.2.2.2.2.1 gX12_sums_X12_emit rfl rfl rfl hdV12_emit ⟨by simp only [rm12_emit, rm12_sums]; omega, by simp only [rm12_emit, rm12_sums]; omega⟩) (Sub.all _ _) 0 11 rfl rfl rfl rfl hl.1 rfl (Nat.le_of_ble_eq_true rfl) dX12_sums_56 ⟨Nat.zero_le _, Nat.zero_le _⟩ (fun H locs hW => ?_)
  refine lv_goto (tgt := 5) hC.1 hC.2.1 dX12_sums_59 (by decide) ?_
  exact hk5 _ _ _ _ _ _ hf hW (lv_sub hl [0, 1] rfl)
set_option maxRecDepth 100000 in
set_option maxHeartbeats 4000000 in
theorem t12_sums_23 (rec : Int32 → Ob → Option (Ob)) (hC : Cx p s m args meth c cX12_sums 3 wsX12_sums RX12 none) (dp : Nat) (hrec : ∀ {x1 : Int32} {SM : Ob} {res : Ob}, rec x1 SM = some res → GCv l yX12_takePart wsX12_takePart (rm12_takePart dp) [.ref (aM 0), .int x1] D cy ad (w12 cy aM SM) (w12 cy aM res)) {k5 : Int32 → Ob → Option (Ob)} (hk5 : ∀ (x1 : Int32) (SM : Ob) (res : Ob) (H : Heap) (locs : List Loc) (ls : Array Slot), k5 x1 SM = some res → GW D cy ad (w12 cy aM SM) A s H locs → lv_has ls 3 [(0, .ref (aM 0)), (1, .int x1)] → W p l e (rm12_sums dp) s m args below meth c H locs 0 0 (MQ below (QV D cy (w12 cy aM res) A) args s 0 0 A) (F0 m 5 ls [])) : ∀ (x1 : Int32) (SM : Ob) (res : Ob) (H : Heap) (locs : List Loc) (ls : Array Slot), f12_sums_23 rec k5 x1 SM = some res → GW D cy ad (w12 cy aM SM) A s H locs → lv_has ls 3 [(0, .ref (aM 0)), (1, .int x1)] → W p l e (rm12_sums dp) s m args below meth c H locs 0 0 (MQ below (QV D cy (w12 cy aM res) A) args s 0 0 A) (F0 m 23 ls []) := by
  intro x1 SM res H locs ls hf hW hl
  unfold f12_sums_23 at hf
  refine lv_aload_n hC.1 hC.2.1 dX12_sums_23 rfl (lv_at hl 0 rfl) ?_
  refine lv_bipush (v := 43) hC.1 hC.2.1 dX12_sums_24 (by decide) ?_
  obtain ⟨r_1, hg_2, hf⟩ := bd_of hf
  refine g_calliV hC hW (c12_isSign l D cy ad aM hg_2) (cwV 1 hC.2.2.2.2.1 gX12_sums_X12_isSign rfl rfl rfl hdV12_isSign ⟨by simp only [rm12_isSign, rm12_sums]; omega, by simp only [rm12_isSign, rm12_sums]; omega⟩) (Sub.all _ _) 0 11 rfl rfl rfl rfl hl.1 rfl (Nat.le_of_ble_eq_true rfl) dX12_sums_26 ⟨Nat.zero_le _, Nat.zero_le _⟩ (fun H locs hW => ?_)
  refine lv_istore_n (lv' := [(2, .int r_1), (0, .ref (aM 0)), (1, .int x1)]) hC.1 hC.2.1 dX12_sums_29 rfl hl (by decide) rfl (fun ls hl => ?_)
  refine lv_aload_n hC.1 hC.2.1 dX12_sums_30 rfl (lv_at hl 1 rfl) ?_
  refine lv_dup hC.1 hC.2.1 dX12_sums_31 rfl ?_
  refine g_get hC hW hin12_sums_12 0 rfl rfl 7 (by decide) 1 rfl rfl dX12_sums_32 ?_
  refine lv_iconst (v := 1) hC.1 hC.2.1 dX12_sums_35 (by decide) ?_
  refine lv_iadd hC.1 hC.2.1 dX12_sums_36 ?_
  obtain ⟨SM_3, eSM_3⟩ : ∃ y : Ob, y = oI SM 7 ((SM.1 7) + 1) := ⟨_, rfl⟩
  have hf := lt_nm hf eSM_3
  refine g_put hC hW hin12_sums_12 tyX12 tyX12_ok nmX12 0 rfl rfl 7 (by decide) 1 rfl rfl rfl rfl (Nat.le_of_ble_eq_true rfl) (w' := w12 cy aM SM_3) (by rw [eSM_3]; rfl) dX12_sums_37 (fun H locs hW => ?_)
  refine lv_aload_n hC.1 hC.2.1 dX12_sums_40 rfl (lv_at hl 1 rfl) ?_
  refine lv_iload_n hC.1 hC.2.1 dX12_sums_41 rfl (lv_at hl 2 rfl) ?_
  obtain ⟨r_4, hg_5, hf⟩ := bd_of hf
  refine g_callvV hC hW (c12_products l D cy ad aM rec dp hrec hg_5) (cwV 1 hC.2.2.2.2.1 gX12_sums_X12_products rfl rfl rfl hdV12_products ⟨by simp only [rm12_products, rm12_sums]; omega, by simp only [rm12_products, rm12_sums]; omega⟩) (Sub.all _ _) 0 11 rfl rfl rfl rfl hl.1 rfl (Nat.le_of_ble_eq_true rfl) dX12_sums_42 ⟨Nat.zero_le _, Nat.zero_le _⟩ (fun H locs hW => ?_)
  refine lv_aload_n hC.1 hC.2.1 dX12_sums_45 rfl (lv_at hl 1 rfl) ?_
  refine lv_iload_n hC.1 hC.2.1 dX12_sums_46 rfl (lv_at hl 0 rfl) ?_
  refine lv_if_eq (tgt := 54) hC.1 hC.2.1 dX12_sums_47 (by decide) (fun hc_6 => ?_) (fun hc_6 => ?_)
  · have hf := ite_t hf hc_6
    refine lv_iconst (v := 5) hC.1 hC.2.1 dX12_sums_54 (by decide) ?_
    exact t12_sums_55 rec hC dp hrec hk5  _ _ _ _ _ _ _ hf hW (lv_sub hl [1, 2] rfl)
  · have hf := ite_f hf hc_6
    refine lv_iconst (v := 4) hC.1 hC.2.1 dX12_sums_50 (by decide) ?_
    refine lv_goto (tgt := 55) hC.1 hC.2.1 dX12_sums_51 (by decide) ?_
    exact t12_sums_55 rec hC dp hrec hk5  _ _ _ _ _ _ _ hf hW (lv_sub hl [1, 2] rfl)
set_option maxRecDepth 100000 in
set_option maxHeartbeats 4000000 in
theorem t12_sums_5 (rec : Int32 → Ob → Option (Ob)) (hC : Cx p s m args meth c cX12_sums 3 wsX12_sums RX12 none) (dp : Nat) (hrec : ∀ {x1 : Int32} {SM : Ob} {res : Ob}, rec x1 SM = some res → GCv l yX12_takePart wsX12_takePart (rm12_takePart dp) [.ref (aM 0), .int x1] D cy ad (w12 cy aM SM) (w12 cy aM res)) : ∀ n : Nat, ∀ (x1 : Int32) (SM : Ob) (res : Ob) (H : Heap) (locs : List Loc) (ls : Array Slot), f12_sums_5 rec n x1 SM = some res → GW D cy ad (w12 cy aM SM) A s H locs → lv_has ls 3 [(0, .ref (aM 0)), (1, .int x1)] → W p l e (rm12_sums dp) s m args below meth c H locs 0 0 (MQ below (QV D cy (w12 cy aM res) A) args s 0 0 A) (F0 m 5 ls []) := by
  intro n
  induction n with
  | zero =>
    intro _ _ _ _ _ _ hf _ _
    exact nomatch (show (none : Option (Ob)) = some _ from hf)
  | succ n ih =>
    intro x1 SM res H locs ls hf hW hl
    rw [f12_sums_5] at hf
    refine lv_aload_n hC.1 hC.2.1 dX12_sums_5 rfl (lv_at hl 0 rfl) ?_
    refine lv_bipush (v := 43) hC.1 hC.2.1 dX12_sums_6 (by decide) ?_
    obtain ⟨r_1, hg_2, hf⟩ := bd_of hf
    refine g_calliV hC hW (c12_isSign l D cy ad aM hg_2) (cwV 1 hC.2.2.2.2.1 gX12_sums_X12_isSign rfl rfl rfl hdV12_isSign ⟨by simp only [rm12_isSign, rm12_sums]; omega, by simp only [rm12_isSign, rm12_sums]; omega⟩) (Sub.all _ _) 0 11 rfl rfl rfl rfl hl.1 rfl (Nat.le_of_ble_eq_true rfl) dX12_sums_8 ⟨Nat.zero_le _, Nat.zero_le _⟩ (fun H locs hW => ?_)
    refine lv_if_ne (tgt := 23) hC.1 hC.2.1 dX12_sums_11 (by decide) (fun hc_3 => ?_) (fun hc_3 => ?_)
    · have hf := ite_f hf hc_3
      exact t12_sums_23 rec hC dp hrec ih  _ _ _ _ _ _ hf hW (lv_sub hl [0, 1] rfl)
    · have hf := ite_t hf hc_3
      refine lv_aload_n hC.1 hC.2.1 dX12_sums_14 rfl (lv_at hl 0 rfl) ?_
      refine lv_bipush (v := 45) hC.1 hC.2.1 dX12_sums_15 (by decide) ?_
      obtain ⟨r_4, hg_5, hf⟩ := bd_of hf
      refine g_calliV hC hW (c12_isSign l D cy ad aM hg_5) (cwV 1 hC.2.2.2.2.1 gX12_sums_X12_isSign rfl rfl rfl hdV12_isSign ⟨by simp only [rm12_isSign, rm12_sums]; omega, by simp only [rm12_isSign, rm12_sums]; omega⟩) (Sub.all _ _) 0 11 rfl rfl rfl rfl hl.1 rfl (Nat.le_of_ble_eq_true rfl) dX12_sums_17 ⟨Nat.zero_le _, Nat.zero_le _⟩ (fun H locs hW => ?_)
      refine lv_if_eq (tgt := 62) hC.1 hC.2.1 dX12_sums_20 (by decide) (fun hc_6 => ?_) (fun hc_6 => ?_)
      · have hf := ite_t hf hc_6
        obtain rfl := Option.some.inj hf
        exact g_vret hC hW dX12_sums_62
      · have hf := ite_f hf hc_6
        exact t12_sums_23 rec hC dp hrec ih  _ _ _ _ _ _ hf hW (lv_sub hl [0, 1] rfl)
set_option maxRecDepth 100000 in
set_option maxHeartbeats 4000000 in
theorem t12_sums_0 (rec : Int32 → Ob → Option (Ob)) (hC : Cx p s m args meth c cX12_sums 3 wsX12_sums RX12 none) (dp : Nat) (hrec : ∀ {x1 : Int32} {SM : Ob} {res : Ob}, rec x1 SM = some res → GCv l yX12_takePart wsX12_takePart (rm12_takePart dp) [.ref (aM 0), .int x1] D cy ad (w12 cy aM SM) (w12 cy aM res)) : ∀ (x1 : Int32) (SM : Ob) (res : Ob) (H : Heap) (locs : List Loc) (ls : Array Slot), f12_sums rec x1 SM = some res → GW D cy ad (w12 cy aM SM) A s H locs → lv_has ls 3 [(0, .ref (aM 0)), (1, .int x1)] → W p l e (rm12_sums dp) s m args below meth c H locs 0 0 (MQ below (QV D cy (w12 cy aM res) A) args s 0 0 A) (F0 m 0 ls []) := by
  intro x1 SM res H locs ls hf hW hl
  unfold f12_sums at hf
  refine lv_aload_n hC.1 hC.2.1 dX12_sums_0 rfl (lv_at hl 0 rfl) ?_
  refine lv_iload_n hC.1 hC.2.1 dX12_sums_1 rfl (lv_at hl 1 rfl) ?_
  obtain ⟨r_1, hg_2, hf⟩ := bd_of hf
  refine g_callvV hC hW (c12_products l D cy ad aM rec dp hrec hg_2) (cwV 1 hC.2.2.2.2.1 gX12_sums_X12_products rfl rfl rfl hdV12_products ⟨by simp only [rm12_products, rm12_sums]; omega, by simp only [rm12_products, rm12_sums]; omega⟩) (Sub.all _ _) 0 11 rfl rfl rfl rfl hl.1 rfl (Nat.le_of_ble_eq_true rfl) dX12_sums_2 ⟨Nat.zero_le _, Nat.zero_le _⟩ (fun H locs hW => ?_)
  exact t12_sums_5 rec hC dp hrec _ _ _ _ _ _ _ hf hW (lv_sub hl [0, 1] rfl)
set_option maxRecDepth 100000 in
set_option maxHeartbeats 4000000 in
theorem c12_sums (l : Launch) (D : va_G) (cy : Nat → ClassId) (ad : Nat → Nat) (aM : Nat → Nat) (rec : Int32 → Ob → Option (Ob)) (dp : Nat) (hrec : ∀ {x1 : Int32} {SM : Ob} {res : Ob}, rec x1 SM = some res → GCv l yX12_takePart wsX12_takePart (rm12_takePart dp) [.ref (aM 0), .int x1] D cy ad (w12 cy aM SM) (w12 cy aM res)) : ∀ {x1 : Int32} {SM : Ob} {res : Ob}, f12_sums rec x1 SM = some res → GCv l yX12_sums wsX12_sums (rm12_sums dp) [.ref (aM 0), .int x1] D cy ad (w12 cy aM SM) (w12 cy aM res) := fun {x1} {SM} {res} h sz => GC.start (own := RX12) (Qc := fun A => QV D cy (w12 cy aM res) A) sz (by decide) rfl rfl (Nat.le_of_ble_eq_true rfl) (fun p e s m below meth c A ls hC hW hl => t12_sums_0 rec hC dp hrec _ _ _ _ _ _ h hW (lv_sub hl [0, 1] rfl))
set_option maxRecDepth 100000 in
set_option maxHeartbeats 4000000 in
theorem t12_test_51 (rec : Int32 → Ob → Option (Ob)) (hC : Cx p s m args meth c cX12_test 3 wsX12_test RX12 none) (dp : Nat) (hrec : ∀ {x1 : Int32} {SM : Ob} {res : Ob}, rec x1 SM = some res → GCv l yX12_takePart wsX12_takePart (rm12_takePart dp) [.ref (aM 0), .int x1] D cy ad (w12 cy aM SM) (w12 cy aM res)) : ∀ (SM : Ob) (res : Ob) (H : Heap) (locs : List Loc) (ls : Array Slot), f12_test_51 rec SM = some res → GW D cy ad (w12 cy aM SM) A s H locs → lv_has ls 3 [] → W p l e (rm12_test dp) s m args below meth c H locs 0 0 (MQ below (QV D cy (w12 cy aM res) A) args s 0 0 A) (F0 m 51 ls []) := by
  intro SM res H locs ls hf hW hl
  unfold f12_test_51 at hf
  obtain rfl := Option.some.inj hf
  exact g_vret hC hW dX12_test_51
set_option maxRecDepth 100000 in
set_option maxHeartbeats 4000000 in
theorem t12_test_47 (rec : Int32 → Ob → Option (Ob)) (hC : Cx p s m args meth c cX12_test 3 wsX12_test RX12 none) (dp : Nat) (hrec : ∀ {x1 : Int32} {SM : Ob} {res : Ob}, rec x1 SM = some res → GCv l yX12_takePart wsX12_takePart (rm12_takePart dp) [.ref (aM 0), .int x1] D cy ad (w12 cy aM SM) (w12 cy aM res)) : ∀ (z1 : Int32) (SM : Ob) (res : Ob) (H : Heap) (locs : List Loc) (ls : Array Slot), f12_test_47 rec z1 SM = some res → GW D cy ad (w12 cy aM SM) A s H locs → lv_has ls 3 [] → W p l e (rm12_test dp) s m args below meth c H locs 0 0 (MQ below (QV D cy (w12 cy aM res) A) args s 0 0 A) (F0 m 47 ls [.int z1, .ref (aM 0)]) := by
  intro z1 SM res H locs ls hf hW hl
  unfold f12_test_47 at hf
  refine lv_iconst (v := 0) hC.1 hC.2.1 dX12_test_47 (by decide) ?_
  obtain ⟨r_1, hg_2, hf⟩ := bd_of hf
  refine g_callvV hC hW (c12_emit l D cy ad aM hg_2) (cwV 2 hC.2.2.2.2.1 gX12_test_X12_emit rfl rfl rfl hdV12_emit ⟨by simp only [rm12_emit, rm12_test]; omega, by simp only [rm12_emit, rm12_test]; omega⟩) (Sub.all _ _) 0 11 rfl rfl rfl rfl hl.1 rfl (Nat.le_of_ble_eq_true rfl) dX12_test_48 ⟨Nat.zero_le _, Nat.zero_le _⟩ (fun H locs hW => ?_)
  exact t12_test_51 rec hC dp hrec  _ _ _ _ _ hf hW (lv_sub hl [] rfl)
set_option maxRecDepth 100000 in
set_option maxHeartbeats 4000000 in
theorem t12_test_30 (rec : Int32 → Ob → Option (Ob)) (hC : Cx p s m args meth c cX12_test 3 wsX12_test RX12 none) (dp : Nat) (hrec : ∀ {x1 : Int32} {SM : Ob} {res : Ob}, rec x1 SM = some res → GCv l yX12_takePart wsX12_takePart (rm12_takePart dp) [.ref (aM 0), .int x1] D cy ad (w12 cy aM SM) (w12 cy aM res)) : ∀ (x1 : Int32) (x2 : Int32) (SM : Ob) (res : Ob) (H : Heap) (locs : List Loc) (ls : Array Slot), f12_test_30 rec x1 x2 SM = some res → GW D cy ad (w12 cy aM SM) A s H locs → lv_has ls 3 [(0, .ref (aM 0)), (1, .int x1), (2, .int x2)] → W p l e (rm12_test dp) s m args below meth c H locs 0 0 (MQ below (QV D cy (w12 cy aM res) A) args s 0 0 A) (F0 m 30 ls []) := by
  intro x1 x2 SM res H locs ls hf hW hl
  unfold f12_test_30 at hf
  refine lv_aload_n hC.1 hC.2.1 dX12_test_30 rfl (lv_at hl 0 rfl) ?_
  refine lv_iload_n hC.1 hC.2.1 dX12_test_31 rfl (lv_at hl 1 rfl) ?_
  obtain ⟨r_1, hg_2, hf⟩ := bd_of hf
  refine g_callvV hC hW (c12_sums l D cy ad aM rec dp hrec hg_2) (cwV 1 hC.2.2.2.2.1 gX12_test_X12_sums rfl rfl rfl hdV12_sums ⟨by simp only [rm12_sums, rm12_test]; omega, by simp only [rm12_sums, rm12_test]; omega⟩) (Sub.all _ _) 0 11 rfl rfl rfl rfl hl.1 rfl (Nat.le_of_ble_eq_true rfl) dX12_test_32 ⟨Nat.zero_le _, Nat.zero_le _⟩ (fun H locs hW => ?_)
  refine lv_aload_n hC.1 hC.2.1 dX12_test_35 rfl (lv_at hl 0 rfl) ?_
  refine lv_iload_n hC.1 hC.2.1 dX12_test_36 rfl (lv_at hl 2 rfl) ?_
  refine lv_if_eq (tgt := 45) hC.1 hC.2.1 dX12_test_37 (by decide) (fun hc_3 => ?_) (fun hc_3 => ?_)
  · have hf := ite_t hf hc_3
    refine lv_bipush (v := 8) hC.1 hC.2.1 dX12_test_45 (by decide) ?_
    exact t12_test_47 rec hC dp hrec  _ _ _ _ _ _ hf hW (lv_sub hl [] rfl)
  · have hf := ite_f hf hc_3
    refine lv_bipush (v := 7) hC.1 hC.2.1 dX12_test_40 (by decide) ?_
    refine lv_goto (tgt := 47) hC.1 hC.2.1 dX12_test_42 (by decide) ?_
    exact t12_test_47 rec hC dp hrec  _ _ _ _ _ _ hf hW (lv_sub hl [] rfl)
set_option maxRecDepth 100000 in
set_option maxHeartbeats 4000000 in
theorem t12_test_0 (rec : Int32 → Ob → Option (Ob)) (hC : Cx p s m args meth c cX12_test 3 wsX12_test RX12 none) (dp : Nat) (hrec : ∀ {x1 : Int32} {SM : Ob} {res : Ob}, rec x1 SM = some res → GCv l yX12_takePart wsX12_takePart (rm12_takePart dp) [.ref (aM 0), .int x1] D cy ad (w12 cy aM SM) (w12 cy aM res)) : ∀ (x1 : Int32) (SM : Ob) (res : Ob) (H : Heap) (locs : List Loc) (ls : Array Slot), f12_test rec x1 SM = some res → GW D cy ad (w12 cy aM SM) A s H locs → lv_has ls 3 [(0, .ref (aM 0)), (1, .int x1)] → W p l e (rm12_test dp) s m args below meth c H locs 0 0 (MQ below (QV D cy (w12 cy aM res) A) args s 0 0 A) (F0 m 0 ls []) := by
  intro x1 SM res H locs ls hf hW hl
  unfold f12_test at hf
  refine lv_aload_n hC.1 hC.2.1 dX12_test_0 rfl (lv_at hl 0 rfl) ?_
  refine lv_iload_n hC.1 hC.2.1 dX12_test_1 rfl (lv_at hl 1 rfl) ?_
  obtain ⟨r_1, hg_2, hf⟩ := bd_of hf
  refine g_callvV hC hW (c12_sums l D cy ad aM rec dp hrec hg_2) (cwV 1 hC.2.2.2.2.1 gX12_test_X12_sums rfl rfl rfl hdV12_sums ⟨by simp only [rm12_sums, rm12_test]; omega, by simp only [rm12_sums, rm12_test]; omega⟩) (Sub.all _ _) 0 11 rfl rfl rfl rfl hl.1 rfl (Nat.le_of_ble_eq_true rfl) dX12_test_2 ⟨Nat.zero_le _, Nat.zero_le _⟩ (fun H locs hW => ?_)
  refine lv_aload_n hC.1 hC.2.1 dX12_test_5 rfl (lv_at hl 0 rfl) ?_
  refine lv_bipush (v := 60) hC.1 hC.2.1 dX12_test_6 (by decide) ?_
  obtain ⟨r_3, hg_4, hf⟩ := bd_of hf
  refine g_calliV hC hW (c12_isSign l D cy ad aM hg_4) (cwV 1 hC.2.2.2.2.1 gX12_test_X12_isSign rfl rfl rfl hdV12_isSign ⟨by simp only [rm12_isSign, rm12_test]; omega, by simp only [rm12_isSign, rm12_test]; omega⟩) (Sub.all _ _) 0 11 rfl rfl rfl rfl hl.1 rfl (Nat.le_of_ble_eq_true rfl) dX12_test_8 ⟨Nat.zero_le _, Nat.zero_le _⟩ (fun H locs hW => ?_)
  refine lv_istore_n (lv' := [(2, .int r_3), (0, .ref (aM 0)), (1, .int x1)]) hC.1 hC.2.1 dX12_test_11 rfl hl (by decide) rfl (fun ls hl => ?_)
  refine lv_aload_n hC.1 hC.2.1 dX12_test_12 rfl (lv_at hl 1 rfl) ?_
  refine lv_bipush (v := 60) hC.1 hC.2.1 dX12_test_13 (by decide) ?_
  obtain ⟨r_5, hg_6, hf⟩ := bd_of hf
  refine g_calliV hC hW (c12_hasSign l D cy ad aM hg_6) (cwV 1 hC.2.2.2.2.1 gX12_test_X12_hasSign rfl rfl rfl hdV12_hasSign ⟨by simp only [rm12_hasSign, rm12_test]; omega, by simp only [rm12_hasSign, rm12_test]; omega⟩) (Sub.all _ _) 0 11 rfl rfl rfl rfl hl.1 rfl (Nat.le_of_ble_eq_true rfl) dX12_test_15 ⟨Nat.zero_le _, Nat.zero_le _⟩ (fun H locs hW => ?_)
  refine lv_if_ne (tgt := 30) hC.1 hC.2.1 dX12_test_18 (by decide) (fun hc_7 => ?_) (fun hc_7 => ?_)
  · have hf := ite_f hf hc_7
    exact t12_test_30 rec hC dp hrec  _ _ _ _ _ _ _ hf hW (lv_sub hl [1, 2, 0] rfl)
  · have hf := ite_t hf hc_7
    refine lv_aload_n hC.1 hC.2.1 dX12_test_21 rfl (lv_at hl 1 rfl) ?_
    refine lv_bipush (v := 61) hC.1 hC.2.1 dX12_test_22 (by decide) ?_
    obtain ⟨r_8, hg_9, hf⟩ := bd_of hf
    refine g_calliV hC hW (c12_hasSign l D cy ad aM hg_9) (cwV 1 hC.2.2.2.2.1 gX12_test_X12_hasSign rfl rfl rfl hdV12_hasSign ⟨by simp only [rm12_hasSign, rm12_test]; omega, by simp only [rm12_hasSign, rm12_test]; omega⟩) (Sub.all _ _) 0 11 rfl rfl rfl rfl hl.1 rfl (Nat.le_of_ble_eq_true rfl) dX12_test_24 ⟨Nat.zero_le _, Nat.zero_le _⟩ (fun H locs hW => ?_)
    refine lv_if_eq (tgt := 51) hC.1 hC.2.1 dX12_test_27 (by decide) (fun hc_10 => ?_) (fun hc_10 => ?_)
    · have hf := ite_t hf hc_10
      exact t12_test_51 rec hC dp hrec  _ _ _ _ _ hf hW (lv_sub hl [] rfl)
    · have hf := ite_f hf hc_10
      exact t12_test_30 rec hC dp hrec  _ _ _ _ _ _ _ hf hW (lv_sub hl [1, 2, 0] rfl)
set_option maxRecDepth 100000 in
set_option maxHeartbeats 4000000 in
theorem c12_test (l : Launch) (D : va_G) (cy : Nat → ClassId) (ad : Nat → Nat) (aM : Nat → Nat) (rec : Int32 → Ob → Option (Ob)) (dp : Nat) (hrec : ∀ {x1 : Int32} {SM : Ob} {res : Ob}, rec x1 SM = some res → GCv l yX12_takePart wsX12_takePart (rm12_takePart dp) [.ref (aM 0), .int x1] D cy ad (w12 cy aM SM) (w12 cy aM res)) : ∀ {x1 : Int32} {SM : Ob} {res : Ob}, f12_test rec x1 SM = some res → GCv l yX12_test wsX12_test (rm12_test dp) [.ref (aM 0), .int x1] D cy ad (w12 cy aM SM) (w12 cy aM res) := fun {x1} {SM} {res} h sz => GC.start (own := RX12) (Qc := fun A => QV D cy (w12 cy aM res) A) sz (by decide) rfl rfl (Nat.le_of_ble_eq_true rfl) (fun p e s m below meth c A ls hC hW hl => t12_test_0 rec hC dp hrec _ _ _ _ _ _ h hW (lv_sub hl [0, 1] rfl))
theorem hin12_all_12 : ∀ x ∈ u_ws RX12 TX12 39, x ∈ wsX12_all := fun _ h => List.mem_cons_of_mem _ (List.mem_append_right _ h)
set_option maxRecDepth 100000 in
set_option maxHeartbeats 4000000 in
theorem t12_all_57 (rec : Int32 → Ob → Option (Ob)) (hC : Cx p s m args meth c cX12_all 3 wsX12_all RX12 none) (dp : Nat) (hrec : ∀ {x1 : Int32} {SM : Ob} {res : Ob}, rec x1 SM = some res → GCv l yX12_takePart wsX12_takePart (rm12_takePart dp) [.ref (aM 0), .int x1] D cy ad (w12 cy aM SM) (w12 cy aM res)) {k5 : Int32 → Ob → Option (Ob)} (hk5 : ∀ (x1 : Int32) (SM : Ob) (res : Ob) (H : Heap) (locs : List Loc) (ls : Array Slot), k5 x1 SM = some res → GW D cy ad (w12 cy aM SM) A s H locs → lv_has ls 3 [(0, .ref (aM 0)), (1, .int x1)] → W p l e (rm12_all dp) s m args below meth c H locs 0 0 (MQ below (QV D cy (w12 cy aM res) A) args s 0 0 A) (F0 m 5 ls [])) : ∀ (x1 : Int32) (z1 : Int32) (SM : Ob) (res : Ob) (H : Heap) (locs : List Loc) (ls : Array Slot), f12_all_57 rec k5 x1 z1 SM = some res → GW D cy ad (w12 cy aM SM) A s H locs → lv_has ls 3 [(0, .ref (aM 0)), (1, .int x1)] → W p l e (rm12_all dp) s m args below meth c H locs 0 0 (MQ below (QV D cy (w12 cy aM res) A) args s 0 0 A) (F0 m 57 ls [.int z1, .ref (aM 0)]) := by
  intro x1 z1 SM res H locs ls hf hW hl
  unfold f12_all_57 at hf
  refine lv_iconst (v := 0) hC.1 hC.2.1 dX12_all_57 (by decide) ?_
  obtain ⟨r_1, hg_2, hf⟩ := bd_of hf
  refine g_callvV hC hW (c12_emit l D cy ad aM hg_2) (cwV 2 hC.2.2.2.2.1 gX12_all_X12_emit rfl rfl rfl hdV12_emit ⟨by simp only [rm12_all, rm12_emit]; omega, by simp only [rm12_all, rm12_emit]; omega⟩) (Sub.all _ _) 0 11 rfl rfl rfl rfl hl.1 rfl (Nat.le_of_ble_eq_true rfl) dX12_all_58 ⟨Nat.zero_le _, Nat.zero_le _⟩ (fun H locs hW => ?_)
  refine lv_goto (tgt := 5) hC.1 hC.2.1 dX12_all_61 (by decide) ?_
  exact hk5 _ _ _ _ _ _ hf hW (lv_sub hl [0, 1] rfl)
set_option maxRecDepth 100000 in
set_option maxHeartbeats 4000000 in
theorem t12_all_23 (rec : Int32 → Ob → Option (Ob)) (hC : Cx p s m args meth c cX12_all 3 wsX12_all RX12 none) (dp : Nat) (hrec : ∀ {x1 : Int32} {SM : Ob} {res : Ob}, rec x1 SM = some res → GCv l yX12_takePart wsX12_takePart (rm12_takePart dp) [.ref (aM 0), .int x1] D cy ad (w12 cy aM SM) (w12 cy aM res)) {k5 : Int32 → Ob → Option (Ob)} (hk5 : ∀ (x1 : Int32) (SM : Ob) (res : Ob) (H : Heap) (locs : List Loc) (ls : Array Slot), k5 x1 SM = some res → GW D cy ad (w12 cy aM SM) A s H locs → lv_has ls 3 [(0, .ref (aM 0)), (1, .int x1)] → W p l e (rm12_all dp) s m args below meth c H locs 0 0 (MQ below (QV D cy (w12 cy aM res) A) args s 0 0 A) (F0 m 5 ls [])) : ∀ (x1 : Int32) (SM : Ob) (res : Ob) (H : Heap) (locs : List Loc) (ls : Array Slot), f12_all_23 rec k5 x1 SM = some res → GW D cy ad (w12 cy aM SM) A s H locs → lv_has ls 3 [(0, .ref (aM 0)), (1, .int x1)] → W p l e (rm12_all dp) s m args below meth c H locs 0 0 (MQ below (QV D cy (w12 cy aM res) A) args s 0 0 A) (F0 m 23 ls []) := by
  intro x1 SM res H locs ls hf hW hl
  unfold f12_all_23 at hf
  refine lv_aload_n hC.1 hC.2.1 dX12_all_23 rfl (lv_at hl 0 rfl) ?_
  refine lv_bipush (v := 27) hC.1 hC.2.1 dX12_all_24 (by decide) ?_
  obtain ⟨r_1, hg_2, hf⟩ := bd_of hf
  refine g_calliV hC hW (c12_isWord l D cy ad aM hg_2) (cwV 1 hC.2.2.2.2.1 gX12_all_X12_isWord rfl rfl rfl hdV12_isWord ⟨by simp only [rm12_all, rm12_isWord]; omega, by simp only [rm12_all, rm12_isWord]; omega⟩) (Sub.all _ _) 0 11 rfl rfl rfl rfl hl.1 rfl (Nat.le_of_ble_eq_true rfl) dX12_all_26 ⟨Nat.zero_le _, Nat.zero_le _⟩ (fun H locs hW => ?_)
  refine lv_istore_n (lv' := [(2, .int r_1), (0, .ref (aM 0)), (1, .int x1)]) hC.1 hC.2.1 dX12_all_29 rfl hl (by decide) rfl (fun ls hl => ?_)
  refine lv_aload_n hC.1 hC.2.1 dX12_all_30 rfl (lv_at hl 1 rfl) ?_
  refine lv_dup hC.1 hC.2.1 dX12_all_31 rfl ?_
  refine g_get hC hW hin12_all_12 0 rfl rfl 7 (by decide) 1 rfl rfl dX12_all_32 ?_
  refine lv_iconst (v := 1) hC.1 hC.2.1 dX12_all_35 (by decide) ?_
  refine lv_iadd hC.1 hC.2.1 dX12_all_36 ?_
  obtain ⟨SM_3, eSM_3⟩ : ∃ y : Ob, y = oI SM 7 ((SM.1 7) + 1) := ⟨_, rfl⟩
  have hf := lt_nm hf eSM_3
  refine g_put hC hW hin12_all_12 tyX12 tyX12_ok nmX12 0 rfl rfl 7 (by decide) 1 rfl rfl rfl rfl (Nat.le_of_ble_eq_true rfl) (w' := w12 cy aM SM_3) (by rw [eSM_3]; rfl) dX12_all_37 (fun H locs hW => ?_)
  refine lv_aload_n hC.1 hC.2.1 dX12_all_40 rfl (lv_at hl 1 rfl) ?_
  refine lv_iload_n hC.1 hC.2.1 dX12_all_41 rfl (lv_at hl 2 rfl) ?_
  obtain ⟨r_4, hg_5, hf⟩ := bd_of hf
  refine g_callvV hC hW (c12_test l D cy ad aM rec dp hrec hg_5) (cwV 1 hC.2.2.2.2.1 gX12_all_X12_test rfl rfl rfl hdV12_test ⟨by simp only [rm12_all, rm12_test]; omega, by simp only [rm12_all, rm12_test]; omega⟩) (Sub.all _ _) 0 11 rfl rfl rfl rfl hl.1 rfl (Nat.le_of_ble_eq_true rfl) dX12_all_42 ⟨Nat.zero_le _, Nat.zero_le _⟩ (fun H locs hW => ?_)
  refine lv_aload_n hC.1 hC.2.1 dX12_all_45 rfl (lv_at hl 1 rfl) ?_
  refine lv_iload_n hC.1 hC.2.1 dX12_all_46 rfl (lv_at hl 0 rfl) ?_
  refine lv_if_eq (tgt := 55) hC.1 hC.2.1 dX12_all_47 (by decide) (fun hc_6 => ?_) (fun hc_6 => ?_)
  · have hf := ite_t hf hc_6
    refine lv_bipush (v := 10) hC.1 hC.2.1 dX12_all_55 (by decide) ?_
    exact t12_all_57 rec hC dp hrec hk5  _ _ _ _ _ _ _ hf hW (lv_sub hl [1, 2] rfl)
  · have hf := ite_f hf hc_6
    refine lv_bipush (v := 9) hC.1 hC.2.1 dX12_all_50 (by decide) ?_
    refine lv_goto (tgt := 57) hC.1 hC.2.1 dX12_all_52 (by decide) ?_
    exact t12_all_57 rec hC dp hrec hk5  _ _ _ _ _ _ _ hf hW (lv_sub hl [1, 2] rfl)
set_option maxRecDepth 100000 in
set_option maxHeartbeats 4000000 in
theorem t12_all_5 (rec : Int32 → Ob → Option (Ob)) (hC : Cx p s m args meth c cX12_all 3 wsX12_all RX12 none) (dp : Nat) (hrec : ∀ {x1 : Int32} {SM : Ob} {res : Ob}, rec x1 SM = some res → GCv l yX12_takePart wsX12_takePart (rm12_takePart dp) [.ref (aM 0), .int x1] D cy ad (w12 cy aM SM) (w12 cy aM res)) : ∀ n : Nat, ∀ (x1 : Int32) (SM : Ob) (res : Ob) (H : Heap) (locs : List Loc) (ls : Array Slot), f12_all_5 rec n x1 SM = some res → GW D cy ad (w12 cy aM SM) A s H locs → lv_has ls 3 [(0, .ref (aM 0)), (1, .int x1)] → W p l e (rm12_all dp) s m args below meth c H locs 0 0 (MQ below (QV D cy (w12 cy aM res) A) args s 0 0 A) (F0 m 5 ls []) := by
  intro n
  induction n with
  | zero =>
    intro _ _ _ _ _ _ hf _ _
    exact nomatch (show (none : Option (Ob)) = some _ from hf)
  | succ n ih =>
    intro x1 SM res H locs ls hf hW hl
    rw [f12_all_5] at hf
    refine lv_aload_n hC.1 hC.2.1 dX12_all_5 rfl (lv_at hl 0 rfl) ?_
    refine lv_bipush (v := 27) hC.1 hC.2.1 dX12_all_6 (by decide) ?_
    obtain ⟨r_1, hg_2, hf⟩ := bd_of hf
    refine g_calliV hC hW (c12_isWord l D cy ad aM hg_2) (cwV 1 hC.2.2.2.2.1 gX12_all_X12_isWord rfl rfl rfl hdV12_isWord ⟨by simp only [rm12_all, rm12_isWord]; omega, by simp only [rm12_all, rm12_isWord]; omega⟩) (Sub.all _ _) 0 11 rfl rfl rfl rfl hl.1 rfl (Nat.le_of_ble_eq_true rfl) dX12_all_8 ⟨Nat.zero_le _, Nat.zero_le _⟩ (fun H locs hW => ?_)
    refine lv_if_ne (tgt := 23) hC.1 hC.2.1 dX12_all_11 (by decide) (fun hc_3 => ?_) (fun hc_3 => ?_)
    · have hf := ite_f hf hc_3
      exact t12_all_23 rec hC dp hrec ih  _ _ _ _ _ _ hf hW (lv_sub hl [0, 1] rfl)
    · have hf := ite_t hf hc_3
      refine lv_aload_n hC.1 hC.2.1 dX12_all_14 rfl (lv_at hl 0 rfl) ?_
      refine lv_bipush (v := 28) hC.1 hC.2.1 dX12_all_15 (by decide) ?_
      obtain ⟨r_4, hg_5, hf⟩ := bd_of hf
      refine g_calliV hC hW (c12_isWord l D cy ad aM hg_5) (cwV 1 hC.2.2.2.2.1 gX12_all_X12_isWord rfl rfl rfl hdV12_isWord ⟨by simp only [rm12_all, rm12_isWord]; omega, by simp only [rm12_all, rm12_isWord]; omega⟩) (Sub.all _ _) 0 11 rfl rfl rfl rfl hl.1 rfl (Nat.le_of_ble_eq_true rfl) dX12_all_17 ⟨Nat.zero_le _, Nat.zero_le _⟩ (fun H locs hW => ?_)
      refine lv_if_eq (tgt := 64) hC.1 hC.2.1 dX12_all_20 (by decide) (fun hc_6 => ?_) (fun hc_6 => ?_)
      · have hf := ite_t hf hc_6
        obtain rfl := Option.some.inj hf
        exact g_vret hC hW dX12_all_64
      · have hf := ite_f hf hc_6
        exact t12_all_23 rec hC dp hrec ih  _ _ _ _ _ _ hf hW (lv_sub hl [0, 1] rfl)
set_option maxRecDepth 100000 in
set_option maxHeartbeats 4000000 in
theorem t12_all_0 (rec : Int32 → Ob → Option (Ob)) (hC : Cx p s m args meth c cX12_all 3 wsX12_all RX12 none) (dp : Nat) (hrec : ∀ {x1 : Int32} {SM : Ob} {res : Ob}, rec x1 SM = some res → GCv l yX12_takePart wsX12_takePart (rm12_takePart dp) [.ref (aM 0), .int x1] D cy ad (w12 cy aM SM) (w12 cy aM res)) : ∀ (x1 : Int32) (SM : Ob) (res : Ob) (H : Heap) (locs : List Loc) (ls : Array Slot), f12_all rec x1 SM = some res → GW D cy ad (w12 cy aM SM) A s H locs → lv_has ls 3 [(0, .ref (aM 0)), (1, .int x1)] → W p l e (rm12_all dp) s m args below meth c H locs 0 0 (MQ below (QV D cy (w12 cy aM res) A) args s 0 0 A) (F0 m 0 ls []) := by
  intro x1 SM res H locs ls hf hW hl
  unfold f12_all at hf
  refine lv_aload_n hC.1 hC.2.1 dX12_all_0 rfl (lv_at hl 0 rfl) ?_
  refine lv_iload_n hC.1 hC.2.1 dX12_all_1 rfl (lv_at hl 1 rfl) ?_
  obtain ⟨r_1, hg_2, hf⟩ := bd_of hf
  refine g_callvV hC hW (c12_test l D cy ad aM rec dp hrec hg_2) (cwV 1 hC.2.2.2.2.1 gX12_all_X12_test rfl rfl rfl hdV12_test ⟨by simp only [rm12_all, rm12_test]; omega, by simp only [rm12_all, rm12_test]; omega⟩) (Sub.all _ _) 0 11 rfl rfl rfl rfl hl.1 rfl (Nat.le_of_ble_eq_true rfl) dX12_all_2 ⟨Nat.zero_le _, Nat.zero_le _⟩ (fun H locs hW => ?_)
  exact t12_all_5 rec hC dp hrec _ _ _ _ _ _ _ hf hW (lv_sub hl [0, 1] rfl)
set_option maxRecDepth 100000 in
set_option maxHeartbeats 4000000 in
theorem c12_all (l : Launch) (D : va_G) (cy : Nat → ClassId) (ad : Nat → Nat) (aM : Nat → Nat) (rec : Int32 → Ob → Option (Ob)) (dp : Nat) (hrec : ∀ {x1 : Int32} {SM : Ob} {res : Ob}, rec x1 SM = some res → GCv l yX12_takePart wsX12_takePart (rm12_takePart dp) [.ref (aM 0), .int x1] D cy ad (w12 cy aM SM) (w12 cy aM res)) : ∀ {x1 : Int32} {SM : Ob} {res : Ob}, f12_all rec x1 SM = some res → GCv l yX12_all wsX12_all (rm12_all dp) [.ref (aM 0), .int x1] D cy ad (w12 cy aM SM) (w12 cy aM res) := fun {x1} {SM} {res} h sz => GC.start (own := RX12) (Qc := fun A => QV D cy (w12 cy aM res) A) sz (by decide) rfl rfl (Nat.le_of_ble_eq_true rfl) (fun p e s m below meth c A ls hC hW hl => t12_all_0 rec hC dp hrec _ _ _ _ _ _ h hW (lv_sub hl [0, 1] rfl))
theorem hin12_takePart_12 : ∀ x ∈ u_ws RX12 TX12 39, x ∈ wsX12_takePart := fun _ h => List.mem_cons_of_mem _ (List.mem_append_right _ h)
set_option maxRecDepth 100000 in
set_option maxHeartbeats 4000000 in
theorem t12_takePart_178 (rec : Int32 → Ob → Option (Ob)) (hC : Cx p s m args meth c cX12_takePart 4 wsX12_takePart RX12 none) (dp : Nat) (hrec : ∀ {x1 : Int32} {SM : Ob} {res : Ob}, rec x1 SM = some res → GCv l yX12_takePart wsX12_takePart (rm12_takePart dp) [.ref (aM 0), .int x1] D cy ad (w12 cy aM SM) (w12 cy aM res)) : ∀ (SM : Ob) (res : Ob) (H : Heap) (locs : List Loc) (ls : Array Slot), f12_takePart_178 rec SM = some res → GW D cy ad (w12 cy aM SM) A s H locs → lv_has ls 4 [] → W p l e (rm12_takePart (dp + 1)) s m args below meth c H locs 0 0 (MQ below (QV D cy (w12 cy aM res) A) args s 0 0 A) (F0 m 178 ls []) := by
  intro SM res H locs ls hf hW hl
  unfold f12_takePart_178 at hf
  obtain rfl := Option.some.inj hf
  exact g_vret hC hW dX12_takePart_178
set_option maxRecDepth 100000 in
set_option maxHeartbeats 4000000 in
theorem t12_takePart_165 (rec : Int32 → Ob → Option (Ob)) (hC : Cx p s m args meth c cX12_takePart 4 wsX12_takePart RX12 none) (dp : Nat) (hrec : ∀ {x1 : Int32} {SM : Ob} {res : Ob}, rec x1 SM = some res → GCv l yX12_takePart wsX12_takePart (rm12_takePart dp) [.ref (aM 0), .int x1] D cy ad (w12 cy aM SM) (w12 cy aM res)) : ∀ (z1 : Int32) (z2 : Int32) (SM : Ob) (res : Ob) (H : Heap) (locs : List Loc) (ls : Array Slot), f12_takePart_165 rec z1 z2 SM = some res → GW D cy ad (w12 cy aM SM) A s H locs → lv_has ls 4 [(0, .ref (aM 0))] → W p l e (rm12_takePart (dp + 1)) s m args below meth c H locs 0 0 (MQ below (QV D cy (w12 cy aM res) A) args s 0 0 A) (F0 m 165 ls [.int z2, .int z1, .ref (aM 0)]) := by
  intro z1 z2 SM res H locs ls hf hW hl
  unfold f12_takePart_165 at hf
  obtain ⟨r_1, hg_2, hf⟩ := bd_of hf
  refine g_callvV hC hW (c12_emit l D cy ad aM hg_2) (cwV 2 hC.2.2.2.2.1 gX12_takePart_X12_emit rfl rfl rfl hdV12_emit ⟨by simp only [rm12_emit, rm12_takePart]; omega, by simp only [rm12_emit, rm12_takePart]; omega⟩) (Sub.all _ _) 0 11 rfl rfl rfl rfl hl.1 rfl (Nat.le_of_ble_eq_true rfl) dX12_takePart_165 ⟨Nat.zero_le _, Nat.zero_le _⟩ (fun H locs hW => ?_)
  refine lv_aload_n hC.1 hC.2.1 dX12_takePart_168 rfl (lv_at hl 0 rfl) ?_
  refine lv_dup hC.1 hC.2.1 dX12_takePart_169 rfl ?_
  refine g_get hC hW hin12_takePart_12 0 rfl rfl 7 (by decide) 3 rfl rfl dX12_takePart_170 ?_
  refine lv_iconst (v := 1) hC.1 hC.2.1 dX12_takePart_173 (by decide) ?_
  refine lv_iadd hC.1 hC.2.1 dX12_takePart_174 ?_
  obtain ⟨SM_3, eSM_3⟩ : ∃ y : Ob, y = oI r_1 7 ((r_1.1 7) + 1) := ⟨_, rfl⟩
  have hf := lt_nm hf eSM_3
  refine g_put hC hW hin12_takePart_12 tyX12 tyX12_ok nmX12 0 rfl rfl 7 (by decide) 3 rfl rfl rfl rfl (Nat.le_of_ble_eq_true rfl) (w' := w12 cy aM SM_3) (by rw [eSM_3]; rfl) dX12_takePart_175 (fun H locs hW => ?_)
  exact t12_takePart_178 rec hC dp hrec  _ _ _ _ _ hf hW (lv_sub hl [] rfl)
set_option maxRecDepth 100000 in
set_option maxHeartbeats 4000000 in
theorem t12_takePart_147 (rec : Int32 → Ob → Option (Ob)) (hC : Cx p s m args meth c cX12_takePart 4 wsX12_takePart RX12 none) (dp : Nat) (hrec : ∀ {x1 : Int32} {SM : Ob} {res : Ob}, rec x1 SM = some res → GCv l yX12_takePart wsX12_takePart (rm12_takePart dp) [.ref (aM 0), .int x1] D cy ad (w12 cy aM SM) (w12 cy aM res)) : ∀ (x2 : Int32) (x3 : Int32) (z1 : Int32) (SM : Ob) (res : Ob) (H : Heap) (locs : List Loc) (ls : Array Slot), f12_takePart_147 rec x2 x3 z1 SM = some res → GW D cy ad (w12 cy aM SM) A s H locs → lv_has ls 4 [(0, .ref (aM 0)), (2, .int x2), (3, .int x3)] → W p l e (rm12_takePart (dp + 1)) s m args below meth c H locs 0 0 (MQ below (QV D cy (w12 cy aM res) A) args s 0 0 A) (F0 m 147 ls [.int z1, .ref (aM 0)]) := by
  intro x2 x3 z1 SM res H locs ls hf hW hl
  unfold f12_takePart_147 at hf
  refine lv_iload_n hC.1 hC.2.1 dX12_takePart_147 rfl (lv_at hl 1 rfl) ?_
  refine lv_if_eq (tgt := 164) hC.1 hC.2.1 dX12_takePart_148 (by decide) (fun hc_1 => ?_) (fun hc_1 => ?_)
  · have hf := ite_t hf hc_1
    refine lv_iload_n hC.1 hC.2.1 dX12_takePart_164 rfl (lv_at hl 2 rfl) ?_
    exact t12_takePart_165 rec hC dp hrec  _ _ _ _ _ _ _ hf hW (lv_sub hl [0] rfl)
  · have hf := ite_f hf hc_1
    refine lv_aload_n hC.1 hC.2.1 dX12_takePart_151 rfl (lv_at hl 0 rfl) ?_
    refine g_get hC hW hin12_takePart_12 0 rfl rfl 6 (by decide) 4 rfl rfl dX12_takePart_152 ?_
    refine lv_aload_n hC.1 hC.2.1 dX12_takePart_155 rfl (lv_at hl 0 rfl) ?_
    refine g_get hC hW hin12_takePart_12 0 rfl rfl 7 (by decide) 3 rfl rfl dX12_takePart_156 ?_
    obtain ⟨hi_2, hf⟩ := ck_of hf
    refine g_lald hC hW 4 rfl hi_2 dX12_takePart_159 ?_
    refine lv_l2i (v := Int64.toInt32 (SM.2.2.2 6 (Int32.toNatClampNeg (SM.1 7)))) hC.1 hC.2.1 dX12_takePart_160 rfl ?_
    refine lv_goto (tgt := 165) hC.1 hC.2.1 dX12_takePart_161 (by decide) ?_
    exact t12_takePart_165 rec hC dp hrec  _ _ _ _ _ _ _ hf hW (lv_sub hl [0] rfl)
set_option maxRecDepth 100000 in
set_option maxHeartbeats 4000000 in
theorem t12_takePart_79 (rec : Int32 → Ob → Option (Ob)) (hC : Cx p s m args meth c cX12_takePart 4 wsX12_takePart RX12 none) (dp : Nat) (hrec : ∀ {x1 : Int32} {SM : Ob} {res : Ob}, rec x1 SM = some res → GCv l yX12_takePart wsX12_takePart (rm12_takePart dp) [.ref (aM 0), .int x1] D cy ad (w12 cy aM SM) (w12 cy aM res)) : ∀ (x1 : Int32) (x2 : Int32) (x3 : Int32) (SM : Ob) (res : Ob) (H : Heap) (locs : List Loc) (ls : Array Slot), f12_takePart_79 rec x1 x2 x3 SM = some res → GW D cy ad (w12 cy aM SM) A s H locs → lv_has ls 4 [(0, .ref (aM 0)), (1, .int x1), (2, .int x2), (3, .int x3)] → W p l e (rm12_takePart (dp + 1)) s m args below meth c H locs 0 0 (MQ below (QV D cy (w12 cy aM res) A) args s 0 0 A) (F0 m 79 ls []) := by
  intro x1 x2 x3 SM res H locs ls hf hW hl
  unfold f12_takePart_79 at hf
  refine lv_aload_n hC.1 hC.2.1 dX12_takePart_79 rfl (lv_at hl 0 rfl) ?_
  refine g_get hC hW hin12_takePart_12 0 rfl rfl 8 (by decide) 1 rfl rfl dX12_takePart_80 ?_
  refine lv_if_le (tgt := 87) hC.1 hC.2.1 dX12_takePart_83 (by decide) (fun hc_1 => ?_) (fun hc_1 => ?_)
  · have hf := ite_t hf hc_1
    refine lv_aload_n hC.1 hC.2.1 dX12_takePart_87 rfl (lv_at hl 0 rfl) ?_
    refine lv_bipush (v := 26) hC.1 hC.2.1 dX12_takePart_88 (by decide) ?_
    obtain ⟨r_2, hg_3, hf⟩ := bd_of hf
    refine g_calliV hC hW (c12_hasWord l D cy ad aM hg_3) (cwV 1 hC.2.2.2.2.1 gX12_takePart_X12_hasWord rfl rfl rfl hdV12_hasWord ⟨by simp only [rm12_hasWord, rm12_takePart]; omega, by simp only [rm12_hasWord, rm12_takePart]; omega⟩) (Sub.all _ _) 0 11 rfl rfl rfl rfl hl.1 rfl (Nat.le_of_ble_eq_true rfl) dX12_takePart_90 ⟨Nat.zero_le _, Nat.zero_le _⟩ (fun H locs hW => ?_)
    refine lv_if_eq (tgt := 112) hC.1 hC.2.1 dX12_takePart_93 (by decide) (fun hc_4 => ?_) (fun hc_4 => ?_)
    · have hf := ite_t hf hc_4
      refine lv_aload_n hC.1 hC.2.1 dX12_takePart_112 rfl (lv_at hl 0 rfl) ?_
      refine lv_bipush (v := 40) hC.1 hC.2.1 dX12_takePart_113 (by decide) ?_
      obtain ⟨r_5, hg_6, hf⟩ := bd_of hf
      refine g_calliV hC hW (c12_hasSign l D cy ad aM hg_6) (cwV 1 hC.2.2.2.2.1 gX12_takePart_X12_hasSign rfl rfl rfl hdV12_hasSign ⟨by simp only [rm12_hasSign, rm12_takePart]; omega, by simp only [rm12_hasSign, rm12_takePart]; omega⟩) (Sub.all _ _) 0 11 rfl rfl rfl rfl hl.1 rfl (Nat.le_of_ble_eq_true rfl) dX12_takePart_115 ⟨Nat.zero_le _, Nat.zero_le _⟩ (fun H locs hW => ?_)
      refine lv_if_eq (tgt := 137) hC.1 hC.2.1 dX12_takePart_118 (by decide) (fun hc_7 => ?_) (fun hc_7 => ?_)
      · have hf := ite_t hf hc_7
        refine lv_aload_n hC.1 hC.2.1 dX12_takePart_137 rfl (lv_at hl 0 rfl) ?_
        refine lv_iload_n hC.1 hC.2.1 dX12_takePart_138 rfl (lv_at hl 2 rfl) ?_
        refine lv_if_eq (tgt := 146) hC.1 hC.2.1 dX12_takePart_139 (by decide) (fun hc_8 => ?_) (fun hc_8 => ?_)
        · have hf := ite_t hf hc_8
          refine lv_iconst (v := 2) hC.1 hC.2.1 dX12_takePart_146 (by decide) ?_
          exact t12_takePart_147 rec hC dp hrec  _ _ _ _ _ _ _ _ hf hW (lv_sub hl [0, 2, 3] rfl)
        · have hf := ite_f hf hc_8
          refine lv_iconst (v := 1) hC.1 hC.2.1 dX12_takePart_142 (by decide) ?_
          refine lv_goto (tgt := 147) hC.1 hC.2.1 dX12_takePart_143 (by decide) ?_
          exact t12_takePart_147 rec hC dp hrec  _ _ _ _ _ _ _ _ hf hW (lv_sub hl [0, 2, 3] rfl)
      · have hf := ite_f hf hc_7
        refine lv_aload_n hC.1 hC.2.1 dX12_takePart_121 rfl (lv_at hl 0 rfl) ?_
        refine lv_iload_n hC.1 hC.2.1 dX12_takePart_122 rfl (lv_at hl 1 rfl) ?_
        refine lv_iconst (v := 1) hC.1 hC.2.1 dX12_takePart_123 (by decide) ?_
        refine lv_iadd hC.1 hC.2.1 dX12_takePart_124 ?_
        obtain ⟨r_9, hg_10, hf⟩ := bd_of hf
        refine g_callvV hC hW (c12_all l D cy ad aM rec dp hrec hg_10) (cwV 1 hC.2.2.2.2.1 gX12_takePart_X12_all rfl rfl rfl hdV12_all ⟨by simp only [rm12_all, rm12_takePart]; omega, by simp only [rm12_all, rm12_takePart]; omega⟩) (Sub.all _ _) 0 11 rfl rfl rfl rfl hl.1 rfl (Nat.le_of_ble_eq_true rfl) dX12_takePart_125 ⟨Nat.zero_le _, Nat.zero_le _⟩ (fun H locs hW => ?_)
        refine lv_aload_n hC.1 hC.2.1 dX12_takePart_128 rfl (lv_at hl 0 rfl) ?_
        refine lv_bipush (v := 41) hC.1 hC.2.1 dX12_takePart_129 (by decide) ?_
        obtain ⟨r_11, hg_12, hf⟩ := bd_of hf
        refine g_callvV hC hW (c12_takeSign l D cy ad aM hg_12) (cwV 1 hC.2.2.2.2.1 gX12_takePart_X12_takeSign rfl rfl rfl hdV12_takeSign ⟨by simp only [rm12_takePart, rm12_takeSign]; omega, by simp only [rm12_takePart, rm12_takeSign]; omega⟩) (Sub.all _ _) 0 11 rfl rfl rfl rfl hl.1 rfl (Nat.le_of_ble_eq_true rfl) dX12_takePart_131 ⟨Nat.zero_le _, Nat.zero_le _⟩ (fun H locs hW => ?_)
        refine lv_goto (tgt := 178) hC.1 hC.2.1 dX12_takePart_134 (by decide) ?_
        exact t12_takePart_178 rec hC dp hrec  _ _ _ _ _ hf hW (lv_sub hl [] rfl)
    · have hf := ite_f hf hc_4
      refine lv_aload_n hC.1 hC.2.1 dX12_takePart_96 rfl (lv_at hl 0 rfl) ?_
      refine lv_iload_n hC.1 hC.2.1 dX12_takePart_97 rfl (lv_at hl 1 rfl) ?_
      refine lv_iconst (v := 1) hC.1 hC.2.1 dX12_takePart_98 (by decide) ?_
      refine lv_iadd hC.1 hC.2.1 dX12_takePart_99 ?_
      obtain ⟨r_13, hg_14, hf⟩ := bd_of hf
      refine g_callvV hC hW (hrec hg_14) (cwV 1 hC.2.2.2.2.1 gX12_takePart_X12_takePart rfl rfl rfl hdV12_takePart ⟨by simp only [rm12_takePart]; omega, by simp only [rm12_takePart]; omega⟩) (Sub.all _ _) 0 11 rfl rfl rfl rfl hl.1 rfl (Nat.le_of_ble_eq_true rfl) dX12_takePart_100 ⟨Nat.zero_le _, Nat.zero_le _⟩ (fun H locs hW => ?_)
      refine lv_aload_n hC.1 hC.2.1 dX12_takePart_103 rfl (lv_at hl 0 rfl) ?_
      refine lv_iconst (v := 3) hC.1 hC.2.1 dX12_takePart_104 (by decide) ?_
      refine lv_iconst (v := 0) hC.1 hC.2.1 dX12_takePart_105 (by decide) ?_
      obtain ⟨r_15, hg_16, hf⟩ := bd_of hf
      refine g_callvV hC hW (c12_emit l D cy ad aM hg_16) (cwV 2 hC.2.2.2.2.1 gX12_takePart_X12_emit rfl rfl rfl hdV12_emit ⟨by simp only [rm12_emit, rm12_takePart]; omega, by simp only [rm12_emit, rm12_takePart]; omega⟩) (Sub.all _ _) 0 11 rfl rfl rfl rfl hl.1 rfl (Nat.le_of_ble_eq_true rfl) dX12_takePart_106 ⟨Nat.zero_le _, Nat.zero_le _⟩ (fun H locs hW => ?_)
      refine lv_goto (tgt := 178) hC.1 hC.2.1 dX12_takePart_109 (by decide) ?_
      exact t12_takePart_178 rec hC dp hrec  _ _ _ _ _ hf hW (lv_sub hl [] rfl)
  · have hf := ite_f hf hc_1
    obtain rfl := Option.some.inj hf
    exact g_vret hC hW dX12_takePart_86
set_option maxRecDepth 100000 in
set_option maxHeartbeats 4000000 in
theorem t12_takePart_69 (rec : Int32 → Ob → Option (Ob)) (hC : Cx p s m args meth c cX12_takePart 4 wsX12_takePart RX12 none) (dp : Nat) (hrec : ∀ {x1 : Int32} {SM : Ob} {res : Ob}, rec x1 SM = some res → GCv l yX12_takePart wsX12_takePart (rm12_takePart dp) [.ref (aM 0), .int x1] D cy ad (w12 cy aM SM) (w12 cy aM res)) : ∀ (x1 : Int32) (x2 : Int32) (x3 : Int32) (SM : Ob) (res : Ob) (H : Heap) (locs : List Loc) (ls : Array Slot), f12_takePart_69 rec x1 x2 x3 SM = some res → GW D cy ad (w12 cy aM SM) A s H locs → lv_has ls 4 [(0, .ref (aM 0)), (1, .int x1), (2, .int x2), (3, .int x3)] → W p l e (rm12_takePart (dp + 1)) s m args below meth c H locs 0 0 (MQ below (QV D cy (w12 cy aM res) A) args s 0 0 A) (F0 m 69 ls []) := by
  intro x1 x2 x3 SM res H locs ls hf hW hl
  unfold f12_takePart_69 at hf
  refine lv_iload_n hC.1 hC.2.1 dX12_takePart_69 rfl (lv_at hl 1 rfl) ?_
  refine lv_iconst (v := 5) hC.1 hC.2.1 dX12_takePart_70 (by decide) ?_
  refine lv_icmp_ne (tgt := 79) hC.1 hC.2.1 dX12_takePart_71 (by decide) (fun hc_1 => ?_) (fun hc_1 => ?_)
  · have hf := ite_f hf hc_1
    exact t12_takePart_79 rec hC dp hrec  _ _ _ _ _ _ _ _ hf hW (lv_sub hl [0, 1, 2, 3] rfl)
  · have hf := ite_t hf hc_1
    refine lv_aload_n hC.1 hC.2.1 dX12_takePart_74 rfl (lv_at hl 0 rfl) ?_
    refine lv_iconst (v := 5) hC.1 hC.2.1 dX12_takePart_75 (by decide) ?_
    obtain ⟨r_2, hg_3, hf⟩ := bd_of hf
    refine g_callvV hC hW (c12_wrong l D cy ad aM hg_3) (cwV 1 hC.2.2.2.2.1 gX12_takePart_X12_wrong rfl rfl rfl hdV12_wrong ⟨by simp only [rm12_takePart, rm12_wrong]; omega, by simp only [rm12_takePart, rm12_wrong]; omega⟩) (Sub.all _ _) 0 11 rfl rfl rfl rfl hl.1 rfl (Nat.le_of_ble_eq_true rfl) dX12_takePart_76 ⟨Nat.zero_le _, Nat.zero_le _⟩ (fun H locs hW => ?_)
    exact t12_takePart_79 rec hC dp hrec  _ _ _ _ _ _ _ _ hf hW (lv_sub hl [0, 1, 2, 3] rfl)
set_option maxRecDepth 100000 in
set_option maxHeartbeats 4000000 in
theorem t12_takePart_26 (rec : Int32 → Ob → Option (Ob)) (hC : Cx p s m args meth c cX12_takePart 4 wsX12_takePart RX12 none) (dp : Nat) (hrec : ∀ {x1 : Int32} {SM : Ob} {res : Ob}, rec x1 SM = some res → GCv l yX12_takePart wsX12_takePart (rm12_takePart dp) [.ref (aM 0), .int x1] D cy ad (w12 cy aM SM) (w12 cy aM res)) : ∀ (x1 : Int32) (z0 : Int32) (SM : Ob) (res : Ob) (H : Heap) (locs : List Loc) (ls : Array Slot), f12_takePart_26 rec x1 z0 SM = some res → GW D cy ad (w12 cy aM SM) A s H locs → lv_has ls 4 [(0, .ref (aM 0)), (1, .int x1)] → W p l e (rm12_takePart (dp + 1)) s m args below meth c H locs 0 0 (MQ below (QV D cy (w12 cy aM res) A) args s 0 0 A) (F0 m 26 ls [.int z0]) := by
  intro x1 z0 SM res H locs ls hf hW hl
  unfold f12_takePart_26 at hf
  refine lv_istore_n (lv' := [(2, .int z0), (0, .ref (aM 0)), (1, .int x1)]) hC.1 hC.2.1 dX12_takePart_26 rfl hl (by decide) rfl (fun ls hl => ?_)
  refine lv_aload_n hC.1 hC.2.1 dX12_takePart_27 rfl (lv_at hl 1 rfl) ?_
  refine lv_bipush (v := 29) hC.1 hC.2.1 dX12_takePart_28 (by decide) ?_
  refine lv_iconst (v := 3) hC.1 hC.2.1 dX12_takePart_30 (by decide) ?_
  obtain ⟨r_1, hg_2, hf⟩ := bd_of hf
  refine g_calliV hC hW (c12_wordHere l D cy ad aM hg_2) (cwV 2 hC.2.2.2.2.1 gX12_takePart_X12_wordHere rfl rfl rfl hdV12_wordHere ⟨by simp only [rm12_takePart, rm12_wordHere]; omega, by simp only [rm12_takePart, rm12_wordHere]; omega⟩) (Sub.all _ _) 0 11 rfl rfl rfl rfl hl.1 rfl (Nat.le_of_ble_eq_true rfl) dX12_takePart_31 ⟨Nat.zero_le _, Nat.zero_le _⟩ (fun H locs hW => ?_)
  refine lv_istore_n (lv' := [(3, .int r_1), (2, .int z0), (0, .ref (aM 0)), (1, .int x1)]) hC.1 hC.2.1 dX12_takePart_34 rfl hl (by decide) rfl (fun ls hl => ?_)
  refine lv_iload_n hC.1 hC.2.1 dX12_takePart_35 rfl (lv_at hl 0 rfl) ?_
  refine lv_if_ge (tgt := 69) hC.1 hC.2.1 dX12_takePart_36 (by decide) (fun hc_3 => ?_) (fun hc_3 => ?_)
  · have hf := ite_t hf hc_3
    exact t12_takePart_69 rec hC dp hrec  _ _ _ _ _ _ _ _ hf hW (lv_sub hl [2, 3, 1, 0] rfl)
  · have hf := ite_f hf hc_3
    refine lv_iload_n hC.1 hC.2.1 dX12_takePart_39 rfl (lv_at hl 1 rfl) ?_
    refine lv_if_ne (tgt := 69) hC.1 hC.2.1 dX12_takePart_40 (by decide) (fun hc_4 => ?_) (fun hc_4 => ?_)
    · have hf := ite_f hf hc_4
      exact t12_takePart_69 rec hC dp hrec  _ _ _ _ _ _ _ _ hf hW (lv_sub hl [2, 3, 1, 0] rfl)
    · have hf := ite_t hf hc_4
      refine lv_aload_n hC.1 hC.2.1 dX12_takePart_43 rfl (lv_at hl 2 rfl) ?_
      refine lv_bipush (v := 40) hC.1 hC.2.1 dX12_takePart_44 (by decide) ?_
      obtain ⟨r_5, hg_6, hf⟩ := bd_of hf
      refine g_calliV hC hW (c12_isSign l D cy ad aM hg_6) (cwV 1 hC.2.2.2.2.1 gX12_takePart_X12_isSign rfl rfl rfl hdV12_isSign ⟨by simp only [rm12_isSign, rm12_takePart]; omega, by simp only [rm12_isSign, rm12_takePart]; omega⟩) (Sub.all _ _) 0 11 rfl rfl rfl rfl hl.1 rfl (Nat.le_of_ble_eq_true rfl) dX12_takePart_46 ⟨Nat.zero_le _, Nat.zero_le _⟩ (fun H locs hW => ?_)
      refine lv_if_ne (tgt := 69) hC.1 hC.2.1 dX12_takePart_49 (by decide) (fun hc_7 => ?_) (fun hc_7 => ?_)
      · have hf := ite_f hf hc_7
        exact t12_takePart_69 rec hC dp hrec  _ _ _ _ _ _ _ _ hf hW (lv_sub hl [2, 3, 1, 0] rfl)
      · have hf := ite_t hf hc_7
        refine lv_aload_n hC.1 hC.2.1 dX12_takePart_52 rfl (lv_at hl 2 rfl) ?_
        refine lv_bipush (v := 26) hC.1 hC.2.1 dX12_takePart_53 (by decide) ?_
        obtain ⟨r_8, hg_9, hf⟩ := bd_of hf
        refine g_calliV hC hW (c12_isWord l D cy ad aM hg_9) (cwV 1 hC.2.2.2.2.1 gX12_takePart_X12_isWord rfl rfl rfl hdV12_isWord ⟨by simp only [rm12_isWord, rm12_takePart]; omega, by simp only [rm12_isWord, rm12_takePart]; omega⟩) (Sub.all _ _) 0 11 rfl rfl rfl rfl hl.1 rfl (Nat.le_of_ble_eq_true rfl) dX12_takePart_55 ⟨Nat.zero_le _, Nat.zero_le _⟩ (fun H locs hW => ?_)
        refine lv_if_ne (tgt := 69) hC.1 hC.2.1 dX12_takePart_58 (by decide) (fun hc_10 => ?_) (fun hc_10 => ?_)
        · have hf := ite_f hf hc_10
          exact t12_takePart_69 rec hC dp hrec  _ _ _ _ _ _ _ _ hf hW (lv_sub hl [2, 3, 1, 0] rfl)
        · have hf := ite_t hf hc_10
          refine lv_aload_n hC.1 hC.2.1 dX12_takePart_61 rfl (lv_at hl 2 rfl) ?_
          refine lv_iconst (v := 1) hC.1 hC.2.1 dX12_takePart_62 (by decide) ?_
          obtain ⟨r_11, hg_12, hf⟩ := bd_of hf
          refine g_callvV hC hW (c12_wrong l D cy ad aM hg_12) (cwV 1 hC.2.2.2.2.1 gX12_takePart_X12_wrong rfl rfl rfl hdV12_wrong ⟨by simp only [rm12_takePart, rm12_wrong]; omega, by simp only [rm12_takePart, rm12_wrong]; omega⟩) (Sub.all _ _) 0 11 rfl rfl rfl rfl hl.1 rfl (Nat.le_of_ble_eq_true rfl) dX12_takePart_63 ⟨Nat.zero_le _, Nat.zero_le _⟩ (fun H locs hW => ?_)
          refine lv_goto (tgt := 79) hC.1 hC.2.1 dX12_takePart_66 (by decide) ?_
          exact t12_takePart_79 rec hC dp hrec  _ _ _ _ _ _ _ _ hf hW (lv_sub hl [2, 3, 1, 0] rfl)
set_option maxRecDepth 100000 in
set_option maxHeartbeats 4000000 in
theorem t12_takePart_0 (rec : Int32 → Ob → Option (Ob)) (hC : Cx p s m args meth c cX12_takePart 4 wsX12_takePart RX12 none) (dp : Nat) (hrec : ∀ {x1 : Int32} {SM : Ob} {res : Ob}, rec x1 SM = some res → GCv l yX12_takePart wsX12_takePart (rm12_takePart dp) [.ref (aM 0), .int x1] D cy ad (w12 cy aM SM) (w12 cy aM res)) : ∀ (x1 : Int32) (SM : Ob) (res : Ob) (H : Heap) (locs : List Loc) (ls : Array Slot), f12_takePart_b rec x1 SM = some res → GW D cy ad (w12 cy aM SM) A s H locs → lv_has ls 4 [(0, .ref (aM 0)), (1, .int x1)] → W p l e (rm12_takePart (dp + 1)) s m args below meth c H locs 0 0 (MQ below (QV D cy (w12 cy aM res) A) args s 0 0 A) (F0 m 0 ls []) := by
  intro x1 SM res H locs ls hf hW hl
  unfold f12_takePart_b at hf
  refine lv_aload_n hC.1 hC.2.1 dX12_takePart_0 rfl (lv_at hl 0 rfl) ?_
  refine g_get hC hW hin12_takePart_12 0 rfl rfl 8 (by decide) 1 rfl rfl dX12_takePart_1 ?_
  refine lv_if_le (tgt := 8) hC.1 hC.2.1 dX12_takePart_4 (by decide) (fun hc_1 => ?_) (fun hc_1 => ?_)
  · have hf := ite_t hf hc_1
    refine lv_aload_n hC.1 hC.2.1 dX12_takePart_8 rfl (lv_at hl 0 rfl) ?_
    refine g_get hC hW hin12_takePart_12 0 rfl rfl 4 (by decide) 2 rfl rfl dX12_takePart_9 ?_
    refine lv_aload_n hC.1 hC.2.1 dX12_takePart_12 rfl (lv_at hl 0 rfl) ?_
    refine g_get hC hW hin12_takePart_12 0 rfl rfl 7 (by decide) 3 rfl rfl dX12_takePart_13 ?_
    obtain ⟨hi_2, hf⟩ := ck_of hf
    refine g_iald hC hW 2 rfl hi_2 dX12_takePart_16 ?_
    refine lv_iconst (v := 2) hC.1 hC.2.1 dX12_takePart_17 (by decide) ?_
    refine lv_icmp_ne (tgt := 25) hC.1 hC.2.1 dX12_takePart_18 (by decide) (fun hc_3 => ?_) (fun hc_3 => ?_)
    · have hf := ite_f hf hc_3
      refine lv_iconst (v := 0) hC.1 hC.2.1 dX12_takePart_25 (by decide) ?_
      exact t12_takePart_26 rec hC dp hrec  _ _ _ _ _ _ _ hf hW (lv_sub hl [0, 1] rfl)
    · have hf := ite_t hf hc_3
      refine lv_iconst (v := 1) hC.1 hC.2.1 dX12_takePart_21 (by decide) ?_
      refine lv_goto (tgt := 26) hC.1 hC.2.1 dX12_takePart_22 (by decide) ?_
      exact t12_takePart_26 rec hC dp hrec  _ _ _ _ _ _ _ hf hW (lv_sub hl [0, 1] rfl)
  · have hf := ite_f hf hc_1
    obtain rfl := Option.some.inj hf
    exact g_vret hC hW dX12_takePart_7
set_option maxRecDepth 100000 in
set_option maxHeartbeats 4000000 in
theorem c12_takePart (l : Launch) (D : va_G) (cy : Nat → ClassId) (ad : Nat → Nat) (aM : Nat → Nat) : ∀ dp : Nat, ∀ {x1 : Int32} {SM : Ob} {res : Ob}, f12_takePart dp x1 SM = some res → GCv l yX12_takePart wsX12_takePart (rm12_takePart dp) [.ref (aM 0), .int x1] D cy ad (w12 cy aM SM) (w12 cy aM res) := by
  intro dp
  induction dp with
  | zero =>
    intro _ _ _ h
    exact nomatch (show (none : Option (Ob)) = some _ from h)
  | succ dp ih =>
    intro x1 SM res h
    rw [f12_takePart] at h
    intro sz
    exact GC.start (own := RX12) (Qc := fun A => QV D cy (w12 cy aM res) A) sz (by decide) rfl rfl (Nat.le_of_ble_eq_true rfl) (fun p e s m below meth c A ls hC hW hl => t12_takePart_0 _ hC dp ih _ _ _ _ _ _ h hW (lv_sub hl [0, 1] rfl))
end
