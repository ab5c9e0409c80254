/-! laid by program: functions, walks and contracts of 3_product, 3_sum, 3_test, 3_expression, 3_part -/
set_option maxRecDepth 20000 in
theorem gX3_product_X3_part : GoodIn wsX3_product (wsV RX3 98 RX3 yX3_part wsX3_part) := goodIn_r _ [4, 5, 6, 7, 130, 1, 2, 131, 3, 132, 133, 134, 7, 135, 136, 137, 8, 9, 10, 11, 12, 13, 14, 15, 16, 17, 18, 19, 20, 21, 22, 23, 24, 25, 26, 27, 28, 29, 30, 31, 32, 33, 34, 35, 36, 37, 38, 39, 40, 41, 42, 43, 44, 45, 46, 47, 48, 49, 50, 51, 52, 53, 54, 55, 56, 57, 58, 59, 60, 61, 62, 63, 64, 65, 66, 67, 68, 69, 70, 71, 72, 73, 74, 75, 76, 77, 78, 79, 80, 81, 82, 83, 84, 85, 86, 87, 88, 89, 90, 91, 92, 93, 94, 95, 96, 97, 98, 99, 100, 101, 102, 103, 104, 105, 106, 107, 108, 109, 110, 111, 112, 113, 114, 115, 116, 117, 4, 5, 6, 118, 119, 120, 121, 122, 123, 124, 125, 138, 139, 140, 141, 142, 143, 144, 126, 127, 128, 129, 0, 145, 146, 147, 148, 149, 150, 151, 152, 153, 154, 155, 156, 157, 158, 159, 160, 161, 162, 163, 164, 165, 166, 167, 168, 169] rfl (by decide +kernel)
set_option maxRecDepth 20000 in
theorem gX3_product_X10_advance : GoodIn wsX3_product (wsV RX3 49 RX10 yX10_advance wsX10_advance) := goodIn_r _ [8, 9, 10, 11, 12, 13, 14, 15, 16, 17, 18, 19, 20, 11, 21, 22, 23, 24, 25, 26, 27, 28, 29, 30, 31, 32, 33, 34, 35, 36, 37, 38, 39, 40, 41, 42, 43, 44, 45, 46, 47, 48, 49, 50, 51, 52, 53, 54, 55, 56, 57, 58, 59, 60, 61, 62, 63, 64, 65, 66, 67, 68, 69, 70, 71, 72, 73, 74, 75, 76, 77, 78, 79, 80, 81, 82, 83, 84, 85, 86, 87, 88, 89, 90, 91, 92, 93, 94, 95, 96, 97, 98, 99, 100, 101, 102, 103, 104, 105, 106, 107, 108, 109, 110, 111, 112, 113, 114, 115, 116, 117, 157, 158, 159, 160, 161, 162, 163, 164] rfl (by decide +kernel)
set_option maxRecDepth 20000 in
theorem gX3_product_X2_put : GoodIn wsX3_product (wsV RX3 76 RX2 yX2_put wsX2_put) := goodIn_r _ [118, 119, 120, 121, 122, 123, 124, 125, 165, 166, 167, 168, 169] rfl (by decide +kernel)
theorem dX3_product_0 : decode cX3_product 0 = .ok (.aload_n 0, 1) := by decide +kernel
theorem dX3_product_1 : decode cX3_product 1 = .ok (.iload_n 1, 1) := by decide +kernel
theorem dX3_product_2 : decode cX3_product 2 = .ok (.invokevirtual 98, 3) := by decide +kernel
theorem dX3_product_5 : decode cX3_product 5 = .ok (.istore_n 2, 1) := by decide +kernel
theorem dX3_product_6 : decode cX3_product 6 = .ok (.iconst 0, 1) := by decide +kernel
theorem dX3_product_7 : decode cX3_product 7 = .ok (.istore_n 3, 1) := by decide +kernel
theorem dX3_product_8 : decode cX3_product 8 = .ok (.iload_n 3, 1) := by decide +kernel
theorem dX3_product_9 : decode cX3_product 9 = .ok (.sipush 1000, 3) := by decide +kernel
theorem dX3_product_12 : decode cX3_product 12 = .ok (.if_icmp .ge 48, 3) := by decide +kernel
theorem dX3_product_15 : decode cX3_product 15 = .ok (.iload_n 2, 1) := by decide +kernel
theorem dX3_product_16 : decode cX3_product 16 = .ok (.ifCond .eq 44, 3) := by decide +kernel
theorem dX3_product_19 : decode cX3_product 19 = .ok (.aload_n 0, 1) := by decide +kernel
theorem dX3_product_20 : decode cX3_product 20 = .ok (.getfield 12, 3) := by decide +kernel
theorem dX3_product_23 : decode cX3_product 23 = .ok (.getfield 42, 3) := by decide +kernel
theorem dX3_product_26 : decode cX3_product 26 = .ok (.bipush 42, 2) := by decide +kernel
theorem dX3_product_28 : decode cX3_product 28 = .ok (.if_icmp .ne 32, 3) := by decide +kernel
theorem dX3_product_31 : decode cX3_product 31 = .ok (.aload_n 0, 1) := by decide +kernel
theorem dX3_product_32 : decode cX3_product 32 = .ok (.getfield 12, 3) := by decide +kernel
theorem dX3_product_35 : decode cX3_product 35 = .ok (.invokevirtual 49, 3) := by decide +kernel
theorem dX3_product_38 : decode cX3_product 38 = .ok (.aload_n 0, 1) := by decide +kernel
theorem dX3_product_39 : decode cX3_product 39 = .ok (.iload_n 1, 1) := by decide +kernel
theorem dX3_product_40 : decode cX3_product 40 = .ok (.invokevirtual 98, 3) := by decide +kernel
theorem dX3_product_43 : decode cX3_product 43 = .ok (.istore_n 2, 1) := by decide +kernel
theorem dX3_product_44 : decode cX3_product 44 = .ok (.aload_n 0, 1) := by decide +kernel
theorem dX3_product_45 : decode cX3_product 45 = .ok (.getfield 21, 3) := by decide +kernel
theorem dX3_product_48 : decode cX3_product 48 = .ok (.bipush 42, 2) := by decide +kernel
theorem dX3_product_50 : decode cX3_product 50 = .ok (.iconst 0, 1) := by decide +kernel
theorem dX3_product_51 : decode cX3_product 51 = .ok (.invokevirtual 76, 3) := by decide +kernel
theorem dX3_product_54 : decode cX3_product 54 = .ok (.iinc 3 1, 3) := by decide +kernel
theorem dX3_product_57 : decode cX3_product 57 = .ok (.goto (-49), 3) := by decide +kernel
theorem dX3_product_60 : decode cX3_product 60 = .ok (.iload_n 2, 1) := by decide +kernel
theorem dX3_product_61 : decode cX3_product 61 = .ok (.ireturn, 1) := by decide +kernel
set_option maxRecDepth 20000 in
theorem gX3_sum_X3_product : GoodIn wsX3_sum (wsV RX3 95 RX3 yX3_product wsX3_product) := goodIn_r _ [4, 5, 6, 7, 148, 1, 2, 3, 138, 139, 140, 7, 8, 9, 10, 11, 12, 13, 14, 15, 16, 17, 18, 19, 20, 21, 22, 23, 24, 25, 26, 27, 28, 29, 30, 31, 32, 33, 34, 35, 36, 37, 38, 39, 40, 41, 42, 43, 44, 45, 46, 47, 48, 49, 50, 51, 52, 53, 54, 55, 56, 57, 58, 59, 60, 61, 62, 63, 64, 65, 66, 67, 68, 69, 70, 71, 72, 73, 74, 75, 76, 77, 78, 79, 80, 81, 82, 83, 84, 85, 86, 87, 88, 89, 90, 91, 92, 93, 94, 95, 96, 97, 98, 99, 100, 101, 102, 103, 104, 105, 106, 107, 108, 109, 110, 111, 112, 113, 114, 115, 116, 117, 118, 119, 120, 121, 122, 123, 124, 125, 126, 127, 128, 129, 130, 131, 132, 133, 134, 135, 136, 137, 141, 142, 143, 144, 145, 146, 147, 0, 4, 5, 6, 149, 150, 151, 152, 153, 154, 155, 156, 157, 158, 159, 160, 161, 162, 163, 164, 165, 166, 167, 168, 169] rfl (by decide +kernel)
set_option maxRecDepth 20000 in
theorem gX3_sum_X10_advance : GoodIn wsX3_sum (wsV RX3 49 RX10 yX10_advance wsX10_advance) := goodIn_r _ [8, 9, 10, 11, 12, 13, 14, 15, 16, 17, 18, 19, 20, 11, 21, 22, 23, 24, 25, 26, 27, 28, 29, 30, 31, 32, 33, 34, 35, 36, 37, 38, 39, 40, 41, 42, 43, 44, 45, 46, 47, 48, 49, 50, 51, 52, 53, 54, 55, 56, 57, 58, 59, 60, 61, 62, 63, 64, 65, 66, 67, 68, 69, 70, 71, 72, 73, 74, 75, 76, 77, 78, 79, 80, 81, 82, 83, 84, 85, 86, 87, 88, 89, 90, 91, 92, 93, 94, 95, 96, 97, 98, 99, 100, 101, 102, 103, 104, 105, 106, 107, 108, 109, 110, 111, 112, 113, 114, 115, 116, 117, 157, 158, 159, 160, 161, 162, 163, 164] rfl (by decide +kernel)
set_option maxRecDepth 20000 in
theorem gX3_sum_X2_put : GoodIn wsX3_sum (wsV RX3 76 RX2 yX2_put wsX2_put) := goodIn_r _ [118, 119, 120, 121, 122, 123, 124, 125, 165, 166, 167, 168, 169] rfl (by decide +kernel)
theorem dX3_sum_0 : decode cX3_sum 0 = .ok (.aload_n 0, 1) := by decide +kernel
theorem dX3_sum_1 : decode cX3_sum 1 = .ok (.iload_n 1, 1) := by decide +kernel
theorem dX3_sum_2 : decode cX3_sum 2 = .ok (.invokevirtual 95, 3) := by decide +kernel
theorem dX3_sum_5 : decode cX3_sum 5 = .ok (.istore_n 2, 1) := by decide +kernel
theorem dX3_sum_6 : decode cX3_sum 6 = .ok (.iconst 0, 1) := by decide +kernel
theorem dX3_sum_7 : decode cX3_sum 7 = .ok (.istore_n 3, 1) := by decide +kernel
theorem dX3_sum_8 : decode cX3_sum 8 = .ok (.iload_n 3, 1) := by decide +kernel
theorem dX3_sum_9 : decode cX3_sum 9 = .ok (.sipush 1000, 3) := by decide +kernel
theorem dX3_sum_12 : decode cX3_sum 12 = .ok (.if_icmp .ge 62, 3) := by decide +kernel
theorem dX3_sum_15 : decode cX3_sum 15 = .ok (.iload_n 2, 1) := by decide +kernel
theorem dX3_sum_16 : decode cX3_sum 16 = .ok (.ifCond .eq 58, 3) := by decide +kernel
theorem dX3_sum_19 : decode cX3_sum 19 = .ok (.aload_n 0, 1) := by decide +kernel
theorem dX3_sum_20 : decode cX3_sum 20 = .ok (.getfield 12, 3) := by decide +kernel
theorem dX3_sum_23 : decode cX3_sum 23 = .ok (.getfield 42, 3) := by decide +kernel
theorem dX3_sum_26 : decode cX3_sum 26 = .ok (.istore 4, 2) := by decide +kernel
theorem dX3_sum_28 : decode cX3_sum 28 = .ok (.iload 4, 2) := by decide +kernel
theorem dX3_sum_30 : decode cX3_sum 30 = .ok (.bipush 43, 2) := by decide +kernel
theorem dX3_sum_32 : decode cX3_sum 32 = .ok (.if_icmp .eq 13, 3) := by decide +kernel
theorem dX3_sum_35 : decode cX3_sum 35 = .ok (.iload 4, 2) := by decide +kernel
theorem dX3_sum_37 : decode cX3_sum 37 = .ok (.bipush 45, 2) := by decide +kernel
theorem dX3_sum_39 : decode cX3_sum 39 = .ok (.if_icmp .eq 6, 3) := by decide +kernel
theorem dX3_sum_42 : decode cX3_sum 42 = .ok (.goto 32, 3) := by decide +kernel
theorem dX3_sum_45 : decode cX3_sum 45 = .ok (.aload_n 0, 1) := by decide +kernel
theorem dX3_sum_46 : decode cX3_sum 46 = .ok (.getfield 12, 3) := by decide +kernel
theorem dX3_sum_49 : decode cX3_sum 49 = .ok (.invokevirtual 49, 3) := by decide +kernel
theorem dX3_sum_52 : decode cX3_sum 52 = .ok (.aload_n 0, 1) := by decide +kernel
theorem dX3_sum_53 : decode cX3_sum 53 = .ok (.iload_n 1, 1) := by decide +kernel
theorem dX3_sum_54 : decode cX3_sum 54 = .ok (.invokevirtual 95, 3) := by decide +kernel
theorem dX3_sum_57 : decode cX3_sum 57 = .ok (.istore_n 2, 1) := by decide +kernel
theorem dX3_sum_58 : decode cX3_sum 58 = .ok (.aload_n 0, 1) := by decide +kernel
theorem dX3_sum_59 : decode cX3_sum 59 = .ok (.getfield 21, 3) := by decide +kernel
theorem dX3_sum_62 : decode cX3_sum 62 = .ok (.iload 4, 2) := by decide +kernel
theorem dX3_sum_64 : decode cX3_sum 64 = .ok (.iconst 0, 1) := by decide +kernel
theorem dX3_sum_65 : decode cX3_sum 65 = .ok (.invokevirtual 76, 3) := by decide +kernel
theorem dX3_sum_68 : decode cX3_sum 68 = .ok (.iinc 3 1, 3) := by decide +kernel
theorem dX3_sum_71 : decode cX3_sum 71 = .ok (.goto (-63), 3) := by decide +kernel
theorem dX3_sum_74 : decode cX3_sum 74 = .ok (.iload_n 2, 1) := by decide +kernel
theorem dX3_sum_75 : decode cX3_sum 75 = .ok (.ireturn, 1) := by decide +kernel
set_option maxRecDepth 20000 in
theorem gX3_test_X3_sum : GoodIn wsX3_test (wsV RX3 92 RX3 yX3_sum wsX3_sum) := goodIn_r _ [4, 5, 6, 7, 149, 1, 2, 3, 150, 151, 152, 7, 8, 9, 10, 11, 12, 13, 14, 15, 16, 17, 18, 19, 20, 21, 22, 23, 24, 25, 26, 27, 28, 29, 30, 31, 32, 33, 34, 35, 36, 37, 38, 39, 40, 41, 42, 43, 44, 45, 46, 47, 48, 49, 50, 51, 52, 53, 54, 55, 56, 57, 58, 59, 60, 61, 62, 63, 64, 65, 66, 67, 68, 69, 70, 71, 72, 73, 74, 75, 76, 77, 78, 79, 80, 81, 82, 83, 84, 85, 86, 87, 88, 89, 90, 91, 92, 93, 94, 95, 96, 97, 98, 99, 100, 101, 102, 103, 104, 105, 106, 107, 108, 109, 110, 111, 112, 113, 114, 115, 116, 117, 118, 119, 120, 121, 122, 123, 124, 125, 126, 127, 128, 129, 130, 131, 132, 133, 134, 135, 136, 137, 138, 139, 140, 141, 142, 143, 144, 145, 146, 147, 148, 0, 4, 5, 6, 153, 154, 155, 156, 157, 158, 159, 160, 161, 162, 163, 164, 165, 166, 167, 168, 169] rfl (by decide +kernel)
set_option maxRecDepth 20000 in
theorem gX3_test_X10_advance : GoodIn wsX3_test (wsV RX3 49 RX10 yX10_advance wsX10_advance) := goodIn_r _ [8, 9, 10, 11, 12, 13, 14, 15, 16, 17, 18, 19, 20, 11, 21, 22, 23, 24, 25, 26, 27, 28, 29, 30, 31, 32, 33, 34, 35, 36, 37, 38, 39, 40, 41, 42, 43, 44, 45, 46, 47, 48, 49, 50, 51, 52, 53, 54, 55, 56, 57, 58, 59, 60, 61, 62, 63, 64, 65, 66, 67, 68, 69, 70, 71, 72, 73, 74, 75, 76, 77, 78, 79, 80, 81, 82, 83, 84, 85, 86, 87, 88, 89, 90, 91, 92, 93, 94, 95, 96, 97, 98, 99, 100, 101, 102, 103, 104, 105, 106, 107, 108, 109, 110, 111, 112, 113, 114, 115, 116, 117, 157, 158, 159, 160, 161, 162, 163, 164] rfl (by decide +kernel)
set_option maxRecDepth 20000 in
theorem gX3_test_X2_put : GoodIn wsX3_test (wsV RX3 76 RX2 yX2_put wsX2_put) := goodIn_r _ [118, 119, 120, 121, 122, 123, 124, 125, 165, 166, 167, 168, 169] rfl (by decide +kernel)
theorem dX3_test_0 : decode cX3_test 0 = .ok (.aload_n 0, 1) := by decide +kernel
theorem dX3_test_1 : decode cX3_test 1 = .ok (.iload_n 1, 1) := by decide +kernel
theorem dX3_test_2 : decode cX3_test 2 = .ok (.invokevirtual 92, 3) := by decide +kernel
theorem dX3_test_5 : decode cX3_test 5 = .ok (.istore_n 2, 1) := by decide +kernel
theorem dX3_test_6 : decode cX3_test 6 = .ok (.aload_n 0, 1) := by decide +kernel
theorem dX3_test_7 : decode cX3_test 7 = .ok (.getfield 12, 3) := by decide +kernel
theorem dX3_test_10 : decode cX3_test 10 = .ok (.getfield 42, 3) := by decide +kernel
theorem dX3_test_13 : decode cX3_test 13 = .ok (.istore_n 3, 1) := by decide +kernel
theorem dX3_test_14 : decode cX3_test 14 = .ok (.iload_n 2, 1) := by decide +kernel
theorem dX3_test_15 : decode cX3_test 15 = .ok (.ifCond .eq 37, 3) := by decide +kernel
theorem dX3_test_18 : decode cX3_test 18 = .ok (.iload_n 3, 1) := by decide +kernel
theorem dX3_test_19 : decode cX3_test 19 = .ok (.bipush 60, 2) := by decide +kernel
theorem dX3_test_21 : decode cX3_test 21 = .ok (.if_icmp .eq 9, 3) := by decide +kernel
theorem dX3_test_24 : decode cX3_test 24 = .ok (.iload_n 3, 1) := by decide +kernel
theorem dX3_test_25 : decode cX3_test 25 = .ok (.bipush 61, 2) := by decide +kernel
theorem dX3_test_27 : decode cX3_test 27 = .ok (.if_icmp .ne 25, 3) := by decide +kernel
theorem dX3_test_30 : decode cX3_test 30 = .ok (.aload_n 0, 1) := by decide +kernel
theorem dX3_test_31 : decode cX3_test 31 = .ok (.getfield 12, 3) := by decide +kernel
theorem dX3_test_34 : decode cX3_test 34 = .ok (.invokevirtual 49, 3) := by decide +kernel
theorem dX3_test_37 : decode cX3_test 37 = .ok (.aload_n 0, 1) := by decide +kernel
theorem dX3_test_38 : decode cX3_test 38 = .ok (.iload_n 1, 1) := by decide +kernel
theorem dX3_test_39 : decode cX3_test 39 = .ok (.invokevirtual 92, 3) := by decide +kernel
theorem dX3_test_42 : decode cX3_test 42 = .ok (.istore_n 2, 1) := by decide +kernel
theorem dX3_test_43 : decode cX3_test 43 = .ok (.aload_n 0, 1) := by decide +kernel
theorem dX3_test_44 : decode cX3_test 44 = .ok (.getfield 21, 3) := by decide +kernel
theorem dX3_test_47 : decode cX3_test 47 = .ok (.iload_n 3, 1) := by decide +kernel
theorem dX3_test_48 : decode cX3_test 48 = .ok (.iconst 0, 1) := by decide +kernel
theorem dX3_test_49 : decode cX3_test 49 = .ok (.invokevirtual 76, 3) := by decide +kernel
theorem dX3_test_52 : decode cX3_test 52 = .ok (.iload_n 2, 1) := by decide +kernel
theorem dX3_test_53 : decode cX3_test 53 = .ok (.ireturn, 1) := by decide +kernel
set_option maxRecDepth 20000 in
theorem gX3_expression_X3_test : GoodIn wsX3_expression (wsV RX3 89 RX3 yX3_test wsX3_test) := goodIn_r _ [4, 5, 6, 7, 149, 1, 2, 3, 150, 151, 152, 7, 8, 9, 10, 11, 12, 13, 14, 15, 16, 17, 18, 19, 20, 21, 22, 23, 24, 25, 26, 27, 28, 29, 30, 31, 32, 33, 34, 35, 36, 37, 38, 39, 40, 41, 42, 43, 44, 45, 46, 47, 48, 49, 50, 51, 52, 53, 54, 55, 56, 57, 58, 59, 60, 61, 62, 63, 64, 65, 66, 67, 68, 69, 70, 71, 72, 73, 74, 75, 76, 77, 78, 79, 80, 81, 82, 83, 84, 85, 86, 87, 88, 89, 90, 91, 92, 93, 94, 95, 96, 97, 98, 99, 100, 101, 102, 103, 104, 105, 106, 107, 108, 109, 110, 111, 112, 113, 114, 115, 116, 117, 118, 119, 120, 121, 122, 123, 124, 125, 0, 4, 5, 6, 126, 127, 128, 129, 130, 131, 132, 133, 134, 135, 136, 137, 138, 139, 140, 141, 142, 143, 144, 145, 146, 147, 148, 153, 154, 155, 156, 157, 158, 159, 160, 161, 162, 163, 164, 165, 166, 167, 168, 169] rfl (by decide +kernel)
set_option maxRecDepth 20000 in
theorem gX3_expression_X10_advance : GoodIn wsX3_expression (wsV RX3 49 RX10 yX10_advance wsX10_advance) := goodIn_r _ [8, 9, 10, 11, 12, 13, 14, 15, 16, 17, 18, 19, 20, 11, 21, 22, 23, 24, 25, 26, 27, 28, 29, 30, 31, 32, 33, 34, 35, 36, 37, 38, 39, 40, 41, 42, 43, 44, 45, 46, 47, 48, 49, 50, 51, 52, 53, 54, 55, 56, 57, 58, 59, 60, 61, 62, 63, 64, 65, 66, 67, 68, 69, 70, 71, 72, 73, 74, 75, 76, 77, 78, 79, 80, 81, 82, 83, 84, 85, 86, 87, 88, 89, 90, 91, 92, 93, 94, 95, 96, 97, 98, 99, 100, 101, 102, 103, 104, 105, 106, 107, 108, 109, 110, 111, 112, 113, 114, 115, 116, 117, 157, 158, 159, 160, 161, 162, 163, 164] rfl (by decide +kernel)
set_option maxRecDepth 20000 in
theorem gX3_expression_X2_put : GoodIn wsX3_expression (wsV RX3 76 RX2 yX2_put wsX2_put) := goodIn_r _ [118, 119, 120, 121, 122, 123, 124, 125, 165, 166, 167, 168, 169] rfl (by decide +kernel)
theorem dX3_expression_0 : decode cX3_expression 0 = .ok (.aload_n 0, 1) := by decide +kernel
theorem dX3_expression_1 : decode cX3_expression 1 = .ok (.iload_n 1, 1) := by decide +kernel
theorem dX3_expression_2 : decode cX3_expression 2 = .ok (.invokevirtual 89, 3) := by decide +kernel
theorem dX3_expression_5 : decode cX3_expression 5 = .ok (.istore_n 2, 1) := by decide +kernel
theorem dX3_expression_6 : decode cX3_expression 6 = .ok (.iconst 0, 1) := by decide +kernel
theorem dX3_expression_7 : decode cX3_expression 7 = .ok (.istore_n 3, 1) := by decide +kernel
theorem dX3_expression_8 : decode cX3_expression 8 = .ok (.iload_n 3, 1) := by decide +kernel
theorem dX3_expression_9 : decode cX3_expression 9 = .ok (.sipush 1000, 3) := by decide +kernel
theorem dX3_expression_12 : decode cX3_expression 12 = .ok (.if_icmp .ge 62, 3) := by decide +kernel
theorem dX3_expression_15 : decode cX3_expression 15 = .ok (.iload_n 2, 1) := by decide +kernel
theorem dX3_expression_16 : decode cX3_expression 16 = .ok (.ifCond .eq 58, 3) := by decide +kernel
theorem dX3_expression_19 : decode cX3_expression 19 = .ok (.aload_n 0, 1) := by decide +kernel
theorem dX3_expression_20 : decode cX3_expression 20 = .ok (.getfield 12, 3) := by decide +kernel
theorem dX3_expression_23 : decode cX3_expression 23 = .ok (.getfield 42, 3) := by decide +kernel
theorem dX3_expression_26 : decode cX3_expression 26 = .ok (.istore 4, 2) := by decide +kernel
theorem dX3_expression_28 : decode cX3_expression 28 = .ok (.iload 4, 2) := by decide +kernel
theorem dX3_expression_30 : decode cX3_expression 30 = .ok (.bipush 27, 2) := by decide +kernel
theorem dX3_expression_32 : decode cX3_expression 32 = .ok (.if_icmp .eq 13, 3) := by decide +kernel
theorem dX3_expression_35 : decode cX3_expression 35 = .ok (.iload 4, 2) := by decide +kernel
theorem dX3_expression_37 : decode cX3_expression 37 = .ok (.bipush 28, 2) := by decide +kernel
theorem dX3_expression_39 : decode cX3_expression 39 = .ok (.if_icmp .eq 6, 3) := by decide +kernel
theorem dX3_expression_42 : decode cX3_expression 42 = .ok (.goto 32, 3) := by decide +kernel
theorem dX3_expression_45 : decode cX3_expression 45 = .ok (.aload_n 0, 1) := by decide +kernel
theorem dX3_expression_46 : decode cX3_expression 46 = .ok (.getfield 12, 3) := by decide +kernel
theorem dX3_expression_49 : decode cX3_expression 49 = .ok (.invokevirtual 49, 3) := by decide +kernel
theorem dX3_expression_52 : decode cX3_expression 52 = .ok (.aload_n 0, 1) := by decide +kernel
theorem dX3_expression_53 : decode cX3_expression 53 = .ok (.iload_n 1, 1) := by decide +kernel
theorem dX3_expression_54 : decode cX3_expression 54 = .ok (.invokevirtual 89, 3) := by decide +kernel
theorem dX3_expression_57 : decode cX3_expression 57 = .ok (.istore_n 2, 1) := by decide +kernel
theorem dX3_expression_58 : decode cX3_expression 58 = .ok (.aload_n 0, 1) := by decide +kernel
theorem dX3_expression_59 : decode cX3_expression 59 = .ok (.getfield 21, 3) := by decide +kernel
theorem dX3_expression_62 : decode cX3_expression 62 = .ok (.iload 4, 2) := by decide +kernel
theorem dX3_expression_64 : decode cX3_expression 64 = .ok (.iconst 0, 1) := by decide +kernel
theorem dX3_expression_65 : decode cX3_expression 65 = .ok (.invokevirtual 76, 3) := by decide +kernel
theorem dX3_expression_68 : decode cX3_expression 68 = .ok (.iinc 3 1, 3) := by decide +kernel
theorem dX3_expression_71 : decode cX3_expression 71 = .ok (.goto (-63), 3) := by decide +kernel
theorem dX3_expression_74 : decode cX3_expression 74 = .ok (.iload_n 2, 1) := by decide +kernel
theorem dX3_expression_75 : decode cX3_expression 75 = .ok (.ireturn, 1) := by decide +kernel
set_option maxRecDepth 20000 in
theorem gX3_part_X3_fail : GoodIn wsX3_part (wsV RX3 45 RX3 yX3_fail wsX3_fail) := goodIn_r _ [5, 6, 7, 8, 9, 1, 10, 11, 153, 154, 155, 156, 157, 158, 159, 160, 161, 162, 163, 164] rfl (by decide +kernel)
set_option maxRecDepth 20000 in
theorem gX3_part_X10_advance : GoodIn wsX3_part (wsV RX3 49 RX10 yX10_advance wsX10_advance) := goodIn_r _ [12, 13, 14, 15, 16, 17, 18, 19, 20, 21, 22, 23, 24, 15, 25, 26, 27, 28, 29, 30, 31, 32, 33, 34, 35, 36, 37, 38, 39, 40, 41, 42, 43, 44, 45, 46, 47, 48, 49, 50, 51, 52, 53, 54, 55, 56, 57, 58, 59, 60, 61, 62, 63, 64, 65, 66, 67, 68, 69, 70, 71, 72, 73, 74, 75, 76, 77, 78, 79, 80, 81, 82, 83, 84, 85, 86, 87, 88, 89, 90, 91, 92, 93, 94, 95, 96, 97, 98, 99, 100, 101, 102, 103, 104, 105, 106, 107, 108, 109, 110, 111, 112, 113, 114, 115, 116, 117, 118, 119, 120, 121, 157, 158, 159, 160, 161, 162, 163, 164] rfl (by decide +kernel)
set_option maxRecDepth 20000 in
theorem gX3_part_X3_part : GoodIn wsX3_part (wsV RX3 98 RX3 yX3_part wsX3_part) := goodIn_r _ [122, 123, 124, 8, 0, 1, 2, 3, 4, 5, 6, 7, 8, 9, 10, 11, 12, 13, 14, 15, 16, 17, 18, 19, 20, 21, 22, 23, 24, 25, 26, 27, 28, 29, 30, 31, 32, 33, 34, 35, 36, 37, 38, 39, 40, 41, 42, 43, 44, 45, 46, 47, 48, 49, 50, 51, 52, 53, 54, 55, 56, 57, 58, 59, 60, 61, 62, 63, 64, 65, 66, 67, 68, 69, 70, 71, 72, 73, 74, 75, 76, 77, 78, 79, 80, 81, 82, 83, 84, 85, 86, 87, 88, 89, 90, 91, 92, 93, 94, 95, 96, 97, 98, 99, 100, 101, 102, 103, 104, 105, 106, 107, 108, 109, 110, 111, 112, 113, 114, 115, 116, 117, 118, 119, 120, 121, 122, 123, 124, 125, 126, 127, 128, 129, 130, 131, 132, 133, 134, 135, 136, 137, 138, 139, 140, 141, 142, 143, 144, 145, 146, 147, 148, 149, 150, 151, 152, 153, 154, 155, 156, 157, 158, 159, 160, 161, 162, 163, 164, 165, 166, 167, 168, 169] rfl (by decide +kernel)
set_option maxRecDepth 20000 in
theorem gX3_part_X2_put : GoodIn wsX3_part (wsV RX3 76 RX2 yX2_put wsX2_put) := goodIn_r _ [125, 126, 127, 128, 129, 130, 131, 132, 165, 166, 167, 168, 169] rfl (by decide +kernel)
set_option maxRecDepth 20000 in
theorem gX3_part_X3_expression : GoodIn wsX3_part (wsV RX3 104 RX3 yX3_expression wsX3_expression) := goodIn_r _ [133, 134, 135, 8, 140, 1, 2, 4, 141, 142, 143, 8, 12, 13, 14, 15, 16, 17, 18, 19, 20, 21, 22, 23, 24, 25, 26, 27, 28, 29, 30, 31, 32, 33, 34, 35, 36, 37, 38, 39, 40, 41, 42, 43, 44, 45, 46, 47, 48, 49, 50, 51, 52, 53, 54, 55, 56, 57, 58, 59, 60, 61, 62, 63, 64, 65, 66, 67, 68, 69, 70, 71, 72, 73, 74, 75, 76, 77, 78, 79, 80, 81, 82, 83, 84, 85, 86, 87, 88, 89, 90, 91, 92, 93, 94, 95, 96, 97, 98, 99, 100, 101, 102, 103, 104, 105, 106, 107, 108, 109, 110, 111, 112, 113, 114, 115, 116, 117, 118, 119, 120, 121, 125, 126, 127, 128, 129, 130, 131, 132, 0, 3, 5, 6, 7, 9, 10, 11, 122, 123, 124, 133, 134, 135, 136, 137, 138, 139, 144, 145, 146, 147, 148, 149, 150, 151, 152, 153, 154, 155, 156, 157, 158, 159, 160, 161, 162, 163, 164, 165, 166, 167, 168, 169] rfl (by decide +kernel)
set_option maxRecDepth 20000 in
theorem gX3_part_X3_take : GoodIn wsX3_part (wsV RX3 86 RX3 yX3_take wsX3_take) := goodIn_r _ [136, 137, 138, 8, 139, 1, 2, 5, 6, 7, 8, 9, 10, 11, 12, 13, 14, 15, 16, 17, 18, 19, 20, 21, 22, 23, 24, 25, 26, 27, 28, 29, 30, 31, 32, 33, 34, 35, 36, 37, 38, 39, 40, 41, 42, 43, 44, 45, 46, 47, 48, 49, 50, 51, 52, 53, 54, 55, 56, 57, 58, 59, 60, 61, 62, 63, 64, 65, 66, 67, 68, 69, 70, 71, 72, 73, 74, 75, 76, 77, 78, 79, 80, 81, 82, 83, 84, 85, 86, 87, 88, 89, 90, 91, 92, 93, 94, 95, 96, 97, 98, 99, 100, 101, 102, 103, 104, 105, 106, 107, 108, 109, 110, 111, 112, 113, 114, 115, 116, 117, 118, 119, 120, 121, 153, 154, 155, 156, 157, 158, 159, 160, 161, 162, 163, 164] rfl (by decide +kernel)
theorem dX3_part_0 : decode cX3_part 0 = .ok (.aload_n 0, 1) := by decide +kernel
theorem dX3_part_1 : decode cX3_part 1 = .ok (.getfield 12, 3) := by decide +kernel
theorem dX3_part_4 : decode cX3_part 4 = .ok (.getfield 42, 3) := by decide +kernel
theorem dX3_part_7 : decode cX3_part 7 = .ok (.istore_n 2, 1) := by decide +kernel
theorem dX3_part_8 : decode cX3_part 8 = .ok (.iload_n 2, 1) := by decide +kernel
theorem dX3_part_9 : decode cX3_part 9 = .ok (.bipush 33, 2) := by decide +kernel
theorem dX3_part_11 : decode cX3_part 11 = .ok (.if_icmp .eq 15, 3) := by decide +kernel
theorem dX3_part_14 : decode cX3_part 14 = .ok (.iload_n 2, 1) := by decide +kernel
theorem dX3_part_15 : decode cX3_part 15 = .ok (.bipush 29, 2) := by decide +kernel
theorem dX3_part_17 : decode cX3_part 17 = .ok (.if_icmp .lt 13, 3) := by decide +kernel
theorem dX3_part_20 : decode cX3_part 20 = .ok (.iload_n 2, 1) := by decide +kernel
theorem dX3_part_21 : decode cX3_part 21 = .ok (.bipush 31, 2) := by decide +kernel
theorem dX3_part_23 : decode cX3_part 23 = .ok (.if_icmp .gt 7, 3) := by decide +kernel
theorem dX3_part_26 : decode cX3_part 26 = .ok (.iconst 1, 1) := by decide +kernel
theorem dX3_part_27 : decode cX3_part 27 = .ok (.goto 4, 3) := by decide +kernel
theorem dX3_part_30 : decode cX3_part 30 = .ok (.iconst 0, 1) := by decide +kernel
theorem dX3_part_31 : decode cX3_part 31 = .ok (.istore_n 3, 1) := by decide +kernel
theorem dX3_part_32 : decode cX3_part 32 = .ok (.iload_n 3, 1) := by decide +kernel
theorem dX3_part_33 : decode cX3_part 33 = .ok (.ifCond .ne 21, 3) := by decide +kernel
theorem dX3_part_36 : decode cX3_part 36 = .ok (.iload_n 2, 1) := by decide +kernel
theorem dX3_part_37 : decode cX3_part 37 = .ok (.bipush 26, 2) := by decide +kernel
theorem dX3_part_39 : decode cX3_part 39 = .ok (.if_icmp .eq 15, 3) := by decide +kernel
theorem dX3_part_42 : decode cX3_part 42 = .ok (.iload_n 2, 1) := by decide +kernel
theorem dX3_part_43 : decode cX3_part 43 = .ok (.bipush 40, 2) := by decide +kernel
theorem dX3_part_45 : decode cX3_part 45 = .ok (.if_icmp .eq 9, 3) := by decide +kernel
theorem dX3_part_48 : decode cX3_part 48 = .ok (.aload_n 0, 1) := by decide +kernel
theorem dX3_part_49 : decode cX3_part 49 = .ok (.iconst 1, 1) := by decide +kernel
theorem dX3_part_50 : decode cX3_part 50 = .ok (.invokevirtual 45, 3) := by decide +kernel
theorem dX3_part_53 : decode cX3_part 53 = .ok (.ireturn, 1) := by decide +kernel
theorem dX3_part_54 : decode cX3_part 54 = .ok (.iload_n 1, 1) := by decide +kernel
theorem dX3_part_55 : decode cX3_part 55 = .ok (.iconst 5, 1) := by decide +kernel
theorem dX3_part_56 : decode cX3_part 56 = .ok (.if_icmp .lt 9, 3) := by decide +kernel
theorem dX3_part_59 : decode cX3_part 59 = .ok (.aload_n 0, 1) := by decide +kernel
theorem dX3_part_60 : decode cX3_part 60 = .ok (.iconst 5, 1) := by decide +kernel
theorem dX3_part_61 : decode cX3_part 61 = .ok (.invokevirtual 45, 3) := by decide +kernel
theorem dX3_part_64 : decode cX3_part 64 = .ok (.ireturn, 1) := by decide +kernel
theorem dX3_part_65 : decode cX3_part 65 = .ok (.aload_n 0, 1) := by decide +kernel
theorem dX3_part_66 : decode cX3_part 66 = .ok (.getfield 12, 3) := by decide +kernel
theorem dX3_part_69 : decode cX3_part 69 = .ok (.getfield 101, 3) := by decide +kernel
theorem dX3_part_72 : decode cX3_part 72 = .ok (.istore 4, 2) := by decide +kernel
theorem dX3_part_74 : decode cX3_part 74 = .ok (.aload_n 0, 1) := by decide +kernel
theorem dX3_part_75 : decode cX3_part 75 = .ok (.getfield 12, 3) := by decide +kernel
theorem dX3_part_78 : decode cX3_part 78 = .ok (.invokevirtual 49, 3) := by decide +kernel
theorem dX3_part_81 : decode cX3_part 81 = .ok (.iload_n 2, 1) := by decide +kernel
theorem dX3_part_82 : decode cX3_part 82 = .ok (.bipush 26, 2) := by decide +kernel
theorem dX3_part_84 : decode cX3_part 84 = .ok (.if_icmp .ne 25, 3) := by decide +kernel
theorem dX3_part_87 : decode cX3_part 87 = .ok (.aload_n 0, 1) := by decide +kernel
theorem dX3_part_88 : decode cX3_part 88 = .ok (.iload_n 1, 1) := by decide +kernel
theorem dX3_part_89 : decode cX3_part 89 = .ok (.iconst 1, 1) := by decide +kernel
theorem dX3_part_90 : decode cX3_part 90 = .ok (.iadd, 1) := by decide +kernel
theorem dX3_part_91 : decode cX3_part 91 = .ok (.invokevirtual 98, 3) := by decide +kernel
theorem dX3_part_94 : decode cX3_part 94 = .ok (.istore 5, 2) := by decide +kernel
theorem dX3_part_96 : decode cX3_part 96 = .ok (.aload_n 0, 1) := by decide +kernel
theorem dX3_part_97 : decode cX3_part 97 = .ok (.getfield 21, 3) := by decide +kernel
theorem dX3_part_100 : decode cX3_part 100 = .ok (.bipush 26, 2) := by decide +kernel
theorem dX3_part_102 : decode cX3_part 102 = .ok (.iconst 0, 1) := by decide +kernel
theorem dX3_part_103 : decode cX3_part 103 = .ok (.invokevirtual 76, 3) := by decide +kernel
theorem dX3_part_106 : decode cX3_part 106 = .ok (.iload 5, 2) := by decide +kernel
theorem dX3_part_108 : decode cX3_part 108 = .ok (.ireturn, 1) := by decide +kernel
theorem dX3_part_109 : decode cX3_part 109 = .ok (.iload_n 2, 1) := by decide +kernel
theorem dX3_part_110 : decode cX3_part 110 = .ok (.bipush 40, 2) := by decide +kernel
theorem dX3_part_112 : decode cX3_part 112 = .ok (.if_icmp .ne 28, 3) := by decide +kernel
theorem dX3_part_115 : decode cX3_part 115 = .ok (.aload_n 0, 1) := by decide +kernel
theorem dX3_part_116 : decode cX3_part 116 = .ok (.iload_n 1, 1) := by decide +kernel
theorem dX3_part_117 : decode cX3_part 117 = .ok (.iconst 1, 1) := by decide +kernel
theorem dX3_part_118 : decode cX3_part 118 = .ok (.iadd, 1) := by decide +kernel
theorem dX3_part_119 : decode cX3_part 119 = .ok (.invokevirtual 104, 3) := by decide +kernel
theorem dX3_part_122 : decode cX3_part 122 = .ok (.ifCond .eq 16, 3) := by decide +kernel
theorem dX3_part_125 : decode cX3_part 125 = .ok (.aload_n 0, 1) := by decide +kernel
theorem dX3_part_126 : decode cX3_part 126 = .ok (.bipush 41, 2) := by decide +kernel
theorem dX3_part_128 : decode cX3_part 128 = .ok (.invokevirtual 86, 3) := by decide +kernel
theorem dX3_part_131 : decode cX3_part 131 = .ok (.ifCond .eq 7, 3) := by decide +kernel
theorem dX3_part_134 : decode cX3_part 134 = .ok (.iconst 1, 1) := by decide +kernel
theorem dX3_part_135 : decode cX3_part 135 = .ok (.goto 4, 3) := by decide +kernel
theorem dX3_part_138 : decode cX3_part 138 = .ok (.iconst 0, 1) := by decide +kernel
theorem dX3_part_139 : decode cX3_part 139 = .ok (.ireturn, 1) := by decide +kernel
theorem dX3_part_140 : decode cX3_part 140 = .ok (.aload_n 0, 1) := by decide +kernel
theorem dX3_part_141 : decode cX3_part 141 = .ok (.getfield 21, 3) := by decide +kernel
theorem dX3_part_144 : decode cX3_part 144 = .ok (.iload_n 2, 1) := by decide +kernel
theorem dX3_part_145 : decode cX3_part 145 = .ok (.iload 4, 2) := by decide +kernel
theorem dX3_part_147 : decode cX3_part 147 = .ok (.invokevirtual 76, 3) := by decide +kernel
theorem dX3_part_150 : decode cX3_part 150 = .ok (.iconst 1, 1) := by decide +kernel
theorem dX3_part_151 : decode cX3_part 151 = .ok (.ireturn, 1) := by decide +kernel





section
variable {p : Program} {l : Launch} {e : Env} {s : State} {m : MethodId} {args : Array Value} {below : List Frame} {meth : Method} {c : Code} {D : va_G} {cy : Nat → ClassId} {ad : Nat → Nat} {A : Nat → Prop} {aM aB aO aI aN aT aC aG aR aQ aK aL aX aH aJ aP aU aE0 aE1 aE2 aE3 : Nat → Nat} {gi : Value}
abbrev rm3_product (dp : Nat) : Room := { frames := 7 + 5 * dp, cells := 0, slots := 0, locals := 163 + 119 * dp }
theorem hdV3_product : yX3_product.cls = RX3 ∧ (yX3_product.cls ≠ "java/lang/invoke/MethodHandle" ∧ yX3_product.cls ≠ "java/lang/invoke/VarHandle" ∧ (parseMethodDescriptor yX3_product.desc).map (fun d => d.parameters.length) = some 1) := by decide +kernel
abbrev rm3_sum (dp : Nat) : Room := { frames := 8 + 5 * dp, cells := 0, slots := 0, locals := 186 + 119 * dp }
theorem hdV3_sum : yX3_sum.cls = RX3 ∧ (yX3_sum.cls ≠ "java/lang/invoke/MethodHandle" ∧ yX3_sum.cls ≠ "java/lang/invoke/VarHandle" ∧ (parseMethodDescriptor yX3_sum.desc).map (fun d => d.parameters.length) = some 1) := by decide +kernel
abbrev rm3_test (dp : Nat) : Room := { frames := 9 + 5 * dp, cells := 0, slots := 0, locals := 210 + 119 * dp }
theorem hdV3_test : yX3_test.cls = RX3 ∧ (yX3_test.cls ≠ "java/lang/invoke/MethodHandle" ∧ yX3_test.cls ≠ "java/lang/invoke/VarHandle" ∧ (parseMethodDescriptor yX3_test.desc).map (fun d => d.parameters.length) = some 1) := by decide +kernel
abbrev rm3_expression (dp : Nat) : Room := { frames := 10 + 5 * dp, cells := 0, slots := 0, locals := 233 + 119 * dp }
theorem hdV3_expression : yX3_expression.cls = RX3 ∧ (yX3_expression.cls ≠ "java/lang/invoke/MethodHandle" ∧ yX3_expression.cls ≠ "java/lang/invoke/VarHandle" ∧ (parseMethodDescriptor yX3_expression.desc).map (fun d => d.parameters.length) = some 1) := by decide +kernel
abbrev rm3_part (dp : Nat) : Room := { frames := 6 + 5 * dp, cells := 0, slots := 0, locals := 138 + 119 * dp }
theorem hdV3_part : yX3_part.cls = RX3 ∧ (yX3_part.cls ≠ "java/lang/invoke/MethodHandle" ∧ yX3_part.cls ≠ "java/lang/invoke/VarHandle" ∧ (parseMethodDescriptor yX3_part.desc).map (fun d => d.parameters.length) = some 1) := by decide +kernel
theorem hin3_product_3 : ∀ x ∈ u_ws RX3 TX3 4, x ∈ wsX3_product := fun _ h => List.mem_cons_of_mem _ (List.mem_append_left _ (List.mem_append_left _ (List.mem_append_right _ h)))
theorem hin3_product_10 : ∀ x ∈ u_ws RX10 TX10 8, x ∈ wsX3_product := fun _ h => List.mem_cons_of_mem _ (List.mem_append_left _ (List.mem_append_right _ h))
set_option maxRecDepth 100000 in
set_option maxHeartbeats 4000000 in
theorem t3_product_60 (rec : Int32 → Ob → Ob → Ob → Option (Int32 × Ob × Ob × Ob)) (hC : Cx p s m args meth c cX3_product 4 wsX3_product RX3 (some .boolean)) (dp : Nat) (hrec : ∀ {x1 : Int32} {SG : Ob} {ST : Ob} {SC : Ob} {res : Int32 × Ob × Ob × Ob}, rec x1 SG ST SC = some res → GCi l yX3_part wsX3_part (rm3_part dp) [.ref (aG 0), .int x1] D cy ad (w3 cy aG aT aC (.ref (aI 0)) SG ++ (w10 cy aT ST ++ (w2 cy aC SC))) (w3 cy aG aT aC (.ref (aI 0)) (res.2.1) ++ (w10 cy aT (res.2.2.1) ++ (w2 cy aC (res.2.2.2)))) (res.1)) : ∀ (x2 : Int32) (SG : Ob) (ST : Ob) (SC : Ob) (res : Int32 × Ob × Ob × Ob) (H : Heap) (locs : List Loc) (ls : Array Slot), f3_product_60 rec x2 SG ST SC = some res → GW D cy ad (w3 cy aG aT aC (.ref (aI 0)) SG ++ (w10 cy aT ST ++ (w2 cy aC SC))) A s H locs → lv_has ls 4 [(2, .int x2)] → W p l e (rm3_product dp) s m args below meth c H locs 0 0 (MQ below (QI D cy (w3 cy aG aT aC (.ref (aI 0)) (res.2.1) ++ (w10 cy aT (res.2.2.1) ++ (w2 cy aC (res.2.2.2)))) A (res.1)) args s 0 0 A) (F0 m 60 ls []) := by
  intro x2 SG ST SC res H locs ls hf hW hl
  unfold f3_product_60 at hf
  refine lv_iload_n hC.1 hC.2.1 dX3_product_60 rfl (lv_at hl 0 rfl) ?_
  obtain ⟨hz, hf⟩ := ck_of hf
  obtain rfl := Option.some.inj hf
  exact g_zret hC hW hz dX3_product_61
set_option maxRecDepth 100000 in
set_option maxHeartbeats 4000000 in
theorem t3_product_8 (rec : Int32 → Ob → Ob → Ob → Option (Int32 × Ob × Ob × Ob)) (hC : Cx p s m args meth c cX3_product 4 wsX3_product RX3 (some .boolean)) (dp : Nat) (hrec : ∀ {x1 : Int32} {SG : Ob} {ST : Ob} {SC : Ob} {res : Int32 × Ob × Ob × Ob}, rec x1 SG ST SC = some res → GCi l yX3_part wsX3_part (rm3_part dp) [.ref (aG 0), .int x1] D cy ad (w3 cy aG aT aC (.ref (aI 0)) SG ++ (w10 cy aT ST ++ (w2 cy aC SC))) (w3 cy aG aT aC (.ref (aI 0)) (res.2.1) ++ (w10 cy aT (res.2.2.1) ++ (w2 cy aC (res.2.2.2)))) (res.1)) : ∀ n : Nat, ∀ (x1 : Int32) (x2 : Int32) (x3 : Int32) (SG : Ob) (ST : Ob) (SC : Ob) (res : Int32 × Ob × Ob × Ob) (H : Heap) (locs : List Loc) (ls : Array Slot), f3_product_8 rec n x1 x2 x3 SG ST SC = some res → GW D cy ad (w3 cy aG aT aC (.ref (aI 0)) SG ++ (w10 cy aT ST ++ (w2 cy aC SC))) A s H locs → lv_has ls 4 [(0, .ref (aG 0)), (1, .int x1), (2, .int x2), (3, .int x3)] → W p l e (rm3_product dp) s m args below meth c H locs 0 0 (MQ below (QI D cy (w3 cy aG aT aC (.ref (aI 0)) (res.2.1) ++ (w10 cy aT (res.2.2.1) ++ (w2 cy aC (res.2.2.2)))) A (res.1)) args s 0 0 A) (F0 m 8 ls []) := by
  intro n
  induction n with
  | zero =>
    intro _ _ _ _ _ _ _ _ _ _ hf _ _
    exact nomatch (show (none : Option (Int32 × Ob × Ob × Ob)) = some _ from hf)
  | succ n ih =>
    intro x1 x2 x3 SG ST SC res H locs ls hf hW hl
    rw [f3_product_8] at hf
    refine lv_iload_n hC.1 hC.2.1 dX3_product_8 rfl (lv_at hl 3 rfl) ?_
    refine lv_sipush (v := 1000) hC.1 hC.2.1 dX3_product_9 (by decide) ?_
    refine lv_icmp_ge (tgt := 60) hC.1 hC.2.1 dX3_product_12 (by decide) (fun hc_1 => ?_) (fun hc_1 => ?_)
    · have hf := ite_t hf hc_1
      exact t3_product_60 rec hC dp hrec  _ _ _ _ _ _ _ _ hf hW (lv_sub hl [2] rfl)
    · have hf := ite_f hf hc_1
      refine lv_iload_n hC.1 hC.2.1 dX3_product_15 rfl (lv_at hl 2 rfl) ?_
      refine lv_if_eq (tgt := 60) hC.1 hC.2.1 dX3_product_16 (by decide) (fun hc_2 => ?_) (fun hc_2 => ?_)
      · have hf := ite_t hf hc_2
        exact t3_product_60 rec hC dp hrec  _ _ _ _ _ _ _ _ hf hW (lv_sub hl [2] rfl)
      · have hf := ite_f hf hc_2
        refine lv_aload_n hC.1 hC.2.1 dX3_product_19 rfl (lv_at hl 0 rfl) ?_
        refine g_get hC hW hin3_product_3 0 rfl rfl 0 (by decide) 1 rfl rfl dX3_product_20 ?_
        refine g_get hC hW hin3_product_10 1 rfl rfl 3 (by decide) 2 rfl rfl dX3_product_23 ?_
        refine lv_bipush (v := 42) hC.1 hC.2.1 dX3_product_26 (by decide) ?_
        refine lv_icmp_ne (tgt := 60) hC.1 hC.2.1 dX3_product_28 (by decide) (fun hc_3 => ?_) (fun hc_3 => ?_)
        · have hf := ite_f hf hc_3
          exact t3_product_60 rec hC dp hrec  _ _ _ _ _ _ _ _ hf hW (lv_sub hl [2] rfl)
        · have hf := ite_t hf hc_3
          refine lv_aload_n hC.1 hC.2.1 dX3_product_31 rfl (lv_at hl 0 rfl) ?_
          refine g_get hC hW hin3_product_3 0 rfl rfl 0 (by decide) 1 rfl rfl dX3_product_32 ?_
          obtain ⟨r_4, hg_5, hf⟩ := bd_of hf
          refine g_callvV (w' := w3 cy aG aT aC (.ref (aI 0)) SG ++ (w10 cy aT r_4 ++ (w2 cy aC SC))) hC hW (c10_advance l D cy ad aT hg_5) (cwV 0 hC.2.2.2.2.1 gX3_product_X10_advance rfl rfl rfl hdV10_advance ⟨by simp only [rm10_advance, rm3_product]; omega, by simp only [rm10_advance, rm3_product]; omega⟩) (⟨[1, 2, 3], [0, 4, 5, 6, 7], [0, 5, 6, 7, 1, 2, 3, 4], w3 cy aG aT aC (.ref (aI 0)) SG ++ (w2 cy aC SC), rfl, rfl, rfl, rfl, by decide, rfl, rfl⟩) 0 9 rfl rfl rfl rfl hl.1 rfl (Nat.le_of_ble_eq_true rfl) dX3_product_35 ⟨Nat.zero_le _, Nat.zero_le _⟩ (fun H locs hW => ?_)
          refine lv_aload_n hC.1 hC.2.1 dX3_product_38 rfl (lv_at hl 0 rfl) ?_
          refine lv_iload_n hC.1 hC.2.1 dX3_product_39 rfl (lv_at hl 1 rfl) ?_
          obtain ⟨r_6, hg_7, hf⟩ := bd_of hf
          refine g_calliV (w' := w3 cy aG aT aC (.ref (aI 0)) (r_6.2.1) ++ (w10 cy aT (r_6.2.2.1) ++ (w2 cy aC (r_6.2.2.2)))) hC hW (hrec hg_7) (cwV 1 hC.2.2.2.2.1 gX3_product_X3_part rfl rfl rfl hdV3_part ⟨by simp only [rm3_part, rm3_product]; omega, by simp only [rm3_part, rm3_product]; omega⟩) (Sub.all _ _) 0 3 rfl rfl rfl rfl hl.1 rfl (Nat.le_of_ble_eq_true rfl) dX3_product_40 ⟨Nat.zero_le _, Nat.zero_le _⟩ (fun H locs hW => ?_)
          refine lv_topi (fun x2_8 ex2_8 => ?_)
          have hf := lt_nm hf ex2_8
          refine lv_istore_n (lv' := [(2, .int x2_8), (0, .ref (aG 0)), (1, .int x1), (3, .int x3)]) hC.1 hC.2.1 dX3_product_43 rfl hl (by decide) rfl (fun ls hl => ?_)
          refine lv_aload_n hC.1 hC.2.1 dX3_product_44 rfl (lv_at hl 1 rfl) ?_
          refine g_get hC hW hin3_product_3 0 rfl rfl 1 (by decide) 3 rfl rfl dX3_product_45 ?_
          refine lv_bipush (v := 42) hC.1 hC.2.1 dX3_product_48 (by decide) ?_
          refine lv_iconst (v := 0) hC.1 hC.2.1 dX3_product_50 (by decide) ?_
          obtain ⟨r_9, hg_10, hf⟩ := bd_of hf
          refine g_callvV (w' := w3 cy aG aT aC (.ref (aI 0)) (r_6.2.1) ++ (w10 cy aT (r_6.2.2.1) ++ (w2 cy aC r_9))) hC hW (c2_put l D cy ad aC hg_10) (cwV 2 hC.2.2.2.2.1 gX3_product_X2_put rfl rfl rfl hdV2_put ⟨by simp only [rm2_put, rm3_product]; omega, by simp only [rm2_put, rm3_product]; omega⟩) (⟨[4, 5, 6, 7], [0, 1, 2, 3], [0, 1, 2, 3, 4, 5, 6, 7], w3 cy aG aT aC (.ref (aI 0)) (r_6.2.1) ++ (w10 cy aT (r_6.2.2.1)), rfl, rfl, rfl, rfl, by decide, rfl, rfl⟩) 0 2 rfl rfl rfl rfl hl.1 rfl (Nat.le_of_ble_eq_true rfl) dX3_product_51 ⟨Nat.zero_le _, Nat.zero_le _⟩ (fun H locs hW => ?_)
          obtain ⟨x3_11, ex3_11⟩ : ∃ y : Int32, y = x3 + 1 := ⟨_, rfl⟩
          have hf := lt_nm hf ex3_11
          refine lv_iinc (v := x3_11) (lv' := [(3, .int x3_11), (2, .int x2_8), (0, .ref (aG 0)), (1, .int x1)]) hC.1 hC.2.1 dX3_product_54 hl (k := 3) rfl (by rw [ex3_11]; rfl) (by decide) rfl (fun ls hl => ?_)
          refine lv_goto (tgt := 8) hC.1 hC.2.1 dX3_product_57 (by decide) ?_
          exact ih _ _ _ _ _ _ _ _ _ _ hf hW (lv_sub hl [2, 3, 1, 0] rfl)
set_option maxRecDepth 100000 in
set_option maxHeartbeats 4000000 in
theorem t3_product_0 (rec : Int32 → Ob → Ob → Ob → Option (Int32 × Ob × Ob × Ob)) (hC : Cx p s m args meth c cX3_product 4 wsX3_product RX3 (some .boolean)) (dp : Nat) (hrec : ∀ {x1 : Int32} {SG : Ob} {ST : Ob} {SC : Ob} {res : Int32 × Ob × Ob × Ob}, rec x1 SG ST SC = some res → GCi l yX3_part wsX3_part (rm3_part dp) [.ref (aG 0), .int x1] D cy ad (w3 cy aG aT aC (.ref (aI 0)) SG ++ (w10 cy aT ST ++ (w2 cy aC SC))) (w3 cy aG aT aC (.ref (aI 0)) (res.2.1) ++ (w10 cy aT (res.2.2.1) ++ (w2 cy aC (res.2.2.2)))) (res.1)) : ∀ (x1 : Int32) (SG : Ob) (ST : Ob) (SC : Ob) (res : Int32 × Ob × Ob × Ob) (H : Heap) (locs : List Loc) (ls : Array Slot), f3_product rec x1 SG ST SC = some res → GW D cy ad (w3 cy aG aT aC (.ref (aI 0)) SG ++ (w10 cy aT ST ++ (w2 cy aC SC))) A s H locs → lv_has ls 4 [(0, .ref (aG 0)), (1, .int x1)] → W p l e (rm3_product dp) s m args below meth c H locs 0 0 (MQ below (QI D cy (w3 cy aG aT aC (.ref (aI 0)) (res.2.1) ++ (w10 cy aT (res.2.2.1) ++ (w2 cy aC (res.2.2.2)))) A (res.1)) args s 0 0 A) (F0 m 0 ls []) := by
  intro x1 SG ST SC res H locs ls hf hW hl
  unfold f3_product at hf
  refine lv_aload_n hC.1 hC.2.1 dX3_product_0 rfl (lv_at hl 0 rfl) ?_
  refine lv_iload_n hC.1 hC.2.1 dX3_product_1 rfl (lv_at hl 1 rfl) ?_
  obtain ⟨r_1, hg_2, hf⟩ := bd_of hf
  refine g_calliV (w' := w3 cy aG aT aC (.ref (aI 0)) (r_1.2.1) ++ (w10 cy aT (r_1.2.2.1) ++ (w2 cy aC (r_1.2.2.2)))) hC hW (hrec hg_2) (cwV 1 hC.2.2.2.2.1 gX3_product_X3_part rfl rfl rfl hdV3_part ⟨by simp only [rm3_part, rm3_product]; omega, by simp only [rm3_part, rm3_product]; omega⟩) (Sub.all _ _) 0 3 rfl rfl rfl rfl hl.1 rfl (Nat.le_of_ble_eq_true rfl) dX3_product_2 ⟨Nat.zero_le _, Nat.zero_le _⟩ (fun H locs hW => ?_)
  refine lv_topi (fun x2_3 ex2_3 => ?_)
  have hf := lt_nm hf ex2_3
  refine lv_istore_n (lv' := [(2, .int x2_3), (0, .ref (aG 0)), (1, .int x1)]) hC.1 hC.2.1 dX3_product_5 rfl hl (by decide) rfl (fun ls hl => ?_)
  refine lv_iconst (v := 0) hC.1 hC.2.1 dX3_product_6 (by decide) ?_
  refine lv_istore_n (lv' := [(3, .int 0), (2, .int x2_3), (0, .ref (aG 0)), (1, .int x1)]) hC.1 hC.2.1 dX3_product_7 rfl hl (by decide) rfl (fun ls hl => ?_)
  exact t3_product_8 rec hC dp hrec _ _ _ _ _ _ _ _ _ _ _ hf hW (lv_sub hl [2, 3, 1, 0] rfl)
set_option maxRecDepth 100000 in
set_option maxHeartbeats 4000000 in
theorem c3_product (l : Launch) (D : va_G) (cy : Nat → ClassId) (ad : Nat → Nat) (aG : Nat → Nat) (aT : Nat → Nat) (aC : Nat → Nat) (aI : Nat → Nat) (rec : Int32 → Ob → Ob → Ob → Option (Int32 × Ob × Ob × Ob)) (dp : Nat) (hrec : ∀ {x1 : Int32} {SG : Ob} {ST : Ob} {SC : Ob} {res : Int32 × Ob × Ob × Ob}, rec x1 SG ST SC = some res → GCi l yX3_part wsX3_part (rm3_part dp) [.ref (aG 0), .int x1] D cy ad (w3 cy aG aT aC (.ref (aI 0)) SG ++ (w10 cy aT ST ++ (w2 cy aC SC))) (w3 cy aG aT aC (.ref (aI 0)) (res.2.1) ++ (w10 cy aT (res.2.2.1) ++ (w2 cy aC (res.2.2.2)))) (res.1)) : ∀ {x1 : Int32} {SG : Ob} {ST : Ob} {SC : Ob} {res : Int32 × Ob × Ob × Ob}, f3_product rec x1 SG ST SC = some res → GCi l yX3_product wsX3_product (rm3_product dp) [.ref (aG 0), .int x1] D cy ad (w3 cy aG aT aC (.ref (aI 0)) SG ++ (w10 cy aT ST ++ (w2 cy aC SC))) (w3 cy aG aT aC (.ref (aI 0)) (res.2.1) ++ (w10 cy aT (res.2.2.1) ++ (w2 cy aC (res.2.2.2)))) (res.1) := fun {x1} {SG} {ST} {SC} {res} h sz => GC.start (own := RX3) (Qc := fun A => QI D cy (w3 cy aG aT aC (.ref (aI 0)) (res.2.1) ++ (w10 cy aT (res.2.2.1) ++ (w2 cy aC (res.2.2.2)))) A (res.1)) sz (by decide) rfl rfl (Nat.le_of_ble_eq_true rfl) (fun p e s m below meth c A ls hC hW hl => t3_product_0 rec hC dp hrec _ _ _ _ _ _ _ _ h hW (lv_sub hl [0, 1] rfl))
theorem hin3_sum_3 : ∀ x ∈ u_ws RX3 TX3 4, x ∈ wsX3_sum := fun _ h => List.mem_cons_of_mem _ (List.mem_append_left _ (List.mem_append_left _ (List.mem_append_right _ h)))
theorem hin3_sum_10 : ∀ x ∈ u_ws RX10 TX10 8, x ∈ wsX3_sum := fun _ h => List.mem_cons_of_mem _ (List.mem_append_left _ (List.mem_append_right _ h))
set_option maxRecDepth 100000 in
set_option maxHeartbeats 4000000 in
theorem t3_sum_45 (rec : Int32 → Ob → Ob → Ob → Option (Int32 × Ob × Ob × Ob)) (hC : Cx p s m args meth c cX3_sum 5 wsX3_sum RX3 (some .boolean)) (dp : Nat) (hrec : ∀ {x1 : Int32} {SG : Ob} {ST : Ob} {SC : Ob} {res : Int32 × Ob × Ob × Ob}, rec x1 SG ST SC = some res → GCi l yX3_part wsX3_part (rm3_part dp) [.ref (aG 0), .int x1] D cy ad (w3 cy aG aT aC (.ref (aI 0)) SG ++ (w10 cy aT ST ++ (w2 cy aC SC))) (w3 cy aG aT aC (.ref (aI 0)) (res.2.1) ++ (w10 cy aT (res.2.2.1) ++ (w2 cy aC (res.2.2.2)))) (res.1)) {k8 : Int32 → Int32 → Int32 → Ob → Ob → Ob → Option (Int32 × Ob × Ob × Ob)} (hk8 : ∀ (x1 : Int32) (x2 : Int32) (x3 : Int32) (SG : Ob) (ST : Ob) (SC : Ob) (res : Int32 × Ob × Ob × Ob) (H : Heap) (locs : List Loc) (ls : Array Slot), k8 x1 x2 x3 SG ST SC = some res → GW D cy ad (w3 cy aG aT aC (.ref (aI 0)) SG ++ (w10 cy aT ST ++ (w2 cy aC SC))) A s H locs → lv_has ls 5 [(0, .ref (aG 0)), (1, .int x1), (2, .int x2), (3, .int x3)] → W p l e (rm3_sum dp) s m args below meth c H locs 0 0 (MQ below (QI D cy (w3 cy aG aT aC (.ref (aI 0)) (res.2.1) ++ (w10 cy aT (res.2.2.1) ++ (w2 cy aC (res.2.2.2)))) A (res.1)) args s 0 0 A) (F0 m 8 ls [])) : ∀ (x1 : Int32) (x3 : Int32) (x4 : Int32) (SG : Ob) (ST : Ob) (SC : Ob) (res : Int32 × Ob × Ob × Ob) (H : Heap) (locs : List Loc) (ls : Array Slot), f3_sum_45 rec k8 x1 x3 x4 SG ST SC = some res → GW D cy ad (w3 cy aG aT aC (.ref (aI 0)) SG ++ (w10 cy aT ST ++ (w2 cy aC SC))) A s H locs → lv_has ls 5 [(0, .ref (aG 0)), (1, .int x1), (3, .int x3), (4, .int x4)] → W p l e (rm3_sum dp) s m args below meth c H locs 0 0 (MQ below (QI D cy (w3 cy aG aT aC (.ref (aI 0)) (res.2.1) ++ (w10 cy aT (res.2.2.1) ++ (w2 cy aC (res.2.2.2)))) A (res.1)) args s 0 0 A) (F0 m 45 ls []) := by
  intro x1 x3 x4 SG ST SC res H locs ls hf hW hl
  unfold f3_sum_45 at hf
  refine lv_aload_n hC.1 hC.2.1 dX3_sum_45 rfl (lv_at hl 0 rfl) ?_
  refine g_get hC hW hin3_sum_3 0 rfl rfl 0 (by decide) 1 rfl rfl dX3_sum_46 ?_
  obtain ⟨r_1, hg_2, hf⟩ := bd_of hf
  refine g_callvV (w' := w3 cy aG aT aC (.ref (aI 0)) SG ++ (w10 cy aT r_1 ++ (w2 cy aC SC))) hC hW (c10_advance l D cy ad aT hg_2) (cwV 0 hC.2.2.2.2.1 gX3_sum_X10_advance rfl rfl rfl hdV10_advance ⟨by simp only [rm10_advance, rm3_sum]; omega, by simp only [rm10_advance, rm3_sum]; omega⟩) (⟨[1, 2, 3], [0, 4, 5, 6, 7], [0, 5, 6, 7, 1, 2, 3, 4], w3 cy aG aT aC (.ref (aI 0)) SG ++ (w2 cy aC SC), rfl, rfl, rfl, rfl, by decide, rfl, rfl⟩) 0 9 rfl rfl rfl rfl hl.1 rfl (Nat.le_of_ble_eq_true rfl) dX3_sum_49 ⟨Nat.zero_le _, Nat.zero_le _⟩ (fun H locs hW => ?_)
  refine lv_aload_n hC.1 hC.2.1 dX3_sum_52 rfl (lv_at hl 0 rfl) ?_
  refine lv_iload_n hC.1 hC.2.1 dX3_sum_53 rfl (lv_at hl 1 rfl) ?_
  obtain ⟨r_3, hg_4, hf⟩ := bd_of hf
  refine g_calliV (w' := w3 cy aG aT aC (.ref (aI 0)) (r_3.2.1) ++ (w10 cy aT (r_3.2.2.1) ++ (w2 cy aC (r_3.2.2.2)))) hC hW (c3_product l D cy ad aG aT aC aI rec dp hrec hg_4) (cwV 1 hC.2.2.2.2.1 gX3_sum_X3_product rfl rfl rfl hdV3_product ⟨by simp only [rm3_product, rm3_sum]; omega, by simp only [rm3_product, rm3_sum]; omega⟩) (Sub.all _ _) 0 3 rfl rfl rfl rfl hl.1 rfl (Nat.le_of_ble_eq_true rfl) dX3_sum_54 ⟨Nat.zero_le _, Nat.zero_le _⟩ (fun H locs hW => ?_)
  refine lv_topi (fun x2_5 ex2_5 => ?_)
  have hf := lt_nm hf ex2_5
  refine lv_istore_n (lv' := [(2, .int x2_5), (0, .ref (aG 0)), (1, .int x1), (3, .int x3), (4, .int x4)]) hC.1 hC.2.1 dX3_sum_57 rfl hl (by decide) rfl (fun ls hl => ?_)
  refine lv_aload_n hC.1 hC.2.1 dX3_sum_58 rfl (lv_at hl 1 rfl) ?_
  refine g_get hC hW hin3_sum_3 0 rfl rfl 1 (by decide) 3 rfl rfl dX3_sum_59 ?_
  refine lv_iload hC.1 hC.2.1 dX3_sum_62 (lv_at hl 4 rfl) ?_
  refine lv_iconst (v := 0) hC.1 hC.2.1 dX3_sum_64 (by decide) ?_
  obtain ⟨r_6, hg_7, hf⟩ := bd_of hf
  refine g_callvV (w' := w3 cy aG aT aC (.ref (aI 0)) (r_3.2.1) ++ (w10 cy aT (r_3.2.2.1) ++ (w2 cy aC r_6))) hC hW (c2_put l D cy ad aC hg_7) (cwV 2 hC.2.2.2.2.1 gX3_sum_X2_put rfl rfl rfl hdV2_put ⟨by simp only [rm2_put, rm3_sum]; omega, by simp only [rm2_put, rm3_sum]; omega⟩) (⟨[4, 5, 6, 7], [0, 1, 2, 3], [0, 1, 2, 3, 4, 5, 6, 7], w3 cy aG aT aC (.ref (aI 0)) (r_3.2.1) ++ (w10 cy aT (r_3.2.2.1)), rfl, rfl, rfl, rfl, by decide, rfl, rfl⟩) 0 2 rfl rfl rfl rfl hl.1 rfl (Nat.le_of_ble_eq_true rfl) dX3_sum_65 ⟨Nat.zero_le _, Nat.zero_le _⟩ (fun H locs hW => ?_)
  obtain ⟨x3_8, ex3_8⟩ : ∃ y : Int32, y = x3 + 1 := ⟨_, rfl⟩
  have hf := lt_nm hf ex3_8
  refine lv_iinc (v := x3_8) (lv' := [(3, .int x3_8), (2, .int x2_5), (0, .ref (aG 0)), (1, .int x1), (4, .int x4)]) hC.1 hC.2.1 dX3_sum_68 hl (k := 3) rfl (by rw [ex3_8]; rfl) (by decide) rfl (fun ls hl => ?_)
  refine lv_goto (tgt := 8) hC.1 hC.2.1 dX3_sum_71 (by decide) ?_
  exact hk8 _ _ _ _ _ _ _ _ _ _ hf hW (lv_sub hl [2, 3, 1, 0] rfl)
set_option maxRecDepth 100000 in
set_option maxHeartbeats 4000000 in
theorem t3_sum_74 (rec : Int32 → Ob → Ob → Ob → Option (Int32 × Ob × Ob × Ob)) (hC : Cx p s m args meth c cX3_sum 5 wsX3_sum RX3 (some .boolean)) (dp : Nat) (hrec : ∀ {x1 : Int32} {SG : Ob} {ST : Ob} {SC : Ob} {res : Int32 × Ob × Ob × Ob}, rec x1 SG ST SC = some res → GCi l yX3_part wsX3_part (rm3_part dp) [.ref (aG 0), .int x1] D cy ad (w3 cy aG aT aC (.ref (aI 0)) SG ++ (w10 cy aT ST ++ (w2 cy aC SC))) (w3 cy aG aT aC (.ref (aI 0)) (res.2.1) ++ (w10 cy aT (res.2.2.1) ++ (w2 cy aC (res.2.2.2)))) (res.1)) : ∀ (x2 : Int32) (SG : Ob) (ST : Ob) (SC : Ob) (res : Int32 × Ob × Ob × Ob) (H : Heap) (locs : List Loc) (ls : Array Slot), f3_sum_74 rec x2 SG ST SC = some res → GW D cy ad (w3 cy aG aT aC (.ref (aI 0)) SG ++ (w10 cy aT ST ++ (w2 cy aC SC))) A s H locs → lv_has ls 5 [(2, .int x2)] → W p l e (rm3_sum dp) s m args below meth c H locs 0 0 (MQ below (QI D cy (w3 cy aG aT aC (.ref (aI 0)) (res.2.1) ++ (w10 cy aT (res.2.2.1) ++ (w2 cy aC (res.2.2.2)))) A (res.1)) args s 0 0 A) (F0 m 74 ls []) := by
  intro x2 SG ST SC res H locs ls hf hW hl
  unfold f3_sum_74 at hf
  refine lv_iload_n hC.1 hC.2.1 dX3_sum_74 rfl (lv_at hl 0 rfl) ?_
  obtain ⟨hz, hf⟩ := ck_of hf
  obtain rfl := Option.some.inj hf
  exact g_zret hC hW hz dX3_sum_75
set_option maxRecDepth 100000 in
set_option maxHeartbeats 4000000 in
theorem t3_sum_8 (rec : Int32 → Ob → Ob → Ob → Option (Int32 × Ob × Ob × Ob)) (hC : Cx p s m args meth c cX3_sum 5 wsX3_sum RX3 (some .boolean)) (dp : Nat) (hrec : ∀ {x1 : Int32} {SG : Ob} {ST : Ob} {SC : Ob} {res : Int32 × Ob × Ob × Ob}, rec x1 SG ST SC = some res → GCi l yX3_part wsX3_part (rm3_part dp) [.ref (aG 0), .int x1] D cy ad (w3 cy aG aT aC (.ref (aI 0)) SG ++ (w10 cy aT ST ++ (w2 cy aC SC))) (w3 cy aG aT aC (.ref (aI 0)) (res.2.1) ++ (w10 cy aT (res.2.2.1) ++ (w2 cy aC (res.2.2.2)))) (res.1)) : ∀ n : Nat, ∀ (x1 : Int32) (x2 : Int32) (x3 : Int32) (SG : Ob) (ST : Ob) (SC : Ob) (res : Int32 × Ob × Ob × Ob) (H : Heap) (locs : List Loc) (ls : Array Slot), f3_sum_8 rec n x1 x2 x3 SG ST SC = some res → GW D cy ad (w3 cy aG aT aC (.ref (aI 0)) SG ++ (w10 cy aT ST ++ (w2 cy aC SC))) A s H locs → lv_has ls 5 [(0, .ref (aG 0)), (1, .int x1), (2, .int x2), (3, .int x3)] → W p l e (rm3_sum dp) s m args below meth c H locs 0 0 (MQ below (QI D cy (w3 cy aG aT aC (.ref (aI 0)) (res.2.1) ++ (w10 cy aT (res.2.2.1) ++ (w2 cy aC (res.2.2.2)))) A (res.1)) args s 0 0 A) (F0 m 8 ls []) := by
  intro n
  induction n with
  | zero =>
    intro _ _ _ _ _ _ _ _ _ _ hf _ _
    exact nomatch (show (none : Option (Int32 × Ob × Ob × Ob)) = some _ from hf)
  | succ n ih =>
    intro x1 x2 x3 SG ST SC res H locs ls hf hW hl
    rw [f3_sum_8] at hf
    refine lv_iload_n hC.1 hC.2.1 dX3_sum_8 rfl (lv_at hl 3 rfl) ?_
    refine lv_sipush (v := 1000) hC.1 hC.2.1 dX3_sum_9 (by decide) ?_
    refine lv_icmp_ge (tgt := 74) hC.1 hC.2.1 dX3_sum_12 (by decide) (fun hc_1 => ?_) (fun hc_1 => ?_)
    · have hf := ite_t hf hc_1
      exact t3_sum_74 rec hC dp hrec  _ _ _ _ _ _ _ _ hf hW (lv_sub hl [2] rfl)
    · have hf := ite_f hf hc_1
      refine lv_iload_n hC.1 hC.2.1 dX3_sum_15 rfl (lv_at hl 2 rfl) ?_
      refine lv_if_eq (tgt := 74) hC.1 hC.2.1 dX3_sum_16 (by decide) (fun hc_2 => ?_) (fun hc_2 => ?_)
      · have hf := ite_t hf hc_2
        exact t3_sum_74 rec hC dp hrec  _ _ _ _ _ _ _ _ hf hW (lv_sub hl [2] rfl)
      · have hf := ite_f hf hc_2
        refine lv_aload_n hC.1 hC.2.1 dX3_sum_19 rfl (lv_at hl 0 rfl) ?_
        refine g_get hC hW hin3_sum_3 0 rfl rfl 0 (by decide) 1 rfl rfl dX3_sum_20 ?_
        refine g_get hC hW hin3_sum_10 1 rfl rfl 3 (by decide) 2 rfl rfl dX3_sum_23 ?_
        refine lv_topi (fun x4_3 ex4_3 => ?_)
        have hf := lt_nm hf ex4_3
        refine lv_istore (lv' := [(4, .int x4_3), (0, .ref (aG 0)), (1, .int x1), (2, .int x2), (3, .int x3)]) hC.1 hC.2.1 dX3_sum_26 hl (by decide) rfl (fun ls hl => ?_)
        refine lv_iload hC.1 hC.2.1 dX3_sum_28 (lv_at hl 0 rfl) ?_
        refine lv_bipush (v := 43) hC.1 hC.2.1 dX3_sum_30 (by decide) ?_
        refine lv_icmp_eq (tgt := 45) hC.1 hC.2.1 dX3_sum_32 (by decide) (fun hc_4 => ?_) (fun hc_4 => ?_)
        · have hf := ite_t hf hc_4
          exact t3_sum_45 rec hC dp hrec ih  _ _ _ _ _ _ _ _ _ _ hf hW (lv_sub hl [1, 2, 4, 0] rfl)
        · have hf := ite_f hf hc_4
          refine lv_iload hC.1 hC.2.1 dX3_sum_35 (lv_at hl 0 rfl) ?_
          refine lv_bipush (v := 45) hC.1 hC.2.1 dX3_sum_37 (by decide) ?_
          refine lv_icmp_eq (tgt := 45) hC.1 hC.2.1 dX3_sum_39 (by decide) (fun hc_5 => ?_) (fun hc_5 => ?_)
          · have hf := ite_t hf hc_5
            exact t3_sum_45 rec hC dp hrec ih  _ _ _ _ _ _ _ _ _ _ hf hW (lv_sub hl [1, 2, 4, 0] rfl)
          · have hf := ite_f hf hc_5
            refine lv_goto (tgt := 74) hC.1 hC.2.1 dX3_sum_42 (by decide) ?_
            exact t3_sum_74 rec hC dp hrec  _ _ _ _ _ _ _ _ hf hW (lv_sub hl [3] rfl)
set_option maxRecDepth 100000 in
set_option maxHeartbeats 4000000 in
theorem t3_sum_0 (rec : Int32 → Ob → Ob → Ob → Option (Int32 × Ob × Ob × Ob)) (hC : Cx p s m args meth c cX3_sum 5 wsX3_sum RX3 (some .boolean)) (dp : Nat) (hrec : ∀ {x1 : Int32} {SG : Ob} {ST : Ob} {SC : Ob} {res : Int32 × Ob × Ob × Ob}, rec x1 SG ST SC = some res → GCi l yX3_part wsX3_part (rm3_part dp) [.ref (aG 0), .int x1] D cy ad (w3 cy aG aT aC (.ref (aI 0)) SG ++ (w10 cy aT ST ++ (w2 cy aC SC))) (w3 cy aG aT aC (.ref (aI 0)) (res.2.1) ++ (w10 cy aT (res.2.2.1) ++ (w2 cy aC (res.2.2.2)))) (res.1)) : ∀ (x1 : Int32) (SG : Ob) (ST : Ob) (SC : Ob) (res : Int32 × Ob × Ob × Ob) (H : Heap) (locs : List Loc) (ls : Array Slot), f3_sum rec x1 SG ST SC = some res → GW D cy ad (w3 cy aG aT aC (.ref (aI 0)) SG ++ (w10 cy aT ST ++ (w2 cy aC SC))) A s H locs → lv_has ls 5 [(0, .ref (aG 0)), (1, .int x1)] → W p l e (rm3_sum dp) s m args below meth c H locs 0 0 (MQ below (QI D cy (w3 cy aG aT aC (.ref (aI 0)) (res.2.1) ++ (w10 cy aT (res.2.2.1) ++ (w2 cy aC (res.2.2.2)))) A (res.1)) args s 0 0 A) (F0 m 0 ls []) := by
  intro x1 SG ST SC res H locs ls hf hW hl
  unfold f3_sum at hf
  refine lv_aload_n hC.1 hC.2.1 dX3_sum_0 rfl (lv_at hl 0 rfl) ?_
  refine lv_iload_n hC.1 hC.2.1 dX3_sum_1 rfl (lv_at hl 1 rfl) ?_
  obtain ⟨r_1, hg_2, hf⟩ := bd_of hf
  refine g_calliV (w' := w3 cy aG aT aC (.ref (aI 0)) (r_1.2.1) ++ (w10 cy aT (r_1.2.2.1) ++ (w2 cy aC (r_1.2.2.2)))) hC hW (c3_product l D cy ad aG aT aC aI rec dp hrec hg_2) (cwV 1 hC.2.2.2.2.1 gX3_sum_X3_product rfl rfl rfl hdV3_product ⟨by simp only [rm3_product, rm3_sum]; omega, by simp only [rm3_product, rm3_sum]; omega⟩) (Sub.all _ _) 0 3 rfl rfl rfl rfl hl.1 rfl (Nat.le_of_ble_eq_true rfl) dX3_sum_2 ⟨Nat.zero_le _, Nat.zero_le _⟩ (fun H locs hW => ?_)
  refine lv_topi (fun x2_3 ex2_3 => ?_)
  have hf := lt_nm hf ex2_3
  refine lv_istore_n (lv' := [(2, .int x2_3), (0, .ref (aG 0)), (1, .int x1)]) hC.1 hC.2.1 dX3_sum_5 rfl hl (by decide) rfl (fun ls hl => ?_)
  refine lv_iconst (v := 0) hC.1 hC.2.1 dX3_sum_6 (by decide) ?_
  refine lv_istore_n (lv' := [(3, .int 0), (2, .int x2_3), (0, .ref (aG 0)), (1, .int x1)]) hC.1 hC.2.1 dX3_sum_7 rfl hl (by decide) rfl (fun ls hl => ?_)
  exact t3_sum_8 rec hC dp hrec _ _ _ _ _ _ _ _ _ _ _ hf hW (lv_sub hl [2, 3, 1, 0] rfl)
set_option maxRecDepth 100000 in
set_option maxHeartbeats 4000000 in
theorem c3_sum (l : Launch) (D : va_G) (cy : Nat → ClassId) (ad : Nat → Nat) (aG : Nat → Nat) (aT : Nat → Nat) (aC : Nat → Nat) (aI : Nat → Nat) (rec : Int32 → Ob → Ob → Ob → Option (Int32 × Ob × Ob × Ob)) (dp : Nat) (hrec : ∀ {x1 : Int32} {SG : Ob} {ST : Ob} {SC : Ob} {res : Int32 × Ob × Ob × Ob}, rec x1 SG ST SC = some res → GCi l yX3_part wsX3_part (rm3_part dp) [.ref (aG 0), .int x1] D cy ad (w3 cy aG aT aC (.ref (aI 0)) SG ++ (w10 cy aT ST ++ (w2 cy aC SC))) (w3 cy aG aT aC (.ref (aI 0)) (res.2.1) ++ (w10 cy aT (res.2.2.1) ++ (w2 cy aC (res.2.2.2)))) (res.1)) : ∀ {x1 : Int32} {SG : Ob} {ST : Ob} {SC : Ob} {res : Int32 × Ob × Ob × Ob}, f3_sum rec x1 SG ST SC = some res → GCi l yX3_sum wsX3_sum (rm3_sum dp) [.ref (aG 0), .int x1] D cy ad (w3 cy aG aT aC (.ref (aI 0)) SG ++ (w10 cy aT ST ++ (w2 cy aC SC))) (w3 cy aG aT aC (.ref (aI 0)) (res.2.1) ++ (w10 cy aT (res.2.2.1) ++ (w2 cy aC (res.2.2.2)))) (res.1) := fun {x1} {SG} {ST} {SC} {res} h sz => GC.start (own := RX3) (Qc := fun A => QI D cy (w3 cy aG aT aC (.ref (aI 0)) (res.2.1) ++ (w10 cy aT (res.2.2.1) ++ (w2 cy aC (res.2.2.2)))) A (res.1)) sz (by decide) rfl rfl (Nat.le_of_ble_eq_true rfl) (fun p e s m below meth c A ls hC hW hl => t3_sum_0 rec hC dp hrec _ _ _ _ _ _ _ _ h hW (lv_sub hl [0, 1] rfl))
theorem hin3_test_3 : ∀ x ∈ u_ws RX3 TX3 4, x ∈ wsX3_test := fun _ h => List.mem_cons_of_mem _ (List.mem_append_left _ (List.mem_append_left _ (List.mem_append_right _ h)))
theorem hin3_test_10 : ∀ x ∈ u_ws RX10 TX10 8, x ∈ wsX3_test := fun _ h => List.mem_cons_of_mem _ (List.mem_append_left _ (List.mem_append_right _ h))
set_option maxRecDepth 100000 in
set_option maxHeartbeats 4000000 in
theorem t3_test_52 (rec : Int32 → Ob → Ob → Ob → Option (Int32 × Ob × Ob × Ob)) (hC : Cx p s m args meth c cX3_test 4 wsX3_test RX3 (some .boolean)) (dp : Nat) (hrec : ∀ {x1 : Int32} {SG : Ob} {ST : Ob} {SC : Ob} {res : Int32 × Ob × Ob × Ob}, rec x1 SG ST SC = some res → GCi l yX3_part wsX3_part (rm3_part dp) [.ref (aG 0), .int x1] D cy ad (w3 cy aG aT aC (.ref (aI 0)) SG ++ (w10 cy aT ST ++ (w2 cy aC SC))) (w3 cy aG aT aC (.ref (aI 0)) (res.2.1) ++ (w10 cy aT (res.2.2.1) ++ (w2 cy aC (res.2.2.2)))) (res.1)) : ∀ (x2 : Int32) (SG : Ob) (ST : Ob) (SC : Ob) (res : Int32 × Ob × Ob × Ob) (H : Heap) (locs : List Loc) (ls : Array Slot), f3_test_52 rec x2 SG ST SC = some res → GW D cy ad (w3 cy aG aT aC (.ref (aI 0)) SG ++ (w10 cy aT ST ++ (w2 cy aC SC))) A s H locs → lv_has ls 4 [(2, .int x2)] → W p l e (rm3_test dp) s m args below meth c H locs 0 0 (MQ below (QI D cy (w3 cy aG aT aC (.ref (aI 0)) (res.2.1) ++ (w10 cy aT (res.2.2.1) ++ (w2 cy aC (res.2.2.2)))) A (res.1)) args s 0 0 A) (F0 m 52 ls []) := by
  intro x2 SG ST SC res H locs ls hf hW hl
  unfold f3_test_52 at hf
  refine lv_iload_n hC.1 hC.2.1 dX3_test_52 rfl (lv_at hl 0 rfl) ?_
  obtain ⟨hz, hf⟩ := ck_of hf
  obtain rfl := Option.some.inj hf
  exact g_zret hC hW hz dX3_test_53
set_option maxRecDepth 100000 in
set_option maxHeartbeats 4000000 in
theorem t3_test_30 (rec : Int32 → Ob → Ob → Ob → Option (Int32 × Ob × Ob × Ob)) (hC : Cx p s m args meth c cX3_test 4 wsX3_test RX3 (some .boolean)) (dp : Nat) (hrec : ∀ {x1 : Int32} {SG : Ob} {ST : Ob} {SC : Ob} {res : Int32 × Ob × Ob × Ob}, rec x1 SG ST SC = some res → GCi l yX3_part wsX3_part (rm3_part dp) [.ref (aG 0), .int x1] D cy ad (w3 cy aG aT aC (.ref (aI 0)) SG ++ (w10 cy aT ST ++ (w2 cy aC SC))) (w3 cy aG aT aC (.ref (aI 0)) (res.2.1) ++ (w10 cy aT (res.2.2.1) ++ (w2 cy aC (res.2.2.2)))) (res.1)) : ∀ (x1 : Int32) (x3 : Int32) (SG : Ob) (ST : Ob) (SC : Ob) (res : Int32 × Ob × Ob × Ob) (H : Heap) (locs : List Loc) (ls : Array Slot), f3_test_30 rec x1 x3 SG ST SC = some res → GW D cy ad (w3 cy aG aT aC (.ref (aI 0)) SG ++ (w10 cy aT ST ++ (w2 cy aC SC))) A s H locs → lv_has ls 4 [(0, .ref (aG 0)), (1, .int x1), (3, .int x3)] → W p l e (rm3_test dp) s m args below meth c H locs 0 0 (MQ below (QI D cy (w3 cy aG aT aC (.ref (aI 0)) (res.2.1) ++ (w10 cy aT (res.2.2.1) ++ (w2 cy aC (res.2.2.2)))) A (res.1)) args s 0 0 A) (F0 m 30 ls []) := by
  intro x1 x3 SG ST SC res H locs ls hf hW hl
  unfold f3_test_30 at hf
  refine lv_aload_n hC.1 hC.2.1 dX3_test_30 rfl (lv_at hl 0 rfl) ?_
  refine g_get hC hW hin3_test_3 0 rfl rfl 0 (by decide) 1 rfl rfl dX3_test_31 ?_
  obtain ⟨r_1, hg_2, hf⟩ := bd_of hf
  refine g_callvV (w' := w3 cy aG aT aC (.ref (aI 0)) SG ++ (w10 cy aT r_1 ++ (w2 cy aC SC))) hC hW (c10_advance l D cy ad aT hg_2) (cwV 0 hC.2.2.2.2.1 gX3_test_X10_advance rfl rfl rfl hdV10_advance ⟨by simp only [rm10_advance, rm3_test]; omega, by simp only [rm10_advance, rm3_test]; omega⟩) (⟨[1, 2, 3], [0, 4, 5, 6, 7], [0, 5, 6, 7, 1, 2, 3, 4], w3 cy aG aT aC (.ref (aI 0)) SG ++ (w2 cy aC SC), rfl, rfl, rfl, rfl, by decide, rfl, rfl⟩) 0 9 rfl rfl rfl rfl hl.1 rfl (Nat.le_of_ble_eq_true rfl) dX3_test_34 ⟨Nat.zero_le _, Nat.zero_le _⟩ (fun H locs hW => ?_)
  refine lv_aload_n hC.1 hC.2.1 dX3_test_37 rfl (lv_at hl 0 rfl) ?_
  refine lv_iload_n hC.1 hC.2.1 dX3_test_38 rfl (lv_at hl 1 rfl) ?_
  obtain ⟨r_3, hg_4, hf⟩ := bd_of hf
  refine g_calliV (w' := w3 cy aG aT aC (.ref (aI 0)) (r_3.2.1) ++ (w10 cy aT (r_3.2.2.1) ++ (w2 cy aC (r_3.2.2.2)))) hC hW (c3_sum l D cy ad aG aT aC aI rec dp hrec hg_4) (cwV 1 hC.2.2.2.2.1 gX3_test_X3_sum rfl rfl rfl hdV3_sum ⟨by simp only [rm3_sum, rm3_test]; omega, by simp only [rm3_sum, rm3_test]; omega⟩) (Sub.all _ _) 0 3 rfl rfl rfl rfl hl.1 rfl (Nat.le_of_ble_eq_true rfl) dX3_test_39 ⟨Nat.zero_le _, Nat.zero_le _⟩ (fun H locs hW => ?_)
  refine lv_topi (fun x2_5 ex2_5 => ?_)
  have hf := lt_nm hf ex2_5
  refine lv_istore_n (lv' := [(2, .int x2_5), (0, .ref (aG 0)), (1, .int x1), (3, .int x3)]) hC.1 hC.2.1 dX3_test_42 rfl hl (by decide) rfl (fun ls hl => ?_)
  refine lv_aload_n hC.1 hC.2.1 dX3_test_43 rfl (lv_at hl 1 rfl) ?_
  refine g_get hC hW hin3_test_3 0 rfl rfl 1 (by decide) 3 rfl rfl dX3_test_44 ?_
  refine lv_iload_n hC.1 hC.2.1 dX3_test_47 rfl (lv_at hl 3 rfl) ?_
  refine lv_iconst (v := 0) hC.1 hC.2.1 dX3_test_48 (by decide) ?_
  obtain ⟨r_6, hg_7, hf⟩ := bd_of hf
  refine g_callvV (w' := w3 cy aG aT aC (.ref (aI 0)) (r_3.2.1) ++ (w10 cy aT (r_3.2.2.1) ++ (w2 cy aC r_6))) hC hW (c2_put l D cy ad aC hg_7) (cwV 2 hC.2.2.2.2.1 gX3_test_X2_put rfl rfl rfl hdV2_put ⟨by simp only [rm2_put, rm3_test]; omega, by simp only [rm2_put, rm3_test]; omega⟩) (⟨[4, 5, 6, 7], [0, 1, 2, 3], [0, 1, 2, 3, 4, 5, 6, 7], w3 cy aG aT aC (.ref (aI 0)) (r_3.2.1) ++ (w10 cy aT (r_3.2.2.1)), rfl, rfl, rfl, rfl, by decide, rfl, rfl⟩) 0 2 rfl rfl rfl rfl hl.1 rfl (Nat.le_of_ble_eq_true rfl) dX3_test_49 ⟨Nat.zero_le _, Nat.zero_le _⟩ (fun H locs hW => ?_)
  exact t3_test_52 rec hC dp hrec  _ _ _ _ _ _ _ _ hf hW (lv_sub hl [0] rfl)
set_option maxRecDepth 100000 in
set_option maxHeartbeats 4000000 in
theorem t3_test_0 (rec : Int32 → Ob → Ob → Ob → Option (Int32 × Ob × Ob × Ob)) (hC : Cx p s m args meth c cX3_test 4 wsX3_test RX3 (some .boolean)) (dp : Nat) (hrec : ∀ {x1 : Int32} {SG : Ob} {ST : Ob} {SC : Ob} {res : Int32 × Ob × Ob × Ob}, rec x1 SG ST SC = some res → GCi l yX3_part wsX3_part (rm3_part dp) [.ref (aG 0), .int x1] D cy ad (w3 cy aG aT aC (.ref (aI 0)) SG ++ (w10 cy aT ST ++ (w2 cy aC SC))) (w3 cy aG aT aC (.ref (aI 0)) (res.2.1) ++ (w10 cy aT (res.2.2.1) ++ (w2 cy aC (res.2.2.2)))) (res.1)) : ∀ (x1 : Int32) (SG : Ob) (ST : Ob) (SC : Ob) (res : Int32 × Ob × Ob × Ob) (H : Heap) (locs : List Loc) (ls : Array Slot), f3_test rec x1 SG ST SC = some res → GW D cy ad (w3 cy aG aT aC (.ref (aI 0)) SG ++ (w10 cy aT ST ++ (w2 cy aC SC))) A s H locs → lv_has ls 4 [(0, .ref (aG 0)), (1, .int x1)] → W p l e (rm3_test dp) s m args below meth c H locs 0 0 (MQ below (QI D cy (w3 cy aG aT aC (.ref (aI 0)) (res.2.1) ++ (w10 cy aT (res.2.2.1) ++ (w2 cy aC (res.2.2.2)))) A (res.1)) args s 0 0 A) (F0 m 0 ls []) := by
  intro x1 SG ST SC res H locs ls hf hW hl
  unfold f3_test at hf
  refine lv_aload_n hC.1 hC.2.1 dX3_test_0 rfl (lv_at hl 0 rfl) ?_
  refine lv_iload_n hC.1 hC.2.1 dX3_test_1 rfl (lv_at hl 1 rfl) ?_
  obtain ⟨r_1, hg_2, hf⟩ := bd_of hf
  refine g_calliV (w' := w3 cy aG aT aC (.ref (aI 0)) (r_1.2.1) ++ (w10 cy aT (r_1.2.2.1) ++ (w2 cy aC (r_1.2.2.2)))) hC hW (c3_sum l D cy ad aG aT aC aI rec dp hrec hg_2) (cwV 1 hC.2.2.2.2.1 gX3_test_X3_sum rfl rfl rfl hdV3_sum ⟨by simp only [rm3_sum, rm3_test]; omega, by simp only [rm3_sum, rm3_test]; omega⟩) (Sub.all _ _) 0 3 rfl rfl rfl rfl hl.1 rfl (Nat.le_of_ble_eq_true rfl) dX3_test_2 ⟨Nat.zero_le _, Nat.zero_le _⟩ (fun H locs hW => ?_)
  refine lv_topi (fun x2_3 ex2_3 => ?_)
  have hf := lt_nm hf ex2_3
  refine lv_istore_n (lv' := [(2, .int x2_3), (0, .ref (aG 0)), (1, .int x1)]) hC.1 hC.2.1 dX3_test_5 rfl hl (by decide) rfl (fun ls hl => ?_)
  refine lv_aload_n hC.1 hC.2.1 dX3_test_6 rfl (lv_at hl 1 rfl) ?_
  refine g_get hC hW hin3_test_3 0 rfl rfl 0 (by decide) 1 rfl rfl dX3_test_7 ?_
  refine g_get hC hW hin3_test_10 1 rfl rfl 3 (by decide) 2 rfl rfl dX3_test_10 ?_
  refine lv_topi (fun x3_4 ex3_4 => ?_)
  have hf := lt_nm hf ex3_4
  refine lv_istore_n (lv' := [(3, .int x3_4), (2, .int x2_3), (0, .ref (aG 0)), (1, .int x1)]) hC.1 hC.2.1 dX3_test_13 rfl hl (by decide) rfl (fun ls hl => ?_)
  refine lv_iload_n hC.1 hC.2.1 dX3_test_14 rfl (lv_at hl 1 rfl) ?_
  refine lv_if_eq (tgt := 52) hC.1 hC.2.1 dX3_test_15 (by decide) (fun hc_5 => ?_) (fun hc_5 => ?_)
  · have hf := ite_t hf hc_5
    exact t3_test_52 rec hC dp hrec  _ _ _ _ _ _ _ _ hf hW (lv_sub hl [1] rfl)
  · have hf := ite_f hf hc_5
    refine lv_iload_n hC.1 hC.2.1 dX3_test_18 rfl (lv_at hl 0 rfl) ?_
    refine lv_bipush (v := 60) hC.1 hC.2.1 dX3_test_19 (by decide) ?_
    refine lv_icmp_eq (tgt := 30) hC.1 hC.2.1 dX3_test_21 (by decide) (fun hc_6 => ?_) (fun hc_6 => ?_)
    · have hf := ite_t hf hc_6
      exact t3_test_30 rec hC dp hrec  _ _ _ _ _ _ _ _ _ hf hW (lv_sub hl [2, 3, 0] rfl)
    · have hf := ite_f hf hc_6
      refine lv_iload_n hC.1 hC.2.1 dX3_test_24 rfl (lv_at hl 0 rfl) ?_
      refine lv_bipush (v := 61) hC.1 hC.2.1 dX3_test_25 (by decide) ?_
      refine lv_icmp_ne (tgt := 52) hC.1 hC.2.1 dX3_test_27 (by decide) (fun hc_7 => ?_) (fun hc_7 => ?_)
      · have hf := ite_f hf hc_7
        exact t3_test_52 rec hC dp hrec  _ _ _ _ _ _ _ _ hf hW (lv_sub hl [1] rfl)
      · have hf := ite_t hf hc_7
        exact t3_test_30 rec hC dp hrec  _ _ _ _ _ _ _ _ _ hf hW (lv_sub hl [2, 3, 0] rfl)
set_option maxRecDepth 100000 in
set_option maxHeartbeats 4000000 in
theorem c3_test (l : Launch) (D : va_G) (cy : Nat → ClassId) (ad : Nat → Nat) (aG : Nat → Nat) (aT : Nat → Nat) (aC : Nat → Nat) (aI : Nat → Nat) (rec : Int32 → Ob → Ob → Ob → Option (Int32 × Ob × Ob × Ob)) (dp : Nat) (hrec : ∀ {x1 : Int32} {SG : Ob} {ST : Ob} {SC : Ob} {res : Int32 × Ob × Ob × Ob}, rec x1 SG ST SC = some res → GCi l yX3_part wsX3_part (rm3_part dp) [.ref (aG 0), .int x1] D cy ad (w3 cy aG aT aC (.ref (aI 0)) SG ++ (w10 cy aT ST ++ (w2 cy aC SC))) (w3 cy aG aT aC (.ref (aI 0)) (res.2.1) ++ (w10 cy aT (res.2.2.1) ++ (w2 cy aC (res.2.2.2)))) (res.1)) : ∀ {x1 : Int32} {SG : Ob} {ST : Ob} {SC : Ob} {res : Int32 × Ob × Ob × Ob}, f3_test rec x1 SG ST SC = some res → GCi l yX3_test wsX3_test (rm3_test dp) [.ref (aG 0), .int x1] D cy ad (w3 cy aG aT aC (.ref (aI 0)) SG ++ (w10 cy aT ST ++ (w2 cy aC SC))) (w3 cy aG aT aC (.ref (aI 0)) (res.2.1) ++ (w10 cy aT (res.2.2.1) ++ (w2 cy aC (res.2.2.2)))) (res.1) := fun {x1} {SG} {ST} {SC} {res} h sz => GC.start (own := RX3) (Qc := fun A => QI D cy (w3 cy aG aT aC (.ref (aI 0)) (res.2.1) ++ (w10 cy aT (res.2.2.1) ++ (w2 cy aC (res.2.2.2)))) A (res.1)) sz (by decide) rfl rfl (Nat.le_of_ble_eq_true rfl) (fun p e s m below meth c A ls hC hW hl => t3_test_0 rec hC dp hrec _ _ _ _ _ _ _ _ h hW (lv_sub hl [0, 1] rfl))
theorem hin3_expression_3 : ∀ x ∈ u_ws RX3 TX3 4, x ∈ wsX3_expression := fun _ h => List.mem_cons_of_mem _ (List.mem_append_left _ (List.mem_append_left _ (List.mem_append_right _ h)))
theorem hin3_expression_10 : ∀ x ∈ u_ws RX10 TX10 8, x ∈ wsX3_expression := fun _ h => List.mem_cons_of_mem _ (List.mem_append_left _ (List.mem_append_right _ h))
set_option maxRecDepth 100000 in
set_option maxHeartbeats 4000000 in
theorem t3_expression_45 (rec : Int32 → Ob → Ob → Ob → Option (Int32 × Ob × Ob × Ob)) (hC : Cx p s m args meth c cX3_expression 5 wsX3_expression RX3 (some .boolean)) (dp : Nat) (hrec : ∀ {x1 : Int32} {SG : Ob} {ST : Ob} {SC : Ob} {res : Int32 × Ob × Ob × Ob}, rec x1 SG ST SC = some res → GCi l yX3_part wsX3_part (rm3_part dp) [.ref (aG 0), .int x1] D cy ad (w3 cy aG aT aC (.ref (aI 0)) SG ++ (w10 cy aT ST ++ (w2 cy aC SC))) (w3 cy aG aT aC (.ref (aI 0)) (res.2.1) ++ (w10 cy aT (res.2.2.1) ++ (w2 cy aC (res.2.2.2)))) (res.1)) {k8 : Int32 → Int32 → Int32 → Ob → Ob → Ob → Option (Int32 × Ob × Ob × Ob)} (hk8 : ∀ (x1 : Int32) (x2 : Int32) (x3 : Int32) (SG : Ob) (ST : Ob) (SC : Ob) (res : Int32 × Ob × Ob × Ob) (H : Heap) (locs : List Loc) (ls : Array Slot), k8 x1 x2 x3 SG ST SC = some res → GW D cy ad (w3 cy aG aT aC (.ref (aI 0)) SG ++ (w10 cy aT ST ++ (w2 cy aC SC))) A s H locs → lv_has ls 5 [(0, .ref (aG 0)), (1, .int x1), (2, .int x2), (3, .int x3)] → W p l e (rm3_expression dp) s m args below meth c H locs 0 0 (MQ below (QI D cy (w3 cy aG aT aC (.ref (aI 0)) (res.2.1) ++ (w10 cy aT (res.2.2.1) ++ (w2 cy aC (res.2.2.2)))) A (res.1)) args s 0 0 A) (F0 m 8 ls [])) : ∀ (x1 : Int32) (x3 : Int32) (x4 : Int32) (SG : Ob) (ST : Ob) (SC : Ob) (res : Int32 × Ob × Ob × Ob) (H : Heap) (locs : List Loc) (ls : Array Slot), f3_expression_45 rec k8 x1 x3 x4 SG ST SC = some res → GW D cy ad (w3 cy aG aT aC (.ref (aI 0)) SG ++ (w10 cy aT ST ++ (w2 cy aC SC))) A s H locs → lv_has ls 5 [(0, .ref (aG 0)), (1, .int x1), (3, .int x3), (4, .int x4)] → W p l e (rm3_expression dp) s m args below meth c H locs 0 0 (MQ below (QI D cy (w3 cy aG aT aC (.ref (aI 0)) (res.2.1) ++ (w10 cy aT (res.2.2.1) ++ (w2 cy aC (res.2.2.2)))) A (res.1)) args s 0 0 A) (F0 m 45 ls []) := by
  intro x1 x3 x4 SG ST SC res H locs ls hf hW hl
  unfold f3_expression_45 at hf
  refine lv_aload_n hC.1 hC.2.1 dX3_expression_45 rfl (lv_at hl 0 rfl) ?_
  refine g_get hC hW hin3_expression_3 0 rfl rfl 0 (by decide) 1 rfl rfl dX3_expression_46 ?_
  obtain ⟨r_1, hg_2, hf⟩ := bd_of hf
  refine g_callvV (w' := w3 cy aG aT aC (.ref (aI 0)) SG ++ (w10 cy aT r_1 ++ (w2 cy aC SC))) hC hW (c10_advance l D cy ad aT hg_2) (cwV 0 hC.2.2.2.2.1 gX3_expression_X10_advance rfl rfl rfl hdV10_advance ⟨by simp only [rm10_advance, rm3_expression]; omega, by simp only [rm10_advance, rm3_expression]; omega⟩) (⟨[1, 2, 3], [0, 4, 5, 6, 7], [0, 5, 6, 7, 1, 2, 3, 4], w3 cy aG aT aC (.ref (aI 0)) SG ++ (w2 cy aC SC), rfl, rfl, rfl, rfl, by decide, rfl, rfl⟩) 0 9 rfl rfl rfl rfl hl.1 rfl (Nat.le_of_ble_eq_true rfl) dX3_expression_49 ⟨Nat.zero_le _, Nat.zero_le _⟩ (fun H locs hW => ?_)
  refine lv_aload_n hC.1 hC.2.1 dX3_expression_52 rfl (lv_at hl 0 rfl) ?_
  refine lv_iload_n hC.1 hC.2.1 dX3_expression_53 rfl (lv_at hl 1 rfl) ?_
  obtain ⟨r_3, hg_4, hf⟩ := bd_of hf
  refine g_calliV (w' := w3 cy aG aT aC (.ref (aI 0)) (r_3.2.1) ++ (w10 cy aT (r_3.2.2.1) ++ (w2 cy aC (r_3.2.2.2)))) hC hW (c3_test l D cy ad aG aT aC aI rec dp hrec hg_4) (cwV 1 hC.2.2.2.2.1 gX3_expression_X3_test rfl rfl rfl hdV3_test ⟨by simp only [rm3_expression, rm3_test]; omega, by simp only [rm3_expression, rm3_test]; omega⟩) (Sub.all _ _) 0 3 rfl rfl rfl rfl hl.1 rfl (Nat.le_of_ble_eq_true rfl) dX3_expression_54 ⟨Nat.zero_le _, Nat.zero_le _⟩ (fun H locs hW => ?_)
  refine lv_topi (fun x2_5 ex2_5 => ?_)
  have hf := lt_nm hf ex2_5
  refine lv_istore_n (lv' := [(2, .int x2_5), (0, .ref (aG 0)), (1, .int x1), (3, .int x3), (4, .int x4)]) hC.1 hC.2.1 dX3_expression_57 rfl hl (by decide) rfl (fun ls hl => ?_)
  refine lv_aload_n hC.1 hC.2.1 dX3_expression_58 rfl (lv_at hl 1 rfl) ?_
  refine g_get hC hW hin3_expression_3 0 rfl rfl 1 (by decide) 3 rfl rfl dX3_expression_59 ?_
  refine lv_iload hC.1 hC.2.1 dX3_expression_62 (lv_at hl 4 rfl) ?_
  refine lv_iconst (v := 0) hC.1 hC.2.1 dX3_expression_64 (by decide) ?_
  obtain ⟨r_6, hg_7, hf⟩ := bd_of hf
  refine g_callvV (w' := w3 cy aG aT aC (.ref (aI 0)) (r_3.2.1) ++ (w10 cy aT (r_3.2.2.1) ++ (w2 cy aC r_6))) hC hW (c2_put l D cy ad aC hg_7) (cwV 2 hC.2.2.2.2.1 gX3_expression_X2_put rfl rfl rfl hdV2_put ⟨by simp only [rm2_put, rm3_expression]; omega, by simp only [rm2_put, rm3_expression]; omega⟩) (⟨[4, 5, 6, 7], [0, 1, 2, 3], [0, 1, 2, 3, 4, 5, 6, 7], w3 cy aG aT aC (.ref (aI 0)) (r_3.2.1) ++ (w10 cy aT (r_3.2.2.1)), rfl, rfl, rfl, rfl, by decide, rfl, rfl⟩) 0 2 rfl rfl rfl rfl hl.1 rfl (Nat.le_of_ble_eq_true rfl) dX3_expression_65 ⟨Nat.zero_le _, Nat.zero_le _⟩ (fun H locs hW => ?_)
  obtain ⟨x3_8, ex3_8⟩ : ∃ y : Int32, y = x3 + 1 := ⟨_, rfl⟩
  have hf := lt_nm hf ex3_8
  refine lv_iinc (v := x3_8) (lv' := [(3, .int x3_8), (2, .int x2_5), (0, .ref (aG 0)), (1, .int x1), (4, .int x4)]) hC.1 hC.2.1 dX3_expression_68 hl (k := 3) rfl (by rw [ex3_8]; rfl) (by decide) rfl (fun ls hl => ?_)
  refine lv_goto (tgt := 8) hC.1 hC.2.1 dX3_expression_71 (by decide) ?_
  exact hk8 _ _ _ _ _ _ _ _ _ _ hf hW (lv_sub hl [2, 3, 1, 0] rfl)
set_option maxRecDepth 100000 in
set_option maxHeartbeats 4000000 in
theorem t3_expression_74 (rec : Int32 → Ob → Ob → Ob → Option (Int32 × Ob × Ob × Ob)) (hC : Cx p s m args meth c cX3_expression 5 wsX3_expression RX3 (some .boolean)) (dp : Nat) (hrec : ∀ {x1 : Int32} {SG : Ob} {ST : Ob} {SC : Ob} {res : Int32 × Ob × Ob × Ob}, rec x1 SG ST SC = some res → GCi l yX3_part wsX3_part (rm3_part dp) [.ref (aG 0), .int x1] D cy ad (w3 cy aG aT aC (.ref (aI 0)) SG ++ (w10 cy aT ST ++ (w2 cy aC SC))) (w3 cy aG aT aC (.ref (aI 0)) (res.2.1) ++ (w10 cy aT (res.2.2.1) ++ (w2 cy aC (res.2.2.2)))) (res.1)) : ∀ (x2 : Int32) (SG : Ob) (ST : Ob) (SC : Ob) (res : Int32 × Ob × Ob × Ob) (H : Heap) (locs : List Loc) (ls : Array Slot), f3_expression_74 rec x2 SG ST SC = some res → GW D cy ad (w3 cy aG aT aC (.ref (aI 0)) SG ++ (w10 cy aT ST ++ (w2 cy aC SC))) A s H locs → lv_has ls 5 [(2, .int x2)] → W p l e (rm3_expression dp) s m args below meth c H locs 0 0 (MQ below (QI D cy (w3 cy aG aT aC (.ref (aI 0)) (res.2.1) ++ (w10 cy aT (res.2.2.1) ++ (w2 cy aC (res.2.2.2)))) A (res.1)) args s 0 0 A) (F0 m 74 ls []) := by
  intro x2 SG ST SC res H locs ls hf hW hl
  unfold f3_expression_74 at hf
  refine lv_iload_n hC.1 hC.2.1 dX3_expression_74 rfl (lv_at hl 0 rfl) ?_
  obtain ⟨hz, hf⟩ := ck_of hf
  obtain rfl := Option.some.inj hf
  exact g_zret hC hW hz dX3_expression_75
set_option maxRecDepth 100000 in
set_option maxHeartbeats 4000000 in
theorem t3_expression_8 (rec : Int32 → Ob → Ob → Ob → Option (Int32 × Ob × Ob × Ob)) (hC : Cx p s m args meth c cX3_expression 5 wsX3_expression RX3 (some .boolean)) (dp : Nat) (hrec : ∀ {x1 : Int32} {SG : Ob} {ST : Ob} {SC : Ob} {res : Int32 × Ob × Ob × Ob}, rec x1 SG ST SC = some res → GCi l yX3_part wsX3_part (rm3_part dp) [.ref (aG 0), .int x1] D cy ad (w3 cy aG aT aC (.ref (aI 0)) SG ++ (w10 cy aT ST ++ (w2 cy aC SC))) (w3 cy aG aT aC (.ref (aI 0)) (res.2.1) ++ (w10 cy aT (res.2.2.1) ++ (w2 cy aC (res.2.2.2)))) (res.1)) : ∀ n : Nat, ∀ (x1 : Int32) (x2 : Int32) (x3 : Int32) (SG : Ob) (ST : Ob) (SC : Ob) (res : Int32 × Ob × Ob × Ob) (H : Heap) (locs : List Loc) (ls : Array Slot), f3_expression_8 rec n x1 x2 x3 SG ST SC = some res → GW D cy ad (w3 cy aG aT aC (.ref (aI 0)) SG ++ (w10 cy aT ST ++ (w2 cy aC SC))) A s H locs → lv_has ls 5 [(0, .ref (aG 0)), (1, .int x1), (2, .int x2), (3, .int x3)] → W p l e (rm3_expression dp) s m args below meth c H locs 0 0 (MQ below (QI D cy (w3 cy aG aT aC (.ref (aI 0)) (res.2.1) ++ (w10 cy aT (res.2.2.1) ++ (w2 cy aC (res.2.2.2)))) A (res.1)) args s 0 0 A) (F0 m 8 ls []) := by
  intro n
  induction n with
  | zero =>
    intro _ _ _ _ _ _ _ _ _ _ hf _ _
    exact nomatch (show (none : Option (Int32 × Ob × Ob × Ob)) = some _ from hf)
  | succ n ih =>
    intro x1 x2 x3 SG ST SC res H locs ls hf hW hl
    rw [f3_expression_8] at hf
    refine lv_iload_n hC.1 hC.2.1 dX3_expression_8 rfl (lv_at hl 3 rfl) ?_
    refine lv_sipush (v := 1000) hC.1 hC.2.1 dX3_expression_9 (by decide) ?_
    refine lv_icmp_ge (tgt := 74) hC.1 hC.2.1 dX3_expression_12 (by decide) (fun hc_1 => ?_) (fun hc_1 => ?_)
    · have hf := ite_t hf hc_1
      exact t3_expression_74 rec hC dp hrec  _ _ _ _ _ _ _ _ hf hW (lv_sub hl [2] rfl)
    · have hf := ite_f hf hc_1
      refine lv_iload_n hC.1 hC.2.1 dX3_expression_15 rfl (lv_at hl 2 rfl) ?_
      refine lv_if_eq (tgt := 74) hC.1 hC.2.1 dX3_expression_16 (by decide) (fun hc_2 => ?_) (fun hc_2 => ?_)
      · have hf := ite_t hf hc_2
        exact t3_expression_74 rec hC dp hrec  _ _ _ _ _ _ _ _ hf hW (lv_sub hl [2] rfl)
      · have hf := ite_f hf hc_2
        refine lv_aload_n hC.1 hC.2.1 dX3_expression_19 rfl (lv_at hl 0 rfl) ?_
        refine g_get hC hW hin3_expression_3 0 rfl rfl 0 (by decide) 1 rfl rfl dX3_expression_20 ?_
        refine g_get hC hW hin3_expression_10 1 rfl rfl 3 (by decide) 2 rfl rfl dX3_expression_23 ?_
        refine lv_topi (fun x4_3 ex4_3 => ?_)
        have hf := lt_nm hf ex4_3
        refine lv_istore (lv' := [(4, .int x4_3), (0, .ref (aG 0)), (1, .int x1), (2, .int x2), (3, .int x3)]) hC.1 hC.2.1 dX3_expression_26 hl (by decide) rfl (fun ls hl => ?_)
        refine lv_iload hC.1 hC.2.1 dX3_expression_28 (lv_at hl 0 rfl) ?_
        refine lv_bipush (v := 27) hC.1 hC.2.1 dX3_expression_30 (by decide) ?_
        refine lv_icmp_eq (tgt := 45) hC.1 hC.2.1 dX3_expression_32 (by decide) (fun hc_4 => ?_) (fun hc_4 => ?_)
        · have hf := ite_t hf hc_4
          exact t3_expression_45 rec hC dp hrec ih  _ _ _ _ _ _ _ _ _ _ hf hW (lv_sub hl [1, 2, 4, 0] rfl)
        · have hf := ite_f hf hc_4
          refine lv_iload hC.1 hC.2.1 dX3_expression_35 (lv_at hl 0 rfl) ?_
          refine lv_bipush (v := 28) hC.1 hC.2.1 dX3_expression_37 (by decide) ?_
          refine lv_icmp_eq (tgt := 45) hC.1 hC.2.1 dX3_expression_39 (by decide) (fun hc_5 => ?_) (fun hc_5 => ?_)
          · have hf := ite_t hf hc_5
            exact t3_expression_45 rec hC dp hrec ih  _ _ _ _ _ _ _ _ _ _ hf hW (lv_sub hl [1, 2, 4, 0] rfl)
          · have hf := ite_f hf hc_5
            refine lv_goto (tgt := 74) hC.1 hC.2.1 dX3_expression_42 (by decide) ?_
            exact t3_expression_74 rec hC dp hrec  _ _ _ _ _ _ _ _ hf hW (lv_sub hl [3] rfl)
set_option maxRecDepth 100000 in
set_option maxHeartbeats 4000000 in
theorem t3_expression_0 (rec : Int32 → Ob → Ob → Ob → Option (Int32 × Ob × Ob × Ob)) (hC : Cx p s m args meth c cX3_expression 5 wsX3_expression RX3 (some .boolean)) (dp : Nat) (hrec : ∀ {x1 : Int32} {SG : Ob} {ST : Ob} {SC : Ob} {res : Int32 × Ob × Ob × Ob}, rec x1 SG ST SC = some res → GCi l yX3_part wsX3_part (rm3_part dp) [.ref (aG 0), .int x1] D cy ad (w3 cy aG aT aC (.ref (aI 0)) SG ++ (w10 cy aT ST ++ (w2 cy aC SC))) (w3 cy aG aT aC (.ref (aI 0)) (res.2.1) ++ (w10 cy aT (res.2.2.1) ++ (w2 cy aC (res.2.2.2)))) (res.1)) : ∀ (x1 : Int32) (SG : Ob) (ST : Ob) (SC : Ob) (res : Int32 × Ob × Ob × Ob) (H : Heap) (locs : List Loc) (ls : Array Slot), f3_expression rec x1 SG ST SC = some res → GW D cy ad (w3 cy aG aT aC (.ref (aI 0)) SG ++ (w10 cy aT ST ++ (w2 cy aC SC))) A s H locs → lv_has ls 5 [(0, .ref (aG 0)), (1, .int x1)] → W p l e (rm3_expression dp) s m args below meth c H locs 0 0 (MQ below (QI D cy (w3 cy aG aT aC (.ref (aI 0)) (res.2.1) ++ (w10 cy aT (res.2.2.1) ++ (w2 cy aC (res.2.2.2)))) A (res.1)) args s 0 0 A) (F0 m 0 ls []) := by
  intro x1 SG ST SC res H locs ls hf hW hl
  unfold f3_expression at hf
  refine lv_aload_n hC.1 hC.2.1 dX3_expression_0 rfl (lv_at hl 0 rfl) ?_
  refine lv_iload_n hC.1 hC.2.1 dX3_expression_1 rfl (lv_at hl 1 rfl) ?_
  obtain ⟨r_1, hg_2, hf⟩ := bd_of hf
  refine g_calliV (w' := w3 cy aG aT aC (.ref (aI 0)) (r_1.2.1) ++ (w10 cy aT (r_1.2.2.1) ++ (w2 cy aC (r_1.2.2.2)))) hC hW (c3_test l D cy ad aG aT aC aI rec dp hrec hg_2) (cwV 1 hC.2.2.2.2.1 gX3_expression_X3_test rfl rfl rfl hdV3_test ⟨by simp only [rm3_expression, rm3_test]; omega, by simp only [rm3_expression, rm3_test]; omega⟩) (Sub.all _ _) 0 3 rfl rfl rfl rfl hl.1 rfl (Nat.le_of_ble_eq_true rfl) dX3_expression_2 ⟨Nat.zero_le _, Nat.zero_le _⟩ (fun H locs hW => ?_)
  refine lv_topi (fun x2_3 ex2_3 => ?_)
  have hf := lt_nm hf ex2_3
  refine lv_istore_n (lv' := [(2, .int x2_3), (0, .ref (aG 0)), (1, .int x1)]) hC.1 hC.2.1 dX3_expression_5 rfl hl (by decide) rfl (fun ls hl => ?_)
  refine lv_iconst (v := 0) hC.1 hC.2.1 dX3_expression_6 (by decide) ?_
  refine lv_istore_n (lv' := [(3, .int 0), (2, .int x2_3), (0, .ref (aG 0)), (1, .int x1)]) hC.1 hC.2.1 dX3_expression_7 rfl hl (by decide) rfl (fun ls hl => ?_)
  exact t3_expression_8 rec hC dp hrec _ _ _ _ _ _ _ _ _ _ _ hf hW (lv_sub hl [2, 3, 1, 0] rfl)
set_option maxRecDepth 100000 in
set_option maxHeartbeats 4000000 in
theorem c3_expression (l : Launch) (D : va_G) (cy : Nat → ClassId) (ad : Nat → Nat) (aG : Nat → Nat) (aT : Nat → Nat) (aC : Nat → Nat) (aI : Nat → Nat) (rec : Int32 → Ob → Ob → Ob → Option (Int32 × Ob × Ob × Ob)) (dp : Nat) (hrec : ∀ {x1 : Int32} {SG : Ob} {ST : Ob} {SC : Ob} {res : Int32 × Ob × Ob × Ob}, rec x1 SG ST SC = some res → GCi l yX3_part wsX3_part (rm3_part dp) [.ref (aG 0), .int x1] D cy ad (w3 cy aG aT aC (.ref (aI 0)) SG ++ (w10 cy aT ST ++ (w2 cy aC SC))) (w3 cy aG aT aC (.ref (aI 0)) (res.2.1) ++ (w10 cy aT (res.2.2.1) ++ (w2 cy aC (res.2.2.2)))) (res.1)) : ∀ {x1 : Int32} {SG : Ob} {ST : Ob} {SC : Ob} {res : Int32 × Ob × Ob × Ob}, f3_expression rec x1 SG ST SC = some res → GCi l yX3_expression wsX3_expression (rm3_expression dp) [.ref (aG 0), .int x1] D cy ad (w3 cy aG aT aC (.ref (aI 0)) SG ++ (w10 cy aT ST ++ (w2 cy aC SC))) (w3 cy aG aT aC (.ref (aI 0)) (res.2.1) ++ (w10 cy aT (res.2.2.1) ++ (w2 cy aC (res.2.2.2)))) (res.1) := fun {x1} {SG} {ST} {SC} {res} h sz => GC.start (own := RX3) (Qc := fun A => QI D cy (w3 cy aG aT aC (.ref (aI 0)) (res.2.1) ++ (w10 cy aT (res.2.2.1) ++ (w2 cy aC (res.2.2.2)))) A (res.1)) sz (by decide) rfl rfl (Nat.le_of_ble_eq_true rfl) (fun p e s m below meth c A ls hC hW hl => t3_expression_0 rec hC dp hrec _ _ _ _ _ _ _ _ h hW (lv_sub hl [0, 1] rfl))
theorem hin3_part_3 : ∀ x ∈ u_ws RX3 TX3 4, x ∈ wsX3_part := fun _ h => List.mem_cons_of_mem _ (List.mem_append_left _ (List.mem_append_left _ (List.mem_append_right _ h)))
theorem hin3_part_10 : ∀ x ∈ u_ws RX10 TX10 8, x ∈ wsX3_part := fun _ h => List.mem_cons_of_mem _ (List.mem_append_left _ (List.mem_append_right _ h))
set_option maxRecDepth 100000 in
set_option maxHeartbeats 4000000 in
theorem t3_part_139 (rec : Int32 → Ob → Ob → Ob → Option (Int32 × Ob × Ob × Ob)) (hC : Cx p s m args meth c cX3_part 6 wsX3_part RX3 (some .boolean)) (dp : Nat) (hrec : ∀ {x1 : Int32} {SG : Ob} {ST : Ob} {SC : Ob} {res : Int32 × Ob × Ob × Ob}, rec x1 SG ST SC = some res → GCi l yX3_part wsX3_part (rm3_part dp) [.ref (aG 0), .int x1] D cy ad (w3 cy aG aT aC (.ref (aI 0)) SG ++ (w10 cy aT ST ++ (w2 cy aC SC))) (w3 cy aG aT aC (.ref (aI 0)) (res.2.1) ++ (w10 cy aT (res.2.2.1) ++ (w2 cy aC (res.2.2.2)))) (res.1)) : ∀ (z0 : Int32) (SG : Ob) (ST : Ob) (SC : Ob) (res : Int32 × Ob × Ob × Ob) (H : Heap) (locs : List Loc) (ls : Array Slot), f3_part_139 rec z0 SG ST SC = some res → GW D cy ad (w3 cy aG aT aC (.ref (aI 0)) SG ++ (w10 cy aT ST ++ (w2 cy aC SC))) A s H locs → lv_has ls 6 [] → W p l e (rm3_part (dp + 1)) s m args below meth c H locs 0 0 (MQ below (QI D cy (w3 cy aG aT aC (.ref (aI 0)) (res.2.1) ++ (w10 cy aT (res.2.2.1) ++ (w2 cy aC (res.2.2.2)))) A (res.1)) args s 0 0 A) (F0 m 139 ls [.int z0]) := by
  intro z0 SG ST SC res H locs ls hf hW hl
  unfold f3_part_139 at hf
  obtain ⟨hz, hf⟩ := ck_of hf
  obtain rfl := Option.some.inj hf
  exact g_zret hC hW hz dX3_part_139
set_option maxRecDepth 100000 in
set_option maxHeartbeats 4000000 in
theorem t3_part_138 (rec : Int32 → Ob → Ob → Ob → Option (Int32 × Ob × Ob × Ob)) (hC : Cx p s m args meth c cX3_part 6 wsX3_part RX3 (some .boolean)) (dp : Nat) (hrec : ∀ {x1 : Int32} {SG : Ob} {ST : Ob} {SC : Ob} {res : Int32 × Ob × Ob × Ob}, rec x1 SG ST SC = some res → GCi l yX3_part wsX3_part (rm3_part dp) [.ref (aG 0), .int x1] D cy ad (w3 cy aG aT aC (.ref (aI 0)) SG ++ (w10 cy aT ST ++ (w2 cy aC SC))) (w3 cy aG aT aC (.ref (aI 0)) (res.2.1) ++ (w10 cy aT (res.2.2.1) ++ (w2 cy aC (res.2.2.2)))) (res.1)) : ∀ (SG : Ob) (ST : Ob) (SC : Ob) (res : Int32 × Ob × Ob × Ob) (H : Heap) (locs : List Loc) (ls : Array Slot), f3_part_138 rec SG ST SC = some res → GW D cy ad (w3 cy aG aT aC (.ref (aI 0)) SG ++ (w10 cy aT ST ++ (w2 cy aC SC))) A s H locs → lv_has ls 6 [] → W p l e (rm3_part (dp + 1)) s m args below meth c H locs 0 0 (MQ below (QI D cy (w3 cy aG aT aC (.ref (aI 0)) (res.2.1) ++ (w10 cy aT (res.2.2.1) ++ (w2 cy aC (res.2.2.2)))) A (res.1)) args s 0 0 A) (F0 m 138 ls []) := by
  intro SG ST SC res H locs ls hf hW hl
  unfold f3_part_138 at hf
  refine lv_iconst (v := 0) hC.1 hC.2.1 dX3_part_138 (by decide) ?_
  exact t3_part_139 rec hC dp hrec  _ _ _ _ _ _ _ _ hf hW (lv_sub hl [] rfl)
set_option maxRecDepth 100000 in
set_option maxHeartbeats 4000000 in
theorem t3_part_54 (rec : Int32 → Ob → Ob → Ob → Option (Int32 × Ob × Ob × Ob)) (hC : Cx p s m args meth c cX3_part 6 wsX3_part RX3 (some .boolean)) (dp : Nat) (hrec : ∀ {x1 : Int32} {SG : Ob} {ST : Ob} {SC : Ob} {res : Int32 × Ob × Ob × Ob}, rec x1 SG ST SC = some res → GCi l yX3_part wsX3_part (rm3_part dp) [.ref (aG 0), .int x1] D cy ad (w3 cy aG aT aC (.ref (aI 0)) SG ++ (w10 cy aT ST ++ (w2 cy aC SC))) (w3 cy aG aT aC (.ref (aI 0)) (res.2.1) ++ (w10 cy aT (res.2.2.1) ++ (w2 cy aC (res.2.2.2)))) (res.1)) : ∀ (x1 : Int32) (x2 : Int32) (SG : Ob) (ST : Ob) (SC : Ob) (res : Int32 × Ob × Ob × Ob) (H : Heap) (locs : List Loc) (ls : Array Slot), f3_part_54 rec x1 x2 SG ST SC = some res → GW D cy ad (w3 cy aG aT aC (.ref (aI 0)) SG ++ (w10 cy aT ST ++ (w2 cy aC SC))) A s H locs → lv_has ls 6 [(0, .ref (aG 0)), (1, .int x1), (2, .int x2)] → W p l e (rm3_part (dp + 1)) s m args below meth c H locs 0 0 (MQ below (QI D cy (w3 cy aG aT aC (.ref (aI 0)) (res.2.1) ++ (w10 cy aT (res.2.2.1) ++ (w2 cy aC (res.2.2.2)))) A (res.1)) args s 0 0 A) (F0 m 54 ls []) := by
  intro x1 x2 SG ST SC res H locs ls hf hW hl
  unfold f3_part_54 at hf
  refine lv_iload_n hC.1 hC.2.1 dX3_part_54 rfl (lv_at hl 1 rfl) ?_
  refine lv_iconst (v := 5) hC.1 hC.2.1 dX3_part_55 (by decide) ?_
  refine lv_icmp_lt (tgt := 65) hC.1 hC.2.1 dX3_part_56 (by decide) (fun hc_1 => ?_) (fun hc_1 => ?_)
  · have hf := ite_t hf hc_1
    refine lv_aload_n hC.1 hC.2.1 dX3_part_65 rfl (lv_at hl 0 rfl) ?_
    refine g_get hC hW hin3_part_3 0 rfl rfl 0 (by decide) 1 rfl rfl dX3_part_66 ?_
    refine g_get hC hW hin3_part_10 1 rfl rfl 7 (by decide) 3 rfl rfl dX3_part_69 ?_
    refine lv_topi (fun x4_2 ex4_2 => ?_)
    have hf := lt_nm hf ex4_2
    refine lv_istore (lv' := [(4, .int x4_2), (0, .ref (aG 0)), (1, .int x1), (2, .int x2)]) hC.1 hC.2.1 dX3_part_72 hl (by decide) rfl (fun ls hl => ?_)
    refine lv_aload_n hC.1 hC.2.1 dX3_part_74 rfl (lv_at hl 1 rfl) ?_
    refine g_get hC hW hin3_part_3 0 rfl rfl 0 (by decide) 1 rfl rfl dX3_part_75 ?_
    obtain ⟨r_3, hg_4, hf⟩ := bd_of hf
    refine g_callvV (w' := w3 cy aG aT aC (.ref (aI 0)) SG ++ (w10 cy aT r_3 ++ (w2 cy aC SC))) hC hW (c10_advance l D cy ad aT hg_4) (cwV 0 hC.2.2.2.2.1 gX3_part_X10_advance rfl rfl rfl hdV10_advance ⟨by simp only [rm10_advance, rm3_part]; omega, by simp only [rm10_advance, rm3_part]; omega⟩) (⟨[1, 2, 3], [0, 4, 5, 6, 7], [0, 5, 6, 7, 1, 2, 3, 4], w3 cy aG aT aC (.ref (aI 0)) SG ++ (w2 cy aC SC), rfl, rfl, rfl, rfl, by decide, rfl, rfl⟩) 0 9 rfl rfl rfl rfl hl.1 rfl (Nat.le_of_ble_eq_true rfl) dX3_part_78 ⟨Nat.zero_le _, Nat.zero_le _⟩ (fun H locs hW => ?_)
    refine lv_iload_n hC.1 hC.2.1 dX3_part_81 rfl (lv_at hl 3 rfl) ?_
    refine lv_bipush (v := 26) hC.1 hC.2.1 dX3_part_82 (by decide) ?_
    refine lv_icmp_ne (tgt := 109) hC.1 hC.2.1 dX3_part_84 (by decide) (fun hc_5 => ?_) (fun hc_5 => ?_)
    · have hf := ite_f hf hc_5
      refine lv_iload_n hC.1 hC.2.1 dX3_part_109 rfl (lv_at hl 3 rfl) ?_
      refine lv_bipush (v := 40) hC.1 hC.2.1 dX3_part_110 (by decide) ?_
      refine lv_icmp_ne (tgt := 140) hC.1 hC.2.1 dX3_part_112 (by decide) (fun hc_6 => ?_) (fun hc_6 => ?_)
      · have hf := ite_f hf hc_6
        refine lv_aload_n hC.1 hC.2.1 dX3_part_140 rfl (lv_at hl 1 rfl) ?_
        refine g_get hC hW hin3_part_3 0 rfl rfl 1 (by decide) 4 rfl rfl dX3_part_141 ?_
        refine lv_iload_n hC.1 hC.2.1 dX3_part_144 rfl (lv_at hl 3 rfl) ?_
        refine lv_iload hC.1 hC.2.1 dX3_part_145 (lv_at hl 0 rfl) ?_
        obtain ⟨r_7, hg_8, hf⟩ := bd_of hf
        refine g_callvV (w' := w3 cy aG aT aC (.ref (aI 0)) SG ++ (w10 cy aT r_3 ++ (w2 cy aC r_7))) hC hW (c2_put l D cy ad aC hg_8) (cwV 2 hC.2.2.2.2.1 gX3_part_X2_put rfl rfl rfl hdV2_put ⟨by simp only [rm2_put, rm3_part]; omega, by simp only [rm2_put, rm3_part]; omega⟩) (⟨[4, 5, 6, 7], [0, 1, 2, 3], [0, 1, 2, 3, 4, 5, 6, 7], w3 cy aG aT aC (.ref (aI 0)) SG ++ (w10 cy aT r_3), rfl, rfl, rfl, rfl, by decide, rfl, rfl⟩) 0 2 rfl rfl rfl rfl hl.1 rfl (Nat.le_of_ble_eq_true rfl) dX3_part_147 ⟨Nat.zero_le _, Nat.zero_le _⟩ (fun H locs hW => ?_)
        refine lv_iconst (v := 1) hC.1 hC.2.1 dX3_part_150 (by decide) ?_
        obtain rfl := Option.some.inj hf
        exact g_zret (v := 1) hC hW (by decide) dX3_part_151
      · have hf := ite_t hf hc_6
        refine lv_aload_n hC.1 hC.2.1 dX3_part_115 rfl (lv_at hl 1 rfl) ?_
        refine lv_iload_n hC.1 hC.2.1 dX3_part_116 rfl (lv_at hl 2 rfl) ?_
        refine lv_iconst (v := 1) hC.1 hC.2.1 dX3_part_117 (by decide) ?_
        refine lv_iadd hC.1 hC.2.1 dX3_part_118 ?_
        obtain ⟨r_9, hg_10, hf⟩ := bd_of hf
        refine g_calliV (w' := w3 cy aG aT aC (.ref (aI 0)) (r_9.2.1) ++ (w10 cy aT (r_9.2.2.1) ++ (w2 cy aC (r_9.2.2.2)))) hC hW (c3_expression l D cy ad aG aT aC aI rec dp hrec hg_10) (cwV 1 hC.2.2.2.2.1 gX3_part_X3_expression rfl rfl rfl hdV3_expression ⟨by simp only [rm3_expression, rm3_part]; omega, by simp only [rm3_expression, rm3_part]; omega⟩) (Sub.all _ _) 0 3 rfl rfl rfl rfl hl.1 rfl (Nat.le_of_ble_eq_true rfl) dX3_part_119 ⟨Nat.zero_le _, Nat.zero_le _⟩ (fun H locs hW => ?_)
        refine lv_if_eq (tgt := 138) hC.1 hC.2.1 dX3_part_122 (by decide) (fun hc_11 => ?_) (fun hc_11 => ?_)
        · have hf := ite_t hf hc_11
          exact t3_part_138 rec hC dp hrec  _ _ _ _ _ _ _ hf hW (lv_sub hl [] rfl)
        · have hf := ite_f hf hc_11
          refine lv_aload_n hC.1 hC.2.1 dX3_part_125 rfl (lv_at hl 1 rfl) ?_
          refine lv_bipush (v := 41) hC.1 hC.2.1 dX3_part_126 (by decide) ?_
          obtain ⟨r_12, hg_13, hf⟩ := bd_of hf
          refine g_calliV (w' := w3 cy aG aT aC (.ref (aI 0)) (r_12.2.1) ++ (w10 cy aT (r_12.2.2) ++ (w2 cy aC (r_9.2.2.2)))) hC hW (c3_take l D cy ad aG aT aC aI hg_13) (cwV 1 hC.2.2.2.2.1 gX3_part_X3_take rfl rfl rfl hdV3_take ⟨by simp only [rm3_part, rm3_take]; omega, by simp only [rm3_part, rm3_take]; omega⟩) (⟨[0, 1, 2, 3], [4, 5, 6, 7], [4, 5, 6, 7, 0, 1, 2, 3], w2 cy aC (r_9.2.2.2), rfl, rfl, rfl, rfl, by decide, rfl, rfl⟩) 0 3 rfl rfl rfl rfl hl.1 rfl (Nat.le_of_ble_eq_true rfl) dX3_part_128 ⟨Nat.zero_le _, Nat.zero_le _⟩ (fun H locs hW => ?_)
          refine lv_if_eq (tgt := 138) hC.1 hC.2.1 dX3_part_131 (by decide) (fun hc_14 => ?_) (fun hc_14 => ?_)
          · have hf := ite_t hf hc_14
            exact t3_part_138 rec hC dp hrec  _ _ _ _ _ _ _ hf hW (lv_sub hl [] rfl)
          · have hf := ite_f hf hc_14
            refine lv_iconst (v := 1) hC.1 hC.2.1 dX3_part_134 (by decide) ?_
            refine lv_goto (tgt := 139) hC.1 hC.2.1 dX3_part_135 (by decide) ?_
            exact t3_part_139 rec hC dp hrec  _ _ _ _ _ _ _ _ hf hW (lv_sub hl [] rfl)
    · have hf := ite_t hf hc_5
      refine lv_aload_n hC.1 hC.2.1 dX3_part_87 rfl (lv_at hl 1 rfl) ?_
      refine lv_iload_n hC.1 hC.2.1 dX3_part_88 rfl (lv_at hl 2 rfl) ?_
      refine lv_iconst (v := 1) hC.1 hC.2.1 dX3_part_89 (by decide) ?_
      refine lv_iadd hC.1 hC.2.1 dX3_part_90 ?_
      obtain ⟨r_15, hg_16, hf⟩ := bd_of hf
      refine g_calliV (w' := w3 cy aG aT aC (.ref (aI 0)) (r_15.2.1) ++ (w10 cy aT (r_15.2.2.1) ++ (w2 cy aC (r_15.2.2.2)))) hC hW (hrec hg_16) (cwV 1 hC.2.2.2.2.1 gX3_part_X3_part rfl rfl rfl hdV3_part ⟨by simp only [rm3_part]; omega, by simp only [rm3_part]; omega⟩) (Sub.all _ _) 0 3 rfl rfl rfl rfl hl.1 rfl (Nat.le_of_ble_eq_true rfl) dX3_part_91 ⟨Nat.zero_le _, Nat.zero_le _⟩ (fun H locs hW => ?_)
      refine lv_topi (fun x5_17 ex5_17 => ?_)
      have hf := lt_nm hf ex5_17
      refine lv_istore (lv' := [(5, .int x5_17), (4, .int x4_2), (0, .ref (aG 0)), (1, .int x1), (2, .int x2)]) hC.1 hC.2.1 dX3_part_94 hl (by decide) rfl (fun ls hl => ?_)
      refine lv_aload_n hC.1 hC.2.1 dX3_part_96 rfl (lv_at hl 2 rfl) ?_
      refine g_get hC hW hin3_part_3 0 rfl rfl 1 (by decide) 4 rfl rfl dX3_part_97 ?_
      refine lv_bipush (v := 26) hC.1 hC.2.1 dX3_part_100 (by decide) ?_
      refine lv_iconst (v := 0) hC.1 hC.2.1 dX3_part_102 (by decide) ?_
      obtain ⟨r_18, hg_19, hf⟩ := bd_of hf
      refine g_callvV (w' := w3 cy aG aT aC (.ref (aI 0)) (r_15.2.1) ++ (w10 cy aT (r_15.2.2.1) ++ (w2 cy aC r_18))) hC hW (c2_put l D cy ad aC hg_19) (cwV 2 hC.2.2.2.2.1 gX3_part_X2_put rfl rfl rfl hdV2_put ⟨by simp only [rm2_put, rm3_part]; omega, by simp only [rm2_put, rm3_part]; omega⟩) (⟨[4, 5, 6, 7], [0, 1, 2, 3], [0, 1, 2, 3, 4, 5, 6, 7], w3 cy aG aT aC (.ref (aI 0)) (r_15.2.1) ++ (w10 cy aT (r_15.2.2.1)), rfl, rfl, rfl, rfl, by decide, rfl, rfl⟩) 0 2 rfl rfl rfl rfl hl.1 rfl (Nat.le_of_ble_eq_true rfl) dX3_part_103 ⟨Nat.zero_le _, Nat.zero_le _⟩ (fun H locs hW => ?_)
      refine lv_iload hC.1 hC.2.1 dX3_part_106 (lv_at hl 0 rfl) ?_
      obtain ⟨hz, hf⟩ := ck_of hf
      obtain rfl := Option.some.inj hf
      exact g_zret hC hW hz dX3_part_108
  · have hf := ite_f hf hc_1
    refine lv_aload_n hC.1 hC.2.1 dX3_part_59 rfl (lv_at hl 0 rfl) ?_
    refine lv_iconst (v := 5) hC.1 hC.2.1 dX3_part_60 (by decide) ?_
    obtain ⟨r_20, hg_21, hf⟩ := bd_of hf
    refine g_calliV (w' := w3 cy aG aT aC (.ref (aI 0)) (r_20.2) ++ (w10 cy aT ST ++ (w2 cy aC SC))) hC hW (c3_fail l D cy ad aG aT aC aI hg_21) (cwV 1 hC.2.2.2.2.1 gX3_part_X3_fail rfl rfl rfl hdV3_fail ⟨by simp only [rm3_fail, rm3_part]; omega, by simp only [rm3_fail, rm3_part]; omega⟩) (⟨[0, 1, 2, 3], [4, 5, 6, 7], [4, 5, 6, 7, 0, 1, 2, 3], w2 cy aC SC, rfl, rfl, rfl, rfl, by decide, rfl, rfl⟩) 0 3 rfl rfl rfl rfl hl.1 rfl (Nat.le_of_ble_eq_true rfl) dX3_part_61 ⟨Nat.zero_le _, Nat.zero_le _⟩ (fun H locs hW => ?_)
    obtain ⟨hz, hf⟩ := ck_of hf
    obtain rfl := Option.some.inj hf
    exact g_zret hC hW hz dX3_part_64
set_option maxRecDepth 100000 in
set_option maxHeartbeats 4000000 in
theorem t3_part_31 (rec : Int32 → Ob → Ob → Ob → Option (Int32 × Ob × Ob × Ob)) (hC : Cx p s m args meth c cX3_part 6 wsX3_part RX3 (some .boolean)) (dp : Nat) (hrec : ∀ {x1 : Int32} {SG : Ob} {ST : Ob} {SC : Ob} {res : Int32 × Ob × Ob × Ob}, rec x1 SG ST SC = some res → GCi l yX3_part wsX3_part (rm3_part dp) [.ref (aG 0), .int x1] D cy ad (w3 cy aG aT aC (.ref (aI 0)) SG ++ (w10 cy aT ST ++ (w2 cy aC SC))) (w3 cy aG aT aC (.ref (aI 0)) (res.2.1) ++ (w10 cy aT (res.2.2.1) ++ (w2 cy aC (res.2.2.2)))) (res.1)) : ∀ (x1 : Int32) (x2 : Int32) (z0 : Int32) (SG : Ob) (ST : Ob) (SC : Ob) (res : Int32 × Ob × Ob × Ob) (H : Heap) (locs : List Loc) (ls : Array Slot), f3_part_31 rec x1 x2 z0 SG ST SC = some res → GW D cy ad (w3 cy aG aT aC (.ref (aI 0)) SG ++ (w10 cy aT ST ++ (w2 cy aC SC))) A s H locs → lv_has ls 6 [(0, .ref (aG 0)), (1, .int x1), (2, .int x2)] → W p l e (rm3_part (dp + 1)) s m args below meth c H locs 0 0 (MQ below (QI D cy (w3 cy aG aT aC (.ref (aI 0)) (res.2.1) ++ (w10 cy aT (res.2.2.1) ++ (w2 cy aC (res.2.2.2)))) A (res.1)) args s 0 0 A) (F0 m 31 ls [.int z0]) := by
  intro x1 x2 z0 SG ST SC res H locs ls hf hW hl
  unfold f3_part_31 at hf
  refine lv_istore_n (lv' := [(3, .int z0), (0, .ref (aG 0)), (1, .int x1), (2, .int x2)]) hC.1 hC.2.1 dX3_part_31 rfl hl (by decide) rfl (fun ls hl => ?_)
  refine lv_iload_n hC.1 hC.2.1 dX3_part_32 rfl (lv_at hl 0 rfl) ?_
  refine lv_if_ne (tgt := 54) hC.1 hC.2.1 dX3_part_33 (by decide) (fun hc_1 => ?_) (fun hc_1 => ?_)
  · have hf := ite_f hf hc_1
    exact t3_part_54 rec hC dp hrec  _ _ _ _ _ _ _ _ _ hf hW (lv_sub hl [1, 2, 3] rfl)
  · have hf := ite_t hf hc_1
    refine lv_iload_n hC.1 hC.2.1 dX3_part_36 rfl (lv_at hl 3 rfl) ?_
    refine lv_bipush (v := 26) hC.1 hC.2.1 dX3_part_37 (by decide) ?_
    refine lv_icmp_eq (tgt := 54) hC.1 hC.2.1 dX3_part_39 (by decide) (fun hc_2 => ?_) (fun hc_2 => ?_)
    · have hf := ite_t hf hc_2
      exact t3_part_54 rec hC dp hrec  _ _ _ _ _ _ _ _ _ hf hW (lv_sub hl [1, 2, 3] rfl)
    · have hf := ite_f hf hc_2
      refine lv_iload_n hC.1 hC.2.1 dX3_part_42 rfl (lv_at hl 3 rfl) ?_
      refine lv_bipush (v := 40) hC.1 hC.2.1 dX3_part_43 (by decide) ?_
      refine lv_icmp_eq (tgt := 54) hC.1 hC.2.1 dX3_part_45 (by decide) (fun hc_3 => ?_) (fun hc_3 => ?_)
      · have hf := ite_t hf hc_3
        exact t3_part_54 rec hC dp hrec  _ _ _ _ _ _ _ _ _ hf hW (lv_sub hl [1, 2, 3] rfl)
      · have hf := ite_f hf hc_3
        refine lv_aload_n hC.1 hC.2.1 dX3_part_48 rfl (lv_at hl 1 rfl) ?_
        refine lv_iconst (v := 1) hC.1 hC.2.1 dX3_part_49 (by decide) ?_
        obtain ⟨r_4, hg_5, hf⟩ := bd_of hf
        refine g_calliV (w' := w3 cy aG aT aC (.ref (aI 0)) (r_4.2) ++ (w10 cy aT ST ++ (w2 cy aC SC))) hC hW (c3_fail l D cy ad aG aT aC aI hg_5) (cwV 1 hC.2.2.2.2.1 gX3_part_X3_fail rfl rfl rfl hdV3_fail ⟨by simp only [rm3_fail, rm3_part]; omega, by simp only [rm3_fail, rm3_part]; omega⟩) (⟨[0, 1, 2, 3], [4, 5, 6, 7], [4, 5, 6, 7, 0, 1, 2, 3], w2 cy aC SC, rfl, rfl, rfl, rfl, by decide, rfl, rfl⟩) 0 3 rfl rfl rfl rfl hl.1 rfl (Nat.le_of_ble_eq_true rfl) dX3_part_50 ⟨Nat.zero_le _, Nat.zero_le _⟩ (fun H locs hW => ?_)
        obtain ⟨hz, hf⟩ := ck_of hf
        obtain rfl := Option.some.inj hf
        exact g_zret hC hW hz dX3_part_53
set_option maxRecDepth 100000 in
set_option maxHeartbeats 4000000 in
theorem t3_part_26 (rec : Int32 → Ob → Ob → Ob → Option (Int32 × Ob × Ob × Ob)) (hC : Cx p s m args meth c cX3_part 6 wsX3_part RX3 (some .boolean)) (dp : Nat) (hrec : ∀ {x1 : Int32} {SG : Ob} {ST : Ob} {SC : Ob} {res : Int32 × Ob × Ob × Ob}, rec x1 SG ST SC = some res → GCi l yX3_part wsX3_part (rm3_part dp) [.ref (aG 0), .int x1] D cy ad (w3 cy aG aT aC (.ref (aI 0)) SG ++ (w10 cy aT ST ++ (w2 cy aC SC))) (w3 cy aG aT aC (.ref (aI 0)) (res.2.1) ++ (w10 cy aT (res.2.2.1) ++ (w2 cy aC (res.2.2.2)))) (res.1)) : ∀ (x1 : Int32) (x2 : Int32) (SG : Ob) (ST : Ob) (SC : Ob) (res : Int32 × Ob × Ob × Ob) (H : Heap) (locs : List Loc) (ls : Array Slot), f3_part_26 rec x1 x2 SG ST SC = some res → GW D cy ad (w3 cy aG aT aC (.ref (aI 0)) SG ++ (w10 cy aT ST ++ (w2 cy aC SC))) A s H locs → lv_has ls 6 [(0, .ref (aG 0)), (1, .int x1), (2, .int x2)] → W p l e (rm3_part (dp + 1)) s m args below meth c H locs 0 0 (MQ below (QI D cy (w3 cy aG aT aC (.ref (aI 0)) (res.2.1) ++ (w10 cy aT (res.2.2.1) ++ (w2 cy aC (res.2.2.2)))) A (res.1)) args s 0 0 A) (F0 m 26 ls []) := by
  intro x1 x2 SG ST SC res H locs ls hf hW hl
  unfold f3_part_26 at hf
  refine lv_iconst (v := 1) hC.1 hC.2.1 dX3_part_26 (by decide) ?_
  refine lv_goto (tgt := 31) hC.1 hC.2.1 dX3_part_27 (by decide) ?_
  exact t3_part_31 rec hC dp hrec  _ _ _ _ _ _ _ _ _ _ hf hW (lv_sub hl [0, 1, 2] rfl)
set_option maxRecDepth 100000 in
set_option maxHeartbeats 4000000 in
theorem t3_part_30 (rec : Int32 → Ob → Ob → Ob → Option (Int32 × Ob × Ob × Ob)) (hC : Cx p s m args meth c cX3_part 6 wsX3_part RX3 (some .boolean)) (dp : Nat) (hrec : ∀ {x1 : Int32} {SG : Ob} {ST : Ob} {SC : Ob} {res : Int32 × Ob × Ob × Ob}, rec x1 SG ST SC = some res → GCi l yX3_part wsX3_part (rm3_part dp) [.ref (aG 0), .int x1] D cy ad (w3 cy aG aT aC (.ref (aI 0)) SG ++ (w10 cy aT ST ++ (w2 cy aC SC))) (w3 cy aG aT aC (.ref (aI 0)) (res.2.1) ++ (w10 cy aT (res.2.2.1) ++ (w2 cy aC (res.2.2.2)))) (res.1)) : ∀ (x1 : Int32) (x2 : Int32) (SG : Ob) (ST : Ob) (SC : Ob) (res : Int32 × Ob × Ob × Ob) (H : Heap) (locs : List Loc) (ls : Array Slot), f3_part_30 rec x1 x2 SG ST SC = some res → GW D cy ad (w3 cy aG aT aC (.ref (aI 0)) SG ++ (w10 cy aT ST ++ (w2 cy aC SC))) A s H locs → lv_has ls 6 [(0, .ref (aG 0)), (1, .int x1), (2, .int x2)] → W p l e (rm3_part (dp + 1)) s m args below meth c H locs 0 0 (MQ below (QI D cy (w3 cy aG aT aC (.ref (aI 0)) (res.2.1) ++ (w10 cy aT (res.2.2.1) ++ (w2 cy aC (res.2.2.2)))) A (res.1)) args s 0 0 A) (F0 m 30 ls []) := by
  intro x1 x2 SG ST SC res H locs ls hf hW hl
  unfold f3_part_30 at hf
  refine lv_iconst (v := 0) hC.1 hC.2.1 dX3_part_30 (by decide) ?_
  exact t3_part_31 rec hC dp hrec  _ _ _ _ _ _ _ _ _ _ hf hW (lv_sub hl [0, 1, 2] rfl)
set_option maxRecDepth 100000 in
set_option maxHeartbeats 4000000 in
theorem t3_part_0 (rec : Int32 → Ob → Ob → Ob → Option (Int32 × Ob × Ob × Ob)) (hC : Cx p s m args meth c cX3_part 6 wsX3_part RX3 (some .boolean)) (dp : Nat) (hrec : ∀ {x1 : Int32} {SG : Ob} {ST : Ob} {SC : Ob} {res : Int32 × Ob × Ob × Ob}, rec x1 SG ST SC = some res → GCi l yX3_part wsX3_part (rm3_part dp) [.ref (aG 0), .int x1] D cy ad (w3 cy aG aT aC (.ref (aI 0)) SG ++ (w10 cy aT ST ++ (w2 cy aC SC))) (w3 cy aG aT aC (.ref (aI 0)) (res.2.1) ++ (w10 cy aT (res.2.2.1) ++ (w2 cy aC (res.2.2.2)))) (res.1)) : ∀ (x1 : Int32) (SG : Ob) (ST : Ob) (SC : Ob) (res : Int32 × Ob × Ob × Ob) (H : Heap) (locs : List Loc) (ls : Array Slot), f3_part_b rec x1 SG ST SC = some res → GW D cy ad (w3 cy aG aT aC (.ref (aI 0)) SG ++ (w10 cy aT ST ++ (w2 cy aC SC))) A s H locs → lv_has ls 6 [(0, .ref (aG 0)), (1, .int x1)] → W p l e (rm3_part (dp + 1)) s m args below meth c H locs 0 0 (MQ below (QI D cy (w3 cy aG aT aC (.ref (aI 0)) (res.2.1) ++ (w10 cy aT (res.2.2.1) ++ (w2 cy aC (res.2.2.2)))) A (res.1)) args s 0 0 A) (F0 m 0 ls []) := by
  intro x1 SG ST SC res H locs ls hf hW hl
  unfold f3_part_b at hf
  refine lv_aload_n hC.1 hC.2.1 dX3_part_0 rfl (lv_at hl 0 rfl) ?_
  refine g_get hC hW hin3_part_3 0 rfl rfl 0 (by decide) 1 rfl rfl dX3_part_1 ?_
  refine g_get hC hW hin3_part_10 1 rfl rfl 3 (by decide) 2 rfl rfl dX3_part_4 ?_
  refine lv_topi (fun x2_1 ex2_1 => ?_)
  have hf := lt_nm hf ex2_1
  refine lv_istore_n (lv' := [(2, .int x2_1), (0, .ref (aG 0)), (1, .int x1)]) hC.1 hC.2.1 dX3_part_7 rfl hl (by decide) rfl (fun ls hl => ?_)
  refine lv_iload_n hC.1 hC.2.1 dX3_part_8 rfl (lv_at hl 0 rfl) ?_
  refine lv_bipush (v := 33) hC.1 hC.2.1 dX3_part_9 (by decide) ?_
  refine lv_icmp_eq (tgt := 26) hC.1 hC.2.1 dX3_part_11 (by decide) (fun hc_2 => ?_) (fun hc_2 => ?_)
  · have hf := ite_t hf hc_2
    exact t3_part_26 rec hC dp hrec  _ _ _ _ _ _ _ _ _ hf hW (lv_sub hl [1, 2, 0] rfl)
  · have hf := ite_f hf hc_2
    refine lv_iload_n hC.1 hC.2.1 dX3_part_14 rfl (lv_at hl 0 rfl) ?_
    refine lv_bipush (v := 29) hC.1 hC.2.1 dX3_part_15 (by decide) ?_
    refine lv_icmp_lt (tgt := 30) hC.1 hC.2.1 dX3_part_17 (by decide) (fun hc_3 => ?_) (fun hc_3 => ?_)
    · have hf := ite_t hf hc_3
      exact t3_part_30 rec hC dp hrec  _ _ _ _ _ _ _ _ _ hf hW (lv_sub hl [1, 2, 0] rfl)
    · have hf := ite_f hf hc_3
      refine lv_iload_n hC.1 hC.2.1 dX3_part_20 rfl (lv_at hl 0 rfl) ?_
      refine lv_bipush (v := 31) hC.1 hC.2.1 dX3_part_21 (by decide) ?_
      refine lv_icmp_gt (tgt := 30) hC.1 hC.2.1 dX3_part_23 (by decide) (fun hc_4 => ?_) (fun hc_4 => ?_)
      · have hf := ite_t hf hc_4
        exact t3_part_30 rec hC dp hrec  _ _ _ _ _ _ _ _ _ hf hW (lv_sub hl [1, 2, 0] rfl)
      · have hf := ite_f hf hc_4
        exact t3_part_26 rec hC dp hrec  _ _ _ _ _ _ _ _ _ hf hW (lv_sub hl [1, 2, 0] rfl)
set_option maxRecDepth 100000 in
set_option maxHeartbeats 4000000 in
theorem c3_part (l : Launch) (D : va_G) (cy : Nat → ClassId) (ad : Nat → Nat) (aG : Nat → Nat) (aT : Nat → Nat) (aC : Nat → Nat) (aI : Nat → Nat) : ∀ dp : Nat, ∀ {x1 : Int32} {SG : Ob} {ST : Ob} {SC : Ob} {res : Int32 × Ob × Ob × Ob}, f3_part dp x1 SG ST SC = some res → GCi l yX3_part wsX3_part (rm3_part dp) [.ref (aG 0), .int x1] D cy ad (w3 cy aG aT aC (.ref (aI 0)) SG ++ (w10 cy aT ST ++ (w2 cy aC SC))) (w3 cy aG aT aC (.ref (aI 0)) (res.2.1) ++ (w10 cy aT (res.2.2.1) ++ (w2 cy aC (res.2.2.2)))) (res.1) := by
  intro dp
  induction dp with
  | zero =>
    intro _ _ _ _ _ h
    exact nomatch (show (none : Option (Int32 × Ob × Ob × Ob)) = some _ from h)
  | succ dp ih =>
    intro x1 SG ST SC res h
    rw [f3_part] at h
    intro sz
    exact GC.start (own := RX3) (Qc := fun A => QI D cy (w3 cy aG aT aC (.ref (aI 0)) (res.2.1) ++ (w10 cy aT (res.2.2.1) ++ (w2 cy aC (res.2.2.2)))) A (res.1)) sz (by decide) rfl rfl (Nat.le_of_ble_eq_true rfl) (fun p e s m below meth c A ls hC hW hl => t3_part_0 _ hC dp ih _ _ _ _ _ _ _ _ h hW (lv_sub hl [0, 1] rfl))
end
