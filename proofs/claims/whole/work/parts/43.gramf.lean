/-! laid by program: functions, walks and contracts of 3_term, 3_formula, 3_item -/
set_option maxRecDepth 20000 in
theorem gX3_term_X3_item : GoodIn wsX3_term (wsV RX3 80 RX3 yX3_item wsX3_item) := goodIn_r _ [4, 5, 6, 7, 130, 1, 2, 131, 132, 3, 133, 134, 135, 11, 136, 17, 137, 138, 139, 7, 140, 141, 142, 143, 144, 145, 146, 147, 148, 149, 150, 151, 152, 153, 154, 155, 8, 9, 10, 12, 13, 14, 15, 16, 18, 19, 20, 21, 22, 23, 24, 25, 26, 27, 28, 29, 30, 31, 32, 33, 34, 35, 36, 37, 38, 39, 40, 41, 42, 43, 44, 45, 46, 47, 48, 49, 50, 51, 52, 53, 54, 55, 56, 57, 58, 59, 60, 61, 62, 63, 64, 65, 66, 67, 68, 69, 70, 71, 72, 73, 74, 75, 76, 77, 78, 79, 80, 81, 82, 83, 84, 85, 86, 87, 88, 89, 90, 91, 92, 93, 94, 95, 96, 97, 98, 99, 100, 101, 102, 103, 104, 105, 106, 107, 108, 109, 110, 111, 112, 113, 114, 115, 116, 117, 4, 5, 6, 118, 119, 120, 121, 122, 123, 124, 125, 156, 157, 158, 159, 160, 161, 162, 126, 127, 128, 129, 0, 163, 164, 165, 166, 167, 168, 169, 170, 171, 172, 173, 174, 175, 176, 177, 178, 179, 180, 181, 182, 183, 184, 185, 186, 187, 188, 189, 190, 191, 192] rfl (by decide +kernel)
set_option maxRecDepth 20000 in
theorem gX3_term_X10_advance : GoodIn wsX3_term (wsV RX3 49 RX10 yX10_advance wsX10_advance) := goodIn_r _ [8, 9, 10, 11, 12, 13, 14, 15, 16, 17, 18, 19, 20, 11, 21, 22, 23, 24, 25, 26, 27, 28, 29, 30, 31, 32, 33, 34, 35, 36, 37, 38, 39, 40, 41, 42, 43, 44, 45, 46, 47, 48, 49, 50, 51, 52, 53, 54, 55, 56, 57, 58, 59, 60, 61, 62, 63, 64, 65, 66, 67, 68, 69, 70, 71, 72, 73, 74, 75, 76, 77, 78, 79, 80, 81, 82, 83, 84, 85, 86, 87, 88, 89, 90, 91, 92, 93, 94, 95, 96, 97, 98, 99, 100, 101, 102, 103, 104, 105, 106, 107, 108, 109, 110, 111, 112, 113, 114, 115, 116, 117, 167, 168, 169, 170, 171, 172, 173, 174] rfl (by decide +kernel)
set_option maxRecDepth 20000 in
theorem gX3_term_X2_put : GoodIn wsX3_term (wsV RX3 76 RX2 yX2_put wsX2_put) := goodIn_r _ [118, 119, 120, 121, 122, 123, 124, 125, 175, 176, 177, 178, 179] rfl (by decide +kernel)
theorem dX3_term_0 : decode cX3_term 0 = .ok (.aload_n 0, 1) := by decide +kernel
theorem dX3_term_1 : decode cX3_term 1 = .ok (.iload_n 1, 1) := by decide +kernel
theorem dX3_term_2 : decode cX3_term 2 = .ok (.invokevirtual 80, 3) := by decide +kernel
theorem dX3_term_5 : decode cX3_term 5 = .ok (.istore_n 2, 1) := by decide +kernel
theorem dX3_term_6 : decode cX3_term 6 = .ok (.iconst 0, 1) := by decide +kernel
theorem dX3_term_7 : decode cX3_term 7 = .ok (.istore_n 3, 1) := by decide +kernel
theorem dX3_term_8 : decode cX3_term 8 = .ok (.iload_n 3, 1) := by decide +kernel
theorem dX3_term_9 : decode cX3_term 9 = .ok (.sipush 1000, 3) := by decide +kernel
theorem dX3_term_12 : decode cX3_term 12 = .ok (.if_icmp .ge 48, 3) := by decide +kernel
theorem dX3_term_15 : decode cX3_term 15 = .ok (.iload_n 2, 1) := by decide +kernel
theorem dX3_term_16 : decode cX3_term 16 = .ok (.ifCond .eq 44, 3) := by decide +kernel
theorem dX3_term_19 : decode cX3_term 19 = .ok (.aload_n 0, 1) := by decide +kernel
theorem dX3_term_20 : decode cX3_term 20 = .ok (.getfield 12, 3) := by decide +kernel
theorem dX3_term_23 : decode cX3_term 23 = .ok (.getfield 42, 3) := by decide +kernel
theorem dX3_term_26 : decode cX3_term 26 = .ok (.bipush 27, 2) := by decide +kernel
theorem dX3_term_28 : decode cX3_term 28 = .ok (.if_icmp .ne 32, 3) := by decide +kernel
theorem dX3_term_31 : decode cX3_term 31 = .ok (.aload_n 0, 1) := by decide +kernel
theorem dX3_term_32 : decode cX3_term 32 = .ok (.getfield 12, 3) := by decide +kernel
theorem dX3_term_35 : decode cX3_term 35 = .ok (.invokevirtual 49, 3) := by decide +kernel
theorem dX3_term_38 : decode cX3_term 38 = .ok (.aload_n 0, 1) := by decide +kernel
theorem dX3_term_39 : decode cX3_term 39 = .ok (.iload_n 1, 1) := by decide +kernel
theorem dX3_term_40 : decode cX3_term 40 = .ok (.invokevirtual 80, 3) := by decide +kernel
theorem dX3_term_43 : decode cX3_term 43 = .ok (.istore_n 2, 1) := by decide +kernel
theorem dX3_term_44 : decode cX3_term 44 = .ok (.aload_n 0, 1) := by decide +kernel
theorem dX3_term_45 : decode cX3_term 45 = .ok (.getfield 21, 3) := by decide +kernel
theorem dX3_term_48 : decode cX3_term 48 = .ok (.bipush 27, 2) := by decide +kernel
theorem dX3_term_50 : decode cX3_term 50 = .ok (.iconst 0, 1) := by decide +kernel
theorem dX3_term_51 : decode cX3_term 51 = .ok (.invokevirtual 76, 3) := by decide +kernel
theorem dX3_term_54 : decode cX3_term 54 = .ok (.iinc 3 1, 3) := by decide +kernel
theorem dX3_term_57 : decode cX3_term 57 = .ok (.goto (-49), 3) := by decide +kernel
theorem dX3_term_60 : decode cX3_term 60 = .ok (.iload_n 2, 1) := by decide +kernel
theorem dX3_term_61 : decode cX3_term 61 = .ok (.ireturn, 1) := by decide +kernel
set_option maxRecDepth 20000 in
theorem gX3_formula_X3_term : GoodIn wsX3_formula (wsV RX3 73 RX3 yX3_term wsX3_term) := goodIn_r _ [4, 5, 6, 7, 162, 1, 2, 3, 152, 153, 154, 7, 8, 9, 10, 11, 12, 13, 14, 15, 16, 17, 18, 19, 20, 21, 22, 23, 24, 25, 26, 27, 28, 29, 30, 31, 32, 33, 34, 35, 36, 37, 38, 39, 40, 41, 42, 43, 44, 45, 46, 47, 48, 49, 50, 51, 52, 53, 54, 55, 56, 57, 58, 59, 60, 61, 62, 63, 64, 65, 66, 67, 68, 69, 70, 71, 72, 73, 74, 75, 76, 77, 78, 79, 80, 81, 82, 83, 84, 85, 86, 87, 88, 89, 90, 91, 92, 93, 94, 95, 96, 97, 98, 99, 100, 101, 102, 103, 104, 105, 106, 107, 108, 109, 110, 111, 112, 113, 114, 115, 116, 117, 118, 119, 120, 121, 122, 123, 124, 125, 0, 4, 5, 6, 126, 127, 128, 129, 130, 131, 132, 133, 134, 135, 136, 137, 138, 139, 140, 141, 142, 143, 144, 145, 146, 147, 148, 149, 150, 151, 155, 156, 157, 158, 159, 160, 161, 163, 164, 165, 166, 167, 168, 169, 170, 171, 172, 173, 174, 175, 176, 177, 178, 179, 180, 181, 182, 183, 184, 185, 186, 187, 188, 189, 190, 191, 192] rfl (by decide +kernel)
set_option maxRecDepth 20000 in
theorem gX3_formula_X10_advance : GoodIn wsX3_formula (wsV RX3 49 RX10 yX10_advance wsX10_advance) := goodIn_r _ [8, 9, 10, 11, 12, 13, 14, 15, 16, 17, 18, 19, 20, 11, 21, 22, 23, 24, 25, 26, 27, 28, 29, 30, 31, 32, 33, 34, 35, 36, 37, 38, 39, 40, 41, 42, 43, 44, 45, 46, 47, 48, 49, 50, 51, 52, 53, 54, 55, 56, 57, 58, 59, 60, 61, 62, 63, 64, 65, 66, 67, 68, 69, 70, 71, 72, 73, 74, 75, 76, 77, 78, 79, 80, 81, 82, 83, 84, 85, 86, 87, 88, 89, 90, 91, 92, 93, 94, 95, 96, 97, 98, 99, 100, 101, 102, 103, 104, 105, 106, 107, 108, 109, 110, 111, 112, 113, 114, 115, 116, 117, 167, 168, 169, 170, 171, 172, 173, 174] rfl (by decide +kernel)
set_option maxRecDepth 20000 in
theorem gX3_formula_X2_put : GoodIn wsX3_formula (wsV RX3 76 RX2 yX2_put wsX2_put) := goodIn_r _ [118, 119, 120, 121, 122, 123, 124, 125, 175, 176, 177, 178, 179] rfl (by decide +kernel)
theorem dX3_formula_0 : decode cX3_formula 0 = .ok (.aload_n 0, 1) := by decide +kernel
theorem dX3_formula_1 : decode cX3_formula 1 = .ok (.iload_n 1, 1) := by decide +kernel
theorem dX3_formula_2 : decode cX3_formula 2 = .ok (.invokevirtual 73, 3) := by decide +kernel
theorem dX3_formula_5 : decode cX3_formula 5 = .ok (.istore_n 2, 1) := by decide +kernel
theorem dX3_formula_6 : decode cX3_formula 6 = .ok (.iconst 0, 1) := by decide +kernel
theorem dX3_formula_7 : decode cX3_formula 7 = .ok (.istore_n 3, 1) := by decide +kernel
theorem dX3_formula_8 : decode cX3_formula 8 = .ok (.iload_n 3, 1) := by decide +kernel
theorem dX3_formula_9 : decode cX3_formula 9 = .ok (.sipush 1000, 3) := by decide +kernel
theorem dX3_formula_12 : decode cX3_formula 12 = .ok (.if_icmp .ge 48, 3) := by decide +kernel
theorem dX3_formula_15 : decode cX3_formula 15 = .ok (.iload_n 2, 1) := by decide +kernel
theorem dX3_formula_16 : decode cX3_formula 16 = .ok (.ifCond .eq 44, 3) := by decide +kernel
theorem dX3_formula_19 : decode cX3_formula 19 = .ok (.aload_n 0, 1) := by decide +kernel
theorem dX3_formula_20 : decode cX3_formula 20 = .ok (.getfield 12, 3) := by decide +kernel
theorem dX3_formula_23 : decode cX3_formula 23 = .ok (.getfield 42, 3) := by decide +kernel
theorem dX3_formula_26 : decode cX3_formula 26 = .ok (.bipush 28, 2) := by decide +kernel
theorem dX3_formula_28 : decode cX3_formula 28 = .ok (.if_icmp .ne 32, 3) := by decide +kernel
theorem dX3_formula_31 : decode cX3_formula 31 = .ok (.aload_n 0, 1) := by decide +kernel
theorem dX3_formula_32 : decode cX3_formula 32 = .ok (.getfield 12, 3) := by decide +kernel
theorem dX3_formula_35 : decode cX3_formula 35 = .ok (.invokevirtual 49, 3) := by decide +kernel
theorem dX3_formula_38 : decode cX3_formula 38 = .ok (.aload_n 0, 1) := by decide +kernel
theorem dX3_formula_39 : decode cX3_formula 39 = .ok (.iload_n 1, 1) := by decide +kernel
theorem dX3_formula_40 : decode cX3_formula 40 = .ok (.invokevirtual 73, 3) := by decide +kernel
theorem dX3_formula_43 : decode cX3_formula 43 = .ok (.istore_n 2, 1) := by decide +kernel
theorem dX3_formula_44 : decode cX3_formula 44 = .ok (.aload_n 0, 1) := by decide +kernel
theorem dX3_formula_45 : decode cX3_formula 45 = .ok (.getfield 21, 3) := by decide +kernel
theorem dX3_formula_48 : decode cX3_formula 48 = .ok (.bipush 28, 2) := by decide +kernel
theorem dX3_formula_50 : decode cX3_formula 50 = .ok (.iconst 0, 1) := by decide +kernel
theorem dX3_formula_51 : decode cX3_formula 51 = .ok (.invokevirtual 76, 3) := by decide +kernel
theorem dX3_formula_54 : decode cX3_formula 54 = .ok (.iinc 3 1, 3) := by decide +kernel
theorem dX3_formula_57 : decode cX3_formula 57 = .ok (.goto (-49), 3) := by decide +kernel
theorem dX3_formula_60 : decode cX3_formula 60 = .ok (.iload_n 2, 1) := by decide +kernel
theorem dX3_formula_61 : decode cX3_formula 61 = .ok (.ireturn, 1) := by decide +kernel
set_option maxRecDepth 20000 in
theorem gX3_item_X10_isName : GoodIn wsX3_item (wsV RX3 69 RX10 yX10_isName wsX10_isName) := goodIn_r _ [6, 7, 8, 9, 10, 11, 167, 168, 169, 170, 171, 172, 173, 174] rfl (by decide +kernel)
set_option maxRecDepth 20000 in
theorem gX3_item_X3_fail : GoodIn wsX3_item (wsV RX3 45 RX3 yX3_fail wsX3_fail) := goodIn_r _ [12, 13, 14, 15, 16, 1, 17, 18, 163, 164, 165, 166, 167, 168, 169, 170, 171, 172, 173, 174] rfl (by decide +kernel)
set_option maxRecDepth 20000 in
theorem gX3_item_X4_guestNamed : GoodIn wsX3_item (wsV RX3 56 RX4 yX4_guestNamed wsX4_guestNamed) := goodIn_r _ [19, 20, 21, 22, 23, 24, 25, 180, 181, 182, 183, 184, 185, 186, 187, 188, 189, 190, 191, 192] rfl (by decide +kernel)
set_option maxRecDepth 20000 in
theorem gX3_item_X4_signNamed : GoodIn wsX3_item (wsV RX3 66 RX4 yX4_signNamed wsX4_signNamed) := goodIn_r _ [26, 27, 28, 22, 29, 30, 31, 180, 181, 182, 183, 184, 185, 186, 187, 188, 189, 190, 191, 192] rfl (by decide +kernel)
set_option maxRecDepth 20000 in
theorem gX3_item_X10_advance : GoodIn wsX3_item (wsV RX3 49 RX10 yX10_advance wsX10_advance) := goodIn_r _ [32, 33, 34, 9, 35, 36, 37, 38, 39, 11, 40, 41, 42, 9, 43, 44, 45, 46, 47, 48, 49, 50, 51, 52, 53, 54, 55, 56, 57, 58, 59, 60, 61, 62, 63, 64, 65, 66, 67, 68, 69, 70, 71, 72, 73, 74, 75, 76, 77, 78, 79, 80, 81, 82, 83, 84, 85, 86, 87, 88, 89, 90, 91, 92, 93, 94, 95, 96, 97, 98, 99, 100, 101, 102, 103, 104, 105, 106, 107, 108, 109, 110, 111, 112, 113, 114, 115, 116, 117, 118, 119, 120, 121, 122, 123, 124, 125, 126, 127, 128, 129, 130, 131, 132, 133, 134, 135, 136, 137, 138, 139, 167, 168, 169, 170, 171, 172, 173, 174] rfl (by decide +kernel)
set_option maxRecDepth 20000 in
theorem gX3_item_X3_item : GoodIn wsX3_item (wsV RX3 80 RX3 yX3_item wsX3_item) := goodIn_r _ [140, 141, 142, 15, 0, 1, 2, 3, 4, 5, 6, 7, 8, 9, 10, 11, 12, 13, 14, 15, 16, 17, 18, 19, 20, 21, 22, 23, 24, 25, 26, 27, 28, 29, 30, 31, 32, 33, 34, 35, 36, 37, 38, 39, 40, 41, 42, 43, 44, 45, 46, 47, 48, 49, 50, 51, 52, 53, 54, 55, 56, 57, 58, 59, 60, 61, 62, 63, 64, 65, 66, 67, 68, 69, 70, 71, 72, 73, 74, 75, 76, 77, 78, 79, 80, 81, 82, 83, 84, 85, 86, 87, 88, 89, 90, 91, 92, 93, 94, 95, 96, 97, 98, 99, 100, 101, 102, 103, 104, 105, 106, 107, 108, 109, 110, 111, 112, 113, 114, 115, 116, 117, 118, 119, 120, 121, 122, 123, 124, 125, 126, 127, 128, 129, 130, 131, 132, 133, 134, 135, 136, 137, 138, 139, 140, 141, 142, 143, 144, 145, 146, 147, 148, 149, 150, 151, 152, 153, 154, 155, 156, 157, 158, 159, 160, 161, 162, 163, 164, 165, 166, 167, 168, 169, 170, 171, 172, 173, 174, 175, 176, 177, 178, 179, 180, 181, 182, 183, 184, 185, 186, 187, 188, 189, 190, 191, 192] rfl (by decide +kernel)
set_option maxRecDepth 20000 in
theorem gX3_item_X2_put : GoodIn wsX3_item (wsV RX3 76 RX2 yX2_put wsX2_put) := goodIn_r _ [143, 144, 145, 146, 147, 148, 149, 150, 175, 176, 177, 178, 179] rfl (by decide +kernel)
set_option maxRecDepth 20000 in
theorem gX3_item_X3_formula : GoodIn wsX3_item (wsV RX3 83 RX3 yX3_formula wsX3_formula) := goodIn_r _ [151, 152, 153, 15, 158, 1, 2, 5, 159, 160, 161, 15, 32, 33, 34, 9, 35, 36, 37, 38, 39, 11, 40, 41, 42, 43, 44, 45, 46, 47, 48, 49, 50, 51, 52, 53, 54, 55, 56, 57, 58, 59, 60, 61, 62, 63, 64, 65, 66, 67, 68, 69, 70, 71, 72, 73, 74, 75, 76, 77, 78, 79, 80, 81, 82, 83, 84, 85, 86, 87, 88, 89, 90, 91, 92, 93, 94, 95, 96, 97, 98, 99, 100, 101, 102, 103, 104, 105, 106, 107, 108, 109, 110, 111, 112, 113, 114, 115, 116, 117, 118, 119, 120, 121, 122, 123, 124, 125, 126, 127, 128, 129, 130, 131, 132, 133, 134, 135, 136, 137, 138, 139, 143, 144, 145, 146, 147, 148, 149, 150, 0, 3, 4, 6, 7, 8, 10, 12, 13, 14, 16, 17, 18, 19, 20, 21, 22, 23, 24, 25, 26, 27, 28, 29, 30, 31, 140, 141, 142, 151, 152, 153, 154, 155, 156, 157, 162, 163, 164, 165, 166, 167, 168, 169, 170, 171, 172, 173, 174, 175, 176, 177, 178, 179, 180, 181, 182, 183, 184, 185, 186, 187, 188, 189, 190, 191, 192] rfl (by decide +kernel)
set_option maxRecDepth 20000 in
theorem gX3_item_X3_take : GoodIn wsX3_item (wsV RX3 86 RX3 yX3_take wsX3_take) := goodIn_r _ [154, 155, 156, 15, 157, 1, 2, 12, 13, 14, 15, 16, 17, 18, 32, 33, 34, 9, 35, 36, 37, 38, 39, 11, 40, 41, 42, 43, 44, 45, 46, 47, 48, 49, 50, 51, 52, 53, 54, 55, 56, 57, 58, 59, 60, 61, 62, 63, 64, 65, 66, 67, 68, 69, 70, 71, 72, 73, 74, 75, 76, 77, 78, 79, 80, 81, 82, 83, 84, 85, 86, 87, 88, 89, 90, 91, 92, 93, 94, 95, 96, 97, 98, 99, 100, 101, 102, 103, 104, 105, 106, 107, 108, 109, 110, 111, 112, 113, 114, 115, 116, 117, 118, 119, 120, 121, 122, 123, 124, 125, 126, 127, 128, 129, 130, 131, 132, 133, 134, 135, 136, 137, 138, 139, 163, 164, 165, 166, 167, 168, 169, 170, 171, 172, 173, 174] rfl (by decide +kernel)
theorem dX3_item_0 : decode cX3_item 0 = .ok (.aload_n 0, 1) := by decide +kernel
theorem dX3_item_1 : decode cX3_item 1 = .ok (.getfield 12, 3) := by decide +kernel
theorem dX3_item_4 : decode cX3_item 4 = .ok (.getfield 42, 3) := by decide +kernel
theorem dX3_item_7 : decode cX3_item 7 = .ok (.istore_n 2, 1) := by decide +kernel
theorem dX3_item_8 : decode cX3_item 8 = .ok (.aload_n 0, 1) := by decide +kernel
theorem dX3_item_9 : decode cX3_item 9 = .ok (.getfield 12, 3) := by decide +kernel
theorem dX3_item_12 : decode cX3_item 12 = .ok (.invokevirtual 69, 3) := by decide +kernel
theorem dX3_item_15 : decode cX3_item 15 = .ok (.istore_n 3, 1) := by decide +kernel
theorem dX3_item_16 : decode cX3_item 16 = .ok (.iload_n 2, 1) := by decide +kernel
theorem dX3_item_17 : decode cX3_item 17 = .ok (.bipush 18, 2) := by decide +kernel
theorem dX3_item_19 : decode cX3_item 19 = .ok (.if_icmp .lt 13, 3) := by decide +kernel
theorem dX3_item_22 : decode cX3_item 22 = .ok (.iload_n 2, 1) := by decide +kernel
theorem dX3_item_23 : decode cX3_item 23 = .ok (.bipush 25, 2) := by decide +kernel
theorem dX3_item_25 : decode cX3_item 25 = .ok (.if_icmp .gt 7, 3) := by decide +kernel
theorem dX3_item_28 : decode cX3_item 28 = .ok (.iconst 1, 1) := by decide +kernel
theorem dX3_item_29 : decode cX3_item 29 = .ok (.goto 4, 3) := by decide +kernel
theorem dX3_item_32 : decode cX3_item 32 = .ok (.iconst 0, 1) := by decide +kernel
theorem dX3_item_33 : decode cX3_item 33 = .ok (.istore 4, 2) := by decide +kernel
theorem dX3_item_35 : decode cX3_item 35 = .ok (.iload_n 3, 1) := by decide +kernel
theorem dX3_item_36 : decode cX3_item 36 = .ok (.ifCond .ne 26, 3) := by decide +kernel
theorem dX3_item_39 : decode cX3_item 39 = .ok (.iload 4, 2) := by decide +kernel
theorem dX3_item_41 : decode cX3_item 41 = .ok (.ifCond .ne 21, 3) := by decide +kernel
theorem dX3_item_44 : decode cX3_item 44 = .ok (.iload_n 2, 1) := by decide +kernel
theorem dX3_item_45 : decode cX3_item 45 = .ok (.bipush 26, 2) := by decide +kernel
theorem dX3_item_47 : decode cX3_item 47 = .ok (.if_icmp .eq 15, 3) := by decide +kernel
theorem dX3_item_50 : decode cX3_item 50 = .ok (.iload_n 2, 1) := by decide +kernel
theorem dX3_item_51 : decode cX3_item 51 = .ok (.bipush 40, 2) := by decide +kernel
theorem dX3_item_53 : decode cX3_item 53 = .ok (.if_icmp .eq 9, 3) := by decide +kernel
theorem dX3_item_56 : decode cX3_item 56 = .ok (.aload_n 0, 1) := by decide +kernel
theorem dX3_item_57 : decode cX3_item 57 = .ok (.iconst 1, 1) := by decide +kernel
theorem dX3_item_58 : decode cX3_item 58 = .ok (.invokevirtual 45, 3) := by decide +kernel
theorem dX3_item_61 : decode cX3_item 61 = .ok (.ireturn, 1) := by decide +kernel
theorem dX3_item_62 : decode cX3_item 62 = .ok (.aload_n 0, 1) := by decide +kernel
theorem dX3_item_63 : decode cX3_item 63 = .ok (.getfield 25, 3) := by decide +kernel
theorem dX3_item_66 : decode cX3_item 66 = .ok (.aload_n 0, 1) := by decide +kernel
theorem dX3_item_67 : decode cX3_item 67 = .ok (.getfield 12, 3) := by decide +kernel
theorem dX3_item_70 : decode cX3_item 70 = .ok (.getfield 52, 3) := by decide +kernel
theorem dX3_item_73 : decode cX3_item 73 = .ok (.invokevirtual 56, 3) := by decide +kernel
theorem dX3_item_76 : decode cX3_item 76 = .ok (.istore 5, 2) := by decide +kernel
theorem dX3_item_78 : decode cX3_item 78 = .ok (.aload_n 0, 1) := by decide +kernel
theorem dX3_item_79 : decode cX3_item 79 = .ok (.getfield 25, 3) := by decide +kernel
theorem dX3_item_82 : decode cX3_item 82 = .ok (.aload_n 0, 1) := by decide +kernel
theorem dX3_item_83 : decode cX3_item 83 = .ok (.getfield 12, 3) := by decide +kernel
theorem dX3_item_86 : decode cX3_item 86 = .ok (.getfield 52, 3) := by decide +kernel
theorem dX3_item_89 : decode cX3_item 89 = .ok (.invokevirtual 66, 3) := by decide +kernel
theorem dX3_item_92 : decode cX3_item 92 = .ok (.istore 6, 2) := by decide +kernel
theorem dX3_item_94 : decode cX3_item 94 = .ok (.iload_n 3, 1) := by decide +kernel
theorem dX3_item_95 : decode cX3_item 95 = .ok (.ifCond .eq 21, 3) := by decide +kernel
theorem dX3_item_98 : decode cX3_item 98 = .ok (.iload 5, 2) := by decide +kernel
theorem dX3_item_100 : decode cX3_item 100 = .ok (.iconst (-1), 1) := by decide +kernel
theorem dX3_item_101 : decode cX3_item 101 = .ok (.if_icmp .ne 15, 3) := by decide +kernel
theorem dX3_item_104 : decode cX3_item 104 = .ok (.iload 6, 2) := by decide +kernel
theorem dX3_item_106 : decode cX3_item 106 = .ok (.iconst (-1), 1) := by decide +kernel
theorem dX3_item_107 : decode cX3_item 107 = .ok (.if_icmp .ne 9, 3) := by decide +kernel
theorem dX3_item_110 : decode cX3_item 110 = .ok (.aload_n 0, 1) := by decide +kernel
theorem dX3_item_111 : decode cX3_item 111 = .ok (.iconst 2, 1) := by decide +kernel
theorem dX3_item_112 : decode cX3_item 112 = .ok (.invokevirtual 45, 3) := by decide +kernel
theorem dX3_item_115 : decode cX3_item 115 = .ok (.ireturn, 1) := by decide +kernel
theorem dX3_item_116 : decode cX3_item 116 = .ok (.iload_n 1, 1) := by decide +kernel
theorem dX3_item_117 : decode cX3_item 117 = .ok (.iconst 5, 1) := by decide +kernel
theorem dX3_item_118 : decode cX3_item 118 = .ok (.if_icmp .lt 9, 3) := by decide +kernel
theorem dX3_item_121 : decode cX3_item 121 = .ok (.aload_n 0, 1) := by decide +kernel
theorem dX3_item_122 : decode cX3_item 122 = .ok (.iconst 5, 1) := by decide +kernel
theorem dX3_item_123 : decode cX3_item 123 = .ok (.invokevirtual 45, 3) := by decide +kernel
theorem dX3_item_126 : decode cX3_item 126 = .ok (.ireturn, 1) := by decide +kernel
theorem dX3_item_127 : decode cX3_item 127 = .ok (.aload_n 0, 1) := by decide +kernel
theorem dX3_item_128 : decode cX3_item 128 = .ok (.getfield 12, 3) := by decide +kernel
theorem dX3_item_131 : decode cX3_item 131 = .ok (.invokevirtual 49, 3) := by decide +kernel
theorem dX3_item_134 : decode cX3_item 134 = .ok (.iload_n 2, 1) := by decide +kernel
theorem dX3_item_135 : decode cX3_item 135 = .ok (.bipush 26, 2) := by decide +kernel
theorem dX3_item_137 : decode cX3_item 137 = .ok (.if_icmp .ne 25, 3) := by decide +kernel
theorem dX3_item_140 : decode cX3_item 140 = .ok (.aload_n 0, 1) := by decide +kernel
theorem dX3_item_141 : decode cX3_item 141 = .ok (.iload_n 1, 1) := by decide +kernel
theorem dX3_item_142 : decode cX3_item 142 = .ok (.iconst 1, 1) := by decide +kernel
theorem dX3_item_143 : decode cX3_item 143 = .ok (.iadd, 1) := by decide +kernel
theorem dX3_item_144 : decode cX3_item 144 = .ok (.invokevirtual 80, 3) := by decide +kernel
theorem dX3_item_147 : decode cX3_item 147 = .ok (.istore 7, 2) := by decide +kernel
theorem dX3_item_149 : decode cX3_item 149 = .ok (.aload_n 0, 1) := by decide +kernel
theorem dX3_item_150 : decode cX3_item 150 = .ok (.getfield 21, 3) := by decide +kernel
theorem dX3_item_153 : decode cX3_item 153 = .ok (.bipush 26, 2) := by decide +kernel
theorem dX3_item_155 : decode cX3_item 155 = .ok (.iconst 0, 1) := by decide +kernel
theorem dX3_item_156 : decode cX3_item 156 = .ok (.invokevirtual 76, 3) := by decide +kernel
theorem dX3_item_159 : decode cX3_item 159 = .ok (.iload 7, 2) := by decide +kernel
theorem dX3_item_161 : decode cX3_item 161 = .ok (.ireturn, 1) := by decide +kernel
theorem dX3_item_162 : decode cX3_item 162 = .ok (.iload_n 2, 1) := by decide +kernel
theorem dX3_item_163 : decode cX3_item 163 = .ok (.bipush 40, 2) := by decide +kernel
theorem dX3_item_165 : decode cX3_item 165 = .ok (.if_icmp .ne 28, 3) := by decide +kernel
theorem dX3_item_168 : decode cX3_item 168 = .ok (.aload_n 0, 1) := by decide +kernel
theorem dX3_item_169 : decode cX3_item 169 = .ok (.iload_n 1, 1) := by decide +kernel
theorem dX3_item_170 : decode cX3_item 170 = .ok (.iconst 1, 1) := by decide +kernel
theorem dX3_item_171 : decode cX3_item 171 = .ok (.iadd, 1) := by decide +kernel
theorem dX3_item_172 : decode cX3_item 172 = .ok (.invokevirtual 83, 3) := by decide +kernel
theorem dX3_item_175 : decode cX3_item 175 = .ok (.ifCond .eq 16, 3) := by decide +kernel
theorem dX3_item_178 : decode cX3_item 178 = .ok (.aload_n 0, 1) := by decide +kernel
theorem dX3_item_179 : decode cX3_item 179 = .ok (.bipush 41, 2) := by decide +kernel
theorem dX3_item_181 : decode cX3_item 181 = .ok (.invokevirtual 86, 3) := by decide +kernel
theorem dX3_item_184 : decode cX3_item 184 = .ok (.ifCond .eq 7, 3) := by decide +kernel
theorem dX3_item_187 : decode cX3_item 187 = .ok (.iconst 1, 1) := by decide +kernel
theorem dX3_item_188 : decode cX3_item 188 = .ok (.goto 4, 3) := by decide +kernel
theorem dX3_item_191 : decode cX3_item 191 = .ok (.iconst 0, 1) := by decide +kernel
theorem dX3_item_192 : decode cX3_item 192 = .ok (.ireturn, 1) := by decide +kernel
theorem dX3_item_193 : decode cX3_item 193 = .ok (.iload_n 3, 1) := by decide +kernel
theorem dX3_item_194 : decode cX3_item 194 = .ok (.ifCond .ne 15, 3) := by decide +kernel
theorem dX3_item_197 : decode cX3_item 197 = .ok (.aload_n 0, 1) := by decide +kernel
theorem dX3_item_198 : decode cX3_item 198 = .ok (.getfield 21, 3) := by decide +kernel
theorem dX3_item_201 : decode cX3_item 201 = .ok (.iload_n 2, 1) := by decide +kernel
theorem dX3_item_202 : decode cX3_item 202 = .ok (.iconst 0, 1) := by decide +kernel
theorem dX3_item_203 : decode cX3_item 203 = .ok (.invokevirtual 76, 3) := by decide +kernel
theorem dX3_item_206 : decode cX3_item 206 = .ok (.goto 32, 3) := by decide +kernel
theorem dX3_item_209 : decode cX3_item 209 = .ok (.iload 5, 2) := by decide +kernel
theorem dX3_item_211 : decode cX3_item 211 = .ok (.iconst (-1), 1) := by decide +kernel
theorem dX3_item_212 : decode cX3_item 212 = .ok (.if_icmp .eq 16, 3) := by decide +kernel
theorem dX3_item_215 : decode cX3_item 215 = .ok (.aload_n 0, 1) := by decide +kernel
theorem dX3_item_216 : decode cX3_item 216 = .ok (.getfield 21, 3) := by decide +kernel
theorem dX3_item_219 : decode cX3_item 219 = .ok (.iconst 0, 1) := by decide +kernel
theorem dX3_item_220 : decode cX3_item 220 = .ok (.iload 5, 2) := by decide +kernel
theorem dX3_item_222 : decode cX3_item 222 = .ok (.invokevirtual 76, 3) := by decide +kernel
theorem dX3_item_225 : decode cX3_item 225 = .ok (.goto 13, 3) := by decide +kernel
theorem dX3_item_228 : decode cX3_item 228 = .ok (.aload_n 0, 1) := by decide +kernel
theorem dX3_item_229 : decode cX3_item 229 = .ok (.getfield 21, 3) := by decide +kernel
theorem dX3_item_232 : decode cX3_item 232 = .ok (.iconst 3, 1) := by decide +kernel
theorem dX3_item_233 : decode cX3_item 233 = .ok (.iload 6, 2) := by decide +kernel
theorem dX3_item_235 : decode cX3_item 235 = .ok (.invokevirtual 76, 3) := by decide +kernel
theorem dX3_item_238 : decode cX3_item 238 = .ok (.iconst 1, 1) := by decide +kernel
theorem dX3_item_239 : decode cX3_item 239 = .ok (.ireturn, 1) := by decide +kernel



section
variable {p : Program} {l : Launch} {e : Env} {s : State} {m : MethodId} {args : Array Value} {below : List Frame} {meth : Method} {c : Code} {D : va_G} {cy : Nat → ClassId} {ad : Nat → Nat} {A : Nat → Prop} {aM aB aO aI aN aT aC aG aR aQ aK aL aX aH aJ aP aU aE0 aE1 aE2 aE3 : Nat → Nat} {gi : Value}
abbrev rm3_term (dp : Nat) : Room := { frames := 7 + 3 * dp, cells := 0, slots := 0, locals := 165 + 73 * dp }
theorem hdV3_term : yX3_term.cls = RX3 ∧ (yX3_term.cls ≠ "java/lang/invoke/MethodHandle" ∧ yX3_term.cls ≠ "java/lang/invoke/VarHandle" ∧ (parseMethodDescriptor yX3_term.desc).map (fun d => d.parameters.length) = some 1) := by decide +kernel
abbrev rm3_formula (dp : Nat) : Room := { frames := 8 + 3 * dp, cells := 0, slots := 0, locals := 188 + 73 * dp }
theorem hdV3_formula : yX3_formula.cls = RX3 ∧ (yX3_formula.cls ≠ "java/lang/invoke/MethodHandle" ∧ yX3_formula.cls ≠ "java/lang/invoke/VarHandle" ∧ (parseMethodDescriptor yX3_formula.desc).map (fun d => d.parameters.length) = some 1) := by decide +kernel
abbrev rm3_item (dp : Nat) : Room := { frames := 6 + 3 * dp, cells := 0, slots := 0, locals := 138 + 73 * dp }
theorem hdV3_item : yX3_item.cls = RX3 ∧ (yX3_item.cls ≠ "java/lang/invoke/MethodHandle" ∧ yX3_item.cls ≠ "java/lang/invoke/VarHandle" ∧ (parseMethodDescriptor yX3_item.desc).map (fun d => d.parameters.length) = some 1) := by decide +kernel
theorem hin3_term_3 : ∀ x ∈ u_ws RX3 TX3 4, x ∈ wsX3_term := fun _ h => List.mem_cons_of_mem _ (List.mem_append_left _ (List.mem_append_left _ (List.mem_append_left _ (List.mem_append_right _ h))))
theorem hin3_term_10 : ∀ x ∈ u_ws RX10 TX10 8, x ∈ wsX3_term := fun _ h => List.mem_cons_of_mem _ (List.mem_append_left _ (List.mem_append_left _ (List.mem_append_right _ h)))
set_option maxRecDepth 100000 in
set_option maxHeartbeats 4000000 in
theorem t3_term_60 (rec : Int32 → Ob → Ob → Ob → Ob → Option (Int32 × Ob × Ob × Ob)) (hC : Cx p s m args meth c cX3_term 4 wsX3_term RX3 (some .boolean)) (dp : Nat) (hrec : ∀ {x1 : Int32} {SG : Ob} {ST : Ob} {SC : Ob} {SI : Ob} {res : Int32 × Ob × Ob × Ob}, rec x1 SG ST SC SI = some res → GCi l yX3_item wsX3_item (rm3_item dp) [.ref (aG 0), .int x1] D cy ad (w3 cy aG aT aC (.ref (aI 0)) SG ++ (w10 cy aT ST ++ (w2 cy aC SC ++ (w4 cy aI SI)))) (w3 cy aG aT aC (.ref (aI 0)) (res.2.1) ++ (w10 cy aT (res.2.2.1) ++ (w2 cy aC (res.2.2.2) ++ (w4 cy aI SI)))) (res.1)) : ∀ (x2 : Int32) (SG : Ob) (ST : Ob) (SC : Ob) (SI : Ob) (res : Int32 × Ob × Ob × Ob) (H : Heap) (locs : List Loc) (ls : Array Slot), f3_term_60 rec x2 SG ST SC SI = some res → GW D cy ad (w3 cy aG aT aC (.ref (aI 0)) SG ++ (w10 cy aT ST ++ (w2 cy aC SC ++ (w4 cy aI SI)))) A s H locs → lv_has ls 4 [(2, .int x2)] → W p l e (rm3_term dp) s m args below meth c H locs 0 0 (MQ below (QI D cy (w3 cy aG aT aC (.ref (aI 0)) (res.2.1) ++ (w10 cy aT (res.2.2.1) ++ (w2 cy aC (res.2.2.2) ++ (w4 cy aI SI)))) A (res.1)) args s 0 0 A) (F0 m 60 ls []) := by
  intro x2 SG ST SC SI res H locs ls hf hW hl
  unfold f3_term_60 at hf
  refine lv_iload_n hC.1 hC.2.1 dX3_term_60 rfl (lv_at hl 0 rfl) ?_
  obtain ⟨hz, hf⟩ := ck_of hf
  obtain rfl := Option.some.inj hf
  exact g_zret hC hW hz dX3_term_61
set_option maxRecDepth 100000 in
set_option maxHeartbeats 4000000 in
theorem t3_term_8 (rec : Int32 → Ob → Ob → Ob → Ob → Option (Int32 × Ob × Ob × Ob)) (hC : Cx p s m args meth c cX3_term 4 wsX3_term RX3 (some .boolean)) (dp : Nat) (hrec : ∀ {x1 : Int32} {SG : Ob} {ST : Ob} {SC : Ob} {SI : Ob} {res : Int32 × Ob × Ob × Ob}, rec x1 SG ST SC SI = some res → GCi l yX3_item wsX3_item (rm3_item dp) [.ref (aG 0), .int x1] D cy ad (w3 cy aG aT aC (.ref (aI 0)) SG ++ (w10 cy aT ST ++ (w2 cy aC SC ++ (w4 cy aI SI)))) (w3 cy aG aT aC (.ref (aI 0)) (res.2.1) ++ (w10 cy aT (res.2.2.1) ++ (w2 cy aC (res.2.2.2) ++ (w4 cy aI SI)))) (res.1)) : ∀ n : Nat, ∀ (x1 : Int32) (x2 : Int32) (x3 : Int32) (SG : Ob) (ST : Ob) (SC : Ob) (SI : Ob) (res : Int32 × Ob × Ob × Ob) (H : Heap) (locs : List Loc) (ls : Array Slot), f3_term_8 rec n x1 x2 x3 SG ST SC SI = some res → GW D cy ad (w3 cy aG aT aC (.ref (aI 0)) SG ++ (w10 cy aT ST ++ (w2 cy aC SC ++ (w4 cy aI SI)))) A s H locs → lv_has ls 4 [(0, .ref (aG 0)), (1, .int x1), (2, .int x2), (3, .int x3)] → W p l e (rm3_term dp) s m args below meth c H locs 0 0 (MQ below (QI D cy (w3 cy aG aT aC (.ref (aI 0)) (res.2.1) ++ (w10 cy aT (res.2.2.1) ++ (w2 cy aC (res.2.2.2) ++ (w4 cy aI SI)))) A (res.1)) args s 0 0 A) (F0 m 8 ls []) := by
  intro n
  induction n with
  | zero =>
    intro _ _ _ _ _ _ _ _ _ _ _ hf _ _
    exact nomatch (show (none : Option (Int32 × Ob × Ob × Ob)) = some _ from hf)
  | succ n ih =>
    intro x1 x2 x3 SG ST SC SI res H locs ls hf hW hl
    rw [f3_term_8] at hf
    refine lv_iload_n hC.1 hC.2.1 dX3_term_8 rfl (lv_at hl 3 rfl) ?_
    refine lv_sipush (v := 1000) hC.1 hC.2.1 dX3_term_9 (by decide) ?_
    refine lv_icmp_ge (tgt := 60) hC.1 hC.2.1 dX3_term_12 (by decide) (fun hc_1 => ?_) (fun hc_1 => ?_)
    · have hf := ite_t hf hc_1
      exact t3_term_60 rec hC dp hrec  _ _ _ _ _ _ _ _ _ hf hW (lv_sub hl [2] rfl)
    · have hf := ite_f hf hc_1
      refine lv_iload_n hC.1 hC.2.1 dX3_term_15 rfl (lv_at hl 2 rfl) ?_
      refine lv_if_eq (tgt := 60) hC.1 hC.2.1 dX3_term_16 (by decide) (fun hc_2 => ?_) (fun hc_2 => ?_)
      · have hf := ite_t hf hc_2
        exact t3_term_60 rec hC dp hrec  _ _ _ _ _ _ _ _ _ hf hW (lv_sub hl [2] rfl)
      · have hf := ite_f hf hc_2
        refine lv_aload_n hC.1 hC.2.1 dX3_term_19 rfl (lv_at hl 0 rfl) ?_
        refine g_get hC hW hin3_term_3 0 rfl rfl 0 (by decide) 1 rfl rfl dX3_term_20 ?_
        refine g_get hC hW hin3_term_10 1 rfl rfl 3 (by decide) 2 rfl rfl dX3_term_23 ?_
        refine lv_bipush (v := 27) hC.1 hC.2.1 dX3_term_26 (by decide) ?_
        refine lv_icmp_ne (tgt := 60) hC.1 hC.2.1 dX3_term_28 (by decide) (fun hc_3 => ?_) (fun hc_3 => ?_)
        · have hf := ite_f hf hc_3
          exact t3_term_60 rec hC dp hrec  _ _ _ _ _ _ _ _ _ hf hW (lv_sub hl [2] rfl)
        · have hf := ite_t hf hc_3
          refine lv_aload_n hC.1 hC.2.1 dX3_term_31 rfl (lv_at hl 0 rfl) ?_
          refine g_get hC hW hin3_term_3 0 rfl rfl 0 (by decide) 1 rfl rfl dX3_term_32 ?_
          obtain ⟨r_4, hg_5, hf⟩ := bd_of hf
          refine g_callvV (w' := w3 cy aG aT aC (.ref (aI 0)) SG ++ (w10 cy aT r_4 ++ (w2 cy aC SC ++ (w4 cy aI SI)))) hC hW (c10_advance l D cy ad aT hg_5) (cwV 0 hC.2.2.2.2.1 gX3_term_X10_advance rfl rfl rfl hdV10_advance ⟨by simp only [rm10_advance, rm3_term]; omega, by simp only [rm10_advance, rm3_term]; omega⟩) (⟨[1, 2, 3], [0, 4, 5, 6, 7, 8, 9, 10, 11, 12, 13, 14, 15, 16, 17, 18, 19], [0, 17, 18, 19, 1, 2, 3, 4, 5, 6, 7, 8, 9, 10, 11, 12, 13, 14, 15, 16], w3 cy aG aT aC (.ref (aI 0)) SG ++ (w2 cy aC SC ++ (w4 cy aI SI)), rfl, rfl, rfl, rfl, by decide, rfl, rfl⟩) 0 9 rfl rfl rfl rfl hl.1 rfl (Nat.le_of_ble_eq_true rfl) dX3_term_35 ⟨Nat.zero_le _, Nat.zero_le _⟩ (fun H locs hW => ?_)
          refine lv_aload_n hC.1 hC.2.1 dX3_term_38 rfl (lv_at hl 0 rfl) ?_
          refine lv_iload_n hC.1 hC.2.1 dX3_term_39 rfl (lv_at hl 1 rfl) ?_
          obtain ⟨r_6, hg_7, hf⟩ := bd_of hf
          refine g_calliV (w' := w3 cy aG aT aC (.ref (aI 0)) (r_6.2.1) ++ (w10 cy aT (r_6.2.2.1) ++ (w2 cy aC (r_6.2.2.2) ++ (w4 cy aI SI)))) hC hW (hrec hg_7) (cwV 1 hC.2.2.2.2.1 gX3_term_X3_item rfl rfl rfl hdV3_item ⟨by simp only [rm3_item, rm3_term]; omega, by simp only [rm3_item, rm3_term]; omega⟩) (Sub.all _ _) 0 3 rfl rfl rfl rfl hl.1 rfl (Nat.le_of_ble_eq_true rfl) dX3_term_40 ⟨Nat.zero_le _, Nat.zero_le _⟩ (fun H locs hW => ?_)
          refine lv_topi (fun x2_8 ex2_8 => ?_)
          have hf := lt_nm hf ex2_8
          refine lv_istore_n (lv' := [(2, .int x2_8), (0, .ref (aG 0)), (1, .int x1), (3, .int x3)]) hC.1 hC.2.1 dX3_term_43 rfl hl (by decide) rfl (fun ls hl => ?_)
          refine lv_aload_n hC.1 hC.2.1 dX3_term_44 rfl (lv_at hl 1 rfl) ?_
          refine g_get hC hW hin3_term_3 0 rfl rfl 1 (by decide) 3 rfl rfl dX3_term_45 ?_
          refine lv_bipush (v := 27) hC.1 hC.2.1 dX3_term_48 (by decide) ?_
          refine lv_iconst (v := 0) hC.1 hC.2.1 dX3_term_50 (by decide) ?_
          obtain ⟨r_9, hg_10, hf⟩ := bd_of hf
          refine g_callvV (w' := w3 cy aG aT aC (.ref (aI 0)) (r_6.2.1) ++ (w10 cy aT (r_6.2.2.1) ++ (w2 cy aC r_9 ++ (w4 cy aI SI)))) hC hW (c2_put l D cy ad aC hg_10) (cwV 2 hC.2.2.2.2.1 gX3_term_X2_put rfl rfl rfl hdV2_put ⟨by simp only [rm2_put, rm3_term]; omega, by simp only [rm2_put, rm3_term]; omega⟩) (⟨[4, 5, 6, 7], [0, 1, 2, 3, 8, 9, 10, 11, 12, 13, 14, 15, 16, 17, 18, 19], [0, 1, 2, 3, 16, 17, 18, 19, 4, 5, 6, 7, 8, 9, 10, 11, 12, 13, 14, 15], w3 cy aG aT aC (.ref (aI 0)) (r_6.2.1) ++ (w10 cy aT (r_6.2.2.1) ++ (w4 cy aI SI)), rfl, rfl, rfl, rfl, by decide, rfl, rfl⟩) 0 2 rfl rfl rfl rfl hl.1 rfl (Nat.le_of_ble_eq_true rfl) dX3_term_51 ⟨Nat.zero_le _, Nat.zero_le _⟩ (fun H locs hW => ?_)
          obtain ⟨x3_11, ex3_11⟩ : ∃ y : Int32, y = x3 + 1 := ⟨_, rfl⟩
          have hf := lt_nm hf ex3_11
          refine lv_iinc (v := x3_11) (lv' := [(3, .int x3_11), (2, .int x2_8), (0, .ref (aG 0)), (1, .int x1)]) hC.1 hC.2.1 dX3_term_54 hl (k := 3) rfl (by rw [ex3_11]; rfl) (by decide) rfl (fun ls hl => ?_)
          refine lv_goto (tgt := 8) hC.1 hC.2.1 dX3_term_57 (by decide) ?_
          exact ih _ _ _ _ _ _ _ _ _ _ _ hf hW (lv_sub hl [2, 3, 1, 0] rfl)
set_option maxRecDepth 100000 in
set_option maxHeartbeats 4000000 in
theorem t3_term_0 (rec : Int32 → Ob → Ob → Ob → Ob → Option (Int32 × Ob × Ob × Ob)) (hC : Cx p s m args meth c cX3_term 4 wsX3_term RX3 (some .boolean)) (dp : Nat) (hrec : ∀ {x1 : Int32} {SG : Ob} {ST : Ob} {SC : Ob} {SI : Ob} {res : Int32 × Ob × Ob × Ob}, rec x1 SG ST SC SI = some res → GCi l yX3_item wsX3_item (rm3_item dp) [.ref (aG 0), .int x1] D cy ad (w3 cy aG aT aC (.ref (aI 0)) SG ++ (w10 cy aT ST ++ (w2 cy aC SC ++ (w4 cy aI SI)))) (w3 cy aG aT aC (.ref (aI 0)) (res.2.1) ++ (w10 cy aT (res.2.2.1) ++ (w2 cy aC (res.2.2.2) ++ (w4 cy aI SI)))) (res.1)) : ∀ (x1 : Int32) (SG : Ob) (ST : Ob) (SC : Ob) (SI : Ob) (res : Int32 × Ob × Ob × Ob) (H : Heap) (locs : List Loc) (ls : Array Slot), f3_term rec x1 SG ST SC SI = some res → GW D cy ad (w3 cy aG aT aC (.ref (aI 0)) SG ++ (w10 cy aT ST ++ (w2 cy aC SC ++ (w4 cy aI SI)))) A s H locs → lv_has ls 4 [(0, .ref (aG 0)), (1, .int x1)] → W p l e (rm3_term dp) s m args below meth c H locs 0 0 (MQ below (QI D cy (w3 cy aG aT aC (.ref (aI 0)) (res.2.1) ++ (w10 cy aT (res.2.2.1) ++ (w2 cy aC (res.2.2.2) ++ (w4 cy aI SI)))) A (res.1)) args s 0 0 A) (F0 m 0 ls []) := by
  intro x1 SG ST SC SI res H locs ls hf hW hl
  unfold f3_term at hf
  refine lv_aload_n hC.1 hC.2.1 dX3_term_0 rfl (lv_at hl 0 rfl) ?_
  refine lv_iload_n hC.1 hC.2.1 dX3_term_1 rfl (lv_at hl 1 rfl) ?_
  obtain ⟨r_1, hg_2, hf⟩ := bd_of hf
  refine g_calliV (w' := w3 cy aG aT aC (.ref (aI 0)) (r_1.2.1) ++ (w10 cy aT (r_1.2.2.1) ++ (w2 cy aC (r_1.2.2.2) ++ (w4 cy aI SI)))) hC hW (hrec hg_2) (cwV 1 hC.2.2.2.2.1 gX3_term_X3_item rfl rfl rfl hdV3_item ⟨by simp only [rm3_item, rm3_term]; omega, by simp only [rm3_item, rm3_term]; omega⟩) (Sub.all _ _) 0 3 rfl rfl rfl rfl hl.1 rfl (Nat.le_of_ble_eq_true rfl) dX3_term_2 ⟨Nat.zero_le _, Nat.zero_le _⟩ (fun H locs hW => ?_)
  refine lv_topi (fun x2_3 ex2_3 => ?_)
  have hf := lt_nm hf ex2_3
  refine lv_istore_n (lv' := [(2, .int x2_3), (0, .ref (aG 0)), (1, .int x1)]) hC.1 hC.2.1 dX3_term_5 rfl hl (by decide) rfl (fun ls hl => ?_)
  refine lv_iconst (v := 0) hC.1 hC.2.1 dX3_term_6 (by decide) ?_
  refine lv_istore_n (lv' := [(3, .int 0), (2, .int x2_3), (0, .ref (aG 0)), (1, .int x1)]) hC.1 hC.2.1 dX3_term_7 rfl hl (by decide) rfl (fun ls hl => ?_)
  exact t3_term_8 rec hC dp hrec _ _ _ _ _ _ _ _ _ _ _ _ hf hW (lv_sub hl [2, 3, 1, 0] rfl)
set_option maxRecDepth 100000 in
set_option maxHeartbeats 4000000 in
theorem c3_term (l : Launch) (D : va_G) (cy : Nat → ClassId) (ad : Nat → Nat) (aG : Nat → Nat) (aT : Nat → Nat) (aC : Nat → Nat) (aI : Nat → Nat) (rec : Int32 → Ob → Ob → Ob → Ob → Option (Int32 × Ob × Ob × Ob)) (dp : Nat) (hrec : ∀ {x1 : Int32} {SG : Ob} {ST : Ob} {SC : Ob} {SI : Ob} {res : Int32 × Ob × Ob × Ob}, rec x1 SG ST SC SI = some res → GCi l yX3_item wsX3_item (rm3_item dp) [.ref (aG 0), .int x1] D cy ad (w3 cy aG aT aC (.ref (aI 0)) SG ++ (w10 cy aT ST ++ (w2 cy aC SC ++ (w4 cy aI SI)))) (w3 cy aG aT aC (.ref (aI 0)) (res.2.1) ++ (w10 cy aT (res.2.2.1) ++ (w2 cy aC (res.2.2.2) ++ (w4 cy aI SI)))) (res.1)) : ∀ {x1 : Int32} {SG : Ob} {ST : Ob} {SC : Ob} {SI : Ob} {res : Int32 × Ob × Ob × Ob}, f3_term rec x1 SG ST SC SI = some res → GCi l yX3_term wsX3_term (rm3_term dp) [.ref (aG 0), .int x1] D cy ad (w3 cy aG aT aC (.ref (aI 0)) SG ++ (w10 cy aT ST ++ (w2 cy aC SC ++ (w4 cy aI SI)))) (w3 cy aG aT aC (.ref (aI 0)) (res.2.1) ++ (w10 cy aT (res.2.2.1) ++ (w2 cy aC (res.2.2.2) ++ (w4 cy aI SI)))) (res.1) := fun {x1} {SG} {ST} {SC} {SI} {res} h sz => GC.start (own := RX3) (Qc := fun A => QI D cy (w3 cy aG aT aC (.ref (aI 0)) (res.2.1) ++ (w10 cy aT (res.2.2.1) ++ (w2 cy aC (res.2.2.2) ++ (w4 cy aI SI)))) A (res.1)) sz (by decide) rfl rfl (Nat.le_of_ble_eq_true rfl) (fun p e s m below meth c A ls hC hW hl => t3_term_0 rec hC dp hrec _ _ _ _ _ _ _ _ _ h hW (lv_sub hl [0, 1] rfl))
theorem hin3_formula_3 : ∀ x ∈ u_ws RX3 TX3 4, x ∈ wsX3_formula := fun _ h => List.mem_cons_of_mem _ (List.mem_append_left _ (List.mem_append_left _ (List.mem_append_left _ (List.mem_append_right _ h))))
theorem hin3_formula_10 : ∀ x ∈ u_ws RX10 TX10 8, x ∈ wsX3_formula := fun _ h => List.mem_cons_of_mem _ (List.mem_append_left _ (List.mem_append_left _ (List.mem_append_right _ h)))
set_option maxRecDepth 100000 in
set_option maxHeartbeats 4000000 in
theorem t3_formula_60 (rec : Int32 → Ob → Ob → Ob → Ob → Option (Int32 × Ob × Ob × Ob)) (hC : Cx p s m args meth c cX3_formula 4 wsX3_formula RX3 (some .boolean)) (dp : Nat) (hrec : ∀ {x1 : Int32} {SG : Ob} {ST : Ob} {SC : Ob} {SI : Ob} {res : Int32 × Ob × Ob × Ob}, rec x1 SG ST SC SI = some res → GCi l yX3_item wsX3_item (rm3_item dp) [.ref (aG 0), .int x1] D cy ad (w3 cy aG aT aC (.ref (aI 0)) SG ++ (w10 cy aT ST ++ (w2 cy aC SC ++ (w4 cy aI SI)))) (w3 cy aG aT aC (.ref (aI 0)) (res.2.1) ++ (w10 cy aT (res.2.2.1) ++ (w2 cy aC (res.2.2.2) ++ (w4 cy aI SI)))) (res.1)) : ∀ (x2 : Int32) (SG : Ob) (ST : Ob) (SC : Ob) (SI : Ob) (res : Int32 × Ob × Ob × Ob) (H : Heap) (locs : List Loc) (ls : Array Slot), f3_formula_60 rec x2 SG ST SC SI = some res → GW D cy ad (w3 cy aG aT aC (.ref (aI 0)) SG ++ (w10 cy aT ST ++ (w2 cy aC SC ++ (w4 cy aI SI)))) A s H locs → lv_has ls 4 [(2, .int x2)] → W p l e (rm3_formula dp) s m args below meth c H locs 0 0 (MQ below (QI D cy (w3 cy aG aT aC (.ref (aI 0)) (res.2.1) ++ (w10 cy aT (res.2.2.1) ++ (w2 cy aC (res.2.2.2) ++ (w4 cy aI SI)))) A (res.1)) args s 0 0 A) (F0 m 60 ls []) := by
  intro x2 SG ST SC SI res H locs ls hf hW hl
  unfold f3_formula_60 at hf
  refine lv_iload_n hC.1 hC.2.1 dX3_formula_60 rfl (lv_at hl 0 rfl) ?_
  obtain ⟨hz, hf⟩ := ck_of hf
  obtain rfl := Option.some.inj hf
  exact g_zret hC hW hz dX3_formula_61
set_option maxRecDepth 100000 in
set_option maxHeartbeats 4000000 in
theorem t3_formula_8 (rec : Int32 → Ob → Ob → Ob → Ob → Option (Int32 × Ob × Ob × Ob)) (hC : Cx p s m args meth c cX3_formula 4 wsX3_formula RX3 (some .boolean)) (dp : Nat) (hrec : ∀ {x1 : Int32} {SG : Ob} {ST : Ob} {SC : Ob} {SI : Ob} {res : Int32 × Ob × Ob × Ob}, rec x1 SG ST SC SI = some res → GCi l yX3_item wsX3_item (rm3_item dp) [.ref (aG 0), .int x1] D cy ad (w3 cy aG aT aC (.ref (aI 0)) SG ++ (w10 cy aT ST ++ (w2 cy aC SC ++ (w4 cy aI SI)))) (w3 cy aG aT aC (.ref (aI 0)) (res.2.1) ++ (w10 cy aT (res.2.2.1) ++ (w2 cy aC (res.2.2.2) ++ (w4 cy aI SI)))) (res.1)) : ∀ n : Nat, ∀ (x1 : Int32) (x2 : Int32) (x3 : Int32) (SG : Ob) (ST : Ob) (SC : Ob) (SI : Ob) (res : Int32 × Ob × Ob × Ob) (H : Heap) (locs : List Loc) (ls : Array Slot), f3_formula_8 rec n x1 x2 x3 SG ST SC SI = some res → GW D cy ad (w3 cy aG aT aC (.ref (aI 0)) SG ++ (w10 cy aT ST ++ (w2 cy aC SC ++ (w4 cy aI SI)))) A s H locs → lv_has ls 4 [(0, .ref (aG 0)), (1, .int x1), (2, .int x2), (3, .int x3)] → W p l e (rm3_formula dp) s m args below meth c H locs 0 0 (MQ below (QI D cy (w3 cy aG aT aC (.ref (aI 0)) (res.2.1) ++ (w10 cy aT (res.2.2.1) ++ (w2 cy aC (res.2.2.2) ++ (w4 cy aI SI)))) A (res.1)) args s 0 0 A) (F0 m 8 ls []) := by
  intro n
  induction n with
  | zero =>
    intro _ _ _ _ _ _ _ _ _ _ _ hf _ _
    exact nomatch (show (none : Option (Int32 × Ob × Ob × Ob)) = some _ from hf)
  | succ n ih =>
    intro x1 x2 x3 SG ST SC SI res H locs ls hf hW hl
    rw [f3_formula_8] at hf
    refine lv_iload_n hC.1 hC.2.1 dX3_formula_8 rfl (lv_at hl 3 rfl) ?_
    refine lv_sipush (v := 1000) hC.1 hC.2.1 dX3_formula_9 (by decide) ?_
    refine lv_icmp_ge (tgt := 60) hC.1 hC.2.1 dX3_formula_12 (by decide) (fun hc_1 => ?_) (fun hc_1 => ?_)
    · have hf := ite_t hf hc_1
      exact t3_formula_60 rec hC dp hrec  _ _ _ _ _ _ _ _ _ hf hW (lv_sub hl [2] rfl)
    · have hf := ite_f hf hc_1
      refine lv_iload_n hC.1 hC.2.1 dX3_formula_15 rfl (lv_at hl 2 rfl) ?_
      refine lv_if_eq (tgt := 60) hC.1 hC.2.1 dX3_formula_16 (by decide) (fun hc_2 => ?_) (fun hc_2 => ?_)
      · have hf := ite_t hf hc_2
        exact t3_formula_60 rec hC dp hrec  _ _ _ _ _ _ _ _ _ hf hW (lv_sub hl [2] rfl)
      · have hf := ite_f hf hc_2
        refine lv_aload_n hC.1 hC.2.1 dX3_formula_19 rfl (lv_at hl 0 rfl) ?_
        refine g_get hC hW hin3_formula_3 0 rfl rfl 0 (by decide) 1 rfl rfl dX3_formula_20 ?_
        refine g_get hC hW hin3_formula_10 1 rfl rfl 3 (by decide) 2 rfl rfl dX3_formula_23 ?_
        refine lv_bipush (v := 28) hC.1 hC.2.1 dX3_formula_26 (by decide) ?_
        refine lv_icmp_ne (tgt := 60) hC.1 hC.2.1 dX3_formula_28 (by decide) (fun hc_3 => ?_) (fun hc_3 => ?_)
        · have hf := ite_f hf hc_3
          exact t3_formula_60 rec hC dp hrec  _ _ _ _ _ _ _ _ _ hf hW (lv_sub hl [2] rfl)
        · have hf := ite_t hf hc_3
          refine lv_aload_n hC.1 hC.2.1 dX3_formula_31 rfl (lv_at hl 0 rfl) ?_
          refine g_get hC hW hin3_formula_3 0 rfl rfl 0 (by decide) 1 rfl rfl dX3_formula_32 ?_
          obtain ⟨r_4, hg_5, hf⟩ := bd_of hf
          refine g_callvV (w' := w3 cy aG aT aC (.ref (aI 0)) SG ++ (w10 cy aT r_4 ++ (w2 cy aC SC ++ (w4 cy aI SI)))) hC hW (c10_advance l D cy ad aT hg_5) (cwV 0 hC.2.2.2.2.1 gX3_formula_X10_advance rfl rfl rfl hdV10_advance ⟨by simp only [rm10_advance, rm3_formula]; omega, by simp only [rm10_advance, rm3_formula]; omega⟩) (⟨[1, 2, 3], [0, 4, 5, 6, 7, 8, 9, 10, 11, 12, 13, 14, 15, 16, 17, 18, 19], [0, 17, 18, 19, 1, 2, 3, 4, 5, 6, 7, 8, 9, 10, 11, 12, 13, 14, 15, 16], w3 cy aG aT aC (.ref (aI 0)) SG ++ (w2 cy aC SC ++ (w4 cy aI SI)), rfl, rfl, rfl, rfl, by decide, rfl, rfl⟩) 0 9 rfl rfl rfl rfl hl.1 rfl (Nat.le_of_ble_eq_true rfl) dX3_formula_35 ⟨Nat.zero_le _, Nat.zero_le _⟩ (fun H locs hW => ?_)
          refine lv_aload_n hC.1 hC.2.1 dX3_formula_38 rfl (lv_at hl 0 rfl) ?_
          refine lv_iload_n hC.1 hC.2.1 dX3_formula_39 rfl (lv_at hl 1 rfl) ?_
          obtain ⟨r_6, hg_7, hf⟩ := bd_of hf
          refine g_calliV (w' := w3 cy aG aT aC (.ref (aI 0)) (r_6.2.1) ++ (w10 cy aT (r_6.2.2.1) ++ (w2 cy aC (r_6.2.2.2) ++ (w4 cy aI SI)))) hC hW (c3_term l D cy ad aG aT aC aI rec dp hrec hg_7) (cwV 1 hC.2.2.2.2.1 gX3_formula_X3_term rfl rfl rfl hdV3_term ⟨by simp only [rm3_formula, rm3_term]; omega, by simp only [rm3_formula, rm3_term]; omega⟩) (Sub.all _ _) 0 3 rfl rfl rfl rfl hl.1 rfl (Nat.le_of_ble_eq_true rfl) dX3_formula_40 ⟨Nat.zero_le _, Nat.zero_le _⟩ (fun H locs hW => ?_)
          refine lv_topi (fun x2_8 ex2_8 => ?_)
          have hf := lt_nm hf ex2_8
          refine lv_istore_n (lv' := [(2, .int x2_8), (0, .ref (aG 0)), (1, .int x1), (3, .int x3)]) hC.1 hC.2.1 dX3_formula_43 rfl hl (by decide) rfl (fun ls hl => ?_)
          refine lv_aload_n hC.1 hC.2.1 dX3_formula_44 rfl (lv_at hl 1 rfl) ?_
          refine g_get hC hW hin3_formula_3 0 rfl rfl 1 (by decide) 3 rfl rfl dX3_formula_45 ?_
          refine lv_bipush (v := 28) hC.1 hC.2.1 dX3_formula_48 (by decide) ?_
          refine lv_iconst (v := 0) hC.1 hC.2.1 dX3_formula_50 (by decide) ?_
          obtain ⟨r_9, hg_10, hf⟩ := bd_of hf
          refine g_callvV (w' := w3 cy aG aT aC (.ref (aI 0)) (r_6.2.1) ++ (w10 cy aT (r_6.2.2.1) ++ (w2 cy aC r_9 ++ (w4 cy aI SI)))) hC hW (c2_put l D cy ad aC hg_10) (cwV 2 hC.2.2.2.2.1 gX3_formula_X2_put rfl rfl rfl hdV2_put ⟨by simp only [rm2_put, rm3_formula]; omega, by simp only [rm2_put, rm3_formula]; omega⟩) (⟨[4, 5, 6, 7], [0, 1, 2, 3, 8, 9, 10, 11, 12, 13, 14, 15, 16, 17, 18, 19], [0, 1, 2, 3, 16, 17, 18, 19, 4, 5, 6, 7, 8, 9, 10, 11, 12, 13, 14, 15], w3 cy aG aT aC (.ref (aI 0)) (r_6.2.1) ++ (w10 cy aT (r_6.2.2.1) ++ (w4 cy aI SI)), rfl, rfl, rfl, rfl, by decide, rfl, rfl⟩) 0 2 rfl rfl rfl rfl hl.1 rfl (Nat.le_of_ble_eq_true rfl) dX3_formula_51 ⟨Nat.zero_le _, Nat.zero_le _⟩ (fun H locs hW => ?_)
          obtain ⟨x3_11, ex3_11⟩ : ∃ y : Int32, y = x3 + 1 := ⟨_, rfl⟩
          have hf := lt_nm hf ex3_11
          refine lv_iinc (v := x3_11) (lv' := [(3, .int x3_11), (2, .int x2_8), (0, .ref (aG 0)), (1, .int x1)]) hC.1 hC.2.1 dX3_formula_54 hl (k := 3) rfl (by rw [ex3_11]; rfl) (by decide) rfl (fun ls hl => ?_)
          refine lv_goto (tgt := 8) hC.1 hC.2.1 dX3_formula_57 (by decide) ?_
          exact ih _ _ _ _ _ _ _ _ _ _ _ hf hW (lv_sub hl [2, 3, 1, 0] rfl)
set_option maxRecDepth 100000 in
set_option maxHeartbeats 4000000 in
theorem t3_formula_0 (rec : Int32 → Ob → Ob → Ob → Ob → Option (Int32 × Ob × Ob × Ob)) (hC : Cx p s m args meth c cX3_formula 4 wsX3_formula RX3 (some .boolean)) (dp : Nat) (hrec : ∀ {x1 : Int32} {SG : Ob} {ST : Ob} {SC : Ob} {SI : Ob} {res : Int32 × Ob × Ob × Ob}, rec x1 SG ST SC SI = some res → GCi l yX3_item wsX3_item (rm3_item dp) [.ref (aG 0), .int x1] D cy ad (w3 cy aG aT aC (.ref (aI 0)) SG ++ (w10 cy aT ST ++ (w2 cy aC SC ++ (w4 cy aI SI)))) (w3 cy aG aT aC (.ref (aI 0)) (res.2.1) ++ (w10 cy aT (res.2.2.1) ++ (w2 cy aC (res.2.2.2) ++ (w4 cy aI SI)))) (res.1)) : ∀ (x1 : Int32) (SG : Ob) (ST : Ob) (SC : Ob) (SI : Ob) (res : Int32 × Ob × Ob × Ob) (H : Heap) (locs : List Loc) (ls : Array Slot), f3_formula rec x1 SG ST SC SI = some res → GW D cy ad (w3 cy aG aT aC (.ref (aI 0)) SG ++ (w10 cy aT ST ++ (w2 cy aC SC ++ (w4 cy aI SI)))) A s H locs → lv_has ls 4 [(0, .ref (aG 0)), (1, .int x1)] → W p l e (rm3_formula dp) s m args below meth c H locs 0 0 (MQ below (QI D cy (w3 cy aG aT aC (.ref (aI 0)) (res.2.1) ++ (w10 cy aT (res.2.2.1) ++ (w2 cy aC (res.2.2.2) ++ (w4 cy aI SI)))) A (res.1)) args s 0 0 A) (F0 m 0 ls []) := by
  intro x1 SG ST SC SI res H locs ls hf hW hl
  unfold f3_formula at hf
  refine lv_aload_n hC.1 hC.2.1 dX3_formula_0 rfl (lv_at hl 0 rfl) ?_
  refine lv_iload_n hC.1 hC.2.1 dX3_formula_1 rfl (lv_at hl 1 rfl) ?_
  obtain ⟨r_1, hg_2, hf⟩ := bd_of hf
  refine g_calliV (w' := w3 cy aG aT aC (.ref (aI 0)) (r_1.2.1) ++ (w10 cy aT (r_1.2.2.1) ++ (w2 cy aC (r_1.2.2.2) ++ (w4 cy aI SI)))) hC hW (c3_term l D cy ad aG aT aC aI rec dp hrec hg_2) (cwV 1 hC.2.2.2.2.1 gX3_formula_X3_term rfl rfl rfl hdV3_term ⟨by simp only [rm3_formula, rm3_term]; omega, by simp only [rm3_formula, rm3_term]; omega⟩) (Sub.all _ _) 0 3 rfl rfl rfl rfl hl.1 rfl (Nat.le_of_ble_eq_true rfl) dX3_formula_2 ⟨Nat.zero_le _, Nat.zero_le _⟩ (fun H locs hW => ?_)
  refine lv_topi (fun x2_3 ex2_3 => ?_)
  have hf := lt_nm hf ex2_3
  refine lv_istore_n (lv' := [(2, .int x2_3), (0, .ref (aG 0)), (1, .int x1)]) hC.1 hC.2.1 dX3_formula_5 rfl hl (by decide) rfl (fun ls hl => ?_)
  refine lv_iconst (v := 0) hC.1 hC.2.1 dX3_formula_6 (by decide) ?_
  refine lv_istore_n (lv' := [(3, .int 0), (2, .int x2_3), (0, .ref (aG 0)), (1, .int x1)]) hC.1 hC.2.1 dX3_formula_7 rfl hl (by decide) rfl (fun ls hl => ?_)
  exact t3_formula_8 rec hC dp hrec _ _ _ _ _ _ _ _ _ _ _ _ hf hW (lv_sub hl [2, 3, 1, 0] rfl)
set_option maxRecDepth 100000 in
set_option maxHeartbeats 4000000 in
theorem c3_formula (l : Launch) (D : va_G) (cy : Nat → ClassId) (ad : Nat → Nat) (aG : Nat → Nat) (aT : Nat → Nat) (aC : Nat → Nat) (aI : Nat → Nat) (rec : Int32 → Ob → Ob → Ob → Ob → Option (Int32 × Ob × Ob × Ob)) (dp : Nat) (hrec : ∀ {x1 : Int32} {SG : Ob} {ST : Ob} {SC : Ob} {SI : Ob} {res : Int32 × Ob × Ob × Ob}, rec x1 SG ST SC SI = some res → GCi l yX3_item wsX3_item (rm3_item dp) [.ref (aG 0), .int x1] D cy ad (w3 cy aG aT aC (.ref (aI 0)) SG ++ (w10 cy aT ST ++ (w2 cy aC SC ++ (w4 cy aI SI)))) (w3 cy aG aT aC (.ref (aI 0)) (res.2.1) ++ (w10 cy aT (res.2.2.1) ++ (w2 cy aC (res.2.2.2) ++ (w4 cy aI SI)))) (res.1)) : ∀ {x1 : Int32} {SG : Ob} {ST : Ob} {SC : Ob} {SI : Ob} {res : Int32 × Ob × Ob × Ob}, f3_formula rec x1 SG ST SC SI = some res → GCi l yX3_formula wsX3_formula (rm3_formula dp) [.ref (aG 0), .int x1] D cy ad (w3 cy aG aT aC (.ref (aI 0)) SG ++ (w10 cy aT ST ++ (w2 cy aC SC ++ (w4 cy aI SI)))) (w3 cy aG aT aC (.ref (aI 0)) (res.2.1) ++ (w10 cy aT (res.2.2.1) ++ (w2 cy aC (res.2.2.2) ++ (w4 cy aI SI)))) (res.1) := fun {x1} {SG} {ST} {SC} {SI} {res} h sz => GC.start (own := RX3) (Qc := fun A => QI D cy (w3 cy aG aT aC (.ref (aI 0)) (res.2.1) ++ (w10 cy aT (res.2.2.1) ++ (w2 cy aC (res.2.2.2) ++ (w4 cy aI SI)))) A (res.1)) sz (by decide) rfl rfl (Nat.le_of_ble_eq_true rfl) (fun p e s m below meth c A ls hC hW hl => t3_formula_0 rec hC dp hrec _ _ _ _ _ _ _ _ _ h hW (lv_sub hl [0, 1] rfl))
theorem hin3_item_3 : ∀ x ∈ u_ws RX3 TX3 4, x ∈ wsX3_item := fun _ h => List.mem_cons_of_mem _ (List.mem_append_left _ (List.mem_append_left _ (List.mem_append_left _ (List.mem_append_right _ h))))
theorem hin3_item_10 : ∀ x ∈ u_ws RX10 TX10 8, x ∈ wsX3_item := fun _ h => List.mem_cons_of_mem _ (List.mem_append_left _ (List.mem_append_left _ (List.mem_append_right _ h)))
set_option maxRecDepth 100000 in
set_option maxHeartbeats 4000000 in
theorem t3_item_192 (rec : Int32 → Ob → Ob → Ob → Ob → Option (Int32 × Ob × Ob × Ob)) (hC : Cx p s m args meth c cX3_item 8 wsX3_item RX3 (some .boolean)) (dp : Nat) (hrec : ∀ {x1 : Int32} {SG : Ob} {ST : Ob} {SC : Ob} {SI : Ob} {res : Int32 × Ob × Ob × Ob}, rec x1 SG ST SC SI = some res → GCi l yX3_item wsX3_item (rm3_item dp) [.ref (aG 0), .int x1] D cy ad (w3 cy aG aT aC (.ref (aI 0)) SG ++ (w10 cy aT ST ++ (w2 cy aC SC ++ (w4 cy aI SI)))) (w3 cy aG aT aC (.ref (aI 0)) (res.2.1) ++ (w10 cy aT (res.2.2.1) ++ (w2 cy aC (res.2.2.2) ++ (w4 cy aI SI)))) (res.1)) : ∀ (z0 : Int32) (SG : Ob) (ST : Ob) (SC : Ob) (SI : Ob) (res : Int32 × Ob × Ob × Ob) (H : Heap) (locs : List Loc) (ls : Array Slot), f3_item_192 rec z0 SG ST SC SI = some res → GW D cy ad (w3 cy aG aT aC (.ref (aI 0)) SG ++ (w10 cy aT ST ++ (w2 cy aC SC ++ (w4 cy aI SI)))) A s H locs → lv_has ls 8 [] → W p l e (rm3_item (dp + 1)) s m args below meth c H locs 0 0 (MQ below (QI D cy (w3 cy aG aT aC (.ref (aI 0)) (res.2.1) ++ (w10 cy aT (res.2.2.1) ++ (w2 cy aC (res.2.2.2) ++ (w4 cy aI SI)))) A (res.1)) args s 0 0 A) (F0 m 192 ls [.int z0]) := by
  intro z0 SG ST SC SI res H locs ls hf hW hl
  unfold f3_item_192 at hf
  obtain ⟨hz, hf⟩ := ck_of hf
  obtain rfl := Option.some.inj hf
  exact g_zret hC hW hz dX3_item_192
set_option maxRecDepth 100000 in
set_option maxHeartbeats 4000000 in
theorem t3_item_191 (rec : Int32 → Ob → Ob → Ob → Ob → Option (Int32 × Ob × Ob × Ob)) (hC : Cx p s m args meth c cX3_item 8 wsX3_item RX3 (some .boolean)) (dp : Nat) (hrec : ∀ {x1 : Int32} {SG : Ob} {ST : Ob} {SC : Ob} {SI : Ob} {res : Int32 × Ob × Ob × Ob}, rec x1 SG ST SC SI = some res → GCi l yX3_item wsX3_item (rm3_item dp) [.ref (aG 0), .int x1] D cy ad (w3 cy aG aT aC (.ref (aI 0)) SG ++ (w10 cy aT ST ++ (w2 cy aC SC ++ (w4 cy aI SI)))) (w3 cy aG aT aC (.ref (aI 0)) (res.2.1) ++ (w10 cy aT (res.2.2.1) ++ (w2 cy aC (res.2.2.2) ++ (w4 cy aI SI)))) (res.1)) : ∀ (SG : Ob) (ST : Ob) (SC : Ob) (SI : Ob) (res : Int32 × Ob × Ob × Ob) (H : Heap) (locs : List Loc) (ls : Array Slot), f3_item_191 rec SG ST SC SI = some res → GW D cy ad (w3 cy aG aT aC (.ref (aI 0)) SG ++ (w10 cy aT ST ++ (w2 cy aC SC ++ (w4 cy aI SI)))) A s H locs → lv_has ls 8 [] → W p l e (rm3_item (dp + 1)) s m args below meth c H locs 0 0 (MQ below (QI D cy (w3 cy aG aT aC (.ref (aI 0)) (res.2.1) ++ (w10 cy aT (res.2.2.1) ++ (w2 cy aC (res.2.2.2) ++ (w4 cy aI SI)))) A (res.1)) args s 0 0 A) (F0 m 191 ls []) := by
  intro SG ST SC SI res H locs ls hf hW hl
  unfold f3_item_191 at hf
  refine lv_iconst (v := 0) hC.1 hC.2.1 dX3_item_191 (by decide) ?_
  exact t3_item_192 rec hC dp hrec  _ _ _ _ _ _ _ _ _ hf hW (lv_sub hl [] rfl)
set_option maxRecDepth 100000 in
set_option maxHeartbeats 4000000 in
theorem t3_item_238 (rec : Int32 → Ob → Ob → Ob → Ob → Option (Int32 × Ob × Ob × Ob)) (hC : Cx p s m args meth c cX3_item 8 wsX3_item RX3 (some .boolean)) (dp : Nat) (hrec : ∀ {x1 : Int32} {SG : Ob} {ST : Ob} {SC : Ob} {SI : Ob} {res : Int32 × Ob × Ob × Ob}, rec x1 SG ST SC SI = some res → GCi l yX3_item wsX3_item (rm3_item dp) [.ref (aG 0), .int x1] D cy ad (w3 cy aG aT aC (.ref (aI 0)) SG ++ (w10 cy aT ST ++ (w2 cy aC SC ++ (w4 cy aI SI)))) (w3 cy aG aT aC (.ref (aI 0)) (res.2.1) ++ (w10 cy aT (res.2.2.1) ++ (w2 cy aC (res.2.2.2) ++ (w4 cy aI SI)))) (res.1)) : ∀ (SG : Ob) (ST : Ob) (SC : Ob) (SI : Ob) (res : Int32 × Ob × Ob × Ob) (H : Heap) (locs : List Loc) (ls : Array Slot), f3_item_238 rec SG ST SC SI = some res → GW D cy ad (w3 cy aG aT aC (.ref (aI 0)) SG ++ (w10 cy aT ST ++ (w2 cy aC SC ++ (w4 cy aI SI)))) A s H locs → lv_has ls 8 [] → W p l e (rm3_item (dp + 1)) s m args below meth c H locs 0 0 (MQ below (QI D cy (w3 cy aG aT aC (.ref (aI 0)) (res.2.1) ++ (w10 cy aT (res.2.2.1) ++ (w2 cy aC (res.2.2.2) ++ (w4 cy aI SI)))) A (res.1)) args s 0 0 A) (F0 m 238 ls []) := by
  intro SG ST SC SI res H locs ls hf hW hl
  unfold f3_item_238 at hf
  refine lv_iconst (v := 1) hC.1 hC.2.1 dX3_item_238 (by decide) ?_
  obtain rfl := Option.some.inj hf
  exact g_zret (v := 1) hC hW (by decide) dX3_item_239
set_option maxRecDepth 100000 in
set_option maxHeartbeats 4000000 in
theorem t3_item_116 (rec : Int32 → Ob → Ob → Ob → Ob → Option (Int32 × Ob × Ob × Ob)) (hC : Cx p s m args meth c cX3_item 8 wsX3_item RX3 (some .boolean)) (dp : Nat) (hrec : ∀ {x1 : Int32} {SG : Ob} {ST : Ob} {SC : Ob} {SI : Ob} {res : Int32 × Ob × Ob × Ob}, rec x1 SG ST SC SI = some res → GCi l yX3_item wsX3_item (rm3_item dp) [.ref (aG 0), .int x1] D cy ad (w3 cy aG aT aC (.ref (aI 0)) SG ++ (w10 cy aT ST ++ (w2 cy aC SC ++ (w4 cy aI SI)))) (w3 cy aG aT aC (.ref (aI 0)) (res.2.1) ++ (w10 cy aT (res.2.2.1) ++ (w2 cy aC (res.2.2.2) ++ (w4 cy aI SI)))) (res.1)) : ∀ (x1 : Int32) (x2 : Int32) (x3 : Int32) (x5 : Int32) (x6 : Int32) (SG : Ob) (ST : Ob) (SC : Ob) (SI : Ob) (res : Int32 × Ob × Ob × Ob) (H : Heap) (locs : List Loc) (ls : Array Slot), f3_item_116 rec x1 x2 x3 x5 x6 SG ST SC SI = some res → GW D cy ad (w3 cy aG aT aC (.ref (aI 0)) SG ++ (w10 cy aT ST ++ (w2 cy aC SC ++ (w4 cy aI SI)))) A s H locs → lv_has ls 8 [(0, .ref (aG 0)), (1, .int x1), (2, .int x2), (3, .int x3), (5, .int x5), (6, .int x6)] → W p l e (rm3_item (dp + 1)) s m args below meth c H locs 0 0 (MQ below (QI D cy (w3 cy aG aT aC (.ref (aI 0)) (res.2.1) ++ (w10 cy aT (res.2.2.1) ++ (w2 cy aC (res.2.2.2) ++ (w4 cy aI SI)))) A (res.1)) args s 0 0 A) (F0 m 116 ls []) := by
  intro x1 x2 x3 x5 x6 SG ST SC SI res H locs ls hf hW hl
  unfold f3_item_116 at hf
  refine lv_iload_n hC.1 hC.2.1 dX3_item_116 rfl (lv_at hl 1 rfl) ?_
  refine lv_iconst (v := 5) hC.1 hC.2.1 dX3_item_117 (by decide) ?_
  refine lv_icmp_lt (tgt := 127) hC.1 hC.2.1 dX3_item_118 (by decide) (fun hc_1 => ?_) (fun hc_1 => ?_)
  · have hf := ite_t hf hc_1
    refine lv_aload_n hC.1 hC.2.1 dX3_item_127 rfl (lv_at hl 0 rfl) ?_
    refine g_get hC hW hin3_item_3 0 rfl rfl 0 (by decide) 1 rfl rfl dX3_item_128 ?_
    obtain ⟨r_2, hg_3, hf⟩ := bd_of hf
    refine g_callvV (w' := w3 cy aG aT aC (.ref (aI 0)) SG ++ (w10 cy aT r_2 ++ (w2 cy aC SC ++ (w4 cy aI SI)))) hC hW (c10_advance l D cy ad aT hg_3) (cwV 0 hC.2.2.2.2.1 gX3_item_X10_advance rfl rfl rfl hdV10_advance ⟨by simp only [rm10_advance, rm3_item]; omega, by simp only [rm10_advance, rm3_item]; omega⟩) (⟨[1, 2, 3], [0, 4, 5, 6, 7, 8, 9, 10, 11, 12, 13, 14, 15, 16, 17, 18, 19], [0, 17, 18, 19, 1, 2, 3, 4, 5, 6, 7, 8, 9, 10, 11, 12, 13, 14, 15, 16], w3 cy aG aT aC (.ref (aI 0)) SG ++ (w2 cy aC SC ++ (w4 cy aI SI)), rfl, rfl, rfl, rfl, by decide, rfl, rfl⟩) 0 9 rfl rfl rfl rfl hl.1 rfl (Nat.le_of_ble_eq_true rfl) dX3_item_131 ⟨Nat.zero_le _, Nat.zero_le _⟩ (fun H locs hW => ?_)
    refine lv_iload_n hC.1 hC.2.1 dX3_item_134 rfl (lv_at hl 2 rfl) ?_
    refine lv_bipush (v := 26) hC.1 hC.2.1 dX3_item_135 (by decide) ?_
    refine lv_icmp_ne (tgt := 162) hC.1 hC.2.1 dX3_item_137 (by decide) (fun hc_4 => ?_) (fun hc_4 => ?_)
    · have hf := ite_f hf hc_4
      refine lv_iload_n hC.1 hC.2.1 dX3_item_162 rfl (lv_at hl 2 rfl) ?_
      refine lv_bipush (v := 40) hC.1 hC.2.1 dX3_item_163 (by decide) ?_
      refine lv_icmp_ne (tgt := 193) hC.1 hC.2.1 dX3_item_165 (by decide) (fun hc_5 => ?_) (fun hc_5 => ?_)
      · have hf := ite_f hf hc_5
        refine lv_iload_n hC.1 hC.2.1 dX3_item_193 rfl (lv_at hl 3 rfl) ?_
        refine lv_if_ne (tgt := 209) hC.1 hC.2.1 dX3_item_194 (by decide) (fun hc_6 => ?_) (fun hc_6 => ?_)
        · have hf := ite_f hf hc_6
          refine lv_iload hC.1 hC.2.1 dX3_item_209 (lv_at hl 4 rfl) ?_
          refine lv_iconst (v := (-1)) hC.1 hC.2.1 dX3_item_211 (by decide) ?_
          refine lv_icmp_eq (tgt := 228) hC.1 hC.2.1 dX3_item_212 (by decide) (fun hc_7 => ?_) (fun hc_7 => ?_)
          · have hf := ite_t hf hc_7
            refine lv_aload_n hC.1 hC.2.1 dX3_item_228 rfl (lv_at hl 0 rfl) ?_
            refine g_get hC hW hin3_item_3 0 rfl rfl 1 (by decide) 5 rfl rfl dX3_item_229 ?_
            refine lv_iconst (v := 3) hC.1 hC.2.1 dX3_item_232 (by decide) ?_
            refine lv_iload hC.1 hC.2.1 dX3_item_233 (lv_at hl 5 rfl) ?_
            obtain ⟨r_8, hg_9, hf⟩ := bd_of hf
            refine g_callvV (w' := w3 cy aG aT aC (.ref (aI 0)) SG ++ (w10 cy aT r_2 ++ (w2 cy aC r_8 ++ (w4 cy aI SI)))) hC hW (c2_put l D cy ad aC hg_9) (cwV 2 hC.2.2.2.2.1 gX3_item_X2_put rfl rfl rfl hdV2_put ⟨by simp only [rm2_put, rm3_item]; omega, by simp only [rm2_put, rm3_item]; omega⟩) (⟨[4, 5, 6, 7], [0, 1, 2, 3, 8, 9, 10, 11, 12, 13, 14, 15, 16, 17, 18, 19], [0, 1, 2, 3, 16, 17, 18, 19, 4, 5, 6, 7, 8, 9, 10, 11, 12, 13, 14, 15], w3 cy aG aT aC (.ref (aI 0)) SG ++ (w10 cy aT r_2 ++ (w4 cy aI SI)), rfl, rfl, rfl, rfl, by decide, rfl, rfl⟩) 0 2 rfl rfl rfl rfl hl.1 rfl (Nat.le_of_ble_eq_true rfl) dX3_item_235 ⟨Nat.zero_le _, Nat.zero_le _⟩ (fun H locs hW => ?_)
            exact t3_item_238 rec hC dp hrec  _ _ _ _ _ _ _ _ hf hW (lv_sub hl [] rfl)
          · have hf := ite_f hf hc_7
            refine lv_aload_n hC.1 hC.2.1 dX3_item_215 rfl (lv_at hl 0 rfl) ?_
            refine g_get hC hW hin3_item_3 0 rfl rfl 1 (by decide) 5 rfl rfl dX3_item_216 ?_
            refine lv_iconst (v := 0) hC.1 hC.2.1 dX3_item_219 (by decide) ?_
            refine lv_iload hC.1 hC.2.1 dX3_item_220 (lv_at hl 4 rfl) ?_
            obtain ⟨r_10, hg_11, hf⟩ := bd_of hf
            refine g_callvV (w' := w3 cy aG aT aC (.ref (aI 0)) SG ++ (w10 cy aT r_2 ++ (w2 cy aC r_10 ++ (w4 cy aI SI)))) hC hW (c2_put l D cy ad aC hg_11) (cwV 2 hC.2.2.2.2.1 gX3_item_X2_put rfl rfl rfl hdV2_put ⟨by simp only [rm2_put, rm3_item]; omega, by simp only [rm2_put, rm3_item]; omega⟩) (⟨[4, 5, 6, 7], [0, 1, 2, 3, 8, 9, 10, 11, 12, 13, 14, 15, 16, 17, 18, 19], [0, 1, 2, 3, 16, 17, 18, 19, 4, 5, 6, 7, 8, 9, 10, 11, 12, 13, 14, 15], w3 cy aG aT aC (.ref (aI 0)) SG ++ (w10 cy aT r_2 ++ (w4 cy aI SI)), rfl, rfl, rfl, rfl, by decide, rfl, rfl⟩) 0 2 rfl rfl rfl rfl hl.1 rfl (Nat.le_of_ble_eq_true rfl) dX3_item_222 ⟨Nat.zero_le _, Nat.zero_le _⟩ (fun H locs hW => ?_)
            refine lv_goto (tgt := 238) hC.1 hC.2.1 dX3_item_225 (by decide) ?_
            exact t3_item_238 rec hC dp hrec  _ _ _ _ _ _ _ _ hf hW (lv_sub hl [] rfl)
        · have hf := ite_t hf hc_6
          refine lv_aload_n hC.1 hC.2.1 dX3_item_197 rfl (lv_at hl 0 rfl) ?_
          refine g_get hC hW hin3_item_3 0 rfl rfl 1 (by decide) 5 rfl rfl dX3_item_198 ?_
          refine lv_iload_n hC.1 hC.2.1 dX3_item_201 rfl (lv_at hl 2 rfl) ?_
          refine lv_iconst (v := 0) hC.1 hC.2.1 dX3_item_202 (by decide) ?_
          obtain ⟨r_12, hg_13, hf⟩ := bd_of hf
          refine g_callvV (w' := w3 cy aG aT aC (.ref (aI 0)) SG ++ (w10 cy aT r_2 ++ (w2 cy aC r_12 ++ (w4 cy aI SI)))) hC hW (c2_put l D cy ad aC hg_13) (cwV 2 hC.2.2.2.2.1 gX3_item_X2_put rfl rfl rfl hdV2_put ⟨by simp only [rm2_put, rm3_item]; omega, by simp only [rm2_put, rm3_item]; omega⟩) (⟨[4, 5, 6, 7], [0, 1, 2, 3, 8, 9, 10, 11, 12, 13, 14, 15, 16, 17, 18, 19], [0, 1, 2, 3, 16, 17, 18, 19, 4, 5, 6, 7, 8, 9, 10, 11, 12, 13, 14, 15], w3 cy aG aT aC (.ref (aI 0)) SG ++ (w10 cy aT r_2 ++ (w4 cy aI SI)), rfl, rfl, rfl, rfl, by decide, rfl, rfl⟩) 0 2 rfl rfl rfl rfl hl.1 rfl (Nat.le_of_ble_eq_true rfl) dX3_item_203 ⟨Nat.zero_le _, Nat.zero_le _⟩ (fun H locs hW => ?_)
          refine lv_goto (tgt := 238) hC.1 hC.2.1 dX3_item_206 (by decide) ?_
          exact t3_item_238 rec hC dp hrec  _ _ _ _ _ _ _ _ hf hW (lv_sub hl [] rfl)
      · have hf := ite_t hf hc_5
        refine lv_aload_n hC.1 hC.2.1 dX3_item_168 rfl (lv_at hl 0 rfl) ?_
        refine lv_iload_n hC.1 hC.2.1 dX3_item_169 rfl (lv_at hl 1 rfl) ?_
        refine lv_iconst (v := 1) hC.1 hC.2.1 dX3_item_170 (by decide) ?_
        refine lv_iadd hC.1 hC.2.1 dX3_item_171 ?_
        obtain ⟨r_14, hg_15, hf⟩ := bd_of hf
        refine g_calliV (w' := w3 cy aG aT aC (.ref (aI 0)) (r_14.2.1) ++ (w10 cy aT (r_14.2.2.1) ++ (w2 cy aC (r_14.2.2.2) ++ (w4 cy aI SI)))) hC hW (c3_formula l D cy ad aG aT aC aI rec dp hrec hg_15) (cwV 1 hC.2.2.2.2.1 gX3_item_X3_formula rfl rfl rfl hdV3_formula ⟨by simp only [rm3_formula, rm3_item]; omega, by simp only [rm3_formula, rm3_item]; omega⟩) (Sub.all _ _) 0 3 rfl rfl rfl rfl hl.1 rfl (Nat.le_of_ble_eq_true rfl) dX3_item_172 ⟨Nat.zero_le _, Nat.zero_le _⟩ (fun H locs hW => ?_)
        refine lv_if_eq (tgt := 191) hC.1 hC.2.1 dX3_item_175 (by decide) (fun hc_16 => ?_) (fun hc_16 => ?_)
        · have hf := ite_t hf hc_16
          exact t3_item_191 rec hC dp hrec  _ _ _ _ _ _ _ _ hf hW (lv_sub hl [] rfl)
        · have hf := ite_f hf hc_16
          refine lv_aload_n hC.1 hC.2.1 dX3_item_178 rfl (lv_at hl 0 rfl) ?_
          refine lv_bipush (v := 41) hC.1 hC.2.1 dX3_item_179 (by decide) ?_
          obtain ⟨r_17, hg_18, hf⟩ := bd_of hf
          refine g_calliV (w' := w3 cy aG aT aC (.ref (aI 0)) (r_17.2.1) ++ (w10 cy aT (r_17.2.2) ++ (w2 cy aC (r_14.2.2.2) ++ (w4 cy aI SI)))) hC hW (c3_take l D cy ad aG aT aC aI hg_18) (cwV 1 hC.2.2.2.2.1 gX3_item_X3_take rfl rfl rfl hdV3_take ⟨by simp only [rm3_item, rm3_take]; omega, by simp only [rm3_item, rm3_take]; omega⟩) (⟨[0, 1, 2, 3], [4, 5, 6, 7, 8, 9, 10, 11, 12, 13, 14, 15, 16, 17, 18, 19], [16, 17, 18, 19, 0, 1, 2, 3, 4, 5, 6, 7, 8, 9, 10, 11, 12, 13, 14, 15], w2 cy aC (r_14.2.2.2) ++ (w4 cy aI SI), rfl, rfl, rfl, rfl, by decide, rfl, rfl⟩) 0 3 rfl rfl rfl rfl hl.1 rfl (Nat.le_of_ble_eq_true rfl) dX3_item_181 ⟨Nat.zero_le _, Nat.zero_le _⟩ (fun H locs hW => ?_)
          refine lv_if_eq (tgt := 191) hC.1 hC.2.1 dX3_item_184 (by decide) (fun hc_19 => ?_) (fun hc_19 => ?_)
          · have hf := ite_t hf hc_19
            exact t3_item_191 rec hC dp hrec  _ _ _ _ _ _ _ _ hf hW (lv_sub hl [] rfl)
          · have hf := ite_f hf hc_19
            refine lv_iconst (v := 1) hC.1 hC.2.1 dX3_item_187 (by decide) ?_
            refine lv_goto (tgt := 192) hC.1 hC.2.1 dX3_item_188 (by decide) ?_
            exact t3_item_192 rec hC dp hrec  _ _ _ _ _ _ _ _ _ hf hW (lv_sub hl [] rfl)
    · have hf := ite_t hf hc_4
      refine lv_aload_n hC.1 hC.2.1 dX3_item_140 rfl (lv_at hl 0 rfl) ?_
      refine lv_iload_n hC.1 hC.2.1 dX3_item_141 rfl (lv_at hl 1 rfl) ?_
      refine lv_iconst (v := 1) hC.1 hC.2.1 dX3_item_142 (by decide) ?_
      refine lv_iadd hC.1 hC.2.1 dX3_item_143 ?_
      obtain ⟨r_20, hg_21, hf⟩ := bd_of hf
      refine g_calliV (w' := w3 cy aG aT aC (.ref (aI 0)) (r_20.2.1) ++ (w10 cy aT (r_20.2.2.1) ++ (w2 cy aC (r_20.2.2.2) ++ (w4 cy aI SI)))) hC hW (hrec hg_21) (cwV 1 hC.2.2.2.2.1 gX3_item_X3_item rfl rfl rfl hdV3_item ⟨by simp only [rm3_item]; omega, by simp only [rm3_item]; omega⟩) (Sub.all _ _) 0 3 rfl rfl rfl rfl hl.1 rfl (Nat.le_of_ble_eq_true rfl) dX3_item_144 ⟨Nat.zero_le _, Nat.zero_le _⟩ (fun H locs hW => ?_)
      refine lv_topi (fun x7_22 ex7_22 => ?_)
      have hf := lt_nm hf ex7_22
      refine lv_istore (lv' := [(7, .int x7_22), (0, .ref (aG 0)), (1, .int x1), (2, .int x2), (3, .int x3), (5, .int x5), (6, .int x6)]) hC.1 hC.2.1 dX3_item_147 hl (by decide) rfl (fun ls hl => ?_)
      refine lv_aload_n hC.1 hC.2.1 dX3_item_149 rfl (lv_at hl 1 rfl) ?_
      refine g_get hC hW hin3_item_3 0 rfl rfl 1 (by decide) 5 rfl rfl dX3_item_150 ?_
      refine lv_bipush (v := 26) hC.1 hC.2.1 dX3_item_153 (by decide) ?_
      refine lv_iconst (v := 0) hC.1 hC.2.1 dX3_item_155 (by decide) ?_
      obtain ⟨r_23, hg_24, hf⟩ := bd_of hf
      refine g_callvV (w' := w3 cy aG aT aC (.ref (aI 0)) (r_20.2.1) ++ (w10 cy aT (r_20.2.2.1) ++ (w2 cy aC r_23 ++ (w4 cy aI SI)))) hC hW (c2_put l D cy ad aC hg_24) (cwV 2 hC.2.2.2.2.1 gX3_item_X2_put rfl rfl rfl hdV2_put ⟨by simp only [rm2_put, rm3_item]; omega, by simp only [rm2_put, rm3_item]; omega⟩) (⟨[4, 5, 6, 7], [0, 1, 2, 3, 8, 9, 10, 11, 12, 13, 14, 15, 16, 17, 18, 19], [0, 1, 2, 3, 16, 17, 18, 19, 4, 5, 6, 7, 8, 9, 10, 11, 12, 13, 14, 15], w3 cy aG aT aC (.ref (aI 0)) (r_20.2.1) ++ (w10 cy aT (r_20.2.2.1) ++ (w4 cy aI SI)), rfl, rfl, rfl, rfl, by decide, rfl, rfl⟩) 0 2 rfl rfl rfl rfl hl.1 rfl (Nat.le_of_ble_eq_true rfl) dX3_item_156 ⟨Nat.zero_le _, Nat.zero_le _⟩ (fun H locs hW => ?_)
      refine lv_iload hC.1 hC.2.1 dX3_item_159 (lv_at hl 0 rfl) ?_
      obtain ⟨hz, hf⟩ := ck_of hf
      obtain rfl := Option.some.inj hf
      exact g_zret hC hW hz dX3_item_161
  · have hf := ite_f hf hc_1
    refine lv_aload_n hC.1 hC.2.1 dX3_item_121 rfl (lv_at hl 0 rfl) ?_
    refine lv_iconst (v := 5) hC.1 hC.2.1 dX3_item_122 (by decide) ?_
    obtain ⟨r_25, hg_26, hf⟩ := bd_of hf
    refine g_calliV (w' := w3 cy aG aT aC (.ref (aI 0)) (r_25.2) ++ (w10 cy aT ST ++ (w2 cy aC SC ++ (w4 cy aI SI)))) hC hW (c3_fail l D cy ad aG aT aC aI hg_26) (cwV 1 hC.2.2.2.2.1 gX3_item_X3_fail rfl rfl rfl hdV3_fail ⟨by simp only [rm3_fail, rm3_item]; omega, by simp only [rm3_fail, rm3_item]; omega⟩) (⟨[0, 1, 2, 3], [4, 5, 6, 7, 8, 9, 10, 11, 12, 13, 14, 15, 16, 17, 18, 19], [16, 17, 18, 19, 0, 1, 2, 3, 4, 5, 6, 7, 8, 9, 10, 11, 12, 13, 14, 15], w2 cy aC SC ++ (w4 cy aI SI), rfl, rfl, rfl, rfl, by decide, rfl, rfl⟩) 0 3 rfl rfl rfl rfl hl.1 rfl (Nat.le_of_ble_eq_true rfl) dX3_item_123 ⟨Nat.zero_le _, Nat.zero_le _⟩ (fun H locs hW => ?_)
    obtain ⟨hz, hf⟩ := ck_of hf
    obtain rfl := Option.some.inj hf
    exact g_zret hC hW hz dX3_item_126
set_option maxRecDepth 100000 in
set_option maxHeartbeats 4000000 in
theorem t3_item_62 (rec : Int32 → Ob → Ob → Ob → Ob → Option (Int32 × Ob × Ob × Ob)) (hC : Cx p s m args meth c cX3_item 8 wsX3_item RX3 (some .boolean)) (dp : Nat) (hrec : ∀ {x1 : Int32} {SG : Ob} {ST : Ob} {SC : Ob} {SI : Ob} {res : Int32 × Ob × Ob × Ob}, rec x1 SG ST SC SI = some res → GCi l yX3_item wsX3_item (rm3_item dp) [.ref (aG 0), .int x1] D cy ad (w3 cy aG aT aC (.ref (aI 0)) SG ++ (w10 cy aT ST ++ (w2 cy aC SC ++ (w4 cy aI SI)))) (w3 cy aG aT aC (.ref (aI 0)) (res.2.1) ++ (w10 cy aT (res.2.2.1) ++ (w2 cy aC (res.2.2.2) ++ (w4 cy aI SI)))) (res.1)) : ∀ (x1 : Int32) (x2 : Int32) (x3 : Int32) (SG : Ob) (ST : Ob) (SC : Ob) (SI : Ob) (res : Int32 × Ob × Ob × Ob) (H : Heap) (locs : List Loc) (ls : Array Slot), f3_item_62 rec x1 x2 x3 SG ST SC SI = some res → GW D cy ad (w3 cy aG aT aC (.ref (aI 0)) SG ++ (w10 cy aT ST ++ (w2 cy aC SC ++ (w4 cy aI SI)))) A s H locs → lv_has ls 8 [(0, .ref (aG 0)), (1, .int x1), (2, .int x2), (3, .int x3)] → W p l e (rm3_item (dp + 1)) s m args below meth c H locs 0 0 (MQ below (QI D cy (w3 cy aG aT aC (.ref (aI 0)) (res.2.1) ++ (w10 cy aT (res.2.2.1) ++ (w2 cy aC (res.2.2.2) ++ (w4 cy aI SI)))) A (res.1)) args s 0 0 A) (F0 m 62 ls []) := by
  intro x1 x2 x3 SG ST SC SI res H locs ls hf hW hl
  unfold f3_item_62 at hf
  refine lv_aload_n hC.1 hC.2.1 dX3_item_62 rfl (lv_at hl 0 rfl) ?_
  refine g_get hC hW hin3_item_3 0 rfl rfl 2 (by decide) 3 rfl rfl dX3_item_63 ?_
  refine lv_aload_n hC.1 hC.2.1 dX3_item_66 rfl (lv_at hl 0 rfl) ?_
  refine g_get hC hW hin3_item_3 0 rfl rfl 0 (by decide) 1 rfl rfl dX3_item_67 ?_
  refine g_get hC hW hin3_item_10 1 rfl rfl 6 (by decide) 4 rfl rfl dX3_item_70 ?_
  obtain ⟨r_1, hg_2, hf⟩ := bd_of hf
  refine g_calliV (w' := w3 cy aG aT aC (.ref (aI 0)) SG ++ (w10 cy aT ST ++ (w2 cy aC SC ++ (w4 cy aI SI)))) hC hW (c4_guestNamed l D cy ad aI hg_2) (cwV 1 hC.2.2.2.2.1 gX3_item_X4_guestNamed rfl rfl rfl hdV4_guestNamed ⟨by simp only [rm3_item, rm4_guestNamed]; omega, by simp only [rm3_item, rm4_guestNamed]; omega⟩) (⟨[8, 9, 10, 11, 12, 13, 14, 15, 16, 17, 18, 19], [0, 1, 2, 3, 4, 5, 6, 7], [0, 1, 2, 3, 4, 5, 6, 7, 8, 9, 10, 11, 12, 13, 14, 15, 16, 17, 18, 19], w3 cy aG aT aC (.ref (aI 0)) SG ++ (w10 cy aT ST ++ (w2 cy aC SC)), rfl, rfl, rfl, rfl, by decide, rfl, rfl⟩) 0 4 rfl rfl rfl rfl hl.1 rfl (Nat.le_of_ble_eq_true rfl) dX3_item_73 ⟨Nat.zero_le _, Nat.zero_le _⟩ (fun H locs hW => ?_)
  refine lv_istore (lv' := [(5, .int r_1), (0, .ref (aG 0)), (1, .int x1), (2, .int x2), (3, .int x3)]) hC.1 hC.2.1 dX3_item_76 hl (by decide) rfl (fun ls hl => ?_)
  refine lv_aload_n hC.1 hC.2.1 dX3_item_78 rfl (lv_at hl 1 rfl) ?_
  refine g_get hC hW hin3_item_3 0 rfl rfl 2 (by decide) 3 rfl rfl dX3_item_79 ?_
  refine lv_aload_n hC.1 hC.2.1 dX3_item_82 rfl (lv_at hl 1 rfl) ?_
  refine g_get hC hW hin3_item_3 0 rfl rfl 0 (by decide) 1 rfl rfl dX3_item_83 ?_
  refine g_get hC hW hin3_item_10 1 rfl rfl 6 (by decide) 4 rfl rfl dX3_item_86 ?_
  obtain ⟨r_3, hg_4, hf⟩ := bd_of hf
  refine g_calliV (w' := w3 cy aG aT aC (.ref (aI 0)) SG ++ (w10 cy aT ST ++ (w2 cy aC SC ++ (w4 cy aI SI)))) hC hW (c4_signNamed l D cy ad aI hg_4) (cwV 1 hC.2.2.2.2.1 gX3_item_X4_signNamed rfl rfl rfl hdV4_signNamed ⟨by simp only [rm3_item, rm4_signNamed]; omega, by simp only [rm3_item, rm4_signNamed]; omega⟩) (⟨[8, 9, 10, 11, 12, 13, 14, 15, 16, 17, 18, 19], [0, 1, 2, 3, 4, 5, 6, 7], [0, 1, 2, 3, 4, 5, 6, 7, 8, 9, 10, 11, 12, 13, 14, 15, 16, 17, 18, 19], w3 cy aG aT aC (.ref (aI 0)) SG ++ (w10 cy aT ST ++ (w2 cy aC SC)), rfl, rfl, rfl, rfl, by decide, rfl, rfl⟩) 0 4 rfl rfl rfl rfl hl.1 rfl (Nat.le_of_ble_eq_true rfl) dX3_item_89 ⟨Nat.zero_le _, Nat.zero_le _⟩ (fun H locs hW => ?_)
  refine lv_istore (lv' := [(6, .int r_3), (5, .int r_1), (0, .ref (aG 0)), (1, .int x1), (2, .int x2), (3, .int x3)]) hC.1 hC.2.1 dX3_item_92 hl (by decide) rfl (fun ls hl => ?_)
  refine lv_iload_n hC.1 hC.2.1 dX3_item_94 rfl (lv_at hl 5 rfl) ?_
  refine lv_if_eq (tgt := 116) hC.1 hC.2.1 dX3_item_95 (by decide) (fun hc_5 => ?_) (fun hc_5 => ?_)
  · have hf := ite_t hf hc_5
    exact t3_item_116 rec hC dp hrec  _ _ _ _ _ _ _ _ _ _ _ _ _ hf hW (lv_sub hl [2, 3, 4, 5, 1, 0] rfl)
  · have hf := ite_f hf hc_5
    refine lv_iload hC.1 hC.2.1 dX3_item_98 (lv_at hl 1 rfl) ?_
    refine lv_iconst (v := (-1)) hC.1 hC.2.1 dX3_item_100 (by decide) ?_
    refine lv_icmp_ne (tgt := 116) hC.1 hC.2.1 dX3_item_101 (by decide) (fun hc_6 => ?_) (fun hc_6 => ?_)
    · have hf := ite_f hf hc_6
      exact t3_item_116 rec hC dp hrec  _ _ _ _ _ _ _ _ _ _ _ _ _ hf hW (lv_sub hl [2, 3, 4, 5, 1, 0] rfl)
    · have hf := ite_t hf hc_6
      refine lv_iload hC.1 hC.2.1 dX3_item_104 (lv_at hl 0 rfl) ?_
      refine lv_iconst (v := (-1)) hC.1 hC.2.1 dX3_item_106 (by decide) ?_
      refine lv_icmp_ne (tgt := 116) hC.1 hC.2.1 dX3_item_107 (by decide) (fun hc_7 => ?_) (fun hc_7 => ?_)
      · have hf := ite_f hf hc_7
        exact t3_item_116 rec hC dp hrec  _ _ _ _ _ _ _ _ _ _ _ _ _ hf hW (lv_sub hl [2, 3, 4, 5, 1, 0] rfl)
      · have hf := ite_t hf hc_7
        refine lv_aload_n hC.1 hC.2.1 dX3_item_110 rfl (lv_at hl 2 rfl) ?_
        refine lv_iconst (v := 2) hC.1 hC.2.1 dX3_item_111 (by decide) ?_
        obtain ⟨r_8, hg_9, hf⟩ := bd_of hf
        refine g_calliV (w' := w3 cy aG aT aC (.ref (aI 0)) (r_8.2) ++ (w10 cy aT ST ++ (w2 cy aC SC ++ (w4 cy aI SI)))) hC hW (c3_fail l D cy ad aG aT aC aI hg_9) (cwV 1 hC.2.2.2.2.1 gX3_item_X3_fail rfl rfl rfl hdV3_fail ⟨by simp only [rm3_fail, rm3_item]; omega, by simp only [rm3_fail, rm3_item]; omega⟩) (⟨[0, 1, 2, 3], [4, 5, 6, 7, 8, 9, 10, 11, 12, 13, 14, 15, 16, 17, 18, 19], [16, 17, 18, 19, 0, 1, 2, 3, 4, 5, 6, 7, 8, 9, 10, 11, 12, 13, 14, 15], w2 cy aC SC ++ (w4 cy aI SI), rfl, rfl, rfl, rfl, by decide, rfl, rfl⟩) 0 3 rfl rfl rfl rfl hl.1 rfl (Nat.le_of_ble_eq_true rfl) dX3_item_112 ⟨Nat.zero_le _, Nat.zero_le _⟩ (fun H locs hW => ?_)
        obtain ⟨hz, hf⟩ := ck_of hf
        obtain rfl := Option.some.inj hf
        exact g_zret hC hW hz dX3_item_115
set_option maxRecDepth 100000 in
set_option maxHeartbeats 4000000 in
theorem t3_item_33 (rec : Int32 → Ob → Ob → Ob → Ob → Option (Int32 × Ob × Ob × Ob)) (hC : Cx p s m args meth c cX3_item 8 wsX3_item RX3 (some .boolean)) (dp : Nat) (hrec : ∀ {x1 : Int32} {SG : Ob} {ST : Ob} {SC : Ob} {SI : Ob} {res : Int32 × Ob × Ob × Ob}, rec x1 SG ST SC SI = some res → GCi l yX3_item wsX3_item (rm3_item dp) [.ref (aG 0), .int x1] D cy ad (w3 cy aG aT aC (.ref (aI 0)) SG ++ (w10 cy aT ST ++ (w2 cy aC SC ++ (w4 cy aI SI)))) (w3 cy aG aT aC (.ref (aI 0)) (res.2.1) ++ (w10 cy aT (res.2.2.1) ++ (w2 cy aC (res.2.2.2) ++ (w4 cy aI SI)))) (res.1)) : ∀ (x1 : Int32) (x2 : Int32) (x3 : Int32) (z0 : Int32) (SG : Ob) (ST : Ob) (SC : Ob) (SI : Ob) (res : Int32 × Ob × Ob × Ob) (H : Heap) (locs : List Loc) (ls : Array Slot), f3_item_33 rec x1 x2 x3 z0 SG ST SC SI = some res → GW D cy ad (w3 cy aG aT aC (.ref (aI 0)) SG ++ (w10 cy aT ST ++ (w2 cy aC SC ++ (w4 cy aI SI)))) A s H locs → lv_has ls 8 [(0, .ref (aG 0)), (1, .int x1), (2, .int x2), (3, .int x3)] → W p l e (rm3_item (dp + 1)) s m args below meth c H locs 0 0 (MQ below (QI D cy (w3 cy aG aT aC (.ref (aI 0)) (res.2.1) ++ (w10 cy aT (res.2.2.1) ++ (w2 cy aC (res.2.2.2) ++ (w4 cy aI SI)))) A (res.1)) args s 0 0 A) (F0 m 33 ls [.int z0]) := by
  intro x1 x2 x3 z0 SG ST SC SI res H locs ls hf hW hl
  unfold f3_item_33 at hf
  refine lv_istore (lv' := [(4, .int z0), (0, .ref (aG 0)), (1, .int x1), (2, .int x2), (3, .int x3)]) hC.1 hC.2.1 dX3_item_33 hl (by decide) rfl (fun ls hl => ?_)
  refine lv_iload_n hC.1 hC.2.1 dX3_item_35 rfl (lv_at hl 4 rfl) ?_
  refine lv_if_ne (tgt := 62) hC.1 hC.2.1 dX3_item_36 (by decide) (fun hc_1 => ?_) (fun hc_1 => ?_)
  · have hf := ite_f hf hc_1
    exact t3_item_62 rec hC dp hrec  _ _ _ _ _ _ _ _ _ _ _ hf hW (lv_sub hl [1, 2, 3, 4] rfl)
  · have hf := ite_t hf hc_1
    refine lv_iload hC.1 hC.2.1 dX3_item_39 (lv_at hl 0 rfl) ?_
    refine lv_if_ne (tgt := 62) hC.1 hC.2.1 dX3_item_41 (by decide) (fun hc_2 => ?_) (fun hc_2 => ?_)
    · have hf := ite_f hf hc_2
      exact t3_item_62 rec hC dp hrec  _ _ _ _ _ _ _ _ _ _ _ hf hW (lv_sub hl [1, 2, 3, 4] rfl)
    · have hf := ite_t hf hc_2
      refine lv_iload_n hC.1 hC.2.1 dX3_item_44 rfl (lv_at hl 3 rfl) ?_
      refine lv_bipush (v := 26) hC.1 hC.2.1 dX3_item_45 (by decide) ?_
      refine lv_icmp_eq (tgt := 62) hC.1 hC.2.1 dX3_item_47 (by decide) (fun hc_3 => ?_) (fun hc_3 => ?_)
      · have hf := ite_t hf hc_3
        exact t3_item_62 rec hC dp hrec  _ _ _ _ _ _ _ _ _ _ _ hf hW (lv_sub hl [1, 2, 3, 4] rfl)
      · have hf := ite_f hf hc_3
        refine lv_iload_n hC.1 hC.2.1 dX3_item_50 rfl (lv_at hl 3 rfl) ?_
        refine lv_bipush (v := 40) hC.1 hC.2.1 dX3_item_51 (by decide) ?_
        refine lv_icmp_eq (tgt := 62) hC.1 hC.2.1 dX3_item_53 (by decide) (fun hc_4 => ?_) (fun hc_4 => ?_)
        · have hf := ite_t hf hc_4
          exact t3_item_62 rec hC dp hrec  _ _ _ _ _ _ _ _ _ _ _ hf hW (lv_sub hl [1, 2, 3, 4] rfl)
        · have hf := ite_f hf hc_4
          refine lv_aload_n hC.1 hC.2.1 dX3_item_56 rfl (lv_at hl 1 rfl) ?_
          refine lv_iconst (v := 1) hC.1 hC.2.1 dX3_item_57 (by decide) ?_
          obtain ⟨r_5, hg_6, hf⟩ := bd_of hf
          refine g_calliV (w' := w3 cy aG aT aC (.ref (aI 0)) (r_5.2) ++ (w10 cy aT ST ++ (w2 cy aC SC ++ (w4 cy aI SI)))) hC hW (c3_fail l D cy ad aG aT aC aI hg_6) (cwV 1 hC.2.2.2.2.1 gX3_item_X3_fail rfl rfl rfl hdV3_fail ⟨by simp only [rm3_fail, rm3_item]; omega, by simp only [rm3_fail, rm3_item]; omega⟩) (⟨[0, 1, 2, 3], [4, 5, 6, 7, 8, 9, 10, 11, 12, 13, 14, 15, 16, 17, 18, 19], [16, 17, 18, 19, 0, 1, 2, 3, 4, 5, 6, 7, 8, 9, 10, 11, 12, 13, 14, 15], w2 cy aC SC ++ (w4 cy aI SI), rfl, rfl, rfl, rfl, by decide, rfl, rfl⟩) 0 3 rfl rfl rfl rfl hl.1 rfl (Nat.le_of_ble_eq_true rfl) dX3_item_58 ⟨Nat.zero_le _, Nat.zero_le _⟩ (fun H locs hW => ?_)
          obtain ⟨hz, hf⟩ := ck_of hf
          obtain rfl := Option.some.inj hf
          exact g_zret hC hW hz dX3_item_61
set_option maxRecDepth 100000 in
set_option maxHeartbeats 4000000 in
theorem t3_item_32 (rec : Int32 → Ob → Ob → Ob → Ob → Option (Int32 × Ob × Ob × Ob)) (hC : Cx p s m args meth c cX3_item 8 wsX3_item RX3 (some .boolean)) (dp : Nat) (hrec : ∀ {x1 : Int32} {SG : Ob} {ST : Ob} {SC : Ob} {SI : Ob} {res : Int32 × Ob × Ob × Ob}, rec x1 SG ST SC SI = some res → GCi l yX3_item wsX3_item (rm3_item dp) [.ref (aG 0), .int x1] D cy ad (w3 cy aG aT aC (.ref (aI 0)) SG ++ (w10 cy aT ST ++ (w2 cy aC SC ++ (w4 cy aI SI)))) (w3 cy aG aT aC (.ref (aI 0)) (res.2.1) ++ (w10 cy aT (res.2.2.1) ++ (w2 cy aC (res.2.2.2) ++ (w4 cy aI SI)))) (res.1)) : ∀ (x1 : Int32) (x2 : Int32) (x3 : Int32) (SG : Ob) (ST : Ob) (SC : Ob) (SI : Ob) (res : Int32 × Ob × Ob × Ob) (H : Heap) (locs : List Loc) (ls : Array Slot), f3_item_32 rec x1 x2 x3 SG ST SC SI = some res → GW D cy ad (w3 cy aG aT aC (.ref (aI 0)) SG ++ (w10 cy aT ST ++ (w2 cy aC SC ++ (w4 cy aI SI)))) A s H locs → lv_has ls 8 [(0, .ref (aG 0)), (1, .int x1), (2, .int x2), (3, .int x3)] → W p l e (rm3_item (dp + 1)) s m args below meth c H locs 0 0 (MQ below (QI D cy (w3 cy aG aT aC (.ref (aI 0)) (res.2.1) ++ (w10 cy aT (res.2.2.1) ++ (w2 cy aC (res.2.2.2) ++ (w4 cy aI SI)))) A (res.1)) args s 0 0 A) (F0 m 32 ls []) := by
  intro x1 x2 x3 SG ST SC SI res H locs ls hf hW hl
  unfold f3_item_32 at hf
  refine lv_iconst (v := 0) hC.1 hC.2.1 dX3_item_32 (by decide) ?_
  exact t3_item_33 rec hC dp hrec  _ _ _ _ _ _ _ _ _ _ _ _ hf hW (lv_sub hl [0, 1, 2, 3] rfl)
set_option maxRecDepth 100000 in
set_option maxHeartbeats 4000000 in
theorem t3_item_0 (rec : Int32 → Ob → Ob → Ob → Ob → Option (Int32 × Ob × Ob × Ob)) (hC : Cx p s m args meth c cX3_item 8 wsX3_item RX3 (some .boolean)) (dp : Nat) (hrec : ∀ {x1 : Int32} {SG : Ob} {ST : Ob} {SC : Ob} {SI : Ob} {res : Int32 × Ob × Ob × Ob}, rec x1 SG ST SC SI = some res → GCi l yX3_item wsX3_item (rm3_item dp) [.ref (aG 0), .int x1] D cy ad (w3 cy aG aT aC (.ref (aI 0)) SG ++ (w10 cy aT ST ++ (w2 cy aC SC ++ (w4 cy aI SI)))) (w3 cy aG aT aC (.ref (aI 0)) (res.2.1) ++ (w10 cy aT (res.2.2.1) ++ (w2 cy aC (res.2.2.2) ++ (w4 cy aI SI)))) (res.1)) : ∀ (x1 : Int32) (SG : Ob) (ST : Ob) (SC : Ob) (SI : Ob) (res : Int32 × Ob × Ob × Ob) (H : Heap) (locs : List Loc) (ls : Array Slot), f3_item_b rec x1 SG ST SC SI = some res → GW D cy ad (w3 cy aG aT aC (.ref (aI 0)) SG ++ (w10 cy aT ST ++ (w2 cy aC SC ++ (w4 cy aI SI)))) A s H locs → lv_has ls 8 [(0, .ref (aG 0)), (1, .int x1)] → W p l e (rm3_item (dp + 1)) s m args below meth c H locs 0 0 (MQ below (QI D cy (w3 cy aG aT aC (.ref (aI 0)) (res.2.1) ++ (w10 cy aT (res.2.2.1) ++ (w2 cy aC (res.2.2.2) ++ (w4 cy aI SI)))) A (res.1)) args s 0 0 A) (F0 m 0 ls []) := by
  intro x1 SG ST SC SI res H locs ls hf hW hl
  unfold f3_item_b at hf
  refine lv_aload_n hC.1 hC.2.1 dX3_item_0 rfl (lv_at hl 0 rfl) ?_
  refine g_get hC hW hin3_item_3 0 rfl rfl 0 (by decide) 1 rfl rfl dX3_item_1 ?_
  refine g_get hC hW hin3_item_10 1 rfl rfl 3 (by decide) 2 rfl rfl dX3_item_4 ?_
  refine lv_topi (fun x2_1 ex2_1 => ?_)
  have hf := lt_nm hf ex2_1
  refine lv_istore_n (lv' := [(2, .int x2_1), (0, .ref (aG 0)), (1, .int x1)]) hC.1 hC.2.1 dX3_item_7 rfl hl (by decide) rfl (fun ls hl => ?_)
  refine lv_aload_n hC.1 hC.2.1 dX3_item_8 rfl (lv_at hl 1 rfl) ?_
  refine g_get hC hW hin3_item_3 0 rfl rfl 0 (by decide) 1 rfl rfl dX3_item_9 ?_
  obtain ⟨r_2, hg_3, hf⟩ := bd_of hf
  refine g_calliV (w' := w3 cy aG aT aC (.ref (aI 0)) SG ++ (w10 cy aT ST ++ (w2 cy aC SC ++ (w4 cy aI SI)))) hC hW (c10_isName l D cy ad aT hg_3) (cwV 0 hC.2.2.2.2.1 gX3_item_X10_isName rfl rfl rfl hdV10_isName ⟨by simp only [rm10_isName, rm3_item]; omega, by simp only [rm10_isName, rm3_item]; omega⟩) (⟨[1, 2, 3], [0, 4, 5, 6, 7, 8, 9, 10, 11, 12, 13, 14, 15, 16, 17, 18, 19], [0, 17, 18, 19, 1, 2, 3, 4, 5, 6, 7, 8, 9, 10, 11, 12, 13, 14, 15, 16], w3 cy aG aT aC (.ref (aI 0)) SG ++ (w2 cy aC SC ++ (w4 cy aI SI)), rfl, rfl, rfl, rfl, by decide, rfl, rfl⟩) 0 9 rfl rfl rfl rfl hl.1 rfl (Nat.le_of_ble_eq_true rfl) dX3_item_12 ⟨Nat.zero_le _, Nat.zero_le _⟩ (fun H locs hW => ?_)
  refine lv_istore_n (lv' := [(3, .int r_2), (2, .int x2_1), (0, .ref (aG 0)), (1, .int x1)]) hC.1 hC.2.1 dX3_item_15 rfl hl (by decide) rfl (fun ls hl => ?_)
  refine lv_iload_n hC.1 hC.2.1 dX3_item_16 rfl (lv_at hl 1 rfl) ?_
  refine lv_bipush (v := 18) hC.1 hC.2.1 dX3_item_17 (by decide) ?_
  refine lv_icmp_lt (tgt := 32) hC.1 hC.2.1 dX3_item_19 (by decide) (fun hc_4 => ?_) (fun hc_4 => ?_)
  · have hf := ite_t hf hc_4
    exact t3_item_32 rec hC dp hrec  _ _ _ _ _ _ _ _ _ _ _ hf hW (lv_sub hl [2, 3, 1, 0] rfl)
  · have hf := ite_f hf hc_4
    refine lv_iload_n hC.1 hC.2.1 dX3_item_22 rfl (lv_at hl 1 rfl) ?_
    refine lv_bipush (v := 25) hC.1 hC.2.1 dX3_item_23 (by decide) ?_
    refine lv_icmp_gt (tgt := 32) hC.1 hC.2.1 dX3_item_25 (by decide) (fun hc_5 => ?_) (fun hc_5 => ?_)
    · have hf := ite_t hf hc_5
      exact t3_item_32 rec hC dp hrec  _ _ _ _ _ _ _ _ _ _ _ hf hW (lv_sub hl [2, 3, 1, 0] rfl)
    · have hf := ite_f hf hc_5
      refine lv_iconst (v := 1) hC.1 hC.2.1 dX3_item_28 (by decide) ?_
      refine lv_goto (tgt := 33) hC.1 hC.2.1 dX3_item_29 (by decide) ?_
      exact t3_item_33 rec hC dp hrec  _ _ _ _ _ _ _ _ _ _ _ _ hf hW (lv_sub hl [2, 3, 1, 0] rfl)
set_option maxRecDepth 100000 in
set_option maxHeartbeats 4000000 in
theorem c3_item (l : Launch) (D : va_G) (cy : Nat → ClassId) (ad : Nat → Nat) (aG : Nat → Nat) (aT : Nat → Nat) (aC : Nat → Nat) (aI : Nat → Nat) : ∀ dp : Nat, ∀ {x1 : Int32} {SG : Ob} {ST : Ob} {SC : Ob} {SI : Ob} {res : Int32 × Ob × Ob × Ob}, f3_item dp x1 SG ST SC SI = some res → GCi l yX3_item wsX3_item (rm3_item dp) [.ref (aG 0), .int x1] D cy ad (w3 cy aG aT aC (.ref (aI 0)) SG ++ (w10 cy aT ST ++ (w2 cy aC SC ++ (w4 cy aI SI)))) (w3 cy aG aT aC (.ref (aI 0)) (res.2.1) ++ (w10 cy aT (res.2.2.1) ++ (w2 cy aC (res.2.2.2) ++ (w4 cy aI SI)))) (res.1) := by
  intro dp
  induction dp with
  | zero =>
    intro _ _ _ _ _ _ h
    exact nomatch (show (none : Option (Int32 × Ob × Ob × Ob)) = some _ from h)
  | succ dp ih =>
    intro x1 SG ST SC SI res h
    rw [f3_item] at h
    intro sz
    exact GC.start (own := RX3) (Qc := fun A => QI D cy (w3 cy aG aT aC (.ref (aI 0)) (res.2.1) ++ (w10 cy aT (res.2.2.1) ++ (w2 cy aC (res.2.2.2) ++ (w4 cy aI SI)))) A (res.1)) sz (by decide) rfl rfl (Nat.le_of_ble_eq_true rfl) (fun p e s m below meth c A ls hC hW hl => t3_item_0 _ hC dp ih _ _ _ _ _ _ _ _ _ h hW (lv_sub hl [0, 1] rfl))
end
