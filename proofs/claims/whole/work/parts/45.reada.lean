/-! laid by program: functions, walks and contracts of 9_newName, 9_numberBehind, 9_guestLine, 9_signLine, 9_seesLine, 9_shunLine -/
set_option maxRecDepth 20000 in
theorem gX9_newName_X10_isName : GoodIn wsX9_newName (wsV RX9 176 RX10 yX10_isName wsX10_isName) := goodIn_r _ [4, 5, 6, 7, 8, 9, 146, 147, 148, 149, 150, 151, 152, 153] rfl (by decide +kernel)
set_option maxRecDepth 20000 in
theorem gX9_newName_X3_fail : GoodIn wsX9_newName (wsV RX9 87 RX3 yX3_fail wsX3_fail) := goodIn_r _ [10, 11, 12, 13, 14, 15, 16, 17, 154, 155, 156, 157, 146, 147, 148, 149, 150, 151, 152, 153] rfl (by decide +kernel)
set_option maxRecDepth 20000 in
theorem gX9_newName_X4_guestNamed : GoodIn wsX9_newName (wsV RX9 179 RX4 yX4_guestNamed wsX4_guestNamed) := goodIn_r _ [18, 19, 20, 21, 22, 23, 24, 158, 159, 160, 161, 162, 163, 164, 165, 166, 167, 168, 169, 170] rfl (by decide +kernel)
set_option maxRecDepth 20000 in
theorem gX9_newName_X4_signNamed : GoodIn wsX9_newName (wsV RX9 183 RX4 yX4_signNamed wsX4_signNamed) := goodIn_r _ [25, 26, 27, 21, 28, 29, 30, 158, 159, 160, 161, 162, 163, 164, 165, 166, 167, 168, 169, 170] rfl (by decide +kernel)
set_option maxRecDepth 20000 in
theorem gX9_newName_X10_advance : GoodIn wsX9_newName (wsV RX9 94 RX10 yX10_advance wsX10_advance) := goodIn_r _ [31, 32, 33, 7, 34, 35, 36, 37, 38, 9, 39, 40, 41, 7, 42, 43, 44, 45, 46, 47, 48, 49, 50, 51, 52, 53, 54, 55, 56, 57, 58, 59, 60, 61, 62, 63, 64, 65, 66, 67, 68, 69, 70, 71, 72, 73, 74, 75, 76, 77, 78, 79, 80, 81, 82, 83, 84, 85, 86, 87, 88, 89, 90, 91, 92, 93, 94, 95, 96, 97, 98, 99, 100, 101, 102, 103, 104, 105, 106, 107, 108, 109, 110, 111, 112, 113, 114, 115, 116, 117, 118, 119, 120, 121, 122, 123, 124, 125, 126, 127, 128, 129, 130, 131, 132, 133, 134, 135, 136, 137, 138, 146, 147, 148, 149, 150, 151, 152, 153] rfl (by decide +kernel)
theorem dX9_newName_0 : decode cX9_newName 0 = .ok (.aload_n 0, 1) := by decide +kernel
theorem dX9_newName_1 : decode cX9_newName 1 = .ok (.getfield 22, 3) := by decide +kernel
theorem dX9_newName_4 : decode cX9_newName 4 = .ok (.invokevirtual 176, 3) := by decide +kernel
theorem dX9_newName_7 : decode cX9_newName 7 = .ok (.ifCond .ne 12, 3) := by decide +kernel
theorem dX9_newName_10 : decode cX9_newName 10 = .ok (.aload_n 0, 1) := by decide +kernel
theorem dX9_newName_11 : decode cX9_newName 11 = .ok (.getfield 12, 3) := by decide +kernel
theorem dX9_newName_14 : decode cX9_newName 14 = .ok (.iconst 1, 1) := by decide +kernel
theorem dX9_newName_15 : decode cX9_newName 15 = .ok (.invokevirtual 87, 3) := by decide +kernel
theorem dX9_newName_18 : decode cX9_newName 18 = .ok (.ireturn, 1) := by decide +kernel
theorem dX9_newName_19 : decode cX9_newName 19 = .ok (.aload_n 1, 1) := by decide +kernel
theorem dX9_newName_20 : decode cX9_newName 20 = .ok (.aload_n 0, 1) := by decide +kernel
theorem dX9_newName_21 : decode cX9_newName 21 = .ok (.getfield 22, 3) := by decide +kernel
theorem dX9_newName_24 : decode cX9_newName 24 = .ok (.getfield 97, 3) := by decide +kernel
theorem dX9_newName_27 : decode cX9_newName 27 = .ok (.invokevirtual 179, 3) := by decide +kernel
theorem dX9_newName_30 : decode cX9_newName 30 = .ok (.iconst (-1), 1) := by decide +kernel
theorem dX9_newName_31 : decode cX9_newName 31 = .ok (.if_icmp .ne 18, 3) := by decide +kernel
theorem dX9_newName_34 : decode cX9_newName 34 = .ok (.aload_n 1, 1) := by decide +kernel
theorem dX9_newName_35 : decode cX9_newName 35 = .ok (.aload_n 0, 1) := by decide +kernel
theorem dX9_newName_36 : decode cX9_newName 36 = .ok (.getfield 22, 3) := by decide +kernel
theorem dX9_newName_39 : decode cX9_newName 39 = .ok (.getfield 97, 3) := by decide +kernel
theorem dX9_newName_42 : decode cX9_newName 42 = .ok (.invokevirtual 183, 3) := by decide +kernel
theorem dX9_newName_45 : decode cX9_newName 45 = .ok (.iconst (-1), 1) := by decide +kernel
theorem dX9_newName_46 : decode cX9_newName 46 = .ok (.if_icmp .eq 12, 3) := by decide +kernel
theorem dX9_newName_49 : decode cX9_newName 49 = .ok (.aload_n 0, 1) := by decide +kernel
theorem dX9_newName_50 : decode cX9_newName 50 = .ok (.getfield 12, 3) := by decide +kernel
theorem dX9_newName_53 : decode cX9_newName 53 = .ok (.iconst 3, 1) := by decide +kernel
theorem dX9_newName_54 : decode cX9_newName 54 = .ok (.invokevirtual 87, 3) := by decide +kernel
theorem dX9_newName_57 : decode cX9_newName 57 = .ok (.ireturn, 1) := by decide +kernel
theorem dX9_newName_58 : decode cX9_newName 58 = .ok (.aload_n 0, 1) := by decide +kernel
theorem dX9_newName_59 : decode cX9_newName 59 = .ok (.getfield 22, 3) := by decide +kernel
theorem dX9_newName_62 : decode cX9_newName 62 = .ok (.invokevirtual 94, 3) := by decide +kernel
theorem dX9_newName_65 : decode cX9_newName 65 = .ok (.iconst 1, 1) := by decide +kernel
theorem dX9_newName_66 : decode cX9_newName 66 = .ok (.ireturn, 1) := by decide +kernel
set_option maxRecDepth 20000 in
theorem gX9_numberBehind_X3_take : GoodIn wsX9_numberBehind (wsV RX9 112 RX3 yX3_take wsX3_take) := goodIn_r _ [5, 6, 7, 8, 9, 10, 11, 12, 13, 14, 8, 15, 16, 17, 18, 19, 20, 21, 22, 23, 24, 25, 26, 27, 28, 29, 30, 31, 32, 33, 34, 35, 36, 37, 38, 39, 40, 41, 42, 43, 44, 45, 46, 47, 48, 49, 50, 51, 52, 53, 54, 55, 56, 57, 58, 59, 60, 61, 62, 63, 64, 65, 66, 67, 68, 69, 70, 71, 72, 73, 74, 75, 76, 77, 78, 79, 80, 81, 82, 83, 84, 85, 86, 87, 88, 89, 90, 91, 92, 93, 94, 95, 96, 97, 98, 99, 100, 101, 102, 103, 104, 105, 106, 107, 108, 109, 110, 111, 112, 113, 114, 115, 116, 117, 118, 119, 120, 121, 122, 123, 124, 125, 126, 127, 145, 146, 147, 148, 137, 138, 139, 140, 141, 142, 143, 144] rfl (by decide +kernel)
set_option maxRecDepth 20000 in
theorem gX9_numberBehind_X3_fail : GoodIn wsX9_numberBehind (wsV RX9 87 RX3 yX3_fail wsX3_fail) := goodIn_r _ [128, 13, 14, 8, 15, 10, 16, 17, 145, 146, 147, 148, 137, 138, 139, 140, 141, 142, 143, 144] rfl (by decide +kernel)
set_option maxRecDepth 20000 in
theorem gX9_numberBehind_X10_advance : GoodIn wsX9_numberBehind (wsV RX9 94 RX10 yX10_advance wsX10_advance) := goodIn_r _ [129, 19, 20, 21, 22, 23, 24, 25, 26, 27, 28, 29, 30, 21, 31, 32, 33, 34, 35, 36, 37, 38, 39, 40, 41, 42, 43, 44, 45, 46, 47, 48, 49, 50, 51, 52, 53, 54, 55, 56, 57, 58, 59, 60, 61, 62, 63, 64, 65, 66, 67, 68, 69, 70, 71, 72, 73, 74, 75, 76, 77, 78, 79, 80, 81, 82, 83, 84, 85, 86, 87, 88, 89, 90, 91, 92, 93, 94, 95, 96, 97, 98, 99, 100, 101, 102, 103, 104, 105, 106, 107, 108, 109, 110, 111, 112, 113, 114, 115, 116, 117, 118, 119, 120, 121, 122, 123, 124, 125, 126, 127, 137, 138, 139, 140, 141, 142, 143, 144] rfl (by decide +kernel)
theorem dX9_numberBehind_0 : decode cX9_numberBehind 0 = .ok (.aload_n 0, 1) := by decide +kernel
theorem dX9_numberBehind_1 : decode cX9_numberBehind 1 = .ok (.getfield 12, 3) := by decide +kernel
theorem dX9_numberBehind_4 : decode cX9_numberBehind 4 = .ok (.iload_n 1, 1) := by decide +kernel
theorem dX9_numberBehind_5 : decode cX9_numberBehind 5 = .ok (.invokevirtual 112, 3) := by decide +kernel
theorem dX9_numberBehind_8 : decode cX9_numberBehind 8 = .ok (.ifCond .ne 5, 3) := by decide +kernel
theorem dX9_numberBehind_11 : decode cX9_numberBehind 11 = .ok (.iconst (-1), 1) := by decide +kernel
theorem dX9_numberBehind_12 : decode cX9_numberBehind 12 = .ok (.ireturn, 1) := by decide +kernel
theorem dX9_numberBehind_13 : decode cX9_numberBehind 13 = .ok (.aload_n 0, 1) := by decide +kernel
theorem dX9_numberBehind_14 : decode cX9_numberBehind 14 = .ok (.getfield 22, 3) := by decide +kernel
theorem dX9_numberBehind_17 : decode cX9_numberBehind 17 = .ok (.getfield 186, 3) := by decide +kernel
theorem dX9_numberBehind_20 : decode cX9_numberBehind 20 = .ok (.istore 4, 2) := by decide +kernel
theorem dX9_numberBehind_22 : decode cX9_numberBehind 22 = .ok (.aload_n 0, 1) := by decide +kernel
theorem dX9_numberBehind_23 : decode cX9_numberBehind 23 = .ok (.getfield 22, 3) := by decide +kernel
theorem dX9_numberBehind_26 : decode cX9_numberBehind 26 = .ok (.getfield 43, 3) := by decide +kernel
theorem dX9_numberBehind_29 : decode cX9_numberBehind 29 = .ok (.bipush 33, 2) := by decide +kernel
theorem dX9_numberBehind_31 : decode cX9_numberBehind 31 = .ok (.if_icmp .eq 14, 3) := by decide +kernel
theorem dX9_numberBehind_34 : decode cX9_numberBehind 34 = .ok (.aload_n 0, 1) := by decide +kernel
theorem dX9_numberBehind_35 : decode cX9_numberBehind 35 = .ok (.getfield 12, 3) := by decide +kernel
theorem dX9_numberBehind_38 : decode cX9_numberBehind 38 = .ok (.iconst 1, 1) := by decide +kernel
theorem dX9_numberBehind_39 : decode cX9_numberBehind 39 = .ok (.invokevirtual 87, 3) := by decide +kernel
theorem dX9_numberBehind_42 : decode cX9_numberBehind 42 = .ok (.pop, 1) := by decide +kernel
theorem dX9_numberBehind_43 : decode cX9_numberBehind 43 = .ok (.iconst (-1), 1) := by decide +kernel
theorem dX9_numberBehind_44 : decode cX9_numberBehind 44 = .ok (.ireturn, 1) := by decide +kernel
theorem dX9_numberBehind_45 : decode cX9_numberBehind 45 = .ok (.iload 4, 2) := by decide +kernel
theorem dX9_numberBehind_47 : decode cX9_numberBehind 47 = .ok (.iload_n 2, 1) := by decide +kernel
theorem dX9_numberBehind_48 : decode cX9_numberBehind 48 = .ok (.if_icmp .lt 9, 3) := by decide +kernel
theorem dX9_numberBehind_51 : decode cX9_numberBehind 51 = .ok (.iload 4, 2) := by decide +kernel
theorem dX9_numberBehind_53 : decode cX9_numberBehind 53 = .ok (.iload_n 3, 1) := by decide +kernel
theorem dX9_numberBehind_54 : decode cX9_numberBehind 54 = .ok (.if_icmp .le 14, 3) := by decide +kernel
theorem dX9_numberBehind_57 : decode cX9_numberBehind 57 = .ok (.aload_n 0, 1) := by decide +kernel
theorem dX9_numberBehind_58 : decode cX9_numberBehind 58 = .ok (.getfield 12, 3) := by decide +kernel
theorem dX9_numberBehind_61 : decode cX9_numberBehind 61 = .ok (.iconst 4, 1) := by decide +kernel
theorem dX9_numberBehind_62 : decode cX9_numberBehind 62 = .ok (.invokevirtual 87, 3) := by decide +kernel
theorem dX9_numberBehind_65 : decode cX9_numberBehind 65 = .ok (.pop, 1) := by decide +kernel
theorem dX9_numberBehind_66 : decode cX9_numberBehind 66 = .ok (.iconst (-1), 1) := by decide +kernel
theorem dX9_numberBehind_67 : decode cX9_numberBehind 67 = .ok (.ireturn, 1) := by decide +kernel
theorem dX9_numberBehind_68 : decode cX9_numberBehind 68 = .ok (.aload_n 0, 1) := by decide +kernel
theorem dX9_numberBehind_69 : decode cX9_numberBehind 69 = .ok (.getfield 22, 3) := by decide +kernel
theorem dX9_numberBehind_72 : decode cX9_numberBehind 72 = .ok (.invokevirtual 94, 3) := by decide +kernel
theorem dX9_numberBehind_75 : decode cX9_numberBehind 75 = .ok (.iload 4, 2) := by decide +kernel
theorem dX9_numberBehind_77 : decode cX9_numberBehind 77 = .ok (.ireturn, 1) := by decide +kernel
set_option maxRecDepth 20000 in
theorem gX9_guestLine_X3_fail : GoodIn wsX9_guestLine (wsV RX9 87 RX3 yX3_fail wsX3_fail) := goodIn_r _ [6, 7, 8, 9, 10, 11, 12, 13, 195, 196, 197, 198, 187, 188, 189, 190, 191, 192, 193, 194] rfl (by decide +kernel)
set_option maxRecDepth 20000 in
theorem gX9_guestLine_X10_advance : GoodIn wsX9_guestLine (wsV RX9 94 RX10 yX10_advance wsX10_advance) := goodIn_r _ [14, 15, 16, 17, 18, 19, 20, 21, 22, 23, 24, 25, 26, 17, 27, 28, 29, 30, 31, 32, 33, 34, 35, 36, 37, 38, 39, 40, 41, 42, 43, 44, 45, 46, 47, 48, 49, 50, 51, 52, 53, 54, 55, 56, 57, 58, 59, 60, 61, 62, 63, 64, 65, 66, 67, 68, 69, 70, 71, 72, 73, 74, 75, 76, 77, 78, 79, 80, 81, 82, 83, 84, 85, 86, 87, 88, 89, 90, 91, 92, 93, 94, 95, 96, 97, 98, 99, 100, 101, 102, 103, 104, 105, 106, 107, 108, 109, 110, 111, 112, 113, 114, 115, 116, 117, 118, 119, 120, 121, 122, 123, 187, 188, 189, 190, 191, 192, 193, 194] rfl (by decide +kernel)
set_option maxRecDepth 20000 in
theorem gX9_guestLine_X9_newName : GoodIn wsX9_guestLine (wsV RX9 101 RX9 yX9_newName wsX9_newName) := goodIn_r _ [124, 125, 126, 127, 128, 3, 2, 4, 129, 130, 131, 17, 132, 23, 6, 7, 8, 9, 10, 11, 12, 13, 133, 134, 135, 136, 137, 138, 139, 140, 141, 142, 143, 144, 145, 14, 15, 16, 18, 19, 20, 21, 22, 24, 25, 26, 27, 28, 29, 30, 31, 32, 33, 34, 35, 36, 37, 38, 39, 40, 41, 42, 43, 44, 45, 46, 47, 48, 49, 50, 51, 52, 53, 54, 55, 56, 57, 58, 59, 60, 61, 62, 63, 64, 65, 66, 67, 68, 69, 70, 71, 72, 73, 74, 75, 76, 77, 78, 79, 80, 81, 82, 83, 84, 85, 86, 87, 88, 89, 90, 91, 92, 93, 94, 95, 96, 97, 98, 99, 100, 101, 102, 103, 104, 105, 106, 107, 108, 109, 110, 111, 112, 113, 114, 115, 116, 117, 118, 119, 120, 121, 122, 123, 180, 181, 182, 183, 184, 185, 186, 187, 188, 189, 190, 191, 192, 193, 194, 195, 196, 197, 198, 167, 168, 169, 170, 171, 172, 173, 174, 175, 176, 177, 178, 179] rfl (by decide +kernel)
set_option maxRecDepth 20000 in
theorem gX9_guestLine_X9_numberBehind : GoodIn wsX9_guestLine (wsV RX9 104 RX9 yX9_numberBehind wsX9_numberBehind) := goodIn_r _ [146, 147, 148, 127, 149, 2, 3, 150, 5, 151, 152, 153, 9, 154, 11, 155, 156, 7, 8, 10, 12, 13, 157, 15, 16, 17, 18, 19, 20, 21, 22, 23, 24, 25, 26, 27, 28, 29, 30, 31, 32, 33, 34, 35, 36, 37, 38, 39, 40, 41, 42, 43, 44, 45, 46, 47, 48, 49, 50, 51, 52, 53, 54, 55, 56, 57, 58, 59, 60, 61, 62, 63, 64, 65, 66, 67, 68, 69, 70, 71, 72, 73, 74, 75, 76, 77, 78, 79, 80, 81, 82, 83, 84, 85, 86, 87, 88, 89, 90, 91, 92, 93, 94, 95, 96, 97, 98, 99, 100, 101, 102, 103, 104, 105, 106, 107, 108, 109, 110, 111, 112, 113, 114, 115, 116, 117, 118, 119, 120, 121, 122, 123, 6, 14, 180, 181, 182, 183, 184, 185, 186, 187, 188, 189, 190, 191, 192, 193, 194, 195, 196, 197, 198] rfl (by decide +kernel)
set_option maxRecDepth 20000 in
theorem gX9_guestLine_X4_addGuest : GoodIn wsX9_guestLine (wsV RX9 108 RX4 yX4_addGuest wsX4_addGuest) := goodIn_r _ [158, 159, 160, 136, 161, 138, 139, 162, 163, 164, 165, 166, 167, 168, 169, 170, 171, 172, 173, 174, 175, 176, 177, 178, 179] rfl (by decide +kernel)
set_option maxRecDepth 20000 in
theorem gX9_guestLine_X3_take : GoodIn wsX9_guestLine (wsV RX9 112 RX3 yX3_take wsX3_take) := goodIn_r _ [151, 152, 153, 9, 154, 11, 155, 156, 7, 8, 9, 10, 12, 13, 157, 15, 16, 17, 18, 19, 20, 21, 22, 23, 24, 25, 26, 27, 28, 29, 30, 31, 32, 33, 34, 35, 36, 37, 38, 39, 40, 41, 42, 43, 44, 45, 46, 47, 48, 49, 50, 51, 52, 53, 54, 55, 56, 57, 58, 59, 60, 61, 62, 63, 64, 65, 66, 67, 68, 69, 70, 71, 72, 73, 74, 75, 76, 77, 78, 79, 80, 81, 82, 83, 84, 85, 86, 87, 88, 89, 90, 91, 92, 93, 94, 95, 96, 97, 98, 99, 100, 101, 102, 103, 104, 105, 106, 107, 108, 109, 110, 111, 112, 113, 114, 115, 116, 117, 118, 119, 120, 121, 122, 123, 195, 196, 197, 198, 187, 188, 189, 190, 191, 192, 193, 194] rfl (by decide +kernel)
theorem dX9_guestLine_0 : decode cX9_guestLine 0 = .ok (.aload_n 1, 1) := by decide +kernel
theorem dX9_guestLine_1 : decode cX9_guestLine 1 = .ok (.getfield 91, 3) := by decide +kernel
theorem dX9_guestLine_4 : decode cX9_guestLine 4 = .ok (.bipush 8, 2) := by decide +kernel
theorem dX9_guestLine_6 : decode cX9_guestLine 6 = .ok (.if_icmp .lt 12, 3) := by decide +kernel
theorem dX9_guestLine_9 : decode cX9_guestLine 9 = .ok (.aload_n 0, 1) := by decide +kernel
theorem dX9_guestLine_10 : decode cX9_guestLine 10 = .ok (.getfield 12, 3) := by decide +kernel
theorem dX9_guestLine_13 : decode cX9_guestLine 13 = .ok (.iconst 5, 1) := by decide +kernel
theorem dX9_guestLine_14 : decode cX9_guestLine 14 = .ok (.invokevirtual 87, 3) := by decide +kernel
theorem dX9_guestLine_17 : decode cX9_guestLine 17 = .ok (.ireturn, 1) := by decide +kernel
theorem dX9_guestLine_18 : decode cX9_guestLine 18 = .ok (.aload_n 0, 1) := by decide +kernel
theorem dX9_guestLine_19 : decode cX9_guestLine 19 = .ok (.getfield 22, 3) := by decide +kernel
theorem dX9_guestLine_22 : decode cX9_guestLine 22 = .ok (.invokevirtual 94, 3) := by decide +kernel
theorem dX9_guestLine_25 : decode cX9_guestLine 25 = .ok (.aload_n 0, 1) := by decide +kernel
theorem dX9_guestLine_26 : decode cX9_guestLine 26 = .ok (.getfield 22, 3) := by decide +kernel
theorem dX9_guestLine_29 : decode cX9_guestLine 29 = .ok (.getfield 97, 3) := by decide +kernel
theorem dX9_guestLine_32 : decode cX9_guestLine 32 = .ok (.lstore_n 2, 1) := by decide +kernel
theorem dX9_guestLine_33 : decode cX9_guestLine 33 = .ok (.aload_n 0, 1) := by decide +kernel
theorem dX9_guestLine_34 : decode cX9_guestLine 34 = .ok (.aload_n 1, 1) := by decide +kernel
theorem dX9_guestLine_35 : decode cX9_guestLine 35 = .ok (.invokevirtual 101, 3) := by decide +kernel
theorem dX9_guestLine_38 : decode cX9_guestLine 38 = .ok (.ifCond .ne 5, 3) := by decide +kernel
theorem dX9_guestLine_41 : decode cX9_guestLine 41 = .ok (.iconst 0, 1) := by decide +kernel
theorem dX9_guestLine_42 : decode cX9_guestLine 42 = .ok (.ireturn, 1) := by decide +kernel
theorem dX9_guestLine_43 : decode cX9_guestLine 43 = .ok (.aload_n 0, 1) := by decide +kernel
theorem dX9_guestLine_44 : decode cX9_guestLine 44 = .ok (.getfield 22, 3) := by decide +kernel
theorem dX9_guestLine_47 : decode cX9_guestLine 47 = .ok (.getfield 43, 3) := by decide +kernel
theorem dX9_guestLine_50 : decode cX9_guestLine 50 = .ok (.bipush 14, 2) := by decide +kernel
theorem dX9_guestLine_52 : decode cX9_guestLine 52 = .ok (.isub, 1) := by decide +kernel
theorem dX9_guestLine_53 : decode cX9_guestLine 53 = .ok (.istore 4, 2) := by decide +kernel
theorem dX9_guestLine_55 : decode cX9_guestLine 55 = .ok (.aload_n 0, 1) := by decide +kernel
theorem dX9_guestLine_56 : decode cX9_guestLine 56 = .ok (.getfield 22, 3) := by decide +kernel
theorem dX9_guestLine_59 : decode cX9_guestLine 59 = .ok (.getfield 43, 3) := by decide +kernel
theorem dX9_guestLine_62 : decode cX9_guestLine 62 = .ok (.bipush 14, 2) := by decide +kernel
theorem dX9_guestLine_64 : decode cX9_guestLine 64 = .ok (.if_icmp .lt 15, 3) := by decide +kernel
theorem dX9_guestLine_67 : decode cX9_guestLine 67 = .ok (.aload_n 0, 1) := by decide +kernel
theorem dX9_guestLine_68 : decode cX9_guestLine 68 = .ok (.getfield 22, 3) := by decide +kernel
theorem dX9_guestLine_71 : decode cX9_guestLine 71 = .ok (.getfield 43, 3) := by decide +kernel
theorem dX9_guestLine_74 : decode cX9_guestLine 74 = .ok (.bipush 17, 2) := by decide +kernel
theorem dX9_guestLine_76 : decode cX9_guestLine 76 = .ok (.if_icmp .le 12, 3) := by decide +kernel
theorem dX9_guestLine_79 : decode cX9_guestLine 79 = .ok (.aload_n 0, 1) := by decide +kernel
theorem dX9_guestLine_80 : decode cX9_guestLine 80 = .ok (.getfield 12, 3) := by decide +kernel
theorem dX9_guestLine_83 : decode cX9_guestLine 83 = .ok (.iconst 1, 1) := by decide +kernel
theorem dX9_guestLine_84 : decode cX9_guestLine 84 = .ok (.invokevirtual 87, 3) := by decide +kernel
theorem dX9_guestLine_87 : decode cX9_guestLine 87 = .ok (.ireturn, 1) := by decide +kernel
theorem dX9_guestLine_88 : decode cX9_guestLine 88 = .ok (.aload_n 0, 1) := by decide +kernel
theorem dX9_guestLine_89 : decode cX9_guestLine 89 = .ok (.getfield 22, 3) := by decide +kernel
theorem dX9_guestLine_92 : decode cX9_guestLine 92 = .ok (.invokevirtual 94, 3) := by decide +kernel
theorem dX9_guestLine_95 : decode cX9_guestLine 95 = .ok (.aload_n 0, 1) := by decide +kernel
theorem dX9_guestLine_96 : decode cX9_guestLine 96 = .ok (.iconst 1, 1) := by decide +kernel
theorem dX9_guestLine_97 : decode cX9_guestLine 97 = .ok (.iconst 1, 1) := by decide +kernel
theorem dX9_guestLine_98 : decode cX9_guestLine 98 = .ok (.bipush 12, 2) := by decide +kernel
theorem dX9_guestLine_100 : decode cX9_guestLine 100 = .ok (.invokevirtual 104, 3) := by decide +kernel
theorem dX9_guestLine_103 : decode cX9_guestLine 103 = .ok (.istore 5, 2) := by decide +kernel
theorem dX9_guestLine_105 : decode cX9_guestLine 105 = .ok (.iload 5, 2) := by decide +kernel
theorem dX9_guestLine_107 : decode cX9_guestLine 107 = .ok (.iconst (-1), 1) := by decide +kernel
theorem dX9_guestLine_108 : decode cX9_guestLine 108 = .ok (.if_icmp .ne 5, 3) := by decide +kernel
theorem dX9_guestLine_111 : decode cX9_guestLine 111 = .ok (.iconst 0, 1) := by decide +kernel
theorem dX9_guestLine_112 : decode cX9_guestLine 112 = .ok (.ireturn, 1) := by decide +kernel
theorem dX9_guestLine_113 : decode cX9_guestLine 113 = .ok (.aload_n 0, 1) := by decide +kernel
theorem dX9_guestLine_114 : decode cX9_guestLine 114 = .ok (.iconst 2, 1) := by decide +kernel
theorem dX9_guestLine_115 : decode cX9_guestLine 115 = .ok (.iconst 1, 1) := by decide +kernel
theorem dX9_guestLine_116 : decode cX9_guestLine 116 = .ok (.bipush 99, 2) := by decide +kernel
theorem dX9_guestLine_118 : decode cX9_guestLine 118 = .ok (.invokevirtual 104, 3) := by decide +kernel
theorem dX9_guestLine_121 : decode cX9_guestLine 121 = .ok (.istore 6, 2) := by decide +kernel
theorem dX9_guestLine_123 : decode cX9_guestLine 123 = .ok (.iload 6, 2) := by decide +kernel
theorem dX9_guestLine_125 : decode cX9_guestLine 125 = .ok (.iconst (-1), 1) := by decide +kernel
theorem dX9_guestLine_126 : decode cX9_guestLine 126 = .ok (.if_icmp .ne 5, 3) := by decide +kernel
theorem dX9_guestLine_129 : decode cX9_guestLine 129 = .ok (.iconst 0, 1) := by decide +kernel
theorem dX9_guestLine_130 : decode cX9_guestLine 130 = .ok (.ireturn, 1) := by decide +kernel
theorem dX9_guestLine_131 : decode cX9_guestLine 131 = .ok (.aload_n 1, 1) := by decide +kernel
theorem dX9_guestLine_132 : decode cX9_guestLine 132 = .ok (.lload_n 2, 1) := by decide +kernel
theorem dX9_guestLine_133 : decode cX9_guestLine 133 = .ok (.iload 4, 2) := by decide +kernel
theorem dX9_guestLine_135 : decode cX9_guestLine 135 = .ok (.iload 5, 2) := by decide +kernel
theorem dX9_guestLine_137 : decode cX9_guestLine 137 = .ok (.iload 6, 2) := by decide +kernel
theorem dX9_guestLine_139 : decode cX9_guestLine 139 = .ok (.invokevirtual 108, 3) := by decide +kernel
theorem dX9_guestLine_142 : decode cX9_guestLine 142 = .ok (.aload_n 0, 1) := by decide +kernel
theorem dX9_guestLine_143 : decode cX9_guestLine 143 = .ok (.getfield 12, 3) := by decide +kernel
theorem dX9_guestLine_146 : decode cX9_guestLine 146 = .ok (.bipush 59, 2) := by decide +kernel
theorem dX9_guestLine_148 : decode cX9_guestLine 148 = .ok (.invokevirtual 112, 3) := by decide +kernel
theorem dX9_guestLine_151 : decode cX9_guestLine 151 = .ok (.ireturn, 1) := by decide +kernel
set_option maxRecDepth 20000 in
theorem gX9_signLine_X3_fail : GoodIn wsX9_signLine (wsV RX9 87 RX3 yX3_fail wsX3_fail) := goodIn_r _ [9, 10, 11, 12, 13, 14, 15, 16, 223, 224, 225, 226, 215, 216, 217, 218, 219, 220, 221, 222] rfl (by decide +kernel)
set_option maxRecDepth 20000 in
theorem gX9_signLine_X10_advance : GoodIn wsX9_signLine (wsV RX9 94 RX10 yX10_advance wsX10_advance) := goodIn_r _ [17, 18, 19, 20, 21, 22, 23, 24, 25, 26, 27, 28, 29, 20, 30, 31, 32, 33, 34, 35, 36, 37, 38, 39, 40, 41, 42, 43, 44, 45, 46, 47, 48, 49, 50, 51, 52, 53, 54, 55, 56, 57, 58, 59, 60, 61, 62, 63, 64, 65, 66, 67, 68, 69, 70, 71, 72, 73, 74, 75, 76, 77, 78, 79, 80, 81, 82, 83, 84, 85, 86, 87, 88, 89, 90, 91, 92, 93, 94, 95, 96, 97, 98, 99, 100, 101, 102, 103, 104, 105, 106, 107, 108, 109, 110, 111, 112, 113, 114, 115, 116, 117, 118, 119, 120, 121, 122, 123, 124, 125, 126, 215, 216, 217, 218, 219, 220, 221, 222] rfl (by decide +kernel)
set_option maxRecDepth 20000 in
theorem gX9_signLine_X9_newName : GoodIn wsX9_signLine (wsV RX9 101 RX9 yX9_newName wsX9_newName) := goodIn_r _ [127, 128, 129, 130, 131, 3, 2, 4, 132, 133, 134, 20, 135, 26, 9, 10, 11, 12, 13, 14, 15, 16, 136, 137, 138, 139, 140, 141, 142, 143, 144, 145, 146, 147, 148, 17, 18, 19, 21, 22, 23, 24, 25, 27, 28, 29, 30, 31, 32, 33, 34, 35, 36, 37, 38, 39, 40, 41, 42, 43, 44, 45, 46, 47, 48, 49, 50, 51, 52, 53, 54, 55, 56, 57, 58, 59, 60, 61, 62, 63, 64, 65, 66, 67, 68, 69, 70, 71, 72, 73, 74, 75, 76, 77, 78, 79, 80, 81, 82, 83, 84, 85, 86, 87, 88, 89, 90, 91, 92, 93, 94, 95, 96, 97, 98, 99, 100, 101, 102, 103, 104, 105, 106, 107, 108, 109, 110, 111, 112, 113, 114, 115, 116, 117, 118, 119, 120, 121, 122, 123, 124, 125, 126, 208, 209, 210, 211, 212, 213, 214, 215, 216, 217, 218, 219, 220, 221, 222, 223, 224, 225, 226, 195, 196, 197, 198, 199, 200, 201, 202, 203, 204, 205, 206, 207] rfl (by decide +kernel)
set_option maxRecDepth 20000 in
theorem gX9_signLine_X9_numberBehind : GoodIn wsX9_signLine (wsV RX9 104 RX9 yX9_numberBehind wsX9_numberBehind) := goodIn_r _ [149, 150, 151, 130, 152, 2, 3, 153, 154, 155, 156, 157, 12, 158, 14, 159, 160, 10, 11, 13, 15, 16, 161, 18, 19, 20, 21, 22, 23, 24, 25, 26, 27, 28, 29, 30, 31, 32, 33, 34, 35, 36, 37, 38, 39, 40, 41, 42, 43, 44, 45, 46, 47, 48, 49, 50, 51, 52, 53, 54, 55, 56, 57, 58, 59, 60, 61, 62, 63, 64, 65, 66, 67, 68, 69, 70, 71, 72, 73, 74, 75, 76, 77, 78, 79, 80, 81, 82, 83, 84, 85, 86, 87, 88, 89, 90, 91, 92, 93, 94, 95, 96, 97, 98, 99, 100, 101, 102, 103, 104, 105, 106, 107, 108, 109, 110, 111, 112, 113, 114, 115, 116, 117, 118, 119, 120, 121, 122, 123, 124, 125, 126, 9, 17, 208, 209, 210, 211, 212, 213, 214, 215, 216, 217, 218, 219, 220, 221, 222, 223, 224, 225, 226] rfl (by decide +kernel)
set_option maxRecDepth 20000 in
theorem gX9_signLine_X3_take : GoodIn wsX9_signLine (wsV RX9 112 RX3 yX3_take wsX3_take) := goodIn_r _ [155, 156, 157, 12, 158, 14, 159, 160, 10, 11, 12, 13, 15, 16, 161, 18, 19, 20, 21, 22, 23, 24, 25, 26, 27, 28, 29, 30, 31, 32, 33, 34, 35, 36, 37, 38, 39, 40, 41, 42, 43, 44, 45, 46, 47, 48, 49, 50, 51, 52, 53, 54, 55, 56, 57, 58, 59, 60, 61, 62, 63, 64, 65, 66, 67, 68, 69, 70, 71, 72, 73, 74, 75, 76, 77, 78, 79, 80, 81, 82, 83, 84, 85, 86, 87, 88, 89, 90, 91, 92, 93, 94, 95, 96, 97, 98, 99, 100, 101, 102, 103, 104, 105, 106, 107, 108, 109, 110, 111, 112, 113, 114, 115, 116, 117, 118, 119, 120, 121, 122, 123, 124, 125, 126, 223, 224, 225, 226, 215, 216, 217, 218, 219, 220, 221, 222] rfl (by decide +kernel)
set_option maxRecDepth 20000 in
theorem gX9_signLine_X3_formula_n127 : GoodIn wsX9_signLine (wsX3_formula) := goodIn_r _ [164, 14, 159, 165, 166, 167, 168, 12, 161, 18, 19, 20, 21, 22, 23, 24, 25, 26, 27, 28, 29, 30, 31, 32, 33, 34, 35, 36, 37, 38, 39, 40, 41, 42, 43, 44, 45, 46, 47, 48, 49, 50, 51, 52, 53, 54, 55, 56, 57, 58, 59, 60, 61, 62, 63, 64, 65, 66, 67, 68, 69, 70, 71, 72, 73, 74, 75, 76, 77, 78, 79, 80, 81, 82, 83, 84, 85, 86, 87, 88, 89, 90, 91, 92, 93, 94, 95, 96, 97, 98, 99, 100, 101, 102, 103, 104, 105, 106, 107, 108, 109, 110, 111, 112, 113, 114, 115, 116, 117, 118, 119, 120, 121, 122, 123, 124, 125, 126, 169, 170, 171, 172, 173, 174, 175, 176, 177, 178, 179, 180, 133, 134, 135, 160, 10, 11, 13, 15, 16, 181, 137, 138, 139, 140, 141, 142, 182, 144, 145, 146, 147, 148, 183, 184, 185, 186, 162, 163, 187, 156, 157, 158, 188, 223, 224, 225, 226, 215, 216, 217, 218, 219, 220, 221, 222, 227, 228, 229, 230, 231, 195, 196, 197, 198, 199, 200, 201, 202, 203, 204, 205, 206, 207] rfl (by decide +kernel)
set_option maxRecDepth 20000 in
theorem gX9_signLine_X4_addSign : GoodIn wsX9_signLine (wsV RX9 130 RX4 yX4_addSign wsX4_addSign) := goodIn_r _ [189, 190, 191, 139, 192, 147, 148, 193, 194, 195, 196, 197, 198, 199, 200, 201, 202, 203, 204, 205, 206, 207] rfl (by decide +kernel)
theorem dX9_signLine_0 : decode cX9_signLine 0 = .ok (.aload_n 1, 1) := by decide +kernel
theorem dX9_signLine_1 : decode cX9_signLine 1 = .ok (.getfield 115, 3) := by decide +kernel
theorem dX9_signLine_4 : decode cX9_signLine 4 = .ok (.istore_n 2, 1) := by decide +kernel
theorem dX9_signLine_5 : decode cX9_signLine 5 = .ok (.iload_n 2, 1) := by decide +kernel
theorem dX9_signLine_6 : decode cX9_signLine 6 = .ok (.bipush 6, 2) := by decide +kernel
theorem dX9_signLine_8 : decode cX9_signLine 8 = .ok (.if_icmp .lt 12, 3) := by decide +kernel
theorem dX9_signLine_11 : decode cX9_signLine 11 = .ok (.aload_n 0, 1) := by decide +kernel
theorem dX9_signLine_12 : decode cX9_signLine 12 = .ok (.getfield 12, 3) := by decide +kernel
theorem dX9_signLine_15 : decode cX9_signLine 15 = .ok (.iconst 5, 1) := by decide +kernel
theorem dX9_signLine_16 : decode cX9_signLine 16 = .ok (.invokevirtual 87, 3) := by decide +kernel
theorem dX9_signLine_19 : decode cX9_signLine 19 = .ok (.ireturn, 1) := by decide +kernel
theorem dX9_signLine_20 : decode cX9_signLine 20 = .ok (.aload_n 0, 1) := by decide +kernel
theorem dX9_signLine_21 : decode cX9_signLine 21 = .ok (.getfield 22, 3) := by decide +kernel
theorem dX9_signLine_24 : decode cX9_signLine 24 = .ok (.invokevirtual 94, 3) := by decide +kernel
theorem dX9_signLine_27 : decode cX9_signLine 27 = .ok (.aload_n 0, 1) := by decide +kernel
theorem dX9_signLine_28 : decode cX9_signLine 28 = .ok (.getfield 22, 3) := by decide +kernel
theorem dX9_signLine_31 : decode cX9_signLine 31 = .ok (.getfield 97, 3) := by decide +kernel
theorem dX9_signLine_34 : decode cX9_signLine 34 = .ok (.lstore_n 3, 1) := by decide +kernel
theorem dX9_signLine_35 : decode cX9_signLine 35 = .ok (.aload_n 0, 1) := by decide +kernel
theorem dX9_signLine_36 : decode cX9_signLine 36 = .ok (.aload_n 1, 1) := by decide +kernel
theorem dX9_signLine_37 : decode cX9_signLine 37 = .ok (.invokevirtual 101, 3) := by decide +kernel
theorem dX9_signLine_40 : decode cX9_signLine 40 = .ok (.ifCond .ne 5, 3) := by decide +kernel
theorem dX9_signLine_43 : decode cX9_signLine 43 = .ok (.iconst 0, 1) := by decide +kernel
theorem dX9_signLine_44 : decode cX9_signLine 44 = .ok (.ireturn, 1) := by decide +kernel
theorem dX9_signLine_45 : decode cX9_signLine 45 = .ok (.aload_n 0, 1) := by decide +kernel
theorem dX9_signLine_46 : decode cX9_signLine 46 = .ok (.iconst 4, 1) := by decide +kernel
theorem dX9_signLine_47 : decode cX9_signLine 47 = .ok (.iconst 0, 1) := by decide +kernel
theorem dX9_signLine_48 : decode cX9_signLine 48 = .ok (.bipush 10, 2) := by decide +kernel
theorem dX9_signLine_50 : decode cX9_signLine 50 = .ok (.invokevirtual 104, 3) := by decide +kernel
theorem dX9_signLine_53 : decode cX9_signLine 53 = .ok (.istore 5, 2) := by decide +kernel
theorem dX9_signLine_55 : decode cX9_signLine 55 = .ok (.iload 5, 2) := by decide +kernel
theorem dX9_signLine_57 : decode cX9_signLine 57 = .ok (.iconst (-1), 1) := by decide +kernel
theorem dX9_signLine_58 : decode cX9_signLine 58 = .ok (.if_icmp .ne 5, 3) := by decide +kernel
theorem dX9_signLine_61 : decode cX9_signLine 61 = .ok (.iconst 0, 1) := by decide +kernel
theorem dX9_signLine_62 : decode cX9_signLine 62 = .ok (.ireturn, 1) := by decide +kernel
theorem dX9_signLine_63 : decode cX9_signLine 63 = .ok (.aload_n 0, 1) := by decide +kernel
theorem dX9_signLine_64 : decode cX9_signLine 64 = .ok (.getfield 23, 3) := by decide +kernel
theorem dX9_signLine_67 : decode cX9_signLine 67 = .ok (.iload_n 2, 1) := by decide +kernel
theorem dX9_signLine_68 : decode cX9_signLine 68 = .ok (.aload_n 0, 1) := by decide +kernel
theorem dX9_signLine_69 : decode cX9_signLine 69 = .ok (.getfield 12, 3) := by decide +kernel
theorem dX9_signLine_72 : decode cX9_signLine 72 = .ok (.getfield 118, 3) := by decide +kernel
theorem dX9_signLine_75 : decode cX9_signLine 75 = .ok (.getfield 122, 3) := by decide +kernel
theorem dX9_signLine_78 : decode cX9_signLine 78 = .ok (.iastore, 1) := by decide +kernel
theorem dX9_signLine_79 : decode cX9_signLine 79 = .ok (.aload_n 0, 1) := by decide +kernel
theorem dX9_signLine_80 : decode cX9_signLine 80 = .ok (.getfield 12, 3) := by decide +kernel
theorem dX9_signLine_83 : decode cX9_signLine 83 = .ok (.iconst 5, 1) := by decide +kernel
theorem dX9_signLine_84 : decode cX9_signLine 84 = .ok (.invokevirtual 112, 3) := by decide +kernel
theorem dX9_signLine_87 : decode cX9_signLine 87 = .ok (.ifCond .eq 14, 3) := by decide +kernel
theorem dX9_signLine_90 : decode cX9_signLine 90 = .ok (.aload_n 0, 1) := by decide +kernel
theorem dX9_signLine_91 : decode cX9_signLine 91 = .ok (.getfield 12, 3) := by decide +kernel
theorem dX9_signLine_94 : decode cX9_signLine 94 = .ok (.iconst 0, 1) := by decide +kernel
theorem dX9_signLine_95 : decode cX9_signLine 95 = .ok (.invokevirtual 127, 3) := by decide +kernel
theorem dX9_signLine_98 : decode cX9_signLine 98 = .ok (.ifCond .ne 5, 3) := by decide +kernel
theorem dX9_signLine_101 : decode cX9_signLine 101 = .ok (.iconst 0, 1) := by decide +kernel
theorem dX9_signLine_102 : decode cX9_signLine 102 = .ok (.ireturn, 1) := by decide +kernel
theorem dX9_signLine_103 : decode cX9_signLine 103 = .ok (.aload_n 0, 1) := by decide +kernel
theorem dX9_signLine_104 : decode cX9_signLine 104 = .ok (.getfield 27, 3) := by decide +kernel
theorem dX9_signLine_107 : decode cX9_signLine 107 = .ok (.iload_n 2, 1) := by decide +kernel
theorem dX9_signLine_108 : decode cX9_signLine 108 = .ok (.aload_n 0, 1) := by decide +kernel
theorem dX9_signLine_109 : decode cX9_signLine 109 = .ok (.getfield 12, 3) := by decide +kernel
theorem dX9_signLine_112 : decode cX9_signLine 112 = .ok (.getfield 118, 3) := by decide +kernel
theorem dX9_signLine_115 : decode cX9_signLine 115 = .ok (.getfield 122, 3) := by decide +kernel
theorem dX9_signLine_118 : decode cX9_signLine 118 = .ok (.iastore, 1) := by decide +kernel
theorem dX9_signLine_119 : decode cX9_signLine 119 = .ok (.aload_n 1, 1) := by decide +kernel
theorem dX9_signLine_120 : decode cX9_signLine 120 = .ok (.lload_n 3, 1) := by decide +kernel
theorem dX9_signLine_121 : decode cX9_signLine 121 = .ok (.iload 5, 2) := by decide +kernel
theorem dX9_signLine_123 : decode cX9_signLine 123 = .ok (.invokevirtual 130, 3) := by decide +kernel
theorem dX9_signLine_126 : decode cX9_signLine 126 = .ok (.aload_n 0, 1) := by decide +kernel
theorem dX9_signLine_127 : decode cX9_signLine 127 = .ok (.getfield 12, 3) := by decide +kernel
theorem dX9_signLine_130 : decode cX9_signLine 130 = .ok (.bipush 59, 2) := by decide +kernel
theorem dX9_signLine_132 : decode cX9_signLine 132 = .ok (.invokevirtual 112, 3) := by decide +kernel
theorem dX9_signLine_135 : decode cX9_signLine 135 = .ok (.ireturn, 1) := by decide +kernel
set_option maxRecDepth 20000 in
theorem gX9_seesLine_X10_advance : GoodIn wsX9_seesLine (wsV RX9 94 RX10 yX10_advance wsX10_advance) := goodIn_r _ [5, 6, 7, 8, 9, 10, 11, 12, 13, 14, 15, 16, 17, 8, 18, 19, 20, 21, 22, 23, 24, 25, 26, 27, 28, 29, 30, 31, 32, 33, 34, 35, 36, 37, 38, 39, 40, 41, 42, 43, 44, 45, 46, 47, 48, 49, 50, 51, 52, 53, 54, 55, 56, 57, 58, 59, 60, 61, 62, 63, 64, 65, 66, 67, 68, 69, 70, 71, 72, 73, 74, 75, 76, 77, 78, 79, 80, 81, 82, 83, 84, 85, 86, 87, 88, 89, 90, 91, 92, 93, 94, 95, 96, 97, 98, 99, 100, 101, 102, 103, 104, 105, 106, 107, 108, 109, 110, 111, 112, 113, 114, 181, 182, 183, 184, 185, 186, 187, 188] rfl (by decide +kernel)
set_option maxRecDepth 20000 in
theorem gX9_seesLine_X3_namedGuest : GoodIn wsX9_seesLine (wsV RX9 134 RX3 yX3_namedGuest wsX3_namedGuest) := goodIn_r _ [115, 116, 117, 118, 119, 120, 121, 122, 123, 124, 125, 126, 127, 128, 129, 130, 131, 132, 118, 133, 134, 135, 136, 8, 137, 14, 138, 139, 140, 141, 142, 143, 189, 190, 191, 192, 181, 182, 183, 184, 185, 186, 187, 188, 168, 169, 170, 171, 172, 173, 174, 175, 176, 177, 178, 179, 180] rfl (by decide +kernel)
set_option maxRecDepth 20000 in
theorem gX9_seesLine_X3_fail : GoodIn wsX9_seesLine (wsV RX9 87 RX3 yX3_fail wsX3_fail) := goodIn_r _ [144, 139, 140, 118, 141, 121, 142, 143, 189, 190, 191, 192, 181, 182, 183, 184, 185, 186, 187, 188] rfl (by decide +kernel)
set_option maxRecDepth 20000 in
theorem gX9_seesLine_X3_namedSign : GoodIn wsX9_seesLine (wsV RX9 141 RX3 yX3_namedSign wsX3_namedSign) := goodIn_r _ [145, 146, 147, 118, 148, 120, 121, 122, 149, 150, 151, 126, 152, 153, 154, 130, 131, 132, 118, 133, 134, 135, 136, 8, 137, 14, 138, 139, 140, 141, 142, 143, 189, 190, 191, 192, 181, 182, 183, 184, 185, 186, 187, 188, 168, 169, 170, 171, 172, 173, 174, 175, 176, 177, 178, 179, 180] rfl (by decide +kernel)
set_option maxRecDepth 20000 in
theorem gX9_seesLine_X3_take : GoodIn wsX9_seesLine (wsV RX9 112 RX3 yX3_take wsX3_take) := goodIn_r _ [155, 156, 157, 118, 158, 121, 159, 138, 139, 140, 118, 141, 142, 143, 160, 6, 7, 8, 9, 10, 11, 12, 13, 14, 15, 16, 17, 18, 19, 20, 21, 22, 23, 24, 25, 26, 27, 28, 29, 30, 31, 32, 33, 34, 35, 36, 37, 38, 39, 40, 41, 42, 43, 44, 45, 46, 47, 48, 49, 50, 51, 52, 53, 54, 55, 56, 57, 58, 59, 60, 61, 62, 63, 64, 65, 66, 67, 68, 69, 70, 71, 72, 73, 74, 75, 76, 77, 78, 79, 80, 81, 82, 83, 84, 85, 86, 87, 88, 89, 90, 91, 92, 93, 94, 95, 96, 97, 98, 99, 100, 101, 102, 103, 104, 105, 106, 107, 108, 109, 110, 111, 112, 113, 114, 189, 190, 191, 192, 181, 182, 183, 184, 185, 186, 187, 188] rfl (by decide +kernel)
theorem dX9_seesLine_0 : decode cX9_seesLine 0 = .ok (.aload_n 0, 1) := by decide +kernel
theorem dX9_seesLine_1 : decode cX9_seesLine 1 = .ok (.getfield 22, 3) := by decide +kernel
theorem dX9_seesLine_4 : decode cX9_seesLine 4 = .ok (.invokevirtual 94, 3) := by decide +kernel
theorem dX9_seesLine_7 : decode cX9_seesLine 7 = .ok (.aload_n 0, 1) := by decide +kernel
theorem dX9_seesLine_8 : decode cX9_seesLine 8 = .ok (.getfield 12, 3) := by decide +kernel
theorem dX9_seesLine_11 : decode cX9_seesLine 11 = .ok (.invokevirtual 134, 3) := by decide +kernel
theorem dX9_seesLine_14 : decode cX9_seesLine 14 = .ok (.istore_n 2, 1) := by decide +kernel
theorem dX9_seesLine_15 : decode cX9_seesLine 15 = .ok (.iload_n 2, 1) := by decide +kernel
theorem dX9_seesLine_16 : decode cX9_seesLine 16 = .ok (.iconst (-1), 1) := by decide +kernel
theorem dX9_seesLine_17 : decode cX9_seesLine 17 = .ok (.if_icmp .ne 5, 3) := by decide +kernel
theorem dX9_seesLine_20 : decode cX9_seesLine 20 = .ok (.iconst 0, 1) := by decide +kernel
theorem dX9_seesLine_21 : decode cX9_seesLine 21 = .ok (.ireturn, 1) := by decide +kernel
theorem dX9_seesLine_22 : decode cX9_seesLine 22 = .ok (.aload_n 1, 1) := by decide +kernel
theorem dX9_seesLine_23 : decode cX9_seesLine 23 = .ok (.getfield 138, 3) := by decide +kernel
theorem dX9_seesLine_26 : decode cX9_seesLine 26 = .ok (.iload_n 2, 1) := by decide +kernel
theorem dX9_seesLine_27 : decode cX9_seesLine 27 = .ok (.iaload, 1) := by decide +kernel
theorem dX9_seesLine_28 : decode cX9_seesLine 28 = .ok (.ifCond .eq 12, 3) := by decide +kernel
theorem dX9_seesLine_31 : decode cX9_seesLine 31 = .ok (.aload_n 0, 1) := by decide +kernel
theorem dX9_seesLine_32 : decode cX9_seesLine 32 = .ok (.getfield 12, 3) := by decide +kernel
theorem dX9_seesLine_35 : decode cX9_seesLine 35 = .ok (.iconst 3, 1) := by decide +kernel
theorem dX9_seesLine_36 : decode cX9_seesLine 36 = .ok (.invokevirtual 87, 3) := by decide +kernel
theorem dX9_seesLine_39 : decode cX9_seesLine 39 = .ok (.ireturn, 1) := by decide +kernel
theorem dX9_seesLine_40 : decode cX9_seesLine 40 = .ok (.aload_n 0, 1) := by decide +kernel
theorem dX9_seesLine_41 : decode cX9_seesLine 41 = .ok (.getfield 22, 3) := by decide +kernel
theorem dX9_seesLine_44 : decode cX9_seesLine 44 = .ok (.invokevirtual 94, 3) := by decide +kernel
theorem dX9_seesLine_47 : decode cX9_seesLine 47 = .ok (.iconst 0, 1) := by decide +kernel
theorem dX9_seesLine_48 : decode cX9_seesLine 48 = .ok (.istore_n 3, 1) := by decide +kernel
theorem dX9_seesLine_49 : decode cX9_seesLine 49 = .ok (.iconst 0, 1) := by decide +kernel
theorem dX9_seesLine_50 : decode cX9_seesLine 50 = .ok (.istore 4, 2) := by decide +kernel
theorem dX9_seesLine_52 : decode cX9_seesLine 52 = .ok (.iload 4, 2) := by decide +kernel
theorem dX9_seesLine_54 : decode cX9_seesLine 54 = .ok (.bipush 6, 2) := by decide +kernel
theorem dX9_seesLine_56 : decode cX9_seesLine 56 = .ok (.if_icmp .gt 79, 3) := by decide +kernel
theorem dX9_seesLine_59 : decode cX9_seesLine 59 = .ok (.iload 4, 2) := by decide +kernel
theorem dX9_seesLine_61 : decode cX9_seesLine 61 = .ok (.ifCond .le 18, 3) := by decide +kernel
theorem dX9_seesLine_64 : decode cX9_seesLine 64 = .ok (.aload_n 0, 1) := by decide +kernel
theorem dX9_seesLine_65 : decode cX9_seesLine 65 = .ok (.getfield 22, 3) := by decide +kernel
theorem dX9_seesLine_68 : decode cX9_seesLine 68 = .ok (.getfield 43, 3) := by decide +kernel
theorem dX9_seesLine_71 : decode cX9_seesLine 71 = .ok (.bipush 59, 2) := by decide +kernel
theorem dX9_seesLine_73 : decode cX9_seesLine 73 = .ok (.if_icmp .ne 6, 3) := by decide +kernel
theorem dX9_seesLine_76 : decode cX9_seesLine 76 = .ok (.goto 59, 3) := by decide +kernel
theorem dX9_seesLine_79 : decode cX9_seesLine 79 = .ok (.aload_n 0, 1) := by decide +kernel
theorem dX9_seesLine_80 : decode cX9_seesLine 80 = .ok (.getfield 12, 3) := by decide +kernel
theorem dX9_seesLine_83 : decode cX9_seesLine 83 = .ok (.invokevirtual 141, 3) := by decide +kernel
theorem dX9_seesLine_86 : decode cX9_seesLine 86 = .ok (.istore 5, 2) := by decide +kernel
theorem dX9_seesLine_88 : decode cX9_seesLine 88 = .ok (.iload 5, 2) := by decide +kernel
theorem dX9_seesLine_90 : decode cX9_seesLine 90 = .ok (.iconst (-1), 1) := by decide +kernel
theorem dX9_seesLine_91 : decode cX9_seesLine 91 = .ok (.if_icmp .ne 5, 3) := by decide +kernel
theorem dX9_seesLine_94 : decode cX9_seesLine 94 = .ok (.iconst 0, 1) := by decide +kernel
theorem dX9_seesLine_95 : decode cX9_seesLine 95 = .ok (.ireturn, 1) := by decide +kernel
theorem dX9_seesLine_96 : decode cX9_seesLine 96 = .ok (.iload_n 3, 1) := by decide +kernel
theorem dX9_seesLine_97 : decode cX9_seesLine 97 = .ok (.iload 5, 2) := by decide +kernel
theorem dX9_seesLine_99 : decode cX9_seesLine 99 = .ok (.iushr, 1) := by decide +kernel
theorem dX9_seesLine_100 : decode cX9_seesLine 100 = .ok (.iconst 1, 1) := by decide +kernel
theorem dX9_seesLine_101 : decode cX9_seesLine 101 = .ok (.iand, 1) := by decide +kernel
theorem dX9_seesLine_102 : decode cX9_seesLine 102 = .ok (.iconst 1, 1) := by decide +kernel
theorem dX9_seesLine_103 : decode cX9_seesLine 103 = .ok (.if_icmp .ne 12, 3) := by decide +kernel
theorem dX9_seesLine_106 : decode cX9_seesLine 106 = .ok (.aload_n 0, 1) := by decide +kernel
theorem dX9_seesLine_107 : decode cX9_seesLine 107 = .ok (.getfield 12, 3) := by decide +kernel
theorem dX9_seesLine_110 : decode cX9_seesLine 110 = .ok (.iconst 3, 1) := by decide +kernel
theorem dX9_seesLine_111 : decode cX9_seesLine 111 = .ok (.invokevirtual 87, 3) := by decide +kernel
theorem dX9_seesLine_114 : decode cX9_seesLine 114 = .ok (.ireturn, 1) := by decide +kernel
theorem dX9_seesLine_115 : decode cX9_seesLine 115 = .ok (.iload_n 3, 1) := by decide +kernel
theorem dX9_seesLine_116 : decode cX9_seesLine 116 = .ok (.iconst 1, 1) := by decide +kernel
theorem dX9_seesLine_117 : decode cX9_seesLine 117 = .ok (.iload 5, 2) := by decide +kernel
theorem dX9_seesLine_119 : decode cX9_seesLine 119 = .ok (.ishl, 1) := by decide +kernel
theorem dX9_seesLine_120 : decode cX9_seesLine 120 = .ok (.ior, 1) := by decide +kernel
theorem dX9_seesLine_121 : decode cX9_seesLine 121 = .ok (.istore_n 3, 1) := by decide +kernel
theorem dX9_seesLine_122 : decode cX9_seesLine 122 = .ok (.aload_n 0, 1) := by decide +kernel
theorem dX9_seesLine_123 : decode cX9_seesLine 123 = .ok (.getfield 22, 3) := by decide +kernel
theorem dX9_seesLine_126 : decode cX9_seesLine 126 = .ok (.invokevirtual 94, 3) := by decide +kernel
theorem dX9_seesLine_129 : decode cX9_seesLine 129 = .ok (.iinc 4 1, 3) := by decide +kernel
theorem dX9_seesLine_132 : decode cX9_seesLine 132 = .ok (.goto (-80), 3) := by decide +kernel
theorem dX9_seesLine_135 : decode cX9_seesLine 135 = .ok (.aload_n 1, 1) := by decide +kernel
theorem dX9_seesLine_136 : decode cX9_seesLine 136 = .ok (.getfield 138, 3) := by decide +kernel
theorem dX9_seesLine_139 : decode cX9_seesLine 139 = .ok (.iload_n 2, 1) := by decide +kernel
theorem dX9_seesLine_140 : decode cX9_seesLine 140 = .ok (.iload_n 3, 1) := by decide +kernel
theorem dX9_seesLine_141 : decode cX9_seesLine 141 = .ok (.iastore, 1) := by decide +kernel
theorem dX9_seesLine_142 : decode cX9_seesLine 142 = .ok (.aload_n 0, 1) := by decide +kernel
theorem dX9_seesLine_143 : decode cX9_seesLine 143 = .ok (.getfield 12, 3) := by decide +kernel
theorem dX9_seesLine_146 : decode cX9_seesLine 146 = .ok (.bipush 59, 2) := by decide +kernel
theorem dX9_seesLine_148 : decode cX9_seesLine 148 = .ok (.invokevirtual 112, 3) := by decide +kernel
theorem dX9_seesLine_151 : decode cX9_seesLine 151 = .ok (.ireturn, 1) := by decide +kernel
set_option maxRecDepth 20000 in
theorem gX9_shunLine_X10_advance : GoodIn wsX9_shunLine (wsV RX9 94 RX10 yX10_advance wsX10_advance) := goodIn_r _ [4, 5, 6, 7, 8, 9, 10, 11, 12, 13, 14, 15, 16, 7, 17, 18, 19, 20, 21, 22, 23, 24, 25, 26, 27, 28, 29, 30, 31, 32, 33, 34, 35, 36, 37, 38, 39, 40, 41, 42, 43, 44, 45, 46, 47, 48, 49, 50, 51, 52, 53, 54, 55, 56, 57, 58, 59, 60, 61, 62, 63, 64, 65, 66, 67, 68, 69, 70, 71, 72, 73, 74, 75, 76, 77, 78, 79, 80, 81, 82, 83, 84, 85, 86, 87, 88, 89, 90, 91, 92, 93, 94, 95, 96, 97, 98, 99, 100, 101, 102, 103, 104, 105, 106, 107, 108, 109, 110, 111, 112, 113, 170, 171, 172, 173, 174, 175, 176, 177] rfl (by decide +kernel)
set_option maxRecDepth 20000 in
theorem gX9_shunLine_X3_namedGuest : GoodIn wsX9_shunLine (wsV RX9 134 RX3 yX3_namedGuest wsX3_namedGuest) := goodIn_r _ [114, 115, 116, 117, 118, 119, 120, 121, 122, 123, 124, 125, 126, 127, 128, 129, 130, 131, 117, 132, 133, 134, 135, 7, 136, 13, 137, 138, 139, 140, 141, 142, 178, 179, 180, 181, 170, 171, 172, 173, 174, 175, 176, 177, 157, 158, 159, 160, 161, 162, 163, 164, 165, 166, 167, 168, 169] rfl (by decide +kernel)
set_option maxRecDepth 20000 in
theorem gX9_shunLine_X3_fail : GoodIn wsX9_shunLine (wsV RX9 87 RX3 yX3_fail wsX3_fail) := goodIn_r _ [143, 138, 139, 117, 140, 120, 141, 142, 178, 179, 180, 181, 170, 171, 172, 173, 174, 175, 176, 177] rfl (by decide +kernel)
set_option maxRecDepth 20000 in
theorem gX9_shunLine_X3_take : GoodIn wsX9_shunLine (wsV RX9 112 RX3 yX3_take wsX3_take) := goodIn_r _ [144, 145, 146, 117, 147, 120, 148, 137, 138, 139, 117, 140, 141, 142, 149, 5, 6, 7, 8, 9, 10, 11, 12, 13, 14, 15, 16, 17, 18, 19, 20, 21, 22, 23, 24, 25, 26, 27, 28, 29, 30, 31, 32, 33, 34, 35, 36, 37, 38, 39, 40, 41, 42, 43, 44, 45, 46, 47, 48, 49, 50, 51, 52, 53, 54, 55, 56, 57, 58, 59, 60, 61, 62, 63, 64, 65, 66, 67, 68, 69, 70, 71, 72, 73, 74, 75, 76, 77, 78, 79, 80, 81, 82, 83, 84, 85, 86, 87, 88, 89, 90, 91, 92, 93, 94, 95, 96, 97, 98, 99, 100, 101, 102, 103, 104, 105, 106, 107, 108, 109, 110, 111, 112, 113, 178, 179, 180, 181, 170, 171, 172, 173, 174, 175, 176, 177] rfl (by decide +kernel)
theorem dX9_shunLine_0 : decode cX9_shunLine 0 = .ok (.aload_n 0, 1) := by decide +kernel
theorem dX9_shunLine_1 : decode cX9_shunLine 1 = .ok (.getfield 22, 3) := by decide +kernel
theorem dX9_shunLine_4 : decode cX9_shunLine 4 = .ok (.invokevirtual 94, 3) := by decide +kernel
theorem dX9_shunLine_7 : decode cX9_shunLine 7 = .ok (.aload_n 0, 1) := by decide +kernel
theorem dX9_shunLine_8 : decode cX9_shunLine 8 = .ok (.getfield 12, 3) := by decide +kernel
theorem dX9_shunLine_11 : decode cX9_shunLine 11 = .ok (.invokevirtual 134, 3) := by decide +kernel
theorem dX9_shunLine_14 : decode cX9_shunLine 14 = .ok (.istore_n 2, 1) := by decide +kernel
theorem dX9_shunLine_15 : decode cX9_shunLine 15 = .ok (.iload_n 2, 1) := by decide +kernel
theorem dX9_shunLine_16 : decode cX9_shunLine 16 = .ok (.iconst (-1), 1) := by decide +kernel
theorem dX9_shunLine_17 : decode cX9_shunLine 17 = .ok (.if_icmp .ne 5, 3) := by decide +kernel
theorem dX9_shunLine_20 : decode cX9_shunLine 20 = .ok (.iconst 0, 1) := by decide +kernel
theorem dX9_shunLine_21 : decode cX9_shunLine 21 = .ok (.ireturn, 1) := by decide +kernel
theorem dX9_shunLine_22 : decode cX9_shunLine 22 = .ok (.aload_n 0, 1) := by decide +kernel
theorem dX9_shunLine_23 : decode cX9_shunLine 23 = .ok (.getfield 22, 3) := by decide +kernel
theorem dX9_shunLine_26 : decode cX9_shunLine 26 = .ok (.invokevirtual 94, 3) := by decide +kernel
theorem dX9_shunLine_29 : decode cX9_shunLine 29 = .ok (.aload_n 0, 1) := by decide +kernel
theorem dX9_shunLine_30 : decode cX9_shunLine 30 = .ok (.getfield 12, 3) := by decide +kernel
theorem dX9_shunLine_33 : decode cX9_shunLine 33 = .ok (.invokevirtual 134, 3) := by decide +kernel
theorem dX9_shunLine_36 : decode cX9_shunLine 36 = .ok (.istore_n 3, 1) := by decide +kernel
theorem dX9_shunLine_37 : decode cX9_shunLine 37 = .ok (.iload_n 3, 1) := by decide +kernel
theorem dX9_shunLine_38 : decode cX9_shunLine 38 = .ok (.iconst (-1), 1) := by decide +kernel
theorem dX9_shunLine_39 : decode cX9_shunLine 39 = .ok (.if_icmp .ne 5, 3) := by decide +kernel
theorem dX9_shunLine_42 : decode cX9_shunLine 42 = .ok (.iconst 0, 1) := by decide +kernel
theorem dX9_shunLine_43 : decode cX9_shunLine 43 = .ok (.ireturn, 1) := by decide +kernel
theorem dX9_shunLine_44 : decode cX9_shunLine 44 = .ok (.iload_n 2, 1) := by decide +kernel
theorem dX9_shunLine_45 : decode cX9_shunLine 45 = .ok (.iload_n 3, 1) := by decide +kernel
theorem dX9_shunLine_46 : decode cX9_shunLine 46 = .ok (.if_icmp .eq 17, 3) := by decide +kernel
theorem dX9_shunLine_49 : decode cX9_shunLine 49 = .ok (.aload_n 1, 1) := by decide +kernel
theorem dX9_shunLine_50 : decode cX9_shunLine 50 = .ok (.getfield 144, 3) := by decide +kernel
theorem dX9_shunLine_53 : decode cX9_shunLine 53 = .ok (.iload_n 2, 1) := by decide +kernel
theorem dX9_shunLine_54 : decode cX9_shunLine 54 = .ok (.iaload, 1) := by decide +kernel
theorem dX9_shunLine_55 : decode cX9_shunLine 55 = .ok (.iload_n 3, 1) := by decide +kernel
theorem dX9_shunLine_56 : decode cX9_shunLine 56 = .ok (.iushr, 1) := by decide +kernel
theorem dX9_shunLine_57 : decode cX9_shunLine 57 = .ok (.iconst 1, 1) := by decide +kernel
theorem dX9_shunLine_58 : decode cX9_shunLine 58 = .ok (.iand, 1) := by decide +kernel
theorem dX9_shunLine_59 : decode cX9_shunLine 59 = .ok (.iconst 1, 1) := by decide +kernel
theorem dX9_shunLine_60 : decode cX9_shunLine 60 = .ok (.if_icmp .ne 12, 3) := by decide +kernel
theorem dX9_shunLine_63 : decode cX9_shunLine 63 = .ok (.aload_n 0, 1) := by decide +kernel
theorem dX9_shunLine_64 : decode cX9_shunLine 64 = .ok (.getfield 12, 3) := by decide +kernel
theorem dX9_shunLine_67 : decode cX9_shunLine 67 = .ok (.iconst 3, 1) := by decide +kernel
theorem dX9_shunLine_68 : decode cX9_shunLine 68 = .ok (.invokevirtual 87, 3) := by decide +kernel
theorem dX9_shunLine_71 : decode cX9_shunLine 71 = .ok (.ireturn, 1) := by decide +kernel
theorem dX9_shunLine_72 : decode cX9_shunLine 72 = .ok (.aload_n 1, 1) := by decide +kernel
theorem dX9_shunLine_73 : decode cX9_shunLine 73 = .ok (.getfield 144, 3) := by decide +kernel
theorem dX9_shunLine_76 : decode cX9_shunLine 76 = .ok (.iload_n 2, 1) := by decide +kernel
theorem dX9_shunLine_77 : decode cX9_shunLine 77 = .ok (.dup2, 1) := by decide +kernel
theorem dX9_shunLine_78 : decode cX9_shunLine 78 = .ok (.iaload, 1) := by decide +kernel
theorem dX9_shunLine_79 : decode cX9_shunLine 79 = .ok (.iconst 1, 1) := by decide +kernel
theorem dX9_shunLine_80 : decode cX9_shunLine 80 = .ok (.iload_n 3, 1) := by decide +kernel
theorem dX9_shunLine_81 : decode cX9_shunLine 81 = .ok (.ishl, 1) := by decide +kernel
theorem dX9_shunLine_82 : decode cX9_shunLine 82 = .ok (.ior, 1) := by decide +kernel
theorem dX9_shunLine_83 : decode cX9_shunLine 83 = .ok (.iastore, 1) := by decide +kernel
theorem dX9_shunLine_84 : decode cX9_shunLine 84 = .ok (.aload_n 1, 1) := by decide +kernel
theorem dX9_shunLine_85 : decode cX9_shunLine 85 = .ok (.getfield 144, 3) := by decide +kernel
theorem dX9_shunLine_88 : decode cX9_shunLine 88 = .ok (.iload_n 3, 1) := by decide +kernel
theorem dX9_shunLine_89 : decode cX9_shunLine 89 = .ok (.dup2, 1) := by decide +kernel
theorem dX9_shunLine_90 : decode cX9_shunLine 90 = .ok (.iaload, 1) := by decide +kernel
theorem dX9_shunLine_91 : decode cX9_shunLine 91 = .ok (.iconst 1, 1) := by decide +kernel
theorem dX9_shunLine_92 : decode cX9_shunLine 92 = .ok (.iload_n 2, 1) := by decide +kernel
theorem dX9_shunLine_93 : decode cX9_shunLine 93 = .ok (.ishl, 1) := by decide +kernel
theorem dX9_shunLine_94 : decode cX9_shunLine 94 = .ok (.ior, 1) := by decide +kernel
theorem dX9_shunLine_95 : decode cX9_shunLine 95 = .ok (.iastore, 1) := by decide +kernel
theorem dX9_shunLine_96 : decode cX9_shunLine 96 = .ok (.aload_n 0, 1) := by decide +kernel
theorem dX9_shunLine_97 : decode cX9_shunLine 97 = .ok (.getfield 22, 3) := by decide +kernel
theorem dX9_shunLine_100 : decode cX9_shunLine 100 = .ok (.invokevirtual 94, 3) := by decide +kernel
theorem dX9_shunLine_103 : decode cX9_shunLine 103 = .ok (.aload_n 0, 1) := by decide +kernel
theorem dX9_shunLine_104 : decode cX9_shunLine 104 = .ok (.getfield 12, 3) := by decide +kernel
theorem dX9_shunLine_107 : decode cX9_shunLine 107 = .ok (.bipush 59, 2) := by decide +kernel
theorem dX9_shunLine_109 : decode cX9_shunLine 109 = .ok (.invokevirtual 112, 3) := by decide +kernel
theorem dX9_shunLine_112 : decode cX9_shunLine 112 = .ok (.ireturn, 1) := by decide +kernel
section
variable {p : Program} {l : Launch} {e : Env} {s : State} {m : MethodId} {args : Array Value} {below : List Frame} {meth : Method} {c : Code} {D : va_G} {cy : Nat → ClassId} {ad : Nat → Nat} {A : Nat → Prop} {aM aB aO aI aN aT aC aG aR aQ aK aL aX aH aJ aP aU aE0 aE1 aE2 aE3 : Nat → Nat} {gi : Value}
abbrev rm9_newName : Room := { frames := 5, cells := 0, slots := 0, locals := 117 }
theorem hdV9_newName : yX9_newName.cls = RX9 ∧ (yX9_newName.cls ≠ "java/lang/invoke/MethodHandle" ∧ yX9_newName.cls ≠ "java/lang/invoke/VarHandle" ∧ (parseMethodDescriptor yX9_newName.desc).map (fun d => d.parameters.length) = some 1) := by decide +kernel
theorem hin9_newName_9 : ∀ x ∈ u_ws RX9 TX9 7, x ∈ wsX9_newName := fun _ h => List.mem_cons_of_mem _ (List.mem_append_left _ (List.mem_append_left _ (List.mem_append_left _ (List.mem_append_right _ h))))
theorem hin9_newName_10 : ∀ x ∈ u_ws RX10 TX10 8, x ∈ wsX9_newName := fun _ h => List.mem_cons_of_mem _ (List.mem_append_left _ (List.mem_append_left _ (List.mem_append_right _ h)))
set_option maxRecDepth 100000 in
set_option maxHeartbeats 4000000 in
theorem t9_newName_49 (hC : Cx p s m args meth c cX9_newName 2 wsX9_newName RX9 (some .boolean)) : ∀ (SR : Ob) (SG : Ob) (ST : Ob) (SI : Ob) (res : Int32 × Ob × Ob) (H : Heap) (locs : List Loc) (ls : Array Slot), f9_newName_49 SR SG ST SI = some res → GW D cy ad (w9 cy aR aG aT SR ++ (w3 cy aG aT aC (.ref (aI 0)) SG ++ (w10 cy aT ST ++ (w4 cy aI SI)))) A s H locs → lv_has ls 2 [(0, .ref (aR 0))] → W p l e rm9_newName s m args below meth c H locs 0 0 (MQ below (QI D cy (w9 cy aR aG aT SR ++ (w3 cy aG aT aC (.ref (aI 0)) (res.2.1) ++ (w10 cy aT (res.2.2) ++ (w4 cy aI SI)))) A (res.1)) args s 0 0 A) (F0 m 49 ls []) := by
  intro SR SG ST SI res H locs ls hf hW hl
  unfold f9_newName_49 at hf
  refine lv_aload_n hC.1 hC.2.1 dX9_newName_49 rfl (lv_at hl 0 rfl) ?_
  refine g_get hC hW hin9_newName_9 0 rfl rfl 0 (by decide) 2 rfl rfl dX9_newName_50 ?_
  refine lv_iconst (v := 3) hC.1 hC.2.1 dX9_newName_53 (by decide) ?_
  obtain ⟨r_1, hg_2, hf⟩ := bd_of hf
  refine g_calliV (w' := w9 cy aR aG aT SR ++ (w3 cy aG aT aC (.ref (aI 0)) (r_1.2) ++ (w10 cy aT ST ++ (w4 cy aI SI)))) hC hW (c3_fail l D cy ad aG aT aC aI hg_2) (cwV 1 hC.2.2.2.2.1 gX9_newName_X3_fail rfl rfl rfl hdV3_fail ⟨Nat.le_of_ble_eq_true rfl, Nat.le_of_ble_eq_true rfl⟩) (⟨[3, 4, 5, 6], [0, 1, 2, 7, 8, 9, 10, 11, 12, 13, 14, 15, 16, 17, 18], [0, 1, 2, 15, 16, 17, 18, 3, 4, 5, 6, 7, 8, 9, 10, 11, 12, 13, 14], w9 cy aR aG aT SR ++ (w4 cy aI SI), rfl, rfl, rfl, rfl, by decide, rfl, rfl⟩) 0 3 rfl rfl rfl rfl hl.1 rfl (Nat.le_of_ble_eq_true rfl) dX9_newName_54 ⟨Nat.zero_le _, Nat.zero_le _⟩ (fun H locs hW => ?_)
  obtain ⟨hz, hf⟩ := ck_of hf
  obtain rfl := Option.some.inj hf
  exact g_zret hC hW hz dX9_newName_57
set_option maxRecDepth 100000 in
set_option maxHeartbeats 4000000 in
theorem t9_newName_0 (hC : Cx p s m args meth c cX9_newName 2 wsX9_newName RX9 (some .boolean)) : ∀ (SR : Ob) (SG : Ob) (ST : Ob) (SI : Ob) (res : Int32 × Ob × Ob) (H : Heap) (locs : List Loc) (ls : Array Slot), f9_newName SR SG ST SI = some res → GW D cy ad (w9 cy aR aG aT SR ++ (w3 cy aG aT aC (.ref (aI 0)) SG ++ (w10 cy aT ST ++ (w4 cy aI SI)))) A s H locs → lv_has ls 2 [(0, .ref (aR 0)), (1, .ref (aI 0))] → W p l e rm9_newName s m args below meth c H locs 0 0 (MQ below (QI D cy (w9 cy aR aG aT SR ++ (w3 cy aG aT aC (.ref (aI 0)) (res.2.1) ++ (w10 cy aT (res.2.2) ++ (w4 cy aI SI)))) A (res.1)) args s 0 0 A) (F0 m 0 ls []) := by
  intro SR SG ST SI res H locs ls hf hW hl
  unfold f9_newName at hf
  refine lv_aload_n hC.1 hC.2.1 dX9_newName_0 rfl (lv_at hl 0 rfl) ?_
  refine g_get hC hW hin9_newName_9 0 rfl rfl 1 (by decide) 1 rfl rfl dX9_newName_1 ?_
  obtain ⟨r_1, hg_2, hf⟩ := bd_of hf
  refine g_calliV (w' := w9 cy aR aG aT SR ++ (w3 cy aG aT aC (.ref (aI 0)) SG ++ (w10 cy aT ST ++ (w4 cy aI SI)))) hC hW (c10_isName l D cy ad aT hg_2) (cwV 0 hC.2.2.2.2.1 gX9_newName_X10_isName rfl rfl rfl hdV10_isName ⟨Nat.le_of_ble_eq_true rfl, Nat.le_of_ble_eq_true rfl⟩) (⟨[4, 5, 6], [0, 1, 2, 3, 7, 8, 9, 10, 11, 12, 13, 14, 15, 16, 17, 18], [0, 1, 2, 3, 16, 17, 18, 4, 5, 6, 7, 8, 9, 10, 11, 12, 13, 14, 15], w9 cy aR aG aT SR ++ (w3 cy aG aT aC (.ref (aI 0)) SG ++ (w4 cy aI SI)), rfl, rfl, rfl, rfl, by decide, rfl, rfl⟩) 0 9 rfl rfl rfl rfl hl.1 rfl (Nat.le_of_ble_eq_true rfl) dX9_newName_4 ⟨Nat.zero_le _, Nat.zero_le _⟩ (fun H locs hW => ?_)
  refine lv_if_ne (tgt := 19) hC.1 hC.2.1 dX9_newName_7 (by decide) (fun hc_3 => ?_) (fun hc_3 => ?_)
  · have hf := ite_f hf hc_3
    refine lv_aload_n hC.1 hC.2.1 dX9_newName_19 rfl (lv_at hl 1 rfl) ?_
    refine lv_aload_n hC.1 hC.2.1 dX9_newName_20 rfl (lv_at hl 0 rfl) ?_
    refine g_get hC hW hin9_newName_9 0 rfl rfl 1 (by decide) 1 rfl rfl dX9_newName_21 ?_
    refine g_get hC hW hin9_newName_10 4 rfl rfl 6 (by decide) 3 rfl rfl dX9_newName_24 ?_
    obtain ⟨r_4, hg_5, hf⟩ := bd_of hf
    refine g_calliV (w' := w9 cy aR aG aT SR ++ (w3 cy aG aT aC (.ref (aI 0)) SG ++ (w10 cy aT ST ++ (w4 cy aI SI)))) hC hW (c4_guestNamed l D cy ad aI hg_5) (cwV 1 hC.2.2.2.2.1 gX9_newName_X4_guestNamed rfl rfl rfl hdV4_guestNamed ⟨Nat.le_of_ble_eq_true rfl, Nat.le_of_ble_eq_true rfl⟩) (⟨[7, 8, 9, 10, 11, 12, 13, 14, 15, 16, 17, 18], [0, 1, 2, 3, 4, 5, 6], [0, 1, 2, 3, 4, 5, 6, 7, 8, 9, 10, 11, 12, 13, 14, 15, 16, 17, 18], w9 cy aR aG aT SR ++ (w3 cy aG aT aC (.ref (aI 0)) SG ++ (w10 cy aT ST)), rfl, rfl, rfl, rfl, by decide, rfl, rfl⟩) 0 4 rfl rfl rfl rfl hl.1 rfl (Nat.le_of_ble_eq_true rfl) dX9_newName_27 ⟨Nat.zero_le _, Nat.zero_le _⟩ (fun H locs hW => ?_)
    refine lv_iconst (v := (-1)) hC.1 hC.2.1 dX9_newName_30 (by decide) ?_
    refine lv_icmp_ne (tgt := 49) hC.1 hC.2.1 dX9_newName_31 (by decide) (fun hc_6 => ?_) (fun hc_6 => ?_)
    · have hf := ite_f hf hc_6
      exact t9_newName_49 hC  _ _ _ _ _ _ _ _ hf hW (lv_sub hl [0] rfl)
    · have hf := ite_t hf hc_6
      refine lv_aload_n hC.1 hC.2.1 dX9_newName_34 rfl (lv_at hl 1 rfl) ?_
      refine lv_aload_n hC.1 hC.2.1 dX9_newName_35 rfl (lv_at hl 0 rfl) ?_
      refine g_get hC hW hin9_newName_9 0 rfl rfl 1 (by decide) 1 rfl rfl dX9_newName_36 ?_
      refine g_get hC hW hin9_newName_10 4 rfl rfl 6 (by decide) 3 rfl rfl dX9_newName_39 ?_
      obtain ⟨r_7, hg_8, hf⟩ := bd_of hf
      refine g_calliV (w' := w9 cy aR aG aT SR ++ (w3 cy aG aT aC (.ref (aI 0)) SG ++ (w10 cy aT ST ++ (w4 cy aI SI)))) hC hW (c4_signNamed l D cy ad aI hg_8) (cwV 1 hC.2.2.2.2.1 gX9_newName_X4_signNamed rfl rfl rfl hdV4_signNamed ⟨Nat.le_of_ble_eq_true rfl, Nat.le_of_ble_eq_true rfl⟩) (⟨[7, 8, 9, 10, 11, 12, 13, 14, 15, 16, 17, 18], [0, 1, 2, 3, 4, 5, 6], [0, 1, 2, 3, 4, 5, 6, 7, 8, 9, 10, 11, 12, 13, 14, 15, 16, 17, 18], w9 cy aR aG aT SR ++ (w3 cy aG aT aC (.ref (aI 0)) SG ++ (w10 cy aT ST)), rfl, rfl, rfl, rfl, by decide, rfl, rfl⟩) 0 4 rfl rfl rfl rfl hl.1 rfl (Nat.le_of_ble_eq_true rfl) dX9_newName_42 ⟨Nat.zero_le _, Nat.zero_le _⟩ (fun H locs hW => ?_)
      refine lv_iconst (v := (-1)) hC.1 hC.2.1 dX9_newName_45 (by decide) ?_
      refine lv_icmp_eq (tgt := 58) hC.1 hC.2.1 dX9_newName_46 (by decide) (fun hc_9 => ?_) (fun hc_9 => ?_)
      · have hf := ite_t hf hc_9
        refine lv_aload_n hC.1 hC.2.1 dX9_newName_58 rfl (lv_at hl 0 rfl) ?_
        refine g_get hC hW hin9_newName_9 0 rfl rfl 1 (by decide) 1 rfl rfl dX9_newName_59 ?_
        obtain ⟨r_10, hg_11, hf⟩ := bd_of hf
        refine g_callvV (w' := w9 cy aR aG aT SR ++ (w3 cy aG aT aC (.ref (aI 0)) SG ++ (w10 cy aT r_10 ++ (w4 cy aI SI)))) hC hW (c10_advance l D cy ad aT hg_11) (cwV 0 hC.2.2.2.2.1 gX9_newName_X10_advance rfl rfl rfl hdV10_advance ⟨Nat.le_of_ble_eq_true rfl, Nat.le_of_ble_eq_true rfl⟩) (⟨[4, 5, 6], [0, 1, 2, 3, 7, 8, 9, 10, 11, 12, 13, 14, 15, 16, 17, 18], [0, 1, 2, 3, 16, 17, 18, 4, 5, 6, 7, 8, 9, 10, 11, 12, 13, 14, 15], w9 cy aR aG aT SR ++ (w3 cy aG aT aC (.ref (aI 0)) SG ++ (w4 cy aI SI)), rfl, rfl, rfl, rfl, by decide, rfl, rfl⟩) 0 9 rfl rfl rfl rfl hl.1 rfl (Nat.le_of_ble_eq_true rfl) dX9_newName_62 ⟨Nat.zero_le _, Nat.zero_le _⟩ (fun H locs hW => ?_)
        refine lv_iconst (v := 1) hC.1 hC.2.1 dX9_newName_65 (by decide) ?_
        obtain rfl := Option.some.inj hf
        exact g_zret (v := 1) hC hW (by decide) dX9_newName_66
      · have hf := ite_f hf hc_9
        exact t9_newName_49 hC  _ _ _ _ _ _ _ _ hf hW (lv_sub hl [0] rfl)
  · have hf := ite_t hf hc_3
    refine lv_aload_n hC.1 hC.2.1 dX9_newName_10 rfl (lv_at hl 0 rfl) ?_
    refine g_get hC hW hin9_newName_9 0 rfl rfl 0 (by decide) 2 rfl rfl dX9_newName_11 ?_
    refine lv_iconst (v := 1) hC.1 hC.2.1 dX9_newName_14 (by decide) ?_
    obtain ⟨r_12, hg_13, hf⟩ := bd_of hf
    refine g_calliV (w' := w9 cy aR aG aT SR ++ (w3 cy aG aT aC (.ref (aI 0)) (r_12.2) ++ (w10 cy aT ST ++ (w4 cy aI SI)))) hC hW (c3_fail l D cy ad aG aT aC aI hg_13) (cwV 1 hC.2.2.2.2.1 gX9_newName_X3_fail rfl rfl rfl hdV3_fail ⟨Nat.le_of_ble_eq_true rfl, Nat.le_of_ble_eq_true rfl⟩) (⟨[3, 4, 5, 6], [0, 1, 2, 7, 8, 9, 10, 11, 12, 13, 14, 15, 16, 17, 18], [0, 1, 2, 15, 16, 17, 18, 3, 4, 5, 6, 7, 8, 9, 10, 11, 12, 13, 14], w9 cy aR aG aT SR ++ (w4 cy aI SI), rfl, rfl, rfl, rfl, by decide, rfl, rfl⟩) 0 3 rfl rfl rfl rfl hl.1 rfl (Nat.le_of_ble_eq_true rfl) dX9_newName_15 ⟨Nat.zero_le _, Nat.zero_le _⟩ (fun H locs hW => ?_)
    obtain ⟨hz, hf⟩ := ck_of hf
    obtain rfl := Option.some.inj hf
    exact g_zret hC hW hz dX9_newName_18
set_option maxRecDepth 100000 in
set_option maxHeartbeats 4000000 in
theorem c9_newName (l : Launch) (D : va_G) (cy : Nat → ClassId) (ad : Nat → Nat) (aR : Nat → Nat) (aG : Nat → Nat) (aT : Nat → Nat) (aC : Nat → Nat) (aI : Nat → Nat) {SR : Ob} {SG : Ob} {ST : Ob} {SI : Ob} {res : Int32 × Ob × Ob} (h : f9_newName SR SG ST SI = some res) : GCi l yX9_newName wsX9_newName rm9_newName [.ref (aR 0), .ref (aI 0)] D cy ad (w9 cy aR aG aT SR ++ (w3 cy aG aT aC (.ref (aI 0)) SG ++ (w10 cy aT ST ++ (w4 cy aI SI)))) (w9 cy aR aG aT SR ++ (w3 cy aG aT aC (.ref (aI 0)) (res.2.1) ++ (w10 cy aT (res.2.2) ++ (w4 cy aI SI)))) (res.1) := fun sz => GC.start (own := RX9) (Qc := fun A => QI D cy (w9 cy aR aG aT SR ++ (w3 cy aG aT aC (.ref (aI 0)) (res.2.1) ++ (w10 cy aT (res.2.2) ++ (w4 cy aI SI)))) A (res.1)) sz (by decide) rfl rfl (Nat.le_of_ble_eq_true rfl) (fun p e s m below meth c A ls hC hW hl => t9_newName_0 hC _ _ _ _ _ _ _ _ h hW (lv_sub hl [0, 1] rfl))
abbrev rm9_numberBehind : Room := { frames := 6, cells := 0, slots := 0, locals := 138 }
theorem hdV9_numberBehind : yX9_numberBehind.cls = RX9 ∧ (yX9_numberBehind.cls ≠ "java/lang/invoke/MethodHandle" ∧ yX9_numberBehind.cls ≠ "java/lang/invoke/VarHandle" ∧ (parseMethodDescriptor yX9_numberBehind.desc).map (fun d => d.parameters.length) = some 3) := by decide +kernel
theorem hin9_numberBehind_9 : ∀ x ∈ u_ws RX9 TX9 7, x ∈ wsX9_numberBehind := fun _ h => List.mem_cons_of_mem _ (List.mem_append_left _ (List.mem_append_left _ (List.mem_append_right _ h)))
theorem hin9_numberBehind_10 : ∀ x ∈ u_ws RX10 TX10 8, x ∈ wsX9_numberBehind := fun _ h => List.mem_cons_of_mem _ (List.mem_append_left _ (List.mem_append_right _ h))
set_option maxRecDepth 100000 in
set_option maxHeartbeats 4000000 in
theorem t9_numberBehind_57 (hC : Cx p s m args meth c cX9_numberBehind 5 wsX9_numberBehind RX9 (some .int)) : ∀ (SR : Ob) (SG : Ob) (ST : Ob) (res : Int32 × Ob × Ob) (H : Heap) (locs : List Loc) (ls : Array Slot), f9_numberBehind_57 SR SG ST = some res → GW D cy ad (w9 cy aR aG aT SR ++ (w3 cy aG aT aC (.ref (aI 0)) SG ++ (w10 cy aT ST))) A s H locs → lv_has ls 5 [(0, .ref (aR 0))] → W p l e rm9_numberBehind s m args below meth c H locs 0 0 (MQ below (QI D cy (w9 cy aR aG aT SR ++ (w3 cy aG aT aC (.ref (aI 0)) (res.2.1) ++ (w10 cy aT (res.2.2)))) A (res.1)) args s 0 0 A) (F0 m 57 ls []) := by
  intro SR SG ST res H locs ls hf hW hl
  unfold f9_numberBehind_57 at hf
  refine lv_aload_n hC.1 hC.2.1 dX9_numberBehind_57 rfl (lv_at hl 0 rfl) ?_
  refine g_get hC hW hin9_numberBehind_9 0 rfl rfl 0 (by decide) 1 rfl rfl dX9_numberBehind_58 ?_
  refine lv_iconst (v := 4) hC.1 hC.2.1 dX9_numberBehind_61 (by decide) ?_
  obtain ⟨r_1, hg_2, hf⟩ := bd_of hf
  refine g_calliV (w' := w9 cy aR aG aT SR ++ (w3 cy aG aT aC (.ref (aI 0)) (r_1.2) ++ (w10 cy aT ST))) hC hW (c3_fail l D cy ad aG aT aC aI hg_2) (cwV 1 hC.2.2.2.2.1 gX9_numberBehind_X3_fail rfl rfl rfl hdV3_fail ⟨Nat.le_of_ble_eq_true rfl, Nat.le_of_ble_eq_true rfl⟩) (⟨[3, 4, 5, 6], [0, 1, 2], [0, 1, 2, 3, 4, 5, 6], w9 cy aR aG aT SR, rfl, rfl, rfl, rfl, by decide, rfl, rfl⟩) 0 3 rfl rfl rfl rfl hl.1 rfl (Nat.le_of_ble_eq_true rfl) dX9_numberBehind_62 ⟨Nat.zero_le _, Nat.zero_le _⟩ (fun H locs hW => ?_)
  refine lv_pop hC.1 hC.2.1 dX9_numberBehind_65 rfl ?_
  refine lv_iconst (v := (-1)) hC.1 hC.2.1 dX9_numberBehind_66 (by decide) ?_
  obtain rfl := Option.some.inj hf
  exact g_iret hC hW dX9_numberBehind_67
set_option maxRecDepth 100000 in
set_option maxHeartbeats 4000000 in
theorem t9_numberBehind_0 (hC : Cx p s m args meth c cX9_numberBehind 5 wsX9_numberBehind RX9 (some .int)) : ∀ (x1 : Int32) (x2 : Int32) (x3 : Int32) (SR : Ob) (SG : Ob) (ST : Ob) (res : Int32 × Ob × Ob) (H : Heap) (locs : List Loc) (ls : Array Slot), f9_numberBehind x1 x2 x3 SR SG ST = some res → GW D cy ad (w9 cy aR aG aT SR ++ (w3 cy aG aT aC (.ref (aI 0)) SG ++ (w10 cy aT ST))) A s H locs → lv_has ls 5 [(0, .ref (aR 0)), (1, .int x1), (2, .int x2), (3, .int x3)] → W p l e rm9_numberBehind s m args below meth c H locs 0 0 (MQ below (QI D cy (w9 cy aR aG aT SR ++ (w3 cy aG aT aC (.ref (aI 0)) (res.2.1) ++ (w10 cy aT (res.2.2)))) A (res.1)) args s 0 0 A) (F0 m 0 ls []) := by
  intro x1 x2 x3 SR SG ST res H locs ls hf hW hl
  unfold f9_numberBehind at hf
  refine lv_aload_n hC.1 hC.2.1 dX9_numberBehind_0 rfl (lv_at hl 0 rfl) ?_
  refine g_get hC hW hin9_numberBehind_9 0 rfl rfl 0 (by decide) 1 rfl rfl dX9_numberBehind_1 ?_
  refine lv_iload_n hC.1 hC.2.1 dX9_numberBehind_4 rfl (lv_at hl 1 rfl) ?_
  obtain ⟨r_1, hg_2, hf⟩ := bd_of hf
  refine g_calliV (w' := w9 cy aR aG aT SR ++ (w3 cy aG aT aC (.ref (aI 0)) (r_1.2.1) ++ (w10 cy aT (r_1.2.2)))) hC hW (c3_take l D cy ad aG aT aC aI hg_2) (cwV 1 hC.2.2.2.2.1 gX9_numberBehind_X3_take rfl rfl rfl hdV3_take ⟨Nat.le_of_ble_eq_true rfl, Nat.le_of_ble_eq_true rfl⟩) (⟨[3, 4, 5, 6], [0, 1, 2], [0, 1, 2, 3, 4, 5, 6], w9 cy aR aG aT SR, rfl, rfl, rfl, rfl, by decide, rfl, rfl⟩) 0 3 rfl rfl rfl rfl hl.1 rfl (Nat.le_of_ble_eq_true rfl) dX9_numberBehind_5 ⟨Nat.zero_le _, Nat.zero_le _⟩ (fun H locs hW => ?_)
  refine lv_if_ne (tgt := 13) hC.1 hC.2.1 dX9_numberBehind_8 (by decide) (fun hc_3 => ?_) (fun hc_3 => ?_)
  · have hf := ite_f hf hc_3
    refine lv_aload_n hC.1 hC.2.1 dX9_numberBehind_13 rfl (lv_at hl 0 rfl) ?_
    refine g_get hC hW hin9_numberBehind_9 0 rfl rfl 1 (by decide) 2 rfl rfl dX9_numberBehind_14 ?_
    refine g_get hC hW hin9_numberBehind_10 4 rfl rfl 7 (by decide) 3 rfl rfl dX9_numberBehind_17 ?_
    refine lv_topi (fun x4_4 ex4_4 => ?_)
    have hf := lt_nm hf ex4_4
    refine lv_istore (lv' := [(4, .int x4_4), (0, .ref (aR 0)), (1, .int x1), (2, .int x2), (3, .int x3)]) hC.1 hC.2.1 dX9_numberBehind_20 hl (by decide) rfl (fun ls hl => ?_)
    refine lv_aload_n hC.1 hC.2.1 dX9_numberBehind_22 rfl (lv_at hl 1 rfl) ?_
    refine g_get hC hW hin9_numberBehind_9 0 rfl rfl 1 (by decide) 2 rfl rfl dX9_numberBehind_23 ?_
    refine g_get hC hW hin9_numberBehind_10 4 rfl rfl 3 (by decide) 4 rfl rfl dX9_numberBehind_26 ?_
    refine lv_bipush (v := 33) hC.1 hC.2.1 dX9_numberBehind_29 (by decide) ?_
    refine lv_icmp_eq (tgt := 45) hC.1 hC.2.1 dX9_numberBehind_31 (by decide) (fun hc_5 => ?_) (fun hc_5 => ?_)
    · have hf := ite_t hf hc_5
      refine lv_iload hC.1 hC.2.1 dX9_numberBehind_45 (lv_at hl 0 rfl) ?_
      refine lv_iload_n hC.1 hC.2.1 dX9_numberBehind_47 rfl (lv_at hl 3 rfl) ?_
      refine lv_icmp_lt (tgt := 57) hC.1 hC.2.1 dX9_numberBehind_48 (by decide) (fun hc_6 => ?_) (fun hc_6 => ?_)
      · have hf := ite_t hf hc_6
        exact t9_numberBehind_57 hC  _ _ _ _ _ _ _ hf hW (lv_sub hl [1] rfl)
      · have hf := ite_f hf hc_6
        refine lv_iload hC.1 hC.2.1 dX9_numberBehind_51 (lv_at hl 0 rfl) ?_
        refine lv_iload_n hC.1 hC.2.1 dX9_numberBehind_53 rfl (lv_at hl 4 rfl) ?_
        refine lv_icmp_le (tgt := 68) hC.1 hC.2.1 dX9_numberBehind_54 (by decide) (fun hc_7 => ?_) (fun hc_7 => ?_)
        · have hf := ite_t hf hc_7
          refine lv_aload_n hC.1 hC.2.1 dX9_numberBehind_68 rfl (lv_at hl 1 rfl) ?_
          refine g_get hC hW hin9_numberBehind_9 0 rfl rfl 1 (by decide) 2 rfl rfl dX9_numberBehind_69 ?_
          obtain ⟨r_8, hg_9, hf⟩ := bd_of hf
          refine g_callvV (w' := w9 cy aR aG aT SR ++ (w3 cy aG aT aC (.ref (aI 0)) (r_1.2.1) ++ (w10 cy aT r_8))) hC hW (c10_advance l D cy ad aT hg_9) (cwV 0 hC.2.2.2.2.1 gX9_numberBehind_X10_advance rfl rfl rfl hdV10_advance ⟨Nat.le_of_ble_eq_true rfl, Nat.le_of_ble_eq_true rfl⟩) (⟨[4, 5, 6], [0, 1, 2, 3], [0, 1, 2, 3, 4, 5, 6], w9 cy aR aG aT SR ++ (w3 cy aG aT aC (.ref (aI 0)) (r_1.2.1)), rfl, rfl, rfl, rfl, by decide, rfl, rfl⟩) 0 9 rfl rfl rfl rfl hl.1 rfl (Nat.le_of_ble_eq_true rfl) dX9_numberBehind_72 ⟨Nat.zero_le _, Nat.zero_le _⟩ (fun H locs hW => ?_)
          refine lv_iload hC.1 hC.2.1 dX9_numberBehind_75 (lv_at hl 0 rfl) ?_
          obtain rfl := Option.some.inj hf
          exact g_iret hC hW dX9_numberBehind_77
        · have hf := ite_f hf hc_7
          exact t9_numberBehind_57 hC  _ _ _ _ _ _ _ hf hW (lv_sub hl [1] rfl)
    · have hf := ite_f hf hc_5
      refine lv_aload_n hC.1 hC.2.1 dX9_numberBehind_34 rfl (lv_at hl 1 rfl) ?_
      refine g_get hC hW hin9_numberBehind_9 0 rfl rfl 0 (by decide) 1 rfl rfl dX9_numberBehind_35 ?_
      refine lv_iconst (v := 1) hC.1 hC.2.1 dX9_numberBehind_38 (by decide) ?_
      obtain ⟨r_10, hg_11, hf⟩ := bd_of hf
      refine g_calliV (w' := w9 cy aR aG aT SR ++ (w3 cy aG aT aC (.ref (aI 0)) (r_10.2) ++ (w10 cy aT (r_1.2.2)))) hC hW (c3_fail l D cy ad aG aT aC aI hg_11) (cwV 1 hC.2.2.2.2.1 gX9_numberBehind_X3_fail rfl rfl rfl hdV3_fail ⟨Nat.le_of_ble_eq_true rfl, Nat.le_of_ble_eq_true rfl⟩) (⟨[3, 4, 5, 6], [0, 1, 2], [0, 1, 2, 3, 4, 5, 6], w9 cy aR aG aT SR, rfl, rfl, rfl, rfl, by decide, rfl, rfl⟩) 0 3 rfl rfl rfl rfl hl.1 rfl (Nat.le_of_ble_eq_true rfl) dX9_numberBehind_39 ⟨Nat.zero_le _, Nat.zero_le _⟩ (fun H locs hW => ?_)
      refine lv_pop hC.1 hC.2.1 dX9_numberBehind_42 rfl ?_
      refine lv_iconst (v := (-1)) hC.1 hC.2.1 dX9_numberBehind_43 (by decide) ?_
      obtain rfl := Option.some.inj hf
      exact g_iret hC hW dX9_numberBehind_44
  · have hf := ite_t hf hc_3
    refine lv_iconst (v := (-1)) hC.1 hC.2.1 dX9_numberBehind_11 (by decide) ?_
    obtain rfl := Option.some.inj hf
    exact g_iret hC hW dX9_numberBehind_12
set_option maxRecDepth 100000 in
set_option maxHeartbeats 4000000 in
theorem c9_numberBehind (l : Launch) (D : va_G) (cy : Nat → ClassId) (ad : Nat → Nat) (aR : Nat → Nat) (aG : Nat → Nat) (aT : Nat → Nat) (aC : Nat → Nat) (aI : Nat → Nat) {x1 : Int32} {x2 : Int32} {x3 : Int32} {SR : Ob} {SG : Ob} {ST : Ob} {res : Int32 × Ob × Ob} (h : f9_numberBehind x1 x2 x3 SR SG ST = some res) : GCi l yX9_numberBehind wsX9_numberBehind rm9_numberBehind [.ref (aR 0), .int x1, .int x2, .int x3] D cy ad (w9 cy aR aG aT SR ++ (w3 cy aG aT aC (.ref (aI 0)) SG ++ (w10 cy aT ST))) (w9 cy aR aG aT SR ++ (w3 cy aG aT aC (.ref (aI 0)) (res.2.1) ++ (w10 cy aT (res.2.2)))) (res.1) := fun sz => GC.start (own := RX9) (Qc := fun A => QI D cy (w9 cy aR aG aT SR ++ (w3 cy aG aT aC (.ref (aI 0)) (res.2.1) ++ (w10 cy aT (res.2.2)))) A (res.1)) sz (by decide) rfl rfl (Nat.le_of_ble_eq_true rfl) (fun p e s m below meth c A ls hC hW hl => t9_numberBehind_0 hC _ _ _ _ _ _ _ _ _ _ h hW (lv_sub hl [0, 1, 2, 3] rfl))
abbrev rm9_guestLine : Room := { frames := 7, cells := 0, slots := 0, locals := 162 }
theorem hdV9_guestLine : yX9_guestLine.cls = RX9 ∧ (yX9_guestLine.cls ≠ "java/lang/invoke/MethodHandle" ∧ yX9_guestLine.cls ≠ "java/lang/invoke/VarHandle" ∧ (parseMethodDescriptor yX9_guestLine.desc).map (fun d => d.parameters.length) = some 1) := by decide +kernel
theorem hin9_guestLine_4 : ∀ x ∈ u_ws RX4 TX4 13, x ∈ wsX9_guestLine := fun _ h => List.mem_cons_of_mem _ (List.mem_append_left _ (List.mem_append_left _ (List.mem_append_left _ (List.mem_append_right _ h))))
theorem hin9_guestLine_9 : ∀ x ∈ u_ws RX9 TX9 7, x ∈ wsX9_guestLine := fun _ h => List.mem_cons_of_mem _ (List.mem_append_left _ (List.mem_append_left _ (List.mem_append_right _ h)))
theorem hin9_guestLine_10 : ∀ x ∈ u_ws RX10 TX10 8, x ∈ wsX9_guestLine := fun _ h => List.mem_cons_of_mem _ (List.mem_append_left _ (List.mem_append_right _ h))
set_option maxRecDepth 100000 in
set_option maxHeartbeats 4000000 in
theorem t9_guestLine_79 (hC : Cx p s m args meth c cX9_guestLine 7 wsX9_guestLine RX9 (some .boolean)) : ∀ (SR : Ob) (SG : Ob) (ST : Ob) (SI : Ob) (res : Int32 × Ob × Ob × Ob) (H : Heap) (locs : List Loc) (ls : Array Slot), f9_guestLine_79 SR SG ST SI = some res → GW D cy ad (w9 cy aR aG aT SR ++ (w3 cy aG aT aC (.ref (aI 0)) SG ++ (w10 cy aT ST ++ (w4 cy aI SI)))) A s H locs → lv_has ls 7 [(0, .ref (aR 0))] → W p l e rm9_guestLine s m args below meth c H locs 0 0 (MQ below (QI D cy (w9 cy aR aG aT SR ++ (w3 cy aG aT aC (.ref (aI 0)) (res.2.1) ++ (w10 cy aT (res.2.2.1) ++ (w4 cy aI (res.2.2.2))))) A (res.1)) args s 0 0 A) (F0 m 79 ls []) := by
  intro SR SG ST SI res H locs ls hf hW hl
  unfold f9_guestLine_79 at hf
  refine lv_aload_n hC.1 hC.2.1 dX9_guestLine_79 rfl (lv_at hl 0 rfl) ?_
  refine g_get hC hW hin9_guestLine_9 0 rfl rfl 0 (by decide) 2 rfl rfl dX9_guestLine_80 ?_
  refine lv_iconst (v := 1) hC.1 hC.2.1 dX9_guestLine_83 (by decide) ?_
  obtain ⟨r_1, hg_2, hf⟩ := bd_of hf
  refine g_calliV (w' := w9 cy aR aG aT SR ++ (w3 cy aG aT aC (.ref (aI 0)) (r_1.2) ++ (w10 cy aT ST ++ (w4 cy aI SI)))) hC hW (c3_fail l D cy ad aG aT aC aI hg_2) (cwV 1 hC.2.2.2.2.1 gX9_guestLine_X3_fail rfl rfl rfl hdV3_fail ⟨Nat.le_of_ble_eq_true rfl, Nat.le_of_ble_eq_true rfl⟩) (⟨[3, 4, 5, 6], [0, 1, 2, 7, 8, 9, 10, 11, 12, 13, 14, 15, 16, 17, 18], [0, 1, 2, 15, 16, 17, 18, 3, 4, 5, 6, 7, 8, 9, 10, 11, 12, 13, 14], w9 cy aR aG aT SR ++ (w4 cy aI SI), rfl, rfl, rfl, rfl, by decide, rfl, rfl⟩) 0 3 rfl rfl rfl rfl hl.1 rfl (Nat.le_of_ble_eq_true rfl) dX9_guestLine_84 ⟨Nat.zero_le _, Nat.zero_le _⟩ (fun H locs hW => ?_)
  obtain ⟨hz, hf⟩ := ck_of hf
  obtain rfl := Option.some.inj hf
  exact g_zret hC hW hz dX9_guestLine_87
set_option maxRecDepth 100000 in
set_option maxHeartbeats 4000000 in
theorem t9_guestLine_0 (hC : Cx p s m args meth c cX9_guestLine 7 wsX9_guestLine RX9 (some .boolean)) : ∀ (SR : Ob) (SG : Ob) (ST : Ob) (SI : Ob) (res : Int32 × Ob × Ob × Ob) (H : Heap) (locs : List Loc) (ls : Array Slot), f9_guestLine SR SG ST SI = some res → GW D cy ad (w9 cy aR aG aT SR ++ (w3 cy aG aT aC (.ref (aI 0)) SG ++ (w10 cy aT ST ++ (w4 cy aI SI)))) A s H locs → lv_has ls 7 [(0, .ref (aR 0)), (1, .ref (aI 0))] → W p l e rm9_guestLine s m args below meth c H locs 0 0 (MQ below (QI D cy (w9 cy aR aG aT SR ++ (w3 cy aG aT aC (.ref (aI 0)) (res.2.1) ++ (w10 cy aT (res.2.2.1) ++ (w4 cy aI (res.2.2.2))))) A (res.1)) args s 0 0 A) (F0 m 0 ls []) := by
  intro SR SG ST SI res H locs ls hf hW hl
  unfold f9_guestLine at hf
  refine lv_aload_n hC.1 hC.2.1 dX9_guestLine_0 rfl (lv_at hl 1 rfl) ?_
  refine g_get hC hW hin9_guestLine_4 7 rfl rfl 0 (by decide) 1 rfl rfl dX9_guestLine_1 ?_
  refine lv_bipush (v := 8) hC.1 hC.2.1 dX9_guestLine_4 (by decide) ?_
  refine lv_icmp_lt (tgt := 18) hC.1 hC.2.1 dX9_guestLine_6 (by decide) (fun hc_1 => ?_) (fun hc_1 => ?_)
  · have hf := ite_t hf hc_1
    refine lv_aload_n hC.1 hC.2.1 dX9_guestLine_18 rfl (lv_at hl 0 rfl) ?_
    refine g_get hC hW hin9_guestLine_9 0 rfl rfl 1 (by decide) 3 rfl rfl dX9_guestLine_19 ?_
    obtain ⟨r_2, hg_3, hf⟩ := bd_of hf
    refine g_callvV (w' := w9 cy aR aG aT SR ++ (w3 cy aG aT aC (.ref (aI 0)) SG ++ (w10 cy aT r_2 ++ (w4 cy aI SI)))) hC hW (c10_advance l D cy ad aT hg_3) (cwV 0 hC.2.2.2.2.1 gX9_guestLine_X10_advance rfl rfl rfl hdV10_advance ⟨Nat.le_of_ble_eq_true rfl, Nat.le_of_ble_eq_true rfl⟩) (⟨[4, 5, 6], [0, 1, 2, 3, 7, 8, 9, 10, 11, 12, 13, 14, 15, 16, 17, 18], [0, 1, 2, 3, 16, 17, 18, 4, 5, 6, 7, 8, 9, 10, 11, 12, 13, 14, 15], w9 cy aR aG aT SR ++ (w3 cy aG aT aC (.ref (aI 0)) SG ++ (w4 cy aI SI)), rfl, rfl, rfl, rfl, by decide, rfl, rfl⟩) 0 9 rfl rfl rfl rfl hl.1 rfl (Nat.le_of_ble_eq_true rfl) dX9_guestLine_22 ⟨Nat.zero_le _, Nat.zero_le _⟩ (fun H locs hW => ?_)
    refine lv_aload_n hC.1 hC.2.1 dX9_guestLine_25 rfl (lv_at hl 0 rfl) ?_
    refine g_get hC hW hin9_guestLine_9 0 rfl rfl 1 (by decide) 3 rfl rfl dX9_guestLine_26 ?_
    refine g_get hC hW hin9_guestLine_10 4 rfl rfl 6 (by decide) 4 rfl rfl dX9_guestLine_29 ?_
    refine lv_topl (fun x2_4 ex2_4 => ?_)
    have hf := lt_nm hf ex2_4
    refine lv_lstore_n (lv' := [(2, .long x2_4), (0, .ref (aR 0)), (1, .ref (aI 0))]) hC.1 hC.2.1 dX9_guestLine_32 rfl hl (by decide) rfl (fun ls hl => ?_)
    refine lv_aload_n hC.1 hC.2.1 dX9_guestLine_33 rfl (lv_at hl 1 rfl) ?_
    refine lv_aload_n hC.1 hC.2.1 dX9_guestLine_34 rfl (lv_at hl 2 rfl) ?_
    obtain ⟨r_5, hg_6, hf⟩ := bd_of hf
    refine g_calliV (w' := w9 cy aR aG aT SR ++ (w3 cy aG aT aC (.ref (aI 0)) (r_5.2.1) ++ (w10 cy aT (r_5.2.2) ++ (w4 cy aI SI)))) hC hW (c9_newName l D cy ad aR aG aT aC aI hg_6) (cwV 1 hC.2.2.2.2.1 gX9_guestLine_X9_newName rfl rfl rfl hdV9_newName ⟨Nat.le_of_ble_eq_true rfl, Nat.le_of_ble_eq_true rfl⟩) (Sub.all _ _) 0 8 rfl rfl rfl rfl hl.1 rfl (Nat.le_of_ble_eq_true rfl) dX9_guestLine_35 ⟨Nat.zero_le _, Nat.zero_le _⟩ (fun H locs hW => ?_)
    refine lv_if_ne (tgt := 43) hC.1 hC.2.1 dX9_guestLine_38 (by decide) (fun hc_7 => ?_) (fun hc_7 => ?_)
    · have hf := ite_f hf hc_7
      refine lv_aload_n hC.1 hC.2.1 dX9_guestLine_43 rfl (lv_at hl 1 rfl) ?_
      refine g_get hC hW hin9_guestLine_9 0 rfl rfl 1 (by decide) 3 rfl rfl dX9_guestLine_44 ?_
      refine g_get hC hW hin9_guestLine_10 4 rfl rfl 3 (by decide) 5 rfl rfl dX9_guestLine_47 ?_
      refine lv_bipush (v := 14) hC.1 hC.2.1 dX9_guestLine_50 (by decide) ?_
      refine lv_isub hC.1 hC.2.1 dX9_guestLine_52 ?_
      refine lv_topi (fun x4_8 ex4_8 => ?_)
      have hf := lt_nm hf ex4_8
      refine lv_istore (lv' := [(4, .int x4_8), (2, .long x2_4), (0, .ref (aR 0)), (1, .ref (aI 0))]) hC.1 hC.2.1 dX9_guestLine_53 hl (by decide) rfl (fun ls hl => ?_)
      refine lv_aload_n hC.1 hC.2.1 dX9_guestLine_55 rfl (lv_at hl 2 rfl) ?_
      refine g_get hC hW hin9_guestLine_9 0 rfl rfl 1 (by decide) 3 rfl rfl dX9_guestLine_56 ?_
      refine g_get hC hW hin9_guestLine_10 4 rfl rfl 3 (by decide) 5 rfl rfl dX9_guestLine_59 ?_
      refine lv_bipush (v := 14) hC.1 hC.2.1 dX9_guestLine_62 (by decide) ?_
      refine lv_icmp_lt (tgt := 79) hC.1 hC.2.1 dX9_guestLine_64 (by decide) (fun hc_9 => ?_) (fun hc_9 => ?_)
      · have hf := ite_t hf hc_9
        exact t9_guestLine_79 hC  _ _ _ _ _ _ _ _ hf hW (lv_sub hl [2] rfl)
      · have hf := ite_f hf hc_9
        refine lv_aload_n hC.1 hC.2.1 dX9_guestLine_67 rfl (lv_at hl 2 rfl) ?_
        refine g_get hC hW hin9_guestLine_9 0 rfl rfl 1 (by decide) 3 rfl rfl dX9_guestLine_68 ?_
        refine g_get hC hW hin9_guestLine_10 4 rfl rfl 3 (by decide) 5 rfl rfl dX9_guestLine_71 ?_
        refine lv_bipush (v := 17) hC.1 hC.2.1 dX9_guestLine_74 (by decide) ?_
        refine lv_icmp_le (tgt := 88) hC.1 hC.2.1 dX9_guestLine_76 (by decide) (fun hc_10 => ?_) (fun hc_10 => ?_)
        · have hf := ite_t hf hc_10
          refine lv_aload_n hC.1 hC.2.1 dX9_guestLine_88 rfl (lv_at hl 2 rfl) ?_
          refine g_get hC hW hin9_guestLine_9 0 rfl rfl 1 (by decide) 3 rfl rfl dX9_guestLine_89 ?_
          obtain ⟨r_11, hg_12, hf⟩ := bd_of hf
          refine g_callvV (w' := w9 cy aR aG aT SR ++ (w3 cy aG aT aC (.ref (aI 0)) (r_5.2.1) ++ (w10 cy aT r_11 ++ (w4 cy aI SI)))) hC hW (c10_advance l D cy ad aT hg_12) (cwV 0 hC.2.2.2.2.1 gX9_guestLine_X10_advance rfl rfl rfl hdV10_advance ⟨Nat.le_of_ble_eq_true rfl, Nat.le_of_ble_eq_true rfl⟩) (⟨[4, 5, 6], [0, 1, 2, 3, 7, 8, 9, 10, 11, 12, 13, 14, 15, 16, 17, 18], [0, 1, 2, 3, 16, 17, 18, 4, 5, 6, 7, 8, 9, 10, 11, 12, 13, 14, 15], w9 cy aR aG aT SR ++ (w3 cy aG aT aC (.ref (aI 0)) (r_5.2.1) ++ (w4 cy aI SI)), rfl, rfl, rfl, rfl, by decide, rfl, rfl⟩) 0 9 rfl rfl rfl rfl hl.1 rfl (Nat.le_of_ble_eq_true rfl) dX9_guestLine_92 ⟨Nat.zero_le _, Nat.zero_le _⟩ (fun H locs hW => ?_)
          refine lv_aload_n hC.1 hC.2.1 dX9_guestLine_95 rfl (lv_at hl 2 rfl) ?_
          refine lv_iconst (v := 1) hC.1 hC.2.1 dX9_guestLine_96 (by decide) ?_
          refine lv_iconst (v := 1) hC.1 hC.2.1 dX9_guestLine_97 (by decide) ?_
          refine lv_bipush (v := 12) hC.1 hC.2.1 dX9_guestLine_98 (by decide) ?_
          obtain ⟨r_13, hg_14, hf⟩ := bd_of hf
          refine g_calliV (w' := w9 cy aR aG aT SR ++ (w3 cy aG aT aC (.ref (aI 0)) (r_13.2.1) ++ (w10 cy aT (r_13.2.2) ++ (w4 cy aI SI)))) hC hW (c9_numberBehind l D cy ad aR aG aT aC aI hg_14) (cwV 3 hC.2.2.2.2.1 gX9_guestLine_X9_numberBehind rfl rfl rfl hdV9_numberBehind ⟨Nat.le_of_ble_eq_true rfl, Nat.le_of_ble_eq_true rfl⟩) (⟨[0, 1, 2, 3, 4, 5, 6], [7, 8, 9, 10, 11, 12, 13, 14, 15, 16, 17, 18], [12, 13, 14, 15, 16, 17, 18, 0, 1, 2, 3, 4, 5, 6, 7, 8, 9, 10, 11], w4 cy aI SI, rfl, rfl, rfl, rfl, by decide, rfl, rfl⟩) 0 8 rfl rfl rfl rfl hl.1 rfl (Nat.le_of_ble_eq_true rfl) dX9_guestLine_100 ⟨Nat.zero_le _, Nat.zero_le _⟩ (fun H locs hW => ?_)
          refine lv_topi (fun x5_15 ex5_15 => ?_)
          have hf := lt_nm hf ex5_15
          refine lv_istore (lv' := [(5, .int x5_15), (4, .int x4_8), (2, .long x2_4), (0, .ref (aR 0)), (1, .ref (aI 0))]) hC.1 hC.2.1 dX9_guestLine_103 hl (by decide) rfl (fun ls hl => ?_)
          refine lv_iload hC.1 hC.2.1 dX9_guestLine_105 (lv_at hl 0 rfl) ?_
          refine lv_iconst (v := (-1)) hC.1 hC.2.1 dX9_guestLine_107 (by decide) ?_
          refine lv_icmp_ne (tgt := 113) hC.1 hC.2.1 dX9_guestLine_108 (by decide) (fun hc_16 => ?_) (fun hc_16 => ?_)
          · have hf := ite_f hf hc_16
            refine lv_aload_n hC.1 hC.2.1 dX9_guestLine_113 rfl (lv_at hl 3 rfl) ?_
            refine lv_iconst (v := 2) hC.1 hC.2.1 dX9_guestLine_114 (by decide) ?_
            refine lv_iconst (v := 1) hC.1 hC.2.1 dX9_guestLine_115 (by decide) ?_
            refine lv_bipush (v := 99) hC.1 hC.2.1 dX9_guestLine_116 (by decide) ?_
            obtain ⟨r_17, hg_18, hf⟩ := bd_of hf
            refine g_calliV (w' := w9 cy aR aG aT SR ++ (w3 cy aG aT aC (.ref (aI 0)) (r_17.2.1) ++ (w10 cy aT (r_17.2.2) ++ (w4 cy aI SI)))) hC hW (c9_numberBehind l D cy ad aR aG aT aC aI hg_18) (cwV 3 hC.2.2.2.2.1 gX9_guestLine_X9_numberBehind rfl rfl rfl hdV9_numberBehind ⟨Nat.le_of_ble_eq_true rfl, Nat.le_of_ble_eq_true rfl⟩) (⟨[0, 1, 2, 3, 4, 5, 6], [7, 8, 9, 10, 11, 12, 13, 14, 15, 16, 17, 18], [12, 13, 14, 15, 16, 17, 18, 0, 1, 2, 3, 4, 5, 6, 7, 8, 9, 10, 11], w4 cy aI SI, rfl, rfl, rfl, rfl, by decide, rfl, rfl⟩) 0 8 rfl rfl rfl rfl hl.1 rfl (Nat.le_of_ble_eq_true rfl) dX9_guestLine_118 ⟨Nat.zero_le _, Nat.zero_le _⟩ (fun H locs hW => ?_)
            refine lv_topi (fun x6_19 ex6_19 => ?_)
            have hf := lt_nm hf ex6_19
            refine lv_istore (lv' := [(6, .int x6_19), (5, .int x5_15), (4, .int x4_8), (2, .long x2_4), (0, .ref (aR 0)), (1, .ref (aI 0))]) hC.1 hC.2.1 dX9_guestLine_121 hl (by decide) rfl (fun ls hl => ?_)
            refine lv_iload hC.1 hC.2.1 dX9_guestLine_123 (lv_at hl 0 rfl) ?_
            refine lv_iconst (v := (-1)) hC.1 hC.2.1 dX9_guestLine_125 (by decide) ?_
            refine lv_icmp_ne (tgt := 131) hC.1 hC.2.1 dX9_guestLine_126 (by decide) (fun hc_20 => ?_) (fun hc_20 => ?_)
            · have hf := ite_f hf hc_20
              refine lv_aload_n hC.1 hC.2.1 dX9_guestLine_131 rfl (lv_at hl 5 rfl) ?_
              refine lv_lload_n hC.1 hC.2.1 dX9_guestLine_132 rfl (lv_at hl 3 rfl) ?_
              refine lv_iload hC.1 hC.2.1 dX9_guestLine_133 (lv_at hl 2 rfl) ?_
              refine lv_iload hC.1 hC.2.1 dX9_guestLine_135 (lv_at hl 1 rfl) ?_
              refine lv_iload hC.1 hC.2.1 dX9_guestLine_137 (lv_at hl 0 rfl) ?_
              obtain ⟨r_21, hg_22, hf⟩ := bd_of hf
              refine g_callvV (w' := w9 cy aR aG aT SR ++ (w3 cy aG aT aC (.ref (aI 0)) (r_17.2.1) ++ (w10 cy aT (r_17.2.2) ++ (w4 cy aI r_21)))) hC hW (c4_addGuest l D cy ad aI hg_22) (cwV 4 hC.2.2.2.2.1 gX9_guestLine_X4_addGuest rfl rfl rfl hdV4_addGuest ⟨Nat.le_of_ble_eq_true rfl, Nat.le_of_ble_eq_true rfl⟩) (⟨[7, 8, 9, 10, 11, 12, 13, 14, 15, 16, 17, 18], [0, 1, 2, 3, 4, 5, 6], [0, 1, 2, 3, 4, 5, 6, 7, 8, 9, 10, 11, 12, 13, 14, 15, 16, 17, 18], w9 cy aR aG aT SR ++ (w3 cy aG aT aC (.ref (aI 0)) (r_17.2.1) ++ (w10 cy aT (r_17.2.2))), rfl, rfl, rfl, rfl, by decide, rfl, rfl⟩) 0 4 rfl rfl rfl rfl hl.1 rfl (Nat.le_of_ble_eq_true rfl) dX9_guestLine_139 ⟨Nat.zero_le _, Nat.zero_le _⟩ (fun H locs hW => ?_)
              refine lv_aload_n hC.1 hC.2.1 dX9_guestLine_142 rfl (lv_at hl 4 rfl) ?_
              refine g_get hC hW hin9_guestLine_9 0 rfl rfl 0 (by decide) 2 rfl rfl dX9_guestLine_143 ?_
              refine lv_bipush (v := 59) hC.1 hC.2.1 dX9_guestLine_146 (by decide) ?_
              obtain ⟨r_23, hg_24, hf⟩ := bd_of hf
              refine g_calliV (w' := w9 cy aR aG aT SR ++ (w3 cy aG aT aC (.ref (aI 0)) (r_23.2.1) ++ (w10 cy aT (r_23.2.2) ++ (w4 cy aI r_21)))) hC hW (c3_take l D cy ad aG aT aC aI hg_24) (cwV 1 hC.2.2.2.2.1 gX9_guestLine_X3_take rfl rfl rfl hdV3_take ⟨Nat.le_of_ble_eq_true rfl, Nat.le_of_ble_eq_true rfl⟩) (⟨[3, 4, 5, 6], [0, 1, 2, 7, 8, 9, 10, 11, 12, 13, 14, 15, 16, 17, 18], [0, 1, 2, 15, 16, 17, 18, 3, 4, 5, 6, 7, 8, 9, 10, 11, 12, 13, 14], w9 cy aR aG aT SR ++ (w4 cy aI r_21), rfl, rfl, rfl, rfl, by decide, rfl, rfl⟩) 0 3 rfl rfl rfl rfl hl.1 rfl (Nat.le_of_ble_eq_true rfl) dX9_guestLine_148 ⟨Nat.zero_le _, Nat.zero_le _⟩ (fun H locs hW => ?_)
              obtain ⟨hz, hf⟩ := ck_of hf
              obtain rfl := Option.some.inj hf
              exact g_zret hC hW hz dX9_guestLine_151
            · have hf := ite_t hf hc_20
              refine lv_iconst (v := 0) hC.1 hC.2.1 dX9_guestLine_129 (by decide) ?_
              obtain rfl := Option.some.inj hf
              exact g_zret (v := 0) hC hW (by decide) dX9_guestLine_130
          · have hf := ite_t hf hc_16
            refine lv_iconst (v := 0) hC.1 hC.2.1 dX9_guestLine_111 (by decide) ?_
            obtain rfl := Option.some.inj hf
            exact g_zret (v := 0) hC hW (by decide) dX9_guestLine_112
        · have hf := ite_f hf hc_10
          exact t9_guestLine_79 hC  _ _ _ _ _ _ _ _ hf hW (lv_sub hl [2] rfl)
    · have hf := ite_t hf hc_7
      refine lv_iconst (v := 0) hC.1 hC.2.1 dX9_guestLine_41 (by decide) ?_
      obtain rfl := Option.some.inj hf
      exact g_zret (v := 0) hC hW (by decide) dX9_guestLine_42
  · have hf := ite_f hf hc_1
    refine lv_aload_n hC.1 hC.2.1 dX9_guestLine_9 rfl (lv_at hl 0 rfl) ?_
    refine g_get hC hW hin9_guestLine_9 0 rfl rfl 0 (by decide) 2 rfl rfl dX9_guestLine_10 ?_
    refine lv_iconst (v := 5) hC.1 hC.2.1 dX9_guestLine_13 (by decide) ?_
    obtain ⟨r_25, hg_26, hf⟩ := bd_of hf
    refine g_calliV (w' := w9 cy aR aG aT SR ++ (w3 cy aG aT aC (.ref (aI 0)) (r_25.2) ++ (w10 cy aT ST ++ (w4 cy aI SI)))) hC hW (c3_fail l D cy ad aG aT aC aI hg_26) (cwV 1 hC.2.2.2.2.1 gX9_guestLine_X3_fail rfl rfl rfl hdV3_fail ⟨Nat.le_of_ble_eq_true rfl, Nat.le_of_ble_eq_true rfl⟩) (⟨[3, 4, 5, 6], [0, 1, 2, 7, 8, 9, 10, 11, 12, 13, 14, 15, 16, 17, 18], [0, 1, 2, 15, 16, 17, 18, 3, 4, 5, 6, 7, 8, 9, 10, 11, 12, 13, 14], w9 cy aR aG aT SR ++ (w4 cy aI SI), rfl, rfl, rfl, rfl, by decide, rfl, rfl⟩) 0 3 rfl rfl rfl rfl hl.1 rfl (Nat.le_of_ble_eq_true rfl) dX9_guestLine_14 ⟨Nat.zero_le _, Nat.zero_le _⟩ (fun H locs hW => ?_)
    obtain ⟨hz, hf⟩ := ck_of hf
    obtain rfl := Option.some.inj hf
    exact g_zret hC hW hz dX9_guestLine_17
set_option maxRecDepth 100000 in
set_option maxHeartbeats 4000000 in
theorem c9_guestLine (l : Launch) (D : va_G) (cy : Nat → ClassId) (ad : Nat → Nat) (aR : Nat → Nat) (aG : Nat → Nat) (aT : Nat → Nat) (aC : Nat → Nat) (aI : Nat → Nat) {SR : Ob} {SG : Ob} {ST : Ob} {SI : Ob} {res : Int32 × Ob × Ob × Ob} (h : f9_guestLine SR SG ST SI = some res) : GCi l yX9_guestLine wsX9_guestLine rm9_guestLine [.ref (aR 0), .ref (aI 0)] D cy ad (w9 cy aR aG aT SR ++ (w3 cy aG aT aC (.ref (aI 0)) SG ++ (w10 cy aT ST ++ (w4 cy aI SI)))) (w9 cy aR aG aT SR ++ (w3 cy aG aT aC (.ref (aI 0)) (res.2.1) ++ (w10 cy aT (res.2.2.1) ++ (w4 cy aI (res.2.2.2))))) (res.1) := fun sz => GC.start (own := RX9) (Qc := fun A => QI D cy (w9 cy aR aG aT SR ++ (w3 cy aG aT aC (.ref (aI 0)) (res.2.1) ++ (w10 cy aT (res.2.2.1) ++ (w4 cy aI (res.2.2.2))))) A (res.1)) sz (by decide) rfl rfl (Nat.le_of_ble_eq_true rfl) (fun p e s m below meth c A ls hC hW hl => t9_guestLine_0 hC _ _ _ _ _ _ _ _ h hW (lv_sub hl [0, 1] rfl))
abbrev rm9_signLine : Room := { frames := 45, cells := 0, slots := 0, locals := 1087 }
theorem hdV9_signLine : yX9_signLine.cls = RX9 ∧ (yX9_signLine.cls ≠ "java/lang/invoke/MethodHandle" ∧ yX9_signLine.cls ≠ "java/lang/invoke/VarHandle" ∧ (parseMethodDescriptor yX9_signLine.desc).map (fun d => d.parameters.length) = some 1) := by decide +kernel
theorem hin9_signLine_4 : ∀ x ∈ u_ws RX4 TX4 13, x ∈ wsX9_signLine := fun _ h => List.mem_cons_of_mem _ (List.mem_append_left _ (List.mem_append_left _ (List.mem_append_left _ (List.mem_append_left _ (List.mem_append_right _ h)))))
theorem hin9_signLine_9 : ∀ x ∈ u_ws RX9 TX9 7, x ∈ wsX9_signLine := fun _ h => List.mem_cons_of_mem _ (List.mem_append_left _ (List.mem_append_left _ (List.mem_append_left _ (List.mem_append_right _ h))))
theorem hin9_signLine_10 : ∀ x ∈ u_ws RX10 TX10 8, x ∈ wsX9_signLine := fun _ h => List.mem_cons_of_mem _ (List.mem_append_left _ (List.mem_append_left _ (List.mem_append_right _ h)))
theorem hin9_signLine_3 : ∀ x ∈ u_ws RX3 TX3 4, x ∈ wsX9_signLine := fun _ h => List.mem_cons_of_mem _ (List.mem_append_left _ (List.mem_append_right _ h))
theorem hin9_signLine_2 : ∀ x ∈ u_ws RX2 TX2 5, x ∈ wsX9_signLine := fun _ h => List.mem_cons_of_mem _ (List.mem_append_right _ h)
set_option maxRecDepth 100000 in
set_option maxHeartbeats 4000000 in
theorem t9_signLine_101 (hC : Cx p s m args meth c cX9_signLine 6 wsX9_signLine RX9 (some .boolean)) : ∀ (SR : Ob) (SG : Ob) (ST : Ob) (SC : Ob) (SI : Ob) (res : Int32 × Ob × Ob × Ob × Ob × Ob) (H : Heap) (locs : List Loc) (ls : Array Slot), f9_signLine_101 SR SG ST SC SI = some res → GW D cy ad (w9 cy aR aG aT SR ++ (w3 cy aG aT aC (.ref (aI 0)) SG ++ (w10 cy aT ST ++ (w2 cy aC SC ++ (w4 cy aI SI))))) A s H locs → lv_has ls 6 [] → W p l e rm9_signLine s m args below meth c H locs 0 0 (MQ below (QI D cy (w9 cy aR aG aT (res.2.1) ++ (w3 cy aG aT aC (.ref (aI 0)) (res.2.2.1) ++ (w10 cy aT (res.2.2.2.1) ++ (w2 cy aC (res.2.2.2.2.1) ++ (w4 cy aI (res.2.2.2.2.2)))))) A (res.1)) args s 0 0 A) (F0 m 101 ls []) := by
  intro SR SG ST SC SI res H locs ls hf hW hl
  unfold f9_signLine_101 at hf
  refine lv_iconst (v := 0) hC.1 hC.2.1 dX9_signLine_101 (by decide) ?_
  obtain rfl := Option.some.inj hf
  exact g_zret (v := 0) hC hW (by decide) dX9_signLine_102
set_option maxRecDepth 100000 in
set_option maxHeartbeats 4000000 in
theorem t9_signLine_0 (hC : Cx p s m args meth c cX9_signLine 6 wsX9_signLine RX9 (some .boolean)) : ∀ (SR : Ob) (SG : Ob) (ST : Ob) (SC : Ob) (SI : Ob) (res : Int32 × Ob × Ob × Ob × Ob × Ob) (H : Heap) (locs : List Loc) (ls : Array Slot), f9_signLine SR SG ST SC SI = some res → GW D cy ad (w9 cy aR aG aT SR ++ (w3 cy aG aT aC (.ref (aI 0)) SG ++ (w10 cy aT ST ++ (w2 cy aC SC ++ (w4 cy aI SI))))) A s H locs → lv_has ls 6 [(0, .ref (aR 0)), (1, .ref (aI 0))] → W p l e rm9_signLine s m args below meth c H locs 0 0 (MQ below (QI D cy (w9 cy aR aG aT (res.2.1) ++ (w3 cy aG aT aC (.ref (aI 0)) (res.2.2.1) ++ (w10 cy aT (res.2.2.2.1) ++ (w2 cy aC (res.2.2.2.2.1) ++ (w4 cy aI (res.2.2.2.2.2)))))) A (res.1)) args s 0 0 A) (F0 m 0 ls []) := by
  intro SR SG ST SC SI res H locs ls hf hW hl
  unfold f9_signLine at hf
  refine lv_aload_n hC.1 hC.2.1 dX9_signLine_0 rfl (lv_at hl 1 rfl) ?_
  refine g_get hC hW hin9_signLine_4 11 rfl rfl 8 (by decide) 1 rfl rfl dX9_signLine_1 ?_
  refine lv_topi (fun x2_1 ex2_1 => ?_)
  have hf := lt_nm hf ex2_1
  refine lv_istore_n (lv' := [(2, .int x2_1), (0, .ref (aR 0)), (1, .ref (aI 0))]) hC.1 hC.2.1 dX9_signLine_4 rfl hl (by decide) rfl (fun ls hl => ?_)
  refine lv_iload_n hC.1 hC.2.1 dX9_signLine_5 rfl (lv_at hl 0 rfl) ?_
  refine lv_bipush (v := 6) hC.1 hC.2.1 dX9_signLine_6 (by decide) ?_
  refine lv_icmp_lt (tgt := 20) hC.1 hC.2.1 dX9_signLine_8 (by decide) (fun hc_2 => ?_) (fun hc_2 => ?_)
  · have hf := ite_t hf hc_2
    refine lv_aload_n hC.1 hC.2.1 dX9_signLine_20 rfl (lv_at hl 1 rfl) ?_
    refine g_get hC hW hin9_signLine_9 0 rfl rfl 1 (by decide) 3 rfl rfl dX9_signLine_21 ?_
    obtain ⟨r_3, hg_4, hf⟩ := bd_of hf
    refine g_callvV (w' := w9 cy aR aG aT SR ++ (w3 cy aG aT aC (.ref (aI 0)) SG ++ (w10 cy aT r_3 ++ (w2 cy aC SC ++ (w4 cy aI SI))))) hC hW (c10_advance l D cy ad aT hg_4) (cwV 0 hC.2.2.2.2.1 gX9_signLine_X10_advance rfl rfl rfl hdV10_advance ⟨Nat.le_of_ble_eq_true rfl, Nat.le_of_ble_eq_true rfl⟩) (⟨[4, 5, 6], [0, 1, 2, 3, 7, 8, 9, 10, 11, 12, 13, 14, 15, 16, 17, 18, 19, 20, 21, 22], [0, 1, 2, 3, 20, 21, 22, 4, 5, 6, 7, 8, 9, 10, 11, 12, 13, 14, 15, 16, 17, 18, 19], w9 cy aR aG aT SR ++ (w3 cy aG aT aC (.ref (aI 0)) SG ++ (w2 cy aC SC ++ (w4 cy aI SI))), rfl, rfl, rfl, rfl, by decide, rfl, rfl⟩) 0 9 rfl rfl rfl rfl hl.1 rfl (Nat.le_of_ble_eq_true rfl) dX9_signLine_24 ⟨Nat.zero_le _, Nat.zero_le _⟩ (fun H locs hW => ?_)
    refine lv_aload_n hC.1 hC.2.1 dX9_signLine_27 rfl (lv_at hl 1 rfl) ?_
    refine g_get hC hW hin9_signLine_9 0 rfl rfl 1 (by decide) 3 rfl rfl dX9_signLine_28 ?_
    refine g_get hC hW hin9_signLine_10 4 rfl rfl 6 (by decide) 4 rfl rfl dX9_signLine_31 ?_
    refine lv_topl (fun x3_5 ex3_5 => ?_)
    have hf := lt_nm hf ex3_5
    refine lv_lstore_n (lv' := [(3, .long x3_5), (2, .int x2_1), (0, .ref (aR 0)), (1, .ref (aI 0))]) hC.1 hC.2.1 dX9_signLine_34 rfl hl (by decide) rfl (fun ls hl => ?_)
    refine lv_aload_n hC.1 hC.2.1 dX9_signLine_35 rfl (lv_at hl 2 rfl) ?_
    refine lv_aload_n hC.1 hC.2.1 dX9_signLine_36 rfl (lv_at hl 3 rfl) ?_
    obtain ⟨r_6, hg_7, hf⟩ := bd_of hf
    refine g_calliV (w' := w9 cy aR aG aT SR ++ (w3 cy aG aT aC (.ref (aI 0)) (r_6.2.1) ++ (w10 cy aT (r_6.2.2) ++ (w2 cy aC SC ++ (w4 cy aI SI))))) hC hW (c9_newName l D cy ad aR aG aT aC aI hg_7) (cwV 1 hC.2.2.2.2.1 gX9_signLine_X9_newName rfl rfl rfl hdV9_newName ⟨Nat.le_of_ble_eq_true rfl, Nat.le_of_ble_eq_true rfl⟩) (⟨[0, 1, 2, 3, 4, 5, 6, 11, 12, 13, 14, 15, 16, 17, 18, 19, 20, 21, 22], [7, 8, 9, 10], [4, 5, 6, 7, 8, 9, 10, 0, 1, 2, 3, 11, 12, 13, 14, 15, 16, 17, 18, 19, 20, 21, 22], w2 cy aC SC, rfl, rfl, rfl, rfl, by decide, rfl, rfl⟩) 0 8 rfl rfl rfl rfl hl.1 rfl (Nat.le_of_ble_eq_true rfl) dX9_signLine_37 ⟨Nat.zero_le _, Nat.zero_le _⟩ (fun H locs hW => ?_)
    refine lv_if_ne (tgt := 45) hC.1 hC.2.1 dX9_signLine_40 (by decide) (fun hc_8 => ?_) (fun hc_8 => ?_)
    · have hf := ite_f hf hc_8
      refine lv_aload_n hC.1 hC.2.1 dX9_signLine_45 rfl (lv_at hl 2 rfl) ?_
      refine lv_iconst (v := 4) hC.1 hC.2.1 dX9_signLine_46 (by decide) ?_
      refine lv_iconst (v := 0) hC.1 hC.2.1 dX9_signLine_47 (by decide) ?_
      refine lv_bipush (v := 10) hC.1 hC.2.1 dX9_signLine_48 (by decide) ?_
      obtain ⟨r_9, hg_10, hf⟩ := bd_of hf
      refine g_calliV (w' := w9 cy aR aG aT SR ++ (w3 cy aG aT aC (.ref (aI 0)) (r_9.2.1) ++ (w10 cy aT (r_9.2.2) ++ (w2 cy aC SC ++ (w4 cy aI SI))))) hC hW (c9_numberBehind l D cy ad aR aG aT aC aI hg_10) (cwV 3 hC.2.2.2.2.1 gX9_signLine_X9_numberBehind rfl rfl rfl hdV9_numberBehind ⟨Nat.le_of_ble_eq_true rfl, Nat.le_of_ble_eq_true rfl⟩) (⟨[0, 1, 2, 3, 4, 5, 6], [7, 8, 9, 10, 11, 12, 13, 14, 15, 16, 17, 18, 19, 20, 21, 22], [16, 17, 18, 19, 20, 21, 22, 0, 1, 2, 3, 4, 5, 6, 7, 8, 9, 10, 11, 12, 13, 14, 15], w2 cy aC SC ++ (w4 cy aI SI), rfl, rfl, rfl, rfl, by decide, rfl, rfl⟩) 0 8 rfl rfl rfl rfl hl.1 rfl (Nat.le_of_ble_eq_true rfl) dX9_signLine_50 ⟨Nat.zero_le _, Nat.zero_le _⟩ (fun H locs hW => ?_)
      refine lv_topi (fun x5_11 ex5_11 => ?_)
      have hf := lt_nm hf ex5_11
      refine lv_istore (lv' := [(5, .int x5_11), (3, .long x3_5), (2, .int x2_1), (0, .ref (aR 0)), (1, .ref (aI 0))]) hC.1 hC.2.1 dX9_signLine_53 hl (by decide) rfl (fun ls hl => ?_)
      refine lv_iload hC.1 hC.2.1 dX9_signLine_55 (lv_at hl 0 rfl) ?_
      refine lv_iconst (v := (-1)) hC.1 hC.2.1 dX9_signLine_57 (by decide) ?_
      refine lv_icmp_ne (tgt := 63) hC.1 hC.2.1 dX9_signLine_58 (by decide) (fun hc_12 => ?_) (fun hc_12 => ?_)
      · have hf := ite_f hf hc_12
        refine lv_aload_n hC.1 hC.2.1 dX9_signLine_63 rfl (lv_at hl 3 rfl) ?_
        refine g_get hC hW hin9_signLine_9 0 rfl rfl 2 (by decide) 5 rfl rfl dX9_signLine_64 ?_
        refine lv_iload_n hC.1 hC.2.1 dX9_signLine_67 rfl (lv_at hl 2 rfl) ?_
        refine lv_aload_n hC.1 hC.2.1 dX9_signLine_68 rfl (lv_at hl 3 rfl) ?_
        refine g_get hC hW hin9_signLine_9 0 rfl rfl 0 (by decide) 2 rfl rfl dX9_signLine_69 ?_
        refine g_get hC hW hin9_signLine_3 3 rfl rfl 1 (by decide) 6 rfl rfl dX9_signLine_72 ?_
        refine g_get hC hW hin9_signLine_2 7 rfl rfl 3 (by decide) 7 rfl rfl dX9_signLine_75 ?_
        obtain ⟨hi_13, hf⟩ := ck_of hf
        obtain ⟨SR_14, eSR_14⟩ : ∃ y : Ob, y = oA SR 2 (Int32.toNatClampNeg x2_1) (SC.1 3) := ⟨_, rfl⟩
        have hf := lt_nm hf eSR_14
        refine g_iast hC hW 1 rfl hi_13 (w' := w9 cy aR aG aT SR_14 ++ (w3 cy aG aT aC (.ref (aI 0)) (r_9.2.1) ++ (w10 cy aT (r_9.2.2) ++ (w2 cy aC SC ++ (w4 cy aI SI))))) (by rw [eSR_14]; rfl) dX9_signLine_78 (fun H locs hW => ?_)
        refine lv_aload_n hC.1 hC.2.1 dX9_signLine_79 rfl (lv_at hl 3 rfl) ?_
        refine g_get hC hW hin9_signLine_9 0 rfl rfl 0 (by decide) 2 rfl rfl dX9_signLine_80 ?_
        refine lv_iconst (v := 5) hC.1 hC.2.1 dX9_signLine_83 (by decide) ?_
        obtain ⟨r_15, hg_16, hf⟩ := bd_of hf
        refine g_calliV (w' := w9 cy aR aG aT SR_14 ++ (w3 cy aG aT aC (.ref (aI 0)) (r_15.2.1) ++ (w10 cy aT (r_15.2.2) ++ (w2 cy aC SC ++ (w4 cy aI SI))))) hC hW (c3_take l D cy ad aG aT aC aI hg_16) (cwV 1 hC.2.2.2.2.1 gX9_signLine_X3_take rfl rfl rfl hdV3_take ⟨Nat.le_of_ble_eq_true rfl, Nat.le_of_ble_eq_true rfl⟩) (⟨[3, 4, 5, 6], [0, 1, 2, 7, 8, 9, 10, 11, 12, 13, 14, 15, 16, 17, 18, 19, 20, 21, 22], [0, 1, 2, 19, 20, 21, 22, 3, 4, 5, 6, 7, 8, 9, 10, 11, 12, 13, 14, 15, 16, 17, 18], w9 cy aR aG aT SR_14 ++ (w2 cy aC SC ++ (w4 cy aI SI)), rfl, rfl, rfl, rfl, by decide, rfl, rfl⟩) 0 3 rfl rfl rfl rfl hl.1 rfl (Nat.le_of_ble_eq_true rfl) dX9_signLine_84 ⟨Nat.zero_le _, Nat.zero_le _⟩ (fun H locs hW => ?_)
        refine lv_if_eq (tgt := 101) hC.1 hC.2.1 dX9_signLine_87 (by decide) (fun hc_17 => ?_) (fun hc_17 => ?_)
        · have hf := ite_t hf hc_17
          exact t9_signLine_101 hC  _ _ _ _ _ _ _ _ _ hf hW (lv_sub hl [] rfl)
        · have hf := ite_f hf hc_17
          refine lv_aload_n hC.1 hC.2.1 dX9_signLine_90 rfl (lv_at hl 3 rfl) ?_
          refine g_get hC hW hin9_signLine_9 0 rfl rfl 0 (by decide) 2 rfl rfl dX9_signLine_91 ?_
          refine lv_iconst (v := 0) hC.1 hC.2.1 dX9_signLine_94 (by decide) ?_
          obtain ⟨r_18, hg_19, hf⟩ := bd_of hf
          refine g_calliN (w' := w9 cy aR aG aT SR_14 ++ (w3 cy aG aT aC (.ref (aI 0)) (r_18.2.1) ++ (w10 cy aT (r_18.2.2.1) ++ (w2 cy aC (r_18.2.2.2) ++ (w4 cy aI SI))))) hC hW (c3_formula l D cy ad aG aT aC aI (f3_item DP) DP (c3_item l D cy ad aG aT aC aI DP) hg_19) ⟨va_cnB 1 hC.2.2.2.2.1 gX9_signLine_X3_formula_n127 rfl rfl rfl (hW.2.2.2.2.2.1 _ (List.mem_of_getElem? (i := 0) rfl)) (hC.2.2.2.2.1 _ (List.mem_of_getElem? (i := 12) rfl)) hdV3_formula.2 ⟨Nat.le_of_ble_eq_true rfl, Nat.le_of_ble_eq_true rfl⟩, (hC.2.2.2.2.1 _ (List.mem_of_getElem? (i := 162) rfl)), (hC.2.2.2.2.1 _ (List.mem_of_getElem? (i := 163) rfl))⟩ (⟨[3, 4, 5, 6, 7, 8, 9, 10, 11, 12, 13, 14, 15, 16, 17, 18, 19, 20, 21, 22], [0, 1, 2], [0, 1, 2, 3, 4, 5, 6, 7, 8, 9, 10, 11, 12, 13, 14, 15, 16, 17, 18, 19, 20, 21, 22], w9 cy aR aG aT SR_14, rfl, rfl, rfl, rfl, by decide, rfl, rfl⟩) 0 3 rfl rfl rfl rfl hl.1 rfl (Nat.le_of_ble_eq_true rfl) dX9_signLine_95 ⟨Nat.zero_le _, Nat.zero_le _⟩ (fun H locs hW => ?_)
          refine lv_if_ne (tgt := 103) hC.1 hC.2.1 dX9_signLine_98 (by decide) (fun hc_20 => ?_) (fun hc_20 => ?_)
          · have hf := ite_f hf hc_20
            refine lv_aload_n hC.1 hC.2.1 dX9_signLine_103 rfl (lv_at hl 3 rfl) ?_
            refine g_get hC hW hin9_signLine_9 0 rfl rfl 3 (by decide) 8 rfl rfl dX9_signLine_104 ?_
            refine lv_iload_n hC.1 hC.2.1 dX9_signLine_107 rfl (lv_at hl 2 rfl) ?_
            refine lv_aload_n hC.1 hC.2.1 dX9_signLine_108 rfl (lv_at hl 3 rfl) ?_
            refine g_get hC hW hin9_signLine_9 0 rfl rfl 0 (by decide) 2 rfl rfl dX9_signLine_109 ?_
            refine g_get hC hW hin9_signLine_3 3 rfl rfl 1 (by decide) 6 rfl rfl dX9_signLine_112 ?_
            refine g_get hC hW hin9_signLine_2 7 rfl rfl 3 (by decide) 7 rfl rfl dX9_signLine_115 ?_
            obtain ⟨hi_21, hf⟩ := ck_of hf
            obtain ⟨SR_22, eSR_22⟩ : ∃ y : Ob, y = oA SR_14 3 (Int32.toNatClampNeg x2_1) ((r_18.2.2.2).1 3) := ⟨_, rfl⟩
            have hf := lt_nm hf eSR_22
            refine g_iast hC hW 2 rfl hi_21 (w' := w9 cy aR aG aT SR_22 ++ (w3 cy aG aT aC (.ref (aI 0)) (r_18.2.1) ++ (w10 cy aT (r_18.2.2.1) ++ (w2 cy aC (r_18.2.2.2) ++ (w4 cy aI SI))))) (by rw [eSR_22]; rfl) dX9_signLine_118 (fun H locs hW => ?_)
            refine lv_aload_n hC.1 hC.2.1 dX9_signLine_119 rfl (lv_at hl 4 rfl) ?_
            refine lv_lload_n hC.1 hC.2.1 dX9_signLine_120 rfl (lv_at hl 1 rfl) ?_
            refine lv_iload hC.1 hC.2.1 dX9_signLine_121 (lv_at hl 0 rfl) ?_
            obtain ⟨r_23, hg_24, hf⟩ := bd_of hf
            refine g_callvV (w' := w9 cy aR aG aT SR_22 ++ (w3 cy aG aT aC (.ref (aI 0)) (r_18.2.1) ++ (w10 cy aT (r_18.2.2.1) ++ (w2 cy aC (r_18.2.2.2) ++ (w4 cy aI r_23))))) hC hW (c4_addSign l D cy ad aI hg_24) (cwV 2 hC.2.2.2.2.1 gX9_signLine_X4_addSign rfl rfl rfl hdV4_addSign ⟨Nat.le_of_ble_eq_true rfl, Nat.le_of_ble_eq_true rfl⟩) (⟨[11, 12, 13, 14, 15, 16, 17, 18, 19, 20, 21, 22], [0, 1, 2, 3, 4, 5, 6, 7, 8, 9, 10], [0, 1, 2, 3, 4, 5, 6, 7, 8, 9, 10, 11, 12, 13, 14, 15, 16, 17, 18, 19, 20, 21, 22], w9 cy aR aG aT SR_22 ++ (w3 cy aG aT aC (.ref (aI 0)) (r_18.2.1) ++ (w10 cy aT (r_18.2.2.1) ++ (w2 cy aC (r_18.2.2.2)))), rfl, rfl, rfl, rfl, by decide, rfl, rfl⟩) 0 4 rfl rfl rfl rfl hl.1 rfl (Nat.le_of_ble_eq_true rfl) dX9_signLine_123 ⟨Nat.zero_le _, Nat.zero_le _⟩ (fun H locs hW => ?_)
            refine lv_aload_n hC.1 hC.2.1 dX9_signLine_126 rfl (lv_at hl 3 rfl) ?_
            refine g_get hC hW hin9_signLine_9 0 rfl rfl 0 (by decide) 2 rfl rfl dX9_signLine_127 ?_
            refine lv_bipush (v := 59) hC.1 hC.2.1 dX9_signLine_130 (by decide) ?_
            obtain ⟨r_25, hg_26, hf⟩ := bd_of hf
            refine g_calliV (w' := w9 cy aR aG aT SR_22 ++ (w3 cy aG aT aC (.ref (aI 0)) (r_25.2.1) ++ (w10 cy aT (r_25.2.2) ++ (w2 cy aC (r_18.2.2.2) ++ (w4 cy aI r_23))))) hC hW (c3_take l D cy ad aG aT aC aI hg_26) (cwV 1 hC.2.2.2.2.1 gX9_signLine_X3_take rfl rfl rfl hdV3_take ⟨Nat.le_of_ble_eq_true rfl, Nat.le_of_ble_eq_true rfl⟩) (⟨[3, 4, 5, 6], [0, 1, 2, 7, 8, 9, 10, 11, 12, 13, 14, 15, 16, 17, 18, 19, 20, 21, 22], [0, 1, 2, 19, 20, 21, 22, 3, 4, 5, 6, 7, 8, 9, 10, 11, 12, 13, 14, 15, 16, 17, 18], w9 cy aR aG aT SR_22 ++ (w2 cy aC (r_18.2.2.2) ++ (w4 cy aI r_23)), rfl, rfl, rfl, rfl, by decide, rfl, rfl⟩) 0 3 rfl rfl rfl rfl hl.1 rfl (Nat.le_of_ble_eq_true rfl) dX9_signLine_132 ⟨Nat.zero_le _, Nat.zero_le _⟩ (fun H locs hW => ?_)
            obtain ⟨hz, hf⟩ := ck_of hf
            obtain rfl := Option.some.inj hf
            exact g_zret hC hW hz dX9_signLine_135
          · have hf := ite_t hf hc_20
            exact t9_signLine_101 hC  _ _ _ _ _ _ _ _ _ hf hW (lv_sub hl [] rfl)
      · have hf := ite_t hf hc_12
        refine lv_iconst (v := 0) hC.1 hC.2.1 dX9_signLine_61 (by decide) ?_
        obtain rfl := Option.some.inj hf
        exact g_zret (v := 0) hC hW (by decide) dX9_signLine_62
    · have hf := ite_t hf hc_8
      refine lv_iconst (v := 0) hC.1 hC.2.1 dX9_signLine_43 (by decide) ?_
      obtain rfl := Option.some.inj hf
      exact g_zret (v := 0) hC hW (by decide) dX9_signLine_44
  · have hf := ite_f hf hc_2
    refine lv_aload_n hC.1 hC.2.1 dX9_signLine_11 rfl (lv_at hl 1 rfl) ?_
    refine g_get hC hW hin9_signLine_9 0 rfl rfl 0 (by decide) 2 rfl rfl dX9_signLine_12 ?_
    refine lv_iconst (v := 5) hC.1 hC.2.1 dX9_signLine_15 (by decide) ?_
    obtain ⟨r_27, hg_28, hf⟩ := bd_of hf
    refine g_calliV (w' := w9 cy aR aG aT SR ++ (w3 cy aG aT aC (.ref (aI 0)) (r_27.2) ++ (w10 cy aT ST ++ (w2 cy aC SC ++ (w4 cy aI SI))))) hC hW (c3_fail l D cy ad aG aT aC aI hg_28) (cwV 1 hC.2.2.2.2.1 gX9_signLine_X3_fail rfl rfl rfl hdV3_fail ⟨Nat.le_of_ble_eq_true rfl, Nat.le_of_ble_eq_true rfl⟩) (⟨[3, 4, 5, 6], [0, 1, 2, 7, 8, 9, 10, 11, 12, 13, 14, 15, 16, 17, 18, 19, 20, 21, 22], [0, 1, 2, 19, 20, 21, 22, 3, 4, 5, 6, 7, 8, 9, 10, 11, 12, 13, 14, 15, 16, 17, 18], w9 cy aR aG aT SR ++ (w2 cy aC SC ++ (w4 cy aI SI)), rfl, rfl, rfl, rfl, by decide, rfl, rfl⟩) 0 3 rfl rfl rfl rfl hl.1 rfl (Nat.le_of_ble_eq_true rfl) dX9_signLine_16 ⟨Nat.zero_le _, Nat.zero_le _⟩ (fun H locs hW => ?_)
    obtain ⟨hz, hf⟩ := ck_of hf
    obtain rfl := Option.some.inj hf
    exact g_zret hC hW hz dX9_signLine_19
set_option maxRecDepth 100000 in
set_option maxHeartbeats 4000000 in
theorem c9_signLine (l : Launch) (D : va_G) (cy : Nat → ClassId) (ad : Nat → Nat) (aR : Nat → Nat) (aG : Nat → Nat) (aT : Nat → Nat) (aC : Nat → Nat) (aI : Nat → Nat) {SR : Ob} {SG : Ob} {ST : Ob} {SC : Ob} {SI : Ob} {res : Int32 × Ob × Ob × Ob × Ob × Ob} (h : f9_signLine SR SG ST SC SI = some res) : GCi l yX9_signLine wsX9_signLine rm9_signLine [.ref (aR 0), .ref (aI 0)] D cy ad (w9 cy aR aG aT SR ++ (w3 cy aG aT aC (.ref (aI 0)) SG ++ (w10 cy aT ST ++ (w2 cy aC SC ++ (w4 cy aI SI))))) (w9 cy aR aG aT (res.2.1) ++ (w3 cy aG aT aC (.ref (aI 0)) (res.2.2.1) ++ (w10 cy aT (res.2.2.2.1) ++ (w2 cy aC (res.2.2.2.2.1) ++ (w4 cy aI (res.2.2.2.2.2)))))) (res.1) := fun sz => GC.start (own := RX9) (Qc := fun A => QI D cy (w9 cy aR aG aT (res.2.1) ++ (w3 cy aG aT aC (.ref (aI 0)) (res.2.2.1) ++ (w10 cy aT (res.2.2.2.1) ++ (w2 cy aC (res.2.2.2.2.1) ++ (w4 cy aI (res.2.2.2.2.2)))))) A (res.1)) sz (by decide) rfl rfl (Nat.le_of_ble_eq_true rfl) (fun p e s m below meth c A ls hC hW hl => t9_signLine_0 hC _ _ _ _ _ _ _ _ _ h hW (lv_sub hl [0, 1] rfl))
abbrev rm9_seesLine : Room := { frames := 6, cells := 0, slots := 0, locals := 138 }
theorem hdV9_seesLine : yX9_seesLine.cls = RX9 ∧ (yX9_seesLine.cls ≠ "java/lang/invoke/MethodHandle" ∧ yX9_seesLine.cls ≠ "java/lang/invoke/VarHandle" ∧ (parseMethodDescriptor yX9_seesLine.desc).map (fun d => d.parameters.length) = some 1) := by decide +kernel
theorem hin9_seesLine_9 : ∀ x ∈ u_ws RX9 TX9 7, x ∈ wsX9_seesLine := fun _ h => List.mem_cons_of_mem _ (List.mem_append_left _ (List.mem_append_left _ (List.mem_append_left _ (List.mem_append_right _ h))))
theorem hin9_seesLine_4 : ∀ x ∈ u_ws RX4 TX4 13, x ∈ wsX9_seesLine := fun _ h => List.mem_cons_of_mem _ (List.mem_append_left _ (List.mem_append_left _ (List.mem_append_right _ h)))
theorem hin9_seesLine_10 : ∀ x ∈ u_ws RX10 TX10 8, x ∈ wsX9_seesLine := fun _ h => List.mem_cons_of_mem _ (List.mem_append_left _ (List.mem_append_right _ h))
set_option maxRecDepth 100000 in
set_option maxHeartbeats 4000000 in
theorem t9_seesLine_79 (hC : Cx p s m args meth c cX9_seesLine 6 wsX9_seesLine RX9 (some .boolean)) {k52 : Int32 → Int32 → Int32 → Ob → Ob → Ob → Ob → Option (Int32 × Ob × Ob × Ob)} (hk52 : ∀ (x2 : Int32) (x3 : Int32) (x4 : Int32) (SR : Ob) (SG : Ob) (ST : Ob) (SI : Ob) (res : Int32 × Ob × Ob × Ob) (H : Heap) (locs : List Loc) (ls : Array Slot), k52 x2 x3 x4 SR SG ST SI = some res → GW D cy ad (w9 cy aR aG aT SR ++ (w3 cy aG aT aC (.ref (aI 0)) SG ++ (w10 cy aT ST ++ (w4 cy aI SI)))) A s H locs → lv_has ls 6 [(0, .ref (aR 0)), (1, .ref (aI 0)), (2, .int x2), (3, .int x3), (4, .int x4)] → W p l e rm9_seesLine s m args below meth c H locs 0 0 (MQ below (QI D cy (w9 cy aR aG aT SR ++ (w3 cy aG aT aC (.ref (aI 0)) (res.2.1) ++ (w10 cy aT (res.2.2.1) ++ (w4 cy aI (res.2.2.2))))) A (res.1)) args s 0 0 A) (F0 m 52 ls [])) : ∀ (x2 : Int32) (x3 : Int32) (x4 : Int32) (SR : Ob) (SG : Ob) (ST : Ob) (SI : Ob) (res : Int32 × Ob × Ob × Ob) (H : Heap) (locs : List Loc) (ls : Array Slot), f9_seesLine_79 k52 x2 x3 x4 SR SG ST SI = some res → GW D cy ad (w9 cy aR aG aT SR ++ (w3 cy aG aT aC (.ref (aI 0)) SG ++ (w10 cy aT ST ++ (w4 cy aI SI)))) A s H locs → lv_has ls 6 [(0, .ref (aR 0)), (1, .ref (aI 0)), (2, .int x2), (3, .int x3), (4, .int x4)] → W p l e rm9_seesLine s m args below meth c H locs 0 0 (MQ below (QI D cy (w9 cy aR aG aT SR ++ (w3 cy aG aT aC (.ref (aI 0)) (res.2.1) ++ (w10 cy aT (res.2.2.1) ++ (w4 cy aI (res.2.2.2))))) A (res.1)) args s 0 0 A) (F0 m 79 ls []) := by
  intro x2 x3 x4 SR SG ST SI res H locs ls hf hW hl
  unfold f9_seesLine_79 at hf
  refine lv_aload_n hC.1 hC.2.1 dX9_seesLine_79 rfl (lv_at hl 0 rfl) ?_
  refine g_get hC hW hin9_seesLine_9 0 rfl rfl 0 (by decide) 2 rfl rfl dX9_seesLine_80 ?_
  obtain ⟨r_1, hg_2, hf⟩ := bd_of hf
  refine g_calliV (w' := w9 cy aR aG aT SR ++ (w3 cy aG aT aC (.ref (aI 0)) (r_1.2) ++ (w10 cy aT ST ++ (w4 cy aI SI)))) hC hW (c3_namedSign l D cy ad aG aT aC aI hg_2) (cwV 0 hC.2.2.2.2.1 gX9_seesLine_X3_namedSign rfl rfl rfl hdV3_namedSign ⟨Nat.le_of_ble_eq_true rfl, Nat.le_of_ble_eq_true rfl⟩) (⟨[3, 4, 5, 6, 7, 8, 9, 10, 11, 12, 13, 14, 15, 16, 17, 18], [0, 1, 2], [0, 1, 2, 3, 4, 5, 6, 7, 8, 9, 10, 11, 12, 13, 14, 15, 16, 17, 18], w9 cy aR aG aT SR, rfl, rfl, rfl, rfl, by decide, rfl, rfl⟩) 0 3 rfl rfl rfl rfl hl.1 rfl (Nat.le_of_ble_eq_true rfl) dX9_seesLine_83 ⟨Nat.zero_le _, Nat.zero_le _⟩ (fun H locs hW => ?_)
  refine lv_topi (fun x5_3 ex5_3 => ?_)
  have hf := lt_nm hf ex5_3
  refine lv_istore (lv' := [(5, .int x5_3), (0, .ref (aR 0)), (1, .ref (aI 0)), (2, .int x2), (3, .int x3), (4, .int x4)]) hC.1 hC.2.1 dX9_seesLine_86 hl (by decide) rfl (fun ls hl => ?_)
  refine lv_iload hC.1 hC.2.1 dX9_seesLine_88 (lv_at hl 0 rfl) ?_
  refine lv_iconst (v := (-1)) hC.1 hC.2.1 dX9_seesLine_90 (by decide) ?_
  refine lv_icmp_ne (tgt := 96) hC.1 hC.2.1 dX9_seesLine_91 (by decide) (fun hc_4 => ?_) (fun hc_4 => ?_)
  · have hf := ite_f hf hc_4
    refine lv_iload_n hC.1 hC.2.1 dX9_seesLine_96 rfl (lv_at hl 4 rfl) ?_
    refine lv_iload hC.1 hC.2.1 dX9_seesLine_97 (lv_at hl 0 rfl) ?_
    refine lv_iushr (v := ush x3 x5_3) hC.1 hC.2.1 dX9_seesLine_99 rfl ?_
    refine lv_iconst (v := 1) hC.1 hC.2.1 dX9_seesLine_100 (by decide) ?_
    refine lv_iand hC.1 hC.2.1 dX9_seesLine_101 ?_
    refine lv_iconst (v := 1) hC.1 hC.2.1 dX9_seesLine_102 (by decide) ?_
    refine lv_icmp_ne (tgt := 115) hC.1 hC.2.1 dX9_seesLine_103 (by decide) (fun hc_5 => ?_) (fun hc_5 => ?_)
    · have hf := ite_f hf hc_5
      refine lv_iload_n hC.1 hC.2.1 dX9_seesLine_115 rfl (lv_at hl 4 rfl) ?_
      refine lv_iconst (v := 1) hC.1 hC.2.1 dX9_seesLine_116 (by decide) ?_
      refine lv_iload hC.1 hC.2.1 dX9_seesLine_117 (lv_at hl 0 rfl) ?_
      refine lv_ishl hC.1 hC.2.1 dX9_seesLine_119 ?_
      refine lv_ior hC.1 hC.2.1 dX9_seesLine_120 ?_
      refine lv_topi (fun x3_6 ex3_6 => ?_)
      have hf := lt_nm hf ex3_6
      refine lv_istore_n (lv' := [(3, .int x3_6), (5, .int x5_3), (0, .ref (aR 0)), (1, .ref (aI 0)), (2, .int x2), (4, .int x4)]) hC.1 hC.2.1 dX9_seesLine_121 rfl hl (by decide) rfl (fun ls hl => ?_)
      refine lv_aload_n hC.1 hC.2.1 dX9_seesLine_122 rfl (lv_at hl 2 rfl) ?_
      refine g_get hC hW hin9_seesLine_9 0 rfl rfl 1 (by decide) 1 rfl rfl dX9_seesLine_123 ?_
      obtain ⟨r_7, hg_8, hf⟩ := bd_of hf
      refine g_callvV (w' := w9 cy aR aG aT SR ++ (w3 cy aG aT aC (.ref (aI 0)) (r_1.2) ++ (w10 cy aT r_7 ++ (w4 cy aI SI)))) hC hW (c10_advance l D cy ad aT hg_8) (cwV 0 hC.2.2.2.2.1 gX9_seesLine_X10_advance rfl rfl rfl hdV10_advance ⟨Nat.le_of_ble_eq_true rfl, Nat.le_of_ble_eq_true rfl⟩) (⟨[4, 5, 6], [0, 1, 2, 3, 7, 8, 9, 10, 11, 12, 13, 14, 15, 16, 17, 18], [0, 1, 2, 3, 16, 17, 18, 4, 5, 6, 7, 8, 9, 10, 11, 12, 13, 14, 15], w9 cy aR aG aT SR ++ (w3 cy aG aT aC (.ref (aI 0)) (r_1.2) ++ (w4 cy aI SI)), rfl, rfl, rfl, rfl, by decide, rfl, rfl⟩) 0 9 rfl rfl rfl rfl hl.1 rfl (Nat.le_of_ble_eq_true rfl) dX9_seesLine_126 ⟨Nat.zero_le _, Nat.zero_le _⟩ (fun H locs hW => ?_)
      obtain ⟨x4_9, ex4_9⟩ : ∃ y : Int32, y = x4 + 1 := ⟨_, rfl⟩
      have hf := lt_nm hf ex4_9
      refine lv_iinc (v := x4_9) (lv' := [(4, .int x4_9), (3, .int x3_6), (5, .int x5_3), (0, .ref (aR 0)), (1, .ref (aI 0)), (2, .int x2)]) hC.1 hC.2.1 dX9_seesLine_129 hl (k := 5) rfl (by rw [ex4_9]; rfl) (by decide) rfl (fun ls hl => ?_)
      refine lv_goto (tgt := 52) hC.1 hC.2.1 dX9_seesLine_132 (by decide) ?_
      exact hk52 _ _ _ _ _ _ _ _ _ _ _ hf hW (lv_sub hl [3, 4, 5, 1, 0] rfl)
    · have hf := ite_t hf hc_5
      refine lv_aload_n hC.1 hC.2.1 dX9_seesLine_106 rfl (lv_at hl 1 rfl) ?_
      refine g_get hC hW hin9_seesLine_9 0 rfl rfl 0 (by decide) 2 rfl rfl dX9_seesLine_107 ?_
      refine lv_iconst (v := 3) hC.1 hC.2.1 dX9_seesLine_110 (by decide) ?_
      obtain ⟨r_10, hg_11, hf⟩ := bd_of hf
      refine g_calliV (w' := w9 cy aR aG aT SR ++ (w3 cy aG aT aC (.ref (aI 0)) (r_10.2) ++ (w10 cy aT ST ++ (w4 cy aI SI)))) hC hW (c3_fail l D cy ad aG aT aC aI hg_11) (cwV 1 hC.2.2.2.2.1 gX9_seesLine_X3_fail rfl rfl rfl hdV3_fail ⟨Nat.le_of_ble_eq_true rfl, Nat.le_of_ble_eq_true rfl⟩) (⟨[3, 4, 5, 6], [0, 1, 2, 7, 8, 9, 10, 11, 12, 13, 14, 15, 16, 17, 18], [0, 1, 2, 15, 16, 17, 18, 3, 4, 5, 6, 7, 8, 9, 10, 11, 12, 13, 14], w9 cy aR aG aT SR ++ (w4 cy aI SI), rfl, rfl, rfl, rfl, by decide, rfl, rfl⟩) 0 3 rfl rfl rfl rfl hl.1 rfl (Nat.le_of_ble_eq_true rfl) dX9_seesLine_111 ⟨Nat.zero_le _, Nat.zero_le _⟩ (fun H locs hW => ?_)
      obtain ⟨hz, hf⟩ := ck_of hf
      obtain rfl := Option.some.inj hf
      exact g_zret hC hW hz dX9_seesLine_114
  · have hf := ite_t hf hc_4
    refine lv_iconst (v := 0) hC.1 hC.2.1 dX9_seesLine_94 (by decide) ?_
    obtain rfl := Option.some.inj hf
    exact g_zret (v := 0) hC hW (by decide) dX9_seesLine_95
set_option maxRecDepth 100000 in
set_option maxHeartbeats 4000000 in
theorem t9_seesLine_135 (hC : Cx p s m args meth c cX9_seesLine 6 wsX9_seesLine RX9 (some .boolean)) : ∀ (x2 : Int32) (x3 : Int32) (SR : Ob) (SG : Ob) (ST : Ob) (SI : Ob) (res : Int32 × Ob × Ob × Ob) (H : Heap) (locs : List Loc) (ls : Array Slot), f9_seesLine_135 x2 x3 SR SG ST SI = some res → GW D cy ad (w9 cy aR aG aT SR ++ (w3 cy aG aT aC (.ref (aI 0)) SG ++ (w10 cy aT ST ++ (w4 cy aI SI)))) A s H locs → lv_has ls 6 [(0, .ref (aR 0)), (1, .ref (aI 0)), (2, .int x2), (3, .int x3)] → W p l e rm9_seesLine s m args below meth c H locs 0 0 (MQ below (QI D cy (w9 cy aR aG aT SR ++ (w3 cy aG aT aC (.ref (aI 0)) (res.2.1) ++ (w10 cy aT (res.2.2.1) ++ (w4 cy aI (res.2.2.2))))) A (res.1)) args s 0 0 A) (F0 m 135 ls []) := by
  intro x2 x3 SR SG ST SI res H locs ls hf hW hl
  unfold f9_seesLine_135 at hf
  refine lv_aload_n hC.1 hC.2.1 dX9_seesLine_135 rfl (lv_at hl 1 rfl) ?_
  refine g_get hC hW hin9_seesLine_4 7 rfl rfl 5 (by decide) 3 rfl rfl dX9_seesLine_136 ?_
  refine lv_iload_n hC.1 hC.2.1 dX9_seesLine_139 rfl (lv_at hl 2 rfl) ?_
  refine lv_iload_n hC.1 hC.2.1 dX9_seesLine_140 rfl (lv_at hl 3 rfl) ?_
  obtain ⟨hi_1, hf⟩ := ck_of hf
  obtain ⟨SI_2, eSI_2⟩ : ∃ y : Ob, y = oA SI 5 (Int32.toNatClampNeg x2) x3 := ⟨_, rfl⟩
  have hf := lt_nm hf eSI_2
  refine g_iast hC hW 12 rfl hi_1 (w' := w9 cy aR aG aT SR ++ (w3 cy aG aT aC (.ref (aI 0)) SG ++ (w10 cy aT ST ++ (w4 cy aI SI_2)))) (by rw [eSI_2]; rfl) dX9_seesLine_141 (fun H locs hW => ?_)
  refine lv_aload_n hC.1 hC.2.1 dX9_seesLine_142 rfl (lv_at hl 0 rfl) ?_
  refine g_get hC hW hin9_seesLine_9 0 rfl rfl 0 (by decide) 2 rfl rfl dX9_seesLine_143 ?_
  refine lv_bipush (v := 59) hC.1 hC.2.1 dX9_seesLine_146 (by decide) ?_
  obtain ⟨r_3, hg_4, hf⟩ := bd_of hf
  refine g_calliV (w' := w9 cy aR aG aT SR ++ (w3 cy aG aT aC (.ref (aI 0)) (r_3.2.1) ++ (w10 cy aT (r_3.2.2) ++ (w4 cy aI SI_2)))) hC hW (c3_take l D cy ad aG aT aC aI hg_4) (cwV 1 hC.2.2.2.2.1 gX9_seesLine_X3_take rfl rfl rfl hdV3_take ⟨Nat.le_of_ble_eq_true rfl, Nat.le_of_ble_eq_true rfl⟩) (⟨[3, 4, 5, 6], [0, 1, 2, 7, 8, 9, 10, 11, 12, 13, 14, 15, 16, 17, 18], [0, 1, 2, 15, 16, 17, 18, 3, 4, 5, 6, 7, 8, 9, 10, 11, 12, 13, 14], w9 cy aR aG aT SR ++ (w4 cy aI SI_2), rfl, rfl, rfl, rfl, by decide, rfl, rfl⟩) 0 3 rfl rfl rfl rfl hl.1 rfl (Nat.le_of_ble_eq_true rfl) dX9_seesLine_148 ⟨Nat.zero_le _, Nat.zero_le _⟩ (fun H locs hW => ?_)
  obtain ⟨hz, hf⟩ := ck_of hf
  obtain rfl := Option.some.inj hf
  exact g_zret hC hW hz dX9_seesLine_151
set_option maxRecDepth 100000 in
set_option maxHeartbeats 4000000 in
theorem t9_seesLine_52 (hC : Cx p s m args meth c cX9_seesLine 6 wsX9_seesLine RX9 (some .boolean)) : ∀ n : Nat, ∀ (x2 : Int32) (x3 : Int32) (x4 : Int32) (SR : Ob) (SG : Ob) (ST : Ob) (SI : Ob) (res : Int32 × Ob × Ob × Ob) (H : Heap) (locs : List Loc) (ls : Array Slot), f9_seesLine_52 n x2 x3 x4 SR SG ST SI = some res → GW D cy ad (w9 cy aR aG aT SR ++ (w3 cy aG aT aC (.ref (aI 0)) SG ++ (w10 cy aT ST ++ (w4 cy aI SI)))) A s H locs → lv_has ls 6 [(0, .ref (aR 0)), (1, .ref (aI 0)), (2, .int x2), (3, .int x3), (4, .int x4)] → W p l e rm9_seesLine s m args below meth c H locs 0 0 (MQ below (QI D cy (w9 cy aR aG aT SR ++ (w3 cy aG aT aC (.ref (aI 0)) (res.2.1) ++ (w10 cy aT (res.2.2.1) ++ (w4 cy aI (res.2.2.2))))) A (res.1)) args s 0 0 A) (F0 m 52 ls []) := by
  intro n
  induction n with
  | zero =>
    intro _ _ _ _ _ _ _ _ _ _ _ hf _ _
    exact nomatch (show (none : Option (Int32 × Ob × Ob × Ob)) = some _ from hf)
  | succ n ih =>
    intro x2 x3 x4 SR SG ST SI res H locs ls hf hW hl
    rw [f9_seesLine_52] at hf
    refine lv_iload hC.1 hC.2.1 dX9_seesLine_52 (lv_at hl 4 rfl) ?_
    refine lv_bipush (v := 6) hC.1 hC.2.1 dX9_seesLine_54 (by decide) ?_
    refine lv_icmp_gt (tgt := 135) hC.1 hC.2.1 dX9_seesLine_56 (by decide) (fun hc_1 => ?_) (fun hc_1 => ?_)
    · have hf := ite_t hf hc_1
      exact t9_seesLine_135 hC  _ _ _ _ _ _ _ _ _ _ hf hW (lv_sub hl [0, 1, 2, 3] rfl)
    · have hf := ite_f hf hc_1
      refine lv_iload hC.1 hC.2.1 dX9_seesLine_59 (lv_at hl 4 rfl) ?_
      refine lv_if_le (tgt := 79) hC.1 hC.2.1 dX9_seesLine_61 (by decide) (fun hc_2 => ?_) (fun hc_2 => ?_)
      · have hf := ite_t hf hc_2
        exact t9_seesLine_79 hC ih  _ _ _ _ _ _ _ _ _ _ _ hf hW (lv_sub hl [0, 1, 2, 3, 4] rfl)
      · have hf := ite_f hf hc_2
        refine lv_aload_n hC.1 hC.2.1 dX9_seesLine_64 rfl (lv_at hl 0 rfl) ?_
        refine g_get hC hW hin9_seesLine_9 0 rfl rfl 1 (by decide) 1 rfl rfl dX9_seesLine_65 ?_
        refine g_get hC hW hin9_seesLine_10 4 rfl rfl 3 (by decide) 4 rfl rfl dX9_seesLine_68 ?_
        refine lv_bipush (v := 59) hC.1 hC.2.1 dX9_seesLine_71 (by decide) ?_
        refine lv_icmp_ne (tgt := 79) hC.1 hC.2.1 dX9_seesLine_73 (by decide) (fun hc_3 => ?_) (fun hc_3 => ?_)
        · have hf := ite_f hf hc_3
          exact t9_seesLine_79 hC ih  _ _ _ _ _ _ _ _ _ _ _ hf hW (lv_sub hl [0, 1, 2, 3, 4] rfl)
        · have hf := ite_t hf hc_3
          refine lv_goto (tgt := 135) hC.1 hC.2.1 dX9_seesLine_76 (by decide) ?_
          exact t9_seesLine_135 hC  _ _ _ _ _ _ _ _ _ _ hf hW (lv_sub hl [0, 1, 2, 3] rfl)
set_option maxRecDepth 100000 in
set_option maxHeartbeats 4000000 in
theorem t9_seesLine_0 (hC : Cx p s m args meth c cX9_seesLine 6 wsX9_seesLine RX9 (some .boolean)) : ∀ (SR : Ob) (SG : Ob) (ST : Ob) (SI : Ob) (res : Int32 × Ob × Ob × Ob) (H : Heap) (locs : List Loc) (ls : Array Slot), f9_seesLine SR SG ST SI = some res → GW D cy ad (w9 cy aR aG aT SR ++ (w3 cy aG aT aC (.ref (aI 0)) SG ++ (w10 cy aT ST ++ (w4 cy aI SI)))) A s H locs → lv_has ls 6 [(0, .ref (aR 0)), (1, .ref (aI 0))] → W p l e rm9_seesLine s m args below meth c H locs 0 0 (MQ below (QI D cy (w9 cy aR aG aT SR ++ (w3 cy aG aT aC (.ref (aI 0)) (res.2.1) ++ (w10 cy aT (res.2.2.1) ++ (w4 cy aI (res.2.2.2))))) A (res.1)) args s 0 0 A) (F0 m 0 ls []) := by
  intro SR SG ST SI res H locs ls hf hW hl
  unfold f9_seesLine at hf
  refine lv_aload_n hC.1 hC.2.1 dX9_seesLine_0 rfl (lv_at hl 0 rfl) ?_
  refine g_get hC hW hin9_seesLine_9 0 rfl rfl 1 (by decide) 1 rfl rfl dX9_seesLine_1 ?_
  obtain ⟨r_1, hg_2, hf⟩ := bd_of hf
  refine g_callvV (w' := w9 cy aR aG aT SR ++ (w3 cy aG aT aC (.ref (aI 0)) SG ++ (w10 cy aT r_1 ++ (w4 cy aI SI)))) hC hW (c10_advance l D cy ad aT hg_2) (cwV 0 hC.2.2.2.2.1 gX9_seesLine_X10_advance rfl rfl rfl hdV10_advance ⟨Nat.le_of_ble_eq_true rfl, Nat.le_of_ble_eq_true rfl⟩) (⟨[4, 5, 6], [0, 1, 2, 3, 7, 8, 9, 10, 11, 12, 13, 14, 15, 16, 17, 18], [0, 1, 2, 3, 16, 17, 18, 4, 5, 6, 7, 8, 9, 10, 11, 12, 13, 14, 15], w9 cy aR aG aT SR ++ (w3 cy aG aT aC (.ref (aI 0)) SG ++ (w4 cy aI SI)), rfl, rfl, rfl, rfl, by decide, rfl, rfl⟩) 0 9 rfl rfl rfl rfl hl.1 rfl (Nat.le_of_ble_eq_true rfl) dX9_seesLine_4 ⟨Nat.zero_le _, Nat.zero_le _⟩ (fun H locs hW => ?_)
  refine lv_aload_n hC.1 hC.2.1 dX9_seesLine_7 rfl (lv_at hl 0 rfl) ?_
  refine g_get hC hW hin9_seesLine_9 0 rfl rfl 0 (by decide) 2 rfl rfl dX9_seesLine_8 ?_
  obtain ⟨r_3, hg_4, hf⟩ := bd_of hf
  refine g_calliV (w' := w9 cy aR aG aT SR ++ (w3 cy aG aT aC (.ref (aI 0)) (r_3.2) ++ (w10 cy aT r_1 ++ (w4 cy aI SI)))) hC hW (c3_namedGuest l D cy ad aG aT aC aI hg_4) (cwV 0 hC.2.2.2.2.1 gX9_seesLine_X3_namedGuest rfl rfl rfl hdV3_namedGuest ⟨Nat.le_of_ble_eq_true rfl, Nat.le_of_ble_eq_true rfl⟩) (⟨[3, 4, 5, 6, 7, 8, 9, 10, 11, 12, 13, 14, 15, 16, 17, 18], [0, 1, 2], [0, 1, 2, 3, 4, 5, 6, 7, 8, 9, 10, 11, 12, 13, 14, 15, 16, 17, 18], w9 cy aR aG aT SR, rfl, rfl, rfl, rfl, by decide, rfl, rfl⟩) 0 3 rfl rfl rfl rfl hl.1 rfl (Nat.le_of_ble_eq_true rfl) dX9_seesLine_11 ⟨Nat.zero_le _, Nat.zero_le _⟩ (fun H locs hW => ?_)
  refine lv_topi (fun x2_5 ex2_5 => ?_)
  have hf := lt_nm hf ex2_5
  refine lv_istore_n (lv' := [(2, .int x2_5), (0, .ref (aR 0)), (1, .ref (aI 0))]) hC.1 hC.2.1 dX9_seesLine_14 rfl hl (by decide) rfl (fun ls hl => ?_)
  refine lv_iload_n hC.1 hC.2.1 dX9_seesLine_15 rfl (lv_at hl 0 rfl) ?_
  refine lv_iconst (v := (-1)) hC.1 hC.2.1 dX9_seesLine_16 (by decide) ?_
  refine lv_icmp_ne (tgt := 22) hC.1 hC.2.1 dX9_seesLine_17 (by decide) (fun hc_6 => ?_) (fun hc_6 => ?_)
  · have hf := ite_f hf hc_6
    refine lv_aload_n hC.1 hC.2.1 dX9_seesLine_22 rfl (lv_at hl 2 rfl) ?_
    refine g_get hC hW hin9_seesLine_4 7 rfl rfl 5 (by decide) 3 rfl rfl dX9_seesLine_23 ?_
    refine lv_iload_n hC.1 hC.2.1 dX9_seesLine_26 rfl (lv_at hl 0 rfl) ?_
    obtain ⟨hi_7, hf⟩ := ck_of hf
    refine g_iald hC hW 12 rfl hi_7 dX9_seesLine_27 ?_
    refine lv_if_eq (tgt := 40) hC.1 hC.2.1 dX9_seesLine_28 (by decide) (fun hc_8 => ?_) (fun hc_8 => ?_)
    · have hf := ite_t hf hc_8
      refine lv_aload_n hC.1 hC.2.1 dX9_seesLine_40 rfl (lv_at hl 1 rfl) ?_
      refine g_get hC hW hin9_seesLine_9 0 rfl rfl 1 (by decide) 1 rfl rfl dX9_seesLine_41 ?_
      obtain ⟨r_9, hg_10, hf⟩ := bd_of hf
      refine g_callvV (w' := w9 cy aR aG aT SR ++ (w3 cy aG aT aC (.ref (aI 0)) (r_3.2) ++ (w10 cy aT r_9 ++ (w4 cy aI SI)))) hC hW (c10_advance l D cy ad aT hg_10) (cwV 0 hC.2.2.2.2.1 gX9_seesLine_X10_advance rfl rfl rfl hdV10_advance ⟨Nat.le_of_ble_eq_true rfl, Nat.le_of_ble_eq_true rfl⟩) (⟨[4, 5, 6], [0, 1, 2, 3, 7, 8, 9, 10, 11, 12, 13, 14, 15, 16, 17, 18], [0, 1, 2, 3, 16, 17, 18, 4, 5, 6, 7, 8, 9, 10, 11, 12, 13, 14, 15], w9 cy aR aG aT SR ++ (w3 cy aG aT aC (.ref (aI 0)) (r_3.2) ++ (w4 cy aI SI)), rfl, rfl, rfl, rfl, by decide, rfl, rfl⟩) 0 9 rfl rfl rfl rfl hl.1 rfl (Nat.le_of_ble_eq_true rfl) dX9_seesLine_44 ⟨Nat.zero_le _, Nat.zero_le _⟩ (fun H locs hW => ?_)
      refine lv_iconst (v := 0) hC.1 hC.2.1 dX9_seesLine_47 (by decide) ?_
      refine lv_istore_n (lv' := [(3, .int 0), (2, .int x2_5), (0, .ref (aR 0)), (1, .ref (aI 0))]) hC.1 hC.2.1 dX9_seesLine_48 rfl hl (by decide) rfl (fun ls hl => ?_)
      refine lv_iconst (v := 0) hC.1 hC.2.1 dX9_seesLine_49 (by decide) ?_
      refine lv_istore (lv' := [(4, .int 0), (3, .int 0), (2, .int x2_5), (0, .ref (aR 0)), (1, .ref (aI 0))]) hC.1 hC.2.1 dX9_seesLine_50 hl (by decide) rfl (fun ls hl => ?_)
      exact t9_seesLine_52 hC _ _ _ _ _ _ _ _ _ _ _ _ hf hW (lv_sub hl [3, 4, 2, 1, 0] rfl)
    · have hf := ite_f hf hc_8
      refine lv_aload_n hC.1 hC.2.1 dX9_seesLine_31 rfl (lv_at hl 1 rfl) ?_
      refine g_get hC hW hin9_seesLine_9 0 rfl rfl 0 (by decide) 2 rfl rfl dX9_seesLine_32 ?_
      refine lv_iconst (v := 3) hC.1 hC.2.1 dX9_seesLine_35 (by decide) ?_
      obtain ⟨r_11, hg_12, hf⟩ := bd_of hf
      refine g_calliV (w' := w9 cy aR aG aT SR ++ (w3 cy aG aT aC (.ref (aI 0)) (r_11.2) ++ (w10 cy aT r_1 ++ (w4 cy aI SI)))) hC hW (c3_fail l D cy ad aG aT aC aI hg_12) (cwV 1 hC.2.2.2.2.1 gX9_seesLine_X3_fail rfl rfl rfl hdV3_fail ⟨Nat.le_of_ble_eq_true rfl, Nat.le_of_ble_eq_true rfl⟩) (⟨[3, 4, 5, 6], [0, 1, 2, 7, 8, 9, 10, 11, 12, 13, 14, 15, 16, 17, 18], [0, 1, 2, 15, 16, 17, 18, 3, 4, 5, 6, 7, 8, 9, 10, 11, 12, 13, 14], w9 cy aR aG aT SR ++ (w4 cy aI SI), rfl, rfl, rfl, rfl, by decide, rfl, rfl⟩) 0 3 rfl rfl rfl rfl hl.1 rfl (Nat.le_of_ble_eq_true rfl) dX9_seesLine_36 ⟨Nat.zero_le _, Nat.zero_le _⟩ (fun H locs hW => ?_)
      obtain ⟨hz, hf⟩ := ck_of hf
      obtain rfl := Option.some.inj hf
      exact g_zret hC hW hz dX9_seesLine_39
  · have hf := ite_t hf hc_6
    refine lv_iconst (v := 0) hC.1 hC.2.1 dX9_seesLine_20 (by decide) ?_
    obtain rfl := Option.some.inj hf
    exact g_zret (v := 0) hC hW (by decide) dX9_seesLine_21
set_option maxRecDepth 100000 in
set_option maxHeartbeats 4000000 in
theorem c9_seesLine (l : Launch) (D : va_G) (cy : Nat → ClassId) (ad : Nat → Nat) (aR : Nat → Nat) (aG : Nat → Nat) (aT : Nat → Nat) (aC : Nat → Nat) (aI : Nat → Nat) {SR : Ob} {SG : Ob} {ST : Ob} {SI : Ob} {res : Int32 × Ob × Ob × Ob} (h : f9_seesLine SR SG ST SI = some res) : GCi l yX9_seesLine wsX9_seesLine rm9_seesLine [.ref (aR 0), .ref (aI 0)] D cy ad (w9 cy aR aG aT SR ++ (w3 cy aG aT aC (.ref (aI 0)) SG ++ (w10 cy aT ST ++ (w4 cy aI SI)))) (w9 cy aR aG aT SR ++ (w3 cy aG aT aC (.ref (aI 0)) (res.2.1) ++ (w10 cy aT (res.2.2.1) ++ (w4 cy aI (res.2.2.2))))) (res.1) := fun sz => GC.start (own := RX9) (Qc := fun A => QI D cy (w9 cy aR aG aT SR ++ (w3 cy aG aT aC (.ref (aI 0)) (res.2.1) ++ (w10 cy aT (res.2.2.1) ++ (w4 cy aI (res.2.2.2))))) A (res.1)) sz (by decide) rfl rfl (Nat.le_of_ble_eq_true rfl) (fun p e s m below meth c A ls hC hW hl => t9_seesLine_0 hC _ _ _ _ _ _ _ _ h hW (lv_sub hl [0, 1] rfl))
abbrev rm9_shunLine : Room := { frames := 6, cells := 0, slots := 0, locals := 138 }
theorem hdV9_shunLine : yX9_shunLine.cls = RX9 ∧ (yX9_shunLine.cls ≠ "java/lang/invoke/MethodHandle" ∧ yX9_shunLine.cls ≠ "java/lang/invoke/VarHandle" ∧ (parseMethodDescriptor yX9_shunLine.desc).map (fun d => d.parameters.length) = some 1) := by decide +kernel
theorem hin9_shunLine_9 : ∀ x ∈ u_ws RX9 TX9 7, x ∈ wsX9_shunLine := fun _ h => List.mem_cons_of_mem _ (List.mem_append_left _ (List.mem_append_left _ (List.mem_append_left _ (List.mem_append_right _ h))))
theorem hin9_shunLine_4 : ∀ x ∈ u_ws RX4 TX4 13, x ∈ wsX9_shunLine := fun _ h => List.mem_cons_of_mem _ (List.mem_append_left _ (List.mem_append_left _ (List.mem_append_right _ h)))
set_option maxRecDepth 100000 in
set_option maxHeartbeats 4000000 in
theorem t9_shunLine_63 (hC : Cx p s m args meth c cX9_shunLine 4 wsX9_shunLine RX9 (some .boolean)) : ∀ (SR : Ob) (SG : Ob) (ST : Ob) (SI : Ob) (res : Int32 × Ob × Ob × Ob) (H : Heap) (locs : List Loc) (ls : Array Slot), f9_shunLine_63 SR SG ST SI = some res → GW D cy ad (w9 cy aR aG aT SR ++ (w3 cy aG aT aC (.ref (aI 0)) SG ++ (w10 cy aT ST ++ (w4 cy aI SI)))) A s H locs → lv_has ls 4 [(0, .ref (aR 0))] → W p l e rm9_shunLine s m args below meth c H locs 0 0 (MQ below (QI D cy (w9 cy aR aG aT SR ++ (w3 cy aG aT aC (.ref (aI 0)) (res.2.1) ++ (w10 cy aT (res.2.2.1) ++ (w4 cy aI (res.2.2.2))))) A (res.1)) args s 0 0 A) (F0 m 63 ls []) := by
  intro SR SG ST SI res H locs ls hf hW hl
  unfold f9_shunLine_63 at hf
  refine lv_aload_n hC.1 hC.2.1 dX9_shunLine_63 rfl (lv_at hl 0 rfl) ?_
  refine g_get hC hW hin9_shunLine_9 0 rfl rfl 0 (by decide) 2 rfl rfl dX9_shunLine_64 ?_
  refine lv_iconst (v := 3) hC.1 hC.2.1 dX9_shunLine_67 (by decide) ?_
  obtain ⟨r_1, hg_2, hf⟩ := bd_of hf
  refine g_calliV (w' := w9 cy aR aG aT SR ++ (w3 cy aG aT aC (.ref (aI 0)) (r_1.2) ++ (w10 cy aT ST ++ (w4 cy aI SI)))) hC hW (c3_fail l D cy ad aG aT aC aI hg_2) (cwV 1 hC.2.2.2.2.1 gX9_shunLine_X3_fail rfl rfl rfl hdV3_fail ⟨Nat.le_of_ble_eq_true rfl, Nat.le_of_ble_eq_true rfl⟩) (⟨[3, 4, 5, 6], [0, 1, 2, 7, 8, 9, 10, 11, 12, 13, 14, 15, 16, 17, 18], [0, 1, 2, 15, 16, 17, 18, 3, 4, 5, 6, 7, 8, 9, 10, 11, 12, 13, 14], w9 cy aR aG aT SR ++ (w4 cy aI SI), rfl, rfl, rfl, rfl, by decide, rfl, rfl⟩) 0 3 rfl rfl rfl rfl hl.1 rfl (Nat.le_of_ble_eq_true rfl) dX9_shunLine_68 ⟨Nat.zero_le _, Nat.zero_le _⟩ (fun H locs hW => ?_)
  obtain ⟨hz, hf⟩ := ck_of hf
  obtain rfl := Option.some.inj hf
  exact g_zret hC hW hz dX9_shunLine_71
set_option maxRecDepth 100000 in
set_option maxHeartbeats 4000000 in
theorem t9_shunLine_0 (hC : Cx p s m args meth c cX9_shunLine 4 wsX9_shunLine RX9 (some .boolean)) : ∀ (SR : Ob) (SG : Ob) (ST : Ob) (SI : Ob) (res : Int32 × Ob × Ob × Ob) (H : Heap) (locs : List Loc) (ls : Array Slot), f9_shunLine SR SG ST SI = some res → GW D cy ad (w9 cy aR aG aT SR ++ (w3 cy aG aT aC (.ref (aI 0)) SG ++ (w10 cy aT ST ++ (w4 cy aI SI)))) A s H locs → lv_has ls 4 [(0, .ref (aR 0)), (1, .ref (aI 0))] → W p l e rm9_shunLine s m args below meth c H locs 0 0 (MQ below (QI D cy (w9 cy aR aG aT SR ++ (w3 cy aG aT aC (.ref (aI 0)) (res.2.1) ++ (w10 cy aT (res.2.2.1) ++ (w4 cy aI (res.2.2.2))))) A (res.1)) args s 0 0 A) (F0 m 0 ls []) := by
  intro SR SG ST SI res H locs ls hf hW hl
  unfold f9_shunLine at hf
  refine lv_aload_n hC.1 hC.2.1 dX9_shunLine_0 rfl (lv_at hl 0 rfl) ?_
  refine g_get hC hW hin9_shunLine_9 0 rfl rfl 1 (by decide) 1 rfl rfl dX9_shunLine_1 ?_
  obtain ⟨r_1, hg_2, hf⟩ := bd_of hf
  refine g_callvV (w' := w9 cy aR aG aT SR ++ (w3 cy aG aT aC (.ref (aI 0)) SG ++ (w10 cy aT r_1 ++ (w4 cy aI SI)))) hC hW (c10_advance l D cy ad aT hg_2) (cwV 0 hC.2.2.2.2.1 gX9_shunLine_X10_advance rfl rfl rfl hdV10_advance ⟨Nat.le_of_ble_eq_true rfl, Nat.le_of_ble_eq_true rfl⟩) (⟨[4, 5, 6], [0, 1, 2, 3, 7, 8, 9, 10, 11, 12, 13, 14, 15, 16, 17, 18], [0, 1, 2, 3, 16, 17, 18, 4, 5, 6, 7, 8, 9, 10, 11, 12, 13, 14, 15], w9 cy aR aG aT SR ++ (w3 cy aG aT aC (.ref (aI 0)) SG ++ (w4 cy aI SI)), rfl, rfl, rfl, rfl, by decide, rfl, rfl⟩) 0 9 rfl rfl rfl rfl hl.1 rfl (Nat.le_of_ble_eq_true rfl) dX9_shunLine_4 ⟨Nat.zero_le _, Nat.zero_le _⟩ (fun H locs hW => ?_)
  refine lv_aload_n hC.1 hC.2.1 dX9_shunLine_7 rfl (lv_at hl 0 rfl) ?_
  refine g_get hC hW hin9_shunLine_9 0 rfl rfl 0 (by decide) 2 rfl rfl dX9_shunLine_8 ?_
  obtain ⟨r_3, hg_4, hf⟩ := bd_of hf
  refine g_calliV (w' := w9 cy aR aG aT SR ++ (w3 cy aG aT aC (.ref (aI 0)) (r_3.2) ++ (w10 cy aT r_1 ++ (w4 cy aI SI)))) hC hW (c3_namedGuest l D cy ad aG aT aC aI hg_4) (cwV 0 hC.2.2.2.2.1 gX9_shunLine_X3_namedGuest rfl rfl rfl hdV3_namedGuest ⟨Nat.le_of_ble_eq_true rfl, Nat.le_of_ble_eq_true rfl⟩) (⟨[3, 4, 5, 6, 7, 8, 9, 10, 11, 12, 13, 14, 15, 16, 17, 18], [0, 1, 2], [0, 1, 2, 3, 4, 5, 6, 7, 8, 9, 10, 11, 12, 13, 14, 15, 16, 17, 18], w9 cy aR aG aT SR, rfl, rfl, rfl, rfl, by decide, rfl, rfl⟩) 0 3 rfl rfl rfl rfl hl.1 rfl (Nat.le_of_ble_eq_true rfl) dX9_shunLine_11 ⟨Nat.zero_le _, Nat.zero_le _⟩ (fun H locs hW => ?_)
  refine lv_topi (fun x2_5 ex2_5 => ?_)
  have hf := lt_nm hf ex2_5
  refine lv_istore_n (lv' := [(2, .int x2_5), (0, .ref (aR 0)), (1, .ref (aI 0))]) hC.1 hC.2.1 dX9_shunLine_14 rfl hl (by decide) rfl (fun ls hl => ?_)
  refine lv_iload_n hC.1 hC.2.1 dX9_shunLine_15 rfl (lv_at hl 0 rfl) ?_
  refine lv_iconst (v := (-1)) hC.1 hC.2.1 dX9_shunLine_16 (by decide) ?_
  refine lv_icmp_ne (tgt := 22) hC.1 hC.2.1 dX9_shunLine_17 (by decide) (fun hc_6 => ?_) (fun hc_6 => ?_)
  · have hf := ite_f hf hc_6
    refine lv_aload_n hC.1 hC.2.1 dX9_shunLine_22 rfl (lv_at hl 1 rfl) ?_
    refine g_get hC hW hin9_shunLine_9 0 rfl rfl 1 (by decide) 1 rfl rfl dX9_shunLine_23 ?_
    obtain ⟨r_7, hg_8, hf⟩ := bd_of hf
    refine g_callvV (w' := w9 cy aR aG aT SR ++ (w3 cy aG aT aC (.ref (aI 0)) (r_3.2) ++ (w10 cy aT r_7 ++ (w4 cy aI SI)))) hC hW (c10_advance l D cy ad aT hg_8) (cwV 0 hC.2.2.2.2.1 gX9_shunLine_X10_advance rfl rfl rfl hdV10_advance ⟨Nat.le_of_ble_eq_true rfl, Nat.le_of_ble_eq_true rfl⟩) (⟨[4, 5, 6], [0, 1, 2, 3, 7, 8, 9, 10, 11, 12, 13, 14, 15, 16, 17, 18], [0, 1, 2, 3, 16, 17, 18, 4, 5, 6, 7, 8, 9, 10, 11, 12, 13, 14, 15], w9 cy aR aG aT SR ++ (w3 cy aG aT aC (.ref (aI 0)) (r_3.2) ++ (w4 cy aI SI)), rfl, rfl, rfl, rfl, by decide, rfl, rfl⟩) 0 9 rfl rfl rfl rfl hl.1 rfl (Nat.le_of_ble_eq_true rfl) dX9_shunLine_26 ⟨Nat.zero_le _, Nat.zero_le _⟩ (fun H locs hW => ?_)
    refine lv_aload_n hC.1 hC.2.1 dX9_shunLine_29 rfl (lv_at hl 1 rfl) ?_
    refine g_get hC hW hin9_shunLine_9 0 rfl rfl 0 (by decide) 2 rfl rfl dX9_shunLine_30 ?_
    obtain ⟨r_9, hg_10, hf⟩ := bd_of hf
    refine g_calliV (w' := w9 cy aR aG aT SR ++ (w3 cy aG aT aC (.ref (aI 0)) (r_9.2) ++ (w10 cy aT r_7 ++ (w4 cy aI SI)))) hC hW (c3_namedGuest l D cy ad aG aT aC aI hg_10) (cwV 0 hC.2.2.2.2.1 gX9_shunLine_X3_namedGuest rfl rfl rfl hdV3_namedGuest ⟨Nat.le_of_ble_eq_true rfl, Nat.le_of_ble_eq_true rfl⟩) (⟨[3, 4, 5, 6, 7, 8, 9, 10, 11, 12, 13, 14, 15, 16, 17, 18], [0, 1, 2], [0, 1, 2, 3, 4, 5, 6, 7, 8, 9, 10, 11, 12, 13, 14, 15, 16, 17, 18], w9 cy aR aG aT SR, rfl, rfl, rfl, rfl, by decide, rfl, rfl⟩) 0 3 rfl rfl rfl rfl hl.1 rfl (Nat.le_of_ble_eq_true rfl) dX9_shunLine_33 ⟨Nat.zero_le _, Nat.zero_le _⟩ (fun H locs hW => ?_)
    refine lv_topi (fun x3_11 ex3_11 => ?_)
    have hf := lt_nm hf ex3_11
    refine lv_istore_n (lv' := [(3, .int x3_11), (2, .int x2_5), (0, .ref (aR 0)), (1, .ref (aI 0))]) hC.1 hC.2.1 dX9_shunLine_36 rfl hl (by decide) rfl (fun ls hl => ?_)
    refine lv_iload_n hC.1 hC.2.1 dX9_shunLine_37 rfl (lv_at hl 0 rfl) ?_
    refine lv_iconst (v := (-1)) hC.1 hC.2.1 dX9_shunLine_38 (by decide) ?_
    refine lv_icmp_ne (tgt := 44) hC.1 hC.2.1 dX9_shunLine_39 (by decide) (fun hc_12 => ?_) (fun hc_12 => ?_)
    · have hf := ite_f hf hc_12
      refine lv_iload_n hC.1 hC.2.1 dX9_shunLine_44 rfl (lv_at hl 1 rfl) ?_
      refine lv_iload_n hC.1 hC.2.1 dX9_shunLine_45 rfl (lv_at hl 0 rfl) ?_
      refine lv_icmp_eq (tgt := 63) hC.1 hC.2.1 dX9_shunLine_46 (by decide) (fun hc_13 => ?_) (fun hc_13 => ?_)
      · have hf := ite_t hf hc_13
        exact t9_shunLine_63 hC  _ _ _ _ _ _ _ _ hf hW (lv_sub hl [2] rfl)
      · have hf := ite_f hf hc_13
        refine lv_aload_n hC.1 hC.2.1 dX9_shunLine_49 rfl (lv_at hl 3 rfl) ?_
        refine g_get hC hW hin9_shunLine_4 7 rfl rfl 6 (by decide) 3 rfl rfl dX9_shunLine_50 ?_
        refine lv_iload_n hC.1 hC.2.1 dX9_shunLine_53 rfl (lv_at hl 1 rfl) ?_
        obtain ⟨hi_14, hf⟩ := ck_of hf
        refine g_iald hC hW 13 rfl hi_14 dX9_shunLine_54 ?_
        refine lv_iload_n hC.1 hC.2.1 dX9_shunLine_55 rfl (lv_at hl 0 rfl) ?_
        refine lv_iushr (v := ush (SI.2.2.1 6 (Int32.toNatClampNeg x2_5)) x3_11) hC.1 hC.2.1 dX9_shunLine_56 rfl ?_
        refine lv_iconst (v := 1) hC.1 hC.2.1 dX9_shunLine_57 (by decide) ?_
        refine lv_iand hC.1 hC.2.1 dX9_shunLine_58 ?_
        refine lv_iconst (v := 1) hC.1 hC.2.1 dX9_shunLine_59 (by decide) ?_
        refine lv_icmp_ne (tgt := 72) hC.1 hC.2.1 dX9_shunLine_60 (by decide) (fun hc_15 => ?_) (fun hc_15 => ?_)
        · have hf := ite_f hf hc_15
          refine lv_aload_n hC.1 hC.2.1 dX9_shunLine_72 rfl (lv_at hl 3 rfl) ?_
          refine g_get hC hW hin9_shunLine_4 7 rfl rfl 6 (by decide) 3 rfl rfl dX9_shunLine_73 ?_
          refine lv_iload_n hC.1 hC.2.1 dX9_shunLine_76 rfl (lv_at hl 1 rfl) ?_
          refine lv_dup2_11 hC.1 hC.2.1 dX9_shunLine_77 rfl rfl ?_
          obtain ⟨hi_16, hf⟩ := ck_of hf
          refine g_iald hC hW 13 rfl hi_16 dX9_shunLine_78 ?_
          refine lv_iconst (v := 1) hC.1 hC.2.1 dX9_shunLine_79 (by decide) ?_
          refine lv_iload_n hC.1 hC.2.1 dX9_shunLine_80 rfl (lv_at hl 0 rfl) ?_
          refine lv_ishl hC.1 hC.2.1 dX9_shunLine_81 ?_
          refine lv_ior hC.1 hC.2.1 dX9_shunLine_82 ?_
          obtain ⟨hi_17, hf⟩ := ck_of hf
          obtain ⟨SI_18, eSI_18⟩ : ∃ y : Ob, y = oA SI 6 (Int32.toNatClampNeg x2_5) ((SI.2.2.1 6 (Int32.toNatClampNeg x2_5)) ||| (1 <<< (x3_11 &&& 31))) := ⟨_, rfl⟩
          have hf := lt_nm hf eSI_18
          refine g_iast hC hW 13 rfl hi_17 (w' := w9 cy aR aG aT SR ++ (w3 cy aG aT aC (.ref (aI 0)) (r_9.2) ++ (w10 cy aT r_7 ++ (w4 cy aI SI_18)))) (by rw [eSI_18]; rfl) dX9_shunLine_83 (fun H locs hW => ?_)
          refine lv_aload_n hC.1 hC.2.1 dX9_shunLine_84 rfl (lv_at hl 3 rfl) ?_
          refine g_get hC hW hin9_shunLine_4 7 rfl rfl 6 (by decide) 3 rfl rfl dX9_shunLine_85 ?_
          refine lv_iload_n hC.1 hC.2.1 dX9_shunLine_88 rfl (lv_at hl 0 rfl) ?_
          refine lv_dup2_11 hC.1 hC.2.1 dX9_shunLine_89 rfl rfl ?_
          obtain ⟨hi_19, hf⟩ := ck_of hf
          refine g_iald hC hW 13 rfl hi_19 dX9_shunLine_90 ?_
          refine lv_iconst (v := 1) hC.1 hC.2.1 dX9_shunLine_91 (by decide) ?_
          refine lv_iload_n hC.1 hC.2.1 dX9_shunLine_92 rfl (lv_at hl 1 rfl) ?_
          refine lv_ishl hC.1 hC.2.1 dX9_shunLine_93 ?_
          refine lv_ior hC.1 hC.2.1 dX9_shunLine_94 ?_
          obtain ⟨hi_20, hf⟩ := ck_of hf
          obtain ⟨SI_21, eSI_21⟩ : ∃ y : Ob, y = oA SI_18 6 (Int32.toNatClampNeg x3_11) ((SI_18.2.2.1 6 (Int32.toNatClampNeg x3_11)) ||| (1 <<< (x2_5 &&& 31))) := ⟨_, rfl⟩
          have hf := lt_nm hf eSI_21
          refine g_iast hC hW 13 rfl hi_20 (w' := w9 cy aR aG aT SR ++ (w3 cy aG aT aC (.ref (aI 0)) (r_9.2) ++ (w10 cy aT r_7 ++ (w4 cy aI SI_21)))) (by rw [eSI_21]; rfl) dX9_shunLine_95 (fun H locs hW => ?_)
          refine lv_aload_n hC.1 hC.2.1 dX9_shunLine_96 rfl (lv_at hl 2 rfl) ?_
          refine g_get hC hW hin9_shunLine_9 0 rfl rfl 1 (by decide) 1 rfl rfl dX9_shunLine_97 ?_
          obtain ⟨r_22, hg_23, hf⟩ := bd_of hf
          refine g_callvV (w' := w9 cy aR aG aT SR ++ (w3 cy aG aT aC (.ref (aI 0)) (r_9.2) ++ (w10 cy aT r_22 ++ (w4 cy aI SI_21)))) hC hW (c10_advance l D cy ad aT hg_23) (cwV 0 hC.2.2.2.2.1 gX9_shunLine_X10_advance rfl rfl rfl hdV10_advance ⟨Nat.le_of_ble_eq_true rfl, Nat.le_of_ble_eq_true rfl⟩) (⟨[4, 5, 6], [0, 1, 2, 3, 7, 8, 9, 10, 11, 12, 13, 14, 15, 16, 17, 18], [0, 1, 2, 3, 16, 17, 18, 4, 5, 6, 7, 8, 9, 10, 11, 12, 13, 14, 15], w9 cy aR aG aT SR ++ (w3 cy aG aT aC (.ref (aI 0)) (r_9.2) ++ (w4 cy aI SI_21)), rfl, rfl, rfl, rfl, by decide, rfl, rfl⟩) 0 9 rfl rfl rfl rfl hl.1 rfl (Nat.le_of_ble_eq_true rfl) dX9_shunLine_100 ⟨Nat.zero_le _, Nat.zero_le _⟩ (fun H locs hW => ?_)
          refine lv_aload_n hC.1 hC.2.1 dX9_shunLine_103 rfl (lv_at hl 2 rfl) ?_
          refine g_get hC hW hin9_shunLine_9 0 rfl rfl 0 (by decide) 2 rfl rfl dX9_shunLine_104 ?_
          refine lv_bipush (v := 59) hC.1 hC.2.1 dX9_shunLine_107 (by decide) ?_
          obtain ⟨r_24, hg_25, hf⟩ := bd_of hf
          refine g_calliV (w' := w9 cy aR aG aT SR ++ (w3 cy aG aT aC (.ref (aI 0)) (r_24.2.1) ++ (w10 cy aT (r_24.2.2) ++ (w4 cy aI SI_21)))) hC hW (c3_take l D cy ad aG aT aC aI hg_25) (cwV 1 hC.2.2.2.2.1 gX9_shunLine_X3_take rfl rfl rfl hdV3_take ⟨Nat.le_of_ble_eq_true rfl, Nat.le_of_ble_eq_true rfl⟩) (⟨[3, 4, 5, 6], [0, 1, 2, 7, 8, 9, 10, 11, 12, 13, 14, 15, 16, 17, 18], [0, 1, 2, 15, 16, 17, 18, 3, 4, 5, 6, 7, 8, 9, 10, 11, 12, 13, 14], w9 cy aR aG aT SR ++ (w4 cy aI SI_21), rfl, rfl, rfl, rfl, by decide, rfl, rfl⟩) 0 3 rfl rfl rfl rfl hl.1 rfl (Nat.le_of_ble_eq_true rfl) dX9_shunLine_109 ⟨Nat.zero_le _, Nat.zero_le _⟩ (fun H locs hW => ?_)
          obtain ⟨hz, hf⟩ := ck_of hf
          obtain rfl := Option.some.inj hf
          exact g_zret hC hW hz dX9_shunLine_112
        · have hf := ite_t hf hc_15
          exact t9_shunLine_63 hC  _ _ _ _ _ _ _ _ hf hW (lv_sub hl [2] rfl)
    · have hf := ite_t hf hc_12
      refine lv_iconst (v := 0) hC.1 hC.2.1 dX9_shunLine_42 (by decide) ?_
      obtain rfl := Option.some.inj hf
      exact g_zret (v := 0) hC hW (by decide) dX9_shunLine_43
  · have hf := ite_t hf hc_6
    refine lv_iconst (v := 0) hC.1 hC.2.1 dX9_shunLine_20 (by decide) ?_
    obtain rfl := Option.some.inj hf
    exact g_zret (v := 0) hC hW (by decide) dX9_shunLine_21
set_option maxRecDepth 100000 in
set_option maxHeartbeats 4000000 in
theorem c9_shunLine (l : Launch) (D : va_G) (cy : Nat → ClassId) (ad : Nat → Nat) (aR : Nat → Nat) (aG : Nat → Nat) (aT : Nat → Nat) (aC : Nat → Nat) (aI : Nat → Nat) {SR : Ob} {SG : Ob} {ST : Ob} {SI : Ob} {res : Int32 × Ob × Ob × Ob} (h : f9_shunLine SR SG ST SI = some res) : GCi l yX9_shunLine wsX9_shunLine rm9_shunLine [.ref (aR 0), .ref (aI 0)] D cy ad (w9 cy aR aG aT SR ++ (w3 cy aG aT aC (.ref (aI 0)) SG ++ (w10 cy aT ST ++ (w4 cy aI SI)))) (w9 cy aR aG aT SR ++ (w3 cy aG aT aC (.ref (aI 0)) (res.2.1) ++ (w10 cy aT (res.2.2.1) ++ (w4 cy aI (res.2.2.2))))) (res.1) := fun sz => GC.start (own := RX9) (Qc := fun A => QI D cy (w9 cy aR aG aT SR ++ (w3 cy aG aT aC (.ref (aI 0)) (res.2.1) ++ (w10 cy aT (res.2.2.1) ++ (w4 cy aI (res.2.2.2))))) A (res.1)) sz (by decide) rfl rfl (Nat.le_of_ble_eq_true rfl) (fun p e s m below meth c A ls hC hW hl => t9_shunLine_0 hC _ _ _ _ _ _ _ _ h hW (lv_sub hl [0, 1] rfl))
end
