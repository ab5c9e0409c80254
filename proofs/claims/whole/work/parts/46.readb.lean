/-! laid by program: functions, walks and contracts of 9_billLine, 9_innLine, 9_workOut, 9_readInn, 9_morningLine, 9_readMorning -/
set_option maxRecDepth 20000 in
theorem gX9_billLine_X3_fail : GoodIn wsX9_billLine (wsV RX9 87 RX3 yX3_fail wsX3_fail) := goodIn_r _ [8, 9, 10, 11, 12, 13, 14, 15, 171, 172, 173, 174, 180, 181, 182, 183, 184, 185, 186, 187] rfl (by decide +kernel)
set_option maxRecDepth 20000 in
theorem gX9_billLine_X10_advance : GoodIn wsX9_billLine (wsV RX9 94 RX10 yX10_advance wsX10_advance) := goodIn_r _ [16, 17, 18, 19, 20, 21, 22, 23, 24, 25, 26, 27, 28, 19, 29, 30, 31, 32, 33, 34, 35, 36, 37, 38, 39, 40, 41, 42, 43, 44, 45, 46, 47, 48, 49, 50, 51, 52, 53, 54, 55, 56, 57, 58, 59, 60, 61, 62, 63, 64, 65, 66, 67, 68, 69, 70, 71, 72, 73, 74, 75, 76, 77, 78, 79, 80, 81, 82, 83, 84, 85, 86, 87, 88, 89, 90, 91, 92, 93, 94, 95, 96, 97, 98, 99, 100, 101, 102, 103, 104, 105, 106, 107, 108, 109, 110, 111, 112, 113, 114, 115, 116, 117, 118, 119, 120, 121, 122, 123, 124, 125, 180, 181, 182, 183, 184, 185, 186, 187] rfl (by decide +kernel)
set_option maxRecDepth 20000 in
theorem gX9_billLine_X3_expression_n150 : GoodIn wsX9_billLine (wsX3_expression) := goodIn_r _ [128, 13, 129, 130, 131, 132, 133, 11, 134, 17, 18, 19, 20, 21, 22, 23, 24, 25, 26, 27, 28, 29, 30, 31, 32, 33, 34, 35, 36, 37, 38, 39, 40, 41, 42, 43, 44, 45, 46, 47, 48, 49, 50, 51, 52, 53, 54, 55, 56, 57, 58, 59, 60, 61, 62, 63, 64, 65, 66, 67, 68, 69, 70, 71, 72, 73, 74, 75, 76, 77, 78, 79, 80, 81, 82, 83, 84, 85, 86, 87, 88, 89, 90, 91, 92, 93, 94, 95, 96, 97, 98, 99, 100, 101, 102, 103, 104, 105, 106, 107, 108, 109, 110, 111, 112, 113, 114, 115, 116, 117, 118, 119, 120, 121, 122, 123, 124, 125, 135, 136, 137, 138, 139, 140, 141, 142, 143, 144, 145, 9, 10, 12, 14, 15, 146, 147, 148, 149, 126, 127, 150, 151, 152, 153, 154, 155, 156, 157, 158, 159, 160, 161, 162, 171, 172, 173, 174, 180, 181, 182, 183, 184, 185, 186, 187, 175, 176, 177, 178, 179] rfl (by decide +kernel)
set_option maxRecDepth 20000 in
theorem gX9_billLine_X3_take : GoodIn wsX9_billLine (wsV RX9 112 RX3 yX3_take wsX3_take) := goodIn_r _ [163, 151, 152, 11, 153, 13, 129, 145, 9, 10, 11, 12, 14, 15, 134, 17, 18, 19, 20, 21, 22, 23, 24, 25, 26, 27, 28, 29, 30, 31, 32, 33, 34, 35, 36, 37, 38, 39, 40, 41, 42, 43, 44, 45, 46, 47, 48, 49, 50, 51, 52, 53, 54, 55, 56, 57, 58, 59, 60, 61, 62, 63, 64, 65, 66, 67, 68, 69, 70, 71, 72, 73, 74, 75, 76, 77, 78, 79, 80, 81, 82, 83, 84, 85, 86, 87, 88, 89, 90, 91, 92, 93, 94, 95, 96, 97, 98, 99, 100, 101, 102, 103, 104, 105, 106, 107, 108, 109, 110, 111, 112, 113, 114, 115, 116, 117, 118, 119, 120, 121, 122, 123, 124, 125, 171, 172, 173, 174, 180, 181, 182, 183, 184, 185, 186, 187] rfl (by decide +kernel)
theorem dX9_billLine_0 : decode cX9_billLine 0 = .ok (.aload_n 0, 1) := by decide +kernel
theorem dX9_billLine_1 : decode cX9_billLine 1 = .ok (.getfield 35, 3) := by decide +kernel
theorem dX9_billLine_4 : decode cX9_billLine 4 = .ok (.ifCond .eq 12, 3) := by decide +kernel
theorem dX9_billLine_7 : decode cX9_billLine 7 = .ok (.aload_n 0, 1) := by decide +kernel
theorem dX9_billLine_8 : decode cX9_billLine 8 = .ok (.getfield 12, 3) := by decide +kernel
theorem dX9_billLine_11 : decode cX9_billLine 11 = .ok (.iconst 3, 1) := by decide +kernel
theorem dX9_billLine_12 : decode cX9_billLine 12 = .ok (.invokevirtual 87, 3) := by decide +kernel
theorem dX9_billLine_15 : decode cX9_billLine 15 = .ok (.ireturn, 1) := by decide +kernel
theorem dX9_billLine_16 : decode cX9_billLine 16 = .ok (.aload_n 0, 1) := by decide +kernel
theorem dX9_billLine_17 : decode cX9_billLine 17 = .ok (.iconst 1, 1) := by decide +kernel
theorem dX9_billLine_18 : decode cX9_billLine 18 = .ok (.putfield 35, 3) := by decide +kernel
theorem dX9_billLine_21 : decode cX9_billLine 21 = .ok (.aload_n 0, 1) := by decide +kernel
theorem dX9_billLine_22 : decode cX9_billLine 22 = .ok (.getfield 22, 3) := by decide +kernel
theorem dX9_billLine_25 : decode cX9_billLine 25 = .ok (.invokevirtual 94, 3) := by decide +kernel
theorem dX9_billLine_28 : decode cX9_billLine 28 = .ok (.aload_n 0, 1) := by decide +kernel
theorem dX9_billLine_29 : decode cX9_billLine 29 = .ok (.aload_n 0, 1) := by decide +kernel
theorem dX9_billLine_30 : decode cX9_billLine 30 = .ok (.getfield 12, 3) := by decide +kernel
theorem dX9_billLine_33 : decode cX9_billLine 33 = .ok (.getfield 118, 3) := by decide +kernel
theorem dX9_billLine_36 : decode cX9_billLine 36 = .ok (.getfield 122, 3) := by decide +kernel
theorem dX9_billLine_39 : decode cX9_billLine 39 = .ok (.putfield 147, 3) := by decide +kernel
theorem dX9_billLine_42 : decode cX9_billLine 42 = .ok (.aload_n 0, 1) := by decide +kernel
theorem dX9_billLine_43 : decode cX9_billLine 43 = .ok (.getfield 12, 3) := by decide +kernel
theorem dX9_billLine_46 : decode cX9_billLine 46 = .ok (.iconst 0, 1) := by decide +kernel
theorem dX9_billLine_47 : decode cX9_billLine 47 = .ok (.invokevirtual 150, 3) := by decide +kernel
theorem dX9_billLine_50 : decode cX9_billLine 50 = .ok (.ifCond .ne 5, 3) := by decide +kernel
theorem dX9_billLine_53 : decode cX9_billLine 53 = .ok (.iconst 0, 1) := by decide +kernel
theorem dX9_billLine_54 : decode cX9_billLine 54 = .ok (.ireturn, 1) := by decide +kernel
theorem dX9_billLine_55 : decode cX9_billLine 55 = .ok (.aload_n 0, 1) := by decide +kernel
theorem dX9_billLine_56 : decode cX9_billLine 56 = .ok (.aload_n 0, 1) := by decide +kernel
theorem dX9_billLine_57 : decode cX9_billLine 57 = .ok (.getfield 12, 3) := by decide +kernel
theorem dX9_billLine_60 : decode cX9_billLine 60 = .ok (.getfield 118, 3) := by decide +kernel
theorem dX9_billLine_63 : decode cX9_billLine 63 = .ok (.getfield 122, 3) := by decide +kernel
theorem dX9_billLine_66 : decode cX9_billLine 66 = .ok (.putfield 153, 3) := by decide +kernel
theorem dX9_billLine_69 : decode cX9_billLine 69 = .ok (.aload_n 0, 1) := by decide +kernel
theorem dX9_billLine_70 : decode cX9_billLine 70 = .ok (.getfield 12, 3) := by decide +kernel
theorem dX9_billLine_73 : decode cX9_billLine 73 = .ok (.bipush 59, 2) := by decide +kernel
theorem dX9_billLine_75 : decode cX9_billLine 75 = .ok (.invokevirtual 112, 3) := by decide +kernel
theorem dX9_billLine_78 : decode cX9_billLine 78 = .ok (.ireturn, 1) := by decide +kernel
set_option maxRecDepth 20000 in
theorem gX9_innLine_X9_guestLine : GoodIn wsX9_innLine (wsV RX9 71 RX9 yX9_guestLine wsX9_guestLine) := goodIn_r _ [4, 5, 6, 7, 8, 9, 3, 1, 10, 2, 11, 12, 13, 14, 15, 16, 17, 18, 19, 20, 21, 22, 23, 24, 25, 26, 27, 28, 29, 30, 31, 32, 33, 34, 35, 36, 37, 38, 39, 40, 41, 42, 43, 44, 45, 46, 47, 48, 49, 50, 51, 52, 53, 54, 55, 56, 57, 58, 59, 60, 61, 62, 63, 64, 65, 66, 67, 68, 69, 70, 71, 72, 73, 74, 75, 76, 77, 78, 79, 80, 81, 82, 83, 84, 85, 86, 87, 88, 89, 90, 91, 92, 93, 94, 95, 96, 97, 98, 99, 100, 101, 102, 103, 104, 105, 106, 107, 108, 109, 110, 111, 112, 113, 114, 115, 116, 117, 118, 119, 120, 121, 122, 123, 124, 125, 126, 127, 128, 129, 130, 131, 7, 132, 133, 134, 135, 136, 137, 138, 139, 140, 141, 142, 143, 144, 145, 146, 147, 148, 149, 150, 151, 152, 153, 154, 155, 156, 157, 158, 159, 160, 161, 162, 163, 164, 165, 166, 167, 168, 169, 170, 278, 279, 280, 281, 282, 283, 284, 285, 286, 287, 288, 289, 290, 263, 264, 265, 266, 267, 268, 269, 270, 271, 272, 273, 274, 275, 276, 277, 291, 292, 293, 294] rfl (by decide +kernel)
set_option maxRecDepth 20000 in
theorem gX9_innLine_X9_signLine : GoodIn wsX9_innLine (wsV RX9 74 RX9 yX9_signLine wsX9_signLine) := goodIn_r _ [171, 172, 173, 7, 174, 175, 3, 1, 10, 176, 177, 178, 179, 11, 12, 13, 14, 15, 16, 17, 18, 19, 20, 21, 22, 23, 24, 25, 26, 27, 28, 29, 30, 31, 32, 33, 34, 35, 36, 37, 38, 39, 40, 41, 42, 43, 44, 45, 46, 47, 48, 49, 50, 51, 52, 53, 54, 55, 56, 57, 58, 59, 60, 61, 62, 63, 64, 65, 66, 67, 68, 69, 70, 71, 72, 73, 74, 75, 76, 77, 78, 79, 80, 81, 82, 83, 84, 85, 86, 87, 88, 89, 90, 91, 92, 93, 94, 95, 96, 97, 98, 99, 100, 101, 102, 103, 104, 105, 106, 107, 108, 109, 110, 111, 112, 113, 114, 115, 116, 117, 118, 119, 120, 121, 122, 123, 124, 125, 126, 127, 128, 129, 130, 131, 7, 132, 133, 134, 135, 136, 137, 138, 139, 140, 141, 142, 143, 144, 145, 146, 147, 148, 149, 150, 151, 152, 153, 154, 2, 155, 156, 157, 158, 159, 160, 161, 180, 181, 182, 183, 184, 185, 186, 187, 188, 189, 190, 191, 192, 193, 194, 195, 196, 197, 198, 199, 200, 201, 202, 203, 204, 205, 206, 207, 208, 209, 210, 211, 212, 278, 279, 280, 281, 282, 283, 284, 285, 286, 287, 288, 289, 290, 263, 264, 265, 266, 267, 268, 269, 270, 271, 272, 273, 274, 275, 276, 277, 291, 292, 293, 294, 295, 296, 297, 298, 299] rfl (by decide +kernel)
set_option maxRecDepth 20000 in
theorem gX9_innLine_X9_seesLine : GoodIn wsX9_innLine (wsV RX9 77 RX9 yX9_seesLine wsX9_seesLine) := goodIn_r _ [213, 214, 215, 7, 216, 1, 3, 217, 2, 19, 20, 21, 22, 23, 24, 25, 26, 27, 28, 29, 30, 31, 32, 33, 34, 35, 36, 37, 38, 39, 40, 41, 42, 43, 44, 45, 46, 47, 48, 49, 50, 51, 52, 53, 54, 55, 56, 57, 58, 59, 60, 61, 62, 63, 64, 65, 66, 67, 68, 69, 70, 71, 72, 73, 74, 75, 76, 77, 78, 79, 80, 81, 82, 83, 84, 85, 86, 87, 88, 89, 90, 91, 92, 93, 94, 95, 96, 97, 98, 99, 100, 101, 102, 103, 104, 105, 106, 107, 108, 109, 110, 111, 112, 113, 114, 115, 116, 117, 118, 119, 120, 121, 122, 123, 124, 125, 126, 127, 128, 218, 219, 220, 14, 221, 196, 16, 197, 199, 138, 139, 140, 141, 142, 143, 222, 223, 224, 225, 198, 134, 135, 136, 160, 12, 13, 15, 17, 18, 11, 226, 227, 228, 229, 200, 145, 146, 147, 148, 149, 155, 156, 157, 158, 159, 161, 263, 264, 265, 266, 267, 268, 269, 278, 279, 280, 281, 282, 283, 284, 285, 286, 287, 288, 289, 290, 270, 271, 272, 273, 274, 275, 276, 277, 291, 292, 293, 294] rfl (by decide +kernel)
set_option maxRecDepth 20000 in
theorem gX9_innLine_X9_shunLine : GoodIn wsX9_innLine (wsV RX9 80 RX9 yX9_shunLine wsX9_shunLine) := goodIn_r _ [230, 231, 232, 7, 233, 1, 3, 234, 19, 20, 21, 22, 23, 24, 25, 26, 27, 28, 29, 30, 31, 32, 33, 34, 35, 36, 37, 38, 39, 40, 41, 42, 43, 44, 45, 46, 47, 48, 49, 50, 51, 52, 53, 54, 55, 56, 57, 58, 59, 60, 61, 62, 63, 64, 65, 66, 67, 68, 69, 70, 71, 72, 73, 74, 75, 76, 77, 78, 79, 80, 81, 82, 83, 84, 85, 86, 87, 88, 89, 90, 91, 92, 93, 94, 95, 96, 97, 98, 99, 100, 101, 102, 103, 104, 105, 106, 107, 108, 109, 110, 111, 112, 113, 114, 115, 116, 117, 118, 119, 120, 121, 122, 123, 124, 125, 126, 127, 128, 218, 219, 220, 14, 221, 196, 16, 197, 199, 138, 139, 140, 141, 142, 143, 222, 223, 224, 225, 198, 134, 135, 136, 160, 12, 13, 15, 17, 18, 11, 155, 156, 157, 158, 159, 161, 263, 264, 265, 266, 267, 268, 269, 278, 279, 280, 281, 282, 283, 284, 285, 286, 287, 288, 289, 290, 270, 271, 272, 273, 274, 275, 276, 277, 291, 292, 293, 294] rfl (by decide +kernel)
set_option maxRecDepth 20000 in
theorem gX9_innLine_X9_billLine : GoodIn wsX9_innLine (wsV RX9 83 RX9 yX9_billLine wsX9_billLine) := goodIn_r _ [235, 236, 237, 7, 238, 239, 3, 1, 177, 178, 240, 241, 11, 12, 13, 14, 15, 16, 17, 18, 19, 20, 21, 22, 23, 24, 25, 26, 27, 28, 29, 30, 31, 32, 33, 34, 35, 36, 37, 38, 39, 40, 41, 42, 43, 44, 45, 46, 47, 48, 49, 50, 51, 52, 53, 54, 55, 56, 57, 58, 59, 60, 61, 62, 63, 64, 65, 66, 67, 68, 69, 70, 71, 72, 73, 74, 75, 76, 77, 78, 79, 80, 81, 82, 83, 84, 85, 86, 87, 88, 89, 90, 91, 92, 93, 94, 95, 96, 97, 98, 99, 100, 101, 102, 103, 104, 105, 106, 107, 108, 109, 110, 111, 112, 113, 114, 115, 116, 117, 118, 119, 120, 121, 122, 123, 124, 125, 126, 127, 128, 242, 243, 244, 159, 183, 245, 246, 247, 161, 187, 188, 189, 190, 191, 192, 193, 194, 248, 249, 160, 250, 251, 252, 253, 205, 156, 157, 158, 254, 255, 256, 257, 258, 259, 260, 261, 262, 155, 263, 264, 265, 266, 267, 268, 269, 291, 292, 293, 294, 295, 296, 297, 298, 299, 270, 271, 272, 273, 274, 275, 276, 277] rfl (by decide +kernel)
set_option maxRecDepth 20000 in
theorem gX9_innLine_X3_fail : GoodIn wsX9_innLine (wsV RX9 87 RX3 yX3_fail wsX3_fail) := goodIn_r _ [11, 12, 13, 14, 15, 16, 17, 18, 291, 292, 293, 294, 270, 271, 272, 273, 274, 275, 276, 277] rfl (by decide +kernel)
theorem dX9_innLine_0 : decode cX9_innLine 0 = .ok (.aload_n 0, 1) := by decide +kernel
theorem dX9_innLine_1 : decode cX9_innLine 1 = .ok (.getfield 22, 3) := by decide +kernel
theorem dX9_innLine_4 : decode cX9_innLine 4 = .ok (.getfield 43, 3) := by decide +kernel
theorem dX9_innLine_7 : decode cX9_innLine 7 = .ok (.tableswitch 78 0 8 #[49, 78, 78, 55, 78, 78, 61, 67, 73], 49) := by decide +kernel
theorem dX9_innLine_56 : decode cX9_innLine 56 = .ok (.aload_n 0, 1) := by decide +kernel
theorem dX9_innLine_57 : decode cX9_innLine 57 = .ok (.aload_n 1, 1) := by decide +kernel
theorem dX9_innLine_58 : decode cX9_innLine 58 = .ok (.invokevirtual 71, 3) := by decide +kernel
theorem dX9_innLine_61 : decode cX9_innLine 61 = .ok (.ireturn, 1) := by decide +kernel
theorem dX9_innLine_62 : decode cX9_innLine 62 = .ok (.aload_n 0, 1) := by decide +kernel
theorem dX9_innLine_63 : decode cX9_innLine 63 = .ok (.aload_n 1, 1) := by decide +kernel
theorem dX9_innLine_64 : decode cX9_innLine 64 = .ok (.invokevirtual 74, 3) := by decide +kernel
theorem dX9_innLine_67 : decode cX9_innLine 67 = .ok (.ireturn, 1) := by decide +kernel
theorem dX9_innLine_68 : decode cX9_innLine 68 = .ok (.aload_n 0, 1) := by decide +kernel
theorem dX9_innLine_69 : decode cX9_innLine 69 = .ok (.aload_n 1, 1) := by decide +kernel
theorem dX9_innLine_70 : decode cX9_innLine 70 = .ok (.invokevirtual 77, 3) := by decide +kernel
theorem dX9_innLine_73 : decode cX9_innLine 73 = .ok (.ireturn, 1) := by decide +kernel
theorem dX9_innLine_74 : decode cX9_innLine 74 = .ok (.aload_n 0, 1) := by decide +kernel
theorem dX9_innLine_75 : decode cX9_innLine 75 = .ok (.aload_n 1, 1) := by decide +kernel
theorem dX9_innLine_76 : decode cX9_innLine 76 = .ok (.invokevirtual 80, 3) := by decide +kernel
theorem dX9_innLine_79 : decode cX9_innLine 79 = .ok (.ireturn, 1) := by decide +kernel
theorem dX9_innLine_80 : decode cX9_innLine 80 = .ok (.aload_n 0, 1) := by decide +kernel
theorem dX9_innLine_81 : decode cX9_innLine 81 = .ok (.invokevirtual 83, 3) := by decide +kernel
theorem dX9_innLine_84 : decode cX9_innLine 84 = .ok (.ireturn, 1) := by decide +kernel
theorem dX9_innLine_85 : decode cX9_innLine 85 = .ok (.aload_n 0, 1) := by decide +kernel
theorem dX9_innLine_86 : decode cX9_innLine 86 = .ok (.getfield 12, 3) := by decide +kernel
theorem dX9_innLine_89 : decode cX9_innLine 89 = .ok (.iconst 1, 1) := by decide +kernel
theorem dX9_innLine_90 : decode cX9_innLine 90 = .ok (.invokevirtual 87, 3) := by decide +kernel
theorem dX9_innLine_93 : decode cX9_innLine 93 = .ok (.ireturn, 1) := by decide +kernel
set_option maxRecDepth 20000 in
theorem gX9_workOut_X2_worlds : GoodIn wsX9_workOut (wsV RX9 156 RX2 yX2_worlds wsX2_worlds) := goodIn_r _ [18, 19, 20, 21, 22, 23, 24, 25, 26, 27, 28, 21, 29, 30, 31, 32, 33, 34, 35, 36, 37, 38, 39, 40, 41, 42, 43, 44, 45, 46, 47, 48, 49, 50, 51, 52, 53, 54, 55, 56, 57, 58, 59, 60, 61, 62, 63, 64, 65, 66, 67, 68, 69, 70, 71, 111, 112, 113, 114, 115, 87, 88, 89, 90, 91, 92, 93, 94, 95, 96, 97, 98, 99] rfl (by decide +kernel)
set_option maxRecDepth 20000 in
theorem gX9_workOut_X4_letShow : GoodIn wsX9_workOut (wsV RX9 189 RX4 yX4_letShow wsX4_letShow) := goodIn_r _ [72, 73, 74, 38, 75, 44, 76, 87, 88, 89, 90, 91, 92, 93, 94, 95, 96, 97, 98, 99] rfl (by decide +kernel)
set_option maxRecDepth 20000 in
theorem gX9_workOut_X2_amount : GoodIn wsX9_workOut (wsV RX9 193 RX2 yX2_amount wsX2_amount) := goodIn_r _ [77, 78, 79, 21, 80, 23, 24, 25, 81, 82, 83, 31, 32, 33, 21, 34, 30, 26, 27, 28, 29, 84, 85, 86, 111, 112, 113, 114, 115, 87, 88, 89, 90, 91, 92, 93, 94, 95, 96, 97, 98, 99] rfl (by decide +kernel)
theorem dX9_workOut_0 : decode cX9_workOut 0 = .ok (.iconst 0, 1) := by decide +kernel
theorem dX9_workOut_1 : decode cX9_workOut 1 = .ok (.istore_n 2, 1) := by decide +kernel
theorem dX9_workOut_2 : decode cX9_workOut 2 = .ok (.iload_n 2, 1) := by decide +kernel
theorem dX9_workOut_3 : decode cX9_workOut 3 = .ok (.aload_n 1, 1) := by decide +kernel
theorem dX9_workOut_4 : decode cX9_workOut 4 = .ok (.getfield 115, 3) := by decide +kernel
theorem dX9_workOut_7 : decode cX9_workOut 7 = .ok (.if_icmp .ge 43, 3) := by decide +kernel
theorem dX9_workOut_10 : decode cX9_workOut 10 = .ok (.iload_n 2, 1) := by decide +kernel
theorem dX9_workOut_11 : decode cX9_workOut 11 = .ok (.bipush 6, 2) := by decide +kernel
theorem dX9_workOut_13 : decode cX9_workOut 13 = .ok (.if_icmp .ge 37, 3) := by decide +kernel
theorem dX9_workOut_16 : decode cX9_workOut 16 = .ok (.aload_n 1, 1) := by decide +kernel
theorem dX9_workOut_17 : decode cX9_workOut 17 = .ok (.iload_n 2, 1) := by decide +kernel
theorem dX9_workOut_18 : decode cX9_workOut 18 = .ok (.aload_n 0, 1) := by decide +kernel
theorem dX9_workOut_19 : decode cX9_workOut 19 = .ok (.getfield 12, 3) := by decide +kernel
theorem dX9_workOut_22 : decode cX9_workOut 22 = .ok (.getfield 118, 3) := by decide +kernel
theorem dX9_workOut_25 : decode cX9_workOut 25 = .ok (.aload_n 1, 1) := by decide +kernel
theorem dX9_workOut_26 : decode cX9_workOut 26 = .ok (.aload_n 0, 1) := by decide +kernel
theorem dX9_workOut_27 : decode cX9_workOut 27 = .ok (.getfield 23, 3) := by decide +kernel
theorem dX9_workOut_30 : decode cX9_workOut 30 = .ok (.iload_n 2, 1) := by decide +kernel
theorem dX9_workOut_31 : decode cX9_workOut 31 = .ok (.iaload, 1) := by decide +kernel
theorem dX9_workOut_32 : decode cX9_workOut 32 = .ok (.aload_n 0, 1) := by decide +kernel
theorem dX9_workOut_33 : decode cX9_workOut 33 = .ok (.getfield 27, 3) := by decide +kernel
theorem dX9_workOut_36 : decode cX9_workOut 36 = .ok (.iload_n 2, 1) := by decide +kernel
theorem dX9_workOut_37 : decode cX9_workOut 37 = .ok (.iaload, 1) := by decide +kernel
theorem dX9_workOut_38 : decode cX9_workOut 38 = .ok (.invokevirtual 156, 3) := by decide +kernel
theorem dX9_workOut_41 : decode cX9_workOut 41 = .ok (.invokevirtual 189, 3) := by decide +kernel
theorem dX9_workOut_44 : decode cX9_workOut 44 = .ok (.iinc 2 1, 3) := by decide +kernel
theorem dX9_workOut_47 : decode cX9_workOut 47 = .ok (.goto (-45), 3) := by decide +kernel
theorem dX9_workOut_50 : decode cX9_workOut 50 = .ok (.iconst 0, 1) := by decide +kernel
theorem dX9_workOut_51 : decode cX9_workOut 51 = .ok (.istore_n 2, 1) := by decide +kernel
theorem dX9_workOut_52 : decode cX9_workOut 52 = .ok (.iload_n 2, 1) := by decide +kernel
theorem dX9_workOut_53 : decode cX9_workOut 53 = .ok (.aload_n 1, 1) := by decide +kernel
theorem dX9_workOut_54 : decode cX9_workOut 54 = .ok (.getfield 91, 3) := by decide +kernel
theorem dX9_workOut_57 : decode cX9_workOut 57 = .ok (.if_icmp .ge 57, 3) := by decide +kernel
theorem dX9_workOut_60 : decode cX9_workOut 60 = .ok (.aload_n 0, 1) := by decide +kernel
theorem dX9_workOut_61 : decode cX9_workOut 61 = .ok (.getfield 35, 3) := by decide +kernel
theorem dX9_workOut_64 : decode cX9_workOut 64 = .ok (.ifCond .eq 26, 3) := by decide +kernel
theorem dX9_workOut_67 : decode cX9_workOut 67 = .ok (.aload_n 0, 1) := by decide +kernel
theorem dX9_workOut_68 : decode cX9_workOut 68 = .ok (.getfield 12, 3) := by decide +kernel
theorem dX9_workOut_71 : decode cX9_workOut 71 = .ok (.getfield 118, 3) := by decide +kernel
theorem dX9_workOut_74 : decode cX9_workOut 74 = .ok (.aload_n 1, 1) := by decide +kernel
theorem dX9_workOut_75 : decode cX9_workOut 75 = .ok (.iload_n 2, 1) := by decide +kernel
theorem dX9_workOut_76 : decode cX9_workOut 76 = .ok (.aload_n 0, 1) := by decide +kernel
theorem dX9_workOut_77 : decode cX9_workOut 77 = .ok (.getfield 147, 3) := by decide +kernel
theorem dX9_workOut_80 : decode cX9_workOut 80 = .ok (.aload_n 0, 1) := by decide +kernel
theorem dX9_workOut_81 : decode cX9_workOut 81 = .ok (.getfield 153, 3) := by decide +kernel
theorem dX9_workOut_84 : decode cX9_workOut 84 = .ok (.invokevirtual 193, 3) := by decide +kernel
theorem dX9_workOut_87 : decode cX9_workOut 87 = .ok (.goto 4, 3) := by decide +kernel
theorem dX9_workOut_90 : decode cX9_workOut 90 = .ok (.iconst 1, 1) := by decide +kernel
theorem dX9_workOut_91 : decode cX9_workOut 91 = .ok (.istore_n 3, 1) := by decide +kernel
theorem dX9_workOut_92 : decode cX9_workOut 92 = .ok (.aload_n 1, 1) := by decide +kernel
theorem dX9_workOut_93 : decode cX9_workOut 93 = .ok (.getfield 197, 3) := by decide +kernel
theorem dX9_workOut_96 : decode cX9_workOut 96 = .ok (.iload_n 2, 1) := by decide +kernel
theorem dX9_workOut_97 : decode cX9_workOut 97 = .ok (.iconst 0, 1) := by decide +kernel
theorem dX9_workOut_98 : decode cX9_workOut 98 = .ok (.bipush 99, 2) := by decide +kernel
theorem dX9_workOut_100 : decode cX9_workOut 100 = .ok (.iload_n 3, 1) := by decide +kernel
theorem dX9_workOut_101 : decode cX9_workOut 101 = .ok (.invokestatic 200, 3) := by decide +kernel
theorem dX9_workOut_104 : decode cX9_workOut 104 = .ok (.invokestatic 205, 3) := by decide +kernel
theorem dX9_workOut_107 : decode cX9_workOut 107 = .ok (.iastore, 1) := by decide +kernel
theorem dX9_workOut_108 : decode cX9_workOut 108 = .ok (.iinc 2 1, 3) := by decide +kernel
theorem dX9_workOut_111 : decode cX9_workOut 111 = .ok (.goto (-59), 3) := by decide +kernel
theorem dX9_workOut_114 : decode cX9_workOut 114 = .ok (.return_, 1) := by decide +kernel
set_option maxRecDepth 20000 in
theorem gX9_readInn_X4_clear : GoodIn wsX9_readInn (wsV RX9 30 RX4 yX4_clear wsX4_clear) := goodIn_r _ [7, 8, 9, 10, 11, 12, 13, 14, 369, 370, 371, 372, 373, 374, 375, 376, 377, 378, 379, 380, 381] rfl (by decide +kernel)
set_option maxRecDepth 20000 in
theorem gX9_readInn_X3_begin : GoodIn wsX9_readInn (wsV RX9 39 RX3 yX3_begin wsX3_begin) := goodIn_r _ [15, 16, 17, 18, 19, 20, 21, 22, 23, 24, 25, 26, 27, 28, 29, 30, 31, 32, 33, 34, 35, 36, 37, 38, 39, 40, 41, 42, 43, 44, 45, 46, 47, 48, 49, 50, 51, 52, 53, 54, 55, 56, 57, 58, 59, 60, 61, 62, 63, 64, 65, 66, 67, 68, 69, 70, 71, 72, 73, 74, 75, 76, 77, 78, 79, 80, 81, 82, 83, 84, 85, 86, 87, 88, 89, 90, 91, 92, 93, 94, 95, 96, 97, 98, 99, 100, 101, 102, 103, 104, 105, 106, 107, 108, 109, 110, 111, 112, 113, 114, 115, 116, 117, 118, 119, 120, 121, 122, 123, 124, 125, 126, 127, 128, 129, 130, 131, 132, 133, 134, 135, 136, 137, 138, 365, 366, 367, 368, 382, 383, 384, 385, 386, 357, 358, 359, 360, 361, 362, 363, 364] rfl (by decide +kernel)
set_option maxRecDepth 20000 in
theorem gX9_readInn_X9_innLine : GoodIn wsX9_readInn (wsV RX9 49 RX9 yX9_innLine wsX9_innLine) := goodIn_r _ [139, 140, 141, 142, 143, 3, 4, 2, 144, 145, 146, 142, 147, 148, 149, 150, 151, 152, 18, 153, 24, 154, 21, 155, 32, 33, 28, 34, 30, 35, 36, 37, 38, 39, 40, 41, 42, 43, 44, 45, 46, 47, 48, 49, 50, 51, 52, 53, 54, 55, 56, 57, 58, 59, 60, 61, 62, 63, 64, 65, 66, 67, 68, 69, 70, 71, 72, 73, 74, 75, 76, 77, 78, 79, 80, 81, 82, 83, 84, 85, 86, 87, 88, 89, 90, 91, 92, 93, 94, 95, 96, 97, 98, 99, 100, 101, 102, 103, 104, 105, 106, 107, 108, 109, 110, 111, 112, 113, 114, 115, 116, 117, 118, 119, 120, 121, 122, 123, 124, 125, 126, 127, 128, 129, 130, 131, 132, 133, 134, 135, 136, 137, 138, 156, 157, 158, 159, 160, 161, 162, 163, 164, 165, 166, 10, 167, 12, 168, 169, 170, 171, 172, 13, 173, 174, 175, 176, 177, 178, 179, 180, 181, 182, 183, 184, 185, 186, 187, 188, 189, 190, 191, 192, 193, 194, 195, 196, 197, 198, 199, 200, 201, 202, 203, 204, 205, 206, 22, 207, 208, 209, 210, 211, 212, 213, 214, 215, 216, 217, 218, 20, 219, 220, 221, 222, 223, 224, 225, 226, 227, 228, 229, 230, 231, 232, 233, 234, 235, 236, 237, 238, 239, 240, 241, 242, 243, 244, 245, 246, 247, 248, 249, 250, 251, 252, 253, 254, 255, 256, 257, 258, 259, 260, 1, 261, 262, 263, 264, 265, 266, 267, 268, 269, 270, 271, 272, 273, 274, 275, 276, 277, 278, 279, 280, 281, 282, 283, 350, 351, 352, 353, 354, 355, 356, 357, 358, 359, 360, 361, 362, 363, 364, 369, 370, 371, 372, 373, 374, 375, 376, 377, 378, 379, 380, 381, 365, 366, 367, 368, 382, 383, 384, 385, 386] rfl (by decide +kernel)
set_option maxRecDepth 20000 in
theorem gX9_readInn_X9_workOut : GoodIn wsX9_readInn (wsV RX9 56 RX9 yX9_workOut wsX9_workOut) := goodIn_r _ [284, 285, 286, 142, 287, 199, 2, 201, 200, 203, 148, 1, 261, 262, 288, 289, 83, 80, 84, 290, 79, 81, 291, 292, 293, 213, 294, 295, 216, 217, 296, 297, 298, 299, 300, 301, 302, 303, 304, 305, 306, 307, 10, 308, 309, 310, 311, 312, 234, 313, 314, 315, 316, 13, 317, 318, 319, 320, 12, 321, 322, 323, 324, 325, 326, 327, 328, 329, 191, 192, 330, 331, 332, 333, 334, 335, 336, 337, 338, 339, 14, 340, 341, 342, 343, 344, 345, 346, 347, 348, 349, 369, 370, 371, 372, 373, 374, 375, 376, 377, 378, 379, 380, 381, 350, 351, 352, 353, 354, 355, 356, 365, 366, 367, 368, 382, 383, 384, 385, 386] rfl (by decide +kernel)
theorem dX9_readInn_0 : decode cX9_readInn 0 = .ok (.aload_n 1, 1) := by decide +kernel
theorem dX9_readInn_1 : decode cX9_readInn 1 = .ok (.invokevirtual 30, 3) := by decide +kernel
theorem dX9_readInn_4 : decode cX9_readInn 4 = .ok (.aload_n 0, 1) := by decide +kernel
theorem dX9_readInn_5 : decode cX9_readInn 5 = .ok (.iconst 0, 1) := by decide +kernel
theorem dX9_readInn_6 : decode cX9_readInn 6 = .ok (.putfield 35, 3) := by decide +kernel
theorem dX9_readInn_9 : decode cX9_readInn 9 = .ok (.aload_n 0, 1) := by decide +kernel
theorem dX9_readInn_10 : decode cX9_readInn 10 = .ok (.getfield 12, 3) := by decide +kernel
theorem dX9_readInn_13 : decode cX9_readInn 13 = .ok (.aload_n 1, 1) := by decide +kernel
theorem dX9_readInn_14 : decode cX9_readInn 14 = .ok (.invokevirtual 39, 3) := by decide +kernel
theorem dX9_readInn_17 : decode cX9_readInn 17 = .ok (.iconst 1, 1) := by decide +kernel
theorem dX9_readInn_18 : decode cX9_readInn 18 = .ok (.istore_n 2, 1) := by decide +kernel
theorem dX9_readInn_19 : decode cX9_readInn 19 = .ok (.iconst 0, 1) := by decide +kernel
theorem dX9_readInn_20 : decode cX9_readInn 20 = .ok (.istore_n 3, 1) := by decide +kernel
theorem dX9_readInn_21 : decode cX9_readInn 21 = .ok (.iload_n 3, 1) := by decide +kernel
theorem dX9_readInn_22 : decode cX9_readInn 22 = .ok (.sipush 1000, 3) := by decide +kernel
theorem dX9_readInn_25 : decode cX9_readInn 25 = .ok (.if_icmp .ge 31, 3) := by decide +kernel
theorem dX9_readInn_28 : decode cX9_readInn 28 = .ok (.iload_n 2, 1) := by decide +kernel
theorem dX9_readInn_29 : decode cX9_readInn 29 = .ok (.ifCond .eq 27, 3) := by decide +kernel
theorem dX9_readInn_32 : decode cX9_readInn 32 = .ok (.aload_n 0, 1) := by decide +kernel
theorem dX9_readInn_33 : decode cX9_readInn 33 = .ok (.getfield 22, 3) := by decide +kernel
theorem dX9_readInn_36 : decode cX9_readInn 36 = .ok (.getfield 43, 3) := by decide +kernel
theorem dX9_readInn_39 : decode cX9_readInn 39 = .ok (.bipush 34, 2) := by decide +kernel
theorem dX9_readInn_41 : decode cX9_readInn 41 = .ok (.if_icmp .eq 15, 3) := by decide +kernel
theorem dX9_readInn_44 : decode cX9_readInn 44 = .ok (.aload_n 0, 1) := by decide +kernel
theorem dX9_readInn_45 : decode cX9_readInn 45 = .ok (.aload_n 1, 1) := by decide +kernel
theorem dX9_readInn_46 : decode cX9_readInn 46 = .ok (.invokevirtual 49, 3) := by decide +kernel
theorem dX9_readInn_49 : decode cX9_readInn 49 = .ok (.istore_n 2, 1) := by decide +kernel
theorem dX9_readInn_50 : decode cX9_readInn 50 = .ok (.iinc 3 1, 3) := by decide +kernel
theorem dX9_readInn_53 : decode cX9_readInn 53 = .ok (.goto (-32), 3) := by decide +kernel
theorem dX9_readInn_56 : decode cX9_readInn 56 = .ok (.aload_n 0, 1) := by decide +kernel
theorem dX9_readInn_57 : decode cX9_readInn 57 = .ok (.getfield 22, 3) := by decide +kernel
theorem dX9_readInn_60 : decode cX9_readInn 60 = .ok (.iconst 0, 1) := by decide +kernel
theorem dX9_readInn_61 : decode cX9_readInn 61 = .ok (.putfield 53, 3) := by decide +kernel
theorem dX9_readInn_64 : decode cX9_readInn 64 = .ok (.iload_n 2, 1) := by decide +kernel
theorem dX9_readInn_65 : decode cX9_readInn 65 = .ok (.ifCond .eq 8, 3) := by decide +kernel
theorem dX9_readInn_68 : decode cX9_readInn 68 = .ok (.aload_n 0, 1) := by decide +kernel
theorem dX9_readInn_69 : decode cX9_readInn 69 = .ok (.aload_n 1, 1) := by decide +kernel
theorem dX9_readInn_70 : decode cX9_readInn 70 = .ok (.invokevirtual 56, 3) := by decide +kernel
theorem dX9_readInn_73 : decode cX9_readInn 73 = .ok (.aload_n 0, 1) := by decide +kernel
theorem dX9_readInn_74 : decode cX9_readInn 74 = .ok (.getfield 12, 3) := by decide +kernel
theorem dX9_readInn_77 : decode cX9_readInn 77 = .ok (.getfield 59, 3) := by decide +kernel
theorem dX9_readInn_80 : decode cX9_readInn 80 = .ok (.ireturn, 1) := by decide +kernel
set_option maxRecDepth 20000 in
theorem gX9_morningLine_X3_fail : GoodIn wsX9_morningLine (wsV RX9 87 RX3 yX3_fail wsX3_fail) := goodIn_r _ [7, 8, 9, 10, 11, 12, 13, 14, 270, 271, 272, 273, 259, 260, 261, 262, 263, 264, 265, 266] rfl (by decide +kernel)
set_option maxRecDepth 20000 in
theorem gX9_morningLine_X10_advance : GoodIn wsX9_morningLine (wsV RX9 94 RX10 yX10_advance wsX10_advance) := goodIn_r _ [15, 16, 17, 18, 19, 20, 21, 22, 23, 24, 25, 26, 27, 18, 28, 29, 30, 31, 32, 33, 34, 35, 36, 37, 38, 39, 40, 41, 42, 43, 44, 45, 46, 47, 48, 49, 50, 51, 52, 53, 54, 55, 56, 57, 58, 59, 60, 61, 62, 63, 64, 65, 66, 67, 68, 69, 70, 71, 72, 73, 74, 75, 76, 77, 78, 79, 80, 81, 82, 83, 84, 85, 86, 87, 88, 89, 90, 91, 92, 93, 94, 95, 96, 97, 98, 99, 100, 101, 102, 103, 104, 105, 106, 107, 108, 109, 110, 111, 112, 113, 114, 115, 116, 117, 118, 119, 120, 121, 122, 123, 124, 259, 260, 261, 262, 263, 264, 265, 266] rfl (by decide +kernel)
set_option maxRecDepth 20000 in
theorem gX9_morningLine_X3_namedGuest : GoodIn wsX9_morningLine (wsV RX9 134 RX3 yX3_namedGuest wsX3_namedGuest) := goodIn_r _ [125, 126, 127, 10, 128, 129, 12, 130, 131, 132, 133, 134, 135, 136, 137, 138, 139, 140, 10, 141, 142, 143, 144, 18, 145, 24, 146, 8, 9, 11, 13, 14, 270, 271, 272, 273, 259, 260, 261, 262, 263, 264, 265, 266, 279, 280, 281, 282, 283, 284, 285, 286, 287, 288, 289, 290, 291] rfl (by decide +kernel)
set_option maxRecDepth 20000 in
theorem gX9_morningLine_X3_formula_n127 : GoodIn wsX9_morningLine (wsX3_formula) := goodIn_r _ [149, 12, 150, 151, 152, 153, 154, 10, 155, 16, 17, 18, 19, 20, 21, 22, 23, 24, 25, 26, 27, 28, 29, 30, 31, 32, 33, 34, 35, 36, 37, 38, 39, 40, 41, 42, 43, 44, 45, 46, 47, 48, 49, 50, 51, 52, 53, 54, 55, 56, 57, 58, 59, 60, 61, 62, 63, 64, 65, 66, 67, 68, 69, 70, 71, 72, 73, 74, 75, 76, 77, 78, 79, 80, 81, 82, 83, 84, 85, 86, 87, 88, 89, 90, 91, 92, 93, 94, 95, 96, 97, 98, 99, 100, 101, 102, 103, 104, 105, 106, 107, 108, 109, 110, 111, 112, 113, 114, 115, 116, 117, 118, 119, 120, 121, 122, 123, 124, 156, 157, 158, 159, 160, 161, 162, 163, 164, 129, 130, 142, 143, 144, 145, 146, 8, 9, 11, 13, 14, 131, 132, 133, 134, 135, 136, 137, 165, 166, 167, 168, 169, 170, 171, 172, 173, 174, 147, 148, 175, 176, 177, 178, 179, 270, 271, 272, 273, 259, 260, 261, 262, 263, 264, 265, 266, 274, 275, 276, 277, 278, 279, 280, 281, 282, 283, 284, 285, 286, 287, 288, 289, 290, 291] rfl (by decide +kernel)
set_option maxRecDepth 20000 in
theorem gX9_morningLine_X2_worlds : GoodIn wsX9_morningLine (wsV RX9 156 RX2 yX2_worlds wsX2_worlds) := goodIn_r _ [180, 181, 182, 159, 183, 184, 162, 163, 185, 186, 187, 159, 188, 189, 190, 191, 192, 193, 194, 195, 196, 134, 197, 198, 199, 200, 201, 202, 203, 204, 205, 206, 169, 207, 208, 209, 210, 136, 211, 212, 213, 214, 215, 216, 217, 218, 219, 220, 221, 222, 223, 224, 225, 226, 227, 274, 275, 276, 277, 278, 279, 280, 281, 282, 283, 284, 285, 286, 287, 288, 289, 290, 291] rfl (by decide +kernel)
set_option maxRecDepth 20000 in
theorem gX9_morningLine_X4_sayable : GoodIn wsX9_morningLine (wsV RX9 160 RX4 yX4_sayable wsX4_sayable) := goodIn_r _ [228, 229, 230, 134, 231, 232, 233, 234, 235, 134, 236, 136, 226, 195, 196, 197, 207, 208, 209, 210, 279, 280, 281, 282, 283, 284, 285, 286, 287, 288, 289, 290, 291] rfl (by decide +kernel)
set_option maxRecDepth 20000 in
theorem gX9_morningLine_X4_worldsBy : GoodIn wsX9_morningLine (wsV RX9 164 RX4 yX4_worldsBy wsX4_worldsBy) := goodIn_r _ [237, 212, 213, 134, 214, 215, 136, 207, 208, 209, 134, 210, 216, 217, 218, 219, 220, 221, 222, 223, 224, 225, 226, 195, 196, 197, 279, 280, 281, 282, 283, 284, 285, 286, 287, 288, 289, 290, 291] rfl (by decide +kernel)
set_option maxRecDepth 20000 in
theorem gX9_morningLine_X3_namedSign : GoodIn wsX9_morningLine (wsV RX9 141 RX3 yX3_namedSign wsX3_namedSign) := goodIn_r _ [238, 239, 240, 10, 241, 129, 12, 130, 165, 166, 167, 134, 168, 169, 170, 138, 139, 140, 10, 141, 142, 143, 144, 18, 145, 24, 146, 8, 9, 11, 13, 14, 270, 271, 272, 273, 259, 260, 261, 262, 263, 264, 265, 266, 279, 280, 281, 282, 283, 284, 285, 286, 287, 288, 289, 290, 291] rfl (by decide +kernel)
set_option maxRecDepth 20000 in
theorem gX9_morningLine_X4_worldsShowing : GoodIn wsX9_morningLine (wsV RX9 168 RX4 yX4_worldsShowing wsX4_worldsShowing) := goodIn_r _ [242, 199, 200, 134, 201, 202, 203, 204, 205, 134, 206, 169, 207, 208, 209, 210, 136, 279, 280, 281, 282, 283, 284, 285, 286, 287, 288, 289, 290, 291] rfl (by decide +kernel)
set_option maxRecDepth 20000 in
theorem gX9_morningLine_X7_add : GoodIn wsX9_morningLine (wsV RX9 172 RX7 yX7_add wsX7_add) := goodIn_r _ [243, 244, 245, 246, 247, 248, 249, 250, 267, 268, 269] rfl (by decide +kernel)
set_option maxRecDepth 20000 in
theorem gX9_morningLine_X3_take : GoodIn wsX9_morningLine (wsV RX9 112 RX3 yX3_take wsX3_take) := goodIn_r _ [251, 176, 177, 10, 178, 12, 150, 146, 8, 9, 10, 11, 13, 14, 155, 16, 17, 18, 19, 20, 21, 22, 23, 24, 25, 26, 27, 28, 29, 30, 31, 32, 33, 34, 35, 36, 37, 38, 39, 40, 41, 42, 43, 44, 45, 46, 47, 48, 49, 50, 51, 52, 53, 54, 55, 56, 57, 58, 59, 60, 61, 62, 63, 64, 65, 66, 67, 68, 69, 70, 71, 72, 73, 74, 75, 76, 77, 78, 79, 80, 81, 82, 83, 84, 85, 86, 87, 88, 89, 90, 91, 92, 93, 94, 95, 96, 97, 98, 99, 100, 101, 102, 103, 104, 105, 106, 107, 108, 109, 110, 111, 112, 113, 114, 115, 116, 117, 118, 119, 120, 121, 122, 123, 124, 270, 271, 272, 273, 259, 260, 261, 262, 263, 264, 265, 266] rfl (by decide +kernel)
theorem dX9_morningLine_0 : decode cX9_morningLine 0 = .ok (.aload_n 0, 1) := by decide +kernel
theorem dX9_morningLine_1 : decode cX9_morningLine 1 = .ok (.getfield 22, 3) := by decide +kernel
theorem dX9_morningLine_4 : decode cX9_morningLine 4 = .ok (.getfield 43, 3) := by decide +kernel
theorem dX9_morningLine_7 : decode cX9_morningLine 7 = .ok (.istore_n 3, 1) := by decide +kernel
theorem dX9_morningLine_8 : decode cX9_morningLine 8 = .ok (.iload_n 3, 1) := by decide +kernel
theorem dX9_morningLine_9 : decode cX9_morningLine 9 = .ok (.bipush 9, 2) := by decide +kernel
theorem dX9_morningLine_11 : decode cX9_morningLine 11 = .ok (.if_icmp .lt 9, 3) := by decide +kernel
theorem dX9_morningLine_14 : decode cX9_morningLine 14 = .ok (.iload_n 3, 1) := by decide +kernel
theorem dX9_morningLine_15 : decode cX9_morningLine 15 = .ok (.bipush 13, 2) := by decide +kernel
theorem dX9_morningLine_17 : decode cX9_morningLine 17 = .ok (.if_icmp .le 12, 3) := by decide +kernel
theorem dX9_morningLine_20 : decode cX9_morningLine 20 = .ok (.aload_n 0, 1) := by decide +kernel
theorem dX9_morningLine_21 : decode cX9_morningLine 21 = .ok (.getfield 12, 3) := by decide +kernel
theorem dX9_morningLine_24 : decode cX9_morningLine 24 = .ok (.iconst 1, 1) := by decide +kernel
theorem dX9_morningLine_25 : decode cX9_morningLine 25 = .ok (.invokevirtual 87, 3) := by decide +kernel
theorem dX9_morningLine_28 : decode cX9_morningLine 28 = .ok (.ireturn, 1) := by decide +kernel
theorem dX9_morningLine_29 : decode cX9_morningLine 29 = .ok (.aload_n 2, 1) := by decide +kernel
theorem dX9_morningLine_30 : decode cX9_morningLine 30 = .ok (.getfield 62, 3) := by decide +kernel
theorem dX9_morningLine_33 : decode cX9_morningLine 33 = .ok (.bipush 24, 2) := by decide +kernel
theorem dX9_morningLine_35 : decode cX9_morningLine 35 = .ok (.if_icmp .lt 12, 3) := by decide +kernel
theorem dX9_morningLine_38 : decode cX9_morningLine 38 = .ok (.aload_n 0, 1) := by decide +kernel
theorem dX9_morningLine_39 : decode cX9_morningLine 39 = .ok (.getfield 12, 3) := by decide +kernel
theorem dX9_morningLine_42 : decode cX9_morningLine 42 = .ok (.iconst 5, 1) := by decide +kernel
theorem dX9_morningLine_43 : decode cX9_morningLine 43 = .ok (.invokevirtual 87, 3) := by decide +kernel
theorem dX9_morningLine_46 : decode cX9_morningLine 46 = .ok (.ireturn, 1) := by decide +kernel
theorem dX9_morningLine_47 : decode cX9_morningLine 47 = .ok (.aload_n 0, 1) := by decide +kernel
theorem dX9_morningLine_48 : decode cX9_morningLine 48 = .ok (.getfield 22, 3) := by decide +kernel
theorem dX9_morningLine_51 : decode cX9_morningLine 51 = .ok (.invokevirtual 94, 3) := by decide +kernel
theorem dX9_morningLine_54 : decode cX9_morningLine 54 = .ok (.iconst 0, 1) := by decide +kernel
theorem dX9_morningLine_55 : decode cX9_morningLine 55 = .ok (.istore 4, 2) := by decide +kernel
theorem dX9_morningLine_57 : decode cX9_morningLine 57 = .ok (.iload_n 3, 1) := by decide +kernel
theorem dX9_morningLine_58 : decode cX9_morningLine 58 = .ok (.bipush 9, 2) := by decide +kernel
theorem dX9_morningLine_60 : decode cX9_morningLine 60 = .ok (.if_icmp .ne 84, 3) := by decide +kernel
theorem dX9_morningLine_63 : decode cX9_morningLine 63 = .ok (.aload_n 0, 1) := by decide +kernel
theorem dX9_morningLine_64 : decode cX9_morningLine 64 = .ok (.getfield 12, 3) := by decide +kernel
theorem dX9_morningLine_67 : decode cX9_morningLine 67 = .ok (.invokevirtual 134, 3) := by decide +kernel
theorem dX9_morningLine_70 : decode cX9_morningLine 70 = .ok (.istore 5, 2) := by decide +kernel
theorem dX9_morningLine_72 : decode cX9_morningLine 72 = .ok (.iload 5, 2) := by decide +kernel
theorem dX9_morningLine_74 : decode cX9_morningLine 74 = .ok (.iconst (-1), 1) := by decide +kernel
theorem dX9_morningLine_75 : decode cX9_morningLine 75 = .ok (.if_icmp .ne 5, 3) := by decide +kernel
theorem dX9_morningLine_78 : decode cX9_morningLine 78 = .ok (.iconst 0, 1) := by decide +kernel
theorem dX9_morningLine_79 : decode cX9_morningLine 79 = .ok (.ireturn, 1) := by decide +kernel
theorem dX9_morningLine_80 : decode cX9_morningLine 80 = .ok (.aload_n 0, 1) := by decide +kernel
theorem dX9_morningLine_81 : decode cX9_morningLine 81 = .ok (.getfield 22, 3) := by decide +kernel
theorem dX9_morningLine_84 : decode cX9_morningLine 84 = .ok (.invokevirtual 94, 3) := by decide +kernel
theorem dX9_morningLine_87 : decode cX9_morningLine 87 = .ok (.aload_n 0, 1) := by decide +kernel
theorem dX9_morningLine_88 : decode cX9_morningLine 88 = .ok (.getfield 12, 3) := by decide +kernel
theorem dX9_morningLine_91 : decode cX9_morningLine 91 = .ok (.getfield 118, 3) := by decide +kernel
theorem dX9_morningLine_94 : decode cX9_morningLine 94 = .ok (.iconst 0, 1) := by decide +kernel
theorem dX9_morningLine_95 : decode cX9_morningLine 95 = .ok (.putfield 122, 3) := by decide +kernel
theorem dX9_morningLine_98 : decode cX9_morningLine 98 = .ok (.aload_n 0, 1) := by decide +kernel
theorem dX9_morningLine_99 : decode cX9_morningLine 99 = .ok (.getfield 12, 3) := by decide +kernel
theorem dX9_morningLine_102 : decode cX9_morningLine 102 = .ok (.iconst 0, 1) := by decide +kernel
theorem dX9_morningLine_103 : decode cX9_morningLine 103 = .ok (.invokevirtual 127, 3) := by decide +kernel
theorem dX9_morningLine_106 : decode cX9_morningLine 106 = .ok (.ifCond .ne 5, 3) := by decide +kernel
theorem dX9_morningLine_109 : decode cX9_morningLine 109 = .ok (.iconst 0, 1) := by decide +kernel
theorem dX9_morningLine_110 : decode cX9_morningLine 110 = .ok (.ireturn, 1) := by decide +kernel
theorem dX9_morningLine_111 : decode cX9_morningLine 111 = .ok (.aload_n 1, 1) := by decide +kernel
theorem dX9_morningLine_112 : decode cX9_morningLine 112 = .ok (.iload 5, 2) := by decide +kernel
theorem dX9_morningLine_114 : decode cX9_morningLine 114 = .ok (.aload_n 0, 1) := by decide +kernel
theorem dX9_morningLine_115 : decode cX9_morningLine 115 = .ok (.getfield 12, 3) := by decide +kernel
theorem dX9_morningLine_118 : decode cX9_morningLine 118 = .ok (.getfield 118, 3) := by decide +kernel
theorem dX9_morningLine_121 : decode cX9_morningLine 121 = .ok (.aload_n 1, 1) := by decide +kernel
theorem dX9_morningLine_122 : decode cX9_morningLine 122 = .ok (.iconst 0, 1) := by decide +kernel
theorem dX9_morningLine_123 : decode cX9_morningLine 123 = .ok (.aload_n 0, 1) := by decide +kernel
theorem dX9_morningLine_124 : decode cX9_morningLine 124 = .ok (.getfield 12, 3) := by decide +kernel
theorem dX9_morningLine_127 : decode cX9_morningLine 127 = .ok (.getfield 118, 3) := by decide +kernel
theorem dX9_morningLine_130 : decode cX9_morningLine 130 = .ok (.getfield 122, 3) := by decide +kernel
theorem dX9_morningLine_133 : decode cX9_morningLine 133 = .ok (.invokevirtual 156, 3) := by decide +kernel
theorem dX9_morningLine_136 : decode cX9_morningLine 136 = .ok (.invokevirtual 160, 3) := by decide +kernel
theorem dX9_morningLine_139 : decode cX9_morningLine 139 = .ok (.istore 4, 2) := by decide +kernel
theorem dX9_morningLine_141 : decode cX9_morningLine 141 = .ok (.goto 114, 3) := by decide +kernel
theorem dX9_morningLine_144 : decode cX9_morningLine 144 = .ok (.iload_n 3, 1) := by decide +kernel
theorem dX9_morningLine_145 : decode cX9_morningLine 145 = .ok (.bipush 12, 2) := by decide +kernel
theorem dX9_morningLine_147 : decode cX9_morningLine 147 = .ok (.if_icmp .ne 59, 3) := by decide +kernel
theorem dX9_morningLine_150 : decode cX9_morningLine 150 = .ok (.aload_n 0, 1) := by decide +kernel
theorem dX9_morningLine_151 : decode cX9_morningLine 151 = .ok (.getfield 22, 3) := by decide +kernel
theorem dX9_morningLine_154 : decode cX9_morningLine 154 = .ok (.getfield 43, 3) := by decide +kernel
theorem dX9_morningLine_157 : decode cX9_morningLine 157 = .ok (.bipush 18, 2) := by decide +kernel
theorem dX9_morningLine_159 : decode cX9_morningLine 159 = .ok (.if_icmp .lt 15, 3) := by decide +kernel
theorem dX9_morningLine_162 : decode cX9_morningLine 162 = .ok (.aload_n 0, 1) := by decide +kernel
theorem dX9_morningLine_163 : decode cX9_morningLine 163 = .ok (.getfield 22, 3) := by decide +kernel
theorem dX9_morningLine_166 : decode cX9_morningLine 166 = .ok (.getfield 43, 3) := by decide +kernel
theorem dX9_morningLine_169 : decode cX9_morningLine 169 = .ok (.bipush 21, 2) := by decide +kernel
theorem dX9_morningLine_171 : decode cX9_morningLine 171 = .ok (.if_icmp .le 12, 3) := by decide +kernel
theorem dX9_morningLine_174 : decode cX9_morningLine 174 = .ok (.aload_n 0, 1) := by decide +kernel
theorem dX9_morningLine_175 : decode cX9_morningLine 175 = .ok (.getfield 12, 3) := by decide +kernel
theorem dX9_morningLine_178 : decode cX9_morningLine 178 = .ok (.iconst 1, 1) := by decide +kernel
theorem dX9_morningLine_179 : decode cX9_morningLine 179 = .ok (.invokevirtual 87, 3) := by decide +kernel
theorem dX9_morningLine_182 : decode cX9_morningLine 182 = .ok (.ireturn, 1) := by decide +kernel
theorem dX9_morningLine_183 : decode cX9_morningLine 183 = .ok (.aload_n 1, 1) := by decide +kernel
theorem dX9_morningLine_184 : decode cX9_morningLine 184 = .ok (.aload_n 0, 1) := by decide +kernel
theorem dX9_morningLine_185 : decode cX9_morningLine 185 = .ok (.getfield 22, 3) := by decide +kernel
theorem dX9_morningLine_188 : decode cX9_morningLine 188 = .ok (.getfield 43, 3) := by decide +kernel
theorem dX9_morningLine_191 : decode cX9_morningLine 191 = .ok (.invokevirtual 164, 3) := by decide +kernel
theorem dX9_morningLine_194 : decode cX9_morningLine 194 = .ok (.istore 4, 2) := by decide +kernel
theorem dX9_morningLine_196 : decode cX9_morningLine 196 = .ok (.aload_n 0, 1) := by decide +kernel
theorem dX9_morningLine_197 : decode cX9_morningLine 197 = .ok (.getfield 22, 3) := by decide +kernel
theorem dX9_morningLine_200 : decode cX9_morningLine 200 = .ok (.invokevirtual 94, 3) := by decide +kernel
theorem dX9_morningLine_203 : decode cX9_morningLine 203 = .ok (.goto 52, 3) := by decide +kernel
theorem dX9_morningLine_206 : decode cX9_morningLine 206 = .ok (.iload_n 3, 1) := by decide +kernel
theorem dX9_morningLine_207 : decode cX9_morningLine 207 = .ok (.bipush 13, 2) := by decide +kernel
theorem dX9_morningLine_209 : decode cX9_morningLine 209 = .ok (.if_icmp .eq 46, 3) := by decide +kernel
theorem dX9_morningLine_212 : decode cX9_morningLine 212 = .ok (.aload_n 0, 1) := by decide +kernel
theorem dX9_morningLine_213 : decode cX9_morningLine 213 = .ok (.getfield 12, 3) := by decide +kernel
theorem dX9_morningLine_216 : decode cX9_morningLine 216 = .ok (.invokevirtual 141, 3) := by decide +kernel
theorem dX9_morningLine_219 : decode cX9_morningLine 219 = .ok (.istore 5, 2) := by decide +kernel
theorem dX9_morningLine_221 : decode cX9_morningLine 221 = .ok (.iload 5, 2) := by decide +kernel
theorem dX9_morningLine_223 : decode cX9_morningLine 223 = .ok (.iconst (-1), 1) := by decide +kernel
theorem dX9_morningLine_224 : decode cX9_morningLine 224 = .ok (.if_icmp .ne 5, 3) := by decide +kernel
theorem dX9_morningLine_227 : decode cX9_morningLine 227 = .ok (.iconst 0, 1) := by decide +kernel
theorem dX9_morningLine_228 : decode cX9_morningLine 228 = .ok (.ireturn, 1) := by decide +kernel
theorem dX9_morningLine_229 : decode cX9_morningLine 229 = .ok (.aload_n 1, 1) := by decide +kernel
theorem dX9_morningLine_230 : decode cX9_morningLine 230 = .ok (.iload 5, 2) := by decide +kernel
theorem dX9_morningLine_232 : decode cX9_morningLine 232 = .ok (.iload_n 3, 1) := by decide +kernel
theorem dX9_morningLine_233 : decode cX9_morningLine 233 = .ok (.bipush 10, 2) := by decide +kernel
theorem dX9_morningLine_235 : decode cX9_morningLine 235 = .ok (.if_icmp .ne 7, 3) := by decide +kernel
theorem dX9_morningLine_238 : decode cX9_morningLine 238 = .ok (.iconst 1, 1) := by decide +kernel
theorem dX9_morningLine_239 : decode cX9_morningLine 239 = .ok (.goto 4, 3) := by decide +kernel
theorem dX9_morningLine_242 : decode cX9_morningLine 242 = .ok (.iconst 0, 1) := by decide +kernel
theorem dX9_morningLine_243 : decode cX9_morningLine 243 = .ok (.invokevirtual 168, 3) := by decide +kernel
theorem dX9_morningLine_246 : decode cX9_morningLine 246 = .ok (.istore 4, 2) := by decide +kernel
theorem dX9_morningLine_248 : decode cX9_morningLine 248 = .ok (.aload_n 0, 1) := by decide +kernel
theorem dX9_morningLine_249 : decode cX9_morningLine 249 = .ok (.getfield 22, 3) := by decide +kernel
theorem dX9_morningLine_252 : decode cX9_morningLine 252 = .ok (.invokevirtual 94, 3) := by decide +kernel
theorem dX9_morningLine_255 : decode cX9_morningLine 255 = .ok (.aload_n 2, 1) := by decide +kernel
theorem dX9_morningLine_256 : decode cX9_morningLine 256 = .ok (.iload 4, 2) := by decide +kernel
theorem dX9_morningLine_258 : decode cX9_morningLine 258 = .ok (.iload_n 3, 1) := by decide +kernel
theorem dX9_morningLine_259 : decode cX9_morningLine 259 = .ok (.bipush 13, 2) := by decide +kernel
theorem dX9_morningLine_261 : decode cX9_morningLine 261 = .ok (.if_icmp .ne 7, 3) := by decide +kernel
theorem dX9_morningLine_264 : decode cX9_morningLine 264 = .ok (.iconst 1, 1) := by decide +kernel
theorem dX9_morningLine_265 : decode cX9_morningLine 265 = .ok (.goto 4, 3) := by decide +kernel
theorem dX9_morningLine_268 : decode cX9_morningLine 268 = .ok (.iconst 0, 1) := by decide +kernel
theorem dX9_morningLine_269 : decode cX9_morningLine 269 = .ok (.invokevirtual 172, 3) := by decide +kernel
theorem dX9_morningLine_272 : decode cX9_morningLine 272 = .ok (.aload_n 0, 1) := by decide +kernel
theorem dX9_morningLine_273 : decode cX9_morningLine 273 = .ok (.getfield 12, 3) := by decide +kernel
theorem dX9_morningLine_276 : decode cX9_morningLine 276 = .ok (.bipush 59, 2) := by decide +kernel
theorem dX9_morningLine_278 : decode cX9_morningLine 278 = .ok (.invokevirtual 112, 3) := by decide +kernel
theorem dX9_morningLine_281 : decode cX9_morningLine 281 = .ok (.ireturn, 1) := by decide +kernel
set_option maxRecDepth 20000 in
theorem gX9_readMorning_X3_begin : GoodIn wsX9_readMorning (wsV RX9 39 RX3 yX3_begin wsX3_begin) := goodIn_r _ [7, 8, 9, 10, 11, 12, 13, 14, 15, 16, 17, 18, 19, 20, 21, 22, 23, 24, 25, 26, 27, 28, 29, 30, 31, 32, 33, 34, 35, 36, 37, 38, 39, 40, 41, 42, 43, 44, 45, 46, 47, 48, 49, 50, 51, 52, 53, 54, 55, 56, 57, 58, 59, 60, 61, 62, 63, 64, 65, 66, 67, 68, 69, 70, 71, 72, 73, 74, 75, 76, 77, 78, 79, 80, 81, 82, 83, 84, 85, 86, 87, 88, 89, 90, 91, 92, 93, 94, 95, 96, 97, 98, 99, 100, 101, 102, 103, 104, 105, 106, 107, 108, 109, 110, 111, 112, 113, 114, 115, 116, 117, 118, 119, 120, 121, 122, 123, 124, 125, 126, 127, 128, 129, 130, 287, 288, 289, 290, 291, 292, 293, 294, 295, 279, 280, 281, 282, 283, 284, 285, 286] rfl (by decide +kernel)
set_option maxRecDepth 20000 in
theorem gX9_readMorning_X9_morningLine : GoodIn wsX9_readMorning (wsV RX9 67 RX9 yX9_morningLine wsX9_morningLine) := goodIn_r _ [131, 132, 133, 134, 135, 3, 4, 2, 1, 136, 137, 138, 139, 140, 10, 141, 16, 142, 13, 143, 24, 25, 20, 26, 22, 27, 28, 29, 30, 31, 32, 33, 34, 35, 36, 37, 38, 39, 40, 41, 42, 43, 44, 45, 46, 47, 48, 49, 50, 51, 52, 53, 54, 55, 56, 57, 58, 59, 60, 61, 62, 63, 64, 65, 66, 67, 68, 69, 70, 71, 72, 73, 74, 75, 76, 77, 78, 79, 80, 81, 82, 83, 84, 85, 86, 87, 88, 89, 90, 91, 92, 93, 94, 95, 96, 97, 98, 99, 100, 101, 102, 103, 104, 105, 106, 107, 108, 109, 110, 111, 112, 113, 114, 115, 116, 117, 118, 119, 120, 121, 122, 123, 124, 125, 126, 127, 128, 129, 130, 144, 145, 146, 147, 12, 148, 149, 150, 151, 152, 153, 154, 155, 156, 157, 158, 159, 160, 161, 162, 163, 164, 165, 166, 167, 168, 14, 169, 170, 171, 172, 173, 174, 175, 176, 177, 178, 179, 180, 181, 182, 183, 184, 185, 186, 187, 188, 189, 190, 191, 192, 193, 194, 195, 196, 197, 198, 199, 200, 201, 202, 203, 204, 205, 206, 207, 208, 209, 210, 211, 212, 213, 214, 215, 216, 217, 218, 219, 220, 221, 222, 223, 224, 225, 226, 227, 228, 229, 230, 231, 232, 233, 234, 235, 236, 237, 238, 239, 240, 241, 242, 243, 244, 245, 246, 247, 248, 249, 250, 251, 252, 253, 254, 255, 256, 257, 258, 259, 260, 261, 262, 263, 264, 265, 266, 267, 268, 272, 273, 274, 275, 276, 277, 278, 279, 280, 281, 282, 283, 284, 285, 286, 269, 270, 271, 287, 288, 289, 290, 291, 292, 293, 294, 295, 296, 297, 298, 299, 300, 301, 302, 303, 304, 305, 306, 307, 308] rfl (by decide +kernel)
theorem dX9_readMorning_0 : decode cX9_readMorning 0 = .ok (.aload_n 2, 1) := by decide +kernel
theorem dX9_readMorning_1 : decode cX9_readMorning 1 = .ok (.iconst 0, 1) := by decide +kernel
theorem dX9_readMorning_2 : decode cX9_readMorning 2 = .ok (.putfield 62, 3) := by decide +kernel
theorem dX9_readMorning_5 : decode cX9_readMorning 5 = .ok (.aload_n 0, 1) := by decide +kernel
theorem dX9_readMorning_6 : decode cX9_readMorning 6 = .ok (.getfield 12, 3) := by decide +kernel
theorem dX9_readMorning_9 : decode cX9_readMorning 9 = .ok (.aload_n 1, 1) := by decide +kernel
theorem dX9_readMorning_10 : decode cX9_readMorning 10 = .ok (.invokevirtual 39, 3) := by decide +kernel
theorem dX9_readMorning_13 : decode cX9_readMorning 13 = .ok (.iconst 1, 1) := by decide +kernel
theorem dX9_readMorning_14 : decode cX9_readMorning 14 = .ok (.istore_n 3, 1) := by decide +kernel
theorem dX9_readMorning_15 : decode cX9_readMorning 15 = .ok (.iconst 0, 1) := by decide +kernel
theorem dX9_readMorning_16 : decode cX9_readMorning 16 = .ok (.istore 4, 2) := by decide +kernel
theorem dX9_readMorning_18 : decode cX9_readMorning 18 = .ok (.iload 4, 2) := by decide +kernel
theorem dX9_readMorning_20 : decode cX9_readMorning 20 = .ok (.sipush 1000, 3) := by decide +kernel
theorem dX9_readMorning_23 : decode cX9_readMorning 23 = .ok (.if_icmp .ge 32, 3) := by decide +kernel
theorem dX9_readMorning_26 : decode cX9_readMorning 26 = .ok (.iload_n 3, 1) := by decide +kernel
theorem dX9_readMorning_27 : decode cX9_readMorning 27 = .ok (.ifCond .eq 28, 3) := by decide +kernel
theorem dX9_readMorning_30 : decode cX9_readMorning 30 = .ok (.aload_n 0, 1) := by decide +kernel
theorem dX9_readMorning_31 : decode cX9_readMorning 31 = .ok (.getfield 22, 3) := by decide +kernel
theorem dX9_readMorning_34 : decode cX9_readMorning 34 = .ok (.getfield 43, 3) := by decide +kernel
theorem dX9_readMorning_37 : decode cX9_readMorning 37 = .ok (.bipush 34, 2) := by decide +kernel
theorem dX9_readMorning_39 : decode cX9_readMorning 39 = .ok (.if_icmp .eq 16, 3) := by decide +kernel
theorem dX9_readMorning_42 : decode cX9_readMorning 42 = .ok (.aload_n 0, 1) := by decide +kernel
theorem dX9_readMorning_43 : decode cX9_readMorning 43 = .ok (.aload_n 1, 1) := by decide +kernel
theorem dX9_readMorning_44 : decode cX9_readMorning 44 = .ok (.aload_n 2, 1) := by decide +kernel
theorem dX9_readMorning_45 : decode cX9_readMorning 45 = .ok (.invokevirtual 67, 3) := by decide +kernel
theorem dX9_readMorning_48 : decode cX9_readMorning 48 = .ok (.istore_n 3, 1) := by decide +kernel
theorem dX9_readMorning_49 : decode cX9_readMorning 49 = .ok (.iinc 4 1, 3) := by decide +kernel
theorem dX9_readMorning_52 : decode cX9_readMorning 52 = .ok (.goto (-34), 3) := by decide +kernel
theorem dX9_readMorning_55 : decode cX9_readMorning 55 = .ok (.aload_n 0, 1) := by decide +kernel
theorem dX9_readMorning_56 : decode cX9_readMorning 56 = .ok (.getfield 22, 3) := by decide +kernel
theorem dX9_readMorning_59 : decode cX9_readMorning 59 = .ok (.iconst 0, 1) := by decide +kernel
theorem dX9_readMorning_60 : decode cX9_readMorning 60 = .ok (.putfield 53, 3) := by decide +kernel
theorem dX9_readMorning_63 : decode cX9_readMorning 63 = .ok (.aload_n 0, 1) := by decide +kernel
theorem dX9_readMorning_64 : decode cX9_readMorning 64 = .ok (.getfield 12, 3) := by decide +kernel
theorem dX9_readMorning_67 : decode cX9_readMorning 67 = .ok (.getfield 59, 3) := by decide +kernel
theorem dX9_readMorning_70 : decode cX9_readMorning 70 = .ok (.ireturn, 1) := by decide +kernel
section
variable {p : Program} {l : Launch} {e : Env} {s : State} {m : MethodId} {args : Array Value} {below : List Frame} {meth : Method} {c : Code} {D : va_G} {cy : Nat → ClassId} {ad : Nat → Nat} {A : Nat → Prop} {aM aB aO aI aN aT aC aG aR aQ aK aL aX aH aJ aP aU aE0 aE1 aE2 aE3 : Nat → Nat} {gi : Value}
abbrev rm9_billLine : Room := { frames := 71, cells := 0, slots := 0, locals := 1685 }
theorem hdV9_billLine : yX9_billLine.cls = RX9 ∧ (yX9_billLine.cls ≠ "java/lang/invoke/MethodHandle" ∧ yX9_billLine.cls ≠ "java/lang/invoke/VarHandle" ∧ (parseMethodDescriptor yX9_billLine.desc).map (fun d => d.parameters.length) = some 0) := by decide +kernel
theorem hin9_billLine_9 : ∀ x ∈ u_ws RX9 TX9 7, x ∈ wsX9_billLine := fun _ h => List.mem_cons_of_mem _ (List.mem_append_left _ (List.mem_append_left _ (List.mem_append_left _ (List.mem_append_right _ h))))
theorem hin9_billLine_3 : ∀ x ∈ u_ws RX3 TX3 4, x ∈ wsX9_billLine := fun _ h => List.mem_cons_of_mem _ (List.mem_append_left _ (List.mem_append_left _ (List.mem_append_right _ h)))
theorem hin9_billLine_2 : ∀ x ∈ u_ws RX2 TX2 5, x ∈ wsX9_billLine := fun _ h => List.mem_cons_of_mem _ (List.mem_append_left _ (List.mem_append_right _ h))
set_option maxRecDepth 100000 in
set_option maxHeartbeats 4000000 in
theorem t9_billLine_0 (hC : Cx p s m args meth c cX9_billLine 1 wsX9_billLine RX9 (some .boolean)) : ∀ (SR : Ob) (SG : Ob) (ST : Ob) (SC : Ob) (res : Int32 × Ob × Ob × Ob × Ob) (H : Heap) (locs : List Loc) (ls : Array Slot), f9_billLine SR SG ST SC = some res → GW D cy ad (w9 cy aR aG aT SR ++ (w3 cy aG aT aC (.ref (aI 0)) SG ++ (w10 cy aT ST ++ (w2 cy aC SC)))) A s H locs → lv_has ls 1 [(0, .ref (aR 0))] → W p l e rm9_billLine s m args below meth c H locs 0 0 (MQ below (QI D cy (w9 cy aR aG aT (res.2.1) ++ (w3 cy aG aT aC (.ref (aI 0)) (res.2.2.1) ++ (w10 cy aT (res.2.2.2.1) ++ (w2 cy aC (res.2.2.2.2))))) A (res.1)) args s 0 0 A) (F0 m 0 ls []) := by
  intro SR SG ST SC res H locs ls hf hW hl
  unfold f9_billLine at hf
  refine lv_aload_n hC.1 hC.2.1 dX9_billLine_0 rfl (lv_at hl 0 rfl) ?_
  refine g_get hC hW hin9_billLine_9 0 rfl rfl 6 (by decide) 1 rfl rfl dX9_billLine_1 ?_
  refine lv_if_eq (tgt := 16) hC.1 hC.2.1 dX9_billLine_4 (by decide) (fun hc_1 => ?_) (fun hc_1 => ?_)
  · have hf := ite_t hf hc_1
    refine lv_aload_n hC.1 hC.2.1 dX9_billLine_16 rfl (lv_at hl 0 rfl) ?_
    refine lv_iconst (v := 1) hC.1 hC.2.1 dX9_billLine_17 (by decide) ?_
    obtain ⟨SR_3, eSR_3⟩ : ∃ y : Ob, y = oI SR 6 1 := ⟨_, rfl⟩
    have hf := lt_nm hf eSR_3
    refine g_put hC hW hin9_billLine_9 tyX9 tyX9_ok nmX9 0 rfl rfl 6 (by decide) 1 rfl rfl (isz_of (by decide)) (fits_isz (by decide)) (Nat.le_of_ble_eq_true rfl) (w' := w9 cy aR aG aT SR_3 ++ (w3 cy aG aT aC (.ref (aI 0)) SG ++ (w10 cy aT ST ++ (w2 cy aC SC)))) (by rw [eSR_3]; rfl) dX9_billLine_18 (fun H locs hW => ?_)
    refine lv_aload_n hC.1 hC.2.1 dX9_billLine_21 rfl (lv_at hl 0 rfl) ?_
    refine g_get hC hW hin9_billLine_9 0 rfl rfl 1 (by decide) 3 rfl rfl dX9_billLine_22 ?_
    obtain ⟨r_4, hg_5, hf⟩ := bd_of hf
    refine g_callvV (w' := w9 cy aR aG aT SR_3 ++ (w3 cy aG aT aC (.ref (aI 0)) SG ++ (w10 cy aT r_4 ++ (w2 cy aC SC)))) hC hW (c10_advance l D cy ad aT hg_5) (cwV 0 hC.2.2.2.2.1 gX9_billLine_X10_advance rfl rfl rfl hdV10_advance ⟨Nat.le_of_ble_eq_true rfl, Nat.le_of_ble_eq_true rfl⟩) (⟨[4, 5, 6], [0, 1, 2, 3, 7, 8, 9, 10], [0, 1, 2, 3, 8, 9, 10, 4, 5, 6, 7], w9 cy aR aG aT SR_3 ++ (w3 cy aG aT aC (.ref (aI 0)) SG ++ (w2 cy aC SC)), rfl, rfl, rfl, rfl, by decide, rfl, rfl⟩) 0 9 rfl rfl rfl rfl hl.1 rfl (Nat.le_of_ble_eq_true rfl) dX9_billLine_25 ⟨Nat.zero_le _, Nat.zero_le _⟩ (fun H locs hW => ?_)
    refine lv_aload_n hC.1 hC.2.1 dX9_billLine_28 rfl (lv_at hl 0 rfl) ?_
    refine lv_aload_n hC.1 hC.2.1 dX9_billLine_29 rfl (lv_at hl 0 rfl) ?_
    refine g_get hC hW hin9_billLine_9 0 rfl rfl 0 (by decide) 2 rfl rfl dX9_billLine_30 ?_
    refine g_get hC hW hin9_billLine_3 3 rfl rfl 1 (by decide) 4 rfl rfl dX9_billLine_33 ?_
    refine g_get hC hW hin9_billLine_2 7 rfl rfl 3 (by decide) 5 rfl rfl dX9_billLine_36 ?_
    obtain ⟨SR_6, eSR_6⟩ : ∃ y : Ob, y = oI SR_3 4 (SC.1 3) := ⟨_, rfl⟩
    have hf := lt_nm hf eSR_6
    refine g_put hC hW hin9_billLine_9 tyX9 tyX9_ok nmX9 0 rfl rfl 4 (by decide) 6 rfl rfl rfl rfl (Nat.le_of_ble_eq_true rfl) (w' := w9 cy aR aG aT SR_6 ++ (w3 cy aG aT aC (.ref (aI 0)) SG ++ (w10 cy aT r_4 ++ (w2 cy aC SC)))) (by rw [eSR_6]; rfl) dX9_billLine_39 (fun H locs hW => ?_)
    refine lv_aload_n hC.1 hC.2.1 dX9_billLine_42 rfl (lv_at hl 0 rfl) ?_
    refine g_get hC hW hin9_billLine_9 0 rfl rfl 0 (by decide) 2 rfl rfl dX9_billLine_43 ?_
    refine lv_iconst (v := 0) hC.1 hC.2.1 dX9_billLine_46 (by decide) ?_
    obtain ⟨r_7, hg_8, hf⟩ := bd_of hf
    refine g_calliN (w' := w9 cy aR aG aT SR_6 ++ (w3 cy aG aT aC (.ref (aI 0)) (r_7.2.1) ++ (w10 cy aT (r_7.2.2.1) ++ (w2 cy aC (r_7.2.2.2))))) hC hW (c3_expression l D cy ad aG aT aC aI (f3_part DP) DP (c3_part l D cy ad aG aT aC aI DP) hg_8) ⟨va_cnB 1 hC.2.2.2.2.1 gX9_billLine_X3_expression_n150 rfl rfl rfl (hW.2.2.2.2.2.1 _ (List.mem_of_getElem? (i := 1) rfl)) (hC.2.2.2.2.1 _ (List.mem_of_getElem? (i := 11) rfl)) hdV3_expression.2 ⟨Nat.le_of_ble_eq_true rfl, Nat.le_of_ble_eq_true rfl⟩, (hC.2.2.2.2.1 _ (List.mem_of_getElem? (i := 126) rfl)), (hC.2.2.2.2.1 _ (List.mem_of_getElem? (i := 127) rfl))⟩ (⟨[3, 4, 5, 6, 7, 8, 9, 10], [0, 1, 2], [0, 1, 2, 3, 4, 5, 6, 7, 8, 9, 10], w9 cy aR aG aT SR_6, rfl, rfl, rfl, rfl, by decide, rfl, rfl⟩) 0 3 rfl rfl rfl rfl hl.1 rfl (Nat.le_of_ble_eq_true rfl) dX9_billLine_47 ⟨Nat.zero_le _, Nat.zero_le _⟩ (fun H locs hW => ?_)
    refine lv_if_ne (tgt := 55) hC.1 hC.2.1 dX9_billLine_50 (by decide) (fun hc_9 => ?_) (fun hc_9 => ?_)
    · have hf := ite_f hf hc_9
      refine lv_aload_n hC.1 hC.2.1 dX9_billLine_55 rfl (lv_at hl 0 rfl) ?_
      refine lv_aload_n hC.1 hC.2.1 dX9_billLine_56 rfl (lv_at hl 0 rfl) ?_
      refine g_get hC hW hin9_billLine_9 0 rfl rfl 0 (by decide) 2 rfl rfl dX9_billLine_57 ?_
      refine g_get hC hW hin9_billLine_3 3 rfl rfl 1 (by decide) 4 rfl rfl dX9_billLine_60 ?_
      refine g_get hC hW hin9_billLine_2 7 rfl rfl 3 (by decide) 5 rfl rfl dX9_billLine_63 ?_
      obtain ⟨SR_10, eSR_10⟩ : ∃ y : Ob, y = oI SR_6 5 ((r_7.2.2.2).1 3) := ⟨_, rfl⟩
      have hf := lt_nm hf eSR_10
      refine g_put hC hW hin9_billLine_9 tyX9 tyX9_ok nmX9 0 rfl rfl 5 (by decide) 7 rfl rfl rfl rfl (Nat.le_of_ble_eq_true rfl) (w' := w9 cy aR aG aT SR_10 ++ (w3 cy aG aT aC (.ref (aI 0)) (r_7.2.1) ++ (w10 cy aT (r_7.2.2.1) ++ (w2 cy aC (r_7.2.2.2))))) (by rw [eSR_10]; rfl) dX9_billLine_66 (fun H locs hW => ?_)
      refine lv_aload_n hC.1 hC.2.1 dX9_billLine_69 rfl (lv_at hl 0 rfl) ?_
      refine g_get hC hW hin9_billLine_9 0 rfl rfl 0 (by decide) 2 rfl rfl dX9_billLine_70 ?_
      refine lv_bipush (v := 59) hC.1 hC.2.1 dX9_billLine_73 (by decide) ?_
      obtain ⟨r_11, hg_12, hf⟩ := bd_of hf
      refine g_calliV (w' := w9 cy aR aG aT SR_10 ++ (w3 cy aG aT aC (.ref (aI 0)) (r_11.2.1) ++ (w10 cy aT (r_11.2.2) ++ (w2 cy aC (r_7.2.2.2))))) hC hW (c3_take l D cy ad aG aT aC aI hg_12) (cwV 1 hC.2.2.2.2.1 gX9_billLine_X3_take rfl rfl rfl hdV3_take ⟨Nat.le_of_ble_eq_true rfl, Nat.le_of_ble_eq_true rfl⟩) (⟨[3, 4, 5, 6], [0, 1, 2, 7, 8, 9, 10], [0, 1, 2, 7, 8, 9, 10, 3, 4, 5, 6], w9 cy aR aG aT SR_10 ++ (w2 cy aC (r_7.2.2.2)), rfl, rfl, rfl, rfl, by decide, rfl, rfl⟩) 0 3 rfl rfl rfl rfl hl.1 rfl (Nat.le_of_ble_eq_true rfl) dX9_billLine_75 ⟨Nat.zero_le _, Nat.zero_le _⟩ (fun H locs hW => ?_)
      obtain ⟨hz, hf⟩ := ck_of hf
      obtain rfl := Option.some.inj hf
      exact g_zret hC hW hz dX9_billLine_78
    · have hf := ite_t hf hc_9
      refine lv_iconst (v := 0) hC.1 hC.2.1 dX9_billLine_53 (by decide) ?_
      obtain rfl := Option.some.inj hf
      exact g_zret (v := 0) hC hW (by decide) dX9_billLine_54
  · have hf := ite_f hf hc_1
    refine lv_aload_n hC.1 hC.2.1 dX9_billLine_7 rfl (lv_at hl 0 rfl) ?_
    refine g_get hC hW hin9_billLine_9 0 rfl rfl 0 (by decide) 2 rfl rfl dX9_billLine_8 ?_
    refine lv_iconst (v := 3) hC.1 hC.2.1 dX9_billLine_11 (by decide) ?_
    obtain ⟨r_13, hg_14, hf⟩ := bd_of hf
    refine g_calliV (w' := w9 cy aR aG aT SR ++ (w3 cy aG aT aC (.ref (aI 0)) (r_13.2) ++ (w10 cy aT ST ++ (w2 cy aC SC)))) hC hW (c3_fail l D cy ad aG aT aC aI hg_14) (cwV 1 hC.2.2.2.2.1 gX9_billLine_X3_fail rfl rfl rfl hdV3_fail ⟨Nat.le_of_ble_eq_true rfl, Nat.le_of_ble_eq_true rfl⟩) (⟨[3, 4, 5, 6], [0, 1, 2, 7, 8, 9, 10], [0, 1, 2, 7, 8, 9, 10, 3, 4, 5, 6], w9 cy aR aG aT SR ++ (w2 cy aC SC), rfl, rfl, rfl, rfl, by decide, rfl, rfl⟩) 0 3 rfl rfl rfl rfl hl.1 rfl (Nat.le_of_ble_eq_true rfl) dX9_billLine_12 ⟨Nat.zero_le _, Nat.zero_le _⟩ (fun H locs hW => ?_)
    obtain ⟨hz, hf⟩ := ck_of hf
    obtain rfl := Option.some.inj hf
    exact g_zret hC hW hz dX9_billLine_15
set_option maxRecDepth 100000 in
set_option maxHeartbeats 4000000 in
theorem c9_billLine (l : Launch) (D : va_G) (cy : Nat → ClassId) (ad : Nat → Nat) (aR : Nat → Nat) (aG : Nat → Nat) (aT : Nat → Nat) (aC : Nat → Nat) (aI : Nat → Nat) {SR : Ob} {SG : Ob} {ST : Ob} {SC : Ob} {res : Int32 × Ob × Ob × Ob × Ob} (h : f9_billLine SR SG ST SC = some res) : GCi l yX9_billLine wsX9_billLine rm9_billLine [.ref (aR 0)] D cy ad (w9 cy aR aG aT SR ++ (w3 cy aG aT aC (.ref (aI 0)) SG ++ (w10 cy aT ST ++ (w2 cy aC SC)))) (w9 cy aR aG aT (res.2.1) ++ (w3 cy aG aT aC (.ref (aI 0)) (res.2.2.1) ++ (w10 cy aT (res.2.2.2.1) ++ (w2 cy aC (res.2.2.2.2))))) (res.1) := fun sz => GC.start (own := RX9) (Qc := fun A => QI D cy (w9 cy aR aG aT (res.2.1) ++ (w3 cy aG aT aC (.ref (aI 0)) (res.2.2.1) ++ (w10 cy aT (res.2.2.2.1) ++ (w2 cy aC (res.2.2.2.2))))) A (res.1)) sz (by decide) rfl rfl (Nat.le_of_ble_eq_true rfl) (fun p e s m below meth c A ls hC hW hl => t9_billLine_0 hC _ _ _ _ _ _ _ _ h hW (lv_sub hl [0] rfl))
abbrev rm9_innLine : Room := { frames := 72, cells := 0, slots := 0, locals := 1705 }
theorem hdV9_innLine : yX9_innLine.cls = RX9 ∧ (yX9_innLine.cls ≠ "java/lang/invoke/MethodHandle" ∧ yX9_innLine.cls ≠ "java/lang/invoke/VarHandle" ∧ (parseMethodDescriptor yX9_innLine.desc).map (fun d => d.parameters.length) = some 1) := by decide +kernel
theorem hin9_innLine_9 : ∀ x ∈ u_ws RX9 TX9 7, x ∈ wsX9_innLine := fun _ h => List.mem_cons_of_mem _ (List.mem_append_left _ (List.mem_append_left _ (List.mem_append_left _ (List.mem_append_left _ (List.mem_append_right _ h)))))
theorem hin9_innLine_10 : ∀ x ∈ u_ws RX10 TX10 8, x ∈ wsX9_innLine := fun _ h => List.mem_cons_of_mem _ (List.mem_append_left _ (List.mem_append_left _ (List.mem_append_left _ (List.mem_append_right _ h))))
set_option maxRecDepth 100000 in
set_option maxHeartbeats 4000000 in
theorem t9_innLine_0 (hC : Cx p s m args meth c cX9_innLine 2 wsX9_innLine RX9 (some .boolean)) : ∀ (SR : Ob) (SG : Ob) (ST : Ob) (SC : Ob) (SI : Ob) (res : Int32 × Ob × Ob × Ob × Ob × Ob) (H : Heap) (locs : List Loc) (ls : Array Slot), f9_innLine SR SG ST SC SI = some res → GW D cy ad (w9 cy aR aG aT SR ++ (w3 cy aG aT aC (.ref (aI 0)) SG ++ (w10 cy aT ST ++ (w2 cy aC SC ++ (w4 cy aI SI))))) A s H locs → lv_has ls 2 [(0, .ref (aR 0)), (1, .ref (aI 0))] → W p l e rm9_innLine s m args below meth c H locs 0 0 (MQ below (QI D cy (w9 cy aR aG aT (res.2.1) ++ (w3 cy aG aT aC (.ref (aI 0)) (res.2.2.1) ++ (w10 cy aT (res.2.2.2.1) ++ (w2 cy aC (res.2.2.2.2.1) ++ (w4 cy aI (res.2.2.2.2.2)))))) A (res.1)) args s 0 0 A) (F0 m 0 ls []) := by
  intro SR SG ST SC SI res H locs ls hf hW hl
  unfold f9_innLine at hf
  refine lv_aload_n hC.1 hC.2.1 dX9_innLine_0 rfl (lv_at hl 0 rfl) ?_
  refine g_get hC hW hin9_innLine_9 0 rfl rfl 1 (by decide) 1 rfl rfl dX9_innLine_1 ?_
  refine g_get hC hW hin9_innLine_10 4 rfl rfl 3 (by decide) 2 rfl rfl dX9_innLine_4 ?_
  by_cases hc_1 : (ST.1 3) = 0
  · have hf := ite_t hf hc_1
    refine lv_tableIn (tgt := 56) hC.1 hC.2.1 dX9_innLine_7 (by rw [hc_1]; decide) (by rw [hc_1]; decide) (by rw [hc_1]; rfl) (by decide) ?_
    refine lv_aload_n hC.1 hC.2.1 dX9_innLine_56 rfl (lv_at hl 0 rfl) ?_
    refine lv_aload_n hC.1 hC.2.1 dX9_innLine_57 rfl (lv_at hl 1 rfl) ?_
    obtain ⟨r_2, hg_3, hf⟩ := bd_of hf
    refine g_calliV (w' := w9 cy aR aG aT SR ++ (w3 cy aG aT aC (.ref (aI 0)) (r_2.2.1) ++ (w10 cy aT (r_2.2.2.1) ++ (w2 cy aC SC ++ (w4 cy aI (r_2.2.2.2)))))) hC hW (c9_guestLine l D cy ad aR aG aT aC aI hg_3) (cwV 1 hC.2.2.2.2.1 gX9_innLine_X9_guestLine rfl rfl rfl hdV9_guestLine ⟨Nat.le_of_ble_eq_true rfl, Nat.le_of_ble_eq_true rfl⟩) (⟨[0, 1, 2, 3, 4, 5, 6, 11, 12, 13, 14, 15, 16, 17, 18, 19, 20, 21, 22], [7, 8, 9, 10], [4, 5, 6, 7, 8, 9, 10, 0, 1, 2, 3, 11, 12, 13, 14, 15, 16, 17, 18, 19, 20, 21, 22], w2 cy aC SC, rfl, rfl, rfl, rfl, by decide, rfl, rfl⟩) 0 8 rfl rfl rfl rfl hl.1 rfl (Nat.le_of_ble_eq_true rfl) dX9_innLine_58 ⟨Nat.zero_le _, Nat.zero_le _⟩ (fun H locs hW => ?_)
    obtain ⟨hz, hf⟩ := ck_of hf
    obtain rfl := Option.some.inj hf
    exact g_zret hC hW hz dX9_innLine_61
  · have hf := ite_f hf hc_1
    by_cases hc_4 : (ST.1 3) = 3
    · have hf := ite_t hf hc_4
      refine lv_tableIn (tgt := 62) hC.1 hC.2.1 dX9_innLine_7 (by rw [hc_4]; decide) (by rw [hc_4]; decide) (by rw [hc_4]; rfl) (by decide) ?_
      refine lv_aload_n hC.1 hC.2.1 dX9_innLine_62 rfl (lv_at hl 0 rfl) ?_
      refine lv_aload_n hC.1 hC.2.1 dX9_innLine_63 rfl (lv_at hl 1 rfl) ?_
      obtain ⟨r_5, hg_6, hf⟩ := bd_of hf
      refine g_calliV (w' := w9 cy aR aG aT (r_5.2.1) ++ (w3 cy aG aT aC (.ref (aI 0)) (r_5.2.2.1) ++ (w10 cy aT (r_5.2.2.2.1) ++ (w2 cy aC (r_5.2.2.2.2.1) ++ (w4 cy aI (r_5.2.2.2.2.2)))))) hC hW (c9_signLine l D cy ad aR aG aT aC aI hg_6) (cwV 1 hC.2.2.2.2.1 gX9_innLine_X9_signLine rfl rfl rfl hdV9_signLine ⟨Nat.le_of_ble_eq_true rfl, Nat.le_of_ble_eq_true rfl⟩) (Sub.all _ _) 0 8 rfl rfl rfl rfl hl.1 rfl (Nat.le_of_ble_eq_true rfl) dX9_innLine_64 ⟨Nat.zero_le _, Nat.zero_le _⟩ (fun H locs hW => ?_)
      obtain ⟨hz, hf⟩ := ck_of hf
      obtain rfl := Option.some.inj hf
      exact g_zret hC hW hz dX9_innLine_67
    · have hf := ite_f hf hc_4
      by_cases hc_7 : (ST.1 3) = 6
      · have hf := ite_t hf hc_7
        refine lv_tableIn (tgt := 68) hC.1 hC.2.1 dX9_innLine_7 (by rw [hc_7]; decide) (by rw [hc_7]; decide) (by rw [hc_7]; rfl) (by decide) ?_
        refine lv_aload_n hC.1 hC.2.1 dX9_innLine_68 rfl (lv_at hl 0 rfl) ?_
        refine lv_aload_n hC.1 hC.2.1 dX9_innLine_69 rfl (lv_at hl 1 rfl) ?_
        obtain ⟨r_8, hg_9, hf⟩ := bd_of hf
        refine g_calliV (w' := w9 cy aR aG aT SR ++ (w3 cy aG aT aC (.ref (aI 0)) (r_8.2.1) ++ (w10 cy aT (r_8.2.2.1) ++ (w2 cy aC SC ++ (w4 cy aI (r_8.2.2.2)))))) hC hW (c9_seesLine l D cy ad aR aG aT aC aI hg_9) (cwV 1 hC.2.2.2.2.1 gX9_innLine_X9_seesLine rfl rfl rfl hdV9_seesLine ⟨Nat.le_of_ble_eq_true rfl, Nat.le_of_ble_eq_true rfl⟩) (⟨[0, 1, 2, 3, 4, 5, 6, 11, 12, 13, 14, 15, 16, 17, 18, 19, 20, 21, 22], [7, 8, 9, 10], [4, 5, 6, 7, 8, 9, 10, 0, 1, 2, 3, 11, 12, 13, 14, 15, 16, 17, 18, 19, 20, 21, 22], w2 cy aC SC, rfl, rfl, rfl, rfl, by decide, rfl, rfl⟩) 0 8 rfl rfl rfl rfl hl.1 rfl (Nat.le_of_ble_eq_true rfl) dX9_innLine_70 ⟨Nat.zero_le _, Nat.zero_le _⟩ (fun H locs hW => ?_)
        obtain ⟨hz, hf⟩ := ck_of hf
        obtain rfl := Option.some.inj hf
        exact g_zret hC hW hz dX9_innLine_73
      · have hf := ite_f hf hc_7
        by_cases hc_10 : (ST.1 3) = 7
        · have hf := ite_t hf hc_10
          refine lv_tableIn (tgt := 74) hC.1 hC.2.1 dX9_innLine_7 (by rw [hc_10]; decide) (by rw [hc_10]; decide) (by rw [hc_10]; rfl) (by decide) ?_
          refine lv_aload_n hC.1 hC.2.1 dX9_innLine_74 rfl (lv_at hl 0 rfl) ?_
          refine lv_aload_n hC.1 hC.2.1 dX9_innLine_75 rfl (lv_at hl 1 rfl) ?_
          obtain ⟨r_11, hg_12, hf⟩ := bd_of hf
          refine g_calliV (w' := w9 cy aR aG aT SR ++ (w3 cy aG aT aC (.ref (aI 0)) (r_11.2.1) ++ (w10 cy aT (r_11.2.2.1) ++ (w2 cy aC SC ++ (w4 cy aI (r_11.2.2.2)))))) hC hW (c9_shunLine l D cy ad aR aG aT aC aI hg_12) (cwV 1 hC.2.2.2.2.1 gX9_innLine_X9_shunLine rfl rfl rfl hdV9_shunLine ⟨Nat.le_of_ble_eq_true rfl, Nat.le_of_ble_eq_true rfl⟩) (⟨[0, 1, 2, 3, 4, 5, 6, 11, 12, 13, 14, 15, 16, 17, 18, 19, 20, 21, 22], [7, 8, 9, 10], [4, 5, 6, 7, 8, 9, 10, 0, 1, 2, 3, 11, 12, 13, 14, 15, 16, 17, 18, 19, 20, 21, 22], w2 cy aC SC, rfl, rfl, rfl, rfl, by decide, rfl, rfl⟩) 0 8 rfl rfl rfl rfl hl.1 rfl (Nat.le_of_ble_eq_true rfl) dX9_innLine_76 ⟨Nat.zero_le _, Nat.zero_le _⟩ (fun H locs hW => ?_)
          obtain ⟨hz, hf⟩ := ck_of hf
          obtain rfl := Option.some.inj hf
          exact g_zret hC hW hz dX9_innLine_79
        · have hf := ite_f hf hc_10
          by_cases hc_13 : (ST.1 3) = 8
          · have hf := ite_t hf hc_13
            refine lv_tableIn (tgt := 80) hC.1 hC.2.1 dX9_innLine_7 (by rw [hc_13]; decide) (by rw [hc_13]; decide) (by rw [hc_13]; rfl) (by decide) ?_
            refine lv_aload_n hC.1 hC.2.1 dX9_innLine_80 rfl (lv_at hl 0 rfl) ?_
            obtain ⟨r_14, hg_15, hf⟩ := bd_of hf
            refine g_calliV (w' := w9 cy aR aG aT (r_14.2.1) ++ (w3 cy aG aT aC (.ref (aI 0)) (r_14.2.2.1) ++ (w10 cy aT (r_14.2.2.2.1) ++ (w2 cy aC (r_14.2.2.2.2) ++ (w4 cy aI SI))))) hC hW (c9_billLine l D cy ad aR aG aT aC aI hg_15) (cwV 0 hC.2.2.2.2.1 gX9_innLine_X9_billLine rfl rfl rfl hdV9_billLine ⟨Nat.le_of_ble_eq_true rfl, Nat.le_of_ble_eq_true rfl⟩) (⟨[0, 1, 2, 3, 4, 5, 6, 7, 8, 9, 10], [11, 12, 13, 14, 15, 16, 17, 18, 19, 20, 21, 22], [12, 13, 14, 15, 16, 17, 18, 19, 20, 21, 22, 0, 1, 2, 3, 4, 5, 6, 7, 8, 9, 10, 11], w4 cy aI SI, rfl, rfl, rfl, rfl, by decide, rfl, rfl⟩) 0 8 rfl rfl rfl rfl hl.1 rfl (Nat.le_of_ble_eq_true rfl) dX9_innLine_81 ⟨Nat.zero_le _, Nat.zero_le _⟩ (fun H locs hW => ?_)
            obtain ⟨hz, hf⟩ := ck_of hf
            obtain rfl := Option.some.inj hf
            exact g_zret hC hW hz dX9_innLine_84
          · have hf := ite_f hf hc_13
            by_cases hd_16 : (ST.1 3) = 1
            · refine lv_tableIn (tgt := 85) hC.1 hC.2.1 dX9_innLine_7 (by rw [hd_16]; decide) (by rw [hd_16]; decide) (by rw [hd_16]; rfl) (by decide) ?_
              refine lv_aload_n hC.1 hC.2.1 dX9_innLine_85 rfl (lv_at hl 0 rfl) ?_
              refine g_get hC hW hin9_innLine_9 0 rfl rfl 0 (by decide) 3 rfl rfl dX9_innLine_86 ?_
              refine lv_iconst (v := 1) hC.1 hC.2.1 dX9_innLine_89 (by decide) ?_
              obtain ⟨r_17, hg_18, hf⟩ := bd_of hf
              refine g_calliV (w' := w9 cy aR aG aT SR ++ (w3 cy aG aT aC (.ref (aI 0)) (r_17.2) ++ (w10 cy aT ST ++ (w2 cy aC SC ++ (w4 cy aI SI))))) hC hW (c3_fail l D cy ad aG aT aC aI hg_18) (cwV 1 hC.2.2.2.2.1 gX9_innLine_X3_fail rfl rfl rfl hdV3_fail ⟨Nat.le_of_ble_eq_true rfl, Nat.le_of_ble_eq_true rfl⟩) (⟨[3, 4, 5, 6], [0, 1, 2, 7, 8, 9, 10, 11, 12, 13, 14, 15, 16, 17, 18, 19, 20, 21, 22], [0, 1, 2, 19, 20, 21, 22, 3, 4, 5, 6, 7, 8, 9, 10, 11, 12, 13, 14, 15, 16, 17, 18], w9 cy aR aG aT SR ++ (w2 cy aC SC ++ (w4 cy aI SI)), rfl, rfl, rfl, rfl, by decide, rfl, rfl⟩) 0 3 rfl rfl rfl rfl hl.1 rfl (Nat.le_of_ble_eq_true rfl) dX9_innLine_90 ⟨Nat.zero_le _, Nat.zero_le _⟩ (fun H locs hW => ?_)
              obtain ⟨hz, hf⟩ := ck_of hf
              obtain rfl := Option.some.inj hf
              exact g_zret hC hW hz dX9_innLine_93
            · skip
              by_cases hd_19 : (ST.1 3) = 2
              · refine lv_tableIn (tgt := 85) hC.1 hC.2.1 dX9_innLine_7 (by rw [hd_19]; decide) (by rw [hd_19]; decide) (by rw [hd_19]; rfl) (by decide) ?_
                refine lv_aload_n hC.1 hC.2.1 dX9_innLine_85 rfl (lv_at hl 0 rfl) ?_
                refine g_get hC hW hin9_innLine_9 0 rfl rfl 0 (by decide) 3 rfl rfl dX9_innLine_86 ?_
                refine lv_iconst (v := 1) hC.1 hC.2.1 dX9_innLine_89 (by decide) ?_
                obtain ⟨r_20, hg_21, hf⟩ := bd_of hf
                refine g_calliV (w' := w9 cy aR aG aT SR ++ (w3 cy aG aT aC (.ref (aI 0)) (r_20.2) ++ (w10 cy aT ST ++ (w2 cy aC SC ++ (w4 cy aI SI))))) hC hW (c3_fail l D cy ad aG aT aC aI hg_21) (cwV 1 hC.2.2.2.2.1 gX9_innLine_X3_fail rfl rfl rfl hdV3_fail ⟨Nat.le_of_ble_eq_true rfl, Nat.le_of_ble_eq_true rfl⟩) (⟨[3, 4, 5, 6], [0, 1, 2, 7, 8, 9, 10, 11, 12, 13, 14, 15, 16, 17, 18, 19, 20, 21, 22], [0, 1, 2, 19, 20, 21, 22, 3, 4, 5, 6, 7, 8, 9, 10, 11, 12, 13, 14, 15, 16, 17, 18], w9 cy aR aG aT SR ++ (w2 cy aC SC ++ (w4 cy aI SI)), rfl, rfl, rfl, rfl, by decide, rfl, rfl⟩) 0 3 rfl rfl rfl rfl hl.1 rfl (Nat.le_of_ble_eq_true rfl) dX9_innLine_90 ⟨Nat.zero_le _, Nat.zero_le _⟩ (fun H locs hW => ?_)
                obtain ⟨hz, hf⟩ := ck_of hf
                obtain rfl := Option.some.inj hf
                exact g_zret hC hW hz dX9_innLine_93
              · skip
                by_cases hd_22 : (ST.1 3) = 4
                · refine lv_tableIn (tgt := 85) hC.1 hC.2.1 dX9_innLine_7 (by rw [hd_22]; decide) (by rw [hd_22]; decide) (by rw [hd_22]; rfl) (by decide) ?_
                  refine lv_aload_n hC.1 hC.2.1 dX9_innLine_85 rfl (lv_at hl 0 rfl) ?_
                  refine g_get hC hW hin9_innLine_9 0 rfl rfl 0 (by decide) 3 rfl rfl dX9_innLine_86 ?_
                  refine lv_iconst (v := 1) hC.1 hC.2.1 dX9_innLine_89 (by decide) ?_
                  obtain ⟨r_23, hg_24, hf⟩ := bd_of hf
                  refine g_calliV (w' := w9 cy aR aG aT SR ++ (w3 cy aG aT aC (.ref (aI 0)) (r_23.2) ++ (w10 cy aT ST ++ (w2 cy aC SC ++ (w4 cy aI SI))))) hC hW (c3_fail l D cy ad aG aT aC aI hg_24) (cwV 1 hC.2.2.2.2.1 gX9_innLine_X3_fail rfl rfl rfl hdV3_fail ⟨Nat.le_of_ble_eq_true rfl, Nat.le_of_ble_eq_true rfl⟩) (⟨[3, 4, 5, 6], [0, 1, 2, 7, 8, 9, 10, 11, 12, 13, 14, 15, 16, 17, 18, 19, 20, 21, 22], [0, 1, 2, 19, 20, 21, 22, 3, 4, 5, 6, 7, 8, 9, 10, 11, 12, 13, 14, 15, 16, 17, 18], w9 cy aR aG aT SR ++ (w2 cy aC SC ++ (w4 cy aI SI)), rfl, rfl, rfl, rfl, by decide, rfl, rfl⟩) 0 3 rfl rfl rfl rfl hl.1 rfl (Nat.le_of_ble_eq_true rfl) dX9_innLine_90 ⟨Nat.zero_le _, Nat.zero_le _⟩ (fun H locs hW => ?_)
                  obtain ⟨hz, hf⟩ := ck_of hf
                  obtain rfl := Option.some.inj hf
                  exact g_zret hC hW hz dX9_innLine_93
                · skip
                  by_cases hd_25 : (ST.1 3) = 5
                  · refine lv_tableIn (tgt := 85) hC.1 hC.2.1 dX9_innLine_7 (by rw [hd_25]; decide) (by rw [hd_25]; decide) (by rw [hd_25]; rfl) (by decide) ?_
                    refine lv_aload_n hC.1 hC.2.1 dX9_innLine_85 rfl (lv_at hl 0 rfl) ?_
                    refine g_get hC hW hin9_innLine_9 0 rfl rfl 0 (by decide) 3 rfl rfl dX9_innLine_86 ?_
                    refine lv_iconst (v := 1) hC.1 hC.2.1 dX9_innLine_89 (by decide) ?_
                    obtain ⟨r_26, hg_27, hf⟩ := bd_of hf
                    refine g_calliV (w' := w9 cy aR aG aT SR ++ (w3 cy aG aT aC (.ref (aI 0)) (r_26.2) ++ (w10 cy aT ST ++ (w2 cy aC SC ++ (w4 cy aI SI))))) hC hW (c3_fail l D cy ad aG aT aC aI hg_27) (cwV 1 hC.2.2.2.2.1 gX9_innLine_X3_fail rfl rfl rfl hdV3_fail ⟨Nat.le_of_ble_eq_true rfl, Nat.le_of_ble_eq_true rfl⟩) (⟨[3, 4, 5, 6], [0, 1, 2, 7, 8, 9, 10, 11, 12, 13, 14, 15, 16, 17, 18, 19, 20, 21, 22], [0, 1, 2, 19, 20, 21, 22, 3, 4, 5, 6, 7, 8, 9, 10, 11, 12, 13, 14, 15, 16, 17, 18], w9 cy aR aG aT SR ++ (w2 cy aC SC ++ (w4 cy aI SI)), rfl, rfl, rfl, rfl, by decide, rfl, rfl⟩) 0 3 rfl rfl rfl rfl hl.1 rfl (Nat.le_of_ble_eq_true rfl) dX9_innLine_90 ⟨Nat.zero_le _, Nat.zero_le _⟩ (fun H locs hW => ?_)
                    obtain ⟨hz, hf⟩ := ck_of hf
                    obtain rfl := Option.some.inj hf
                    exact g_zret hC hW hz dX9_innLine_93
                  · skip
                    refine lv_tableOut (tgt := 85) hC.1 hC.2.1 dX9_innLine_7 (tab_out [0, 1, 2, 3, 4, 5, 6, 7, 8] (List.forall_mem_cons.mpr ⟨hc_1, (List.forall_mem_cons.mpr ⟨hd_16, (List.forall_mem_cons.mpr ⟨hd_19, (List.forall_mem_cons.mpr ⟨hc_4, (List.forall_mem_cons.mpr ⟨hd_22, (List.forall_mem_cons.mpr ⟨hd_25, (List.forall_mem_cons.mpr ⟨hc_7, (List.forall_mem_cons.mpr ⟨hc_10, (List.forall_mem_cons.mpr ⟨hc_13, (fun _ h => by cases h)⟩)⟩)⟩)⟩)⟩)⟩)⟩)⟩)⟩) (by decide)) (by decide) ?_
                    refine lv_aload_n hC.1 hC.2.1 dX9_innLine_85 rfl (lv_at hl 0 rfl) ?_
                    refine g_get hC hW hin9_innLine_9 0 rfl rfl 0 (by decide) 3 rfl rfl dX9_innLine_86 ?_
                    refine lv_iconst (v := 1) hC.1 hC.2.1 dX9_innLine_89 (by decide) ?_
                    obtain ⟨r_28, hg_29, hf⟩ := bd_of hf
                    refine g_calliV (w' := w9 cy aR aG aT SR ++ (w3 cy aG aT aC (.ref (aI 0)) (r_28.2) ++ (w10 cy aT ST ++ (w2 cy aC SC ++ (w4 cy aI SI))))) hC hW (c3_fail l D cy ad aG aT aC aI hg_29) (cwV 1 hC.2.2.2.2.1 gX9_innLine_X3_fail rfl rfl rfl hdV3_fail ⟨Nat.le_of_ble_eq_true rfl, Nat.le_of_ble_eq_true rfl⟩) (⟨[3, 4, 5, 6], [0, 1, 2, 7, 8, 9, 10, 11, 12, 13, 14, 15, 16, 17, 18, 19, 20, 21, 22], [0, 1, 2, 19, 20, 21, 22, 3, 4, 5, 6, 7, 8, 9, 10, 11, 12, 13, 14, 15, 16, 17, 18], w9 cy aR aG aT SR ++ (w2 cy aC SC ++ (w4 cy aI SI)), rfl, rfl, rfl, rfl, by decide, rfl, rfl⟩) 0 3 rfl rfl rfl rfl hl.1 rfl (Nat.le_of_ble_eq_true rfl) dX9_innLine_90 ⟨Nat.zero_le _, Nat.zero_le _⟩ (fun H locs hW => ?_)
                    obtain ⟨hz, hf⟩ := ck_of hf
                    obtain rfl := Option.some.inj hf
                    exact g_zret hC hW hz dX9_innLine_93
set_option maxRecDepth 100000 in
set_option maxHeartbeats 4000000 in
theorem c9_innLine (l : Launch) (D : va_G) (cy : Nat → ClassId) (ad : Nat → Nat) (aR : Nat → Nat) (aG : Nat → Nat) (aT : Nat → Nat) (aC : Nat → Nat) (aI : Nat → Nat) {SR : Ob} {SG : Ob} {ST : Ob} {SC : Ob} {SI : Ob} {res : Int32 × Ob × Ob × Ob × Ob × Ob} (h : f9_innLine SR SG ST SC SI = some res) : GCi l yX9_innLine wsX9_innLine rm9_innLine [.ref (aR 0), .ref (aI 0)] D cy ad (w9 cy aR aG aT SR ++ (w3 cy aG aT aC (.ref (aI 0)) SG ++ (w10 cy aT ST ++ (w2 cy aC SC ++ (w4 cy aI SI))))) (w9 cy aR aG aT (res.2.1) ++ (w3 cy aG aT aC (.ref (aI 0)) (res.2.2.1) ++ (w10 cy aT (res.2.2.2.1) ++ (w2 cy aC (res.2.2.2.2.1) ++ (w4 cy aI (res.2.2.2.2.2)))))) (res.1) := fun sz => GC.start (own := RX9) (Qc := fun A => QI D cy (w9 cy aR aG aT (res.2.1) ++ (w3 cy aG aT aC (.ref (aI 0)) (res.2.2.1) ++ (w10 cy aT (res.2.2.2.1) ++ (w2 cy aC (res.2.2.2.2.1) ++ (w4 cy aI (res.2.2.2.2.2)))))) A (res.1)) sz (by decide) rfl rfl (Nat.le_of_ble_eq_true rfl) (fun p e s m below meth c A ls hC hW hl => t9_innLine_0 hC _ _ _ _ _ _ _ _ _ h hW (lv_sub hl [0, 1] rfl))
abbrev rm9_workOut : Room := { frames := 4, cells := 0, slots := 0, locals := 92 }
theorem hdV9_workOut : yX9_workOut.cls = RX9 ∧ (yX9_workOut.cls ≠ "java/lang/invoke/MethodHandle" ∧ yX9_workOut.cls ≠ "java/lang/invoke/VarHandle" ∧ (parseMethodDescriptor yX9_workOut.desc).map (fun d => d.parameters.length) = some 1) := by decide +kernel
theorem hin9_workOut_4 : ∀ x ∈ u_ws RX4 TX4 13, x ∈ wsX9_workOut := fun _ h => List.mem_cons_of_mem _ (List.mem_append_left _ (List.mem_append_left _ (List.mem_append_left _ (List.mem_append_right _ h))))
theorem hin9_workOut_9 : ∀ x ∈ u_ws RX9 TX9 7, x ∈ wsX9_workOut := fun _ h => List.mem_cons_of_mem _ (List.mem_append_left _ (List.mem_append_left _ (List.mem_append_right _ h)))
theorem hin9_workOut_3 : ∀ x ∈ u_ws RX3 TX3 4, x ∈ wsX9_workOut := fun _ h => List.mem_cons_of_mem _ (List.mem_append_left _ (List.mem_append_right _ h))
set_option maxRecDepth 100000 in
set_option maxHeartbeats 4000000 in
theorem t9_workOut_91 (hC : Cx p s m args meth c cX9_workOut 4 wsX9_workOut RX9 none) {k52 : Int32 → Ob → Ob → Ob → Ob → Option (Ob × Ob)} (hk52 : ∀ (x2 : Int32) (SR : Ob) (SG : Ob) (SC : Ob) (SI : Ob) (res : Ob × Ob) (H : Heap) (locs : List Loc) (ls : Array Slot), k52 x2 SR SG SC SI = some res → GW D cy ad (w9 cy aR aG aT SR ++ (w3 cy aG aT aC (.ref (aI 0)) SG ++ (w2 cy aC SC ++ (w4 cy aI SI)))) A s H locs → lv_has ls 4 [(0, .ref (aR 0)), (1, .ref (aI 0)), (2, .int x2)] → W p l e rm9_workOut s m args below meth c H locs 0 0 (MQ below (QV D cy (w9 cy aR aG aT SR ++ (w3 cy aG aT aC (.ref (aI 0)) SG ++ (w2 cy aC (res.1) ++ (w4 cy aI (res.2))))) A) args s 0 0 A) (F0 m 52 ls [])) : ∀ (x2 : Int32) (z0 : Int32) (SR : Ob) (SG : Ob) (SC : Ob) (SI : Ob) (res : Ob × Ob) (H : Heap) (locs : List Loc) (ls : Array Slot), f9_workOut_91 k52 x2 z0 SR SG SC SI = some res → GW D cy ad (w9 cy aR aG aT SR ++ (w3 cy aG aT aC (.ref (aI 0)) SG ++ (w2 cy aC SC ++ (w4 cy aI SI)))) A s H locs → lv_has ls 4 [(0, .ref (aR 0)), (1, .ref (aI 0)), (2, .int x2)] → W p l e rm9_workOut s m args below meth c H locs 0 0 (MQ below (QV D cy (w9 cy aR aG aT SR ++ (w3 cy aG aT aC (.ref (aI 0)) SG ++ (w2 cy aC (res.1) ++ (w4 cy aI (res.2))))) A) args s 0 0 A) (F0 m 91 ls [.int z0]) := by
  intro x2 z0 SR SG SC SI res H locs ls hf hW hl
  unfold f9_workOut_91 at hf
  refine lv_istore_n (lv' := [(3, .int z0), (0, .ref (aR 0)), (1, .ref (aI 0)), (2, .int x2)]) hC.1 hC.2.1 dX9_workOut_91 rfl hl (by decide) rfl (fun ls hl => ?_)
  refine lv_aload_n hC.1 hC.2.1 dX9_workOut_92 rfl (lv_at hl 2 rfl) ?_
  refine g_get hC hW hin9_workOut_4 8 rfl rfl 7 (by decide) 10 rfl rfl dX9_workOut_93 ?_
  refine lv_iload_n hC.1 hC.2.1 dX9_workOut_96 rfl (lv_at hl 3 rfl) ?_
  refine lv_iconst (v := 0) hC.1 hC.2.1 dX9_workOut_97 (by decide) ?_
  refine lv_bipush (v := 99) hC.1 hC.2.1 dX9_workOut_98 (by decide) ?_
  refine lv_iload_n hC.1 hC.2.1 dX9_workOut_100 rfl (lv_at hl 0 rfl) ?_
  refine va_mmin hC.1 hC.2.1 (by rw [hC.2.2.1]; exact hl.1.symm) hC.2.2.2.1 (hC.2.2.2.2.1 _ (List.mem_of_getElem? (i := 11) rfl)) (hC.2.2.2.2.1 _ (List.mem_of_getElem? (i := 12) rfl)) (hC.2.2.2.2.1 _ (List.mem_of_getElem? (i := 13) rfl)) (hC.2.2.2.2.1 _ (List.mem_of_getElem? (i := 14) rfl)) (Nat.le_of_ble_eq_true rfl) (Nat.le_of_ble_eq_true rfl) (Nat.zero_le _) (Nat.zero_le _) dX9_workOut_101 ?_
  refine va_mmax hC.1 hC.2.1 (by rw [hC.2.2.1]; exact hl.1.symm) hC.2.2.2.1 (hC.2.2.2.2.1 _ (List.mem_of_getElem? (i := 15) rfl)) (hC.2.2.2.2.1 _ (List.mem_of_getElem? (i := 16) rfl)) (hC.2.2.2.2.1 _ (List.mem_of_getElem? (i := 13) rfl)) (hC.2.2.2.2.1 _ (List.mem_of_getElem? (i := 17) rfl)) (Nat.le_of_ble_eq_true rfl) (Nat.le_of_ble_eq_true rfl) (Nat.zero_le _) (Nat.zero_le _) dX9_workOut_104 ?_
  obtain ⟨hi_1, hf⟩ := ck_of hf
  obtain ⟨SI_2, eSI_2⟩ : ∃ y : Ob, y = oA SI 7 (Int32.toNatClampNeg x2) (if 0 < (if z0 < 99 then z0 else 99) then (if z0 < 99 then z0 else 99) else 0) := ⟨_, rfl⟩
  have hf := lt_nm hf eSI_2
  refine g_iast hC hW 15 rfl hi_1 (w' := w9 cy aR aG aT SR ++ (w3 cy aG aT aC (.ref (aI 0)) SG ++ (w2 cy aC SC ++ (w4 cy aI SI_2)))) (by rw [eSI_2]; rfl) dX9_workOut_107 (fun H locs hW => ?_)
  obtain ⟨x2_3, ex2_3⟩ : ∃ y : Int32, y = x2 + 1 := ⟨_, rfl⟩
  have hf := lt_nm hf ex2_3
  refine lv_iinc (v := x2_3) (lv' := [(2, .int x2_3), (3, .int z0), (0, .ref (aR 0)), (1, .ref (aI 0))]) hC.1 hC.2.1 dX9_workOut_108 hl (k := 3) rfl (by rw [ex2_3]; rfl) (by decide) rfl (fun ls hl => ?_)
  refine lv_goto (tgt := 52) hC.1 hC.2.1 dX9_workOut_111 (by decide) ?_
  exact hk52 _ _ _ _ _ _ _ _ _ hf hW (lv_sub hl [2, 3, 0] rfl)
set_option maxRecDepth 100000 in
set_option maxHeartbeats 4000000 in
theorem t9_workOut_52 (hC : Cx p s m args meth c cX9_workOut 4 wsX9_workOut RX9 none) : ∀ n : Nat, ∀ (x2 : Int32) (SR : Ob) (SG : Ob) (SC : Ob) (SI : Ob) (res : Ob × Ob) (H : Heap) (locs : List Loc) (ls : Array Slot), f9_workOut_52 n x2 SR SG SC SI = some res → GW D cy ad (w9 cy aR aG aT SR ++ (w3 cy aG aT aC (.ref (aI 0)) SG ++ (w2 cy aC SC ++ (w4 cy aI SI)))) A s H locs → lv_has ls 4 [(0, .ref (aR 0)), (1, .ref (aI 0)), (2, .int x2)] → W p l e rm9_workOut s m args below meth c H locs 0 0 (MQ below (QV D cy (w9 cy aR aG aT SR ++ (w3 cy aG aT aC (.ref (aI 0)) SG ++ (w2 cy aC (res.1) ++ (w4 cy aI (res.2))))) A) args s 0 0 A) (F0 m 52 ls []) := by
  intro n
  induction n with
  | zero =>
    intro _ _ _ _ _ _ _ _ _ hf _ _
    exact nomatch (show (none : Option (Ob × Ob)) = some _ from hf)
  | succ n ih =>
    intro x2 SR SG SC SI res H locs ls hf hW hl
    rw [f9_workOut_52] at hf
    refine lv_iload_n hC.1 hC.2.1 dX9_workOut_52 rfl (lv_at hl 2 rfl) ?_
    refine lv_aload_n hC.1 hC.2.1 dX9_workOut_53 rfl (lv_at hl 1 rfl) ?_
    refine g_get hC hW hin9_workOut_4 8 rfl rfl 0 (by decide) 6 rfl rfl dX9_workOut_54 ?_
    refine lv_icmp_ge (tgt := 114) hC.1 hC.2.1 dX9_workOut_57 (by decide) (fun hc_1 => ?_) (fun hc_1 => ?_)
    · have hf := ite_t hf hc_1
      obtain rfl := Option.some.inj hf
      exact g_vret hC hW dX9_workOut_114
    · have hf := ite_f hf hc_1
      refine lv_aload_n hC.1 hC.2.1 dX9_workOut_60 rfl (lv_at hl 0 rfl) ?_
      refine g_get hC hW hin9_workOut_9 0 rfl rfl 6 (by decide) 7 rfl rfl dX9_workOut_61 ?_
      refine lv_if_eq (tgt := 90) hC.1 hC.2.1 dX9_workOut_64 (by decide) (fun hc_2 => ?_) (fun hc_2 => ?_)
      · have hf := ite_t hf hc_2
        refine lv_iconst (v := 1) hC.1 hC.2.1 dX9_workOut_90 (by decide) ?_
        exact t9_workOut_91 hC ih  _ _ _ _ _ _ _ _ _ _ hf hW (lv_sub hl [0, 1, 2] rfl)
      · have hf := ite_f hf hc_2
        refine lv_aload_n hC.1 hC.2.1 dX9_workOut_67 rfl (lv_at hl 0 rfl) ?_
        refine g_get hC hW hin9_workOut_9 0 rfl rfl 0 (by decide) 2 rfl rfl dX9_workOut_68 ?_
        refine g_get hC hW hin9_workOut_3 3 rfl rfl 1 (by decide) 3 rfl rfl dX9_workOut_71 ?_
        refine lv_aload_n hC.1 hC.2.1 dX9_workOut_74 rfl (lv_at hl 1 rfl) ?_
        refine lv_iload_n hC.1 hC.2.1 dX9_workOut_75 rfl (lv_at hl 2 rfl) ?_
        refine lv_aload_n hC.1 hC.2.1 dX9_workOut_76 rfl (lv_at hl 0 rfl) ?_
        refine g_get hC hW hin9_workOut_9 0 rfl rfl 4 (by decide) 8 rfl rfl dX9_workOut_77 ?_
        refine lv_aload_n hC.1 hC.2.1 dX9_workOut_80 rfl (lv_at hl 0 rfl) ?_
        refine g_get hC hW hin9_workOut_9 0 rfl rfl 5 (by decide) 9 rfl rfl dX9_workOut_81 ?_
        obtain ⟨r_3, hg_4, hf⟩ := bd_of hf
        refine g_calliV (w' := w9 cy aR aG aT SR ++ (w3 cy aG aT aC (.ref (aI 0)) SG ++ (w2 cy aC (r_3.2) ++ (w4 cy aI SI)))) hC hW (c2_amount l D cy ad aC aI hg_4) (cwV 4 hC.2.2.2.2.1 gX9_workOut_X2_amount rfl rfl rfl hdV2_amount ⟨Nat.le_of_ble_eq_true rfl, Nat.le_of_ble_eq_true rfl⟩) (⟨[4, 5, 6, 7, 8, 9, 10, 11, 12, 13, 14, 15, 16, 17, 18, 19], [0, 1, 2, 3], [0, 1, 2, 3, 4, 5, 6, 7, 8, 9, 10, 11, 12, 13, 14, 15, 16, 17, 18, 19], w9 cy aR aG aT SR ++ (w3 cy aG aT aC (.ref (aI 0)) SG), rfl, rfl, rfl, rfl, by decide, rfl, rfl⟩) 0 2 rfl rfl rfl rfl hl.1 rfl (Nat.le_of_ble_eq_true rfl) dX9_workOut_84 ⟨Nat.zero_le _, Nat.zero_le _⟩ (fun H locs hW => ?_)
        refine lv_goto (tgt := 91) hC.1 hC.2.1 dX9_workOut_87 (by decide) ?_
        exact t9_workOut_91 hC ih  _ _ _ _ _ _ _ _ _ _ hf hW (lv_sub hl [0, 1, 2] rfl)
set_option maxRecDepth 100000 in
set_option maxHeartbeats 4000000 in
theorem t9_workOut_50 (hC : Cx p s m args meth c cX9_workOut 4 wsX9_workOut RX9 none) : ∀ (SR : Ob) (SG : Ob) (SC : Ob) (SI : Ob) (res : Ob × Ob) (H : Heap) (locs : List Loc) (ls : Array Slot), f9_workOut_50 SR SG SC SI = some res → GW D cy ad (w9 cy aR aG aT SR ++ (w3 cy aG aT aC (.ref (aI 0)) SG ++ (w2 cy aC SC ++ (w4 cy aI SI)))) A s H locs → lv_has ls 4 [(0, .ref (aR 0)), (1, .ref (aI 0))] → W p l e rm9_workOut s m args below meth c H locs 0 0 (MQ below (QV D cy (w9 cy aR aG aT SR ++ (w3 cy aG aT aC (.ref (aI 0)) SG ++ (w2 cy aC (res.1) ++ (w4 cy aI (res.2))))) A) args s 0 0 A) (F0 m 50 ls []) := by
  intro SR SG SC SI res H locs ls hf hW hl
  unfold f9_workOut_50 at hf
  refine lv_iconst (v := 0) hC.1 hC.2.1 dX9_workOut_50 (by decide) ?_
  refine lv_istore_n (lv' := [(2, .int 0), (0, .ref (aR 0)), (1, .ref (aI 0))]) hC.1 hC.2.1 dX9_workOut_51 rfl hl (by decide) rfl (fun ls hl => ?_)
  exact t9_workOut_52 hC _ _ _ _ _ _ _ _ _ _ hf hW (lv_sub hl [1, 2, 0] rfl)
set_option maxRecDepth 100000 in
set_option maxHeartbeats 4000000 in
theorem t9_workOut_2 (hC : Cx p s m args meth c cX9_workOut 4 wsX9_workOut RX9 none) : ∀ n : Nat, ∀ (x2 : Int32) (SR : Ob) (SG : Ob) (SC : Ob) (SI : Ob) (res : Ob × Ob) (H : Heap) (locs : List Loc) (ls : Array Slot), f9_workOut_2 n x2 SR SG SC SI = some res → GW D cy ad (w9 cy aR aG aT SR ++ (w3 cy aG aT aC (.ref (aI 0)) SG ++ (w2 cy aC SC ++ (w4 cy aI SI)))) A s H locs → lv_has ls 4 [(0, .ref (aR 0)), (1, .ref (aI 0)), (2, .int x2)] → W p l e rm9_workOut s m args below meth c H locs 0 0 (MQ below (QV D cy (w9 cy aR aG aT SR ++ (w3 cy aG aT aC (.ref (aI 0)) SG ++ (w2 cy aC (res.1) ++ (w4 cy aI (res.2))))) A) args s 0 0 A) (F0 m 2 ls []) := by
  intro n
  induction n with
  | zero =>
    intro _ _ _ _ _ _ _ _ _ hf _ _
    exact nomatch (show (none : Option (Ob × Ob)) = some _ from hf)
  | succ n ih =>
    intro x2 SR SG SC SI res H locs ls hf hW hl
    rw [f9_workOut_2] at hf
    refine lv_iload_n hC.1 hC.2.1 dX9_workOut_2 rfl (lv_at hl 2 rfl) ?_
    refine lv_aload_n hC.1 hC.2.1 dX9_workOut_3 rfl (lv_at hl 1 rfl) ?_
    refine g_get hC hW hin9_workOut_4 8 rfl rfl 8 (by decide) 1 rfl rfl dX9_workOut_4 ?_
    refine lv_icmp_ge (tgt := 50) hC.1 hC.2.1 dX9_workOut_7 (by decide) (fun hc_1 => ?_) (fun hc_1 => ?_)
    · have hf := ite_t hf hc_1
      exact t9_workOut_50 hC  _ _ _ _ _ _ _ _ hf hW (lv_sub hl [0, 1] rfl)
    · have hf := ite_f hf hc_1
      refine lv_iload_n hC.1 hC.2.1 dX9_workOut_10 rfl (lv_at hl 2 rfl) ?_
      refine lv_bipush (v := 6) hC.1 hC.2.1 dX9_workOut_11 (by decide) ?_
      refine lv_icmp_ge (tgt := 50) hC.1 hC.2.1 dX9_workOut_13 (by decide) (fun hc_2 => ?_) (fun hc_2 => ?_)
      · have hf := ite_t hf hc_2
        exact t9_workOut_50 hC  _ _ _ _ _ _ _ _ hf hW (lv_sub hl [0, 1] rfl)
      · have hf := ite_f hf hc_2
        refine lv_aload_n hC.1 hC.2.1 dX9_workOut_16 rfl (lv_at hl 1 rfl) ?_
        refine lv_iload_n hC.1 hC.2.1 dX9_workOut_17 rfl (lv_at hl 2 rfl) ?_
        refine lv_aload_n hC.1 hC.2.1 dX9_workOut_18 rfl (lv_at hl 0 rfl) ?_
        refine g_get hC hW hin9_workOut_9 0 rfl rfl 0 (by decide) 2 rfl rfl dX9_workOut_19 ?_
        refine g_get hC hW hin9_workOut_3 3 rfl rfl 1 (by decide) 3 rfl rfl dX9_workOut_22 ?_
        refine lv_aload_n hC.1 hC.2.1 dX9_workOut_25 rfl (lv_at hl 1 rfl) ?_
        refine lv_aload_n hC.1 hC.2.1 dX9_workOut_26 rfl (lv_at hl 0 rfl) ?_
        refine g_get hC hW hin9_workOut_9 0 rfl rfl 2 (by decide) 4 rfl rfl dX9_workOut_27 ?_
        refine lv_iload_n hC.1 hC.2.1 dX9_workOut_30 rfl (lv_at hl 2 rfl) ?_
        obtain ⟨hi_3, hf⟩ := ck_of hf
        refine g_iald hC hW 1 rfl hi_3 dX9_workOut_31 ?_
        refine lv_aload_n hC.1 hC.2.1 dX9_workOut_32 rfl (lv_at hl 0 rfl) ?_
        refine g_get hC hW hin9_workOut_9 0 rfl rfl 3 (by decide) 5 rfl rfl dX9_workOut_33 ?_
        refine lv_iload_n hC.1 hC.2.1 dX9_workOut_36 rfl (lv_at hl 2 rfl) ?_
        obtain ⟨hi_4, hf⟩ := ck_of hf
        refine g_iald hC hW 2 rfl hi_4 dX9_workOut_37 ?_
        obtain ⟨r_5, hg_6, hf⟩ := bd_of hf
        refine g_calliV (w' := w9 cy aR aG aT SR ++ (w3 cy aG aT aC (.ref (aI 0)) SG ++ (w2 cy aC (r_5.2) ++ (w4 cy aI SI)))) hC hW (c2_worlds l D cy ad aC aI hg_6) (cwV 3 hC.2.2.2.2.1 gX9_workOut_X2_worlds rfl rfl rfl hdV2_worlds ⟨Nat.le_of_ble_eq_true rfl, Nat.le_of_ble_eq_true rfl⟩) (⟨[4, 5, 6, 7, 8, 9, 10, 11, 12, 13, 14, 15, 16, 17, 18, 19], [0, 1, 2, 3], [0, 1, 2, 3, 4, 5, 6, 7, 8, 9, 10, 11, 12, 13, 14, 15, 16, 17, 18, 19], w9 cy aR aG aT SR ++ (w3 cy aG aT aC (.ref (aI 0)) SG), rfl, rfl, rfl, rfl, by decide, rfl, rfl⟩) 0 2 rfl rfl rfl rfl hl.1 rfl (Nat.le_of_ble_eq_true rfl) dX9_workOut_38 ⟨Nat.zero_le _, Nat.zero_le _⟩ (fun H locs hW => ?_)
        obtain ⟨r_7, hg_8, hf⟩ := bd_of hf
        refine g_callvV (w' := w9 cy aR aG aT SR ++ (w3 cy aG aT aC (.ref (aI 0)) SG ++ (w2 cy aC (r_5.2) ++ (w4 cy aI r_7)))) hC hW (c4_letShow l D cy ad aI hg_8) (cwV 2 hC.2.2.2.2.1 gX9_workOut_X4_letShow rfl rfl rfl hdV4_letShow ⟨Nat.le_of_ble_eq_true rfl, Nat.le_of_ble_eq_true rfl⟩) (⟨[8, 9, 10, 11, 12, 13, 14, 15, 16, 17, 18, 19], [0, 1, 2, 3, 4, 5, 6, 7], [0, 1, 2, 3, 4, 5, 6, 7, 8, 9, 10, 11, 12, 13, 14, 15, 16, 17, 18, 19], w9 cy aR aG aT SR ++ (w3 cy aG aT aC (.ref (aI 0)) SG ++ (w2 cy aC (r_5.2))), rfl, rfl, rfl, rfl, by decide, rfl, rfl⟩) 0 4 rfl rfl rfl rfl hl.1 rfl (Nat.le_of_ble_eq_true rfl) dX9_workOut_41 ⟨Nat.zero_le _, Nat.zero_le _⟩ (fun H locs hW => ?_)
        obtain ⟨x2_9, ex2_9⟩ : ∃ y : Int32, y = x2 + 1 := ⟨_, rfl⟩
        have hf := lt_nm hf ex2_9
        refine lv_iinc (v := x2_9) (lv' := [(2, .int x2_9), (0, .ref (aR 0)), (1, .ref (aI 0))]) hC.1 hC.2.1 dX9_workOut_44 hl (k := 2) rfl (by rw [ex2_9]; rfl) (by decide) rfl (fun ls hl => ?_)
        refine lv_goto (tgt := 2) hC.1 hC.2.1 dX9_workOut_47 (by decide) ?_
        exact ih _ _ _ _ _ _ _ _ _ hf hW (lv_sub hl [1, 2, 0] rfl)
set_option maxRecDepth 100000 in
set_option maxHeartbeats 4000000 in
theorem t9_workOut_0 (hC : Cx p s m args meth c cX9_workOut 4 wsX9_workOut RX9 none) : ∀ (SR : Ob) (SG : Ob) (SC : Ob) (SI : Ob) (res : Ob × Ob) (H : Heap) (locs : List Loc) (ls : Array Slot), f9_workOut SR SG SC SI = some res → GW D cy ad (w9 cy aR aG aT SR ++ (w3 cy aG aT aC (.ref (aI 0)) SG ++ (w2 cy aC SC ++ (w4 cy aI SI)))) A s H locs → lv_has ls 4 [(0, .ref (aR 0)), (1, .ref (aI 0))] → W p l e rm9_workOut s m args below meth c H locs 0 0 (MQ below (QV D cy (w9 cy aR aG aT SR ++ (w3 cy aG aT aC (.ref (aI 0)) SG ++ (w2 cy aC (res.1) ++ (w4 cy aI (res.2))))) A) args s 0 0 A) (F0 m 0 ls []) := by
  intro SR SG SC SI res H locs ls hf hW hl
  unfold f9_workOut at hf
  refine lv_iconst (v := 0) hC.1 hC.2.1 dX9_workOut_0 (by decide) ?_
  refine lv_istore_n (lv' := [(2, .int 0), (0, .ref (aR 0)), (1, .ref (aI 0))]) hC.1 hC.2.1 dX9_workOut_1 rfl hl (by decide) rfl (fun ls hl => ?_)
  exact t9_workOut_2 hC _ _ _ _ _ _ _ _ _ _ hf hW (lv_sub hl [1, 2, 0] rfl)
set_option maxRecDepth 100000 in
set_option maxHeartbeats 4000000 in
theorem c9_workOut (l : Launch) (D : va_G) (cy : Nat → ClassId) (ad : Nat → Nat) (aR : Nat → Nat) (aG : Nat → Nat) (aT : Nat → Nat) (aC : Nat → Nat) (aI : Nat → Nat) {SR : Ob} {SG : Ob} {SC : Ob} {SI : Ob} {res : Ob × Ob} (h : f9_workOut SR SG SC SI = some res) : GCv l yX9_workOut wsX9_workOut rm9_workOut [.ref (aR 0), .ref (aI 0)] D cy ad (w9 cy aR aG aT SR ++ (w3 cy aG aT aC (.ref (aI 0)) SG ++ (w2 cy aC SC ++ (w4 cy aI SI)))) (w9 cy aR aG aT SR ++ (w3 cy aG aT aC (.ref (aI 0)) SG ++ (w2 cy aC (res.1) ++ (w4 cy aI (res.2))))) := fun sz => GC.start (own := RX9) (Qc := fun A => QV D cy (w9 cy aR aG aT SR ++ (w3 cy aG aT aC (.ref (aI 0)) SG ++ (w2 cy aC (res.1) ++ (w4 cy aI (res.2))))) A) sz (by decide) rfl rfl (Nat.le_of_ble_eq_true rfl) (fun p e s m below meth c A ls hC hW hl => t9_workOut_0 hC _ _ _ _ _ _ _ _ h hW (lv_sub hl [0, 1] rfl))
abbrev rm9_readInn : Room := { frames := 73, cells := 0, slots := 0, locals := 1726 }
theorem hdV9_readInn : yX9_readInn.cls = RX9 ∧ (yX9_readInn.cls ≠ "java/lang/invoke/MethodHandle" ∧ yX9_readInn.cls ≠ "java/lang/invoke/VarHandle" ∧ (parseMethodDescriptor yX9_readInn.desc).map (fun d => d.parameters.length) = some 1) := by decide +kernel
theorem hin9_readInn_9 : ∀ x ∈ u_ws RX9 TX9 7, x ∈ wsX9_readInn := fun _ h => List.mem_cons_of_mem _ (List.mem_append_left _ (List.mem_append_left _ (List.mem_append_left _ (List.mem_append_left _ (List.mem_append_right _ h)))))
theorem hin9_readInn_10 : ∀ x ∈ u_ws RX10 TX10 8, x ∈ wsX9_readInn := fun _ h => List.mem_cons_of_mem _ (List.mem_append_left _ (List.mem_append_left _ (List.mem_append_left _ (List.mem_append_right _ h))))
theorem hin9_readInn_3 : ∀ x ∈ u_ws RX3 TX3 4, x ∈ wsX9_readInn := fun _ h => List.mem_cons_of_mem _ (List.mem_append_left _ (List.mem_append_left _ (List.mem_append_right _ h)))
set_option maxRecDepth 100000 in
set_option maxHeartbeats 4000000 in
theorem t9_readInn_73 (hC : Cx p s m args meth c cX9_readInn 4 wsX9_readInn RX9 (some .int)) : ∀ (SR : Ob) (SG : Ob) (ST : Ob) (SC : Ob) (SI : Ob) (res : Int32 × Ob × Ob × Ob × Ob × Ob) (H : Heap) (locs : List Loc) (ls : Array Slot), f9_readInn_73 SR SG ST SC SI = some res → GW D cy ad (w9 cy aR aG aT SR ++ (w3 cy aG aT aC (.ref (aI 0)) SG ++ (w10 cy aT ST ++ (w2 cy aC SC ++ (w4 cy aI SI))))) A s H locs → lv_has ls 4 [(0, .ref (aR 0))] → W p l e rm9_readInn s m args below meth c H locs 0 0 (MQ below (QI D cy (w9 cy aR aG aT (res.2.1) ++ (w3 cy aG aT aC (.ref (aI 0)) (res.2.2.1) ++ (w10 cy aT (res.2.2.2.1) ++ (w2 cy aC (res.2.2.2.2.1) ++ (w4 cy aI (res.2.2.2.2.2)))))) A (res.1)) args s 0 0 A) (F0 m 73 ls []) := by
  intro SR SG ST SC SI res H locs ls hf hW hl
  unfold f9_readInn_73 at hf
  refine lv_aload_n hC.1 hC.2.1 dX9_readInn_73 rfl (lv_at hl 0 rfl) ?_
  refine g_get hC hW hin9_readInn_9 0 rfl rfl 0 (by decide) 2 rfl rfl dX9_readInn_74 ?_
  refine g_get hC hW hin9_readInn_3 3 rfl rfl 3 (by decide) 6 rfl rfl dX9_readInn_77 ?_
  obtain rfl := Option.some.inj hf
  exact g_iret hC hW dX9_readInn_80
set_option maxRecDepth 100000 in
set_option maxHeartbeats 4000000 in
theorem t9_readInn_56 (hC : Cx p s m args meth c cX9_readInn 4 wsX9_readInn RX9 (some .int)) : ∀ (x2 : Int32) (SR : Ob) (SG : Ob) (ST : Ob) (SC : Ob) (SI : Ob) (res : Int32 × Ob × Ob × Ob × Ob × Ob) (H : Heap) (locs : List Loc) (ls : Array Slot), f9_readInn_56 x2 SR SG ST SC SI = some res → GW D cy ad (w9 cy aR aG aT SR ++ (w3 cy aG aT aC (.ref (aI 0)) SG ++ (w10 cy aT ST ++ (w2 cy aC SC ++ (w4 cy aI SI))))) A s H locs → lv_has ls 4 [(0, .ref (aR 0)), (1, .ref (aI 0)), (2, .int x2)] → W p l e rm9_readInn s m args below meth c H locs 0 0 (MQ below (QI D cy (w9 cy aR aG aT (res.2.1) ++ (w3 cy aG aT aC (.ref (aI 0)) (res.2.2.1) ++ (w10 cy aT (res.2.2.2.1) ++ (w2 cy aC (res.2.2.2.2.1) ++ (w4 cy aI (res.2.2.2.2.2)))))) A (res.1)) args s 0 0 A) (F0 m 56 ls []) := by
  intro x2 SR SG ST SC SI res H locs ls hf hW hl
  unfold f9_readInn_56 at hf
  refine lv_aload_n hC.1 hC.2.1 dX9_readInn_56 rfl (lv_at hl 0 rfl) ?_
  refine g_get hC hW hin9_readInn_9 0 rfl rfl 1 (by decide) 3 rfl rfl dX9_readInn_57 ?_
  refine lv_iconst (v := 0) hC.1 hC.2.1 dX9_readInn_60 (by decide) ?_
  obtain ⟨ST_1, eST_1⟩ : ∃ y : Ob, y = oI ST 2 0 := ⟨_, rfl⟩
  have hf := lt_nm hf eST_1
  refine g_put hC hW hin9_readInn_10 tyX10 tyX10_ok nmX10 4 rfl rfl 2 (by decide) 5 rfl rfl rfl rfl (Nat.le_of_ble_eq_true rfl) (w' := w9 cy aR aG aT SR ++ (w3 cy aG aT aC (.ref (aI 0)) SG ++ (w10 cy aT ST_1 ++ (w2 cy aC SC ++ (w4 cy aI SI))))) (by rw [eST_1]; rfl) dX9_readInn_61 (fun H locs hW => ?_)
  refine lv_iload_n hC.1 hC.2.1 dX9_readInn_64 rfl (lv_at hl 2 rfl) ?_
  refine lv_if_eq (tgt := 73) hC.1 hC.2.1 dX9_readInn_65 (by decide) (fun hc_2 => ?_) (fun hc_2 => ?_)
  · have hf := ite_t hf hc_2
    exact t9_readInn_73 hC  _ _ _ _ _ _ _ _ _ hf hW (lv_sub hl [0] rfl)
  · have hf := ite_f hf hc_2
    refine lv_aload_n hC.1 hC.2.1 dX9_readInn_68 rfl (lv_at hl 0 rfl) ?_
    refine lv_aload_n hC.1 hC.2.1 dX9_readInn_69 rfl (lv_at hl 1 rfl) ?_
    obtain ⟨r_3, hg_4, hf⟩ := bd_of hf
    refine g_callvV (w' := w9 cy aR aG aT SR ++ (w3 cy aG aT aC (.ref (aI 0)) SG ++ (w10 cy aT ST_1 ++ (w2 cy aC (r_3.1) ++ (w4 cy aI (r_3.2)))))) hC hW (c9_workOut l D cy ad aR aG aT aC aI hg_4) (cwV 1 hC.2.2.2.2.1 gX9_readInn_X9_workOut rfl rfl rfl hdV9_workOut ⟨Nat.le_of_ble_eq_true rfl, Nat.le_of_ble_eq_true rfl⟩) (⟨[0, 1, 2, 3, 7, 8, 9, 10, 11, 12, 13, 14, 15, 16, 17, 18, 19, 20, 21, 22], [4, 5, 6], [3, 4, 5, 6, 0, 1, 2, 7, 8, 9, 10, 11, 12, 13, 14, 15, 16, 17, 18, 19, 20, 21, 22], w10 cy aT ST_1, rfl, rfl, rfl, rfl, by decide, rfl, rfl⟩) 0 8 rfl rfl rfl rfl hl.1 rfl (Nat.le_of_ble_eq_true rfl) dX9_readInn_70 ⟨Nat.zero_le _, Nat.zero_le _⟩ (fun H locs hW => ?_)
    exact t9_readInn_73 hC  _ _ _ _ _ _ _ _ _ hf hW (lv_sub hl [0] rfl)
set_option maxRecDepth 100000 in
set_option maxHeartbeats 4000000 in
theorem t9_readInn_21 (hC : Cx p s m args meth c cX9_readInn 4 wsX9_readInn RX9 (some .int)) : ∀ n : Nat, ∀ (x2 : Int32) (x3 : Int32) (SR : Ob) (SG : Ob) (ST : Ob) (SC : Ob) (SI : Ob) (res : Int32 × Ob × Ob × Ob × Ob × Ob) (H : Heap) (locs : List Loc) (ls : Array Slot), f9_readInn_21 n x2 x3 SR SG ST SC SI = some res → GW D cy ad (w9 cy aR aG aT SR ++ (w3 cy aG aT aC (.ref (aI 0)) SG ++ (w10 cy aT ST ++ (w2 cy aC SC ++ (w4 cy aI SI))))) A s H locs → lv_has ls 4 [(0, .ref (aR 0)), (1, .ref (aI 0)), (2, .int x2), (3, .int x3)] → W p l e rm9_readInn s m args below meth c H locs 0 0 (MQ below (QI D cy (w9 cy aR aG aT (res.2.1) ++ (w3 cy aG aT aC (.ref (aI 0)) (res.2.2.1) ++ (w10 cy aT (res.2.2.2.1) ++ (w2 cy aC (res.2.2.2.2.1) ++ (w4 cy aI (res.2.2.2.2.2)))))) A (res.1)) args s 0 0 A) (F0 m 21 ls []) := by
  intro n
  induction n with
  | zero =>
    intro _ _ _ _ _ _ _ _ _ _ _ hf _ _
    exact nomatch (show (none : Option (Int32 × Ob × Ob × Ob × Ob × Ob)) = some _ from hf)
  | succ n ih =>
    intro x2 x3 SR SG ST SC SI res H locs ls hf hW hl
    rw [f9_readInn_21] at hf
    refine lv_iload_n hC.1 hC.2.1 dX9_readInn_21 rfl (lv_at hl 3 rfl) ?_
    refine lv_sipush (v := 1000) hC.1 hC.2.1 dX9_readInn_22 (by decide) ?_
    refine lv_icmp_ge (tgt := 56) hC.1 hC.2.1 dX9_readInn_25 (by decide) (fun hc_1 => ?_) (fun hc_1 => ?_)
    · have hf := ite_t hf hc_1
      exact t9_readInn_56 hC  _ _ _ _ _ _ _ _ _ _ hf hW (lv_sub hl [0, 1, 2] rfl)
    · have hf := ite_f hf hc_1
      refine lv_iload_n hC.1 hC.2.1 dX9_readInn_28 rfl (lv_at hl 2 rfl) ?_
      refine lv_if_eq (tgt := 56) hC.1 hC.2.1 dX9_readInn_29 (by decide) (fun hc_2 => ?_) (fun hc_2 => ?_)
      · have hf := ite_t hf hc_2
        exact t9_readInn_56 hC  _ _ _ _ _ _ _ _ _ _ hf hW (lv_sub hl [0, 1, 2] rfl)
      · have hf := ite_f hf hc_2
        refine lv_aload_n hC.1 hC.2.1 dX9_readInn_32 rfl (lv_at hl 0 rfl) ?_
        refine g_get hC hW hin9_readInn_9 0 rfl rfl 1 (by decide) 3 rfl rfl dX9_readInn_33 ?_
        refine g_get hC hW hin9_readInn_10 4 rfl rfl 3 (by decide) 4 rfl rfl dX9_readInn_36 ?_
        refine lv_bipush (v := 34) hC.1 hC.2.1 dX9_readInn_39 (by decide) ?_
        refine lv_icmp_eq (tgt := 56) hC.1 hC.2.1 dX9_readInn_41 (by decide) (fun hc_3 => ?_) (fun hc_3 => ?_)
        · have hf := ite_t hf hc_3
          exact t9_readInn_56 hC  _ _ _ _ _ _ _ _ _ _ hf hW (lv_sub hl [0, 1, 2] rfl)
        · have hf := ite_f hf hc_3
          refine lv_aload_n hC.1 hC.2.1 dX9_readInn_44 rfl (lv_at hl 0 rfl) ?_
          refine lv_aload_n hC.1 hC.2.1 dX9_readInn_45 rfl (lv_at hl 1 rfl) ?_
          obtain ⟨r_4, hg_5, hf⟩ := bd_of hf
          refine g_calliV (w' := w9 cy aR aG aT (r_4.2.1) ++ (w3 cy aG aT aC (.ref (aI 0)) (r_4.2.2.1) ++ (w10 cy aT (r_4.2.2.2.1) ++ (w2 cy aC (r_4.2.2.2.2.1) ++ (w4 cy aI (r_4.2.2.2.2.2)))))) hC hW (c9_innLine l D cy ad aR aG aT aC aI hg_5) (cwV 1 hC.2.2.2.2.1 gX9_readInn_X9_innLine rfl rfl rfl hdV9_innLine ⟨Nat.le_of_ble_eq_true rfl, Nat.le_of_ble_eq_true rfl⟩) (Sub.all _ _) 0 8 rfl rfl rfl rfl hl.1 rfl (Nat.le_of_ble_eq_true rfl) dX9_readInn_46 ⟨Nat.zero_le _, Nat.zero_le _⟩ (fun H locs hW => ?_)
          refine lv_topi (fun x2_6 ex2_6 => ?_)
          have hf := lt_nm hf ex2_6
          refine lv_istore_n (lv' := [(2, .int x2_6), (0, .ref (aR 0)), (1, .ref (aI 0)), (3, .int x3)]) hC.1 hC.2.1 dX9_readInn_49 rfl hl (by decide) rfl (fun ls hl => ?_)
          obtain ⟨x3_7, ex3_7⟩ : ∃ y : Int32, y = x3 + 1 := ⟨_, rfl⟩
          have hf := lt_nm hf ex3_7
          refine lv_iinc (v := x3_7) (lv' := [(3, .int x3_7), (2, .int x2_6), (0, .ref (aR 0)), (1, .ref (aI 0))]) hC.1 hC.2.1 dX9_readInn_50 hl (k := 3) rfl (by rw [ex3_7]; rfl) (by decide) rfl (fun ls hl => ?_)
          refine lv_goto (tgt := 21) hC.1 hC.2.1 dX9_readInn_53 (by decide) ?_
          exact ih _ _ _ _ _ _ _ _ _ _ _ hf hW (lv_sub hl [2, 3, 1, 0] rfl)
set_option maxRecDepth 100000 in
set_option maxHeartbeats 4000000 in
theorem t9_readInn_0 (hC : Cx p s m args meth c cX9_readInn 4 wsX9_readInn RX9 (some .int)) : ∀ (SR : Ob) (SG : Ob) (ST : Ob) (SC : Ob) (SI : Ob) (res : Int32 × Ob × Ob × Ob × Ob × Ob) (H : Heap) (locs : List Loc) (ls : Array Slot), f9_readInn SR SG ST SC SI = some res → GW D cy ad (w9 cy aR aG aT SR ++ (w3 cy aG aT aC gi SG ++ (w10 cy aT ST ++ (w2 cy aC SC ++ (w4 cy aI SI))))) A s H locs → lv_has ls 4 [(0, .ref (aR 0)), (1, .ref (aI 0))] → W p l e rm9_readInn s m args below meth c H locs 0 0 (MQ below (QI D cy (w9 cy aR aG aT (res.2.1) ++ (w3 cy aG aT aC (.ref (aI 0)) (res.2.2.1) ++ (w10 cy aT (res.2.2.2.1) ++ (w2 cy aC (res.2.2.2.2.1) ++ (w4 cy aI (res.2.2.2.2.2)))))) A (res.1)) args s 0 0 A) (F0 m 0 ls []) := by
  intro SR SG ST SC SI res H locs ls hf hW hl
  unfold f9_readInn at hf
  refine lv_aload_n hC.1 hC.2.1 dX9_readInn_0 rfl (lv_at hl 1 rfl) ?_
  obtain ⟨r_1, hg_2, hf⟩ := bd_of hf
  refine g_callvV (w' := w9 cy aR aG aT SR ++ (w3 cy aG aT aC gi SG ++ (w10 cy aT ST ++ (w2 cy aC SC ++ (w4 cy aI r_1))))) hC hW (c4_clear l D cy ad aI hg_2) (cwV 0 hC.2.2.2.2.1 gX9_readInn_X4_clear rfl rfl rfl hdV4_clear ⟨Nat.le_of_ble_eq_true rfl, Nat.le_of_ble_eq_true rfl⟩) (⟨[11, 12, 13, 14, 15, 16, 17, 18, 19, 20, 21, 22], [0, 1, 2, 3, 4, 5, 6, 7, 8, 9, 10], [0, 1, 2, 3, 4, 5, 6, 7, 8, 9, 10, 11, 12, 13, 14, 15, 16, 17, 18, 19, 20, 21, 22], w9 cy aR aG aT SR ++ (w3 cy aG aT aC gi SG ++ (w10 cy aT ST ++ (w2 cy aC SC))), rfl, rfl, rfl, rfl, by decide, rfl, rfl⟩) 0 4 rfl rfl rfl rfl hl.1 rfl (Nat.le_of_ble_eq_true rfl) dX9_readInn_1 ⟨Nat.zero_le _, Nat.zero_le _⟩ (fun H locs hW => ?_)
  refine lv_aload_n hC.1 hC.2.1 dX9_readInn_4 rfl (lv_at hl 0 rfl) ?_
  refine lv_iconst (v := 0) hC.1 hC.2.1 dX9_readInn_5 (by decide) ?_
  obtain ⟨SR_4, eSR_4⟩ : ∃ y : Ob, y = oI SR 6 0 := ⟨_, rfl⟩
  have hf := lt_nm hf eSR_4
  refine g_put hC hW hin9_readInn_9 tyX9 tyX9_ok nmX9 0 rfl rfl 6 (by decide) 1 rfl rfl (isz_of (by decide)) (fits_isz (by decide)) (Nat.le_of_ble_eq_true rfl) (w' := w9 cy aR aG aT SR_4 ++ (w3 cy aG aT aC gi SG ++ (w10 cy aT ST ++ (w2 cy aC SC ++ (w4 cy aI r_1))))) (by rw [eSR_4]; rfl) dX9_readInn_6 (fun H locs hW => ?_)
  refine lv_aload_n hC.1 hC.2.1 dX9_readInn_9 rfl (lv_at hl 0 rfl) ?_
  refine g_get hC hW hin9_readInn_9 0 rfl rfl 0 (by decide) 2 rfl rfl dX9_readInn_10 ?_
  refine lv_aload_n hC.1 hC.2.1 dX9_readInn_13 rfl (lv_at hl 1 rfl) ?_
  obtain ⟨r_5, hg_6, hf⟩ := bd_of hf
  refine g_callvV (w' := w9 cy aR aG aT SR_4 ++ (w3 cy aG aT aC (.ref (aI 0)) (r_5.1) ++ (w10 cy aT (r_5.2.1) ++ (w2 cy aC (r_5.2.2) ++ (w4 cy aI r_1))))) hC hW (c3_begin l D cy ad aG aT aC aI gi hg_6) (cwV 1 hC.2.2.2.2.1 gX9_readInn_X3_begin rfl rfl rfl hdV3_begin ⟨Nat.le_of_ble_eq_true rfl, Nat.le_of_ble_eq_true rfl⟩) (⟨[3, 4, 5, 6, 7, 8, 9, 10], [0, 1, 2, 11, 12, 13, 14, 15, 16, 17, 18, 19, 20, 21, 22], [0, 1, 2, 15, 16, 17, 18, 19, 20, 21, 22, 3, 4, 5, 6, 7, 8, 9, 10, 11, 12, 13, 14], w9 cy aR aG aT SR_4 ++ (w4 cy aI r_1), rfl, rfl, rfl, rfl, by decide, rfl, rfl⟩) 0 3 rfl rfl rfl rfl hl.1 rfl (Nat.le_of_ble_eq_true rfl) dX9_readInn_14 ⟨Nat.zero_le _, Nat.zero_le _⟩ (fun H locs hW => ?_)
  refine lv_iconst (v := 1) hC.1 hC.2.1 dX9_readInn_17 (by decide) ?_
  refine lv_istore_n (lv' := [(2, .int 1), (0, .ref (aR 0)), (1, .ref (aI 0))]) hC.1 hC.2.1 dX9_readInn_18 rfl hl (by decide) rfl (fun ls hl => ?_)
  refine lv_iconst (v := 0) hC.1 hC.2.1 dX9_readInn_19 (by decide) ?_
  refine lv_istore_n (lv' := [(3, .int 0), (2, .int 1), (0, .ref (aR 0)), (1, .ref (aI 0))]) hC.1 hC.2.1 dX9_readInn_20 rfl hl (by decide) rfl (fun ls hl => ?_)
  exact t9_readInn_21 hC _ _ _ _ _ _ _ _ _ _ _ _ hf hW (lv_sub hl [2, 3, 1, 0] rfl)
set_option maxRecDepth 100000 in
set_option maxHeartbeats 4000000 in
theorem c9_readInn (l : Launch) (D : va_G) (cy : Nat → ClassId) (ad : Nat → Nat) (aR : Nat → Nat) (aG : Nat → Nat) (aT : Nat → Nat) (aC : Nat → Nat) (aI : Nat → Nat) (gi : Value) {SR : Ob} {SG : Ob} {ST : Ob} {SC : Ob} {SI : Ob} {res : Int32 × Ob × Ob × Ob × Ob × Ob} (h : f9_readInn SR SG ST SC SI = some res) : GCi l yX9_readInn wsX9_readInn rm9_readInn [.ref (aR 0), .ref (aI 0)] D cy ad (w9 cy aR aG aT SR ++ (w3 cy aG aT aC gi SG ++ (w10 cy aT ST ++ (w2 cy aC SC ++ (w4 cy aI SI))))) (w9 cy aR aG aT (res.2.1) ++ (w3 cy aG aT aC (.ref (aI 0)) (res.2.2.1) ++ (w10 cy aT (res.2.2.2.1) ++ (w2 cy aC (res.2.2.2.2.1) ++ (w4 cy aI (res.2.2.2.2.2)))))) (res.1) := fun sz => GC.start (own := RX9) (Qc := fun A => QI D cy (w9 cy aR aG aT (res.2.1) ++ (w3 cy aG aT aC (.ref (aI 0)) (res.2.2.1) ++ (w10 cy aT (res.2.2.2.1) ++ (w2 cy aC (res.2.2.2.2.1) ++ (w4 cy aI (res.2.2.2.2.2)))))) A (res.1)) sz (by decide) rfl rfl (Nat.le_of_ble_eq_true rfl) (fun p e s m below meth c A ls hC hW hl => t9_readInn_0 hC _ _ _ _ _ _ _ _ _ h hW (lv_sub hl [0, 1] rfl))
abbrev rm9_morningLine : Room := { frames := 45, cells := 0, slots := 0, locals := 1087 }
theorem hdV9_morningLine : yX9_morningLine.cls = RX9 ∧ (yX9_morningLine.cls ≠ "java/lang/invoke/MethodHandle" ∧ yX9_morningLine.cls ≠ "java/lang/invoke/VarHandle" ∧ (parseMethodDescriptor yX9_morningLine.desc).map (fun d => d.parameters.length) = some 2) := by decide +kernel
theorem hin9_morningLine_9 : ∀ x ∈ u_ws RX9 TX9 7, x ∈ wsX9_morningLine := fun _ h => List.mem_cons_of_mem _ (List.mem_append_left _ (List.mem_append_left _ (List.mem_append_left _ (List.mem_append_left _ (List.mem_append_left _ (List.mem_append_right _ h))))))
theorem hin9_morningLine_10 : ∀ x ∈ u_ws RX10 TX10 8, x ∈ wsX9_morningLine := fun _ h => List.mem_cons_of_mem _ (List.mem_append_left _ (List.mem_append_left _ (List.mem_append_left _ (List.mem_append_left _ (List.mem_append_right _ h)))))
theorem hin9_morningLine_7 : ∀ x ∈ u_ws RX7 TX7 3, x ∈ wsX9_morningLine := fun _ h => List.mem_cons_of_mem _ (List.mem_append_left _ (List.mem_append_left _ (List.mem_append_left _ (List.mem_append_right _ h))))
theorem hin9_morningLine_3 : ∀ x ∈ u_ws RX3 TX3 4, x ∈ wsX9_morningLine := fun _ h => List.mem_cons_of_mem _ (List.mem_append_left _ (List.mem_append_left _ (List.mem_append_right _ h)))
theorem hin9_morningLine_2 : ∀ x ∈ u_ws RX2 TX2 5, x ∈ wsX9_morningLine := fun _ h => List.mem_cons_of_mem _ (List.mem_append_left _ (List.mem_append_right _ h))
set_option maxRecDepth 100000 in
set_option maxHeartbeats 4000000 in
theorem t9_morningLine_20 (hC : Cx p s m args meth c cX9_morningLine 6 wsX9_morningLine RX9 (some .boolean)) : ∀ (SR : Ob) (SG : Ob) (ST : Ob) (SC : Ob) (SI : Ob) (SN : Ob) (res : Int32 × Ob × Ob × Ob × Ob) (H : Heap) (locs : List Loc) (ls : Array Slot), f9_morningLine_20 SR SG ST SC SI SN = some res → GW D cy ad (w9 cy aR aG aT SR ++ (w3 cy aG aT aC (.ref (aI 0)) SG ++ (w10 cy aT ST ++ (w2 cy aC SC ++ (w4 cy aI SI ++ (w7 cy aN SN)))))) A s H locs → lv_has ls 6 [(0, .ref (aR 0))] → W p l e rm9_morningLine s m args below meth c H locs 0 0 (MQ below (QI D cy (w9 cy aR aG aT SR ++ (w3 cy aG aT aC (.ref (aI 0)) (res.2.1) ++ (w10 cy aT (res.2.2.1) ++ (w2 cy aC (res.2.2.2.1) ++ (w4 cy aI SI ++ (w7 cy aN (res.2.2.2.2))))))) A (res.1)) args s 0 0 A) (F0 m 20 ls []) := by
  intro SR SG ST SC SI SN res H locs ls hf hW hl
  unfold f9_morningLine_20 at hf
  refine lv_aload_n hC.1 hC.2.1 dX9_morningLine_20 rfl (lv_at hl 0 rfl) ?_
  refine g_get hC hW hin9_morningLine_9 0 rfl rfl 0 (by decide) 3 rfl rfl dX9_morningLine_21 ?_
  refine lv_iconst (v := 1) hC.1 hC.2.1 dX9_morningLine_24 (by decide) ?_
  obtain ⟨r_1, hg_2, hf⟩ := bd_of hf
  refine g_calliV (w' := w9 cy aR aG aT SR ++ (w3 cy aG aT aC (.ref (aI 0)) (r_1.2) ++ (w10 cy aT ST ++ (w2 cy aC SC ++ (w4 cy aI SI ++ (w7 cy aN SN)))))) hC hW (c3_fail l D cy ad aG aT aC aI hg_2) (cwV 1 hC.2.2.2.2.1 gX9_morningLine_X3_fail rfl rfl rfl hdV3_fail ⟨Nat.le_of_ble_eq_true rfl, Nat.le_of_ble_eq_true rfl⟩) (⟨[3, 4, 5, 6], [0, 1, 2, 7, 8, 9, 10, 11, 12, 13, 14, 15, 16, 17, 18, 19, 20, 21, 22, 23, 24, 25], [0, 1, 2, 22, 23, 24, 25, 3, 4, 5, 6, 7, 8, 9, 10, 11, 12, 13, 14, 15, 16, 17, 18, 19, 20, 21], w9 cy aR aG aT SR ++ (w2 cy aC SC ++ (w4 cy aI SI ++ (w7 cy aN SN))), rfl, rfl, rfl, rfl, by decide, rfl, rfl⟩) 0 3 rfl rfl rfl rfl hl.1 rfl (Nat.le_of_ble_eq_true rfl) dX9_morningLine_25 ⟨Nat.zero_le _, Nat.zero_le _⟩ (fun H locs hW => ?_)
  obtain ⟨hz, hf⟩ := ck_of hf
  obtain rfl := Option.some.inj hf
  exact g_zret hC hW hz dX9_morningLine_28
set_option maxRecDepth 100000 in
set_option maxHeartbeats 4000000 in
theorem t9_morningLine_174 (hC : Cx p s m args meth c cX9_morningLine 6 wsX9_morningLine RX9 (some .boolean)) : ∀ (SR : Ob) (SG : Ob) (ST : Ob) (SC : Ob) (SI : Ob) (SN : Ob) (res : Int32 × Ob × Ob × Ob × Ob) (H : Heap) (locs : List Loc) (ls : Array Slot), f9_morningLine_174 SR SG ST SC SI SN = some res → GW D cy ad (w9 cy aR aG aT SR ++ (w3 cy aG aT aC (.ref (aI 0)) SG ++ (w10 cy aT ST ++ (w2 cy aC SC ++ (w4 cy aI SI ++ (w7 cy aN SN)))))) A s H locs → lv_has ls 6 [(0, .ref (aR 0))] → W p l e rm9_morningLine s m args below meth c H locs 0 0 (MQ below (QI D cy (w9 cy aR aG aT SR ++ (w3 cy aG aT aC (.ref (aI 0)) (res.2.1) ++ (w10 cy aT (res.2.2.1) ++ (w2 cy aC (res.2.2.2.1) ++ (w4 cy aI SI ++ (w7 cy aN (res.2.2.2.2))))))) A (res.1)) args s 0 0 A) (F0 m 174 ls []) := by
  intro SR SG ST SC SI SN res H locs ls hf hW hl
  unfold f9_morningLine_174 at hf
  refine lv_aload_n hC.1 hC.2.1 dX9_morningLine_174 rfl (lv_at hl 0 rfl) ?_
  refine g_get hC hW hin9_morningLine_9 0 rfl rfl 0 (by decide) 3 rfl rfl dX9_morningLine_175 ?_
  refine lv_iconst (v := 1) hC.1 hC.2.1 dX9_morningLine_178 (by decide) ?_
  obtain ⟨r_1, hg_2, hf⟩ := bd_of hf
  refine g_calliV (w' := w9 cy aR aG aT SR ++ (w3 cy aG aT aC (.ref (aI 0)) (r_1.2) ++ (w10 cy aT ST ++ (w2 cy aC SC ++ (w4 cy aI SI ++ (w7 cy aN SN)))))) hC hW (c3_fail l D cy ad aG aT aC aI hg_2) (cwV 1 hC.2.2.2.2.1 gX9_morningLine_X3_fail rfl rfl rfl hdV3_fail ⟨Nat.le_of_ble_eq_true rfl, Nat.le_of_ble_eq_true rfl⟩) (⟨[3, 4, 5, 6], [0, 1, 2, 7, 8, 9, 10, 11, 12, 13, 14, 15, 16, 17, 18, 19, 20, 21, 22, 23, 24, 25], [0, 1, 2, 22, 23, 24, 25, 3, 4, 5, 6, 7, 8, 9, 10, 11, 12, 13, 14, 15, 16, 17, 18, 19, 20, 21], w9 cy aR aG aT SR ++ (w2 cy aC SC ++ (w4 cy aI SI ++ (w7 cy aN SN))), rfl, rfl, rfl, rfl, by decide, rfl, rfl⟩) 0 3 rfl rfl rfl rfl hl.1 rfl (Nat.le_of_ble_eq_true rfl) dX9_morningLine_179 ⟨Nat.zero_le _, Nat.zero_le _⟩ (fun H locs hW => ?_)
  obtain ⟨hz, hf⟩ := ck_of hf
  obtain rfl := Option.some.inj hf
  exact g_zret hC hW hz dX9_morningLine_182
set_option maxRecDepth 100000 in
set_option maxHeartbeats 4000000 in
theorem t9_morningLine_269 (hC : Cx p s m args meth c cX9_morningLine 6 wsX9_morningLine RX9 (some .boolean)) : ∀ (z1 : Int32) (z2 : Int32) (SR : Ob) (SG : Ob) (ST : Ob) (SC : Ob) (SI : Ob) (SN : Ob) (res : Int32 × Ob × Ob × Ob × Ob) (H : Heap) (locs : List Loc) (ls : Array Slot), f9_morningLine_269 z1 z2 SR SG ST SC SI SN = some res → GW D cy ad (w9 cy aR aG aT SR ++ (w3 cy aG aT aC (.ref (aI 0)) SG ++ (w10 cy aT ST ++ (w2 cy aC SC ++ (w4 cy aI SI ++ (w7 cy aN SN)))))) A s H locs → lv_has ls 6 [(0, .ref (aR 0))] → W p l e rm9_morningLine s m args below meth c H locs 0 0 (MQ below (QI D cy (w9 cy aR aG aT SR ++ (w3 cy aG aT aC (.ref (aI 0)) (res.2.1) ++ (w10 cy aT (res.2.2.1) ++ (w2 cy aC (res.2.2.2.1) ++ (w4 cy aI SI ++ (w7 cy aN (res.2.2.2.2))))))) A (res.1)) args s 0 0 A) (F0 m 269 ls [.int z2, .int z1, .ref (aN 0)]) := by
  intro z1 z2 SR SG ST SC SI SN res H locs ls hf hW hl
  unfold f9_morningLine_269 at hf
  obtain ⟨r_1, hg_2, hf⟩ := bd_of hf
  refine g_callvV (w' := w9 cy aR aG aT SR ++ (w3 cy aG aT aC (.ref (aI 0)) SG ++ (w10 cy aT ST ++ (w2 cy aC SC ++ (w4 cy aI SI ++ (w7 cy aN r_1)))))) hC hW (c7_add l D cy ad aN hg_2) (cwV 2 hC.2.2.2.2.1 gX9_morningLine_X7_add rfl rfl rfl hdV7_add ⟨Nat.le_of_ble_eq_true rfl, Nat.le_of_ble_eq_true rfl⟩) (⟨[23, 24, 25], [0, 1, 2, 3, 4, 5, 6, 7, 8, 9, 10, 11, 12, 13, 14, 15, 16, 17, 18, 19, 20, 21, 22], [0, 1, 2, 3, 4, 5, 6, 7, 8, 9, 10, 11, 12, 13, 14, 15, 16, 17, 18, 19, 20, 21, 22, 23, 24, 25], w9 cy aR aG aT SR ++ (w3 cy aG aT aC (.ref (aI 0)) SG ++ (w10 cy aT ST ++ (w2 cy aC SC ++ (w4 cy aI SI)))), rfl, rfl, rfl, rfl, by decide, rfl, rfl⟩) 0 6 rfl rfl rfl rfl hl.1 rfl (Nat.le_of_ble_eq_true rfl) dX9_morningLine_269 ⟨Nat.zero_le _, Nat.zero_le _⟩ (fun H locs hW => ?_)
  refine lv_aload_n hC.1 hC.2.1 dX9_morningLine_272 rfl (lv_at hl 0 rfl) ?_
  refine g_get hC hW hin9_morningLine_9 0 rfl rfl 0 (by decide) 3 rfl rfl dX9_morningLine_273 ?_
  refine lv_bipush (v := 59) hC.1 hC.2.1 dX9_morningLine_276 (by decide) ?_
  obtain ⟨r_3, hg_4, hf⟩ := bd_of hf
  refine g_calliV (w' := w9 cy aR aG aT SR ++ (w3 cy aG aT aC (.ref (aI 0)) (r_3.2.1) ++ (w10 cy aT (r_3.2.2) ++ (w2 cy aC SC ++ (w4 cy aI SI ++ (w7 cy aN r_1)))))) hC hW (c3_take l D cy ad aG aT aC aI hg_4) (cwV 1 hC.2.2.2.2.1 gX9_morningLine_X3_take rfl rfl rfl hdV3_take ⟨Nat.le_of_ble_eq_true rfl, Nat.le_of_ble_eq_true rfl⟩) (⟨[3, 4, 5, 6], [0, 1, 2, 7, 8, 9, 10, 11, 12, 13, 14, 15, 16, 17, 18, 19, 20, 21, 22, 23, 24, 25], [0, 1, 2, 22, 23, 24, 25, 3, 4, 5, 6, 7, 8, 9, 10, 11, 12, 13, 14, 15, 16, 17, 18, 19, 20, 21], w9 cy aR aG aT SR ++ (w2 cy aC SC ++ (w4 cy aI SI ++ (w7 cy aN r_1))), rfl, rfl, rfl, rfl, by decide, rfl, rfl⟩) 0 3 rfl rfl rfl rfl hl.1 rfl (Nat.le_of_ble_eq_true rfl) dX9_morningLine_278 ⟨Nat.zero_le _, Nat.zero_le _⟩ (fun H locs hW => ?_)
  obtain ⟨hz, hf⟩ := ck_of hf
  obtain rfl := Option.some.inj hf
  exact g_zret hC hW hz dX9_morningLine_281
set_option maxRecDepth 100000 in
set_option maxHeartbeats 4000000 in
theorem t9_morningLine_255 (hC : Cx p s m args meth c cX9_morningLine 6 wsX9_morningLine RX9 (some .boolean)) : ∀ (x3 : Int32) (x4 : Int32) (SR : Ob) (SG : Ob) (ST : Ob) (SC : Ob) (SI : Ob) (SN : Ob) (res : Int32 × Ob × Ob × Ob × Ob) (H : Heap) (locs : List Loc) (ls : Array Slot), f9_morningLine_255 x3 x4 SR SG ST SC SI SN = some res → GW D cy ad (w9 cy aR aG aT SR ++ (w3 cy aG aT aC (.ref (aI 0)) SG ++ (w10 cy aT ST ++ (w2 cy aC SC ++ (w4 cy aI SI ++ (w7 cy aN SN)))))) A s H locs → lv_has ls 6 [(0, .ref (aR 0)), (2, .ref (aN 0)), (3, .int x3), (4, .int x4)] → W p l e rm9_morningLine s m args below meth c H locs 0 0 (MQ below (QI D cy (w9 cy aR aG aT SR ++ (w3 cy aG aT aC (.ref (aI 0)) (res.2.1) ++ (w10 cy aT (res.2.2.1) ++ (w2 cy aC (res.2.2.2.1) ++ (w4 cy aI SI ++ (w7 cy aN (res.2.2.2.2))))))) A (res.1)) args s 0 0 A) (F0 m 255 ls []) := by
  intro x3 x4 SR SG ST SC SI SN res H locs ls hf hW hl
  unfold f9_morningLine_255 at hf
  refine lv_aload_n hC.1 hC.2.1 dX9_morningLine_255 rfl (lv_at hl 1 rfl) ?_
  refine lv_iload hC.1 hC.2.1 dX9_morningLine_256 (lv_at hl 3 rfl) ?_
  refine lv_iload_n hC.1 hC.2.1 dX9_morningLine_258 rfl (lv_at hl 2 rfl) ?_
  refine lv_bipush (v := 13) hC.1 hC.2.1 dX9_morningLine_259 (by decide) ?_
  refine lv_icmp_ne (tgt := 268) hC.1 hC.2.1 dX9_morningLine_261 (by decide) (fun hc_1 => ?_) (fun hc_1 => ?_)
  · have hf := ite_f hf hc_1
    refine lv_iconst (v := 0) hC.1 hC.2.1 dX9_morningLine_268 (by decide) ?_
    exact t9_morningLine_269 hC  _ _ _ _ _ _ _ _ _ _ _ _ hf hW (lv_sub hl [0] rfl)
  · have hf := ite_t hf hc_1
    refine lv_iconst (v := 1) hC.1 hC.2.1 dX9_morningLine_264 (by decide) ?_
    refine lv_goto (tgt := 269) hC.1 hC.2.1 dX9_morningLine_265 (by decide) ?_
    exact t9_morningLine_269 hC  _ _ _ _ _ _ _ _ _ _ _ _ hf hW (lv_sub hl [0] rfl)
set_option maxRecDepth 100000 in
set_option maxHeartbeats 4000000 in
theorem t9_morningLine_243 (hC : Cx p s m args meth c cX9_morningLine 6 wsX9_morningLine RX9 (some .boolean)) : ∀ (x3 : Int32) (z1 : Int32) (z2 : Int32) (SR : Ob) (SG : Ob) (ST : Ob) (SC : Ob) (SI : Ob) (SN : Ob) (res : Int32 × Ob × Ob × Ob × Ob) (H : Heap) (locs : List Loc) (ls : Array Slot), f9_morningLine_243 x3 z1 z2 SR SG ST SC SI SN = some res → GW D cy ad (w9 cy aR aG aT SR ++ (w3 cy aG aT aC (.ref (aI 0)) SG ++ (w10 cy aT ST ++ (w2 cy aC SC ++ (w4 cy aI SI ++ (w7 cy aN SN)))))) A s H locs → lv_has ls 6 [(0, .ref (aR 0)), (2, .ref (aN 0)), (3, .int x3)] → W p l e rm9_morningLine s m args below meth c H locs 0 0 (MQ below (QI D cy (w9 cy aR aG aT SR ++ (w3 cy aG aT aC (.ref (aI 0)) (res.2.1) ++ (w10 cy aT (res.2.2.1) ++ (w2 cy aC (res.2.2.2.1) ++ (w4 cy aI SI ++ (w7 cy aN (res.2.2.2.2))))))) A (res.1)) args s 0 0 A) (F0 m 243 ls [.int z2, .int z1, .ref (aI 0)]) := by
  intro x3 z1 z2 SR SG ST SC SI SN res H locs ls hf hW hl
  unfold f9_morningLine_243 at hf
  obtain ⟨r_1, hg_2, hf⟩ := bd_of hf
  refine g_calliV (w' := w9 cy aR aG aT SR ++ (w3 cy aG aT aC (.ref (aI 0)) SG ++ (w10 cy aT ST ++ (w2 cy aC SC ++ (w4 cy aI SI ++ (w7 cy aN SN)))))) hC hW (c4_worldsShowing l D cy ad aI hg_2) (cwV 2 hC.2.2.2.2.1 gX9_morningLine_X4_worldsShowing rfl rfl rfl hdV4_worldsShowing ⟨Nat.le_of_ble_eq_true rfl, Nat.le_of_ble_eq_true rfl⟩) (⟨[11, 12, 13, 14, 15, 16, 17, 18, 19, 20, 21, 22], [0, 1, 2, 3, 4, 5, 6, 7, 8, 9, 10, 23, 24, 25], [0, 1, 2, 3, 4, 5, 6, 7, 8, 9, 10, 14, 15, 16, 17, 18, 19, 20, 21, 22, 23, 24, 25, 11, 12, 13], w9 cy aR aG aT SR ++ (w3 cy aG aT aC (.ref (aI 0)) SG ++ (w10 cy aT ST ++ (w2 cy aC SC ++ (w7 cy aN SN)))), rfl, rfl, rfl, rfl, by decide, rfl, rfl⟩) 0 4 rfl rfl rfl rfl hl.1 rfl (Nat.le_of_ble_eq_true rfl) dX9_morningLine_243 ⟨Nat.zero_le _, Nat.zero_le _⟩ (fun H locs hW => ?_)
  refine lv_istore (lv' := [(4, .int r_1), (0, .ref (aR 0)), (2, .ref (aN 0)), (3, .int x3)]) hC.1 hC.2.1 dX9_morningLine_246 hl (by decide) rfl (fun ls hl => ?_)
  refine lv_aload_n hC.1 hC.2.1 dX9_morningLine_248 rfl (lv_at hl 1 rfl) ?_
  refine g_get hC hW hin9_morningLine_9 0 rfl rfl 1 (by decide) 1 rfl rfl dX9_morningLine_249 ?_
  obtain ⟨r_3, hg_4, hf⟩ := bd_of hf
  refine g_callvV (w' := w9 cy aR aG aT SR ++ (w3 cy aG aT aC (.ref (aI 0)) SG ++ (w10 cy aT r_3 ++ (w2 cy aC SC ++ (w4 cy aI SI ++ (w7 cy aN SN)))))) hC hW (c10_advance l D cy ad aT hg_4) (cwV 0 hC.2.2.2.2.1 gX9_morningLine_X10_advance rfl rfl rfl hdV10_advance ⟨Nat.le_of_ble_eq_true rfl, Nat.le_of_ble_eq_true rfl⟩) (⟨[4, 5, 6], [0, 1, 2, 3, 7, 8, 9, 10, 11, 12, 13, 14, 15, 16, 17, 18, 19, 20, 21, 22, 23, 24, 25], [0, 1, 2, 3, 23, 24, 25, 4, 5, 6, 7, 8, 9, 10, 11, 12, 13, 14, 15, 16, 17, 18, 19, 20, 21, 22], w9 cy aR aG aT SR ++ (w3 cy aG aT aC (.ref (aI 0)) SG ++ (w2 cy aC SC ++ (w4 cy aI SI ++ (w7 cy aN SN)))), rfl, rfl, rfl, rfl, by decide, rfl, rfl⟩) 0 9 rfl rfl rfl rfl hl.1 rfl (Nat.le_of_ble_eq_true rfl) dX9_morningLine_252 ⟨Nat.zero_le _, Nat.zero_le _⟩ (fun H locs hW => ?_)
  exact t9_morningLine_255 hC  _ _ _ _ _ _ _ _ _ _ _ _ hf hW (lv_sub hl [1, 2, 3, 0] rfl)
set_option maxRecDepth 100000 in
set_option maxHeartbeats 4000000 in
theorem t9_morningLine_0 (hC : Cx p s m args meth c cX9_morningLine 6 wsX9_morningLine RX9 (some .boolean)) : ∀ (SR : Ob) (SG : Ob) (ST : Ob) (SC : Ob) (SI : Ob) (SN : Ob) (res : Int32 × Ob × Ob × Ob × Ob) (H : Heap) (locs : List Loc) (ls : Array Slot), f9_morningLine SR SG ST SC SI SN = some res → GW D cy ad (w9 cy aR aG aT SR ++ (w3 cy aG aT aC (.ref (aI 0)) SG ++ (w10 cy aT ST ++ (w2 cy aC SC ++ (w4 cy aI SI ++ (w7 cy aN SN)))))) A s H locs → lv_has ls 6 [(0, .ref (aR 0)), (1, .ref (aI 0)), (2, .ref (aN 0))] → W p l e rm9_morningLine s m args below meth c H locs 0 0 (MQ below (QI D cy (w9 cy aR aG aT SR ++ (w3 cy aG aT aC (.ref (aI 0)) (res.2.1) ++ (w10 cy aT (res.2.2.1) ++ (w2 cy aC (res.2.2.2.1) ++ (w4 cy aI SI ++ (w7 cy aN (res.2.2.2.2))))))) A (res.1)) args s 0 0 A) (F0 m 0 ls []) := by
  intro SR SG ST SC SI SN res H locs ls hf hW hl
  unfold f9_morningLine at hf
  refine lv_aload_n hC.1 hC.2.1 dX9_morningLine_0 rfl (lv_at hl 0 rfl) ?_
  refine g_get hC hW hin9_morningLine_9 0 rfl rfl 1 (by decide) 1 rfl rfl dX9_morningLine_1 ?_
  refine g_get hC hW hin9_morningLine_10 4 rfl rfl 3 (by decide) 2 rfl rfl dX9_morningLine_4 ?_
  refine lv_topi (fun x3_1 ex3_1 => ?_)
  have hf := lt_nm hf ex3_1
  refine lv_istore_n (lv' := [(3, .int x3_1), (0, .ref (aR 0)), (1, .ref (aI 0)), (2, .ref (aN 0))]) hC.1 hC.2.1 dX9_morningLine_7 rfl hl (by decide) rfl (fun ls hl => ?_)
  refine lv_iload_n hC.1 hC.2.1 dX9_morningLine_8 rfl (lv_at hl 0 rfl) ?_
  refine lv_bipush (v := 9) hC.1 hC.2.1 dX9_morningLine_9 (by decide) ?_
  refine lv_icmp_lt (tgt := 20) hC.1 hC.2.1 dX9_morningLine_11 (by decide) (fun hc_2 => ?_) (fun hc_2 => ?_)
  · have hf := ite_t hf hc_2
    exact t9_morningLine_20 hC  _ _ _ _ _ _ _ _ _ _ hf hW (lv_sub hl [1] rfl)
  · have hf := ite_f hf hc_2
    refine lv_iload_n hC.1 hC.2.1 dX9_morningLine_14 rfl (lv_at hl 0 rfl) ?_
    refine lv_bipush (v := 13) hC.1 hC.2.1 dX9_morningLine_15 (by decide) ?_
    refine lv_icmp_le (tgt := 29) hC.1 hC.2.1 dX9_morningLine_17 (by decide) (fun hc_3 => ?_) (fun hc_3 => ?_)
    · have hf := ite_t hf hc_3
      refine lv_aload_n hC.1 hC.2.1 dX9_morningLine_29 rfl (lv_at hl 3 rfl) ?_
      refine g_get hC hW hin9_morningLine_7 23 rfl rfl 0 (by decide) 4 rfl rfl dX9_morningLine_30 ?_
      refine lv_bipush (v := 24) hC.1 hC.2.1 dX9_morningLine_33 (by decide) ?_
      refine lv_icmp_lt (tgt := 47) hC.1 hC.2.1 dX9_morningLine_35 (by decide) (fun hc_4 => ?_) (fun hc_4 => ?_)
      · have hf := ite_t hf hc_4
        refine lv_aload_n hC.1 hC.2.1 dX9_morningLine_47 rfl (lv_at hl 1 rfl) ?_
        refine g_get hC hW hin9_morningLine_9 0 rfl rfl 1 (by decide) 1 rfl rfl dX9_morningLine_48 ?_
        obtain ⟨r_5, hg_6, hf⟩ := bd_of hf
        refine g_callvV (w' := w9 cy aR aG aT SR ++ (w3 cy aG aT aC (.ref (aI 0)) SG ++ (w10 cy aT r_5 ++ (w2 cy aC SC ++ (w4 cy aI SI ++ (w7 cy aN SN)))))) hC hW (c10_advance l D cy ad aT hg_6) (cwV 0 hC.2.2.2.2.1 gX9_morningLine_X10_advance rfl rfl rfl hdV10_advance ⟨Nat.le_of_ble_eq_true rfl, Nat.le_of_ble_eq_true rfl⟩) (⟨[4, 5, 6], [0, 1, 2, 3, 7, 8, 9, 10, 11, 12, 13, 14, 15, 16, 17, 18, 19, 20, 21, 22, 23, 24, 25], [0, 1, 2, 3, 23, 24, 25, 4, 5, 6, 7, 8, 9, 10, 11, 12, 13, 14, 15, 16, 17, 18, 19, 20, 21, 22], w9 cy aR aG aT SR ++ (w3 cy aG aT aC (.ref (aI 0)) SG ++ (w2 cy aC SC ++ (w4 cy aI SI ++ (w7 cy aN SN)))), rfl, rfl, rfl, rfl, by decide, rfl, rfl⟩) 0 9 rfl rfl rfl rfl hl.1 rfl (Nat.le_of_ble_eq_true rfl) dX9_morningLine_51 ⟨Nat.zero_le _, Nat.zero_le _⟩ (fun H locs hW => ?_)
        refine lv_iconst (v := 0) hC.1 hC.2.1 dX9_morningLine_54 (by decide) ?_
        refine lv_istore (lv' := [(4, .int 0), (3, .int x3_1), (0, .ref (aR 0)), (1, .ref (aI 0)), (2, .ref (aN 0))]) hC.1 hC.2.1 dX9_morningLine_55 hl (by decide) rfl (fun ls hl => ?_)
        refine lv_iload_n hC.1 hC.2.1 dX9_morningLine_57 rfl (lv_at hl 1 rfl) ?_
        refine lv_bipush (v := 9) hC.1 hC.2.1 dX9_morningLine_58 (by decide) ?_
        refine lv_icmp_ne (tgt := 144) hC.1 hC.2.1 dX9_morningLine_60 (by decide) (fun hc_7 => ?_) (fun hc_7 => ?_)
        · have hf := ite_f hf hc_7
          refine lv_iload_n hC.1 hC.2.1 dX9_morningLine_144 rfl (lv_at hl 1 rfl) ?_
          refine lv_bipush (v := 12) hC.1 hC.2.1 dX9_morningLine_145 (by decide) ?_
          refine lv_icmp_ne (tgt := 206) hC.1 hC.2.1 dX9_morningLine_147 (by decide) (fun hc_8 => ?_) (fun hc_8 => ?_)
          · have hf := ite_f hf hc_8
            refine lv_iload_n hC.1 hC.2.1 dX9_morningLine_206 rfl (lv_at hl 1 rfl) ?_
            refine lv_bipush (v := 13) hC.1 hC.2.1 dX9_morningLine_207 (by decide) ?_
            refine lv_icmp_eq (tgt := 255) hC.1 hC.2.1 dX9_morningLine_209 (by decide) (fun hc_9 => ?_) (fun hc_9 => ?_)
            · have hf := ite_t hf hc_9
              exact t9_morningLine_255 hC  _ _ _ _ _ _ _ _ _ _ _ _ hf hW (lv_sub hl [2, 4, 1, 0] rfl)
            · have hf := ite_f hf hc_9
              refine lv_aload_n hC.1 hC.2.1 dX9_morningLine_212 rfl (lv_at hl 2 rfl) ?_
              refine g_get hC hW hin9_morningLine_9 0 rfl rfl 0 (by decide) 3 rfl rfl dX9_morningLine_213 ?_
              obtain ⟨r_10, hg_11, hf⟩ := bd_of hf
              refine g_calliV (w' := w9 cy aR aG aT SR ++ (w3 cy aG aT aC (.ref (aI 0)) (r_10.2) ++ (w10 cy aT r_5 ++ (w2 cy aC SC ++ (w4 cy aI SI ++ (w7 cy aN SN)))))) hC hW (c3_namedSign l D cy ad aG aT aC aI hg_11) (cwV 0 hC.2.2.2.2.1 gX9_morningLine_X3_namedSign rfl rfl rfl hdV3_namedSign ⟨Nat.le_of_ble_eq_true rfl, Nat.le_of_ble_eq_true rfl⟩) (⟨[3, 4, 5, 6, 11, 12, 13, 14, 15, 16, 17, 18, 19, 20, 21, 22], [0, 1, 2, 7, 8, 9, 10, 23, 24, 25], [0, 1, 2, 10, 11, 12, 13, 3, 4, 5, 6, 14, 15, 16, 17, 18, 19, 20, 21, 22, 23, 24, 25, 7, 8, 9], w9 cy aR aG aT SR ++ (w2 cy aC SC ++ (w7 cy aN SN)), rfl, rfl, rfl, rfl, by decide, rfl, rfl⟩) 0 3 rfl rfl rfl rfl hl.1 rfl (Nat.le_of_ble_eq_true rfl) dX9_morningLine_216 ⟨Nat.zero_le _, Nat.zero_le _⟩ (fun H locs hW => ?_)
              refine lv_topi (fun x5_12 ex5_12 => ?_)
              have hf := lt_nm hf ex5_12
              refine lv_istore (lv' := [(5, .int x5_12), (4, .int 0), (3, .int x3_1), (0, .ref (aR 0)), (1, .ref (aI 0)), (2, .ref (aN 0))]) hC.1 hC.2.1 dX9_morningLine_219 hl (by decide) rfl (fun ls hl => ?_)
              refine lv_iload hC.1 hC.2.1 dX9_morningLine_221 (lv_at hl 0 rfl) ?_
              refine lv_iconst (v := (-1)) hC.1 hC.2.1 dX9_morningLine_223 (by decide) ?_
              refine lv_icmp_ne (tgt := 229) hC.1 hC.2.1 dX9_morningLine_224 (by decide) (fun hc_13 => ?_) (fun hc_13 => ?_)
              · have hf := ite_f hf hc_13
                refine lv_aload_n hC.1 hC.2.1 dX9_morningLine_229 rfl (lv_at hl 4 rfl) ?_
                refine lv_iload hC.1 hC.2.1 dX9_morningLine_230 (lv_at hl 0 rfl) ?_
                refine lv_iload_n hC.1 hC.2.1 dX9_morningLine_232 rfl (lv_at hl 2 rfl) ?_
                refine lv_bipush (v := 10) hC.1 hC.2.1 dX9_morningLine_233 (by decide) ?_
                refine lv_icmp_ne (tgt := 242) hC.1 hC.2.1 dX9_morningLine_235 (by decide) (fun hc_14 => ?_) (fun hc_14 => ?_)
                · have hf := ite_f hf hc_14
                  refine lv_iconst (v := 0) hC.1 hC.2.1 dX9_morningLine_242 (by decide) ?_
                  exact t9_morningLine_243 hC  _ _ _ _ _ _ _ _ _ _ _ _ _ hf hW (lv_sub hl [3, 5, 2] rfl)
                · have hf := ite_t hf hc_14
                  refine lv_iconst (v := 1) hC.1 hC.2.1 dX9_morningLine_238 (by decide) ?_
                  refine lv_goto (tgt := 243) hC.1 hC.2.1 dX9_morningLine_239 (by decide) ?_
                  exact t9_morningLine_243 hC  _ _ _ _ _ _ _ _ _ _ _ _ _ hf hW (lv_sub hl [3, 5, 2] rfl)
              · have hf := ite_t hf hc_13
                refine lv_iconst (v := 0) hC.1 hC.2.1 dX9_morningLine_227 (by decide) ?_
                obtain rfl := Option.some.inj hf
                exact g_zret (v := 0) hC hW (by decide) dX9_morningLine_228
          · have hf := ite_t hf hc_8
            refine lv_aload_n hC.1 hC.2.1 dX9_morningLine_150 rfl (lv_at hl 2 rfl) ?_
            refine g_get hC hW hin9_morningLine_9 0 rfl rfl 1 (by decide) 1 rfl rfl dX9_morningLine_151 ?_
            refine g_get hC hW hin9_morningLine_10 4 rfl rfl 3 (by decide) 2 rfl rfl dX9_morningLine_154 ?_
            refine lv_bipush (v := 18) hC.1 hC.2.1 dX9_morningLine_157 (by decide) ?_
            refine lv_icmp_lt (tgt := 174) hC.1 hC.2.1 dX9_morningLine_159 (by decide) (fun hc_15 => ?_) (fun hc_15 => ?_)
            · have hf := ite_t hf hc_15
              exact t9_morningLine_174 hC  _ _ _ _ _ _ _ _ _ _ hf hW (lv_sub hl [2] rfl)
            · have hf := ite_f hf hc_15
              refine lv_aload_n hC.1 hC.2.1 dX9_morningLine_162 rfl (lv_at hl 2 rfl) ?_
              refine g_get hC hW hin9_morningLine_9 0 rfl rfl 1 (by decide) 1 rfl rfl dX9_morningLine_163 ?_
              refine g_get hC hW hin9_morningLine_10 4 rfl rfl 3 (by decide) 2 rfl rfl dX9_morningLine_166 ?_
              refine lv_bipush (v := 21) hC.1 hC.2.1 dX9_morningLine_169 (by decide) ?_
              refine lv_icmp_le (tgt := 183) hC.1 hC.2.1 dX9_morningLine_171 (by decide) (fun hc_16 => ?_) (fun hc_16 => ?_)
              · have hf := ite_t hf hc_16
                refine lv_aload_n hC.1 hC.2.1 dX9_morningLine_183 rfl (lv_at hl 3 rfl) ?_
                refine lv_aload_n hC.1 hC.2.1 dX9_morningLine_184 rfl (lv_at hl 2 rfl) ?_
                refine g_get hC hW hin9_morningLine_9 0 rfl rfl 1 (by decide) 1 rfl rfl dX9_morningLine_185 ?_
                refine g_get hC hW hin9_morningLine_10 4 rfl rfl 3 (by decide) 2 rfl rfl dX9_morningLine_188 ?_
                obtain ⟨r_17, hg_18, hf⟩ := bd_of hf
                refine g_calliV (w' := w9 cy aR aG aT SR ++ (w3 cy aG aT aC (.ref (aI 0)) SG ++ (w10 cy aT r_5 ++ (w2 cy aC SC ++ (w4 cy aI SI ++ (w7 cy aN SN)))))) hC hW (c4_worldsBy l D cy ad aI hg_18) (cwV 1 hC.2.2.2.2.1 gX9_morningLine_X4_worldsBy rfl rfl rfl hdV4_worldsBy ⟨Nat.le_of_ble_eq_true rfl, Nat.le_of_ble_eq_true rfl⟩) (⟨[11, 12, 13, 14, 15, 16, 17, 18, 19, 20, 21, 22], [0, 1, 2, 3, 4, 5, 6, 7, 8, 9, 10, 23, 24, 25], [0, 1, 2, 3, 4, 5, 6, 7, 8, 9, 10, 14, 15, 16, 17, 18, 19, 20, 21, 22, 23, 24, 25, 11, 12, 13], w9 cy aR aG aT SR ++ (w3 cy aG aT aC (.ref (aI 0)) SG ++ (w10 cy aT r_5 ++ (w2 cy aC SC ++ (w7 cy aN SN)))), rfl, rfl, rfl, rfl, by decide, rfl, rfl⟩) 0 4 rfl rfl rfl rfl hl.1 rfl (Nat.le_of_ble_eq_true rfl) dX9_morningLine_191 ⟨Nat.zero_le _, Nat.zero_le _⟩ (fun H locs hW => ?_)
                refine lv_istore (lv' := [(4, .int r_17), (3, .int x3_1), (0, .ref (aR 0)), (1, .ref (aI 0)), (2, .ref (aN 0))]) hC.1 hC.2.1 dX9_morningLine_194 hl (by decide) rfl (fun ls hl => ?_)
                refine lv_aload_n hC.1 hC.2.1 dX9_morningLine_196 rfl (lv_at hl 2 rfl) ?_
                refine g_get hC hW hin9_morningLine_9 0 rfl rfl 1 (by decide) 1 rfl rfl dX9_morningLine_197 ?_
                obtain ⟨r_19, hg_20, hf⟩ := bd_of hf
                refine g_callvV (w' := w9 cy aR aG aT SR ++ (w3 cy aG aT aC (.ref (aI 0)) SG ++ (w10 cy aT r_19 ++ (w2 cy aC SC ++ (w4 cy aI SI ++ (w7 cy aN SN)))))) hC hW (c10_advance l D cy ad aT hg_20) (cwV 0 hC.2.2.2.2.1 gX9_morningLine_X10_advance rfl rfl rfl hdV10_advance ⟨Nat.le_of_ble_eq_true rfl, Nat.le_of_ble_eq_true rfl⟩) (⟨[4, 5, 6], [0, 1, 2, 3, 7, 8, 9, 10, 11, 12, 13, 14, 15, 16, 17, 18, 19, 20, 21, 22, 23, 24, 25], [0, 1, 2, 3, 23, 24, 25, 4, 5, 6, 7, 8, 9, 10, 11, 12, 13, 14, 15, 16, 17, 18, 19, 20, 21, 22], w9 cy aR aG aT SR ++ (w3 cy aG aT aC (.ref (aI 0)) SG ++ (w2 cy aC SC ++ (w4 cy aI SI ++ (w7 cy aN SN)))), rfl, rfl, rfl, rfl, by decide, rfl, rfl⟩) 0 9 rfl rfl rfl rfl hl.1 rfl (Nat.le_of_ble_eq_true rfl) dX9_morningLine_200 ⟨Nat.zero_le _, Nat.zero_le _⟩ (fun H locs hW => ?_)
                refine lv_goto (tgt := 255) hC.1 hC.2.1 dX9_morningLine_203 (by decide) ?_
                exact t9_morningLine_255 hC  _ _ _ _ _ _ _ _ _ _ _ _ hf hW (lv_sub hl [2, 4, 1, 0] rfl)
              · have hf := ite_f hf hc_16
                exact t9_morningLine_174 hC  _ _ _ _ _ _ _ _ _ _ hf hW (lv_sub hl [2] rfl)
        · have hf := ite_t hf hc_7
          refine lv_aload_n hC.1 hC.2.1 dX9_morningLine_63 rfl (lv_at hl 2 rfl) ?_
          refine g_get hC hW hin9_morningLine_9 0 rfl rfl 0 (by decide) 3 rfl rfl dX9_morningLine_64 ?_
          obtain ⟨r_21, hg_22, hf⟩ := bd_of hf
          refine g_calliV (w' := w9 cy aR aG aT SR ++ (w3 cy aG aT aC (.ref (aI 0)) (r_21.2) ++ (w10 cy aT r_5 ++ (w2 cy aC SC ++ (w4 cy aI SI ++ (w7 cy aN SN)))))) hC hW (c3_namedGuest l D cy ad aG aT aC aI hg_22) (cwV 0 hC.2.2.2.2.1 gX9_morningLine_X3_namedGuest rfl rfl rfl hdV3_namedGuest ⟨Nat.le_of_ble_eq_true rfl, Nat.le_of_ble_eq_true rfl⟩) (⟨[3, 4, 5, 6, 11, 12, 13, 14, 15, 16, 17, 18, 19, 20, 21, 22], [0, 1, 2, 7, 8, 9, 10, 23, 24, 25], [0, 1, 2, 10, 11, 12, 13, 3, 4, 5, 6, 14, 15, 16, 17, 18, 19, 20, 21, 22, 23, 24, 25, 7, 8, 9], w9 cy aR aG aT SR ++ (w2 cy aC SC ++ (w7 cy aN SN)), rfl, rfl, rfl, rfl, by decide, rfl, rfl⟩) 0 3 rfl rfl rfl rfl hl.1 rfl (Nat.le_of_ble_eq_true rfl) dX9_morningLine_67 ⟨Nat.zero_le _, Nat.zero_le _⟩ (fun H locs hW => ?_)
          refine lv_topi (fun x5_23 ex5_23 => ?_)
          have hf := lt_nm hf ex5_23
          refine lv_istore (lv' := [(5, .int x5_23), (4, .int 0), (3, .int x3_1), (0, .ref (aR 0)), (1, .ref (aI 0)), (2, .ref (aN 0))]) hC.1 hC.2.1 dX9_morningLine_70 hl (by decide) rfl (fun ls hl => ?_)
          refine lv_iload hC.1 hC.2.1 dX9_morningLine_72 (lv_at hl 0 rfl) ?_
          refine lv_iconst (v := (-1)) hC.1 hC.2.1 dX9_morningLine_74 (by decide) ?_
          refine lv_icmp_ne (tgt := 80) hC.1 hC.2.1 dX9_morningLine_75 (by decide) (fun hc_24 => ?_) (fun hc_24 => ?_)
          · have hf := ite_f hf hc_24
            refine lv_aload_n hC.1 hC.2.1 dX9_morningLine_80 rfl (lv_at hl 3 rfl) ?_
            refine g_get hC hW hin9_morningLine_9 0 rfl rfl 1 (by decide) 1 rfl rfl dX9_morningLine_81 ?_
            obtain ⟨r_25, hg_26, hf⟩ := bd_of hf
            refine g_callvV (w' := w9 cy aR aG aT SR ++ (w3 cy aG aT aC (.ref (aI 0)) (r_21.2) ++ (w10 cy aT r_25 ++ (w2 cy aC SC ++ (w4 cy aI SI ++ (w7 cy aN SN)))))) hC hW (c10_advance l D cy ad aT hg_26) (cwV 0 hC.2.2.2.2.1 gX9_morningLine_X10_advance rfl rfl rfl hdV10_advance ⟨Nat.le_of_ble_eq_true rfl, Nat.le_of_ble_eq_true rfl⟩) (⟨[4, 5, 6], [0, 1, 2, 3, 7, 8, 9, 10, 11, 12, 13, 14, 15, 16, 17, 18, 19, 20, 21, 22, 23, 24, 25], [0, 1, 2, 3, 23, 24, 25, 4, 5, 6, 7, 8, 9, 10, 11, 12, 13, 14, 15, 16, 17, 18, 19, 20, 21, 22], w9 cy aR aG aT SR ++ (w3 cy aG aT aC (.ref (aI 0)) (r_21.2) ++ (w2 cy aC SC ++ (w4 cy aI SI ++ (w7 cy aN SN)))), rfl, rfl, rfl, rfl, by decide, rfl, rfl⟩) 0 9 rfl rfl rfl rfl hl.1 rfl (Nat.le_of_ble_eq_true rfl) dX9_morningLine_84 ⟨Nat.zero_le _, Nat.zero_le _⟩ (fun H locs hW => ?_)
            refine lv_aload_n hC.1 hC.2.1 dX9_morningLine_87 rfl (lv_at hl 3 rfl) ?_
            refine g_get hC hW hin9_morningLine_9 0 rfl rfl 0 (by decide) 3 rfl rfl dX9_morningLine_88 ?_
            refine g_get hC hW hin9_morningLine_3 3 rfl rfl 1 (by decide) 5 rfl rfl dX9_morningLine_91 ?_
            refine lv_iconst (v := 0) hC.1 hC.2.1 dX9_morningLine_94 (by decide) ?_
            obtain ⟨SC_27, eSC_27⟩ : ∃ y : Ob, y = oI SC 3 0 := ⟨_, rfl⟩
            have hf := lt_nm hf eSC_27
            refine g_put hC hW hin9_morningLine_2 tyX2 tyX2_ok nmX2 7 rfl rfl 3 (by decide) 6 rfl rfl rfl rfl (Nat.le_of_ble_eq_true rfl) (w' := w9 cy aR aG aT SR ++ (w3 cy aG aT aC (.ref (aI 0)) (r_21.2) ++ (w10 cy aT r_25 ++ (w2 cy aC SC_27 ++ (w4 cy aI SI ++ (w7 cy aN SN)))))) (by rw [eSC_27]; rfl) dX9_morningLine_95 (fun H locs hW => ?_)
            refine lv_aload_n hC.1 hC.2.1 dX9_morningLine_98 rfl (lv_at hl 3 rfl) ?_
            refine g_get hC hW hin9_morningLine_9 0 rfl rfl 0 (by decide) 3 rfl rfl dX9_morningLine_99 ?_
            refine lv_iconst (v := 0) hC.1 hC.2.1 dX9_morningLine_102 (by decide) ?_
            obtain ⟨r_28, hg_29, hf⟩ := bd_of hf
            refine g_calliN (w' := w9 cy aR aG aT SR ++ (w3 cy aG aT aC (.ref (aI 0)) (r_28.2.1) ++ (w10 cy aT (r_28.2.2.1) ++ (w2 cy aC (r_28.2.2.2) ++ (w4 cy aI SI ++ (w7 cy aN SN)))))) hC hW (c3_formula l D cy ad aG aT aC aI (f3_item DP) DP (c3_item l D cy ad aG aT aC aI DP) hg_29) ⟨va_cnB 1 hC.2.2.2.2.1 gX9_morningLine_X3_formula_n127 rfl rfl rfl (hW.2.2.2.2.2.1 _ (List.mem_of_getElem? (i := 0) rfl)) (hC.2.2.2.2.1 _ (List.mem_of_getElem? (i := 10) rfl)) hdV3_formula.2 ⟨Nat.le_of_ble_eq_true rfl, Nat.le_of_ble_eq_true rfl⟩, (hC.2.2.2.2.1 _ (List.mem_of_getElem? (i := 147) rfl)), (hC.2.2.2.2.1 _ (List.mem_of_getElem? (i := 148) rfl))⟩ (⟨[3, 4, 5, 6, 7, 8, 9, 10, 11, 12, 13, 14, 15, 16, 17, 18, 19, 20, 21, 22], [0, 1, 2, 23, 24, 25], [0, 1, 2, 6, 7, 8, 9, 10, 11, 12, 13, 14, 15, 16, 17, 18, 19, 20, 21, 22, 23, 24, 25, 3, 4, 5], w9 cy aR aG aT SR ++ (w7 cy aN SN), rfl, rfl, rfl, rfl, by decide, rfl, rfl⟩) 0 3 rfl rfl rfl rfl hl.1 rfl (Nat.le_of_ble_eq_true rfl) dX9_morningLine_103 ⟨Nat.zero_le _, Nat.zero_le _⟩ (fun H locs hW => ?_)
            refine lv_if_ne (tgt := 111) hC.1 hC.2.1 dX9_morningLine_106 (by decide) (fun hc_30 => ?_) (fun hc_30 => ?_)
            · have hf := ite_f hf hc_30
              refine lv_aload_n hC.1 hC.2.1 dX9_morningLine_111 rfl (lv_at hl 4 rfl) ?_
              refine lv_iload hC.1 hC.2.1 dX9_morningLine_112 (lv_at hl 0 rfl) ?_
              refine lv_aload_n hC.1 hC.2.1 dX9_morningLine_114 rfl (lv_at hl 3 rfl) ?_
              refine g_get hC hW hin9_morningLine_9 0 rfl rfl 0 (by decide) 3 rfl rfl dX9_morningLine_115 ?_
              refine g_get hC hW hin9_morningLine_3 3 rfl rfl 1 (by decide) 5 rfl rfl dX9_morningLine_118 ?_
              refine lv_aload_n hC.1 hC.2.1 dX9_morningLine_121 rfl (lv_at hl 4 rfl) ?_
              refine lv_iconst (v := 0) hC.1 hC.2.1 dX9_morningLine_122 (by decide) ?_
              refine lv_aload_n hC.1 hC.2.1 dX9_morningLine_123 rfl (lv_at hl 3 rfl) ?_
              refine g_get hC hW hin9_morningLine_9 0 rfl rfl 0 (by decide) 3 rfl rfl dX9_morningLine_124 ?_
              refine g_get hC hW hin9_morningLine_3 3 rfl rfl 1 (by decide) 5 rfl rfl dX9_morningLine_127 ?_
              refine g_get hC hW hin9_morningLine_2 7 rfl rfl 3 (by decide) 6 rfl rfl dX9_morningLine_130 ?_
              obtain ⟨r_31, hg_32, hf⟩ := bd_of hf
              refine g_calliV (w' := w9 cy aR aG aT SR ++ (w3 cy aG aT aC (.ref (aI 0)) (r_28.2.1) ++ (w10 cy aT (r_28.2.2.1) ++ (w2 cy aC (r_31.2) ++ (w4 cy aI SI ++ (w7 cy aN SN)))))) hC hW (c2_worlds l D cy ad aC aI hg_32) (cwV 3 hC.2.2.2.2.1 gX9_morningLine_X2_worlds rfl rfl rfl hdV2_worlds ⟨Nat.le_of_ble_eq_true rfl, Nat.le_of_ble_eq_true rfl⟩) (⟨[7, 8, 9, 10, 11, 12, 13, 14, 15, 16, 17, 18, 19, 20, 21, 22], [0, 1, 2, 3, 4, 5, 6, 23, 24, 25], [0, 1, 2, 3, 4, 5, 6, 10, 11, 12, 13, 14, 15, 16, 17, 18, 19, 20, 21, 22, 23, 24, 25, 7, 8, 9], w9 cy aR aG aT SR ++ (w3 cy aG aT aC (.ref (aI 0)) (r_28.2.1) ++ (w10 cy aT (r_28.2.2.1) ++ (w7 cy aN SN))), rfl, rfl, rfl, rfl, by decide, rfl, rfl⟩) 0 2 rfl rfl rfl rfl hl.1 rfl (Nat.le_of_ble_eq_true rfl) dX9_morningLine_133 ⟨Nat.zero_le _, Nat.zero_le _⟩ (fun H locs hW => ?_)
              obtain ⟨r_33, hg_34, hf⟩ := bd_of hf
              refine g_calliV (w' := w9 cy aR aG aT SR ++ (w3 cy aG aT aC (.ref (aI 0)) (r_28.2.1) ++ (w10 cy aT (r_28.2.2.1) ++ (w2 cy aC (r_31.2) ++ (w4 cy aI SI ++ (w7 cy aN SN)))))) hC hW (c4_sayable l D cy ad aI hg_34) (cwV 2 hC.2.2.2.2.1 gX9_morningLine_X4_sayable rfl rfl rfl hdV4_sayable ⟨Nat.le_of_ble_eq_true rfl, Nat.le_of_ble_eq_true rfl⟩) (⟨[11, 12, 13, 14, 15, 16, 17, 18, 19, 20, 21, 22], [0, 1, 2, 3, 4, 5, 6, 7, 8, 9, 10, 23, 24, 25], [0, 1, 2, 3, 4, 5, 6, 7, 8, 9, 10, 14, 15, 16, 17, 18, 19, 20, 21, 22, 23, 24, 25, 11, 12, 13], w9 cy aR aG aT SR ++ (w3 cy aG aT aC (.ref (aI 0)) (r_28.2.1) ++ (w10 cy aT (r_28.2.2.1) ++ (w2 cy aC (r_31.2) ++ (w7 cy aN SN)))), rfl, rfl, rfl, rfl, by decide, rfl, rfl⟩) 0 4 rfl rfl rfl rfl hl.1 rfl (Nat.le_of_ble_eq_true rfl) dX9_morningLine_136 ⟨Nat.zero_le _, Nat.zero_le _⟩ (fun H locs hW => ?_)
              refine lv_istore (lv' := [(4, .int r_33), (5, .int x5_23), (3, .int x3_1), (0, .ref (aR 0)), (1, .ref (aI 0)), (2, .ref (aN 0))]) hC.1 hC.2.1 dX9_morningLine_139 hl (by decide) rfl (fun ls hl => ?_)
              refine lv_goto (tgt := 255) hC.1 hC.2.1 dX9_morningLine_141 (by decide) ?_
              exact t9_morningLine_255 hC  _ _ _ _ _ _ _ _ _ _ _ _ hf hW (lv_sub hl [3, 5, 2, 0] rfl)
            · have hf := ite_t hf hc_30
              refine lv_iconst (v := 0) hC.1 hC.2.1 dX9_morningLine_109 (by decide) ?_
              obtain rfl := Option.some.inj hf
              exact g_zret (v := 0) hC hW (by decide) dX9_morningLine_110
          · have hf := ite_t hf hc_24
            refine lv_iconst (v := 0) hC.1 hC.2.1 dX9_morningLine_78 (by decide) ?_
            obtain rfl := Option.some.inj hf
            exact g_zret (v := 0) hC hW (by decide) dX9_morningLine_79
      · have hf := ite_f hf hc_4
        refine lv_aload_n hC.1 hC.2.1 dX9_morningLine_38 rfl (lv_at hl 1 rfl) ?_
        refine g_get hC hW hin9_morningLine_9 0 rfl rfl 0 (by decide) 3 rfl rfl dX9_morningLine_39 ?_
        refine lv_iconst (v := 5) hC.1 hC.2.1 dX9_morningLine_42 (by decide) ?_
        obtain ⟨r_35, hg_36, hf⟩ := bd_of hf
        refine g_calliV (w' := w9 cy aR aG aT SR ++ (w3 cy aG aT aC (.ref (aI 0)) (r_35.2) ++ (w10 cy aT ST ++ (w2 cy aC SC ++ (w4 cy aI SI ++ (w7 cy aN SN)))))) hC hW (c3_fail l D cy ad aG aT aC aI hg_36) (cwV 1 hC.2.2.2.2.1 gX9_morningLine_X3_fail rfl rfl rfl hdV3_fail ⟨Nat.le_of_ble_eq_true rfl, Nat.le_of_ble_eq_true rfl⟩) (⟨[3, 4, 5, 6], [0, 1, 2, 7, 8, 9, 10, 11, 12, 13, 14, 15, 16, 17, 18, 19, 20, 21, 22, 23, 24, 25], [0, 1, 2, 22, 23, 24, 25, 3, 4, 5, 6, 7, 8, 9, 10, 11, 12, 13, 14, 15, 16, 17, 18, 19, 20, 21], w9 cy aR aG aT SR ++ (w2 cy aC SC ++ (w4 cy aI SI ++ (w7 cy aN SN))), rfl, rfl, rfl, rfl, by decide, rfl, rfl⟩) 0 3 rfl rfl rfl rfl hl.1 rfl (Nat.le_of_ble_eq_true rfl) dX9_morningLine_43 ⟨Nat.zero_le _, Nat.zero_le _⟩ (fun H locs hW => ?_)
        obtain ⟨hz, hf⟩ := ck_of hf
        obtain rfl := Option.some.inj hf
        exact g_zret hC hW hz dX9_morningLine_46
    · have hf := ite_f hf hc_3
      exact t9_morningLine_20 hC  _ _ _ _ _ _ _ _ _ _ hf hW (lv_sub hl [1] rfl)
set_option maxRecDepth 100000 in
set_option maxHeartbeats 4000000 in
theorem c9_morningLine (l : Launch) (D : va_G) (cy : Nat → ClassId) (ad : Nat → Nat) (aR : Nat → Nat) (aG : Nat → Nat) (aT : Nat → Nat) (aC : Nat → Nat) (aI : Nat → Nat) (aN : Nat → Nat) {SR : Ob} {SG : Ob} {ST : Ob} {SC : Ob} {SI : Ob} {SN : Ob} {res : Int32 × Ob × Ob × Ob × Ob} (h : f9_morningLine SR SG ST SC SI SN = some res) : GCi l yX9_morningLine wsX9_morningLine rm9_morningLine [.ref (aR 0), .ref (aI 0), .ref (aN 0)] D cy ad (w9 cy aR aG aT SR ++ (w3 cy aG aT aC (.ref (aI 0)) SG ++ (w10 cy aT ST ++ (w2 cy aC SC ++ (w4 cy aI SI ++ (w7 cy aN SN)))))) (w9 cy aR aG aT SR ++ (w3 cy aG aT aC (.ref (aI 0)) (res.2.1) ++ (w10 cy aT (res.2.2.1) ++ (w2 cy aC (res.2.2.2.1) ++ (w4 cy aI SI ++ (w7 cy aN (res.2.2.2.2))))))) (res.1) := fun sz => GC.start (own := RX9) (Qc := fun A => QI D cy (w9 cy aR aG aT SR ++ (w3 cy aG aT aC (.ref (aI 0)) (res.2.1) ++ (w10 cy aT (res.2.2.1) ++ (w2 cy aC (res.2.2.2.1) ++ (w4 cy aI SI ++ (w7 cy aN (res.2.2.2.2))))))) A (res.1)) sz (by decide) rfl rfl (Nat.le_of_ble_eq_true rfl) (fun p e s m below meth c A ls hC hW hl => t9_morningLine_0 hC _ _ _ _ _ _ _ _ _ _ h hW (lv_sub hl [0, 1, 2] rfl))
abbrev rm9_readMorning : Room := { frames := 46, cells := 0, slots := 0, locals := 1112 }
theorem hdV9_readMorning : yX9_readMorning.cls = RX9 ∧ (yX9_readMorning.cls ≠ "java/lang/invoke/MethodHandle" ∧ yX9_readMorning.cls ≠ "java/lang/invoke/VarHandle" ∧ (parseMethodDescriptor yX9_readMorning.desc).map (fun d => d.parameters.length) = some 2) := by decide +kernel
theorem hin9_readMorning_7 : ∀ x ∈ u_ws RX7 TX7 3, x ∈ wsX9_readMorning := fun _ h => List.mem_cons_of_mem _ (List.mem_append_left _ (List.mem_append_left _ (List.mem_append_left _ (List.mem_append_left _ (List.mem_append_left _ (List.mem_append_right _ h))))))
theorem hin9_readMorning_9 : ∀ x ∈ u_ws RX9 TX9 7, x ∈ wsX9_readMorning := fun _ h => List.mem_cons_of_mem _ (List.mem_append_left _ (List.mem_append_left _ (List.mem_append_left _ (List.mem_append_left _ (List.mem_append_right _ h)))))
theorem hin9_readMorning_10 : ∀ x ∈ u_ws RX10 TX10 8, x ∈ wsX9_readMorning := fun _ h => List.mem_cons_of_mem _ (List.mem_append_left _ (List.mem_append_left _ (List.mem_append_left _ (List.mem_append_right _ h))))
theorem hin9_readMorning_3 : ∀ x ∈ u_ws RX3 TX3 4, x ∈ wsX9_readMorning := fun _ h => List.mem_cons_of_mem _ (List.mem_append_left _ (List.mem_append_left _ (List.mem_append_right _ h)))
set_option maxRecDepth 100000 in
set_option maxHeartbeats 4000000 in
theorem t9_readMorning_55 (hC : Cx p s m args meth c cX9_readMorning 5 wsX9_readMorning RX9 (some .int)) : ∀ (SR : Ob) (SG : Ob) (ST : Ob) (SC : Ob) (SI : Ob) (SN : Ob) (res : Int32 × Ob × Ob × Ob × Ob) (H : Heap) (locs : List Loc) (ls : Array Slot), f9_readMorning_55 SR SG ST SC SI SN = some res → GW D cy ad (w9 cy aR aG aT SR ++ (w3 cy aG aT aC (.ref (aI 0)) SG ++ (w10 cy aT ST ++ (w2 cy aC SC ++ (w4 cy aI SI ++ (w7 cy aN SN)))))) A s H locs → lv_has ls 5 [(0, .ref (aR 0))] → W p l e rm9_readMorning s m args below meth c H locs 0 0 (MQ below (QI D cy (w9 cy aR aG aT SR ++ (w3 cy aG aT aC (.ref (aI 0)) (res.2.1) ++ (w10 cy aT (res.2.2.1) ++ (w2 cy aC (res.2.2.2.1) ++ (w4 cy aI SI ++ (w7 cy aN (res.2.2.2.2))))))) A (res.1)) args s 0 0 A) (F0 m 55 ls []) := by
  intro SR SG ST SC SI SN res H locs ls hf hW hl
  unfold f9_readMorning_55 at hf
  refine lv_aload_n hC.1 hC.2.1 dX9_readMorning_55 rfl (lv_at hl 0 rfl) ?_
  refine g_get hC hW hin9_readMorning_9 0 rfl rfl 1 (by decide) 3 rfl rfl dX9_readMorning_56 ?_
  refine lv_iconst (v := 0) hC.1 hC.2.1 dX9_readMorning_59 (by decide) ?_
  obtain ⟨ST_1, eST_1⟩ : ∃ y : Ob, y = oI ST 2 0 := ⟨_, rfl⟩
  have hf := lt_nm hf eST_1
  refine g_put hC hW hin9_readMorning_10 tyX10 tyX10_ok nmX10 4 rfl rfl 2 (by decide) 5 rfl rfl rfl rfl (Nat.le_of_ble_eq_true rfl) (w' := w9 cy aR aG aT SR ++ (w3 cy aG aT aC (.ref (aI 0)) SG ++ (w10 cy aT ST_1 ++ (w2 cy aC SC ++ (w4 cy aI SI ++ (w7 cy aN SN)))))) (by rw [eST_1]; rfl) dX9_readMorning_60 (fun H locs hW => ?_)
  refine lv_aload_n hC.1 hC.2.1 dX9_readMorning_63 rfl (lv_at hl 0 rfl) ?_
  refine g_get hC hW hin9_readMorning_9 0 rfl rfl 0 (by decide) 2 rfl rfl dX9_readMorning_64 ?_
  refine g_get hC hW hin9_readMorning_3 3 rfl rfl 3 (by decide) 6 rfl rfl dX9_readMorning_67 ?_
  obtain rfl := Option.some.inj hf
  exact g_iret hC hW dX9_readMorning_70
set_option maxRecDepth 100000 in
set_option maxHeartbeats 4000000 in
theorem t9_readMorning_18 (hC : Cx p s m args meth c cX9_readMorning 5 wsX9_readMorning RX9 (some .int)) : ∀ n : Nat, ∀ (x3 : Int32) (x4 : Int32) (SR : Ob) (SG : Ob) (ST : Ob) (SC : Ob) (SI : Ob) (SN : Ob) (res : Int32 × Ob × Ob × Ob × Ob) (H : Heap) (locs : List Loc) (ls : Array Slot), f9_readMorning_18 n x3 x4 SR SG ST SC SI SN = some res → GW D cy ad (w9 cy aR aG aT SR ++ (w3 cy aG aT aC (.ref (aI 0)) SG ++ (w10 cy aT ST ++ (w2 cy aC SC ++ (w4 cy aI SI ++ (w7 cy aN SN)))))) A s H locs → lv_has ls 5 [(0, .ref (aR 0)), (1, .ref (aI 0)), (2, .ref (aN 0)), (3, .int x3), (4, .int x4)] → W p l e rm9_readMorning s m args below meth c H locs 0 0 (MQ below (QI D cy (w9 cy aR aG aT SR ++ (w3 cy aG aT aC (.ref (aI 0)) (res.2.1) ++ (w10 cy aT (res.2.2.1) ++ (w2 cy aC (res.2.2.2.1) ++ (w4 cy aI SI ++ (w7 cy aN (res.2.2.2.2))))))) A (res.1)) args s 0 0 A) (F0 m 18 ls []) := by
  intro n
  induction n with
  | zero =>
    intro _ _ _ _ _ _ _ _ _ _ _ _ hf _ _
    exact nomatch (show (none : Option (Int32 × Ob × Ob × Ob × Ob)) = some _ from hf)
  | succ n ih =>
    intro x3 x4 SR SG ST SC SI SN res H locs ls hf hW hl
    rw [f9_readMorning_18] at hf
    refine lv_iload hC.1 hC.2.1 dX9_readMorning_18 (lv_at hl 4 rfl) ?_
    refine lv_sipush (v := 1000) hC.1 hC.2.1 dX9_readMorning_20 (by decide) ?_
    refine lv_icmp_ge (tgt := 55) hC.1 hC.2.1 dX9_readMorning_23 (by decide) (fun hc_1 => ?_) (fun hc_1 => ?_)
    · have hf := ite_t hf hc_1
      exact t9_readMorning_55 hC  _ _ _ _ _ _ _ _ _ _ hf hW (lv_sub hl [0] rfl)
    · have hf := ite_f hf hc_1
      refine lv_iload_n hC.1 hC.2.1 dX9_readMorning_26 rfl (lv_at hl 3 rfl) ?_
      refine lv_if_eq (tgt := 55) hC.1 hC.2.1 dX9_readMorning_27 (by decide) (fun hc_2 => ?_) (fun hc_2 => ?_)
      · have hf := ite_t hf hc_2
        exact t9_readMorning_55 hC  _ _ _ _ _ _ _ _ _ _ hf hW (lv_sub hl [0] rfl)
      · have hf := ite_f hf hc_2
        refine lv_aload_n hC.1 hC.2.1 dX9_readMorning_30 rfl (lv_at hl 0 rfl) ?_
        refine g_get hC hW hin9_readMorning_9 0 rfl rfl 1 (by decide) 3 rfl rfl dX9_readMorning_31 ?_
        refine g_get hC hW hin9_readMorning_10 4 rfl rfl 3 (by decide) 4 rfl rfl dX9_readMorning_34 ?_
        refine lv_bipush (v := 34) hC.1 hC.2.1 dX9_readMorning_37 (by decide) ?_
        refine lv_icmp_eq (tgt := 55) hC.1 hC.2.1 dX9_readMorning_39 (by decide) (fun hc_3 => ?_) (fun hc_3 => ?_)
        · have hf := ite_t hf hc_3
          exact t9_readMorning_55 hC  _ _ _ _ _ _ _ _ _ _ hf hW (lv_sub hl [0] rfl)
        · have hf := ite_f hf hc_3
          refine lv_aload_n hC.1 hC.2.1 dX9_readMorning_42 rfl (lv_at hl 0 rfl) ?_
          refine lv_aload_n hC.1 hC.2.1 dX9_readMorning_43 rfl (lv_at hl 1 rfl) ?_
          refine lv_aload_n hC.1 hC.2.1 dX9_readMorning_44 rfl (lv_at hl 2 rfl) ?_
          obtain ⟨r_4, hg_5, hf⟩ := bd_of hf
          refine g_calliV (w' := w9 cy aR aG aT SR ++ (w3 cy aG aT aC (.ref (aI 0)) (r_4.2.1) ++ (w10 cy aT (r_4.2.2.1) ++ (w2 cy aC (r_4.2.2.2.1) ++ (w4 cy aI SI ++ (w7 cy aN (r_4.2.2.2.2))))))) hC hW (c9_morningLine l D cy ad aR aG aT aC aI aN hg_5) (cwV 2 hC.2.2.2.2.1 gX9_readMorning_X9_morningLine rfl rfl rfl hdV9_morningLine ⟨Nat.le_of_ble_eq_true rfl, Nat.le_of_ble_eq_true rfl⟩) (Sub.all _ _) 0 8 rfl rfl rfl rfl hl.1 rfl (Nat.le_of_ble_eq_true rfl) dX9_readMorning_45 ⟨Nat.zero_le _, Nat.zero_le _⟩ (fun H locs hW => ?_)
          refine lv_topi (fun x3_6 ex3_6 => ?_)
          have hf := lt_nm hf ex3_6
          refine lv_istore_n (lv' := [(3, .int x3_6), (0, .ref (aR 0)), (1, .ref (aI 0)), (2, .ref (aN 0)), (4, .int x4)]) hC.1 hC.2.1 dX9_readMorning_48 rfl hl (by decide) rfl (fun ls hl => ?_)
          obtain ⟨x4_7, ex4_7⟩ : ∃ y : Int32, y = x4 + 1 := ⟨_, rfl⟩
          have hf := lt_nm hf ex4_7
          refine lv_iinc (v := x4_7) (lv' := [(4, .int x4_7), (3, .int x3_6), (0, .ref (aR 0)), (1, .ref (aI 0)), (2, .ref (aN 0))]) hC.1 hC.2.1 dX9_readMorning_49 hl (k := 4) rfl (by rw [ex4_7]; rfl) (by decide) rfl (fun ls hl => ?_)
          refine lv_goto (tgt := 18) hC.1 hC.2.1 dX9_readMorning_52 (by decide) ?_
          exact ih _ _ _ _ _ _ _ _ _ _ _ _ hf hW (lv_sub hl [2, 3, 4, 1, 0] rfl)
set_option maxRecDepth 100000 in
set_option maxHeartbeats 4000000 in
theorem t9_readMorning_0 (hC : Cx p s m args meth c cX9_readMorning 5 wsX9_readMorning RX9 (some .int)) : ∀ (SR : Ob) (SG : Ob) (ST : Ob) (SC : Ob) (SI : Ob) (SN : Ob) (res : Int32 × Ob × Ob × Ob × Ob) (H : Heap) (locs : List Loc) (ls : Array Slot), f9_readMorning SR SG ST SC SI SN = some res → GW D cy ad (w9 cy aR aG aT SR ++ (w3 cy aG aT aC gi SG ++ (w10 cy aT ST ++ (w2 cy aC SC ++ (w4 cy aI SI ++ (w7 cy aN SN)))))) A s H locs → lv_has ls 5 [(0, .ref (aR 0)), (1, .ref (aI 0)), (2, .ref (aN 0))] → W p l e rm9_readMorning s m args below meth c H locs 0 0 (MQ below (QI D cy (w9 cy aR aG aT SR ++ (w3 cy aG aT aC (.ref (aI 0)) (res.2.1) ++ (w10 cy aT (res.2.2.1) ++ (w2 cy aC (res.2.2.2.1) ++ (w4 cy aI SI ++ (w7 cy aN (res.2.2.2.2))))))) A (res.1)) args s 0 0 A) (F0 m 0 ls []) := by
  intro SR SG ST SC SI SN res H locs ls hf hW hl
  unfold f9_readMorning at hf
  refine lv_aload_n hC.1 hC.2.1 dX9_readMorning_0 rfl (lv_at hl 2 rfl) ?_
  refine lv_iconst (v := 0) hC.1 hC.2.1 dX9_readMorning_1 (by decide) ?_
  obtain ⟨SN_1, eSN_1⟩ : ∃ y : Ob, y = oI SN 0 0 := ⟨_, rfl⟩
  have hf := lt_nm hf eSN_1
  refine g_put hC hW hin9_readMorning_7 tyX7 tyX7_ok nmX7 23 rfl rfl 0 (by decide) 1 rfl rfl rfl rfl (Nat.le_of_ble_eq_true rfl) (w' := w9 cy aR aG aT SR ++ (w3 cy aG aT aC gi SG ++ (w10 cy aT ST ++ (w2 cy aC SC ++ (w4 cy aI SI ++ (w7 cy aN SN_1)))))) (by rw [eSN_1]; rfl) dX9_readMorning_2 (fun H locs hW => ?_)
  refine lv_aload_n hC.1 hC.2.1 dX9_readMorning_5 rfl (lv_at hl 0 rfl) ?_
  refine g_get hC hW hin9_readMorning_9 0 rfl rfl 0 (by decide) 2 rfl rfl dX9_readMorning_6 ?_
  refine lv_aload_n hC.1 hC.2.1 dX9_readMorning_9 rfl (lv_at hl 1 rfl) ?_
  obtain ⟨r_2, hg_3, hf⟩ := bd_of hf
  refine g_callvV (w' := w9 cy aR aG aT SR ++ (w3 cy aG aT aC (.ref (aI 0)) (r_2.1) ++ (w10 cy aT (r_2.2.1) ++ (w2 cy aC (r_2.2.2) ++ (w4 cy aI SI ++ (w7 cy aN SN_1)))))) hC hW (c3_begin l D cy ad aG aT aC aI gi hg_3) (cwV 1 hC.2.2.2.2.1 gX9_readMorning_X3_begin rfl rfl rfl hdV3_begin ⟨Nat.le_of_ble_eq_true rfl, Nat.le_of_ble_eq_true rfl⟩) (⟨[3, 4, 5, 6, 7, 8, 9, 10], [0, 1, 2, 11, 12, 13, 14, 15, 16, 17, 18, 19, 20, 21, 22, 23, 24, 25], [0, 1, 2, 18, 19, 20, 21, 22, 23, 24, 25, 3, 4, 5, 6, 7, 8, 9, 10, 11, 12, 13, 14, 15, 16, 17], w9 cy aR aG aT SR ++ (w4 cy aI SI ++ (w7 cy aN SN_1)), rfl, rfl, rfl, rfl, by decide, rfl, rfl⟩) 0 3 rfl rfl rfl rfl hl.1 rfl (Nat.le_of_ble_eq_true rfl) dX9_readMorning_10 ⟨Nat.zero_le _, Nat.zero_le _⟩ (fun H locs hW => ?_)
  refine lv_iconst (v := 1) hC.1 hC.2.1 dX9_readMorning_13 (by decide) ?_
  refine lv_istore_n (lv' := [(3, .int 1), (0, .ref (aR 0)), (1, .ref (aI 0)), (2, .ref (aN 0))]) hC.1 hC.2.1 dX9_readMorning_14 rfl hl (by decide) rfl (fun ls hl => ?_)
  refine lv_iconst (v := 0) hC.1 hC.2.1 dX9_readMorning_15 (by decide) ?_
  refine lv_istore (lv' := [(4, .int 0), (3, .int 1), (0, .ref (aR 0)), (1, .ref (aI 0)), (2, .ref (aN 0))]) hC.1 hC.2.1 dX9_readMorning_16 hl (by decide) rfl (fun ls hl => ?_)
  exact t9_readMorning_18 hC _ _ _ _ _ _ _ _ _ _ _ _ _ hf hW (lv_sub hl [2, 3, 4, 1, 0] rfl)
set_option maxRecDepth 100000 in
set_option maxHeartbeats 4000000 in
theorem c9_readMorning (l : Launch) (D : va_G) (cy : Nat → ClassId) (ad : Nat → Nat) (aR : Nat → Nat) (aG : Nat → Nat) (aT : Nat → Nat) (aC : Nat → Nat) (aI : Nat → Nat) (aN : Nat → Nat) (gi : Value) {SR : Ob} {SG : Ob} {ST : Ob} {SC : Ob} {SI : Ob} {SN : Ob} {res : Int32 × Ob × Ob × Ob × Ob} (h : f9_readMorning SR SG ST SC SI SN = some res) : GCi l yX9_readMorning wsX9_readMorning rm9_readMorning [.ref (aR 0), .ref (aI 0), .ref (aN 0)] D cy ad (w9 cy aR aG aT SR ++ (w3 cy aG aT aC gi SG ++ (w10 cy aT ST ++ (w2 cy aC SC ++ (w4 cy aI SI ++ (w7 cy aN SN)))))) (w9 cy aR aG aT SR ++ (w3 cy aG aT aC (.ref (aI 0)) (res.2.1) ++ (w10 cy aT (res.2.2.1) ++ (w2 cy aC (res.2.2.2.1) ++ (w4 cy aI SI ++ (w7 cy aN (res.2.2.2.2))))))) (res.1) := fun sz => GC.start (own := RX9) (Qc := fun A => QI D cy (w9 cy aR aG aT SR ++ (w3 cy aG aT aC (.ref (aI 0)) (res.2.1) ++ (w10 cy aT (res.2.2.1) ++ (w2 cy aC (res.2.2.2.1) ++ (w4 cy aI SI ++ (w7 cy aN (res.2.2.2.2))))))) A (res.1)) sz (by decide) rfl rfl (Nat.le_of_ble_eq_true rfl) (fun p e s m below meth c A ls hC hW hl => t9_readMorning_0 hC _ _ _ _ _ _ _ _ _ _ h hW (lv_sub hl [0, 1, 2] rfl))
end
