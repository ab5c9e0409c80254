/-! laid by program: functions, walks and contracts of 12_readBill, 12_readLine, 12_inn, 12_readWord, 12_morning -/
set_option maxRecDepth 20000 in
theorem gX12_readBill_X12_isWord : GoodIn wsX12_readBill (wsV RX12 207 RX12 yX12_isWord wsX12_isWord) := goodIn_r _ [5, 6, 7, 8, 9, 2, 10, 3, 11, 12, 64, 65, 66, 67, 68, 69, 70, 71, 72, 73, 74, 75, 76, 77, 78, 79, 80, 81, 82, 83, 84, 85, 86, 87, 88, 89, 90, 91, 92, 93, 94, 95, 96, 97, 98, 99, 100, 101, 102] rfl (by decide +kernel)
set_option maxRecDepth 20000 in
theorem gX12_readBill_X12_wrong : GoodIn wsX12_readBill (wsV RX12 204 RX12 yX12_wrong wsX12_wrong) := goodIn_r _ [13, 14, 15, 8, 16, 2, 17, 3, 64, 65, 66, 67, 68, 69, 70, 71, 72, 73, 74, 75, 76, 77, 78, 79, 80, 81, 82, 83, 84, 85, 86, 87, 88, 89, 90, 91, 92, 93, 94, 95, 96, 97, 98, 99, 100, 101, 102] rfl (by decide +kernel)
set_option maxRecDepth 20000 in
theorem gX12_readBill_X12_all : GoodIn wsX12_readBill (wsV RX12 298 RX12 yX12_all wsX12_all) := goodIn_r _ [18, 19, 20, 8, 21, 3, 22, 23, 24, 8, 5, 6, 7, 9, 2, 10, 11, 12, 25, 26, 27, 28, 29, 4, 30, 31, 32, 33, 34, 35, 36, 37, 38, 39, 40, 41, 42, 43, 44, 45, 46, 47, 48, 49, 50, 51, 13, 14, 15, 16, 17, 52, 53, 54, 55, 18, 19, 20, 56, 57, 58, 59, 60, 61, 62, 63, 64, 65, 66, 67, 68, 69, 70, 71, 72, 73, 74, 75, 76, 77, 78, 79, 80, 81, 82, 83, 84, 85, 86, 87, 88, 89, 90, 91, 92, 93, 94, 95, 96, 97, 98, 99, 100, 101, 102] rfl (by decide +kernel)
set_option maxRecDepth 20000 in
theorem gX12_readBill_X12_emit : GoodIn wsX12_readBill (wsV RX12 291 RX12 yX12_emit wsX12_emit) := goodIn_r _ [25, 26, 27, 8, 28, 29, 4, 30, 64, 65, 66, 67, 68, 69, 70, 71, 72, 73, 74, 75, 76, 77, 78, 79, 80, 81, 82, 83, 84, 85, 86, 87, 88, 89, 90, 91, 92, 93, 94, 95, 96, 97, 98, 99, 100, 101, 102] rfl (by decide +kernel)
theorem dX12_readBill_0 : decode cX12_readBill 0 = .ok (.aload_n 0, 1) := by decide +kernel
theorem dX12_readBill_1 : decode cX12_readBill 1 = .ok (.bipush 8, 2) := by decide +kernel
theorem dX12_readBill_3 : decode cX12_readBill 3 = .ok (.invokevirtual 207, 3) := by decide +kernel
theorem dX12_readBill_6 : decode cX12_readBill 6 = .ok (.ifCond .ne 11, 3) := by decide +kernel
theorem dX12_readBill_9 : decode cX12_readBill 9 = .ok (.aload_n 0, 1) := by decide +kernel
theorem dX12_readBill_10 : decode cX12_readBill 10 = .ok (.iconst 1, 1) := by decide +kernel
theorem dX12_readBill_11 : decode cX12_readBill 11 = .ok (.invokevirtual 204, 3) := by decide +kernel
theorem dX12_readBill_14 : decode cX12_readBill 14 = .ok (.goto 18, 3) := by decide +kernel
theorem dX12_readBill_17 : decode cX12_readBill 17 = .ok (.aload_n 0, 1) := by decide +kernel
theorem dX12_readBill_18 : decode cX12_readBill 18 = .ok (.getfield 101, 3) := by decide +kernel
theorem dX12_readBill_21 : decode cX12_readBill 21 = .ok (.bipush 62, 2) := by decide +kernel
theorem dX12_readBill_23 : decode cX12_readBill 23 = .ok (.iaload, 1) := by decide +kernel
theorem dX12_readBill_24 : decode cX12_readBill 24 = .ok (.ifCond .lt 8, 3) := by decide +kernel
theorem dX12_readBill_27 : decode cX12_readBill 27 = .ok (.aload_n 0, 1) := by decide +kernel
theorem dX12_readBill_28 : decode cX12_readBill 28 = .ok (.iconst 3, 1) := by decide +kernel
theorem dX12_readBill_29 : decode cX12_readBill 29 = .ok (.invokevirtual 204, 3) := by decide +kernel
theorem dX12_readBill_32 : decode cX12_readBill 32 = .ok (.aload_n 0, 1) := by decide +kernel
theorem dX12_readBill_33 : decode cX12_readBill 33 = .ok (.getfield 198, 3) := by decide +kernel
theorem dX12_readBill_36 : decode cX12_readBill 36 = .ok (.ifCond .ne 35, 3) := by decide +kernel
theorem dX12_readBill_39 : decode cX12_readBill 39 = .ok (.aload_n 0, 1) := by decide +kernel
theorem dX12_readBill_40 : decode cX12_readBill 40 = .ok (.dup, 1) := by decide +kernel
theorem dX12_readBill_41 : decode cX12_readBill 41 = .ok (.getfield 195, 3) := by decide +kernel
theorem dX12_readBill_44 : decode cX12_readBill 44 = .ok (.iconst 1, 1) := by decide +kernel
theorem dX12_readBill_45 : decode cX12_readBill 45 = .ok (.iadd, 1) := by decide +kernel
theorem dX12_readBill_46 : decode cX12_readBill 46 = .ok (.putfield 195, 3) := by decide +kernel
theorem dX12_readBill_49 : decode cX12_readBill 49 = .ok (.aload_n 0, 1) := by decide +kernel
theorem dX12_readBill_50 : decode cX12_readBill 50 = .ok (.getfield 101, 3) := by decide +kernel
theorem dX12_readBill_53 : decode cX12_readBill 53 = .ok (.bipush 62, 2) := by decide +kernel
theorem dX12_readBill_55 : decode cX12_readBill 55 = .ok (.aload_n 0, 1) := by decide +kernel
theorem dX12_readBill_56 : decode cX12_readBill 56 = .ok (.getfield 251, 3) := by decide +kernel
theorem dX12_readBill_59 : decode cX12_readBill 59 = .ok (.iastore, 1) := by decide +kernel
theorem dX12_readBill_60 : decode cX12_readBill 60 = .ok (.aload_n 0, 1) := by decide +kernel
theorem dX12_readBill_61 : decode cX12_readBill 61 = .ok (.iconst 0, 1) := by decide +kernel
theorem dX12_readBill_62 : decode cX12_readBill 62 = .ok (.invokevirtual 298, 3) := by decide +kernel
theorem dX12_readBill_65 : decode cX12_readBill 65 = .ok (.aload_n 0, 1) := by decide +kernel
theorem dX12_readBill_66 : decode cX12_readBill 66 = .ok (.iconst 0, 1) := by decide +kernel
theorem dX12_readBill_67 : decode cX12_readBill 67 = .ok (.iconst 0, 1) := by decide +kernel
theorem dX12_readBill_68 : decode cX12_readBill 68 = .ok (.invokevirtual 291, 3) := by decide +kernel
theorem dX12_readBill_71 : decode cX12_readBill 71 = .ok (.return_, 1) := by decide +kernel
set_option maxRecDepth 20000 in
theorem gX12_readLine_X12_isWord : GoodIn wsX12_readLine (wsV RX12 207 RX12 yX12_isWord wsX12_isWord) := goodIn_r _ [1, 2, 3, 4, 5, 6, 7, 8, 9, 10, 143, 144, 145, 146, 147, 148, 149, 150, 151, 152, 153, 154, 155, 156, 157, 158, 159, 160, 161, 162, 163, 164, 165, 166, 167, 168, 169, 170, 171, 172, 173, 174, 175, 176, 177, 178, 179, 180, 181] rfl (by decide +kernel)
set_option maxRecDepth 20000 in
theorem gX12_readLine_X12_readGuest : GoodIn wsX12_readLine (wsV RX12 260 RX12 yX12_readGuest wsX12_readGuest) := goodIn_r _ [11, 12, 13, 4, 14, 15, 16, 17, 18, 4, 19, 6, 20, 8, 21, 22, 23, 24, 25, 26, 9, 27, 28, 29, 30, 31, 7, 32, 33, 34, 35, 1, 2, 3, 5, 10, 36, 37, 38, 39, 40, 41, 42, 43, 44, 45, 46, 47, 48, 49, 50, 51, 52, 53, 54, 55, 56, 57, 58, 59, 60, 61, 62, 63, 143, 144, 145, 146, 147, 148, 149, 150, 151, 152, 153, 154, 155, 156, 157, 158, 159, 160, 161, 162, 163, 164, 165, 166, 167, 168, 169, 170, 171, 172, 173, 174, 175, 176, 177, 178, 179, 180, 181] rfl (by decide +kernel)
set_option maxRecDepth 20000 in
theorem gX12_readLine_X12_readSign : GoodIn wsX12_readLine (wsV RX12 263 RX12 yX12_readSign wsX12_readSign) := goodIn_r _ [64, 65, 66, 4, 67, 15, 68, 69, 16, 17, 18, 4, 19, 6, 20, 8, 21, 22, 23, 24, 25, 26, 9, 27, 28, 29, 30, 31, 7, 32, 33, 34, 35, 1, 2, 3, 5, 10, 36, 37, 38, 39, 40, 41, 42, 43, 48, 49, 50, 51, 52, 53, 54, 55, 56, 57, 58, 59, 60, 61, 62, 63, 70, 71, 72, 73, 74, 75, 76, 77, 78, 79, 80, 81, 82, 83, 84, 85, 86, 87, 88, 89, 90, 91, 92, 93, 94, 95, 96, 97, 98, 99, 100, 101, 102, 143, 144, 145, 146, 147, 148, 149, 150, 151, 152, 153, 154, 155, 156, 157, 158, 159, 160, 161, 162, 163, 164, 165, 166, 167, 168, 169, 170, 171, 172, 173, 174, 175, 176, 177, 178, 179, 180, 181] rfl (by decide +kernel)
set_option maxRecDepth 20000 in
theorem gX12_readLine_X12_readSees : GoodIn wsX12_readLine (wsV RX12 266 RX12 yX12_readSees wsX12_readSees) := goodIn_r _ [103, 104, 105, 4, 106, 8, 6, 15, 107, 108, 109, 4, 110, 28, 29, 30, 31, 7, 32, 33, 34, 35, 1, 2, 3, 5, 9, 10, 16, 17, 18, 19, 20, 36, 37, 38, 39, 40, 26, 41, 25, 42, 27, 43, 92, 93, 94, 143, 144, 145, 146, 147, 148, 149, 150, 151, 152, 153, 154, 155, 156, 157, 158, 159, 160, 161, 162, 163, 164, 165, 166, 167, 168, 169, 170, 171, 172, 173, 174, 175, 176, 177, 178, 179, 180, 181] rfl (by decide +kernel)
set_option maxRecDepth 20000 in
theorem gX12_readLine_X12_readShun : GoodIn wsX12_readLine (wsV RX12 269 RX12 yX12_readShun wsX12_readShun) := goodIn_r _ [111, 112, 113, 4, 114, 8, 6, 15, 115, 116, 117, 4, 118, 107, 108, 109, 110, 28, 29, 30, 31, 7, 32, 33, 34, 35, 1, 2, 3, 5, 9, 10, 16, 17, 18, 19, 20, 36, 37, 38, 39, 40, 26, 41, 25, 42, 27, 43, 92, 93, 94, 143, 144, 145, 146, 147, 148, 149, 150, 151, 152, 153, 154, 155, 156, 157, 158, 159, 160, 161, 162, 163, 164, 165, 166, 167, 168, 169, 170, 171, 172, 173, 174, 175, 176, 177, 178, 179, 180, 181] rfl (by decide +kernel)
set_option maxRecDepth 20000 in
theorem gX12_readLine_X12_readBill : GoodIn wsX12_readLine (wsV RX12 272 RX12 yX12_readBill wsX12_readBill) := goodIn_r _ [119, 120, 121, 4, 122, 15, 6, 8, 68, 1, 2, 3, 4, 5, 7, 9, 10, 16, 17, 18, 19, 20, 123, 124, 125, 126, 127, 128, 129, 77, 78, 79, 80, 81, 82, 130, 131, 132, 133, 95, 96, 97, 98, 88, 89, 90, 91, 134, 135, 136, 137, 138, 32, 33, 34, 35, 56, 57, 58, 59, 99, 100, 101, 102, 139, 140, 141, 142, 143, 144, 145, 146, 147, 148, 149, 150, 151, 152, 153, 154, 155, 156, 157, 158, 159, 160, 161, 162, 163, 164, 165, 166, 167, 168, 169, 170, 171, 172, 173, 174, 175, 176, 177, 178, 179, 180, 181] rfl (by decide +kernel)
theorem dX12_readLine_0 : decode cX12_readLine 0 = .ok (.aload_n 0, 1) := by decide +kernel
theorem dX12_readLine_1 : decode cX12_readLine 1 = .ok (.iconst 0, 1) := by decide +kernel
theorem dX12_readLine_2 : decode cX12_readLine 2 = .ok (.invokevirtual 207, 3) := by decide +kernel
theorem dX12_readLine_5 : decode cX12_readLine 5 = .ok (.ifCond .eq 10, 3) := by decide +kernel
theorem dX12_readLine_8 : decode cX12_readLine 8 = .ok (.aload_n 0, 1) := by decide +kernel
theorem dX12_readLine_9 : decode cX12_readLine 9 = .ok (.invokevirtual 260, 3) := by decide +kernel
theorem dX12_readLine_12 : decode cX12_readLine 12 = .ok (.goto 54, 3) := by decide +kernel
theorem dX12_readLine_15 : decode cX12_readLine 15 = .ok (.aload_n 0, 1) := by decide +kernel
theorem dX12_readLine_16 : decode cX12_readLine 16 = .ok (.iconst 3, 1) := by decide +kernel
theorem dX12_readLine_17 : decode cX12_readLine 17 = .ok (.invokevirtual 207, 3) := by decide +kernel
theorem dX12_readLine_20 : decode cX12_readLine 20 = .ok (.ifCond .eq 10, 3) := by decide +kernel
theorem dX12_readLine_23 : decode cX12_readLine 23 = .ok (.aload_n 0, 1) := by decide +kernel
theorem dX12_readLine_24 : decode cX12_readLine 24 = .ok (.invokevirtual 263, 3) := by decide +kernel
theorem dX12_readLine_27 : decode cX12_readLine 27 = .ok (.goto 39, 3) := by decide +kernel
theorem dX12_readLine_30 : decode cX12_readLine 30 = .ok (.aload_n 0, 1) := by decide +kernel
theorem dX12_readLine_31 : decode cX12_readLine 31 = .ok (.bipush 6, 2) := by decide +kernel
theorem dX12_readLine_33 : decode cX12_readLine 33 = .ok (.invokevirtual 207, 3) := by decide +kernel
theorem dX12_readLine_36 : decode cX12_readLine 36 = .ok (.ifCond .eq 10, 3) := by decide +kernel
theorem dX12_readLine_39 : decode cX12_readLine 39 = .ok (.aload_n 0, 1) := by decide +kernel
theorem dX12_readLine_40 : decode cX12_readLine 40 = .ok (.invokevirtual 266, 3) := by decide +kernel
theorem dX12_readLine_43 : decode cX12_readLine 43 = .ok (.goto 23, 3) := by decide +kernel
theorem dX12_readLine_46 : decode cX12_readLine 46 = .ok (.aload_n 0, 1) := by decide +kernel
theorem dX12_readLine_47 : decode cX12_readLine 47 = .ok (.bipush 7, 2) := by decide +kernel
theorem dX12_readLine_49 : decode cX12_readLine 49 = .ok (.invokevirtual 207, 3) := by decide +kernel
theorem dX12_readLine_52 : decode cX12_readLine 52 = .ok (.ifCond .eq 10, 3) := by decide +kernel
theorem dX12_readLine_55 : decode cX12_readLine 55 = .ok (.aload_n 0, 1) := by decide +kernel
theorem dX12_readLine_56 : decode cX12_readLine 56 = .ok (.invokevirtual 269, 3) := by decide +kernel
theorem dX12_readLine_59 : decode cX12_readLine 59 = .ok (.goto 7, 3) := by decide +kernel
theorem dX12_readLine_62 : decode cX12_readLine 62 = .ok (.aload_n 0, 1) := by decide +kernel
theorem dX12_readLine_63 : decode cX12_readLine 63 = .ok (.invokevirtual 272, 3) := by decide +kernel
theorem dX12_readLine_66 : decode cX12_readLine 66 = .ok (.return_, 1) := by decide +kernel
set_option maxRecDepth 20000 in
theorem gX12_inn_X12_cutAll : GoodIn wsX12_inn (wsV RX12 248 RX12 yX12_cutAll wsX12_cutAll) := goodIn_r _ [16, 17, 18, 19, 20, 21, 22, 23, 24, 25, 6, 26, 27, 28, 7, 5, 29, 30, 19, 31, 32, 33, 34, 35, 36, 37, 38, 39, 40, 224, 225, 226, 227, 228, 229, 230, 231, 232, 233, 234, 235, 236, 237, 238, 239, 240, 241, 242, 243, 244, 245, 246, 247, 248, 249, 250, 251, 252, 253, 254, 255, 256, 257, 258, 259, 260, 261, 262] rfl (by decide +kernel)
set_option maxRecDepth 20000 in
theorem gX12_inn_X12_standsAsAlways : GoodIn wsX12_inn (wsV RX12 165 RX12 yX12_standsAsAlways wsX12_standsAsAlways) := goodIn_r _ [41, 42, 43, 19, 44, 8, 224, 225, 226, 227, 228, 229, 230, 231, 232, 233, 234, 235, 236, 237, 238, 239, 240, 241, 242, 243, 244, 245, 246, 247, 248, 249, 250, 251, 252, 253, 254, 255, 256, 257, 258, 259, 260, 261, 262] rfl (by decide +kernel)
set_option maxRecDepth 20000 in
theorem gX12_inn_X12_readLine : GoodIn wsX12_inn (wsV RX12 254 RX12 yX12_readLine wsX12_readLine) := goodIn_r _ [45, 46, 47, 19, 48, 49, 50, 51, 19, 52, 5, 6, 7, 28, 53, 54, 55, 56, 57, 8, 58, 59, 60, 61, 24, 62, 63, 64, 65, 12, 3, 14, 66, 67, 68, 69, 70, 71, 72, 73, 74, 75, 76, 77, 4, 15, 11, 13, 78, 79, 80, 81, 82, 83, 84, 85, 86, 87, 88, 89, 90, 91, 92, 93, 94, 95, 96, 97, 98, 99, 100, 101, 2, 102, 103, 104, 105, 106, 107, 108, 109, 110, 111, 112, 113, 9, 10, 114, 115, 116, 117, 118, 119, 120, 121, 122, 123, 124, 125, 126, 127, 128, 129, 130, 131, 132, 133, 134, 135, 136, 137, 138, 139, 140, 141, 142, 143, 144, 145, 146, 147, 148, 149, 150, 151, 152, 153, 154, 155, 156, 157, 158, 159, 160, 161, 162, 163, 164, 165, 166, 167, 168, 169, 170, 171, 172, 173, 224, 225, 226, 227, 228, 229, 230, 231, 232, 233, 234, 235, 236, 237, 238, 239, 240, 241, 242, 243, 244, 245, 246, 247, 248, 249, 250, 251, 252, 253, 254, 255, 256, 257, 258, 259, 260, 261, 262] rfl (by decide +kernel)
set_option maxRecDepth 20000 in
theorem gX12_inn_X12_takeSign : GoodIn wsX12_inn (wsV RX12 257 RX12 yX12_takeSign wsX12_takeSign) := goodIn_r _ [130, 131, 132, 19, 133, 7, 119, 120, 121, 19, 122, 5, 6, 28, 58, 59, 60, 61, 24, 224, 225, 226, 227, 228, 229, 230, 231, 232, 233, 234, 235, 236, 237, 238, 239, 240, 241, 242, 243, 244, 245, 246, 247, 248, 249, 250, 251, 252, 253, 254, 255, 256, 257, 258, 259, 260, 261, 262] rfl (by decide +kernel)
set_option maxRecDepth 20000 in
theorem gX12_inn_X12_begins : GoodIn wsX12_inn (wsV RX12 169 RX12 yX12_begins wsX12_begins) := goodIn_r _ [174, 175, 176, 19, 177, 178, 8, 179, 180, 181, 182, 183, 184, 185, 186, 19, 187, 188, 189, 190, 191, 9, 192, 10, 193, 194, 195, 196, 197, 198, 199, 200, 201, 202, 203, 204, 205, 206, 207, 208, 209, 210, 211, 212, 213, 214, 215, 216, 217, 218, 219, 220, 221, 222, 223, 224, 225, 226, 227, 228, 229, 230, 231, 232, 233, 234, 235, 236, 237, 238, 239, 240, 241, 242, 243, 244, 245, 246, 247, 248, 249, 250, 251, 252, 253, 254, 255, 256, 257, 258, 259, 260, 261, 262] rfl (by decide +kernel)
theorem dX12_inn_0 : decode cX12_inn 0 = .ok (.aload_n 0, 1) := by decide +kernel
theorem dX12_inn_1 : decode cX12_inn 1 = .ok (.iconst 0, 1) := by decide +kernel
theorem dX12_inn_2 : decode cX12_inn 2 = .ok (.putfield 1, 3) := by decide +kernel
theorem dX12_inn_5 : decode cX12_inn 5 = .ok (.aload_n 0, 1) := by decide +kernel
theorem dX12_inn_6 : decode cX12_inn 6 = .ok (.invokevirtual 248, 3) := by decide +kernel
theorem dX12_inn_9 : decode cX12_inn 9 = .ok (.aload_n 0, 1) := by decide +kernel
theorem dX12_inn_10 : decode cX12_inn 10 = .ok (.iconst 0, 1) := by decide +kernel
theorem dX12_inn_11 : decode cX12_inn 11 = .ok (.putfield 251, 3) := by decide +kernel
theorem dX12_inn_14 : decode cX12_inn 14 = .ok (.aload_n 0, 1) := by decide +kernel
theorem dX12_inn_15 : decode cX12_inn 15 = .ok (.iconst 0, 1) := by decide +kernel
theorem dX12_inn_16 : decode cX12_inn 16 = .ok (.putfield 227, 3) := by decide +kernel
theorem dX12_inn_19 : decode cX12_inn 19 = .ok (.aload_n 0, 1) := by decide +kernel
theorem dX12_inn_20 : decode cX12_inn 20 = .ok (.iconst 1, 1) := by decide +kernel
theorem dX12_inn_21 : decode cX12_inn 21 = .ok (.putfield 223, 3) := by decide +kernel
theorem dX12_inn_24 : decode cX12_inn 24 = .ok (.aload_n 0, 1) := by decide +kernel
theorem dX12_inn_25 : decode cX12_inn 25 = .ok (.bipush 60, 2) := by decide +kernel
theorem dX12_inn_27 : decode cX12_inn 27 = .ok (.invokevirtual 165, 3) := by decide +kernel
theorem dX12_inn_30 : decode cX12_inn 30 = .ok (.aload_n 0, 1) := by decide +kernel
theorem dX12_inn_31 : decode cX12_inn 31 = .ok (.getfield 198, 3) := by decide +kernel
theorem dX12_inn_34 : decode cX12_inn 34 = .ok (.ifCond .ne 28, 3) := by decide +kernel
theorem dX12_inn_37 : decode cX12_inn 37 = .ok (.aload_n 0, 1) := by decide +kernel
theorem dX12_inn_38 : decode cX12_inn 38 = .ok (.getfield 24, 3) := by decide +kernel
theorem dX12_inn_41 : decode cX12_inn 41 = .ok (.aload_n 0, 1) := by decide +kernel
theorem dX12_inn_42 : decode cX12_inn 42 = .ok (.getfield 195, 3) := by decide +kernel
theorem dX12_inn_45 : decode cX12_inn 45 = .ok (.iaload, 1) := by decide +kernel
theorem dX12_inn_46 : decode cX12_inn 46 = .ok (.ifCond .eq 16, 3) := by decide +kernel
theorem dX12_inn_49 : decode cX12_inn 49 = .ok (.aload_n 0, 1) := by decide +kernel
theorem dX12_inn_50 : decode cX12_inn 50 = .ok (.invokevirtual 254, 3) := by decide +kernel
theorem dX12_inn_53 : decode cX12_inn 53 = .ok (.aload_n 0, 1) := by decide +kernel
theorem dX12_inn_54 : decode cX12_inn 54 = .ok (.bipush 59, 2) := by decide +kernel
theorem dX12_inn_56 : decode cX12_inn 56 = .ok (.invokevirtual 257, 3) := by decide +kernel
theorem dX12_inn_59 : decode cX12_inn 59 = .ok (.goto (-29), 3) := by decide +kernel
theorem dX12_inn_62 : decode cX12_inn 62 = .ok (.aload_n 0, 1) := by decide +kernel
theorem dX12_inn_63 : decode cX12_inn 63 = .ok (.getfield 198, 3) := by decide +kernel
theorem dX12_inn_66 : decode cX12_inn 66 = .ok (.ifCond .le 8, 3) := by decide +kernel
theorem dX12_inn_69 : decode cX12_inn 69 = .ok (.aload_n 0, 1) := by decide +kernel
theorem dX12_inn_70 : decode cX12_inn 70 = .ok (.getfield 198, 3) := by decide +kernel
theorem dX12_inn_73 : decode cX12_inn 73 = .ok (.ireturn, 1) := by decide +kernel
theorem dX12_inn_74 : decode cX12_inn 74 = .ok (.iconst 0, 1) := by decide +kernel
theorem dX12_inn_75 : decode cX12_inn 75 = .ok (.istore_n 1, 1) := by decide +kernel
theorem dX12_inn_76 : decode cX12_inn 76 = .ok (.iload_n 1, 1) := by decide +kernel
theorem dX12_inn_77 : decode cX12_inn 77 = .ok (.bipush 60, 2) := by decide +kernel
theorem dX12_inn_79 : decode cX12_inn 79 = .ok (.if_icmp .ge 24, 3) := by decide +kernel
theorem dX12_inn_82 : decode cX12_inn 82 = .ok (.aload_n 0, 1) := by decide +kernel
theorem dX12_inn_83 : decode cX12_inn 83 = .ok (.getfield 101, 3) := by decide +kernel
theorem dX12_inn_86 : decode cX12_inn 86 = .ok (.iload_n 1, 1) := by decide +kernel
theorem dX12_inn_87 : decode cX12_inn 87 = .ok (.aload_n 0, 1) := by decide +kernel
theorem dX12_inn_88 : decode cX12_inn 88 = .ok (.getfield 101, 3) := by decide +kernel
theorem dX12_inn_91 : decode cX12_inn 91 = .ok (.bipush 60, 2) := by decide +kernel
theorem dX12_inn_93 : decode cX12_inn 93 = .ok (.iload_n 1, 1) := by decide +kernel
theorem dX12_inn_94 : decode cX12_inn 94 = .ok (.iadd, 1) := by decide +kernel
theorem dX12_inn_95 : decode cX12_inn 95 = .ok (.iaload, 1) := by decide +kernel
theorem dX12_inn_96 : decode cX12_inn 96 = .ok (.iastore, 1) := by decide +kernel
theorem dX12_inn_97 : decode cX12_inn 97 = .ok (.iinc 1 1, 3) := by decide +kernel
theorem dX12_inn_100 : decode cX12_inn 100 = .ok (.goto (-24), 3) := by decide +kernel
theorem dX12_inn_103 : decode cX12_inn 103 = .ok (.iconst 0, 1) := by decide +kernel
theorem dX12_inn_104 : decode cX12_inn 104 = .ok (.istore_n 1, 1) := by decide +kernel
theorem dX12_inn_105 : decode cX12_inn 105 = .ok (.iload_n 1, 1) := by decide +kernel
theorem dX12_inn_106 : decode cX12_inn 106 = .ok (.aload_n 0, 1) := by decide +kernel
theorem dX12_inn_107 : decode cX12_inn 107 = .ok (.getfield 251, 3) := by decide +kernel
theorem dX12_inn_110 : decode cX12_inn 110 = .ok (.if_icmp .ge 41, 3) := by decide +kernel
theorem dX12_inn_113 : decode cX12_inn 113 = .ok (.aload_n 0, 1) := by decide +kernel
theorem dX12_inn_114 : decode cX12_inn 114 = .ok (.getfield 104, 3) := by decide +kernel
theorem dX12_inn_117 : decode cX12_inn 117 = .ok (.iload_n 1, 1) := by decide +kernel
theorem dX12_inn_118 : decode cX12_inn 118 = .ok (.aload_n 0, 1) := by decide +kernel
theorem dX12_inn_119 : decode cX12_inn 119 = .ok (.getfield 104, 3) := by decide +kernel
theorem dX12_inn_122 : decode cX12_inn 122 = .ok (.sipush 2200, 3) := by decide +kernel
theorem dX12_inn_125 : decode cX12_inn 125 = .ok (.iload_n 1, 1) := by decide +kernel
theorem dX12_inn_126 : decode cX12_inn 126 = .ok (.iadd, 1) := by decide +kernel
theorem dX12_inn_127 : decode cX12_inn 127 = .ok (.iaload, 1) := by decide +kernel
theorem dX12_inn_128 : decode cX12_inn 128 = .ok (.iastore, 1) := by decide +kernel
theorem dX12_inn_129 : decode cX12_inn 129 = .ok (.aload_n 0, 1) := by decide +kernel
theorem dX12_inn_130 : decode cX12_inn 130 = .ok (.getfield 107, 3) := by decide +kernel
theorem dX12_inn_133 : decode cX12_inn 133 = .ok (.iload_n 1, 1) := by decide +kernel
theorem dX12_inn_134 : decode cX12_inn 134 = .ok (.aload_n 0, 1) := by decide +kernel
theorem dX12_inn_135 : decode cX12_inn 135 = .ok (.getfield 107, 3) := by decide +kernel
theorem dX12_inn_138 : decode cX12_inn 138 = .ok (.sipush 2200, 3) := by decide +kernel
theorem dX12_inn_141 : decode cX12_inn 141 = .ok (.iload_n 1, 1) := by decide +kernel
theorem dX12_inn_142 : decode cX12_inn 142 = .ok (.iadd, 1) := by decide +kernel
theorem dX12_inn_143 : decode cX12_inn 143 = .ok (.iaload, 1) := by decide +kernel
theorem dX12_inn_144 : decode cX12_inn 144 = .ok (.iastore, 1) := by decide +kernel
theorem dX12_inn_145 : decode cX12_inn 145 = .ok (.iinc 1 1, 3) := by decide +kernel
theorem dX12_inn_148 : decode cX12_inn 148 = .ok (.goto (-43), 3) := by decide +kernel
theorem dX12_inn_151 : decode cX12_inn 151 = .ok (.iconst 0, 1) := by decide +kernel
theorem dX12_inn_152 : decode cX12_inn 152 = .ok (.istore_n 1, 1) := by decide +kernel
theorem dX12_inn_153 : decode cX12_inn 153 = .ok (.iload_n 1, 1) := by decide +kernel
theorem dX12_inn_154 : decode cX12_inn 154 = .ok (.aload_n 0, 1) := by decide +kernel
theorem dX12_inn_155 : decode cX12_inn 155 = .ok (.getfield 227, 3) := by decide +kernel
theorem dX12_inn_158 : decode cX12_inn 158 = .ok (.if_icmp .ge 33, 3) := by decide +kernel
theorem dX12_inn_161 : decode cX12_inn 161 = .ok (.aload_n 0, 1) := by decide +kernel
theorem dX12_inn_162 : decode cX12_inn 162 = .ok (.getfield 110, 3) := by decide +kernel
theorem dX12_inn_165 : decode cX12_inn 165 = .ok (.iload_n 1, 1) := by decide +kernel
theorem dX12_inn_166 : decode cX12_inn 166 = .ok (.aload_n 0, 1) := by decide +kernel
theorem dX12_inn_167 : decode cX12_inn 167 = .ok (.getfield 113, 3) := by decide +kernel
theorem dX12_inn_170 : decode cX12_inn 170 = .ok (.iload_n 1, 1) := by decide +kernel
theorem dX12_inn_171 : decode cX12_inn 171 = .ok (.laload, 1) := by decide +kernel
theorem dX12_inn_172 : decode cX12_inn 172 = .ok (.lastore, 1) := by decide +kernel
theorem dX12_inn_173 : decode cX12_inn 173 = .ok (.aload_n 0, 1) := by decide +kernel
theorem dX12_inn_174 : decode cX12_inn 174 = .ok (.getfield 116, 3) := by decide +kernel
theorem dX12_inn_177 : decode cX12_inn 177 = .ok (.iload_n 1, 1) := by decide +kernel
theorem dX12_inn_178 : decode cX12_inn 178 = .ok (.aload_n 0, 1) := by decide +kernel
theorem dX12_inn_179 : decode cX12_inn 179 = .ok (.getfield 119, 3) := by decide +kernel
theorem dX12_inn_182 : decode cX12_inn 182 = .ok (.iload_n 1, 1) := by decide +kernel
theorem dX12_inn_183 : decode cX12_inn 183 = .ok (.iaload, 1) := by decide +kernel
theorem dX12_inn_184 : decode cX12_inn 184 = .ok (.iastore, 1) := by decide +kernel
theorem dX12_inn_185 : decode cX12_inn 185 = .ok (.iinc 1 1, 3) := by decide +kernel
theorem dX12_inn_188 : decode cX12_inn 188 = .ok (.goto (-35), 3) := by decide +kernel
theorem dX12_inn_191 : decode cX12_inn 191 = .ok (.aload_n 0, 1) := by decide +kernel
theorem dX12_inn_192 : decode cX12_inn 192 = .ok (.aload_n 0, 1) := by decide +kernel
theorem dX12_inn_193 : decode cX12_inn 193 = .ok (.getfield 227, 3) := by decide +kernel
theorem dX12_inn_196 : decode cX12_inn 196 = .ok (.putfield 230, 3) := by decide +kernel
theorem dX12_inn_199 : decode cX12_inn 199 = .ok (.aload_n 0, 1) := by decide +kernel
theorem dX12_inn_200 : decode cX12_inn 200 = .ok (.invokevirtual 169, 3) := by decide +kernel
theorem dX12_inn_203 : decode cX12_inn 203 = .ok (.iconst 0, 1) := by decide +kernel
theorem dX12_inn_204 : decode cX12_inn 204 = .ok (.ireturn, 1) := by decide +kernel
set_option maxRecDepth 20000 in
theorem gX12_readWord_X12_takeTold : GoodIn wsX12_readWord (wsV RX12 295 RX12 yX12_takeTold wsX12_takeTold) := goodIn_r _ [3, 4, 5, 6, 7, 8, 9, 10, 11, 12, 6, 13, 14, 15, 16, 17, 18, 19, 20, 21, 22, 23, 24, 25, 26, 27, 28, 29, 30, 31, 32, 33, 34, 35, 36, 37, 38, 39, 40, 41, 42, 43, 44, 45, 46, 47, 87, 88, 89, 90, 91, 92, 93, 94, 95, 96, 97, 98, 99, 100, 101, 102, 103, 104, 105, 106, 107, 108, 109, 110, 111, 112, 113, 114, 115, 116, 117, 118, 119, 120, 121, 122, 123, 124, 125] rfl (by decide +kernel)
set_option maxRecDepth 20000 in
theorem gX12_readWord_X12_either : GoodIn wsX12_readWord (wsV RX12 288 RX12 yX12_either wsX12_either) := goodIn_r _ [48, 49, 50, 6, 51, 52, 53, 54, 6, 55, 56, 57, 58, 8, 23, 24, 25, 26, 9, 18, 27, 28, 59, 60, 61, 62, 63, 2, 64, 65, 66, 67, 68, 69, 70, 14, 15, 16, 17, 19, 20, 21, 22, 71, 72, 73, 74, 29, 30, 31, 32, 33, 34, 35, 36, 37, 38, 39, 40, 41, 42, 43, 44, 45, 46, 47, 75, 76, 77, 78, 48, 49, 50, 79, 80, 81, 82, 87, 88, 89, 90, 91, 92, 93, 94, 95, 96, 97, 98, 99, 100, 101, 102, 103, 104, 105, 106, 107, 108, 109, 110, 111, 112, 113, 114, 115, 116, 117, 118, 119, 120, 121, 122, 123, 124, 125] rfl (by decide +kernel)
set_option maxRecDepth 20000 in
theorem gX12_readWord_X12_emit : GoodIn wsX12_readWord (wsV RX12 291 RX12 yX12_emit wsX12_emit) := goodIn_r _ [59, 60, 61, 6, 62, 63, 2, 64, 87, 88, 89, 90, 91, 92, 93, 94, 95, 96, 97, 98, 99, 100, 101, 102, 103, 104, 105, 106, 107, 108, 109, 110, 111, 112, 113, 114, 115, 116, 117, 118, 119, 120, 121, 122, 123, 124, 125] rfl (by decide +kernel)
set_option maxRecDepth 20000 in
theorem gX12_readWord_X12_takeOne : GoodIn wsX12_readWord (wsV RX12 278 RX12 yX12_takeOne wsX12_takeOne) := goodIn_r _ [83, 84, 85, 6, 86, 9, 8, 19, 20, 21, 6, 22, 23, 24, 25, 26, 18, 27, 28, 29, 30, 31, 32, 33, 87, 88, 89, 90, 91, 92, 93, 94, 95, 96, 97, 98, 99, 100, 101, 102, 103, 104, 105, 106, 107, 108, 109, 110, 111, 112, 113, 114, 115, 116, 117, 118, 119, 120, 121, 122, 123, 124, 125] rfl (by decide +kernel)
theorem dX12_readWord_0 : decode cX12_readWord 0 = .ok (.iload_n 1, 1) := by decide +kernel
theorem dX12_readWord_1 : decode cX12_readWord 1 = .ok (.ifCond .ne 46, 3) := by decide +kernel
theorem dX12_readWord_4 : decode cX12_readWord 4 = .ok (.aload_n 0, 1) := by decide +kernel
theorem dX12_readWord_5 : decode cX12_readWord 5 = .ok (.getfield 122, 3) := by decide +kernel
theorem dX12_readWord_8 : decode cX12_readWord 8 = .ok (.iload_n 2, 1) := by decide +kernel
theorem dX12_readWord_9 : decode cX12_readWord 9 = .ok (.aload_n 0, 1) := by decide +kernel
theorem dX12_readWord_10 : decode cX12_readWord 10 = .ok (.iconst 0, 1) := by decide +kernel
theorem dX12_readWord_11 : decode cX12_readWord 11 = .ok (.bipush 8, 2) := by decide +kernel
theorem dX12_readWord_13 : decode cX12_readWord 13 = .ok (.invokevirtual 295, 3) := by decide +kernel
theorem dX12_readWord_16 : decode cX12_readWord 16 = .ok (.iastore, 1) := by decide +kernel
theorem dX12_readWord_17 : decode cX12_readWord 17 = .ok (.aload_n 0, 1) := by decide +kernel
theorem dX12_readWord_18 : decode cX12_readWord 18 = .ok (.getfield 122, 3) := by decide +kernel
theorem dX12_readWord_21 : decode cX12_readWord 21 = .ok (.iload_n 2, 1) := by decide +kernel
theorem dX12_readWord_22 : decode cX12_readWord 22 = .ok (.iconst 1, 1) := by decide +kernel
theorem dX12_readWord_23 : decode cX12_readWord 23 = .ok (.iadd, 1) := by decide +kernel
theorem dX12_readWord_24 : decode cX12_readWord 24 = .ok (.sipush 1100, 3) := by decide +kernel
theorem dX12_readWord_27 : decode cX12_readWord 27 = .ok (.aload_n 0, 1) := by decide +kernel
theorem dX12_readWord_28 : decode cX12_readWord 28 = .ok (.getfield 251, 3) := by decide +kernel
theorem dX12_readWord_31 : decode cX12_readWord 31 = .ok (.iadd, 1) := by decide +kernel
theorem dX12_readWord_32 : decode cX12_readWord 32 = .ok (.iastore, 1) := by decide +kernel
theorem dX12_readWord_33 : decode cX12_readWord 33 = .ok (.aload_n 0, 1) := by decide +kernel
theorem dX12_readWord_34 : decode cX12_readWord 34 = .ok (.iconst 0, 1) := by decide +kernel
theorem dX12_readWord_35 : decode cX12_readWord 35 = .ok (.invokevirtual 288, 3) := by decide +kernel
theorem dX12_readWord_38 : decode cX12_readWord 38 = .ok (.aload_n 0, 1) := by decide +kernel
theorem dX12_readWord_39 : decode cX12_readWord 39 = .ok (.iconst 0, 1) := by decide +kernel
theorem dX12_readWord_40 : decode cX12_readWord 40 = .ok (.iconst 0, 1) := by decide +kernel
theorem dX12_readWord_41 : decode cX12_readWord 41 = .ok (.invokevirtual 291, 3) := by decide +kernel
theorem dX12_readWord_44 : decode cX12_readWord 44 = .ok (.goto 43, 3) := by decide +kernel
theorem dX12_readWord_47 : decode cX12_readWord 47 = .ok (.iload_n 1, 1) := by decide +kernel
theorem dX12_readWord_48 : decode cX12_readWord 48 = .ok (.iconst 3, 1) := by decide +kernel
theorem dX12_readWord_49 : decode cX12_readWord 49 = .ok (.if_icmp .ge 20, 3) := by decide +kernel
theorem dX12_readWord_52 : decode cX12_readWord 52 = .ok (.aload_n 0, 1) := by decide +kernel
theorem dX12_readWord_53 : decode cX12_readWord 53 = .ok (.getfield 122, 3) := by decide +kernel
theorem dX12_readWord_56 : decode cX12_readWord 56 = .ok (.iload_n 2, 1) := by decide +kernel
theorem dX12_readWord_57 : decode cX12_readWord 57 = .ok (.aload_n 0, 1) := by decide +kernel
theorem dX12_readWord_58 : decode cX12_readWord 58 = .ok (.bipush 20, 2) := by decide +kernel
theorem dX12_readWord_60 : decode cX12_readWord 60 = .ok (.bipush 6, 2) := by decide +kernel
theorem dX12_readWord_62 : decode cX12_readWord 62 = .ok (.invokevirtual 295, 3) := by decide +kernel
theorem dX12_readWord_65 : decode cX12_readWord 65 = .ok (.iastore, 1) := by decide +kernel
theorem dX12_readWord_66 : decode cX12_readWord 66 = .ok (.goto 21, 3) := by decide +kernel
theorem dX12_readWord_69 : decode cX12_readWord 69 = .ok (.iload_n 1, 1) := by decide +kernel
theorem dX12_readWord_70 : decode cX12_readWord 70 = .ok (.iconst 3, 1) := by decide +kernel
theorem dX12_readWord_71 : decode cX12_readWord 71 = .ok (.if_icmp .ne 16, 3) := by decide +kernel
theorem dX12_readWord_74 : decode cX12_readWord 74 = .ok (.aload_n 0, 1) := by decide +kernel
theorem dX12_readWord_75 : decode cX12_readWord 75 = .ok (.getfield 122, 3) := by decide +kernel
theorem dX12_readWord_78 : decode cX12_readWord 78 = .ok (.iload_n 2, 1) := by decide +kernel
theorem dX12_readWord_79 : decode cX12_readWord 79 = .ok (.aload_n 0, 1) := by decide +kernel
theorem dX12_readWord_80 : decode cX12_readWord 80 = .ok (.bipush 18, 2) := by decide +kernel
theorem dX12_readWord_82 : decode cX12_readWord 82 = .ok (.iconst 4, 1) := by decide +kernel
theorem dX12_readWord_83 : decode cX12_readWord 83 = .ok (.invokevirtual 278, 3) := by decide +kernel
theorem dX12_readWord_86 : decode cX12_readWord 86 = .ok (.iastore, 1) := by decide +kernel
theorem dX12_readWord_87 : decode cX12_readWord 87 = .ok (.return_, 1) := by decide +kernel
set_option maxRecDepth 20000 in
theorem gX12_morning_X12_cutAll : GoodIn wsX12_morning (wsV RX12 248 RX12 yX12_cutAll wsX12_cutAll) := goodIn_r _ [12, 13, 14, 15, 16, 17, 18, 19, 20, 21, 7, 22, 23, 24, 8, 6, 25, 26, 15, 27, 28, 29, 30, 31, 32, 33, 34, 35, 36, 115, 116, 117, 118, 119, 120, 121, 122, 123, 124, 125, 126, 127, 128, 129, 130, 131, 132, 133, 134, 135, 136, 137, 138, 139, 140, 141, 142, 143, 144, 145, 146, 147, 148, 149, 150, 151, 152, 153] rfl (by decide +kernel)
set_option maxRecDepth 20000 in
theorem gX12_morning_X12_wordHere : GoodIn wsX12_morning (wsV RX12 220 RX12 yX12_wordHere wsX12_wordHere) := goodIn_r _ [37, 38, 39, 15, 40, 41, 42, 43, 15, 44, 6, 7, 8, 24, 45, 115, 116, 117, 118, 119, 120, 121, 122, 123, 124, 125, 126, 127, 128, 129, 130, 131, 132, 133, 134, 135, 136, 137, 138, 139, 140, 141, 142, 143, 144, 145, 146, 147, 148, 149, 150, 151, 152, 153] rfl (by decide +kernel)
set_option maxRecDepth 20000 in
theorem gX12_morning_X12_wrong : GoodIn wsX12_morning (wsV RX12 204 RX12 yX12_wrong wsX12_wrong) := goodIn_r _ [46, 47, 48, 15, 49, 6, 20, 8, 115, 116, 117, 118, 119, 120, 121, 122, 123, 124, 125, 126, 127, 128, 129, 130, 131, 132, 133, 134, 135, 136, 137, 138, 139, 140, 141, 142, 143, 144, 145, 146, 147, 148, 149, 150, 151, 152, 153] rfl (by decide +kernel)
set_option maxRecDepth 20000 in
theorem gX12_morning_X12_readWord : GoodIn wsX12_morning (wsV RX12 310 RX12 yX12_readWord wsX12_readWord) := goodIn_r _ [50, 51, 52, 15, 53, 9, 2, 54, 55, 56, 15, 57, 8, 6, 58, 59, 60, 61, 62, 63, 64, 65, 7, 37, 38, 39, 40, 41, 42, 43, 44, 24, 45, 46, 47, 48, 49, 20, 66, 67, 68, 69, 3, 70, 71, 72, 73, 74, 75, 76, 77, 78, 79, 80, 81, 82, 83, 84, 85, 86, 87, 88, 89, 90, 91, 92, 93, 10, 11, 94, 95, 96, 97, 98, 5, 99, 100, 101, 102, 103, 104, 105, 106, 107, 108, 109, 110, 111, 112, 113, 114, 115, 116, 117, 118, 119, 120, 121, 122, 123, 124, 125, 126, 127, 128, 129, 130, 131, 132, 133, 134, 135, 136, 137, 138, 139, 140, 141, 142, 143, 144, 145, 146, 147, 148, 149, 150, 151, 152, 153] rfl (by decide +kernel)
set_option maxRecDepth 20000 in
theorem gX12_morning_X12_takeSign : GoodIn wsX12_morning (wsV RX12 257 RX12 yX12_takeSign wsX12_takeSign) := goodIn_r _ [107, 108, 109, 15, 110, 8, 99, 100, 101, 15, 102, 6, 7, 24, 46, 47, 48, 49, 20, 115, 116, 117, 118, 119, 120, 121, 122, 123, 124, 125, 126, 127, 128, 129, 130, 131, 132, 133, 134, 135, 136, 137, 138, 139, 140, 141, 142, 143, 144, 145, 146, 147, 148, 149, 150, 151, 152, 153] rfl (by decide +kernel)
theorem dX12_morning_0 : decode cX12_morning 0 = .ok (.aload_n 0, 1) := by decide +kernel
theorem dX12_morning_1 : decode cX12_morning 1 = .ok (.iconst 0, 1) := by decide +kernel
theorem dX12_morning_2 : decode cX12_morning 2 = .ok (.putfield 1, 3) := by decide +kernel
theorem dX12_morning_5 : decode cX12_morning 5 = .ok (.aload_n 0, 1) := by decide +kernel
theorem dX12_morning_6 : decode cX12_morning 6 = .ok (.invokevirtual 248, 3) := by decide +kernel
theorem dX12_morning_9 : decode cX12_morning 9 = .ok (.aload_n 0, 1) := by decide +kernel
theorem dX12_morning_10 : decode cX12_morning 10 = .ok (.iconst 0, 1) := by decide +kernel
theorem dX12_morning_11 : decode cX12_morning 11 = .ok (.putfield 251, 3) := by decide +kernel
theorem dX12_morning_14 : decode cX12_morning 14 = .ok (.aload_n 0, 1) := by decide +kernel
theorem dX12_morning_15 : decode cX12_morning 15 = .ok (.iconst 0, 1) := by decide +kernel
theorem dX12_morning_16 : decode cX12_morning 16 = .ok (.putfield 223, 3) := by decide +kernel
theorem dX12_morning_19 : decode cX12_morning 19 = .ok (.aload_n 0, 1) := by decide +kernel
theorem dX12_morning_20 : decode cX12_morning 20 = .ok (.bipush 20, 2) := by decide +kernel
theorem dX12_morning_22 : decode cX12_morning 22 = .ok (.aload_n 0, 1) := by decide +kernel
theorem dX12_morning_23 : decode cX12_morning 23 = .ok (.getfield 101, 3) := by decide +kernel
theorem dX12_morning_26 : decode cX12_morning 26 = .ok (.iconst 1, 1) := by decide +kernel
theorem dX12_morning_27 : decode cX12_morning 27 = .ok (.iaload, 1) := by decide +kernel
theorem dX12_morning_28 : decode cX12_morning 28 = .ok (.iadd, 1) := by decide +kernel
theorem dX12_morning_29 : decode cX12_morning 29 = .ok (.putfield 285, 3) := by decide +kernel
theorem dX12_morning_32 : decode cX12_morning 32 = .ok (.iconst 0, 1) := by decide +kernel
theorem dX12_morning_33 : decode cX12_morning 33 = .ok (.istore_n 1, 1) := by decide +kernel
theorem dX12_morning_34 : decode cX12_morning 34 = .ok (.aload_n 0, 1) := by decide +kernel
theorem dX12_morning_35 : decode cX12_morning 35 = .ok (.getfield 198, 3) := by decide +kernel
theorem dX12_morning_38 : decode cX12_morning 38 = .ok (.ifCond .ne 94, 3) := by decide +kernel
theorem dX12_morning_41 : decode cX12_morning 41 = .ok (.aload_n 0, 1) := by decide +kernel
theorem dX12_morning_42 : decode cX12_morning 42 = .ok (.getfield 24, 3) := by decide +kernel
theorem dX12_morning_45 : decode cX12_morning 45 = .ok (.aload_n 0, 1) := by decide +kernel
theorem dX12_morning_46 : decode cX12_morning 46 = .ok (.getfield 195, 3) := by decide +kernel
theorem dX12_morning_49 : decode cX12_morning 49 = .ok (.iaload, 1) := by decide +kernel
theorem dX12_morning_50 : decode cX12_morning 50 = .ok (.ifCond .eq 82, 3) := by decide +kernel
theorem dX12_morning_53 : decode cX12_morning 53 = .ok (.aload_n 0, 1) := by decide +kernel
theorem dX12_morning_54 : decode cX12_morning 54 = .ok (.bipush 9, 2) := by decide +kernel
theorem dX12_morning_56 : decode cX12_morning 56 = .ok (.iconst 5, 1) := by decide +kernel
theorem dX12_morning_57 : decode cX12_morning 57 = .ok (.invokevirtual 220, 3) := by decide +kernel
theorem dX12_morning_60 : decode cX12_morning 60 = .ok (.istore_n 2, 1) := by decide +kernel
theorem dX12_morning_61 : decode cX12_morning 61 = .ok (.iload_n 2, 1) := by decide +kernel
theorem dX12_morning_62 : decode cX12_morning 62 = .ok (.ifCond .ge 11, 3) := by decide +kernel
theorem dX12_morning_65 : decode cX12_morning 65 = .ok (.aload_n 0, 1) := by decide +kernel
theorem dX12_morning_66 : decode cX12_morning 66 = .ok (.iconst 1, 1) := by decide +kernel
theorem dX12_morning_67 : decode cX12_morning 67 = .ok (.invokevirtual 204, 3) := by decide +kernel
theorem dX12_morning_70 : decode cX12_morning 70 = .ok (.goto 53, 3) := by decide +kernel
theorem dX12_morning_73 : decode cX12_morning 73 = .ok (.iload_n 1, 1) := by decide +kernel
theorem dX12_morning_74 : decode cX12_morning 74 = .ok (.bipush 24, 2) := by decide +kernel
theorem dX12_morning_76 : decode cX12_morning 76 = .ok (.if_icmp .ne 11, 3) := by decide +kernel
theorem dX12_morning_79 : decode cX12_morning 79 = .ok (.aload_n 0, 1) := by decide +kernel
theorem dX12_morning_80 : decode cX12_morning 80 = .ok (.iconst 5, 1) := by decide +kernel
theorem dX12_morning_81 : decode cX12_morning 81 = .ok (.invokevirtual 204, 3) := by decide +kernel
theorem dX12_morning_84 : decode cX12_morning 84 = .ok (.goto 39, 3) := by decide +kernel
theorem dX12_morning_87 : decode cX12_morning 87 = .ok (.aload_n 0, 1) := by decide +kernel
theorem dX12_morning_88 : decode cX12_morning 88 = .ok (.dup, 1) := by decide +kernel
theorem dX12_morning_89 : decode cX12_morning 89 = .ok (.getfield 195, 3) := by decide +kernel
theorem dX12_morning_92 : decode cX12_morning 92 = .ok (.iconst 1, 1) := by decide +kernel
theorem dX12_morning_93 : decode cX12_morning 93 = .ok (.iadd, 1) := by decide +kernel
theorem dX12_morning_94 : decode cX12_morning 94 = .ok (.putfield 195, 3) := by decide +kernel
theorem dX12_morning_97 : decode cX12_morning 97 = .ok (.aload_n 0, 1) := by decide +kernel
theorem dX12_morning_98 : decode cX12_morning 98 = .ok (.getfield 122, 3) := by decide +kernel
theorem dX12_morning_101 : decode cX12_morning 101 = .ok (.bipush 80, 2) := by decide +kernel
theorem dX12_morning_103 : decode cX12_morning 103 = .ok (.iconst 3, 1) := by decide +kernel
theorem dX12_morning_104 : decode cX12_morning 104 = .ok (.iload_n 1, 1) := by decide +kernel
theorem dX12_morning_105 : decode cX12_morning 105 = .ok (.imul, 1) := by decide +kernel
theorem dX12_morning_106 : decode cX12_morning 106 = .ok (.iadd, 1) := by decide +kernel
theorem dX12_morning_107 : decode cX12_morning 107 = .ok (.iload_n 2, 1) := by decide +kernel
theorem dX12_morning_108 : decode cX12_morning 108 = .ok (.iastore, 1) := by decide +kernel
theorem dX12_morning_109 : decode cX12_morning 109 = .ok (.aload_n 0, 1) := by decide +kernel
theorem dX12_morning_110 : decode cX12_morning 110 = .ok (.iload_n 2, 1) := by decide +kernel
theorem dX12_morning_111 : decode cX12_morning 111 = .ok (.bipush 81, 2) := by decide +kernel
theorem dX12_morning_113 : decode cX12_morning 113 = .ok (.iconst 3, 1) := by decide +kernel
theorem dX12_morning_114 : decode cX12_morning 114 = .ok (.iload_n 1, 1) := by decide +kernel
theorem dX12_morning_115 : decode cX12_morning 115 = .ok (.imul, 1) := by decide +kernel
theorem dX12_morning_116 : decode cX12_morning 116 = .ok (.iadd, 1) := by decide +kernel
theorem dX12_morning_117 : decode cX12_morning 117 = .ok (.invokevirtual 310, 3) := by decide +kernel
theorem dX12_morning_120 : decode cX12_morning 120 = .ok (.iinc 1 1, 3) := by decide +kernel
theorem dX12_morning_123 : decode cX12_morning 123 = .ok (.aload_n 0, 1) := by decide +kernel
theorem dX12_morning_124 : decode cX12_morning 124 = .ok (.bipush 59, 2) := by decide +kernel
theorem dX12_morning_126 : decode cX12_morning 126 = .ok (.invokevirtual 257, 3) := by decide +kernel
theorem dX12_morning_129 : decode cX12_morning 129 = .ok (.goto (-95), 3) := by decide +kernel
theorem dX12_morning_132 : decode cX12_morning 132 = .ok (.aload_n 0, 1) := by decide +kernel
theorem dX12_morning_133 : decode cX12_morning 133 = .ok (.getfield 198, 3) := by decide +kernel
theorem dX12_morning_136 : decode cX12_morning 136 = .ok (.ifCond .le 8, 3) := by decide +kernel
theorem dX12_morning_139 : decode cX12_morning 139 = .ok (.aload_n 0, 1) := by decide +kernel
theorem dX12_morning_140 : decode cX12_morning 140 = .ok (.getfield 198, 3) := by decide +kernel
theorem dX12_morning_143 : decode cX12_morning 143 = .ok (.ireturn, 1) := by decide +kernel
theorem dX12_morning_144 : decode cX12_morning 144 = .ok (.aload_n 0, 1) := by decide +kernel
theorem dX12_morning_145 : decode cX12_morning 145 = .ok (.getfield 122, 3) := by decide +kernel
theorem dX12_morning_148 : decode cX12_morning 148 = .ok (.iconst 0, 1) := by decide +kernel
theorem dX12_morning_149 : decode cX12_morning 149 = .ok (.iload_n 1, 1) := by decide +kernel
theorem dX12_morning_150 : decode cX12_morning 150 = .ok (.iastore, 1) := by decide +kernel
theorem dX12_morning_151 : decode cX12_morning 151 = .ok (.iconst 0, 1) := by decide +kernel
theorem dX12_morning_152 : decode cX12_morning 152 = .ok (.istore_n 2, 1) := by decide +kernel
theorem dX12_morning_153 : decode cX12_morning 153 = .ok (.iload_n 2, 1) := by decide +kernel
theorem dX12_morning_154 : decode cX12_morning 154 = .ok (.iconst 3, 1) := by decide +kernel
theorem dX12_morning_155 : decode cX12_morning 155 = .ok (.iload_n 1, 1) := by decide +kernel
theorem dX12_morning_156 : decode cX12_morning 156 = .ok (.imul, 1) := by decide +kernel
theorem dX12_morning_157 : decode cX12_morning 157 = .ok (.if_icmp .ge 26, 3) := by decide +kernel
theorem dX12_morning_160 : decode cX12_morning 160 = .ok (.aload_n 0, 1) := by decide +kernel
theorem dX12_morning_161 : decode cX12_morning 161 = .ok (.getfield 122, 3) := by decide +kernel
theorem dX12_morning_164 : decode cX12_morning 164 = .ok (.iconst 1, 1) := by decide +kernel
theorem dX12_morning_165 : decode cX12_morning 165 = .ok (.iload_n 2, 1) := by decide +kernel
theorem dX12_morning_166 : decode cX12_morning 166 = .ok (.iadd, 1) := by decide +kernel
theorem dX12_morning_167 : decode cX12_morning 167 = .ok (.aload_n 0, 1) := by decide +kernel
theorem dX12_morning_168 : decode cX12_morning 168 = .ok (.getfield 122, 3) := by decide +kernel
theorem dX12_morning_171 : decode cX12_morning 171 = .ok (.bipush 80, 2) := by decide +kernel
theorem dX12_morning_173 : decode cX12_morning 173 = .ok (.iload_n 2, 1) := by decide +kernel
theorem dX12_morning_174 : decode cX12_morning 174 = .ok (.iadd, 1) := by decide +kernel
theorem dX12_morning_175 : decode cX12_morning 175 = .ok (.iaload, 1) := by decide +kernel
theorem dX12_morning_176 : decode cX12_morning 176 = .ok (.iastore, 1) := by decide +kernel
theorem dX12_morning_177 : decode cX12_morning 177 = .ok (.iinc 2 1, 3) := by decide +kernel
theorem dX12_morning_180 : decode cX12_morning 180 = .ok (.goto (-27), 3) := by decide +kernel
theorem dX12_morning_183 : decode cX12_morning 183 = .ok (.iconst 0, 1) := by decide +kernel
theorem dX12_morning_184 : decode cX12_morning 184 = .ok (.istore_n 2, 1) := by decide +kernel
theorem dX12_morning_185 : decode cX12_morning 185 = .ok (.iload_n 2, 1) := by decide +kernel
theorem dX12_morning_186 : decode cX12_morning 186 = .ok (.aload_n 0, 1) := by decide +kernel
theorem dX12_morning_187 : decode cX12_morning 187 = .ok (.getfield 251, 3) := by decide +kernel
theorem dX12_morning_190 : decode cX12_morning 190 = .ok (.if_icmp .ge 49, 3) := by decide +kernel
theorem dX12_morning_193 : decode cX12_morning 193 = .ok (.aload_n 0, 1) := by decide +kernel
theorem dX12_morning_194 : decode cX12_morning 194 = .ok (.getfield 104, 3) := by decide +kernel
theorem dX12_morning_197 : decode cX12_morning 197 = .ok (.sipush 1100, 3) := by decide +kernel
theorem dX12_morning_200 : decode cX12_morning 200 = .ok (.iload_n 2, 1) := by decide +kernel
theorem dX12_morning_201 : decode cX12_morning 201 = .ok (.iadd, 1) := by decide +kernel
theorem dX12_morning_202 : decode cX12_morning 202 = .ok (.aload_n 0, 1) := by decide +kernel
theorem dX12_morning_203 : decode cX12_morning 203 = .ok (.getfield 104, 3) := by decide +kernel
theorem dX12_morning_206 : decode cX12_morning 206 = .ok (.sipush 2200, 3) := by decide +kernel
theorem dX12_morning_209 : decode cX12_morning 209 = .ok (.iload_n 2, 1) := by decide +kernel
theorem dX12_morning_210 : decode cX12_morning 210 = .ok (.iadd, 1) := by decide +kernel
theorem dX12_morning_211 : decode cX12_morning 211 = .ok (.iaload, 1) := by decide +kernel
theorem dX12_morning_212 : decode cX12_morning 212 = .ok (.iastore, 1) := by decide +kernel
theorem dX12_morning_213 : decode cX12_morning 213 = .ok (.aload_n 0, 1) := by decide +kernel
theorem dX12_morning_214 : decode cX12_morning 214 = .ok (.getfield 107, 3) := by decide +kernel
theorem dX12_morning_217 : decode cX12_morning 217 = .ok (.sipush 1100, 3) := by decide +kernel
theorem dX12_morning_220 : decode cX12_morning 220 = .ok (.iload_n 2, 1) := by decide +kernel
theorem dX12_morning_221 : decode cX12_morning 221 = .ok (.iadd, 1) := by decide +kernel
theorem dX12_morning_222 : decode cX12_morning 222 = .ok (.aload_n 0, 1) := by decide +kernel
theorem dX12_morning_223 : decode cX12_morning 223 = .ok (.getfield 107, 3) := by decide +kernel
theorem dX12_morning_226 : decode cX12_morning 226 = .ok (.sipush 2200, 3) := by decide +kernel
theorem dX12_morning_229 : decode cX12_morning 229 = .ok (.iload_n 2, 1) := by decide +kernel
theorem dX12_morning_230 : decode cX12_morning 230 = .ok (.iadd, 1) := by decide +kernel
theorem dX12_morning_231 : decode cX12_morning 231 = .ok (.iaload, 1) := by decide +kernel
theorem dX12_morning_232 : decode cX12_morning 232 = .ok (.iastore, 1) := by decide +kernel
theorem dX12_morning_233 : decode cX12_morning 233 = .ok (.iinc 2 1, 3) := by decide +kernel
theorem dX12_morning_236 : decode cX12_morning 236 = .ok (.goto (-51), 3) := by decide +kernel
theorem dX12_morning_239 : decode cX12_morning 239 = .ok (.iconst 0, 1) := by decide +kernel
theorem dX12_morning_240 : decode cX12_morning 240 = .ok (.ireturn, 1) := by decide +kernel
section
variable {p : Program} {l : Launch} {e : Env} {s : State} {m : MethodId} {args : Array Value} {below : List Frame} {meth : Method} {c : Code} {D : va_G} {cy : Nat → ClassId} {ad : Nat → Nat} {A : Nat → Prop} {aM aB aO aI aN aT aC aG aR aQ aK aL aX aH aJ aP aU aE0 aE1 aE2 aE3 : Nat → Nat} {gi : Value}
abbrev rm12_readBill : Room := { frames := 67, cells := 0, slots := 0, locals := 1475 }
theorem hdV12_readBill : yX12_readBill.cls = RX12 ∧ (yX12_readBill.cls ≠ "java/lang/invoke/MethodHandle" ∧ yX12_readBill.cls ≠ "java/lang/invoke/VarHandle" ∧ (parseMethodDescriptor yX12_readBill.desc).map (fun d => d.parameters.length) = some 0) := by decide +kernel
theorem hin12_readBill_12 : ∀ x ∈ u_ws RX12 TX12 39, x ∈ wsX12_readBill := fun _ h => List.mem_cons_of_mem _ (List.mem_append_right _ h)
set_option maxRecDepth 100000 in
set_option maxHeartbeats 4000000 in
theorem t12_readBill_71 (hC : Cx p s m args meth c cX12_readBill 1 wsX12_readBill RX12 none) : ∀ (SM : Ob) (res : Ob) (H : Heap) (locs : List Loc) (ls : Array Slot), f12_readBill_71 SM = some res → GW D cy ad (w12 cy aM SM) A s H locs → lv_has ls 1 [] → W p l e rm12_readBill s m args below meth c H locs 0 0 (MQ below (QV D cy (w12 cy aM res) A) args s 0 0 A) (F0 m 71 ls []) := by
  intro SM res H locs ls hf hW hl
  unfold f12_readBill_71 at hf
  obtain rfl := Option.some.inj hf
  exact g_vret hC hW dX12_readBill_71
set_option maxRecDepth 100000 in
set_option maxHeartbeats 4000000 in
theorem t12_readBill_32 (hC : Cx p s m args meth c cX12_readBill 1 wsX12_readBill RX12 none) : ∀ (SM : Ob) (res : Ob) (H : Heap) (locs : List Loc) (ls : Array Slot), f12_readBill_32 SM = some res → GW D cy ad (w12 cy aM SM) A s H locs → lv_has ls 1 [(0, .ref (aM 0))] → W p l e rm12_readBill s m args below meth c H locs 0 0 (MQ below (QV D cy (w12 cy aM res) A) args s 0 0 A) (F0 m 32 ls []) := by
  intro SM res H locs ls hf hW hl
  unfold f12_readBill_32 at hf
  refine lv_aload_n hC.1 hC.2.1 dX12_readBill_32 rfl (lv_at hl 0 rfl) ?_
  refine g_get hC hW hin12_readBill_12 0 rfl rfl 8 (by decide) 2 rfl rfl dX12_readBill_33 ?_
  refine lv_if_ne (tgt := 71) hC.1 hC.2.1 dX12_readBill_36 (by decide) (fun hc_1 => ?_) (fun hc_1 => ?_)
  · have hf := ite_f hf hc_1
    exact t12_readBill_71 hC  _ _ _ _ _ hf hW (lv_sub hl [] rfl)
  · have hf := ite_t hf hc_1
    refine lv_aload_n hC.1 hC.2.1 dX12_readBill_39 rfl (lv_at hl 0 rfl) ?_
    refine lv_dup hC.1 hC.2.1 dX12_readBill_40 rfl ?_
    refine g_get hC hW hin12_readBill_12 0 rfl rfl 7 (by decide) 3 rfl rfl dX12_readBill_41 ?_
    refine lv_iconst (v := 1) hC.1 hC.2.1 dX12_readBill_44 (by decide) ?_
    refine lv_iadd hC.1 hC.2.1 dX12_readBill_45 ?_
    obtain ⟨SM_2, eSM_2⟩ : ∃ y : Ob, y = oI SM 7 ((SM.1 7) + 1) := ⟨_, rfl⟩
    have hf := lt_nm hf eSM_2
    refine g_put hC hW hin12_readBill_12 tyX12 tyX12_ok nmX12 0 rfl rfl 7 (by decide) 3 rfl rfl rfl rfl (Nat.le_of_ble_eq_true rfl) (w' := w12 cy aM SM_2) (by rw [eSM_2]; rfl) dX12_readBill_46 (fun H locs hW => ?_)
    refine lv_aload_n hC.1 hC.2.1 dX12_readBill_49 rfl (lv_at hl 0 rfl) ?_
    refine g_get hC hW hin12_readBill_12 0 rfl rfl 10 (by decide) 1 rfl rfl dX12_readBill_50 ?_
    refine lv_bipush (v := 62) hC.1 hC.2.1 dX12_readBill_53 (by decide) ?_
    refine lv_aload_n hC.1 hC.2.1 dX12_readBill_55 rfl (lv_at hl 0 rfl) ?_
    refine g_get hC hW hin12_readBill_12 0 rfl rfl 13 (by decide) 4 rfl rfl dX12_readBill_56 ?_
    obtain ⟨hi_3, hf⟩ := ck_of hf
    obtain ⟨SM_4, eSM_4⟩ : ∃ y : Ob, y = oA SM_2 10 (Int32.toNatClampNeg 62) (SM_2.1 13) := ⟨_, rfl⟩
    have hf := lt_nm hf eSM_4
    refine g_iast hC hW 6 rfl hi_3 (w' := w12 cy aM SM_4) (by rw [eSM_4]; rfl) dX12_readBill_59 (fun H locs hW => ?_)
    refine lv_aload_n hC.1 hC.2.1 dX12_readBill_60 rfl (lv_at hl 0 rfl) ?_
    refine lv_iconst (v := 0) hC.1 hC.2.1 dX12_readBill_61 (by decide) ?_
    obtain ⟨r_5, hg_6, hf⟩ := bd_of hf
    refine g_callvV hC hW (c12_all l D cy ad aM (f12_takePart DP) DP (c12_takePart l D cy ad aM DP) hg_6) (cwV 1 hC.2.2.2.2.1 gX12_readBill_X12_all rfl rfl rfl hdV12_all ⟨Nat.le_of_ble_eq_true rfl, Nat.le_of_ble_eq_true rfl⟩) (Sub.all _ _) 0 11 rfl rfl rfl rfl hl.1 rfl (Nat.le_of_ble_eq_true rfl) dX12_readBill_62 ⟨Nat.zero_le _, Nat.zero_le _⟩ (fun H locs hW => ?_)
    refine lv_aload_n hC.1 hC.2.1 dX12_readBill_65 rfl (lv_at hl 0 rfl) ?_
    refine lv_iconst (v := 0) hC.1 hC.2.1 dX12_readBill_66 (by decide) ?_
    refine lv_iconst (v := 0) hC.1 hC.2.1 dX12_readBill_67 (by decide) ?_
    obtain ⟨r_7, hg_8, hf⟩ := bd_of hf
    refine g_callvV hC hW (c12_emit l D cy ad aM hg_8) (cwV 2 hC.2.2.2.2.1 gX12_readBill_X12_emit rfl rfl rfl hdV12_emit ⟨Nat.le_of_ble_eq_true rfl, Nat.le_of_ble_eq_true rfl⟩) (Sub.all _ _) 0 11 rfl rfl rfl rfl hl.1 rfl (Nat.le_of_ble_eq_true rfl) dX12_readBill_68 ⟨Nat.zero_le _, Nat.zero_le _⟩ (fun H locs hW => ?_)
    exact t12_readBill_71 hC  _ _ _ _ _ hf hW (lv_sub hl [] rfl)
set_option maxRecDepth 100000 in
set_option maxHeartbeats 4000000 in
theorem t12_readBill_0 (hC : Cx p s m args meth c cX12_readBill 1 wsX12_readBill RX12 none) : ∀ (SM : Ob) (res : Ob) (H : Heap) (locs : List Loc) (ls : Array Slot), f12_readBill SM = some res → GW D cy ad (w12 cy aM SM) A s H locs → lv_has ls 1 [(0, .ref (aM 0))] → W p l e rm12_readBill s m args below meth c H locs 0 0 (MQ below (QV D cy (w12 cy aM res) A) args s 0 0 A) (F0 m 0 ls []) := by
  intro SM res H locs ls hf hW hl
  unfold f12_readBill at hf
  refine lv_aload_n hC.1 hC.2.1 dX12_readBill_0 rfl (lv_at hl 0 rfl) ?_
  refine lv_bipush (v := 8) hC.1 hC.2.1 dX12_readBill_1 (by decide) ?_
  obtain ⟨r_1, hg_2, hf⟩ := bd_of hf
  refine g_calliV hC hW (c12_isWord l D cy ad aM hg_2) (cwV 1 hC.2.2.2.2.1 gX12_readBill_X12_isWord rfl rfl rfl hdV12_isWord ⟨Nat.le_of_ble_eq_true rfl, Nat.le_of_ble_eq_true rfl⟩) (Sub.all _ _) 0 11 rfl rfl rfl rfl hl.1 rfl (Nat.le_of_ble_eq_true rfl) dX12_readBill_3 ⟨Nat.zero_le _, Nat.zero_le _⟩ (fun H locs hW => ?_)
  refine lv_if_ne (tgt := 17) hC.1 hC.2.1 dX12_readBill_6 (by decide) (fun hc_3 => ?_) (fun hc_3 => ?_)
  · have hf := ite_f hf hc_3
    refine lv_aload_n hC.1 hC.2.1 dX12_readBill_17 rfl (lv_at hl 0 rfl) ?_
    refine g_get hC hW hin12_readBill_12 0 rfl rfl 10 (by decide) 1 rfl rfl dX12_readBill_18 ?_
    refine lv_bipush (v := 62) hC.1 hC.2.1 dX12_readBill_21 (by decide) ?_
    obtain ⟨hi_4, hf⟩ := ck_of hf
    refine g_iald hC hW 6 rfl hi_4 dX12_readBill_23 ?_
    refine lv_if_lt (tgt := 32) hC.1 hC.2.1 dX12_readBill_24 (by decide) (fun hc_5 => ?_) (fun hc_5 => ?_)
    · have hf := ite_t hf hc_5
      exact t12_readBill_32 hC  _ _ _ _ _ hf hW (lv_sub hl [0] rfl)
    · have hf := ite_f hf hc_5
      refine lv_aload_n hC.1 hC.2.1 dX12_readBill_27 rfl (lv_at hl 0 rfl) ?_
      refine lv_iconst (v := 3) hC.1 hC.2.1 dX12_readBill_28 (by decide) ?_
      obtain ⟨r_6, hg_7, hf⟩ := bd_of hf
      refine g_callvV hC hW (c12_wrong l D cy ad aM hg_7) (cwV 1 hC.2.2.2.2.1 gX12_readBill_X12_wrong rfl rfl rfl hdV12_wrong ⟨Nat.le_of_ble_eq_true rfl, Nat.le_of_ble_eq_true rfl⟩) (Sub.all _ _) 0 11 rfl rfl rfl rfl hl.1 rfl (Nat.le_of_ble_eq_true rfl) dX12_readBill_29 ⟨Nat.zero_le _, Nat.zero_le _⟩ (fun H locs hW => ?_)
      exact t12_readBill_32 hC  _ _ _ _ _ hf hW (lv_sub hl [0] rfl)
  · have hf := ite_t hf hc_3
    refine lv_aload_n hC.1 hC.2.1 dX12_readBill_9 rfl (lv_at hl 0 rfl) ?_
    refine lv_iconst (v := 1) hC.1 hC.2.1 dX12_readBill_10 (by decide) ?_
    obtain ⟨r_8, hg_9, hf⟩ := bd_of hf
    refine g_callvV hC hW (c12_wrong l D cy ad aM hg_9) (cwV 1 hC.2.2.2.2.1 gX12_readBill_X12_wrong rfl rfl rfl hdV12_wrong ⟨Nat.le_of_ble_eq_true rfl, Nat.le_of_ble_eq_true rfl⟩) (Sub.all _ _) 0 11 rfl rfl rfl rfl hl.1 rfl (Nat.le_of_ble_eq_true rfl) dX12_readBill_11 ⟨Nat.zero_le _, Nat.zero_le _⟩ (fun H locs hW => ?_)
    refine lv_goto (tgt := 32) hC.1 hC.2.1 dX12_readBill_14 (by decide) ?_
    exact t12_readBill_32 hC  _ _ _ _ _ hf hW (lv_sub hl [0] rfl)
set_option maxRecDepth 100000 in
set_option maxHeartbeats 4000000 in
theorem c12_readBill (l : Launch) (D : va_G) (cy : Nat → ClassId) (ad : Nat → Nat) (aM : Nat → Nat) {SM : Ob} {res : Ob} (h : f12_readBill SM = some res) : GCv l yX12_readBill wsX12_readBill rm12_readBill [.ref (aM 0)] D cy ad (w12 cy aM SM) (w12 cy aM res) := fun sz => GC.start (own := RX12) (Qc := fun A => QV D cy (w12 cy aM res) A) sz (by decide) rfl rfl (Nat.le_of_ble_eq_true rfl) (fun p e s m below meth c A ls hC hW hl => t12_readBill_0 hC _ _ _ _ _ h hW (lv_sub hl [0] rfl))
abbrev rm12_readLine : Room := { frames := 68, cells := 0, slots := 0, locals := 1495 }
theorem hdV12_readLine : yX12_readLine.cls = RX12 ∧ (yX12_readLine.cls ≠ "java/lang/invoke/MethodHandle" ∧ yX12_readLine.cls ≠ "java/lang/invoke/VarHandle" ∧ (parseMethodDescriptor yX12_readLine.desc).map (fun d => d.parameters.length) = some 0) := by decide +kernel
set_option maxRecDepth 100000 in
set_option maxHeartbeats 4000000 in
theorem t12_readLine_66 (hC : Cx p s m args meth c cX12_readLine 1 wsX12_readLine RX12 none) : ∀ (SM : Ob) (res : Ob) (H : Heap) (locs : List Loc) (ls : Array Slot), f12_readLine_66 SM = some res → GW D cy ad (w12 cy aM SM) A s H locs → lv_has ls 1 [] → W p l e rm12_readLine s m args below meth c H locs 0 0 (MQ below (QV D cy (w12 cy aM res) A) args s 0 0 A) (F0 m 66 ls []) := by
  intro SM res H locs ls hf hW hl
  unfold f12_readLine_66 at hf
  obtain rfl := Option.some.inj hf
  exact g_vret hC hW dX12_readLine_66
set_option maxRecDepth 100000 in
set_option maxHeartbeats 4000000 in
theorem t12_readLine_0 (hC : Cx p s m args meth c cX12_readLine 1 wsX12_readLine RX12 none) : ∀ (SM : Ob) (res : Ob) (H : Heap) (locs : List Loc) (ls : Array Slot), f12_readLine SM = some res → GW D cy ad (w12 cy aM SM) A s H locs → lv_has ls 1 [(0, .ref (aM 0))] → W p l e rm12_readLine s m args below meth c H locs 0 0 (MQ below (QV D cy (w12 cy aM res) A) args s 0 0 A) (F0 m 0 ls []) := by
  intro SM res H locs ls hf hW hl
  unfold f12_readLine at hf
  refine lv_aload_n hC.1 hC.2.1 dX12_readLine_0 rfl (lv_at hl 0 rfl) ?_
  refine lv_iconst (v := 0) hC.1 hC.2.1 dX12_readLine_1 (by decide) ?_
  obtain ⟨r_1, hg_2, hf⟩ := bd_of hf
  refine g_calliV hC hW (c12_isWord l D cy ad aM hg_2) (cwV 1 hC.2.2.2.2.1 gX12_readLine_X12_isWord rfl rfl rfl hdV12_isWord ⟨Nat.le_of_ble_eq_true rfl, Nat.le_of_ble_eq_true rfl⟩) (Sub.all _ _) 0 11 rfl rfl rfl rfl hl.1 rfl (Nat.le_of_ble_eq_true rfl) dX12_readLine_2 ⟨Nat.zero_le _, Nat.zero_le _⟩ (fun H locs hW => ?_)
  refine lv_if_eq (tgt := 15) hC.1 hC.2.1 dX12_readLine_5 (by decide) (fun hc_3 => ?_) (fun hc_3 => ?_)
  · have hf := ite_t hf hc_3
    refine lv_aload_n hC.1 hC.2.1 dX12_readLine_15 rfl (lv_at hl 0 rfl) ?_
    refine lv_iconst (v := 3) hC.1 hC.2.1 dX12_readLine_16 (by decide) ?_
    obtain ⟨r_4, hg_5, hf⟩ := bd_of hf
    refine g_calliV hC hW (c12_isWord l D cy ad aM hg_5) (cwV 1 hC.2.2.2.2.1 gX12_readLine_X12_isWord rfl rfl rfl hdV12_isWord ⟨Nat.le_of_ble_eq_true rfl, Nat.le_of_ble_eq_true rfl⟩) (Sub.all _ _) 0 11 rfl rfl rfl rfl hl.1 rfl (Nat.le_of_ble_eq_true rfl) dX12_readLine_17 ⟨Nat.zero_le _, Nat.zero_le _⟩ (fun H locs hW => ?_)
    refine lv_if_eq (tgt := 30) hC.1 hC.2.1 dX12_readLine_20 (by decide) (fun hc_6 => ?_) (fun hc_6 => ?_)
    · have hf := ite_t hf hc_6
      refine lv_aload_n hC.1 hC.2.1 dX12_readLine_30 rfl (lv_at hl 0 rfl) ?_
      refine lv_bipush (v := 6) hC.1 hC.2.1 dX12_readLine_31 (by decide) ?_
      obtain ⟨r_7, hg_8, hf⟩ := bd_of hf
      refine g_calliV hC hW (c12_isWord l D cy ad aM hg_8) (cwV 1 hC.2.2.2.2.1 gX12_readLine_X12_isWord rfl rfl rfl hdV12_isWord ⟨Nat.le_of_ble_eq_true rfl, Nat.le_of_ble_eq_true rfl⟩) (Sub.all _ _) 0 11 rfl rfl rfl rfl hl.1 rfl (Nat.le_of_ble_eq_true rfl) dX12_readLine_33 ⟨Nat.zero_le _, Nat.zero_le _⟩ (fun H locs hW => ?_)
      refine lv_if_eq (tgt := 46) hC.1 hC.2.1 dX12_readLine_36 (by decide) (fun hc_9 => ?_) (fun hc_9 => ?_)
      · have hf := ite_t hf hc_9
        refine lv_aload_n hC.1 hC.2.1 dX12_readLine_46 rfl (lv_at hl 0 rfl) ?_
        refine lv_bipush (v := 7) hC.1 hC.2.1 dX12_readLine_47 (by decide) ?_
        obtain ⟨r_10, hg_11, hf⟩ := bd_of hf
        refine g_calliV hC hW (c12_isWord l D cy ad aM hg_11) (cwV 1 hC.2.2.2.2.1 gX12_readLine_X12_isWord rfl rfl rfl hdV12_isWord ⟨Nat.le_of_ble_eq_true rfl, Nat.le_of_ble_eq_true rfl⟩) (Sub.all _ _) 0 11 rfl rfl rfl rfl hl.1 rfl (Nat.le_of_ble_eq_true rfl) dX12_readLine_49 ⟨Nat.zero_le _, Nat.zero_le _⟩ (fun H locs hW => ?_)
        refine lv_if_eq (tgt := 62) hC.1 hC.2.1 dX12_readLine_52 (by decide) (fun hc_12 => ?_) (fun hc_12 => ?_)
        · have hf := ite_t hf hc_12
          refine lv_aload_n hC.1 hC.2.1 dX12_readLine_62 rfl (lv_at hl 0 rfl) ?_
          obtain ⟨r_13, hg_14, hf⟩ := bd_of hf
          refine g_callvV hC hW (c12_readBill l D cy ad aM hg_14) (cwV 0 hC.2.2.2.2.1 gX12_readLine_X12_readBill rfl rfl rfl hdV12_readBill ⟨Nat.le_of_ble_eq_true rfl, Nat.le_of_ble_eq_true rfl⟩) (Sub.all _ _) 0 11 rfl rfl rfl rfl hl.1 rfl (Nat.le_of_ble_eq_true rfl) dX12_readLine_63 ⟨Nat.zero_le _, Nat.zero_le _⟩ (fun H locs hW => ?_)
          exact t12_readLine_66 hC  _ _ _ _ _ hf hW (lv_sub hl [] rfl)
        · have hf := ite_f hf hc_12
          refine lv_aload_n hC.1 hC.2.1 dX12_readLine_55 rfl (lv_at hl 0 rfl) ?_
          obtain ⟨r_15, hg_16, hf⟩ := bd_of hf
          refine g_callvV hC hW (c12_readShun l D cy ad aM hg_16) (cwV 0 hC.2.2.2.2.1 gX12_readLine_X12_readShun rfl rfl rfl hdV12_readShun ⟨Nat.le_of_ble_eq_true rfl, Nat.le_of_ble_eq_true rfl⟩) (Sub.all _ _) 0 11 rfl rfl rfl rfl hl.1 rfl (Nat.le_of_ble_eq_true rfl) dX12_readLine_56 ⟨Nat.zero_le _, Nat.zero_le _⟩ (fun H locs hW => ?_)
          refine lv_goto (tgt := 66) hC.1 hC.2.1 dX12_readLine_59 (by decide) ?_
          exact t12_readLine_66 hC  _ _ _ _ _ hf hW (lv_sub hl [] rfl)
      · have hf := ite_f hf hc_9
        refine lv_aload_n hC.1 hC.2.1 dX12_readLine_39 rfl (lv_at hl 0 rfl) ?_
        obtain ⟨r_17, hg_18, hf⟩ := bd_of hf
        refine g_callvV hC hW (c12_readSees l D cy ad aM hg_18) (cwV 0 hC.2.2.2.2.1 gX12_readLine_X12_readSees rfl rfl rfl hdV12_readSees ⟨Nat.le_of_ble_eq_true rfl, Nat.le_of_ble_eq_true rfl⟩) (Sub.all _ _) 0 11 rfl rfl rfl rfl hl.1 rfl (Nat.le_of_ble_eq_true rfl) dX12_readLine_40 ⟨Nat.zero_le _, Nat.zero_le _⟩ (fun H locs hW => ?_)
        refine lv_goto (tgt := 66) hC.1 hC.2.1 dX12_readLine_43 (by decide) ?_
        exact t12_readLine_66 hC  _ _ _ _ _ hf hW (lv_sub hl [] rfl)
    · have hf := ite_f hf hc_6
      refine lv_aload_n hC.1 hC.2.1 dX12_readLine_23 rfl (lv_at hl 0 rfl) ?_
      obtain ⟨r_19, hg_20, hf⟩ := bd_of hf
      refine g_callvV hC hW (c12_readSign l D cy ad aM hg_20) (cwV 0 hC.2.2.2.2.1 gX12_readLine_X12_readSign rfl rfl rfl hdV12_readSign ⟨Nat.le_of_ble_eq_true rfl, Nat.le_of_ble_eq_true rfl⟩) (Sub.all _ _) 0 11 rfl rfl rfl rfl hl.1 rfl (Nat.le_of_ble_eq_true rfl) dX12_readLine_24 ⟨Nat.zero_le _, Nat.zero_le _⟩ (fun H locs hW => ?_)
      refine lv_goto (tgt := 66) hC.1 hC.2.1 dX12_readLine_27 (by decide) ?_
      exact t12_readLine_66 hC  _ _ _ _ _ hf hW (lv_sub hl [] rfl)
  · have hf := ite_f hf hc_3
    refine lv_aload_n hC.1 hC.2.1 dX12_readLine_8 rfl (lv_at hl 0 rfl) ?_
    obtain ⟨r_21, hg_22, hf⟩ := bd_of hf
    refine g_callvV hC hW (c12_readGuest l D cy ad aM hg_22) (cwV 0 hC.2.2.2.2.1 gX12_readLine_X12_readGuest rfl rfl rfl hdV12_readGuest ⟨Nat.le_of_ble_eq_true rfl, Nat.le_of_ble_eq_true rfl⟩) (Sub.all _ _) 0 11 rfl rfl rfl rfl hl.1 rfl (Nat.le_of_ble_eq_true rfl) dX12_readLine_9 ⟨Nat.zero_le _, Nat.zero_le _⟩ (fun H locs hW => ?_)
    refine lv_goto (tgt := 66) hC.1 hC.2.1 dX12_readLine_12 (by decide) ?_
    exact t12_readLine_66 hC  _ _ _ _ _ hf hW (lv_sub hl [] rfl)
set_option maxRecDepth 100000 in
set_option maxHeartbeats 4000000 in
theorem c12_readLine (l : Launch) (D : va_G) (cy : Nat → ClassId) (ad : Nat → Nat) (aM : Nat → Nat) {SM : Ob} {res : Ob} (h : f12_readLine SM = some res) : GCv l yX12_readLine wsX12_readLine rm12_readLine [.ref (aM 0)] D cy ad (w12 cy aM SM) (w12 cy aM res) := fun sz => GC.start (own := RX12) (Qc := fun A => QV D cy (w12 cy aM res) A) sz (by decide) rfl rfl (Nat.le_of_ble_eq_true rfl) (fun p e s m below meth c A ls hC hW hl => t12_readLine_0 hC _ _ _ _ _ h hW (lv_sub hl [0] rfl))
abbrev rm12_inn : Room := { frames := 69, cells := 0, slots := 0, locals := 1515 }
theorem hdV12_inn : yX12_inn.cls = RX12 ∧ (yX12_inn.cls ≠ "java/lang/invoke/MethodHandle" ∧ yX12_inn.cls ≠ "java/lang/invoke/VarHandle" ∧ (parseMethodDescriptor yX12_inn.desc).map (fun d => d.parameters.length) = some 0) := by decide +kernel
theorem hin12_inn_12 : ∀ x ∈ u_ws RX12 TX12 39, x ∈ wsX12_inn := fun _ h => List.mem_cons_of_mem _ (List.mem_append_right _ h)
set_option maxRecDepth 100000 in
set_option maxHeartbeats 4000000 in
theorem t12_inn_153 (hC : Cx p s m args meth c cX12_inn 2 wsX12_inn RX12 (some .int)) : ∀ n : Nat, ∀ (x1 : Int32) (SM : Ob) (res : Int32 × Ob) (H : Heap) (locs : List Loc) (ls : Array Slot), f12_inn_153 n x1 SM = some res → GW D cy ad (w12 cy aM SM) A s H locs → lv_has ls 2 [(0, .ref (aM 0)), (1, .int x1)] → W p l e rm12_inn s m args below meth c H locs 0 0 (MQ below (QI D cy (w12 cy aM (res.2)) A (res.1)) args s 0 0 A) (F0 m 153 ls []) := by
  intro n
  induction n with
  | zero =>
    intro _ _ _ _ _ _ hf _ _
    exact nomatch (show (none : Option (Int32 × Ob)) = some _ from hf)
  | succ n ih =>
    intro x1 SM res H locs ls hf hW hl
    rw [f12_inn_153] at hf
    refine lv_iload_n hC.1 hC.2.1 dX12_inn_153 rfl (lv_at hl 1 rfl) ?_
    refine lv_aload_n hC.1 hC.2.1 dX12_inn_154 rfl (lv_at hl 0 rfl) ?_
    refine g_get hC hW hin12_inn_12 0 rfl rfl 19 (by decide) 3 rfl rfl dX12_inn_155 ?_
    refine lv_icmp_ge (tgt := 191) hC.1 hC.2.1 dX12_inn_158 (by decide) (fun hc_1 => ?_) (fun hc_1 => ?_)
    · have hf := ite_t hf hc_1
      refine lv_aload_n hC.1 hC.2.1 dX12_inn_191 rfl (lv_at hl 0 rfl) ?_
      refine lv_aload_n hC.1 hC.2.1 dX12_inn_192 rfl (lv_at hl 0 rfl) ?_
      refine g_get hC hW hin12_inn_12 0 rfl rfl 19 (by decide) 3 rfl rfl dX12_inn_193 ?_
      obtain ⟨SM_2, eSM_2⟩ : ∃ y : Ob, y = oI SM 18 (SM.1 19) := ⟨_, rfl⟩
      have hf := lt_nm hf eSM_2
      refine g_put hC hW hin12_inn_12 tyX12 tyX12_ok nmX12 0 rfl rfl 18 (by decide) 15 rfl rfl rfl rfl (Nat.le_of_ble_eq_true rfl) (w' := w12 cy aM SM_2) (by rw [eSM_2]; rfl) dX12_inn_196 (fun H locs hW => ?_)
      refine lv_aload_n hC.1 hC.2.1 dX12_inn_199 rfl (lv_at hl 0 rfl) ?_
      obtain ⟨r_3, hg_4, hf⟩ := bd_of hf
      refine g_callvV hC hW (c12_begins l D cy ad aM hg_4) (cwV 0 hC.2.2.2.2.1 gX12_inn_X12_begins rfl rfl rfl hdV12_begins ⟨Nat.le_of_ble_eq_true rfl, Nat.le_of_ble_eq_true rfl⟩) (Sub.all _ _) 0 11 rfl rfl rfl rfl hl.1 rfl (Nat.le_of_ble_eq_true rfl) dX12_inn_200 ⟨Nat.zero_le _, Nat.zero_le _⟩ (fun H locs hW => ?_)
      refine lv_iconst (v := 0) hC.1 hC.2.1 dX12_inn_203 (by decide) ?_
      obtain rfl := Option.some.inj hf
      exact g_iret hC hW dX12_inn_204
    · have hf := ite_f hf hc_1
      refine lv_aload_n hC.1 hC.2.1 dX12_inn_161 rfl (lv_at hl 0 rfl) ?_
      refine g_get hC hW hin12_inn_12 0 rfl rfl 14 (by decide) 11 rfl rfl dX12_inn_162 ?_
      refine lv_iload_n hC.1 hC.2.1 dX12_inn_165 rfl (lv_at hl 1 rfl) ?_
      refine lv_aload_n hC.1 hC.2.1 dX12_inn_166 rfl (lv_at hl 0 rfl) ?_
      refine g_get hC hW hin12_inn_12 0 rfl rfl 15 (by decide) 12 rfl rfl dX12_inn_167 ?_
      refine lv_iload_n hC.1 hC.2.1 dX12_inn_170 rfl (lv_at hl 1 rfl) ?_
      obtain ⟨hi_5, hf⟩ := ck_of hf
      refine g_lald hC hW 10 rfl hi_5 dX12_inn_171 ?_
      obtain ⟨hi_6, hf⟩ := ck_of hf
      obtain ⟨SM_7, eSM_7⟩ : ∃ y : Ob, y = oJ SM 14 (Int32.toNatClampNeg x1) (SM.2.2.2 15 (Int32.toNatClampNeg x1)) := ⟨_, rfl⟩
      have hf := lt_nm hf eSM_7
      refine g_last hC hW 9 rfl hi_6 (w' := w12 cy aM SM_7) (by rw [eSM_7]; rfl) dX12_inn_172 (fun H locs hW => ?_)
      refine lv_aload_n hC.1 hC.2.1 dX12_inn_173 rfl (lv_at hl 0 rfl) ?_
      refine g_get hC hW hin12_inn_12 0 rfl rfl 16 (by decide) 13 rfl rfl dX12_inn_174 ?_
      refine lv_iload_n hC.1 hC.2.1 dX12_inn_177 rfl (lv_at hl 1 rfl) ?_
      refine lv_aload_n hC.1 hC.2.1 dX12_inn_178 rfl (lv_at hl 0 rfl) ?_
      refine g_get hC hW hin12_inn_12 0 rfl rfl 17 (by decide) 14 rfl rfl dX12_inn_179 ?_
      refine lv_iload_n hC.1 hC.2.1 dX12_inn_182 rfl (lv_at hl 1 rfl) ?_
      obtain ⟨hi_8, hf⟩ := ck_of hf
      refine g_iald hC hW 12 rfl hi_8 dX12_inn_183 ?_
      obtain ⟨hi_9, hf⟩ := ck_of hf
      obtain ⟨SM_10, eSM_10⟩ : ∃ y : Ob, y = oA SM_7 16 (Int32.toNatClampNeg x1) (SM_7.2.2.1 17 (Int32.toNatClampNeg x1)) := ⟨_, rfl⟩
      have hf := lt_nm hf eSM_10
      refine g_iast hC hW 11 rfl hi_9 (w' := w12 cy aM SM_10) (by rw [eSM_10]; rfl) dX12_inn_184 (fun H locs hW => ?_)
      obtain ⟨x1_11, ex1_11⟩ : ∃ y : Int32, y = x1 + 1 := ⟨_, rfl⟩
      have hf := lt_nm hf ex1_11
      refine lv_iinc (v := x1_11) (lv' := [(1, .int x1_11), (0, .ref (aM 0))]) hC.1 hC.2.1 dX12_inn_185 hl (k := 1) rfl (by rw [ex1_11]; rfl) (by decide) rfl (fun ls hl => ?_)
      refine lv_goto (tgt := 153) hC.1 hC.2.1 dX12_inn_188 (by decide) ?_
      exact ih _ _ _ _ _ _ hf hW (lv_sub hl [1, 0] rfl)
set_option maxRecDepth 100000 in
set_option maxHeartbeats 4000000 in
theorem t12_inn_105 (hC : Cx p s m args meth c cX12_inn 2 wsX12_inn RX12 (some .int)) : ∀ n : Nat, ∀ (x1 : Int32) (SM : Ob) (res : Int32 × Ob) (H : Heap) (locs : List Loc) (ls : Array Slot), f12_inn_105 n x1 SM = some res → GW D cy ad (w12 cy aM SM) A s H locs → lv_has ls 2 [(0, .ref (aM 0)), (1, .int x1)] → W p l e rm12_inn s m args below meth c H locs 0 0 (MQ below (QI D cy (w12 cy aM (res.2)) A (res.1)) args s 0 0 A) (F0 m 105 ls []) := by
  intro n
  induction n with
  | zero =>
    intro _ _ _ _ _ _ hf _ _
    exact nomatch (show (none : Option (Int32 × Ob)) = some _ from hf)
  | succ n ih =>
    intro x1 SM res H locs ls hf hW hl
    rw [f12_inn_105] at hf
    refine lv_iload_n hC.1 hC.2.1 dX12_inn_105 rfl (lv_at hl 1 rfl) ?_
    refine lv_aload_n hC.1 hC.2.1 dX12_inn_106 rfl (lv_at hl 0 rfl) ?_
    refine g_get hC hW hin12_inn_12 0 rfl rfl 13 (by decide) 2 rfl rfl dX12_inn_107 ?_
    refine lv_icmp_ge (tgt := 151) hC.1 hC.2.1 dX12_inn_110 (by decide) (fun hc_1 => ?_) (fun hc_1 => ?_)
    · have hf := ite_t hf hc_1
      refine lv_iconst (v := 0) hC.1 hC.2.1 dX12_inn_151 (by decide) ?_
      refine lv_istore_n (lv' := [(1, .int 0), (0, .ref (aM 0))]) hC.1 hC.2.1 dX12_inn_152 rfl hl (by decide) rfl (fun ls hl => ?_)
      exact t12_inn_153 hC _ _ _ _ _ _ _ hf hW (lv_sub hl [1, 0] rfl)
    · have hf := ite_f hf hc_1
      refine lv_aload_n hC.1 hC.2.1 dX12_inn_113 rfl (lv_at hl 0 rfl) ?_
      refine g_get hC hW hin12_inn_12 0 rfl rfl 11 (by decide) 9 rfl rfl dX12_inn_114 ?_
      refine lv_iload_n hC.1 hC.2.1 dX12_inn_117 rfl (lv_at hl 1 rfl) ?_
      refine lv_aload_n hC.1 hC.2.1 dX12_inn_118 rfl (lv_at hl 0 rfl) ?_
      refine g_get hC hW hin12_inn_12 0 rfl rfl 11 (by decide) 9 rfl rfl dX12_inn_119 ?_
      refine lv_sipush (v := 2200) hC.1 hC.2.1 dX12_inn_122 (by decide) ?_
      refine lv_iload_n hC.1 hC.2.1 dX12_inn_125 rfl (lv_at hl 1 rfl) ?_
      refine lv_iadd hC.1 hC.2.1 dX12_inn_126 ?_
      obtain ⟨hi_2, hf⟩ := ck_of hf
      refine g_iald hC hW 7 rfl hi_2 dX12_inn_127 ?_
      obtain ⟨hi_3, hf⟩ := ck_of hf
      obtain ⟨SM_4, eSM_4⟩ : ∃ y : Ob, y = oA SM 11 (Int32.toNatClampNeg x1) (SM.2.2.1 11 (Int32.toNatClampNeg (2200 + x1))) := ⟨_, rfl⟩
      have hf := lt_nm hf eSM_4
      refine g_iast hC hW 7 rfl hi_3 (w' := w12 cy aM SM_4) (by rw [eSM_4]; rfl) dX12_inn_128 (fun H locs hW => ?_)
      refine lv_aload_n hC.1 hC.2.1 dX12_inn_129 rfl (lv_at hl 0 rfl) ?_
      refine g_get hC hW hin12_inn_12 0 rfl rfl 12 (by decide) 10 rfl rfl dX12_inn_130 ?_
      refine lv_iload_n hC.1 hC.2.1 dX12_inn_133 rfl (lv_at hl 1 rfl) ?_
      refine lv_aload_n hC.1 hC.2.1 dX12_inn_134 rfl (lv_at hl 0 rfl) ?_
      refine g_get hC hW hin12_inn_12 0 rfl rfl 12 (by decide) 10 rfl rfl dX12_inn_135 ?_
      refine lv_sipush (v := 2200) hC.1 hC.2.1 dX12_inn_138 (by decide) ?_
      refine lv_iload_n hC.1 hC.2.1 dX12_inn_141 rfl (lv_at hl 1 rfl) ?_
      refine lv_iadd hC.1 hC.2.1 dX12_inn_142 ?_
      obtain ⟨hi_5, hf⟩ := ck_of hf
      refine g_iald hC hW 8 rfl hi_5 dX12_inn_143 ?_
      obtain ⟨hi_6, hf⟩ := ck_of hf
      obtain ⟨SM_7, eSM_7⟩ : ∃ y : Ob, y = oA SM_4 12 (Int32.toNatClampNeg x1) (SM_4.2.2.1 12 (Int32.toNatClampNeg (2200 + x1))) := ⟨_, rfl⟩
      have hf := lt_nm hf eSM_7
      refine g_iast hC hW 8 rfl hi_6 (w' := w12 cy aM SM_7) (by rw [eSM_7]; rfl) dX12_inn_144 (fun H locs hW => ?_)
      obtain ⟨x1_8, ex1_8⟩ : ∃ y : Int32, y = x1 + 1 := ⟨_, rfl⟩
      have hf := lt_nm hf ex1_8
      refine lv_iinc (v := x1_8) (lv' := [(1, .int x1_8), (0, .ref (aM 0))]) hC.1 hC.2.1 dX12_inn_145 hl (k := 1) rfl (by rw [ex1_8]; rfl) (by decide) rfl (fun ls hl => ?_)
      refine lv_goto (tgt := 105) hC.1 hC.2.1 dX12_inn_148 (by decide) ?_
      exact ih _ _ _ _ _ _ hf hW (lv_sub hl [1, 0] rfl)
set_option maxRecDepth 100000 in
set_option maxHeartbeats 4000000 in
theorem t12_inn_76 (hC : Cx p s m args meth c cX12_inn 2 wsX12_inn RX12 (some .int)) : ∀ n : Nat, ∀ (x1 : Int32) (SM : Ob) (res : Int32 × Ob) (H : Heap) (locs : List Loc) (ls : Array Slot), f12_inn_76 n x1 SM = some res → GW D cy ad (w12 cy aM SM) A s H locs → lv_has ls 2 [(0, .ref (aM 0)), (1, .int x1)] → W p l e rm12_inn s m args below meth c H locs 0 0 (MQ below (QI D cy (w12 cy aM (res.2)) A (res.1)) args s 0 0 A) (F0 m 76 ls []) := by
  intro n
  induction n with
  | zero =>
    intro _ _ _ _ _ _ hf _ _
    exact nomatch (show (none : Option (Int32 × Ob)) = some _ from hf)
  | succ n ih =>
    intro x1 SM res H locs ls hf hW hl
    rw [f12_inn_76] at hf
    refine lv_iload_n hC.1 hC.2.1 dX12_inn_76 rfl (lv_at hl 1 rfl) ?_
    refine lv_bipush (v := 60) hC.1 hC.2.1 dX12_inn_77 (by decide) ?_
    refine lv_icmp_ge (tgt := 103) hC.1 hC.2.1 dX12_inn_79 (by decide) (fun hc_1 => ?_) (fun hc_1 => ?_)
    · have hf := ite_t hf hc_1
      refine lv_iconst (v := 0) hC.1 hC.2.1 dX12_inn_103 (by decide) ?_
      refine lv_istore_n (lv' := [(1, .int 0), (0, .ref (aM 0))]) hC.1 hC.2.1 dX12_inn_104 rfl hl (by decide) rfl (fun ls hl => ?_)
      exact t12_inn_105 hC _ _ _ _ _ _ _ hf hW (lv_sub hl [1, 0] rfl)
    · have hf := ite_f hf hc_1
      refine lv_aload_n hC.1 hC.2.1 dX12_inn_82 rfl (lv_at hl 0 rfl) ?_
      refine g_get hC hW hin12_inn_12 0 rfl rfl 10 (by decide) 8 rfl rfl dX12_inn_83 ?_
      refine lv_iload_n hC.1 hC.2.1 dX12_inn_86 rfl (lv_at hl 1 rfl) ?_
      refine lv_aload_n hC.1 hC.2.1 dX12_inn_87 rfl (lv_at hl 0 rfl) ?_
      refine g_get hC hW hin12_inn_12 0 rfl rfl 10 (by decide) 8 rfl rfl dX12_inn_88 ?_
      refine lv_bipush (v := 60) hC.1 hC.2.1 dX12_inn_91 (by decide) ?_
      refine lv_iload_n hC.1 hC.2.1 dX12_inn_93 rfl (lv_at hl 1 rfl) ?_
      refine lv_iadd hC.1 hC.2.1 dX12_inn_94 ?_
      obtain ⟨hi_2, hf⟩ := ck_of hf
      refine g_iald hC hW 6 rfl hi_2 dX12_inn_95 ?_
      obtain ⟨hi_3, hf⟩ := ck_of hf
      obtain ⟨SM_4, eSM_4⟩ : ∃ y : Ob, y = oA SM 10 (Int32.toNatClampNeg x1) (SM.2.2.1 10 (Int32.toNatClampNeg (60 + x1))) := ⟨_, rfl⟩
      have hf := lt_nm hf eSM_4
      refine g_iast hC hW 6 rfl hi_3 (w' := w12 cy aM SM_4) (by rw [eSM_4]; rfl) dX12_inn_96 (fun H locs hW => ?_)
      obtain ⟨x1_5, ex1_5⟩ : ∃ y : Int32, y = x1 + 1 := ⟨_, rfl⟩
      have hf := lt_nm hf ex1_5
      refine lv_iinc (v := x1_5) (lv' := [(1, .int x1_5), (0, .ref (aM 0))]) hC.1 hC.2.1 dX12_inn_97 hl (k := 1) rfl (by rw [ex1_5]; rfl) (by decide) rfl (fun ls hl => ?_)
      refine lv_goto (tgt := 76) hC.1 hC.2.1 dX12_inn_100 (by decide) ?_
      exact ih _ _ _ _ _ _ hf hW (lv_sub hl [1, 0] rfl)
set_option maxRecDepth 100000 in
set_option maxHeartbeats 4000000 in
theorem t12_inn_62 (hC : Cx p s m args meth c cX12_inn 2 wsX12_inn RX12 (some .int)) : ∀ (SM : Ob) (res : Int32 × Ob) (H : Heap) (locs : List Loc) (ls : Array Slot), f12_inn_62 SM = some res → GW D cy ad (w12 cy aM SM) A s H locs → lv_has ls 2 [(0, .ref (aM 0))] → W p l e rm12_inn s m args below meth c H locs 0 0 (MQ below (QI D cy (w12 cy aM (res.2)) A (res.1)) args s 0 0 A) (F0 m 62 ls []) := by
  intro SM res H locs ls hf hW hl
  unfold f12_inn_62 at hf
  refine lv_aload_n hC.1 hC.2.1 dX12_inn_62 rfl (lv_at hl 0 rfl) ?_
  refine g_get hC hW hin12_inn_12 0 rfl rfl 8 (by decide) 5 rfl rfl dX12_inn_63 ?_
  refine lv_if_le (tgt := 74) hC.1 hC.2.1 dX12_inn_66 (by decide) (fun hc_1 => ?_) (fun hc_1 => ?_)
  · have hf := ite_t hf hc_1
    refine lv_iconst (v := 0) hC.1 hC.2.1 dX12_inn_74 (by decide) ?_
    refine lv_istore_n (lv' := [(1, .int 0), (0, .ref (aM 0))]) hC.1 hC.2.1 dX12_inn_75 rfl hl (by decide) rfl (fun ls hl => ?_)
    exact t12_inn_76 hC _ _ _ _ _ _ _ hf hW (lv_sub hl [1, 0] rfl)
  · have hf := ite_f hf hc_1
    refine lv_aload_n hC.1 hC.2.1 dX12_inn_69 rfl (lv_at hl 0 rfl) ?_
    refine g_get hC hW hin12_inn_12 0 rfl rfl 8 (by decide) 5 rfl rfl dX12_inn_70 ?_
    obtain rfl := Option.some.inj hf
    exact g_iret hC hW dX12_inn_73
set_option maxRecDepth 100000 in
set_option maxHeartbeats 4000000 in
theorem t12_inn_30 (hC : Cx p s m args meth c cX12_inn 2 wsX12_inn RX12 (some .int)) : ∀ n : Nat, ∀ (SM : Ob) (res : Int32 × Ob) (H : Heap) (locs : List Loc) (ls : Array Slot), f12_inn_30 n SM = some res → GW D cy ad (w12 cy aM SM) A s H locs → lv_has ls 2 [(0, .ref (aM 0))] → W p l e rm12_inn s m args below meth c H locs 0 0 (MQ below (QI D cy (w12 cy aM (res.2)) A (res.1)) args s 0 0 A) (F0 m 30 ls []) := by
  intro n
  induction n with
  | zero =>
    intro _ _ _ _ _ hf _ _
    exact nomatch (show (none : Option (Int32 × Ob)) = some _ from hf)
  | succ n ih =>
    intro SM res H locs ls hf hW hl
    rw [f12_inn_30] at hf
    refine lv_aload_n hC.1 hC.2.1 dX12_inn_30 rfl (lv_at hl 0 rfl) ?_
    refine g_get hC hW hin12_inn_12 0 rfl rfl 8 (by decide) 5 rfl rfl dX12_inn_31 ?_
    refine lv_if_ne (tgt := 62) hC.1 hC.2.1 dX12_inn_34 (by decide) (fun hc_1 => ?_) (fun hc_1 => ?_)
    · have hf := ite_f hf hc_1
      exact t12_inn_62 hC  _ _ _ _ _ hf hW (lv_sub hl [0] rfl)
    · have hf := ite_t hf hc_1
      refine lv_aload_n hC.1 hC.2.1 dX12_inn_37 rfl (lv_at hl 0 rfl) ?_
      refine g_get hC hW hin12_inn_12 0 rfl rfl 4 (by decide) 6 rfl rfl dX12_inn_38 ?_
      refine lv_aload_n hC.1 hC.2.1 dX12_inn_41 rfl (lv_at hl 0 rfl) ?_
      refine g_get hC hW hin12_inn_12 0 rfl rfl 7 (by decide) 7 rfl rfl dX12_inn_42 ?_
      obtain ⟨hi_2, hf⟩ := ck_of hf
      refine g_iald hC hW 2 rfl hi_2 dX12_inn_45 ?_
      refine lv_if_eq (tgt := 62) hC.1 hC.2.1 dX12_inn_46 (by decide) (fun hc_3 => ?_) (fun hc_3 => ?_)
      · have hf := ite_t hf hc_3
        exact t12_inn_62 hC  _ _ _ _ _ hf hW (lv_sub hl [0] rfl)
      · have hf := ite_f hf hc_3
        refine lv_aload_n hC.1 hC.2.1 dX12_inn_49 rfl (lv_at hl 0 rfl) ?_
        obtain ⟨r_4, hg_5, hf⟩ := bd_of hf
        refine g_callvV hC hW (c12_readLine l D cy ad aM hg_5) (cwV 0 hC.2.2.2.2.1 gX12_inn_X12_readLine rfl rfl rfl hdV12_readLine ⟨Nat.le_of_ble_eq_true rfl, Nat.le_of_ble_eq_true rfl⟩) (Sub.all _ _) 0 11 rfl rfl rfl rfl hl.1 rfl (Nat.le_of_ble_eq_true rfl) dX12_inn_50 ⟨Nat.zero_le _, Nat.zero_le _⟩ (fun H locs hW => ?_)
        refine lv_aload_n hC.1 hC.2.1 dX12_inn_53 rfl (lv_at hl 0 rfl) ?_
        refine lv_bipush (v := 59) hC.1 hC.2.1 dX12_inn_54 (by decide) ?_
        obtain ⟨r_6, hg_7, hf⟩ := bd_of hf
        refine g_callvV hC hW (c12_takeSign l D cy ad aM hg_7) (cwV 1 hC.2.2.2.2.1 gX12_inn_X12_takeSign rfl rfl rfl hdV12_takeSign ⟨Nat.le_of_ble_eq_true rfl, Nat.le_of_ble_eq_true rfl⟩) (Sub.all _ _) 0 11 rfl rfl rfl rfl hl.1 rfl (Nat.le_of_ble_eq_true rfl) dX12_inn_56 ⟨Nat.zero_le _, Nat.zero_le _⟩ (fun H locs hW => ?_)
        refine lv_goto (tgt := 30) hC.1 hC.2.1 dX12_inn_59 (by decide) ?_
        exact ih _ _ _ _ _ hf hW (lv_sub hl [0] rfl)
set_option maxRecDepth 100000 in
set_option maxHeartbeats 4000000 in
theorem t12_inn_0 (hC : Cx p s m args meth c cX12_inn 2 wsX12_inn RX12 (some .int)) : ∀ (SM : Ob) (res : Int32 × Ob) (H : Heap) (locs : List Loc) (ls : Array Slot), f12_inn SM = some res → GW D cy ad (w12 cy aM SM) A s H locs → lv_has ls 2 [(0, .ref (aM 0))] → W p l e rm12_inn s m args below meth c H locs 0 0 (MQ below (QI D cy (w12 cy aM (res.2)) A (res.1)) args s 0 0 A) (F0 m 0 ls []) := by
  intro SM res H locs ls hf hW hl
  unfold f12_inn at hf
  refine lv_aload_n hC.1 hC.2.1 dX12_inn_0 rfl (lv_at hl 0 rfl) ?_
  refine lv_iconst (v := 0) hC.1 hC.2.1 dX12_inn_1 (by decide) ?_
  obtain ⟨SM_1, eSM_1⟩ : ∃ y : Ob, y = oI SM 0 0 := ⟨_, rfl⟩
  have hf := lt_nm hf eSM_1
  refine g_put hC hW hin12_inn_12 tyX12 tyX12_ok nmX12 0 rfl rfl 0 (by decide) 1 rfl rfl rfl rfl (Nat.le_of_ble_eq_true rfl) (w' := w12 cy aM SM_1) (by rw [eSM_1]; rfl) dX12_inn_2 (fun H locs hW => ?_)
  refine lv_aload_n hC.1 hC.2.1 dX12_inn_5 rfl (lv_at hl 0 rfl) ?_
  obtain ⟨r_2, hg_3, hf⟩ := bd_of hf
  refine g_callvV hC hW (c12_cutAll l D cy ad aM hg_3) (cwV 0 hC.2.2.2.2.1 gX12_inn_X12_cutAll rfl rfl rfl hdV12_cutAll ⟨Nat.le_of_ble_eq_true rfl, Nat.le_of_ble_eq_true rfl⟩) (Sub.all _ _) 0 11 rfl rfl rfl rfl hl.1 rfl (Nat.le_of_ble_eq_true rfl) dX12_inn_6 ⟨Nat.zero_le _, Nat.zero_le _⟩ (fun H locs hW => ?_)
  refine lv_aload_n hC.1 hC.2.1 dX12_inn_9 rfl (lv_at hl 0 rfl) ?_
  refine lv_iconst (v := 0) hC.1 hC.2.1 dX12_inn_10 (by decide) ?_
  obtain ⟨SM_4, eSM_4⟩ : ∃ y : Ob, y = oI r_2 13 0 := ⟨_, rfl⟩
  have hf := lt_nm hf eSM_4
  refine g_put hC hW hin12_inn_12 tyX12 tyX12_ok nmX12 0 rfl rfl 13 (by decide) 2 rfl rfl rfl rfl (Nat.le_of_ble_eq_true rfl) (w' := w12 cy aM SM_4) (by rw [eSM_4]; rfl) dX12_inn_11 (fun H locs hW => ?_)
  refine lv_aload_n hC.1 hC.2.1 dX12_inn_14 rfl (lv_at hl 0 rfl) ?_
  refine lv_iconst (v := 0) hC.1 hC.2.1 dX12_inn_15 (by decide) ?_
  obtain ⟨SM_5, eSM_5⟩ : ∃ y : Ob, y = oI SM_4 19 0 := ⟨_, rfl⟩
  have hf := lt_nm hf eSM_5
  refine g_put hC hW hin12_inn_12 tyX12 tyX12_ok nmX12 0 rfl rfl 19 (by decide) 3 rfl rfl rfl rfl (Nat.le_of_ble_eq_true rfl) (w' := w12 cy aM SM_5) (by rw [eSM_5]; rfl) dX12_inn_16 (fun H locs hW => ?_)
  refine lv_aload_n hC.1 hC.2.1 dX12_inn_19 rfl (lv_at hl 0 rfl) ?_
  refine lv_iconst (v := 1) hC.1 hC.2.1 dX12_inn_20 (by decide) ?_
  obtain ⟨SM_7, eSM_7⟩ : ∃ y : Ob, y = oI SM_5 20 1 := ⟨_, rfl⟩
  have hf := lt_nm hf eSM_7
  refine g_put hC hW hin12_inn_12 tyX12 tyX12_ok nmX12 0 rfl rfl 20 (by decide) 4 rfl rfl (isz_of (by decide)) (fits_isz (by decide)) (Nat.le_of_ble_eq_true rfl) (w' := w12 cy aM SM_7) (by rw [eSM_7]; rfl) dX12_inn_21 (fun H locs hW => ?_)
  refine lv_aload_n hC.1 hC.2.1 dX12_inn_24 rfl (lv_at hl 0 rfl) ?_
  refine lv_bipush (v := 60) hC.1 hC.2.1 dX12_inn_25 (by decide) ?_
  obtain ⟨r_8, hg_9, hf⟩ := bd_of hf
  refine g_callvV hC hW (c12_standsAsAlways l D cy ad aM hg_9) (cwV 1 hC.2.2.2.2.1 gX12_inn_X12_standsAsAlways rfl rfl rfl hdV12_standsAsAlways ⟨Nat.le_of_ble_eq_true rfl, Nat.le_of_ble_eq_true rfl⟩) (Sub.all _ _) 0 11 rfl rfl rfl rfl hl.1 rfl (Nat.le_of_ble_eq_true rfl) dX12_inn_27 ⟨Nat.zero_le _, Nat.zero_le _⟩ (fun H locs hW => ?_)
  exact t12_inn_30 hC _ _ _ _ _ _ hf hW (lv_sub hl [0] rfl)
set_option maxRecDepth 100000 in
set_option maxHeartbeats 4000000 in
theorem c12_inn (l : Launch) (D : va_G) (cy : Nat → ClassId) (ad : Nat → Nat) (aM : Nat → Nat) {SM : Ob} {res : Int32 × Ob} (h : f12_inn SM = some res) : GCi l yX12_inn wsX12_inn rm12_inn [.ref (aM 0)] D cy ad (w12 cy aM SM) (w12 cy aM (res.2)) (res.1) := fun sz => GC.start (own := RX12) (Qc := fun A => QI D cy (w12 cy aM (res.2)) A (res.1)) sz (by decide) rfl rfl (Nat.le_of_ble_eq_true rfl) (fun p e s m below meth c A ls hC hW hl => t12_inn_0 hC _ _ _ _ _ h hW (lv_sub hl [0] rfl))
abbrev rm12_readWord : Room := { frames := 42, cells := 0, slots := 0, locals := 923 }
theorem hdV12_readWord : yX12_readWord.cls = RX12 ∧ (yX12_readWord.cls ≠ "java/lang/invoke/MethodHandle" ∧ yX12_readWord.cls ≠ "java/lang/invoke/VarHandle" ∧ (parseMethodDescriptor yX12_readWord.desc).map (fun d => d.parameters.length) = some 2) := by decide +kernel
theorem hin12_readWord_12 : ∀ x ∈ u_ws RX12 TX12 39, x ∈ wsX12_readWord := fun _ h => List.mem_cons_of_mem _ (List.mem_append_right _ h)
set_option maxRecDepth 100000 in
set_option maxHeartbeats 4000000 in
theorem t12_readWord_87 (hC : Cx p s m args meth c cX12_readWord 3 wsX12_readWord RX12 none) : ∀ (SM : Ob) (res : Ob) (H : Heap) (locs : List Loc) (ls : Array Slot), f12_readWord_87 SM = some res → GW D cy ad (w12 cy aM SM) A s H locs → lv_has ls 3 [] → W p l e rm12_readWord s m args below meth c H locs 0 0 (MQ below (QV D cy (w12 cy aM res) A) args s 0 0 A) (F0 m 87 ls []) := by
  intro SM res H locs ls hf hW hl
  unfold f12_readWord_87 at hf
  obtain rfl := Option.some.inj hf
  exact g_vret hC hW dX12_readWord_87
set_option maxRecDepth 100000 in
set_option maxHeartbeats 4000000 in
theorem t12_readWord_0 (hC : Cx p s m args meth c cX12_readWord 3 wsX12_readWord RX12 none) : ∀ (x1 : Int32) (x2 : Int32) (SM : Ob) (res : Ob) (H : Heap) (locs : List Loc) (ls : Array Slot), f12_readWord x1 x2 SM = some res → GW D cy ad (w12 cy aM SM) A s H locs → lv_has ls 3 [(0, .ref (aM 0)), (1, .int x1), (2, .int x2)] → W p l e rm12_readWord s m args below meth c H locs 0 0 (MQ below (QV D cy (w12 cy aM res) A) args s 0 0 A) (F0 m 0 ls []) := by
  intro x1 x2 SM res H locs ls hf hW hl
  unfold f12_readWord at hf
  refine lv_iload_n hC.1 hC.2.1 dX12_readWord_0 rfl (lv_at hl 1 rfl) ?_
  refine lv_if_ne (tgt := 47) hC.1 hC.2.1 dX12_readWord_1 (by decide) (fun hc_1 => ?_) (fun hc_1 => ?_)
  · have hf := ite_f hf hc_1
    refine lv_iload_n hC.1 hC.2.1 dX12_readWord_47 rfl (lv_at hl 1 rfl) ?_
    refine lv_iconst (v := 3) hC.1 hC.2.1 dX12_readWord_48 (by decide) ?_
    refine lv_icmp_ge (tgt := 69) hC.1 hC.2.1 dX12_readWord_49 (by decide) (fun hc_2 => ?_) (fun hc_2 => ?_)
    · have hf := ite_t hf hc_2
      refine lv_iload_n hC.1 hC.2.1 dX12_readWord_69 rfl (lv_at hl 1 rfl) ?_
      refine lv_iconst (v := 3) hC.1 hC.2.1 dX12_readWord_70 (by decide) ?_
      refine lv_icmp_ne (tgt := 87) hC.1 hC.2.1 dX12_readWord_71 (by decide) (fun hc_3 => ?_) (fun hc_3 => ?_)
      · have hf := ite_f hf hc_3
        exact t12_readWord_87 hC  _ _ _ _ _ hf hW (lv_sub hl [] rfl)
      · have hf := ite_t hf hc_3
        refine lv_aload_n hC.1 hC.2.1 dX12_readWord_74 rfl (lv_at hl 0 rfl) ?_
        refine g_get hC hW hin12_readWord_12 0 rfl rfl 22 (by decide) 1 rfl rfl dX12_readWord_75 ?_
        refine lv_iload_n hC.1 hC.2.1 dX12_readWord_78 rfl (lv_at hl 2 rfl) ?_
        refine lv_aload_n hC.1 hC.2.1 dX12_readWord_79 rfl (lv_at hl 0 rfl) ?_
        refine lv_bipush (v := 18) hC.1 hC.2.1 dX12_readWord_80 (by decide) ?_
        refine lv_iconst (v := 4) hC.1 hC.2.1 dX12_readWord_82 (by decide) ?_
        obtain ⟨r_4, hg_5, hf⟩ := bd_of hf
        refine g_calliV hC hW (c12_takeOne l D cy ad aM hg_5) (cwV 2 hC.2.2.2.2.1 gX12_readWord_X12_takeOne rfl rfl rfl hdV12_takeOne ⟨Nat.le_of_ble_eq_true rfl, Nat.le_of_ble_eq_true rfl⟩) (Sub.all _ _) 0 11 rfl rfl rfl rfl hl.1 rfl (Nat.le_of_ble_eq_true rfl) dX12_readWord_83 ⟨Nat.zero_le _, Nat.zero_le _⟩ (fun H locs hW => ?_)
        obtain ⟨hi_6, hf⟩ := ck_of hf
        obtain ⟨SM_7, eSM_7⟩ : ∃ y : Ob, y = oA (r_4.2) 22 (Int32.toNatClampNeg x2) (r_4.1) := ⟨_, rfl⟩
        have hf := lt_nm hf eSM_7
        refine g_iast hC hW 13 rfl hi_6 (w' := w12 cy aM SM_7) (by rw [eSM_7]; rfl) dX12_readWord_86 (fun H locs hW => ?_)
        exact t12_readWord_87 hC  _ _ _ _ _ hf hW (lv_sub hl [] rfl)
    · have hf := ite_f hf hc_2
      refine lv_aload_n hC.1 hC.2.1 dX12_readWord_52 rfl (lv_at hl 0 rfl) ?_
      refine g_get hC hW hin12_readWord_12 0 rfl rfl 22 (by decide) 1 rfl rfl dX12_readWord_53 ?_
      refine lv_iload_n hC.1 hC.2.1 dX12_readWord_56 rfl (lv_at hl 2 rfl) ?_
      refine lv_aload_n hC.1 hC.2.1 dX12_readWord_57 rfl (lv_at hl 0 rfl) ?_
      refine lv_bipush (v := 20) hC.1 hC.2.1 dX12_readWord_58 (by decide) ?_
      refine lv_bipush (v := 6) hC.1 hC.2.1 dX12_readWord_60 (by decide) ?_
      obtain ⟨r_8, hg_9, hf⟩ := bd_of hf
      refine g_calliV hC hW (c12_takeTold l D cy ad aM hg_9) (cwV 2 hC.2.2.2.2.1 gX12_readWord_X12_takeTold rfl rfl rfl hdV12_takeTold ⟨Nat.le_of_ble_eq_true rfl, Nat.le_of_ble_eq_true rfl⟩) (Sub.all _ _) 0 11 rfl rfl rfl rfl hl.1 rfl (Nat.le_of_ble_eq_true rfl) dX12_readWord_62 ⟨Nat.zero_le _, Nat.zero_le _⟩ (fun H locs hW => ?_)
      obtain ⟨hi_10, hf⟩ := ck_of hf
      obtain ⟨SM_11, eSM_11⟩ : ∃ y : Ob, y = oA (r_8.2) 22 (Int32.toNatClampNeg x2) (r_8.1) := ⟨_, rfl⟩
      have hf := lt_nm hf eSM_11
      refine g_iast hC hW 13 rfl hi_10 (w' := w12 cy aM SM_11) (by rw [eSM_11]; rfl) dX12_readWord_65 (fun H locs hW => ?_)
      refine lv_goto (tgt := 87) hC.1 hC.2.1 dX12_readWord_66 (by decide) ?_
      exact t12_readWord_87 hC  _ _ _ _ _ hf hW (lv_sub hl [] rfl)
  · have hf := ite_t hf hc_1
    refine lv_aload_n hC.1 hC.2.1 dX12_readWord_4 rfl (lv_at hl 0 rfl) ?_
    refine g_get hC hW hin12_readWord_12 0 rfl rfl 22 (by decide) 1 rfl rfl dX12_readWord_5 ?_
    refine lv_iload_n hC.1 hC.2.1 dX12_readWord_8 rfl (lv_at hl 2 rfl) ?_
    refine lv_aload_n hC.1 hC.2.1 dX12_readWord_9 rfl (lv_at hl 0 rfl) ?_
    refine lv_iconst (v := 0) hC.1 hC.2.1 dX12_readWord_10 (by decide) ?_
    refine lv_bipush (v := 8) hC.1 hC.2.1 dX12_readWord_11 (by decide) ?_
    obtain ⟨r_12, hg_13, hf⟩ := bd_of hf
    refine g_calliV hC hW (c12_takeTold l D cy ad aM hg_13) (cwV 2 hC.2.2.2.2.1 gX12_readWord_X12_takeTold rfl rfl rfl hdV12_takeTold ⟨Nat.le_of_ble_eq_true rfl, Nat.le_of_ble_eq_true rfl⟩) (Sub.all _ _) 0 11 rfl rfl rfl rfl hl.1 rfl (Nat.le_of_ble_eq_true rfl) dX12_readWord_13 ⟨Nat.zero_le _, Nat.zero_le _⟩ (fun H locs hW => ?_)
    obtain ⟨hi_14, hf⟩ := ck_of hf
    obtain ⟨SM_15, eSM_15⟩ : ∃ y : Ob, y = oA (r_12.2) 22 (Int32.toNatClampNeg x2) (r_12.1) := ⟨_, rfl⟩
    have hf := lt_nm hf eSM_15
    refine g_iast hC hW 13 rfl hi_14 (w' := w12 cy aM SM_15) (by rw [eSM_15]; rfl) dX12_readWord_16 (fun H locs hW => ?_)
    refine lv_aload_n hC.1 hC.2.1 dX12_readWord_17 rfl (lv_at hl 0 rfl) ?_
    refine g_get hC hW hin12_readWord_12 0 rfl rfl 22 (by decide) 1 rfl rfl dX12_readWord_18 ?_
    refine lv_iload_n hC.1 hC.2.1 dX12_readWord_21 rfl (lv_at hl 2 rfl) ?_
    refine lv_iconst (v := 1) hC.1 hC.2.1 dX12_readWord_22 (by decide) ?_
    refine lv_iadd hC.1 hC.2.1 dX12_readWord_23 ?_
    refine lv_sipush (v := 1100) hC.1 hC.2.1 dX12_readWord_24 (by decide) ?_
    refine lv_aload_n hC.1 hC.2.1 dX12_readWord_27 rfl (lv_at hl 0 rfl) ?_
    refine g_get hC hW hin12_readWord_12 0 rfl rfl 13 (by decide) 2 rfl rfl dX12_readWord_28 ?_
    refine lv_iadd hC.1 hC.2.1 dX12_readWord_31 ?_
    obtain ⟨hi_16, hf⟩ := ck_of hf
    obtain ⟨SM_17, eSM_17⟩ : ∃ y : Ob, y = oA SM_15 22 (Int32.toNatClampNeg (x2 + 1)) (1100 + (SM_15.1 13)) := ⟨_, rfl⟩
    have hf := lt_nm hf eSM_17
    refine g_iast hC hW 13 rfl hi_16 (w' := w12 cy aM SM_17) (by rw [eSM_17]; rfl) dX12_readWord_32 (fun H locs hW => ?_)
    refine lv_aload_n hC.1 hC.2.1 dX12_readWord_33 rfl (lv_at hl 0 rfl) ?_
    refine lv_iconst (v := 0) hC.1 hC.2.1 dX12_readWord_34 (by decide) ?_
    obtain ⟨r_18, hg_19, hf⟩ := bd_of hf
    refine g_callvV hC hW (c12_either l D cy ad aM (f12_item DP) DP (c12_item l D cy ad aM DP) hg_19) (cwV 1 hC.2.2.2.2.1 gX12_readWord_X12_either rfl rfl rfl hdV12_either ⟨Nat.le_of_ble_eq_true rfl, Nat.le_of_ble_eq_true rfl⟩) (Sub.all _ _) 0 11 rfl rfl rfl rfl hl.1 rfl (Nat.le_of_ble_eq_true rfl) dX12_readWord_35 ⟨Nat.zero_le _, Nat.zero_le _⟩ (fun H locs hW => ?_)
    refine lv_aload_n hC.1 hC.2.1 dX12_readWord_38 rfl (lv_at hl 0 rfl) ?_
    refine lv_iconst (v := 0) hC.1 hC.2.1 dX12_readWord_39 (by decide) ?_
    refine lv_iconst (v := 0) hC.1 hC.2.1 dX12_readWord_40 (by decide) ?_
    obtain ⟨r_20, hg_21, hf⟩ := bd_of hf
    refine g_callvV hC hW (c12_emit l D cy ad aM hg_21) (cwV 2 hC.2.2.2.2.1 gX12_readWord_X12_emit rfl rfl rfl hdV12_emit ⟨Nat.le_of_ble_eq_true rfl, Nat.le_of_ble_eq_true rfl⟩) (Sub.all _ _) 0 11 rfl rfl rfl rfl hl.1 rfl (Nat.le_of_ble_eq_true rfl) dX12_readWord_41 ⟨Nat.zero_le _, Nat.zero_le _⟩ (fun H locs hW => ?_)
    refine lv_goto (tgt := 87) hC.1 hC.2.1 dX12_readWord_44 (by decide) ?_
    exact t12_readWord_87 hC  _ _ _ _ _ hf hW (lv_sub hl [] rfl)
set_option maxRecDepth 100000 in
set_option maxHeartbeats 4000000 in
theorem c12_readWord (l : Launch) (D : va_G) (cy : Nat → ClassId) (ad : Nat → Nat) (aM : Nat → Nat) {x1 : Int32} {x2 : Int32} {SM : Ob} {res : Ob} (h : f12_readWord x1 x2 SM = some res) : GCv l yX12_readWord wsX12_readWord rm12_readWord [.ref (aM 0), .int x1, .int x2] D cy ad (w12 cy aM SM) (w12 cy aM res) := fun sz => GC.start (own := RX12) (Qc := fun A => QV D cy (w12 cy aM res) A) sz (by decide) rfl rfl (Nat.le_of_ble_eq_true rfl) (fun p e s m below meth c A ls hC hW hl => t12_readWord_0 hC _ _ _ _ _ _ _ h hW (lv_sub hl [0, 1, 2] rfl))
abbrev rm12_morning : Room := { frames := 43, cells := 0, slots := 0, locals := 945 }
theorem hdV12_morning : yX12_morning.cls = RX12 ∧ (yX12_morning.cls ≠ "java/lang/invoke/MethodHandle" ∧ yX12_morning.cls ≠ "java/lang/invoke/VarHandle" ∧ (parseMethodDescriptor yX12_morning.desc).map (fun d => d.parameters.length) = some 0) := by decide +kernel
theorem hin12_morning_12 : ∀ x ∈ u_ws RX12 TX12 39, x ∈ wsX12_morning := fun _ h => List.mem_cons_of_mem _ (List.mem_append_right _ h)
set_option maxRecDepth 100000 in
set_option maxHeartbeats 4000000 in
theorem t12_morning_123 (hC : Cx p s m args meth c cX12_morning 3 wsX12_morning RX12 (some .int)) {k34 : Int32 → Ob → Option (Int32 × Ob)} (hk34 : ∀ (x1 : Int32) (SM : Ob) (res : Int32 × Ob) (H : Heap) (locs : List Loc) (ls : Array Slot), k34 x1 SM = some res → GW D cy ad (w12 cy aM SM) A s H locs → lv_has ls 3 [(0, .ref (aM 0)), (1, .int x1)] → W p l e rm12_morning s m args below meth c H locs 0 0 (MQ below (QI D cy (w12 cy aM (res.2)) A (res.1)) args s 0 0 A) (F0 m 34 ls [])) : ∀ (x1 : Int32) (SM : Ob) (res : Int32 × Ob) (H : Heap) (locs : List Loc) (ls : Array Slot), f12_morning_123 k34 x1 SM = some res → GW D cy ad (w12 cy aM SM) A s H locs → lv_has ls 3 [(0, .ref (aM 0)), (1, .int x1)] → W p l e rm12_morning s m args below meth c H locs 0 0 (MQ below (QI D cy (w12 cy aM (res.2)) A (res.1)) args s 0 0 A) (F0 m 123 ls []) := by
  intro x1 SM res H locs ls hf hW hl
  unfold f12_morning_123 at hf
  refine lv_aload_n hC.1 hC.2.1 dX12_morning_123 rfl (lv_at hl 0 rfl) ?_
  refine lv_bipush (v := 59) hC.1 hC.2.1 dX12_morning_124 (by decide) ?_
  obtain ⟨r_1, hg_2, hf⟩ := bd_of hf
  refine g_callvV hC hW (c12_takeSign l D cy ad aM hg_2) (cwV 1 hC.2.2.2.2.1 gX12_morning_X12_takeSign rfl rfl rfl hdV12_takeSign ⟨Nat.le_of_ble_eq_true rfl, Nat.le_of_ble_eq_true rfl⟩) (Sub.all _ _) 0 11 rfl rfl rfl rfl hl.1 rfl (Nat.le_of_ble_eq_true rfl) dX12_morning_126 ⟨Nat.zero_le _, Nat.zero_le _⟩ (fun H locs hW => ?_)
  refine lv_goto (tgt := 34) hC.1 hC.2.1 dX12_morning_129 (by decide) ?_
  exact hk34 _ _ _ _ _ _ hf hW (lv_sub hl [0, 1] rfl)
set_option maxRecDepth 100000 in
set_option maxHeartbeats 4000000 in
theorem t12_morning_185 (hC : Cx p s m args meth c cX12_morning 3 wsX12_morning RX12 (some .int)) : ∀ n : Nat, ∀ (x2 : Int32) (SM : Ob) (res : Int32 × Ob) (H : Heap) (locs : List Loc) (ls : Array Slot), f12_morning_185 n x2 SM = some res → GW D cy ad (w12 cy aM SM) A s H locs → lv_has ls 3 [(0, .ref (aM 0)), (2, .int x2)] → W p l e rm12_morning s m args below meth c H locs 0 0 (MQ below (QI D cy (w12 cy aM (res.2)) A (res.1)) args s 0 0 A) (F0 m 185 ls []) := by
  intro n
  induction n with
  | zero =>
    intro _ _ _ _ _ _ hf _ _
    exact nomatch (show (none : Option (Int32 × Ob)) = some _ from hf)
  | succ n ih =>
    intro x2 SM res H locs ls hf hW hl
    rw [f12_morning_185] at hf
    refine lv_iload_n hC.1 hC.2.1 dX12_morning_185 rfl (lv_at hl 1 rfl) ?_
    refine lv_aload_n hC.1 hC.2.1 dX12_morning_186 rfl (lv_at hl 0 rfl) ?_
    refine g_get hC hW hin12_morning_12 0 rfl rfl 13 (by decide) 2 rfl rfl dX12_morning_187 ?_
    refine lv_icmp_ge (tgt := 239) hC.1 hC.2.1 dX12_morning_190 (by decide) (fun hc_1 => ?_) (fun hc_1 => ?_)
    · have hf := ite_t hf hc_1
      refine lv_iconst (v := 0) hC.1 hC.2.1 dX12_morning_239 (by decide) ?_
      obtain rfl := Option.some.inj hf
      exact g_iret hC hW dX12_morning_240
    · have hf := ite_f hf hc_1
      refine lv_aload_n hC.1 hC.2.1 dX12_morning_193 rfl (lv_at hl 0 rfl) ?_
      refine g_get hC hW hin12_morning_12 0 rfl rfl 11 (by decide) 10 rfl rfl dX12_morning_194 ?_
      refine lv_sipush (v := 1100) hC.1 hC.2.1 dX12_morning_197 (by decide) ?_
      refine lv_iload_n hC.1 hC.2.1 dX12_morning_200 rfl (lv_at hl 1 rfl) ?_
      refine lv_iadd hC.1 hC.2.1 dX12_morning_201 ?_
      refine lv_aload_n hC.1 hC.2.1 dX12_morning_202 rfl (lv_at hl 0 rfl) ?_
      refine g_get hC hW hin12_morning_12 0 rfl rfl 11 (by decide) 10 rfl rfl dX12_morning_203 ?_
      refine lv_sipush (v := 2200) hC.1 hC.2.1 dX12_morning_206 (by decide) ?_
      refine lv_iload_n hC.1 hC.2.1 dX12_morning_209 rfl (lv_at hl 1 rfl) ?_
      refine lv_iadd hC.1 hC.2.1 dX12_morning_210 ?_
      obtain ⟨hi_2, hf⟩ := ck_of hf
      refine g_iald hC hW 7 rfl hi_2 dX12_morning_211 ?_
      obtain ⟨hi_3, hf⟩ := ck_of hf
      obtain ⟨SM_4, eSM_4⟩ : ∃ y : Ob, y = oA SM 11 (Int32.toNatClampNeg (1100 + x2)) (SM.2.2.1 11 (Int32.toNatClampNeg (2200 + x2))) := ⟨_, rfl⟩
      have hf := lt_nm hf eSM_4
      refine g_iast hC hW 7 rfl hi_3 (w' := w12 cy aM SM_4) (by rw [eSM_4]; rfl) dX12_morning_212 (fun H locs hW => ?_)
      refine lv_aload_n hC.1 hC.2.1 dX12_morning_213 rfl (lv_at hl 0 rfl) ?_
      refine g_get hC hW hin12_morning_12 0 rfl rfl 12 (by decide) 11 rfl rfl dX12_morning_214 ?_
      refine lv_sipush (v := 1100) hC.1 hC.2.1 dX12_morning_217 (by decide) ?_
      refine lv_iload_n hC.1 hC.2.1 dX12_morning_220 rfl (lv_at hl 1 rfl) ?_
      refine lv_iadd hC.1 hC.2.1 dX12_morning_221 ?_
      refine lv_aload_n hC.1 hC.2.1 dX12_morning_222 rfl (lv_at hl 0 rfl) ?_
      refine g_get hC hW hin12_morning_12 0 rfl rfl 12 (by decide) 11 rfl rfl dX12_morning_223 ?_
      refine lv_sipush (v := 2200) hC.1 hC.2.1 dX12_morning_226 (by decide) ?_
      refine lv_iload_n hC.1 hC.2.1 dX12_morning_229 rfl (lv_at hl 1 rfl) ?_
      refine lv_iadd hC.1 hC.2.1 dX12_morning_230 ?_
      obtain ⟨hi_5, hf⟩ := ck_of hf
      refine g_iald hC hW 8 rfl hi_5 dX12_morning_231 ?_
      obtain ⟨hi_6, hf⟩ := ck_of hf
      obtain ⟨SM_7, eSM_7⟩ : ∃ y : Ob, y = oA SM_4 12 (Int32.toNatClampNeg (1100 + x2)) (SM_4.2.2.1 12 (Int32.toNatClampNeg (2200 + x2))) := ⟨_, rfl⟩
      have hf := lt_nm hf eSM_7
      refine g_iast hC hW 8 rfl hi_6 (w' := w12 cy aM SM_7) (by rw [eSM_7]; rfl) dX12_morning_232 (fun H locs hW => ?_)
      obtain ⟨x2_8, ex2_8⟩ : ∃ y : Int32, y = x2 + 1 := ⟨_, rfl⟩
      have hf := lt_nm hf ex2_8
      refine lv_iinc (v := x2_8) (lv' := [(2, .int x2_8), (0, .ref (aM 0))]) hC.1 hC.2.1 dX12_morning_233 hl (k := 1) rfl (by rw [ex2_8]; rfl) (by decide) rfl (fun ls hl => ?_)
      refine lv_goto (tgt := 185) hC.1 hC.2.1 dX12_morning_236 (by decide) ?_
      exact ih _ _ _ _ _ _ hf hW (lv_sub hl [1, 0] rfl)
set_option maxRecDepth 100000 in
set_option maxHeartbeats 4000000 in
theorem t12_morning_153 (hC : Cx p s m args meth c cX12_morning 3 wsX12_morning RX12 (some .int)) : ∀ n : Nat, ∀ (x1 : Int32) (x2 : Int32) (SM : Ob) (res : Int32 × Ob) (H : Heap) (locs : List Loc) (ls : Array Slot), f12_morning_153 n x1 x2 SM = some res → GW D cy ad (w12 cy aM SM) A s H locs → lv_has ls 3 [(0, .ref (aM 0)), (1, .int x1), (2, .int x2)] → W p l e rm12_morning s m args below meth c H locs 0 0 (MQ below (QI D cy (w12 cy aM (res.2)) A (res.1)) args s 0 0 A) (F0 m 153 ls []) := by
  intro n
  induction n with
  | zero =>
    intro _ _ _ _ _ _ _ hf _ _
    exact nomatch (show (none : Option (Int32 × Ob)) = some _ from hf)
  | succ n ih =>
    intro x1 x2 SM res H locs ls hf hW hl
    rw [f12_morning_153] at hf
    refine lv_iload_n hC.1 hC.2.1 dX12_morning_153 rfl (lv_at hl 2 rfl) ?_
    refine lv_iconst (v := 3) hC.1 hC.2.1 dX12_morning_154 (by decide) ?_
    refine lv_iload_n hC.1 hC.2.1 dX12_morning_155 rfl (lv_at hl 1 rfl) ?_
    refine lv_imul hC.1 hC.2.1 dX12_morning_156 ?_
    refine lv_icmp_ge (tgt := 183) hC.1 hC.2.1 dX12_morning_157 (by decide) (fun hc_1 => ?_) (fun hc_1 => ?_)
    · have hf := ite_t hf hc_1
      refine lv_iconst (v := 0) hC.1 hC.2.1 dX12_morning_183 (by decide) ?_
      refine lv_istore_n (lv' := [(2, .int 0), (0, .ref (aM 0)), (1, .int x1)]) hC.1 hC.2.1 dX12_morning_184 rfl hl (by decide) rfl (fun ls hl => ?_)
      exact t12_morning_185 hC _ _ _ _ _ _ _ hf hW (lv_sub hl [1, 0] rfl)
    · have hf := ite_f hf hc_1
      refine lv_aload_n hC.1 hC.2.1 dX12_morning_160 rfl (lv_at hl 0 rfl) ?_
      refine g_get hC hW hin12_morning_12 0 rfl rfl 22 (by decide) 9 rfl rfl dX12_morning_161 ?_
      refine lv_iconst (v := 1) hC.1 hC.2.1 dX12_morning_164 (by decide) ?_
      refine lv_iload_n hC.1 hC.2.1 dX12_morning_165 rfl (lv_at hl 2 rfl) ?_
      refine lv_iadd hC.1 hC.2.1 dX12_morning_166 ?_
      refine lv_aload_n hC.1 hC.2.1 dX12_morning_167 rfl (lv_at hl 0 rfl) ?_
      refine g_get hC hW hin12_morning_12 0 rfl rfl 22 (by decide) 9 rfl rfl dX12_morning_168 ?_
      refine lv_bipush (v := 80) hC.1 hC.2.1 dX12_morning_171 (by decide) ?_
      refine lv_iload_n hC.1 hC.2.1 dX12_morning_173 rfl (lv_at hl 2 rfl) ?_
      refine lv_iadd hC.1 hC.2.1 dX12_morning_174 ?_
      obtain ⟨hi_2, hf⟩ := ck_of hf
      refine g_iald hC hW 13 rfl hi_2 dX12_morning_175 ?_
      obtain ⟨hi_3, hf⟩ := ck_of hf
      obtain ⟨SM_4, eSM_4⟩ : ∃ y : Ob, y = oA SM 22 (Int32.toNatClampNeg (1 + x2)) (SM.2.2.1 22 (Int32.toNatClampNeg (80 + x2))) := ⟨_, rfl⟩
      have hf := lt_nm hf eSM_4
      refine g_iast hC hW 13 rfl hi_3 (w' := w12 cy aM SM_4) (by rw [eSM_4]; rfl) dX12_morning_176 (fun H locs hW => ?_)
      obtain ⟨x2_5, ex2_5⟩ : ∃ y : Int32, y = x2 + 1 := ⟨_, rfl⟩
      have hf := lt_nm hf ex2_5
      refine lv_iinc (v := x2_5) (lv' := [(2, .int x2_5), (0, .ref (aM 0)), (1, .int x1)]) hC.1 hC.2.1 dX12_morning_177 hl (k := 2) rfl (by rw [ex2_5]; rfl) (by decide) rfl (fun ls hl => ?_)
      refine lv_goto (tgt := 153) hC.1 hC.2.1 dX12_morning_180 (by decide) ?_
      exact ih _ _ _ _ _ _ _ hf hW (lv_sub hl [1, 2, 0] rfl)
set_option maxRecDepth 100000 in
set_option maxHeartbeats 4000000 in
theorem t12_morning_132 (hC : Cx p s m args meth c cX12_morning 3 wsX12_morning RX12 (some .int)) : ∀ (x1 : Int32) (SM : Ob) (res : Int32 × Ob) (H : Heap) (locs : List Loc) (ls : Array Slot), f12_morning_132 x1 SM = some res → GW D cy ad (w12 cy aM SM) A s H locs → lv_has ls 3 [(0, .ref (aM 0)), (1, .int x1)] → W p l e rm12_morning s m args below meth c H locs 0 0 (MQ below (QI D cy (w12 cy aM (res.2)) A (res.1)) args s 0 0 A) (F0 m 132 ls []) := by
  intro x1 SM res H locs ls hf hW hl
  unfold f12_morning_132 at hf
  refine lv_aload_n hC.1 hC.2.1 dX12_morning_132 rfl (lv_at hl 0 rfl) ?_
  refine g_get hC hW hin12_morning_12 0 rfl rfl 8 (by decide) 6 rfl rfl dX12_morning_133 ?_
  refine lv_if_le (tgt := 144) hC.1 hC.2.1 dX12_morning_136 (by decide) (fun hc_1 => ?_) (fun hc_1 => ?_)
  · have hf := ite_t hf hc_1
    refine lv_aload_n hC.1 hC.2.1 dX12_morning_144 rfl (lv_at hl 0 rfl) ?_
    refine g_get hC hW hin12_morning_12 0 rfl rfl 22 (by decide) 9 rfl rfl dX12_morning_145 ?_
    refine lv_iconst (v := 0) hC.1 hC.2.1 dX12_morning_148 (by decide) ?_
    refine lv_iload_n hC.1 hC.2.1 dX12_morning_149 rfl (lv_at hl 1 rfl) ?_
    obtain ⟨hi_2, hf⟩ := ck_of hf
    obtain ⟨SM_3, eSM_3⟩ : ∃ y : Ob, y = oA SM 22 (Int32.toNatClampNeg 0) x1 := ⟨_, rfl⟩
    have hf := lt_nm hf eSM_3
    refine g_iast hC hW 13 rfl hi_2 (w' := w12 cy aM SM_3) (by rw [eSM_3]; rfl) dX12_morning_150 (fun H locs hW => ?_)
    refine lv_iconst (v := 0) hC.1 hC.2.1 dX12_morning_151 (by decide) ?_
    refine lv_istore_n (lv' := [(2, .int 0), (0, .ref (aM 0)), (1, .int x1)]) hC.1 hC.2.1 dX12_morning_152 rfl hl (by decide) rfl (fun ls hl => ?_)
    exact t12_morning_153 hC _ _ _ _ _ _ _ _ hf hW (lv_sub hl [1, 2, 0] rfl)
  · have hf := ite_f hf hc_1
    refine lv_aload_n hC.1 hC.2.1 dX12_morning_139 rfl (lv_at hl 0 rfl) ?_
    refine g_get hC hW hin12_morning_12 0 rfl rfl 8 (by decide) 6 rfl rfl dX12_morning_140 ?_
    obtain rfl := Option.some.inj hf
    exact g_iret hC hW dX12_morning_143
set_option maxRecDepth 100000 in
set_option maxHeartbeats 4000000 in
theorem t12_morning_34 (hC : Cx p s m args meth c cX12_morning 3 wsX12_morning RX12 (some .int)) : ∀ n : Nat, ∀ (x1 : Int32) (SM : Ob) (res : Int32 × Ob) (H : Heap) (locs : List Loc) (ls : Array Slot), f12_morning_34 n x1 SM = some res → GW D cy ad (w12 cy aM SM) A s H locs → lv_has ls 3 [(0, .ref (aM 0)), (1, .int x1)] → W p l e rm12_morning s m args below meth c H locs 0 0 (MQ below (QI D cy (w12 cy aM (res.2)) A (res.1)) args s 0 0 A) (F0 m 34 ls []) := by
  intro n
  induction n with
  | zero =>
    intro _ _ _ _ _ _ hf _ _
    exact nomatch (show (none : Option (Int32 × Ob)) = some _ from hf)
  | succ n ih =>
    intro x1 SM res H locs ls hf hW hl
    rw [f12_morning_34] at hf
    refine lv_aload_n hC.1 hC.2.1 dX12_morning_34 rfl (lv_at hl 0 rfl) ?_
    refine g_get hC hW hin12_morning_12 0 rfl rfl 8 (by decide) 6 rfl rfl dX12_morning_35 ?_
    refine lv_if_ne (tgt := 132) hC.1 hC.2.1 dX12_morning_38 (by decide) (fun hc_1 => ?_) (fun hc_1 => ?_)
    · have hf := ite_f hf hc_1
      exact t12_morning_132 hC  _ _ _ _ _ _ hf hW (lv_sub hl [0, 1] rfl)
    · have hf := ite_t hf hc_1
      refine lv_aload_n hC.1 hC.2.1 dX12_morning_41 rfl (lv_at hl 0 rfl) ?_
      refine g_get hC hW hin12_morning_12 0 rfl rfl 4 (by decide) 7 rfl rfl dX12_morning_42 ?_
      refine lv_aload_n hC.1 hC.2.1 dX12_morning_45 rfl (lv_at hl 0 rfl) ?_
      refine g_get hC hW hin12_morning_12 0 rfl rfl 7 (by decide) 8 rfl rfl dX12_morning_46 ?_
      obtain ⟨hi_2, hf⟩ := ck_of hf
      refine g_iald hC hW 2 rfl hi_2 dX12_morning_49 ?_
      refine lv_if_eq (tgt := 132) hC.1 hC.2.1 dX12_morning_50 (by decide) (fun hc_3 => ?_) (fun hc_3 => ?_)
      · have hf := ite_t hf hc_3
        exact t12_morning_132 hC  _ _ _ _ _ _ hf hW (lv_sub hl [0, 1] rfl)
      · have hf := ite_f hf hc_3
        refine lv_aload_n hC.1 hC.2.1 dX12_morning_53 rfl (lv_at hl 0 rfl) ?_
        refine lv_bipush (v := 9) hC.1 hC.2.1 dX12_morning_54 (by decide) ?_
        refine lv_iconst (v := 5) hC.1 hC.2.1 dX12_morning_56 (by decide) ?_
        obtain ⟨r_4, hg_5, hf⟩ := bd_of hf
        refine g_calliV hC hW (c12_wordHere l D cy ad aM hg_5) (cwV 2 hC.2.2.2.2.1 gX12_morning_X12_wordHere rfl rfl rfl hdV12_wordHere ⟨Nat.le_of_ble_eq_true rfl, Nat.le_of_ble_eq_true rfl⟩) (Sub.all _ _) 0 11 rfl rfl rfl rfl hl.1 rfl (Nat.le_of_ble_eq_true rfl) dX12_morning_57 ⟨Nat.zero_le _, Nat.zero_le _⟩ (fun H locs hW => ?_)
        refine lv_istore_n (lv' := [(2, .int r_4), (0, .ref (aM 0)), (1, .int x1)]) hC.1 hC.2.1 dX12_morning_60 rfl hl (by decide) rfl (fun ls hl => ?_)
        refine lv_iload_n hC.1 hC.2.1 dX12_morning_61 rfl (lv_at hl 0 rfl) ?_
        refine lv_if_ge (tgt := 73) hC.1 hC.2.1 dX12_morning_62 (by decide) (fun hc_6 => ?_) (fun hc_6 => ?_)
        · have hf := ite_t hf hc_6
          refine lv_iload_n hC.1 hC.2.1 dX12_morning_73 rfl (lv_at hl 2 rfl) ?_
          refine lv_bipush (v := 24) hC.1 hC.2.1 dX12_morning_74 (by decide) ?_
          refine lv_icmp_ne (tgt := 87) hC.1 hC.2.1 dX12_morning_76 (by decide) (fun hc_7 => ?_) (fun hc_7 => ?_)
          · have hf := ite_f hf hc_7
            refine lv_aload_n hC.1 hC.2.1 dX12_morning_87 rfl (lv_at hl 1 rfl) ?_
            refine lv_dup hC.1 hC.2.1 dX12_morning_88 rfl ?_
            refine g_get hC hW hin12_morning_12 0 rfl rfl 7 (by decide) 8 rfl rfl dX12_morning_89 ?_
            refine lv_iconst (v := 1) hC.1 hC.2.1 dX12_morning_92 (by decide) ?_
            refine lv_iadd hC.1 hC.2.1 dX12_morning_93 ?_
            obtain ⟨SM_8, eSM_8⟩ : ∃ y : Ob, y = oI SM 7 ((SM.1 7) + 1) := ⟨_, rfl⟩
            have hf := lt_nm hf eSM_8
            refine g_put hC hW hin12_morning_12 tyX12 tyX12_ok nmX12 0 rfl rfl 7 (by decide) 8 rfl rfl rfl rfl (Nat.le_of_ble_eq_true rfl) (w' := w12 cy aM SM_8) (by rw [eSM_8]; rfl) dX12_morning_94 (fun H locs hW => ?_)
            refine lv_aload_n hC.1 hC.2.1 dX12_morning_97 rfl (lv_at hl 1 rfl) ?_
            refine g_get hC hW hin12_morning_12 0 rfl rfl 22 (by decide) 9 rfl rfl dX12_morning_98 ?_
            refine lv_bipush (v := 80) hC.1 hC.2.1 dX12_morning_101 (by decide) ?_
            refine lv_iconst (v := 3) hC.1 hC.2.1 dX12_morning_103 (by decide) ?_
            refine lv_iload_n hC.1 hC.2.1 dX12_morning_104 rfl (lv_at hl 2 rfl) ?_
            refine lv_imul hC.1 hC.2.1 dX12_morning_105 ?_
            refine lv_iadd hC.1 hC.2.1 dX12_morning_106 ?_
            refine lv_iload_n hC.1 hC.2.1 dX12_morning_107 rfl (lv_at hl 0 rfl) ?_
            obtain ⟨hi_9, hf⟩ := ck_of hf
            obtain ⟨SM_10, eSM_10⟩ : ∃ y : Ob, y = oA SM_8 22 (Int32.toNatClampNeg (80 + (3 * x1))) r_4 := ⟨_, rfl⟩
            have hf := lt_nm hf eSM_10
            refine g_iast hC hW 13 rfl hi_9 (w' := w12 cy aM SM_10) (by rw [eSM_10]; rfl) dX12_morning_108 (fun H locs hW => ?_)
            refine lv_aload_n hC.1 hC.2.1 dX12_morning_109 rfl (lv_at hl 1 rfl) ?_
            refine lv_iload_n hC.1 hC.2.1 dX12_morning_110 rfl (lv_at hl 0 rfl) ?_
            refine lv_bipush (v := 81) hC.1 hC.2.1 dX12_morning_111 (by decide) ?_
            refine lv_iconst (v := 3) hC.1 hC.2.1 dX12_morning_113 (by decide) ?_
            refine lv_iload_n hC.1 hC.2.1 dX12_morning_114 rfl (lv_at hl 2 rfl) ?_
            refine lv_imul hC.1 hC.2.1 dX12_morning_115 ?_
            refine lv_iadd hC.1 hC.2.1 dX12_morning_116 ?_
            obtain ⟨r_11, hg_12, hf⟩ := bd_of hf
            refine g_callvV hC hW (c12_readWord l D cy ad aM hg_12) (cwV 2 hC.2.2.2.2.1 gX12_morning_X12_readWord rfl rfl rfl hdV12_readWord ⟨Nat.le_of_ble_eq_true rfl, Nat.le_of_ble_eq_true rfl⟩) (Sub.all _ _) 0 11 rfl rfl rfl rfl hl.1 rfl (Nat.le_of_ble_eq_true rfl) dX12_morning_117 ⟨Nat.zero_le _, Nat.zero_le _⟩ (fun H locs hW => ?_)
            obtain ⟨x1_13, ex1_13⟩ : ∃ y : Int32, y = x1 + 1 := ⟨_, rfl⟩
            have hf := lt_nm hf ex1_13
            refine lv_iinc (v := x1_13) (lv' := [(1, .int x1_13), (2, .int r_4), (0, .ref (aM 0))]) hC.1 hC.2.1 dX12_morning_120 hl (k := 2) rfl (by rw [ex1_13]; rfl) (by decide) rfl (fun ls hl => ?_)
            exact t12_morning_123 hC ih  _ _ _ _ _ _ hf hW (lv_sub hl [2, 0] rfl)
          · have hf := ite_t hf hc_7
            refine lv_aload_n hC.1 hC.2.1 dX12_morning_79 rfl (lv_at hl 1 rfl) ?_
            refine lv_iconst (v := 5) hC.1 hC.2.1 dX12_morning_80 (by decide) ?_
            obtain ⟨r_14, hg_15, hf⟩ := bd_of hf
            refine g_callvV hC hW (c12_wrong l D cy ad aM hg_15) (cwV 1 hC.2.2.2.2.1 gX12_morning_X12_wrong rfl rfl rfl hdV12_wrong ⟨Nat.le_of_ble_eq_true rfl, Nat.le_of_ble_eq_true rfl⟩) (Sub.all _ _) 0 11 rfl rfl rfl rfl hl.1 rfl (Nat.le_of_ble_eq_true rfl) dX12_morning_81 ⟨Nat.zero_le _, Nat.zero_le _⟩ (fun H locs hW => ?_)
            refine lv_goto (tgt := 123) hC.1 hC.2.1 dX12_morning_84 (by decide) ?_
            exact t12_morning_123 hC ih  _ _ _ _ _ _ hf hW (lv_sub hl [1, 2] rfl)
        · have hf := ite_f hf hc_6
          refine lv_aload_n hC.1 hC.2.1 dX12_morning_65 rfl (lv_at hl 1 rfl) ?_
          refine lv_iconst (v := 1) hC.1 hC.2.1 dX12_morning_66 (by decide) ?_
          obtain ⟨r_16, hg_17, hf⟩ := bd_of hf
          refine g_callvV hC hW (c12_wrong l D cy ad aM hg_17) (cwV 1 hC.2.2.2.2.1 gX12_morning_X12_wrong rfl rfl rfl hdV12_wrong ⟨Nat.le_of_ble_eq_true rfl, Nat.le_of_ble_eq_true rfl⟩) (Sub.all _ _) 0 11 rfl rfl rfl rfl hl.1 rfl (Nat.le_of_ble_eq_true rfl) dX12_morning_67 ⟨Nat.zero_le _, Nat.zero_le _⟩ (fun H locs hW => ?_)
          refine lv_goto (tgt := 123) hC.1 hC.2.1 dX12_morning_70 (by decide) ?_
          exact t12_morning_123 hC ih  _ _ _ _ _ _ hf hW (lv_sub hl [1, 2] rfl)
set_option maxRecDepth 100000 in
set_option maxHeartbeats 4000000 in
theorem t12_morning_0 (hC : Cx p s m args meth c cX12_morning 3 wsX12_morning RX12 (some .int)) : ∀ (SM : Ob) (res : Int32 × Ob) (H : Heap) (locs : List Loc) (ls : Array Slot), f12_morning SM = some res → GW D cy ad (w12 cy aM SM) A s H locs → lv_has ls 3 [(0, .ref (aM 0))] → W p l e rm12_morning s m args below meth c H locs 0 0 (MQ below (QI D cy (w12 cy aM (res.2)) A (res.1)) args s 0 0 A) (F0 m 0 ls []) := by
  intro SM res H locs ls hf hW hl
  unfold f12_morning at hf
  refine lv_aload_n hC.1 hC.2.1 dX12_morning_0 rfl (lv_at hl 0 rfl) ?_
  refine lv_iconst (v := 0) hC.1 hC.2.1 dX12_morning_1 (by decide) ?_
  obtain ⟨SM_1, eSM_1⟩ : ∃ y : Ob, y = oI SM 0 0 := ⟨_, rfl⟩
  have hf := lt_nm hf eSM_1
  refine g_put hC hW hin12_morning_12 tyX12 tyX12_ok nmX12 0 rfl rfl 0 (by decide) 1 rfl rfl rfl rfl (Nat.le_of_ble_eq_true rfl) (w' := w12 cy aM SM_1) (by rw [eSM_1]; rfl) dX12_morning_2 (fun H locs hW => ?_)
  refine lv_aload_n hC.1 hC.2.1 dX12_morning_5 rfl (lv_at hl 0 rfl) ?_
  obtain ⟨r_2, hg_3, hf⟩ := bd_of hf
  refine g_callvV hC hW (c12_cutAll l D cy ad aM hg_3) (cwV 0 hC.2.2.2.2.1 gX12_morning_X12_cutAll rfl rfl rfl hdV12_cutAll ⟨Nat.le_of_ble_eq_true rfl, Nat.le_of_ble_eq_true rfl⟩) (Sub.all _ _) 0 11 rfl rfl rfl rfl hl.1 rfl (Nat.le_of_ble_eq_true rfl) dX12_morning_6 ⟨Nat.zero_le _, Nat.zero_le _⟩ (fun H locs hW => ?_)
  refine lv_aload_n hC.1 hC.2.1 dX12_morning_9 rfl (lv_at hl 0 rfl) ?_
  refine lv_iconst (v := 0) hC.1 hC.2.1 dX12_morning_10 (by decide) ?_
  obtain ⟨SM_4, eSM_4⟩ : ∃ y : Ob, y = oI r_2 13 0 := ⟨_, rfl⟩
  have hf := lt_nm hf eSM_4
  refine g_put hC hW hin12_morning_12 tyX12 tyX12_ok nmX12 0 rfl rfl 13 (by decide) 2 rfl rfl rfl rfl (Nat.le_of_ble_eq_true rfl) (w' := w12 cy aM SM_4) (by rw [eSM_4]; rfl) dX12_morning_11 (fun H locs hW => ?_)
  refine lv_aload_n hC.1 hC.2.1 dX12_morning_14 rfl (lv_at hl 0 rfl) ?_
  refine lv_iconst (v := 0) hC.1 hC.2.1 dX12_morning_15 (by decide) ?_
  obtain ⟨SM_6, eSM_6⟩ : ∃ y : Ob, y = oI SM_4 20 0 := ⟨_, rfl⟩
  have hf := lt_nm hf eSM_6
  refine g_put hC hW hin12_morning_12 tyX12 tyX12_ok nmX12 0 rfl rfl 20 (by decide) 3 rfl rfl (isz_of (by decide)) (fits_isz (by decide)) (Nat.le_of_ble_eq_true rfl) (w' := w12 cy aM SM_6) (by rw [eSM_6]; rfl) dX12_morning_16 (fun H locs hW => ?_)
  refine lv_aload_n hC.1 hC.2.1 dX12_morning_19 rfl (lv_at hl 0 rfl) ?_
  refine lv_bipush (v := 20) hC.1 hC.2.1 dX12_morning_20 (by decide) ?_
  refine lv_aload_n hC.1 hC.2.1 dX12_morning_22 rfl (lv_at hl 0 rfl) ?_
  refine g_get hC hW hin12_morning_12 0 rfl rfl 10 (by decide) 4 rfl rfl dX12_morning_23 ?_
  refine lv_iconst (v := 1) hC.1 hC.2.1 dX12_morning_26 (by decide) ?_
  obtain ⟨hi_7, hf⟩ := ck_of hf
  refine g_iald hC hW 6 rfl hi_7 dX12_morning_27 ?_
  refine lv_iadd hC.1 hC.2.1 dX12_morning_28 ?_
  obtain ⟨SM_8, eSM_8⟩ : ∃ y : Ob, y = oI SM_6 21 (20 + (SM_6.2.2.1 10 (Int32.toNatClampNeg 1))) := ⟨_, rfl⟩
  have hf := lt_nm hf eSM_8
  refine g_put hC hW hin12_morning_12 tyX12 tyX12_ok nmX12 0 rfl rfl 21 (by decide) 5 rfl rfl rfl rfl (Nat.le_of_ble_eq_true rfl) (w' := w12 cy aM SM_8) (by rw [eSM_8]; rfl) dX12_morning_29 (fun H locs hW => ?_)
  refine lv_iconst (v := 0) hC.1 hC.2.1 dX12_morning_32 (by decide) ?_
  refine lv_istore_n (lv' := [(1, .int 0), (0, .ref (aM 0))]) hC.1 hC.2.1 dX12_morning_33 rfl hl (by decide) rfl (fun ls hl => ?_)
  exact t12_morning_34 hC _ _ _ _ _ _ _ hf hW (lv_sub hl [1, 0] rfl)
set_option maxRecDepth 100000 in
set_option maxHeartbeats 4000000 in
theorem c12_morning (l : Launch) (D : va_G) (cy : Nat → ClassId) (ad : Nat → Nat) (aM : Nat → Nat) {SM : Ob} {res : Int32 × Ob} (h : f12_morning SM = some res) : GCi l yX12_morning wsX12_morning rm12_morning [.ref (aM 0)] D cy ad (w12 cy aM SM) (w12 cy aM (res.2)) (res.1) := fun sz => GC.start (own := RX12) (Qc := fun A => QI D cy (w12 cy aM (res.2)) A (res.1)) sz (by decide) rfl rfl (Nat.le_of_ble_eq_true rfl) (fun p e s m below meth c A ls hC hW hl => t12_morning_0 hC _ _ _ _ _ h hW (lv_sub hl [0] rfl))
end
