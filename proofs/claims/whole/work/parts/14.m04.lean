/-! laid by program: functions, walks and contracts of 12_readSign, 12_readSees, 12_readShun -/
set_option maxRecDepth 20000 in
theorem gX12_readSign_X12_wrong : GoodIn wsX12_readSign (wsV RX12 204 RX12 yX12_wrong wsX12_wrong) := goodIn_r _ [4, 5, 6, 7, 8, 9, 10, 11, 91, 92, 93, 94, 95, 96, 97, 98, 99, 100, 101, 102, 103, 104, 105, 106, 107, 108, 109, 110, 111, 112, 113, 114, 115, 116, 117, 118, 119, 120, 121, 122, 123, 124, 125, 126, 127, 128, 129] rfl (by decide +kernel)
set_option maxRecDepth 20000 in
theorem gX12_readSign_X12_readName : GoodIn wsX12_readSign (wsV RX12 275 RX12 yX12_readName wsX12_readName) := goodIn_r _ [12, 13, 14, 7, 15, 11, 9, 16, 17, 18, 19, 20, 21, 22, 7, 23, 24, 25, 26, 27, 28, 29, 30, 31, 32, 33, 4, 5, 6, 8, 10, 34, 35, 36, 37, 38, 39, 40, 41, 91, 92, 93, 94, 95, 96, 97, 98, 99, 100, 101, 102, 103, 104, 105, 106, 107, 108, 109, 110, 111, 112, 113, 114, 115, 116, 117, 118, 119, 120, 121, 122, 123, 124, 125, 126, 127, 128, 129] rfl (by decide +kernel)
set_option maxRecDepth 20000 in
theorem gX12_readSign_X12_takeAfter : GoodIn wsX12_readSign (wsV RX12 281 RX12 yX12_takeAfter wsX12_takeAfter) := goodIn_r _ [42, 43, 44, 7, 45, 46, 47, 48, 7, 49, 50, 51, 52, 53, 11, 29, 30, 31, 32, 9, 24, 18, 33, 4, 5, 6, 8, 10, 54, 55, 56, 57, 91, 92, 93, 94, 95, 96, 97, 98, 99, 100, 101, 102, 103, 104, 105, 106, 107, 108, 109, 110, 111, 112, 113, 114, 115, 116, 117, 118, 119, 120, 121, 122, 123, 124, 125, 126, 127, 128, 129] rfl (by decide +kernel)
set_option maxRecDepth 20000 in
theorem gX12_readSign_X12_takeWord : GoodIn wsX12_readSign (wsV RX12 213 RX12 yX12_takeWord wsX12_takeWord) := goodIn_r _ [46, 47, 48, 7, 49, 50, 51, 52, 7, 53, 11, 29, 30, 31, 32, 9, 24, 18, 33, 4, 5, 6, 8, 10, 91, 92, 93, 94, 95, 96, 97, 98, 99, 100, 101, 102, 103, 104, 105, 106, 107, 108, 109, 110, 111, 112, 113, 114, 115, 116, 117, 118, 119, 120, 121, 122, 123, 124, 125, 126, 127, 128, 129] rfl (by decide +kernel)
set_option maxRecDepth 20000 in
theorem gX12_readSign_X12_either : GoodIn wsX12_readSign (wsV RX12 288 RX12 yX12_either wsX12_either) := goodIn_r _ [58, 59, 60, 7, 61, 62, 63, 64, 7, 50, 51, 52, 53, 11, 29, 30, 31, 32, 9, 24, 18, 33, 65, 66, 67, 68, 69, 2, 70, 71, 72, 73, 74, 75, 3, 20, 21, 22, 23, 25, 26, 27, 28, 76, 77, 78, 79, 4, 5, 6, 8, 10, 34, 35, 36, 37, 38, 17, 39, 16, 40, 19, 41, 80, 81, 82, 83, 84, 85, 86, 58, 59, 60, 87, 88, 89, 90, 91, 92, 93, 94, 95, 96, 97, 98, 99, 100, 101, 102, 103, 104, 105, 106, 107, 108, 109, 110, 111, 112, 113, 114, 115, 116, 117, 118, 119, 120, 121, 122, 123, 124, 125, 126, 127, 128, 129] rfl (by decide +kernel)
set_option maxRecDepth 20000 in
theorem gX12_readSign_X12_emit : GoodIn wsX12_readSign (wsV RX12 291 RX12 yX12_emit wsX12_emit) := goodIn_r _ [65, 66, 67, 7, 68, 69, 2, 70, 91, 92, 93, 94, 95, 96, 97, 98, 99, 100, 101, 102, 103, 104, 105, 106, 107, 108, 109, 110, 111, 112, 113, 114, 115, 116, 117, 118, 119, 120, 121, 122, 123, 124, 125, 126, 127, 128, 129] rfl (by decide +kernel)
theorem dX12_readSign_0 : decode cX12_readSign 0 = .ok (.aload_n 0, 1) := by decide +kernel
theorem dX12_readSign_1 : decode cX12_readSign 1 = .ok (.getfield 101, 3) := by decide +kernel
theorem dX12_readSign_4 : decode cX12_readSign 4 = .ok (.bipush 61, 2) := by decide +kernel
theorem dX12_readSign_6 : decode cX12_readSign 6 = .ok (.iaload, 1) := by decide +kernel
theorem dX12_readSign_7 : decode cX12_readSign 7 = .ok (.istore_n 1, 1) := by decide +kernel
theorem dX12_readSign_8 : decode cX12_readSign 8 = .ok (.iload_n 1, 1) := by decide +kernel
theorem dX12_readSign_9 : decode cX12_readSign 9 = .ok (.bipush 6, 2) := by decide +kernel
theorem dX12_readSign_11 : decode cX12_readSign 11 = .ok (.if_icmp .ne 9, 3) := by decide +kernel
theorem dX12_readSign_14 : decode cX12_readSign 14 = .ok (.aload_n 0, 1) := by decide +kernel
theorem dX12_readSign_15 : decode cX12_readSign 15 = .ok (.iconst 5, 1) := by decide +kernel
theorem dX12_readSign_16 : decode cX12_readSign 16 = .ok (.invokevirtual 204, 3) := by decide +kernel
theorem dX12_readSign_19 : decode cX12_readSign 19 = .ok (.return_, 1) := by decide +kernel
theorem dX12_readSign_20 : decode cX12_readSign 20 = .ok (.aload_n 0, 1) := by decide +kernel
theorem dX12_readSign_21 : decode cX12_readSign 21 = .ok (.bipush 20, 2) := by decide +kernel
theorem dX12_readSign_23 : decode cX12_readSign 23 = .ok (.iload_n 1, 1) := by decide +kernel
theorem dX12_readSign_24 : decode cX12_readSign 24 = .ok (.iadd, 1) := by decide +kernel
theorem dX12_readSign_25 : decode cX12_readSign 25 = .ok (.invokevirtual 275, 3) := by decide +kernel
theorem dX12_readSign_28 : decode cX12_readSign 28 = .ok (.bipush 103, 2) := by decide +kernel
theorem dX12_readSign_30 : decode cX12_readSign 30 = .ok (.iconst 2, 1) := by decide +kernel
theorem dX12_readSign_31 : decode cX12_readSign 31 = .ok (.iload_n 1, 1) := by decide +kernel
theorem dX12_readSign_32 : decode cX12_readSign 32 = .ok (.imul, 1) := by decide +kernel
theorem dX12_readSign_33 : decode cX12_readSign 33 = .ok (.iadd, 1) := by decide +kernel
theorem dX12_readSign_34 : decode cX12_readSign 34 = .ok (.istore_n 2, 1) := by decide +kernel
theorem dX12_readSign_35 : decode cX12_readSign 35 = .ok (.aload_n 0, 1) := by decide +kernel
theorem dX12_readSign_36 : decode cX12_readSign 36 = .ok (.getfield 101, 3) := by decide +kernel
theorem dX12_readSign_39 : decode cX12_readSign 39 = .ok (.iload_n 2, 1) := by decide +kernel
theorem dX12_readSign_40 : decode cX12_readSign 40 = .ok (.aload_n 0, 1) := by decide +kernel
theorem dX12_readSign_41 : decode cX12_readSign 41 = .ok (.iconst 4, 1) := by decide +kernel
theorem dX12_readSign_42 : decode cX12_readSign 42 = .ok (.iconst 0, 1) := by decide +kernel
theorem dX12_readSign_43 : decode cX12_readSign 43 = .ok (.bipush 10, 2) := by decide +kernel
theorem dX12_readSign_45 : decode cX12_readSign 45 = .ok (.invokevirtual 281, 3) := by decide +kernel
theorem dX12_readSign_48 : decode cX12_readSign 48 = .ok (.iastore, 1) := by decide +kernel
theorem dX12_readSign_49 : decode cX12_readSign 49 = .ok (.aload_n 0, 1) := by decide +kernel
theorem dX12_readSign_50 : decode cX12_readSign 50 = .ok (.iconst 5, 1) := by decide +kernel
theorem dX12_readSign_51 : decode cX12_readSign 51 = .ok (.invokevirtual 213, 3) := by decide +kernel
theorem dX12_readSign_54 : decode cX12_readSign 54 = .ok (.aload_n 0, 1) := by decide +kernel
theorem dX12_readSign_55 : decode cX12_readSign 55 = .ok (.getfield 101, 3) := by decide +kernel
theorem dX12_readSign_58 : decode cX12_readSign 58 = .ok (.iload_n 2, 1) := by decide +kernel
theorem dX12_readSign_59 : decode cX12_readSign 59 = .ok (.iconst 1, 1) := by decide +kernel
theorem dX12_readSign_60 : decode cX12_readSign 60 = .ok (.iadd, 1) := by decide +kernel
theorem dX12_readSign_61 : decode cX12_readSign 61 = .ok (.aload_n 0, 1) := by decide +kernel
theorem dX12_readSign_62 : decode cX12_readSign 62 = .ok (.getfield 251, 3) := by decide +kernel
theorem dX12_readSign_65 : decode cX12_readSign 65 = .ok (.iastore, 1) := by decide +kernel
theorem dX12_readSign_66 : decode cX12_readSign 66 = .ok (.aload_n 0, 1) := by decide +kernel
theorem dX12_readSign_67 : decode cX12_readSign 67 = .ok (.bipush 20, 2) := by decide +kernel
theorem dX12_readSign_69 : decode cX12_readSign 69 = .ok (.iload_n 1, 1) := by decide +kernel
theorem dX12_readSign_70 : decode cX12_readSign 70 = .ok (.iadd, 1) := by decide +kernel
theorem dX12_readSign_71 : decode cX12_readSign 71 = .ok (.putfield 285, 3) := by decide +kernel
theorem dX12_readSign_74 : decode cX12_readSign 74 = .ok (.aload_n 0, 1) := by decide +kernel
theorem dX12_readSign_75 : decode cX12_readSign 75 = .ok (.iconst 0, 1) := by decide +kernel
theorem dX12_readSign_76 : decode cX12_readSign 76 = .ok (.invokevirtual 288, 3) := by decide +kernel
theorem dX12_readSign_79 : decode cX12_readSign 79 = .ok (.aload_n 0, 1) := by decide +kernel
theorem dX12_readSign_80 : decode cX12_readSign 80 = .ok (.iconst 0, 1) := by decide +kernel
theorem dX12_readSign_81 : decode cX12_readSign 81 = .ok (.iconst 0, 1) := by decide +kernel
theorem dX12_readSign_82 : decode cX12_readSign 82 = .ok (.invokevirtual 291, 3) := by decide +kernel
theorem dX12_readSign_85 : decode cX12_readSign 85 = .ok (.aload_n 0, 1) := by decide +kernel
theorem dX12_readSign_86 : decode cX12_readSign 86 = .ok (.getfield 101, 3) := by decide +kernel
theorem dX12_readSign_89 : decode cX12_readSign 89 = .ok (.bipush 61, 2) := by decide +kernel
theorem dX12_readSign_91 : decode cX12_readSign 91 = .ok (.dup2, 1) := by decide +kernel
theorem dX12_readSign_92 : decode cX12_readSign 92 = .ok (.iaload, 1) := by decide +kernel
theorem dX12_readSign_93 : decode cX12_readSign 93 = .ok (.iconst 1, 1) := by decide +kernel
theorem dX12_readSign_94 : decode cX12_readSign 94 = .ok (.iadd, 1) := by decide +kernel
theorem dX12_readSign_95 : decode cX12_readSign 95 = .ok (.iastore, 1) := by decide +kernel
theorem dX12_readSign_96 : decode cX12_readSign 96 = .ok (.return_, 1) := by decide +kernel
set_option maxRecDepth 20000 in
theorem gX12_readSees_X12_toldHere : GoodIn wsX12_readSees (wsV RX12 245 RX12 yX12_toldHere wsX12_toldHere) := goodIn_r _ [4, 5, 6, 7, 8, 2, 9, 10, 11, 7, 12, 13, 1, 14, 15, 16, 17, 18, 19, 20, 21, 22, 23, 24, 25, 26, 27, 28, 29, 30, 31, 32, 33, 34, 35, 36, 37, 38, 39, 40, 41, 42, 43, 44, 45, 46, 47, 48, 49, 50, 51, 52, 53, 54, 55, 56, 57, 58, 59, 60, 61, 62, 63, 64, 65, 66, 67, 68, 69, 70, 71, 72, 73, 74, 75, 76, 77, 78, 79, 80, 81] rfl (by decide +kernel)
set_option maxRecDepth 20000 in
theorem gX12_readSees_X12_wrong : GoodIn wsX12_readSees (wsV RX12 204 RX12 yX12_wrong wsX12_wrong) := goodIn_r _ [24, 25, 26, 7, 27, 2, 28, 1, 43, 44, 45, 46, 47, 48, 49, 50, 51, 52, 53, 54, 55, 56, 57, 58, 59, 60, 61, 62, 63, 64, 65, 66, 67, 68, 69, 70, 71, 72, 73, 74, 75, 76, 77, 78, 79, 80, 81] rfl (by decide +kernel)
set_option maxRecDepth 20000 in
theorem gX12_readSees_X12_isName : GoodIn wsX12_readSees (wsV RX12 233 RX12 yX12_isName wsX12_isName) := goodIn_r _ [9, 10, 11, 7, 12, 2, 13, 1, 14, 15, 16, 7, 17, 18, 19, 20, 21, 22, 23, 43, 44, 45, 46, 47, 48, 49, 50, 51, 52, 53, 54, 55, 56, 57, 58, 59, 60, 61, 62, 63, 64, 65, 66, 67, 68, 69, 70, 71, 72, 73, 74, 75, 76, 77, 78, 79, 80, 81] rfl (by decide +kernel)
theorem dX12_readSees_0 : decode cX12_readSees 0 = .ok (.aload_n 0, 1) := by decide +kernel
theorem dX12_readSees_1 : decode cX12_readSees 1 = .ok (.dup, 1) := by decide +kernel
theorem dX12_readSees_2 : decode cX12_readSees 2 = .ok (.getfield 195, 3) := by decide +kernel
theorem dX12_readSees_5 : decode cX12_readSees 5 = .ok (.iconst 1, 1) := by decide +kernel
theorem dX12_readSees_6 : decode cX12_readSees 6 = .ok (.iadd, 1) := by decide +kernel
theorem dX12_readSees_7 : decode cX12_readSees 7 = .ok (.putfield 195, 3) := by decide +kernel
theorem dX12_readSees_10 : decode cX12_readSees 10 = .ok (.aload_n 0, 1) := by decide +kernel
theorem dX12_readSees_11 : decode cX12_readSees 11 = .ok (.iconst 0, 1) := by decide +kernel
theorem dX12_readSees_12 : decode cX12_readSees 12 = .ok (.bipush 8, 2) := by decide +kernel
theorem dX12_readSees_14 : decode cX12_readSees 14 = .ok (.invokevirtual 245, 3) := by decide +kernel
theorem dX12_readSees_17 : decode cX12_readSees 17 = .ok (.istore_n 1, 1) := by decide +kernel
theorem dX12_readSees_18 : decode cX12_readSees 18 = .ok (.bipush 63, 2) := by decide +kernel
theorem dX12_readSees_20 : decode cX12_readSees 20 = .ok (.iconst 5, 1) := by decide +kernel
theorem dX12_readSees_21 : decode cX12_readSees 21 = .ok (.iload_n 1, 1) := by decide +kernel
theorem dX12_readSees_22 : decode cX12_readSees 22 = .ok (.imul, 1) := by decide +kernel
theorem dX12_readSees_23 : decode cX12_readSees 23 = .ok (.iadd, 1) := by decide +kernel
theorem dX12_readSees_24 : decode cX12_readSees 24 = .ok (.iconst 3, 1) := by decide +kernel
theorem dX12_readSees_25 : decode cX12_readSees 25 = .ok (.iadd, 1) := by decide +kernel
theorem dX12_readSees_26 : decode cX12_readSees 26 = .ok (.istore_n 2, 1) := by decide +kernel
theorem dX12_readSees_27 : decode cX12_readSees 27 = .ok (.aload_n 0, 1) := by decide +kernel
theorem dX12_readSees_28 : decode cX12_readSees 28 = .ok (.getfield 198, 3) := by decide +kernel
theorem dX12_readSees_31 : decode cX12_readSees 31 = .ok (.ifCond .ne 17, 3) := by decide +kernel
theorem dX12_readSees_34 : decode cX12_readSees 34 = .ok (.aload_n 0, 1) := by decide +kernel
theorem dX12_readSees_35 : decode cX12_readSees 35 = .ok (.getfield 101, 3) := by decide +kernel
theorem dX12_readSees_38 : decode cX12_readSees 38 = .ok (.iload_n 2, 1) := by decide +kernel
theorem dX12_readSees_39 : decode cX12_readSees 39 = .ok (.iaload, 1) := by decide +kernel
theorem dX12_readSees_40 : decode cX12_readSees 40 = .ok (.ifCond .le 8, 3) := by decide +kernel
theorem dX12_readSees_43 : decode cX12_readSees 43 = .ok (.aload_n 0, 1) := by decide +kernel
theorem dX12_readSees_44 : decode cX12_readSees 44 = .ok (.iconst 3, 1) := by decide +kernel
theorem dX12_readSees_45 : decode cX12_readSees 45 = .ok (.invokevirtual 204, 3) := by decide +kernel
theorem dX12_readSees_48 : decode cX12_readSees 48 = .ok (.aload_n 0, 1) := by decide +kernel
theorem dX12_readSees_49 : decode cX12_readSees 49 = .ok (.dup, 1) := by decide +kernel
theorem dX12_readSees_50 : decode cX12_readSees 50 = .ok (.getfield 195, 3) := by decide +kernel
theorem dX12_readSees_53 : decode cX12_readSees 53 = .ok (.aload_n 0, 1) := by decide +kernel
theorem dX12_readSees_54 : decode cX12_readSees 54 = .ok (.getfield 198, 3) := by decide +kernel
theorem dX12_readSees_57 : decode cX12_readSees 57 = .ok (.ifCond .le 7, 3) := by decide +kernel
theorem dX12_readSees_60 : decode cX12_readSees 60 = .ok (.iconst 0, 1) := by decide +kernel
theorem dX12_readSees_61 : decode cX12_readSees 61 = .ok (.goto 4, 3) := by decide +kernel
theorem dX12_readSees_64 : decode cX12_readSees 64 = .ok (.iconst 1, 1) := by decide +kernel
theorem dX12_readSees_65 : decode cX12_readSees 65 = .ok (.iadd, 1) := by decide +kernel
theorem dX12_readSees_66 : decode cX12_readSees 66 = .ok (.putfield 195, 3) := by decide +kernel
theorem dX12_readSees_69 : decode cX12_readSees 69 = .ok (.aload_n 0, 1) := by decide +kernel
theorem dX12_readSees_70 : decode cX12_readSees 70 = .ok (.getfield 198, 3) := by decide +kernel
theorem dX12_readSees_73 : decode cX12_readSees 73 = .ok (.ifCond .ne 7, 3) := by decide +kernel
theorem dX12_readSees_76 : decode cX12_readSees 76 = .ok (.iconst 1, 1) := by decide +kernel
theorem dX12_readSees_77 : decode cX12_readSees 77 = .ok (.goto 4, 3) := by decide +kernel
theorem dX12_readSees_80 : decode cX12_readSees 80 = .ok (.iconst 0, 1) := by decide +kernel
theorem dX12_readSees_81 : decode cX12_readSees 81 = .ok (.istore_n 3, 1) := by decide +kernel
theorem dX12_readSees_82 : decode cX12_readSees 82 = .ok (.iload_n 3, 1) := by decide +kernel
theorem dX12_readSees_83 : decode cX12_readSees 83 = .ok (.ifCond .eq 79, 3) := by decide +kernel
theorem dX12_readSees_86 : decode cX12_readSees 86 = .ok (.aload_n 0, 1) := by decide +kernel
theorem dX12_readSees_87 : decode cX12_readSees 87 = .ok (.bipush 20, 2) := by decide +kernel
theorem dX12_readSees_89 : decode cX12_readSees 89 = .ok (.bipush 6, 2) := by decide +kernel
theorem dX12_readSees_91 : decode cX12_readSees 91 = .ok (.invokevirtual 245, 3) := by decide +kernel
theorem dX12_readSees_94 : decode cX12_readSees 94 = .ok (.istore 4, 2) := by decide +kernel
theorem dX12_readSees_96 : decode cX12_readSees 96 = .ok (.aload_n 0, 1) := by decide +kernel
theorem dX12_readSees_97 : decode cX12_readSees 97 = .ok (.getfield 198, 3) := by decide +kernel
theorem dX12_readSees_100 : decode cX12_readSees 100 = .ok (.ifCond .ne 23, 3) := by decide +kernel
theorem dX12_readSees_103 : decode cX12_readSees 103 = .ok (.aload_n 0, 1) := by decide +kernel
theorem dX12_readSees_104 : decode cX12_readSees 104 = .ok (.getfield 101, 3) := by decide +kernel
theorem dX12_readSees_107 : decode cX12_readSees 107 = .ok (.iload_n 2, 1) := by decide +kernel
theorem dX12_readSees_108 : decode cX12_readSees 108 = .ok (.iaload, 1) := by decide +kernel
theorem dX12_readSees_109 : decode cX12_readSees 109 = .ok (.iload 4, 2) := by decide +kernel
theorem dX12_readSees_111 : decode cX12_readSees 111 = .ok (.ishr, 1) := by decide +kernel
theorem dX12_readSees_112 : decode cX12_readSees 112 = .ok (.iconst 1, 1) := by decide +kernel
theorem dX12_readSees_113 : decode cX12_readSees 113 = .ok (.iand, 1) := by decide +kernel
theorem dX12_readSees_114 : decode cX12_readSees 114 = .ok (.iconst 1, 1) := by decide +kernel
theorem dX12_readSees_115 : decode cX12_readSees 115 = .ok (.if_icmp .ne 8, 3) := by decide +kernel
theorem dX12_readSees_118 : decode cX12_readSees 118 = .ok (.aload_n 0, 1) := by decide +kernel
theorem dX12_readSees_119 : decode cX12_readSees 119 = .ok (.iconst 3, 1) := by decide +kernel
theorem dX12_readSees_120 : decode cX12_readSees 120 = .ok (.invokevirtual 204, 3) := by decide +kernel
theorem dX12_readSees_123 : decode cX12_readSees 123 = .ok (.aload_n 0, 1) := by decide +kernel
theorem dX12_readSees_124 : decode cX12_readSees 124 = .ok (.getfield 198, 3) := by decide +kernel
theorem dX12_readSees_127 : decode cX12_readSees 127 = .ok (.ifCond .le 4, 3) := by decide +kernel
theorem dX12_readSees_130 : decode cX12_readSees 130 = .ok (.return_, 1) := by decide +kernel
theorem dX12_readSees_131 : decode cX12_readSees 131 = .ok (.aload_n 0, 1) := by decide +kernel
theorem dX12_readSees_132 : decode cX12_readSees 132 = .ok (.getfield 101, 3) := by decide +kernel
theorem dX12_readSees_135 : decode cX12_readSees 135 = .ok (.iload_n 2, 1) := by decide +kernel
theorem dX12_readSees_136 : decode cX12_readSees 136 = .ok (.dup2, 1) := by decide +kernel
theorem dX12_readSees_137 : decode cX12_readSees 137 = .ok (.iaload, 1) := by decide +kernel
theorem dX12_readSees_138 : decode cX12_readSees 138 = .ok (.iconst 1, 1) := by decide +kernel
theorem dX12_readSees_139 : decode cX12_readSees 139 = .ok (.iload 4, 2) := by decide +kernel
theorem dX12_readSees_141 : decode cX12_readSees 141 = .ok (.ishl, 1) := by decide +kernel
theorem dX12_readSees_142 : decode cX12_readSees 142 = .ok (.ior, 1) := by decide +kernel
theorem dX12_readSees_143 : decode cX12_readSees 143 = .ok (.iastore, 1) := by decide +kernel
theorem dX12_readSees_144 : decode cX12_readSees 144 = .ok (.aload_n 0, 1) := by decide +kernel
theorem dX12_readSees_145 : decode cX12_readSees 145 = .ok (.dup, 1) := by decide +kernel
theorem dX12_readSees_146 : decode cX12_readSees 146 = .ok (.getfield 195, 3) := by decide +kernel
theorem dX12_readSees_149 : decode cX12_readSees 149 = .ok (.iconst 1, 1) := by decide +kernel
theorem dX12_readSees_150 : decode cX12_readSees 150 = .ok (.iadd, 1) := by decide +kernel
theorem dX12_readSees_151 : decode cX12_readSees 151 = .ok (.putfield 195, 3) := by decide +kernel
theorem dX12_readSees_154 : decode cX12_readSees 154 = .ok (.aload_n 0, 1) := by decide +kernel
theorem dX12_readSees_155 : decode cX12_readSees 155 = .ok (.invokevirtual 233, 3) := by decide +kernel
theorem dX12_readSees_158 : decode cX12_readSees 158 = .ok (.istore_n 3, 1) := by decide +kernel
theorem dX12_readSees_159 : decode cX12_readSees 159 = .ok (.goto (-77), 3) := by decide +kernel
theorem dX12_readSees_162 : decode cX12_readSees 162 = .ok (.return_, 1) := by decide +kernel
set_option maxRecDepth 20000 in
theorem gX12_readShun_X12_takeTold : GoodIn wsX12_readShun (wsV RX12 295 RX12 yX12_takeTold wsX12_takeTold) := goodIn_r _ [4, 5, 6, 7, 8, 1, 2, 9, 10, 11, 7, 12, 13, 14, 15, 16, 17, 18, 19, 20, 21, 22, 23, 24, 25, 26, 27, 28, 29, 30, 31, 32, 33, 34, 35, 36, 37, 38, 39, 40, 41, 42, 43, 44, 45, 46, 47, 48, 49, 50, 51, 52, 53, 54, 55, 56, 57, 58, 59, 60, 61, 62, 63, 64, 65, 66, 67, 68, 69, 70, 71, 72, 73, 74, 75, 76, 77, 78, 79, 80, 81, 82, 83, 84, 85] rfl (by decide +kernel)
set_option maxRecDepth 20000 in
theorem gX12_readShun_X12_toldHere : GoodIn wsX12_readShun (wsV RX12 245 RX12 yX12_toldHere wsX12_toldHere) := goodIn_r _ [9, 10, 11, 7, 12, 2, 13, 14, 15, 7, 16, 17, 1, 18, 19, 20, 21, 22, 23, 24, 25, 26, 27, 28, 29, 30, 31, 32, 33, 34, 35, 36, 37, 38, 39, 40, 41, 42, 43, 44, 45, 46, 47, 48, 49, 50, 51, 52, 53, 54, 55, 56, 57, 58, 59, 60, 61, 62, 63, 64, 65, 66, 67, 68, 69, 70, 71, 72, 73, 74, 75, 76, 77, 78, 79, 80, 81, 82, 83, 84, 85] rfl (by decide +kernel)
set_option maxRecDepth 20000 in
theorem gX12_readShun_X12_wrong : GoodIn wsX12_readShun (wsV RX12 204 RX12 yX12_wrong wsX12_wrong) := goodIn_r _ [28, 29, 30, 7, 31, 2, 32, 1, 47, 48, 49, 50, 51, 52, 53, 54, 55, 56, 57, 58, 59, 60, 61, 62, 63, 64, 65, 66, 67, 68, 69, 70, 71, 72, 73, 74, 75, 76, 77, 78, 79, 80, 81, 82, 83, 84, 85] rfl (by decide +kernel)
theorem dX12_readShun_0 : decode cX12_readShun 0 = .ok (.aload_n 0, 1) := by decide +kernel
theorem dX12_readShun_1 : decode cX12_readShun 1 = .ok (.dup, 1) := by decide +kernel
theorem dX12_readShun_2 : decode cX12_readShun 2 = .ok (.getfield 195, 3) := by decide +kernel
theorem dX12_readShun_5 : decode cX12_readShun 5 = .ok (.iconst 1, 1) := by decide +kernel
theorem dX12_readShun_6 : decode cX12_readShun 6 = .ok (.iadd, 1) := by decide +kernel
theorem dX12_readShun_7 : decode cX12_readShun 7 = .ok (.putfield 195, 3) := by decide +kernel
theorem dX12_readShun_10 : decode cX12_readShun 10 = .ok (.aload_n 0, 1) := by decide +kernel
theorem dX12_readShun_11 : decode cX12_readShun 11 = .ok (.iconst 0, 1) := by decide +kernel
theorem dX12_readShun_12 : decode cX12_readShun 12 = .ok (.bipush 8, 2) := by decide +kernel
theorem dX12_readShun_14 : decode cX12_readShun 14 = .ok (.invokevirtual 295, 3) := by decide +kernel
theorem dX12_readShun_17 : decode cX12_readShun 17 = .ok (.istore_n 1, 1) := by decide +kernel
theorem dX12_readShun_18 : decode cX12_readShun 18 = .ok (.aload_n 0, 1) := by decide +kernel
theorem dX12_readShun_19 : decode cX12_readShun 19 = .ok (.iconst 0, 1) := by decide +kernel
theorem dX12_readShun_20 : decode cX12_readShun 20 = .ok (.bipush 8, 2) := by decide +kernel
theorem dX12_readShun_22 : decode cX12_readShun 22 = .ok (.invokevirtual 245, 3) := by decide +kernel
theorem dX12_readShun_25 : decode cX12_readShun 25 = .ok (.istore_n 2, 1) := by decide +kernel
theorem dX12_readShun_26 : decode cX12_readShun 26 = .ok (.aload_n 0, 1) := by decide +kernel
theorem dX12_readShun_27 : decode cX12_readShun 27 = .ok (.getfield 198, 3) := by decide +kernel
theorem dX12_readShun_30 : decode cX12_readShun 30 = .ok (.ifCond .ne 34, 3) := by decide +kernel
theorem dX12_readShun_33 : decode cX12_readShun 33 = .ok (.iload_n 1, 1) := by decide +kernel
theorem dX12_readShun_34 : decode cX12_readShun 34 = .ok (.iload_n 2, 1) := by decide +kernel
theorem dX12_readShun_35 : decode cX12_readShun 35 = .ok (.if_icmp .eq 24, 3) := by decide +kernel
theorem dX12_readShun_38 : decode cX12_readShun 38 = .ok (.aload_n 0, 1) := by decide +kernel
theorem dX12_readShun_39 : decode cX12_readShun 39 = .ok (.getfield 101, 3) := by decide +kernel
theorem dX12_readShun_42 : decode cX12_readShun 42 = .ok (.bipush 63, 2) := by decide +kernel
theorem dX12_readShun_44 : decode cX12_readShun 44 = .ok (.iconst 5, 1) := by decide +kernel
theorem dX12_readShun_45 : decode cX12_readShun 45 = .ok (.iload_n 1, 1) := by decide +kernel
theorem dX12_readShun_46 : decode cX12_readShun 46 = .ok (.imul, 1) := by decide +kernel
theorem dX12_readShun_47 : decode cX12_readShun 47 = .ok (.iadd, 1) := by decide +kernel
theorem dX12_readShun_48 : decode cX12_readShun 48 = .ok (.iconst 4, 1) := by decide +kernel
theorem dX12_readShun_49 : decode cX12_readShun 49 = .ok (.iadd, 1) := by decide +kernel
theorem dX12_readShun_50 : decode cX12_readShun 50 = .ok (.iaload, 1) := by decide +kernel
theorem dX12_readShun_51 : decode cX12_readShun 51 = .ok (.iload_n 2, 1) := by decide +kernel
theorem dX12_readShun_52 : decode cX12_readShun 52 = .ok (.ishr, 1) := by decide +kernel
theorem dX12_readShun_53 : decode cX12_readShun 53 = .ok (.iconst 1, 1) := by decide +kernel
theorem dX12_readShun_54 : decode cX12_readShun 54 = .ok (.iand, 1) := by decide +kernel
theorem dX12_readShun_55 : decode cX12_readShun 55 = .ok (.iconst 1, 1) := by decide +kernel
theorem dX12_readShun_56 : decode cX12_readShun 56 = .ok (.if_icmp .ne 8, 3) := by decide +kernel
theorem dX12_readShun_59 : decode cX12_readShun 59 = .ok (.aload_n 0, 1) := by decide +kernel
theorem dX12_readShun_60 : decode cX12_readShun 60 = .ok (.iconst 3, 1) := by decide +kernel
theorem dX12_readShun_61 : decode cX12_readShun 61 = .ok (.invokevirtual 204, 3) := by decide +kernel
theorem dX12_readShun_64 : decode cX12_readShun 64 = .ok (.aload_n 0, 1) := by decide +kernel
theorem dX12_readShun_65 : decode cX12_readShun 65 = .ok (.getfield 198, 3) := by decide +kernel
theorem dX12_readShun_68 : decode cX12_readShun 68 = .ok (.ifCond .ne 51, 3) := by decide +kernel
theorem dX12_readShun_71 : decode cX12_readShun 71 = .ok (.aload_n 0, 1) := by decide +kernel
theorem dX12_readShun_72 : decode cX12_readShun 72 = .ok (.dup, 1) := by decide +kernel
theorem dX12_readShun_73 : decode cX12_readShun 73 = .ok (.getfield 195, 3) := by decide +kernel
theorem dX12_readShun_76 : decode cX12_readShun 76 = .ok (.iconst 1, 1) := by decide +kernel
theorem dX12_readShun_77 : decode cX12_readShun 77 = .ok (.iadd, 1) := by decide +kernel
theorem dX12_readShun_78 : decode cX12_readShun 78 = .ok (.putfield 195, 3) := by decide +kernel
theorem dX12_readShun_81 : decode cX12_readShun 81 = .ok (.aload_n 0, 1) := by decide +kernel
theorem dX12_readShun_82 : decode cX12_readShun 82 = .ok (.getfield 101, 3) := by decide +kernel
theorem dX12_readShun_85 : decode cX12_readShun 85 = .ok (.bipush 63, 2) := by decide +kernel
theorem dX12_readShun_87 : decode cX12_readShun 87 = .ok (.iconst 5, 1) := by decide +kernel
theorem dX12_readShun_88 : decode cX12_readShun 88 = .ok (.iload_n 1, 1) := by decide +kernel
theorem dX12_readShun_89 : decode cX12_readShun 89 = .ok (.imul, 1) := by decide +kernel
theorem dX12_readShun_90 : decode cX12_readShun 90 = .ok (.iadd, 1) := by decide +kernel
theorem dX12_readShun_91 : decode cX12_readShun 91 = .ok (.iconst 4, 1) := by decide +kernel
theorem dX12_readShun_92 : decode cX12_readShun 92 = .ok (.iadd, 1) := by decide +kernel
theorem dX12_readShun_93 : decode cX12_readShun 93 = .ok (.dup2, 1) := by decide +kernel
theorem dX12_readShun_94 : decode cX12_readShun 94 = .ok (.iaload, 1) := by decide +kernel
theorem dX12_readShun_95 : decode cX12_readShun 95 = .ok (.iconst 1, 1) := by decide +kernel
theorem dX12_readShun_96 : decode cX12_readShun 96 = .ok (.iload_n 2, 1) := by decide +kernel
theorem dX12_readShun_97 : decode cX12_readShun 97 = .ok (.ishl, 1) := by decide +kernel
theorem dX12_readShun_98 : decode cX12_readShun 98 = .ok (.ior, 1) := by decide +kernel
theorem dX12_readShun_99 : decode cX12_readShun 99 = .ok (.iastore, 1) := by decide +kernel
theorem dX12_readShun_100 : decode cX12_readShun 100 = .ok (.aload_n 0, 1) := by decide +kernel
theorem dX12_readShun_101 : decode cX12_readShun 101 = .ok (.getfield 101, 3) := by decide +kernel
theorem dX12_readShun_104 : decode cX12_readShun 104 = .ok (.bipush 63, 2) := by decide +kernel
theorem dX12_readShun_106 : decode cX12_readShun 106 = .ok (.iconst 5, 1) := by decide +kernel
theorem dX12_readShun_107 : decode cX12_readShun 107 = .ok (.iload_n 2, 1) := by decide +kernel
theorem dX12_readShun_108 : decode cX12_readShun 108 = .ok (.imul, 1) := by decide +kernel
theorem dX12_readShun_109 : decode cX12_readShun 109 = .ok (.iadd, 1) := by decide +kernel
theorem dX12_readShun_110 : decode cX12_readShun 110 = .ok (.iconst 4, 1) := by decide +kernel
theorem dX12_readShun_111 : decode cX12_readShun 111 = .ok (.iadd, 1) := by decide +kernel
theorem dX12_readShun_112 : decode cX12_readShun 112 = .ok (.dup2, 1) := by decide +kernel
theorem dX12_readShun_113 : decode cX12_readShun 113 = .ok (.iaload, 1) := by decide +kernel
theorem dX12_readShun_114 : decode cX12_readShun 114 = .ok (.iconst 1, 1) := by decide +kernel
theorem dX12_readShun_115 : decode cX12_readShun 115 = .ok (.iload_n 1, 1) := by decide +kernel
theorem dX12_readShun_116 : decode cX12_readShun 116 = .ok (.ishl, 1) := by decide +kernel
theorem dX12_readShun_117 : decode cX12_readShun 117 = .ok (.ior, 1) := by decide +kernel
theorem dX12_readShun_118 : decode cX12_readShun 118 = .ok (.iastore, 1) := by decide +kernel
theorem dX12_readShun_119 : decode cX12_readShun 119 = .ok (.return_, 1) := by decide +kernel
section
variable {p : Program} {l : Launch} {e : Env} {s : State} {m : MethodId} {args : Array Value} {below : List Frame} {meth : Method} {c : Code} {D : va_G} {cy : Nat → ClassId} {ad : Nat → Nat} {A : Nat → Prop} {aM aB aO aI aN aT aC aG aR aQ aK aL aX aH aJ aP aU aE0 aE1 aE2 aE3 : Nat → Nat} {gi : Value}
abbrev rm12_readSign : Room := { frames := 42, cells := 0, slots := 0, locals := 923 }
theorem hdV12_readSign : yX12_readSign.cls = RX12 ∧ (yX12_readSign.cls ≠ "java/lang/invoke/MethodHandle" ∧ yX12_readSign.cls ≠ "java/lang/invoke/VarHandle" ∧ (parseMethodDescriptor yX12_readSign.desc).map (fun d => d.parameters.length) = some 0) := by decide +kernel
theorem hin12_readSign_12 : ∀ x ∈ u_ws RX12 TX12 39, x ∈ wsX12_readSign := fun _ h => List.mem_cons_of_mem _ (List.mem_append_right _ h)
set_option maxRecDepth 100000 in
set_option maxHeartbeats 4000000 in
theorem t12_readSign_0 (hC : Cx p s m args meth c cX12_readSign 3 wsX12_readSign RX12 none) : ∀ (SM : Ob) (res : Ob) (H : Heap) (locs : List Loc) (ls : Array Slot), f12_readSign SM = some res → GW D cy ad (w12 cy aM SM) A s H locs → lv_has ls 3 [(0, .ref (aM 0))] → W p l e rm12_readSign s m args below meth c H locs 0 0 (MQ below (QV D cy (w12 cy aM res) A) args s 0 0 A) (F0 m 0 ls []) := by
  intro SM res H locs ls hf hW hl
  unfold f12_readSign at hf
  refine lv_aload_n hC.1 hC.2.1 dX12_readSign_0 rfl (lv_at hl 0 rfl) ?_
  refine g_get hC hW hin12_readSign_12 0 rfl rfl 10 (by decide) 1 rfl rfl dX12_readSign_1 ?_
  refine lv_bipush (v := 61) hC.1 hC.2.1 dX12_readSign_4 (by decide) ?_
  obtain ⟨hi_1, hf⟩ := ck_of hf
  refine g_iald hC hW 6 rfl hi_1 dX12_readSign_6 ?_
  refine lv_topi (fun x1_2 ex1_2 => ?_)
  have hf := lt_nm hf ex1_2
  refine lv_istore_n (lv' := [(1, .int x1_2), (0, .ref (aM 0))]) hC.1 hC.2.1 dX12_readSign_7 rfl hl (by decide) rfl (fun ls hl => ?_)
  refine lv_iload_n hC.1 hC.2.1 dX12_readSign_8 rfl (lv_at hl 0 rfl) ?_
  refine lv_bipush (v := 6) hC.1 hC.2.1 dX12_readSign_9 (by decide) ?_
  refine lv_icmp_ne (tgt := 20) hC.1 hC.2.1 dX12_readSign_11 (by decide) (fun hc_3 => ?_) (fun hc_3 => ?_)
  · have hf := ite_f hf hc_3
    refine lv_aload_n hC.1 hC.2.1 dX12_readSign_20 rfl (lv_at hl 1 rfl) ?_
    refine lv_bipush (v := 20) hC.1 hC.2.1 dX12_readSign_21 (by decide) ?_
    refine lv_iload_n hC.1 hC.2.1 dX12_readSign_23 rfl (lv_at hl 0 rfl) ?_
    refine lv_iadd hC.1 hC.2.1 dX12_readSign_24 ?_
    obtain ⟨r_4, hg_5, hf⟩ := bd_of hf
    refine g_callvV hC hW (c12_readName l D cy ad aM hg_5) (cwV 1 hC.2.2.2.2.1 gX12_readSign_X12_readName rfl rfl rfl hdV12_readName ⟨Nat.le_of_ble_eq_true rfl, Nat.le_of_ble_eq_true rfl⟩) (Sub.all _ _) 0 11 rfl rfl rfl rfl hl.1 rfl (Nat.le_of_ble_eq_true rfl) dX12_readSign_25 ⟨Nat.zero_le _, Nat.zero_le _⟩ (fun H locs hW => ?_)
    refine lv_bipush (v := 103) hC.1 hC.2.1 dX12_readSign_28 (by decide) ?_
    refine lv_iconst (v := 2) hC.1 hC.2.1 dX12_readSign_30 (by decide) ?_
    refine lv_iload_n hC.1 hC.2.1 dX12_readSign_31 rfl (lv_at hl 0 rfl) ?_
    refine lv_imul hC.1 hC.2.1 dX12_readSign_32 ?_
    refine lv_iadd hC.1 hC.2.1 dX12_readSign_33 ?_
    refine lv_topi (fun x2_6 ex2_6 => ?_)
    have hf := lt_nm hf ex2_6
    refine lv_istore_n (lv' := [(2, .int x2_6), (1, .int x1_2), (0, .ref (aM 0))]) hC.1 hC.2.1 dX12_readSign_34 rfl hl (by decide) rfl (fun ls hl => ?_)
    refine lv_aload_n hC.1 hC.2.1 dX12_readSign_35 rfl (lv_at hl 2 rfl) ?_
    refine g_get hC hW hin12_readSign_12 0 rfl rfl 10 (by decide) 1 rfl rfl dX12_readSign_36 ?_
    refine lv_iload_n hC.1 hC.2.1 dX12_readSign_39 rfl (lv_at hl 0 rfl) ?_
    refine lv_aload_n hC.1 hC.2.1 dX12_readSign_40 rfl (lv_at hl 2 rfl) ?_
    refine lv_iconst (v := 4) hC.1 hC.2.1 dX12_readSign_41 (by decide) ?_
    refine lv_iconst (v := 0) hC.1 hC.2.1 dX12_readSign_42 (by decide) ?_
    refine lv_bipush (v := 10) hC.1 hC.2.1 dX12_readSign_43 (by decide) ?_
    obtain ⟨r_7, hg_8, hf⟩ := bd_of hf
    refine g_calliV hC hW (c12_takeAfter l D cy ad aM hg_8) (cwV 3 hC.2.2.2.2.1 gX12_readSign_X12_takeAfter rfl rfl rfl hdV12_takeAfter ⟨Nat.le_of_ble_eq_true rfl, Nat.le_of_ble_eq_true rfl⟩) (Sub.all _ _) 0 11 rfl rfl rfl rfl hl.1 rfl (Nat.le_of_ble_eq_true rfl) dX12_readSign_45 ⟨Nat.zero_le _, Nat.zero_le _⟩ (fun H locs hW => ?_)
    obtain ⟨hi_9, hf⟩ := ck_of hf
    obtain ⟨SM_10, eSM_10⟩ : ∃ y : Ob, y = oA (r_7.2) 10 (Int32.toNatClampNeg x2_6) (r_7.1) := ⟨_, rfl⟩
    have hf := lt_nm hf eSM_10
    refine g_iast hC hW 6 rfl hi_9 (w' := w12 cy aM SM_10) (by rw [eSM_10]; rfl) dX12_readSign_48 (fun H locs hW => ?_)
    refine lv_aload_n hC.1 hC.2.1 dX12_readSign_49 rfl (lv_at hl 2 rfl) ?_
    refine lv_iconst (v := 5) hC.1 hC.2.1 dX12_readSign_50 (by decide) ?_
    obtain ⟨r_11, hg_12, hf⟩ := bd_of hf
    refine g_callvV hC hW (c12_takeWord l D cy ad aM hg_12) (cwV 1 hC.2.2.2.2.1 gX12_readSign_X12_takeWord rfl rfl rfl hdV12_takeWord ⟨Nat.le_of_ble_eq_true rfl, Nat.le_of_ble_eq_true rfl⟩) (Sub.all _ _) 0 11 rfl rfl rfl rfl hl.1 rfl (Nat.le_of_ble_eq_true rfl) dX12_readSign_51 ⟨Nat.zero_le _, Nat.zero_le _⟩ (fun H locs hW => ?_)
    refine lv_aload_n hC.1 hC.2.1 dX12_readSign_54 rfl (lv_at hl 2 rfl) ?_
    refine g_get hC hW hin12_readSign_12 0 rfl rfl 10 (by decide) 1 rfl rfl dX12_readSign_55 ?_
    refine lv_iload_n hC.1 hC.2.1 dX12_readSign_58 rfl (lv_at hl 0 rfl) ?_
    refine lv_iconst (v := 1) hC.1 hC.2.1 dX12_readSign_59 (by decide) ?_
    refine lv_iadd hC.1 hC.2.1 dX12_readSign_60 ?_
    refine lv_aload_n hC.1 hC.2.1 dX12_readSign_61 rfl (lv_at hl 2 rfl) ?_
    refine g_get hC hW hin12_readSign_12 0 rfl rfl 13 (by decide) 2 rfl rfl dX12_readSign_62 ?_
    obtain ⟨hi_13, hf⟩ := ck_of hf
    obtain ⟨SM_14, eSM_14⟩ : ∃ y : Ob, y = oA r_11 10 (Int32.toNatClampNeg (x2_6 + 1)) (r_11.1 13) := ⟨_, rfl⟩
    have hf := lt_nm hf eSM_14
    refine g_iast hC hW 6 rfl hi_13 (w' := w12 cy aM SM_14) (by rw [eSM_14]; rfl) dX12_readSign_65 (fun H locs hW => ?_)
    refine lv_aload_n hC.1 hC.2.1 dX12_readSign_66 rfl (lv_at hl 2 rfl) ?_
    refine lv_bipush (v := 20) hC.1 hC.2.1 dX12_readSign_67 (by decide) ?_
    refine lv_iload_n hC.1 hC.2.1 dX12_readSign_69 rfl (lv_at hl 1 rfl) ?_
    refine lv_iadd hC.1 hC.2.1 dX12_readSign_70 ?_
    obtain ⟨SM_15, eSM_15⟩ : ∃ y : Ob, y = oI SM_14 21 (20 + x1_2) := ⟨_, rfl⟩
    have hf := lt_nm hf eSM_15
    refine g_put hC hW hin12_readSign_12 tyX12 tyX12_ok nmX12 0 rfl rfl 21 (by decide) 3 rfl rfl rfl rfl (Nat.le_of_ble_eq_true rfl) (w' := w12 cy aM SM_15) (by rw [eSM_15]; rfl) dX12_readSign_71 (fun H locs hW => ?_)
    refine lv_aload_n hC.1 hC.2.1 dX12_readSign_74 rfl (lv_at hl 2 rfl) ?_
    refine lv_iconst (v := 0) hC.1 hC.2.1 dX12_readSign_75 (by decide) ?_
    obtain ⟨r_16, hg_17, hf⟩ := bd_of hf
    refine g_callvV hC hW (c12_either l D cy ad aM (f12_item DP) DP (c12_item l D cy ad aM DP) hg_17) (cwV 1 hC.2.2.2.2.1 gX12_readSign_X12_either rfl rfl rfl hdV12_either ⟨Nat.le_of_ble_eq_true rfl, Nat.le_of_ble_eq_true rfl⟩) (Sub.all _ _) 0 11 rfl rfl rfl rfl hl.1 rfl (Nat.le_of_ble_eq_true rfl) dX12_readSign_76 ⟨Nat.zero_le _, Nat.zero_le _⟩ (fun H locs hW => ?_)
    refine lv_aload_n hC.1 hC.2.1 dX12_readSign_79 rfl (lv_at hl 2 rfl) ?_
    refine lv_iconst (v := 0) hC.1 hC.2.1 dX12_readSign_80 (by decide) ?_
    refine lv_iconst (v := 0) hC.1 hC.2.1 dX12_readSign_81 (by decide) ?_
    obtain ⟨r_18, hg_19, hf⟩ := bd_of hf
    refine g_callvV hC hW (c12_emit l D cy ad aM hg_19) (cwV 2 hC.2.2.2.2.1 gX12_readSign_X12_emit rfl rfl rfl hdV12_emit ⟨Nat.le_of_ble_eq_true rfl, Nat.le_of_ble_eq_true rfl⟩) (Sub.all _ _) 0 11 rfl rfl rfl rfl hl.1 rfl (Nat.le_of_ble_eq_true rfl) dX12_readSign_82 ⟨Nat.zero_le _, Nat.zero_le _⟩ (fun H locs hW => ?_)
    refine lv_aload_n hC.1 hC.2.1 dX12_readSign_85 rfl (lv_at hl 2 rfl) ?_
    refine g_get hC hW hin12_readSign_12 0 rfl rfl 10 (by decide) 1 rfl rfl dX12_readSign_86 ?_
    refine lv_bipush (v := 61) hC.1 hC.2.1 dX12_readSign_89 (by decide) ?_
    refine lv_dup2_11 hC.1 hC.2.1 dX12_readSign_91 rfl rfl ?_
    obtain ⟨hi_20, hf⟩ := ck_of hf
    refine g_iald hC hW 6 rfl hi_20 dX12_readSign_92 ?_
    refine lv_iconst (v := 1) hC.1 hC.2.1 dX12_readSign_93 (by decide) ?_
    refine lv_iadd hC.1 hC.2.1 dX12_readSign_94 ?_
    obtain ⟨hi_21, hf⟩ := ck_of hf
    obtain ⟨SM_22, eSM_22⟩ : ∃ y : Ob, y = oA r_18 10 (Int32.toNatClampNeg 61) ((r_18.2.2.1 10 (Int32.toNatClampNeg 61)) + 1) := ⟨_, rfl⟩
    have hf := lt_nm hf eSM_22
    refine g_iast hC hW 6 rfl hi_21 (w' := w12 cy aM SM_22) (by rw [eSM_22]; rfl) dX12_readSign_95 (fun H locs hW => ?_)
    obtain rfl := Option.some.inj hf
    exact g_vret hC hW dX12_readSign_96
  · have hf := ite_t hf hc_3
    refine lv_aload_n hC.1 hC.2.1 dX12_readSign_14 rfl (lv_at hl 1 rfl) ?_
    refine lv_iconst (v := 5) hC.1 hC.2.1 dX12_readSign_15 (by decide) ?_
    obtain ⟨r_23, hg_24, hf⟩ := bd_of hf
    refine g_callvV hC hW (c12_wrong l D cy ad aM hg_24) (cwV 1 hC.2.2.2.2.1 gX12_readSign_X12_wrong rfl rfl rfl hdV12_wrong ⟨Nat.le_of_ble_eq_true rfl, Nat.le_of_ble_eq_true rfl⟩) (Sub.all _ _) 0 11 rfl rfl rfl rfl hl.1 rfl (Nat.le_of_ble_eq_true rfl) dX12_readSign_16 ⟨Nat.zero_le _, Nat.zero_le _⟩ (fun H locs hW => ?_)
    obtain rfl := Option.some.inj hf
    exact g_vret hC hW dX12_readSign_19
set_option maxRecDepth 100000 in
set_option maxHeartbeats 4000000 in
theorem c12_readSign (l : Launch) (D : va_G) (cy : Nat → ClassId) (ad : Nat → Nat) (aM : Nat → Nat) {SM : Ob} {res : Ob} (h : f12_readSign SM = some res) : GCv l yX12_readSign wsX12_readSign rm12_readSign [.ref (aM 0)] D cy ad (w12 cy aM SM) (w12 cy aM res) := fun sz => GC.start (own := RX12) (Qc := fun A => QV D cy (w12 cy aM res) A) sz (by decide) rfl rfl (Nat.le_of_ble_eq_true rfl) (fun p e s m below meth c A ls hC hW hl => t12_readSign_0 hC _ _ _ _ _ h hW (lv_sub hl [0] rfl))
abbrev rm12_readSees : Room := { frames := 4, cells := 0, slots := 0, locals := 88 }
theorem hdV12_readSees : yX12_readSees.cls = RX12 ∧ (yX12_readSees.cls ≠ "java/lang/invoke/MethodHandle" ∧ yX12_readSees.cls ≠ "java/lang/invoke/VarHandle" ∧ (parseMethodDescriptor yX12_readSees.desc).map (fun d => d.parameters.length) = some 0) := by decide +kernel
theorem hin12_readSees_12 : ∀ x ∈ u_ws RX12 TX12 39, x ∈ wsX12_readSees := fun _ h => List.mem_cons_of_mem _ (List.mem_append_right _ h)
set_option maxRecDepth 100000 in
set_option maxHeartbeats 4000000 in
theorem t12_readSees_123 (hC : Cx p s m args meth c cX12_readSees 5 wsX12_readSees RX12 none) {k82 : Int32 → Int32 → Ob → Option (Ob)} (hk82 : ∀ (x2 : Int32) (x3 : Int32) (SM : Ob) (res : Ob) (H : Heap) (locs : List Loc) (ls : Array Slot), k82 x2 x3 SM = some res → GW D cy ad (w12 cy aM SM) A s H locs → lv_has ls 5 [(0, .ref (aM 0)), (2, .int x2), (3, .int x3)] → W p l e rm12_readSees s m args below meth c H locs 0 0 (MQ below (QV D cy (w12 cy aM res) A) args s 0 0 A) (F0 m 82 ls [])) : ∀ (x2 : Int32) (x4 : Int32) (SM : Ob) (res : Ob) (H : Heap) (locs : List Loc) (ls : Array Slot), f12_readSees_123 k82 x2 x4 SM = some res → GW D cy ad (w12 cy aM SM) A s H locs → lv_has ls 5 [(0, .ref (aM 0)), (2, .int x2), (4, .int x4)] → W p l e rm12_readSees s m args below meth c H locs 0 0 (MQ below (QV D cy (w12 cy aM res) A) args s 0 0 A) (F0 m 123 ls []) := by
  intro x2 x4 SM res H locs ls hf hW hl
  unfold f12_readSees_123 at hf
  refine lv_aload_n hC.1 hC.2.1 dX12_readSees_123 rfl (lv_at hl 0 rfl) ?_
  refine g_get hC hW hin12_readSees_12 0 rfl rfl 8 (by decide) 2 rfl rfl dX12_readSees_124 ?_
  refine lv_if_le (tgt := 131) hC.1 hC.2.1 dX12_readSees_127 (by decide) (fun hc_1 => ?_) (fun hc_1 => ?_)
  · have hf := ite_t hf hc_1
    refine lv_aload_n hC.1 hC.2.1 dX12_readSees_131 rfl (lv_at hl 0 rfl) ?_
    refine g_get hC hW hin12_readSees_12 0 rfl rfl 10 (by decide) 3 rfl rfl dX12_readSees_132 ?_
    refine lv_iload_n hC.1 hC.2.1 dX12_readSees_135 rfl (lv_at hl 1 rfl) ?_
    refine lv_dup2_11 hC.1 hC.2.1 dX12_readSees_136 rfl rfl ?_
    obtain ⟨hi_2, hf⟩ := ck_of hf
    refine g_iald hC hW 6 rfl hi_2 dX12_readSees_137 ?_
    refine lv_iconst (v := 1) hC.1 hC.2.1 dX12_readSees_138 (by decide) ?_
    refine lv_iload hC.1 hC.2.1 dX12_readSees_139 (lv_at hl 2 rfl) ?_
    refine lv_ishl hC.1 hC.2.1 dX12_readSees_141 ?_
    refine lv_ior hC.1 hC.2.1 dX12_readSees_142 ?_
    obtain ⟨hi_3, hf⟩ := ck_of hf
    obtain ⟨SM_4, eSM_4⟩ : ∃ y : Ob, y = oA SM 10 (Int32.toNatClampNeg x2) ((SM.2.2.1 10 (Int32.toNatClampNeg x2)) ||| (1 <<< (x4 &&& 31))) := ⟨_, rfl⟩
    have hf := lt_nm hf eSM_4
    refine g_iast hC hW 6 rfl hi_3 (w' := w12 cy aM SM_4) (by rw [eSM_4]; rfl) dX12_readSees_143 (fun H locs hW => ?_)
    refine lv_aload_n hC.1 hC.2.1 dX12_readSees_144 rfl (lv_at hl 0 rfl) ?_
    refine lv_dup hC.1 hC.2.1 dX12_readSees_145 rfl ?_
    refine g_get hC hW hin12_readSees_12 0 rfl rfl 7 (by decide) 1 rfl rfl dX12_readSees_146 ?_
    refine lv_iconst (v := 1) hC.1 hC.2.1 dX12_readSees_149 (by decide) ?_
    refine lv_iadd hC.1 hC.2.1 dX12_readSees_150 ?_
    obtain ⟨SM_5, eSM_5⟩ : ∃ y : Ob, y = oI SM_4 7 ((SM_4.1 7) + 1) := ⟨_, rfl⟩
    have hf := lt_nm hf eSM_5
    refine g_put hC hW hin12_readSees_12 tyX12 tyX12_ok nmX12 0 rfl rfl 7 (by decide) 1 rfl rfl rfl rfl (Nat.le_of_ble_eq_true rfl) (w' := w12 cy aM SM_5) (by rw [eSM_5]; rfl) dX12_readSees_151 (fun H locs hW => ?_)
    refine lv_aload_n hC.1 hC.2.1 dX12_readSees_154 rfl (lv_at hl 0 rfl) ?_
    obtain ⟨r_6, hg_7, hf⟩ := bd_of hf
    refine g_calliV hC hW (c12_isName l D cy ad aM hg_7) (cwV 0 hC.2.2.2.2.1 gX12_readSees_X12_isName rfl rfl rfl hdV12_isName ⟨Nat.le_of_ble_eq_true rfl, Nat.le_of_ble_eq_true rfl⟩) (Sub.all _ _) 0 11 rfl rfl rfl rfl hl.1 rfl (Nat.le_of_ble_eq_true rfl) dX12_readSees_155 ⟨Nat.zero_le _, Nat.zero_le _⟩ (fun H locs hW => ?_)
    refine lv_istore_n (lv' := [(3, .int r_6), (0, .ref (aM 0)), (2, .int x2), (4, .int x4)]) hC.1 hC.2.1 dX12_readSees_158 rfl hl (by decide) rfl (fun ls hl => ?_)
    refine lv_goto (tgt := 82) hC.1 hC.2.1 dX12_readSees_159 (by decide) ?_
    exact hk82 _ _ _ _ _ _ _ hf hW (lv_sub hl [1, 2, 0] rfl)
  · have hf := ite_f hf hc_1
    obtain rfl := Option.some.inj hf
    exact g_vret hC hW dX12_readSees_130
set_option maxRecDepth 100000 in
set_option maxHeartbeats 4000000 in
theorem t12_readSees_82 (hC : Cx p s m args meth c cX12_readSees 5 wsX12_readSees RX12 none) : ∀ n : Nat, ∀ (x2 : Int32) (x3 : Int32) (SM : Ob) (res : Ob) (H : Heap) (locs : List Loc) (ls : Array Slot), f12_readSees_82 n x2 x3 SM = some res → GW D cy ad (w12 cy aM SM) A s H locs → lv_has ls 5 [(0, .ref (aM 0)), (2, .int x2), (3, .int x3)] → W p l e rm12_readSees s m args below meth c H locs 0 0 (MQ below (QV D cy (w12 cy aM res) A) args s 0 0 A) (F0 m 82 ls []) := by
  intro n
  induction n with
  | zero =>
    intro _ _ _ _ _ _ _ hf _ _
    exact nomatch (show (none : Option (Ob)) = some _ from hf)
  | succ n ih =>
    intro x2 x3 SM res H locs ls hf hW hl
    rw [f12_readSees_82] at hf
    refine lv_iload_n hC.1 hC.2.1 dX12_readSees_82 rfl (lv_at hl 2 rfl) ?_
    refine lv_if_eq (tgt := 162) hC.1 hC.2.1 dX12_readSees_83 (by decide) (fun hc_1 => ?_) (fun hc_1 => ?_)
    · have hf := ite_t hf hc_1
      obtain rfl := Option.some.inj hf
      exact g_vret hC hW dX12_readSees_162
    · have hf := ite_f hf hc_1
      refine lv_aload_n hC.1 hC.2.1 dX12_readSees_86 rfl (lv_at hl 0 rfl) ?_
      refine lv_bipush (v := 20) hC.1 hC.2.1 dX12_readSees_87 (by decide) ?_
      refine lv_bipush (v := 6) hC.1 hC.2.1 dX12_readSees_89 (by decide) ?_
      obtain ⟨r_2, hg_3, hf⟩ := bd_of hf
      refine g_calliV hC hW (c12_toldHere l D cy ad aM hg_3) (cwV 2 hC.2.2.2.2.1 gX12_readSees_X12_toldHere rfl rfl rfl hdV12_toldHere ⟨Nat.le_of_ble_eq_true rfl, Nat.le_of_ble_eq_true rfl⟩) (Sub.all _ _) 0 11 rfl rfl rfl rfl hl.1 rfl (Nat.le_of_ble_eq_true rfl) dX12_readSees_91 ⟨Nat.zero_le _, Nat.zero_le _⟩ (fun H locs hW => ?_)
      refine lv_topi (fun x4_4 ex4_4 => ?_)
      have hf := lt_nm hf ex4_4
      refine lv_istore (lv' := [(4, .int x4_4), (0, .ref (aM 0)), (2, .int x2), (3, .int x3)]) hC.1 hC.2.1 dX12_readSees_94 hl (by decide) rfl (fun ls hl => ?_)
      refine lv_aload_n hC.1 hC.2.1 dX12_readSees_96 rfl (lv_at hl 1 rfl) ?_
      refine g_get hC hW hin12_readSees_12 0 rfl rfl 8 (by decide) 2 rfl rfl dX12_readSees_97 ?_
      refine lv_if_ne (tgt := 123) hC.1 hC.2.1 dX12_readSees_100 (by decide) (fun hc_5 => ?_) (fun hc_5 => ?_)
      · have hf := ite_f hf hc_5
        exact t12_readSees_123 hC ih  _ _ _ _ _ _ _ hf hW (lv_sub hl [1, 2, 0] rfl)
      · have hf := ite_t hf hc_5
        refine lv_aload_n hC.1 hC.2.1 dX12_readSees_103 rfl (lv_at hl 1 rfl) ?_
        refine g_get hC hW hin12_readSees_12 0 rfl rfl 10 (by decide) 3 rfl rfl dX12_readSees_104 ?_
        refine lv_iload_n hC.1 hC.2.1 dX12_readSees_107 rfl (lv_at hl 2 rfl) ?_
        obtain ⟨hi_6, hf⟩ := ck_of hf
        refine g_iald hC hW 6 rfl hi_6 dX12_readSees_108 ?_
        refine lv_iload hC.1 hC.2.1 dX12_readSees_109 (lv_at hl 0 rfl) ?_
        refine lv_ishr hC.1 hC.2.1 dX12_readSees_111 ?_
        refine lv_iconst (v := 1) hC.1 hC.2.1 dX12_readSees_112 (by decide) ?_
        refine lv_iand hC.1 hC.2.1 dX12_readSees_113 ?_
        refine lv_iconst (v := 1) hC.1 hC.2.1 dX12_readSees_114 (by decide) ?_
        refine lv_icmp_ne (tgt := 123) hC.1 hC.2.1 dX12_readSees_115 (by decide) (fun hc_7 => ?_) (fun hc_7 => ?_)
        · have hf := ite_f hf hc_7
          exact t12_readSees_123 hC ih  _ _ _ _ _ _ _ hf hW (lv_sub hl [1, 2, 0] rfl)
        · have hf := ite_t hf hc_7
          refine lv_aload_n hC.1 hC.2.1 dX12_readSees_118 rfl (lv_at hl 1 rfl) ?_
          refine lv_iconst (v := 3) hC.1 hC.2.1 dX12_readSees_119 (by decide) ?_
          obtain ⟨r_8, hg_9, hf⟩ := bd_of hf
          refine g_callvV hC hW (c12_wrong l D cy ad aM hg_9) (cwV 1 hC.2.2.2.2.1 gX12_readSees_X12_wrong rfl rfl rfl hdV12_wrong ⟨Nat.le_of_ble_eq_true rfl, Nat.le_of_ble_eq_true rfl⟩) (Sub.all _ _) 0 11 rfl rfl rfl rfl hl.1 rfl (Nat.le_of_ble_eq_true rfl) dX12_readSees_120 ⟨Nat.zero_le _, Nat.zero_le _⟩ (fun H locs hW => ?_)
          exact t12_readSees_123 hC ih  _ _ _ _ _ _ _ hf hW (lv_sub hl [1, 2, 0] rfl)
set_option maxRecDepth 100000 in
set_option maxHeartbeats 4000000 in
theorem t12_readSees_81 (hC : Cx p s m args meth c cX12_readSees 5 wsX12_readSees RX12 none) : ∀ (x2 : Int32) (z0 : Int32) (SM : Ob) (res : Ob) (H : Heap) (locs : List Loc) (ls : Array Slot), f12_readSees_81 x2 z0 SM = some res → GW D cy ad (w12 cy aM SM) A s H locs → lv_has ls 5 [(0, .ref (aM 0)), (2, .int x2)] → W p l e rm12_readSees s m args below meth c H locs 0 0 (MQ below (QV D cy (w12 cy aM res) A) args s 0 0 A) (F0 m 81 ls [.int z0]) := by
  intro x2 z0 SM res H locs ls hf hW hl
  unfold f12_readSees_81 at hf
  refine lv_istore_n (lv' := [(3, .int z0), (0, .ref (aM 0)), (2, .int x2)]) hC.1 hC.2.1 dX12_readSees_81 rfl hl (by decide) rfl (fun ls hl => ?_)
  exact t12_readSees_82 hC _ _ _ _ _ _ _ _ hf hW (lv_sub hl [1, 2, 0] rfl)
set_option maxRecDepth 100000 in
set_option maxHeartbeats 4000000 in
theorem t12_readSees_65 (hC : Cx p s m args meth c cX12_readSees 5 wsX12_readSees RX12 none) : ∀ (x2 : Int32) (z1 : Int32) (z2 : Int32) (SM : Ob) (res : Ob) (H : Heap) (locs : List Loc) (ls : Array Slot), f12_readSees_65 x2 z1 z2 SM = some res → GW D cy ad (w12 cy aM SM) A s H locs → lv_has ls 5 [(0, .ref (aM 0)), (2, .int x2)] → W p l e rm12_readSees s m args below meth c H locs 0 0 (MQ below (QV D cy (w12 cy aM res) A) args s 0 0 A) (F0 m 65 ls [.int z2, .int z1, .ref (aM 0)]) := by
  intro x2 z1 z2 SM res H locs ls hf hW hl
  unfold f12_readSees_65 at hf
  refine lv_iadd hC.1 hC.2.1 dX12_readSees_65 ?_
  obtain ⟨SM_1, eSM_1⟩ : ∃ y : Ob, y = oI SM 7 (z1 + z2) := ⟨_, rfl⟩
  have hf := lt_nm hf eSM_1
  refine g_put hC hW hin12_readSees_12 tyX12 tyX12_ok nmX12 0 rfl rfl 7 (by decide) 1 rfl rfl rfl rfl (Nat.le_of_ble_eq_true rfl) (w' := w12 cy aM SM_1) (by rw [eSM_1]; rfl) dX12_readSees_66 (fun H locs hW => ?_)
  refine lv_aload_n hC.1 hC.2.1 dX12_readSees_69 rfl (lv_at hl 0 rfl) ?_
  refine g_get hC hW hin12_readSees_12 0 rfl rfl 8 (by decide) 2 rfl rfl dX12_readSees_70 ?_
  refine lv_if_ne (tgt := 80) hC.1 hC.2.1 dX12_readSees_73 (by decide) (fun hc_2 => ?_) (fun hc_2 => ?_)
  · have hf := ite_f hf hc_2
    refine lv_iconst (v := 0) hC.1 hC.2.1 dX12_readSees_80 (by decide) ?_
    exact t12_readSees_81 hC  _ _ _ _ _ _ _ hf hW (lv_sub hl [0, 1] rfl)
  · have hf := ite_t hf hc_2
    refine lv_iconst (v := 1) hC.1 hC.2.1 dX12_readSees_76 (by decide) ?_
    refine lv_goto (tgt := 81) hC.1 hC.2.1 dX12_readSees_77 (by decide) ?_
    exact t12_readSees_81 hC  _ _ _ _ _ _ _ hf hW (lv_sub hl [0, 1] rfl)
set_option maxRecDepth 100000 in
set_option maxHeartbeats 4000000 in
theorem t12_readSees_48 (hC : Cx p s m args meth c cX12_readSees 5 wsX12_readSees RX12 none) : ∀ (x2 : Int32) (SM : Ob) (res : Ob) (H : Heap) (locs : List Loc) (ls : Array Slot), f12_readSees_48 x2 SM = some res → GW D cy ad (w12 cy aM SM) A s H locs → lv_has ls 5 [(0, .ref (aM 0)), (2, .int x2)] → W p l e rm12_readSees s m args below meth c H locs 0 0 (MQ below (QV D cy (w12 cy aM res) A) args s 0 0 A) (F0 m 48 ls []) := by
  intro x2 SM res H locs ls hf hW hl
  unfold f12_readSees_48 at hf
  refine lv_aload_n hC.1 hC.2.1 dX12_readSees_48 rfl (lv_at hl 0 rfl) ?_
  refine lv_dup hC.1 hC.2.1 dX12_readSees_49 rfl ?_
  refine g_get hC hW hin12_readSees_12 0 rfl rfl 7 (by decide) 1 rfl rfl dX12_readSees_50 ?_
  refine lv_aload_n hC.1 hC.2.1 dX12_readSees_53 rfl (lv_at hl 0 rfl) ?_
  refine g_get hC hW hin12_readSees_12 0 rfl rfl 8 (by decide) 2 rfl rfl dX12_readSees_54 ?_
  refine lv_if_le (tgt := 64) hC.1 hC.2.1 dX12_readSees_57 (by decide) (fun hc_1 => ?_) (fun hc_1 => ?_)
  · have hf := ite_t hf hc_1
    refine lv_iconst (v := 1) hC.1 hC.2.1 dX12_readSees_64 (by decide) ?_
    exact t12_readSees_65 hC  _ _ _ _ _ _ _ _ hf hW (lv_sub hl [0, 1] rfl)
  · have hf := ite_f hf hc_1
    refine lv_iconst (v := 0) hC.1 hC.2.1 dX12_readSees_60 (by decide) ?_
    refine lv_goto (tgt := 65) hC.1 hC.2.1 dX12_readSees_61 (by decide) ?_
    exact t12_readSees_65 hC  _ _ _ _ _ _ _ _ hf hW (lv_sub hl [0, 1] rfl)
set_option maxRecDepth 100000 in
set_option maxHeartbeats 4000000 in
theorem t12_readSees_0 (hC : Cx p s m args meth c cX12_readSees 5 wsX12_readSees RX12 none) : ∀ (SM : Ob) (res : Ob) (H : Heap) (locs : List Loc) (ls : Array Slot), f12_readSees SM = some res → GW D cy ad (w12 cy aM SM) A s H locs → lv_has ls 5 [(0, .ref (aM 0))] → W p l e rm12_readSees s m args below meth c H locs 0 0 (MQ below (QV D cy (w12 cy aM res) A) args s 0 0 A) (F0 m 0 ls []) := by
  intro SM res H locs ls hf hW hl
  unfold f12_readSees at hf
  refine lv_aload_n hC.1 hC.2.1 dX12_readSees_0 rfl (lv_at hl 0 rfl) ?_
  refine lv_dup hC.1 hC.2.1 dX12_readSees_1 rfl ?_
  refine g_get hC hW hin12_readSees_12 0 rfl rfl 7 (by decide) 1 rfl rfl dX12_readSees_2 ?_
  refine lv_iconst (v := 1) hC.1 hC.2.1 dX12_readSees_5 (by decide) ?_
  refine lv_iadd hC.1 hC.2.1 dX12_readSees_6 ?_
  obtain ⟨SM_1, eSM_1⟩ : ∃ y : Ob, y = oI SM 7 ((SM.1 7) + 1) := ⟨_, rfl⟩
  have hf := lt_nm hf eSM_1
  refine g_put hC hW hin12_readSees_12 tyX12 tyX12_ok nmX12 0 rfl rfl 7 (by decide) 1 rfl rfl rfl rfl (Nat.le_of_ble_eq_true rfl) (w' := w12 cy aM SM_1) (by rw [eSM_1]; rfl) dX12_readSees_7 (fun H locs hW => ?_)
  refine lv_aload_n hC.1 hC.2.1 dX12_readSees_10 rfl (lv_at hl 0 rfl) ?_
  refine lv_iconst (v := 0) hC.1 hC.2.1 dX12_readSees_11 (by decide) ?_
  refine lv_bipush (v := 8) hC.1 hC.2.1 dX12_readSees_12 (by decide) ?_
  obtain ⟨r_2, hg_3, hf⟩ := bd_of hf
  refine g_calliV hC hW (c12_toldHere l D cy ad aM hg_3) (cwV 2 hC.2.2.2.2.1 gX12_readSees_X12_toldHere rfl rfl rfl hdV12_toldHere ⟨Nat.le_of_ble_eq_true rfl, Nat.le_of_ble_eq_true rfl⟩) (Sub.all _ _) 0 11 rfl rfl rfl rfl hl.1 rfl (Nat.le_of_ble_eq_true rfl) dX12_readSees_14 ⟨Nat.zero_le _, Nat.zero_le _⟩ (fun H locs hW => ?_)
  refine lv_topi (fun x1_4 ex1_4 => ?_)
  have hf := lt_nm hf ex1_4
  refine lv_istore_n (lv' := [(1, .int x1_4), (0, .ref (aM 0))]) hC.1 hC.2.1 dX12_readSees_17 rfl hl (by decide) rfl (fun ls hl => ?_)
  refine lv_bipush (v := 63) hC.1 hC.2.1 dX12_readSees_18 (by decide) ?_
  refine lv_iconst (v := 5) hC.1 hC.2.1 dX12_readSees_20 (by decide) ?_
  refine lv_iload_n hC.1 hC.2.1 dX12_readSees_21 rfl (lv_at hl 0 rfl) ?_
  refine lv_imul hC.1 hC.2.1 dX12_readSees_22 ?_
  refine lv_iadd hC.1 hC.2.1 dX12_readSees_23 ?_
  refine lv_iconst (v := 3) hC.1 hC.2.1 dX12_readSees_24 (by decide) ?_
  refine lv_iadd hC.1 hC.2.1 dX12_readSees_25 ?_
  refine lv_topi (fun x2_5 ex2_5 => ?_)
  have hf := lt_nm hf ex2_5
  refine lv_istore_n (lv' := [(2, .int x2_5), (1, .int x1_4), (0, .ref (aM 0))]) hC.1 hC.2.1 dX12_readSees_26 rfl hl (by decide) rfl (fun ls hl => ?_)
  refine lv_aload_n hC.1 hC.2.1 dX12_readSees_27 rfl (lv_at hl 2 rfl) ?_
  refine g_get hC hW hin12_readSees_12 0 rfl rfl 8 (by decide) 2 rfl rfl dX12_readSees_28 ?_
  refine lv_if_ne (tgt := 48) hC.1 hC.2.1 dX12_readSees_31 (by decide) (fun hc_6 => ?_) (fun hc_6 => ?_)
  · have hf := ite_f hf hc_6
    exact t12_readSees_48 hC  _ _ _ _ _ _ hf hW (lv_sub hl [2, 0] rfl)
  · have hf := ite_t hf hc_6
    refine lv_aload_n hC.1 hC.2.1 dX12_readSees_34 rfl (lv_at hl 2 rfl) ?_
    refine g_get hC hW hin12_readSees_12 0 rfl rfl 10 (by decide) 3 rfl rfl dX12_readSees_35 ?_
    refine lv_iload_n hC.1 hC.2.1 dX12_readSees_38 rfl (lv_at hl 0 rfl) ?_
    obtain ⟨hi_7, hf⟩ := ck_of hf
    refine g_iald hC hW 6 rfl hi_7 dX12_readSees_39 ?_
    refine lv_if_le (tgt := 48) hC.1 hC.2.1 dX12_readSees_40 (by decide) (fun hc_8 => ?_) (fun hc_8 => ?_)
    · have hf := ite_t hf hc_8
      exact t12_readSees_48 hC  _ _ _ _ _ _ hf hW (lv_sub hl [2, 0] rfl)
    · have hf := ite_f hf hc_8
      refine lv_aload_n hC.1 hC.2.1 dX12_readSees_43 rfl (lv_at hl 2 rfl) ?_
      refine lv_iconst (v := 3) hC.1 hC.2.1 dX12_readSees_44 (by decide) ?_
      obtain ⟨r_9, hg_10, hf⟩ := bd_of hf
      refine g_callvV hC hW (c12_wrong l D cy ad aM hg_10) (cwV 1 hC.2.2.2.2.1 gX12_readSees_X12_wrong rfl rfl rfl hdV12_wrong ⟨Nat.le_of_ble_eq_true rfl, Nat.le_of_ble_eq_true rfl⟩) (Sub.all _ _) 0 11 rfl rfl rfl rfl hl.1 rfl (Nat.le_of_ble_eq_true rfl) dX12_readSees_45 ⟨Nat.zero_le _, Nat.zero_le _⟩ (fun H locs hW => ?_)
      exact t12_readSees_48 hC  _ _ _ _ _ _ hf hW (lv_sub hl [2, 0] rfl)
set_option maxRecDepth 100000 in
set_option maxHeartbeats 4000000 in
theorem c12_readSees (l : Launch) (D : va_G) (cy : Nat → ClassId) (ad : Nat → Nat) (aM : Nat → Nat) {SM : Ob} {res : Ob} (h : f12_readSees SM = some res) : GCv l yX12_readSees wsX12_readSees rm12_readSees [.ref (aM 0)] D cy ad (w12 cy aM SM) (w12 cy aM res) := fun sz => GC.start (own := RX12) (Qc := fun A => QV D cy (w12 cy aM res) A) sz (by decide) rfl rfl (Nat.le_of_ble_eq_true rfl) (fun p e s m below meth c A ls hC hW hl => t12_readSees_0 hC _ _ _ _ _ h hW (lv_sub hl [0] rfl))
abbrev rm12_readShun : Room := { frames := 5, cells := 0, slots := 0, locals := 111 }
theorem hdV12_readShun : yX12_readShun.cls = RX12 ∧ (yX12_readShun.cls ≠ "java/lang/invoke/MethodHandle" ∧ yX12_readShun.cls ≠ "java/lang/invoke/VarHandle" ∧ (parseMethodDescriptor yX12_readShun.desc).map (fun d => d.parameters.length) = some 0) := by decide +kernel
theorem hin12_readShun_12 : ∀ x ∈ u_ws RX12 TX12 39, x ∈ wsX12_readShun := fun _ h => List.mem_cons_of_mem _ (List.mem_append_right _ h)
set_option maxRecDepth 100000 in
set_option maxHeartbeats 4000000 in
theorem t12_readShun_119 (hC : Cx p s m args meth c cX12_readShun 3 wsX12_readShun RX12 none) : ∀ (SM : Ob) (res : Ob) (H : Heap) (locs : List Loc) (ls : Array Slot), f12_readShun_119 SM = some res → GW D cy ad (w12 cy aM SM) A s H locs → lv_has ls 3 [] → W p l e rm12_readShun s m args below meth c H locs 0 0 (MQ below (QV D cy (w12 cy aM res) A) args s 0 0 A) (F0 m 119 ls []) := by
  intro SM res H locs ls hf hW hl
  unfold f12_readShun_119 at hf
  obtain rfl := Option.some.inj hf
  exact g_vret hC hW dX12_readShun_119
set_option maxRecDepth 100000 in
set_option maxHeartbeats 4000000 in
theorem t12_readShun_64 (hC : Cx p s m args meth c cX12_readShun 3 wsX12_readShun RX12 none) : ∀ (x1 : Int32) (x2 : Int32) (SM : Ob) (res : Ob) (H : Heap) (locs : List Loc) (ls : Array Slot), f12_readShun_64 x1 x2 SM = some res → GW D cy ad (w12 cy aM SM) A s H locs → lv_has ls 3 [(0, .ref (aM 0)), (1, .int x1), (2, .int x2)] → W p l e rm12_readShun s m args below meth c H locs 0 0 (MQ below (QV D cy (w12 cy aM res) A) args s 0 0 A) (F0 m 64 ls []) := by
  intro x1 x2 SM res H locs ls hf hW hl
  unfold f12_readShun_64 at hf
  refine lv_aload_n hC.1 hC.2.1 dX12_readShun_64 rfl (lv_at hl 0 rfl) ?_
  refine g_get hC hW hin12_readShun_12 0 rfl rfl 8 (by decide) 2 rfl rfl dX12_readShun_65 ?_
  refine lv_if_ne (tgt := 119) hC.1 hC.2.1 dX12_readShun_68 (by decide) (fun hc_1 => ?_) (fun hc_1 => ?_)
  · have hf := ite_f hf hc_1
    exact t12_readShun_119 hC  _ _ _ _ _ hf hW (lv_sub hl [] rfl)
  · have hf := ite_t hf hc_1
    refine lv_aload_n hC.1 hC.2.1 dX12_readShun_71 rfl (lv_at hl 0 rfl) ?_
    refine lv_dup hC.1 hC.2.1 dX12_readShun_72 rfl ?_
    refine g_get hC hW hin12_readShun_12 0 rfl rfl 7 (by decide) 1 rfl rfl dX12_readShun_73 ?_
    refine lv_iconst (v := 1) hC.1 hC.2.1 dX12_readShun_76 (by decide) ?_
    refine lv_iadd hC.1 hC.2.1 dX12_readShun_77 ?_
    obtain ⟨SM_2, eSM_2⟩ : ∃ y : Ob, y = oI SM 7 ((SM.1 7) + 1) := ⟨_, rfl⟩
    have hf := lt_nm hf eSM_2
    refine g_put hC hW hin12_readShun_12 tyX12 tyX12_ok nmX12 0 rfl rfl 7 (by decide) 1 rfl rfl rfl rfl (Nat.le_of_ble_eq_true rfl) (w' := w12 cy aM SM_2) (by rw [eSM_2]; rfl) dX12_readShun_78 (fun H locs hW => ?_)
    refine lv_aload_n hC.1 hC.2.1 dX12_readShun_81 rfl (lv_at hl 0 rfl) ?_
    refine g_get hC hW hin12_readShun_12 0 rfl rfl 10 (by decide) 3 rfl rfl dX12_readShun_82 ?_
    refine lv_bipush (v := 63) hC.1 hC.2.1 dX12_readShun_85 (by decide) ?_
    refine lv_iconst (v := 5) hC.1 hC.2.1 dX12_readShun_87 (by decide) ?_
    refine lv_iload_n hC.1 hC.2.1 dX12_readShun_88 rfl (lv_at hl 1 rfl) ?_
    refine lv_imul hC.1 hC.2.1 dX12_readShun_89 ?_
    refine lv_iadd hC.1 hC.2.1 dX12_readShun_90 ?_
    refine lv_iconst (v := 4) hC.1 hC.2.1 dX12_readShun_91 (by decide) ?_
    refine lv_iadd hC.1 hC.2.1 dX12_readShun_92 ?_
    refine lv_dup2_11 hC.1 hC.2.1 dX12_readShun_93 rfl rfl ?_
    obtain ⟨hi_3, hf⟩ := ck_of hf
    refine g_iald hC hW 6 rfl hi_3 dX12_readShun_94 ?_
    refine lv_iconst (v := 1) hC.1 hC.2.1 dX12_readShun_95 (by decide) ?_
    refine lv_iload_n hC.1 hC.2.1 dX12_readShun_96 rfl (lv_at hl 2 rfl) ?_
    refine lv_ishl hC.1 hC.2.1 dX12_readShun_97 ?_
    refine lv_ior hC.1 hC.2.1 dX12_readShun_98 ?_
    obtain ⟨hi_4, hf⟩ := ck_of hf
    obtain ⟨SM_5, eSM_5⟩ : ∃ y : Ob, y = oA SM_2 10 (Int32.toNatClampNeg ((63 + (5 * x1)) + 4)) ((SM_2.2.2.1 10 (Int32.toNatClampNeg ((63 + (5 * x1)) + 4))) ||| (1 <<< (x2 &&& 31))) := ⟨_, rfl⟩
    have hf := lt_nm hf eSM_5
    refine g_iast hC hW 6 rfl hi_4 (w' := w12 cy aM SM_5) (by rw [eSM_5]; rfl) dX12_readShun_99 (fun H locs hW => ?_)
    refine lv_aload_n hC.1 hC.2.1 dX12_readShun_100 rfl (lv_at hl 0 rfl) ?_
    refine g_get hC hW hin12_readShun_12 0 rfl rfl 10 (by decide) 3 rfl rfl dX12_readShun_101 ?_
    refine lv_bipush (v := 63) hC.1 hC.2.1 dX12_readShun_104 (by decide) ?_
    refine lv_iconst (v := 5) hC.1 hC.2.1 dX12_readShun_106 (by decide) ?_
    refine lv_iload_n hC.1 hC.2.1 dX12_readShun_107 rfl (lv_at hl 2 rfl) ?_
    refine lv_imul hC.1 hC.2.1 dX12_readShun_108 ?_
    refine lv_iadd hC.1 hC.2.1 dX12_readShun_109 ?_
    refine lv_iconst (v := 4) hC.1 hC.2.1 dX12_readShun_110 (by decide) ?_
    refine lv_iadd hC.1 hC.2.1 dX12_readShun_111 ?_
    refine lv_dup2_11 hC.1 hC.2.1 dX12_readShun_112 rfl rfl ?_
    obtain ⟨hi_6, hf⟩ := ck_of hf
    refine g_iald hC hW 6 rfl hi_6 dX12_readShun_113 ?_
    refine lv_iconst (v := 1) hC.1 hC.2.1 dX12_readShun_114 (by decide) ?_
    refine lv_iload_n hC.1 hC.2.1 dX12_readShun_115 rfl (lv_at hl 1 rfl) ?_
    refine lv_ishl hC.1 hC.2.1 dX12_readShun_116 ?_
    refine lv_ior hC.1 hC.2.1 dX12_readShun_117 ?_
    obtain ⟨hi_7, hf⟩ := ck_of hf
    obtain ⟨SM_8, eSM_8⟩ : ∃ y : Ob, y = oA SM_5 10 (Int32.toNatClampNeg ((63 + (5 * x2)) + 4)) ((SM_5.2.2.1 10 (Int32.toNatClampNeg ((63 + (5 * x2)) + 4))) ||| (1 <<< (x1 &&& 31))) := ⟨_, rfl⟩
    have hf := lt_nm hf eSM_8
    refine g_iast hC hW 6 rfl hi_7 (w' := w12 cy aM SM_8) (by rw [eSM_8]; rfl) dX12_readShun_118 (fun H locs hW => ?_)
    exact t12_readShun_119 hC  _ _ _ _ _ hf hW (lv_sub hl [] rfl)
set_option maxRecDepth 100000 in
set_option maxHeartbeats 4000000 in
theorem t12_readShun_59 (hC : Cx p s m args meth c cX12_readShun 3 wsX12_readShun RX12 none) : ∀ (x1 : Int32) (x2 : Int32) (SM : Ob) (res : Ob) (H : Heap) (locs : List Loc) (ls : Array Slot), f12_readShun_59 x1 x2 SM = some res → GW D cy ad (w12 cy aM SM) A s H locs → lv_has ls 3 [(0, .ref (aM 0)), (1, .int x1), (2, .int x2)] → W p l e rm12_readShun s m args below meth c H locs 0 0 (MQ below (QV D cy (w12 cy aM res) A) args s 0 0 A) (F0 m 59 ls []) := by
  intro x1 x2 SM res H locs ls hf hW hl
  unfold f12_readShun_59 at hf
  refine lv_aload_n hC.1 hC.2.1 dX12_readShun_59 rfl (lv_at hl 0 rfl) ?_
  refine lv_iconst (v := 3) hC.1 hC.2.1 dX12_readShun_60 (by decide) ?_
  obtain ⟨r_1, hg_2, hf⟩ := bd_of hf
  refine g_callvV hC hW (c12_wrong l D cy ad aM hg_2) (cwV 1 hC.2.2.2.2.1 gX12_readShun_X12_wrong rfl rfl rfl hdV12_wrong ⟨Nat.le_of_ble_eq_true rfl, Nat.le_of_ble_eq_true rfl⟩) (Sub.all _ _) 0 11 rfl rfl rfl rfl hl.1 rfl (Nat.le_of_ble_eq_true rfl) dX12_readShun_61 ⟨Nat.zero_le _, Nat.zero_le _⟩ (fun H locs hW => ?_)
  exact t12_readShun_64 hC  _ _ _ _ _ _ _ hf hW (lv_sub hl [0, 1, 2] rfl)
set_option maxRecDepth 100000 in
set_option maxHeartbeats 4000000 in
theorem t12_readShun_0 (hC : Cx p s m args meth c cX12_readShun 3 wsX12_readShun RX12 none) : ∀ (SM : Ob) (res : Ob) (H : Heap) (locs : List Loc) (ls : Array Slot), f12_readShun SM = some res → GW D cy ad (w12 cy aM SM) A s H locs → lv_has ls 3 [(0, .ref (aM 0))] → W p l e rm12_readShun s m args below meth c H locs 0 0 (MQ below (QV D cy (w12 cy aM res) A) args s 0 0 A) (F0 m 0 ls []) := by
  intro SM res H locs ls hf hW hl
  unfold f12_readShun at hf
  refine lv_aload_n hC.1 hC.2.1 dX12_readShun_0 rfl (lv_at hl 0 rfl) ?_
  refine lv_dup hC.1 hC.2.1 dX12_readShun_1 rfl ?_
  refine g_get hC hW hin12_readShun_12 0 rfl rfl 7 (by decide) 1 rfl rfl dX12_readShun_2 ?_
  refine lv_iconst (v := 1) hC.1 hC.2.1 dX12_readShun_5 (by decide) ?_
  refine lv_iadd hC.1 hC.2.1 dX12_readShun_6 ?_
  obtain ⟨SM_1, eSM_1⟩ : ∃ y : Ob, y = oI SM 7 ((SM.1 7) + 1) := ⟨_, rfl⟩
  have hf := lt_nm hf eSM_1
  refine g_put hC hW hin12_readShun_12 tyX12 tyX12_ok nmX12 0 rfl rfl 7 (by decide) 1 rfl rfl rfl rfl (Nat.le_of_ble_eq_true rfl) (w' := w12 cy aM SM_1) (by rw [eSM_1]; rfl) dX12_readShun_7 (fun H locs hW => ?_)
  refine lv_aload_n hC.1 hC.2.1 dX12_readShun_10 rfl (lv_at hl 0 rfl) ?_
  refine lv_iconst (v := 0) hC.1 hC.2.1 dX12_readShun_11 (by decide) ?_
  refine lv_bipush (v := 8) hC.1 hC.2.1 dX12_readShun_12 (by decide) ?_
  obtain ⟨r_2, hg_3, hf⟩ := bd_of hf
  refine g_calliV hC hW (c12_takeTold l D cy ad aM hg_3) (cwV 2 hC.2.2.2.2.1 gX12_readShun_X12_takeTold rfl rfl rfl hdV12_takeTold ⟨Nat.le_of_ble_eq_true rfl, Nat.le_of_ble_eq_true rfl⟩) (Sub.all _ _) 0 11 rfl rfl rfl rfl hl.1 rfl (Nat.le_of_ble_eq_true rfl) dX12_readShun_14 ⟨Nat.zero_le _, Nat.zero_le _⟩ (fun H locs hW => ?_)
  refine lv_topi (fun x1_4 ex1_4 => ?_)
  have hf := lt_nm hf ex1_4
  refine lv_istore_n (lv' := [(1, .int x1_4), (0, .ref (aM 0))]) hC.1 hC.2.1 dX12_readShun_17 rfl hl (by decide) rfl (fun ls hl => ?_)
  refine lv_aload_n hC.1 hC.2.1 dX12_readShun_18 rfl (lv_at hl 1 rfl) ?_
  refine lv_iconst (v := 0) hC.1 hC.2.1 dX12_readShun_19 (by decide) ?_
  refine lv_bipush (v := 8) hC.1 hC.2.1 dX12_readShun_20 (by decide) ?_
  obtain ⟨r_5, hg_6, hf⟩ := bd_of hf
  refine g_calliV hC hW (c12_toldHere l D cy ad aM hg_6) (cwV 2 hC.2.2.2.2.1 gX12_readShun_X12_toldHere rfl rfl rfl hdV12_toldHere ⟨Nat.le_of_ble_eq_true rfl, Nat.le_of_ble_eq_true rfl⟩) (Sub.all _ _) 0 11 rfl rfl rfl rfl hl.1 rfl (Nat.le_of_ble_eq_true rfl) dX12_readShun_22 ⟨Nat.zero_le _, Nat.zero_le _⟩ (fun H locs hW => ?_)
  refine lv_topi (fun x2_7 ex2_7 => ?_)
  have hf := lt_nm hf ex2_7
  refine lv_istore_n (lv' := [(2, .int x2_7), (1, .int x1_4), (0, .ref (aM 0))]) hC.1 hC.2.1 dX12_readShun_25 rfl hl (by decide) rfl (fun ls hl => ?_)
  refine lv_aload_n hC.1 hC.2.1 dX12_readShun_26 rfl (lv_at hl 2 rfl) ?_
  refine g_get hC hW hin12_readShun_12 0 rfl rfl 8 (by decide) 2 rfl rfl dX12_readShun_27 ?_
  refine lv_if_ne (tgt := 64) hC.1 hC.2.1 dX12_readShun_30 (by decide) (fun hc_8 => ?_) (fun hc_8 => ?_)
  · have hf := ite_f hf hc_8
    exact t12_readShun_64 hC  _ _ _ _ _ _ _ hf hW (lv_sub hl [2, 1, 0] rfl)
  · have hf := ite_t hf hc_8
    refine lv_iload_n hC.1 hC.2.1 dX12_readShun_33 rfl (lv_at hl 1 rfl) ?_
    refine lv_iload_n hC.1 hC.2.1 dX12_readShun_34 rfl (lv_at hl 0 rfl) ?_
    refine lv_icmp_eq (tgt := 59) hC.1 hC.2.1 dX12_readShun_35 (by decide) (fun hc_9 => ?_) (fun hc_9 => ?_)
    · have hf := ite_t hf hc_9
      exact t12_readShun_59 hC  _ _ _ _ _ _ _ hf hW (lv_sub hl [2, 1, 0] rfl)
    · have hf := ite_f hf hc_9
      refine lv_aload_n hC.1 hC.2.1 dX12_readShun_38 rfl (lv_at hl 2 rfl) ?_
      refine g_get hC hW hin12_readShun_12 0 rfl rfl 10 (by decide) 3 rfl rfl dX12_readShun_39 ?_
      refine lv_bipush (v := 63) hC.1 hC.2.1 dX12_readShun_42 (by decide) ?_
      refine lv_iconst (v := 5) hC.1 hC.2.1 dX12_readShun_44 (by decide) ?_
      refine lv_iload_n hC.1 hC.2.1 dX12_readShun_45 rfl (lv_at hl 1 rfl) ?_
      refine lv_imul hC.1 hC.2.1 dX12_readShun_46 ?_
      refine lv_iadd hC.1 hC.2.1 dX12_readShun_47 ?_
      refine lv_iconst (v := 4) hC.1 hC.2.1 dX12_readShun_48 (by decide) ?_
      refine lv_iadd hC.1 hC.2.1 dX12_readShun_49 ?_
      obtain ⟨hi_10, hf⟩ := ck_of hf
      refine g_iald hC hW 6 rfl hi_10 dX12_readShun_50 ?_
      refine lv_iload_n hC.1 hC.2.1 dX12_readShun_51 rfl (lv_at hl 0 rfl) ?_
      refine lv_ishr hC.1 hC.2.1 dX12_readShun_52 ?_
      refine lv_iconst (v := 1) hC.1 hC.2.1 dX12_readShun_53 (by decide) ?_
      refine lv_iand hC.1 hC.2.1 dX12_readShun_54 ?_
      refine lv_iconst (v := 1) hC.1 hC.2.1 dX12_readShun_55 (by decide) ?_
      refine lv_icmp_ne (tgt := 64) hC.1 hC.2.1 dX12_readShun_56 (by decide) (fun hc_11 => ?_) (fun hc_11 => ?_)
      · have hf := ite_f hf hc_11
        exact t12_readShun_64 hC  _ _ _ _ _ _ _ hf hW (lv_sub hl [2, 1, 0] rfl)
      · have hf := ite_t hf hc_11
        exact t12_readShun_59 hC  _ _ _ _ _ _ _ hf hW (lv_sub hl [2, 1, 0] rfl)
set_option maxRecDepth 100000 in
set_option maxHeartbeats 4000000 in
theorem c12_readShun (l : Launch) (D : va_G) (cy : Nat → ClassId) (ad : Nat → Nat) (aM : Nat → Nat) {SM : Ob} {res : Ob} (h : f12_readShun SM = some res) : GCv l yX12_readShun wsX12_readShun rm12_readShun [.ref (aM 0)] D cy ad (w12 cy aM SM) (w12 cy aM res) := fun sz => GC.start (own := RX12) (Qc := fun A => QV D cy (w12 cy aM res) A) sz (by decide) rfl rfl (Nat.le_of_ble_eq_true rfl) (fun p e s m below meth c A ls hC hW hl => t12_readShun_0 hC _ _ _ _ _ h hW (lv_sub hl [0] rfl))
end
