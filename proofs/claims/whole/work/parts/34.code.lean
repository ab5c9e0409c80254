/-! laid by program: functions, walks and contracts of 2_put, 2_pop, 2_push, 2_worlds, 2_joined, 2_amount -/
theorem lk_ne {x v : Int32} {n : Int} (hv : v.toInt = n) (h : ¬ x = v) : ¬ n = x.toInt := fun e => h (Int32.toInt_inj.mp (by rw [hv, e]))
theorem lk_out {d : Int} {x : Int32} : ∀ (ps : List (Int × Int)), (∀ q ∈ ps, ¬ q.1 = x.toInt) → Op.lookupswitch.offset ps d x.toInt = d
  | [], _ => rfl
  | (a, o) :: r, h => by
    rw [Op.lookupswitch.offset_cons, if_neg (h (a, o) List.mem_cons_self)]
    exact lk_out r (fun q hq => h q (List.mem_cons_of_mem _ hq))
theorem dX2_put_0 : decode cX2_put 0 = .ok (.aload_n 0, 1) := by decide +kernel
theorem dX2_put_1 : decode cX2_put 1 = .ok (.getfield 21, 3) := by decide +kernel
theorem dX2_put_4 : decode cX2_put 4 = .ok (.sipush 1000, 3) := by decide +kernel
theorem dX2_put_7 : decode cX2_put 7 = .ok (.if_icmp .ge 33, 3) := by decide +kernel
theorem dX2_put_10 : decode cX2_put 10 = .ok (.aload_n 0, 1) := by decide +kernel
theorem dX2_put_11 : decode cX2_put 11 = .ok (.getfield 9, 3) := by decide +kernel
theorem dX2_put_14 : decode cX2_put 14 = .ok (.aload_n 0, 1) := by decide +kernel
theorem dX2_put_15 : decode cX2_put 15 = .ok (.getfield 21, 3) := by decide +kernel
theorem dX2_put_18 : decode cX2_put 18 = .ok (.iload_n 1, 1) := by decide +kernel
theorem dX2_put_19 : decode cX2_put 19 = .ok (.iastore, 1) := by decide +kernel
theorem dX2_put_20 : decode cX2_put 20 = .ok (.aload_n 0, 1) := by decide +kernel
theorem dX2_put_21 : decode cX2_put 21 = .ok (.getfield 15, 3) := by decide +kernel
theorem dX2_put_24 : decode cX2_put 24 = .ok (.aload_n 0, 1) := by decide +kernel
theorem dX2_put_25 : decode cX2_put 25 = .ok (.getfield 21, 3) := by decide +kernel
theorem dX2_put_28 : decode cX2_put 28 = .ok (.iload_n 2, 1) := by decide +kernel
theorem dX2_put_29 : decode cX2_put 29 = .ok (.iastore, 1) := by decide +kernel
theorem dX2_put_30 : decode cX2_put 30 = .ok (.aload_n 0, 1) := by decide +kernel
theorem dX2_put_31 : decode cX2_put 31 = .ok (.dup, 1) := by decide +kernel
theorem dX2_put_32 : decode cX2_put 32 = .ok (.getfield 21, 3) := by decide +kernel
theorem dX2_put_35 : decode cX2_put 35 = .ok (.iconst 1, 1) := by decide +kernel
theorem dX2_put_36 : decode cX2_put 36 = .ok (.iadd, 1) := by decide +kernel
theorem dX2_put_37 : decode cX2_put 37 = .ok (.putfield 21, 3) := by decide +kernel
theorem dX2_put_40 : decode cX2_put 40 = .ok (.return_, 1) := by decide +kernel
theorem dX2_pop_0 : decode cX2_pop 0 = .ok (.aload_n 0, 1) := by decide +kernel
theorem dX2_pop_1 : decode cX2_pop 1 = .ok (.getfield 25, 3) := by decide +kernel
theorem dX2_pop_4 : decode cX2_pop 4 = .ok (.ifCond .gt 5, 3) := by decide +kernel
theorem dX2_pop_7 : decode cX2_pop 7 = .ok (.iconst 0, 1) := by decide +kernel
theorem dX2_pop_8 : decode cX2_pop 8 = .ok (.ireturn, 1) := by decide +kernel
theorem dX2_pop_9 : decode cX2_pop 9 = .ok (.aload_n 0, 1) := by decide +kernel
theorem dX2_pop_10 : decode cX2_pop 10 = .ok (.dup, 1) := by decide +kernel
theorem dX2_pop_11 : decode cX2_pop 11 = .ok (.getfield 25, 3) := by decide +kernel
theorem dX2_pop_14 : decode cX2_pop 14 = .ok (.iconst 1, 1) := by decide +kernel
theorem dX2_pop_15 : decode cX2_pop 15 = .ok (.isub, 1) := by decide +kernel
theorem dX2_pop_16 : decode cX2_pop 16 = .ok (.putfield 25, 3) := by decide +kernel
theorem dX2_pop_19 : decode cX2_pop 19 = .ok (.aload_n 0, 1) := by decide +kernel
theorem dX2_pop_20 : decode cX2_pop 20 = .ok (.getfield 18, 3) := by decide +kernel
theorem dX2_pop_23 : decode cX2_pop 23 = .ok (.aload_n 0, 1) := by decide +kernel
theorem dX2_pop_24 : decode cX2_pop 24 = .ok (.getfield 25, 3) := by decide +kernel
theorem dX2_pop_27 : decode cX2_pop 27 = .ok (.iaload, 1) := by decide +kernel
theorem dX2_pop_28 : decode cX2_pop 28 = .ok (.ireturn, 1) := by decide +kernel
theorem dX2_push_0 : decode cX2_push 0 = .ok (.aload_n 0, 1) := by decide +kernel
theorem dX2_push_1 : decode cX2_push 1 = .ok (.getfield 25, 3) := by decide +kernel
theorem dX2_push_4 : decode cX2_push 4 = .ok (.aload_n 0, 1) := by decide +kernel
theorem dX2_push_5 : decode cX2_push 5 = .ok (.getfield 18, 3) := by decide +kernel
theorem dX2_push_8 : decode cX2_push 8 = .ok (.arraylength, 1) := by decide +kernel
theorem dX2_push_9 : decode cX2_push 9 = .ok (.if_icmp .ge 23, 3) := by decide +kernel
theorem dX2_push_12 : decode cX2_push 12 = .ok (.aload_n 0, 1) := by decide +kernel
theorem dX2_push_13 : decode cX2_push 13 = .ok (.getfield 18, 3) := by decide +kernel
theorem dX2_push_16 : decode cX2_push 16 = .ok (.aload_n 0, 1) := by decide +kernel
theorem dX2_push_17 : decode cX2_push 17 = .ok (.getfield 25, 3) := by decide +kernel
theorem dX2_push_20 : decode cX2_push 20 = .ok (.iload_n 1, 1) := by decide +kernel
theorem dX2_push_21 : decode cX2_push 21 = .ok (.iastore, 1) := by decide +kernel
theorem dX2_push_22 : decode cX2_push 22 = .ok (.aload_n 0, 1) := by decide +kernel
theorem dX2_push_23 : decode cX2_push 23 = .ok (.dup, 1) := by decide +kernel
theorem dX2_push_24 : decode cX2_push 24 = .ok (.getfield 25, 3) := by decide +kernel
theorem dX2_push_27 : decode cX2_push 27 = .ok (.iconst 1, 1) := by decide +kernel
theorem dX2_push_28 : decode cX2_push 28 = .ok (.iadd, 1) := by decide +kernel
theorem dX2_push_29 : decode cX2_push 29 = .ok (.putfield 25, 3) := by decide +kernel
theorem dX2_push_32 : decode cX2_push 32 = .ok (.return_, 1) := by decide +kernel
set_option maxRecDepth 20000 in
theorem gX2_worlds_X2_pop : GoodIn wsX2_worlds (wsV RX2 28 RX2 yX2_pop wsX2_pop) := goodIn_r _ [4, 5, 6, 7, 8, 1, 9, 51, 52, 53, 54, 55] rfl (by decide +kernel)
set_option maxRecDepth 20000 in
theorem gX2_worlds_X2_push : GoodIn wsX2_worlds (wsV RX2 32 RX2 yX2_push wsX2_push) := goodIn_r _ [10, 11, 12, 7, 13, 1, 9, 51, 52, 53, 54, 55] rfl (by decide +kernel)
set_option maxRecDepth 20000 in
theorem gX2_worlds_X4_worldsOf : GoodIn wsX2_worlds (wsV RX2 36 RX4 yX4_worldsOf wsX4_worldsOf) := goodIn_r _ [14, 15, 16, 17, 18] rfl (by decide +kernel)
set_option maxRecDepth 20000 in
theorem gX2_worlds_X4_worldsShowing : GoodIn wsX2_worlds (wsV RX2 42 RX4 yX4_worldsShowing wsX4_worldsShowing) := goodIn_r _ [19, 20, 21, 17, 22, 23, 24, 25, 26, 17, 27, 28, 29, 30, 31, 32, 33, 56, 57, 58, 59, 60, 61, 62, 63, 64, 65, 66, 67, 68] rfl (by decide +kernel)
set_option maxRecDepth 20000 in
theorem gX2_worlds_X4_worldsBy : GoodIn wsX2_worlds (wsV RX2 46 RX4 yX4_worldsBy wsX4_worldsBy) := goodIn_r _ [34, 35, 36, 17, 37, 38, 33, 29, 30, 31, 17, 32, 39, 40, 41, 42, 43, 44, 45, 46, 47, 48, 49, 15, 16, 18, 56, 57, 58, 59, 60, 61, 62, 63, 64, 65, 66, 67, 68] rfl (by decide +kernel)
set_option maxRecDepth 20000 in
theorem gX2_worlds_X4_all : GoodIn wsX2_worlds (wsV RX2 49 RX4 yX4_all wsX4_all) := goodIn_r _ [50, 30, 31, 17, 32, 33, 56, 57, 58, 59, 60, 61, 62, 63, 64, 65, 66, 67, 68] rfl (by decide +kernel)
theorem dX2_worlds_0 : decode cX2_worlds 0 = .ok (.aload_n 0, 1) := by decide +kernel
theorem dX2_worlds_1 : decode cX2_worlds 1 = .ok (.iconst 0, 1) := by decide +kernel
theorem dX2_worlds_2 : decode cX2_worlds 2 = .ok (.putfield 25, 3) := by decide +kernel
theorem dX2_worlds_5 : decode cX2_worlds 5 = .ok (.iload_n 2, 1) := by decide +kernel
theorem dX2_worlds_6 : decode cX2_worlds 6 = .ok (.istore 4, 2) := by decide +kernel
theorem dX2_worlds_8 : decode cX2_worlds 8 = .ok (.iload 4, 2) := by decide +kernel
theorem dX2_worlds_10 : decode cX2_worlds 10 = .ok (.iload_n 3, 1) := by decide +kernel
theorem dX2_worlds_11 : decode cX2_worlds 11 = .ok (.if_icmp .ge 150, 3) := by decide +kernel
theorem dX2_worlds_14 : decode cX2_worlds 14 = .ok (.iload 4, 2) := by decide +kernel
theorem dX2_worlds_16 : decode cX2_worlds 16 = .ok (.sipush 1000, 3) := by decide +kernel
theorem dX2_worlds_19 : decode cX2_worlds 19 = .ok (.if_icmp .ge 142, 3) := by decide +kernel
theorem dX2_worlds_22 : decode cX2_worlds 22 = .ok (.aload_n 0, 1) := by decide +kernel
theorem dX2_worlds_23 : decode cX2_worlds 23 = .ok (.getfield 9, 3) := by decide +kernel
theorem dX2_worlds_26 : decode cX2_worlds 26 = .ok (.iload 4, 2) := by decide +kernel
theorem dX2_worlds_28 : decode cX2_worlds 28 = .ok (.iaload, 1) := by decide +kernel
theorem dX2_worlds_29 : decode cX2_worlds 29 = .ok (.istore 5, 2) := by decide +kernel
theorem dX2_worlds_31 : decode cX2_worlds 31 = .ok (.iload 5, 2) := by decide +kernel
theorem dX2_worlds_33 : decode cX2_worlds 33 = .ok (.bipush 26, 2) := by decide +kernel
theorem dX2_worlds_35 : decode cX2_worlds 35 = .ok (.if_icmp .ne 16, 3) := by decide +kernel
theorem dX2_worlds_38 : decode cX2_worlds 38 = .ok (.aload_n 0, 1) := by decide +kernel
theorem dX2_worlds_39 : decode cX2_worlds 39 = .ok (.aload_n 0, 1) := by decide +kernel
theorem dX2_worlds_40 : decode cX2_worlds 40 = .ok (.invokevirtual 28, 3) := by decide +kernel
theorem dX2_worlds_43 : decode cX2_worlds 43 = .ok (.iconst (-1), 1) := by decide +kernel
theorem dX2_worlds_44 : decode cX2_worlds 44 = .ok (.ixor, 1) := by decide +kernel
theorem dX2_worlds_45 : decode cX2_worlds 45 = .ok (.invokevirtual 32, 3) := by decide +kernel
theorem dX2_worlds_48 : decode cX2_worlds 48 = .ok (.goto 107, 3) := by decide +kernel
theorem dX2_worlds_51 : decode cX2_worlds 51 = .ok (.iload 5, 2) := by decide +kernel
theorem dX2_worlds_53 : decode cX2_worlds 53 = .ok (.bipush 27, 2) := by decide +kernel
theorem dX2_worlds_55 : decode cX2_worlds 55 = .ok (.if_icmp .ne 19, 3) := by decide +kernel
theorem dX2_worlds_58 : decode cX2_worlds 58 = .ok (.aload_n 0, 1) := by decide +kernel
theorem dX2_worlds_59 : decode cX2_worlds 59 = .ok (.aload_n 0, 1) := by decide +kernel
theorem dX2_worlds_60 : decode cX2_worlds 60 = .ok (.invokevirtual 28, 3) := by decide +kernel
theorem dX2_worlds_63 : decode cX2_worlds 63 = .ok (.aload_n 0, 1) := by decide +kernel
theorem dX2_worlds_64 : decode cX2_worlds 64 = .ok (.invokevirtual 28, 3) := by decide +kernel
theorem dX2_worlds_67 : decode cX2_worlds 67 = .ok (.iand, 1) := by decide +kernel
theorem dX2_worlds_68 : decode cX2_worlds 68 = .ok (.invokevirtual 32, 3) := by decide +kernel
theorem dX2_worlds_71 : decode cX2_worlds 71 = .ok (.goto 84, 3) := by decide +kernel
theorem dX2_worlds_74 : decode cX2_worlds 74 = .ok (.iload 5, 2) := by decide +kernel
theorem dX2_worlds_76 : decode cX2_worlds 76 = .ok (.bipush 28, 2) := by decide +kernel
theorem dX2_worlds_78 : decode cX2_worlds 78 = .ok (.if_icmp .ne 19, 3) := by decide +kernel
theorem dX2_worlds_81 : decode cX2_worlds 81 = .ok (.aload_n 0, 1) := by decide +kernel
theorem dX2_worlds_82 : decode cX2_worlds 82 = .ok (.aload_n 0, 1) := by decide +kernel
theorem dX2_worlds_83 : decode cX2_worlds 83 = .ok (.invokevirtual 28, 3) := by decide +kernel
theorem dX2_worlds_86 : decode cX2_worlds 86 = .ok (.aload_n 0, 1) := by decide +kernel
theorem dX2_worlds_87 : decode cX2_worlds 87 = .ok (.invokevirtual 28, 3) := by decide +kernel
theorem dX2_worlds_90 : decode cX2_worlds 90 = .ok (.ior, 1) := by decide +kernel
theorem dX2_worlds_91 : decode cX2_worlds 91 = .ok (.invokevirtual 32, 3) := by decide +kernel
theorem dX2_worlds_94 : decode cX2_worlds 94 = .ok (.goto 61, 3) := by decide +kernel
theorem dX2_worlds_97 : decode cX2_worlds 97 = .ok (.iload 5, 2) := by decide +kernel
theorem dX2_worlds_99 : decode cX2_worlds 99 = .ok (.ifCond .ne 21, 3) := by decide +kernel
theorem dX2_worlds_102 : decode cX2_worlds 102 = .ok (.aload_n 0, 1) := by decide +kernel
theorem dX2_worlds_103 : decode cX2_worlds 103 = .ok (.aload_n 1, 1) := by decide +kernel
theorem dX2_worlds_104 : decode cX2_worlds 104 = .ok (.aload_n 0, 1) := by decide +kernel
theorem dX2_worlds_105 : decode cX2_worlds 105 = .ok (.getfield 15, 3) := by decide +kernel
theorem dX2_worlds_108 : decode cX2_worlds 108 = .ok (.iload 4, 2) := by decide +kernel
theorem dX2_worlds_110 : decode cX2_worlds 110 = .ok (.iaload, 1) := by decide +kernel
theorem dX2_worlds_111 : decode cX2_worlds 111 = .ok (.invokevirtual 36, 3) := by decide +kernel
theorem dX2_worlds_114 : decode cX2_worlds 114 = .ok (.invokevirtual 32, 3) := by decide +kernel
theorem dX2_worlds_117 : decode cX2_worlds 117 = .ok (.goto 38, 3) := by decide +kernel
theorem dX2_worlds_120 : decode cX2_worlds 120 = .ok (.iload 5, 2) := by decide +kernel
theorem dX2_worlds_122 : decode cX2_worlds 122 = .ok (.iconst 3, 1) := by decide +kernel
theorem dX2_worlds_123 : decode cX2_worlds 123 = .ok (.if_icmp .ne 22, 3) := by decide +kernel
theorem dX2_worlds_126 : decode cX2_worlds 126 = .ok (.aload_n 0, 1) := by decide +kernel
theorem dX2_worlds_127 : decode cX2_worlds 127 = .ok (.aload_n 1, 1) := by decide +kernel
theorem dX2_worlds_128 : decode cX2_worlds 128 = .ok (.aload_n 0, 1) := by decide +kernel
theorem dX2_worlds_129 : decode cX2_worlds 129 = .ok (.getfield 15, 3) := by decide +kernel
theorem dX2_worlds_132 : decode cX2_worlds 132 = .ok (.iload 4, 2) := by decide +kernel
theorem dX2_worlds_134 : decode cX2_worlds 134 = .ok (.iaload, 1) := by decide +kernel
theorem dX2_worlds_135 : decode cX2_worlds 135 = .ok (.iconst 1, 1) := by decide +kernel
theorem dX2_worlds_136 : decode cX2_worlds 136 = .ok (.invokevirtual 42, 3) := by decide +kernel
theorem dX2_worlds_139 : decode cX2_worlds 139 = .ok (.invokevirtual 32, 3) := by decide +kernel
theorem dX2_worlds_142 : decode cX2_worlds 142 = .ok (.goto 13, 3) := by decide +kernel
theorem dX2_worlds_145 : decode cX2_worlds 145 = .ok (.aload_n 0, 1) := by decide +kernel
theorem dX2_worlds_146 : decode cX2_worlds 146 = .ok (.aload_n 1, 1) := by decide +kernel
theorem dX2_worlds_147 : decode cX2_worlds 147 = .ok (.iload 5, 2) := by decide +kernel
theorem dX2_worlds_149 : decode cX2_worlds 149 = .ok (.invokevirtual 46, 3) := by decide +kernel
theorem dX2_worlds_152 : decode cX2_worlds 152 = .ok (.invokevirtual 32, 3) := by decide +kernel
theorem dX2_worlds_155 : decode cX2_worlds 155 = .ok (.iinc 4 1, 3) := by decide +kernel
theorem dX2_worlds_158 : decode cX2_worlds 158 = .ok (.goto (-150), 3) := by decide +kernel
theorem dX2_worlds_161 : decode cX2_worlds 161 = .ok (.aload_n 0, 1) := by decide +kernel
theorem dX2_worlds_162 : decode cX2_worlds 162 = .ok (.invokevirtual 28, 3) := by decide +kernel
theorem dX2_worlds_165 : decode cX2_worlds 165 = .ok (.aload_n 1, 1) := by decide +kernel
theorem dX2_worlds_166 : decode cX2_worlds 166 = .ok (.invokevirtual 49, 3) := by decide +kernel
theorem dX2_worlds_169 : decode cX2_worlds 169 = .ok (.iand, 1) := by decide +kernel
theorem dX2_worlds_170 : decode cX2_worlds 170 = .ok (.ireturn, 1) := by decide +kernel
theorem dX2_joined_0 : decode cX2_joined 0 = .ok (.iload_n 0, 1) := by decide +kernel
theorem dX2_joined_1 : decode cX2_joined 1 = .ok (.lookupswitch 107 #[(27, 93), (42, 67), (43, 59), (45, 63), (60, 71), (61, 82)], 59) := by decide +kernel
theorem dX2_joined_60 : decode cX2_joined 60 = .ok (.iload_n 1, 1) := by decide +kernel
theorem dX2_joined_61 : decode cX2_joined 61 = .ok (.iload_n 2, 1) := by decide +kernel
theorem dX2_joined_62 : decode cX2_joined 62 = .ok (.iadd, 1) := by decide +kernel
theorem dX2_joined_63 : decode cX2_joined 63 = .ok (.ireturn, 1) := by decide +kernel
theorem dX2_joined_64 : decode cX2_joined 64 = .ok (.iload_n 1, 1) := by decide +kernel
theorem dX2_joined_65 : decode cX2_joined 65 = .ok (.iload_n 2, 1) := by decide +kernel
theorem dX2_joined_66 : decode cX2_joined 66 = .ok (.isub, 1) := by decide +kernel
theorem dX2_joined_67 : decode cX2_joined 67 = .ok (.ireturn, 1) := by decide +kernel
theorem dX2_joined_68 : decode cX2_joined 68 = .ok (.iload_n 1, 1) := by decide +kernel
theorem dX2_joined_69 : decode cX2_joined 69 = .ok (.iload_n 2, 1) := by decide +kernel
theorem dX2_joined_70 : decode cX2_joined 70 = .ok (.imul, 1) := by decide +kernel
theorem dX2_joined_71 : decode cX2_joined 71 = .ok (.ireturn, 1) := by decide +kernel
theorem dX2_joined_72 : decode cX2_joined 72 = .ok (.iload_n 1, 1) := by decide +kernel
theorem dX2_joined_73 : decode cX2_joined 73 = .ok (.iload_n 2, 1) := by decide +kernel
theorem dX2_joined_74 : decode cX2_joined 74 = .ok (.if_icmp .ge 7, 3) := by decide +kernel
theorem dX2_joined_77 : decode cX2_joined 77 = .ok (.iconst 1, 1) := by decide +kernel
theorem dX2_joined_78 : decode cX2_joined 78 = .ok (.goto 4, 3) := by decide +kernel
theorem dX2_joined_81 : decode cX2_joined 81 = .ok (.iconst 0, 1) := by decide +kernel
theorem dX2_joined_82 : decode cX2_joined 82 = .ok (.ireturn, 1) := by decide +kernel
theorem dX2_joined_83 : decode cX2_joined 83 = .ok (.iload_n 1, 1) := by decide +kernel
theorem dX2_joined_84 : decode cX2_joined 84 = .ok (.iload_n 2, 1) := by decide +kernel
theorem dX2_joined_85 : decode cX2_joined 85 = .ok (.if_icmp .ne 7, 3) := by decide +kernel
theorem dX2_joined_88 : decode cX2_joined 88 = .ok (.iconst 1, 1) := by decide +kernel
theorem dX2_joined_89 : decode cX2_joined 89 = .ok (.goto 4, 3) := by decide +kernel
theorem dX2_joined_92 : decode cX2_joined 92 = .ok (.iconst 0, 1) := by decide +kernel
theorem dX2_joined_93 : decode cX2_joined 93 = .ok (.ireturn, 1) := by decide +kernel
theorem dX2_joined_94 : decode cX2_joined 94 = .ok (.iload_n 1, 1) := by decide +kernel
theorem dX2_joined_95 : decode cX2_joined 95 = .ok (.ifCond .eq 11, 3) := by decide +kernel
theorem dX2_joined_98 : decode cX2_joined 98 = .ok (.iload_n 2, 1) := by decide +kernel
theorem dX2_joined_99 : decode cX2_joined 99 = .ok (.ifCond .eq 7, 3) := by decide +kernel
theorem dX2_joined_102 : decode cX2_joined 102 = .ok (.iconst 1, 1) := by decide +kernel
theorem dX2_joined_103 : decode cX2_joined 103 = .ok (.goto 4, 3) := by decide +kernel
theorem dX2_joined_106 : decode cX2_joined 106 = .ok (.iconst 0, 1) := by decide +kernel
theorem dX2_joined_107 : decode cX2_joined 107 = .ok (.ireturn, 1) := by decide +kernel
theorem dX2_joined_108 : decode cX2_joined 108 = .ok (.iload_n 1, 1) := by decide +kernel
theorem dX2_joined_109 : decode cX2_joined 109 = .ok (.ifCond .ne 7, 3) := by decide +kernel
theorem dX2_joined_112 : decode cX2_joined 112 = .ok (.iload_n 2, 1) := by decide +kernel
theorem dX2_joined_113 : decode cX2_joined 113 = .ok (.ifCond .eq 7, 3) := by decide +kernel
theorem dX2_joined_116 : decode cX2_joined 116 = .ok (.iconst 1, 1) := by decide +kernel
theorem dX2_joined_117 : decode cX2_joined 117 = .ok (.goto 4, 3) := by decide +kernel
theorem dX2_joined_120 : decode cX2_joined 120 = .ok (.iconst 0, 1) := by decide +kernel
theorem dX2_joined_121 : decode cX2_joined 121 = .ok (.ireturn, 1) := by decide +kernel
set_option maxRecDepth 20000 in
theorem gX2_amount_X2_push : GoodIn wsX2_amount (wsV RX2 32 RX2 yX2_push wsX2_push) := goodIn_r _ [7, 8, 9, 10, 11, 1, 12, 20, 21, 22, 23, 24] rfl (by decide +kernel)
set_option maxRecDepth 20000 in
theorem gX2_amount_X2_pop : GoodIn wsX2_amount (wsV RX2 28 RX2 yX2_pop wsX2_pop) := goodIn_r _ [13, 14, 15, 10, 16, 1, 12, 20, 21, 22, 23, 24] rfl (by decide +kernel)
set_option maxRecDepth 20000 in
theorem gX2_amount_X2_joined : GoodIn wsX2_amount (va_wsS RX2 61 yX2_joined wsX2_joined) := goodIn_r _ [17, 18, 10, 19] rfl (by decide +kernel)
theorem dX2_amount_0 : decode cX2_amount 0 = .ok (.aload_n 0, 1) := by decide +kernel
theorem dX2_amount_1 : decode cX2_amount 1 = .ok (.iconst 0, 1) := by decide +kernel
theorem dX2_amount_2 : decode cX2_amount 2 = .ok (.putfield 25, 3) := by decide +kernel
theorem dX2_amount_5 : decode cX2_amount 5 = .ok (.iload_n 3, 1) := by decide +kernel
theorem dX2_amount_6 : decode cX2_amount 6 = .ok (.istore 5, 2) := by decide +kernel
theorem dX2_amount_8 : decode cX2_amount 8 = .ok (.iload 5, 2) := by decide +kernel
theorem dX2_amount_10 : decode cX2_amount 10 = .ok (.iload 4, 2) := by decide +kernel
theorem dX2_amount_12 : decode cX2_amount 12 = .ok (.if_icmp .ge 166, 3) := by decide +kernel
theorem dX2_amount_15 : decode cX2_amount 15 = .ok (.iload 5, 2) := by decide +kernel
theorem dX2_amount_17 : decode cX2_amount 17 = .ok (.sipush 1000, 3) := by decide +kernel
theorem dX2_amount_20 : decode cX2_amount 20 = .ok (.if_icmp .ge 158, 3) := by decide +kernel
theorem dX2_amount_23 : decode cX2_amount 23 = .ok (.aload_n 0, 1) := by decide +kernel
theorem dX2_amount_24 : decode cX2_amount 24 = .ok (.getfield 9, 3) := by decide +kernel
theorem dX2_amount_27 : decode cX2_amount 27 = .ok (.iload 5, 2) := by decide +kernel
theorem dX2_amount_29 : decode cX2_amount 29 = .ok (.iaload, 1) := by decide +kernel
theorem dX2_amount_30 : decode cX2_amount 30 = .ok (.tableswitch 116 26 33 #[97, 116, 116, 60, 73, 86, 116, 46], 46) := by decide +kernel
theorem dX2_amount_76 : decode cX2_amount 76 = .ok (.aload_n 0, 1) := by decide +kernel
theorem dX2_amount_77 : decode cX2_amount 77 = .ok (.aload_n 0, 1) := by decide +kernel
theorem dX2_amount_78 : decode cX2_amount 78 = .ok (.getfield 15, 3) := by decide +kernel
theorem dX2_amount_81 : decode cX2_amount 81 = .ok (.iload 5, 2) := by decide +kernel
theorem dX2_amount_83 : decode cX2_amount 83 = .ok (.iaload, 1) := by decide +kernel
theorem dX2_amount_84 : decode cX2_amount 84 = .ok (.invokevirtual 32, 3) := by decide +kernel
theorem dX2_amount_87 : decode cX2_amount 87 = .ok (.goto 85, 3) := by decide +kernel
theorem dX2_amount_90 : decode cX2_amount 90 = .ok (.aload_n 0, 1) := by decide +kernel
theorem dX2_amount_91 : decode cX2_amount 91 = .ok (.aload_n 1, 1) := by decide +kernel
theorem dX2_amount_92 : decode cX2_amount 92 = .ok (.getfield 52, 3) := by decide +kernel
theorem dX2_amount_95 : decode cX2_amount 95 = .ok (.iload_n 2, 1) := by decide +kernel
theorem dX2_amount_96 : decode cX2_amount 96 = .ok (.iaload, 1) := by decide +kernel
theorem dX2_amount_97 : decode cX2_amount 97 = .ok (.invokevirtual 32, 3) := by decide +kernel
theorem dX2_amount_100 : decode cX2_amount 100 = .ok (.goto 72, 3) := by decide +kernel
theorem dX2_amount_103 : decode cX2_amount 103 = .ok (.aload_n 0, 1) := by decide +kernel
theorem dX2_amount_104 : decode cX2_amount 104 = .ok (.aload_n 1, 1) := by decide +kernel
theorem dX2_amount_105 : decode cX2_amount 105 = .ok (.getfield 55, 3) := by decide +kernel
theorem dX2_amount_108 : decode cX2_amount 108 = .ok (.iload_n 2, 1) := by decide +kernel
theorem dX2_amount_109 : decode cX2_amount 109 = .ok (.iaload, 1) := by decide +kernel
theorem dX2_amount_110 : decode cX2_amount 110 = .ok (.invokevirtual 32, 3) := by decide +kernel
theorem dX2_amount_113 : decode cX2_amount 113 = .ok (.goto 59, 3) := by decide +kernel
theorem dX2_amount_116 : decode cX2_amount 116 = .ok (.aload_n 0, 1) := by decide +kernel
theorem dX2_amount_117 : decode cX2_amount 117 = .ok (.aload_n 1, 1) := by decide +kernel
theorem dX2_amount_118 : decode cX2_amount 118 = .ok (.getfield 58, 3) := by decide +kernel
theorem dX2_amount_121 : decode cX2_amount 121 = .ok (.invokevirtual 32, 3) := by decide +kernel
theorem dX2_amount_124 : decode cX2_amount 124 = .ok (.goto 48, 3) := by decide +kernel
theorem dX2_amount_127 : decode cX2_amount 127 = .ok (.aload_n 0, 1) := by decide +kernel
theorem dX2_amount_128 : decode cX2_amount 128 = .ok (.aload_n 0, 1) := by decide +kernel
theorem dX2_amount_129 : decode cX2_amount 129 = .ok (.invokevirtual 28, 3) := by decide +kernel
theorem dX2_amount_132 : decode cX2_amount 132 = .ok (.ifCond .ne 7, 3) := by decide +kernel
theorem dX2_amount_135 : decode cX2_amount 135 = .ok (.iconst 1, 1) := by decide +kernel
theorem dX2_amount_136 : decode cX2_amount 136 = .ok (.goto 4, 3) := by decide +kernel
theorem dX2_amount_139 : decode cX2_amount 139 = .ok (.iconst 0, 1) := by decide +kernel
theorem dX2_amount_140 : decode cX2_amount 140 = .ok (.invokevirtual 32, 3) := by decide +kernel
theorem dX2_amount_143 : decode cX2_amount 143 = .ok (.goto 29, 3) := by decide +kernel
theorem dX2_amount_146 : decode cX2_amount 146 = .ok (.aload_n 0, 1) := by decide +kernel
theorem dX2_amount_147 : decode cX2_amount 147 = .ok (.invokevirtual 28, 3) := by decide +kernel
theorem dX2_amount_150 : decode cX2_amount 150 = .ok (.istore 6, 2) := by decide +kernel
theorem dX2_amount_152 : decode cX2_amount 152 = .ok (.aload_n 0, 1) := by decide +kernel
theorem dX2_amount_153 : decode cX2_amount 153 = .ok (.aload_n 0, 1) := by decide +kernel
theorem dX2_amount_154 : decode cX2_amount 154 = .ok (.getfield 9, 3) := by decide +kernel
theorem dX2_amount_157 : decode cX2_amount 157 = .ok (.iload 5, 2) := by decide +kernel
theorem dX2_amount_159 : decode cX2_amount 159 = .ok (.iaload, 1) := by decide +kernel
theorem dX2_amount_160 : decode cX2_amount 160 = .ok (.aload_n 0, 1) := by decide +kernel
theorem dX2_amount_161 : decode cX2_amount 161 = .ok (.invokevirtual 28, 3) := by decide +kernel
theorem dX2_amount_164 : decode cX2_amount 164 = .ok (.iload 6, 2) := by decide +kernel
theorem dX2_amount_166 : decode cX2_amount 166 = .ok (.invokestatic 61, 3) := by decide +kernel
theorem dX2_amount_169 : decode cX2_amount 169 = .ok (.invokevirtual 32, 3) := by decide +kernel
theorem dX2_amount_172 : decode cX2_amount 172 = .ok (.iinc 5 1, 3) := by decide +kernel
theorem dX2_amount_175 : decode cX2_amount 175 = .ok (.goto (-167), 3) := by decide +kernel
theorem dX2_amount_178 : decode cX2_amount 178 = .ok (.aload_n 0, 1) := by decide +kernel
theorem dX2_amount_179 : decode cX2_amount 179 = .ok (.invokevirtual 28, 3) := by decide +kernel
theorem dX2_amount_182 : decode cX2_amount 182 = .ok (.ireturn, 1) := by decide +kernel
section
variable {p : Program} {l : Launch} {e : Env} {s : State} {m : MethodId} {args : Array Value} {below : List Frame} {meth : Method} {c : Code} {D : va_G} {cy : Nat → ClassId} {ad : Nat → Nat} {A : Nat → Prop} {aM aB aO aI aN aT aC aG aR aQ aK aL aX aH aJ aP aU aE0 aE1 aE2 aE3 : Nat → Nat} {gi : Value}
abbrev rm2_put : Room := { frames := 0, cells := 0, slots := 0, locals := 0 }
theorem hdV2_put : yX2_put.cls = RX2 ∧ (yX2_put.cls ≠ "java/lang/invoke/MethodHandle" ∧ yX2_put.cls ≠ "java/lang/invoke/VarHandle" ∧ (parseMethodDescriptor yX2_put.desc).map (fun d => d.parameters.length) = some 2) := by decide +kernel
theorem hin2_put_2 : ∀ x ∈ u_ws RX2 TX2 5, x ∈ wsX2_put := fun _ h => List.mem_cons_of_mem _ (List.mem_append_right _ h)
set_option maxRecDepth 100000 in
set_option maxHeartbeats 4000000 in
theorem t2_put_40 (hC : Cx p s m args meth c cX2_put 3 wsX2_put RX2 none) : ∀ (SC : Ob) (res : Ob) (H : Heap) (locs : List Loc) (ls : Array Slot), f2_put_40 SC = some res → GW D cy ad (w2 cy aC SC) A s H locs → lv_has ls 3 [] → W p l e rm2_put s m args below meth c H locs 0 0 (MQ below (QV D cy (w2 cy aC res) A) args s 0 0 A) (F0 m 40 ls []) := by
  intro SC res H locs ls hf hW hl
  unfold f2_put_40 at hf
  obtain rfl := Option.some.inj hf
  exact g_vret hC hW dX2_put_40
set_option maxRecDepth 100000 in
set_option maxHeartbeats 4000000 in
theorem t2_put_0 (hC : Cx p s m args meth c cX2_put 3 wsX2_put RX2 none) : ∀ (x1 : Int32) (x2 : Int32) (SC : Ob) (res : Ob) (H : Heap) (locs : List Loc) (ls : Array Slot), f2_put x1 x2 SC = some res → GW D cy ad (w2 cy aC SC) A s H locs → lv_has ls 3 [(0, .ref (aC 0)), (1, .int x1), (2, .int x2)] → W p l e rm2_put s m args below meth c H locs 0 0 (MQ below (QV D cy (w2 cy aC res) A) args s 0 0 A) (F0 m 0 ls []) := by
  intro x1 x2 SC res H locs ls hf hW hl
  unfold f2_put at hf
  refine lv_aload_n hC.1 hC.2.1 dX2_put_0 rfl (lv_at hl 0 rfl) ?_
  refine g_get hC hW hin2_put_2 0 rfl rfl 3 (by decide) 1 rfl rfl dX2_put_1 ?_
  refine lv_sipush (v := 1000) hC.1 hC.2.1 dX2_put_4 (by decide) ?_
  refine lv_icmp_ge (tgt := 40) hC.1 hC.2.1 dX2_put_7 (by decide) (fun hc_1 => ?_) (fun hc_1 => ?_)
  · have hf := ite_t hf hc_1
    exact t2_put_40 hC  _ _ _ _ _ hf hW (lv_sub hl [] rfl)
  · have hf := ite_f hf hc_1
    refine lv_aload_n hC.1 hC.2.1 dX2_put_10 rfl (lv_at hl 0 rfl) ?_
    refine g_get hC hW hin2_put_2 0 rfl rfl 0 (by decide) 2 rfl rfl dX2_put_11 ?_
    refine lv_aload_n hC.1 hC.2.1 dX2_put_14 rfl (lv_at hl 0 rfl) ?_
    refine g_get hC hW hin2_put_2 0 rfl rfl 3 (by decide) 1 rfl rfl dX2_put_15 ?_
    refine lv_iload_n hC.1 hC.2.1 dX2_put_18 rfl (lv_at hl 1 rfl) ?_
    obtain ⟨hi_2, hf⟩ := ck_of hf
    obtain ⟨SC_3, eSC_3⟩ : ∃ y : Ob, y = oA SC 0 (Int32.toNatClampNeg (SC.1 3)) x1 := ⟨_, rfl⟩
    have hf := lt_nm hf eSC_3
    refine g_iast hC hW 1 rfl hi_2 (w' := w2 cy aC SC_3) (by rw [eSC_3]; rfl) dX2_put_19 (fun H locs hW => ?_)
    refine lv_aload_n hC.1 hC.2.1 dX2_put_20 rfl (lv_at hl 0 rfl) ?_
    refine g_get hC hW hin2_put_2 0 rfl rfl 1 (by decide) 3 rfl rfl dX2_put_21 ?_
    refine lv_aload_n hC.1 hC.2.1 dX2_put_24 rfl (lv_at hl 0 rfl) ?_
    refine g_get hC hW hin2_put_2 0 rfl rfl 3 (by decide) 1 rfl rfl dX2_put_25 ?_
    refine lv_iload_n hC.1 hC.2.1 dX2_put_28 rfl (lv_at hl 2 rfl) ?_
    obtain ⟨hi_4, hf⟩ := ck_of hf
    obtain ⟨SC_5, eSC_5⟩ : ∃ y : Ob, y = oA SC_3 1 (Int32.toNatClampNeg (SC_3.1 3)) x2 := ⟨_, rfl⟩
    have hf := lt_nm hf eSC_5
    refine g_iast hC hW 2 rfl hi_4 (w' := w2 cy aC SC_5) (by rw [eSC_5]; rfl) dX2_put_29 (fun H locs hW => ?_)
    refine lv_aload_n hC.1 hC.2.1 dX2_put_30 rfl (lv_at hl 0 rfl) ?_
    refine lv_dup hC.1 hC.2.1 dX2_put_31 rfl ?_
    refine g_get hC hW hin2_put_2 0 rfl rfl 3 (by decide) 1 rfl rfl dX2_put_32 ?_
    refine lv_iconst (v := 1) hC.1 hC.2.1 dX2_put_35 (by decide) ?_
    refine lv_iadd hC.1 hC.2.1 dX2_put_36 ?_
    obtain ⟨SC_6, eSC_6⟩ : ∃ y : Ob, y = oI SC_5 3 ((SC_5.1 3) + 1) := ⟨_, rfl⟩
    have hf := lt_nm hf eSC_6
    refine g_put hC hW hin2_put_2 tyX2 tyX2_ok nmX2 0 rfl rfl 3 (by decide) 1 rfl rfl rfl rfl (Nat.le_of_ble_eq_true rfl) (w' := w2 cy aC SC_6) (by rw [eSC_6]; rfl) dX2_put_37 (fun H locs hW => ?_)
    exact t2_put_40 hC  _ _ _ _ _ hf hW (lv_sub hl [] rfl)
set_option maxRecDepth 100000 in
set_option maxHeartbeats 4000000 in
theorem c2_put (l : Launch) (D : va_G) (cy : Nat → ClassId) (ad : Nat → Nat) (aC : Nat → Nat) {x1 : Int32} {x2 : Int32} {SC : Ob} {res : Ob} (h : f2_put x1 x2 SC = some res) : GCv l yX2_put wsX2_put rm2_put [.ref (aC 0), .int x1, .int x2] D cy ad (w2 cy aC SC) (w2 cy aC res) := fun sz => GC.start (own := RX2) (Qc := fun A => QV D cy (w2 cy aC res) A) sz (by decide) rfl rfl (Nat.le_of_ble_eq_true rfl) (fun p e s m below meth c A ls hC hW hl => t2_put_0 hC _ _ _ _ _ _ _ h hW (lv_sub hl [0, 1, 2] rfl))
abbrev rm2_pop : Room := { frames := 0, cells := 0, slots := 0, locals := 0 }
theorem hdV2_pop : yX2_pop.cls = RX2 ∧ (yX2_pop.cls ≠ "java/lang/invoke/MethodHandle" ∧ yX2_pop.cls ≠ "java/lang/invoke/VarHandle" ∧ (parseMethodDescriptor yX2_pop.desc).map (fun d => d.parameters.length) = some 0) := by decide +kernel
theorem hin2_pop_2 : ∀ x ∈ u_ws RX2 TX2 5, x ∈ wsX2_pop := fun _ h => List.mem_cons_of_mem _ (List.mem_append_right _ h)
set_option maxRecDepth 100000 in
set_option maxHeartbeats 4000000 in
theorem t2_pop_0 (hC : Cx p s m args meth c cX2_pop 1 wsX2_pop RX2 (some .int)) : ∀ (SC : Ob) (res : Int32 × Ob) (H : Heap) (locs : List Loc) (ls : Array Slot), f2_pop SC = some res → GW D cy ad (w2 cy aC SC) A s H locs → lv_has ls 1 [(0, .ref (aC 0))] → W p l e rm2_pop s m args below meth c H locs 0 0 (MQ below (QI D cy (w2 cy aC (res.2)) A (res.1)) args s 0 0 A) (F0 m 0 ls []) := by
  intro SC res H locs ls hf hW hl
  unfold f2_pop at hf
  refine lv_aload_n hC.1 hC.2.1 dX2_pop_0 rfl (lv_at hl 0 rfl) ?_
  refine g_get hC hW hin2_pop_2 0 rfl rfl 4 (by decide) 1 rfl rfl dX2_pop_1 ?_
  refine lv_if_gt (tgt := 9) hC.1 hC.2.1 dX2_pop_4 (by decide) (fun hc_1 => ?_) (fun hc_1 => ?_)
  · have hf := ite_t hf hc_1
    refine lv_aload_n hC.1 hC.2.1 dX2_pop_9 rfl (lv_at hl 0 rfl) ?_
    refine lv_dup hC.1 hC.2.1 dX2_pop_10 rfl ?_
    refine g_get hC hW hin2_pop_2 0 rfl rfl 4 (by decide) 1 rfl rfl dX2_pop_11 ?_
    refine lv_iconst (v := 1) hC.1 hC.2.1 dX2_pop_14 (by decide) ?_
    refine lv_isub hC.1 hC.2.1 dX2_pop_15 ?_
    obtain ⟨SC_2, eSC_2⟩ : ∃ y : Ob, y = oI SC 4 ((SC.1 4) - 1) := ⟨_, rfl⟩
    have hf := lt_nm hf eSC_2
    refine g_put hC hW hin2_pop_2 tyX2 tyX2_ok nmX2 0 rfl rfl 4 (by decide) 1 rfl rfl rfl rfl (Nat.le_of_ble_eq_true rfl) (w' := w2 cy aC SC_2) (by rw [eSC_2]; rfl) dX2_pop_16 (fun H locs hW => ?_)
    refine lv_aload_n hC.1 hC.2.1 dX2_pop_19 rfl (lv_at hl 0 rfl) ?_
    refine g_get hC hW hin2_pop_2 0 rfl rfl 2 (by decide) 2 rfl rfl dX2_pop_20 ?_
    refine lv_aload_n hC.1 hC.2.1 dX2_pop_23 rfl (lv_at hl 0 rfl) ?_
    refine g_get hC hW hin2_pop_2 0 rfl rfl 4 (by decide) 1 rfl rfl dX2_pop_24 ?_
    obtain ⟨hi_3, hf⟩ := ck_of hf
    refine g_iald hC hW 3 rfl hi_3 dX2_pop_27 ?_
    obtain rfl := Option.some.inj hf
    exact g_iret hC hW dX2_pop_28
  · have hf := ite_f hf hc_1
    refine lv_iconst (v := 0) hC.1 hC.2.1 dX2_pop_7 (by decide) ?_
    obtain rfl := Option.some.inj hf
    exact g_iret hC hW dX2_pop_8
set_option maxRecDepth 100000 in
set_option maxHeartbeats 4000000 in
theorem c2_pop (l : Launch) (D : va_G) (cy : Nat → ClassId) (ad : Nat → Nat) (aC : Nat → Nat) {SC : Ob} {res : Int32 × Ob} (h : f2_pop SC = some res) : GCi l yX2_pop wsX2_pop rm2_pop [.ref (aC 0)] D cy ad (w2 cy aC SC) (w2 cy aC (res.2)) (res.1) := fun sz => GC.start (own := RX2) (Qc := fun A => QI D cy (w2 cy aC (res.2)) A (res.1)) sz (by decide) rfl rfl (Nat.le_of_ble_eq_true rfl) (fun p e s m below meth c A ls hC hW hl => t2_pop_0 hC _ _ _ _ _ h hW (lv_sub hl [0] rfl))
abbrev rm2_push : Room := { frames := 0, cells := 0, slots := 0, locals := 0 }
theorem hdV2_push : yX2_push.cls = RX2 ∧ (yX2_push.cls ≠ "java/lang/invoke/MethodHandle" ∧ yX2_push.cls ≠ "java/lang/invoke/VarHandle" ∧ (parseMethodDescriptor yX2_push.desc).map (fun d => d.parameters.length) = some 1) := by decide +kernel
theorem hin2_push_2 : ∀ x ∈ u_ws RX2 TX2 5, x ∈ wsX2_push := fun _ h => List.mem_cons_of_mem _ (List.mem_append_right _ h)
set_option maxRecDepth 100000 in
set_option maxHeartbeats 4000000 in
theorem t2_push_32 (hC : Cx p s m args meth c cX2_push 2 wsX2_push RX2 none) : ∀ (SC : Ob) (res : Ob) (H : Heap) (locs : List Loc) (ls : Array Slot), f2_push_32 SC = some res → GW D cy ad (w2 cy aC SC) A s H locs → lv_has ls 2 [] → W p l e rm2_push s m args below meth c H locs 0 0 (MQ below (QV D cy (w2 cy aC res) A) args s 0 0 A) (F0 m 32 ls []) := by
  intro SC res H locs ls hf hW hl
  unfold f2_push_32 at hf
  obtain rfl := Option.some.inj hf
  exact g_vret hC hW dX2_push_32
set_option maxRecDepth 100000 in
set_option maxHeartbeats 4000000 in
theorem t2_push_0 (hC : Cx p s m args meth c cX2_push 2 wsX2_push RX2 none) : ∀ (x1 : Int32) (SC : Ob) (res : Ob) (H : Heap) (locs : List Loc) (ls : Array Slot), f2_push x1 SC = some res → GW D cy ad (w2 cy aC SC) A s H locs → lv_has ls 2 [(0, .ref (aC 0)), (1, .int x1)] → W p l e rm2_push s m args below meth c H locs 0 0 (MQ below (QV D cy (w2 cy aC res) A) args s 0 0 A) (F0 m 0 ls []) := by
  intro x1 SC res H locs ls hf hW hl
  unfold f2_push at hf
  refine lv_aload_n hC.1 hC.2.1 dX2_push_0 rfl (lv_at hl 0 rfl) ?_
  refine g_get hC hW hin2_push_2 0 rfl rfl 4 (by decide) 1 rfl rfl dX2_push_1 ?_
  refine lv_aload_n hC.1 hC.2.1 dX2_push_4 rfl (lv_at hl 0 rfl) ?_
  refine g_get hC hW hin2_push_2 0 rfl rfl 2 (by decide) 2 rfl rfl dX2_push_5 ?_
  refine va_alen hC.1 hC.2.1 hW.2.2.1 hW.1 3 0 rfl rfl (v := 64) rfl dX2_push_8 ?_
  refine lv_icmp_ge (tgt := 32) hC.1 hC.2.1 dX2_push_9 (by decide) (fun hc_1 => ?_) (fun hc_1 => ?_)
  · have hf := ite_t hf hc_1
    exact t2_push_32 hC  _ _ _ _ _ hf hW (lv_sub hl [] rfl)
  · have hf := ite_f hf hc_1
    refine lv_aload_n hC.1 hC.2.1 dX2_push_12 rfl (lv_at hl 0 rfl) ?_
    refine g_get hC hW hin2_push_2 0 rfl rfl 2 (by decide) 2 rfl rfl dX2_push_13 ?_
    refine lv_aload_n hC.1 hC.2.1 dX2_push_16 rfl (lv_at hl 0 rfl) ?_
    refine g_get hC hW hin2_push_2 0 rfl rfl 4 (by decide) 1 rfl rfl dX2_push_17 ?_
    refine lv_iload_n hC.1 hC.2.1 dX2_push_20 rfl (lv_at hl 1 rfl) ?_
    obtain ⟨hi_2, hf⟩ := ck_of hf
    obtain ⟨SC_3, eSC_3⟩ : ∃ y : Ob, y = oA SC 2 (Int32.toNatClampNeg (SC.1 4)) x1 := ⟨_, rfl⟩
    have hf := lt_nm hf eSC_3
    refine g_iast hC hW 3 rfl hi_2 (w' := w2 cy aC SC_3) (by rw [eSC_3]; rfl) dX2_push_21 (fun H locs hW => ?_)
    refine lv_aload_n hC.1 hC.2.1 dX2_push_22 rfl (lv_at hl 0 rfl) ?_
    refine lv_dup hC.1 hC.2.1 dX2_push_23 rfl ?_
    refine g_get hC hW hin2_push_2 0 rfl rfl 4 (by decide) 1 rfl rfl dX2_push_24 ?_
    refine lv_iconst (v := 1) hC.1 hC.2.1 dX2_push_27 (by decide) ?_
    refine lv_iadd hC.1 hC.2.1 dX2_push_28 ?_
    obtain ⟨SC_4, eSC_4⟩ : ∃ y : Ob, y = oI SC_3 4 ((SC_3.1 4) + 1) := ⟨_, rfl⟩
    have hf := lt_nm hf eSC_4
    refine g_put hC hW hin2_push_2 tyX2 tyX2_ok nmX2 0 rfl rfl 4 (by decide) 1 rfl rfl rfl rfl (Nat.le_of_ble_eq_true rfl) (w' := w2 cy aC SC_4) (by rw [eSC_4]; rfl) dX2_push_29 (fun H locs hW => ?_)
    exact t2_push_32 hC  _ _ _ _ _ hf hW (lv_sub hl [] rfl)
set_option maxRecDepth 100000 in
set_option maxHeartbeats 4000000 in
theorem c2_push (l : Launch) (D : va_G) (cy : Nat → ClassId) (ad : Nat → Nat) (aC : Nat → Nat) {x1 : Int32} {SC : Ob} {res : Ob} (h : f2_push x1 SC = some res) : GCv l yX2_push wsX2_push rm2_push [.ref (aC 0), .int x1] D cy ad (w2 cy aC SC) (w2 cy aC res) := fun sz => GC.start (own := RX2) (Qc := fun A => QV D cy (w2 cy aC res) A) sz (by decide) rfl rfl (Nat.le_of_ble_eq_true rfl) (fun p e s m below meth c A ls hC hW hl => t2_push_0 hC _ _ _ _ _ _ h hW (lv_sub hl [0, 1] rfl))
abbrev rm2_worlds : Room := { frames := 3, cells := 0, slots := 0, locals := 67 }
theorem hdV2_worlds : yX2_worlds.cls = RX2 ∧ (yX2_worlds.cls ≠ "java/lang/invoke/MethodHandle" ∧ yX2_worlds.cls ≠ "java/lang/invoke/VarHandle" ∧ (parseMethodDescriptor yX2_worlds.desc).map (fun d => d.parameters.length) = some 3) := by decide +kernel
theorem hin2_worlds_2 : ∀ x ∈ u_ws RX2 TX2 5, x ∈ wsX2_worlds := fun _ h => List.mem_cons_of_mem _ (List.mem_append_left _ (List.mem_append_right _ h))
set_option maxRecDepth 100000 in
set_option maxHeartbeats 4000000 in
theorem t2_worlds_155 (hC : Cx p s m args meth c cX2_worlds 6 wsX2_worlds RX2 (some .int)) {k8 : Int32 → Int32 → Ob → Ob → Option (Int32 × Ob)} (hk8 : ∀ (x3 : Int32) (x4 : Int32) (SC : Ob) (SI : Ob) (res : Int32 × Ob) (H : Heap) (locs : List Loc) (ls : Array Slot), k8 x3 x4 SC SI = some res → GW D cy ad (w2 cy aC SC ++ (w4 cy aI SI)) A s H locs → lv_has ls 6 [(0, .ref (aC 0)), (1, .ref (aI 0)), (3, .int x3), (4, .int x4)] → W p l e rm2_worlds s m args below meth c H locs 0 0 (MQ below (QI D cy (w2 cy aC (res.2) ++ (w4 cy aI SI)) A (res.1)) args s 0 0 A) (F0 m 8 ls [])) : ∀ (x3 : Int32) (x4 : Int32) (SC : Ob) (SI : Ob) (res : Int32 × Ob) (H : Heap) (locs : List Loc) (ls : Array Slot), f2_worlds_155 k8 x3 x4 SC SI = some res → GW D cy ad (w2 cy aC SC ++ (w4 cy aI SI)) A s H locs → lv_has ls 6 [(0, .ref (aC 0)), (1, .ref (aI 0)), (3, .int x3), (4, .int x4)] → W p l e rm2_worlds s m args below meth c H locs 0 0 (MQ below (QI D cy (w2 cy aC (res.2) ++ (w4 cy aI SI)) A (res.1)) args s 0 0 A) (F0 m 155 ls []) := by
  intro x3 x4 SC SI res H locs ls hf hW hl
  unfold f2_worlds_155 at hf
  obtain ⟨x4_1, ex4_1⟩ : ∃ y : Int32, y = x4 + 1 := ⟨_, rfl⟩
  have hf := lt_nm hf ex4_1
  refine lv_iinc (v := x4_1) (lv' := [(4, .int x4_1), (0, .ref (aC 0)), (1, .ref (aI 0)), (3, .int x3)]) hC.1 hC.2.1 dX2_worlds_155 hl (k := 3) rfl (by rw [ex4_1]; rfl) (by decide) rfl (fun ls hl => ?_)
  refine lv_goto (tgt := 8) hC.1 hC.2.1 dX2_worlds_158 (by decide) ?_
  exact hk8 _ _ _ _ _ _ _ _ hf hW (lv_sub hl [1, 2, 3, 0] rfl)
set_option maxRecDepth 100000 in
set_option maxHeartbeats 4000000 in
theorem t2_worlds_161 (hC : Cx p s m args meth c cX2_worlds 6 wsX2_worlds RX2 (some .int)) : ∀ (SC : Ob) (SI : Ob) (res : Int32 × Ob) (H : Heap) (locs : List Loc) (ls : Array Slot), f2_worlds_161 SC SI = some res → GW D cy ad (w2 cy aC SC ++ (w4 cy aI SI)) A s H locs → lv_has ls 6 [(0, .ref (aC 0)), (1, .ref (aI 0))] → W p l e rm2_worlds s m args below meth c H locs 0 0 (MQ below (QI D cy (w2 cy aC (res.2) ++ (w4 cy aI SI)) A (res.1)) args s 0 0 A) (F0 m 161 ls []) := by
  intro SC SI res H locs ls hf hW hl
  unfold f2_worlds_161 at hf
  refine lv_aload_n hC.1 hC.2.1 dX2_worlds_161 rfl (lv_at hl 0 rfl) ?_
  obtain ⟨r_1, hg_2, hf⟩ := bd_of hf
  refine g_calliV (w' := w2 cy aC (r_1.2) ++ (w4 cy aI SI)) hC hW (c2_pop l D cy ad aC hg_2) (cwV 0 hC.2.2.2.2.1 gX2_worlds_X2_pop rfl rfl rfl hdV2_pop ⟨Nat.le_of_ble_eq_true rfl, Nat.le_of_ble_eq_true rfl⟩) (⟨[0, 1, 2, 3], [4, 5, 6, 7, 8, 9, 10, 11, 12, 13, 14, 15], [12, 13, 14, 15, 0, 1, 2, 3, 4, 5, 6, 7, 8, 9, 10, 11], w4 cy aI SI, rfl, rfl, rfl, rfl, by decide, rfl, rfl⟩) 0 2 rfl rfl rfl rfl hl.1 rfl (Nat.le_of_ble_eq_true rfl) dX2_worlds_162 ⟨Nat.zero_le _, Nat.zero_le _⟩ (fun H locs hW => ?_)
  refine lv_aload_n hC.1 hC.2.1 dX2_worlds_165 rfl (lv_at hl 1 rfl) ?_
  obtain ⟨r_3, hg_4, hf⟩ := bd_of hf
  refine g_calliV (w' := w2 cy aC (r_1.2) ++ (w4 cy aI SI)) hC hW (c4_all l D cy ad aI hg_4) (cwV 0 hC.2.2.2.2.1 gX2_worlds_X4_all rfl rfl rfl hdV4_all ⟨Nat.le_of_ble_eq_true rfl, Nat.le_of_ble_eq_true rfl⟩) (⟨[4, 5, 6, 7, 8, 9, 10, 11, 12, 13, 14, 15], [0, 1, 2, 3], [0, 1, 2, 3, 4, 5, 6, 7, 8, 9, 10, 11, 12, 13, 14, 15], w2 cy aC (r_1.2), rfl, rfl, rfl, rfl, by decide, rfl, rfl⟩) 0 4 rfl rfl rfl rfl hl.1 rfl (Nat.le_of_ble_eq_true rfl) dX2_worlds_166 ⟨Nat.zero_le _, Nat.zero_le _⟩ (fun H locs hW => ?_)
  refine lv_iand hC.1 hC.2.1 dX2_worlds_169 ?_
  obtain rfl := Option.some.inj hf
  exact g_iret hC hW dX2_worlds_170
set_option maxRecDepth 100000 in
set_option maxHeartbeats 4000000 in
theorem t2_worlds_8 (hC : Cx p s m args meth c cX2_worlds 6 wsX2_worlds RX2 (some .int)) : ∀ n : Nat, ∀ (x3 : Int32) (x4 : Int32) (SC : Ob) (SI : Ob) (res : Int32 × Ob) (H : Heap) (locs : List Loc) (ls : Array Slot), f2_worlds_8 n x3 x4 SC SI = some res → GW D cy ad (w2 cy aC SC ++ (w4 cy aI SI)) A s H locs → lv_has ls 6 [(0, .ref (aC 0)), (1, .ref (aI 0)), (3, .int x3), (4, .int x4)] → W p l e rm2_worlds s m args below meth c H locs 0 0 (MQ below (QI D cy (w2 cy aC (res.2) ++ (w4 cy aI SI)) A (res.1)) args s 0 0 A) (F0 m 8 ls []) := by
  intro n
  induction n with
  | zero =>
    intro _ _ _ _ _ _ _ _ hf _ _
    exact nomatch (show (none : Option (Int32 × Ob)) = some _ from hf)
  | succ n ih =>
    intro x3 x4 SC SI res H locs ls hf hW hl
    rw [f2_worlds_8] at hf
    refine lv_iload hC.1 hC.2.1 dX2_worlds_8 (lv_at hl 3 rfl) ?_
    refine lv_iload_n hC.1 hC.2.1 dX2_worlds_10 rfl (lv_at hl 2 rfl) ?_
    refine lv_icmp_ge (tgt := 161) hC.1 hC.2.1 dX2_worlds_11 (by decide) (fun hc_1 => ?_) (fun hc_1 => ?_)
    · have hf := ite_t hf hc_1
      exact t2_worlds_161 hC  _ _ _ _ _ _ hf hW (lv_sub hl [0, 1] rfl)
    · have hf := ite_f hf hc_1
      refine lv_iload hC.1 hC.2.1 dX2_worlds_14 (lv_at hl 3 rfl) ?_
      refine lv_sipush (v := 1000) hC.1 hC.2.1 dX2_worlds_16 (by decide) ?_
      refine lv_icmp_ge (tgt := 161) hC.1 hC.2.1 dX2_worlds_19 (by decide) (fun hc_2 => ?_) (fun hc_2 => ?_)
      · have hf := ite_t hf hc_2
        exact t2_worlds_161 hC  _ _ _ _ _ _ hf hW (lv_sub hl [0, 1] rfl)
      · have hf := ite_f hf hc_2
        refine lv_aload_n hC.1 hC.2.1 dX2_worlds_22 rfl (lv_at hl 0 rfl) ?_
        refine g_get hC hW hin2_worlds_2 0 rfl rfl 0 (by decide) 2 rfl rfl dX2_worlds_23 ?_
        refine lv_iload hC.1 hC.2.1 dX2_worlds_26 (lv_at hl 3 rfl) ?_
        obtain ⟨hi_3, hf⟩ := ck_of hf
        refine g_iald hC hW 1 rfl hi_3 dX2_worlds_28 ?_
        refine lv_topi (fun x5_4 ex5_4 => ?_)
        have hf := lt_nm hf ex5_4
        refine lv_istore (lv' := [(5, .int x5_4), (0, .ref (aC 0)), (1, .ref (aI 0)), (3, .int x3), (4, .int x4)]) hC.1 hC.2.1 dX2_worlds_29 hl (by decide) rfl (fun ls hl => ?_)
        refine lv_iload hC.1 hC.2.1 dX2_worlds_31 (lv_at hl 0 rfl) ?_
        refine lv_bipush (v := 26) hC.1 hC.2.1 dX2_worlds_33 (by decide) ?_
        refine lv_icmp_ne (tgt := 51) hC.1 hC.2.1 dX2_worlds_35 (by decide) (fun hc_5 => ?_) (fun hc_5 => ?_)
        · have hf := ite_f hf hc_5
          refine lv_iload hC.1 hC.2.1 dX2_worlds_51 (lv_at hl 0 rfl) ?_
          refine lv_bipush (v := 27) hC.1 hC.2.1 dX2_worlds_53 (by decide) ?_
          refine lv_icmp_ne (tgt := 74) hC.1 hC.2.1 dX2_worlds_55 (by decide) (fun hc_6 => ?_) (fun hc_6 => ?_)
          · have hf := ite_f hf hc_6
            refine lv_iload hC.1 hC.2.1 dX2_worlds_74 (lv_at hl 0 rfl) ?_
            refine lv_bipush (v := 28) hC.1 hC.2.1 dX2_worlds_76 (by decide) ?_
            refine lv_icmp_ne (tgt := 97) hC.1 hC.2.1 dX2_worlds_78 (by decide) (fun hc_7 => ?_) (fun hc_7 => ?_)
            · have hf := ite_f hf hc_7
              refine lv_iload hC.1 hC.2.1 dX2_worlds_97 (lv_at hl 0 rfl) ?_
              refine lv_if_ne (tgt := 120) hC.1 hC.2.1 dX2_worlds_99 (by decide) (fun hc_8 => ?_) (fun hc_8 => ?_)
              · have hf := ite_f hf hc_8
                refine lv_iload hC.1 hC.2.1 dX2_worlds_120 (lv_at hl 0 rfl) ?_
                refine lv_iconst (v := 3) hC.1 hC.2.1 dX2_worlds_122 (by decide) ?_
                refine lv_icmp_ne (tgt := 145) hC.1 hC.2.1 dX2_worlds_123 (by decide) (fun hc_9 => ?_) (fun hc_9 => ?_)
                · have hf := ite_f hf hc_9
                  refine lv_aload_n hC.1 hC.2.1 dX2_worlds_145 rfl (lv_at hl 1 rfl) ?_
                  refine lv_aload_n hC.1 hC.2.1 dX2_worlds_146 rfl (lv_at hl 2 rfl) ?_
                  refine lv_iload hC.1 hC.2.1 dX2_worlds_147 (lv_at hl 0 rfl) ?_
                  obtain ⟨r_10, hg_11, hf⟩ := bd_of hf
                  refine g_calliV (w' := w2 cy aC SC ++ (w4 cy aI SI)) hC hW (c4_worldsBy l D cy ad aI hg_11) (cwV 1 hC.2.2.2.2.1 gX2_worlds_X4_worldsBy rfl rfl rfl hdV4_worldsBy ⟨Nat.le_of_ble_eq_true rfl, Nat.le_of_ble_eq_true rfl⟩) (⟨[4, 5, 6, 7, 8, 9, 10, 11, 12, 13, 14, 15], [0, 1, 2, 3], [0, 1, 2, 3, 4, 5, 6, 7, 8, 9, 10, 11, 12, 13, 14, 15], w2 cy aC SC, rfl, rfl, rfl, rfl, by decide, rfl, rfl⟩) 0 4 rfl rfl rfl rfl hl.1 rfl (Nat.le_of_ble_eq_true rfl) dX2_worlds_149 ⟨Nat.zero_le _, Nat.zero_le _⟩ (fun H locs hW => ?_)
                  obtain ⟨r_12, hg_13, hf⟩ := bd_of hf
                  refine g_callvV (w' := w2 cy aC r_12 ++ (w4 cy aI SI)) hC hW (c2_push l D cy ad aC hg_13) (cwV 1 hC.2.2.2.2.1 gX2_worlds_X2_push rfl rfl rfl hdV2_push ⟨Nat.le_of_ble_eq_true rfl, Nat.le_of_ble_eq_true rfl⟩) (⟨[0, 1, 2, 3], [4, 5, 6, 7, 8, 9, 10, 11, 12, 13, 14, 15], [12, 13, 14, 15, 0, 1, 2, 3, 4, 5, 6, 7, 8, 9, 10, 11], w4 cy aI SI, rfl, rfl, rfl, rfl, by decide, rfl, rfl⟩) 0 2 rfl rfl rfl rfl hl.1 rfl (Nat.le_of_ble_eq_true rfl) dX2_worlds_152 ⟨Nat.zero_le _, Nat.zero_le _⟩ (fun H locs hW => ?_)
                  exact t2_worlds_155 hC ih  _ _ _ _ _ _ _ _ hf hW (lv_sub hl [1, 2, 3, 4] rfl)
                · have hf := ite_t hf hc_9
                  refine lv_aload_n hC.1 hC.2.1 dX2_worlds_126 rfl (lv_at hl 1 rfl) ?_
                  refine lv_aload_n hC.1 hC.2.1 dX2_worlds_127 rfl (lv_at hl 2 rfl) ?_
                  refine lv_aload_n hC.1 hC.2.1 dX2_worlds_128 rfl (lv_at hl 1 rfl) ?_
                  refine g_get hC hW hin2_worlds_2 0 rfl rfl 1 (by decide) 3 rfl rfl dX2_worlds_129 ?_
                  refine lv_iload hC.1 hC.2.1 dX2_worlds_132 (lv_at hl 4 rfl) ?_
                  obtain ⟨hi_14, hf⟩ := ck_of hf
                  refine g_iald hC hW 2 rfl hi_14 dX2_worlds_134 ?_
                  refine lv_iconst (v := 1) hC.1 hC.2.1 dX2_worlds_135 (by decide) ?_
                  obtain ⟨r_15, hg_16, hf⟩ := bd_of hf
                  refine g_calliV (w' := w2 cy aC SC ++ (w4 cy aI SI)) hC hW (c4_worldsShowing l D cy ad aI hg_16) (cwV 2 hC.2.2.2.2.1 gX2_worlds_X4_worldsShowing rfl rfl rfl hdV4_worldsShowing ⟨Nat.le_of_ble_eq_true rfl, Nat.le_of_ble_eq_true rfl⟩) (⟨[4, 5, 6, 7, 8, 9, 10, 11, 12, 13, 14, 15], [0, 1, 2, 3], [0, 1, 2, 3, 4, 5, 6, 7, 8, 9, 10, 11, 12, 13, 14, 15], w2 cy aC SC, rfl, rfl, rfl, rfl, by decide, rfl, rfl⟩) 0 4 rfl rfl rfl rfl hl.1 rfl (Nat.le_of_ble_eq_true rfl) dX2_worlds_136 ⟨Nat.zero_le _, Nat.zero_le _⟩ (fun H locs hW => ?_)
                  obtain ⟨r_17, hg_18, hf⟩ := bd_of hf
                  refine g_callvV (w' := w2 cy aC r_17 ++ (w4 cy aI SI)) hC hW (c2_push l D cy ad aC hg_18) (cwV 1 hC.2.2.2.2.1 gX2_worlds_X2_push rfl rfl rfl hdV2_push ⟨Nat.le_of_ble_eq_true rfl, Nat.le_of_ble_eq_true rfl⟩) (⟨[0, 1, 2, 3], [4, 5, 6, 7, 8, 9, 10, 11, 12, 13, 14, 15], [12, 13, 14, 15, 0, 1, 2, 3, 4, 5, 6, 7, 8, 9, 10, 11], w4 cy aI SI, rfl, rfl, rfl, rfl, by decide, rfl, rfl⟩) 0 2 rfl rfl rfl rfl hl.1 rfl (Nat.le_of_ble_eq_true rfl) dX2_worlds_139 ⟨Nat.zero_le _, Nat.zero_le _⟩ (fun H locs hW => ?_)
                  refine lv_goto (tgt := 155) hC.1 hC.2.1 dX2_worlds_142 (by decide) ?_
                  exact t2_worlds_155 hC ih  _ _ _ _ _ _ _ _ hf hW (lv_sub hl [1, 2, 3, 4] rfl)
              · have hf := ite_t hf hc_8
                refine lv_aload_n hC.1 hC.2.1 dX2_worlds_102 rfl (lv_at hl 1 rfl) ?_
                refine lv_aload_n hC.1 hC.2.1 dX2_worlds_103 rfl (lv_at hl 2 rfl) ?_
                refine lv_aload_n hC.1 hC.2.1 dX2_worlds_104 rfl (lv_at hl 1 rfl) ?_
                refine g_get hC hW hin2_worlds_2 0 rfl rfl 1 (by decide) 3 rfl rfl dX2_worlds_105 ?_
                refine lv_iload hC.1 hC.2.1 dX2_worlds_108 (lv_at hl 4 rfl) ?_
                obtain ⟨hi_19, hf⟩ := ck_of hf
                refine g_iald hC hW 2 rfl hi_19 dX2_worlds_110 ?_
                obtain ⟨r_20, hg_21, hf⟩ := bd_of hf
                refine g_calliV (w' := w2 cy aC SC ++ (w4 cy aI SI)) hC hW (c4_worldsOf l D cy ad aI hg_21) (cwV 1 hC.2.2.2.2.1 gX2_worlds_X4_worldsOf rfl rfl rfl hdV4_worldsOf ⟨Nat.le_of_ble_eq_true rfl, Nat.le_of_ble_eq_true rfl⟩) (⟨[4, 5, 6, 7, 8, 9, 10, 11, 12, 13, 14, 15], [0, 1, 2, 3], [0, 1, 2, 3, 4, 5, 6, 7, 8, 9, 10, 11, 12, 13, 14, 15], w2 cy aC SC, rfl, rfl, rfl, rfl, by decide, rfl, rfl⟩) 0 4 rfl rfl rfl rfl hl.1 rfl (Nat.le_of_ble_eq_true rfl) dX2_worlds_111 ⟨Nat.zero_le _, Nat.zero_le _⟩ (fun H locs hW => ?_)
                obtain ⟨r_22, hg_23, hf⟩ := bd_of hf
                refine g_callvV (w' := w2 cy aC r_22 ++ (w4 cy aI SI)) hC hW (c2_push l D cy ad aC hg_23) (cwV 1 hC.2.2.2.2.1 gX2_worlds_X2_push rfl rfl rfl hdV2_push ⟨Nat.le_of_ble_eq_true rfl, Nat.le_of_ble_eq_true rfl⟩) (⟨[0, 1, 2, 3], [4, 5, 6, 7, 8, 9, 10, 11, 12, 13, 14, 15], [12, 13, 14, 15, 0, 1, 2, 3, 4, 5, 6, 7, 8, 9, 10, 11], w4 cy aI SI, rfl, rfl, rfl, rfl, by decide, rfl, rfl⟩) 0 2 rfl rfl rfl rfl hl.1 rfl (Nat.le_of_ble_eq_true rfl) dX2_worlds_114 ⟨Nat.zero_le _, Nat.zero_le _⟩ (fun H locs hW => ?_)
                refine lv_goto (tgt := 155) hC.1 hC.2.1 dX2_worlds_117 (by decide) ?_
                exact t2_worlds_155 hC ih  _ _ _ _ _ _ _ _ hf hW (lv_sub hl [1, 2, 3, 4] rfl)
            · have hf := ite_t hf hc_7
              refine lv_aload_n hC.1 hC.2.1 dX2_worlds_81 rfl (lv_at hl 1 rfl) ?_
              refine lv_aload_n hC.1 hC.2.1 dX2_worlds_82 rfl (lv_at hl 1 rfl) ?_
              obtain ⟨r_24, hg_25, hf⟩ := bd_of hf
              refine g_calliV (w' := w2 cy aC (r_24.2) ++ (w4 cy aI SI)) hC hW (c2_pop l D cy ad aC hg_25) (cwV 0 hC.2.2.2.2.1 gX2_worlds_X2_pop rfl rfl rfl hdV2_pop ⟨Nat.le_of_ble_eq_true rfl, Nat.le_of_ble_eq_true rfl⟩) (⟨[0, 1, 2, 3], [4, 5, 6, 7, 8, 9, 10, 11, 12, 13, 14, 15], [12, 13, 14, 15, 0, 1, 2, 3, 4, 5, 6, 7, 8, 9, 10, 11], w4 cy aI SI, rfl, rfl, rfl, rfl, by decide, rfl, rfl⟩) 0 2 rfl rfl rfl rfl hl.1 rfl (Nat.le_of_ble_eq_true rfl) dX2_worlds_83 ⟨Nat.zero_le _, Nat.zero_le _⟩ (fun H locs hW => ?_)
              refine lv_aload_n hC.1 hC.2.1 dX2_worlds_86 rfl (lv_at hl 1 rfl) ?_
              obtain ⟨r_26, hg_27, hf⟩ := bd_of hf
              refine g_calliV (w' := w2 cy aC (r_26.2) ++ (w4 cy aI SI)) hC hW (c2_pop l D cy ad aC hg_27) (cwV 0 hC.2.2.2.2.1 gX2_worlds_X2_pop rfl rfl rfl hdV2_pop ⟨Nat.le_of_ble_eq_true rfl, Nat.le_of_ble_eq_true rfl⟩) (⟨[0, 1, 2, 3], [4, 5, 6, 7, 8, 9, 10, 11, 12, 13, 14, 15], [12, 13, 14, 15, 0, 1, 2, 3, 4, 5, 6, 7, 8, 9, 10, 11], w4 cy aI SI, rfl, rfl, rfl, rfl, by decide, rfl, rfl⟩) 0 2 rfl rfl rfl rfl hl.1 rfl (Nat.le_of_ble_eq_true rfl) dX2_worlds_87 ⟨Nat.zero_le _, Nat.zero_le _⟩ (fun H locs hW => ?_)
              refine lv_ior hC.1 hC.2.1 dX2_worlds_90 ?_
              obtain ⟨r_28, hg_29, hf⟩ := bd_of hf
              refine g_callvV (w' := w2 cy aC r_28 ++ (w4 cy aI SI)) hC hW (c2_push l D cy ad aC hg_29) (cwV 1 hC.2.2.2.2.1 gX2_worlds_X2_push rfl rfl rfl hdV2_push ⟨Nat.le_of_ble_eq_true rfl, Nat.le_of_ble_eq_true rfl⟩) (⟨[0, 1, 2, 3], [4, 5, 6, 7, 8, 9, 10, 11, 12, 13, 14, 15], [12, 13, 14, 15, 0, 1, 2, 3, 4, 5, 6, 7, 8, 9, 10, 11], w4 cy aI SI, rfl, rfl, rfl, rfl, by decide, rfl, rfl⟩) 0 2 rfl rfl rfl rfl hl.1 rfl (Nat.le_of_ble_eq_true rfl) dX2_worlds_91 ⟨Nat.zero_le _, Nat.zero_le _⟩ (fun H locs hW => ?_)
              refine lv_goto (tgt := 155) hC.1 hC.2.1 dX2_worlds_94 (by decide) ?_
              exact t2_worlds_155 hC ih  _ _ _ _ _ _ _ _ hf hW (lv_sub hl [1, 2, 3, 4] rfl)
          · have hf := ite_t hf hc_6
            refine lv_aload_n hC.1 hC.2.1 dX2_worlds_58 rfl (lv_at hl 1 rfl) ?_
            refine lv_aload_n hC.1 hC.2.1 dX2_worlds_59 rfl (lv_at hl 1 rfl) ?_
            obtain ⟨r_30, hg_31, hf⟩ := bd_of hf
            refine g_calliV (w' := w2 cy aC (r_30.2) ++ (w4 cy aI SI)) hC hW (c2_pop l D cy ad aC hg_31) (cwV 0 hC.2.2.2.2.1 gX2_worlds_X2_pop rfl rfl rfl hdV2_pop ⟨Nat.le_of_ble_eq_true rfl, Nat.le_of_ble_eq_true rfl⟩) (⟨[0, 1, 2, 3], [4, 5, 6, 7, 8, 9, 10, 11, 12, 13, 14, 15], [12, 13, 14, 15, 0, 1, 2, 3, 4, 5, 6, 7, 8, 9, 10, 11], w4 cy aI SI, rfl, rfl, rfl, rfl, by decide, rfl, rfl⟩) 0 2 rfl rfl rfl rfl hl.1 rfl (Nat.le_of_ble_eq_true rfl) dX2_worlds_60 ⟨Nat.zero_le _, Nat.zero_le _⟩ (fun H locs hW => ?_)
            refine lv_aload_n hC.1 hC.2.1 dX2_worlds_63 rfl (lv_at hl 1 rfl) ?_
            obtain ⟨r_32, hg_33, hf⟩ := bd_of hf
            refine g_calliV (w' := w2 cy aC (r_32.2) ++ (w4 cy aI SI)) hC hW (c2_pop l D cy ad aC hg_33) (cwV 0 hC.2.2.2.2.1 gX2_worlds_X2_pop rfl rfl rfl hdV2_pop ⟨Nat.le_of_ble_eq_true rfl, Nat.le_of_ble_eq_true rfl⟩) (⟨[0, 1, 2, 3], [4, 5, 6, 7, 8, 9, 10, 11, 12, 13, 14, 15], [12, 13, 14, 15, 0, 1, 2, 3, 4, 5, 6, 7, 8, 9, 10, 11], w4 cy aI SI, rfl, rfl, rfl, rfl, by decide, rfl, rfl⟩) 0 2 rfl rfl rfl rfl hl.1 rfl (Nat.le_of_ble_eq_true rfl) dX2_worlds_64 ⟨Nat.zero_le _, Nat.zero_le _⟩ (fun H locs hW => ?_)
            refine lv_iand hC.1 hC.2.1 dX2_worlds_67 ?_
            obtain ⟨r_34, hg_35, hf⟩ := bd_of hf
            refine g_callvV (w' := w2 cy aC r_34 ++ (w4 cy aI SI)) hC hW (c2_push l D cy ad aC hg_35) (cwV 1 hC.2.2.2.2.1 gX2_worlds_X2_push rfl rfl rfl hdV2_push ⟨Nat.le_of_ble_eq_true rfl, Nat.le_of_ble_eq_true rfl⟩) (⟨[0, 1, 2, 3], [4, 5, 6, 7, 8, 9, 10, 11, 12, 13, 14, 15], [12, 13, 14, 15, 0, 1, 2, 3, 4, 5, 6, 7, 8, 9, 10, 11], w4 cy aI SI, rfl, rfl, rfl, rfl, by decide, rfl, rfl⟩) 0 2 rfl rfl rfl rfl hl.1 rfl (Nat.le_of_ble_eq_true rfl) dX2_worlds_68 ⟨Nat.zero_le _, Nat.zero_le _⟩ (fun H locs hW => ?_)
            refine lv_goto (tgt := 155) hC.1 hC.2.1 dX2_worlds_71 (by decide) ?_
            exact t2_worlds_155 hC ih  _ _ _ _ _ _ _ _ hf hW (lv_sub hl [1, 2, 3, 4] rfl)
        · have hf := ite_t hf hc_5
          refine lv_aload_n hC.1 hC.2.1 dX2_worlds_38 rfl (lv_at hl 1 rfl) ?_
          refine lv_aload_n hC.1 hC.2.1 dX2_worlds_39 rfl (lv_at hl 1 rfl) ?_
          obtain ⟨r_36, hg_37, hf⟩ := bd_of hf
          refine g_calliV (w' := w2 cy aC (r_36.2) ++ (w4 cy aI SI)) hC hW (c2_pop l D cy ad aC hg_37) (cwV 0 hC.2.2.2.2.1 gX2_worlds_X2_pop rfl rfl rfl hdV2_pop ⟨Nat.le_of_ble_eq_true rfl, Nat.le_of_ble_eq_true rfl⟩) (⟨[0, 1, 2, 3], [4, 5, 6, 7, 8, 9, 10, 11, 12, 13, 14, 15], [12, 13, 14, 15, 0, 1, 2, 3, 4, 5, 6, 7, 8, 9, 10, 11], w4 cy aI SI, rfl, rfl, rfl, rfl, by decide, rfl, rfl⟩) 0 2 rfl rfl rfl rfl hl.1 rfl (Nat.le_of_ble_eq_true rfl) dX2_worlds_40 ⟨Nat.zero_le _, Nat.zero_le _⟩ (fun H locs hW => ?_)
          refine lv_iconst (v := (-1)) hC.1 hC.2.1 dX2_worlds_43 (by decide) ?_
          refine lv_ixor hC.1 hC.2.1 dX2_worlds_44 ?_
          obtain ⟨r_38, hg_39, hf⟩ := bd_of hf
          refine g_callvV (w' := w2 cy aC r_38 ++ (w4 cy aI SI)) hC hW (c2_push l D cy ad aC hg_39) (cwV 1 hC.2.2.2.2.1 gX2_worlds_X2_push rfl rfl rfl hdV2_push ⟨Nat.le_of_ble_eq_true rfl, Nat.le_of_ble_eq_true rfl⟩) (⟨[0, 1, 2, 3], [4, 5, 6, 7, 8, 9, 10, 11, 12, 13, 14, 15], [12, 13, 14, 15, 0, 1, 2, 3, 4, 5, 6, 7, 8, 9, 10, 11], w4 cy aI SI, rfl, rfl, rfl, rfl, by decide, rfl, rfl⟩) 0 2 rfl rfl rfl rfl hl.1 rfl (Nat.le_of_ble_eq_true rfl) dX2_worlds_45 ⟨Nat.zero_le _, Nat.zero_le _⟩ (fun H locs hW => ?_)
          refine lv_goto (tgt := 155) hC.1 hC.2.1 dX2_worlds_48 (by decide) ?_
          exact t2_worlds_155 hC ih  _ _ _ _ _ _ _ _ hf hW (lv_sub hl [1, 2, 3, 4] rfl)
set_option maxRecDepth 100000 in
set_option maxHeartbeats 4000000 in
theorem t2_worlds_0 (hC : Cx p s m args meth c cX2_worlds 6 wsX2_worlds RX2 (some .int)) : ∀ (x2 : Int32) (x3 : Int32) (SC : Ob) (SI : Ob) (res : Int32 × Ob) (H : Heap) (locs : List Loc) (ls : Array Slot), f2_worlds x2 x3 SC SI = some res → GW D cy ad (w2 cy aC SC ++ (w4 cy aI SI)) A s H locs → lv_has ls 6 [(0, .ref (aC 0)), (1, .ref (aI 0)), (2, .int x2), (3, .int x3)] → W p l e rm2_worlds s m args below meth c H locs 0 0 (MQ below (QI D cy (w2 cy aC (res.2) ++ (w4 cy aI SI)) A (res.1)) args s 0 0 A) (F0 m 0 ls []) := by
  intro x2 x3 SC SI res H locs ls hf hW hl
  unfold f2_worlds at hf
  refine lv_aload_n hC.1 hC.2.1 dX2_worlds_0 rfl (lv_at hl 0 rfl) ?_
  refine lv_iconst (v := 0) hC.1 hC.2.1 dX2_worlds_1 (by decide) ?_
  obtain ⟨SC_1, eSC_1⟩ : ∃ y : Ob, y = oI SC 4 0 := ⟨_, rfl⟩
  have hf := lt_nm hf eSC_1
  refine g_put hC hW hin2_worlds_2 tyX2 tyX2_ok nmX2 0 rfl rfl 4 (by decide) 1 rfl rfl rfl rfl (Nat.le_of_ble_eq_true rfl) (w' := w2 cy aC SC_1 ++ (w4 cy aI SI)) (by rw [eSC_1]; rfl) dX2_worlds_2 (fun H locs hW => ?_)
  refine lv_iload_n hC.1 hC.2.1 dX2_worlds_5 rfl (lv_at hl 2 rfl) ?_
  refine lv_istore (lv' := [(4, .int x2), (0, .ref (aC 0)), (1, .ref (aI 0)), (2, .int x2), (3, .int x3)]) hC.1 hC.2.1 dX2_worlds_6 hl (by decide) rfl (fun ls hl => ?_)
  exact t2_worlds_8 hC _ _ _ _ _ _ _ _ _ hf hW (lv_sub hl [1, 2, 4, 0] rfl)
set_option maxRecDepth 100000 in
set_option maxHeartbeats 4000000 in
theorem c2_worlds (l : Launch) (D : va_G) (cy : Nat → ClassId) (ad : Nat → Nat) (aC : Nat → Nat) (aI : Nat → Nat) {x2 : Int32} {x3 : Int32} {SC : Ob} {SI : Ob} {res : Int32 × Ob} (h : f2_worlds x2 x3 SC SI = some res) : GCi l yX2_worlds wsX2_worlds rm2_worlds [.ref (aC 0), .ref (aI 0), .int x2, .int x3] D cy ad (w2 cy aC SC ++ (w4 cy aI SI)) (w2 cy aC (res.2) ++ (w4 cy aI SI)) (res.1) := fun sz => GC.start (own := RX2) (Qc := fun A => QI D cy (w2 cy aC (res.2) ++ (w4 cy aI SI)) A (res.1)) sz (by decide) rfl rfl (Nat.le_of_ble_eq_true rfl) (fun p e s m below meth c A ls hC hW hl => t2_worlds_0 hC _ _ _ _ _ _ _ _ h hW (lv_sub hl [0, 1, 2, 3] rfl))
abbrev rm2_joined : Room := { frames := 0, cells := 0, slots := 0, locals := 0 }
theorem hdS2_joined : (yX2_joined.cls ≠ "java/lang/invoke/MethodHandle" ∧ yX2_joined.cls ≠ "java/lang/invoke/VarHandle" ∧ (parseMethodDescriptor yX2_joined.desc).map (fun d => d.parameters.length) = some 3) := by decide +kernel
set_option maxRecDepth 100000 in
set_option maxHeartbeats 4000000 in
theorem t2_joined_82 (hC : Cx p s m args meth c cX2_joined 3 wsX2_joined RX2 (some .int)) : ∀ (z0 : Int32) (res : Int32) (H : Heap) (locs : List Loc) (ls : Array Slot), f2_joined_82 z0 = some res → GW D cy ad (([] : va_W)) A s H locs → lv_has ls 3 [] → W p l e rm2_joined s m args below meth c H locs 0 0 (MQ below (QI D cy (([] : va_W)) A res) args s 0 0 A) (F0 m 82 ls [.int z0]) := by
  intro z0 res H locs ls hf hW hl
  unfold f2_joined_82 at hf
  obtain rfl := Option.some.inj hf
  exact g_iret hC hW dX2_joined_82
set_option maxRecDepth 100000 in
set_option maxHeartbeats 4000000 in
theorem t2_joined_93 (hC : Cx p s m args meth c cX2_joined 3 wsX2_joined RX2 (some .int)) : ∀ (z0 : Int32) (res : Int32) (H : Heap) (locs : List Loc) (ls : Array Slot), f2_joined_93 z0 = some res → GW D cy ad (([] : va_W)) A s H locs → lv_has ls 3 [] → W p l e rm2_joined s m args below meth c H locs 0 0 (MQ below (QI D cy (([] : va_W)) A res) args s 0 0 A) (F0 m 93 ls [.int z0]) := by
  intro z0 res H locs ls hf hW hl
  unfold f2_joined_93 at hf
  obtain rfl := Option.some.inj hf
  exact g_iret hC hW dX2_joined_93
set_option maxRecDepth 100000 in
set_option maxHeartbeats 4000000 in
theorem t2_joined_107 (hC : Cx p s m args meth c cX2_joined 3 wsX2_joined RX2 (some .int)) : ∀ (z0 : Int32) (res : Int32) (H : Heap) (locs : List Loc) (ls : Array Slot), f2_joined_107 z0 = some res → GW D cy ad (([] : va_W)) A s H locs → lv_has ls 3 [] → W p l e rm2_joined s m args below meth c H locs 0 0 (MQ below (QI D cy (([] : va_W)) A res) args s 0 0 A) (F0 m 107 ls [.int z0]) := by
  intro z0 res H locs ls hf hW hl
  unfold f2_joined_107 at hf
  obtain rfl := Option.some.inj hf
  exact g_iret hC hW dX2_joined_107
set_option maxRecDepth 100000 in
set_option maxHeartbeats 4000000 in
theorem t2_joined_106 (hC : Cx p s m args meth c cX2_joined 3 wsX2_joined RX2 (some .int)) : ∀ (res : Int32) (H : Heap) (locs : List Loc) (ls : Array Slot), f2_joined_106 = some res → GW D cy ad (([] : va_W)) A s H locs → lv_has ls 3 [] → W p l e rm2_joined s m args below meth c H locs 0 0 (MQ below (QI D cy (([] : va_W)) A res) args s 0 0 A) (F0 m 106 ls []) := by
  intro res H locs ls hf hW hl
  unfold f2_joined_106 at hf
  refine lv_iconst (v := 0) hC.1 hC.2.1 dX2_joined_106 (by decide) ?_
  exact t2_joined_107 hC  _ _ _ _ _ hf hW (lv_sub hl [] rfl)
set_option maxRecDepth 100000 in
set_option maxHeartbeats 4000000 in
theorem t2_joined_121 (hC : Cx p s m args meth c cX2_joined 3 wsX2_joined RX2 (some .int)) : ∀ (z0 : Int32) (res : Int32) (H : Heap) (locs : List Loc) (ls : Array Slot), f2_joined_121 z0 = some res → GW D cy ad (([] : va_W)) A s H locs → lv_has ls 3 [] → W p l e rm2_joined s m args below meth c H locs 0 0 (MQ below (QI D cy (([] : va_W)) A res) args s 0 0 A) (F0 m 121 ls [.int z0]) := by
  intro z0 res H locs ls hf hW hl
  unfold f2_joined_121 at hf
  obtain rfl := Option.some.inj hf
  exact g_iret hC hW dX2_joined_121
set_option maxRecDepth 100000 in
set_option maxHeartbeats 4000000 in
theorem t2_joined_116 (hC : Cx p s m args meth c cX2_joined 3 wsX2_joined RX2 (some .int)) : ∀ (res : Int32) (H : Heap) (locs : List Loc) (ls : Array Slot), f2_joined_116 = some res → GW D cy ad (([] : va_W)) A s H locs → lv_has ls 3 [] → W p l e rm2_joined s m args below meth c H locs 0 0 (MQ below (QI D cy (([] : va_W)) A res) args s 0 0 A) (F0 m 116 ls []) := by
  intro res H locs ls hf hW hl
  unfold f2_joined_116 at hf
  refine lv_iconst (v := 1) hC.1 hC.2.1 dX2_joined_116 (by decide) ?_
  refine lv_goto (tgt := 121) hC.1 hC.2.1 dX2_joined_117 (by decide) ?_
  exact t2_joined_121 hC  _ _ _ _ _ hf hW (lv_sub hl [] rfl)
set_option maxRecDepth 100000 in
set_option maxHeartbeats 4000000 in
theorem t2_joined_0 (hC : Cx p s m args meth c cX2_joined 3 wsX2_joined RX2 (some .int)) : ∀ (x0 : Int32) (x1 : Int32) (x2 : Int32) (res : Int32) (H : Heap) (locs : List Loc) (ls : Array Slot), f2_joined x0 x1 x2 = some res → GW D cy ad (([] : va_W)) A s H locs → lv_has ls 3 [(0, .int x0), (1, .int x1), (2, .int x2)] → W p l e rm2_joined s m args below meth c H locs 0 0 (MQ below (QI D cy (([] : va_W)) A res) args s 0 0 A) (F0 m 0 ls []) := by
  intro x0 x1 x2 res H locs ls hf hW hl
  unfold f2_joined at hf
  refine lv_iload_n hC.1 hC.2.1 dX2_joined_0 rfl (lv_at hl 0 rfl) ?_
  by_cases hc_1 : x0 = 27
  · have hf := ite_t hf hc_1
    refine lv_lookup (tgt := 94) hC.1 hC.2.1 dX2_joined_1 (by decide) (by rw [hc_1] <;> rfl) (by decide) ?_
    refine lv_iload_n hC.1 hC.2.1 dX2_joined_94 rfl (lv_at hl 1 rfl) ?_
    refine lv_if_eq (tgt := 106) hC.1 hC.2.1 dX2_joined_95 (by decide) (fun hc_2 => ?_) (fun hc_2 => ?_)
    · have hf := ite_t hf hc_2
      exact t2_joined_106 hC  _ _ _ _ hf hW (lv_sub hl [] rfl)
    · have hf := ite_f hf hc_2
      refine lv_iload_n hC.1 hC.2.1 dX2_joined_98 rfl (lv_at hl 2 rfl) ?_
      refine lv_if_eq (tgt := 106) hC.1 hC.2.1 dX2_joined_99 (by decide) (fun hc_3 => ?_) (fun hc_3 => ?_)
      · have hf := ite_t hf hc_3
        exact t2_joined_106 hC  _ _ _ _ hf hW (lv_sub hl [] rfl)
      · have hf := ite_f hf hc_3
        refine lv_iconst (v := 1) hC.1 hC.2.1 dX2_joined_102 (by decide) ?_
        refine lv_goto (tgt := 107) hC.1 hC.2.1 dX2_joined_103 (by decide) ?_
        exact t2_joined_107 hC  _ _ _ _ _ hf hW (lv_sub hl [] rfl)
  · have hf := ite_f hf hc_1
    by_cases hc_4 : x0 = 42
    · have hf := ite_t hf hc_4
      refine lv_lookup (tgt := 68) hC.1 hC.2.1 dX2_joined_1 (by decide) (by rw [hc_4] <;> rfl) (by decide) ?_
      refine lv_iload_n hC.1 hC.2.1 dX2_joined_68 rfl (lv_at hl 1 rfl) ?_
      refine lv_iload_n hC.1 hC.2.1 dX2_joined_69 rfl (lv_at hl 2 rfl) ?_
      refine lv_imul hC.1 hC.2.1 dX2_joined_70 ?_
      obtain rfl := Option.some.inj hf
      exact g_iret hC hW dX2_joined_71
    · have hf := ite_f hf hc_4
      by_cases hc_5 : x0 = 43
      · have hf := ite_t hf hc_5
        refine lv_lookup (tgt := 60) hC.1 hC.2.1 dX2_joined_1 (by decide) (by rw [hc_5] <;> rfl) (by decide) ?_
        refine lv_iload_n hC.1 hC.2.1 dX2_joined_60 rfl (lv_at hl 1 rfl) ?_
        refine lv_iload_n hC.1 hC.2.1 dX2_joined_61 rfl (lv_at hl 2 rfl) ?_
        refine lv_iadd hC.1 hC.2.1 dX2_joined_62 ?_
        obtain rfl := Option.some.inj hf
        exact g_iret hC hW dX2_joined_63
      · have hf := ite_f hf hc_5
        by_cases hc_6 : x0 = 45
        · have hf := ite_t hf hc_6
          refine lv_lookup (tgt := 64) hC.1 hC.2.1 dX2_joined_1 (by decide) (by rw [hc_6] <;> rfl) (by decide) ?_
          refine lv_iload_n hC.1 hC.2.1 dX2_joined_64 rfl (lv_at hl 1 rfl) ?_
          refine lv_iload_n hC.1 hC.2.1 dX2_joined_65 rfl (lv_at hl 2 rfl) ?_
          refine lv_isub hC.1 hC.2.1 dX2_joined_66 ?_
          obtain rfl := Option.some.inj hf
          exact g_iret hC hW dX2_joined_67
        · have hf := ite_f hf hc_6
          by_cases hc_7 : x0 = 60
          · have hf := ite_t hf hc_7
            refine lv_lookup (tgt := 72) hC.1 hC.2.1 dX2_joined_1 (by decide) (by rw [hc_7] <;> rfl) (by decide) ?_
            refine lv_iload_n hC.1 hC.2.1 dX2_joined_72 rfl (lv_at hl 1 rfl) ?_
            refine lv_iload_n hC.1 hC.2.1 dX2_joined_73 rfl (lv_at hl 2 rfl) ?_
            refine lv_icmp_ge (tgt := 81) hC.1 hC.2.1 dX2_joined_74 (by decide) (fun hc_8 => ?_) (fun hc_8 => ?_)
            · have hf := ite_t hf hc_8
              refine lv_iconst (v := 0) hC.1 hC.2.1 dX2_joined_81 (by decide) ?_
              exact t2_joined_82 hC  _ _ _ _ _ hf hW (lv_sub hl [] rfl)
            · have hf := ite_f hf hc_8
              refine lv_iconst (v := 1) hC.1 hC.2.1 dX2_joined_77 (by decide) ?_
              refine lv_goto (tgt := 82) hC.1 hC.2.1 dX2_joined_78 (by decide) ?_
              exact t2_joined_82 hC  _ _ _ _ _ hf hW (lv_sub hl [] rfl)
          · have hf := ite_f hf hc_7
            by_cases hc_9 : x0 = 61
            · have hf := ite_t hf hc_9
              refine lv_lookup (tgt := 83) hC.1 hC.2.1 dX2_joined_1 (by decide) (by rw [hc_9] <;> rfl) (by decide) ?_
              refine lv_iload_n hC.1 hC.2.1 dX2_joined_83 rfl (lv_at hl 1 rfl) ?_
              refine lv_iload_n hC.1 hC.2.1 dX2_joined_84 rfl (lv_at hl 2 rfl) ?_
              refine lv_icmp_ne (tgt := 92) hC.1 hC.2.1 dX2_joined_85 (by decide) (fun hc_10 => ?_) (fun hc_10 => ?_)
              · have hf := ite_f hf hc_10
                refine lv_iconst (v := 0) hC.1 hC.2.1 dX2_joined_92 (by decide) ?_
                exact t2_joined_93 hC  _ _ _ _ _ hf hW (lv_sub hl [] rfl)
              · have hf := ite_t hf hc_10
                refine lv_iconst (v := 1) hC.1 hC.2.1 dX2_joined_88 (by decide) ?_
                refine lv_goto (tgt := 93) hC.1 hC.2.1 dX2_joined_89 (by decide) ?_
                exact t2_joined_93 hC  _ _ _ _ _ hf hW (lv_sub hl [] rfl)
            · have hf := ite_f hf hc_9
              refine lv_lookup (tgt := 108) hC.1 hC.2.1 dX2_joined_1 (by decide) (lk_out _ (List.forall_mem_cons.mpr ⟨lk_ne (v := 27) (by decide) hc_1, (List.forall_mem_cons.mpr ⟨lk_ne (v := 42) (by decide) hc_4, (List.forall_mem_cons.mpr ⟨lk_ne (v := 43) (by decide) hc_5, (List.forall_mem_cons.mpr ⟨lk_ne (v := 45) (by decide) hc_6, (List.forall_mem_cons.mpr ⟨lk_ne (v := 60) (by decide) hc_7, (List.forall_mem_cons.mpr ⟨lk_ne (v := 61) (by decide) hc_9, (fun _ h => by cases h)⟩)⟩)⟩)⟩)⟩)⟩)) (by decide) ?_
              refine lv_iload_n hC.1 hC.2.1 dX2_joined_108 rfl (lv_at hl 1 rfl) ?_
              refine lv_if_ne (tgt := 116) hC.1 hC.2.1 dX2_joined_109 (by decide) (fun hc_11 => ?_) (fun hc_11 => ?_)
              · have hf := ite_f hf hc_11
                exact t2_joined_116 hC  _ _ _ _ hf hW (lv_sub hl [] rfl)
              · have hf := ite_t hf hc_11
                refine lv_iload_n hC.1 hC.2.1 dX2_joined_112 rfl (lv_at hl 2 rfl) ?_
                refine lv_if_eq (tgt := 120) hC.1 hC.2.1 dX2_joined_113 (by decide) (fun hc_12 => ?_) (fun hc_12 => ?_)
                · have hf := ite_t hf hc_12
                  refine lv_iconst (v := 0) hC.1 hC.2.1 dX2_joined_120 (by decide) ?_
                  exact t2_joined_121 hC  _ _ _ _ _ hf hW (lv_sub hl [] rfl)
                · have hf := ite_f hf hc_12
                  exact t2_joined_116 hC  _ _ _ _ hf hW (lv_sub hl [] rfl)
set_option maxRecDepth 100000 in
set_option maxHeartbeats 4000000 in
theorem c2_joined (l : Launch) (D : va_G) (cy : Nat → ClassId) (ad : Nat → Nat) {x0 : Int32} {x1 : Int32} {x2 : Int32} {res : Int32} (h : f2_joined x0 x1 x2 = some res) : GCi l yX2_joined wsX2_joined rm2_joined [.int x0, .int x1, .int x2] D cy ad (([] : va_W)) (([] : va_W)) res := fun sz => GC.start (own := RX2) (Qc := fun A => QI D cy (([] : va_W)) A res) sz (by decide) rfl rfl (Nat.le_of_ble_eq_true rfl) (fun p e s m below meth c A ls hC hW hl => t2_joined_0 hC _ _ _ _ _ _ _ h hW (lv_sub hl [0, 1, 2] rfl))
abbrev rm2_amount : Room := { frames := 1, cells := 0, slots := 0, locals := 22 }
theorem hdV2_amount : yX2_amount.cls = RX2 ∧ (yX2_amount.cls ≠ "java/lang/invoke/MethodHandle" ∧ yX2_amount.cls ≠ "java/lang/invoke/VarHandle" ∧ (parseMethodDescriptor yX2_amount.desc).map (fun d => d.parameters.length) = some 4) := by decide +kernel
theorem hin2_amount_2 : ∀ x ∈ u_ws RX2 TX2 5, x ∈ wsX2_amount := fun _ h => List.mem_cons_of_mem _ (List.mem_append_left _ (List.mem_append_right _ h))
theorem hin2_amount_4 : ∀ x ∈ u_ws RX4 TX4 13, x ∈ wsX2_amount := fun _ h => List.mem_cons_of_mem _ (List.mem_append_right _ h)
set_option maxRecDepth 100000 in
set_option maxHeartbeats 4000000 in
theorem t2_amount_172 (hC : Cx p s m args meth c cX2_amount 7 wsX2_amount RX2 (some .int)) {k8 : Int32 → Int32 → Int32 → Ob → Ob → Option (Int32 × Ob)} (hk8 : ∀ (x2 : Int32) (x4 : Int32) (x5 : Int32) (SC : Ob) (SI : Ob) (res : Int32 × Ob) (H : Heap) (locs : List Loc) (ls : Array Slot), k8 x2 x4 x5 SC SI = some res → GW D cy ad (w2 cy aC SC ++ (w4 cy aI SI)) A s H locs → lv_has ls 7 [(0, .ref (aC 0)), (1, .ref (aI 0)), (2, .int x2), (4, .int x4), (5, .int x5)] → W p l e rm2_amount s m args below meth c H locs 0 0 (MQ below (QI D cy (w2 cy aC (res.2) ++ (w4 cy aI SI)) A (res.1)) args s 0 0 A) (F0 m 8 ls [])) : ∀ (x2 : Int32) (x4 : Int32) (x5 : Int32) (SC : Ob) (SI : Ob) (res : Int32 × Ob) (H : Heap) (locs : List Loc) (ls : Array Slot), f2_amount_172 k8 x2 x4 x5 SC SI = some res → GW D cy ad (w2 cy aC SC ++ (w4 cy aI SI)) A s H locs → lv_has ls 7 [(0, .ref (aC 0)), (1, .ref (aI 0)), (2, .int x2), (4, .int x4), (5, .int x5)] → W p l e rm2_amount s m args below meth c H locs 0 0 (MQ below (QI D cy (w2 cy aC (res.2) ++ (w4 cy aI SI)) A (res.1)) args s 0 0 A) (F0 m 172 ls []) := by
  intro x2 x4 x5 SC SI res H locs ls hf hW hl
  unfold f2_amount_172 at hf
  obtain ⟨x5_1, ex5_1⟩ : ∃ y : Int32, y = x5 + 1 := ⟨_, rfl⟩
  have hf := lt_nm hf ex5_1
  refine lv_iinc (v := x5_1) (lv' := [(5, .int x5_1), (0, .ref (aC 0)), (1, .ref (aI 0)), (2, .int x2), (4, .int x4)]) hC.1 hC.2.1 dX2_amount_172 hl (k := 4) rfl (by rw [ex5_1]; rfl) (by decide) rfl (fun ls hl => ?_)
  refine lv_goto (tgt := 8) hC.1 hC.2.1 dX2_amount_175 (by decide) ?_
  exact hk8 _ _ _ _ _ _ _ _ _ hf hW (lv_sub hl [1, 2, 3, 4, 0] rfl)
set_option maxRecDepth 100000 in
set_option maxHeartbeats 4000000 in
theorem t2_amount_140 (hC : Cx p s m args meth c cX2_amount 7 wsX2_amount RX2 (some .int)) {k8 : Int32 → Int32 → Int32 → Ob → Ob → Option (Int32 × Ob)} (hk8 : ∀ (x2 : Int32) (x4 : Int32) (x5 : Int32) (SC : Ob) (SI : Ob) (res : Int32 × Ob) (H : Heap) (locs : List Loc) (ls : Array Slot), k8 x2 x4 x5 SC SI = some res → GW D cy ad (w2 cy aC SC ++ (w4 cy aI SI)) A s H locs → lv_has ls 7 [(0, .ref (aC 0)), (1, .ref (aI 0)), (2, .int x2), (4, .int x4), (5, .int x5)] → W p l e rm2_amount s m args below meth c H locs 0 0 (MQ below (QI D cy (w2 cy aC (res.2) ++ (w4 cy aI SI)) A (res.1)) args s 0 0 A) (F0 m 8 ls [])) : ∀ (x2 : Int32) (x4 : Int32) (x5 : Int32) (z1 : Int32) (SC : Ob) (SI : Ob) (res : Int32 × Ob) (H : Heap) (locs : List Loc) (ls : Array Slot), f2_amount_140 k8 x2 x4 x5 z1 SC SI = some res → GW D cy ad (w2 cy aC SC ++ (w4 cy aI SI)) A s H locs → lv_has ls 7 [(0, .ref (aC 0)), (1, .ref (aI 0)), (2, .int x2), (4, .int x4), (5, .int x5)] → W p l e rm2_amount s m args below meth c H locs 0 0 (MQ below (QI D cy (w2 cy aC (res.2) ++ (w4 cy aI SI)) A (res.1)) args s 0 0 A) (F0 m 140 ls [.int z1, .ref (aC 0)]) := by
  intro x2 x4 x5 z1 SC SI res H locs ls hf hW hl
  unfold f2_amount_140 at hf
  obtain ⟨r_1, hg_2, hf⟩ := bd_of hf
  refine g_callvV (w' := w2 cy aC r_1 ++ (w4 cy aI SI)) hC hW (c2_push l D cy ad aC hg_2) (cwV 1 hC.2.2.2.2.1 gX2_amount_X2_push rfl rfl rfl hdV2_push ⟨Nat.le_of_ble_eq_true rfl, Nat.le_of_ble_eq_true rfl⟩) (⟨[0, 1, 2, 3], [4, 5, 6, 7, 8, 9, 10, 11, 12, 13, 14, 15], [12, 13, 14, 15, 0, 1, 2, 3, 4, 5, 6, 7, 8, 9, 10, 11], w4 cy aI SI, rfl, rfl, rfl, rfl, by decide, rfl, rfl⟩) 0 2 rfl rfl rfl rfl hl.1 rfl (Nat.le_of_ble_eq_true rfl) dX2_amount_140 ⟨Nat.zero_le _, Nat.zero_le _⟩ (fun H locs hW => ?_)
  refine lv_goto (tgt := 172) hC.1 hC.2.1 dX2_amount_143 (by decide) ?_
  exact t2_amount_172 hC hk8  _ _ _ _ _ _ _ _ _ hf hW (lv_sub hl [0, 1, 2, 3, 4] rfl)
set_option maxRecDepth 100000 in
set_option maxHeartbeats 4000000 in
theorem t2_amount_178 (hC : Cx p s m args meth c cX2_amount 7 wsX2_amount RX2 (some .int)) : ∀ (SC : Ob) (SI : Ob) (res : Int32 × Ob) (H : Heap) (locs : List Loc) (ls : Array Slot), f2_amount_178 SC SI = some res → GW D cy ad (w2 cy aC SC ++ (w4 cy aI SI)) A s H locs → lv_has ls 7 [(0, .ref (aC 0))] → W p l e rm2_amount s m args below meth c H locs 0 0 (MQ below (QI D cy (w2 cy aC (res.2) ++ (w4 cy aI SI)) A (res.1)) args s 0 0 A) (F0 m 178 ls []) := by
  intro SC SI res H locs ls hf hW hl
  unfold f2_amount_178 at hf
  refine lv_aload_n hC.1 hC.2.1 dX2_amount_178 rfl (lv_at hl 0 rfl) ?_
  obtain ⟨r_1, hg_2, hf⟩ := bd_of hf
  refine g_calliV (w' := w2 cy aC (r_1.2) ++ (w4 cy aI SI)) hC hW (c2_pop l D cy ad aC hg_2) (cwV 0 hC.2.2.2.2.1 gX2_amount_X2_pop rfl rfl rfl hdV2_pop ⟨Nat.le_of_ble_eq_true rfl, Nat.le_of_ble_eq_true rfl⟩) (⟨[0, 1, 2, 3], [4, 5, 6, 7, 8, 9, 10, 11, 12, 13, 14, 15], [12, 13, 14, 15, 0, 1, 2, 3, 4, 5, 6, 7, 8, 9, 10, 11], w4 cy aI SI, rfl, rfl, rfl, rfl, by decide, rfl, rfl⟩) 0 2 rfl rfl rfl rfl hl.1 rfl (Nat.le_of_ble_eq_true rfl) dX2_amount_179 ⟨Nat.zero_le _, Nat.zero_le _⟩ (fun H locs hW => ?_)
  obtain rfl := Option.some.inj hf
  exact g_iret hC hW dX2_amount_182
set_option maxRecDepth 100000 in
set_option maxHeartbeats 4000000 in
theorem t2_amount_8 (hC : Cx p s m args meth c cX2_amount 7 wsX2_amount RX2 (some .int)) : ∀ n : Nat, ∀ (x2 : Int32) (x4 : Int32) (x5 : Int32) (SC : Ob) (SI : Ob) (res : Int32 × Ob) (H : Heap) (locs : List Loc) (ls : Array Slot), f2_amount_8 n x2 x4 x5 SC SI = some res → GW D cy ad (w2 cy aC SC ++ (w4 cy aI SI)) A s H locs → lv_has ls 7 [(0, .ref (aC 0)), (1, .ref (aI 0)), (2, .int x2), (4, .int x4), (5, .int x5)] → W p l e rm2_amount s m args below meth c H locs 0 0 (MQ below (QI D cy (w2 cy aC (res.2) ++ (w4 cy aI SI)) A (res.1)) args s 0 0 A) (F0 m 8 ls []) := by
  intro n
  induction n with
  | zero =>
    intro _ _ _ _ _ _ _ _ _ hf _ _
    exact nomatch (show (none : Option (Int32 × Ob)) = some _ from hf)
  | succ n ih =>
    intro x2 x4 x5 SC SI res H locs ls hf hW hl
    rw [f2_amount_8] at hf
    refine lv_iload hC.1 hC.2.1 dX2_amount_8 (lv_at hl 4 rfl) ?_
    refine lv_iload hC.1 hC.2.1 dX2_amount_10 (lv_at hl 3 rfl) ?_
    refine lv_icmp_ge (tgt := 178) hC.1 hC.2.1 dX2_amount_12 (by decide) (fun hc_1 => ?_) (fun hc_1 => ?_)
    · have hf := ite_t hf hc_1
      exact t2_amount_178 hC  _ _ _ _ _ _ hf hW (lv_sub hl [0] rfl)
    · have hf := ite_f hf hc_1
      refine lv_iload hC.1 hC.2.1 dX2_amount_15 (lv_at hl 4 rfl) ?_
      refine lv_sipush (v := 1000) hC.1 hC.2.1 dX2_amount_17 (by decide) ?_
      refine lv_icmp_ge (tgt := 178) hC.1 hC.2.1 dX2_amount_20 (by decide) (fun hc_2 => ?_) (fun hc_2 => ?_)
      · have hf := ite_t hf hc_2
        exact t2_amount_178 hC  _ _ _ _ _ _ hf hW (lv_sub hl [0] rfl)
      · have hf := ite_f hf hc_2
        refine lv_aload_n hC.1 hC.2.1 dX2_amount_23 rfl (lv_at hl 0 rfl) ?_
        refine g_get hC hW hin2_amount_2 0 rfl rfl 0 (by decide) 2 rfl rfl dX2_amount_24 ?_
        refine lv_iload hC.1 hC.2.1 dX2_amount_27 (lv_at hl 4 rfl) ?_
        obtain ⟨hi_3, hf⟩ := ck_of hf
        refine g_iald hC hW 1 rfl hi_3 dX2_amount_29 ?_
        by_cases hc_4 : (SC.2.2.1 0 (Int32.toNatClampNeg x5)) = 26
        · have hf := ite_t hf hc_4
          refine lv_tableIn (tgt := 127) hC.1 hC.2.1 dX2_amount_30 (by rw [hc_4]; decide) (by rw [hc_4]; decide) (by rw [hc_4]; rfl) (by decide) ?_
          refine lv_aload_n hC.1 hC.2.1 dX2_amount_127 rfl (lv_at hl 0 rfl) ?_
          refine lv_aload_n hC.1 hC.2.1 dX2_amount_128 rfl (lv_at hl 0 rfl) ?_
          obtain ⟨r_5, hg_6, hf⟩ := bd_of hf
          refine g_calliV (w' := w2 cy aC (r_5.2) ++ (w4 cy aI SI)) hC hW (c2_pop l D cy ad aC hg_6) (cwV 0 hC.2.2.2.2.1 gX2_amount_X2_pop rfl rfl rfl hdV2_pop ⟨Nat.le_of_ble_eq_true rfl, Nat.le_of_ble_eq_true rfl⟩) (⟨[0, 1, 2, 3], [4, 5, 6, 7, 8, 9, 10, 11, 12, 13, 14, 15], [12, 13, 14, 15, 0, 1, 2, 3, 4, 5, 6, 7, 8, 9, 10, 11], w4 cy aI SI, rfl, rfl, rfl, rfl, by decide, rfl, rfl⟩) 0 2 rfl rfl rfl rfl hl.1 rfl (Nat.le_of_ble_eq_true rfl) dX2_amount_129 ⟨Nat.zero_le _, Nat.zero_le _⟩ (fun H locs hW => ?_)
          refine lv_if_ne (tgt := 139) hC.1 hC.2.1 dX2_amount_132 (by decide) (fun hc_7 => ?_) (fun hc_7 => ?_)
          · have hf := ite_f hf hc_7
            refine lv_iconst (v := 0) hC.1 hC.2.1 dX2_amount_139 (by decide) ?_
            exact t2_amount_140 hC ih  _ _ _ _ _ _ _ _ _ _ hf hW (lv_sub hl [0, 1, 2, 3, 4] rfl)
          · have hf := ite_t hf hc_7
            refine lv_iconst (v := 1) hC.1 hC.2.1 dX2_amount_135 (by decide) ?_
            refine lv_goto (tgt := 140) hC.1 hC.2.1 dX2_amount_136 (by decide) ?_
            exact t2_amount_140 hC ih  _ _ _ _ _ _ _ _ _ _ hf hW (lv_sub hl [0, 1, 2, 3, 4] rfl)
        · have hf := ite_f hf hc_4
          by_cases hc_8 : (SC.2.2.1 0 (Int32.toNatClampNeg x5)) = 29
          · have hf := ite_t hf hc_8
            refine lv_tableIn (tgt := 90) hC.1 hC.2.1 dX2_amount_30 (by rw [hc_8]; decide) (by rw [hc_8]; decide) (by rw [hc_8]; rfl) (by decide) ?_
            refine lv_aload_n hC.1 hC.2.1 dX2_amount_90 rfl (lv_at hl 0 rfl) ?_
            refine lv_aload_n hC.1 hC.2.1 dX2_amount_91 rfl (lv_at hl 1 rfl) ?_
            refine g_get hC hW hin2_amount_4 4 rfl rfl 3 (by decide) 4 rfl rfl dX2_amount_92 ?_
            refine lv_iload_n hC.1 hC.2.1 dX2_amount_95 rfl (lv_at hl 2 rfl) ?_
            obtain ⟨hi_9, hf⟩ := ck_of hf
            refine g_iald hC hW 7 rfl hi_9 dX2_amount_96 ?_
            obtain ⟨r_10, hg_11, hf⟩ := bd_of hf
            refine g_callvV (w' := w2 cy aC r_10 ++ (w4 cy aI SI)) hC hW (c2_push l D cy ad aC hg_11) (cwV 1 hC.2.2.2.2.1 gX2_amount_X2_push rfl rfl rfl hdV2_push ⟨Nat.le_of_ble_eq_true rfl, Nat.le_of_ble_eq_true rfl⟩) (⟨[0, 1, 2, 3], [4, 5, 6, 7, 8, 9, 10, 11, 12, 13, 14, 15], [12, 13, 14, 15, 0, 1, 2, 3, 4, 5, 6, 7, 8, 9, 10, 11], w4 cy aI SI, rfl, rfl, rfl, rfl, by decide, rfl, rfl⟩) 0 2 rfl rfl rfl rfl hl.1 rfl (Nat.le_of_ble_eq_true rfl) dX2_amount_97 ⟨Nat.zero_le _, Nat.zero_le _⟩ (fun H locs hW => ?_)
            refine lv_goto (tgt := 172) hC.1 hC.2.1 dX2_amount_100 (by decide) ?_
            exact t2_amount_172 hC ih  _ _ _ _ _ _ _ _ _ hf hW (lv_sub hl [0, 1, 2, 3, 4] rfl)
          · have hf := ite_f hf hc_8
            by_cases hc_12 : (SC.2.2.1 0 (Int32.toNatClampNeg x5)) = 30
            · have hf := ite_t hf hc_12
              refine lv_tableIn (tgt := 103) hC.1 hC.2.1 dX2_amount_30 (by rw [hc_12]; decide) (by rw [hc_12]; decide) (by rw [hc_12]; rfl) (by decide) ?_
              refine lv_aload_n hC.1 hC.2.1 dX2_amount_103 rfl (lv_at hl 0 rfl) ?_
              refine lv_aload_n hC.1 hC.2.1 dX2_amount_104 rfl (lv_at hl 1 rfl) ?_
              refine g_get hC hW hin2_amount_4 4 rfl rfl 4 (by decide) 5 rfl rfl dX2_amount_105 ?_
              refine lv_iload_n hC.1 hC.2.1 dX2_amount_108 rfl (lv_at hl 2 rfl) ?_
              obtain ⟨hi_13, hf⟩ := ck_of hf
              refine g_iald hC hW 8 rfl hi_13 dX2_amount_109 ?_
              obtain ⟨r_14, hg_15, hf⟩ := bd_of hf
              refine g_callvV (w' := w2 cy aC r_14 ++ (w4 cy aI SI)) hC hW (c2_push l D cy ad aC hg_15) (cwV 1 hC.2.2.2.2.1 gX2_amount_X2_push rfl rfl rfl hdV2_push ⟨Nat.le_of_ble_eq_true rfl, Nat.le_of_ble_eq_true rfl⟩) (⟨[0, 1, 2, 3], [4, 5, 6, 7, 8, 9, 10, 11, 12, 13, 14, 15], [12, 13, 14, 15, 0, 1, 2, 3, 4, 5, 6, 7, 8, 9, 10, 11], w4 cy aI SI, rfl, rfl, rfl, rfl, by decide, rfl, rfl⟩) 0 2 rfl rfl rfl rfl hl.1 rfl (Nat.le_of_ble_eq_true rfl) dX2_amount_110 ⟨Nat.zero_le _, Nat.zero_le _⟩ (fun H locs hW => ?_)
              refine lv_goto (tgt := 172) hC.1 hC.2.1 dX2_amount_113 (by decide) ?_
              exact t2_amount_172 hC ih  _ _ _ _ _ _ _ _ _ hf hW (lv_sub hl [0, 1, 2, 3, 4] rfl)
            · have hf := ite_f hf hc_12
              by_cases hc_16 : (SC.2.2.1 0 (Int32.toNatClampNeg x5)) = 31
              · have hf := ite_t hf hc_16
                refine lv_tableIn (tgt := 116) hC.1 hC.2.1 dX2_amount_30 (by rw [hc_16]; decide) (by rw [hc_16]; decide) (by rw [hc_16]; rfl) (by decide) ?_
                refine lv_aload_n hC.1 hC.2.1 dX2_amount_116 rfl (lv_at hl 0 rfl) ?_
                refine lv_aload_n hC.1 hC.2.1 dX2_amount_117 rfl (lv_at hl 1 rfl) ?_
                refine g_get hC hW hin2_amount_4 4 rfl rfl 0 (by decide) 6 rfl rfl dX2_amount_118 ?_
                obtain ⟨r_17, hg_18, hf⟩ := bd_of hf
                refine g_callvV (w' := w2 cy aC r_17 ++ (w4 cy aI SI)) hC hW (c2_push l D cy ad aC hg_18) (cwV 1 hC.2.2.2.2.1 gX2_amount_X2_push rfl rfl rfl hdV2_push ⟨Nat.le_of_ble_eq_true rfl, Nat.le_of_ble_eq_true rfl⟩) (⟨[0, 1, 2, 3], [4, 5, 6, 7, 8, 9, 10, 11, 12, 13, 14, 15], [12, 13, 14, 15, 0, 1, 2, 3, 4, 5, 6, 7, 8, 9, 10, 11], w4 cy aI SI, rfl, rfl, rfl, rfl, by decide, rfl, rfl⟩) 0 2 rfl rfl rfl rfl hl.1 rfl (Nat.le_of_ble_eq_true rfl) dX2_amount_121 ⟨Nat.zero_le _, Nat.zero_le _⟩ (fun H locs hW => ?_)
                refine lv_goto (tgt := 172) hC.1 hC.2.1 dX2_amount_124 (by decide) ?_
                exact t2_amount_172 hC ih  _ _ _ _ _ _ _ _ _ hf hW (lv_sub hl [0, 1, 2, 3, 4] rfl)
              · have hf := ite_f hf hc_16
                by_cases hc_19 : (SC.2.2.1 0 (Int32.toNatClampNeg x5)) = 33
                · have hf := ite_t hf hc_19
                  refine lv_tableIn (tgt := 76) hC.1 hC.2.1 dX2_amount_30 (by rw [hc_19]; decide) (by rw [hc_19]; decide) (by rw [hc_19]; rfl) (by decide) ?_
                  refine lv_aload_n hC.1 hC.2.1 dX2_amount_76 rfl (lv_at hl 0 rfl) ?_
                  refine lv_aload_n hC.1 hC.2.1 dX2_amount_77 rfl (lv_at hl 0 rfl) ?_
                  refine g_get hC hW hin2_amount_2 0 rfl rfl 1 (by decide) 3 rfl rfl dX2_amount_78 ?_
                  refine lv_iload hC.1 hC.2.1 dX2_amount_81 (lv_at hl 4 rfl) ?_
                  obtain ⟨hi_20, hf⟩ := ck_of hf
                  refine g_iald hC hW 2 rfl hi_20 dX2_amount_83 ?_
                  obtain ⟨r_21, hg_22, hf⟩ := bd_of hf
                  refine g_callvV (w' := w2 cy aC r_21 ++ (w4 cy aI SI)) hC hW (c2_push l D cy ad aC hg_22) (cwV 1 hC.2.2.2.2.1 gX2_amount_X2_push rfl rfl rfl hdV2_push ⟨Nat.le_of_ble_eq_true rfl, Nat.le_of_ble_eq_true rfl⟩) (⟨[0, 1, 2, 3], [4, 5, 6, 7, 8, 9, 10, 11, 12, 13, 14, 15], [12, 13, 14, 15, 0, 1, 2, 3, 4, 5, 6, 7, 8, 9, 10, 11], w4 cy aI SI, rfl, rfl, rfl, rfl, by decide, rfl, rfl⟩) 0 2 rfl rfl rfl rfl hl.1 rfl (Nat.le_of_ble_eq_true rfl) dX2_amount_84 ⟨Nat.zero_le _, Nat.zero_le _⟩ (fun H locs hW => ?_)
                  refine lv_goto (tgt := 172) hC.1 hC.2.1 dX2_amount_87 (by decide) ?_
                  exact t2_amount_172 hC ih  _ _ _ _ _ _ _ _ _ hf hW (lv_sub hl [0, 1, 2, 3, 4] rfl)
                · have hf := ite_f hf hc_19
                  by_cases hd_23 : (SC.2.2.1 0 (Int32.toNatClampNeg x5)) = 27
                  · refine lv_tableIn (tgt := 146) hC.1 hC.2.1 dX2_amount_30 (by rw [hd_23]; decide) (by rw [hd_23]; decide) (by rw [hd_23]; rfl) (by decide) ?_
                    refine lv_aload_n hC.1 hC.2.1 dX2_amount_146 rfl (lv_at hl 0 rfl) ?_
                    obtain ⟨r_24, hg_25, hf⟩ := bd_of hf
                    refine g_calliV (w' := w2 cy aC (r_24.2) ++ (w4 cy aI SI)) hC hW (c2_pop l D cy ad aC hg_25) (cwV 0 hC.2.2.2.2.1 gX2_amount_X2_pop rfl rfl rfl hdV2_pop ⟨Nat.le_of_ble_eq_true rfl, Nat.le_of_ble_eq_true rfl⟩) (⟨[0, 1, 2, 3], [4, 5, 6, 7, 8, 9, 10, 11, 12, 13, 14, 15], [12, 13, 14, 15, 0, 1, 2, 3, 4, 5, 6, 7, 8, 9, 10, 11], w4 cy aI SI, rfl, rfl, rfl, rfl, by decide, rfl, rfl⟩) 0 2 rfl rfl rfl rfl hl.1 rfl (Nat.le_of_ble_eq_true rfl) dX2_amount_147 ⟨Nat.zero_le _, Nat.zero_le _⟩ (fun H locs hW => ?_)
                    refine lv_topi (fun x6_26 ex6_26 => ?_)
                    have hf := lt_nm hf ex6_26
                    refine lv_istore (lv' := [(6, .int x6_26), (0, .ref (aC 0)), (1, .ref (aI 0)), (2, .int x2), (4, .int x4), (5, .int x5)]) hC.1 hC.2.1 dX2_amount_150 hl (by decide) rfl (fun ls hl => ?_)
                    refine lv_aload_n hC.1 hC.2.1 dX2_amount_152 rfl (lv_at hl 1 rfl) ?_
                    refine lv_aload_n hC.1 hC.2.1 dX2_amount_153 rfl (lv_at hl 1 rfl) ?_
                    refine g_get hC hW hin2_amount_2 0 rfl rfl 0 (by decide) 2 rfl rfl dX2_amount_154 ?_
                    refine lv_iload hC.1 hC.2.1 dX2_amount_157 (lv_at hl 5 rfl) ?_
                    obtain ⟨hi_27, hf⟩ := ck_of hf
                    refine g_iald hC hW 1 rfl hi_27 dX2_amount_159 ?_
                    refine lv_aload_n hC.1 hC.2.1 dX2_amount_160 rfl (lv_at hl 1 rfl) ?_
                    obtain ⟨r_28, hg_29, hf⟩ := bd_of hf
                    refine g_calliV (w' := w2 cy aC (r_28.2) ++ (w4 cy aI SI)) hC hW (c2_pop l D cy ad aC hg_29) (cwV 0 hC.2.2.2.2.1 gX2_amount_X2_pop rfl rfl rfl hdV2_pop ⟨Nat.le_of_ble_eq_true rfl, Nat.le_of_ble_eq_true rfl⟩) (⟨[0, 1, 2, 3], [4, 5, 6, 7, 8, 9, 10, 11, 12, 13, 14, 15], [12, 13, 14, 15, 0, 1, 2, 3, 4, 5, 6, 7, 8, 9, 10, 11], w4 cy aI SI, rfl, rfl, rfl, rfl, by decide, rfl, rfl⟩) 0 2 rfl rfl rfl rfl hl.1 rfl (Nat.le_of_ble_eq_true rfl) dX2_amount_161 ⟨Nat.zero_le _, Nat.zero_le _⟩ (fun H locs hW => ?_)
                    refine lv_iload hC.1 hC.2.1 dX2_amount_164 (lv_at hl 0 rfl) ?_
                    obtain ⟨r_30, hg_31, hf⟩ := bd_of hf
                    refine g_calliS (w' := w2 cy aC (r_28.2) ++ (w4 cy aI SI)) hC hW (c2_joined l D cy ad  hg_31) (va_cwS 3 hC.2.2.2.2.1 gX2_amount_X2_joined rfl rfl rfl hdS2_joined ⟨Nat.le_of_ble_eq_true rfl, Nat.le_of_ble_eq_true rfl⟩) (Sub.nil _) rfl hl.1 rfl (Nat.le_of_ble_eq_true rfl) dX2_amount_166 ⟨Nat.zero_le _, Nat.zero_le _⟩ (fun H locs hW => ?_)
                    obtain ⟨r_32, hg_33, hf⟩ := bd_of hf
                    refine g_callvV (w' := w2 cy aC r_32 ++ (w4 cy aI SI)) hC hW (c2_push l D cy ad aC hg_33) (cwV 1 hC.2.2.2.2.1 gX2_amount_X2_push rfl rfl rfl hdV2_push ⟨Nat.le_of_ble_eq_true rfl, Nat.le_of_ble_eq_true rfl⟩) (⟨[0, 1, 2, 3], [4, 5, 6, 7, 8, 9, 10, 11, 12, 13, 14, 15], [12, 13, 14, 15, 0, 1, 2, 3, 4, 5, 6, 7, 8, 9, 10, 11], w4 cy aI SI, rfl, rfl, rfl, rfl, by decide, rfl, rfl⟩) 0 2 rfl rfl rfl rfl hl.1 rfl (Nat.le_of_ble_eq_true rfl) dX2_amount_169 ⟨Nat.zero_le _, Nat.zero_le _⟩ (fun H locs hW => ?_)
                    exact t2_amount_172 hC ih  _ _ _ _ _ _ _ _ _ hf hW (lv_sub hl [1, 2, 3, 4, 5] rfl)
                  · skip
                    by_cases hd_34 : (SC.2.2.1 0 (Int32.toNatClampNeg x5)) = 28
                    · refine lv_tableIn (tgt := 146) hC.1 hC.2.1 dX2_amount_30 (by rw [hd_34]; decide) (by rw [hd_34]; decide) (by rw [hd_34]; rfl) (by decide) ?_
                      refine lv_aload_n hC.1 hC.2.1 dX2_amount_146 rfl (lv_at hl 0 rfl) ?_
                      obtain ⟨r_35, hg_36, hf⟩ := bd_of hf
                      refine g_calliV (w' := w2 cy aC (r_35.2) ++ (w4 cy aI SI)) hC hW (c2_pop l D cy ad aC hg_36) (cwV 0 hC.2.2.2.2.1 gX2_amount_X2_pop rfl rfl rfl hdV2_pop ⟨Nat.le_of_ble_eq_true rfl, Nat.le_of_ble_eq_true rfl⟩) (⟨[0, 1, 2, 3], [4, 5, 6, 7, 8, 9, 10, 11, 12, 13, 14, 15], [12, 13, 14, 15, 0, 1, 2, 3, 4, 5, 6, 7, 8, 9, 10, 11], w4 cy aI SI, rfl, rfl, rfl, rfl, by decide, rfl, rfl⟩) 0 2 rfl rfl rfl rfl hl.1 rfl (Nat.le_of_ble_eq_true rfl) dX2_amount_147 ⟨Nat.zero_le _, Nat.zero_le _⟩ (fun H locs hW => ?_)
                      refine lv_topi (fun x6_37 ex6_37 => ?_)
                      have hf := lt_nm hf ex6_37
                      refine lv_istore (lv' := [(6, .int x6_37), (0, .ref (aC 0)), (1, .ref (aI 0)), (2, .int x2), (4, .int x4), (5, .int x5)]) hC.1 hC.2.1 dX2_amount_150 hl (by decide) rfl (fun ls hl => ?_)
                      refine lv_aload_n hC.1 hC.2.1 dX2_amount_152 rfl (lv_at hl 1 rfl) ?_
                      refine lv_aload_n hC.1 hC.2.1 dX2_amount_153 rfl (lv_at hl 1 rfl) ?_
                      refine g_get hC hW hin2_amount_2 0 rfl rfl 0 (by decide) 2 rfl rfl dX2_amount_154 ?_
                      refine lv_iload hC.1 hC.2.1 dX2_amount_157 (lv_at hl 5 rfl) ?_
                      obtain ⟨hi_38, hf⟩ := ck_of hf
                      refine g_iald hC hW 1 rfl hi_38 dX2_amount_159 ?_
                      refine lv_aload_n hC.1 hC.2.1 dX2_amount_160 rfl (lv_at hl 1 rfl) ?_
                      obtain ⟨r_39, hg_40, hf⟩ := bd_of hf
                      refine g_calliV (w' := w2 cy aC (r_39.2) ++ (w4 cy aI SI)) hC hW (c2_pop l D cy ad aC hg_40) (cwV 0 hC.2.2.2.2.1 gX2_amount_X2_pop rfl rfl rfl hdV2_pop ⟨Nat.le_of_ble_eq_true rfl, Nat.le_of_ble_eq_true rfl⟩) (⟨[0, 1, 2, 3], [4, 5, 6, 7, 8, 9, 10, 11, 12, 13, 14, 15], [12, 13, 14, 15, 0, 1, 2, 3, 4, 5, 6, 7, 8, 9, 10, 11], w4 cy aI SI, rfl, rfl, rfl, rfl, by decide, rfl, rfl⟩) 0 2 rfl rfl rfl rfl hl.1 rfl (Nat.le_of_ble_eq_true rfl) dX2_amount_161 ⟨Nat.zero_le _, Nat.zero_le _⟩ (fun H locs hW => ?_)
                      refine lv_iload hC.1 hC.2.1 dX2_amount_164 (lv_at hl 0 rfl) ?_
                      obtain ⟨r_41, hg_42, hf⟩ := bd_of hf
                      refine g_calliS (w' := w2 cy aC (r_39.2) ++ (w4 cy aI SI)) hC hW (c2_joined l D cy ad  hg_42) (va_cwS 3 hC.2.2.2.2.1 gX2_amount_X2_joined rfl rfl rfl hdS2_joined ⟨Nat.le_of_ble_eq_true rfl, Nat.le_of_ble_eq_true rfl⟩) (Sub.nil _) rfl hl.1 rfl (Nat.le_of_ble_eq_true rfl) dX2_amount_166 ⟨Nat.zero_le _, Nat.zero_le _⟩ (fun H locs hW => ?_)
                      obtain ⟨r_43, hg_44, hf⟩ := bd_of hf
                      refine g_callvV (w' := w2 cy aC r_43 ++ (w4 cy aI SI)) hC hW (c2_push l D cy ad aC hg_44) (cwV 1 hC.2.2.2.2.1 gX2_amount_X2_push rfl rfl rfl hdV2_push ⟨Nat.le_of_ble_eq_true rfl, Nat.le_of_ble_eq_true rfl⟩) (⟨[0, 1, 2, 3], [4, 5, 6, 7, 8, 9, 10, 11, 12, 13, 14, 15], [12, 13, 14, 15, 0, 1, 2, 3, 4, 5, 6, 7, 8, 9, 10, 11], w4 cy aI SI, rfl, rfl, rfl, rfl, by decide, rfl, rfl⟩) 0 2 rfl rfl rfl rfl hl.1 rfl (Nat.le_of_ble_eq_true rfl) dX2_amount_169 ⟨Nat.zero_le _, Nat.zero_le _⟩ (fun H locs hW => ?_)
                      exact t2_amount_172 hC ih  _ _ _ _ _ _ _ _ _ hf hW (lv_sub hl [1, 2, 3, 4, 5] rfl)
                    · skip
                      by_cases hd_45 : (SC.2.2.1 0 (Int32.toNatClampNeg x5)) = 32
                      · refine lv_tableIn (tgt := 146) hC.1 hC.2.1 dX2_amount_30 (by rw [hd_45]; decide) (by rw [hd_45]; decide) (by rw [hd_45]; rfl) (by decide) ?_
                        refine lv_aload_n hC.1 hC.2.1 dX2_amount_146 rfl (lv_at hl 0 rfl) ?_
                        obtain ⟨r_46, hg_47, hf⟩ := bd_of hf
                        refine g_calliV (w' := w2 cy aC (r_46.2) ++ (w4 cy aI SI)) hC hW (c2_pop l D cy ad aC hg_47) (cwV 0 hC.2.2.2.2.1 gX2_amount_X2_pop rfl rfl rfl hdV2_pop ⟨Nat.le_of_ble_eq_true rfl, Nat.le_of_ble_eq_true rfl⟩) (⟨[0, 1, 2, 3], [4, 5, 6, 7, 8, 9, 10, 11, 12, 13, 14, 15], [12, 13, 14, 15, 0, 1, 2, 3, 4, 5, 6, 7, 8, 9, 10, 11], w4 cy aI SI, rfl, rfl, rfl, rfl, by decide, rfl, rfl⟩) 0 2 rfl rfl rfl rfl hl.1 rfl (Nat.le_of_ble_eq_true rfl) dX2_amount_147 ⟨Nat.zero_le _, Nat.zero_le _⟩ (fun H locs hW => ?_)
                        refine lv_topi (fun x6_48 ex6_48 => ?_)
                        have hf := lt_nm hf ex6_48
                        refine lv_istore (lv' := [(6, .int x6_48), (0, .ref (aC 0)), (1, .ref (aI 0)), (2, .int x2), (4, .int x4), (5, .int x5)]) hC.1 hC.2.1 dX2_amount_150 hl (by decide) rfl (fun ls hl => ?_)
                        refine lv_aload_n hC.1 hC.2.1 dX2_amount_152 rfl (lv_at hl 1 rfl) ?_
                        refine lv_aload_n hC.1 hC.2.1 dX2_amount_153 rfl (lv_at hl 1 rfl) ?_
                        refine g_get hC hW hin2_amount_2 0 rfl rfl 0 (by decide) 2 rfl rfl dX2_amount_154 ?_
                        refine lv_iload hC.1 hC.2.1 dX2_amount_157 (lv_at hl 5 rfl) ?_
                        obtain ⟨hi_49, hf⟩ := ck_of hf
                        refine g_iald hC hW 1 rfl hi_49 dX2_amount_159 ?_
                        refine lv_aload_n hC.1 hC.2.1 dX2_amount_160 rfl (lv_at hl 1 rfl) ?_
                        obtain ⟨r_50, hg_51, hf⟩ := bd_of hf
                        refine g_calliV (w' := w2 cy aC (r_50.2) ++ (w4 cy aI SI)) hC hW (c2_pop l D cy ad aC hg_51) (cwV 0 hC.2.2.2.2.1 gX2_amount_X2_pop rfl rfl rfl hdV2_pop ⟨Nat.le_of_ble_eq_true rfl, Nat.le_of_ble_eq_true rfl⟩) (⟨[0, 1, 2, 3], [4, 5, 6, 7, 8, 9, 10, 11, 12, 13, 14, 15], [12, 13, 14, 15, 0, 1, 2, 3, 4, 5, 6, 7, 8, 9, 10, 11], w4 cy aI SI, rfl, rfl, rfl, rfl, by decide, rfl, rfl⟩) 0 2 rfl rfl rfl rfl hl.1 rfl (Nat.le_of_ble_eq_true rfl) dX2_amount_161 ⟨Nat.zero_le _, Nat.zero_le _⟩ (fun H locs hW => ?_)
                        refine lv_iload hC.1 hC.2.1 dX2_amount_164 (lv_at hl 0 rfl) ?_
                        obtain ⟨r_52, hg_53, hf⟩ := bd_of hf
                        refine g_calliS (w' := w2 cy aC (r_50.2) ++ (w4 cy aI SI)) hC hW (c2_joined l D cy ad  hg_53) (va_cwS 3 hC.2.2.2.2.1 gX2_amount_X2_joined rfl rfl rfl hdS2_joined ⟨Nat.le_of_ble_eq_true rfl, Nat.le_of_ble_eq_true rfl⟩) (Sub.nil _) rfl hl.1 rfl (Nat.le_of_ble_eq_true rfl) dX2_amount_166 ⟨Nat.zero_le _, Nat.zero_le _⟩ (fun H locs hW => ?_)
                        obtain ⟨r_54, hg_55, hf⟩ := bd_of hf
                        refine g_callvV (w' := w2 cy aC r_54 ++ (w4 cy aI SI)) hC hW (c2_push l D cy ad aC hg_55) (cwV 1 hC.2.2.2.2.1 gX2_amount_X2_push rfl rfl rfl hdV2_push ⟨Nat.le_of_ble_eq_true rfl, Nat.le_of_ble_eq_true rfl⟩) (⟨[0, 1, 2, 3], [4, 5, 6, 7, 8, 9, 10, 11, 12, 13, 14, 15], [12, 13, 14, 15, 0, 1, 2, 3, 4, 5, 6, 7, 8, 9, 10, 11], w4 cy aI SI, rfl, rfl, rfl, rfl, by decide, rfl, rfl⟩) 0 2 rfl rfl rfl rfl hl.1 rfl (Nat.le_of_ble_eq_true rfl) dX2_amount_169 ⟨Nat.zero_le _, Nat.zero_le _⟩ (fun H locs hW => ?_)
                        exact t2_amount_172 hC ih  _ _ _ _ _ _ _ _ _ hf hW (lv_sub hl [1, 2, 3, 4, 5] rfl)
                      · skip
                        refine lv_tableOut (tgt := 146) hC.1 hC.2.1 dX2_amount_30 (tab_out [26, 27, 28, 29, 30, 31, 32, 33] (List.forall_mem_cons.mpr ⟨hc_4, (List.forall_mem_cons.mpr ⟨hd_23, (List.forall_mem_cons.mpr ⟨hd_34, (List.forall_mem_cons.mpr ⟨hc_8, (List.forall_mem_cons.mpr ⟨hc_12, (List.forall_mem_cons.mpr ⟨hc_16, (List.forall_mem_cons.mpr ⟨hd_45, (List.forall_mem_cons.mpr ⟨hc_19, (fun _ h => by cases h)⟩)⟩)⟩)⟩)⟩)⟩)⟩)⟩) (by decide)) (by decide) ?_
                        refine lv_aload_n hC.1 hC.2.1 dX2_amount_146 rfl (lv_at hl 0 rfl) ?_
                        obtain ⟨r_56, hg_57, hf⟩ := bd_of hf
                        refine g_calliV (w' := w2 cy aC (r_56.2) ++ (w4 cy aI SI)) hC hW (c2_pop l D cy ad aC hg_57) (cwV 0 hC.2.2.2.2.1 gX2_amount_X2_pop rfl rfl rfl hdV2_pop ⟨Nat.le_of_ble_eq_true rfl, Nat.le_of_ble_eq_true rfl⟩) (⟨[0, 1, 2, 3], [4, 5, 6, 7, 8, 9, 10, 11, 12, 13, 14, 15], [12, 13, 14, 15, 0, 1, 2, 3, 4, 5, 6, 7, 8, 9, 10, 11], w4 cy aI SI, rfl, rfl, rfl, rfl, by decide, rfl, rfl⟩) 0 2 rfl rfl rfl rfl hl.1 rfl (Nat.le_of_ble_eq_true rfl) dX2_amount_147 ⟨Nat.zero_le _, Nat.zero_le _⟩ (fun H locs hW => ?_)
                        refine lv_topi (fun x6_58 ex6_58 => ?_)
                        have hf := lt_nm hf ex6_58
                        refine lv_istore (lv' := [(6, .int x6_58), (0, .ref (aC 0)), (1, .ref (aI 0)), (2, .int x2), (4, .int x4), (5, .int x5)]) hC.1 hC.2.1 dX2_amount_150 hl (by decide) rfl (fun ls hl => ?_)
                        refine lv_aload_n hC.1 hC.2.1 dX2_amount_152 rfl (lv_at hl 1 rfl) ?_
                        refine lv_aload_n hC.1 hC.2.1 dX2_amount_153 rfl (lv_at hl 1 rfl) ?_
                        refine g_get hC hW hin2_amount_2 0 rfl rfl 0 (by decide) 2 rfl rfl dX2_amount_154 ?_
                        refine lv_iload hC.1 hC.2.1 dX2_amount_157 (lv_at hl 5 rfl) ?_
                        obtain ⟨hi_59, hf⟩ := ck_of hf
                        refine g_iald hC hW 1 rfl hi_59 dX2_amount_159 ?_
                        refine lv_aload_n hC.1 hC.2.1 dX2_amount_160 rfl (lv_at hl 1 rfl) ?_
                        obtain ⟨r_60, hg_61, hf⟩ := bd_of hf
                        refine g_calliV (w' := w2 cy aC (r_60.2) ++ (w4 cy aI SI)) hC hW (c2_pop l D cy ad aC hg_61) (cwV 0 hC.2.2.2.2.1 gX2_amount_X2_pop rfl rfl rfl hdV2_pop ⟨Nat.le_of_ble_eq_true rfl, Nat.le_of_ble_eq_true rfl⟩) (⟨[0, 1, 2, 3], [4, 5, 6, 7, 8, 9, 10, 11, 12, 13, 14, 15], [12, 13, 14, 15, 0, 1, 2, 3, 4, 5, 6, 7, 8, 9, 10, 11], w4 cy aI SI, rfl, rfl, rfl, rfl, by decide, rfl, rfl⟩) 0 2 rfl rfl rfl rfl hl.1 rfl (Nat.le_of_ble_eq_true rfl) dX2_amount_161 ⟨Nat.zero_le _, Nat.zero_le _⟩ (fun H locs hW => ?_)
                        refine lv_iload hC.1 hC.2.1 dX2_amount_164 (lv_at hl 0 rfl) ?_
                        obtain ⟨r_62, hg_63, hf⟩ := bd_of hf
                        refine g_calliS (w' := w2 cy aC (r_60.2) ++ (w4 cy aI SI)) hC hW (c2_joined l D cy ad  hg_63) (va_cwS 3 hC.2.2.2.2.1 gX2_amount_X2_joined rfl rfl rfl hdS2_joined ⟨Nat.le_of_ble_eq_true rfl, Nat.le_of_ble_eq_true rfl⟩) (Sub.nil _) rfl hl.1 rfl (Nat.le_of_ble_eq_true rfl) dX2_amount_166 ⟨Nat.zero_le _, Nat.zero_le _⟩ (fun H locs hW => ?_)
                        obtain ⟨r_64, hg_65, hf⟩ := bd_of hf
                        refine g_callvV (w' := w2 cy aC r_64 ++ (w4 cy aI SI)) hC hW (c2_push l D cy ad aC hg_65) (cwV 1 hC.2.2.2.2.1 gX2_amount_X2_push rfl rfl rfl hdV2_push ⟨Nat.le_of_ble_eq_true rfl, Nat.le_of_ble_eq_true rfl⟩) (⟨[0, 1, 2, 3], [4, 5, 6, 7, 8, 9, 10, 11, 12, 13, 14, 15], [12, 13, 14, 15, 0, 1, 2, 3, 4, 5, 6, 7, 8, 9, 10, 11], w4 cy aI SI, rfl, rfl, rfl, rfl, by decide, rfl, rfl⟩) 0 2 rfl rfl rfl rfl hl.1 rfl (Nat.le_of_ble_eq_true rfl) dX2_amount_169 ⟨Nat.zero_le _, Nat.zero_le _⟩ (fun H locs hW => ?_)
                        exact t2_amount_172 hC ih  _ _ _ _ _ _ _ _ _ hf hW (lv_sub hl [1, 2, 3, 4, 5] rfl)
set_option maxRecDepth 100000 in
set_option maxHeartbeats 4000000 in
theorem t2_amount_0 (hC : Cx p s m args meth c cX2_amount 7 wsX2_amount RX2 (some .int)) : ∀ (x2 : Int32) (x3 : Int32) (x4 : Int32) (SC : Ob) (SI : Ob) (res : Int32 × Ob) (H : Heap) (locs : List Loc) (ls : Array Slot), f2_amount x2 x3 x4 SC SI = some res → GW D cy ad (w2 cy aC SC ++ (w4 cy aI SI)) A s H locs → lv_has ls 7 [(0, .ref (aC 0)), (1, .ref (aI 0)), (2, .int x2), (3, .int x3), (4, .int x4)] → W p l e rm2_amount s m args below meth c H locs 0 0 (MQ below (QI D cy (w2 cy aC (res.2) ++ (w4 cy aI SI)) A (res.1)) args s 0 0 A) (F0 m 0 ls []) := by
  intro x2 x3 x4 SC SI res H locs ls hf hW hl
  unfold f2_amount at hf
  refine lv_aload_n hC.1 hC.2.1 dX2_amount_0 rfl (lv_at hl 0 rfl) ?_
  refine lv_iconst (v := 0) hC.1 hC.2.1 dX2_amount_1 (by decide) ?_
  obtain ⟨SC_1, eSC_1⟩ : ∃ y : Ob, y = oI SC 4 0 := ⟨_, rfl⟩
  have hf := lt_nm hf eSC_1
  refine g_put hC hW hin2_amount_2 tyX2 tyX2_ok nmX2 0 rfl rfl 4 (by decide) 1 rfl rfl rfl rfl (Nat.le_of_ble_eq_true rfl) (w' := w2 cy aC SC_1 ++ (w4 cy aI SI)) (by rw [eSC_1]; rfl) dX2_amount_2 (fun H locs hW => ?_)
  refine lv_iload_n hC.1 hC.2.1 dX2_amount_5 rfl (lv_at hl 3 rfl) ?_
  refine lv_istore (lv' := [(5, .int x3), (0, .ref (aC 0)), (1, .ref (aI 0)), (2, .int x2), (3, .int x3), (4, .int x4)]) hC.1 hC.2.1 dX2_amount_6 hl (by decide) rfl (fun ls hl => ?_)
  exact t2_amount_8 hC _ _ _ _ _ _ _ _ _ _ hf hW (lv_sub hl [1, 2, 3, 5, 0] rfl)
set_option maxRecDepth 100000 in
set_option maxHeartbeats 4000000 in
theorem c2_amount (l : Launch) (D : va_G) (cy : Nat → ClassId) (ad : Nat → Nat) (aC : Nat → Nat) (aI : Nat → Nat) {x2 : Int32} {x3 : Int32} {x4 : Int32} {SC : Ob} {SI : Ob} {res : Int32 × Ob} (h : f2_amount x2 x3 x4 SC SI = some res) : GCi l yX2_amount wsX2_amount rm2_amount [.ref (aC 0), .ref (aI 0), .int x2, .int x3, .int x4] D cy ad (w2 cy aC SC ++ (w4 cy aI SI)) (w2 cy aC (res.2) ++ (w4 cy aI SI)) (res.1) := fun sz => GC.start (own := RX2) (Qc := fun A => QI D cy (w2 cy aC (res.2) ++ (w4 cy aI SI)) A (res.1)) sz (by decide) rfl rfl (Nat.le_of_ble_eq_true rfl) (fun p e s m below meth c A ls hC hW hl => t2_amount_0 hC _ _ _ _ _ _ _ _ _ h hW (lv_sub hl [0, 1, 2, 3, 4] rfl))
end
