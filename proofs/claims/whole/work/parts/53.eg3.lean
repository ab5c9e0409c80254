/-! laid by program: functions, walks and contracts of 11_inn, 11_morning -/
theorem sw_zz {r : Int32} {x y : Nat → Nat} (h : zz r = true) : sw r x y = x := if_pos (of_decide_eq_true h)
theorem sw_nz {r : Int32} {x y : Nat → Nat} (h : nz r = true) : sw r x y = y := if_neg (of_decide_eq_true h)
set_option maxRecDepth 20000 in
theorem gX11_inn_X9_readInn : GoodIn wsX11_inn (wsV RX11 87 RX9 yX9_readInn wsX9_readInn) := goodIn_r _ [8, 9, 10, 11, 12, 13, 14, 15, 16, 17, 18, 19, 20, 21, 22, 23, 24, 25, 26, 27, 28, 29, 30, 31, 32, 33, 34, 35, 36, 37, 38, 39, 40, 41, 42, 43, 44, 45, 46, 47, 48, 49, 50, 51, 52, 53, 54, 55, 56, 57, 58, 59, 60, 61, 62, 63, 64, 65, 66, 67, 68, 69, 70, 71, 72, 73, 74, 75, 76, 77, 78, 79, 80, 81, 82, 83, 84, 85, 86, 87, 88, 89, 90, 91, 92, 93, 94, 95, 96, 97, 98, 99, 100, 101, 102, 103, 104, 105, 106, 107, 108, 109, 110, 111, 112, 113, 114, 115, 116, 117, 118, 119, 120, 121, 122, 123, 124, 125, 126, 127, 128, 129, 130, 131, 132, 133, 134, 135, 136, 137, 138, 139, 140, 141, 142, 143, 144, 145, 146, 147, 148, 149, 150, 151, 152, 153, 11, 154, 155, 156, 157, 158, 159, 160, 161, 162, 163, 164, 165, 166, 167, 168, 169, 170, 171, 172, 173, 174, 175, 176, 177, 178, 179, 180, 181, 182, 183, 184, 185, 186, 187, 188, 189, 190, 191, 192, 193, 194, 195, 196, 197, 198, 199, 200, 201, 202, 203, 204, 205, 206, 207, 208, 209, 210, 211, 212, 213, 214, 215, 216, 217, 218, 219, 220, 221, 222, 223, 224, 225, 226, 227, 228, 229, 230, 231, 232, 233, 234, 235, 236, 237, 238, 239, 240, 241, 242, 243, 244, 245, 246, 247, 248, 249, 250, 251, 252, 253, 254, 255, 256, 257, 258, 259, 260, 261, 262, 263, 264, 265, 266, 267, 268, 269, 270, 271, 272, 273, 274, 275, 276, 277, 278, 279, 280, 281, 282, 283, 284, 285, 286, 287, 288, 289, 290, 291, 292, 293, 294, 295, 296, 297, 298, 299, 300, 301, 302, 303, 304, 305, 306, 307, 308, 309, 310, 311, 312, 313, 314, 315, 316, 317, 318, 319, 320, 321, 322, 323, 324, 325, 326, 327, 328, 329, 330, 331, 332, 333, 334, 335, 336, 337, 338, 339, 340, 341, 342, 343, 344, 345, 346, 347, 348, 349, 350, 351, 352, 353, 354, 355, 356, 357, 358, 359, 360, 386, 387, 388, 389, 390, 391, 392, 393, 394, 395, 396, 397, 398, 399, 400, 401, 402, 403, 404, 405, 406, 407, 408, 409, 410, 411, 412, 413, 414, 415, 416, 417, 418, 419, 420, 421, 422] rfl (by decide +kernel)
set_option maxRecDepth 20000 in
theorem gX11_inn_X4_all : GoodIn wsX11_inn (wsV RX11 93 RX4 yX4_all wsX4_all) := goodIn_r _ [361, 329, 330, 22, 331, 24, 405, 406, 407, 408, 409, 410, 411, 412, 413, 414, 415, 416, 417] rfl (by decide +kernel)
set_option maxRecDepth 20000 in
theorem gX11_inn_X0_open : GoodIn wsX11_inn (wsV RX11 97 RX0 yX0_open wsX0_open) := goodIn_r _ [362, 363, 364, 365, 366, 367, 368, 369, 370, 423, 424, 425, 426, 427, 428, 429, 430, 431] rfl (by decide +kernel)
theorem dX11_inn_0 : decode cX11_inn 0 = .ok (.aload_n 0, 1) := by decide +kernel
theorem dX11_inn_1 : decode cX11_inn 1 = .ok (.getfield 12, 3) := by decide +kernel
theorem dX11_inn_4 : decode cX11_inn 4 = .ok (.aload_n 0, 1) := by decide +kernel
theorem dX11_inn_5 : decode cX11_inn 5 = .ok (.getfield 28, 3) := by decide +kernel
theorem dX11_inn_8 : decode cX11_inn 8 = .ok (.invokevirtual 87, 3) := by decide +kernel
theorem dX11_inn_11 : decode cX11_inn 11 = .ok (.istore_n 1, 1) := by decide +kernel
theorem dX11_inn_12 : decode cX11_inn 12 = .ok (.iload_n 1, 1) := by decide +kernel
theorem dX11_inn_13 : decode cX11_inn 13 = .ok (.ifCond .ne 63, 3) := by decide +kernel
theorem dX11_inn_16 : decode cX11_inn 16 = .ok (.aload_n 0, 1) := by decide +kernel
theorem dX11_inn_17 : decode cX11_inn 17 = .ok (.getfield 24, 3) := by decide +kernel
theorem dX11_inn_20 : decode cX11_inn 20 = .ok (.astore_n 2, 1) := by decide +kernel
theorem dX11_inn_21 : decode cX11_inn 21 = .ok (.aload_n 0, 1) := by decide +kernel
theorem dX11_inn_22 : decode cX11_inn 22 = .ok (.aload_n 0, 1) := by decide +kernel
theorem dX11_inn_23 : decode cX11_inn 23 = .ok (.getfield 28, 3) := by decide +kernel
theorem dX11_inn_26 : decode cX11_inn 26 = .ok (.putfield 24, 3) := by decide +kernel
theorem dX11_inn_29 : decode cX11_inn 29 = .ok (.aload_n 0, 1) := by decide +kernel
theorem dX11_inn_30 : decode cX11_inn 30 = .ok (.aload_n 2, 1) := by decide +kernel
theorem dX11_inn_31 : decode cX11_inn 31 = .ok (.putfield 28, 3) := by decide +kernel
theorem dX11_inn_34 : decode cX11_inn 34 = .ok (.aload_n 0, 1) := by decide +kernel
theorem dX11_inn_35 : decode cX11_inn 35 = .ok (.getfield 34, 3) := by decide +kernel
theorem dX11_inn_38 : decode cX11_inn 38 = .ok (.iconst 0, 1) := by decide +kernel
theorem dX11_inn_39 : decode cX11_inn 39 = .ok (.putfield 91, 3) := by decide +kernel
theorem dX11_inn_42 : decode cX11_inn 42 = .ok (.aload_n 0, 1) := by decide +kernel
theorem dX11_inn_43 : decode cX11_inn 43 = .ok (.getfield 44, 3) := by decide +kernel
theorem dX11_inn_46 : decode cX11_inn 46 = .ok (.aload_n 0, 1) := by decide +kernel
theorem dX11_inn_47 : decode cX11_inn 47 = .ok (.getfield 24, 3) := by decide +kernel
theorem dX11_inn_50 : decode cX11_inn 50 = .ok (.invokevirtual 93, 3) := by decide +kernel
theorem dX11_inn_53 : decode cX11_inn 53 = .ok (.invokevirtual 97, 3) := by decide +kernel
theorem dX11_inn_56 : decode cX11_inn 56 = .ok (.iconst 0, 1) := by decide +kernel
theorem dX11_inn_57 : decode cX11_inn 57 = .ok (.istore_n 3, 1) := by decide +kernel
theorem dX11_inn_58 : decode cX11_inn 58 = .ok (.iload_n 3, 1) := by decide +kernel
theorem dX11_inn_59 : decode cX11_inn 59 = .ok (.iconst 4, 1) := by decide +kernel
theorem dX11_inn_60 : decode cX11_inn 60 = .ok (.if_icmp .ge 16, 3) := by decide +kernel
theorem dX11_inn_63 : decode cX11_inn 63 = .ok (.aload_n 0, 1) := by decide +kernel
theorem dX11_inn_64 : decode cX11_inn 64 = .ok (.getfield 52, 3) := by decide +kernel
theorem dX11_inn_67 : decode cX11_inn 67 = .ok (.iload_n 3, 1) := by decide +kernel
theorem dX11_inn_68 : decode cX11_inn 68 = .ok (.iconst 0, 1) := by decide +kernel
theorem dX11_inn_69 : decode cX11_inn 69 = .ok (.bastore, 1) := by decide +kernel
theorem dX11_inn_70 : decode cX11_inn 70 = .ok (.iinc 3 1, 3) := by decide +kernel
theorem dX11_inn_73 : decode cX11_inn 73 = .ok (.goto (-15), 3) := by decide +kernel
theorem dX11_inn_76 : decode cX11_inn 76 = .ok (.iload_n 1, 1) := by decide +kernel
theorem dX11_inn_77 : decode cX11_inn 77 = .ok (.ireturn, 1) := by decide +kernel
set_option maxRecDepth 20000 in
theorem gX11_morning_X9_readMorning : GoodIn wsX11_morning (wsV RX11 101 RX9 yX9_readMorning wsX9_readMorning) := goodIn_r _ [5, 6, 7, 8, 9, 10, 11, 12, 13, 14, 15, 16, 17, 18, 19, 20, 21, 22, 23, 24, 25, 26, 27, 28, 29, 30, 31, 32, 33, 34, 35, 36, 37, 38, 39, 40, 41, 42, 43, 44, 45, 46, 47, 48, 49, 50, 51, 52, 53, 54, 55, 56, 57, 58, 59, 60, 61, 62, 63, 64, 65, 66, 67, 68, 69, 70, 71, 72, 73, 74, 75, 76, 77, 78, 79, 80, 81, 82, 83, 84, 85, 86, 87, 88, 89, 90, 91, 92, 93, 94, 95, 96, 97, 98, 99, 100, 101, 102, 103, 104, 105, 106, 107, 108, 109, 110, 111, 112, 113, 114, 115, 116, 117, 118, 119, 120, 121, 122, 123, 124, 125, 126, 127, 128, 129, 130, 131, 132, 133, 134, 135, 136, 137, 138, 139, 140, 141, 142, 8, 143, 144, 145, 146, 147, 148, 149, 150, 151, 152, 153, 154, 155, 156, 157, 158, 159, 160, 161, 162, 163, 164, 165, 166, 167, 168, 169, 170, 171, 172, 173, 174, 175, 176, 177, 178, 179, 180, 181, 182, 183, 184, 185, 186, 187, 188, 189, 190, 191, 192, 193, 194, 195, 196, 197, 198, 199, 200, 201, 202, 203, 204, 205, 206, 207, 208, 209, 210, 211, 212, 213, 214, 215, 216, 217, 218, 219, 220, 221, 222, 223, 224, 225, 226, 227, 228, 229, 230, 231, 232, 233, 234, 235, 236, 237, 238, 239, 240, 241, 242, 243, 244, 245, 246, 247, 248, 249, 250, 251, 252, 253, 254, 255, 256, 257, 258, 259, 260, 261, 262, 263, 264, 265, 266, 267, 268, 269, 270, 271, 272, 273, 274, 275, 276, 289, 290, 291, 292, 293, 294, 295, 296, 297, 298, 299, 300, 301, 302, 303, 304, 305, 306, 307, 308, 309, 310, 311, 312, 313, 314, 315, 316, 317, 318, 319, 320, 321, 322, 323, 324, 325, 326, 327, 328] rfl (by decide +kernel)
theorem dX11_morning_0 : decode cX11_morning 0 = .ok (.aload_n 0, 1) := by decide +kernel
theorem dX11_morning_1 : decode cX11_morning 1 = .ok (.getfield 12, 3) := by decide +kernel
theorem dX11_morning_4 : decode cX11_morning 4 = .ok (.aload_n 0, 1) := by decide +kernel
theorem dX11_morning_5 : decode cX11_morning 5 = .ok (.getfield 24, 3) := by decide +kernel
theorem dX11_morning_8 : decode cX11_morning 8 = .ok (.aload_n 0, 1) := by decide +kernel
theorem dX11_morning_9 : decode cX11_morning 9 = .ok (.getfield 38, 3) := by decide +kernel
theorem dX11_morning_12 : decode cX11_morning 12 = .ok (.invokevirtual 101, 3) := by decide +kernel
theorem dX11_morning_15 : decode cX11_morning 15 = .ok (.istore_n 1, 1) := by decide +kernel
theorem dX11_morning_16 : decode cX11_morning 16 = .ok (.iload_n 1, 1) := by decide +kernel
theorem dX11_morning_17 : decode cX11_morning 17 = .ok (.ifCond .ne 21, 3) := by decide +kernel
theorem dX11_morning_20 : decode cX11_morning 20 = .ok (.aload_n 0, 1) := by decide +kernel
theorem dX11_morning_21 : decode cX11_morning 21 = .ok (.getfield 34, 3) := by decide +kernel
theorem dX11_morning_24 : decode cX11_morning 24 = .ok (.astore_n 2, 1) := by decide +kernel
theorem dX11_morning_25 : decode cX11_morning 25 = .ok (.aload_n 0, 1) := by decide +kernel
theorem dX11_morning_26 : decode cX11_morning 26 = .ok (.aload_n 0, 1) := by decide +kernel
theorem dX11_morning_27 : decode cX11_morning 27 = .ok (.getfield 38, 3) := by decide +kernel
theorem dX11_morning_30 : decode cX11_morning 30 = .ok (.putfield 34, 3) := by decide +kernel
theorem dX11_morning_33 : decode cX11_morning 33 = .ok (.aload_n 0, 1) := by decide +kernel
theorem dX11_morning_34 : decode cX11_morning 34 = .ok (.aload_n 2, 1) := by decide +kernel
theorem dX11_morning_35 : decode cX11_morning 35 = .ok (.putfield 38, 3) := by decide +kernel
theorem dX11_morning_38 : decode cX11_morning 38 = .ok (.iload_n 1, 1) := by decide +kernel
theorem dX11_morning_39 : decode cX11_morning 39 = .ok (.ireturn, 1) := by decide +kernel
section
variable {p : Program} {l : Launch} {e : Env} {s : State} {m : MethodId} {args : Array Value} {below : List Frame} {meth : Method} {c : Code} {D : va_G} {cy : Nat → ClassId} {ad : Nat → Nat} {A : Nat → Prop} {aM aB aO aI aN aT aC aG aR aQ aK aL aX aH aJ aP aU aE0 aE1 aE2 aE3 : Nat → Nat} {gi : Value}
abbrev rm11_inn : Room := { frames := 74, cells := 0, slots := 0, locals := 1749 }
theorem hdV11_inn : yX11_inn.cls = RX11 ∧ (yX11_inn.cls ≠ "java/lang/invoke/MethodHandle" ∧ yX11_inn.cls ≠ "java/lang/invoke/VarHandle" ∧ (parseMethodDescriptor yX11_inn.desc).map (fun d => d.parameters.length) = some 0) := by decide +kernel
theorem hin11_inn_11 : ∀ x ∈ u_ws RX11 TX11 12, x ∈ wsX11_inn := fun _ h => List.mem_cons_of_mem _ (List.mem_append_left _ (List.mem_append_left _ (List.mem_append_left _ (List.mem_append_left _ (List.mem_append_left _ (List.mem_append_left _ (List.mem_append_left _ (List.mem_append_right _ h))))))))
theorem hin11_inn_7 : ∀ x ∈ u_ws RX7 TX7 3, x ∈ wsX11_inn := fun _ h => List.mem_cons_of_mem _ (List.mem_append_left _ (List.mem_append_left _ (List.mem_append_left _ (List.mem_append_left _ (List.mem_append_left _ (List.mem_append_left _ (List.mem_append_right _ h)))))))
set_option maxRecDepth 100000 in
set_option maxHeartbeats 4000000 in
theorem t11_inn_58 (hC : Cx p s m args meth c cX11_inn 4 wsX11_inn RX11 (some .int)) : ∀ n : Nat, ∀ (x1 : Int32) (x3 : Int32) (SX : Ob) (SR : Ob) (SG : Ob) (ST : Ob) (SC : Ob) (SH : Ob) (SJ : Ob) (SB : Ob) (SP : Ob) (res : Int32 × Ob × Ob × Ob × Ob × Ob × Ob × Ob × Ob) (H : Heap) (locs : List Loc) (ls : Array Slot), f11_inn_58 n x1 x3 SX SR SG ST SC SH SJ SB SP = some res → GW D cy ad (w11 cy aX aT aR aJ aH aP aU aB aQ aK aL aE0 aE1 aE2 aE3 SX ++ (w9 cy aR aG aT SR ++ (w3 cy aG aT aC (.ref (aJ 0)) SG ++ (w10 cy aT ST ++ (w2 cy aC SC ++ (w4 cy aH SH ++ (w4 cy aJ SJ ++ (w0 cy aB SB ++ (w7 cy aP SP))))))))) A s H locs → lv_has ls 4 [(0, .ref (aX 0)), (1, .int x1), (3, .int x3)] → W p l e rm11_inn s m args below meth c H locs 0 0 (MQ below (QI D cy (w11 cy aX aT aR (sw res.1 aJ aH) (sw res.1 aH aJ) aP aU aB aQ aK aL aE0 aE1 aE2 aE3 (res.2.1) ++ (w9 cy aR aG aT (res.2.2.1) ++ (w3 cy aG aT aC (.ref (aJ 0)) (res.2.2.2.1) ++ (w10 cy aT (res.2.2.2.2.1) ++ (w2 cy aC (res.2.2.2.2.2.1) ++ (w4 cy aH SH ++ (w4 cy aJ (res.2.2.2.2.2.2.1) ++ (w0 cy aB (res.2.2.2.2.2.2.2.1) ++ (w7 cy aP (res.2.2.2.2.2.2.2.2)))))))))) A (res.1)) args s 0 0 A) (F0 m 58 ls []) := by
  intro n
  induction n with
  | zero =>
    intro _ _ _ _ _ _ _ _ _ _ _ _ _ _ _ hf _ _
    exact nomatch (show (none : Option (Int32 × Ob × Ob × Ob × Ob × Ob × Ob × Ob × Ob)) = some _ from hf)
  | succ n ih =>
    intro x1 x3 SX SR SG ST SC SH SJ SB SP res H locs ls hf hW hl
    rw [f11_inn_58] at hf
    refine lv_iload_n hC.1 hC.2.1 dX11_inn_58 rfl (lv_at hl 2 rfl) ?_
    refine lv_iconst (v := 4) hC.1 hC.2.1 dX11_inn_59 (by decide) ?_
    refine lv_icmp_ge (tgt := 76) hC.1 hC.2.1 dX11_inn_60 (by decide) (fun hc_1 => ?_) (fun hc_1 => ?_)
    · have hf := ite_t hf hc_1
      refine lv_iload_n hC.1 hC.2.1 dX11_inn_76 rfl (lv_at hl 1 rfl) ?_
      obtain ⟨hz, hf⟩ := ck_of hf
      obtain rfl := Option.some.inj hf
      dsimp only
      rw [sw_zz hz, sw_zz hz]
      exact g_iret hC hW dX11_inn_77
    · have hf := ite_f hf hc_1
      refine lv_aload_n hC.1 hC.2.1 dX11_inn_63 rfl (lv_at hl 0 rfl) ?_
      refine g_get hC hW hin11_inn_11 0 rfl rfl 8 (by decide) 7 rfl rfl dX11_inn_64 ?_
      refine lv_iload_n hC.1 hC.2.1 dX11_inn_67 rfl (lv_at hl 2 rfl) ?_
      refine lv_iconst (v := 0) hC.1 hC.2.1 dX11_inn_68 (by decide) ?_
      obtain ⟨hi_2, hf⟩ := ck_of hf
      obtain ⟨SX_3, eSX_3⟩ : ∃ y : Ob, y = oA SX 8 (Int32.toNatClampNeg x3) (vp_nar .boolean 0) := ⟨_, rfl⟩
      have hf := lt_nm hf eSX_3
      refine g_zast hC hW 2 rfl hi_2 (w' := w11 cy aX aT aR aJ aH aP aU aB aQ aK aL aE0 aE1 aE2 aE3 SX_3 ++ (w9 cy aR aG aT SR ++ (w3 cy aG aT aC (.ref (aJ 0)) SG ++ (w10 cy aT ST ++ (w2 cy aC SC ++ (w4 cy aH SH ++ (w4 cy aJ SJ ++ (w0 cy aB SB ++ (w7 cy aP SP))))))))) (by rw [eSX_3]; rfl) dX11_inn_69 (fun H locs hW => ?_)
      obtain ⟨x3_4, ex3_4⟩ : ∃ y : Int32, y = x3 + 1 := ⟨_, rfl⟩
      have hf := lt_nm hf ex3_4
      refine lv_iinc (v := x3_4) (lv' := [(3, .int x3_4), (0, .ref (aX 0)), (1, .int x1)]) hC.1 hC.2.1 dX11_inn_70 hl (k := 2) rfl (by rw [ex3_4]; rfl) (by decide) rfl (fun ls hl => ?_)
      refine lv_goto (tgt := 58) hC.1 hC.2.1 dX11_inn_73 (by decide) ?_
      exact ih _ _ _ _ _ _ _ _ _ _ _ _ _ _ _ hf hW (lv_sub hl [1, 2, 0] rfl)
set_option maxRecDepth 100000 in
set_option maxHeartbeats 4000000 in
theorem t11_inn_0 (hC : Cx p s m args meth c cX11_inn 4 wsX11_inn RX11 (some .int)) : ∀ (SX : Ob) (SR : Ob) (SG : Ob) (ST : Ob) (SC : Ob) (SH : Ob) (SJ : Ob) (SB : Ob) (SP : Ob) (res : Int32 × Ob × Ob × Ob × Ob × Ob × Ob × Ob × Ob) (H : Heap) (locs : List Loc) (ls : Array Slot), f11_inn SX SR SG ST SC SH SJ SB SP = some res → GW D cy ad (w11 cy aX aT aR aH aJ aP aU aB aQ aK aL aE0 aE1 aE2 aE3 SX ++ (w9 cy aR aG aT SR ++ (w3 cy aG aT aC gi SG ++ (w10 cy aT ST ++ (w2 cy aC SC ++ (w4 cy aH SH ++ (w4 cy aJ SJ ++ (w0 cy aB SB ++ (w7 cy aP SP))))))))) A s H locs → lv_has ls 4 [(0, .ref (aX 0))] → W p l e rm11_inn s m args below meth c H locs 0 0 (MQ below (QI D cy (w11 cy aX aT aR (sw res.1 aJ aH) (sw res.1 aH aJ) aP aU aB aQ aK aL aE0 aE1 aE2 aE3 (res.2.1) ++ (w9 cy aR aG aT (res.2.2.1) ++ (w3 cy aG aT aC (.ref (aJ 0)) (res.2.2.2.1) ++ (w10 cy aT (res.2.2.2.2.1) ++ (w2 cy aC (res.2.2.2.2.2.1) ++ (w4 cy aH SH ++ (w4 cy aJ (res.2.2.2.2.2.2.1) ++ (w0 cy aB (res.2.2.2.2.2.2.2.1) ++ (w7 cy aP (res.2.2.2.2.2.2.2.2)))))))))) A (res.1)) args s 0 0 A) (F0 m 0 ls []) := by
  intro SX SR SG ST SC SH SJ SB SP res H locs ls hf hW hl
  unfold f11_inn at hf
  refine lv_aload_n hC.1 hC.2.1 dX11_inn_0 rfl (lv_at hl 0 rfl) ?_
  refine g_get hC hW hin11_inn_11 0 rfl rfl 1 (by decide) 1 rfl rfl dX11_inn_1 ?_
  refine lv_aload_n hC.1 hC.2.1 dX11_inn_4 rfl (lv_at hl 0 rfl) ?_
  refine g_get hC hW hin11_inn_11 0 rfl rfl 3 (by decide) 2 rfl rfl dX11_inn_5 ?_
  obtain ⟨r_1, hg_2, hf⟩ := bd_of hf
  refine g_calliV (w' := w11 cy aX aT aR aH aJ aP aU aB aQ aK aL aE0 aE1 aE2 aE3 SX ++ (w9 cy aR aG aT (r_1.2.1) ++ (w3 cy aG aT aC (.ref (aJ 0)) (r_1.2.2.1) ++ (w10 cy aT (r_1.2.2.2.1) ++ (w2 cy aC (r_1.2.2.2.2.1) ++ (w4 cy aH SH ++ (w4 cy aJ (r_1.2.2.2.2.2) ++ (w0 cy aB SB ++ (w7 cy aP SP))))))))) hC hW (c9_readInn l D cy ad aR aG aT aC aJ gi hg_2) (cwV 1 hC.2.2.2.2.1 gX11_inn_X9_readInn rfl rfl rfl hdV9_readInn ⟨Nat.le_of_ble_eq_true rfl, Nat.le_of_ble_eq_true rfl⟩) (⟨[3, 4, 5, 6, 7, 8, 9, 10, 11, 12, 13, 26, 27, 28, 29, 30, 31, 32, 33, 34, 35, 36, 37], [0, 1, 2, 14, 15, 16, 17, 18, 19, 20, 21, 22, 23, 24, 25, 38, 39, 40, 41, 42, 43, 44, 45, 46], [0, 1, 2, 24, 25, 26, 27, 28, 29, 30, 31, 32, 33, 34, 3, 4, 5, 6, 7, 8, 9, 10, 11, 12, 13, 14, 35, 36, 37, 38, 39, 40, 41, 42, 43, 44, 45, 46, 15, 16, 17, 18, 19, 20, 21, 22, 23], w11 cy aX aT aR aH aJ aP aU aB aQ aK aL aE0 aE1 aE2 aE3 SX ++ (w4 cy aH SH ++ (w0 cy aB SB ++ (w7 cy aP SP))), rfl, rfl, rfl, rfl, by decide, rfl, rfl⟩) 0 8 rfl rfl rfl rfl hl.1 rfl (Nat.le_of_ble_eq_true rfl) dX11_inn_8 ⟨Nat.zero_le _, Nat.zero_le _⟩ (fun H locs hW => ?_)
  refine lv_topi (fun x1_3 ex1_3 => ?_)
  have hf := lt_nm hf ex1_3
  refine lv_istore_n (lv' := [(1, .int x1_3), (0, .ref (aX 0))]) hC.1 hC.2.1 dX11_inn_11 rfl hl (by decide) rfl (fun ls hl => ?_)
  refine lv_iload_n hC.1 hC.2.1 dX11_inn_12 rfl (lv_at hl 0 rfl) ?_
  refine lv_if_ne (tgt := 76) hC.1 hC.2.1 dX11_inn_13 (by decide) (fun hc_4 => ?_) (fun hc_4 => ?_)
  · have hf := ite_f hf hc_4
    refine lv_iload_n hC.1 hC.2.1 dX11_inn_76 rfl (lv_at hl 0 rfl) ?_
    obtain ⟨hz, hf⟩ := ck_of hf
    obtain rfl := Option.some.inj hf
    dsimp only
    rw [sw_nz hz, sw_nz hz]
    exact g_iret hC hW dX11_inn_77
  · have hf := ite_t hf hc_4
    refine lv_aload_n hC.1 hC.2.1 dX11_inn_16 rfl (lv_at hl 1 rfl) ?_
    refine g_get hC hW hin11_inn_11 0 rfl rfl 2 (by decide) 3 rfl rfl dX11_inn_17 ?_
    refine lv_astore_n (lv' := [(2, .ref (aH 0)), (1, .int x1_3), (0, .ref (aX 0))]) hC.1 hC.2.1 dX11_inn_20 rfl hl (by decide) rfl (fun ls hl => ?_)
    refine lv_aload_n hC.1 hC.2.1 dX11_inn_21 rfl (lv_at hl 2 rfl) ?_
    refine lv_aload_n hC.1 hC.2.1 dX11_inn_22 rfl (lv_at hl 2 rfl) ?_
    refine g_get hC hW hin11_inn_11 0 rfl rfl 3 (by decide) 2 rfl rfl dX11_inn_23 ?_
    refine g_put hC hW hin11_inn_11 tyX11 tyX11_ok nmX11 0 rfl rfl 2 (by decide) 3 rfl rfl rfl rfl (Nat.le_of_ble_eq_true rfl) (w' := w11 cy aX aT aR aJ aJ aP aU aB aQ aK aL aE0 aE1 aE2 aE3 SX ++ (w9 cy aR aG aT (r_1.2.1) ++ (w3 cy aG aT aC (.ref (aJ 0)) (r_1.2.2.1) ++ (w10 cy aT (r_1.2.2.2.1) ++ (w2 cy aC (r_1.2.2.2.2.1) ++ (w4 cy aH SH ++ (w4 cy aJ (r_1.2.2.2.2.2) ++ (w0 cy aB SB ++ (w7 cy aP SP))))))))) rfl dX11_inn_26 (fun H locs hW => ?_)
    refine lv_aload_n hC.1 hC.2.1 dX11_inn_29 rfl (lv_at hl 2 rfl) ?_
    refine lv_aload_n hC.1 hC.2.1 dX11_inn_30 rfl (lv_at hl 0 rfl) ?_
    refine g_put hC hW hin11_inn_11 tyX11 tyX11_ok nmX11 0 rfl rfl 3 (by decide) 2 rfl rfl rfl rfl (Nat.le_of_ble_eq_true rfl) (w' := w11 cy aX aT aR aJ aH aP aU aB aQ aK aL aE0 aE1 aE2 aE3 SX ++ (w9 cy aR aG aT (r_1.2.1) ++ (w3 cy aG aT aC (.ref (aJ 0)) (r_1.2.2.1) ++ (w10 cy aT (r_1.2.2.2.1) ++ (w2 cy aC (r_1.2.2.2.2.1) ++ (w4 cy aH SH ++ (w4 cy aJ (r_1.2.2.2.2.2) ++ (w0 cy aB SB ++ (w7 cy aP SP))))))))) rfl dX11_inn_31 (fun H locs hW => ?_)
    refine lv_aload_n hC.1 hC.2.1 dX11_inn_34 rfl (lv_at hl 2 rfl) ?_
    refine g_get hC hW hin11_inn_11 0 rfl rfl 4 (by decide) 4 rfl rfl dX11_inn_35 ?_
    refine lv_iconst (v := 0) hC.1 hC.2.1 dX11_inn_38 (by decide) ?_
    obtain ⟨SP_5, eSP_5⟩ : ∃ y : Ob, y = oI SP 0 0 := ⟨_, rfl⟩
    have hf := lt_nm hf eSP_5
    refine g_put hC hW hin11_inn_7 tyX7 tyX7_ok nmX7 44 rfl rfl 0 (by decide) 5 rfl rfl rfl rfl (Nat.le_of_ble_eq_true rfl) (w' := w11 cy aX aT aR aJ aH aP aU aB aQ aK aL aE0 aE1 aE2 aE3 SX ++ (w9 cy aR aG aT (r_1.2.1) ++ (w3 cy aG aT aC (.ref (aJ 0)) (r_1.2.2.1) ++ (w10 cy aT (r_1.2.2.2.1) ++ (w2 cy aC (r_1.2.2.2.2.1) ++ (w4 cy aH SH ++ (w4 cy aJ (r_1.2.2.2.2.2) ++ (w0 cy aB SB ++ (w7 cy aP SP_5))))))))) (by rw [eSP_5]; rfl) dX11_inn_39 (fun H locs hW => ?_)
    refine lv_aload_n hC.1 hC.2.1 dX11_inn_42 rfl (lv_at hl 2 rfl) ?_
    refine g_get hC hW hin11_inn_11 0 rfl rfl 6 (by decide) 6 rfl rfl dX11_inn_43 ?_
    refine lv_aload_n hC.1 hC.2.1 dX11_inn_46 rfl (lv_at hl 2 rfl) ?_
    refine g_get hC hW hin11_inn_11 0 rfl rfl 2 (by decide) 3 rfl rfl dX11_inn_47 ?_
    obtain ⟨r_6, hg_7, hf⟩ := bd_of hf
    refine g_calliV (w' := w11 cy aX aT aR aJ aH aP aU aB aQ aK aL aE0 aE1 aE2 aE3 SX ++ (w9 cy aR aG aT (r_1.2.1) ++ (w3 cy aG aT aC (.ref (aJ 0)) (r_1.2.2.1) ++ (w10 cy aT (r_1.2.2.2.1) ++ (w2 cy aC (r_1.2.2.2.2.1) ++ (w4 cy aH SH ++ (w4 cy aJ (r_1.2.2.2.2.2) ++ (w0 cy aB SB ++ (w7 cy aP SP_5))))))))) hC hW (c4_all l D cy ad aJ hg_7) (cwV 0 hC.2.2.2.2.1 gX11_inn_X4_all rfl rfl rfl hdV4_all ⟨Nat.le_of_ble_eq_true rfl, Nat.le_of_ble_eq_true rfl⟩) (⟨[26, 27, 28, 29, 30, 31, 32, 33, 34, 35, 36, 37], [0, 1, 2, 3, 4, 5, 6, 7, 8, 9, 10, 11, 12, 13, 14, 15, 16, 17, 18, 19, 20, 21, 22, 23, 24, 25, 38, 39, 40, 41, 42, 43, 44, 45, 46], [0, 1, 2, 3, 4, 5, 6, 7, 8, 9, 10, 11, 12, 13, 14, 15, 16, 17, 18, 19, 20, 21, 22, 23, 24, 25, 35, 36, 37, 38, 39, 40, 41, 42, 43, 44, 45, 46, 26, 27, 28, 29, 30, 31, 32, 33, 34], w11 cy aX aT aR aJ aH aP aU aB aQ aK aL aE0 aE1 aE2 aE3 SX ++ (w9 cy aR aG aT (r_1.2.1) ++ (w3 cy aG aT aC (.ref (aJ 0)) (r_1.2.2.1) ++ (w10 cy aT (r_1.2.2.2.1) ++ (w2 cy aC (r_1.2.2.2.2.1) ++ (w4 cy aH SH ++ (w0 cy aB SB ++ (w7 cy aP SP_5))))))), rfl, rfl, rfl, rfl, by decide, rfl, rfl⟩) 0 4 rfl rfl rfl rfl hl.1 rfl (Nat.le_of_ble_eq_true rfl) dX11_inn_50 ⟨Nat.zero_le _, Nat.zero_le _⟩ (fun H locs hW => ?_)
    obtain ⟨r_8, hg_9, hf⟩ := bd_of hf
    refine g_callvV (w' := w11 cy aX aT aR aJ aH aP aU aB aQ aK aL aE0 aE1 aE2 aE3 SX ++ (w9 cy aR aG aT (r_1.2.1) ++ (w3 cy aG aT aC (.ref (aJ 0)) (r_1.2.2.1) ++ (w10 cy aT (r_1.2.2.2.1) ++ (w2 cy aC (r_1.2.2.2.2.1) ++ (w4 cy aH SH ++ (w4 cy aJ (r_1.2.2.2.2.2) ++ (w0 cy aB r_8 ++ (w7 cy aP SP_5))))))))) hC hW (c0_open l D cy ad aB hg_9) (cwV 1 hC.2.2.2.2.1 gX11_inn_X0_open rfl rfl rfl hdV0_open ⟨Nat.le_of_ble_eq_true rfl, Nat.le_of_ble_eq_true rfl⟩) (⟨[38, 39, 40, 41, 42, 43], [0, 1, 2, 3, 4, 5, 6, 7, 8, 9, 10, 11, 12, 13, 14, 15, 16, 17, 18, 19, 20, 21, 22, 23, 24, 25, 26, 27, 28, 29, 30, 31, 32, 33, 34, 35, 36, 37, 44, 45, 46], [0, 1, 2, 3, 4, 5, 6, 7, 8, 9, 10, 11, 12, 13, 14, 15, 16, 17, 18, 19, 20, 21, 22, 23, 24, 25, 26, 27, 28, 29, 30, 31, 32, 33, 34, 35, 36, 37, 41, 42, 43, 44, 45, 46, 38, 39, 40], w11 cy aX aT aR aJ aH aP aU aB aQ aK aL aE0 aE1 aE2 aE3 SX ++ (w9 cy aR aG aT (r_1.2.1) ++ (w3 cy aG aT aC (.ref (aJ 0)) (r_1.2.2.1) ++ (w10 cy aT (r_1.2.2.2.1) ++ (w2 cy aC (r_1.2.2.2.2.1) ++ (w4 cy aH SH ++ (w4 cy aJ (r_1.2.2.2.2.2) ++ (w7 cy aP SP_5))))))), rfl, rfl, rfl, rfl, by decide, rfl, rfl⟩) 0 0 rfl rfl rfl rfl hl.1 rfl (Nat.le_of_ble_eq_true rfl) dX11_inn_53 ⟨Nat.zero_le _, Nat.zero_le _⟩ (fun H locs hW => ?_)
    refine lv_iconst (v := 0) hC.1 hC.2.1 dX11_inn_56 (by decide) ?_
    refine lv_istore_n (lv' := [(3, .int 0), (2, .ref (aH 0)), (1, .int x1_3), (0, .ref (aX 0))]) hC.1 hC.2.1 dX11_inn_57 rfl hl (by decide) rfl (fun ls hl => ?_)
    exact t11_inn_58 hC _ _ _ _ _ _ _ _ _ _ _ _ _ _ _ _ hf hW (lv_sub hl [3, 2, 0] rfl)
set_option maxRecDepth 100000 in
set_option maxHeartbeats 4000000 in
theorem c11_inn (l : Launch) (D : va_G) (cy : Nat → ClassId) (ad : Nat → Nat) (aX : Nat → Nat) (aT : Nat → Nat) (aR : Nat → Nat) (aH : Nat → Nat) (aJ : Nat → Nat) (aP : Nat → Nat) (aU : Nat → Nat) (aB : Nat → Nat) (aQ : Nat → Nat) (aK : Nat → Nat) (aL : Nat → Nat) (aE0 : Nat → Nat) (aE1 : Nat → Nat) (aE2 : Nat → Nat) (aE3 : Nat → Nat) (aG : Nat → Nat) (aC : Nat → Nat) (aI : Nat → Nat) (gi : Value) {SX : Ob} {SR : Ob} {SG : Ob} {ST : Ob} {SC : Ob} {SH : Ob} {SJ : Ob} {SB : Ob} {SP : Ob} {res : Int32 × Ob × Ob × Ob × Ob × Ob × Ob × Ob × Ob} (h : f11_inn SX SR SG ST SC SH SJ SB SP = some res) : GCi l yX11_inn wsX11_inn rm11_inn [.ref (aX 0)] D cy ad (w11 cy aX aT aR aH aJ aP aU aB aQ aK aL aE0 aE1 aE2 aE3 SX ++ (w9 cy aR aG aT SR ++ (w3 cy aG aT aC gi SG ++ (w10 cy aT ST ++ (w2 cy aC SC ++ (w4 cy aH SH ++ (w4 cy aJ SJ ++ (w0 cy aB SB ++ (w7 cy aP SP))))))))) (w11 cy aX aT aR (sw res.1 aJ aH) (sw res.1 aH aJ) aP aU aB aQ aK aL aE0 aE1 aE2 aE3 (res.2.1) ++ (w9 cy aR aG aT (res.2.2.1) ++ (w3 cy aG aT aC (.ref (aJ 0)) (res.2.2.2.1) ++ (w10 cy aT (res.2.2.2.2.1) ++ (w2 cy aC (res.2.2.2.2.2.1) ++ (w4 cy aH SH ++ (w4 cy aJ (res.2.2.2.2.2.2.1) ++ (w0 cy aB (res.2.2.2.2.2.2.2.1) ++ (w7 cy aP (res.2.2.2.2.2.2.2.2)))))))))) (res.1) := fun sz => GC.start (own := RX11) (Qc := fun A => QI D cy (w11 cy aX aT aR (sw res.1 aJ aH) (sw res.1 aH aJ) aP aU aB aQ aK aL aE0 aE1 aE2 aE3 (res.2.1) ++ (w9 cy aR aG aT (res.2.2.1) ++ (w3 cy aG aT aC (.ref (aJ 0)) (res.2.2.2.1) ++ (w10 cy aT (res.2.2.2.2.1) ++ (w2 cy aC (res.2.2.2.2.2.1) ++ (w4 cy aH SH ++ (w4 cy aJ (res.2.2.2.2.2.2.1) ++ (w0 cy aB (res.2.2.2.2.2.2.2.1) ++ (w7 cy aP (res.2.2.2.2.2.2.2.2)))))))))) A (res.1)) sz (by decide) rfl rfl (Nat.le_of_ble_eq_true rfl) (fun p e s m below meth c A ls hC hW hl => t11_inn_0 hC _ _ _ _ _ _ _ _ _ _ _ _ _ h hW (lv_sub hl [0] rfl))
abbrev rm11_morning : Room := { frames := 47, cells := 0, slots := 0, locals := 1136 }
theorem hdV11_morning : yX11_morning.cls = RX11 ∧ (yX11_morning.cls ≠ "java/lang/invoke/MethodHandle" ∧ yX11_morning.cls ≠ "java/lang/invoke/VarHandle" ∧ (parseMethodDescriptor yX11_morning.desc).map (fun d => d.parameters.length) = some 0) := by decide +kernel
theorem hin11_morning_11 : ∀ x ∈ u_ws RX11 TX11 12, x ∈ wsX11_morning := fun _ h => List.mem_cons_of_mem _ (List.mem_append_left _ (List.mem_append_left _ (List.mem_append_left _ (List.mem_append_left _ (List.mem_append_left _ (List.mem_append_left _ (List.mem_append_right _ h)))))))
set_option maxRecDepth 100000 in
set_option maxHeartbeats 4000000 in
theorem t11_morning_0 (hC : Cx p s m args meth c cX11_morning 3 wsX11_morning RX11 (some .int)) : ∀ (SX : Ob) (SR : Ob) (SG : Ob) (ST : Ob) (SC : Ob) (SH : Ob) (SU : Ob) (res : Int32 × Ob × Ob × Ob × Ob × Ob) (H : Heap) (locs : List Loc) (ls : Array Slot), f11_morning SX SR SG ST SC SH SU = some res → GW D cy ad (w11 cy aX aT aR aH aJ aP aU aB aQ aK aL aE0 aE1 aE2 aE3 SX ++ (w9 cy aR aG aT SR ++ (w3 cy aG aT aC gi SG ++ (w10 cy aT ST ++ (w2 cy aC SC ++ (w4 cy aH SH ++ (w7 cy aU SU))))))) A s H locs → lv_has ls 3 [(0, .ref (aX 0))] → W p l e rm11_morning s m args below meth c H locs 0 0 (MQ below (QI D cy (w11 cy aX aT aR aH aJ (sw res.1 aU aP) (sw res.1 aP aU) aB aQ aK aL aE0 aE1 aE2 aE3 (res.2.1) ++ (w9 cy aR aG aT SR ++ (w3 cy aG aT aC (.ref (aH 0)) (res.2.2.1) ++ (w10 cy aT (res.2.2.2.1) ++ (w2 cy aC (res.2.2.2.2.1) ++ (w4 cy aH SH ++ (w7 cy aU (res.2.2.2.2.2)))))))) A (res.1)) args s 0 0 A) (F0 m 0 ls []) := by
  intro SX SR SG ST SC SH SU res H locs ls hf hW hl
  unfold f11_morning at hf
  refine lv_aload_n hC.1 hC.2.1 dX11_morning_0 rfl (lv_at hl 0 rfl) ?_
  refine g_get hC hW hin11_morning_11 0 rfl rfl 1 (by decide) 1 rfl rfl dX11_morning_1 ?_
  refine lv_aload_n hC.1 hC.2.1 dX11_morning_4 rfl (lv_at hl 0 rfl) ?_
  refine g_get hC hW hin11_morning_11 0 rfl rfl 2 (by decide) 2 rfl rfl dX11_morning_5 ?_
  refine lv_aload_n hC.1 hC.2.1 dX11_morning_8 rfl (lv_at hl 0 rfl) ?_
  refine g_get hC hW hin11_morning_11 0 rfl rfl 5 (by decide) 3 rfl rfl dX11_morning_9 ?_
  obtain ⟨r_1, hg_2, hf⟩ := bd_of hf
  refine g_calliV (w' := w11 cy aX aT aR aH aJ aP aU aB aQ aK aL aE0 aE1 aE2 aE3 SX ++ (w9 cy aR aG aT SR ++ (w3 cy aG aT aC (.ref (aH 0)) (r_1.2.1) ++ (w10 cy aT (r_1.2.2.1) ++ (w2 cy aC (r_1.2.2.2.1) ++ (w4 cy aH SH ++ (w7 cy aU (r_1.2.2.2.2)))))))) hC hW (c9_readMorning l D cy ad aR aG aT aC aH aU gi hg_2) (cwV 2 hC.2.2.2.2.1 gX11_morning_X9_readMorning rfl rfl rfl hdV9_readMorning ⟨Nat.le_of_ble_eq_true rfl, Nat.le_of_ble_eq_true rfl⟩) (⟨[3, 4, 5, 6, 7, 8, 9, 10, 11, 12, 13, 14, 15, 16, 17, 18, 19, 20, 21, 22, 23, 24, 25, 26, 27, 28], [0, 1, 2], [0, 1, 2, 3, 4, 5, 6, 7, 8, 9, 10, 11, 12, 13, 14, 15, 16, 17, 18, 19, 20, 21, 22, 23, 24, 25, 26, 27, 28], w11 cy aX aT aR aH aJ aP aU aB aQ aK aL aE0 aE1 aE2 aE3 SX, rfl, rfl, rfl, rfl, by decide, rfl, rfl⟩) 0 8 rfl rfl rfl rfl hl.1 rfl (Nat.le_of_ble_eq_true rfl) dX11_morning_12 ⟨Nat.zero_le _, Nat.zero_le _⟩ (fun H locs hW => ?_)
  refine lv_topi (fun x1_3 ex1_3 => ?_)
  have hf := lt_nm hf ex1_3
  refine lv_istore_n (lv' := [(1, .int x1_3), (0, .ref (aX 0))]) hC.1 hC.2.1 dX11_morning_15 rfl hl (by decide) rfl (fun ls hl => ?_)
  refine lv_iload_n hC.1 hC.2.1 dX11_morning_16 rfl (lv_at hl 0 rfl) ?_
  refine lv_if_ne (tgt := 38) hC.1 hC.2.1 dX11_morning_17 (by decide) (fun hc_4 => ?_) (fun hc_4 => ?_)
  · have hf := ite_f hf hc_4
    refine lv_iload_n hC.1 hC.2.1 dX11_morning_38 rfl (lv_at hl 0 rfl) ?_
    obtain ⟨hz, hf⟩ := ck_of hf
    obtain rfl := Option.some.inj hf
    dsimp only
    rw [sw_nz hz, sw_nz hz]
    exact g_iret hC hW dX11_morning_39
  · have hf := ite_t hf hc_4
    refine lv_aload_n hC.1 hC.2.1 dX11_morning_20 rfl (lv_at hl 1 rfl) ?_
    refine g_get hC hW hin11_morning_11 0 rfl rfl 4 (by decide) 4 rfl rfl dX11_morning_21 ?_
    refine lv_astore_n (lv' := [(2, .ref (aP 0)), (1, .int x1_3), (0, .ref (aX 0))]) hC.1 hC.2.1 dX11_morning_24 rfl hl (by decide) rfl (fun ls hl => ?_)
    refine lv_aload_n hC.1 hC.2.1 dX11_morning_25 rfl (lv_at hl 2 rfl) ?_
    refine lv_aload_n hC.1 hC.2.1 dX11_morning_26 rfl (lv_at hl 2 rfl) ?_
    refine g_get hC hW hin11_morning_11 0 rfl rfl 5 (by decide) 3 rfl rfl dX11_morning_27 ?_
    refine g_put hC hW hin11_morning_11 tyX11 tyX11_ok nmX11 0 rfl rfl 4 (by decide) 4 rfl rfl rfl rfl (Nat.le_of_ble_eq_true rfl) (w' := w11 cy aX aT aR aH aJ aU aU aB aQ aK aL aE0 aE1 aE2 aE3 SX ++ (w9 cy aR aG aT SR ++ (w3 cy aG aT aC (.ref (aH 0)) (r_1.2.1) ++ (w10 cy aT (r_1.2.2.1) ++ (w2 cy aC (r_1.2.2.2.1) ++ (w4 cy aH SH ++ (w7 cy aU (r_1.2.2.2.2)))))))) rfl dX11_morning_30 (fun H locs hW => ?_)
    refine lv_aload_n hC.1 hC.2.1 dX11_morning_33 rfl (lv_at hl 2 rfl) ?_
    refine lv_aload_n hC.1 hC.2.1 dX11_morning_34 rfl (lv_at hl 0 rfl) ?_
    refine g_put hC hW hin11_morning_11 tyX11 tyX11_ok nmX11 0 rfl rfl 5 (by decide) 3 rfl rfl rfl rfl (Nat.le_of_ble_eq_true rfl) (w' := w11 cy aX aT aR aH aJ aU aP aB aQ aK aL aE0 aE1 aE2 aE3 SX ++ (w9 cy aR aG aT SR ++ (w3 cy aG aT aC (.ref (aH 0)) (r_1.2.1) ++ (w10 cy aT (r_1.2.2.1) ++ (w2 cy aC (r_1.2.2.2.1) ++ (w4 cy aH SH ++ (w7 cy aU (r_1.2.2.2.2)))))))) rfl dX11_morning_35 (fun H locs hW => ?_)
    refine lv_iload_n hC.1 hC.2.1 dX11_morning_38 rfl (lv_at hl 1 rfl) ?_
    obtain ⟨hz, hf⟩ := ck_of hf
    obtain rfl := Option.some.inj hf
    dsimp only
    rw [sw_zz hz, sw_zz hz]
    exact g_iret hC hW dX11_morning_39
set_option maxRecDepth 100000 in
set_option maxHeartbeats 4000000 in
theorem c11_morning (l : Launch) (D : va_G) (cy : Nat → ClassId) (ad : Nat → Nat) (aX : Nat → Nat) (aT : Nat → Nat) (aR : Nat → Nat) (aH : Nat → Nat) (aJ : Nat → Nat) (aP : Nat → Nat) (aU : Nat → Nat) (aB : Nat → Nat) (aQ : Nat → Nat) (aK : Nat → Nat) (aL : Nat → Nat) (aE0 : Nat → Nat) (aE1 : Nat → Nat) (aE2 : Nat → Nat) (aE3 : Nat → Nat) (aG : Nat → Nat) (aC : Nat → Nat) (aI : Nat → Nat) (gi : Value) {SX : Ob} {SR : Ob} {SG : Ob} {ST : Ob} {SC : Ob} {SH : Ob} {SU : Ob} {res : Int32 × Ob × Ob × Ob × Ob × Ob} (h : f11_morning SX SR SG ST SC SH SU = some res) : GCi l yX11_morning wsX11_morning rm11_morning [.ref (aX 0)] D cy ad (w11 cy aX aT aR aH aJ aP aU aB aQ aK aL aE0 aE1 aE2 aE3 SX ++ (w9 cy aR aG aT SR ++ (w3 cy aG aT aC gi SG ++ (w10 cy aT ST ++ (w2 cy aC SC ++ (w4 cy aH SH ++ (w7 cy aU SU))))))) (w11 cy aX aT aR aH aJ (sw res.1 aU aP) (sw res.1 aP aU) aB aQ aK aL aE0 aE1 aE2 aE3 (res.2.1) ++ (w9 cy aR aG aT SR ++ (w3 cy aG aT aC (.ref (aH 0)) (res.2.2.1) ++ (w10 cy aT (res.2.2.2.1) ++ (w2 cy aC (res.2.2.2.2.1) ++ (w4 cy aH SH ++ (w7 cy aU (res.2.2.2.2.2)))))))) (res.1) := fun sz => GC.start (own := RX11) (Qc := fun A => QI D cy (w11 cy aX aT aR aH aJ (sw res.1 aU aP) (sw res.1 aP aU) aB aQ aK aL aE0 aE1 aE2 aE3 (res.2.1) ++ (w9 cy aR aG aT SR ++ (w3 cy aG aT aC (.ref (aH 0)) (res.2.2.1) ++ (w10 cy aT (res.2.2.2.1) ++ (w2 cy aC (res.2.2.2.2.1) ++ (w4 cy aH SH ++ (w7 cy aU (res.2.2.2.2.2)))))))) A (res.1)) sz (by decide) rfl rfl (Nat.le_of_ble_eq_true rfl) (fun p e s m below meth c A ls hC hW hl => t11_morning_0 hC _ _ _ _ _ _ _ _ _ _ _ h hW (lv_sub hl [0] rfl))
end
