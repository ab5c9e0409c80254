/-! laid by program: functions, walks and contracts of j1_canEncode_9a6ad, j1_indexOfChar_4cfef, j1_indexOf_4cfef, j0_isLatin1_aae02, j0_coder_7d493, j0_length_8abf5, j0_indexOf_7cf53, j0_indexOf_0f7a4 -/
theorem dJ1_canEncode_9a6ad_0 : decode cJ1_canEncode_9a6ad 0 = .ok (.iload_n 0, 1) := by decide +kernel
theorem dJ1_canEncode_9a6ad_1 : decode cJ1_canEncode_9a6ad 1 = .ok (.ifCond .lt 14, 3) := by decide +kernel
theorem dJ1_canEncode_9a6ad_4 : decode cJ1_canEncode_9a6ad 4 = .ok (.iload_n 0, 1) := by decide +kernel
theorem dJ1_canEncode_9a6ad_5 : decode cJ1_canEncode_9a6ad 5 = .ok (.sipush 255, 3) := by decide +kernel
theorem dJ1_canEncode_9a6ad_8 : decode cJ1_canEncode_9a6ad 8 = .ok (.if_icmp .gt 7, 3) := by decide +kernel
theorem dJ1_canEncode_9a6ad_11 : decode cJ1_canEncode_9a6ad 11 = .ok (.iconst 1, 1) := by decide +kernel
theorem dJ1_canEncode_9a6ad_12 : decode cJ1_canEncode_9a6ad 12 = .ok (.goto 4, 3) := by decide +kernel
theorem dJ1_canEncode_9a6ad_15 : decode cJ1_canEncode_9a6ad 15 = .ok (.iconst 0, 1) := by decide +kernel
theorem dJ1_canEncode_9a6ad_16 : decode cJ1_canEncode_9a6ad 16 = .ok (.ireturn, 1) := by decide +kernel
theorem dJ1_indexOfChar_4cfef_0 : decode cJ1_indexOfChar_4cfef 0 = .ok (.iload_n 1, 1) := by decide +kernel
theorem dJ1_indexOfChar_4cfef_1 : decode cJ1_indexOfChar_4cfef 1 = .ok (.i2b, 1) := by decide +kernel
theorem dJ1_indexOfChar_4cfef_2 : decode cJ1_indexOfChar_4cfef 2 = .ok (.istore 4, 2) := by decide +kernel
theorem dJ1_indexOfChar_4cfef_4 : decode cJ1_indexOfChar_4cfef 4 = .ok (.iload_n 2, 1) := by decide +kernel
theorem dJ1_indexOfChar_4cfef_5 : decode cJ1_indexOfChar_4cfef 5 = .ok (.istore 5, 2) := by decide +kernel
theorem dJ1_indexOfChar_4cfef_7 : decode cJ1_indexOfChar_4cfef 7 = .ok (.iload 5, 2) := by decide +kernel
theorem dJ1_indexOfChar_4cfef_9 : decode cJ1_indexOfChar_4cfef 9 = .ok (.iload_n 3, 1) := by decide +kernel
theorem dJ1_indexOfChar_4cfef_10 : decode cJ1_indexOfChar_4cfef 10 = .ok (.if_icmp .ge 21, 3) := by decide +kernel
theorem dJ1_indexOfChar_4cfef_13 : decode cJ1_indexOfChar_4cfef 13 = .ok (.aload_n 0, 1) := by decide +kernel
theorem dJ1_indexOfChar_4cfef_14 : decode cJ1_indexOfChar_4cfef 14 = .ok (.iload 5, 2) := by decide +kernel
theorem dJ1_indexOfChar_4cfef_16 : decode cJ1_indexOfChar_4cfef 16 = .ok (.baload, 1) := by decide +kernel
theorem dJ1_indexOfChar_4cfef_17 : decode cJ1_indexOfChar_4cfef 17 = .ok (.iload 4, 2) := by decide +kernel
theorem dJ1_indexOfChar_4cfef_19 : decode cJ1_indexOfChar_4cfef 19 = .ok (.if_icmp .ne 6, 3) := by decide +kernel
theorem dJ1_indexOfChar_4cfef_22 : decode cJ1_indexOfChar_4cfef 22 = .ok (.iload 5, 2) := by decide +kernel
theorem dJ1_indexOfChar_4cfef_24 : decode cJ1_indexOfChar_4cfef 24 = .ok (.ireturn, 1) := by decide +kernel
theorem dJ1_indexOfChar_4cfef_25 : decode cJ1_indexOfChar_4cfef 25 = .ok (.iinc 5 1, 3) := by decide +kernel
theorem dJ1_indexOfChar_4cfef_28 : decode cJ1_indexOfChar_4cfef 28 = .ok (.goto (-21), 3) := by decide +kernel
theorem dJ1_indexOfChar_4cfef_31 : decode cJ1_indexOfChar_4cfef 31 = .ok (.iconst (-1), 1) := by decide +kernel
theorem dJ1_indexOfChar_4cfef_32 : decode cJ1_indexOfChar_4cfef 32 = .ok (.ireturn, 1) := by decide +kernel
set_option maxRecDepth 20000 in
theorem gJ1_indexOf_4cfef_J1_canEncode_9a6ad : GoodIn wsJ1_indexOf_4cfef (va_wsS RJ1 88 yJ1_canEncode_9a6ad wsJ1_canEncode_9a6ad) := goodIn_r _ [8, 9, 10, 11] rfl (by decide +kernel)
set_option maxRecDepth 20000 in
theorem gJ1_indexOf_4cfef_J1_indexOfChar_4cfef : GoodIn wsJ1_indexOf_4cfef (va_wsS RJ1 95 yJ1_indexOfChar_4cfef wsJ1_indexOfChar_4cfef) := goodIn_r _ [12, 13, 10, 14] rfl (by decide +kernel)
theorem dJ1_indexOf_4cfef_0 : decode cJ1_indexOf_4cfef 0 = .ok (.iload_n 1, 1) := by decide +kernel
theorem dJ1_indexOf_4cfef_1 : decode cJ1_indexOf_4cfef 1 = .ok (.invokestatic 88, 3) := by decide +kernel
theorem dJ1_indexOf_4cfef_4 : decode cJ1_indexOf_4cfef 4 = .ok (.ifCond .ne 5, 3) := by decide +kernel
theorem dJ1_indexOf_4cfef_7 : decode cJ1_indexOf_4cfef 7 = .ok (.iconst (-1), 1) := by decide +kernel
theorem dJ1_indexOf_4cfef_8 : decode cJ1_indexOf_4cfef 8 = .ok (.ireturn, 1) := by decide +kernel
theorem dJ1_indexOf_4cfef_9 : decode cJ1_indexOf_4cfef 9 = .ok (.iload_n 2, 1) := by decide +kernel
theorem dJ1_indexOf_4cfef_10 : decode cJ1_indexOf_4cfef 10 = .ok (.iconst 0, 1) := by decide +kernel
theorem dJ1_indexOf_4cfef_11 : decode cJ1_indexOf_4cfef 11 = .ok (.invokestatic 92, 3) := by decide +kernel
theorem dJ1_indexOf_4cfef_14 : decode cJ1_indexOf_4cfef 14 = .ok (.istore_n 2, 1) := by decide +kernel
theorem dJ1_indexOf_4cfef_15 : decode cJ1_indexOf_4cfef 15 = .ok (.iload_n 3, 1) := by decide +kernel
theorem dJ1_indexOf_4cfef_16 : decode cJ1_indexOf_4cfef 16 = .ok (.aload_n 0, 1) := by decide +kernel
theorem dJ1_indexOf_4cfef_17 : decode cJ1_indexOf_4cfef 17 = .ok (.arraylength, 1) := by decide +kernel
theorem dJ1_indexOf_4cfef_18 : decode cJ1_indexOf_4cfef 18 = .ok (.invokestatic 38, 3) := by decide +kernel
theorem dJ1_indexOf_4cfef_21 : decode cJ1_indexOf_4cfef 21 = .ok (.istore_n 3, 1) := by decide +kernel
theorem dJ1_indexOf_4cfef_22 : decode cJ1_indexOf_4cfef 22 = .ok (.iload_n 2, 1) := by decide +kernel
theorem dJ1_indexOf_4cfef_23 : decode cJ1_indexOf_4cfef 23 = .ok (.iload_n 3, 1) := by decide +kernel
theorem dJ1_indexOf_4cfef_24 : decode cJ1_indexOf_4cfef 24 = .ok (.if_icmp .lt 5, 3) := by decide +kernel
theorem dJ1_indexOf_4cfef_27 : decode cJ1_indexOf_4cfef 27 = .ok (.iconst (-1), 1) := by decide +kernel
theorem dJ1_indexOf_4cfef_28 : decode cJ1_indexOf_4cfef 28 = .ok (.ireturn, 1) := by decide +kernel
theorem dJ1_indexOf_4cfef_29 : decode cJ1_indexOf_4cfef 29 = .ok (.aload_n 0, 1) := by decide +kernel
theorem dJ1_indexOf_4cfef_30 : decode cJ1_indexOf_4cfef 30 = .ok (.iload_n 1, 1) := by decide +kernel
theorem dJ1_indexOf_4cfef_31 : decode cJ1_indexOf_4cfef 31 = .ok (.iload_n 2, 1) := by decide +kernel
theorem dJ1_indexOf_4cfef_32 : decode cJ1_indexOf_4cfef 32 = .ok (.iload_n 3, 1) := by decide +kernel
theorem dJ1_indexOf_4cfef_33 : decode cJ1_indexOf_4cfef 33 = .ok (.invokestatic 95, 3) := by decide +kernel
theorem dJ1_indexOf_4cfef_36 : decode cJ1_indexOf_4cfef 36 = .ok (.ireturn, 1) := by decide +kernel
theorem dJ0_isLatin1_aae02_0 : decode cJ0_isLatin1_aae02 0 = .ok (.getstatic 38, 3) := by decide +kernel
theorem dJ0_isLatin1_aae02_3 : decode cJ0_isLatin1_aae02 3 = .ok (.ifCond .eq 14, 3) := by decide +kernel
theorem dJ0_isLatin1_aae02_6 : decode cJ0_isLatin1_aae02 6 = .ok (.aload_n 0, 1) := by decide +kernel
theorem dJ0_isLatin1_aae02_7 : decode cJ0_isLatin1_aae02 7 = .ok (.getfield 15, 3) := by decide +kernel
theorem dJ0_isLatin1_aae02_10 : decode cJ0_isLatin1_aae02 10 = .ok (.ifCond .ne 7, 3) := by decide +kernel
theorem dJ0_isLatin1_aae02_13 : decode cJ0_isLatin1_aae02 13 = .ok (.iconst 1, 1) := by decide +kernel
theorem dJ0_isLatin1_aae02_14 : decode cJ0_isLatin1_aae02 14 = .ok (.goto 4, 3) := by decide +kernel
theorem dJ0_isLatin1_aae02_17 : decode cJ0_isLatin1_aae02 17 = .ok (.iconst 0, 1) := by decide +kernel
theorem dJ0_isLatin1_aae02_18 : decode cJ0_isLatin1_aae02 18 = .ok (.ireturn, 1) := by decide +kernel
theorem dJ0_coder_7d493_0 : decode cJ0_coder_7d493 0 = .ok (.getstatic 38, 3) := by decide +kernel
theorem dJ0_coder_7d493_3 : decode cJ0_coder_7d493 3 = .ok (.ifCond .eq 10, 3) := by decide +kernel
theorem dJ0_coder_7d493_6 : decode cJ0_coder_7d493 6 = .ok (.aload_n 0, 1) := by decide +kernel
theorem dJ0_coder_7d493_7 : decode cJ0_coder_7d493 7 = .ok (.getfield 15, 3) := by decide +kernel
theorem dJ0_coder_7d493_10 : decode cJ0_coder_7d493 10 = .ok (.goto 4, 3) := by decide +kernel
theorem dJ0_coder_7d493_13 : decode cJ0_coder_7d493 13 = .ok (.iconst 1, 1) := by decide +kernel
theorem dJ0_coder_7d493_14 : decode cJ0_coder_7d493 14 = .ok (.ireturn, 1) := by decide +kernel
set_option maxRecDepth 20000 in
theorem gJ0_length_8abf5_J0_coder_7d493 : GoodIn wsJ0_length_8abf5 (wsV RJ0 335 RJ0 yJ0_coder_7d493 wsJ0_coder_7d493) := goodIn_r _ [2, 3, 4, 5, 6, 7, 8] rfl (by decide +kernel)
theorem dJ0_length_8abf5_0 : decode cJ0_length_8abf5 0 = .ok (.aload_n 0, 1) := by decide +kernel
theorem dJ0_length_8abf5_1 : decode cJ0_length_8abf5 1 = .ok (.getfield 9, 3) := by decide +kernel
theorem dJ0_length_8abf5_4 : decode cJ0_length_8abf5 4 = .ok (.arraylength, 1) := by decide +kernel
theorem dJ0_length_8abf5_5 : decode cJ0_length_8abf5 5 = .ok (.aload_n 0, 1) := by decide +kernel
theorem dJ0_length_8abf5_6 : decode cJ0_length_8abf5 6 = .ok (.invokevirtual 335, 3) := by decide +kernel
theorem dJ0_length_8abf5_9 : decode cJ0_length_8abf5 9 = .ok (.ishr, 1) := by decide +kernel
theorem dJ0_length_8abf5_10 : decode cJ0_length_8abf5 10 = .ok (.ireturn, 1) := by decide +kernel
set_option maxRecDepth 20000 in
theorem gJ0_indexOf_7cf53_J0_isLatin1_aae02 : GoodIn wsJ0_indexOf_7cf53 (wsV RJ0 492 RJ0 yJ0_isLatin1_aae02 wsJ0_isLatin1_aae02) := goodIn_r _ [2, 3, 4, 5, 6, 7, 8] rfl (by decide +kernel)
set_option maxRecDepth 20000 in
theorem gJ0_indexOf_7cf53_J0_length_8abf5 : GoodIn wsJ0_indexOf_7cf53 (wsV RJ0 505 RJ0 yJ0_length_8abf5 wsJ0_length_8abf5) := goodIn_r _ [9, 10, 11, 5, 12, 1, 13, 14, 15, 5, 16, 7, 8] rfl (by decide +kernel)
set_option maxRecDepth 20000 in
theorem gJ0_indexOf_7cf53_J1_indexOf_4cfef : GoodIn wsJ0_indexOf_7cf53 (va_wsS RJ0 637 yJ1_indexOf_4cfef wsJ1_indexOf_4cfef) := goodIn_r _ [17, 18, 19, 20, 21, 22, 23, 24, 25, 26, 27, 28, 29, 19, 30, 31, 32, 33] rfl (by decide +kernel)
set_option maxRecDepth 20000 in
theorem gJ0_indexOf_7cf53_J2_indexOf_4cfef : GoodIn wsJ0_indexOf_7cf53 (va_wsS RJ0 640 yJ2_indexOf_4cfef wsJ2_indexOf_4cfef) := goodIn_r _ [34, 35, 36, 37, 38, 22, 23, 24, 39, 26, 27, 40, 41, 42, 36, 43, 44, 45, 46, 47, 48, 49, 50, 51, 5, 52, 53, 54, 55, 56, 57, 58, 59, 60, 61, 62, 63, 64, 65, 66, 67, 68, 69, 70, 71, 72, 73, 74, 75, 76, 77, 78, 79, 80, 81] rfl (by decide +kernel)
theorem dJ0_indexOf_7cf53_0 : decode cJ0_indexOf_7cf53 0 = .ok (.aload_n 0, 1) := by decide +kernel
theorem dJ0_indexOf_7cf53_1 : decode cJ0_indexOf_7cf53 1 = .ok (.invokevirtual 492, 3) := by decide +kernel
theorem dJ0_indexOf_7cf53_4 : decode cJ0_indexOf_7cf53 4 = .ok (.ifCond .eq 19, 3) := by decide +kernel
theorem dJ0_indexOf_7cf53_7 : decode cJ0_indexOf_7cf53 7 = .ok (.aload_n 0, 1) := by decide +kernel
theorem dJ0_indexOf_7cf53_8 : decode cJ0_indexOf_7cf53 8 = .ok (.getfield 9, 3) := by decide +kernel
theorem dJ0_indexOf_7cf53_11 : decode cJ0_indexOf_7cf53 11 = .ok (.iload_n 1, 1) := by decide +kernel
theorem dJ0_indexOf_7cf53_12 : decode cJ0_indexOf_7cf53 12 = .ok (.iload_n 2, 1) := by decide +kernel
theorem dJ0_indexOf_7cf53_13 : decode cJ0_indexOf_7cf53 13 = .ok (.aload_n 0, 1) := by decide +kernel
theorem dJ0_indexOf_7cf53_14 : decode cJ0_indexOf_7cf53 14 = .ok (.invokevirtual 505, 3) := by decide +kernel
theorem dJ0_indexOf_7cf53_17 : decode cJ0_indexOf_7cf53 17 = .ok (.invokestatic 637, 3) := by decide +kernel
theorem dJ0_indexOf_7cf53_20 : decode cJ0_indexOf_7cf53 20 = .ok (.goto 16, 3) := by decide +kernel
theorem dJ0_indexOf_7cf53_23 : decode cJ0_indexOf_7cf53 23 = .ok (.aload_n 0, 1) := by decide +kernel
theorem dJ0_indexOf_7cf53_24 : decode cJ0_indexOf_7cf53 24 = .ok (.getfield 9, 3) := by decide +kernel
theorem dJ0_indexOf_7cf53_27 : decode cJ0_indexOf_7cf53 27 = .ok (.iload_n 1, 1) := by decide +kernel
theorem dJ0_indexOf_7cf53_28 : decode cJ0_indexOf_7cf53 28 = .ok (.iload_n 2, 1) := by decide +kernel
theorem dJ0_indexOf_7cf53_29 : decode cJ0_indexOf_7cf53 29 = .ok (.aload_n 0, 1) := by decide +kernel
theorem dJ0_indexOf_7cf53_30 : decode cJ0_indexOf_7cf53 30 = .ok (.invokevirtual 505, 3) := by decide +kernel
theorem dJ0_indexOf_7cf53_33 : decode cJ0_indexOf_7cf53 33 = .ok (.invokestatic 640, 3) := by decide +kernel
theorem dJ0_indexOf_7cf53_36 : decode cJ0_indexOf_7cf53 36 = .ok (.ireturn, 1) := by decide +kernel
set_option maxRecDepth 20000 in
theorem gJ0_indexOf_0f7a4_J0_indexOf_7cf53 : GoodIn wsJ0_indexOf_0f7a4 (wsV RJ0 633 RJ0 yJ0_indexOf_7cf53 wsJ0_indexOf_7cf53) := goodIn_r _ [1, 2, 3, 4, 5, 6, 7, 8, 9, 4, 10, 11, 12, 13, 14, 15, 16, 17, 18, 19, 20, 21, 22, 23, 24, 25, 26, 27, 28, 29, 30, 31, 32, 33, 34, 35, 36, 37, 38, 39, 40, 41, 42, 43, 44, 45, 46, 47, 48, 49, 50, 51, 52, 53, 54, 55, 56, 57, 58, 59, 60, 61, 62, 63, 64, 65, 66, 67, 68, 69, 70, 71, 72, 73, 74, 75, 76, 77, 78, 79, 80, 81, 82, 83, 84, 85] rfl (by decide +kernel)
theorem dJ0_indexOf_0f7a4_0 : decode cJ0_indexOf_0f7a4 0 = .ok (.aload_n 0, 1) := by decide +kernel
theorem dJ0_indexOf_0f7a4_1 : decode cJ0_indexOf_0f7a4 1 = .ok (.iload_n 1, 1) := by decide +kernel
theorem dJ0_indexOf_0f7a4_2 : decode cJ0_indexOf_0f7a4 2 = .ok (.iconst 0, 1) := by decide +kernel
theorem dJ0_indexOf_0f7a4_3 : decode cJ0_indexOf_0f7a4 3 = .ok (.invokevirtual 633, 3) := by decide +kernel
theorem dJ0_indexOf_0f7a4_6 : decode cJ0_indexOf_0f7a4 6 = .ok (.ireturn, 1) := by decide +kernel
section
variable {p : Program} {l : Launch} {e : Env} {s : State} {m : MethodId} {args : Array Value} {below : List Frame} {meth : Method} {c : Code} {D : va_G} {cy : Nat → ClassId} {ad : Nat → Nat} {A : Nat → Prop} {aM aB aO aI aN aT aC aG aR aQ aK aL aX aH aJ aP aU aE0 aE1 aE2 aE3 : Nat → Nat} {gi : Value}
abbrev rmj1_canEncode_9a6ad : Room := { frames := 0, cells := 0, slots := 0, locals := 0 }
theorem hdSj1_canEncode_9a6ad : (yJ1_canEncode_9a6ad.cls ≠ "java/lang/invoke/MethodHandle" ∧ yJ1_canEncode_9a6ad.cls ≠ "java/lang/invoke/VarHandle" ∧ (parseMethodDescriptor yJ1_canEncode_9a6ad.desc).map (fun d => d.parameters.length) = some 1) := by decide +kernel
set_option maxRecDepth 100000 in
set_option maxHeartbeats 4000000 in
theorem tj1_canEncode_9a6ad_16 (hC : Cx p s m args meth c cJ1_canEncode_9a6ad 1 wsJ1_canEncode_9a6ad RJ1 (some .boolean)) : ∀ (z0 : Int32) (res : Int32) (H : Heap) (locs : List Loc) (ls : Array Slot), fj1_canEncode_9a6ad_16 z0 = some res → GW D cy ad (([] : va_W)) A s H locs → lv_has ls 1 [] → W p l e rmj1_canEncode_9a6ad s m args below meth c H locs 0 0 (MQ below (QI D cy (([] : va_W)) A res) args s 0 0 A) (F0 m 16 ls [.int z0]) := by
  intro z0 res H locs ls hf hW hl
  unfold fj1_canEncode_9a6ad_16 at hf
  obtain ⟨hz, hf⟩ := ck_of hf
  obtain rfl := Option.some.inj hf
  exact g_zret hC hW hz dJ1_canEncode_9a6ad_16
set_option maxRecDepth 100000 in
set_option maxHeartbeats 4000000 in
theorem tj1_canEncode_9a6ad_15 (hC : Cx p s m args meth c cJ1_canEncode_9a6ad 1 wsJ1_canEncode_9a6ad RJ1 (some .boolean)) : ∀ (res : Int32) (H : Heap) (locs : List Loc) (ls : Array Slot), fj1_canEncode_9a6ad_15 = some res → GW D cy ad (([] : va_W)) A s H locs → lv_has ls 1 [] → W p l e rmj1_canEncode_9a6ad s m args below meth c H locs 0 0 (MQ below (QI D cy (([] : va_W)) A res) args s 0 0 A) (F0 m 15 ls []) := by
  intro res H locs ls hf hW hl
  unfold fj1_canEncode_9a6ad_15 at hf
  refine lv_iconst (v := 0) hC.1 hC.2.1 dJ1_canEncode_9a6ad_15 (by decide) ?_
  exact tj1_canEncode_9a6ad_16 hC  _ _ _ _ _ hf hW (lv_sub hl [] rfl)
set_option maxRecDepth 100000 in
set_option maxHeartbeats 4000000 in
theorem tj1_canEncode_9a6ad_0 (hC : Cx p s m args meth c cJ1_canEncode_9a6ad 1 wsJ1_canEncode_9a6ad RJ1 (some .boolean)) : ∀ (x0 : Int32) (res : Int32) (H : Heap) (locs : List Loc) (ls : Array Slot), fj1_canEncode_9a6ad x0 = some res → GW D cy ad (([] : va_W)) A s H locs → lv_has ls 1 [(0, .int x0)] → W p l e rmj1_canEncode_9a6ad s m args below meth c H locs 0 0 (MQ below (QI D cy (([] : va_W)) A res) args s 0 0 A) (F0 m 0 ls []) := by
  intro x0 res H locs ls hf hW hl
  unfold fj1_canEncode_9a6ad at hf
  refine lv_iload_n hC.1 hC.2.1 dJ1_canEncode_9a6ad_0 rfl (lv_at hl 0 rfl) ?_
  refine lv_if_lt (tgt := 15) hC.1 hC.2.1 dJ1_canEncode_9a6ad_1 (by decide) (fun hc_1 => ?_) (fun hc_1 => ?_)
  · have hf := ite_t hf hc_1
    exact tj1_canEncode_9a6ad_15 hC  _ _ _ _ hf hW (lv_sub hl [] rfl)
  · have hf := ite_f hf hc_1
    refine lv_iload_n hC.1 hC.2.1 dJ1_canEncode_9a6ad_4 rfl (lv_at hl 0 rfl) ?_
    refine lv_sipush (v := 255) hC.1 hC.2.1 dJ1_canEncode_9a6ad_5 (by decide) ?_
    refine lv_icmp_gt (tgt := 15) hC.1 hC.2.1 dJ1_canEncode_9a6ad_8 (by decide) (fun hc_2 => ?_) (fun hc_2 => ?_)
    · have hf := ite_t hf hc_2
      exact tj1_canEncode_9a6ad_15 hC  _ _ _ _ hf hW (lv_sub hl [] rfl)
    · have hf := ite_f hf hc_2
      refine lv_iconst (v := 1) hC.1 hC.2.1 dJ1_canEncode_9a6ad_11 (by decide) ?_
      refine lv_goto (tgt := 16) hC.1 hC.2.1 dJ1_canEncode_9a6ad_12 (by decide) ?_
      exact tj1_canEncode_9a6ad_16 hC  _ _ _ _ _ hf hW (lv_sub hl [] rfl)
set_option maxRecDepth 100000 in
set_option maxHeartbeats 4000000 in
theorem cj1_canEncode_9a6ad (l : Launch) (D : va_G) (cy : Nat → ClassId) (ad : Nat → Nat) {x0 : Int32} {res : Int32} (h : fj1_canEncode_9a6ad x0 = some res) : GCi l yJ1_canEncode_9a6ad wsJ1_canEncode_9a6ad rmj1_canEncode_9a6ad [.int x0] D cy ad (([] : va_W)) (([] : va_W)) res := fun sz => GC.start (own := RJ1) (Qc := fun A => QI D cy (([] : va_W)) A res) sz (by decide) rfl rfl (Nat.le_of_ble_eq_true rfl) (fun p e s m below meth c A ls hC hW hl => tj1_canEncode_9a6ad_0 hC _ _ _ _ _ h hW (lv_sub hl [0] rfl))
abbrev rmj1_indexOfChar_4cfef : Room := { frames := 0, cells := 0, slots := 0, locals := 0 }
theorem hdSj1_indexOfChar_4cfef : (yJ1_indexOfChar_4cfef.cls ≠ "java/lang/invoke/MethodHandle" ∧ yJ1_indexOfChar_4cfef.cls ≠ "java/lang/invoke/VarHandle" ∧ (parseMethodDescriptor yJ1_indexOfChar_4cfef.desc).map (fun d => d.parameters.length) = some 4) := by decide +kernel
set_option maxRecDepth 100000 in
set_option maxHeartbeats 4000000 in
theorem tj1_indexOfChar_4cfef_7 (hC : Cx p s m args meth c cJ1_indexOfChar_4cfef 6 wsJ1_indexOfChar_4cfef RJ1 (some .int)) : ∀ n : Nat, ∀ (x3 : Int32) (x4 : Int32) (x5 : Int32) (res : Int32) (H : Heap) (locs : List Loc) (ls : Array Slot), fj1_indexOfChar_4cfef_7 n x3 x4 x5 = some res → GW D cy ad (([] : va_W)) A s H locs → lv_has ls 6 [(0, .ref (ad (2 * 1 + 1))), (3, .int x3), (4, .int x4), (5, .int x5)] → W p l e rmj1_indexOfChar_4cfef s m args below meth c H locs 0 0 (MQ below (QI D cy (([] : va_W)) A res) args s 0 0 A) (F0 m 7 ls []) := by
  intro n
  induction n with
  | zero =>
    intro _ _ _ _ _ _ _ hf _ _
    exact nomatch (show (none : Option (Int32)) = some _ from hf)
  | succ n ih =>
    intro x3 x4 x5 res H locs ls hf hW hl
    rw [fj1_indexOfChar_4cfef_7] at hf
    refine lv_iload hC.1 hC.2.1 dJ1_indexOfChar_4cfef_7 (lv_at hl 3 rfl) ?_
    refine lv_iload_n hC.1 hC.2.1 dJ1_indexOfChar_4cfef_9 rfl (lv_at hl 1 rfl) ?_
    refine lv_icmp_ge (tgt := 31) hC.1 hC.2.1 dJ1_indexOfChar_4cfef_10 (by decide) (fun hc_1 => ?_) (fun hc_1 => ?_)
    · have hf := ite_t hf hc_1
      refine lv_iconst (v := (-1)) hC.1 hC.2.1 dJ1_indexOfChar_4cfef_31 (by decide) ?_
      obtain rfl := Option.some.inj hf
      exact g_iret hC hW dJ1_indexOfChar_4cfef_32
    · have hf := ite_f hf hc_1
      refine lv_aload_n hC.1 hC.2.1 dJ1_indexOfChar_4cfef_13 rfl (lv_at hl 0 rfl) ?_
      refine lv_iload hC.1 hC.2.1 dJ1_indexOfChar_4cfef_14 (lv_at hl 3 rfl) ?_
      obtain ⟨hi_2, hf⟩ := ck_of hf
      refine g_sbal hC hW 1 (by decide) (n := 8) rfl hi_2 dJ1_indexOfChar_4cfef_16 ?_
      refine lv_iload hC.1 hC.2.1 dJ1_indexOfChar_4cfef_17 (lv_at hl 2 rfl) ?_
      refine lv_icmp_ne (tgt := 25) hC.1 hC.2.1 dJ1_indexOfChar_4cfef_19 (by decide) (fun hc_3 => ?_) (fun hc_3 => ?_)
      · have hf := ite_f hf hc_3
        obtain ⟨x5_4, ex5_4⟩ : ∃ y : Int32, y = x5 + 1 := ⟨_, rfl⟩
        have hf := lt_nm hf ex5_4
        refine lv_iinc (v := x5_4) (lv' := [(5, .int x5_4), (0, .ref (ad (2 * 1 + 1))), (3, .int x3), (4, .int x4)]) hC.1 hC.2.1 dJ1_indexOfChar_4cfef_25 hl (k := 3) rfl (by rw [ex5_4]; rfl) (by decide) rfl (fun ls hl => ?_)
        refine lv_goto (tgt := 7) hC.1 hC.2.1 dJ1_indexOfChar_4cfef_28 (by decide) ?_
        exact ih _ _ _ _ _ _ _ hf hW (lv_sub hl [1, 2, 3, 0] rfl)
      · have hf := ite_t hf hc_3
        refine lv_iload hC.1 hC.2.1 dJ1_indexOfChar_4cfef_22 (lv_at hl 3 rfl) ?_
        obtain rfl := Option.some.inj hf
        exact g_iret hC hW dJ1_indexOfChar_4cfef_24
set_option maxRecDepth 100000 in
set_option maxHeartbeats 4000000 in
theorem tj1_indexOfChar_4cfef_0 (hC : Cx p s m args meth c cJ1_indexOfChar_4cfef 6 wsJ1_indexOfChar_4cfef RJ1 (some .int)) : ∀ (x1 : Int32) (x2 : Int32) (x3 : Int32) (res : Int32) (H : Heap) (locs : List Loc) (ls : Array Slot), fj1_indexOfChar_4cfef x1 x2 x3 = some res → GW D cy ad (([] : va_W)) A s H locs → lv_has ls 6 [(0, .ref (ad (2 * 1 + 1))), (1, .int x1), (2, .int x2), (3, .int x3)] → W p l e rmj1_indexOfChar_4cfef s m args below meth c H locs 0 0 (MQ below (QI D cy (([] : va_W)) A res) args s 0 0 A) (F0 m 0 ls []) := by
  intro x1 x2 x3 res H locs ls hf hW hl
  unfold fj1_indexOfChar_4cfef at hf
  refine lv_iload_n hC.1 hC.2.1 dJ1_indexOfChar_4cfef_0 rfl (lv_at hl 1 rfl) ?_
  refine lv_i2b (v := (Int32.toInt8 x1).toInt32) hC.1 hC.2.1 dJ1_indexOfChar_4cfef_1 rfl ?_
  refine lv_topi (fun x4_1 ex4_1 => ?_)
  have hf := lt_nm hf ex4_1
  refine lv_istore (lv' := [(4, .int x4_1), (0, .ref (ad (2 * 1 + 1))), (1, .int x1), (2, .int x2), (3, .int x3)]) hC.1 hC.2.1 dJ1_indexOfChar_4cfef_2 hl (by decide) rfl (fun ls hl => ?_)
  refine lv_iload_n hC.1 hC.2.1 dJ1_indexOfChar_4cfef_4 rfl (lv_at hl 3 rfl) ?_
  refine lv_istore (lv' := [(5, .int x2), (4, .int x4_1), (0, .ref (ad (2 * 1 + 1))), (1, .int x1), (2, .int x2), (3, .int x3)]) hC.1 hC.2.1 dJ1_indexOfChar_4cfef_5 hl (by decide) rfl (fun ls hl => ?_)
  exact tj1_indexOfChar_4cfef_7 hC _ _ _ _ _ _ _ _ hf hW (lv_sub hl [2, 5, 1, 0] rfl)
set_option maxRecDepth 100000 in
set_option maxHeartbeats 4000000 in
theorem cj1_indexOfChar_4cfef (l : Launch) (D : va_G) (cy : Nat → ClassId) (ad : Nat → Nat) {x1 : Int32} {x2 : Int32} {x3 : Int32} {res : Int32} (h : fj1_indexOfChar_4cfef x1 x2 x3 = some res) : GCi l yJ1_indexOfChar_4cfef wsJ1_indexOfChar_4cfef rmj1_indexOfChar_4cfef [.ref (ad (2 * 1 + 1)), .int x1, .int x2, .int x3] D cy ad (([] : va_W)) (([] : va_W)) res := fun sz => GC.start (own := RJ1) (Qc := fun A => QI D cy (([] : va_W)) A res) sz (by decide) rfl rfl (Nat.le_of_ble_eq_true rfl) (fun p e s m below meth c A ls hC hW hl => tj1_indexOfChar_4cfef_0 hC _ _ _ _ _ _ _ h hW (lv_sub hl [0, 1, 2, 3] rfl))
abbrev rmj1_indexOf_4cfef : Room := { frames := 1, cells := 0, slots := 0, locals := 30 }
theorem hdSj1_indexOf_4cfef : (yJ1_indexOf_4cfef.cls ≠ "java/lang/invoke/MethodHandle" ∧ yJ1_indexOf_4cfef.cls ≠ "java/lang/invoke/VarHandle" ∧ (parseMethodDescriptor yJ1_indexOf_4cfef.desc).map (fun d => d.parameters.length) = some 4) := by decide +kernel
set_option maxRecDepth 100000 in
set_option maxHeartbeats 4000000 in
theorem tj1_indexOf_4cfef_0 (hC : Cx p s m args meth c cJ1_indexOf_4cfef 4 wsJ1_indexOf_4cfef RJ1 (some .int)) : ∀ (x1 : Int32) (x2 : Int32) (x3 : Int32) (res : Int32) (H : Heap) (locs : List Loc) (ls : Array Slot), fj1_indexOf_4cfef x1 x2 x3 = some res → GW D cy ad (([] : va_W)) A s H locs → lv_has ls 4 [(0, .ref (ad (2 * 1 + 1))), (1, .int x1), (2, .int x2), (3, .int x3)] → W p l e rmj1_indexOf_4cfef s m args below meth c H locs 0 0 (MQ below (QI D cy (([] : va_W)) A res) args s 0 0 A) (F0 m 0 ls []) := by
  intro x1 x2 x3 res H locs ls hf hW hl
  unfold fj1_indexOf_4cfef at hf
  refine lv_iload_n hC.1 hC.2.1 dJ1_indexOf_4cfef_0 rfl (lv_at hl 1 rfl) ?_
  obtain ⟨r_1, hg_2, hf⟩ := bd_of hf
  refine g_calliS (w' := ([] : va_W)) hC hW (cj1_canEncode_9a6ad l D cy ad  hg_2) (va_cwS 1 hC.2.2.2.2.1 gJ1_indexOf_4cfef_J1_canEncode_9a6ad rfl rfl rfl hdSj1_canEncode_9a6ad ⟨Nat.le_of_ble_eq_true rfl, Nat.le_of_ble_eq_true rfl⟩) (Sub.all _ _) rfl hl.1 rfl (Nat.le_of_ble_eq_true rfl) dJ1_indexOf_4cfef_1 ⟨Nat.zero_le _, Nat.zero_le _⟩ (fun H locs hW => ?_)
  refine lv_if_ne (tgt := 9) hC.1 hC.2.1 dJ1_indexOf_4cfef_4 (by decide) (fun hc_3 => ?_) (fun hc_3 => ?_)
  · have hf := ite_f hf hc_3
    refine lv_iload_n hC.1 hC.2.1 dJ1_indexOf_4cfef_9 rfl (lv_at hl 2 rfl) ?_
    refine lv_iconst (v := 0) hC.1 hC.2.1 dJ1_indexOf_4cfef_10 (by decide) ?_
    refine va_mmax hC.1 hC.2.1 (by rw [hC.2.2.1]; exact hl.1.symm) hC.2.2.2.1 (hC.2.2.2.2.1 _ (List.mem_of_getElem? (i := 1) rfl)) (hC.2.2.2.2.1 _ (List.mem_of_getElem? (i := 2) rfl)) (hC.2.2.2.2.1 _ (List.mem_of_getElem? (i := 3) rfl)) (hC.2.2.2.2.1 _ (List.mem_of_getElem? (i := 4) rfl)) (Nat.le_of_ble_eq_true rfl) (Nat.le_of_ble_eq_true rfl) (Nat.zero_le _) (Nat.zero_le _) dJ1_indexOf_4cfef_11 ?_
    refine lv_topi (fun x2_4 ex2_4 => ?_)
    have hf := lt_nm hf ex2_4
    refine lv_istore_n (lv' := [(2, .int x2_4), (0, .ref (ad (2 * 1 + 1))), (1, .int x1), (3, .int x3)]) hC.1 hC.2.1 dJ1_indexOf_4cfef_14 rfl hl (by decide) rfl (fun ls hl => ?_)
    refine lv_iload_n hC.1 hC.2.1 dJ1_indexOf_4cfef_15 rfl (lv_at hl 3 rfl) ?_
    refine lv_aload_n hC.1 hC.2.1 dJ1_indexOf_4cfef_16 rfl (lv_at hl 1 rfl) ?_
    refine g_slen hC hW 1 (by decide) (v := 8) (by decide) dJ1_indexOf_4cfef_17 ?_
    refine va_mmin hC.1 hC.2.1 (by rw [hC.2.2.1]; exact hl.1.symm) hC.2.2.2.1 (hC.2.2.2.2.1 _ (List.mem_of_getElem? (i := 5) rfl)) (hC.2.2.2.2.1 _ (List.mem_of_getElem? (i := 6) rfl)) (hC.2.2.2.2.1 _ (List.mem_of_getElem? (i := 3) rfl)) (hC.2.2.2.2.1 _ (List.mem_of_getElem? (i := 7) rfl)) (Nat.le_of_ble_eq_true rfl) (Nat.le_of_ble_eq_true rfl) (Nat.zero_le _) (Nat.zero_le _) dJ1_indexOf_4cfef_18 ?_
    refine lv_topi (fun x3_5 ex3_5 => ?_)
    have hf := lt_nm hf ex3_5
    refine lv_istore_n (lv' := [(3, .int x3_5), (2, .int x2_4), (0, .ref (ad (2 * 1 + 1))), (1, .int x1)]) hC.1 hC.2.1 dJ1_indexOf_4cfef_21 rfl hl (by decide) rfl (fun ls hl => ?_)
    refine lv_iload_n hC.1 hC.2.1 dJ1_indexOf_4cfef_22 rfl (lv_at hl 1 rfl) ?_
    refine lv_iload_n hC.1 hC.2.1 dJ1_indexOf_4cfef_23 rfl (lv_at hl 0 rfl) ?_
    refine lv_icmp_lt (tgt := 29) hC.1 hC.2.1 dJ1_indexOf_4cfef_24 (by decide) (fun hc_6 => ?_) (fun hc_6 => ?_)
    · have hf := ite_t hf hc_6
      refine lv_aload_n hC.1 hC.2.1 dJ1_indexOf_4cfef_29 rfl (lv_at hl 2 rfl) ?_
      refine lv_iload_n hC.1 hC.2.1 dJ1_indexOf_4cfef_30 rfl (lv_at hl 3 rfl) ?_
      refine lv_iload_n hC.1 hC.2.1 dJ1_indexOf_4cfef_31 rfl (lv_at hl 1 rfl) ?_
      refine lv_iload_n hC.1 hC.2.1 dJ1_indexOf_4cfef_32 rfl (lv_at hl 0 rfl) ?_
      obtain ⟨r_7, hg_8, hf⟩ := bd_of hf
      refine g_calliS (w' := ([] : va_W)) hC hW (cj1_indexOfChar_4cfef l D cy ad  hg_8) (va_cwS 4 hC.2.2.2.2.1 gJ1_indexOf_4cfef_J1_indexOfChar_4cfef rfl rfl rfl hdSj1_indexOfChar_4cfef ⟨Nat.le_of_ble_eq_true rfl, Nat.le_of_ble_eq_true rfl⟩) (Sub.all _ _) rfl hl.1 rfl (Nat.le_of_ble_eq_true rfl) dJ1_indexOf_4cfef_33 ⟨Nat.zero_le _, Nat.zero_le _⟩ (fun H locs hW => ?_)
      obtain rfl := Option.some.inj hf
      exact g_iret hC hW dJ1_indexOf_4cfef_36
    · have hf := ite_f hf hc_6
      refine lv_iconst (v := (-1)) hC.1 hC.2.1 dJ1_indexOf_4cfef_27 (by decide) ?_
      obtain rfl := Option.some.inj hf
      exact g_iret hC hW dJ1_indexOf_4cfef_28
  · have hf := ite_t hf hc_3
    refine lv_iconst (v := (-1)) hC.1 hC.2.1 dJ1_indexOf_4cfef_7 (by decide) ?_
    obtain rfl := Option.some.inj hf
    exact g_iret hC hW dJ1_indexOf_4cfef_8
set_option maxRecDepth 100000 in
set_option maxHeartbeats 4000000 in
theorem cj1_indexOf_4cfef (l : Launch) (D : va_G) (cy : Nat → ClassId) (ad : Nat → Nat) {x1 : Int32} {x2 : Int32} {x3 : Int32} {res : Int32} (h : fj1_indexOf_4cfef x1 x2 x3 = some res) : GCi l yJ1_indexOf_4cfef wsJ1_indexOf_4cfef rmj1_indexOf_4cfef [.ref (ad (2 * 1 + 1)), .int x1, .int x2, .int x3] D cy ad (([] : va_W)) (([] : va_W)) res := fun sz => GC.start (own := RJ1) (Qc := fun A => QI D cy (([] : va_W)) A res) sz (by decide) rfl rfl (Nat.le_of_ble_eq_true rfl) (fun p e s m below meth c A ls hC hW hl => tj1_indexOf_4cfef_0 hC _ _ _ _ _ _ _ h hW (lv_sub hl [0, 1, 2, 3] rfl))
abbrev rmj0_isLatin1_aae02 : Room := { frames := 0, cells := 0, slots := 0, locals := 0 }
theorem hdVj0_isLatin1_aae02 : yJ0_isLatin1_aae02.cls = RJ0 ∧ (yJ0_isLatin1_aae02.cls ≠ "java/lang/invoke/MethodHandle" ∧ yJ0_isLatin1_aae02.cls ≠ "java/lang/invoke/VarHandle" ∧ (parseMethodDescriptor yJ0_isLatin1_aae02.desc).map (fun d => d.parameters.length) = some 0) := by decide +kernel
set_option maxRecDepth 100000 in
set_option maxHeartbeats 4000000 in
theorem tj0_isLatin1_aae02_18 (hC : Cx p s m args meth c cJ0_isLatin1_aae02 1 wsJ0_isLatin1_aae02 RJ0 (some .boolean)) : ∀ (z0 : Int32) (res : Int32) (H : Heap) (locs : List Loc) (ls : Array Slot), fj0_isLatin1_aae02_18 z0 = some res → GW D cy ad (([] : va_W)) A s H locs → lv_has ls 1 [] → W p l e rmj0_isLatin1_aae02 s m args below meth c H locs 0 0 (MQ below (QI D cy (([] : va_W)) A res) args s 0 0 A) (F0 m 18 ls [.int z0]) := by
  intro z0 res H locs ls hf hW hl
  unfold fj0_isLatin1_aae02_18 at hf
  obtain ⟨hz, hf⟩ := ck_of hf
  obtain rfl := Option.some.inj hf
  exact g_zret hC hW hz dJ0_isLatin1_aae02_18
set_option maxRecDepth 100000 in
set_option maxHeartbeats 4000000 in
theorem tj0_isLatin1_aae02_17 (hC : Cx p s m args meth c cJ0_isLatin1_aae02 1 wsJ0_isLatin1_aae02 RJ0 (some .boolean)) : ∀ (res : Int32) (H : Heap) (locs : List Loc) (ls : Array Slot), fj0_isLatin1_aae02_17 = some res → GW D cy ad (([] : va_W)) A s H locs → lv_has ls 1 [] → W p l e rmj0_isLatin1_aae02 s m args below meth c H locs 0 0 (MQ below (QI D cy (([] : va_W)) A res) args s 0 0 A) (F0 m 17 ls []) := by
  intro res H locs ls hf hW hl
  unfold fj0_isLatin1_aae02_17 at hf
  refine lv_iconst (v := 0) hC.1 hC.2.1 dJ0_isLatin1_aae02_17 (by decide) ?_
  exact tj0_isLatin1_aae02_18 hC  _ _ _ _ _ hf hW (lv_sub hl [] rfl)
set_option maxRecDepth 100000 in
set_option maxHeartbeats 4000000 in
theorem tj0_isLatin1_aae02_0 (hC : Cx p s m args meth c cJ0_isLatin1_aae02 1 wsJ0_isLatin1_aae02 RJ0 (some .boolean)) : ∀ (res : Int32) (H : Heap) (locs : List Loc) (ls : Array Slot), fj0_isLatin1_aae02 = some res → GW D cy ad (([] : va_W)) A s H locs → lv_has ls 1 [(0, .ref (ad (2 * 1)))] → W p l e rmj0_isLatin1_aae02 s m args below meth c H locs 0 0 (MQ below (QI D cy (([] : va_W)) A res) args s 0 0 A) (F0 m 0 ls []) := by
  intro res H locs ls hf hW hl
  unfold fj0_isLatin1_aae02 at hf
  refine g_sget hC hW 1 rfl dJ0_isLatin1_aae02_0 ?_
  refine lv_if_eq (tgt := 17) hC.1 hC.2.1 dJ0_isLatin1_aae02_3 (by decide) (fun hc_1 => ?_) (fun hc_1 => ?_)
  · have hf := ite_t hf hc_1
    exact tj0_isLatin1_aae02_17 hC  _ _ _ _ hf hW (lv_sub hl [] rfl)
  · have hf := ite_f hf hc_1
    refine lv_aload_n hC.1 hC.2.1 dJ0_isLatin1_aae02_6 rfl (lv_at hl 0 rfl) ?_
    refine g_scod hC hW 1 (by decide) 2 rfl dJ0_isLatin1_aae02_7 ?_
    refine lv_if_ne (tgt := 17) hC.1 hC.2.1 dJ0_isLatin1_aae02_10 (by decide) (fun hc_2 => ?_) (fun hc_2 => ?_)
    · have hf := ite_f hf hc_2
      exact tj0_isLatin1_aae02_17 hC  _ _ _ _ hf hW (lv_sub hl [] rfl)
    · have hf := ite_t hf hc_2
      refine lv_iconst (v := 1) hC.1 hC.2.1 dJ0_isLatin1_aae02_13 (by decide) ?_
      refine lv_goto (tgt := 18) hC.1 hC.2.1 dJ0_isLatin1_aae02_14 (by decide) ?_
      exact tj0_isLatin1_aae02_18 hC  _ _ _ _ _ hf hW (lv_sub hl [] rfl)
set_option maxRecDepth 100000 in
set_option maxHeartbeats 4000000 in
theorem cj0_isLatin1_aae02 (l : Launch) (D : va_G) (cy : Nat → ClassId) (ad : Nat → Nat) {res : Int32} (h : fj0_isLatin1_aae02 = some res) : GCi l yJ0_isLatin1_aae02 wsJ0_isLatin1_aae02 rmj0_isLatin1_aae02 [.ref (ad (2 * 1))] D cy ad (([] : va_W)) (([] : va_W)) res := fun sz => GC.start (own := RJ0) (Qc := fun A => QI D cy (([] : va_W)) A res) sz (by decide) rfl rfl (Nat.le_of_ble_eq_true rfl) (fun p e s m below meth c A ls hC hW hl => tj0_isLatin1_aae02_0 hC _ _ _ _ h hW (lv_sub hl [0] rfl))
abbrev rmj0_coder_7d493 : Room := { frames := 0, cells := 0, slots := 0, locals := 0 }
theorem hdVj0_coder_7d493 : yJ0_coder_7d493.cls = RJ0 ∧ (yJ0_coder_7d493.cls ≠ "java/lang/invoke/MethodHandle" ∧ yJ0_coder_7d493.cls ≠ "java/lang/invoke/VarHandle" ∧ (parseMethodDescriptor yJ0_coder_7d493.desc).map (fun d => d.parameters.length) = some 0) := by decide +kernel
set_option maxRecDepth 100000 in
set_option maxHeartbeats 4000000 in
theorem tj0_coder_7d493_14 (hC : Cx p s m args meth c cJ0_coder_7d493 1 wsJ0_coder_7d493 RJ0 (some .byte)) : ∀ (z0 : Int32) (res : Int32) (H : Heap) (locs : List Loc) (ls : Array Slot), fj0_coder_7d493_14 z0 = some res → GW D cy ad (([] : va_W)) A s H locs → lv_has ls 1 [] → W p l e rmj0_coder_7d493 s m args below meth c H locs 0 0 (MQ below (QI D cy (([] : va_W)) A res) args s 0 0 A) (F0 m 14 ls [.int z0]) := by
  intro z0 res H locs ls hf hW hl
  unfold fj0_coder_7d493_14 at hf
  obtain ⟨hz, hf⟩ := ck_of hf
  obtain rfl := Option.some.inj hf
  exact g_zretB hC hW (isb_of hz) dJ0_coder_7d493_14
set_option maxRecDepth 100000 in
set_option maxHeartbeats 4000000 in
theorem tj0_coder_7d493_0 (hC : Cx p s m args meth c cJ0_coder_7d493 1 wsJ0_coder_7d493 RJ0 (some .byte)) : ∀ (res : Int32) (H : Heap) (locs : List Loc) (ls : Array Slot), fj0_coder_7d493 = some res → GW D cy ad (([] : va_W)) A s H locs → lv_has ls 1 [(0, .ref (ad (2 * 1)))] → W p l e rmj0_coder_7d493 s m args below meth c H locs 0 0 (MQ below (QI D cy (([] : va_W)) A res) args s 0 0 A) (F0 m 0 ls []) := by
  intro res H locs ls hf hW hl
  unfold fj0_coder_7d493 at hf
  refine g_sget hC hW 1 rfl dJ0_coder_7d493_0 ?_
  refine lv_if_eq (tgt := 13) hC.1 hC.2.1 dJ0_coder_7d493_3 (by decide) (fun hc_1 => ?_) (fun hc_1 => ?_)
  · have hf := ite_t hf hc_1
    refine lv_iconst (v := 1) hC.1 hC.2.1 dJ0_coder_7d493_13 (by decide) ?_
    exact tj0_coder_7d493_14 hC  _ _ _ _ _ hf hW (lv_sub hl [] rfl)
  · have hf := ite_f hf hc_1
    refine lv_aload_n hC.1 hC.2.1 dJ0_coder_7d493_6 rfl (lv_at hl 0 rfl) ?_
    refine g_scod hC hW 1 (by decide) 2 rfl dJ0_coder_7d493_7 ?_
    refine lv_goto (tgt := 14) hC.1 hC.2.1 dJ0_coder_7d493_10 (by decide) ?_
    exact tj0_coder_7d493_14 hC  _ _ _ _ _ hf hW (lv_sub hl [] rfl)
set_option maxRecDepth 100000 in
set_option maxHeartbeats 4000000 in
theorem cj0_coder_7d493 (l : Launch) (D : va_G) (cy : Nat → ClassId) (ad : Nat → Nat) {res : Int32} (h : fj0_coder_7d493 = some res) : GCi l yJ0_coder_7d493 wsJ0_coder_7d493 rmj0_coder_7d493 [.ref (ad (2 * 1))] D cy ad (([] : va_W)) (([] : va_W)) res := fun sz => GC.start (own := RJ0) (Qc := fun A => QI D cy (([] : va_W)) A res) sz (by decide) rfl rfl (Nat.le_of_ble_eq_true rfl) (fun p e s m below meth c A ls hC hW hl => tj0_coder_7d493_0 hC _ _ _ _ h hW (lv_sub hl [0] rfl))
abbrev rmj0_length_8abf5 : Room := { frames := 1, cells := 0, slots := 0, locals := 20 }
theorem hdVj0_length_8abf5 : yJ0_length_8abf5.cls = RJ0 ∧ (yJ0_length_8abf5.cls ≠ "java/lang/invoke/MethodHandle" ∧ yJ0_length_8abf5.cls ≠ "java/lang/invoke/VarHandle" ∧ (parseMethodDescriptor yJ0_length_8abf5.desc).map (fun d => d.parameters.length) = some 0) := by decide +kernel
set_option maxRecDepth 100000 in
set_option maxHeartbeats 4000000 in
theorem tj0_length_8abf5_0 (hC : Cx p s m args meth c cJ0_length_8abf5 1 wsJ0_length_8abf5 RJ0 (some .int)) : ∀ (res : Int32) (H : Heap) (locs : List Loc) (ls : Array Slot), fj0_length_8abf5 = some res → GW D cy ad (([] : va_W)) A s H locs → lv_has ls 1 [(0, .ref (ad (2 * 1)))] → W p l e rmj0_length_8abf5 s m args below meth c H locs 0 0 (MQ below (QI D cy (([] : va_W)) A res) args s 0 0 A) (F0 m 0 ls []) := by
  intro res H locs ls hf hW hl
  unfold fj0_length_8abf5 at hf
  refine lv_aload_n hC.1 hC.2.1 dJ0_length_8abf5_0 rfl (lv_at hl 0 rfl) ?_
  refine g_sval hC hW 1 (by decide) 1 rfl dJ0_length_8abf5_1 ?_
  refine g_slen hC hW 1 (by decide) (v := 8) (by decide) dJ0_length_8abf5_4 ?_
  refine lv_aload_n hC.1 hC.2.1 dJ0_length_8abf5_5 rfl (lv_at hl 0 rfl) ?_
  obtain ⟨r_1, hg_2, hf⟩ := bd_of hf
  refine g_calliVs hC hW 1 (by decide) (cj0_coder_7d493 l D cy ad  hg_2) (cwV 0 hC.2.2.2.2.1 gJ0_length_8abf5_J0_coder_7d493 rfl rfl rfl hdVj0_coder_7d493 ⟨Nat.le_of_ble_eq_true rfl, Nat.le_of_ble_eq_true rfl⟩) rfl hl.1 rfl (Nat.le_of_ble_eq_true rfl) dJ0_length_8abf5_6 ⟨Nat.zero_le _, Nat.zero_le _⟩ (fun H locs hW => ?_)
  refine lv_ishr hC.1 hC.2.1 dJ0_length_8abf5_9 ?_
  obtain rfl := Option.some.inj hf
  exact g_iret hC hW dJ0_length_8abf5_10
set_option maxRecDepth 100000 in
set_option maxHeartbeats 4000000 in
theorem cj0_length_8abf5 (l : Launch) (D : va_G) (cy : Nat → ClassId) (ad : Nat → Nat) {res : Int32} (h : fj0_length_8abf5 = some res) : GCi l yJ0_length_8abf5 wsJ0_length_8abf5 rmj0_length_8abf5 [.ref (ad (2 * 1))] D cy ad (([] : va_W)) (([] : va_W)) res := fun sz => GC.start (own := RJ0) (Qc := fun A => QI D cy (([] : va_W)) A res) sz (by decide) rfl rfl (Nat.le_of_ble_eq_true rfl) (fun p e s m below meth c A ls hC hW hl => tj0_length_8abf5_0 hC _ _ _ _ h hW (lv_sub hl [0] rfl))
abbrev rmj0_indexOf_7cf53 : Room := { frames := 2, cells := 0, slots := 0, locals := 53 }
theorem hdVj0_indexOf_7cf53 : yJ0_indexOf_7cf53.cls = RJ0 ∧ (yJ0_indexOf_7cf53.cls ≠ "java/lang/invoke/MethodHandle" ∧ yJ0_indexOf_7cf53.cls ≠ "java/lang/invoke/VarHandle" ∧ (parseMethodDescriptor yJ0_indexOf_7cf53.desc).map (fun d => d.parameters.length) = some 2) := by decide +kernel
set_option maxRecDepth 100000 in
set_option maxHeartbeats 4000000 in
theorem tj0_indexOf_7cf53_36 (hC : Cx p s m args meth c cJ0_indexOf_7cf53 3 wsJ0_indexOf_7cf53 RJ0 (some .int)) : ∀ (z0 : Int32) (res : Int32) (H : Heap) (locs : List Loc) (ls : Array Slot), fj0_indexOf_7cf53_36 z0 = some res → GW D cy ad (([] : va_W)) A s H locs → lv_has ls 3 [] → W p l e rmj0_indexOf_7cf53 s m args below meth c H locs 0 0 (MQ below (QI D cy (([] : va_W)) A res) args s 0 0 A) (F0 m 36 ls [.int z0]) := by
  intro z0 res H locs ls hf hW hl
  unfold fj0_indexOf_7cf53_36 at hf
  obtain rfl := Option.some.inj hf
  exact g_iret hC hW dJ0_indexOf_7cf53_36
set_option maxRecDepth 100000 in
set_option maxHeartbeats 4000000 in
theorem tj0_indexOf_7cf53_0 (hC : Cx p s m args meth c cJ0_indexOf_7cf53 3 wsJ0_indexOf_7cf53 RJ0 (some .int)) : ∀ (x1 : Int32) (x2 : Int32) (res : Int32) (H : Heap) (locs : List Loc) (ls : Array Slot), fj0_indexOf_7cf53 x1 x2 = some res → GW D cy ad (([] : va_W)) A s H locs → lv_has ls 3 [(0, .ref (ad (2 * 1))), (1, .int x1), (2, .int x2)] → W p l e rmj0_indexOf_7cf53 s m args below meth c H locs 0 0 (MQ below (QI D cy (([] : va_W)) A res) args s 0 0 A) (F0 m 0 ls []) := by
  intro x1 x2 res H locs ls hf hW hl
  unfold fj0_indexOf_7cf53 at hf
  refine lv_aload_n hC.1 hC.2.1 dJ0_indexOf_7cf53_0 rfl (lv_at hl 0 rfl) ?_
  obtain ⟨r_1, hg_2, hf⟩ := bd_of hf
  refine g_calliVs hC hW 1 (by decide) (cj0_isLatin1_aae02 l D cy ad  hg_2) (cwV 0 hC.2.2.2.2.1 gJ0_indexOf_7cf53_J0_isLatin1_aae02 rfl rfl rfl hdVj0_isLatin1_aae02 ⟨Nat.le_of_ble_eq_true rfl, Nat.le_of_ble_eq_true rfl⟩) rfl hl.1 rfl (Nat.le_of_ble_eq_true rfl) dJ0_indexOf_7cf53_1 ⟨Nat.zero_le _, Nat.zero_le _⟩ (fun H locs hW => ?_)
  refine lv_if_eq (tgt := 23) hC.1 hC.2.1 dJ0_indexOf_7cf53_4 (by decide) (fun hc_3 => ?_) (fun hc_3 => ?_)
  · have hf := ite_t hf hc_3
    refine lv_aload_n hC.1 hC.2.1 dJ0_indexOf_7cf53_23 rfl (lv_at hl 0 rfl) ?_
    refine g_sval hC hW 1 (by decide) 1 rfl dJ0_indexOf_7cf53_24 ?_
    refine lv_iload_n hC.1 hC.2.1 dJ0_indexOf_7cf53_27 rfl (lv_at hl 1 rfl) ?_
    refine lv_iload_n hC.1 hC.2.1 dJ0_indexOf_7cf53_28 rfl (lv_at hl 2 rfl) ?_
    refine lv_aload_n hC.1 hC.2.1 dJ0_indexOf_7cf53_29 rfl (lv_at hl 0 rfl) ?_
    obtain ⟨r_4, hg_5, hf⟩ := bd_of hf
    refine g_calliVs hC hW 1 (by decide) (cj0_length_8abf5 l D cy ad  hg_5) (cwV 0 hC.2.2.2.2.1 gJ0_indexOf_7cf53_J0_length_8abf5 rfl rfl rfl hdVj0_length_8abf5 ⟨Nat.le_of_ble_eq_true rfl, Nat.le_of_ble_eq_true rfl⟩) rfl hl.1 rfl (Nat.le_of_ble_eq_true rfl) dJ0_indexOf_7cf53_30 ⟨Nat.zero_le _, Nat.zero_le _⟩ (fun H locs hW => ?_)
    exact nomatch hf
  · have hf := ite_f hf hc_3
    refine lv_aload_n hC.1 hC.2.1 dJ0_indexOf_7cf53_7 rfl (lv_at hl 0 rfl) ?_
    refine g_sval hC hW 1 (by decide) 1 rfl dJ0_indexOf_7cf53_8 ?_
    refine lv_iload_n hC.1 hC.2.1 dJ0_indexOf_7cf53_11 rfl (lv_at hl 1 rfl) ?_
    refine lv_iload_n hC.1 hC.2.1 dJ0_indexOf_7cf53_12 rfl (lv_at hl 2 rfl) ?_
    refine lv_aload_n hC.1 hC.2.1 dJ0_indexOf_7cf53_13 rfl (lv_at hl 0 rfl) ?_
    obtain ⟨r_6, hg_7, hf⟩ := bd_of hf
    refine g_calliVs hC hW 1 (by decide) (cj0_length_8abf5 l D cy ad  hg_7) (cwV 0 hC.2.2.2.2.1 gJ0_indexOf_7cf53_J0_length_8abf5 rfl rfl rfl hdVj0_length_8abf5 ⟨Nat.le_of_ble_eq_true rfl, Nat.le_of_ble_eq_true rfl⟩) rfl hl.1 rfl (Nat.le_of_ble_eq_true rfl) dJ0_indexOf_7cf53_14 ⟨Nat.zero_le _, Nat.zero_le _⟩ (fun H locs hW => ?_)
    obtain ⟨r_8, hg_9, hf⟩ := bd_of hf
    refine g_calliS (w' := ([] : va_W)) hC hW (cj1_indexOf_4cfef l D cy ad  hg_9) (va_cwS 4 hC.2.2.2.2.1 gJ0_indexOf_7cf53_J1_indexOf_4cfef rfl rfl rfl hdSj1_indexOf_4cfef ⟨Nat.le_of_ble_eq_true rfl, Nat.le_of_ble_eq_true rfl⟩) (Sub.all _ _) rfl hl.1 rfl (Nat.le_of_ble_eq_true rfl) dJ0_indexOf_7cf53_17 ⟨Nat.zero_le _, Nat.zero_le _⟩ (fun H locs hW => ?_)
    refine lv_goto (tgt := 36) hC.1 hC.2.1 dJ0_indexOf_7cf53_20 (by decide) ?_
    exact tj0_indexOf_7cf53_36 hC  _ _ _ _ _ hf hW (lv_sub hl [] rfl)
set_option maxRecDepth 100000 in
set_option maxHeartbeats 4000000 in
theorem cj0_indexOf_7cf53 (l : Launch) (D : va_G) (cy : Nat → ClassId) (ad : Nat → Nat) {x1 : Int32} {x2 : Int32} {res : Int32} (h : fj0_indexOf_7cf53 x1 x2 = some res) : GCi l yJ0_indexOf_7cf53 wsJ0_indexOf_7cf53 rmj0_indexOf_7cf53 [.ref (ad (2 * 1)), .int x1, .int x2] D cy ad (([] : va_W)) (([] : va_W)) res := fun sz => GC.start (own := RJ0) (Qc := fun A => QI D cy (([] : va_W)) A res) sz (by decide) rfl rfl (Nat.le_of_ble_eq_true rfl) (fun p e s m below meth c A ls hC hW hl => tj0_indexOf_7cf53_0 hC _ _ _ _ _ _ h hW (lv_sub hl [0, 1, 2] rfl))
abbrev rmj0_indexOf_0f7a4 : Room := { frames := 3, cells := 0, slots := 0, locals := 75 }
theorem hdVj0_indexOf_0f7a4 : yJ0_indexOf_0f7a4.cls = RJ0 ∧ (yJ0_indexOf_0f7a4.cls ≠ "java/lang/invoke/MethodHandle" ∧ yJ0_indexOf_0f7a4.cls ≠ "java/lang/invoke/VarHandle" ∧ (parseMethodDescriptor yJ0_indexOf_0f7a4.desc).map (fun d => d.parameters.length) = some 1) := by decide +kernel
set_option maxRecDepth 100000 in
set_option maxHeartbeats 4000000 in
theorem tj0_indexOf_0f7a4_0 (hC : Cx p s m args meth c cJ0_indexOf_0f7a4 2 wsJ0_indexOf_0f7a4 RJ0 (some .int)) : ∀ (x1 : Int32) (res : Int32) (H : Heap) (locs : List Loc) (ls : Array Slot), fj0_indexOf_0f7a4 x1 = some res → GW D cy ad (([] : va_W)) A s H locs → lv_has ls 2 [(0, .ref (ad (2 * 1))), (1, .int x1)] → W p l e rmj0_indexOf_0f7a4 s m args below meth c H locs 0 0 (MQ below (QI D cy (([] : va_W)) A res) args s 0 0 A) (F0 m 0 ls []) := by
  intro x1 res H locs ls hf hW hl
  unfold fj0_indexOf_0f7a4 at hf
  refine lv_aload_n hC.1 hC.2.1 dJ0_indexOf_0f7a4_0 rfl (lv_at hl 0 rfl) ?_
  refine lv_iload_n hC.1 hC.2.1 dJ0_indexOf_0f7a4_1 rfl (lv_at hl 1 rfl) ?_
  refine lv_iconst (v := 0) hC.1 hC.2.1 dJ0_indexOf_0f7a4_2 (by decide) ?_
  obtain ⟨r_1, hg_2, hf⟩ := bd_of hf
  refine g_calliVs hC hW 1 (by decide) (cj0_indexOf_7cf53 l D cy ad  hg_2) (cwV 2 hC.2.2.2.2.1 gJ0_indexOf_0f7a4_J0_indexOf_7cf53 rfl rfl rfl hdVj0_indexOf_7cf53 ⟨Nat.le_of_ble_eq_true rfl, Nat.le_of_ble_eq_true rfl⟩) rfl hl.1 rfl (Nat.le_of_ble_eq_true rfl) dJ0_indexOf_0f7a4_3 ⟨Nat.zero_le _, Nat.zero_le _⟩ (fun H locs hW => ?_)
  obtain rfl := Option.some.inj hf
  exact g_iret hC hW dJ0_indexOf_0f7a4_6
set_option maxRecDepth 100000 in
set_option maxHeartbeats 4000000 in
theorem cj0_indexOf_0f7a4 (l : Launch) (D : va_G) (cy : Nat → ClassId) (ad : Nat → Nat) {x1 : Int32} {res : Int32} (h : fj0_indexOf_0f7a4 x1 = some res) : GCi l yJ0_indexOf_0f7a4 wsJ0_indexOf_0f7a4 rmj0_indexOf_0f7a4 [.ref (ad (2 * 1)), .int x1] D cy ad (([] : va_W)) (([] : va_W)) res := fun sz => GC.start (own := RJ0) (Qc := fun A => QI D cy (([] : va_W)) A res) sz (by decide) rfl rfl (Nat.le_of_ble_eq_true rfl) (fun p e s m below meth c A ls hC hW hl => tj0_indexOf_0f7a4_0 hC _ _ _ _ _ h hW (lv_sub hl [0, 1] rfl))
end
