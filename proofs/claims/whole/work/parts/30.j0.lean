/-! laid by program: functions, walks and contracts of j6_bitCount, j6_numberOfTrailingZeros -/
theorem dJ6_bitCount_0f7a4_0 : decode cJ6_bitCount_0f7a4 0 = .ok (.iload_n 0, 1) := by decide +kernel
theorem dJ6_bitCount_0f7a4_1 : decode cJ6_bitCount_0f7a4 1 = .ok (.iload_n 0, 1) := by decide +kernel
theorem dJ6_bitCount_0f7a4_2 : decode cJ6_bitCount_0f7a4 2 = .ok (.iconst 1, 1) := by decide +kernel
theorem dJ6_bitCount_0f7a4_3 : decode cJ6_bitCount_0f7a4 3 = .ok (.iushr, 1) := by decide +kernel
theorem dJ6_bitCount_0f7a4_4 : decode cJ6_bitCount_0f7a4 4 = .ok (.ldc_w 265, 3) := by decide +kernel
theorem dJ6_bitCount_0f7a4_7 : decode cJ6_bitCount_0f7a4 7 = .ok (.iand, 1) := by decide +kernel
theorem dJ6_bitCount_0f7a4_8 : decode cJ6_bitCount_0f7a4 8 = .ok (.isub, 1) := by decide +kernel
theorem dJ6_bitCount_0f7a4_9 : decode cJ6_bitCount_0f7a4 9 = .ok (.istore_n 0, 1) := by decide +kernel
theorem dJ6_bitCount_0f7a4_10 : decode cJ6_bitCount_0f7a4 10 = .ok (.iload_n 0, 1) := by decide +kernel
theorem dJ6_bitCount_0f7a4_11 : decode cJ6_bitCount_0f7a4 11 = .ok (.ldc_w 266, 3) := by decide +kernel
theorem dJ6_bitCount_0f7a4_14 : decode cJ6_bitCount_0f7a4 14 = .ok (.iand, 1) := by decide +kernel
theorem dJ6_bitCount_0f7a4_15 : decode cJ6_bitCount_0f7a4 15 = .ok (.iload_n 0, 1) := by decide +kernel
theorem dJ6_bitCount_0f7a4_16 : decode cJ6_bitCount_0f7a4 16 = .ok (.iconst 2, 1) := by decide +kernel
theorem dJ6_bitCount_0f7a4_17 : decode cJ6_bitCount_0f7a4 17 = .ok (.iushr, 1) := by decide +kernel
theorem dJ6_bitCount_0f7a4_18 : decode cJ6_bitCount_0f7a4 18 = .ok (.ldc_w 266, 3) := by decide +kernel
theorem dJ6_bitCount_0f7a4_21 : decode cJ6_bitCount_0f7a4 21 = .ok (.iand, 1) := by decide +kernel
theorem dJ6_bitCount_0f7a4_22 : decode cJ6_bitCount_0f7a4 22 = .ok (.iadd, 1) := by decide +kernel
theorem dJ6_bitCount_0f7a4_23 : decode cJ6_bitCount_0f7a4 23 = .ok (.istore_n 0, 1) := by decide +kernel
theorem dJ6_bitCount_0f7a4_24 : decode cJ6_bitCount_0f7a4 24 = .ok (.iload_n 0, 1) := by decide +kernel
theorem dJ6_bitCount_0f7a4_25 : decode cJ6_bitCount_0f7a4 25 = .ok (.iload_n 0, 1) := by decide +kernel
theorem dJ6_bitCount_0f7a4_26 : decode cJ6_bitCount_0f7a4 26 = .ok (.iconst 4, 1) := by decide +kernel
theorem dJ6_bitCount_0f7a4_27 : decode cJ6_bitCount_0f7a4 27 = .ok (.iushr, 1) := by decide +kernel
theorem dJ6_bitCount_0f7a4_28 : decode cJ6_bitCount_0f7a4 28 = .ok (.iadd, 1) := by decide +kernel
theorem dJ6_bitCount_0f7a4_29 : decode cJ6_bitCount_0f7a4 29 = .ok (.ldc_w 267, 3) := by decide +kernel
theorem dJ6_bitCount_0f7a4_32 : decode cJ6_bitCount_0f7a4 32 = .ok (.iand, 1) := by decide +kernel
theorem dJ6_bitCount_0f7a4_33 : decode cJ6_bitCount_0f7a4 33 = .ok (.istore_n 0, 1) := by decide +kernel
theorem dJ6_bitCount_0f7a4_34 : decode cJ6_bitCount_0f7a4 34 = .ok (.iload_n 0, 1) := by decide +kernel
theorem dJ6_bitCount_0f7a4_35 : decode cJ6_bitCount_0f7a4 35 = .ok (.iload_n 0, 1) := by decide +kernel
theorem dJ6_bitCount_0f7a4_36 : decode cJ6_bitCount_0f7a4 36 = .ok (.bipush 8, 2) := by decide +kernel
theorem dJ6_bitCount_0f7a4_38 : decode cJ6_bitCount_0f7a4 38 = .ok (.iushr, 1) := by decide +kernel
theorem dJ6_bitCount_0f7a4_39 : decode cJ6_bitCount_0f7a4 39 = .ok (.iadd, 1) := by decide +kernel
theorem dJ6_bitCount_0f7a4_40 : decode cJ6_bitCount_0f7a4 40 = .ok (.istore_n 0, 1) := by decide +kernel
theorem dJ6_bitCount_0f7a4_41 : decode cJ6_bitCount_0f7a4 41 = .ok (.iload_n 0, 1) := by decide +kernel
theorem dJ6_bitCount_0f7a4_42 : decode cJ6_bitCount_0f7a4 42 = .ok (.iload_n 0, 1) := by decide +kernel
theorem dJ6_bitCount_0f7a4_43 : decode cJ6_bitCount_0f7a4 43 = .ok (.bipush 16, 2) := by decide +kernel
theorem dJ6_bitCount_0f7a4_45 : decode cJ6_bitCount_0f7a4 45 = .ok (.iushr, 1) := by decide +kernel
theorem dJ6_bitCount_0f7a4_46 : decode cJ6_bitCount_0f7a4 46 = .ok (.iadd, 1) := by decide +kernel
theorem dJ6_bitCount_0f7a4_47 : decode cJ6_bitCount_0f7a4 47 = .ok (.istore_n 0, 1) := by decide +kernel
theorem dJ6_bitCount_0f7a4_48 : decode cJ6_bitCount_0f7a4 48 = .ok (.iload_n 0, 1) := by decide +kernel
theorem dJ6_bitCount_0f7a4_49 : decode cJ6_bitCount_0f7a4 49 = .ok (.bipush 63, 2) := by decide +kernel
theorem dJ6_bitCount_0f7a4_51 : decode cJ6_bitCount_0f7a4 51 = .ok (.iand, 1) := by decide +kernel
theorem dJ6_bitCount_0f7a4_52 : decode cJ6_bitCount_0f7a4 52 = .ok (.ireturn, 1) := by decide +kernel
theorem dJ6_numberOfTrailingZeros_0f7a4_0 : decode cJ6_numberOfTrailingZeros_0f7a4 0 = .ok (.iload_n 0, 1) := by decide +kernel
theorem dJ6_numberOfTrailingZeros_0f7a4_1 : decode cJ6_numberOfTrailingZeros_0f7a4 1 = .ok (.iconst (-1), 1) := by decide +kernel
theorem dJ6_numberOfTrailingZeros_0f7a4_2 : decode cJ6_numberOfTrailingZeros_0f7a4 2 = .ok (.ixor, 1) := by decide +kernel
theorem dJ6_numberOfTrailingZeros_0f7a4_3 : decode cJ6_numberOfTrailingZeros_0f7a4 3 = .ok (.iload_n 0, 1) := by decide +kernel
theorem dJ6_numberOfTrailingZeros_0f7a4_4 : decode cJ6_numberOfTrailingZeros_0f7a4 4 = .ok (.iconst 1, 1) := by decide +kernel
theorem dJ6_numberOfTrailingZeros_0f7a4_5 : decode cJ6_numberOfTrailingZeros_0f7a4 5 = .ok (.isub, 1) := by decide +kernel
theorem dJ6_numberOfTrailingZeros_0f7a4_6 : decode cJ6_numberOfTrailingZeros_0f7a4 6 = .ok (.iand, 1) := by decide +kernel
theorem dJ6_numberOfTrailingZeros_0f7a4_7 : decode cJ6_numberOfTrailingZeros_0f7a4 7 = .ok (.istore_n 0, 1) := by decide +kernel
theorem dJ6_numberOfTrailingZeros_0f7a4_8 : decode cJ6_numberOfTrailingZeros_0f7a4 8 = .ok (.iload_n 0, 1) := by decide +kernel
theorem dJ6_numberOfTrailingZeros_0f7a4_9 : decode cJ6_numberOfTrailingZeros_0f7a4 9 = .ok (.ifCond .gt 8, 3) := by decide +kernel
theorem dJ6_numberOfTrailingZeros_0f7a4_12 : decode cJ6_numberOfTrailingZeros_0f7a4 12 = .ok (.iload_n 0, 1) := by decide +kernel
theorem dJ6_numberOfTrailingZeros_0f7a4_13 : decode cJ6_numberOfTrailingZeros_0f7a4 13 = .ok (.bipush 32, 2) := by decide +kernel
theorem dJ6_numberOfTrailingZeros_0f7a4_15 : decode cJ6_numberOfTrailingZeros_0f7a4 15 = .ok (.iand, 1) := by decide +kernel
theorem dJ6_numberOfTrailingZeros_0f7a4_16 : decode cJ6_numberOfTrailingZeros_0f7a4 16 = .ok (.ireturn, 1) := by decide +kernel
theorem dJ6_numberOfTrailingZeros_0f7a4_17 : decode cJ6_numberOfTrailingZeros_0f7a4 17 = .ok (.iconst 1, 1) := by decide +kernel
theorem dJ6_numberOfTrailingZeros_0f7a4_18 : decode cJ6_numberOfTrailingZeros_0f7a4 18 = .ok (.istore_n 1, 1) := by decide +kernel
theorem dJ6_numberOfTrailingZeros_0f7a4_19 : decode cJ6_numberOfTrailingZeros_0f7a4 19 = .ok (.iload_n 0, 1) := by decide +kernel
theorem dJ6_numberOfTrailingZeros_0f7a4_20 : decode cJ6_numberOfTrailingZeros_0f7a4 20 = .ok (.ldc_w 264, 3) := by decide +kernel
theorem dJ6_numberOfTrailingZeros_0f7a4_23 : decode cJ6_numberOfTrailingZeros_0f7a4 23 = .ok (.if_icmp .le 11, 3) := by decide +kernel
theorem dJ6_numberOfTrailingZeros_0f7a4_26 : decode cJ6_numberOfTrailingZeros_0f7a4 26 = .ok (.iinc 1 16, 3) := by decide +kernel
theorem dJ6_numberOfTrailingZeros_0f7a4_29 : decode cJ6_numberOfTrailingZeros_0f7a4 29 = .ok (.iload_n 0, 1) := by decide +kernel
theorem dJ6_numberOfTrailingZeros_0f7a4_30 : decode cJ6_numberOfTrailingZeros_0f7a4 30 = .ok (.bipush 16, 2) := by decide +kernel
theorem dJ6_numberOfTrailingZeros_0f7a4_32 : decode cJ6_numberOfTrailingZeros_0f7a4 32 = .ok (.iushr, 1) := by decide +kernel
theorem dJ6_numberOfTrailingZeros_0f7a4_33 : decode cJ6_numberOfTrailingZeros_0f7a4 33 = .ok (.istore_n 0, 1) := by decide +kernel
theorem dJ6_numberOfTrailingZeros_0f7a4_34 : decode cJ6_numberOfTrailingZeros_0f7a4 34 = .ok (.iload_n 0, 1) := by decide +kernel
theorem dJ6_numberOfTrailingZeros_0f7a4_35 : decode cJ6_numberOfTrailingZeros_0f7a4 35 = .ok (.sipush 256, 3) := by decide +kernel
theorem dJ6_numberOfTrailingZeros_0f7a4_38 : decode cJ6_numberOfTrailingZeros_0f7a4 38 = .ok (.if_icmp .le 11, 3) := by decide +kernel
theorem dJ6_numberOfTrailingZeros_0f7a4_41 : decode cJ6_numberOfTrailingZeros_0f7a4 41 = .ok (.iinc 1 8, 3) := by decide +kernel
theorem dJ6_numberOfTrailingZeros_0f7a4_44 : decode cJ6_numberOfTrailingZeros_0f7a4 44 = .ok (.iload_n 0, 1) := by decide +kernel
theorem dJ6_numberOfTrailingZeros_0f7a4_45 : decode cJ6_numberOfTrailingZeros_0f7a4 45 = .ok (.bipush 8, 2) := by decide +kernel
theorem dJ6_numberOfTrailingZeros_0f7a4_47 : decode cJ6_numberOfTrailingZeros_0f7a4 47 = .ok (.iushr, 1) := by decide +kernel
theorem dJ6_numberOfTrailingZeros_0f7a4_48 : decode cJ6_numberOfTrailingZeros_0f7a4 48 = .ok (.istore_n 0, 1) := by decide +kernel
theorem dJ6_numberOfTrailingZeros_0f7a4_49 : decode cJ6_numberOfTrailingZeros_0f7a4 49 = .ok (.iload_n 0, 1) := by decide +kernel
theorem dJ6_numberOfTrailingZeros_0f7a4_50 : decode cJ6_numberOfTrailingZeros_0f7a4 50 = .ok (.bipush 16, 2) := by decide +kernel
theorem dJ6_numberOfTrailingZeros_0f7a4_52 : decode cJ6_numberOfTrailingZeros_0f7a4 52 = .ok (.if_icmp .le 10, 3) := by decide +kernel
theorem dJ6_numberOfTrailingZeros_0f7a4_55 : decode cJ6_numberOfTrailingZeros_0f7a4 55 = .ok (.iinc 1 4, 3) := by decide +kernel
theorem dJ6_numberOfTrailingZeros_0f7a4_58 : decode cJ6_numberOfTrailingZeros_0f7a4 58 = .ok (.iload_n 0, 1) := by decide +kernel
theorem dJ6_numberOfTrailingZeros_0f7a4_59 : decode cJ6_numberOfTrailingZeros_0f7a4 59 = .ok (.iconst 4, 1) := by decide +kernel
theorem dJ6_numberOfTrailingZeros_0f7a4_60 : decode cJ6_numberOfTrailingZeros_0f7a4 60 = .ok (.iushr, 1) := by decide +kernel
theorem dJ6_numberOfTrailingZeros_0f7a4_61 : decode cJ6_numberOfTrailingZeros_0f7a4 61 = .ok (.istore_n 0, 1) := by decide +kernel
theorem dJ6_numberOfTrailingZeros_0f7a4_62 : decode cJ6_numberOfTrailingZeros_0f7a4 62 = .ok (.iload_n 0, 1) := by decide +kernel
theorem dJ6_numberOfTrailingZeros_0f7a4_63 : decode cJ6_numberOfTrailingZeros_0f7a4 63 = .ok (.iconst 4, 1) := by decide +kernel
theorem dJ6_numberOfTrailingZeros_0f7a4_64 : decode cJ6_numberOfTrailingZeros_0f7a4 64 = .ok (.if_icmp .le 10, 3) := by decide +kernel
theorem dJ6_numberOfTrailingZeros_0f7a4_67 : decode cJ6_numberOfTrailingZeros_0f7a4 67 = .ok (.iinc 1 2, 3) := by decide +kernel
theorem dJ6_numberOfTrailingZeros_0f7a4_70 : decode cJ6_numberOfTrailingZeros_0f7a4 70 = .ok (.iload_n 0, 1) := by decide +kernel
theorem dJ6_numberOfTrailingZeros_0f7a4_71 : decode cJ6_numberOfTrailingZeros_0f7a4 71 = .ok (.iconst 2, 1) := by decide +kernel
theorem dJ6_numberOfTrailingZeros_0f7a4_72 : decode cJ6_numberOfTrailingZeros_0f7a4 72 = .ok (.iushr, 1) := by decide +kernel
theorem dJ6_numberOfTrailingZeros_0f7a4_73 : decode cJ6_numberOfTrailingZeros_0f7a4 73 = .ok (.istore_n 0, 1) := by decide +kernel
theorem dJ6_numberOfTrailingZeros_0f7a4_74 : decode cJ6_numberOfTrailingZeros_0f7a4 74 = .ok (.iload_n 1, 1) := by decide +kernel
theorem dJ6_numberOfTrailingZeros_0f7a4_75 : decode cJ6_numberOfTrailingZeros_0f7a4 75 = .ok (.iload_n 0, 1) := by decide +kernel
theorem dJ6_numberOfTrailingZeros_0f7a4_76 : decode cJ6_numberOfTrailingZeros_0f7a4 76 = .ok (.iconst 1, 1) := by decide +kernel
theorem dJ6_numberOfTrailingZeros_0f7a4_77 : decode cJ6_numberOfTrailingZeros_0f7a4 77 = .ok (.iushr, 1) := by decide +kernel
theorem dJ6_numberOfTrailingZeros_0f7a4_78 : decode cJ6_numberOfTrailingZeros_0f7a4 78 = .ok (.iadd, 1) := by decide +kernel
theorem dJ6_numberOfTrailingZeros_0f7a4_79 : decode cJ6_numberOfTrailingZeros_0f7a4 79 = .ok (.ireturn, 1) := by decide +kernel
section
variable {p : Program} {l : Launch} {e : Env} {s : State} {m : MethodId} {args : Array Value} {below : List Frame} {meth : Method} {c : Code} {D : va_G} {cy : Nat → ClassId} {ad : Nat → Nat} {A : Nat → Prop} {aM aB aO aI aN aT aC aG aR aQ aK aL aX aH aJ aP aU aE0 aE1 aE2 aE3 : Nat → Nat} {gi : Value}
abbrev rmj6_bitCount : Room := { frames := 0, cells := 0, slots := 0, locals := 0 }
theorem hdSj6_bitCount : (yJ6_bitCount_0f7a4.cls ≠ "java/lang/invoke/MethodHandle" ∧ yJ6_bitCount_0f7a4.cls ≠ "java/lang/invoke/VarHandle" ∧ (parseMethodDescriptor yJ6_bitCount_0f7a4.desc).map (fun d => d.parameters.length) = some 1) := by decide +kernel
set_option maxRecDepth 100000 in
set_option maxHeartbeats 4000000 in
theorem tj6_bitCount_0 (hC : Cx p s m args meth c cJ6_bitCount_0f7a4 1 wsJ6_bitCount_0f7a4 RJ6 (some .int)) : ∀ (x0 : Int32) (res : Int32) (H : Heap) (locs : List Loc) (ls : Array Slot), fj6_bitCount x0 = some res → GW D cy ad (([] : va_W)) A s H locs → lv_has ls 1 [(0, .int x0)] → W p l e rmj6_bitCount s m args below meth c H locs 0 0 (MQ below (QI D cy (([] : va_W)) A res) args s 0 0 A) (F0 m 0 ls []) := by
  intro x0 res H locs ls hf hW hl
  unfold fj6_bitCount at hf
  refine lv_iload_n hC.1 hC.2.1 dJ6_bitCount_0f7a4_0 rfl (lv_at hl 0 rfl) ?_
  refine lv_iload_n hC.1 hC.2.1 dJ6_bitCount_0f7a4_1 rfl (lv_at hl 0 rfl) ?_
  refine lv_iconst (v := 1) hC.1 hC.2.1 dJ6_bitCount_0f7a4_2 (by decide) ?_
  refine lv_iushr (v := ush x0 1) hC.1 hC.2.1 dJ6_bitCount_0f7a4_3 rfl ?_
  refine lv_ldcw (v := 1431655765) hC.1 hC.2.1 hC.2.2.2.1 (hC.2.2.2.2.1 _ (List.mem_of_getElem? (i := 1) rfl)) dJ6_bitCount_0f7a4_4 ?_
  refine lv_iand hC.1 hC.2.1 dJ6_bitCount_0f7a4_7 ?_
  refine lv_isub hC.1 hC.2.1 dJ6_bitCount_0f7a4_8 ?_
  refine lv_topi (fun x0_1 ex0_1 => ?_)
  have hf := lt_nm hf ex0_1
  refine lv_istore_n (lv' := [(0, .int x0_1)]) hC.1 hC.2.1 dJ6_bitCount_0f7a4_9 rfl hl (by decide) rfl (fun ls hl => ?_)
  refine lv_iload_n hC.1 hC.2.1 dJ6_bitCount_0f7a4_10 rfl (lv_at hl 0 rfl) ?_
  refine lv_ldcw (v := 858993459) hC.1 hC.2.1 hC.2.2.2.1 (hC.2.2.2.2.1 _ (List.mem_of_getElem? (i := 2) rfl)) dJ6_bitCount_0f7a4_11 ?_
  refine lv_iand hC.1 hC.2.1 dJ6_bitCount_0f7a4_14 ?_
  refine lv_iload_n hC.1 hC.2.1 dJ6_bitCount_0f7a4_15 rfl (lv_at hl 0 rfl) ?_
  refine lv_iconst (v := 2) hC.1 hC.2.1 dJ6_bitCount_0f7a4_16 (by decide) ?_
  refine lv_iushr (v := ush x0_1 2) hC.1 hC.2.1 dJ6_bitCount_0f7a4_17 rfl ?_
  refine lv_ldcw (v := 858993459) hC.1 hC.2.1 hC.2.2.2.1 (hC.2.2.2.2.1 _ (List.mem_of_getElem? (i := 2) rfl)) dJ6_bitCount_0f7a4_18 ?_
  refine lv_iand hC.1 hC.2.1 dJ6_bitCount_0f7a4_21 ?_
  refine lv_iadd hC.1 hC.2.1 dJ6_bitCount_0f7a4_22 ?_
  refine lv_topi (fun x0_2 ex0_2 => ?_)
  have hf := lt_nm hf ex0_2
  refine lv_istore_n (lv' := [(0, .int x0_2)]) hC.1 hC.2.1 dJ6_bitCount_0f7a4_23 rfl hl (by decide) rfl (fun ls hl => ?_)
  refine lv_iload_n hC.1 hC.2.1 dJ6_bitCount_0f7a4_24 rfl (lv_at hl 0 rfl) ?_
  refine lv_iload_n hC.1 hC.2.1 dJ6_bitCount_0f7a4_25 rfl (lv_at hl 0 rfl) ?_
  refine lv_iconst (v := 4) hC.1 hC.2.1 dJ6_bitCount_0f7a4_26 (by decide) ?_
  refine lv_iushr (v := ush x0_2 4) hC.1 hC.2.1 dJ6_bitCount_0f7a4_27 rfl ?_
  refine lv_iadd hC.1 hC.2.1 dJ6_bitCount_0f7a4_28 ?_
  refine lv_ldcw (v := 252645135) hC.1 hC.2.1 hC.2.2.2.1 (hC.2.2.2.2.1 _ (List.mem_of_getElem? (i := 3) rfl)) dJ6_bitCount_0f7a4_29 ?_
  refine lv_iand hC.1 hC.2.1 dJ6_bitCount_0f7a4_32 ?_
  refine lv_topi (fun x0_3 ex0_3 => ?_)
  have hf := lt_nm hf ex0_3
  refine lv_istore_n (lv' := [(0, .int x0_3)]) hC.1 hC.2.1 dJ6_bitCount_0f7a4_33 rfl hl (by decide) rfl (fun ls hl => ?_)
  refine lv_iload_n hC.1 hC.2.1 dJ6_bitCount_0f7a4_34 rfl (lv_at hl 0 rfl) ?_
  refine lv_iload_n hC.1 hC.2.1 dJ6_bitCount_0f7a4_35 rfl (lv_at hl 0 rfl) ?_
  refine lv_bipush (v := 8) hC.1 hC.2.1 dJ6_bitCount_0f7a4_36 (by decide) ?_
  refine lv_iushr (v := ush x0_3 8) hC.1 hC.2.1 dJ6_bitCount_0f7a4_38 rfl ?_
  refine lv_iadd hC.1 hC.2.1 dJ6_bitCount_0f7a4_39 ?_
  refine lv_topi (fun x0_4 ex0_4 => ?_)
  have hf := lt_nm hf ex0_4
  refine lv_istore_n (lv' := [(0, .int x0_4)]) hC.1 hC.2.1 dJ6_bitCount_0f7a4_40 rfl hl (by decide) rfl (fun ls hl => ?_)
  refine lv_iload_n hC.1 hC.2.1 dJ6_bitCount_0f7a4_41 rfl (lv_at hl 0 rfl) ?_
  refine lv_iload_n hC.1 hC.2.1 dJ6_bitCount_0f7a4_42 rfl (lv_at hl 0 rfl) ?_
  refine lv_bipush (v := 16) hC.1 hC.2.1 dJ6_bitCount_0f7a4_43 (by decide) ?_
  refine lv_iushr (v := ush x0_4 16) hC.1 hC.2.1 dJ6_bitCount_0f7a4_45 rfl ?_
  refine lv_iadd hC.1 hC.2.1 dJ6_bitCount_0f7a4_46 ?_
  refine lv_topi (fun x0_5 ex0_5 => ?_)
  have hf := lt_nm hf ex0_5
  refine lv_istore_n (lv' := [(0, .int x0_5)]) hC.1 hC.2.1 dJ6_bitCount_0f7a4_47 rfl hl (by decide) rfl (fun ls hl => ?_)
  refine lv_iload_n hC.1 hC.2.1 dJ6_bitCount_0f7a4_48 rfl (lv_at hl 0 rfl) ?_
  refine lv_bipush (v := 63) hC.1 hC.2.1 dJ6_bitCount_0f7a4_49 (by decide) ?_
  refine lv_iand hC.1 hC.2.1 dJ6_bitCount_0f7a4_51 ?_
  obtain rfl := Option.some.inj hf
  exact g_iret hC hW dJ6_bitCount_0f7a4_52
set_option maxRecDepth 100000 in
set_option maxHeartbeats 4000000 in
theorem cj6_bitCount (l : Launch) (D : va_G) (cy : Nat → ClassId) (ad : Nat → Nat) {x0 : Int32} {res : Int32} (h : fj6_bitCount x0 = some res) : GCi l yJ6_bitCount_0f7a4 wsJ6_bitCount_0f7a4 rmj6_bitCount [.int x0] D cy ad (([] : va_W)) (([] : va_W)) res := fun sz => GC.start (own := RJ6) (Qc := fun A => QI D cy (([] : va_W)) A res) sz (by decide) rfl rfl (Nat.le_of_ble_eq_true rfl) (fun p e s m below meth c A ls hC hW hl => tj6_bitCount_0 hC _ _ _ _ _ h hW (lv_sub hl [0] rfl))
abbrev rmj6_numberOfTrailingZeros : Room := { frames := 0, cells := 0, slots := 0, locals := 0 }
theorem hdSj6_numberOfTrailingZeros : (yJ6_numberOfTrailingZeros_0f7a4.cls ≠ "java/lang/invoke/MethodHandle" ∧ yJ6_numberOfTrailingZeros_0f7a4.cls ≠ "java/lang/invoke/VarHandle" ∧ (parseMethodDescriptor yJ6_numberOfTrailingZeros_0f7a4.desc).map (fun d => d.parameters.length) = some 1) := by decide +kernel
set_option maxRecDepth 100000 in
set_option maxHeartbeats 4000000 in
theorem tj6_numberOfTrailingZeros_74 (hC : Cx p s m args meth c cJ6_numberOfTrailingZeros_0f7a4 2 wsJ6_numberOfTrailingZeros_0f7a4 RJ6 (some .int)) : ∀ (x0 : Int32) (x1 : Int32) (res : Int32) (H : Heap) (locs : List Loc) (ls : Array Slot), fj6_numberOfTrailingZeros_74 x0 x1 = some res → GW D cy ad (([] : va_W)) A s H locs → lv_has ls 2 [(0, .int x0), (1, .int x1)] → W p l e rmj6_numberOfTrailingZeros s m args below meth c H locs 0 0 (MQ below (QI D cy (([] : va_W)) A res) args s 0 0 A) (F0 m 74 ls []) := by
  intro x0 x1 res H locs ls hf hW hl
  unfold fj6_numberOfTrailingZeros_74 at hf
  refine lv_iload_n hC.1 hC.2.1 dJ6_numberOfTrailingZeros_0f7a4_74 rfl (lv_at hl 1 rfl) ?_
  refine lv_iload_n hC.1 hC.2.1 dJ6_numberOfTrailingZeros_0f7a4_75 rfl (lv_at hl 0 rfl) ?_
  refine lv_iconst (v := 1) hC.1 hC.2.1 dJ6_numberOfTrailingZeros_0f7a4_76 (by decide) ?_
  refine lv_iushr (v := ush x0 1) hC.1 hC.2.1 dJ6_numberOfTrailingZeros_0f7a4_77 rfl ?_
  refine lv_iadd hC.1 hC.2.1 dJ6_numberOfTrailingZeros_0f7a4_78 ?_
  obtain rfl := Option.some.inj hf
  exact g_iret hC hW dJ6_numberOfTrailingZeros_0f7a4_79
set_option maxRecDepth 100000 in
set_option maxHeartbeats 4000000 in
theorem tj6_numberOfTrailingZeros_62 (hC : Cx p s m args meth c cJ6_numberOfTrailingZeros_0f7a4 2 wsJ6_numberOfTrailingZeros_0f7a4 RJ6 (some .int)) : ∀ (x0 : Int32) (x1 : Int32) (res : Int32) (H : Heap) (locs : List Loc) (ls : Array Slot), fj6_numberOfTrailingZeros_62 x0 x1 = some res → GW D cy ad (([] : va_W)) A s H locs → lv_has ls 2 [(0, .int x0), (1, .int x1)] → W p l e rmj6_numberOfTrailingZeros s m args below meth c H locs 0 0 (MQ below (QI D cy (([] : va_W)) A res) args s 0 0 A) (F0 m 62 ls []) := by
  intro x0 x1 res H locs ls hf hW hl
  unfold fj6_numberOfTrailingZeros_62 at hf
  refine lv_iload_n hC.1 hC.2.1 dJ6_numberOfTrailingZeros_0f7a4_62 rfl (lv_at hl 0 rfl) ?_
  refine lv_iconst (v := 4) hC.1 hC.2.1 dJ6_numberOfTrailingZeros_0f7a4_63 (by decide) ?_
  refine lv_icmp_le (tgt := 74) hC.1 hC.2.1 dJ6_numberOfTrailingZeros_0f7a4_64 (by decide) (fun hc_1 => ?_) (fun hc_1 => ?_)
  · have hf := ite_t hf hc_1
    exact tj6_numberOfTrailingZeros_74 hC  _ _ _ _ _ _ hf hW (lv_sub hl [0, 1] rfl)
  · have hf := ite_f hf hc_1
    obtain ⟨x1_2, ex1_2⟩ : ∃ y : Int32, y = x1 + 2 := ⟨_, rfl⟩
    have hf := lt_nm hf ex1_2
    refine lv_iinc (v := x1_2) (lv' := [(1, .int x1_2), (0, .int x0)]) hC.1 hC.2.1 dJ6_numberOfTrailingZeros_0f7a4_67 hl (k := 1) rfl (by rw [ex1_2]; rfl) (by decide) rfl (fun ls hl => ?_)
    refine lv_iload_n hC.1 hC.2.1 dJ6_numberOfTrailingZeros_0f7a4_70 rfl (lv_at hl 1 rfl) ?_
    refine lv_iconst (v := 2) hC.1 hC.2.1 dJ6_numberOfTrailingZeros_0f7a4_71 (by decide) ?_
    refine lv_iushr (v := ush x0 2) hC.1 hC.2.1 dJ6_numberOfTrailingZeros_0f7a4_72 rfl ?_
    refine lv_topi (fun x0_3 ex0_3 => ?_)
    have hf := lt_nm hf ex0_3
    refine lv_istore_n (lv' := [(0, .int x0_3), (1, .int x1_2)]) hC.1 hC.2.1 dJ6_numberOfTrailingZeros_0f7a4_73 rfl hl (by decide) rfl (fun ls hl => ?_)
    exact tj6_numberOfTrailingZeros_74 hC  _ _ _ _ _ _ hf hW (lv_sub hl [0, 1] rfl)
set_option maxRecDepth 100000 in
set_option maxHeartbeats 4000000 in
theorem tj6_numberOfTrailingZeros_49 (hC : Cx p s m args meth c cJ6_numberOfTrailingZeros_0f7a4 2 wsJ6_numberOfTrailingZeros_0f7a4 RJ6 (some .int)) : ∀ (x0 : Int32) (x1 : Int32) (res : Int32) (H : Heap) (locs : List Loc) (ls : Array Slot), fj6_numberOfTrailingZeros_49 x0 x1 = some res → GW D cy ad (([] : va_W)) A s H locs → lv_has ls 2 [(0, .int x0), (1, .int x1)] → W p l e rmj6_numberOfTrailingZeros s m args below meth c H locs 0 0 (MQ below (QI D cy (([] : va_W)) A res) args s 0 0 A) (F0 m 49 ls []) := by
  intro x0 x1 res H locs ls hf hW hl
  unfold fj6_numberOfTrailingZeros_49 at hf
  refine lv_iload_n hC.1 hC.2.1 dJ6_numberOfTrailingZeros_0f7a4_49 rfl (lv_at hl 0 rfl) ?_
  refine lv_bipush (v := 16) hC.1 hC.2.1 dJ6_numberOfTrailingZeros_0f7a4_50 (by decide) ?_
  refine lv_icmp_le (tgt := 62) hC.1 hC.2.1 dJ6_numberOfTrailingZeros_0f7a4_52 (by decide) (fun hc_1 => ?_) (fun hc_1 => ?_)
  · have hf := ite_t hf hc_1
    exact tj6_numberOfTrailingZeros_62 hC  _ _ _ _ _ _ hf hW (lv_sub hl [0, 1] rfl)
  · have hf := ite_f hf hc_1
    obtain ⟨x1_2, ex1_2⟩ : ∃ y : Int32, y = x1 + 4 := ⟨_, rfl⟩
    have hf := lt_nm hf ex1_2
    refine lv_iinc (v := x1_2) (lv' := [(1, .int x1_2), (0, .int x0)]) hC.1 hC.2.1 dJ6_numberOfTrailingZeros_0f7a4_55 hl (k := 1) rfl (by rw [ex1_2]; rfl) (by decide) rfl (fun ls hl => ?_)
    refine lv_iload_n hC.1 hC.2.1 dJ6_numberOfTrailingZeros_0f7a4_58 rfl (lv_at hl 1 rfl) ?_
    refine lv_iconst (v := 4) hC.1 hC.2.1 dJ6_numberOfTrailingZeros_0f7a4_59 (by decide) ?_
    refine lv_iushr (v := ush x0 4) hC.1 hC.2.1 dJ6_numberOfTrailingZeros_0f7a4_60 rfl ?_
    refine lv_topi (fun x0_3 ex0_3 => ?_)
    have hf := lt_nm hf ex0_3
    refine lv_istore_n (lv' := [(0, .int x0_3), (1, .int x1_2)]) hC.1 hC.2.1 dJ6_numberOfTrailingZeros_0f7a4_61 rfl hl (by decide) rfl (fun ls hl => ?_)
    exact tj6_numberOfTrailingZeros_62 hC  _ _ _ _ _ _ hf hW (lv_sub hl [0, 1] rfl)
set_option maxRecDepth 100000 in
set_option maxHeartbeats 4000000 in
theorem tj6_numberOfTrailingZeros_34 (hC : Cx p s m args meth c cJ6_numberOfTrailingZeros_0f7a4 2 wsJ6_numberOfTrailingZeros_0f7a4 RJ6 (some .int)) : ∀ (x0 : Int32) (x1 : Int32) (res : Int32) (H : Heap) (locs : List Loc) (ls : Array Slot), fj6_numberOfTrailingZeros_34 x0 x1 = some res → GW D cy ad (([] : va_W)) A s H locs → lv_has ls 2 [(0, .int x0), (1, .int x1)] → W p l e rmj6_numberOfTrailingZeros s m args below meth c H locs 0 0 (MQ below (QI D cy (([] : va_W)) A res) args s 0 0 A) (F0 m 34 ls []) := by
  intro x0 x1 res H locs ls hf hW hl
  unfold fj6_numberOfTrailingZeros_34 at hf
  refine lv_iload_n hC.1 hC.2.1 dJ6_numberOfTrailingZeros_0f7a4_34 rfl (lv_at hl 0 rfl) ?_
  refine lv_sipush (v := 256) hC.1 hC.2.1 dJ6_numberOfTrailingZeros_0f7a4_35 (by decide) ?_
  refine lv_icmp_le (tgt := 49) hC.1 hC.2.1 dJ6_numberOfTrailingZeros_0f7a4_38 (by decide) (fun hc_1 => ?_) (fun hc_1 => ?_)
  · have hf := ite_t hf hc_1
    exact tj6_numberOfTrailingZeros_49 hC  _ _ _ _ _ _ hf hW (lv_sub hl [0, 1] rfl)
  · have hf := ite_f hf hc_1
    obtain ⟨x1_2, ex1_2⟩ : ∃ y : Int32, y = x1 + 8 := ⟨_, rfl⟩
    have hf := lt_nm hf ex1_2
    refine lv_iinc (v := x1_2) (lv' := [(1, .int x1_2), (0, .int x0)]) hC.1 hC.2.1 dJ6_numberOfTrailingZeros_0f7a4_41 hl (k := 1) rfl (by rw [ex1_2]; rfl) (by decide) rfl (fun ls hl => ?_)
    refine lv_iload_n hC.1 hC.2.1 dJ6_numberOfTrailingZeros_0f7a4_44 rfl (lv_at hl 1 rfl) ?_
    refine lv_bipush (v := 8) hC.1 hC.2.1 dJ6_numberOfTrailingZeros_0f7a4_45 (by decide) ?_
    refine lv_iushr (v := ush x0 8) hC.1 hC.2.1 dJ6_numberOfTrailingZeros_0f7a4_47 rfl ?_
    refine lv_topi (fun x0_3 ex0_3 => ?_)
    have hf := lt_nm hf ex0_3
    refine lv_istore_n (lv' := [(0, .int x0_3), (1, .int x1_2)]) hC.1 hC.2.1 dJ6_numberOfTrailingZeros_0f7a4_48 rfl hl (by decide) rfl (fun ls hl => ?_)
    exact tj6_numberOfTrailingZeros_49 hC  _ _ _ _ _ _ hf hW (lv_sub hl [0, 1] rfl)
set_option maxRecDepth 100000 in
set_option maxHeartbeats 4000000 in
theorem tj6_numberOfTrailingZeros_0 (hC : Cx p s m args meth c cJ6_numberOfTrailingZeros_0f7a4 2 wsJ6_numberOfTrailingZeros_0f7a4 RJ6 (some .int)) : ∀ (x0 : Int32) (res : Int32) (H : Heap) (locs : List Loc) (ls : Array Slot), fj6_numberOfTrailingZeros x0 = some res → GW D cy ad (([] : va_W)) A s H locs → lv_has ls 2 [(0, .int x0)] → W p l e rmj6_numberOfTrailingZeros s m args below meth c H locs 0 0 (MQ below (QI D cy (([] : va_W)) A res) args s 0 0 A) (F0 m 0 ls []) := by
  intro x0 res H locs ls hf hW hl
  unfold fj6_numberOfTrailingZeros at hf
  refine lv_iload_n hC.1 hC.2.1 dJ6_numberOfTrailingZeros_0f7a4_0 rfl (lv_at hl 0 rfl) ?_
  refine lv_iconst (v := (-1)) hC.1 hC.2.1 dJ6_numberOfTrailingZeros_0f7a4_1 (by decide) ?_
  refine lv_ixor hC.1 hC.2.1 dJ6_numberOfTrailingZeros_0f7a4_2 ?_
  refine lv_iload_n hC.1 hC.2.1 dJ6_numberOfTrailingZeros_0f7a4_3 rfl (lv_at hl 0 rfl) ?_
  refine lv_iconst (v := 1) hC.1 hC.2.1 dJ6_numberOfTrailingZeros_0f7a4_4 (by decide) ?_
  refine lv_isub hC.1 hC.2.1 dJ6_numberOfTrailingZeros_0f7a4_5 ?_
  refine lv_iand hC.1 hC.2.1 dJ6_numberOfTrailingZeros_0f7a4_6 ?_
  refine lv_topi (fun x0_1 ex0_1 => ?_)
  have hf := lt_nm hf ex0_1
  refine lv_istore_n (lv' := [(0, .int x0_1)]) hC.1 hC.2.1 dJ6_numberOfTrailingZeros_0f7a4_7 rfl hl (by decide) rfl (fun ls hl => ?_)
  refine lv_iload_n hC.1 hC.2.1 dJ6_numberOfTrailingZeros_0f7a4_8 rfl (lv_at hl 0 rfl) ?_
  refine lv_if_gt (tgt := 17) hC.1 hC.2.1 dJ6_numberOfTrailingZeros_0f7a4_9 (by decide) (fun hc_2 => ?_) (fun hc_2 => ?_)
  · have hf := ite_t hf hc_2
    refine lv_iconst (v := 1) hC.1 hC.2.1 dJ6_numberOfTrailingZeros_0f7a4_17 (by decide) ?_
    refine lv_istore_n (lv' := [(1, .int 1), (0, .int x0_1)]) hC.1 hC.2.1 dJ6_numberOfTrailingZeros_0f7a4_18 rfl hl (by decide) rfl (fun ls hl => ?_)
    refine lv_iload_n hC.1 hC.2.1 dJ6_numberOfTrailingZeros_0f7a4_19 rfl (lv_at hl 1 rfl) ?_
    refine lv_ldcw (v := 65536) hC.1 hC.2.1 hC.2.2.2.1 (hC.2.2.2.2.1 _ (List.mem_of_getElem? (i := 1) rfl)) dJ6_numberOfTrailingZeros_0f7a4_20 ?_
    refine lv_icmp_le (tgt := 34) hC.1 hC.2.1 dJ6_numberOfTrailingZeros_0f7a4_23 (by decide) (fun hc_3 => ?_) (fun hc_3 => ?_)
    · have hf := ite_t hf hc_3
      exact tj6_numberOfTrailingZeros_34 hC  _ _ _ _ _ _ hf hW (lv_sub hl [1, 0] rfl)
    · have hf := ite_f hf hc_3
      obtain ⟨x1_4, ex1_4⟩ : ∃ y : Int32, y = 1 + 16 := ⟨_, rfl⟩
      have hf := lt_nm hf ex1_4
      refine lv_iinc (v := x1_4) (lv' := [(1, .int x1_4), (0, .int x0_1)]) hC.1 hC.2.1 dJ6_numberOfTrailingZeros_0f7a4_26 hl (k := 0) rfl (by rw [ex1_4]; rfl) (by decide) rfl (fun ls hl => ?_)
      refine lv_iload_n hC.1 hC.2.1 dJ6_numberOfTrailingZeros_0f7a4_29 rfl (lv_at hl 1 rfl) ?_
      refine lv_bipush (v := 16) hC.1 hC.2.1 dJ6_numberOfTrailingZeros_0f7a4_30 (by decide) ?_
      refine lv_iushr (v := ush x0_1 16) hC.1 hC.2.1 dJ6_numberOfTrailingZeros_0f7a4_32 rfl ?_
      refine lv_topi (fun x0_5 ex0_5 => ?_)
      have hf := lt_nm hf ex0_5
      refine lv_istore_n (lv' := [(0, .int x0_5), (1, .int x1_4)]) hC.1 hC.2.1 dJ6_numberOfTrailingZeros_0f7a4_33 rfl hl (by decide) rfl (fun ls hl => ?_)
      exact tj6_numberOfTrailingZeros_34 hC  _ _ _ _ _ _ hf hW (lv_sub hl [0, 1] rfl)
  · have hf := ite_f hf hc_2
    refine lv_iload_n hC.1 hC.2.1 dJ6_numberOfTrailingZeros_0f7a4_12 rfl (lv_at hl 0 rfl) ?_
    refine lv_bipush (v := 32) hC.1 hC.2.1 dJ6_numberOfTrailingZeros_0f7a4_13 (by decide) ?_
    refine lv_iand hC.1 hC.2.1 dJ6_numberOfTrailingZeros_0f7a4_15 ?_
    obtain rfl := Option.some.inj hf
    exact g_iret hC hW dJ6_numberOfTrailingZeros_0f7a4_16
set_option maxRecDepth 100000 in
set_option maxHeartbeats 4000000 in
theorem cj6_numberOfTrailingZeros (l : Launch) (D : va_G) (cy : Nat → ClassId) (ad : Nat → Nat) {x0 : Int32} {res : Int32} (h : fj6_numberOfTrailingZeros x0 = some res) : GCi l yJ6_numberOfTrailingZeros_0f7a4 wsJ6_numberOfTrailingZeros_0f7a4 rmj6_numberOfTrailingZeros [.int x0] D cy ad (([] : va_W)) (([] : va_W)) res := fun sz => GC.start (own := RJ6) (Qc := fun A => QI D cy (([] : va_W)) A res) sz (by decide) rfl rfl (Nat.le_of_ble_eq_true rfl) (fun p e s m below meth c A ls hC hW hl => tj6_numberOfTrailingZeros_0 hC _ _ _ _ _ h hW (lv_sub hl [0] rfl))
end
