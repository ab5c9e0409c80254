/-! laid by program: the literal of the keys, the loop of Tape's maker -/
section GZ
variable {p : Program} {l : Launch} {e : Env} {R : Room} {s : State} {m : MethodId} {args : Array Value} {below : List Frame} {meth : Method} {c : Code} {H : Heap} {locs : List Loc} {cells slots : Nat} {Q : State → Prop}
variable {cc : ByteArray} {nL : Nat} {ws : List Cond} {own : String} {ret : Option FieldType} {D : va_G} {cy : Nat → ClassId} {ad : Nat → Nat} {w : va_W} {A : Nat → Prop} {pc : Nat} {ls : Array Slot} {rest : List Value}
variable {y : MethodName} {bytes : ByteArray} {maxL n index b : Nat} {ret' : Option FieldType} {wsc : List Cond} {rm : Room} {wc wc1 w' : va_W} {As st0 : List Value}
theorem g_callvS (hC : Cx p s m args meth c cc nL ws own ret) (hW : GW D cy ad w A s H locs) (hM : GCv l y wsc rm As D cy ad wc wc1) (cw : CallB R s args own index y bytes maxL ret' wsc rm 0 0 n ∧ (Cond.static y).before args s = true) (hs : Sub w wc wc1 w') (hn : As.length = n) (hsz : ls.size = nL) (hst : st0 = As.reverse ++ rest) (hrm : (rest.map fun v => v.category).sum ≤ 8) (hdg : decode cc pc = .ok (.invokestatic index, 3)) (hf : cells ≤ R.cells ∧ slots ≤ R.slots)
    (kk : ∀ (H1 : Heap) (locs1 : List Loc), GW D cy ad w' A s H1 locs1 → W p l e R s m args below meth c H1 locs1 cells slots Q (F0 m (pc + 3) ls rest)) : W p l e R s m args below meth c H locs cells slots Q (F0 m pc ls st0) :=
  va_callv (va_runS (As := As) (rest := rest) ⟨hC.1, hC.2.1, hC.2.2.1, hC.2.2.2.1, hC.2.2.2.2.1⟩ (hM H.size) cw ⟨Pw_blind _ D cy ad wc _, hW.pre hs _⟩ rfl hn hsz hst (lv_room (pc := pc) (ls := ls) (rest := st0) hrm) hdg hf) hW.2.2.2.1 (fun q' _ h => hW.free hs q' h) (hW.free hs) (fun u t H1 locs1 ht hvm hw hB hz1 hk1 hS1 => kk H1 locs1 (hW.join hs ht hB hk1 hS1))
end GZ
theorem dJ3_checkIndex_8e157_0 : decode cJ3_checkIndex_8e157 0 = .ok (.iload_n 0, 1) := by decide +kernel
theorem dJ3_checkIndex_8e157_1 : decode cJ3_checkIndex_8e157 1 = .ok (.ifCond .lt 8, 3) := by decide +kernel
theorem dJ3_checkIndex_8e157_4 : decode cJ3_checkIndex_8e157 4 = .ok (.iload_n 0, 1) := by decide +kernel
theorem dJ3_checkIndex_8e157_5 : decode cJ3_checkIndex_8e157 5 = .ok (.iload_n 1, 1) := by decide +kernel
theorem dJ3_checkIndex_8e157_6 : decode cJ3_checkIndex_8e157 6 = .ok (.if_icmp .lt 10, 3) := by decide +kernel
theorem dJ3_checkIndex_8e157_9 : decode cJ3_checkIndex_8e157 9 = .ok (.aload_n 2, 1) := by decide +kernel
theorem dJ3_checkIndex_8e157_10 : decode cJ3_checkIndex_8e157 10 = .ok (.iload_n 0, 1) := by decide +kernel
theorem dJ3_checkIndex_8e157_11 : decode cJ3_checkIndex_8e157 11 = .ok (.iload_n 1, 1) := by decide +kernel
theorem dJ3_checkIndex_8e157_12 : decode cJ3_checkIndex_8e157 12 = .ok (.invokestatic 95, 3) := by decide +kernel
theorem dJ3_checkIndex_8e157_15 : decode cJ3_checkIndex_8e157 15 = .ok (.athrow, 1) := by decide +kernel
theorem dJ3_checkIndex_8e157_16 : decode cJ3_checkIndex_8e157 16 = .ok (.iload_n 0, 1) := by decide +kernel
theorem dJ3_checkIndex_8e157_17 : decode cJ3_checkIndex_8e157 17 = .ok (.ireturn, 1) := by decide +kernel
set_option maxRecDepth 20000 in
theorem gJ0_checkIndex_df160_J3_checkIndex_8e157 : GoodIn wsJ0_checkIndex_df160 (va_wsS RJ0 1059 yJ3_checkIndex_8e157 wsJ3_checkIndex_8e157) := goodIn_r _ [2, 3, 4, 5] rfl (by decide +kernel)
theorem dJ0_checkIndex_df160_0 : decode cJ0_checkIndex_df160 0 = .ok (.iload_n 0, 1) := by decide +kernel
theorem dJ0_checkIndex_df160_1 : decode cJ0_checkIndex_df160 1 = .ok (.iload_n 1, 1) := by decide +kernel
theorem dJ0_checkIndex_df160_2 : decode cJ0_checkIndex_df160 2 = .ok (.getstatic 1053, 3) := by decide +kernel
theorem dJ0_checkIndex_df160_5 : decode cJ0_checkIndex_df160 5 = .ok (.invokestatic 1059, 3) := by decide +kernel
theorem dJ0_checkIndex_df160_8 : decode cJ0_checkIndex_df160 8 = .ok (.pop, 1) := by decide +kernel
theorem dJ0_checkIndex_df160_9 : decode cJ0_checkIndex_df160 9 = .ok (.return_, 1) := by decide +kernel
set_option maxRecDepth 20000 in
theorem gJ1_charAt_3b067_J0_checkIndex_df160 : GoodIn wsJ1_charAt_3b067 (va_wsS RJ1 9 yJ0_checkIndex_df160 wsJ0_checkIndex_df160) := goodIn_r _ [1, 2, 3, 4, 5, 6, 7, 8, 9] rfl (by decide +kernel)
theorem dJ1_charAt_3b067_0 : decode cJ1_charAt_3b067 0 = .ok (.iload_n 1, 1) := by decide +kernel
theorem dJ1_charAt_3b067_1 : decode cJ1_charAt_3b067 1 = .ok (.aload_n 0, 1) := by decide +kernel
theorem dJ1_charAt_3b067_2 : decode cJ1_charAt_3b067 2 = .ok (.arraylength, 1) := by decide +kernel
theorem dJ1_charAt_3b067_3 : decode cJ1_charAt_3b067 3 = .ok (.invokestatic 9, 3) := by decide +kernel
theorem dJ1_charAt_3b067_6 : decode cJ1_charAt_3b067 6 = .ok (.aload_n 0, 1) := by decide +kernel
theorem dJ1_charAt_3b067_7 : decode cJ1_charAt_3b067 7 = .ok (.iload_n 1, 1) := by decide +kernel
theorem dJ1_charAt_3b067_8 : decode cJ1_charAt_3b067 8 = .ok (.baload, 1) := by decide +kernel
theorem dJ1_charAt_3b067_9 : decode cJ1_charAt_3b067 9 = .ok (.sipush 255, 3) := by decide +kernel
theorem dJ1_charAt_3b067_12 : decode cJ1_charAt_3b067 12 = .ok (.iand, 1) := by decide +kernel
theorem dJ1_charAt_3b067_13 : decode cJ1_charAt_3b067 13 = .ok (.i2c, 1) := by decide +kernel
theorem dJ1_charAt_3b067_14 : decode cJ1_charAt_3b067 14 = .ok (.ireturn, 1) := by decide +kernel
set_option maxRecDepth 20000 in
theorem gJ0_charAt_5068e_J0_isLatin1_aae02 : GoodIn wsJ0_charAt_5068e (wsV RJ0 492 RJ0 yJ0_isLatin1_aae02 wsJ0_isLatin1_aae02) := goodIn_r _ [2, 3, 4, 5, 6, 7, 8] rfl (by decide +kernel)
set_option maxRecDepth 20000 in
theorem gJ0_charAt_5068e_J1_charAt_3b067 : GoodIn wsJ0_charAt_5068e (va_wsS RJ0 495 yJ1_charAt_3b067 wsJ1_charAt_3b067) := goodIn_r _ [9, 10, 11, 12, 13, 14, 5, 15, 16, 17, 18, 19, 20] rfl (by decide +kernel)
set_option maxRecDepth 20000 in
theorem gJ0_charAt_5068e_J2_charAt_3b067 : GoodIn wsJ0_charAt_5068e (va_wsS RJ0 498 yJ2_charAt_3b067 wsJ2_charAt_3b067) := goodIn_r _ [21, 22, 23, 24, 25, 26, 23, 27, 28, 29, 30, 31, 14, 5, 15, 16, 17, 18, 19, 20, 32, 33, 34, 35, 36, 37] rfl (by decide +kernel)
theorem dJ0_charAt_5068e_0 : decode cJ0_charAt_5068e 0 = .ok (.aload_n 0, 1) := by decide +kernel
theorem dJ0_charAt_5068e_1 : decode cJ0_charAt_5068e 1 = .ok (.invokevirtual 492, 3) := by decide +kernel
theorem dJ0_charAt_5068e_4 : decode cJ0_charAt_5068e 4 = .ok (.ifCond .eq 12, 3) := by decide +kernel
theorem dJ0_charAt_5068e_7 : decode cJ0_charAt_5068e 7 = .ok (.aload_n 0, 1) := by decide +kernel
theorem dJ0_charAt_5068e_8 : decode cJ0_charAt_5068e 8 = .ok (.getfield 9, 3) := by decide +kernel
theorem dJ0_charAt_5068e_11 : decode cJ0_charAt_5068e 11 = .ok (.iload_n 1, 1) := by decide +kernel
theorem dJ0_charAt_5068e_12 : decode cJ0_charAt_5068e 12 = .ok (.invokestatic 495, 3) := by decide +kernel
theorem dJ0_charAt_5068e_15 : decode cJ0_charAt_5068e 15 = .ok (.ireturn, 1) := by decide +kernel
theorem dJ0_charAt_5068e_16 : decode cJ0_charAt_5068e 16 = .ok (.aload_n 0, 1) := by decide +kernel
theorem dJ0_charAt_5068e_17 : decode cJ0_charAt_5068e 17 = .ok (.getfield 9, 3) := by decide +kernel
theorem dJ0_charAt_5068e_20 : decode cJ0_charAt_5068e 20 = .ok (.iload_n 1, 1) := by decide +kernel
theorem dJ0_charAt_5068e_21 : decode cJ0_charAt_5068e 21 = .ok (.invokestatic 498, 3) := by decide +kernel
theorem dJ0_charAt_5068e_24 : decode cJ0_charAt_5068e 24 = .ok (.ireturn, 1) := by decide +kernel
set_option maxRecDepth 20000 in
theorem gX10_init_J0_length_8abf5 : GoodIn wsX10_init (wsV RX10 21 RJ0 yJ0_length_8abf5 wsJ0_length_8abf5) := goodIn_r _ [8, 9, 10, 11, 12, 13, 14, 15, 16, 11, 17, 18, 19] rfl (by decide +kernel)
set_option maxRecDepth 20000 in
theorem gX10_init_J0_charAt_5068e : GoodIn wsX10_init (wsV RX10 27 RJ0 yJ0_charAt_5068e wsJ0_charAt_5068e) := goodIn_r _ [20, 21, 22, 11, 23, 13, 24, 25, 26, 11, 27, 18, 19, 28, 29, 30, 31, 32, 33, 34, 35, 36, 37, 38, 39, 40, 41, 42, 43, 44, 45, 46, 47, 48, 49, 50, 51, 52, 53, 54, 55, 56] rfl (by decide +kernel)
theorem dX10_init_0 : decode cX10_init 0 = .ok (.aload_n 0, 1) := by decide +kernel
theorem dX10_init_1 : decode cX10_init 1 = .ok (.invokespecial 3, 3) := by decide +kernel
theorem dX10_init_4 : decode cX10_init 4 = .ok (.aload_n 0, 1) := by decide +kernel
theorem dX10_init_5 : decode cX10_init 5 = .ok (.sipush 1000, 3) := by decide +kernel
theorem dX10_init_8 : decode cX10_init 8 = .ok (.newarray .byte, 2) := by decide +kernel
theorem dX10_init_10 : decode cX10_init 10 = .ok (.putfield 9, 3) := by decide +kernel
theorem dX10_init_13 : decode cX10_init 13 = .ok (.aload_n 0, 1) := by decide +kernel
theorem dX10_init_14 : decode cX10_init 14 = .ok (.bipush 32, 2) := by decide +kernel
theorem dX10_init_16 : decode cX10_init 16 = .ok (.newarray .long, 2) := by decide +kernel
theorem dX10_init_18 : decode cX10_init 18 = .ok (.putfield 15, 3) := by decide +kernel
theorem dX10_init_21 : decode cX10_init 21 = .ok (.iconst 0, 1) := by decide +kernel
theorem dX10_init_22 : decode cX10_init 22 = .ok (.istore_n 1, 1) := by decide +kernel
theorem dX10_init_23 : decode cX10_init 23 = .ok (.lconst 0, 1) := by decide +kernel
theorem dX10_init_24 : decode cX10_init 24 = .ok (.lstore_n 2, 1) := by decide +kernel
theorem dX10_init_25 : decode cX10_init 25 = .ok (.iconst 0, 1) := by decide +kernel
theorem dX10_init_26 : decode cX10_init 26 = .ok (.istore 4, 2) := by decide +kernel
theorem dX10_init_28 : decode cX10_init 28 = .ok (.iload 4, 2) := by decide +kernel
theorem dX10_init_30 : decode cX10_init 30 = .ok (.ldc 19, 2) := by decide +kernel
theorem dX10_init_32 : decode cX10_init 32 = .ok (.invokevirtual 21, 3) := by decide +kernel
theorem dX10_init_35 : decode cX10_init 35 = .ok (.if_icmp .ge 55, 3) := by decide +kernel
theorem dX10_init_38 : decode cX10_init 38 = .ok (.iload_n 1, 1) := by decide +kernel
theorem dX10_init_39 : decode cX10_init 39 = .ok (.bipush 32, 2) := by decide +kernel
theorem dX10_init_41 : decode cX10_init 41 = .ok (.if_icmp .ge 49, 3) := by decide +kernel
theorem dX10_init_44 : decode cX10_init 44 = .ok (.ldc 19, 2) := by decide +kernel
theorem dX10_init_46 : decode cX10_init 46 = .ok (.iload 4, 2) := by decide +kernel
theorem dX10_init_48 : decode cX10_init 48 = .ok (.invokevirtual 27, 3) := by decide +kernel
theorem dX10_init_51 : decode cX10_init 51 = .ok (.istore 5, 2) := by decide +kernel
theorem dX10_init_53 : decode cX10_init 53 = .ok (.iload 5, 2) := by decide +kernel
theorem dX10_init_55 : decode cX10_init 55 = .ok (.bipush 32, 2) := by decide +kernel
theorem dX10_init_57 : decode cX10_init 57 = .ok (.if_icmp .ne 18, 3) := by decide +kernel
theorem dX10_init_60 : decode cX10_init 60 = .ok (.aload_n 0, 1) := by decide +kernel
theorem dX10_init_61 : decode cX10_init 61 = .ok (.getfield 15, 3) := by decide +kernel
theorem dX10_init_64 : decode cX10_init 64 = .ok (.iload_n 1, 1) := by decide +kernel
theorem dX10_init_65 : decode cX10_init 65 = .ok (.lload_n 2, 1) := by decide +kernel
theorem dX10_init_66 : decode cX10_init 66 = .ok (.lastore, 1) := by decide +kernel
theorem dX10_init_67 : decode cX10_init 67 = .ok (.iinc 1 1, 3) := by decide +kernel
theorem dX10_init_70 : decode cX10_init 70 = .ok (.lconst 0, 1) := by decide +kernel
theorem dX10_init_71 : decode cX10_init 71 = .ok (.lstore_n 2, 1) := by decide +kernel
theorem dX10_init_72 : decode cX10_init 72 = .ok (.goto 12, 3) := by decide +kernel
theorem dX10_init_75 : decode cX10_init 75 = .ok (.lload_n 2, 1) := by decide +kernel
theorem dX10_init_76 : decode cX10_init 76 = .ok (.bipush 8, 2) := by decide +kernel
theorem dX10_init_78 : decode cX10_init 78 = .ok (.lshl, 1) := by decide +kernel
theorem dX10_init_79 : decode cX10_init 79 = .ok (.iload 5, 2) := by decide +kernel
theorem dX10_init_81 : decode cX10_init 81 = .ok (.i2l, 1) := by decide +kernel
theorem dX10_init_82 : decode cX10_init 82 = .ok (.lor, 1) := by decide +kernel
theorem dX10_init_83 : decode cX10_init 83 = .ok (.lstore_n 2, 1) := by decide +kernel
theorem dX10_init_84 : decode cX10_init 84 = .ok (.iinc 4 1, 3) := by decide +kernel
theorem dX10_init_87 : decode cX10_init 87 = .ok (.goto (-59), 3) := by decide +kernel
theorem dX10_init_90 : decode cX10_init 90 = .ok (.return_, 1) := by decide +kernel
section
variable {p : Program} {l : Launch} {e : Env} {s : State} {m : MethodId} {args : Array Value} {below : List Frame} {meth : Method} {c : Code} {D : va_G} {cy : Nat → ClassId} {ad : Nat → Nat} {A : Nat → Prop} {aM aB aO aI aN aT aC aG aR aQ aK aL aX aH aJ aP aU aE0 aE1 aE2 aE3 : Nat → Nat} {gi : Value}
abbrev rm10_init : Room := { frames := 4, cells := 2, slots := 1032, locals := 85 }
theorem hin10_init_10 : ∀ x ∈ u_ws RX10 TX10 8, x ∈ wsX10_init := fun _ h => List.mem_cons_of_mem _ (List.mem_append_right _ h)
abbrev rmzj3_checkIndex : Room := { frames := 0, cells := 0, slots := 0, locals := 0 }
theorem hdSzj3_checkIndex : (yJ3_checkIndex_8e157.cls ≠ "java/lang/invoke/MethodHandle" ∧ yJ3_checkIndex_8e157.cls ≠ "java/lang/invoke/VarHandle" ∧ (parseMethodDescriptor yJ3_checkIndex_8e157.desc).map (fun d => d.parameters.length) = some 3) := by decide +kernel
set_option maxRecDepth 100000 in
set_option maxHeartbeats 4000000 in
theorem tzj3_checkIndex_9 (hC : Cx p s m args meth c cJ3_checkIndex_8e157 3 wsJ3_checkIndex_8e157 RJ3 (some .int)) : ∀ (res : Int32) (H : Heap) (locs : List Loc) (ls : Array Slot), fzj3_checkIndex_9 = some res → GW D cy ad (([] : va_W)) A s H locs → lv_has ls 3 [(2, .null)] → W p l e rmzj3_checkIndex s m args below meth c H locs 0 0 (MQ below (QI D cy (([] : va_W)) A res) args s 0 0 A) (F0 m 9 ls []) := by
  intro res H locs ls hf hW hl
  unfold fzj3_checkIndex_9 at hf
  exact nomatch hf
set_option maxRecDepth 100000 in
set_option maxHeartbeats 4000000 in
theorem tzj3_checkIndex_0 (hC : Cx p s m args meth c cJ3_checkIndex_8e157 3 wsJ3_checkIndex_8e157 RJ3 (some .int)) : ∀ (x0 : Int32) (x1 : Int32) (res : Int32) (H : Heap) (locs : List Loc) (ls : Array Slot), fzj3_checkIndex x0 x1 = some res → GW D cy ad (([] : va_W)) A s H locs → lv_has ls 3 [(0, .int x0), (1, .int x1), (2, .null)] → W p l e rmzj3_checkIndex s m args below meth c H locs 0 0 (MQ below (QI D cy (([] : va_W)) A res) args s 0 0 A) (F0 m 0 ls []) := by
  intro x0 x1 res H locs ls hf hW hl
  unfold fzj3_checkIndex at hf
  refine lv_iload_n hC.1 hC.2.1 dJ3_checkIndex_8e157_0 rfl (lv_at hl 0 rfl) ?_
  refine lv_if_lt (tgt := 9) hC.1 hC.2.1 dJ3_checkIndex_8e157_1 (by decide) (fun hc_1 => ?_) (fun hc_1 => ?_)
  · have hf := ite_t hf hc_1
    exact tzj3_checkIndex_9 hC  _ _ _ _ hf hW (lv_sub hl [2] rfl)
  · have hf := ite_f hf hc_1
    refine lv_iload_n hC.1 hC.2.1 dJ3_checkIndex_8e157_4 rfl (lv_at hl 0 rfl) ?_
    refine lv_iload_n hC.1 hC.2.1 dJ3_checkIndex_8e157_5 rfl (lv_at hl 1 rfl) ?_
    refine lv_icmp_lt (tgt := 16) hC.1 hC.2.1 dJ3_checkIndex_8e157_6 (by decide) (fun hc_2 => ?_) (fun hc_2 => ?_)
    · have hf := ite_t hf hc_2
      refine lv_iload_n hC.1 hC.2.1 dJ3_checkIndex_8e157_16 rfl (lv_at hl 0 rfl) ?_
      obtain rfl := Option.some.inj hf
      exact g_iret hC hW dJ3_checkIndex_8e157_17
    · have hf := ite_f hf hc_2
      exact tzj3_checkIndex_9 hC  _ _ _ _ hf hW (lv_sub hl [2] rfl)
set_option maxRecDepth 100000 in
set_option maxHeartbeats 4000000 in
theorem czj3_checkIndex (l : Launch) (D : va_G) (cy : Nat → ClassId) (ad : Nat → Nat) {x0 : Int32} {x1 : Int32} {res : Int32} (h : fzj3_checkIndex x0 x1 = some res) : GCi l yJ3_checkIndex_8e157 wsJ3_checkIndex_8e157 rmzj3_checkIndex [.int x0, .int x1, .null] D cy ad (([] : va_W)) (([] : va_W)) res := fun sz => GC.start (own := RJ3) (Qc := fun A => QI D cy (([] : va_W)) A res) sz (by decide) rfl rfl (Nat.le_of_ble_eq_true rfl) (fun p e s m below meth c A ls hC hW hl => tzj3_checkIndex_0 hC _ _ _ _ _ _ h hW (lv_sub hl [0, 1, 2] rfl))
variable {t0 : Nat}
abbrev rmyj3_checkIndex : Room := { frames := 0, cells := 0, slots := 0, locals := 0 }
theorem hdSyj3_checkIndex : (yJ3_checkIndex_8e157.cls ≠ "java/lang/invoke/MethodHandle" ∧ yJ3_checkIndex_8e157.cls ≠ "java/lang/invoke/VarHandle" ∧ (parseMethodDescriptor yJ3_checkIndex_8e157.desc).map (fun d => d.parameters.length) = some 3) := by decide +kernel
set_option maxRecDepth 100000 in
set_option maxHeartbeats 4000000 in
theorem tyj3_checkIndex_9 (hC : Cx p s m args meth c cJ3_checkIndex_8e157 3 wsJ3_checkIndex_8e157 RJ3 (some .int)) : ∀ (res : Int32) (H : Heap) (locs : List Loc) (ls : Array Slot), fyj3_checkIndex_9 = some res → GW D cy ad (([] : va_W)) A s H locs → lv_has ls 3 [(2, .ref t0)] → W p l e rmyj3_checkIndex s m args below meth c H locs 0 0 (MQ below (QI D cy (([] : va_W)) A res) args s 0 0 A) (F0 m 9 ls []) := by
  intro res H locs ls hf hW hl
  unfold fyj3_checkIndex_9 at hf
  exact nomatch hf
set_option maxRecDepth 100000 in
set_option maxHeartbeats 4000000 in
theorem tyj3_checkIndex_0 (hC : Cx p s m args meth c cJ3_checkIndex_8e157 3 wsJ3_checkIndex_8e157 RJ3 (some .int)) : ∀ (x0 : Int32) (x1 : Int32) (res : Int32) (H : Heap) (locs : List Loc) (ls : Array Slot), fyj3_checkIndex x0 x1 = some res → GW D cy ad (([] : va_W)) A s H locs → lv_has ls 3 [(0, .int x0), (1, .int x1), (2, .ref t0)] → W p l e rmyj3_checkIndex s m args below meth c H locs 0 0 (MQ below (QI D cy (([] : va_W)) A res) args s 0 0 A) (F0 m 0 ls []) := by
  intro x0 x1 res H locs ls hf hW hl
  unfold fyj3_checkIndex at hf
  refine lv_iload_n hC.1 hC.2.1 dJ3_checkIndex_8e157_0 rfl (lv_at hl 0 rfl) ?_
  refine lv_if_lt (tgt := 9) hC.1 hC.2.1 dJ3_checkIndex_8e157_1 (by decide) (fun hc_1 => ?_) (fun hc_1 => ?_)
  · have hf := ite_t hf hc_1
    exact tyj3_checkIndex_9 hC  _ _ _ _ hf hW (lv_sub hl [2] rfl)
  · have hf := ite_f hf hc_1
    refine lv_iload_n hC.1 hC.2.1 dJ3_checkIndex_8e157_4 rfl (lv_at hl 0 rfl) ?_
    refine lv_iload_n hC.1 hC.2.1 dJ3_checkIndex_8e157_5 rfl (lv_at hl 1 rfl) ?_
    refine lv_icmp_lt (tgt := 16) hC.1 hC.2.1 dJ3_checkIndex_8e157_6 (by decide) (fun hc_2 => ?_) (fun hc_2 => ?_)
    · have hf := ite_t hf hc_2
      refine lv_iload_n hC.1 hC.2.1 dJ3_checkIndex_8e157_16 rfl (lv_at hl 0 rfl) ?_
      obtain rfl := Option.some.inj hf
      exact g_iret hC hW dJ3_checkIndex_8e157_17
    · have hf := ite_f hf hc_2
      exact tyj3_checkIndex_9 hC  _ _ _ _ hf hW (lv_sub hl [2] rfl)
set_option maxRecDepth 100000 in
set_option maxHeartbeats 4000000 in
theorem cyj3_checkIndex (l : Launch) (D : va_G) (cy : Nat → ClassId) (ad : Nat → Nat) (t0 : Nat) {x0 : Int32} {x1 : Int32} {res : Int32} (h : fyj3_checkIndex x0 x1 = some res) : GCi l yJ3_checkIndex_8e157 wsJ3_checkIndex_8e157 rmyj3_checkIndex [.int x0, .int x1, .ref t0] D cy ad (([] : va_W)) (([] : va_W)) res := fun sz => GC.start (own := RJ3) (Qc := fun A => QI D cy (([] : va_W)) A res) sz (by decide) rfl rfl (Nat.le_of_ble_eq_true rfl) (fun p e s m below meth c A ls hC hW hl => tyj3_checkIndex_0 hC _ _ _ _ _ _ h hW (lv_sub hl [0, 1, 2] rfl))
abbrev rmzj0_checkIndex_df160 : Room := { frames := 1, cells := 0, slots := 0, locals := 22 }
theorem hdSzj0_checkIndex_df160 : (yJ0_checkIndex_df160.cls ≠ "java/lang/invoke/MethodHandle" ∧ yJ0_checkIndex_df160.cls ≠ "java/lang/invoke/VarHandle" ∧ (parseMethodDescriptor yJ0_checkIndex_df160.desc).map (fun d => d.parameters.length) = some 2) := by decide +kernel
set_option maxRecDepth 100000 in
set_option maxHeartbeats 4000000 in
theorem tzj0_checkIndex_df160_0 (hC : Cx p s m args meth c cJ0_checkIndex_df160 2 wsJ0_checkIndex_df160 RJ0 none) : ∀ (x0 : Int32) (x1 : Int32) (res : Unit) (H : Heap) (locs : List Loc) (ls : Array Slot), fzj0_checkIndex_df160 x0 x1 = some res → GW D cy ad (([] : va_W)) A s H locs → lv_has ls 2 [(0, .int x0), (1, .int x1)] → W p l e rmzj0_checkIndex_df160 s m args below meth c H locs 0 0 (MQ below (QV D cy (([] : va_W)) A) args s 0 0 A) (F0 m 0 ls []) := by
  intro x0 x1 res H locs ls hf hW hl
  unfold fzj0_checkIndex_df160 at hf
  refine lv_iload_n hC.1 hC.2.1 dJ0_checkIndex_df160_0 rfl (lv_at hl 0 rfl) ?_
  refine lv_iload_n hC.1 hC.2.1 dJ0_checkIndex_df160_1 rfl (lv_at hl 1 rfl) ?_
  refine g_gso hC hW 1 rfl dJ0_checkIndex_df160_2 ?_ (fun t0 => ?_)
  · skip
    obtain ⟨r_1, hg_2, hf⟩ := bd_of hf
    refine g_calliS (w' := ([] : va_W)) hC hW (czj3_checkIndex l D cy ad  hg_2) (va_cwS 3 hC.2.2.2.2.1 gJ0_checkIndex_df160_J3_checkIndex_8e157 rfl rfl rfl hdSzj3_checkIndex ⟨Nat.le_of_ble_eq_true rfl, Nat.le_of_ble_eq_true rfl⟩) (Sub.all _ _) rfl hl.1 rfl (Nat.le_of_ble_eq_true rfl) dJ0_checkIndex_df160_5 ⟨Nat.zero_le _, Nat.zero_le _⟩ (fun H locs hW => ?_)
    refine lv_pop hC.1 hC.2.1 dJ0_checkIndex_df160_8 rfl ?_
    obtain rfl := Option.some.inj hf
    exact g_vret hC hW dJ0_checkIndex_df160_9
  · skip
    obtain ⟨r_1, hg_2, hf⟩ := bd_of hf
    refine g_calliS (w' := ([] : va_W)) hC hW (cyj3_checkIndex l D cy ad t0 (show fyj3_checkIndex x0 x1 = some _ from hg_2)) (va_cwS 3 hC.2.2.2.2.1 gJ0_checkIndex_df160_J3_checkIndex_8e157 rfl rfl rfl hdSzj3_checkIndex ⟨Nat.le_of_ble_eq_true rfl, Nat.le_of_ble_eq_true rfl⟩) (Sub.all _ _) rfl hl.1 rfl (Nat.le_of_ble_eq_true rfl) dJ0_checkIndex_df160_5 ⟨Nat.zero_le _, Nat.zero_le _⟩ (fun H locs hW => ?_)
    refine lv_pop hC.1 hC.2.1 dJ0_checkIndex_df160_8 rfl ?_
    obtain rfl := Option.some.inj hf
    exact g_vret hC hW dJ0_checkIndex_df160_9
set_option maxRecDepth 100000 in
set_option maxHeartbeats 4000000 in
theorem czj0_checkIndex_df160 (l : Launch) (D : va_G) (cy : Nat → ClassId) (ad : Nat → Nat) {x0 : Int32} {x1 : Int32} {res : Unit} (h : fzj0_checkIndex_df160 x0 x1 = some res) : GCv l yJ0_checkIndex_df160 wsJ0_checkIndex_df160 rmzj0_checkIndex_df160 [.int x0, .int x1] D cy ad (([] : va_W)) (([] : va_W)) := fun sz => GC.start (own := RJ0) (Qc := fun A => QV D cy (([] : va_W)) A) sz (by decide) rfl rfl (Nat.le_of_ble_eq_true rfl) (fun p e s m below meth c A ls hC hW hl => tzj0_checkIndex_df160_0 hC _ _ _ _ _ _ h hW (lv_sub hl [0, 1] rfl))
abbrev rmzj1_charAt_3b067 : Room := { frames := 2, cells := 0, slots := 0, locals := 43 }
theorem hdSzj1_charAt_3b067 : (yJ1_charAt_3b067.cls ≠ "java/lang/invoke/MethodHandle" ∧ yJ1_charAt_3b067.cls ≠ "java/lang/invoke/VarHandle" ∧ (parseMethodDescriptor yJ1_charAt_3b067.desc).map (fun d => d.parameters.length) = some 2) := by decide +kernel
set_option maxRecDepth 100000 in
set_option maxHeartbeats 4000000 in
theorem tzj1_charAt_3b067_0 (hC : Cx p s m args meth c cJ1_charAt_3b067 2 wsJ1_charAt_3b067 RJ1 (some .char)) : ∀ (x1 : Int32) (res : Int32) (H : Heap) (locs : List Loc) (ls : Array Slot), fzj1_charAt_3b067 x1 = some res → GW D cy ad (([] : va_W)) A s H locs → lv_has ls 2 [(0, .ref (ad (2 * 0 + 1))), (1, .int x1)] → W p l e rmzj1_charAt_3b067 s m args below meth c H locs 0 0 (MQ below (QI D cy (([] : va_W)) A res) args s 0 0 A) (F0 m 0 ls []) := by
  intro x1 res H locs ls hf hW hl
  unfold fzj1_charAt_3b067 at hf
  refine lv_iload_n hC.1 hC.2.1 dJ1_charAt_3b067_0 rfl (lv_at hl 1 rfl) ?_
  refine lv_aload_n hC.1 hC.2.1 dJ1_charAt_3b067_1 rfl (lv_at hl 0 rfl) ?_
  refine g_slen hC hW 0 (by decide) (v := 166) (by decide) dJ1_charAt_3b067_2 ?_
  obtain ⟨r_1, hg_2, hf⟩ := bd_of hf
  refine g_callvS (w' := ([] : va_W)) hC hW (czj0_checkIndex_df160 l D cy ad  hg_2) (va_cwS 2 hC.2.2.2.2.1 gJ1_charAt_3b067_J0_checkIndex_df160 rfl rfl rfl hdSzj0_checkIndex_df160 ⟨Nat.le_of_ble_eq_true rfl, Nat.le_of_ble_eq_true rfl⟩) (Sub.all _ _) rfl hl.1 rfl (Nat.le_of_ble_eq_true rfl) dJ1_charAt_3b067_3 ⟨Nat.zero_le _, Nat.zero_le _⟩ (fun H locs hW => ?_)
  refine lv_aload_n hC.1 hC.2.1 dJ1_charAt_3b067_6 rfl (lv_at hl 0 rfl) ?_
  refine lv_iload_n hC.1 hC.2.1 dJ1_charAt_3b067_7 rfl (lv_at hl 1 rfl) ?_
  obtain ⟨hi_3, hf⟩ := ck_of hf
  refine g_sbal hC hW 0 (by decide) (n := 166) rfl hi_3 dJ1_charAt_3b067_8 ?_
  refine lv_sipush (v := 255) hC.1 hC.2.1 dJ1_charAt_3b067_9 (by decide) ?_
  refine lv_iand hC.1 hC.2.1 dJ1_charAt_3b067_12 ?_
  refine lv_i2c (v := ((Int32.toUInt32 (((sBy.getD 0 []).getD (Int32.toNatClampNeg x1) 0) &&& 255)) % 65536).toInt32) hC.1 hC.2.1 dJ1_charAt_3b067_13 rfl ?_
  obtain ⟨hz, hf⟩ := ck_of hf
  obtain rfl := Option.some.inj hf
  exact g_zretC hC hW (isc_of hz) dJ1_charAt_3b067_14
set_option maxRecDepth 100000 in
set_option maxHeartbeats 4000000 in
theorem czj1_charAt_3b067 (l : Launch) (D : va_G) (cy : Nat → ClassId) (ad : Nat → Nat) {x1 : Int32} {res : Int32} (h : fzj1_charAt_3b067 x1 = some res) : GCi l yJ1_charAt_3b067 wsJ1_charAt_3b067 rmzj1_charAt_3b067 [.ref (ad (2 * 0 + 1)), .int x1] D cy ad (([] : va_W)) (([] : va_W)) res := fun sz => GC.start (own := RJ1) (Qc := fun A => QI D cy (([] : va_W)) A res) sz (by decide) rfl rfl (Nat.le_of_ble_eq_true rfl) (fun p e s m below meth c A ls hC hW hl => tzj1_charAt_3b067_0 hC _ _ _ _ _ h hW (lv_sub hl [0, 1] rfl))
abbrev rmzj0_isLatin1_aae02 : Room := { frames := 0, cells := 0, slots := 0, locals := 0 }
theorem hdVzj0_isLatin1_aae02 : yJ0_isLatin1_aae02.cls = RJ0 ∧ (yJ0_isLatin1_aae02.cls ≠ "java/lang/invoke/MethodHandle" ∧ yJ0_isLatin1_aae02.cls ≠ "java/lang/invoke/VarHandle" ∧ (parseMethodDescriptor yJ0_isLatin1_aae02.desc).map (fun d => d.parameters.length) = some 0) := by decide +kernel
set_option maxRecDepth 100000 in
set_option maxHeartbeats 4000000 in
theorem tzj0_isLatin1_aae02_18 (hC : Cx p s m args meth c cJ0_isLatin1_aae02 1 wsJ0_isLatin1_aae02 RJ0 (some .boolean)) : ∀ (z0 : Int32) (res : Int32) (H : Heap) (locs : List Loc) (ls : Array Slot), fzj0_isLatin1_aae02_18 z0 = some res → GW D cy ad (([] : va_W)) A s H locs → lv_has ls 1 [] → W p l e rmzj0_isLatin1_aae02 s m args below meth c H locs 0 0 (MQ below (QI D cy (([] : va_W)) A res) args s 0 0 A) (F0 m 18 ls [.int z0]) := by
  intro z0 res H locs ls hf hW hl
  unfold fzj0_isLatin1_aae02_18 at hf
  obtain ⟨hz, hf⟩ := ck_of hf
  obtain rfl := Option.some.inj hf
  exact g_zret hC hW hz dJ0_isLatin1_aae02_18
set_option maxRecDepth 100000 in
set_option maxHeartbeats 4000000 in
theorem tzj0_isLatin1_aae02_17 (hC : Cx p s m args meth c cJ0_isLatin1_aae02 1 wsJ0_isLatin1_aae02 RJ0 (some .boolean)) : ∀ (res : Int32) (H : Heap) (locs : List Loc) (ls : Array Slot), fzj0_isLatin1_aae02_17 = some res → GW D cy ad (([] : va_W)) A s H locs → lv_has ls 1 [] → W p l e rmzj0_isLatin1_aae02 s m args below meth c H locs 0 0 (MQ below (QI D cy (([] : va_W)) A res) args s 0 0 A) (F0 m 17 ls []) := by
  intro res H locs ls hf hW hl
  unfold fzj0_isLatin1_aae02_17 at hf
  refine lv_iconst (v := 0) hC.1 hC.2.1 dJ0_isLatin1_aae02_17 (by decide) ?_
  exact tzj0_isLatin1_aae02_18 hC  _ _ _ _ _ hf hW (lv_sub hl [] rfl)
set_option maxRecDepth 100000 in
set_option maxHeartbeats 4000000 in
theorem tzj0_isLatin1_aae02_0 (hC : Cx p s m args meth c cJ0_isLatin1_aae02 1 wsJ0_isLatin1_aae02 RJ0 (some .boolean)) : ∀ (res : Int32) (H : Heap) (locs : List Loc) (ls : Array Slot), fzj0_isLatin1_aae02 = some res → GW D cy ad (([] : va_W)) A s H locs → lv_has ls 1 [(0, .ref (ad (2 * 0)))] → W p l e rmzj0_isLatin1_aae02 s m args below meth c H locs 0 0 (MQ below (QI D cy (([] : va_W)) A res) args s 0 0 A) (F0 m 0 ls []) := by
  intro res H locs ls hf hW hl
  unfold fzj0_isLatin1_aae02 at hf
  refine g_sget hC hW 1 rfl dJ0_isLatin1_aae02_0 ?_
  refine lv_if_eq (tgt := 17) hC.1 hC.2.1 dJ0_isLatin1_aae02_3 (by decide) (fun hc_1 => ?_) (fun hc_1 => ?_)
  · have hf := ite_t hf hc_1
    exact tzj0_isLatin1_aae02_17 hC  _ _ _ _ hf hW (lv_sub hl [] rfl)
  · have hf := ite_f hf hc_1
    refine lv_aload_n hC.1 hC.2.1 dJ0_isLatin1_aae02_6 rfl (lv_at hl 0 rfl) ?_
    refine g_scod hC hW 0 (by decide) 2 rfl dJ0_isLatin1_aae02_7 ?_
    refine lv_if_ne (tgt := 17) hC.1 hC.2.1 dJ0_isLatin1_aae02_10 (by decide) (fun hc_2 => ?_) (fun hc_2 => ?_)
    · have hf := ite_f hf hc_2
      exact tzj0_isLatin1_aae02_17 hC  _ _ _ _ hf hW (lv_sub hl [] rfl)
    · have hf := ite_t hf hc_2
      refine lv_iconst (v := 1) hC.1 hC.2.1 dJ0_isLatin1_aae02_13 (by decide) ?_
      refine lv_goto (tgt := 18) hC.1 hC.2.1 dJ0_isLatin1_aae02_14 (by decide) ?_
      exact tzj0_isLatin1_aae02_18 hC  _ _ _ _ _ hf hW (lv_sub hl [] rfl)
set_option maxRecDepth 100000 in
set_option maxHeartbeats 4000000 in
theorem czj0_isLatin1_aae02 (l : Launch) (D : va_G) (cy : Nat → ClassId) (ad : Nat → Nat) {res : Int32} (h : fzj0_isLatin1_aae02 = some res) : GCi l yJ0_isLatin1_aae02 wsJ0_isLatin1_aae02 rmzj0_isLatin1_aae02 [.ref (ad (2 * 0))] D cy ad (([] : va_W)) (([] : va_W)) res := fun sz => GC.start (own := RJ0) (Qc := fun A => QI D cy (([] : va_W)) A res) sz (by decide) rfl rfl (Nat.le_of_ble_eq_true rfl) (fun p e s m below meth c A ls hC hW hl => tzj0_isLatin1_aae02_0 hC _ _ _ _ h hW (lv_sub hl [0] rfl))
abbrev rmzj0_coder_7d493 : Room := { frames := 0, cells := 0, slots := 0, locals := 0 }
theorem hdVzj0_coder_7d493 : yJ0_coder_7d493.cls = RJ0 ∧ (yJ0_coder_7d493.cls ≠ "java/lang/invoke/MethodHandle" ∧ yJ0_coder_7d493.cls ≠ "java/lang/invoke/VarHandle" ∧ (parseMethodDescriptor yJ0_coder_7d493.desc).map (fun d => d.parameters.length) = some 0) := by decide +kernel
set_option maxRecDepth 100000 in
set_option maxHeartbeats 4000000 in
theorem tzj0_coder_7d493_14 (hC : Cx p s m args meth c cJ0_coder_7d493 1 wsJ0_coder_7d493 RJ0 (some .byte)) : ∀ (z0 : Int32) (res : Int32) (H : Heap) (locs : List Loc) (ls : Array Slot), fzj0_coder_7d493_14 z0 = some res → GW D cy ad (([] : va_W)) A s H locs → lv_has ls 1 [] → W p l e rmzj0_coder_7d493 s m args below meth c H locs 0 0 (MQ below (QI D cy (([] : va_W)) A res) args s 0 0 A) (F0 m 14 ls [.int z0]) := by
  intro z0 res H locs ls hf hW hl
  unfold fzj0_coder_7d493_14 at hf
  obtain ⟨hz, hf⟩ := ck_of hf
  obtain rfl := Option.some.inj hf
  exact g_zretB hC hW (isb_of hz) dJ0_coder_7d493_14
set_option maxRecDepth 100000 in
set_option maxHeartbeats 4000000 in
theorem tzj0_coder_7d493_0 (hC : Cx p s m args meth c cJ0_coder_7d493 1 wsJ0_coder_7d493 RJ0 (some .byte)) : ∀ (res : Int32) (H : Heap) (locs : List Loc) (ls : Array Slot), fzj0_coder_7d493 = some res → GW D cy ad (([] : va_W)) A s H locs → lv_has ls 1 [(0, .ref (ad (2 * 0)))] → W p l e rmzj0_coder_7d493 s m args below meth c H locs 0 0 (MQ below (QI D cy (([] : va_W)) A res) args s 0 0 A) (F0 m 0 ls []) := by
  intro res H locs ls hf hW hl
  unfold fzj0_coder_7d493 at hf
  refine g_sget hC hW 1 rfl dJ0_coder_7d493_0 ?_
  refine lv_if_eq (tgt := 13) hC.1 hC.2.1 dJ0_coder_7d493_3 (by decide) (fun hc_1 => ?_) (fun hc_1 => ?_)
  · have hf := ite_t hf hc_1
    refine lv_iconst (v := 1) hC.1 hC.2.1 dJ0_coder_7d493_13 (by decide) ?_
    exact tzj0_coder_7d493_14 hC  _ _ _ _ _ hf hW (lv_sub hl [] rfl)
  · have hf := ite_f hf hc_1
    refine lv_aload_n hC.1 hC.2.1 dJ0_coder_7d493_6 rfl (lv_at hl 0 rfl) ?_
    refine g_scod hC hW 0 (by decide) 2 rfl dJ0_coder_7d493_7 ?_
    refine lv_goto (tgt := 14) hC.1 hC.2.1 dJ0_coder_7d493_10 (by decide) ?_
    exact tzj0_coder_7d493_14 hC  _ _ _ _ _ hf hW (lv_sub hl [] rfl)
set_option maxRecDepth 100000 in
set_option maxHeartbeats 4000000 in
theorem czj0_coder_7d493 (l : Launch) (D : va_G) (cy : Nat → ClassId) (ad : Nat → Nat) {res : Int32} (h : fzj0_coder_7d493 = some res) : GCi l yJ0_coder_7d493 wsJ0_coder_7d493 rmzj0_coder_7d493 [.ref (ad (2 * 0))] D cy ad (([] : va_W)) (([] : va_W)) res := fun sz => GC.start (own := RJ0) (Qc := fun A => QI D cy (([] : va_W)) A res) sz (by decide) rfl rfl (Nat.le_of_ble_eq_true rfl) (fun p e s m below meth c A ls hC hW hl => tzj0_coder_7d493_0 hC _ _ _ _ h hW (lv_sub hl [0] rfl))
abbrev rmzj0_length_8abf5 : Room := { frames := 1, cells := 0, slots := 0, locals := 20 }
theorem hdVzj0_length_8abf5 : yJ0_length_8abf5.cls = RJ0 ∧ (yJ0_length_8abf5.cls ≠ "java/lang/invoke/MethodHandle" ∧ yJ0_length_8abf5.cls ≠ "java/lang/invoke/VarHandle" ∧ (parseMethodDescriptor yJ0_length_8abf5.desc).map (fun d => d.parameters.length) = some 0) := by decide +kernel
set_option maxRecDepth 100000 in
set_option maxHeartbeats 4000000 in
theorem tzj0_length_8abf5_0 (hC : Cx p s m args meth c cJ0_length_8abf5 1 wsJ0_length_8abf5 RJ0 (some .int)) : ∀ (res : Int32) (H : Heap) (locs : List Loc) (ls : Array Slot), fzj0_length_8abf5 = some res → GW D cy ad (([] : va_W)) A s H locs → lv_has ls 1 [(0, .ref (ad (2 * 0)))] → W p l e rmzj0_length_8abf5 s m args below meth c H locs 0 0 (MQ below (QI D cy (([] : va_W)) A res) args s 0 0 A) (F0 m 0 ls []) := by
  intro res H locs ls hf hW hl
  unfold fzj0_length_8abf5 at hf
  refine lv_aload_n hC.1 hC.2.1 dJ0_length_8abf5_0 rfl (lv_at hl 0 rfl) ?_
  refine g_sval hC hW 0 (by decide) 1 rfl dJ0_length_8abf5_1 ?_
  refine g_slen hC hW 0 (by decide) (v := 166) (by decide) dJ0_length_8abf5_4 ?_
  refine lv_aload_n hC.1 hC.2.1 dJ0_length_8abf5_5 rfl (lv_at hl 0 rfl) ?_
  obtain ⟨r_1, hg_2, hf⟩ := bd_of hf
  refine g_calliVs hC hW 0 (by decide) (czj0_coder_7d493 l D cy ad  hg_2) (cwV 0 hC.2.2.2.2.1 gJ0_length_8abf5_J0_coder_7d493 rfl rfl rfl hdVzj0_coder_7d493 ⟨Nat.le_of_ble_eq_true rfl, Nat.le_of_ble_eq_true rfl⟩) rfl hl.1 rfl (Nat.le_of_ble_eq_true rfl) dJ0_length_8abf5_6 ⟨Nat.zero_le _, Nat.zero_le _⟩ (fun H locs hW => ?_)
  refine lv_ishr hC.1 hC.2.1 dJ0_length_8abf5_9 ?_
  obtain rfl := Option.some.inj hf
  exact g_iret hC hW dJ0_length_8abf5_10
set_option maxRecDepth 100000 in
set_option maxHeartbeats 4000000 in
theorem czj0_length_8abf5 (l : Launch) (D : va_G) (cy : Nat → ClassId) (ad : Nat → Nat) {res : Int32} (h : fzj0_length_8abf5 = some res) : GCi l yJ0_length_8abf5 wsJ0_length_8abf5 rmzj0_length_8abf5 [.ref (ad (2 * 0))] D cy ad (([] : va_W)) (([] : va_W)) res := fun sz => GC.start (own := RJ0) (Qc := fun A => QI D cy (([] : va_W)) A res) sz (by decide) rfl rfl (Nat.le_of_ble_eq_true rfl) (fun p e s m below meth c A ls hC hW hl => tzj0_length_8abf5_0 hC _ _ _ _ h hW (lv_sub hl [0] rfl))
abbrev rmzj0_charAt_5068e : Room := { frames := 3, cells := 0, slots := 0, locals := 64 }
theorem hdVzj0_charAt_5068e : yJ0_charAt_5068e.cls = RJ0 ∧ (yJ0_charAt_5068e.cls ≠ "java/lang/invoke/MethodHandle" ∧ yJ0_charAt_5068e.cls ≠ "java/lang/invoke/VarHandle" ∧ (parseMethodDescriptor yJ0_charAt_5068e.desc).map (fun d => d.parameters.length) = some 1) := by decide +kernel
set_option maxRecDepth 100000 in
set_option maxHeartbeats 4000000 in
theorem tzj0_charAt_5068e_0 (hC : Cx p s m args meth c cJ0_charAt_5068e 2 wsJ0_charAt_5068e RJ0 (some .char)) : ∀ (x1 : Int32) (res : Int32) (H : Heap) (locs : List Loc) (ls : Array Slot), fzj0_charAt_5068e x1 = some res → GW D cy ad (([] : va_W)) A s H locs → lv_has ls 2 [(0, .ref (ad (2 * 0))), (1, .int x1)] → W p l e rmzj0_charAt_5068e s m args below meth c H locs 0 0 (MQ below (QI D cy (([] : va_W)) A res) args s 0 0 A) (F0 m 0 ls []) := by
  intro x1 res H locs ls hf hW hl
  unfold fzj0_charAt_5068e at hf
  refine lv_aload_n hC.1 hC.2.1 dJ0_charAt_5068e_0 rfl (lv_at hl 0 rfl) ?_
  obtain ⟨r_1, hg_2, hf⟩ := bd_of hf
  refine g_calliVs hC hW 0 (by decide) (czj0_isLatin1_aae02 l D cy ad  hg_2) (cwV 0 hC.2.2.2.2.1 gJ0_charAt_5068e_J0_isLatin1_aae02 rfl rfl rfl hdVzj0_isLatin1_aae02 ⟨Nat.le_of_ble_eq_true rfl, Nat.le_of_ble_eq_true rfl⟩) rfl hl.1 rfl (Nat.le_of_ble_eq_true rfl) dJ0_charAt_5068e_1 ⟨Nat.zero_le _, Nat.zero_le _⟩ (fun H locs hW => ?_)
  refine lv_if_eq (tgt := 16) hC.1 hC.2.1 dJ0_charAt_5068e_4 (by decide) (fun hc_3 => ?_) (fun hc_3 => ?_)
  · have hf := ite_t hf hc_3
    refine lv_aload_n hC.1 hC.2.1 dJ0_charAt_5068e_16 rfl (lv_at hl 0 rfl) ?_
    refine g_sval hC hW 0 (by decide) 1 rfl dJ0_charAt_5068e_17 ?_
    refine lv_iload_n hC.1 hC.2.1 dJ0_charAt_5068e_20 rfl (lv_at hl 1 rfl) ?_
    exact nomatch hf
  · have hf := ite_f hf hc_3
    refine lv_aload_n hC.1 hC.2.1 dJ0_charAt_5068e_7 rfl (lv_at hl 0 rfl) ?_
    refine g_sval hC hW 0 (by decide) 1 rfl dJ0_charAt_5068e_8 ?_
    refine lv_iload_n hC.1 hC.2.1 dJ0_charAt_5068e_11 rfl (lv_at hl 1 rfl) ?_
    obtain ⟨r_4, hg_5, hf⟩ := bd_of hf
    refine g_calliS (w' := ([] : va_W)) hC hW (czj1_charAt_3b067 l D cy ad  hg_5) (va_cwS 2 hC.2.2.2.2.1 gJ0_charAt_5068e_J1_charAt_3b067 rfl rfl rfl hdSzj1_charAt_3b067 ⟨Nat.le_of_ble_eq_true rfl, Nat.le_of_ble_eq_true rfl⟩) (Sub.all _ _) rfl hl.1 rfl (Nat.le_of_ble_eq_true rfl) dJ0_charAt_5068e_12 ⟨Nat.zero_le _, Nat.zero_le _⟩ (fun H locs hW => ?_)
    obtain ⟨hz, hf⟩ := ck_of hf
    obtain rfl := Option.some.inj hf
    exact g_zretC hC hW (isc_of hz) dJ0_charAt_5068e_15
set_option maxRecDepth 100000 in
set_option maxHeartbeats 4000000 in
theorem czj0_charAt_5068e (l : Launch) (D : va_G) (cy : Nat → ClassId) (ad : Nat → Nat) {x1 : Int32} {res : Int32} (h : fzj0_charAt_5068e x1 = some res) : GCi l yJ0_charAt_5068e wsJ0_charAt_5068e rmzj0_charAt_5068e [.ref (ad (2 * 0)), .int x1] D cy ad (([] : va_W)) (([] : va_W)) res := fun sz => GC.start (own := RJ0) (Qc := fun A => QI D cy (([] : va_W)) A res) sz (by decide) rfl rfl (Nat.le_of_ble_eq_true rfl) (fun p e s m below meth c A ls hC hW hl => tzj0_charAt_5068e_0 hC _ _ _ _ _ h hW (lv_sub hl [0, 1] rfl))
set_option maxRecDepth 100000 in
set_option maxHeartbeats 4000000 in
theorem t10_init_84 (hC : Cx p s m args meth c cX10_init 6 wsX10_init RX10 none) {k28 : Int32 → Int64 → Int32 → Ob → Option (Ob)} (hk28 : ∀ (x1 : Int32) (x2 : Int64) (x4 : Int32) (ST : Ob) (res : Ob) (H : Heap) (locs : List Loc) (ls : Array Slot), k28 x1 x2 x4 ST = some res → GW D cy ad (w10 cy aT ST) A s H locs → lv_has ls 6 [(0, .ref (aT 0)), (1, .int x1), (2, .long x2), (4, .int x4)] → W p l e rm10_init s m args below meth c H locs 2 1032 (MQ below (QN D cy (fun u => w10 cy (u 0) res) A (aT 0)) args s 2 1032 A) (F0 m 28 ls [])) : ∀ (x1 : Int32) (x2 : Int64) (x4 : Int32) (ST : Ob) (res : Ob) (H : Heap) (locs : List Loc) (ls : Array Slot), f10_init_84 k28 x1 x2 x4 ST = some res → GW D cy ad (w10 cy aT ST) A s H locs → lv_has ls 6 [(0, .ref (aT 0)), (1, .int x1), (2, .long x2), (4, .int x4)] → W p l e rm10_init s m args below meth c H locs 2 1032 (MQ below (QN D cy (fun u => w10 cy (u 0) res) A (aT 0)) args s 2 1032 A) (F0 m 84 ls []) := by
  intro x1 x2 x4 ST res H locs ls hf hW hl
  unfold f10_init_84 at hf
  obtain ⟨x4_1, ex4_1⟩ : ∃ y : Int32, y = x4 + 1 := ⟨_, rfl⟩
  have hf := lt_nm hf ex4_1
  refine lv_iinc (v := x4_1) (lv' := [(4, .int x4_1), (0, .ref (aT 0)), (1, .int x1), (2, .long x2)]) hC.1 hC.2.1 dX10_init_84 hl (k := 3) rfl (by rw [ex4_1]; rfl) (by decide) rfl (fun ls hl => ?_)
  refine lv_goto (tgt := 28) hC.1 hC.2.1 dX10_init_87 (by decide) ?_
  exact hk28 _ _ _ _ _ _ _ _ hf hW (lv_sub hl [1, 2, 3, 0] rfl)
set_option maxRecDepth 100000 in
set_option maxHeartbeats 4000000 in
theorem t10_init_90 (hC : Cx p s m args meth c cX10_init 6 wsX10_init RX10 none) : ∀ (ST : Ob) (res : Ob) (H : Heap) (locs : List Loc) (ls : Array Slot), f10_init_90 ST = some res → GW D cy ad (w10 cy aT ST) A s H locs → lv_has ls 6 [] → W p l e rm10_init s m args below meth c H locs 2 1032 (MQ below (QN D cy (fun u => w10 cy (u 0) res) A (aT 0)) args s 2 1032 A) (F0 m 90 ls []) := by
  intro ST res H locs ls hf hW hl
  unfold f10_init_90 at hf
  obtain rfl := Option.some.inj hf
  exact g_vretn hC (fun _ => aT) rfl hW dX10_init_90
set_option maxRecDepth 100000 in
set_option maxHeartbeats 4000000 in
theorem t10_init_28 (hC : Cx p s m args meth c cX10_init 6 wsX10_init RX10 none) : ∀ n : Nat, ∀ (x1 : Int32) (x2 : Int64) (x4 : Int32) (ST : Ob) (res : Ob) (H : Heap) (locs : List Loc) (ls : Array Slot), f10_init_28 n x1 x2 x4 ST = some res → GW D cy ad (w10 cy aT ST) A s H locs → lv_has ls 6 [(0, .ref (aT 0)), (1, .int x1), (2, .long x2), (4, .int x4)] → W p l e rm10_init s m args below meth c H locs 2 1032 (MQ below (QN D cy (fun u => w10 cy (u 0) res) A (aT 0)) args s 2 1032 A) (F0 m 28 ls []) := by
  intro n
  induction n with
  | zero =>
    intro _ _ _ _ _ _ _ _ hf _ _
    exact nomatch (show (none : Option (Ob)) = some _ from hf)
  | succ n ih =>
    intro x1 x2 x4 ST res H locs ls hf hW hl
    rw [f10_init_28] at hf
    refine lv_iload hC.1 hC.2.1 dX10_init_28 (lv_at hl 3 rfl) ?_
    refine va_ldcS hC.1 hC.2.1 hC.2.2.2.1 hW.2.2.2.2.2.2.1 dX10_init_30 ?_
    obtain ⟨r_1, hg_2, hf⟩ := bd_of hf
    refine g_calliVs hC hW 0 (by decide) (czj0_length_8abf5 l D cy ad  hg_2) (cwV 0 hC.2.2.2.2.1 gX10_init_J0_length_8abf5 rfl rfl rfl hdVzj0_length_8abf5 ⟨Nat.le_of_ble_eq_true rfl, Nat.le_of_ble_eq_true rfl⟩) rfl hl.1 rfl (Nat.le_of_ble_eq_true rfl) dX10_init_32 ⟨Nat.le_of_ble_eq_true rfl, Nat.le_of_ble_eq_true rfl⟩ (fun H locs hW => ?_)
    refine lv_icmp_ge (tgt := 90) hC.1 hC.2.1 dX10_init_35 (by decide) (fun hc_3 => ?_) (fun hc_3 => ?_)
    · have hf := ite_t hf hc_3
      exact t10_init_90 hC  _ _ _ _ _ hf hW (lv_sub hl [] rfl)
    · have hf := ite_f hf hc_3
      refine lv_iload_n hC.1 hC.2.1 dX10_init_38 rfl (lv_at hl 1 rfl) ?_
      refine lv_bipush (v := 32) hC.1 hC.2.1 dX10_init_39 (by decide) ?_
      refine lv_icmp_ge (tgt := 90) hC.1 hC.2.1 dX10_init_41 (by decide) (fun hc_4 => ?_) (fun hc_4 => ?_)
      · have hf := ite_t hf hc_4
        exact t10_init_90 hC  _ _ _ _ _ hf hW (lv_sub hl [] rfl)
      · have hf := ite_f hf hc_4
        refine va_ldcS hC.1 hC.2.1 hC.2.2.2.1 hW.2.2.2.2.2.2.1 dX10_init_44 ?_
        refine lv_iload hC.1 hC.2.1 dX10_init_46 (lv_at hl 3 rfl) ?_
        obtain ⟨r_5, hg_6, hf⟩ := bd_of hf
        refine g_calliVs hC hW 0 (by decide) (czj0_charAt_5068e l D cy ad  hg_6) (cwV 1 hC.2.2.2.2.1 gX10_init_J0_charAt_5068e rfl rfl rfl hdVzj0_charAt_5068e ⟨Nat.le_of_ble_eq_true rfl, Nat.le_of_ble_eq_true rfl⟩) rfl hl.1 rfl (Nat.le_of_ble_eq_true rfl) dX10_init_48 ⟨Nat.le_of_ble_eq_true rfl, Nat.le_of_ble_eq_true rfl⟩ (fun H locs hW => ?_)
        refine lv_istore (lv' := [(5, .int r_5), (0, .ref (aT 0)), (1, .int x1), (2, .long x2), (4, .int x4)]) hC.1 hC.2.1 dX10_init_51 hl (by decide) rfl (fun ls hl => ?_)
        refine lv_iload hC.1 hC.2.1 dX10_init_53 (lv_at hl 0 rfl) ?_
        refine lv_bipush (v := 32) hC.1 hC.2.1 dX10_init_55 (by decide) ?_
        refine lv_icmp_ne (tgt := 75) hC.1 hC.2.1 dX10_init_57 (by decide) (fun hc_7 => ?_) (fun hc_7 => ?_)
        · have hf := ite_f hf hc_7
          refine lv_lload_n hC.1 hC.2.1 dX10_init_75 rfl (lv_at hl 3 rfl) ?_
          refine lv_bipush (v := 8) hC.1 hC.2.1 dX10_init_76 (by decide) ?_
          refine lv_lshl (v := x2 <<< (Int32.toInt64 8 &&& 63)) hC.1 hC.2.1 dX10_init_78 rfl ?_
          refine lv_iload hC.1 hC.2.1 dX10_init_79 (lv_at hl 0 rfl) ?_
          refine lv_i2l (v := Int32.toInt64 r_5) hC.1 hC.2.1 dX10_init_81 rfl ?_
          refine lv_lor hC.1 hC.2.1 dX10_init_82 ?_
          refine lv_topl (fun x2_8 ex2_8 => ?_)
          have hf := lt_nm hf ex2_8
          refine lv_lstore_n (lv' := [(2, .long x2_8), (5, .int r_5), (0, .ref (aT 0)), (1, .int x1), (4, .int x4)]) hC.1 hC.2.1 dX10_init_83 rfl hl (by decide) rfl (fun ls hl => ?_)
          exact t10_init_84 hC ih  _ _ _ _ _ _ _ _ hf hW (lv_sub hl [2, 3, 0, 4] rfl)
        · have hf := ite_t hf hc_7
          refine lv_aload_n hC.1 hC.2.1 dX10_init_60 rfl (lv_at hl 1 rfl) ?_
          refine g_get hC hW hin10_init_10 0 rfl rfl 1 (by decide) 7 rfl rfl dX10_init_61 ?_
          refine lv_iload_n hC.1 hC.2.1 dX10_init_64 rfl (lv_at hl 2 rfl) ?_
          refine lv_lload_n hC.1 hC.2.1 dX10_init_65 rfl (lv_at hl 3 rfl) ?_
          obtain ⟨hi_9, hf⟩ := ck_of hf
          obtain ⟨ST_10, eST_10⟩ : ∃ y : Ob, y = oJ ST 1 (Int32.toNatClampNeg x1) x2 := ⟨_, rfl⟩
          have hf := lt_nm hf eST_10
          refine g_last hC hW 2 rfl hi_9 (w' := w10 cy aT ST_10) (by rw [eST_10]; rfl) dX10_init_66 (fun H locs hW => ?_)
          obtain ⟨x1_11, ex1_11⟩ : ∃ y : Int32, y = x1 + 1 := ⟨_, rfl⟩
          have hf := lt_nm hf ex1_11
          refine lv_iinc (v := x1_11) (lv' := [(1, .int x1_11), (5, .int r_5), (0, .ref (aT 0)), (2, .long x2), (4, .int x4)]) hC.1 hC.2.1 dX10_init_67 hl (k := 2) rfl (by rw [ex1_11]; rfl) (by decide) rfl (fun ls hl => ?_)
          refine lv_lconst (v := 0) hC.1 hC.2.1 dX10_init_70 (by decide) ?_
          refine lv_lstore_n (lv' := [(2, .long 0), (1, .int x1_11), (5, .int r_5), (0, .ref (aT 0)), (4, .int x4)]) hC.1 hC.2.1 dX10_init_71 rfl hl (by decide) rfl (fun ls hl => ?_)
          refine lv_goto (tgt := 84) hC.1 hC.2.1 dX10_init_72 (by decide) ?_
          exact t10_init_84 hC ih  _ _ _ _ _ _ _ _ hf hW (lv_sub hl [3, 1, 0, 4] rfl)
end
set_option maxRecDepth 100000 in
set_option maxHeartbeats 8000000 in
theorem n10_init (l : Launch) (D : va_G) (cy : Nat → ClassId) (ad : Nat → Nat) (h0 : Nat) {ST1 : Ob} (hT : f10_init_28 FU 0 0 0 o0 = some ST1) : GCn l yX10_init wsX10_init rm10_init [.ref h0] D cy ad ([(h0, .inr (9, [.null, .null, .int 0, .int 0, .int 0, .int 0, .long 0, .int 0]))]) h0 (fun u => w10 cy (u 0) ST1) 2 1032 := fun sz => GCn.start (own := RX10) (Qc := fun A => QN D cy (fun u => w10 cy (u 0) ST1) A h0) sz (by decide) rfl rfl (Nat.le_of_ble_eq_true rfl) rfl (fun p e s m below meth c A ls hini hC hW hl => by
    have hl : lv_has ls 6 [(0, .ref h0)] := hl
    have hW : GW D cy ad ([(h0, .inr (9, [.null, .null, .int 0, .int 0, .int 0, .int 0, .long 0, .int 0]))]) A s s.heap [] := hW
    refine lv_aload_n hC.1 hC.2.1 dX10_init_0 rfl (lv_at hl 0 rfl) ?_
    refine g_oinit hC 1 2 3 rfl rfl rfl hl.1 dX10_init_1 (Nat.le_of_ble_eq_true rfl) (Nat.le_of_ble_eq_true rfl) ?_
    refine lv_aload_n hC.1 hC.2.1 dX10_init_4 rfl (lv_at hl 0 rfl) ?_
    refine lv_sipush (v := 1000) hC.1 hC.2.1 dX10_init_5 (by decide) ?_
    refine g_newa hC hW 3 rfl rfl (fun C h => by cases h) 4 rfl (a0 := (1000, .inl (fun _ => 0))) (fun _ => rfl) (by decide) (by decide) (by decide) (Nat.le_of_ble_eq_true rfl) (Nat.le_of_ble_eq_true rfl) dX10_init_8 (fun q1 H hW => ?_)
    have hW : GW D cy ad ([(h0, .inr (9, [.null, .null, .int 0, .int 0, .int 0, .int 0, .long 0, .int 0]))] ++ ([(q1, .inl (cy 3, 1000, .inl (fun _ => 0)))])) A s H _ := hW
    refine g_putF hC hW hini hin10_init_10 tyX10 tyX10_ok nmX10 0 rfl rfl 0 (by decide) 5 rfl rfl rfl rfl rfl (Nat.le_of_ble_eq_true rfl) (w' := [(h0, .inr (9, [.ref q1, .null, .int 0, .int 0, .int 0, .int 0, .long 0, .int 0]))] ++ ([(q1, .inl (cy 3, 1000, .inl (fun _ => 0)))])) rfl dX10_init_10 (fun H locs hW => ?_)
    refine lv_aload_n hC.1 hC.2.1 dX10_init_13 rfl (lv_at hl 0 rfl) ?_
    refine lv_bipush (v := 32) hC.1 hC.2.1 dX10_init_14 (by decide) ?_
    refine g_newa hC hW 1 rfl rfl (fun C h => by cases h) 6 rfl (a0 := (32, .inr (.inl (fun _ => 0)))) (fun _ => rfl) (by decide) (by decide) (by decide) (Nat.le_of_ble_eq_true rfl) (Nat.le_of_ble_eq_true rfl) dX10_init_16 (fun q2 H hW => ?_)
    have hW : GW D cy ad ([(h0, .inr (9, [.ref q1, .null, .int 0, .int 0, .int 0, .int 0, .long 0, .int 0]))] ++ ([(q1, .inl (cy 3, 1000, .inl (fun _ => 0)))] ++ ([(q2, .inl (cy 1, 32, .inr (.inl (fun _ => 0))))]))) A s H _ := hW
    refine g_putF hC hW hini hin10_init_10 tyX10 tyX10_ok nmX10 0 rfl rfl 1 (by decide) 7 rfl rfl rfl rfl rfl (Nat.le_of_ble_eq_true rfl) (w' := [(h0, .inr (9, [.ref q1, .ref q2, .int 0, .int 0, .int 0, .int 0, .long 0, .int 0]))] ++ ([(q1, .inl (cy 3, 1000, .inl (fun _ => 0)))] ++ ([(q2, .inl (cy 1, 32, .inr (.inl (fun _ => 0))))]))) rfl dX10_init_18 (fun H locs hW => ?_)
    refine lv_iconst (v := 0) hC.1 hC.2.1 dX10_init_21 (by decide) ?_
    refine lv_istore_n (lv' := [(1, .int 0), (0, .ref h0)]) hC.1 hC.2.1 dX10_init_22 rfl hl (by decide) rfl (fun ls hl => ?_)
    refine lv_lconst (v := 0) hC.1 hC.2.1 dX10_init_23 (by decide) ?_
    refine lv_lstore_n (lv' := [(2, .long 0), (1, .int 0), (0, .ref h0)]) hC.1 hC.2.1 dX10_init_24 rfl hl (by decide) rfl (fun ls hl => ?_)
    refine lv_iconst (v := 0) hC.1 hC.2.1 dX10_init_25 (by decide) ?_
    refine lv_istore (lv' := [(4, .int 0), (2, .long 0), (1, .int 0), (0, .ref h0)]) hC.1 hC.2.1 dX10_init_26 hl (by decide) rfl (fun ls hl => ?_)
    exact t10_init_28 (aT := fun k => if k = 0 then h0 else if k = 1 then q1 else if k = 2 then q2 else 0) hC FU 0 0 0 o0 ST1 H locs ls hT hW (lv_sub hl [3, 2, 1, 0] rfl))
