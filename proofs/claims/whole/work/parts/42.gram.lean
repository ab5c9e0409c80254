/-! laid by program: functions, walks and contracts of 3_begin, 3_fail, 3_take, 3_named, 3_namedGuest, 3_namedSign -/
set_option maxRecDepth 20000 in
theorem gX3_begin_X10_begin : GoodIn wsX3_begin (wsV RX3 36 RX10 yX10_begin wsX10_begin) := goodIn_r _ [6, 7, 8, 9, 10, 11, 12, 13, 14, 9, 15, 16, 17, 18, 19, 20, 21, 22, 23, 24, 25, 26, 27, 28, 29, 30, 31, 32, 33, 34, 35, 36, 37, 38, 39, 40, 41, 42, 43, 44, 45, 46, 47, 48, 49, 50, 51, 52, 53, 54, 55, 56, 57, 58, 59, 60, 61, 62, 63, 64, 65, 66, 67, 68, 69, 70, 71, 72, 73, 74, 75, 76, 77, 78, 79, 80, 81, 82, 83, 84, 85, 86, 87, 88, 89, 90, 91, 92, 93, 94, 95, 96, 97, 98, 99, 100, 101, 102, 103, 104, 105, 106, 107, 108, 109, 110, 111, 112, 113, 114, 115, 116, 117, 118, 119, 129, 130, 131, 132, 133, 134, 135, 136] rfl (by decide +kernel)
theorem dX3_begin_0 : decode cX3_begin 0 = .ok (.aload_n 0, 1) := by decide +kernel
theorem dX3_begin_1 : decode cX3_begin 1 = .ok (.aload_n 1, 1) := by decide +kernel
theorem dX3_begin_2 : decode cX3_begin 2 = .ok (.putfield 25, 3) := by decide +kernel
theorem dX3_begin_5 : decode cX3_begin 5 = .ok (.aload_n 0, 1) := by decide +kernel
theorem dX3_begin_6 : decode cX3_begin 6 = .ok (.iconst 0, 1) := by decide +kernel
theorem dX3_begin_7 : decode cX3_begin 7 = .ok (.putfield 29, 3) := by decide +kernel
theorem dX3_begin_10 : decode cX3_begin 10 = .ok (.aload_n 0, 1) := by decide +kernel
theorem dX3_begin_11 : decode cX3_begin 11 = .ok (.getfield 21, 3) := by decide +kernel
theorem dX3_begin_14 : decode cX3_begin 14 = .ok (.iconst 0, 1) := by decide +kernel
theorem dX3_begin_15 : decode cX3_begin 15 = .ok (.putfield 33, 3) := by decide +kernel
theorem dX3_begin_18 : decode cX3_begin 18 = .ok (.aload_n 0, 1) := by decide +kernel
theorem dX3_begin_19 : decode cX3_begin 19 = .ok (.getfield 12, 3) := by decide +kernel
theorem dX3_begin_22 : decode cX3_begin 22 = .ok (.invokevirtual 36, 3) := by decide +kernel
theorem dX3_begin_25 : decode cX3_begin 25 = .ok (.return_, 1) := by decide +kernel
theorem dX3_fail_0 : decode cX3_fail 0 = .ok (.aload_n 0, 1) := by decide +kernel
theorem dX3_fail_1 : decode cX3_fail 1 = .ok (.iload_n 1, 1) := by decide +kernel
theorem dX3_fail_2 : decode cX3_fail 2 = .ok (.bipush 16, 2) := by decide +kernel
theorem dX3_fail_4 : decode cX3_fail 4 = .ok (.aload_n 0, 1) := by decide +kernel
theorem dX3_fail_5 : decode cX3_fail 5 = .ok (.getfield 12, 3) := by decide +kernel
theorem dX3_fail_8 : decode cX3_fail 8 = .ok (.getfield 39, 3) := by decide +kernel
theorem dX3_fail_11 : decode cX3_fail 11 = .ok (.imul, 1) := by decide +kernel
theorem dX3_fail_12 : decode cX3_fail 12 = .ok (.iadd, 1) := by decide +kernel
theorem dX3_fail_13 : decode cX3_fail 13 = .ok (.putfield 29, 3) := by decide +kernel
theorem dX3_fail_16 : decode cX3_fail 16 = .ok (.iconst 0, 1) := by decide +kernel
theorem dX3_fail_17 : decode cX3_fail 17 = .ok (.ireturn, 1) := by decide +kernel
set_option maxRecDepth 20000 in
theorem gX3_take_X3_fail : GoodIn wsX3_take (wsV RX3 45 RX3 yX3_fail wsX3_fail) := goodIn_r _ [3, 4, 5, 6, 7, 1, 8, 9, 120, 121, 122, 123, 124, 125, 126, 127, 128, 129, 130, 131] rfl (by decide +kernel)
set_option maxRecDepth 20000 in
theorem gX3_take_X10_advance : GoodIn wsX3_take (wsV RX3 49 RX10 yX10_advance wsX10_advance) := goodIn_r _ [10, 11, 12, 13, 14, 15, 16, 17, 18, 19, 20, 21, 22, 13, 23, 24, 25, 26, 27, 28, 29, 30, 31, 32, 33, 34, 35, 36, 37, 38, 39, 40, 41, 42, 43, 44, 45, 46, 47, 48, 49, 50, 51, 52, 53, 54, 55, 56, 57, 58, 59, 60, 61, 62, 63, 64, 65, 66, 67, 68, 69, 70, 71, 72, 73, 74, 75, 76, 77, 78, 79, 80, 81, 82, 83, 84, 85, 86, 87, 88, 89, 90, 91, 92, 93, 94, 95, 96, 97, 98, 99, 100, 101, 102, 103, 104, 105, 106, 107, 108, 109, 110, 111, 112, 113, 114, 115, 116, 117, 118, 119, 124, 125, 126, 127, 128, 129, 130, 131] rfl (by decide +kernel)
theorem dX3_take_0 : decode cX3_take 0 = .ok (.aload_n 0, 1) := by decide +kernel
theorem dX3_take_1 : decode cX3_take 1 = .ok (.getfield 12, 3) := by decide +kernel
theorem dX3_take_4 : decode cX3_take 4 = .ok (.getfield 42, 3) := by decide +kernel
theorem dX3_take_7 : decode cX3_take 7 = .ok (.iload_n 1, 1) := by decide +kernel
theorem dX3_take_8 : decode cX3_take 8 = .ok (.if_icmp .eq 9, 3) := by decide +kernel
theorem dX3_take_11 : decode cX3_take 11 = .ok (.aload_n 0, 1) := by decide +kernel
theorem dX3_take_12 : decode cX3_take 12 = .ok (.iconst 1, 1) := by decide +kernel
theorem dX3_take_13 : decode cX3_take 13 = .ok (.invokevirtual 45, 3) := by decide +kernel
theorem dX3_take_16 : decode cX3_take 16 = .ok (.ireturn, 1) := by decide +kernel
theorem dX3_take_17 : decode cX3_take 17 = .ok (.aload_n 0, 1) := by decide +kernel
theorem dX3_take_18 : decode cX3_take 18 = .ok (.getfield 12, 3) := by decide +kernel
theorem dX3_take_21 : decode cX3_take 21 = .ok (.invokevirtual 49, 3) := by decide +kernel
theorem dX3_take_24 : decode cX3_take 24 = .ok (.iconst 1, 1) := by decide +kernel
theorem dX3_take_25 : decode cX3_take 25 = .ok (.ireturn, 1) := by decide +kernel
set_option maxRecDepth 20000 in
theorem gX3_named_X10_isName : GoodIn wsX3_named (wsV RX3 69 RX10 yX10_isName wsX10_isName) := goodIn_r _ [2, 3, 4, 5, 6, 7, 19, 20, 21, 22, 23, 24, 25, 26] rfl (by decide +kernel)
set_option maxRecDepth 20000 in
theorem gX3_named_X3_fail : GoodIn wsX3_named (wsV RX3 45 RX3 yX3_fail wsX3_fail) := goodIn_r _ [8, 9, 10, 11, 12, 1, 13, 14, 15, 16, 17, 18, 19, 20, 21, 22, 23, 24, 25, 26] rfl (by decide +kernel)
theorem dX3_named_0 : decode cX3_named 0 = .ok (.aload_n 0, 1) := by decide +kernel
theorem dX3_named_1 : decode cX3_named 1 = .ok (.getfield 12, 3) := by decide +kernel
theorem dX3_named_4 : decode cX3_named 4 = .ok (.invokevirtual 69, 3) := by decide +kernel
theorem dX3_named_7 : decode cX3_named 7 = .ok (.ifCond .ne 11, 3) := by decide +kernel
theorem dX3_named_10 : decode cX3_named 10 = .ok (.aload_n 0, 1) := by decide +kernel
theorem dX3_named_11 : decode cX3_named 11 = .ok (.iconst 1, 1) := by decide +kernel
theorem dX3_named_12 : decode cX3_named 12 = .ok (.invokevirtual 45, 3) := by decide +kernel
theorem dX3_named_15 : decode cX3_named 15 = .ok (.pop, 1) := by decide +kernel
theorem dX3_named_16 : decode cX3_named 16 = .ok (.iconst (-1), 1) := by decide +kernel
theorem dX3_named_17 : decode cX3_named 17 = .ok (.ireturn, 1) := by decide +kernel
theorem dX3_named_18 : decode cX3_named 18 = .ok (.iload_n 1, 1) := by decide +kernel
theorem dX3_named_19 : decode cX3_named 19 = .ok (.iconst (-1), 1) := by decide +kernel
theorem dX3_named_20 : decode cX3_named 20 = .ok (.if_icmp .ne 9, 3) := by decide +kernel
theorem dX3_named_23 : decode cX3_named 23 = .ok (.aload_n 0, 1) := by decide +kernel
theorem dX3_named_24 : decode cX3_named 24 = .ok (.iconst 2, 1) := by decide +kernel
theorem dX3_named_25 : decode cX3_named 25 = .ok (.invokevirtual 45, 3) := by decide +kernel
theorem dX3_named_28 : decode cX3_named 28 = .ok (.pop, 1) := by decide +kernel
theorem dX3_named_29 : decode cX3_named 29 = .ok (.iload_n 1, 1) := by decide +kernel
theorem dX3_named_30 : decode cX3_named 30 = .ok (.ireturn, 1) := by decide +kernel
set_option maxRecDepth 20000 in
theorem gX3_namedGuest_X4_guestNamed : GoodIn wsX3_namedGuest (wsV RX3 56 RX4 yX4_guestNamed wsX4_guestNamed) := goodIn_r _ [4, 5, 6, 7, 8, 9, 10, 40, 41, 42, 43, 44, 45, 46, 47, 48, 49, 50, 51, 52] rfl (by decide +kernel)
set_option maxRecDepth 20000 in
theorem gX3_namedGuest_X3_named : GoodIn wsX3_namedGuest (wsV RX3 62 RX3 yX3_named wsX3_named) := goodIn_r _ [11, 12, 13, 14, 15, 2, 16, 17, 18, 19, 20, 21, 22, 23, 24, 14, 25, 26, 27, 28, 29, 30, 31, 32, 33, 34, 35, 36, 37, 38, 39] rfl (by decide +kernel)
theorem dX3_namedGuest_0 : decode cX3_namedGuest 0 = .ok (.aload_n 0, 1) := by decide +kernel
theorem dX3_namedGuest_1 : decode cX3_namedGuest 1 = .ok (.aload_n 0, 1) := by decide +kernel
theorem dX3_namedGuest_2 : decode cX3_namedGuest 2 = .ok (.getfield 25, 3) := by decide +kernel
theorem dX3_namedGuest_5 : decode cX3_namedGuest 5 = .ok (.aload_n 0, 1) := by decide +kernel
theorem dX3_namedGuest_6 : decode cX3_namedGuest 6 = .ok (.getfield 12, 3) := by decide +kernel
theorem dX3_namedGuest_9 : decode cX3_namedGuest 9 = .ok (.getfield 52, 3) := by decide +kernel
theorem dX3_namedGuest_12 : decode cX3_namedGuest 12 = .ok (.invokevirtual 56, 3) := by decide +kernel
theorem dX3_namedGuest_15 : decode cX3_namedGuest 15 = .ok (.invokevirtual 62, 3) := by decide +kernel
theorem dX3_namedGuest_18 : decode cX3_namedGuest 18 = .ok (.ireturn, 1) := by decide +kernel
set_option maxRecDepth 20000 in
theorem gX3_namedSign_X4_signNamed : GoodIn wsX3_namedSign (wsV RX3 66 RX4 yX4_signNamed wsX4_signNamed) := goodIn_r _ [4, 5, 6, 7, 8, 9, 10, 40, 41, 42, 43, 44, 45, 46, 47, 48, 49, 50, 51, 52] rfl (by decide +kernel)
set_option maxRecDepth 20000 in
theorem gX3_namedSign_X3_named : GoodIn wsX3_namedSign (wsV RX3 62 RX3 yX3_named wsX3_named) := goodIn_r _ [11, 12, 13, 14, 15, 2, 16, 17, 18, 19, 20, 21, 22, 23, 24, 14, 25, 26, 27, 28, 29, 30, 31, 32, 33, 34, 35, 36, 37, 38, 39] rfl (by decide +kernel)
theorem dX3_namedSign_0 : decode cX3_namedSign 0 = .ok (.aload_n 0, 1) := by decide +kernel
theorem dX3_namedSign_1 : decode cX3_namedSign 1 = .ok (.aload_n 0, 1) := by decide +kernel
theorem dX3_namedSign_2 : decode cX3_namedSign 2 = .ok (.getfield 25, 3) := by decide +kernel
theorem dX3_namedSign_5 : decode cX3_namedSign 5 = .ok (.aload_n 0, 1) := by decide +kernel
theorem dX3_namedSign_6 : decode cX3_namedSign 6 = .ok (.getfield 12, 3) := by decide +kernel
theorem dX3_namedSign_9 : decode cX3_namedSign 9 = .ok (.getfield 52, 3) := by decide +kernel
theorem dX3_namedSign_12 : decode cX3_namedSign 12 = .ok (.invokevirtual 66, 3) := by decide +kernel
theorem dX3_namedSign_15 : decode cX3_namedSign 15 = .ok (.invokevirtual 62, 3) := by decide +kernel
theorem dX3_namedSign_18 : decode cX3_namedSign 18 = .ok (.ireturn, 1) := by decide +kernel
section
variable {p : Program} {l : Launch} {e : Env} {s : State} {m : MethodId} {args : Array Value} {below : List Frame} {meth : Method} {c : Code} {D : va_G} {cy : Nat → ClassId} {ad : Nat → Nat} {A : Nat → Prop} {aM aB aO aI aN aT aC aG aR aQ aK aL aX aH aJ aP aU aE0 aE1 aE2 aE3 : Nat → Nat} {gi : Value}
abbrev rm3_begin : Room := { frames := 6, cells := 0, slots := 0, locals := 137 }
theorem hdV3_begin : yX3_begin.cls = RX3 ∧ (yX3_begin.cls ≠ "java/lang/invoke/MethodHandle" ∧ yX3_begin.cls ≠ "java/lang/invoke/VarHandle" ∧ (parseMethodDescriptor yX3_begin.desc).map (fun d => d.parameters.length) = some 1) := by decide +kernel
theorem hin3_begin_3 : ∀ x ∈ u_ws RX3 TX3 4, x ∈ wsX3_begin := fun _ h => List.mem_cons_of_mem _ (List.mem_append_left _ (List.mem_append_left _ (List.mem_append_right _ h)))
theorem hin3_begin_2 : ∀ x ∈ u_ws RX2 TX2 5, x ∈ wsX3_begin := fun _ h => List.mem_cons_of_mem _ (List.mem_append_left _ (List.mem_append_right _ h))
set_option maxRecDepth 100000 in
set_option maxHeartbeats 4000000 in
theorem t3_begin_0 (hC : Cx p s m args meth c cX3_begin 2 wsX3_begin RX3 none) : ∀ (SG : Ob) (ST : Ob) (SC : Ob) (res : Ob × Ob × Ob) (H : Heap) (locs : List Loc) (ls : Array Slot), f3_begin SG ST SC = some res → GW D cy ad (w3 cy aG aT aC gi SG ++ (w10 cy aT ST ++ (w2 cy aC SC))) A s H locs → lv_has ls 2 [(0, .ref (aG 0)), (1, .ref (aI 0))] → W p l e rm3_begin s m args below meth c H locs 0 0 (MQ below (QV D cy (w3 cy aG aT aC (.ref (aI 0)) (res.1) ++ (w10 cy aT (res.2.1) ++ (w2 cy aC (res.2.2)))) A) args s 0 0 A) (F0 m 0 ls []) := by
  intro SG ST SC res H locs ls hf hW hl
  unfold f3_begin at hf
  refine lv_aload_n hC.1 hC.2.1 dX3_begin_0 rfl (lv_at hl 0 rfl) ?_
  refine lv_aload_n hC.1 hC.2.1 dX3_begin_1 rfl (lv_at hl 1 rfl) ?_
  refine g_put hC hW hin3_begin_3 tyX3 tyX3_ok nmX3 0 rfl rfl 2 (by decide) 1 rfl rfl rfl rfl (Nat.le_of_ble_eq_true rfl) (w' := w3 cy aG aT aC (.ref (aI 0)) SG ++ (w10 cy aT ST ++ (w2 cy aC SC))) rfl dX3_begin_2 (fun H locs hW => ?_)
  refine lv_aload_n hC.1 hC.2.1 dX3_begin_5 rfl (lv_at hl 0 rfl) ?_
  refine lv_iconst (v := 0) hC.1 hC.2.1 dX3_begin_6 (by decide) ?_
  obtain ⟨SG_1, eSG_1⟩ : ∃ y : Ob, y = oI SG 3 0 := ⟨_, rfl⟩
  have hf := lt_nm hf eSG_1
  refine g_put hC hW hin3_begin_3 tyX3 tyX3_ok nmX3 0 rfl rfl 3 (by decide) 2 rfl rfl rfl rfl (Nat.le_of_ble_eq_true rfl) (w' := w3 cy aG aT aC (.ref (aI 0)) SG_1 ++ (w10 cy aT ST ++ (w2 cy aC SC))) (by rw [eSG_1]; rfl) dX3_begin_7 (fun H locs hW => ?_)
  refine lv_aload_n hC.1 hC.2.1 dX3_begin_10 rfl (lv_at hl 0 rfl) ?_
  refine g_get hC hW hin3_begin_3 0 rfl rfl 1 (by decide) 3 rfl rfl dX3_begin_11 ?_
  refine lv_iconst (v := 0) hC.1 hC.2.1 dX3_begin_14 (by decide) ?_
  obtain ⟨SC_2, eSC_2⟩ : ∃ y : Ob, y = oI SC 3 0 := ⟨_, rfl⟩
  have hf := lt_nm hf eSC_2
  refine g_put hC hW hin3_begin_2 tyX2 tyX2_ok nmX2 4 rfl rfl 3 (by decide) 4 rfl rfl rfl rfl (Nat.le_of_ble_eq_true rfl) (w' := w3 cy aG aT aC (.ref (aI 0)) SG_1 ++ (w10 cy aT ST ++ (w2 cy aC SC_2))) (by rw [eSC_2]; rfl) dX3_begin_15 (fun H locs hW => ?_)
  refine lv_aload_n hC.1 hC.2.1 dX3_begin_18 rfl (lv_at hl 0 rfl) ?_
  refine g_get hC hW hin3_begin_3 0 rfl rfl 0 (by decide) 5 rfl rfl dX3_begin_19 ?_
  obtain ⟨r_3, hg_4, hf⟩ := bd_of hf
  refine g_callvV (w' := w3 cy aG aT aC (.ref (aI 0)) SG_1 ++ (w10 cy aT r_3 ++ (w2 cy aC SC_2))) hC hW (c10_begin l D cy ad aT hg_4) (cwV 0 hC.2.2.2.2.1 gX3_begin_X10_begin rfl rfl rfl hdV10_begin ⟨Nat.le_of_ble_eq_true rfl, Nat.le_of_ble_eq_true rfl⟩) (⟨[1, 2, 3], [0, 4, 5, 6, 7], [0, 5, 6, 7, 1, 2, 3, 4], w3 cy aG aT aC (.ref (aI 0)) SG_1 ++ (w2 cy aC SC_2), rfl, rfl, rfl, rfl, by decide, rfl, rfl⟩) 0 9 rfl rfl rfl rfl hl.1 rfl (Nat.le_of_ble_eq_true rfl) dX3_begin_22 ⟨Nat.zero_le _, Nat.zero_le _⟩ (fun H locs hW => ?_)
  obtain rfl := Option.some.inj hf
  exact g_vret hC hW dX3_begin_25
set_option maxRecDepth 100000 in
set_option maxHeartbeats 4000000 in
theorem c3_begin (l : Launch) (D : va_G) (cy : Nat → ClassId) (ad : Nat → Nat) (aG : Nat → Nat) (aT : Nat → Nat) (aC : Nat → Nat) (aI : Nat → Nat) (gi : Value) {SG : Ob} {ST : Ob} {SC : Ob} {res : Ob × Ob × Ob} (h : f3_begin SG ST SC = some res) : GCv l yX3_begin wsX3_begin rm3_begin [.ref (aG 0), .ref (aI 0)] D cy ad (w3 cy aG aT aC gi SG ++ (w10 cy aT ST ++ (w2 cy aC SC))) (w3 cy aG aT aC (.ref (aI 0)) (res.1) ++ (w10 cy aT (res.2.1) ++ (w2 cy aC (res.2.2)))) := fun sz => GC.start (own := RX3) (Qc := fun A => QV D cy (w3 cy aG aT aC (.ref (aI 0)) (res.1) ++ (w10 cy aT (res.2.1) ++ (w2 cy aC (res.2.2)))) A) sz (by decide) rfl rfl (Nat.le_of_ble_eq_true rfl) (fun p e s m below meth c A ls hC hW hl => t3_begin_0 hC _ _ _ _ _ _ _ h hW (lv_sub hl [0, 1] rfl))
abbrev rm3_fail : Room := { frames := 0, cells := 0, slots := 0, locals := 0 }
theorem hdV3_fail : yX3_fail.cls = RX3 ∧ (yX3_fail.cls ≠ "java/lang/invoke/MethodHandle" ∧ yX3_fail.cls ≠ "java/lang/invoke/VarHandle" ∧ (parseMethodDescriptor yX3_fail.desc).map (fun d => d.parameters.length) = some 1) := by decide +kernel
theorem hin3_fail_3 : ∀ x ∈ u_ws RX3 TX3 4, x ∈ wsX3_fail := fun _ h => List.mem_cons_of_mem _ (List.mem_append_left _ (List.mem_append_right _ h))
theorem hin3_fail_10 : ∀ x ∈ u_ws RX10 TX10 8, x ∈ wsX3_fail := fun _ h => List.mem_cons_of_mem _ (List.mem_append_right _ h)
set_option maxRecDepth 100000 in
set_option maxHeartbeats 4000000 in
theorem t3_fail_0 (hC : Cx p s m args meth c cX3_fail 2 wsX3_fail RX3 (some .boolean)) : ∀ (x1 : Int32) (SG : Ob) (ST : Ob) (res : Int32 × Ob) (H : Heap) (locs : List Loc) (ls : Array Slot), f3_fail x1 SG ST = some res → GW D cy ad (w3 cy aG aT aC (.ref (aI 0)) SG ++ (w10 cy aT ST)) A s H locs → lv_has ls 2 [(0, .ref (aG 0)), (1, .int x1)] → W p l e rm3_fail s m args below meth c H locs 0 0 (MQ below (QI D cy (w3 cy aG aT aC (.ref (aI 0)) (res.2) ++ (w10 cy aT ST)) A (res.1)) args s 0 0 A) (F0 m 0 ls []) := by
  intro x1 SG ST res H locs ls hf hW hl
  unfold f3_fail at hf
  refine lv_aload_n hC.1 hC.2.1 dX3_fail_0 rfl (lv_at hl 0 rfl) ?_
  refine lv_iload_n hC.1 hC.2.1 dX3_fail_1 rfl (lv_at hl 1 rfl) ?_
  refine lv_bipush (v := 16) hC.1 hC.2.1 dX3_fail_2 (by decide) ?_
  refine lv_aload_n hC.1 hC.2.1 dX3_fail_4 rfl (lv_at hl 0 rfl) ?_
  refine g_get hC hW hin3_fail_3 0 rfl rfl 0 (by decide) 1 rfl rfl dX3_fail_5 ?_
  refine g_get hC hW hin3_fail_10 1 rfl rfl 4 (by decide) 2 rfl rfl dX3_fail_8 ?_
  refine lv_imul hC.1 hC.2.1 dX3_fail_11 ?_
  refine lv_iadd hC.1 hC.2.1 dX3_fail_12 ?_
  obtain ⟨SG_1, eSG_1⟩ : ∃ y : Ob, y = oI SG 3 (x1 + (16 * (ST.1 4))) := ⟨_, rfl⟩
  have hf := lt_nm hf eSG_1
  refine g_put hC hW hin3_fail_3 tyX3 tyX3_ok nmX3 0 rfl rfl 3 (by decide) 3 rfl rfl rfl rfl (Nat.le_of_ble_eq_true rfl) (w' := w3 cy aG aT aC (.ref (aI 0)) SG_1 ++ (w10 cy aT ST)) (by rw [eSG_1]; rfl) dX3_fail_13 (fun H locs hW => ?_)
  refine lv_iconst (v := 0) hC.1 hC.2.1 dX3_fail_16 (by decide) ?_
  obtain rfl := Option.some.inj hf
  exact g_zret (v := 0) hC hW (by decide) dX3_fail_17
set_option maxRecDepth 100000 in
set_option maxHeartbeats 4000000 in
theorem c3_fail (l : Launch) (D : va_G) (cy : Nat → ClassId) (ad : Nat → Nat) (aG : Nat → Nat) (aT : Nat → Nat) (aC : Nat → Nat) (aI : Nat → Nat) {x1 : Int32} {SG : Ob} {ST : Ob} {res : Int32 × Ob} (h : f3_fail x1 SG ST = some res) : GCi l yX3_fail wsX3_fail rm3_fail [.ref (aG 0), .int x1] D cy ad (w3 cy aG aT aC (.ref (aI 0)) SG ++ (w10 cy aT ST)) (w3 cy aG aT aC (.ref (aI 0)) (res.2) ++ (w10 cy aT ST)) (res.1) := fun sz => GC.start (own := RX3) (Qc := fun A => QI D cy (w3 cy aG aT aC (.ref (aI 0)) (res.2) ++ (w10 cy aT ST)) A (res.1)) sz (by decide) rfl rfl (Nat.le_of_ble_eq_true rfl) (fun p e s m below meth c A ls hC hW hl => t3_fail_0 hC _ _ _ _ _ _ _ h hW (lv_sub hl [0, 1] rfl))
abbrev rm3_take : Room := { frames := 5, cells := 0, slots := 0, locals := 117 }
theorem hdV3_take : yX3_take.cls = RX3 ∧ (yX3_take.cls ≠ "java/lang/invoke/MethodHandle" ∧ yX3_take.cls ≠ "java/lang/invoke/VarHandle" ∧ (parseMethodDescriptor yX3_take.desc).map (fun d => d.parameters.length) = some 1) := by decide +kernel
theorem hin3_take_3 : ∀ x ∈ u_ws RX3 TX3 4, x ∈ wsX3_take := fun _ h => List.mem_cons_of_mem _ (List.mem_append_left _ (List.mem_append_right _ h))
theorem hin3_take_10 : ∀ x ∈ u_ws RX10 TX10 8, x ∈ wsX3_take := fun _ h => List.mem_cons_of_mem _ (List.mem_append_right _ h)
set_option maxRecDepth 100000 in
set_option maxHeartbeats 4000000 in
theorem t3_take_0 (hC : Cx p s m args meth c cX3_take 2 wsX3_take RX3 (some .boolean)) : ∀ (x1 : Int32) (SG : Ob) (ST : Ob) (res : Int32 × Ob × Ob) (H : Heap) (locs : List Loc) (ls : Array Slot), f3_take x1 SG ST = some res → GW D cy ad (w3 cy aG aT aC (.ref (aI 0)) SG ++ (w10 cy aT ST)) A s H locs → lv_has ls 2 [(0, .ref (aG 0)), (1, .int x1)] → W p l e rm3_take s m args below meth c H locs 0 0 (MQ below (QI D cy (w3 cy aG aT aC (.ref (aI 0)) (res.2.1) ++ (w10 cy aT (res.2.2))) A (res.1)) args s 0 0 A) (F0 m 0 ls []) := by
  intro x1 SG ST res H locs ls hf hW hl
  unfold f3_take at hf
  refine lv_aload_n hC.1 hC.2.1 dX3_take_0 rfl (lv_at hl 0 rfl) ?_
  refine g_get hC hW hin3_take_3 0 rfl rfl 0 (by decide) 1 rfl rfl dX3_take_1 ?_
  refine g_get hC hW hin3_take_10 1 rfl rfl 3 (by decide) 2 rfl rfl dX3_take_4 ?_
  refine lv_iload_n hC.1 hC.2.1 dX3_take_7 rfl (lv_at hl 1 rfl) ?_
  refine lv_icmp_eq (tgt := 17) hC.1 hC.2.1 dX3_take_8 (by decide) (fun hc_1 => ?_) (fun hc_1 => ?_)
  · have hf := ite_t hf hc_1
    refine lv_aload_n hC.1 hC.2.1 dX3_take_17 rfl (lv_at hl 0 rfl) ?_
    refine g_get hC hW hin3_take_3 0 rfl rfl 0 (by decide) 1 rfl rfl dX3_take_18 ?_
    obtain ⟨r_2, hg_3, hf⟩ := bd_of hf
    refine g_callvV (w' := w3 cy aG aT aC (.ref (aI 0)) SG ++ (w10 cy aT r_2)) hC hW (c10_advance l D cy ad aT hg_3) (cwV 0 hC.2.2.2.2.1 gX3_take_X10_advance rfl rfl rfl hdV10_advance ⟨Nat.le_of_ble_eq_true rfl, Nat.le_of_ble_eq_true rfl⟩) (⟨[1, 2, 3], [0], [0, 1, 2, 3], w3 cy aG aT aC (.ref (aI 0)) SG, rfl, rfl, rfl, rfl, by decide, rfl, rfl⟩) 0 9 rfl rfl rfl rfl hl.1 rfl (Nat.le_of_ble_eq_true rfl) dX3_take_21 ⟨Nat.zero_le _, Nat.zero_le _⟩ (fun H locs hW => ?_)
    refine lv_iconst (v := 1) hC.1 hC.2.1 dX3_take_24 (by decide) ?_
    obtain rfl := Option.some.inj hf
    exact g_zret (v := 1) hC hW (by decide) dX3_take_25
  · have hf := ite_f hf hc_1
    refine lv_aload_n hC.1 hC.2.1 dX3_take_11 rfl (lv_at hl 0 rfl) ?_
    refine lv_iconst (v := 1) hC.1 hC.2.1 dX3_take_12 (by decide) ?_
    obtain ⟨r_4, hg_5, hf⟩ := bd_of hf
    refine g_calliV (w' := w3 cy aG aT aC (.ref (aI 0)) (r_4.2) ++ (w10 cy aT ST)) hC hW (c3_fail l D cy ad aG aT aC aI hg_5) (cwV 1 hC.2.2.2.2.1 gX3_take_X3_fail rfl rfl rfl hdV3_fail ⟨Nat.le_of_ble_eq_true rfl, Nat.le_of_ble_eq_true rfl⟩) (Sub.all _ _) 0 3 rfl rfl rfl rfl hl.1 rfl (Nat.le_of_ble_eq_true rfl) dX3_take_13 ⟨Nat.zero_le _, Nat.zero_le _⟩ (fun H locs hW => ?_)
    obtain ⟨hz, hf⟩ := ck_of hf
    obtain rfl := Option.some.inj hf
    exact g_zret hC hW hz dX3_take_16
set_option maxRecDepth 100000 in
set_option maxHeartbeats 4000000 in
theorem c3_take (l : Launch) (D : va_G) (cy : Nat → ClassId) (ad : Nat → Nat) (aG : Nat → Nat) (aT : Nat → Nat) (aC : Nat → Nat) (aI : Nat → Nat) {x1 : Int32} {SG : Ob} {ST : Ob} {res : Int32 × Ob × Ob} (h : f3_take x1 SG ST = some res) : GCi l yX3_take wsX3_take rm3_take [.ref (aG 0), .int x1] D cy ad (w3 cy aG aT aC (.ref (aI 0)) SG ++ (w10 cy aT ST)) (w3 cy aG aT aC (.ref (aI 0)) (res.2.1) ++ (w10 cy aT (res.2.2))) (res.1) := fun sz => GC.start (own := RX3) (Qc := fun A => QI D cy (w3 cy aG aT aC (.ref (aI 0)) (res.2.1) ++ (w10 cy aT (res.2.2))) A (res.1)) sz (by decide) rfl rfl (Nat.le_of_ble_eq_true rfl) (fun p e s m below meth c A ls hC hW hl => t3_take_0 hC _ _ _ _ _ _ _ h hW (lv_sub hl [0, 1] rfl))
abbrev rm3_named : Room := { frames := 1, cells := 0, slots := 0, locals := 21 }
theorem hdV3_named : yX3_named.cls = RX3 ∧ (yX3_named.cls ≠ "java/lang/invoke/MethodHandle" ∧ yX3_named.cls ≠ "java/lang/invoke/VarHandle" ∧ (parseMethodDescriptor yX3_named.desc).map (fun d => d.parameters.length) = some 1) := by decide +kernel
theorem hin3_named_3 : ∀ x ∈ u_ws RX3 TX3 4, x ∈ wsX3_named := fun _ h => List.mem_cons_of_mem _ (List.mem_append_left _ (List.mem_append_right _ h))
set_option maxRecDepth 100000 in
set_option maxHeartbeats 4000000 in
theorem t3_named_29 (hC : Cx p s m args meth c cX3_named 2 wsX3_named RX3 (some .int)) : ∀ (x1 : Int32) (SG : Ob) (ST : Ob) (res : Int32 × Ob) (H : Heap) (locs : List Loc) (ls : Array Slot), f3_named_29 x1 SG ST = some res → GW D cy ad (w3 cy aG aT aC (.ref (aI 0)) SG ++ (w10 cy aT ST)) A s H locs → lv_has ls 2 [(1, .int x1)] → W p l e rm3_named s m args below meth c H locs 0 0 (MQ below (QI D cy (w3 cy aG aT aC (.ref (aI 0)) (res.2) ++ (w10 cy aT ST)) A (res.1)) args s 0 0 A) (F0 m 29 ls []) := by
  intro x1 SG ST res H locs ls hf hW hl
  unfold f3_named_29 at hf
  refine lv_iload_n hC.1 hC.2.1 dX3_named_29 rfl (lv_at hl 0 rfl) ?_
  obtain rfl := Option.some.inj hf
  exact g_iret hC hW dX3_named_30
set_option maxRecDepth 100000 in
set_option maxHeartbeats 4000000 in
theorem t3_named_0 (hC : Cx p s m args meth c cX3_named 2 wsX3_named RX3 (some .int)) : ∀ (x1 : Int32) (SG : Ob) (ST : Ob) (res : Int32 × Ob) (H : Heap) (locs : List Loc) (ls : Array Slot), f3_named x1 SG ST = some res → GW D cy ad (w3 cy aG aT aC (.ref (aI 0)) SG ++ (w10 cy aT ST)) A s H locs → lv_has ls 2 [(0, .ref (aG 0)), (1, .int x1)] → W p l e rm3_named s m args below meth c H locs 0 0 (MQ below (QI D cy (w3 cy aG aT aC (.ref (aI 0)) (res.2) ++ (w10 cy aT ST)) A (res.1)) args s 0 0 A) (F0 m 0 ls []) := by
  intro x1 SG ST res H locs ls hf hW hl
  unfold f3_named at hf
  refine lv_aload_n hC.1 hC.2.1 dX3_named_0 rfl (lv_at hl 0 rfl) ?_
  refine g_get hC hW hin3_named_3 0 rfl rfl 0 (by decide) 1 rfl rfl dX3_named_1 ?_
  obtain ⟨r_1, hg_2, hf⟩ := bd_of hf
  refine g_calliV (w' := w3 cy aG aT aC (.ref (aI 0)) SG ++ (w10 cy aT ST)) hC hW (c10_isName l D cy ad aT hg_2) (cwV 0 hC.2.2.2.2.1 gX3_named_X10_isName rfl rfl rfl hdV10_isName ⟨Nat.le_of_ble_eq_true rfl, Nat.le_of_ble_eq_true rfl⟩) (⟨[1, 2, 3], [0], [0, 1, 2, 3], w3 cy aG aT aC (.ref (aI 0)) SG, rfl, rfl, rfl, rfl, by decide, rfl, rfl⟩) 0 9 rfl rfl rfl rfl hl.1 rfl (Nat.le_of_ble_eq_true rfl) dX3_named_4 ⟨Nat.zero_le _, Nat.zero_le _⟩ (fun H locs hW => ?_)
  refine lv_if_ne (tgt := 18) hC.1 hC.2.1 dX3_named_7 (by decide) (fun hc_3 => ?_) (fun hc_3 => ?_)
  · have hf := ite_f hf hc_3
    refine lv_iload_n hC.1 hC.2.1 dX3_named_18 rfl (lv_at hl 1 rfl) ?_
    refine lv_iconst (v := (-1)) hC.1 hC.2.1 dX3_named_19 (by decide) ?_
    refine lv_icmp_ne (tgt := 29) hC.1 hC.2.1 dX3_named_20 (by decide) (fun hc_4 => ?_) (fun hc_4 => ?_)
    · have hf := ite_f hf hc_4
      exact t3_named_29 hC  _ _ _ _ _ _ _ hf hW (lv_sub hl [1] rfl)
    · have hf := ite_t hf hc_4
      refine lv_aload_n hC.1 hC.2.1 dX3_named_23 rfl (lv_at hl 0 rfl) ?_
      refine lv_iconst (v := 2) hC.1 hC.2.1 dX3_named_24 (by decide) ?_
      obtain ⟨r_5, hg_6, hf⟩ := bd_of hf
      refine g_calliV (w' := w3 cy aG aT aC (.ref (aI 0)) (r_5.2) ++ (w10 cy aT ST)) hC hW (c3_fail l D cy ad aG aT aC aI hg_6) (cwV 1 hC.2.2.2.2.1 gX3_named_X3_fail rfl rfl rfl hdV3_fail ⟨Nat.le_of_ble_eq_true rfl, Nat.le_of_ble_eq_true rfl⟩) (Sub.all _ _) 0 3 rfl rfl rfl rfl hl.1 rfl (Nat.le_of_ble_eq_true rfl) dX3_named_25 ⟨Nat.zero_le _, Nat.zero_le _⟩ (fun H locs hW => ?_)
      refine lv_pop hC.1 hC.2.1 dX3_named_28 rfl ?_
      exact t3_named_29 hC  _ _ _ _ _ _ _ hf hW (lv_sub hl [1] rfl)
  · have hf := ite_t hf hc_3
    refine lv_aload_n hC.1 hC.2.1 dX3_named_10 rfl (lv_at hl 0 rfl) ?_
    refine lv_iconst (v := 1) hC.1 hC.2.1 dX3_named_11 (by decide) ?_
    obtain ⟨r_7, hg_8, hf⟩ := bd_of hf
    refine g_calliV (w' := w3 cy aG aT aC (.ref (aI 0)) (r_7.2) ++ (w10 cy aT ST)) hC hW (c3_fail l D cy ad aG aT aC aI hg_8) (cwV 1 hC.2.2.2.2.1 gX3_named_X3_fail rfl rfl rfl hdV3_fail ⟨Nat.le_of_ble_eq_true rfl, Nat.le_of_ble_eq_true rfl⟩) (Sub.all _ _) 0 3 rfl rfl rfl rfl hl.1 rfl (Nat.le_of_ble_eq_true rfl) dX3_named_12 ⟨Nat.zero_le _, Nat.zero_le _⟩ (fun H locs hW => ?_)
    refine lv_pop hC.1 hC.2.1 dX3_named_15 rfl ?_
    refine lv_iconst (v := (-1)) hC.1 hC.2.1 dX3_named_16 (by decide) ?_
    obtain rfl := Option.some.inj hf
    exact g_iret hC hW dX3_named_17
set_option maxRecDepth 100000 in
set_option maxHeartbeats 4000000 in
theorem c3_named (l : Launch) (D : va_G) (cy : Nat → ClassId) (ad : Nat → Nat) (aG : Nat → Nat) (aT : Nat → Nat) (aC : Nat → Nat) (aI : Nat → Nat) {x1 : Int32} {SG : Ob} {ST : Ob} {res : Int32 × Ob} (h : f3_named x1 SG ST = some res) : GCi l yX3_named wsX3_named rm3_named [.ref (aG 0), .int x1] D cy ad (w3 cy aG aT aC (.ref (aI 0)) SG ++ (w10 cy aT ST)) (w3 cy aG aT aC (.ref (aI 0)) (res.2) ++ (w10 cy aT ST)) (res.1) := fun sz => GC.start (own := RX3) (Qc := fun A => QI D cy (w3 cy aG aT aC (.ref (aI 0)) (res.2) ++ (w10 cy aT ST)) A (res.1)) sz (by decide) rfl rfl (Nat.le_of_ble_eq_true rfl) (fun p e s m below meth c A ls hC hW hl => t3_named_0 hC _ _ _ _ _ _ _ h hW (lv_sub hl [0, 1] rfl))
abbrev rm3_namedGuest : Room := { frames := 2, cells := 0, slots := 0, locals := 42 }
theorem hdV3_namedGuest : yX3_namedGuest.cls = RX3 ∧ (yX3_namedGuest.cls ≠ "java/lang/invoke/MethodHandle" ∧ yX3_namedGuest.cls ≠ "java/lang/invoke/VarHandle" ∧ (parseMethodDescriptor yX3_namedGuest.desc).map (fun d => d.parameters.length) = some 0) := by decide +kernel
theorem hin3_namedGuest_3 : ∀ x ∈ u_ws RX3 TX3 4, x ∈ wsX3_namedGuest := fun _ h => List.mem_cons_of_mem _ (List.mem_append_left _ (List.mem_append_left _ (List.mem_append_right _ h)))
theorem hin3_namedGuest_10 : ∀ x ∈ u_ws RX10 TX10 8, x ∈ wsX3_namedGuest := fun _ h => List.mem_cons_of_mem _ (List.mem_append_left _ (List.mem_append_right _ h))
set_option maxRecDepth 100000 in
set_option maxHeartbeats 4000000 in
theorem t3_namedGuest_0 (hC : Cx p s m args meth c cX3_namedGuest 1 wsX3_namedGuest RX3 (some .int)) : ∀ (SG : Ob) (ST : Ob) (SI : Ob) (res : Int32 × Ob) (H : Heap) (locs : List Loc) (ls : Array Slot), f3_namedGuest SG ST SI = some res → GW D cy ad (w3 cy aG aT aC (.ref (aI 0)) SG ++ (w10 cy aT ST ++ (w4 cy aI SI))) A s H locs → lv_has ls 1 [(0, .ref (aG 0))] → W p l e rm3_namedGuest s m args below meth c H locs 0 0 (MQ below (QI D cy (w3 cy aG aT aC (.ref (aI 0)) (res.2) ++ (w10 cy aT ST ++ (w4 cy aI SI))) A (res.1)) args s 0 0 A) (F0 m 0 ls []) := by
  intro SG ST SI res H locs ls hf hW hl
  unfold f3_namedGuest at hf
  refine lv_aload_n hC.1 hC.2.1 dX3_namedGuest_0 rfl (lv_at hl 0 rfl) ?_
  refine lv_aload_n hC.1 hC.2.1 dX3_namedGuest_1 rfl (lv_at hl 0 rfl) ?_
  refine g_get hC hW hin3_namedGuest_3 0 rfl rfl 2 (by decide) 1 rfl rfl dX3_namedGuest_2 ?_
  refine lv_aload_n hC.1 hC.2.1 dX3_namedGuest_5 rfl (lv_at hl 0 rfl) ?_
  refine g_get hC hW hin3_namedGuest_3 0 rfl rfl 0 (by decide) 2 rfl rfl dX3_namedGuest_6 ?_
  refine g_get hC hW hin3_namedGuest_10 1 rfl rfl 6 (by decide) 3 rfl rfl dX3_namedGuest_9 ?_
  obtain ⟨r_1, hg_2, hf⟩ := bd_of hf
  refine g_calliV (w' := w3 cy aG aT aC (.ref (aI 0)) SG ++ (w10 cy aT ST ++ (w4 cy aI SI))) hC hW (c4_guestNamed l D cy ad aI hg_2) (cwV 1 hC.2.2.2.2.1 gX3_namedGuest_X4_guestNamed rfl rfl rfl hdV4_guestNamed ⟨Nat.le_of_ble_eq_true rfl, Nat.le_of_ble_eq_true rfl⟩) (⟨[4, 5, 6, 7, 8, 9, 10, 11, 12, 13, 14, 15], [0, 1, 2, 3], [0, 1, 2, 3, 4, 5, 6, 7, 8, 9, 10, 11, 12, 13, 14, 15], w3 cy aG aT aC (.ref (aI 0)) SG ++ (w10 cy aT ST), rfl, rfl, rfl, rfl, by decide, rfl, rfl⟩) 0 4 rfl rfl rfl rfl hl.1 rfl (Nat.le_of_ble_eq_true rfl) dX3_namedGuest_12 ⟨Nat.zero_le _, Nat.zero_le _⟩ (fun H locs hW => ?_)
  obtain ⟨r_3, hg_4, hf⟩ := bd_of hf
  refine g_calliV (w' := w3 cy aG aT aC (.ref (aI 0)) (r_3.2) ++ (w10 cy aT ST ++ (w4 cy aI SI))) hC hW (c3_named l D cy ad aG aT aC aI hg_4) (cwV 1 hC.2.2.2.2.1 gX3_namedGuest_X3_named rfl rfl rfl hdV3_named ⟨Nat.le_of_ble_eq_true rfl, Nat.le_of_ble_eq_true rfl⟩) (⟨[0, 1, 2, 3], [4, 5, 6, 7, 8, 9, 10, 11, 12, 13, 14, 15], [12, 13, 14, 15, 0, 1, 2, 3, 4, 5, 6, 7, 8, 9, 10, 11], w4 cy aI SI, rfl, rfl, rfl, rfl, by decide, rfl, rfl⟩) 0 3 rfl rfl rfl rfl hl.1 rfl (Nat.le_of_ble_eq_true rfl) dX3_namedGuest_15 ⟨Nat.zero_le _, Nat.zero_le _⟩ (fun H locs hW => ?_)
  obtain rfl := Option.some.inj hf
  exact g_iret hC hW dX3_namedGuest_18
set_option maxRecDepth 100000 in
set_option maxHeartbeats 4000000 in
theorem c3_namedGuest (l : Launch) (D : va_G) (cy : Nat → ClassId) (ad : Nat → Nat) (aG : Nat → Nat) (aT : Nat → Nat) (aC : Nat → Nat) (aI : Nat → Nat) {SG : Ob} {ST : Ob} {SI : Ob} {res : Int32 × Ob} (h : f3_namedGuest SG ST SI = some res) : GCi l yX3_namedGuest wsX3_namedGuest rm3_namedGuest [.ref (aG 0)] D cy ad (w3 cy aG aT aC (.ref (aI 0)) SG ++ (w10 cy aT ST ++ (w4 cy aI SI))) (w3 cy aG aT aC (.ref (aI 0)) (res.2) ++ (w10 cy aT ST ++ (w4 cy aI SI))) (res.1) := fun sz => GC.start (own := RX3) (Qc := fun A => QI D cy (w3 cy aG aT aC (.ref (aI 0)) (res.2) ++ (w10 cy aT ST ++ (w4 cy aI SI))) A (res.1)) sz (by decide) rfl rfl (Nat.le_of_ble_eq_true rfl) (fun p e s m below meth c A ls hC hW hl => t3_namedGuest_0 hC _ _ _ _ _ _ _ h hW (lv_sub hl [0] rfl))
abbrev rm3_namedSign : Room := { frames := 2, cells := 0, slots := 0, locals := 42 }
theorem hdV3_namedSign : yX3_namedSign.cls = RX3 ∧ (yX3_namedSign.cls ≠ "java/lang/invoke/MethodHandle" ∧ yX3_namedSign.cls ≠ "java/lang/invoke/VarHandle" ∧ (parseMethodDescriptor yX3_namedSign.desc).map (fun d => d.parameters.length) = some 0) := by decide +kernel
theorem hin3_namedSign_3 : ∀ x ∈ u_ws RX3 TX3 4, x ∈ wsX3_namedSign := fun _ h => List.mem_cons_of_mem _ (List.mem_append_left _ (List.mem_append_left _ (List.mem_append_right _ h)))
theorem hin3_namedSign_10 : ∀ x ∈ u_ws RX10 TX10 8, x ∈ wsX3_namedSign := fun _ h => List.mem_cons_of_mem _ (List.mem_append_left _ (List.mem_append_right _ h))
set_option maxRecDepth 100000 in
set_option maxHeartbeats 4000000 in
theorem t3_namedSign_0 (hC : Cx p s m args meth c cX3_namedSign 1 wsX3_namedSign RX3 (some .int)) : ∀ (SG : Ob) (ST : Ob) (SI : Ob) (res : Int32 × Ob) (H : Heap) (locs : List Loc) (ls : Array Slot), f3_namedSign SG ST SI = some res → GW D cy ad (w3 cy aG aT aC (.ref (aI 0)) SG ++ (w10 cy aT ST ++ (w4 cy aI SI))) A s H locs → lv_has ls 1 [(0, .ref (aG 0))] → W p l e rm3_namedSign s m args below meth c H locs 0 0 (MQ below (QI D cy (w3 cy aG aT aC (.ref (aI 0)) (res.2) ++ (w10 cy aT ST ++ (w4 cy aI SI))) A (res.1)) args s 0 0 A) (F0 m 0 ls []) := by
  intro SG ST SI res H locs ls hf hW hl
  unfold f3_namedSign at hf
  refine lv_aload_n hC.1 hC.2.1 dX3_namedSign_0 rfl (lv_at hl 0 rfl) ?_
  refine lv_aload_n hC.1 hC.2.1 dX3_namedSign_1 rfl (lv_at hl 0 rfl) ?_
  refine g_get hC hW hin3_namedSign_3 0 rfl rfl 2 (by decide) 1 rfl rfl dX3_namedSign_2 ?_
  refine lv_aload_n hC.1 hC.2.1 dX3_namedSign_5 rfl (lv_at hl 0 rfl) ?_
  refine g_get hC hW hin3_namedSign_3 0 rfl rfl 0 (by decide) 2 rfl rfl dX3_namedSign_6 ?_
  refine g_get hC hW hin3_namedSign_10 1 rfl rfl 6 (by decide) 3 rfl rfl dX3_namedSign_9 ?_
  obtain ⟨r_1, hg_2, hf⟩ := bd_of hf
  refine g_calliV (w' := w3 cy aG aT aC (.ref (aI 0)) SG ++ (w10 cy aT ST ++ (w4 cy aI SI))) hC hW (c4_signNamed l D cy ad aI hg_2) (cwV 1 hC.2.2.2.2.1 gX3_namedSign_X4_signNamed rfl rfl rfl hdV4_signNamed ⟨Nat.le_of_ble_eq_true rfl, Nat.le_of_ble_eq_true rfl⟩) (⟨[4, 5, 6, 7, 8, 9, 10, 11, 12, 13, 14, 15], [0, 1, 2, 3], [0, 1, 2, 3, 4, 5, 6, 7, 8, 9, 10, 11, 12, 13, 14, 15], w3 cy aG aT aC (.ref (aI 0)) SG ++ (w10 cy aT ST), rfl, rfl, rfl, rfl, by decide, rfl, rfl⟩) 0 4 rfl rfl rfl rfl hl.1 rfl (Nat.le_of_ble_eq_true rfl) dX3_namedSign_12 ⟨Nat.zero_le _, Nat.zero_le _⟩ (fun H locs hW => ?_)
  obtain ⟨r_3, hg_4, hf⟩ := bd_of hf
  refine g_calliV (w' := w3 cy aG aT aC (.ref (aI 0)) (r_3.2) ++ (w10 cy aT ST ++ (w4 cy aI SI))) hC hW (c3_named l D cy ad aG aT aC aI hg_4) (cwV 1 hC.2.2.2.2.1 gX3_namedSign_X3_named rfl rfl rfl hdV3_named ⟨Nat.le_of_ble_eq_true rfl, Nat.le_of_ble_eq_true rfl⟩) (⟨[0, 1, 2, 3], [4, 5, 6, 7, 8, 9, 10, 11, 12, 13, 14, 15], [12, 13, 14, 15, 0, 1, 2, 3, 4, 5, 6, 7, 8, 9, 10, 11], w4 cy aI SI, rfl, rfl, rfl, rfl, by decide, rfl, rfl⟩) 0 3 rfl rfl rfl rfl hl.1 rfl (Nat.le_of_ble_eq_true rfl) dX3_namedSign_15 ⟨Nat.zero_le _, Nat.zero_le _⟩ (fun H locs hW => ?_)
  obtain rfl := Option.some.inj hf
  exact g_iret hC hW dX3_namedSign_18
set_option maxRecDepth 100000 in
set_option maxHeartbeats 4000000 in
theorem c3_namedSign (l : Launch) (D : va_G) (cy : Nat → ClassId) (ad : Nat → Nat) (aG : Nat → Nat) (aT : Nat → Nat) (aC : Nat → Nat) (aI : Nat → Nat) {SG : Ob} {ST : Ob} {SI : Ob} {res : Int32 × Ob} (h : f3_namedSign SG ST SI = some res) : GCi l yX3_namedSign wsX3_namedSign rm3_namedSign [.ref (aG 0)] D cy ad (w3 cy aG aT aC (.ref (aI 0)) SG ++ (w10 cy aT ST ++ (w4 cy aI SI))) (w3 cy aG aT aC (.ref (aI 0)) (res.2) ++ (w10 cy aT ST ++ (w4 cy aI SI))) (res.1) := fun sz => GC.start (own := RX3) (Qc := fun A => QI D cy (w3 cy aG aT aC (.ref (aI 0)) (res.2) ++ (w10 cy aT ST ++ (w4 cy aI SI))) A (res.1)) sz (by decide) rfl rfl (Nat.le_of_ble_eq_true rfl) (fun p e s m below meth c A ls hC hW hl => t3_namedSign_0 hC _ _ _ _ _ _ _ h hW (lv_sub hl [0] rfl))
end
