/-! laid by program: functions, walks and contracts of 7_add, 7_behind, 7_firstThatCannotBe, 7_leftAtLast, 7_needless -/
theorem dX7_add_0 : decode cX7_add 0 = .ok (.aload_n 0, 1) := by decide +kernel
theorem dX7_add_1 : decode cX7_add 1 = .ok (.getfield 19, 3) := by decide +kernel
theorem dX7_add_4 : decode cX7_add 4 = .ok (.bipush 24, 2) := by decide +kernel
theorem dX7_add_6 : decode cX7_add 6 = .ok (.if_icmp .ge 33, 3) := by decide +kernel
theorem dX7_add_9 : decode cX7_add 9 = .ok (.aload_n 0, 1) := by decide +kernel
theorem dX7_add_10 : decode cX7_add 10 = .ok (.getfield 9, 3) := by decide +kernel
theorem dX7_add_13 : decode cX7_add 13 = .ok (.aload_n 0, 1) := by decide +kernel
theorem dX7_add_14 : decode cX7_add 14 = .ok (.getfield 19, 3) := by decide +kernel
theorem dX7_add_17 : decode cX7_add 17 = .ok (.iload_n 1, 1) := by decide +kernel
theorem dX7_add_18 : decode cX7_add 18 = .ok (.iastore, 1) := by decide +kernel
theorem dX7_add_19 : decode cX7_add 19 = .ok (.aload_n 0, 1) := by decide +kernel
theorem dX7_add_20 : decode cX7_add 20 = .ok (.getfield 15, 3) := by decide +kernel
theorem dX7_add_23 : decode cX7_add 23 = .ok (.aload_n 0, 1) := by decide +kernel
theorem dX7_add_24 : decode cX7_add 24 = .ok (.getfield 19, 3) := by decide +kernel
theorem dX7_add_27 : decode cX7_add 27 = .ok (.iload_n 2, 1) := by decide +kernel
theorem dX7_add_28 : decode cX7_add 28 = .ok (.bastore, 1) := by decide +kernel
theorem dX7_add_29 : decode cX7_add 29 = .ok (.aload_n 0, 1) := by decide +kernel
theorem dX7_add_30 : decode cX7_add 30 = .ok (.dup, 1) := by decide +kernel
theorem dX7_add_31 : decode cX7_add 31 = .ok (.getfield 19, 3) := by decide +kernel
theorem dX7_add_34 : decode cX7_add 34 = .ok (.iconst 1, 1) := by decide +kernel
theorem dX7_add_35 : decode cX7_add 35 = .ok (.iadd, 1) := by decide +kernel
theorem dX7_add_36 : decode cX7_add 36 = .ok (.putfield 19, 3) := by decide +kernel
theorem dX7_add_39 : decode cX7_add 39 = .ok (.return_, 1) := by decide +kernel
theorem dX7_behind_0 : decode cX7_behind 0 = .ok (.aload_n 0, 1) := by decide +kernel
theorem dX7_behind_1 : decode cX7_behind 1 = .ok (.getfield 15, 3) := by decide +kernel
theorem dX7_behind_4 : decode cX7_behind 4 = .ok (.iload_n 1, 1) := by decide +kernel
theorem dX7_behind_5 : decode cX7_behind 5 = .ok (.baload, 1) := by decide +kernel
theorem dX7_behind_6 : decode cX7_behind 6 = .ok (.ifCond .eq 5, 3) := by decide +kernel
theorem dX7_behind_9 : decode cX7_behind 9 = .ok (.iload_n 3, 1) := by decide +kernel
theorem dX7_behind_10 : decode cX7_behind 10 = .ok (.ireturn, 1) := by decide +kernel
theorem dX7_behind_11 : decode cX7_behind 11 = .ok (.iload_n 2, 1) := by decide +kernel
theorem dX7_behind_12 : decode cX7_behind 12 = .ok (.aload_n 0, 1) := by decide +kernel
theorem dX7_behind_13 : decode cX7_behind 13 = .ok (.getfield 9, 3) := by decide +kernel
theorem dX7_behind_16 : decode cX7_behind 16 = .ok (.iload_n 1, 1) := by decide +kernel
theorem dX7_behind_17 : decode cX7_behind 17 = .ok (.iaload, 1) := by decide +kernel
theorem dX7_behind_18 : decode cX7_behind 18 = .ok (.iand, 1) := by decide +kernel
theorem dX7_behind_19 : decode cX7_behind 19 = .ok (.istore 4, 2) := by decide +kernel
theorem dX7_behind_21 : decode cX7_behind 21 = .ok (.iload 4, 2) := by decide +kernel
theorem dX7_behind_23 : decode cX7_behind 23 = .ok (.ifCond .ne 7, 3) := by decide +kernel
theorem dX7_behind_26 : decode cX7_behind 26 = .ok (.iload_n 2, 1) := by decide +kernel
theorem dX7_behind_27 : decode cX7_behind 27 = .ok (.goto 5, 3) := by decide +kernel
theorem dX7_behind_30 : decode cX7_behind 30 = .ok (.iload 4, 2) := by decide +kernel
theorem dX7_behind_32 : decode cX7_behind 32 = .ok (.ireturn, 1) := by decide +kernel
set_option maxRecDepth 20000 in
theorem gX7_firstThatCannotBe_X7_behind : GoodIn wsX7_firstThatCannotBe (wsV RX7 23 RX7 yX7_behind wsX7_behind) := goodIn_r _ [4, 5, 6, 7, 8, 2, 3, 9, 10, 11] rfl (by decide +kernel)
theorem dX7_firstThatCannotBe_0 : decode cX7_firstThatCannotBe 0 = .ok (.iload_n 1, 1) := by decide +kernel
theorem dX7_firstThatCannotBe_1 : decode cX7_firstThatCannotBe 1 = .ok (.istore_n 2, 1) := by decide +kernel
theorem dX7_firstThatCannotBe_2 : decode cX7_firstThatCannotBe 2 = .ok (.iconst 0, 1) := by decide +kernel
theorem dX7_firstThatCannotBe_3 : decode cX7_firstThatCannotBe 3 = .ok (.istore_n 3, 1) := by decide +kernel
theorem dX7_firstThatCannotBe_4 : decode cX7_firstThatCannotBe 4 = .ok (.iload_n 3, 1) := by decide +kernel
theorem dX7_firstThatCannotBe_5 : decode cX7_firstThatCannotBe 5 = .ok (.aload_n 0, 1) := by decide +kernel
theorem dX7_firstThatCannotBe_6 : decode cX7_firstThatCannotBe 6 = .ok (.getfield 19, 3) := by decide +kernel
theorem dX7_firstThatCannotBe_9 : decode cX7_firstThatCannotBe 9 = .ok (.if_icmp .ge 39, 3) := by decide +kernel
theorem dX7_firstThatCannotBe_12 : decode cX7_firstThatCannotBe 12 = .ok (.aload_n 0, 1) := by decide +kernel
theorem dX7_firstThatCannotBe_13 : decode cX7_firstThatCannotBe 13 = .ok (.getfield 15, 3) := by decide +kernel
theorem dX7_firstThatCannotBe_16 : decode cX7_firstThatCannotBe 16 = .ok (.iload_n 3, 1) := by decide +kernel
theorem dX7_firstThatCannotBe_17 : decode cX7_firstThatCannotBe 17 = .ok (.baload, 1) := by decide +kernel
theorem dX7_firstThatCannotBe_18 : decode cX7_firstThatCannotBe 18 = .ok (.ifCond .ne 16, 3) := by decide +kernel
theorem dX7_firstThatCannotBe_21 : decode cX7_firstThatCannotBe 21 = .ok (.iload_n 2, 1) := by decide +kernel
theorem dX7_firstThatCannotBe_22 : decode cX7_firstThatCannotBe 22 = .ok (.aload_n 0, 1) := by decide +kernel
theorem dX7_firstThatCannotBe_23 : decode cX7_firstThatCannotBe 23 = .ok (.getfield 9, 3) := by decide +kernel
theorem dX7_firstThatCannotBe_26 : decode cX7_firstThatCannotBe 26 = .ok (.iload_n 3, 1) := by decide +kernel
theorem dX7_firstThatCannotBe_27 : decode cX7_firstThatCannotBe 27 = .ok (.iaload, 1) := by decide +kernel
theorem dX7_firstThatCannotBe_28 : decode cX7_firstThatCannotBe 28 = .ok (.iand, 1) := by decide +kernel
theorem dX7_firstThatCannotBe_29 : decode cX7_firstThatCannotBe 29 = .ok (.ifCond .ne 5, 3) := by decide +kernel
theorem dX7_firstThatCannotBe_32 : decode cX7_firstThatCannotBe 32 = .ok (.iload_n 3, 1) := by decide +kernel
theorem dX7_firstThatCannotBe_33 : decode cX7_firstThatCannotBe 33 = .ok (.ireturn, 1) := by decide +kernel
theorem dX7_firstThatCannotBe_34 : decode cX7_firstThatCannotBe 34 = .ok (.aload_n 0, 1) := by decide +kernel
theorem dX7_firstThatCannotBe_35 : decode cX7_firstThatCannotBe 35 = .ok (.iload_n 3, 1) := by decide +kernel
theorem dX7_firstThatCannotBe_36 : decode cX7_firstThatCannotBe 36 = .ok (.iload_n 2, 1) := by decide +kernel
theorem dX7_firstThatCannotBe_37 : decode cX7_firstThatCannotBe 37 = .ok (.iload_n 1, 1) := by decide +kernel
theorem dX7_firstThatCannotBe_38 : decode cX7_firstThatCannotBe 38 = .ok (.invokevirtual 23, 3) := by decide +kernel
theorem dX7_firstThatCannotBe_41 : decode cX7_firstThatCannotBe 41 = .ok (.istore_n 2, 1) := by decide +kernel
theorem dX7_firstThatCannotBe_42 : decode cX7_firstThatCannotBe 42 = .ok (.iinc 3 1, 3) := by decide +kernel
theorem dX7_firstThatCannotBe_45 : decode cX7_firstThatCannotBe 45 = .ok (.goto (-41), 3) := by decide +kernel
theorem dX7_firstThatCannotBe_48 : decode cX7_firstThatCannotBe 48 = .ok (.iconst (-1), 1) := by decide +kernel
theorem dX7_firstThatCannotBe_49 : decode cX7_firstThatCannotBe 49 = .ok (.ireturn, 1) := by decide +kernel
set_option maxRecDepth 20000 in
theorem gX7_leftAtLast_X7_behind : GoodIn wsX7_leftAtLast (wsV RX7 23 RX7 yX7_behind wsX7_behind) := goodIn_r _ [2, 3, 4, 5, 6, 7, 8, 9, 10, 11] rfl (by decide +kernel)
theorem dX7_leftAtLast_0 : decode cX7_leftAtLast 0 = .ok (.iload_n 1, 1) := by decide +kernel
theorem dX7_leftAtLast_1 : decode cX7_leftAtLast 1 = .ok (.istore_n 3, 1) := by decide +kernel
theorem dX7_leftAtLast_2 : decode cX7_leftAtLast 2 = .ok (.iconst 0, 1) := by decide +kernel
theorem dX7_leftAtLast_3 : decode cX7_leftAtLast 3 = .ok (.istore 4, 2) := by decide +kernel
theorem dX7_leftAtLast_5 : decode cX7_leftAtLast 5 = .ok (.iload 4, 2) := by decide +kernel
theorem dX7_leftAtLast_7 : decode cX7_leftAtLast 7 = .ok (.aload_n 0, 1) := by decide +kernel
theorem dX7_leftAtLast_8 : decode cX7_leftAtLast 8 = .ok (.getfield 19, 3) := by decide +kernel
theorem dX7_leftAtLast_11 : decode cX7_leftAtLast 11 = .ok (.if_icmp .ge 24, 3) := by decide +kernel
theorem dX7_leftAtLast_14 : decode cX7_leftAtLast 14 = .ok (.iload 4, 2) := by decide +kernel
theorem dX7_leftAtLast_16 : decode cX7_leftAtLast 16 = .ok (.iload_n 2, 1) := by decide +kernel
theorem dX7_leftAtLast_17 : decode cX7_leftAtLast 17 = .ok (.if_icmp .eq 12, 3) := by decide +kernel
theorem dX7_leftAtLast_20 : decode cX7_leftAtLast 20 = .ok (.aload_n 0, 1) := by decide +kernel
theorem dX7_leftAtLast_21 : decode cX7_leftAtLast 21 = .ok (.iload 4, 2) := by decide +kernel
theorem dX7_leftAtLast_23 : decode cX7_leftAtLast 23 = .ok (.iload_n 3, 1) := by decide +kernel
theorem dX7_leftAtLast_24 : decode cX7_leftAtLast 24 = .ok (.iload_n 1, 1) := by decide +kernel
theorem dX7_leftAtLast_25 : decode cX7_leftAtLast 25 = .ok (.invokevirtual 23, 3) := by decide +kernel
theorem dX7_leftAtLast_28 : decode cX7_leftAtLast 28 = .ok (.istore_n 3, 1) := by decide +kernel
theorem dX7_leftAtLast_29 : decode cX7_leftAtLast 29 = .ok (.iinc 4 1, 3) := by decide +kernel
theorem dX7_leftAtLast_32 : decode cX7_leftAtLast 32 = .ok (.goto (-27), 3) := by decide +kernel
theorem dX7_leftAtLast_35 : decode cX7_leftAtLast 35 = .ok (.iload_n 3, 1) := by decide +kernel
theorem dX7_leftAtLast_36 : decode cX7_leftAtLast 36 = .ok (.ireturn, 1) := by decide +kernel
set_option maxRecDepth 20000 in
theorem gX7_needless_X7_leftAtLast : GoodIn wsX7_needless (wsV RX7 27 RX7 yX7_leftAtLast wsX7_leftAtLast) := goodIn_r _ [2, 3, 4, 5, 6, 1, 7, 8, 9, 5, 10, 11, 12, 13, 14, 15] rfl (by decide +kernel)
theorem dX7_needless_0 : decode cX7_needless 0 = .ok (.aload_n 0, 1) := by decide +kernel
theorem dX7_needless_1 : decode cX7_needless 1 = .ok (.iload_n 1, 1) := by decide +kernel
theorem dX7_needless_2 : decode cX7_needless 2 = .ok (.iconst (-1), 1) := by decide +kernel
theorem dX7_needless_3 : decode cX7_needless 3 = .ok (.invokevirtual 27, 3) := by decide +kernel
theorem dX7_needless_6 : decode cX7_needless 6 = .ok (.istore_n 2, 1) := by decide +kernel
theorem dX7_needless_7 : decode cX7_needless 7 = .ok (.iconst 0, 1) := by decide +kernel
theorem dX7_needless_8 : decode cX7_needless 8 = .ok (.istore_n 3, 1) := by decide +kernel
theorem dX7_needless_9 : decode cX7_needless 9 = .ok (.iconst 0, 1) := by decide +kernel
theorem dX7_needless_10 : decode cX7_needless 10 = .ok (.istore 4, 2) := by decide +kernel
theorem dX7_needless_12 : decode cX7_needless 12 = .ok (.iload 4, 2) := by decide +kernel
theorem dX7_needless_14 : decode cX7_needless 14 = .ok (.aload_n 0, 1) := by decide +kernel
theorem dX7_needless_15 : decode cX7_needless 15 = .ok (.getfield 19, 3) := by decide +kernel
theorem dX7_needless_18 : decode cX7_needless 18 = .ok (.if_icmp .ge 27, 3) := by decide +kernel
theorem dX7_needless_21 : decode cX7_needless 21 = .ok (.aload_n 0, 1) := by decide +kernel
theorem dX7_needless_22 : decode cX7_needless 22 = .ok (.iload_n 1, 1) := by decide +kernel
theorem dX7_needless_23 : decode cX7_needless 23 = .ok (.iload 4, 2) := by decide +kernel
theorem dX7_needless_25 : decode cX7_needless 25 = .ok (.invokevirtual 27, 3) := by decide +kernel
theorem dX7_needless_28 : decode cX7_needless 28 = .ok (.iload_n 2, 1) := by decide +kernel
theorem dX7_needless_29 : decode cX7_needless 29 = .ok (.if_icmp .ne 10, 3) := by decide +kernel
theorem dX7_needless_32 : decode cX7_needless 32 = .ok (.iload_n 3, 1) := by decide +kernel
theorem dX7_needless_33 : decode cX7_needless 33 = .ok (.iconst 1, 1) := by decide +kernel
theorem dX7_needless_34 : decode cX7_needless 34 = .ok (.iload 4, 2) := by decide +kernel
theorem dX7_needless_36 : decode cX7_needless 36 = .ok (.ishl, 1) := by decide +kernel
theorem dX7_needless_37 : decode cX7_needless 37 = .ok (.ior, 1) := by decide +kernel
theorem dX7_needless_38 : decode cX7_needless 38 = .ok (.istore_n 3, 1) := by decide +kernel
theorem dX7_needless_39 : decode cX7_needless 39 = .ok (.iinc 4 1, 3) := by decide +kernel
theorem dX7_needless_42 : decode cX7_needless 42 = .ok (.goto (-30), 3) := by decide +kernel
theorem dX7_needless_45 : decode cX7_needless 45 = .ok (.iload_n 3, 1) := by decide +kernel
theorem dX7_needless_46 : decode cX7_needless 46 = .ok (.ireturn, 1) := by decide +kernel
section
variable {p : Program} {l : Launch} {e : Env} {s : State} {m : MethodId} {args : Array Value} {below : List Frame} {meth : Method} {c : Code} {D : va_G} {cy : Nat → ClassId} {ad : Nat → Nat} {A : Nat → Prop} {aM aB aO aI aN aT aC aG aR aQ aK aL aX aH aJ aP aU aE0 aE1 aE2 aE3 : Nat → Nat} {gi : Value}
abbrev rm7_add : Room := { frames := 0, cells := 0, slots := 0, locals := 0 }
theorem hdV7_add : yX7_add.cls = RX7 ∧ (yX7_add.cls ≠ "java/lang/invoke/MethodHandle" ∧ yX7_add.cls ≠ "java/lang/invoke/VarHandle" ∧ (parseMethodDescriptor yX7_add.desc).map (fun d => d.parameters.length) = some 2) := by decide +kernel
theorem hin7_add_7 : ∀ x ∈ u_ws RX7 TX7 3, x ∈ wsX7_add := fun _ h => List.mem_cons_of_mem _ (List.mem_append_right _ h)
set_option maxRecDepth 100000 in
set_option maxHeartbeats 4000000 in
theorem t7_add_39 (hC : Cx p s m args meth c cX7_add 3 wsX7_add RX7 none) : ∀ (SN : Ob) (res : Ob) (H : Heap) (locs : List Loc) (ls : Array Slot), f7_add_39 SN = some res → GW D cy ad (w7 cy aN SN) A s H locs → lv_has ls 3 [] → W p l e rm7_add s m args below meth c H locs 0 0 (MQ below (QV D cy (w7 cy aN res) A) args s 0 0 A) (F0 m 39 ls []) := by
  intro SN res H locs ls hf hW hl
  unfold f7_add_39 at hf
  obtain rfl := Option.some.inj hf
  exact g_vret hC hW dX7_add_39
set_option maxRecDepth 100000 in
set_option maxHeartbeats 4000000 in
theorem t7_add_0 (hC : Cx p s m args meth c cX7_add 3 wsX7_add RX7 none) : ∀ (x1 : Int32) (x2 : Int32) (SN : Ob) (res : Ob) (H : Heap) (locs : List Loc) (ls : Array Slot), f7_add x1 x2 SN = some res → GW D cy ad (w7 cy aN SN) A s H locs → lv_has ls 3 [(0, .ref (aN 0)), (1, .int x1), (2, .int x2)] → W p l e rm7_add s m args below meth c H locs 0 0 (MQ below (QV D cy (w7 cy aN res) A) args s 0 0 A) (F0 m 0 ls []) := by
  intro x1 x2 SN res H locs ls hf hW hl
  unfold f7_add at hf
  refine lv_aload_n hC.1 hC.2.1 dX7_add_0 rfl (lv_at hl 0 rfl) ?_
  refine g_get hC hW hin7_add_7 0 rfl rfl 0 (by decide) 1 rfl rfl dX7_add_1 ?_
  refine lv_bipush (v := 24) hC.1 hC.2.1 dX7_add_4 (by decide) ?_
  refine lv_icmp_ge (tgt := 39) hC.1 hC.2.1 dX7_add_6 (by decide) (fun hc_1 => ?_) (fun hc_1 => ?_)
  · have hf := ite_t hf hc_1
    exact t7_add_39 hC  _ _ _ _ _ hf hW (lv_sub hl [] rfl)
  · have hf := ite_f hf hc_1
    refine lv_aload_n hC.1 hC.2.1 dX7_add_9 rfl (lv_at hl 0 rfl) ?_
    refine g_get hC hW hin7_add_7 0 rfl rfl 1 (by decide) 2 rfl rfl dX7_add_10 ?_
    refine lv_aload_n hC.1 hC.2.1 dX7_add_13 rfl (lv_at hl 0 rfl) ?_
    refine g_get hC hW hin7_add_7 0 rfl rfl 0 (by decide) 1 rfl rfl dX7_add_14 ?_
    refine lv_iload_n hC.1 hC.2.1 dX7_add_17 rfl (lv_at hl 1 rfl) ?_
    obtain ⟨hi_2, hf⟩ := ck_of hf
    obtain ⟨SN_3, eSN_3⟩ : ∃ y : Ob, y = oA SN 1 (Int32.toNatClampNeg (SN.1 0)) x1 := ⟨_, rfl⟩
    have hf := lt_nm hf eSN_3
    refine g_iast hC hW 1 rfl hi_2 (w' := w7 cy aN SN_3) (by rw [eSN_3]; rfl) dX7_add_18 (fun H locs hW => ?_)
    refine lv_aload_n hC.1 hC.2.1 dX7_add_19 rfl (lv_at hl 0 rfl) ?_
    refine g_get hC hW hin7_add_7 0 rfl rfl 2 (by decide) 3 rfl rfl dX7_add_20 ?_
    refine lv_aload_n hC.1 hC.2.1 dX7_add_23 rfl (lv_at hl 0 rfl) ?_
    refine g_get hC hW hin7_add_7 0 rfl rfl 0 (by decide) 1 rfl rfl dX7_add_24 ?_
    refine lv_iload_n hC.1 hC.2.1 dX7_add_27 rfl (lv_at hl 2 rfl) ?_
    obtain ⟨hi_4, hf⟩ := ck_of hf
    obtain ⟨SN_5, eSN_5⟩ : ∃ y : Ob, y = oA SN_3 2 (Int32.toNatClampNeg (SN_3.1 0)) (vp_nar .boolean x2) := ⟨_, rfl⟩
    have hf := lt_nm hf eSN_5
    refine g_zast hC hW 2 rfl hi_4 (w' := w7 cy aN SN_5) (by rw [eSN_5]; rfl) dX7_add_28 (fun H locs hW => ?_)
    refine lv_aload_n hC.1 hC.2.1 dX7_add_29 rfl (lv_at hl 0 rfl) ?_
    refine lv_dup hC.1 hC.2.1 dX7_add_30 rfl ?_
    refine g_get hC hW hin7_add_7 0 rfl rfl 0 (by decide) 1 rfl rfl dX7_add_31 ?_
    refine lv_iconst (v := 1) hC.1 hC.2.1 dX7_add_34 (by decide) ?_
    refine lv_iadd hC.1 hC.2.1 dX7_add_35 ?_
    obtain ⟨SN_6, eSN_6⟩ : ∃ y : Ob, y = oI SN_5 0 ((SN_5.1 0) + 1) := ⟨_, rfl⟩
    have hf := lt_nm hf eSN_6
    refine g_put hC hW hin7_add_7 tyX7 tyX7_ok nmX7 0 rfl rfl 0 (by decide) 1 rfl rfl rfl rfl (Nat.le_of_ble_eq_true rfl) (w' := w7 cy aN SN_6) (by rw [eSN_6]; rfl) dX7_add_36 (fun H locs hW => ?_)
    exact t7_add_39 hC  _ _ _ _ _ hf hW (lv_sub hl [] rfl)
set_option maxRecDepth 100000 in
set_option maxHeartbeats 4000000 in
theorem c7_add (l : Launch) (D : va_G) (cy : Nat → ClassId) (ad : Nat → Nat) (aN : Nat → Nat) {x1 : Int32} {x2 : Int32} {SN : Ob} {res : Ob} (h : f7_add x1 x2 SN = some res) : GCv l yX7_add wsX7_add rm7_add [.ref (aN 0), .int x1, .int x2] D cy ad (w7 cy aN SN) (w7 cy aN res) := fun sz => GC.start (own := RX7) (Qc := fun A => QV D cy (w7 cy aN res) A) sz (by decide) rfl rfl (Nat.le_of_ble_eq_true rfl) (fun p e s m below meth c A ls hC hW hl => t7_add_0 hC _ _ _ _ _ _ _ h hW (lv_sub hl [0, 1, 2] rfl))
abbrev rm7_behind : Room := { frames := 0, cells := 0, slots := 0, locals := 0 }
theorem hdV7_behind : yX7_behind.cls = RX7 ∧ (yX7_behind.cls ≠ "java/lang/invoke/MethodHandle" ∧ yX7_behind.cls ≠ "java/lang/invoke/VarHandle" ∧ (parseMethodDescriptor yX7_behind.desc).map (fun d => d.parameters.length) = some 3) := by decide +kernel
theorem hin7_behind_7 : ∀ x ∈ u_ws RX7 TX7 3, x ∈ wsX7_behind := fun _ h => List.mem_cons_of_mem _ (List.mem_append_right _ h)
set_option maxRecDepth 100000 in
set_option maxHeartbeats 4000000 in
theorem t7_behind_32 (hC : Cx p s m args meth c cX7_behind 5 wsX7_behind RX7 (some .int)) : ∀ (z0 : Int32) (SN : Ob) (res : Int32) (H : Heap) (locs : List Loc) (ls : Array Slot), f7_behind_32 z0 SN = some res → GW D cy ad (w7 cy aN SN) A s H locs → lv_has ls 5 [] → W p l e rm7_behind s m args below meth c H locs 0 0 (MQ below (QI D cy (w7 cy aN SN) A res) args s 0 0 A) (F0 m 32 ls [.int z0]) := by
  intro z0 SN res H locs ls hf hW hl
  unfold f7_behind_32 at hf
  obtain rfl := Option.some.inj hf
  exact g_iret hC hW dX7_behind_32
set_option maxRecDepth 100000 in
set_option maxHeartbeats 4000000 in
theorem t7_behind_0 (hC : Cx p s m args meth c cX7_behind 5 wsX7_behind RX7 (some .int)) : ∀ (x1 : Int32) (x2 : Int32) (x3 : Int32) (SN : Ob) (res : Int32) (H : Heap) (locs : List Loc) (ls : Array Slot), f7_behind x1 x2 x3 SN = some res → GW D cy ad (w7 cy aN SN) A s H locs → lv_has ls 5 [(0, .ref (aN 0)), (1, .int x1), (2, .int x2), (3, .int x3)] → W p l e rm7_behind s m args below meth c H locs 0 0 (MQ below (QI D cy (w7 cy aN SN) A res) args s 0 0 A) (F0 m 0 ls []) := by
  intro x1 x2 x3 SN res H locs ls hf hW hl
  unfold f7_behind at hf
  refine lv_aload_n hC.1 hC.2.1 dX7_behind_0 rfl (lv_at hl 0 rfl) ?_
  refine g_get hC hW hin7_behind_7 0 rfl rfl 2 (by decide) 1 rfl rfl dX7_behind_1 ?_
  refine lv_iload_n hC.1 hC.2.1 dX7_behind_4 rfl (lv_at hl 1 rfl) ?_
  obtain ⟨hi_1, hf⟩ := ck_of hf
  refine g_zald hC hW 2 rfl hi_1 dX7_behind_5 ?_
  refine lv_if_eq (tgt := 11) hC.1 hC.2.1 dX7_behind_6 (by decide) (fun hc_2 => ?_) (fun hc_2 => ?_)
  · have hf := ite_t hf hc_2
    refine lv_iload_n hC.1 hC.2.1 dX7_behind_11 rfl (lv_at hl 2 rfl) ?_
    refine lv_aload_n hC.1 hC.2.1 dX7_behind_12 rfl (lv_at hl 0 rfl) ?_
    refine g_get hC hW hin7_behind_7 0 rfl rfl 1 (by decide) 2 rfl rfl dX7_behind_13 ?_
    refine lv_iload_n hC.1 hC.2.1 dX7_behind_16 rfl (lv_at hl 1 rfl) ?_
    obtain ⟨hi_3, hf⟩ := ck_of hf
    refine g_iald hC hW 1 rfl hi_3 dX7_behind_17 ?_
    refine lv_iand hC.1 hC.2.1 dX7_behind_18 ?_
    refine lv_topi (fun x4_4 ex4_4 => ?_)
    have hf := lt_nm hf ex4_4
    refine lv_istore (lv' := [(4, .int x4_4), (0, .ref (aN 0)), (1, .int x1), (2, .int x2), (3, .int x3)]) hC.1 hC.2.1 dX7_behind_19 hl (by decide) rfl (fun ls hl => ?_)
    refine lv_iload hC.1 hC.2.1 dX7_behind_21 (lv_at hl 0 rfl) ?_
    refine lv_if_ne (tgt := 30) hC.1 hC.2.1 dX7_behind_23 (by decide) (fun hc_5 => ?_) (fun hc_5 => ?_)
    · have hf := ite_f hf hc_5
      refine lv_iload hC.1 hC.2.1 dX7_behind_30 (lv_at hl 0 rfl) ?_
      exact t7_behind_32 hC  _ _ _ _ _ _ hf hW (lv_sub hl [] rfl)
    · have hf := ite_t hf hc_5
      refine lv_iload_n hC.1 hC.2.1 dX7_behind_26 rfl (lv_at hl 3 rfl) ?_
      refine lv_goto (tgt := 32) hC.1 hC.2.1 dX7_behind_27 (by decide) ?_
      exact t7_behind_32 hC  _ _ _ _ _ _ hf hW (lv_sub hl [] rfl)
  · have hf := ite_f hf hc_2
    refine lv_iload_n hC.1 hC.2.1 dX7_behind_9 rfl (lv_at hl 3 rfl) ?_
    obtain rfl := Option.some.inj hf
    exact g_iret hC hW dX7_behind_10
set_option maxRecDepth 100000 in
set_option maxHeartbeats 4000000 in
theorem c7_behind (l : Launch) (D : va_G) (cy : Nat → ClassId) (ad : Nat → Nat) (aN : Nat → Nat) {x1 : Int32} {x2 : Int32} {x3 : Int32} {SN : Ob} {res : Int32} (h : f7_behind x1 x2 x3 SN = some res) : GCi l yX7_behind wsX7_behind rm7_behind [.ref (aN 0), .int x1, .int x2, .int x3] D cy ad (w7 cy aN SN) (w7 cy aN SN) res := fun sz => GC.start (own := RX7) (Qc := fun A => QI D cy (w7 cy aN SN) A res) sz (by decide) rfl rfl (Nat.le_of_ble_eq_true rfl) (fun p e s m below meth c A ls hC hW hl => t7_behind_0 hC _ _ _ _ _ _ _ _ h hW (lv_sub hl [0, 1, 2, 3] rfl))
abbrev rm7_firstThatCannotBe : Room := { frames := 1, cells := 0, slots := 0, locals := 24 }
theorem hdV7_firstThatCannotBe : yX7_firstThatCannotBe.cls = RX7 ∧ (yX7_firstThatCannotBe.cls ≠ "java/lang/invoke/MethodHandle" ∧ yX7_firstThatCannotBe.cls ≠ "java/lang/invoke/VarHandle" ∧ (parseMethodDescriptor yX7_firstThatCannotBe.desc).map (fun d => d.parameters.length) = some 1) := by decide +kernel
theorem hin7_firstThatCannotBe_7 : ∀ x ∈ u_ws RX7 TX7 3, x ∈ wsX7_firstThatCannotBe := fun _ h => List.mem_cons_of_mem _ (List.mem_append_right _ h)
set_option maxRecDepth 100000 in
set_option maxHeartbeats 4000000 in
theorem t7_firstThatCannotBe_34 (hC : Cx p s m args meth c cX7_firstThatCannotBe 4 wsX7_firstThatCannotBe RX7 (some .int)) {k4 : Int32 → Int32 → Int32 → Ob → Option (Int32)} (hk4 : ∀ (x1 : Int32) (x2 : Int32) (x3 : Int32) (SN : Ob) (res : Int32) (H : Heap) (locs : List Loc) (ls : Array Slot), k4 x1 x2 x3 SN = some res → GW D cy ad (w7 cy aN SN) A s H locs → lv_has ls 4 [(0, .ref (aN 0)), (1, .int x1), (2, .int x2), (3, .int x3)] → W p l e rm7_firstThatCannotBe s m args below meth c H locs 0 0 (MQ below (QI D cy (w7 cy aN SN) A res) args s 0 0 A) (F0 m 4 ls [])) : ∀ (x1 : Int32) (x2 : Int32) (x3 : Int32) (SN : Ob) (res : Int32) (H : Heap) (locs : List Loc) (ls : Array Slot), f7_firstThatCannotBe_34 k4 x1 x2 x3 SN = some res → GW D cy ad (w7 cy aN SN) A s H locs → lv_has ls 4 [(0, .ref (aN 0)), (1, .int x1), (2, .int x2), (3, .int x3)] → W p l e rm7_firstThatCannotBe s m args below meth c H locs 0 0 (MQ below (QI D cy (w7 cy aN SN) A res) args s 0 0 A) (F0 m 34 ls []) := by
  intro x1 x2 x3 SN res H locs ls hf hW hl
  unfold f7_firstThatCannotBe_34 at hf
  refine lv_aload_n hC.1 hC.2.1 dX7_firstThatCannotBe_34 rfl (lv_at hl 0 rfl) ?_
  refine lv_iload_n hC.1 hC.2.1 dX7_firstThatCannotBe_35 rfl (lv_at hl 3 rfl) ?_
  refine lv_iload_n hC.1 hC.2.1 dX7_firstThatCannotBe_36 rfl (lv_at hl 2 rfl) ?_
  refine lv_iload_n hC.1 hC.2.1 dX7_firstThatCannotBe_37 rfl (lv_at hl 1 rfl) ?_
  obtain ⟨r_1, hg_2, hf⟩ := bd_of hf
  refine g_calliV (w' := w7 cy aN SN) hC hW (c7_behind l D cy ad aN hg_2) (cwV 3 hC.2.2.2.2.1 gX7_firstThatCannotBe_X7_behind rfl rfl rfl hdV7_behind ⟨Nat.le_of_ble_eq_true rfl, Nat.le_of_ble_eq_true rfl⟩) (Sub.all _ _) 0 6 rfl rfl rfl rfl hl.1 rfl (Nat.le_of_ble_eq_true rfl) dX7_firstThatCannotBe_38 ⟨Nat.zero_le _, Nat.zero_le _⟩ (fun H locs hW => ?_)
  refine lv_istore_n (lv' := [(2, .int r_1), (0, .ref (aN 0)), (1, .int x1), (3, .int x3)]) hC.1 hC.2.1 dX7_firstThatCannotBe_41 rfl hl (by decide) rfl (fun ls hl => ?_)
  obtain ⟨x3_3, ex3_3⟩ : ∃ y : Int32, y = x3 + 1 := ⟨_, rfl⟩
  have hf := lt_nm hf ex3_3
  refine lv_iinc (v := x3_3) (lv' := [(3, .int x3_3), (2, .int r_1), (0, .ref (aN 0)), (1, .int x1)]) hC.1 hC.2.1 dX7_firstThatCannotBe_42 hl (k := 3) rfl (by rw [ex3_3]; rfl) (by decide) rfl (fun ls hl => ?_)
  refine lv_goto (tgt := 4) hC.1 hC.2.1 dX7_firstThatCannotBe_45 (by decide) ?_
  exact hk4 _ _ _ _ _ _ _ _ hf hW (lv_sub hl [2, 3, 1, 0] rfl)
set_option maxRecDepth 100000 in
set_option maxHeartbeats 4000000 in
theorem t7_firstThatCannotBe_4 (hC : Cx p s m args meth c cX7_firstThatCannotBe 4 wsX7_firstThatCannotBe RX7 (some .int)) : ∀ n : Nat, ∀ (x1 : Int32) (x2 : Int32) (x3 : Int32) (SN : Ob) (res : Int32) (H : Heap) (locs : List Loc) (ls : Array Slot), f7_firstThatCannotBe_4 n x1 x2 x3 SN = some res → GW D cy ad (w7 cy aN SN) A s H locs → lv_has ls 4 [(0, .ref (aN 0)), (1, .int x1), (2, .int x2), (3, .int x3)] → W p l e rm7_firstThatCannotBe s m args below meth c H locs 0 0 (MQ below (QI D cy (w7 cy aN SN) A res) args s 0 0 A) (F0 m 4 ls []) := by
  intro n
  induction n with
  | zero =>
    intro _ _ _ _ _ _ _ _ hf _ _
    exact nomatch (show (none : Option (Int32)) = some _ from hf)
  | succ n ih =>
    intro x1 x2 x3 SN res H locs ls hf hW hl
    rw [f7_firstThatCannotBe_4] at hf
    refine lv_iload_n hC.1 hC.2.1 dX7_firstThatCannotBe_4 rfl (lv_at hl 3 rfl) ?_
    refine lv_aload_n hC.1 hC.2.1 dX7_firstThatCannotBe_5 rfl (lv_at hl 0 rfl) ?_
    refine g_get hC hW hin7_firstThatCannotBe_7 0 rfl rfl 0 (by decide) 1 rfl rfl dX7_firstThatCannotBe_6 ?_
    refine lv_icmp_ge (tgt := 48) hC.1 hC.2.1 dX7_firstThatCannotBe_9 (by decide) (fun hc_1 => ?_) (fun hc_1 => ?_)
    · have hf := ite_t hf hc_1
      refine lv_iconst (v := (-1)) hC.1 hC.2.1 dX7_firstThatCannotBe_48 (by decide) ?_
      obtain rfl := Option.some.inj hf
      exact g_iret hC hW dX7_firstThatCannotBe_49
    · have hf := ite_f hf hc_1
      refine lv_aload_n hC.1 hC.2.1 dX7_firstThatCannotBe_12 rfl (lv_at hl 0 rfl) ?_
      refine g_get hC hW hin7_firstThatCannotBe_7 0 rfl rfl 2 (by decide) 2 rfl rfl dX7_firstThatCannotBe_13 ?_
      refine lv_iload_n hC.1 hC.2.1 dX7_firstThatCannotBe_16 rfl (lv_at hl 3 rfl) ?_
      obtain ⟨hi_2, hf⟩ := ck_of hf
      refine g_zald hC hW 2 rfl hi_2 dX7_firstThatCannotBe_17 ?_
      refine lv_if_ne (tgt := 34) hC.1 hC.2.1 dX7_firstThatCannotBe_18 (by decide) (fun hc_3 => ?_) (fun hc_3 => ?_)
      · have hf := ite_f hf hc_3
        exact t7_firstThatCannotBe_34 hC ih  _ _ _ _ _ _ _ _ hf hW (lv_sub hl [0, 1, 2, 3] rfl)
      · have hf := ite_t hf hc_3
        refine lv_iload_n hC.1 hC.2.1 dX7_firstThatCannotBe_21 rfl (lv_at hl 2 rfl) ?_
        refine lv_aload_n hC.1 hC.2.1 dX7_firstThatCannotBe_22 rfl (lv_at hl 0 rfl) ?_
        refine g_get hC hW hin7_firstThatCannotBe_7 0 rfl rfl 1 (by decide) 3 rfl rfl dX7_firstThatCannotBe_23 ?_
        refine lv_iload_n hC.1 hC.2.1 dX7_firstThatCannotBe_26 rfl (lv_at hl 3 rfl) ?_
        obtain ⟨hi_4, hf⟩ := ck_of hf
        refine g_iald hC hW 1 rfl hi_4 dX7_firstThatCannotBe_27 ?_
        refine lv_iand hC.1 hC.2.1 dX7_firstThatCannotBe_28 ?_
        refine lv_if_ne (tgt := 34) hC.1 hC.2.1 dX7_firstThatCannotBe_29 (by decide) (fun hc_5 => ?_) (fun hc_5 => ?_)
        · have hf := ite_f hf hc_5
          exact t7_firstThatCannotBe_34 hC ih  _ _ _ _ _ _ _ _ hf hW (lv_sub hl [0, 1, 2, 3] rfl)
        · have hf := ite_t hf hc_5
          refine lv_iload_n hC.1 hC.2.1 dX7_firstThatCannotBe_32 rfl (lv_at hl 3 rfl) ?_
          obtain rfl := Option.some.inj hf
          exact g_iret hC hW dX7_firstThatCannotBe_33
set_option maxRecDepth 100000 in
set_option maxHeartbeats 4000000 in
theorem t7_firstThatCannotBe_0 (hC : Cx p s m args meth c cX7_firstThatCannotBe 4 wsX7_firstThatCannotBe RX7 (some .int)) : ∀ (x1 : Int32) (SN : Ob) (res : Int32) (H : Heap) (locs : List Loc) (ls : Array Slot), f7_firstThatCannotBe x1 SN = some res → GW D cy ad (w7 cy aN SN) A s H locs → lv_has ls 4 [(0, .ref (aN 0)), (1, .int x1)] → W p l e rm7_firstThatCannotBe s m args below meth c H locs 0 0 (MQ below (QI D cy (w7 cy aN SN) A res) args s 0 0 A) (F0 m 0 ls []) := by
  intro x1 SN res H locs ls hf hW hl
  unfold f7_firstThatCannotBe at hf
  refine lv_iload_n hC.1 hC.2.1 dX7_firstThatCannotBe_0 rfl (lv_at hl 1 rfl) ?_
  refine lv_istore_n (lv' := [(2, .int x1), (0, .ref (aN 0)), (1, .int x1)]) hC.1 hC.2.1 dX7_firstThatCannotBe_1 rfl hl (by decide) rfl (fun ls hl => ?_)
  refine lv_iconst (v := 0) hC.1 hC.2.1 dX7_firstThatCannotBe_2 (by decide) ?_
  refine lv_istore_n (lv' := [(3, .int 0), (2, .int x1), (0, .ref (aN 0)), (1, .int x1)]) hC.1 hC.2.1 dX7_firstThatCannotBe_3 rfl hl (by decide) rfl (fun ls hl => ?_)
  exact t7_firstThatCannotBe_4 hC _ _ _ _ _ _ _ _ _ hf hW (lv_sub hl [2, 3, 1, 0] rfl)
set_option maxRecDepth 100000 in
set_option maxHeartbeats 4000000 in
theorem c7_firstThatCannotBe (l : Launch) (D : va_G) (cy : Nat → ClassId) (ad : Nat → Nat) (aN : Nat → Nat) {x1 : Int32} {SN : Ob} {res : Int32} (h : f7_firstThatCannotBe x1 SN = some res) : GCi l yX7_firstThatCannotBe wsX7_firstThatCannotBe rm7_firstThatCannotBe [.ref (aN 0), .int x1] D cy ad (w7 cy aN SN) (w7 cy aN SN) res := fun sz => GC.start (own := RX7) (Qc := fun A => QI D cy (w7 cy aN SN) A res) sz (by decide) rfl rfl (Nat.le_of_ble_eq_true rfl) (fun p e s m below meth c A ls hC hW hl => t7_firstThatCannotBe_0 hC _ _ _ _ _ _ h hW (lv_sub hl [0, 1] rfl))
abbrev rm7_leftAtLast : Room := { frames := 1, cells := 0, slots := 0, locals := 24 }
theorem hdV7_leftAtLast : yX7_leftAtLast.cls = RX7 ∧ (yX7_leftAtLast.cls ≠ "java/lang/invoke/MethodHandle" ∧ yX7_leftAtLast.cls ≠ "java/lang/invoke/VarHandle" ∧ (parseMethodDescriptor yX7_leftAtLast.desc).map (fun d => d.parameters.length) = some 2) := by decide +kernel
theorem hin7_leftAtLast_7 : ∀ x ∈ u_ws RX7 TX7 3, x ∈ wsX7_leftAtLast := fun _ h => List.mem_cons_of_mem _ (List.mem_append_right _ h)
set_option maxRecDepth 100000 in
set_option maxHeartbeats 4000000 in
theorem t7_leftAtLast_29 (hC : Cx p s m args meth c cX7_leftAtLast 5 wsX7_leftAtLast RX7 (some .int)) {k5 : Int32 → Int32 → Int32 → Int32 → Ob → Option (Int32)} (hk5 : ∀ (x1 : Int32) (x2 : Int32) (x3 : Int32) (x4 : Int32) (SN : Ob) (res : Int32) (H : Heap) (locs : List Loc) (ls : Array Slot), k5 x1 x2 x3 x4 SN = some res → GW D cy ad (w7 cy aN SN) A s H locs → lv_has ls 5 [(0, .ref (aN 0)), (1, .int x1), (2, .int x2), (3, .int x3), (4, .int x4)] → W p l e rm7_leftAtLast s m args below meth c H locs 0 0 (MQ below (QI D cy (w7 cy aN SN) A res) args s 0 0 A) (F0 m 5 ls [])) : ∀ (x1 : Int32) (x2 : Int32) (x3 : Int32) (x4 : Int32) (SN : Ob) (res : Int32) (H : Heap) (locs : List Loc) (ls : Array Slot), f7_leftAtLast_29 k5 x1 x2 x3 x4 SN = some res → GW D cy ad (w7 cy aN SN) A s H locs → lv_has ls 5 [(0, .ref (aN 0)), (1, .int x1), (2, .int x2), (3, .int x3), (4, .int x4)] → W p l e rm7_leftAtLast s m args below meth c H locs 0 0 (MQ below (QI D cy (w7 cy aN SN) A res) args s 0 0 A) (F0 m 29 ls []) := by
  intro x1 x2 x3 x4 SN res H locs ls hf hW hl
  unfold f7_leftAtLast_29 at hf
  obtain ⟨x4_1, ex4_1⟩ : ∃ y : Int32, y = x4 + 1 := ⟨_, rfl⟩
  have hf := lt_nm hf ex4_1
  refine lv_iinc (v := x4_1) (lv' := [(4, .int x4_1), (0, .ref (aN 0)), (1, .int x1), (2, .int x2), (3, .int x3)]) hC.1 hC.2.1 dX7_leftAtLast_29 hl (k := 4) rfl (by rw [ex4_1]; rfl) (by decide) rfl (fun ls hl => ?_)
  refine lv_goto (tgt := 5) hC.1 hC.2.1 dX7_leftAtLast_32 (by decide) ?_
  exact hk5 _ _ _ _ _ _ _ _ _ hf hW (lv_sub hl [1, 2, 3, 4, 0] rfl)
set_option maxRecDepth 100000 in
set_option maxHeartbeats 4000000 in
theorem t7_leftAtLast_5 (hC : Cx p s m args meth c cX7_leftAtLast 5 wsX7_leftAtLast RX7 (some .int)) : ∀ n : Nat, ∀ (x1 : Int32) (x2 : Int32) (x3 : Int32) (x4 : Int32) (SN : Ob) (res : Int32) (H : Heap) (locs : List Loc) (ls : Array Slot), f7_leftAtLast_5 n x1 x2 x3 x4 SN = some res → GW D cy ad (w7 cy aN SN) A s H locs → lv_has ls 5 [(0, .ref (aN 0)), (1, .int x1), (2, .int x2), (3, .int x3), (4, .int x4)] → W p l e rm7_leftAtLast s m args below meth c H locs 0 0 (MQ below (QI D cy (w7 cy aN SN) A res) args s 0 0 A) (F0 m 5 ls []) := by
  intro n
  induction n with
  | zero =>
    intro _ _ _ _ _ _ _ _ _ hf _ _
    exact nomatch (show (none : Option (Int32)) = some _ from hf)
  | succ n ih =>
    intro x1 x2 x3 x4 SN res H locs ls hf hW hl
    rw [f7_leftAtLast_5] at hf
    refine lv_iload hC.1 hC.2.1 dX7_leftAtLast_5 (lv_at hl 4 rfl) ?_
    refine lv_aload_n hC.1 hC.2.1 dX7_leftAtLast_7 rfl (lv_at hl 0 rfl) ?_
    refine g_get hC hW hin7_leftAtLast_7 0 rfl rfl 0 (by decide) 1 rfl rfl dX7_leftAtLast_8 ?_
    refine lv_icmp_ge (tgt := 35) hC.1 hC.2.1 dX7_leftAtLast_11 (by decide) (fun hc_1 => ?_) (fun hc_1 => ?_)
    · have hf := ite_t hf hc_1
      refine lv_iload_n hC.1 hC.2.1 dX7_leftAtLast_35 rfl (lv_at hl 3 rfl) ?_
      obtain rfl := Option.some.inj hf
      exact g_iret hC hW dX7_leftAtLast_36
    · have hf := ite_f hf hc_1
      refine lv_iload hC.1 hC.2.1 dX7_leftAtLast_14 (lv_at hl 4 rfl) ?_
      refine lv_iload_n hC.1 hC.2.1 dX7_leftAtLast_16 rfl (lv_at hl 2 rfl) ?_
      refine lv_icmp_eq (tgt := 29) hC.1 hC.2.1 dX7_leftAtLast_17 (by decide) (fun hc_2 => ?_) (fun hc_2 => ?_)
      · have hf := ite_t hf hc_2
        exact t7_leftAtLast_29 hC ih  _ _ _ _ _ _ _ _ _ hf hW (lv_sub hl [0, 1, 2, 3, 4] rfl)
      · have hf := ite_f hf hc_2
        refine lv_aload_n hC.1 hC.2.1 dX7_leftAtLast_20 rfl (lv_at hl 0 rfl) ?_
        refine lv_iload hC.1 hC.2.1 dX7_leftAtLast_21 (lv_at hl 4 rfl) ?_
        refine lv_iload_n hC.1 hC.2.1 dX7_leftAtLast_23 rfl (lv_at hl 3 rfl) ?_
        refine lv_iload_n hC.1 hC.2.1 dX7_leftAtLast_24 rfl (lv_at hl 1 rfl) ?_
        obtain ⟨r_3, hg_4, hf⟩ := bd_of hf
        refine g_calliV (w' := w7 cy aN SN) hC hW (c7_behind l D cy ad aN hg_4) (cwV 3 hC.2.2.2.2.1 gX7_leftAtLast_X7_behind rfl rfl rfl hdV7_behind ⟨Nat.le_of_ble_eq_true rfl, Nat.le_of_ble_eq_true rfl⟩) (Sub.all _ _) 0 6 rfl rfl rfl rfl hl.1 rfl (Nat.le_of_ble_eq_true rfl) dX7_leftAtLast_25 ⟨Nat.zero_le _, Nat.zero_le _⟩ (fun H locs hW => ?_)
        refine lv_istore_n (lv' := [(3, .int r_3), (0, .ref (aN 0)), (1, .int x1), (2, .int x2), (4, .int x4)]) hC.1 hC.2.1 dX7_leftAtLast_28 rfl hl (by decide) rfl (fun ls hl => ?_)
        exact t7_leftAtLast_29 hC ih  _ _ _ _ _ _ _ _ _ hf hW (lv_sub hl [1, 2, 3, 0, 4] rfl)
set_option maxRecDepth 100000 in
set_option maxHeartbeats 4000000 in
theorem t7_leftAtLast_0 (hC : Cx p s m args meth c cX7_leftAtLast 5 wsX7_leftAtLast RX7 (some .int)) : ∀ (x1 : Int32) (x2 : Int32) (SN : Ob) (res : Int32) (H : Heap) (locs : List Loc) (ls : Array Slot), f7_leftAtLast x1 x2 SN = some res → GW D cy ad (w7 cy aN SN) A s H locs → lv_has ls 5 [(0, .ref (aN 0)), (1, .int x1), (2, .int x2)] → W p l e rm7_leftAtLast s m args below meth c H locs 0 0 (MQ below (QI D cy (w7 cy aN SN) A res) args s 0 0 A) (F0 m 0 ls []) := by
  intro x1 x2 SN res H locs ls hf hW hl
  unfold f7_leftAtLast at hf
  refine lv_iload_n hC.1 hC.2.1 dX7_leftAtLast_0 rfl (lv_at hl 1 rfl) ?_
  refine lv_istore_n (lv' := [(3, .int x1), (0, .ref (aN 0)), (1, .int x1), (2, .int x2)]) hC.1 hC.2.1 dX7_leftAtLast_1 rfl hl (by decide) rfl (fun ls hl => ?_)
  refine lv_iconst (v := 0) hC.1 hC.2.1 dX7_leftAtLast_2 (by decide) ?_
  refine lv_istore (lv' := [(4, .int 0), (3, .int x1), (0, .ref (aN 0)), (1, .int x1), (2, .int x2)]) hC.1 hC.2.1 dX7_leftAtLast_3 hl (by decide) rfl (fun ls hl => ?_)
  exact t7_leftAtLast_5 hC _ _ _ _ _ _ _ _ _ _ hf hW (lv_sub hl [2, 3, 4, 1, 0] rfl)
set_option maxRecDepth 100000 in
set_option maxHeartbeats 4000000 in
theorem c7_leftAtLast (l : Launch) (D : va_G) (cy : Nat → ClassId) (ad : Nat → Nat) (aN : Nat → Nat) {x1 : Int32} {x2 : Int32} {SN : Ob} {res : Int32} (h : f7_leftAtLast x1 x2 SN = some res) : GCi l yX7_leftAtLast wsX7_leftAtLast rm7_leftAtLast [.ref (aN 0), .int x1, .int x2] D cy ad (w7 cy aN SN) (w7 cy aN SN) res := fun sz => GC.start (own := RX7) (Qc := fun A => QI D cy (w7 cy aN SN) A res) sz (by decide) rfl rfl (Nat.le_of_ble_eq_true rfl) (fun p e s m below meth c A ls hC hW hl => t7_leftAtLast_0 hC _ _ _ _ _ _ _ h hW (lv_sub hl [0, 1, 2] rfl))
abbrev rm7_needless : Room := { frames := 2, cells := 0, slots := 0, locals := 48 }
theorem hdV7_needless : yX7_needless.cls = RX7 ∧ (yX7_needless.cls ≠ "java/lang/invoke/MethodHandle" ∧ yX7_needless.cls ≠ "java/lang/invoke/VarHandle" ∧ (parseMethodDescriptor yX7_needless.desc).map (fun d => d.parameters.length) = some 1) := by decide +kernel
theorem hin7_needless_7 : ∀ x ∈ u_ws RX7 TX7 3, x ∈ wsX7_needless := fun _ h => List.mem_cons_of_mem _ (List.mem_append_right _ h)
set_option maxRecDepth 100000 in
set_option maxHeartbeats 4000000 in
theorem t7_needless_39 (hC : Cx p s m args meth c cX7_needless 5 wsX7_needless RX7 (some .int)) {k12 : Int32 → Int32 → Int32 → Int32 → Ob → Option (Int32)} (hk12 : ∀ (x1 : Int32) (x2 : Int32) (x3 : Int32) (x4 : Int32) (SN : Ob) (res : Int32) (H : Heap) (locs : List Loc) (ls : Array Slot), k12 x1 x2 x3 x4 SN = some res → GW D cy ad (w7 cy aN SN) A s H locs → lv_has ls 5 [(0, .ref (aN 0)), (1, .int x1), (2, .int x2), (3, .int x3), (4, .int x4)] → W p l e rm7_needless s m args below meth c H locs 0 0 (MQ below (QI D cy (w7 cy aN SN) A res) args s 0 0 A) (F0 m 12 ls [])) : ∀ (x1 : Int32) (x2 : Int32) (x3 : Int32) (x4 : Int32) (SN : Ob) (res : Int32) (H : Heap) (locs : List Loc) (ls : Array Slot), f7_needless_39 k12 x1 x2 x3 x4 SN = some res → GW D cy ad (w7 cy aN SN) A s H locs → lv_has ls 5 [(0, .ref (aN 0)), (1, .int x1), (2, .int x2), (3, .int x3), (4, .int x4)] → W p l e rm7_needless s m args below meth c H locs 0 0 (MQ below (QI D cy (w7 cy aN SN) A res) args s 0 0 A) (F0 m 39 ls []) := by
  intro x1 x2 x3 x4 SN res H locs ls hf hW hl
  unfold f7_needless_39 at hf
  obtain ⟨x4_1, ex4_1⟩ : ∃ y : Int32, y = x4 + 1 := ⟨_, rfl⟩
  have hf := lt_nm hf ex4_1
  refine lv_iinc (v := x4_1) (lv' := [(4, .int x4_1), (0, .ref (aN 0)), (1, .int x1), (2, .int x2), (3, .int x3)]) hC.1 hC.2.1 dX7_needless_39 hl (k := 4) rfl (by rw [ex4_1]; rfl) (by decide) rfl (fun ls hl => ?_)
  refine lv_goto (tgt := 12) hC.1 hC.2.1 dX7_needless_42 (by decide) ?_
  exact hk12 _ _ _ _ _ _ _ _ _ hf hW (lv_sub hl [1, 2, 3, 4, 0] rfl)
set_option maxRecDepth 100000 in
set_option maxHeartbeats 4000000 in
theorem t7_needless_12 (hC : Cx p s m args meth c cX7_needless 5 wsX7_needless RX7 (some .int)) : ∀ n : Nat, ∀ (x1 : Int32) (x2 : Int32) (x3 : Int32) (x4 : Int32) (SN : Ob) (res : Int32) (H : Heap) (locs : List Loc) (ls : Array Slot), f7_needless_12 n x1 x2 x3 x4 SN = some res → GW D cy ad (w7 cy aN SN) A s H locs → lv_has ls 5 [(0, .ref (aN 0)), (1, .int x1), (2, .int x2), (3, .int x3), (4, .int x4)] → W p l e rm7_needless s m args below meth c H locs 0 0 (MQ below (QI D cy (w7 cy aN SN) A res) args s 0 0 A) (F0 m 12 ls []) := by
  intro n
  induction n with
  | zero =>
    intro _ _ _ _ _ _ _ _ _ hf _ _
    exact nomatch (show (none : Option (Int32)) = some _ from hf)
  | succ n ih =>
    intro x1 x2 x3 x4 SN res H locs ls hf hW hl
    rw [f7_needless_12] at hf
    refine lv_iload hC.1 hC.2.1 dX7_needless_12 (lv_at hl 4 rfl) ?_
    refine lv_aload_n hC.1 hC.2.1 dX7_needless_14 rfl (lv_at hl 0 rfl) ?_
    refine g_get hC hW hin7_needless_7 0 rfl rfl 0 (by decide) 1 rfl rfl dX7_needless_15 ?_
    refine lv_icmp_ge (tgt := 45) hC.1 hC.2.1 dX7_needless_18 (by decide) (fun hc_1 => ?_) (fun hc_1 => ?_)
    · have hf := ite_t hf hc_1
      refine lv_iload_n hC.1 hC.2.1 dX7_needless_45 rfl (lv_at hl 3 rfl) ?_
      obtain rfl := Option.some.inj hf
      exact g_iret hC hW dX7_needless_46
    · have hf := ite_f hf hc_1
      refine lv_aload_n hC.1 hC.2.1 dX7_needless_21 rfl (lv_at hl 0 rfl) ?_
      refine lv_iload_n hC.1 hC.2.1 dX7_needless_22 rfl (lv_at hl 1 rfl) ?_
      refine lv_iload hC.1 hC.2.1 dX7_needless_23 (lv_at hl 4 rfl) ?_
      obtain ⟨r_2, hg_3, hf⟩ := bd_of hf
      refine g_calliV (w' := w7 cy aN SN) hC hW (c7_leftAtLast l D cy ad aN hg_3) (cwV 2 hC.2.2.2.2.1 gX7_needless_X7_leftAtLast rfl rfl rfl hdV7_leftAtLast ⟨Nat.le_of_ble_eq_true rfl, Nat.le_of_ble_eq_true rfl⟩) (Sub.all _ _) 0 6 rfl rfl rfl rfl hl.1 rfl (Nat.le_of_ble_eq_true rfl) dX7_needless_25 ⟨Nat.zero_le _, Nat.zero_le _⟩ (fun H locs hW => ?_)
      refine lv_iload_n hC.1 hC.2.1 dX7_needless_28 rfl (lv_at hl 2 rfl) ?_
      refine lv_icmp_ne (tgt := 39) hC.1 hC.2.1 dX7_needless_29 (by decide) (fun hc_4 => ?_) (fun hc_4 => ?_)
      · have hf := ite_f hf hc_4
        exact t7_needless_39 hC ih  _ _ _ _ _ _ _ _ _ hf hW (lv_sub hl [0, 1, 2, 3, 4] rfl)
      · have hf := ite_t hf hc_4
        refine lv_iload_n hC.1 hC.2.1 dX7_needless_32 rfl (lv_at hl 3 rfl) ?_
        refine lv_iconst (v := 1) hC.1 hC.2.1 dX7_needless_33 (by decide) ?_
        refine lv_iload hC.1 hC.2.1 dX7_needless_34 (lv_at hl 4 rfl) ?_
        refine lv_ishl hC.1 hC.2.1 dX7_needless_36 ?_
        refine lv_ior hC.1 hC.2.1 dX7_needless_37 ?_
        refine lv_topi (fun x3_5 ex3_5 => ?_)
        have hf := lt_nm hf ex3_5
        refine lv_istore_n (lv' := [(3, .int x3_5), (0, .ref (aN 0)), (1, .int x1), (2, .int x2), (4, .int x4)]) hC.1 hC.2.1 dX7_needless_38 rfl hl (by decide) rfl (fun ls hl => ?_)
        exact t7_needless_39 hC ih  _ _ _ _ _ _ _ _ _ hf hW (lv_sub hl [1, 2, 3, 0, 4] rfl)
set_option maxRecDepth 100000 in
set_option maxHeartbeats 4000000 in
theorem t7_needless_0 (hC : Cx p s m args meth c cX7_needless 5 wsX7_needless RX7 (some .int)) : ∀ (x1 : Int32) (SN : Ob) (res : Int32) (H : Heap) (locs : List Loc) (ls : Array Slot), f7_needless x1 SN = some res → GW D cy ad (w7 cy aN SN) A s H locs → lv_has ls 5 [(0, .ref (aN 0)), (1, .int x1)] → W p l e rm7_needless s m args below meth c H locs 0 0 (MQ below (QI D cy (w7 cy aN SN) A res) args s 0 0 A) (F0 m 0 ls []) := by
  intro x1 SN res H locs ls hf hW hl
  unfold f7_needless at hf
  refine lv_aload_n hC.1 hC.2.1 dX7_needless_0 rfl (lv_at hl 0 rfl) ?_
  refine lv_iload_n hC.1 hC.2.1 dX7_needless_1 rfl (lv_at hl 1 rfl) ?_
  refine lv_iconst (v := (-1)) hC.1 hC.2.1 dX7_needless_2 (by decide) ?_
  obtain ⟨r_1, hg_2, hf⟩ := bd_of hf
  refine g_calliV (w' := w7 cy aN SN) hC hW (c7_leftAtLast l D cy ad aN hg_2) (cwV 2 hC.2.2.2.2.1 gX7_needless_X7_leftAtLast rfl rfl rfl hdV7_leftAtLast ⟨Nat.le_of_ble_eq_true rfl, Nat.le_of_ble_eq_true rfl⟩) (Sub.all _ _) 0 6 rfl rfl rfl rfl hl.1 rfl (Nat.le_of_ble_eq_true rfl) dX7_needless_3 ⟨Nat.zero_le _, Nat.zero_le _⟩ (fun H locs hW => ?_)
  refine lv_istore_n (lv' := [(2, .int r_1), (0, .ref (aN 0)), (1, .int x1)]) hC.1 hC.2.1 dX7_needless_6 rfl hl (by decide) rfl (fun ls hl => ?_)
  refine lv_iconst (v := 0) hC.1 hC.2.1 dX7_needless_7 (by decide) ?_
  refine lv_istore_n (lv' := [(3, .int 0), (2, .int r_1), (0, .ref (aN 0)), (1, .int x1)]) hC.1 hC.2.1 dX7_needless_8 rfl hl (by decide) rfl (fun ls hl => ?_)
  refine lv_iconst (v := 0) hC.1 hC.2.1 dX7_needless_9 (by decide) ?_
  refine lv_istore (lv' := [(4, .int 0), (3, .int 0), (2, .int r_1), (0, .ref (aN 0)), (1, .int x1)]) hC.1 hC.2.1 dX7_needless_10 hl (by decide) rfl (fun ls hl => ?_)
  exact t7_needless_12 hC _ _ _ _ _ _ _ _ _ _ hf hW (lv_sub hl [3, 4, 2, 1, 0] rfl)
set_option maxRecDepth 100000 in
set_option maxHeartbeats 4000000 in
theorem c7_needless (l : Launch) (D : va_G) (cy : Nat → ClassId) (ad : Nat → Nat) (aN : Nat → Nat) {x1 : Int32} {SN : Ob} {res : Int32} (h : f7_needless x1 SN = some res) : GCi l yX7_needless wsX7_needless rm7_needless [.ref (aN 0), .int x1] D cy ad (w7 cy aN SN) (w7 cy aN SN) res := fun sz => GC.start (own := RX7) (Qc := fun A => QI D cy (w7 cy aN SN) A res) sz (by decide) rfl rfl (Nat.le_of_ble_eq_true rfl) (fun p e s m below meth c A ls hC hW hl => t7_needless_0 hC _ _ _ _ _ _ h hW (lv_sub hl [0, 1] rfl))
end
