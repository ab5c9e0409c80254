/-! laid by program: functions, walks and contracts of 5_bedFrom -/
set_option maxRecDepth 20000 in
theorem gX5_bedFrom_J6_bitCount_0f7a4 : GoodIn wsX5_bedFrom (va_wsS RX5 34 yJ6_bitCount_0f7a4 wsJ6_bitCount_0f7a4) := goodIn_r _ [5, 6, 7, 8, 9, 10, 11] rfl (by decide +kernel)
set_option maxRecDepth 20000 in
theorem gX5_bedFrom_X5_bedFrom : GoodIn wsX5_bedFrom (va_wsS RX5 30 yX5_bedFrom wsX5_bedFrom) := goodIn_r _ [12, 13, 14, 0, 1, 2, 3, 4, 5, 6, 7, 8, 9, 10, 11, 12, 13, 14, 15, 16, 17, 18, 19, 20, 21, 22, 23, 24, 25, 26, 27, 28, 29, 30] rfl (by decide +kernel)
theorem dX5_bedFrom_0 : decode cX5_bedFrom 0 = .ok (.iload_n 2, 1) := by decide +kernel
theorem dX5_bedFrom_1 : decode cX5_bedFrom 1 = .ok (.aload_n 1, 1) := by decide +kernel
theorem dX5_bedFrom_2 : decode cX5_bedFrom 2 = .ok (.getfield 21, 3) := by decide +kernel
theorem dX5_bedFrom_5 : decode cX5_bedFrom 5 = .ok (.if_icmp .lt 5, 3) := by decide +kernel
theorem dX5_bedFrom_8 : decode cX5_bedFrom 8 = .ok (.iconst 1, 1) := by decide +kernel
theorem dX5_bedFrom_9 : decode cX5_bedFrom 9 = .ok (.ireturn, 1) := by decide +kernel
theorem dX5_bedFrom_10 : decode cX5_bedFrom 10 = .ok (.iconst 0, 1) := by decide +kernel
theorem dX5_bedFrom_11 : decode cX5_bedFrom 11 = .ok (.istore 5, 2) := by decide +kernel
theorem dX5_bedFrom_13 : decode cX5_bedFrom 13 = .ok (.iload 5, 2) := by decide +kernel
theorem dX5_bedFrom_15 : decode cX5_bedFrom 15 = .ok (.iload_n 3, 1) := by decide +kernel
theorem dX5_bedFrom_16 : decode cX5_bedFrom 16 = .ok (.if_icmp .gt 114, 3) := by decide +kernel
theorem dX5_bedFrom_19 : decode cX5_bedFrom 19 = .ok (.iload 5, 2) := by decide +kernel
theorem dX5_bedFrom_21 : decode cX5_bedFrom 21 = .ok (.iload 4, 2) := by decide +kernel
theorem dX5_bedFrom_23 : decode cX5_bedFrom 23 = .ok (.if_icmp .ge 107, 3) := by decide +kernel
theorem dX5_bedFrom_26 : decode cX5_bedFrom 26 = .ok (.iload 5, 2) := by decide +kernel
theorem dX5_bedFrom_28 : decode cX5_bedFrom 28 = .ok (.iload_n 3, 1) := by decide +kernel
theorem dX5_bedFrom_29 : decode cX5_bedFrom 29 = .ok (.if_icmp .ne 7, 3) := by decide +kernel
theorem dX5_bedFrom_32 : decode cX5_bedFrom 32 = .ok (.iconst 0, 1) := by decide +kernel
theorem dX5_bedFrom_33 : decode cX5_bedFrom 33 = .ok (.goto 10, 3) := by decide +kernel
theorem dX5_bedFrom_36 : decode cX5_bedFrom 36 = .ok (.aload_n 0, 1) := by decide +kernel
theorem dX5_bedFrom_37 : decode cX5_bedFrom 37 = .ok (.getfield 15, 3) := by decide +kernel
theorem dX5_bedFrom_40 : decode cX5_bedFrom 40 = .ok (.iload 5, 2) := by decide +kernel
theorem dX5_bedFrom_42 : decode cX5_bedFrom 42 = .ok (.iaload, 1) := by decide +kernel
theorem dX5_bedFrom_43 : decode cX5_bedFrom 43 = .ok (.istore 6, 2) := by decide +kernel
theorem dX5_bedFrom_45 : decode cX5_bedFrom 45 = .ok (.iload 6, 2) := by decide +kernel
theorem dX5_bedFrom_47 : decode cX5_bedFrom 47 = .ok (.invokestatic 34, 3) := by decide +kernel
theorem dX5_bedFrom_50 : decode cX5_bedFrom 50 = .ok (.iconst 3, 1) := by decide +kernel
theorem dX5_bedFrom_51 : decode cX5_bedFrom 51 = .ok (.if_icmp .ge 73, 3) := by decide +kernel
theorem dX5_bedFrom_54 : decode cX5_bedFrom 54 = .ok (.iload 6, 2) := by decide +kernel
theorem dX5_bedFrom_56 : decode cX5_bedFrom 56 = .ok (.aload_n 1, 1) := by decide +kernel
theorem dX5_bedFrom_57 : decode cX5_bedFrom 57 = .ok (.getfield 40, 3) := by decide +kernel
theorem dX5_bedFrom_60 : decode cX5_bedFrom 60 = .ok (.iload_n 2, 1) := by decide +kernel
theorem dX5_bedFrom_61 : decode cX5_bedFrom 61 = .ok (.iaload, 1) := by decide +kernel
theorem dX5_bedFrom_62 : decode cX5_bedFrom 62 = .ok (.iand, 1) := by decide +kernel
theorem dX5_bedFrom_63 : decode cX5_bedFrom 63 = .ok (.ifCond .ne 61, 3) := by decide +kernel
theorem dX5_bedFrom_66 : decode cX5_bedFrom 66 = .ok (.aload_n 0, 1) := by decide +kernel
theorem dX5_bedFrom_67 : decode cX5_bedFrom 67 = .ok (.getfield 15, 3) := by decide +kernel
theorem dX5_bedFrom_70 : decode cX5_bedFrom 70 = .ok (.iload 5, 2) := by decide +kernel
theorem dX5_bedFrom_72 : decode cX5_bedFrom 72 = .ok (.iload 6, 2) := by decide +kernel
theorem dX5_bedFrom_74 : decode cX5_bedFrom 74 = .ok (.iconst 1, 1) := by decide +kernel
theorem dX5_bedFrom_75 : decode cX5_bedFrom 75 = .ok (.iload_n 2, 1) := by decide +kernel
theorem dX5_bedFrom_76 : decode cX5_bedFrom 76 = .ok (.ishl, 1) := by decide +kernel
theorem dX5_bedFrom_77 : decode cX5_bedFrom 77 = .ok (.ior, 1) := by decide +kernel
theorem dX5_bedFrom_78 : decode cX5_bedFrom 78 = .ok (.iastore, 1) := by decide +kernel
theorem dX5_bedFrom_79 : decode cX5_bedFrom 79 = .ok (.aload_n 0, 1) := by decide +kernel
theorem dX5_bedFrom_80 : decode cX5_bedFrom 80 = .ok (.getfield 9, 3) := by decide +kernel
theorem dX5_bedFrom_83 : decode cX5_bedFrom 83 = .ok (.iload_n 2, 1) := by decide +kernel
theorem dX5_bedFrom_84 : decode cX5_bedFrom 84 = .ok (.iload 5, 2) := by decide +kernel
theorem dX5_bedFrom_86 : decode cX5_bedFrom 86 = .ok (.iastore, 1) := by decide +kernel
theorem dX5_bedFrom_87 : decode cX5_bedFrom 87 = .ok (.aload_n 0, 1) := by decide +kernel
theorem dX5_bedFrom_88 : decode cX5_bedFrom 88 = .ok (.aload_n 1, 1) := by decide +kernel
theorem dX5_bedFrom_89 : decode cX5_bedFrom 89 = .ok (.iload_n 2, 1) := by decide +kernel
theorem dX5_bedFrom_90 : decode cX5_bedFrom 90 = .ok (.iconst 1, 1) := by decide +kernel
theorem dX5_bedFrom_91 : decode cX5_bedFrom 91 = .ok (.iadd, 1) := by decide +kernel
theorem dX5_bedFrom_92 : decode cX5_bedFrom 92 = .ok (.iload 5, 2) := by decide +kernel
theorem dX5_bedFrom_94 : decode cX5_bedFrom 94 = .ok (.iload_n 3, 1) := by decide +kernel
theorem dX5_bedFrom_95 : decode cX5_bedFrom 95 = .ok (.if_icmp .ne 9, 3) := by decide +kernel
theorem dX5_bedFrom_98 : decode cX5_bedFrom 98 = .ok (.iload_n 3, 1) := by decide +kernel
theorem dX5_bedFrom_99 : decode cX5_bedFrom 99 = .ok (.iconst 1, 1) := by decide +kernel
theorem dX5_bedFrom_100 : decode cX5_bedFrom 100 = .ok (.iadd, 1) := by decide +kernel
theorem dX5_bedFrom_101 : decode cX5_bedFrom 101 = .ok (.goto 4, 3) := by decide +kernel
theorem dX5_bedFrom_104 : decode cX5_bedFrom 104 = .ok (.iload_n 3, 1) := by decide +kernel
theorem dX5_bedFrom_105 : decode cX5_bedFrom 105 = .ok (.iload 4, 2) := by decide +kernel
theorem dX5_bedFrom_107 : decode cX5_bedFrom 107 = .ok (.invokestatic 30, 3) := by decide +kernel
theorem dX5_bedFrom_110 : decode cX5_bedFrom 110 = .ok (.ifCond .eq 5, 3) := by decide +kernel
theorem dX5_bedFrom_113 : decode cX5_bedFrom 113 = .ok (.iconst 1, 1) := by decide +kernel
theorem dX5_bedFrom_114 : decode cX5_bedFrom 114 = .ok (.ireturn, 1) := by decide +kernel
theorem dX5_bedFrom_115 : decode cX5_bedFrom 115 = .ok (.aload_n 0, 1) := by decide +kernel
theorem dX5_bedFrom_116 : decode cX5_bedFrom 116 = .ok (.getfield 15, 3) := by decide +kernel
theorem dX5_bedFrom_119 : decode cX5_bedFrom 119 = .ok (.iload 5, 2) := by decide +kernel
theorem dX5_bedFrom_121 : decode cX5_bedFrom 121 = .ok (.iload 6, 2) := by decide +kernel
theorem dX5_bedFrom_123 : decode cX5_bedFrom 123 = .ok (.iastore, 1) := by decide +kernel
theorem dX5_bedFrom_124 : decode cX5_bedFrom 124 = .ok (.iinc 5 1, 3) := by decide +kernel
theorem dX5_bedFrom_127 : decode cX5_bedFrom 127 = .ok (.goto (-114), 3) := by decide +kernel
theorem dX5_bedFrom_130 : decode cX5_bedFrom 130 = .ok (.iconst 0, 1) := by decide +kernel
theorem dX5_bedFrom_131 : decode cX5_bedFrom 131 = .ok (.ireturn, 1) := by decide +kernel

section
variable {p : Program} {l : Launch} {e : Env} {s : State} {m : MethodId} {args : Array Value} {below : List Frame} {meth : Method} {c : Code} {D : va_G} {cy : Nat → ClassId} {ad : Nat → Nat} {A : Nat → Prop} {aM aB aO aI aN aT aC aG aR aQ aK aL aX aH aJ aP aU aE0 aE1 aE2 aE3 : Nat → Nat} {gi : Value}
abbrev rm5_bedFrom (dp : Nat) : Room := { frames := 1 + 1 * dp, cells := 0, slots := 0, locals := 20 + 26 * dp }
theorem hdS5_bedFrom : (yX5_bedFrom.cls ≠ "java/lang/invoke/MethodHandle" ∧ yX5_bedFrom.cls ≠ "java/lang/invoke/VarHandle" ∧ (parseMethodDescriptor yX5_bedFrom.desc).map (fun d => d.parameters.length) = some 5) := by decide +kernel
theorem hin5_bedFrom_4 : ∀ x ∈ u_ws RX4 TX4 13, x ∈ wsX5_bedFrom := fun _ h => List.mem_cons_of_mem _ (List.mem_append_left _ (List.mem_append_right _ h))
theorem hin5_bedFrom_5 : ∀ x ∈ u_ws RX5 TX5 3, x ∈ wsX5_bedFrom := fun _ h => List.mem_cons_of_mem _ (List.mem_append_right _ h)
set_option maxRecDepth 100000 in
set_option maxHeartbeats 4000000 in
theorem t5_bedFrom_124 (rec : Int32 → Int32 → Int32 → Ob → Ob → Option (Int32 × Ob)) (hC : Cx p s m args meth c cX5_bedFrom 7 wsX5_bedFrom RX5 (some .boolean)) (dp : Nat) (hrec : ∀ {x2 : Int32} {x3 : Int32} {x4 : Int32} {SL : Ob} {SI : Ob} {res : Int32 × Ob}, rec x2 x3 x4 SL SI = some res → GCi l yX5_bedFrom wsX5_bedFrom (rm5_bedFrom dp) [.ref (aL 0), .ref (aI 0), .int x2, .int x3, .int x4] D cy ad (w5 cy aL SL ++ (w4 cy aI SI)) (w5 cy aL (res.2) ++ (w4 cy aI SI)) (res.1)) {k13 : Int32 → Int32 → Int32 → Int32 → Ob → Ob → Option (Int32 × Ob)} (hk13 : ∀ (x2 : Int32) (x3 : Int32) (x4 : Int32) (x5 : Int32) (SL : Ob) (SI : Ob) (res : Int32 × Ob) (H : Heap) (locs : List Loc) (ls : Array Slot), k13 x2 x3 x4 x5 SL SI = some res → GW D cy ad (w5 cy aL SL ++ (w4 cy aI SI)) A s H locs → lv_has ls 7 [(0, .ref (aL 0)), (1, .ref (aI 0)), (2, .int x2), (3, .int x3), (4, .int x4), (5, .int x5)] → W p l e (rm5_bedFrom (dp + 1)) s m args below meth c H locs 0 0 (MQ below (QI D cy (w5 cy aL (res.2) ++ (w4 cy aI SI)) A (res.1)) args s 0 0 A) (F0 m 13 ls [])) : ∀ (x2 : Int32) (x3 : Int32) (x4 : Int32) (x5 : Int32) (SL : Ob) (SI : Ob) (res : Int32 × Ob) (H : Heap) (locs : List Loc) (ls : Array Slot), f5_bedFrom_124 rec k13 x2 x3 x4 x5 SL SI = some res → GW D cy ad (w5 cy aL SL ++ (w4 cy aI SI)) A s H locs → lv_has ls 7 [(0, .ref (aL 0)), (1, .ref (aI 0)), (2, .int x2), (3, .int x3), (4, .int x4), (5, .int x5)] → W p l e (rm5_bedFrom (dp + 1)) s m args below meth c H locs 0 0 (MQ below (QI D cy (w5 cy aL (res.2) ++ (w4 cy aI SI)) A (res.1)) args s 0 0 A) (F0 m 124 ls []) := by
  intro x2 x3 x4 x5 SL SI res H locs ls hf hW hl
  unfold f5_bedFrom_124 at hf
  obtain ⟨x5_1, ex5_1⟩ : ∃ y : Int32, y = x5 + 1 := ⟨_, rfl⟩
  have hf := lt_nm hf ex5_1
  refine lv_iinc (v := x5_1) (lv' := [(5, .int x5_1), (0, .ref (aL 0)), (1, .ref (aI 0)), (2, .int x2), (3, .int x3), (4, .int x4)]) hC.1 hC.2.1 dX5_bedFrom_124 hl (k := 5) rfl (by rw [ex5_1]; rfl) (by decide) rfl (fun ls hl => ?_)
  refine lv_goto (tgt := 13) hC.1 hC.2.1 dX5_bedFrom_127 (by decide) ?_
  exact hk13 _ _ _ _ _ _ _ _ _ _ hf hW (lv_sub hl [1, 2, 3, 4, 5, 0] rfl)
set_option maxRecDepth 100000 in
set_option maxHeartbeats 4000000 in
theorem t5_bedFrom_105 (rec : Int32 → Int32 → Int32 → Ob → Ob → Option (Int32 × Ob)) (hC : Cx p s m args meth c cX5_bedFrom 7 wsX5_bedFrom RX5 (some .boolean)) (dp : Nat) (hrec : ∀ {x2 : Int32} {x3 : Int32} {x4 : Int32} {SL : Ob} {SI : Ob} {res : Int32 × Ob}, rec x2 x3 x4 SL SI = some res → GCi l yX5_bedFrom wsX5_bedFrom (rm5_bedFrom dp) [.ref (aL 0), .ref (aI 0), .int x2, .int x3, .int x4] D cy ad (w5 cy aL SL ++ (w4 cy aI SI)) (w5 cy aL (res.2) ++ (w4 cy aI SI)) (res.1)) {k13 : Int32 → Int32 → Int32 → Int32 → Ob → Ob → Option (Int32 × Ob)} (hk13 : ∀ (x2 : Int32) (x3 : Int32) (x4 : Int32) (x5 : Int32) (SL : Ob) (SI : Ob) (res : Int32 × Ob) (H : Heap) (locs : List Loc) (ls : Array Slot), k13 x2 x3 x4 x5 SL SI = some res → GW D cy ad (w5 cy aL SL ++ (w4 cy aI SI)) A s H locs → lv_has ls 7 [(0, .ref (aL 0)), (1, .ref (aI 0)), (2, .int x2), (3, .int x3), (4, .int x4), (5, .int x5)] → W p l e (rm5_bedFrom (dp + 1)) s m args below meth c H locs 0 0 (MQ below (QI D cy (w5 cy aL (res.2) ++ (w4 cy aI SI)) A (res.1)) args s 0 0 A) (F0 m 13 ls [])) : ∀ (x2 : Int32) (x3 : Int32) (x4 : Int32) (x5 : Int32) (x6 : Int32) (z2 : Int32) (z3 : Int32) (SL : Ob) (SI : Ob) (res : Int32 × Ob) (H : Heap) (locs : List Loc) (ls : Array Slot), f5_bedFrom_105 rec k13 x2 x3 x4 x5 x6 z2 z3 SL SI = some res → GW D cy ad (w5 cy aL SL ++ (w4 cy aI SI)) A s H locs → lv_has ls 7 [(0, .ref (aL 0)), (1, .ref (aI 0)), (2, .int x2), (3, .int x3), (4, .int x4), (5, .int x5), (6, .int x6)] → W p l e (rm5_bedFrom (dp + 1)) s m args below meth c H locs 0 0 (MQ below (QI D cy (w5 cy aL (res.2) ++ (w4 cy aI SI)) A (res.1)) args s 0 0 A) (F0 m 105 ls [.int z3, .int z2, .ref (aI 0), .ref (aL 0)]) := by
  intro x2 x3 x4 x5 x6 z2 z3 SL SI res H locs ls hf hW hl
  unfold f5_bedFrom_105 at hf
  refine lv_iload hC.1 hC.2.1 dX5_bedFrom_105 (lv_at hl 4 rfl) ?_
  obtain ⟨r_1, hg_2, hf⟩ := bd_of hf
  refine g_calliS (w' := w5 cy aL (r_1.2) ++ (w4 cy aI SI)) hC hW (hrec hg_2) (va_cwS 5 hC.2.2.2.2.1 gX5_bedFrom_X5_bedFrom rfl rfl rfl hdS5_bedFrom ⟨by simp only [rm5_bedFrom]; omega, by simp only [rm5_bedFrom]; omega⟩) (Sub.all _ _) rfl hl.1 rfl (Nat.le_of_ble_eq_true rfl) dX5_bedFrom_107 ⟨Nat.zero_le _, Nat.zero_le _⟩ (fun H locs hW => ?_)
  refine lv_if_eq (tgt := 115) hC.1 hC.2.1 dX5_bedFrom_110 (by decide) (fun hc_3 => ?_) (fun hc_3 => ?_)
  · have hf := ite_t hf hc_3
    refine lv_aload_n hC.1 hC.2.1 dX5_bedFrom_115 rfl (lv_at hl 0 rfl) ?_
    refine g_get hC hW hin5_bedFrom_5 0 rfl rfl 1 (by decide) 2 rfl rfl dX5_bedFrom_116 ?_
    refine lv_iload hC.1 hC.2.1 dX5_bedFrom_119 (lv_at hl 5 rfl) ?_
    refine lv_iload hC.1 hC.2.1 dX5_bedFrom_121 (lv_at hl 6 rfl) ?_
    obtain ⟨hi_4, hf⟩ := ck_of hf
    obtain ⟨SL_5, eSL_5⟩ : ∃ y : Ob, y = oA (r_1.2) 1 (Int32.toNatClampNeg x5) x6 := ⟨_, rfl⟩
    have hf := lt_nm hf eSL_5
    refine g_iast hC hW 2 rfl hi_4 (w' := w5 cy aL SL_5 ++ (w4 cy aI SI)) (by rw [eSL_5]; rfl) dX5_bedFrom_123 (fun H locs hW => ?_)
    exact t5_bedFrom_124 rec hC dp hrec hk13  _ _ _ _ _ _ _ _ _ _ hf hW (lv_sub hl [0, 1, 2, 3, 4, 5] rfl)
  · have hf := ite_f hf hc_3
    refine lv_iconst (v := 1) hC.1 hC.2.1 dX5_bedFrom_113 (by decide) ?_
    obtain rfl := Option.some.inj hf
    exact g_zret (v := 1) hC hW (by decide) dX5_bedFrom_114
set_option maxRecDepth 100000 in
set_option maxHeartbeats 4000000 in
theorem t5_bedFrom_43 (rec : Int32 → Int32 → Int32 → Ob → Ob → Option (Int32 × Ob)) (hC : Cx p s m args meth c cX5_bedFrom 7 wsX5_bedFrom RX5 (some .boolean)) (dp : Nat) (hrec : ∀ {x2 : Int32} {x3 : Int32} {x4 : Int32} {SL : Ob} {SI : Ob} {res : Int32 × Ob}, rec x2 x3 x4 SL SI = some res → GCi l yX5_bedFrom wsX5_bedFrom (rm5_bedFrom dp) [.ref (aL 0), .ref (aI 0), .int x2, .int x3, .int x4] D cy ad (w5 cy aL SL ++ (w4 cy aI SI)) (w5 cy aL (res.2) ++ (w4 cy aI SI)) (res.1)) {k13 : Int32 → Int32 → Int32 → Int32 → Ob → Ob → Option (Int32 × Ob)} (hk13 : ∀ (x2 : Int32) (x3 : Int32) (x4 : Int32) (x5 : Int32) (SL : Ob) (SI : Ob) (res : Int32 × Ob) (H : Heap) (locs : List Loc) (ls : Array Slot), k13 x2 x3 x4 x5 SL SI = some res → GW D cy ad (w5 cy aL SL ++ (w4 cy aI SI)) A s H locs → lv_has ls 7 [(0, .ref (aL 0)), (1, .ref (aI 0)), (2, .int x2), (3, .int x3), (4, .int x4), (5, .int x5)] → W p l e (rm5_bedFrom (dp + 1)) s m args below meth c H locs 0 0 (MQ below (QI D cy (w5 cy aL (res.2) ++ (w4 cy aI SI)) A (res.1)) args s 0 0 A) (F0 m 13 ls [])) : ∀ (x2 : Int32) (x3 : Int32) (x4 : Int32) (x5 : Int32) (z0 : Int32) (SL : Ob) (SI : Ob) (res : Int32 × Ob) (H : Heap) (locs : List Loc) (ls : Array Slot), f5_bedFrom_43 rec k13 x2 x3 x4 x5 z0 SL SI = some res → GW D cy ad (w5 cy aL SL ++ (w4 cy aI SI)) A s H locs → lv_has ls 7 [(0, .ref (aL 0)), (1, .ref (aI 0)), (2, .int x2), (3, .int x3), (4, .int x4), (5, .int x5)] → W p l e (rm5_bedFrom (dp + 1)) s m args below meth c H locs 0 0 (MQ below (QI D cy (w5 cy aL (res.2) ++ (w4 cy aI SI)) A (res.1)) args s 0 0 A) (F0 m 43 ls [.int z0]) := by
  intro x2 x3 x4 x5 z0 SL SI res H locs ls hf hW hl
  unfold f5_bedFrom_43 at hf
  refine lv_istore (lv' := [(6, .int z0), (0, .ref (aL 0)), (1, .ref (aI 0)), (2, .int x2), (3, .int x3), (4, .int x4), (5, .int x5)]) hC.1 hC.2.1 dX5_bedFrom_43 hl (by decide) rfl (fun ls hl => ?_)
  refine lv_iload hC.1 hC.2.1 dX5_bedFrom_45 (lv_at hl 0 rfl) ?_
  obtain ⟨r_1, hg_2, hf⟩ := bd_of hf
  refine g_calliS (w' := w5 cy aL SL ++ (w4 cy aI SI)) hC hW (cj6_bitCount l D cy ad  hg_2) (va_cwS 1 hC.2.2.2.2.1 gX5_bedFrom_J6_bitCount_0f7a4 rfl rfl rfl hdSj6_bitCount ⟨by simp only [rm5_bedFrom, rmj6_bitCount]; omega, by simp only [rm5_bedFrom, rmj6_bitCount]; omega⟩) (Sub.nil _) rfl hl.1 rfl (Nat.le_of_ble_eq_true rfl) dX5_bedFrom_47 ⟨Nat.zero_le _, Nat.zero_le _⟩ (fun H locs hW => ?_)
  refine lv_iconst (v := 3) hC.1 hC.2.1 dX5_bedFrom_50 (by decide) ?_
  refine lv_icmp_ge (tgt := 124) hC.1 hC.2.1 dX5_bedFrom_51 (by decide) (fun hc_3 => ?_) (fun hc_3 => ?_)
  · have hf := ite_t hf hc_3
    exact t5_bedFrom_124 rec hC dp hrec hk13  _ _ _ _ _ _ _ _ _ _ hf hW (lv_sub hl [1, 2, 3, 4, 5, 6] rfl)
  · have hf := ite_f hf hc_3
    refine lv_iload hC.1 hC.2.1 dX5_bedFrom_54 (lv_at hl 0 rfl) ?_
    refine lv_aload_n hC.1 hC.2.1 dX5_bedFrom_56 rfl (lv_at hl 2 rfl) ?_
    refine g_get hC hW hin5_bedFrom_4 4 rfl rfl 6 (by decide) 3 rfl rfl dX5_bedFrom_57 ?_
    refine lv_iload_n hC.1 hC.2.1 dX5_bedFrom_60 rfl (lv_at hl 3 rfl) ?_
    obtain ⟨hi_4, hf⟩ := ck_of hf
    refine g_iald hC hW 10 rfl hi_4 dX5_bedFrom_61 ?_
    refine lv_iand hC.1 hC.2.1 dX5_bedFrom_62 ?_
    refine lv_if_ne (tgt := 124) hC.1 hC.2.1 dX5_bedFrom_63 (by decide) (fun hc_5 => ?_) (fun hc_5 => ?_)
    · have hf := ite_f hf hc_5
      exact t5_bedFrom_124 rec hC dp hrec hk13  _ _ _ _ _ _ _ _ _ _ hf hW (lv_sub hl [1, 2, 3, 4, 5, 6] rfl)
    · have hf := ite_t hf hc_5
      refine lv_aload_n hC.1 hC.2.1 dX5_bedFrom_66 rfl (lv_at hl 1 rfl) ?_
      refine g_get hC hW hin5_bedFrom_5 0 rfl rfl 1 (by decide) 2 rfl rfl dX5_bedFrom_67 ?_
      refine lv_iload hC.1 hC.2.1 dX5_bedFrom_70 (lv_at hl 6 rfl) ?_
      refine lv_iload hC.1 hC.2.1 dX5_bedFrom_72 (lv_at hl 0 rfl) ?_
      refine lv_iconst (v := 1) hC.1 hC.2.1 dX5_bedFrom_74 (by decide) ?_
      refine lv_iload_n hC.1 hC.2.1 dX5_bedFrom_75 rfl (lv_at hl 3 rfl) ?_
      refine lv_ishl hC.1 hC.2.1 dX5_bedFrom_76 ?_
      refine lv_ior hC.1 hC.2.1 dX5_bedFrom_77 ?_
      obtain ⟨hi_6, hf⟩ := ck_of hf
      obtain ⟨SL_7, eSL_7⟩ : ∃ y : Ob, y = oA SL 1 (Int32.toNatClampNeg x5) (z0 ||| (1 <<< (x2 &&& 31))) := ⟨_, rfl⟩
      have hf := lt_nm hf eSL_7
      refine g_iast hC hW 2 rfl hi_6 (w' := w5 cy aL SL_7 ++ (w4 cy aI SI)) (by rw [eSL_7]; rfl) dX5_bedFrom_78 (fun H locs hW => ?_)
      refine lv_aload_n hC.1 hC.2.1 dX5_bedFrom_79 rfl (lv_at hl 1 rfl) ?_
      refine g_get hC hW hin5_bedFrom_5 0 rfl rfl 0 (by decide) 4 rfl rfl dX5_bedFrom_80 ?_
      refine lv_iload_n hC.1 hC.2.1 dX5_bedFrom_83 rfl (lv_at hl 3 rfl) ?_
      refine lv_iload hC.1 hC.2.1 dX5_bedFrom_84 (lv_at hl 6 rfl) ?_
      obtain ⟨hi_8, hf⟩ := ck_of hf
      obtain ⟨SL_9, eSL_9⟩ : ∃ y : Ob, y = oA SL_7 0 (Int32.toNatClampNeg x2) x5 := ⟨_, rfl⟩
      have hf := lt_nm hf eSL_9
      refine g_iast hC hW 1 rfl hi_8 (w' := w5 cy aL SL_9 ++ (w4 cy aI SI)) (by rw [eSL_9]; rfl) dX5_bedFrom_86 (fun H locs hW => ?_)
      refine lv_aload_n hC.1 hC.2.1 dX5_bedFrom_87 rfl (lv_at hl 1 rfl) ?_
      refine lv_aload_n hC.1 hC.2.1 dX5_bedFrom_88 rfl (lv_at hl 2 rfl) ?_
      refine lv_iload_n hC.1 hC.2.1 dX5_bedFrom_89 rfl (lv_at hl 3 rfl) ?_
      refine lv_iconst (v := 1) hC.1 hC.2.1 dX5_bedFrom_90 (by decide) ?_
      refine lv_iadd hC.1 hC.2.1 dX5_bedFrom_91 ?_
      refine lv_iload hC.1 hC.2.1 dX5_bedFrom_92 (lv_at hl 6 rfl) ?_
      refine lv_iload_n hC.1 hC.2.1 dX5_bedFrom_94 rfl (lv_at hl 4 rfl) ?_
      refine lv_icmp_ne (tgt := 104) hC.1 hC.2.1 dX5_bedFrom_95 (by decide) (fun hc_10 => ?_) (fun hc_10 => ?_)
      · have hf := ite_f hf hc_10
        refine lv_iload_n hC.1 hC.2.1 dX5_bedFrom_104 rfl (lv_at hl 4 rfl) ?_
        exact t5_bedFrom_105 rec hC dp hrec hk13  _ _ _ _ _ _ _ _ _ _ _ _ _ hf hW (lv_sub hl [1, 2, 3, 4, 5, 6, 0] rfl)
      · have hf := ite_t hf hc_10
        refine lv_iload_n hC.1 hC.2.1 dX5_bedFrom_98 rfl (lv_at hl 4 rfl) ?_
        refine lv_iconst (v := 1) hC.1 hC.2.1 dX5_bedFrom_99 (by decide) ?_
        refine lv_iadd hC.1 hC.2.1 dX5_bedFrom_100 ?_
        refine lv_goto (tgt := 105) hC.1 hC.2.1 dX5_bedFrom_101 (by decide) ?_
        exact t5_bedFrom_105 rec hC dp hrec hk13  _ _ _ _ _ _ _ _ _ _ _ _ _ hf hW (lv_sub hl [1, 2, 3, 4, 5, 6, 0] rfl)
set_option maxRecDepth 100000 in
set_option maxHeartbeats 4000000 in
theorem t5_bedFrom_130 (rec : Int32 → Int32 → Int32 → Ob → Ob → Option (Int32 × Ob)) (hC : Cx p s m args meth c cX5_bedFrom 7 wsX5_bedFrom RX5 (some .boolean)) (dp : Nat) (hrec : ∀ {x2 : Int32} {x3 : Int32} {x4 : Int32} {SL : Ob} {SI : Ob} {res : Int32 × Ob}, rec x2 x3 x4 SL SI = some res → GCi l yX5_bedFrom wsX5_bedFrom (rm5_bedFrom dp) [.ref (aL 0), .ref (aI 0), .int x2, .int x3, .int x4] D cy ad (w5 cy aL SL ++ (w4 cy aI SI)) (w5 cy aL (res.2) ++ (w4 cy aI SI)) (res.1)) : ∀ (SL : Ob) (SI : Ob) (res : Int32 × Ob) (H : Heap) (locs : List Loc) (ls : Array Slot), f5_bedFrom_130 rec SL SI = some res → GW D cy ad (w5 cy aL SL ++ (w4 cy aI SI)) A s H locs → lv_has ls 7 [] → W p l e (rm5_bedFrom (dp + 1)) s m args below meth c H locs 0 0 (MQ below (QI D cy (w5 cy aL (res.2) ++ (w4 cy aI SI)) A (res.1)) args s 0 0 A) (F0 m 130 ls []) := by
  intro SL SI res H locs ls hf hW hl
  unfold f5_bedFrom_130 at hf
  refine lv_iconst (v := 0) hC.1 hC.2.1 dX5_bedFrom_130 (by decide) ?_
  obtain rfl := Option.some.inj hf
  exact g_zret (v := 0) hC hW (by decide) dX5_bedFrom_131
set_option maxRecDepth 100000 in
set_option maxHeartbeats 4000000 in
theorem t5_bedFrom_13 (rec : Int32 → Int32 → Int32 → Ob → Ob → Option (Int32 × Ob)) (hC : Cx p s m args meth c cX5_bedFrom 7 wsX5_bedFrom RX5 (some .boolean)) (dp : Nat) (hrec : ∀ {x2 : Int32} {x3 : Int32} {x4 : Int32} {SL : Ob} {SI : Ob} {res : Int32 × Ob}, rec x2 x3 x4 SL SI = some res → GCi l yX5_bedFrom wsX5_bedFrom (rm5_bedFrom dp) [.ref (aL 0), .ref (aI 0), .int x2, .int x3, .int x4] D cy ad (w5 cy aL SL ++ (w4 cy aI SI)) (w5 cy aL (res.2) ++ (w4 cy aI SI)) (res.1)) : ∀ n : Nat, ∀ (x2 : Int32) (x3 : Int32) (x4 : Int32) (x5 : Int32) (SL : Ob) (SI : Ob) (res : Int32 × Ob) (H : Heap) (locs : List Loc) (ls : Array Slot), f5_bedFrom_13 rec n x2 x3 x4 x5 SL SI = some res → GW D cy ad (w5 cy aL SL ++ (w4 cy aI SI)) A s H locs → lv_has ls 7 [(0, .ref (aL 0)), (1, .ref (aI 0)), (2, .int x2), (3, .int x3), (4, .int x4), (5, .int x5)] → W p l e (rm5_bedFrom (dp + 1)) s m args below meth c H locs 0 0 (MQ below (QI D cy (w5 cy aL (res.2) ++ (w4 cy aI SI)) A (res.1)) args s 0 0 A) (F0 m 13 ls []) := by
  intro n
  induction n with
  | zero =>
    intro _ _ _ _ _ _ _ _ _ _ hf _ _
    exact nomatch (show (none : Option (Int32 × Ob)) = some _ from hf)
  | succ n ih =>
    intro x2 x3 x4 x5 SL SI res H locs ls hf hW hl
    rw [f5_bedFrom_13] at hf
    refine lv_iload hC.1 hC.2.1 dX5_bedFrom_13 (lv_at hl 5 rfl) ?_
    refine lv_iload_n hC.1 hC.2.1 dX5_bedFrom_15 rfl (lv_at hl 3 rfl) ?_
    refine lv_icmp_gt (tgt := 130) hC.1 hC.2.1 dX5_bedFrom_16 (by decide) (fun hc_1 => ?_) (fun hc_1 => ?_)
    · have hf := ite_t hf hc_1
      exact t5_bedFrom_130 rec hC dp hrec  _ _ _ _ _ _ hf hW (lv_sub hl [] rfl)
    · have hf := ite_f hf hc_1
      refine lv_iload hC.1 hC.2.1 dX5_bedFrom_19 (lv_at hl 5 rfl) ?_
      refine lv_iload hC.1 hC.2.1 dX5_bedFrom_21 (lv_at hl 4 rfl) ?_
      refine lv_icmp_ge (tgt := 130) hC.1 hC.2.1 dX5_bedFrom_23 (by decide) (fun hc_2 => ?_) (fun hc_2 => ?_)
      · have hf := ite_t hf hc_2
        exact t5_bedFrom_130 rec hC dp hrec  _ _ _ _ _ _ hf hW (lv_sub hl [] rfl)
      · have hf := ite_f hf hc_2
        refine lv_iload hC.1 hC.2.1 dX5_bedFrom_26 (lv_at hl 5 rfl) ?_
        refine lv_iload_n hC.1 hC.2.1 dX5_bedFrom_28 rfl (lv_at hl 3 rfl) ?_
        refine lv_icmp_ne (tgt := 36) hC.1 hC.2.1 dX5_bedFrom_29 (by decide) (fun hc_3 => ?_) (fun hc_3 => ?_)
        · have hf := ite_f hf hc_3
          refine lv_aload_n hC.1 hC.2.1 dX5_bedFrom_36 rfl (lv_at hl 0 rfl) ?_
          refine g_get hC hW hin5_bedFrom_5 0 rfl rfl 1 (by decide) 2 rfl rfl dX5_bedFrom_37 ?_
          refine lv_iload hC.1 hC.2.1 dX5_bedFrom_40 (lv_at hl 5 rfl) ?_
          obtain ⟨hi_4, hf⟩ := ck_of hf
          refine g_iald hC hW 2 rfl hi_4 dX5_bedFrom_42 ?_
          exact t5_bedFrom_43 rec hC dp hrec ih  _ _ _ _ _ _ _ _ _ _ _ hf hW (lv_sub hl [0, 1, 2, 3, 4, 5] rfl)
        · have hf := ite_t hf hc_3
          refine lv_iconst (v := 0) hC.1 hC.2.1 dX5_bedFrom_32 (by decide) ?_
          refine lv_goto (tgt := 43) hC.1 hC.2.1 dX5_bedFrom_33 (by decide) ?_
          exact t5_bedFrom_43 rec hC dp hrec ih  _ _ _ _ _ _ _ _ _ _ _ hf hW (lv_sub hl [0, 1, 2, 3, 4, 5] rfl)
set_option maxRecDepth 100000 in
set_option maxHeartbeats 4000000 in
theorem t5_bedFrom_0 (rec : Int32 → Int32 → Int32 → Ob → Ob → Option (Int32 × Ob)) (hC : Cx p s m args meth c cX5_bedFrom 7 wsX5_bedFrom RX5 (some .boolean)) (dp : Nat) (hrec : ∀ {x2 : Int32} {x3 : Int32} {x4 : Int32} {SL : Ob} {SI : Ob} {res : Int32 × Ob}, rec x2 x3 x4 SL SI = some res → GCi l yX5_bedFrom wsX5_bedFrom (rm5_bedFrom dp) [.ref (aL 0), .ref (aI 0), .int x2, .int x3, .int x4] D cy ad (w5 cy aL SL ++ (w4 cy aI SI)) (w5 cy aL (res.2) ++ (w4 cy aI SI)) (res.1)) : ∀ (x2 : Int32) (x3 : Int32) (x4 : Int32) (SL : Ob) (SI : Ob) (res : Int32 × Ob) (H : Heap) (locs : List Loc) (ls : Array Slot), f5_bedFrom_b rec x2 x3 x4 SL SI = some res → GW D cy ad (w5 cy aL SL ++ (w4 cy aI SI)) A s H locs → lv_has ls 7 [(0, .ref (aL 0)), (1, .ref (aI 0)), (2, .int x2), (3, .int x3), (4, .int x4)] → W p l e (rm5_bedFrom (dp + 1)) s m args below meth c H locs 0 0 (MQ below (QI D cy (w5 cy aL (res.2) ++ (w4 cy aI SI)) A (res.1)) args s 0 0 A) (F0 m 0 ls []) := by
  intro x2 x3 x4 SL SI res H locs ls hf hW hl
  unfold f5_bedFrom_b at hf
  refine lv_iload_n hC.1 hC.2.1 dX5_bedFrom_0 rfl (lv_at hl 2 rfl) ?_
  refine lv_aload_n hC.1 hC.2.1 dX5_bedFrom_1 rfl (lv_at hl 1 rfl) ?_
  refine g_get hC hW hin5_bedFrom_4 4 rfl rfl 0 (by decide) 1 rfl rfl dX5_bedFrom_2 ?_
  refine lv_icmp_lt (tgt := 10) hC.1 hC.2.1 dX5_bedFrom_5 (by decide) (fun hc_1 => ?_) (fun hc_1 => ?_)
  · have hf := ite_t hf hc_1
    refine lv_iconst (v := 0) hC.1 hC.2.1 dX5_bedFrom_10 (by decide) ?_
    refine lv_istore (lv' := [(5, .int 0), (0, .ref (aL 0)), (1, .ref (aI 0)), (2, .int x2), (3, .int x3), (4, .int x4)]) hC.1 hC.2.1 dX5_bedFrom_11 hl (by decide) rfl (fun ls hl => ?_)
    exact t5_bedFrom_13 rec hC dp hrec _ _ _ _ _ _ _ _ _ _ _ hf hW (lv_sub hl [1, 2, 3, 4, 5, 0] rfl)
  · have hf := ite_f hf hc_1
    refine lv_iconst (v := 1) hC.1 hC.2.1 dX5_bedFrom_8 (by decide) ?_
    obtain rfl := Option.some.inj hf
    exact g_zret (v := 1) hC hW (by decide) dX5_bedFrom_9
set_option maxRecDepth 100000 in
set_option maxHeartbeats 4000000 in
theorem c5_bedFrom (l : Launch) (D : va_G) (cy : Nat → ClassId) (ad : Nat → Nat) (aL : Nat → Nat) (aI : Nat → Nat) : ∀ dp : Nat, ∀ {x2 : Int32} {x3 : Int32} {x4 : Int32} {SL : Ob} {SI : Ob} {res : Int32 × Ob}, f5_bedFrom dp x2 x3 x4 SL SI = some res → GCi l yX5_bedFrom wsX5_bedFrom (rm5_bedFrom dp) [.ref (aL 0), .ref (aI 0), .int x2, .int x3, .int x4] D cy ad (w5 cy aL SL ++ (w4 cy aI SI)) (w5 cy aL (res.2) ++ (w4 cy aI SI)) (res.1) := by
  intro dp
  induction dp with
  | zero =>
    intro _ _ _ _ _ _ h
    exact nomatch (show (none : Option (Int32 × Ob)) = some _ from h)
  | succ dp ih =>
    intro x2 x3 x4 SL SI res h
    rw [f5_bedFrom] at h
    intro sz
    exact GC.start (own := RX5) (Qc := fun A => QI D cy (w5 cy aL (res.2) ++ (w4 cy aI SI)) A (res.1)) sz (by decide) rfl rfl (Nat.le_of_ble_eq_true rfl) (fun p e s m below meth c A ls hC hW hl => t5_bedFrom_0 _ hC dp ih _ _ _ _ _ _ _ _ _ h hW (lv_sub hl [0, 1, 2, 3, 4] rfl))
end
