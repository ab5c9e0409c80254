/-! laid by program: functions, walks and contracts of 12_goesThrough -/
set_option maxRecDepth 20000 in
theorem gX12_goesThrough_X12_guests : GoodIn wsX12_goesThrough (wsV RX12 328 RX12 yX12_guests wsX12_guests) := goodIn_r _ [4, 5, 6, 7, 8, 9, 24, 25, 26, 27, 28, 29, 30, 31, 32, 33, 34, 35, 36, 37, 38, 39, 40, 41, 42, 43, 44, 45, 46, 47, 48, 49, 50, 51, 52, 53, 54, 55, 56, 57, 58, 59, 60, 61, 62] rfl (by decide +kernel)
set_option maxRecDepth 20000 in
theorem gX12_goesThrough_X12_mayLie : GoodIn wsX12_goesThrough (wsV RX12 439 RX12 yX12_mayLie wsX12_mayLie) := goodIn_r _ [10, 11, 12, 7, 13, 3, 14, 15, 16, 7, 17, 9, 18, 19, 20, 24, 25, 26, 27, 28, 29, 30, 31, 32, 33, 34, 35, 36, 37, 38, 39, 40, 41, 42, 43, 44, 45, 46, 47, 48, 49, 50, 51, 52, 53, 54, 55, 56, 57, 58, 59, 60, 61, 62] rfl (by decide +kernel)
set_option maxRecDepth 20000 in
theorem gX12_goesThrough_X12_goesThrough : GoodIn wsX12_goesThrough (wsV RX12 442 RX12 yX12_goesThrough wsX12_goesThrough) := goodIn_r _ [21, 22, 23, 7, 0, 1, 2, 3, 4, 5, 6, 7, 8, 9, 10, 11, 12, 13, 14, 15, 16, 17, 18, 19, 20, 21, 22, 23, 24, 25, 26, 27, 28, 29, 30, 31, 32, 33, 34, 35, 36, 37, 38, 39, 40, 41, 42, 43, 44, 45, 46, 47, 48, 49, 50, 51, 52, 53, 54, 55, 56, 57, 58, 59, 60, 61, 62] rfl (by decide +kernel)
theorem dX12_goesThrough_0 : decode cX12_goesThrough 0 = .ok (.aload_n 0, 1) := by decide +kernel
theorem dX12_goesThrough_1 : decode cX12_goesThrough 1 = .ok (.getfield 436, 3) := by decide +kernel
theorem dX12_goesThrough_4 : decode cX12_goesThrough 4 = .ok (.ifCond .lt 12, 3) := by decide +kernel
theorem dX12_goesThrough_7 : decode cX12_goesThrough 7 = .ok (.iload_n 2, 1) := by decide +kernel
theorem dX12_goesThrough_8 : decode cX12_goesThrough 8 = .ok (.aload_n 0, 1) := by decide +kernel
theorem dX12_goesThrough_9 : decode cX12_goesThrough 9 = .ok (.getfield 436, 3) := by decide +kernel
theorem dX12_goesThrough_12 : decode cX12_goesThrough 12 = .ok (.if_icmp .lt 4, 3) := by decide +kernel
theorem dX12_goesThrough_15 : decode cX12_goesThrough 15 = .ok (.return_, 1) := by decide +kernel
theorem dX12_goesThrough_16 : decode cX12_goesThrough 16 = .ok (.iload_n 1, 1) := by decide +kernel
theorem dX12_goesThrough_17 : decode cX12_goesThrough 17 = .ok (.aload_n 0, 1) := by decide +kernel
theorem dX12_goesThrough_18 : decode cX12_goesThrough 18 = .ok (.invokevirtual 328, 3) := by decide +kernel
theorem dX12_goesThrough_21 : decode cX12_goesThrough 21 = .ok (.if_icmp .ne 34, 3) := by decide +kernel
theorem dX12_goesThrough_24 : decode cX12_goesThrough 24 = .ok (.aload_n 0, 1) := by decide +kernel
theorem dX12_goesThrough_25 : decode cX12_goesThrough 25 = .ok (.iload_n 2, 1) := by decide +kernel
theorem dX12_goesThrough_26 : decode cX12_goesThrough 26 = .ok (.putfield 436, 3) := by decide +kernel
theorem dX12_goesThrough_29 : decode cX12_goesThrough 29 = .ok (.iconst 0, 1) := by decide +kernel
theorem dX12_goesThrough_30 : decode cX12_goesThrough 30 = .ok (.istore_n 3, 1) := by decide +kernel
theorem dX12_goesThrough_31 : decode cX12_goesThrough 31 = .ok (.iload_n 3, 1) := by decide +kernel
theorem dX12_goesThrough_32 : decode cX12_goesThrough 32 = .ok (.iload_n 1, 1) := by decide +kernel
theorem dX12_goesThrough_33 : decode cX12_goesThrough 33 = .ok (.if_icmp .ge 21, 3) := by decide +kernel
theorem dX12_goesThrough_36 : decode cX12_goesThrough 36 = .ok (.aload_n 0, 1) := by decide +kernel
theorem dX12_goesThrough_37 : decode cX12_goesThrough 37 = .ok (.getfield 162, 3) := by decide +kernel
theorem dX12_goesThrough_40 : decode cX12_goesThrough 40 = .ok (.iload_n 3, 1) := by decide +kernel
theorem dX12_goesThrough_41 : decode cX12_goesThrough 41 = .ok (.aload_n 0, 1) := by decide +kernel
theorem dX12_goesThrough_42 : decode cX12_goesThrough 42 = .ok (.getfield 159, 3) := by decide +kernel
theorem dX12_goesThrough_45 : decode cX12_goesThrough 45 = .ok (.iload_n 3, 1) := by decide +kernel
theorem dX12_goesThrough_46 : decode cX12_goesThrough 46 = .ok (.iaload, 1) := by decide +kernel
theorem dX12_goesThrough_47 : decode cX12_goesThrough 47 = .ok (.iastore, 1) := by decide +kernel
theorem dX12_goesThrough_48 : decode cX12_goesThrough 48 = .ok (.iinc 3 1, 3) := by decide +kernel
theorem dX12_goesThrough_51 : decode cX12_goesThrough 51 = .ok (.goto (-20), 3) := by decide +kernel
theorem dX12_goesThrough_54 : decode cX12_goesThrough 54 = .ok (.return_, 1) := by decide +kernel
theorem dX12_goesThrough_55 : decode cX12_goesThrough 55 = .ok (.iconst 0, 1) := by decide +kernel
theorem dX12_goesThrough_56 : decode cX12_goesThrough 56 = .ok (.istore_n 3, 1) := by decide +kernel
theorem dX12_goesThrough_57 : decode cX12_goesThrough 57 = .ok (.iload_n 3, 1) := by decide +kernel
theorem dX12_goesThrough_58 : decode cX12_goesThrough 58 = .ok (.iload_n 2, 1) := by decide +kernel
theorem dX12_goesThrough_59 : decode cX12_goesThrough 59 = .ok (.if_icmp .gt 44, 3) := by decide +kernel
theorem dX12_goesThrough_62 : decode cX12_goesThrough 62 = .ok (.aload_n 0, 1) := by decide +kernel
theorem dX12_goesThrough_63 : decode cX12_goesThrough 63 = .ok (.iload_n 1, 1) := by decide +kernel
theorem dX12_goesThrough_64 : decode cX12_goesThrough 64 = .ok (.iload_n 3, 1) := by decide +kernel
theorem dX12_goesThrough_65 : decode cX12_goesThrough 65 = .ok (.invokevirtual 439, 3) := by decide +kernel
theorem dX12_goesThrough_68 : decode cX12_goesThrough 68 = .ok (.ifCond .eq 29, 3) := by decide +kernel
theorem dX12_goesThrough_71 : decode cX12_goesThrough 71 = .ok (.aload_n 0, 1) := by decide +kernel
theorem dX12_goesThrough_72 : decode cX12_goesThrough 72 = .ok (.getfield 159, 3) := by decide +kernel
theorem dX12_goesThrough_75 : decode cX12_goesThrough 75 = .ok (.iload_n 1, 1) := by decide +kernel
theorem dX12_goesThrough_76 : decode cX12_goesThrough 76 = .ok (.iload_n 3, 1) := by decide +kernel
theorem dX12_goesThrough_77 : decode cX12_goesThrough 77 = .ok (.iastore, 1) := by decide +kernel
theorem dX12_goesThrough_78 : decode cX12_goesThrough 78 = .ok (.aload_n 0, 1) := by decide +kernel
theorem dX12_goesThrough_79 : decode cX12_goesThrough 79 = .ok (.iload_n 1, 1) := by decide +kernel
theorem dX12_goesThrough_80 : decode cX12_goesThrough 80 = .ok (.iconst 1, 1) := by decide +kernel
theorem dX12_goesThrough_81 : decode cX12_goesThrough 81 = .ok (.iadd, 1) := by decide +kernel
theorem dX12_goesThrough_82 : decode cX12_goesThrough 82 = .ok (.iload_n 3, 1) := by decide +kernel
theorem dX12_goesThrough_83 : decode cX12_goesThrough 83 = .ok (.iload_n 2, 1) := by decide +kernel
theorem dX12_goesThrough_84 : decode cX12_goesThrough 84 = .ok (.if_icmp .ne 9, 3) := by decide +kernel
theorem dX12_goesThrough_87 : decode cX12_goesThrough 87 = .ok (.iload_n 2, 1) := by decide +kernel
theorem dX12_goesThrough_88 : decode cX12_goesThrough 88 = .ok (.iconst 1, 1) := by decide +kernel
theorem dX12_goesThrough_89 : decode cX12_goesThrough 89 = .ok (.iadd, 1) := by decide +kernel
theorem dX12_goesThrough_90 : decode cX12_goesThrough 90 = .ok (.goto 4, 3) := by decide +kernel
theorem dX12_goesThrough_93 : decode cX12_goesThrough 93 = .ok (.iload_n 2, 1) := by decide +kernel
theorem dX12_goesThrough_94 : decode cX12_goesThrough 94 = .ok (.invokevirtual 442, 3) := by decide +kernel
theorem dX12_goesThrough_97 : decode cX12_goesThrough 97 = .ok (.iinc 3 1, 3) := by decide +kernel
theorem dX12_goesThrough_100 : decode cX12_goesThrough 100 = .ok (.goto (-43), 3) := by decide +kernel
theorem dX12_goesThrough_103 : decode cX12_goesThrough 103 = .ok (.return_, 1) := by decide +kernel

section
variable {p : Program} {l : Launch} {e : Env} {s : State} {m : MethodId} {args : Array Value} {below : List Frame} {meth : Method} {c : Code} {D : va_G} {cy : Nat → ClassId} {ad : Nat → Nat} {A : Nat → Prop} {aM aB aO aI aN aT aC aG aR aQ aK aL aX aH aJ aP aU aE0 aE1 aE2 aE3 : Nat → Nat} {gi : Value}
abbrev rm12_goesThrough (dp : Nat) : Room := { frames := 2 + 1 * dp, cells := 0, slots := 0, locals := 47 + 23 * dp }
theorem hdV12_goesThrough : yX12_goesThrough.cls = RX12 ∧ (yX12_goesThrough.cls ≠ "java/lang/invoke/MethodHandle" ∧ yX12_goesThrough.cls ≠ "java/lang/invoke/VarHandle" ∧ (parseMethodDescriptor yX12_goesThrough.desc).map (fun d => d.parameters.length) = some 2) := by decide +kernel
theorem hin12_goesThrough_12 : ∀ x ∈ u_ws RX12 TX12 39, x ∈ wsX12_goesThrough := fun _ h => List.mem_cons_of_mem _ (List.mem_append_right _ h)
set_option maxRecDepth 100000 in
set_option maxHeartbeats 4000000 in
theorem t12_goesThrough_31 (rec : Int32 → Int32 → Ob → Option (Ob)) (hC : Cx p s m args meth c cX12_goesThrough 4 wsX12_goesThrough RX12 none) (dp : Nat) (hrec : ∀ {x1 : Int32} {x2 : Int32} {SM : Ob} {res : Ob}, rec x1 x2 SM = some res → GCv l yX12_goesThrough wsX12_goesThrough (rm12_goesThrough dp) [.ref (aM 0), .int x1, .int x2] D cy ad (w12 cy aM SM) (w12 cy aM res)) : ∀ n : Nat, ∀ (x1 : Int32) (x3 : Int32) (SM : Ob) (res : Ob) (H : Heap) (locs : List Loc) (ls : Array Slot), f12_goesThrough_31 rec n x1 x3 SM = some res → GW D cy ad (w12 cy aM SM) A s H locs → lv_has ls 4 [(0, .ref (aM 0)), (1, .int x1), (3, .int x3)] → W p l e (rm12_goesThrough (dp + 1)) s m args below meth c H locs 0 0 (MQ below (QV D cy (w12 cy aM res) A) args s 0 0 A) (F0 m 31 ls []) := by
  intro n
  induction n with
  | zero =>
    intro _ _ _ _ _ _ _ hf _ _
    exact nomatch (show (none : Option (Ob)) = some _ from hf)
  | succ n ih =>
    intro x1 x3 SM res H locs ls hf hW hl
    rw [f12_goesThrough_31] at hf
    refine lv_iload_n hC.1 hC.2.1 dX12_goesThrough_31 rfl (lv_at hl 2 rfl) ?_
    refine lv_iload_n hC.1 hC.2.1 dX12_goesThrough_32 rfl (lv_at hl 1 rfl) ?_
    refine lv_icmp_ge (tgt := 54) hC.1 hC.2.1 dX12_goesThrough_33 (by decide) (fun hc_1 => ?_) (fun hc_1 => ?_)
    · have hf := ite_t hf hc_1
      obtain rfl := Option.some.inj hf
      exact g_vret hC hW dX12_goesThrough_54
    · have hf := ite_f hf hc_1
      refine lv_aload_n hC.1 hC.2.1 dX12_goesThrough_36 rfl (lv_at hl 0 rfl) ?_
      refine g_get hC hW hin12_goesThrough_12 0 rfl rfl 36 (by decide) 2 rfl rfl dX12_goesThrough_37 ?_
      refine lv_iload_n hC.1 hC.2.1 dX12_goesThrough_40 rfl (lv_at hl 2 rfl) ?_
      refine lv_aload_n hC.1 hC.2.1 dX12_goesThrough_41 rfl (lv_at hl 0 rfl) ?_
      refine g_get hC hW hin12_goesThrough_12 0 rfl rfl 35 (by decide) 3 rfl rfl dX12_goesThrough_42 ?_
      refine lv_iload_n hC.1 hC.2.1 dX12_goesThrough_45 rfl (lv_at hl 2 rfl) ?_
      obtain ⟨hi_2, hf⟩ := ck_of hf
      refine g_iald hC hW 25 rfl hi_2 dX12_goesThrough_46 ?_
      obtain ⟨hi_3, hf⟩ := ck_of hf
      obtain ⟨SM_4, eSM_4⟩ : ∃ y : Ob, y = oA SM 36 (Int32.toNatClampNeg x3) (SM.2.2.1 35 (Int32.toNatClampNeg x3)) := ⟨_, rfl⟩
      have hf := lt_nm hf eSM_4
      refine g_iast hC hW 26 rfl hi_3 (w' := w12 cy aM SM_4) (by rw [eSM_4]; rfl) dX12_goesThrough_47 (fun H locs hW => ?_)
      obtain ⟨x3_5, ex3_5⟩ : ∃ y : Int32, y = x3 + 1 := ⟨_, rfl⟩
      have hf := lt_nm hf ex3_5
      refine lv_iinc (v := x3_5) (lv' := [(3, .int x3_5), (0, .ref (aM 0)), (1, .int x1)]) hC.1 hC.2.1 dX12_goesThrough_48 hl (k := 2) rfl (by rw [ex3_5]; rfl) (by decide) rfl (fun ls hl => ?_)
      refine lv_goto (tgt := 31) hC.1 hC.2.1 dX12_goesThrough_51 (by decide) ?_
      exact ih _ _ _ _ _ _ _ hf hW (lv_sub hl [1, 2, 0] rfl)
set_option maxRecDepth 100000 in
set_option maxHeartbeats 4000000 in
theorem t12_goesThrough_97 (rec : Int32 → Int32 → Ob → Option (Ob)) (hC : Cx p s m args meth c cX12_goesThrough 4 wsX12_goesThrough RX12 none) (dp : Nat) (hrec : ∀ {x1 : Int32} {x2 : Int32} {SM : Ob} {res : Ob}, rec x1 x2 SM = some res → GCv l yX12_goesThrough wsX12_goesThrough (rm12_goesThrough dp) [.ref (aM 0), .int x1, .int x2] D cy ad (w12 cy aM SM) (w12 cy aM res)) {k57 : Int32 → Int32 → Int32 → Ob → Option (Ob)} (hk57 : ∀ (x1 : Int32) (x2 : Int32) (x3 : Int32) (SM : Ob) (res : Ob) (H : Heap) (locs : List Loc) (ls : Array Slot), k57 x1 x2 x3 SM = some res → GW D cy ad (w12 cy aM SM) A s H locs → lv_has ls 4 [(0, .ref (aM 0)), (1, .int x1), (2, .int x2), (3, .int x3)] → W p l e (rm12_goesThrough (dp + 1)) s m args below meth c H locs 0 0 (MQ below (QV D cy (w12 cy aM res) A) args s 0 0 A) (F0 m 57 ls [])) : ∀ (x1 : Int32) (x2 : Int32) (x3 : Int32) (SM : Ob) (res : Ob) (H : Heap) (locs : List Loc) (ls : Array Slot), f12_goesThrough_97 rec k57 x1 x2 x3 SM = some res → GW D cy ad (w12 cy aM SM) A s H locs → lv_has ls 4 [(0, .ref (aM 0)), (1, .int x1), (2, .int x2), (3, .int x3)] → W p l e (rm12_goesThrough (dp + 1)) s m args below meth c H locs 0 0 (MQ below (QV D cy (w12 cy aM res) A) args s 0 0 A) (F0 m 97 ls []) := by
  intro x1 x2 x3 SM res H locs ls hf hW hl
  unfold f12_goesThrough_97 at hf
  obtain ⟨x3_1, ex3_1⟩ : ∃ y : Int32, y = x3 + 1 := ⟨_, rfl⟩
  have hf := lt_nm hf ex3_1
  refine lv_iinc (v := x3_1) (lv' := [(3, .int x3_1), (0, .ref (aM 0)), (1, .int x1), (2, .int x2)]) hC.1 hC.2.1 dX12_goesThrough_97 hl (k := 3) rfl (by rw [ex3_1]; rfl) (by decide) rfl (fun ls hl => ?_)
  refine lv_goto (tgt := 57) hC.1 hC.2.1 dX12_goesThrough_100 (by decide) ?_
  exact hk57 _ _ _ _ _ _ _ _ hf hW (lv_sub hl [1, 2, 3, 0] rfl)
set_option maxRecDepth 100000 in
set_option maxHeartbeats 4000000 in
theorem t12_goesThrough_94 (rec : Int32 → Int32 → Ob → Option (Ob)) (hC : Cx p s m args meth c cX12_goesThrough 4 wsX12_goesThrough RX12 none) (dp : Nat) (hrec : ∀ {x1 : Int32} {x2 : Int32} {SM : Ob} {res : Ob}, rec x1 x2 SM = some res → GCv l yX12_goesThrough wsX12_goesThrough (rm12_goesThrough dp) [.ref (aM 0), .int x1, .int x2] D cy ad (w12 cy aM SM) (w12 cy aM res)) {k57 : Int32 → Int32 → Int32 → Ob → Option (Ob)} (hk57 : ∀ (x1 : Int32) (x2 : Int32) (x3 : Int32) (SM : Ob) (res : Ob) (H : Heap) (locs : List Loc) (ls : Array Slot), k57 x1 x2 x3 SM = some res → GW D cy ad (w12 cy aM SM) A s H locs → lv_has ls 4 [(0, .ref (aM 0)), (1, .int x1), (2, .int x2), (3, .int x3)] → W p l e (rm12_goesThrough (dp + 1)) s m args below meth c H locs 0 0 (MQ below (QV D cy (w12 cy aM res) A) args s 0 0 A) (F0 m 57 ls [])) : ∀ (x1 : Int32) (x2 : Int32) (x3 : Int32) (z1 : Int32) (z2 : Int32) (SM : Ob) (res : Ob) (H : Heap) (locs : List Loc) (ls : Array Slot), f12_goesThrough_94 rec k57 x1 x2 x3 z1 z2 SM = some res → GW D cy ad (w12 cy aM SM) A s H locs → lv_has ls 4 [(0, .ref (aM 0)), (1, .int x1), (2, .int x2), (3, .int x3)] → W p l e (rm12_goesThrough (dp + 1)) s m args below meth c H locs 0 0 (MQ below (QV D cy (w12 cy aM res) A) args s 0 0 A) (F0 m 94 ls [.int z2, .int z1, .ref (aM 0)]) := by
  intro x1 x2 x3 z1 z2 SM res H locs ls hf hW hl
  unfold f12_goesThrough_94 at hf
  obtain ⟨r_1, hg_2, hf⟩ := bd_of hf
  refine g_callvV hC hW (hrec hg_2) (cwV 2 hC.2.2.2.2.1 gX12_goesThrough_X12_goesThrough rfl rfl rfl hdV12_goesThrough ⟨by simp only [rm12_goesThrough]; omega, by simp only [rm12_goesThrough]; omega⟩) (Sub.all _ _) 0 11 rfl rfl rfl rfl hl.1 rfl (Nat.le_of_ble_eq_true rfl) dX12_goesThrough_94 ⟨Nat.zero_le _, Nat.zero_le _⟩ (fun H locs hW => ?_)
  exact t12_goesThrough_97 rec hC dp hrec hk57  _ _ _ _ _ _ _ _ hf hW (lv_sub hl [0, 1, 2, 3] rfl)
set_option maxRecDepth 100000 in
set_option maxHeartbeats 4000000 in
theorem t12_goesThrough_57 (rec : Int32 → Int32 → Ob → Option (Ob)) (hC : Cx p s m args meth c cX12_goesThrough 4 wsX12_goesThrough RX12 none) (dp : Nat) (hrec : ∀ {x1 : Int32} {x2 : Int32} {SM : Ob} {res : Ob}, rec x1 x2 SM = some res → GCv l yX12_goesThrough wsX12_goesThrough (rm12_goesThrough dp) [.ref (aM 0), .int x1, .int x2] D cy ad (w12 cy aM SM) (w12 cy aM res)) : ∀ n : Nat, ∀ (x1 : Int32) (x2 : Int32) (x3 : Int32) (SM : Ob) (res : Ob) (H : Heap) (locs : List Loc) (ls : Array Slot), f12_goesThrough_57 rec n x1 x2 x3 SM = some res → GW D cy ad (w12 cy aM SM) A s H locs → lv_has ls 4 [(0, .ref (aM 0)), (1, .int x1), (2, .int x2), (3, .int x3)] → W p l e (rm12_goesThrough (dp + 1)) s m args below meth c H locs 0 0 (MQ below (QV D cy (w12 cy aM res) A) args s 0 0 A) (F0 m 57 ls []) := by
  intro n
  induction n with
  | zero =>
    intro _ _ _ _ _ _ _ _ hf _ _
    exact nomatch (show (none : Option (Ob)) = some _ from hf)
  | succ n ih =>
    intro x1 x2 x3 SM res H locs ls hf hW hl
    rw [f12_goesThrough_57] at hf
    refine lv_iload_n hC.1 hC.2.1 dX12_goesThrough_57 rfl (lv_at hl 3 rfl) ?_
    refine lv_iload_n hC.1 hC.2.1 dX12_goesThrough_58 rfl (lv_at hl 2 rfl) ?_
    refine lv_icmp_gt (tgt := 103) hC.1 hC.2.1 dX12_goesThrough_59 (by decide) (fun hc_1 => ?_) (fun hc_1 => ?_)
    · have hf := ite_t hf hc_1
      obtain rfl := Option.some.inj hf
      exact g_vret hC hW dX12_goesThrough_103
    · have hf := ite_f hf hc_1
      refine lv_aload_n hC.1 hC.2.1 dX12_goesThrough_62 rfl (lv_at hl 0 rfl) ?_
      refine lv_iload_n hC.1 hC.2.1 dX12_goesThrough_63 rfl (lv_at hl 1 rfl) ?_
      refine lv_iload_n hC.1 hC.2.1 dX12_goesThrough_64 rfl (lv_at hl 3 rfl) ?_
      obtain ⟨r_2, hg_3, hf⟩ := bd_of hf
      refine g_calliV hC hW (c12_mayLie l D cy ad aM hg_3) (cwV 2 hC.2.2.2.2.1 gX12_goesThrough_X12_mayLie rfl rfl rfl hdV12_mayLie ⟨by simp only [rm12_goesThrough, rm12_mayLie]; omega, by simp only [rm12_goesThrough, rm12_mayLie]; omega⟩) (Sub.all _ _) 0 11 rfl rfl rfl rfl hl.1 rfl (Nat.le_of_ble_eq_true rfl) dX12_goesThrough_65 ⟨Nat.zero_le _, Nat.zero_le _⟩ (fun H locs hW => ?_)
      refine lv_if_eq (tgt := 97) hC.1 hC.2.1 dX12_goesThrough_68 (by decide) (fun hc_4 => ?_) (fun hc_4 => ?_)
      · have hf := ite_t hf hc_4
        exact t12_goesThrough_97 rec hC dp hrec ih  _ _ _ _ _ _ _ _ hf hW (lv_sub hl [0, 1, 2, 3] rfl)
      · have hf := ite_f hf hc_4
        refine lv_aload_n hC.1 hC.2.1 dX12_goesThrough_71 rfl (lv_at hl 0 rfl) ?_
        refine g_get hC hW hin12_goesThrough_12 0 rfl rfl 35 (by decide) 3 rfl rfl dX12_goesThrough_72 ?_
        refine lv_iload_n hC.1 hC.2.1 dX12_goesThrough_75 rfl (lv_at hl 1 rfl) ?_
        refine lv_iload_n hC.1 hC.2.1 dX12_goesThrough_76 rfl (lv_at hl 3 rfl) ?_
        obtain ⟨hi_5, hf⟩ := ck_of hf
        obtain ⟨SM_6, eSM_6⟩ : ∃ y : Ob, y = oA SM 35 (Int32.toNatClampNeg x1) x3 := ⟨_, rfl⟩
        have hf := lt_nm hf eSM_6
        refine g_iast hC hW 25 rfl hi_5 (w' := w12 cy aM SM_6) (by rw [eSM_6]; rfl) dX12_goesThrough_77 (fun H locs hW => ?_)
        refine lv_aload_n hC.1 hC.2.1 dX12_goesThrough_78 rfl (lv_at hl 0 rfl) ?_
        refine lv_iload_n hC.1 hC.2.1 dX12_goesThrough_79 rfl (lv_at hl 1 rfl) ?_
        refine lv_iconst (v := 1) hC.1 hC.2.1 dX12_goesThrough_80 (by decide) ?_
        refine lv_iadd hC.1 hC.2.1 dX12_goesThrough_81 ?_
        refine lv_iload_n hC.1 hC.2.1 dX12_goesThrough_82 rfl (lv_at hl 3 rfl) ?_
        refine lv_iload_n hC.1 hC.2.1 dX12_goesThrough_83 rfl (lv_at hl 2 rfl) ?_
        refine lv_icmp_ne (tgt := 93) hC.1 hC.2.1 dX12_goesThrough_84 (by decide) (fun hc_7 => ?_) (fun hc_7 => ?_)
        · have hf := ite_f hf hc_7
          refine lv_iload_n hC.1 hC.2.1 dX12_goesThrough_93 rfl (lv_at hl 2 rfl) ?_
          exact t12_goesThrough_94 rec hC dp hrec ih  _ _ _ _ _ _ _ _ _ _ hf hW (lv_sub hl [0, 1, 2, 3] rfl)
        · have hf := ite_t hf hc_7
          refine lv_iload_n hC.1 hC.2.1 dX12_goesThrough_87 rfl (lv_at hl 2 rfl) ?_
          refine lv_iconst (v := 1) hC.1 hC.2.1 dX12_goesThrough_88 (by decide) ?_
          refine lv_iadd hC.1 hC.2.1 dX12_goesThrough_89 ?_
          refine lv_goto (tgt := 94) hC.1 hC.2.1 dX12_goesThrough_90 (by decide) ?_
          exact t12_goesThrough_94 rec hC dp hrec ih  _ _ _ _ _ _ _ _ _ _ hf hW (lv_sub hl [0, 1, 2, 3] rfl)
set_option maxRecDepth 100000 in
set_option maxHeartbeats 4000000 in
theorem t12_goesThrough_16 (rec : Int32 → Int32 → Ob → Option (Ob)) (hC : Cx p s m args meth c cX12_goesThrough 4 wsX12_goesThrough RX12 none) (dp : Nat) (hrec : ∀ {x1 : Int32} {x2 : Int32} {SM : Ob} {res : Ob}, rec x1 x2 SM = some res → GCv l yX12_goesThrough wsX12_goesThrough (rm12_goesThrough dp) [.ref (aM 0), .int x1, .int x2] D cy ad (w12 cy aM SM) (w12 cy aM res)) : ∀ (x1 : Int32) (x2 : Int32) (SM : Ob) (res : Ob) (H : Heap) (locs : List Loc) (ls : Array Slot), f12_goesThrough_16 rec x1 x2 SM = some res → GW D cy ad (w12 cy aM SM) A s H locs → lv_has ls 4 [(0, .ref (aM 0)), (1, .int x1), (2, .int x2)] → W p l e (rm12_goesThrough (dp + 1)) s m args below meth c H locs 0 0 (MQ below (QV D cy (w12 cy aM res) A) args s 0 0 A) (F0 m 16 ls []) := by
  intro x1 x2 SM res H locs ls hf hW hl
  unfold f12_goesThrough_16 at hf
  refine lv_iload_n hC.1 hC.2.1 dX12_goesThrough_16 rfl (lv_at hl 1 rfl) ?_
  refine lv_aload_n hC.1 hC.2.1 dX12_goesThrough_17 rfl (lv_at hl 0 rfl) ?_
  obtain ⟨r_1, hg_2, hf⟩ := bd_of hf
  refine g_calliV hC hW (c12_guests l D cy ad aM hg_2) (cwV 0 hC.2.2.2.2.1 gX12_goesThrough_X12_guests rfl rfl rfl hdV12_guests ⟨by simp only [rm12_goesThrough, rm12_guests]; omega, by simp only [rm12_goesThrough, rm12_guests]; omega⟩) (Sub.all _ _) 0 11 rfl rfl rfl rfl hl.1 rfl (Nat.le_of_ble_eq_true rfl) dX12_goesThrough_18 ⟨Nat.zero_le _, Nat.zero_le _⟩ (fun H locs hW => ?_)
  refine lv_icmp_ne (tgt := 55) hC.1 hC.2.1 dX12_goesThrough_21 (by decide) (fun hc_3 => ?_) (fun hc_3 => ?_)
  · have hf := ite_f hf hc_3
    refine lv_iconst (v := 0) hC.1 hC.2.1 dX12_goesThrough_55 (by decide) ?_
    refine lv_istore_n (lv' := [(3, .int 0), (0, .ref (aM 0)), (1, .int x1), (2, .int x2)]) hC.1 hC.2.1 dX12_goesThrough_56 rfl hl (by decide) rfl (fun ls hl => ?_)
    exact t12_goesThrough_57 rec hC dp hrec _ _ _ _ _ _ _ _ _ hf hW (lv_sub hl [1, 2, 3, 0] rfl)
  · have hf := ite_t hf hc_3
    refine lv_aload_n hC.1 hC.2.1 dX12_goesThrough_24 rfl (lv_at hl 0 rfl) ?_
    refine lv_iload_n hC.1 hC.2.1 dX12_goesThrough_25 rfl (lv_at hl 2 rfl) ?_
    obtain ⟨SM_4, eSM_4⟩ : ∃ y : Ob, y = oI SM 37 x2 := ⟨_, rfl⟩
    have hf := lt_nm hf eSM_4
    refine g_put hC hW hin12_goesThrough_12 tyX12 tyX12_ok nmX12 0 rfl rfl 37 (by decide) 1 rfl rfl rfl rfl (Nat.le_of_ble_eq_true rfl) (w' := w12 cy aM SM_4) (by rw [eSM_4]; rfl) dX12_goesThrough_26 (fun H locs hW => ?_)
    refine lv_iconst (v := 0) hC.1 hC.2.1 dX12_goesThrough_29 (by decide) ?_
    refine lv_istore_n (lv' := [(3, .int 0), (0, .ref (aM 0)), (1, .int x1), (2, .int x2)]) hC.1 hC.2.1 dX12_goesThrough_30 rfl hl (by decide) rfl (fun ls hl => ?_)
    exact t12_goesThrough_31 rec hC dp hrec _ _ _ _ _ _ _ _ hf hW (lv_sub hl [1, 2, 0] rfl)
set_option maxRecDepth 100000 in
set_option maxHeartbeats 4000000 in
theorem t12_goesThrough_0 (rec : Int32 → Int32 → Ob → Option (Ob)) (hC : Cx p s m args meth c cX12_goesThrough 4 wsX12_goesThrough RX12 none) (dp : Nat) (hrec : ∀ {x1 : Int32} {x2 : Int32} {SM : Ob} {res : Ob}, rec x1 x2 SM = some res → GCv l yX12_goesThrough wsX12_goesThrough (rm12_goesThrough dp) [.ref (aM 0), .int x1, .int x2] D cy ad (w12 cy aM SM) (w12 cy aM res)) : ∀ (x1 : Int32) (x2 : Int32) (SM : Ob) (res : Ob) (H : Heap) (locs : List Loc) (ls : Array Slot), f12_goesThrough_b rec x1 x2 SM = some res → GW D cy ad (w12 cy aM SM) A s H locs → lv_has ls 4 [(0, .ref (aM 0)), (1, .int x1), (2, .int x2)] → W p l e (rm12_goesThrough (dp + 1)) s m args below meth c H locs 0 0 (MQ below (QV D cy (w12 cy aM res) A) args s 0 0 A) (F0 m 0 ls []) := by
  intro x1 x2 SM res H locs ls hf hW hl
  unfold f12_goesThrough_b at hf
  refine lv_aload_n hC.1 hC.2.1 dX12_goesThrough_0 rfl (lv_at hl 0 rfl) ?_
  refine g_get hC hW hin12_goesThrough_12 0 rfl rfl 37 (by decide) 1 rfl rfl dX12_goesThrough_1 ?_
  refine lv_if_lt (tgt := 16) hC.1 hC.2.1 dX12_goesThrough_4 (by decide) (fun hc_1 => ?_) (fun hc_1 => ?_)
  · have hf := ite_t hf hc_1
    exact t12_goesThrough_16 rec hC dp hrec  _ _ _ _ _ _ _ hf hW (lv_sub hl [0, 1, 2] rfl)
  · have hf := ite_f hf hc_1
    refine lv_iload_n hC.1 hC.2.1 dX12_goesThrough_7 rfl (lv_at hl 2 rfl) ?_
    refine lv_aload_n hC.1 hC.2.1 dX12_goesThrough_8 rfl (lv_at hl 0 rfl) ?_
    refine g_get hC hW hin12_goesThrough_12 0 rfl rfl 37 (by decide) 1 rfl rfl dX12_goesThrough_9 ?_
    refine lv_icmp_lt (tgt := 16) hC.1 hC.2.1 dX12_goesThrough_12 (by decide) (fun hc_2 => ?_) (fun hc_2 => ?_)
    · have hf := ite_t hf hc_2
      exact t12_goesThrough_16 rec hC dp hrec  _ _ _ _ _ _ _ hf hW (lv_sub hl [0, 1, 2] rfl)
    · have hf := ite_f hf hc_2
      obtain rfl := Option.some.inj hf
      exact g_vret hC hW dX12_goesThrough_15
set_option maxRecDepth 100000 in
set_option maxHeartbeats 4000000 in
theorem c12_goesThrough (l : Launch) (D : va_G) (cy : Nat → ClassId) (ad : Nat → Nat) (aM : Nat → Nat) : ∀ dp : Nat, ∀ {x1 : Int32} {x2 : Int32} {SM : Ob} {res : Ob}, f12_goesThrough dp x1 x2 SM = some res → GCv l yX12_goesThrough wsX12_goesThrough (rm12_goesThrough dp) [.ref (aM 0), .int x1, .int x2] D cy ad (w12 cy aM SM) (w12 cy aM res) := by
  intro dp
  induction dp with
  | zero =>
    intro _ _ _ _ h
    exact nomatch (show (none : Option (Ob)) = some _ from h)
  | succ dp ih =>
    intro x1 x2 SM res h
    rw [f12_goesThrough] at h
    intro sz
    exact GC.start (own := RX12) (Qc := fun A => QV D cy (w12 cy aM res) A) sz (by decide) rfl rfl (Nat.le_of_ble_eq_true rfl) (fun p e s m below meth c A ls hC hW hl => t12_goesThrough_0 _ hC dp ih _ _ _ _ _ _ _ h hW (lv_sub hl [0, 1, 2] rfl))
end
