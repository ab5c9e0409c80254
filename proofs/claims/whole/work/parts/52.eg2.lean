/-! laid by program: functions, walks and contracts of 11_mark, 11_count -/
set_option maxRecDepth 20000 in
theorem gX11_mark_X0_copy : GoodIn wsX11_mark (wsV RX11 259 RX0 yX0_copy wsX0_copy) := goodIn_r _ [4, 5, 6, 7, 8, 9, 10, 11, 12, 13, 14, 15, 16, 17, 7, 18, 19, 32, 33, 34, 35, 36, 37, 38, 39, 40] rfl (by decide +kernel)
theorem dX11_mark_0 : decode cX11_mark 0 = .ok (.iload_n 1, 1) := by decide +kernel
theorem dX11_mark_1 : decode cX11_mark 1 = .ok (.ifCond .lt 8, 3) := by decide +kernel
theorem dX11_mark_4 : decode cX11_mark 4 = .ok (.iload_n 1, 1) := by decide +kernel
theorem dX11_mark_5 : decode cX11_mark 5 = .ok (.iconst 4, 1) := by decide +kernel
theorem dX11_mark_6 : decode cX11_mark 6 = .ok (.if_icmp .lt 5, 3) := by decide +kernel
theorem dX11_mark_9 : decode cX11_mark 9 = .ok (.iconst 0, 1) := by decide +kernel
theorem dX11_mark_10 : decode cX11_mark 10 = .ok (.ireturn, 1) := by decide +kernel
theorem dX11_mark_11 : decode cX11_mark 11 = .ok (.iload_n 2, 1) := by decide +kernel
theorem dX11_mark_12 : decode cX11_mark 12 = .ok (.ifCond .ne 25, 3) := by decide +kernel
theorem dX11_mark_15 : decode cX11_mark 15 = .ok (.aload_n 0, 1) := by decide +kernel
theorem dX11_mark_16 : decode cX11_mark 16 = .ok (.getfield 48, 3) := by decide +kernel
theorem dX11_mark_19 : decode cX11_mark 19 = .ok (.iload_n 1, 1) := by decide +kernel
theorem dX11_mark_20 : decode cX11_mark 20 = .ok (.aaload, 1) := by decide +kernel
theorem dX11_mark_21 : decode cX11_mark 21 = .ok (.aload_n 0, 1) := by decide +kernel
theorem dX11_mark_22 : decode cX11_mark 22 = .ok (.getfield 44, 3) := by decide +kernel
theorem dX11_mark_25 : decode cX11_mark 25 = .ok (.invokevirtual 259, 3) := by decide +kernel
theorem dX11_mark_28 : decode cX11_mark 28 = .ok (.aload_n 0, 1) := by decide +kernel
theorem dX11_mark_29 : decode cX11_mark 29 = .ok (.getfield 52, 3) := by decide +kernel
theorem dX11_mark_32 : decode cX11_mark 32 = .ok (.iload_n 1, 1) := by decide +kernel
theorem dX11_mark_33 : decode cX11_mark 33 = .ok (.iconst 1, 1) := by decide +kernel
theorem dX11_mark_34 : decode cX11_mark 34 = .ok (.bastore, 1) := by decide +kernel
theorem dX11_mark_35 : decode cX11_mark 35 = .ok (.iconst 1, 1) := by decide +kernel
theorem dX11_mark_36 : decode cX11_mark 36 = .ok (.ireturn, 1) := by decide +kernel
theorem dX11_mark_37 : decode cX11_mark 37 = .ok (.aload_n 0, 1) := by decide +kernel
theorem dX11_mark_38 : decode cX11_mark 38 = .ok (.getfield 52, 3) := by decide +kernel
theorem dX11_mark_41 : decode cX11_mark 41 = .ok (.iload_n 1, 1) := by decide +kernel
theorem dX11_mark_42 : decode cX11_mark 42 = .ok (.baload, 1) := by decide +kernel
theorem dX11_mark_43 : decode cX11_mark 43 = .ok (.ifCond .eq 16, 3) := by decide +kernel
theorem dX11_mark_46 : decode cX11_mark 46 = .ok (.aload_n 0, 1) := by decide +kernel
theorem dX11_mark_47 : decode cX11_mark 47 = .ok (.getfield 44, 3) := by decide +kernel
theorem dX11_mark_50 : decode cX11_mark 50 = .ok (.aload_n 0, 1) := by decide +kernel
theorem dX11_mark_51 : decode cX11_mark 51 = .ok (.getfield 48, 3) := by decide +kernel
theorem dX11_mark_54 : decode cX11_mark 54 = .ok (.iload_n 1, 1) := by decide +kernel
theorem dX11_mark_55 : decode cX11_mark 55 = .ok (.aaload, 1) := by decide +kernel
theorem dX11_mark_56 : decode cX11_mark 56 = .ok (.invokevirtual 259, 3) := by decide +kernel
theorem dX11_mark_59 : decode cX11_mark 59 = .ok (.aload_n 0, 1) := by decide +kernel
theorem dX11_mark_60 : decode cX11_mark 60 = .ok (.getfield 52, 3) := by decide +kernel
theorem dX11_mark_63 : decode cX11_mark 63 = .ok (.iload_n 1, 1) := by decide +kernel
theorem dX11_mark_64 : decode cX11_mark 64 = .ok (.baload, 1) := by decide +kernel
theorem dX11_mark_65 : decode cX11_mark 65 = .ok (.ireturn, 1) := by decide +kernel
set_option maxRecDepth 20000 in
theorem gX11_count_J6_bitCount_0f7a4 : GoodIn wsX11_count (va_wsS RX11 178 yJ6_bitCount_0f7a4 wsJ6_bitCount_0f7a4) := goodIn_r _ [13, 14, 15, 16, 17, 18, 19] rfl (by decide +kernel)
theorem dX11_count_0 : decode cX11_count 0 = .ok (.iload_n 1, 1) := by decide +kernel
theorem dX11_count_1 : decode cX11_count 1 = .ok (.tableswitch 114 0 7 #[47, 55, 63, 74, 82, 90, 98, 106], 47) := by decide +kernel
theorem dX11_count_48 : decode cX11_count 48 = .ok (.aload_n 0, 1) := by decide +kernel
theorem dX11_count_49 : decode cX11_count 49 = .ok (.getfield 24, 3) := by decide +kernel
theorem dX11_count_52 : decode cX11_count 52 = .ok (.getfield 155, 3) := by decide +kernel
theorem dX11_count_55 : decode cX11_count 55 = .ok (.ireturn, 1) := by decide +kernel
theorem dX11_count_56 : decode cX11_count 56 = .ok (.aload_n 0, 1) := by decide +kernel
theorem dX11_count_57 : decode cX11_count 57 = .ok (.getfield 24, 3) := by decide +kernel
theorem dX11_count_60 : decode cX11_count 60 = .ok (.getfield 263, 3) := by decide +kernel
theorem dX11_count_63 : decode cX11_count 63 = .ok (.ireturn, 1) := by decide +kernel
theorem dX11_count_64 : decode cX11_count 64 = .ok (.aload_n 0, 1) := by decide +kernel
theorem dX11_count_65 : decode cX11_count 65 = .ok (.getfield 44, 3) := by decide +kernel
theorem dX11_count_68 : decode cX11_count 68 = .ok (.getfield 131, 3) := by decide +kernel
theorem dX11_count_71 : decode cX11_count 71 = .ok (.invokestatic 178, 3) := by decide +kernel
theorem dX11_count_74 : decode cX11_count 74 = .ok (.ireturn, 1) := by decide +kernel
theorem dX11_count_75 : decode cX11_count 75 = .ok (.aload_n 0, 1) := by decide +kernel
theorem dX11_count_76 : decode cX11_count 76 = .ok (.getfield 44, 3) := by decide +kernel
theorem dX11_count_79 : decode cX11_count 79 = .ok (.getfield 158, 3) := by decide +kernel
theorem dX11_count_82 : decode cX11_count 82 = .ok (.ireturn, 1) := by decide +kernel
theorem dX11_count_83 : decode cX11_count 83 = .ok (.aload_n 0, 1) := by decide +kernel
theorem dX11_count_84 : decode cX11_count 84 = .ok (.getfield 34, 3) := by decide +kernel
theorem dX11_count_87 : decode cX11_count 87 = .ok (.getfield 91, 3) := by decide +kernel
theorem dX11_count_90 : decode cX11_count 90 = .ok (.ireturn, 1) := by decide +kernel
theorem dX11_count_91 : decode cX11_count 91 = .ok (.aload_n 0, 1) := by decide +kernel
theorem dX11_count_92 : decode cX11_count 92 = .ok (.getfield 44, 3) := by decide +kernel
theorem dX11_count_95 : decode cX11_count 95 = .ok (.getfield 266, 3) := by decide +kernel
theorem dX11_count_98 : decode cX11_count 98 = .ok (.ireturn, 1) := by decide +kernel
theorem dX11_count_99 : decode cX11_count 99 = .ok (.aload_n 0, 1) := by decide +kernel
theorem dX11_count_100 : decode cX11_count 100 = .ok (.getfield 44, 3) := by decide +kernel
theorem dX11_count_103 : decode cX11_count 103 = .ok (.getfield 269, 3) := by decide +kernel
theorem dX11_count_106 : decode cX11_count 106 = .ok (.ireturn, 1) := by decide +kernel
theorem dX11_count_107 : decode cX11_count 107 = .ok (.aload_n 0, 1) := by decide +kernel
theorem dX11_count_108 : decode cX11_count 108 = .ok (.getfield 20, 3) := by decide +kernel
theorem dX11_count_111 : decode cX11_count 111 = .ok (.getfield 83, 3) := by decide +kernel
theorem dX11_count_114 : decode cX11_count 114 = .ok (.ireturn, 1) := by decide +kernel
theorem dX11_count_115 : decode cX11_count 115 = .ok (.iconst (-1), 1) := by decide +kernel
theorem dX11_count_116 : decode cX11_count 116 = .ok (.ireturn, 1) := by decide +kernel
section
variable {p : Program} {l : Launch} {e : Env} {s : State} {m : MethodId} {args : Array Value} {below : List Frame} {meth : Method} {c : Code} {D : va_G} {cy : Nat → ClassId} {ad : Nat → Nat} {A : Nat → Prop} {aM aB aO aI aN aT aC aG aR aQ aK aL aX aH aJ aP aU aE0 aE1 aE2 aE3 : Nat → Nat} {gi : Value}
abbrev rm11_mark : Room := { frames := 2, cells := 0, slots := 0, locals := 43 }
theorem hdV11_mark : yX11_mark.cls = RX11 ∧ (yX11_mark.cls ≠ "java/lang/invoke/MethodHandle" ∧ yX11_mark.cls ≠ "java/lang/invoke/VarHandle" ∧ (parseMethodDescriptor yX11_mark.desc).map (fun d => d.parameters.length) = some 2) := by decide +kernel
theorem hin11_mark_11 : ∀ x ∈ u_ws RX11 TX11 12, x ∈ wsX11_mark := fun _ h => List.mem_cons_of_mem _ (List.mem_append_left _ (List.mem_append_right _ h))
set_option maxRecDepth 100000 in
set_option maxHeartbeats 4000000 in
theorem t11_mark_9 (hC : Cx p s m args meth c cX11_mark 3 wsX11_mark RX11 (some .boolean)) : ∀ (SX : Ob) (SB : Ob) (SE0 : Ob) (SE1 : Ob) (SE2 : Ob) (SE3 : Ob) (res : Int32 × Ob × Ob × Ob × Ob × Ob × Ob) (H : Heap) (locs : List Loc) (ls : Array Slot), f11_mark_9 SX SB SE0 SE1 SE2 SE3 = some res → GW D cy ad (w11 cy aX aT aR aH aJ aP aU aB aQ aK aL aE0 aE1 aE2 aE3 SX ++ (w0 cy aB SB ++ (w0 cy aE0 SE0 ++ (w0 cy aE1 SE1 ++ (w0 cy aE2 SE2 ++ (w0 cy aE3 SE3)))))) A s H locs → lv_has ls 3 [] → W p l e rm11_mark s m args below meth c H locs 0 0 (MQ below (QI D cy (w11 cy aX aT aR aH aJ aP aU aB aQ aK aL aE0 aE1 aE2 aE3 (res.2.1) ++ (w0 cy aB (res.2.2.1) ++ (w0 cy aE0 (res.2.2.2.1) ++ (w0 cy aE1 (res.2.2.2.2.1) ++ (w0 cy aE2 (res.2.2.2.2.2.1) ++ (w0 cy aE3 (res.2.2.2.2.2.2))))))) A (res.1)) args s 0 0 A) (F0 m 9 ls []) := by
  intro SX SB SE0 SE1 SE2 SE3 res H locs ls hf hW hl
  unfold f11_mark_9 at hf
  refine lv_iconst (v := 0) hC.1 hC.2.1 dX11_mark_9 (by decide) ?_
  obtain rfl := Option.some.inj hf
  exact g_zret (v := 0) hC hW (by decide) dX11_mark_10
set_option maxRecDepth 100000 in
set_option maxHeartbeats 4000000 in
theorem t11_mark_59 (hC : Cx p s m args meth c cX11_mark 3 wsX11_mark RX11 (some .boolean)) : ∀ (x1 : Int32) (SX : Ob) (SB : Ob) (SE0 : Ob) (SE1 : Ob) (SE2 : Ob) (SE3 : Ob) (res : Int32 × Ob × Ob × Ob × Ob × Ob × Ob) (H : Heap) (locs : List Loc) (ls : Array Slot), f11_mark_59 x1 SX SB SE0 SE1 SE2 SE3 = some res → GW D cy ad (w11 cy aX aT aR aH aJ aP aU aB aQ aK aL aE0 aE1 aE2 aE3 SX ++ (w0 cy aB SB ++ (w0 cy aE0 SE0 ++ (w0 cy aE1 SE1 ++ (w0 cy aE2 SE2 ++ (w0 cy aE3 SE3)))))) A s H locs → lv_has ls 3 [(0, .ref (aX 0)), (1, .int x1)] → W p l e rm11_mark s m args below meth c H locs 0 0 (MQ below (QI D cy (w11 cy aX aT aR aH aJ aP aU aB aQ aK aL aE0 aE1 aE2 aE3 (res.2.1) ++ (w0 cy aB (res.2.2.1) ++ (w0 cy aE0 (res.2.2.2.1) ++ (w0 cy aE1 (res.2.2.2.2.1) ++ (w0 cy aE2 (res.2.2.2.2.2.1) ++ (w0 cy aE3 (res.2.2.2.2.2.2))))))) A (res.1)) args s 0 0 A) (F0 m 59 ls []) := by
  intro x1 SX SB SE0 SE1 SE2 SE3 res H locs ls hf hW hl
  unfold f11_mark_59 at hf
  refine lv_aload_n hC.1 hC.2.1 dX11_mark_59 rfl (lv_at hl 0 rfl) ?_
  refine g_get hC hW hin11_mark_11 0 rfl rfl 8 (by decide) 3 rfl rfl dX11_mark_60 ?_
  refine lv_iload_n hC.1 hC.2.1 dX11_mark_63 rfl (lv_at hl 1 rfl) ?_
  obtain ⟨hi_1, hf⟩ := ck_of hf
  refine g_zald hC hW 2 rfl hi_1 dX11_mark_64 ?_
  obtain ⟨hz, hf⟩ := ck_of hf
  obtain rfl := Option.some.inj hf
  exact g_zret hC hW hz dX11_mark_65
set_option maxRecDepth 100000 in
set_option maxHeartbeats 4000000 in
theorem t11_mark_0 (hC : Cx p s m args meth c cX11_mark 3 wsX11_mark RX11 (some .boolean)) : ∀ (x1 : Int32) (x2 : Int32) (SX : Ob) (SB : Ob) (SE0 : Ob) (SE1 : Ob) (SE2 : Ob) (SE3 : Ob) (res : Int32 × Ob × Ob × Ob × Ob × Ob × Ob) (H : Heap) (locs : List Loc) (ls : Array Slot), f11_mark x1 x2 SX SB SE0 SE1 SE2 SE3 = some res → GW D cy ad (w11 cy aX aT aR aH aJ aP aU aB aQ aK aL aE0 aE1 aE2 aE3 SX ++ (w0 cy aB SB ++ (w0 cy aE0 SE0 ++ (w0 cy aE1 SE1 ++ (w0 cy aE2 SE2 ++ (w0 cy aE3 SE3)))))) A s H locs → lv_has ls 3 [(0, .ref (aX 0)), (1, .int x1), (2, .int x2)] → W p l e rm11_mark s m args below meth c H locs 0 0 (MQ below (QI D cy (w11 cy aX aT aR aH aJ aP aU aB aQ aK aL aE0 aE1 aE2 aE3 (res.2.1) ++ (w0 cy aB (res.2.2.1) ++ (w0 cy aE0 (res.2.2.2.1) ++ (w0 cy aE1 (res.2.2.2.2.1) ++ (w0 cy aE2 (res.2.2.2.2.2.1) ++ (w0 cy aE3 (res.2.2.2.2.2.2))))))) A (res.1)) args s 0 0 A) (F0 m 0 ls []) := by
  intro x1 x2 SX SB SE0 SE1 SE2 SE3 res H locs ls hf hW hl
  unfold f11_mark at hf
  refine lv_iload_n hC.1 hC.2.1 dX11_mark_0 rfl (lv_at hl 1 rfl) ?_
  refine lv_if_lt (tgt := 9) hC.1 hC.2.1 dX11_mark_1 (by decide) (fun hc_1 => ?_) (fun hc_1 => ?_)
  · have hf := ite_t hf hc_1
    exact t11_mark_9 hC  _ _ _ _ _ _ _ _ _ _ hf hW (lv_sub hl [] rfl)
  · have hf := ite_f hf hc_1
    refine lv_iload_n hC.1 hC.2.1 dX11_mark_4 rfl (lv_at hl 1 rfl) ?_
    refine lv_iconst (v := 4) hC.1 hC.2.1 dX11_mark_5 (by decide) ?_
    refine lv_icmp_lt (tgt := 11) hC.1 hC.2.1 dX11_mark_6 (by decide) (fun hc_2 => ?_) (fun hc_2 => ?_)
    · have hf := ite_t hf hc_2
      refine lv_iload_n hC.1 hC.2.1 dX11_mark_11 rfl (lv_at hl 2 rfl) ?_
      refine lv_if_ne (tgt := 37) hC.1 hC.2.1 dX11_mark_12 (by decide) (fun hc_3 => ?_) (fun hc_3 => ?_)
      · have hf := ite_f hf hc_3
        refine lv_aload_n hC.1 hC.2.1 dX11_mark_37 rfl (lv_at hl 0 rfl) ?_
        refine g_get hC hW hin11_mark_11 0 rfl rfl 8 (by decide) 3 rfl rfl dX11_mark_38 ?_
        refine lv_iload_n hC.1 hC.2.1 dX11_mark_41 rfl (lv_at hl 1 rfl) ?_
        obtain ⟨hi_4, hf⟩ := ck_of hf
        refine g_zald hC hW 2 rfl hi_4 dX11_mark_42 ?_
        refine lv_if_eq (tgt := 59) hC.1 hC.2.1 dX11_mark_43 (by decide) (fun hc_5 => ?_) (fun hc_5 => ?_)
        · have hf := ite_t hf hc_5
          exact t11_mark_59 hC  _ _ _ _ _ _ _ _ _ _ _ hf hW (lv_sub hl [0, 1] rfl)
        · have hf := ite_f hf hc_5
          refine lv_aload_n hC.1 hC.2.1 dX11_mark_46 rfl (lv_at hl 0 rfl) ?_
          refine g_get hC hW hin11_mark_11 0 rfl rfl 6 (by decide) 2 rfl rfl dX11_mark_47 ?_
          refine lv_aload_n hC.1 hC.2.1 dX11_mark_50 rfl (lv_at hl 0 rfl) ?_
          refine g_get hC hW hin11_mark_11 0 rfl rfl 7 (by decide) 1 rfl rfl dX11_mark_51 ?_
          refine lv_iload_n hC.1 hC.2.1 dX11_mark_54 rfl (lv_at hl 1 rfl) ?_
          obtain ⟨hi_6, hf⟩ := ck_of hf
          by_cases hc_7 : x1 = 0
          · have hf := ite_t hf hc_7
            refine va_aldq hC.1 hC.2.1 hW.2.2.1 hW.1 1 4 rfl rfl (inb_of hi_6) dX11_mark_55 ?_
            rw [show mkE aE0 aE1 aE2 aE3 (Int32.toNatClampNeg x1) = some (aE0 0) by rw [hc_7]; rfl]
            obtain ⟨r_8, hg_9, hf⟩ := bd_of hf
            refine g_callvV (w' := w11 cy aX aT aR aH aJ aP aU aB aQ aK aL aE0 aE1 aE2 aE3 SX ++ (w0 cy aB r_8 ++ (w0 cy aE0 SE0 ++ (w0 cy aE1 SE1 ++ (w0 cy aE2 SE2 ++ (w0 cy aE3 SE3)))))) hC hW (c0_copy l D cy ad aB aE0 hg_9) (cwV 1 hC.2.2.2.2.1 gX11_mark_X0_copy rfl rfl rfl hdV0_copy ⟨Nat.le_of_ble_eq_true rfl, Nat.le_of_ble_eq_true rfl⟩) (⟨[3, 4, 5, 6, 7, 8, 9, 10, 11, 12, 13, 14], [0, 1, 2, 15, 16, 17, 18, 19, 20, 21, 22, 23, 24, 25, 26, 27, 28, 29, 30, 31, 32], [0, 1, 2, 21, 22, 23, 24, 25, 26, 27, 28, 29, 30, 31, 32, 3, 4, 5, 6, 7, 8, 9, 10, 11, 12, 13, 14, 15, 16, 17, 18, 19, 20], w11 cy aX aT aR aH aJ aP aU aB aQ aK aL aE0 aE1 aE2 aE3 SX ++ (w0 cy aE1 SE1 ++ (w0 cy aE2 SE2 ++ (w0 cy aE3 SE3))), rfl, rfl, rfl, rfl, by decide, rfl, rfl⟩) 0 0 rfl rfl rfl rfl hl.1 rfl (Nat.le_of_ble_eq_true rfl) dX11_mark_56 ⟨Nat.zero_le _, Nat.zero_le _⟩ (fun H locs hW => ?_)
            exact t11_mark_59 hC  _ _ _ _ _ _ _ _ _ _ _ hf hW (lv_sub hl [0, 1] rfl)
          · have hf := ite_f hf hc_7
            by_cases hc_10 : x1 = 1
            · have hf := ite_t hf hc_10
              refine va_aldq hC.1 hC.2.1 hW.2.2.1 hW.1 1 4 rfl rfl (inb_of hi_6) dX11_mark_55 ?_
              rw [show mkE aE0 aE1 aE2 aE3 (Int32.toNatClampNeg x1) = some (aE1 0) by rw [hc_10]; rfl]
              obtain ⟨r_11, hg_12, hf⟩ := bd_of hf
              refine g_callvV (w' := w11 cy aX aT aR aH aJ aP aU aB aQ aK aL aE0 aE1 aE2 aE3 SX ++ (w0 cy aB r_11 ++ (w0 cy aE0 SE0 ++ (w0 cy aE1 SE1 ++ (w0 cy aE2 SE2 ++ (w0 cy aE3 SE3)))))) hC hW (c0_copy l D cy ad aB aE1 hg_12) (cwV 1 hC.2.2.2.2.1 gX11_mark_X0_copy rfl rfl rfl hdV0_copy ⟨Nat.le_of_ble_eq_true rfl, Nat.le_of_ble_eq_true rfl⟩) (⟨[3, 4, 5, 6, 7, 8, 15, 16, 17, 18, 19, 20], [0, 1, 2, 9, 10, 11, 12, 13, 14, 21, 22, 23, 24, 25, 26, 27, 28, 29, 30, 31, 32], [0, 1, 2, 21, 22, 23, 24, 25, 26, 3, 4, 5, 6, 7, 8, 27, 28, 29, 30, 31, 32, 9, 10, 11, 12, 13, 14, 15, 16, 17, 18, 19, 20], w11 cy aX aT aR aH aJ aP aU aB aQ aK aL aE0 aE1 aE2 aE3 SX ++ (w0 cy aE0 SE0 ++ (w0 cy aE2 SE2 ++ (w0 cy aE3 SE3))), rfl, rfl, rfl, rfl, by decide, rfl, rfl⟩) 0 0 rfl rfl rfl rfl hl.1 rfl (Nat.le_of_ble_eq_true rfl) dX11_mark_56 ⟨Nat.zero_le _, Nat.zero_le _⟩ (fun H locs hW => ?_)
              exact t11_mark_59 hC  _ _ _ _ _ _ _ _ _ _ _ hf hW (lv_sub hl [0, 1] rfl)
            · have hf := ite_f hf hc_10
              by_cases hc_13 : x1 = 2
              · have hf := ite_t hf hc_13
                refine va_aldq hC.1 hC.2.1 hW.2.2.1 hW.1 1 4 rfl rfl (inb_of hi_6) dX11_mark_55 ?_
                rw [show mkE aE0 aE1 aE2 aE3 (Int32.toNatClampNeg x1) = some (aE2 0) by rw [hc_13]; rfl]
                obtain ⟨r_14, hg_15, hf⟩ := bd_of hf
                refine g_callvV (w' := w11 cy aX aT aR aH aJ aP aU aB aQ aK aL aE0 aE1 aE2 aE3 SX ++ (w0 cy aB r_14 ++ (w0 cy aE0 SE0 ++ (w0 cy aE1 SE1 ++ (w0 cy aE2 SE2 ++ (w0 cy aE3 SE3)))))) hC hW (c0_copy l D cy ad aB aE2 hg_15) (cwV 1 hC.2.2.2.2.1 gX11_mark_X0_copy rfl rfl rfl hdV0_copy ⟨Nat.le_of_ble_eq_true rfl, Nat.le_of_ble_eq_true rfl⟩) (⟨[3, 4, 5, 6, 7, 8, 21, 22, 23, 24, 25, 26], [0, 1, 2, 9, 10, 11, 12, 13, 14, 15, 16, 17, 18, 19, 20, 27, 28, 29, 30, 31, 32], [0, 1, 2, 21, 22, 23, 24, 25, 26, 3, 4, 5, 6, 7, 8, 9, 10, 11, 12, 13, 14, 27, 28, 29, 30, 31, 32, 15, 16, 17, 18, 19, 20], w11 cy aX aT aR aH aJ aP aU aB aQ aK aL aE0 aE1 aE2 aE3 SX ++ (w0 cy aE0 SE0 ++ (w0 cy aE1 SE1 ++ (w0 cy aE3 SE3))), rfl, rfl, rfl, rfl, by decide, rfl, rfl⟩) 0 0 rfl rfl rfl rfl hl.1 rfl (Nat.le_of_ble_eq_true rfl) dX11_mark_56 ⟨Nat.zero_le _, Nat.zero_le _⟩ (fun H locs hW => ?_)
                exact t11_mark_59 hC  _ _ _ _ _ _ _ _ _ _ _ hf hW (lv_sub hl [0, 1] rfl)
              · have hf := ite_f hf hc_13
                have hc_16 : x1 = 3 := inb4 hi_6 hc_7 hc_10 hc_13
                refine va_aldq hC.1 hC.2.1 hW.2.2.1 hW.1 1 4 rfl rfl (inb_of hi_6) dX11_mark_55 ?_
                rw [show mkE aE0 aE1 aE2 aE3 (Int32.toNatClampNeg x1) = some (aE3 0) by rw [hc_16]; rfl]
                obtain ⟨r_17, hg_18, hf⟩ := bd_of hf
                refine g_callvV (w' := w11 cy aX aT aR aH aJ aP aU aB aQ aK aL aE0 aE1 aE2 aE3 SX ++ (w0 cy aB r_17 ++ (w0 cy aE0 SE0 ++ (w0 cy aE1 SE1 ++ (w0 cy aE2 SE2 ++ (w0 cy aE3 SE3)))))) hC hW (c0_copy l D cy ad aB aE3 hg_18) (cwV 1 hC.2.2.2.2.1 gX11_mark_X0_copy rfl rfl rfl hdV0_copy ⟨Nat.le_of_ble_eq_true rfl, Nat.le_of_ble_eq_true rfl⟩) (⟨[3, 4, 5, 6, 7, 8, 27, 28, 29, 30, 31, 32], [0, 1, 2, 9, 10, 11, 12, 13, 14, 15, 16, 17, 18, 19, 20, 21, 22, 23, 24, 25, 26], [0, 1, 2, 21, 22, 23, 24, 25, 26, 3, 4, 5, 6, 7, 8, 9, 10, 11, 12, 13, 14, 15, 16, 17, 18, 19, 20, 27, 28, 29, 30, 31, 32], w11 cy aX aT aR aH aJ aP aU aB aQ aK aL aE0 aE1 aE2 aE3 SX ++ (w0 cy aE0 SE0 ++ (w0 cy aE1 SE1 ++ (w0 cy aE2 SE2))), rfl, rfl, rfl, rfl, by decide, rfl, rfl⟩) 0 0 rfl rfl rfl rfl hl.1 rfl (Nat.le_of_ble_eq_true rfl) dX11_mark_56 ⟨Nat.zero_le _, Nat.zero_le _⟩ (fun H locs hW => ?_)
                exact t11_mark_59 hC  _ _ _ _ _ _ _ _ _ _ _ hf hW (lv_sub hl [0, 1] rfl)
      · have hf := ite_t hf hc_3
        refine lv_aload_n hC.1 hC.2.1 dX11_mark_15 rfl (lv_at hl 0 rfl) ?_
        refine g_get hC hW hin11_mark_11 0 rfl rfl 7 (by decide) 1 rfl rfl dX11_mark_16 ?_
        refine lv_iload_n hC.1 hC.2.1 dX11_mark_19 rfl (lv_at hl 1 rfl) ?_
        obtain ⟨hi_19, hf⟩ := ck_of hf
        by_cases hc_20 : x1 = 0
        · have hf := ite_t hf hc_20
          refine va_aldq hC.1 hC.2.1 hW.2.2.1 hW.1 1 4 rfl rfl (inb_of hi_19) dX11_mark_20 ?_
          rw [show mkE aE0 aE1 aE2 aE3 (Int32.toNatClampNeg x1) = some (aE0 0) by rw [hc_20]; rfl]
          refine lv_aload_n hC.1 hC.2.1 dX11_mark_21 rfl (lv_at hl 0 rfl) ?_
          refine g_get hC hW hin11_mark_11 0 rfl rfl 6 (by decide) 2 rfl rfl dX11_mark_22 ?_
          obtain ⟨r_21, hg_22, hf⟩ := bd_of hf
          refine g_callvV (w' := w11 cy aX aT aR aH aJ aP aU aB aQ aK aL aE0 aE1 aE2 aE3 SX ++ (w0 cy aB SB ++ (w0 cy aE0 r_21 ++ (w0 cy aE1 SE1 ++ (w0 cy aE2 SE2 ++ (w0 cy aE3 SE3)))))) hC hW (c0_copy l D cy ad aE0 aB hg_22) (cwV 1 hC.2.2.2.2.1 gX11_mark_X0_copy rfl rfl rfl hdV0_copy ⟨Nat.le_of_ble_eq_true rfl, Nat.le_of_ble_eq_true rfl⟩) (⟨[9, 10, 11, 12, 13, 14, 3, 4, 5, 6, 7, 8], [0, 1, 2, 15, 16, 17, 18, 19, 20, 21, 22, 23, 24, 25, 26, 27, 28, 29, 30, 31, 32], [0, 1, 2, 27, 28, 29, 30, 31, 32, 21, 22, 23, 24, 25, 26, 3, 4, 5, 6, 7, 8, 9, 10, 11, 12, 13, 14, 15, 16, 17, 18, 19, 20], w11 cy aX aT aR aH aJ aP aU aB aQ aK aL aE0 aE1 aE2 aE3 SX ++ (w0 cy aE1 SE1 ++ (w0 cy aE2 SE2 ++ (w0 cy aE3 SE3))), rfl, rfl, rfl, rfl, by decide, rfl, rfl⟩) 0 0 rfl rfl rfl rfl hl.1 rfl (Nat.le_of_ble_eq_true rfl) dX11_mark_25 ⟨Nat.zero_le _, Nat.zero_le _⟩ (fun H locs hW => ?_)
          refine lv_aload_n hC.1 hC.2.1 dX11_mark_28 rfl (lv_at hl 0 rfl) ?_
          refine g_get hC hW hin11_mark_11 0 rfl rfl 8 (by decide) 3 rfl rfl dX11_mark_29 ?_
          refine lv_iload_n hC.1 hC.2.1 dX11_mark_32 rfl (lv_at hl 1 rfl) ?_
          refine lv_iconst (v := 1) hC.1 hC.2.1 dX11_mark_33 (by decide) ?_
          obtain ⟨hi_23, hf⟩ := ck_of hf
          obtain ⟨SX_24, eSX_24⟩ : ∃ y : Ob, y = oA SX 8 (Int32.toNatClampNeg x1) (vp_nar .boolean 1) := ⟨_, rfl⟩
          have hf := lt_nm hf eSX_24
          refine g_zast hC hW 2 rfl hi_23 (w' := w11 cy aX aT aR aH aJ aP aU aB aQ aK aL aE0 aE1 aE2 aE3 SX_24 ++ (w0 cy aB SB ++ (w0 cy aE0 r_21 ++ (w0 cy aE1 SE1 ++ (w0 cy aE2 SE2 ++ (w0 cy aE3 SE3)))))) (by rw [eSX_24]; rfl) dX11_mark_34 (fun H locs hW => ?_)
          refine lv_iconst (v := 1) hC.1 hC.2.1 dX11_mark_35 (by decide) ?_
          obtain rfl := Option.some.inj hf
          exact g_zret (v := 1) hC hW (by decide) dX11_mark_36
        · have hf := ite_f hf hc_20
          by_cases hc_25 : x1 = 1
          · have hf := ite_t hf hc_25
            refine va_aldq hC.1 hC.2.1 hW.2.2.1 hW.1 1 4 rfl rfl (inb_of hi_19) dX11_mark_20 ?_
            rw [show mkE aE0 aE1 aE2 aE3 (Int32.toNatClampNeg x1) = some (aE1 0) by rw [hc_25]; rfl]
            refine lv_aload_n hC.1 hC.2.1 dX11_mark_21 rfl (lv_at hl 0 rfl) ?_
            refine g_get hC hW hin11_mark_11 0 rfl rfl 6 (by decide) 2 rfl rfl dX11_mark_22 ?_
            obtain ⟨r_26, hg_27, hf⟩ := bd_of hf
            refine g_callvV (w' := w11 cy aX aT aR aH aJ aP aU aB aQ aK aL aE0 aE1 aE2 aE3 SX ++ (w0 cy aB SB ++ (w0 cy aE0 SE0 ++ (w0 cy aE1 r_26 ++ (w0 cy aE2 SE2 ++ (w0 cy aE3 SE3)))))) hC hW (c0_copy l D cy ad aE1 aB hg_27) (cwV 1 hC.2.2.2.2.1 gX11_mark_X0_copy rfl rfl rfl hdV0_copy ⟨Nat.le_of_ble_eq_true rfl, Nat.le_of_ble_eq_true rfl⟩) (⟨[15, 16, 17, 18, 19, 20, 3, 4, 5, 6, 7, 8], [0, 1, 2, 9, 10, 11, 12, 13, 14, 21, 22, 23, 24, 25, 26, 27, 28, 29, 30, 31, 32], [0, 1, 2, 27, 28, 29, 30, 31, 32, 3, 4, 5, 6, 7, 8, 21, 22, 23, 24, 25, 26, 9, 10, 11, 12, 13, 14, 15, 16, 17, 18, 19, 20], w11 cy aX aT aR aH aJ aP aU aB aQ aK aL aE0 aE1 aE2 aE3 SX ++ (w0 cy aE0 SE0 ++ (w0 cy aE2 SE2 ++ (w0 cy aE3 SE3))), rfl, rfl, rfl, rfl, by decide, rfl, rfl⟩) 0 0 rfl rfl rfl rfl hl.1 rfl (Nat.le_of_ble_eq_true rfl) dX11_mark_25 ⟨Nat.zero_le _, Nat.zero_le _⟩ (fun H locs hW => ?_)
            refine lv_aload_n hC.1 hC.2.1 dX11_mark_28 rfl (lv_at hl 0 rfl) ?_
            refine g_get hC hW hin11_mark_11 0 rfl rfl 8 (by decide) 3 rfl rfl dX11_mark_29 ?_
            refine lv_iload_n hC.1 hC.2.1 dX11_mark_32 rfl (lv_at hl 1 rfl) ?_
            refine lv_iconst (v := 1) hC.1 hC.2.1 dX11_mark_33 (by decide) ?_
            obtain ⟨hi_28, hf⟩ := ck_of hf
            obtain ⟨SX_29, eSX_29⟩ : ∃ y : Ob, y = oA SX 8 (Int32.toNatClampNeg x1) (vp_nar .boolean 1) := ⟨_, rfl⟩
            have hf := lt_nm hf eSX_29
            refine g_zast hC hW 2 rfl hi_28 (w' := w11 cy aX aT aR aH aJ aP aU aB aQ aK aL aE0 aE1 aE2 aE3 SX_29 ++ (w0 cy aB SB ++ (w0 cy aE0 SE0 ++ (w0 cy aE1 r_26 ++ (w0 cy aE2 SE2 ++ (w0 cy aE3 SE3)))))) (by rw [eSX_29]; rfl) dX11_mark_34 (fun H locs hW => ?_)
            refine lv_iconst (v := 1) hC.1 hC.2.1 dX11_mark_35 (by decide) ?_
            obtain rfl := Option.some.inj hf
            exact g_zret (v := 1) hC hW (by decide) dX11_mark_36
          · have hf := ite_f hf hc_25
            by_cases hc_30 : x1 = 2
            · have hf := ite_t hf hc_30
              refine va_aldq hC.1 hC.2.1 hW.2.2.1 hW.1 1 4 rfl rfl (inb_of hi_19) dX11_mark_20 ?_
              rw [show mkE aE0 aE1 aE2 aE3 (Int32.toNatClampNeg x1) = some (aE2 0) by rw [hc_30]; rfl]
              refine lv_aload_n hC.1 hC.2.1 dX11_mark_21 rfl (lv_at hl 0 rfl) ?_
              refine g_get hC hW hin11_mark_11 0 rfl rfl 6 (by decide) 2 rfl rfl dX11_mark_22 ?_
              obtain ⟨r_31, hg_32, hf⟩ := bd_of hf
              refine g_callvV (w' := w11 cy aX aT aR aH aJ aP aU aB aQ aK aL aE0 aE1 aE2 aE3 SX ++ (w0 cy aB SB ++ (w0 cy aE0 SE0 ++ (w0 cy aE1 SE1 ++ (w0 cy aE2 r_31 ++ (w0 cy aE3 SE3)))))) hC hW (c0_copy l D cy ad aE2 aB hg_32) (cwV 1 hC.2.2.2.2.1 gX11_mark_X0_copy rfl rfl rfl hdV0_copy ⟨Nat.le_of_ble_eq_true rfl, Nat.le_of_ble_eq_true rfl⟩) (⟨[21, 22, 23, 24, 25, 26, 3, 4, 5, 6, 7, 8], [0, 1, 2, 9, 10, 11, 12, 13, 14, 15, 16, 17, 18, 19, 20, 27, 28, 29, 30, 31, 32], [0, 1, 2, 27, 28, 29, 30, 31, 32, 3, 4, 5, 6, 7, 8, 9, 10, 11, 12, 13, 14, 21, 22, 23, 24, 25, 26, 15, 16, 17, 18, 19, 20], w11 cy aX aT aR aH aJ aP aU aB aQ aK aL aE0 aE1 aE2 aE3 SX ++ (w0 cy aE0 SE0 ++ (w0 cy aE1 SE1 ++ (w0 cy aE3 SE3))), rfl, rfl, rfl, rfl, by decide, rfl, rfl⟩) 0 0 rfl rfl rfl rfl hl.1 rfl (Nat.le_of_ble_eq_true rfl) dX11_mark_25 ⟨Nat.zero_le _, Nat.zero_le _⟩ (fun H locs hW => ?_)
              refine lv_aload_n hC.1 hC.2.1 dX11_mark_28 rfl (lv_at hl 0 rfl) ?_
              refine g_get hC hW hin11_mark_11 0 rfl rfl 8 (by decide) 3 rfl rfl dX11_mark_29 ?_
              refine lv_iload_n hC.1 hC.2.1 dX11_mark_32 rfl (lv_at hl 1 rfl) ?_
              refine lv_iconst (v := 1) hC.1 hC.2.1 dX11_mark_33 (by decide) ?_
              obtain ⟨hi_33, hf⟩ := ck_of hf
              obtain ⟨SX_34, eSX_34⟩ : ∃ y : Ob, y = oA SX 8 (Int32.toNatClampNeg x1) (vp_nar .boolean 1) := ⟨_, rfl⟩
              have hf := lt_nm hf eSX_34
              refine g_zast hC hW 2 rfl hi_33 (w' := w11 cy aX aT aR aH aJ aP aU aB aQ aK aL aE0 aE1 aE2 aE3 SX_34 ++ (w0 cy aB SB ++ (w0 cy aE0 SE0 ++ (w0 cy aE1 SE1 ++ (w0 cy aE2 r_31 ++ (w0 cy aE3 SE3)))))) (by rw [eSX_34]; rfl) dX11_mark_34 (fun H locs hW => ?_)
              refine lv_iconst (v := 1) hC.1 hC.2.1 dX11_mark_35 (by decide) ?_
              obtain rfl := Option.some.inj hf
              exact g_zret (v := 1) hC hW (by decide) dX11_mark_36
            · have hf := ite_f hf hc_30
              have hc_35 : x1 = 3 := inb4 hi_19 hc_20 hc_25 hc_30
              refine va_aldq hC.1 hC.2.1 hW.2.2.1 hW.1 1 4 rfl rfl (inb_of hi_19) dX11_mark_20 ?_
              rw [show mkE aE0 aE1 aE2 aE3 (Int32.toNatClampNeg x1) = some (aE3 0) by rw [hc_35]; rfl]
              refine lv_aload_n hC.1 hC.2.1 dX11_mark_21 rfl (lv_at hl 0 rfl) ?_
              refine g_get hC hW hin11_mark_11 0 rfl rfl 6 (by decide) 2 rfl rfl dX11_mark_22 ?_
              obtain ⟨r_36, hg_37, hf⟩ := bd_of hf
              refine g_callvV (w' := w11 cy aX aT aR aH aJ aP aU aB aQ aK aL aE0 aE1 aE2 aE3 SX ++ (w0 cy aB SB ++ (w0 cy aE0 SE0 ++ (w0 cy aE1 SE1 ++ (w0 cy aE2 SE2 ++ (w0 cy aE3 r_36)))))) hC hW (c0_copy l D cy ad aE3 aB hg_37) (cwV 1 hC.2.2.2.2.1 gX11_mark_X0_copy rfl rfl rfl hdV0_copy ⟨Nat.le_of_ble_eq_true rfl, Nat.le_of_ble_eq_true rfl⟩) (⟨[27, 28, 29, 30, 31, 32, 3, 4, 5, 6, 7, 8], [0, 1, 2, 9, 10, 11, 12, 13, 14, 15, 16, 17, 18, 19, 20, 21, 22, 23, 24, 25, 26], [0, 1, 2, 27, 28, 29, 30, 31, 32, 3, 4, 5, 6, 7, 8, 9, 10, 11, 12, 13, 14, 15, 16, 17, 18, 19, 20, 21, 22, 23, 24, 25, 26], w11 cy aX aT aR aH aJ aP aU aB aQ aK aL aE0 aE1 aE2 aE3 SX ++ (w0 cy aE0 SE0 ++ (w0 cy aE1 SE1 ++ (w0 cy aE2 SE2))), rfl, rfl, rfl, rfl, by decide, rfl, rfl⟩) 0 0 rfl rfl rfl rfl hl.1 rfl (Nat.le_of_ble_eq_true rfl) dX11_mark_25 ⟨Nat.zero_le _, Nat.zero_le _⟩ (fun H locs hW => ?_)
              refine lv_aload_n hC.1 hC.2.1 dX11_mark_28 rfl (lv_at hl 0 rfl) ?_
              refine g_get hC hW hin11_mark_11 0 rfl rfl 8 (by decide) 3 rfl rfl dX11_mark_29 ?_
              refine lv_iload_n hC.1 hC.2.1 dX11_mark_32 rfl (lv_at hl 1 rfl) ?_
              refine lv_iconst (v := 1) hC.1 hC.2.1 dX11_mark_33 (by decide) ?_
              obtain ⟨hi_38, hf⟩ := ck_of hf
              obtain ⟨SX_39, eSX_39⟩ : ∃ y : Ob, y = oA SX 8 (Int32.toNatClampNeg x1) (vp_nar .boolean 1) := ⟨_, rfl⟩
              have hf := lt_nm hf eSX_39
              refine g_zast hC hW 2 rfl hi_38 (w' := w11 cy aX aT aR aH aJ aP aU aB aQ aK aL aE0 aE1 aE2 aE3 SX_39 ++ (w0 cy aB SB ++ (w0 cy aE0 SE0 ++ (w0 cy aE1 SE1 ++ (w0 cy aE2 SE2 ++ (w0 cy aE3 r_36)))))) (by rw [eSX_39]; rfl) dX11_mark_34 (fun H locs hW => ?_)
              refine lv_iconst (v := 1) hC.1 hC.2.1 dX11_mark_35 (by decide) ?_
              obtain rfl := Option.some.inj hf
              exact g_zret (v := 1) hC hW (by decide) dX11_mark_36
    · have hf := ite_f hf hc_2
      exact t11_mark_9 hC  _ _ _ _ _ _ _ _ _ _ hf hW (lv_sub hl [] rfl)
set_option maxRecDepth 100000 in
set_option maxHeartbeats 4000000 in
theorem c11_mark (l : Launch) (D : va_G) (cy : Nat → ClassId) (ad : Nat → Nat) (aX : Nat → Nat) (aT : Nat → Nat) (aR : Nat → Nat) (aH : Nat → Nat) (aJ : Nat → Nat) (aP : Nat → Nat) (aU : Nat → Nat) (aB : Nat → Nat) (aQ : Nat → Nat) (aK : Nat → Nat) (aL : Nat → Nat) (aE0 : Nat → Nat) (aE1 : Nat → Nat) (aE2 : Nat → Nat) (aE3 : Nat → Nat) {x1 : Int32} {x2 : Int32} {SX : Ob} {SB : Ob} {SE0 : Ob} {SE1 : Ob} {SE2 : Ob} {SE3 : Ob} {res : Int32 × Ob × Ob × Ob × Ob × Ob × Ob} (h : f11_mark x1 x2 SX SB SE0 SE1 SE2 SE3 = some res) : GCi l yX11_mark wsX11_mark rm11_mark [.ref (aX 0), .int x1, .int x2] D cy ad (w11 cy aX aT aR aH aJ aP aU aB aQ aK aL aE0 aE1 aE2 aE3 SX ++ (w0 cy aB SB ++ (w0 cy aE0 SE0 ++ (w0 cy aE1 SE1 ++ (w0 cy aE2 SE2 ++ (w0 cy aE3 SE3)))))) (w11 cy aX aT aR aH aJ aP aU aB aQ aK aL aE0 aE1 aE2 aE3 (res.2.1) ++ (w0 cy aB (res.2.2.1) ++ (w0 cy aE0 (res.2.2.2.1) ++ (w0 cy aE1 (res.2.2.2.2.1) ++ (w0 cy aE2 (res.2.2.2.2.2.1) ++ (w0 cy aE3 (res.2.2.2.2.2.2))))))) (res.1) := fun sz => GC.start (own := RX11) (Qc := fun A => QI D cy (w11 cy aX aT aR aH aJ aP aU aB aQ aK aL aE0 aE1 aE2 aE3 (res.2.1) ++ (w0 cy aB (res.2.2.1) ++ (w0 cy aE0 (res.2.2.2.1) ++ (w0 cy aE1 (res.2.2.2.2.1) ++ (w0 cy aE2 (res.2.2.2.2.2.1) ++ (w0 cy aE3 (res.2.2.2.2.2.2))))))) A (res.1)) sz (by decide) rfl rfl (Nat.le_of_ble_eq_true rfl) (fun p e s m below meth c A ls hC hW hl => t11_mark_0 hC _ _ _ _ _ _ _ _ _ _ _ _ h hW (lv_sub hl [0, 1, 2] rfl))
abbrev rm11_count : Room := { frames := 1, cells := 0, slots := 0, locals := 20 }
theorem hdV11_count : yX11_count.cls = RX11 ∧ (yX11_count.cls ≠ "java/lang/invoke/MethodHandle" ∧ yX11_count.cls ≠ "java/lang/invoke/VarHandle" ∧ (parseMethodDescriptor yX11_count.desc).map (fun d => d.parameters.length) = some 1) := by decide +kernel
theorem hin11_count_11 : ∀ x ∈ u_ws RX11 TX11 12, x ∈ wsX11_count := fun _ h => List.mem_cons_of_mem _ (List.mem_append_left _ (List.mem_append_left _ (List.mem_append_left _ (List.mem_append_left _ (List.mem_append_right _ h)))))
theorem hin11_count_4 : ∀ x ∈ u_ws RX4 TX4 13, x ∈ wsX11_count := fun _ h => List.mem_cons_of_mem _ (List.mem_append_left _ (List.mem_append_left _ (List.mem_append_left _ (List.mem_append_right _ h))))
theorem hin11_count_0 : ∀ x ∈ u_ws RX0 TX0 9, x ∈ wsX11_count := fun _ h => List.mem_cons_of_mem _ (List.mem_append_left _ (List.mem_append_left _ (List.mem_append_right _ h)))
theorem hin11_count_7 : ∀ x ∈ u_ws RX7 TX7 3, x ∈ wsX11_count := fun _ h => List.mem_cons_of_mem _ (List.mem_append_left _ (List.mem_append_right _ h))
theorem hin11_count_10 : ∀ x ∈ u_ws RX10 TX10 8, x ∈ wsX11_count := fun _ h => List.mem_cons_of_mem _ (List.mem_append_right _ h)
set_option maxRecDepth 100000 in
set_option maxHeartbeats 4000000 in
theorem t11_count_0 (hC : Cx p s m args meth c cX11_count 2 wsX11_count RX11 (some .int)) : ∀ (x1 : Int32) (SX : Ob) (ST : Ob) (SH : Ob) (SB : Ob) (SP : Ob) (res : Int32) (H : Heap) (locs : List Loc) (ls : Array Slot), f11_count x1 SX ST SH SB SP = some res → GW D cy ad (w11 cy aX aT aR aH aJ aP aU aB aQ aK aL aE0 aE1 aE2 aE3 SX ++ (w10 cy aT ST ++ (w4 cy aH SH ++ (w0 cy aB SB ++ (w7 cy aP SP))))) A s H locs → lv_has ls 2 [(0, .ref (aX 0)), (1, .int x1)] → W p l e rm11_count s m args below meth c H locs 0 0 (MQ below (QI D cy (w11 cy aX aT aR aH aJ aP aU aB aQ aK aL aE0 aE1 aE2 aE3 SX ++ (w10 cy aT ST ++ (w4 cy aH SH ++ (w0 cy aB SB ++ (w7 cy aP SP))))) A res) args s 0 0 A) (F0 m 0 ls []) := by
  intro x1 SX ST SH SB SP res H locs ls hf hW hl
  unfold f11_count at hf
  refine lv_iload_n hC.1 hC.2.1 dX11_count_0 rfl (lv_at hl 1 rfl) ?_
  by_cases hc_1 : x1 = 0
  · have hf := ite_t hf hc_1
    refine lv_tableIn (tgt := 48) hC.1 hC.2.1 dX11_count_1 (by rw [hc_1]; decide) (by rw [hc_1]; decide) (by rw [hc_1]; rfl) (by decide) ?_
    refine lv_aload_n hC.1 hC.2.1 dX11_count_48 rfl (lv_at hl 0 rfl) ?_
    refine g_get hC hW hin11_count_11 0 rfl rfl 2 (by decide) 1 rfl rfl dX11_count_49 ?_
    refine g_get hC hW hin11_count_4 6 rfl rfl 0 (by decide) 2 rfl rfl dX11_count_52 ?_
    obtain rfl := Option.some.inj hf
    exact g_iret hC hW dX11_count_55
  · have hf := ite_f hf hc_1
    by_cases hc_2 : x1 = 1
    · have hf := ite_t hf hc_2
      refine lv_tableIn (tgt := 56) hC.1 hC.2.1 dX11_count_1 (by rw [hc_2]; decide) (by rw [hc_2]; decide) (by rw [hc_2]; rfl) (by decide) ?_
      refine lv_aload_n hC.1 hC.2.1 dX11_count_56 rfl (lv_at hl 0 rfl) ?_
      refine g_get hC hW hin11_count_11 0 rfl rfl 2 (by decide) 1 rfl rfl dX11_count_57 ?_
      refine g_get hC hW hin11_count_4 6 rfl rfl 8 (by decide) 3 rfl rfl dX11_count_60 ?_
      obtain rfl := Option.some.inj hf
      exact g_iret hC hW dX11_count_63
    · have hf := ite_f hf hc_2
      by_cases hc_3 : x1 = 2
      · have hf := ite_t hf hc_3
        refine lv_tableIn (tgt := 64) hC.1 hC.2.1 dX11_count_1 (by rw [hc_3]; decide) (by rw [hc_3]; decide) (by rw [hc_3]; rfl) (by decide) ?_
        refine lv_aload_n hC.1 hC.2.1 dX11_count_64 rfl (lv_at hl 0 rfl) ?_
        refine g_get hC hW hin11_count_11 0 rfl rfl 6 (by decide) 4 rfl rfl dX11_count_65 ?_
        refine g_get hC hW hin11_count_0 18 rfl rfl 0 (by decide) 5 rfl rfl dX11_count_68 ?_
        obtain ⟨r_4, hg_5, hf⟩ := bd_of hf
        refine g_calliS (w' := w11 cy aX aT aR aH aJ aP aU aB aQ aK aL aE0 aE1 aE2 aE3 SX ++ (w10 cy aT ST ++ (w4 cy aH SH ++ (w0 cy aB SB ++ (w7 cy aP SP))))) hC hW (cj6_bitCount l D cy ad  hg_5) (va_cwS 1 hC.2.2.2.2.1 gX11_count_J6_bitCount_0f7a4 rfl rfl rfl hdSj6_bitCount ⟨Nat.le_of_ble_eq_true rfl, Nat.le_of_ble_eq_true rfl⟩) (Sub.nil _) rfl hl.1 rfl (Nat.le_of_ble_eq_true rfl) dX11_count_71 ⟨Nat.zero_le _, Nat.zero_le _⟩ (fun H locs hW => ?_)
        obtain rfl := Option.some.inj hf
        exact g_iret hC hW dX11_count_74
      · have hf := ite_f hf hc_3
        by_cases hc_6 : x1 = 3
        · have hf := ite_t hf hc_6
          refine lv_tableIn (tgt := 75) hC.1 hC.2.1 dX11_count_1 (by rw [hc_6]; decide) (by rw [hc_6]; decide) (by rw [hc_6]; rfl) (by decide) ?_
          refine lv_aload_n hC.1 hC.2.1 dX11_count_75 rfl (lv_at hl 0 rfl) ?_
          refine g_get hC hW hin11_count_11 0 rfl rfl 6 (by decide) 4 rfl rfl dX11_count_76 ?_
          refine g_get hC hW hin11_count_0 18 rfl rfl 1 (by decide) 6 rfl rfl dX11_count_79 ?_
          obtain rfl := Option.some.inj hf
          exact g_iret hC hW dX11_count_82
        · have hf := ite_f hf hc_6
          by_cases hc_7 : x1 = 4
          · have hf := ite_t hf hc_7
            refine lv_tableIn (tgt := 83) hC.1 hC.2.1 dX11_count_1 (by rw [hc_7]; decide) (by rw [hc_7]; decide) (by rw [hc_7]; rfl) (by decide) ?_
            refine lv_aload_n hC.1 hC.2.1 dX11_count_83 rfl (lv_at hl 0 rfl) ?_
            refine g_get hC hW hin11_count_11 0 rfl rfl 4 (by decide) 7 rfl rfl dX11_count_84 ?_
            refine g_get hC hW hin11_count_7 24 rfl rfl 0 (by decide) 8 rfl rfl dX11_count_87 ?_
            obtain rfl := Option.some.inj hf
            exact g_iret hC hW dX11_count_90
          · have hf := ite_f hf hc_7
            by_cases hc_8 : x1 = 5
            · have hf := ite_t hf hc_8
              refine lv_tableIn (tgt := 91) hC.1 hC.2.1 dX11_count_1 (by rw [hc_8]; decide) (by rw [hc_8]; decide) (by rw [hc_8]; rfl) (by decide) ?_
              refine lv_aload_n hC.1 hC.2.1 dX11_count_91 rfl (lv_at hl 0 rfl) ?_
              refine g_get hC hW hin11_count_11 0 rfl rfl 6 (by decide) 4 rfl rfl dX11_count_92 ?_
              refine g_get hC hW hin11_count_0 18 rfl rfl 3 (by decide) 9 rfl rfl dX11_count_95 ?_
              obtain rfl := Option.some.inj hf
              exact g_iret hC hW dX11_count_98
            · have hf := ite_f hf hc_8
              by_cases hc_9 : x1 = 6
              · have hf := ite_t hf hc_9
                refine lv_tableIn (tgt := 99) hC.1 hC.2.1 dX11_count_1 (by rw [hc_9]; decide) (by rw [hc_9]; decide) (by rw [hc_9]; rfl) (by decide) ?_
                refine lv_aload_n hC.1 hC.2.1 dX11_count_99 rfl (lv_at hl 0 rfl) ?_
                refine g_get hC hW hin11_count_11 0 rfl rfl 6 (by decide) 4 rfl rfl dX11_count_100 ?_
                refine g_get hC hW hin11_count_0 18 rfl rfl 6 (by decide) 10 rfl rfl dX11_count_103 ?_
                obtain rfl := Option.some.inj hf
                exact g_iret hC hW dX11_count_106
              · have hf := ite_f hf hc_9
                by_cases hc_10 : x1 = 7
                · have hf := ite_t hf hc_10
                  refine lv_tableIn (tgt := 107) hC.1 hC.2.1 dX11_count_1 (by rw [hc_10]; decide) (by rw [hc_10]; decide) (by rw [hc_10]; rfl) (by decide) ?_
                  refine lv_aload_n hC.1 hC.2.1 dX11_count_107 rfl (lv_at hl 0 rfl) ?_
                  refine g_get hC hW hin11_count_11 0 rfl rfl 0 (by decide) 11 rfl rfl dX11_count_108 ?_
                  refine g_get hC hW hin11_count_10 3 rfl rfl 2 (by decide) 12 rfl rfl dX11_count_111 ?_
                  obtain rfl := Option.some.inj hf
                  exact g_iret hC hW dX11_count_114
                · have hf := ite_f hf hc_10
                  refine lv_tableOut (tgt := 115) hC.1 hC.2.1 dX11_count_1 (tab_out [0, 1, 2, 3, 4, 5, 6, 7] (List.forall_mem_cons.mpr ⟨hc_1, (List.forall_mem_cons.mpr ⟨hc_2, (List.forall_mem_cons.mpr ⟨hc_3, (List.forall_mem_cons.mpr ⟨hc_6, (List.forall_mem_cons.mpr ⟨hc_7, (List.forall_mem_cons.mpr ⟨hc_8, (List.forall_mem_cons.mpr ⟨hc_9, (List.forall_mem_cons.mpr ⟨hc_10, (fun _ h => by cases h)⟩)⟩)⟩)⟩)⟩)⟩)⟩)⟩) (by decide)) (by decide) ?_
                  refine lv_iconst (v := (-1)) hC.1 hC.2.1 dX11_count_115 (by decide) ?_
                  obtain rfl := Option.some.inj hf
                  exact g_iret hC hW dX11_count_116
set_option maxRecDepth 100000 in
set_option maxHeartbeats 4000000 in
theorem c11_count (l : Launch) (D : va_G) (cy : Nat → ClassId) (ad : Nat → Nat) (aX : Nat → Nat) (aT : Nat → Nat) (aR : Nat → Nat) (aH : Nat → Nat) (aJ : Nat → Nat) (aP : Nat → Nat) (aU : Nat → Nat) (aB : Nat → Nat) (aQ : Nat → Nat) (aK : Nat → Nat) (aL : Nat → Nat) (aE0 : Nat → Nat) (aE1 : Nat → Nat) (aE2 : Nat → Nat) (aE3 : Nat → Nat) {x1 : Int32} {SX : Ob} {ST : Ob} {SH : Ob} {SB : Ob} {SP : Ob} {res : Int32} (h : f11_count x1 SX ST SH SB SP = some res) : GCi l yX11_count wsX11_count rm11_count [.ref (aX 0), .int x1] D cy ad (w11 cy aX aT aR aH aJ aP aU aB aQ aK aL aE0 aE1 aE2 aE3 SX ++ (w10 cy aT ST ++ (w4 cy aH SH ++ (w0 cy aB SB ++ (w7 cy aP SP))))) (w11 cy aX aT aR aH aJ aP aU aB aQ aK aL aE0 aE1 aE2 aE3 SX ++ (w10 cy aT ST ++ (w4 cy aH SH ++ (w0 cy aB SB ++ (w7 cy aP SP))))) res := fun sz => GC.start (own := RX11) (Qc := fun A => QI D cy (w11 cy aX aT aR aH aJ aP aU aB aQ aK aL aE0 aE1 aE2 aE3 SX ++ (w10 cy aT ST ++ (w4 cy aH SH ++ (w0 cy aB SB ++ (w7 cy aP SP))))) A res) sz (by decide) rfl rfl (Nat.le_of_ble_eq_true rfl) (fun p e s m below meth c A ls hC hW hl => t11_count_0 hC _ _ _ _ _ _ _ _ _ _ h hW (lv_sub hl [0, 1] rfl))
end
