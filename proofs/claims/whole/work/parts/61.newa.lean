/-! laid by program: the makers of rows -/
theorem dX0_init_0 : decode cX0_init 0 = .ok (.aload_n 0, 1) := by decide +kernel
theorem dX0_init_1 : decode cX0_init 1 = .ok (.invokespecial 3, 3) := by decide +kernel
theorem dX0_init_4 : decode cX0_init 4 = .ok (.aload_n 0, 1) := by decide +kernel
theorem dX0_init_5 : decode cX0_init 5 = .ok (.bipush 10, 2) := by decide +kernel
theorem dX0_init_7 : decode cX0_init 7 = .ok (.newarray .int, 2) := by decide +kernel
theorem dX0_init_9 : decode cX0_init 9 = .ok (.putfield 9, 3) := by decide +kernel
theorem dX0_init_12 : decode cX0_init 12 = .ok (.aload_n 0, 1) := by decide +kernel
theorem dX0_init_13 : decode cX0_init 13 = .ok (.bipush 8, 2) := by decide +kernel
theorem dX0_init_15 : decode cX0_init 15 = .ok (.newarray .int, 2) := by decide +kernel
theorem dX0_init_17 : decode cX0_init 17 = .ok (.putfield 15, 3) := by decide +kernel
theorem dX0_init_20 : decode cX0_init 20 = .ok (.aload_n 0, 1) := by decide +kernel
theorem dX0_init_21 : decode cX0_init 21 = .ok (.bipush 8, 2) := by decide +kernel
theorem dX0_init_23 : decode cX0_init 23 = .ok (.newarray .boolean, 2) := by decide +kernel
theorem dX0_init_25 : decode cX0_init 25 = .ok (.putfield 18, 3) := by decide +kernel
theorem dX0_init_28 : decode cX0_init 28 = .ok (.aload_n 0, 1) := by decide +kernel
theorem dX0_init_29 : decode cX0_init 29 = .ok (.bipush 16, 2) := by decide +kernel
theorem dX0_init_31 : decode cX0_init 31 = .ok (.newarray .int, 2) := by decide +kernel
theorem dX0_init_33 : decode cX0_init 33 = .ok (.putfield 22, 3) := by decide +kernel
theorem dX0_init_36 : decode cX0_init 36 = .ok (.aload_n 0, 1) := by decide +kernel
theorem dX0_init_37 : decode cX0_init 37 = .ok (.bipush 16, 2) := by decide +kernel
theorem dX0_init_39 : decode cX0_init 39 = .ok (.newarray .int, 2) := by decide +kernel
theorem dX0_init_41 : decode cX0_init 41 = .ok (.putfield 25, 3) := by decide +kernel
theorem dX0_init_44 : decode cX0_init 44 = .ok (.return_, 1) := by decide +kernel
abbrev rm0_init : Room := { frames := 1, cells := 5, slots := 58, locals := 20 }
theorem hin0_init_0 : ∀ x ∈ u_ws RX0 TX0 9, x ∈ wsX0_init := fun _ h => List.mem_cons_of_mem _ (List.mem_append_right _ h)
set_option maxRecDepth 100000 in
set_option maxHeartbeats 8000000 in
theorem n0_init (l : Launch) (D : va_G) (cy : Nat → ClassId) (ad : Nat → Nat) (h0 : Nat) : GCn l yX0_init wsX0_init rm0_init [.ref h0] D cy ad ([(h0, .inr (0, [.int 0, .int 0, .null, .int 0, .null, .null, .int 0, .null, .null]))]) h0 (fun u => w0 cy (u 0) o0) 5 58 := fun sz => GCn.start (own := RX0) (Qc := fun A => QN D cy (fun u => w0 cy (u 0) o0) A h0) sz (by decide) rfl rfl (Nat.le_of_ble_eq_true rfl) rfl (fun p e s m below meth c A ls hini hC hW hl => by
    have hl : lv_has ls 1 [(0, .ref h0)] := hl
    have hW : GW D cy ad ([(h0, .inr (0, [.int 0, .int 0, .null, .int 0, .null, .null, .int 0, .null, .null]))]) A s s.heap [] := hW
    refine lv_aload_n hC.1 hC.2.1 dX0_init_0 rfl (lv_at hl 0 rfl) ?_
    refine g_oinit hC 1 2 3 rfl rfl rfl hl.1 dX0_init_1 (Nat.le_of_ble_eq_true rfl) (Nat.le_of_ble_eq_true rfl) ?_
    refine lv_aload_n hC.1 hC.2.1 dX0_init_4 rfl (lv_at hl 0 rfl) ?_
    refine lv_bipush (v := 10) hC.1 hC.2.1 dX0_init_5 (by decide) ?_
    refine g_newa hC hW 0 rfl rfl (fun C h => by cases h) 4 rfl (a0 := (10, .inl (fun _ => 0))) (fun _ => rfl) (by decide) (by decide) (by decide) (Nat.le_of_ble_eq_true rfl) (Nat.le_of_ble_eq_true rfl) dX0_init_7 (fun q1 H hW => ?_)
    have hW : GW D cy ad ([(h0, .inr (0, [.int 0, .int 0, .null, .int 0, .null, .null, .int 0, .null, .null]))] ++ ([(q1, .inl (cy 0, 10, .inl (fun _ => 0)))])) A s H _ := hW
    refine g_putF hC hW hini hin0_init_0 tyX0 tyX0_ok nmX0 0 rfl rfl 2 (by decide) 5 rfl rfl rfl rfl rfl (Nat.le_of_ble_eq_true rfl) (w' := [(h0, .inr (0, [.int 0, .int 0, .ref q1, .int 0, .null, .null, .int 0, .null, .null]))] ++ ([(q1, .inl (cy 0, 10, .inl (fun _ => 0)))])) rfl dX0_init_9 (fun H locs hW => ?_)
    refine lv_aload_n hC.1 hC.2.1 dX0_init_12 rfl (lv_at hl 0 rfl) ?_
    refine lv_bipush (v := 8) hC.1 hC.2.1 dX0_init_13 (by decide) ?_
    refine g_newa hC hW 0 rfl rfl (fun C h => by cases h) 4 rfl (a0 := (8, .inl (fun _ => 0))) (fun _ => rfl) (by decide) (by decide) (by decide) (Nat.le_of_ble_eq_true rfl) (Nat.le_of_ble_eq_true rfl) dX0_init_15 (fun q2 H hW => ?_)
    have hW : GW D cy ad ([(h0, .inr (0, [.int 0, .int 0, .ref q1, .int 0, .null, .null, .int 0, .null, .null]))] ++ ([(q1, .inl (cy 0, 10, .inl (fun _ => 0)))] ++ ([(q2, .inl (cy 0, 8, .inl (fun _ => 0)))]))) A s H _ := hW
    refine g_putF hC hW hini hin0_init_0 tyX0 tyX0_ok nmX0 0 rfl rfl 4 (by decide) 6 rfl rfl rfl rfl rfl (Nat.le_of_ble_eq_true rfl) (w' := [(h0, .inr (0, [.int 0, .int 0, .ref q1, .int 0, .ref q2, .null, .int 0, .null, .null]))] ++ ([(q1, .inl (cy 0, 10, .inl (fun _ => 0)))] ++ ([(q2, .inl (cy 0, 8, .inl (fun _ => 0)))]))) rfl dX0_init_17 (fun H locs hW => ?_)
    refine lv_aload_n hC.1 hC.2.1 dX0_init_20 rfl (lv_at hl 0 rfl) ?_
    refine lv_bipush (v := 8) hC.1 hC.2.1 dX0_init_21 (by decide) ?_
    refine g_newa hC hW 2 rfl rfl (fun C h => by cases h) 7 rfl (a0 := (8, .inl (fun _ => 0))) (fun _ => rfl) (by decide) (by decide) (by decide) (Nat.le_of_ble_eq_true rfl) (Nat.le_of_ble_eq_true rfl) dX0_init_23 (fun q3 H hW => ?_)
    have hW : GW D cy ad ([(h0, .inr (0, [.int 0, .int 0, .ref q1, .int 0, .ref q2, .null, .int 0, .null, .null]))] ++ ([(q1, .inl (cy 0, 10, .inl (fun _ => 0)))] ++ ([(q2, .inl (cy 0, 8, .inl (fun _ => 0)))] ++ ([(q3, .inl (cy 2, 8, .inl (fun _ => 0)))])))) A s H _ := hW
    refine g_putF hC hW hini hin0_init_0 tyX0 tyX0_ok nmX0 0 rfl rfl 5 (by decide) 8 rfl rfl rfl rfl rfl (Nat.le_of_ble_eq_true rfl) (w' := [(h0, .inr (0, [.int 0, .int 0, .ref q1, .int 0, .ref q2, .ref q3, .int 0, .null, .null]))] ++ ([(q1, .inl (cy 0, 10, .inl (fun _ => 0)))] ++ ([(q2, .inl (cy 0, 8, .inl (fun _ => 0)))] ++ ([(q3, .inl (cy 2, 8, .inl (fun _ => 0)))])))) rfl dX0_init_25 (fun H locs hW => ?_)
    refine lv_aload_n hC.1 hC.2.1 dX0_init_28 rfl (lv_at hl 0 rfl) ?_
    refine lv_bipush (v := 16) hC.1 hC.2.1 dX0_init_29 (by decide) ?_
    refine g_newa hC hW 0 rfl rfl (fun C h => by cases h) 4 rfl (a0 := (16, .inl (fun _ => 0))) (fun _ => rfl) (by decide) (by decide) (by decide) (Nat.le_of_ble_eq_true rfl) (Nat.le_of_ble_eq_true rfl) dX0_init_31 (fun q4 H hW => ?_)
    have hW : GW D cy ad ([(h0, .inr (0, [.int 0, .int 0, .ref q1, .int 0, .ref q2, .ref q3, .int 0, .null, .null]))] ++ ([(q1, .inl (cy 0, 10, .inl (fun _ => 0)))] ++ ([(q2, .inl (cy 0, 8, .inl (fun _ => 0)))] ++ ([(q3, .inl (cy 2, 8, .inl (fun _ => 0)))] ++ ([(q4, .inl (cy 0, 16, .inl (fun _ => 0)))]))))) A s H _ := hW
    refine g_putF hC hW hini hin0_init_0 tyX0 tyX0_ok nmX0 0 rfl rfl 7 (by decide) 9 rfl rfl rfl rfl rfl (Nat.le_of_ble_eq_true rfl) (w' := [(h0, .inr (0, [.int 0, .int 0, .ref q1, .int 0, .ref q2, .ref q3, .int 0, .ref q4, .null]))] ++ ([(q1, .inl (cy 0, 10, .inl (fun _ => 0)))] ++ ([(q2, .inl (cy 0, 8, .inl (fun _ => 0)))] ++ ([(q3, .inl (cy 2, 8, .inl (fun _ => 0)))] ++ ([(q4, .inl (cy 0, 16, .inl (fun _ => 0)))]))))) rfl dX0_init_33 (fun H locs hW => ?_)
    refine lv_aload_n hC.1 hC.2.1 dX0_init_36 rfl (lv_at hl 0 rfl) ?_
    refine lv_bipush (v := 16) hC.1 hC.2.1 dX0_init_37 (by decide) ?_
    refine g_newa hC hW 0 rfl rfl (fun C h => by cases h) 4 rfl (a0 := (16, .inl (fun _ => 0))) (fun _ => rfl) (by decide) (by decide) (by decide) (Nat.le_of_ble_eq_true rfl) (Nat.le_of_ble_eq_true rfl) dX0_init_39 (fun q5 H hW => ?_)
    have hW : GW D cy ad ([(h0, .inr (0, [.int 0, .int 0, .ref q1, .int 0, .ref q2, .ref q3, .int 0, .ref q4, .null]))] ++ ([(q1, .inl (cy 0, 10, .inl (fun _ => 0)))] ++ ([(q2, .inl (cy 0, 8, .inl (fun _ => 0)))] ++ ([(q3, .inl (cy 2, 8, .inl (fun _ => 0)))] ++ ([(q4, .inl (cy 0, 16, .inl (fun _ => 0)))] ++ ([(q5, .inl (cy 0, 16, .inl (fun _ => 0)))])))))) A s H _ := hW
    refine g_putF hC hW hini hin0_init_0 tyX0 tyX0_ok nmX0 0 rfl rfl 8 (by decide) 10 rfl rfl rfl rfl rfl (Nat.le_of_ble_eq_true rfl) (w' := [(h0, .inr (0, [.int 0, .int 0, .ref q1, .int 0, .ref q2, .ref q3, .int 0, .ref q4, .ref q5]))] ++ ([(q1, .inl (cy 0, 10, .inl (fun _ => 0)))] ++ ([(q2, .inl (cy 0, 8, .inl (fun _ => 0)))] ++ ([(q3, .inl (cy 2, 8, .inl (fun _ => 0)))] ++ ([(q4, .inl (cy 0, 16, .inl (fun _ => 0)))] ++ ([(q5, .inl (cy 0, 16, .inl (fun _ => 0)))])))))) rfl dX0_init_41 (fun H locs hW => ?_)
    refine W.widen (k := 5) (n := 58) (Nat.le_of_ble_eq_true rfl) (Nat.le_of_ble_eq_true rfl) ?_
    exact g_vretn hC (w1 := fun u => w0 cy (u 0) o0) (fun _ k => if k = 0 then h0 else if k = 3 then q1 else if k = 5 then q2 else if k = 6 then q3 else if k = 8 then q4 else if k = 9 then q5 else 0) rfl hW dX0_init_44)
theorem dX4_init_0 : decode cX4_init 0 = .ok (.aload_n 0, 1) := by decide +kernel
theorem dX4_init_1 : decode cX4_init 1 = .ok (.invokespecial 3, 3) := by decide +kernel
theorem dX4_init_4 : decode cX4_init 4 = .ok (.aload_n 0, 1) := by decide +kernel
theorem dX4_init_5 : decode cX4_init 5 = .ok (.bipush 8, 2) := by decide +kernel
theorem dX4_init_7 : decode cX4_init 7 = .ok (.newarray .long, 2) := by decide +kernel
theorem dX4_init_9 : decode cX4_init 9 = .ok (.putfield 9, 3) := by decide +kernel
theorem dX4_init_12 : decode cX4_init 12 = .ok (.aload_n 0, 1) := by decide +kernel
theorem dX4_init_13 : decode cX4_init 13 = .ok (.bipush 8, 2) := by decide +kernel
theorem dX4_init_15 : decode cX4_init 15 = .ok (.newarray .int, 2) := by decide +kernel
theorem dX4_init_17 : decode cX4_init 17 = .ok (.putfield 15, 3) := by decide +kernel
theorem dX4_init_20 : decode cX4_init 20 = .ok (.aload_n 0, 1) := by decide +kernel
theorem dX4_init_21 : decode cX4_init 21 = .ok (.bipush 8, 2) := by decide +kernel
theorem dX4_init_23 : decode cX4_init 23 = .ok (.newarray .int, 2) := by decide +kernel
theorem dX4_init_25 : decode cX4_init 25 = .ok (.putfield 19, 3) := by decide +kernel
theorem dX4_init_28 : decode cX4_init 28 = .ok (.aload_n 0, 1) := by decide +kernel
theorem dX4_init_29 : decode cX4_init 29 = .ok (.bipush 8, 2) := by decide +kernel
theorem dX4_init_31 : decode cX4_init 31 = .ok (.newarray .int, 2) := by decide +kernel
theorem dX4_init_33 : decode cX4_init 33 = .ok (.putfield 22, 3) := by decide +kernel
theorem dX4_init_36 : decode cX4_init 36 = .ok (.aload_n 0, 1) := by decide +kernel
theorem dX4_init_37 : decode cX4_init 37 = .ok (.bipush 8, 2) := by decide +kernel
theorem dX4_init_39 : decode cX4_init 39 = .ok (.newarray .int, 2) := by decide +kernel
theorem dX4_init_41 : decode cX4_init 41 = .ok (.putfield 25, 3) := by decide +kernel
theorem dX4_init_44 : decode cX4_init 44 = .ok (.aload_n 0, 1) := by decide +kernel
theorem dX4_init_45 : decode cX4_init 45 = .ok (.bipush 8, 2) := by decide +kernel
theorem dX4_init_47 : decode cX4_init 47 = .ok (.newarray .int, 2) := by decide +kernel
theorem dX4_init_49 : decode cX4_init 49 = .ok (.putfield 28, 3) := by decide +kernel
theorem dX4_init_52 : decode cX4_init 52 = .ok (.aload_n 0, 1) := by decide +kernel
theorem dX4_init_53 : decode cX4_init 53 = .ok (.bipush 8, 2) := by decide +kernel
theorem dX4_init_55 : decode cX4_init 55 = .ok (.newarray .int, 2) := by decide +kernel
theorem dX4_init_57 : decode cX4_init 57 = .ok (.putfield 31, 3) := by decide +kernel
theorem dX4_init_60 : decode cX4_init 60 = .ok (.aload_n 0, 1) := by decide +kernel
theorem dX4_init_61 : decode cX4_init 61 = .ok (.bipush 6, 2) := by decide +kernel
theorem dX4_init_63 : decode cX4_init 63 = .ok (.newarray .long, 2) := by decide +kernel
theorem dX4_init_65 : decode cX4_init 65 = .ok (.putfield 34, 3) := by decide +kernel
theorem dX4_init_68 : decode cX4_init 68 = .ok (.aload_n 0, 1) := by decide +kernel
theorem dX4_init_69 : decode cX4_init 69 = .ok (.bipush 6, 2) := by decide +kernel
theorem dX4_init_71 : decode cX4_init 71 = .ok (.newarray .int, 2) := by decide +kernel
theorem dX4_init_73 : decode cX4_init 73 = .ok (.putfield 37, 3) := by decide +kernel
theorem dX4_init_76 : decode cX4_init 76 = .ok (.aload_n 0, 1) := by decide +kernel
theorem dX4_init_77 : decode cX4_init 77 = .ok (.bipush 6, 2) := by decide +kernel
theorem dX4_init_79 : decode cX4_init 79 = .ok (.newarray .int, 2) := by decide +kernel
theorem dX4_init_81 : decode cX4_init 81 = .ok (.putfield 40, 3) := by decide +kernel
theorem dX4_init_84 : decode cX4_init 84 = .ok (.aload_n 0, 1) := by decide +kernel
theorem dX4_init_85 : decode cX4_init 85 = .ok (.bipush 32, 2) := by decide +kernel
theorem dX4_init_87 : decode cX4_init 87 = .ok (.newarray .int, 2) := by decide +kernel
theorem dX4_init_89 : decode cX4_init 89 = .ok (.putfield 43, 3) := by decide +kernel
theorem dX4_init_92 : decode cX4_init 92 = .ok (.return_, 1) := by decide +kernel
abbrev rm4_init : Room := { frames := 1, cells := 11, slots := 106, locals := 20 }
theorem hin4_init_4 : ∀ x ∈ u_ws RX4 TX4 13, x ∈ wsX4_init := fun _ h => List.mem_cons_of_mem _ (List.mem_append_right _ h)
set_option maxRecDepth 100000 in
set_option maxHeartbeats 8000000 in
theorem n4_init (l : Launch) (D : va_G) (cy : Nat → ClassId) (ad : Nat → Nat) (h0 : Nat) : GCn l yX4_init wsX4_init rm4_init [.ref h0] D cy ad ([(h0, .inr (4, [.int 0, .null, .null, .null, .null, .null, .null, .null, .int 0, .null, .null, .null, .null]))]) h0 (fun u => w4 cy (u 0) o0) 11 106 := fun sz => GCn.start (own := RX4) (Qc := fun A => QN D cy (fun u => w4 cy (u 0) o0) A h0) sz (by decide) rfl rfl (Nat.le_of_ble_eq_true rfl) rfl (fun p e s m below meth c A ls hini hC hW hl => by
    have hl : lv_has ls 1 [(0, .ref h0)] := hl
    have hW : GW D cy ad ([(h0, .inr (4, [.int 0, .null, .null, .null, .null, .null, .null, .null, .int 0, .null, .null, .null, .null]))]) A s s.heap [] := hW
    refine lv_aload_n hC.1 hC.2.1 dX4_init_0 rfl (lv_at hl 0 rfl) ?_
    refine g_oinit hC 1 2 3 rfl rfl rfl hl.1 dX4_init_1 (Nat.le_of_ble_eq_true rfl) (Nat.le_of_ble_eq_true rfl) ?_
    refine lv_aload_n hC.1 hC.2.1 dX4_init_4 rfl (lv_at hl 0 rfl) ?_
    refine lv_bipush (v := 8) hC.1 hC.2.1 dX4_init_5 (by decide) ?_
    refine g_newa hC hW 1 rfl rfl (fun C h => by cases h) 4 rfl (a0 := (8, .inr (.inl (fun _ => 0)))) (fun _ => rfl) (by decide) (by decide) (by decide) (Nat.le_of_ble_eq_true rfl) (Nat.le_of_ble_eq_true rfl) dX4_init_7 (fun q1 H hW => ?_)
    have hW : GW D cy ad ([(h0, .inr (4, [.int 0, .null, .null, .null, .null, .null, .null, .null, .int 0, .null, .null, .null, .null]))] ++ ([(q1, .inl (cy 1, 8, .inr (.inl (fun _ => 0))))])) A s H _ := hW
    refine g_putF hC hW hini hin4_init_4 tyX4 tyX4_ok nmX4 0 rfl rfl 1 (by decide) 5 rfl rfl rfl rfl rfl (Nat.le_of_ble_eq_true rfl) (w' := [(h0, .inr (4, [.int 0, .ref q1, .null, .null, .null, .null, .null, .null, .int 0, .null, .null, .null, .null]))] ++ ([(q1, .inl (cy 1, 8, .inr (.inl (fun _ => 0))))])) rfl dX4_init_9 (fun H locs hW => ?_)
    refine lv_aload_n hC.1 hC.2.1 dX4_init_12 rfl (lv_at hl 0 rfl) ?_
    refine lv_bipush (v := 8) hC.1 hC.2.1 dX4_init_13 (by decide) ?_
    refine g_newa hC hW 0 rfl rfl (fun C h => by cases h) 6 rfl (a0 := (8, .inl (fun _ => 0))) (fun _ => rfl) (by decide) (by decide) (by decide) (Nat.le_of_ble_eq_true rfl) (Nat.le_of_ble_eq_true rfl) dX4_init_15 (fun q2 H hW => ?_)
    have hW : GW D cy ad ([(h0, .inr (4, [.int 0, .ref q1, .null, .null, .null, .null, .null, .null, .int 0, .null, .null, .null, .null]))] ++ ([(q1, .inl (cy 1, 8, .inr (.inl (fun _ => 0))))] ++ ([(q2, .inl (cy 0, 8, .inl (fun _ => 0)))]))) A s H _ := hW
    refine g_putF hC hW hini hin4_init_4 tyX4 tyX4_ok nmX4 0 rfl rfl 2 (by decide) 7 rfl rfl rfl rfl rfl (Nat.le_of_ble_eq_true rfl) (w' := [(h0, .inr (4, [.int 0, .ref q1, .ref q2, .null, .null, .null, .null, .null, .int 0, .null, .null, .null, .null]))] ++ ([(q1, .inl (cy 1, 8, .inr (.inl (fun _ => 0))))] ++ ([(q2, .inl (cy 0, 8, .inl (fun _ => 0)))]))) rfl dX4_init_17 (fun H locs hW => ?_)
    refine lv_aload_n hC.1 hC.2.1 dX4_init_20 rfl (lv_at hl 0 rfl) ?_
    refine lv_bipush (v := 8) hC.1 hC.2.1 dX4_init_21 (by decide) ?_
    refine g_newa hC hW 0 rfl rfl (fun C h => by cases h) 6 rfl (a0 := (8, .inl (fun _ => 0))) (fun _ => rfl) (by decide) (by decide) (by decide) (Nat.le_of_ble_eq_true rfl) (Nat.le_of_ble_eq_true rfl) dX4_init_23 (fun q3 H hW => ?_)
    have hW : GW D cy ad ([(h0, .inr (4, [.int 0, .ref q1, .ref q2, .null, .null, .null, .null, .null, .int 0, .null, .null, .null, .null]))] ++ ([(q1, .inl (cy 1, 8, .inr (.inl (fun _ => 0))))] ++ ([(q2, .inl (cy 0, 8, .inl (fun _ => 0)))] ++ ([(q3, .inl (cy 0, 8, .inl (fun _ => 0)))])))) A s H _ := hW
    refine g_putF hC hW hini hin4_init_4 tyX4 tyX4_ok nmX4 0 rfl rfl 3 (by decide) 8 rfl rfl rfl rfl rfl (Nat.le_of_ble_eq_true rfl) (w' := [(h0, .inr (4, [.int 0, .ref q1, .ref q2, .ref q3, .null, .null, .null, .null, .int 0, .null, .null, .null, .null]))] ++ ([(q1, .inl (cy 1, 8, .inr (.inl (fun _ => 0))))] ++ ([(q2, .inl (cy 0, 8, .inl (fun _ => 0)))] ++ ([(q3, .inl (cy 0, 8, .inl (fun _ => 0)))])))) rfl dX4_init_25 (fun H locs hW => ?_)
    refine lv_aload_n hC.1 hC.2.1 dX4_init_28 rfl (lv_at hl 0 rfl) ?_
    refine lv_bipush (v := 8) hC.1 hC.2.1 dX4_init_29 (by decide) ?_
    refine g_newa hC hW 0 rfl rfl (fun C h => by cases h) 6 rfl (a0 := (8, .inl (fun _ => 0))) (fun _ => rfl) (by decide) (by decide) (by decide) (Nat.le_of_ble_eq_true rfl) (Nat.le_of_ble_eq_true rfl) dX4_init_31 (fun q4 H hW => ?_)
    have hW : GW D cy ad ([(h0, .inr (4, [.int 0, .ref q1, .ref q2, .ref q3, .null, .null, .null, .null, .int 0, .null, .null, .null, .null]))] ++ ([(q1, .inl (cy 1, 8, .inr (.inl (fun _ => 0))))] ++ ([(q2, .inl (cy 0, 8, .inl (fun _ => 0)))] ++ ([(q3, .inl (cy 0, 8, .inl (fun _ => 0)))] ++ ([(q4, .inl (cy 0, 8, .inl (fun _ => 0)))]))))) A s H _ := hW
    refine g_putF hC hW hini hin4_init_4 tyX4 tyX4_ok nmX4 0 rfl rfl 4 (by decide) 9 rfl rfl rfl rfl rfl (Nat.le_of_ble_eq_true rfl) (w' := [(h0, .inr (4, [.int 0, .ref q1, .ref q2, .ref q3, .ref q4, .null, .null, .null, .int 0, .null, .null, .null, .null]))] ++ ([(q1, .inl (cy 1, 8, .inr (.inl (fun _ => 0))))] ++ ([(q2, .inl (cy 0, 8, .inl (fun _ => 0)))] ++ ([(q3, .inl (cy 0, 8, .inl (fun _ => 0)))] ++ ([(q4, .inl (cy 0, 8, .inl (fun _ => 0)))]))))) rfl dX4_init_33 (fun H locs hW => ?_)
    refine lv_aload_n hC.1 hC.2.1 dX4_init_36 rfl (lv_at hl 0 rfl) ?_
    refine lv_bipush (v := 8) hC.1 hC.2.1 dX4_init_37 (by decide) ?_
    refine g_newa hC hW 0 rfl rfl (fun C h => by cases h) 6 rfl (a0 := (8, .inl (fun _ => 0))) (fun _ => rfl) (by decide) (by decide) (by decide) (Nat.le_of_ble_eq_true rfl) (Nat.le_of_ble_eq_true rfl) dX4_init_39 (fun q5 H hW => ?_)
    have hW : GW D cy ad ([(h0, .inr (4, [.int 0, .ref q1, .ref q2, .ref q3, .ref q4, .null, .null, .null, .int 0, .null, .null, .null, .null]))] ++ ([(q1, .inl (cy 1, 8, .inr (.inl (fun _ => 0))))] ++ ([(q2, .inl (cy 0, 8, .inl (fun _ => 0)))] ++ ([(q3, .inl (cy 0, 8, .inl (fun _ => 0)))] ++ ([(q4, .inl (cy 0, 8, .inl (fun _ => 0)))] ++ ([(q5, .inl (cy 0, 8, .inl (fun _ => 0)))])))))) A s H _ := hW
    refine g_putF hC hW hini hin4_init_4 tyX4 tyX4_ok nmX4 0 rfl rfl 5 (by decide) 10 rfl rfl rfl rfl rfl (Nat.le_of_ble_eq_true rfl) (w' := [(h0, .inr (4, [.int 0, .ref q1, .ref q2, .ref q3, .ref q4, .ref q5, .null, .null, .int 0, .null, .null, .null, .null]))] ++ ([(q1, .inl (cy 1, 8, .inr (.inl (fun _ => 0))))] ++ ([(q2, .inl (cy 0, 8, .inl (fun _ => 0)))] ++ ([(q3, .inl (cy 0, 8, .inl (fun _ => 0)))] ++ ([(q4, .inl (cy 0, 8, .inl (fun _ => 0)))] ++ ([(q5, .inl (cy 0, 8, .inl (fun _ => 0)))])))))) rfl dX4_init_41 (fun H locs hW => ?_)
    refine lv_aload_n hC.1 hC.2.1 dX4_init_44 rfl (lv_at hl 0 rfl) ?_
    refine lv_bipush (v := 8) hC.1 hC.2.1 dX4_init_45 (by decide) ?_
    refine g_newa hC hW 0 rfl rfl (fun C h => by cases h) 6 rfl (a0 := (8, .inl (fun _ => 0))) (fun _ => rfl) (by decide) (by decide) (by decide) (Nat.le_of_ble_eq_true rfl) (Nat.le_of_ble_eq_true rfl) dX4_init_47 (fun q6 H hW => ?_)
    have hW : GW D cy ad ([(h0, .inr (4, [.int 0, .ref q1, .ref q2, .ref q3, .ref q4, .ref q5, .null, .null, .int 0, .null, .null, .null, .null]))] ++ ([(q1, .inl (cy 1, 8, .inr (.inl (fun _ => 0))))] ++ ([(q2, .inl (cy 0, 8, .inl (fun _ => 0)))] ++ ([(q3, .inl (cy 0, 8, .inl (fun _ => 0)))] ++ ([(q4, .inl (cy 0, 8, .inl (fun _ => 0)))] ++ ([(q5, .inl (cy 0, 8, .inl (fun _ => 0)))] ++ ([(q6, .inl (cy 0, 8, .inl (fun _ => 0)))]))))))) A s H _ := hW
    refine g_putF hC hW hini hin4_init_4 tyX4 tyX4_ok nmX4 0 rfl rfl 6 (by decide) 11 rfl rfl rfl rfl rfl (Nat.le_of_ble_eq_true rfl) (w' := [(h0, .inr (4, [.int 0, .ref q1, .ref q2, .ref q3, .ref q4, .ref q5, .ref q6, .null, .int 0, .null, .null, .null, .null]))] ++ ([(q1, .inl (cy 1, 8, .inr (.inl (fun _ => 0))))] ++ ([(q2, .inl (cy 0, 8, .inl (fun _ => 0)))] ++ ([(q3, .inl (cy 0, 8, .inl (fun _ => 0)))] ++ ([(q4, .inl (cy 0, 8, .inl (fun _ => 0)))] ++ ([(q5, .inl (cy 0, 8, .inl (fun _ => 0)))] ++ ([(q6, .inl (cy 0, 8, .inl (fun _ => 0)))]))))))) rfl dX4_init_49 (fun H locs hW => ?_)
    refine lv_aload_n hC.1 hC.2.1 dX4_init_52 rfl (lv_at hl 0 rfl) ?_
    refine lv_bipush (v := 8) hC.1 hC.2.1 dX4_init_53 (by decide) ?_
    refine g_newa hC hW 0 rfl rfl (fun C h => by cases h) 6 rfl (a0 := (8, .inl (fun _ => 0))) (fun _ => rfl) (by decide) (by decide) (by decide) (Nat.le_of_ble_eq_true rfl) (Nat.le_of_ble_eq_true rfl) dX4_init_55 (fun q7 H hW => ?_)
    have hW : GW D cy ad ([(h0, .inr (4, [.int 0, .ref q1, .ref q2, .ref q3, .ref q4, .ref q5, .ref q6, .null, .int 0, .null, .null, .null, .null]))] ++ ([(q1, .inl (cy 1, 8, .inr (.inl (fun _ => 0))))] ++ ([(q2, .inl (cy 0, 8, .inl (fun _ => 0)))] ++ ([(q3, .inl (cy 0, 8, .inl (fun _ => 0)))] ++ ([(q4, .inl (cy 0, 8, .inl (fun _ => 0)))] ++ ([(q5, .inl (cy 0, 8, .inl (fun _ => 0)))] ++ ([(q6, .inl (cy 0, 8, .inl (fun _ => 0)))] ++ ([(q7, .inl (cy 0, 8, .inl (fun _ => 0)))])))))))) A s H _ := hW
    refine g_putF hC hW hini hin4_init_4 tyX4 tyX4_ok nmX4 0 rfl rfl 7 (by decide) 12 rfl rfl rfl rfl rfl (Nat.le_of_ble_eq_true rfl) (w' := [(h0, .inr (4, [.int 0, .ref q1, .ref q2, .ref q3, .ref q4, .ref q5, .ref q6, .ref q7, .int 0, .null, .null, .null, .null]))] ++ ([(q1, .inl (cy 1, 8, .inr (.inl (fun _ => 0))))] ++ ([(q2, .inl (cy 0, 8, .inl (fun _ => 0)))] ++ ([(q3, .inl (cy 0, 8, .inl (fun _ => 0)))] ++ ([(q4, .inl (cy 0, 8, .inl (fun _ => 0)))] ++ ([(q5, .inl (cy 0, 8, .inl (fun _ => 0)))] ++ ([(q6, .inl (cy 0, 8, .inl (fun _ => 0)))] ++ ([(q7, .inl (cy 0, 8, .inl (fun _ => 0)))])))))))) rfl dX4_init_57 (fun H locs hW => ?_)
    refine lv_aload_n hC.1 hC.2.1 dX4_init_60 rfl (lv_at hl 0 rfl) ?_
    refine lv_bipush (v := 6) hC.1 hC.2.1 dX4_init_61 (by decide) ?_
    refine g_newa hC hW 1 rfl rfl (fun C h => by cases h) 4 rfl (a0 := (6, .inr (.inl (fun _ => 0)))) (fun _ => rfl) (by decide) (by decide) (by decide) (Nat.le_of_ble_eq_true rfl) (Nat.le_of_ble_eq_true rfl) dX4_init_63 (fun q8 H hW => ?_)
    have hW : GW D cy ad ([(h0, .inr (4, [.int 0, .ref q1, .ref q2, .ref q3, .ref q4, .ref q5, .ref q6, .ref q7, .int 0, .null, .null, .null, .null]))] ++ ([(q1, .inl (cy 1, 8, .inr (.inl (fun _ => 0))))] ++ ([(q2, .inl (cy 0, 8, .inl (fun _ => 0)))] ++ ([(q3, .inl (cy 0, 8, .inl (fun _ => 0)))] ++ ([(q4, .inl (cy 0, 8, .inl (fun _ => 0)))] ++ ([(q5, .inl (cy 0, 8, .inl (fun _ => 0)))] ++ ([(q6, .inl (cy 0, 8, .inl (fun _ => 0)))] ++ ([(q7, .inl (cy 0, 8, .inl (fun _ => 0)))] ++ ([(q8, .inl (cy 1, 6, .inr (.inl (fun _ => 0))))]))))))))) A s H _ := hW
    refine g_putF hC hW hini hin4_init_4 tyX4 tyX4_ok nmX4 0 rfl rfl 9 (by decide) 13 rfl rfl rfl rfl rfl (Nat.le_of_ble_eq_true rfl) (w' := [(h0, .inr (4, [.int 0, .ref q1, .ref q2, .ref q3, .ref q4, .ref q5, .ref q6, .ref q7, .int 0, .ref q8, .null, .null, .null]))] ++ ([(q1, .inl (cy 1, 8, .inr (.inl (fun _ => 0))))] ++ ([(q2, .inl (cy 0, 8, .inl (fun _ => 0)))] ++ ([(q3, .inl (cy 0, 8, .inl (fun _ => 0)))] ++ ([(q4, .inl (cy 0, 8, .inl (fun _ => 0)))] ++ ([(q5, .inl (cy 0, 8, .inl (fun _ => 0)))] ++ ([(q6, .inl (cy 0, 8, .inl (fun _ => 0)))] ++ ([(q7, .inl (cy 0, 8, .inl (fun _ => 0)))] ++ ([(q8, .inl (cy 1, 6, .inr (.inl (fun _ => 0))))]))))))))) rfl dX4_init_65 (fun H locs hW => ?_)
    refine lv_aload_n hC.1 hC.2.1 dX4_init_68 rfl (lv_at hl 0 rfl) ?_
    refine lv_bipush (v := 6) hC.1 hC.2.1 dX4_init_69 (by decide) ?_
    refine g_newa hC hW 0 rfl rfl (fun C h => by cases h) 6 rfl (a0 := (6, .inl (fun _ => 0))) (fun _ => rfl) (by decide) (by decide) (by decide) (Nat.le_of_ble_eq_true rfl) (Nat.le_of_ble_eq_true rfl) dX4_init_71 (fun q9 H hW => ?_)
    have hW : GW D cy ad ([(h0, .inr (4, [.int 0, .ref q1, .ref q2, .ref q3, .ref q4, .ref q5, .ref q6, .ref q7, .int 0, .ref q8, .null, .null, .null]))] ++ ([(q1, .inl (cy 1, 8, .inr (.inl (fun _ => 0))))] ++ ([(q2, .inl (cy 0, 8, .inl (fun _ => 0)))] ++ ([(q3, .inl (cy 0, 8, .inl (fun _ => 0)))] ++ ([(q4, .inl (cy 0, 8, .inl (fun _ => 0)))] ++ ([(q5, .inl (cy 0, 8, .inl (fun _ => 0)))] ++ ([(q6, .inl (cy 0, 8, .inl (fun _ => 0)))] ++ ([(q7, .inl (cy 0, 8, .inl (fun _ => 0)))] ++ ([(q8, .inl (cy 1, 6, .inr (.inl (fun _ => 0))))] ++ ([(q9, .inl (cy 0, 6, .inl (fun _ => 0)))])))))))))) A s H _ := hW
    refine g_putF hC hW hini hin4_init_4 tyX4 tyX4_ok nmX4 0 rfl rfl 10 (by decide) 14 rfl rfl rfl rfl rfl (Nat.le_of_ble_eq_true rfl) (w' := [(h0, .inr (4, [.int 0, .ref q1, .ref q2, .ref q3, .ref q4, .ref q5, .ref q6, .ref q7, .int 0, .ref q8, .ref q9, .null, .null]))] ++ ([(q1, .inl (cy 1, 8, .inr (.inl (fun _ => 0))))] ++ ([(q2, .inl (cy 0, 8, .inl (fun _ => 0)))] ++ ([(q3, .inl (cy 0, 8, .inl (fun _ => 0)))] ++ ([(q4, .inl (cy 0, 8, .inl (fun _ => 0)))] ++ ([(q5, .inl (cy 0, 8, .inl (fun _ => 0)))] ++ ([(q6, .inl (cy 0, 8, .inl (fun _ => 0)))] ++ ([(q7, .inl (cy 0, 8, .inl (fun _ => 0)))] ++ ([(q8, .inl (cy 1, 6, .inr (.inl (fun _ => 0))))] ++ ([(q9, .inl (cy 0, 6, .inl (fun _ => 0)))])))))))))) rfl dX4_init_73 (fun H locs hW => ?_)
    refine lv_aload_n hC.1 hC.2.1 dX4_init_76 rfl (lv_at hl 0 rfl) ?_
    refine lv_bipush (v := 6) hC.1 hC.2.1 dX4_init_77 (by decide) ?_
    refine g_newa hC hW 0 rfl rfl (fun C h => by cases h) 6 rfl (a0 := (6, .inl (fun _ => 0))) (fun _ => rfl) (by decide) (by decide) (by decide) (Nat.le_of_ble_eq_true rfl) (Nat.le_of_ble_eq_true rfl) dX4_init_79 (fun q10 H hW => ?_)
    have hW : GW D cy ad ([(h0, .inr (4, [.int 0, .ref q1, .ref q2, .ref q3, .ref q4, .ref q5, .ref q6, .ref q7, .int 0, .ref q8, .ref q9, .null, .null]))] ++ ([(q1, .inl (cy 1, 8, .inr (.inl (fun _ => 0))))] ++ ([(q2, .inl (cy 0, 8, .inl (fun _ => 0)))] ++ ([(q3, .inl (cy 0, 8, .inl (fun _ => 0)))] ++ ([(q4, .inl (cy 0, 8, .inl (fun _ => 0)))] ++ ([(q5, .inl (cy 0, 8, .inl (fun _ => 0)))] ++ ([(q6, .inl (cy 0, 8, .inl (fun _ => 0)))] ++ ([(q7, .inl (cy 0, 8, .inl (fun _ => 0)))] ++ ([(q8, .inl (cy 1, 6, .inr (.inl (fun _ => 0))))] ++ ([(q9, .inl (cy 0, 6, .inl (fun _ => 0)))] ++ ([(q10, .inl (cy 0, 6, .inl (fun _ => 0)))]))))))))))) A s H _ := hW
    refine g_putF hC hW hini hin4_init_4 tyX4 tyX4_ok nmX4 0 rfl rfl 11 (by decide) 15 rfl rfl rfl rfl rfl (Nat.le_of_ble_eq_true rfl) (w' := [(h0, .inr (4, [.int 0, .ref q1, .ref q2, .ref q3, .ref q4, .ref q5, .ref q6, .ref q7, .int 0, .ref q8, .ref q9, .ref q10, .null]))] ++ ([(q1, .inl (cy 1, 8, .inr (.inl (fun _ => 0))))] ++ ([(q2, .inl (cy 0, 8, .inl (fun _ => 0)))] ++ ([(q3, .inl (cy 0, 8, .inl (fun _ => 0)))] ++ ([(q4, .inl (cy 0, 8, .inl (fun _ => 0)))] ++ ([(q5, .inl (cy 0, 8, .inl (fun _ => 0)))] ++ ([(q6, .inl (cy 0, 8, .inl (fun _ => 0)))] ++ ([(q7, .inl (cy 0, 8, .inl (fun _ => 0)))] ++ ([(q8, .inl (cy 1, 6, .inr (.inl (fun _ => 0))))] ++ ([(q9, .inl (cy 0, 6, .inl (fun _ => 0)))] ++ ([(q10, .inl (cy 0, 6, .inl (fun _ => 0)))]))))))))))) rfl dX4_init_81 (fun H locs hW => ?_)
    refine lv_aload_n hC.1 hC.2.1 dX4_init_84 rfl (lv_at hl 0 rfl) ?_
    refine lv_bipush (v := 32) hC.1 hC.2.1 dX4_init_85 (by decide) ?_
    refine g_newa hC hW 0 rfl rfl (fun C h => by cases h) 6 rfl (a0 := (32, .inl (fun _ => 0))) (fun _ => rfl) (by decide) (by decide) (by decide) (Nat.le_of_ble_eq_true rfl) (Nat.le_of_ble_eq_true rfl) dX4_init_87 (fun q11 H hW => ?_)
    have hW : GW D cy ad ([(h0, .inr (4, [.int 0, .ref q1, .ref q2, .ref q3, .ref q4, .ref q5, .ref q6, .ref q7, .int 0, .ref q8, .ref q9, .ref q10, .null]))] ++ ([(q1, .inl (cy 1, 8, .inr (.inl (fun _ => 0))))] ++ ([(q2, .inl (cy 0, 8, .inl (fun _ => 0)))] ++ ([(q3, .inl (cy 0, 8, .inl (fun _ => 0)))] ++ ([(q4, .inl (cy 0, 8, .inl (fun _ => 0)))] ++ ([(q5, .inl (cy 0, 8, .inl (fun _ => 0)))] ++ ([(q6, .inl (cy 0, 8, .inl (fun _ => 0)))] ++ ([(q7, .inl (cy 0, 8, .inl (fun _ => 0)))] ++ ([(q8, .inl (cy 1, 6, .inr (.inl (fun _ => 0))))] ++ ([(q9, .inl (cy 0, 6, .inl (fun _ => 0)))] ++ ([(q10, .inl (cy 0, 6, .inl (fun _ => 0)))] ++ ([(q11, .inl (cy 0, 32, .inl (fun _ => 0)))])))))))))))) A s H _ := hW
    refine g_putF hC hW hini hin4_init_4 tyX4 tyX4_ok nmX4 0 rfl rfl 12 (by decide) 16 rfl rfl rfl rfl rfl (Nat.le_of_ble_eq_true rfl) (w' := [(h0, .inr (4, [.int 0, .ref q1, .ref q2, .ref q3, .ref q4, .ref q5, .ref q6, .ref q7, .int 0, .ref q8, .ref q9, .ref q10, .ref q11]))] ++ ([(q1, .inl (cy 1, 8, .inr (.inl (fun _ => 0))))] ++ ([(q2, .inl (cy 0, 8, .inl (fun _ => 0)))] ++ ([(q3, .inl (cy 0, 8, .inl (fun _ => 0)))] ++ ([(q4, .inl (cy 0, 8, .inl (fun _ => 0)))] ++ ([(q5, .inl (cy 0, 8, .inl (fun _ => 0)))] ++ ([(q6, .inl (cy 0, 8, .inl (fun _ => 0)))] ++ ([(q7, .inl (cy 0, 8, .inl (fun _ => 0)))] ++ ([(q8, .inl (cy 1, 6, .inr (.inl (fun _ => 0))))] ++ ([(q9, .inl (cy 0, 6, .inl (fun _ => 0)))] ++ ([(q10, .inl (cy 0, 6, .inl (fun _ => 0)))] ++ ([(q11, .inl (cy 0, 32, .inl (fun _ => 0)))])))))))))))) rfl dX4_init_89 (fun H locs hW => ?_)
    refine W.widen (k := 11) (n := 106) (Nat.le_of_ble_eq_true rfl) (Nat.le_of_ble_eq_true rfl) ?_
    exact g_vretn hC (w1 := fun u => w4 cy (u 0) o0) (fun _ k => if k = 0 then h0 else if k = 2 then q1 else if k = 3 then q2 else if k = 4 then q3 else if k = 5 then q4 else if k = 6 then q5 else if k = 7 then q6 else if k = 8 then q7 else if k = 10 then q8 else if k = 11 then q9 else if k = 12 then q10 else if k = 13 then q11 else 0) rfl hW dX4_init_92)
theorem dX7_init_0 : decode cX7_init 0 = .ok (.aload_n 0, 1) := by decide +kernel
theorem dX7_init_1 : decode cX7_init 1 = .ok (.invokespecial 3, 3) := by decide +kernel
theorem dX7_init_4 : decode cX7_init 4 = .ok (.aload_n 0, 1) := by decide +kernel
theorem dX7_init_5 : decode cX7_init 5 = .ok (.bipush 24, 2) := by decide +kernel
theorem dX7_init_7 : decode cX7_init 7 = .ok (.newarray .int, 2) := by decide +kernel
theorem dX7_init_9 : decode cX7_init 9 = .ok (.putfield 9, 3) := by decide +kernel
theorem dX7_init_12 : decode cX7_init 12 = .ok (.aload_n 0, 1) := by decide +kernel
theorem dX7_init_13 : decode cX7_init 13 = .ok (.bipush 24, 2) := by decide +kernel
theorem dX7_init_15 : decode cX7_init 15 = .ok (.newarray .boolean, 2) := by decide +kernel
theorem dX7_init_17 : decode cX7_init 17 = .ok (.putfield 15, 3) := by decide +kernel
theorem dX7_init_20 : decode cX7_init 20 = .ok (.return_, 1) := by decide +kernel
abbrev rm7_init : Room := { frames := 1, cells := 2, slots := 48, locals := 20 }
theorem hin7_init_7 : ∀ x ∈ u_ws RX7 TX7 3, x ∈ wsX7_init := fun _ h => List.mem_cons_of_mem _ (List.mem_append_right _ h)
set_option maxRecDepth 100000 in
set_option maxHeartbeats 8000000 in
theorem n7_init (l : Launch) (D : va_G) (cy : Nat → ClassId) (ad : Nat → Nat) (h0 : Nat) : GCn l yX7_init wsX7_init rm7_init [.ref h0] D cy ad ([(h0, .inr (6, [.int 0, .null, .null]))]) h0 (fun u => w7 cy (u 0) o0) 2 48 := fun sz => GCn.start (own := RX7) (Qc := fun A => QN D cy (fun u => w7 cy (u 0) o0) A h0) sz (by decide) rfl rfl (Nat.le_of_ble_eq_true rfl) rfl (fun p e s m below meth c A ls hini hC hW hl => by
    have hl : lv_has ls 1 [(0, .ref h0)] := hl
    have hW : GW D cy ad ([(h0, .inr (6, [.int 0, .null, .null]))]) A s s.heap [] := hW
    refine lv_aload_n hC.1 hC.2.1 dX7_init_0 rfl (lv_at hl 0 rfl) ?_
    refine g_oinit hC 1 2 3 rfl rfl rfl hl.1 dX7_init_1 (Nat.le_of_ble_eq_true rfl) (Nat.le_of_ble_eq_true rfl) ?_
    refine lv_aload_n hC.1 hC.2.1 dX7_init_4 rfl (lv_at hl 0 rfl) ?_
    refine lv_bipush (v := 24) hC.1 hC.2.1 dX7_init_5 (by decide) ?_
    refine g_newa hC hW 0 rfl rfl (fun C h => by cases h) 4 rfl (a0 := (24, .inl (fun _ => 0))) (fun _ => rfl) (by decide) (by decide) (by decide) (Nat.le_of_ble_eq_true rfl) (Nat.le_of_ble_eq_true rfl) dX7_init_7 (fun q1 H hW => ?_)
    have hW : GW D cy ad ([(h0, .inr (6, [.int 0, .null, .null]))] ++ ([(q1, .inl (cy 0, 24, .inl (fun _ => 0)))])) A s H _ := hW
    refine g_putF hC hW hini hin7_init_7 tyX7 tyX7_ok nmX7 0 rfl rfl 1 (by decide) 5 rfl rfl rfl rfl rfl (Nat.le_of_ble_eq_true rfl) (w' := [(h0, .inr (6, [.int 0, .ref q1, .null]))] ++ ([(q1, .inl (cy 0, 24, .inl (fun _ => 0)))])) rfl dX7_init_9 (fun H locs hW => ?_)
    refine lv_aload_n hC.1 hC.2.1 dX7_init_12 rfl (lv_at hl 0 rfl) ?_
    refine lv_bipush (v := 24) hC.1 hC.2.1 dX7_init_13 (by decide) ?_
    refine g_newa hC hW 2 rfl rfl (fun C h => by cases h) 6 rfl (a0 := (24, .inl (fun _ => 0))) (fun _ => rfl) (by decide) (by decide) (by decide) (Nat.le_of_ble_eq_true rfl) (Nat.le_of_ble_eq_true rfl) dX7_init_15 (fun q2 H hW => ?_)
    have hW : GW D cy ad ([(h0, .inr (6, [.int 0, .ref q1, .null]))] ++ ([(q1, .inl (cy 0, 24, .inl (fun _ => 0)))] ++ ([(q2, .inl (cy 2, 24, .inl (fun _ => 0)))]))) A s H _ := hW
    refine g_putF hC hW hini hin7_init_7 tyX7 tyX7_ok nmX7 0 rfl rfl 2 (by decide) 7 rfl rfl rfl rfl rfl (Nat.le_of_ble_eq_true rfl) (w' := [(h0, .inr (6, [.int 0, .ref q1, .ref q2]))] ++ ([(q1, .inl (cy 0, 24, .inl (fun _ => 0)))] ++ ([(q2, .inl (cy 2, 24, .inl (fun _ => 0)))]))) rfl dX7_init_17 (fun H locs hW => ?_)
    refine W.widen (k := 2) (n := 48) (Nat.le_of_ble_eq_true rfl) (Nat.le_of_ble_eq_true rfl) ?_
    exact g_vretn hC (w1 := fun u => w7 cy (u 0) o0) (fun _ k => if k = 0 then h0 else if k = 2 then q1 else if k = 3 then q2 else 0) rfl hW dX7_init_20)
theorem dX2_init_0 : decode cX2_init 0 = .ok (.aload_n 0, 1) := by decide +kernel
theorem dX2_init_1 : decode cX2_init 1 = .ok (.invokespecial 3, 3) := by decide +kernel
theorem dX2_init_4 : decode cX2_init 4 = .ok (.aload_n 0, 1) := by decide +kernel
theorem dX2_init_5 : decode cX2_init 5 = .ok (.sipush 1000, 3) := by decide +kernel
theorem dX2_init_8 : decode cX2_init 8 = .ok (.newarray .int, 2) := by decide +kernel
theorem dX2_init_10 : decode cX2_init 10 = .ok (.putfield 9, 3) := by decide +kernel
theorem dX2_init_13 : decode cX2_init 13 = .ok (.aload_n 0, 1) := by decide +kernel
theorem dX2_init_14 : decode cX2_init 14 = .ok (.sipush 1000, 3) := by decide +kernel
theorem dX2_init_17 : decode cX2_init 17 = .ok (.newarray .int, 2) := by decide +kernel
theorem dX2_init_19 : decode cX2_init 19 = .ok (.putfield 15, 3) := by decide +kernel
theorem dX2_init_22 : decode cX2_init 22 = .ok (.aload_n 0, 1) := by decide +kernel
theorem dX2_init_23 : decode cX2_init 23 = .ok (.bipush 64, 2) := by decide +kernel
theorem dX2_init_25 : decode cX2_init 25 = .ok (.newarray .int, 2) := by decide +kernel
theorem dX2_init_27 : decode cX2_init 27 = .ok (.putfield 18, 3) := by decide +kernel
theorem dX2_init_30 : decode cX2_init 30 = .ok (.return_, 1) := by decide +kernel
abbrev rm2_init : Room := { frames := 1, cells := 3, slots := 2064, locals := 20 }
theorem hin2_init_2 : ∀ x ∈ u_ws RX2 TX2 5, x ∈ wsX2_init := fun _ h => List.mem_cons_of_mem _ (List.mem_append_right _ h)
set_option maxRecDepth 100000 in
set_option maxHeartbeats 8000000 in
theorem n2_init (l : Launch) (D : va_G) (cy : Nat → ClassId) (ad : Nat → Nat) (h0 : Nat) : GCn l yX2_init wsX2_init rm2_init [.ref h0] D cy ad ([(h0, .inr (2, [.null, .null, .null, .int 0, .int 0]))]) h0 (fun u => w2 cy (u 0) o0) 3 2064 := fun sz => GCn.start (own := RX2) (Qc := fun A => QN D cy (fun u => w2 cy (u 0) o0) A h0) sz (by decide) rfl rfl (Nat.le_of_ble_eq_true rfl) rfl (fun p e s m below meth c A ls hini hC hW hl => by
    have hl : lv_has ls 1 [(0, .ref h0)] := hl
    have hW : GW D cy ad ([(h0, .inr (2, [.null, .null, .null, .int 0, .int 0]))]) A s s.heap [] := hW
    refine lv_aload_n hC.1 hC.2.1 dX2_init_0 rfl (lv_at hl 0 rfl) ?_
    refine g_oinit hC 1 2 3 rfl rfl rfl hl.1 dX2_init_1 (Nat.le_of_ble_eq_true rfl) (Nat.le_of_ble_eq_true rfl) ?_
    refine lv_aload_n hC.1 hC.2.1 dX2_init_4 rfl (lv_at hl 0 rfl) ?_
    refine lv_sipush (v := 1000) hC.1 hC.2.1 dX2_init_5 (by decide) ?_
    refine g_newa hC hW 0 rfl rfl (fun C h => by cases h) 4 rfl (a0 := (1000, .inl (fun _ => 0))) (fun _ => rfl) (by decide) (by decide) (by decide) (Nat.le_of_ble_eq_true rfl) (Nat.le_of_ble_eq_true rfl) dX2_init_8 (fun q1 H hW => ?_)
    have hW : GW D cy ad ([(h0, .inr (2, [.null, .null, .null, .int 0, .int 0]))] ++ ([(q1, .inl (cy 0, 1000, .inl (fun _ => 0)))])) A s H _ := hW
    refine g_putF hC hW hini hin2_init_2 tyX2 tyX2_ok nmX2 0 rfl rfl 0 (by decide) 5 rfl rfl rfl rfl rfl (Nat.le_of_ble_eq_true rfl) (w' := [(h0, .inr (2, [.ref q1, .null, .null, .int 0, .int 0]))] ++ ([(q1, .inl (cy 0, 1000, .inl (fun _ => 0)))])) rfl dX2_init_10 (fun H locs hW => ?_)
    refine lv_aload_n hC.1 hC.2.1 dX2_init_13 rfl (lv_at hl 0 rfl) ?_
    refine lv_sipush (v := 1000) hC.1 hC.2.1 dX2_init_14 (by decide) ?_
    refine g_newa hC hW 0 rfl rfl (fun C h => by cases h) 4 rfl (a0 := (1000, .inl (fun _ => 0))) (fun _ => rfl) (by decide) (by decide) (by decide) (Nat.le_of_ble_eq_true rfl) (Nat.le_of_ble_eq_true rfl) dX2_init_17 (fun q2 H hW => ?_)
    have hW : GW D cy ad ([(h0, .inr (2, [.ref q1, .null, .null, .int 0, .int 0]))] ++ ([(q1, .inl (cy 0, 1000, .inl (fun _ => 0)))] ++ ([(q2, .inl (cy 0, 1000, .inl (fun _ => 0)))]))) A s H _ := hW
    refine g_putF hC hW hini hin2_init_2 tyX2 tyX2_ok nmX2 0 rfl rfl 1 (by decide) 6 rfl rfl rfl rfl rfl (Nat.le_of_ble_eq_true rfl) (w' := [(h0, .inr (2, [.ref q1, .ref q2, .null, .int 0, .int 0]))] ++ ([(q1, .inl (cy 0, 1000, .inl (fun _ => 0)))] ++ ([(q2, .inl (cy 0, 1000, .inl (fun _ => 0)))]))) rfl dX2_init_19 (fun H locs hW => ?_)
    refine lv_aload_n hC.1 hC.2.1 dX2_init_22 rfl (lv_at hl 0 rfl) ?_
    refine lv_bipush (v := 64) hC.1 hC.2.1 dX2_init_23 (by decide) ?_
    refine g_newa hC hW 0 rfl rfl (fun C h => by cases h) 4 rfl (a0 := (64, .inl (fun _ => 0))) (fun _ => rfl) (by decide) (by decide) (by decide) (Nat.le_of_ble_eq_true rfl) (Nat.le_of_ble_eq_true rfl) dX2_init_25 (fun q3 H hW => ?_)
    have hW : GW D cy ad ([(h0, .inr (2, [.ref q1, .ref q2, .null, .int 0, .int 0]))] ++ ([(q1, .inl (cy 0, 1000, .inl (fun _ => 0)))] ++ ([(q2, .inl (cy 0, 1000, .inl (fun _ => 0)))] ++ ([(q3, .inl (cy 0, 64, .inl (fun _ => 0)))])))) A s H _ := hW
    refine g_putF hC hW hini hin2_init_2 tyX2 tyX2_ok nmX2 0 rfl rfl 2 (by decide) 7 rfl rfl rfl rfl rfl (Nat.le_of_ble_eq_true rfl) (w' := [(h0, .inr (2, [.ref q1, .ref q2, .ref q3, .int 0, .int 0]))] ++ ([(q1, .inl (cy 0, 1000, .inl (fun _ => 0)))] ++ ([(q2, .inl (cy 0, 1000, .inl (fun _ => 0)))] ++ ([(q3, .inl (cy 0, 64, .inl (fun _ => 0)))])))) rfl dX2_init_27 (fun H locs hW => ?_)
    refine W.widen (k := 3) (n := 2064) (Nat.le_of_ble_eq_true rfl) (Nat.le_of_ble_eq_true rfl) ?_
    exact g_vretn hC (w1 := fun u => w2 cy (u 0) o0) (fun _ k => if k = 0 then h0 else if k = 1 then q1 else if k = 2 then q2 else if k = 3 then q3 else 0) rfl hW dX2_init_30)
theorem dX8_init_0 : decode cX8_init 0 = .ok (.aload_n 0, 1) := by decide +kernel
theorem dX8_init_1 : decode cX8_init 1 = .ok (.invokespecial 3, 3) := by decide +kernel
theorem dX8_init_4 : decode cX8_init 4 = .ok (.aload_n 0, 1) := by decide +kernel
theorem dX8_init_5 : decode cX8_init 5 = .ok (.bipush 64, 2) := by decide +kernel
theorem dX8_init_7 : decode cX8_init 7 = .ok (.newarray .int, 2) := by decide +kernel
theorem dX8_init_9 : decode cX8_init 9 = .ok (.putfield 9, 3) := by decide +kernel
theorem dX8_init_12 : decode cX8_init 12 = .ok (.aload_n 0, 1) := by decide +kernel
theorem dX8_init_13 : decode cX8_init 13 = .ok (.sipush 256, 3) := by decide +kernel
theorem dX8_init_16 : decode cX8_init 16 = .ok (.newarray .int, 2) := by decide +kernel
theorem dX8_init_18 : decode cX8_init 18 = .ok (.putfield 15, 3) := by decide +kernel
theorem dX8_init_21 : decode cX8_init 21 = .ok (.return_, 1) := by decide +kernel
abbrev rm8_init : Room := { frames := 1, cells := 2, slots := 320, locals := 20 }
theorem hin8_init_8 : ∀ x ∈ u_ws RX8 TX8 2, x ∈ wsX8_init := fun _ h => List.mem_cons_of_mem _ (List.mem_append_right _ h)
set_option maxRecDepth 100000 in
set_option maxHeartbeats 8000000 in
theorem n8_init (l : Launch) (D : va_G) (cy : Nat → ClassId) (ad : Nat → Nat) (h0 : Nat) : GCn l yX8_init wsX8_init rm8_init [.ref h0] D cy ad ([(h0, .inr (7, [.null, .null]))]) h0 (fun u => w8 cy (u 0) o0) 2 320 := fun sz => GCn.start (own := RX8) (Qc := fun A => QN D cy (fun u => w8 cy (u 0) o0) A h0) sz (by decide) rfl rfl (Nat.le_of_ble_eq_true rfl) rfl (fun p e s m below meth c A ls hini hC hW hl => by
    have hl : lv_has ls 1 [(0, .ref h0)] := hl
    have hW : GW D cy ad ([(h0, .inr (7, [.null, .null]))]) A s s.heap [] := hW
    refine lv_aload_n hC.1 hC.2.1 dX8_init_0 rfl (lv_at hl 0 rfl) ?_
    refine g_oinit hC 1 2 3 rfl rfl rfl hl.1 dX8_init_1 (Nat.le_of_ble_eq_true rfl) (Nat.le_of_ble_eq_true rfl) ?_
    refine lv_aload_n hC.1 hC.2.1 dX8_init_4 rfl (lv_at hl 0 rfl) ?_
    refine lv_bipush (v := 64) hC.1 hC.2.1 dX8_init_5 (by decide) ?_
    refine g_newa hC hW 0 rfl rfl (fun C h => by cases h) 4 rfl (a0 := (64, .inl (fun _ => 0))) (fun _ => rfl) (by decide) (by decide) (by decide) (Nat.le_of_ble_eq_true rfl) (Nat.le_of_ble_eq_true rfl) dX8_init_7 (fun q1 H hW => ?_)
    have hW : GW D cy ad ([(h0, .inr (7, [.null, .null]))] ++ ([(q1, .inl (cy 0, 64, .inl (fun _ => 0)))])) A s H _ := hW
    refine g_putF hC hW hini hin8_init_8 tyX8 tyX8_ok nmX8 0 rfl rfl 0 (by decide) 5 rfl rfl rfl rfl rfl (Nat.le_of_ble_eq_true rfl) (w' := [(h0, .inr (7, [.ref q1, .null]))] ++ ([(q1, .inl (cy 0, 64, .inl (fun _ => 0)))])) rfl dX8_init_9 (fun H locs hW => ?_)
    refine lv_aload_n hC.1 hC.2.1 dX8_init_12 rfl (lv_at hl 0 rfl) ?_
    refine lv_sipush (v := 256) hC.1 hC.2.1 dX8_init_13 (by decide) ?_
    refine g_newa hC hW 0 rfl rfl (fun C h => by cases h) 4 rfl (a0 := (256, .inl (fun _ => 0))) (fun _ => rfl) (by decide) (by decide) (by decide) (Nat.le_of_ble_eq_true rfl) (Nat.le_of_ble_eq_true rfl) dX8_init_16 (fun q2 H hW => ?_)
    have hW : GW D cy ad ([(h0, .inr (7, [.ref q1, .null]))] ++ ([(q1, .inl (cy 0, 64, .inl (fun _ => 0)))] ++ ([(q2, .inl (cy 0, 256, .inl (fun _ => 0)))]))) A s H _ := hW
    refine g_putF hC hW hini hin8_init_8 tyX8 tyX8_ok nmX8 0 rfl rfl 1 (by decide) 6 rfl rfl rfl rfl rfl (Nat.le_of_ble_eq_true rfl) (w' := [(h0, .inr (7, [.ref q1, .ref q2]))] ++ ([(q1, .inl (cy 0, 64, .inl (fun _ => 0)))] ++ ([(q2, .inl (cy 0, 256, .inl (fun _ => 0)))]))) rfl dX8_init_18 (fun H locs hW => ?_)
    refine W.widen (k := 2) (n := 320) (Nat.le_of_ble_eq_true rfl) (Nat.le_of_ble_eq_true rfl) ?_
    exact g_vretn hC (w1 := fun u => w8 cy (u 0) o0) (fun _ k => if k = 0 then h0 else if k = 1 then q1 else if k = 2 then q2 else 0) rfl hW dX8_init_21)
theorem dX1_init_0 : decode cX1_init 0 = .ok (.aload_n 0, 1) := by decide +kernel
theorem dX1_init_1 : decode cX1_init 1 = .ok (.invokespecial 3, 3) := by decide +kernel
theorem dX1_init_4 : decode cX1_init 4 = .ok (.aload_n 0, 1) := by decide +kernel
theorem dX1_init_5 : decode cX1_init 5 = .ok (.bipush 13, 2) := by decide +kernel
theorem dX1_init_7 : decode cX1_init 7 = .ok (.newarray .int, 2) := by decide +kernel
theorem dX1_init_9 : decode cX1_init 9 = .ok (.putfield 9, 3) := by decide +kernel
theorem dX1_init_12 : decode cX1_init 12 = .ok (.aload_n 0, 1) := by decide +kernel
theorem dX1_init_13 : decode cX1_init 13 = .ok (.bipush 8, 2) := by decide +kernel
theorem dX1_init_15 : decode cX1_init 15 = .ok (.newarray .int, 2) := by decide +kernel
theorem dX1_init_17 : decode cX1_init 17 = .ok (.putfield 15, 3) := by decide +kernel
theorem dX1_init_20 : decode cX1_init 20 = .ok (.return_, 1) := by decide +kernel
abbrev rm1_init : Room := { frames := 1, cells := 2, slots := 21, locals := 20 }
theorem hin1_init_1 : ∀ x ∈ u_ws RX1 TX1 2, x ∈ wsX1_init := fun _ h => List.mem_cons_of_mem _ (List.mem_append_right _ h)
set_option maxRecDepth 100000 in
set_option maxHeartbeats 8000000 in
theorem n1_init (l : Launch) (D : va_G) (cy : Nat → ClassId) (ad : Nat → Nat) (h0 : Nat) : GCn l yX1_init wsX1_init rm1_init [.ref h0] D cy ad ([(h0, .inr (1, [.null, .null]))]) h0 (fun u => w1 cy (u 0) o0) 2 21 := fun sz => GCn.start (own := RX1) (Qc := fun A => QN D cy (fun u => w1 cy (u 0) o0) A h0) sz (by decide) rfl rfl (Nat.le_of_ble_eq_true rfl) rfl (fun p e s m below meth c A ls hini hC hW hl => by
    have hl : lv_has ls 1 [(0, .ref h0)] := hl
    have hW : GW D cy ad ([(h0, .inr (1, [.null, .null]))]) A s s.heap [] := hW
    refine lv_aload_n hC.1 hC.2.1 dX1_init_0 rfl (lv_at hl 0 rfl) ?_
    refine g_oinit hC 1 2 3 rfl rfl rfl hl.1 dX1_init_1 (Nat.le_of_ble_eq_true rfl) (Nat.le_of_ble_eq_true rfl) ?_
    refine lv_aload_n hC.1 hC.2.1 dX1_init_4 rfl (lv_at hl 0 rfl) ?_
    refine lv_bipush (v := 13) hC.1 hC.2.1 dX1_init_5 (by decide) ?_
    refine g_newa hC hW 0 rfl rfl (fun C h => by cases h) 4 rfl (a0 := (13, .inl (fun _ => 0))) (fun _ => rfl) (by decide) (by decide) (by decide) (Nat.le_of_ble_eq_true rfl) (Nat.le_of_ble_eq_true rfl) dX1_init_7 (fun q1 H hW => ?_)
    have hW : GW D cy ad ([(h0, .inr (1, [.null, .null]))] ++ ([(q1, .inl (cy 0, 13, .inl (fun _ => 0)))])) A s H _ := hW
    refine g_putF hC hW hini hin1_init_1 tyX1 tyX1_ok nmX1 0 rfl rfl 0 (by decide) 5 rfl rfl rfl rfl rfl (Nat.le_of_ble_eq_true rfl) (w' := [(h0, .inr (1, [.ref q1, .null]))] ++ ([(q1, .inl (cy 0, 13, .inl (fun _ => 0)))])) rfl dX1_init_9 (fun H locs hW => ?_)
    refine lv_aload_n hC.1 hC.2.1 dX1_init_12 rfl (lv_at hl 0 rfl) ?_
    refine lv_bipush (v := 8) hC.1 hC.2.1 dX1_init_13 (by decide) ?_
    refine g_newa hC hW 0 rfl rfl (fun C h => by cases h) 4 rfl (a0 := (8, .inl (fun _ => 0))) (fun _ => rfl) (by decide) (by decide) (by decide) (Nat.le_of_ble_eq_true rfl) (Nat.le_of_ble_eq_true rfl) dX1_init_15 (fun q2 H hW => ?_)
    have hW : GW D cy ad ([(h0, .inr (1, [.ref q1, .null]))] ++ ([(q1, .inl (cy 0, 13, .inl (fun _ => 0)))] ++ ([(q2, .inl (cy 0, 8, .inl (fun _ => 0)))]))) A s H _ := hW
    refine g_putF hC hW hini hin1_init_1 tyX1 tyX1_ok nmX1 0 rfl rfl 1 (by decide) 6 rfl rfl rfl rfl rfl (Nat.le_of_ble_eq_true rfl) (w' := [(h0, .inr (1, [.ref q1, .ref q2]))] ++ ([(q1, .inl (cy 0, 13, .inl (fun _ => 0)))] ++ ([(q2, .inl (cy 0, 8, .inl (fun _ => 0)))]))) rfl dX1_init_17 (fun H locs hW => ?_)
    refine W.widen (k := 2) (n := 21) (Nat.le_of_ble_eq_true rfl) (Nat.le_of_ble_eq_true rfl) ?_
    exact g_vretn hC (w1 := fun u => w1 cy (u 0) o0) (fun _ k => if k = 0 then h0 else if k = 1 then q1 else if k = 2 then q2 else 0) rfl hW dX1_init_20)
theorem dX5_init_0 : decode cX5_init 0 = .ok (.aload_n 0, 1) := by decide +kernel
theorem dX5_init_1 : decode cX5_init 1 = .ok (.invokespecial 3, 3) := by decide +kernel
theorem dX5_init_4 : decode cX5_init 4 = .ok (.aload_n 0, 1) := by decide +kernel
theorem dX5_init_5 : decode cX5_init 5 = .ok (.bipush 8, 2) := by decide +kernel
theorem dX5_init_7 : decode cX5_init 7 = .ok (.newarray .int, 2) := by decide +kernel
theorem dX5_init_9 : decode cX5_init 9 = .ok (.putfield 9, 3) := by decide +kernel
theorem dX5_init_12 : decode cX5_init 12 = .ok (.aload_n 0, 1) := by decide +kernel
theorem dX5_init_13 : decode cX5_init 13 = .ok (.bipush 8, 2) := by decide +kernel
theorem dX5_init_15 : decode cX5_init 15 = .ok (.newarray .int, 2) := by decide +kernel
theorem dX5_init_17 : decode cX5_init 17 = .ok (.putfield 15, 3) := by decide +kernel
theorem dX5_init_20 : decode cX5_init 20 = .ok (.aload_n 0, 1) := by decide +kernel
theorem dX5_init_21 : decode cX5_init 21 = .ok (.bipush 8, 2) := by decide +kernel
theorem dX5_init_23 : decode cX5_init 23 = .ok (.newarray .int, 2) := by decide +kernel
theorem dX5_init_25 : decode cX5_init 25 = .ok (.putfield 18, 3) := by decide +kernel
theorem dX5_init_28 : decode cX5_init 28 = .ok (.return_, 1) := by decide +kernel
abbrev rm5_init : Room := { frames := 1, cells := 3, slots := 24, locals := 20 }
theorem hin5_init_5 : ∀ x ∈ u_ws RX5 TX5 3, x ∈ wsX5_init := fun _ h => List.mem_cons_of_mem _ (List.mem_append_right _ h)
set_option maxRecDepth 100000 in
set_option maxHeartbeats 8000000 in
theorem n5_init (l : Launch) (D : va_G) (cy : Nat → ClassId) (ad : Nat → Nat) (h0 : Nat) : GCn l yX5_init wsX5_init rm5_init [.ref h0] D cy ad ([(h0, .inr (5, [.null, .null, .null]))]) h0 (fun u => w5 cy (u 0) o0) 3 24 := fun sz => GCn.start (own := RX5) (Qc := fun A => QN D cy (fun u => w5 cy (u 0) o0) A h0) sz (by decide) rfl rfl (Nat.le_of_ble_eq_true rfl) rfl (fun p e s m below meth c A ls hini hC hW hl => by
    have hl : lv_has ls 1 [(0, .ref h0)] := hl
    have hW : GW D cy ad ([(h0, .inr (5, [.null, .null, .null]))]) A s s.heap [] := hW
    refine lv_aload_n hC.1 hC.2.1 dX5_init_0 rfl (lv_at hl 0 rfl) ?_
    refine g_oinit hC 1 2 3 rfl rfl rfl hl.1 dX5_init_1 (Nat.le_of_ble_eq_true rfl) (Nat.le_of_ble_eq_true rfl) ?_
    refine lv_aload_n hC.1 hC.2.1 dX5_init_4 rfl (lv_at hl 0 rfl) ?_
    refine lv_bipush (v := 8) hC.1 hC.2.1 dX5_init_5 (by decide) ?_
    refine g_newa hC hW 0 rfl rfl (fun C h => by cases h) 4 rfl (a0 := (8, .inl (fun _ => 0))) (fun _ => rfl) (by decide) (by decide) (by decide) (Nat.le_of_ble_eq_true rfl) (Nat.le_of_ble_eq_true rfl) dX5_init_7 (fun q1 H hW => ?_)
    have hW : GW D cy ad ([(h0, .inr (5, [.null, .null, .null]))] ++ ([(q1, .inl (cy 0, 8, .inl (fun _ => 0)))])) A s H _ := hW
    refine g_putF hC hW hini hin5_init_5 tyX5 tyX5_ok nmX5 0 rfl rfl 0 (by decide) 5 rfl rfl rfl rfl rfl (Nat.le_of_ble_eq_true rfl) (w' := [(h0, .inr (5, [.ref q1, .null, .null]))] ++ ([(q1, .inl (cy 0, 8, .inl (fun _ => 0)))])) rfl dX5_init_9 (fun H locs hW => ?_)
    refine lv_aload_n hC.1 hC.2.1 dX5_init_12 rfl (lv_at hl 0 rfl) ?_
    refine lv_bipush (v := 8) hC.1 hC.2.1 dX5_init_13 (by decide) ?_
    refine g_newa hC hW 0 rfl rfl (fun C h => by cases h) 4 rfl (a0 := (8, .inl (fun _ => 0))) (fun _ => rfl) (by decide) (by decide) (by decide) (Nat.le_of_ble_eq_true rfl) (Nat.le_of_ble_eq_true rfl) dX5_init_15 (fun q2 H hW => ?_)
    have hW : GW D cy ad ([(h0, .inr (5, [.ref q1, .null, .null]))] ++ ([(q1, .inl (cy 0, 8, .inl (fun _ => 0)))] ++ ([(q2, .inl (cy 0, 8, .inl (fun _ => 0)))]))) A s H _ := hW
    refine g_putF hC hW hini hin5_init_5 tyX5 tyX5_ok nmX5 0 rfl rfl 1 (by decide) 6 rfl rfl rfl rfl rfl (Nat.le_of_ble_eq_true rfl) (w' := [(h0, .inr (5, [.ref q1, .ref q2, .null]))] ++ ([(q1, .inl (cy 0, 8, .inl (fun _ => 0)))] ++ ([(q2, .inl (cy 0, 8, .inl (fun _ => 0)))]))) rfl dX5_init_17 (fun H locs hW => ?_)
    refine lv_aload_n hC.1 hC.2.1 dX5_init_20 rfl (lv_at hl 0 rfl) ?_
    refine lv_bipush (v := 8) hC.1 hC.2.1 dX5_init_21 (by decide) ?_
    refine g_newa hC hW 0 rfl rfl (fun C h => by cases h) 4 rfl (a0 := (8, .inl (fun _ => 0))) (fun _ => rfl) (by decide) (by decide) (by decide) (Nat.le_of_ble_eq_true rfl) (Nat.le_of_ble_eq_true rfl) dX5_init_23 (fun q3 H hW => ?_)
    have hW : GW D cy ad ([(h0, .inr (5, [.ref q1, .ref q2, .null]))] ++ ([(q1, .inl (cy 0, 8, .inl (fun _ => 0)))] ++ ([(q2, .inl (cy 0, 8, .inl (fun _ => 0)))] ++ ([(q3, .inl (cy 0, 8, .inl (fun _ => 0)))])))) A s H _ := hW
    refine g_putF hC hW hini hin5_init_5 tyX5 tyX5_ok nmX5 0 rfl rfl 2 (by decide) 7 rfl rfl rfl rfl rfl (Nat.le_of_ble_eq_true rfl) (w' := [(h0, .inr (5, [.ref q1, .ref q2, .ref q3]))] ++ ([(q1, .inl (cy 0, 8, .inl (fun _ => 0)))] ++ ([(q2, .inl (cy 0, 8, .inl (fun _ => 0)))] ++ ([(q3, .inl (cy 0, 8, .inl (fun _ => 0)))])))) rfl dX5_init_25 (fun H locs hW => ?_)
    refine W.widen (k := 3) (n := 24) (Nat.le_of_ble_eq_true rfl) (Nat.le_of_ble_eq_true rfl) ?_
    exact g_vretn hC (w1 := fun u => w5 cy (u 0) o0) (fun _ k => if k = 0 then h0 else if k = 1 then q1 else if k = 2 then q2 else if k = 3 then q3 else 0) rfl hW dX5_init_28)
