/-! laid by program: the makers of Grammar, Reader -/
set_option maxRecDepth 20000 in
theorem gX3_init_X10_init : GoodIn wsX3_init (wsX10_init) := goodIn_r _ [14, 15, 2, 3, 16, 17, 18, 19, 20, 21, 22, 23, 24, 25, 26, 27, 28, 29, 30, 31, 32, 33, 34, 35, 36, 37, 38, 39, 40, 41, 42, 43, 44, 45, 46, 47, 48, 49, 50, 51, 52, 53, 54, 55, 56, 57, 58, 59, 60, 61, 62, 63, 64, 65, 66, 67, 68, 76, 77, 78, 79, 80, 81, 82, 83] rfl (by decide +kernel)
set_option maxRecDepth 20000 in
theorem gX3_init_X2_init_n20 : GoodIn wsX3_init (wsX2_init) := goodIn_r _ [70, 71, 2, 3, 72, 73, 74, 75, 88, 89, 90, 91, 92] rfl (by decide +kernel)
theorem dX3_init_0 : decode cX3_init 0 = .ok (.aload_n 0, 1) := by decide +kernel
theorem dX3_init_1 : decode cX3_init 1 = .ok (.invokespecial 3, 3) := by decide +kernel
theorem dX3_init_4 : decode cX3_init 4 = .ok (.aload_n 0, 1) := by decide +kernel
theorem dX3_init_5 : decode cX3_init 5 = .ok (.new 9, 3) := by decide +kernel
theorem dX3_init_8 : decode cX3_init 8 = .ok (.dup, 1) := by decide +kernel
theorem dX3_init_9 : decode cX3_init 9 = .ok (.invokespecial 11, 3) := by decide +kernel
theorem dX3_init_12 : decode cX3_init 12 = .ok (.putfield 12, 3) := by decide +kernel
theorem dX3_init_15 : decode cX3_init 15 = .ok (.aload_n 0, 1) := by decide +kernel
theorem dX3_init_16 : decode cX3_init 16 = .ok (.new 18, 3) := by decide +kernel
theorem dX3_init_19 : decode cX3_init 19 = .ok (.dup, 1) := by decide +kernel
theorem dX3_init_20 : decode cX3_init 20 = .ok (.invokespecial 20, 3) := by decide +kernel
theorem dX3_init_23 : decode cX3_init 23 = .ok (.putfield 21, 3) := by decide +kernel
theorem dX3_init_26 : decode cX3_init 26 = .ok (.return_, 1) := by decide +kernel
abbrev rm3_init : Room := { frames := 5, cells := 7, slots := 3109, locals := 110 }
theorem hin3_init_10 : ∀ x ∈ u_ws RX10 TX10 8, x ∈ wsX3_init := fun _ h => List.mem_cons_of_mem _ (List.mem_append_left _ (List.mem_append_left _ (List.mem_append_right _ h)))
theorem hin3_init_3 : ∀ x ∈ u_ws RX3 TX3 4, x ∈ wsX3_init := fun _ h => List.mem_cons_of_mem _ (List.mem_append_left _ (List.mem_append_right _ h))
theorem hin3_init_2 : ∀ x ∈ u_ws RX2 TX2 5, x ∈ wsX3_init := fun _ h => List.mem_cons_of_mem _ (List.mem_append_right _ h)
set_option maxRecDepth 100000 in
set_option maxHeartbeats 8000000 in
theorem n3_init (l : Launch) (D : va_G) (cy : Nat → ClassId) (ad : Nat → Nat) (h0 : Nat) {ST1 : Ob} (hT : f10_init_28 FU 0 0 0 o0 = some ST1) : GCn l yX3_init wsX3_init rm3_init [.ref h0] D cy ad ([(h0, .inr (3, [.null, .null, .null, .int 0]))]) h0 (fun u => w3 cy (u 0) (u 1) (u 2) .null o0 ++ (w10 cy (u 1) ST1 ++ (w2 cy (u 2) o0))) 7 3109 := fun sz => GCn.start (own := RX3) (Qc := fun A => QN D cy (fun u => w3 cy (u 0) (u 1) (u 2) .null o0 ++ (w10 cy (u 1) ST1 ++ (w2 cy (u 2) o0))) A h0) sz (by decide) rfl rfl (Nat.le_of_ble_eq_true rfl) rfl (fun p e s m below meth c A ls hini hC hW hl => by
    have hl : lv_has ls 1 [(0, .ref h0)] := hl
    have hW : GW D cy ad ([(h0, .inr (3, [.null, .null, .null, .int 0]))]) A s s.heap [] := hW
    refine lv_aload_n hC.1 hC.2.1 dX3_init_0 rfl (lv_at hl 0 rfl) ?_
    refine g_oinit hC 1 2 3 rfl rfl rfl hl.1 dX3_init_1 (Nat.le_of_ble_eq_true rfl) (Nat.le_of_ble_eq_true rfl) ?_
    refine lv_aload_n hC.1 hC.2.1 dX3_init_4 rfl (lv_at hl 0 rfl) ?_
    refine g_new (ci := 9) hC hW hin3_init_10 tyX10 tyX10_ok 4 5 6 rfl rfl rfl rfl (fs := [.null, .null, .int 0, .int 0, .int 0, .int 0, .long 0, .int 0]) (by decide) (Nat.le_of_ble_eq_true rfl) (Nat.le_of_ble_eq_true rfl) dX3_init_5 (fun q1 H hW => ?_)
    have hW : GW D cy ad ([(h0, .inr (3, [.null, .null, .null, .int 0]))] ++ ([(q1, .inr (9, [.null, .null, .int 0, .int 0, .int 0, .int 0, .long 0, .int 0]))])) A s H _ := hW
    refine lv_dup hC.1 hC.2.1 dX3_init_8 rfl ?_
    refine g_callnI (w' := fun u2 => [(h0, .inr (3, [.null, .null, .null, .int 0]))] ++ (w10 cy (u2 0) ST1)) hC hW (n10_init l D cy ad q1 hT) (cwI 0 hC.2.2.2.2.1 gX3_init_X10_init rfl rfl rfl (hC.2.2.2.2.1 _ (List.mem_of_getElem? (i := 6) rfl)) (hC.2.2.2.2.1 _ (List.mem_of_getElem? (i := 12) rfl)) (hC.2.2.2.2.1 _ (List.mem_of_getElem? (i := 13) rfl)) rfl (by decide +kernel) ⟨Nat.le_of_ble_eq_true rfl, Nat.le_of_ble_eq_true rfl⟩) (fun u2 => ⟨[1], [0], [0, 1, 2, 3], [(h0, .inr (3, [.null, .null, .null, .int 0]))], rfl, rfl, rfl, rfl, by decide, rfl, rfl⟩) hl.1 (Nat.le_of_ble_eq_true rfl) dX3_init_9 ⟨Nat.le_of_ble_eq_true rfl, Nat.le_of_ble_eq_true rfl⟩ (fun u2 H locs hu2 hW2 => ?_)
    subst hu2
    have hW := hW2
    clear hW2
    refine g_putF hC hW hini hin3_init_3 tyX3 tyX3_ok nmX3 0 rfl rfl 0 (by decide) 7 rfl rfl rfl rfl rfl (Nat.le_of_ble_eq_true rfl) (w' := [(h0, .inr (3, [.ref (u2 0 0), .null, .null, .int 0]))] ++ (w10 cy (u2 0) ST1)) rfl dX3_init_12 (fun H locs hW => ?_)
    refine lv_aload_n hC.1 hC.2.1 dX3_init_15 rfl (lv_at hl 0 rfl) ?_
    refine g_new (ci := 2) hC hW hin3_init_2 tyX2 tyX2_ok 8 9 10 rfl rfl rfl rfl (fs := [.null, .null, .null, .int 0, .int 0]) (by decide) (Nat.le_of_ble_eq_true rfl) (Nat.le_of_ble_eq_true rfl) dX3_init_16 (fun q3 H hW => ?_)
    have hW : GW D cy ad ([(h0, .inr (3, [.ref (u2 0 0), .null, .null, .int 0]))] ++ (w10 cy (u2 0) ST1 ++ ([(q3, .inr (2, [.null, .null, .null, .int 0, .int 0]))]))) A s H _ := hW
    refine lv_dup hC.1 hC.2.1 dX3_init_19 rfl ?_
    refine g_callnN (w' := fun u4 => [(h0, .inr (3, [.ref (u2 0 0), .null, .null, .int 0]))] ++ (w10 cy (u2 0) ST1 ++ (w2 cy (u4 0) o0))) hC hW (n2_init l D cy ad q3) ⟨va_cnB 0 hC.2.2.2.2.1 gX3_init_X2_init_n20 rfl rfl rfl (hW.2.2.2.2.2.1 _ (List.mem_of_getElem? (i := 9) rfl)) (hC.2.2.2.2.1 _ (List.mem_of_getElem? (i := 10) rfl)) (by decide +kernel) ⟨Nat.le_of_ble_eq_true rfl, Nat.le_of_ble_eq_true rfl⟩, rfl, hC.2.2.2.2.1 _ (List.mem_of_getElem? (i := 69) rfl)⟩ (fun u4 => ⟨[4], [0, 1, 2, 3], [0, 1, 2, 3, 4, 5, 6, 7], [(h0, .inr (3, [.ref (u2 0 0), .null, .null, .int 0]))] ++ (w10 cy (u2 0) ST1), rfl, rfl, rfl, rfl, by decide, rfl, rfl⟩) hl.1 (Nat.le_of_ble_eq_true rfl) dX3_init_20 ⟨Nat.le_of_ble_eq_true rfl, Nat.le_of_ble_eq_true rfl⟩ (fun u4 H locs hu4 hW2 => ?_)
    subst hu4
    have hW := hW2
    clear hW2
    refine g_putF hC hW hini hin3_init_3 tyX3 tyX3_ok nmX3 0 rfl rfl 1 (by decide) 11 rfl rfl rfl rfl rfl (Nat.le_of_ble_eq_true rfl) (w' := [(h0, .inr (3, [.ref (u2 0 0), .ref (u4 0 0), .null, .int 0]))] ++ (w10 cy (u2 0) ST1 ++ (w2 cy (u4 0) o0))) rfl dX3_init_23 (fun H locs hW => ?_)
    refine W.widen (k := 7) (n := 3109) (Nat.le_of_ble_eq_true rfl) (Nat.le_of_ble_eq_true rfl) ?_
    exact g_vretn hC (w1 := fun u => w3 cy (u 0) (u 1) (u 2) .null o0 ++ (w10 cy (u 1) ST1 ++ (w2 cy (u 2) o0))) (fun i => if i = 0 then (fun _ => h0) else if i = 1 then u2 0 else u4 0) rfl hW dX3_init_26)
set_option maxRecDepth 20000 in
theorem gX9_init_X3_init_n11 : GoodIn wsX9_init (wsX3_init) := goodIn_r _ [14, 15, 2, 3, 16, 17, 18, 19, 20, 21, 22, 23, 24, 25, 26, 27, 28, 29, 30, 31, 32, 33, 34, 35, 36, 37, 38, 39, 40, 41, 42, 43, 44, 45, 46, 47, 48, 49, 50, 51, 52, 53, 54, 55, 56, 57, 58, 59, 60, 61, 62, 63, 64, 65, 66, 67, 68, 69, 70, 71, 72, 73, 74, 75, 76, 77, 78, 79, 80, 81, 82, 83, 10, 84, 85, 86, 98, 99, 100, 101, 102, 103, 104, 105, 87, 88, 89, 90, 106, 107, 108, 109, 110] rfl (by decide +kernel)
theorem dX9_init_0 : decode cX9_init 0 = .ok (.aload_n 0, 1) := by decide +kernel
theorem dX9_init_1 : decode cX9_init 1 = .ok (.invokespecial 3, 3) := by decide +kernel
theorem dX9_init_4 : decode cX9_init 4 = .ok (.aload_n 0, 1) := by decide +kernel
theorem dX9_init_5 : decode cX9_init 5 = .ok (.new 9, 3) := by decide +kernel
theorem dX9_init_8 : decode cX9_init 8 = .ok (.dup, 1) := by decide +kernel
theorem dX9_init_9 : decode cX9_init 9 = .ok (.invokespecial 11, 3) := by decide +kernel
theorem dX9_init_12 : decode cX9_init 12 = .ok (.putfield 12, 3) := by decide +kernel
theorem dX9_init_15 : decode cX9_init 15 = .ok (.aload_n 0, 1) := by decide +kernel
theorem dX9_init_16 : decode cX9_init 16 = .ok (.aload_n 0, 1) := by decide +kernel
theorem dX9_init_17 : decode cX9_init 17 = .ok (.getfield 12, 3) := by decide +kernel
theorem dX9_init_20 : decode cX9_init 20 = .ok (.getfield 18, 3) := by decide +kernel
theorem dX9_init_23 : decode cX9_init 23 = .ok (.putfield 22, 3) := by decide +kernel
theorem dX9_init_26 : decode cX9_init 26 = .ok (.aload_n 0, 1) := by decide +kernel
theorem dX9_init_27 : decode cX9_init 27 = .ok (.bipush 6, 2) := by decide +kernel
theorem dX9_init_29 : decode cX9_init 29 = .ok (.newarray .int, 2) := by decide +kernel
theorem dX9_init_31 : decode cX9_init 31 = .ok (.putfield 23, 3) := by decide +kernel
theorem dX9_init_34 : decode cX9_init 34 = .ok (.aload_n 0, 1) := by decide +kernel
theorem dX9_init_35 : decode cX9_init 35 = .ok (.bipush 6, 2) := by decide +kernel
theorem dX9_init_37 : decode cX9_init 37 = .ok (.newarray .int, 2) := by decide +kernel
theorem dX9_init_39 : decode cX9_init 39 = .ok (.putfield 27, 3) := by decide +kernel
theorem dX9_init_42 : decode cX9_init 42 = .ok (.return_, 1) := by decide +kernel
abbrev rm9_init : Room := { frames := 6, cells := 10, slots := 3125, locals := 130 }
theorem hin9_init_3 : ∀ x ∈ u_ws RX3 TX3 4, x ∈ wsX9_init := fun _ h => List.mem_cons_of_mem _ (List.mem_append_left _ (List.mem_append_left _ (List.mem_append_left _ (List.mem_append_right _ h))))
theorem hin9_init_9 : ∀ x ∈ u_ws RX9 TX9 7, x ∈ wsX9_init := fun _ h => List.mem_cons_of_mem _ (List.mem_append_left _ (List.mem_append_left _ (List.mem_append_right _ h)))
set_option maxRecDepth 100000 in
set_option maxHeartbeats 8000000 in
theorem n9_init (l : Launch) (D : va_G) (cy : Nat → ClassId) (ad : Nat → Nat) (h0 : Nat) {ST1 : Ob} (hT : f10_init_28 FU 0 0 0 o0 = some ST1) : GCn l yX9_init wsX9_init rm9_init [.ref h0] D cy ad ([(h0, .inr (8, [.null, .null, .null, .null, .int 0, .int 0, .int 0]))]) h0 (fun u => w9 cy (u 0) (u 1) (u 2) o0 ++ (w3 cy (u 1) (u 2) (u 3) .null o0 ++ (w10 cy (u 2) ST1 ++ (w2 cy (u 3) o0)))) 10 3125 := fun sz => GCn.start (own := RX9) (Qc := fun A => QN D cy (fun u => w9 cy (u 0) (u 1) (u 2) o0 ++ (w3 cy (u 1) (u 2) (u 3) .null o0 ++ (w10 cy (u 2) ST1 ++ (w2 cy (u 3) o0)))) A h0) sz (by decide) rfl rfl (Nat.le_of_ble_eq_true rfl) rfl (fun p e s m below meth c A ls hini hC hW hl => by
    have hl : lv_has ls 1 [(0, .ref h0)] := hl
    have hW : GW D cy ad ([(h0, .inr (8, [.null, .null, .null, .null, .int 0, .int 0, .int 0]))]) A s s.heap [] := hW
    refine lv_aload_n hC.1 hC.2.1 dX9_init_0 rfl (lv_at hl 0 rfl) ?_
    refine g_oinit hC 1 2 3 rfl rfl rfl hl.1 dX9_init_1 (Nat.le_of_ble_eq_true rfl) (Nat.le_of_ble_eq_true rfl) ?_
    refine lv_aload_n hC.1 hC.2.1 dX9_init_4 rfl (lv_at hl 0 rfl) ?_
    refine g_new (ci := 3) hC hW hin9_init_3 tyX3 tyX3_ok 4 5 6 rfl rfl rfl rfl (fs := [.null, .null, .null, .int 0]) (by decide) (Nat.le_of_ble_eq_true rfl) (Nat.le_of_ble_eq_true rfl) dX9_init_5 (fun q1 H hW => ?_)
    have hW : GW D cy ad ([(h0, .inr (8, [.null, .null, .null, .null, .int 0, .int 0, .int 0]))] ++ ([(q1, .inr (3, [.null, .null, .null, .int 0]))])) A s H _ := hW
    refine lv_dup hC.1 hC.2.1 dX9_init_8 rfl ?_
    refine g_callnN (w' := fun u2 => [(h0, .inr (8, [.null, .null, .null, .null, .int 0, .int 0, .int 0]))] ++ (w3 cy (u2 0) (u2 1) (u2 2) .null o0 ++ (w10 cy (u2 1) ST1 ++ (w2 cy (u2 2) o0)))) hC hW (n3_init l D cy ad q1 hT) ⟨va_cnB 0 hC.2.2.2.2.1 gX9_init_X3_init_n11 rfl rfl rfl (hW.2.2.2.2.2.1 _ (List.mem_of_getElem? (i := 10) rfl)) (hC.2.2.2.2.1 _ (List.mem_of_getElem? (i := 6) rfl)) (by decide +kernel) ⟨Nat.le_of_ble_eq_true rfl, Nat.le_of_ble_eq_true rfl⟩, rfl, hC.2.2.2.2.1 _ (List.mem_of_getElem? (i := 13) rfl)⟩ (fun u2 => ⟨[1], [0], [0, 1, 2, 3, 4, 5, 6, 7, 8], [(h0, .inr (8, [.null, .null, .null, .null, .int 0, .int 0, .int 0]))], rfl, rfl, rfl, rfl, by decide, rfl, rfl⟩) hl.1 (Nat.le_of_ble_eq_true rfl) dX9_init_9 ⟨Nat.le_of_ble_eq_true rfl, Nat.le_of_ble_eq_true rfl⟩ (fun u2 H locs hu2 hW2 => ?_)
    subst hu2
    have hW := hW2
    clear hW2
    refine g_putF hC hW hini hin9_init_9 tyX9 tyX9_ok nmX9 0 rfl rfl 0 (by decide) 7 rfl rfl rfl rfl rfl (Nat.le_of_ble_eq_true rfl) (w' := [(h0, .inr (8, [.ref (u2 0 0), .null, .null, .null, .int 0, .int 0, .int 0]))] ++ (w3 cy (u2 0) (u2 1) (u2 2) .null o0 ++ (w10 cy (u2 1) ST1 ++ (w2 cy (u2 2) o0)))) rfl dX9_init_12 (fun H locs hW => ?_)
    refine lv_aload_n hC.1 hC.2.1 dX9_init_15 rfl (lv_at hl 0 rfl) ?_
    refine lv_aload_n hC.1 hC.2.1 dX9_init_16 rfl (lv_at hl 0 rfl) ?_
    refine g_get hC hW hin9_init_9 0 rfl rfl 0 (by decide) 7 rfl rfl dX9_init_17 ?_
    refine g_get hC hW hin9_init_3 1 rfl rfl 0 (by decide) 8 rfl rfl dX9_init_20 ?_
    refine g_putF hC hW hini hin9_init_9 tyX9 tyX9_ok nmX9 0 rfl rfl 1 (by decide) 9 rfl rfl rfl rfl rfl (Nat.le_of_ble_eq_true rfl) (w' := [(h0, .inr (8, [.ref (u2 0 0), .ref (u2 1 0), .null, .null, .int 0, .int 0, .int 0]))] ++ (w3 cy (u2 0) (u2 1) (u2 2) .null o0 ++ (w10 cy (u2 1) ST1 ++ (w2 cy (u2 2) o0)))) rfl dX9_init_23 (fun H locs hW => ?_)
    refine lv_aload_n hC.1 hC.2.1 dX9_init_26 rfl (lv_at hl 0 rfl) ?_
    refine lv_bipush (v := 6) hC.1 hC.2.1 dX9_init_27 (by decide) ?_
    refine g_newa hC hW 0 rfl rfl (fun C h => by cases h) 10 rfl (a0 := (6, .inl (fun _ => 0))) (fun _ => rfl) (by decide) (by decide) (by decide) (Nat.le_of_ble_eq_true rfl) (Nat.le_of_ble_eq_true rfl) dX9_init_29 (fun q3 H hW => ?_)
    have hW : GW D cy ad ([(h0, .inr (8, [.ref (u2 0 0), .ref (u2 1 0), .null, .null, .int 0, .int 0, .int 0]))] ++ (w3 cy (u2 0) (u2 1) (u2 2) .null o0 ++ (w10 cy (u2 1) ST1 ++ (w2 cy (u2 2) o0)) ++ ([(q3, .inl (cy 0, 6, .inl (fun _ => 0)))]))) A s H _ := hW
    refine g_putF hC hW hini hin9_init_9 tyX9 tyX9_ok nmX9 0 rfl rfl 2 (by decide) 11 rfl rfl rfl rfl rfl (Nat.le_of_ble_eq_true rfl) (w' := [(h0, .inr (8, [.ref (u2 0 0), .ref (u2 1 0), .ref q3, .null, .int 0, .int 0, .int 0]))] ++ (w3 cy (u2 0) (u2 1) (u2 2) .null o0 ++ (w10 cy (u2 1) ST1 ++ (w2 cy (u2 2) o0)) ++ ([(q3, .inl (cy 0, 6, .inl (fun _ => 0)))]))) rfl dX9_init_31 (fun H locs hW => ?_)
    refine lv_aload_n hC.1 hC.2.1 dX9_init_34 rfl (lv_at hl 0 rfl) ?_
    refine lv_bipush (v := 6) hC.1 hC.2.1 dX9_init_35 (by decide) ?_
    refine g_newa hC hW 0 rfl rfl (fun C h => by cases h) 10 rfl (a0 := (6, .inl (fun _ => 0))) (fun _ => rfl) (by decide) (by decide) (by decide) (Nat.le_of_ble_eq_true rfl) (Nat.le_of_ble_eq_true rfl) dX9_init_37 (fun q4 H hW => ?_)
    have hW : GW D cy ad ([(h0, .inr (8, [.ref (u2 0 0), .ref (u2 1 0), .ref q3, .null, .int 0, .int 0, .int 0]))] ++ (w3 cy (u2 0) (u2 1) (u2 2) .null o0 ++ (w10 cy (u2 1) ST1 ++ (w2 cy (u2 2) o0)) ++ ([(q3, .inl (cy 0, 6, .inl (fun _ => 0)))] ++ ([(q4, .inl (cy 0, 6, .inl (fun _ => 0)))])))) A s H _ := hW
    refine g_putF hC hW hini hin9_init_9 tyX9 tyX9_ok nmX9 0 rfl rfl 3 (by decide) 12 rfl rfl rfl rfl rfl (Nat.le_of_ble_eq_true rfl) (w' := [(h0, .inr (8, [.ref (u2 0 0), .ref (u2 1 0), .ref q3, .ref q4, .int 0, .int 0, .int 0]))] ++ (w3 cy (u2 0) (u2 1) (u2 2) .null o0 ++ (w10 cy (u2 1) ST1 ++ (w2 cy (u2 2) o0)) ++ ([(q3, .inl (cy 0, 6, .inl (fun _ => 0)))] ++ ([(q4, .inl (cy 0, 6, .inl (fun _ => 0)))])))) rfl dX9_init_39 (fun H locs hW => ?_)
    refine W.widen (k := 10) (n := 3125) (Nat.le_of_ble_eq_true rfl) (Nat.le_of_ble_eq_true rfl) ?_
    exact g_vretn hC (w1 := fun u => w9 cy (u 0) (u 1) (u 2) o0 ++ (w3 cy (u 1) (u 2) (u 3) .null o0 ++ (w10 cy (u 2) ST1 ++ (w2 cy (u 3) o0)))) (fun i => if i = 0 then (fun k => if k = 0 then h0 else if k = 3 then q3 else if k = 4 then q4 else 0) else if i = 1 then u2 0 else if i = 2 then u2 1 else u2 2) rfl (hW.perm [0, 9, 10, 1, 2, 3, 4, 5, 6, 7, 8] rfl rfl) dX9_init_42)
