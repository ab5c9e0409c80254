/-! laid by program: the loop of the law -/
theorem dL_law_0 : decode cL_law 0 = .ok (.new 7, 3) := by decide +kernel
theorem dL_law_3 : decode cL_law 3 = .ok (.dup, 1) := by decide +kernel
theorem dL_law_4 : decode cL_law 4 = .ok (.invokespecial 9, 3) := by decide +kernel
theorem dL_law_7 : decode cL_law 7 = .ok (.astore_n 1, 1) := by decide +kernel
theorem dL_law_8 : decode cL_law 8 = .ok (.new 10, 3) := by decide +kernel
theorem dL_law_11 : decode cL_law 11 = .ok (.dup, 1) := by decide +kernel
theorem dL_law_12 : decode cL_law 12 = .ok (.invokespecial 12, 3) := by decide +kernel
theorem dL_law_15 : decode cL_law 15 = .ok (.astore_n 2, 1) := by decide +kernel
theorem dL_law_16 : decode cL_law 16 = .ok (.iconst 0, 1) := by decide +kernel
theorem dL_law_17 : decode cL_law 17 = .ok (.istore_n 3, 1) := by decide +kernel
theorem dL_law_18 : decode cL_law 18 = .ok (.iload_n 3, 1) := by decide +kernel
theorem dL_law_19 : decode cL_law 19 = .ok (.aload_n 0, 1) := by decide +kernel
theorem dL_law_20 : decode cL_law 20 = .ok (.arraylength, 1) := by decide +kernel
theorem dL_law_21 : decode cL_law 21 = .ok (.bipush 7, 2) := by decide +kernel
theorem dL_law_23 : decode cL_law 23 = .ok (.isub, 1) := by decide +kernel
theorem dL_law_24 : decode cL_law 24 = .ok (.if_icmp .gt 1147, 3) := by decide +kernel
theorem dL_law_27 : decode cL_law 27 = .ok (.aload_n 0, 1) := by decide +kernel
theorem dL_law_28 : decode cL_law 28 = .ok (.iload_n 3, 1) := by decide +kernel
theorem dL_law_29 : decode cL_law 29 = .ok (.iaload, 1) := by decide +kernel
theorem dL_law_30 : decode cL_law 30 = .ok (.bipush 63, 2) := by decide +kernel
theorem dL_law_32 : decode cL_law 32 = .ok (.iand, 1) := by decide +kernel
theorem dL_law_33 : decode cL_law 33 = .ok (.tableswitch 1132 0 32 #[147, 282, 295, 308, 341, 364, 377, 436, 485, 508, 521, 534, 557, 570, 583, 596, 609, 622, 655, 698, 731, 754, 803, 816, 839, 882, 905, 928, 961, 984, 1017, 1060, 1109], 147) := by decide +kernel
theorem dL_law_1165 : decode cL_law 1165 = .ok (.iinc 3 7, 3) := by decide +kernel
theorem dL_law_1168 : decode cL_law 1168 = .ok (.goto (-1150), 3) := by decide +kernel
theorem dL_law_1171 : decode cL_law 1171 = .ok (.iconst 1, 1) := by decide +kernel
theorem dL_law_1172 : decode cL_law 1172 = .ok (.ireturn, 1) := by decide +kernel
section
variable {p : Program} {l : Launch} {e : Env} {s : State} {m : MethodId} {below : List Frame} {meth : Method} {c : Code} {D : va_G} {cy : Nat → ClassId} {ad aM : Nat → Nat} {A : Nat → Prop} {b L i : Nat} {xs : Nat → Int32} {Inv : (Nat → Ob) → Ob → Prop}
set_option maxRecDepth 100000 in
set_option maxHeartbeats 8000000 in
theorem law_loop (hC : Cx p s m #[Value.ref b] meth c code 4 wsL_law RL ret) (hX : va_X b L xs s s.heap) (hbl : b < s.heap.size) (hbA : ¬ A b) (hA : ∀ q, A q → s.heap.size ≤ q) (hL : L ≤ 3584) (hS : Steps Inv) : ∀ (n i : Nat), L < i + n → i ≤ L → ∀ (cs : Nat → Ob) (sm : Ob) (u : Nat → Nat → Nat) (gi : Value) (H : Heap) (locs : List Loc) (ls : Array Slot), Inv cs sm → GW D cy ad (AW cy u gi cs aM sm) A s H locs → lv_has ls 4 [(0, .ref b), (1, .ref (u 0 0)), (2, .ref (aM 0)), (3, .int (nI i))] → W p l e room_1 s m #[Value.ref b] below meth c H locs lwC lwS (lw_Z below #[Value.ref b] s) (F0 m 18 ls []) := by
  intro n
  induction n with
  | zero => intro i h1 h2; exact absurd h1 (by omega)
  | succ n ih =>
    intro i h1 h2 cs sm u gi H locs ls hI hW hl
    refine lv_iload_n hC.1 hC.2.1 dL_law_18 rfl (lv_at hl 3 rfl) ?_
    refine lv_aload_n hC.1 hC.2.1 dL_law_19 rfl (lv_at hl 0 rfl) ?_
    refine va_slen hC.1 hC.2.1 hX hbl hbA hW.2.2.2.1 dL_law_20 ?_
    refine lv_bipush (v := 7) hC.1 hC.2.1 dL_law_21 (by decide) ?_
    refine lv_isub hC.1 hC.2.1 dL_law_23 ?_
    refine lv_icmp_gt (tgt := 1171) hC.1 hC.2.1 dL_law_24 (by decide) (fun hc => ?_) (fun hc => ?_)
    · refine lv_iconst (v := 1) hC.1 hC.2.1 dL_law_1171 (by decide) ?_
      refine va_forget (fun q hq => hA _ (hW.2.2.2.1.2.2 q hq)) ?_
      refine W.widen (k := 600000) (n := 7302250) (Nat.le_of_ble_eq_true rfl) (Nat.le_of_ble_eq_true rfl) ?_
      exact lw_ret hC.1 hC.2.1 hC.2.2.2.2.2.1 hC.2.2.2.2.2.2 dL_law_1172
    · have hi : i + 7 ≤ L := by
        have h9 := mt (lw_cmp hL (by omega)).mpr hc
        omega
      have next : ∀ (cs : Nat → Ob) (sm : Ob) (u : Nat → Nat → Nat) (gi : Value) (H : Heap) (locs : List Loc) (ls : Array Slot), Inv cs sm → GW D cy ad (AW cy u gi cs aM sm) A s H locs → lv_has ls 4 [(0, .ref b), (1, .ref (u 0 0)), (2, .ref (aM 0)), (3, .int (nI i))] → W p l e room_1 s m #[Value.ref b] below meth c H locs lwC lwS (lw_Z below #[Value.ref b] s) (F0 m 1165 ls []) := by
        intro cs sm u gi H locs ls hI hW hl
        refine lv_iinc (v := nI (i + 7)) (lv' := [(3, .int (nI (i + 7))), (0, .ref b), (1, .ref (u 0 0)), (2, .ref (aM 0))]) hC.1 hC.2.1 dL_law_1165 hl (k := 3) rfl (nI_add i 7) (by decide) rfl (fun ls hl => ?_)
        refine lv_goto (tgt := 18) hC.1 hC.2.1 dL_law_1168 (by decide) ?_
        exact ih (i + 7) (by omega) hi cs sm u gi H locs ls hI hW (lv_sub hl [1, 2, 3, 0] rfl)
      refine lv_aload_n hC.1 hC.2.1 dL_law_27 rfl (lv_at hl 0 rfl) ?_
      refine lv_iload_n hC.1 hC.2.1 dL_law_28 rfl (lv_at hl 3 rfl) ?_
      refine va_sld hC.1 hC.2.1 hX hbl hbA hW.2.2.2.1 (vp_in_nI (by omega) (by omega)) dL_law_29 ?_
      refine lv_bipush (v := 63) hC.1 hC.2.1 dL_law_30 (by decide) ?_
      refine lv_iand hC.1 hC.2.1 dL_law_32 ?_
      refine lv_topi (fun z ez => ?_)
      by_cases hc0 : z = 0
      · refine lv_tableIn (tgt := 180) hC.1 hC.2.1 dL_law_33 (by rw [hc0]; decide) (by rw [hc0]; decide) (by rw [hc0]; rfl) (by decide) ?_
        exact law_feed hC hX hbl hbA hL hi hS.1 next cs sm u gi H locs ls hI hW hl
      by_cases hc1 : z = 1
      · refine lv_tableIn (tgt := 315) hC.1 hC.2.1 dL_law_33 (by rw [hc1]; decide) (by rw [hc1]; decide) (by rw [hc1]; rfl) (by decide) ?_
        exact law_inn hC hX hbl hbA hL hi hS.2.1 next cs sm u gi H locs ls hI hW hl
      by_cases hc2 : z = 2
      · refine lv_tableIn (tgt := 328) hC.1 hC.2.1 dL_law_33 (by rw [hc2]; decide) (by rw [hc2]; decide) (by rw [hc2]; rfl) (by decide) ?_
        exact law_morning hC hX hbl hbA hL hi hS.2.2.1 next cs sm u gi H locs ls hI hW hl
      by_cases hc3 : z = 3
      · refine lv_tableIn (tgt := 341) hC.1 hC.2.1 dL_law_33 (by rw [hc3]; decide) (by rw [hc3]; decide) (by rw [hc3]; rfl) (by decide) ?_
        exact law_guest hC hX hbl hbA hL hi hS.2.2.2.1 next cs sm u gi H locs ls hI hW hl
      by_cases hc4 : z = 4
      · refine lv_tableIn (tgt := 374) hC.1 hC.2.1 dL_law_33 (by rw [hc4]; decide) (by rw [hc4]; decide) (by rw [hc4]; rfl) (by decide) ?_
        exact law_shows hC hX hbl hbA hL hi hS.2.2.2.2.1 next cs sm u gi H locs ls hI hW hl
      by_cases hc5 : z = 5
      · refine lv_tableIn (tgt := 397) hC.1 hC.2.1 dL_law_33 (by rw [hc5]; decide) (by rw [hc5]; decide) (by rw [hc5]; rfl) (by decide) ?_
        exact law_left hC hX hbl hbA hL hi hS.2.2.2.2.2.1 next cs sm u gi H locs ls hI hW hl
      by_cases hc6 : z = 6
      · refine lv_tableIn (tgt := 410) hC.1 hC.2.1 dL_law_33 (by rw [hc6]; decide) (by rw [hc6]; decide) (by rw [hc6]; rfl) (by decide) ?_
        exact law_answer hC hX hbl hbA hL hi hS.2.2.2.2.2.2.1 next cs sm u gi H locs ls hI hW hl
      by_cases hc7 : z = 7
      · refine lv_tableIn (tgt := 469) hC.1 hC.2.1 dL_law_33 (by rw [hc7]; decide) (by rw [hc7]; decide) (by rw [hc7]; rfl) (by decide) ?_
        exact law_sign hC hX hbl hbA hL hi hS.2.2.2.2.2.2.2.1 next cs sm u gi H locs ls hI hW hl
      by_cases hc8 : z = 8
      · refine lv_tableIn (tgt := 518) hC.1 hC.2.1 dL_law_33 (by rw [hc8]; decide) (by rw [hc8]; decide) (by rw [hc8]; rfl) (by decide) ?_
        exact law_weather hC hX hbl hbA hL hi hS.2.2.2.2.2.2.2.2.1 next cs sm u gi H locs ls hI hW hl
      by_cases hc9 : z = 9
      · refine lv_tableIn (tgt := 541) hC.1 hC.2.1 dL_law_33 (by rw [hc9]; decide) (by rw [hc9]; decide) (by rw [hc9]; rfl) (by decide) ?_
        exact law_night hC hX hbl hbA hL hi hS.2.2.2.2.2.2.2.2.2.1 next cs sm u gi H locs ls hI hW hl
      by_cases hc10 : z = 10
      · refine lv_tableIn (tgt := 554) hC.1 hC.2.1 dL_law_33 (by rw [hc10]; decide) (by rw [hc10]; decide) (by rw [hc10]; rfl) (by decide) ?_
        exact law_undo hC hX hbl hbA hL hi hS.2.2.2.2.2.2.2.2.2.2.1 next cs sm u gi H locs ls hI hW hl
      by_cases hc11 : z = 11
      · refine lv_tableIn (tgt := 567) hC.1 hC.2.1 dL_law_33 (by rw [hc11]; decide) (by rw [hc11]; decide) (by rw [hc11]; rfl) (by decide) ?_
        exact law_judged hC hX hbl hbA hL hi hS.2.2.2.2.2.2.2.2.2.2.2.1 next cs sm u gi H locs ls hI hW hl
      by_cases hc12 : z = 12
      · refine lv_tableIn (tgt := 590) hC.1 hC.2.1 dL_law_33 (by rw [hc12]; decide) (by rw [hc12]; decide) (by rw [hc12]; rfl) (by decide) ?_
        exact law_spare hC hX hbl hbA hL hi hS.2.2.2.2.2.2.2.2.2.2.2.2.1 next cs sm u gi H locs ls hI hW hl
      by_cases hc13 : z = 13
      · refine lv_tableIn (tgt := 603) hC.1 hC.2.1 dL_law_33 (by rw [hc13]; decide) (by rw [hc13]; decide) (by rw [hc13]; rfl) (by decide) ?_
        exact law_who hC hX hbl hbA hL hi hS.2.2.2.2.2.2.2.2.2.2.2.2.2.1 next cs sm u gi H locs ls hI hW hl
      by_cases hc14 : z = 14
      · refine lv_tableIn (tgt := 616) hC.1 hC.2.1 dL_law_33 (by rw [hc14]; decide) (by rw [hc14]; decide) (by rw [hc14]; rfl) (by decide) ?_
        exact law_ask hC hX hbl hbA hL hi hS.2.2.2.2.2.2.2.2.2.2.2.2.2.2.1 next cs sm u gi H locs ls hI hW hl
      by_cases hc15 : z = 15
      · refine lv_tableIn (tgt := 629) hC.1 hC.2.1 dL_law_33 (by rw [hc15]; decide) (by rw [hc15]; decide) (by rw [hc15]; rfl) (by decide) ?_
        exact law_fewest hC hX hbl hbA hL hi hS.2.2.2.2.2.2.2.2.2.2.2.2.2.2.2.1 next cs sm u gi H locs ls hI hW hl
      by_cases hc16 : z = 16
      · refine lv_tableIn (tgt := 642) hC.1 hC.2.1 dL_law_33 (by rw [hc16]; decide) (by rw [hc16]; decide) (by rw [hc16]; rfl) (by decide) ?_
        exact law_tell hC hX hbl hbA hL hi hS.2.2.2.2.2.2.2.2.2.2.2.2.2.2.2.2.1 next cs sm u gi H locs ls hI hW hl
      by_cases hc17 : z = 17
      · refine lv_tableIn (tgt := 655) hC.1 hC.2.1 dL_law_33 (by rw [hc17]; decide) (by rw [hc17]; decide) (by rw [hc17]; rfl) (by decide) ?_
        exact law_knows hC hX hbl hbA hL hi hS.2.2.2.2.2.2.2.2.2.2.2.2.2.2.2.2.2.1 next cs sm u gi H locs ls hI hW hl
      by_cases hc18 : z = 18
      · refine lv_tableIn (tgt := 688) hC.1 hC.2.1 dL_law_33 (by rw [hc18]; decide) (by rw [hc18]; decide) (by rw [hc18]; rfl) (by decide) ?_
        exact law_sure hC hX hbl hbA hL hi hS.2.2.2.2.2.2.2.2.2.2.2.2.2.2.2.2.2.2.1 next cs sm u gi H locs ls hI hW hl
      by_cases hc19 : z = 19
      · refine lv_tableIn (tgt := 731) hC.1 hC.2.1 dL_law_33 (by rw [hc19]; decide) (by rw [hc19]; decide) (by rw [hc19]; rfl) (by decide) ?_
        exact law_rounds hC hX hbl hbA hL hi hS.2.2.2.2.2.2.2.2.2.2.2.2.2.2.2.2.2.2.2.1 next cs sm u gi H locs ls hI hW hl
      by_cases hc20 : z = 20
      · refine lv_tableIn (tgt := 764) hC.1 hC.2.1 dL_law_33 (by rw [hc20]; decide) (by rw [hc20]; decide) (by rw [hc20]; rfl) (by decide) ?_
        exact law_common hC hX hbl hbA hL hi hS.2.2.2.2.2.2.2.2.2.2.2.2.2.2.2.2.2.2.2.2.1 next cs sm u gi H locs ls hI hW hl
      by_cases hc21 : z = 21
      · refine lv_tableIn (tgt := 787) hC.1 hC.2.1 dL_law_33 (by rw [hc21]; decide) (by rw [hc21]; decide) (by rw [hc21]; rfl) (by decide) ?_
        exact law_hear hC hX hbl hbA hL hi hS.2.2.2.2.2.2.2.2.2.2.2.2.2.2.2.2.2.2.2.2.2.1 next cs sm u gi H locs ls hI hW hl
      by_cases hc22 : z = 22
      · refine lv_tableIn (tgt := 836) hC.1 hC.2.1 dL_law_33 (by rw [hc22]; decide) (by rw [hc22]; decide) (by rw [hc22]; rfl) (by decide) ?_
        exact law_likely hC hX hbl hbA hL hi hS.2.2.2.2.2.2.2.2.2.2.2.2.2.2.2.2.2.2.2.2.2.2.1 next cs sm u gi H locs ls hI hW hl
      by_cases hc23 : z = 23
      · refine lv_tableIn (tgt := 849) hC.1 hC.2.1 dL_law_33 (by rw [hc23]; decide) (by rw [hc23]; decide) (by rw [hc23]; rfl) (by decide) ?_
        exact law_odds hC hX hbl hbA hL hi hS.2.2.2.2.2.2.2.2.2.2.2.2.2.2.2.2.2.2.2.2.2.2.2.1 next cs sm u gi H locs ls hI hW hl
      by_cases hc24 : z = 24
      · refine lv_tableIn (tgt := 872) hC.1 hC.2.1 dL_law_33 (by rw [hc24]; decide) (by rw [hc24]; decide) (by rw [hc24]; rfl) (by decide) ?_
        exact law_errors hC hX hbl hbA hL hi hS.2.2.2.2.2.2.2.2.2.2.2.2.2.2.2.2.2.2.2.2.2.2.2.2.1 next cs sm u gi H locs ls hI hW hl
      by_cases hc25 : z = 25
      · refine lv_tableIn (tgt := 915) hC.1 hC.2.1 dL_law_33 (by rw [hc25]; decide) (by rw [hc25]; decide) (by rw [hc25]; rfl) (by decide) ?_
        exact law_hunt hC hX hbl hbA hL hi hS.2.2.2.2.2.2.2.2.2.2.2.2.2.2.2.2.2.2.2.2.2.2.2.2.2.1 next cs sm u gi H locs ls hI hW hl
      by_cases hc26 : z = 26
      · refine lv_tableIn (tgt := 938) hC.1 hC.2.1 dL_law_33 (by rw [hc26]; decide) (by rw [hc26]; decide) (by rw [hc26]; rfl) (by decide) ?_
        exact law_same hC hX hbl hbA hL hi hS.2.2.2.2.2.2.2.2.2.2.2.2.2.2.2.2.2.2.2.2.2.2.2.2.2.2.1 next cs sm u gi H locs ls hI hW hl
      by_cases hc27 : z = 27
      · refine lv_tableIn (tgt := 961) hC.1 hC.2.1 dL_law_33 (by rw [hc27]; decide) (by rw [hc27]; decide) (by rw [hc27]; rfl) (by decide) ?_
        exact law_bill hC hX hbl hbA hL hi hS.2.2.2.2.2.2.2.2.2.2.2.2.2.2.2.2.2.2.2.2.2.2.2.2.2.2.2.1 next cs sm u gi H locs ls hI hW hl
      by_cases hc28 : z = 28
      · refine lv_tableIn (tgt := 994) hC.1 hC.2.1 dL_law_33 (by rw [hc28]; decide) (by rw [hc28]; decide) (by rw [hc28]; rfl) (by decide) ?_
        exact law_beds hC hX hbl hbA hL hi hS.2.2.2.2.2.2.2.2.2.2.2.2.2.2.2.2.2.2.2.2.2.2.2.2.2.2.2.2.1 next cs sm u gi H locs ls hI hW hl
      by_cases hc29 : z = 29
      · refine lv_tableIn (tgt := 1017) hC.1 hC.2.1 dL_law_33 (by rw [hc29]; decide) (by rw [hc29]; decide) (by rw [hc29]; rfl) (by decide) ?_
        exact law_watch hC hX hbl hbA hL hi hS.2.2.2.2.2.2.2.2.2.2.2.2.2.2.2.2.2.2.2.2.2.2.2.2.2.2.2.2.2.1 next cs sm u gi H locs ls hI hW hl
      by_cases hc30 : z = 30
      · refine lv_tableIn (tgt := 1050) hC.1 hC.2.1 dL_law_33 (by rw [hc30]; decide) (by rw [hc30]; decide) (by rw [hc30]; rfl) (by decide) ?_
        exact law_years hC hX hbl hbA hL hi hS.2.2.2.2.2.2.2.2.2.2.2.2.2.2.2.2.2.2.2.2.2.2.2.2.2.2.2.2.2.2.1 next cs sm u gi H locs ls hI hW hl
      by_cases hc31 : z = 31
      · refine lv_tableIn (tgt := 1093) hC.1 hC.2.1 dL_law_33 (by rw [hc31]; decide) (by rw [hc31]; decide) (by rw [hc31]; rfl) (by decide) ?_
        exact law_mark hC hX hbl hbA hL hi hS.2.2.2.2.2.2.2.2.2.2.2.2.2.2.2.2.2.2.2.2.2.2.2.2.2.2.2.2.2.2.2.1 next cs sm u gi H locs ls hI hW hl
      by_cases hc32 : z = 32
      · refine lv_tableIn (tgt := 1142) hC.1 hC.2.1 dL_law_33 (by rw [hc32]; decide) (by rw [hc32]; decide) (by rw [hc32]; rfl) (by decide) ?_
        exact law_count hC hX hbl hbA hL hi hS.2.2.2.2.2.2.2.2.2.2.2.2.2.2.2.2.2.2.2.2.2.2.2.2.2.2.2.2.2.2.2.2 next cs sm u gi H locs ls hI hW hl
      refine lv_tableOut (tgt := 1165) hC.1 hC.2.1 dL_law_33 (tab_out [0, 1, 2, 3, 4, 5, 6, 7, 8, 9, 10, 11, 12, 13, 14, 15, 16, 17, 18, 19, 20, 21, 22, 23, 24, 25, 26, 27, 28, 29, 30, 31, 32] (List.forall_mem_cons.mpr ⟨hc0, (List.forall_mem_cons.mpr ⟨hc1, (List.forall_mem_cons.mpr ⟨hc2, (List.forall_mem_cons.mpr ⟨hc3, (List.forall_mem_cons.mpr ⟨hc4, (List.forall_mem_cons.mpr ⟨hc5, (List.forall_mem_cons.mpr ⟨hc6, (List.forall_mem_cons.mpr ⟨hc7, (List.forall_mem_cons.mpr ⟨hc8, (List.forall_mem_cons.mpr ⟨hc9, (List.forall_mem_cons.mpr ⟨hc10, (List.forall_mem_cons.mpr ⟨hc11, (List.forall_mem_cons.mpr ⟨hc12, (List.forall_mem_cons.mpr ⟨hc13, (List.forall_mem_cons.mpr ⟨hc14, (List.forall_mem_cons.mpr ⟨hc15, (List.forall_mem_cons.mpr ⟨hc16, (List.forall_mem_cons.mpr ⟨hc17, (List.forall_mem_cons.mpr ⟨hc18, (List.forall_mem_cons.mpr ⟨hc19, (List.forall_mem_cons.mpr ⟨hc20, (List.forall_mem_cons.mpr ⟨hc21, (List.forall_mem_cons.mpr ⟨hc22, (List.forall_mem_cons.mpr ⟨hc23, (List.forall_mem_cons.mpr ⟨hc24, (List.forall_mem_cons.mpr ⟨hc25, (List.forall_mem_cons.mpr ⟨hc26, (List.forall_mem_cons.mpr ⟨hc27, (List.forall_mem_cons.mpr ⟨hc28, (List.forall_mem_cons.mpr ⟨hc29, (List.forall_mem_cons.mpr ⟨hc30, (List.forall_mem_cons.mpr ⟨hc31, (List.forall_mem_cons.mpr ⟨hc32, (fun _ h => by cases h)⟩)⟩)⟩)⟩)⟩)⟩)⟩)⟩)⟩)⟩)⟩)⟩)⟩)⟩)⟩)⟩)⟩)⟩)⟩)⟩)⟩)⟩)⟩)⟩)⟩)⟩)⟩)⟩)⟩)⟩)⟩)⟩)⟩) (by decide)) (by decide) ?_
      exact next cs sm u gi H locs ls hI hW hl
end
