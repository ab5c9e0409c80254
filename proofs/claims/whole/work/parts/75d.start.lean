theorem aw_first {cs : Nat → Ob} {ST1 : Ob} (cy : Nat → ClassId) (u : Nat → Nat → Nat) (aM : Nat → Nat) (sm : Ob) (h0 : cs 0 = o0) (h1 : cs 1 = o0) (h2 : cs 2 = o0) (h3 : cs 3 = ST1) (h4 : cs 4 = o0) (h5 : cs 5 = o0) (h6 : cs 6 = o0) (h7 : cs 7 = o0) (h8 : cs 8 = o0) (h9 : cs 9 = o0) (h10 : cs 10 = o0) (h11 : cs 11 = o0) (h12 : cs 12 = o0) (h13 : cs 13 = o0) (h14 : cs 14 = o0) (h15 : cs 15 = o0) (h16 : cs 16 = o0) : AW cy u .null cs aM sm = w11 cy (u 0) (u 3) (u 1) (u 8) (u 9) (u 15) (u 16) (u 10) (u 5) (u 6) (u 7) (u 11) (u 12) (u 13) (u 14) o0 ++ (w9 cy (u 1) (u 2) (u 3) o0 ++ (w3 cy (u 2) (u 3) (u 4) .null o0 ++ (w10 cy (u 3) ST1 ++ (w2 cy (u 4) o0 ++ (w8 cy (u 5) o0 ++ (w1 cy (u 6) o0 ++ (w5 cy (u 7) o0 ++ (w4 cy (u 8) o0 ++ (w4 cy (u 9) o0 ++ (w0 cy (u 10) o0 ++ (w0 cy (u 11) o0 ++ (w0 cy (u 12) o0 ++ (w0 cy (u 13) o0 ++ (w0 cy (u 14) o0 ++ (w7 cy (u 15) o0 ++ (w7 cy (u 16) o0 ++ (w12 cy aM sm))))))))))))))))) := by
  unfold AW
  rw [h0, h1, h2, h3, h4, h5, h6, h7, h8, h9, h10, h11, h12, h13, h14, h15, h16]
set_option maxRecDepth 100000 in
set_option maxHeartbeats 16000000 in
theorem whole_start_of {Inv : (Nat → Ob) → Ob → Prop} (hSt : Steps Inv) {ST1 Sa SM1 : Ob} (hT : f10_init_28 FU 0 0 0 o0 = some ST1) (h1 : f12_standsAsAlways 0 S12 = some Sa) (h2 : f12_begins Sa = some SM1) (hI : Inv (fun i => if i = 3 then ST1 else o0) SM1) {p : Program} {e : Env} {s : State} {m : MethodId} {below : List Frame} {meth : Method} {c : Code} (l : Launch) {b L : Nat} {xs : Nat → Int32} (hL : L ≤ 3584) (C0 : lw_At p s m meth c b L xs) : W p l e room_1 s m #[Value.ref b] below meth c s.heap [] 0 0 (lw_Z below #[Value.ref b] s) (entryFrame m ([Value.ref b] : List Value).toArray 4) := by
  obtain ⟨hx, hb, hr, hml, hown, hts, hX, hbl, hlocks, hgv⟩ := id C0
  have hC : Cx p s m #[Value.ref b] meth c code 4 wsL_law RL ret := ⟨hx, hb, hml, hown, fun w h => hts w (wsL_law_in w h), hr, hlocks⟩
  have hbA : ¬ (fun q : Nat => s.heap.size ≤ q) b := Nat.not_le.mpr hbl
  obtain ⟨c0, iS0, hKn0⟩ := u_known (C := RX0) (T := TX0) (N := 9) (n := 9) hts li_wsX00 (hts (.instantiable RX0 9) (List.mem_of_getElem? (i := 399) rfl))
  obtain ⟨c1, iS1, hKn1⟩ := u_known (C := RX1) (T := TX1) (N := 2) (n := 2) hts li_wsX10 (hts (.instantiable RX1 2) (List.mem_of_getElem? (i := 455) rfl))
  obtain ⟨c2, iS2, hKn2⟩ := u_known (C := RX2) (T := TX2) (N := 5) (n := 5) hts li_wsX20 (hts (.instantiable RX2 5) (List.mem_of_getElem? (i := 238) rfl))
  obtain ⟨c3, iS3, hKn3⟩ := u_known (C := RX3) (T := TX3) (N := 4) (n := 4) hts li_wsX30 (hts (.instantiable RX3 4) (List.mem_of_getElem? (i := 141) rfl))
  obtain ⟨c4, iS4, hKn4⟩ := u_known (C := RX4) (T := TX4) (N := 13) (n := 13) hts li_wsX40 (hts (.instantiable RX4 13) (List.mem_of_getElem? (i := 302) rfl))
  obtain ⟨c5, iS5, hKn5⟩ := u_known (C := RX5) (T := TX5) (N := 3) (n := 3) hts li_wsX50 (hts (.instantiable RX5 3) (List.mem_of_getElem? (i := 468) rfl))
  obtain ⟨c6, iS6, hKn6⟩ := u_known (C := RX7) (T := TX7) (N := 3) (n := 3) hts li_wsX70 (hts (.instantiable RX7 3) (List.mem_of_getElem? (i := 380) rfl))
  obtain ⟨c7, iS7, hKn7⟩ := u_known (C := RX8) (T := TX8) (N := 2) (n := 2) hts li_wsX80 (hts (.instantiable RX8 2) (List.mem_of_getElem? (i := 442) rfl))
  obtain ⟨c8, iS8, hKn8⟩ := u_known (C := RX9) (T := TX9) (N := 7) (n := 7) hts li_wsX90 (hts (.instantiable RX9 7) (List.mem_of_getElem? (i := 135) rfl))
  obtain ⟨c9, iS9, hKn9⟩ := u_known (C := RX10) (T := TX10) (N := 8) (n := 8) hts li_wsX100 (hts (.instantiable RX10 8) (List.mem_of_getElem? (i := 147) rfl))
  obtain ⟨c10, iS10, hKn10⟩ := u_known (C := RX11) (T := TX11) (N := 12) (n := 12) hts li_wsX110 (hts (.instantiable RX11 12) (List.mem_of_getElem? (i := 127) rfl))
  obtain ⟨c11, iS11, hKn11⟩ := u_known (C := RX12) (T := TX12) (N := 39) (n := 39) hts li_wsX120 (hts (.instantiable RX12 39) (List.mem_of_getElem? (i := 1171) rfl))
  obtain ⟨y0, hy0⟩ := cy_of (ty := .int) (fun C h => by cases h) (hts (.arrayClass .int) (List.mem_of_getElem? (i := 261) rfl))
  obtain ⟨y1, hy1⟩ := cy_of (ty := .long) (fun C h => by cases h) (hts (.arrayClass .long) (List.mem_of_getElem? (i := 236) rfl))
  obtain ⟨y2, hy2⟩ := cy_of (ty := .boolean) (fun C h => by cases h) (hts (.arrayClass .boolean) (List.mem_of_getElem? (i := 397) rfl))
  obtain ⟨y3, hy3⟩ := cy_of (ty := .byte) (fun C h => by cases h) (hts (.arrayClass .byte) (List.mem_of_getElem? (i := 235) rfl))
  obtain ⟨y4, hy4⟩ := cyO_of (C := "ExtraGuest$Book") (hts (.arrayOver (.object "ExtraGuest$Book")) (List.mem_of_getElem? (i := 440) rfl))
  obtain ⟨ad, hN⟩ := nx_of hts hgv
  obtain ⟨dC, dI, hKc⟩ : ∃ (dC : Nat → ClassId) (dI : Nat → Nat → Nat), ∀ (k : Nat) (q : vw_C), vwCl[k]? = some q → u_Kn s q.1 q.2.1 q.2.2 (dC k) (dI k) := by
    refine ⟨fun k => if k = 0 then c0 else if k = 1 then c1 else if k = 2 then c2 else if k = 3 then c3 else if k = 4 then c4 else if k = 5 then c5 else if k = 6 then c6 else if k = 7 then c7 else if k = 8 then c8 else if k = 9 then c9 else if k = 10 then c10 else c11, fun k => if k = 0 then iS0 else if k = 1 then iS1 else if k = 2 then iS2 else if k = 3 then iS3 else if k = 4 then iS4 else if k = 5 then iS5 else if k = 6 then iS6 else if k = 7 then iS7 else if k = 8 then iS8 else if k = 9 then iS9 else if k = 10 then iS10 else iS11, ?_⟩
    intro k q hq
    match k, hq with
    | 0, hq => cases hq; exact hKn0
    | 1, hq => cases hq; exact hKn1
    | 2, hq => cases hq; exact hKn2
    | 3, hq => cases hq; exact hKn3
    | 4, hq => cases hq; exact hKn4
    | 5, hq => cases hq; exact hKn5
    | 6, hq => cases hq; exact hKn6
    | 7, hq => cases hq; exact hKn7
    | 8, hq => cases hq; exact hKn8
    | 9, hq => cases hq; exact hKn9
    | 10, hq => cases hq; exact hKn10
    | 11, hq => cases hq; exact hKn11
    | k + 12, hq => simp [vwCl] at hq
  obtain ⟨cy, hcy⟩ : ∃ cy : Nat → ClassId, ∀ (k : Nat) (q : ClassId × FieldType), (Ty5 cy)[k]? = some q → ArrOfT s q.1 q.2 ∧ va_RA s q.1 q.2 := by
    refine ⟨fun k => if k = 0 then y0 else if k = 1 then y1 else if k = 2 then y2 else if k = 3 then y3 else y4, ?_⟩
    intro k q hq
    match k, hq with
    | 0, hq => cases hq; exact hy0
    | 1, hq => cases hq; exact hy1
    | 2, hq => cases hq; exact hy2
    | 3, hq => cases hq; exact hy3
    | 4, hq => cases hq; exact hy4
    | k + 5, hq => simp [Ty5] at hq
  have hK : va_K (dC, dI) vwCl (Ty5 cy) s := ⟨hKc, hcy⟩
  obtain ⟨D, hD0⟩ : ∃ D : va_G, D = (dC, dI) := ⟨_, rfl⟩
  rw [← hD0] at hK
  have hW : GW D cy ad ([] : va_W) (fun q : Nat => s.heap.size ≤ q) s s.heap [] := ⟨fun k q h => by simp at h, ⟨fun i j p q h => by simp at h, fun k q h => by simp at h⟩, hK, va_S.rf, fun _ h => h, hN⟩
  have hl := lv_entry ([.ref b]) (n := 4) (Nat.le_of_ble_eq_true rfl)
  rw [lg_entry_eq]
  generalize (lg_sl ([.ref b]) ++ List.replicate (4 - (lg_sl ([.ref b])).length) Slot.unset).toArray = ls at hl ⊢
  have hl : lv_has ls 4 [(0, .ref b)] := hl
  refine g_new (ci := 10) hC hW (C := RX11) (T := TX11) (N := 12) (fun w h => inl_X11 w h) tyX11 tyX11_ok 0 1 2 rfl rfl rfl rfl (fs := [.null, .null, .null, .null, .null, .null, .null, .null, .null, .null, .null, .null]) (by decide) (Nat.le_of_ble_eq_true rfl) (Nat.le_of_ble_eq_true rfl) dL_law_0 (fun q1 H hW => ?_)
  refine lv_dup hC.1 hC.2.1 dL_law_3 rfl ?_
  refine g_callnI (w' := fun u => w11 cy (u 0) (u 3) (u 1) (u 8) (u 9) (u 15) (u 16) (u 10) (u 5) (u 6) (u 7) (u 11) (u 12) (u 13) (u 14) o0 ++ (w9 cy (u 1) (u 2) (u 3) o0 ++ (w3 cy (u 2) (u 3) (u 4) .null o0 ++ (w10 cy (u 3) ST1 ++ (w2 cy (u 4) o0 ++ (w8 cy (u 5) o0 ++ (w1 cy (u 6) o0 ++ (w5 cy (u 7) o0 ++ (w4 cy (u 8) o0 ++ (w4 cy (u 9) o0 ++ (w0 cy (u 10) o0 ++ (w0 cy (u 11) o0 ++ (w0 cy (u 12) o0 ++ (w0 cy (u 13) o0 ++ (w0 cy (u 14) o0 ++ (w7 cy (u 15) o0 ++ (w7 cy (u 16) o0))))))))))))))))) hC hW (n11_init l D cy ad q1 hT) (cwI 0 hC.2.2.2.2.1 gL_law_X11_init rfl rfl rfl (hC.2.2.2.2.1 _ (List.mem_of_getElem? (i := 2) rfl)) (hC.2.2.2.2.1 _ (List.mem_of_getElem? (i := 7) rfl)) (hC.2.2.2.2.1 _ (List.mem_of_getElem? (i := 8) rfl)) rfl (by decide +kernel) ⟨Nat.le_of_ble_eq_true rfl, Nat.le_of_ble_eq_true rfl⟩) (fun u => Sub.all _ _) hl.1 (Nat.le_of_ble_eq_true rfl) dL_law_4 ⟨Nat.le_of_ble_eq_true rfl, Nat.le_of_ble_eq_true rfl⟩ (fun u H locs hu hW2 => ?_)
  subst hu
  have hW := hW2
  clear hW2
  refine lv_astore_n (lv' := [(1, .ref (u 0 0)), (0, .ref b)]) hC.1 hC.2.1 dL_law_7 rfl hl (by decide) rfl (fun ls hl => ?_)
  refine g_new (ci := 11) hC hW (C := RX12) (T := TX12) (N := 39) (fun w h => inl_X12 w h) tyX12 tyX12_ok 3 4 5 rfl rfl rfl rfl (fs := [.int 0, .null, .int 0, .int 0, .null, .null, .null, .int 0, .int 0, .null, .null, .null, .null, .int 0, .null, .null, .null, .null, .int 0, .int 0, .int 0, .int 0, .null, .null, .null, .null, .int 0, .null, .null, .null, .null, .null, .null, .null, .null, .null, .null, .int 0, .long 0]) (by decide) (Nat.le_of_ble_eq_true rfl) (Nat.le_of_ble_eq_true rfl) dL_law_8 (fun q2 H hW => ?_)
  refine lv_dup hC.1 hC.2.1 dL_law_11 rfl ?_
  refine g_callnI (w' := fun v => w11 cy (u 0) (u 3) (u 1) (u 8) (u 9) (u 15) (u 16) (u 10) (u 5) (u 6) (u 7) (u 11) (u 12) (u 13) (u 14) o0 ++ (w9 cy (u 1) (u 2) (u 3) o0 ++ (w3 cy (u 2) (u 3) (u 4) .null o0 ++ (w10 cy (u 3) ST1 ++ (w2 cy (u 4) o0 ++ (w8 cy (u 5) o0 ++ (w1 cy (u 6) o0 ++ (w5 cy (u 7) o0 ++ (w4 cy (u 8) o0 ++ (w4 cy (u 9) o0 ++ (w0 cy (u 10) o0 ++ (w0 cy (u 11) o0 ++ (w0 cy (u 12) o0 ++ (w0 cy (u 13) o0 ++ (w0 cy (u 14) o0 ++ (w7 cy (u 15) o0 ++ (w7 cy (u 16) o0 ++ (w12 cy (v 0) SM1)))))))))))))))))) hC hW (n12_init l D cy ad q2 h1 h2) (cwI 0 hC.2.2.2.2.1 gL_law_X12_init rfl rfl rfl (hC.2.2.2.2.1 _ (List.mem_of_getElem? (i := 5) rfl)) (hC.2.2.2.2.1 _ (List.mem_of_getElem? (i := 177) rfl)) (hC.2.2.2.2.1 _ (List.mem_of_getElem? (i := 178) rfl)) rfl (by decide +kernel) ⟨Nat.le_of_ble_eq_true rfl, Nat.le_of_ble_eq_true rfl⟩) (fun v => ⟨[84], [0, 1, 2, 3, 4, 5, 6, 7, 8, 9, 10, 11, 12, 13, 14, 15, 16, 17, 18, 19, 20, 21, 22, 23, 24, 25, 26, 27, 28, 29, 30, 31, 32, 33, 34, 35, 36, 37, 38, 39, 40, 41, 42, 43, 44, 45, 46, 47, 48, 49, 50, 51, 52, 53, 54, 55, 56, 57, 58, 59, 60, 61, 62, 63, 64, 65, 66, 67, 68, 69, 70, 71, 72, 73, 74, 75, 76, 77, 78, 79, 80, 81, 82, 83], [0, 1, 2, 3, 4, 5, 6, 7, 8, 9, 10, 11, 12, 13, 14, 15, 16, 17, 18, 19, 20, 21, 22, 23, 24, 25, 26, 27, 28, 29, 30, 31, 32, 33, 34, 35, 36, 37, 38, 39, 40, 41, 42, 43, 44, 45, 46, 47, 48, 49, 50, 51, 52, 53, 54, 55, 56, 57, 58, 59, 60, 61, 62, 63, 64, 65, 66, 67, 68, 69, 70, 71, 72, 73, 74, 75, 76, 77, 78, 79, 80, 81, 82, 83, 84, 85, 86, 87, 88, 89, 90, 91, 92, 93, 94, 95, 96, 97, 98, 99, 100, 101, 102, 103, 104, 105, 106, 107, 108, 109, 110], w11 cy (u 0) (u 3) (u 1) (u 8) (u 9) (u 15) (u 16) (u 10) (u 5) (u 6) (u 7) (u 11) (u 12) (u 13) (u 14) o0 ++ (w9 cy (u 1) (u 2) (u 3) o0 ++ (w3 cy (u 2) (u 3) (u 4) .null o0 ++ (w10 cy (u 3) ST1 ++ (w2 cy (u 4) o0 ++ (w8 cy (u 5) o0 ++ (w1 cy (u 6) o0 ++ (w5 cy (u 7) o0 ++ (w4 cy (u 8) o0 ++ (w4 cy (u 9) o0 ++ (w0 cy (u 10) o0 ++ (w0 cy (u 11) o0 ++ (w0 cy (u 12) o0 ++ (w0 cy (u 13) o0 ++ (w0 cy (u 14) o0 ++ (w7 cy (u 15) o0 ++ (w7 cy (u 16) o0)))))))))))))))), rfl, rfl, rfl, rfl, by decide, rfl, rfl⟩) hl.1 (Nat.le_of_ble_eq_true rfl) dL_law_12 ⟨Nat.le_of_ble_eq_true rfl, Nat.le_of_ble_eq_true rfl⟩ (fun v H locs hv hW2 => ?_)
  subst hv
  have hW := hW2
  clear hW2
  refine lv_astore_n (lv' := [(2, .ref (v 0 0)), (1, .ref (u 0 0)), (0, .ref b)]) hC.1 hC.2.1 dL_law_15 rfl hl (by decide) rfl (fun ls hl => ?_)
  refine lv_iconst (v := 0) hC.1 hC.2.1 dL_law_16 (by decide) ?_
  refine lv_istore_n (lv' := [(3, .int 0), (2, .ref (v 0 0)), (1, .ref (u 0 0)), (0, .ref b)]) hC.1 hC.2.1 dL_law_17 rfl hl (by decide) rfl (fun ls hl => ?_)
  refine W.widen (k := lwC) (n := lwS) (Nat.le_of_ble_eq_true rfl) (Nat.le_of_ble_eq_true rfl) ?_
  have hW3 : GW D cy ad (AW cy u .null (fun i => if i = 3 then ST1 else o0) (v 0) SM1) (fun q : Nat => s.heap.size ≤ q) s H locs := by
    rw [aw_first (cs := fun i => if i = 3 then ST1 else o0) (ST1 := ST1) cy u (v 0) SM1 rfl rfl rfl rfl rfl rfl rfl rfl rfl rfl rfl rfl rfl rfl rfl rfl rfl]
    exact hW
  exact law_loop (aM := v 0) hC hX hbl hbA (fun _ h => h) hL hSt (L + 1) 0 (by omega) (Nat.zero_le _) _ SM1 u .null H locs ls hI hW3 (lv_sub hl [3, 2, 1, 0] rfl)

