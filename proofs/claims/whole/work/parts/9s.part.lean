/-! pure: parts of a bill -/
section
variable {C : Nat → Nat} {t N i d : Nat} {SM : Ob} {rec : Int32 → Ob → Option Ob}
theorem rp_flt {F : Nat} (h : Flt SM F) (x1 x3 x4 : Int32) : f12_takePart_79 rec x1 x3 x4 SM = some SM := by
  unfold f12_takePart_79; rw [if_neg (flt_nle h)]
theorem rp_5 (hR : RfS SM C t N) (h7 : SM.1 7 = nI i) (hi : i ≤ N) (h8 : SM.1 8 = 0) (x3 x4 : Int32) : f12_takePart_69 rec (nI 5) x3 x4 SM = some (oI SM 8 (nI (5 + 16 * PP C t i))) := by
  have w : f12_wrong 5 SM = _ := r_wrong hR h7 hi h8 5
  have hp := PP_le C t i
  have ht := hR.1
  unfold f12_takePart_69
  rw [if_pos (show nI 5 = 5 from rfl), w, bd_s]
  exact rp_flt (F := 5 + 16 * PP C t i) ⟨rfl, by omega, by omega⟩ _ _ _
theorem rp_lt (hd : d < 5) (h8 : SM.1 8 = 0) (x2 x3 : Int32) : f12_takePart_69 rec (nI d) x2 x3 SM = (bd (f12_hasWord 26 SM) fun r_2 =>
    if (r_2.1) = 0 then
      (bd (f12_hasSign 40 (r_2.2)) fun r_5 =>
      if (r_5.1) = 0 then
        (if x2 = 0 then
          (f12_takePart_147 rec x2 x3 2 (r_5.2))
        else
          (f12_takePart_147 rec x2 x3 1 (r_5.2)))
      else
        (bd (f12_all rec (nI d + 1) (r_5.2)) fun r_9 =>
        bd (f12_takeSign 41 r_9) fun r_11 =>
        f12_takePart_178 rec r_11))
    else
      (bd (rec (nI d + 1) (r_2.2)) fun r_13 =>
      bd (f12_emit 3 0 r_13) fun r_15 =>
      f12_takePart_178 rec r_15)) := by
  unfold f12_takePart_69
  rw [if_neg (show ¬ nI d = 5 from fun e => by have := (nI_eq (b := 5) (by omega) (by omega)).mp e; omega)]
  unfold f12_takePart_79
  rw [if_pos (show SM.1 8 ≤ 0 by rw [h8]; decide)]
theorem rp_leaf (hR : RfS SM C t N) (h7 : SM.1 7 = nI i) (hi : i ≤ N) (h8 : SM.1 8 = 0) (hd : d < 5) (h26 : kdT C t i ≠ 26) (h40 : kdT C t i ≠ 40) (x3 : Int32) : f12_takePart_69 rec (nI d) 0 x3 SM = bd (f12_emit 2 x3 SM) fun a => some (oI a 7 (a.1 7 + 1)) := by
  have w1 : f12_hasWord 26 SM = _ := r_hasWord hR h7 hi h8 (k := 26) (by omega)
  have w2 : f12_hasSign 40 SM = _ := r_hasSign hR h7 hi h8 (k := 40) (by omega) (by omega)
  rw [rp_lt hd h8, w1, bd_s, if_neg h26, if_pos (show (0 : Int32) = 0 from rfl), w2, bd_s, if_neg h40, if_pos (show (0 : Int32) = 0 from rfl), if_pos (show (0 : Int32) = 0 from rfl)]
  unfold f12_takePart_147 f12_takePart_165 f12_takePart_178
  rw [if_pos (show (0 : Int32) = 0 from rfl)]
  rfl
theorem rp_num (hR : RfS SM C t N) (h7 : SM.1 7 = nI i) (hi : i ≤ N) (h8 : SM.1 8 = 0) (hd : d < 5) (h33 : kdT C t i = 33) (x3 : Int32) : f12_takePart_69 rec (nI d) 1 x3 SM = bd (f12_emit 1 (nI (nmT C t i)) SM) fun a => some (oI a 7 (a.1 7 + 1)) := by
  have ht := hR.1
  have hN := hR.2.1
  have w1 : f12_hasWord 26 SM = _ := r_hasWord hR h7 hi h8 (k := 26) (by omega)
  have w2 : f12_hasSign 40 SM = _ := r_hasSign hR h7 hi h8 (k := 40) (by omega) (by omega)
  rw [rp_lt hd h8, w1, bd_s, if_neg (show ¬ kdT C t i = 26 by omega), if_pos (show (0 : Int32) = 0 from rfl), w2, bd_s, if_neg (show ¬ kdT C t i = 40 by omega), if_pos (show (0 : Int32) = 0 from rfl), if_neg (show ¬ (1 : Int32) = 0 by decide)]
  unfold f12_takePart_147 f12_takePart_165 f12_takePart_178
  simp only [lt_e]
  rw [if_neg (show ¬ (1 : Int32) = 0 by decide), h7, inb_nI (by omega) (by omega), ck_t, nI_clamp (by omega), (val_n hR hi h33).1, lN_i]
theorem rp_not (hR : RfS SM C t N) (h7 : SM.1 7 = nI i) (hi : i ≤ N) (h8 : SM.1 8 = 0) (hd : d < 5) (h26 : kdT C t i = 26) (x3 x4 : Int32) : f12_takePart_69 rec (nI d) x3 x4 SM = bd (rec (nI (d + 1)) (oI SM 7 (nI (i + 1)))) fun a => bd (f12_emit 3 0 a) fun b => some b := by
  have w1 : f12_hasWord 26 SM = _ := r_hasWord hR h7 hi h8 (k := 26) (by omega)
  rw [rp_lt hd h8, w1, bd_s, if_pos h26, if_neg (show ¬ (1 : Int32) = 0 by decide), nI_1]
  rfl
theorem rp_par (hR : RfS SM C t N) (h7 : SM.1 7 = nI i) (hi : i ≤ N) (h8 : SM.1 8 = 0) (hd : d < 5) (h40 : kdT C t i = 40) (x3 x4 : Int32) : f12_takePart_69 rec (nI d) x3 x4 SM = bd (f12_all rec (nI (d + 1)) (oI SM 7 (nI (i + 1)))) fun a => bd (f12_takeSign 41 a) fun b => some b := by
  have w1 : f12_hasWord 26 SM = _ := r_hasWord hR h7 hi h8 (k := 26) (by omega)
  have w2 : f12_hasSign 40 SM = _ := r_hasSign hR h7 hi h8 (k := 40) (by omega) (by omega)
  rw [rp_lt hd h8, w1, bd_s, if_neg (show ¬ kdT C t i = 26 by omega), if_pos (show (0 : Int32) = 0 from rfl), w2, bd_s, if_pos h40, if_neg (show ¬ (1 : Int32) = 0 by decide), nI_1]
  rfl
theorem rp_b (hR : RfS SM C t N) (h7 : SM.1 7 = nI i) (hi : i ≤ N) (h8 : SM.1 8 = 0) (x1 : Int32) : f12_takePart_b rec x1 SM = if kdT C t i = 33 then f12_takePart_69 rec x1 1 (-1) SM else if 29 ≤ kdT C t i ∧ kdT C t i < 32 then f12_takePart_69 rec x1 0 (nI (kdT C t i - 29)) SM else if kdT C t i = 26 ∨ kdT C t i = 40 then f12_takePart_69 rec x1 0 (-1) SM else some (oI SM 8 (nI (1 + 16 * PP C t i))) := by
  have ht := hR.1
  have hN := hR.2.1
  have hp := PP_le C t i
  have w1 : f12_wordHere 29 3 SM = some (if 29 ≤ kdT C t i ∧ kdT C t i < 29 + 3 then nI (kdT C t i - 29) else -1) := r_word hR h7 hi h8 (fr := 29) (mn := 3) (by omega)
  have w2 : f12_isSign 40 SM = _ := r_isSign hR h7 hi h8 (k := 40) (by omega) (by omega)
  have w3 : f12_isWord 26 SM = _ := r_isWord hR h7 hi h8 (k := 26) (by omega)
  have w4 : f12_wrong 1 SM = _ := r_wrong hR h7 hi h8 1
  unfold f12_takePart_b
  rw [if_pos (show SM.1 8 ≤ 0 by rw [h8]; decide), h7, inb_nI (by omega) (by omega), ck_t, nI_clamp (by omega)]
  by_cases c1 : kdT C t i = 33
  · rw [if_pos ((srt_kd hR hi).2.1.mpr c1), if_pos c1]
    unfold f12_takePart_26
    rw [w1, bd_s, if_neg (show ¬ (29 ≤ kdT C t i ∧ kdT C t i < 29 + 3) by omega), if_neg (show ¬ (0 : Int32) ≤ -1 by decide), if_neg (show ¬ (1 : Int32) = 0 by decide)]
  · rw [if_neg (fun e => c1 ((srt_kd hR hi).2.1.mp e)), if_neg c1]
    unfold f12_takePart_26
    rw [w1, bd_s]
    by_cases c2 : 29 ≤ kdT C t i ∧ kdT C t i < 32
    · rw [if_pos (show 29 ≤ kdT C t i ∧ kdT C t i < 29 + 3 from c2), if_pos c2, if_pos (nI_pos' (by omega))]
    · rw [if_neg (show ¬ (29 ≤ kdT C t i ∧ kdT C t i < 29 + 3) from c2), if_neg c2, if_neg (show ¬ (0 : Int32) ≤ -1 by decide), if_pos (show (0 : Int32) = 0 from rfl), w2, bd_s]
      by_cases c3 : kdT C t i = 40
      · rw [if_neg (fun e => one0.mp e c3), if_pos (Or.inr c3)]
      · rw [if_pos (one0.mpr c3), w3, bd_s]
        by_cases c4 : kdT C t i = 26
        · rw [if_neg (fun e => one0.mp e c4), if_pos (Or.inl c4)]
        · rw [if_pos (one0.mpr c4), w4, bd_s, if_neg (show ¬ (kdT C t i = 26 ∨ kdT C t i = 40) by omega), rp_flt (F := 1 + 16 * PP C t i) ⟨rfl, by omega, by omega⟩]
end
section
variable {C : Nat → Nat} {t N i : Nat} {SG ST SC SM : Ob} {rec : Int32 → Ob → Ob → Ob → Option (Int32 × Ob × Ob × Ob)}
theorem cp_b (hsy : Syn C t N SG ST SM i) (x1 : Int32) : f3_part_b rec x1 SG ST SC = if kdT C t i = 33 then f3_part_54 rec x1 (nI (kdT C t i)) SG ST SC else if 29 ≤ kdT C t i ∧ kdT C t i < 32 then f3_part_54 rec x1 (nI (kdT C t i)) SG ST SC else if kdT C t i = 26 ∨ kdT C t i = 40 then f3_part_54 rec x1 (nI (kdT C t i)) SG ST SC else some (0, oI SG 3 (nI (1 + 16 * PP C t i)), ST, SC) := by
  have hm := (syn_kd hsy).2
  have e1 : f3_fail 1 SG ST = _ := c_fail hsy 1
  have x26 : nI (kdT C t i) = 26 ↔ kdT C t i = 26 := nI_eq (b := 26) (by omega) (by omega)
  have x40 : nI (kdT C t i) = 40 ↔ kdT C t i = 40 := nI_eq (b := 40) (by omega) (by omega)
  have x33 : nI (kdT C t i) = 33 ↔ kdT C t i = 33 := nI_eq (b := 33) (by omega) (by omega)
  unfold f3_part_b
  rw [(syn_kd hsy).1, lt_e]
  have e26 : f3_part_26 rec x1 (nI (kdT C t i)) SG ST SC = f3_part_54 rec x1 (nI (kdT C t i)) SG ST SC := by
    unfold f3_part_26 f3_part_31
    rw [if_neg (show ¬ (1 : Int32) = 0 by decide)]
  by_cases c1 : kdT C t i = 33
  · rw [if_pos c1, if_pos (x33.mpr c1), e26]
  · rw [if_neg c1, if_neg (fun e => c1 (x33.mp e))]
    by_cases c2 : 29 ≤ kdT C t i ∧ kdT C t i < 32
    · rw [if_pos c2, if_neg (show ¬ nI (kdT C t i) < 29 from nI_nlt (b := 29) (by omega) (by omega)), if_neg (show ¬ (31 : Int32) < nI (kdT C t i) from nI_nlt (a := 31) (by omega) (by omega)), e26]
    · have e30 : (if nI (kdT C t i) < 29 then f3_part_30 rec x1 (nI (kdT C t i)) SG ST SC else if (31 : Int32) < nI (kdT C t i) then f3_part_30 rec x1 (nI (kdT C t i)) SG ST SC else f3_part_26 rec x1 (nI (kdT C t i)) SG ST SC) = f3_part_30 rec x1 (nI (kdT C t i)) SG ST SC := by
        by_cases h1 : kdT C t i < 29
        · rw [if_pos (show nI (kdT C t i) < 29 from nI_lt (b := 29) h1 (by omega))]
        · rw [if_neg (show ¬ nI (kdT C t i) < 29 from nI_nlt (b := 29) (by omega) (by omega)), if_pos (show (31 : Int32) < nI (kdT C t i) from nI_lt (a := 31) (by omega) (by omega))]
      rw [if_neg c2, e30]
      unfold f3_part_30 f3_part_31
      rw [if_pos (show (0 : Int32) = 0 from rfl)]
      by_cases c3 : kdT C t i = 26
      · rw [if_pos (x26.mpr c3), if_pos (Or.inl c3)]
      · rw [if_neg (fun h => c3 (x26.mp h))]
        by_cases c4 : kdT C t i = 40
        · rw [if_pos (x40.mpr c4), if_pos (Or.inr c4)]
        · rw [if_neg (fun h => c4 (x40.mp h)), if_neg (by omega), e1, bd_s]; rfl
theorem cp_5 (hsy : Syn C t N SG ST SM i) (x2 : Int32) : f3_part_54 rec (nI 5) x2 SG ST SC = some (0, oI SG 3 (nI (5 + 16 * PP C t i)), ST, SC) := by
  have e5 : f3_fail 5 SG ST = _ := c_fail hsy 5
  unfold f3_part_54
  rw [if_neg (show ¬ nI 5 < 5 by decide), e5, bd_s]; rfl
theorem cp_leaf (hsy : Syn C t N SG ST SM i) {d : Nat} (hd : d < 5) (h26 : kdT C t i ≠ 26) (h40 : kdT C t i ≠ 40) : f3_part_54 rec (nI d) (nI (kdT C t i)) SG ST SC = bd (f10_advance ST) fun q => bd (f2_put (nI (kdT C t i)) (ST.1 7) SC) fun w => some (1, SG, q, w) := by
  have hm := (syn_kd hsy).2
  have x26 : nI (kdT C t i) = 26 ↔ kdT C t i = 26 := nI_eq (b := 26) (by omega) (by omega)
  have x40 : nI (kdT C t i) = 40 ↔ kdT C t i = 40 := nI_eq (b := 40) (by omega) (by omega)
  unfold f3_part_54
  rw [if_pos (show nI d < 5 from nI_lt (b := 5) hd (by omega)), lt_e]
  congr 1
  funext q
  rw [if_neg (fun h => h26 (x26.mp h)), if_neg (fun h => h40 (x40.mp h))]
theorem cp_not (hsy : Syn C t N SG ST SM i) {d : Nat} (hd : d < 5) (h26 : kdT C t i = 26) : f3_part_54 rec (nI d) (nI (kdT C t i)) SG ST SC = bd (f10_advance ST) fun q => bd (rec (nI (d + 1)) SG q SC) fun a => lt a.1 fun x => bd (f2_put 26 0 a.2.2.2) fun b => ck (isz x) (some (x, a.2.1, a.2.2.1, b)) := by
  unfold f3_part_54
  rw [if_pos (show nI d < 5 from nI_lt (b := 5) hd (by omega)), h26, lt_e]
  congr 1
  funext q
  rw [if_pos (show nI 26 = 26 from rfl), nI_1]
theorem cp_par (hsy : Syn C t N SG ST SM i) {d : Nat} (hd : d < 5) (h40 : kdT C t i = 40) : f3_part_54 rec (nI d) (nI (kdT C t i)) SG ST SC = bd (f10_advance ST) fun q => bd (f3_expression rec (nI (d + 1)) SG q SC) fun a => if a.1 = 0 then some (0, a.2.1, a.2.2.1, a.2.2.2) else bd (f3_take 41 a.2.1 a.2.2.1) fun b => if b.1 = 0 then some (0, b.2.1, b.2.2, a.2.2.2) else some (1, b.2.1, b.2.2, a.2.2.2) := by
  unfold f3_part_54
  rw [if_pos (show nI d < 5 from nI_lt (b := 5) hd (by omega)), h40, lt_e]
  congr 1
  funext q
  rw [if_neg (show ¬ nI 40 = 26 by decide), if_pos (show nI 40 = 40 from rfl), nI_1]
  rfl
end
theorem part_step {C : Nat → Nat} {t N n g dp d e : Nat} (hn : 8 < n) (hde : d + e = 5) (hrec : ∀ e', e = e' + 1 → SubX C t N n g (4 * e') (f3_part dp (nI (d + 1))) (f12_takePart dp (nI (d + 1)))) : SubX C t N n g (4 * e) (f3_part (dp + 1) (nI d)) (f12_takePart (dp + 1) (nI d)) := by
  intro SG ST SC SM i s r hsy hs hsi hr hri _
  obtain ⟨y1, y2, y3, y4, y5, y6, y7⟩ := id hsy
  have hN := y7.2.1
  have ht := y7.1
  show OutP C t N n g (4 * e) SG ST SC SM i s r (f3_part_b (f3_part dp) (nI d) SG ST SC) (f12_takePart_b (f12_takePart dp) (nI d) SM)
  rw [cp_b hsy _, rp_b y7 y4 y6 y5]
  have hm := (syn_kd hsy).2
  by_cases k1 : kdT C t i = 33
  · rw [if_pos k1, if_pos k1]
    have hiN : i < N := kd_lt y7 y6 (by omega)
    rcases Nat.lt_or_ge d 5 with hd | hd
    · obtain ⟨v1, v2⟩ := val_n y7 y6 k1
      rw [cp_leaf hsy hd (by omega) (by omega), rp_num y7 y4 y6 y5 hd k1, k1]
      exact out_leaf (x := (11, nmT C t i)) hsy hiN hs hsi hr hri (by omega) rfl (lv_mk 11 (nmT C t i) (by omega) (by omega) (by omega) (by omega) (by omega) (by omega) (by omega) (by omega)) (fun _ => y2.2.2.2.2 k1)
    · have : d = 5 := by omega
      subst this
      rw [cp_5 hsy, rp_5 y7 y4 y6 y5]
      exact out_fail hsy hs hsi hr hri (by omega) (by omega)
  · rw [if_neg k1, if_neg k1]
    by_cases k2 : 29 ≤ kdT C t i ∧ kdT C t i < 32
    · have hiN : i < N := kd_lt y7 y6 (by omega)
      rw [if_pos k2, if_pos k2]
      rcases Nat.lt_or_ge d 5 with hd | hd
      · rw [cp_leaf hsy hd (by omega) (by omega), rp_leaf y7 y4 y6 y5 hd (by omega) (by omega)]
        have ek : nI (kdT C t i) = nI (ckN (12, kdT C t i - 29)) := congrArg nI (by show kdT C t i = 29 + (kdT C t i - 29); omega)
        rw [ek]
        exact out_leaf (x := (12, kdT C t i - 29)) hsy hiN hs hsi hr hri (by omega) rfl (lv_mk 12 (kdT C t i - 29) (by omega) (by omega) (by omega) (by omega) (by omega) (by omega) (by omega) (by omega)) (fun h => absurd rfl h)
      · have : d = 5 := by omega
        subst this
        rw [cp_5 hsy, rp_5 y7 y4 y6 y5]
        exact out_fail hsy hs hsi hr hri (by omega) (by omega)
    · rw [if_neg k2, if_neg k2]
      by_cases k3 : kdT C t i = 26 ∨ kdT C t i = 40
      · have hiN : i < N := kd_lt y7 y6 (by omega)
        rw [if_pos k3, if_pos k3]
        rcases Nat.lt_or_ge d 5 with hd | hd
        · obtain ⟨e', rfl⟩ : ∃ e', e = e' + 1 := ⟨e - 1, by omega⟩
          obtain ⟨ST1, e1, f1, sy1⟩ := syn_adv hsy hiN
          rcases k3 with k3 | k3
          · rw [cp_not hsy hd k3, rp_not y7 y4 y6 y5 hd k3, e1, bd_s]
            exact out_mono (by omega) (out_not y7 hri hsi f1 (hrec e' rfl SG ST1 SC _ (i + 1) s r sy1 hs (by omega) hr (by omega) trivial))
          · rw [cp_par hsy hd k3, rp_par y7 y4 y6 y5 hd k3, e1, bd_s]
            exact out_par y7 hri hsi f1 (sim_all hn (hrec e' rfl) SG ST1 SC _ (i + 1) s r sy1 hs (by omega) hr (by omega) trivial)
        · have : d = 5 := by omega
          subst this
          rw [cp_5 hsy, rp_5 y7 y4 y6 y5]
          exact out_fail hsy hs hsi hr hri (by omega) (by omega)
      · rw [if_neg k3, if_neg k3]
        exact out_fail hsy hs hsi hr hri (by omega) (by omega)
theorem sim_part {C : Nat → Nat} {t N n g : Nat} (hn : 8 < n) : ∀ e d dp, d + e = 5 → e < dp → SubX C t N n g (4 * e) (f3_part dp (nI d)) (f12_takePart dp (nI d)) := by
  intro e
  induction e with
  | zero =>
    intro d dp hde hdp
    obtain ⟨dp, rfl⟩ : ∃ k, dp = k + 1 := ⟨dp - 1, by omega⟩
    exact part_step hn hde (fun e' h => absurd h (by omega))
  | succ e ih =>
    intro d dp hde hdp
    obtain ⟨dp, rfl⟩ : ∃ k, dp = k + 1 := ⟨dp - 1, by omega⟩
    refine part_step hn hde (fun e' h => ?_)
    have : e' = e := by omega
    subst this
    exact ih (d + 1) dp (by omega) (by omega)
theorem sim_expr {C : Nat → Nat} {t N : Nat} (SG ST SC SM : Ob) (i s r : Nat) (hsy : Syn C t N SG ST SM i) (hs : SC.1 3 = nI s) (hsi : s ≤ i) (hr : SM.1 13 = nI r) (hri : r ≤ i) : OutP C t N 9 0 24 SG ST SC SM i s r (f3_expression (f3_part DP) 0 SG ST SC) (f12_all (f12_takePart DP) 0 SM) := sim_all (h := 20) (d := 0) (by omega) (sim_part (by omega) 5 0 DP (by omega) (by decide)) SG ST SC SM i s r hsy hs hsi hr hri trivial
