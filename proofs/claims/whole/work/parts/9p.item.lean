/-! pure: items, their kinds -/
section
variable {C : Nat → Nat} {t N i d : Nat} {SM : Ob} {rec : Int32 → Ob → Option Ob}
theorem ri_flt {F : Nat} (h : Flt SM F) (x1 x3 x4 : Int32) : f12_item_117 rec x1 x3 x4 SM = some SM := by
  unfold f12_item_117; rw [if_neg (flt_nle h)]
theorem ri_5 (hR : RfS SM C t N) (h7 : SM.1 7 = nI i) (hi : i ≤ N) (h8 : SM.1 8 = 0) (x3 x4 : Int32) : f12_item_107 rec (nI 5) x3 x4 SM = some (oI SM 8 (nI (5 + 16 * PP C t i))) := by
  have w : f12_wrong 5 SM = _ := r_wrong hR h7 hi h8 5
  have hp := PP_le C t i
  have ht := hR.1
  unfold f12_item_107
  rw [if_pos (show nI 5 = 5 from rfl), w, bd_s]
  exact ri_flt (F := 5 + 16 * PP C t i) ⟨rfl, by omega, by omega⟩ _ _ _
theorem ri_lt (hd : d < 5) (h8 : SM.1 8 = 0) (x3 x4 : Int32) : f12_item_107 rec (nI d) x3 x4 SM = (bd (f12_hasWord 26 SM) fun r_2 =>
    if (r_2.1) = 0 then
      (bd (f12_hasSign 40 (r_2.2)) fun r_5 =>
      if (r_5.1) = 0 then
        (if x3 < 0 then
          (f12_item_185 rec x3 x4 1 (r_5.2))
        else
          (f12_item_185 rec x3 x4 2 (r_5.2)))
      else
        (bd (f12_either rec (nI d + 1) (r_5.2)) fun r_9 =>
        bd (f12_takeSign 41 r_9) fun r_11 =>
        f12_item_208 rec r_11))
    else
      (bd (rec (nI d + 1) (r_2.2)) fun r_13 =>
      bd (f12_emit 3 0 r_13) fun r_15 =>
      f12_item_208 rec r_15)) := by
  unfold f12_item_107
  rw [if_neg (show ¬ nI d = 5 from fun e => by have := (nI_eq (b := 5) (by omega) (by omega)).mp e; omega)]
  unfold f12_item_117
  rw [if_pos (show SM.1 8 ≤ 0 by rw [h8]; decide)]
theorem ri_leaf (hR : RfS SM C t N) (h7 : SM.1 7 = nI i) (hi : i ≤ N) (h8 : SM.1 8 = 0) (hd : d < 5) (h26 : kdT C t i ≠ 26) (h40 : kdT C t i ≠ 40) (x3 x4 : Int32) : f12_item_107 rec (nI d) x3 x4 SM = bd (f12_emit (if x3 < 0 then 1 else 2) (if x3 < 0 then x4 else x3) SM) fun a => some (oI a 7 (a.1 7 + 1)) := by
  have w1 : f12_hasWord 26 SM = _ := r_hasWord hR h7 hi h8 (k := 26) (by omega)
  have w2 : f12_hasSign 40 SM = _ := r_hasSign hR h7 hi h8 (k := 40) (by omega) (by omega)
  rw [ri_lt hd h8, w1, bd_s, if_neg h26, if_pos (show (0 : Int32) = 0 from rfl), w2, bd_s, if_neg h40, if_pos (show (0 : Int32) = 0 from rfl)]
  unfold f12_item_185 f12_item_195 f12_item_208
  simp only [lt_e]
  by_cases hx : x3 < 0
  · rw [if_pos hx, if_pos hx, if_pos hx, if_pos hx]
  · rw [if_neg hx, if_neg hx, if_neg hx, if_neg hx]
theorem ri_not (hR : RfS SM C t N) (h7 : SM.1 7 = nI i) (hi : i ≤ N) (h8 : SM.1 8 = 0) (hd : d < 5) (h26 : kdT C t i = 26) (x3 x4 : Int32) : f12_item_107 rec (nI d) x3 x4 SM = bd (rec (nI (d + 1)) (oI SM 7 (nI (i + 1)))) fun a => bd (f12_emit 3 0 a) fun b => some b := by
  have w1 : f12_hasWord 26 SM = _ := r_hasWord hR h7 hi h8 (k := 26) (by omega)
  rw [ri_lt hd h8, w1, bd_s, if_pos h26, if_neg (show ¬ (1 : Int32) = 0 by decide), nI_1]
  rfl
theorem ri_par (hR : RfS SM C t N) (h7 : SM.1 7 = nI i) (hi : i ≤ N) (h8 : SM.1 8 = 0) (hd : d < 5) (h40 : kdT C t i = 40) (x3 x4 : Int32) : f12_item_107 rec (nI d) x3 x4 SM = bd (f12_either rec (nI (d + 1)) (oI SM 7 (nI (i + 1)))) fun a => bd (f12_takeSign 41 a) fun b => some b := by
  have w1 : f12_hasWord 26 SM = _ := r_hasWord hR h7 hi h8 (k := 26) (by omega)
  have w2 : f12_hasSign 40 SM = _ := r_hasSign hR h7 hi h8 (k := 40) (by omega) (by omega)
  rw [ri_lt hd h8, w1, bd_s, if_neg (show ¬ kdT C t i = 26 by omega), if_pos (show (0 : Int32) = 0 from rfl), w2, bd_s, if_pos h40, if_neg (show ¬ (1 : Int32) = 0 by decide), nI_1]
  rfl
/-- the reference: which of them is read on -/
theorem ri_b (hR : RfS SM C t N) (h7 : SM.1 7 = nI i) (hi : i ≤ N) (h8 : SM.1 8 = 0) (x1 : Int32) : f12_item_b rec x1 SM = if 29 ≤ kdT C t i ∧ kdT C t i ≤ 32 then (bd (f12_find SM) fun v => f12_item_66 rec x1 1 (-1) v SM) else if 18 ≤ kdT C t i ∧ kdT C t i < 26 then f12_item_107 rec x1 (nI (kdT C t i - 18)) 0 SM else if kdT C t i = 26 ∨ kdT C t i = 40 then f12_item_107 rec x1 (-1) 0 SM else some (oI SM 8 (nI (1 + 16 * PP C t i))) := by
  have w1 : f12_wordHere 18 8 SM = some (if 18 ≤ kdT C t i ∧ kdT C t i < 18 + 8 then nI (kdT C t i - 18) else -1) := r_word hR h7 hi h8 (fr := 18) (mn := 8) (by omega)
  have w2 : f12_isSign 40 SM = _ := r_isSign hR h7 hi h8 (k := 40) (by omega) (by omega)
  have w3 : f12_isWord 26 SM = _ := r_isWord hR h7 hi h8 (k := 26) (by omega)
  have w4 : f12_wrong 1 SM = _ := r_wrong hR h7 hi h8 1
  unfold f12_item_b
  rw [if_pos (show SM.1 8 ≤ 0 by rw [h8]; decide), r_isName hR h7 hi h8, bd_s, w1, bd_s]
  by_cases c1 : 29 ≤ kdT C t i ∧ kdT C t i ≤ 32
  · rw [if_pos c1, if_pos c1, if_neg (show ¬ (18 ≤ kdT C t i ∧ kdT C t i < 18 + 8) by omega), if_neg (show ¬ (1 : Int32) = 0 by decide)]
    unfold f12_item_54
    rw [if_neg (show ¬ (1 : Int32) = 0 by decide)]
  · rw [if_neg c1, if_neg c1, if_pos (show (0 : Int32) = 0 from rfl)]
    by_cases c2 : 18 ≤ kdT C t i ∧ kdT C t i < 26
    · rw [if_pos (show 18 ≤ kdT C t i ∧ kdT C t i < 18 + 8 from c2), if_pos c2, if_pos (nI_pos' (by omega))]
      unfold f12_item_54 f12_item_66
      rw [if_pos (show (0 : Int32) = 0 from rfl), if_pos (show (0 : Int32) = 0 from rfl)]
    · rw [if_neg (show ¬ (18 ≤ kdT C t i ∧ kdT C t i < 18 + 8) from c2), if_neg c2, if_neg (show ¬ (0 : Int32) ≤ -1 by decide), w2, bd_s]
      have e54 : f12_item_54 rec x1 0 (-1) SM = f12_item_107 rec x1 (-1) 0 SM := by
        unfold f12_item_54 f12_item_66
        rw [if_pos (show (0 : Int32) = 0 from rfl), if_pos (show (0 : Int32) = 0 from rfl)]
      by_cases c3 : kdT C t i = 40
      · rw [if_pos c3, if_neg (show ¬ (1 : Int32) = 0 by decide), e54, if_pos (Or.inr c3)]
      · rw [if_neg c3, if_pos (show (0 : Int32) = 0 from rfl), w3, bd_s]
        by_cases c4 : kdT C t i = 26
        · rw [if_pos c4, if_neg (show ¬ (1 : Int32) = 0 by decide), e54, if_pos (Or.inl c4)]
        · rw [if_neg c4, if_pos (show (0 : Int32) = 0 from rfl), w4, bd_s, if_neg (by omega)]
end
section
variable {C : Nat → Nat} {t N i : Nat} {SG ST SC SI SM : Ob} {rec : Int32 → Ob → Ob → Ob → Ob → Option (Int32 × Ob × Ob × Ob)}
/-- the class: which of them is read on -/
theorem ci_b (hsy : Syn C t N SG ST SM i) (x1 : Int32) {a b : Int32} (hga : f4_guestNamed (ST.2.1 6) SI = some a) (hsb : f4_signNamed (ST.2.1 6) SI = some b) : f3_item_b rec x1 SG ST SC SI = if 29 ≤ kdT C t i ∧ kdT C t i ≤ 32 then (if a = -1 ∧ b = -1 then some (0, oI SG 3 (nI (2 + 16 * PP C t i)), ST, SC) else f3_item_116 rec x1 (nI (kdT C t i)) 1 a b SG ST SC SI) else if 18 ≤ kdT C t i ∧ kdT C t i < 26 then f3_item_116 rec x1 (nI (kdT C t i)) 0 a b SG ST SC SI else if kdT C t i = 26 ∨ kdT C t i = 40 then f3_item_116 rec x1 (nI (kdT C t i)) 0 a b SG ST SC SI else some (0, oI SG 3 (nI (1 + 16 * PP C t i)), ST, SC) := by
  have hm := (syn_kd hsy).2
  have e1 : f3_fail 1 SG ST = _ := c_fail hsy 1
  have e2 : f3_fail 2 SG ST = _ := c_fail hsy 2
  have hn : f10_isName ST = some (if 29 ≤ kdT C t i ∧ kdT C t i ≤ 32 then 1 else 0) := c_isName hsy.2.1 hm
  have x26 : nI (kdT C t i) = 26 ↔ kdT C t i = 26 := nI_eq (b := 26) (by omega) (by omega)
  have x40 : nI (kdT C t i) = 40 ↔ kdT C t i = 40 := nI_eq (b := 40) (by omega) (by omega)
  unfold f3_item_b
  rw [(syn_kd hsy).1, lt_e, hn, bd_s]
  by_cases c1 : 29 ≤ kdT C t i ∧ kdT C t i ≤ 32
  · rw [if_pos c1, if_pos c1, if_neg (show ¬ nI (kdT C t i) < 18 from nI_nlt (b := 18) (by omega) (by omega)), if_pos (show (25 : Int32) < nI (kdT C t i) from nI_lt (a := 25) (by omega) (by omega))]
    unfold f3_item_32 f3_item_33 f3_item_62
    rw [if_neg (show ¬ (1 : Int32) = 0 by decide), hga, bd_s, hsb, bd_s, if_neg (show ¬ (1 : Int32) = 0 by decide), e2, bd_s]
    by_cases ha : a = -1
    · by_cases hb : b = -1
      · rw [if_pos ha, if_pos hb, if_pos ⟨ha, hb⟩]; rfl
      · rw [if_pos ha, if_neg hb, if_neg (fun h => hb h.2)]
    · rw [if_neg ha, if_neg (fun h => ha h.1)]
  · rw [if_neg c1, if_neg c1]
    have e62 : f3_item_62 rec x1 (nI (kdT C t i)) 0 SG ST SC SI = f3_item_116 rec x1 (nI (kdT C t i)) 0 a b SG ST SC SI := by
      unfold f3_item_62
      rw [hga, bd_s, hsb, bd_s, if_pos (show (0 : Int32) = 0 from rfl)]
    have e33 : f3_item_33 rec x1 (nI (kdT C t i)) 0 1 SG ST SC SI = f3_item_62 rec x1 (nI (kdT C t i)) 0 SG ST SC SI := by
      unfold f3_item_33
      rw [if_pos (show (0 : Int32) = 0 from rfl), if_neg (show ¬ (1 : Int32) = 0 by decide)]
    by_cases c2 : 18 ≤ kdT C t i ∧ kdT C t i < 26
    · rw [if_pos c2, if_neg (show ¬ nI (kdT C t i) < 18 from nI_nlt (b := 18) (by omega) (by omega)), if_neg (show ¬ (25 : Int32) < nI (kdT C t i) from nI_nlt (a := 25) (by omega) (by omega)), e33, e62]
    · have e32 : (if nI (kdT C t i) < 18 then f3_item_32 rec x1 (nI (kdT C t i)) 0 SG ST SC SI else if (25 : Int32) < nI (kdT C t i) then f3_item_32 rec x1 (nI (kdT C t i)) 0 SG ST SC SI else f3_item_33 rec x1 (nI (kdT C t i)) 0 1 SG ST SC SI) = f3_item_32 rec x1 (nI (kdT C t i)) 0 SG ST SC SI := by
        by_cases h1 : kdT C t i < 18
        · rw [if_pos (show nI (kdT C t i) < 18 from nI_lt (b := 18) h1 (by omega))]
        · rw [if_neg (show ¬ nI (kdT C t i) < 18 from nI_nlt (b := 18) (by omega) (by omega)), if_pos (show (25 : Int32) < nI (kdT C t i) from nI_lt (a := 25) (by omega) (by omega))]
      rw [if_neg c2, e32]
      unfold f3_item_32 f3_item_33
      rw [if_pos (show (0 : Int32) = 0 from rfl), if_pos (show (0 : Int32) = 0 from rfl), e62]
      by_cases c3 : kdT C t i = 26
      · rw [if_pos (x26.mpr c3), if_pos (Or.inl c3)]
      · rw [if_neg (fun h => c3 (x26.mp h))]
        by_cases c4 : kdT C t i = 40
        · rw [if_pos (x40.mpr c4), if_pos (Or.inr c4)]
        · rw [if_neg (fun h => c4 (x40.mp h)), if_neg (by omega), e1, bd_s]; rfl
theorem ci_5 (hsy : Syn C t N SG ST SM i) (x2 x3 a b : Int32) : f3_item_116 rec (nI 5) x2 x3 a b SG ST SC SI = some (0, oI SG 3 (nI (5 + 16 * PP C t i)), ST, SC) := by
  have e5 : f3_fail 5 SG ST = _ := c_fail hsy 5
  unfold f3_item_116
  rw [if_neg (show ¬ nI 5 < 5 by decide), e5, bd_s]; rfl
theorem ci_leaf (hsy : Syn C t N SG ST SM i) {d : Nat} (hd : d < 5) (h26 : kdT C t i ≠ 26) (h40 : kdT C t i ≠ 40) (x3 a b : Int32) : f3_item_116 rec (nI d) (nI (kdT C t i)) x3 a b SG ST SC SI = bd (f10_advance ST) fun q => bd (f2_put (if x3 = 0 then nI (kdT C t i) else if a = -1 then 3 else 0) (if x3 = 0 then 0 else if a = -1 then b else a) SC) fun w => some (1, SG, q, w) := by
  have hm := (syn_kd hsy).2
  have x26 : nI (kdT C t i) = 26 ↔ kdT C t i = 26 := nI_eq (b := 26) (by omega) (by omega)
  have x40 : nI (kdT C t i) = 40 ↔ kdT C t i = 40 := nI_eq (b := 40) (by omega) (by omega)
  unfold f3_item_116
  rw [if_pos (show nI d < 5 from nI_lt (b := 5) hd (by omega))]
  congr 1
  funext q
  rw [if_neg (fun h => h26 (x26.mp h)), if_neg (fun h => h40 (x40.mp h))]
  by_cases c1 : x3 = 0
  · rw [if_pos c1, if_pos c1, if_pos c1]; rfl
  · rw [if_neg c1, if_neg c1, if_neg c1]
    by_cases c2 : a = -1
    · rw [if_pos c2, if_pos c2, if_pos c2]; rfl
    · rw [if_neg c2, if_neg c2, if_neg c2]; rfl
theorem ci_not (hsy : Syn C t N SG ST SM i) {d : Nat} (hd : d < 5) (h26 : kdT C t i = 26) (x3 a b : Int32) : f3_item_116 rec (nI d) (nI (kdT C t i)) x3 a b SG ST SC SI = bd (f10_advance ST) fun q => bd (rec (nI (d + 1)) SG q SC SI) fun a => lt a.1 fun x => bd (f2_put 26 0 a.2.2.2) fun b => ck (isz x) (some (x, a.2.1, a.2.2.1, b)) := by
  unfold f3_item_116
  rw [if_pos (show nI d < 5 from nI_lt (b := 5) hd (by omega)), h26]
  congr 1
  funext q
  rw [if_pos (show nI 26 = 26 from rfl), nI_1]
theorem ci_par (hsy : Syn C t N SG ST SM i) {d : Nat} (hd : d < 5) (h40 : kdT C t i = 40) (x3 a b : Int32) : f3_item_116 rec (nI d) (nI (kdT C t i)) x3 a b SG ST SC SI = bd (f10_advance ST) fun q => bd (f3_formula rec (nI (d + 1)) SG q SC SI) fun a => if a.1 = 0 then some (0, a.2.1, a.2.2.1, a.2.2.2) else bd (f3_take 41 a.2.1 a.2.2.1) fun b => if b.1 = 0 then some (0, b.2.1, b.2.2, a.2.2.2) else some (1, b.2.1, b.2.2, a.2.2.2) := by
  unfold f3_item_116
  rw [if_pos (show nI d < 5 from nI_lt (b := 5) hd (by omega)), h40]
  congr 1
  funext q
  rw [if_neg (show ¬ nI 40 = 26 by decide), if_pos (show nI 40 = 40 from rfl), nI_1]
  rfl
end
