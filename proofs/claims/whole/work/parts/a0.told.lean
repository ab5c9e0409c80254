/-! pure: who is told; what stands still behind a fault -/
section
variable {SM : Ob} {F : Nat}
theorem x_both0 (h : Flt SM F) (rec : Int32 → Ob → Option Ob) (x : Int32) (hr : rec x SM = some SM) : f12_both0 rec x SM = some SM := by
  unfold f12_both0
  rw [hr, bd_s]
  show f12_both0_5 rec (4999 + 1) x SM = _
  rw [f12_both0_5, x_hasWord h, bd_s, if_pos (show (0 : Int32) = 0 from rfl)]
theorem x_either (h : Flt SM F) : f12_either (f12_item DP) 0 SM = some SM := by
  have hi : f12_item DP 0 SM = some SM := by
    show f12_item_b (f12_item 11) 0 SM = _
    unfold f12_item_b
    rw [if_neg (flt_nle h)]
  unfold f12_either
  rw [x_both0 h _ _ hi, bd_s]
  show f12_either_5 (f12_item DP) (4999 + 1) 0 SM = _
  rw [f12_either_5, x_hasWord h, bd_s, if_pos (show (0 : Int32) = 0 from rfl)]
theorem x_all (h : Flt SM F) : f12_all (f12_takePart DP) 0 SM = some SM := by
  have hi : f12_takePart DP 0 SM = some SM := by
    show f12_takePart_b (f12_takePart 11) 0 SM = _
    unfold f12_takePart_b
    rw [if_neg (flt_nle h)]
  have hp : f12_products (f12_takePart DP) 0 SM = some SM := by
    unfold f12_products
    rw [hi, bd_s]
    show f12_products_5 (f12_takePart DP) (4999 + 1) 0 SM = _
    rw [f12_products_5, x_hasSign h, bd_s, if_pos (show (0 : Int32) = 0 from rfl)]
  have hs : f12_sums (f12_takePart DP) 0 SM = some SM := by
    unfold f12_sums
    rw [hp, bd_s]
    show f12_sums_5 (f12_takePart DP) (4999 + 1) 0 SM = _
    rw [f12_sums_5, x_isSign h, bd_s, if_pos (show (0 : Int32) = 0 from rfl), x_isSign h, bd_s, if_pos (show (0 : Int32) = 0 from rfl)]
  have ht : f12_test (f12_takePart DP) 0 SM = some SM := by
    unfold f12_test f12_test_51
    rw [hs, bd_s, x_isSign h, bd_s, x_hasSign h, bd_s, if_pos (show (0 : Int32) = 0 from rfl), x_hasSign h, bd_s, if_pos (show (0 : Int32) = 0 from rfl)]
  unfold f12_all
  rw [ht, bd_s]
  show f12_all_5 (f12_takePart DP) (4999 + 1) 0 SM = _
  rw [f12_all_5, x_isWord h, bd_s, if_pos (show (0 : Int32) = 0 from rfl), x_isWord h, bd_s, if_pos (show (0 : Int32) = 0 from rfl)]
theorem x_told (h : Flt SM F) (a b : Int32) : f12_toldHere a b SM = some (0, SM) := by
  unfold f12_toldHere f12_toldHere_19 f12_toldHere_36 f12_toldHere_60 f12_toldHere_72
  rw [if_neg (flt_ne h), if_neg (flt_nle h), if_neg (flt_ne h), if_neg (flt_nle h)]
theorem x_takeTold (h : Flt SM F) (a b : Int32) : f12_takeTold a b SM = some (0, SM) := by
  unfold f12_takeTold f12_takeTold_24
  rw [x_told h, bd_s, lt_e, if_neg (flt_nle h), lt_e]
  rw [Int32.add_zero, oI_self]
theorem x_takeOne (h : Flt SM F) (a b : Int32) : f12_takeOne a b SM = some (0, SM) := by
  have e : oI SM 7 (SM.1 7 + 0) = SM := by rw [Int32.add_zero, oI_self]
  unfold f12_takeOne f12_takeOne_17 f12_takeOne_34 f12_takeOne_51 f12_takeOne_67
  rw [if_neg (flt_nle h), if_neg (flt_ne h), if_neg (flt_nle h), lt_e, e, if_neg (flt_nle h)]
end
section
variable {C : Nat → Nat} {t N i n g : Nat} {SG ST SM SI : Ob}
theorem c_named (hsy : Syn C t N SG ST SM i) (x : Int32) : f3_named x SG ST = some (if 29 ≤ kdT C t i ∧ kdT C t i ≤ 32 then (if x = -1 then (-1, oI SG 3 (nI (2 + 16 * PP C t i))) else (x, SG)) else (-1, oI SG 3 (nI (1 + 16 * PP C t i)))) := by
  have hm := (syn_kd hsy).2
  have e1 : f3_fail 1 SG ST = _ := c_fail hsy 1
  have e2 : f3_fail 2 SG ST = _ := c_fail hsy 2
  have hn : f10_isName ST = some (if 29 ≤ kdT C t i ∧ kdT C t i ≤ 32 then 1 else 0) := c_isName hsy.2.1 hm
  unfold f3_named f3_named_29
  rw [hn, bd_s, e1, bd_s, e2, bd_s]
  by_cases c1 : 29 ≤ kdT C t i ∧ kdT C t i ≤ 32
  · rw [if_pos c1, if_pos c1, if_neg (show ¬ (1 : Int32) = 0 by decide)]
    by_cases c2 : x = -1
    · rw [if_pos c2, if_pos c2, c2]
    · rw [if_neg c2, if_neg c2]
  · rw [if_neg c1, if_neg c1, if_pos (show (0 : Int32) = 0 from rfl)]
def CtxN (SI : Ob) (n g : Nat) (SM : Ob) : Prop := n ≤ 8 ∧ g ≤ 6 ∧ SI.1 0 = nI n ∧ SI.1 8 = nI g ∧ NmS SI SM n g
theorem ctxN_of (h : CtxF SI n g SM) : CtxN SI n g SM := ⟨h.1, h.2.1, h.2.2.1, h.2.2.2.1, h.2.2.2.2.2⟩
/-- a guest, or a fault -/
theorem told_g (hsy : Syn C t N SG ST SM i) (hcx : CtxN SI n g SM) : (∃ j, j < n ∧ i < N ∧ f3_namedGuest SG ST SI = some (nI j, SG) ∧ f12_toldHere 0 8 SM = some (nI j, SM)) ∨ (∃ F, 0 < F ∧ F < 2 ^ 20 ∧ f3_namedGuest SG ST SI = some (-1, oI SG 3 (nI F)) ∧ f12_toldHere 0 8 SM = some (0, oI SM 8 (nI F))) := by
  obtain ⟨y1, y2, y3, y4, y5, y6, y7⟩ := id hsy
  obtain ⟨c1, c2, c3, c4, c6⟩ := id hcx
  have hp := PP_le C t i
  have ht := y7.1
  obtain ⟨a, ha⟩ := gn_some c3 c1 (ST.2.1 6)
  unfold f3_namedGuest
  rw [ha, bd_s, c_named hsy]
  by_cases k1 : 29 ≤ kdT C t i ∧ kdT C t i ≤ 32
  · obtain ⟨v, a', b', f1, f2, f3, f4⟩ := find_at hsy c6 k1.2
    have ea : a' = a := Option.some.inj (f2.symm.trans ha)
    subst ea
    have hiN : i < N := kd_lt y7 y6 (by omega)
    have bad : f12_within v 0 7 = some 0 → a' = -1 → (∃ F, 0 < F ∧ F < 2 ^ 20 ∧ (bd (some (if 29 ≤ kdT C t i ∧ kdT C t i ≤ 32 then (if a' = -1 then ((-1 : Int32), oI SG 3 (nI (2 + 16 * PP C t i))) else (a', SG)) else (-1, oI SG 3 (nI (1 + 16 * PP C t i))))) fun r_3 => some (r_3.1, r_3.2)) = some (-1, oI SG 3 (nI F)) ∧ f12_toldHere 0 8 SM = some (0, oI SM 8 (nI F))) := by
      intro w1 w2
      refine ⟨2 + 16 * PP C t i, by omega, by omega, ?_, ?_⟩
      · rw [if_pos k1, if_pos w2, bd_s]
      · have w3 : f12_wrong 2 SM = _ := r_wrong y7 y4 y6 y5 2
        have hf : Flt (oI SM 8 (nI (2 + 16 * PP C t i))) (2 + 16 * PP C t i) := ⟨rfl, by omega, by omega⟩
        unfold f12_toldHere
        rw [if_pos y5, r_isName y7 y4 y6 y5, bd_s, if_pos k1, if_neg (show ¬ (1 : Int32) = 0 by decide)]
        unfold f12_toldHere_19
        rw [if_pos (show SM.1 8 ≤ 0 by rw [y5]; decide), f1, bd_s]
        unfold f12_toldHere_36
        rw [if_pos y5, Int32.sub_zero, show (8 : Int32) - 1 = 7 from rfl, w1, bd_s, if_pos (show (0 : Int32) = 0 from rfl), w3, bd_s]
        unfold f12_toldHere_60 f12_toldHere_72
        rw [if_neg (flt_nle hf)]
    rcases f4 with ⟨j, hj, rfl, rfl, rfl⟩ | ⟨j, hj, rfl, rfl, rfl⟩ | ⟨hv, rfl, rfl⟩
    · left
      refine ⟨j, hj, hiN, ?_, ?_⟩
      · rw [if_pos k1, if_neg (nI_nm1 (by omega)), bd_s]
      · unfold f12_toldHere
        rw [if_pos y5, r_isName y7 y4 y6 y5, bd_s, if_pos k1, if_neg (show ¬ (1 : Int32) = 0 by decide)]
        unfold f12_toldHere_19
        rw [if_pos (show SM.1 8 ≤ 0 by rw [y5]; decide), f1, bd_s]
        unfold f12_toldHere_36
        have w : f12_within (nI j) 0 7 = some 1 := s12_within_yes (n := 8) (by omega) (by omega)
        rw [if_pos y5, Int32.sub_zero, show (8 : Int32) - 1 = 7 from rfl, w, bd_s, if_neg (show ¬ (1 : Int32) = 0 by decide)]
        unfold f12_toldHere_60 f12_toldHere_72
        rw [if_pos (show SM.1 8 ≤ 0 by rw [y5]; decide)]
    · right
      exact bad (s12_withinL_no (Or.inr (nI_lt (a := 7) (by omega) (by omega)))) rfl
    · right
      refine bad ?_ rfl
      rcases hv with rfl | rfl
      · exact s12_withinL_no (Or.inl (by decide))
      · exact s12_withinL_no (Or.inr (nI_lt (a := 7) (by omega) (by omega)))
  · right
    have w3 : f12_wrong 1 SM = _ := r_wrong y7 y4 y6 y5 1
    have hf : Flt (oI SM 8 (nI (1 + 16 * PP C t i))) (1 + 16 * PP C t i) := ⟨rfl, by omega, by omega⟩
    refine ⟨1 + 16 * PP C t i, by omega, by omega, ?_, ?_⟩
    · rw [if_neg k1, bd_s]
    · unfold f12_toldHere
      rw [if_pos y5, r_isName y7 y4 y6 y5, bd_s, if_neg k1, if_pos (show (0 : Int32) = 0 from rfl), w3, bd_s]
      unfold f12_toldHere_19
      rw [if_neg (flt_nle hf)]
      unfold f12_toldHere_36
      rw [if_neg (flt_ne hf)]
      unfold f12_toldHere_60 f12_toldHere_72
      rw [if_neg (flt_nle hf)]
/-- a sign, or a fault -/
theorem told_s (hsy : Syn C t N SG ST SM i) (hcx : CtxN SI n g SM) (hst : ∀ v, f12_find SM = some v → v ≠ nI (20 + g)) : (∃ j, j < g ∧ i < N ∧ f3_namedSign SG ST SI = some (nI j, SG) ∧ f12_toldHere 20 6 SM = some (nI j, SM)) ∨ (∃ F, 0 < F ∧ F < 2 ^ 20 ∧ f3_namedSign SG ST SI = some (-1, oI SG 3 (nI F)) ∧ f12_toldHere 20 6 SM = some (0, oI SM 8 (nI F))) := by
  obtain ⟨y1, y2, y3, y4, y5, y6, y7⟩ := id hsy
  obtain ⟨c1, c2, c3, c4, c6⟩ := id hcx
  have hp := PP_le C t i
  have ht := y7.1
  obtain ⟨a, ha⟩ := sn_some c4 c2 (ST.2.1 6)
  unfold f3_namedSign
  rw [ha, bd_s, c_named hsy]
  by_cases k1 : 29 ≤ kdT C t i ∧ kdT C t i ≤ 32
  · obtain ⟨v, a', b', f1, f2, f3, f4⟩ := find_at hsy c6 k1.2
    have ea : b' = a := Option.some.inj (f3.symm.trans ha)
    subst ea
    have hiN : i < N := kd_lt y7 y6 (by omega)
    have bad : f12_within (v - 20) 0 5 = some 0 → b' = -1 → (∃ F, 0 < F ∧ F < 2 ^ 20 ∧ (bd (some (if 29 ≤ kdT C t i ∧ kdT C t i ≤ 32 then (if b' = -1 then ((-1 : Int32), oI SG 3 (nI (2 + 16 * PP C t i))) else (b', SG)) else (-1, oI SG 3 (nI (1 + 16 * PP C t i))))) fun r_3 => some (r_3.1, r_3.2)) = some (-1, oI SG 3 (nI F)) ∧ f12_toldHere 20 6 SM = some (0, oI SM 8 (nI F))) := by
      intro w1 w2
      refine ⟨2 + 16 * PP C t i, by omega, by omega, ?_, ?_⟩
      · rw [if_pos k1, if_pos w2, bd_s]
      · have w3 : f12_wrong 2 SM = _ := r_wrong y7 y4 y6 y5 2
        have hf : Flt (oI SM 8 (nI (2 + 16 * PP C t i))) (2 + 16 * PP C t i) := ⟨rfl, by omega, by omega⟩
        unfold f12_toldHere
        rw [if_pos y5, r_isName y7 y4 y6 y5, bd_s, if_pos k1, if_neg (show ¬ (1 : Int32) = 0 by decide)]
        unfold f12_toldHere_19
        rw [if_pos (show SM.1 8 ≤ 0 by rw [y5]; decide), f1, bd_s]
        unfold f12_toldHere_36
        rw [if_pos y5, show (6 : Int32) - 1 = 5 from rfl, w1, bd_s, if_pos (show (0 : Int32) = 0 from rfl), w3, bd_s]
        unfold f12_toldHere_60 f12_toldHere_72
        rw [if_neg (flt_nle hf)]
    have lowv : ∀ j, j < 8 → f12_within (nI j - 20) 0 5 = some 0 := by decide +kernel
    rcases f4 with ⟨j, hj, rfl, rfl, rfl⟩ | ⟨j, hj, rfl, rfl, rfl⟩ | ⟨hv, rfl, rfl⟩
    · right
      exact bad (lowv j (by omega)) rfl
    · left
      have es : ∀ j, j < 6 → nI (20 + j) - 20 = nI j := by decide +kernel
      refine ⟨j, hj, hiN, ?_, ?_⟩
      · rw [if_pos k1, if_neg (nI_nm1 (by omega)), bd_s]
      · unfold f12_toldHere
        rw [if_pos y5, r_isName y7 y4 y6 y5, bd_s, if_pos k1, if_neg (show ¬ (1 : Int32) = 0 by decide)]
        unfold f12_toldHere_19
        rw [if_pos (show SM.1 8 ≤ 0 by rw [y5]; decide), f1, bd_s]
        unfold f12_toldHere_36
        have w : f12_within (nI j) 0 5 = some 1 := s12_within_yes (n := 6) (by omega) (by omega)
        rw [if_pos y5, es j (by omega), show (6 : Int32) - 1 = 5 from rfl, w, bd_s, if_neg (show ¬ (1 : Int32) = 0 by decide)]
        unfold f12_toldHere_60 f12_toldHere_72
        rw [if_pos (show SM.1 8 ≤ 0 by rw [y5]; decide)]
    · right
      refine bad ?_ rfl
      rcases hv with rfl | rfl
      · decide
      · exact absurd rfl (hst _ f1)
  · right
    have w3 : f12_wrong 1 SM = _ := r_wrong y7 y4 y6 y5 1
    have hf : Flt (oI SM 8 (nI (1 + 16 * PP C t i))) (1 + 16 * PP C t i) := ⟨rfl, by omega, by omega⟩
    refine ⟨1 + 16 * PP C t i, by omega, by omega, ?_, ?_⟩
    · rw [if_neg k1, bd_s]
    · unfold f12_toldHere
      rw [if_pos y5, r_isName y7 y4 y6 y5, bd_s, if_neg k1, if_pos (show (0 : Int32) = 0 from rfl), w3, bd_s]
      unfold f12_toldHere_19
      rw [if_neg (flt_nle hf)]
      unfold f12_toldHere_36
      rw [if_neg (flt_ne hf)]
      unfold f12_toldHere_60 f12_toldHere_72
      rw [if_neg (flt_nle hf)]
theorem r_takeTold {x y : Int32} (hsy : Syn C t N SG ST SM i) {j : Nat} (h : f12_toldHere x y SM = some (nI j, SM)) : f12_takeTold x y SM = some (nI j, oI SM 7 (nI (i + 1))) := by
  obtain ⟨y1, y2, y3, y4, y5, y6, y7⟩ := id hsy
  unfold f12_takeTold f12_takeTold_24
  rw [h, bd_s, lt_e, if_pos (show SM.1 8 ≤ 0 by rw [y5]; decide), lt_e, y4, nI_1]
theorem r_takeToldF {x y : Int32} {F : Nat} (hF : 0 < F) (hF2 : F < 2 ^ 20) (h : f12_toldHere x y SM = some (0, oI SM 8 (nI F))) : f12_takeTold x y SM = some (0, oI SM 8 (nI F)) := by
  have hf : Flt (oI SM 8 (nI F)) F := ⟨rfl, hF, hF2⟩
  unfold f12_takeTold f12_takeTold_24
  rw [h, bd_s, lt_e, if_neg (flt_nle hf), lt_e]
  show some ((0 : Int32), oI (oI SM 8 (nI F)) 7 ((oI SM 8 (nI F)).1 7 + 0)) = _
  rw [Int32.add_zero, oI_self]
end
theorem find_strict {SI SM : Ob} {many : Int32} {l : Nat → Int64} {r : Nat → Int32} {n g i : Nat} (h8 : n ≤ 8) (h6 : g ≤ 6) (ht : TbR SM l r (n + g)) (h7 : SM.1 7 = nI i) (hi : i < 1002) (h : NmR SI many l r n g) : ∀ v, f12_find SM = some v → v ≠ nI (20 + g) := by
  obtain ⟨-, ws, id, h1, h2, h3, h4⟩ := h
  intro v hv
  have inj : ∀ a b, a < n + g → b < n + g → l a = l b → a = b := by
    intro a b ha hb e
    obtain ⟨⟨o1, o2, o3⟩, e2, -⟩ := h1 a ha
    obtain ⟨⟨o1', o2', o3'⟩, e2', -⟩ := h1 b hb
    rw [e2, e2', lN_inj (codM_lt o3 o2) (codM_lt o3' o2')] at e
    exact h2 a b ha hb (codM_inj o3 o3' e)
  by_cases hex : ∃ k, k < n + g ∧ l k = SM.2.2.2 6 i
  · obtain ⟨k, hk, e⟩ := hex
    rw [(find_steps ht (by omega) h7 hi).1 k hk e (fun m hm em => inj m k hm hk (em.trans e.symm))] at hv
    obtain ⟨-, -, e3, e4, -⟩ := h1 k hk
    rw [← Option.some.inj hv, e3]
    intro e'
    have := (nI_eq (by omega) (by omega)).mp e'
    omega
  · rw [(find_steps ht (by omega) h7 hi).2 (fun k hk e => hex ⟨k, hk, e⟩)] at hv
    rw [← Option.some.inj hv]
    exact fun e => nI_nm1 (by omega) e.symm
