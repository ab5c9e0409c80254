/-! pure: items of both -/
theorem lv_one {n g : Nat} {x : Nat × Nat} (h : x.1 ≤ 12 ∧ (n ≤ 8 → x.1 ≤ 5) ∧ (8 < n → 3 ≤ x.1) ∧ (x.1 = 0 → x.2 < 8) ∧ (x.1 = 1 → x.2 < n) ∧ (x.1 = 2 → x.2 < g) ∧ (x.1 = 11 → x.2 ≤ 9999) ∧ (x.1 = 12 → x.2 < 3)) : LvA n g [x] := fun y hy => by
  have : y = x := by simpa using hy
  rw [this]; exact h
theorem nI_dec {n : Nat} (h : 1 ≤ n) (h2 : n < 2 ^ 30) : nI n - 1 = nI (n - 1) := by
  rw [← Int32.toInt_inj, nI_m1 n h2, nI_toInt (by omega)]; omega
theorem lv_mk {n g : Nat} (k j : Nat) (h : k ≤ 12) (h5 : n ≤ 8 → k ≤ 5) (h6 : 8 < n → 3 ≤ k) (h0 : k = 0 → j < 8) (h1 : k = 1 → j < n) (h2 : k = 2 → j < g) (h3 : k = 11 → j ≤ 9999) (h4 : k = 12 → j < 3) : LvA n g [(k, j)] := lv_one ⟨h, h5, h6, h0, h1, h2, h3, h4⟩
theorem item_step {C : Nat → Nat} {t N n g dp d e : Nat} {SI : Ob} (hde : d + e = 5) (hrec : ∀ e', e = e' + 1 → ∀ SG ST SC SM i s r, Syn C t N SG ST SM i → SC.1 3 = nI s → s ≤ i → SM.1 13 = nI r → r ≤ i → CtxF SI n g SM → OutP C t N n g (2 * e') SG ST SC SM i s r (f3_item dp (nI (d + 1)) SG ST SC SI) (f12_item dp (nI (d + 1)) SM)) (SG ST SC SM : Ob) (i s r : Nat) (hsy : Syn C t N SG ST SM i) (hs : SC.1 3 = nI s) (hsi : s ≤ i) (hr : SM.1 13 = nI r) (hri : r ≤ i) (hcx : CtxF SI n g SM) : OutP C t N n g (2 * e) SG ST SC SM i s r (f3_item (dp + 1) (nI d) SG ST SC SI) (f12_item (dp + 1) (nI d) SM) := by
  obtain ⟨y1, y2, y3, y4, y5, y6, y7⟩ := id hsy
  obtain ⟨c1, c2, c3, c4, c5, c6⟩ := id hcx
  have hN := y7.2.1
  have ht := y7.1
  obtain ⟨a, ha⟩ := gn_some c3 c1 (ST.2.1 6)
  obtain ⟨b, hb⟩ := sn_some c4 c2 (ST.2.1 6)
  show OutP C t N n g (2 * e) SG ST SC SM i s r (f3_item_b (f3_item dp) (nI d) SG ST SC SI) (f12_item_b (f12_item dp) (nI d) SM)
  rw [ci_b hsy _ ha hb, ri_b y7 y4 y6 y5]
  have hm := (syn_kd hsy).2
  have hcx1 : CtxF SI n g (oI SM 7 (nI (i + 1))) := CtxF_F _ _ hcx (FrF_I SM (Or.inl rfl) _)
  have e1 : ((if kdT C t i = 26 then 0 else 1 : Int32) = 0) = (kdT C t i = 26) := by
    by_cases h : kdT C t i = 26
    · rw [if_pos h]; simp [h]
    · rw [if_neg h]; simp [h]
  clear e1
  by_cases k1 : 29 ≤ kdT C t i ∧ kdT C t i ≤ 32
  · rw [if_pos k1, if_pos k1]
    obtain ⟨v, a', b', f1, f2, f3, f4⟩ := find_at hsy c6 k1.2
    have ea : a' = a := Option.some.inj (f2.symm.trans ha)
    have eb : b' = b := Option.some.inj (f3.symm.trans hb)
    subst ea eb
    have hiN : i < N := kd_lt y7 y6 (by omega)
    rw [f1, bd_s]
    have w7 : ∀ j, j < 8 → f12_within (nI j) 0 7 = some 1 := fun j hj => s12_within_yes (n := 8) hj (by omega)
    rcases f4 with ⟨j, hj, rfl, rfl, rfl⟩ | ⟨j, hj, rfl, rfl, rfl⟩ | ⟨hv, rfl, rfl⟩
    · rw [if_neg (show ¬ (nI j = -1 ∧ (-1 : Int32) = -1) from fun h => nI_nm1 (by omega) h.1)]
      unfold f12_item_66
      rw [if_neg (show ¬ (1 : Int32) = 0 by decide), w7 j (by omega), bd_s, if_neg (show ¬ (1 : Int32) = 0 by decide)]
      rcases Nat.lt_or_ge d 5 with hd | hd
      · rw [ci_leaf hsy hd (by omega) (by omega), ri_leaf y7 y4 y6 y5 hd (by omega) (by omega), if_neg (show ¬ (1 : Int32) = 0 by decide), if_neg (show ¬ (1 : Int32) = 0 by decide), if_neg (show ¬ nI j = -1 from nI_nm1 (by omega)), if_neg (show ¬ nI j = -1 from nI_nm1 (by omega)), if_pos (show (-1 : Int32) < 0 by decide), if_pos (show (-1 : Int32) < 0 by decide)]
        exact out_leaf (x := (1, j)) hsy hiN hs hsi hr hri (by omega) rfl (lv_mk 1 (j) (by omega) (by omega) (by omega) (by omega) (by omega) (by omega) (by omega) (by omega)) (fun _ => rfl)
      · have : d = 5 := by omega
        subst this
        rw [ci_5 hsy, ri_5 y7 y4 y6 y5]
        exact out_fail hsy hs hsi hr hri (by omega) (by omega)
    · rw [if_neg (show ¬ ((-1 : Int32) = -1 ∧ nI j = -1) from fun h => nI_nm1 (by omega) h.2)]
      unfold f12_item_66
      have w8 : f12_within (nI (20 + j)) 0 7 = some 0 := s12_withinL_no (Or.inr (nI_lt (a := 7) (by omega) (by omega)))
      have w9 : f12_within (nI (20 + j)) 20 (SM.1 21 - 1) = some 1 := by
        rw [c5, nI_dec (by omega) (by omega)]
        exact s12_withinL_yes (nI_nlt (b := 20) (by omega) (by omega)) (nI_nlt (by omega) (by omega))
      rw [if_neg (show ¬ (1 : Int32) = 0 by decide), w8, bd_s, if_pos (show (0 : Int32) = 0 from rfl), w9, bd_s, if_neg (show ¬ (1 : Int32) = 0 by decide)]
      rcases Nat.lt_or_ge d 5 with hd | hd
      · rw [ci_leaf hsy hd (by omega) (by omega), ri_leaf y7 y4 y6 y5 hd (by omega) (by omega), if_neg (show ¬ (1 : Int32) = 0 by decide), if_neg (show ¬ (1 : Int32) = 0 by decide), if_pos (show (-1 : Int32) = -1 from rfl), if_pos (show (-1 : Int32) = -1 from rfl), if_pos (show (-1 : Int32) < 0 by decide), if_pos (show (-1 : Int32) < 0 by decide)]
        exact out_leaf (x := (2, j)) hsy hiN hs hsi hr hri (by omega) rfl (lv_mk 2 (j) (by omega) (by omega) (by omega) (by omega) (by omega) (by omega) (by omega) (by omega)) (fun _ => rfl)
      · have : d = 5 := by omega
        subst this
        rw [ci_5 hsy, ri_5 y7 y4 y6 y5]
        exact out_fail hsy hs hsi hr hri (by omega) (by omega)
    · rw [if_pos ⟨rfl, rfl⟩]
      unfold f12_item_66
      have w8 : f12_within v 0 7 = some 0 := by
        rcases hv with rfl | rfl
        · exact s12_withinL_no (Or.inl (by decide))
        · exact s12_withinL_no (Or.inr (nI_lt (a := 7) (by omega) (by omega)))
      have w9 : f12_within v 20 (SM.1 21 - 1) = some 0 := by
        rcases hv with rfl | rfl
        · exact s12_withinL_no (Or.inl (by decide))
        · rw [c5, nI_dec (by omega) (by omega)]
          exact s12_withinL_no (Or.inr (nI_lt (by omega) (by omega)))
      have w2 : f12_wrong 2 SM = _ := r_wrong y7 y4 y6 y5 2
      have hp := PP_le C t i
      rw [if_neg (show ¬ (1 : Int32) = 0 by decide), w8, bd_s, if_pos (show (0 : Int32) = 0 from rfl), w9, bd_s, if_pos (show (0 : Int32) = 0 from rfl), w2, bd_s, ri_flt (F := 2 + 16 * PP C t i) ⟨rfl, by omega, by omega⟩]
      exact out_fail hsy hs hsi hr hri (by omega) (by omega)
  · rw [if_neg k1, if_neg k1]
    by_cases k2 : 18 ≤ kdT C t i ∧ kdT C t i < 26
    · have hiN : i < N := kd_lt y7 y6 (by omega)
      rw [if_pos k2, if_pos k2]
      rcases Nat.lt_or_ge d 5 with hd | hd
      · rw [ci_leaf hsy hd (by omega) (by omega), ri_leaf y7 y4 y6 y5 hd (by omega) (by omega), if_pos (show (0 : Int32) = 0 from rfl), if_pos (show (0 : Int32) = 0 from rfl), if_neg (nI_pos (by omega)), if_neg (nI_pos (by omega))]
        have ek : nI (kdT C t i) = nI (ckN (0, kdT C t i - 18)) := congrArg nI (by show kdT C t i = 18 + (kdT C t i - 18); omega)
        rw [ek]
        exact out_leaf (x := (0, kdT C t i - 18)) hsy hiN hs hsi hr hri (by omega) rfl (lv_mk 0 (kdT C t i - 18) (by omega) (by omega) (by omega) (by omega) (by omega) (by omega) (by omega) (by omega)) (fun _ => rfl)
      · have : d = 5 := by omega
        subst this
        rw [ci_5 hsy, ri_5 y7 y4 y6 y5]
        exact out_fail hsy hs hsi hr hri (by omega) (by omega)
    · rw [if_neg k2, if_neg k2]
      by_cases k3 : kdT C t i = 26 ∨ kdT C t i = 40
      · have hiN : i < N := kd_lt y7 y6 (by omega)
        rw [if_pos k3, if_pos k3]
        rcases Nat.lt_or_ge d 5 with hd | hd
        · obtain ⟨e', rfl⟩ : ∃ e', e = e' + 1 := ⟨e - 1, by omega⟩
          obtain ⟨ST1, e1, f1, sy1⟩ := syn_adv hsy hiN
          rcases k3 with k3 | k3
          · rw [ci_not hsy hd k3, ri_not y7 y4 y6 y5 hd k3, e1, bd_s]
            exact out_mono (by omega) (out_not y7 hri hsi f1 (hrec e' rfl SG ST1 SC _ (i + 1) s r sy1 hs (by omega) hr (by omega) hcx1))
          · rw [ci_par hsy hd k3, ri_par y7 y4 y6 y5 hd k3, e1, bd_s]
            exact out_par y7 hri hsi f1 (sim_form (hrec e' rfl) SG ST1 SC _ (i + 1) s r sy1 hs (by omega) hr (by omega) hcx1)
        · have : d = 5 := by omega
          subst this
          rw [ci_5 hsy, ri_5 y7 y4 y6 y5]
          exact out_fail hsy hs hsi hr hri (by omega) (by omega)
      · rw [if_neg k3, if_neg k3]
        exact out_fail hsy hs hsi hr hri (by omega) (by omega)
theorem sim_item {C : Nat → Nat} {t N n g : Nat} {SI : Ob} : ∀ e d dp, d + e = 5 → e < dp → ∀ SG ST SC SM i s r, Syn C t N SG ST SM i → SC.1 3 = nI s → s ≤ i → SM.1 13 = nI r → r ≤ i → CtxF SI n g SM → OutP C t N n g (2 * e) SG ST SC SM i s r (f3_item dp (nI d) SG ST SC SI) (f12_item dp (nI d) SM) := by
  intro e
  induction e with
  | zero =>
    intro d dp hde hdp
    obtain ⟨dp, rfl⟩ : ∃ k, dp = k + 1 := ⟨dp - 1, by omega⟩
    exact item_step hde (fun e' h => absurd h (by omega))
  | succ e ih =>
    intro d dp hde hdp
    obtain ⟨dp, rfl⟩ : ∃ k, dp = k + 1 := ⟨dp - 1, by omega⟩
    refine item_step hde (fun e' h => ?_)
    have : e' = e := by omega
    subst this
    exact ih (d + 1) dp (by omega) (by omega)
theorem sim_formula {C : Nat → Nat} {t N n g : Nat} {SI : Ob} (SG ST SC SM : Ob) (i s r : Nat) (hsy : Syn C t N SG ST SM i) (hs : SC.1 3 = nI s) (hsi : s ≤ i) (hr : SM.1 13 = nI r) (hri : r ≤ i) (hcx : CtxF SI n g SM) : OutP C t N n g 12 SG ST SC SM i s r (f3_formula (f3_item DP) 0 SG ST SC SI) (f12_either (f12_item DP) 0 SM) := sim_form (h := 10) (sim_item 5 0 DP (by omega) (by decide)) SG ST SC SM i s r hsy hs hsi hr hri hcx
