/-! pure: the line of a law of bills -/
theorem len_of {L : List (Nat × Nat)} {k : Nat} {x : Nat × Nat} (hx : L[k]? = some x) : k < L.length := by
  rcases Nat.lt_or_ge k L.length with h | h
  · exact h
  · rw [List.getElem?_eq_none h] at hx; exact absurd hx (by simp)
theorem cdat_keep {SC SC' : Ob} {a s : Nat} {L : List (Nat × Nat)} (h : CdAt SC a L) (ha : a + L.length ≤ s) (hk : ∀ k, k < s → SC'.2.2.1 0 k = SC.2.2.1 0 k ∧ SC'.2.2.1 1 k = SC.2.2.1 1 k) : CdAt SC' a L := fun k x hx => by
  have hl := len_of hx
  obtain ⟨e1, e2⟩ := hk (a + k) (by omega)
  rw [e1, e2]; exact h k x hx
theorem cdbt_keep {r11 r12 q11 q12 : Nat → Int32} {r0 r : Nat} {L : List (Nat × Nat)} (h : CdBt (fun x => r11 (2200 + x)) (fun x => r12 (2200 + x)) r0 L) (hr : r0 + L.length < r) (hk : ∀ k, k < 2200 + r → q11 k = r11 k ∧ q12 k = r12 k) : CdBt (fun x => q11 (2200 + x)) (fun x => q12 (2200 + x)) r0 L := by
  refine ⟨fun k x hx => ?_, ?_⟩
  · have hl := len_of hx
    obtain ⟨e1, e2⟩ := hk (2200 + (r0 + k)) (by omega)
    show q11 (2200 + (r0 + k)) = _ ∧ q12 (2200 + (r0 + k)) = _
    rw [e1, e2]; exact h.1 k x hx
  · show q11 (2200 + (r0 + L.length)) = 0
    rw [(hk (2200 + (r0 + L.length)) (by omega)).1]; exact h.2
theorem sgp_keep {SI SR SR' SC SC' : Ob} {r10 r11 r12 q10 q11 q12 : Nat → Int32} {n g s s' r r' : Nat} (h : SgP SI SR SC r10 r11 r12 n g s r) (hs : s ≤ s') (hr : r ≤ r') (hR : ∀ q, q < g → SR'.2.2.1 2 q = SR.2.2.1 2 q ∧ SR'.2.2.1 3 q = SR.2.2.1 3 q) (h10 : ∀ k, 61 ≤ k → k ≠ 62 → k < 103 + 2 * g → q10 k = r10 k) (hk : ∀ k, k < s → SC'.2.2.1 0 k = SC.2.2.1 0 k ∧ SC'.2.2.1 1 k = SC.2.2.1 1 k) (hk11 : ∀ k, k < 2200 + r → q11 k = r11 k ∧ q12 k = r12 k) : SgP SI SR' SC' q10 q11 q12 n g s' r' := by
  obtain ⟨s1, s2, s3, s4, s5⟩ := h
  refine ⟨s1, s2, by rw [h10 61 (by omega) (by omega) (by omega)]; exact s3, fun q hq => by rw [h10 _ (by omega) (by omega) (by omega)]; exact s4 q hq, fun q hq => ?_⟩
  obtain ⟨L, a, n0, r0, d1, d2, d3, d4, d5, d6, d7, d8, d9, d10⟩ := s5 q hq
  exact ⟨L, a, n0, r0, by rw [(hR q hq).1]; exact d1, by rw [(hR q hq).2]; exact d2, by rw [h10 _ (by omega) (by omega) (by omega)]; exact d3, cdat_keep d4 d5 hk, by omega, cdbt_keep d6 d7 hk11, by omega, d8, d9, d10⟩
theorem gup_keep {SI : Ob} {r10 q10 : Nat → Int32} {n g : Nat} (h : GuP SI r10 n g) (h60 : q10 60 = r10 60) (h10 : ∀ k, 63 ≤ k → k < 103 → q10 k = r10 k) : GuP SI q10 n g := by
  obtain ⟨g1, g2, g3, g4, g5, g6, g7, g8, g9⟩ := h
  refine ⟨g1, g2, by rw [h60]; exact g3, fun j hj => ?_, g5, g6, g7, g8, fun j hj hj8 => ?_⟩
  · rw [h10 _ (by omega) (by omega), h10 _ (by omega) (by omega), h10 _ (by omega) (by omega), h10 _ (by omega) (by omega), h10 _ (by omega) (by omega)]
    exact g4 j hj
  · rw [h10 _ (by omega) (by omega), h10 _ (by omega) (by omega)]
    exact g9 j hj hj8
theorem bill_line {C : Nat → Nat} {t N n g i s r : Nat} {S0 SR SG ST SC SI SM : Ob} (h : InP C t N n g S0 SR SG ST SC SI SM i s r) (hiN : i < N) (hk8 : kdT C t i = 8) : IOut C t N S0 SG ST i (bd (f9_billLine SR SG ST SC) fun r_14 => ck (isz r_14.1) (some (r_14.1, r_14.2.1, r_14.2.2.1, r_14.2.2.2.1, r_14.2.2.2.2, SI))) (bd (f12_readBill SM) fun a => f12_takeSign 59 a) := by
  obtain ⟨hsy, hF, hs, hsi, hr, hri, h20, h19, hNm, hGu, hSg, hBl⟩ := h
  obtain ⟨y1, y2, y3, y4, y5, y6, y7⟩ := id hsy
  have hp := PP_le C t i
  have ht := y7.1
  have hNt := y7.2.1
  have hw8 : f12_isWord 8 SM = _ := r_isWord y7 y4 y6 y5 (k := 8) (by omega)
  unfold f9_billLine f12_readBill
  rw [hw8, bd_s, if_neg (fun e => one0.mp e hk8), show inb 62 120 = true from rfl, ck_t, show Int32.toNatClampNeg 62 = 62 from rfl]
  rcases hBl with ⟨b1, b2⟩ | ⟨b1, L0, a0, r0, b2, b3, b4, b5⟩
  · obtain ⟨ST1, a1, f1, sy1⟩ := syn_adv hsy hiN
    rw [if_pos b1, if_pos b2, lt_e, a1, bd_s, lt_e]
    unfold f12_readBill_32
    obtain ⟨SB, hSB⟩ : ∃ S, S = oA (oI SM 7 (nI (i + 1))) 10 62 (nI r) := ⟨_, rfl⟩
    have eB : oA (oI SM 7 (nI i + 1)) 10 62 ((oI SM 7 (nI i + 1)).1 13) = SB := by
      rw [hSB, nI_1]
      show oA _ 10 62 (SM.1 13) = _
      rw [hr]
    rw [if_pos y5, y4, lt_e, show inb 62 120 = true from rfl, ck_t, lt_e, show Int32.toNatClampNeg 62 = 62 from rfl, eB]
    have frB' : FrI (oI SM 7 (nI (i + 1))) SB := by rw [hSB]; exact FrI_10 _ (by omega) _
    have frB : FrI SM SB := FrI_tr (FrI_I SM (by omega) _) frB'
    have syB : Syn C t N SG ST1 SB (i + 1) := syn_I sy1 frB' (by rw [hSB]; rfl) (by rw [hSB]; rfl)
    have rB : SB.1 13 = nI r := by rw [hSB]; exact hr
    have q10 : SB.2.2.1 10 = upd (SM.2.2.1 10) 62 (nI r) := by rw [hSB]; rfl
    have q11 : SB.2.2.1 11 = SM.2.2.1 11 ∧ SB.2.2.1 12 = SM.2.2.1 12 ∧ SB.2.2.1 17 = SM.2.2.1 17 ∧ SB.2.2.2 = SM.2.2.2 ∧ SB.1 19 = SM.1 19 := by rw [hSB]; exact ⟨rfl, rfl, rfl, rfl, rfl⟩
    have hst : (oI (oI SR 6 1) 4 (SC.1 3)) = oI (oI SR 6 1) 4 (nI s) := by rw [hs]
    rw [hst]
    rcases sim_expr SG ST1 SC SB (i + 1) s r syB hs (by omega) rB (by omega) with ⟨ST3, SC3, SM3, i3, L, q1, q2, q3, q4, q5, q6, q7, q8, q9, q20, q21⟩ | ⟨SG3, ST3, SC3, SM3, i3, r3, s3, F, q1, q2, q3, q4, q5, q6, q7, q8, q9, q20, q21⟩
    · have hi3 : i3 ≤ N := q3.2.2.2.2.2.1
      obtain ⟨SM4, w1, w2, w3, w4, w5, w6, w7, w8⟩ := r_emit q7.1 (by omega) 0 0
      have sy4 : Syn C t N SG ST3 SM4 i3 := syn_F (i' := i3) q3 w2 w3 w4
      have fF : FrF SB SM4 := FrF_tr q8 w2
      have fr4 : FrI SM SM4 := FrI_tr frB (FrI_F fF)
      obtain ⟨z1, z2, z3, z4, z5, z6, z7⟩ := id sy4
      have ws : f12_takeSign 59 SM4 = _ := r_takeSign z7 z4 z6 z5 (k := 59) (by omega) (by omega)
      have hp8 := PP_le C t i3
      rw [q2, bd_s, w1, bd_s, q1, bd_s]
      show IOut C t N S0 SG ST i (bd (if (1 : Int32) = 0 then some (0, oI (oI SR 6 1) 4 (nI s), SG, ST3, SC3) else lt (oI (oI (oI SR 6 1) 4 (nI s)) 5 (SC3.1 3)) fun SR_10 => bd (f3_take 59 SG ST3) fun r_11 => ck (isz r_11.1) (some (r_11.1, SR_10, r_11.2.1, r_11.2.2, SC3))) fun r_14 => ck (isz r_14.1) (some (r_14.1, r_14.2.1, r_14.2.2.1, r_14.2.2.2.1, r_14.2.2.2.2, SI))) (f12_takeSign 59 SM4)
      rw [if_neg (show ¬ (1 : Int32) = 0 by decide), lt_e, q6.1]
      rcases c_take sy4 (k := 59) (by omega) (by omega) with ⟨hc, ST9, e, f9, hi9, sy9⟩ | ⟨hc, e⟩
      · have e' : f3_take 59 SG ST3 = _ := e
        have e10 : SM4.2.2.1 10 = upd (SM.2.2.1 10) 62 (nI r) := (fF.2.2.1 10 (by omega) (by omega)).trans q10
        have k11 : ∀ k, k < 2200 + r → SM4.2.2.1 11 k = SM.2.2.1 11 k ∧ SM4.2.2.1 12 k = SM.2.2.1 12 k := fun k hk => by
          obtain ⟨o1, o2⟩ := w6 k (by omega)
          obtain ⟨o3, o4⟩ := q7.2.1 k hk
          rw [q11.1] at o3
          rw [q11.2.1] at o4
          exact ⟨o1.trans o3, o2.trans o4⟩
        left
        refine ⟨oI (oI (oI SR 6 1) 4 (nI s)) 5 (nI (s + L.length)), ST9, SC3, SI, oI SM4 7 (nI (i3 + 1)), i3 + 1, n, g, s + L.length, r + L.length + 1, ?_, ?_, FrA_tr f1 (FrA_tr q4 f9), by omega, sy9, FrI_tr hF (FrI_tr fr4 (FrI_I SM4 (by omega) _)), q6.1, by omega, w5, by omega, ?_, ?_, ?_, ?_, ?_, ?_⟩
        · rw [e', bd_s]; rfl
        · rw [ws, if_pos hc]
        · show SM4.1 20 = 1
          rw [fr4.1 20 (by omega) (by omega) (by omega) (by omega) (by omega)]; exact h20
        · show SM4.1 19 = _
          rw [fF.1 19 (by omega) (by omega) (by omega), q11.2.2.2.2]; exact h19
        · show NmR SI (SM4.1 19) (SM4.2.2.2 15) (SM4.2.2.1 17) n g
          rw [fF.1 19 (by omega) (by omega) (by omega), q11.2.2.2.2, fF.2.2.2.1, q11.2.2.2.1, fF.2.2.1 17 (by omega) (by omega), q11.2.2.1]; exact hNm
        · show GuP SI (SM4.2.2.1 10) n g
          rw [e10]
          exact gup_keep hGu (pk_un (by omega)) (fun k h1 h2 => pk_un (by omega))
        · show SgP SI _ SC3 (SM4.2.2.1 10) (SM4.2.2.1 11) (SM4.2.2.1 12) n g _ _
          rw [e10]
          exact sgp_keep hSg (by omega) (by omega) (fun q _ => ⟨rfl, rfl⟩) (fun k h1 h2 h3 => pk_un (by omega)) q6.2.1 k11
        · show BlP _ SC3 (SM4.2.2.1 10) (SM4.2.2.1 11) (SM4.2.2.1 12) _ _
          rw [e10]
          refine Or.inr ⟨rfl, L, s, r, rfl, rfl, pk_us, q6.2.2, Nat.le_refl _, ⟨fun k x hx => ?_, ?_⟩, by omega, q20, q21⟩
          · have hl := len_of hx
            obtain ⟨o1, o2⟩ := w6 (2200 + (r + k)) (by omega)
            obtain ⟨o3, o4⟩ := q7.2.2 k x hx
            rw [Nat.add_assoc] at o3 o4
            exact ⟨o1.trans o3, o2.trans o4⟩
          · exact w7
      · have e' : f3_take 59 SG ST3 = _ := e
        right
        refine ⟨oI (oI (oI SR 6 1) 4 (nI s)) 5 (nI (s + L.length)), oI SG 3 (nI (1 + 16 * PP C t i3)), ST3, SC3, SI, oI SM4 8 (nI (1 + 16 * PP C t i3)), 1 + 16 * PP C t i3, ?_, ?_, FrA_tr f1 q4, rfl, ⟨rfl, by omega, by omega⟩, FrI_tr hF (FrI_tr fr4 (FrI_I SM4 (by omega) _))⟩
        · rw [e', bd_s]; rfl
        · rw [ws, if_neg hc]
    · obtain ⟨SM4, w1, w2, w3, w4, w5, w6, w7, w8⟩ := r_emit q9 (by omega) 0 0
      have hfl : Flt SM4 F := ⟨w4.trans q5.1, q5.2⟩
      rw [q2, bd_s, w1, bd_s, q1, bd_s]
      right
      refine ⟨oI (oI SR 6 1) 4 (nI s), SG3, ST3, SC3, SI, SM4, F, ?_, ?_, FrA_tr f1 q3, q4, hfl, FrI_tr hF (FrI_tr frB (FrI_F (FrF_tr q8 w2)))⟩
      · rfl
      · show f12_takeSign 59 SM4 = _
        rw [x_takeSign hfl]
  · have e3 : f3_fail 3 SG ST = _ := c_fail hsy 3
    have w3 : f12_wrong 3 SM = _ := r_wrong y7 y4 y6 y5 3
    have hfl : Flt (oI SM 8 (nI (3 + 16 * PP C t i))) (3 + 16 * PP C t i) := ⟨rfl, by omega, by omega⟩
    have hnn : ¬ SM.2.2.1 10 62 < 0 := by rw [b4]; exact nI_pos (by have := b5.2.2.2.1; omega)
    rw [if_neg (show ¬ SR.1 6 = 0 by rw [b1]; decide), if_neg hnn, e3, bd_s, w3, bd_s]
    unfold f12_readBill_32 f12_readBill_71
    rw [if_neg (flt_ne hfl), bd_s, x_takeSign hfl]
    exact Or.inr ⟨SR, oI SG 3 (nI (3 + 16 * PP C t i)), ST, SC, SI, _, 3 + 16 * PP C t i, rfl, rfl, ⟨fun _ _ _ _ _ => rfl, rfl⟩, rfl, hfl, FrI_tr hF (FrI_I SM (by omega) _)⟩
