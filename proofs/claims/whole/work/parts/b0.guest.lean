/-! pure: a guest's line at both -/
abbrev wrapG (SR SC : Ob) (x : Option (Int32 × Ob × Ob × Ob)) : Option (Int32 × Ob × Ob × Ob × Ob × Ob) := bd x fun r_2 => ck (isz r_2.1) (some (r_2.1, SR, r_2.2.1, r_2.2.2.1, SC, r_2.2.2.2))
theorem io_bad {C : Nat → Nat} {t N i : Nat} {S0 SG ST SR SC SI SM SG' ST' : Ob} {F : Nat} {x : Option (Int32 × Ob × Ob × Ob)} {rm : Option Ob} (hx : x = some (0, SG', ST', SI)) (hfa : FrA ST ST') (hG : SG'.1 3 = nI F) (hm : ∃ S', rm = some S' ∧ Flt S' F ∧ FrI SM S') (hF : FrI S0 SM) : IOut C t N S0 SG ST i (wrapG SR SC x) (bd rm fun a => f12_takeSign 59 a) := by
  obtain ⟨S', e1, e2, e3⟩ := hm
  refine Or.inr ⟨SR, SG', ST', SC, SI, S', F, ?_, ?_, hfa, hG, e2, FrI_tr hF e3⟩
  · rw [hx]; rfl
  · rw [e1, bd_s, x_takeSign e2]
theorem guest_line {C : Nat → Nat} {t N n g i s r : Nat} {S0 SR SG ST SC SI SM : Ob} (h : InP C t N n g S0 SR SG ST SC SI SM i s r) (hiN : i < N) : IOut C t N S0 SG ST i (wrapG SR SC (f9_guestLine SR SG ST SI)) (bd (f12_readGuest SM) fun a => f12_takeSign 59 a) := by
  obtain ⟨hsy, hF, hs, hsi, hr, hri, h20, h19, hNm, hGu, hSg, hBl⟩ := h
  obtain ⟨g1, g2, g3, g4, g5, g6, g7, g8, g9⟩ := hGu
  obtain ⟨s1, s2, s3, s4, s5⟩ := hSg
  obtain ⟨y1, y2, y3, y4, y5, y6, y7⟩ := id hsy
  have hp := PP_le C t i
  have ht := y7.1
  have hNt := y7.2.1
  unfold f9_guestLine
  rw [g2]
  by_cases c0 : n = 8
  · have e5 : f3_fail 5 SG ST = _ := c_fail hsy 5
    have w5 : f12_wrong 5 SM = _ := r_wrong y7 y4 y6 y5 5
    rw [if_neg (show ¬ nI n < 8 by rw [c0]; decide), e5, bd_s]
    refine io_bad (F := 5 + 16 * PP C t i) (SM := SM) rfl ⟨fun _ _ _ _ _ => rfl, rfl⟩ rfl ⟨oI SM 8 (nI (5 + 16 * PP C t i)), ?_, ⟨rfl, by omega, by omega⟩, FrI_I SM (by omega) _⟩ hF
    unfold f12_readGuest
    have e60 : SM.2.2.1 10 (Int32.toNatClampNeg 60) = nI n := g3
    rw [show inb 60 120 = true from rfl, ck_t, lt_e, e60, if_pos (show nI n = 8 by rw [c0]; rfl), w5, bd_s]
  · have hn8 : n < 8 := by omega
    obtain ⟨ST1, a1, f1, sy1⟩ := syn_adv hsy hiN
    rw [if_pos (show nI n < 8 from nI_lt (b := 8) hn8 (by omega)), a1, bd_s, lt_e, r_guest g3 hn8]
    have hp7 : oI SM 7 (SM.1 7 + 1) = oI SM 7 (nI (i + 1)) := by rw [y4, nI_1]
    rcases name_both (SI := SI) (many := SM.1 19) sy1 g1 s1 g2 s2 h20 h19 (by omega) hNm SR (nI n) SM hp7 with ⟨w, ST2, n1, n2, n3, n4, n5, n6, n7⟩ | ⟨F, n1, n2, n3, n4⟩
    · obtain ⟨SM2, hSM2⟩ : ∃ S, S = oI (oI (oA (oJ (oI SM 7 (nI (i + 1))) 15 (n + g) (lN (codM w))) 17 (n + g) (nI n)) 19 (nI (n + g + 1))) 7 (nI (i + 1 + 1)) := ⟨_, rfl⟩
      rw [← hSM2] at n5 n7
      have fr2 : FrI SM SM2 := by
        rw [hSM2]
        exact FrI_tr (FrI_I SM (by omega) _) (FrI_tr (FrI_15 _ _ _) (FrI_tr (FrI_17 _ _ _) (FrI_tr (FrI_I _ (by omega) _) (FrI_I _ (by omega) _))))
      rw [n3, bd_s, n5, bd_s, if_neg (show ¬ (1 : Int32) = 0 by decide), lt_e]
      show IOut C t N S0 SG ST i (wrapG SR SC (if ST2.1 3 < 14 then f9_guestLine_79 SR SG ST2 SI else if ST2.1 3 ≤ 17 then (bd (f10_advance ST2) fun r_11 => bd (f9_numberBehind 1 1 12 SR SG r_11) fun r_13 => lt r_13.1 fun x5_15 => if x5_15 = -1 then some (0, r_13.2.1, r_13.2.2, SI) else bd (f9_numberBehind 2 1 99 SR r_13.2.1 r_13.2.2) fun r_17 => lt r_17.1 fun x6_19 => if x6_19 = -1 then some (0, r_17.2.1, r_17.2.2, SI) else bd (f4_addGuest (ST1.2.1 6) (ST2.1 3 - 14) x5_15 x6_19 SI) fun r_21 => bd (f3_take 59 r_17.2.1 r_17.2.2) fun r_23 => ck (isz r_23.1) (some (r_23.1, r_23.2.1, r_23.2.2, r_21))) else f9_guestLine_79 SR SG ST2 SI)) _
      rw [(syn_kd n7).1]
      have hk2 := (syn_kd n7).2
      have hp2 := PP_le C t (i + 1 + 1)
      have i2N : i + 1 + 1 ≤ N := n7.2.2.2.2.2.1
      have w1 : f12_takeOne 14 4 SM2 = _ := r_takeOne n7 (fr := 14) (mn := 4) (by omega)
      by_cases c1 : 14 ≤ kdT C t (i + 1 + 1) ∧ kdT C t (i + 1 + 1) < 18
      · have hi3 : i + 1 + 1 < N := kd_lt n7.2.2.2.2.2.2 i2N (by omega)
        obtain ⟨ST3, a3, f3, sy3⟩ := syn_adv n7 hi3
        obtain ⟨q, hq⟩ : ∃ q, kdT C t (i + 1 + 1) = 14 + q := ⟨kdT C t (i + 1 + 1) - 14, by omega⟩
        have es : ∀ q, q < 4 → nI (14 + q) - 14 = nI q := by decide +kernel
        rw [if_neg (show ¬ nI (kdT C t (i + 1 + 1)) < 14 from nI_nlt (b := 14) c1.1 (by omega)), if_pos (show nI (kdT C t (i + 1 + 1)) ≤ 17 from nI_le (b := 17) (by omega) (by omega)), a3, bd_s, hq, es q (by omega)]
        obtain ⟨SM3, hSM3⟩ : ∃ S, S = oA (oI SM2 7 (nI (i + 1 + 1 + 1))) 10 (63 + 5 * n) (nI q) := ⟨_, rfl⟩
        have eg1 : gR1 (63 + 5 * n) SM2 = gR2 (63 + 5 * n) SM3 := by
          unfold gR1
          rw [w1, if_pos (show 14 ≤ kdT C t (i + 1 + 1) ∧ kdT C t (i + 1 + 1) < 14 + 4 from c1), bd_s, hSM3, hq, show 14 + q - 14 = q by omega]
        have fr3' : FrI (oI SM2 7 (nI (i + 1 + 1 + 1))) SM3 := by rw [hSM3]; exact FrI_10 _ (by omega) _
        have fr3 : FrI SM SM3 := FrI_tr fr2 (FrI_tr (FrI_I SM2 (by omega) _) fr3')
        have syB : Syn C t N SG ST3 SM3 (i + 1 + 1 + 1) := syn_I sy3 fr3' (by rw [hSM3]; rfl) (by rw [hSM3]; rfl)
        rw [eg1]
        have fa3 : FrA ST ST3 := FrA_tr f1 (FrA_tr n4 f3)
        rcases num_both syB SR (k := 1) (lo := 1) (hi := 12) (by omega) (by omega) (by omega) with ⟨v, ST4, SM4, p1, p2, p3, p4, p5, p6, p7⟩ | ⟨SG4, ST4, SM4, F, p3, p4, p5, p6, p7, p8⟩
        · have p3' : f9_numberBehind 1 1 12 SR SG ST3 = _ := p3
          have p4' : f12_takeAfter 1 1 12 SM3 = _ := p4
          rw [p3', bd_s, lt_e, if_neg (show ¬ nI v = -1 from nI_nm1 (by omega))]
          obtain ⟨SM5, hSM5⟩ : ∃ S, S = oA SM4 10 (63 + 5 * n + 1) (nI v) := ⟨_, rfl⟩
          have eg2 : gR2 (63 + 5 * n) SM3 = gR3 (63 + 5 * n) SM5 := by
            unfold gR2
            rw [p4', bd_s, hSM5]
          have fr5' : FrI SM4 SM5 := by rw [hSM5]; exact FrI_10 _ (by omega) _
          have fr5 : FrI SM SM5 := FrI_tr fr3 (FrI_tr (FrI_7 p6) fr5')
          have sy5 : Syn C t N SG ST4 SM5 (i + 1 + 1 + 1 + 2) := syn_I p7 fr5' (by rw [hSM5]; rfl) (by rw [hSM5]; rfl)
          rw [eg2]
          rcases num_both sy5 SR (k := 2) (lo := 1) (hi := 99) (by omega) (by omega) (by omega) with ⟨u, ST6, SM6, q1, q2, q3, q4, q5, q6, q7⟩ | ⟨SG6, ST6, SM6, F, q3, q4, q5, q6, q7, q8⟩
          · have q3' : f9_numberBehind 2 1 99 SR SG ST4 = _ := q3
            have q4' : f12_takeAfter 2 1 99 SM5 = _ := q4
            show IOut C t N S0 SG ST i (wrapG SR SC (bd (f9_numberBehind 2 1 99 SR SG ST4) fun r_17 => lt r_17.1 fun x6_19 => if x6_19 = -1 then some (0, r_17.2.1, r_17.2.2, SI) else bd (f4_addGuest (ST1.2.1 6) (nI q) (nI v) x6_19 SI) fun r_21 => bd (f3_take 59 r_17.2.1 r_17.2.2) fun r_23 => ck (isz r_23.1) (some (r_23.1, r_23.2.1, r_23.2.2, r_21)))) _
            obtain ⟨SI', b1, b2, b3, b4, b5, b6, b7, b8, b9, b10, b11, b12, b13⟩ := c_addGuest g2 hn8 (ST1.2.1 6) (nI q) (nI v) (nI u)
            rw [q3', bd_s, lt_e, if_neg (show ¬ nI u = -1 from nI_nm1 (by omega)), b1, bd_s]
            have m2 : SM2.2.2.1 = va_up SM.2.2.1 17 (upd (SM.2.2.1 17) (n + g) (nI n)) ∧ SM2.2.2.2 = va_up SM.2.2.2 15 (vp_updL (SM.2.2.2 15) (n + g) (lN (codM w))) ∧ SM2.1 13 = SM.1 13 ∧ SM2.1 19 = nI (n + g + 1) := by rw [hSM2]; exact ⟨rfl, rfl, rfl, rfl⟩
            have m3 : SM3.2.2.1 = va_up SM2.2.2.1 10 (upd (SM2.2.2.1 10) (63 + 5 * n) (nI q)) ∧ SM3.2.2.2 = SM2.2.2.2 ∧ SM3.1 13 = SM2.1 13 ∧ SM3.1 19 = SM2.1 19 := by rw [hSM3]; exact ⟨rfl, rfl, rfl, rfl⟩
            have m5 : SM5.2.2.1 = va_up SM4.2.2.1 10 (upd (SM4.2.2.1 10) (63 + 5 * n + 1) (nI v)) ∧ SM5.2.2.2 = SM4.2.2.2 ∧ SM5.1 13 = SM4.1 13 ∧ SM5.1 19 = SM4.1 19 := by rw [hSM5]; exact ⟨rfl, rfl, rfl, rfl⟩
            have r17 : SM6.2.2.1 17 = upd (SM.2.2.1 17) (n + g) (nI n) := by rw [q6.2, m5.1, p6.2, m3.1, m2.1]; rfl
            have r15 : SM6.2.2.2 15 = vp_updL (SM.2.2.2 15) (n + g) (lN (codM w)) := by rw [q6.2, m5.2.1, p6.2, m3.2.1, m2.2.1]; rfl
            have r10 : SM6.2.2.1 10 = upd (upd (SM.2.2.1 10) (63 + 5 * n) (nI q)) (63 + 5 * n + 1) (nI v) := by rw [q6.2, m5.1, p6.2, m3.1, m2.1]; rfl
            have r11 : SM6.2.2.1 11 = SM.2.2.1 11 ∧ SM6.2.2.1 12 = SM.2.2.1 12 := by rw [q6.2, m5.1, p6.2, m3.1, m2.1]; exact ⟨rfl, rfl⟩
            have r13 : SM6.1 13 = nI r := by rw [q6.1 13 (by omega) (by omega), m5.2.2.1, p6.1 13 (by omega) (by omega), m3.2.2.1, m2.2.2.1]; exact hr
            have r19 : SM6.1 19 = nI (n + g + 1) := by rw [q6.1 19 (by omega) (by omega), m5.2.2.2, p6.1 19 (by omega) (by omega), m3.2.2.2, m2.2.2.2]
            obtain ⟨R, hR⟩ : ∃ R, R = upd (upd (SM6.2.2.1 10) (63 + 5 * n + 2) (nI u)) 60 (nI (n + 1)) := ⟨_, rfl⟩
            obtain ⟨SM8, hSM8⟩ : ∃ S, S = oA (oA SM6 10 (63 + 5 * n + 2) (nI u)) 10 60 (nI (n + 1)) := ⟨_, rfl⟩
            have e8r : SM8.2.2.1 10 = R := by rw [hSM8, hR]; rfl
            have eg3 : gR3 (63 + 5 * n) SM5 = some SM8 := by
              unfold gR3
              rw [q4', bd_s, hSM8]
              have e60 : (oA SM6 10 (63 + 5 * n + 2) (nI u)).2.2.1 10 60 + 1 = nI (n + 1) := by
                show upd (SM6.2.2.1 10) (63 + 5 * n + 2) (nI u) 60 + 1 = _
                rw [pk_un (by omega), r10, pk_un (by omega), pk_un (by omega), g3, nI_1]
              show some (oA (oA SM6 10 (63 + 5 * n + 2) (nI u)) 10 60 ((oA SM6 10 (63 + 5 * n + 2) (nI u)).2.2.1 10 60 + 1)) = _
              rw [e60]
            have fr8' : FrI SM6 SM8 := by rw [hSM8]; exact FrI_tr (FrI_10 _ (by omega) _) (FrI_10 _ (by omega) _)
            have fr8 : FrI SM SM8 := FrI_tr fr5 (FrI_tr (FrI_7 q6) fr8')
            have sy8 : Syn C t N SG ST6 SM8 (i + 1 + 1 + 1 + 2 + 2) := syn_I q7 fr8' (by rw [hSM8]; rfl) (by rw [hSM8]; rfl)
            have fa6 : FrA ST ST6 := FrA_tr fa3 (FrA_tr p5 q5)
            obtain ⟨z1, z2, z3, z4, z5, z6, z7⟩ := id sy8
            have ws : f12_takeSign 59 SM8 = _ := r_takeSign z7 z4 z6 z5 (k := 59) (by omega) (by omega)
            have hp8 := PP_le C t (i + 1 + 1 + 1 + 2 + 2)
            rw [eg3]
            rcases c_take sy8 (k := 59) (by omega) (by omega) with ⟨hc, ST9, e, f9, hi9, sy9⟩ | ⟨hc, e⟩
            · have e' : f3_take 59 SG ST6 = _ := e
              left
              refine ⟨SR, ST9, SC, SI', oI SM8 7 (nI (i + 1 + 1 + 1 + 2 + 2 + 1)), i + 1 + 1 + 1 + 2 + 2 + 1, n + 1, g, s, r, ?_, ?_, FrA_tr fa6 f9, by omega, sy9, FrI_tr hF (FrI_tr fr8 (FrI_I SM8 (by omega) _)), hs, by omega, ?_, by omega, ?_, ?_, ?_, ?_, ?_, ?_⟩
              · rw [e', bd_s]; rfl
              · rw [bd_s, ws, if_pos hc]
              · show SM8.1 13 = _
                rw [hSM8]; exact r13
              · show SM8.1 20 = 1
                rw [fr8.1 20 (by omega) (by omega) (by omega) (by omega) (by omega)]; exact h20
              · show SM8.1 19 = _
                rw [hSM8]
                show SM6.1 19 = _
                rw [r19]; exact congrArg nI (by omega)
              · show NmR SI' (SM8.1 19) (SM8.2.2.2 15) (SM8.2.2.1 17) (n + 1) g
                have t1 : SM8.1 19 = nI (n + g + 1) := by rw [hSM8]; exact r19
                have t2 : SM8.2.2.2 15 = vp_updL (SM.2.2.2 15) (n + g) (lN (codM w)) := by rw [hSM8]; exact r15
                have t3 : SM8.2.2.1 17 = upd (SM.2.2.1 17) (n + g) (nI n) := by rw [hSM8]; exact r17
                rw [t1, t2, t3]
                exact nmr_guest hNm n1 hn8 (fun j hj => by rw [b12, ul_n (by omega)]) (by rw [b12, ul_s, n2]) (fun j _ => by rw [b13])
              · show GuP SI' (SM8.2.2.1 10) (n + 1) g
                rw [e8r, hR, r10]
                refine ⟨by omega, b2, pk_us, fun j hj => ?_, fun j hj => ?_, fun j hj => ?_, fun j hj => ?_, fun j hj => ?_, fun j hj hj8 => ?_⟩
                · rw [b4, b5, b6, b7, b8]
                  by_cases cj : j = n
                  · rw [cj, pk_us, pk_us, pk_us, pk_us, pk_us]
                    obtain ⟨g90, g91⟩ := g9 n (Nat.le_refl _) hn8
                    refine ⟨?_, ?_, ?_, ?_, ?_⟩
                    · rw [pk_un (by omega), pk_un (by omega), pk_un (by omega), pk_us]
                    · rw [pk_un (by omega), pk_un (by omega), pk_us]
                    · rw [pk_un (by omega), pk_us]
                    · rw [pk_un (by omega), pk_un (by omega), pk_un (by omega), pk_un (by omega)]; exact g90
                    · rw [pk_un (by omega), pk_un (by omega), pk_un (by omega), pk_un (by omega)]; exact g91
                  · rw [pk_un cj, pk_un cj, pk_un cj, pk_un cj, pk_un cj]
                    obtain ⟨d1, d2, d3, d4, d5⟩ := g4 j (by omega)
                    refine ⟨?_, ?_, ?_, ?_, ?_⟩
                    · rw [pk_un (by omega), pk_un (by omega), pk_un (by omega), pk_un (by omega)]; exact d1
                    · rw [pk_un (by omega), pk_un (by omega), pk_un (by omega), pk_un (by omega)]; exact d2
                    · rw [pk_un (by omega), pk_un (by omega), pk_un (by omega), pk_un (by omega)]; exact d3
                    · rw [pk_un (by omega), pk_un (by omega), pk_un (by omega), pk_un (by omega)]; exact d4
                    · rw [pk_un (by omega), pk_un (by omega), pk_un (by omega), pk_un (by omega)]; exact d5
                · rw [b4]
                  by_cases cj : j = n
                  · rw [cj, pk_us]; exact ⟨q, by omega, rfl⟩
                  · rw [pk_un cj]; exact g5 j (by omega)
                · rw [b5]
                  by_cases cj : j = n
                  · rw [cj, pk_us]; exact ⟨v, p1, p2, rfl⟩
                  · rw [pk_un cj]; exact g6 j (by omega)
                · rw [b6]
                  by_cases cj : j = n
                  · rw [cj, pk_us]; exact ⟨u, q1, q2, rfl⟩
                  · rw [pk_un cj]; exact g7 j (by omega)
                · rw [b7]
                  by_cases cj : j = n
                  · rw [cj, pk_us]; exact ⟨0, Nat.pos_of_ne_zero (by have := Nat.one_le_two_pow (n := g); omega), rfl⟩
                  · rw [pk_un cj]; exact g8 j (by omega)
                · obtain ⟨g90, g91⟩ := g9 j (by omega) hj8
                  refine ⟨?_, ?_⟩
                  · rw [pk_un (by omega), pk_un (by omega), pk_un (by omega), pk_un (by omega)]; exact g90
                  · rw [pk_un (by omega), pk_un (by omega), pk_un (by omega), pk_un (by omega)]; exact g91
              · show SgP SI' SR SC (SM8.2.2.1 10) (SM8.2.2.1 11) (SM8.2.2.1 12) (n + 1) g s r
                have t1 : SM8.2.2.1 11 = SM.2.2.1 11 := by rw [hSM8]; exact r11.1
                have t2 : SM8.2.2.1 12 = SM.2.2.1 12 := by rw [hSM8]; exact r11.2
                have tR : ∀ k, 103 ≤ k ∨ k = 61 → SM8.2.2.1 10 k = SM.2.2.1 10 k := fun k hk => by
                  rw [e8r, hR, r10, pk_un (by omega), pk_un (by omega), pk_un (by omega), pk_un (by omega)]
                rw [t1, t2]
                refine ⟨s1, by rw [b3]; exact s2, by rw [tR 61 (Or.inr rfl)]; exact s3, fun k hk => ?_, fun k hk => ?_⟩
                · rw [tR _ (by omega), b9]; exact s4 k hk
                · obtain ⟨L, a, n0, r0, d1, d2, d3, d4, d5, d6, d7, d8, d9, d10⟩ := s5 k hk
                  exact ⟨L, a, n0, r0, d1, d2, by rw [tR _ (by omega)]; exact d3, d4, d5, d6, d7, d8, d9, by omega⟩
              · show BlP SR SC (SM8.2.2.1 10) (SM8.2.2.1 11) (SM8.2.2.1 12) s r
                have t1 : SM8.2.2.1 11 = SM.2.2.1 11 := by rw [hSM8]; exact r11.1
                have t2 : SM8.2.2.1 12 = SM.2.2.1 12 := by rw [hSM8]; exact r11.2
                have t62 : SM8.2.2.1 10 62 = SM.2.2.1 10 62 := by
                  rw [e8r, hR, r10, pk_un (by omega), pk_un (by omega), pk_un (by omega), pk_un (by omega)]
                unfold BlP
                rw [t1, t2, t62]
                exact hBl
            · have e' : f3_take 59 SG ST6 = _ := e
              right
              refine ⟨SR, oI SG 3 (nI (1 + 16 * PP C t (i + 1 + 1 + 1 + 2 + 2))), ST6, SC, SI', oI SM8 8 (nI (1 + 16 * PP C t (i + 1 + 1 + 1 + 2 + 2))), 1 + 16 * PP C t (i + 1 + 1 + 1 + 2 + 2), ?_, ?_, fa6, rfl, ⟨rfl, by omega, by omega⟩, FrI_tr hF (FrI_tr fr8 (FrI_I SM8 (by omega) _))⟩
              · rw [e', bd_s]; rfl
              · rw [bd_s, ws, if_neg hc]
          · have q3' : f9_numberBehind 2 1 99 SR SG ST4 = _ := q3
            have q4' : f12_takeAfter 2 1 99 SM5 = _ := q4
            show IOut C t N S0 SG ST i (wrapG SR SC (bd (f9_numberBehind 2 1 99 SR SG ST4) fun r_17 => lt r_17.1 fun x6_19 => if x6_19 = -1 then some (0, r_17.2.1, r_17.2.2, SI) else bd (f4_addGuest (ST1.2.1 6) (nI q) (nI v) x6_19 SI) fun r_21 => bd (f3_take 59 r_17.2.1 r_17.2.2) fun r_23 => ck (isz r_23.1) (some (r_23.1, r_23.2.1, r_23.2.2, r_21)))) _
            rw [q3', bd_s, lt_e, if_pos (show (-1 : Int32) = -1 from rfl)]
            refine io_bad (F := F) (SM := SM) rfl (FrA_tr fa3 (FrA_tr p5 q5)) q7 ?_ hF
            unfold gR3
            rw [q4', bd_s]
            exact ⟨_, rfl, q8, FrI_tr fr5 (FrI_tr (FrI_7 q6) (FrI_tr (FrI_10 _ (by omega) _) (FrI_10 _ (by omega) _)))⟩
        · have p3' : f9_numberBehind 1 1 12 SR SG ST3 = _ := p3
          have p4' : f12_takeAfter 1 1 12 SM3 = _ := p4
          rw [p3', bd_s, lt_e, if_pos (show (-1 : Int32) = -1 from rfl)]
          refine io_bad (F := F) (SM := SM) rfl (FrA_tr fa3 p5) p7 ?_ hF
          unfold gR2
          rw [p4', bd_s]
          obtain ⟨S', e1, e2, e3⟩ := gR3_x (S := oA SM4 10 (63 + 5 * n + 1) 0) (F := F) (p := 63 + 5 * n) p8 (by omega)
          exact ⟨S', e1, e2, FrI_tr fr3 (FrI_tr (FrI_7 p6) (FrI_tr (FrI_10 _ (by omega) _) e3))⟩
      · have e1A : f3_fail 1 SG ST2 = _ := c_fail n7 1
        have hcl : ∀ Y, (if nI (kdT C t (i + 1 + 1)) < 14 then f9_guestLine_79 SR SG ST2 SI else if nI (kdT C t (i + 1 + 1)) ≤ 17 then Y else f9_guestLine_79 SR SG ST2 SI) = some (0, oI SG 3 (nI (1 + 16 * PP C t (i + 1 + 1))), ST2, SI) := by
          intro Y
          have e79 : f9_guestLine_79 SR SG ST2 SI = some (0, oI SG 3 (nI (1 + 16 * PP C t (i + 1 + 1))), ST2, SI) := by
            unfold f9_guestLine_79
            rw [e1A, bd_s]; rfl
          by_cases c4 : kdT C t (i + 1 + 1) < 14
          · rw [if_pos (show nI (kdT C t (i + 1 + 1)) < 14 from nI_lt (b := 14) c4 (by omega)), e79]
          · rw [if_neg (show ¬ nI (kdT C t (i + 1 + 1)) < 14 from nI_nlt (b := 14) (by omega) (by omega)), if_neg (show ¬ nI (kdT C t (i + 1 + 1)) ≤ 17 from nI_ge (a := 17) (by omega) (by omega)), e79]
        refine io_bad (F := 1 + 16 * PP C t (i + 1 + 1)) (SM := SM) (hcl _) (FrA_tr f1 n4) rfl ?_ hF
        unfold gR1
        rw [w1, if_neg (show ¬ (14 ≤ kdT C t (i + 1 + 1) ∧ kdT C t (i + 1 + 1) < 14 + 4) from c1), bd_s]
        obtain ⟨S', e1, e2, e3⟩ := gR2_x (S := oA (oI SM2 8 (nI (1 + 16 * PP C t (i + 1 + 1)))) 10 (63 + 5 * n) 0) (F := 1 + 16 * PP C t (i + 1 + 1)) (p := 63 + 5 * n) ⟨rfl, by omega, by omega⟩ (by omega)
        exact ⟨S', e1, e2, FrI_tr fr2 (FrI_tr (FrI_I SM2 (by omega) _) (FrI_tr (FrI_10 _ (by omega) _) e3))⟩
    · rw [n1, bd_s, if_pos (show (0 : Int32) = 0 from rfl), n2, bd_s]
      obtain ⟨S', e1, e2, e3⟩ := gR1_x (S := oI (oI SM 7 (nI (i + 1))) 8 (nI F)) (F := F) (p := 63 + 5 * n) ⟨rfl, n3, n4⟩ (by omega)
      exact io_bad (F := F) (SM := SM) rfl f1 rfl ⟨S', e1, e2, FrI_tr (FrI_I SM (by omega) _) (FrI_tr (FrI_I _ (by omega) _) e3)⟩ hF
