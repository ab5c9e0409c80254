/-! pure: a sign's line at both -/
abbrev wrapS (x : Option (Int32 × Ob × Ob × Ob × Ob × Ob)) : Option (Int32 × Ob × Ob × Ob × Ob × Ob) := bd x fun r_5 => ck (isz r_5.1) (some (r_5.1, r_5.2.1, r_5.2.2.1, r_5.2.2.2.1, r_5.2.2.2.2.1, r_5.2.2.2.2.2))
theorem io_badS {C : Nat → Nat} {t N i : Nat} {S0 SG ST SR' SC' SI SM SG' ST' : Ob} {F : Nat} {x : Option (Int32 × Ob × Ob × Ob × Ob × Ob)} {rm : Option Ob} (hx : x = some (0, SR', SG', ST', SC', SI)) (hfa : FrA ST ST') (hG : SG'.1 3 = nI F) (hm : ∃ S', rm = some S' ∧ Flt S' F ∧ FrI SM S') (hF : FrI S0 SM) : IOut C t N S0 SG ST i (wrapS x) (bd rm fun a => f12_takeSign 59 a) := by
  obtain ⟨S', e1, e2, e3⟩ := hm
  refine Or.inr ⟨SR', SG', ST', SC', SI, S', F, ?_, ?_, hfa, hG, e2, FrI_tr hF e3⟩
  · rw [hx]; rfl
  · rw [e1, bd_s, x_takeSign e2]
theorem sign_line {C : Nat → Nat} {t N n g i s r : Nat} {S0 SR SG ST SC SI SM : Ob} (h : InP C t N n g S0 SR SG ST SC SI SM i s r) (hiN : i < N) : IOut C t N S0 SG ST i (wrapS (f9_signLine SR SG ST SC SI)) (bd (f12_readSign SM) fun a => f12_takeSign 59 a) := by
  obtain ⟨hsy, hF, hs, hsi, hr, hri, h20, h19, hNm, hGu, hSg, hBl⟩ := h
  obtain ⟨g1, g2, g3, g4, g5, g6, g7, g8, g9⟩ := hGu
  obtain ⟨s1, s2, s3, s4, s5⟩ := hSg
  obtain ⟨y1, y2, y3, y4, y5, y6, y7⟩ := id hsy
  have hp := PP_le C t i
  have ht := y7.1
  have hNt := y7.2.1
  unfold f9_signLine
  rw [s2, lt_e]
  by_cases c0 : g = 6
  · have e5 : f3_fail 5 SG ST = _ := c_fail hsy 5
    have w5 : f12_wrong 5 SM = _ := r_wrong y7 y4 y6 y5 5
    rw [if_neg (show ¬ nI g < 6 by rw [c0]; decide), e5, bd_s]
    refine io_badS (F := 5 + 16 * PP C t i) (SM := SM) rfl ⟨fun _ _ _ _ _ => rfl, rfl⟩ rfl ⟨oI SM 8 (nI (5 + 16 * PP C t i)), ?_, ⟨rfl, by omega, by omega⟩, FrI_I SM (by omega) _⟩ hF
    unfold f12_readSign
    have e61 : SM.2.2.1 10 (Int32.toNatClampNeg 61) = nI g := s3
    rw [show inb 61 120 = true from rfl, ck_t, lt_e, e61, if_pos (show nI g = 6 by rw [c0]; rfl), w5, bd_s]
  · have hg6 : g < 6 := by omega
    obtain ⟨ST1, a1, f1, sy1⟩ := syn_adv hsy hiN
    rw [if_pos (show nI g < 6 from nI_lt (b := 6) hg6 (by omega)), a1, bd_s, lt_e, r_sign s3 hg6]
    have hp7 : oI SM 7 (SM.1 7 + 1) = oI SM 7 (nI (i + 1)) := by rw [y4, nI_1]
    rcases name_both (SI := SI) (many := SM.1 19) sy1 g1 s1 g2 s2 h20 h19 (by omega) hNm SR (nI (20 + g)) SM hp7 with ⟨w, ST2, n1, n2, n3, n4, n5, n6, n7⟩ | ⟨F, n1, n2, n3, n4⟩
    · obtain ⟨SM2, hSM2⟩ : ∃ S, S = oI (oI (oA (oJ (oI SM 7 (nI (i + 1))) 15 (n + g) (lN (codM w))) 17 (n + g) (nI (20 + g))) 19 (nI (n + g + 1))) 7 (nI (i + 1 + 1)) := ⟨_, rfl⟩
      rw [← hSM2] at n5 n7
      have fr2 : FrI SM SM2 := by
        rw [hSM2]
        exact FrI_tr (FrI_I SM (by omega) _) (FrI_tr (FrI_15 _ _ _) (FrI_tr (FrI_17 _ _ _) (FrI_tr (FrI_I _ (by omega) _) (FrI_I _ (by omega) _))))
      have m2 : SM2.2.2.1 = va_up SM.2.2.1 17 (upd (SM.2.2.1 17) (n + g) (nI (20 + g))) ∧ SM2.2.2.2 = va_up SM.2.2.2 15 (vp_updL (SM.2.2.2 15) (n + g) (lN (codM w))) ∧ SM2.1 13 = SM.1 13 ∧ SM2.1 19 = nI (n + g + 1) ∧ SM2.1 20 = SM.1 20 := by rw [hSM2]; exact ⟨rfl, rfl, rfl, rfl, rfl⟩
      rw [n3, bd_s, n5, bd_s, if_neg (show ¬ (1 : Int32) = 0 by decide)]
      unfold sG1
      rcases num_both n7 SR (k := 4) (lo := 0) (hi := 10) (by omega) (by omega) (by omega) with ⟨v, ST3, SM3, p1, p2, p3, p4, p5, p6, p7⟩ | ⟨SG3, ST3, SM3, F, p3, p4, p5, p6, p7, p8⟩
      · have p3' : f9_numberBehind 4 0 10 SR SG ST2 = _ := p3
        have p4' : f12_takeAfter 4 0 10 SM2 = _ := p4
        dsimp only
        rw [p3', bd_s, p4', bd_s, lt_e]
        dsimp only
        rw [if_neg (show ¬ nI v = -1 from nI_nm1 (by omega)), inb_nI hg6 (by omega), ck_t, lt_e, nI_clamp (show g < 2 ^ 31 by omega), hs]
        obtain ⟨SMa, hSMa⟩ : ∃ S, S = oA SM3 10 (103 + 2 * g) (nI v) := ⟨_, rfl⟩
        obtain ⟨SRa, hSRa⟩ : ∃ S, S = oA SR 2 g (nI s) := ⟨_, rfl⟩
        rw [← hSMa, ← hSRa]
        have fra' : FrI SM3 SMa := by rw [hSMa]; exact FrI_10 _ (by omega) _
        have fra : FrI SM SMa := FrI_tr fr2 (FrI_tr (FrI_7 p6) fra')
        have sya : Syn C t N SG ST3 SMa (i + 1 + 1 + 2) := syn_I p7 fra' (by rw [hSMa]; rfl) (by rw [hSMa]; rfl)
        have ma : SMa.2.2.1 10 = upd (SM.2.2.1 10) (103 + 2 * g) (nI v) ∧ SMa.2.2.1 11 = SM.2.2.1 11 ∧ SMa.2.2.1 12 = SM.2.2.1 12 ∧ SMa.2.2.1 17 = upd (SM.2.2.1 17) (n + g) (nI (20 + g)) ∧ SMa.2.2.2 15 = vp_updL (SM.2.2.2 15) (n + g) (lN (codM w)) := by
          rw [hSMa]
          show upd (SM3.2.2.1 10) _ _ = _ ∧ SM3.2.2.1 11 = _ ∧ SM3.2.2.1 12 = _ ∧ SM3.2.2.1 17 = _ ∧ SM3.2.2.2 15 = _
          rw [p6.2, m2.1, m2.2.1]
          exact ⟨rfl, rfl, rfl, rfl, rfl⟩
        have ma2 : SMa.1 13 = nI r ∧ SMa.1 19 = nI (n + g + 1) ∧ SMa.1 20 = 1 := by
          rw [hSMa]
          show SM3.1 13 = _ ∧ SM3.1 19 = _ ∧ SM3.1 20 = _
          rw [p6.1 13 (by omega) (by omega), p6.1 19 (by omega) (by omega), p6.1 20 (by omega) (by omega)]
          exact ⟨m2.2.2.1.trans hr, m2.2.2.2.1, m2.2.2.2.2.trans h20⟩
        obtain ⟨z1, z2, z3, z4, z5, z6, z7⟩ := id sya
        have wt : f12_takeWord 5 SMa = _ := r_takeWord z7 z4 z6 z5 (k := 5) (by omega)
        have hpa := PP_le C t (i + 1 + 1 + 2)
        have fa3 : FrA ST ST3 := FrA_tr f1 (FrA_tr n4 p5)
        rcases c_take sya (k := 5) (by omega) (by omega) with ⟨hc, ST4, e, f4, hi4, sy4⟩ | ⟨hc, e⟩
        · have e' : f3_take 5 SG ST3 = _ := e
          rw [e', bd_s, wt, if_pos hc, bd_s]
          dsimp only
          rw [if_neg (show ¬ (1 : Int32) = 0 by decide)]
          unfold sG2
          obtain ⟨SMc, hSMc⟩ : ∃ S, S = oI (oA (oI SMa 7 (nI (i + 1 + 1 + 2 + 1))) 10 (103 + 2 * g + 1) (nI r)) 21 (nI (20 + g)) := ⟨_, rfl⟩
          have ec : oI (oA (oI SMa 7 (nI (i + 1 + 1 + 2 + 1))) 10 (103 + 2 * g + 1) ((oI SMa 7 (nI (i + 1 + 1 + 2 + 1))).1 13)) 21 (nI (20 + g)) = SMc := by
            rw [hSMc]
            show oI (oA (oI SMa 7 (nI (i + 1 + 1 + 2 + 1))) 10 (103 + 2 * g + 1) (SMa.1 13)) 21 (nI (20 + g)) = _
            rw [ma2.1]
          rw [ec]
          have frc' : FrI (oI SMa 7 (nI (i + 1 + 1 + 2 + 1))) SMc := by rw [hSMc]; exact FrI_tr (FrI_10 _ (by omega) _) (FrI_I _ (by omega) _)
          have frc : FrI SM SMc := FrI_tr fra (FrI_tr (FrI_I SMa (by omega) _) frc')
          have syc : Syn C t N SG ST4 SMc (i + 1 + 1 + 2 + 1) := syn_I sy4 frc' (by rw [hSMc]; rfl) (by rw [hSMc]; rfl)
          have mc : SMc.2.2.1 10 = upd (upd (SM.2.2.1 10) (103 + 2 * g) (nI v)) (103 + 2 * g + 1) (nI r) ∧ SMc.2.2.1 11 = SM.2.2.1 11 ∧ SMc.2.2.1 12 = SM.2.2.1 12 ∧ SMc.2.2.1 17 = upd (SM.2.2.1 17) (n + g) (nI (20 + g)) ∧ SMc.2.2.2 15 = vp_updL (SM.2.2.2 15) (n + g) (lN (codM w)) := by
            rw [hSMc]
            show upd (SMa.2.2.1 10) _ _ = _ ∧ SMa.2.2.1 11 = _ ∧ SMa.2.2.1 12 = _ ∧ SMa.2.2.1 17 = _ ∧ SMa.2.2.2 15 = _
            rw [ma.1]
            exact ⟨rfl, ma.2.1, ma.2.2.1, ma.2.2.2.1, ma.2.2.2.2⟩
          have mc2 : SMc.1 13 = nI r ∧ SMc.1 19 = nI (n + g + 1) ∧ SMc.1 20 = 1 ∧ SMc.1 21 = nI (20 + g) := by
            rw [hSMc]
            exact ⟨ma2.1, ma2.2.1, ma2.2.2, rfl⟩
          have hctx : CtxF SI n g SMc := ⟨g1, s1, g2, s2, mc2.2.2.2, nms_of g2 g1 s2 s1 (show n + g + 1 ≤ 14 by omega) (Or.inr ⟨mc2.2.2.1, mc2.2.1, mc.2.2.2.2, mc.2.2.2.1⟩) (nmt_mid hNm n1 g1)⟩
          have fa4 : FrA ST ST4 := FrA_tr fa3 f4
          rcases sim_formula SG ST4 SC SMc (i + 1 + 1 + 2 + 1) s r syc hs (by omega) mc2.1 (by omega) hctx with ⟨ST5, SC5, SM5, i5, L, q1, q2, q3, q4, q5, q6, q7, q8, q9, q20, q21⟩ | ⟨SG5, ST5, SC5, SM5, i5, r5, s5', F, q1, q2, q3, q4, q5, q6, q7, q8, q9, q20, q21⟩
          · have hi5 : i5 ≤ N := q3.2.2.2.2.2.1
            obtain ⟨SM6, w1, w2, w3, w4, w5, w6, w7, w8⟩ := r_emit q7.1 (by omega) 0 0
            have sy6 : Syn C t N SG ST5 SM6 i5 := syn_F (i' := i5) q3 w2 w3 w4
            have fF : FrF SMc SM6 := FrF_tr q8 w2
            have e10 : SM6.2.2.1 10 = upd (upd (SM.2.2.1 10) (103 + 2 * g) (nI v)) (103 + 2 * g + 1) (nI r) := (fF.2.2.1 10 (by omega) (by omega)).trans mc.1
            rw [q1, bd_s, q2, bd_s, w1, bd_s]
            dsimp only
            rw [if_neg (show ¬ (1 : Int32) = 0 by decide), q6.1]
            obtain ⟨SI', b1, b2, b3, b4, b5, b6, b7, b8⟩ := c_addSign s2 hg6 (ST1.2.1 6) (nI v)
            rw [ck_t, lt_e, b1, bd_s, bd_s]
            obtain ⟨SRb, hSRb⟩ : ∃ S, S = oA SRa 3 g (nI (s + L.length)) := ⟨_, rfl⟩
            obtain ⟨SM8, hSM8⟩ : ∃ S, S = oA SM6 10 61 (nI (g + 1)) := ⟨_, rfl⟩
            have e61 : SM6.2.2.1 10 61 + 1 = nI (g + 1) := by
              rw [e10, pk_un (by omega), pk_un (by omega), s3, nI_1]
            rw [e61, ← hSRb, ← hSM8]
            have fr8' : FrI SM6 SM8 := by rw [hSM8]; exact FrI_10 _ (by omega) _
            have fr8 : FrI SM SM8 := FrI_tr frc (FrI_tr (FrI_F fF) fr8')
            have sy8 : Syn C t N SG ST5 SM8 i5 := syn_I sy6 fr8' (by rw [hSM8]; rfl) (by rw [hSM8]; rfl)
            obtain ⟨x1, x2, x3, x4, x5, x6, x7⟩ := id sy8
            have ws : f12_takeSign 59 SM8 = _ := r_takeSign x7 x4 x6 x5 (k := 59) (by omega) (by omega)
            have hp8 := PP_le C t i5
            have fa5 : FrA ST ST5 := FrA_tr fa4 q4
            rcases c_take sy8 (k := 59) (by omega) (by omega) with ⟨hc9, ST9, e9, f9, hi9, sy9⟩ | ⟨hc9, e9⟩
            · have e9' : f3_take 59 SG ST5 = _ := e9
              have R8 : SM8.2.2.1 10 = upd (upd (upd (SM.2.2.1 10) (103 + 2 * g) (nI v)) (103 + 2 * g + 1) (nI r)) 61 (nI (g + 1)) := by
                rw [hSM8]
                show upd (SM6.2.2.1 10) 61 _ = _
                rw [e10]
              have R8k : ∀ k, k ≠ 61 → k ≠ 103 + 2 * g → k ≠ 103 + 2 * g + 1 → SM8.2.2.1 10 k = SM.2.2.1 10 k := fun k k1 k2 k3 => by
                rw [R8, pk_un k1, pk_un k3, pk_un k2]
              have k11 : ∀ k, k < 2200 + r → SM8.2.2.1 11 k = SM.2.2.1 11 k ∧ SM8.2.2.1 12 k = SM.2.2.1 12 k := fun k hk => by
                obtain ⟨o1, o2⟩ := w6 k (by omega)
                obtain ⟨o3, o4⟩ := q7.2.1 k hk
                rw [mc.2.1] at o3
                rw [mc.2.2.1] at o4
                rw [hSM8]
                exact ⟨o1.trans o3, o2.trans o4⟩
              have r8 : SM8.2.2.1 11 = SM6.2.2.1 11 ∧ SM8.2.2.1 12 = SM6.2.2.1 12 := by rw [hSM8]; exact ⟨rfl, rfl⟩
              have SRk : SRb.1 = SR.1 ∧ SRb.2.2.1 2 = upd (SR.2.2.1 2) g (nI s) ∧ SRb.2.2.1 3 = upd (SR.2.2.1 3) g (nI (s + L.length)) := by
                rw [hSRb, hSRa]; exact ⟨rfl, rfl, rfl⟩
              have t19 : SM8.1 19 = nI (n + g + 1) := by
                rw [hSM8]
                show SM6.1 19 = _
                rw [fF.1 19 (by omega) (by omega) (by omega)]; exact mc2.2.1
              left
              refine ⟨SRb, ST9, SC5, SI', oI SM8 7 (nI (i5 + 1)), i5 + 1, n, g + 1, s + L.length, r + L.length + 1, ?_, ?_, FrA_tr fa5 f9, by omega, sy9, FrI_tr hF (FrI_tr fr8 (FrI_I SM8 (by omega) _)), q6.1, by omega, ?_, by omega, ?_, t19, ?_, ?_, ?_, ?_⟩
              · rw [e9', bd_s]; rfl
              · rw [ws, if_pos hc9]
              · show SM8.1 13 = _
                rw [hSM8]; exact w5
              · show SM8.1 20 = 1
                rw [fr8.1 20 (by omega) (by omega) (by omega) (by omega) (by omega)]; exact h20
              · show NmR SI' (SM8.1 19) (SM8.2.2.2 15) (SM8.2.2.1 17) n (g + 1)
                have t2 : SM8.2.2.2 15 = vp_updL (SM.2.2.2 15) (n + g) (lN (codM w)) := by
                  rw [hSM8]
                  show SM6.2.2.2 15 = _
                  rw [fF.2.2.2.1]; exact mc.2.2.2.2
                have t3 : SM8.2.2.1 17 = upd (SM.2.2.1 17) (n + g) (nI (20 + g)) := by
                  rw [hSM8]
                  show SM6.2.2.1 17 = _
                  rw [fF.2.2.1 17 (by omega) (by omega)]; exact mc.2.2.2.1
                rw [t19, t2, t3]
                exact nmr_sign hNm n1 g1 (fun j _ => by rw [b8]) (by rw [b7, ul_s, n2]) (fun j hj => by rw [b7, ul_n (by omega)])
              · show GuP SI' (SM8.2.2.1 10) n (g + 1)
                unfold GuP
                rw [b3, b4 2 (by omega) (by omega), b4 3 (by omega) (by omega), b4 4 (by omega) (by omega), b4 5 (by omega) (by omega), b4 6 (by omega) (by omega)]
                refine ⟨g1, g2, by rw [R8k 60 (by omega) (by omega) (by omega)]; exact g3, fun j hj => ?_, g5, g6, g7, fun j hj => ?_, fun j hj hj8 => ?_⟩
                · rw [R8k _ (by omega) (by omega) (by omega), R8k _ (by omega) (by omega) (by omega), R8k _ (by omega) (by omega) (by omega), R8k _ (by omega) (by omega) (by omega), R8k _ (by omega) (by omega) (by omega)]
                  exact g4 j hj
                · obtain ⟨u, u1, u2⟩ := g8 j hj
                  exact ⟨u, by rw [Nat.pow_succ]; omega, u2⟩
                · rw [R8k _ (by omega) (by omega) (by omega), R8k _ (by omega) (by omega) (by omega)]
                  exact g9 j hj hj8
              · show SgP SI' SRb SC5 (SM8.2.2.1 10) (SM8.2.2.1 11) (SM8.2.2.1 12) n (g + 1) (s + L.length) (r + L.length + 1)
                refine ⟨by omega, b2, by rw [R8, pk_us], fun q hq => ?_, fun q hq => ?_⟩
                · rw [b5]
                  by_cases cq : q = g
                  · rw [cq, pk_us, R8, pk_un (by omega), pk_un (by omega), pk_us]
                    exact ⟨rfl, v, p2, rfl⟩
                  · rw [pk_un cq, R8k _ (by omega) (by omega) (by omega)]
                    exact s4 q (by omega)
                · rw [SRk.2.1, SRk.2.2]
                  by_cases cq : q = g
                  · rw [cq]
                    refine ⟨L, s, n, r, pk_us, pk_us, by rw [R8, pk_un (by omega), pk_us], q6.2.2, Nat.le_refl _, ⟨fun k x hx => ?_, ?_⟩, by omega, q20, q21, Nat.le_refl _⟩
                    · have hl := len_of hx
                      obtain ⟨o1, o2⟩ := w6 (2200 + (r + k)) (by omega)
                      obtain ⟨o3, o4⟩ := q7.2.2 k x hx
                      rw [Nat.add_assoc] at o3 o4
                      rw [r8.1, r8.2]
                      exact ⟨o1.trans o3, o2.trans o4⟩
                    · rw [r8.1]; exact w7
                  · obtain ⟨L0, a, n0, r0, d1, d2, d3, d4, d5, d6, d7, d8, d9, d10⟩ := s5 q (by omega)
                    exact ⟨L0, a, n0, r0, by rw [pk_un cq]; exact d1, by rw [pk_un cq]; exact d2, by rw [R8k _ (by omega) (by omega) (by omega)]; exact d3, cdat_keep d4 d5 q6.2.1, by omega, cdbt_keep d6 d7 k11, by omega, d8, d9, d10⟩
              · show BlP SRb SC5 (SM8.2.2.1 10) (SM8.2.2.1 11) (SM8.2.2.1 12) (s + L.length) (r + L.length + 1)
                unfold BlP
                rw [SRk.1, R8k 62 (by omega) (by omega) (by omega)]
                rcases hBl with hb | ⟨b0, L0, a, r0, d1, d2, d3, d4, d5, d6, d7, d8, d9⟩
                · exact Or.inl hb
                · exact Or.inr ⟨b0, L0, a, r0, d1, d2, d3, cdat_keep d4 d5 q6.2.1, by omega, cdbt_keep d6 d7 k11, by omega, d8, d9⟩
            · have e9' : f3_take 59 SG ST5 = _ := e9
              right
              refine ⟨SRb, oI SG 3 (nI (1 + 16 * PP C t i5)), ST5, SC5, SI', oI SM8 8 (nI (1 + 16 * PP C t i5)), 1 + 16 * PP C t i5, ?_, ?_, fa5, rfl, ⟨rfl, by omega, by omega⟩, FrI_tr hF (FrI_tr fr8 (FrI_I SM8 (by omega) _))⟩
              · rw [e9', bd_s]; rfl
              · rw [ws, if_neg hc9]
          · obtain ⟨SM6, w1, w2, w3, w4, w5, w6, w7, w8⟩ := r_emit q9 (by omega) 0 0
            have hfl : Flt SM6 F := ⟨w4.trans q5.1, q5.2⟩
            rw [q1, bd_s]
            refine io_badS (F := F) (SM := SM) (by rfl) (FrA_tr fa4 q3) q4 ?_ hF
            rw [q2, bd_s, w1, bd_s]
            exact ⟨_, rfl, hfl, FrI_tr frc (FrI_tr (FrI_F (FrF_tr q8 w2)) (FrI_10 _ (by omega) _))⟩
        · have e' : f3_take 5 SG ST3 = _ := e
          rw [e', bd_s, wt, if_neg hc, bd_s]
          obtain ⟨S', o1, o2, o3⟩ := sG2_x (S := oI SMa 8 (nI (1 + 16 * PP C t (i + 1 + 1 + 2)))) (F := 1 + 16 * PP C t (i + 1 + 1 + 2)) (p := 103 + 2 * g) (g := g) (r := r) ⟨rfl, by omega, by omega⟩ (by omega) ma2.1 (by omega)
          exact io_badS (F := 1 + 16 * PP C t (i + 1 + 1 + 2)) (SM := SM) rfl fa3 rfl ⟨S', o1, o2, FrI_tr fra (FrI_tr (FrI_I SMa (by omega) _) o3)⟩ hF
      · have p3' : f9_numberBehind 4 0 10 SR SG ST2 = _ := p3
        have p4' : f12_takeAfter 4 0 10 SM2 = _ := p4
        have hf : Flt (oA SM3 10 (103 + 2 * g) 0) F := p8
        have h13 : (oA SM3 10 (103 + 2 * g) 0).1 13 = nI r := by
          show SM3.1 13 = _
          rw [p6.1 13 (by omega) (by omega)]; exact m2.2.2.1.trans hr
        dsimp only
        rw [p3', bd_s, p4', bd_s, lt_e]
        dsimp only
        rw [if_pos (show (-1 : Int32) = -1 from rfl), x_takeWord hf, bd_s]
        obtain ⟨S', o1, o2, o3⟩ := sG2_x (S := oA SM3 10 (103 + 2 * g) 0) (F := F) (p := 103 + 2 * g) (g := g) (r := r) hf (by omega) h13 (by omega)
        exact io_badS (F := F) (SM := SM) rfl (FrA_tr f1 (FrA_tr n4 p5)) p7 ⟨S', o1, o2, FrI_tr fr2 (FrI_tr (FrI_7 p6) (FrI_tr (FrI_10 _ (by omega) _) o3))⟩ hF
    · rw [n1, bd_s, if_pos (show (0 : Int32) = 0 from rfl), n2, bd_s]
      obtain ⟨S', e1, e2, e3⟩ := sG1_x (S := oI (oI SM 7 (nI (i + 1))) 8 (nI F)) (F := F) (p := 103 + 2 * g) (g := g) (r := r) ⟨rfl, n3, n4⟩ (by omega) hr (by omega)
      exact io_badS (F := F) (SM := SM) rfl f1 rfl ⟨S', e1, e2, FrI_tr (FrI_I SM (by omega) _) (FrI_tr (FrI_I _ (by omega) _) e3)⟩ hF
