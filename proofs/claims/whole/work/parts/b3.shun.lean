/-! pure: the line of two who shun each other, at both -/
theorem shun_line {C : Nat → Nat} {t N n g i s r : Nat} {S0 SR SG ST SC SI SM : Ob} (h : InP C t N n g S0 SR SG ST SC SI SM i s r) (hiN : i < N) : IOut C t N S0 SG ST i (wrapG SR SC (f9_shunLine SR SG ST SI)) (bd (f12_readShun SM) fun a => f12_takeSign 59 a) := by
  have h0 := id h
  obtain ⟨hsy, hF, hs, hsi, hr, hri, h20, h19, hNm, hGu, hSg, hBl⟩ := h
  have hGu2 := id hGu
  obtain ⟨g1, g2, g3, g4, g5, g6, g7, g8, g9⟩ := hGu2
  obtain ⟨y1, y2, y3, y4, y5, y6, y7⟩ := id hsy
  have ht := y7.1
  have hNt := y7.2.1
  obtain ⟨ST1, a1, f1, sy1⟩ := syn_adv hsy hiN
  unfold f9_shunLine f12_readShun
  rw [a1, bd_s, lt_e, y4, nI_1]
  have x64 : ∀ {S : Ob} {F : Nat} (a b : Int32), Flt S F → f12_readShun_64 a b S = some S := fun a b hf => by
    unfold f12_readShun_64 f12_readShun_119
    rw [if_neg (flt_ne hf)]
  rcases told_g sy1 (inp_ctx h0 rfl rfl rfl rfl) with ⟨j, hj, hi1, d1, d2⟩ | ⟨F, hF1, hF2, d1, d2⟩
  · obtain ⟨ST2, a2, f2, sy2⟩ := syn_adv sy1 hi1
    rw [d1, bd_s, lt_e, if_neg (show ¬ nI j = -1 from nI_nm1 (by omega)), r_takeTold sy1 d2, bd_s, lt_e, a2, bd_s]
    obtain ⟨SM2, hSM2⟩ : ∃ S, S = oI (oI SM 7 (nI (i + 1))) 7 (nI (i + 1 + 1)) := ⟨_, rfl⟩
    have m2 : SM2.2 = SM.2 ∧ SM2.1 13 = SM.1 13 ∧ SM2.1 19 = SM.1 19 ∧ SM2.1 20 = SM.1 20 := by rw [hSM2]; exact ⟨rfl, rfl, rfl, rfl⟩
    have fr2 : FrI SM SM2 := by rw [hSM2]; exact FrI_tr (FrI_I SM (by omega) _) (FrI_I _ (by omega) _)
    rw [← hSM2] at sy2
    show IOut C t N S0 SG ST i (wrapG SR SC (bd (f3_namedGuest SG ST2 SI) fun r_9 => _)) (bd (bd (f12_toldHere 0 8 (oI (oI SM 7 (nI (i + 1))) 7 (nI (i + 1 + 1)))) fun r_5 => _) _)
    rw [← hSM2]
    rcases told_g sy2 (inp_ctx h0 m2.2.2.2 m2.2.2.1 (by rw [m2.1]) (by rw [m2.1])) with ⟨k, hk, hi2, d3, d4⟩ | ⟨F, hF1, hF2, d3, d4⟩
    · obtain ⟨z1, z2, z3, z4, z5, z6, z7⟩ := id sy2
      have hp2 := PP_le C t (i + 1 + 1)
      have e3 : f3_fail 3 SG ST2 = _ := c_fail sy2 3
      have w3 : f12_wrong 3 SM2 = _ := r_wrong z7 z4 z6 z5 3
      have hfl : Flt (oI SM2 8 (nI (3 + 16 * PP C t (i + 1 + 1)))) (3 + 16 * PP C t (i + 1 + 1)) := ⟨rfl, by omega, by omega⟩
      have e63 : f9_shunLine_63 SR SG ST2 SI = some (0, oI SG 3 (nI (3 + 16 * PP C t (i + 1 + 1))), ST2, SI) := by
        unfold f9_shunLine_63
        rw [e3, bd_s]; rfl
      have e59 : f12_readShun_59 (nI j) (nI k) SM2 = some (oI SM2 8 (nI (3 + 16 * PP C t (i + 1 + 1)))) := by
        unfold f12_readShun_59
        rw [w3, bd_s, x64 _ _ hfl]
      have ij : ∀ j, ((63 : Int32) + 5 * nI j) + 4 = nI (63 + 5 * j + 4) := fun j => by rw [show (63 : Int32) = nI 63 from rfl, show (5 : Int32) = nI 5 from rfl, show (4 : Int32) = nI 4 from rfl, pk_mul, nI_add, nI_add]
      have ebad : IOut C t N S0 SG ST i (wrapG SR SC (some (0, oI SG 3 (nI (3 + 16 * PP C t (i + 1 + 1))), ST2, SI))) (bd (some (oI SM2 8 (nI (3 + 16 * PP C t (i + 1 + 1))))) fun a => f12_takeSign 59 a) := io_bad (F := 3 + 16 * PP C t (i + 1 + 1)) (SM := SM) rfl (FrA_tr f1 f2) rfl ⟨_, rfl, hfl, FrI_tr fr2 (FrI_I SM2 (by omega) _)⟩ hF
      have er : SM2.2.2.1 10 (63 + 5 * j + 4) = SI.2.2.1 6 j := by rw [m2.1]; exact (g4 j hj).2.2.2.2
      rw [d3, d4, bd_s, bd_s]
      simp only [lt_e]
      rw [if_neg (show ¬ nI k = -1 from nI_nm1 (by omega)), if_pos z5, e63, e59]
      by_cases cjk : j = k
      · rw [if_pos (show nI j = nI k by rw [cjk]), if_pos (show nI j = nI k by rw [cjk])]
        exact ebad
      · have hne : ¬ nI j = nI k := fun e => cjk ((nI_eq (by omega) (by omega)).mp e)
        rw [if_neg hne, if_neg hne, inb_nI (show j < 8 by omega) (by omega), ck_t, nI_clamp (show j < 2 ^ 31 by omega), ij j, inb_nI (show 63 + 5 * j + 4 < 120 by omega) (by omega), ck_t, nI_clamp (show 63 + 5 * j + 4 < 2 ^ 31 by omega)]
        show IOut C t N S0 SG ST i (wrapG SR SC (if (ush (SI.2.2.1 6 j) (nI k)) &&& 1 = 1 then _ else _)) (bd (if ((SM2.2.2.1 10 (63 + 5 * j + 4)) >>> (nI k &&& 31)) &&& 1 = 1 then _ else _) _)
        rw [er, bit_u (show k < 32 by omega), bit_s (show k < 32 by omega)]
        by_cases cb : bt (SI.2.2.1 6 j) k = true
        · rw [if_pos cb, if_pos (show (1 : Int32) = 1 from rfl), if_pos (show (1 : Int32) = 1 from rfl)]
          exact ebad
        · rw [if_neg cb, if_neg (show ¬ (0 : Int32) = 1 by decide), if_neg (show ¬ (0 : Int32) = 1 by decide)]
          obtain ⟨ST3, a3, f3, sy3⟩ := syn_adv sy2 hi2
          obtain ⟨A, hA⟩ : ∃ A, A = SI.2.2.1 6 j ||| (1 <<< (nI k &&& 31)) := ⟨_, rfl⟩
          obtain ⟨B, hB⟩ : ∃ B, B = SI.2.2.1 6 k ||| (1 <<< (nI j &&& 31)) := ⟨_, rfl⟩
          obtain ⟨SI', hSI'⟩ : ∃ S, S = oA (oA SI 6 j A) 6 k B := ⟨_, rfl⟩
          obtain ⟨SM8, hSM8⟩ : ∃ S, S = oA (oA (oI SM2 7 (nI (i + 1 + 1 + 1))) 10 (63 + 5 * j + 4) A) 10 (63 + 5 * k + 4) B := ⟨_, rfl⟩
          have erk : SM2.2.2.1 10 (63 + 5 * k + 4) = SI.2.2.1 6 k := by rw [m2.1]; exact (g4 k hk).2.2.2.2
          have e64 : f12_readShun_64 (nI j) (nI k) SM2 = some SM8 := by
            unfold f12_readShun_64 f12_readShun_119
            rw [if_pos z5, z4, nI_1, lt_e, ij j, ij k, inb_nI (show 63 + 5 * j + 4 < 120 by omega) (by omega), ck_t, ck_t, lt_e, inb_nI (show 63 + 5 * k + 4 < 120 by omega) (by omega), ck_t, ck_t, lt_e, nI_clamp (show 63 + 5 * j + 4 < 2 ^ 31 by omega), nI_clamp (show 63 + 5 * k + 4 < 2 ^ 31 by omega)]
            show some (oA (oA (oI SM2 7 (nI (i + 1 + 1 + 1))) 10 (63 + 5 * j + 4) (SM2.2.2.1 10 (63 + 5 * j + 4) ||| (1 <<< (nI k &&& 31)))) 10 (63 + 5 * k + 4) (upd (SM2.2.2.1 10) (63 + 5 * j + 4) (SM2.2.2.1 10 (63 + 5 * j + 4) ||| (1 <<< (nI k &&& 31))) (63 + 5 * k + 4) ||| (1 <<< (nI j &&& 31)))) = _
            rw [pk_un (by omega), er, erk, ← hA, ← hB, hSM8]
          have ecl : oA (oA SI 6 j (SI.2.2.1 6 j ||| (1 <<< (nI k &&& 31)))) 6 k ((oA SI 6 j (SI.2.2.1 6 j ||| (1 <<< (nI k &&& 31)))).2.2.1 6 k ||| (1 <<< (nI j &&& 31))) = SI' := by
            show oA (oA SI 6 j (SI.2.2.1 6 j ||| (1 <<< (nI k &&& 31)))) 6 k (upd (SI.2.2.1 6) j (SI.2.2.1 6 j ||| (1 <<< (nI k &&& 31))) k ||| (1 <<< (nI j &&& 31))) = _
            rw [pk_un (fun e => cjk e.symm), ← hA, ← hB, hSI']
          have fr8' : FrI (oI SM2 7 (nI (i + 1 + 1 + 1))) SM8 := by rw [hSM8]; exact FrI_tr (FrI_10 _ (by omega) _) (FrI_10 _ (by omega) _)
          have fr8 : FrI SM SM8 := FrI_tr fr2 (FrI_tr (FrI_I SM2 (by omega) _) fr8')
          have sy8 : Syn C t N SG ST3 SM8 (i + 1 + 1 + 1) := syn_I sy3 fr8' (by rw [hSM8]; rfl) (by rw [hSM8]; rfl)
          obtain ⟨x1, x2, x3, x4, x5, x6, x7⟩ := id sy8
          have ws : f12_takeSign 59 SM8 = _ := r_takeSign x7 x4 x6 x5 (k := 59) (by omega) (by omega)
          have hp8 := PP_le C t (i + 1 + 1 + 1)
          have fa3 : FrA ST ST3 := FrA_tr f1 (FrA_tr f2 f3)
          rw [inb_nI (show k < 8 by omega) (by omega), nI_clamp (show k < 2 ^ 31 by omega)]
          simp only [ck_t]
          rw [ecl, e64, a3, bd_s]
          rcases c_take sy8 (k := 59) (by omega) (by omega) with ⟨hc, ST9, e, f9, hi9, sy9⟩ | ⟨hc, e⟩
          · have e' : f3_take 59 SG ST3 = _ := e
            have m8 : SM8.2.2.1 10 = upd (upd (SM.2.2.1 10) (63 + 5 * j + 4) A) (63 + 5 * k + 4) B ∧ SM8.2.2.1 11 = SM.2.2.1 11 ∧ SM8.2.2.1 12 = SM.2.2.1 12 ∧ SM8.2.2.1 17 = SM.2.2.1 17 ∧ SM8.2.2.2 = SM.2.2.2 ∧ SM8.1 13 = SM.1 13 ∧ SM8.1 19 = SM.1 19 := by
              rw [hSM8, hSM2]; exact ⟨rfl, rfl, rfl, rfl, rfl, rfl, rfl⟩
            have mI : SI'.1 = SI.1 ∧ SI'.2.2.2 = SI.2.2.2 ∧ SI'.2.2.1 6 = upd (upd (SI.2.2.1 6) j A) k B ∧ ∀ q, q ≠ 6 → SI'.2.2.1 q = SI.2.2.1 q := by
              rw [hSI']
              refine ⟨rfl, rfl, rfl, fun q hq => ?_⟩
              show va_up (va_up SI.2.2.1 6 _) 6 _ q = _
              rw [va_ne _ hq, va_ne _ hq]
            left
            refine ⟨SR, ST9, SC, SI', oI SM8 7 (nI (i + 1 + 1 + 1 + 1)), i + 1 + 1 + 1 + 1, n, g, s, r, ?_, ?_, FrA_tr fa3 f9, by omega, sy9, FrI_tr hF (FrI_tr fr8 (FrI_I SM8 (by omega) _)), hs, by omega, m8.2.2.2.2.2.1.trans hr, by omega, ?_, m8.2.2.2.2.2.2.trans h19, ?_, ?_, ?_, ?_⟩
            · rw [e', bd_s]; rfl
            · rw [bd_s, ws, if_pos hc]
            · show SM8.1 20 = 1
              rw [fr8.1 20 (by omega) (by omega) (by omega) (by omega) (by omega)]; exact h20
            · show NmR SI' (SM8.1 19) (SM8.2.2.2 15) (SM8.2.2.1 17) n g
              rw [m8.2.2.2.2.2.2, m8.2.2.2.2.1, m8.2.2.2.1]
              unfold NmR
              rw [mI.2.1]; exact hNm
            · show GuP SI' (SM8.2.2.1 10) n g
              unfold GuP
              rw [m8.1, mI.1, mI.2.2.1, mI.2.2.2 2 (by omega), mI.2.2.2 3 (by omega), mI.2.2.2 4 (by omega), mI.2.2.2 5 (by omega)]
              refine ⟨g1, g2, by rw [pk_un (by omega), pk_un (by omega)]; exact g3, fun q hq => ?_, g5, g6, g7, g8, fun q hq hq8 => ?_⟩
              · obtain ⟨u1, u2, u3, u4, u5⟩ := g4 q hq
                refine ⟨by rw [pk_un (by omega), pk_un (by omega)]; exact u1, by rw [pk_un (by omega), pk_un (by omega)]; exact u2, by rw [pk_un (by omega), pk_un (by omega)]; exact u3, by rw [pk_un (by omega), pk_un (by omega)]; exact u4, ?_⟩
                by_cases ck1 : q = k
                · rw [ck1, pk_us, pk_us]
                · rw [pk_un (by omega), pk_un ck1]
                  by_cases ck2 : q = j
                  · rw [ck2, pk_us, pk_us]
                  · rw [pk_un (by omega), pk_un ck2]; exact u5
              · rw [pk_un (by omega), pk_un (by omega), pk_un (by omega), pk_un (by omega)]; exact g9 q hq hq8
            · show SgP SI' SR SC (SM8.2.2.1 10) (SM8.2.2.1 11) (SM8.2.2.1 12) n g s r
              rw [m8.1, m8.2.1, m8.2.2.1]
              obtain ⟨v1, v2, v3, v4, v5⟩ := hSg
              refine ⟨v1, by rw [mI.1]; exact v2, by rw [pk_un (by omega), pk_un (by omega)]; exact v3, fun q hq => by rw [pk_un (by omega), pk_un (by omega), mI.2.2.2 10 (by omega)]; exact v4 q hq, fun q hq => ?_⟩
              rw [pk_un (by omega), pk_un (by omega)]
              exact v5 q hq
            · show BlP SR SC (SM8.2.2.1 10) (SM8.2.2.1 11) (SM8.2.2.1 12) s r
              unfold BlP
              rw [m8.1, m8.2.1, m8.2.2.1, pk_un (by omega), pk_un (by omega)]; exact hBl
          · have e' : f3_take 59 SG ST3 = _ := e
            right
            refine ⟨SR, oI SG 3 (nI (1 + 16 * PP C t (i + 1 + 1 + 1))), ST3, SC, SI', oI SM8 8 (nI (1 + 16 * PP C t (i + 1 + 1 + 1))), 1 + 16 * PP C t (i + 1 + 1 + 1), ?_, ?_, fa3, rfl, ⟨rfl, by omega, by omega⟩, FrI_tr hF (FrI_tr fr8 (FrI_I SM8 (by omega) _))⟩
            · rw [e', bd_s]; rfl
            · rw [bd_s, ws, if_neg hc]
    · rw [d3, d4, bd_s, bd_s]
      simp only [lt_e]
      rw [if_pos True.intro]
      have hfl : Flt (oI SM2 8 (nI F)) F := ⟨rfl, hF1, hF2⟩
      rw [if_neg (flt_ne hfl), x64 _ _ hfl]
      exact io_bad (F := F) (SM := SM) rfl (FrA_tr f1 f2) rfl ⟨_, rfl, hfl, FrI_tr fr2 (FrI_I SM2 (by omega) _)⟩ hF
  · have hfl : Flt (oI (oI SM 7 (nI (i + 1))) 8 (nI F)) F := ⟨rfl, hF1, hF2⟩
    rw [d1, bd_s, lt_e, if_pos (show (-1 : Int32) = -1 from rfl), r_takeToldF hF1 hF2 d2, bd_s, lt_e, x_told hfl, bd_s, lt_e]
    rw [if_neg (flt_ne hfl), x64 _ _ hfl]
    exact io_bad (F := F) (SM := SM) rfl f1 rfl ⟨_, rfl, hfl, FrI_tr (FrI_I SM (by omega) _) (FrI_I _ (by omega) _)⟩ hF
