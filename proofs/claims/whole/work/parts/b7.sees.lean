/-! pure: the line of what a guest sees -/
def cn6 (v : Nat) : Nat := ((List.range 6).filter (fun j => v.testBit j)).length
theorem cn_le : ∀ v, cn6 v ≤ 6 := fun v => by
  unfold cn6
  exact Nat.le_trans (List.length_filter_le _ _) (by simp)
theorem cn_or : ∀ v, v < 64 → ∀ j, j < 6 → v.testBit j = false → cn6 (v ||| 2 ^ j) = cn6 v + 1 := by decide +kernel
theorem cn_0 : ∀ v, v < 64 → (cn6 v = 0 ↔ v = 0) := by decide +kernel
theorem or_nI : ∀ v, v < 64 → ∀ j, j < 6 → nI v ||| (1 <<< (nI j &&& 31)) = nI (v ||| 2 ^ j) := by decide +kernel
theorem or_lt : ∀ g, g < 7 → ∀ v, v < 2 ^ g → ∀ j, j < g → v ||| 2 ^ j < 2 ^ g := by decide +kernel
theorem bt_nI6 : ∀ v, v < 64 → ∀ j, j < 6 → bt (nI v) j = v.testBit j := by decide +kernel
theorem or_n0 : ∀ v, v < 64 → ∀ j, j < 6 → v ||| 2 ^ j ≠ 0 := by decide +kernel
def FrW (p : Nat) (A B : Ob) (v : Int32) : Prop := (∀ k, k ≠ 7 → B.1 k = A.1 k) ∧ B.2.1 = A.2.1 ∧ (∀ k, k ≠ 10 → B.2.2.1 k = A.2.2.1 k) ∧ B.2.2.2 = A.2.2.2 ∧ B.2.2.1 10 = upd (A.2.2.1 10) p v
theorem FrW_tr {p : Nat} {A B D : Ob} {v u : Int32} (h1 : FrW p A B v) (h2 : FrW p B D u) : FrW p A D u := ⟨fun k hk => (h2.1 k hk).trans (h1.1 k hk), h2.2.1.trans h1.2.1, fun k hk => (h2.2.2.1 k hk).trans (h1.2.2.1 k hk), h2.2.2.2.1.trans h1.2.2.2.1, by rw [h2.2.2.2.2, h1.2.2.2.2, fa_upd_twice]⟩
theorem FrW_I {p : Nat} {A B : Ob} {v : Int32} (hp : 60 ≤ p) (h : FrW p A B v) : FrI A B := ⟨fun k a _ _ _ _ => h.1 k a, h.2.1, fun k a _ _ _ => h.2.2.1 k a, fun k _ => by rw [h.2.2.2.1], fun k hk => by rw [h.2.2.2.2, pk_un (by omega)], fun k _ => by rw [h.2.2.1 11 (by omega), h.2.2.1 12 (by omega)]; exact ⟨rfl, rfl⟩⟩
theorem sees_loop {C : Nat → Nat} {t N n g j p : Nat} {SR SG SI : Ob} {many : Int32} (h8 : n ≤ 8) (h6 : g ≤ 6) (hn : SI.1 0 = nI n) (hg : SI.1 8 = nI g) (hj : j < n) (hp : p = 63 + 5 * j + 3) : ∀ m k v x3 ST SM, N - k < m → v < 2 ^ g → Syn C t N SG ST SM k → SM.1 20 = 1 → SM.1 19 = nI (n + g) → NmR SI many (SM.2.2.2 15) (SM.2.2.1 17) n g → SM.2.2.1 10 p = nI v → x3 = (if v = 0 ∨ (29 ≤ kdT C t k ∧ kdT C t k ≤ 32) then 1 else 0) →
    (∃ v' ST' SM' k', v' < 2 ^ g ∧ k ≤ k' ∧ FrA ST ST' ∧ Syn C t N SG ST' SM' k' ∧ kdT C t k' = 59 ∧ FrW p SM SM' (nI v') ∧ f9_seesLine_52 m (nI j) (nI v) (nI (cn6 v)) SR SG ST SI = f9_seesLine_135 (nI j) (nI v') SR SG ST' SI ∧ f12_readSees_82 m (nI p) x3 SM = some SM') ∨
    (∃ F SG' ST', f9_seesLine_52 m (nI j) (nI v) (nI (cn6 v)) SR SG ST SI = some (0, SG', ST', SI) ∧ FrA ST ST' ∧ SG'.1 3 = nI F ∧ ∃ S', (bd (f12_readSees_82 m (nI p) x3 SM) fun a => f12_takeSign 59 a) = some S' ∧ Flt S' F ∧ FrI SM S') := by
  intro m
  induction m with
  | zero => intro k v x3 ST SM hm; omega
  | succ m ih =>
    intro k v x3 ST SM hm hv hsy h20 h19 hNm hrow hx3
    obtain ⟨y1, y2, y3, y4, y5, y6, y7⟩ := id hsy
    have hpp := PP_le C t k
    have ht := y7.1
    have hNt := y7.2.1
    have hk61 := (syn_kd hsy).2
    have hv64 : v < 64 := Nat.lt_of_lt_of_le hv (by have := Nat.pow_le_pow_right (n := 2) (by omega) h6; omega)
    have hcl := cn_le v
    have tb : TbR SM (SM.2.2.2 15) (SM.2.2.1 17) (n + g) := Or.inr ⟨h20, h19, rfl, rfl⟩
    have hcx : CtxN SI n g SM := ⟨h8, h6, hn, hg, nms_of hn h8 hg h6 (by omega) tb (nmt_of hNm)⟩
    have hcp : Int32.toNatClampNeg (nI p) = p := nI_clamp (by omega)
    have hip : inb (nI p) 120 = true := inb_nI (by omega) (by omega)
    have x123 : ∀ {S : Ob} {F : Nat} (a : Int32), Flt S F → f12_readSees_123 (f12_readSees_82 m) (nI p) a S = some S := fun a hf => by
      unfold f12_readSees_123
      rw [if_neg (flt_nle hf)]
    have fa0 : FrA ST ST := ⟨fun _ _ _ _ _ => rfl, rfl⟩
    -- the body, where a name is looked for at both
    have body : (∃ v' ST' SM' k', v' < 2 ^ g ∧ k ≤ k' ∧ FrA ST ST' ∧ Syn C t N SG ST' SM' k' ∧ kdT C t k' = 59 ∧ FrW p SM SM' (nI v') ∧ f9_seesLine_79 (f9_seesLine_52 m) (nI j) (nI v) (nI (cn6 v)) SR SG ST SI = f9_seesLine_135 (nI j) (nI v') SR SG ST' SI ∧ f12_readSees_82 (m + 1) (nI p) 1 SM = some SM') ∨
        (∃ F SG' ST', f9_seesLine_79 (f9_seesLine_52 m) (nI j) (nI v) (nI (cn6 v)) SR SG ST SI = some (0, SG', ST', SI) ∧ FrA ST ST' ∧ SG'.1 3 = nI F ∧ ∃ S', (bd (f12_readSees_82 (m + 1) (nI p) 1 SM) fun a => f12_takeSign 59 a) = some S' ∧ Flt S' F ∧ FrI SM S') := by
      unfold f9_seesLine_79 f12_readSees_82
      rw [if_neg (show ¬ (1 : Int32) = 0 by decide)]
      rcases told_s hsy hcx (find_strict h8 h6 tb y4 (by omega) hNm) with ⟨q, hq, hkN, d1, d2⟩ | ⟨F, hF1, hF2, d1, d2⟩
      · rw [d1, bd_s, d2, bd_s]
        simp only [lt_e]
        rw [if_neg (show ¬ nI q = -1 from nI_nm1 (by omega)), if_pos y5, hip, ck_t, hcp, hrow, bit_u (show q < 32 by omega), bit_s (show q < 32 by omega), bt_nI6 v hv64 q (by omega)]
        by_cases cb : v.testBit q = true
        · have e3 : f3_fail 3 SG ST = _ := c_fail hsy 3
          have w3 : f12_wrong 3 SM = _ := r_wrong y7 y4 y6 y5 3
          have hfl : Flt (oI SM 8 (nI (3 + 16 * PP C t k))) (3 + 16 * PP C t k) := ⟨rfl, by omega, by omega⟩
          right
          rw [if_pos cb, if_pos (show (1 : Int32) = 1 from rfl), if_pos (show (1 : Int32) = 1 from rfl), e3, bd_s, w3, bd_s, x123 _ hfl, bd_s, x_takeSign hfl]
          exact ⟨3 + 16 * PP C t k, oI SG 3 (nI (3 + 16 * PP C t k)), ST, rfl, fa0, rfl, _, rfl, hfl, FrI_I SM (by omega) _⟩
        · have cb' : v.testBit q = false := by simpa using cb
          obtain ⟨ST1, a1, f1, sy1⟩ := syn_adv hsy hkN
          rw [if_neg cb, if_neg (show ¬ (0 : Int32) = 1 by decide), if_neg (show ¬ (0 : Int32) = 1 by decide), a1, bd_s, nI_1, or_nI v hv64 q (by omega)]
          unfold f12_readSees_123
          rw [if_pos (show SM.1 8 ≤ 0 by rw [y5]; decide), hip, ck_t, ck_t, lt_e, hcp, hrow, or_nI v hv64 q (by omega), lt_e]
          obtain ⟨SM1, hSM1⟩ : ∃ S, S = oI (oA SM 10 p (nI (v ||| 2 ^ q))) 7 (nI (k + 1)) := ⟨_, rfl⟩
          have e1 : oI (oA SM 10 p (nI (v ||| 2 ^ q))) 7 ((oA SM 10 p (nI (v ||| 2 ^ q))).1 7 + 1) = SM1 := by
            rw [hSM1]
            show oI (oA SM 10 p (nI (v ||| 2 ^ q))) 7 (SM.1 7 + 1) = _
            rw [y4, nI_1]
          have fS : FrW p SM SM1 (nI (v ||| 2 ^ q)) := by
            rw [hSM1]
            exact ⟨fun k hk => va_ne _ hk _, rfl, fun k hk => va_ne _ hk _, rfl, rfl⟩
          have syB : Syn C t N SG ST1 SM1 (k + 1) := by
            obtain ⟨z1, z2, z3, z4, z5, z6, z7⟩ := sy1
            refine ⟨z1, z2, z3, by rw [hSM1]; rfl, by rw [hSM1]; exact y5, z6, RfS_I y7 (FrW_I (by omega) fS)⟩
          obtain ⟨z1, z2, z3, z4, z5, z6, z7⟩ := id syB
          rw [e1, r_isName z7 z4 z6 z5, bd_s, ← cn_or v hv64 q (by omega) cb']
          have hrec := ih (k + 1) (v ||| 2 ^ q) (if 29 ≤ kdT C t (k + 1) ∧ kdT C t (k + 1) ≤ 32 then 1 else 0) ST1 SM1 (by omega) (or_lt g (by omega) v hv q hq) syB ((fS.1 20 (by omega)).trans h20) ((fS.1 19 (by omega)).trans h19) (by rw [fS.2.2.2.1, fS.2.2.1 17 (by omega)]; exact hNm) (by rw [fS.2.2.2.2, pk_us]) (by
            have hn0 := or_n0 v hv64 q (by omega)
            by_cases cc : 29 ≤ kdT C t (k + 1) ∧ kdT C t (k + 1) ≤ 32
            · rw [if_pos cc, if_pos (Or.inr cc)]
            · rw [if_neg cc, if_neg (fun o => o.elim hn0 cc)])
          rcases hrec with ⟨v', ST', SM', k', o1, o2, o3, o4, o5, o6, o7, o8⟩ | ⟨F, SG', ST', o1, o2, o3, S', o4, o5, o6⟩
          · left
            exact ⟨v', ST', SM', k', o1, by omega, FrA_tr f1 o3, o4, o5, FrW_tr fS o6, o7, o8⟩
          · right
            exact ⟨F, SG', ST', o1, FrA_tr f1 o2, o3, S', o4, o5, FrI_tr (FrW_I (by omega) fS) o6⟩
      · have hfl : Flt (oI SM 8 (nI F)) F := ⟨rfl, hF1, hF2⟩
        right
        rw [d1, bd_s, d2, bd_s]
        simp only [lt_e]
        rw [if_pos True.intro, if_neg (flt_ne hfl), x123 _ hfl, bd_s, x_takeSign hfl]
        exact ⟨F, oI SG 3 (nI F), ST, rfl, fa0, rfl, _, rfl, hfl, FrI_I SM (by omega) _⟩
    have e6 : ¬ (6 : Int32) < nI (cn6 v) := nI_nlt (a := 6) (b := cn6 v) hcl (by omega)
    by_cases c0 : v = 0
    · have ec : f9_seesLine_52 (m + 1) (nI j) (nI v) (nI (cn6 v)) SR SG ST SI = f9_seesLine_79 (f9_seesLine_52 m) (nI j) (nI v) (nI (cn6 v)) SR SG ST SI := by
        rw [f9_seesLine_52, if_neg e6, if_pos (show nI (cn6 v) ≤ 0 by rw [(cn_0 v hv64).mpr c0]; decide)]
      rw [ec, hx3, if_pos (Or.inl c0)]
      exact body
    · have hc1 : 0 < cn6 v := Nat.pos_of_ne_zero (fun e => c0 ((cn_0 v hv64).mp e))
      by_cases c59 : kdT C t k = 59
      · have ec : f9_seesLine_52 (m + 1) (nI j) (nI v) (nI (cn6 v)) SR SG ST SI = f9_seesLine_135 (nI j) (nI v) SR SG ST SI := by
          rw [f9_seesLine_52, if_neg e6, if_neg (nI_nle hc1 (by omega)), if_pos (show ST.1 3 = 59 by rw [(syn_kd hsy).1, c59]; rfl)]
        have er : f12_readSees_82 (m + 1) (nI p) 0 SM = some SM := by rw [f12_readSees_82, if_pos (show (0 : Int32) = 0 from rfl)]
        left
        rw [ec, hx3, if_neg (by omega), er]
        exact ⟨v, ST, SM, k, hv, Nat.le_refl _, fa0, hsy, c59, ⟨fun _ _ => rfl, rfl, fun _ _ => rfl, rfl, (fa_upd_same hrow).symm⟩, rfl, rfl⟩
      · have ec : f9_seesLine_52 (m + 1) (nI j) (nI v) (nI (cn6 v)) SR SG ST SI = f9_seesLine_79 (f9_seesLine_52 m) (nI j) (nI v) (nI (cn6 v)) SR SG ST SI := by
          rw [f9_seesLine_52, if_neg e6, if_neg (nI_nle hc1 (by omega)), if_neg (show ¬ ST.1 3 = 59 from fun e => c59 ((syn_eq hsy (k := 59) (by omega)).mp e))]
        rw [ec, hx3]
        by_cases cn : 29 ≤ kdT C t k ∧ kdT C t k ≤ 32
        · rw [if_pos (Or.inr cn)]
          exact body
        · have er : f12_readSees_82 (m + 1) (nI p) 0 SM = some SM := by rw [f12_readSees_82, if_pos (show (0 : Int32) = 0 from rfl)]
          have ws : f12_takeSign 59 SM = _ := r_takeSign y7 y4 y6 y5 (k := 59) (by omega) (by omega)
          obtain ⟨a, ha⟩ := sn_some hg h6 (ST.2.1 6)
          right
          rw [if_neg (fun o => o.elim c0 cn), er, bd_s, ws, if_neg c59]
          refine ⟨1 + 16 * PP C t k, oI SG 3 (nI (1 + 16 * PP C t k)), ST, ?_, fa0, rfl, _, rfl, ⟨rfl, by omega, by omega⟩, FrI_I SM (by omega) _⟩
          unfold f9_seesLine_79 f3_namedSign
          rw [ha, bd_s, c_named hsy, if_neg cn, bd_s, bd_s, lt_e, if_pos (show (-1 : Int32) = -1 from rfl)]
theorem sees_line {C : Nat → Nat} {t N n g i s r : Nat} {S0 SR SG ST SC SI SM : Ob} (h : InP C t N n g S0 SR SG ST SC SI SM i s r) (hiN : i < N) : IOut C t N S0 SG ST i (wrapG SR SC (f9_seesLine SR SG ST SI)) (bd (f12_readSees SM) fun a => f12_takeSign 59 a) := by
  have h0 := id h
  obtain ⟨hsy, hF, hs, hsi, hr, hri, h20, h19, hNm, hGu, hSg, hBl⟩ := h
  have hGu2 := id hGu
  obtain ⟨g1, g2, g3, g4, g5, g6, g7, g8, g9⟩ := hGu2
  obtain ⟨s1, s2, s3, s4, s5⟩ := id hSg
  obtain ⟨y1, y2, y3, y4, y5, y6, y7⟩ := id hsy
  have ht := y7.1
  have hNt := y7.2.1
  obtain ⟨ST1, a1, f1, sy1⟩ := syn_adv hsy hiN
  obtain ⟨SM1, hSM1⟩ : ∃ S, S = oI SM 7 (nI (i + 1)) := ⟨_, rfl⟩
  unfold f9_seesLine f12_readSees
  rw [a1, bd_s, lt_e, y4, nI_1, ← hSM1]
  rw [← hSM1] at sy1
  have m1 : SM1.2 = SM.2 ∧ SM1.1 13 = SM.1 13 ∧ SM1.1 19 = SM.1 19 ∧ SM1.1 20 = SM.1 20 := by rw [hSM1]; exact ⟨rfl, rfl, rfl, rfl⟩
  have fr1 : FrI SM SM1 := by rw [hSM1]; exact FrI_I SM (by omega) _
  obtain ⟨z1, z2, z3, z4, z5, z6, z7⟩ := id sy1
  have hp1 := PP_le C t (i + 1)
  have x48 : ∀ {S : Ob} {F : Nat} (a : Int32), Flt S F → ∃ S', f12_readSees_48 a S = some S' ∧ Flt S' F ∧ FrI S S' := fun {S F} a hf => by
    have hf' : Flt (oI S 7 (S.1 7 + 0)) F := hf
    refine ⟨oI S 7 (S.1 7 + 0), ?_, hf', FrI_I S (by omega) _⟩
    unfold f12_readSees_48 f12_readSees_65
    rw [if_neg (flt_nle hf), lt_e, if_neg (flt_ne hf')]
    rfl
  rcases told_g sy1 (inp_ctx h0 m1.2.2.2 m1.2.2.1 (by rw [m1.1]) (by rw [m1.1])) with ⟨j, hj, hi1, d1, d2⟩ | ⟨F, hF1, hF2, d1, d2⟩
  · obtain ⟨p, hp⟩ : ∃ p, p = 63 + 5 * j + 3 := ⟨_, rfl⟩
    have ep : ((63 : Int32) + 5 * nI j) + 3 = nI p := by rw [show (63 : Int32) = nI 63 from rfl, show (5 : Int32) = nI 5 from rfl, show (3 : Int32) = nI 3 from rfl, pk_mul, nI_add, nI_add, hp]
    have hrow : SM1.2.2.1 10 p = SI.2.2.1 5 j := by rw [m1.1, hp]; exact (g4 j hj).2.2.2.1
    rw [d1, bd_s, lt_e, d2, bd_s, lt_e]
    dsimp only
    rw [if_neg (show ¬ nI j = -1 from nI_nm1 (by omega)), inb_nI (show j < 8 by omega) (by omega), ck_t, nI_clamp (show j < 2 ^ 31 by omega), lt_e, ep, if_pos z5, inb_nI (show p < 120 by omega) (by omega), ck_t, nI_clamp (show p < 2 ^ 31 by omega), hrow]
    obtain ⟨v0, hv0, ev0⟩ := g8 j hj
    have hv64 : v0 < 64 := Nat.lt_of_lt_of_le hv0 (by have := Nat.pow_le_pow_right (n := 2) (by omega) s1; omega)
    by_cases cv : v0 = 0
    · have e0 : SI.2.2.1 5 j = 0 := by rw [ev0, cv]; rfl
      obtain ⟨ST2, a2, f2, sy2⟩ := syn_adv sy1 hi1
      obtain ⟨SM2, hSM2⟩ : ∃ S, S = oI SM1 7 (nI (i + 1 + 1)) := ⟨_, rfl⟩
      rw [← hSM2] at sy2
      have m2 : SM2.2 = SM1.2 ∧ SM2.1 13 = SM1.1 13 ∧ SM2.1 19 = SM1.1 19 ∧ SM2.1 20 = SM1.1 20 := by rw [hSM2]; exact ⟨rfl, rfl, rfl, rfl⟩
      have fr2 : FrI SM SM2 := FrI_tr fr1 (by rw [hSM2]; exact FrI_I SM1 (by omega) _)
      have e48 : f12_readSees_48 (nI p) SM1 = f12_readSees_82 FU (nI p) 1 SM2 := by
        unfold f12_readSees_48 f12_readSees_65 f12_readSees_81
        have e2 : oI SM1 7 (SM1.1 7 + 1) = SM2 := by rw [hSM2, z4, nI_1]
        rw [if_pos (show SM1.1 8 ≤ 0 by rw [z5]; decide), lt_e, e2, if_pos (show SM2.1 8 = 0 by rw [hSM2]; exact z5)]
      rw [if_pos e0, e0, if_pos (show (0 : Int32) ≤ 0 by decide), a2, bd_s, e48]
      have hl := sees_loop (C := C) (t := t) (N := N) (SR := SR) (SG := SG) (many := SM.1 19) g1 s1 g2 s2 hj hp FU (i + 1 + 1) 0 1 ST2 SM2 (by unfold FU; omega) (Nat.two_pow_pos g) sy2 (m2.2.2.2.trans (m1.2.2.2.trans h20)) (m2.2.2.1.trans (m1.2.2.1.trans h19)) (by rw [m2.1, m1.1]; exact hNm) (by rw [m2.1, hrow, e0]; rfl) (by rw [if_pos (Or.inl rfl)])
      have hl0 : f9_seesLine_52 FU (nI j) (nI 0) (nI (cn6 0)) SR SG ST2 SI = f9_seesLine_52 FU (nI j) 0 0 SR SG ST2 SI := rfl
      rw [hl0] at hl
      rcases hl with ⟨v', ST', SM', k', o1, o2, o3, o4, o5, o6, o7, o8⟩ | ⟨F, SG', ST', o1, o2, o3, S', o4, o5, o6⟩
      · rw [o7, o8, bd_s]
        unfold f9_seesLine_135
        obtain ⟨SI', hSI'⟩ : ∃ S, S = oA SI 5 j (nI v') := ⟨_, rfl⟩
        rw [inb_nI (show j < 8 by omega) (by omega), ck_t, nI_clamp (show j < 2 ^ 31 by omega), lt_e, ← hSI']
        obtain ⟨x1, x2, x3, x4, x5, x6, x7⟩ := id o4
        have ws : f12_takeSign 59 SM' = _ := r_takeSign x7 x4 x6 x5 (k := 59) (by omega) (by omega)
        have fr8 : FrI SM SM' := FrI_tr fr2 (FrW_I (by omega) o6)
        have fa3 : FrA ST ST' := FrA_tr f1 (FrA_tr f2 o3)
        rcases c_take o4 (k := 59) (by omega) (by omega) with ⟨hc, ST9, e, f9, hi9, sy9⟩ | ⟨hc, e⟩
        · have e' : f3_take 59 SG ST' = _ := e
          have m8 : SM'.2.2.1 10 = upd (SM.2.2.1 10) p (nI v') ∧ SM'.2.2.1 11 = SM.2.2.1 11 ∧ SM'.2.2.1 12 = SM.2.2.1 12 ∧ SM'.2.2.1 17 = SM.2.2.1 17 ∧ SM'.2.2.2 = SM.2.2.2 ∧ SM'.1 13 = SM.1 13 ∧ SM'.1 19 = SM.1 19 := by
            rw [o6.2.2.2.2, o6.2.2.1 11 (by omega), o6.2.2.1 12 (by omega), o6.2.2.1 17 (by omega), o6.2.2.2.1, o6.1 13 (by omega), o6.1 19 (by omega), m2.1, m1.1]
            exact ⟨rfl, rfl, rfl, rfl, rfl, m2.2.1.trans m1.2.1, m2.2.2.1.trans m1.2.2.1⟩
          have mI : SI'.1 = SI.1 ∧ SI'.2.2.2 = SI.2.2.2 ∧ SI'.2.2.1 5 = upd (SI.2.2.1 5) j (nI v') ∧ ∀ q, q ≠ 5 → SI'.2.2.1 q = SI.2.2.1 q := by
            rw [hSI']
            exact ⟨rfl, rfl, rfl, fun q hq => va_ne _ hq _⟩
          left
          refine ⟨SR, ST9, SC, SI', oI SM' 7 (nI (k' + 1)), k' + 1, n, g, s, r, ?_, ?_, FrA_tr fa3 f9, by omega, sy9, FrI_tr hF (FrI_tr fr8 (FrI_I SM' (by omega) _)), hs, by omega, m8.2.2.2.2.2.1.trans hr, by omega, ?_, m8.2.2.2.2.2.2.trans h19, ?_, ?_, ?_, ?_⟩
          · rw [e', bd_s]; rfl
          · rw [ws, if_pos hc]
          · show SM'.1 20 = 1
            rw [fr8.1 20 (by omega) (by omega) (by omega) (by omega) (by omega)]; exact h20
          · show NmR SI' (SM'.1 19) (SM'.2.2.2 15) (SM'.2.2.1 17) n g
            rw [m8.2.2.2.2.2.2, m8.2.2.2.2.1, m8.2.2.2.1]
            unfold NmR
            rw [mI.2.1]; exact hNm
          · show GuP SI' (SM'.2.2.1 10) n g
            unfold GuP
            rw [m8.1, mI.1, mI.2.2.1, mI.2.2.2 2 (by omega), mI.2.2.2 3 (by omega), mI.2.2.2 4 (by omega), mI.2.2.2 6 (by omega), hp]
            refine ⟨g1, g2, by rw [pk_un (by omega)]; exact g3, fun q hq => ?_, g5, g6, g7, fun q hq => ?_, fun q hq hq8 => ?_⟩
            · obtain ⟨u1, u2, u3, u4, u5⟩ := g4 q hq
              refine ⟨by rw [pk_un (by omega)]; exact u1, by rw [pk_un (by omega)]; exact u2, by rw [pk_un (by omega)]; exact u3, ?_, by rw [pk_un (by omega)]; exact u5⟩
              by_cases ck1 : q = j
              · rw [ck1, pk_us, pk_us]
              · rw [pk_un (by omega), pk_un ck1]; exact u4
            · by_cases ck1 : q = j
              · rw [ck1, pk_us]; exact ⟨v', o1, rfl⟩
              · rw [pk_un ck1]; exact g8 q hq
            · rw [pk_un (by omega), pk_un (by omega)]; exact g9 q hq hq8
          · show SgP SI' SR SC (SM'.2.2.1 10) (SM'.2.2.1 11) (SM'.2.2.1 12) n g s r
            rw [m8.1, m8.2.1, m8.2.2.1, hp]
            refine ⟨s1, by rw [mI.1]; exact s2, by rw [pk_un (by omega)]; exact s3, fun q hq => by rw [pk_un (by omega), mI.2.2.2 10 (by omega)]; exact s4 q hq, fun q hq => ?_⟩
            rw [pk_un (by omega)]
            exact s5 q hq
          · show BlP SR SC (SM'.2.2.1 10) (SM'.2.2.1 11) (SM'.2.2.1 12) s r
            unfold BlP
            rw [m8.1, m8.2.1, m8.2.2.1, hp, pk_un (by omega)]; exact hBl
        · exact absurd o5 hc
      · rw [o1]
        refine Or.inr ⟨SR, SG', ST', SC, SI, S', F, rfl, o4, FrA_tr f1 (FrA_tr f2 o2), o3, o5, FrI_tr hF (FrI_tr fr2 o6)⟩
    · have e0 : ¬ SI.2.2.1 5 j = 0 := by rw [ev0]; exact nI_ne0 (by omega) (by omega)
      have e0' : ¬ SI.2.2.1 5 j ≤ 0 := by rw [ev0]; exact nI_nle (by omega) (by omega)
      have e3 : f3_fail 3 SG ST1 = _ := c_fail sy1 3
      have w3 : f12_wrong 3 SM1 = _ := r_wrong z7 z4 z6 z5 3
      have hfl : Flt (oI SM1 8 (nI (3 + 16 * PP C t (i + 1)))) (3 + 16 * PP C t (i + 1)) := ⟨rfl, by omega, by omega⟩
      obtain ⟨S', o1, o2, o3⟩ := x48 (nI p) hfl
      rw [if_neg e0, if_neg e0', e3, bd_s, w3, bd_s]
      exact io_bad (F := 3 + 16 * PP C t (i + 1)) (SM := SM) rfl f1 rfl ⟨S', o1, o2, FrI_tr fr1 (FrI_tr (FrI_I SM1 (by omega) _) o3)⟩ hF
  · have hfl : Flt (oI SM1 8 (nI F)) F := ⟨rfl, hF1, hF2⟩
    obtain ⟨S', o1, o2, o3⟩ := x48 (((63 : Int32) + 5 * 0) + 3) hfl
    rw [d1, bd_s, lt_e, d2, bd_s, lt_e]
    dsimp only
    rw [if_pos (show (-1 : Int32) = -1 from rfl), lt_e, if_neg (flt_ne hfl)]
    exact io_bad (F := F) (SM := SM) rfl f1 rfl ⟨S', o1, o2, FrI_tr fr1 (FrI_tr (FrI_I SM1 (by omega) _) o3)⟩ hF
