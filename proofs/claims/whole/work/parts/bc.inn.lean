/-! pure: inn -/
theorem inn_made {SI1 SI2 : Ob} {q10 r10 r28 r29 : Nat → Int32} {n g : Nat} (hGu : GuP SI1 q10 n g) (s1 : g ≤ 6) (s2 : SI1.1 8 = nI g) (s3 : q10 61 = nI g) (s4 : ∀ q, q < g → q10 (103 + 2 * q) = SI1.2.2.1 10 q ∧ ∃ v, v ≤ 10 ∧ SI1.2.2.1 10 q = nI v) (e1 : SI2.1 = SI1.1) (er : ∀ k, k ≠ 7 → k ≠ 11 → k ≠ 12 → SI2.2.2.1 k = SI1.2.2.1 k) (e10 : ∀ k, k < 60 → r10 k = q10 (60 + k)) (h7 : ∀ j, j < n → ∃ v, v ≤ 99 ∧ SI2.2.2.1 7 j = nI v) (h28 : ∀ q, q < g → r28 q = SI2.2.2.1 11 q ∧ SI2.2.2.1 11 q &&& allS n = SI2.2.2.1 11 q) (h12 : ∀ w, w < 32 → SI2.2.2.1 12 w = so (fun q => decide (q < g) && bt (SI2.2.2.1 11 q) w)) (h29 : ∀ w, w < 32 → r29 w = SI2.2.2.1 12 w) : InnC SI2 n g ∧ InnM SI2 r10 r28 r29 n g := by
  obtain ⟨g1, g2, g3, g4, g5, g6, g7, g8, g9⟩ := hGu
  unfold InnC InnM
  rw [e1, er 2 (by omega) (by omega) (by omega), er 3 (by omega) (by omega) (by omega), er 4 (by omega) (by omega) (by omega), er 5 (by omega) (by omega) (by omega), er 6 (by omega) (by omega) (by omega), er 10 (by omega) (by omega) (by omega)]
  refine ⟨⟨g1, s1, g2, s2, g5, g6, g7, g8, h7, fun s hs => (s4 s hs).2, fun s hs i hi hb => ?_, h12⟩, by rw [e10 0 (by omega)]; exact g3, by rw [e10 1 (by omega)]; exact s3, fun j hj => ?_, fun s hs => ?_, fun s hs => (h28 s hs).1, h29⟩
  · rw [← (h28 s hs).2, b_and, allS_bt hi] at hb
    simp at hb
    exact hb.2
  · rw [e10 _ (by omega), e10 _ (by omega), e10 _ (by omega), e10 _ (by omega), e10 _ (by omega)]
    rw [show 60 + (3 + 5 * j) = 63 + 5 * j by omega, show 60 + (3 + 5 * j + 1) = 63 + 5 * j + 1 by omega, show 60 + (3 + 5 * j + 2) = 63 + 5 * j + 2 by omega, show 60 + (3 + 5 * j + 3) = 63 + 5 * j + 3 by omega, show 60 + (3 + 5 * j + 4) = 63 + 5 * j + 4 by omega]
    exact g4 j hj
  · rw [e10 _ (by omega), show 60 + (43 + 2 * s) = 103 + 2 * s by omega]
    exact (s4 s hs).1
theorem nmr_to {SI SI' : Ob} {many many' : Int32} {l l' : Nat → Int64} {r r' : Nat → Int32} {n g : Nat} (h : NmR SI many l r n g) (e : SI'.2.2.2 = SI.2.2.2) (em : many' = nI (n + g)) (el : ∀ k, k < n + g → l' k = l k ∧ r' k = r k) : NmR SI' many' l' r' n g := by
  obtain ⟨-, ws, id, h1, h2, h3, h4⟩ := h
  refine ⟨em, ws, id, fun k hk => ?_, h2, h3, h4⟩
  rw [(el k hk).1, (el k hk).2, e]
  exact h1 k hk
theorem marks_0 (SX SR SG ST SC SH SJ SB SP : Ob) : ∃ q, f11_inn_58 FU 0 0 SX SR SG ST SC SH SJ SB SP = some (0, sR SX 8 q, SR, SG, ST, SC, SJ, SB, SP) ∧ ∀ k, k < 4 → q k = 0 := by
  obtain ⟨r, e, q, h1, h2⟩ := loop_inv (fun m k S => f11_inn_58 m 0 (nI k) S SR SG ST SC SH SJ SB SP) (fun k S => ∃ q, S = sR SX 8 q ∧ ∀ j, j < k → q j = 0) (fun r => ∃ q, r = (0, sR SX 8 q, SR, SG, ST, SC, SJ, SB, SP) ∧ ∀ j, j < 4 → q j = 0) 4
    (by
      intro m S ⟨q, h1, h2⟩
      refine ⟨_, ?_, q, rfl, h2⟩
      show f11_inn_58 (m + 1) 0 (nI 4) S SR SG ST SC SH SJ SB SP = _
      rw [f11_inn_58, if_pos (show (4 : Int32) ≤ nI 4 by decide), show zz 0 = true from rfl, ck_t, h1])
    (by
      intro m k S hk ⟨q, h1, h2⟩
      refine ⟨sR SX 8 (upd q k 0), ⟨_, rfl, fun j hj => ?_⟩, ?_⟩
      · by_cases hjk : j = k
        · rw [hjk, pk_us]
        · rw [pk_un hjk]; exact h2 j (by omega)
      · show f11_inn_58 (m + 1) 0 (nI k) S SR SG ST SC SH SJ SB SP = f11_inn_58 m 0 (nI (k + 1)) _ SR SG ST SC SH SJ SB SP
        rw [f11_inn_58, if_neg (show ¬ (4 : Int32) ≤ nI k from nI_ge (b := 4) hk (by omega)), inb_nI hk (by omega), ck_t, lt_e, lt_e, nI_clamp (by omega), nI_1, h1, sR_oA, nb_0])
    FU 0 SX (Nat.zero_le _) (FU_lt (by omega)) ⟨SX.2.2.1 8, by unfold sR; rw [va_self], fun j hj => absurd hj (by omega)⟩
  exact ⟨q, by rw [← h1]; exact e, h2⟩
theorem st_inn : St_inn Inv := by
  intro cs sm h
  obtain ⟨n, g, hI⟩ := h
  have hI2 := id hI
  obtain ⟨hC, hM, -, -, -, hT, hMo, -, hNm⟩ := hI2
  have hT' : TpR (cs 3) ((oI sm 0 0).1 2) ((oI sm 0 0).2.2.1 1) ((oI sm 0 0).2.2.2 9) := hT
  obtain ⟨C, t, N, ST1, SM1, a1, a2, a3, a4, a5, a6, a7, a8, a9, a10⟩ := begin_both hT'
  obtain ⟨SI0, b1, b2, b3, b4⟩ := c_clear (cs 9)
  obtain ⟨p, p1, p2, p3, p4⟩ := r_stands (oI (oI (oI SM1 13 0) 19 0) 20 1)
  obtain ⟨S0, hS0⟩ : ∃ S0, S0 = sR (oI (oI (oI SM1 13 0) 19 0) 20 1) 10 p := ⟨_, rfl⟩
  rw [← hS0] at p1
  have e10 : S0.2.2.1 10 = p := by rw [hS0]; exact sR_at _ _ _
  have s0i : ∀ k, k ≠ 0 → k ≠ 2 → k ≠ 3 → k ≠ 7 → k ≠ 8 → k ≠ 13 → k ≠ 19 → k ≠ 20 → S0.1 k = sm.1 k := fun k k0 k2 k3 k7 k8 k13 k19 k20 => by
    rw [hS0]
    show va_up (va_up (va_up SM1.1 13 _) 19 _) 20 _ k = _
    rw [va_ne _ k20, va_ne _ k19, va_ne _ k13, a6.1 k k2 k3 k7 k8]
    exact va_ne _ k0 _
  have s0r : ∀ k, k ≠ 4 → k ≠ 5 → k ≠ 10 → S0.2.2.1 k = sm.2.2.1 k := fun k k4 k5 k10 => by
    rw [hS0, sR_off _ k10]; exact a6.2.2.1 k k4 k5
  have s010 : ∀ k, k < 60 → S0.2.2.1 10 k = sm.2.2.1 10 k := fun k hk => by
    rw [e10, p2 k hk]
    show SM1.2.2.1 10 k = _
    rw [a6.2.2.1 10 (by omega) (by omega)]; rfl
  have s0l : ∀ k, k ≠ 6 → S0.2.2.2 k = sm.2.2.2 k := fun k k6 => by
    rw [hS0]; exact a6.2.2.2 k k6
  have hsy : Syn C t N (oI (cs 2) 3 0) ST1 S0 0 := ⟨a3, a4, rfl, by rw [hS0]; exact a8, by rw [hS0]; exact a9, Nat.zero_le _, by rw [hS0]; exact RfS_fr a7 rfl rfl rfl rfl⟩
  have hNt := a7.2.1
  have ht := a7.1
  have hP : InP C t N 0 0 S0 (oI (cs 1) 6 0) (oI (cs 2) 3 0) ST1 (oI (cs 4) 3 0) SI0 S0 0 0 0 := by
    refine ⟨hsy, FrI_7 (Fr7_refl S0), rfl, Nat.le_refl _, by rw [hS0]; rfl, Nat.le_refl _, by rw [hS0]; rfl, by rw [hS0]; rfl, ⟨by rw [hS0]; rfl, fun _ => [], fun _ => 0, fun k hk => absurd hk (by omega), fun k l hk => absurd hk (by omega), fun j hj => absurd hj (by omega), fun s hs => absurd hs (by omega)⟩, ?_, ?_, ?_⟩
    · rw [e10]
      exact ⟨by omega, b2, p3 60 (by omega) (by omega) (by omega), fun j hj => absurd hj (by omega), fun j hj => absurd hj (by omega), fun j hj => absurd hj (by omega), fun j hj => absurd hj (by omega), fun j hj => absurd hj (by omega), fun j _ hj => ⟨p3 _ (by omega) (by omega) (by omega), p3 _ (by omega) (by omega) (by omega)⟩⟩
    · rw [e10]
      exact ⟨by omega, b3, p3 61 (by omega) (by omega) (by omega), fun q hq => absurd hq (by omega), fun q hq => absurd hq (by omega)⟩
    · refine Or.inl ⟨rfl, ?_⟩
      rw [e10, p4]; decide
  have hmain := in_loop N 0 FU FU 0 0 0 0 0 (oI (cs 1) 6 0) (oI (cs 2) 3 0) ST1 (oI (cs 4) 3 0) SI0 S0 (cs 3) (by omega) (FU_lt (by omega)) (FU_lt (by omega)) (Nat.le_refl _) hP a2 b4
  have hcl : f9_readInn (cs 1) (cs 2) (cs 3) (cs 4) (cs 9) = f9_readInn_21 FU 1 (nI 0) (oI (cs 1) 6 0) (oI (cs 2) 3 0) ST1 (oI (cs 4) 3 0) SI0 := by
    unfold f9_readInn
    rw [b1, bd_s, lt_e, a1, bd_s]
    rfl
  have hrf : f12_inn sm = f12_inn_30 FU S0 := by
    unfold f12_inn
    rw [lt_e, a5, bd_s, lt_e, lt_e, lt_e, p1, bd_s]
  have fi : ∀ {SM' : Ob}, FrI S0 SM' → ∀ k, k ≠ 0 → k ≠ 2 → k ≠ 3 → k ≠ 7 → k ≠ 8 → k ≠ 13 → k ≠ 19 → k ≠ 20 → k ≠ 21 → SM'.1 k = sm.1 k := fun hf k k0 k2 k3 k7 k8 k13 k19 k20 k21 => (hf.1 k k7 k8 k13 k19 k21).trans (s0i k k0 k2 k3 k7 k8 k13 k19 k20)
  have fr : ∀ {SM' : Ob}, FrI S0 SM' → ∀ k, k ≠ 4 → k ≠ 5 → k ≠ 10 → k ≠ 11 → k ≠ 12 → k ≠ 17 → SM'.2.2.1 k = sm.2.2.1 k := fun hf k k4 k5 k10 k11 k12 k17 => (hf.2.2.1 k k10 k11 k12 k17).trans (s0r k k4 k5 k10)
  have fl' : ∀ {SM' : Ob}, FrI S0 SM' → ∀ k, k ≠ 6 → k ≠ 15 → SM'.2.2.2 k = sm.2.2.2 k := fun hf k k6 k15 => (hf.2.2.2.1 k k15).trans (s0l k k6)
  have f2 : ∀ {SM' : Ob}, FrI S0 SM' → SM'.1 2 = 0 := fun hf => (hf.1 2 (by omega) (by omega) (by omega) (by omega) (by omega)).trans (by rw [hS0]; exact a10)
  rcases hmain with ⟨SR', ST', SC', SI', SM', n', g', s', r', d1, d2, d3, d4, d5⟩ | ⟨SR', SG', ST', SC', SI', SM', F, d1, d2, d3, d4, d5, d6⟩
  · obtain ⟨hsy', hF, hs, hsi, hr, hri, h20, h19, hNm', hGu, hSg, hBl⟩ := d4
    have hg8 := hGu.1
    have hg2 := hGu.2.1
    obtain ⟨s1, s2, s3, s4, s5⟩ := hSg
    obtain ⟨SM2, k1, k2, k3, k4, k5, k6, k7, k8, k9⟩ := in_keep hsy'.2.2.2.2.1 hr (by omega) h19 (by omega)
    have hq : SgQ SR' SC' SM2 n' g' := by
      intro q hq
      obtain ⟨L, a, n0, r0, c1, c2, c3, c4, c5, c6, c7, c8, c9, c10⟩ := s5 q hq
      refine ⟨L, a, n0, r0, c1, c2, ?_, c4, by omega, ⟨fun k x hx => ?_, ?_⟩, by omega, c8, c9, c10⟩
      · rw [k7 _ (by omega), show 60 + (43 + 2 * q + 1) = 103 + 2 * q + 1 by omega]; exact c3
      · have hl := len_of hx
        rw [(k8 _ (by omega)).1, (k8 _ (by omega)).2]; exact c6.1 k x hx
      · rw [(k8 _ (by omega)).1]; exact c6.2
    have hG : GsR SI' (SM2.2.2.1 10) n' := by
      obtain ⟨g1, g2, g3, g4, g5, g6, g7, g8, g9⟩ := hGu
      refine ⟨g1, g2, by rw [k7 0 (by omega)]; exact g3, fun j hj => ?_, fun j hj => ?_⟩
      · rw [k7 _ (by omega), k7 _ (by omega), show 60 + (3 + 5 * j + 1) = 63 + 5 * j + 1 by omega, show 60 + (3 + 5 * j + 2) = 63 + 5 * j + 2 by omega]
        exact ⟨(g4 j hj).2.1, (g4 j hj).2.2.1⟩
      · obtain ⟨v, v1, v2, v3⟩ := g6 j hj
        exact ⟨v, v2, v3⟩
    obtain ⟨SC1, SI1, SM3, o1, o2, o3⟩ := signs_both (SR := SR') (SG := oI (cs 2) 3 0) hG s1 s2 (by rw [k7 1 (by omega)]; exact s3) hq g' 0 FU FU SC' SI' SM2 (by omega) (FU_lt (by omega)) (FU_lt (by omega)) ⟨FrS_refl _, ⟨rfl, rfl, rfl, fun _ _ _ => rfl⟩, fun w hw => by
      rw [d5 w hw]
      exact so_eq (fun i hi => by rw [b_0]; simp), fun q hq => absurd hq (by omega), rfl, rfl, rfl, fun _ _ _ => rfl⟩
    obtain ⟨i1, ⟨i2, i3, i4, i5⟩, i6, i7, i8, i9, i10, i11⟩ := id o3
    have m10 : SM3.2.2.1 10 = SM2.2.2.1 10 := i11 10 (by omega) (by omega)
    obtain ⟨SM4, x1, x2, x3, x4, x5, x6, x7, x8, x9, x10, x11, x12⟩ := r_begins (SM := SM3) (n := n') (g := g') (by rw [m10]; exact hG.2.2.1) hg8 (by rw [m10, k7 1 (by omega)]; exact s3) s1
    have y10 : SM4.2.2.1 10 = SM2.2.2.1 10 := (x6 10 (by omega) (by omega) (by omega) (by omega)).trans m10
    have y11 : SM4.2.2.1 11 = SM2.2.2.1 11 := (x6 11 (by omega) (by omega) (by omega) (by omega)).trans (i11 11 (by omega) (by omega))
    have y12 : SM4.2.2.1 12 = SM2.2.2.1 12 := (x6 12 (by omega) (by omega) (by omega) (by omega)).trans (i11 12 (by omega) (by omega))
    have hBq : BlQ SR' SC1 (SM4.2.2.1 10) (SM4.2.2.1 11) (SM4.2.2.1 12) := by
      unfold BlQ
      rw [y10, y11, y12, k7 2 (by omega)]
      rcases hBl with hb | ⟨hb, L, a, r0, c1, c2, c3, c4, c5, c6, c7, c8, c9⟩
      · exact Or.inl hb
      · refine Or.inr ⟨hb, L, a, r0, c1, c2, c3, fun k x hx => ?_, by omega, ⟨fun k x hx => ?_, ?_⟩, by omega, c8, c9⟩
        · rw [i1.2.2.1 0 (by omega), i1.2.2.1 1 (by omega)]; exact c4 k x hx
        · have hl := len_of hx
          rw [(k8 _ (by omega)).1, (k8 _ (by omega)).2]; exact c6.1 k x hx
        · rw [(k8 _ (by omega)).1]; exact c6.2
    obtain ⟨SC2, SI2, z1, z2, z3, z4, z5, z6⟩ := bills_of (SR := SR') (SG := oI (cs 2) 3 0) (SC0 := SC1) (SI0 := SI1) (n := n') (by rw [i2]; exact hg2) hg8 hBq
    have o1' : f9_workOut SR' (oI (cs 2) 3 0) SC' SI' = some (SC2, SI2) := by
      unfold f9_workOut
      rw [← z1]; exact o1
    have o2' : f12_begins SM2 = some SM4 := by
      unfold f12_begins
      rw [← x1]; exact o2
    have hn2 : SI2.1 0 = nI n' := by rw [z2, i2]; exact hg2
    obtain ⟨q, v1, v2⟩ := marks_0 (cs 0) SR' (oI (cs 2) 3 0) (oI ST' 2 0) SC2 (cs 8) SI2 (oI (oI (oI (oI (cs 10) 0 (allS n')) 1 0) 3 0) 6 0) (oI (cs 15) 0 0)
    refine ⟨0, sR (cs 0) 8 q, SR', oI (cs 2) 3 0, oI ST' 2 0, SC2, SI2, oI (oI (oI (oI (cs 10) 0 (allS n')) 1 0) 3 0) 6 0, oI (cs 15) 0 0, SM4, ?_, ?_, n', g', ?_⟩
    · unfold f11_inn
      rw [hcl, d1]
      unfold f9_readInn_56 f9_readInn_73
      rw [lt_e, if_neg (show ¬ (1 : Int32) = 0 by decide), o1', bd_s, bd_s, lt_e, lt_e]
      show (if (0 : Int32) = 0 then (bd (f4_all SI2) fun r_6 => bd (f0_open r_6 (cs 10)) fun r_8 => f11_inn_58 FU 0 0 (cs 0) SR' (oI (cs 2) 3 0) (oI ST' 2 0) SC2 (cs 8) SI2 r_8 (oI (cs 15) 0 0)) else _) = _
      rw [if_pos (show (0 : Int32) = 0 from rfl), s4_all hn2 hg8, bd_s]
      unfold f0_open
      rw [lt_e, lt_e, lt_e, lt_e, bd_s, v1]
    · rw [hrf, d2, k1, o2', bd_s]
    · rw [show csI 0 cs (sR (cs 0) 8 q) SR' (oI (cs 2) 3 0) (oI ST' 2 0) SC2 SI2 (oI (oI (oI (oI (cs 10) 0 (allS n')) 1 0) 3 0) 6 0) (oI (cs 15) 0 0) = va_up (va_up (va_up (va_up (va_up (va_up (va_up (va_up (va_up cs 0 (sR (cs 0) 8 q)) 1 SR') 2 (oI (cs 2) 3 0)) 3 (oI ST' 2 0)) 4 SC2) 10 (oI (oI (oI (oI (cs 10) 0 (allS n')) 1 0) 3 0) 6 0)) 15 (oI (cs 15) 0 0)) 8 SI2) 9 (cs 8) from rfl]
      have er : ∀ k, k ≠ 7 → k ≠ 11 → k ≠ 12 → SI2.2.2.1 k = SI'.2.2.1 k := fun k c1 c2 c3 => (z4 k c1).trans (i5 k c2 c3)
      have m28 : ∀ q, q < g' → SM4.2.2.1 28 q = SI2.2.2.1 11 q ∧ SI2.2.2.1 11 q &&& allS n' = SI2.2.2.1 11 q := fun q hq => by
        rw [x6 28 (by omega) (by omega) (by omega) (by omega), z4 11 (by omega)]; exact i7 q hq
      have m12 : ∀ w, w < 32 → SI2.2.2.1 12 w = so (fun q => decide (q < g') && bt (SI2.2.2.1 11 q) w) := fun w hw => by
        rw [z4 12 (by omega), z4 11 (by omega)]; exact i6 w hw
      have m29 : ∀ w, w < 32 → SM4.2.2.1 29 w = SI2.2.2.1 12 w := fun w hw => by
        rw [x7 w hw, m12 w hw]
        refine so_cong (fun q _ => ?_)
        by_cases hq : q < g'
        · rw [← (m28 q hq).1, x6 28 (by omega) (by omega) (by omega) (by omega)]
        · rw [decide_eq_false hq]; rfl
      obtain ⟨hC2, hM2⟩ := inn_made (SI1 := SI') (SI2 := SI2) (q10 := SM'.2.2.1 10) (r10 := SM4.2.2.1 10) (r28 := SM4.2.2.1 28) (r29 := SM4.2.2.1 29) hGu s1 s2 s3 s4 (z2.trans i2) er (fun k hk => by rw [y10]; exact k7 k hk) z5 m28 m12 m29
      refine ⟨hC2, hM2, ?_, ?_, ?_, ?_, ?_, z6, ?_⟩
      · show BkR (oI (oI (oI (oI (cs 10) 0 (allS n')) 1 0) 3 0) 6 0) (SM4.2.2.1 25) 0 n' g'
        refine ⟨x8, fun i hi hb => ?_, ⟨0, by omega, rfl, x9, fun k hk => absurd hk (by omega)⟩, ⟨0, by omega, rfl, x10, fun k hk => absurd hk (by omega)⟩⟩
        have hb' : bt (allS n') i = true := hb
        rw [allS_bt hi] at hb'
        exact of_decide_eq_true hb'
      · show UnR (oI (oI (oI (oI (cs 10) 0 (allS n')) 1 0) 3 0) 6 0) (SM4.2.2.1 25) (SM4.1 26) n'
        exact ⟨0, 0, fun _ => 0, by omega, by omega, rfl, x3, rfl, fun e he => absurd he (by omega), fun e f _ he => absurd he (by omega), fun e he => absurd he (by omega)⟩
      · intro m hm
        refine ⟨?_, Or.inl (x12 m hm), fun h1 => ?_⟩
        · show (sR (cs 0) 8 q).2.2.1 8 m = _
          rw [sR_at, v2 m hm, x12 m hm]
        · rw [x12 m hm] at h1
          exact absurd h1 (by decide)
      · show TpR (oI ST' 2 0) (SM4.1 2) (SM4.2.2.1 1) (SM4.2.2.2 9)
        rw [x2 2 (by omega), i8, k2 2 (by omega), f2 hF, x5, i10, k6 9 (by omega), fl' hF 9 (by omega) (by omega)]
        exact tpr_0 hT d3
      · show MoR (oI (cs 15) 0 0) (SM4.2.2.1 10) (SM4.2.2.1 11) (SM4.2.2.1 12) (SM4.2.2.1 22) (SM4.2.2.1 28)
        exact ⟨0, by omega, rfl, x11, fun k hk => absurd hk (by omega)⟩
      · show NmR SI2 (SM4.1 18) (SM4.2.2.2 14) (SM4.2.2.1 16) n' g'
        refine nmr_to hNm' (z3.trans i4) (by rw [x2 18 (by omega), i8]; exact k3) (fun k hk => ?_)
        rw [x5, i10, x6 16 (by omega) (by omega) (by omega) (by omega), i11 16 (by omega) (by omega)]
        exact k9 k hk
  · have hF0 : ¬ nI F = 0 := nI_ne0 d3 (by omega)
    have hnz : nz (nI F) = true := decide_eq_true hF0
    refine ⟨nI F, cs 0, SR', SG', oI ST' 2 0, SC', SI', cs 10, cs 15, SM', ?_, by rw [hrf, d2], n, g, ?_⟩
    · unfold f11_inn
      rw [hcl, d1, bd_s, lt_e]
      show (if nI F = 0 then _ else ck (nz (nI F)) _) = _
      rw [if_neg hF0, hnz, ck_t]
    · rw [show csI (nI F) cs (cs 0) SR' SG' (oI ST' 2 0) SC' SI' (cs 10) (cs 15) = va_up (va_up (va_up (va_up (va_up (va_up (va_up (va_up cs 0 (cs 0)) 1 SR') 2 SG') 3 (oI ST' 2 0)) 4 SC') 9 SI') 10 (cs 10)) 15 (cs 15) from if_neg hF0]
      have g10 : Like 0 60 (SM'.2.2.1 10) (sm.2.2.1 10) := fun i _ hi => by rw [d6.2.2.2.2.1 i hi, s010 i hi]
      have g28 : SM'.2.2.1 28 = sm.2.2.1 28 := fr d6 28 (by omega) (by omega) (by omega) (by omega) (by omega) (by omega)
      have g11 : Like 0 2200 (SM'.2.2.1 11) (sm.2.2.1 11) := fun i _ hi => by rw [(d6.2.2.2.2.2 i hi).1, s0r 11 (by omega) (by omega) (by omega)]
      have g12 : Like 0 2200 (SM'.2.2.1 12) (sm.2.2.1 12) := fun i _ hi => by rw [(d6.2.2.2.2.2 i hi).2, s0r 12 (by omega) (by omega) (by omega)]
      refine inv_to hI rfl rfl rfl (fun m hm => ?_) ?_ g10 g28 (fr d6 29 (by omega) (by omega) (by omega) (by omega) (by omega) (by omega)) (fr d6 25 (by omega) (by omega) (by omega) (by omega) (by omega) (by omega)) (fr d6 27 (by omega) (by omega) (by omega) (by omega) (by omega) (by omega)) (fi d6 26 (by omega) (by omega) (by omega) (by omega) (by omega) (by omega) (by omega) (by omega) (by omega)) (fi d6 18 (by omega) (by omega) (by omega) (by omega) (by omega) (by omega) (by omega) (by omega) (by omega)) (fl' d6 14 (by omega) (by omega)) (fr d6 16 (by omega) (by omega) (by omega) (by omega) (by omega) (by omega)) (fun i i1 hi => g11 i i1 (by omega)) (fun i i1 hi => g12 i i1 (by omega)) ?_
      · rw [va_ne _ (by omega), va_ne _ (by omega), va_ne _ (by omega), va_ne _ (by omega), va_ne _ (by omega), va_ne _ (by omega), va_ne _ (by omega), va_ne _ (by omega)]
      · show TpR (oI ST' 2 0) (SM'.1 2) (SM'.2.2.1 1) (SM'.2.2.2 9)
        rw [f2 d6, fl' d6 9 (by omega) (by omega)]
        exact tpr_0 hT d5
      · show MoR (cs 15) (SM'.2.2.1 10) (SM'.2.2.1 11) (SM'.2.2.1 12) (SM'.2.2.1 22) (SM'.2.2.1 28)
        rw [g28, fr d6 22 (by omega) (by omega) (by omega) (by omega) (by omega) (by omega)]
        exact mor_to hMo g10 g11 g12 (fun i _ _ => rfl)
