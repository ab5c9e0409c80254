/-! pure: a morning read through -/
theorem lnp_mono {SI : Ob} {r10 r28 a11 a12 a22 b11 b12 b22 : Nat → Int32} {r r' k l : Nat} {v b : Int32} (h : LnP SI r10 r28 a11 a12 a22 r k v b) (hk : k < l) (hr : r ≤ r') (h22 : ∀ j, j < 80 + 3 * l → b22 j = a22 j) (h11 : ∀ j, j < 2200 + r → b11 j = a11 j ∧ b12 j = a12 j) : LnP SI r10 r28 b11 b12 b22 r' k v b := by
  obtain ⟨x1, x2, w, x3, x4⟩ := h
  refine ⟨x1, by rw [h22 _ (by omega)]; exact x2, w, fun sm s10 s28 s22 s11 => x3 sm s10 s28 (fun j hj => by rw [s22 j hj, h22 _ (by omega)]) (fun j hj => ?_), x4⟩
  obtain ⟨e1, e2⟩ := s11 j (by omega)
  obtain ⟨e3, e4⟩ := h11 (2200 + j) (by omega)
  exact ⟨e1.trans e3, e2.trans e4⟩
section
variable {C : Nat → Nat} {t N n g : Nat} {SI S0 : Ob} {r29 : Nat → Int32}
theorem mo_loop (hm : MoC SI S0 n g) (hM : InnM SI (S0.2.2.1 10) (S0.2.2.1 28) r29 n g) (SR : Ob) : ∀ d i m1 m2 q r l SG ST SC SN SM ST0, N - i ≤ d → N - i + 1 < m1 → N - i + 1 < m2 → q ≤ i → FrM S0 SM → Syn C t N SG ST SM i → SM.1 13 = nI r → r ≤ i → l ≤ 24 → SN.1 0 = nI l → FrA ST0 ST → (∀ k, k < l → LnP SI (S0.2.2.1 10) (S0.2.2.1 28) (SM.2.2.1 11) (SM.2.2.1 12) (SM.2.2.1 22) r k (SN.2.2.1 1 k) (SN.2.2.1 2 k)) →
    (∃ ST' SC' SN' SM' r' l', f9_readMorning_18 m1 1 (nI q) SR SG ST SC SI SN = some (0, SG, oI ST' 2 0, SC', SN') ∧ f12_morning_34 m2 (nI l) SM = f12_morning_132 (nI l') SM' ∧ FrA ST0 ST' ∧ FrM S0 SM' ∧ SM'.1 8 = 0 ∧ SM'.1 13 = nI r' ∧ r' ≤ 1000 ∧ l' ≤ 24 ∧ SN'.1 0 = nI l' ∧ (∀ k, k < l' → LnP SI (S0.2.2.1 10) (S0.2.2.1 28) (SM'.2.2.1 11) (SM'.2.2.1 12) (SM'.2.2.1 22) r' k (SN'.2.2.1 1 k) (SN'.2.2.1 2 k))) ∨
    (∃ SG' ST' SC' SN' SM' F, f9_readMorning_18 m1 1 (nI q) SR SG ST SC SI SN = some (nI F, SG', oI ST' 2 0, SC', SN') ∧ f12_morning_34 m2 (nI l) SM = some (nI F, SM') ∧ 0 < F ∧ F < 2 ^ 20 ∧ FrA ST0 ST' ∧ FrM S0 SM') := by
  intro d
  induction d with
  | zero =>
    intro i m1 m2 q r l SG ST SC SN SM ST0 hd hm1 hm2 hq hF hsy hr hri hl hN hfa hln
    obtain ⟨m1, rfl⟩ : ∃ k, m1 = k + 1 := ⟨m1 - 1, by omega⟩
    obtain ⟨m2, rfl⟩ : ∃ k, m2 = k + 1 := ⟨m2 - 1, by omega⟩
    obtain ⟨y1, y2, y3, y4, y5, y6, y7⟩ := id hsy
    have ht := y7.1
    have hNt := y7.2.1
    have hiN : i = N := by omega
    left
    refine ⟨ST, SC, SN, SM, r, l, ?_, ?_, hfa, hF, y5, hr, by omega, hl, hN, hln⟩
    · have hk : kdT C t i = 34 := by rw [hiN]; exact kd_N y7
      rw [f9_readMorning_18, if_neg (show ¬ (1 : Int32) = 0 by decide), (syn_kd hsy).1, hk, if_pos (show nI 34 = 34 from rfl)]
      unfold f9_readMorning_55
      rw [lt_e, y3]
      exact ite_id _
    · rw [f12_morning_34, if_pos y5, y4, inb_nI (by omega) (by omega), ck_t, nI_clamp (by omega), hiN, if_pos y7.2.2.2.2.2.1]
  | succ d ih =>
    intro i m1 m2 q r l SG ST SC SN SM ST0 hd hm1 hm2 hq hF hsy hr hri hl hN hfa hln
    obtain ⟨m1, rfl⟩ : ∃ k, m1 = k + 1 := ⟨m1 - 1, by omega⟩
    obtain ⟨m2, rfl⟩ : ∃ k, m2 = k + 1 := ⟨m2 - 1, by omega⟩
    obtain ⟨y1, y2, y3, y4, y5, y6, y7⟩ := id hsy
    have ht := y7.1
    have hNt := y7.2.1
    by_cases hiN : i = N
    · left
      refine ⟨ST, SC, SN, SM, r, l, ?_, ?_, hfa, hF, y5, hr, by omega, hl, hN, hln⟩
      · have hk : kdT C t i = 34 := by rw [hiN]; exact kd_N y7
        rw [f9_readMorning_18, if_neg (show ¬ (1 : Int32) = 0 by decide), (syn_kd hsy).1, hk, if_pos (show nI 34 = 34 from rfl)]
        unfold f9_readMorning_55
        rw [lt_e, y3]
        exact ite_id _
      · rw [f12_morning_34, if_pos y5, y4, inb_nI (by omega) (by omega), ck_t, nI_clamp (by omega), hiN, if_pos y7.2.2.2.2.2.1]
    · have hi : i < N := by omega
      have hk34 : ¬ kdT C t i = 34 := fun this => by
        have h2 := (y7.2.2.2.1 i hi)
        rcases tK_cases (C := C) h2 with ⟨_, _, e⟩ | ⟨_, _, e⟩ | ⟨_, _, _, e⟩ | ⟨_, _, _, e⟩ | ⟨_, _, hs, e⟩ | ⟨_, _, _, e⟩
        · unfold kdT at this; rw [e] at this; have := kIx_le (wdT C t (PP C t i)); omega
        · unfold kdT at this; rw [e] at this; omega
        · unfold kdT at this; rw [e] at this; omega
        · unfold kdT at this; rw [e] at this; omega
        · unfold kdT at this; rw [e] at this; have := sgn_40 hs; omega
        · unfold kdT at this; rw [e] at this; omega
      have hk61 := (syn_kd hsy).2
      rw [f9_readMorning_18, if_neg (show ¬ (1000 : Int32) ≤ nI q from nI_ge (b := 1000) (by omega) (by omega)), if_neg (show ¬ (1 : Int32) = 0 by decide), (syn_kd hsy).1, if_neg (show ¬ nI (kdT C t i) = 34 from fun e => hk34 ((nI_eq (b := 34) (by omega) (by omega)).mp e))]
      rcases mo_line hm hM hF hsy hi hr hri hl hN SR SC with ⟨ST', SC', SN', SM', i', r', v, b, p1, p2, p3, p4, p5, p6, p7, p8, p9, p10, p11, p12, p13, p14, p15, p16⟩ | ⟨SG', ST', SC', SN', SM', F, x, p1, p2, p3, p4, p5, p6⟩
      · rw [p1, bd_s, lt_e, lt_e, p2, nI_1]
        have hi' : i' ≤ N := p3.2.2.2.2.2.1
        refine ih i' m1 m2 (q + 1) r' (l + 1) SG ST' SC' SN' SM' ST0 (by omega) (by omega) (by omega) (by omega) (FrM_tr hF p6) p3 p7 p9 (by omega) p11 (FrA_tr hfa p4) (fun k hk => ?_)
        rw [p12, p13]
        by_cases hkl : k = l
        · rw [hkl, pk_us, pk_us]; exact p16
        · rw [pk_un (by omega), pk_un (by omega)]
          exact lnp_mono (hln k (by omega)) (show k < l by omega) p8 p14 p15
      · right
        obtain ⟨m1, rfl⟩ : ∃ k, m1 = k + 1 := ⟨m1 - 1, by omega⟩
        obtain ⟨m2, rfl⟩ : ∃ k, m2 = k + 1 := ⟨m2 - 1, by omega⟩
        refine ⟨SG', ST', SC', SN', SM', F, ?_, ?_, p4.2.1, p4.2.2, FrA_tr hfa p2, FrM_tr hF p5⟩
        · rw [p1, bd_s, lt_e, lt_e]
          show f9_readMorning_18 (m1 + 1) 0 (nI q + 1) SR SG' ST' SC' SI SN' = _
          rw [f9_readMorning_18, if_pos (show (0 : Int32) = 0 from rfl)]
          unfold f9_readMorning_55
          rw [lt_e, p3]
          exact ite_id _
        · rw [p6, f12_morning_34, if_neg (flt_ne p4)]
          unfold f12_morning_132
          rw [if_neg (flt_nle p4), p4.1]
end
/-- what was read is laid where it stays -/
theorem mo_keep {SM : Ob} {l r : Nat} (hl : l ≤ 24) (h13 : SM.1 13 = nI r) (hr : r ≤ 1000) (h8 : SM.1 8 = 0) : ∃ SM', f12_morning_132 (nI l) SM = some (0, SM') ∧ SM'.1 = SM.1 ∧ SM'.2.1 = SM.2.1 ∧ SM'.2.2.2 = SM.2.2.2 ∧ (∀ k, k ≠ 11 → k ≠ 12 → k ≠ 22 → SM'.2.2.1 k = SM.2.2.1 k) ∧ SM'.2.2.1 22 0 = nI l ∧ (∀ k, k < 3 * l → SM'.2.2.1 22 (1 + k) = SM.2.2.1 22 (80 + k)) ∧ (∀ k, k < 1100 → SM'.2.2.1 11 k = SM.2.2.1 11 k ∧ SM'.2.2.1 12 k = SM.2.2.1 12 k) ∧ ∀ k, k < r → SM'.2.2.1 11 (1100 + k) = SM.2.2.1 11 (2200 + k) ∧ SM'.2.2.1 12 (1100 + k) = SM.2.2.1 12 (2200 + k) := by
  unfold f12_morning_132
  rw [if_pos (show SM.1 8 ≤ 0 by rw [h8]; decide), show inb 0 160 = true from rfl, ck_t, lt_e, show Int32.toNatClampNeg 0 = 0 from rfl]
  obtain ⟨S1, ⟨b1, b2, b3, b4, b5, b6, b7⟩, e1⟩ := loop_to (fun m k S => f12_morning_153 m (nI l) (nI k) S) (fun k S => S.1 = SM.1 ∧ S.2.1 = SM.2.1 ∧ S.2.2.2 = SM.2.2.2 ∧ (∀ j, j ≠ 22 → S.2.2.1 j = SM.2.2.1 j) ∧ S.2.2.1 22 0 = nI l ∧ (∀ j, j < k → S.2.2.1 22 (1 + j) = SM.2.2.1 22 (80 + j)) ∧ ∀ j, 80 ≤ j → S.2.2.1 22 j = SM.2.2.1 22 j) (fun S => f12_morning_185 FU 0 S) (3 * l)
    (by
      intro m S _
      show f12_morning_153 (m + 1) (nI l) (nI (3 * l)) S = _
      rw [f12_morning_153, show (3 : Int32) = nI 3 from rfl, pk_mul, if_pos (nI_le (Nat.le_refl _) (by omega))])
    (by
      intro m k S hk ⟨b1, b2, b3, b4, b5, b6, b7⟩
      refine ⟨oA S 22 (1 + k) (S.2.2.1 22 (80 + k)), ⟨b1, b2, b3, fun j hj => ?_, ?_, fun j hj => ?_, fun j hj => ?_⟩, ?_⟩
      · show va_up S.2.2.1 22 _ j = _
        rw [va_ne _ hj]; exact b4 j hj
      · show upd (S.2.2.1 22) (1 + k) _ 0 = _
        rw [pk_un (by omega)]; exact b5
      · show upd (S.2.2.1 22) (1 + k) _ (1 + j) = _
        by_cases hjk : j = k
        · rw [hjk, pk_us]; exact b7 _ (by omega)
        · rw [pk_un (by omega)]; exact b6 j (by omega)
      · show upd (S.2.2.1 22) (1 + k) _ j = _
        rw [pk_un (by omega)]; exact b7 j hj
      · show f12_morning_153 (m + 1) (nI l) (nI k) S = f12_morning_153 m (nI l) (nI (k + 1)) _
        have i1 : (80 : Int32) + nI k = nI (80 + k) := by rw [show (80 : Int32) = nI 80 from rfl, nI_add]
        have i2 : (1 : Int32) + nI k = nI (1 + k) := by rw [show (1 : Int32) = nI 1 from rfl, nI_add]
        rw [f12_morning_153, show (3 : Int32) = nI 3 from rfl, pk_mul, if_neg (nI_ge hk (by omega)), i1, i2, inb_nI (by omega) (by omega), ck_t, inb_nI (by omega) (by omega), ck_t, lt_e, lt_e, nI_clamp (by omega), nI_clamp (by omega), nI_1])
    FU 0 (oA SM 22 0 (nI l)) (Nat.zero_le _) (FU_lt (by omega)) ⟨rfl, rfl, rfl, fun j hj => va_ne _ hj _, rfl, fun j hj => absurd hj (by omega), fun j hj => by show upd (SM.2.2.1 22) 0 (nI l) j = _; exact pk_un (by omega)⟩
  have e1' : f12_morning_153 FU (nI l) 0 (oA SM 22 0 (nI l)) = _ := e1
  rw [e1']
  have h13' : S1.1 13 = nI r := by rw [b1]; exact h13
  obtain ⟨S2, e2, c1, c2, c3, c4, c5, c6⟩ := loop_inv (fun m k S => f12_morning_185 m (nI k) S) (fun k S => S.1 = S1.1 ∧ S.2.1 = S1.2.1 ∧ S.2.2.2 = S1.2.2.2 ∧ (∀ j, j ≠ 11 → j ≠ 12 → S.2.2.1 j = S1.2.2.1 j) ∧ (∀ j, j < 1100 ∨ 2200 ≤ j → S.2.2.1 11 j = S1.2.2.1 11 j ∧ S.2.2.1 12 j = S1.2.2.1 12 j) ∧ ∀ j, j < k → S.2.2.1 11 (1100 + j) = S1.2.2.1 11 (2200 + j) ∧ S.2.2.1 12 (1100 + j) = S1.2.2.1 12 (2200 + j)) (fun q => q.1 = 0 ∧ q.2.1 = S1.1 ∧ q.2.2.1 = S1.2.1 ∧ q.2.2.2.2 = S1.2.2.2 ∧ (∀ j, j ≠ 11 → j ≠ 12 → q.2.2.2.1 j = S1.2.2.1 j) ∧ (∀ j, j < 1100 ∨ 2200 ≤ j → q.2.2.2.1 11 j = S1.2.2.1 11 j ∧ q.2.2.2.1 12 j = S1.2.2.1 12 j) ∧ ∀ j, j < r → q.2.2.2.1 11 (1100 + j) = S1.2.2.1 11 (2200 + j) ∧ q.2.2.2.1 12 (1100 + j) = S1.2.2.1 12 (2200 + j)) r
    (by
      intro m S ⟨c1, c2, c3, c4, c5, c6⟩
      refine ⟨(0, S), ?_, rfl, c1, c2, c3, c4, c5, c6⟩
      show f12_morning_185 (m + 1) (nI r) S = _
      rw [f12_morning_185, c1, h13', if_pos (nI_le (Nat.le_refl _) (by omega))])
    (by
      intro m k S hk ⟨c1, c2, c3, c4, c5, c6⟩
      refine ⟨oA (oA S 11 (1100 + k) (S.2.2.1 11 (2200 + k))) 12 (1100 + k) (S.2.2.1 12 (2200 + k)), ⟨c1, c2, c3, fun j hj hj2 => ?_, fun j hj => ?_, fun j hj => ?_⟩, ?_⟩
      · show va_up (va_up S.2.2.1 11 _) 12 _ j = _
        rw [va_ne _ hj2, va_ne _ hj]; exact c4 j hj hj2
      · show upd (S.2.2.1 11) (1100 + k) _ j = _ ∧ upd (S.2.2.1 12) (1100 + k) _ j = _
        rw [pk_un (by omega), pk_un (by omega)]; exact c5 j hj
      · show upd (S.2.2.1 11) (1100 + k) _ (1100 + j) = _ ∧ upd (S.2.2.1 12) (1100 + k) _ (1100 + j) = _
        by_cases hjk : j = k
        · rw [hjk, pk_us, pk_us]; exact c5 _ (by omega)
        · rw [pk_un (by omega), pk_un (by omega)]; exact c6 j (by omega)
      · show f12_morning_185 (m + 1) (nI k) S = f12_morning_185 m (nI (k + 1)) _
        have i1 : (2200 : Int32) + nI k = nI (2200 + k) := by rw [show (2200 : Int32) = nI 2200 from rfl, nI_add]
        have i2 : (1100 : Int32) + nI k = nI (1100 + k) := by rw [show (1100 : Int32) = nI 1100 from rfl, nI_add]
        rw [f12_morning_185, c1, h13', if_neg (nI_ge hk (by omega)), i1, i2, inb_nI (by omega) (by omega), ck_t, inb_nI (by omega) (by omega), ck_t, lt_e, ck_t, ck_t, lt_e, lt_e, nI_clamp (by omega), nI_clamp (by omega), nI_1]
        rfl)
    FU 0 S1 (Nat.zero_le _) (FU_lt (by omega)) ⟨rfl, rfl, rfl, fun _ _ _ => rfl, fun _ _ => ⟨rfl, rfl⟩, fun j hj => absurd hj (by omega)⟩
  obtain ⟨z, S3⟩ := S2
  obtain ⟨c6, c7⟩ := c6
  have e2' : f12_morning_185 FU 0 S1 = some (z, S3) := e2
  have hz : z = 0 := c1
  refine ⟨S3, by rw [e2', hz], by rw [c2, b1], by rw [c3, b2], by rw [c4, b3], fun k k1 k2 k3 => ?_, ?_, fun k hk => ?_, fun k hk => ?_, fun k hk => ?_⟩
  · exact (c5 k k1 k2).trans (b4 k k3)
  · rw [c5 22 (by omega) (by omega)]; exact b5
  · rw [c5 22 (by omega) (by omega)]; exact b6 k hk
  · obtain ⟨g1, g2⟩ := c6 k (Or.inl hk)
    rw [b4 11 (by omega)] at g1
    rw [b4 12 (by omega)] at g2
    exact ⟨g1, g2⟩
  · obtain ⟨g1, g2⟩ := c7 k hk
    rw [b4 11 (by omega)] at g1
    rw [b4 12 (by omega)] at g2
    exact ⟨g1, g2⟩
