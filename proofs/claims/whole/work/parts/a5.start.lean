/-! pure: where reading begins; what stays when it ends -/
theorem begin_both {ST SM : Ob} (h : TpR ST (SM.1 2) (SM.2.2.1 1) (SM.2.2.2 9)) : ∃ (C : Nat → Nat) (t N : Nat) (ST' SM' : Ob), (∀ SG SC, f3_begin SG ST SC = some (oI SG 3 0, ST', oI SC 3 0)) ∧ FrA ST ST' ∧ chC ST' C t ∧ TkQ ST' C t (PP C t 0) ∧ f12_cutAll SM = some SM' ∧ FrT SM SM' ∧ RfS SM' C t N ∧ SM'.1 7 = 0 ∧ SM'.1 8 = 0 ∧ SM'.1 2 = 0 := by
  obtain ⟨⟨t, ht, e1, e2, e3⟩, hk, ST1, hs1, hs2⟩ := h
  obtain ⟨C, hC⟩ : ∃ C : Nat → Nat, C = fun k => Int32.toNatClampNeg (SM.2.2.1 1 k) := ⟨_, rfl⟩
  have hch : ∀ k, k < t → SM.2.2.1 1 k = nI (C k) ∧ (C k = 10 ∨ 32 ≤ C k ∧ C k ≤ 126) := by
    intro k hk
    obtain ⟨-, c, c1, c2⟩ := e3 k hk
    have : C k = c := by rw [hC]; show Int32.toNatClampNeg (SM.2.2.1 1 k) = c; rw [c2, nI_clamp (by omega)]
    rw [this]; exact ⟨c2, c1⟩
  have hcC : chC ST C t := ⟨ht, e1, fun k hk => ⟨(e3 k hk).1.trans (hch k hk).1, (hch k hk).2⟩, fun i hi => by rw [hs2 i hi]; exact key_c hs1 i hi⟩
  have f0 : FrA ST (oI ST 5 0) := FrA_I ⟨fun _ _ _ _ _ => rfl, rfl⟩ (by omega) _
  obtain ⟨ST', a1, a2, a3⟩ := tok_adv (e := 0) (chC_fr hcC f0) rfl (Nat.zero_le _)
  have hcM : chM SM C t := ⟨ht, hch⟩
  have fT : FrT SM (oI (oI SM 3 (SM.1 2)) 2 0) := ⟨fun k k1 k2 k3 k4 => by show va_up (va_up SM.1 3 _) 2 _ k = _; rw [va_ne _ k1, va_ne _ k2], rfl, fun _ _ _ => rfl, fun _ _ => rfl⟩
  obtain ⟨N, SM', b0, b1, b2, b3, b4, b5, b6, b7, b8, b9, b10⟩ := cut_main hcM FU 0 0 (oI (oI SM 3 (SM.1 2)) 2 0) (Nat.le_refl _) (Nat.zero_le _) (FU_lt (by omega)) rfl (fun i hi => absurd hi (by omega)) fT e2 rfl (fun i hi => absurd hi (by omega))
  refine ⟨C, t, N, ST', SM', fun SG SC => ?_, FrA_tr f0 a2, chC_fr (chC_fr hcC f0) a2, a3, ?_, b2, ⟨ht, b0, b3, b4, b5, b6, b7, fun k hk' => ?_, fun k hk => (hch k hk).2⟩, b8, b9, b10⟩
  · unfold f3_begin f10_begin
    rw [lt_e, lt_e, lt_e, a1, bd_s, bd_s]
  · unfold f12_cutAll
    rw [lt_e, lt_e]
    exact b1
  · rw [b2.2.2.2 9 (by omega), hk k hk']; exact key_m k hk'
theorem inv_to {cs cs' : Nat → Ob} {sm sm' : Ob} {n g : Nat} (hI : InvN cs sm n g) (h8 : cs' 8 = cs 8) (h10 : cs' 10 = cs 10) (h0 : cs' 0 = cs 0) (hmk : ∀ m, m < 4 → cs' (11 + m) = cs (11 + m)) (hT : TpR (cs' 3) (sm'.1 2) (sm'.2.2.1 1) (sm'.2.2.2 9)) (r10 : Like 0 60 (sm'.2.2.1 10) (sm.2.2.1 10)) (r28 : sm'.2.2.1 28 = sm.2.2.1 28) (r29 : sm'.2.2.1 29 = sm.2.2.1 29) (r25 : sm'.2.2.1 25 = sm.2.2.1 25) (r27 : sm'.2.2.1 27 = sm.2.2.1 27) (i26 : sm'.1 26 = sm.1 26) (i18 : sm'.1 18 = sm.1 18) (l14 : sm'.2.2.2 14 = sm.2.2.2 14) (r16 : sm'.2.2.1 16 = sm.2.2.1 16) (r11 : Like 0 1100 (sm'.2.2.1 11) (sm.2.2.1 11)) (r12 : Like 0 1100 (sm'.2.2.1 12) (sm.2.2.1 12)) (hMo : MoR (cs' 15) (sm'.2.2.1 10) (sm'.2.2.1 11) (sm'.2.2.1 12) (sm'.2.2.1 22) (sm'.2.2.1 28)) : InvN cs' sm' n g := by
  obtain ⟨hC, hM, hB, hU, hK, -, -, hBi, hNm⟩ := hI
  have hn := hC.1
  have hg := hC.2.1
  refine ⟨by rw [h8]; exact hC, ?_, by rw [h10, r25]; exact hB, by rw [h10, r25, i26]; exact hU, ?_, hT, hMo, ?_, by rw [h8, i18, l14, r16]; exact hNm⟩
  · rw [h8, r28, r29]
    obtain ⟨m1, m2, m3, m4, m5, m6⟩ := hM
    refine ⟨by rw [r10 0 (by omega) (by omega)]; exact m1, by rw [r10 1 (by omega) (by omega)]; exact m2, fun j hj => ?_, fun s hs => ?_, m5, m6⟩
    · rw [r10 _ (by omega) (by omega), r10 _ (by omega) (by omega), r10 _ (by omega) (by omega), r10 _ (by omega) (by omega), r10 _ (by omega) (by omega)]
      exact m3 j hj
    · rw [r10 _ (by omega) (by omega)]; exact m4 s hs
  · intro m hm
    rw [h0, r25, r27, hmk m hm]
    exact hK m hm
  · rw [h8]
    unfold BiR
    rw [r10 2 (by omega) (by omega)]
    rcases hBi with ⟨b1, b2⟩ | ⟨b1, b2⟩
    · exact Or.inl ⟨b1, b2⟩
    · exact Or.inr ⟨b1, fun j hj s s1 s2 s3 s4 s5 => b2 j hj s (fun i i1 i2 => (s1 i i1 i2).trans (r11 i i1 i2)) (fun i i1 i2 => (s2 i i1 i2).trans (r12 i i1 i2)) s3 s4 s5⟩
theorem mor_to {SP : Ob} {r10 r11 r12 r22 r28 q10 q11 q12 q22 : Nat → Int32} (h : MoR SP r10 r11 r12 r22 r28) (e10 : Like 0 60 q10 r10) (e11 : Like 0 2200 q11 r11) (e12 : Like 0 2200 q12 r12) (e22 : Like 0 80 q22 r22) : MoR SP q10 q11 q12 q22 r28 := by
  obtain ⟨l, h1, h2, h3, h4⟩ := h
  refine ⟨l, h1, h2, by rw [e22 0 (by omega) (by omega)]; exact h3, fun k hk => ?_⟩
  obtain ⟨a1, a2, v, a3, a4⟩ := h4 k hk
  refine ⟨a1, by rw [e22 _ (by omega) (by omega)]; exact a2, v, fun sm s10 s11 s12 s22 s28 => ?_, a4⟩
  exact a3 sm (fun i i1 i2 => (s10 i i1 i2).trans (e10 i i1 i2)) (fun i i1 i2 => (s11 i i1 i2).trans (e11 i i1 i2)) (fun i i1 i2 => (s12 i i1 i2).trans (e12 i i1 i2)) (fun i i1 i2 => (s22 i i1 i2).trans (e22 i i1 i2)) s28
theorem tpr_0 {ST ST' : Ob} {len : Int32} {r1 q1 : Nat → Int32} {w9 : Nat → Int64} (h : TpR ST len r1 w9) (hf : FrA ST ST') : TpR (oI ST' 2 0) 0 q1 w9 := by
  obtain ⟨-, hk, ST1, hs1, hs2⟩ := h
  refine ⟨⟨0, by omega, rfl, rfl, fun k hk => absurd hk (by omega)⟩, hk, ST1, hs1, fun i hi => ?_⟩
  show ST'.2.2.2 1 i = _
  rw [hf.2]; exact hs2 i hi
theorem st_morning : St_morning Inv := by
  intro cs sm h
  obtain ⟨n, g, hI⟩ := h
  have hI2 := id hI
  obtain ⟨hC, hM, -, -, -, hT, hMo, -, hNm⟩ := hI2
  have hT' : TpR (cs 3) ((oI sm 0 0).1 2) ((oI sm 0 0).2.2.1 1) ((oI sm 0 0).2.2.2 9) := hT
  obtain ⟨C, t, N, ST1, SM1, a1, a2, a3, a4, a5, a6, a7, a8, a9, a10⟩ := begin_both hT'
  obtain ⟨S0, hS0⟩ : ∃ S0, S0 = oI (oI (oI SM1 13 0) 20 0) 21 (nI (20 + g)) := ⟨_, rfl⟩
  have s0i : ∀ k, k ≠ 0 → k ≠ 2 → k ≠ 3 → k ≠ 7 → k ≠ 8 → k ≠ 13 → k ≠ 20 → k ≠ 21 → S0.1 k = sm.1 k := fun k k0 k2 k3 k7 k8 k13 k20 k21 => by
    rw [hS0]
    show va_up (va_up (va_up SM1.1 13 _) 20 _) 21 _ k = _
    rw [va_ne _ k21, va_ne _ k20, va_ne _ k13, a6.1 k k2 k3 k7 k8]
    exact va_ne _ k0 _
  have s0r : ∀ k, k ≠ 4 → k ≠ 5 → S0.2.2.1 k = sm.2.2.1 k := fun k k4 k5 => by
    rw [hS0]; exact a6.2.2.1 k k4 k5
  have s0l : ∀ k, k ≠ 6 → S0.2.2.2 k = sm.2.2.2 k := fun k k6 => by
    rw [hS0]; exact a6.2.2.2 k k6
  have hm : MoC (cs 8) S0 n g := ⟨hC, by rw [hS0]; rfl, by rw [hS0]; rfl, by
    rw [s0i 18 (by omega) (by omega) (by omega) (by omega) (by omega) (by omega) (by omega) (by omega), s0l 14 (by omega), s0r 16 (by omega) (by omega)]; exact hNm⟩
  have hM0 : InnM (cs 8) (S0.2.2.1 10) (S0.2.2.1 28) (sm.2.2.1 29) n g := by
    rw [s0r 10 (by omega) (by omega), s0r 28 (by omega) (by omega)]; exact hM
  have hsy : Syn C t N (oI (cs 2) 3 0) ST1 S0 0 := ⟨a3, a4, rfl, by rw [hS0]; exact a8, by rw [hS0]; exact a9, Nat.zero_le _, by rw [hS0]; exact RfS_fr a7 rfl rfl rfl rfl⟩
  have hNt := a7.2.1
  have ht := a7.1
  have hmain := mo_loop hm hM0 (cs 1) N 0 FU FU 0 0 0 (oI (cs 2) 3 0) ST1 (oI (cs 4) 3 0) (oI (cs 16) 0 0) S0 (cs 3) (by omega) (FU_lt (by omega)) (FU_lt (by omega)) (Nat.le_refl _) (FrM_refl S0) hsy (by rw [hS0]; rfl) (Nat.le_refl _) (by omega) rfl a2 (fun k hk => absurd hk (by omega))
  have hcl : ∀ (c : Int32) SG' ST' SC' SN', f9_readMorning_18 FU 1 (nI 0) (cs 1) (oI (cs 2) 3 0) ST1 (oI (cs 4) 3 0) (cs 8) (oI (cs 16) 0 0) = some (c, SG', ST', SC', SN') → f11_morning (cs 0) (cs 1) (cs 2) (cs 3) (cs 4) (cs 8) (cs 16) = some (c, cs 0, SG', ST', SC', SN') := by
    intro c SG' ST' SC' SN' e
    have e' : f9_readMorning_18 FU 1 0 (cs 1) (oI (cs 2) 3 0) ST1 (oI (cs 4) 3 0) (cs 8) (oI (cs 16) 0 0) = some (c, SG', ST', SC', SN') := e
    unfold f11_morning f9_readMorning
    rw [lt_e, a1, bd_s]
    show bd (f9_readMorning_18 FU 1 0 (cs 1) (oI (cs 2) 3 0) ST1 (oI (cs 4) 3 0) (cs 8) (oI (cs 16) 0 0)) _ = _
    rw [e', bd_s, lt_e]
    show (if c = 0 then _ else _) = _
    by_cases hc : c = 0
    · rw [if_pos hc, hc]; rfl
    · have hnz : nz c = true := decide_eq_true hc
      rw [if_neg hc]
      show ck (nz c) _ = _
      rw [hnz, ck_t]
  have hrf : f12_morning sm = f12_morning_34 FU (nI 0) S0 := by
    unfold f12_morning
    rw [lt_e, a5, bd_s, lt_e, lt_e, show inb 1 120 = true from rfl, ck_t, lt_e]
    have e10 : SM1.2.2.1 10 1 = nI g := by rw [a6.2.2.1 10 (by omega) (by omega)]; exact hM.2.1
    have e11 : (20 : Int32) + (oI (oI SM1 13 0) 20 0).2.2.1 10 (Int32.toNatClampNeg 1) = nI (20 + g) := by
      show (20 : Int32) + SM1.2.2.1 10 1 = _
      rw [e10, show (20 : Int32) = nI 20 from rfl, nI_add]
    rw [e11, hS0]
    rfl
  have fi : ∀ {SM' : Ob}, FrM S0 SM' → ∀ k, k ≠ 0 → k ≠ 2 → k ≠ 3 → k ≠ 7 → k ≠ 8 → k ≠ 13 → k ≠ 20 → k ≠ 21 → SM'.1 k = sm.1 k := fun hf k k0 k2 k3 k7 k8 k13 k20 k21 => (hf.1 k k7 k8 k13).trans (s0i k k0 k2 k3 k7 k8 k13 k20 k21)
  have fr : ∀ {SM' : Ob}, FrM S0 SM' → ∀ k, k ≠ 4 → k ≠ 5 → k ≠ 11 → k ≠ 12 → k ≠ 22 → SM'.2.2.1 k = sm.2.2.1 k := fun hf k k4 k5 k11 k12 k22 => (hf.2.2.1 k k11 k12 k22).trans (s0r k k4 k5)
  have fl' : ∀ {SM' : Ob}, FrM S0 SM' → ∀ k, k ≠ 6 → SM'.2.2.2 k = sm.2.2.2 k := fun hf k k6 => (by rw [hf.2.2.2.1]; exact s0l k k6)
  have f2 : ∀ {SM' : Ob}, FrM S0 SM' → SM'.1 2 = 0 := fun hf => (hf.1 2 (by omega) (by omega) (by omega)).trans (by rw [hS0]; exact a10)
  rcases hmain with ⟨ST', SC', SN', SM', r', l', p1, p2, p3, p4, p5, p6, p7, p8, p9, p10⟩ | ⟨SG', ST', SC', SN', SM', F, p1, p2, p3, p4, p5, p6⟩
  · obtain ⟨SM2, k1, k2, k3, k4, k5, k6, k7, k8, k9⟩ := mo_keep p8 p6 p7 p5
    refine ⟨0, cs 0, oI (cs 2) 3 0, oI ST' 2 0, SC', SN', SM2, hcl _ _ _ _ _ p1, by rw [hrf, p2, k1], n, g, ?_⟩
    rw [show csM 0 cs (cs 0) (oI (cs 2) 3 0) (oI ST' 2 0) SC' SN' = va_up (va_up (va_up (va_up (va_up (va_up cs 0 (cs 0)) 2 (oI (cs 2) 3 0)) 3 (oI ST' 2 0)) 4 SC') 15 SN') 16 (cs 15) from rfl]
    have g10 : SM2.2.2.1 10 = sm.2.2.1 10 := (k5 10 (by omega) (by omega) (by omega)).trans (fr p4 10 (by omega) (by omega) (by omega) (by omega) (by omega))
    have g28 : SM2.2.2.1 28 = sm.2.2.1 28 := (k5 28 (by omega) (by omega) (by omega)).trans (fr p4 28 (by omega) (by omega) (by omega) (by omega) (by omega))
    refine inv_to hI rfl rfl rfl (fun m hm => ?_) ?_ (fun i _ _ => by rw [g10]) g28 ((k5 29 (by omega) (by omega) (by omega)).trans (fr p4 29 (by omega) (by omega) (by omega) (by omega) (by omega))) ((k5 25 (by omega) (by omega) (by omega)).trans (fr p4 25 (by omega) (by omega) (by omega) (by omega) (by omega))) ((k5 27 (by omega) (by omega) (by omega)).trans (fr p4 27 (by omega) (by omega) (by omega) (by omega) (by omega))) (by rw [k2]; exact fi p4 26 (by omega) (by omega) (by omega) (by omega) (by omega) (by omega) (by omega) (by omega)) (by rw [k2]; exact fi p4 18 (by omega) (by omega) (by omega) (by omega) (by omega) (by omega) (by omega) (by omega)) (by rw [k4]; exact fl' p4 14 (by omega)) ((k5 16 (by omega) (by omega) (by omega)).trans (fr p4 16 (by omega) (by omega) (by omega) (by omega) (by omega))) (fun i _ hi => ?_) (fun i _ hi => ?_) ?_
    · rw [va_ne _ (by omega), va_ne _ (by omega), va_ne _ (by omega), va_ne _ (by omega), va_ne _ (by omega), va_ne _ (by omega)]
    · show TpR (oI ST' 2 0) (SM2.1 2) (SM2.2.2.1 1) (SM2.2.2.2 9)
      rw [k2, f2 p4, k4, fl' p4 9 (by omega)]
      exact tpr_0 hT p3
    · rw [(k8 i hi).1, (p4.2.2.2.2.1 i (by omega)).1, s0r 11 (by omega) (by omega)]
    · rw [(k8 i hi).2, (p4.2.2.2.2.1 i (by omega)).2, s0r 12 (by omega) (by omega)]
    · show MoR SN' (SM2.2.2.1 10) (SM2.2.2.1 11) (SM2.2.2.1 12) (SM2.2.2.1 22) (SM2.2.2.1 28)
      refine ⟨l', p8, p9, k6, fun k hk => ?_⟩
      obtain ⟨x1, x2, w, x3, x4⟩ := p10 k hk
      have e22 : SM2.2.2.1 22 (1 + 3 * k) = SM'.2.2.1 22 (80 + 3 * k) := k7 (3 * k) (by omega)
      refine ⟨x1, by rw [e22]; exact x2, w, fun s s10 s11 s12 s22 s28 => ?_, x4⟩
      refine x3 s (fun i i1 i2 => ?_) (fun i i1 i2 => ?_) (fun j hj => ?_) (fun j hj => ⟨?_, ?_⟩)
      · rw [s10 i i1 i2, g10, s0r 10 (by omega) (by omega)]
      · rw [s28 i i1 i2, g28, s0r 28 (by omega) (by omega)]
      · rw [s22 _ (by omega) (by omega), show 1 + 3 * k + j = 1 + (3 * k + j) by omega, k7 (3 * k + j) (by omega), show 80 + (3 * k + j) = 80 + 3 * k + j by omega]
      · rw [s11 _ (by omega) (by omega), (k9 j hj).1]
      · rw [s12 _ (by omega) (by omega), (k9 j hj).2]
  · have hF0 : ¬ nI F = 0 := nI_ne0 p3 (by omega)
    refine ⟨nI F, cs 0, SG', oI ST' 2 0, SC', SN', SM', hcl _ _ _ _ _ p1, by rw [hrf, p2], n, g, ?_⟩
    rw [show csM (nI F) cs (cs 0) SG' (oI ST' 2 0) SC' SN' = va_up (va_up (va_up (va_up (va_up cs 0 (cs 0)) 2 SG') 3 (oI ST' 2 0)) 4 SC') 16 SN' from if_neg hF0]
    have g10 : SM'.2.2.1 10 = sm.2.2.1 10 := fr p6 10 (by omega) (by omega) (by omega) (by omega) (by omega)
    have g28 : SM'.2.2.1 28 = sm.2.2.1 28 := fr p6 28 (by omega) (by omega) (by omega) (by omega) (by omega)
    have g11 : Like 0 2200 (SM'.2.2.1 11) (sm.2.2.1 11) := fun i _ hi => by rw [(p6.2.2.2.2.1 i hi).1, s0r 11 (by omega) (by omega)]
    have g12 : Like 0 2200 (SM'.2.2.1 12) (sm.2.2.1 12) := fun i _ hi => by rw [(p6.2.2.2.2.1 i hi).2, s0r 12 (by omega) (by omega)]
    refine inv_to hI rfl rfl rfl (fun m hm => ?_) ?_ (fun i _ _ => by rw [g10]) g28 (fr p6 29 (by omega) (by omega) (by omega) (by omega) (by omega)) (fr p6 25 (by omega) (by omega) (by omega) (by omega) (by omega)) (fr p6 27 (by omega) (by omega) (by omega) (by omega) (by omega)) (fi p6 26 (by omega) (by omega) (by omega) (by omega) (by omega) (by omega) (by omega) (by omega)) (fi p6 18 (by omega) (by omega) (by omega) (by omega) (by omega) (by omega) (by omega) (by omega)) (fl' p6 14 (by omega)) (fr p6 16 (by omega) (by omega) (by omega) (by omega) (by omega)) (fun i i1 hi => g11 i i1 (by omega)) (fun i i1 hi => g12 i i1 (by omega)) ?_
    · rw [va_ne _ (by omega), va_ne _ (by omega), va_ne _ (by omega), va_ne _ (by omega), va_ne _ (by omega)]
    · show TpR (oI ST' 2 0) (SM'.1 2) (SM'.2.2.1 1) (SM'.2.2.2 9)
      rw [f2 p6, fl' p6 9 (by omega)]
      exact tpr_0 hT p5
    · show MoR (cs 15) (SM'.2.2.1 10) (SM'.2.2.1 11) (SM'.2.2.1 12) (SM'.2.2.1 22) (SM'.2.2.1 28)
      rw [g28]
      exact mor_to hMo (fun i _ _ => by rw [g10]) g11 g12 (fun i _ hi => by rw [p6.2.2.2.2.2 i hi, s0r 22 (by omega) (by omega)])
