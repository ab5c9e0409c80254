/-! pure: a line of an inn; an inn read through -/
theorem rl_66 (x : Option Ob) : (bd x fun r => f12_readLine_66 r) = x := by cases x <;> rfl
theorem in_line {C : Nat → Nat} {t N n g i s r : Nat} {S0 SR SG ST SC SI SM : Ob} (h : InP C t N n g S0 SR SG ST SC SI SM i s r) (hiN : i < N) : IOut C t N S0 SG ST i (f9_innLine SR SG ST SC SI) (bd (f12_readLine SM) fun a => f12_takeSign 59 a) := by
  have hsy := h.1
  have hF := h.2.1
  obtain ⟨y1, y2, y3, y4, y5, y6, y7⟩ := id hsy
  have hp := PP_le C t i
  have ht := y7.1
  have hk61 := (syn_kd hsy).2
  have w0 : f12_isWord 0 SM = _ := r_isWord y7 y4 y6 y5 (k := 0) (by omega)
  have w3 : f12_isWord 3 SM = _ := r_isWord y7 y4 y6 y5 (k := 3) (by omega)
  have w6 : f12_isWord 6 SM = _ := r_isWord y7 y4 y6 y5 (k := 6) (by omega)
  have w7 : f12_isWord 7 SM = _ := r_isWord y7 y4 y6 y5 (k := 7) (by omega)
  have w8 : f12_isWord 8 SM = _ := r_isWord y7 y4 y6 y5 (k := 8) (by omega)
  have ne : ∀ {k : Nat}, k < 2 ^ 31 → kdT C t i ≠ k → ¬ nI (kdT C t i) = nI k := fun hk h e => h ((nI_eq (by omega) hk).mp e)
  unfold f9_innLine f12_readLine
  rw [(syn_kd hsy).1, w0, bd_s]
  by_cases c0 : kdT C t i = 0
  · rw [if_pos (show nI (kdT C t i) = 0 by rw [c0]; rfl), if_neg (fun e => one0.mp e c0), rl_66]
    exact guest_line h hiN
  · rw [if_neg (show ¬ nI (kdT C t i) = 0 from ne (k := 0) (by omega) c0), if_pos (one0.mpr c0), w3, bd_s]
    by_cases c3 : kdT C t i = 3
    · rw [if_pos (show nI (kdT C t i) = 3 by rw [c3]; rfl), if_neg (fun e => one0.mp e c3), rl_66]
      exact sign_line h hiN
    · rw [if_neg (show ¬ nI (kdT C t i) = 3 from ne (k := 3) (by omega) c3), if_pos (one0.mpr c3), w6, bd_s]
      by_cases c6 : kdT C t i = 6
      · rw [if_pos (show nI (kdT C t i) = 6 by rw [c6]; rfl), if_neg (fun e => one0.mp e c6), rl_66]
        exact sees_line h hiN
      · rw [if_neg (show ¬ nI (kdT C t i) = 6 from ne (k := 6) (by omega) c6), if_pos (one0.mpr c6), w7, bd_s]
        by_cases c7 : kdT C t i = 7
        · rw [if_pos (show nI (kdT C t i) = 7 by rw [c7]; rfl), if_neg (fun e => one0.mp e c7), rl_66]
          exact shun_line h hiN
        · rw [if_neg (show ¬ nI (kdT C t i) = 7 from ne (k := 7) (by omega) c7), if_pos (one0.mpr c7), rl_66]
          by_cases c8 : kdT C t i = 8
          · rw [if_pos (show nI (kdT C t i) = 8 by rw [c8]; rfl)]
            exact bill_line h hiN c8
          · have e1 : f3_fail 1 SG ST = _ := c_fail hsy 1
            have v1 : f12_wrong 1 SM = _ := r_wrong y7 y4 y6 y5 1
            have hfl : Flt (oI SM 8 (nI (1 + 16 * PP C t i))) (1 + 16 * PP C t i) := ⟨rfl, by omega, by omega⟩
            rw [if_neg (show ¬ nI (kdT C t i) = 8 from ne (k := 8) (by omega) c8), e1, bd_s]
            unfold f12_readBill
            rw [w8, bd_s, if_pos (one0.mpr c8), v1, bd_s]
            unfold f12_readBill_32 f12_readBill_71
            rw [if_neg (flt_ne hfl), bd_s, x_takeSign hfl]
            exact Or.inr ⟨SR, oI SG 3 (nI (1 + 16 * PP C t i)), ST, SC, SI, _, 1 + 16 * PP C t i, rfl, rfl, ⟨fun _ _ _ _ _ => rfl, rfl⟩, rfl, hfl, FrI_tr hF (FrI_I SM (by omega) _)⟩
theorem in_end {C : Nat → Nat} {t N i : Nat} {SR SG ST SC SI SM : Ob} (hsy : Syn C t N SG ST SM i) (hiN : i = N) (m1 m2 q : Nat) : f9_readInn_21 (m1 + 1) 1 (nI q) SR SG ST SC SI = f9_readInn_56 1 SR SG ST SC SI ∧ f12_inn_30 (m2 + 1) SM = f12_inn_62 SM := by
  obtain ⟨y1, y2, y3, y4, y5, y6, y7⟩ := id hsy
  have ht := y7.1
  have hNt := y7.2.1
  have hk : kdT C t i = 34 := by rw [hiN]; exact kd_N y7
  refine ⟨?_, ?_⟩
  · rw [f9_readInn_21, if_neg (show ¬ (1 : Int32) = 0 by decide), (syn_kd hsy).1, hk, if_pos (show nI 34 = 34 from rfl)]
    exact ite_id _
  · rw [f12_inn_30, if_pos y5, y4, inb_nI (by omega) (by omega), ck_t, nI_clamp (by omega), hiN, if_pos y7.2.2.2.2.2.1]
theorem in_loop {C : Nat → Nat} {t N : Nat} {S0 : Ob} : ∀ d i m1 m2 q n g s r SR SG ST SC SI SM ST0, N - i ≤ d → N - i + 1 < m1 → N - i + 1 < m2 → q ≤ i → InP C t N n g S0 SR SG ST SC SI SM i s r → FrA ST0 ST → (∀ w, w < 32 → SI.2.2.1 12 w = 0) →
    (∃ SR' ST' SC' SI' SM' n' g' s' r', f9_readInn_21 m1 1 (nI q) SR SG ST SC SI = f9_readInn_56 1 SR' SG ST' SC' SI' ∧ f12_inn_30 m2 SM = f12_inn_62 SM' ∧ FrA ST0 ST' ∧ InP C t N n' g' S0 SR' SG ST' SC' SI' SM' N s' r' ∧ ∀ w, w < 32 → SI'.2.2.1 12 w = 0) ∨
    (∃ SR' SG' ST' SC' SI' SM' F, f9_readInn_21 m1 1 (nI q) SR SG ST SC SI = some (nI F, SR', SG', oI ST' 2 0, SC', SI') ∧ f12_inn_30 m2 SM = some (nI F, SM') ∧ 0 < F ∧ F < 2 ^ 20 ∧ FrA ST0 ST' ∧ FrI S0 SM') := by
  intro d
  induction d with
  | zero =>
    intro i m1 m2 q n g s r SR SG ST SC SI SM ST0 hd hm1 hm2 hq h hfa h12
    obtain ⟨m1, rfl⟩ : ∃ k, m1 = k + 1 := ⟨m1 - 1, by omega⟩
    obtain ⟨m2, rfl⟩ : ∃ k, m2 = k + 1 := ⟨m2 - 1, by omega⟩
    have hi6 : i ≤ N := h.1.2.2.2.2.2.1
    have hiN : i = N := by omega
    obtain ⟨e1, e2⟩ := in_end (SR := SR) (SC := SC) (SI := SI) h.1 hiN m1 m2 q
    left
    exact ⟨SR, ST, SC, SI, SM, n, g, s, r, e1, e2, hfa, by rw [hiN] at h; exact h, h12⟩
  | succ d ih =>
    intro i m1 m2 q n g s r SR SG ST SC SI SM ST0 hd hm1 hm2 hq h hfa h12
    obtain ⟨m1, rfl⟩ : ∃ k, m1 = k + 1 := ⟨m1 - 1, by omega⟩
    obtain ⟨m2, rfl⟩ : ∃ k, m2 = k + 1 := ⟨m2 - 1, by omega⟩
    have hsy := h.1
    obtain ⟨y1, y2, y3, y4, y5, y6, y7⟩ := id hsy
    have ht := y7.1
    have hNt := y7.2.1
    by_cases hiN : i = N
    · obtain ⟨e1, e2⟩ := in_end (SR := SR) (SC := SC) (SI := SI) h.1 hiN m1 m2 q
      left
      exact ⟨SR, ST, SC, SI, SM, n, g, s, r, e1, e2, hfa, by rw [hiN] at h; exact h, h12⟩
    · have hi : i < N := by omega
      have hk34 : ¬ kdT C t i = 34 := kd_34 y7 hi
      have hk61 := (syn_kd hsy).2
      have s40 : ¬ SM.2.2.1 4 i = 0 := fun e => hk34 ((srt_kd y7 y6).2.2.2.mp e)
      have er : f12_inn_30 (m2 + 1) SM = bd (bd (f12_readLine SM) fun a => f12_takeSign 59 a) fun r_6 => f12_inn_30 m2 r_6 := by
        rw [f12_inn_30, if_pos y5, y4, inb_nI (by omega) (by omega), ck_t, nI_clamp (by omega), if_neg s40]
        cases f12_readLine SM <;> rfl
      rw [er, f9_readInn_21, if_neg (show ¬ (1000 : Int32) ≤ nI q from nI_ge (b := 1000) (by omega) (by omega)), if_neg (show ¬ (1 : Int32) = 0 by decide), (syn_kd hsy).1, if_neg (show ¬ nI (kdT C t i) = 34 from fun e => hk34 ((nI_eq (b := 34) (by omega) (by omega)).mp e))]
      rcases in_line h hi with ⟨SR', ST', SC', SI', SM', i', n', g', s', r', p1, p2, p3, p4, p5⟩ | ⟨SR', SG', ST', SC', SI', SM', F, p1, p2, p3, p4, p5, p6⟩
      · rw [p1, bd_s, lt_e, lt_e, p2, bd_s, nI_1]
        have hi' : i' ≤ N := p5.1.2.2.2.2.2.1
        exact ih i' m1 m2 (q + 1) n' g' s' r' SR' SG ST' SC' SI' SM' ST0 (by omega) (by omega) (by omega) (by omega) p5 (FrA_tr hfa p3) (fun w hw => by rw [k12_line SR SG ST SC SI _ p1]; exact h12 w hw)
      · right
        obtain ⟨m1, rfl⟩ : ∃ k, m1 = k + 1 := ⟨m1 - 1, by omega⟩
        obtain ⟨m2, rfl⟩ : ∃ k, m2 = k + 1 := ⟨m2 - 1, by omega⟩
        refine ⟨SR', SG', ST', SC', SI', SM', F, ?_, ?_, p5.2.1, p5.2.2, FrA_tr hfa p3, p6⟩
        · rw [p1, bd_s, lt_e, lt_e]
          show f9_readInn_21 (m1 + 1) 0 (nI q + 1) SR' SG' ST' SC' SI' = _
          rw [f9_readInn_21, if_pos (show (0 : Int32) = 0 from rfl), ite_id]
          unfold f9_readInn_56 f9_readInn_73
          rw [lt_e, if_pos (show (0 : Int32) = 0 from rfl), p4]
        · rw [p2, bd_s, f12_inn_30, if_neg (flt_ne p5)]
          unfold f12_inn_62
          rw [if_neg (flt_nle p5), p5.1]
