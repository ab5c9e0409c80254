/-! pure: products, sums, tests -/
def op2 (a b a' b' k : Nat) : Nat := if k = a then b else if k = a' then b' else 0
theorem op2_ok {n a b a' b' : Nat} (h1 : 4 ≤ b) (h2 : b ≤ 10) (h3 : a ≠ 34) (h4 : ckN (b, 0) = a) (h1' : 4 ≤ b') (h2' : b' ≤ 10) (h3' : a' ≠ 34) (h4' : ckN (b', 0) = a') (h5 : n ≤ 8 → b ≤ 5) (h5' : n ≤ 8 → b' ≤ 5) : ∀ k, op2 a b a' b' k = 0 ∨ (4 ≤ op2 a b a' b' k ∧ op2 a b a' b' k ≤ 10 ∧ k ≠ 34 ∧ ckN (op2 a b a' b' k, 0) = k ∧ (n ≤ 8 → op2 a b a' b' k ≤ 5)) := by
  intro k
  unfold op2
  by_cases hk : k = a
  · rw [if_pos hk]; right; rw [h4, hk]; exact ⟨h1, h2, h3, rfl, h5⟩
  · rw [if_neg hk]
    by_cases hk' : k = a'
    · rw [if_pos hk']; right; rw [h4', hk']; exact ⟨h1', h2', h3', rfl, h5'⟩
    · rw [if_neg hk']; exact Or.inl rfl
theorem op2_0 {a b a' b' k : Nat} (h1 : b ≠ 0) (h2 : b' ≠ 0) : op2 a b a' b' k = 0 ↔ k ≠ a ∧ k ≠ a' := by
  unfold op2
  by_cases hk : k = a
  · rw [if_pos hk]; exact ⟨fun h => absurd h h1, fun h => absurd hk h.1⟩
  · rw [if_neg hk]
    by_cases hk' : k = a'
    · rw [if_pos hk']; exact ⟨fun h => absurd h h2, fun h => absurd hk' h.2⟩
    · rw [if_neg hk']; exact ⟨fun _ => ⟨hk, hk'⟩, fun _ => rfl⟩
theorem one0 {p : Prop} [Decidable p] : ((if p then (1 : Int32) else 0) = 0) ↔ ¬ p := by
  by_cases h : p
  · rw [if_pos h]; exact ⟨fun e => absurd e (by decide), fun e => absurd h e⟩
  · rw [if_neg h]; exact ⟨fun _ => h, fun _ => rfl⟩
abbrev SubX (C : Nat → Nat) (t N n g h : Nat) (cs : Ob → Ob → Ob → Option (Int32 × Ob × Ob × Ob)) (rs : Ob → Option Ob) : Prop := ∀ SG ST SC SM i s r, Syn C t N SG ST SM i → SC.1 3 = nI s → s ≤ i → SM.1 13 = nI r → r ≤ i → True → OutP C t N n g h SG ST SC SM i s r (cs SG ST SC) (rs SM)
section
variable {C : Nat → Nat} {t N n g h d : Nat} {rc : Int32 → Ob → Ob → Ob → Option (Int32 × Ob × Ob × Ob)} {rr : Int32 → Ob → Option Ob}
theorem ch_prod (hn : 8 < n) (hsub : SubX C t N n g h (rc (nI d)) (rr (nI d))) : ChH C t N n g h (fun _ => True) (fun SG ST SC => rc (nI d) SG ST SC) (fun SM => rr (nI d) SM) (fun m x2 x3 SG ST SC => f3_product_8 rc m (nI d) x2 x3 SG ST SC) (fun m SM => f12_products_5 rr m (nI d) SM) (op1 42 6) := by
  refine ⟨fun _ _ _ _ => trivial, hsub, op1_ok (by omega) (by omega) (by omega) (by decide) (fun _ => by omega), fun m q SG ST SC k hk hk61 ho => ?_, fun m q SG ST SC => ?_, fun m q SG ST SC k hq hk hk61 ho => ?_, fun m SM i hR h7 hi h8 ho => ?_, fun m SM F hF => ?_, fun m SM i hR h7 hi h8 ho => ?_⟩
  · have hne : ¬ k = 42 := fun e => by rw [e] at ho; exact absurd ho (by decide)
    show f3_product_8 rc (m + 1) (nI d) 1 q SG ST SC = _
    rw [f3_product_8, if_neg (show ¬ (1 : Int32) = 0 by decide), hk, if_neg (show ¬ nI k = 42 from fun e => hne ((nI_eq (b := 42) (by omega) (by omega)).mp e))]
    unfold f3_product_60
    exact ite_id _
  · show f3_product_8 rc (m + 1) (nI d) 0 q SG ST SC = _
    rw [f3_product_8, if_pos (show (0 : Int32) = 0 from rfl)]
    unfold f3_product_60
    exact ite_id _
  · have he : k = 42 := by
      unfold op1 at ho
      by_cases hh : k = 42
      · exact hh
      · rw [if_neg hh] at ho; exact absurd rfl ho
    show f3_product_8 rc (m + 1) (nI d) 1 (nI q) SG ST SC = _
    rw [f3_product_8, if_neg (show ¬ (1000 : Int32) ≤ nI q from nI_ge (b := 1000) hq (by omega)), if_neg (show ¬ (1 : Int32) = 0 by decide), hk, he, if_pos (show nI 42 = 42 from rfl), nI_1]
    rfl
  · have hne : ¬ kdT C t i = 42 := fun e => by rw [e] at ho; exact absurd ho (by decide)
    show f12_products_5 rr (m + 1) (nI d) SM = _
    have hw : f12_hasSign 42 SM = _ := r_hasSign hR h7 hi h8 (k := 42) (by omega) (by omega)
    rw [f12_products_5, hw, bd_s, if_neg hne, if_pos (show (0 : Int32) = 0 from rfl)]
  · show f12_products_5 rr (m + 1) (nI d) SM = _
    rw [f12_products_5, x_hasSign hF, bd_s, if_pos (show (0 : Int32) = 0 from rfl)]
  · have he : kdT C t i = 42 := by
      unfold op1 at ho
      by_cases hh : kdT C t i = 42
      · exact hh
      · rw [if_neg hh] at ho; exact absurd rfl ho
    show f12_products_5 rr (m + 1) (nI d) SM = _
    have hw : f12_hasSign 42 SM = _ := r_hasSign hR h7 hi h8 (k := 42) (by omega) (by omega)
    rw [f12_products_5, hw, bd_s, if_pos he, if_neg (show ¬ (1 : Int32) = 0 by decide), he]
    rfl
theorem sim_prod (hn : 8 < n) (hsub : SubX C t N n g h (rc (nI d)) (rr (nI d))) : SubX C t N n g (h + 1) (f3_product rc (nI d)) (f12_products rr (nI d)) := fun SG ST SC SM i s r a b c e f _ => chain (ch_prod hn hsub) SG ST SC SM i s r a b c e f trivial
theorem ch_sum (hn : 8 < n) (hsub : SubX C t N n g h (f3_product rc (nI d)) (f12_products rr (nI d))) : ChH C t N n g h (fun _ => True) (fun SG ST SC => f3_product rc (nI d) SG ST SC) (fun SM => f12_products rr (nI d) SM) (fun m x2 x3 SG ST SC => f3_sum_8 rc m (nI d) x2 x3 SG ST SC) (fun m SM => f12_sums_5 rr m (nI d) SM) (op2 43 7 45 8) := by
  refine ⟨fun _ _ _ _ => trivial, hsub, op2_ok (by omega) (by omega) (by omega) (by decide) (by omega) (by omega) (by omega) (by decide) (fun _ => by omega) (fun _ => by omega), fun m q SG ST SC k hk hk61 ho => ?_, fun m q SG ST SC => ?_, fun m q SG ST SC k hq hk hk61 ho => ?_, fun m SM i hR h7 hi h8 ho => ?_, fun m SM F hF => ?_, fun m SM i hR h7 hi h8 ho => ?_⟩
  · obtain ⟨n1, n2⟩ := (op2_0 (by omega) (by omega)).mp ho
    show f3_sum_8 rc (m + 1) (nI d) 1 q SG ST SC = _
    rw [f3_sum_8, if_neg (show ¬ (1 : Int32) = 0 by decide), lt_e, hk, if_neg (show ¬ nI k = 43 from fun e => n1 ((nI_eq (b := 43) (by omega) (by omega)).mp e)), if_neg (show ¬ nI k = 45 from fun e => n2 ((nI_eq (b := 45) (by omega) (by omega)).mp e))]
    unfold f3_sum_74
    exact ite_id _
  · show f3_sum_8 rc (m + 1) (nI d) 0 q SG ST SC = _
    rw [f3_sum_8, if_pos (show (0 : Int32) = 0 from rfl)]
    unfold f3_sum_74
    exact ite_id _
  · show f3_sum_8 rc (m + 1) (nI d) 1 (nI q) SG ST SC = _
    rw [f3_sum_8, if_neg (show ¬ (1000 : Int32) ≤ nI q from nI_ge (b := 1000) hq (by omega)), if_neg (show ¬ (1 : Int32) = 0 by decide), lt_e, hk]
    have e45 : f3_sum_45 rc (f3_sum_8 rc m) (nI d) (nI q) (nI k) SG ST SC = bd (f10_advance ST) fun ST1 => bd (f3_product rc (nI d) SG ST1 SC) fun r => bd (f2_put (nI k) 0 r.2.2.2) fun SC1 => f3_sum_8 rc m (nI d) r.1 (nI (q + 1)) r.2.1 r.2.2.1 SC1 := by
      unfold f3_sum_45
      rw [nI_1]
      rfl
    by_cases hh : k = 43
    · rw [if_pos (show nI k = 43 by rw [hh]; rfl), e45]
    · by_cases hh' : k = 45
      · rw [if_neg (show ¬ nI k = 43 from fun e => hh ((nI_eq (b := 43) (by omega) (by omega)).mp e)), if_pos (show nI k = 45 by rw [hh']; rfl), e45]
      · exact absurd ((op2_0 (by omega) (by omega)).mpr ⟨hh, hh'⟩) ho
  · obtain ⟨n1, n2⟩ := (op2_0 (by omega) (by omega)).mp ho
    show f12_sums_5 rr (m + 1) (nI d) SM = _
    have w1 : f12_isSign 43 SM = _ := r_isSign hR h7 hi h8 (k := 43) (by omega) (by omega)
    have w2 : f12_isSign 45 SM = _ := r_isSign hR h7 hi h8 (k := 45) (by omega) (by omega)
    rw [f12_sums_5, w1, bd_s, if_pos (one0.mpr n1), w2, bd_s, if_pos (one0.mpr n2)]
  · show f12_sums_5 rr (m + 1) (nI d) SM = _
    rw [f12_sums_5, x_isSign hF, bd_s, if_pos (show (0 : Int32) = 0 from rfl), x_isSign hF, bd_s, if_pos (show (0 : Int32) = 0 from rfl)]
  · show f12_sums_5 rr (m + 1) (nI d) SM = _
    have w1 : f12_isSign 43 SM = _ := r_isSign hR h7 hi h8 (k := 43) (by omega) (by omega)
    have w2 : f12_isSign 45 SM = _ := r_isSign hR h7 hi h8 (k := 45) (by omega) (by omega)
    rw [f12_sums_5, w1, bd_s]
    by_cases hh : kdT C t i = 43
    · rw [if_neg (fun e => one0.mp e hh)]
      unfold f12_sums_23
      rw [w1, bd_s, lt_e, h7, nI_1, if_pos hh, hh]
      simp only [if_neg (show ¬ (1 : Int32) = 0 by decide)]
      rfl
    · by_cases hh' : kdT C t i = 45
      · rw [if_pos (one0.mpr hh), w2, bd_s, if_neg (fun e => one0.mp e hh')]
        unfold f12_sums_23
        rw [w1, bd_s, lt_e, h7, nI_1, if_neg hh, hh']
        simp only [if_pos (show (0 : Int32) = 0 from rfl)]
        rfl
      · exact absurd ((op2_0 (by omega) (by omega)).mpr ⟨hh, hh'⟩) ho
theorem sim_sum (hn : 8 < n) (hsub : SubX C t N n g h (rc (nI d)) (rr (nI d))) : SubX C t N n g (h + 2) (f3_sum rc (nI d)) (f12_sums rr (nI d)) := fun SG ST SC SM i s r a b c e f _ => chain (ch_sum hn (sim_prod hn hsub)) SG ST SC SM i s r a b c e f trivial
theorem sim_test (hn : 8 < n) (hsub : SubX C t N n g h (rc (nI d)) (rr (nI d))) : SubX C t N n g (h + 3) (f3_test rc (nI d)) (f12_test rr (nI d)) := by
  intro SG ST SC SM i s r hsy hs hsi hr hri _
  have hN := hsy.2.2.2.2.2.2.2.1
  have ht := hsy.2.2.2.2.2.2.1
  unfold f3_test f12_test
  rcases sim_sum hn hsub SG ST SC SM i s r hsy hs hsi hr hri trivial with ⟨ST2, SC2, SM2, i2, L2, q1, q2, q3, q4, q5, q6, q7, q8, q9, q10, q11⟩ | ⟨SG2, ST2, SC2, SM2, i2, r2, s2, F, q1, q2, q3, q4, q5, q6, q7, q8, q9, q10, q11⟩
  · obtain ⟨y1, y2, y3, y4, y5, y6, y7⟩ := id q3
    have hm := (syn_kd q3).2
    have w1 : f12_isSign 60 SM2 = _ := r_isSign y7 y4 y6 y5 (k := 60) (by omega) (by omega)
    have w2 : f12_hasSign 60 SM2 = _ := r_hasSign y7 y4 y6 y5 (k := 60) (by omega) (by omega)
    have w3 : f12_hasSign 61 SM2 = _ := r_hasSign y7 y4 y6 y5 (k := 61) (by omega) (by omega)
    rw [q1, q2, bd_s, bd_s, w1, bd_s, w2, bd_s, lt_e, lt_e, if_neg (show ¬ (1 : Int32) = 0 by decide)]
    show OutP C t N n g (h + 3) SG ST SC SM i s r (if ST2.1 3 = 60 then f3_test_30 rc (nI d) (ST2.1 3) SG ST2 SC2 else if ST2.1 3 = 61 then f3_test_30 rc (nI d) (ST2.1 3) SG ST2 SC2 else f3_test_52 rc 1 SG ST2 SC2) _
    rw [(syn_kd q3).1]
    have go : ∀ b, (b = 9 ∨ b = 10) → kdT C t i2 = ckN (b, 0) → OutP C t N n g (h + 3) SG ST SC SM i s r (f3_test_30 rc (nI d) (nI (kdT C t i2)) SG ST2 SC2) (bd (f12_sums rr (nI d) (oI SM2 7 (nI (i2 + 1)))) fun a => bd (f12_emit (nI (roN (b, 0))) (nI (raN (b, 0))) a) fun c => some c) := by
      intro b hb hk
      have hiN : i2 < N := kd_lt y7 y6 (by rw [hk]; rcases hb with rfl | rfl <;> decide)
      obtain ⟨ST3, e1, f1, sy1⟩ := syn_adv q3 hiN
      unfold f3_test_30
      rw [e1, bd_s]
      rcases sim_sum hn hsub SG ST3 SC2 _ (i2 + 1) (s + L2.length) (r + L2.length) sy1 q6.1 (by omega) q7.1 (by omega) trivial with ⟨ST4, SC4, SM4, i4, L4, p1, p2, p3, p4, p5, p6, p7, p8, p9, p10, p11⟩ | ⟨SG4, ST4, SC4, SM4, i4, r4, s4, F, p1, p2, p3, p4, p5, p6, p7, p8, p9, p10, p11⟩
      · have hi4 : i4 ≤ N := p3.2.2.2.2.2.1
        obtain ⟨SC5, u1, u2⟩ := c_put (x := (b, 0)) p6.1 (by omega) (p := 0) (fun _ => by rcases hb with rfl | rfl <;> rfl)
        obtain ⟨SM5, v1, v2, v3, v4, v5⟩ := r_emitx p7.1 (by omega) (b, 0)
        rw [p1, bd_s, p2, bd_s, v1, bd_s, lt_e, hk]
        show OutP C t N n g (h + 3) SG ST SC SM i s r (bd (f2_put (nI (ckN (b, 0))) 0 SC4) fun w => f3_test_52 rc 1 SG ST4 w) _
        rw [u1, bd_s]
        have p6' : CdA SC2 SC4 (s + L2.length) L4 := p6
        have p7' : CdB SM2 SM4 (r + L2.length) L4 := p7
        refine Or.inl ⟨ST4, SC5, SM5, i4, L2 ++ L4 ++ [(b, 0)], rfl, rfl, syn_F (i' := i4) p3 v2 v3 v4, FrA_tr q4 (FrA_tr f1 p4), by omega, ?_, ?_, FrF_tr q8 (FrF_tr (FrF_I SM2 (Or.inl rfl) _) (FrF_tr p8 v2)), ?_, ?_, ?_⟩
        · refine CdA_app (CdA_app q6 p6') ?_
          rw [List.length_append, ← Nat.add_assoc]; exact u2
        · refine CdB_app (CdB_app q7 p7') ?_
          rw [List.length_append, ← Nat.add_assoc]; exact v5
        · rw [List.length_append, List.length_append]
          show L2.length + L4.length + 1 + i ≤ i4
          omega
        · exact wf_bi q10 p10 (by rcases hb with rfl | rfl <;> rfl) (by omega) (by omega) (by omega)
        · exact lv_app (lv_app q11 p11) (lv_op (by omega) (by omega) (fun _ => by omega))
      · obtain ⟨SC5, s5, u1, u2, u3⟩ := c_put' p6 p7 (nI (kdT C t i2)) 0
        obtain ⟨SM5, v1, v2, v3, v4, v5, -⟩ := r_emit p9 (by omega) (nI (roN (b, 0))) (nI (raN (b, 0)))
        rw [p1, bd_s, p2, bd_s, v1, bd_s, lt_e]
        show OutP C t N n g (h + 3) SG ST SC SM i s r (bd (f2_put (nI (kdT C t i2)) 0 SC4) fun w => f3_test_52 rc 0 SG4 ST4 w) _
        rw [u1, bd_s]
        exact Or.inr ⟨SG4, ST4, SC5, SM5, i4, r4 + 1, s5, F, rfl, rfl, FrA_tr q4 (FrA_tr f1 p3), p4, ⟨v4.trans p5.1, p5.2⟩, u2, u3, FrF_tr q8 (FrF_tr (FrF_I SM2 (Or.inl rfl) _) (FrF_tr p8 v2)), v5, by omega, p11⟩
    by_cases k60 : kdT C t i2 = 60
    · rw [if_pos (show nI (kdT C t i2) = 60 by rw [k60]; rfl), if_pos k60, if_pos k60, if_neg (show ¬ (1 : Int32) = 0 by decide)]
      unfold f12_test_30
      simp only [if_neg (show ¬ (1 : Int32) = 0 by decide)]
      exact go 9 (Or.inl rfl) k60
    · rw [if_neg (show ¬ nI (kdT C t i2) = 60 from fun e => k60 ((nI_eq (b := 60) (by omega) (by omega)).mp e)), if_neg k60, if_neg k60, if_pos (show (0 : Int32) = 0 from rfl), w3, bd_s]
      by_cases k61 : kdT C t i2 = 61
      · rw [if_pos (show nI (kdT C t i2) = 61 by rw [k61]; rfl), if_pos k61, if_neg (show ¬ (1 : Int32) = 0 by decide)]
        unfold f12_test_30
        simp only [if_pos (show (0 : Int32) = 0 from rfl)]
        exact go 10 (Or.inr rfl) k61
      · rw [if_neg (show ¬ nI (kdT C t i2) = 61 from fun e => k61 ((nI_eq (b := 61) (by omega) (by omega)).mp e)), if_neg k61, if_pos (show (0 : Int32) = 0 from rfl)]
        exact Or.inl ⟨ST2, SC2, SM2, i2, L2, rfl, rfl, q3, q4, q5, q6, q7, q8, q9, wf_mono q10 (by omega), q11⟩
  · rw [q1, q2, bd_s, bd_s, x_isSign q5, bd_s, x_hasSign q5, bd_s, if_pos (show (0 : Int32) = 0 from rfl), x_hasSign q5, bd_s, if_pos (show (0 : Int32) = 0 from rfl), lt_e, lt_e, if_pos (show (0 : Int32) = 0 from rfl)]
    exact Or.inr ⟨SG2, ST2, SC2, SM2, i2, r2, s2, F, rfl, rfl, q3, q4, q5, q6, q7, q8, q9, q10, q11⟩
theorem ch_all (hn : 8 < n) (hsub : SubX C t N n g h (f3_test rc (nI d)) (f12_test rr (nI d))) : ChH C t N n g h (fun _ => True) (fun SG ST SC => f3_test rc (nI d) SG ST SC) (fun SM => f12_test rr (nI d) SM) (fun m x2 x3 SG ST SC => f3_expression_8 rc m (nI d) x2 x3 SG ST SC) (fun m SM => f12_all_5 rr m (nI d) SM) (op2 27 4 28 5) := by
  refine ⟨fun _ _ _ _ => trivial, hsub, op2_ok (by omega) (by omega) (by omega) (by decide) (by omega) (by omega) (by omega) (by decide) (fun _ => by omega) (fun _ => by omega), fun m q SG ST SC k hk hk61 ho => ?_, fun m q SG ST SC => ?_, fun m q SG ST SC k hq hk hk61 ho => ?_, fun m SM i hR h7 hi h8 ho => ?_, fun m SM F hF => ?_, fun m SM i hR h7 hi h8 ho => ?_⟩
  · obtain ⟨n1, n2⟩ := (op2_0 (by omega) (by omega)).mp ho
    show f3_expression_8 rc (m + 1) (nI d) 1 q SG ST SC = _
    rw [f3_expression_8, if_neg (show ¬ (1 : Int32) = 0 by decide), lt_e, hk, if_neg (show ¬ nI k = 27 from fun e => n1 ((nI_eq (b := 27) (by omega) (by omega)).mp e)), if_neg (show ¬ nI k = 28 from fun e => n2 ((nI_eq (b := 28) (by omega) (by omega)).mp e))]
    unfold f3_expression_74
    exact ite_id _
  · show f3_expression_8 rc (m + 1) (nI d) 0 q SG ST SC = _
    rw [f3_expression_8, if_pos (show (0 : Int32) = 0 from rfl)]
    unfold f3_expression_74
    exact ite_id _
  · show f3_expression_8 rc (m + 1) (nI d) 1 (nI q) SG ST SC = _
    rw [f3_expression_8, if_neg (show ¬ (1000 : Int32) ≤ nI q from nI_ge (b := 1000) hq (by omega)), if_neg (show ¬ (1 : Int32) = 0 by decide), lt_e, hk]
    have e45 : f3_expression_45 rc (f3_expression_8 rc m) (nI d) (nI q) (nI k) SG ST SC = bd (f10_advance ST) fun ST1 => bd (f3_test rc (nI d) SG ST1 SC) fun r => bd (f2_put (nI k) 0 r.2.2.2) fun SC1 => f3_expression_8 rc m (nI d) r.1 (nI (q + 1)) r.2.1 r.2.2.1 SC1 := by
      unfold f3_expression_45
      rw [nI_1]
      rfl
    by_cases hh : k = 27
    · rw [if_pos (show nI k = 27 by rw [hh]; rfl), e45]
    · by_cases hh' : k = 28
      · rw [if_neg (show ¬ nI k = 27 from fun e => hh ((nI_eq (b := 27) (by omega) (by omega)).mp e)), if_pos (show nI k = 28 by rw [hh']; rfl), e45]
      · exact absurd ((op2_0 (by omega) (by omega)).mpr ⟨hh, hh'⟩) ho
  · obtain ⟨n1, n2⟩ := (op2_0 (by omega) (by omega)).mp ho
    show f12_all_5 rr (m + 1) (nI d) SM = _
    have w1 : f12_isWord 27 SM = _ := r_isWord hR h7 hi h8 (k := 27) (by omega)
    have w2 : f12_isWord 28 SM = _ := r_isWord hR h7 hi h8 (k := 28) (by omega)
    rw [f12_all_5, w1, bd_s, if_pos (one0.mpr n1), w2, bd_s, if_pos (one0.mpr n2)]
  · show f12_all_5 rr (m + 1) (nI d) SM = _
    rw [f12_all_5, x_isWord hF, bd_s, if_pos (show (0 : Int32) = 0 from rfl), x_isWord hF, bd_s, if_pos (show (0 : Int32) = 0 from rfl)]
  · show f12_all_5 rr (m + 1) (nI d) SM = _
    have w1 : f12_isWord 27 SM = _ := r_isWord hR h7 hi h8 (k := 27) (by omega)
    have w2 : f12_isWord 28 SM = _ := r_isWord hR h7 hi h8 (k := 28) (by omega)
    rw [f12_all_5, w1, bd_s]
    by_cases hh : kdT C t i = 27
    · rw [if_neg (fun e => one0.mp e hh)]
      unfold f12_all_23
      rw [w1, bd_s, lt_e, h7, nI_1, if_pos hh, hh]
      simp only [if_neg (show ¬ (1 : Int32) = 0 by decide)]
      rfl
    · by_cases hh' : kdT C t i = 28
      · rw [if_pos (one0.mpr hh), w2, bd_s, if_neg (fun e => one0.mp e hh')]
        unfold f12_all_23
        rw [w1, bd_s, lt_e, h7, nI_1, if_neg hh, hh']
        simp only [if_pos (show (0 : Int32) = 0 from rfl)]
        rfl
      · exact absurd ((op2_0 (by omega) (by omega)).mpr ⟨hh, hh'⟩) ho
theorem sim_all (hn : 8 < n) (hsub : SubX C t N n g h (rc (nI d)) (rr (nI d))) : SubX C t N n g (h + 4) (f3_expression rc (nI d)) (f12_all rr (nI d)) := fun SG ST SC SM i s r a b c e f _ => chain (ch_all hn (sim_test hn hsub)) SG ST SC SM i s r a b c e f trivial
end
