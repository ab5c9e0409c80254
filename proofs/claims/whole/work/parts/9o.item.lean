/-! pure: items -/
theorem out_leaf {C : Nat → Nat} {t N n g h : Nat} {SG ST SC SM : Ob} {i s r : Nat} (hsy : Syn C t N SG ST SM i) (hiN : i < N) (hs : SC.1 3 = nI s) (hsi : s ≤ i) (hr : SM.1 13 = nI r) (hri : r ≤ i) (hh : 1 ≤ h) {x : Nat × Nat} (hx : lfB x.1 = true) (hv : LvA n g [x]) {p : Int32} (hp : x.1 ≠ 12 → p = nI (cpN x)) : OutP C t N n g h SG ST SC SM i s r (bd (f10_advance ST) fun a => bd (f2_put (nI (ckN x)) p SC) fun b => some (1, SG, a, b)) (bd (f12_emit (nI (roN x)) (nI (raN x)) SM) fun a => some (oI a 7 (a.1 7 + 1))) := by
  have hN := hsy.2.2.2.2.2.2.2.1
  have ht := hsy.2.2.2.2.2.2.1
  obtain ⟨ST1, e1, f1, sy1⟩ := syn_adv hsy hiN
  obtain ⟨SC1, p1, p2⟩ := c_put hs (by omega) hp
  obtain ⟨SM1, w1, w2, w3, w4, w5⟩ := r_emitx hr (by omega) x
  rw [e1, bd_s, p1, bd_s, w1, bd_s, w3, hsy.2.2.2.1, nI_1]
  have hF : FrF SM (oI SM1 7 (nI (i + 1))) := FrF_tr w2 (FrF_I SM1 (Or.inl rfl) _)
  refine Or.inl ⟨ST1, SC1, _, i + 1, [x], rfl, rfl, ?_, f1, by omega, p2, w5, hF, by show 1 + i ≤ i + 1; omega, wf_leaf hx hh, hv⟩
  obtain ⟨y1, y2, y3, y4, y5, y6, y7⟩ := sy1
  exact ⟨y1, y2, y3, rfl, w4.trans hsy.2.2.2.2.1, y6, RfS_F hsy.2.2.2.2.2.2 hF⟩
theorem out_not {C : Nat → Nat} {t N n g h : Nat} {SG ST ST1 SC SM : Ob} {i s r : Nat} (hR : RfS SM C t N) (hri : r ≤ i) (hsi : s ≤ i) (hf : FrA ST ST1) {rc : Option (Int32 × Ob × Ob × Ob)} {rm : Option Ob} (h1 : OutP C t N n g h SG ST1 SC (oI SM 7 (nI (i + 1))) (i + 1) s r rc rm) : OutP C t N n g h SG ST SC SM i s r (bd rc fun a => lt a.1 fun x => bd (f2_put 26 0 a.2.2.2) fun b => ck (isz x) (some (x, a.2.1, a.2.2.1, b))) (bd rm fun a => bd (f12_emit 3 0 a) fun b => some b) := by
  have hN := hR.2.1
  have ht := hR.1
  have hF0 : FrF SM (oI SM 7 (nI (i + 1))) := FrF_I SM (Or.inl rfl) _
  rcases h1 with ⟨ST2, SC2, SM2, i2, L2, q1, q2, q3, q4, q5, q6, q7, q8, q9, q10, q11⟩ | ⟨SG2, ST2, SC2, SM2, i2, r2, s2, F, q1, q2, q3, q4, q5, q6, q7, q8, q9, q10, q11⟩
  · have hi2N : i2 ≤ N := q3.2.2.2.2.2.1
    obtain ⟨SC3, p1, p2⟩ := c_put (x := (3, 0)) q6.1 (by omega) (p := 0) (fun _ => rfl)
    obtain ⟨SM3, w1, w2, w3, w4, w5⟩ := r_emitx q7.1 (by omega) (3, 0)
    have p1' : f2_put 26 0 SC2 = some SC3 := p1
    have w1' : f12_emit 3 0 SM2 = some SM3 := w1
    rw [q1, q2, bd_s, bd_s, w1', bd_s, lt_e]
    show OutP C t N n g h SG ST SC SM i s r (bd (f2_put 26 0 SC2) fun b => some (1, SG, ST2, b)) _
    rw [p1', bd_s]
    exact Or.inl ⟨ST2, SC3, SM3, i2, L2 ++ [(3, 0)], rfl, rfl, syn_F (i' := i2) q3 w2 w3 w4, FrA_tr hf q4, by omega, CdA_app q6 p2, CdB_app q7 w5, FrF_tr hF0 (FrF_tr q8 w2), by rw [List.length_append]; show L2.length + 1 + i ≤ i2; omega, wf_un q10, lv_app q11 (lv_op (by omega) (by omega) (fun _ => by omega))⟩
  · obtain ⟨SC3, s3, p1, p2, p3⟩ := c_put' q6 q7 26 0
    obtain ⟨SM3, w1, w2, w3, w4, w5, -⟩ := r_emit q9 (by omega) 3 0
    rw [q1, q2, bd_s, bd_s, w1, bd_s, lt_e]
    show OutP C t N n g h SG ST SC SM i s r (bd (f2_put 26 0 SC2) fun b => some (0, SG2, ST2, b)) _
    rw [p1, bd_s]
    exact Or.inr ⟨SG2, ST2, SC3, SM3, i2, r2 + 1, s3, F, rfl, rfl, FrA_tr hf q3, q4, ⟨w4.trans q5.1, q5.2⟩, p2, p3, FrF_tr hF0 (FrF_tr q8 w2), w5, by omega, q11⟩
theorem c_take {C : Nat → Nat} {t N i : Nat} {SG ST SM : Ob} (hsy : Syn C t N SG ST SM i) {k : Nat} (hk : k < 2 ^ 31) (hk4 : k ≠ 34) : (kdT C t i = k ∧ ∃ ST', f3_take (nI k) SG ST = some (1, SG, ST') ∧ FrA ST ST' ∧ i < N ∧ Syn C t N SG ST' (oI SM 7 (nI (i + 1))) (i + 1)) ∨ (kdT C t i ≠ k ∧ f3_take (nI k) SG ST = some (0, oI SG 3 (nI (1 + 16 * PP C t i)), ST)) := by
  unfold f3_take
  by_cases hc : kdT C t i = k
  · have hiN : i < N := kd_lt hsy.2.2.2.2.2.2 hsy.2.2.2.2.2.1 (by rw [hc]; exact hk4)
    obtain ⟨ST1, e1, f1, sy1⟩ := syn_adv hsy hiN
    rw [if_pos ((syn_eq hsy hk).mpr hc), e1, bd_s]
    exact Or.inl ⟨hc, ST1, rfl, f1, hiN, sy1⟩
  · have e : f3_fail 1 SG ST = _ := c_fail hsy 1
    rw [if_neg (fun h => hc ((syn_eq hsy hk).mp h)), e, bd_s]
    exact Or.inr ⟨hc, rfl⟩
theorem out_par {C : Nat → Nat} {t N n g h : Nat} {SG ST ST1 SC SM : Ob} {i s r : Nat} (hR : RfS SM C t N) (hri : r ≤ i) (hsi : s ≤ i) (hf : FrA ST ST1) {rc : Option (Int32 × Ob × Ob × Ob)} {rm : Option Ob} (h1 : OutP C t N n g h SG ST1 SC (oI SM 7 (nI (i + 1))) (i + 1) s r rc rm) : OutP C t N n g h SG ST SC SM i s r (bd rc fun a => if a.1 = 0 then some (0, a.2.1, a.2.2.1, a.2.2.2) else bd (f3_take 41 a.2.1 a.2.2.1) fun b => if b.1 = 0 then some (0, b.2.1, b.2.2, a.2.2.2) else some (1, b.2.1, b.2.2, a.2.2.2)) (bd rm fun a => bd (f12_takeSign 41 a) fun b => some b) := by
  have hN := hR.2.1
  have ht := hR.1
  have hF0 : FrF SM (oI SM 7 (nI (i + 1))) := FrF_I SM (Or.inl rfl) _
  rcases h1 with ⟨ST2, SC2, SM2, i2, L2, q1, q2, q3, q4, q5, q6, q7, q8, q9, q10, q11⟩ | ⟨SG2, ST2, SC2, SM2, i2, r2, s2, F, q1, q2, q3, q4, q5, q6, q7, q8, q9, q10, q11⟩
  · have hi2N : i2 ≤ N := q3.2.2.2.2.2.1
    obtain ⟨y1, y2, y3, y4, y5, y6, y7⟩ := id q3
    have w : f12_takeSign 41 SM2 = _ := r_takeSign y7 y4 y6 y5 (k := 41) (by omega) (by omega)
    rw [q1, q2, bd_s, bd_s, w, bd_s, if_neg (show ¬ (1 : Int32) = 0 by decide)]
    show OutP C t N n g h SG ST SC SM i s r (bd (f3_take 41 SG ST2) fun b => if b.1 = 0 then some (0, b.2.1, b.2.2, SC2) else some (1, b.2.1, b.2.2, SC2)) _
    have hlen : L2.length ≤ i2 := by omega
    rcases c_take q3 (k := 41) (by omega) (by omega) with ⟨hc, ST3, e, f3, hi3, sy3⟩ | ⟨hc, e⟩
    · have e' : f3_take 41 SG ST2 = _ := e
      rw [e', bd_s, if_neg (show ¬ (1 : Int32) = 0 by decide), if_pos hc]
      exact Or.inl ⟨ST3, SC2, _, i2 + 1, L2, rfl, rfl, sy3, FrA_tr hf (FrA_tr q4 f3), by omega, q6, q7, FrF_tr hF0 (FrF_tr q8 (FrF_I SM2 (Or.inl rfl) _)), by omega, q10, q11⟩
    · have e' : f3_take 41 SG ST2 = _ := e
      have hp := PP_le C t i2
      rw [e', bd_s, if_pos (show (0 : Int32) = 0 from rfl), if_neg hc]
      exact Or.inr ⟨_, ST2, SC2, _, i2, r + L2.length, s + L2.length, 1 + 16 * PP C t i2, rfl, rfl, FrA_tr hf q4, rfl, ⟨rfl, by omega, by omega⟩, q6.1, by omega, FrF_tr hF0 (FrF_tr q8 (FrF_I SM2 (by omega) _)), q7.1, by omega, hi2N⟩
  · rw [q1, q2, bd_s, bd_s, x_takeSign q5, bd_s, if_pos (show (0 : Int32) = 0 from rfl)]
    exact Or.inr ⟨SG2, ST2, SC2, SM2, i2, r2, s2, F, rfl, rfl, FrA_tr hf q3, q4, q5, q6, q7, FrF_tr hF0 q8, q9, by omega, q11⟩
theorem out_mono {C : Nat → Nat} {t N n g h h' : Nat} {SG ST SC SM : Ob} {i s r : Nat} {rc : Option (Int32 × Ob × Ob × Ob)} {rm : Option Ob} (hh : h ≤ h') (h1 : OutP C t N n g h SG ST SC SM i s r rc rm) : OutP C t N n g h' SG ST SC SM i s r rc rm := by
  rcases h1 with ⟨ST2, SC2, SM2, i2, L2, q1, q2, q3, q4, q5, q6, q7, q8, q9, q10, q11⟩ | h1
  · exact Or.inl ⟨ST2, SC2, SM2, i2, L2, q1, q2, q3, q4, q5, q6, q7, q8, q9, wf_mono q10 hh, q11⟩
  · exact Or.inr h1
