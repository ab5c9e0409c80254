/-! pure: the calls that only look -/
theorem st_guest : St_guest Inv := by
  intro cs sm x1 x2 h
  obtain ⟨n, g, hC, hM, hR⟩ := id h
  obtain ⟨h8, -, hn, -⟩ := id hC
  have hn' : (oI sm 0 0).2.2.1 10 0 = nI n := hM.1
  rcases pk_ix x1 (n := n) (by omega) with hx | hx | ⟨j, hj, rfl⟩
  · refine ⟨-1, oI sm 0 0, ?_, ?_, h⟩
    · unfold f11_guest; rw [s4_hasGuest_no hn (Or.inl hx)]; rfl
    · unfold f12_guest; rw [lt_e, s12_isGuest_no hn' (Or.inl hx)]; rfl
  · refine ⟨-1, oI sm 0 0, ?_, ?_, h⟩
    · unfold f11_guest; rw [s4_hasGuest_no hn (Or.inr hx)]; rfl
    · unfold f12_guest; rw [lt_e, s12_isGuest_no hn' (Or.inr hx)]; rfl
  · have hg := hM.2.2.1 j hj
    have hin : inb (nI j) 8 = true := inb_nI (by omega) (by omega)
    have e1 : ∀ k, k < 5 → f12_guest (nI j) (nI k) sm = some ((oI sm 0 0).2.2.1 10 (3 + 5 * j + k), oI sm 0 0) := by
      intro k hk
      unfold f12_guest
      rw [lt_e, s12_isGuest_yes hn' hj h8, bd_s, if_neg (by decide), s12_withinL_yes (nI_pos (by omega)) (hi := 4) (show ¬ nI 4 < nI k from nI_nlt (by omega) (by omega)), bd_s, if_neg (by decide), s12_guestOf (by omega) hk, bd_s]
      rfl
    rcases pk_ix x2 (n := 5) (by omega) with hy | hy | ⟨k, hk, rfl⟩
    · refine ⟨-1, oI sm 0 0, ?_, ?_, h⟩
      · unfold f11_guest
        rw [s4_hasGuest_yes hn hj h8, bd_s, if_neg (by decide)]
        have hz : ∀ q : Int32, q = nI 0 ∨ q = nI 1 ∨ q = nI 2 ∨ q = nI 3 ∨ q = nI 4 → x2 ≠ q := by
          intro q hq e; subst e
          rcases hq with e | e | e | e | e <;> rw [e] at hy <;> revert hy <;> decide
        rw [if_neg (hz 0 (by decide)), if_neg (hz 1 (by decide)), if_neg (hz 2 (by decide)), if_neg (hz 3 (by decide)), if_neg (hz 4 (by decide))]
      · unfold f12_guest
        rw [lt_e, s12_isGuest_yes hn' hj h8, bd_s, if_neg (by decide), s12_withinL_no (Or.inl hy)]; rfl
    · refine ⟨-1, oI sm 0 0, ?_, ?_, h⟩
      · unfold f11_guest
        rw [s4_hasGuest_yes hn hj h8, bd_s, if_neg (by decide)]
        have hz : ∀ q : Int32, q = nI 0 ∨ q = nI 1 ∨ q = nI 2 ∨ q = nI 3 ∨ q = nI 4 → x2 ≠ q := by
          intro q hq e; subst e
          rcases hq with e | e | e | e | e <;> rw [e] at hy <;> revert hy <;> decide
        rw [if_neg (hz 0 (by decide)), if_neg (hz 1 (by decide)), if_neg (hz 2 (by decide)), if_neg (hz 3 (by decide)), if_neg (hz 4 (by decide))]
      · unfold f12_guest
        have hy2 : (4 : Int32) < x2 := by
          rw [Int32.le_iff_toInt_le] at hy; rw [Int32.lt_iff_toInt_lt]
          have : (nI 5).toInt = 5 := by decide
          have : (4 : Int32).toInt = 4 := by decide
          omega
        rw [lt_e, s12_isGuest_yes hn' hj h8, bd_s, if_neg (by decide), s12_withinL_no (Or.inr hy2)]; rfl
    · refine ⟨(oI sm 0 0).2.2.1 10 (3 + 5 * j + k), oI sm 0 0, ?_, e1 k hk, h⟩
      show _ = some (sm.2.2.1 10 (3 + 5 * j + k))
      unfold f11_guest
      rw [s4_hasGuest_yes hn hj h8, bd_s, if_neg (by decide)]
      simp only [hin, ck_t, nI_clamp (show j < 2 ^ 31 by omega)]
      have : k = 0 ∨ k = 1 ∨ k = 2 ∨ k = 3 ∨ k = 4 := by omega
      rcases this with e | e | e | e | e <;> subst e
      · rw [if_pos (by decide)]; exact congrArg some hg.1.symm
      · rw [if_neg (by decide), if_pos (by decide)]; exact congrArg some hg.2.1.symm
      · rw [if_neg (by decide), if_neg (by decide), if_pos (by decide)]; exact congrArg some hg.2.2.1.symm
      · rw [if_neg (by decide), if_neg (by decide), if_neg (by decide), if_pos (by decide)]; exact congrArg some hg.2.2.2.1.symm
      · rw [if_neg (by decide), if_neg (by decide), if_neg (by decide), if_neg (by decide), if_pos (by decide)]; exact congrArg some hg.2.2.2.2.symm
theorem st_shows : St_shows Inv := by
  intro cs sm x1 h
  obtain ⟨n, g, hC, hM, hR⟩ := id h
  obtain ⟨h8, -, hn, -⟩ := id hC
  have hn' : (oI sm 0 0).2.2.1 10 0 = nI n := hM.1
  have hw : f12_worlds (oI sm 0 0) = some (nI (4 * n)) := s12_worlds hn'
  rcases pk_ix x1 (n := 4 * n) (by omega) with hx | hx | ⟨j, hj, rfl⟩
  · refine ⟨-1, oI sm 0 0, ?_, ?_, h⟩
    · unfold f11_shows; rw [s4_hasWorld_no hn (Or.inl hx)]; rfl
    · unfold f12_shows; rw [lt_e, hw, bd_s, s12_within_no (Or.inl hx) (by omega)]; rfl
  · refine ⟨-1, oI sm 0 0, ?_, ?_, h⟩
    · unfold f11_shows; rw [s4_hasWorld_no hn (Or.inr hx)]; rfl
    · unfold f12_shows; rw [lt_e, hw, bd_s, s12_within_no (Or.inr hx) (by omega)]; rfl
  · have hin : inb (nI j) 32 = true := inb_nI (by omega) (by omega)
    refine ⟨sm.2.2.1 29 j, oI sm 0 0, ?_, ?_, h⟩
    · unfold f11_shows f11_shows_24
      rw [s4_hasWorld_yes hn hj h8, bd_s, if_neg (by decide), hin, ck_t, nI_clamp (by omega), hM.2.2.2.2.2 j (by omega)]
    · unfold f12_shows f12_shows_29
      rw [lt_e, hw, bd_s, s12_within_yes hj (by omega), bd_s, if_neg (by decide), hin, ck_t, nI_clamp (by omega)]
      rfl
theorem st_left : St_left Inv := by
  intro cs sm h
  obtain ⟨n, g, hC, hM, hB, hR⟩ := id h
  exact ⟨(cs 10).1 0, oI sm 0 0, rfl, by unfold f12_left; rw [lt_e, ← hB.1]; rfl, h⟩
theorem st_who : St_who Inv := by
  intro cs sm h
  obtain ⟨n, g, hC, hM, hB, hR⟩ := id h
  obtain ⟨h8, -, hn, -⟩ := id hC
  have hn' : (oI sm 0 0).2.2.1 10 0 = nI n := hM.1
  refine ⟨whoS n ((cs 10).1 0), oI sm 0 0, ?_, ?_, h⟩
  · unfold f11_who; rw [s4_guestsIn _ hn h8]; rfl
  · unfold f12_who
    rw [lt_e]
    show ck true (bd (f12_whoIn (sm.2.2.1 25 0) (oI sm 0 0)) _) = _
    rw [ck_t, hB.1, s12_whoIn _ hn' h8]; rfl
theorem st_count : St_count Inv := by
  intro cs sm x1 h
  obtain ⟨n, g, hC, hM, hB, hU, hK, hT, hO, hR⟩ := id h
  obtain ⟨u, t, te, -, -, hu1, hu2, ht1, -⟩ := hU
  obtain ⟨t2, -, hb1, hb2, -⟩ := hB.2.2.1
  obtain ⟨q, -, hq1, hq2, -⟩ := hB.2.2.2
  obtain ⟨l, -, hl1, hl2, -⟩ := hO
  obtain ⟨⟨tt, -, htt1, htt2, -⟩, -⟩ := hT
  have e0 : f12_guests (oI sm 0 0) = some (sm.2.2.1 10 0) := rfl
  have e1 : f12_signs (oI sm 0 0) = some (sm.2.2.1 10 1) := rfl
  have key : ∀ r, f11_count x1 (cs 0) (cs 3) (cs 8) (cs 10) (cs 15) = some r → f12_count x1 sm = some (r, oI sm 0 0) → ∃ (r : Int32) (sm1 : Ob), f11_count x1 (cs 0) (cs 3) (cs 8) (cs 10) (cs 15) = some r ∧ f12_count x1 sm = some (r, sm1) ∧ Inv cs sm1 := fun r a b => ⟨r, oI sm 0 0, a, b, h⟩
  unfold f11_count f12_count at key ⊢
  by_cases c0 : x1 = 0
  · simp only [if_pos c0] at key ⊢
    exact key (nI n) (by rw [hC.2.2.1]) (by rw [lt_e, e0, bd_s, hM.1])
  by_cases c1 : x1 = 1
  · simp only [if_neg c0, if_pos c1] at key ⊢
    exact key (nI g) (by rw [hC.2.2.2.1]) (by rw [lt_e, e1, bd_s, hM.2.1])
  by_cases c2 : x1 = 2
  · simp only [if_neg c0, if_neg c1, if_pos c2] at key ⊢
    refine key (nI (cnt ((cs 10).1 0))) (by rw [sj_bitCount]; rfl) ?_
    rw [lt_e, ← hB.1]
    show ck true (bd (f12_bits (sm.2.2.1 25 0)) _) = _
    rw [ck_t, s12_bits]; rfl
  by_cases c3 : x1 = 3
  · simp only [if_neg c0, if_neg c1, if_neg c2, if_pos c3] at key ⊢
    exact key (nI t2) (by rw [hb1]) (by rw [lt_e, ← hb2]; rfl)
  by_cases c4 : x1 = 4
  · simp only [if_neg c0, if_neg c1, if_neg c2, if_neg c3, if_pos c4] at key ⊢
    exact key (nI l) (by rw [hl1]) (by rw [lt_e, ← hl2]; rfl)
  by_cases c5 : x1 = 5
  · simp only [if_neg c0, if_neg c1, if_neg c2, if_neg c3, if_neg c4, if_pos c5] at key ⊢
    exact key (nI q) (by rw [hq1]) (by rw [lt_e, ← hq2]; rfl)
  by_cases c6 : x1 = 6
  · simp only [if_neg c0, if_neg c1, if_neg c2, if_neg c3, if_neg c4, if_neg c5, if_pos c6] at key ⊢
    exact key (nI u) (by rw [hu1]) (by rw [lt_e, ← hu2]; rfl)
  by_cases c7 : x1 = 7
  · simp only [if_neg c0, if_neg c1, if_neg c2, if_neg c3, if_neg c4, if_neg c5, if_neg c6, if_pos c7] at key ⊢
    exact key (nI tt) (by rw [htt1]) (by rw [lt_e, ← htt2]; rfl)
  · simp only [if_neg c0, if_neg c1, if_neg c2, if_neg c3, if_neg c4, if_neg c5, if_neg c6, if_neg c7] at key ⊢
    exact key (-1) rfl rfl
