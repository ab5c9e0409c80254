/-! pure: fewest, the call -/
theorem self_not (x : Int32) : x &&& (x ^^^ (-1)) = 0 := b_z.mpr (fun i hi => by
  rw [b_and, b_not _ hi]; cases bt x i <;> rfl)
theorem st_fewest : St_fewest Inv := by
  intro cs sm h
  obtain ⟨n, g, hI⟩ := h
  have hI' : InvN cs (oI sm 0 0) n g := hI
  obtain ⟨h8, h6, hn, -⟩ := id hI.1
  have h2n : 2 ^ n ≤ 256 := Nat.pow_le_pow_right (n := 2) (i := n) (j := 8) (by omega) h8
  obtain ⟨kd, hkd⟩ := inv_kinds hI'
  obtain ⟨qf, p, hs, e2⟩ := few_ref hI' (fun j hj => ⟨(hkd j hj).2.2, (hkd j hj).2.1⟩)
  have hkc : ∀ j, j < n → (cs 8).2.2.1 2 j = nI (kd j) ∧ kd j < 4 := fun j hj => ⟨(hkd j hj).1, (hkd j hj).2.1⟩
  have hI2 : InvN cs (sR (oI sm 0 0) 30 p) n g := hI'
  obtain ⟨who, hw⟩ : ∃ w, w = whoS n ((cs 10).1 0) := ⟨_, rfl⟩
  have hm : f12_fewest sm = _ := e2
  rw [← hw] at hm
  by_cases hz : who = 0
  · refine ⟨-1, cs 5, _, ?_, ?_, n, g, InvN_s hI2 (by omega) _⟩
    · unfold f11_fewest f8_deepest
      rw [s4_guestsIn _ hn h8, ← hw, bd_s, if_pos hz, bd_s]
    · rw [hm, if_pos (Or.inl hz)]
  · obtain ⟨P, S1, hP, e1⟩ := s8_part hI hkc (cs 5)
    rw [← hw] at hP e1
    obtain ⟨w, hwe⟩ : ∃ w, w = vN who := ⟨_, rfl⟩
    have hwi : who = nI w := by rw [hwe]; exact (nI_vN _).symm
    have hwn : w < 2 ^ n := by rw [hwe, hw]; exact vN_lt (fun i hi hb => whoS_lt hi hb)
    have hw0 : w ≠ 0 := fun hh => hz (by rw [hwi, hh]; rfl)
    rw [← hwe] at hm
    obtain ⟨r, e, S2, hr⟩ := loop_inv (fun q j S => f8_deepest_24 q who (nI P) (nI (j + 1)) S (cs 8)) (fun j S => S.2.2.1 0 = S1.2.2.1 0 ∧ ∀ u, 1 ≤ u → u < j + 1 → nI u &&& (who ^^^ (-1)) = 0 → S.2.2.1 1 u = enI (qf u)) (fun r => ∃ S2, r = (enI (qf w), S2)) w
      (by
        rintro q S ⟨-, hS⟩
        refine ⟨(enI (qf w), S), ?_, S, rfl⟩
        show f8_deepest_24 (q + 1) _ _ (nI (w + 1)) _ _ = _
        rw [f8_deepest_24, hwi, if_pos (nI_lt (by omega) (by omega))]
        unfold f8_deepest_81
        rw [inb_nI (by omega) (by omega), ck_t, nI_clamp (by omega), hS w (by omega) (by omega) (by rw [hwi]; exact self_not _)])
      (by
        rintro q j S hj ⟨hS0, hS⟩
        have e75 : ∀ S', f8_deepest_75 (f8_deepest_24 q) who (nI P) (nI (j + 1)) S' (cs 8) = f8_deepest_24 q who (nI P) (nI (j + 1 + 1)) S' (cs 8) := fun S' => by
          unfold f8_deepest_75; rw [lt_e, nI_1]
        show ∃ b, _ ∧ f8_deepest_24 (q + 1) who (nI P) (nI (j + 1)) S (cs 8) = f8_deepest_24 q who (nI P) (nI (j + 1 + 1)) b (cs 8)
        rw [f8_deepest_24, if_neg (show ¬ who < nI (j + 1) from by rw [hwi]; exact nI_nlt (by omega) (by omega)), if_neg (show ¬ (256 : Int32) ≤ nI (j + 1) from nI_ge (b := 256) (by omega) (by omega))]
        by_cases hsub : nI (j + 1) &&& (who ^^^ (-1)) = 0
        · rw [if_pos hsub, sj_bitCount, bd_s]
          have put : ∀ z, z = enI (qf (j + 1)) → ∃ b, (b.2.2.1 0 = S1.2.2.1 0 ∧ ∀ u, 1 ≤ u → u < j + 1 + 1 → nI u &&& (who ^^^ (-1)) = 0 → b.2.2.1 1 u = enI (qf u)) ∧ f8_deepest_74 (f8_deepest_24 q) who (nI P) (nI (j + 1)) (nI (j + 1)) z S (cs 8) = f8_deepest_24 q who (nI P) (nI (j + 1 + 1)) b (cs 8) := by
            intro z hz
            refine ⟨oA S 1 (j + 1) z, ⟨hS0, fun u h1 h2 h3 => ?_⟩, ?_⟩
            · show upd (S.2.2.1 1) (j + 1) z u = _
              by_cases hu : u = j + 1
              · rw [hu, pk_us, hz]
              · rw [pk_un hu]; exact hS u h1 (by omega) h3
            · unfold f8_deepest_74
              rw [inb_nI (by omega) (by omega), ck_t, lt_e, nI_clamp (by omega), e75]
          have hcl := cnt_le (nI (j + 1))
          by_cases hc : cnt (nI (j + 1)) = 1
          · rw [if_pos (by rw [hc]; rfl)]
            refine put 0 ?_
            rw [((hs (j + 1) (by omega) (by omega)).1).1 hc]
            rfl
          · rw [if_neg (show ¬ nI (cnt (nI (j + 1))) = 1 from fun hh => hc ((nI_eq (b := 1) (by omega) (by omega)).mp hh)), s8_best (who := who) (kd := kd) (n := n) h8 hs (by rw [hS0]; exact hP) (by omega) (by omega) hsub hc hS, bd_s]
            exact put _ rfl
        · rw [if_neg hsub, e75]
          refine ⟨S, ⟨hS0, fun u h1 h2 h3 => ?_⟩, rfl⟩
          by_cases hu : u = j + 1
          · rw [hu] at h3; exact absurd h3 hsub
          · exact hS u h1 (by omega) h3)
      FU 0 S1 (Nat.zero_le _) (FU_lt (by omega)) ⟨rfl, fun u h1 h2 => absurd h1 (by omega)⟩
    have e' : f8_deepest_24 FU who (nI P) 1 S1 (cs 8) = some (enI (qf w), S2) := by
      rw [← hr]; exact e
    refine ⟨enI (qf w), S2, _, ?_, ?_, n, g, InvN_s hI2 (by omega) _⟩
    · unfold f11_fewest f8_deepest
      rw [s4_guestsIn _ hn h8, ← hw, bd_s, if_neg hz, e1, bd_s, lt_e]
      show bd (f8_deepest_24 FU who (nI P) 1 S1 (cs 8)) _ = _
      rw [e', bd_s]
    · rw [hm]
      unfold enI
      by_cases hf : qf w = FAR
      · rw [if_pos (Or.inr hf), if_pos hf]
      · rw [if_neg hf, if_neg (fun hh => by
          rcases hh with hh | hh
          · exact hz hh
          · exact hf hh)]
