/-! pure: an empty inn -/
theorem r_stands (SM : Ob) : ∃ p, f12_standsAsAlways 60 SM = some (sR SM 10 p) ∧ (∀ j, j < 60 → p j = SM.2.2.1 10 j) ∧ (∀ j, 60 ≤ j → j < 120 → j ≠ 62 → p j = 0) ∧ p 62 = -1 := by
  obtain ⟨S', e, p, e1, e2, e3, e4⟩ := loop_inv (fun m k S => f12_standsAsAlways_2 m 60 (nI k) S) (fun k S => ∃ p, S = sR SM 10 p ∧ (∀ j, j < 60 → p j = SM.2.2.1 10 j) ∧ ∀ j, 60 ≤ j → j < 60 + k → p j = 0) (fun S => ∃ p, S = sR SM 10 p ∧ (∀ j, j < 60 → p j = SM.2.2.1 10 j) ∧ (∀ j, 60 ≤ j → j < 120 → j ≠ 62 → p j = 0) ∧ p 62 = -1) 60
    (by
      intro m S ⟨p, h1, h2, h3⟩
      refine ⟨sR SM 10 (upd p 62 (-1)), ?_, upd p 62 (-1), rfl, fun j hj => ?_, fun j h4 h5 h6 => ?_, pk_us⟩
      · show f12_standsAsAlways_2 (m + 1) 60 (nI 60) S = _
        rw [f12_standsAsAlways_2, if_pos (show (60 : Int32) ≤ nI 60 by decide), show inb ((60 : Int32) + 2) 120 = true from rfl, ck_t, lt_e, show Int32.toNatClampNeg ((60 : Int32) + 2) = 62 from rfl, h1, oA_sR, sR_sR, sR_at]
      · rw [pk_un (by omega)]; exact h2 j hj
      · rw [pk_un h6]; exact h3 j h4 (by omega))
    (by
      intro m k S hk ⟨p, h1, h2, h3⟩
      refine ⟨sR SM 10 (upd p (60 + k) 0), ⟨upd p (60 + k) 0, rfl, fun j hj => ?_, fun j h4 h5 => ?_⟩, ?_⟩
      · rw [pk_un (by omega)]; exact h2 j hj
      · by_cases hj : j = 60 + k
        · rw [hj, pk_us]
        · rw [pk_un hj]; exact h3 j h4 (by omega)
      · show f12_standsAsAlways_2 (m + 1) 60 (nI k) S = f12_standsAsAlways_2 m 60 (nI (k + 1)) _
        have i1 : (60 : Int32) + nI k = nI (60 + k) := by rw [show (60 : Int32) = nI 60 from rfl, nI_add]
        rw [f12_standsAsAlways_2, if_neg (show ¬ (60 : Int32) ≤ nI k from nI_ge (b := 60) hk (by omega)), i1, inb_nI (by omega) (by omega), ck_t, lt_e, lt_e, nI_clamp (by omega), nI_1, h1, oA_sR, sR_sR, sR_at])
    FU 0 SM (Nat.zero_le _) (FU_lt (by omega)) ⟨SM.2.2.1 10, by unfold sR; rw [va_self], fun _ _ => rfl, fun j h4 h5 => absurd h5 (by omega)⟩
  refine ⟨p, ?_, e2, e3, e4⟩
  have e' : f12_standsAsAlways_2 FU 60 0 SM = some S' := e
  unfold f12_standsAsAlways
  rw [e', e1]
theorem c_clear (SI : Ob) : ∃ SI', f4_clear SI = some SI' ∧ SI'.1 0 = 0 ∧ SI'.1 8 = 0 ∧ ∀ w, w < 32 → SI'.2.2.1 12 w = 0 := by
  obtain ⟨S', e, e1, e2, e3⟩ := loop_inv (fun m k S => f4_clear_12 m (nI k) S) (fun k S => S.1 0 = 0 ∧ S.1 8 = 0 ∧ ∀ w, w < k → S.2.2.1 12 w = 0) (fun S => S.1 0 = 0 ∧ S.1 8 = 0 ∧ ∀ w, w < 32 → S.2.2.1 12 w = 0) 32
    (by
      intro m S h
      refine ⟨S, ?_, h⟩
      show f4_clear_12 (m + 1) (nI 32) S = _
      rw [f4_clear_12, if_pos (show (32 : Int32) ≤ nI 32 by decide)])
    (by
      intro m k S hk ⟨h1, h2, h3⟩
      refine ⟨oA S 12 k 0, ⟨h1, h2, fun w hw => ?_⟩, ?_⟩
      · show upd (S.2.2.1 12) k 0 w = 0
        by_cases hj : w = k
        · rw [hj, pk_us]
        · rw [pk_un hj]; exact h3 w (by omega)
      · show f4_clear_12 (m + 1) (nI k) S = f4_clear_12 m (nI (k + 1)) _
        rw [f4_clear_12, if_neg (show ¬ (32 : Int32) ≤ nI k from nI_ge (b := 32) hk (by omega)), inb_nI hk (by omega), ck_t, lt_e, lt_e, nI_clamp (by omega), nI_1])
    FU 0 (oI (oI SI 0 0) 8 0) (Nat.zero_le _) (FU_lt (by omega)) ⟨rfl, rfl, fun w hw => absurd hw (by omega)⟩
  refine ⟨S', ?_, e1, e2, e3⟩
  have e' : f4_clear_12 FU 0 (oI (oI SI 0 0) 8 0) = some S' := e
  unfold f4_clear
  rw [lt_e, lt_e, e']
