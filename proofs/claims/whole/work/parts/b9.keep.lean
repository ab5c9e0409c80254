/-! pure: an inn that was read is laid where it stays -/
theorem in_keep {SM : Ob} {r K : Nat} (h8 : SM.1 8 = 0) (h13 : SM.1 13 = nI r) (hr : r ≤ 1000) (h19 : SM.1 19 = nI K) (hK : K ≤ 14) : ∃ SM', f12_inn_62 SM = (bd (f12_begins SM') fun a => some ((0 : Int32), a)) ∧ (∀ k, k ≠ 18 → SM'.1 k = SM.1 k) ∧ SM'.1 18 = nI K ∧ SM'.2.1 = SM.2.1 ∧ (∀ k, k ≠ 10 → k ≠ 11 → k ≠ 12 → k ≠ 16 → SM'.2.2.1 k = SM.2.2.1 k) ∧ (∀ k, k ≠ 14 → SM'.2.2.2 k = SM.2.2.2 k) ∧ (∀ k, k < 60 → SM'.2.2.1 10 k = SM.2.2.1 10 (60 + k)) ∧ (∀ k, k < r → SM'.2.2.1 11 k = SM.2.2.1 11 (2200 + k) ∧ SM'.2.2.1 12 k = SM.2.2.1 12 (2200 + k)) ∧ ∀ k, k < K → SM'.2.2.2 14 k = SM.2.2.2 15 k ∧ SM'.2.2.1 16 k = SM.2.2.1 17 k := by
  unfold f12_inn_62
  rw [if_pos (show SM.1 8 ≤ 0 by rw [h8]; decide)]
  obtain ⟨S1, ⟨b1, b2, b3, b4, b5, b6⟩, e1⟩ := loop_to (fun m k S => f12_inn_76 m (nI k) S) (fun k S => S.1 = SM.1 ∧ S.2.1 = SM.2.1 ∧ S.2.2.2 = SM.2.2.2 ∧ (∀ j, j ≠ 10 → S.2.2.1 j = SM.2.2.1 j) ∧ (∀ j, j < k → S.2.2.1 10 j = SM.2.2.1 10 (60 + j)) ∧ ∀ j, 60 ≤ j → S.2.2.1 10 j = SM.2.2.1 10 j) (fun S => f12_inn_105 FU 0 S) 60
    (by
      intro m S _
      show f12_inn_76 (m + 1) (nI 60) S = _
      rw [f12_inn_76, if_pos (show (60 : Int32) ≤ nI 60 by decide)])
    (by
      intro m k S hk ⟨b1, b2, b3, b4, b5, b6⟩
      refine ⟨oA S 10 k (S.2.2.1 10 (60 + k)), ⟨b1, b2, b3, fun j hj => ?_, fun j hj => ?_, fun j hj => ?_⟩, ?_⟩
      · show va_up S.2.2.1 10 _ j = _
        rw [va_ne _ hj]; exact b4 j hj
      · show upd (S.2.2.1 10) k _ j = _
        by_cases hjk : j = k
        · rw [hjk, pk_us]; exact b6 _ (by omega)
        · rw [pk_un hjk]; exact b5 j (by omega)
      · show upd (S.2.2.1 10) k _ j = _
        rw [pk_un (by omega)]; exact b6 j hj
      · show f12_inn_76 (m + 1) (nI k) S = f12_inn_76 m (nI (k + 1)) _
        have i1 : (60 : Int32) + nI k = nI (60 + k) := by rw [show (60 : Int32) = nI 60 from rfl, nI_add]
        rw [f12_inn_76, if_neg (show ¬ (60 : Int32) ≤ nI k from nI_ge (b := 60) hk (by omega)), i1, inb_nI (by omega) (by omega), ck_t, inb_nI (by omega) (by omega), ck_t, lt_e, lt_e, nI_clamp (by omega), nI_clamp (by omega), nI_1])
    FU 0 SM (Nat.zero_le _) (FU_lt (by omega)) ⟨rfl, rfl, rfl, fun _ _ => rfl, fun j hj => absurd hj (by omega), fun _ _ => rfl⟩
  have e1' : f12_inn_76 FU 0 SM = _ := e1
  rw [e1']
  have h13' : S1.1 13 = nI r := by rw [b1]; exact h13
  obtain ⟨S2, ⟨c1, c2, c3, c4, c5, c6⟩, e2⟩ := loop_to (fun m k S => f12_inn_105 m (nI k) S) (fun k S => S.1 = S1.1 ∧ S.2.1 = S1.2.1 ∧ S.2.2.2 = S1.2.2.2 ∧ (∀ j, j ≠ 11 → j ≠ 12 → S.2.2.1 j = S1.2.2.1 j) ∧ (∀ j, 2200 ≤ j → S.2.2.1 11 j = S1.2.2.1 11 j ∧ S.2.2.1 12 j = S1.2.2.1 12 j) ∧ ∀ j, j < k → S.2.2.1 11 j = S1.2.2.1 11 (2200 + j) ∧ S.2.2.1 12 j = S1.2.2.1 12 (2200 + j)) (fun S => f12_inn_153 FU 0 S) r
    (by
      intro m S ⟨c1, _⟩
      show f12_inn_105 (m + 1) (nI r) S = _
      rw [f12_inn_105, c1, h13', if_pos (nI_le (Nat.le_refl _) (by omega))])
    (by
      intro m k S hk ⟨c1, c2, c3, c4, c5, c6⟩
      refine ⟨oA (oA S 11 k (S.2.2.1 11 (2200 + k))) 12 k (S.2.2.1 12 (2200 + k)), ⟨c1, c2, c3, fun j hj hj2 => ?_, fun j hj => ?_, fun j hj => ?_⟩, ?_⟩
      · show va_up (va_up S.2.2.1 11 _) 12 _ j = _
        rw [va_ne _ hj2, va_ne _ hj]; exact c4 j hj hj2
      · show upd (S.2.2.1 11) k _ j = _ ∧ upd (S.2.2.1 12) k _ j = _
        rw [pk_un (by omega), pk_un (by omega)]; exact c5 j hj
      · show upd (S.2.2.1 11) k _ j = _ ∧ upd (S.2.2.1 12) k _ j = _
        by_cases hjk : j = k
        · rw [hjk, pk_us, pk_us]; exact c5 _ (by omega)
        · rw [pk_un hjk, pk_un hjk]; exact c6 j (by omega)
      · show f12_inn_105 (m + 1) (nI k) S = f12_inn_105 m (nI (k + 1)) _
        have i1 : (2200 : Int32) + nI k = nI (2200 + k) := by rw [show (2200 : Int32) = nI 2200 from rfl, nI_add]
        rw [f12_inn_105, c1, h13', if_neg (nI_ge hk (by omega)), i1, inb_nI (by omega) (by omega), ck_t, inb_nI (by omega) (by omega), ck_t, lt_e, ck_t, ck_t, lt_e, lt_e, nI_clamp (by omega), nI_clamp (by omega), nI_1]
        rfl)
    FU 0 S1 (Nat.zero_le _) (FU_lt (by omega)) ⟨rfl, rfl, rfl, fun _ _ _ => rfl, fun _ _ => ⟨rfl, rfl⟩, fun j hj => absurd hj (by omega)⟩
  have e2' : f12_inn_105 FU 0 S1 = _ := e2
  rw [e2']
  have h19' : S2.1 19 = nI K := by rw [c1, b1]; exact h19
  obtain ⟨S3, ⟨d1, d2, d3, d4, d5⟩, e3⟩ := loop_to (fun m k S => f12_inn_153 m (nI k) S) (fun k S => S.1 = S2.1 ∧ S.2.1 = S2.2.1 ∧ (∀ j, j ≠ 14 → S.2.2.2 j = S2.2.2.2 j) ∧ (∀ j, j ≠ 16 → S.2.2.1 j = S2.2.2.1 j) ∧ ∀ j, j < k → S.2.2.2 14 j = S2.2.2.2 15 j ∧ S.2.2.1 16 j = S2.2.2.1 17 j) (fun S => bd (f12_begins (oI S 18 (nI K))) fun r_3 => some ((0 : Int32), r_3)) K
    (by
      intro m S ⟨d1, _⟩
      show f12_inn_153 (m + 1) (nI K) S = _
      rw [f12_inn_153, d1, h19', if_pos (nI_le (Nat.le_refl _) (by omega)), lt_e])
    (by
      intro m k S hk ⟨d1, d2, d3, d4, d5⟩
      refine ⟨oA (oJ S 14 k (S.2.2.2 15 k)) 16 k (S.2.2.1 17 k), ⟨d1, d2, fun j hj => ?_, fun j hj => ?_, fun j hj => ?_⟩, ?_⟩
      · show va_up S.2.2.2 14 _ j = _
        rw [va_ne _ hj]; exact d3 j hj
      · show va_up S.2.2.1 16 _ j = _
        rw [va_ne _ hj]; exact d4 j hj
      · show vp_updL (S.2.2.2 14) k _ j = _ ∧ upd (S.2.2.1 16) k _ j = _
        by_cases hjk : j = k
        · rw [hjk, pk_us, ul_s, d3 15 (by omega), d4 17 (by omega)]; exact ⟨rfl, rfl⟩
        · rw [pk_un hjk, ul_n hjk]; exact d5 j (by omega)
      · show f12_inn_153 (m + 1) (nI k) S = f12_inn_153 m (nI (k + 1)) _
        rw [f12_inn_153, d1, h19', if_neg (nI_ge hk (by omega)), inb_nI (by omega) (by omega), ck_t, ck_t, lt_e, ck_t, ck_t, lt_e, lt_e, nI_clamp (by omega), nI_1]
        rfl)
    FU 0 S2 (Nat.zero_le _) (FU_lt (by omega)) ⟨rfl, rfl, fun _ _ => rfl, fun _ _ => rfl, fun j hj => absurd hj (by omega)⟩
  have e3' : f12_inn_153 FU 0 S2 = _ := e3
  refine ⟨oI S3 18 (nI K), e3', fun k hk => ?_, rfl, ?_, fun k k1 k2 k3 k4 => ?_, fun k hk => ?_, fun k hk => ?_, fun k hk => ?_, fun k hk => ?_⟩
  · show va_up S3.1 18 _ k = _
    rw [va_ne _ hk, d1, c1, b1]
  · show S3.2.1 = _
    rw [d2, c2, b2]
  · show S3.2.2.1 k = _
    rw [d4 k k4, c4 k k2 k3, b4 k k1]
  · show S3.2.2.2 k = _
    rw [d3 k hk, c3, b3]
  · show S3.2.2.1 10 k = _
    rw [d4 10 (by omega), c4 10 (by omega) (by omega)]; exact b5 k hk
  · show S3.2.2.1 11 k = _ ∧ S3.2.2.1 12 k = _
    rw [d4 11 (by omega), d4 12 (by omega), (c6 k hk).1, (c6 k hk).2, b4 11 (by omega), b4 12 (by omega)]; exact ⟨rfl, rfl⟩
  · show S3.2.2.2 14 k = _ ∧ S3.2.2.1 16 k = _
    rw [(d5 k hk).1, (d5 k hk).2, c3, b3, c4 17 (by omega) (by omega), b4 17 (by omega)]; exact ⟨rfl, rfl⟩
