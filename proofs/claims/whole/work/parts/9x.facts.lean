/-! pure: facts of the grammar -/
def GsR (SI : Ob) (r10 : Nat → Int32) (n : Nat) : Prop := n ≤ 8 ∧ SI.1 0 = nI n ∧ r10 0 = nI n ∧ (∀ j, j < n → r10 (3 + 5 * j + 1) = SI.2.2.1 3 j ∧ r10 (3 + 5 * j + 2) = SI.2.2.1 4 j) ∧ ∀ j, j < n → ∃ v, v ≤ 12 ∧ SI.2.2.1 3 j = nI v
theorem odd_ie : ∀ v, v < 13 → ((nI v &&& 1 = 1) ↔ (nI v - nI v / 2 * 2 = 1)) := by decide +kernel
section
variable {SI SM : Ob} {n : Nat}
theorem al_0 (h : GsR SI (SM.2.2.1 10) n) (x : Int32) : ∀ d i m, n - i ≤ d → d < m → i ≤ n → f12_isAlone_4 m x 0 (nI i) SM = some 0 := by
  intro d
  induction d with
  | zero =>
    intro i m hd hm hi
    obtain ⟨m, rfl⟩ : ∃ k, m = k + 1 := ⟨m - 1, by omega⟩
    rw [f12_isAlone_4, s12_guests, h.2.2.1, bd_s, if_pos (nI_le (by omega) (by have := h.1; omega))]; rfl
  | succ d ih =>
    intro i m hd hm hi
    obtain ⟨m, rfl⟩ : ∃ k, m = k + 1 := ⟨m - 1, by omega⟩
    have h8 := h.1
    rw [f12_isAlone_4, s12_guests, h.2.2.1, bd_s]
    by_cases hin : i = n
    · rw [if_pos (nI_le (by omega) (by omega))]; rfl
    · rw [if_neg (nI_ge (by omega) (by omega)), if_pos (show (0 : Int32) = 0 from rfl)]
      unfold f12_isAlone_40 f12_isAlone_41
      rw [lt_e, nI_1]
      exact ih (i + 1) m (by omega) (by omega) (by omega)
theorem al_both (h : GsR SI (SM.2.2.1 10) n) {j : Nat} (hj : j < n) : ∀ d i m1 m2, n - i ≤ d → d < m1 → d < m2 → i ≤ n → ∃ b, (b = 0 ∨ b = 1) ∧ f4_isAlone_2 m1 (nI j) (nI i) SI = some b ∧ f12_isAlone_4 m2 (nI j) 1 (nI i) SM = some b := by
  have h8 := h.1
  intro d
  induction d with
  | zero =>
    intro i m1 m2 hd hm1 hm2 hi
    obtain ⟨m1, rfl⟩ : ∃ k, m1 = k + 1 := ⟨m1 - 1, by omega⟩
    obtain ⟨m2, rfl⟩ : ∃ k, m2 = k + 1 := ⟨m2 - 1, by omega⟩
    refine ⟨1, Or.inr rfl, ?_, ?_⟩
    · rw [f4_isAlone_2, h.2.1, if_pos (nI_le (by omega) (by omega))]
    · rw [f12_isAlone_4, s12_guests, h.2.2.1, bd_s, if_pos (nI_le (by omega) (by omega))]; rfl
  | succ d ih =>
    intro i m1 m2 hd hm1 hm2 hi
    obtain ⟨m1, rfl⟩ : ∃ k, m1 = k + 1 := ⟨m1 - 1, by omega⟩
    obtain ⟨m2, rfl⟩ : ∃ k, m2 = k + 1 := ⟨m2 - 1, by omega⟩
    by_cases hin : i = n
    · refine ⟨1, Or.inr rfl, ?_, ?_⟩
      · rw [f4_isAlone_2, h.2.1, if_pos (nI_le (by omega) (by omega))]
      · rw [f12_isAlone_4, s12_guests, h.2.2.1, bd_s, if_pos (nI_le (by omega) (by omega))]; rfl
    · obtain ⟨b, b1, b2, b3⟩ := ih (i + 1) m1 m2 (by omega) (by omega) (by omega) (by omega)
      rw [f4_isAlone_2, h.2.1, if_neg (nI_ge (by omega) (by omega)), f12_isAlone_4, s12_guests, h.2.2.1, bd_s, if_neg (nI_ge (by omega) (by omega)), if_neg (show ¬ (1 : Int32) = 0 by decide)]
      unfold f4_isAlone_32 f12_isAlone_36 f12_isAlone_40 f12_isAlone_41
      rw [lt_e, lt_e, lt_e, nI_1]
      by_cases hij : i = j
      · rw [if_pos (show nI i = nI j by rw [hij]), if_pos (show nI i = nI j by rw [hij])]
        exact ⟨b, b1, b2, b3⟩
      · have hne : ¬ nI i = nI j := fun e => hij ((nI_eq (by omega) (by omega)).mp e)
        have g1 : f12_guestOf (nI i) 1 SM = some (SM.2.2.1 10 (3 + 5 * i + 1)) := s12_guestOf (k := 1) (by omega) (by omega)
        have g2 : f12_guestOf (nI j) 1 SM = some (SM.2.2.1 10 (3 + 5 * j + 1)) := s12_guestOf (k := 1) (by omega) (by omega)
        rw [if_neg hne, if_neg hne, inb_nI (by omega) (by omega), ck_t, inb_nI (by omega) (by omega), ck_t, g1, bd_s, g2, bd_s, nI_clamp (by omega), nI_clamp (by omega), (h.2.2.2.1 i (by omega)).1, (h.2.2.2.1 j hj).1]
        by_cases he : SI.2.2.1 3 i = SI.2.2.1 3 j
        · rw [if_pos he, if_pos he]
          exact ⟨0, Or.inl rfl, rfl, al_0 h (nI j) d (i + 1) m2 (by omega) (by omega) (by omega)⟩
        · rw [if_neg he, if_neg he]
          exact ⟨b, b1, b2, b3⟩
/-- whether a fact holds of a guest -/
theorem so_both (h : GsR SI (SM.2.2.1 10) n) {k j : Nat} (hk : k < 4) (hj : j < n) : ∃ b, (b = 0 ∨ b = 1) ∧ f4_isSo (nI (22 + k)) (nI j) SI = some b ∧ ∀ (m : Nat) (a : Int32), f12_soOf_4 (m + 1) (nI (4 + k)) a (nI j) SM = f12_soOf_91 (f12_soOf_4 m) (nI (4 + k)) a (nI j) b SM := by
  have h8 := h.1
  have g1 : f12_guestOf (nI j) 1 SM = some (SM.2.2.1 10 (3 + 5 * j + 1)) := s12_guestOf (k := 1) (by omega) (by omega)
  have g2 : f12_guestOf (nI j) 2 SM = some (SM.2.2.1 10 (3 + 5 * j + 2)) := s12_guestOf (k := 2) (by omega) (by omega)
  obtain ⟨r1, r2⟩ := h.2.2.2.1 j hj
  obtain ⟨v, hv, ev⟩ := h.2.2.2.2 j hj
  have hd : ∀ m a, f12_soOf_4 (m + 1) (nI (4 + k)) a (nI j) SM = if nI (4 + k) = 4 then (ck (nz 2) <| if (SI.2.2.1 3 j - SI.2.2.1 3 j / 2 * 2) = 1 then (f12_soOf_91 (f12_soOf_4 m) (nI (4 + k)) a (nI j) 1 SM) else (f12_soOf_91 (f12_soOf_4 m) (nI (4 + k)) a (nI j) 0 SM)) else if nI (4 + k) = 5 then (if 6 < SI.2.2.1 3 j then (f12_soOf_91 (f12_soOf_4 m) (nI (4 + k)) a (nI j) 0 SM) else (f12_soOf_91 (f12_soOf_4 m) (nI (4 + k)) a (nI j) 1 SM)) else if nI (4 + k) = 6 then (bd (f12_isAlone (nI j) SM) fun r_12 => f12_soOf_91 (f12_soOf_4 m) (nI (4 + k)) a (nI j) r_12 SM) else (if SI.2.2.1 4 j < 10 then (f12_soOf_91 (f12_soOf_4 m) (nI (4 + k)) a (nI j) 0 SM) else (f12_soOf_91 (f12_soOf_4 m) (nI (4 + k)) a (nI j) 1 SM)) := by
    intro m a
    rw [f12_soOf_4, s12_guests, h.2.2.1, bd_s, if_neg (nI_ge hj (by omega)), g1, bd_s, g2, bd_s, r1, r2]
  rcases (show k = 0 ∨ k = 1 ∨ k = 2 ∨ k = 3 by omega) with rfl | rfl | rfl | rfl
  · refine ⟨if SI.2.2.1 3 j &&& 1 = 1 then 1 else 0, by split <;> simp, ?_, fun m a => ?_⟩
    · unfold f4_isSo
      rw [if_pos (show nI (22 + 0) = 22 from rfl), inb_nI (by omega) (by omega), ck_t, nI_clamp (by omega)]
      split <;> rfl
    · rw [hd, if_pos (show nI (4 + 0) = 4 from rfl), show nz 2 = true from rfl, ck_t, ev]
      by_cases ho : nI v &&& 1 = 1
      · rw [if_pos ((odd_ie v (by omega)).mp ho), if_pos ho]
      · rw [if_neg (fun e => ho ((odd_ie v (by omega)).mpr e)), if_neg ho]
  · refine ⟨if 6 < SI.2.2.1 3 j then 0 else 1, by split <;> simp, ?_, fun m a => ?_⟩
    · unfold f4_isSo
      rw [if_neg (show ¬ nI (22 + 1) = 22 by decide), if_pos (show nI (22 + 1) = 23 from rfl), inb_nI (by omega) (by omega), ck_t, nI_clamp (by omega)]
      split <;> rfl
    · rw [hd, if_neg (show ¬ nI (4 + 1) = 4 by decide), if_pos (show nI (4 + 1) = 5 from rfl)]
      split <;> rfl
  · obtain ⟨b, b1, b2, b3⟩ := al_both h hj n 0 FU FU (by omega) (FU_lt (by omega)) (FU_lt (by omega)) (Nat.zero_le _)
    have c1 : f4_isAlone (nI j) SI = some b := b2
    have c2 : f12_isAlone (nI j) SM = some b := b3
    refine ⟨b, b1, ?_, fun m a => ?_⟩
    · unfold f4_isSo
      rw [if_neg (show ¬ nI (22 + 2) = 22 by decide), if_neg (show ¬ nI (22 + 2) = 23 by decide), if_pos (show nI (22 + 2) = 24 from rfl), c1, bd_s]
      rcases b1 with rfl | rfl <;> rfl
    · rw [hd, if_neg (show ¬ nI (4 + 2) = 4 by decide), if_neg (show ¬ nI (4 + 2) = 5 by decide), if_pos (show nI (4 + 2) = 6 from rfl), c2, bd_s]
  · refine ⟨if SI.2.2.1 4 j < 10 then 0 else 1, by split <;> simp, ?_, fun m a => ?_⟩
    · unfold f4_isSo
      rw [if_neg (show ¬ nI (22 + 3) = 22 by decide), if_neg (show ¬ nI (22 + 3) = 23 by decide), if_neg (show ¬ nI (22 + 3) = 24 by decide), inb_nI (by omega) (by omega), ck_t, nI_clamp (by omega)]
      split <;> rfl
    · rw [hd, if_neg (show ¬ nI (4 + 3) = 4 by decide), if_neg (show ¬ nI (4 + 3) = 5 by decide), if_neg (show ¬ nI (4 + 3) = 6 by decide)]
      split <;> rfl
theorem by_loop (h : GsR SI (SM.2.2.1 10) n) {k : Nat} (hk : k < 4) : ∀ d j m1 m2 (a : Int32), n - j ≤ d → d < m1 → d < m2 → j ≤ n → a &&& allS n = a → ∃ v, v &&& allS n = v ∧ f4_worldsBy_29 m1 (nI (22 + k)) a (nI j) SI = some v ∧ f12_soOf_4 m2 (nI (4 + k)) a (nI j) SM = some v := by
  have h8 := h.1
  intro d
  induction d with
  | zero =>
    intro j m1 m2 a hd hm1 hm2 hj ha
    obtain ⟨m1, rfl⟩ : ∃ k, m1 = k + 1 := ⟨m1 - 1, by omega⟩
    obtain ⟨m2, rfl⟩ : ∃ k, m2 = k + 1 := ⟨m2 - 1, by omega⟩
    refine ⟨a, ha, ?_, ?_⟩
    · rw [f4_worldsBy_29, h.2.1, if_pos (nI_le (by omega) (by omega))]
    · rw [f12_soOf_4, s12_guests, h.2.2.1, bd_s, if_pos (nI_le (by omega) (by omega))]
  | succ d ih =>
    intro j m1 m2 a hd hm1 hm2 hj ha
    obtain ⟨m1, rfl⟩ : ∃ k, m1 = k + 1 := ⟨m1 - 1, by omega⟩
    obtain ⟨m2, rfl⟩ : ∃ k, m2 = k + 1 := ⟨m2 - 1, by omega⟩
    by_cases hin : j = n
    · refine ⟨a, ha, ?_, ?_⟩
      · rw [f4_worldsBy_29, h.2.1, if_pos (nI_le (by omega) (by omega))]
      · rw [f12_soOf_4, s12_guests, h.2.2.1, bd_s, if_pos (nI_le (by omega) (by omega))]
    · have hjn : j < n := by omega
      obtain ⟨b, b1, b2, b3⟩ := so_both h hk hjn
      have wr : f12_worldsOf (nI j) = some (so (w4s j)) := by
        unfold f12_worldsOf
        rw [nI_4', own_so (by omega)]
      rw [f4_worldsBy_29, h.2.1, if_neg (nI_ge hjn (by omega)), b2, bd_s, b3]
      unfold f12_soOf_91 f12_soOf_122 f4_worldsBy_54
      rw [if_pos (show (4 : Int32) ≤ nI (4 + k) from nI_le (a := 4) (by omega) (by omega)), wr, bd_s, s4_worldsOf (by omega), bd_s]
      simp only [lt_e, nI_1]
      rcases b1 with rfl | rfl
      · rw [if_pos (show (0 : Int32) = 0 from rfl), if_pos (show (0 : Int32) = 0 from rfl), Int32.or_zero]
        exact ih (j + 1) m1 m2 a (by omega) (by omega) (by omega) (by omega) ha
      · rw [if_neg (show ¬ (1 : Int32) = 0 by decide), if_neg (show ¬ (1 : Int32) = 0 by decide)]
        refine ih (j + 1) m1 m2 _ (by omega) (by omega) (by omega) (by omega) ?_
        have o := own_all hjn
        exact b_ext (fun i hi => by
          have h1 := congrArg (fun x => bt x i) ha
          have h2 := congrArg (fun x => bt x i) o
          simp only [b_and] at h1 h2
          rw [b_and, b_or]
          cases e1 : bt a i <;> cases e2 : bt (so (w4s j)) i <;> cases e3 : bt (allS n) i <;> simp_all)
theorem fact_both (h : GsR SI (SM.2.2.1 10) n) {k : Nat} (hk : k < 8) : ∃ v, f4_worldsBy (nI (18 + k)) SI = some v ∧ f12_soOf (nI k) SM = some v ∧ v &&& allS n = v := by
  have h8 := h.1
  by_cases h4 : k < 4
  · refine ⟨allS n &&& (286331153 <<< (nI k &&& 31)), ?_, s12_soOf_w h.2.2.1 h8 h4, ?_⟩
    · unfold f4_worldsBy
      have es : nI (18 + k) - 18 = nI k := by
        rw [show (18 : Int32) = nI 18 from rfl]
        have := pk_sub_toInt (a := 18 + k) (b := 18) (by omega) (by omega)
        rw [← Int32.toInt_inj, this, nI_toInt (by omega)]; omega
      rw [if_neg (show ¬ nI (18 + k) < 18 from nI_nlt (b := 18) (by omega) (by omega)), if_neg (show ¬ (21 : Int32) < nI (18 + k) from nI_nlt (a := 21) (by omega) (by omega)), s4_all h.2.1 h8, bd_s, es]
    · rw [Int32.and_comm, ← Int32.and_assoc, Int32.and_self]
  · obtain ⟨k', rfl⟩ : ∃ k', k = 4 + k' := ⟨k - 4, by omega⟩
    obtain ⟨v, v1, v2, v3⟩ := by_loop h (k := k') (by omega) n 0 FU FU 0 (by omega) (FU_lt (by omega)) (FU_lt (by omega)) (Nat.zero_le _) (Int32.zero_and)
    refine ⟨v, ?_, v3, v1⟩
    unfold f4_worldsBy f4_worldsBy_25
    rw [show 18 + (4 + k') = 22 + k' by omega, if_neg (show ¬ nI (22 + k') < 18 from nI_nlt (b := 18) (by omega) (by omega)), if_pos (show (21 : Int32) < nI (22 + k') from nI_lt (a := 21) (by omega) (by omega))]
    exact v2
end
