/-! pure: same, judged, spare -/
def fst0 (S : Nat → Int32) (m : Nat) : Int32 := fl (fun i (a : Int32) => if S i = 0 then (if 0 ≤ a then a else nI i) else a) m (-1)
theorem fst0_s (S : Nat → Int32) (m : Nat) : fst0 S (m + 1) = if S m = 0 then (if 0 ≤ fst0 S m then fst0 S m else nI m) else fst0 S m := rfl
theorem fst0_no {S : Nat → Int32} : ∀ {m : Nat}, (∀ i, i < m → ¬ S i = 0) → fst0 S m = -1
  | 0, _ => rfl
  | m + 1, h => by rw [fst0_s, if_neg (h m (by omega)), fst0_no (fun i hi => h i (by omega))]
theorem fst0_yes {S : Nat → Int32} {i : Nat} (h0 : S i = 0) (hb : ∀ j, j < i → ¬ S j = 0) (hi : i < 2 ^ 31) : ∀ d, fst0 S (i + 1 + d) = nI i
  | 0 => by
    rw [Nat.add_zero, fst0_s, if_pos h0, fst0_no hb, if_neg (by decide)]
  | d + 1 => by
    rw [← Nat.add_assoc, fst0_s, fst0_yes h0 hb hi d, if_pos (nI_pos' hi)]
    exact ite_id _
theorem fst0_at {S : Nat → Int32} {i m : Nat} (h0 : S i = 0) (hb : ∀ j, j < i → ¬ S j = 0) (hi : i < m) (hm : m < 2 ^ 31) : fst0 S m = nI i := by
  have := fst0_yes h0 hb (by omega) (m - (i + 1))
  rw [show i + 1 + (m - (i + 1)) = m by omega] at this
  exact this
def andF (kp : Nat → Int32) (k : Nat) : Int32 := fl (fun i a => a &&& kp i) k (-1)
theorem andF_s (kp : Nat → Int32) (k : Nat) : andF kp (k + 1) = andF kp k &&& kp k := rfl
theorem and_m1 (x : Int32) : x &&& (-1) = x := b_ext (fun i hi => by rw [b_and, b_m1 i hi, Bool.and_true])
theorem fl_and (kp : Nat → Int32) (x : Int32) : ∀ k, fl (fun i a => a &&& kp i) k x = x &&& andF kp k
  | 0 => (and_m1 x).symm
  | k + 1 => by rw [fl_succ, fl_and kp x k, andF_s, Int32.and_assoc]
theorem s0_inAll {SB : Ob} {t : Nat} (ht : SB.1 1 = nI t) (h10 : t ≤ 10) (x : Int32) : f0_inAllNights x SB = some (x &&& andF (SB.2.2.1 2) t) := by
  rw [← fl_and]
  refine loop_fl (fun m j a => f0_inAllNights_4 m a (nI j) SB) (fun i a => a &&& SB.2.2.1 2 i) some t x ?_ ?_ FU 0 (Nat.zero_le _) (FU_lt (by omega))
  · intro m
    show f0_inAllNights_4 (m + 1) _ (nI t) SB = _
    rw [f0_inAllNights_4, ht, if_pos (nI_le (Nat.le_refl t) (by omega))]
  · intro m j hj
    show f0_inAllNights_4 (m + 1) _ (nI j) SB = f0_inAllNights_4 m _ (nI (j + 1)) SB
    rw [f0_inAllNights_4, ht, if_neg (nI_ge hj (by omega)), inb_nI (by omega) (by omega), ck_t, lt_e, lt_e, nI_clamp (by omega), nI_succ]
theorem full_eq : ∀ n, n < 9 → (1 <<< (nI n &&& 31)) - 1 = so (fun j => decide (j < n)) := by decide +kernel
/-- the sets of same, night by night -/
def samS (kp : Nat → Int32) (x who : Int32) (t k : Nat) : Int32 := if k < t then x &&& andF kp (k + 1) else (x &&& andF kp t) &&& who
theorem s12_same {SM : Ob} {t n : Nat} {who : Int32} (what : Int32) (hn : SM.2.2.1 10 0 = nI n) (h8 : n ≤ 8) (ht : SM.2.2.1 25 1 = nI t) (h10 : t ≤ 10) (hw : whoS n (SM.2.2.1 25 0) = who) (x : Int32) : f12_same_31 FU what x (-1) 0 SM = some (if what = 0 then (x &&& andF (fun k => SM.2.2.1 25 (2 + k)) t) &&& who else fst0 (samS (fun k => SM.2.2.1 25 (2 + k)) x who t) (t + 1), SM) := by
  obtain ⟨kp, hkp⟩ : ∃ kp : Nat → Int32, kp = fun k => SM.2.2.1 25 (2 + k) := ⟨_, rfl⟩
  rw [← hkp]
  have hl := loop_inv (fun q j (a : Int32 × Int32) => f12_same_31 q what a.1 a.2 (nI j) SM) (fun j a => (j ≤ t → a.1 = x &&& andF kp j) ∧ (j = t + 1 → a.1 = (x &&& andF kp t) &&& who) ∧ a.2 = fst0 (samS kp x who t) j) (fun r => r = (if what = 0 then (x &&& andF kp t) &&& who else fst0 (samS kp x who t) (t + 1), SM)) (t + 1)
    (by
      intro q a ha
      obtain ⟨a1, a2⟩ := a
      obtain ⟨-, e1, e2⟩ := ha
      refine ⟨_, ?_, rfl⟩
      show f12_same_31 (q + 1) what a1 a2 (nI (t + 1)) SM = _
      have e1' : a1 = _ := e1 rfl
      have e2' : a2 = _ := e2
      rw [f12_same_31]
      show ck true (if SM.2.2.1 25 1 < nI (t + 1) then _ else _) = _
      rw [ck_t, ht, if_pos (nI_lt (by omega) (by omega)), e1', e2']
      unfold f12_same_108
      split <;> rfl)
    (by
      intro q j a hj ha
      obtain ⟨a1, a2⟩ := a
      obtain ⟨e0, -, e2⟩ := ha
      have e1' : a1 = _ := e0 (by omega)
      have e2' : a2 = _ := e2
      have hS : samS kp x who t j = if j < t then x &&& andF kp (j + 1) else (x &&& andF kp t) &&& who := rfl
      have h76 : ∀ z, a1 &&& z = samS kp x who t j → f12_same_76 (f12_same_31 q) what a2 (nI j) a1 z SM = f12_same_31 q what (samS kp x who t j) (fst0 (samS kp x who t) (j + 1)) (nI (j + 1)) SM := by
        intro z hz
        unfold f12_same_76 f12_same_91 f12_same_92
        simp only [lt_e, hz, nI_1]
        rw [fst0_s, e2']
        by_cases h : samS kp x who t j = 0
        · rw [if_pos h, if_pos h]
          by_cases h2 : 0 ≤ fst0 (samS kp x who t) j
          · rw [if_pos h2, if_pos h2]
          · rw [if_neg h2, if_neg h2]
        · rw [if_neg h, if_neg h]
      refine ⟨(samS kp x who t j, fst0 (samS kp x who t) (j + 1)), ⟨fun h => ?_, fun h => ?_, rfl⟩, ?_⟩
      · show samS kp x who t j = _
        rw [hS, if_pos (by omega)]
      · show samS kp x who t j = _
        rw [hS, if_neg (by omega)]
      · show f12_same_31 (q + 1) what a1 a2 (nI j) SM = _
        rw [f12_same_31]
        show ck true (if SM.2.2.1 25 1 < nI j then _ else ck true (if SM.2.2.1 25 1 ≤ nI j then _ else _)) = _
        rw [ck_t, ck_t, ht, if_neg (nI_nlt (by omega) (by omega))]
        by_cases h : j < t
        · rw [if_neg (nI_ge h (by omega)), show (2 : Int32) + nI j = nI (2 + j) from (by rw [show (2 : Int32) = nI 2 from rfl, nI_add]), inb_nI (by omega) (by omega), ck_t, nI_clamp (by omega)]
          have ek : SM.2.2.1 25 (2 + j) = kp j := by rw [hkp]
          rw [ek]
          exact h76 _ (by rw [hS, if_pos h, e1', andF_s, Int32.and_assoc])
        · rw [if_pos (nI_le (by omega) (by omega))]
          show ck true (bd (f12_whoIn (SM.2.2.1 25 0) SM) _) = _
          rw [ck_t, s12_whoIn _ hn h8, bd_s, hw]
          exact h76 _ (by rw [hS, if_neg h, e1', show j = t by omega]))
    FU 0 (x, -1) (Nat.zero_le _) (FU_lt (by omega)) ⟨fun _ => (and_m1 x).symm, fun h => absurd h (by omega), rfl⟩
  obtain ⟨r, e, hr⟩ := hl
  rw [← hr]
  exact e
theorem s0_first {SB : Ob} {t : Nat} {who x : Int32} (ht : SB.1 1 = nI t) (h10 : t ≤ 10) (hx : ∀ k, k < t → 255 &&& andF (SB.2.2.1 2) (k + 1) = x &&& andF (SB.2.2.1 2) (k + 1)) (h0 : (255 &&& andF (SB.2.2.1 2) t) &&& who = (x &&& andF (SB.2.2.1 2) t) &&& who) : f0_firstNightWithNone who SB = some (fst0 (samS (SB.2.2.1 2) x who t) (t + 1)) := by
  have hS : ∀ j, samS (SB.2.2.1 2) x who t j = if j < t then x &&& andF (SB.2.2.1 2) (j + 1) else (x &&& andF (SB.2.2.1 2) t) &&& who := fun _ => rfl
  have key : ∀ m k, k ≤ t → t - k < m → (∀ j, j < k → ¬ samS (SB.2.2.1 2) x who t j = 0) → f0_firstNightWithNone_6 m who (255 &&& andF (SB.2.2.1 2) k) (nI k) SB = some (fst0 (samS (SB.2.2.1 2) x who t) (t + 1)) := by
    intro m
    induction m with
    | zero => intro k h1 h2; omega
    | succ m ih =>
      intro k h1 h2 hb
      rw [f0_firstNightWithNone_6, ht]
      by_cases h : k = t
      · subst h
        rw [if_pos (nI_le (Nat.le_refl k) (by omega)), h0]
        unfold f0_firstNightWithNone_49
        have hk := hS k
        rw [if_neg (by omega)] at hk
        by_cases hz : (x &&& andF (SB.2.2.1 2) k) &&& who = 0
        · rw [if_pos hz, fst0_at (i := k) (by rw [hk]; exact hz) hb (by omega) (by omega)]
        · rw [if_neg hz, fst0_no (fun i hi => ?_)]
          by_cases hi2 : i = k
          · subst hi2; rw [hk]; exact hz
          · exact hb i (by omega)
      · have hk := hS k
        rw [if_pos (by omega)] at hk
        rw [if_neg (nI_ge (by omega) (by omega)), inb_nI (by omega) (by omega), ck_t, lt_e, nI_clamp (by omega), Int32.and_assoc, ← andF_s, lt_e]
        by_cases hz : 255 &&& andF (SB.2.2.1 2) (k + 1) = 0
        · rw [if_pos hz, fst0_at (i := k) (by rw [hk, ← hx k (by omega)]; exact hz) hb (by omega) (by omega)]
        · rw [if_neg hz, nI_1, ih (k + 1) (by omega) (by omega) (fun j hj => ?_)]
          by_cases hj2 : j = k
          · subst hj2; rw [hk, ← hx j (by omega)]; exact hz
          · exact hb j (by omega)
  have := key FU 0 (Nat.zero_le _) (FU_lt (by omega)) (fun j hj => absurd hj (Nat.not_lt_zero j))
  rw [show (255 : Int32) &&& andF (SB.2.2.1 2) 0 = 255 from and_m1 255] at this
  exact this
theorem andF_cong {f g : Nat → Int32} {k : Nat} (h : ∀ i, i < k → f i = g i) : andF f k = andF g k := fl_cong (fun j b hj => by rw [h j hj])
theorem st_same : St_same Inv := by
  intro cs sm x1 h
  obtain ⟨n, g, hI⟩ := h
  obtain ⟨hC, hM, hB, hR⟩ := id hI
  obtain ⟨h8, h6, hn, -⟩ := id hC
  have hI' : InvN cs (oI sm 0 0) n g := hI
  have hn' : (oI sm 0 0).2.2.1 10 0 = nI n := hM.1
  have hg' : f12_guests (oI sm 0 0) = some (nI n) := by rw [← hM.1]; rfl
  obtain ⟨t, t10, ht1, ht2, ht3⟩ := hB.2.2.1
  have ht2' : (oI sm 0 0).2.2.1 25 1 = nI t := ht2
  have hw : whoS n ((oI sm 0 0).2.2.1 25 0) = whoS n ((cs 10).1 0) := congrArg (whoS n) hB.1
  have hkk : ∀ i, i < t → (oI sm 0 0).2.2.1 25 (2 + i) = (cs 10).2.2.1 2 i := fun i hi => by
    have := (ht3 i hi).1
    rw [Nat.zero_add] at this
    exact this
  have hs := s12_same (SM := oI sm 0 0) (t := t) (n := n) x1 hn' h8 ht2' t10 hw (so (fun j => decide (j < n)))
  have hwb : ∀ i, i < 32 → bt (whoS n ((cs 10).1 0)) i = true → i < n := fun i hi hb => whoS_lt hi hb
  have ew : ∀ y, (so (fun j => decide (j < n)) &&& y) &&& whoS n ((cs 10).1 0) = whoS n ((cs 10).1 0) &&& y := fun y => b_ext (fun i hi => by
    rw [b_and, b_and, b_and, so_bt _ hi]
    cases hb : bt (whoS n ((cs 10).1 0)) i
    · rw [Bool.and_false, Bool.false_and]
    · have := hwb i hi hb
      simp [this])
  have ew2 : ∀ y, (255 &&& y) &&& whoS n ((cs 10).1 0) = whoS n ((cs 10).1 0) &&& y := fun y => b_ext (fun i hi => by
    rw [b_and, b_and, b_and, b_255]
    cases hb : bt (whoS n ((cs 10).1 0)) i
    · rw [Bool.and_false, Bool.false_and]
    · have := hwb i hi hb
      have h9 : i < 8 := by omega
      simp [h9])
  have ek : ∀ k, k < t → 255 &&& andF ((cs 10).2.2.1 2) (k + 1) = so (fun j => decide (j < n)) &&& andF ((cs 10).2.2.1 2) (k + 1) := fun k hk => b_ext (fun i hi => by
    rw [b_and, b_and, andF_s, b_and, b_255, so_bt _ hi]
    cases hb : bt ((cs 10).2.2.1 2 k) i
    · simp
    · have := (ht3 k hk).2 i hi hb
      have h9 : i < 8 := by omega
      simp [h9, this])
  have esam : fst0 (samS (fun k => (oI sm 0 0).2.2.1 25 (2 + k)) (so (fun j => decide (j < n))) (whoS n ((cs 10).1 0)) t) (t + 1) = fst0 (samS ((cs 10).2.2.1 2) (so (fun j => decide (j < n))) (whoS n ((cs 10).1 0)) t) (t + 1) := by
    refine fl_cong (fun j b hj => ?_)
    have : samS (fun k => (oI sm 0 0).2.2.1 25 (2 + k)) (so (fun j => decide (j < n))) (whoS n ((cs 10).1 0)) t j = samS ((cs 10).2.2.1 2) (so (fun j => decide (j < n))) (whoS n ((cs 10).1 0)) t j := by
      unfold samS
      by_cases h : j < t
      · rw [if_pos h, if_pos h, andF_cong (fun i hi => hkk i (by omega))]
      · rw [if_neg h, if_neg h, andF_cong (fun i hi => hkk i hi)]
    rw [this]
  have e12 : (x1 = 0 ∨ x1 = 1) → f12_same x1 sm = f12_same_31 FU x1 (so (fun j => decide (j < n))) (-1) 0 (oI sm 0 0) := fun hx => by
    unfold f12_same
    rw [lt_e, s12_withinL_yes (by rcases hx with rfl | rfl <;> decide) (by rcases hx with rfl | rfl <;> decide), bd_s, if_neg (by decide), hg', bd_s, lt_e, full_eq n (by omega)]
  by_cases hx0 : x1 = 0
  · subst hx0
    refine ⟨whoS n ((cs 10).1 0) &&& andF ((cs 10).2.2.1 2) t, _, ?_, ?_, n, g, hI'⟩
    · unfold f11_same
      rw [if_pos rfl, s4_guestsIn _ hn h8, bd_s, s0_inAll ht1 t10, bd_s]
    · rw [e12 (Or.inl rfl), hs, if_pos rfl, ew, andF_cong hkk]
  · by_cases hx1 : x1 = 1
    · subst hx1
      refine ⟨fst0 (samS ((cs 10).2.2.1 2) (so (fun j => decide (j < n))) (whoS n ((cs 10).1 0)) t) (t + 1), _, ?_, ?_, n, g, hI'⟩
      · unfold f11_same
        rw [if_neg hx0, if_pos rfl, s4_guestsIn _ hn h8, bd_s, s0_first ht1 t10 ek (by rw [ew2, ew]), bd_s]
      · rw [e12 (Or.inr rfl), hs, if_neg hx0, esam]
    · refine ⟨-2, oI sm 0 0, ?_, ?_, n, g, hI'⟩
      · unfold f11_same
        rw [if_neg hx0, if_neg hx1]
      · unfold f12_same
        rw [lt_e, s12_withinL_no (by
          rcases pk_ix x1 (n := 2) (by omega) with hx | hx | ⟨j, hj, rfl⟩
          · exact Or.inl hx
          · right
            rw [Int32.le_iff_toInt_le] at hx; rw [Int32.lt_iff_toInt_lt]
            have : (nI 2).toInt = 2 := by decide
            have : (1 : Int32).toInt = 1 := by decide
            omega
          · have : j = 0 ∨ j = 1 := by omega
            rcases this with rfl | rfl
            · exact absurd rfl hx0
            · exact absurd rfl hx1)]; rfl
