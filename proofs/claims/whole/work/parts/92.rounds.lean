/-! pure: rounds, common -/
def sN (cs : Nat → Ob) (j : Nat) : Nat := vN ((cs 8).2.2.1 5 j)
theorem sN_c (cs : Nat → Ob) (j : Nat) : (cs 8).2.2.1 5 j = nI (sN cs j) := (nI_vN _).symm
theorem sN_m {cs : Nat → Ob} {sm : Ob} {n g j : Nat} (h : InvN cs sm n g) (hj : j < n) : sm.2.2.1 10 (3 + 5 * j + 3) = nI (sN cs j) := ((h.2.1.2.2.1 j hj).2.2.2.1).trans (sN_c cs j)
def KnS (n : Nat) (sh : Nat → Nat) (sg : Nat → Nat) (x : Int32) (w : Nat) : Int32 := so (fun i => decide (i < n) && kn n sh (sg i) x w)
def NxS (n : Nat) (sh : Nat → Nat) (sg : Nat → Nat) (x : Int32) : Int32 := so (fun v => decide (v < 4 * n) && (bt x v && decide (KnS n sh sg x v = 0)))
theorem s12_knowing {SM : Ob} {sh sg : Nat → Nat} {n w : Nat} (x : Int32) (hn : SM.2.2.1 10 0 = nI n) (h8 : n ≤ 8) (hs : ShM SM sh) (hw : w < 32) (hg : ∀ j, j < n → SM.2.2.1 10 (3 + 5 * j + 3) = nI (sg j)) : f12_knowing x (nI w) SM = some (KnS n sh sg x w) := by
  have e : KnS n sh sg x w = fl (fun k (a : Int32) => if kn n sh (sg k) x w then a ||| (1 <<< (nI k &&& 31)) else a) n 0 := (fl_so _ (by omega)).symm
  rw [e]
  refine loop_fl (fun m k a => f12_knowing_5 m x (nI w) a (nI k) SM) _ some n 0 ?_ ?_ FU 0 (Nat.zero_le _) (FU_lt (by omega))
  · intro m
    show f12_knowing_5 (m + 1) _ _ _ (nI n) SM = _
    rw [f12_knowing_5, s12_guests, hn, bd_s, if_pos (nI_le (Nat.le_refl _) (by omega))]
  · intro m k hk
    show f12_knowing_5 (m + 1) _ _ _ (nI k) SM = f12_knowing_5 m _ _ _ (nI (k + 1)) SM
    rw [f12_knowing_5, s12_guests, hn, bd_s, if_neg (nI_ge hk (by omega)), s12_viewIn _ hn h8 hs (by omega) hw (hg k hk), bd_s, s12_whoIn _ hn h8, bd_s, s12_alone, bd_s]
    unfold f12_knowing_41
    simp only [lt_e, nI_1, lt0_le, alone_kn h8]
    cases kn n sh (sg k) x w <;> simp
theorem s12_next {SM : Ob} {sh sg : Nat → Nat} {n : Nat} (x : Int32) (hn : SM.2.2.1 10 0 = nI n) (h8 : n ≤ 8) (hs : ShM SM sh) (hg : ∀ j, j < n → SM.2.2.1 10 (3 + 5 * j + 3) = nI (sg j)) (k34 : Int32 → Int32 → Int32 → Int32 → Ob → Option (Int32 × Ob)) (x1 x2 x4 : Int32) : f12_rounds_72 k34 FU x1 x2 x x4 0 0 SM = if NxS n sh sg x = x then some (-1, SM) else k34 x1 x2 (NxS n sh sg x) (x4 + 1) SM := by
  have e : NxS n sh sg x = fl (fun k (a : Int32) => if (bt x k && decide (KnS n sh sg x k = 0)) then a ||| (1 <<< (nI k &&& 31)) else a) (4 * n) 0 := (fl_so _ (by omega)).symm
  rw [e]
  refine loop_fl (fun m k a => f12_rounds_72 k34 m x1 x2 x x4 a (nI k) SM) (fun k (a : Int32) => if (bt x k && decide (KnS n sh sg x k = 0)) then a ||| (1 <<< (nI k &&& 31)) else a) (fun a => if a = x then some (-1, SM) else k34 x1 x2 a (x4 + 1) SM) (4 * n) 0 ?_ ?_ FU 0 (Nat.zero_le _) (FU_lt (by omega))
  · intro m
    show f12_rounds_72 k34 (m + 1) _ _ _ _ _ (nI (4 * n)) SM = _
    rw [f12_rounds_72, s12_worlds hn, bd_s, if_pos (nI_le (Nat.le_refl _) (by omega)), lt_e]
  · intro m k hk
    show f12_rounds_72 k34 (m + 1) _ _ _ _ _ (nI k) SM = f12_rounds_72 k34 m _ _ _ _ _ (nI (k + 1)) SM
    rw [f12_rounds_72, s12_worlds hn, bd_s, if_neg (nI_ge hk (by omega)), s12_isIn (by omega), bd_s, s12_knowing _ hn h8 hs (by omega) hg, bd_s]
    unfold f12_rounds_109 f12_rounds_110
    simp only [lt_e, nI_1, ib_0, Int32.or_zero]
    by_cases h1 : bt x k = true
    · by_cases h2 : KnS n sh sg x k = 0
      · simp [h1, h2]
      · simp [h1, h2]
    · simp [h1]
theorem b_sh1 {b : Bool} {j i : Nat} (hj : j < 32) (hi : i < 32) : bt ((if b then (1 : Int32) else 0) <<< (nI j &&& 31)) i = (b && decide (i = j)) := by
  cases b
  · rw [if_neg (by decide), b_shl j hj 0 hi, b_0]; simp
  · rw [if_pos rfl, b_one hj hi]; simp
theorem s6_round {SI : Ob} {sh sg : Nat → Nat} {n w : Nat} {x : Int32} (hn : SI.1 0 = nI n) (h8 : n ≤ 8) (hs : ShR SI sh) (hg : ∀ j, j < n → SI.2.2.1 5 j = nI (sg j)) (hx : ∀ i, i < 32 → bt x i = true → i < 4 * n) (hw : w < 4 * n) (hb : bt x w = true) (k6 : Int32 → Int32 → Int32 → Int32 → Ob → Option (Int32)) (x3 x5 : Int32) : f6_sayingRounds_23 k6 FU (nI w) x3 x x5 0 x 0 SI = if KnS n sh sg x w = 0 then (if NxS n sh sg x = x then some (-1) else k6 (nI w) x3 (NxS n sh sg x) (x5 + 1) SI) else (if x3 = 0 then some x5 else some (KnS n sh sg x w)) := by
  obtain ⟨b, ⟨hb1, hb2⟩, e⟩ := loop_to (fun m j (a : Int32 × Int32) => f6_sayingRounds_23 k6 m (nI w) x3 x x5 a.1 a.2 (nI j) SI) (fun j a => (∀ i, i < 32 → bt a.1 i = (decide (i < j) && kn n sh (sg i) x w)) ∧ ∀ v, v < 32 → (bt a.2 v = true ↔ bt x v = true ∧ ∀ i, i < j → kn n sh (sg i) x v = false)) (fun a => if a.1 = 0 then (if a.2 = x then some (-1) else k6 (nI w) x3 a.2 (x5 + 1) SI) else (if x3 = 0 then some x5 else some a.1)) n
    (by
      intro m a _
      show f6_sayingRounds_23 k6 (m + 1) _ _ _ _ _ _ (nI n) SI = _
      rw [f6_sayingRounds_23, hn, if_pos (nI_le (Nat.le_refl n) (by omega)), lt_e]
      rfl)
    (by
      intro m j a hj ha
      obtain ⟨a1, a2⟩ := a
      obtain ⟨p1, p2⟩ := ha
      refine ⟨(a1 ||| ((if bt (so (fun v => bt x v && kn n sh (sg j) x v)) w then 1 else 0) <<< (nI j &&& 31)), a2 &&& (so (fun v => bt x v && kn n sh (sg j) x v) ^^^ (-1))), ⟨fun i hi => ?_, fun v hv => ?_⟩, ?_⟩
      · show bt (a1 ||| _) i = _
        rw [b_or, p1 i hi, b_sh1 (by omega) hi, so_bt _ (by omega), hb, Bool.true_and]
        by_cases h : i = j
        · subst h; simp
        · by_cases h2 : i < j
          · have : i < j + 1 := by omega
            simp [h, h2, this]
          · have : ¬ i < j + 1 := by omega
            simp [h, h2, this]
      · show bt (a2 &&& _) v = true ↔ _
        rw [b_and, Bool.and_eq_true, p2 v hv, b_not _ hv, so_bt _ hv]
        constructor
        · rintro ⟨⟨h1, h2⟩, h3⟩
          refine ⟨h1, fun i hi => ?_⟩
          by_cases h : i = j
          · subst h; rw [h1] at h3; simpa using h3
          · exact h2 i (by omega)
        · rintro ⟨h1, h2⟩
          refine ⟨⟨h1, fun i hi => h2 i (by omega)⟩, ?_⟩
          rw [h1, h2 j (by omega)]; rfl
      · show f6_sayingRounds_23 k6 (m + 1) _ _ _ _ a1 a2 (nI j) SI = f6_sayingRounds_23 k6 m _ _ _ _ _ _ (nI (j + 1)) SI
        rw [f6_sayingRounds_23, hn, if_neg (nI_ge hj (by omega)), s6_knowing hn h8 hs (by omega) (hg j hj) hx, bd_s, lt_e, lt_e, lt_e, nI_1, bit_u (by omega)])
    FU 0 (0, x) (Nat.zero_le _) (FU_lt (by omega)) ⟨fun i _ => by show bt 0 i = _; rw [b_0]; simp, fun v _ => ⟨fun h => ⟨h, fun i hi => absurd hi (Nat.not_lt_zero i)⟩, fun h => h.1⟩⟩
  obtain ⟨b1, b2⟩ := b
  have e1 : b1 = KnS n sh sg x w := so_eq hb1
  have e2 : b2 = NxS n sh sg x := so_eq (fun v hv => by
    rw [Bool.eq_iff_iff, hb2 v hv]
    simp only [Bool.and_eq_true, decide_eq_true_eq]
    constructor
    · rintro ⟨h1, h2⟩
      refine ⟨hx v hv h1, h1, so_z.mpr (fun i hi => ?_)⟩
      by_cases h : i < n
      · rw [h2 i h, Bool.and_false]
      · simp [h]
    · rintro ⟨h1, h2, h3⟩
      refine ⟨h2, fun i hi => ?_⟩
      have := so_z.mp h3 i (by omega)
      simpa [hi] using this)
  rw [← e1, ← e2]
  exact e
theorem cnt_lt {a b : Int32} (h : ∀ i, i < 32 → bt a i = true → bt b i = true) (hne : ¬ a = b) : cnt a < cnt b := by
  unfold cnt
  have e : fb_ct (bt b) 32 = fb_ct (bt a) 32 + fb_ct (fun i => bt b i && !bt a i) 32 := by
    rw [← fb_ct_or (fun k hk hh => by cases h1 : bt a k <;> simp [h1] at hh)]
    refine fb_ct_cong (fun k hk => ?_)
    cases h1 : bt a k
    · simp
    · rw [h k hk h1]; rfl
  have : 0 < fb_ct (fun i => bt b i && !bt a i) 32 := by
    apply Classical.byContradiction
    intro hno
    have hz := fb_ct_zero.mp (show fb_ct (fun i => bt b i && !bt a i) 32 = 0 by omega)
    refine hne (b_ext (fun i hi => ?_))
    have := hz i hi
    cases h1 : bt a i
    · rw [h1] at this
      cases h2 : bt b i
      · rfl
      · rw [h2] at this; exact absurd this (by decide)
    · rw [h i hi h1]
  omega
theorem kn_single {n : Nat} {sh : Nat → Nat} {sg w : Nat} {x : Int32} (h8 : n ≤ 8) (hw : w < 4 * n) (hb : bt x w = true) (h1 : cnt x ≤ 1) : kn n sh sg x w = true := by
  have hc : cnt x = 1 := by
    have : 0 < fb_ct (bt x) 32 := fb_ct_pos.mpr ⟨w, by omega, hb⟩
    have h2 : cnt x = fb_ct (bt x) 32 := rfl
    omega
  obtain ⟨-, h2⟩ := cnt_one.mp hc
  refine (kn_iff h8 hw hb).mpr ?_
  rintro ⟨a, b, hab, hbn, ⟨i, i1, i2, -⟩, ⟨j, j1, j2, -⟩⟩
  exact h2 (4 * a + i) (4 * b + j) (by omega) (by omega) ⟨i2, j2⟩
theorem rounds_both {SI SM : Ob} {sh sg : Nat → Nat} {n w : Nat} (hn : SI.1 0 = nI n) (hn' : SM.2.2.1 10 0 = nI n) (h8 : n ≤ 8) (hs : ShR SI sh) (hs' : ShM SM sh) (hg : ∀ j, j < n → SI.2.2.1 5 j = nI (sg j)) (hg' : ∀ j, j < n → SM.2.2.1 10 (3 + 5 * j + 3) = nI (sg j)) (hw : w < 4 * n) (what : Int32) : ∀ d r x m1 m2, r + d = 32 → d < m1 → d < m2 → (∀ i, i < 32 → bt x i = true → i < 4 * n) → bt x w = true → cnt x + r ≤ 33 → ∃ R, f6_sayingRounds_6 m1 (nI w) what x (nI r) SI = some R ∧ f12_rounds_34 m2 (nI w) what x (nI r) SM = some (R, SM) := by
  intro d
  induction d with
  | zero =>
    intro r x m1 m2 hr h1 h2 hx hb hc
    obtain ⟨m1, rfl⟩ : ∃ k, m1 = k + 1 := ⟨m1 - 1, by omega⟩
    obtain ⟨m2, rfl⟩ : ∃ k, m2 = k + 1 := ⟨m2 - 1, by omega⟩
    have hk : ¬ KnS n sh sg x w = 0 := fun h => by
      have := so_z.mp h 0 (by omega)
      rw [kn_single h8 hw hb (by omega)] at this
      have h0 : 0 < n := by omega
      simp [h0] at this
    refine ⟨if what = 0 then nI r else KnS n sh sg x w, ?_, ?_⟩
    · rw [f6_sayingRounds_6, if_neg (show ¬ (32 : Int32) < nI r from nI_nlt (a := 32) (by omega) (by omega)), s6_round hn h8 hs hg hx hw hb, if_neg hk]
      split <;> rfl
    · rw [f12_rounds_34, if_neg (show ¬ (33 : Int32) < nI r from nI_nlt (a := 33) (by omega) (by omega)), s12_knowing _ hn' h8 hs' (by omega) hg', bd_s, if_neg hk]
      unfold f12_rounds_65
      split <;> rfl
  | succ d ih =>
    intro r x m1 m2 hr h1 h2 hx hb hc
    obtain ⟨m1, rfl⟩ : ∃ k, m1 = k + 1 := ⟨m1 - 1, by omega⟩
    obtain ⟨m2, rfl⟩ : ∃ k, m2 = k + 1 := ⟨m2 - 1, by omega⟩
    rw [f6_sayingRounds_6, if_neg (show ¬ (32 : Int32) < nI r from nI_nlt (a := 32) (by omega) (by omega)), s6_round hn h8 hs hg hx hw hb, f12_rounds_34, if_neg (show ¬ (33 : Int32) < nI r from nI_nlt (a := 33) (by omega) (by omega)), s12_knowing _ hn' h8 hs' (by omega) hg', bd_s, s12_next _ hn' h8 hs' hg']
    by_cases hk : KnS n sh sg x w = 0
    · rw [if_pos hk, if_pos hk]
      by_cases hx2 : NxS n sh sg x = x
      · exact ⟨-1, by rw [if_pos hx2], by rw [if_pos hx2]⟩
      · rw [if_neg hx2, if_neg hx2, nI_1]
        have hsub : ∀ i, i < 32 → bt (NxS n sh sg x) i = true → bt x i = true := fun i hi h => by
          unfold NxS at h
          rw [so_bt _ hi] at h
          simp only [Bool.and_eq_true] at h
          exact h.2.1
        have := cnt_lt hsub hx2
        refine ih (r + 1) (NxS n sh sg x) m1 m2 (by omega) (by omega) (by omega) (fun i hi h => hx i hi (hsub i hi h)) ?_ (by omega)
        unfold NxS
        rw [so_bt _ (by omega)]
        simp [hw, hb, hk]
    · rw [if_neg hk, if_neg hk]
      refine ⟨if what = 0 then nI r else KnS n sh sg x w, ?_, ?_⟩
      · split <;> rfl
      · unfold f12_rounds_65
        split <;> rfl
theorem st_rounds : St_rounds Inv := by
  intro cs sm x1 x2 h
  obtain ⟨n, g, hI⟩ := h
  have hI' : InvN cs (oI sm 0 0) n g := hI
  obtain ⟨h8, h6, hn, -⟩ := id hI.1
  have hn' : (oI sm 0 0).2.2.1 10 0 = nI n := hI.2.1.1
  obtain ⟨s1, s2, -⟩ := inv_sh hI'
  obtain ⟨l1, l2⟩ := inv_left hI
  rcases left_both hI x1 with ⟨w, hw, rfl, hb, b1, b2⟩ | ⟨b1, b2⟩
  · have no : (x2 < 0 ∨ nI 2 ≤ x2) → ∃ (r : Int32) (sm1 : Ob), f11_rounds (nI w) x2 (cs 0) (cs 8) (cs 10) = some r ∧ f12_rounds (nI w) x2 sm = some (r, sm1) ∧ Inv cs sm1 := by
      intro hx
      refine ⟨-1, oI sm 0 0, ?_, ?_, n, g, hI'⟩
      · unfold f11_rounds
        rw [b1, bd_s, if_neg (by decide)]
        by_cases h0 : x2 < 0
        · rw [if_pos h0]; rfl
        · rcases hx with hx | hx
          · exact absurd hx h0
          · rw [if_neg h0, if_neg (by
              rw [Int32.le_iff_toInt_le] at hx ⊢
              have : (nI 2).toInt = 2 := by decide
              have : (1 : Int32).toInt = 1 := by decide
              omega)]; rfl
      · unfold f12_rounds
        rw [lt_e, b2, bd_s, if_neg (by decide), s12_withinL_no (by
          rcases hx with hx | hx
          · exact Or.inl hx
          · right
            rw [Int32.le_iff_toInt_le] at hx
            rw [Int32.lt_iff_toInt_lt]
            have : (nI 2).toInt = 2 := by decide
            have : (1 : Int32).toInt = 1 := by decide
            omega)]; rfl
    rcases pk_ix x2 (n := 2) (by omega) with hx | hx | ⟨j, hj, rfl⟩
    · exact no (Or.inl hx)
    · exact no (Or.inr hx)
    obtain ⟨R, e1, e2⟩ := rounds_both hn hn' h8 s1 s2 (fun j _ => sN_c cs j) (fun j hj => sN_m hI' hj) hw (nI j) 31 1 ((cs 10).1 0) FU FU rfl (FU_lt (by omega)) (FU_lt (by omega)) l2 hb (by have := cnt_le ((cs 10).1 0); omega)
    refine ⟨R, oI sm 0 0, ?_, ?_, n, g, hI'⟩
    · unfold f11_rounds f11_rounds_41 f6_sayingRounds
      rw [b1, bd_s, if_neg (by decide), if_neg (nI_pos (by omega)), if_pos (show nI j ≤ 1 from nI_le (b := 1) (by omega) (by omega))]
      have : j = 0 ∨ j = 1 := by omega
      rcases this with rfl | rfl
      · rw [if_neg (by decide)]
        have e1' : f6_sayingRounds_6 FU (nI w) 0 ((cs 10).1 0) 1 (cs 8) = some R := e1
        rw [e1', bd_s]
      · rw [if_pos (by decide)]
        have e1' : f6_sayingRounds_6 FU (nI w) 1 ((cs 10).1 0) 1 (cs 8) = some R := e1
        rw [e1', bd_s]
    · unfold f12_rounds
      rw [lt_e, b2, bd_s, if_neg (by decide), s12_withinL_yes (nI_pos (by omega)) (show ¬ (1 : Int32) < nI j from nI_nlt (a := 1) (by omega) (by omega)), bd_s, if_neg (by decide), l1]
      exact e2
  · refine ⟨-1, oI sm 0 0, ?_, ?_, n, g, hI'⟩
    · unfold f11_rounds
      rw [b1]; rfl
    · unfold f12_rounds
      rw [lt_e, b2]; rfl
