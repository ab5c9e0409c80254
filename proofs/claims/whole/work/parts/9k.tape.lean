/-! pure: tokens of the class -/
def chC (ST : Ob) (C : Nat → Nat) (t : Nat) : Prop := t ≤ 1000 ∧ ST.1 2 = nI t ∧ (∀ k, k < t → ST.2.2.1 0 k = nI (C k) ∧ (C k = 10 ∨ 32 ≤ C k ∧ C k ≤ 126)) ∧ ∀ i, i < 32 → ST.2.2.2 1 i = lN (codC (kw i))
def TkQ (ST : Ob) (C : Nat → Nat) (t q : Nat) : Prop := ST.1 3 = nI (tK C t q) ∧ ST.1 4 = nI q ∧ ST.1 5 = nI (enC C t q) ∧ (tK C t q ≤ 32 → ST.2.1 6 = lN (codC (wdT C t q))) ∧ (tK C t q = 33 → ST.1 7 = nI (nmC C q (dlC C t q)))
def stW (ST : Ob) (w : Int64) (k : Nat) : Ob := oI (oL ST 6 w) 5 (nI k)
theorem stW_stW (ST : Ob) (w w' : Int64) (k k' : Nat) : oI (oL (stW ST w k) 6 w') 5 (nI k') = stW ST w' k' := by
  unfold stW oI oL; simp only [bx_uu]
def stN (ST : Ob) (v : Int32) (k : Nat) : Ob := oI (oI ST 7 v) 5 (nI k)
theorem va_comm {α : Type} (f : Nat → α) {j k : Nat} (h : j ≠ k) (x y : α) : va_up (va_up f j x) k y = va_up (va_up f k y) j x := by
  funext i
  unfold va_up
  by_cases h1 : i = k
  · by_cases h2 : i = j
    · exact absurd (h2.symm.trans h1) h
    · simp [h1]; intro h3; exact absurd h3.symm h
  · simp [h1]
theorem stN_stN (ST : Ob) (v v' : Int32) (k k' : Nat) : oI (oI (stN ST v k) 7 v') 5 (nI k') = stN ST v' k' := by
  unfold stN oI
  simp only
  rw [va_comm (va_up ST.1 7 v) (show (5 : Nat) ≠ 7 by omega), bx_uu, bx_uu]
theorem cls_w {ST : Ob} {C : Nat → Nat} {t q : Nat} (hc : chC ST C t) : ∀ m k w, q ≤ k → k ≤ t → t - k < m → (k - q ≤ 8 → w = lN (codC (wdC C q (k - q)))) → ∃ w', f10_readWord_5 m (stW ST w k) = f10_readWord_79 (stW ST w' (runT (letB C) t k)) ∧ (runT (letB C) t k - q ≤ 8 → w' = lN (codC (wdC C q (runT (letB C) t k - q)))) := by
  intro m
  induction m with
  | zero => intro k v h1 h2 h3; omega
  | succ m ih =>
    intro k w h1 h2 h3 hv
    have ht := hc.1
    have a2 : (stW ST w k).1 2 = nI t := hc.2.1
    have a5 : (stW ST w k).1 5 = nI k := rfl
    rw [f10_readWord_5, a2, a5]
    by_cases hk : t ≤ k
    · rw [if_pos (nI_le (by omega) (by omega)), runT_end hk]
      exact ⟨w, rfl, hv⟩
    · obtain ⟨c1, c2⟩ := hc.2.2.1 k (by omega)
      have r0 : (stW ST w k).2.2.1 0 k = nI (C k) := c1
      have r6 : (stW ST w k).2.1 6 = w := rfl
      rw [if_neg (nI_ge (by omega) (by omega)), inb_nI (by omega) (by omega), ck_t, ck_t, ck_t, nI_clamp (by omega), r0, r6, lt_e, lt_e]
      by_cases hlo : C k < 97
      · rw [if_pos (show nI (C k) < 97 from nI_lt (b := 97) hlo (by omega)), runT_no (decide_eq_false (by omega))]
        exact ⟨w, rfl, hv⟩
      rw [if_neg (show ¬ nI (C k) < 97 from nI_nlt (b := 97) (by omega) (by omega))]
      by_cases hhi : 122 < C k
      · rw [if_pos (show (122 : Int32) < nI (C k) from nI_lt (a := 122) hhi (by omega)), runT_no (decide_eq_false (by omega))]
        exact ⟨w, rfl, hv⟩
      rw [if_neg (show ¬ (122 : Int32) < nI (C k) from nI_nlt (a := 122) (by omega) (by omega)), runT_yes (by omega) (decide_eq_true (by omega))]
      have q5 : ∀ x, (oL (stW ST w k) 6 x).1 5 + 1 = nI (k + 1) := fun x => by
        show nI k + 1 = _
        rw [nI_1]
      rw [q5, stW_stW]
      refine ih (k + 1) _ (by omega) (by omega) (by omega) (fun h8 => ?_)
      rw [hv (by omega), show (Int32.toInt64 8 &&& 63) = ((nI 8).toInt64 &&& 63) from rfl, wb_shl _ (by omega), nI_l (by omega), show codC (wdC C q (k - q)) * 2 ^ 8 = 2 ^ 8 * codC (wdC C q (k - q)) from Nat.mul_comm _ _, fb_or_sumL _ (show C k < 2 ^ 8 by omega), show k + 1 - q = (k - q) + 1 by omega, wd_snoc, codC_snoc, show q + (k - q) = k by omega]
theorem cls_d {ST : Ob} {C : Nat → Nat} {t q : Nat} (hc : chC ST C t) : ∀ m k v, q ≤ k → k ≤ t → t - k < m → (k - q ≤ 4 → v = nI (nmC C q (k - q))) → ∃ v', f10_readNumber_5 m (stN ST v k) = f10_readNumber_81 (stN ST v' (runT (digB C) t k)) ∧ (runT (digB C) t k - q ≤ 4 → v' = nI (nmC C q (runT (digB C) t k - q))) := by
  intro m
  induction m with
  | zero => intro k v h1 h2 h3; omega
  | succ m ih =>
    intro k v h1 h2 h3 hv
    have ht := hc.1
    have a2 : (stN ST v k).1 2 = nI t := hc.2.1
    have a5 : (stN ST v k).1 5 = nI k := rfl
    rw [f10_readNumber_5, a2, a5]
    by_cases hk : t ≤ k
    · rw [if_pos (nI_le (by omega) (by omega)), runT_end hk]
      exact ⟨v, rfl, hv⟩
    · obtain ⟨c1, c2⟩ := hc.2.2.1 k (by omega)
      have r0 : (stN ST v k).2.2.1 0 k = nI (C k) := c1
      have r7 : (stN ST v k).1 7 = v := rfl
      rw [if_neg (nI_ge (by omega) (by omega)), inb_nI (by omega) (by omega), ck_t, ck_t, ck_t, nI_clamp (by omega), r0, r7, lt_e, lt_e]
      by_cases hlo : C k < 48
      · rw [if_pos (show nI (C k) < 48 from nI_lt (b := 48) hlo (by omega)), runT_no (decide_eq_false (by omega))]
        exact ⟨v, rfl, hv⟩
      rw [if_neg (show ¬ nI (C k) < 48 from nI_nlt (b := 48) (by omega) (by omega))]
      by_cases hhi : 57 < C k
      · rw [if_pos (show (57 : Int32) < nI (C k) from nI_lt (a := 57) hhi (by omega)), runT_no (decide_eq_false (by omega))]
        exact ⟨v, rfl, hv⟩
      rw [if_neg (show ¬ (57 : Int32) < nI (C k) from nI_nlt (a := 57) (by omega) (by omega)), runT_yes (by omega) (decide_eq_true (by omega))]
      have q5 : ∀ x, (oI (stN ST v k) 7 x).1 5 + 1 = nI (k + 1) := fun x => by
        show nI k + 1 = _
        rw [nI_1]
      rw [q5, stN_stN]
      refine ih (k + 1) _ (by omega) (by omega) (by omega) (fun h4 => ?_)
      rw [hv (by omega), show (10 : Int32) = nI 10 from rfl, show (48 : Int32) = nI 48 from rfl, pk_mul, nI_add, pk_sub (by omega), show k + 1 - q = (k - q) + 1 by omega]
      show _ = nI (10 * nmC C q (k - q) + (C (q + (k - q)) - 48))
      rw [show q + (k - q) = k by omega]
      exact congrArg nI (by omega)
theorem cls_key {S : Ob} {w : List Nat} (hk : ∀ i, i < 32 → S.2.2.2 1 i = lN (codC (kw i))) (hw : ltr w) (h8 : w.length ≤ 8) (h6 : S.2.1 6 = lN (codC w)) (h3 : S.1 3 = 32) : f10_readWord_106 FU 0 S = some (oI S 3 (nI (kIx w))) := by
  have key : ∀ m i, i ≤ kIx w → 32 - i < m → f10_readWord_106 m (nI i) S = some (oI S 3 (nI (kIx w))) := by
    intro m
    induction m with
    | zero => intro i h1 h2; omega
    | succ m ih =>
      intro i hi hm
      have hle := kIx_le w
      rw [f10_readWord_106]
      by_cases h32 : i = 32
      · subst h32
        rw [if_pos (by decide)]
        have e : kIx w = 32 := by omega
        rw [e]
        unfold f10_readWord_146
        have : oI S 3 (nI 32) = S := by
          unfold oI
          have e2 : nI 32 = S.1 3 := h3.symm
          rw [e2, va_self]
        rw [this]
      · obtain ⟨k1, k2, k3⟩ := kw_ok i (by omega)
        rw [if_neg (show ¬ (32 : Int32) ≤ nI i from nI_ge (b := 32) (by omega) (by omega)), if_pos h3, inb_nI (by omega) (by omega), ck_t, nI_clamp (by omega), hk i (by omega), h6]
        unfold f10_readWord_140
        simp only [lgc_eq, lt_e, nI_1, lN_inj (codC_lt k1 k2) (codC_lt hw h8)]
        by_cases hcw : codC (kw i) = codC w
        · have hww : w = kw i := codC_inj hw k1 hcw.symm
          have hki : kIx w = i := (kIx_iff (by omega)).mpr hww
          rw [if_pos hcw, hki]
          obtain ⟨m, rfl⟩ : ∃ q, m = q + 1 := ⟨m - 1, by omega⟩
          rw [f10_readWord_106]
          have e3 : (oI S 3 (nI i)).1 3 = nI i := rfl
          rw [e3, if_neg (show ¬ nI i = 32 from fun hh => h32 ((nI_eq (b := 32) (by omega) (by omega)).mp hh))]
          unfold f10_readWord_146
          exact ite_id _
        · rw [if_neg hcw]
          refine ih (i + 1) ?_ (by omega)
          apply Classical.byContradiction
          intro hno
          have hki : kIx w = i := by omega
          exact hcw (by rw [(kIx_iff (by omega)).mp hki])
  exact key FU 0 (Nat.zero_le _) (FU_lt (by omega))
theorem cls_no {S : Ob} (h3 : S.1 3 = 35) : f10_readWord_106 FU 0 S = some S := by
  show f10_readWord_106 (4999 + 1) 0 S = _
  rw [f10_readWord_106, h3, if_neg (by decide), if_neg (by decide)]
  rfl
theorem cls_ix : ∀ x, x < 128 → ∃ r, fj0_indexOf_0f7a4 (((Int32.toUInt32 (nI x)) % 65536).toInt32) = some r ∧ ((0 : Int32) ≤ r ↔ sgnB x = true) := by
  have h : ∀ x, x < 128 → (match fj0_indexOf_0f7a4 (((Int32.toUInt32 (nI x)) % 65536).toInt32) with | some r => decide (((0 : Int32) ≤ r) ↔ sgnB x = true) | none => false) = true := by decide +kernel
  intro x hx
  have := h x hx
  cases hf : fj0_indexOf_0f7a4 (((Int32.toUInt32 (nI x)) % 65536).toInt32) with
  | none => rw [hf] at this; exact Bool.noConfusion this
  | some r => rw [hf] at this; exact ⟨r, rfl, of_decide_eq_true this⟩
/-- what a step on the tape leaves -/
def FrA (S0 S : Ob) : Prop := (∀ k, k ≠ 3 → k ≠ 4 → k ≠ 5 → k ≠ 7 → S.1 k = S0.1 k) ∧ S.2.2 = S0.2.2
theorem FrA_I {S0 S : Ob} (h : FrA S0 S) {k : Nat} (hk : k = 3 ∨ k = 4 ∨ k = 5 ∨ k = 7) (v : Int32) : FrA S0 (oI S k v) := by
  refine ⟨fun i a b c d => ?_, h.2⟩
  show va_up S.1 k v i = _
  rw [va_ne _ (by omega)]; exact h.1 i a b c d
theorem FrA_L {S0 S : Ob} (h : FrA S0 S) (v : Int64) : FrA S0 (oL S 6 v) := h
theorem FrA_tr {A B D : Ob} (h1 : FrA A B) (h2 : FrA B D) : FrA A D := ⟨fun k a b c d => (h2.1 k a b c d).trans (h1.1 k a b c d), h2.2.trans h1.2⟩
theorem chC_fr {A B : Ob} {C : Nat → Nat} {t : Nat} (h : chC A C t) (hf : FrA A B) : chC B C t := by
  obtain ⟨h1, h2, h3, h4⟩ := h
  refine ⟨h1, (hf.1 2 (by omega) (by omega) (by omega) (by omega)).trans h2, fun k hk => ?_, fun i hi => ?_⟩
  · rw [hf.2]; exact h3 k hk
  · rw [hf.2]; exact h4 i hi
theorem tok_41 {ST : Ob} {C : Nat → Nat} {t q : Nat} (hc : chC ST C t) (hq : q ≤ t) : ∃ ST', f10_advance_41 (nI q) ST = some ST' ∧ FrA ST ST' ∧ TkQ ST' C t q := by
  have ht := hc.1
  obtain ⟨S2, hS2⟩ : ∃ S, S = oI (oI ST 4 (nI q)) 5 (nI q) := ⟨_, rfl⟩
  have f2 : FrA ST S2 := by
    rw [hS2]; exact FrA_I (FrA_I ⟨fun _ _ _ _ _ => rfl, rfl⟩ (by omega) _) (by omega) _
  have c2 : chC S2 C t := chC_fr hc f2
  have s4 : S2.1 4 = nI q := by rw [hS2]; rfl
  have s5 : S2.1 5 = nI q := by rw [hS2]; rfl
  unfold f10_advance_41
  rw [lt_e, lt_e, ← hS2, c2.2.1]
  by_cases hqt : q < t
  · obtain ⟨d1, d2⟩ := c2.2.2.1 q hqt
    rw [if_pos (nI_lt hqt (by omega)), inb_nI (by omega) (by omega), ck_t, ck_t, nI_clamp (by omega), d1]
    -- not a letter
    have nolet : letB C q = false → ∃ ST', f10_advance_97 (nI q) S2 = some ST' ∧ FrA ST ST' ∧ TkQ ST' C t q := by
      intro hl
      unfold f10_advance_97
      rw [inb_nI (by omega) (by omega), ck_t, ck_t, nI_clamp (by omega), d1]
      have single : digB C q = false → ∃ ST', f10_advance_126 (nI q) S2 = some ST' ∧ FrA ST ST' ∧ TkQ ST' C t q := by
        intro hd
        have hen : enC C t q = q + 1 := by
          unfold enC
          rw [if_neg (by omega), if_neg (by rw [hl]; decide), if_neg (by rw [hd]; decide)]
        unfold f10_advance_126 f10_advance_160 f10_advance_163
        have e0 : ∀ v, (oI S2 5 v).2.2.1 0 q = nI (C q) := fun v => d1
        rw [lt_e, inb_nI (by omega) (by omega), ck_t, ck_t, nI_clamp (by omega), e0, nI_1]
        obtain ⟨r, r1, r2⟩ := cls_ix (C q) (by omega)
        rw [r1, bd_s]
        cases hsg : sgnB (C q)
        · have hk : tK C t q = 35 := by
            unfold tK; rw [if_neg (by omega), if_neg (by rw [hl]; decide), if_neg (by rw [hd]; decide), if_neg (by rw [hsg]; decide)]
          rw [if_neg (fun hh => by have := r2.mp hh; rw [hsg] at this; exact absurd this (by decide)), lt_e]
          refine ⟨_, rfl, FrA_I (FrA_I f2 (by omega) _) (by omega) _, ?_⟩
          refine ⟨by rw [hk]; rfl, s4, by rw [hen]; rfl, fun hh => absurd hh (by omega), fun hh => absurd hh (by omega)⟩
        · have hk : tK C t q = C q := by
            unfold tK; rw [if_neg (by omega), if_neg (by rw [hl]; decide), if_neg (by rw [hd]; decide), if_pos hsg]
          have hsx := of_decide_eq_true hsg
          rw [if_pos (r2.mpr hsg), lt_e]
          refine ⟨_, rfl, FrA_I (FrA_I f2 (by omega) _) (by omega) _, ?_⟩
          refine ⟨by rw [hk]; rfl, s4, by rw [hen]; rfl, fun hh => absurd hh (by omega), fun hh => absurd hh (by omega)⟩
      by_cases hlo : C q < 48
      · rw [if_pos (show nI (C q) < 48 from nI_lt (b := 48) hlo (by omega))]
        exact single (decide_eq_false (by omega))
      rw [if_neg (show ¬ nI (C q) < 48 from nI_nlt (b := 48) (by omega) (by omega))]
      by_cases hhi : 57 < C q
      · rw [if_pos (show (57 : Int32) < nI (C q) from nI_lt (a := 57) hhi (by omega))]
        exact single (decide_eq_false (by omega))
      rw [if_neg (show ¬ (57 : Int32) < nI (C q) from nI_nlt (a := 57) (by omega) (by omega))]
      have hd : digB C q = true := decide_eq_true (by omega)
      have hen : enC C t q = runT (digB C) t q := by
        unfold enC
        rw [if_neg (by omega), if_neg (by rw [hl]; decide), if_pos hd]
      have hge := runT_ge (digB C) t q
      have hle := runT_le (P := digB C) (t := t) (p := q) (by omega)
      obtain ⟨v', e1, e2⟩ := cls_d c2 (q := q) FU q 0 (Nat.le_refl q) (by omega) (FU_lt (by omega)) (fun _ => by rw [Nat.sub_self]; rfl)
      have est : oI S2 7 0 = stN S2 0 q := by
        unfold stN oI
        simp only
        have : va_up (va_up S2.1 7 0) 5 (nI q) = va_up S2.1 7 0 := by
          have e5 : nI q = (va_up S2.1 7 0) 5 := by
            rw [va_ne _ (by omega)]; exact s5.symm
          rw [e5, va_self]
        rw [this]
      unfold f10_readNumber
      rw [lt_e, est, e1]
      unfold f10_readNumber_81 f10_readNumber_102 f10_advance_163
      have a5 : (stN S2 v' (runT (digB C) t q)).1 5 = nI (runT (digB C) t q) := rfl
      have a4 : (stN S2 v' (runT (digB C) t q)).1 4 = nI q := s4
      rw [a5, a4, pk_sub hge]
      have hfr : FrA ST (stN S2 v' (runT (digB C) t q)) := FrA_I (FrA_I f2 (by omega) _) (by omega) _
      by_cases h4 : dlC C t q ≤ 4
      · have hk : tK C t q = 33 := by
          unfold tK; rw [if_neg (by omega), if_neg (by rw [hl]; decide), if_pos hd, if_pos h4]
        rw [if_pos (show nI (runT (digB C) t q - q) ≤ 4 from nI_le (b := 4) h4 (by omega)), lt_e, bd_s]
        refine ⟨_, rfl, FrA_I hfr (by omega) _, ?_⟩
        refine ⟨by rw [hk]; rfl, s4, by rw [hen]; rfl, fun hh => absurd hh (by omega), fun _ => e2 h4⟩
      · have hk : tK C t q = 35 := by
          unfold tK; rw [if_neg (by omega), if_neg (by rw [hl]; decide), if_pos hd, if_neg h4]
        rw [if_neg (show ¬ nI (runT (digB C) t q - q) ≤ 4 from nI_ge (a := 4) (by unfold dlC at h4; omega) (by omega)), lt_e, bd_s]
        refine ⟨_, rfl, FrA_I hfr (by omega) _, ?_⟩
        refine ⟨by rw [hk]; rfl, s4, by rw [hen]; rfl, fun hh => absurd hh (by omega), fun hh => absurd hh (by omega)⟩
    by_cases hlo : C q < 97
    · rw [if_pos (show nI (C q) < 97 from nI_lt (b := 97) hlo (by omega))]
      exact nolet (decide_eq_false (by omega))
    rw [if_neg (show ¬ nI (C q) < 97 from nI_nlt (b := 97) (by omega) (by omega))]
    by_cases hhi : 122 < C q
    · rw [if_pos (show (122 : Int32) < nI (C q) from nI_lt (a := 122) hhi (by omega))]
      exact nolet (decide_eq_false (by omega))
    rw [if_neg (show ¬ (122 : Int32) < nI (C q) from nI_nlt (a := 122) (by omega) (by omega))]
    have hl : letB C q = true := decide_eq_true (by omega)
    have hen : enC C t q = runT (letB C) t q := by
      unfold enC
      rw [if_neg (by omega), if_pos hl]
    have hge := runT_ge (letB C) t q
    have hle := runT_le (P := letB C) (t := t) (p := q) (by omega)
    obtain ⟨w', e1, e2⟩ := cls_w c2 (q := q) FU q 0 (Nat.le_refl q) (by omega) (FU_lt (by omega)) (fun _ => by rw [Nat.sub_self]; rfl)
    have est : oL S2 6 0 = stW S2 0 q := by
      unfold stW oI oL
      simp only
      have : va_up S2.1 5 (nI q) = S2.1 := by rw [← s5, va_self]
      rw [this]
    unfold f10_readWord
    rw [lt_e, est, e1]
    unfold f10_readWord_79 f10_readWord_101 f10_advance_163
    have a5 : (stW S2 w' (runT (letB C) t q)).1 5 = nI (runT (letB C) t q) := rfl
    have a4 : (stW S2 w' (runT (letB C) t q)).1 4 = nI q := s4
    rw [a5, a4, pk_sub hge, lt_e, lt_e]
    have hfr : FrA ST (stW S2 w' (runT (letB C) t q)) := FrA_I (FrA_L f2 _) (by omega) _
    by_cases h8 : wlC C t q ≤ 8
    · have hk : tK C t q = kIx (wdT C t q) := by
        unfold tK; rw [if_neg (by omega), if_pos hl, if_pos h8]; rfl
      have hlt : ltr (wdT C t q) := wd_ltr (t := t) (by unfold wlC; omega)
      have hlen : (wdT C t q).length ≤ 8 := by unfold wdT; rw [wd_len]; exact h8
      have hword : w' = lN (codC (wdT C t q)) := e2 h8
      rw [if_pos (show nI (runT (letB C) t q - q) ≤ 8 from nI_le (b := 8) h8 (by omega)), cls_key (S := oI (stW S2 w' (runT (letB C) t q)) 3 32) c2.2.2.2 hlt hlen hword rfl, bd_s]
      refine ⟨_, rfl, FrA_I (FrA_I hfr (by omega) _) (by omega) _, ?_⟩
      refine ⟨by rw [hk]; rfl, s4, by rw [hen]; rfl, fun _ => hword, fun hh => ?_⟩
      have := kIx_le (wdT C t q)
      omega
    · have hk : tK C t q = 35 := by
        unfold tK; rw [if_neg (by omega), if_pos hl, if_neg h8]
      rw [if_neg (show ¬ nI (runT (letB C) t q - q) ≤ 8 from nI_ge (a := 8) (by unfold wlC at h8; omega) (by omega)), cls_no (S := oI (stW S2 w' (runT (letB C) t q)) 3 35) rfl, bd_s]
      refine ⟨_, rfl, FrA_I hfr (by omega) _, ?_⟩
      refine ⟨by rw [hk]; rfl, s4, by rw [hen]; rfl, fun hh => absurd hh (by omega), fun hh => absurd hh (by omega)⟩
  · have hk : tK C t q = 34 := by unfold tK; rw [if_pos (by omega)]
    have hen : enC C t q = q := by unfold enC; rw [if_pos (by omega)]
    unfold f10_advance_163
    rw [if_neg (nI_nlt (by omega) (by omega)), lt_e]
    refine ⟨_, rfl, FrA_I f2 (by omega) _, ?_⟩
    refine ⟨by rw [hk]; rfl, s4, by rw [hen]; exact s5, fun hh => absurd hh (by omega), fun hh => absurd hh (by omega)⟩
theorem tok_adv {ST : Ob} {C : Nat → Nat} {t e : Nat} (hc : chC ST C t) (he : ST.1 5 = nI e) (het : e ≤ t) : ∃ ST', f10_advance ST = some ST' ∧ FrA ST ST' ∧ TkQ ST' C t (plC C t e) := by
  have ht := hc.1
  have key : ∀ m k, k ≤ t → t - k < m → f10_advance_5 m (nI k) ST = f10_advance_41 (nI (plC C t k)) ST := by
    intro m
    induction m with
    | zero => intro k h1 h2; omega
    | succ m ih =>
      intro k h1 h2
      rw [f10_advance_5, hc.2.1]
      by_cases hk : t ≤ k
      · rw [if_pos (nI_le (by omega) (by omega)), show plC C t k = k from runT_end hk]
      · obtain ⟨d1, d2⟩ := hc.2.2.1 k (by omega)
        rw [if_neg (nI_ge (by omega) (by omega)), inb_nI (by omega) (by omega), ck_t, ck_t, nI_clamp (by omega), d1]
        unfold f10_advance_35
        rw [lt_e, nI_1]
        by_cases h10 : C k = 10
        · rw [if_pos (by rw [h10]; rfl), ih (k + 1) (by omega) (by omega), show plC C t k = plC C t (k + 1) from runT_yes (by omega) (decide_eq_true (Or.inl h10))]
        rw [if_neg (show ¬ nI (C k) = 10 from fun hh => h10 ((nI_eq (b := 10) (by omega) (by omega)).mp hh))]
        by_cases h32 : C k = 32
        · rw [if_pos (by rw [h32]; rfl), ih (k + 1) (by omega) (by omega), show plC C t k = plC C t (k + 1) from runT_yes (by omega) (decide_eq_true (Or.inr h32))]
        rw [if_neg (show ¬ nI (C k) = 32 from fun hh => h32 ((nI_eq (b := 32) (by omega) (by omega)).mp hh)), show plC C t k = k from runT_no (decide_eq_false (by omega))]
  unfold f10_advance
  rw [lt_e, he, key FU e het (FU_lt (by omega))]
  exact tok_41 hc (runT_le het)
