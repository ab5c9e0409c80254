/-! pure: what both ask of a token -/
def RfS (SM : Ob) (C : Nat → Nat) (t N : Nat) : Prop := t ≤ 1000 ∧ N ≤ t ∧ PP C t N = t ∧ (∀ i, i < N → PP C t i < t) ∧ TkM SM C t N ∧ SM.2.2.1 4 N = 0 ∧ SM.2.2.1 5 N = nI t ∧ (∀ k, k < 32 → SM.2.2.2 9 k = lN (codM (kw k))) ∧ ∀ k, k < t → C k = 10 ∨ 32 ≤ C k ∧ C k ≤ 126
theorem RfS_fr {A B : Ob} {C : Nat → Nat} {t N : Nat} (h : RfS A C t N) (h4 : B.2.2.1 4 = A.2.2.1 4) (h5 : B.2.2.1 5 = A.2.2.1 5) (h6 : B.2.2.2 6 = A.2.2.2 6) (h9 : B.2.2.2 9 = A.2.2.2 9) : RfS B C t N := by
  obtain ⟨a1, a2, a3, a4, a5, a6, a7, a8, a9⟩ := h
  refine ⟨a1, a2, a3, a4, fun i hi => ?_, by rw [h4]; exact a6, by rw [h5]; exact a7, by rw [h9]; exact a8, a9⟩
  rw [h4, h5, h6]; exact a5 i hi
/-- the kind of token i -/
def kdT (C : Nat → Nat) (t i : Nat) : Nat := tK C t (PP C t i)
theorem tK_end {C : Nat → Nat} {t q : Nat} (h : t ≤ q) : tK C t q = 34 := by unfold tK; rw [if_pos h]
theorem tK_cases {C : Nat → Nat} {t q : Nat} (h : q < t) : (letB C q = true ∧ wlC C t q ≤ 8 ∧ tK C t q = kIx (wdT C t q)) ∨ (letB C q = true ∧ ¬ wlC C t q ≤ 8 ∧ tK C t q = 35) ∨ (letB C q = false ∧ digB C q = true ∧ dlC C t q ≤ 4 ∧ tK C t q = 33) ∨ (letB C q = false ∧ digB C q = true ∧ ¬ dlC C t q ≤ 4 ∧ tK C t q = 35) ∨ (letB C q = false ∧ digB C q = false ∧ sgnB (C q) = true ∧ tK C t q = C q) ∨ (letB C q = false ∧ digB C q = false ∧ sgnB (C q) = false ∧ tK C t q = 35) := by
  unfold tK
  rw [if_neg (by omega)]
  cases h1 : letB C q
  · rw [if_neg (by decide)]
    cases h2 : digB C q
    · rw [if_neg (by decide)]
      cases h3 : sgnB (C q)
      · rw [if_neg (by decide)]; simp
      · rw [if_pos rfl]; simp
    · rw [if_pos rfl]
      by_cases h4 : dlC C t q ≤ 4
      · rw [if_pos h4]; simp [h4]
      · rw [if_neg h4]; simp [h4]
  · rw [if_pos rfl]
    by_cases h4 : wlC C t q ≤ 8
    · rw [if_pos h4]; simp [h4]; rfl
    · rw [if_neg h4]; simp [h4]
theorem sgn_40 {x : Nat} (h : sgnB x = true) : 40 ≤ x ∧ x ≤ 61 := by
  have := of_decide_eq_true h; omega
theorem wdT_ok {C : Nat → Nat} {t q : Nat} (hl : letB C q = true) (hq : q < t) (h8 : wlC C t q ≤ 8) : ltr (wdT C t q) ∧ (wdT C t q).length ≤ 8 ∧ 1 ≤ (wdT C t q).length := by
  have hge := runT_ge (letB C) t (q + 1)
  have e : runT (letB C) t q = runT (letB C) t (q + 1) := runT_yes hq hl
  refine ⟨wd_ltr (t := t) (by unfold wlC; omega), ?_, ?_⟩
  · unfold wdT; rw [wd_len]; exact h8
  · unfold wdT; rw [wd_len]; unfold wlC; omega
theorem kd_N {SM : Ob} {C : Nat → Nat} {t N : Nat} (h : RfS SM C t N) : kdT C t N = 34 := tK_end (by rw [h.2.2.1]; exact Nat.le_refl t)
theorem kd_lt {SM : Ob} {C : Nat → Nat} {t N i : Nat} (h : RfS SM C t N) (hi : i ≤ N) (hk : kdT C t i ≠ 34) : i < N := by
  rcases Nat.lt_or_ge i N with h1 | h1
  · exact h1
  · have : i = N := by omega
    rw [this, kd_N h] at hk; exact absurd rfl hk
theorem kd_34 {SM : Ob} {C : Nat → Nat} {t N i : Nat} (h : RfS SM C t N) (hi : i < N) : kdT C t i ≠ 34 := by
  have hq := h.2.2.2.1 i hi
  unfold kdT
  rcases tK_cases (C := C) hq with ⟨_, _, e⟩ | ⟨_, _, e⟩ | ⟨_, _, _, e⟩ | ⟨_, _, _, e⟩ | ⟨_, _, hs, e⟩ | ⟨_, _, _, e⟩
  · rw [e]; have := kIx_le (wdT C t (PP C t i)); omega
  · omega
  · omega
  · omega
  · rw [e]; have := sgn_40 hs; omega
  · omega
theorem kd_max {SM : Ob} {C : Nat → Nat} {t N i : Nat} (h : RfS SM C t N) (hi : i ≤ N) : kdT C t i ≤ 61 := by
  rcases Nat.lt_or_ge i N with h1 | h1
  · have hq := h.2.2.2.1 i h1
    unfold kdT
    rcases tK_cases (C := C) hq with ⟨_, _, e⟩ | ⟨_, _, e⟩ | ⟨_, _, _, e⟩ | ⟨_, _, _, e⟩ | ⟨_, _, hs, e⟩ | ⟨_, _, _, e⟩
    · rw [e]; have := kIx_le (wdT C t (PP C t i)); omega
    · omega
    · omega
    · omega
    · rw [e]; have := sgn_40 hs; omega
    · omega
  · have : i = N := by omega
    rw [this, kd_N h]; omega
/-- sorts by kinds -/
theorem srt_kd {SM : Ob} {C : Nat → Nat} {t N i : Nat} (h : RfS SM C t N) (hi : i ≤ N) : (SM.2.2.1 4 i = 1 ↔ kdT C t i ≤ 32) ∧ (SM.2.2.1 4 i = 2 ↔ kdT C t i = 33) ∧ (SM.2.2.1 4 i = 3 ↔ 36 ≤ kdT C t i) ∧ (SM.2.2.1 4 i = 0 ↔ kdT C t i = 34) := by
  rcases Nat.lt_or_ge i N with h1 | h1
  · have hq := h.2.2.2.1 i h1
    rw [(h.2.2.2.2.1 i h1).2.1]
    unfold srt kdT
    rcases tK_cases (C := C) hq with ⟨a, b, e⟩ | ⟨a, b, e⟩ | ⟨a, b, c, e⟩ | ⟨a, b, c, e⟩ | ⟨a, b, hs, e⟩ | ⟨a, b, hs, e⟩
    · rw [a, if_pos rfl, if_pos b, e]
      have := kIx_le (wdT C t (PP C t i))
      refine ⟨⟨fun _ => this, fun _ => rfl⟩, ⟨fun hh => absurd hh (by decide), fun hh => absurd hh (by omega)⟩, ⟨fun hh => absurd hh (by decide), fun hh => absurd hh (by omega)⟩, ⟨fun hh => absurd hh (by decide), fun hh => absurd hh (by omega)⟩⟩
    · rw [a, if_pos rfl, if_neg b, e]; decide
    · rw [a, b, if_neg (by decide), if_pos rfl, if_pos c, e]; decide
    · rw [a, b, if_neg (by decide), if_pos rfl, if_neg c, e]; decide
    · rw [a, b, if_neg (by decide), if_neg (by decide), hs, if_pos rfl, e]
      have := sgn_40 hs
      refine ⟨⟨fun hh => absurd hh (by decide), fun hh => absurd hh (by omega)⟩, ⟨fun hh => absurd hh (by decide), fun hh => absurd hh (by omega)⟩, ⟨fun _ => by omega, fun _ => rfl⟩, ⟨fun hh => absurd hh (by decide), fun hh => absurd hh (by omega)⟩⟩
    · rw [a, b, if_neg (by decide), if_neg (by decide), hs, if_neg (by decide), e]; decide
  · have : i = N := by omega
    rw [this, h.2.2.2.2.2.1, kd_N h]; decide
theorem val_w {SM : Ob} {C : Nat → Nat} {t N i : Nat} (h : RfS SM C t N) (hi : i ≤ N) (hk : kdT C t i ≤ 32) : SM.2.2.2 6 i = lN (codM (wdT C t (PP C t i))) ∧ ltr (wdT C t (PP C t i)) ∧ (wdT C t (PP C t i)).length ≤ 8 ∧ 1 ≤ (wdT C t (PP C t i)).length ∧ kdT C t i = kIx (wdT C t (PP C t i)) := by
  have h1 := kd_lt h hi (by omega)
  have hq := h.2.2.2.1 i h1
  have hv := (h.2.2.2.2.1 i h1).2.2
  unfold kdT at hk ⊢
  rcases tK_cases (C := C) hq with ⟨a, b, e⟩ | ⟨a, b, e⟩ | ⟨a, b, c, e⟩ | ⟨a, b, c, e⟩ | ⟨a, b, hs, e⟩ | ⟨a, b, hs, e⟩
  · obtain ⟨k1, k2, k3⟩ := wdT_ok a hq b
    exact ⟨hv.1 a b, k1, k2, k3, e⟩
  · omega
  · omega
  · omega
  · have := sgn_40 hs; omega
  · omega
theorem val_s {SM : Ob} {C : Nat → Nat} {t N i : Nat} (h : RfS SM C t N) (hi : i ≤ N) (hk : 36 ≤ kdT C t i) : SM.2.2.2 6 i = lN (kdT C t i) := by
  have h1 := kd_lt h hi (by omega)
  have hq := h.2.2.2.1 i h1
  have hv := (h.2.2.2.2.1 i h1).2.2
  unfold kdT at hk ⊢
  rcases tK_cases (C := C) hq with ⟨a, b, e⟩ | ⟨a, b, e⟩ | ⟨a, b, c, e⟩ | ⟨a, b, c, e⟩ | ⟨a, b, hs, e⟩ | ⟨a, b, hs, e⟩
  · have := kIx_le (wdT C t (PP C t i)); omega
  · omega
  · omega
  · omega
  · rw [e]; exact hv.2.2 a b
  · omega
def nmT (C : Nat → Nat) (t i : Nat) : Nat := nmC C (PP C t i) (dlC C t (PP C t i))
theorem nm_le {C : Nat → Nat} {q : Nat} : ∀ l, (∀ j, j < l → C (q + j) ≤ 57) → nmC C q l < 10 ^ l
  | 0, _ => by show 0 < 10 ^ 0; omega
  | l + 1, h => by
    have := nm_le (C := C) (q := q) l (fun j hj => h j (by omega))
    have h2 := h l (by omega)
    show 10 * nmC C q l + (C (q + l) - 48) < 10 ^ (l + 1)
    rw [Nat.pow_succ]; omega
theorem val_n {SM : Ob} {C : Nat → Nat} {t N i : Nat} (h : RfS SM C t N) (hi : i ≤ N) (hk : kdT C t i = 33) : SM.2.2.2 6 i = lN (nmT C t i) ∧ nmT C t i ≤ 9999 := by
  have h1 := kd_lt h hi (by omega)
  have hq := h.2.2.2.1 i h1
  have hv := (h.2.2.2.2.1 i h1).2.2
  unfold kdT at hk
  rcases tK_cases (C := C) hq with ⟨a, b, e⟩ | ⟨a, b, e⟩ | ⟨a, b, c, e⟩ | ⟨a, b, c, e⟩ | ⟨a, b, hs, e⟩ | ⟨a, b, hs, e⟩
  · have := kIx_le (wdT C t (PP C t i)); omega
  · omega
  · refine ⟨hv.2.1 a b c, ?_⟩
    have := nm_le (C := C) (q := PP C t i) (dlC C t (PP C t i)) (fun j hj => by
      have := runT_in (P := digB C) (t := t) (p := PP C t i) (k := PP C t i + j) (by omega) (by unfold dlC at hj; omega)
      have := of_decide_eq_true this
      omega)
    have h4 : (10 : Nat) ^ dlC C t (PP C t i) ≤ 10 ^ 4 := Nat.pow_le_pow_right (by omega) c
    unfold nmT
    omega
  · omega
  · have := sgn_40 hs; omega
  · omega
section
variable {SM : Ob} {C : Nat → Nat} {t N i : Nat}
theorem r_isWord (h : RfS SM C t N) (h7 : SM.1 7 = nI i) (hi : i ≤ N) (h8 : SM.1 8 = 0) {k : Nat} (hk : k < 32) : f12_isWord (nI k) SM = some (if kdT C t i = k then 1 else 0) := by
  have ht := h.1
  have hN := h.2.1
  unfold f12_isWord f12_isWord_43 f12_isWord_44
  rw [if_pos h8, h7, inb_nI (by omega) (by omega), ck_t, ck_t, nI_clamp (by omega), inb_nI hk (by omega), ck_t, nI_clamp (by omega), h.2.2.2.2.2.2.2.1 k hk]
  by_cases hw : kdT C t i ≤ 32
  · obtain ⟨v1, v2, v3, v4, v5⟩ := val_w h hi hw
    obtain ⟨k1, k2, k3⟩ := kw_ok k hk
    rw [if_pos ((srt_kd h hi).1.mpr hw), v1]
    simp only [lgc_eq, lN_inj (codM_lt v2 v3) (codM_lt k1 k2)]
    by_cases hc : codM (wdT C t (PP C t i)) = codM (kw k)
    · have : kdT C t i = k := by rw [v5]; exact (kIx_iff hk).mpr (codM_inj v2 k1 hc)
      rw [if_pos hc, if_pos this]; rfl
    · have : ¬ kdT C t i = k := fun e => by
        rw [v5] at e
        exact hc (by rw [(kIx_iff hk).mp e])
      rw [if_neg hc, if_neg this]; rfl
  · rw [if_neg (fun hh => hw ((srt_kd h hi).1.mp hh)), if_neg (by omega)]; rfl
theorem r_isSign (h : RfS SM C t N) (h7 : SM.1 7 = nI i) (hi : i ≤ N) (h8 : SM.1 8 = 0) {k : Nat} (hk : 36 ≤ k) (hk2 : k < 256) : f12_isSign (nI k) SM = some (if kdT C t i = k then 1 else 0) := by
  have ht := h.1
  have hN := h.2.1
  have hmx := kd_max h hi
  unfold f12_isSign f12_isSign_39 f12_isSign_40
  rw [if_pos h8, h7, inb_nI (by omega) (by omega), ck_t, ck_t, nI_clamp (by omega), nI_l (by omega)]
  by_cases hw : 36 ≤ kdT C t i
  · rw [if_pos ((srt_kd h hi).2.2.1.mpr hw), val_s h hi hw]
    simp only [lgc_eq, lN_inj (show kdT C t i < 2 ^ 64 by omega) (show k < 2 ^ 64 by omega)]
    split <;> rfl
  · rw [if_neg (fun hh => hw ((srt_kd h hi).2.2.1.mp hh)), if_neg (by omega)]; rfl
theorem r_word (h : RfS SM C t N) (h7 : SM.1 7 = nI i) (hi : i ≤ N) (h8 : SM.1 8 = 0) {fr mn : Nat} (hf : fr + mn ≤ 32) : f12_wordHere (nI fr) (nI mn) SM = some (if fr ≤ kdT C t i ∧ kdT C t i < fr + mn then nI (kdT C t i - fr) else -1) := by
  have hl := loop_fl (fun m k a => f12_wordHere_5 m (nI fr) (nI mn) a (nI k) SM) (fun k (a : Int32) => if kdT C t i = fr + k then nI k else a) some mn (-1)
    (by
      intro m
      show f12_wordHere_5 (m + 1) _ _ _ (nI mn) SM = _
      rw [f12_wordHere_5, if_pos (nI_le (Nat.le_refl _) (by omega))])
    (by
      intro m k hk
      show f12_wordHere_5 (m + 1) _ _ _ (nI k) SM = f12_wordHere_5 m _ _ _ (nI (k + 1)) SM
      rw [f12_wordHere_5, if_neg (nI_ge hk (by omega)), nI_add, r_isWord h h7 hi h8 (by omega), bd_s]
      unfold f12_wordHere_28
      simp only [lt_e, nI_1]
      by_cases hc : kdT C t i = fr + k
      · rw [if_pos hc, if_neg (by decide), if_pos hc]
      · rw [if_neg hc, if_pos rfl, if_neg hc])
    FU 0 (Nat.zero_le _) (FU_lt (by omega))
  have hl' : f12_wordHere (nI fr) (nI mn) SM = _ := hl
  rw [hl']
  have key : ∀ m, fl (fun k (a : Int32) => if kdT C t i = fr + k then nI k else a) m (-1) = if fr ≤ kdT C t i ∧ kdT C t i < fr + m then nI (kdT C t i - fr) else -1 := by
    intro m
    induction m with
    | zero => rw [if_neg (by omega)]; rfl
    | succ m ih =>
      rw [fl_succ, ih]
      by_cases hc : kdT C t i = fr + m
      · rw [if_pos hc, if_pos (by omega)]; exact congrArg nI (by omega)
      · rw [if_neg hc]
        by_cases h2 : fr ≤ kdT C t i ∧ kdT C t i < fr + m
        · rw [if_pos h2, if_pos (by omega)]
        · rw [if_neg h2, if_neg (by omega)]
  rw [key]
theorem r_isName (h : RfS SM C t N) (h7 : SM.1 7 = nI i) (hi : i ≤ N) (h8 : SM.1 8 = 0) : f12_isName SM = some (if 29 ≤ kdT C t i ∧ kdT C t i ≤ 32 then 1 else 0) := by
  have ht := h.1
  have hN := h.2.1
  unfold f12_isName f12_isName_34 f12_isName_35
  have hw0 : f12_wordHere 0 29 SM = some (if 0 ≤ kdT C t i ∧ kdT C t i < 0 + 29 then nI (kdT C t i - 0) else -1) := r_word (fr := 0) (mn := 29) h h7 hi h8 (by omega)
  rw [if_pos h8, h7, inb_nI (by omega) (by omega), ck_t, nI_clamp (by omega)]
  by_cases hw : kdT C t i ≤ 32
  · rw [if_pos ((srt_kd h hi).1.mpr hw)]
    by_cases h29 : kdT C t i < 29
    · rw [if_pos (show 0 ≤ kdT C t i ∧ kdT C t i < 0 + 29 by omega)] at hw0
      rw [hw0, bd_s, if_pos (nI_pos' (by omega)), if_neg (by omega)]; rfl
    · rw [if_neg (show ¬ (0 ≤ kdT C t i ∧ kdT C t i < 0 + 29) by omega)] at hw0
      rw [hw0, bd_s, if_neg (by decide), if_pos (show 29 ≤ kdT C t i ∧ kdT C t i ≤ 32 by omega)]; rfl
  · rw [if_neg (fun hh => hw ((srt_kd h hi).1.mp hh)), if_neg (by omega)]; rfl
theorem r_wrong (h : RfS SM C t N) (h7 : SM.1 7 = nI i) (hi : i ≤ N) (h8 : SM.1 8 = 0) (c : Nat) : f12_wrong (nI c) SM = some (oI SM 8 (nI (c + 16 * PP C t i))) := by
  have ht := h.1
  have hN := h.2.1
  unfold f12_wrong f12_wrong_25
  have hp : SM.2.2.1 5 i = nI (PP C t i) := by
    rcases Nat.lt_or_ge i N with h1 | h1
    · exact (h.2.2.2.2.1 i h1).1
    · have : i = N := by omega
      rw [this, h.2.2.2.2.2.2.1, h.2.2.1]
  rw [if_pos h8, h7, inb_nI (by omega) (by omega), ck_t, lt_e, nI_clamp (by omega), hp, show (16 : Int32) = nI 16 from rfl, pk_mul, nI_add]
theorem oI_self (S : Ob) (k : Nat) : oI S k (S.1 k) = S := by unfold oI; rw [va_self]
theorem r_hasWord (h : RfS SM C t N) (h7 : SM.1 7 = nI i) (hi : i ≤ N) (h8 : SM.1 8 = 0) {k : Nat} (hk : k < 32) : f12_hasWord (nI k) SM = some (if kdT C t i = k then (1, oI SM 7 (nI (i + 1))) else (0, SM)) := by
  unfold f12_hasWord f12_hasWord_20
  rw [r_isWord h h7 hi h8 hk, bd_s, lt_e, lt_e]
  by_cases hc : kdT C t i = k
  · rw [if_pos hc, if_neg (by decide), if_pos hc, h7, nI_1]; rfl
  · rw [if_neg hc, if_pos rfl, if_neg hc, Int32.add_zero, oI_self]; rfl
theorem r_hasSign (h : RfS SM C t N) (h7 : SM.1 7 = nI i) (hi : i ≤ N) (h8 : SM.1 8 = 0) {k : Nat} (hk : 36 ≤ k) (hk2 : k < 256) : f12_hasSign (nI k) SM = some (if kdT C t i = k then (1, oI SM 7 (nI (i + 1))) else (0, SM)) := by
  unfold f12_hasSign f12_hasSign_20
  rw [r_isSign h h7 hi h8 hk hk2, bd_s, lt_e, lt_e]
  by_cases hc : kdT C t i = k
  · rw [if_pos hc, if_neg (by decide), if_pos hc, h7, nI_1]; rfl
  · rw [if_neg hc, if_pos rfl, if_neg hc, Int32.add_zero, oI_self]; rfl
theorem r_takeSign (h : RfS SM C t N) (h7 : SM.1 7 = nI i) (hi : i ≤ N) (h8 : SM.1 8 = 0) {k : Nat} (hk : 36 ≤ k) (hk2 : k < 256) : f12_takeSign (nI k) SM = some (if kdT C t i = k then oI SM 7 (nI (i + 1)) else oI SM 8 (nI (1 + 16 * PP C t i))) := by
  unfold f12_takeSign f12_takeSign_26
  rw [r_isSign h h7 hi h8 hk hk2, bd_s]
  by_cases hc : kdT C t i = k
  · rw [if_pos hc, if_neg (by decide), lt_e, if_pos hc, h7, nI_1]
  · have hw : f12_wrong 1 SM = _ := r_wrong h h7 hi h8 1
    rw [if_neg hc, if_pos rfl, hw, bd_s, if_neg hc]
theorem r_takeWord (h : RfS SM C t N) (h7 : SM.1 7 = nI i) (hi : i ≤ N) (h8 : SM.1 8 = 0) {k : Nat} (hk : k < 32) : f12_takeWord (nI k) SM = some (if kdT C t i = k then oI SM 7 (nI (i + 1)) else oI SM 8 (nI (1 + 16 * PP C t i))) := by
  unfold f12_takeWord f12_takeWord_13
  rw [r_hasWord h h7 hi h8 hk, bd_s]
  by_cases hc : kdT C t i = k
  · rw [if_pos hc, if_neg (show ¬ (1 : Int32) = 0 by decide), if_pos hc]
  · have hw : f12_wrong 1 SM = _ := r_wrong h h7 hi h8 1
    rw [if_neg hc, if_pos (show (0 : Int32) = 0 from rfl), hw, bd_s, if_neg hc]
end
/-! behind a fault nothing is found -/
section
variable {SM : Ob} {F : Nat}
def Flt (SM : Ob) (F : Nat) : Prop := SM.1 8 = nI F ∧ 0 < F ∧ F < 2 ^ 20
theorem flt_ne (h : Flt SM F) : ¬ SM.1 8 = 0 := by rw [h.1]; exact nI_ne0 h.2.1 (by have := h.2.2; omega)
theorem flt_nle (h : Flt SM F) : ¬ SM.1 8 ≤ 0 := by rw [h.1]; exact nI_nle h.2.1 (by have := h.2.2; omega)
theorem x_isWord (h : Flt SM F) (k : Int32) : f12_isWord k SM = some 0 := by
  unfold f12_isWord; rw [if_neg (flt_ne h)]; rfl
theorem x_isSign (h : Flt SM F) (k : Int32) : f12_isSign k SM = some 0 := by
  unfold f12_isSign; rw [if_neg (flt_ne h)]; rfl
theorem x_isName (h : Flt SM F) : f12_isName SM = some 0 := by
  unfold f12_isName; rw [if_neg (flt_ne h)]; rfl
theorem x_wrong (h : Flt SM F) (c : Int32) : f12_wrong c SM = some SM := by
  unfold f12_wrong; rw [if_neg (flt_ne h)]; rfl
theorem x_hasWord (h : Flt SM F) (k : Int32) : f12_hasWord k SM = some (0, SM) := by
  unfold f12_hasWord f12_hasWord_20
  rw [x_isWord h, bd_s, if_pos rfl, lt_e, Int32.add_zero, oI_self]; rfl
theorem x_hasSign (h : Flt SM F) (k : Int32) : f12_hasSign k SM = some (0, SM) := by
  unfold f12_hasSign f12_hasSign_20
  rw [x_isSign h, bd_s, if_pos rfl, lt_e, Int32.add_zero, oI_self]; rfl
theorem x_takeSign (h : Flt SM F) (k : Int32) : f12_takeSign k SM = some SM := by
  unfold f12_takeSign
  rw [x_isSign h, bd_s, if_pos rfl, x_wrong h, bd_s]; rfl
theorem x_takeWord (h : Flt SM F) (k : Int32) : f12_takeWord k SM = some SM := by
  unfold f12_takeWord
  rw [x_hasWord h, bd_s, if_pos (show (0 : Int32) = 0 from rfl), x_wrong h, bd_s]; rfl
theorem x_word (h : Flt SM F) (fr : Int32) {mn : Nat} (hm : mn ≤ 32) : f12_wordHere fr (nI mn) SM = some (-1) := by
  have hl := loop_fl (fun m k a => f12_wordHere_5 m fr (nI mn) a (nI k) SM) (fun k (a : Int32) => a) some mn (-1)
    (by
      intro m
      show f12_wordHere_5 (m + 1) _ _ _ (nI mn) SM = _
      rw [f12_wordHere_5, if_pos (nI_le (Nat.le_refl _) (by omega))])
    (by
      intro m k hk
      show f12_wordHere_5 (m + 1) _ _ _ (nI k) SM = f12_wordHere_5 m _ _ _ (nI (k + 1)) SM
      rw [f12_wordHere_5, if_neg (nI_ge hk (by omega)), x_isWord h, bd_s, if_pos rfl]
      unfold f12_wordHere_28
      rw [lt_e, nI_1])
    FU 0 (Nat.zero_le _) (FU_lt (by omega))
  have hl' : f12_wordHere fr (nI mn) SM = _ := hl
  rw [hl']
  have : ∀ m, fl (fun k (a : Int32) => a) m (-1) = -1 := fun m => by
    induction m with
    | zero => rfl
    | succ m ih => rw [fl_succ, ih]
  rw [this]
end
theorem c_isName {ST : Ob} {C : Nat → Nat} {t q : Nat} (h : TkQ ST C t q) (hm : tK C t q ≤ 61) : f10_isName ST = some (if 29 ≤ tK C t q ∧ tK C t q ≤ 32 then 1 else 0) := by
  unfold f10_isName f10_isName_22 f10_isName_23
  rw [h.1]
  by_cases h1 : tK C t q < 29
  · rw [if_pos (show nI (tK C t q) < 29 from nI_lt (b := 29) h1 (by omega)), if_neg (by omega)]; rfl
  · rw [if_neg (show ¬ nI (tK C t q) < 29 from nI_nlt (b := 29) (by omega) (by omega))]
    by_cases h2 : 32 < tK C t q
    · rw [if_pos (show (32 : Int32) < nI (tK C t q) from nI_lt (a := 32) h2 (by omega)), if_neg (by omega)]; rfl
    · rw [if_neg (show ¬ (32 : Int32) < nI (tK C t q) from nI_nlt (a := 32) (by omega) (by omega)), if_pos (by omega)]; rfl
