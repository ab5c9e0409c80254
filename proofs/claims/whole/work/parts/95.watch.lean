/-! pure: watch, ask -/
def nearB (rm : Nat → Nat) (f g e : Nat) : Bool := decide (e ≠ g) && decide (rm e ≤ rm g + f ∧ rm g ≤ rm e + f)
theorem far_c {a b f : Nat} (ha : a ≤ 12) (hb : b ≤ 12) (hf : f < 12) : nI f < (if 0 ≤ nI a - nI b then nI a - nI b else 0 - (nI a - nI b)) ↔ ¬ (a ≤ b + f ∧ b ≤ a + f) := by
  have hd : (nI a - nI b).toInt = (a : Int) - b := pk_sub_toInt (by omega) (by omega)
  have h0 : (0 : Int32).toInt = 0 := by decide
  have hfi : (nI f).toInt = f := nI_toInt (by omega)
  by_cases h : 0 ≤ nI a - nI b
  · rw [if_pos h, Int32.lt_iff_toInt_lt, hd, hfi]
    rw [Int32.le_iff_toInt_le, hd, h0] at h
    omega
  · rw [if_neg h, Int32.lt_iff_toInt_lt, hfi, fb_subI (by omega) (by omega), hd, h0]
    rw [Int32.le_iff_toInt_le, hd, h0] at h
    omega
theorem far_m {a b f : Nat} (ha : a ≤ 12) (hb : b ≤ 12) (hf : f < 12) : (nI f < nI a - nI b ∨ nI f < -(nI a - nI b)) ↔ ¬ (a ≤ b + f ∧ b ≤ a + f) := by
  have hd : (nI a - nI b).toInt = (a : Int) - b := pk_sub_toInt (by omega) (by omega)
  have hfi : (nI f).toInt = f := nI_toInt (by omega)
  rw [Int32.lt_iff_toInt_lt, Int32.lt_iff_toInt_lt, fb_negI (by omega), hd, hfi]
  omega
theorem s5_neigh {SI : Ob} {rm : Nat → Nat} {n g f : Nat} (hn : SI.1 0 = nI n) (h8 : n ≤ 8) (hg : g < n) (hf : f < 12) (hr : ∀ j, j < n → SI.2.2.1 3 j = nI (rm j) ∧ rm j ≤ 12) : f5_neighbours (nI g) (nI f) SI = some (so (fun e => decide (e < n) && nearB rm f g e)) := by
  rw [← fl_so (nearB rm f g) (show n ≤ 32 by omega)]
  refine loop_fl (fun m j a => f5_neighbours_5 m (nI g) (nI f) a (nI j) SI) _ some n 0 ?_ ?_ FU 0 (Nat.zero_le _) (FU_lt (by omega))
  · intro m
    show f5_neighbours_5 (m + 1) _ _ _ (nI n) SI = _
    rw [f5_neighbours_5, hn, if_pos (nI_le (Nat.le_refl n) (by omega))]
  · intro m j hj
    show f5_neighbours_5 (m + 1) _ _ _ (nI j) SI = f5_neighbours_5 m _ _ _ (nI (j + 1)) SI
    rw [f5_neighbours_5, hn, if_neg (nI_ge hj (by omega)), inb_nI (by omega) (by omega), inb_nI (by omega) (by omega), ck_t, ck_t, nI_clamp (by omega), nI_clamp (by omega), (hr j hj).1, (hr g hg).1]
    unfold f5_neighbours_48
    simp only [lt_e, nI_1, far_c (hr j hj).2 (hr g hg).2 hf, nI_eq (show j < 2 ^ 31 by omega) (show g < 2 ^ 31 by omega)]
    unfold nearB
    by_cases h1 : j = g
    · simp [h1]
    · by_cases h2 : rm j ≤ rm g + f ∧ rm g ≤ rm j + f
      · simp [h1, h2]
      · simp [h1, h2]
def okW8 (n : Nat) (rm : Nat → Nat) (f M set g : Nat) : Prop := M ≤ fb_ct (fun e => bt (nI set) e && nearB rm f g e) n
theorem cnt_below {x : Int32} {n : Nat} (hn : n ≤ 32) (h : ∀ i, i < 32 → bt x i = true → i < n) : cnt x = fb_ct (bt x) n := by
  unfold cnt
  have hz : fb_ct (fun k => bt x (n + k)) (32 - n) = 0 := fb_ct_zero.mpr (fun k hk => by
    cases hb : bt x (n + k)
    · rfl
    · have := h (n + k) (by omega) hb; omega)
  have := fb_ct_split (bt x) n (32 - n)
  rw [hz, Nat.add_zero, show n + (32 - n) = 32 by omega] at this
  exact this
theorem cnt_near {n : Nat} {rm : Nat → Nat} {f g : Nat} (h8 : n ≤ 8) (x : Int32) : cnt (x &&& so (fun e => decide (e < n) && nearB rm f g e)) = fb_ct (fun e => bt x e && nearB rm f g e) n := by
  rw [cnt_below (n := n) (by omega) (fun i hi hb => by
    rw [b_and, so_bt _ hi] at hb
    simp at hb
    exact hb.2.1)]
  refine fb_ct_cong (fun k hk => ?_)
  rw [b_and, so_bt _ (by omega)]
  simp [hk]
theorem s5_watches {SL SI : Ob} {rm : Nat → Nat} {n f M set : Nat} (hn : SI.1 0 = nI n) (h8 : n ≤ 8) (hM : M < 3) (hL : ∀ g, g < n → SL.2.2.1 2 g = so (fun e => decide (e < n) && nearB rm f g e)) : (f5_watchesAll (nI set) (nI M) SL SI = some 1 ∧ ∀ g, g < n → okW8 n rm f M set g) ∨ (f5_watchesAll (nI set) (nI M) SL SI = some 0 ∧ ∃ g, g < n ∧ ¬ okW8 n rm f M set g) := by
  have key : ∀ m j, j ≤ n → n - j < m → (∀ g, g < j → okW8 n rm f M set g) → (f5_watchesAll_3 m (nI set) (nI M) (nI j) SL SI = some 1 ∧ ∀ g, g < n → okW8 n rm f M set g) ∨ (f5_watchesAll_3 m (nI set) (nI M) (nI j) SL SI = some 0 ∧ ∃ g, g < n ∧ ¬ okW8 n rm f M set g) := by
    intro m
    induction m with
    | zero => intro j h1 h2; omega
    | succ m ih =>
      intro j h1 h2 hb
      rw [f5_watchesAll_3, hn]
      by_cases h : j = n
      · subst h
        left
        rw [if_pos (nI_le (Nat.le_refl j) (by omega))]
        exact ⟨rfl, hb⟩
      · rw [if_neg (nI_ge (by omega) (by omega)), inb_nI (by omega) (by omega), ck_t, nI_clamp (by omega), hL j (by omega), sj_bitCount, bd_s, cnt_near h8, lt_e, nI_1]
        have hle : fb_ct (fun e => bt (nI set) e && nearB rm f j e) n ≤ n := fb_ct_le _ _
        by_cases ho : okW8 n rm f M set j
        · rw [if_pos (nI_le ho (by omega))]
          exact ih (j + 1) (by omega) (by omega) (fun g hg => by
            by_cases hgj : g = j
            · rw [hgj]; exact ho
            · exact hb g (by omega))
        · right
          rw [if_neg (nI_ge (by unfold okW8 at ho; omega) (by omega))]
          exact ⟨rfl, j, by omega, ho⟩
  exact key FU 0 (Nat.zero_le _) (FU_lt (by omega)) (fun g hg => absurd hg (Nat.not_lt_zero g))
theorem s12_watches {SM : Ob} {rm : Nat → Nat} {n f M set : Nat} (hn : SM.2.2.1 10 0 = nI n) (h8 : n ≤ 8) (hf : f < 12) (hM : M < 3) (hr : ∀ j, j < n → SM.2.2.1 10 (3 + 5 * j + 1) = nI (rm j) ∧ rm j ≤ 12) : ∃ t, f12_isWatched (nI set) (nI M) (nI f) SM = some t ∧ (t = 0 ∨ t = 1) ∧ (t = 1 ↔ ∀ g, g < n → okW8 n rm f M set g) := by
  refine loop_inv (fun q g t => f12_isWatched_6 q (nI set) (nI M) (nI f) t (nI g) SM) (fun g t => (t = 0 ∨ t = 1) ∧ (t = 1 ↔ ∀ g', g' < g → okW8 n rm f M set g')) _ n ?_ ?_ FU 0 1 (Nat.zero_le _) (FU_lt (by omega)) ⟨Or.inr rfl, fun _ a h => absurd h (Nat.not_lt_zero a), fun _ => rfl⟩
  · intro q t ht
    refine ⟨t, ?_, ht⟩
    show f12_isWatched_6 (q + 1) _ _ _ _ (nI n) SM = _
    rw [f12_isWatched_6, s12_guests, hn, bd_s, if_pos (nI_le (Nat.le_refl _) (by omega))]
    rcases ht.1 with h | h <;> rw [h] <;> rfl
  · intro q g t hg ht
    have hroom : ∀ e, e < n → f12_guestOf (nI e) 1 SM = some (nI (rm e)) := fun e he => by
      rw [← (hr e he).1]; exact s12_guestOf (k := 1) (by omega) (by omega)
    obtain ⟨b, hb, e⟩ := loop_to (fun m e c => f12_isWatched_21 (f12_isWatched_6 q) m (nI set) (nI M) (nI f) t (nI g) c (nI e) SM) (fun e c => c = nI (fb_ct (fun e => bt (nI set) e && nearB rm f g e) e)) (fun c => f12_isWatched_6 q (nI set) (nI M) (nI f) (if t = 0 then 0 else if c < nI M then 0 else 1) (nI (g + 1)) SM) n
      (by
        intro m c _
        show f12_isWatched_21 _ (m + 1) _ _ _ _ _ _ (nI n) SM = _
        rw [f12_isWatched_21, s12_guests, hn, bd_s, if_pos (nI_le (Nat.le_refl n) (by omega))]
        unfold f12_isWatched_107 f12_isWatched_108
        simp only [lt_e, nI_1]
        by_cases h1 : t = 0
        · rw [if_pos h1, if_pos h1]
        · rw [if_neg h1, if_neg h1]
          by_cases h2 : c < nI M
          · rw [if_pos h2, if_pos h2]
          · rw [if_neg h2, if_neg h2])
      (by
        intro m e c he hc
        refine ⟨nI (fb_ct (fun e => bt (nI set) e && nearB rm f g e) (e + 1)), rfl, ?_⟩
        show f12_isWatched_21 _ (m + 1) _ _ _ _ _ _ (nI e) SM = f12_isWatched_21 _ m _ _ _ _ _ _ (nI (e + 1)) SM
        rw [f12_isWatched_21, s12_guests, hn, bd_s, if_neg (nI_ge he (by omega)), hroom e he, bd_s, hroom g hg, bd_s, lt_e, s12_isIn (by omega), bd_s]
        unfold f12_isWatched_82 f12_isWatched_83
        have fm := far_m (hr e he).2 (hr g hg).2 hf
        have hc' : c = _ := hc
        simp only [lt_e, nI_1, ib_0, nI_eq (show e < 2 ^ 31 by omega) (show g < 2 ^ 31 by omega)]
        have e0 : ∀ x : Int32, x + 0 = x := fun x => Int32.add_zero x
        have hsu := fb_ct_succ (fun e => bt (nI set) e && nearB rm f g e) e
        rw [hc', e0, nI_1]
        by_cases h1 : e = g
        · rw [if_pos h1]
          have : (bt (nI set) e && nearB rm f g e) = false := by unfold nearB; simp [h1]
          rw [hsu, this]; rfl
        · rw [if_neg h1]
          cases h2 : bt (nI set) e
          · rw [if_pos rfl, hsu, h2]; rfl
          · rw [if_neg (by decide)]
            by_cases h3 : rm e ≤ rm g + f ∧ rm g ≤ rm e + f
            · have a1 : ¬ nI f < nI (rm e) - nI (rm g) := fun h => fm.mp (Or.inl h) h3
              have a2 : ¬ nI f < -(nI (rm e) - nI (rm g)) := fun h => fm.mp (Or.inr h) h3
              rw [if_neg a1, if_neg a2]
              have : (bt (nI set) e && nearB rm f g e) = true := by unfold nearB; simp [h1, h2, h3]
              rw [hsu, this]; rfl
            · have : (bt (nI set) e && nearB rm f g e) = false := by unfold nearB; simp [h3]
              rw [hsu, this]
              rcases fm.mpr h3 with a1 | a1
              · rw [if_pos a1]; rfl
              · by_cases a2 : nI f < nI (rm e) - nI (rm g)
                · rw [if_pos a2]; rfl
                · rw [if_neg a2, if_pos a1]; rfl)
      FU 0 0 (Nat.zero_le _) (FU_lt (by omega)) rfl
    have hle : fb_ct (fun e => bt (nI set) e && nearB rm f g e) n ≤ n := fb_ct_le _ _
    refine ⟨if t = 0 then 0 else if b < nI M then 0 else 1, ?_, ?_⟩
    · rw [hb]
      rcases ht.1 with h | h
      · rw [if_pos h]
        refine ⟨Or.inl rfl, fun h2 => absurd h2 (by decide), fun h2 => ?_⟩
        have := ht.2.mpr (fun g' hg' => h2 g' (by omega))
        rw [h] at this; exact absurd this (by decide)
      · have hall := ht.2.mp h
        rw [if_neg (by rw [h]; decide)]
        by_cases ho : okW8 n rm f M set g
        · rw [if_neg (nI_nlt ho (by omega))]
          refine ⟨Or.inr rfl, fun _ g' hg' => ?_, fun _ => rfl⟩
          by_cases hgg : g' = g
          · rw [hgg]; exact ho
          · exact hall g' (by omega)
        · rw [if_pos (nI_lt (by unfold okW8 at ho; omega) (by omega))]
          exact ⟨Or.inl rfl, fun h2 => absurd h2 (by decide), fun h2 => absurd (h2 g (by omega)) ho⟩
    · show f12_isWatched_6 (q + 1) _ _ _ _ (nI g) SM = _
      rw [f12_isWatched_6, s12_guests, hn, bd_s, if_neg (nI_ge hg (by omega))]
      exact e
theorem inv_rooms {cs : Nat → Ob} {sm : Ob} {n g : Nat} (h : InvN cs sm n g) : ∃ rm : Nat → Nat, ∀ j, j < n → (cs 8).2.2.1 3 j = nI (rm j) ∧ 1 ≤ rm j ∧ rm j ≤ 12 ∧ sm.2.2.1 10 (3 + 5 * j + 1) = nI (rm j) := by
  refine ⟨fun j => vN ((cs 8).2.2.1 3 j), fun j hj => ?_⟩
  obtain ⟨v, v1, v2, v3⟩ := h.1.2.2.2.2.2.1 j hj
  have e : vN ((cs 8).2.2.1 3 j) = v := by rw [v3]; exact pk_tn (by omega)
  refine ⟨(nI_vN _).symm, ?_, ?_, ?_⟩
  · show 1 ≤ vN ((cs 8).2.2.1 3 j)
    omega
  · show vN ((cs 8).2.2.1 3 j) ≤ 12
    omega
  show _ = nI (vN ((cs 8).2.2.1 3 j))
  rw [nI_vN]
  exact (h.2.1.2.2.1 j hj).2.1
theorem cntlt (a b : Int32) : (nI (cnt a) ≤ nI (cnt b)) ↔ ¬ cnt b < cnt a := by
  have := cnt_le a; have := cnt_le b
  rw [nI_leI (by omega) (by omega)]; omega
theorem InvN_s {cs : Nat → Ob} {sm : Ob} {n g : Nat} (h : InvN cs sm n g) {k : Nat} (hk : 0 < k ∧ k < 8 ∧ k ≠ 3) (S : Ob) : InvN (va_up cs k S) sm n g := by
  have e : ∀ i, i ≠ k → va_up cs k S i = cs i := fun i hi => va_ne _ hi _
  obtain ⟨hC, hM, hB, hU, hK, hT, hO, hL, hN⟩ := h
  unfold InvN
  rw [e 8 (by omega), e 10 (by omega), e 3 (by omega), e 15 (by omega)]
  exact ⟨hC, hM, hB, hU, MkR_like hK (fun _ _ _ => rfl) (e 0 (by omega)) (fun m _ => e (11 + m) (by omega)), hT, hO, hL, hN⟩
theorem st_watch : St_watch Inv := by
  intro cs sm x1 x2 h
  obtain ⟨n, g, hI⟩ := h
  have hI' : InvN cs (oI sm 0 0) n g := hI
  obtain ⟨h8, h6, hn, -⟩ := id hI.1
  have hn' : (oI sm 0 0).2.2.1 10 0 = nI n := hI.2.1.1
  have hgu : f12_guests (oI sm 0 0) = some (nI n) := by rw [← hI.2.1.1]; rfl
  have h2n : 2 ^ n ≤ 256 := Nat.pow_le_pow_right (n := 2) (i := n) (j := 8) (by omega) h8
  have h2p : 0 < 2 ^ n := Nat.pow_pos (by omega)
  obtain ⟨rm, hrm⟩ := inv_rooms hI'
  have no : (x1 < 1 ∨ 2 < x1) ∨ (x2 < 0 ∨ 11 < x2) → ∃ (r : Int32) (SL : Ob) (sm1 : Ob), f11_watch x1 x2 (cs 0) (cs 7) (cs 8) = some (r, SL) ∧ f12_watch x1 x2 sm = some (r, sm1) ∧ Inv (va_up cs 7 SL) sm1 := by
    intro hno
    refine ⟨-1, cs 7, oI sm 0 0, ?_, ?_, n, g, InvN_s hI' (by omega) _⟩
    · unfold f11_watch f11_watch_20
      by_cases a1 : x1 < 1
      · rw [if_pos a1]
      rw [if_neg a1]
      by_cases a2 : 2 < x1
      · rw [if_pos a2]
      rw [if_neg a2]
      by_cases a3 : x2 < 0
      · rw [if_pos a3]
      rw [if_neg a3]
      rcases hno with (h | h) | (h | h)
      · exact absurd h a1
      · exact absurd h a2
      · exact absurd h a3
      · rw [if_neg (by
          rw [Int32.lt_iff_toInt_lt] at h ⊢
          have : (11 : Int32).toInt = 11 := by decide
          have : (12 : Int32).toInt = 12 := by decide
          omega)]
    · unfold f12_watch
      rw [lt_e]
      show f12_watch_10 (4999 + 1) x1 x2 (-1) 0 (oI sm 0 0) = _
      rw [f12_watch_10, hgu, bd_s, shl1 n h8, if_neg (show ¬ nI (2 ^ n) ≤ 0 from nI_nle h2p (by omega))]
      unfold f12_watch_80
      by_cases a1 : x1 < 1 ∨ 2 < x1
      · rw [s12_withinL_no a1, bd_s, if_pos rfl]
      rw [s12_withinL_yes (fun h => a1 (Or.inl h)) (fun h => a1 (Or.inr h)), bd_s, if_neg (by decide)]
      rcases hno with h | h
      · exact absurd h a1
      · rw [s12_withinL_no h, bd_s, if_pos rfl]
  by_cases b1 : x1 < 1 ∨ 2 < x1
  · exact no (Or.inl b1)
  by_cases b2 : x2 < 0 ∨ 11 < x2
  · exact no (Or.inr b2)
  have c1 : ¬ x1 < 1 := fun h => b1 (Or.inl h)
  have c2 : ¬ 2 < x1 := fun h => b1 (Or.inr h)
  have d1 : ¬ x2 < 0 := fun h => b2 (Or.inl h)
  have d2 : ¬ 11 < x2 := fun h => b2 (Or.inr h)
  have hx10 : ¬ x1 < 0 := by
    rw [Int32.lt_iff_toInt_lt] at c1 ⊢
    have : (0 : Int32).toInt = 0 := by decide
    have : (1 : Int32).toInt = 1 := by decide
    omega
  obtain ⟨M, hM, rfl⟩ := nI_of hx10
  obtain ⟨f, hf, rfl⟩ := nI_of d1
  have hM3 : M < 3 := by
    have : ¬ nI 2 < nI M := c2
    rw [nI_ltI (by omega) (by omega)] at this; omega
  have hf12 : f < 12 := by
    have : ¬ nI 11 < nI f := d2
    rw [nI_ltI (by omega) (by omega)] at this; omega
  have hrc : ∀ j, j < n → (cs 8).2.2.1 3 j = nI (rm j) ∧ rm j ≤ 12 := fun j hj => ⟨(hrm j hj).1, (hrm j hj).2.2.1⟩
  have hrmm : ∀ j, j < n → (oI sm 0 0).2.2.1 10 (3 + 5 * j + 1) = nI (rm j) ∧ rm j ≤ 12 := fun j hj => ⟨(hrm j hj).2.2.2, (hrm j hj).2.2.1⟩
  obtain ⟨T, hT⟩ : ∃ T : Nat → Bool, T = fun k => decide (f12_isWatched (nI k) (nI M) (nI f) (oI sm 0 0) = some 1) := ⟨_, rfl⟩
  have hTm : ∀ k, f12_isWatched (nI k) (nI M) (nI f) (oI sm 0 0) = some (if T k then 1 else 0) := fun k => by
    obtain ⟨t, e, t1, -⟩ := s12_watches (set := k) hn' h8 hf12 hM3 hrmm
    rw [hT]
    simp only [e]
    rcases t1 with h | h <;> rw [h] <;> rfl
  have hTc : ∀ (SL : Ob), (∀ g, g < n → SL.2.2.1 2 g = so (fun e => decide (e < n) && nearB rm f g e)) → ∀ k, f5_watchesAll (nI k) (nI M) SL (cs 8) = some (if T k then 1 else 0) := fun SL hSL k => by
    obtain ⟨t, e, t1, t2⟩ := s12_watches (set := k) hn' h8 hf12 hM3 hrmm
    have hTk : T k = true ↔ t = 1 := by
      rw [hT]
      simp only [e, decide_eq_true_eq, Option.some.injEq]
    rw [t2] at hTk
    rcases s5_watches (set := k) hn h8 hM3 hSL with ⟨e1, h1⟩ | ⟨e1, g', h1, h2⟩
    · rw [e1, hTk.mpr h1]; rfl
    · rw [e1]
      cases hk : T k
      · rfl
      · exact absurd (hTk.mp hk g' h1) h2
  obtain ⟨S2, hS2, e2⟩ := loop_to (fun m j S => f5_awake_3 m (nI M) (nI f) (nI j) S (cs 8)) (fun j S => ∀ g, g < j → S.2.2.1 2 g = so (fun e => decide (e < n) && nearB rm f g e)) (fun S => f5_awake_38 FU (nI M) (-1) 0 S (cs 8)) n
    (by
      intro m S _
      show f5_awake_3 (m + 1) _ _ (nI n) S _ = _
      rw [f5_awake_3, hn, if_pos (nI_le (Nat.le_refl n) (by omega))])
    (by
      intro m j S hj hS
      refine ⟨oA S 2 j (so (fun e => decide (e < n) && nearB rm f j e)), fun g hg => ?_, ?_⟩
      · show upd (S.2.2.1 2) j _ g = _
        by_cases hgj : g = j
        · subst hgj; exact pk_us
        · rw [pk_un hgj]; exact hS g (by omega)
      · show f5_awake_3 (m + 1) _ _ (nI j) S _ = f5_awake_3 m _ _ (nI (j + 1)) _ _
        rw [f5_awake_3, hn, if_neg (nI_ge hj (by omega)), s5_neigh hn h8 hj hf12 hrc, bd_s, inb_nI (by omega) (by omega), ck_t, lt_e, lt_e, nI_clamp (by omega), nI_1])
    FU 0 (cs 7) (Nat.zero_le _) (FU_lt (by omega)) (fun g hg => absurd hg (Nat.not_lt_zero g))
  have e2' : f5_awake_3 FU (nI M) (nI f) 0 (cs 7) (cs 8) = f5_awake_38 FU (nI M) (-1) 0 S2 (cs 8) := e2
  have hTS := hTc S2 hS2
  refine ⟨fl (telF T) (2 ^ n) (-1), S2, oI sm 0 0, ?_, ?_, n, g, InvN_s hI' (by omega) _⟩
  · unfold f11_watch f5_awake
    rw [if_neg c1, if_neg c2, if_neg d1, if_pos (show nI f < 12 from nI_lt (b := 12) hf12 (by omega)), e2']
    have hl := loop_fl (fun m k a => f5_awake_38 m (nI M) a (nI k) S2 (cs 8)) (telF T) (fun a => some (a, S2)) (2 ^ n) (-1)
      (by
        intro m
        show f5_awake_38 (m + 1) _ _ (nI (2 ^ n)) _ _ = _
        rw [f5_awake_38, hn, shl1 n h8, if_pos (nI_le (Nat.le_refl _) (by omega))])
      (by
        intro m k hk
        show f5_awake_38 (m + 1) _ _ (nI k) _ _ = f5_awake_38 m _ _ (nI (k + 1)) _ _
        obtain ⟨a, ha⟩ : ∃ a, a = fl (telF T) k (-1) := ⟨_, rfl⟩
        rw [← ha]
        rw [f5_awake_38, hn, shl1 n h8, if_neg (nI_ge hk (by omega))]
        unfold f5_awake_68 f5_awake_73 f5_awake_95
        rw [sj_bitCount, bd_s, sj_bitCount, bd_s, hTS, bd_s]
        simp only [lt_e, nI_1, cntlt, ib_0]
        rw [if_neg (show ¬ (1 : Int32) = 0 by decide)]
        unfold telF
        by_cases c1 : a = -1
        · cases hk2 : T k <;> simp [c1]
        · by_cases c2 : cnt (nI k) < cnt a
          · cases hk2 : T k <;> simp [c1, c2]
          · cases hk2 : T k <;> simp [c1, c2])
      FU 0 (Nat.zero_le _) (FU_lt (by omega))
    have hl' : f5_awake_38 FU (nI M) (-1) 0 S2 (cs 8) = _ := hl
    rw [hl', bd_s]
  · unfold f12_watch
    rw [lt_e]
    refine loop_fl (fun m k a => f12_watch_10 m (nI M) (nI f) a (nI k) (oI sm 0 0)) (telF T) (fun a => some (a, oI sm 0 0)) (2 ^ n) (-1) ?_ ?_ FU 0 (Nat.zero_le _) (FU_lt (by omega))
    · intro m
      show f12_watch_10 (m + 1) _ _ _ (nI (2 ^ n)) _ = _
      rw [f12_watch_10, hgu, bd_s, shl1 n h8, if_pos (nI_le (Nat.le_refl _) (by omega))]
      rfl
    · intro m k hk
      show f12_watch_10 (m + 1) _ _ _ (nI k) _ = f12_watch_10 m _ _ _ (nI (k + 1)) _
      have hneg := tel_neg (T := T) (j := k) (by omega)
      obtain ⟨a, ha⟩ : ∃ a, a = fl (telF T) k (-1) := ⟨_, rfl⟩
      rw [← ha] at hneg ⊢
      rw [f12_watch_10, hgu, bd_s, shl1 n h8, if_neg (nI_ge hk (by omega)), s12_withinL_yes c1 c2, bd_s, if_neg (by decide), s12_withinL_yes d1 d2, bd_s, if_neg (by decide)]
      unfold f12_watch_56 f12_watch_72 f12_watch_73
      rw [s12_bits, bd_s, s12_bits, bd_s, hTm, bd_s]
      simp only [lt_e, nI_1, cntlt, ib_0, hneg]
      unfold telF
      by_cases c1 : a = -1
      · cases hk2 : T k <;> simp [c1]
      · by_cases c2 : cnt (nI k) < cnt a
        · cases hk2 : T k <;> simp [c1, c2]
        · cases hk2 : T k <;> simp [c1, c2]
