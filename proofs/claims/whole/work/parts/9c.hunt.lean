/-! pure: hunt -/
def hsF (rm st : Nat → Nat) (who : Int32) (r j : Nat) : Nat := if (bt who j && decide (rm j = r)) then st j else 0
def hsS (rm st : Nat → Nat) (who : Int32) (k r : Nat) : Nat := fb_sm (hsF rm st who r) k
def htF (st : Nat → Nat) (who : Int32) (j : Nat) : Nat := if bt who j then st j else 0
theorem hs_le {rm st : Nat → Nat} {who : Int32} {k r : Nat} (hs : ∀ j, j < k → st j ≤ 99) : hsS rm st who k r ≤ k * 99 := fb_sm_bound (fun j hj => by
  unfold hsF
  split
  · exact hs j hj
  · omega)
theorem ht_le {st : Nat → Nat} {who : Int32} {k : Nat} (hs : ∀ j, j < k → st j ≤ 99) : fb_sm (htF st who) k ≤ k * 99 := fb_sm_bound (fun j hj => by
  unfold htF
  split
  · exact hs j hj
  · omega)
theorem sm_one {v i : Nat} : ∀ {n : Nat}, i < n → fb_sm (fun k => if k = i then v else 0) n = v := by
  intro n hi
  have := fb_sm_upd (fun _ => 0) v (i := i) (n := n) hi
  have h0 := fb_sm_const 0 n
  have e : fb_sm (fun _ => 0) n = 0 := by rw [h0]; omega
  omega
theorem hs_tot {rm st : Nat → Nat} {who : Int32} : ∀ k, (∀ j, j < k → rm j < 13) → fb_sm (hsS rm st who k) 13 = fb_sm (htF st who) k
  | 0, _ => by
    have h0 := fb_sm_const 0 13
    show fb_sm (fun _ => 0) 13 = 0
    omega
  | k + 1, h => by
    have ih := hs_tot (rm := rm) (st := st) (who := who) k (fun j hj => h j (by omega))
    have e : fb_sm (hsS rm st who (k + 1)) 13 = fb_sm (fun r => hsS rm st who k r + hsF rm st who r k) 13 := fb_sm_cong (fun r _ => rfl)
    have e2 : fb_sm (fun r => hsF rm st who r k) 13 = htF st who k := by
      unfold htF
      cases hb : bt who k
      · have : fb_sm (fun r => hsF rm st who r k) 13 = fb_sm (fun _ => 0) 13 := fb_sm_cong (fun r _ => by unfold hsF; rw [hb]; rfl)
        rw [this]
        have h0 := fb_sm_const 0 13
        rw [if_neg (by decide)]; omega
      · have : fb_sm (fun r => hsF rm st who r k) 13 = fb_sm (fun r => if r = rm k then st k else 0) 13 := fb_sm_cong (fun r _ => by
          unfold hsF
          rw [hb, Bool.true_and]
          by_cases hr : rm k = r
          · rw [if_pos (by simp [hr]), if_pos hr.symm]
          · rw [if_neg (by simp [hr]), if_neg (fun h => hr h.symm)])
        rw [this, sm_one (h k (by omega)), if_pos rfl]
    rw [e, fb_sm_add, ih, e2, fb_sm_succ]
/-- the class weighs -/
theorem s1_weigh {SI SK : Ob} {rm st : Nat → Nat} {n : Nat} (hn : SI.1 0 = nI n) (h8 : n ≤ 8) (hr : ∀ j, j < n → SI.2.2.1 3 j = nI (rm j) ∧ rm j ≤ 12) (hs : ∀ j, j < n → SI.2.2.1 4 j = nI (st j) ∧ st j ≤ 99) (who : Int32) : ∃ S1, f1_weighRooms who SK SI = some (nI (fb_sm (htF st who) n), S1) ∧ ∀ r, r < 13 → S1.2.2.1 0 r = nI (hsS rm st who n r) := by
  obtain ⟨S0, hS0, e0⟩ := loop_to (fun m r S => f1_weighRooms_2 m who (nI r) S SI) (fun r S => ∀ r', r' < r → S.2.2.1 0 r' = 0) (fun S => f1_weighRooms_26 FU who 0 0 S SI) 13
    (by
      intro m S _
      show f1_weighRooms_2 (m + 1) _ (nI 13) S SI = _
      rw [f1_weighRooms_2, if_pos (by decide)])
    (by
      intro m r S hr hS
      refine ⟨oA S 0 r 0, fun r' hr' => ?_, ?_⟩
      · show upd (S.2.2.1 0) r 0 r' = 0
        by_cases h : r' = r
        · rw [h, pk_us]
        · rw [pk_un h]; exact hS r' (by omega)
      · show f1_weighRooms_2 (m + 1) _ (nI r) S SI = f1_weighRooms_2 m _ (nI (r + 1)) _ SI
        rw [f1_weighRooms_2, if_neg (show ¬ (12 : Int32) < nI r from nI_nlt (a := 12) (by omega) (by omega)), inb_nI (by omega) (by omega), ck_t, lt_e, lt_e, nI_clamp (by omega), nI_1])
    FU 0 SK (Nat.zero_le _) (FU_lt (by omega)) (fun r' h => absurd h (Nat.not_lt_zero r'))
  obtain ⟨r, e, hr1, hr2⟩ := loop_inv (fun q j (a : Nat × Ob) => f1_weighRooms_26 q who (nI a.1) (nI j) a.2 SI) (fun j a => a.1 = fb_sm (htF st who) j ∧ ∀ r, r < 13 → a.2.2.2.1 0 r = nI (hsS rm st who j r)) (fun r => r.1 = nI (fb_sm (htF st who) n) ∧ ∀ q, q < 13 → r.2.2.2.1 0 q = nI (hsS rm st who n q)) n
    (by
      intro q a ha
      refine ⟨(nI a.1, a.2), ?_, congrArg nI ha.1, ha.2⟩
      show f1_weighRooms_26 (q + 1) _ _ (nI n) _ SI = _
      rw [f1_weighRooms_26, hn, if_pos (nI_le (Nat.le_refl n) (by omega))])
    (by
      intro q j a hj ha
      obtain ⟨t, S⟩ := a
      obtain ⟨a1, a2⟩ := ha
      have a1' : t = _ := a1
      have hrj := hr j hj
      have hsj := hs j hj
      have e77 : ∀ x3 S', f1_weighRooms_77 (f1_weighRooms_26 q) who x3 (nI j) S' SI = f1_weighRooms_26 q who x3 (nI (j + 1)) S' SI := fun x3 S' => by
        unfold f1_weighRooms_77; rw [lt_e, nI_1]
      show ∃ b : Nat × Ob, (b.1 = fb_sm (htF st who) (j + 1) ∧ ∀ r, r < 13 → b.2.2.2.1 0 r = nI (hsS rm st who (j + 1) r)) ∧ f1_weighRooms_26 (q + 1) who (nI t) (nI j) S SI = f1_weighRooms_26 q who (nI b.1) (nI (j + 1)) b.2 SI
      rw [f1_weighRooms_26, hn, if_neg (nI_ge hj (by omega)), bit_u (by omega)]
      cases hb : bt who j
      · refine ⟨(t, S), ⟨?_, fun r hr => ?_⟩, ?_⟩
        · rw [fb_sm_succ]; unfold htF; rw [hb]; exact a1
        · have : hsS rm st who (j + 1) r = hsS rm st who j r + hsF rm st who r j := rfl
          rw [this]; unfold hsF; rw [hb]; exact a2 r hr
        · rw [if_neg (by decide), e77]
      · refine ⟨(t + st j, oA S 0 (rm j) (nI (hsS rm st who j (rm j) + st j))), ⟨?_, fun r hr => ?_⟩, ?_⟩
        · show t + st j = _
          rw [fb_sm_succ, a1']; unfold htF; rw [hb, if_pos rfl]
        · show upd (S.2.2.1 0) (rm j) _ r = _
          have : hsS rm st who (j + 1) r = hsS rm st who j r + hsF rm st who r j := rfl
          rw [this]; unfold hsF; rw [hb, Bool.true_and]
          by_cases hrr : r = rm j
          · rw [hrr, pk_us, if_pos (by simp)]
          · rw [pk_un hrr, if_neg (by simp; exact fun h => hrr h.symm), Nat.add_zero]; exact a2 r hr
        · have hz : S.2.2.1 0 (rm j) = _ := a2 (rm j) (by omega)
          rw [if_pos (by decide), inb_nI (by omega) (by omega), ck_t, nI_clamp (by omega), hrj.1, inb_nI (by omega) (by omega), ck_t, ck_t, ck_t, lt_e, ck_t, lt_e, e77, nI_clamp (by omega), hsj.1, hz, nI_add, nI_add])
    FU 0 (0, S0) (Nat.zero_le _) (FU_lt (by omega)) ⟨rfl, fun r hr => hS0 r hr⟩
  obtain ⟨r1, S1⟩ := r
  have hr1' : r1 = _ := hr1
  subst hr1'
  refine ⟨S1, ?_, hr2⟩
  unfold f1_weighRooms
  exact e0.trans e
theorem s1_heav {SK : Ob} {w : Nat → Nat} (hw : ∀ r, r < 13 → SK.2.2.1 0 r = nI (w r) ∧ w r < 2 ^ 31) : ∃ b, b < 13 ∧ f1_heaviest SK = some (nI b) ∧ (∀ r, r < 13 → w r ≤ w b) ∧ ∀ r, r < b → w r < w b := by
  obtain ⟨r, e, b, hb1, hb2, hb3, hb4⟩ := loop_inv (fun q j (b : Nat) => f1_heaviest_4 q (nI b) (nI (j + 1)) SK) (fun j b => b < j + 1 ∧ (∀ r, r < j + 1 → w r ≤ w b) ∧ ∀ r, r < b → w r < w b) (fun r => ∃ b, b < 13 ∧ r = nI b ∧ (∀ r, r < 13 → w r ≤ w b) ∧ ∀ r, r < b → w r < w b) 12
    (by
      rintro q b ⟨h1, h2, h3⟩
      refine ⟨nI b, ?_, b, h1, rfl, h2, h3⟩
      show f1_heaviest_4 (q + 1) _ (nI 13) SK = _
      rw [f1_heaviest_4, if_pos (by decide)])
    (by
      rintro q j b hj ⟨h1, h2, h3⟩
      have e27 : ∀ z, f1_heaviest_27 (f1_heaviest_4 q) z (nI (j + 1)) SK = f1_heaviest_4 q z (nI (j + 1 + 1)) SK := fun z => by
        unfold f1_heaviest_27; rw [lt_e, nI_1]
      show ∃ b', _ ∧ f1_heaviest_4 (q + 1) (nI b) (nI (j + 1)) SK = f1_heaviest_4 q (nI b') (nI (j + 1 + 1)) SK
      have k1 := hw (j + 1) (by omega)
      have k2 := hw b (by omega)
      rw [f1_heaviest_4, if_neg (show ¬ (12 : Int32) < nI (j + 1) from nI_nlt (a := 12) (by omega) (by omega)), inb_nI (by omega) (by omega), inb_nI (by omega) (by omega), ck_t, ck_t, nI_clamp (by omega), nI_clamp (by omega), k1.1, k2.1]
      by_cases hc : w (j + 1) ≤ w b
      · refine ⟨b, ⟨by omega, fun r hr => ?_, h3⟩, ?_⟩
        · by_cases hrj : r = j + 1
          · rw [hrj]; exact hc
          · exact h2 r (by omega)
        · rw [if_pos (nI_le hc k2.2), e27]
      · refine ⟨j + 1, ⟨by omega, fun r hr => ?_, fun r hr => ?_⟩, ?_⟩
        · by_cases hrj : r = j + 1
          · rw [hrj]; exact Nat.le_refl _
          · have := h2 r (by omega); omega
        · have := h2 r (by omega); omega
        · rw [if_neg (nI_ge (by omega) k1.2), e27])
    FU 0 0 (Nat.zero_le _) (FU_lt (by omega)) ⟨by omega, fun r hr => by have : r = 0 := by omega
                                                                        rw [this]; exact Nat.le_refl _, fun r hr => absurd hr (Nat.not_lt_zero r)⟩
  refine ⟨b, hb1, ?_, hb3, hb4⟩
  rw [← hb2]
  exact e
/-- rooms in their order -/
def SrtR (S f : Nat → Nat) (k b : Nat) : Prop := (∀ i, i < k → 1 ≤ f i ∧ f i < b ∧ 0 < S (f i)) ∧ (∀ i j, i < j → j < k → S (f j) < S (f i) ∨ (S (f j) = S (f i) ∧ f i < f j)) ∧ ∀ r, 1 ≤ r → r < b → 0 < S r → ∃ i, i < k ∧ f i = r
def insF (f : Nat → Nat) (i r t : Nat) : Nat := if t < i then f t else if t = i then r else f (t - 1)
theorem srt_ins {S f : Nat → Nat} {k b i : Nat} (h : SrtR S f k b) (hb : 1 ≤ b) (hS : 0 < S b) (hi : i ≤ k) (h1 : ∀ t, t < i → S b ≤ S (f t)) (h2 : ∀ t, i ≤ t → t < k → S (f t) < S b) : SrtR S (insF f i b) (k + 1) (b + 1) := by
  obtain ⟨a1, a2, a3⟩ := h
  have c1 : ∀ t, t < i → insF f i b t = f t := fun t ht => by unfold insF; rw [if_pos ht]
  have c2 : insF f i b i = b := by unfold insF; rw [if_neg (by omega), if_pos rfl]
  have c3 : ∀ t, i < t → insF f i b t = f (t - 1) := fun t ht => by unfold insF; rw [if_neg (by omega), if_neg (by omega)]
  refine ⟨fun t ht => ?_, fun t u htu hu => ?_, fun r hr1 hr2 hr3 => ?_⟩
  · rcases Nat.lt_trichotomy t i with hh | hh | hh
    · rw [c1 t hh]
      obtain ⟨d1, d2, d3⟩ := a1 t (by omega)
      exact ⟨d1, by omega, d3⟩
    · rw [hh, c2]; exact ⟨hb, by omega, hS⟩
    · rw [c3 t hh]
      obtain ⟨d1, d2, d3⟩ := a1 (t - 1) (by omega)
      exact ⟨d1, by omega, d3⟩
  · rcases Nat.lt_trichotomy t i with hh | hh | hh
    · rw [c1 t hh]
      rcases Nat.lt_trichotomy u i with h3 | h3 | h3
      · rw [c1 u h3]; exact a2 t u htu (by omega)
      · rw [h3, c2]
        have := h1 t hh
        have := (a1 t (by omega)).2.1
        omega
      · rw [c3 u h3]; exact a2 t (u - 1) (by omega) (by omega)
    · rw [hh, c2, c3 u (by omega)]
      exact Or.inl (h2 (u - 1) (by omega) (by omega))
    · rw [c3 t hh, c3 u (by omega)]
      exact a2 (t - 1) (u - 1) (by omega) (by omega)
  · by_cases hrb : r = b
    · exact ⟨i, by omega, by rw [c2, hrb]⟩
    · obtain ⟨t, t1, t2⟩ := a3 r hr1 (by omega) hr3
      by_cases hti : t < i
      · exact ⟨t, by omega, by rw [c1 t hti]; exact t2⟩
      · exact ⟨t + 1, by omega, by rw [c3 (t + 1) (by omega), Nat.add_sub_cancel]; exact t2⟩
theorem s12_ins {SM : Ob} {S f : Nat → Nat} {k b : Nat} (hk : k < 12) (hb : b < 13) (hw : ∀ r, r < 13 → SM.2.2.1 31 r = nI (S r) ∧ S r < 2 ^ 31) (hf : ∀ t, t < k → f t < 13) (K : Int32 → Int32 → Ob → Option (Int32 × Ob)) : ∀ i m p, i ≤ k → i < m → (∀ t, t < i → p t = nI (f t)) → (∀ t, i ≤ t → t < k → p (t + 1) = nI (f t)) → (∀ t, i ≤ t → t < k → S (f t) < S b) → (∀ t, t < i → ∀ u, t < u → u < i → S (f u) ≤ S (f t)) → ∃ i' p', i' ≤ k ∧ f12_findRooms_102 K m (nI k) (nI b) (nI i) (sR SM 32 p) = K (nI (k + 1)) (nI (b + 1)) (sR SM 32 p') ∧ (∀ t, t < i' → S b ≤ S (f t)) ∧ (∀ t, i' ≤ t → t < k → S (f t) < S b) ∧ ∀ t, t < k + 1 → p' t = nI (insF f i' b t) := by
  intro i
  have fin : ∀ (i m : Nat) (p : Nat → Int32), i ≤ k → (∀ t, t < i → p t = nI (f t)) → (∀ t, i ≤ t → t < k → p (t + 1) = nI (f t)) → f12_findRooms_152 K (nI k) (nI b) (nI i) (sR SM 32 p) = K (nI (k + 1)) (nI (b + 1)) (sR SM 32 (upd p i (nI b))) ∧ ∀ t, t < k + 1 → upd p i (nI b) t = nI (insF f i b t) := by
    intro i m p hi h1 h2
    constructor
    · unfold f12_findRooms_152 f12_findRooms_163
      rw [inb_nI (by omega) (by omega), ck_t, lt_e, lt_e, lt_e, nI_1, nI_1, nI_clamp (by omega), sR_oA]
    · intro t ht
      unfold insF
      rcases Nat.lt_trichotomy t i with hh | hh | hh
      · rw [if_pos hh, pk_un (by omega), h1 t hh]
      · rw [hh, if_neg (by omega), if_pos rfl, pk_us]
      · rw [if_neg (by omega), if_neg (by omega), pk_un (by omega)]
        have := h2 (t - 1) (by omega) (by omega)
        rw [show t - 1 + 1 = t by omega] at this
        exact this
  induction i with
  | zero =>
    intro m p hi hm h1 h2 h3 h4
    obtain ⟨m, rfl⟩ : ∃ q, m = q + 1 := ⟨m - 1, by omega⟩
    obtain ⟨f1, f2⟩ := fin 0 m p (by omega) h1 h2
    refine ⟨0, upd p 0 (nI b), by omega, ?_, fun t ht => absurd ht (Nat.not_lt_zero t), h3, f2⟩
    rw [f12_findRooms_102, if_pos (by decide)]
    exact f1
  | succ i ih =>
    intro m p hi hm h1 h2 h3 h4
    obtain ⟨m, rfl⟩ : ∃ q, m = q + 1 := ⟨m - 1, by omega⟩
    have hfi := hf i (by omega)
    have w1 := hw b hb
    have w2 := hw (f i) hfi
    have r1 : (sR SM 32 p).2.2.1 32 i = nI (f i) := by rw [sR_at, h1 i (by omega)]
    have r2 : (sR SM 32 p).2.2.1 31 b = nI (S b) := w1.1
    have r3 : (sR SM 32 p).2.2.1 31 (f i) = nI (S (f i)) := w2.1
    rw [f12_findRooms_102, if_neg (nI_nle (by omega) (by omega)), nI_pred, inb_nI (by omega) (by omega), ck_t, nI_clamp (by omega), r1, inb_nI hfi (by omega), ck_t, inb_nI hb (by omega), ck_t, nI_clamp (by omega), nI_clamp (by omega), r2, r3]
    by_cases hc : S b ≤ S (f i)
    · rw [if_pos (nI_le hc w2.2)]
      obtain ⟨f1, f2⟩ := fin (i + 1) m p (by omega) h1 h2
      refine ⟨i + 1, upd p (i + 1) (nI b), by omega, f1, fun t ht => ?_, h3, f2⟩
      by_cases hti : t = i
      · rw [hti]; exact hc
      · have := h4 t (by omega) i (by omega) (by omega)
        omega
    · rw [if_neg (nI_ge (by omega) w1.2), ck_t, inb_nI (by omega) (by omega), ck_t, lt_e, lt_e, pk_m1, nI_clamp (by omega), sR_oA]
      refine ih m (upd p (i + 1) (nI (f i))) (by omega) (by omega) (fun t ht => ?_) (fun t ht1 ht2 => ?_) (fun t ht1 ht2 => ?_) (fun t ht u hu1 hu2 => h4 t (by omega) u hu1 (by omega))
      · rw [pk_un (by omega)]; exact h1 t (by omega)
      · by_cases hti : t = i
        · rw [hti, pk_us]
        · rw [pk_un (by omega)]; exact h2 t (by omega) ht2
      · by_cases hti : t = i
        · rw [hti]; omega
        · exact h3 t (by omega) ht2
