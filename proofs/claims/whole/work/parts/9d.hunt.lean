/-! pure: hunt, the call -/
/-- the reference's rooms -/
theorem s12_rooms {SM : Ob} {rm st : Nat → Nat} {n : Nat} {who : Int32} (hn : SM.2.2.1 10 0 = nI n) (h8 : n ≤ 8) (hr : ∀ j, j < n → SM.2.2.1 10 (3 + 5 * j + 1) = nI (rm j) ∧ 1 ≤ rm j ∧ rm j ≤ 12) (hs : ∀ j, j < n → SM.2.2.1 10 (3 + 5 * j + 2) = nI (st j) ∧ st j ≤ 99) (hw : whoS n (SM.2.2.1 25 0) = who) : ∃ k f p q, k ≤ 12 ∧ SrtR (hsS rm st who n) f k 13 ∧ f12_findRooms SM = some (nI k, sR (sR SM 31 q) 32 p) ∧ (∀ r, r < 13 → q r = nI (hsS rm st who n r)) ∧ ∀ t, t < k → p t = nI (f t) := by
  -- rooms are emptied
  obtain ⟨S0, ⟨q0, hq0, hq0'⟩, e0⟩ := loop_to (fun m r S => f12_findRooms_13 m who (nI r) S) (fun r S => ∃ q, S = sR SM 31 q ∧ ∀ r', r' < r → q r' = 0) (fun S => f12_findRooms_34 FU who 0 S) 13
    (by
      intro m S _
      show f12_findRooms_13 (m + 1) _ (nI 13) S = _
      rw [f12_findRooms_13, if_pos (by decide)])
    (by
      rintro m r S hr ⟨q, rfl, hS⟩
      refine ⟨sR SM 31 (upd q r 0), ⟨_, rfl, fun r' hr' => ?_⟩, ?_⟩
      · by_cases h : r' = r
        · rw [h, pk_us]
        · rw [pk_un h]; exact hS r' (by omega)
      · show f12_findRooms_13 (m + 1) _ (nI r) _ = f12_findRooms_13 m _ (nI (r + 1)) _
        rw [f12_findRooms_13, if_neg (show ¬ (13 : Int32) ≤ nI r from nI_ge (b := 13) hr (by omega)), inb_nI (by omega) (by omega), ck_t, lt_e, lt_e, nI_clamp (by omega), nI_1, sR_oA])
    FU 0 SM (Nat.zero_le _) (FU_lt (by omega)) ⟨SM.2.2.1 31, (sR_self _ _).symm, fun r' h => absurd h (Nat.not_lt_zero r')⟩
  subst hq0
  -- weighed
  obtain ⟨S1, ⟨q1, hq1, hq1'⟩, e1⟩ := loop_to (fun m j S => f12_findRooms_34 m who (nI j) S) (fun j S => ∃ q, S = sR SM 31 q ∧ ∀ r, r < 13 → q r = nI (hsS rm st who j r)) (fun S => f12_findRooms_84 FU 0 1 S) n
    (by
      rintro m S ⟨q, rfl, _⟩
      show f12_findRooms_34 (m + 1) _ (nI n) _ = _
      rw [f12_findRooms_34, show f12_guests (sR SM 31 q) = some (nI n) from (by rw [← hn]; rfl), bd_s, if_pos (nI_le (Nat.le_refl n) (by omega))])
    (by
      rintro m j S hj ⟨q, rfl, hq⟩
      have hrj := hr j hj
      have hsj := hs j hj
      have g1 : f12_guestOf (nI j) 1 (sR SM 31 q) = some (nI (rm j)) := by
        rw [← hrj.1]; exact s12_guestOf (SM := sR SM 31 q) (k := 1) (by omega) (by omega)
      have g2 : f12_guestOf (nI j) 2 (sR SM 31 q) = some (nI (st j)) := by
        rw [← hsj.1]; exact s12_guestOf (SM := sR SM 31 q) (k := 2) (by omega) (by omega)
      have e72 : ∀ z, f12_findRooms_72 (f12_findRooms_34 m) who (nI j) (nI (rm j)) (nI (hsS rm st who j (rm j))) (nI z) (sR SM 31 q) = f12_findRooms_34 m who (nI (j + 1)) (sR SM 31 (upd q (rm j) (nI (hsS rm st who j (rm j) + z)))) := fun z => by
        unfold f12_findRooms_72
        rw [inb_nI (by omega) (by omega), ck_t, lt_e, lt_e, nI_1, nI_add, nI_clamp (by omega), sR_oA]
      refine ⟨sR SM 31 (upd q (rm j) (nI (hsS rm st who j (rm j) + (if bt who j then st j else 0)))), ⟨_, rfl, fun r hr => ?_⟩, ?_⟩
      · have : hsS rm st who (j + 1) r = hsS rm st who j r + hsF rm st who r j := rfl
        rw [this]; unfold hsF
        by_cases hrr : r = rm j
        · rw [hrr, pk_us]
          cases bt who j <;> simp
        · rw [pk_un hrr, if_neg (by simp; exact fun _ h => hrr h.symm), Nat.add_zero]; exact hq r hr
      · show f12_findRooms_34 (m + 1) _ (nI j) _ = f12_findRooms_34 m _ (nI (j + 1)) _
        rw [f12_findRooms_34, show f12_guests (sR SM 31 q) = some (nI n) from (by rw [← hn]; rfl), bd_s, if_neg (nI_ge hj (by omega)), g1, bd_s, inb_nI (by omega) (by omega), ck_t, s12_isIn (by omega), bd_s, g2, bd_s, nI_clamp (by omega), sR_at, hq (rm j) (by omega), e72, show (0 : Int32) = nI 0 from rfl, e72]
        cases bt who j <;> rfl)
    FU 0 (sR SM 31 q0) (Nat.zero_le _) (FU_lt (by omega)) ⟨q0, rfl, fun r hr => hq0' r hr⟩
  subst hq1
  have hS31 : ∀ p, ∀ r, r < 13 → (sR (sR SM 31 q1) 32 p).2.2.1 31 r = nI (hsS rm st who n r) ∧ hsS rm st who n r < 2 ^ 31 := fun p r hr => by
    refine ⟨hq1' r hr, ?_⟩
    have := hs_le (rm := rm) (who := who) (r := r) (fun j hj => (hs j hj).2)
    omega
  -- put in order
  obtain ⟨r, e2, k, f, p, hk, hf, hp, hr2⟩ := loop_inv (fun m j (a : Nat × Ob) => f12_findRooms_84 m (nI a.1) (nI (j + 1)) a.2) (fun j a => ∃ f p, a.1 ≤ j ∧ SrtR (hsS rm st who n) f a.1 (j + 1) ∧ a.2 = sR (sR SM 31 q1) 32 p ∧ ∀ t, t < a.1 → p t = nI (f t)) (fun r => ∃ k f p, k ≤ 12 ∧ SrtR (hsS rm st who n) f k 13 ∧ (∀ t, t < k → p t = nI (f t)) ∧ r = (nI k, sR (sR SM 31 q1) 32 p)) 12
    (by
      rintro m ⟨k, S⟩ ⟨f, p, h1, h2, h3, h4⟩
      have h3' : S = _ := h3
      subst h3'
      refine ⟨_, ?_, k, f, p, h1, h2, h4, rfl⟩
      show f12_findRooms_84 (m + 1) _ (nI 13) _ = _
      rw [f12_findRooms_84, if_pos (by decide)])
    (by
      rintro m j ⟨k, S⟩ hj ⟨f, p, h1, h2, h3, h4⟩
      have h3' : S = _ := h3
      subst h3'
      have h1' : k ≤ j := h1
      have h2' : SrtR (hsS rm st who n) f k (j + 1) := h2
      have h4' : ∀ t, t < k → p t = nI (f t) := h4
      obtain ⟨w1, w2⟩ := hS31 p (j + 1) (by omega)
      show ∃ b : Nat × Ob, (∃ f p, b.1 ≤ j + 1 ∧ SrtR (hsS rm st who n) f b.1 (j + 1 + 1) ∧ b.2 = sR (sR SM 31 q1) 32 p ∧ ∀ t, t < b.1 → p t = nI (f t)) ∧ f12_findRooms_84 (m + 1) (nI k) (nI (j + 1)) (sR (sR SM 31 q1) 32 p) = f12_findRooms_84 m (nI b.1) (nI (j + 1 + 1)) b.2
      rw [f12_findRooms_84, if_neg (show ¬ (13 : Int32) ≤ nI (j + 1) from nI_ge (b := 13) (by omega) (by omega)), inb_nI (by omega) (by omega), ck_t, nI_clamp (by omega), w1]
      by_cases hz : hsS rm st who n (j + 1) = 0
      · refine ⟨(k, sR (sR SM 31 q1) 32 p), ⟨f, p, by show k ≤ j + 1; omega, ?_, rfl, h4⟩, ?_⟩
        · obtain ⟨b1, b2, b3⟩ := h2'
          refine ⟨fun i hi => ⟨(b1 i hi).1, by have := (b1 i hi).2.1; omega, (b1 i hi).2.2⟩, b2, fun r hr1 hr2 hr3 => ?_⟩
          by_cases hrj : r = j + 1
          · rw [hrj] at hr3; omega
          · exact b3 r hr1 (by omega) hr3
        · rw [hz, if_pos (by decide)]
          unfold f12_findRooms_163
          rw [lt_e, nI_1]
      · rw [if_neg (nI_nle (by omega) w2)]
        obtain ⟨i', p', i1, i2, i3, i4, i5⟩ := s12_ins (SM := sR SM 31 q1) (S := hsS rm st who n) (f := f) (k := k) (b := j + 1) (by omega) (by omega) (fun r hr => hS31 p r hr) (fun t ht => by have := (h2'.1 t ht).2.1; omega) (f12_findRooms_84 m) k FU p (Nat.le_refl k) (FU_lt (by omega)) h4' (fun t h5 h6 => absurd h5 (by omega)) (fun t h5 h6 => absurd h5 (by omega)) (fun t ht u hu1 hu2 => by
          rcases h2'.2.1 t u hu1 hu2 with h7 | h7
          · omega
          · omega)
        exact ⟨(k + 1, sR (sR SM 31 q1) 32 p'), ⟨insF f i' (j + 1), p', by show k + 1 ≤ j + 1; omega, srt_ins h2' (by omega) (by omega) i1 i3 i4, rfl, i5⟩, i2⟩)
    FU 0 (0, sR SM 31 q1) (Nat.zero_le _) (FU_lt (by omega)) ⟨fun _ => 0, (sR SM 31 q1).2.2.1 32, Nat.le_refl _, ⟨fun i hi => absurd hi (Nat.not_lt_zero i), fun i j _ hj => absurd hj (Nat.not_lt_zero j), fun r h1 h2 => absurd h1 (by omega)⟩, (sR_self _ _).symm, fun t ht => absurd ht (Nat.not_lt_zero t)⟩
  refine ⟨k, f, p, q1, hk, hf, ?_, hq1', hp⟩
  unfold f12_findRooms
  show ck true (bd (f12_whoIn (SM.2.2.1 25 0) SM) _) = _
  rw [ck_t, s12_whoIn _ hn h8, hw, bd_s, ← hr2]
  exact (e0.trans e1).trans e2
/-- no more rooms than guests -/
theorem srt_8 {rm st f : Nat → Nat} {who : Int32} {n k : Nat} (h8 : n ≤ 8) (h : SrtR (hsS rm st who n) f k 13) : k ≤ n := by
  have hg : ∀ r, 0 < hsS rm st who n r → ∃ j, j < n ∧ rm j = r := fun r hr => by
    apply Classical.byContradiction
    intro hno
    have : hsS rm st who n r = fb_sm (fun _ => 0) n := fb_sm_cong (fun j hj => by
      unfold hsF
      rw [if_neg]
      intro hh
      simp at hh
      exact hno ⟨j, hj, hh.2⟩)
    have h0 := fb_sm_const 0 n
    omega
  have hcho : ∀ i, ∃ j, i < k → (j < n ∧ rm j = f i) := fun i => by
    by_cases hi : i < k
    · obtain ⟨j, j1, j2⟩ := hg (f i) (h.1 i hi).2.2
      exact ⟨j, fun _ => ⟨j1, j2⟩⟩
    · exact ⟨0, fun hh => absurd hh hi⟩
  obtain ⟨gf, hgf⟩ := Classical.axiomOfChoice hcho
  refine fb_holes n k gf (fun i hi => (hgf i hi).1) (fun i j hij hj e => ?_)
  have e1 := (hgf i (by omega)).2
  have e2 := (hgf j hj).2
  rw [e] at e1
  have e3 : f i = f j := e1.symm.trans e2
  rcases h.2.1 i j hij hj with hh | hh
  · rw [e3] at hh; omega
  · rw [e3] at hh; omega
def stepF (S f : Nat → Nat) (i : Nat) : Nat := (i + 1) * S (f i)
theorem s1_search {SI SK : Ob} {rm st f : Nat → Nat} {n k : Nat} {who : Int32} (hn : SI.1 0 = nI n) (h8 : n ≤ 8) (hr' : ∀ j, j < n → SI.2.2.1 3 j = nI (rm j) ∧ 1 ≤ rm j ∧ rm j ≤ 12) (hs : ∀ j, j < n → SI.2.2.1 4 j = nI (st j) ∧ st j ≤ 99) (hf : SrtR (hsS rm st who n) f k 13) (hz : ¬ who = 0) (what : Int32) : ∃ S1, f1_search who what SK SI = f1_search_90 what (nI (fb_sm (htF st who) n)) (nI k) (nI (fb_sm (stepF (hsS rm st who n) f) k)) S1 SI ∧ (∀ i, i < k → S1.2.2.1 1 i = nI (f i)) ∧ fb_sm (fun i => hsS rm st who n (f i)) k = fb_sm (htF st who) n := by
  have hr : ∀ j, j < n → SI.2.2.1 3 j = nI (rm j) ∧ rm j ≤ 12 := fun j hj => ⟨(hr' j hj).1, (hr' j hj).2.2⟩
  have hS00 : hsS rm st who n 0 = 0 := by
    have : hsS rm st who n 0 = fb_sm (fun _ => 0) n := fb_sm_cong (fun j hj => by
      unfold hsF
      rw [if_neg]
      intro hh
      simp at hh
      have := (hr' j hj).2.1
      omega)
    have h0 := fb_sm_const 0 n
    omega
  obtain ⟨S0, e0, hS0⟩ := s1_weigh (SK := SK) hn h8 hr hs who
  have hk := srt_8 h8 hf
  obtain ⟨S, hSe⟩ : ∃ S, S = hsS rm st who n := ⟨_, rfl⟩
  have hSl : ∀ r, S r ≤ 792 := fun r => by
    rw [hSe]
    have := hs_le (rm := rm) (who := who) (r := r) (fun j hj => (hs j hj).2)
    omega
  rw [← hSe] at hf hS0 hS00 ⊢
  obtain ⟨g1, g2, g3⟩ := id hf
  have hstep : ∀ j, j ≤ k → fb_sm (stepF S f) j ≤ j * (8 * 792) := fun j hj => fb_sm_bound (fun i hi => by
    unfold stepF
    exact Nat.mul_le_mul (by omega) (hSl _))
  -- what is left of each room
  have key : ∀ d j m SK w, j + d = k → d < m → (∀ r, r < 13 → SK.2.2.1 0 r = nI (w r) ∧ w r < 2 ^ 31) → (∀ r, r < 13 → (∃ i, i < j ∧ f i = r) → w r = 0) → (∀ r, r < 13 → (¬ ∃ i, i < j ∧ f i = r) → w r = S r) → (∀ i, i < j → SK.2.2.1 1 i = nI (f i)) → fb_sm w 13 + fb_sm (fun i => S (f i)) j = fb_sm S 13 → ∃ S1, f1_search_23 m what (nI (fb_sm (htF st who) n)) (nI j) (nI (fb_sm (stepF S f) j)) (nI j) SK SI = f1_search_90 what (nI (fb_sm (htF st who) n)) (nI k) (nI (fb_sm (stepF S f) k)) S1 SI ∧ (∀ i, i < k → S1.2.2.1 1 i = nI (f i)) ∧ fb_sm (fun i => S (f i)) k = fb_sm S 13 := by
    intro d
    induction d with
    | zero =>
      intro j m SK w hj hm hw h0 h1 h2 h3
      have hjk : j = k := by omega
      subst hjk
      obtain ⟨m, rfl⟩ : ∃ q, m = q + 1 := ⟨m - 1, by omega⟩
      have hw0 : ∀ r, r < 13 → w r = 0 := fun r hr => by
        by_cases hex : ∃ i, i < j ∧ f i = r
        · exact h0 r hr hex
        · rw [h1 r hr hex]
          apply Classical.byContradiction
          intro hne
          by_cases hr0 : r = 0
          · -- nobody has room 0
            rw [hr0] at hne
            exact hne hS00
          · obtain ⟨i, i1, i2⟩ := g3 r (by omega) hr (by omega)
            exact hex ⟨i, i1, i2⟩
      have hsum : fb_sm w 13 = 0 := by
        have : fb_sm w 13 = fb_sm (fun _ => 0) 13 := fb_sm_cong (fun r hr => hw0 r hr)
        have h0 := fb_sm_const 0 13
        omega
      refine ⟨SK, ?_, h2, by omega⟩
      rw [f1_search_23]
      by_cases h8' : j = 8
      · rw [if_pos (by rw [h8']; decide)]
      · rw [if_neg (show ¬ (8 : Int32) ≤ nI j from nI_ge (b := 8) (by omega) (by omega))]
        obtain ⟨b, b1, b2, b3, b4⟩ := s1_heav hw
        rw [b2, bd_s, inb_nI b1 (by omega), ck_t, nI_clamp (by omega), (hw b b1).1, hw0 b b1, if_pos (show nI 0 = 0 from rfl)]
    | succ d ih =>
      intro j m SK w hj hm hw h0 h1 h2 h3
      obtain ⟨m, rfl⟩ : ∃ q, m = q + 1 := ⟨m - 1, by omega⟩
      obtain ⟨f1, f2, f3⟩ := g1 j (by omega)
      have hwf : w (f j) = S (f j) := h1 (f j) f2 (by
        rintro ⟨i, i1, i2⟩
        rcases g2 i j i1 (by omega) with hh | hh
        · rw [i2] at hh; omega
        · rw [i2] at hh; omega)
      -- it is the heaviest
      have hmax : ∀ r, r < 13 → w r ≤ S (f j) ∧ (r < f j → w r < S (f j)) := fun r hr => by
        by_cases hex : ∃ i, i < j ∧ f i = r
        · rw [h0 r hr hex]; exact ⟨by omega, fun _ => f3⟩
        · rw [h1 r hr hex]
          by_cases hz0 : S r = 0
          · rw [hz0]; exact ⟨by omega, fun _ => f3⟩
          · by_cases hr0 : r = 0
            · rw [hr0] at hz0
              exact absurd hS00 hz0
            · obtain ⟨i, i1, i2⟩ := g3 r (by omega) hr (by omega)
              rcases Nat.lt_trichotomy i j with hh | hh | hh
              · exact absurd ⟨i, hh, i2⟩ hex
              · rw [← i2, hh]; exact ⟨Nat.le_refl _, fun h => absurd h (by omega)⟩
              · rw [← i2]
                rcases g2 j i hh i1 with h5 | h5
                · exact ⟨by omega, fun _ => h5⟩
                · exact ⟨by omega, fun h => absurd h (by omega)⟩
      obtain ⟨b, b1, b2, b3, b4⟩ := s1_heav hw
      have hbf : b = f j := by
        have x1 := b3 (f j) f2
        rw [hwf] at x1
        have x2 := hmax b b1
        rcases Nat.lt_trichotomy b (f j) with hh | hh | hh
        · have := x2.2 hh; omega
        · exact hh
        · have := b4 (f j) hh
          rw [hwf] at this
          omega
      subst hbf
      have wf : SK.2.2.1 0 (f j) = nI (S (f j)) := by rw [(hw (f j) f2).1, hwf]
      rw [f1_search_23, if_neg (show ¬ (8 : Int32) ≤ nI j from nI_ge (b := 8) (by omega) (by omega)), b2, bd_s, inb_nI f2 (by omega), ck_t, nI_clamp (by omega), wf, if_neg (nI_ne0 f3 (by have := hSl (f j); omega)), inb_nI (by omega) (by omega), ck_t, lt_e, lt_e, ck_t, nI_clamp (by omega)]
      have r0 : (oA SK 1 j (nI (f j))).2.2.1 0 (f j) = nI (S (f j)) := wf
      rw [r0, lt_e, ck_t, lt_e, lt_e, nI_1, pk_mul, nI_add]
      have est : fb_sm (stepF S f) j + (j + 1) * S (f j) = fb_sm (stepF S f) (j + 1) := rfl
      rw [est]
      refine ih (j + 1) m (oA (oA SK 1 j (nI (f j))) 0 (f j) 0) (fun r => if r = f j then 0 else w r) (by omega) (by omega) (fun r hr => ?_) (fun r hr hex => ?_) (fun r hr hex => ?_) (fun i hi => ?_) ?_
      · show upd (SK.2.2.1 0) (f j) 0 r = nI (if r = f j then 0 else w r) ∧ (if r = f j then 0 else w r) < 2 ^ 31
        by_cases hrf : r = f j
        · rw [hrf, pk_us, if_pos rfl]; exact ⟨rfl, by omega⟩
        · rw [pk_un hrf, if_neg hrf]; exact hw r hr
      · show (if r = f j then 0 else w r) = 0
        by_cases hrf : r = f j
        · rw [if_pos hrf]
        · rw [if_neg hrf]
          obtain ⟨i, i1, i2⟩ := hex
          refine h0 r hr ⟨i, ?_, i2⟩
          by_cases hij : i = j
          · rw [hij] at i2; exact absurd i2.symm hrf
          · omega
      · show (if r = f j then 0 else w r) = S r
        rw [if_neg (fun hrf => hex ⟨j, by omega, hrf.symm⟩)]
        exact h1 r hr (fun ⟨i, i1, i2⟩ => hex ⟨i, by omega, i2⟩)
      · show upd (SK.2.2.1 1) j (nI (f j)) i = _
        by_cases hij : i = j
        · rw [hij, pk_us]
        · rw [pk_un hij]; exact h2 i (by omega)
      · have := fb_sm_upd w 0 (i := f j) (n := 13) f2
        have e2 := fb_sm_succ (fun i => S (f i)) j
        rw [hwf] at this
        have e3 : fb_sm (fun r => if r = f j then 0 else w r) 13 + fb_sm (fun i => S (f i)) (j + 1) = fb_sm S 13 := by
          rw [e2]
          omega
        exact e3
  obtain ⟨S1, k1, k2, k3⟩ := key k 0 FU S0 S (by omega) (FU_lt (by omega)) (fun r hr => ⟨hS0 r hr, by have := hSl r; omega⟩) (fun r hr ⟨i, hi, _⟩ => absurd hi (Nat.not_lt_zero i)) (fun r hr _ => rfl) (fun i hi => absurd hi (Nat.not_lt_zero i)) rfl
  refine ⟨S1, ?_, k2, ?_⟩
  · unfold f1_search
    rw [if_neg hz, e0, bd_s, lt_e]
    exact k1
  · rw [k3, hSe, hs_tot n (fun j hj => by have := (hr j hj).2; omega)]
theorem st_hunt : St_hunt Inv := by
  intro cs sm x1 h
  obtain ⟨n, g, hI⟩ := h
  have hI' : InvN cs (oI sm 0 0) n g := hI
  obtain ⟨h8, h6, hn, -⟩ := id hI.1
  have hn' : (oI sm 0 0).2.2.1 10 0 = nI n := hI.2.1.1
  obtain ⟨rm, hrm⟩ := inv_rooms hI'
  obtain ⟨st, hst⟩ := inv_stays hI'
  obtain ⟨who, hw⟩ : ∃ w, w = whoS n ((cs 10).1 0) := ⟨_, rfl⟩
  have hw' : whoS n ((oI sm 0 0).2.2.1 25 0) = who := by rw [hw]; exact congrArg (whoS n) hI.2.2.1.1
  obtain ⟨k, f, p, q, k12, hf, e2, hq, hp⟩ := s12_rooms hn' h8 (fun j hj => ⟨(hrm j hj).2.2.2, (hrm j hj).2.1, (hrm j hj).2.2.1⟩) (fun j hj => ⟨(hst j hj).2.2.2, (hst j hj).2.2.1⟩) hw'
  have hk8 := srt_8 h8 hf
  have hI2 : InvN cs (sR (sR (oI sm 0 0) 31 q) 32 p) n g := hI'
  -- nobody: no rooms
  have hk0 : k = 0 ↔ who = 0 := by
    constructor
    · intro hk
      refine b_z.mpr (fun i hi => ?_)
      cases hb : bt who i
      · rfl
      · have hin : i < n := by rw [hw] at hb; exact whoS_lt hi hb
        have hpos : 0 < hsS rm st who n (rm i) := by
          have := fb_sm_part (hsF rm st who (rm i)) (i := i) (n := n) hin
          have e : hsF rm st who (rm i) i = st i := by unfold hsF; rw [hb]; simp
          have := (hst i hin).2.1
          show 0 < fb_sm (hsF rm st who (rm i)) n
          omega
        obtain ⟨t, t1, -⟩ := hf.2.2 (rm i) (hrm i hin).2.1 (by have := (hrm i hin).2.2.1; omega) hpos
        omega
    · intro hz
      apply Classical.byContradiction
      intro hk
      have := (hf.1 0 (by omega)).2.2
      have h0 : hsS rm st who n (f 0) = fb_sm (fun _ => 0) n := fb_sm_cong (fun j hj => by
        unfold hsF; rw [hz, b_0]; rfl)
      have h1 := fb_sm_const 0 n
      omega
  by_cases hx0 : x1 < 0
  · refine ⟨-1, cs 6, _, ?_, ?_, n, g, InvN_s hI2 (by omega) _⟩
    · unfold f11_hunt
      rw [if_neg (lt0_le.mp hx0)]; rfl
    · unfold f12_hunt
      rw [lt_e, e2, bd_s, lt_e, s12_withinL_no (Or.inl hx0), bd_s]
      unfold f12_hunt_25
      rw [if_pos rfl]
      exact ite_id _
  · by_cases hz : who = 0
    · refine ⟨-1, cs 6, _, ?_, ?_, n, g, InvN_s hI2 (by omega) _⟩
      · unfold f11_hunt f1_search
        rw [if_pos (Classical.not_not.mp (fun h => hx0 (lt0_le.mpr h))), s4_guestsIn _ hn h8, bd_s, ← hw, if_pos hz, bd_s]; rfl
      · unfold f12_hunt
        rw [lt_e, e2, bd_s, lt_e, hk0.mpr hz, if_pos (show nI 0 = 0 from rfl)]; rfl
    · have hkp : 0 < k := by
        have : ¬ k = 0 := fun h => hz (hk0.mp h)
        omega
      obtain ⟨S1, s1, s2, s3⟩ := s1_search (SK := cs 6) hn h8 (fun j hj => ⟨(hrm j hj).1, (hrm j hj).2.1, (hrm j hj).2.2.1⟩) (fun j hj => ⟨(hst j hj).1, (hst j hj).2.2.1⟩) hf hz x1
      have hT := ht_le (who := who) (fun j hj => (hst j hj).2.2.1)
      have hSl : ∀ r, hsS rm st who n r ≤ 792 := fun r => by
        have := hs_le (rm := rm) (who := who) (r := r) (fun j hj => (hst j hj).2.2.1)
        omega
      have hstep : fb_sm (stepF (hsS rm st who n) f) k ≤ k * (8 * 792) := fb_sm_bound (fun i hi => by
        unfold stepF
        exact Nat.mul_le_mul (by omega) (hSl _))
      have hTp : 0 < fb_sm (htF st who) n := by
        rw [← s3]
        have := fb_sm_part (fun i => hsS rm st who n (f i)) (i := 0) (n := k) hkp
        have h2 := (hf.1 0 hkp).2.2
        have h3 : (fun i => hsS rm st who n (f i)) 0 = hsS rm st who n (f 0) := rfl
        omega
      -- the reference's sums
      have hsum : ∀ (y : Int32), f12_hunt_35 FU y (nI k) 0 0 0 (sR (sR (oI sm 0 0) 31 q) 32 p) = (if y = 0 then f12_hunt_120 (nI (fb_sm (stepF (hsS rm st who n) f) k * 1000 / fb_sm (htF st who) n)) (sR (sR (oI sm 0 0) 31 q) 32 p) else if y = 1 then f12_hunt_120 (nI k) (sR (sR (oI sm 0 0) 31 q) 32 p) else ck (inb (y - 2) 12) (f12_hunt_120 (p (Int32.toNatClampNeg (y - 2))) (sR (sR (oI sm 0 0) 31 q) 32 p))) := by
        intro y
        obtain ⟨b, ⟨hb1, hb2⟩, e⟩ := loop_to (fun m i (a : Int64 × Int64) => f12_hunt_35 m y (nI k) a.1 a.2 (nI i) (sR (sR (oI sm 0 0) 31 q) 32 p)) (fun i a => a.1 = lN (fb_sm (stepF (hsS rm st who n) f) i) ∧ a.2 = lN (fb_sm (fun i => hsS rm st who n (f i)) i)) (fun a => if y = 0 then (ck (nzl a.2) <| f12_hunt_120 (Int64.toInt32 ((a.1 * 1000) / a.2)) (sR (sR (oI sm 0 0) 31 q) 32 p)) else (if y = 1 then (f12_hunt_120 (nI k) (sR (sR (oI sm 0 0) 31 q) 32 p)) else (ck (inb (y - 2) 12) <| f12_hunt_120 ((sR (sR (oI sm 0 0) 31 q) 32 p).2.2.1 32 (Int32.toNatClampNeg (y - 2))) (sR (sR (oI sm 0 0) 31 q) 32 p)))) k
          (by
            intro m a _
            show f12_hunt_35 (m + 1) _ _ _ _ (nI k) _ = _
            rw [f12_hunt_35, if_pos (nI_le (Nat.le_refl _) (by omega))])
          (by
            rintro m i a hi ⟨h1, h2⟩
            obtain ⟨a1, a2⟩ := a
            have h1' : a1 = _ := h1
            have h2' : a2 = _ := h2
            refine ⟨(lN (fb_sm (stepF (hsS rm st who n) f) (i + 1)), lN (fb_sm (fun i => hsS rm st who n (f i)) (i + 1))), ⟨rfl, rfl⟩, ?_⟩
            show f12_hunt_35 (m + 1) _ _ a1 a2 (nI i) _ = f12_hunt_35 m _ _ _ _ (nI (i + 1)) _
            obtain ⟨f1, f2, f3⟩ := hf.1 i hi
            have r32 : (sR (sR (oI sm 0 0) 31 q) 32 p).2.2.1 32 i = nI (f i) := by rw [sR_at, hp i hi]
            have r31 : (sR (sR (oI sm 0 0) 31 q) 32 p).2.2.1 31 (f i) = nI (hsS rm st who n (f i)) := hq (f i) f2
            have hl := hSl (f i)
            rw [f12_hunt_35, if_neg (nI_ge hi (by omega)), inb_nI (by omega) (by omega), ck_t, nI_clamp (by omega), r32, inb_nI f2 (by omega), ck_t, nI_clamp (by omega), r31, lt_e, ck_t, ck_t, lt_e, lt_e, nI_1, nI_l (by omega), nI_l (by omega), lN_mul, h1', h2', lN_add, lN_add]
            rfl)
          FU 0 (0, 0) (Nat.zero_le _) (FU_lt (by omega)) ⟨rfl, rfl⟩
        obtain ⟨b1, b2⟩ := b
        have hb1' : b1 = _ := hb1
        have hb2' : b2 = _ := hb2
        have e' : f12_hunt_35 FU y (nI k) 0 0 0 (sR (sR (oI sm 0 0) 31 q) 32 p) = _ := e
        rw [e']
        by_cases hy0 : y = 0
        · rw [if_pos hy0, if_pos hy0]
          show ck (nzl b2) (f12_hunt_120 (Int64.toInt32 ((b1 * 1000) / b2)) _) = _
          rw [hb1', hb2', s3, show (1000 : Int64) = lN 1000 from rfl, lN_mul, pk_lDiv (by omega) hTp (by omega), lN_i, show nzl (lN (fb_sm (htF st who) n)) = true from decide_eq_true (fun hh => by
            have : lN (fb_sm (htF st who) n) = lN 0 := hh
            rw [lN_eq (by omega) (by omega)] at this; omega), ck_t]
        · rw [if_neg hy0, if_neg hy0, sR_at]
      have hx0' : (0 : Int32) ≤ x1 := Classical.not_not.mp (fun h => hx0 (lt0_le.mpr h))
      obtain ⟨y, hy, rfl⟩ := nI_of hx0
      have hcl : f11_hunt (nI y) (cs 0) (cs 6) (cs 8) (cs 10) = bd (f1_search_90 (nI y) (nI (fb_sm (htF st who) n)) (nI k) (nI (fb_sm (stepF (hsS rm st who n) f) k)) S1 (cs 8)) fun r_4 => f11_hunt_34 (r_4.1) (cs 0) (r_4.2) (cs 8) (cs 10) := by
        unfold f11_hunt
        rw [if_pos hx0', s4_guestsIn _ hn h8, bd_s, ← hw, s1]
      have hml : f12_hunt (nI y) sm = bd (f12_within (nI y) 0 (1 + nI k)) fun r_6 => if r_6 = 0 then f12_hunt_25 (sR (sR (oI sm 0 0) 31 q) 32 p) else f12_hunt_35 FU (nI y) (nI k) 0 0 0 (sR (sR (oI sm 0 0) 31 q) 32 p) := by
        unfold f12_hunt
        rw [lt_e, e2, bd_s, lt_e, if_neg (nI_ne0 hkp (by omega))]
      have e1k : (1 : Int32) + nI k = nI (1 + k) := by rw [show (1 : Int32) = nI 1 from rfl, nI_add]
      rw [hcl, hml, e1k]
      by_cases hy0 : y = 0
      · refine ⟨nI (fb_sm (stepF (hsS rm st who n) f) k * 1000 / fb_sm (htF st who) n), S1, _, ?_, ?_, n, g, InvN_s hI2 (by omega) _⟩
        · unfold f1_search_90 f1_search_112
          rw [if_pos (by rw [hy0]; rfl), if_neg (nI_ne0 hTp (by omega)), show nz (nI (fb_sm (htF st who) n)) = true from decide_eq_true (nI_ne0 hTp (by omega)), ck_t, show (1000 : Int32) = nI 1000 from rfl, pk_mul, pk_div (by omega) hTp (by omega), bd_s]
          rfl
        · rw [s12_withinL_yes (nI_pos (by omega)) (nI_nlt (by omega) (by omega)), bd_s, if_neg (by decide), hsum, if_pos (by rw [hy0]; rfl)]
          rfl
      · have n0 : ¬ nI y = 0 := nI_ne0 (by omega) hy
        by_cases hy1 : y = 1
        · refine ⟨nI k, S1, _, ?_, ?_, n, g, InvN_s hI2 (by omega) _⟩
          · unfold f1_search_90
            rw [if_neg n0, if_pos (by rw [hy1]; rfl), bd_s]
            rfl
          · rw [s12_withinL_yes (nI_pos (by omega)) (nI_nlt (by omega) (by omega)), bd_s, if_neg (by decide), hsum, if_neg n0, if_pos (by rw [hy1]; rfl)]
            rfl
        · have n1 : ¬ nI y = 1 := fun hh => hy1 ((nI_eq (b := 1) hy (by omega)).mp hh)
          have ey : nI y - 2 = nI (y - 2) := pk_sub (b := 2) (by omega)
          by_cases hyk : y - 2 < k
          · refine ⟨nI (f (y - 2)), S1, _, ?_, ?_, n, g, InvN_s hI2 (by omega) _⟩
            · unfold f1_search_90 f1_search_147
              rw [if_neg n0, if_neg n1, ey, if_neg (nI_pos (by omega)), if_neg (nI_ge hyk (by omega)), inb_nI (by omega) (by omega), ck_t, nI_clamp (by omega), s2 _ hyk, bd_s]
              rfl
            · rw [s12_withinL_yes (nI_pos (by omega)) (nI_nlt (by omega) (by omega)), bd_s, if_neg (by decide), hsum, if_neg n0, if_neg n1, ey, inb_nI (by omega) (by omega), ck_t, nI_clamp (by omega), hp _ hyk]
              rfl
          · refine ⟨-1, S1, _, ?_, ?_, n, g, InvN_s hI2 (by omega) _⟩
            · unfold f1_search_90 f1_search_146 f1_search_147
              rw [if_neg n0, if_neg n1, ey, if_neg (nI_pos (by omega)), if_pos (nI_le (by omega) (by omega)), bd_s]
              rfl
            · rw [s12_withinL_no (Or.inr (nI_lt (by omega) (by omega))), bd_s, if_pos rfl]
              rfl
