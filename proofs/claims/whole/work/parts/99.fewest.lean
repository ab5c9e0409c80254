/-! pure: fewest, the class's -/
/-- the parting questions -/
def PaR (n : Nat) (kd : Nat → Nat) (who : Int32) (r0 : Nat → Int32) (P : Nat) (b : Nat) : Prop := P ≤ b ∧ (∀ i, i < P → ∃ k, k < b ∧ valK n kd k ∧ r0 i = who &&& wWS n kd (k / 8) (k % 8)) ∧ ∀ k, k < b → valK n kd k → ¬ who &&& wWS n kd (k / 8) (k % 8) = 0 → ¬ who &&& wWS n kd (k / 8) (k % 8) = who → ∃ i, i < P ∧ r0 i = who &&& wWS n kd (k / 8) (k % 8)
theorem s8_isNew {SQ : Ob} {P : Nat} (hP : P ≤ 64) (y : Int32) : (f8_isNew y (nI P) SQ = some 1 ∧ ∀ i, i < P → ¬ SQ.2.2.1 0 i = y) ∨ (f8_isNew y (nI P) SQ = some 0 ∧ ∃ i, i < P ∧ SQ.2.2.1 0 i = y) := by
  have key : ∀ m j, j ≤ P → P - j < m → (∀ i, i < j → ¬ SQ.2.2.1 0 i = y) → (f8_isNew_2 m y (nI P) (nI j) SQ = some 1 ∧ ∀ i, i < P → ¬ SQ.2.2.1 0 i = y) ∨ (f8_isNew_2 m y (nI P) (nI j) SQ = some 0 ∧ ∃ i, i < P ∧ SQ.2.2.1 0 i = y) := by
    intro m
    induction m with
    | zero => intro j h1 h2; omega
    | succ m ih =>
      intro j h1 h2 hb
      rw [f8_isNew_2]
      by_cases h : j = P
      · subst h
        left
        rw [if_pos (nI_le (Nat.le_refl j) (by omega))]
        exact ⟨rfl, hb⟩
      · rw [if_neg (nI_ge (by omega) (by omega)), inb_nI (by omega) (by omega), ck_t, nI_clamp (by omega), lt_e, nI_1]
        by_cases hy : SQ.2.2.1 0 j = y
        · right
          rw [if_pos hy]
          exact ⟨rfl, j, by omega, hy⟩
        · rw [if_neg hy]
          exact ih (j + 1) (by omega) (by omega) (fun i hi => by
            by_cases hij : i = j
            · rw [hij]; exact hy
            · exact hb i (by omega))
  exact key FU 0 (Nat.zero_le _) (FU_lt (by omega)) (fun i hi => absurd hi (Nat.not_lt_zero i))
theorem par_skip {n : Nat} {kd : Nat → Nat} {who : Int32} {r0 : Nat → Int32} {P b : Nat} (h : PaR n kd who r0 P b) (hno : ¬ (valK n kd b ∧ ¬ who &&& wWS n kd (b / 8) (b % 8) = 0 ∧ ¬ who &&& wWS n kd (b / 8) (b % 8) = who)) : PaR n kd who r0 P (b + 1) := by
  obtain ⟨h1, h2, h3⟩ := h
  refine ⟨by omega, fun i hi => ?_, fun k hk a1 a2 a3 => ?_⟩
  · obtain ⟨k, k1, k2⟩ := h2 i hi
    exact ⟨k, by omega, k2⟩
  · by_cases hkb : k = b
    · rw [hkb] at a1 a2 a3
      exact absurd ⟨a1, a2, a3⟩ hno
    · exact h3 k (by omega) a1 a2 a3
theorem par_skips {n : Nat} {kd : Nat → Nat} {who : Int32} {r0 : Nat → Int32} {P b : Nat} (h : PaR n kd who r0 P b) : ∀ d, (∀ k, b ≤ k → k < b + d → ¬ valK n kd k) → PaR n kd who r0 P (b + d)
  | 0, _ => h
  | d + 1, hno => by
    rw [← Nat.add_assoc]
    exact par_skip (par_skips h d (fun k h1 h2 => hno k h1 (by omega))) (fun hh => hno (b + d) (by omega) (by omega) hh.1)
theorem s8_part_in {cs : Nat → Ob} {sm : Ob} {n g j : Nat} {kd : Nat → Nat} (h : InvN cs sm n g) (hk : ∀ j, j < n → (cs 8).2.2.1 2 j = nI (kd j) ∧ kd j < 4) (hj : j < n) (K : Int32 → Int32 → Int32 → Int32 → Ob → Ob → Option (Int32 × Ob)) (P : Nat) (SQ : Ob) (hP : PaR n kd (whoS n ((cs 10).1 0)) (SQ.2.2.1 0) P (8 * j)) : ∃ P' SQ', PaR n kd (whoS n ((cs 10).1 0)) (SQ'.2.2.1 0) P' (8 * (j + 1)) ∧ f8_findParting_18 K FU ((cs 10).1 0) (whoS n ((cs 10).1 0)) (nI P) (nI j) 0 SQ (cs 8) = K ((cs 10).1 0) (whoS n ((cs 10).1 0)) (nI P') (nI (j + 1)) SQ' (cs 8) := by
  have h8 := h.1.1
  have hn := h.1.2.2.1
  obtain ⟨L, hL⟩ : ∃ L, L = (cs 10).1 0 := ⟨_, rfl⟩
  rw [← hL] at hP ⊢
  obtain ⟨who, hw⟩ : ∃ w, w = whoS n L := ⟨_, rfl⟩
  rw [← hw] at hP ⊢
  obtain ⟨b, hb, e⟩ := loop_to (fun m i (a : Nat × Ob) => f8_findParting_18 K m L who (nI a.1) (nI j) (nI i) a.2 (cs 8)) (fun i a => PaR n kd who (a.2.2.2.1 0) a.1 (8 * j + i)) (fun a => K L who (nI a.1) (nI (j + 1)) a.2 (cs 8)) n
    (by
      intro m a _
      show f8_findParting_18 K (m + 1) _ _ _ _ (nI n) _ _ = _
      rw [f8_findParting_18, hn, if_pos (nI_le (Nat.le_refl n) (by omega)), lt_e, nI_1])
    (by
      intro m i a hi ha
      obtain ⟨P, S⟩ := a
      have ha' : PaR n kd who (S.2.2.1 0) P (8 * j + i) := ha
      have hP8 := ha'.1
      have e114 : ∀ q S', f8_findParting_114 K (f8_findParting_18 K m) L who q (nI j) (nI i) S' (cs 8) = f8_findParting_18 K m L who q (nI j) (nI (i + 1)) S' (cs 8) := fun q S' => by
        unfold f8_findParting_114; rw [lt_e, nI_1]
      have e73 : ∀ y, f8_findParting_73 K (f8_findParting_18 K m) L who (nI P) (nI j) (nI i) y S (cs 8) = f8_findParting_18 K m L who (nI P) (nI j) (nI (i + 1)) S (cs 8) := fun y => by
        unfold f8_findParting_73 f8_findParting_74; rw [if_pos rfl, e114]
      have hk1 : (8 * j + i) / 8 = j := by omega
      have hk2 : (8 * j + i) % 8 = i := by omega
      show ∃ b : Nat × Ob, PaR n kd who (b.2.2.2.1 0) b.1 (8 * j + i + 1) ∧ f8_findParting_18 K (m + 1) L who (nI P) (nI j) (nI i) S (cs 8) = f8_findParting_18 K m L who (nI b.1) (nI j) (nI (i + 1)) b.2 (cs 8)
      rw [f8_findParting_18, hn, if_neg (nI_ge hi (by omega)), s4_worldsOf (by omega), bd_s, s4_sayable _ hn h8 hj (hk j hj).1 (hk j hj).2, bd_s, s4_guestsIn _ hn h8, bd_s, inb_nI (by omega) (by omega), ck_t, nI_clamp (by omega), (hk j hj).1]
      have hkd := (hk j hj).2
      by_cases h3 : kd j = 3
      · refine ⟨(P, S), par_skip ha' (fun hh => by
          have := hh.1.2.2
          rw [hk1] at this; omega), ?_⟩
        rw [if_pos (by rw [h3]; rfl), e73]
      · have ey : whoS n (L &&& sayS n (kd j) j (so (w4s i))) = who &&& wWS n kd j i := by
          rw [who_say h8 (by omega), hw]
        rw [if_neg (show ¬ nI (kd j) = 3 from fun hh => h3 ((nI_eq (b := 3) (by omega) (by omega)).mp hh)), ey]
        have hv : valK n kd (8 * j + i) := by
          unfold valK
          rw [hk1, hk2]
          exact ⟨hj, hi, by omega⟩
        obtain ⟨y, hy⟩ : ∃ y, y = who &&& wWS n kd j i := ⟨_, rfl⟩
        have hy' : who &&& wWS n kd ((8 * j + i) / 8) ((8 * j + i) % 8) = y := by rw [hk1, hk2, hy]
        rw [← hy]
        by_cases hz : y = 0
        · refine ⟨(P, S), par_skip ha' (fun hh => by rw [hy'] at hh; exact hh.2.1 hz), ?_⟩
          rw [if_pos hz, e73]
        · rw [if_neg hz]
          by_cases hwy : y = who
          · refine ⟨(P, S), par_skip ha' (fun hh => by rw [hy'] at hh; exact hh.2.2 hwy), ?_⟩
            rw [if_pos hwy, e73]
          · rw [if_neg hwy]
            unfold f8_findParting_74
            rw [if_neg (by decide), if_neg (show ¬ (64 : Int32) ≤ nI P from nI_ge (b := 64) (by omega) (by omega))]
            rcases s8_isNew (SQ := S) (P := P) (by omega) y with ⟨n1, n2⟩ | ⟨n1, i', n2, n3⟩
            · refine ⟨(P + 1, oA S 0 P y), ?_, ?_⟩
              · obtain ⟨p1, p2, p3⟩ := ha'
                refine ⟨by omega, fun q hq => ?_, fun k hk3 a1 a2 a3 => ?_⟩
                · show ∃ k, k < 8 * j + i + 1 ∧ valK n kd k ∧ upd (S.2.2.1 0) P y q = _
                  by_cases hqP : q = P
                  · rw [hqP, pk_us]
                    exact ⟨8 * j + i, by omega, hv, hy'.symm⟩
                  · rw [pk_un hqP]
                    have hq' : q < P + 1 := hq
                    obtain ⟨k, k1, k2⟩ := p2 q (by omega)
                    exact ⟨k, by omega, k2⟩
                · show ∃ q, q < P + 1 ∧ upd (S.2.2.1 0) P y q = _
                  by_cases hkb : k = 8 * j + i
                  · exact ⟨P, by omega, by rw [pk_us, hkb, hy']⟩
                  · obtain ⟨q, q1, q2⟩ := p3 k (by omega) a1 a2 a3
                    exact ⟨q, by omega, by rw [pk_un (by omega)]; exact q2⟩
              · rw [n1, bd_s, if_neg (by decide), inb_nI (by omega) (by omega), ck_t, lt_e, lt_e, e114, nI_clamp (by omega), nI_1]
            · refine ⟨(P, S), ?_, ?_⟩
              · obtain ⟨p1, p2, p3⟩ := ha'
                refine ⟨by show P ≤ _; omega, fun q hq => ?_, fun k hk3 a1 a2 a3 => ?_⟩
                · obtain ⟨k, k1, k2⟩ := p2 q hq
                  exact ⟨k, by omega, k2⟩
                · by_cases hkb : k = 8 * j + i
                  · exact ⟨i', n2, by rw [hkb, hy']; exact n3⟩
                  · exact p3 k (by omega) a1 a2 a3
              · rw [n1, bd_s, if_pos rfl, e114])
    FU 0 (P, SQ) (Nat.zero_le _) (FU_lt (by omega)) hP
  obtain ⟨P', S'⟩ := b
  refine ⟨P', S', ?_, e⟩
  have := par_skips (h := hb) (8 - n) (fun k h1 h2 hv => by
    have := hv.2.1
    omega)
  rw [show 8 * j + n + (8 - n) = 8 * (j + 1) by omega] at this
  exact this
theorem s8_part {cs : Nat → Ob} {sm : Ob} {n g : Nat} {kd : Nat → Nat} (h : InvN cs sm n g) (hk : ∀ j, j < n → (cs 8).2.2.1 2 j = nI (kd j) ∧ kd j < 4) (SQ : Ob) : ∃ P SQ', PaR n kd (whoS n ((cs 10).1 0)) (SQ'.2.2.1 0) P 64 ∧ f8_findParting ((cs 10).1 0) (whoS n ((cs 10).1 0)) SQ (cs 8) = some (nI P, SQ') := by
  have h8 := h.1.1
  have hn := h.1.2.2.1
  obtain ⟨r, e, P, hr1, hr2⟩ := loop_inv (fun q j (a : Nat × Ob) => f8_findParting_6 q ((cs 10).1 0) (whoS n ((cs 10).1 0)) (nI a.1) (nI j) a.2 (cs 8)) (fun j a => PaR n kd (whoS n ((cs 10).1 0)) (a.2.2.2.1 0) a.1 (8 * j)) (fun r => ∃ P, PaR n kd (whoS n ((cs 10).1 0)) (r.2.2.2.1 0) P 64 ∧ r.1 = nI P) n
    (by
      intro q a ha
      refine ⟨(nI a.1, a.2), ?_, a.1, ?_, rfl⟩
      · show f8_findParting_6 (q + 1) _ _ _ (nI n) _ _ = _
        rw [f8_findParting_6, hn, if_pos (nI_le (Nat.le_refl n) (by omega))]
      · have := par_skips (h := ha) (64 - 8 * n) (fun k h1 h2 hv => by
          have := hv.1
          omega)
        rw [show 8 * n + (64 - 8 * n) = 64 by omega] at this
        exact this)
    (by
      intro q j a hj ha
      obtain ⟨P', S', p1, p2⟩ := s8_part_in h hk hj (f8_findParting_6 q) a.1 a.2 ha
      refine ⟨(P', S'), p1, ?_⟩
      show f8_findParting_6 (q + 1) _ _ _ (nI j) _ _ = _
      rw [f8_findParting_6, hn, if_neg (nI_ge hj (by omega))]
      exact p2)
    FU 0 (0, SQ) (Nat.zero_le _) (FU_lt (by omega)) ⟨Nat.zero_le _, fun i hi => absurd hi (Nat.not_lt_zero i), fun k hk => absurd hk (Nat.not_lt_zero k)⟩
  obtain ⟨r1, S'⟩ := r
  have hr2' : r1 = nI P := hr2
  subst hr2'
  exact ⟨P, S', hr1, e⟩
theorem spc_small {n : Nat} {kd qf : Nat → Nat} (hs : ∀ v, 1 ≤ v → v < 2 ^ n → Spc n kd qf v ∧ qf v ≤ FAR) : ∀ v, 1 ≤ v → v < 2 ^ n → qf v ≠ FAR → qf v ≤ v := by
  intro v
  induction v using Nat.strongRecOn with
  | ind v ih =>
    intro h1 h2 h3
    obtain ⟨⟨s1, s2⟩, s3⟩ := hs v h1 h2
    by_cases hc : cnt (nI v) = 1
    · rw [s1 hc]; omega
    · obtain ⟨a1, a2, a3⟩ := s2 hc
      rcases a2 with a2 | ⟨k, k1, k2, k3, k4⟩
      · exact absurd a2 h3
      · obtain ⟨z1, z2⟩ := yes_lt k3
        have b1 := (hs (yesN n kd v k) (by have := k3.1; omega) (by omega)).2
        have b2 := (hs (noN n kd v k) (by have := k3.2; omega) (by omega)).2
        have hF : FAR = 1000000000 := rfl
        have c1 : qf (yesN n kd v k) ≠ FAR := fun e => by
          rw [k4, e] at h3 a1
          unfold mx at a1
          split at a1 <;> omega
        have c2 : qf (noN n kd v k) ≠ FAR := fun e => by
          rw [k4, e] at h3 a1
          unfold mx at a1
          split at a1 <;> omega
        have d1 := ih (yesN n kd v k) z1 (by have := k3.1; omega) (by omega) c1
        have d2 := ih (noN n kd v k) z2 (by have := k3.2; omega) (by omega) c2
        rw [k4]
        unfold mx
        split <;> omega
/-- what the class keeps of a set -/
def enI (q : Nat) : Int32 := if q = FAR then -1 else nI q
theorem part_eq {n : Nat} {kd : Nat → Nat} {v k : Nat} {who : Int32} (hv : v < 256) (hsub : nI v &&& (who ^^^ (-1)) = 0) : nI v &&& (who &&& wWS n kd (k / 8) (k % 8)) = nI (yesN n kd v k) ∧ nI v &&& ((who &&& wWS n kd (k / 8) (k % 8)) ^^^ (-1)) = nI (noN n kd v k) := by
  obtain ⟨y1, y2, -, -⟩ := yes_0 (n := n) (kd := kd) (v := v) (k := k) hv
  have hs : ∀ i, i < 32 → bt (nI v) i = true → bt who i = true := fun i hi hb => by
    have := b_z.mp hsub i hi
    rw [b_and, hb, b_not _ hi] at this
    simpa using this
  constructor
  · rw [← y1]
    refine b_ext (fun i hi => ?_)
    rw [b_and, b_and, b_and]
    cases hb : bt (nI v) i
    · rfl
    · rw [hs i hi hb, Bool.true_and]
  · rw [← y2, ← y1]
    refine b_ext (fun i hi => ?_)
    rw [b_and, b_and, b_not _ hi, b_not _ hi, b_and, b_and]
    cases hb : bt (nI v) i
    · rfl
    · rw [hs i hi hb, Bool.true_and, Bool.true_and]
theorem s8_best {SQ : Ob} {n P v : Nat} {kd qf : Nat → Nat} {who : Int32} (h8 : n ≤ 8) (hs : ∀ v, 1 ≤ v → v < 2 ^ n → Spc n kd qf v ∧ qf v ≤ FAR) (hP : PaR n kd who (SQ.2.2.1 0) P 64) (hv1 : 1 ≤ v) (hv : v < 2 ^ n) (hsub : nI v &&& (who ^^^ (-1)) = 0) (hc : ¬ cnt (nI v) = 1) (hE : ∀ u, 1 ≤ u → u < v → nI u &&& (who ^^^ (-1)) = 0 → SQ.2.2.1 1 u = enI (qf u)) : f8_bestPart (nI v) (nI P) SQ = some (enI (qf v)) := by
  have h2n : 2 ^ n ≤ 256 := Nat.pow_le_pow_right (n := 2) (i := n) (j := 8) (by omega) h8
  have hF : FAR = 1000000000 := rfl
  obtain ⟨p1, p2, p3⟩ := hP
  obtain ⟨a1, a2, a3⟩ := (hs v hv1 hv).1.2 hc
  have hsm := spc_small hs
  have hs1 : ∀ i, i < 32 → bt (nI v) i = true → bt who i = true := fun i hi hb => by
    have := b_z.mp hsub i hi
    rw [b_and, hb, b_not _ hi] at this
    simpa using this
  have sub' : ∀ u, (∀ i, i < 32 → bt (nI u) i = true → bt (nI v) i = true) → nI u &&& (who ^^^ (-1)) = 0 := fun u hu => b_z.mpr (fun i hi => by
    rw [b_and, b_not _ hi]
    cases hb : bt (nI u) i
    · rfl
    · rw [hs1 i hi (hu i hi hb)]; rfl)
  -- what a split is worth
  have hval : ∀ k, splK n kd v k → SQ.2.2.1 1 (yesN n kd v k) = enI (qf (yesN n kd v k)) ∧ SQ.2.2.1 1 (noN n kd v k) = enI (qf (noN n kd v k)) ∧ 1 ≤ yesN n kd v k ∧ 1 ≤ noN n kd v k ∧ yesN n kd v k < v ∧ noN n kd v k < v := fun k hk => by
    obtain ⟨z1, z2⟩ := yes_lt hk
    obtain ⟨y1, y2, -, -⟩ := yes_0 (n := n) (kd := kd) (v := v) (k := k) (by omega)
    have w1 := hk.1
    have w2 := hk.2
    refine ⟨hE _ (by omega) z1 (sub' _ (fun i hi hb => ?_)), hE _ (by omega) z2 (sub' _ (fun i hi hb => ?_)), by omega, by omega, z1, z2⟩
    · rw [← y1, b_and, Bool.and_eq_true] at hb; exact hb.1
    · rw [← y2, b_and, Bool.and_eq_true] at hb; exact hb.1
  obtain ⟨r, e, hr⟩ := loop_inv (fun q i a => f8_bestPart_5 q (nI v) (nI P) a (nI i) SQ) (fun i a => (a = -1 ∧ ∀ i', i' < i → ∀ k, valK n kd k → SQ.2.2.1 0 i' = who &&& wWS n kd (k / 8) (k % 8) → splK n kd v k → qf (yesN n kd v k) = FAR ∨ qf (noN n kd v k) = FAR) ∨ ∃ c, a = nI c ∧ c < FAR ∧ (∃ k, k < 64 ∧ valK n kd k ∧ splK n kd v k ∧ c = 1 + mx (qf (yesN n kd v k)) (qf (noN n kd v k))) ∧ ∀ i', i' < i → ∀ k, valK n kd k → SQ.2.2.1 0 i' = who &&& wWS n kd (k / 8) (k % 8) → splK n kd v k → qf (yesN n kd v k) ≠ FAR → qf (noN n kd v k) ≠ FAR → c ≤ 1 + mx (qf (yesN n kd v k)) (qf (noN n kd v k))) (fun r => r = enI (qf v)) P
    (by
      intro q a ha
      refine ⟨a, ?_, ?_⟩
      · show f8_bestPart_5 (q + 1) _ _ _ (nI P) _ = _
        rw [f8_bestPart_5, if_pos (nI_le (Nat.le_refl _) (by omega))]
      · have find : ∀ k, k < 64 → valK n kd k → splK n kd v k → ∃ i, i < P ∧ SQ.2.2.1 0 i = who &&& wWS n kd (k / 8) (k % 8) := fun k hk hvk hsp => by
          obtain ⟨q1, q2⟩ := part_eq (n := n) (kd := kd) (v := v) (k := k) (who := who) (by omega) hsub
          have w1 := hsp.1
          have w2 := hsp.2
          have hm1 : yesN n kd v k ≤ v := Nat.and_le_left
          have hm2 : noN n kd v k ≤ v := Nat.and_le_left
          refine p3 k hk hvk (fun h0 => ?_) (fun h0 => ?_)
          · rw [h0, show nI v &&& (0 : Int32) = 0 from b_ext (fun i _ => by rw [b_and, b_0, Bool.and_false])] at q1
            exact absurd q1.symm (nI_ne0 (by omega) (by omega))
          · rw [h0, hsub] at q2
            exact absurd q2.symm (nI_ne0 (by omega) (by omega))
        rcases ha with ⟨b1, b2⟩ | ⟨c, b1, b2, ⟨k, k1, k2, k3, k4⟩, b3⟩
        · rw [b1]
          unfold enI
          rcases a2 with a2 | ⟨k, k1, k2, k3, k4⟩
          · rw [if_pos a2]
          · obtain ⟨i, i1, i2⟩ := find k k1 k2 k3
            have hh := b2 i i1 k k2 i2 k3
            have b4 := (hval k k3)
            have f1 := (hs (yesN n kd v k) b4.2.2.1 (by omega)).2
            have f2 := (hs (noN n kd v k) b4.2.2.2.1 (by omega)).2
            exfalso
            rw [k4] at a1
            unfold mx at a1
            rcases hh with hh | hh <;> rw [hh] at a1 <;> split at a1 <;> omega
        · rw [b1]
          have l1 := a3 k k1 k2 k3
          rcases a2 with a2 | ⟨k', e1, e2, e3, e4⟩
          · omega
          · obtain ⟨i, i1, i2⟩ := find k' e1 e2 e3
            have b4 := hval k' e3
            have f1 := (hs (yesN n kd v k') b4.2.2.1 (by omega)).2
            have f2 := (hs (noN n kd v k') b4.2.2.2.1 (by omega)).2
            have g1 : qf (yesN n kd v k') ≠ FAR := fun hh => by
              rw [e4] at a1
              unfold mx at a1
              rw [hh] at a1; split at a1 <;> omega
            have g2 : qf (noN n kd v k') ≠ FAR := fun hh => by
              rw [e4] at a1
              unfold mx at a1
              rw [hh] at a1; split at a1 <;> omega
            have l2 := b3 i i1 k' e2 i2 e3 g1 g2
            unfold enI
            rw [if_neg (by omega)]
            exact congrArg nI (by omega))
    (by
      intro q i a hi ha
      obtain ⟨k, k1, k2, k3⟩ := p2 i hi
      obtain ⟨q1, q2⟩ := part_eq (n := n) (kd := kd) (v := v) (k := k) (who := who) (by omega) hsub
      have hm1 : yesN n kd v k ≤ v := Nat.and_le_left
      have hm2 : noN n kd v k ≤ v := Nat.and_le_left
      have e102 : ∀ z, f8_bestPart_102 (f8_bestPart_5 q) (nI v) (nI P) z (nI i) SQ = f8_bestPart_5 q (nI v) (nI P) z (nI (i + 1)) SQ := fun z => by
        unfold f8_bestPart_102; rw [lt_e, nI_1]
      have e99 : ∀ z, f8_bestPart_99 (f8_bestPart_5 q) (nI v) (nI P) (nI i) z SQ = f8_bestPart_5 q (nI v) (nI P) z (nI (i + 1)) SQ := fun z => by
        unfold f8_bestPart_99; rw [e102]
      -- another question with the same part has the same split
      have same : ∀ k', SQ.2.2.1 0 i = who &&& wWS n kd (k' / 8) (k' % 8) → yesN n kd v k' = yesN n kd v k ∧ noN n kd v k' = noN n kd v k := fun k' hk' => by
        obtain ⟨q1', q2'⟩ := part_eq (n := n) (kd := kd) (v := v) (k := k') (who := who) (by omega) hsub
        have hm1' : yesN n kd v k' ≤ v := Nat.and_le_left
        have hm2' : noN n kd v k' ≤ v := Nat.and_le_left
        rw [← hk', k3] at q1' q2'
        exact ⟨(nI_eq (by omega) (by omega)).mp (q1'.symm.trans q1), (nI_eq (by omega) (by omega)).mp (q2'.symm.trans q2)⟩
      have keep : (splK n kd v k → qf (yesN n kd v k) = FAR ∨ qf (noN n kd v k) = FAR) → (a = -1 ∧ ∀ i', i' < i + 1 → ∀ k, valK n kd k → SQ.2.2.1 0 i' = who &&& wWS n kd (k / 8) (k % 8) → splK n kd v k → qf (yesN n kd v k) = FAR ∨ qf (noN n kd v k) = FAR) ∨ ∃ c, a = nI c ∧ c < FAR ∧ (∃ k, k < 64 ∧ valK n kd k ∧ splK n kd v k ∧ c = 1 + mx (qf (yesN n kd v k)) (qf (noN n kd v k))) ∧ ∀ i', i' < i + 1 → ∀ k, valK n kd k → SQ.2.2.1 0 i' = who &&& wWS n kd (k / 8) (k % 8) → splK n kd v k → qf (yesN n kd v k) ≠ FAR → qf (noN n kd v k) ≠ FAR → c ≤ 1 + mx (qf (yesN n kd v k)) (qf (noN n kd v k)) := fun hno => by
        have hno' : ∀ k', SQ.2.2.1 0 i = who &&& wWS n kd (k' / 8) (k' % 8) → splK n kd v k' → qf (yesN n kd v k') = FAR ∨ qf (noN n kd v k') = FAR := fun k' hk' hsp => by
          obtain ⟨t1, t2⟩ := same k' hk'
          unfold splK at hsp
          rw [t1, t2] at hsp
          rw [t1, t2]
          exact hno hsp
        rcases ha with ⟨b1, b2⟩ | ⟨c, b1, b2, b4, b3⟩
        · refine Or.inl ⟨b1, fun i' hi' k' h1 h2 h3 => ?_⟩
          by_cases hii : i' = i
          · rw [hii] at h2; exact hno' k' h2 h3
          · exact b2 i' (by omega) k' h1 h2 h3
        · refine Or.inr ⟨c, b1, b2, b4, fun i' hi' k' h1 h2 h3 h4 h5 => ?_⟩
          by_cases hii : i' = i
          · rw [hii] at h2
            rcases hno' k' h2 h3 with hh | hh
            · exact absurd hh h4
            · exact absurd hh h5
          · exact b3 i' (by omega) k' h1 h2 h3 h4 h5
      show ∃ b, _ ∧ f8_bestPart_5 (q + 1) (nI v) (nI P) a (nI i) SQ = f8_bestPart_5 q (nI v) (nI P) b (nI (i + 1)) SQ
      rw [f8_bestPart_5, if_neg (nI_ge hi (by omega)), inb_nI (by omega) (by omega), ck_t, lt_e, ck_t, lt_e, nI_clamp (by omega), k3, q1, q2]
      by_cases hy : yesN n kd v k = 0
      · refine ⟨a, keep (fun hh => absurd hy hh.1), ?_⟩
        rw [if_pos (by rw [hy]; rfl), e102]
      · rw [if_neg (nI_ne0 (by omega) (by omega))]
        by_cases ho : noN n kd v k = 0
        · refine ⟨a, keep (fun hh => absurd ho hh.2), ?_⟩
          rw [if_pos (by rw [ho]; rfl), e102]
        · rw [if_neg (nI_ne0 (by omega) (by omega))]
          have hsp : splK n kd v k := ⟨hy, ho⟩
          obtain ⟨v1, v2, v3, v4, v5, v6⟩ := hval k hsp
          rw [inb_nI (by omega) (by omega), inb_nI (by omega) (by omega), ck_t, ck_t, ck_t, ck_t, nI_clamp (by omega), nI_clamp (by omega), v1, v2]
          by_cases f1 : qf (yesN n kd v k) = FAR
          · refine ⟨a, keep (fun _ => Or.inl f1), ?_⟩
            rw [if_pos (by unfold enI; rw [if_pos f1]), e102]
          · have m1 := hsm (yesN n kd v k) v3 (by omega) f1
            have en1 : enI (qf (yesN n kd v k)) = nI (qf (yesN n kd v k)) := by unfold enI; rw [if_neg f1]
            rw [en1, if_neg (nI_nm1 (by omega))]
            by_cases f2 : qf (noN n kd v k) = FAR
            · refine ⟨a, keep (fun _ => Or.inr f2), ?_⟩
              rw [if_pos (by unfold enI; rw [if_pos f2]), e102]
            · have m2 := hsm (noN n kd v k) v4 (by omega) f2
              have en2 : enI (qf (noN n kd v k)) = nI (qf (noN n kd v k)) := by unfold enI; rw [if_neg f2]
              rw [en2, if_neg (nI_nm1 (by omega))]
              obtain ⟨c', hc'⟩ : ∃ c', c' = 1 + mx (qf (yesN n kd v k)) (qf (noN n kd v k)) := ⟨_, rfl⟩
              have hc'l : c' ≤ 257 := by rw [hc']; unfold mx; split <;> omega
              have emx : (1 : Int32) + (if nI (qf (yesN n kd v k)) < nI (qf (noN n kd v k)) then nI (qf (noN n kd v k)) else nI (qf (yesN n kd v k))) = nI c' := by
                rw [hc']
                unfold mx
                by_cases hle : qf (yesN n kd v k) < qf (noN n kd v k)
                · rw [if_pos (nI_lt hle (by omega)), if_pos (by omega), show (1 : Int32) = nI 1 from rfl, nI_add]
                · rw [if_neg (nI_nlt (by omega) (by omega))]
                  by_cases heq : qf (yesN n kd v k) ≤ qf (noN n kd v k)
                  · rw [if_pos heq, show (1 : Int32) = nI 1 from rfl, nI_add, show qf (yesN n kd v k) = qf (noN n kd v k) by omega]
                  · rw [if_neg heq, show (1 : Int32) = nI 1 from rfl, nI_add]
              rw [lt_e, emx]
              have newc : (∀ i', i' < i → ∀ k', valK n kd k' → SQ.2.2.1 0 i' = who &&& wWS n kd (k' / 8) (k' % 8) → splK n kd v k' → qf (yesN n kd v k') ≠ FAR → qf (noN n kd v k') ≠ FAR → c' ≤ 1 + mx (qf (yesN n kd v k')) (qf (noN n kd v k'))) → (nI c' = -1 ∧ ∀ i', i' < i + 1 → ∀ k, valK n kd k → SQ.2.2.1 0 i' = who &&& wWS n kd (k / 8) (k % 8) → splK n kd v k → qf (yesN n kd v k) = FAR ∨ qf (noN n kd v k) = FAR) ∨ ∃ c, nI c' = nI c ∧ c < FAR ∧ (∃ k, k < 64 ∧ valK n kd k ∧ splK n kd v k ∧ c = 1 + mx (qf (yesN n kd v k)) (qf (noN n kd v k))) ∧ ∀ i', i' < i + 1 → ∀ k, valK n kd k → SQ.2.2.1 0 i' = who &&& wWS n kd (k / 8) (k % 8) → splK n kd v k → qf (yesN n kd v k) ≠ FAR → qf (noN n kd v k) ≠ FAR → c ≤ 1 + mx (qf (yesN n kd v k)) (qf (noN n kd v k)) := fun hold => by
                refine Or.inr ⟨c', rfl, by omega, ⟨k, k1, k2, hsp, hc'⟩, fun i' hi' k' h1 h2 h3 h4 h5 => ?_⟩
                by_cases hii : i' = i
                · rw [hii] at h2
                  obtain ⟨t1, t2⟩ := same k' h2
                  rw [t1, t2, ← hc']
                  exact Nat.le_refl _
                · exact hold i' (by omega) k' h1 h2 h3 h4 h5
              rcases ha with ⟨b1, b2⟩ | ⟨c, b1, b2, b4, b3⟩
              · refine ⟨nI c', newc (fun i' hi' k' h1 h2 h3 h4 h5 => ?_), ?_⟩
                · rcases b2 i' hi' k' h1 h2 h3 with hh | hh
                  · exact absurd hh h4
                  · exact absurd hh h5
                · rw [if_pos b1, e99]
              · rw [b1, if_neg (nI_nm1 (by omega))]
                by_cases hcc : c ≤ c'
                · refine ⟨nI c, Or.inr ⟨c, rfl, b2, b4, fun i' hi' k' h1 h2 h3 h4 h5 => ?_⟩, ?_⟩
                  · by_cases hii : i' = i
                    · rw [hii] at h2
                      obtain ⟨t1, t2⟩ := same k' h2
                      rw [t1, t2, ← hc']
                      exact hcc
                    · exact b3 i' (by omega) k' h1 h2 h3 h4 h5
                  · rw [if_pos (nI_le hcc (by omega)), e102]
                · refine ⟨nI c', newc (fun i' hi' k' h1 h2 h3 h4 h5 => Nat.le_trans (by omega) (b3 i' hi' k' h1 h2 h3 h4 h5)), ?_⟩
                  rw [if_neg (nI_ge (by omega) (by omega)), e99])
    FU 0 (-1) (Nat.zero_le _) (FU_lt (by omega)) (Or.inl ⟨rfl, fun i' hi' => absurd hi' (Nat.not_lt_zero i')⟩)
  rw [← hr]
  exact e
