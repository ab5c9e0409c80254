/-! pure: likely, odds, errors, ask -/
theorem fl_skip {α : Type} {f : Nat → α → α} {a0 : α} {lo : Nat} : ∀ d, (∀ k a, lo ≤ k → k < lo + d → f k a = a) → fl f (lo + d) a0 = fl f lo a0
  | 0, _ => rfl
  | d + 1, h => by
    rw [← Nat.add_assoc, fl_succ, h (lo + d) _ (by omega) (by omega)]
    exact fl_skip d (fun k a h1 h2 => h k a h1 (by omega))
def wtF (SI SB : Ob) (w i : Nat) (a : Int64) : Int64 := a * (if (bt (SI.2.2.1 11 (vN (SB.2.2.1 4 i))) w == decide (SB.2.2.1 5 i = 1)) then (10 - SI.2.2.1 10 (vN (SB.2.2.1 4 i))).toInt64 else (SI.2.2.1 10 (vN (SB.2.2.1 4 i))).toInt64)
def wtS (SI SB : Ob) (q w : Nat) : Int64 := fl (wtF SI SB w) q ((SI.2.2.1 4 (w / 4)).toInt64)
theorem bk_q {cs : Nat → Ob} {sm : Ob} {n g : Nat} (h : InvN cs sm n g) : ∃ q, q ≤ 8 ∧ (cs 10).1 3 = nI q ∧ sm.2.2.1 25 12 = nI q ∧ ∀ k, k < q → vN ((cs 10).2.2.1 4 k) < g ∧ (cs 10).2.2.1 4 k = nI (vN ((cs 10).2.2.1 4 k)) ∧ sm.2.2.1 25 (13 + 2 * k) = (cs 10).2.2.1 4 k ∧ ((cs 10).2.2.1 5 k = 0 ∨ (cs 10).2.2.1 5 k = 1) ∧ sm.2.2.1 25 (13 + 2 * k + 1) = (cs 10).2.2.1 5 k := by
  obtain ⟨q, q1, q2, q3, q4⟩ := h.2.2.1.2.2.2
  refine ⟨q, q1, q2, q3, fun k hk => ?_⟩
  obtain ⟨⟨s, s1, s2⟩, c2, c3, c4⟩ := q4 k hk
  have h6 := h.1.2.1
  have e : vN ((cs 10).2.2.1 4 k) = s := by rw [s2]; exact pk_tn (by omega)
  rw [Nat.zero_add] at c2 c4
  exact ⟨by rw [e]; exact s1, (nI_vN _).symm, c2, c3, c4⟩
theorem sh_bt {cs : Nat → Ob} {sm : Ob} {n g w s : Nat} (h : InvN cs sm n g) (hw : w < 32) (hs : s < g) : bt ((cs 8).2.2.1 12 w) s = bt ((cs 8).2.2.1 11 s) w := by
  have h6 := h.1.2.1
  rw [h.1.2.2.2.2.2.2.2.2.2.2.2 w hw, so_bt _ (by omega)]
  simp [hs]
theorem s1_weight {cs : Nat → Ob} {sm : Ob} {n g q w : Nat} (h : InvN cs sm n g) (hq : (cs 10).1 3 = nI q) (q8 : q ≤ 8) (hw : w < 4 * n) : f1_weight (nI w) (cs 8) (cs 10) = some (wtS (cs 8) (cs 10) q w) := by
  obtain ⟨q', q1, q2, q3, q4⟩ := bk_q h
  have e : q' = q := (nI_eq (by omega) (by omega)).mp (q2.symm.trans hq)
  subst e
  have h8 := h.1.1
  have h6 := h.1.2.1
  unfold f1_weight
  rw [show (4 : Int32) = nI 4 from rfl, pk_div (by omega) (by omega) (by omega), ck_p (by decide), inb_nI (by omega) (by omega), ck_t, lt_e, nI_clamp (by omega)]
  refine loop_fl (fun m i a => f1_weight_13 m (nI w) a (nI i) (cs 8) (cs 10)) (wtF (cs 8) (cs 10) w) some q' _ ?_ ?_ FU 0 (Nat.zero_le _) (FU_lt (by omega))
  · intro m
    show f1_weight_13 (m + 1) _ _ (nI q') _ _ = _
    rw [f1_weight_13, hq, if_pos (nI_le (Nat.le_refl _) (by omega))]
  · intro m i hi
    show f1_weight_13 (m + 1) _ _ (nI i) _ _ = f1_weight_13 m _ _ (nI (i + 1)) _ _
    obtain ⟨d1, d2, d3, d4, d5⟩ := q4 i hi
    rw [f1_weight_13, hq, if_neg (nI_ge hi (by omega)), inb_nI (by omega) (by omega), ck_t, lt_e, nI_clamp (by omega), inb_nI (by omega) (by omega), ck_t, nI_clamp (by omega)]
    obtain ⟨s, hs⟩ : ∃ s, s = vN ((cs 10).2.2.1 4 i) := ⟨_, rfl⟩
    have hwt : ∀ a, wtF (cs 8) (cs 10) w i a = a * (if (bt ((cs 8).2.2.1 11 s) w == decide ((cs 10).2.2.1 5 i = 1)) then (10 - (cs 8).2.2.1 10 s).toInt64 else ((cs 8).2.2.1 10 s).toInt64) := fun a => by rw [hs]; rfl
    rw [hwt]
    rw [← hs] at d1 d2
    rw [d2, bit_u (by omega), sh_bt h (by omega) d1]
    unfold f1_weight_51 f1_weight_66 f1_weight_96
    rw [inb_nI (show i < 8 by omega) (by omega), inb_nI (show s < 6 by omega) (by omega)]
    simp only [lt_e, nI_1, ck_t, nI_clamp (show i < 2 ^ 31 by omega), nI_clamp (show s < 2 ^ 31 by omega), ib_1]
    rcases d4 with d4 | d4 <;> rw [d4] <;> cases bt ((cs 8).2.2.1 11 s) w <;> rfl
theorem s12_errsOf {SM : Ob} {s : Nat} (hs : s < 6) : f12_errsOf (nI s) SM = some (SM.2.2.1 10 (43 + 2 * s)) := by
  unfold f12_errsOf
  rw [show (43 : Int32) + 2 * nI s = nI (43 + 2 * s) from (by rw [show (2 : Int32) = nI 2 from rfl, show (43 : Int32) = nI 43 from rfl, pk_mul, nI_add]), inb_nI (by omega) (by omega), ck_t, nI_clamp (by omega)]
theorem s12_oddsIn {cs : Nat → Ob} {sm : Ob} {n g q w : Nat} (h : InvN cs sm n g) (hq : sm.2.2.1 25 12 = nI q) (q8 : q ≤ 8) (hw : w < 4 * n) : f12_oddsIn (nI w) sm = some (wtS (cs 8) (cs 10) q w) := by
  obtain ⟨q', q1, q2, q3, q4⟩ := bk_q h
  have e : q' = q := (nI_eq (by omega) (by omega)).mp (q3.symm.trans hq)
  subst e
  have h8 := h.1.1
  have h6 := h.1.2.1
  have g2 : f12_guestOf (nI (w / 4)) 2 sm = some ((cs 8).2.2.1 4 (w / 4)) := by
    rw [← (h.2.1.2.2.1 (w / 4) (by omega)).2.2.1]; exact s12_guestOf (k := 2) (by omega) (by omega)
  unfold f12_oddsIn
  rw [show (4 : Int32) = nI 4 from rfl, pk_div (by omega) (by omega) (by omega), ck_p (by decide), g2, bd_s, lt_e]
  refine loop_fl (fun m i a => f12_oddsIn_13 m (nI w) a (nI i) sm) (wtF (cs 8) (cs 10) w) some q' _ ?_ ?_ FU 0 (Nat.zero_le _) (FU_lt (by omega))
  · intro m
    show f12_oddsIn_13 (m + 1) _ _ (nI q') _ = _
    rw [f12_oddsIn_13]
    show ck true (if sm.2.2.1 25 12 ≤ nI q' then _ else _) = _
    rw [ck_t, hq, if_pos (nI_le (Nat.le_refl _) (by omega))]
  · intro m i hi
    show f12_oddsIn_13 (m + 1) _ _ (nI i) _ = f12_oddsIn_13 m _ _ (nI (i + 1)) _
    obtain ⟨d1, d2, d3, d4, d5⟩ := q4 i hi
    rw [f12_oddsIn_13]
    show ck true (if sm.2.2.1 25 12 ≤ nI i then _ else _) = _
    rw [ck_t, hq, if_neg (nI_ge hi (by omega)), show (13 : Int32) + 2 * nI i = nI (13 + 2 * i) from (by rw [show (2 : Int32) = nI 2 from rfl, show (13 : Int32) = nI 13 from rfl, pk_mul, nI_add]), inb_nI (by omega) (by omega), ck_t, lt_e, nI_clamp (by omega), nI_1, inb_nI (by omega) (by omega), nI_clamp (by omega), d3, d5]
    obtain ⟨s, hs⟩ : ∃ s, s = vN ((cs 10).2.2.1 4 i) := ⟨_, rfl⟩
    have hwt : ∀ a, wtF (cs 8) (cs 10) w i a = a * (if (bt ((cs 8).2.2.1 11 s) w == decide ((cs 10).2.2.1 5 i = 1)) then (10 - (cs 8).2.2.1 10 s).toInt64 else ((cs 8).2.2.1 10 s).toInt64) := fun a => by rw [hs]; rfl
    rw [hwt]
    rw [← hs] at d1 d2
    rw [d2, inb_nI (by omega) (by omega), ck_t, nI_clamp (by omega), h.2.1.2.2.2.2.1 s d1, s12_isIn (by omega), bd_s, ck_t]
    unfold f12_oddsIn_73 f12_oddsIn_81 f12_oddsIn_107
    simp only [s12_errsOf (show s < 6 by omega), bd_s, lt_e, nI_1, h.2.1.2.2.2.1 s d1]
    rcases d4 with d4 | d4 <;> rw [d4] <;> cases bt ((cs 8).2.2.1 11 s) w <;> rfl
def oddF (L : Int32) (W : Nat → Int64) (j c : Nat) (a : Int64) : Int64 := a + (if bt L (4 * j + c) then W (4 * j + c) else 0)
def oddS (L : Int32) (W : Nat → Int64) (j : Nat) : Int64 := fl (oddF L W j) 4 0
theorem s12_oddsOf {cs : Nat → Ob} {sm : Ob} {n g q j : Nat} (h : InvN cs sm n g) (hq : sm.2.2.1 25 12 = nI q) (q8 : q ≤ 8) (hj : j < n) : f12_oddsOf (nI j) sm = some (oddS ((cs 10).1 0) (wtS (cs 8) (cs 10) q) j) := by
  have h8 := h.1.1
  unfold f12_oddsOf
  rw [nI_4', lt_e]
  refine loop_fl (fun m c a => f12_oddsOf_7 m (nI j) a (nI (4 * j + c)) sm) (oddF ((cs 10).1 0) (wtS (cs 8) (cs 10) q) j) some 4 0 ?_ ?_ FU 0 (Nat.zero_le _) (FU_lt (by omega))
  · intro m
    show f12_oddsOf_7 (m + 1) _ _ (nI (4 * j + 4)) _ = _
    rw [f12_oddsOf_7, nI_4', show nI (4 * j) + 4 = nI (4 * j + 4) from (by rw [show (4 : Int32) = nI 4 from rfl, nI_add]), if_pos (nI_le (Nat.le_refl _) (by omega))]
  · intro m c hc
    show f12_oddsOf_7 (m + 1) _ _ (nI (4 * j + c)) _ = f12_oddsOf_7 m _ _ (nI (4 * j + (c + 1))) _
    rw [f12_oddsOf_7, nI_4', show nI (4 * j) + 4 = nI (4 * j + 4) from (by rw [show (4 : Int32) = nI 4 from rfl, nI_add]), if_neg (nI_ge (by omega) (by omega))]
    show ck true (bd (f12_isIn (sm.2.2.1 25 0) (nI (4 * j + c))) _) = _
    rw [ck_t, h.2.2.1.1, s12_isIn (by omega), bd_s, s12_oddsIn h hq q8 (by omega), bd_s]
    unfold f12_oddsOf_42 oddF
    simp only [lt_e, nI_1, ib_0, Nat.add_assoc]
    cases bt ((cs 10).1 0) (4 * j + c) <;> rfl
def togF (L x : Int32) (W : Nat → Int64) (w : Nat) (a : Int64) : Int64 := if (bt L w && bt x w) then a + W w else a
theorem s1_together {cs : Nat → Ob} {sm : Ob} {n g q : Nat} (h : InvN cs sm n g) (hq : (cs 10).1 3 = nI q) (q8 : q ≤ 8) (x : Int32) : f1_together x (cs 8) (cs 10) = some (fl (togF ((cs 10).1 0) x (wtS (cs 8) (cs 10) q)) (4 * n) 0) := by
  have h8 := h.1.1
  have hn := h.1.2.2.1
  refine loop_fl (fun m w a => f1_together_5 m x a (nI w) (cs 8) (cs 10)) (togF ((cs 10).1 0) x (wtS (cs 8) (cs 10) q)) some (4 * n) 0 ?_ ?_ FU 0 (Nat.zero_le _) (FU_lt (by omega))
  · intro m
    show f1_together_5 (m + 1) _ _ (nI (4 * n)) _ _ = _
    rw [f1_together_5, hn, nI_4, if_pos (nI_le (Nat.le_refl _) (by omega))]
  · intro m w hw
    show f1_together_5 (m + 1) _ _ (nI w) _ _ = f1_together_5 m _ _ (nI (w + 1)) _ _
    have e : (ush ((cs 10).1 0) (nI w) &&& ush x (nI w)) &&& 1 = if (bt ((cs 10).1 0) w && bt x w) then 1 else 0 := by
      refine b_ext (fun i hi => ?_)
      rw [b_and, b_and, b_1 i hi]
      unfold ush
      rw [b_ushr w (by omega), b_ushr w (by omega)]
      by_cases hi0 : i = 0
      · subst hi0
        rw [Nat.add_zero]
        cases bt ((cs 10).1 0) w <;> cases bt x w <;> simp [b_0, b_1 0 (by omega)]
      · cases bt ((cs 10).1 0) w <;> cases bt x w <;> simp [b_0, hi0, b_1 i hi]
    rw [f1_together_5, hn, nI_4, if_neg (nI_ge hw (by omega)), e, s1_weight h hq q8 hw, bd_s]
    unfold f1_together_44 togF
    simp only [lt_e, nI_1, ib_1]
    split <;> rfl
theorem tog_own {L : Int32} {W : Nat → Int64} {n j : Nat} (h8 : n ≤ 8) (hj : j < n) : fl (togF L (so (w4s j)) W) (4 * n) 0 = oddS L W j := by
  have hb : ∀ w, w < 32 → bt (so (w4s j)) w = w4s j w := fun w hw => so_bt _ hw
  have e1 : fl (togF L (so (w4s j)) W) (4 * n) 0 = fl (togF L (so (w4s j)) W) (4 * j + 4) 0 := by
    have := fl_skip (f := togF L (so (w4s j)) W) (a0 := (0 : Int64)) (lo := 4 * j + 4) (4 * n - (4 * j + 4)) (fun k a h1 h2 => by
      unfold togF
      rw [hb k (by omega)]
      have : w4s j k = false := by unfold w4s; simp; omega
      rw [this]; simp)
    rw [show 4 * j + 4 + (4 * n - (4 * j + 4)) = 4 * n by omega] at this
    exact this
  have e2 : fl (togF L (so (w4s j)) W) (4 * j) 0 = 0 := by
    have := fl_skip (f := togF L (so (w4s j)) W) (a0 := (0 : Int64)) (lo := 0) (4 * j) (fun k a h1 h2 => by
      unfold togF
      rw [hb k (by omega)]
      have : w4s j k = false := by unfold w4s; simp; omega
      rw [this]; simp)
    rw [Nat.zero_add] at this
    exact this
  have e3 : ∀ c, c < 4 → ∀ a, togF L (so (w4s j)) W (4 * j + c) a = oddF L W j c a := fun c hc a => by
    unfold togF oddF
    rw [hb _ (by omega)]
    have : w4s j (4 * j + c) = true := by unfold w4s; simp; omega
    rw [this]
    cases bt L (4 * j + c)
    · simp
    · rfl
  rw [e1, fl_succ, fl_succ, fl_succ, fl_succ, e2]
  have := e3 0 (by omega)
  rw [Nat.add_zero] at this
  rw [this, e3 1 (by omega), e3 2 (by omega), e3 3 (by omega)]
  rfl
theorem tog_all {L : Int32} {W : Nat → Int64} {n : Nat} (h8 : n ≤ 8) : fl (togF L (allS n) W) (4 * n) 0 = fl (fun e (a : Int64) => a + oddS L W e) n 0 := by
  have key : ∀ e, e ≤ n → fl (togF L (allS n) W) (4 * e) 0 = fl (fun e (a : Int64) => a + oddS L W e) e 0 := by
    intro e
    induction e with
    | zero => intro _; rfl
    | succ e ih =>
      intro he
      have e3 : ∀ c, c < 4 → ∀ a, togF L (allS n) W (4 * e + c) a = a + (if bt L (4 * e + c) then W (4 * e + c) else 0) := fun c hc a => by
        unfold togF
        rw [allS_bt (by omega)]
        have : 4 * e + c < 4 * n := by omega
        cases bt L (4 * e + c)
        · simp
        · simp [this]
      rw [show 4 * (e + 1) = 4 * e + 0 + 1 + 1 + 1 + 1 by omega, fl_succ, fl_succ, fl_succ, fl_succ, Nat.add_zero, ih (by omega), fl_succ]
      have h0 := e3 0 (by omega)
      rw [Nat.add_zero] at h0
      rw [h0, e3 1 (by omega), e3 2 (by omega), e3 3 (by omega)]
      unfold oddS
      rw [show (4 : Nat) = 0 + 1 + 1 + 1 + 1 from rfl, fl_succ, fl_succ, fl_succ, fl_succ]
      unfold oddF
      show _ = _ + (((0 + _) + _) + _ + _)
      rw [Int64.zero_add, Int64.add_assoc, Int64.add_assoc, Int64.add_assoc, Int64.add_assoc, Int64.add_assoc]
      rfl
  exact key n (Nat.le_refl n)
def likF (X : Nat → Int64) (j : Nat) (a : Int64 × Int32) : Int64 × Int32 := if a.1 < X j then (X j, nI j) else a
theorem st_likely : St_likely Inv := by
  intro cs sm h
  obtain ⟨n, g, hI⟩ := h
  have hI' : InvN cs (oI sm 0 0) n g := hI
  obtain ⟨h8, h6, hn, -⟩ := id hI.1
  have hgu : f12_guests (oI sm 0 0) = some (nI n) := by rw [← hI.2.1.1]; rfl
  obtain ⟨q, q8, hq1, hq2, -⟩ := bk_q hI'
  obtain ⟨X, hX⟩ : ∃ X : Nat → Int64, X = oddS ((cs 10).1 0) (wtS (cs 8) (cs 10) q) := ⟨_, rfl⟩
  refine ⟨(fl (likF X) n (0, -1)).2, oI sm 0 0, ?_, ?_, n, g, hI'⟩
  · unfold f11_likely
    have hl := loop_fl (fun m j a => f1_mostLikely_8 m a.1 a.2 (nI j) (cs 8) (cs 10)) (likF X) (fun a => some a.2) n (0, -1)
      (by
        intro m
        show f1_mostLikely_8 (m + 1) _ _ (nI n) _ _ = _
        rw [f1_mostLikely_8, hn, if_pos (nI_le (Nat.le_refl _) (by omega))])
      (by
        intro m j hj
        show f1_mostLikely_8 (m + 1) _ _ (nI j) _ _ = f1_mostLikely_8 m _ _ (nI (j + 1)) _ _
        obtain ⟨a, ha⟩ : ∃ a, a = fl (likF X) j (0, -1) := ⟨_, rfl⟩
        rw [← ha]
        rw [f1_mostLikely_8, hn, if_neg (nI_ge hj (by omega))]
        simp only [f4_worldsOf, bd_s, nI_4, own_so (show j < 8 by omega)]
        rw [s1_together hI hq1 q8, bd_s, tog_own h8 hj, ← hX]
        unfold f1_mostLikely_44 likF
        simp only [lt_e, nI_1, lgc_le]
        by_cases hc : a.1 < X j
        · rw [if_neg (fun h => h hc), if_pos hc]
        · rw [if_pos hc, if_neg hc])
      FU 0 (Nat.zero_le _) (FU_lt (by omega))
    have hl' : f1_mostLikely (cs 8) (cs 10) = _ := hl
    rw [hl', bd_s]
  · unfold f12_likely
    rw [lt_e]
    refine loop_fl (fun m j a => f12_likely_12 m a.2 a.1 (nI j) (oI sm 0 0)) (likF X) (fun a => some (a.2, oI sm 0 0)) n (0, -1) ?_ ?_ FU 0 (Nat.zero_le _) (FU_lt (by omega))
    · intro m
      show f12_likely_12 (m + 1) _ _ (nI n) _ = _
      rw [f12_likely_12, hgu, bd_s, if_pos (nI_le (Nat.le_refl _) (by omega))]
    · intro m j hj
      show f12_likely_12 (m + 1) _ _ (nI j) _ = f12_likely_12 m _ _ (nI (j + 1)) _
      obtain ⟨a, ha⟩ : ∃ a, a = fl (likF X) j (0, -1) := ⟨_, rfl⟩
      rw [← ha]
      rw [f12_likely_12, hgu, bd_s, if_neg (nI_ge hj (by omega)), s12_oddsOf hI' hq2 q8 hj, bd_s, ← hX]
      unfold f12_likely_42 f12_likely_56 likF
      simp only [lt_e, nI_1, lgc_le]
      by_cases hc : a.1 < X j
      · rw [if_neg (fun h => h hc), if_neg (fun h => h hc), if_pos hc]
      · rw [if_pos hc, if_pos hc, if_neg hc]
theorem st_odds : St_odds Inv := by
  intro cs sm x1 h
  obtain ⟨n, g, hI⟩ := h
  have hI' : InvN cs (oI sm 0 0) n g := hI
  obtain ⟨h8, h6, hn, -⟩ := id hI.1
  have hgu : f12_guests (oI sm 0 0) = some (nI n) := by rw [← hI.2.1.1]; rfl
  obtain ⟨q, q8, hq1, hq2, -⟩ := bk_q hI'
  obtain ⟨X, hX⟩ : ∃ X : Nat → Int64, X = oddS ((cs 10).1 0) (wtS (cs 8) (cs 10) q) := ⟨_, rfl⟩
  have hl : f12_odds x1 sm = bd (f12_isGuest x1 (oI sm 0 0)) fun r_4 => if r_4 = 0 then (f12_odds_48 (oI sm 0 0)) else (if (lg_cmp (fl (fun e (a : Int64) => a + X e) n 0) 0) = 0 then (f12_odds_48 (oI sm 0 0)) else (bd (f12_oddsOf x1 (oI sm 0 0)) fun r_8 => ck (nzl (fl (fun e (a : Int64) => a + X e) n 0)) <| f12_odds_64 (Int64.toInt32 ((r_8 * 1000000) / (fl (fun e (a : Int64) => a + X e) n 0))) (oI sm 0 0))) := by
    unfold f12_odds
    rw [lt_e]
    refine loop_fl (fun m j a => f12_odds_10 m x1 a (nI j) (oI sm 0 0)) (fun e (a : Int64) => a + X e) (fun x2 => bd (f12_isGuest x1 (oI sm 0 0)) fun r_4 => if r_4 = 0 then (f12_odds_48 (oI sm 0 0)) else (if (lg_cmp x2 0) = 0 then (f12_odds_48 (oI sm 0 0)) else (bd (f12_oddsOf x1 (oI sm 0 0)) fun r_8 => ck (nzl x2) <| f12_odds_64 (Int64.toInt32 ((r_8 * 1000000) / x2)) (oI sm 0 0)))) n 0 ?_ ?_ FU 0 (Nat.zero_le _) (FU_lt (by omega))
    · intro m
      show f12_odds_10 (m + 1) _ _ (nI n) _ = _
      rw [f12_odds_10, hgu, bd_s, if_pos (nI_le (Nat.le_refl _) (by omega))]
    · intro m j hj
      show f12_odds_10 (m + 1) _ _ (nI j) _ = f12_odds_10 m _ _ (nI (j + 1)) _
      rw [f12_odds_10, hgu, bd_s, if_neg (nI_ge hj (by omega)), s12_oddsOf hI' hq2 q8 hj, bd_s, ← hX, lt_e, lt_e, nI_1]
  rcases guest_both hI x1 with ⟨j, hj, rfl, a1, a2⟩ | ⟨a1, a2⟩
  · obtain ⟨A, hA⟩ : ∃ A : Int64, A = fl (fun e (a : Int64) => a + X e) n 0 := ⟨_, rfl⟩
    rw [← hA, a2, bd_s, if_neg (by decide), s12_oddsOf hI' hq2 q8 hj, bd_s, ← hX] at hl
    by_cases hz : A = 0
    · refine ⟨-1, oI sm 0 0, ?_, ?_, n, g, hI'⟩
      · unfold f11_odds f1_share
        rw [a1, bd_s, if_neg (by decide), s4_all hn h8, bd_s, s1_together hI hq1 q8, bd_s, tog_all h8, ← hX, ← hA, if_pos ((lgc_eq _ _).mpr hz)]
        rfl
      · rw [hl, if_pos ((lgc_eq _ _).mpr hz)]; rfl
    · have hnz : nzl A = true := decide_eq_true hz
      refine ⟨Int64.toInt32 ((X j * 1000000) / A), oI sm 0 0, ?_, ?_, n, g, hI'⟩
      · unfold f11_odds f1_share
        rw [a1, bd_s, if_neg (by decide), s4_all hn h8, bd_s, s1_together hI hq1 q8, bd_s, tog_all h8, ← hX, ← hA, if_neg (fun h => hz ((lgc_eq _ _).mp h))]
        simp only [f4_worldsOf, bd_s, nI_4, own_so (show j < 8 by omega)]
        rw [s1_together hI hq1 q8, bd_s, tog_own h8 hj, ← hX, hnz]
        rfl
      · rw [hl, if_neg (fun h => hz ((lgc_eq _ _).mp h)), hnz]; rfl
  · refine ⟨-1, oI sm 0 0, ?_, ?_, n, g, hI'⟩
    · unfold f11_odds
      rw [a1]; rfl
    · rw [hl, a2]; rfl
