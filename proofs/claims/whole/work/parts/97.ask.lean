/-! pure: errors, ask -/
theorem inv_stays {cs : Nat → Ob} {sm : Ob} {n g : Nat} (h : InvN cs sm n g) : ∃ st : Nat → Nat, ∀ j, j < n → (cs 8).2.2.1 4 j = nI (st j) ∧ 1 ≤ st j ∧ st j ≤ 99 ∧ sm.2.2.1 10 (3 + 5 * j + 2) = nI (st j) := by
  refine ⟨fun j => vN ((cs 8).2.2.1 4 j), fun j hj => ?_⟩
  obtain ⟨v, v1, v2, v3⟩ := h.1.2.2.2.2.2.2.1 j hj
  have e : vN ((cs 8).2.2.1 4 j) = v := by rw [v3]; exact pk_tn (by omega)
  refine ⟨(nI_vN _).symm, ?_, ?_, ?_⟩
  · show 1 ≤ vN ((cs 8).2.2.1 4 j)
    omega
  · show vN ((cs 8).2.2.1 4 j) ≤ 99
    omega
  show _ = nI (vN ((cs 8).2.2.1 4 j))
  rw [nI_vN]
  exact (h.2.1.2.2.1 j hj).2.2.1
def erF (L : Int32) (st : Nat → Nat) (er : Nat) (sw : Int32) (j : Nat) (mi : Bool) (w : Nat) (a : Int64 × Int64) : Int64 × Int64 := if (bt L w && (decide (w / 4 = j) == mi)) then (a.1 + lN (st (w / 4) * (if bt sw w == mi then er else 10 - er)), a.2 + lN (st (w / 4) * 10)) else a
def erR (a : Int64 × Int64) : Int32 := if a.2 = 0 then -1 else Int64.toInt32 ((a.1 * 1000000) / a.2)
theorem w4_div {j w : Nat} : w4s j w = decide (w / 4 = j) := by
  unfold w4s
  rw [Bool.eq_iff_iff]
  simp only [Bool.and_eq_true, decide_eq_true_eq]
  omega
theorem err_c {cs : Nat → Ob} {sm : Ob} {n g j s er : Nat} {st : Nat → Nat} (h : InvN cs sm n g) (hj : j < n) (hs : s < g) (he : (cs 8).2.2.1 10 s = nI er) (he10 : er ≤ 10) (hst : ∀ j, j < n → (cs 8).2.2.1 4 j = nI (st j) ∧ st j ≤ 99) (L : Int32) (mi : Bool) : f1_wrongly L (nI j) (nI s) (if mi then 1 else 0) (cs 8) = some (erR (fl (erF L st er ((cs 8).2.2.1 11 s) j mi) (4 * n) (0, 0))) := by
  have h8 := h.1.1
  have h6 := h.1.2.1
  have hn := h.1.2.2.1
  obtain ⟨x, hx⟩ : ∃ x, x = L &&& (if mi then so (w4s j) else so (w4s j) ^^^ (-1)) := ⟨_, rfl⟩
  have hb : ∀ w, w < 32 → bt x w = (bt L w && (decide (w / 4 = j) == mi)) := fun w hw => by
    rw [hx, b_and, ← w4_div]
    cases mi
    · rw [if_neg (by decide), b_not _ hw, so_bt _ hw]; cases w4s j w <;> rfl
    · rw [if_pos rfl, so_bt _ hw]; cases w4s j w <;> rfl
  have hstart : f1_wrongly L (nI j) (nI s) (if mi then 1 else 0) (cs 8) = f1_wrongly_33 FU (nI s) (if mi then 1 else 0) x 0 0 0 (cs 8) := by
    unfold f1_wrongly f1_wrongly_21
    simp only [f4_worldsOf, bd_s, nI_4, own_so (show j < 8 by omega), lt_e, ib_0]
    rw [hx]
    cases mi <;> rfl
  rw [hstart]
  refine loop_fl (fun m w a => f1_wrongly_33 m (nI s) (if mi then 1 else 0) x a.1 a.2 (nI w) (cs 8)) (erF L st er ((cs 8).2.2.1 11 s) j mi) (fun a => some (erR a)) (4 * n) (0, 0) ?_ ?_ FU 0 (Nat.zero_le _) (FU_lt (by omega))
  · intro m
    show f1_wrongly_33 (m + 1) _ _ _ _ _ (nI (4 * n)) _ = _
    rw [f1_wrongly_33, hn, nI_4, if_pos (nI_le (Nat.le_refl _) (by omega))]
    unfold f1_wrongly_160 erR
    obtain ⟨a, ha⟩ : ∃ a, a = fl (erF L st er ((cs 8).2.2.1 11 s) j mi) (4 * n) (0, 0) := ⟨_, rfl⟩
    rw [← ha]
    simp only [lgc_eq]
    by_cases hz : a.2 = 0
    · rw [if_pos hz, if_pos hz]
    · rw [if_neg hz, if_neg hz, show nzl a.2 = true from decide_eq_true hz, ck_t]
  · intro m w hw
    show f1_wrongly_33 (m + 1) _ _ _ _ _ (nI w) _ = f1_wrongly_33 m _ _ _ _ _ (nI (w + 1)) _
    obtain ⟨a, ha⟩ : ∃ a, a = fl (erF L st er ((cs 8).2.2.1 11 s) j mi) w (0, 0) := ⟨_, rfl⟩
    rw [← ha]
    have hd := hst (w / 4) (by omega)
    rw [f1_wrongly_33, hn, nI_4, if_neg (nI_ge hw (by omega)), bit_u (by omega), hb w (by omega), inb_nI (by omega) (by omega), ck_t, nI_clamp (by omega), bit_u (by omega), sh_bt h (by omega) hs]
    unfold f1_wrongly_75 f1_wrongly_117 f1_wrongly_133 erF
    rw [show (4 : Int32) = nI 4 from rfl, pk_div (by omega) (by omega) (by omega), show nz (nI 4) = true from rfl, inb_nI (show w / 4 < 8 by omega) (by omega), inb_nI (show s < 6 by omega) (by omega)]
    have e10 : (10 : Int32) - nI er = nI (10 - er) := by rw [show (10 : Int32) = nI 10 from rfl, pk_sub he10]
    have hp1 : st (w / 4) * er ≤ 99 * 10 := Nat.mul_le_mul hd.2 he10
    have hp2 : st (w / 4) * (10 - er) ≤ 99 * 10 := Nat.mul_le_mul hd.2 (by omega)
    have t10 : (nI (st (w / 4)) * 10).toInt64 = lN (st (w / 4) * 10) := by rw [show (10 : Int32) = nI 10 from rfl, pk_mul, nI_l (by omega)]
    simp only [lt_e, nI_1, ck_t, ib_1, nI_clamp (show w / 4 < 2 ^ 31 by omega), nI_clamp (show s < 2 ^ 31 by omega), hd.1, he, e10, t10, pk_mul, nI_l (show st (w / 4) * er < 2 ^ 31 by omega), nI_l (show st (w / 4) * (10 - er) < 2 ^ 31 by omega)]
    cases (bt L w && (decide (w / 4 = j) == mi))
    · rfl
    · cases bt ((cs 8).2.2.1 11 s) w <;> cases mi <;> rfl
theorem err_m {cs : Nat → Ob} {sm : Ob} {n g j s er : Nat} {st : Nat → Nat} (h : InvN cs sm n g) (hj : j < n) (hs : s < g) (he : (cs 8).2.2.1 10 s = nI er) (he10 : er ≤ 10) (hst : ∀ j, j < n → sm.2.2.1 10 (3 + 5 * j + 2) = nI (st j) ∧ st j ≤ 99) (mi : Bool) : f12_errors_47 FU (nI j) (nI s) (if mi then 1 else 0) 0 0 0 sm = some (erR (fl (erF ((cs 10).1 0) st er ((cs 8).2.2.1 11 s) j mi) (4 * n) (0, 0)), sm) := by
  have h8 := h.1.1
  have h6 := h.1.2.1
  have hn := h.2.1.1
  obtain ⟨L, hL⟩ : ∃ L, L = (cs 10).1 0 := ⟨_, rfl⟩
  have h0 : sm.2.2.1 25 0 = L := by rw [hL]; exact h.2.2.1.1
  rw [← hL]
  refine loop_fl (fun m w a => f12_errors_47 m (nI j) (nI s) (if mi then 1 else 0) a.1 a.2 (nI w) sm) (erF L st er ((cs 8).2.2.1 11 s) j mi) (fun a => some (erR a, sm)) (4 * n) (0, 0) ?_ ?_ FU 0 (Nat.zero_le _) (FU_lt (by omega))
  · intro m
    show f12_errors_47 (m + 1) _ _ _ _ _ (nI (4 * n)) _ = _
    rw [f12_errors_47, s12_worlds hn, bd_s, if_pos (nI_le (Nat.le_refl _) (by omega))]
    unfold f12_errors_205 erR
    obtain ⟨a, ha⟩ : ∃ a, a = fl (erF L st er ((cs 8).2.2.1 11 s) j mi) (4 * n) (0, 0) := ⟨_, rfl⟩
    rw [← ha]
    simp only [lgc_eq]
    by_cases hz : a.2 = 0
    · rw [if_pos hz, if_pos hz]
    · rw [if_neg hz, if_neg hz, show nzl a.2 = true from decide_eq_true hz, ck_t]
  · intro m w hw
    show f12_errors_47 (m + 1) _ _ _ _ _ (nI w) _ = f12_errors_47 m _ _ _ _ _ (nI (w + 1)) _
    obtain ⟨a, ha⟩ : ∃ a, a = fl (erF L st er ((cs 8).2.2.1 11 s) j mi) w (0, 0) := ⟨_, rfl⟩
    rw [← ha]
    have hd := hst (w / 4) (by omega)
    have g2 : f12_guestOf (nI (w / 4)) 2 sm = some (nI (st (w / 4))) := by
      rw [← hd.1]; exact s12_guestOf (k := 2) (by omega) (by omega)
    rw [f12_errors_47, s12_worlds hn, bd_s, if_neg (nI_ge hw (by omega))]
    show ck true (bd (f12_isIn (sm.2.2.1 25 0) (nI w)) _) = _
    rw [ck_t, h0, s12_isIn (by omega), bd_s]
    unfold f12_errors_83 f12_errors_93 f12_errors_126 f12_errors_154 f12_errors_178 erF
    have e10 : (10 : Int32) - nI er = nI (10 - er) := by rw [show (10 : Int32) = nI 10 from rfl, pk_sub he10]
    have e10' : (10 : Int32) - nI (10 - er) = nI er := by rw [show (10 : Int32) = nI 10 from rfl, pk_sub (by omega), show 10 - (10 - er) = er by omega]
    have t10 : (10 : Int64) * lN (st (w / 4)) = lN (st (w / 4) * 10) := by rw [show (10 : Int64) = lN 10 from rfl, lN_mul, Nat.mul_comm]
    rw [show (4 : Int32) = nI 4 from rfl, pk_div (by omega) (by omega) (by omega), show nz (nI 4) = true from rfl, inb_nI (show s < 6 by omega) (by omega)]
    have hq : nI (w / 4) = nI j ↔ w / 4 = j := nI_eq (by omega) (by omega)
    have hes : f12_errsOf (nI s) sm = some (nI er) := by
      rw [s12_errsOf (by omega), h.2.1.2.2.2.1 s hs, he]
    simp only [lt_e, nI_1, ck_t, ib_0, g2, bd_s, hes, nI_clamp (show s < 2 ^ 31 by omega), h.2.1.2.2.2.2.1 s hs, s12_isIn (show w < 32 by omega), e10, e10', nI_l (show st (w / 4) < 2 ^ 31 by omega), nI_l (show er < 2 ^ 31 by omega), nI_l (show 10 - er < 2 ^ 31 by omega), lN_mul, t10, hq]
    cases hb : bt L w
    · rfl
    · by_cases hd : w / 4 = j
      · cases bt ((cs 8).2.2.1 11 s) w <;> cases mi <;> simp [hd]
      · cases bt ((cs 8).2.2.1 11 s) w <;> cases mi <;> simp [hd]
theorem st_errors : St_errors Inv := by
  intro cs sm x1 x2 x3 h
  obtain ⟨n, g, hI⟩ := h
  have hI' : InvN cs (oI sm 0 0) n g := hI
  obtain ⟨h8, h6, hn, -, -, -, -, -, -, hers, -⟩ := id hI.1
  obtain ⟨st, hst⟩ := inv_stays hI'
  obtain ⟨hsg, hsb⟩ := sign_both hI x2
  rcases guest_both hI x1 with ⟨j, hj, rfl, a1, a2⟩ | ⟨a1, a2⟩
  · rcases hsb with ⟨s, hs, rfl, b1, b2⟩ | ⟨b1, b2⟩
    · obtain ⟨er, er1, er2⟩ := hers s hs
      have fin : ∀ mi : Bool, ∃ (r : Int32) (sm1 : Ob), f11_errors (nI j) (nI s) (if mi then 1 else 0) (cs 0) (cs 8) (cs 10) = some r ∧ f12_errors (nI j) (nI s) (if mi then 1 else 0) sm = some (r, sm1) ∧ Inv cs sm1 := by
        intro mi
        have ec := err_c hI hj hs er2 er1 (fun j hj => ⟨(hst j hj).1, (hst j hj).2.2.1⟩) ((cs 10).1 0) mi
        have em := err_m hI' hj hs er2 er1 (fun j hj => ⟨(hst j hj).2.2.2, (hst j hj).2.2.1⟩) mi
        refine ⟨erR (fl (erF ((cs 10).1 0) st er ((cs 8).2.2.1 11 s) j mi) (4 * n) (0, 0)), oI sm 0 0, ?_, ?_, n, g, hI'⟩
        · unfold f11_errors f11_errors_56
          rw [a1, bd_s, if_neg (by decide), b1, bd_s, if_neg (by decide)]
          cases mi
          · have ec' : f1_wrongly ((cs 10).1 0) (nI j) (nI s) 0 (cs 8) = _ := ec
            rw [ec']
            rfl
          · have ec' : f1_wrongly ((cs 10).1 0) (nI j) (nI s) 1 (cs 8) = _ := ec
            rw [ec']
            rfl
        · unfold f12_errors
          rw [lt_e, a2, bd_s, if_neg (by decide), hsg, bd_s, b2, bd_s, if_neg (by decide), s12_withinL_yes (by cases mi <;> decide) (by cases mi <;> decide), bd_s, if_neg (by decide)]
          exact em
      rcases pk_ix x3 (n := 2) (by omega) with hx | hx | ⟨k, hk, rfl⟩
      · refine ⟨-1, oI sm 0 0, ?_, ?_, n, g, hI'⟩
        · unfold f11_errors
          rw [a1, bd_s, if_neg (by decide), b1, bd_s, if_neg (by decide), if_pos hx]; rfl
        · unfold f12_errors
          rw [lt_e, a2, bd_s, if_neg (by decide), hsg, bd_s, b2, bd_s, if_neg (by decide), s12_withinL_no (Or.inl hx)]; rfl
      · have hx0 : ¬ x3 < 0 := by
          rw [Int32.le_iff_toInt_le] at hx
          rw [Int32.lt_iff_toInt_lt]
          have : (nI 2).toInt = 2 := by decide
          have : (0 : Int32).toInt = 0 := by decide
          omega
        have hx1 : ¬ x3 ≤ 1 := by
          rw [Int32.le_iff_toInt_le] at hx ⊢
          have : (nI 2).toInt = 2 := by decide
          have : (1 : Int32).toInt = 1 := by decide
          omega
        refine ⟨-1, oI sm 0 0, ?_, ?_, n, g, hI'⟩
        · unfold f11_errors
          rw [a1, bd_s, if_neg (by decide), b1, bd_s, if_neg (by decide), if_neg hx0, if_neg hx1]; rfl
        · unfold f12_errors
          rw [lt_e, a2, bd_s, if_neg (by decide), hsg, bd_s, b2, bd_s, if_neg (by decide), s12_withinL_no (Or.inr (by
            rw [Int32.le_iff_toInt_le] at hx1
            rw [Int32.lt_iff_toInt_lt]
            omega))]; rfl
      · have : k = 0 ∨ k = 1 := by omega
        rcases this with rfl | rfl
        · exact fin false
        · exact fin true
    · refine ⟨-1, oI sm 0 0, ?_, ?_, n, g, hI'⟩
      · unfold f11_errors
        rw [a1, bd_s, if_neg (by decide), b1]; rfl
      · unfold f12_errors
        rw [lt_e, a2, bd_s, if_neg (by decide), hsg, bd_s, b2]; rfl
  · refine ⟨-1, oI sm 0 0, ?_, ?_, n, g, hI'⟩
    · unfold f11_errors
      rw [a1]; rfl
    · unfold f12_errors
      rw [lt_e, a2]; rfl
/-- how many can be the one behind an answer -/
def ansN (n : Nat) (L : Int32) (kd : Nat → Nat) (y : Int32) (j a : Nat) : Nat := cnt (whoS n (L &&& sayS n (kd j) j (soX y a)))
def mstN (n : Nat) (L : Int32) (kd : Nat → Nat) (j a : Nat) : Nat := if ansN n L kd 1 j a < ansN n L kd 0 j a then ansN n L kd 0 j a else ansN n L kd 1 j a
def askG (n : Nat) (L : Int32) (kd : Nat → Nat) (k : Nat) (a : Nat × Int32) : Nat × Int32 := if k / 8 < n ∧ k % 8 < n ∧ mstN n L kd (k / 8) (k % 8) < a.1 then (mstN n L kd (k / 8) (k % 8), nI k) else a
theorem ans_le (n : Nat) (L : Int32) (kd : Nat → Nat) (y : Int32) (j a : Nat) : ansN n L kd y j a ≤ 32 := cnt_le _
theorem mst_le (n : Nat) (L : Int32) (kd : Nat → Nat) (j a : Nat) : mstN n L kd j a ≤ 32 := by
  unfold mstN
  split
  · exact ans_le _ _ _ _ _ _
  · exact ans_le _ _ _ _ _ _
theorem ask_le {n : Nat} {L : Int32} {kd : Nat → Nat} {a0 : Nat × Int32} (h0 : a0.1 ≤ 32) : ∀ k, (fl (askG n L kd) k a0).1 ≤ 32
  | 0 => h0
  | k + 1 => by
    rw [fl_succ]
    unfold askG
    split
    · exact mst_le _ _ _ _ _
    · exact ask_le h0 k
theorem inv_kinds {cs : Nat → Ob} {sm : Ob} {n g : Nat} (h : InvN cs sm n g) : ∃ kd : Nat → Nat, ∀ j, j < n → (cs 8).2.2.1 2 j = nI (kd j) ∧ kd j < 4 ∧ sm.2.2.1 10 (3 + 5 * j) = nI (kd j) := by
  refine ⟨fun j => vN ((cs 8).2.2.1 2 j), fun j hj => ?_⟩
  obtain ⟨v, v1, v2⟩ := h.1.2.2.2.2.1 j hj
  have e : vN ((cs 8).2.2.1 2 j) = v := by rw [v2]; exact pk_tn (by omega)
  refine ⟨(nI_vN _).symm, ?_, ?_⟩
  · show vN ((cs 8).2.2.1 2 j) < 4
    omega
  show _ = nI (vN ((cs 8).2.2.1 2 j))
  rw [nI_vN]
  exact (h.2.1.2.2.1 j hj).1
theorem soX_1 (a : Nat) : soX 1 a = so (w4s a) := by
  unfold soX; rw [if_neg (by decide)]
theorem soX_0 (a : Nat) : soX 0 a = so (w4s a) ^^^ (-1) := by
  unfold soX; rw [if_pos rfl]
theorem s4_worldsOf {SI : Ob} {j : Nat} (hj : j < 8) : f4_worldsOf (nI j) SI = some (so (w4s j)) := by
  unfold f4_worldsOf; rw [nI_4, own_so hj]
theorem ask_ci {cs : Nat → Ob} {sm : Ob} {n g j : Nat} {kd : Nat → Nat} (h : InvN cs sm n g) (hk : ∀ j, j < n → (cs 8).2.2.1 2 j = nI (kd j) ∧ kd j < 4) (L : Int32) (a0 : Nat × Int32) (h0 : a0.1 ≤ 32) (hj : j < n) (K : Int32 → Int32 → Int32 → Int32 → Ob → Option Int32) : f8_best_26 K FU L (nI (fl (askG n L kd) (8 * j) a0).1) (fl (askG n L kd) (8 * j) a0).2 (nI j) 0 (cs 8) = K L (nI (fl (askG n L kd) (8 * (j + 1)) a0).1) (fl (askG n L kd) (8 * (j + 1)) a0).2 (nI (j + 1)) (cs 8) := by
  have h8 := h.1.1
  have hn := h.1.2.2.1
  obtain ⟨b, hb, e⟩ := loop_to (fun m i (a : Nat × Int32) => f8_best_26 K m L (nI a.1) a.2 (nI j) (nI i) (cs 8)) (fun i a => a = fl (askG n L kd) (8 * j + i) a0) (fun a => K L (nI a.1) a.2 (nI (j + 1)) (cs 8)) n
    (by
      intro m a _
      show f8_best_26 _ (m + 1) _ _ _ _ (nI n) _ = _
      rw [f8_best_26, hn, if_pos (nI_le (Nat.le_refl n) (by omega)), lt_e, nI_1])
    (by
      intro m i a hi ha
      have hle : a.1 ≤ 32 := by rw [ha]; exact ask_le h0 _
      refine ⟨askG n L kd (8 * j + i) a, by rw [ha, ← Nat.add_assoc, fl_succ], ?_⟩
      show f8_best_26 _ (m + 1) _ _ _ _ (nI i) _ = f8_best_26 _ m _ _ _ _ (nI (i + 1)) _
      rw [f8_best_26, hn, if_neg (nI_ge hi (by omega))]
      rw [s4_worldsOf (show i < 8 by omega), bd_s, s4_sayable _ hn h8 hj (hk j hj).1 (hk j hj).2, bd_s, s4_guestsIn _ hn h8, bd_s, sj_bitCount, bd_s, s4_sayable _ hn h8 hj (hk j hj).1 (hk j hj).2, bd_s, s4_guestsIn _ hn h8, bd_s, sj_bitCount, bd_s]
      have e1 : cnt (whoS n (L &&& sayS n (kd j) j (so (w4s i)))) = ansN n L kd 1 j i := by unfold ansN; rw [soX_1]
      have e0 : cnt (whoS n (L &&& sayS n (kd j) j (so (w4s i) ^^^ (-1)))) = ansN n L kd 0 j i := by unfold ansN; rw [soX_0]
      have l1 := ans_le n L kd 1 j i
      have l0 := ans_le n L kd 0 j i
      have lm := mst_le n L kd j i
      rw [e1, e0]
      have em : (if nI (ansN n L kd 1 j i) < nI (ansN n L kd 0 j i) then nI (ansN n L kd 0 j i) else nI (ansN n L kd 1 j i)) = nI (mstN n L kd j i) := by
        unfold mstN
        by_cases hc : ansN n L kd 1 j i < ansN n L kd 0 j i
        · rw [if_pos (nI_lt hc (by omega)), if_pos hc]
        · rw [if_neg (nI_nlt (by omega) (by omega)), if_neg hc]
      rw [lt_e, em, show nI j * 8 + nI i = nI (8 * j + i) from (by rw [show (8 : Int32) = nI 8 from rfl, pk_mul, nI_add, Nat.mul_comm])]
      unfold f8_best_110 askG
      simp only [lt_e, nI_1]
      rw [show (8 * j + i) / 8 = j by omega, show (8 * j + i) % 8 = i by omega]
      by_cases hc : mstN n L kd j i < a.1
      · rw [if_neg (nI_ge hc (by omega)), if_pos ⟨hj, hi, hc⟩]
      · rw [if_pos (nI_le (by omega) (by omega)), if_neg (fun hh => hc hh.2.2)])
    FU 0 (fl (askG n L kd) (8 * j) a0) (Nat.zero_le _) (FU_lt (by omega)) (by rw [Nat.add_zero])
  have hs := fl_skip (f := askG n L kd) (a0 := a0) (lo := 8 * j + n) (8 - n) (fun k a h1 h2 => by
    unfold askG
    rw [if_neg (fun hh => by omega)])
  rw [show 8 * j + n + (8 - n) = 8 * (j + 1) by omega] at hs
  rw [hs, ← hb]
  exact e
theorem ask_c {cs : Nat → Ob} {sm : Ob} {n g : Nat} {kd : Nat → Nat} (h : InvN cs sm n g) (hk : ∀ j, j < n → (cs 8).2.2.1 2 j = nI (kd j) ∧ kd j < 4) (L : Int32) : f8_best L (cs 8) = some (fl (askG n L kd) 64 (cnt (whoS n L), -1)).2 := by
  have h8 := h.1.1
  have hn := h.1.2.2.1
  have h0 : (cnt (whoS n L), (-1 : Int32)).1 ≤ 32 := cnt_le _
  have hs := fl_skip (f := askG n L kd) (a0 := (cnt (whoS n L), (-1 : Int32))) (lo := 8 * n) (64 - 8 * n) (fun k a h1 h2 => by
    unfold askG
    rw [if_neg (fun hh => by omega)])
  rw [show 8 * n + (64 - 8 * n) = 64 by omega] at hs
  rw [hs]
  have key : ∀ m j, j ≤ n → n - j < m → f8_best_14 m L (nI (fl (askG n L kd) (8 * j) (cnt (whoS n L), -1)).1) (fl (askG n L kd) (8 * j) (cnt (whoS n L), -1)).2 (nI j) (cs 8) = some (fl (askG n L kd) (8 * n) (cnt (whoS n L), -1)).2 := by
    intro m
    induction m with
    | zero => intro j h1 h2; omega
    | succ m ih =>
      intro j h1 h2
      rw [f8_best_14, hn]
      by_cases hj : j = n
      · subst hj
        rw [if_pos (nI_le (Nat.le_refl _) (by omega))]
      · rw [if_neg (nI_ge (by omega) (by omega)), ask_ci h hk L _ h0 (by omega)]
        exact ih (j + 1) (by omega) (by omega)
  unfold f8_best
  rw [s4_guestsIn _ hn h8, bd_s, sj_bitCount, bd_s]
  exact key FU 0 (Nat.zero_le _) (FU_lt (by omega))
theorem ask_m {cs : Nat → Ob} {sm : Ob} {n g : Nat} {kd : Nat → Nat} (h : InvN cs sm n g) (hk : ∀ j, j < n → sm.2.2.1 10 (3 + 5 * j) = nI (kd j) ∧ kd j < 4) (a0 : Nat × Int32) (h0 : a0.1 ≤ 32) : f12_ask_23 FU a0.2 (nI a0.1) 0 sm = some ((fl (askG n ((cs 10).1 0) kd) 64 a0).2, sm) := by
  have h8 := h.1.1
  have hn := h.2.1.1
  obtain ⟨L, hL⟩ : ∃ L, L = (cs 10).1 0 := ⟨_, rfl⟩
  have hl0 : sm.2.2.1 25 0 = L := by rw [hL]; exact h.2.2.1.1
  rw [← hL]
  refine loop_fl (fun m k (a : Nat × Int32) => f12_ask_23 m a.2 (nI a.1) (nI k) sm) (askG n L kd) (fun a => some (a.2, sm)) 64 a0 ?_ ?_ FU 0 (Nat.zero_le _) (FU_lt (by omega))
  · intro m
    show f12_ask_23 (m + 1) _ _ (nI 64) _ = _
    rw [f12_ask_23, if_pos (by decide)]
  · intro m k hk64
    show f12_ask_23 (m + 1) _ _ (nI k) _ = f12_ask_23 m _ _ (nI (k + 1)) _
    have hle : (fl (askG n L kd) k a0).1 ≤ 32 := ask_le h0 k
    obtain ⟨a, ha⟩ : ∃ a, a = fl (askG n L kd) k a0 := ⟨_, rfl⟩
    rw [← ha] at hle ⊢
    rw [f12_ask_23, if_neg (show ¬ (64 : Int32) ≤ nI k from nI_ge (b := 64) hk64 (by omega)), show (8 : Int32) = nI 8 from rfl, pk_rem (by omega) (by omega) (by omega), pk_div (by omega) (by omega) (by omega), show nz (nI 8) = true from rfl, ck_t]
    unfold askG
    by_cases hj : k / 8 < n
    · rw [s12_isGuest_yes hn hj h8, bd_s, if_neg (by decide), ck_t]
      by_cases hi : k % 8 < n
      · rw [s12_isGuest_yes hn hi h8, bd_s, if_neg (by decide)]
        show ck true (ck true (ck true (bd (f12_answerIn (nI (k / 8)) (nI (k % 8)) 1 sm) _))) = _
        rw [ck_t, ck_t, ck_t, s12_answerIn 1 hn h8 hj hi (hk _ hj).1 (hk _ hj).2, bd_s]
        show bd (f12_whoIn (sm.2.2.1 25 0 &&& _) sm) _ = _
        rw [hl0, s12_whoIn _ hn h8, bd_s, s12_bits, bd_s]
        show ck true (ck true (ck true (bd (f12_answerIn (nI (k / 8)) (nI (k % 8)) 0 sm) _))) = _
        rw [ck_t, ck_t, ck_t, s12_answerIn 0 hn h8 hj hi (hk _ hj).1 (hk _ hj).2, bd_s]
        show bd (f12_whoIn (sm.2.2.1 25 0 &&& _) sm) _ = _
        rw [hl0, s12_whoIn _ hn h8, bd_s, s12_bits, bd_s]
        have e1 : cnt (whoS n (L &&& sayS n (kd (k / 8)) (k / 8) (soX 1 (k % 8)))) = ansN n L kd 1 (k / 8) (k % 8) := rfl
        have e0 : cnt (whoS n (L &&& sayS n (kd (k / 8)) (k / 8) (soX 0 (k % 8)))) = ansN n L kd 0 (k / 8) (k % 8) := rfl
        rw [e1, e0]
        have l1 := ans_le n L kd 1 (k / 8) (k % 8)
        have l0 := ans_le n L kd 0 (k / 8) (k % 8)
        have lm := mst_le n L kd (k / 8) (k % 8)
        have e123 : ∀ z, z ≤ 32 → f12_ask_123 (f12_ask_23 m) a.2 (nI a.1) (nI k) (nI z) sm = f12_ask_23 m (if z < a.1 then (z, nI k) else a).2 (nI (if z < a.1 then (z, nI k) else a).1) (nI (k + 1)) sm := by
          intro z hz
          unfold f12_ask_123 f12_ask_136 f12_ask_149 f12_ask_150
          simp only [lt_e, nI_1]
          by_cases hc : z < a.1
          · rw [if_neg (nI_ge hc (by omega)), if_neg (nI_ge hc (by omega)), if_pos hc]
          · rw [if_pos (nI_le (by omega) (by omega)), if_pos (nI_le (by omega) (by omega)), if_neg hc]
        have hm : (if nI (ansN n L kd 1 (k / 8) (k % 8)) ≤ nI (ansN n L kd 0 (k / 8) (k % 8)) then f12_ask_123 (f12_ask_23 m) a.2 (nI a.1) (nI k) (nI (ansN n L kd 0 (k / 8) (k % 8))) sm else f12_ask_123 (f12_ask_23 m) a.2 (nI a.1) (nI k) (nI (ansN n L kd 1 (k / 8) (k % 8))) sm) = f12_ask_123 (f12_ask_23 m) a.2 (nI a.1) (nI k) (nI (mstN n L kd (k / 8) (k % 8))) sm := by
          unfold mstN
          by_cases hc : ansN n L kd 1 (k / 8) (k % 8) < ansN n L kd 0 (k / 8) (k % 8)
          · rw [if_pos (nI_le (by omega) (by omega)), if_pos hc]
          · by_cases hc2 : ansN n L kd 1 (k / 8) (k % 8) = ansN n L kd 0 (k / 8) (k % 8)
            · rw [if_pos (nI_le (by omega) (by omega)), if_neg hc, hc2]
            · rw [if_neg (nI_ge (by omega) (by omega)), if_neg hc]
        rw [hm, e123 _ lm]
        by_cases hc : mstN n L kd (k / 8) (k % 8) < a.1
        · rw [if_pos hc, if_pos ⟨hj, hi, hc⟩]
        · rw [if_neg hc, if_neg (fun hh => hc hh.2.2)]
      · rw [s12_isGuest_no hn (Or.inr (nI_le (by omega) (by omega))), bd_s, if_pos rfl, if_neg (fun hh => hi hh.2.1)]
        unfold f12_ask_150
        rw [lt_e, nI_1]
    · rw [s12_isGuest_no hn (Or.inr (nI_le (by omega) (by omega))), bd_s, if_pos rfl, if_neg (fun hh => hj hh.1)]
      unfold f12_ask_150
      rw [lt_e, nI_1]
theorem st_ask : St_ask Inv := by
  intro cs sm h
  obtain ⟨n, g, hI⟩ := h
  have hI' : InvN cs (oI sm 0 0) n g := hI
  obtain ⟨h8, h6, hn, -⟩ := id hI.1
  have hn' : (oI sm 0 0).2.2.1 10 0 = nI n := hI.2.1.1
  obtain ⟨kd, hkd⟩ := inv_kinds hI'
  obtain ⟨l1, l2⟩ := inv_left hI
  refine ⟨(fl (askG n ((cs 10).1 0) kd) 64 (cnt (whoS n ((cs 10).1 0)), -1)).2, oI sm 0 0, ?_, ?_, n, g, hI'⟩
  · unfold f11_ask
    rw [ask_c hI (fun j hj => ⟨(hkd j hj).1, (hkd j hj).2.1⟩), bd_s]
  · unfold f12_ask
    rw [lt_e, l1, s12_whoIn _ hn' h8, bd_s, s12_bits, bd_s]
    exact ask_m hI' (fun j hj => ⟨(hkd j hj).2.2, (hkd j hj).2.1⟩) (cnt (whoS n ((cs 10).1 0)), -1) (cnt_le _)
