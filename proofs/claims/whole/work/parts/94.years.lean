/-! pure: years -/
def nxt (m : Nat) : Nat := (m * 1103515245 + 12345) % 2147483648
theorem nxt_lt (m : Nat) : nxt m < 2147483648 := Nat.mod_lt _ (by omega)
theorem nxt_l {m : Nat} (hm : m < 2147483648) : ((lN m * 1103515245) + 12345) - ((lN m * 1103515245) + 12345) / 2147483648 * 2147483648 = lN (nxt m) := by
  rw [show (1103515245 : Int64) = lN 1103515245 from rfl, show (12345 : Int64) = lN 12345 from rfl, show (2147483648 : Int64) = lN 2147483648 from rfl, lN_mul, lN_add, pk_lRem (by omega) (by omega) (by omega)]
  rfl
theorem bel_l {m b : Nat} (hm : m < 2147483648) (h0 : 0 < b) (hb : b < 2 ^ 31) : Int64.toInt32 ((lN m / 65536) - (lN m / 65536) / (nI b).toInt64 * (nI b).toInt64) = nI (m / 65536 % b) := by
  rw [show (65536 : Int64) = lN 65536 from rfl, pk_lDiv (by omega) (by omega) (by omega), nI_l hb, pk_lRem (by omega) (by omega) (by omega), lN_i]
theorem nzl_lN {b : Nat} (h0 : 0 < b) (hb : b < 2 ^ 31) : nzl ((nI b).toInt64) = true := by
  rw [nI_l hb]
  exact decide_eq_true (fun h => by
    have : lN b = lN 0 := h
    rw [lN_eq (by omega) (by omega)] at this; omega)
theorem oL_at (S : Ob) (k : Nat) (v : Int64) : (oL S k v).2.1 k = v := by unfold oL va_up; simp
theorem s6_next {m a : Nat} (hm : m < 2147483648) (ha : a = nxt m) : f6_next (lN m) = some (lN a) := by
  unfold f6_next
  rw [nxt_l hm, ck_p (by decide), ha]
theorem s6_below {m b : Nat} (hm : m < 2147483648) (h0 : 0 < b) (hb : b < 2 ^ 31) : f6_below (lN m) (nI b) = some (nI (m / 65536 % b)) := by
  unfold f6_below f6_below_17
  rw [if_pos (show (0 : Int32) < nI b from nI_lt (a := 0) h0 hb), nzl_lN h0 hb, bel_l hm h0 hb, ck_p (by decide), ck_t]
theorem s12_draw {SM : Ob} {m a b : Nat} (hm : m < 2147483648) (ha : a = nxt m) (hg : SM.2.1 38 = lN m) (h0 : 0 < b) (hb : b < 2 ^ 31) : f12_draw (nI b) SM = some (nI (a / 65536 % b), oL SM 38 (lN a)) := by
  have hal : a < 2147483648 := by rw [ha]; exact nxt_lt m
  unfold f12_draw
  rw [hg, nxt_l hm, ← ha, ck_p (by decide), lt_e, ck_p (by decide), nzl_lN h0 hb, ck_t, oL_at, bel_l hal h0 hb]
/-- who is drawn -/
theorem drawn_both {SI SM : Ob} {st : Nat → Nat} {n : Nat} (hn : SI.1 0 = nI n) (h8 : n ≤ 8) (h1 : ∀ j, j < n → SI.2.2.1 4 j = nI (st j)) (h2 : ∀ j, j < n → SM.2.2.1 10 (3 + 5 * j + 2) = nI (st j)) (hst : ∀ j, j < n → st j ≤ 99) : ∀ d j rest m1 m2, j + d = n → d < m1 → d < m2 → rest < 2 ^ 30 → rest + fb_sm st j < fb_sm st n → ∃ o, o < n ∧ f6_drawnGuest_4 m1 (nI rest) (nI j) SI = some (nI o) ∧ f12_drawsOne_35 m2 (nI rest) (nI j) SM = some (nI o, SM) := by
  intro d
  induction d with
  | zero =>
    intro j rest m1 m2 hj _ _ _ hr
    have : j = n := by omega
    subst this
    omega
  | succ d ih =>
    intro j rest m1 m2 hj hm1 hm2 hrr hr
    obtain ⟨m1, rfl⟩ : ∃ k, m1 = k + 1 := ⟨m1 - 1, by omega⟩
    obtain ⟨m2, rfl⟩ : ∃ k, m2 = k + 1 := ⟨m2 - 1, by omega⟩
    have hs := hst j (by omega)
    have g2 : f12_guestOf (nI j) 2 SM = some (nI (st j)) := by
      rw [← h2 j (by omega)]; exact s12_guestOf (k := 2) (by omega) (by omega)
    rw [f6_drawnGuest_4, hn, if_neg (nI_ge (by omega) (by omega)), inb_nI (by omega) (by omega), ck_t, ck_t, nI_clamp (by omega), h1 j (by omega), lt_e, lt_e, f12_drawsOne_35, g2, bd_s, bd_s, lt_e, lt_e]
    by_cases h : rest < st j
    · refine ⟨j, by omega, ?_, ?_⟩
      · rw [if_neg (nI_ge h (by omega))]
      · rw [if_pos (nI_lt h (by omega))]
    · rw [if_pos (nI_le (by omega) (by omega)), if_neg (nI_nlt (by omega) (by omega)), pk_sub (by omega), nI_1]
      exact ih (j + 1) (rest - st j) m1 m2 (by omega) (by omega) (by omega) (by omega) (by rw [fb_sm_succ]; omega)
theorem s12_likeIn {SM : Ob} {sh : Nat → Nat} {n w sg : Nat} (hn : SM.2.2.1 10 0 = nI n) (h8 : n ≤ 8) (hs : ShM SM sh) (hw : w < 32) : f12_likeIn (nI w) (nI sg) SM = some (whoS n (vw n sh sg (allS n) w)) := by
  have e : vw n sh sg (allS n) w = fl (fun k (a : Int32) => if (bt (allS n) k && decide (sh k &&& sg = sh w &&& sg)) then a ||| (1 <<< (nI k &&& 31)) else a) (4 * n) 0 := (fl_so _ (by omega)).symm
  rw [e]
  refine loop_fl (fun m k a => f12_likeIn_5 m (nI w) (nI sg) a (nI k) SM) (fun k (a : Int32) => if (bt (allS n) k && decide (sh k &&& sg = sh w &&& sg)) then a ||| (1 <<< (nI k &&& 31)) else a) (fun a => some (whoS n a)) (4 * n) 0 ?_ ?_ FU 0 (Nat.zero_le _) (FU_lt (by omega))
  · intro m
    show f12_likeIn_5 (m + 1) _ _ _ (nI (4 * n)) SM = _
    rw [f12_likeIn_5, s12_worlds hn, bd_s, if_pos (nI_le (Nat.le_refl _) (by omega)), s12_whoIn _ hn h8, bd_s]
  · intro m k hk
    show f12_likeIn_5 (m + 1) _ _ _ (nI k) SM = f12_likeIn_5 m _ _ _ (nI (k + 1)) SM
    rw [f12_likeIn_5, s12_worlds hn, bd_s, if_neg (nI_ge hk (by omega)), inb_nI (by omega) (by omega), inb_nI hw (by omega), ck_t, ck_t, nI_clamp (by omega), nI_clamp (by omega), (hs k (by omega)).1, (hs w hw).1]
    unfold f12_likeIn_42
    simp only [lt_e, nI_1, xz' (hs k (by omega)).2 (hs w hw).2, allS_bt (show k < 32 by omega), Bool.and_eq_true, decide_eq_true_eq, Int32.or_zero]
    by_cases h2 : sh k &&& sg = sh w &&& sg
    · rw [if_pos h2, if_pos ⟨hk, h2⟩]
    · rw [if_neg h2, if_neg (fun h => h2 h.2)]
theorem s6_told {SI : Ob} {sh : Nat → Nat} {n w sg : Nat} (hn : SI.1 0 = nI n) (h8 : n ≤ 8) (hs : ShR SI sh) (hw : w < 4 * n) : f6_ofNight_44 (nI (sh w)) (nI sg) SI = some (if kn n sh sg (allS n) w then 1 else 0) := by
  obtain ⟨D, e, hD⟩ := s6_doubtful hn h8 hs sg (allS n)
  unfold f6_ofNight_44 f6_ofNight_74
  rw [s4_all hn h8, bd_s, e, bd_s, fa_and, lb_u (and_64 (hs w (by omega)).2)]
  simp only [lgc_eq, lib_0]
  have hb : bt (allS n) w = true := by rw [allS_bt (by omega)]; simp [hw]
  have hk := kn_iff (sh := sh) (sg := sg) h8 hw hb
  rw [← hD] at hk
  cases h1 : LB D (sh w &&& sg)
  · rw [h1] at hk
    rw [hk.mpr (by decide)]; rfl
  · rw [h1] at hk
    cases h2 : kn n sh sg (allS n) w
    · rfl
    · exact absurd rfl (hk.mp h2)
theorem and_low {a g : Nat} (h : a < 2 ^ g) : a &&& (2 ^ g - 1) = a := by
  rw [Nat.and_two_pow_sub_one_eq_mod, Nat.mod_eq_of_lt h]
theorem kn_63 {n g : Nat} {sh : Nat → Nat} {x : Int32} {w : Nat} (hg : g ≤ 6) (hs : ∀ w, w < 32 → sh w < 2 ^ g) (hw : w < 32) (h8 : n ≤ 8) : kn n sh (2 ^ g - 1) x w = kn n sh 63 x w := by
  have h64 : ∀ w, w < 32 → sh w &&& 63 = sh w := fun w hw => and_low (g := 6) (Nat.lt_of_lt_of_le (hs w hw) (Nat.pow_le_pow_right (n := 2) (i := g) (j := 6) (by omega) hg))
  unfold kn
  have : vw n sh (2 ^ g - 1) x w = vw n sh 63 x w := so_cong (fun i hi => by
    by_cases h : i < 4 * n
    · rw [and_low (hs i hi), and_low (hs w hw), h64 i hi, h64 w hw]
    · simp [h])
  rw [this]
theorem sum_c {SI : Ob} {st : Nat → Nat} {n : Nat} (hn : SI.1 0 = nI n) (h8 : n ≤ 8) (h1 : ∀ j, j < n → SI.2.2.1 4 j = nI (st j)) (x1 x2 x3 : Int32) : f6_drawnYears x1 x2 x3 SI = f6_drawnYears_43 FU x2 x3 (nI (fb_sm st n)) x1.toInt64 0 0 SI := by
  obtain ⟨b, hb, e⟩ := loop_to (fun m j a => f6_drawnYears_6 m x1 x2 x3 a (nI j) SI) (fun j a => a = nI (fb_sm st j)) (fun a => f6_drawnYears_43 FU x2 x3 a x1.toInt64 0 0 SI) n
    (by
      intro m a _
      show f6_drawnYears_6 (m + 1) _ _ _ _ (nI n) SI = _
      rw [f6_drawnYears_6, hn, if_pos (nI_le (Nat.le_refl n) (by omega)), lt_e])
    (by
      intro m j a hj ha
      refine ⟨nI (fb_sm st (j + 1)), rfl, ?_⟩
      show f6_drawnYears_6 (m + 1) _ _ _ _ (nI j) SI = f6_drawnYears_6 m _ _ _ _ (nI (j + 1)) SI
      rw [f6_drawnYears_6, hn, if_neg (nI_ge hj (by omega)), inb_nI (by omega) (by omega), ck_t, nI_clamp (by omega), h1 j hj, lt_e, lt_e, nI_1, ha, nI_add, fb_sm_succ])
    FU 0 0 (Nat.zero_le _) (FU_lt (by omega)) rfl
  rw [hb] at e
  exact e
theorem sum_m {SM : Ob} {st : Nat → Nat} {n m a : Nat} (hn : SM.2.2.1 10 0 = nI n) (h8 : n ≤ 8) (h2 : ∀ j, j < n → SM.2.2.1 10 (3 + 5 * j + 2) = nI (st j)) (hm : m < 2147483648) (ha : a = nxt m) (hg : SM.2.1 38 = lN m) (h0 : 0 < fb_sm st n) (hb : fb_sm st n < 2 ^ 31) : f12_drawsOne SM = f12_drawsOne_35 FU (nI (a / 65536 % fb_sm st n)) 0 (oL SM 38 (lN a)) := by
  obtain ⟨b, hb, e⟩ := loop_to (fun q j a => f12_drawsOne_4 q a (nI j) SM) (fun j a => a = nI (fb_sm st j)) (fun a => bd (f12_draw a SM) fun r_4 => f12_drawsOne_35 FU r_4.1 0 r_4.2) n
    (by
      intro q a _
      show f12_drawsOne_4 (q + 1) _ (nI n) SM = _
      rw [f12_drawsOne_4, s12_guests, hn, bd_s, if_pos (nI_le (Nat.le_refl n) (by omega))]
      rfl)
    (by
      intro q j a hj ha
      refine ⟨nI (fb_sm st (j + 1)), rfl, ?_⟩
      have g2 : f12_guestOf (nI j) 2 SM = some (nI (st j)) := by
        rw [← h2 j (by omega)]; exact s12_guestOf (k := 2) (by omega) (by omega)
      show f12_drawsOne_4 (q + 1) _ (nI j) SM = f12_drawsOne_4 q _ (nI (j + 1)) SM
      rw [f12_drawsOne_4, s12_guests, hn, bd_s, if_neg (nI_ge hj (by omega)), g2, bd_s, lt_e, lt_e, nI_1, ha, nI_add, fb_sm_succ])
    FU 0 0 (Nat.zero_le _) (FU_lt (by omega)) rfl
  rw [hb, s12_draw hm ha hg h0 (by omega), bd_s] at e
  exact e
theorem years_both {SI SM : Ob} {sh sg st : Nat → Nat} {n g N : Nat} (hn : SI.1 0 = nI n) (hn' : SM.2.2.1 10 0 = nI n) (h8 : n ≤ 8) (h6 : g ≤ 6) (hg8 : SI.1 8 = nI g) (hs : ShR SI sh) (hs' : ShM SM sh) (hlt : ∀ w, w < 32 → sh w < 2 ^ g) (hg : ∀ j, j < n → SI.2.2.1 5 j = nI (sg j)) (hg' : ∀ j, j < n → SM.2.2.1 10 (3 + 5 * j + 3) = nI (sg j)) (h1 : ∀ j, j < n → SI.2.2.1 4 j = nI (st j)) (h2 : ∀ j, j < n → SM.2.2.1 10 (3 + 5 * j + 2) = nI (st j)) (hst : ∀ j, j < n → st j ≤ 99) (h0 : 0 < fb_sm st n) (hb : fb_sm st n < 2 ^ 30) (hN : N ≤ 100) (what : Int32) (hwh : what = 0 ∨ what = 1 ∨ what = 2) : ∀ d k m s t kk mn m1 m2, k + d = N → d < m1 → d < m2 → m < 2147483648 → s = (if what = 0 then t else if what = 1 then kk else mn) → ∃ R M, f6_drawnYears_43 m1 (nI N) what (nI (fb_sm st n)) (lN m) s (nI k) SI = some R ∧ f12_years_62 m2 (nI N) what t kk mn (nI k) (oL SM 38 (lN m)) = some (R, oL SM 38 M) := by
  intro d
  induction d with
  | zero =>
    intro k m s t kk mn m1 m2 hk hm1 hm2 hm hsv
    obtain ⟨m1, rfl⟩ : ∃ k, m1 = k + 1 := ⟨m1 - 1, by omega⟩
    obtain ⟨m2, rfl⟩ : ∃ k, m2 = k + 1 := ⟨m2 - 1, by omega⟩
    refine ⟨s, lN m, ?_, ?_⟩
    · rw [f6_drawnYears_43, if_pos (nI_le (by omega) (by omega))]
    · rw [f12_years_62, if_pos (nI_le (by omega) (by omega)), hsv]
      unfold f12_years_181
      rcases hwh with rfl | rfl | rfl <;> rfl
  | succ d ih =>
    intro k m s t kk mn m1 m2 hk hm1 hm2 hm hsv
    obtain ⟨m1, rfl⟩ : ∃ k, m1 = k + 1 := ⟨m1 - 1, by omega⟩
    obtain ⟨m2, rfl⟩ : ∃ k, m2 = k + 1 := ⟨m2 - 1, by omega⟩
    obtain ⟨a1, ha1⟩ : ∃ a, a = nxt m := ⟨_, rfl⟩
    obtain ⟨a2, ha2⟩ : ∃ a, a = nxt a1 := ⟨_, rfl⟩
    have hml : a1 < 2147483648 := by rw [ha1]; exact nxt_lt m
    have hml2 : a2 < 2147483648 := by rw [ha2]; exact nxt_lt a1
    have hrl : a1 / 65536 % fb_sm st n < fb_sm st n := Nat.mod_lt _ h0
    obtain ⟨o, ho, o1, o2⟩ := drawn_both (SM := oL (oL SM 38 (lN m)) 38 (lN (a1))) hn h8 h1 h2 hst n 0 (a1 / 65536 % fb_sm st n) FU FU (by omega) (FU_lt (by omega)) (FU_lt (by omega)) (by omega) (by show _ + 0 < _; omega)
    have hsum := sum_m (SM := oL SM 38 (lN m)) hn' h8 h2 hm ha1 (oL_at _ _ _) h0 (by omega)
    obtain ⟨wt, hwt⟩ : ∃ wt, wt = a2 / 65536 % 4 := ⟨_, rfl⟩
    have hwt4 : wt < 4 := by rw [hwt]; omega
    have hw : 4 * o + wt < 4 * n := by omega
    have hdr : f12_draw 4 (oL (oL SM 38 (lN m)) 38 (lN (a1))) = some (nI wt, oL (oL (oL SM 38 (lN m)) 38 (lN (a1))) 38 (lN (a2))) := by
      rw [hwt]; exact s12_draw (b := 4) hml ha2 (oL_at _ _ _) (by omega) (by omega)
    have hbl : f6_below (lN (a2)) 4 = some (nI wt) := by
      rw [hwt]; exact s6_below (b := 4) hml2 (by omega) (by omega)
    have eo : oL (oL (oL SM 38 (lN m)) 38 (lN (a1))) 38 (lN (a2)) = oL SM 38 (lN (a2)) := by
      unfold oL; simp only [bx_uu]
    rw [eo] at hdr
    have o2' : f12_drawsOne_35 FU (nI (a1 / 65536 % fb_sm st n)) 0 (oL (oL SM 38 (lN m)) 38 (lN (a1))) = some (nI o, oL (oL SM 38 (lN m)) 38 (lN (a1))) := o2
    have o1' : f6_drawnGuest_4 FU (nI (a1 / 65536 % fb_sm st n)) 0 SI = some (nI o) := o1
    have hn2 : (oL SM 38 (lN (a2))).2.2.1 10 0 = nI n := hn'
    have hs2 : ShM (oL SM 38 (lN (a2))) sh := hs'
    have hlk63 : f12_likeIn (nI (4 * o + wt)) 63 (oL SM 38 (lN (a2))) = some (whoS n (vw n sh 63 (allS n) (4 * o + wt))) := s12_likeIn (sg := 63) hn2 h8 hs2 (by omega)
    have hlks := s12_likeIn (sg := sg o) hn2 h8 hs2 (show 4 * o + wt < 32 by omega)
    have g3 : f12_guestOf (nI o) 3 (oL SM 38 (lN (a2))) = some (nI (sg o)) := by
      rw [← hg' o ho]; exact s12_guestOf (k := 3) (by omega) (by omega)
    obtain ⟨c0, hc0⟩ : ∃ c : Int32, c = if kn n sh 63 (allS n) (4 * o + wt) then 1 else 0 := ⟨_, rfl⟩
    obtain ⟨c1, hc1⟩ : ∃ c : Int32, c = if kn n sh (sg o) (allS n) (4 * o + wt) then 1 else 0 := ⟨_, rfl⟩
    have hof : f6_ofNight (nI o) (nI wt) what SI = some (if what = 0 then c0 else if what = 1 then c1 else nI (cnt (nI (sh (4 * o + wt))))) := by
      unfold f6_ofNight
      rw [nI_4, nI_add, inb_nI (by omega) (by omega), ck_t, nI_clamp (by omega), (hs _ (by omega)).1, lt_e, inb_nI (by omega) (by omega), ck_t, nI_clamp (by omega), hg o ho, hg8, full_eq g (by omega), ← full_eq g (by omega), shl1 g (by omega)]
      have e1 : nI (2 ^ g) - 1 = nI (2 ^ g - 1) := pk_sub (b := 1) (Nat.one_le_two_pow)
      rw [e1, s6_told hn h8 hs hw, s6_told hn h8 hs hw, sj_bitCount, bd_s, kn_63 h6 hlt (by omega) h8, ← hc0, ← hc1]
      rcases hwh with rfl | rfl | rfl <;> rfl
    have hmod : f12_years_62 (m2 + 1) (nI N) what t kk mn (nI k) (oL SM 38 (lN m)) = f12_years_62 m2 (nI N) what (t + c0) (kk + c1) (mn + nI (cnt (nI (sh (4 * o + wt))))) (nI (k + 1)) (oL SM 38 (lN (a2))) := by
      rw [f12_years_62, if_neg (nI_ge (by omega) (by omega)), hsum, o2', bd_s, lt_e, hdr, bd_s, lt_e, nI_4', nI_add, hlk63, bd_s, s12_alone, bd_s]
      unfold f12_years_107 f12_years_136
      simp only [lt_e, nI_1, g3, bd_s, hlks, s12_alone, inb_nI (show 4 * o + wt < 32 by omega) (by omega), ck_t, nI_clamp (show 4 * o + wt < 2 ^ 31 by omega), (hs2 (4 * o + wt) (by omega)).1, s12_bits, lt0_le, alone_kn h8]
      rw [hc0, hc1]
      cases kn n sh 63 (allS n) (4 * o + wt) <;> cases kn n sh (sg o) (allS n) (4 * o + wt) <;> rfl
    have hcl : f6_drawnYears_43 (m1 + 1) (nI N) what (nI (fb_sm st n)) (lN m) s (nI k) SI = f6_drawnYears_43 m1 (nI N) what (nI (fb_sm st n)) (lN (a2)) (s + (if what = 0 then c0 else if what = 1 then c1 else nI (cnt (nI (sh (4 * o + wt)))))) (nI (k + 1)) SI := by
      rw [f6_drawnYears_43, if_neg (nI_ge (by omega) (by omega)), s6_next hm ha1, bd_s, s6_below hml h0 (by omega), bd_s]
      unfold f6_drawnGuest
      rw [o1', bd_s, s6_next hml ha2, bd_s, hbl, bd_s, hof, bd_s, lt_e, lt_e, nI_1]
    rw [hmod, hcl]
    refine ih (k + 1) (a2) _ _ _ _ m1 m2 (by omega) (by omega) (by omega) hml2 ?_
    rw [hsv]
    rcases hwh with rfl | rfl | rfl <;> rfl
theorem st_years : St_years Inv := by
  intro cs sm x1 x2 x3 h
  obtain ⟨n, g, hI⟩ := h
  have hI' : InvN cs (oI sm 0 0) n g := hI
  obtain ⟨h8, h6, hn, hg8, -, -, hst, -⟩ := id hI.1
  have hn' : (oI sm 0 0).2.2.1 10 0 = nI n := hI.2.1.1
  have hgu : f12_guests (oI sm 0 0) = some (nI n) := by rw [← hI.2.1.1]; rfl
  obtain ⟨s1, s2, s3⟩ := inv_sh hI'
  have i1 : ∀ (x : Int32) (k : Nat), k < 2 ^ 30 → nI k ≤ x → nI (k) - 1 < x ∧ ¬ x < 0 := fun x k hk hx => by
    rw [Int32.le_iff_toInt_le, nI_toInt (by omega)] at hx
    rw [Int32.lt_iff_toInt_lt, Int32.lt_iff_toInt_lt, nI_m1 k hk]
    have : (0 : Int32).toInt = 0 := by decide
    omega
  have no : (x1 < 0 ∨ 9999 < x1) ∨ (x2 < 1 ∨ 100 < x2) ∨ (x3 < 0 ∨ 2 < x3) ∨ n = 0 → ∃ (r : Int32) (sm1 : Ob), f11_years x1 x2 x3 (cs 0) (cs 8) = some r ∧ f12_years x1 x2 x3 sm = some (r, sm1) ∧ Inv cs sm1 := by
    intro hno
    refine ⟨-1, oI sm 0 0, ?_, ?_, n, g, hI'⟩
    · unfold f11_years f11_years_22 f11_years_43
      by_cases a1 : x1 < 0
      · rw [if_pos a1]
      rw [if_neg a1]
      by_cases a2 : 9999 < x1
      · rw [if_pos a2]
      rw [if_neg a2]
      by_cases a3 : x2 < 1
      · rw [if_pos a3]
      rw [if_neg a3]
      by_cases a4 : x2 ≤ 100
      · rw [if_pos a4]
        by_cases a5 : x3 < 0
        · rw [if_pos a5]
        rw [if_neg a5]
        by_cases a6 : 2 < x3
        · rw [if_pos a6]
        rw [if_neg a6]
        rcases hno with (h | h) | (h | h) | (h | h) | h
        · exact absurd h a1
        · exact absurd h a2
        · exact absurd h a3
        · rw [Int32.lt_iff_toInt_lt] at h; rw [Int32.le_iff_toInt_le] at a4; omega
        · exact absurd h a5
        · exact absurd h a6
        · rw [hn, h, if_pos (by decide)]
      · rw [if_neg a4]
    · unfold f12_years
      rw [lt_e]
      by_cases a1 : x1 < 0 ∨ 9999 < x1
      · rw [s12_withinL_no a1]; rfl
      rw [s12_withinL_yes (fun h => a1 (Or.inl h)) (fun h => a1 (Or.inr h)), bd_s, if_neg (by decide)]
      by_cases a2 : x2 < 1 ∨ 100 < x2
      · rw [s12_withinL_no a2]; rfl
      rw [s12_withinL_yes (fun h => a2 (Or.inl h)) (fun h => a2 (Or.inr h)), bd_s, if_neg (by decide)]
      by_cases a3 : x3 < 0 ∨ 2 < x3
      · rw [s12_withinL_no a3]; rfl
      rw [s12_withinL_yes (fun h => a3 (Or.inl h)) (fun h => a3 (Or.inr h)), bd_s, if_neg (by decide)]
      rcases hno with h | h | h | h
      · exact absurd h a1
      · exact absurd h a2
      · exact absurd h a3
      · rw [hgu, bd_s, h, if_pos (by decide)]; rfl
  by_cases b1 : x1 < 0 ∨ 9999 < x1
  · exact no (Or.inl b1)
  by_cases b2 : x2 < 1 ∨ 100 < x2
  · exact no (Or.inr (Or.inl b2))
  by_cases b3 : x3 < 0 ∨ 2 < x3
  · exact no (Or.inr (Or.inr (Or.inl b3)))
  by_cases b4 : n = 0
  · exact no (Or.inr (Or.inr (Or.inr b4)))
  have c1 : ¬ x1 < 0 := fun h => b1 (Or.inl h)
  have c2 : ¬ 9999 < x1 := fun h => b1 (Or.inr h)
  have d1 : ¬ x2 < 1 := fun h => b2 (Or.inl h)
  have d2 : ¬ 100 < x2 := fun h => b2 (Or.inr h)
  have f1 : ¬ x3 < 0 := fun h => b3 (Or.inl h)
  have f2 : ¬ 2 < x3 := fun h => b3 (Or.inr h)
  obtain ⟨m, hm, rfl⟩ := nI_of c1
  have hx20 : ¬ x2 < 0 := by
    rw [Int32.lt_iff_toInt_lt] at d1 ⊢
    have : (0 : Int32).toInt = 0 := by decide
    have : (1 : Int32).toInt = 1 := by decide
    omega
  obtain ⟨N, hN, rfl⟩ := nI_of hx20
  have hN100 : N ≤ 100 := by
    have : ¬ nI 100 < nI N := d2
    rw [nI_ltI (by omega) (by omega)] at this; omega
  have hwh : x3 = 0 ∨ x3 = 1 ∨ x3 = 2 := by
    obtain ⟨k, hk, rfl⟩ := nI_of f1
    have : ¬ nI 2 < nI k := f2
    rw [nI_ltI (by omega) (by omega)] at this
    have : k = 0 ∨ k = 1 ∨ k = 2 := by omega
    rcases this with rfl | rfl | rfl
    · exact Or.inl rfl
    · exact Or.inr (Or.inl rfl)
    · exact Or.inr (Or.inr rfl)
  obtain ⟨st, hste⟩ : ∃ st : Nat → Nat, st = fun j => vN ((cs 8).2.2.1 4 j) := ⟨_, rfl⟩
  have st1 : ∀ j, (cs 8).2.2.1 4 j = nI (st j) := fun j => by rw [hste]; exact (nI_vN _).symm
  have st2 : ∀ j, j < n → 1 ≤ st j ∧ st j ≤ 99 := fun j hj => by
    obtain ⟨v, v1, v2, v3⟩ := hst j hj
    have : st j = v := by
      rw [hste]
      show vN ((cs 8).2.2.1 4 j) = v
      rw [v3]
      exact pk_tn (by omega)
    omega
  have st3 : ∀ j, j < n → (oI sm 0 0).2.2.1 10 (3 + 5 * j + 2) = nI (st j) := fun j hj => ((hI.2.1.2.2.1 j hj).2.2.1).trans (st1 j)
  have hsb : fb_sm st n ≤ n * 99 := fb_sm_bound (fun k hk => (st2 k hk).2)
  have hsp : 0 < fb_sm st n := by
    have := fb_sm_part st (i := 0) (n := n) (by omega)
    have h0 := (st2 0 (by omega)).1
    omega
  obtain ⟨R, M, e1, e2⟩ := years_both hn hn' h8 h6 hg8 s1 s2 s3 (fun j _ => sN_c cs j) (fun j hj => sN_m hI' hj) (fun j _ => st1 j) st3 (fun j hj => (st2 j hj).2) hsp (by omega) hN100 x3 hwh N 0 m 0 0 0 0 FU FU (by omega) (FU_lt (by omega)) (FU_lt (by omega)) hm (by rcases hwh with rfl | rfl | rfl <;> rfl)
  refine ⟨R, oL (oI sm 0 0) 38 M, ?_, ?_, n, g, hI'⟩
  · unfold f11_years
    rw [if_neg c1, if_neg c2, if_neg d1, if_pos (show nI N ≤ 100 from nI_le (b := 100) hN100 (by omega)), if_neg f1, if_neg f2, hn, if_neg (nI_ne0 (by omega) (by omega)), sum_c hn h8 (fun j _ => st1 j), nI_l hm]
    have e1' : f6_drawnYears_43 FU (nI N) x3 (nI (fb_sm st n)) (lN m) 0 0 (cs 8) = some R := e1
    rw [e1', bd_s]
  · unfold f12_years
    rw [lt_e, s12_withinL_yes c1 c2, bd_s, if_neg (by decide), s12_withinL_yes d1 d2, bd_s, if_neg (by decide), s12_withinL_yes f1 f2, bd_s, if_neg (by decide), hgu, bd_s, if_neg (nI_ne0 (by omega) (by omega)), lt_e, nI_l hm]
    exact e2
