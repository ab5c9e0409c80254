/-! pure: looks as bits of a long; views; who knows -/
theorem lgc_eq (x y : Int64) : lg_cmp x y = 0 ↔ x = y := by
  unfold lg_cmp
  constructor
  · intro h
    by_cases h1 : x > y
    · rw [if_pos h1] at h; exact absurd h (by decide)
    · rw [if_neg h1] at h
      by_cases h2 : x = y
      · exact h2
      · rw [if_neg h2] at h; exact absurd h (by decide)
  · intro h
    subst h
    rw [if_neg Int64.lt_irrefl, if_pos rfl]
theorem lgc_le (x y : Int64) : lg_cmp x y ≤ 0 ↔ ¬ y < x := by
  unfold lg_cmp
  by_cases h1 : x > y
  · rw [if_pos h1]
    exact ⟨fun h => absurd h (by decide), fun h => absurd h1 h⟩
  · rw [if_neg h1]
    refine ⟨fun _ => h1, fun _ => ?_⟩
    split <;> decide
def LB (x : Int64) (k : Nat) : Bool := x.toBitVec.getLsbD k
theorem LB_or (x y : Int64) (k : Nat) : LB (x ||| y) k = (LB x k || LB y k) := by unfold LB; rw [Int64.toBitVec_or, BitVec.getLsbD_or]
theorem LB_and (x y : Int64) (k : Nat) : LB (x &&& y) k = (LB x k && LB y k) := by unfold LB; rw [Int64.toBitVec_and, BitVec.getLsbD_and]
theorem LB_xor (x y : Int64) (k : Nat) : LB (x ^^^ y) k = (LB x k ^^ LB y k) := by unfold LB; rw [Int64.toBitVec_xor, BitVec.getLsbD_xor]
theorem LB_0 (k : Nat) : LB 0 k = false := BitVec.getLsbD_zero
theorem LB_m1 : ∀ k, k < 64 → LB (-1) k = true := by decide +kernel
theorem LB_not (x : Int64) {k : Nat} (hk : k < 64) : LB (x ^^^ (-1)) k = !LB x k := by
  rw [LB_xor, LB_m1 k hk]
  cases LB x k <;> rfl
theorem LB_ext {x y : Int64} (h : ∀ i, i < 64 → LB x i = LB y i) : x = y := Int64.toBitVec_inj.mp (BitVec.eq_of_getLsbD_eq (fun i hi => h i hi))
theorem LB_z {x : Int64} : x = 0 ↔ ∀ i, i < 64 → LB x i = false := by
  constructor
  · intro h i _; rw [h, LB_0]
  · intro h; exact LB_ext (fun i hi => by rw [h i hi, LB_0])
theorem LB_lN {m k : Nat} (hm : m < 2 ^ 64) : LB (lN m) k = m.testBit k := by
  unfold LB
  rw [BitVec.getLsbD, wb_tn hm]
theorem LB_one {j k : Nat} (hj : j < 64) : LB (1 <<< ((nI j).toInt64 &&& 63)) k = decide (j = k) := by
  rw [show (1 : Int64) = lN 1 from rfl, wb_shl 1 hj, Nat.one_mul, LB_lN (wb_lt2 hj), Nat.testBit_two_pow]
theorem lb_u {x : Int64} {k : Nat} (hk : k < 64) : (lush x (nI k)) &&& 1 = if LB x k then 1 else 0 := by
  obtain ⟨m, hm, rfl⟩ := wb_of x
  unfold lush
  rw [wb_bit hm hk, LB_lN hm, Nat.testBit_eq_decide_div_mod_eq]
  have : m / 2 ^ k % 2 = 0 ∨ m / 2 ^ k % 2 = 1 := by omega
  rcases this with e | e <;> rw [e] <;> rfl
theorem lib_1 (b : Bool) : ((if b then (1 : Int64) else 0) = 1) ↔ b = true := by cases b <;> simp
theorem lib_0 (b : Bool) : ((if b then (1 : Int64) else 0) = 0) ↔ b = false := by cases b <;> simp
def vN (x : Int32) : Nat := x.toBitVec.toNat
theorem nI_vN (x : Int32) : nI (vN x) = x := by
  obtain ⟨v, hv, rfl⟩ := wb_of32 x
  unfold vN
  rw [pk_tn hv]
theorem vN_lt {x : Int32} {n : Nat} (h : ∀ i, i < 32 → bt x i = true → i < n) : vN x < 2 ^ n := by
  refine Nat.lt_pow_two_of_testBit _ (fun i hi => ?_)
  by_cases h32 : i < 32
  · cases hb : (vN x).testBit i
    · rfl
    · have := h i h32 hb
      omega
  · exact Nat.testBit_lt_two_pow (Nat.lt_of_lt_of_le x.toBitVec.isLt (Nat.pow_le_pow_right (by omega) (by omega)))
theorem and_64 {a b : Nat} (h : a < 64) : a &&& b < 64 := Nat.lt_of_le_of_lt Nat.and_le_left h
/-- what shows, as numbers -/
def ShR (SI : Ob) (sh : Nat → Nat) : Prop := ∀ w, w < 32 → SI.2.2.1 12 w = nI (sh w) ∧ sh w < 64
theorem s6_withLooks {SI : Ob} {sh : Nat → Nat} (hs : ShR SI sh) (sg : Nat) (x : Int32) (L : Int64) : f6_withLooks (nI sg) x L SI = some (so (fun w => bt x w && LB L (sh w &&& sg))) := by
  have e : so (fun w => bt x w && LB L (sh w &&& sg)) = so (fun k => decide (k < 32) && (bt x k && LB L (sh k &&& sg))) := so_cong (fun i hi => by simp [hi])
  rw [e, ← fl_so (fun k => bt x k && LB L (sh k &&& sg)) (Nat.le_refl 32)]
  refine loop_fl (fun m j a => f6_withLooks_6 m (nI sg) x L a (nI j) SI) _ some 32 0 ?_ ?_ FU 0 (Nat.zero_le _) (FU_lt (by omega))
  · intro m
    show f6_withLooks_6 (m + 1) _ _ _ _ (nI 32) SI = _
    rw [f6_withLooks_6, if_pos (by decide)]
  · intro m j hj
    show f6_withLooks_6 (m + 1) _ _ _ _ (nI j) SI = f6_withLooks_6 m _ _ _ _ (nI (j + 1)) SI
    rw [f6_withLooks_6, if_neg (show ¬ (32 : Int32) ≤ nI j from nI_ge (b := 32) hj (by omega)), bit_u hj, inb_nI hj (by omega), ck_t, nI_clamp (by omega), (hs j hj).1, fa_and, lb_u (and_64 (hs j hj).2)]
    unfold f6_withLooks_50
    simp only [lt_e, nI_1, lgc_eq, lib_1, ib_1, Bool.and_eq_true]
    by_cases h1 : bt x j = true
    · rw [if_pos h1]
      by_cases h2 : LB L (sh j &&& sg) = true
      · rw [if_pos h2, if_pos ⟨h1, h2⟩]
      · rw [if_neg h2, if_neg (fun h => h2 h.2)]
    · rw [if_neg h1, if_neg (fun h => h1 h.1)]
/-- worlds of a guest with a look -/
def lkP (x : Int32) (sh : Nat → Nat) (sg j k : Nat) : Prop := ∃ c, c < 4 ∧ bt x (4 * j + c) = true ∧ sh (4 * j + c) &&& sg = k
theorem flL_iff (p : Nat → Bool) (q : Nat → Nat) (hq : ∀ c, q c < 64) (k : Nat) : ∀ m, LB (fl (fun c (a : Int64) => if p c then a ||| (1 <<< ((nI (q c)).toInt64 &&& 63)) else a) m 0) k = true ↔ ∃ c, c < m ∧ p c = true ∧ q c = k
  | 0 => by
    show LB 0 k = true ↔ _
    rw [LB_0]
    exact ⟨fun h => absurd h (by decide), fun ⟨c, h, _⟩ => absurd h (Nat.not_lt_zero c)⟩
  | m + 1 => by
    rw [fl_succ]
    have ih := flL_iff p q hq k m
    by_cases hp : p m = true
    · rw [if_pos hp, LB_or, LB_one (hq m), Bool.or_eq_true, ih, decide_eq_true_eq]
      constructor
      · rintro (⟨c, h1, h2, h3⟩ | h)
        · exact ⟨c, by omega, h2, h3⟩
        · exact ⟨m, by omega, hp, h⟩
      · rintro ⟨c, h1, h2, h3⟩
        by_cases hc : c = m
        · subst hc; exact Or.inr h3
        · exact Or.inl ⟨c, by omega, h2, h3⟩
    · rw [if_neg hp, ih]
      constructor
      · rintro ⟨c, h1, h2, h3⟩
        exact ⟨c, by omega, h2, h3⟩
      · rintro ⟨c, h1, h2, h3⟩
        by_cases hc : c = m
        · subst hc; exact absurd h2 hp
        · exact ⟨c, by omega, h2, h3⟩
theorem s6_looks {SI : Ob} {sh : Nat → Nat} (hs : ShR SI sh) (sg : Nat) (x : Int32) {j : Nat} (hj : j < 8) : ∃ L, f6_looks (nI sg) x (nI j) SI = some L ∧ ∀ k, LB L k = true ↔ lkP x sh sg j k := by
  refine ⟨fl (fun c (a : Int64) => if bt x (4 * j + c) then a ||| (1 <<< ((nI ((sh (4 * j + c) &&& sg) % 64)).toInt64 &&& 63)) else a) 4 0, ?_, fun k => ?_⟩
  · refine loop_fl (fun m c a => f6_looks_6 m (nI sg) x (nI j) a (nI c) SI) _ some 4 0 ?_ ?_ FU 0 (Nat.zero_le _) (FU_lt (by omega))
    · intro m
      show f6_looks_6 (m + 1) _ _ _ _ (nI 4) SI = _
      rw [f6_looks_6, if_pos (by decide)]
    · intro m c hc
      show f6_looks_6 (m + 1) _ _ _ _ (nI c) SI = f6_looks_6 m _ _ _ _ (nI (c + 1)) SI
      rw [f6_looks_6, if_neg (show ¬ (4 : Int32) ≤ nI c from nI_ge (b := 4) hc (by omega)), nI_4, nI_add, lt_e, bit_u (by omega), inb_nI (by omega) (by omega), ck_t, nI_clamp (by omega), (hs _ (by omega)).1, fa_and, Nat.mod_eq_of_lt (and_64 (hs (4 * j + c) (by omega)).2)]
      unfold f6_looks_46
      simp only [lt_e, nI_1, ib_1]
      split <;> rfl
  · rw [flL_iff _ (fun c => (sh (4 * j + c) &&& sg) % 64) (fun c => Nat.mod_lt _ (by omega)) k 4]
    unfold lkP
    constructor
    · rintro ⟨c, h1, h2, h3⟩
      have h3' : (sh (4 * j + c) &&& sg) % 64 = k := h3
      rw [Nat.mod_eq_of_lt (and_64 (hs (4 * j + c) (by omega)).2)] at h3'
      exact ⟨c, h1, h2, h3'⟩
    · rintro ⟨c, h1, h2, h3⟩
      refine ⟨c, h1, h2, ?_⟩
      show (sh (4 * j + c) &&& sg) % 64 = k
      rw [Nat.mod_eq_of_lt (and_64 (hs (4 * j + c) (by omega)).2)]
      exact h3
/-- two guests with one look -/
def dbP (n : Nat) (x : Int32) (sh : Nat → Nat) (sg k : Nat) : Prop := ∃ a b, a < b ∧ b < n ∧ lkP x sh sg a k ∧ lkP x sh sg b k
theorem s6_doubtful {SI : Ob} {sh : Nat → Nat} {n : Nat} (hn : SI.1 0 = nI n) (h8 : n ≤ 8) (hs : ShR SI sh) (sg : Nat) (x : Int32) : ∃ D, f6_doubtful (nI sg) x SI = some D ∧ ∀ k, LB D k = true ↔ dbP n x sh sg k := by
  exact loop_inv (fun q j (a : Int64 × Int64) => f6_doubtful_8 q (nI sg) x a.1 a.2 (nI j) SI) (fun j a => (∀ k, LB a.1 k = true ↔ ∃ c, c < j ∧ lkP x sh sg c k) ∧ ∀ k, LB a.2 k = true ↔ dbP j x sh sg k) (fun D => ∀ k, LB D k = true ↔ dbP n x sh sg k) n
    (by
      intro q a ha
      refine ⟨a.2, ?_, ha.2⟩
      show f6_doubtful_8 (q + 1) _ _ _ _ (nI n) SI = _
      rw [f6_doubtful_8, hn, if_pos (nI_le (Nat.le_refl n) (by omega))])
    (by
      intro q j a hj ha
      obtain ⟨o, t⟩ := a
      obtain ⟨h1, h2⟩ := ha
      obtain ⟨L, e, hL⟩ := s6_looks hs sg x (j := j) (by omega)
      refine ⟨(o ||| L, t ||| (o &&& L)), ⟨fun k => ?_, fun k => ?_⟩, ?_⟩
      · show LB (o ||| L) k = true ↔ _
        rw [LB_or, Bool.or_eq_true, h1 k, hL k]
        constructor
        · rintro (⟨c, c1, c2⟩ | h)
          · exact ⟨c, by omega, c2⟩
          · exact ⟨j, by omega, h⟩
        · rintro ⟨c, c1, c2⟩
          by_cases hc : c = j
          · subst hc; exact Or.inr c2
          · exact Or.inl ⟨c, by omega, c2⟩
      · show LB (t ||| (o &&& L)) k = true ↔ _
        rw [LB_or, LB_and, Bool.or_eq_true, Bool.and_eq_true, h1 k, hL k, h2 k]
        unfold dbP
        constructor
        · rintro (⟨c, d, c1, c2, c3, c4⟩ | ⟨⟨c, c1, c2⟩, h⟩)
          · exact ⟨c, d, c1, by omega, c3, c4⟩
          · exact ⟨c, j, c1, by omega, c2, h⟩
        · rintro ⟨c, d, c1, c2, c3, c4⟩
          by_cases hd : d = j
          · subst hd; exact Or.inr ⟨⟨c, c1, c3⟩, c4⟩
          · exact Or.inl ⟨c, d, c1, by omega, c3, c4⟩
      · show f6_doubtful_8 (q + 1) _ _ o t (nI j) SI = f6_doubtful_8 q _ _ (o ||| L) (t ||| (o &&& L)) (nI (j + 1)) SI
        rw [f6_doubtful_8, hn, if_neg (nI_ge hj (by omega)), e, bd_s, lt_e, lt_e, lt_e, nI_1])
    FU 0 (0, 0) (Nat.zero_le _) (FU_lt (by omega)) ⟨fun k => ⟨fun h => absurd (h : LB 0 k = true) (by rw [LB_0]; decide), fun ⟨c, h, _⟩ => absurd h (Nat.not_lt_zero c)⟩, fun k => ⟨fun h => absurd (h : LB 0 k = true) (by rw [LB_0]; decide), fun ⟨c, d, _, h, _⟩ => absurd h (Nat.not_lt_zero d)⟩⟩
/-- a view -/
def vw (n : Nat) (sh : Nat → Nat) (sg : Nat) (x : Int32) (w : Nat) : Int32 := so (fun k => decide (k < 4 * n) && (bt x k && decide (sh k &&& sg = sh w &&& sg)))
theorem vw_bt {n : Nat} {sh : Nat → Nat} {sg : Nat} {x : Int32} {w i : Nat} (hi : i < 32) : bt (vw n sh sg x w) i = true ↔ i < 4 * n ∧ bt x i = true ∧ sh i &&& sg = sh w &&& sg := by
  unfold vw
  rw [so_bt _ hi]
  simp [Bool.and_eq_true]
theorem s6_view {SI : Ob} {sh : Nat → Nat} {n j w sg : Nat} {x : Int32} (hs : ShR SI sh) (hj : j < 8) (hw : w < 32) (hg : SI.2.2.1 5 j = nI sg) (hx : ∀ i, i < 32 → bt x i = true → i < 4 * n) : f6_view (nI j) (nI w) x SI = some (vw n sh sg x w) := by
  unfold f6_view
  rw [inb_nI hj (by omega), inb_nI hw (by omega), ck_t, ck_t, ck_t, nI_clamp (by omega), nI_clamp (by omega), hg, (hs w hw).1, fa_and, s6_withLooks hs, bd_s]
  refine congrArg some (so_cong (fun i hi => ?_))
  rw [LB_one (and_64 (hs w hw).2)]
  cases hb : bt x i
  · simp
  · have := hx i hi hb
    simp [this, eq_comm]
theorem xz {a b s : Nat} : (nI a ^^^ nI b) &&& nI s = 0 ↔ nI (a &&& s) = nI (b &&& s) := by
  rw [← fa_and, ← fa_and, b_z]
  constructor
  · intro h
    refine b_ext (fun i hi => ?_)
    have := h i hi
    rw [b_and, b_xor] at this
    rw [b_and, b_and]
    cases h1 : bt (nI a) i <;> cases h2 : bt (nI b) i <;> cases h3 : bt (nI s) i <;> simp [h1, h2, h3] at this ⊢
  · intro h i hi
    have := congrArg (fun z => bt z i) h
    simp only [b_and] at this
    rw [b_and, b_xor]
    cases h1 : bt (nI a) i <;> cases h2 : bt (nI b) i <;> cases h3 : bt (nI s) i <;> simp [h1, h2, h3] at this ⊢
theorem xz' {a b s : Nat} (ha : a < 64) (hb : b < 64) : (nI a ^^^ nI b) &&& nI s = 0 ↔ a &&& s = b &&& s := by
  have h1 : a &&& s < 64 := and_64 ha
  have h2 : b &&& s < 64 := and_64 hb
  rw [xz, nI_eq (by omega) (by omega)]
/-- the reference's -/
def ShM (SM : Ob) (sh : Nat → Nat) : Prop := ∀ w, w < 32 → SM.2.2.1 29 w = nI (sh w) ∧ sh w < 64
theorem s12_isIn {x : Int32} {k : Nat} (hk : k < 32) : f12_isIn x (nI k) = some (if bt x k then 1 else 0) := by
  unfold f12_isIn f12_isIn_14
  rw [bit_s hk]
  cases bt x k <;> rfl
theorem s12_viewIn {SM : Ob} {sh : Nat → Nat} {n j w sg : Nat} (x : Int32) (hn : SM.2.2.1 10 0 = nI n) (h8 : n ≤ 8) (hs : ShM SM sh) (hj : j < 8) (hw : w < 32) (hg : SM.2.2.1 10 (3 + 5 * j + 3) = nI sg) : f12_viewIn x (nI j) (nI w) SM = some (vw n sh sg x w) := by
  have e : vw n sh sg x w = fl (fun k (a : Int32) => if (bt x k && decide (sh k &&& sg = sh w &&& sg)) then a ||| (1 <<< (nI k &&& 31)) else a) (4 * n) 0 := (fl_so _ (by omega)).symm
  rw [e]
  refine loop_fl (fun m k a => f12_viewIn_6 m x (nI j) (nI w) a (nI k) SM) _ some (4 * n) 0 ?_ ?_ FU 0 (Nat.zero_le _) (FU_lt (by omega))
  · intro m
    show f12_viewIn_6 (m + 1) _ _ _ _ (nI (4 * n)) SM = _
    rw [f12_viewIn_6, s12_worlds hn, bd_s, if_pos (nI_le (Nat.le_refl _) (by omega))]
  · intro m k hk
    show f12_viewIn_6 (m + 1) _ _ _ _ (nI k) SM = f12_viewIn_6 m _ _ _ _ (nI (k + 1)) SM
    have g3 : f12_guestOf (nI j) 3 SM = some (nI sg) := by
      rw [← hg]; exact s12_guestOf (k := 3) (by omega) (by omega)
    rw [f12_viewIn_6, s12_worlds hn, bd_s, if_neg (nI_ge hk (by omega)), s12_isIn (by omega), bd_s, inb_nI (by omega) (by omega), inb_nI hw (by omega), ck_t, ck_t, g3, bd_s, nI_clamp (by omega), nI_clamp (by omega), (hs k (by omega)).1, (hs w hw).1]
    unfold f12_viewIn_57 f12_viewIn_58
    simp only [lt_e, nI_1, ib_0, xz' (hs k (by omega)).2 (hs w hw).2, Bool.and_eq_true, decide_eq_true_eq]
    by_cases h1 : bt x k = true
    · rw [if_neg (by rw [h1]; decide)]
      by_cases h2 : sh k &&& sg = sh w &&& sg
      · rw [if_pos h2, if_pos ⟨h1, h2⟩]
      · rw [if_neg h2, if_neg (fun h => h2 h.2), Int32.or_zero]
    · rw [if_pos (by simpa using h1), if_neg (fun h => h1 h.1), Int32.or_zero]
theorem who_bt {n a : Nat} {x : Int32} (h8 : n ≤ 8) (ha : a < 32) : bt (whoS n x) a = true ↔ a < n ∧ ∃ c, c < 4 ∧ bt x (4 * a + c) = true := by
  unfold whoS
  rw [so_bt _ ha]
  unfold whoB
  simp only [Bool.and_eq_true, decide_eq_true_eq, Bool.or_eq_true]
  constructor
  · rintro ⟨h1, ((h | h) | h) | h⟩
    · exact ⟨h1, 0, by omega, h⟩
    · exact ⟨h1, 1, by omega, h⟩
    · exact ⟨h1, 2, by omega, h⟩
    · exact ⟨h1, 3, by omega, h⟩
  · rintro ⟨h1, c, h2, h3⟩
    refine ⟨h1, ?_⟩
    have : c = 0 ∨ c = 1 ∨ c = 2 ∨ c = 3 := by omega
    rcases this with rfl | rfl | rfl | rfl
    · exact Or.inl (Or.inl (Or.inl h3))
    · exact Or.inl (Or.inl (Or.inr h3))
    · exact Or.inl (Or.inr h3)
    · exact Or.inr h3
theorem who_vw {n a : Nat} {sh : Nat → Nat} {sg w : Nat} {x : Int32} (h8 : n ≤ 8) (ha : a < 32) : bt (whoS n (vw n sh sg x w)) a = true ↔ a < n ∧ lkP x sh sg a (sh w &&& sg) := by
  rw [who_bt h8 ha]
  unfold lkP
  constructor
  · rintro ⟨h1, c, h2, h3⟩
    obtain ⟨d1, d2, d3⟩ := (vw_bt (by omega)).mp h3
    exact ⟨h1, c, h2, d2, d3⟩
  · rintro ⟨h1, c, h2, h3, h4⟩
    exact ⟨h1, c, h2, (vw_bt (by omega)).mpr ⟨by omega, h3, h4⟩⟩
theorem cnt_one {x : Int32} : cnt x = 1 ↔ (∃ i, i < 32 ∧ bt x i = true) ∧ ∀ a b, a < b → b < 32 → ¬ (bt x a = true ∧ bt x b = true) := by
  unfold cnt
  constructor
  · intro h
    refine ⟨fb_ct_pos.mp (by omega), fun a b hab hb hh => ?_⟩
    have h1 := fb_ct_mono (bt x) (m := 0) (n := a) (by omega)
    have h2 := fb_ct_mono (bt x) (m := a + 1) (n := b) (by omega)
    have h3 := fb_ct_mono (bt x) (m := b + 1) (n := 32) (by omega)
    rw [fb_ct_succ, hh.1, if_pos rfl] at h2
    rw [fb_ct_succ, hh.2, if_pos rfl] at h3
    omega
  · rintro ⟨h1, h2⟩
    have hp := fb_ct_pos.mpr h1
    by_cases h : fb_ct (bt x) 32 = 1
    · exact h
    · obtain ⟨a, a1, a2, a3⟩ := fb_ct_kth (p := bt x) (k := 0) (n := 32) hp
      obtain ⟨b, b1, b2, b3⟩ := fb_ct_kth (p := bt x) (k := 1) (n := 32) (by omega)
      rcases Nat.lt_trichotomy a b with hab | hab | hab
      · exact absurd ⟨a2, b2⟩ (h2 a b hab b1)
      · subst hab; omega
      · exact absurd ⟨b2, a2⟩ (h2 b a hab a1)
def kn (n : Nat) (sh : Nat → Nat) (sg : Nat) (x : Int32) (w : Nat) : Bool := decide (cnt (whoS n (vw n sh sg x w)) = 1)
theorem kn_iff {n : Nat} {sh : Nat → Nat} {sg w : Nat} {x : Int32} (h8 : n ≤ 8) (hw : w < 4 * n) (hb : bt x w = true) : kn n sh sg x w = true ↔ ¬ dbP n x sh sg (sh w &&& sg) := by
  unfold kn
  rw [decide_eq_true_eq, cnt_one]
  constructor
  · rintro ⟨-, h⟩ ⟨a, b, h1, h2, h3, h4⟩
    exact h a b h1 (by omega) ⟨(who_vw h8 (by omega)).mpr ⟨by omega, h3⟩, (who_vw h8 (by omega)).mpr ⟨h2, h4⟩⟩
  · intro h
    refine ⟨⟨w / 4, by omega, (who_vw h8 (by omega)).mpr ⟨by omega, w % 4, by omega, ?_, ?_⟩⟩, fun a b hab hb2 hh => h ⟨a, b, hab, ?_, ?_, ?_⟩⟩
    · rw [show 4 * (w / 4) + w % 4 = w by omega]; exact hb
    · rw [show 4 * (w / 4) + w % 4 = w by omega]
    · exact ((who_vw h8 hb2).mp hh.2).1
    · exact ((who_vw h8 (by omega)).mp hh.1).2
    · exact ((who_vw h8 hb2).mp hh.2).2
theorem s6_knowing {SI : Ob} {sh : Nat → Nat} {n j sg : Nat} {x : Int32} (hn : SI.1 0 = nI n) (h8 : n ≤ 8) (hs : ShR SI sh) (hj : j < 8) (hg : SI.2.2.1 5 j = nI sg) (hx : ∀ i, i < 32 → bt x i = true → i < 4 * n) : f6_knowing (nI j) x SI = some (so (fun w => bt x w && kn n sh sg x w)) := by
  obtain ⟨D, e, hD⟩ := s6_doubtful hn h8 hs sg x
  unfold f6_knowing
  rw [inb_nI hj (by omega), ck_t, nI_clamp (by omega), hg, lt_e, e, bd_s, s6_withLooks hs, bd_s]
  refine congrArg some (so_cong (fun i hi => ?_))
  rw [LB_not _ (and_64 (hs i hi).2)]
  cases hb : bt x i
  · rfl
  · rw [Bool.true_and, Bool.true_and, Bool.eq_iff_iff, kn_iff h8 (hx i hi hb) hb, ← hD]
    cases LB D (sh i &&& sg) <;> simp
theorem alone_kn {n : Nat} (h8 : n ≤ 8) (sh : Nat → Nat) (sg : Nat) (x : Int32) (w : Nat) : (0 : Int32) ≤ aloneS (whoS n (vw n sh sg x w)) ↔ kn n sh sg x w = true := by
  unfold kn
  rw [decide_eq_true_eq]
  obtain ⟨v, hv, e⟩ := who_nat h8 (vw n sh sg x w)
  rw [e]
  exact alone_0 v hv
theorem lt0_le {x : Int32} : x < 0 ↔ ¬ 0 ≤ x := by
  rw [Int32.lt_iff_toInt_lt, Int32.le_iff_toInt_le]
  omega
