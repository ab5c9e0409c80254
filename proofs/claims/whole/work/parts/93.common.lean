/-! pure: common -/
def SbS (a b : Int32) : Prop := ∀ i, i < 32 → bt a i = true → bt b i = true
def ClP (n : Nat) (sh sg : Nat → Nat) (lf C : Int32) : Prop := ∀ j, j < n → ∀ k, k < 4 * n → bt C k = true → ∀ v, v < 32 → bt lf v = true → sh k &&& sg j = sh v &&& sg j → bt C v = true
theorem s6_seenFrom {SI : Ob} {sh : Nat → Nat} {n : Nat} (hn : SI.1 0 = nI n) (h8 : n ≤ 8) (hs : ShR SI sh) (sv : Nat) (lf x : Int32) : ∃ r, f6_seenFrom (nI sv) lf x SI = some r ∧ ∀ v, v < 32 → (bt r v = true ↔ bt lf v = true ∧ ∃ k, k < 4 * n ∧ bt x k = true ∧ sh k &&& sv = sh v &&& sv) := by
  refine loop_inv (fun q j L => f6_seenFrom_6 q (nI sv) lf x L (nI j) SI) (fun j L => ∀ k, LB L k = true ↔ ∃ c, c < j ∧ lkP x sh sv c k) _ n ?_ ?_ FU 0 0 (Nat.zero_le _) (FU_lt (by omega)) (fun k => ⟨fun h => absurd (h : LB 0 k = true) (by rw [LB_0]; decide), fun ⟨c, h, _⟩ => absurd h (Nat.not_lt_zero c)⟩)
  · intro q L hL
    refine ⟨so (fun v => bt lf v && LB L (sh v &&& sv)), ?_, fun v hv => ?_⟩
    · show f6_seenFrom_6 (q + 1) _ _ _ _ (nI n) SI = _
      rw [f6_seenFrom_6, hn, if_pos (nI_le (Nat.le_refl n) (by omega)), s6_withLooks hs, bd_s]
    · rw [so_bt _ hv, Bool.and_eq_true, hL]
      constructor
      · rintro ⟨h1, c, h2, i, h3, h4, h5⟩
        exact ⟨h1, 4 * c + i, by omega, h4, h5⟩
      · rintro ⟨h1, k, h2, h3, h4⟩
        refine ⟨h1, k / 4, by omega, k % 4, by omega, ?_, ?_⟩
        · rw [show 4 * (k / 4) + k % 4 = k by omega]; exact h3
        · rw [show 4 * (k / 4) + k % 4 = k by omega]; exact h4
  · intro q j L hj hL
    obtain ⟨L2, e, hL2⟩ := s6_looks hs sv x (j := j) (by omega)
    refine ⟨L ||| L2, fun k => ?_, ?_⟩
    · rw [LB_or, Bool.or_eq_true, hL k, hL2 k]
      constructor
      · rintro (⟨c, c1, c2⟩ | h)
        · exact ⟨c, by omega, c2⟩
        · exact ⟨j, by omega, h⟩
      · rintro ⟨c, c1, c2⟩
        by_cases hc : c = j
        · subst hc; exact Or.inr c2
        · exact Or.inl ⟨c, by omega, c2⟩
    · show f6_seenFrom_6 (q + 1) _ _ _ _ (nI j) SI = f6_seenFrom_6 q _ _ _ _ (nI (j + 1)) SI
      rw [f6_seenFrom_6, hn, if_neg (nI_ge hj (by omega)), e, bd_s, lt_e, lt_e, nI_1]
theorem s6_turn {SI : Ob} {sh sg : Nat → Nat} {n : Nat} (hn : SI.1 0 = nI n) (h8 : n ≤ 8) (hs : ShR SI sh) (hg : ∀ j, j < n → SI.2.2.1 5 j = nI (sg j)) (lf x : Int32) (k7 : Int32 → Int32 → Int32 → Ob → Option (Int32)) (x4 : Int32) : ∃ y, (SbS x y ∧ (∀ C, ClP n sh sg lf C → SbS x C → SbS y C) ∧ ∀ i, i < n → ∀ k, k < 4 * n → bt x k = true → ∀ v, v < 32 → bt lf v = true → sh k &&& sg i = sh v &&& sg i → bt y v = true) ∧ f6_reached_20 k7 FU lf x x4 x 0 SI = if y = x then some y else k7 lf y (x4 + 1) SI := by
  refine loop_to (fun m j y => f6_reached_20 k7 m lf y x4 x (nI j) SI) (fun j y => SbS x y ∧ (∀ C, ClP n sh sg lf C → SbS x C → SbS y C) ∧ ∀ i, i < j → ∀ k, k < 4 * n → bt x k = true → ∀ v, v < 32 → bt lf v = true → sh k &&& sg i = sh v &&& sg i → bt y v = true) (fun y => if y = x then some y else k7 lf y (x4 + 1) SI) n ?_ ?_ FU 0 x (Nat.zero_le _) (FU_lt (by omega)) ⟨fun _ _ h => h, fun _ _ h => h, fun i hi => absurd hi (Nat.not_lt_zero i)⟩
  · intro m y _
    show f6_reached_20 k7 (m + 1) _ _ _ _ (nI n) SI = _
    rw [f6_reached_20, hn, if_pos (nI_le (Nat.le_refl n) (by omega)), lt_e]
    rfl
  · intro m j y hj hy
    obtain ⟨y1, y2, y3⟩ := hy
    obtain ⟨r, e, hr⟩ := s6_seenFrom hn h8 hs (sg j) lf y
    refine ⟨y ||| r, ⟨fun i hi h => ?_, fun C hC hx i hi h => ?_, fun i hi k hk hb v hv hl he => ?_⟩, ?_⟩
    · rw [b_or, y1 i hi h]; rfl
    · rw [b_or, Bool.or_eq_true] at h
      rcases h with h | h
      · exact y2 C hC hx i hi h
      · obtain ⟨h1, k, h2, h3, h4⟩ := (hr i hi).mp h
        exact hC j hj k h2 (y2 C hC hx k (by omega) h3) i hi h1 h4
    · rw [b_or, Bool.or_eq_true]
      by_cases hij : i = j
      · subst hij
        exact Or.inr ((hr v hv).mpr ⟨hl, k, hk, y1 k (by omega) hb, he⟩)
      · exact Or.inl (y3 i (by omega) k hk hb v hv hl he)
    · show f6_reached_20 k7 (m + 1) _ y _ _ (nI j) SI = f6_reached_20 k7 m _ (y ||| r) _ _ (nI (j + 1)) SI
      rw [f6_reached_20, hn, if_neg (nI_ge hj (by omega)), inb_nI (by omega) (by omega), ck_t, nI_clamp (by omega), hg j hj, e, bd_s, lt_e, lt_e, nI_1]
def LstS (n : Nat) (sh sg : Nat → Nat) (lf : Int32) (w : Nat) (x : Int32) : Prop := ∀ C, ClP n sh sg lf C → bt C w = true → SbS x C
theorem SbS_eq {a b : Int32} (h1 : SbS a b) (h2 : SbS b a) : a = b := b_ext (fun i hi => by
  cases ha : bt a i
  · cases hb : bt b i
    · rfl
    · rw [h2 i hi hb] at ha; exact absurd ha (by decide)
  · rw [h1 i hi ha])
theorem s6_reach {SI : Ob} {sh sg : Nat → Nat} {n w : Nat} (hn : SI.1 0 = nI n) (h8 : n ≤ 8) (hs : ShR SI sh) (hg : ∀ j, j < n → SI.2.2.1 5 j = nI (sg j)) (lf : Int32) (hw : w < 32) : ∀ d t x m, t + d = 32 → d < m → bt x w = true → LstS n sh sg lf w x → t + 1 ≤ cnt x → ∃ R, f6_reached_7 m lf x (nI t) SI = some R ∧ bt R w = true ∧ ClP n sh sg lf R ∧ LstS n sh sg lf w R := by
  intro d
  induction d with
  | zero =>
    intro t x m ht hm hb hl hc
    have := cnt_le x
    omega
  | succ d ih =>
    intro t x m ht hm hb hl hc
    obtain ⟨m, rfl⟩ : ∃ k, m = k + 1 := ⟨m - 1, by omega⟩
    obtain ⟨y, ⟨y1, y2, y3⟩, e⟩ := s6_turn hn h8 hs hg lf x (f6_reached_7 m) (nI t)
    rw [f6_reached_7, if_neg (show ¬ (32 : Int32) ≤ nI t from nI_ge (b := 32) (by omega) (by omega)), e]
    by_cases hy : y = x
    · rw [if_pos hy]
      refine ⟨y, rfl, by rw [hy]; exact hb, ?_, by rw [hy]; exact hl⟩
      intro j hj k hk hb2 v hv h1 h2
      exact y3 j hj k hk (by rw [← hy]; exact hb2) v hv h1 h2
    · rw [if_neg hy, nI_1]
      have := cnt_lt y1 (fun h => hy h.symm)
      exact ih (t + 1) y m (by omega) (by omega) (y1 w hw hb) (fun C hC hC2 => y2 C hC (hl C hC hC2)) (by omega)
theorem s12_look {SM : Ob} {sh sg : Nat → Nat} {n k : Nat} {lf : Int32} (hn : SM.2.2.1 10 0 = nI n) (h8 : n ≤ 8) (hs : ShM SM sh) (hg : ∀ j, j < n → SM.2.2.1 10 (3 + 5 * j + 3) = nI (sg j)) (hl : SM.2.2.1 25 0 = lf) (hlf : ∀ i, i < 32 → bt lf i = true → i < 4 * n) (hk : k < 4 * n) (set more : Int32) (k21 : Int32 → Int32 → Ob → Option (Int32 × Ob)) (k33 : Int32 → Int32 → Int32 → Int32 → Ob → Option (Int32 × Ob)) (x3 : Int32) : ∃ y, (SbS more y ∧ (∀ C, ClP n sh sg lf C → SbS set C → SbS more C → SbS y C) ∧ (bt set k = true → ∀ j, j < n → ∀ v, v < 32 → bt lf v = true → sh k &&& sg j = sh v &&& sg j → bt y v = true)) ∧ f12_common_45 k21 k33 FU set x3 more (nI k) 0 SM = k33 set x3 y (nI (k + 1)) SM := by
  have e88 : ∀ y, f12_common_88 k21 k33 set x3 y (nI k) SM = k33 set x3 y (nI (k + 1)) SM := fun y => by
    unfold f12_common_88; rw [lt_e, nI_1]
  cases hb : bt set k
  · refine ⟨more, ⟨fun _ _ h => h, fun _ _ _ h => h, fun h => absurd h (by decide)⟩, ?_⟩
    show f12_common_45 k21 k33 (4999 + 1) set x3 more (nI k) 0 SM = _
    rw [f12_common_45, s12_guests, hn, bd_s, s12_isIn (by omega), bd_s, hb, e88, if_pos (show (if false = true then (1 : Int32) else 0) = 0 from rfl)]
    exact ite_id _
  · obtain ⟨y, hy, e⟩ := loop_to (fun m j y => f12_common_45 k21 k33 m set x3 y (nI k) (nI j) SM) (fun j y => SbS more y ∧ (∀ C, ClP n sh sg lf C → SbS set C → SbS more C → SbS y C) ∧ ∀ i, i < j → ∀ v, v < 32 → bt lf v = true → sh k &&& sg i = sh v &&& sg i → bt y v = true) (fun y => k33 set x3 y (nI (k + 1)) SM) n
      (by
        intro m y _
        show f12_common_45 k21 k33 (m + 1) _ _ _ _ (nI n) SM = _
        rw [f12_common_45, s12_guests, hn, bd_s, if_pos (nI_le (Nat.le_refl n) (by omega)), e88])
      (by
        intro m j y hj hy
        obtain ⟨y1, y2, y3⟩ := hy
        refine ⟨y ||| vw n sh (sg j) lf k, ⟨fun i hi h => ?_, fun C hC hx hx2 i hi h => ?_, fun i hi v hv h1 h2 => ?_⟩, ?_⟩
        · rw [b_or, y1 i hi h]; rfl
        · rw [b_or, Bool.or_eq_true] at h
          rcases h with h | h
          · exact y2 C hC hx hx2 i hi h
          · obtain ⟨d1, d2, d3⟩ := (vw_bt hi).mp h
            exact hC j hj k hk (hx k (by omega) hb) i hi d2 d3.symm
        · rw [b_or, Bool.or_eq_true]
          by_cases hij : i = j
          · subst hij
            exact Or.inr ((vw_bt hv).mpr ⟨hlf v hv h1, h1, h2.symm⟩)
          · exact Or.inl (y3 i (by omega) v hv h1 h2)
        · show f12_common_45 k21 k33 (m + 1) _ _ y _ (nI j) SM = f12_common_45 k21 k33 m _ _ _ _ (nI (j + 1)) SM
          rw [f12_common_45, s12_guests, hn, bd_s, if_neg (nI_ge hj (by omega)), s12_isIn (by omega), bd_s, hb, if_neg (by decide)]
          show ck true (bd (f12_viewIn (SM.2.2.1 25 0) (nI j) (nI k) SM) _) = _
          rw [ck_t, hl, s12_viewIn _ hn h8 hs (by omega) (by omega) (hg j hj), bd_s, lt_e, lt_e, nI_1])
      FU 0 more (Nat.zero_le _) (FU_lt (by omega)) ⟨fun _ _ h => h, fun _ _ _ h => h, fun i hi => absurd hi (Nat.not_lt_zero i)⟩
    exact ⟨y, ⟨hy.1, hy.2.1, fun _ => hy.2.2⟩, e⟩
theorem s12_step {SM : Ob} {sh sg : Nat → Nat} {n : Nat} {lf : Int32} (hn : SM.2.2.1 10 0 = nI n) (h8 : n ≤ 8) (hs : ShM SM sh) (hg : ∀ j, j < n → SM.2.2.1 10 (3 + 5 * j + 3) = nI (sg j)) (hl : SM.2.2.1 25 0 = lf) (hlf : ∀ i, i < 32 → bt lf i = true → i < 4 * n) (set : Int32) (k21 : Int32 → Int32 → Ob → Option (Int32 × Ob)) (x3 : Int32) : ∃ y, (SbS set y ∧ (∀ C, ClP n sh sg lf C → SbS set C → SbS y C) ∧ ∀ k, k < 4 * n → bt set k = true → ∀ j, j < n → ∀ v, v < 32 → bt lf v = true → sh k &&& sg j = sh v &&& sg j → bt y v = true) ∧ f12_common_33 k21 FU set x3 set 0 SM = k21 y (x3 + 1) SM := by
  refine loop_to (fun m k y => f12_common_33 k21 m set x3 y (nI k) SM) (fun k y => SbS set y ∧ (∀ C, ClP n sh sg lf C → SbS set C → SbS y C) ∧ ∀ k', k' < k → bt set k' = true → ∀ j, j < n → ∀ v, v < 32 → bt lf v = true → sh k' &&& sg j = sh v &&& sg j → bt y v = true) (fun y => k21 y (x3 + 1) SM) (4 * n) ?_ ?_ FU 0 set (Nat.zero_le _) (FU_lt (by omega)) ⟨fun _ _ h => h, fun _ _ h => h, fun i hi => absurd hi (Nat.not_lt_zero i)⟩
  · intro m y _
    show f12_common_33 k21 (m + 1) _ _ _ (nI (4 * n)) SM = _
    rw [f12_common_33, s12_worlds hn, bd_s, if_pos (nI_le (Nat.le_refl _) (by omega)), lt_e]
  · intro m k y hk hy
    obtain ⟨y1, y2, y3⟩ := hy
    obtain ⟨z, ⟨z1, z2, z3⟩, e⟩ := s12_look hn h8 hs hg hl hlf hk set y k21 (f12_common_33 k21 m) x3
    refine ⟨z, ⟨fun i hi h => z1 i hi (y1 i hi h), fun C hC hx => z2 C hC hx (y2 C hC hx), fun k' hk' hb j hj v hv h1 h2 => ?_⟩, ?_⟩
    · by_cases hkk : k' = k
      · subst hkk
        exact z3 hb j hj v hv h1 h2
      · exact z1 v hv (y3 k' (by omega) hb j hj v hv h1 h2)
    · show f12_common_33 k21 (m + 1) _ _ y (nI k) SM = f12_common_33 k21 m _ _ z (nI (k + 1)) SM
      rw [f12_common_33, s12_worlds hn, bd_s, if_neg (nI_ge hk (by omega))]
      exact e
theorem s12_reach {SM : Ob} {sh sg : Nat → Nat} {n w : Nat} {lf : Int32} (hn : SM.2.2.1 10 0 = nI n) (h8 : n ≤ 8) (hs : ShM SM sh) (hg : ∀ j, j < n → SM.2.2.1 10 (3 + 5 * j + 3) = nI (sg j)) (hl : SM.2.2.1 25 0 = lf) (hlf : ∀ i, i < 32 → bt lf i = true → i < 4 * n) (hw : w < 32) : ∀ d t x m, t + d = 32 → d < m → bt x w = true → LstS n sh sg lf w x → (ClP n sh sg lf x ∨ t + 1 ≤ cnt x) → ∃ R, f12_common_21 m x (nI t) SM = some (whoS n R, SM) ∧ bt R w = true ∧ ClP n sh sg lf R ∧ LstS n sh sg lf w R := by
  intro d
  induction d with
  | zero =>
    intro t x m ht hm hb hL hc
    obtain ⟨m, rfl⟩ : ∃ k, m = k + 1 := ⟨m - 1, by omega⟩
    have hcl : ClP n sh sg lf x := by
      rcases hc with h | h
      · exact h
      · have := cnt_le x; omega
    refine ⟨x, ?_, hb, hcl, hL⟩
    rw [f12_common_21, if_pos (show (32 : Int32) ≤ nI t from nI_le (a := 32) (by omega) (by omega)), s12_whoIn _ hn h8, bd_s]
  | succ d ih =>
    intro t x m ht hm hb hL hc
    obtain ⟨m, rfl⟩ : ∃ k, m = k + 1 := ⟨m - 1, by omega⟩
    obtain ⟨y, ⟨y1, y2, y3⟩, e⟩ := s12_step hn h8 hs hg hl hlf x (f12_common_21 m) (nI t)
    rw [f12_common_21, if_neg (show ¬ (32 : Int32) ≤ nI t from nI_ge (b := 32) (by omega) (by omega)), e, nI_1]
    refine ih (t + 1) y m (by omega) (by omega) (y1 w hw hb) (fun C hC hC2 => y2 C hC (hL C hC hC2)) ?_
    by_cases hy : y = x
    · left
      rw [hy]
      intro j hj k hk hb2 v hv h1 h2
      rw [← hy]
      exact y3 k hk hb2 j hj v hv h1 h2
    · rcases hc with h | h
      · exact absurd (SbS_eq (y2 x h (fun _ _ h => h)) y1) hy
      · right
        have := cnt_lt y1 (fun h => hy h.symm)
        omega
theorem cnt_1 {w : Nat} (hw : w < 32) : 1 ≤ cnt (1 <<< (nI w &&& 31)) := by
  have : 0 < fb_ct (bt (1 <<< (nI w &&& 31))) 32 := fb_ct_pos.mpr ⟨w, hw, by rw [b_one hw hw]; simp⟩
  exact this
theorem st_common : St_common Inv := by
  intro cs sm x1 h
  obtain ⟨n, g, hI⟩ := h
  have hI' : InvN cs (oI sm 0 0) n g := hI
  obtain ⟨h8, h6, hn, -⟩ := id hI.1
  have hn' : (oI sm 0 0).2.2.1 10 0 = nI n := hI.2.1.1
  obtain ⟨s1, s2, -⟩ := inv_sh hI'
  obtain ⟨l1, l2⟩ := inv_left hI
  rcases left_both hI x1 with ⟨w, hw, rfl, hb, b1, b2⟩ | ⟨b1, b2⟩
  · have hw32 : w < 32 := by omega
    have hone : bt (1 <<< (nI w &&& 31)) w = true := by rw [b_one hw32 hw32]; simp
    have hlst : LstS n (shW cs) (sN cs) ((cs 10).1 0) w (1 <<< (nI w &&& 31)) := fun C _ hC2 i hi h => by
      rw [b_one hw32 hi] at h
      have : i = w := by simpa using h
      rw [this]; exact hC2
    obtain ⟨R1, e1, r1, r2, r3⟩ := s6_reach hn h8 s1 (fun j _ => sN_c cs j) ((cs 10).1 0) hw32 32 0 (1 <<< (nI w &&& 31)) FU rfl (FU_lt (by omega)) hone hlst (cnt_1 hw32)
    obtain ⟨R2, e2, q1, q2, q3⟩ := s12_reach hn' h8 s2 (fun j hj => sN_m hI' hj) l1 l2 hw32 32 0 (1 <<< (nI w &&& 31)) FU rfl (FU_lt (by omega)) hone hlst (Or.inr (cnt_1 hw32))
    have e : R1 = R2 := SbS_eq (r3 R2 q2 q1) (q3 R1 r2 r1)
    subst e
    refine ⟨whoS n R1, oI sm 0 0, ?_, ?_, n, g, hI'⟩
    · unfold f11_common f6_reached
      have e1' : f6_reached_7 FU ((cs 10).1 0) (1 <<< (nI w &&& 31)) 0 (cs 8) = some R1 := e1
      rw [b1, bd_s, if_neg (by decide), lt_e, e1', bd_s, s4_guestsIn _ hn h8, bd_s]
      rfl
    · unfold f12_common
      rw [lt_e, b2, bd_s, if_neg (by decide), lt_e]
      exact e2
  · refine ⟨-1, oI sm 0 0, ?_, ?_, n, g, hI'⟩
    · unfold f11_common
      rw [b1]; rfl
    · unfold f12_common
      rw [lt_e, b2]; rfl
