/-! pure: judged, spare; the only guest of a set -/
theorem nat_of_bits {x : Int32} {n : Nat} (h : ∀ i, i < 32 → bt x i = true → i < n) : ∃ v, v < 2 ^ n ∧ x = nI v := by
  obtain ⟨v, hv, rfl⟩ := wb_of32 x
  refine ⟨v, Nat.lt_pow_two_of_testBit v (fun i hi => ?_), rfl⟩
  by_cases h32 : i < 32
  · cases hb : v.testBit i
    · rfl
    · have := h i h32 (by rw [bt_nI hv]; exact hb)
      omega
  · exact Nat.testBit_lt_two_pow (Nat.lt_of_lt_of_le hv (Nat.pow_le_pow_right (by omega) (by omega)))
theorem who_nat {n : Nat} (h8 : n ≤ 8) (x : Int32) : ∃ v, v < 256 ∧ whoS n x = nI v := by
  obtain ⟨v, hv, e⟩ := nat_of_bits (x := whoS n x) (n := n) (fun i hi hb => whoS_lt hi hb)
  exact ⟨v, Nat.lt_of_lt_of_le hv (Nat.pow_le_pow_right (by omega) h8), e⟩
def aloneS (x : Int32) : Int32 := fl (fun k (a : Int32) => if x = 1 <<< (nI k &&& 31) then nI k else a) 8 (-1)
theorem s12_alone (x : Int32) : f12_alone x = some (aloneS x) := by
  refine loop_fl (fun m j a => f12_alone_4 m x a (nI j)) (fun k (a : Int32) => if x = 1 <<< (nI k &&& 31) then nI k else a) some 8 (-1) ?_ ?_ FU 0 (Nat.zero_le _) (FU_lt (by omega))
  · intro m
    show f12_alone_4 (m + 1) _ _ (nI 8) = _
    rw [f12_alone_4, if_pos (by decide)]
  · intro m j hj
    show f12_alone_4 (m + 1) _ _ (nI j) = f12_alone_4 m _ _ (nI (j + 1))
    rw [f12_alone_4, if_neg (show ¬ (8 : Int32) ≤ nI j from nI_ge (b := 8) hj (by omega))]
    unfold f12_alone_22
    simp only [lt_e, nI_1]
    split <;> rfl
theorem alone_c : ∀ v, v < 256 → (cnt (nI v) = 1 → fj6_numberOfTrailingZeros (nI v) = some (aloneS (nI v))) ∧ (¬ cnt (nI v) = 1 → aloneS (nI v) = -1) := by decide +kernel
theorem alone_0 : ∀ v, v < 256 → ((0 : Int32) ≤ aloneS (nI v) ↔ cnt (nI v) = 1) := by decide +kernel
theorem s11_onlyOne {n : Nat} (h8 : n ≤ 8) (x : Int32) : f11_onlyOne (whoS n x) = some (aloneS (whoS n x)) := by
  obtain ⟨v, hv, e⟩ := who_nat h8 x
  rw [e]
  unfold f11_onlyOne f11_onlyOne_16
  rw [sj_bitCount, bd_s]
  obtain ⟨h1, h2⟩ := alone_c v hv
  by_cases h : cnt (nI v) = 1
  · rw [if_pos (by rw [h]; rfl), h1 h, bd_s]
  · have hc : cnt (nI v) ≤ 32 := cnt_le _
    rw [if_neg (fun hh => h (by rw [show (1 : Int32) = nI 1 from rfl, nI_eq (by omega) (by omega)] at hh; exact hh)), h2 h]
/-- the morning, line by line -/
def bhS (all : Int32) (ne go : Nat → Int32) (i : Nat) (a : Int32) : Int32 := if ne i = 0 then (if a &&& go i = 0 then a else a &&& go i) else all
def lastF (all : Int32) (ne go : Nat → Int32) (wo : Int32) (j : Nat) : Int32 := fl (fun i (a : Int32) => if nI i = wo then a else bhS all ne go i a) j all
theorem lastF_s (all : Int32) (ne go : Nat → Int32) (wo : Int32) (j : Nat) : lastF all ne go wo (j + 1) = if nI j = wo then lastF all ne go wo j else bhS all ne go j (lastF all ne go wo j) := rfl
def canN (all : Int32) (ne go : Nat → Int32) (wo : Int32) (k : Nat) : Int32 := if ¬ nI k = wo ∧ ne k = 0 ∧ lastF all ne go wo k &&& go k = 0 then 0 else 1
theorem canN_0 {all : Int32} {ne go : Nat → Int32} {wo : Int32} {k : Nat} : canN all ne go wo k = 0 ↔ (¬ nI k = wo ∧ ne k = 0 ∧ lastF all ne go wo k &&& go k = 0) := by
  unfold canN
  split
  · rename_i h; exact ⟨fun _ => h, fun _ => rfl⟩
  · rename_i h; exact ⟨fun h2 => absurd h2 (by decide), fun h2 => absurd h2 h⟩
theorem s7_behind {SN : Ob} {i : Nat} (hi : i < 24) (a all : Int32) : f7_behind (nI i) a all SN = some (bhS all (SN.2.2.1 2) (SN.2.2.1 1) i a) := by
  unfold f7_behind f7_behind_32 bhS
  rw [inb_nI hi (by omega), ck_t, ck_t, nI_clamp (by omega), lt_e]
  by_cases h : SN.2.2.1 2 i = 0
  · rw [if_pos h, if_pos h]
    by_cases h2 : a &&& SN.2.2.1 1 i = 0
    · rw [if_pos h2, if_pos h2]
    · rw [if_neg h2, if_neg h2]
  · rw [if_neg h, if_neg h]
theorem s7_left {SN : Ob} {l : Nat} (hl : SN.1 0 = nI l) (h24 : l ≤ 24) (all wo : Int32) : f7_leftAtLast all wo SN = some (lastF all (SN.2.2.1 2) (SN.2.2.1 1) wo l) := by
  refine loop_fl (fun m j a => f7_leftAtLast_5 m all wo a (nI j) SN) (fun i (a : Int32) => if nI i = wo then a else bhS all (SN.2.2.1 2) (SN.2.2.1 1) i a) some l all ?_ ?_ FU 0 (Nat.zero_le _) (FU_lt (by omega))
  · intro m
    show f7_leftAtLast_5 (m + 1) _ _ _ (nI l) SN = _
    rw [f7_leftAtLast_5, hl, if_pos (nI_le (Nat.le_refl l) (by omega))]
  · intro m j hj
    show f7_leftAtLast_5 (m + 1) _ _ _ (nI j) SN = f7_leftAtLast_5 m _ _ _ (nI (j + 1)) SN
    rw [f7_leftAtLast_5, hl, if_neg (nI_ge hj (by omega)), s7_behind (by omega)]
    unfold f7_leftAtLast_29
    simp only [bd_s, lt_e, nI_1]
    split <;> rfl
theorem s7_first {SN : Ob} {l : Nat} (hl : SN.1 0 = nI l) (h24 : l ≤ 24) (all : Int32) : f7_firstThatCannotBe all SN = some (fst0 (canN all (SN.2.2.1 2) (SN.2.2.1 1) (-1)) l) := by
  have nm : ∀ k, k ≤ 24 → ¬ nI k = -1 := fun k hk h => by
    have := congrArg Int32.toInt h
    rw [nI_toInt (by omega)] at this
    have e : (-1 : Int32).toInt = -1 := by decide
    omega
  have key : ∀ m k, k ≤ l → l - k < m → (∀ j, j < k → ¬ canN all (SN.2.2.1 2) (SN.2.2.1 1) (-1) j = 0) → f7_firstThatCannotBe_4 m all (lastF all (SN.2.2.1 2) (SN.2.2.1 1) (-1) k) (nI k) SN = some (fst0 (canN all (SN.2.2.1 2) (SN.2.2.1 1) (-1)) l) := by
    intro m
    induction m with
    | zero => intro k h1 h2; omega
    | succ m ih =>
      intro k h1 h2 hb
      rw [f7_firstThatCannotBe_4, hl]
      by_cases h : k = l
      · subst h
        rw [if_pos (nI_le (Nat.le_refl k) (by omega)), fst0_no hb]
      · rw [if_neg (nI_ge (by omega) (by omega)), inb_nI (by omega) (by omega), ck_t, ck_t, nI_clamp (by omega)]
        unfold f7_firstThatCannotBe_34
        have e := lastF_s all (SN.2.2.1 2) (SN.2.2.1 1) (-1) k
        rw [if_neg (nm k (by omega))] at e
        rw [s7_behind (by omega), bd_s, lt_e, nI_1, ← e]
        by_cases hz : canN all (SN.2.2.1 2) (SN.2.2.1 1) (-1) k = 0
        · obtain ⟨-, z2, z3⟩ := canN_0.mp hz
          rw [if_pos z2, if_pos z3, fst0_at hz hb (by omega) (by omega)]
        · have hrec := ih (k + 1) (by omega) (by omega) (fun j hj => by
            by_cases hj2 : j = k
            · rw [hj2]; exact hz
            · exact hb j (by omega))
          by_cases z2 : SN.2.2.1 2 k = 0
          · rw [if_pos z2, if_neg (fun z3 => hz (canN_0.mpr ⟨nm k (by omega), z2, z3⟩)), hrec]
          · rw [if_neg z2, hrec]
  exact key FU 0 (Nat.zero_le _) (FU_lt (by omega)) (fun j hj => absurd hj (Nat.not_lt_zero j))
theorem InvN_24 {cs : Nat → Ob} {sm : Ob} {n g : Nat} (h : InvN cs sm n g) (p : Nat → Int32) : InvN cs (sR sm 24 p) n g := h
theorem InvN_630 {cs : Nat → Ob} {sm : Ob} {n g : Nat} (h : InvN cs sm n g) {p : Nat → Int32} (hp : ∀ i, i < 630 → p i = sm.2.2.1 25 i) : InvN cs (sR sm 25 p) n g := by
  obtain ⟨hC, hM, hB, hU, hK, hT, hO, hL, hN⟩ := h
  refine ⟨hC, hM, BkR_like hB (fun i _ hi => hp i (by omega)), ?_, MkR_like hK (fun i _ hi => hp i (by omega)) rfl (fun _ _ => rfl), hT, hO, hL, hN⟩
  obtain ⟨u, t, te, u16, t10, hu1, hu2, ht, hte, hmo, hen⟩ := hU
  refine ⟨u, t, te, u16, t10, hu1, hu2, ht, hte, hmo, fun e he => ?_⟩
  obtain ⟨d1, d2, d3, d4, d5⟩ := hen e he
  have := hte e he
  exact ⟨(hp _ (by omega)).trans d1, d2, d3, (hp _ (by omega)).trans d4, fun k hk => (hp _ (by omega)).trans (d5 k hk)⟩
theorem line_at {cs : Nat → Ob} {SM : Ob} {n g l k : Nat} (h : InvN cs SM n g) (hl : (cs 15).1 0 = nI l) (hk : k < l) (h24 : l ≤ 24) : ∃ v p, f12_lineIn (nI (1 + 3 * k)) SM = some (v, sR SM 24 p) ∧ ((cs 15).2.2.1 2 k = 0 → v = (cs 15).2.2.1 1 k) ∧ (SM.2.2.1 22 (1 + 3 * k) = 4 ↔ ¬ (cs 15).2.2.1 2 k = 0) ∧ SM.2.2.1 22 0 = nI l := by
  obtain ⟨l', l1, l2, l3, l4⟩ := h.2.2.2.2.2.2.1
  have e : l' = l := (nI_eq (by omega) (by omega)).mp (l2.symm.trans hl)
  subst e
  obtain ⟨a1, a2, v, a3, a4⟩ := l4 k hk
  obtain ⟨p, hp⟩ := a3 SM (fun _ _ _ => rfl) (fun _ _ _ => rfl) (fun _ _ _ => rfl) (fun _ _ _ => rfl) (fun _ _ _ => rfl)
  refine ⟨v, p, hp, a4, a2.trans ⟨fun h h2 => ?_, fun h => ?_⟩, l3⟩
  · rw [h] at h2; exact absurd h2 (by decide)
  · rcases a1 with h2 | h2
    · exact absurd h2 h
    · exact h2
theorem e12_night {cs : Nat → Ob} {SM : Ob} {n g t : Nat} (h : InvN cs SM n g) (ht : SM.2.2.1 25 631 = nI t) (h10 : t ≤ 10) : ∃ p t', f12_endsNight 630 SM = some (sR SM 25 p) ∧ (∀ i, i < 630 → p i = SM.2.2.1 25 i) ∧ p 630 = allS n ∧ p 631 = nI t' ∧ t' ≤ 10 := by
  have hn := h.2.1.1
  have h8 := h.1.1
  have e1 : (630 : Int32) + 1 = nI 631 := by decide
  have e0 : (630 : Int32) + 0 = nI 630 := by decide
  have e2 : (630 : Int32) + 2 = nI 632 := by decide
  unfold f12_endsNight f12_endsNight_54
  rw [e1, e0, e2, inb_nI (by omega) (by omega), inb_nI (by omega) (by omega), nI_clamp (by omega), nI_clamp (by omega), ck_t, ck_t, ck_t, ht]
  by_cases h9 : t = 10
  · subst h9
    rw [if_pos (by decide), s12_everyWorld hn h8, bd_s, ck_t, lt_e]
    refine ⟨upd (SM.2.2.1 25) 630 (allS n), 10, rfl, fun i hi => pk_un (by omega), pk_us, ?_, by omega⟩
    rw [pk_un (by omega), ht]
  · rw [if_neg (show ¬ (10 : Int32) ≤ nI t from nI_ge (b := 10) (by omega) (by omega)), s12_whoIn _ hn h8, bd_s, nI_add, inb_nI (by omega) (by omega), ck_t, lt_e, ck_t, ck_t, nI_clamp (by omega)]
    obtain ⟨w, hw⟩ : ∃ w, w = whoS n (SM.2.2.1 25 630) := ⟨_, rfl⟩
    rw [← hw]
    have e3 : (oA SM 25 (632 + t) w).2.2.1 25 631 = nI t := by
      show upd (SM.2.2.1 25) (632 + t) w 631 = _
      rw [pk_un (by omega), ht]
    rw [e3, lt_e, s12_everyWorld (SM := oA (oA SM 25 (632 + t) w) 25 631 (nI t + 1)) hn h8, bd_s, ck_t, lt_e, oA_sR SM 25 (632 + t) w, sR_oA, sR_oA, nI_1]
    refine ⟨_, t + 1, rfl, fun i hi => ?_, pk_us, ?_, by omega⟩
    · rw [pk_un (by omega), pk_un (by omega), pk_un (by omega)]
    · rw [pk_un (by omega), pk_us]
theorem r12_runs {cs : Nat → Ob} {SM : Ob} {n g l : Nat} (h : InvN cs SM n g) (hl : (cs 15).1 0 = nI l) (h24 : l ≤ 24) (wo : Int32) : ∃ SM1, f12_runs wo SM = some (fst0 (canN (allS n) ((cs 15).2.2.1 2) ((cs 15).2.2.1 1) wo) l, SM1) ∧ InvN cs SM1 n g ∧ SM1.2.2.1 25 630 = lastF (allS n) ((cs 15).2.2.1 2) ((cs 15).2.2.1 1) wo l := by
  obtain ⟨ne, hne⟩ : ∃ ne, ne = (cs 15).2.2.1 2 := ⟨_, rfl⟩
  obtain ⟨go, hgo⟩ : ∃ go, go = (cs 15).2.2.1 1 := ⟨_, rfl⟩
  have hn := h.2.1.1
  have h8 := h.1.1
  have hl22 : ∀ {SM' : Ob}, InvN cs SM' n g → SM'.2.2.1 22 0 = nI l := by
    intro SM' hI
    obtain ⟨l', l1, l2, l3, l4⟩ := hI.2.2.2.2.2.2.1
    have e : l' = l := (nI_eq (by omega) (by omega)).mp (l2.symm.trans hl)
    rw [← e]; exact l3
  have hI0 := InvN_630 h (p := upd (upd (SM.2.2.1 25) 630 (allS n)) 631 0) (fun i hi => by rw [pk_un (by omega), pk_un (by omega)])
  obtain ⟨r, e, hr1, hr2, hr3⟩ := loop_inv (fun q j (a : Int32 × Ob) => f12_runs_11 q wo a.1 (nI j) a.2) (fun j a => InvN cs a.2 n g ∧ a.2.2.2.1 25 630 = lastF (allS n) ne go wo j ∧ (∃ t, t ≤ 10 ∧ a.2.2.2.1 25 631 = nI t) ∧ a.1 = fst0 (canN (allS n) ne go wo) j) (fun r => r.1 = fst0 (canN (allS n) ne go wo) l ∧ InvN cs r.2 n g ∧ r.2.2.2.1 25 630 = lastF (allS n) ne go wo l) l
    (by
      intro q a ha
      obtain ⟨a1, S⟩ := a
      obtain ⟨b1, b2, b3, b4⟩ := ha
      refine ⟨(a1, S), ?_, b4, b1, b2⟩
      show f12_runs_11 (q + 1) wo a1 (nI l) S = _
      rw [f12_runs_11]
      show ck true (if S.2.2.1 22 0 ≤ nI l then _ else _) = _
      rw [ck_t, hl22 b1, if_pos (nI_le (Nat.le_refl l) (by omega))])
    (by
      intro q j a hj ha
      obtain ⟨a1, S⟩ := a
      obtain ⟨b1, b2, ⟨t, b3, b5⟩, b4⟩ := ha
      have b2' : S.2.2.1 25 630 = _ := b2
      have b4' : a1 = _ := b4
      have b5' : S.2.2.1 25 631 = _ := b5
      obtain ⟨v, p, c1, c2, c3, c4⟩ := line_at b1 hl hj h24
      rw [← hne, ← hgo] at c2
      rw [← hne] at c3
      have hI1 : InvN cs (sR S 24 p) n g := InvN_24 b1 p
      have step : f12_runs_11 (q + 1) wo a1 (nI j) S = f12_runs_60 (f12_runs_11 q) wo a1 (nI j) (lastF (allS n) ne go wo j &&& v) (if ne j = 0 then 0 else 1) (sR S 24 p) := by
        rw [f12_runs_11]
        have i1 : (1 : Int32) + 3 * nI j = nI (1 + 3 * j) := by rw [show (3 : Int32) = nI 3 from rfl, show (1 : Int32) = nI 1 from rfl, pk_mul, nI_add]
        show ck true (if S.2.2.1 22 0 ≤ nI j then _ else _) = _
        rw [ck_t, c4, if_neg (nI_ge hj (by omega)), i1, c1, bd_s]
        show ck true (lt (S.2.2.1 25 630 &&& v) _) = _
        rw [ck_t, lt_e, inb_nI (by omega) (by omega), ck_t, nI_clamp (by omega), b2']
        show (if S.2.2.1 22 (1 + 3 * j) = 4 then _ else _) = _
        by_cases hz : ne j = 0
        · rw [if_neg (fun h => (c3.mp h) hz), if_pos hz]
        · rw [if_pos (c3.mpr hz), if_neg hz]
      have hla := lastF_s (allS n) ne go wo j
      have hfs := fst0_s (canN (allS n) ne go wo) j
      by_cases hw : nI j = wo
      · refine ⟨(a1, sR S 24 p), ⟨hI1, ?_, ⟨t, b3, b5⟩, ?_⟩, ?_⟩
        · rw [hla, if_pos hw]; exact b2
        · rw [hfs, if_neg (fun h => (canN_0.mp h).1 hw)]; exact b4
        · show f12_runs_11 (q + 1) wo a1 (nI j) S = f12_runs_11 q wo a1 (nI (j + 1)) (sR S 24 p)
          rw [step]
          unfold f12_runs_60 f12_runs_82 f12_runs_105 f12_runs_120
          rw [if_pos hw, if_pos hw, if_pos hw, lt_e, nI_1]
      · rw [if_neg hw] at hla
        by_cases hz : ne j = 0
        · have hv := c2 hz
          by_cases hs : lastF (allS n) ne go wo j &&& go j = 0
          · have hb : bhS (allS n) ne go j (lastF (allS n) ne go wo j) = lastF (allS n) ne go wo j := by
              unfold bhS; rw [if_pos hz, if_pos hs]
            rw [if_pos (canN_0.mpr ⟨hw, hz, hs⟩)] at hfs
            refine ⟨(fst0 (canN (allS n) ne go wo) (j + 1), sR S 24 p), ⟨hI1, ?_, ⟨t, b3, b5⟩, rfl⟩, ?_⟩
            · rw [hla, hb]; exact b2
            · show f12_runs_11 (q + 1) wo a1 (nI j) S = f12_runs_11 q wo _ (nI (j + 1)) (sR S 24 p)
              rw [step]
              unfold f12_runs_60 f12_runs_82 f12_runs_105 f12_runs_119 f12_runs_120
              rw [if_neg hw, if_pos hz, if_pos rfl, if_neg hw, hv, if_pos hs, if_neg hw, lt_e, nI_1, hfs, b4']
              by_cases h0 : 0 ≤ fst0 (canN (allS n) ne go wo) j
              · rw [if_pos h0, if_pos h0]
              · rw [if_neg h0, if_neg h0]; rfl
          · have hb : bhS (allS n) ne go j (lastF (allS n) ne go wo j) = lastF (allS n) ne go wo j &&& go j := by
              unfold bhS; rw [if_pos hz, if_neg hs]
            rw [if_neg (fun h => hs (canN_0.mp h).2.2)] at hfs
            refine ⟨(a1, sR (sR S 24 p) 25 (upd ((sR S 24 p).2.2.1 25) 630 (lastF (allS n) ne go wo j &&& go j))), ⟨InvN_630 hI1 (fun i hi => pk_un (by omega)), ?_, ⟨t, b3, ?_⟩, ?_⟩, ?_⟩
            · rw [hla, hb]
              show upd (S.2.2.1 25) 630 (lastF (allS n) ne go wo j &&& go j) 630 = _
              exact pk_us
            · show upd (S.2.2.1 25) 630 (lastF (allS n) ne go wo j &&& go j) 631 = _
              rw [pk_un (by omega)]; exact b5
            · rw [hfs]; exact b4
            · show f12_runs_11 (q + 1) wo a1 (nI j) S = f12_runs_11 q wo a1 (nI (j + 1)) _
              rw [step]
              unfold f12_runs_60 f12_runs_82 f12_runs_120
              rw [if_neg hw, if_pos hz, if_pos rfl, if_neg hw, hv, if_neg hs, lt_e, lt_e, nI_1]
              rfl
        · have hb : bhS (allS n) ne go j (lastF (allS n) ne go wo j) = allS n := by
            unfold bhS; rw [if_neg hz]
          rw [if_neg (fun h => hz (canN_0.mp h).2.1)] at hfs
          obtain ⟨p2, t', d1, d2, d3, d4, d5⟩ := e12_night (SM := sR S 24 p) hI1 b5' b3
          refine ⟨(a1, sR (sR S 24 p) 25 p2), ⟨InvN_630 hI1 d2, ?_, ⟨t', d5, d4⟩, ?_⟩, ?_⟩
          · show p2 630 = _
            rw [d3, hla, hb]
          · rw [hfs]; exact b4
          · show f12_runs_11 (q + 1) wo a1 (nI j) S = f12_runs_11 q wo a1 (nI (j + 1)) _
            rw [step]
            unfold f12_runs_60 f12_runs_120
            rw [if_neg hw, if_neg hz, if_neg (by decide), d1, bd_s, lt_e, nI_1])
    FU 0 (-1, sR SM 25 (upd (upd (SM.2.2.1 25) 630 (allS n)) 631 0)) (Nat.zero_le _) (FU_lt (by omega)) ⟨hI0, by show upd (upd (SM.2.2.1 25) 630 (allS n)) 631 0 630 = _; rw [pk_un (by omega), pk_us]; rfl, ⟨0, by omega, by show upd (upd (SM.2.2.1 25) 630 (allS n)) 631 0 631 = nI 0; rw [pk_us]; rfl⟩, rfl⟩
  obtain ⟨r1, S1⟩ := r
  rw [← hne, ← hgo]
  have hr1' : r1 = _ := hr1
  refine ⟨S1, ?_, hr2, hr3⟩
  rw [← hr1']
  unfold f12_runs f12_starts
  rw [s12_everyWorld hn h8, bd_s]
  have e1 : (630 : Int32) + 1 = nI 631 := by decide
  have e0 : (630 : Int32) + 0 = nI 630 := by decide
  rw [e1, e0, inb_nI (by omega) (by omega), ck_t, lt_e, inb_nI (by omega) (by omega), ck_t, lt_e, nI_clamp (by omega), nI_clamp (by omega), oA_sR SM 25 630, sR_oA, bd_s]
  exact e
theorem mo_l {cs : Nat → Ob} {sm : Ob} {n g : Nat} (h : InvN cs sm n g) : ∃ l, l ≤ 24 ∧ (cs 15).1 0 = nI l ∧ sm.2.2.1 22 0 = nI l := by
  obtain ⟨l', l1, l2, l3, l4⟩ := h.2.2.2.2.2.2.1
  exact ⟨l', l1, l2, l3⟩
theorem st_judged : St_judged Inv := by
  intro cs sm x1 h
  obtain ⟨n, g, hI⟩ := h
  obtain ⟨hC, hM, hB, hR⟩ := id hI
  obtain ⟨h8, h6, hn, -⟩ := id hC
  have hI' : InvN cs (oI sm 0 0) n g := hI
  obtain ⟨l, h24, hl, -⟩ := mo_l hI
  obtain ⟨S1, e1, e2, e3⟩ := r12_runs hI' hl h24 (-1)
  rcases pk_ix x1 (n := 3) (by omega) with hx | hx | ⟨j, hj, rfl⟩
  · refine ⟨-2, oI sm 0 0, ?_, ?_, n, g, hI'⟩
    · unfold f11_judged
      have : ∀ q : Int32, ¬ q < 0 → ¬ x1 = q := fun q hq he => hq (he ▸ hx)
      rw [if_neg (this _ (by decide)), if_neg (this _ (by decide)), if_neg (this _ (by decide))]
    · unfold f12_judged
      rw [lt_e, s12_withinL_no (Or.inl hx)]; rfl
  · refine ⟨-2, oI sm 0 0, ?_, ?_, n, g, hI'⟩
    · unfold f11_judged
      have : ∀ q : Int32, ¬ nI 3 ≤ q → ¬ x1 = q := fun q hq he => hq (he ▸ hx)
      rw [if_neg (this _ (by decide)), if_neg (this _ (by decide)), if_neg (this _ (by decide))]
    · unfold f12_judged
      rw [lt_e, s12_withinL_no (Or.inr (by
        rw [Int32.le_iff_toInt_le] at hx; rw [Int32.lt_iff_toInt_lt]
        have : (nI 3).toInt = 3 := by decide
        have : (2 : Int32).toInt = 2 := by decide
        omega))]; rfl
  · have hw : f12_within (nI j) 0 2 = some 1 := s12_withinL_yes (nI_pos (by omega)) (nI_nlt (a := 2) (by omega) (by omega))
    have hn1 : S1.2.2.1 10 0 = nI n := e2.2.1.1
    have : j = 0 ∨ j = 1 ∨ j = 2 := by omega
    rcases this with rfl | rfl | rfl
    · refine ⟨fst0 (canN (allS n) ((cs 15).2.2.1 2) ((cs 15).2.2.1 1) (-1)) l, S1, ?_, ?_, n, g, e2⟩
      · unfold f11_judged
        rw [if_pos (by decide), s4_all hn h8, bd_s, s7_first hl h24, bd_s]
      · unfold f12_judged
        rw [lt_e, hw, bd_s, if_neg (by decide), e1, bd_s, lt_e, if_pos (by decide)]
        rfl
    · refine ⟨nI (cnt (lastF (allS n) ((cs 15).2.2.1 2) ((cs 15).2.2.1 1) (-1) l)), S1, ?_, ?_, n, g, e2⟩
      · unfold f11_judged
        rw [if_neg (by decide), if_pos (by decide), s4_all hn h8, bd_s, s7_left hl h24, bd_s, sj_bitCount, bd_s]
      · unfold f12_judged
        rw [lt_e, hw, bd_s, if_neg (by decide), e1, bd_s, lt_e, if_neg (by decide), if_pos (by decide)]
        show ck true (bd (f12_bits (S1.2.2.1 25 630)) _) = _
        rw [ck_t, e3, s12_bits, bd_s]
        rfl
    · refine ⟨aloneS (whoS n (lastF (allS n) ((cs 15).2.2.1 2) ((cs 15).2.2.1 1) (-1) l)), S1, ?_, ?_, n, g, e2⟩
      · unfold f11_judged
        rw [if_neg (by decide), if_neg (by decide), if_pos (by decide), s4_all hn h8, bd_s, s7_left hl h24, bd_s, s4_guestsIn _ hn h8, bd_s, s11_onlyOne h8, bd_s]
      · unfold f12_judged
        rw [lt_e, hw, bd_s, if_neg (by decide), e1, bd_s, lt_e, if_neg (by decide), if_neg (by decide)]
        show ck true (bd (f12_whoIn (S1.2.2.1 25 630) S1) _) = _
        rw [ck_t, e3, s12_whoIn _ hn1 h8, bd_s, s12_alone, bd_s]
        rfl
def spaF (all : Int32) (ne go : Nat → Int32) (l k : Nat) (a : Int32) : Int32 := if lastF all ne go (nI k) l = lastF all ne go (-1) l then a ||| (1 <<< (nI k &&& 31)) else a
theorem st_spare : St_spare Inv := by
  intro cs sm h
  obtain ⟨n, g, hI⟩ := h
  obtain ⟨hC, hM, hB, hR⟩ := id hI
  obtain ⟨h8, h6, hn, -⟩ := id hC
  have hI' : InvN cs (oI sm 0 0) n g := hI
  obtain ⟨l, h24, hl, -⟩ := mo_l hI
  obtain ⟨S1, e1, e2, e3⟩ := r12_runs hI' hl h24 (-1)
  obtain ⟨ne, hne⟩ : ∃ ne, ne = (cs 15).2.2.1 2 := ⟨_, rfl⟩
  obtain ⟨go, hgo⟩ : ∃ go, go = (cs 15).2.2.1 1 := ⟨_, rfl⟩
  rw [← hne, ← hgo] at e1 e3
  obtain ⟨r, q1, q2, q3⟩ := loop_inv (fun q j (a : Int32 × Ob) => f12_spare_24 q (lastF (allS n) ne go (-1) l) a.1 (nI j) a.2) (fun j a => InvN cs a.2 n g ∧ a.1 = fl (spaF (allS n) ne go l) j 0) (fun r => InvN cs r.2 n g ∧ r.1 = fl (spaF (allS n) ne go l) l 0) l
    (by
      intro q a ha
      obtain ⟨a1, S⟩ := a
      refine ⟨(a1, S), ?_, ha⟩
      obtain ⟨l', -, b1, b2⟩ := mo_l ha.1
      have b2' : S.2.2.1 22 0 = nI l := b2.trans (b1.symm.trans hl)
      show f12_spare_24 (q + 1) _ a1 (nI l) S = _
      rw [f12_spare_24]
      show ck true (if S.2.2.1 22 0 ≤ nI l then _ else _) = _
      rw [ck_t, b2', if_pos (nI_le (Nat.le_refl l) (by omega))])
    (by
      intro q j a hj ha
      obtain ⟨a1, S⟩ := a
      have hS : InvN cs S n g := ha.1
      have ha2 : a1 = _ := ha.2
      obtain ⟨l', -, b1, b2⟩ := mo_l hS
      have b2' : S.2.2.1 22 0 = nI l := b2.trans (b1.symm.trans hl)
      obtain ⟨S2, d1, d2, d3⟩ := r12_runs hS hl h24 (nI j)
      rw [← hne, ← hgo] at d1 d3
      refine ⟨(fl (spaF (allS n) ne go l) (j + 1) 0, S2), ⟨d2, rfl⟩, ?_⟩
      show f12_spare_24 (q + 1) _ a1 (nI j) S = f12_spare_24 q _ _ (nI (j + 1)) S2
      rw [f12_spare_24]
      show ck true (if S.2.2.1 22 0 ≤ nI j then _ else _) = _
      rw [ck_t, b2', if_neg (nI_ge hj (by omega)), d1, bd_s]
      show ck true (if S2.2.2.1 25 630 = _ then _ else _) = _
      rw [ck_t, d3, fl_succ]
      unfold f12_spare_60
      simp only [lt_e, nI_1, ← ha2]
      unfold spaF
      by_cases hz : lastF (allS n) ne go (nI j) l = lastF (allS n) ne go (-1) l
      · rw [if_pos hz, if_pos hz]
      · rw [if_neg hz, if_neg hz, Int32.or_zero])
    FU 0 (0, S1) (Nat.zero_le _) (FU_lt (by omega)) ⟨e2, rfl⟩
  obtain ⟨r1, S2⟩ := r
  have q3' : r1 = _ := q3
  refine ⟨fl (spaF (allS n) ne go l) l 0, S2, ?_, ?_, n, g, q2⟩
  · unfold f11_spare f7_needless
    rw [s4_all hn h8, bd_s, s7_left hl h24, bd_s, ← hne, ← hgo]
    have hloop := loop_fl (fun m j a => f7_needless_12 m (allS n) (lastF (allS n) ne go (-1) l) a (nI j) (cs 15)) (spaF (allS n) ne go l) some l 0
      (by
        intro m
        show f7_needless_12 (m + 1) _ _ _ (nI l) _ = _
        rw [f7_needless_12, hl, if_pos (nI_le (Nat.le_refl l) (by omega))])
      (by
        intro m j hj
        show f7_needless_12 (m + 1) _ _ _ (nI j) _ = f7_needless_12 m _ _ _ (nI (j + 1)) _
        rw [f7_needless_12, hl, if_neg (nI_ge hj (by omega)), s7_left hl h24, bd_s, ← hne, ← hgo]
        unfold f7_needless_39
        simp only [lt_e, nI_1]
        unfold spaF
        split <;> rfl)
      FU 0 (Nat.zero_le _) (FU_lt (by omega))
    have hloop' : f7_needless_12 FU (allS n) (lastF (allS n) ne go (-1) l) 0 0 (cs 15) = _ := hloop
    rw [hloop', bd_s]
  · unfold f12_spare
    rw [lt_e, e1, bd_s]
    show ck true (lt (S1.2.2.1 25 630) _) = _
    rw [ck_t, lt_e, e3, ← q3']
    exact q1
