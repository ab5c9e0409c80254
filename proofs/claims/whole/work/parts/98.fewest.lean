/-! pure: fewest -/
def sbB (k j a b : Nat) : Bool := if k = 0 then (decide (b = a) ^^ decide (b = j)) else if k = 1 then decide (b = a) else !(decide (b = a) ^^ decide (b = j))
theorem say_blk {n k j a b c : Nat} (h8 : n ≤ 8) (hk : k < 3) (hb : b < n) (hc : c < 4) : bt (sayS n k j (so (w4s a))) (4 * b + c) = sbB k j a b := by
  have e1 : ∀ q, bt (so (w4s q)) (4 * b + c) = decide (b = q) := fun q => by
    rw [so_bt _ (by omega), w4_div, show (4 * b + c) / 4 = b by omega]
  have e2 : bt (allS n) (4 * b + c) = true := by
    rw [allS_bt (by omega)]
    have : 4 * b + c < 4 * n := by omega
    simp [this]
  unfold sayS sbB
  have : k = 0 ∨ k = 1 ∨ k = 2 := by omega
  rcases this with rfl | rfl | rfl
  · rw [if_pos rfl, if_pos rfl, b_and, e2, b_xor, e1, e1, Bool.true_and]
  · rw [if_neg (by decide), if_pos rfl, if_neg (by decide), if_pos rfl, b_and, e2, e1, Bool.true_and]
  · rw [if_neg (by decide), if_neg (by decide), if_pos rfl, if_neg (by decide), if_neg (by decide), b_and, e2, b_not _ (by omega), b_xor, e1, e1, Bool.true_and]
def wWS (n : Nat) (kd : Nat → Nat) (j a : Nat) : Int32 := whoS n (sayS n (kd j) j (so (w4s a)))
theorem who_say {n j a : Nat} {kd : Nat → Nat} (h8 : n ≤ 8) (hk : kd j < 3) (L : Int32) : whoS n (L &&& sayS n (kd j) j (so (w4s a))) = whoS n L &&& wWS n kd j a := by
  refine b_ext (fun i hi => ?_)
  unfold wWS
  rw [b_and, Bool.eq_iff_iff, Bool.and_eq_true, who_bt h8 hi, who_bt h8 hi, who_bt h8 hi]
  constructor
  · rintro ⟨h1, c, h2, h3⟩
    rw [b_and, Bool.and_eq_true] at h3
    exact ⟨⟨h1, c, h2, h3.1⟩, h1, c, h2, h3.2⟩
  · rintro ⟨⟨h1, c, h2, h3⟩, -, d, h4, h5⟩
    refine ⟨h1, c, h2, ?_⟩
    rw [b_and, h3, say_blk h8 hk h1 h2, ← say_blk h8 hk h1 h4, h5]
    rfl
def FAR : Nat := 1000000000
def wK (n : Nat) (kd : Nat → Nat) (k : Nat) : Nat := vN (wWS n kd (k / 8) (k % 8))
def yesN (n : Nat) (kd : Nat → Nat) (v k : Nat) : Nat := v &&& wK n kd k
def noN (n : Nat) (kd : Nat → Nat) (v k : Nat) : Nat := v &&& ((v &&& wK n kd k) ^^^ 4294967295)
def valK (n : Nat) (kd : Nat → Nat) (k : Nat) : Prop := k / 8 < n ∧ k % 8 < n ∧ kd (k / 8) < 3
def splK (n : Nat) (kd : Nat → Nat) (v k : Nat) : Prop := yesN n kd v k ≠ 0 ∧ noN n kd v k ≠ 0
def mx (a b : Nat) : Nat := if a ≤ b then b else a
def Spc (n : Nat) (kd : Nat → Nat) (qf : Nat → Nat) (v : Nat) : Prop := (cnt (nI v) = 1 → qf v = 0) ∧ (cnt (nI v) ≠ 1 → qf v ≤ FAR ∧ (qf v = FAR ∨ ∃ k, k < 64 ∧ valK n kd k ∧ splK n kd v k ∧ qf v = 1 + mx (qf (yesN n kd v k)) (qf (noN n kd v k))) ∧ ∀ k, k < 64 → valK n kd k → splK n kd v k → qf v ≤ 1 + mx (qf (yesN n kd v k)) (qf (noN n kd v k)))
theorem nI_not (v : Nat) : nI v ^^^ (-1) = nI (v ^^^ 4294967295) := by
  rw [show (-1 : Int32) = nI 4294967295 from rfl, nx_xor]
theorem yes_lt {n : Nat} {kd : Nat → Nat} {v k : Nat} (h : splK n kd v k) : yesN n kd v k < v ∧ noN n kd v k < v := by
  obtain ⟨h1, h2⟩ := h
  have a1 : yesN n kd v k ≤ v := Nat.and_le_left
  have a2 : noN n kd v k ≤ v := Nat.and_le_left
  have key : ∀ i, (noN n kd v k).testBit i = (v.testBit i && (((v.testBit i && (wK n kd k).testBit i) ^^ (4294967295 : Nat).testBit i))) := fun i => by
    unfold noN
    rw [Nat.testBit_and, Nat.testBit_xor, Nat.testBit_and]
  refine ⟨Nat.lt_of_le_of_ne a1 (fun e => ?_), Nat.lt_of_le_of_ne a2 (fun e => ?_)⟩
  · -- all of it says yes
    apply h2
    unfold noN
    have e' : v &&& wK n kd k = v := e
    rw [e']
    refine Nat.eq_of_testBit_eq (fun i => ?_)
    rw [Nat.testBit_and, Nat.testBit_xor, Nat.zero_testBit]
    by_cases hi : i < 32
    · have : (4294967295 : Nat).testBit i = true := by
        rw [show (4294967295 : Nat) = 2 ^ 32 - 1 from rfl, Nat.testBit_two_pow_sub_one]; simp [hi]
      rw [this]; cases v.testBit i <;> rfl
    · cases hb : v.testBit i
      · rfl
      · exfalso
        have h3 : (wK n kd k).testBit i = true := by
          have := congrArg (fun z => z.testBit i) e'
          simp only [Nat.testBit_and, hb, Bool.true_and] at this
          exact this
        have h4 : wK n kd k < 2 ^ 32 := (wWS n kd (k / 8) (k % 8)).toBitVec.isLt
        have h5 : (wK n kd k).testBit i = false := Nat.testBit_lt_two_pow (Nat.lt_of_lt_of_le h4 (Nat.pow_le_pow_right (by omega) (by omega)))
        rw [h3] at h5; exact absurd h5 (by decide)
  · apply h1
    unfold yesN
    refine Nat.eq_of_testBit_eq (fun i => ?_)
    rw [Nat.testBit_and, Nat.zero_testBit]
    have h4 : wK n kd k < 2 ^ 32 := (wWS n kd (k / 8) (k % 8)).toBitVec.isLt
    by_cases hi : i < 32
    · have t : (4294967295 : Nat).testBit i = true := by
        rw [show (4294967295 : Nat) = 2 ^ 32 - 1 from rfl, Nat.testBit_two_pow_sub_one]; simp [hi]
      have := key i
      rw [e, t] at this
      cases hb : v.testBit i
      · rfl
      · rw [hb] at this
        cases hw : (wK n kd k).testBit i
        · rfl
        · rw [hw] at this; exact absurd this (by decide)
    · have h5 : (wK n kd k).testBit i = false := Nat.testBit_lt_two_pow (Nat.lt_of_lt_of_le h4 (Nat.pow_le_pow_right (by omega) (by omega)))
      rw [h5, Bool.and_false]
theorem yes_0 {n : Nat} {kd : Nat → Nat} {v k : Nat} (hv : v < 256) : nI v &&& wWS n kd (k / 8) (k % 8) = nI (yesN n kd v k) ∧ nI v &&& (nI (yesN n kd v k) ^^^ (-1)) = nI (noN n kd v k) ∧ yesN n kd v k < 256 ∧ noN n kd v k < 256 := by
  have a1 : yesN n kd v k ≤ v := Nat.and_le_left
  have a2 : noN n kd v k ≤ v := Nat.and_le_left
  refine ⟨?_, ?_, by omega, by omega⟩
  · rw [show wWS n kd (k / 8) (k % 8) = nI (wK n kd k) from (nI_vN _).symm, fa_and]
    rfl
  · rw [nI_not, fa_and]
    rfl
/-- the reference's table -/
theorem few_m {cs : Nat → Ob} {sm : Ob} {n g : Nat} {kd : Nat → Nat} (h : InvN cs sm n g) (hk : ∀ j, j < n → sm.2.2.1 10 (3 + 5 * j) = nI (kd j) ∧ kd j < 4) {v : Nat} (hv : 1 ≤ v) (hvn : v < 2 ^ n) (p : Nat → Int32) (qf : Nat → Nat) (hp : ∀ u, 1 ≤ u → u < v → p u = nI (qf u) ∧ qf u ≤ FAR) (K : Int32 → Ob → Option (Int32 × Ob)) : ∃ c, c ≤ FAR ∧ Spc n kd (fun u => if u = v then c else qf u) v ∧ f12_fewest_36 K (nI v) (nI v) (if aloneS (nI v) < 0 then 1000000000 else 0) (sR sm 30 p) = K (nI (v + 1)) (sR sm 30 (upd p v (nI c))) := by
  have h8 := h.1.1
  have hn : ∀ p, (sR sm 30 p).2.2.1 10 0 = nI n := fun _ => h.2.1.1
  have h2n : 2 ^ n ≤ 256 := Nat.pow_le_pow_right (n := 2) (i := n) (j := 8) (by omega) h8
  have hal := alone_0 v (by omega)
  have e193 : ∀ S, f12_fewest_193 K (nI v) S = K (nI (v + 1)) S := fun S => by
    unfold f12_fewest_193; rw [lt_e, nI_1]
  by_cases hc1 : cnt (nI v) = 1
  · have h0 : (0 : Int32) ≤ aloneS (nI v) := hal.mpr hc1
    refine ⟨0, Nat.zero_le _, ⟨fun _ => if_pos rfl, fun hh => absurd hc1 hh⟩, ?_⟩
    unfold f12_fewest_36
    rw [if_neg (fun hh => (lt0_le.mp hh) h0), inb_nI (by omega) (by omega), ck_t, lt_e, nI_clamp (by omega), sR_oA]
    show f12_fewest_39 K (4999 + 1) (nI v) 0 _ = _
    rw [f12_fewest_39, if_neg (by decide), s12_alone, bd_s, if_pos h0, e193]
    rfl
  · have h0 : ¬ (0 : Int32) ≤ aloneS (nI v) := fun hh => hc1 (hal.mp hh)
    obtain ⟨c, ⟨c1, c2, c3⟩, e⟩ := loop_to (fun m k c => f12_fewest_39 K m (nI v) (nI k) (sR sm 30 (upd p v (nI c)))) (fun k c => c ≤ FAR ∧ (c = FAR ∨ ∃ k', k' < k ∧ valK n kd k' ∧ splK n kd v k' ∧ c = 1 + mx (qf (yesN n kd v k')) (qf (noN n kd v k'))) ∧ ∀ k', k' < k → valK n kd k' → splK n kd v k' → c ≤ 1 + mx (qf (yesN n kd v k')) (qf (noN n kd v k'))) (fun c => K (nI (v + 1)) (sR sm 30 (upd p v (nI c)))) 64
      (by
        intro m c _
        show f12_fewest_39 K (m + 1) _ (nI 64) _ = _
        rw [f12_fewest_39, if_pos (by decide), e193])
      (by
        intro m k c hk64 hc
        obtain ⟨c1, c2, c3⟩ := hc
        have e187 : ∀ S, f12_fewest_187 K (f12_fewest_39 K m) (nI v) (nI k) S = f12_fewest_39 K m (nI v) (nI (k + 1)) S := fun S => by
          unfold f12_fewest_187; rw [lt_e, nI_1]
        have keep : (¬ (valK n kd k ∧ splK n kd v k)) → (c ≤ FAR ∧ (c = FAR ∨ ∃ k', k' < k + 1 ∧ valK n kd k' ∧ splK n kd v k' ∧ c = 1 + mx (qf (yesN n kd v k')) (qf (noN n kd v k'))) ∧ ∀ k', k' < k + 1 → valK n kd k' → splK n kd v k' → c ≤ 1 + mx (qf (yesN n kd v k')) (qf (noN n kd v k'))) := fun hno => by
          refine ⟨c1, ?_, fun k' hk' h1 h2 => ?_⟩
          · rcases c2 with c2 | ⟨k', a, b⟩
            · exact Or.inl c2
            · exact Or.inr ⟨k', by omega, b⟩
          · by_cases hkk : k' = k
            · rw [hkk] at h1 h2; exact absurd ⟨h1, h2⟩ hno
            · exact c3 k' (by omega) h1 h2
        show ∃ b, _ ∧ f12_fewest_39 K (m + 1) (nI v) (nI k) (sR sm 30 (upd p v (nI c))) = f12_fewest_39 K m (nI v) (nI (k + 1)) (sR sm 30 (upd p v (nI b)))
        rw [f12_fewest_39, if_neg (show ¬ (64 : Int32) ≤ nI k from nI_ge (b := 64) hk64 (by omega)), s12_alone, bd_s, if_neg h0, show (8 : Int32) = nI 8 from rfl, pk_rem (by omega) (by omega) (by omega), pk_div (by omega) (by omega) (by omega), show nz (nI 8) = true from rfl, ck_t]
        by_cases hj : k / 8 < n
        · rw [s12_isGuest_yes (hn _) hj h8, bd_s, if_neg (by decide), ck_t]
          by_cases hi : k % 8 < n
          · have g0 : f12_guestOf (nI (k / 8)) 0 (sR sm 30 (upd p v (nI c))) = some (nI (kd (k / 8))) := by
              rw [← (hk _ hj).1]; exact s12_guestOf (k := 0) (by omega) (by omega)
            rw [s12_isGuest_yes (hn _) hi h8, bd_s, if_neg (by decide), ck_t, g0, bd_s]
            have hk4 := (hk _ hj).2
            by_cases h3 : kd (k / 8) = 3
            · refine ⟨c, keep (fun hh => by obtain ⟨⟨_, _, h⟩, _⟩ := hh; omega), ?_⟩
              rw [if_pos (by rw [h3]; rfl), e187]
            · rw [if_neg (show ¬ nI (kd (k / 8)) = 3 from fun hh => h3 ((nI_eq (b := 3) (by omega) (by omega)).mp hh)), ck_t, ck_t, s12_answerIn 1 (hn _) h8 hj hi (hk _ hj).1 hk4, bd_s, soX_1, s12_whoIn _ (hn _) h8, bd_s]
              obtain ⟨y1, y2, y3, y4⟩ := yes_0 (n := n) (kd := kd) (v := v) (k := k) (by omega)
              have y1' : nI v &&& whoS n (sayS n (kd (k / 8)) (k / 8) (so (w4s (k % 8)))) = nI (yesN n kd v k) := y1
              rw [lt_e, y1', lt_e, y2]
              by_cases hy : yesN n kd v k = 0
              · refine ⟨c, keep (fun hh => hh.2.1 hy), ?_⟩
                rw [if_pos (by rw [hy]; rfl), e187]
              · rw [if_neg (nI_ne0 (by omega) (by omega))]
                by_cases ho : noN n kd v k = 0
                · refine ⟨c, keep (fun hh => hh.2.2 ho), ?_⟩
                  rw [if_pos (by rw [ho]; rfl), e187]
                · have hsp : splK n kd v k := ⟨hy, ho⟩
                  obtain ⟨z1, z2⟩ := yes_lt hsp
                  have hvk : valK n kd k := ⟨hj, hi, by omega⟩
                  obtain ⟨p1, p2⟩ := hp (yesN n kd v k) (by omega) z1
                  obtain ⟨p3, p4⟩ := hp (noN n kd v k) (by omega) z2
                  have r1 : (sR sm 30 (upd p v (nI c))).2.2.1 30 (yesN n kd v k) = nI (qf (yesN n kd v k)) := by
                    rw [sR_at, pk_un (by omega), p1]
                  have r2 : (sR sm 30 (upd p v (nI c))).2.2.1 30 (noN n kd v k) = nI (qf (noN n kd v k)) := by
                    rw [sR_at, pk_un (by omega), p3]
                  have r3 : (sR sm 30 (upd p v (nI c))).2.2.1 30 v = nI c := by rw [sR_at, pk_us]
                  have hmx : mx (qf (yesN n kd v k)) (qf (noN n kd v k)) ≤ FAR := by unfold mx; split <;> omega
                  have hF : FAR = 1000000000 := rfl
                  have e156 : ∀ z, z ≤ FAR → f12_fewest_156 K (f12_fewest_39 K m) (nI v) (nI k) 1 (nI z) (sR sm 30 (upd p v (nI c))) = f12_fewest_39 K m (nI v) (nI (k + 1)) (sR sm 30 (upd p v (nI (if c ≤ 1 + z then c else 1 + z)))) := by
                    intro z hz
                    unfold f12_fewest_156 f12_fewest_186
                    rw [show (1 : Int32) + nI z = nI (1 + z) from (by rw [show (1 : Int32) = nI 1 from rfl, nI_add]), lt_e, inb_nI (show v < 256 by omega) (by omega), ck_t, ck_t, ck_t, ck_t, nI_clamp (by omega), r3]
                    by_cases hcz : c ≤ 1 + z
                    · rw [if_pos (nI_le hcz (by omega)), if_pos hcz, lt_e, e187, sR_oA, fa_upd_twice]
                    · rw [if_neg (nI_ge (by omega) (by omega)), if_neg hcz, lt_e, e187, sR_oA, fa_upd_twice]
                  rw [inb_nI y3 (by omega), inb_nI y4 (by omega), ck_t, ck_t, ck_t, ck_t, nI_clamp (by omega), nI_clamp (by omega), r1, r2]
                  have emx : (if nI (qf (yesN n kd v k)) ≤ nI (qf (noN n kd v k)) then f12_fewest_156 K (f12_fewest_39 K m) (nI v) (nI k) 1 (nI (qf (noN n kd v k))) (sR sm 30 (upd p v (nI c))) else f12_fewest_156 K (f12_fewest_39 K m) (nI v) (nI k) 1 (nI (qf (yesN n kd v k))) (sR sm 30 (upd p v (nI c)))) = f12_fewest_156 K (f12_fewest_39 K m) (nI v) (nI k) 1 (nI (mx (qf (yesN n kd v k)) (qf (noN n kd v k)))) (sR sm 30 (upd p v (nI c))) := by
                    unfold mx
                    by_cases hle : qf (yesN n kd v k) ≤ qf (noN n kd v k)
                    · rw [if_pos (nI_le hle (by omega)), if_pos hle]
                    · rw [if_neg (nI_ge (by omega) (by omega)), if_neg hle]
                  rw [emx, e156 _ hmx, if_neg (nI_ne0 (by omega) (by omega))]
                  refine ⟨if c ≤ 1 + mx (qf (yesN n kd v k)) (qf (noN n kd v k)) then c else 1 + mx (qf (yesN n kd v k)) (qf (noN n kd v k)), ?_, rfl⟩
                  by_cases hcz : c ≤ 1 + mx (qf (yesN n kd v k)) (qf (noN n kd v k))
                  · rw [if_pos hcz]
                    refine ⟨c1, ?_, fun k' hk' h1 h2 => ?_⟩
                    · rcases c2 with c2 | ⟨k', a, b⟩
                      · exact Or.inl c2
                      · exact Or.inr ⟨k', by omega, b⟩
                    · by_cases hkk : k' = k
                      · rw [hkk]; exact hcz
                      · exact c3 k' (by omega) h1 h2
                  · rw [if_neg hcz]
                    refine ⟨by omega, Or.inr ⟨k, by omega, hvk, hsp, rfl⟩, fun k' hk' h1 h2 => ?_⟩
                    by_cases hkk : k' = k
                    · rw [hkk]; exact Nat.le_refl _
                    · exact Nat.le_trans (by omega) (c3 k' (by omega) h1 h2)
          · refine ⟨c, keep (fun hh => hi hh.1.2.1), ?_⟩
            rw [s12_isGuest_no (hn _) (Or.inr (nI_le (by omega) (by omega))), bd_s, if_pos rfl, e187]
        · refine ⟨c, keep (fun hh => hj hh.1.1), ?_⟩
          rw [s12_isGuest_no (hn _) (Or.inr (nI_le (by omega) (by omega))), bd_s, if_pos rfl, e187])
      FU 0 FAR (Nat.zero_le _) (FU_lt (by omega)) ⟨Nat.le_refl _, Or.inl rfl, fun k' hk' => absurd hk' (Nat.not_lt_zero k')⟩
    have hqq : ∀ k, splK n kd v k → (if yesN n kd v k = v then c else qf (yesN n kd v k)) = qf (yesN n kd v k) ∧ (if noN n kd v k = v then c else qf (noN n kd v k)) = qf (noN n kd v k) := fun k hs => by
      obtain ⟨z1, z2⟩ := yes_lt hs
      exact ⟨if_neg (by omega), if_neg (by omega)⟩
    refine ⟨c, c1, ⟨fun hh => absurd hh hc1, fun _ => ?_⟩, ?_⟩
    · simp only [if_pos]
      refine ⟨c1, ?_, fun k hk64 h1 h2 => ?_⟩
      · rcases c2 with c2 | ⟨k, a, b, d, e⟩
        · exact Or.inl c2
        · refine Or.inr ⟨k, a, b, d, ?_⟩
          rw [(hqq k d).1, (hqq k d).2]; exact e
      · rw [(hqq k h2).1, (hqq k h2).2]; exact c3 k hk64 h1 h2
    · unfold f12_fewest_36
      rw [if_pos (lt0_le.mpr h0), inb_nI (by omega) (by omega), ck_t, lt_e, nI_clamp (by omega), sR_oA]
      exact e
theorem few_ref {cs : Nat → Ob} {sm : Ob} {n g : Nat} {kd : Nat → Nat} (h : InvN cs sm n g) (hk : ∀ j, j < n → sm.2.2.1 10 (3 + 5 * j) = nI (kd j) ∧ kd j < 4) : ∃ qf p, (∀ v, 1 ≤ v → v < 2 ^ n → Spc n kd qf v ∧ qf v ≤ FAR) ∧ f12_fewest_7 FU 1 sm = some (if whoS n ((cs 10).1 0) = 0 ∨ qf (vN (whoS n ((cs 10).1 0))) = FAR then -1 else nI (qf (vN (whoS n ((cs 10).1 0)))), sR sm 30 p) := by
  have h8 := h.1.1
  have h2n : 2 ^ n ≤ 256 := Nat.pow_le_pow_right (n := 2) (i := n) (j := 8) (by omega) h8
  have h2p : 0 < 2 ^ n := Nat.pow_pos (by omega)
  have hn : ∀ p, (sR sm 30 p).2.2.1 10 0 = nI n := fun _ => h.2.1.1
  have hgu : ∀ p, f12_guests (sR sm 30 p) = some (nI n) := fun p => by rw [← h.2.1.1]; rfl
  have hF : FAR = 1000000000 := rfl
  have hwn : vN (whoS n ((cs 10).1 0)) < 2 ^ n := vN_lt (fun i hi hb => whoS_lt hi hb)
  obtain ⟨r, e, qf, p, hr1, hr2⟩ := loop_inv (fun m j S => f12_fewest_7 m (nI (j + 1)) S) (fun j S => ∃ qf p, S = sR sm 30 p ∧ ∀ v, 1 ≤ v → v < j + 1 → Spc n kd qf v ∧ qf v ≤ FAR ∧ p v = nI (qf v)) (fun r => ∃ qf p, (∀ v, 1 ≤ v → v < 2 ^ n → Spc n kd qf v ∧ qf v ≤ FAR) ∧ r = (if whoS n ((cs 10).1 0) = 0 ∨ qf (vN (whoS n ((cs 10).1 0))) = FAR then -1 else nI (qf (vN (whoS n ((cs 10).1 0)))), sR sm 30 p)) (2 ^ n - 1)
    (by
      rintro m S ⟨qf, p, rfl, hq⟩
      rw [show 2 ^ n - 1 + 1 = 2 ^ n by omega] at hq
      refine ⟨_, ?_, qf, p, fun v h1 h2 => ⟨(hq v h1 h2).1, (hq v h1 h2).2.1⟩, rfl⟩
      show f12_fewest_7 (m + 1) (nI (2 ^ n - 1 + 1)) _ = _
      rw [show 2 ^ n - 1 + 1 = 2 ^ n by omega, f12_fewest_7, hgu, bd_s, shl1 n h8, if_pos (nI_le (Nat.le_refl _) (by omega))]
      show ck true (bd (f12_whoIn (sm.2.2.1 25 0) (sR sm 30 p)) _) = _
      rw [ck_t, h.2.2.1.1, s12_whoIn _ (hn p) h8, bd_s]
      unfold f12_fewest_226 f12_fewest_236
      by_cases hw : whoS n ((cs 10).1 0) = 0
      · rw [if_pos hw, if_pos (Or.inl hw)]
      · rw [if_neg hw]
        obtain ⟨w, hwe⟩ : ∃ w, w = vN (whoS n ((cs 10).1 0)) := ⟨_, rfl⟩
        have hwi : whoS n ((cs 10).1 0) = nI w := by rw [hwe]; exact (nI_vN _).symm
        rw [← hwe] at hwn ⊢
        have hw0 : w ≠ 0 := fun hz => hw (by rw [hwi, hz]; rfl)
        obtain ⟨-, q1, q2⟩ := hq w (by omega) hwn
        rw [hwi, inb_nI (by omega) (by omega), ck_t, ck_t, nI_clamp (by omega), sR_at, q2]
        by_cases hf : qf w = FAR
        · rw [if_neg (show ¬ nI (qf w) < 1000000000 from nI_nlt (b := 1000000000) (by omega) (by omega)), if_pos (Or.inr hf)]
        · rw [if_pos (show nI (qf w) < 1000000000 from nI_lt (b := 1000000000) (by omega) (by omega)), if_neg (fun hh => by
            rcases hh with hh | hh
            · exact absurd hh (nI_ne0 (by omega) (by omega))
            · exact hf hh)])
    (by
      rintro m j S hj ⟨qf, p, rfl, hq⟩
      obtain ⟨c, c1, c2, c3⟩ := few_m h hk (v := j + 1) (by omega) (by omega) p qf (fun u h1 h2 => ⟨(hq u h1 h2).2.2, (hq u h1 h2).2.1⟩) (f12_fewest_7 m)
      refine ⟨sR sm 30 (upd p (j + 1) (nI c)), ⟨fun u => if u = j + 1 then c else qf u, upd p (j + 1) (nI c), rfl, fun v h1 h2 => ?_⟩, ?_⟩
      · by_cases hvj : v = j + 1
        · rw [hvj]
          refine ⟨c2, ?_, ?_⟩
          · show (if j + 1 = j + 1 then c else _) ≤ FAR
            rw [if_pos rfl]; exact c1
          · show _ = nI (if j + 1 = j + 1 then c else _)
            rw [if_pos rfl, pk_us]
        · obtain ⟨s1, s2, s3⟩ := hq v h1 (by omega)
          refine ⟨?_, ?_, ?_⟩
          · obtain ⟨t1, t2⟩ := s1
            have e0 : (fun u => if u = j + 1 then c else qf u) v = qf v := if_neg hvj
            have eqq : ∀ k, splK n kd v k → (fun u => if u = j + 1 then c else qf u) (yesN n kd v k) = qf (yesN n kd v k) ∧ (fun u => if u = j + 1 then c else qf u) (noN n kd v k) = qf (noN n kd v k) := fun k hs => by
              obtain ⟨z1, z2⟩ := yes_lt hs
              exact ⟨if_neg (by omega), if_neg (by omega)⟩
            unfold Spc
            rw [e0]
            refine ⟨t1, fun hh => ?_⟩
            obtain ⟨a1, a2, a3⟩ := t2 hh
            refine ⟨a1, ?_, fun k hk1 hk2 hk3 => ?_⟩
            · rcases a2 with a2 | ⟨k, b1, b2, b3, b4⟩
              · exact Or.inl a2
              · refine Or.inr ⟨k, b1, b2, b3, ?_⟩
                rw [(eqq k b3).1, (eqq k b3).2]; exact b4
            · rw [(eqq k hk3).1, (eqq k hk3).2]; exact a3 k hk1 hk2 hk3
          · show (if v = j + 1 then c else qf v) ≤ FAR
            rw [if_neg hvj]; exact s2
          · show _ = nI (if v = j + 1 then c else qf v)
            rw [if_neg hvj, pk_un hvj]; exact s3
      · show f12_fewest_7 (m + 1) (nI (j + 1)) _ = f12_fewest_7 m (nI (j + 1 + 1)) _
        rw [f12_fewest_7, hgu, bd_s, shl1 n h8, if_neg (nI_ge (by omega) (by omega)), s12_alone, bd_s, ← c3]
        by_cases ha : aloneS (nI (j + 1)) < 0
        · rw [if_pos ha, if_pos ha]
        · rw [if_neg ha, if_neg ha])
    FU 0 sm (Nat.zero_le _) (FU_lt (by omega)) ⟨fun _ => 0, sm.2.2.1 30, (sR_self _ _).symm, fun v h1 h2 => absurd h1 (by omega)⟩
  refine ⟨qf, p, hr1, ?_⟩
  rw [← hr2]
  exact e
