/-! pure: bill, the call -/
theorem clamp_s (z : Int32) : (if 0 ≤ z then (if z ≤ 99 then z else 99) else 0) = clampS z := by
  unfold clampS
  by_cases h : z < 0
  · rw [if_pos h, if_neg (lt0_le.mp h)]
  · have h' : (0 : Int32) ≤ z := Classical.not_not.mp (fun hh => h (lt0_le.mpr hh))
    rw [if_neg h, if_pos h']
    by_cases h2 : 99 < z
    · rw [if_pos h2, if_neg (by rw [Int32.le_iff_toInt_le]; rw [Int32.lt_iff_toInt_lt] at h2; omega)]
    · rw [if_neg h2, if_pos (by rw [Int32.le_iff_toInt_le]; rw [Int32.lt_iff_toInt_lt] at h2; omega)]
theorem b12_99 {K : Int32 → Int32 → Int32 → Int32 → Ob → Option (Int32 × Ob)} {x1 x2 x3 : Int32} {e : Nat} (he : e < 8) (z : Int32) (SM : Ob) : f12_bill_99 K x1 x2 x3 (nI e) z SM = K x1 x2 (x3 + clampS z) (nI (e + 1)) (oA SM 33 e (clampS z)) := by
  have e130 : ∀ y, f12_bill_130 K x1 x2 x3 (nI e) (nI e) y SM = K x1 x2 (x3 + y) (nI (e + 1)) (oA SM 33 e y) := fun y => by
    unfold f12_bill_130
    rw [inb_nI he (by omega), ck_t, lt_e, ck_t, lt_e, lt_e, nI_1, nI_clamp (by omega)]
    have : (oA SM 33 e y).2.2.1 33 e = y := pk_us
    rw [this]
  unfold f12_bill_99
  rw [e130, e130, e130, ← clamp_s]
  by_cases h : 0 ≤ z
  · rw [if_pos h, if_pos h]
    by_cases h2 : z ≤ 99
    · rw [if_pos h2, if_pos h2]
    · rw [if_neg h2, if_neg h2]
  · rw [if_neg h, if_neg h]
theorem bill_1 {cs : Nat → Ob} {sm : Ob} {n g : Nat} {s : Nat → Nat} (h : InvN cs sm n g) (hs : ∀ j, j < n → (cs 8).2.2.1 7 j = nI (s j) ∧ s j ≤ 99) (x1 x2 : Int32) : ∃ SM, (InvN cs SM n g ∧ ∀ e, e < n → SM.2.2.1 33 e = nI (s e)) ∧ f12_bill_31 FU x1 x2 0 0 sm = if nI (fb_sm s n) = 0 then some (0, SM) else f12_bill_159 FU x1 x2 (nI (fb_sm s n)) x1 0 SM := by
  have h8 := h.1.1
  obtain ⟨b, ⟨hb1, hb2, hb3⟩, e⟩ := loop_to (fun m j (a : Int32 × Ob) => f12_bill_31 m x1 x2 a.1 (nI j) a.2) (fun j a => a.1 = nI (fb_sm s j) ∧ InvN cs a.2 n g ∧ ∀ e, e < j → a.2.2.2.1 33 e = nI (s e)) (fun a => if a.1 = 0 then some (0, a.2) else f12_bill_159 FU x1 x2 a.1 x1 0 a.2) n
    (by
      rintro m ⟨a1, S⟩ ⟨h1, h2, h3⟩
      have h2' : InvN cs S n g := h2
      show f12_bill_31 (m + 1) _ _ _ (nI n) S = _
      rw [f12_bill_31, s12_guests, h2'.2.1.1, bd_s, if_pos (nI_le (Nat.le_refl n) (by omega))])
    (by
      rintro m j ⟨a1, S⟩ hj ⟨h1, h2, h3⟩
      have h1' : a1 = _ := h1
      have h2' : InvN cs S n g := h2
      have h3' : ∀ e, e < j → S.2.2.1 33 e = nI (s e) := h3
      obtain ⟨rm, hrm⟩ := inv_rooms h2'
      obtain ⟨st, hst⟩ := inv_stays h2'
      have hn : ∀ S', S'.2.2.1 10 = S.2.2.1 10 → f12_guests S' = some (nI n) := fun S' hS' => by
        rw [s12_guests, hS', h2'.2.1.1]
      have g1 : f12_guestOf (nI j) 1 S = some (nI (rm j)) := by
        rw [← (hrm j hj).2.2.2]; exact s12_guestOf (k := 1) (by omega) (by omega)
      have g2 : f12_guestOf (nI j) 2 (oA S 23 0 (nI (rm j))) = some (nI (st j)) := by
        rw [← (hst j hj).2.2.2]; exact s12_guestOf (SM := oA S 23 0 (nI (rm j))) (k := 2) (by omega) (by omega)
      obtain ⟨S16, hS16⟩ : ∃ S', S' = oA (oA (oA S 23 0 (nI (rm j))) 23 1 (nI (st j))) 23 2 (nI n) := ⟨_, rfl⟩
      have hI16 : InvN cs S16 n g := by rw [hS16]; exact h2'
      have t0 : S16.2.2.1 23 0 = (cs 8).2.2.1 3 j := by
        rw [hS16, (hrm j hj).1]
        show upd (upd (upd (S.2.2.1 23) 0 (nI (rm j))) 1 (nI (st j))) 2 (nI n) 0 = _
        rw [pk_un (by omega), pk_un (by omega), pk_us]
      have t1 : S16.2.2.1 23 1 = (cs 8).2.2.1 4 j := by
        rw [hS16, (hst j hj).1]
        show upd (upd (upd (S.2.2.1 23) 0 (nI (rm j))) 1 (nI (st j))) 2 (nI n) 1 = _
        rw [pk_un (by omega), pk_us]
      have t2 : S16.2.2.1 23 2 = nI n := by
        rw [hS16]
        show upd (upd (upd (S.2.2.1 23) 0 (nI (rm j))) 1 (nI (st j))) 2 (nI n) 2 = _
        rw [pk_us]
      have t33 : S16.2.2.1 33 = S.2.2.1 33 := by rw [hS16]; rfl
      have step : f12_bill_31 (m + 1) x1 x2 a1 (nI j) S = (if 0 ≤ S16.2.2.1 10 2 then (bd (f12_worthAt (S16.2.2.1 10 2) S16) fun r_20 => f12_bill_99 (f12_bill_31 m) x1 x2 a1 (nI j) (r_20.1) (r_20.2)) else (f12_bill_99 (f12_bill_31 m) x1 x2 a1 (nI j) 1 S16)) := by
        rw [f12_bill_31, hn S rfl, bd_s, if_neg (nI_ge hj (by omega)), g1, bd_s]
        show ck true (lt (oA S 23 0 (nI (rm j))) _) = _
        rw [ck_t, lt_e, g2, bd_s]
        show ck true (lt (oA (oA S 23 0 (nI (rm j))) 23 1 (nI (st j))) _) = _
        rw [ck_t, lt_e, hn (oA (oA S 23 0 (nI (rm j))) 23 1 (nI (st j))) rfl, bd_s]
        show ck true (lt (oA (oA (oA S 23 0 (nI (rm j))) 23 1 (nI (st j))) 23 2 (nI n)) _) = _
        rw [ck_t, lt_e, ← hS16]
        rfl
      have fin : ∀ (v : Int32) (S' : Ob), clampS v = nI (s j) → InvN cs S' n g → S'.2.2.1 33 = S.2.2.1 33 → f12_bill_31 (m + 1) x1 x2 a1 (nI j) S = f12_bill_99 (f12_bill_31 m) x1 x2 a1 (nI j) v S' → ∃ b : Int32 × Ob, (b.1 = nI (fb_sm s (j + 1)) ∧ InvN cs b.2 n g ∧ ∀ e, e < j + 1 → b.2.2.2.1 33 e = nI (s e)) ∧ f12_bill_31 (m + 1) x1 x2 a1 (nI j) S = f12_bill_31 m x1 x2 b.1 (nI (j + 1)) b.2 := by
        intro v S' hv hI' h33 he
        refine ⟨(nI (fb_sm s (j + 1)), oA S' 33 j (nI (s j))), ⟨rfl, hI', fun e he => ?_⟩, ?_⟩
        · show upd (S'.2.2.1 33) j (nI (s j)) e = _
          by_cases hej : e = j
          · rw [hej, pk_us]
          · rw [pk_un hej, h33]; exact h3' e (by omega)
        · rw [he, b12_99 (by omega), hv, h1', nI_add, fb_sm_succ]
      obtain ⟨-, -, -, -, -, -, -, hL, -⟩ := id hI16
      rcases hL with ⟨l1, l2⟩ | ⟨l1, l2⟩
      · refine fin 1 S16 ?_ hI16 t33 ?_
        · rw [← (hs j hj).1, l2 j hj]; decide
        · rw [step, if_neg (lt0_le.mp l1)]
      · obtain ⟨v, p, w1, w2⟩ := l2 j hj S16 (fun _ _ _ => rfl) (fun _ _ _ => rfl) t0 t1 t2
        refine fin v (sR S16 24 p) (by rw [w2, (hs j hj).1]) (InvN_24 hI16 p) t33 ?_
        rw [step, if_pos (Classical.not_not.mp (fun hh => l1 (lt0_le.mpr hh))), w1, bd_s])
    FU 0 (0, sm) (Nat.zero_le _) (FU_lt (by omega)) ⟨rfl, h, fun e he => absurd he (Nat.not_lt_zero e)⟩
  obtain ⟨b1, S⟩ := b
  have hb1' : b1 = _ := hb1
  subst hb1'
  exact ⟨S, ⟨hb2, hb3⟩, e⟩
theorem bill_2 {cs : Nat → Ob} {sm : Ob} {n g P : Nat} {s : Nat → Nat} (h : InvN cs sm n g) (hs : ∀ e, e < n → sm.2.2.1 33 e = nI (s e) ∧ s e ≤ 99) (hP : P ≤ 9999) (hT : 0 < fb_sm s n) (x2 : Int32) : ∃ SM, InvN cs SM n g ∧ PkR SM (bqF P (fb_sm s n) s) (brF P (fb_sm s n) s) n 0 (fun _ => false) ∧ f12_bill_159 FU (nI P) x2 (nI (fb_sm s n)) (nI P) 0 sm = f12_bill_225 FU x2 (nI (P - fb_sm (bqF P (fb_sm s n) s) n)) 0 SM := by
  have h8 := h.1.1
  have hsb : fb_sm s n ≤ n * 99 := fb_sm_bound (fun k hk => (hs k hk).2)
  have hq := bq_le (P := P) (s := s) (n := n) hT
  obtain ⟨T, hTe⟩ : ∃ T, T = fb_sm s n := ⟨_, rfl⟩
  rw [← hTe] at hT hsb hq ⊢
  have hqk : ∀ k, k ≤ n → fb_sm (bqF P T s) k ≤ P := fun k hk => by
    have := fb_sm_mono (bqF P T s) k (n - k)
    rw [show k + (n - k) = n by omega] at this
    omega
  obtain ⟨b, ⟨hb1, hb2, hb3, hb4⟩, e⟩ := loop_to (fun m j (a : Nat × Ob) => f12_bill_159 m (nI P) x2 (nI T) (nI a.1) (nI j) a.2) (fun j a => a.1 = P - fb_sm (bqF P T s) j ∧ InvN cs a.2 n g ∧ (∀ e, e < j → a.2.2.2.1 34 e = nI (brF P T s e) ∧ a.2.2.2.1 33 e = nI (bqF P T s e)) ∧ ∀ e, j ≤ e → e < n → a.2.2.2.1 33 e = nI (s e)) (fun a => f12_bill_225 FU x2 (nI a.1) 0 a.2) n
    (by
      rintro m ⟨a1, S⟩ ⟨h1, h2, h3, h4⟩
      have h2' : InvN cs S n g := h2
      show f12_bill_159 (m + 1) _ _ _ _ (nI n) S = _
      rw [f12_bill_159, s12_guests, h2'.2.1.1, bd_s, if_pos (nI_le (Nat.le_refl n) (by omega))])
    (by
      rintro m j ⟨a1, S⟩ hj ⟨h1, h2, h3, h4⟩
      have h1' : a1 = _ := h1
      have h2' : InvN cs S n g := h2
      have h3' : ∀ e, e < j → S.2.2.1 34 e = nI (brF P T s e) ∧ S.2.2.1 33 e = nI (bqF P T s e) := h3
      have h4' : ∀ e, j ≤ e → e < n → S.2.2.1 33 e = nI (s e) := h4
      have hjq := hqk (j + 1) (by omega)
      rw [fb_sm_succ] at hjq
      have hm : P * s j ≤ 9999 * 99 := Nat.mul_le_mul hP (hs j hj).2
      refine ⟨(a1 - bqF P T s j, oA (oA S 34 j (nI (brF P T s j))) 33 j (nI (bqF P T s j))), ⟨?_, h2', fun e he => ?_, fun e he1 he2 => ?_⟩, ?_⟩
      · show a1 - bqF P T s j = _
        rw [fb_sm_succ, h1']; omega
      · show upd (S.2.2.1 34) j (nI (brF P T s j)) e = _ ∧ upd (S.2.2.1 33) j (nI (bqF P T s j)) e = _
        by_cases hej : e = j
        · rw [hej, pk_us, pk_us]; exact ⟨rfl, rfl⟩
        · rw [pk_un hej, pk_un hej]; exact h3' e (by omega)
      · show upd (S.2.2.1 33) j (nI (bqF P T s j)) e = _
        rw [pk_un (by omega)]; exact h4' e (by omega) he2
      · show f12_bill_159 (m + 1) _ _ _ (nI a1) (nI j) S = f12_bill_159 m _ _ _ (nI (a1 - bqF P T s j)) (nI (j + 1)) _
        rw [f12_bill_159, s12_guests, h2'.2.1.1, bd_s, if_neg (nI_ge hj (by omega)), inb_nI (by omega) (by omega), ck_t, show nz (nI T) = true from decide_eq_true (nI_ne0 hT (by omega)), ck_t, ck_t, nI_clamp (by omega), h4' j (Nat.le_refl j) hj, pk_mul, pk_rem (by omega) hT (by omega), lt_e]
        have r33 : ∀ y, (oA S 34 j y).2.2.1 33 j = nI (s j) := fun y => h4' j (Nat.le_refl j) hj
        rw [r33, ck_t, ck_t, ck_t, pk_mul, pk_div (by omega) hT (by omega), lt_e, ck_t]
        have r33b : ∀ S' y, (oA S' 33 j y).2.2.1 33 j = y := fun S' y => pk_us
        have ej : P * s j / T = bqF P T s j := rfl
        have er : P * s j % T = brF P T s j := rfl
        rw [r33b, ej, er, lt_e, lt_e, pk_sub (by omega), nI_1])
    FU 0 (P, sm) (Nat.zero_le _) (FU_lt (by omega)) ⟨by show P = P - 0; omega, h, fun e he => absurd he (Nat.not_lt_zero e), fun e _ he => (hs e he).1⟩
  obtain ⟨b1, S⟩ := b
  have hb1' : b1 = _ := hb1
  subst hb1'
  refine ⟨S, hb2, ⟨?_, fun k o _ _ hk => Bool.noConfusion (show false = true from hk), fun e he => ?_, fun e he => ?_⟩, e⟩
  · exact fb_ct_zero.mpr (fun _ _ => rfl)
  · show _ = if false = true then _ else _
    rw [if_neg (by decide)]; exact (hb3 e he).1
  · show _ = nI (_ + (if false = true then 1 else 0))
    rw [if_neg (by decide)]; exact (hb3 e he).2
theorem bill_3 {cs : Nat → Ob} {sm : Ob} {n g x ov : Nat} {q r : Nat → Nat} (h : InvN cs sm n g) (h0 : PkR sm q r n 0 (fun _ => false)) (hr : ∀ e, e < n → r e < 2 ^ 30) (hov : ov < n) (hx : x < n) : ∃ SM, InvN cs SM n g ∧ f12_bill_225 FU (nI x) (nI ov) 0 sm = some (nI (q x + (if fb_ct (fun o => befB r o x) n < ov then 1 else 0)), SM) := by
  have h8 := h.1.1
  obtain ⟨res, e, S, hS1, hS2⟩ := loop_inv (fun m j S => f12_bill_225 m (nI x) (nI ov) (nI j) S) (fun j S => InvN cs S n g ∧ ∃ K, PkR S q r n j K) (fun res => ∃ S, InvN cs S n g ∧ res = (nI (q x + (if fb_ct (fun o => befB r o x) n < ov then 1 else 0)), S)) ov
    (by
      rintro m S ⟨h1, K, h2⟩
      refine ⟨_, ?_, S, h1, rfl⟩
      show f12_bill_225 (m + 1) _ _ (nI ov) S = _
      rw [f12_bill_225, if_pos (nI_le (Nat.le_refl _) (by omega)), inb_nI (by omega) (by omega), ck_t, nI_clamp (by omega), h2.2.2.2 x hx, pick_end h2 hx])
    (by
      rintro m j S hj ⟨h1, K, h2⟩
      obtain ⟨b, b1, b2, b3, b4⟩ := s12_pick h1.2.1.1 h8 (by omega) h2.2.2.1 (f12_bill_225 m) (nI x) (nI ov) (nI j)
      refine ⟨oA (oA S 33 b (S.2.2.1 33 b + 1)) 34 b (-1), ⟨h1, _, pick_step h2 (by omega) b1 hr b2 b3⟩, ?_⟩
      show f12_bill_225 (m + 1) _ _ (nI j) S = f12_bill_225 m _ _ (nI (j + 1)) _
      rw [f12_bill_225, if_neg (nI_ge hj (by omega)), b4, nI_1])
    FU 0 sm (Nat.zero_le _) (FU_lt (by omega)) ⟨h, _, h0⟩
  refine ⟨S, hS1, ?_⟩
  rw [← hS2]
  exact e
theorem st_bill : St_bill Inv := by
  intro cs sm x1 x2 h
  obtain ⟨n, g, hI⟩ := h
  have hI' : InvN cs (oI sm 0 0) n g := hI
  obtain ⟨h8, h6, hn, -⟩ := id hI.1
  obtain ⟨s, hse⟩ : ∃ s : Nat → Nat, s = fun j => vN ((cs 8).2.2.1 7 j) := ⟨_, rfl⟩
  have hs : ∀ j, j < n → (cs 8).2.2.1 7 j = nI (s j) ∧ s j ≤ 99 := fun j hj => by
    obtain ⟨v, v1, v2⟩ := hI.1.2.2.2.2.2.2.2.2.1 j hj
    have e : s j = v := by
      rw [hse]
      show vN ((cs 8).2.2.1 7 j) = v
      rw [v2]; exact pk_tn (by omega)
    rw [e]
    exact ⟨v2, v1⟩
  by_cases hx : x1 < 0 ∨ 9999 < x1
  · refine ⟨-1, oI sm 0 0, ?_, ?_, n, g, hI'⟩
    · unfold f11_bill f11_bill_22
      by_cases h1 : x1 < 0
      · rw [if_pos h1]
      · rcases hx with hx | hx
        · exact absurd hx h1
        · rw [if_neg h1, if_pos hx]
    · unfold f12_bill f12_bill_24
      rw [lt_e, s12_withinL_no hx]
      rcases guest_both hI x2 with ⟨j, hj, rfl, a1, a2⟩ | ⟨a1, a2⟩
      · rw [a2]; rfl
      · rw [a2]; rfl
  · have c1 : ¬ x1 < 0 := fun hh => hx (Or.inl hh)
    have c2 : ¬ 9999 < x1 := fun hh => hx (Or.inr hh)
    obtain ⟨P, hP, rfl⟩ := nI_of c1
    have hP9 : P ≤ 9999 := by
      have : ¬ nI 9999 < nI P := c2
      rw [nI_ltI (by omega) (by omega)] at this; omega
    rcases guest_both hI x2 with ⟨j, hj, rfl, a1, a2⟩ | ⟨a1, a2⟩
    · obtain ⟨S1, ⟨q1, q2⟩, e1⟩ := bill_1 hI' hs (nI P) (nI j)
      have hsb : fb_sm s n ≤ n * 99 := fb_sm_bound (fun k hk => (hs k hk).2)
      have hm : f12_bill (nI P) (nI j) sm = f12_bill_31 FU (nI P) (nI j) 0 0 (oI sm 0 0) := by
        unfold f12_bill
        rw [lt_e, a2, bd_s, if_neg (by decide), s12_withinL_yes c1 c2, bd_s, if_neg (by decide)]
      have hc : f11_bill (nI P) (nI j) (cs 0) (cs 8) = some (if fb_sm s n = 0 then 0 else nI (bqF P (fb_sm s n) s j + (if fb_ct (fun o => befB (brF P (fb_sm s n) s) o j) n < P - fb_sm (bqF P (fb_sm s n) s) n then 1 else 0))) := by
        unfold f11_bill
        rw [if_neg c1, if_neg c2, a1, bd_s, if_neg (by decide), s5_pay hn h8 hj hs hP9, bd_s]
      rw [hm, e1, hc]
      by_cases hz : fb_sm s n = 0
      · exact ⟨0, S1, by rw [if_pos hz], by rw [if_pos (by rw [hz]; rfl)], n, g, q1⟩
      · have hT : 0 < fb_sm s n := by omega
        obtain ⟨S2, q3, q4, e2⟩ := bill_2 (P := P) q1 (fun e he => ⟨q2 e he, (hs e he).2⟩) hP9 hT (nI j)
        obtain ⟨S3, q5, e3⟩ := bill_3 (x := j) (ov := P - fb_sm (bqF P (fb_sm s n) s) n) q3 q4 (fun e he => by
          have : brF P (fb_sm s n) s e < fb_sm s n := Nat.mod_lt _ hT
          omega) (bo_lt hT (by omega)) hj
        refine ⟨_, S3, by rw [if_neg hz], ?_, n, g, q5⟩
        rw [if_neg (nI_ne0 hT (by omega)), e2, e3]
    · refine ⟨-1, oI sm 0 0, ?_, ?_, n, g, hI'⟩
      · unfold f11_bill
        rw [if_neg c1, if_neg c2, a1]; rfl
      · unfold f12_bill
        rw [lt_e, a2]; rfl
