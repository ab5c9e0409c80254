/-! pure: bill -/
/-- parts and rests of pennies -/
def bqF (P T : Nat) (s : Nat → Nat) (o : Nat) : Nat := P * s o / T
def brF (P T : Nat) (s : Nat → Nat) (o : Nat) : Nat := P * s o % T
theorem bq_sum {P T : Nat} {s : Nat → Nat} (hT : 0 < T) : ∀ k, T * fb_sm (bqF P T s) k + fb_sm (brF P T s) k = P * fb_sm s k
  | 0 => by simp [fb_sm]
  | k + 1 => by
    have ih := bq_sum (P := P) (s := s) hT k
    have h := Nat.div_add_mod (P * s k) T
    rw [fb_sm_succ, fb_sm_succ, fb_sm_succ, Nat.mul_add, Nat.mul_add, ← ih]
    have e1 : T * bqF P T s k = T * (P * s k / T) := rfl
    have e2 : brF P T s k = P * s k % T := rfl
    omega
theorem bq_le {P n : Nat} {s : Nat → Nat} (hT : 0 < fb_sm s n) : fb_sm (bqF P (fb_sm s n) s) n ≤ P := by
  have h := bq_sum (P := P) (s := s) hT n
  obtain ⟨T, hTe⟩ : ∃ T, T = fb_sm s n := ⟨_, rfl⟩
  rw [← hTe] at h hT ⊢
  have : T * fb_sm (bqF P T s) n ≤ T * P := by rw [Nat.mul_comm T P]; omega
  exact Nat.le_of_mul_le_mul_left this hT
theorem bo_lt {P n : Nat} {s : Nat → Nat} (hT : 0 < fb_sm s n) (hn : 0 < n) : P - fb_sm (bqF P (fb_sm s n) s) n < n := by
  have h := bq_sum (P := P) (s := s) hT n
  have hle := bq_le (P := P) hT
  obtain ⟨T, hTe⟩ : ∃ T, T = fb_sm s n := ⟨_, rfl⟩
  rw [← hTe] at h hT hle ⊢
  have hr : fb_sm (brF P T s) n ≤ n * (T - 1) := fb_sm_bound (fun o _ => by
    have : brF P T s o < T := Nat.mod_lt _ hT
    omega)
  obtain ⟨q, hq⟩ : ∃ q, q = fb_sm (bqF P T s) n := ⟨_, rfl⟩
  rw [← hq] at h hle ⊢
  obtain ⟨d, hd⟩ : ∃ d, P = q + d := ⟨P - q, by omega⟩
  have e : T * d = fb_sm (brF P T s) n := by
    have h3 : P * T = (q + d) * T := by rw [← hd]
    rw [Nat.add_mul, Nat.mul_comm q T, Nat.mul_comm d T] at h3
    omega
  have e2 : n * (T - 1) < T * n := by
    rw [Nat.mul_comm n (T - 1)]
    exact Nat.mul_lt_mul_of_pos_right (by omega) hn
  have : T * d < T * n := by omega
  have := Nat.lt_of_mul_lt_mul_left this
  omega
def befP (r : Nat → Nat) (o e : Nat) : Prop := r e < r o ∨ (r o = r e ∧ o < e)
def befB (r : Nat → Nat) (o e : Nat) : Bool := decide (r e < r o ∨ (r o = r e ∧ o < e))
/-- the class's -/
theorem s5_pay {SI : Ob} {s : Nat → Nat} {n g P : Nat} (hn : SI.1 0 = nI n) (h8 : n ≤ 8) (hg : g < n) (hs : ∀ j, j < n → SI.2.2.1 7 j = nI (s j) ∧ s j ≤ 99) (hP : P ≤ 9999) : f5_payment (nI P) (nI g) SI = some (if fb_sm s n = 0 then 0 else nI (bqF P (fb_sm s n) s g + (if fb_ct (fun o => befB (brF P (fb_sm s n) s) o g) n < P - fb_sm (bqF P (fb_sm s n) s) n then 1 else 0))) := by
  have hsb : fb_sm s n ≤ n * 99 := fb_sm_bound (fun k hk => (hs k hk).2)
  have hmul : ∀ j, j < n → P * s j ≤ 9999 * 99 := fun j hj => Nat.mul_le_mul hP (hs j hj).2
  obtain ⟨b, hb, e⟩ := loop_to (fun m j a => f5_payment_5 m (nI P) (nI g) a (nI j) SI) (fun j a => a = nI (fb_sm s j)) (fun a => if a = 0 then (some 0) else (ck (inb (nI g) 8) <| ck (nz a) <| lt ((nI P * (SI.2.2.1 7 (Int32.toNatClampNeg (nI g)))) - (nI P * (SI.2.2.1 7 (Int32.toNatClampNeg (nI g)))) / a * a : Int32) fun x4_5 => f5_payment_57 FU (nI P) (nI g) a x4_5 (nI P) 0 0 SI)) n
    (by
      intro m a _
      show f5_payment_5 (m + 1) _ _ _ (nI n) SI = _
      rw [f5_payment_5, hn, if_pos (nI_le (Nat.le_refl n) (by omega))])
    (by
      intro m j a hj ha
      refine ⟨nI (fb_sm s (j + 1)), rfl, ?_⟩
      show f5_payment_5 (m + 1) _ _ _ (nI j) SI = f5_payment_5 m _ _ _ (nI (j + 1)) SI
      rw [f5_payment_5, hn, if_neg (nI_ge hj (by omega)), inb_nI (by omega) (by omega), ck_t, nI_clamp (by omega), (hs j hj).1, lt_e, lt_e, nI_1, ha, nI_add, fb_sm_succ])
    FU 0 0 (Nat.zero_le _) (FU_lt (by omega)) rfl
  have e' : f5_payment (nI P) (nI g) SI = _ := e
  rw [e', hb]
  obtain ⟨T, hT⟩ : ∃ T, T = fb_sm s n := ⟨_, rfl⟩
  by_cases hz : fb_sm s n = 0
  · rw [if_pos (by rw [hz]; rfl), if_pos hz]
  · have hTp : 0 < fb_sm s n := by omega
    have hq := bq_le (P := P) (s := s) (n := n) hTp
    rw [if_neg (nI_ne0 hTp (by omega)), if_neg hz, inb_nI (by omega) (by omega), ck_t, nI_clamp (by omega), (hs g hg).1, show nz (nI (fb_sm s n)) = true from decide_eq_true (nI_ne0 hTp (by omega)), ck_t, lt_e, pk_mul]
    have hmg := hmul g hg
    rw [pk_rem (by omega) hTp (by omega)]
    rw [← hT] at hq hTp hsb ⊢
    have hqk : ∀ k, k ≤ n → fb_sm (bqF P T s) k ≤ P := fun k hk => by
      have := fb_sm_mono (bqF P T s) k (n - k)
      rw [show k + (n - k) = n by omega] at this
      omega
    have hr : P * s g % T = brF P T s g := rfl
    rw [hr]
    obtain ⟨b2, hb2, e2⟩ := loop_to (fun m j (a : Nat × Nat) => f5_payment_57 m (nI P) (nI g) (nI T) (nI (brF P T s g)) (nI a.1) (nI a.2) (nI j) SI) (fun j a => a.1 = P - fb_sm (bqF P T s) j ∧ a.2 = fb_ct (fun o => befB (brF P T s) o g) j) (fun a => some (nI (bqF P T s g + (if a.2 < a.1 then 1 else 0)))) n
      (by
        rintro m ⟨a1, a2⟩ ⟨h1, h2⟩
        show f5_payment_57 (m + 1) _ _ _ _ (nI a1) (nI a2) (nI n) SI = some (nI (bqF P T s g + (if a2 < a1 then 1 else 0)))
        have h1' : a1 = _ := h1
        have h2' : a2 = _ := h2
        have hcl : a2 ≤ n := by rw [h2']; exact fb_ct_le _ _
        rw [f5_payment_57, hn, if_pos (nI_le (Nat.le_refl n) (by omega)), inb_nI (by omega) (by omega), ck_t, nI_clamp (by omega), (hs g hg).1, show nz (nI T) = true from decide_eq_true (nI_ne0 hTp (by omega)), ck_t, pk_mul, pk_div (by omega) hTp (by omega)]
        unfold f5_payment_141
        by_cases hc : a2 < a1
        · rw [if_neg (nI_ge hc (by omega)), if_pos hc, nI_1]; rfl
        · rw [if_pos (nI_le (by omega) (by omega)), if_neg hc, Int32.add_zero]; rfl)
      (by
        rintro m j ⟨a1, a2⟩ hj ⟨h1, h2⟩
        have h1' : a1 = _ := h1
        have h2' : a2 = _ := h2
        have hmj := hmul j hj
        have hjq := hqk (j + 1) (by omega)
        rw [fb_sm_succ] at hjq
        have hcl : a2 ≤ j := by rw [h2']; exact fb_ct_le _ _
        have hrl : brF P T s j < T := Nat.mod_lt _ hTp
        have hrg : brF P T s g < T := Nat.mod_lt _ hTp
        have ej : P * s j / T = bqF P T s j := rfl
        have er : P * s j % T = brF P T s j := rfl
        refine ⟨(a1 - bqF P T s j, fb_ct (fun o => befB (brF P T s) o g) (j + 1)), ⟨?_, rfl⟩, ?_⟩
        · show a1 - bqF P T s j = _
          rw [fb_sm_succ, h1']; omega
        · show f5_payment_57 (m + 1) _ _ _ _ (nI a1) (nI a2) (nI j) SI = f5_payment_57 m _ _ _ _ (nI (a1 - bqF P T s j)) (nI (fb_ct (fun o => befB (brF P T s) o g) (j + 1))) (nI (j + 1)) SI
          rw [f5_payment_57, hn, if_neg (nI_ge hj (by omega)), inb_nI (by omega) (by omega), ck_t, nI_clamp (by omega), (hs j hj).1, lt_e, show nz (nI T) = true from decide_eq_true (nI_ne0 hTp (by omega)), ck_t, pk_mul, pk_rem (by omega) hTp (by omega), pk_div (by omega) hTp (by omega), lt_e, ck_t, ck_t, ej, er, pk_sub (by omega)]
          unfold f5_payment_110 f5_payment_113
          simp only [lt_e, nI_1]
          rw [fb_ct_succ, ← h2']
          unfold befB
          by_cases c1 : brF P T s g < brF P T s j
          · rw [if_pos (nI_lt c1 (by omega)), decide_eq_true (Or.inl c1), if_pos rfl]
          · rw [if_neg (nI_nlt (by omega) (by omega))]
            by_cases c2 : brF P T s j = brF P T s g
            · rw [if_pos (by rw [c2])]
              by_cases c3 : j < g
              · rw [if_neg (nI_ge c3 (by omega)), decide_eq_true (Or.inr ⟨c2, c3⟩), if_pos rfl]
              · rw [if_pos (nI_le (by omega) (by omega)), decide_eq_false (by omega), if_neg (by decide)]; rfl
            · rw [if_neg (fun hh => c2 ((nI_eq (by omega) (by omega)).mp hh)), decide_eq_false (by omega), if_neg (by decide)]; rfl)
      FU 0 (P, 0) (Nat.zero_le _) (FU_lt (by omega)) ⟨by show P = P - 0; omega, rfl⟩
    have e2' : f5_payment_57 FU (nI P) (nI g) (nI T) (nI (brF P T s g)) (nI P) 0 0 SI = _ := e2
    rw [e2', hb2.1, hb2.2]
/-- the reference picks -/
theorem s12_pick {SM : Ob} {v : Nat → Int32} {n : Nat} (hn : SM.2.2.1 10 0 = nI n) (h8 : n ≤ 8) (h0 : 0 < n) (hv : ∀ e, e < n → SM.2.2.1 34 e = v e) (K : Int32 → Int32 → Int32 → Ob → Option (Int32 × Ob)) (x2 x4 x5 : Int32) : ∃ b, b < n ∧ (∀ e, e < n → (v e).toInt ≤ (v b).toInt) ∧ (∀ e, e < b → (v e).toInt < (v b).toInt) ∧ f12_bill_238 K FU x2 x4 x5 0 1 SM = K x2 x4 (x5 + 1) (oA (oA SM 33 b (SM.2.2.1 33 b + 1)) 34 b (-1)) := by
  obtain ⟨b, ⟨b1, b2, b3⟩, e⟩ := loop_to (fun m j (b : Nat) => f12_bill_238 K m x2 x4 x5 (nI b) (nI (j + 1)) SM) (fun j b => b < j + 1 ∧ (∀ e, e < j + 1 → (v e).toInt ≤ (v b).toInt) ∧ ∀ e, e < b → (v e).toInt < (v b).toInt) (fun b => K x2 x4 (x5 + 1) (oA (oA SM 33 b (SM.2.2.1 33 b + 1)) 34 b (-1))) (n - 1)
    (by
      rintro m b ⟨h1, -, -⟩
      show f12_bill_238 K (m + 1) _ _ _ _ (nI (n - 1 + 1)) SM = _
      rw [f12_bill_238, s12_guests, hn, bd_s, if_pos (nI_le (by omega) (by omega)), inb_nI (by omega) (by omega), ck_t, ck_t, lt_e, ck_t, lt_e, lt_e, nI_clamp (by omega)])
    (by
      rintro m j b hj ⟨h1, h2, h3⟩
      have e271 : ∀ z, f12_bill_271 K (f12_bill_238 K m) x2 x4 x5 (nI (j + 1)) z SM = f12_bill_238 K m x2 x4 x5 z (nI (j + 1 + 1)) SM := fun z => by
        unfold f12_bill_271; rw [lt_e, nI_1]
      show ∃ b', _ ∧ f12_bill_238 K (m + 1) _ _ _ (nI b) (nI (j + 1)) SM = f12_bill_238 K m _ _ _ (nI b') (nI (j + 1 + 1)) SM
      rw [f12_bill_238, s12_guests, hn, bd_s, if_neg (nI_ge (by omega) (by omega)), inb_nI (by omega) (by omega), ck_t, inb_nI (by omega) (by omega), ck_t, nI_clamp (by omega), nI_clamp (by omega), hv (j + 1) (by omega), hv b (by omega)]
      by_cases hc : v (j + 1) ≤ v b
      · refine ⟨b, ⟨by omega, fun e he => ?_, h3⟩, ?_⟩
        · by_cases hej : e = j + 1
          · rw [hej]; exact Int32.le_iff_toInt_le.mp hc
          · exact h2 e (by omega)
        · rw [if_pos hc, e271]
      · have hc' : (v b).toInt < (v (j + 1)).toInt := by
          rw [Int32.le_iff_toInt_le] at hc; omega
        refine ⟨j + 1, ⟨by omega, fun e he => ?_, fun e he => ?_⟩, ?_⟩
        · by_cases hej : e = j + 1
          · rw [hej]; exact Int.le_refl _
          · have := h2 e (by omega); omega
        · have := h2 e (by omega); omega
        · rw [if_neg hc, e271])
    FU 0 0 (Nat.zero_le _) (FU_lt (by omega)) ⟨by omega, fun e he => by have : e = 0 := by omega
                                                                        rw [this]; exact Int.le_refl _, fun e he => absurd he (Nat.not_lt_zero e)⟩
  refine ⟨b, by omega, fun e he => b2 e (by omega), b3, ?_⟩
  exact e
/-- who has been given a penny -/
def PkR (SM : Ob) (q r : Nat → Nat) (n j : Nat) (K : Nat → Bool) : Prop := fb_ct K n = j ∧ (∀ k o, k < n → o < n → K k = true → K o = false → befP r k o) ∧ (∀ e, e < n → SM.2.2.1 34 e = if K e then -1 else nI (r e)) ∧ ∀ e, e < n → SM.2.2.1 33 e = nI (q e + (if K e then 1 else 0))
theorem pick_end {SM : Ob} {q r : Nat → Nat} {n j g : Nat} {K : Nat → Bool} (h : PkR SM q r n j K) (hg : g < n) : (if K g then 1 else 0) = if fb_ct (fun o => befB r o g) n < j then 1 else 0 := by
  obtain ⟨h1, h2, -, -⟩ := h
  cases hk : K g
  · rw [if_neg (by decide), if_neg]
    have : fb_ct K n ≤ fb_ct (fun o => befB r o g) n := fb_ct_sub (fun k hk1 hk2 => decide_eq_true (h2 k g hk1 hg hk2 hk))
    omega
  · rw [if_pos rfl, if_pos]
    have a1 := fb_ct_upd K false (i := g) (n := n) hg
    rw [hk, if_pos rfl, if_neg (by decide)] at a1
    have a2 : fb_ct (fun o => befB r o g) n ≤ fb_ct (fun k => if k = g then false else K k) n := fb_ct_sub (fun k hk1 hk2 => by
      have hb : r g < r k ∨ (r k = r g ∧ k < g) := of_decide_eq_true hk2
      have hkg : k ≠ g := fun hh => by rw [hh] at hb; omega
      rw [if_neg hkg]
      cases hkk : K k
      · have := h2 g k hg hk1 hk hkk
        unfold befP at this
        omega
      · rfl)
    omega
theorem pick_step {SM : Ob} {q r : Nat → Nat} {n j b : Nat} {K : Nat → Bool} (h : PkR SM q r n j K) (hj : j < n) (hb : b < n) (hr : ∀ e, e < n → r e < 2 ^ 30) (h1 : ∀ e, e < n → (if K e then (-1 : Int32) else nI (r e)).toInt ≤ (if K b then (-1 : Int32) else nI (r b)).toInt) (h2 : ∀ e, e < b → (if K e then (-1 : Int32) else nI (r e)).toInt < (if K b then (-1 : Int32) else nI (r b)).toInt) : PkR (oA (oA SM 33 b (SM.2.2.1 33 b + 1)) 34 b (-1)) q r n (j + 1) (fun k => if k = b then true else K k) := by
  obtain ⟨c1, c2, c3, c4⟩ := h
  have tv : ∀ e, e < n → (if K e then (-1 : Int32) else nI (r e)).toInt = if K e then -1 else (r e : Int) := fun e he => by
    have := hr e he
    cases K e
    · rw [if_neg (by decide), if_neg (by decide), nI_toInt (by omega)]
    · rw [if_pos rfl, if_pos rfl]; rfl
  have hKb : K b = false := by
    cases hk : K b
    · rfl
    · exfalso
      have hall : ∀ e, e < n → K e = true := fun e he => by
        cases hke : K e
        · have := h1 e he
          rw [tv e he, tv b hb, hk, hke, if_neg (by decide), if_pos rfl] at this
          omega
        · rfl
      have := fb_ct_all.mpr hall
      omega
  refine ⟨?_, fun k o hk ho hkk hoo => ?_, fun e he => ?_, fun e he => ?_⟩
  · have := fb_ct_upd K true (i := b) (n := n) hb
    rw [hKb, if_neg (by decide), if_pos rfl] at this
    omega
  · have hob : o ≠ b := fun hh => by
      rw [hh] at hoo
      simp at hoo
    have hoo' : K o = false := by simpa [hob] using hoo
    by_cases hkb : k = b
    · subst hkb
      have x1 := h1 o ho
      rw [tv o ho, tv k hk, hKb, hoo', if_neg (by decide), if_neg (by decide)] at x1
      unfold befP
      by_cases hlt : o < k
      · have x2 := h2 o hlt
        rw [tv o ho, tv k hk, hKb, hoo', if_neg (by decide), if_neg (by decide)] at x2
        omega
      · omega
    · have hkk' : K k = true := by simpa [hkb] using hkk
      exact c2 k o hk ho hkk' hoo'
  · show upd (SM.2.2.1 34) b (-1) e = _
    by_cases heb : e = b
    · rw [heb, pk_us]; simp
    · rw [pk_un heb, c3 e he]; simp [heb]
  · show upd (SM.2.2.1 33) b (SM.2.2.1 33 b + 1) e = _
    by_cases heb : e = b
    · rw [heb, pk_us, c4 b hb, hKb, nI_1]; simp
    · rw [pk_un heb, c4 e he]; simp [heb]
