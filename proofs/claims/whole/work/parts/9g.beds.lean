/-! pure: beds -/
def fpO {α : Type} (p : Nat → Option α) : Nat → Option α
  | 0 => none
  | j + 1 => match fpO p j with
    | some x => some x
    | none => p j
theorem fpO_s {α : Type} (p : Nat → Option α) {j : Nat} {x : α} (h : fpO p j = some x) : fpO p (j + 1) = some x := by
  show (match fpO p j with | some x => some x | none => p j) = some x
  rw [h]
theorem fpO_n {α : Type} (p : Nat → Option α) {j : Nat} (h : fpO p j = none) : fpO p (j + 1) = p j := by
  show (match fpO p j with | some x => some x | none => p j) = p j
  rw [h]
theorem fpO_up {α : Type} {p : Nat → Option α} {j : Nat} {x : α} (h : fpO p j = some x) : ∀ d, fpO p (j + d) = some x
  | 0 => h
  | d + 1 => fpO_s p (fpO_up h d)
theorem fpO_no {α : Type} {p : Nat → Option α} : ∀ {j : Nat}, (∀ i, i < j → p i = none) → fpO p j = none
  | 0, _ => rfl
  | j + 1, h => by
    rw [fpO_n p (fpO_no (fun i hi => h i (by omega)))]
    exact h j (by omega)
theorem fpO_is {α : Type} {p : Nat → Option α} {i : Nat} (h : ∃ x, p i = some x) : ∀ {j : Nat}, i < j → ∃ x, fpO p j = some x
  | 0, hi => absurd hi (Nat.not_lt_zero i)
  | j + 1, hi => by
    cases hp : fpO p j with
    | some x => exact ⟨x, fpO_s p hp⟩
    | none =>
      rw [fpO_n p hp]
      by_cases hij : i = j
      · rw [← hij]; exact h
      · obtain ⟨x, hx⟩ := fpO_is h (show i < j by omega)
        rw [hx] at hp; exact absurd hp (by simp)
def updN (a : Nat → Nat) (g r e : Nat) : Nat := if e = g then r else a e
def mayB (sh : Nat → Int32) (a : Nat → Nat) (g r : Nat) : Bool := decide (fb_ct (fun e => decide (a e = r)) g < 3) && decide (fb_ct (fun e => decide (a e = r) && bt (sh g) e) g = 0)
def srch (sh : Nat → Int32) (R : Nat) : Nat → Nat → Nat → (Nat → Nat) → Option (Nat → Nat)
  | 0, _, u, a => if R < u then none else some a
  | d + 1, g, u, a => if R < u then none else fpO (fun r => if mayB sh a g r then srch sh R d (g + 1) (if r = u then u + 1 else u) (updN a g r) else none) (u + 1)
def chl (sh : Nat → Int32) (R d g u : Nat) (a : Nat → Nat) (r : Nat) : Option (Nat → Nat) := if mayB sh a g r then srch sh R d (g + 1) (if r = u then u + 1 else u) (updN a g r) else none
theorem srch_lt {sh : Nat → Int32} {R : Nat} : ∀ {d g u : Nat} {a : Nat → Nat}, R < u → srch sh R d g u a = none
  | 0, _, _, _, h => if_pos h
  | _ + 1, _, _, _, h => if_pos h
theorem chl_lt {sh : Nat → Int32} {R d g u : Nat} {a : Nat → Nat} {r : Nat} (h : R < u) : chl sh R d g u a r = none := by
  unfold chl
  split
  · exact srch_lt (by split <;> omega)
  · rfl
theorem srch_s (sh : Nat → Int32) (R d g u : Nat) (a : Nat → Nat) : srch sh R (d + 1) g u a = fpO (chl sh R d g u a) (u + 1) := by
  by_cases h : R < u
  · rw [srch_lt h, fpO_no (fun i _ => chl_lt h)]
  · exact if_neg h
theorem srch_some {sh : Nat → Int32} {R : Nat} : ∀ d g a, (∀ e, e < g → a e < g) → g + d ≤ R → ∃ x, srch sh R d g g a = some x
  | 0, g, a, _, h2 => ⟨a, if_neg (by omega)⟩
  | d + 1, g, a, h1, h2 => by
    rw [srch_s]
    refine fpO_is (i := g) ?_ (by omega)
    have hm : mayB sh a g g = true := by
      unfold mayB
      have z : fb_ct (fun e => decide (a e = g)) g = 0 := fb_ct_zero.mpr (fun k hk => by
        have := h1 k hk
        simp; omega)
      have z2 : fb_ct (fun e => decide (a e = g) && bt (sh g) e) g = 0 := fb_ct_zero.mpr (fun k hk => by
        have := h1 k hk
        have : ¬ a k = g := by omega
        simp [this])
      rw [z, z2]; rfl
    unfold chl
    rw [if_pos hm, if_pos rfl]
    refine srch_some d (g + 1) (updN a g g) (fun e he => ?_) (by omega)
    unfold updN
    split
    · omega
    · have := h1 e (by omega); omega
/-- the class -/
def BdR (SL : Ob) (g u : Nat) (a : Nat → Nat) : Prop := (∀ e, e < g → SL.2.2.1 0 e = nI (a e)) ∧ ∀ r, r < u → SL.2.2.1 1 r = so (fun e => decide (e < g) && decide (a e = r))
theorem may_c {sh : Nat → Int32} {a : Nat → Nat} {g r : Nat} (hg : g ≤ 8) : mayB sh a g r = true ↔ (¬ 3 ≤ cnt (so (fun e => decide (e < g) && decide (a e = r))) ∧ so (fun e => decide (e < g) && decide (a e = r)) &&& sh g = 0) := by
  have e1 : cnt (so (fun e => decide (e < g) && decide (a e = r))) = fb_ct (fun e => decide (a e = r)) g := by
    rw [cnt_below (n := g) (by omega) (fun i hi hb => by
      rw [so_bt _ hi] at hb
      simp at hb
      exact hb.1)]
    refine fb_ct_cong (fun k hk => ?_)
    rw [so_bt _ (by omega)]
    simp [hk]
  rw [e1]
  unfold mayB
  rw [Bool.and_eq_true, decide_eq_true_eq, decide_eq_true_eq]
  refine and_congr (by omega) ?_
  rw [fb_ct_zero, b_z]
  constructor
  · intro h i hi
    rw [b_and, so_bt _ hi]
    by_cases hig : i < g
    · have := h i hig
      simp [hig]
      simpa using this
    · simp [hig]
  · intro h k hk
    have := h k (by omega)
    rw [b_and, so_bt _ (by omega)] at this
    simpa [hk] using this
theorem bed_c {SI : Ob} {sh : Nat → Int32} {n R : Nat} (hn : SI.1 0 = nI n) (h8 : n ≤ 8) (hR : R ≤ 8) (hsh : ∀ j, j < n → SI.2.2.1 6 j = sh j) : ∀ d g u a SL dp, g + d = n → d < dp → u ≤ R → u ≤ g → (∀ e, e < g → a e < u) → BdR SL g u a → (srch sh R d g u a = none ∧ ∃ SL', f5_bedFrom dp (nI g) (nI u) (nI R) SL SI = some (0, SL') ∧ BdR SL' g u a) ∨ (∃ b, srch sh R d g u a = some b ∧ ∃ SL', f5_bedFrom dp (nI g) (nI u) (nI R) SL SI = some (1, SL') ∧ ∀ e, e < n → SL'.2.2.1 0 e = nI (b e)) := by
  intro d
  induction d with
  | zero =>
    intro g u a SL dp hgd hdp huR hug hau hB
    obtain ⟨dp, rfl⟩ : ∃ q, dp = q + 1 := ⟨dp - 1, by omega⟩
    have hgn : g = n := by omega
    right
    refine ⟨a, if_neg (by omega), SL, ?_, fun e he => hB.1 e (by omega)⟩
    rw [f5_bedFrom]
    unfold f5_bedFrom_b
    rw [hn, hgn, if_neg (nI_nlt (Nat.le_refl n) (by omega))]
  | succ d ih =>
    intro g u a SL dp hgd hdp huR hug hau hB
    obtain ⟨dp, rfl⟩ : ∃ q, dp = q + 1 := ⟨dp - 1, by omega⟩
    rw [srch_s]
    have key : ∀ c r m S, r + c = u + 1 → c < m → BdR S g u a → fpO (chl sh R d g u a) r = none → (fpO (chl sh R d g u a) (u + 1) = none ∧ ∃ SL', f5_bedFrom_13 (f5_bedFrom dp) m (nI g) (nI u) (nI R) (nI r) S SI = some (0, SL') ∧ BdR SL' g u a) ∨ (∃ b, fpO (chl sh R d g u a) (u + 1) = some b ∧ ∃ SL', f5_bedFrom_13 (f5_bedFrom dp) m (nI g) (nI u) (nI R) (nI r) S SI = some (1, SL') ∧ ∀ e, e < n → SL'.2.2.1 0 e = nI (b e)) := by
      intro c
      induction c with
      | zero =>
        intro r m S hr hm hS hf
        obtain ⟨m, rfl⟩ : ∃ q, m = q + 1 := ⟨m - 1, by omega⟩
        have hru : r = u + 1 := by omega
        left
        refine ⟨by rw [← hru]; exact hf, S, ?_, hS⟩
        rw [f5_bedFrom_13, if_pos (nI_lt (by omega) (by omega))]
        rfl
      | succ c ihc =>
        intro r m S hr hm hS hf
        obtain ⟨m, rfl⟩ : ∃ q, m = q + 1 := ⟨m - 1, by omega⟩
        have e124 : ∀ S', f5_bedFrom_124 (f5_bedFrom dp) (f5_bedFrom_13 (f5_bedFrom dp) m) (nI g) (nI u) (nI R) (nI r) S' SI = f5_bedFrom_13 (f5_bedFrom dp) m (nI g) (nI u) (nI R) (nI (r + 1)) S' SI := fun S' => by
          unfold f5_bedFrom_124; rw [lt_e, nI_1]
        rw [f5_bedFrom_13, if_neg (nI_nlt (by omega) (by omega))]
        by_cases hrR : R ≤ r
        · -- the last room is beyond
          have hru : r = u := by omega
          left
          refine ⟨?_, S, ?_, hS⟩
          · rw [show u + 1 = r + 1 by omega, fpO_n _ hf]
            unfold chl
            by_cases hm0 : mayB sh a g r = true
            · rw [if_pos hm0, if_pos hru]
              exact srch_lt (by omega)
            · rw [if_neg hm0]
          · rw [if_pos (nI_le hrR (by omega))]
            rfl
        · rw [if_neg (nI_ge (by omega) (by omega))]
          -- who lies there
          obtain ⟨ot, hot⟩ : ∃ o, o = so (fun e => decide (e < g) && decide (a e = r)) := ⟨_, rfl⟩
          have hsame : (if nI r = nI u then f5_bedFrom_43 (f5_bedFrom dp) (f5_bedFrom_13 (f5_bedFrom dp) m) (nI g) (nI u) (nI R) (nI r) 0 S SI else ck (inb (nI r) 8) <| f5_bedFrom_43 (f5_bedFrom dp) (f5_bedFrom_13 (f5_bedFrom dp) m) (nI g) (nI u) (nI R) (nI r) (S.2.2.1 1 (Int32.toNatClampNeg (nI r))) S SI) = f5_bedFrom_43 (f5_bedFrom dp) (f5_bedFrom_13 (f5_bedFrom dp) m) (nI g) (nI u) (nI R) (nI r) ot S SI := by
            by_cases hru : r = u
            · rw [if_pos (by rw [hru])]
              have : ot = 0 := by
                rw [hot]
                refine so_z.mpr (fun i hi => ?_)
                by_cases hig : i < g
                · have := hau i hig
                  have : ¬ a i = r := by omega
                  simp [this]
                · simp [hig]
              rw [this]
            · rw [if_neg (fun hh => hru ((nI_eq (by omega) (by omega)).mp hh)), inb_nI (by omega) (by omega), ck_t, nI_clamp (by omega), hS.2 r (by omega), hot]
          rw [hsame]
          unfold f5_bedFrom_43
          have hcl := cnt_le ot
          rw [sj_bitCount, bd_s, inb_nI (by omega) (by omega), ck_t, nI_clamp (by omega), hsh g (by omega)]
          by_cases hmay : mayB sh a g r = true
          · have hm2 := (may_c (sh := sh) (a := a) (r := r) (show g ≤ 8 by omega)).mp hmay
            rw [← hot] at hm2
            rw [if_neg (show ¬ (3 : Int32) ≤ nI (cnt ot) from nI_ge (b := 3) (by omega) (by omega)), if_pos hm2.2, inb_nI (by omega) (by omega), ck_t, lt_e, ck_t, lt_e, nI_clamp (show r < 2 ^ 31 by omega)]
            have hch : chl sh R d g u a r = srch sh R d (g + 1) (if r = u then u + 1 else u) (updN a g r) := by
              unfold chl; rw [if_pos hmay]
            obtain ⟨S9, hS9⟩ : ∃ S9, S9 = oA (oA S 1 r (ot ||| (1 <<< (nI g &&& 31)))) 0 g (nI r) := ⟨_, rfl⟩
            have hB9 : BdR S9 (g + 1) (if r = u then u + 1 else u) (updN a g r) := by
              refine ⟨fun e he => ?_, fun q hq => ?_⟩
              · rw [hS9]
                show upd (S.2.2.1 0) g (nI r) e = _
                unfold updN
                by_cases heg : e = g
                · rw [heg, pk_us, if_pos rfl]
                · rw [pk_un heg, if_neg heg]; exact hS.1 e (by omega)
              · rw [hS9]
                show upd (S.2.2.1 1) r (ot ||| (1 <<< (nI g &&& 31))) q = _
                by_cases hqr : q = r
                · rw [hqr, pk_us]
                  refine so_eq (fun i hi => ?_)
                  rw [b_or, b_one (by omega) hi, hot, so_bt _ hi]
                  unfold updN
                  by_cases hig : i = g
                  · simp [hig]
                  · by_cases hlt : i < g
                    · have : i < g + 1 := by omega
                      simp [hig, hlt, this]
                    · have : ¬ i < g + 1 := by omega
                      simp [hig, hlt, this]
                · have hqu : q < u := by
                    split at hq <;> omega
                  rw [pk_un hqr, hS.2 q hqu]
                  refine so_cong (fun i hi => ?_)
                  unfold updN
                  by_cases hig : i = g
                  · have : ¬ r = q := fun h => hqr h.symm
                    simp [hig, this]
                  · by_cases hlt : i < g
                    · have : i < g + 1 := by omega
                      simp [hig, hlt, this]
                    · have : ¬ i < g + 1 := by omega
                      simp [hlt, this]
            have hih := ih (g + 1) (if r = u then u + 1 else u) (updN a g r) S9 dp (by omega) (by omega) (by split <;> omega) (by split <;> omega) (fun e he => by
              unfold updN
              split
              · split <;> omega
              · have := hau e (by omega); split <;> omega) hB9
            rw [← hch] at hih
            have e105 : (if nI r = nI u then f5_bedFrom_105 (f5_bedFrom dp) (f5_bedFrom_13 (f5_bedFrom dp) m) (nI g) (nI u) (nI R) (nI r) ot (nI g + 1) (nI u + 1) S9 SI else f5_bedFrom_105 (f5_bedFrom dp) (f5_bedFrom_13 (f5_bedFrom dp) m) (nI g) (nI u) (nI R) (nI r) ot (nI g + 1) (nI u) S9 SI) = f5_bedFrom_105 (f5_bedFrom dp) (f5_bedFrom_13 (f5_bedFrom dp) m) (nI g) (nI u) (nI R) (nI r) ot (nI (g + 1)) (nI (if r = u then u + 1 else u)) S9 SI := by
              by_cases hru : r = u
              · rw [if_pos (by rw [hru]), if_pos hru, nI_1, nI_1]
              · rw [if_neg (fun hh => hru ((nI_eq (by omega) (by omega)).mp hh)), if_neg hru, nI_1]
            rw [← hS9, e105]
            unfold f5_bedFrom_105
            rcases hih with ⟨h1, S', h2, h3⟩ | ⟨b, h1, S', h2, h3⟩
            · rw [h2, bd_s, if_pos (show (0 : Int32) = 0 from rfl), inb_nI (by omega) (by omega), ck_t, lt_e, e124, nI_clamp (by omega)]
              refine ihc (r + 1) m _ (by omega) (by omega) ⟨fun e he => ?_, fun q hq => ?_⟩ (by rw [fpO_n _ hf]; exact h1)
              · show S'.2.2.1 0 e = _
                rw [h3.1 e (by omega)]
                unfold updN
                rw [if_neg (by omega)]
              · show upd (S'.2.2.1 1) r ot q = _
                by_cases hqr : q = r
                · rw [hqr, pk_us, hot]
                · rw [pk_un hqr, h3.2 q (by split <;> omega)]
                  refine so_cong (fun i hi => ?_)
                  unfold updN
                  by_cases hig : i = g
                  · have : ¬ r = q := fun h => hqr h.symm
                    simp [hig, this]
                  · by_cases hlt : i < g
                    · have : i < g + 1 := by omega
                      simp [hig, hlt, this]
                    · have : ¬ i < g + 1 := by omega
                      simp [hlt, this]
            · right
              refine ⟨b, ?_, S', ?_, h3⟩
              · have := fpO_up (p := chl sh R d g u a) (j := r + 1) (x := b) (by rw [fpO_n _ hf]; exact h1) c
                rw [show r + 1 + c = u + 1 by omega] at this
                exact this
              · rw [h2, bd_s, if_neg (show ¬ (1 : Int32) = 0 by decide)]
          · have hno : fpO (chl sh R d g u a) (r + 1) = none := by
              rw [fpO_n _ hf]
              unfold chl
              rw [if_neg hmay]
            have hrec := ihc (r + 1) m S (by omega) (by omega) hS hno
            by_cases h3 : 3 ≤ cnt ot
            · rw [if_pos (show (3 : Int32) ≤ nI (cnt ot) from nI_le (a := 3) h3 (by omega)), e124]
              exact hrec
            · rw [if_neg (show ¬ (3 : Int32) ≤ nI (cnt ot) from nI_ge (b := 3) (by omega) (by omega)), if_neg (fun hh => hmay ((may_c (show g ≤ 8 by omega)).mpr (by rw [← hot]; exact ⟨h3, hh⟩))), e124]
              exact hrec
    have hk := key (u + 1) 0 FU SL (by omega) (FU_lt (by omega)) hB rfl
    have est : f5_bedFrom (dp + 1) (nI g) (nI u) (nI R) SL SI = f5_bedFrom_13 (f5_bedFrom dp) FU (nI g) (nI u) (nI R) 0 SL SI := by
      rw [f5_bedFrom]
      unfold f5_bedFrom_b
      rw [hn, if_pos (nI_lt (by omega) (by omega))]
    rw [est]
    exact hk
