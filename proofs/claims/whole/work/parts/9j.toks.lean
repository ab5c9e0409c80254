/-! pure: tokens, cut by the reference and by the class -/
def runP (P : Nat → Bool) : Nat → Nat → Nat
  | 0, p => p
  | d + 1, p => if P p then runP P d (p + 1) else p
def runT (P : Nat → Bool) (t p : Nat) : Nat := runP P (t - p) p
theorem runT_end {P : Nat → Bool} {t p : Nat} (h : t ≤ p) : runT P t p = p := by
  unfold runT; rw [show t - p = 0 by omega]; rfl
theorem runT_yes {P : Nat → Bool} {t p : Nat} (h : p < t) (hp : P p = true) : runT P t p = runT P t (p + 1) := by
  unfold runT; rw [show t - p = (t - (p + 1)) + 1 by omega]
  show (if P p then _ else p) = _
  rw [if_pos hp]
theorem runT_no {P : Nat → Bool} {t p : Nat} (hp : P p = false) : runT P t p = p := by
  unfold runT
  cases t - p with
  | zero => rfl
  | succ d =>
    show (if P p then _ else p) = _
    rw [if_neg (by rw [hp]; decide)]
theorem runT_all {P : Nat → Bool} {t : Nat} : ∀ d p, t - p = d → p ≤ runT P t p ∧ (p ≤ t → runT P t p ≤ t) ∧ (∀ k, p ≤ k → k < runT P t p → P k = true) ∧ (runT P t p < t → P (runT P t p) = false) := by
  intro d
  induction d with
  | zero =>
    intro p h
    rw [runT_end (by omega)]
    exact ⟨Nat.le_refl _, fun h => h, fun k h1 h2 => absurd h1 (by omega), fun h2 => absurd h2 (by omega)⟩
  | succ d ih =>
    intro p h
    cases hp : P p
    · rw [runT_no hp]
      exact ⟨Nat.le_refl _, fun h => h, fun k h1 h2 => absurd h1 (by omega), fun _ => hp⟩
    · rw [runT_yes (by omega) hp]
      obtain ⟨a1, a2, a3, a4⟩ := ih (p + 1) (by omega)
      refine ⟨by omega, fun _ => a2 (by omega), fun k h1 h2 => ?_, a4⟩
      by_cases hk : k = p
      · rw [hk]; exact hp
      · exact a3 k (by omega) h2
theorem runT_ge (P : Nat → Bool) (t p : Nat) : p ≤ runT P t p := (runT_all _ p rfl).1
theorem runT_le {P : Nat → Bool} {t p : Nat} (h : p ≤ t) : runT P t p ≤ t := (runT_all _ p rfl).2.1 h
theorem runT_in {P : Nat → Bool} {t p k : Nat} (h1 : p ≤ k) (h2 : k < runT P t p) : P k = true := (runT_all _ p rfl).2.2.1 k h1 h2
theorem runT_st {P : Nat → Bool} {t p : Nat} (h : runT P t p < t) : P (runT P t p) = false := (runT_all _ p rfl).2.2.2 h
def blkB (C : Nat → Nat) (k : Nat) : Bool := decide (C k = 10 ∨ C k = 32)
def letB (C : Nat → Nat) (k : Nat) : Bool := decide (97 ≤ C k ∧ C k ≤ 122)
def digB (C : Nat → Nat) (k : Nat) : Bool := decide (48 ≤ C k ∧ C k ≤ 57)
def sgnB (x : Nat) : Bool := decide (x = 40 ∨ x = 41 ∨ x = 59 ∨ x = 61 ∨ x = 60 ∨ x = 43 ∨ x = 45 ∨ x = 42)
def plC (C : Nat → Nat) (t p : Nat) : Nat := runT (blkB C) t p
def enC (C : Nat → Nat) (t q : Nat) : Nat := if t ≤ q then q else if letB C q then runT (letB C) t q else if digB C q then runT (digB C) t q else q + 1
def PP (C : Nat → Nat) (t : Nat) : Nat → Nat
  | 0 => plC C t 0
  | i + 1 => plC C t (enC C t (PP C t i))
def wdC (C : Nat → Nat) (q l : Nat) : List Nat := (List.range l).map (fun i => C (q + i))
def wlC (C : Nat → Nat) (t q : Nat) : Nat := runT (letB C) t q - q
def dlC (C : Nat → Nat) (t q : Nat) : Nat := runT (digB C) t q - q
def nmC (C : Nat → Nat) (q : Nat) : Nat → Nat
  | 0 => 0
  | j + 1 => 10 * nmC C q j + (C (q + j) - 48)
def tK (C : Nat → Nat) (t q : Nat) : Nat := if t ≤ q then 34 else if letB C q then (if wlC C t q ≤ 8 then kIx (wdC C q (wlC C t q)) else 35) else if digB C q then (if dlC C t q ≤ 4 then 33 else 35) else if sgnB (C q) then C q else 35
/-- a token's word -/
def wdT (C : Nat → Nat) (t q : Nat) : List Nat := wdC C q (wlC C t q)
theorem wd_len (C : Nat → Nat) (q l : Nat) : (wdC C q l).length = l := by unfold wdC; simp
theorem wd_snoc (C : Nat → Nat) (q j : Nat) : wdC C q (j + 1) = wdC C q j ++ [C (q + j)] := by
  unfold wdC; rw [List.range_succ, List.map_append]; rfl
theorem codM_snoc (u : List Nat) (x : Nat) : codM (u ++ [x]) = 37 * codM u + (x - 96) := by unfold codM; rw [List.foldl_append]; rfl
theorem codC_snoc (u : List Nat) (x : Nat) : codC (u ++ [x]) = 256 * codC u + x := by unfold codC; rw [List.foldl_append]; rfl
theorem wd_ltr {C : Nat → Nat} {t q l : Nat} (h : q + l ≤ runT (letB C) t q) : ltr (wdC C q l) := by
  intro c hc
  unfold wdC at hc
  obtain ⟨i, hi, rfl⟩ := List.mem_map.mp hc
  have := runT_in (P := letB C) (t := t) (p := q) (k := q + i) (by omega) (by have := List.mem_range.mp hi; omega)
  exact of_decide_eq_true this
theorem en_le {C : Nat → Nat} {t q : Nat} (h : q ≤ t) : enC C t q ≤ t ∧ q ≤ enC C t q ∧ (q < t → q < enC C t q) := by
  unfold enC
  by_cases h1 : t ≤ q
  · rw [if_pos h1]; omega
  · rw [if_neg h1]
    have adv : ∀ P : Nat → Bool, P q = true → q < runT P t q := fun P hP => by
      rw [runT_yes (by omega) hP]
      have := runT_ge P t (q + 1)
      omega
    by_cases h2 : letB C q = true
    · rw [if_pos h2]; exact ⟨runT_le h, runT_ge _ _ _, fun _ => adv _ h2⟩
    · rw [if_neg h2]
      by_cases h3 : digB C q = true
      · rw [if_pos h3]; exact ⟨runT_le h, runT_ge _ _ _, fun _ => adv _ h3⟩
      · rw [if_neg h3]; omega
theorem PP_le (C : Nat → Nat) (t : Nat) : ∀ i, PP C t i ≤ t
  | 0 => runT_le (Nat.zero_le _)
  | i + 1 => runT_le (en_le (PP_le C t i)).1
theorem PP_nb {C : Nat → Nat} {t : Nat} : ∀ {i : Nat}, PP C t i < t → blkB C (PP C t i) = false
  | 0, h => runT_st h
  | _ + 1, h => runT_st h
theorem PP_ge (C : Nat → Nat) (t i : Nat) (h : PP C t i < t) : PP C t i < PP C t (i + 1) := by
  have h1 := (en_le (C := C) (Nat.le_of_lt h)).2.2 h
  have h2 := runT_ge (blkB C) t (enC C t (PP C t i))
  show _ < plC C t _
  unfold plC
  omega
/-- sorts and values of the reference -/
def srt (C : Nat → Nat) (t q : Nat) : Nat := if letB C q then (if wlC C t q ≤ 8 then 1 else 4) else if digB C q then (if dlC C t q ≤ 4 then 2 else 4) else if sgnB (C q) then 3 else 4
def vlR (C : Nat → Nat) (t q : Nat) (v : Int64) : Prop := (letB C q = true → wlC C t q ≤ 8 → v = lN (codM (wdT C t q))) ∧ (letB C q = false → digB C q = true → dlC C t q ≤ 4 → v = lN (nmC C q (dlC C t q))) ∧ (letB C q = false → digB C q = false → v = lN (C q))
/-- the tape as both hold it -/
def chM (SM : Ob) (C : Nat → Nat) (t : Nat) : Prop := t ≤ 1000 ∧ ∀ k, k < t → SM.2.2.1 1 k = nI (C k) ∧ (C k = 10 ∨ 32 ≤ C k ∧ C k ≤ 126)
theorem s12_let {x : Nat} (hx : x < 256) : f12_isLetter (nI x) = some (if decide (97 ≤ x ∧ x ≤ 122) then 1 else 0) := by
  unfold f12_isLetter f12_isLetter_16 f12_isLetter_17
  by_cases h1 : x < 97
  · rw [if_pos (show nI x < 97 from nI_lt (b := 97) h1 (by omega)), decide_eq_false (by omega)]; rfl
  · rw [if_neg (show ¬ nI x < 97 from nI_nlt (b := 97) (by omega) (by omega))]
    by_cases h2 : 122 < x
    · rw [if_pos (show (122 : Int32) < nI x from nI_lt (a := 122) h2 (by omega)), decide_eq_false (by omega)]; rfl
    · rw [if_neg (show ¬ (122 : Int32) < nI x from nI_nlt (a := 122) (by omega) (by omega)), decide_eq_true (by omega)]; rfl
theorem s12_dig {x : Nat} (hx : x < 256) : f12_isDigit (nI x) = some (if decide (48 ≤ x ∧ x ≤ 57) then 1 else 0) := by
  unfold f12_isDigit f12_isDigit_16 f12_isDigit_17
  by_cases h1 : x < 48
  · rw [if_pos (show nI x < 48 from nI_lt (b := 48) h1 (by omega)), decide_eq_false (by omega)]; rfl
  · rw [if_neg (show ¬ nI x < 48 from nI_nlt (b := 48) (by omega) (by omega))]
    by_cases h2 : 57 < x
    · rw [if_pos (show (57 : Int32) < nI x from nI_lt (a := 57) h2 (by omega)), decide_eq_false (by omega)]; rfl
    · rw [if_neg (show ¬ (57 : Int32) < nI x from nI_nlt (a := 57) (by omega) (by omega)), decide_eq_true (by omega)]; rfl
theorem s12_sgn : ∀ x, x < 256 → f12_isSignOf (nI x) = some (if sgnB x then 1 else 0) := by decide +kernel
/-- letters -/
theorem cut_w {SM : Ob} {C : Nat → Nat} {t q n : Nat} (hc : chM SM C t) (hs : SM.1 3 = nI t) (K : Int32 → Int32 → Ob → Option Ob) : ∀ m k v, q ≤ k → k ≤ t → t - k < m → (k - q ≤ 8 → v = lN (codM (wdC C q (k - q)))) → ∃ v', f12_cutAll_70 K m (nI n) (nI k) (nI q) v SM = f12_cutAll_129 K (nI n) (nI (runT (letB C) t k)) (nI q) v' SM ∧ (runT (letB C) t k - q ≤ 8 → v' = lN (codM (wdC C q (runT (letB C) t k - q)))) := by
  intro m
  induction m with
  | zero => intro k v h1 h2 h3; omega
  | succ m ih =>
    intro k v h1 h2 h3 hv
    rw [f12_cutAll_70, hs]
    have ht := hc.1
    by_cases hk : t ≤ k
    · rw [if_pos (nI_le (by omega) (by omega)), runT_end hk]
      exact ⟨v, rfl, hv⟩
    · obtain ⟨c1, c2⟩ := hc.2 k (by omega)
      rw [if_neg (nI_ge (by omega) (by omega)), inb_nI (by omega) (by omega), ck_t, nI_clamp (by omega), c1, s12_let (by omega), bd_s]
      cases hl : letB C k
      · have hl' : decide (97 ≤ C k ∧ C k ≤ 122) = false := hl
        rw [hl', if_pos (show (if false = true then (1 : Int32) else 0) = 0 from rfl), runT_no hl]
        exact ⟨v, rfl, hv⟩
      · have hl' : decide (97 ≤ C k ∧ C k ≤ 122) = true := hl
        have hl2 := of_decide_eq_true hl'
        rw [hl', if_neg (by decide), pk_sub h1, runT_yes (by omega) hl]
        unfold f12_cutAll_121
        by_cases h8 : 8 ≤ k - q
        · rw [if_pos (show (8 : Int32) ≤ nI (k - q) from nI_le (a := 8) h8 (by omega)), lt_e, nI_1]
          exact ih (k + 1) v (by omega) (by omega) (by omega) (fun hh => absurd hh (by omega))
        · have er : f12_rank (nI (C k)) = some (nI (C k - 96)) := by
            unfold f12_rank f12_rank_18
            rw [s12_let (by omega), hl', bd_s, if_neg (by decide)]
            rw [show (96 : Int32) = nI 96 from rfl, pk_sub (by omega)]
          rw [if_neg (show ¬ (8 : Int32) ≤ nI (k - q) from nI_ge (b := 8) (by omega) (by omega)), er, bd_s, lt_e, nI_1, hv (by omega), nI_l (by omega), show (37 : Int64) = lN 37 from rfl, lN_mul, lN_add]
          refine ih (k + 1) _ (by omega) (by omega) (by omega) (fun _ => ?_)
          rw [show k + 1 - q = (k - q) + 1 by omega, wd_snoc, codM_snoc, show q + (k - q) = k by omega]
theorem cut_d {SM : Ob} {C : Nat → Nat} {t q n : Nat} (hc : chM SM C t) (hs : SM.1 3 = nI t) (K : Int32 → Int32 → Ob → Option Ob) : ∀ m k v, q ≤ k → k ≤ t → t - k < m → (k - q ≤ 4 → v = lN (nmC C q (k - q))) → ∃ v', f12_cutAll_159 K m (nI n) (nI k) (nI q) v SM = f12_cutAll_218 K (nI n) (nI (runT (digB C) t k)) (nI q) v' SM ∧ (runT (digB C) t k - q ≤ 4 → v' = lN (nmC C q (runT (digB C) t k - q))) := by
  intro m
  induction m with
  | zero => intro k v h1 h2 h3; omega
  | succ m ih =>
    intro k v h1 h2 h3 hv
    rw [f12_cutAll_159, hs]
    have ht := hc.1
    by_cases hk : t ≤ k
    · rw [if_pos (nI_le (by omega) (by omega)), runT_end hk]
      exact ⟨v, rfl, hv⟩
    · obtain ⟨c1, c2⟩ := hc.2 k (by omega)
      rw [if_neg (nI_ge (by omega) (by omega)), inb_nI (by omega) (by omega), ck_t, nI_clamp (by omega), c1, s12_dig (by omega), bd_s]
      cases hl : digB C k
      · have hl' : decide (48 ≤ C k ∧ C k ≤ 57) = false := hl
        rw [hl', if_pos (show (if false = true then (1 : Int32) else 0) = 0 from rfl), runT_no hl]
        exact ⟨v, rfl, hv⟩
      · have hl' : decide (48 ≤ C k ∧ C k ≤ 57) = true := hl
        have hl2 := of_decide_eq_true hl'
        rw [hl', if_neg (by decide), pk_sub h1, runT_yes (by omega) hl]
        unfold f12_cutAll_210
        by_cases h8 : 4 ≤ k - q
        · rw [if_pos (show (4 : Int32) ≤ nI (k - q) from nI_le (a := 4) h8 (by omega)), lt_e, nI_1]
          exact ih (k + 1) v (by omega) (by omega) (by omega) (fun hh => absurd hh (by omega))
        · rw [if_neg (show ¬ (4 : Int32) ≤ nI (k - q) from nI_ge (b := 4) (by omega) (by omega)), ck_t, lt_e, nI_1, hv (by omega), nI_l (by omega), show (10 : Int64) = lN 10 from rfl, show (48 : Int64) = lN 48 from rfl, lN_mul, lN_add, lN_sub (by omega)]
          refine ih (k + 1) _ (by omega) (by omega) (by omega) (fun _ => ?_)
          rw [show k + 1 - q = (k - q) + 1 by omega]
          show _ = lN (10 * nmC C q (k - q) + (C (q + (k - q)) - 48))
          rw [show q + (k - q) = k by omega]
          exact congrArg lN (by omega)
/-- what cutting leaves as it was -/
def FrT (SM0 SM : Ob) : Prop := (∀ k, k ≠ 2 → k ≠ 3 → k ≠ 7 → k ≠ 8 → SM.1 k = SM0.1 k) ∧ SM.2.1 = SM0.2.1 ∧ (∀ k, k ≠ 4 → k ≠ 5 → SM.2.2.1 k = SM0.2.2.1 k) ∧ ∀ k, k ≠ 6 → SM.2.2.2 k = SM0.2.2.2 k
theorem va_ne' {α : Type} (f : Nat → α) {k i : Nat} (h : i ≠ k) (v : α) : va_up f k v i = f i := va_ne f h v
theorem FrT_A {S0 S : Ob} (h : FrT S0 S) {k : Nat} (hk : k = 4 ∨ k = 5) (j : Nat) (v : Int32) : FrT S0 (oA S k j v) := by
  obtain ⟨h1, h2, h3, h4⟩ := h
  refine ⟨h1, h2, fun i a b => ?_, h4⟩
  show va_up S.2.2.1 k _ i = _
  rw [va_ne _ (by omega)]; exact h3 i a b
theorem FrT_J {S0 S : Ob} (h : FrT S0 S) (j : Nat) (v : Int64) : FrT S0 (oJ S 6 j v) := by
  obtain ⟨h1, h2, h3, h4⟩ := h
  refine ⟨h1, h2, h3, fun i a => ?_⟩
  show va_up S.2.2.2 6 _ i = _
  rw [va_ne _ a]; exact h4 i a
theorem FrT_I {S0 S : Ob} (h : FrT S0 S) {k : Nat} (hk : k = 2 ∨ k = 3 ∨ k = 7 ∨ k = 8) (v : Int32) : FrT S0 (oI S k v) := by
  obtain ⟨h1, h2, h3, h4⟩ := h
  refine ⟨fun i a b c d => ?_, h2, h3, h4⟩
  show va_up S.1 k _ i = _
  rw [va_ne _ (by omega)]; exact h1 i a b c d
def TkM (SM : Ob) (C : Nat → Nat) (t n : Nat) : Prop := ∀ i, i < n → SM.2.2.1 5 i = nI (PP C t i) ∧ SM.2.2.1 4 i = nI (srt C t (PP C t i)) ∧ vlR C t (PP C t i) (SM.2.2.2 6 i)
theorem cut_main {SM0 : Ob} {C : Nat → Nat} {t : Nat} (hc : chM SM0 C t) : ∀ m n k SM, n ≤ k → k ≤ t → t - k < m → PP C t n = plC C t k → (∀ i, i < n → PP C t i < t) → FrT SM0 SM → SM.1 3 = nI t → SM.1 2 = 0 → TkM SM C t n → ∃ N SM', N ≤ t ∧ f12_cutAll_17 m (nI n) (nI k) SM = some SM' ∧ FrT SM0 SM' ∧ PP C t N = t ∧ (∀ i, i < N → PP C t i < t) ∧ TkM SM' C t N ∧ SM'.2.2.1 4 N = 0 ∧ SM'.2.2.1 5 N = nI t ∧ SM'.1 7 = 0 ∧ SM'.1 8 = 0 ∧ SM'.1 2 = 0 := by
  intro m
  induction m with
  | zero => intro n k SM h1 h2 h3; omega
  | succ m ih =>
    intro n k SM h1 h2 h3 hp hlt hf hs h20 htk
    have ht := hc.1
    have hcS : chM SM C t := ⟨ht, fun k hk => by rw [hf.2.2.1 1 (by omega) (by omega)]; exact hc.2 k hk⟩
    rw [f12_cutAll_17, hs]
    by_cases hk : t ≤ k
    · have hkt : k = t := by omega
      have hpn : PP C t n = t := by rw [hp, hkt]; exact runT_end (Nat.le_refl t)
      rw [if_pos (nI_le (by omega) (by omega)), inb_nI (by omega) (by omega), ck_t, lt_e, ck_t, lt_e, lt_e, lt_e, nI_clamp (by omega)]
      have e3 : (oA SM 4 n 0).1 3 = nI t := hs
      rw [e3]
      refine ⟨n, oI (oI (oA (oA SM 4 n 0) 5 n (nI t)) 7 0) 8 0, by omega, rfl, FrT_I (FrT_I (FrT_A (FrT_A hf (Or.inl rfl) _ _) (Or.inr rfl) _ _) (by omega) _) (by omega) _, hpn, hlt, fun i hi => ?_, ?_, ?_, rfl, rfl, h20⟩
      · obtain ⟨a1, a2, a3⟩ := htk i hi
        refine ⟨?_, ?_, a3⟩
        · show upd (SM.2.2.1 5) n (nI t) i = _
          rw [pk_un (by omega)]; exact a1
        · show upd (SM.2.2.1 4) n 0 i = _
          rw [pk_un (by omega)]; exact a2
      · show upd (SM.2.2.1 4) n 0 n = 0
        rw [pk_us]
      · show upd (SM.2.2.1 5) n (nI t) n = _
        rw [pk_us]
    · obtain ⟨c1, c2⟩ := hcS.2 k (by omega)
      rw [if_neg (nI_ge (by omega) (by omega)), inb_nI (by omega) (by omega), ck_t, lt_e, nI_clamp (by omega), c1]
      have hblk : blkB C k = true → ∃ N SM', N ≤ t ∧ f12_cutAll_44 (f12_cutAll_17 m) (nI n) (nI k) SM = some SM' ∧ FrT SM0 SM' ∧ PP C t N = t ∧ (∀ i, i < N → PP C t i < t) ∧ TkM SM' C t N ∧ SM'.2.2.1 4 N = 0 ∧ SM'.2.2.1 5 N = nI t ∧ SM'.1 7 = 0 ∧ SM'.1 8 = 0 ∧ SM'.1 2 = 0 := fun hb => by
        unfold f12_cutAll_44
        rw [lt_e, nI_1]
        refine ih n (k + 1) SM (by omega) (by omega) (by omega) ?_ hlt hf hs h20 htk
        rw [hp]; exact runT_yes (by omega) hb
      by_cases h10 : C k = 10
      · rw [if_pos (by rw [h10]; rfl)]
        exact hblk (decide_eq_true (Or.inl h10))
      rw [if_neg (show ¬ nI (C k) = 10 from fun hh => h10 ((nI_eq (b := 10) (by omega) (by omega)).mp hh))]
      by_cases h32 : C k = 32
      · rw [if_pos (by rw [h32]; rfl)]
        exact hblk (decide_eq_true (Or.inr h32))
      rw [if_neg (show ¬ nI (C k) = 32 from fun hh => h32 ((nI_eq (b := 32) (by omega) (by omega)).mp hh))]
      have hnb : blkB C k = false := decide_eq_false (by omega)
      have hpk : PP C t n = k := by rw [hp]; exact runT_no hnb
      rw [inb_nI (by omega) (by omega), ck_t, lt_e, nI_clamp (by omega), s12_let (by omega), bd_s]
      obtain ⟨S13, hS13⟩ : ∃ S, S = oA SM 5 n (nI k) := ⟨_, rfl⟩
      rw [← hS13]
      have hf13 : FrT SM0 S13 := by rw [hS13]; exact FrT_A hf (Or.inr rfl) _ _
      have hc13 : chM S13 C t := ⟨ht, fun k hk => by rw [hf13.2.2.1 1 (by omega) (by omega)]; exact hc.2 k hk⟩
      have hs13 : S13.1 3 = nI t := by rw [hS13]; exact hs
      -- behind a token
      have next : ∀ (e : Nat) (so' : Nat) (v : Int64), e = enC C t k → so' = srt C t k → vlR C t k v → ∃ N SM', N ≤ t ∧ f12_cutAll_265 (f12_cutAll_17 m) (nI n) (nI e) v (oA S13 4 n (nI so')) = some SM' ∧ FrT SM0 SM' ∧ PP C t N = t ∧ (∀ i, i < N → PP C t i < t) ∧ TkM SM' C t N ∧ SM'.2.2.1 4 N = 0 ∧ SM'.2.2.1 5 N = nI t ∧ SM'.1 7 = 0 ∧ SM'.1 8 = 0 ∧ SM'.1 2 = 0 := by
        intro e so' v he hso hv
        have hen := en_le (C := C) (t := t) (q := k) (by omega)
        rw [← he] at hen
        unfold f12_cutAll_265
        rw [inb_nI (by omega) (by omega), ck_t, lt_e, lt_e, nI_1, nI_clamp (by omega)]
        refine ih (n + 1) e _ (by omega) (by omega) (by omega) ?_ (fun i hi => ?_) (FrT_J (FrT_A hf13 (Or.inl rfl) _ _) _ _) hs13 (by rw [hS13]; exact h20) (fun i hi => ?_)
        · show plC C t (enC C t (PP C t n)) = _
          rw [hpk, ← he]
        · by_cases hin : i = n
          · rw [hin, hpk]; omega
          · exact hlt i (by omega)
        · by_cases hin : i = n
          · subst hin
            rw [hpk]
            refine ⟨?_, ?_, ?_⟩
            · rw [hS13]
              show upd (SM.2.2.1 5) i (nI k) i = _
              rw [pk_us]
            · show upd (S13.2.2.1 4) i (nI so') i = _
              rw [pk_us, hso]
            · show vlR C t k (vp_updL (S13.2.2.2 6) i v i)
              rw [pk_uLs]; exact hv
          · obtain ⟨a1, a2, a3⟩ := htk i (by omega)
            refine ⟨?_, ?_, ?_⟩
            · rw [hS13]
              show upd (SM.2.2.1 5) n (nI k) i = _
              rw [pk_un hin]; exact a1
            · rw [hS13]
              show upd (SM.2.2.1 4) n (nI so') i = _
              rw [pk_un hin]; exact a2
            · rw [hS13]
              show vlR C t (PP C t i) (vp_updL (SM.2.2.2 6) n v i)
              rw [pk_uLn hin]; exact a3
      cases hl : letB C k
      · have hl' : decide (97 ≤ C k ∧ C k ≤ 122) = false := hl
        rw [hl', if_pos (show (if false = true then (1 : Int32) else 0) = 0 from rfl), s12_dig (by omega), bd_s]
        cases hd : digB C k
        · have hd' : decide (48 ≤ C k ∧ C k ≤ 57) = false := hd
          rw [hd', if_pos (show (if false = true then (1 : Int32) else 0) = 0 from rfl), lt_e, s12_sgn _ (by omega), bd_s, nI_l (by omega)]
          have hend : k + 1 = enC C t k := by
            unfold enC
            rw [if_neg (by omega), if_neg (by rw [hl]; decide), if_neg (by rw [hd]; decide)]
          have hv : vlR C t k (lN (C k)) := ⟨fun hh => absurd (hl.symm.trans hh) (by decide), fun _ hh => absurd (hd.symm.trans hh) (by decide), fun _ _ => rfl⟩
          unfold f12_cutAll_261
          rw [inb_nI (show n < 1002 by omega) (by omega), ck_t, ck_t, lt_e, lt_e, lt_e, lt_e, nI_1, nI_clamp (by omega)]
          cases hsg : sgnB (C k)
          · rw [if_pos (show (if false = true then (1 : Int32) else 0) = 0 from rfl)]
            exact next (k + 1) 4 _ hend (by unfold srt; rw [hl, hd, hsg]; rfl) hv
          · rw [if_neg (by decide)]
            exact next (k + 1) 3 _ hend (by unfold srt; rw [hl, hd, hsg]; rfl) hv
        · have hd' : decide (48 ≤ C k ∧ C k ≤ 57) = true := hd
          rw [hd', if_neg (by decide)]
          obtain ⟨v', e1, e2⟩ := cut_d (n := n) hc13 hs13 (f12_cutAll_17 m) FU k 0 (Nat.le_refl k) (by omega) (FU_lt (by omega)) (fun _ => by rw [Nat.sub_self]; rfl)
          rw [e1]
          have hge := runT_ge (digB C) t k
          have hle := runT_le (P := digB C) (t := t) (p := k) (by omega)
          have hend : runT (digB C) t k = enC C t k := by
            unfold enC
            rw [if_neg (by omega), if_neg (by rw [hl]; decide), if_pos hd]
          have hv : vlR C t k v' := ⟨fun hh => absurd (hl.symm.trans hh) (by decide), fun _ _ hh => e2 hh, fun _ hh => absurd (hd.symm.trans hh) (by decide)⟩
          unfold f12_cutAll_218 f12_cutAll_236
          rw [inb_nI (show n < 1002 by omega) (by omega), ck_t, ck_t, lt_e, lt_e, nI_clamp (by omega), pk_sub hge]
          by_cases h4 : dlC C t k ≤ 4
          · rw [if_pos (show nI (runT (digB C) t k - k) ≤ 4 from nI_le (b := 4) h4 (by omega))]
            exact next _ 2 _ hend (by unfold srt; rw [hl, hd, if_neg (by decide), if_pos rfl, if_pos h4]) hv
          · rw [if_neg (show ¬ nI (runT (digB C) t k - k) ≤ 4 from nI_ge (a := 4) (by unfold dlC at h4; omega) (by omega))]
            exact next _ 4 _ hend (by unfold srt; rw [hl, hd, if_neg (by decide), if_pos rfl, if_neg h4]) hv
      · have hl' : decide (97 ≤ C k ∧ C k ≤ 122) = true := hl
        rw [hl', if_neg (by decide)]
        obtain ⟨v', e1, e2⟩ := cut_w (n := n) hc13 hs13 (f12_cutAll_17 m) FU k 0 (Nat.le_refl k) (by omega) (FU_lt (by omega)) (fun _ => by rw [Nat.sub_self]; rfl)
        rw [e1]
        have hge := runT_ge (letB C) t k
        have hle := runT_le (P := letB C) (t := t) (p := k) (by omega)
        have hend : runT (letB C) t k = enC C t k := by
          unfold enC
          rw [if_neg (by omega), if_pos hl]
        have hv : vlR C t k v' := ⟨fun _ hh => e2 hh, fun hh => absurd (hl.symm.trans hh) (by decide), fun hh => absurd (hl.symm.trans hh) (by decide)⟩
        unfold f12_cutAll_129 f12_cutAll_148
        rw [inb_nI (show n < 1002 by omega) (by omega), ck_t, ck_t, lt_e, lt_e, nI_clamp (by omega), pk_sub hge]
        by_cases h4 : wlC C t k ≤ 8
        · rw [if_pos (show nI (runT (letB C) t k - k) ≤ 8 from nI_le (b := 8) h4 (by omega))]
          exact next _ 1 _ hend (by unfold srt; rw [hl, if_pos rfl, if_pos h4]) hv
        · rw [if_neg (show ¬ nI (runT (letB C) t k - k) ≤ 8 from nI_ge (a := 8) (by unfold wlC at h4; omega) (by omega))]
          exact next _ 4 _ hend (by unfold srt; rw [hl, if_pos rfl, if_neg h4]) hv
