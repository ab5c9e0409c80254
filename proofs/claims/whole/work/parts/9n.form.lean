/-! pure: formulas -/
def ChH (C : Nat → Nat) (t N n g h : Nat) (Ctx : Ob → Prop) (cs : Ob → Ob → Ob → Option (Int32 × Ob × Ob × Ob)) (rs : Ob → Option Ob) (Lc : Nat → Int32 → Int32 → Ob → Ob → Ob → Option (Int32 × Ob × Ob × Ob)) (Lr : Nat → Ob → Option Ob) (op : Nat → Nat) : Prop :=
  (∀ A B, Ctx A → FrF A B → Ctx B) ∧
  (∀ SG ST SC SM i s r, Syn C t N SG ST SM i → SC.1 3 = nI s → s ≤ i → SM.1 13 = nI r → r ≤ i → Ctx SM → OutP C t N n g h SG ST SC SM i s r (cs SG ST SC) (rs SM)) ∧
  (∀ k, op k = 0 ∨ (4 ≤ op k ∧ op k ≤ 10 ∧ k ≠ 34 ∧ ckN (op k, 0) = k ∧ (n ≤ 8 → op k ≤ 5))) ∧
  (∀ m q SG ST SC k, ST.1 3 = nI k → k ≤ 61 → op k = 0 → Lc (m + 1) 1 q SG ST SC = some (1, SG, ST, SC)) ∧
  (∀ m q SG ST SC, Lc (m + 1) 0 q SG ST SC = some (0, SG, ST, SC)) ∧
  (∀ m q SG ST SC k, q < 1000 → ST.1 3 = nI k → k ≤ 61 → op k ≠ 0 → Lc (m + 1) 1 (nI q) SG ST SC = bd (f10_advance ST) fun ST1 => bd (cs SG ST1 SC) fun r => bd (f2_put (nI k) 0 (r.2.2.2)) fun SC1 => Lc m (r.1) (nI (q + 1)) (r.2.1) (r.2.2.1) SC1) ∧
  (∀ m SM i, RfS SM C t N → SM.1 7 = nI i → i ≤ N → SM.1 8 = 0 → op (kdT C t i) = 0 → Lr (m + 1) SM = some SM) ∧
  (∀ m SM F, Flt SM F → Lr (m + 1) SM = some SM) ∧
  (∀ m SM i, RfS SM C t N → SM.1 7 = nI i → i ≤ N → SM.1 8 = 0 → op (kdT C t i) ≠ 0 → Lr (m + 1) SM = bd (rs (oI SM 7 (nI (i + 1)))) fun SM1 => bd (f12_emit (nI (roN (op (kdT C t i), 0))) (nI (raN (op (kdT C t i), 0))) SM1) fun SM2 => Lr m SM2)
theorem chain {C : Nat → Nat} {t N n g h : Nat} {Ctx : Ob → Prop} {cs : Ob → Ob → Ob → Option (Int32 × Ob × Ob × Ob)} {rs : Ob → Option Ob} {Lc : Nat → Int32 → Int32 → Ob → Ob → Ob → Option (Int32 × Ob × Ob × Ob)} {Lr : Nat → Ob → Option Ob} {op : Nat → Nat} (H : ChH C t N n g h Ctx cs rs Lc Lr op) (SG ST SC SM : Ob) (i s r : Nat) (hsy : Syn C t N SG ST SM i) (hs : SC.1 3 = nI s) (hsi : s ≤ i) (hr : SM.1 13 = nI r) (hri : r ≤ i) (hcx : Ctx SM) : OutP C t N n g (h + 1) SG ST SC SM i s r (bd (cs SG ST SC) fun r_1 => lt r_1.1 fun x2 => Lc FU x2 0 r_1.2.1 r_1.2.2.1 r_1.2.2.2) (bd (rs SM) fun r_1 => Lr FU r_1) := by
  obtain ⟨H1, H2, H3, H4, H5, H6, H7, H8, H9⟩ := H
  have hN := hsy.2.2.2.2.2.2.2.1
  have ht := hsy.2.2.2.2.2.2.1
  rcases H2 SG ST SC SM i s r hsy hs hsi hr hri hcx with ⟨ST2, SC2, SM2, i2, L2, q1, q2, q3, q4, q5, q6, q7, q8, q9, q10, q11⟩ | ⟨SG2, ST2, SC2, SM2, i2, r2, s2, F, q1, q2, q3, q4, q5, q6, q7, q8, q9, q10, q11⟩
  · rw [q1, bd_s, q2, bd_s, lt_e]
    exact chain_loop H1 H2 H3 H4 H5 H6 H7 H8 H9 (N - i2) 0 SG ST2 SC2 SM2 i2 FU FU ST SC SM i s r L2 (Nat.le_refl _) (FU_lt (by omega)) (FU_lt (by omega)) q3 (Nat.zero_le _) q6 q7 q8 q4 q9 q5 hsi hri (wf_mono q10 (by omega)) q11 (H1 _ _ hcx q8)
  · rw [q1, bd_s, q2, bd_s, lt_e]
    show OutP C t N n g (h + 1) SG ST SC SM i s r (Lc (4999 + 1) 0 0 SG2 ST2 SC2) (Lr (4999 + 1) SM2)
    rw [H5, H8 _ _ _ q5]
    exact Or.inr ⟨SG2, ST2, SC2, SM2, i2, r2, s2, F, rfl, rfl, q3, q4, q5, q6, q7, q8, q9, q10, q11⟩
def op1 (a b k : Nat) : Nat := if k = a then b else 0
theorem op1_ok {n a b : Nat} (h1 : 4 ≤ b) (h2 : b ≤ 10) (h3 : a ≠ 34) (h4 : ckN (b, 0) = a) (h5 : n ≤ 8 → b ≤ 5) : ∀ k, op1 a b k = 0 ∨ (4 ≤ op1 a b k ∧ op1 a b k ≤ 10 ∧ k ≠ 34 ∧ ckN (op1 a b k, 0) = k ∧ (n ≤ 8 → op1 a b k ≤ 5)) := by
  intro k
  unfold op1
  by_cases hk : k = a
  · rw [if_pos hk]; right; rw [h4, hk]; exact ⟨h1, h2, h3, rfl, h5⟩
  · rw [if_neg hk]; exact Or.inl rfl
/-- whose a name is -/
def LkR (n g : Nat) (v a b : Int32) : Prop := (∃ j, j < n ∧ v = nI j ∧ a = nI j ∧ b = -1) ∨ (∃ s, s < g ∧ v = nI (20 + s) ∧ a = -1 ∧ b = nI s) ∨ ((v = -1 ∨ v = nI (20 + g)) ∧ a = -1 ∧ b = -1)
def NmS (SI SM : Ob) (n g : Nat) : Prop := ∀ w, ltr w → 1 ≤ w.length → w.length ≤ 8 → ∃ v a b, f4_guestNamed (lN (codC w)) SI = some a ∧ f4_signNamed (lN (codC w)) SI = some b ∧ LkR n g v a b ∧ ∀ (i : Nat) (SM' : Ob), SM'.1 7 = nI i → i < 1002 → SM'.2.2.2 6 i = lN (codM w) → (SM'.1 18 = SM.1 18 ∧ SM'.1 19 = SM.1 19 ∧ SM'.1 20 = SM.1 20 ∧ SM'.2.2.1 16 = SM.2.2.1 16 ∧ SM'.2.2.1 17 = SM.2.2.1 17 ∧ SM'.2.2.2 14 = SM.2.2.2 14 ∧ SM'.2.2.2 15 = SM.2.2.2 15) → f12_find SM' = some v
def CtxF (SI : Ob) (n g : Nat) (SM : Ob) : Prop := n ≤ 8 ∧ g ≤ 6 ∧ SI.1 0 = nI n ∧ SI.1 8 = nI g ∧ SM.1 21 = nI (20 + g) ∧ NmS SI SM n g
theorem NmS_fr {SI A B : Ob} {n g : Nat} (h : NmS SI A n g) (h18 : B.1 18 = A.1 18) (h19 : B.1 19 = A.1 19) (h20 : B.1 20 = A.1 20) (h16 : B.2.2.1 16 = A.2.2.1 16) (h17 : B.2.2.1 17 = A.2.2.1 17) (h14 : B.2.2.2 14 = A.2.2.2 14) (h15 : B.2.2.2 15 = A.2.2.2 15) : NmS SI B n g := fun w w1 w2 w3 => by
  obtain ⟨v, a, b, k1, k2, k3, k4⟩ := h w w1 w2 w3
  exact ⟨v, a, b, k1, k2, k3, fun i SM' e1 e2 e3 ⟨f1, f2, f3, f4, f5, f6, f7⟩ => k4 i SM' e1 e2 e3 ⟨f1.trans h18, f2.trans h19, f3.trans h20, f4.trans h16, f5.trans h17, f6.trans h14, f7.trans h15⟩⟩
theorem CtxF_F {SI : Ob} {n g : Nat} (A B : Ob) (h : CtxF SI n g A) (hf : FrF A B) : CtxF SI n g B := by
  obtain ⟨a1, a2, a3, a4, a5, a6⟩ := h
  exact ⟨a1, a2, a3, a4, (hf.1 21 (by omega) (by omega) (by omega)).trans a5, NmS_fr a6 (hf.1 18 (by omega) (by omega) (by omega)) (hf.1 19 (by omega) (by omega) (by omega)) (hf.1 20 (by omega) (by omega) (by omega)) (hf.2.2.1 16 (by omega) (by omega)) (hf.2.2.1 17 (by omega) (by omega)) (by rw [hf.2.2.2.1]) (by rw [hf.2.2.2.1])⟩
theorem gn_some {SI : Ob} {n : Nat} (hn : SI.1 0 = nI n) (h8 : n ≤ 8) (x : Int64) : ∃ a, f4_guestNamed x SI = some a := by
  have key : ∀ m j, j ≤ n → n - j < m → ∃ a, f4_guestNamed_2 m x (nI j) SI = some a := by
    intro m
    induction m with
    | zero => intro j h1 h2; omega
    | succ m ih =>
      intro j h1 h2
      rw [f4_guestNamed_2, hn]
      by_cases h : j = n
      · rw [if_pos (nI_le (by omega) (by omega))]; exact ⟨_, rfl⟩
      · rw [if_neg (nI_ge (by omega) (by omega)), inb_nI (by omega) (by omega), ck_t, lt_e, nI_1]
        obtain ⟨a, e⟩ := ih (j + 1) (by omega) (by omega)
        split
        · exact ⟨_, rfl⟩
        · exact ⟨a, e⟩
  exact key FU 0 (Nat.zero_le _) (FU_lt (by omega))
theorem sn_some {SI : Ob} {n : Nat} (hn : SI.1 8 = nI n) (h8 : n ≤ 6) (x : Int64) : ∃ a, f4_signNamed x SI = some a := by
  have key : ∀ m j, j ≤ n → n - j < m → ∃ a, f4_signNamed_2 m x (nI j) SI = some a := by
    intro m
    induction m with
    | zero => intro j h1 h2; omega
    | succ m ih =>
      intro j h1 h2
      rw [f4_signNamed_2, hn]
      by_cases h : j = n
      · rw [if_pos (nI_le (by omega) (by omega))]; exact ⟨_, rfl⟩
      · rw [if_neg (nI_ge (by omega) (by omega)), inb_nI (by omega) (by omega), ck_t, lt_e, nI_1]
        obtain ⟨a, e⟩ := ih (j + 1) (by omega) (by omega)
        split
        · exact ⟨_, rfl⟩
        · exact ⟨a, e⟩
  exact key FU 0 (Nat.zero_le _) (FU_lt (by omega))
theorem out_fail {C : Nat → Nat} {t N n g h : Nat} {SG ST SC SM : Ob} {i s r : Nat} (hsy : Syn C t N SG ST SM i) (hs : SC.1 3 = nI s) (hsi : s ≤ i) (hr : SM.1 13 = nI r) (hri : r ≤ i) {c : Nat} (hc : 1 ≤ c) (hc5 : c ≤ 5) : OutP C t N n g h SG ST SC SM i s r (some (0, oI SG 3 (nI (c + 16 * PP C t i)), ST, SC)) (some (oI SM 8 (nI (c + 16 * PP C t i)))) := by
  have hN := hsy.2.2.2.2.2.2.2.1
  have ht := hsy.2.2.2.2.2.2.1
  have hi := hsy.2.2.2.2.2.1
  have hp := PP_le C t i
  exact Or.inr ⟨_, ST, SC, _, i, r, s, c + 16 * PP C t i, rfl, rfl, ⟨fun _ _ _ _ _ => rfl, rfl⟩, rfl, ⟨rfl, by omega, by omega⟩, hs, by omega, FrF_I SM (by omega) _, hr, by omega, hi⟩
theorem c_fail {C : Nat → Nat} {t N i : Nat} {SG ST SM : Ob} (hsy : Syn C t N SG ST SM i) (c : Nat) : f3_fail (nI c) SG ST = some (0, oI SG 3 (nI (c + 16 * PP C t i))) := by
  unfold f3_fail
  rw [hsy.2.1.2.1, lt_e, show (16 : Int32) = nI 16 from rfl, pk_mul, nI_add]
/-- a token found at both -/
theorem find_at {C : Nat → Nat} {t N i n g : Nat} {SG ST SM SI : Ob} (hsy : Syn C t N SG ST SM i) (hcx : NmS SI SM n g) (hk : kdT C t i ≤ 32) : ∃ v a b, f12_find SM = some v ∧ f4_guestNamed (ST.2.1 6) SI = some a ∧ f4_signNamed (ST.2.1 6) SI = some b ∧ LkR n g v a b := by
  obtain ⟨y1, y2, y3, y4, y5, y6, y7⟩ := hsy
  obtain ⟨v1, v2, v3, v4, v5⟩ := val_w y7 y6 hk
  obtain ⟨v, a, b, k1, k2, k3, k4⟩ := hcx (wdT C t (PP C t i)) v2 v4 v3
  have ew : ST.2.1 6 = lN (codC (wdT C t (PP C t i))) := y2.2.2.2.1 hk
  have ht := y7.1
  have hN := y7.2.1
  refine ⟨v, a, b, k4 i SM y4 (by omega) v1 ⟨rfl, rfl, rfl, rfl, rfl, rfl, rfl⟩, by rw [ew]; exact k1, by rw [ew]; exact k2, k3⟩
/-- chains of items -/
theorem ch_term {C : Nat → Nat} {t N n g h dp d : Nat} {SI : Ob} (hsub : ∀ SG ST SC SM i s r, Syn C t N SG ST SM i → SC.1 3 = nI s → s ≤ i → SM.1 13 = nI r → r ≤ i → CtxF SI n g SM → OutP C t N n g h SG ST SC SM i s r (f3_item dp (nI d) SG ST SC SI) (f12_item dp (nI d) SM)) : ChH C t N n g h (CtxF SI n g) (fun SG ST SC => f3_item dp (nI d) SG ST SC SI) (fun SM => f12_item dp (nI d) SM) (fun m x2 x3 SG ST SC => f3_term_8 (f3_item dp) m (nI d) x2 x3 SG ST SC SI) (fun m SM => f12_both0_5 (f12_item dp) m (nI d) SM) (op1 27 4) := by
  refine ⟨CtxF_F, hsub, op1_ok (by omega) (by omega) (by omega) (by decide) (fun _ => by omega), fun m q SG ST SC k hk hk61 ho => ?_, fun m q SG ST SC => ?_, fun m q SG ST SC k hq hk hk61 ho => ?_, fun m SM i hR h7 hi h8 ho => ?_, fun m SM F hF => ?_, fun m SM i hR h7 hi h8 ho => ?_⟩
  · have hne : ¬ k = 27 := fun e => by rw [e] at ho; exact absurd ho (by decide)
    show f3_term_8 (f3_item dp) (m + 1) (nI d) 1 q SG ST SC SI = _
    rw [f3_term_8, if_neg (show ¬ (1 : Int32) = 0 by decide), hk, if_neg (show ¬ nI k = 27 from fun e => hne ((nI_eq (b := 27) (by omega) (by omega)).mp e))]
    unfold f3_term_60
    exact ite_id _
  · show f3_term_8 (f3_item dp) (m + 1) (nI d) 0 q SG ST SC SI = _
    rw [f3_term_8, if_pos (show (0 : Int32) = 0 from rfl)]
    unfold f3_term_60
    exact ite_id _
  · have he : k = 27 := by
      unfold op1 at ho
      by_cases hh : k = 27
      · exact hh
      · rw [if_neg hh] at ho; exact absurd rfl ho
    show f3_term_8 (f3_item dp) (m + 1) (nI d) 1 (nI q) SG ST SC SI = _
    rw [f3_term_8, if_neg (show ¬ (1000 : Int32) ≤ nI q from nI_ge (b := 1000) hq (by omega)), if_neg (show ¬ (1 : Int32) = 0 by decide), hk, he, if_pos (show nI 27 = 27 from rfl), nI_1]
    rfl
  · have hne : ¬ kdT C t i = 27 := fun e => by rw [e] at ho; exact absurd ho (by decide)
    show f12_both0_5 (f12_item dp) (m + 1) (nI d) SM = _
    have hw : f12_hasWord 27 SM = _ := r_hasWord hR h7 hi h8 (k := 27) (by omega)
    rw [f12_both0_5, hw, bd_s, if_neg hne, if_pos (show (0 : Int32) = 0 from rfl)]
  · show f12_both0_5 (f12_item dp) (m + 1) (nI d) SM = _
    rw [f12_both0_5, x_hasWord hF, bd_s, if_pos (show (0 : Int32) = 0 from rfl)]
  · have he : kdT C t i = 27 := by
      unfold op1 at ho
      by_cases hh : kdT C t i = 27
      · exact hh
      · rw [if_neg hh] at ho; exact absurd rfl ho
    show f12_both0_5 (f12_item dp) (m + 1) (nI d) SM = _
    have hw : f12_hasWord 27 SM = _ := r_hasWord hR h7 hi h8 (k := 27) (by omega)
    rw [f12_both0_5, hw, bd_s, if_pos he, if_neg (show ¬ (1 : Int32) = 0 by decide), he]
    rfl
theorem ch_form {C : Nat → Nat} {t N n g h dp d : Nat} {SI : Ob} (hsub : ∀ SG ST SC SM i s r, Syn C t N SG ST SM i → SC.1 3 = nI s → s ≤ i → SM.1 13 = nI r → r ≤ i → CtxF SI n g SM → OutP C t N n g h SG ST SC SM i s r (f3_term (f3_item dp) (nI d) SG ST SC SI) (f12_both0 (f12_item dp) (nI d) SM)) : ChH C t N n g h (CtxF SI n g) (fun SG ST SC => f3_term (f3_item dp) (nI d) SG ST SC SI) (fun SM => f12_both0 (f12_item dp) (nI d) SM) (fun m x2 x3 SG ST SC => f3_formula_8 (f3_item dp) m (nI d) x2 x3 SG ST SC SI) (fun m SM => f12_either_5 (f12_item dp) m (nI d) SM) (op1 28 5) := by
  refine ⟨CtxF_F, hsub, op1_ok (by omega) (by omega) (by omega) (by decide) (fun _ => by omega), fun m q SG ST SC k hk hk61 ho => ?_, fun m q SG ST SC => ?_, fun m q SG ST SC k hq hk hk61 ho => ?_, fun m SM i hR h7 hi h8 ho => ?_, fun m SM F hF => ?_, fun m SM i hR h7 hi h8 ho => ?_⟩
  · have hne : ¬ k = 28 := fun e => by rw [e] at ho; exact absurd ho (by decide)
    show f3_formula_8 (f3_item dp) (m + 1) (nI d) 1 q SG ST SC SI = _
    rw [f3_formula_8, if_neg (show ¬ (1 : Int32) = 0 by decide), hk, if_neg (show ¬ nI k = 28 from fun e => hne ((nI_eq (b := 28) (by omega) (by omega)).mp e))]
    unfold f3_formula_60
    exact ite_id _
  · show f3_formula_8 (f3_item dp) (m + 1) (nI d) 0 q SG ST SC SI = _
    rw [f3_formula_8, if_pos (show (0 : Int32) = 0 from rfl)]
    unfold f3_formula_60
    exact ite_id _
  · have he : k = 28 := by
      unfold op1 at ho
      by_cases hh : k = 28
      · exact hh
      · rw [if_neg hh] at ho; exact absurd rfl ho
    show f3_formula_8 (f3_item dp) (m + 1) (nI d) 1 (nI q) SG ST SC SI = _
    rw [f3_formula_8, if_neg (show ¬ (1000 : Int32) ≤ nI q from nI_ge (b := 1000) hq (by omega)), if_neg (show ¬ (1 : Int32) = 0 by decide), hk, he, if_pos (show nI 28 = 28 from rfl), nI_1]
    rfl
  · have hne : ¬ kdT C t i = 28 := fun e => by rw [e] at ho; exact absurd ho (by decide)
    show f12_either_5 (f12_item dp) (m + 1) (nI d) SM = _
    have hw : f12_hasWord 28 SM = _ := r_hasWord hR h7 hi h8 (k := 28) (by omega)
    rw [f12_either_5, hw, bd_s, if_neg hne, if_pos (show (0 : Int32) = 0 from rfl)]
  · show f12_either_5 (f12_item dp) (m + 1) (nI d) SM = _
    rw [f12_either_5, x_hasWord hF, bd_s, if_pos (show (0 : Int32) = 0 from rfl)]
  · have he : kdT C t i = 28 := by
      unfold op1 at ho
      by_cases hh : kdT C t i = 28
      · exact hh
      · rw [if_neg hh] at ho; exact absurd rfl ho
    show f12_either_5 (f12_item dp) (m + 1) (nI d) SM = _
    have hw : f12_hasWord 28 SM = _ := r_hasWord hR h7 hi h8 (k := 28) (by omega)
    rw [f12_either_5, hw, bd_s, if_pos he, if_neg (show ¬ (1 : Int32) = 0 by decide), he]
    rfl
theorem sim_form {C : Nat → Nat} {t N n g h dp d : Nat} {SI : Ob} (hsub : ∀ SG ST SC SM i s r, Syn C t N SG ST SM i → SC.1 3 = nI s → s ≤ i → SM.1 13 = nI r → r ≤ i → CtxF SI n g SM → OutP C t N n g h SG ST SC SM i s r (f3_item dp (nI d) SG ST SC SI) (f12_item dp (nI d) SM)) (SG ST SC SM : Ob) (i s r : Nat) (hsy : Syn C t N SG ST SM i) (hs : SC.1 3 = nI s) (hsi : s ≤ i) (hr : SM.1 13 = nI r) (hri : r ≤ i) (hcx : CtxF SI n g SM) : OutP C t N n g (h + 2) SG ST SC SM i s r (f3_formula (f3_item dp) (nI d) SG ST SC SI) (f12_either (f12_item dp) (nI d) SM) := chain (ch_form (fun SG ST SC SM i s r a b c d e f => chain (ch_term hsub) SG ST SC SM i s r a b c d e f)) SG ST SC SM i s r hsy hs hsi hr hri hcx
