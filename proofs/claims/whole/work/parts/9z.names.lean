/-! pure: names -/
def NmT (SI : Ob) (l : Nat → Int64) (r : Nat → Int32) (n g K : Nat) : Prop :=
  ∃ (ws : Nat → List Nat) (id : Nat → Nat), (∀ k, k < K → okW (ws k) ∧ l k = lN (codM (ws k)) ∧ r k = nI (id k) ∧ (id k < n ∨ 20 ≤ id k ∧ id k ≤ 20 + g) ∧ (id k < n → SI.2.2.2 1 (id k) = lN (codC (ws k))) ∧ (20 ≤ id k → id k < 20 + g → SI.2.2.2 9 (id k - 20) = lN (codC (ws k)))) ∧
  (∀ k m, k < K → m < K → ws k = ws m → k = m) ∧ (∀ j, j < n → ∃ k, k < K ∧ id k = j) ∧ (∀ s, s < g → ∃ k, k < K ∧ id k = 20 + s)
theorem first_at {n : Nat} (f : Nat → Nat → Option Int32) (P : Nat → Prop) (hend : ∀ m, f (m + 1) n = some (-1)) (hstep : ∀ m k, k < n → (P k → f (m + 1) k = some (nI k)) ∧ (¬ P k → f (m + 1) k = f m (k + 1))) [DecidablePred P] : (∀ j, j < n → P j → (∀ k, k < n → P k → k = j) → ∀ m k, k ≤ j → n - k < m → f m k = some (nI j)) ∧ ((∀ k, k < n → ¬ P k) → ∀ m k, k ≤ n → n - k < m → f m k = some (-1)) := by
  constructor
  · intro j hj hP hu m
    induction m with
    | zero => intro k h1 h2; omega
    | succ m ih =>
      intro k h1 h2
      by_cases hk : P k
      · rw [(hstep m k (by omega)).1 hk, hu k (by omega) hk]
      · have hne : k ≠ j := fun e => hk (by rw [e]; exact hP)
        rw [(hstep m k (by omega)).2 hk]
        exact ih (k + 1) (by omega) (by omega)
  · intro hno m
    induction m with
    | zero => intro k h1 h2; omega
    | succ m ih =>
      intro k h1 h2
      by_cases hk : k = n
      · rw [hk, hend]
      · rw [(hstep m k (by omega)).2 (hno k (by omega))]
        exact ih (k + 1) (by omega) (by omega)
section
variable {SI : Ob} {n g : Nat}
theorem gn_steps (hn : SI.1 0 = nI n) (h8 : n ≤ 8) (x : Int64) : (∀ j, j < n → SI.2.2.2 1 j = x → (∀ k, k < n → SI.2.2.2 1 k = x → k = j) → f4_guestNamed x SI = some (nI j)) ∧ ((∀ k, k < n → ¬ SI.2.2.2 1 k = x) → f4_guestNamed x SI = some (-1)) := by
  obtain ⟨a, b⟩ := first_at (n := n) (fun m k => f4_guestNamed_2 m x (nI k) SI) (fun k => SI.2.2.2 1 k = x)
    (by
      intro m
      show f4_guestNamed_2 (m + 1) x (nI n) SI = _
      rw [f4_guestNamed_2, hn, if_pos (nI_le (Nat.le_refl _) (by omega))])
    (by
      intro m k hk
      show (_ → f4_guestNamed_2 (m + 1) x (nI k) SI = _) ∧ (_ → f4_guestNamed_2 (m + 1) x (nI k) SI = f4_guestNamed_2 m x (nI (k + 1)) SI)
      rw [f4_guestNamed_2, hn, if_neg (nI_ge hk (by omega)), inb_nI (by omega) (by omega), ck_t, lt_e, nI_1, nI_clamp (by omega)]
      simp only [lgc_eq]
      exact ⟨fun h => if_pos h, fun h => if_neg h⟩)
  exact ⟨fun j hj hP hu => a j hj hP hu FU 0 (Nat.zero_le _) (FU_lt (by omega)), fun h => b h FU 0 (Nat.zero_le _) (FU_lt (by omega))⟩
theorem sn_steps (hn : SI.1 8 = nI g) (h8 : g ≤ 6) (x : Int64) : (∀ j, j < g → SI.2.2.2 9 j = x → (∀ k, k < g → SI.2.2.2 9 k = x → k = j) → f4_signNamed x SI = some (nI j)) ∧ ((∀ k, k < g → ¬ SI.2.2.2 9 k = x) → f4_signNamed x SI = some (-1)) := by
  obtain ⟨a, b⟩ := first_at (n := g) (fun m k => f4_signNamed_2 m x (nI k) SI) (fun k => SI.2.2.2 9 k = x)
    (by
      intro m
      show f4_signNamed_2 (m + 1) x (nI g) SI = _
      rw [f4_signNamed_2, hn, if_pos (nI_le (Nat.le_refl _) (by omega))])
    (by
      intro m k hk
      show (_ → f4_signNamed_2 (m + 1) x (nI k) SI = _) ∧ (_ → f4_signNamed_2 (m + 1) x (nI k) SI = f4_signNamed_2 m x (nI (k + 1)) SI)
      rw [f4_signNamed_2, hn, if_neg (nI_ge hk (by omega)), inb_nI (by omega) (by omega), ck_t, lt_e, nI_1, nI_clamp (by omega)]
      simp only [lgc_eq]
      exact ⟨fun h => if_pos h, fun h => if_neg h⟩)
  exact ⟨fun j hj hP hu => a j hj hP hu FU 0 (Nat.zero_le _) (FU_lt (by omega)), fun h => b h FU 0 (Nat.zero_le _) (FU_lt (by omega))⟩
end
/-- the reference's table in use -/
def TbR (SM : Ob) (l : Nat → Int64) (r : Nat → Int32) (K : Nat) : Prop := (SM.1 20 = 0 ∧ SM.1 18 = nI K ∧ SM.2.2.2 14 = l ∧ SM.2.2.1 16 = r) ∨ (SM.1 20 = 1 ∧ SM.1 19 = nI K ∧ SM.2.2.2 15 = l ∧ SM.2.2.1 17 = r)
theorem find_steps {SM : Ob} {l : Nat → Int64} {r : Nat → Int32} {K i : Nat} (ht : TbR SM l r K) (hK : K ≤ 14) (h7 : SM.1 7 = nI i) (hi : i < 1002) : (∀ j, j < K → l j = SM.2.2.2 6 i → (∀ k, k < K → l k = SM.2.2.2 6 i → k = j) → f12_find SM = some (r j)) ∧ ((∀ k, k < K → ¬ l k = SM.2.2.2 6 i) → f12_find SM = some (-1)) := by
  have step : ∀ m k, k ≤ K → f12_find_2 (m + 1) (nI k) SM = if k = K then some (-1) else if l k = SM.2.2.2 6 i then some (r k) else f12_find_2 m (nI (k + 1)) SM := by
    intro m k hk
    have h46 : ∀ z : Int64, k < K → f12_find_46 (f12_find_2 m) (nI k) z SM = if z = SM.2.2.2 6 i then some (r k) else f12_find_2 m (nI (k + 1)) SM := by
      intro z hkK
      unfold f12_find_46 f12_find_81
      rw [h7, inb_nI hi (by omega), ck_t, nI_clamp (by omega), inb_nI (show k < 14 by omega) (by omega), ck_t, ck_t, lt_e, nI_1, nI_clamp (by omega)]
      simp only [lgc_eq]
      rcases ht with ⟨t1, t2, t3, t4⟩ | ⟨t1, t2, t3, t4⟩
      · rw [if_pos t1, t4]
      · rw [if_neg (show ¬ SM.1 20 = 0 by rw [t1]; decide), t4]
    have h21 : ∀ z1, z1 = nI K → f12_find_21 (f12_find_2 m) (nI k) (nI k) z1 SM = if k = K then some (-1) else if l k = SM.2.2.2 6 i then some (r k) else f12_find_2 m (nI (k + 1)) SM := by
      intro z1 hz
      unfold f12_find_21
      rw [hz]
      by_cases hkK : k = K
      · rw [if_pos (nI_le (by omega) (by omega)), if_pos hkK]
      · rw [if_neg (nI_ge (by omega) (by omega)), if_neg hkK, inb_nI (show k < 14 by omega) (by omega), ck_t, ck_t, nI_clamp (by omega), h46 _ (by omega), h46 _ (by omega)]
        rcases ht with ⟨t1, t2, t3, t4⟩ | ⟨t1, t2, t3, t4⟩
        · rw [if_pos t1, t3]
        · rw [if_neg (by rw [t1]; decide), t3]
    rw [f12_find_2]
    rcases ht with ⟨t1, t2, t3, t4⟩ | ⟨t1, t2, t3, t4⟩
    · rw [if_pos t1]; exact h21 _ t2
    · rw [if_neg (by rw [t1]; decide)]; exact h21 _ t2
  constructor
  · intro j hj hP hu
    have key : ∀ m k, k ≤ j → K - k < m → f12_find_2 m (nI k) SM = some (r j) := by
      intro m
      induction m with
      | zero => intro k h1 h2; omega
      | succ m ih =>
        intro k h1 h2
        rw [step m k (by omega), if_neg (by omega)]
        by_cases hk : l k = SM.2.2.2 6 i
        · rw [if_pos hk, hu k (by omega) hk]
        · have hne : k ≠ j := fun e => hk (by rw [e]; exact hP)
          rw [if_neg hk]
          exact ih (k + 1) (by omega) (by omega)
    exact key FU 0 (Nat.zero_le _) (FU_lt (by omega))
  · intro hno
    have key : ∀ m k, k ≤ K → K - k < m → f12_find_2 m (nI k) SM = some (-1) := by
      intro m
      induction m with
      | zero => intro k h1 h2; omega
      | succ m ih =>
        intro k h1 h2
        rw [step m k h1]
        by_cases hk : k = K
        · rw [if_pos hk]
        · rw [if_neg hk, if_neg (hno k (by omega))]
          exact ih (k + 1) (by omega) (by omega)
    exact key FU 0 (Nat.zero_le _) (FU_lt (by omega))
/-- whose name, by the tables -/
theorem nms_of {SI SM : Ob} {l : Nat → Int64} {r : Nat → Int32} {n g K : Nat} (hn : SI.1 0 = nI n) (h8 : n ≤ 8) (hg : SI.1 8 = nI g) (h6 : g ≤ 6) (hK : K ≤ 14) (ht : TbR SM l r K) (h : NmT SI l r n g K) : NmS SI SM n g := by
  obtain ⟨ws, id, h1, h2, h3, h4⟩ := h
  intro w w1 w2 w3
  have cC : ∀ k, k < K → lN (codC (ws k)) = lN (codC w) → ws k = w := by
    intro k hk e
    obtain ⟨⟨o1, o2, o3⟩, -⟩ := h1 k hk
    rw [lN_inj (codC_lt o3 o2) (codC_lt w1 w3)] at e
    exact codC_inj o3 w1 e
  have cM : ∀ k, k < K → lN (codM (ws k)) = lN (codM w) → ws k = w := by
    intro k hk e
    obtain ⟨⟨o1, o2, o3⟩, -⟩ := h1 k hk
    rw [lN_inj (codM_lt o3 o2) (codM_lt w1 w3)] at e
    exact codM_inj o3 w1 e
  have tb : ∀ (i : Nat) (SM' : Ob), SM'.1 7 = nI i → i < 1002 → SM'.2.2.2 6 i = lN (codM w) → (SM'.1 18 = SM.1 18 ∧ SM'.1 19 = SM.1 19 ∧ SM'.1 20 = SM.1 20 ∧ SM'.2.2.1 16 = SM.2.2.1 16 ∧ SM'.2.2.1 17 = SM.2.2.1 17 ∧ SM'.2.2.2 14 = SM.2.2.2 14 ∧ SM'.2.2.2 15 = SM.2.2.2 15) → TbR SM' l r K := by
    intro i SM' _ _ _ ⟨f1, f2, f3, f4, f5, f6, f7⟩
    rcases ht with ⟨t1, t2, t3, t4⟩ | ⟨t1, t2, t3, t4⟩
    · exact Or.inl ⟨f3.trans t1, f1.trans t2, f6.trans t3, f4.trans t4⟩
    · exact Or.inr ⟨f3.trans t1, f2.trans t2, f7.trans t3, f5.trans t4⟩
  have gno : (∀ k, k < K → ws k = w → ¬ id k < n) → f4_guestNamed (lN (codC w)) SI = some (-1) := fun hh => (gn_steps hn h8 _).2 (fun j hj e => by
    obtain ⟨k, hk, ek⟩ := h3 j hj
    obtain ⟨-, -, -, -, e5, -⟩ := h1 k hk
    have := e5 (by omega)
    rw [ek, e] at this
    exact hh k hk (cC k hk this.symm) (by omega))
  have sno : (∀ k, k < K → ws k = w → ¬ (20 ≤ id k ∧ id k < 20 + g)) → f4_signNamed (lN (codC w)) SI = some (-1) := fun hh => (sn_steps hg h6 _).2 (fun j hj e => by
    obtain ⟨k, hk, ek⟩ := h4 j hj
    obtain ⟨-, -, -, -, -, e6⟩ := h1 k hk
    have := e6 (by omega) (by omega)
    rw [ek, show 20 + j - 20 = j by omega, e] at this
    exact hh k hk (cC k hk this.symm) (by omega))
  by_cases hex : ∃ k, k < K ∧ ws k = w
  · obtain ⟨k, hk, hw⟩ := hex
    obtain ⟨⟨o1, o2, o3⟩, e2, e3, e4, e5, e6⟩ := h1 k hk
    have uq : ∀ m, m < K → ws m = w → m = k := fun m hm e => h2 m k hm hk (e.trans hw.symm)
    have fd : ∀ (i : Nat) (SM' : Ob), SM'.1 7 = nI i → i < 1002 → SM'.2.2.2 6 i = lN (codM w) → (SM'.1 18 = SM.1 18 ∧ SM'.1 19 = SM.1 19 ∧ SM'.1 20 = SM.1 20 ∧ SM'.2.2.1 16 = SM.2.2.1 16 ∧ SM'.2.2.1 17 = SM.2.2.1 17 ∧ SM'.2.2.2 14 = SM.2.2.2 14 ∧ SM'.2.2.2 15 = SM.2.2.2 15) → f12_find SM' = some (r k) := fun i SM' a b c d => (find_steps (tb i SM' a b c d) hK a b).1 k hk (by rw [c, e2, hw]) (fun m hm e => uq m hm (cM m hm (by rw [← (h1 m hm).2.1, e, c])))
    rcases (show id k < n ∨ (20 ≤ id k ∧ id k < 20 + g) ∨ id k = 20 + g by omega) with c1 | c1 | c1
    · refine ⟨nI (id k), nI (id k), -1, ?_, sno (fun m hm e => by rw [uq m hm e]; omega), Or.inl ⟨id k, c1, rfl, rfl, rfl⟩, fun i SM' a b c d => by rw [fd i SM' a b c d, e3]⟩
      refine (gn_steps hn h8 _).1 (id k) c1 (by rw [e5 c1, hw]) (fun j hj e => ?_)
      obtain ⟨m, hm, em⟩ := h3 j hj
      have := (h1 m hm).2.2.2.2.1 (by omega)
      rw [em, e] at this
      rw [← em, uq m hm (cC m hm this.symm)]
    · refine ⟨nI (id k), -1, nI (id k - 20), gno (fun m hm e => by rw [uq m hm e]; omega), ?_, Or.inr (Or.inl ⟨id k - 20, by omega, by rw [show 20 + (id k - 20) = id k by omega], rfl, rfl⟩), fun i SM' a b c d => by rw [fd i SM' a b c d, e3]⟩
      refine (sn_steps hg h6 _).1 (id k - 20) (by omega) (by rw [e6 c1.1 c1.2, hw]) (fun j hj e => ?_)
      obtain ⟨m, hm, em⟩ := h4 j hj
      have := (h1 m hm).2.2.2.2.2 (by omega) (by omega)
      rw [em, show 20 + j - 20 = j by omega, e] at this
      have hmk := uq m hm (cC m hm this.symm)
      rw [hmk] at em
      omega
    · refine ⟨nI (id k), -1, -1, gno (fun m hm e => by rw [uq m hm e]; omega), sno (fun m hm e => by rw [uq m hm e]; omega), Or.inr (Or.inr ⟨Or.inr (by rw [c1]), rfl, rfl⟩), fun i SM' a b c d => by rw [fd i SM' a b c d, e3]⟩
  · refine ⟨-1, -1, -1, gno (fun m hm e => absurd ⟨m, hm, e⟩ hex), sno (fun m hm e => absurd ⟨m, hm, e⟩ hex), Or.inr (Or.inr ⟨Or.inl rfl, rfl, rfl⟩), fun i SM' a b c d => (find_steps (tb i SM' a b c d) hK a b).2 (fun m hm e => hex ⟨m, hm, cM m hm (by rw [← (h1 m hm).2.1, e, c])⟩)⟩
theorem nmt_of {SI : Ob} {many : Int32} {l : Nat → Int64} {r : Nat → Int32} {n g : Nat} (h : NmR SI many l r n g) : NmT SI l r n g (n + g) := by
  obtain ⟨-, ws, id, h1, h2, h3, h4⟩ := h
  refine ⟨ws, id, fun k hk => ?_, h2, h3, h4⟩
  obtain ⟨a1, a2, a3, a4, a5, a6⟩ := h1 k hk
  exact ⟨a1, a2, a3, by omega, a5, fun x _ => a6 x⟩
