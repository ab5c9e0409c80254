/-! pure: the book -/
theorem s12_copies {SM : Ob} {a b m : Nat} (ha : a + m ≤ 660) (hb : b + m ≤ 660) (hd : a + m ≤ b ∨ b + m ≤ a) : f12_copies (nI a) (nI b) (nI m) SM = some (sR SM 25 (fb_put (SM.2.2.1 25) (fun k => SM.2.2.1 25 (a + k)) b m)) := by
  obtain ⟨r, e, hr⟩ := loop_inv (fun q j S => f12_copies_3 q (nI a) (nI b) (nI m) (nI j) S) (fun j S => S = sR SM 25 (fb_put (SM.2.2.1 25) (fun k => SM.2.2.1 25 (a + k)) b j)) (fun r => r = sR SM 25 (fb_put (SM.2.2.1 25) (fun k => SM.2.2.1 25 (a + k)) b m)) m
    (by
      intro q S hS
      refine ⟨S, ?_, hS⟩
      show f12_copies_3 (q + 1) _ _ _ _ _ = _
      rw [f12_copies_3, if_pos (nI_le (Nat.le_refl m) (by omega))])
    (by
      intro q j S hj hS
      refine ⟨_, rfl, ?_⟩
      show f12_copies_3 (q + 1) _ _ _ _ _ = f12_copies_3 q _ _ _ _ _
      rw [f12_copies_3, if_neg (nI_ge hj (by omega)), nI_add, nI_add, inb_nI (by omega) (by omega), inb_nI (by omega) (by omega), ck_t, ck_t, lt_e, lt_e, nI_clamp (by omega), nI_clamp (by omega), nI_succ, hS, sR_oA, sR_at, fb_put_out (by omega), fb_put_succ])
    FU 0 SM (Nat.zero_le _) (FU_lt (by omega)) (by rw [fb_put_0, sR_self])
  rw [← hr]
  exact e
/-- how many can be undone then; by how many places they are moved -/
def unU (u : Nat) : Nat := if u = 16 then 16 else u + 1
def unS (u : Nat) : Nat := if u = 16 then 1 else 0
theorem nI_530 (u : Nat) : 30 * (5 + nI u) = nI (30 * (5 + u)) := by
  rw [show (5 : Int32) = nI 5 from rfl, show (30 : Int32) = nI 30 from rfl, nI_add, pk_mul]
theorem s12_keeps {SM : Ob} {u : Nat} (hu : SM.1 26 = nI u) (h16 : u ≤ 16) : ∃ p, f12_keeps SM = some (oI (sR SM 25 p) 26 (nI (unU u))) ∧ (∀ i, i < 150 → p i = SM.2.2.1 25 i) ∧ (∀ e, e + 1 < unU u → ∀ c, c < 12 → p (30 * (5 + e) + c) = SM.2.2.1 25 (30 * (5 + (e + unS u)) + c)) ∧ (∀ c, c < 12 → p (30 * (5 + (unU u - 1)) + c) = SM.2.2.1 25 c) := by
  by_cases hh : u = 16
  · subst hh
    have hl := loop_inv (fun q j S => f12_keeps_11 q (nI (j + 1)) S) (fun j S => ∃ p, S = sR SM 25 p ∧ (∀ e, e < j → ∀ c, c < 12 → p (30 * (5 + e) + c) = SM.2.2.1 25 (30 * (5 + (e + 1)) + c)) ∧ (∀ i, i < 150 ∨ 30 * (5 + j) ≤ i → p i = SM.2.2.1 25 i)) (fun r => ∃ p, r = oI (sR SM 25 p) 26 (nI 16) ∧ (∀ i, i < 150 → p i = SM.2.2.1 25 i) ∧ (∀ e, e < 15 → ∀ c, c < 12 → p (30 * (5 + e) + c) = SM.2.2.1 25 (30 * (5 + (e + 1)) + c)) ∧ (∀ c, c < 12 → p (30 * (5 + 15) + c) = SM.2.2.1 25 c)) 15
      (by
        intro q S hS
        obtain ⟨p, rfl, h1, h2⟩ := hS
        show ∃ r, f12_keeps_11 (q + 1) (nI 16) _ = some r ∧ _
        rw [f12_keeps_11, if_pos (show (16 : Int32) ≤ nI 16 from by decide), lt_e]
        unfold f12_keeps_53
        have e15 : (oI (sR SM 25 p) 26 ((sR SM 25 p).1 26 - 1)).1 26 = nI 15 := by
          show SM.1 26 - 1 = nI 15
          rw [hu]; decide
        rw [e15, nI_530]
        have hc := s12_copies (SM := oI (sR SM 25 p) 26 ((sR SM 25 p).1 26 - 1)) (a := 0) (b := 30 * (5 + 15)) (m := 12) (by omega) (by omega) (by omega)
        have hc' : f12_copies 0 (nI (30 * (5 + 15))) 12 (oI (sR SM 25 p) 26 ((sR SM 25 p).1 26 - 1)) = _ := hc
        rw [hc', bd_s, lt_e]
        refine ⟨_, rfl, fb_put p (fun k => p (0 + k)) (30 * (5 + 15)) 12, ?_, ?_, ?_, ?_⟩
        · have ex : (oI (sR SM 25 p) 26 ((sR SM 25 p).1 26 - 1)).2.2.1 25 = p := rfl
          rw [ex]
          have e1 : (sR (oI (sR SM 25 p) 26 ((sR SM 25 p).1 26 - 1)) 25 (fb_put p (fun k => p (0 + k)) (30 * (5 + 15)) 12)).1 26 + 1 = nI 16 := by
            show (SM.1 26 - 1) + 1 = nI 16
            rw [hu]; decide
          rw [e1]
          unfold oI sR
          simp only [bx_uu]
        · intro i hi
          rw [fb_put_out (by omega)]
          exact h2 i (Or.inl hi)
        · intro e he c hc
          rw [fb_put_out (by omega)]
          exact h1 e he c hc
        · intro c hc
          rw [fb_put_in (by omega) (by omega)]
          show p (0 + (30 * (5 + 15) + c - 30 * (5 + 15))) = _
          rw [h2 _ (by omega)]
          exact congrArg (SM.2.2.1 25) (by omega))
      (by
        intro q j S hj hS
        obtain ⟨p, rfl, h1, h2⟩ := hS
        refine ⟨sR SM 25 (fb_put p (fun k => p (30 * (5 + (j + 1)) + k)) (30 * (5 + j)) 12), ⟨_, rfl, ?_, ?_⟩, ?_⟩
        · intro e he c hc
          by_cases h : e = j
          · subst h
            rw [fb_put_in (by omega) (by omega)]
            show p (30 * (5 + (e + 1)) + (30 * (5 + e) + c - 30 * (5 + e))) = _
            rw [h2 _ (by omega)]
            exact congrArg (SM.2.2.1 25) (by omega)
          · rw [fb_put_out (by omega)]
            exact h1 e (by omega) c hc
        · intro i hi
          rw [fb_put_out (by omega)]
          exact h2 i (by omega)
        · show f12_keeps_11 (q + 1) (nI (j + 1)) _ = f12_keeps_11 q (nI (j + 1 + 1)) _
          rw [f12_keeps_11, if_neg (show ¬ (16 : Int32) ≤ nI (j + 1) from nI_ge (b := 16) (by omega) (by omega))]
          have e1 : 30 * (5 + nI (j + 1)) = nI (30 * (5 + (j + 1))) := nI_530 _
          have e2 : 30 * ((5 + nI (j + 1)) - 1) = nI (30 * (5 + j)) := by
            rw [show (5 : Int32) + nI (j + 1) = nI ((5 + j) + 1) from (by rw [show (5 : Int32) = nI 5 from rfl, nI_add, Nat.add_assoc]), nI_pred, show (30 : Int32) = nI 30 from rfl, pk_mul]
          rw [e1, e2]
          have hc := s12_copies (SM := sR SM 25 p) (a := 30 * (5 + (j + 1))) (b := 30 * (5 + j)) (m := 12) (by omega) (by omega) (by omega)
          have hc' : f12_copies (nI (30 * (5 + (j + 1)))) (nI (30 * (5 + j))) 12 (sR SM 25 p) = _ := hc
          rw [hc', bd_s, lt_e, sR_at, sR_sR, nI_succ (j + 1)])
      FU 0 SM (Nat.zero_le _) (FU_lt (by omega)) ⟨SM.2.2.1 25, (sR_self _ _).symm, fun e he => absurd he (Nat.not_lt_zero e), fun _ _ => rfl⟩
    obtain ⟨r, e, p, rfl, h1, h2, h3⟩ := hl
    refine ⟨p, ?_, h1, ?_, h3⟩
    · unfold f12_keeps
      rw [hu, if_pos (by decide)]
      exact e
    · intro e he
      exact h2 e (by have : unU 16 = 16 := rfl; omega)
  · have hlt : u < 16 := by omega
    have e1 : unU u = u + 1 := if_neg hh
    have e2 : unS u = 0 := if_neg hh
    rw [e1, e2]
    unfold f12_keeps f12_keeps_53
    rw [hu, if_neg (fun h => hh (by
      rw [show (16 : Int32) = nI 16 from rfl, nI_eq (by omega) (by omega)] at h; exact h)), nI_530]
    have hc := s12_copies (SM := SM) (a := 0) (b := 30 * (5 + u)) (m := 12) (by omega) (by omega) (by omega)
    have hc' : f12_copies 0 (nI (30 * (5 + u))) 12 SM = _ := hc
    rw [hc', bd_s, lt_e]
    refine ⟨fb_put (SM.2.2.1 25) (fun k => SM.2.2.1 25 (0 + k)) (30 * (5 + u)) 12, ?_, ?_, ?_, ?_⟩
    · show some (oI _ 26 (SM.1 26 + 1)) = _
      rw [hu, nI_1]
    · intro i hi
      rw [fb_put_out (by omega)]
    · intro e he c hc
      rw [fb_put_out (by omega)]
      rfl
    · intro c hc
      rw [fb_put_in (by omega) (by omega)]
      exact congrArg (SM.2.2.1 25) (by omega)
theorem s0_remember {SB : Ob} {u : Nat} (hu : SB.1 6 = nI u) (h16 : u ≤ 16) : ∃ S1, f0_remember SB = some S1 ∧ S1.1 0 = SB.1 0 ∧ S1.1 1 = SB.1 1 ∧ S1.1 3 = SB.1 3 ∧ S1.1 6 = nI (unU u) ∧ S1.2.2.1 2 = SB.2.2.1 2 ∧ S1.2.2.1 4 = SB.2.2.1 4 ∧ S1.2.2.1 5 = SB.2.2.1 5 ∧ (∀ e, e + 1 < unU u → S1.2.2.1 7 e = SB.2.2.1 7 (e + unS u) ∧ S1.2.2.1 8 e = SB.2.2.1 8 (e + unS u)) ∧ S1.2.2.1 7 (unU u - 1) = SB.1 0 ∧ S1.2.2.1 8 (unU u - 1) = SB.1 1 := by
  have fin : ∀ (S : Ob) (v : Nat), v < 16 → S.1 6 = nI v → ∃ S1, f0_remember_57 S = some S1 ∧ S1.1 0 = S.1 0 ∧ S1.1 1 = S.1 1 ∧ S1.1 3 = S.1 3 ∧ S1.1 6 = nI (v + 1) ∧ S1.2.2.1 2 = S.2.2.1 2 ∧ S1.2.2.1 4 = S.2.2.1 4 ∧ S1.2.2.1 5 = S.2.2.1 5 ∧ S1.2.2.1 7 = upd (S.2.2.1 7) v (S.1 0) ∧ S1.2.2.1 8 = upd (S.2.2.1 8) v (S.1 1) := by
    intro S v hv hS
    unfold f0_remember_57
    rw [hS, inb_nI hv (by omega), ck_t, lt_e]
    have e : (oA S 7 (Int32.toNatClampNeg (nI v)) (S.1 0)).1 6 = nI v := hS
    rw [e, inb_nI hv (by omega), ck_t, lt_e, lt_e]
    refine ⟨_, rfl, rfl, rfl, rfl, ?_, rfl, rfl, rfl, ?_, ?_⟩
    · show S.1 6 + 1 = _
      rw [hS, nI_1]
    · show upd (S.2.2.1 7) (nI v).toNatClampNeg (S.1 0) = _
      rw [nI_clamp (by omega)]
    · show upd (S.2.2.1 8) (nI v).toNatClampNeg (S.1 1) = _
      rw [nI_clamp (by omega)]
  by_cases hh : u = 16
  · subst hh
    have hl := loop_inv (fun q j S => f0_remember_11 q (nI (j + 1)) S) (fun j S => S.1 = SB.1 ∧ S.2.2.1 2 = SB.2.2.1 2 ∧ S.2.2.1 4 = SB.2.2.1 4 ∧ S.2.2.1 5 = SB.2.2.1 5 ∧ (∀ e, e < j → S.2.2.1 7 e = SB.2.2.1 7 (e + 1) ∧ S.2.2.1 8 e = SB.2.2.1 8 (e + 1)) ∧ (∀ e, j ≤ e → S.2.2.1 7 e = SB.2.2.1 7 e ∧ S.2.2.1 8 e = SB.2.2.1 8 e)) (fun S1 => S1.1 0 = SB.1 0 ∧ S1.1 1 = SB.1 1 ∧ S1.1 3 = SB.1 3 ∧ S1.1 6 = nI 16 ∧ S1.2.2.1 2 = SB.2.2.1 2 ∧ S1.2.2.1 4 = SB.2.2.1 4 ∧ S1.2.2.1 5 = SB.2.2.1 5 ∧ (∀ e, e < 15 → S1.2.2.1 7 e = SB.2.2.1 7 (e + 1) ∧ S1.2.2.1 8 e = SB.2.2.1 8 (e + 1)) ∧ S1.2.2.1 7 15 = SB.1 0 ∧ S1.2.2.1 8 15 = SB.1 1) 15
      (by
        intro q S hS
        obtain ⟨h0, h2, h4, h5, h7, h8⟩ := hS
        show ∃ r, f0_remember_11 (q + 1) (nI 16) S = some r ∧ _
        rw [f0_remember_11, if_pos (show (16 : Int32) ≤ nI 16 from by decide), lt_e]
        obtain ⟨S1, e, a0, a1, a3, a6, a2, a4, a5, a7, a8⟩ := fin (oI S 6 15) 15 (by omega) rfl
        refine ⟨S1, e, ?_, ?_, ?_, a6, ?_, ?_, ?_, ?_, ?_, ?_⟩
        · rw [a0, ← h0]; rfl
        · rw [a1, ← h0]; rfl
        · rw [a3, ← h0]; rfl
        · rw [a2, ← h2]; rfl
        · rw [a4, ← h4]; rfl
        · rw [a5, ← h5]; rfl
        · intro e he
          rw [a7, a8, pk_un (by omega), pk_un (by omega)]
          exact h7 e he
        · rw [a7, pk_us, ← h0]; rfl
        · rw [a8, pk_us, ← h0]; rfl)
      (by
        intro q j S hj hS
        obtain ⟨h0, h2, h4, h5, h7, h8⟩ := hS
        refine ⟨oA (oA S 7 j (S.2.2.1 7 (j + 1))) 8 j (S.2.2.1 8 (j + 1)), ⟨h0, h2, h4, h5, ?_, ?_⟩, ?_⟩
        · intro e he
          show upd (S.2.2.1 7) j (S.2.2.1 7 (j + 1)) e = _ ∧ upd (S.2.2.1 8) j (S.2.2.1 8 (j + 1)) e = _
          by_cases h : e = j
          · subst h
            rw [pk_us, pk_us]
            exact h8 (e + 1) (by omega)
          · rw [pk_un h, pk_un h]
            exact h7 e (by omega)
        · intro e he
          show upd (S.2.2.1 7) j (S.2.2.1 7 (j + 1)) e = _ ∧ upd (S.2.2.1 8) j (S.2.2.1 8 (j + 1)) e = _
          rw [pk_un (by omega), pk_un (by omega)]
          exact h8 e (by omega)
        · show f0_remember_11 (q + 1) (nI (j + 1)) S = f0_remember_11 q (nI (j + 1 + 1)) _
          rw [f0_remember_11, if_neg (show ¬ (16 : Int32) ≤ nI (j + 1) from nI_ge (b := 16) (by omega) (by omega)), nI_pred, inb_nI (by omega) (by omega), inb_nI (by omega) (by omega), ck_t, ck_t, lt_e, ck_t, ck_t, lt_e, lt_e, nI_succ (j + 1), nI_clamp (by omega), nI_clamp (by omega)]
          rfl)
      FU 0 SB (Nat.zero_le _) (FU_lt (by omega)) ⟨rfl, rfl, rfl, rfl, fun e he => absurd he (Nat.not_lt_zero e), fun _ _ => ⟨rfl, rfl⟩⟩
    obtain ⟨S1, e, h1, h2, h3, h4, h5, h6, h7, h8, h9, h10⟩ := hl
    refine ⟨S1, ?_, h1, h2, h3, h4, h5, h6, h7, ?_, h9, h10⟩
    · unfold f0_remember
      rw [hu, if_neg (by decide)]
      exact e
    · intro e he
      exact h8 e (by have : unU 16 = 16 := rfl; omega)
  · have hlt : u < 16 := by omega
    have e1 : unU u = u + 1 := if_neg hh
    have e2 : unS u = 0 := if_neg hh
    rw [e1, e2]
    obtain ⟨S1, e, a0, a1, a3, a6, a2, a4, a5, a7, a8⟩ := fin SB u hlt hu
    refine ⟨S1, ?_, a0, a1, a3, a6, a2, a4, a5, ?_, ?_, ?_⟩
    · unfold f0_remember
      rw [hu, if_pos (show nI u < 16 from nI_lt (b := 16) hlt (by omega))]
      exact e
    · intro e he
      rw [a7, a8, pk_un (by omega), pk_un (by omega)]
      exact ⟨rfl, rfl⟩
    · rw [a7, Nat.add_sub_cancel, pk_us]
    · rw [a8, Nat.add_sub_cancel, pk_us]
theorem va_ne {α : Type} (f : Nat → α) {k i : Nat} (h : i ≠ k) (v : α) : va_up f k v i = f i := by unfold va_up; simp [h]
theorem BkR_like {SB : Ob} {r p : Nat → Int32} {b n g : Nat} (h : BkR SB r b n g) (hp : ∀ i, b ≤ i → i < b + 30 → p i = r i) : BkR SB p b n g := by
  obtain ⟨h1, h2, ⟨t, t1, t2, t3, t4⟩, ⟨q, q1, q2, q3, q4⟩⟩ := h
  refine ⟨by rw [hp b (by omega) (by omega)]; exact h1, h2, ⟨t, t1, t2, by rw [hp _ (by omega) (by omega)]; exact t3, fun k hk => ⟨?_, (t4 k hk).2⟩⟩, ⟨q, q1, q2, by rw [hp _ (by omega) (by omega)]; exact q3, fun k hk => ⟨(q4 k hk).1, ?_, (q4 k hk).2.2.1, ?_⟩⟩⟩
  · rw [hp _ (by omega) (by omega)]; exact (t4 k hk).1
  · rw [hp _ (by omega) (by omega)]; exact (q4 k hk).2.1
  · rw [hp _ (by omega) (by omega)]; exact (q4 k hk).2.2.2
theorem MkR_like {cs cs' : Nat → Ob} {r p r27 : Nat → Int32} {n g : Nat} (h : MkR cs r r27 n g) (hp : ∀ i, 30 ≤ i → i < 150 → p i = r i) (h0 : cs' 0 = cs 0) (hc : ∀ m, m < 4 → cs' (11 + m) = cs (11 + m)) : MkR cs' p r27 n g := by
  intro m hm
  obtain ⟨a, b, c⟩ := h m hm
  rw [h0, hc m hm]
  exact ⟨a, b, fun e => BkR_like (c e) (fun i h1 h2 => hp i (by omega) (by omega))⟩
/-- both remember -/
theorem keep_both {cs : Nat → Ob} {sm : Ob} {n g : Nat} (h : InvN cs sm n g) : ∃ S1 p v, f0_remember (cs 10) = some S1 ∧ f12_keeps sm = some (oI (sR sm 25 p) 26 v) ∧ S1.1 0 = (cs 10).1 0 ∧ S1.1 1 = (cs 10).1 1 ∧ p 0 = sm.2.2.1 25 0 ∧ InvN (va_up cs 10 S1) (oI (sR sm 25 p) 26 v) n g := by
  obtain ⟨hC, hM, hB, hU, hK, hT, hO, hL, hN⟩ := h
  obtain ⟨u, t, te, u16, t10, hu1, hu2, ht, hte, hmo, hen⟩ := hU
  obtain ⟨S1, e1, a0, a1, a3, a6, a2, a4, a5, a78, a7, a8⟩ := s0_remember hu1 u16
  obtain ⟨p, e2, p1, p2, p3⟩ := s12_keeps hu2 u16
  refine ⟨S1, p, nI (unU u), e1, e2, a0, a1, p1 0 (by omega), hC, hM, ?_, ?_, ?_, hT, hO, hL, hN⟩
  · show BkR S1 p 0 n g
    have hB' := BkR_like hB (p := p) (fun i _ hi => p1 i (by omega))
    obtain ⟨h1, h2, h3, h4⟩ := hB'
    refine ⟨by rw [a0]; exact h1, by rw [a0]; exact h2, ?_, ?_⟩
    · obtain ⟨t', b1, b2, b3, b4⟩ := h3
      exact ⟨t', b1, by rw [a1]; exact b2, b3, by rw [a2]; exact b4⟩
    · obtain ⟨q, b1, b2, b3, b4⟩ := h4
      exact ⟨q, b1, by rw [a3]; exact b2, b3, by rw [a4, a5]; exact b4⟩
  · show UnR S1 p (nI (unU u)) n
    have hU1 : 1 ≤ unU u ∧ unU u ≤ 16 ∧ unU u - 1 + unS u ≤ u := by
      unfold unU unS; split <;> omega
    obtain ⟨t2, b1, b2, b3, b4⟩ := hB.2.2.1
    have htt : t2 = t := (nI_eq (by omega) (by omega)).mp (b2.symm.trans ht)
    subst htt
    refine ⟨unU u, t2, fun e => if e + 1 < unU u then te (e + unS u) else t2, hU1.2.1, t10, a6, rfl, by rw [a1]; exact ht, ?_, ?_, ?_⟩
    · intro e he
      show (if e + 1 < unU u then te (e + unS u) else t2) ≤ t2
      split
      · exact hte _ (by omega)
      · exact Nat.le_refl _
    · intro e f hef hf
      show (if e + 1 < unU u then te (e + unS u) else t2) ≤ (if f + 1 < unU u then te (f + unS u) else t2)
      by_cases h2 : f + 1 < unU u
      · rw [if_pos h2, if_pos (by omega)]
        exact hmo _ _ (by omega) (by omega)
      · rw [if_neg h2]
        split
        · exact hte _ (by omega)
        · exact Nat.le_refl _
    · intro e he
      by_cases h2 : e + 1 < unU u
      · obtain ⟨c1, c2, c3, c4, c5⟩ := hen (e + unS u) (by omega)
        simp only [if_pos h2]
        rw [(a78 e h2).1, (a78 e h2).2, a2]
        have q0 := p2 e h2 0 (by omega)
        have q1 := p2 e h2 1 (by omega)
        rw [Nat.add_zero, Nat.add_zero] at q0
        refine ⟨by rw [q0]; exact c1, c2, c3, by rw [q1]; exact c4, fun k hk => ?_⟩
        have hk10 : k < 10 := Nat.lt_of_lt_of_le hk (Nat.le_trans (hte _ (by omega)) t10)
        have q2 := p2 e h2 (2 + k) (by omega)
        rw [← Nat.add_assoc, ← Nat.add_assoc] at q2
        rw [q2]
        exact c5 k hk
      · have he' : e = unU u - 1 := by omega
        simp only [if_neg h2]
        rw [he', a7, a8, a2]
        have q0 := p3 0 (by omega)
        have q1 := p3 1 (by omega)
        rw [Nat.add_zero] at q0
        refine ⟨by rw [q0]; exact hB.1, hB.2.1, b2, by rw [q1]; exact b3, fun k hk => ?_⟩
        have q2 := p3 (2 + k) (by omega)
        rw [← Nat.add_assoc] at q2
        rw [q2, ← (b4 k hk).1, Nat.zero_add]
  · exact MkR_like hK (fun i _ hi => p1 i hi) rfl (fun m _ => va_ne _ (by omega) _)
/-- what is left becomes less -/
theorem set_left {cs : Nat → Ob} {sm : Ob} {n g : Nat} {S1 : Ob} {x : Int32} (h : InvN (va_up cs 10 S1) sm n g) (hx : ∀ i, i < 32 → bt x i = true → i < 4 * n) : InvN (va_up cs 10 (oI S1 0 x)) (oA sm 25 0 x) n g := by
  obtain ⟨hC, hM, hB, hU, hK, hT, hO, hL, hN⟩ := h
  refine ⟨hC, hM, ?_, ?_, ?_, hT, hO, hL, hN⟩
  · obtain ⟨h1, h2, h3, h4⟩ := hB
    show BkR (oI S1 0 x) (upd (sm.2.2.1 25) 0 x) 0 n g
    refine ⟨pk_us, hx, ?_, ?_⟩
    · obtain ⟨t', b1, b2, b3, b4⟩ := h3
      refine ⟨t', b1, b2, by rw [pk_un (by omega)]; exact b3, fun k hk => ⟨by rw [pk_un (by omega)]; exact (b4 k hk).1, (b4 k hk).2⟩⟩
    · obtain ⟨q, b1, b2, b3, b4⟩ := h4
      refine ⟨q, b1, b2, by rw [pk_un (by omega)]; exact b3, fun k hk => ⟨(b4 k hk).1, by rw [pk_un (by omega)]; exact (b4 k hk).2.1, (b4 k hk).2.2.1, by rw [pk_un (by omega)]; exact (b4 k hk).2.2.2⟩⟩
  · obtain ⟨u, t, te, u16, t10, hu1, hu2, ht, hte, hmo, hen⟩ := hU
    refine ⟨u, t, te, u16, t10, hu1, hu2, ht, hte, hmo, fun e he => ?_⟩
    obtain ⟨c1, c2, c3, c4, c5⟩ := hen e he
    have key : ∀ i, i ≠ 0 → (oA sm 25 0 x).2.2.1 25 i = sm.2.2.1 25 i := fun i hi => pk_un hi
    rw [key _ (by omega), key _ (by omega)]
    refine ⟨c1, c2, c3, c4, fun k hk => ?_⟩
    rw [key _ (by omega)]
    exact c5 k hk
  · exact MkR_like hK (fun i h1 hi => by show upd (sm.2.2.1 25) 0 x i = _; rw [pk_un (by omega)]) rfl (fun m _ => by rw [va_ne _ (by omega), va_ne _ (by omega)])
theorem leave_both {cs : Nat → Ob} {sm : Ob} {n g : Nat} (h : InvN cs sm n g) (SX : Ob) (x : Int32) : ∃ r SB sm1, f11_leave x SX (cs 10) = some (r, SB) ∧ f12_leaves x sm = some (r, sm1) ∧ InvN (va_up cs 10 SB) sm1 n g := by
  have hB := h.2.2.1
  have e0 : sm.2.2.1 25 0 = (cs 10).1 0 := hB.1
  by_cases hz : (cs 10).1 0 &&& x = 0
  · refine ⟨-1, cs 10, sm, ?_, ?_, ?_⟩
    · unfold f11_leave f0_narrow
      rw [lt_e, if_pos hz, bd_s, if_pos rfl]
      rfl
    · unfold f12_leaves
      show ck true (if (sm.2.2.1 25 0 &&& x) = 0 then _ else _) = _
      rw [ck_t, e0, if_pos hz]
    · have : va_up cs 10 (cs 10) = cs := by
        funext i; unfold va_up; split
        · rename_i h; rw [h]
        · rfl
      rw [this]; exact h
  · obtain ⟨S1, p, v, k1, k2, k3, k4, k5, k6⟩ := keep_both h
    refine ⟨nI (cnt ((cs 10).1 0 &&& x)), oI S1 0 ((cs 10).1 0 &&& x), oA (oI (sR sm 25 p) 26 v) 25 0 ((cs 10).1 0 &&& x), ?_, ?_, ?_⟩
    · unfold f11_leave f0_narrow
      rw [lt_e, if_neg hz, k1, bd_s, lt_e, bd_s, if_neg (show ¬ (1 : Int32) = 0 by decide)]
      show bd (fj6_bitCount ((cs 10).1 0 &&& x)) _ = _
      rw [sj_bitCount, bd_s]; rfl
    · unfold f12_leaves
      show ck true (if (sm.2.2.1 25 0 &&& x) = 0 then _ else _) = _
      rw [ck_t, e0, if_neg hz, k2, bd_s]
      show ck true (ck true (lt (oA (oI (sR sm 25 p) 26 v) 25 0 ((oI (sR sm 25 p) 26 v).2.2.1 25 0 &&& x)) _)) = _
      rw [ck_t, ck_t, lt_e]
      have e1 : (oI (sR sm 25 p) 26 v).2.2.1 25 0 = (cs 10).1 0 := by
        show p 0 = _
        rw [k5, e0]
      rw [e1]
      show ck true (bd (f12_bits ((cs 10).1 0 &&& x)) _) = _
      rw [ck_t, s12_bits, bd_s]
    · refine set_left k6 (fun i hi hb => hB.2.1 i hi ?_)
      rw [b_and] at hb
      simp only [Bool.and_eq_true] at hb
      exact hb.1
