/-! pure: mark, same -/
theorem s0_copy_52 (S0 SO : Ob) : ∃ S1, f0_copy_52 FU 0 S0 SO = some S1 ∧ S1.1 = S0.1 ∧ S1.2.2.1 2 = S0.2.2.1 2 ∧ ∀ k, k < 8 → S1.2.2.1 4 k = SO.2.2.1 4 k ∧ S1.2.2.1 5 k = vp_nar .boolean (SO.2.2.1 5 k) := by
  exact loop_inv (fun q j S => f0_copy_52 q (nI j) S SO) (fun j S => S.1 = S0.1 ∧ S.2.2.1 2 = S0.2.2.1 2 ∧ ∀ k, k < j → S.2.2.1 4 k = SO.2.2.1 4 k ∧ S.2.2.1 5 k = vp_nar .boolean (SO.2.2.1 5 k)) _ 8
    (by
      intro q S hS
      refine ⟨S, ?_, hS⟩
      show f0_copy_52 (q + 1) (nI 8) S SO = _
      rw [f0_copy_52, if_pos (by decide)])
    (by
      intro q j S hj hS
      obtain ⟨h1, h2, h3⟩ := hS
      refine ⟨oA (oA S 4 j (SO.2.2.1 4 j)) 5 j (vp_nar .boolean (SO.2.2.1 5 j)), ⟨h1, h2, fun k hk => ?_⟩, ?_⟩
      · show upd (S.2.2.1 4) j (SO.2.2.1 4 j) k = _ ∧ upd (S.2.2.1 5) j (vp_nar .boolean (SO.2.2.1 5 j)) k = _
        by_cases h : k = j
        · subst h; rw [pk_us, pk_us]; exact ⟨rfl, rfl⟩
        · rw [pk_un h, pk_un h]; exact h3 k (by omega)
      · show f0_copy_52 (q + 1) (nI j) S SO = f0_copy_52 q (nI (j + 1)) _ SO
        rw [f0_copy_52, if_neg (show ¬ (8 : Int32) ≤ nI j from nI_ge (b := 8) hj (by omega)), inb_nI (by omega) (by omega), ck_t, ck_t, lt_e, ck_t, ck_t, lt_e, lt_e, nI_clamp (by omega), nI_succ])
    FU 0 S0 (Nat.zero_le _) (FU_lt (by omega)) ⟨rfl, rfl, fun k hk => absurd hk (Nat.not_lt_zero k)⟩
theorem s0_copy (SB SO : Ob) : ∃ S1, f0_copy SB SO = some S1 ∧ S1.1 0 = SO.1 0 ∧ S1.1 1 = SO.1 1 ∧ S1.1 3 = SO.1 3 ∧ S1.1 6 = 0 ∧ (∀ k, k < 10 → S1.2.2.1 2 k = SO.2.2.1 2 k) ∧ ∀ k, k < 8 → S1.2.2.1 4 k = SO.2.2.1 4 k ∧ S1.2.2.1 5 k = vp_nar .boolean (SO.2.2.1 5 k) := by
  have hl := loop_inv (fun q j S => f0_copy_18 q (nI j) S SO) (fun j S => S.1 0 = SO.1 0 ∧ S.1 1 = SO.1 1 ∧ S.1 6 = 0 ∧ ∀ k, k < j → S.2.2.1 2 k = SO.2.2.1 2 k) (fun S1 => S1.1 0 = SO.1 0 ∧ S1.1 1 = SO.1 1 ∧ S1.1 3 = SO.1 3 ∧ S1.1 6 = 0 ∧ (∀ k, k < 10 → S1.2.2.1 2 k = SO.2.2.1 2 k) ∧ ∀ k, k < 8 → S1.2.2.1 4 k = SO.2.2.1 4 k ∧ S1.2.2.1 5 k = vp_nar .boolean (SO.2.2.1 5 k)) 10
    (by
      intro q S hS
      obtain ⟨h0, h1, h6, h2⟩ := hS
      show ∃ r, f0_copy_18 (q + 1) (nI 10) S SO = some r ∧ _
      rw [f0_copy_18, if_pos (by decide), lt_e]
      obtain ⟨S1, e, a1, a2, a3⟩ := s0_copy_52 (oI S 3 (SO.1 3)) SO
      refine ⟨S1, e, ?_, ?_, ?_, ?_, ?_, a3⟩
      · rw [a1]; exact h0
      · rw [a1]; exact h1
      · rw [a1]; rfl
      · rw [a1]; exact h6
      · rw [a2]; exact h2)
    (by
      intro q j S hj hS
      obtain ⟨h0, h1, h6, h2⟩ := hS
      refine ⟨oA S 2 j (SO.2.2.1 2 j), ⟨h0, h1, h6, fun k hk => ?_⟩, ?_⟩
      · show upd (S.2.2.1 2) j (SO.2.2.1 2 j) k = _
        by_cases h : k = j
        · subst h; rw [pk_us]
        · rw [pk_un h]; exact h2 k (by omega)
      · show f0_copy_18 (q + 1) (nI j) S SO = f0_copy_18 q (nI (j + 1)) _ SO
        rw [f0_copy_18, if_neg (show ¬ (10 : Int32) ≤ nI j from nI_ge (b := 10) hj (by omega)), inb_nI (by omega) (by omega), ck_t, ck_t, lt_e, lt_e, nI_clamp (by omega), nI_succ])
    FU 0 (oI (oI (oI (oI (oI SB 0 (SO.1 0)) 1 0) 3 0) 6 0) 1 (SO.1 1)) (Nat.zero_le _) (FU_lt (by omega)) ⟨rfl, rfl, rfl, fun k hk => absurd hk (Nat.not_lt_zero k)⟩
  obtain ⟨S1, e, hr⟩ := hl
  refine ⟨S1, ?_, hr⟩
  unfold f0_copy f0_open
  simp only [lt_e, bd_s]
  exact e
theorem BkR_copy {SO S1 : Ob} {r p : Nat → Int32} {b b' n g : Nat} (h : BkR SO r b n g) (h0 : S1.1 0 = SO.1 0) (h1 : S1.1 1 = SO.1 1) (h3 : S1.1 3 = SO.1 3) (h2 : ∀ k, k < 10 → S1.2.2.1 2 k = SO.2.2.1 2 k) (h45 : ∀ k, k < 8 → S1.2.2.1 4 k = SO.2.2.1 4 k ∧ S1.2.2.1 5 k = vp_nar .boolean (SO.2.2.1 5 k)) (hp : ∀ i, i < 30 → p (b' + i) = r (b + i)) : BkR S1 p b' n g := by
  obtain ⟨a1, a2, ⟨t, t1, t2, t3, t4⟩, ⟨q, q1, q2, q3, q4⟩⟩ := h
  refine ⟨by rw [h0]; exact (hp 0 (by omega)).trans a1, by rw [h0]; exact a2, ⟨t, t1, h1.trans t2, (hp 1 (by omega)).trans t3, fun k hk => ?_⟩, ⟨q, q1, h3.trans q2, (hp 12 (by omega)).trans q3, fun k hk => ?_⟩⟩
  · rw [h2 k (by omega)]
    refine ⟨?_, (t4 k hk).2⟩
    rw [Nat.add_assoc, hp (2 + k) (by omega), ← Nat.add_assoc]
    exact (t4 k hk).1
  · obtain ⟨c1, c2, c3, c4⟩ := q4 k hk
    rw [(h45 k (by omega)).1, (h45 k (by omega)).2, nb_01 c3]
    refine ⟨c1, ?_, c3, ?_⟩
    · rw [Nat.add_assoc, hp (13 + 2 * k) (by omega), ← Nat.add_assoc]; exact c2
    · rw [Nat.add_assoc, Nat.add_assoc, hp (13 + (2 * k + 1)) (by omega), ← Nat.add_assoc, ← Nat.add_assoc]; exact c4
theorem mark_laid {cs cs' : Nat → Ob} {sm : Ob} {n g m : Nat} {S1 : Ob} (h : InvN cs sm n g) (hm : m < 4) (a0 : S1.1 0 = (cs 10).1 0) (a1 : S1.1 1 = (cs 10).1 1) (a3 : S1.1 3 = (cs 10).1 3) (a2 : ∀ k, k < 10 → S1.2.2.1 2 k = (cs 10).2.2.1 2 k) (a45 : ∀ k, k < 8 → S1.2.2.1 4 k = (cs 10).2.2.1 4 k ∧ S1.2.2.1 5 k = vp_nar .boolean ((cs 10).2.2.1 5 k)) (h0 : cs' 0 = oA (cs 0) 8 m 1) (h3 : cs' 3 = cs 3) (h8 : cs' 8 = cs 8) (h10 : cs' 10 = cs 10) (h15 : cs' 15 = cs 15) (hm1 : cs' (11 + m) = S1) (hm2 : ∀ k, k < 4 → k ≠ m → cs' (11 + k) = cs (11 + k)) : InvN cs' (oI (sR (oA sm 27 m 1) 25 (fb_put (sm.2.2.1 25) (fun k => sm.2.2.1 25 (0 + k)) (30 * (1 + m)) 30)) 26 (sm.1 26)) n g := by
  obtain ⟨hC, hM, hB, hU, hK, hT, hO, hL, hN⟩ := h
  unfold InvN
  rw [h3, h8, h10, h15]
  obtain ⟨P, hP⟩ : ∃ P, P = fb_put (sm.2.2.1 25) (fun k => sm.2.2.1 25 (0 + k)) (30 * (1 + m)) 30 := ⟨_, rfl⟩
  have kin : ∀ i, i < 30 → P (30 * (1 + m) + i) = sm.2.2.1 25 (0 + i) := fun i hi => by
    rw [hP, fb_put_in (by omega) (by omega)]
    exact congrArg (sm.2.2.1 25) (by omega)
  have out : ∀ i, i < 30 * (1 + m) ∨ 30 * (1 + m) + 30 ≤ i → P i = sm.2.2.1 25 i := fun i hi => by rw [hP]; exact fb_put_out hi
  rw [← hP]
  refine ⟨hC, hM, ?_, ?_, ?_, hT, hO, hL, hN⟩
  · exact BkR_like hB (fun i _ hi => out i (by omega))
  · obtain ⟨u, t, te, u16, t10, hu1, hu2, ht, hte, hmo, hen⟩ := hU
    refine ⟨u, t, te, u16, t10, hu1, hu2, ht, hte, hmo, fun e he => ?_⟩
    obtain ⟨d1, d2, d3, d4, d5⟩ := hen e he
    exact ⟨(out _ (by omega)).trans d1, d2, d3, (out _ (by omega)).trans d4, fun k hk => (out _ (by have := hte e he; omega)).trans (d5 k hk)⟩
  · show MkR cs' P (upd (sm.2.2.1 27) m 1) n g
    intro k hk
    rw [h0]
    show upd ((cs 0).2.2.1 8) m 1 k = upd (sm.2.2.1 27) m 1 k ∧ _
    by_cases hkm : k = m
    · subst hkm
      rw [pk_us, pk_us]
      refine ⟨rfl, Or.inr rfl, fun _ => ?_⟩
      rw [hm1]
      exact BkR_copy hB a0 a1 a3 a2 a45 kin
    · rw [pk_un hkm, pk_un hkm]
      obtain ⟨b1, b2, b3⟩ := hK k hk
      refine ⟨b1, b2, fun e => ?_⟩
      rw [hm2 k hk hkm]
      exact BkR_like (b3 e) (fun i h1 h2 => out i (by omega))
theorem mark_back {cs cs' : Nat → Ob} {sm : Ob} {n g m : Nat} {S1 : Ob} (h : InvN cs sm n g) (hm : m < 4) (hl : sm.2.2.1 27 m = 1) (a0 : S1.1 0 = (cs (11 + m)).1 0) (a1 : S1.1 1 = (cs (11 + m)).1 1) (a3 : S1.1 3 = (cs (11 + m)).1 3) (a6 : S1.1 6 = 0) (a2 : ∀ k, k < 10 → S1.2.2.1 2 k = (cs (11 + m)).2.2.1 2 k) (a45 : ∀ k, k < 8 → S1.2.2.1 4 k = (cs (11 + m)).2.2.1 4 k ∧ S1.2.2.1 5 k = vp_nar .boolean ((cs (11 + m)).2.2.1 5 k)) (h0 : cs' 0 = cs 0) (h3 : cs' 3 = cs 3) (h8 : cs' 8 = cs 8) (h10 : cs' 10 = S1) (h15 : cs' 15 = cs 15) (hm2 : ∀ k, k < 4 → cs' (11 + k) = cs (11 + k)) : InvN cs' (oI (sR (oA sm 27 m 1) 25 (fb_put (sm.2.2.1 25) (fun k => sm.2.2.1 25 (30 * (1 + m) + k)) 0 30)) 26 0) n g := by
  obtain ⟨hC, hM, hB, hU, hK, hT, hO, hL, hN⟩ := h
  unfold InvN
  rw [h3, h8, h10, h15]
  obtain ⟨P, hP⟩ : ∃ P, P = fb_put (sm.2.2.1 25) (fun k => sm.2.2.1 25 (30 * (1 + m) + k)) 0 30 := ⟨_, rfl⟩
  have kin : ∀ i, i < 30 → P (0 + i) = sm.2.2.1 25 (30 * (1 + m) + i) := fun i hi => by
    rw [hP, fb_put_in (by omega) (by omega)]
    exact congrArg (sm.2.2.1 25) (by omega)
  have out : ∀ i, 30 ≤ i → P i = sm.2.2.1 25 i := fun i hi => by rw [hP]; exact fb_put_out (by omega)
  rw [← hP]
  obtain ⟨c1, c2, c3⟩ := hK m hm
  have hB' := BkR_copy (c3 hl) a0 a1 a3 a2 a45 kin
  refine ⟨hC, hM, hB', ?_, ?_, hT, hO, hL, hN⟩
  · obtain ⟨t, t1, t2, -⟩ := hB'.2.2.1
    exact ⟨0, t, fun _ => 0, by omega, t1, a6, rfl, t2, fun e he => absurd he (Nat.not_lt_zero e), fun e f _ hf => absurd hf (Nat.not_lt_zero f), fun e he => absurd he (Nat.not_lt_zero e)⟩
  · show MkR cs' P (upd (sm.2.2.1 27) m 1) n g
    intro k hk
    rw [h0, hm2 k hk]
    have e : upd (sm.2.2.1 27) m 1 k = sm.2.2.1 27 k := by
      by_cases hkm : k = m
      · subst hkm; rw [pk_us, hl]
      · rw [pk_un hkm]
    rw [e]
    obtain ⟨b1, b2, b3⟩ := hK k hk
    exact ⟨b1, b2, fun e => BkR_like (b3 e) (fun i h1 h2 => out i (by omega))⟩
theorem nI_301 (m : Nat) : 30 * (1 + nI m) = nI (30 * (1 + m)) := by
  rw [show (1 : Int32) = nI 1 from rfl, show (30 : Int32) = nI 30 from rfl, nI_add, pk_mul]
theorem m12_laid {sm : Ob} {m : Nat} (hm : m < 4) : f12_mark (nI m) 0 sm = some (1, oI (sR (oA (oI sm 0 0) 27 m 1) 25 (fb_put ((oI sm 0 0).2.2.1 25) (fun k => (oI sm 0 0).2.2.1 25 (0 + k)) (30 * (1 + m)) 30)) 26 ((oI sm 0 0).1 26)) := by
  unfold f12_mark f12_mark_29 f12_mark_51 f12_mark_65
  rw [lt_e, s12_withinL_yes (nI_pos (by omega)) (show ¬ (3 : Int32) < nI m from nI_nlt (a := 3) (by omega) (by omega)), bd_s, if_neg (by decide), if_pos rfl, inb_nI hm (by omega), ck_t, lt_e, if_pos rfl, if_pos rfl, nI_301, nb_1, nI_clamp (by omega)]
  have hc := s12_copies (SM := oA (oI sm 0 0) 27 m 1) (a := 0) (b := 30 * (1 + m)) (m := 30) (by omega) (by omega) (by omega)
  have hc' : f12_copies 0 (nI (30 * (1 + m))) 30 (oA (oI sm 0 0) 27 m 1) = _ := hc
  rw [hc', bd_s, if_pos rfl]
  rfl
theorem m12_back {sm : Ob} {m : Nat} (hm : m < 4) (hl : sm.2.2.1 27 m = 1) : f12_mark (nI m) 1 sm = some (1, oI (sR (oA (oI sm 0 0) 27 m 1) 25 (fb_put ((oI sm 0 0).2.2.1 25) (fun k => (oI sm 0 0).2.2.1 25 (30 * (1 + m) + k)) 0 30)) 26 0) := by
  unfold f12_mark f12_mark_29 f12_mark_51 f12_mark_65
  rw [lt_e, s12_withinL_yes (nI_pos (by omega)) (show ¬ (3 : Int32) < nI m from nI_nlt (a := 3) (by omega) (by omega)), bd_s, if_neg (by decide), if_neg (by decide), inb_nI hm (by omega), ck_t, nI_clamp (by omega)]
  have e : (oI sm 0 0).2.2.1 27 m = 1 := hl
  rw [e, if_neg (by decide), ck_t, lt_e, if_neg (by decide), if_neg (by decide), nI_301, nb_1]
  have hc := s12_copies (SM := oA (oI sm 0 0) 27 m 1) (a := 30 * (1 + m)) (b := 0) (m := 30) (by omega) (by omega) (by omega)
  have hc' : f12_copies (nI (30 * (1 + m))) 0 30 (oA (oI sm 0 0) 27 m 1) = _ := hc
  rw [hc', bd_s, if_neg (by decide)]
  rfl
theorem m12_none {sm : Ob} {m : Nat} (hm : m < 4) (hl : sm.2.2.1 27 m = 0) : f12_mark (nI m) 1 sm = some (0, oI sm 0 0) := by
  unfold f12_mark
  rw [lt_e, s12_withinL_yes (nI_pos (by omega)) (show ¬ (3 : Int32) < nI m from nI_nlt (a := 3) (by omega) (by omega)), bd_s, if_neg (by decide), if_neg (by decide), inb_nI hm (by omega), ck_t, nI_clamp (by omega)]
  have e : (oI sm 0 0).2.2.1 27 m = 0 := hl
  rw [e, if_pos rfl]
  rfl
theorem st_mark : St_mark Inv := by
  intro cs sm x1 x2 h hx2
  obtain ⟨n, g, hI⟩ := h
  have hI' : InvN cs (oI sm 0 0) n g := hI
  have hK := hI.2.2.2.2.1
  have no : (x1 < 0 ∨ (4 : Int32) ≤ x1) → ∃ (r : Int32) (SX : Ob) (SB : Ob) (SE0 : Ob) (SE1 : Ob) (SE2 : Ob) (SE3 : Ob) (sm1 : Ob), f11_mark x1 x2 (cs 0) (cs 10) (cs 11) (cs 12) (cs 13) (cs 14) = some (r, SX, SB, SE0, SE1, SE2, SE3) ∧ f12_mark x1 x2 sm = some (r, sm1) ∧ Inv (va_up (va_up (va_up (va_up (va_up (va_up cs 0 SX) 10 SB) 11 SE0) 12 SE1) 13 SE2) 14 SE3) sm1 := by
    intro hno
    refine ⟨0, cs 0, cs 10, cs 11, cs 12, cs 13, cs 14, oI sm 0 0, ?_, ?_, ?_⟩
    · unfold f11_mark
      by_cases h1 : x1 < 0
      · rw [if_pos h1]; rfl
      · rw [if_neg h1]
        rcases hno with h2 | h2
        · exact absurd h2 h1
        · rw [if_neg (by rw [Int32.lt_iff_toInt_lt]; rw [Int32.le_iff_toInt_le] at h2; omega)]; rfl
    · unfold f12_mark
      rw [lt_e, s12_withinL_no (hi := 3) (by
        rcases hno with h2 | h2
        · exact Or.inl h2
        · right
          rw [Int32.le_iff_toInt_le] at h2; rw [Int32.lt_iff_toInt_lt]
          have : (4 : Int32).toInt = 4 := by decide
          have : (3 : Int32).toInt = 3 := by decide
          omega)]; rfl
    · refine ⟨n, g, ?_⟩
      rw [va_self]
      have e1 : va_up cs 10 (cs 10) = cs := va_self _ _
      rw [e1, va_self, va_self, va_self, va_self]
      exact hI'
  rcases pk_ix x1 (n := 4) (by omega) with hx | hx | ⟨m, hm, rfl⟩
  · exact no (Or.inl hx)
  · exact no (Or.inr hx)
  have h4 : m = 0 ∨ m = 1 ∨ m = 2 ∨ m = 3 := by omega
  rcases hx2 with rfl | rfl
  · obtain ⟨S1, e, a0, a1, a3, a6, a2, a45⟩ := s0_copy (cs (11 + m)) (cs 10)
    rcases h4 with rfl | rfl | rfl | rfl
    · refine ⟨1, oA (cs 0) 8 0 1, cs 10, S1, cs 12, cs 13, cs 14, _, ?_, m12_laid hm, n, g, mark_laid hI' hm a0 a1 a3 a2 a45 rfl rfl rfl rfl rfl rfl (fun k hk hne => ?_)⟩
      · have e' : f0_copy (cs 11) (cs 10) = some S1 := e
        unfold f11_mark
        rw [if_neg (by decide), if_pos (by decide), if_pos rfl, ck_p (by decide), if_pos (by decide), e', bd_s]; rfl
      · have : k = 1 ∨ k = 2 ∨ k = 3 := by omega
        rcases this with rfl | rfl | rfl <;> rfl
    · refine ⟨1, oA (cs 0) 8 1 1, cs 10, cs 11, S1, cs 13, cs 14, _, ?_, m12_laid hm, n, g, mark_laid hI' hm a0 a1 a3 a2 a45 rfl rfl rfl rfl rfl rfl (fun k hk hne => ?_)⟩
      · have e' : f0_copy (cs 12) (cs 10) = some S1 := e
        unfold f11_mark
        rw [if_neg (by decide), if_pos (by decide), if_pos rfl, ck_p (by decide), if_neg (by decide), if_pos (by decide), e', bd_s]; rfl
      · have : k = 0 ∨ k = 2 ∨ k = 3 := by omega
        rcases this with rfl | rfl | rfl <;> rfl
    · refine ⟨1, oA (cs 0) 8 2 1, cs 10, cs 11, cs 12, S1, cs 14, _, ?_, m12_laid hm, n, g, mark_laid hI' hm a0 a1 a3 a2 a45 rfl rfl rfl rfl rfl rfl (fun k hk hne => ?_)⟩
      · have e' : f0_copy (cs 13) (cs 10) = some S1 := e
        unfold f11_mark
        rw [if_neg (by decide), if_pos (by decide), if_pos rfl, ck_p (by decide), if_neg (by decide), if_neg (by decide), if_pos (by decide), e', bd_s]; rfl
      · have : k = 0 ∨ k = 1 ∨ k = 3 := by omega
        rcases this with rfl | rfl | rfl <;> rfl
    · refine ⟨1, oA (cs 0) 8 3 1, cs 10, cs 11, cs 12, cs 13, S1, _, ?_, m12_laid hm, n, g, mark_laid hI' hm a0 a1 a3 a2 a45 rfl rfl rfl rfl rfl rfl (fun k hk hne => ?_)⟩
      · have e' : f0_copy (cs 14) (cs 10) = some S1 := e
        unfold f11_mark
        rw [if_neg (by decide), if_pos (by decide), if_pos rfl, ck_p (by decide), if_neg (by decide), if_neg (by decide), if_neg (by decide), e', bd_s]; rfl
      · have : k = 0 ∨ k = 1 ∨ k = 2 := by omega
        rcases this with rfl | rfl | rfl <;> rfl
  · obtain ⟨c1, c2, c3⟩ := hK m hm
    rcases c2 with hz | hz
    · refine ⟨0, cs 0, cs 10, cs 11, cs 12, cs 13, cs 14, oI sm 0 0, ?_, m12_none hm hz, ?_⟩
      · unfold f11_mark f11_mark_59
        have e : (cs 0).2.2.1 8 m = 0 := c1.trans hz
        rw [if_neg (nI_pos (by omega)), if_pos (show nI m < 4 from nI_lt (b := 4) hm (by omega)), if_neg (by decide), inb_nI hm (by omega), ck_t, ck_t, nI_clamp (by omega), e, if_pos rfl]
        rfl
      · refine ⟨n, g, ?_⟩
        rw [va_self]
        have e1 : va_up cs 10 (cs 10) = cs := va_self _ _
        rw [e1, va_self, va_self, va_self, va_self]
        exact hI'
    · obtain ⟨S1, e, a0, a1, a3, a6, a2, a45⟩ := s0_copy (cs 10) (cs (11 + m))
      have e8 : (cs 0).2.2.1 8 m = 1 := c1.trans hz
      refine ⟨1, cs 0, S1, cs 11, cs 12, cs 13, cs 14, _, ?_, m12_back hm hz, n, g, mark_back hI' hm hz a0 a1 a3 a6 a2 a45 rfl rfl rfl rfl rfl (fun k hk => ?_)⟩
      · unfold f11_mark f11_mark_59
        rw [if_neg (nI_pos (by omega)), if_pos (show nI m < 4 from nI_lt (b := 4) hm (by omega)), if_neg (by decide), inb_nI hm (by omega), ck_t, ck_t, nI_clamp (by omega), e8, if_neg (by decide)]
        rcases h4 with rfl | rfl | rfl | rfl
        · rw [if_pos (by decide), show (11 : Nat) = 11 + 0 from rfl, e, bd_s]; rfl
        · rw [if_neg (by decide), if_pos (by decide), show (12 : Nat) = 11 + 1 from rfl, e, bd_s]; rfl
        · rw [if_neg (by decide), if_neg (by decide), if_pos (by decide), show (13 : Nat) = 11 + 2 from rfl, e, bd_s]; rfl
        · rw [if_neg (by decide), if_neg (by decide), if_neg (by decide), show (14 : Nat) = 11 + 3 from rfl, e, bd_s]; rfl
      · have : k = 0 ∨ k = 1 ∨ k = 2 ∨ k = 3 := by omega
        rcases this with rfl | rfl | rfl | rfl <;> rfl
