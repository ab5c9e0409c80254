/-! pure: what is done by hand: answer, sign, night, undo, hear, mark -/
def sayS (n k j : Nat) (x : Int32) : Int32 := if k = 0 then allS n &&& (x ^^^ so (w4s j)) else if k = 1 then allS n &&& x else if k = 2 then allS n &&& ((x ^^^ so (w4s j)) ^^^ (-1)) else allS n
theorem s4_sayable {SI : Ob} {n j k : Nat} (x : Int32) (hn : SI.1 0 = nI n) (h8 : n ≤ 8) (hj : j < n) (hk : SI.2.2.1 2 j = nI k) (h4 : k < 4) : f4_sayable (nI j) x SI = some (sayS n k j x) := by
  unfold f4_sayable sayS
  rw [s4_hasGuest_yes hn hj h8, bd_s, if_neg (by decide)]
  simp only [f4_worldsOf, bd_s, lt_e, nI_4, own_so (show j < 8 by omega), inb_nI (show j < 8 by omega) (by omega), ck_t, nI_clamp (show j < 2 ^ 31 by omega), hk, s4_all hn h8]
  have : k = 0 ∨ k = 1 ∨ k = 2 ∨ k = 3 := by omega
  rcases this with e | e | e | e <;> subst e
  · rw [if_pos (by decide), if_pos rfl]
  · rw [if_neg (by decide), if_pos (by decide), if_neg (by decide), if_pos rfl]
  · rw [if_neg (by decide), if_neg (by decide), if_pos (by decide), if_neg (by decide), if_neg (by decide), if_pos rfl]
  · rw [if_neg (by decide), if_neg (by decide), if_neg (by decide), if_neg (by decide), if_neg (by decide), if_neg (by decide)]
theorem w4s_all {n j i : Nat} (hj : j < n) (h : w4s j i = true) : decide (i < 4 * n) = true := by
  unfold w4s at h
  simp at h ⊢
  omega
theorem s12_saidIn {SM : Ob} {n j k : Nat} (x : Int32) (hn : SM.2.2.1 10 0 = nI n) (h8 : n ≤ 8) (hj : j < n) (hk : SM.2.2.1 10 (3 + 5 * j) = nI k) (h4 : k < 4) : f12_saidIn (nI j) (x &&& allS n) SM = some (sayS n k j x) := by
  unfold f12_saidIn sayS f12_saidIn_76
  have e0 := s12_guestOf (SM := SM) (j := j) (k := 0) (by omega) (by omega)
  have e0' : f12_guestOf (nI j) 0 SM = some (nI k) := by rw [← hk]; exact e0
  rw [e0', bd_s]
  simp only [f12_worldsOf, bd_s, lt_e, nI_4', own_so (show j < 8 by omega), s12_everyWorld hn h8]
  have : k = 0 ∨ k = 1 ∨ k = 2 ∨ k = 3 := by omega
  rcases this with e | e | e | e <;> subst e
  · rw [if_neg (by decide), if_neg (by decide), if_neg (by decide), if_pos rfl]
    refine congrArg some (b_ext (fun i hi => ?_))
    simp only [b_or, b_and, b_xor, b_not _ hi, so_bt _ hi, allS_bt hi]
    have hw := w4s_all (n := n) (i := i) hj
    cases ho : w4s j i
    · cases bt x i <;> cases decide (i < 4 * n) <;> rfl
    · rw [hw ho]; cases bt x i <;> rfl
  · rw [if_neg (by decide), if_pos (by decide), if_neg (by decide), if_pos rfl, Int32.and_comm]
  · rw [if_neg (by decide), if_neg (by decide), if_pos (by decide), if_neg (by decide), if_neg (by decide), if_pos rfl]
    refine congrArg some (b_ext (fun i hi => ?_))
    simp only [b_or, b_and, b_xor, b_not _ hi, so_bt _ hi, allS_bt hi]
    have hw := w4s_all (n := n) (i := i) hj
    cases ho : w4s j i
    · cases bt x i <;> cases decide (i < 4 * n) <;> rfl
    · rw [hw ho]; cases bt x i <;> rfl
  · rw [if_pos (by decide), if_neg (by decide), if_neg (by decide), if_neg (by decide)]
theorem own_all {n j : Nat} (hj : j < n) : so (w4s j) &&& allS n = so (w4s j) := b_ext (fun i hi => by
  rw [b_and, so_bt _ hi, allS_bt hi]
  cases ho : w4s j i
  · rfl
  · rw [w4s_all hj ho]; rfl)
/-- what a guest may be asked -/
def soX (y : Int32) (a : Nat) : Int32 := if y = 0 then so (w4s a) ^^^ (-1) else so (w4s a)
theorem s12_answerIn {SM : Ob} {n j k a : Nat} (y : Int32) (hn : SM.2.2.1 10 0 = nI n) (h8 : n ≤ 8) (hj : j < n) (ha : a < n) (hk : SM.2.2.1 10 (3 + 5 * j) = nI k) (h4 : k < 4) : f12_answerIn (nI j) (nI a) y SM = some (sayS n k j (soX y a)) := by
  unfold f12_answerIn f12_answerIn_24 soX
  simp only [f12_worldsOf, bd_s, nI_4', own_so (show a < 8 by omega), s12_everyWorld hn h8]
  by_cases hy : y = 0
  · rw [if_pos hy, if_pos hy, s12_saidIn _ hn h8 hj hk h4, bd_s]
  · rw [if_neg hy, if_neg hy]
    have e := s12_saidIn (so (w4s a)) hn h8 hj hk h4
    rw [own_all ha] at e
    rw [e, bd_s]
theorem nb_0 : vp_nar .boolean 0 = 0 := by decide
theorem nb_1 : vp_nar .boolean 1 = 1 := by decide
theorem nb_01 {x : Int32} (h : x = 0 ∨ x = 1) : vp_nar .boolean x = x := by
  rcases h with rfl | rfl
  · exact nb_0
  · exact nb_1
theorem va_self {α : Type} (f : Nat → α) (k : Nat) : va_up f k (f k) = f := by
  funext i; unfold va_up; split
  · rename_i h; rw [h]
  · rfl
theorem st_answer : St_answer Inv := by
  intro cs sm x1 x2 x3 h hx3
  obtain ⟨n, g, hI⟩ := h
  obtain ⟨hC, hM, hR⟩ := id hI
  obtain ⟨h8, -, hn, -, hkd, -⟩ := id hC
  have hI' : InvN cs (oI sm 0 0) n g := hI
  have hn' : (oI sm 0 0).2.2.1 10 0 = nI n := hM.1
  have no : (x1 < 0 ∨ nI n ≤ x1) ∨ (x2 < 0 ∨ nI n ≤ x2) → ∃ (r : Int32) (SB : Ob) (sm1 : Ob), f11_answer x1 x2 x3 (cs 0) (cs 8) (cs 10) = some (r, SB) ∧ f12_answer x1 x2 x3 sm = some (r, sm1) ∧ Inv (va_up cs 10 SB) sm1 := by
    intro hno
    refine ⟨-1, cs 10, oI sm 0 0, ?_, ?_, by rw [va_self]; exact ⟨n, g, hI'⟩⟩
    · unfold f11_answer
      rcases hno with h1 | h2
      · rw [s4_hasGuest_no hn h1]; rfl
      · rcases pk_ix x1 (n := n) (by omega) with hx | hx | ⟨j, hj, rfl⟩
        · rw [s4_hasGuest_no hn (Or.inl hx)]; rfl
        · rw [s4_hasGuest_no hn (Or.inr hx)]; rfl
        · rw [s4_hasGuest_yes hn hj h8, bd_s, if_neg (by decide), s4_hasGuest_no hn h2]; rfl
    · unfold f12_answer
      rw [lt_e]
      rcases hno with h1 | h2
      · rw [s12_isGuest_no hn' h1]; rfl
      · rcases pk_ix x1 (n := n) (by omega) with hx | hx | ⟨j, hj, rfl⟩
        · rw [s12_isGuest_no hn' (Or.inl hx)]; rfl
        · rw [s12_isGuest_no hn' (Or.inr hx)]; rfl
        · rw [s12_isGuest_yes hn' hj h8, bd_s, if_neg (by decide), s12_isGuest_no hn' h2]; rfl
  rcases pk_ix x1 (n := n) (by omega) with hx | hx | ⟨j, hj, rfl⟩
  · exact no (Or.inl (Or.inl hx))
  · exact no (Or.inl (Or.inr hx))
  rcases pk_ix x2 (n := n) (by omega) with hx | hx | ⟨a, ha, rfl⟩
  · exact no (Or.inr (Or.inl hx))
  · exact no (Or.inr (Or.inr hx))
  obtain ⟨k, hk4, hk⟩ := hkd j hj
  have hk' : (oI sm 0 0).2.2.1 10 (3 + 5 * j) = nI k := by rw [← hk]; exact (hM.2.2.1 j hj).1
  obtain ⟨r, SB, sm1, e1, e2, e3⟩ := leave_both hI' (cs 0) (sayS n k j (soX x3 a))
  refine ⟨r, SB, sm1, ?_, ?_, n, g, e3⟩
  · unfold f11_answer f11_answer_53
    rw [s4_hasGuest_yes hn hj h8, bd_s, if_neg (by decide), s4_hasGuest_yes hn ha h8, bd_s, if_neg (by decide)]
    simp only [f4_worldsOf, bd_s, nI_4, own_so (show a < 8 by omega)]
    unfold soX at e1
    by_cases hy : x3 = 0
    · rw [if_pos hy] at e1 ⊢
      rw [s4_sayable _ hn h8 hj hk hk4, bd_s, e1, bd_s]
    · rw [if_neg hy] at e1 ⊢
      rw [s4_sayable _ hn h8 hj hk hk4, bd_s, e1, bd_s]
  · unfold f12_answer
    rw [lt_e, s12_isGuest_yes hn' hj h8, bd_s, if_neg (by decide), s12_isGuest_yes hn' ha h8, bd_s, if_neg (by decide), s12_answerIn x3 hn' h8 hj ha hk' hk4, bd_s, e2, bd_s]
    rfl
theorem st_sign : St_sign Inv := by
  intro cs sm x1 x2 h hx2
  obtain ⟨n, g, hI⟩ := h
  obtain ⟨hC, hM, hR⟩ := id hI
  obtain ⟨h8, h6, hn, hg, -⟩ := id hC
  have hI' : InvN cs (oI sm 0 0) n g := hI
  have hn' : (oI sm 0 0).2.2.1 10 0 = nI n := hM.1
  have hs' : f12_signs (oI sm 0 0) = some (nI g) := by rw [← hM.2.1]; rfl
  have no : (x1 < 0 ∨ nI g ≤ x1) → ∃ (r : Int32) (SB : Ob) (sm1 : Ob), f11_sign x1 x2 (cs 0) (cs 8) (cs 10) = some (r, SB) ∧ f12_sign x1 x2 sm = some (r, sm1) ∧ Inv (va_up cs 10 SB) sm1 := by
    intro hno
    refine ⟨-1, cs 10, oI sm 0 0, ?_, ?_, by rw [va_self]; exact ⟨n, g, hI'⟩⟩
    · unfold f11_sign
      rw [s4_hasSign_no hg hno]; rfl
    · unfold f12_sign
      rw [lt_e, hs', bd_s, s12_within_no hno (by omega)]; rfl
  rcases pk_ix x1 (n := g) (by omega) with hx | hx | ⟨j, hj, rfl⟩
  · exact no (Or.inl hx)
  · exact no (Or.inr hx)
  have e28 : (oI sm 0 0).2.2.1 28 j = (cs 8).2.2.1 11 j := hM.2.2.2.2.1 j hj
  have hws : f4_worldsShowing (nI j) x2 (cs 8) = some (if x2 = 0 then ((cs 8).2.2.1 11 j ^^^ (-1)) &&& allS n else (cs 8).2.2.1 11 j) := by
    unfold f4_worldsShowing f4_worldsShowing_36
    rw [s4_hasSign_yes hg hj (by omega), bd_s, if_neg (by decide)]
    simp only [s4_all hn h8, bd_s, inb_nI (show j < 6 by omega) (by omega), ck_t, nI_clamp (show j < 2 ^ 31 by omega)]
    by_cases hy : x2 = 0
    · rw [if_pos hy, if_pos hy, Int32.and_comm]
    · rw [if_neg hy, if_neg hy]
  obtain ⟨r, SB, sm1, e1, e2, e3⟩ := leave_both hI' (cs 0) (if x2 = 0 then ((cs 8).2.2.1 11 j ^^^ (-1)) &&& allS n else (cs 8).2.2.1 11 j)
  refine ⟨r, SB, sm1, ?_, ?_, n, g, e3⟩
  · unfold f11_sign
    rw [s4_hasSign_yes hg hj (by omega), bd_s, if_neg (by decide), hws, bd_s, e1, bd_s]
    rfl
  · unfold f12_sign f12_sign_46
    rw [lt_e, hs', bd_s, s12_within_yes hj (by omega), bd_s, if_neg (by decide)]
    simp only [inb_nI (show j < 6 by omega) (by omega), ck_t, nI_clamp (show j < 2 ^ 31 by omega), s12_everyWorld hn' h8, bd_s, e28]
    by_cases hy : x2 = 0
    · rw [if_pos hy] at e2 ⊢
      rw [e2, bd_s]; rfl
    · rw [if_neg hy] at e2 ⊢
      rw [e2, bd_s]; rfl
theorem end_night {cs : Nat → Ob} {sm : Ob} {n g t : Nat} {S1 : Ob} {x : Int32} (h : InvN (va_up cs 10 S1) sm n g) (ht : S1.1 1 = nI t) (t10 : t < 10) (hx : ∀ i, i < 32 → bt x i = true → i < n) : InvN (va_up cs 10 (oI (oA S1 2 t x) 1 (nI (t + 1)))) (oA (oA sm 25 (2 + t) x) 25 1 (nI (t + 1))) n g := by
  obtain ⟨hC, hM, hB, hU, hK, hT, hO, hL, hN⟩ := h
  have key : ∀ i, i ≠ 1 → i ≠ 2 + t → (oA (oA sm 25 (2 + t) x) 25 1 (nI (t + 1))).2.2.1 25 i = sm.2.2.1 25 i := fun i h1 h2 => by
    show upd (upd (sm.2.2.1 25) (2 + t) x) 1 (nI (t + 1)) i = _
    rw [pk_un h1, pk_un h2]
  have k1 : (oA (oA sm 25 (2 + t) x) 25 1 (nI (t + 1))).2.2.1 25 1 = nI (t + 1) := by
    show upd (upd (sm.2.2.1 25) (2 + t) x) 1 (nI (t + 1)) 1 = _
    rw [pk_us]
  have k2 : (oA (oA sm 25 (2 + t) x) 25 1 (nI (t + 1))).2.2.1 25 (2 + t) = x := by
    show upd (upd (sm.2.2.1 25) (2 + t) x) 1 (nI (t + 1)) (2 + t) = _
    rw [pk_un (by omega), pk_us]
  have kc : ∀ i, i ≠ t → (oI (oA S1 2 t x) 1 (nI (t + 1))).2.2.1 2 i = S1.2.2.1 2 i := fun i hi => pk_un hi
  have kt : (oI (oA S1 2 t x) 1 (nI (t + 1))).2.2.1 2 t = x := pk_us
  refine ⟨hC, hM, ?_, ?_, ?_, hT, hO, hL, hN⟩
  · obtain ⟨h1, h2, h3, h4⟩ := hB
    refine ⟨by rw [key 0 (by omega) (by omega)]; exact h1, h2, ?_, ?_⟩
    · obtain ⟨t', b1, b2, b3, b4⟩ := h3
      have htt : t' = t := (nI_eq (by omega) (by omega)).mp (b2.symm.trans ht)
      subst htt
      refine ⟨t' + 1, by omega, rfl, k1, fun k hk => ?_⟩
      show (oA (oA sm 25 (2 + t') x) 25 1 (nI (t' + 1))).2.2.1 25 (0 + 2 + k) = (oI (oA S1 2 t' x) 1 (nI (t' + 1))).2.2.1 2 k ∧ ∀ i, i < 32 → bt ((oI (oA S1 2 t' x) 1 (nI (t' + 1))).2.2.1 2 k) i = true → i < n
      by_cases hkt : k = t'
      · subst hkt
        rw [kt, show 0 + 2 + k = 2 + k by omega, k2]
        exact ⟨rfl, hx⟩
      · rw [key _ (by omega) (by omega), kc k hkt]
        exact b4 k (by omega)
    · obtain ⟨q, b1, b2, b3, b4⟩ := h4
      refine ⟨q, b1, b2, by rw [key _ (by omega) (by omega)]; exact b3, fun k hk => ⟨(b4 k hk).1, by rw [key _ (by omega) (by omega)]; exact (b4 k hk).2.1, (b4 k hk).2.2.1, by rw [key _ (by omega) (by omega)]; exact (b4 k hk).2.2.2⟩⟩
  · obtain ⟨u, t', te, u16, t10', hu1, hu2, ht', hte, hmo, hen⟩ := hU
    have htt : t' = t := (nI_eq (by omega) (by omega)).mp (ht'.symm.trans ht)
    subst htt
    refine ⟨u, t' + 1, te, u16, by omega, hu1, hu2, rfl, fun e he => Nat.le_succ_of_le (hte e he), hmo, fun e he => ?_⟩
    obtain ⟨c1, c2, c3, c4, c5⟩ := hen e he
    rw [key _ (by omega) (by omega), key _ (by omega) (by omega)]
    refine ⟨c1, c2, c3, c4, fun k hk => ?_⟩
    have := hte e he
    show _ = (oI (oA S1 2 t' x) 1 (nI (t' + 1))).2.2.1 2 k
    rw [key _ (by omega) (by omega), kc k (by omega)]
    exact c5 k hk
  · exact MkR_like hK (fun i h1 hi => key i (by omega) (by omega)) rfl (fun m _ => by rw [va_ne _ (by omega), va_ne _ (by omega)])
theorem whoS_lt {n i : Nat} {x : Int32} (hi : i < 32) (h : bt (whoS n x) i = true) : i < n := by
  unfold whoS at h
  rw [so_bt _ hi] at h
  simp at h
  exact h.1
theorem st_night : St_night Inv := by
  intro cs sm h
  obtain ⟨n, g, hI⟩ := h
  obtain ⟨hC, hM, hB, hR⟩ := id hI
  obtain ⟨h8, h6, hn, -⟩ := id hC
  have hI' : InvN cs (oI sm 0 0) n g := hI
  have hn' : (oI sm 0 0).2.2.1 10 0 = nI n := hM.1
  have hg' : f12_guests (oI sm 0 0) = some (nI n) := by rw [← hM.1]; rfl
  obtain ⟨t, t10, ht1, ht2, -⟩ := hB.2.2.1
  have ht2' : (oI sm 0 0).2.2.1 25 (Int32.toNatClampNeg 1) = nI t := ht2
  by_cases h0 : n = 0
  · refine ⟨-1, cs 10, oI sm 0 0, ?_, ?_, by rw [va_self]; exact ⟨n, g, hI'⟩⟩
    · unfold f11_night; rw [hn, if_pos (by rw [h0]; rfl)]; rfl
    · unfold f12_night; rw [lt_e, hg', bd_s, if_pos (by rw [h0]; rfl)]; rfl
  have hnz : ¬ nI n = 0 := nI_ne0 (by omega) (by omega)
  by_cases ht : t = 10
  · refine ⟨-1, cs 10, oI sm 0 0, ?_, ?_, by rw [va_self]; exact ⟨n, g, hI'⟩⟩
    · unfold f11_night; rw [hn, if_neg hnz, ht1, ht, if_neg (by decide)]; rfl
    · unfold f12_night; rw [lt_e, hg', bd_s, if_neg hnz, ht2', ht]; rfl
  obtain ⟨S1, p, v, k1, k2, k3, k4, k5, k6⟩ := keep_both hI'
  have htl : t < 10 := by omega
  have hw : ∀ i, i < 32 → bt (whoS n ((cs 10).1 0)) i = true → i < n := fun i hi hb => whoS_lt hi hb
  have hE := set_left (end_night k6 (k4.trans ht1) htl hw) (x := allS n) (fun i hi hb => by rw [allS_bt hi] at hb; simpa using hb)
  have a0 : p 0 = (cs 10).1 0 := k5.trans hB.1
  have a1 : p 1 = nI t := by
    obtain ⟨t', b1, b2, b3, b4⟩ := k6.2.2.1.2.2.1
    have e : S1.1 1 = nI t' := b2
    have e' : p 1 = nI t' := b3
    rw [e', ← e, k4, ht1]
  refine ⟨whoS n ((cs 10).1 0), _, _, ?_, ?_, ⟨n, g, hE⟩⟩
  · unfold f11_night f0_endNight
    rw [hn, if_neg hnz, ht1, if_pos (show nI t < 10 from nI_lt (b := 10) htl (by omega)), s4_guestsIn _ hn h8, bd_s, s4_all hn h8, bd_s, if_neg (show ¬ (10 : Int32) ≤ nI t from nI_ge (b := 10) htl (by omega)), k1, bd_s, k4, ht1, inb_nI htl (by omega), ck_t, lt_e, lt_e, lt_e, nI_clamp (by omega)]
    have e : (oA S1 2 t (whoS n ((cs 10).1 0))).1 1 + 1 = nI (t + 1) := by
      show S1.1 1 + 1 = _
      rw [k4, ht1, nI_1]
    rw [e]
    rfl
  · unfold f12_night
    rw [lt_e, hg', bd_s, if_neg hnz, ht2']
    show ck true (if nI t = 10 then _ else _) = _
    rw [ck_t, if_neg (fun h => ht (by rw [show (10 : Int32) = nI 10 from rfl, nI_eq (by omega) (by omega)] at h; exact h)), k2, bd_s]
    unfold f12_endsNight
    show bd (ck true (if (10 : Int32) ≤ p 1 then _ else _)) _ = _
    rw [ck_t, a1, if_neg (show ¬ (10 : Int32) ≤ nI t from nI_ge (b := 10) htl (by omega))]
    have hnp : (oI (sR (oI sm 0 0) 25 p) 26 v).2.2.1 10 0 = nI n := hM.1
    show bd (ck true (ck true (bd (f12_whoIn (p 0) (oI (sR (oI sm 0 0) 25 p) 26 v)) _))) _ = _
    rw [ck_t, ck_t, a0, s12_whoIn _ hnp h8, bd_s]
    have ep : (oI (sR (oI sm 0 0) 25 p) 26 v).2.2.1 25 (Int32.toNatClampNeg (0 + 1)) = nI t := a1
    rw [ep, show (0 : Int32) + 2 + nI t = nI (2 + t) from (by rw [show (0 : Int32) + 2 = nI 2 from by decide, nI_add]), inb_nI (by omega) (by omega), ck_t, lt_e, nI_clamp (by omega)]
    have eq : (oA (oI (sR (oI sm 0 0) 25 p) 26 v) 25 (2 + t) (whoS n ((cs 10).1 0))).2.2.1 25 (Int32.toNatClampNeg (0 + 1)) = nI t := by
      show upd p (2 + t) (whoS n ((cs 10).1 0)) 1 = _
      rw [pk_un (by omega), a1]
    rw [eq, nI_1]
    show bd (ck true (ck true (lt (oA (oA (oI (sR (oI sm 0 0) 25 p) 26 v) 25 (2 + t) (whoS n ((cs 10).1 0))) 25 1 (nI (t + 1))) _))) _ = _
    rw [ck_t, ck_t, lt_e]
    unfold f12_endsNight_54
    rw [s12_everyWorld (SM := oA (oA (oI (sR (oI sm 0 0) 25 p) 26 v) 25 (2 + t) (whoS n ((cs 10).1 0))) 25 1 (nI (t + 1))) hM.1 h8, bd_s]
    show bd (ck true (lt (oA (oA (oA (oI (sR (oI sm 0 0) 25 p) 26 v) 25 (2 + t) (whoS n ((cs 10).1 0))) 25 1 (nI (t + 1))) 25 0 (allS n)) _)) _ = _
    rw [ck_t, lt_e, bd_s]
    have e1 : (oA (oA (oA (oI (sR (oI sm 0 0) 25 p) 26 v) 25 (2 + t) (whoS n ((cs 10).1 0))) 25 1 (nI (t + 1))) 25 0 (allS n)).2.2.1 25 (Int32.toNatClampNeg 1) = nI (t + 1) := by
      show upd (upd (upd p (2 + t) (whoS n ((cs 10).1 0))) 1 (nI (t + 1))) 0 (allS n) 1 = _
      rw [pk_un (by omega), pk_us]
    rw [e1, show (2 : Int32) + nI (t + 1) - 1 = nI (2 + t) from (by rw [show (2 : Int32) = nI 2 from rfl, nI_add, ← Nat.add_assoc, nI_pred]), inb_nI (by omega) (by omega), nI_clamp (by omega)]
    show ck true (ck true (some (upd (upd (upd p (2 + t) (whoS n ((cs 10).1 0))) 1 (nI (t + 1))) 0 (allS n) (2 + t), _))) = _
    rw [ck_t, ck_t, pk_un (by omega), pk_un (by omega), pk_us]
