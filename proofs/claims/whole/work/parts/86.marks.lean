/-! pure: undo, hear, weather, mark -/
theorem InvN_b {cs : Nat → Ob} {sm : Ob} {n g : Nat} (h : InvN cs sm n g) {SB : Ob} {p : Nat → Int32} {v : Int32} (hB : BkR SB p 0 n g) (hU : UnR SB p v n) (hp : ∀ i, 30 ≤ i → i < 150 → p i = sm.2.2.1 25 i) : InvN (va_up cs 10 SB) (oI (sR sm 25 p) 26 v) n g := by
  obtain ⟨hC, hM, -, -, hK, hT, hO, hL, hN⟩ := h
  exact ⟨hC, hM, hB, hU, MkR_like hK hp rfl (fun m _ => va_ne _ (by omega) _), hT, hO, hL, hN⟩
theorem st_undo : St_undo Inv := by
  intro cs sm h
  obtain ⟨n, g, hI⟩ := h
  obtain ⟨hC, hM, hB, hU, hK, hT, hO, hL, hN⟩ := id hI
  obtain ⟨u, t, te, u16, t10, hu1, hu2, ht, hte, hmo, hen⟩ := id hU
  have hu2' : (oI sm 0 0).1 26 = nI u := hu2
  by_cases h0 : u = 0
  · subst h0
    refine ⟨0, cs 10, oI sm 0 0, ?_, ?_, ?_⟩
    · unfold f11_undo f0_stepBack
      rw [hu1, if_neg (by decide), bd_s]; rfl
    · unfold f12_undo
      rw [lt_e, hu2', if_pos (by decide)]
    · rw [va_self]
      exact ⟨n, g, hI⟩
  · obtain ⟨v, rfl⟩ : ∃ v, u = v + 1 := ⟨u - 1, by omega⟩
    obtain ⟨c1, c2, c3, c4, c5⟩ := hen v (by omega)
    have hv := hte v (by omega)
    obtain ⟨P, hP⟩ : ∃ P, P = fb_put (sm.2.2.1 25) (fun k => sm.2.2.1 25 (30 * (5 + v) + k)) 0 12 := ⟨_, rfl⟩
    have hq := s12_copies (SM := oI (oI sm 0 0) 26 (nI v)) (a := 30 * (5 + v)) (b := 0) (m := 12) (by omega) (by omega) (by omega)
    have hq' : f12_copies (nI (30 * (5 + v))) 0 12 (oI (oI sm 0 0) 26 (nI v)) = some (sR (oI (oI sm 0 0) 26 (nI v)) 25 P) := by rw [hP]; exact hq
    have key : ∀ i, i < 12 → P i = sm.2.2.1 25 (30 * (5 + v) + i) := fun i hi => by rw [hP]; exact fb_put_in (by omega) (by omega)
    have out : ∀ i, 12 ≤ i → P i = sm.2.2.1 25 i := fun i hi => by rw [hP]; exact fb_put_out (by omega)
    refine ⟨1, oI (oI (oI (cs 10) 6 (nI v)) 0 ((cs 10).2.2.1 7 v)) 1 ((cs 10).2.2.1 8 v), sR (oI (oI sm 0 0) 26 (nI v)) 25 P, ?_, ?_, ?_⟩
    · unfold f11_undo f0_stepBack
      rw [hu1, if_pos (show (0 : Int32) < nI (v + 1) from nI_lt (a := 0) (by omega) (by omega)), lt_e, nI_pred]
      have e : (oI (cs 10) 6 (nI v)).1 6 = nI v := rfl
      rw [e, inb_nI (by omega) (by omega), ck_t, lt_e]
      have e2 : (oI (oI (cs 10) 6 (nI v)) 0 ((oI (cs 10) 6 (nI v)).2.2.1 7 (Int32.toNatClampNeg (nI v)))).1 6 = nI v := rfl
      rw [e2, inb_nI (by omega) (by omega), ck_t, lt_e, nI_clamp (by omega), bd_s]
      rfl
    · unfold f12_undo
      rw [lt_e, hu2', if_neg (nI_ne0 (by omega) (by omega)), lt_e, nI_pred]
      have e : (oI (oI sm 0 0) 26 (nI v)).1 26 = nI v := rfl
      rw [e, nI_530, hq', bd_s]
    · refine ⟨n, g, InvN_b hI (p := P) (v := nI v) ?_ ?_ (fun i h1 _ => out i (by omega))⟩
      · refine ⟨(key 0 (by omega)).trans c1, c2, ⟨te v, by omega, c3, (key 1 (by omega)).trans c4, fun k hk => ⟨?_, ?_⟩⟩, ?_⟩
        · rw [key (0 + 2 + k) (by omega)]
          exact (congrArg (sm.2.2.1 25) (by omega)).trans (c5 k hk)
        · obtain ⟨t', b1, b2, b3, b4⟩ := hB.2.2.1
          have htt : t' = t := (nI_eq (by omega) (by omega)).mp (b2.symm.trans ht)
          exact (b4 k (by omega)).2
        · obtain ⟨q, b1, b2, b3, b4⟩ := hB.2.2.2
          refine ⟨q, b1, b2, (out _ (by omega)).trans b3, fun k hk => ⟨(b4 k hk).1, (out _ (by omega)).trans (b4 k hk).2.1, (b4 k hk).2.2.1, (out _ (by omega)).trans (b4 k hk).2.2.2⟩⟩
      · refine ⟨v, te v, te, by omega, by omega, rfl, rfl, c3, fun e he => hmo e v (by omega) (by omega), fun e f hef hf => hmo e f hef (by omega), fun e he => ?_⟩
        obtain ⟨d1, d2, d3, d4, d5⟩ := hen e (by omega)
        exact ⟨(out _ (by omega)).trans d1, d2, d3, (out _ (by omega)).trans d4, fun k hk => (out _ (by omega)).trans (d5 k hk)⟩
theorem hear_inv {cs : Nat → Ob} {sm : Ob} {n g q s : Nat} {x : Int32} (h : InvN cs sm n g) (hq : (cs 10).1 3 = nI q) (q8 : q < 8) (hs : s < g) (hx : x = 0 ∨ x = 1) : InvN (va_up cs 10 (oI (oA (oA (cs 10) 4 q (nI s)) 5 q x) 3 (nI (q + 1)))) (oI (sR sm 25 (upd (upd (upd (sm.2.2.1 25) (13 + 2 * q) (nI s)) (13 + 2 * q + 1) x) 12 (nI (q + 1)))) 26 (sm.1 26)) n g := by
  obtain ⟨hC, hM, hB, hU, hK, hT, hO, hL, hN⟩ := id h
  obtain ⟨P, hP⟩ : ∃ P, P = upd (upd (upd (sm.2.2.1 25) (13 + 2 * q) (nI s)) (13 + 2 * q + 1) x) 12 (nI (q + 1)) := ⟨_, rfl⟩
  have key : ∀ i, i ≠ 12 → i ≠ 13 + 2 * q → i ≠ 13 + 2 * q + 1 → P i = sm.2.2.1 25 i := fun i a b c => by
    rw [hP, pk_un a, pk_un c, pk_un b]
  have k0 : P 12 = nI (q + 1) := by rw [hP, pk_us]
  have k1 : P (13 + 2 * q) = nI s := by rw [hP, pk_un (by omega), pk_un (by omega), pk_us]
  have k2 : P (13 + 2 * q + 1) = x := by rw [hP, pk_un (by omega), pk_us]
  rw [← hP]
  have r4 : ∀ k, (oI (oA (oA (cs 10) 4 q (nI s)) 5 q x) 3 (nI (q + 1))).2.2.1 4 k = upd ((cs 10).2.2.1 4) q (nI s) k := fun _ => rfl
  have r5 : ∀ k, (oI (oA (oA (cs 10) 4 q (nI s)) 5 q x) 3 (nI (q + 1))).2.2.1 5 k = upd ((cs 10).2.2.1 5) q x k := fun _ => rfl
  refine InvN_b h ?_ ?_ (fun i h1 h2 => key i (by omega) (by omega) (by omega))
  · refine ⟨(key 0 (by omega) (by omega) (by omega)).trans hB.1, hB.2.1, ?_, ?_⟩
    · obtain ⟨t, b1, b2, b3, b4⟩ := hB.2.2.1
      exact ⟨t, b1, b2, (key _ (by omega) (by omega) (by omega)).trans b3, fun k hk => ⟨(key _ (by omega) (by omega) (by omega)).trans (b4 k hk).1, (b4 k hk).2⟩⟩
    · obtain ⟨q', b1, b2, b3, b4⟩ := hB.2.2.2
      have e : q' = q := (nI_eq (by omega) (by omega)).mp (b2.symm.trans hq)
      subst e
      refine ⟨q' + 1, by omega, rfl, k0, fun k hk => ?_⟩
      rw [r4, r5]
      by_cases hkq : k = q'
      · subst hkq
        rw [pk_us, pk_us]
        refine ⟨⟨s, hs, rfl⟩, ?_, hx, ?_⟩
        · rw [Nat.zero_add]; exact k1
        · rw [Nat.zero_add]; exact k2
      · rw [pk_un hkq, pk_un hkq]
        obtain ⟨d1, d2, d3, d4⟩ := b4 k (by omega)
        exact ⟨d1, (key _ (by omega) (by omega) (by omega)).trans d2, d3, (key _ (by omega) (by omega) (by omega)).trans d4⟩
  · obtain ⟨u, t, te, u16, t10, hu1, hu2, ht, hte, hmo, hen⟩ := hU
    refine ⟨u, t, te, u16, t10, hu1, hu2, ht, hte, hmo, fun e he => ?_⟩
    obtain ⟨d1, d2, d3, d4, d5⟩ := hen e he
    exact ⟨(key _ (by omega) (by omega) (by omega)).trans d1, d2, d3, (key _ (by omega) (by omega) (by omega)).trans d4, fun k hk => (key _ (by omega) (by omega) (by omega)).trans (d5 k hk)⟩
theorem st_hear : St_hear Inv := by
  intro cs sm x1 x2 h hx2
  obtain ⟨n, g, hI⟩ := h
  obtain ⟨hC, hM, hB, hR⟩ := id hI
  obtain ⟨h8, h6, hn, hg, -⟩ := id hC
  have hI' : InvN cs (oI sm 0 0) n g := hI
  have hs' : f12_signs (oI sm 0 0) = some (nI g) := by rw [← hM.2.1]; rfl
  obtain ⟨q, q8, hq1, hq2, -⟩ := hB.2.2.2
  have hq2' : (oI sm 0 0).2.2.1 25 (Int32.toNatClampNeg 12) = nI q := hq2
  have no : (x1 < 0 ∨ nI g ≤ x1) → ∃ (r : Int32) (SB : Ob) (sm1 : Ob), f11_hear x1 x2 (cs 0) (cs 8) (cs 10) = some (r, SB) ∧ f12_hear x1 x2 sm = some (r, sm1) ∧ Inv (va_up cs 10 SB) sm1 := by
    intro hno
    refine ⟨0, cs 10, oI sm 0 0, ?_, ?_, by rw [va_self]; exact ⟨n, g, hI'⟩⟩
    · unfold f11_hear
      rw [s4_hasSign_no hg hno]; rfl
    · unfold f12_hear
      rw [lt_e, hs', bd_s, s12_within_no hno (by omega)]; rfl
  rcases pk_ix x1 (n := g) (by omega) with hx | hx | ⟨s, hs, rfl⟩
  · exact no (Or.inl hx)
  · exact no (Or.inr hx)
  by_cases hq : q = 8
  · subst hq
    refine ⟨0, cs 10, oI sm 0 0, ?_, ?_, by rw [va_self]; exact ⟨n, g, hI'⟩⟩
    · unfold f11_hear f0_hearAlso
      rw [s4_hasSign_yes hg hs (by omega), bd_s, if_neg (by decide), hq1]; rfl
    · unfold f12_hear
      rw [lt_e, hs', bd_s, s12_within_yes hs (by omega), bd_s, if_neg (by decide), hq2']; rfl
  · have hE := hear_inv hI' hq1 (by omega) hs hx2
    refine ⟨1, _, _, ?_, ?_, ⟨n, g, hE⟩⟩
    · unfold f11_hear f0_hearAlso
      rw [s4_hasSign_yes hg hs (by omega), bd_s, if_neg (by decide), hq1, if_pos (show nI q < 8 from nI_lt (b := 8) (by omega) (by omega)), inb_nI (by omega) (by omega), ck_t, lt_e]
      have e : (oA (cs 10) 4 (Int32.toNatClampNeg (nI q)) (nI s)).1 3 = nI q := hq1
      rw [e, inb_nI (by omega) (by omega), ck_t, lt_e, lt_e, nI_clamp (by omega), bd_s, nb_01 hx2]
      have e2 : (oA (oA (cs 10) 4 q (nI s)) 5 q x2).1 3 + 1 = nI (q + 1) := by
        show (cs 10).1 3 + 1 = _
        rw [hq1, nI_1]
      rw [e2]
      rfl
    · have i1 : (13 : Int32) + 2 * nI q = nI (13 + 2 * q) := by rw [show (2 : Int32) = nI 2 from rfl, show (13 : Int32) = nI 13 from rfl, pk_mul, nI_add]
      unfold f12_hear
      rw [lt_e, hs', bd_s, s12_within_yes hs (by omega), bd_s, if_neg (by decide), hq2']
      show ck true (if nI q = 8 then _ else ck true _) = _
      rw [ck_t, ck_t, if_neg (fun h => hq (by rw [show (8 : Int32) = nI 8 from rfl, nI_eq (by omega) (by omega)] at h; exact h)), i1, inb_nI (by omega) (by omega), ck_t, lt_e, nI_clamp (by omega)]
      have e : (oA (oI sm 0 0) 25 (13 + 2 * q) (nI s)).2.2.1 25 (Int32.toNatClampNeg 12) = nI q := by
        show upd (sm.2.2.1 25) (13 + 2 * q) (nI s) 12 = _
        rw [pk_un (by omega)]; exact hq2
      rw [e, i1, nI_1]
      have fin : ∀ y, f12_hear_78 (nI (13 + 2 * q + 1)) y (oA (oI sm 0 0) 25 (13 + 2 * q) (nI s)) = some (1, oI (sR (oI sm 0 0) 25 (upd (upd (upd ((oI sm 0 0).2.2.1 25) (13 + 2 * q) (nI s)) (13 + 2 * q + 1) y) 12 (nI (q + 1)))) 26 ((oI sm 0 0).1 26)) := by
        intro y
        unfold f12_hear_78
        rw [inb_nI (by omega) (by omega), ck_t, lt_e, nI_clamp (by omega)]
        show ck true (ck true (lt (oA (oA (oA (oI sm 0 0) 25 (13 + 2 * q) (nI s)) 25 (13 + 2 * q + 1) y) 25 12 (upd (upd (sm.2.2.1 25) (13 + 2 * q) (nI s)) (13 + 2 * q + 1) y 12 + 1)) _)) = _
        rw [ck_t, ck_t, lt_e, pk_un (by omega), pk_un (by omega)]
        have e3 : sm.2.2.1 25 12 = nI q := hq2
        rw [e3, nI_1, oA_sR (oI sm 0 0) 25 (13 + 2 * q) (nI s), sR_oA, sR_oA]
        have e4 : ∀ S : Ob, oI S 26 (S.1 26) = S := fun S => by
          unfold oI; rw [va_self]
        have e5 := e4 (sR (oI sm 0 0) 25 (upd (upd (upd ((oI sm 0 0).2.2.1 25) (13 + 2 * q) (nI s)) (13 + 2 * q + 1) y) 12 (nI (q + 1))))
        exact congrArg (fun z => some ((1 : Int32), z)) e5.symm
      show ck true (if x2 = 0 then _ else _) = _
      rw [ck_t]
      rcases hx2 with rfl | rfl
      · rw [if_pos rfl]; exact fin 0
      · rw [if_neg (by decide)]; exact fin 1
theorem wea_eq : ∀ n, n < 9 → ∀ w, w < 4 → fl (fun k (a : Int32) => a ||| (1 <<< ((nI (4 * k) + nI w) &&& 31))) n 0 = allS n &&& (286331153 <<< (nI w &&& 31)) := by decide +kernel
theorem s12_soOf_w {SM : Ob} {n w : Nat} (hn : SM.2.2.1 10 0 = nI n) (h8 : n ≤ 8) (hw : w < 4) : f12_soOf (nI w) SM = some (allS n &&& (286331153 <<< (nI w &&& 31))) := by
  rw [← wea_eq n (by omega) w hw]
  refine loop_fl (fun m j a => f12_soOf_4 m (nI w) a (nI j) SM) (fun k (a : Int32) => a ||| (1 <<< ((nI (4 * k) + nI w) &&& 31))) some n 0 ?_ ?_ FU 0 (Nat.zero_le _) (FU_lt (by omega))
  · intro m
    show f12_soOf_4 (m + 1) _ _ (nI n) SM = _
    rw [f12_soOf_4, s12_guests, hn, bd_s, if_pos (nI_le (Nat.le_refl n) (by omega))]
  · intro m j hj
    show f12_soOf_4 (m + 1) _ _ (nI j) SM = f12_soOf_4 m _ _ (nI (j + 1)) SM
    have ne : ∀ c, 4 ≤ c → c < 8 → ¬ nI w = nI c := fun c h1 h2 h => by
      rw [nI_eq (by omega) (by omega)] at h; omega
    have g1 : f12_guestOf (nI j) 1 SM = some (SM.2.2.1 10 (3 + 5 * j + 1)) := s12_guestOf (k := 1) (by omega) (by omega)
    have g2 : f12_guestOf (nI j) 2 SM = some (SM.2.2.1 10 (3 + 5 * j + 2)) := s12_guestOf (k := 2) (by omega) (by omega)
    have h91 : ∀ z a, f12_soOf_91 (f12_soOf_4 m) (nI w) a (nI j) z SM = f12_soOf_4 m (nI w) (a ||| (1 <<< ((nI (4 * j) + nI w) &&& 31))) (nI (j + 1)) SM := by
      intro z a
      unfold f12_soOf_91 f12_soOf_122
      rw [if_neg (show ¬ (4 : Int32) ≤ nI w from nI_ge (b := 4) hw (by omega)), lt_e, lt_e, nI_4', nI_1]
    rw [f12_soOf_4, s12_guests, hn, bd_s, if_neg (nI_ge hj (by omega)), g1, bd_s, if_neg (show ¬ nI w = 4 from ne 4 (by omega) (by omega)), if_neg (show ¬ nI w = 5 from ne 5 (by omega) (by omega)), if_neg (show ¬ nI w = 6 from ne 6 (by omega) (by omega)), g2, bd_s, h91, h91]
    exact ite_id _
theorem st_weather : St_weather Inv := by
  intro cs sm x1 h
  obtain ⟨n, g, hI⟩ := h
  obtain ⟨hC, hM, hR⟩ := id hI
  obtain ⟨h8, h6, hn, -⟩ := id hC
  have hI' : InvN cs (oI sm 0 0) n g := hI
  have hn' : (oI sm 0 0).2.2.1 10 0 = nI n := hM.1
  rcases pk_ix x1 (n := 4) (by omega) with hx | hx | ⟨w, hw, rfl⟩
  · refine ⟨-1, cs 10, oI sm 0 0, ?_, ?_, by rw [va_self]; exact ⟨n, g, hI'⟩⟩
    · unfold f11_weather
      rw [if_pos hx]; rfl
    · unfold f12_weather
      rw [lt_e, s12_withinL_no (Or.inl hx)]; rfl
  · have h3 : (3 : Int32) < x1 := by
      rw [Int32.le_iff_toInt_le] at hx; rw [Int32.lt_iff_toInt_lt]
      have : (nI 4).toInt = 4 := by decide
      have : (3 : Int32).toInt = 3 := by decide
      omega
    have h0 : ¬ x1 < 0 := by
      rw [Int32.le_iff_toInt_le] at hx; rw [Int32.lt_iff_toInt_lt]
      have : (nI 4).toInt = 4 := by decide
      have : (0 : Int32).toInt = 0 := by decide
      omega
    have h4 : ¬ x1 < 4 := by
      rw [Int32.le_iff_toInt_le] at hx; rw [Int32.lt_iff_toInt_lt]
      have : (nI 4).toInt = 4 := by decide
      have : (4 : Int32).toInt = 4 := by decide
      omega
    refine ⟨-1, cs 10, oI sm 0 0, ?_, ?_, by rw [va_self]; exact ⟨n, g, hI'⟩⟩
    · unfold f11_weather
      rw [if_neg h0, if_neg h4]; rfl
    · unfold f12_weather
      rw [lt_e, s12_withinL_no (Or.inr h3)]; rfl
  · obtain ⟨r, SB, sm1, e1, e2, e3⟩ := leave_both hI' (cs 0) (allS n &&& (286331153 <<< (nI w &&& 31)))
    refine ⟨r, SB, sm1, ?_, ?_, n, g, e3⟩
    · unfold f11_weather f4_worldsBy
      have e18 : (18 : Int32) + nI w = nI (18 + w) := by rw [show (18 : Int32) = nI 18 from rfl, nI_add]
      rw [if_neg (nI_pos (by omega)), if_pos (show nI w < 4 from nI_lt (b := 4) hw (by omega)), e18, if_neg (show ¬ nI (18 + w) < 18 from nI_nlt (b := 18) (by omega) (by omega)), if_neg (show ¬ (21 : Int32) < nI (18 + w) from nI_nlt (a := 21) (by omega) (by omega)), s4_all hn h8, bd_s, bd_s, show (18 : Int32) = nI 18 from rfl, pk_sub (by omega), Nat.add_sub_cancel_left, e1, bd_s]
    · unfold f12_weather
      rw [lt_e, s12_withinL_yes (nI_pos (by omega)) (show ¬ (3 : Int32) < nI w from nI_nlt (a := 3) (by omega) (by omega)), bd_s, if_neg (by decide), s12_soOf_w hn' h8 hw, bd_s, e2, bd_s]
      rfl
