/-! pure: signs worked out at both -/
theorem b_put (b : Bool) {s i : Nat} (hs : s < 32) (hi : i < 32) : bt ((if b then (1 : Int32) else 0) <<< (nI s &&& 31)) i = (b && decide (i = s)) := by
  cases b
  · show bt ((0 : Int32) <<< (nI s &&& 31)) i = _
    rw [b_shl s hs 0 hi, b_0]
    simp
  · show bt ((1 : Int32) <<< (nI s &&& 31)) i = _
    rw [b_one hs hi]
    simp
theorem so_put {P : Nat → Bool} {s : Nat} (hs : s < 32) (b : Bool) : so (fun q => decide (q < s) && P q) ||| ((if b then (1 : Int32) else 0) <<< (nI s &&& 31)) = so (fun q => decide (q < s + 1) && (if q = s then b else P q)) := so_eq (fun i hi => by
  rw [b_or, so_bt _ hi, b_put b hs hi]
  by_cases h : i = s
  · subst h; simp
  · by_cases h2 : i < s
    · have h3 : i < s + 1 := by omega
      simp [h, h2, h3]
    · have h3 : ¬ i < s + 1 := by omega
      simp [h, h2, h3])
theorem c_letShow {SI : Ob} {s : Nat} (hs : s < 6) (v : Int32) (h12 : ∀ w, w < 32 → SI.2.2.1 12 w = so (fun q => decide (q < s) && bt (SI.2.2.1 11 q) w)) : ∃ SI', f4_letShow (nI s) v SI = some SI' ∧ SI'.1 = SI.1 ∧ SI'.2.1 = SI.2.1 ∧ SI'.2.2.2 = SI.2.2.2 ∧ (∀ k, k ≠ 11 → k ≠ 12 → SI'.2.2.1 k = SI.2.2.1 k) ∧ SI'.2.2.1 11 = upd (SI.2.2.1 11) s v ∧ ∀ w, w < 32 → SI'.2.2.1 12 w = so (fun q => decide (q < s + 1) && bt (upd (SI.2.2.1 11) s v q) w) := by
  unfold f4_letShow
  rw [inb_nI hs (by omega), ck_t, lt_e, nI_clamp (by omega)]
  obtain ⟨S', e, c1, c2, c3, c4, c5, c6⟩ := loop_inv (fun m k S => f4_letShow_9 m (nI s) v (nI k) S) (fun k S => S.1 = SI.1 ∧ S.2.1 = SI.2.1 ∧ S.2.2.2 = SI.2.2.2 ∧ (∀ j, j ≠ 11 → j ≠ 12 → S.2.2.1 j = SI.2.2.1 j) ∧ S.2.2.1 11 = upd (SI.2.2.1 11) s v ∧ (∀ w, w < k → S.2.2.1 12 w = so (fun q => decide (q < s + 1) && bt (upd (SI.2.2.1 11) s v q) w)) ∧ ∀ w, k ≤ w → S.2.2.1 12 w = SI.2.2.1 12 w) (fun S => S.1 = SI.1 ∧ S.2.1 = SI.2.1 ∧ S.2.2.2 = SI.2.2.2 ∧ (∀ j, j ≠ 11 → j ≠ 12 → S.2.2.1 j = SI.2.2.1 j) ∧ S.2.2.1 11 = upd (SI.2.2.1 11) s v ∧ ∀ w, w < 32 → S.2.2.1 12 w = so (fun q => decide (q < s + 1) && bt (upd (SI.2.2.1 11) s v q) w)) 32
    (by
      intro m S ⟨c1, c2, c3, c4, c5, c6, _⟩
      refine ⟨S, ?_, c1, c2, c3, c4, c5, c6⟩
      show f4_letShow_9 (m + 1) (nI s) v (nI 32) S = _
      rw [f4_letShow_9, if_pos (show (32 : Int32) ≤ nI 32 by decide)])
    (by
      intro m k S hk ⟨c1, c2, c3, c4, c5, c6, c7⟩
      have ev : S.2.2.1 12 k ||| (((ush v (nI k)) &&& 1) <<< (nI s &&& 31)) = so (fun q => decide (q < s + 1) && bt (upd (SI.2.2.1 11) s v q) k) := by
        rw [c7 k (Nat.le_refl _), h12 k hk, bit_u (by omega), so_put (by omega)]
        refine so_cong (fun q _ => ?_)
        by_cases hq : q = s
        · rw [if_pos hq, hq, pk_us]
        · rw [if_neg hq, pk_un hq]
      refine ⟨oA S 12 k (so (fun q => decide (q < s + 1) && bt (upd (SI.2.2.1 11) s v q) k)), ⟨c1, c2, c3, fun j j1 j2 => ?_, c5, fun w hw => ?_, fun w hw => ?_⟩, ?_⟩
      · show va_up S.2.2.1 12 _ j = _
        rw [va_ne _ j2]; exact c4 j j1 j2
      · show upd (S.2.2.1 12) k _ w = _
        by_cases hwk : w = k
        · rw [hwk, pk_us]
        · rw [pk_un hwk]; exact c6 w (by omega)
      · show upd (S.2.2.1 12) k _ w = _
        rw [pk_un (by omega)]; exact c7 w (by omega)
      · show f4_letShow_9 (m + 1) (nI s) v (nI k) S = f4_letShow_9 m (nI s) v (nI (k + 1)) _
        rw [f4_letShow_9, if_neg (show ¬ (32 : Int32) ≤ nI k from nI_ge (b := 32) hk (by omega)), inb_nI hk (by omega), ck_t, ck_t, nI_clamp (by omega), ev, lt_e, lt_e, nI_1])
    FU 0 (oA SI 11 s v) (Nat.zero_le _) (FU_lt (by omega)) ⟨rfl, rfl, rfl, fun j j1 _ => va_ne _ j1 _, rfl, fun w hw => absurd hw (by omega), fun _ _ => rfl⟩
  exact ⟨S', e, c1, c2, c3, c4, c5, c6⟩
/-- the codes of the signs, where they stay -/
def SgQ (SR SC SM : Ob) (n g : Nat) : Prop := ∀ q, q < g → ∃ (L : List (Nat × Nat)) (a n0 r0 : Nat), SR.2.2.1 2 q = nI a ∧ SR.2.2.1 3 q = nI (a + L.length) ∧ SM.2.2.1 10 (43 + 2 * q + 1) = nI r0 ∧ CdAt SC a L ∧ a + L.length ≤ 1000 ∧ CdBt (SM.2.2.1 11) (SM.2.2.1 12) r0 L ∧ r0 + L.length < 3300 ∧ WfA L 12 ∧ LvA n0 q L ∧ n0 ≤ n
def SgI (n s : Nat) (SC0 SI0 SM0 SC SI SM : Ob) : Prop :=
  FrS SC0 SC ∧ (SI.1 = SI0.1 ∧ SI.2.1 = SI0.2.1 ∧ SI.2.2.2 = SI0.2.2.2 ∧ ∀ k, k ≠ 11 → k ≠ 12 → SI.2.2.1 k = SI0.2.2.1 k) ∧ (∀ w, w < 32 → SI.2.2.1 12 w = so (fun q => decide (q < s) && bt (SI.2.2.1 11 q) w)) ∧ (∀ q, q < s → SM.2.2.1 28 q = SI.2.2.1 11 q ∧ SI.2.2.1 11 q &&& allS n = SI.2.2.1 11 q) ∧ SM.1 = SM0.1 ∧ SM.2.1 = SM0.2.1 ∧ SM.2.2.2 = SM0.2.2.2 ∧ ∀ k, k ≠ 24 → k ≠ 28 → SM.2.2.1 k = SM0.2.2.1 k
theorem signs_both {SR SG SC0 SI0 SM0 : Ob} {n g : Nat} (hg : GsR SI0 (SM0.2.2.1 10) n) (h6 : g ≤ 6) (h8 : SI0.1 8 = nI g) (h1 : SM0.2.2.1 10 1 = nI g) (hq : SgQ SR SC0 SM0 n g) : ∀ d s m1 m2 SC SI SM, s + d = g → d < m1 → d < m2 → SgI n s SC0 SI0 SM0 SC SI SM → ∃ SC' SI' SM', f9_workOut_2 m1 (nI s) SR SG SC SI = f9_workOut_50 SR SG SC' SI' ∧ f12_begins_2 m2 (nI s) SM = f12_begins_41 FU 0 SM' ∧ SgI n g SC0 SI0 SM0 SC' SI' SM' := by
  intro d
  induction d with
  | zero =>
    intro s m1 m2 SC SI SM hs hm1 hm2 hI
    obtain ⟨m1, rfl⟩ : ∃ k, m1 = k + 1 := ⟨m1 - 1, by omega⟩
    obtain ⟨m2, rfl⟩ : ∃ k, m2 = k + 1 := ⟨m2 - 1, by omega⟩
    have hsg : s = g := by omega
    obtain ⟨i1, ⟨i2, i3, i4, i5⟩, i6, i7, i8, i9, i10, i11⟩ := id hI
    refine ⟨SC, SI, SM, ?_, ?_, by rw [hsg] at hI; exact hI⟩
    · rw [f9_workOut_2, i2, h8, if_pos (nI_le (by omega) (by omega))]
    · rw [f12_begins_2, s12_signs, bd_s, i11 10 (by omega) (by omega), h1, if_pos (nI_le (by omega) (by omega))]
  | succ d ih =>
    intro s m1 m2 SC SI SM hs hm1 hm2 hI
    obtain ⟨m1, rfl⟩ : ∃ k, m1 = k + 1 := ⟨m1 - 1, by omega⟩
    obtain ⟨m2, rfl⟩ : ∃ k, m2 = k + 1 := ⟨m2 - 1, by omega⟩
    have hsg : s < g := by omega
    obtain ⟨i1, ⟨i2, i3, i4, i5⟩, i6, i7, i8, i9, i10, i11⟩ := id hI
    obtain ⟨L, a, n0, r0, d1, d2, d3, d4, d5, d6, d7, d8, d9, d10⟩ := hq s hsg
    have hG : GsR SI (SM.2.2.1 10) n := by
      unfold GsR
      rw [i2, i5 3 (by omega) (by omega), i5 4 (by omega) (by omega), i11 10 (by omega) (by omega)]; exact hg
    have hC : CdAt SC a L := fun k x hx => by
      rw [i1.2.2.1 0 (by omega), i1.2.2.1 1 (by omega)]; exact d4 k x hx
    have hB : CdBt (SM.2.2.1 11) (SM.2.2.1 12) r0 L := by
      rw [i11 11 (by omega) (by omega), i11 12 (by omega) (by omega)]; exact d6
    obtain ⟨v, p, SC1, v1, v2, v3, v4⟩ := worlds_both (SC := SC) hG d8 (by omega) d9 d10 (Nat.le_of_lt hsg) h6 (by rw [i2]; exact h8) i7 hC d5 hB d7
    obtain ⟨SI1, w1, w2, w3, w4, w5, w6, w7⟩ := c_letShow (s := s) (by omega) v i6
    have e43 : ((43 : Int32) + 2 * nI s) + 1 = nI (43 + 2 * s + 1) := by rw [show (43 : Int32) = nI 43 from rfl, show (2 : Int32) = nI 2 from rfl, pk_mul, nI_add, nI_1]
    have hI' : SgI n (s + 1) SC0 SI0 SM0 SC1 SI1 (oA (sR SM 24 p) 28 s v) := by
      refine ⟨FrS_tr i1 v2, ⟨w2.trans i2, w3.trans i3, w4.trans i4, fun k k1 k2 => (w5 k k1 k2).trans (i5 k k1 k2)⟩, fun w hw => by rw [w7 w hw, w6], fun q hq' => ?_, i8, i9, i10, fun k k1 k2 => ?_⟩
      · show upd (SM.2.2.1 28) s v q = _ ∧ _
        rw [w6]
        by_cases hqs : q = s
        · rw [hqs, pk_us, pk_us]; exact ⟨rfl, v4⟩
        · rw [pk_un hqs, pk_un hqs]; exact i7 q (by omega)
      · show va_up (va_up SM.2.2.1 24 p) 28 _ k = _
        rw [va_ne _ k2, va_ne _ k1]; exact i11 k k1 k2
    obtain ⟨SC', SI', SM', o1, o2, o3⟩ := ih (s + 1) m1 m2 SC1 SI1 (oA (sR SM 24 p) 28 s v) (by omega) (by omega) (by omega) hI'
    refine ⟨SC', SI', SM', ?_, ?_, o3⟩
    · rw [f9_workOut_2, i2, h8, if_neg (nI_ge hsg (by omega)), if_neg (show ¬ (6 : Int32) ≤ nI s from nI_ge (b := 6) (by omega) (by omega)), inb_nI (show s < 6 by omega) (by omega), ck_t, ck_t, nI_clamp (by omega), d1, d2, v1, bd_s]
      show bd (f4_letShow (nI s) v SI) _ = _
      rw [w1, bd_s, lt_e, nI_1]
      exact o1
    · rw [f12_begins_2, s12_signs, bd_s, i11 10 (by omega) (by omega), h1, if_neg (nI_ge hsg (by omega)), e43, inb_nI (show 43 + 2 * s + 1 < 120 by omega) (by omega), ck_t, nI_clamp (by omega), d3, v3, bd_s, inb_nI (show s < 6 by omega) (by omega), ck_t, lt_e, lt_e, nI_clamp (by omega), nI_1]
      exact o2
theorem r_begins {SM : Ob} {n g : Nat} (hn : SM.2.2.1 10 0 = nI n) (h8 : n ≤ 8) (hg : SM.2.2.1 10 1 = nI g) (h6 : g ≤ 6) : ∃ SM', f12_begins_41 FU 0 SM = some SM' ∧ (∀ k, k ≠ 26 → SM'.1 k = SM.1 k) ∧ SM'.1 26 = 0 ∧ SM'.2.1 = SM.2.1 ∧ SM'.2.2.2 = SM.2.2.2 ∧ (∀ k, k ≠ 22 → k ≠ 25 → k ≠ 27 → k ≠ 29 → SM'.2.2.1 k = SM.2.2.1 k) ∧ (∀ w, w < 32 → SM'.2.2.1 29 w = so (fun q => decide (q < g) && bt (SM.2.2.1 28 q) w)) ∧ SM'.2.2.1 25 0 = allS n ∧ SM'.2.2.1 25 1 = 0 ∧ SM'.2.2.1 25 12 = 0 ∧ SM'.2.2.1 22 0 = 0 ∧ ∀ k, k < 4 → SM'.2.2.1 27 k = 0 := by
  obtain ⟨S1, ⟨p, hp, hp2⟩, e1⟩ := loop_to (fun m w S => f12_begins_41 m (nI w) S) (fun w S => ∃ p, S = sR SM 29 p ∧ ∀ j, j < w → p j = so (fun q => decide (q < g) && bt (SM.2.2.1 28 q) j)) (fun S => bd (f12_starts 0 S) fun r_2 => ck (inb 12 660) <| lt (oA r_2 25 (Int32.toNatClampNeg 12) 0 : Ob) fun SM_5 => ck (inb 0 160) <| lt (oA SM_5 22 (Int32.toNatClampNeg 0) 0 : Ob) fun SM_7 => lt (oI SM_7 26 0 : Ob) fun SM_8 => f12_begins_124 FU 0 SM_8) 32
    (by
      intro m S _
      show f12_begins_41 (m + 1) (nI 32) S = _
      rw [f12_begins_41, if_pos (show (32 : Int32) ≤ nI 32 by decide)])
    (by
      intro m w S hw ⟨p, hS, hp⟩
      obtain ⟨S2, ⟨p2, hS2, hp2, hp3⟩, e2⟩ := loop_to (fun m' k S => f12_begins_56 (f12_begins_41 m) m' (nI w) (nI k) S) (fun k S => ∃ p', S = sR SM 29 p' ∧ (∀ j, j ≠ w → p' j = p j) ∧ p' w = so (fun q => decide (q < k) && bt (SM.2.2.1 28 q) w)) (fun S => f12_begins_41 m (nI (w + 1)) S) g
        (by
          intro m' S ⟨p', h1, _⟩
          show f12_begins_56 (f12_begins_41 m) (m' + 1) (nI w) (nI g) S = _
          rw [f12_begins_56, s12_signs, bd_s, h1, sR_off SM (show 10 ≠ 29 by omega), hg, if_pos (nI_le (Nat.le_refl _) (by omega)), lt_e, nI_1])
        (by
          intro m' k S hk ⟨p', h1, h2, h3⟩
          have ev : p' w ||| (((SM.2.2.1 28 k >>> (nI w &&& 31)) &&& 1) <<< (nI k &&& 31)) = so (fun q => decide (q < k + 1) && bt (SM.2.2.1 28 q) w) := by
            rw [h3, bit_s hw, so_put (by omega)]
            refine so_cong (fun q _ => ?_)
            by_cases hq : q = k
            · rw [if_pos hq, hq]
            · rw [if_neg hq]
          refine ⟨sR SM 29 (upd p' w (so (fun q => decide (q < k + 1) && bt (SM.2.2.1 28 q) w))), ⟨_, rfl, fun j hj => ?_, pk_us⟩, ?_⟩
          · rw [pk_un hj]; exact h2 j hj
          · show f12_begins_56 (f12_begins_41 m) (m' + 1) (nI w) (nI k) S = f12_begins_56 (f12_begins_41 m) m' (nI w) (nI (k + 1)) _
            rw [f12_begins_56, s12_signs, bd_s, h1, sR_off SM (show 10 ≠ 29 by omega), hg, if_neg (nI_ge hk (by omega)), inb_nI hw (by omega), ck_t, inb_nI (show k < 6 by omega) (by omega), ck_t, ck_t, lt_e, lt_e, nI_clamp (by omega), nI_clamp (by omega), nI_1, sR_at, sR_off SM (show 28 ≠ 29 by omega), ev, sR_oA])
        FU 0 (oA S 29 w 0) (Nat.zero_le _) (FU_lt (by omega)) ⟨upd p w 0, by rw [hS, sR_oA], fun j hj => pk_un hj, by
          rw [pk_us]
          exact so_eq (fun i hi => by rw [b_0]; simp)⟩
      have e2' : f12_begins_56 (f12_begins_41 m) FU (nI w) 0 (oA S 29 w 0) = _ := e2
      refine ⟨S2, ⟨p2, hS2, fun j hj => ?_⟩, ?_⟩
      · by_cases hjw : j = w
        · rw [hjw]; exact hp3
        · rw [hp2 j hjw]; exact hp j (by omega)
      · show f12_begins_41 (m + 1) (nI w) S = f12_begins_41 m (nI (w + 1)) S2
        rw [f12_begins_41, if_neg (show ¬ (32 : Int32) ≤ nI w from nI_ge (b := 32) hw (by omega)), inb_nI hw (by omega), ck_t, lt_e, nI_clamp (by omega), e2'])
    FU 0 SM (Nat.zero_le _) (FU_lt (by omega)) ⟨SM.2.2.1 29, by unfold sR; rw [va_self], fun j hj => absurd hj (by omega)⟩
  have e1' : f12_begins_41 FU 0 SM = _ := e1
  rw [e1']
  unfold f12_starts
  rw [s12_everyWorld (n := n) (by rw [hp, sR_off SM (show 10 ≠ 29 by omega)]; exact hn) h8, bd_s, show inb ((0 : Int32) + 0) 660 = true from rfl, ck_t, lt_e, show inb ((0 : Int32) + 1) 660 = true from rfl, ck_t, lt_e, bd_s, show inb 12 660 = true from rfl, ck_t, lt_e, show inb 0 160 = true from rfl, ck_t, lt_e, lt_e]
  show ∃ SM', f12_begins_124 FU 0 (oI (oA (oA (oA (oA S1 25 0 (allS n)) 25 1 0) 25 12 0) 22 0 0) 26 0) = some SM' ∧ _
  obtain ⟨S8, hS8⟩ : ∃ S, S = oI (oA (oA (oA (oA S1 25 0 (allS n)) 25 1 0) 25 12 0) 22 0 0) 26 0 := ⟨_, rfl⟩
  rw [← hS8]
  obtain ⟨S9, e9, q, hq, hq2⟩ := loop_inv (fun m k S => f12_begins_124 m (nI k) S) (fun k S => ∃ q, S = sR S8 27 q ∧ ∀ j, j < k → q j = 0) (fun S => ∃ q, S = sR S8 27 q ∧ ∀ j, j < 4 → q j = 0) 4
    (by
      intro m S h
      refine ⟨S, ?_, h⟩
      show f12_begins_124 (m + 1) (nI 4) S = _
      rw [f12_begins_124, if_pos (show (4 : Int32) ≤ nI 4 by decide)])
    (by
      intro m k S hk ⟨q, h1, h2⟩
      refine ⟨sR S8 27 (upd q k 0), ⟨_, rfl, fun j hj => ?_⟩, ?_⟩
      · by_cases hjk : j = k
        · rw [hjk, pk_us]
        · rw [pk_un hjk]; exact h2 j (by omega)
      · show f12_begins_124 (m + 1) (nI k) S = f12_begins_124 m (nI (k + 1)) _
        rw [f12_begins_124, if_neg (show ¬ (4 : Int32) ≤ nI k from nI_ge (b := 4) hk (by omega)), inb_nI hk (by omega), ck_t, lt_e, lt_e, nI_clamp (by omega), nI_1, h1, sR_oA]
        rfl)
    FU 0 S8 (Nat.zero_le _) (FU_lt (by omega)) ⟨S8.2.2.1 27, by unfold sR; rw [va_self], fun j hj => absurd hj (by omega)⟩
  have e9' : f12_begins_124 FU 0 S8 = some S9 := e9
  refine ⟨S9, e9', fun k hk => ?_, ?_, ?_, ?_, fun k k1 k2 k3 k4 => ?_, fun w hw => ?_, ?_, ?_, ?_, ?_, fun k hk => ?_⟩
  · rw [hq, hS8, hp]
    exact va_ne _ hk _
  · rw [hq, hS8]; rfl
  · rw [hq, hS8, hp]; rfl
  · rw [hq, hS8, hp]; rfl
  · rw [hq, sR_off S8 k3, hS8, hp]
    show va_up (va_up (va_up (va_up (va_up SM.2.2.1 29 p) 25 _) 25 _) 25 _) 22 _ k = _
    rw [va_ne _ k1, va_ne _ k2, va_ne _ k2, va_ne _ k2, va_ne _ k4]
  · rw [hq, sR_off S8 (show 29 ≠ 27 by omega), hS8, hp]
    exact hp2 w hw
  · rw [hq, sR_off S8 (show 25 ≠ 27 by omega), hS8]; rfl
  · rw [hq, sR_off S8 (show 25 ≠ 27 by omega), hS8]; rfl
  · rw [hq, sR_off S8 (show 25 ≠ 27 by omega), hS8]; rfl
  · rw [hq, sR_off S8 (show 22 ≠ 27 by omega), hS8]; rfl
  · rw [hq, sR_at]; exact hq2 k hk
