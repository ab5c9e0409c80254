/-! pure: beds, the reference and the call -/
theorem s12_mayLie {SM : Ob} {sh : Nat → Int32} {a : Nat → Nat} {g r : Nat} (hg : g < 8) (hr : r < 16) (ha : ∀ e, e < g → SM.2.2.1 35 e = nI (a e) ∧ a e < 16) (hsh : SM.2.2.1 10 (3 + 5 * g + 4) = sh g) : f12_mayLie (nI g) (nI r) SM = some (if mayB sh a g r then 1 else 0) := by
  have g4 : f12_guestOf (nI g) 4 SM = some (sh g) := by
    rw [← hsh]; exact s12_guestOf (k := 4) (by omega) (by omega)
  obtain ⟨res, e, hres⟩ := loop_inv (fun q j (c : Nat × Int32) => f12_mayLie_8 q (nI g) (nI r) (nI c.1) c.2 (nI j) SM) (fun j c => c.1 = fb_ct (fun e => decide (a e = r)) j ∧ c.2 = if fb_ct (fun e => decide (a e = r) && bt (sh g) e) j = 0 then 1 else 0) (fun res => res = if mayB sh a g r then 1 else 0) g
    (by
      rintro q ⟨c1, c2⟩ ⟨h1, h2⟩
      have h1' : c1 = _ := h1
      have h2' : c2 = _ := h2
      have hcl : c1 ≤ g := by rw [h1']; exact fb_ct_le _ _
      refine ⟨_, ?_, rfl⟩
      show f12_mayLie_8 (q + 1) _ _ (nI c1) c2 (nI g) SM = _
      rw [f12_mayLie_8, if_pos (nI_le (Nat.le_refl g) (by omega))]
      unfold f12_mayLie_90 f12_mayLie_91 mayB
      rw [h2']
      by_cases z : fb_ct (fun e => decide (a e = r) && bt (sh g) e) g = 0
      · rw [if_pos z, if_neg (show ¬ (1 : Int32) = 0 by decide), decide_eq_true z, Bool.and_true, ← h1']
        by_cases h3 : c1 < 3
        · rw [if_neg (show ¬ (3 : Int32) ≤ nI c1 from nI_ge (b := 3) h3 (by omega)), decide_eq_true h3]; rfl
        · rw [if_pos (show (3 : Int32) ≤ nI c1 from nI_le (a := 3) (by omega) (by omega)), decide_eq_false h3]; rfl
      · rw [if_neg z, if_pos rfl, decide_eq_false z, Bool.and_false]; rfl)
    (by
      rintro q j ⟨c1, c2⟩ hj ⟨h1, h2⟩
      have h1' : c1 = _ := h1
      have h2' : c2 = _ := h2
      obtain ⟨a1, a2⟩ := ha j hj
      refine ⟨(fb_ct (fun e => decide (a e = r)) (j + 1), if fb_ct (fun e => decide (a e = r) && bt (sh g) e) (j + 1) = 0 then 1 else 0), ⟨rfl, rfl⟩, ?_⟩
      show f12_mayLie_8 (q + 1) _ _ (nI c1) c2 (nI j) SM = f12_mayLie_8 q _ _ _ _ (nI (j + 1)) SM
      rw [f12_mayLie_8, if_neg (nI_ge hj (by omega)), inb_nI (by omega) (by omega), ck_t, nI_clamp (by omega), a1]
      unfold f12_mayLie_31 f12_mayLie_63 f12_mayLie_67 f12_mayLie_68
      simp only [lt_e, inb_nI (show j < 8 by omega) (show (8 : Nat) < 2 ^ 31 by omega), ck_t, nI_clamp (show j < 2 ^ 31 by omega), a1, g4, bd_s, s12_isIn (show j < 32 by omega), nI_1, ib_0]
      rw [fb_ct_succ, fb_ct_succ, h2', ← h1', Int32.add_zero]
      by_cases har : a j = r
      · have e1 : nI (a j) = nI r := by rw [har]
        rw [if_pos e1, if_pos e1, decide_eq_true har, Bool.true_and, if_pos rfl]
        by_cases z : fb_ct (fun e => decide (a e = r) && bt (sh g) e) j = 0
        · rw [if_pos z, if_neg (show ¬ (1 : Int32) = 0 by decide), z]
          cases bt (sh g) j <;> rfl
        · rw [if_neg z, if_pos rfl, if_neg (by omega)]
      · have e1 : ¬ nI (a j) = nI r := fun hh => har ((nI_eq (by omega) (by omega)).mp hh)
        rw [if_neg e1, if_neg e1, decide_eq_false har, Bool.false_and, if_neg (show ¬ false = true by decide)]
        by_cases z : fb_ct (fun e => decide (a e = r) && bt (sh g) e) j = 0
        · rw [if_pos z, if_neg (show ¬ (1 : Int32) = 0 by decide), z]
          rfl
        · rw [if_neg z, if_pos rfl, if_neg (by omega)]; rfl)
    FU 0 (0, 1) (Nat.zero_le _) (FU_lt (by omega)) ⟨rfl, rfl⟩
  rw [← hres]
  exact e
/-- the reference's state behind a search -/
def BmR (SM : Ob) (F : Nat) : Prop := SM.1 37 = if F = 9 then -1 else nI F
def FrB (SM SM' : Ob) : Prop := ∃ p q v, SM' = oI (sR (sR SM 35 p) 36 q) 37 v
theorem FrB_refl (SM : Ob) : FrB SM SM := ⟨SM.2.2.1 35, SM.2.2.1 36, SM.1 37, by
  have e1 : sR SM 35 (SM.2.2.1 35) = SM := sR_self _ _
  have e2 : sR SM 36 (SM.2.2.1 36) = SM := sR_self _ _
  rw [e1, e2]
  unfold oI
  rw [va_self]⟩
theorem sR_comm (S : Ob) {j k : Nat} (h : j ≠ k) (p q : Nat → Int32) : sR (sR S j p) k q = sR (sR S k q) j p := by
  unfold sR
  have : va_up (va_up S.2.2.1 j p) k q = va_up (va_up S.2.2.1 k q) j p := by
    funext i
    unfold va_up
    by_cases h1 : i = k
    · by_cases h2 : i = j
      · exact absurd (h2.symm.trans h1) h
      · simp [h1]; intro h3; exact absurd h3.symm h
    · simp [h1]
  rw [this]
theorem FrB_trans {A B C : Ob} (h1 : FrB A B) (h2 : FrB B C) : FrB A C := by
  obtain ⟨p, q, v, rfl⟩ := h1
  obtain ⟨p', q', v', rfl⟩ := h2
  refine ⟨p', q', v', ?_⟩
  unfold oI sR
  simp only [Prod.mk.injEq, true_and, and_true]
  constructor
  · rw [bx_uu]
  · funext i
    unfold va_up
    by_cases h1 : i = 36
    · simp [h1]
    · by_cases h2 : i = 35
      · simp [h2]
      · simp [h1, h2]
def BsR (sh : Nat → Int32) (n F : Nat) (p : Nat → Option (Nat → Nat)) (SM SM' : Ob) : Prop := (∃ m b, m < F ∧ p m = some b ∧ (∀ R, R < m → p R = none) ∧ SM'.1 37 = nI m ∧ ∀ e, e < n → SM'.2.2.1 36 e = nI (b e)) ∨ ((∀ R, R < F → p R = none) ∧ SM'.1 37 = SM.1 37 ∧ SM'.2.2.1 36 = SM.2.2.1 36)
theorem bed_m {cs : Nat → Ob} {sh : Nat → Int32} {n g0 : Nat} (h8 : n ≤ 8) : ∀ d g u a F SM dp, g + d = n → d < dp → u ≤ g → (∀ e, e < g → SM.2.2.1 35 e = nI (a e) ∧ a e < u) → F ≤ 9 → BmR SM F → InvN cs SM n g0 → (∀ j, j < n → SM.2.2.1 10 (3 + 5 * j + 4) = sh j) → ∃ SM', f12_goesThrough dp (nI g) (nI u) SM = some SM' ∧ FrB SM SM' ∧ (∀ e, e < g → SM'.2.2.1 35 e = nI (a e)) ∧ BsR sh n F (fun R => srch sh R d g u a) SM SM' := by
  intro d
  induction d with
  | zero =>
    intro g u a F SM dp hgd hdp hug ha hF hB hI hsh
    obtain ⟨dp, rfl⟩ : ∃ q, dp = q + 1 := ⟨dp - 1, by omega⟩
    have hgn : g = n := by omega
    rw [f12_goesThrough]
    unfold f12_goesThrough_b
    by_cases hFu : u < F
    · have h16 : f12_goesThrough_16 (f12_goesThrough dp) (nI g) (nI u) SM = f12_goesThrough_31 (f12_goesThrough dp) FU (nI g) 0 (oI SM 37 (nI u)) := by
        unfold f12_goesThrough_16
        rw [s12_guests, hI.2.1.1, bd_s, hgn, if_pos rfl, lt_e]
      obtain ⟨res, e, q, hres, hq⟩ := loop_inv (fun m j S => f12_goesThrough_31 (f12_goesThrough dp) m (nI g) (nI j) S) (fun j S => ∃ q, S = sR (oI SM 37 (nI u)) 36 q ∧ ∀ e, e < j → q e = nI (a e)) (fun S => ∃ q, S = sR (oI SM 37 (nI u)) 36 q ∧ ∀ e, e < g → q e = nI (a e)) g
        (by
          rintro m S ⟨q, rfl, hq⟩
          refine ⟨_, ?_, q, rfl, hq⟩
          show f12_goesThrough_31 _ (m + 1) _ (nI g) _ = _
          rw [f12_goesThrough_31, if_pos (nI_le (Nat.le_refl g) (by omega))])
        (by
          rintro m j S hj ⟨q, rfl, hq⟩
          refine ⟨sR (oI SM 37 (nI u)) 36 (upd q j (nI (a j))), ⟨_, rfl, fun e he => ?_⟩, ?_⟩
          · by_cases hej : e = j
            · rw [hej, pk_us]
            · rw [pk_un hej]; exact hq e (by omega)
          · show f12_goesThrough_31 _ (m + 1) _ (nI j) _ = f12_goesThrough_31 _ m _ (nI (j + 1)) _
            have r35 : (sR (oI SM 37 (nI u)) 36 q).2.2.1 35 j = nI (a j) := (ha j hj).1
            rw [f12_goesThrough_31, if_neg (nI_ge hj (by omega)), inb_nI (by omega) (by omega), ck_t, ck_t, lt_e, lt_e, nI_1, nI_clamp (by omega), r35, sR_oA])
        FU 0 (oI SM 37 (nI u)) (Nat.zero_le _) (FU_lt (by omega)) ⟨SM.2.2.1 36, (sR_self (oI SM 37 (nI u)) 36).symm, fun e he => absurd he (Nat.not_lt_zero e)⟩
      have hfr : FrB SM res := by
        refine ⟨SM.2.2.1 35, q, nI u, ?_⟩
        rw [hres, sR_self]
        rfl
      refine ⟨res, ?_, hfr, fun e he => by rw [hres]; exact (ha e he).1, Or.inl ⟨u, a, hFu, if_neg (by omega), fun R hR => srch_lt hR, by rw [hres]; rfl, fun e he => by rw [hres]; exact hq e (by omega)⟩⟩
      have e' : f12_goesThrough_31 (f12_goesThrough dp) FU (nI g) 0 (oI SM 37 (nI u)) = some res := e
      rw [h16, e', hB]
      by_cases h9 : F = 9
      · rw [if_pos h9, if_pos (by decide)]
      · rw [if_neg h9, if_neg (nI_pos (by omega)), if_pos (nI_lt hFu (by omega))]
    · refine ⟨SM, ?_, FrB_refl SM, fun e he => (ha e he).1, Or.inr ⟨fun R hR => srch_lt (by omega), rfl, rfl⟩⟩
      have hF9 : ¬ F = 9 := by omega
      rw [hB, if_neg hF9, if_neg (nI_pos (by omega)), if_neg (nI_nlt (by omega) (by omega))]
  | succ d ih =>
    intro g u a F SM dp hgd hdp hug ha hF hB hI hsh
    obtain ⟨dp, rfl⟩ : ∃ q, dp = q + 1 := ⟨dp - 1, by omega⟩
    have hsr : ∀ R, srch sh R (d + 1) g u a = fpO (chl sh R d g u a) (u + 1) := fun R => srch_s sh R d g u a
    rw [f12_goesThrough]
    unfold f12_goesThrough_b
    by_cases hFu : u < F
    · have h16 : f12_goesThrough_16 (f12_goesThrough dp) (nI g) (nI u) SM = f12_goesThrough_57 (f12_goesThrough dp) FU (nI g) (nI u) 0 SM := by
        unfold f12_goesThrough_16
        rw [s12_guests, hI.2.1.1, bd_s, if_neg (fun hh => by rw [nI_eq (by omega) (by omega)] at hh; omega)]
      obtain ⟨res, e, r1, r2, r3⟩ := loop_inv (fun m r S => f12_goesThrough_57 (f12_goesThrough dp) m (nI g) (nI u) (nI r) S) (fun r S => FrB SM S ∧ (∀ e, e < g → S.2.2.1 35 e = nI (a e)) ∧ BsR sh n F (fun R => fpO (chl sh R d g u a) r) SM S) (fun S => FrB SM S ∧ (∀ e, e < g → S.2.2.1 35 e = nI (a e)) ∧ BsR sh n F (fun R => fpO (chl sh R d g u a) (u + 1)) SM S) (u + 1)
        (by
          intro m S hS
          refine ⟨S, ?_, hS⟩
          show f12_goesThrough_57 _ (m + 1) _ _ (nI (u + 1)) S = _
          rw [f12_goesThrough_57, if_pos (nI_lt (by omega) (by omega))])
        (by
          rintro m r S hr ⟨s1, s2, s3⟩
          have e97 : ∀ S', f12_goesThrough_97 (f12_goesThrough dp) (f12_goesThrough_57 (f12_goesThrough dp) m) (nI g) (nI u) (nI r) S' = f12_goesThrough_57 (f12_goesThrough dp) m (nI g) (nI u) (nI (r + 1)) S' := fun S' => by
            unfold f12_goesThrough_97; rw [lt_e, nI_1]
          have h10 : S.2.2.1 10 = SM.2.2.1 10 := by
            obtain ⟨p, q, v, rfl⟩ := s1; rfl
          have hIS : InvN cs S n g0 := by
            obtain ⟨p, q, v, rfl⟩ := s1; exact hI
          show ∃ b, _ ∧ f12_goesThrough_57 _ (m + 1) _ _ (nI r) S = f12_goesThrough_57 _ m _ _ (nI (r + 1)) b
          rw [f12_goesThrough_57, if_neg (nI_nlt (by omega) (by omega)), s12_mayLie (sh := sh) (a := a) (by omega) (by omega) (fun e he => ⟨s2 e he, by have := (ha e he).2; omega⟩) (by rw [h10]; exact hsh g (by omega)), bd_s]
          by_cases hmay : mayB sh a g r = true
          · have hch : ∀ R, chl sh R d g u a r = srch sh R d (g + 1) (if r = u then u + 1 else u) (updN a g r) := fun R => by
              unfold chl; rw [if_pos hmay]
            rw [hmay, if_pos rfl, if_neg (show ¬ (1 : Int32) = 0 by decide), inb_nI (by omega) (by omega), ck_t, lt_e, nI_clamp (by omega)]
            obtain ⟨S6, hS6⟩ : ∃ S6, S6 = oA S 35 g (nI r) := ⟨_, rfl⟩
            have f6 : FrB S S6 := by
              refine ⟨upd (S.2.2.1 35) g (nI r), S.2.2.1 36, S.1 37, ?_⟩
              rw [hS6, oA_sR]
              have e1 : sR (sR S 35 (upd (S.2.2.1 35) g (nI r))) 36 (S.2.2.1 36) = sR S 35 (upd (S.2.2.1 35) g (nI r)) := sR_self (sR S 35 (upd (S.2.2.1 35) g (nI r))) 36
              rw [e1]
              unfold oI sR
              rw [va_self]
            -- what the best is by now
            obtain ⟨F', hF'1, hF'2, hF'3⟩ : ∃ F', F' ≤ F ∧ BmR S F' ∧ ((∃ b, F' < F ∧ fpO (chl sh F' d g u a) r = some b ∧ (∀ e, e < n → S.2.2.1 36 e = nI (b e))) ∨ (F' = F ∧ S.1 37 = SM.1 37 ∧ S.2.2.1 36 = SM.2.2.1 36)) ∧ ∀ R, R < F' → fpO (chl sh R d g u a) r = none := by
              rcases s3 with ⟨m', b, b1, b2, b3, b4, b5⟩ | ⟨b1, b2, b3⟩
              · exact ⟨m', by omega, by unfold BmR; rw [b4, if_neg (by omega)], Or.inl ⟨b, b1, b2, b5⟩, b3⟩
              · exact ⟨F, Nat.le_refl F, by unfold BmR; rw [b2]; exact hB, Or.inr ⟨rfl, b2, b3⟩, b1⟩
            obtain ⟨S7, g1, g2, g3, g4⟩ := ih (g + 1) (if r = u then u + 1 else u) (updN a g r) F' S6 dp (by omega) (by omega) (by split <;> omega) (fun e he => by
              rw [hS6]
              show upd (S.2.2.1 35) g (nI r) e = nI (updN a g r e) ∧ updN a g r e < _
              unfold updN
              by_cases heg : e = g
              · rw [heg, pk_us, if_pos rfl]
                exact ⟨rfl, by split <;> omega⟩
              · rw [pk_un heg, if_neg heg]
                have := (ha e (by omega)).2
                exact ⟨s2 e (by omega), by split <;> omega⟩) (by omega) (by rw [hS6]; exact hF'2) (by rw [hS6]; exact hIS) (fun j hj => by rw [hS6]; show S.2.2.1 10 _ = _; rw [h10]; exact hsh j hj)
            have e94 : (if nI r = nI u then f12_goesThrough_94 (f12_goesThrough dp) (f12_goesThrough_57 (f12_goesThrough dp) m) (nI g) (nI u) (nI r) (nI g + 1) (nI u + 1) S6 else f12_goesThrough_94 (f12_goesThrough dp) (f12_goesThrough_57 (f12_goesThrough dp) m) (nI g) (nI u) (nI r) (nI g + 1) (nI u) S6) = f12_goesThrough_57 (f12_goesThrough dp) m (nI g) (nI u) (nI (r + 1)) S7 := by
              unfold f12_goesThrough_94
              rw [nI_1, nI_1]
              by_cases hru : r = u
              · rw [if_pos hru] at g1
                rw [if_pos (by rw [hru]), g1, bd_s, e97]
              · rw [if_neg hru] at g1
                rw [if_neg (fun hh => hru ((nI_eq (by omega) (by omega)).mp hh)), g1, bd_s, e97]
            rw [← hS6, e94]
            refine ⟨S7, ⟨FrB_trans s1 (FrB_trans f6 g2), fun e he => ?_, ?_⟩, rfl⟩
            · rw [g3 e (by omega)]
              unfold updN
              rw [if_neg (by omega)]
            · rcases g4 with ⟨m', b, b1, b2, b3, b4, b5⟩ | ⟨b1, b2, b3⟩
              · refine Or.inl ⟨m', b, by omega, ?_, fun R hR => ?_, b4, b5⟩
                · show fpO (chl sh m' d g u a) (r + 1) = _
                  rw [fpO_n _ (hF'3.2 m' b1), hch]; exact b2
                · show fpO (chl sh R d g u a) (r + 1) = _
                  rw [fpO_n _ (hF'3.2 R (by omega)), hch]; exact b3 R hR
              · have b2' : S7.1 37 = S.1 37 := by rw [b2, hS6]; rfl
                have b3' : S7.2.2.1 36 = S.2.2.1 36 := by rw [b3, hS6]; rfl
                rcases hF'3.1 with ⟨b, c1, c2, c3⟩ | ⟨c1, c2, c3⟩
                · refine Or.inl ⟨F', b, c1, fpO_s _ c2, fun R hR => ?_, ?_, fun e he => by rw [b3']; exact c3 e he⟩
                  · show fpO (chl sh R d g u a) (r + 1) = _
                    rw [fpO_n _ (hF'3.2 R hR), hch]; exact b1 R hR
                  · rw [b2']
                    have := hF'2
                    unfold BmR at this
                    rw [if_neg (by omega)] at this
                    exact this
                · refine Or.inr ⟨fun R hR => ?_, b2'.trans c2, b3'.trans c3⟩
                  show fpO (chl sh R d g u a) (r + 1) = _
                  rw [← c1] at hR
                  rw [fpO_n _ (hF'3.2 R hR), hch]; exact b1 R hR
          · have hmf : mayB sh a g r = false := by simpa using hmay
            have hch : ∀ R, chl sh R d g u a r = none := fun R => by
              unfold chl; rw [if_neg hmay]
            rw [hmf, if_pos (show (if false = true then (1 : Int32) else 0) = 0 from rfl), e97]
            refine ⟨S, ⟨s1, s2, ?_⟩, rfl⟩
            rcases s3 with ⟨m', b, b1, b2, b3, b4, b5⟩ | ⟨b1, b2, b3⟩
            · refine Or.inl ⟨m', b, b1, fpO_s _ b2, fun R hR => ?_, b4, b5⟩
              show fpO (chl sh R d g u a) (r + 1) = _
              rw [fpO_n _ (b3 R hR), hch]
            · refine Or.inr ⟨fun R hR => ?_, b2, b3⟩
              show fpO (chl sh R d g u a) (r + 1) = _
              rw [fpO_n _ (b1 R hR), hch])
        FU 0 SM (Nat.zero_le _) (FU_lt (by omega)) ⟨FrB_refl SM, fun e he => (ha e he).1, Or.inr ⟨fun R _ => rfl, rfl, rfl⟩⟩
      have e' : f12_goesThrough_57 (f12_goesThrough dp) FU (nI g) (nI u) 0 SM = some res := e
      refine ⟨res, ?_, r1, r2, ?_⟩
      · rw [h16, e', hB]
        by_cases h9 : F = 9
        · rw [if_pos h9, if_pos (by decide)]
        · rw [if_neg h9, if_neg (nI_pos (by omega)), if_pos (nI_lt hFu (by omega))]
      · rcases r3 with ⟨m', b, b1, b2, b3, b4, b5⟩ | ⟨b1, b2, b3⟩
        · exact Or.inl ⟨m', b, b1, (hsr m').trans b2, fun R hR => (hsr R).trans (b3 R hR), b4, b5⟩
        · exact Or.inr ⟨fun R hR => (hsr R).trans (b1 R hR), b2, b3⟩
    · refine ⟨SM, ?_, FrB_refl SM, fun e he => (ha e he).1, Or.inr ⟨fun R hR => srch_lt (by omega), rfl, rfl⟩⟩
      have hF9 : ¬ F = 9 := by omega
      rw [hB, if_neg hF9, if_neg (nI_pos (by omega)), if_neg (nI_nlt (by omega) (by omega))]
theorem st_beds : St_beds Inv := by
  intro cs sm x1 h
  obtain ⟨n, g, hI⟩ := h
  have hI' : InvN cs (oI sm 0 0) n g := hI
  obtain ⟨h8, h6, hn, -⟩ := id hI.1
  obtain ⟨sh, hsh⟩ : ∃ sh : Nat → Int32, sh = fun j => (cs 8).2.2.1 6 j := ⟨_, rfl⟩
  have hsc : ∀ j, j < n → (cs 8).2.2.1 6 j = sh j := fun j _ => by rw [hsh]
  obtain ⟨S37, hS37⟩ : ∃ S, S = oI (oI sm 0 0) 37 (-1) := ⟨_, rfl⟩
  have hI37 : InvN cs S37 n g := by rw [hS37]; exact hI'
  have hsm : ∀ j, j < n → S37.2.2.1 10 (3 + 5 * j + 4) = sh j := fun j hj => by
    rw [hS37, hsh]; exact (hI.2.1.2.2.1 j hj).2.2.2.2
  obtain ⟨SM', e1, e2, -, e4⟩ := bed_m (cs := cs) (sh := sh) (g0 := g) h8 n 0 0 (fun _ => 0) 9 S37 DP (by omega) (by show n < 12; omega) (by omega) (fun e he => absurd he (Nat.not_lt_zero e)) (by omega) (by unfold BmR; rw [hS37]; rfl) hI37 hsm
  have hIM : InvN cs SM' n g := by
    obtain ⟨p, q, v, rfl⟩ := e2; exact hI37
  obtain ⟨x, hx⟩ := srch_some (sh := sh) (R := 8) n 0 (fun _ => 0) (fun e he => absurd he (Nat.not_lt_zero e)) (by omega)
  rcases e4 with ⟨m, b, m9, b2, b3, b4, b5⟩ | ⟨c1, -⟩
  · -- the class, room by room
    have key : ∀ d R f SL, R + d = m → d < f → ∃ SL', f5_bedAll_2 f (nI R) SL (cs 8) = some (nI m, SL') ∧ ∀ e, e < n → SL'.2.2.1 0 e = nI (b e) := by
      intro d
      induction d with
      | zero =>
        intro R f SL hR hf
        obtain ⟨f, rfl⟩ : ∃ q, f = q + 1 := ⟨f - 1, by omega⟩
        have hRm : R = m := by omega
        subst hRm
        rcases bed_c hn h8 (show R ≤ 8 by omega) hsc n 0 0 (fun _ => 0) SL DP (by omega) (by show n < 12; omega) (by omega) (by omega) (fun e he => absurd he (Nat.not_lt_zero e)) ⟨fun e he => absurd he (Nat.not_lt_zero e), fun r hr => absurd hr (Nat.not_lt_zero r)⟩ with ⟨h1, -⟩ | ⟨b', h1, SL', h2, h3⟩
        · have b2' : srch sh R n 0 0 (fun _ => 0) = some b := b2
          rw [b2'] at h1; exact absurd h1 (by simp)
        · have b2' : srch sh R n 0 0 (fun _ => 0) = some b := b2
          have : b' = b := Option.some.inj (h1.symm.trans b2')
          subst this
          have h2' : f5_bedFrom DP 0 0 (nI R) SL (cs 8) = some (1, SL') := h2
          refine ⟨SL', ?_, h3⟩
          rw [f5_bedAll_2]
          by_cases hR8 : R = 8
          · rw [hR8] at h2'
            rw [hR8, if_pos (by decide)]
            have h2'' : f5_bedFrom DP 0 0 8 SL (cs 8) = some (1, SL') := h2'
            rw [h2'', bd_s]
            rfl
          · rw [if_neg (show ¬ (8 : Int32) ≤ nI R from nI_ge (b := 8) (by omega) (by omega)), h2', bd_s, if_neg (show ¬ (1 : Int32) = 0 by decide)]
      | succ d ih =>
        intro R f SL hR hf
        obtain ⟨f, rfl⟩ : ∃ q, f = q + 1 := ⟨f - 1, by omega⟩
        rcases bed_c hn h8 (show R ≤ 8 by omega) hsc n 0 0 (fun _ => 0) SL DP (by omega) (by show n < 12; omega) (by omega) (by omega) (fun e he => absurd he (Nat.not_lt_zero e)) ⟨fun e he => absurd he (Nat.not_lt_zero e), fun r hr => absurd hr (Nat.not_lt_zero r)⟩ with ⟨h1, SL', h2, -⟩ | ⟨b', h1, -⟩
        · have h2' : f5_bedFrom DP 0 0 (nI R) SL (cs 8) = some (0, SL') := h2
          obtain ⟨SL2, k1, k2⟩ := ih (R + 1) f SL' (by omega) (by omega)
          refine ⟨SL2, ?_, k2⟩
          rw [f5_bedAll_2, if_neg (show ¬ (8 : Int32) ≤ nI R from nI_ge (b := 8) (by omega) (by omega)), h2', bd_s, if_pos (show (0 : Int32) = 0 from rfl), lt_e, nI_1]
          exact k1
        · have := b3 R (by omega)
          have this' : srch sh R n 0 0 (fun _ => 0) = none := this
          rw [this'] at h1; exact absurd h1 (by simp)
    obtain ⟨SL', k1, k2⟩ := key m 0 FU (cs 7) (by omega) (FU_lt (by omega))
    have k1' : f5_bedAll (cs 7) (cs 8) = some (nI m, SL') := k1
    have e1' : f12_goesThrough DP 0 0 (oI (oI sm 0 0) 37 (-1)) = some SM' := by rw [← hS37]; exact e1
    by_cases hx1 : x1 = -1
    · subst hx1
      refine ⟨nI m, SL', SM', ?_, ?_, n, g, InvN_s hIM (by omega) _⟩
      · unfold f11_beds f11_beds_19
        rw [if_pos rfl, k1', bd_s, lt_e, if_pos rfl]
        rfl
      · unfold f12_beds f12_beds_21
        rw [lt_e, if_pos rfl, lt_e, e1', bd_s, if_neg (by decide), b4]
        rfl
    · rcases guest_both hI x1 with ⟨j, hj, rfl, a1, a2⟩ | ⟨a1, a2⟩
      · refine ⟨nI (b j), SL', SM', ?_, ?_, n, g, InvN_s hIM (by omega) _⟩
        · unfold f11_beds f11_beds_19
          rw [if_neg hx1, a1, bd_s, if_neg (by decide), k1', bd_s, lt_e, if_neg hx1, inb_nI (by omega) (by omega), ck_t, nI_clamp (by omega)]
          show f11_beds_49 (SL'.2.2.1 0 j) _ _ _ = _
          rw [k2 j hj]
          rfl
        · unfold f12_beds f12_beds_21
          rw [lt_e, if_neg hx1, a2, bd_s, if_neg (by decide), lt_e, e1', bd_s, if_pos (nI_pos' (by omega)), inb_nI (by omega) (by omega), ck_t, nI_clamp (by omega), b5 j hj]
          rfl
      · refine ⟨-2, cs 7, oI sm 0 0, ?_, ?_, n, g, InvN_s hI' (by omega) _⟩
        · unfold f11_beds
          rw [if_neg hx1, a1]; rfl
        · unfold f12_beds
          rw [lt_e, if_neg hx1, a2]; rfl
  · have := c1 8 (by omega)
    have this' : srch sh 8 n 0 0 (fun _ => 0) = none := this
    rw [this'] at hx; exact absurd hx (by simp)
