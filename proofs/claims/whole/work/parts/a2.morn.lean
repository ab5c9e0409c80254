/-! pure: a line of a morning, read by both -/
def LOut (C : Nat → Nat) (t N : Nat) (SI : Ob) (r10 r28 : Nat → Int32) (SG ST SN SM : Ob) (i r l : Nat) (rc : Option (Int32 × Ob × Ob × Ob × Ob)) : Prop :=
  (∃ ST' SC' SN' SM' i' r' v b, rc = some (1, SG, ST', SC', SN') ∧ (∀ m, f12_morning_34 (m + 1) (nI l) SM = f12_morning_34 m (nI (l + 1)) SM') ∧ Syn C t N SG ST' SM' i' ∧ FrA ST ST' ∧ i < i' ∧ FrM SM SM' ∧ SM'.1 13 = nI r' ∧ r ≤ r' ∧ r' ≤ i' ∧ l < 24 ∧ SN'.1 0 = nI (l + 1) ∧ SN'.2.2.1 1 = upd (SN.2.2.1 1) l v ∧ SN'.2.2.1 2 = upd (SN.2.2.1 2) l b ∧ (∀ k, k < 80 + 3 * l → SM'.2.2.1 22 k = SM.2.2.1 22 k) ∧ (∀ k, k < 2200 + r → SM'.2.2.1 11 k = SM.2.2.1 11 k ∧ SM'.2.2.1 12 k = SM.2.2.1 12 k) ∧ LnP SI r10 r28 (SM'.2.2.1 11) (SM'.2.2.1 12) (SM'.2.2.1 22) r' l v b) ∨
  (∃ SG' ST' SC' SN' SM' F x, rc = some (0, SG', ST', SC', SN') ∧ FrA ST ST' ∧ SG'.1 3 = nI F ∧ Flt SM' F ∧ FrM SM SM' ∧ ∀ m, f12_morning_34 (m + 1) (nI l) SM = f12_morning_34 m x SM')
section
variable {C : Nat → Nat} {t N : Nat} {SI : Ob} {r10 r28 : Nat → Int32} {SG ST SN SM : Ob} {i r l : Nat}
theorem mo_fin {SR ST2 SM2 SC2 : Ob} {i2 r2 : Nat} {v b : Int32} {rc : Option (Int32 × Ob × Ob × Ob × Ob)} (hsy2 : Syn C t N SG ST2 SM2 i2) (h12 : FrA ST ST2) (hi : i < i2) (hF : FrM SM SM2) (h13 : SM2.1 13 = nI r2) (hr : r ≤ r2) (hr2 : r2 ≤ i2) (hl : l < 24) (hN : SN.1 0 = nI l) (hk22 : ∀ k, k < 80 + 3 * l → SM2.2.2.1 22 k = SM.2.2.1 22 k) (hk11 : ∀ k, k < 2200 + r → SM2.2.2.1 11 k = SM.2.2.1 11 k ∧ SM2.2.2.1 12 k = SM.2.2.1 12 k) (hP : LnP SI r10 r28 (SM2.2.2.1 11) (SM2.2.2.1 12) (SM2.2.2.1 22) r2 l v b) (hrc : rc = f9_morningLine_269 v b SR SG ST2 SC2 SI SN) (hrm : ∀ m, f12_morning_34 (m + 1) (nI l) SM = bd (f12_takeSign 59 SM2) fun b => f12_morning_34 m (nI (l + 1)) b) : LOut C t N SI r10 r28 SG ST SN SM i r l rc := by
  obtain ⟨SN', a1, a2, a3, a4⟩ := c_add hN hl v hP.1
  rw [hrc]
  unfold f9_morningLine_269
  rw [a1, bd_s]
  rcases semi hsy2 SC2 SN' with ⟨ST', SM', e1, e2, e3, e4, e5, e6, e7⟩ | ⟨SG', SM', F, e1, e2, e3, e4, e5⟩
  · rw [e1]
    refine Or.inl ⟨ST', SC2, SN', SM', i2 + 1, r2, v, b, rfl, fun m => by rw [hrm, e2, bd_s], e3, FrA_tr h12 e4, by omega, FrM_tr hF (FrM_F e5), e6.trans h13, hr, by omega, hl, a2, a3, a4, fun k hk => by rw [e7]; exact hk22 k hk, fun k hk => by rw [e7]; exact hk11 k hk, by rw [e7]; exact hP⟩
  · rw [e1]
    exact Or.inr ⟨SG', ST2, SC2, SN', SM', F, nI (l + 1), rfl, h12, e3, e4, FrM_tr hF (FrM_F e5), fun m => by rw [hrm, e2, bd_s]⟩
theorem mo_bad {SR SC : Ob} (hsy : Syn C t N SG ST SM i) {c : Nat} (hc : 1 ≤ c) (hc5 : c ≤ 5) (x : Int32) {rc : Option (Int32 × Ob × Ob × Ob × Ob)} (hrc : rc = some (0, oI SG 3 (nI (c + 16 * PP C t i)), ST, SC, SN)) (hrm : ∀ m, f12_morning_34 (m + 1) (nI l) SM = f12_morning_34 m x (oI SM 8 (nI (c + 16 * PP C t i)))) : LOut C t N SI r10 r28 SG ST SN SM i r l rc := by
  have hp := PP_le C t i
  have ht := hsy.2.2.2.2.2.2.1
  exact Or.inr ⟨_, ST, SC, SN, _, c + 16 * PP C t i, x, hrc, ⟨fun _ _ _ _ _ => rfl, rfl⟩, rfl, ⟨rfl, by omega, by omega⟩, FrM_F (FrF_I SM (by omega) _), hrm⟩
/-- a fault within a line -/
theorem mo_flt {SG' ST' SC' SM2 : Ob} {F : Nat} {rc : Option (Int32 × Ob × Ob × Ob × Ob)} (hf : FrA ST ST') (hF : FrM SM SM2) (hG : SG'.1 3 = nI F) (hfl : Flt SM2 F) (hrc : rc = some (0, SG', ST', SC', SN)) (hrm : ∀ m, f12_morning_34 (m + 1) (nI l) SM = bd (f12_takeSign 59 SM2) fun b => f12_morning_34 m (nI (l + 1)) b) : LOut C t N SI r10 r28 SG ST SN SM i r l rc :=
  Or.inr ⟨SG', ST', SC', SN, SM2, F, nI (l + 1), hrc, hf, hG, hfl, hF, fun m => by rw [hrm, x_takeSign hfl, bd_s]⟩
theorem mo_ref (hsy : Syn C t N SG ST SM i) (hiN : i < N) (hl : l ≤ 24) (m : Nat) : f12_morning_34 (m + 1) (nI l) SM = if 9 ≤ kdT C t i ∧ kdT C t i < 14 then (if l = 24 then f12_morning_34 m (nI l) (oI SM 8 (nI (5 + 16 * PP C t i))) else bd (f12_readWord (nI (kdT C t i - 9)) (nI (81 + 3 * l)) (oA (oI SM 7 (nI (i + 1))) 22 (80 + 3 * l) (nI (kdT C t i - 9)))) fun a => bd (f12_takeSign 59 a) fun b => f12_morning_34 m (nI (l + 1)) b) else f12_morning_34 m (nI l) (oI SM 8 (nI (1 + 16 * PP C t i))) := by
  obtain ⟨y1, y2, y3, y4, y5, y6, y7⟩ := id hsy
  have hp := PP_le C t i
  have ht := y7.1
  have hN := y7.2.1
  have w1 : f12_wordHere 9 5 SM = some (if 9 ≤ kdT C t i ∧ kdT C t i < 9 + 5 then nI (kdT C t i - 9) else -1) := r_word y7 y4 y6 y5 (fr := 9) (mn := 5) (by omega)
  have w5 : f12_wrong 5 SM = _ := r_wrong y7 y4 y6 y5 5
  have w6 : f12_wrong 1 SM = _ := r_wrong y7 y4 y6 y5 1
  have h4 : ¬ SM.2.2.1 4 i = 0 := fun e => by
    have := (srt_kd y7 y6).2.2.2.mp e
    have h2 := (y7.2.2.2.1 i hiN)
    rcases tK_cases (C := C) h2 with ⟨_, _, e⟩ | ⟨_, _, e⟩ | ⟨_, _, _, e⟩ | ⟨_, _, _, e⟩ | ⟨_, _, hs, e⟩ | ⟨_, _, _, e⟩
    · unfold kdT at this; rw [e] at this; have := kIx_le (wdT C t (PP C t i)); omega
    · unfold kdT at this; rw [e] at this; omega
    · unfold kdT at this; rw [e] at this; omega
    · unfold kdT at this; rw [e] at this; omega
    · unfold kdT at this; rw [e] at this; have := sgn_40 hs; omega
    · unfold kdT at this; rw [e] at this; omega
  have i80 : (80 : Int32) + 3 * nI l = nI (80 + 3 * l) := by rw [show (80 : Int32) = nI 80 from rfl, show (3 : Int32) = nI 3 from rfl, pk_mul, nI_add]
  have i81 : (81 : Int32) + 3 * nI l = nI (81 + 3 * l) := by rw [show (81 : Int32) = nI 81 from rfl, show (3 : Int32) = nI 3 from rfl, pk_mul, nI_add]
  rw [f12_morning_34, if_pos y5, y4, inb_nI (by omega) (by omega), ck_t, nI_clamp (by omega), if_neg h4, w1, bd_s]
  by_cases c1 : 9 ≤ kdT C t i ∧ kdT C t i < 14
  · rw [if_pos (show 9 ≤ kdT C t i ∧ kdT C t i < 9 + 5 from c1), if_pos c1, if_pos (nI_pos' (by omega))]
    by_cases c2 : l = 24
    · have hf : Flt (oI SM 8 (nI (5 + 16 * PP C t i))) (5 + 16 * PP C t i) := ⟨rfl, by omega, by omega⟩
      rw [if_pos (show nI l = 24 by rw [c2]; rfl), if_pos c2, w5, bd_s]
      unfold f12_morning_123
      rw [x_takeSign hf, bd_s]
    · rw [if_neg (show ¬ nI l = 24 from fun e => c2 ((nI_eq (b := 24) (by omega) (by omega)).mp e)), if_neg c2, i80, i81, inb_nI (by omega) (by omega), lt_e, ck_t, lt_e, nI_clamp (by omega), nI_1, nI_1]
      rfl
  · have hf : Flt (oI SM 8 (nI (1 + 16 * PP C t i))) (1 + 16 * PP C t i) := ⟨rfl, by omega, by omega⟩
    rw [if_neg (show ¬ (9 ≤ kdT C t i ∧ kdT C t i < 9 + 5) from c1), if_neg c1, if_neg (show ¬ (0 : Int32) ≤ -1 by decide), w6, bd_s]
    unfold f12_morning_123
    rw [x_takeSign hf, bd_s]
end
