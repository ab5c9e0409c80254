/-! pure: an inn's words: numbers behind a word, new names -/
def Fr7 (A B : Ob) : Prop := (∀ k, k ≠ 7 → k ≠ 8 → B.1 k = A.1 k) ∧ B.2 = A.2
theorem Fr7_I (A : Ob) {k : Nat} (hk : k = 7 ∨ k = 8) (v : Int32) : Fr7 A (oI A k v) := ⟨fun j a b => va_ne _ (by omega) _, rfl⟩
theorem Fr7_tr {A B D : Ob} (h1 : Fr7 A B) (h2 : Fr7 B D) : Fr7 A D := ⟨fun k a b => (h2.1 k a b).trans (h1.1 k a b), h2.2.trans h1.2⟩
theorem Fr7_refl (A : Ob) : Fr7 A A := ⟨fun _ _ _ => rfl, rfl⟩
section
variable {SM : Ob} {F : Nat}
theorem x_takeNumber (h : Flt SM F) (a b : Int32) : f12_takeNumber a b SM = some (0, SM) := by
  unfold f12_takeNumber f12_takeNumber_28 f12_takeNumber_70
  rw [if_neg (flt_ne h), if_neg (flt_ne h), if_neg (flt_nle h)]
theorem x_takeAfter (h : Flt SM F) (k a b : Int32) : f12_takeAfter k a b SM = some (0, SM) := by
  unfold f12_takeAfter
  rw [x_takeWord h, bd_s, x_takeNumber h, bd_s]
end
section
variable {C : Nat → Nat} {t N i : Nat} {SG ST SM : Ob}
theorem lgc_lt (x y : Int64) : lg_cmp x y < 0 ↔ x < y := by
  have h1 := lgc_le x y
  have h2 := lgc_eq x y
  constructor
  · intro h
    have h3 : lg_cmp x y ≤ 0 := by rw [Int32.le_iff_toInt_le]; rw [Int32.lt_iff_toInt_lt] at h; omega
    have h4 : ¬ y < x := h1.mp h3
    have h5 : ¬ x = y := fun e => by
      have := h2.mpr e
      rw [this] at h; exact absurd h (by decide)
    rw [Int64.lt_iff_toInt_lt] at h4 ⊢
    have h6 : x.toInt ≠ y.toInt := fun e => h5 (Int64.toInt_inj.mp e)
    omega
  · intro h
    have h4 : ¬ y < x := by rw [Int64.lt_iff_toInt_lt] at h ⊢; omega
    have h3 := h1.mpr h4
    have h5 : ¬ lg_cmp x y = 0 := fun e => by
      have := h2.mp e
      rw [this, Int64.lt_iff_toInt_lt] at h; omega
    rw [Int32.le_iff_toInt_le] at h3
    rw [Int32.lt_iff_toInt_lt]
    have h6 : (lg_cmp x y).toInt ≠ (0 : Int32).toInt := fun e => h5 (Int32.toInt_inj.mp e)
    omega
theorem lN_toInt3 {a : Nat} (h : a < 2 ^ 31) : (lN a).toInt = a := by
  rw [← nI_l h, Int32.toInt_toInt64, nI_toInt h]
theorem r_takeNumber (hsy : Syn C t N SG ST SM i) {lo hi : Nat} (hlo : lo < 2 ^ 31) (hhi : hi < 2 ^ 31) : f12_takeNumber (nI lo) (nI hi) SM = some (if kdT C t i = 33 then (if lo ≤ nmT C t i ∧ nmT C t i ≤ hi then (nI (nmT C t i), oI SM 7 (nI (i + 1))) else (0, oI SM 8 (nI (4 + 16 * PP C t i)))) else (0, oI SM 8 (nI (1 + 16 * PP C t i)))) := by
  obtain ⟨y1, y2, y3, y4, y5, y6, y7⟩ := id hsy
  have hp := PP_le C t i
  have ht := y7.1
  have hN := y7.2.1
  have w1 : f12_wrong 1 SM = _ := r_wrong y7 y4 y6 y5 1
  have w4 : f12_wrong 4 SM = _ := r_wrong y7 y4 y6 y5 4
  have f1 : Flt (oI SM 8 (nI (1 + 16 * PP C t i))) (1 + 16 * PP C t i) := ⟨rfl, by omega, by omega⟩
  have f4 : Flt (oI SM 8 (nI (4 + 16 * PP C t i))) (4 + 16 * PP C t i) := ⟨rfl, by omega, by omega⟩
  unfold f12_takeNumber
  rw [if_pos y5, y4, inb_nI (by omega) (by omega), ck_t, nI_clamp (by omega), w1, bd_s]
  by_cases c1 : kdT C t i = 33
  · obtain ⟨v1, v2⟩ := val_n y7 y6 c1
    rw [if_pos ((srt_kd y7 y6).2.1.mpr c1), if_pos c1]
    unfold f12_takeNumber_28 f12_takeNumber_65
    rw [if_pos y5, y4, inb_nI (by omega) (by omega), ck_t, ck_t, nI_clamp (by omega), v1, nI_l hlo, nI_l hhi, w4, bd_s]
    have b4 : f12_takeNumber_70 (oI SM 8 (nI (4 + 16 * PP C t i))) = some (0, oI SM 8 (nI (4 + 16 * PP C t i))) := by
      unfold f12_takeNumber_70
      rw [if_neg (flt_nle f4)]
    have b0 : f12_takeNumber_70 SM = some (nI (nmT C t i), oI SM 7 (nI (i + 1))) := by
      unfold f12_takeNumber_70
      rw [if_pos (show SM.1 8 ≤ 0 by rw [y5]; decide), lt_e, y4, nI_1]
      have e : (oI SM 7 (nI (i + 1))).1 7 - 1 = nI i := by
        show nI (i + 1) - 1 = _
        rw [nI_dec (by omega) (by omega), Nat.add_sub_cancel]
      rw [e, inb_nI (by omega) (by omega), ck_t, nI_clamp (by omega)]
      show some (Int64.toInt32 (SM.2.2.2 6 i), _) = _
      rw [v1, lN_i]
    rw [b4, b0]
    by_cases c2 : nmT C t i < lo
    · rw [if_pos ((lgc_lt _ _).mpr (by rw [Int64.lt_iff_toInt_lt, lN_toInt3 (by omega), lN_toInt3 (by omega)]; omega)), if_neg (by omega)]
    · rw [if_neg (fun h => by have := (lgc_lt _ _).mp h; rw [Int64.lt_iff_toInt_lt, lN_toInt3 (by omega), lN_toInt3 (by omega)] at this; omega)]
      by_cases c3 : nmT C t i ≤ hi
      · rw [if_pos ((lgc_le _ _).mpr (by rw [Int64.lt_iff_toInt_lt, lN_toInt3 (by omega), lN_toInt3 (by omega)]; omega)), if_pos ⟨by omega, c3⟩]
      · rw [if_neg (fun h => by have := (lgc_le _ _).mp h; rw [Int64.lt_iff_toInt_lt, lN_toInt3 (by omega), lN_toInt3 (by omega)] at this; omega), if_neg (by omega)]
  · rw [if_neg (fun e => c1 ((srt_kd y7 y6).2.1.mp e)), if_neg c1]
    unfold f12_takeNumber_70
    rw [if_neg (flt_nle f1)]
/-- a word and a number behind it -/
theorem num_both (hsy : Syn C t N SG ST SM i) (SR : Ob) {k lo hi : Nat} (hk : k < 32) (hhi : hi < 2 ^ 20) (hlo : lo ≤ hi) : (∃ v ST' SM', lo ≤ v ∧ v ≤ hi ∧ f9_numberBehind (nI k) (nI lo) (nI hi) SR SG ST = some (nI v, SG, ST') ∧ f12_takeAfter (nI k) (nI lo) (nI hi) SM = some (nI v, SM') ∧ FrA ST ST' ∧ Fr7 SM SM' ∧ Syn C t N SG ST' SM' (i + 2)) ∨ (∃ SG' ST' SM' F, f9_numberBehind (nI k) (nI lo) (nI hi) SR SG ST = some (-1, SG', ST') ∧ f12_takeAfter (nI k) (nI lo) (nI hi) SM = some (0, SM') ∧ FrA ST ST' ∧ Fr7 SM SM' ∧ SG'.1 3 = nI F ∧ Flt SM' F) := by
  obtain ⟨y1, y2, y3, y4, y5, y6, y7⟩ := id hsy
  have hp := PP_le C t i
  have ht := y7.1
  have hN := y7.2.1
  unfold f9_numberBehind f12_takeAfter
  rw [r_takeWord y7 y4 y6 y5 hk, bd_s]
  rcases c_take hsy (k := k) (by omega) (by omega) with ⟨hc, ST1, e, f, hi1, sy⟩ | ⟨hc, e⟩
  · have hm := (syn_kd sy).2
    have hp1 := PP_le C t (i + 1)
    have e1 : f3_fail 1 SG ST1 = _ := c_fail sy 1
    have e4 : f3_fail 4 SG ST1 = _ := c_fail sy 4
    rw [if_pos hc, e, bd_s, if_neg (show ¬ (1 : Int32) = 0 by decide), r_takeNumber sy (by omega) (by omega), bd_s]
    show (∃ v ST' SM', lo ≤ v ∧ v ≤ hi ∧ (lt (ST1.1 7) fun x4_4 => if ST1.1 3 = 33 then (if x4_4 < nI lo then f9_numberBehind_57 SR SG ST1 else if x4_4 ≤ nI hi then (bd (f10_advance ST1) fun r_8 => some (x4_4, SG, r_8)) else f9_numberBehind_57 SR SG ST1) else (bd (f3_fail 1 SG ST1) fun r_10 => some (-1, r_10.2, ST1))) = _ ∧ _) ∨ (∃ SG' ST' SM' F, (lt (ST1.1 7) fun x4_4 => if ST1.1 3 = 33 then (if x4_4 < nI lo then f9_numberBehind_57 SR SG ST1 else if x4_4 ≤ nI hi then (bd (f10_advance ST1) fun r_8 => some (x4_4, SG, r_8)) else f9_numberBehind_57 SR SG ST1) else (bd (f3_fail 1 SG ST1) fun r_10 => some (-1, r_10.2, ST1))) = _ ∧ _)
    unfold f9_numberBehind_57
    rw [lt_e, (syn_kd sy).1, e1, bd_s, e4, bd_s]
    by_cases c1 : kdT C t (i + 1) = 33
    · obtain ⟨v1, v2⟩ := val_n sy.2.2.2.2.2.2 sy.2.2.2.2.2.1 c1
      have e7 : ST1.1 7 = nI (nmT C t (i + 1)) := sy.2.1.2.2.2.2 c1
      rw [if_pos (show nI (kdT C t (i + 1)) = 33 by rw [c1]; rfl), if_pos c1, e7]
      by_cases c2 : lo ≤ nmT C t (i + 1) ∧ nmT C t (i + 1) ≤ hi
      · have hi2 : i + 1 < N := kd_lt sy.2.2.2.2.2.2 sy.2.2.2.2.2.1 (by omega)
        obtain ⟨ST2, a2, f2, sy2⟩ := syn_adv sy hi2
        left
        rw [if_neg (nI_nlt c2.1 (by omega)), if_pos (nI_le c2.2 (by omega)), a2, bd_s, if_pos c2]
        exact ⟨nmT C t (i + 1), ST2, _, c2.1, c2.2, rfl, rfl, FrA_tr f f2, Fr7_tr (Fr7_I SM (Or.inl rfl) _) (Fr7_I _ (Or.inl rfl) _), sy2⟩
      · right
        have hcl : (if nI (nmT C t (i + 1)) < nI lo then some ((-1 : Int32), oI SG 3 (nI (4 + 16 * PP C t (i + 1))), ST1) else if nI (nmT C t (i + 1)) ≤ nI hi then (bd (f10_advance ST1) fun r_8 => some (nI (nmT C t (i + 1)), SG, r_8)) else some ((-1 : Int32), oI SG 3 (nI (4 + 16 * PP C t (i + 1))), ST1)) = some ((-1 : Int32), oI SG 3 (nI (4 + 16 * PP C t (i + 1))), ST1) := by
          by_cases c3 : nmT C t (i + 1) < lo
          · rw [if_pos (nI_lt c3 (by omega))]
          · rw [if_neg (nI_nlt (by omega) (by omega)), if_neg (nI_ge (by omega) (by omega))]
        refine ⟨oI SG 3 (nI (4 + 16 * PP C t (i + 1))), ST1, oI (oI SM 7 (nI (i + 1))) 8 (nI (4 + 16 * PP C t (i + 1))), 4 + 16 * PP C t (i + 1), hcl, by rw [if_neg c2], f, Fr7_tr (Fr7_I SM (Or.inl rfl) _) (Fr7_I _ (Or.inr rfl) _), rfl, ⟨rfl, by omega, by omega⟩⟩
    · right
      rw [if_neg (show ¬ nI (kdT C t (i + 1)) = 33 from fun e => c1 ((nI_eq (b := 33) (by omega) (by omega)).mp e)), if_neg c1]
      exact ⟨oI SG 3 (nI (1 + 16 * PP C t (i + 1))), ST1, oI (oI SM 7 (nI (i + 1))) 8 (nI (1 + 16 * PP C t (i + 1))), 1 + 16 * PP C t (i + 1), rfl, rfl, f, Fr7_tr (Fr7_I SM (Or.inl rfl) _) (Fr7_I _ (Or.inr rfl) _), rfl, ⟨rfl, by omega, by omega⟩⟩
  · right
    have hfl : Flt (oI SM 8 (nI (1 + 16 * PP C t i))) (1 + 16 * PP C t i) := ⟨rfl, by omega, by omega⟩
    rw [if_neg hc, e, bd_s, if_pos (show (0 : Int32) = 0 from rfl), x_takeNumber hfl, bd_s]
    exact ⟨oI SG 3 (nI (1 + 16 * PP C t i)), ST, oI SM 8 (nI (1 + 16 * PP C t i)), 1 + 16 * PP C t i, rfl, rfl, ⟨fun _ _ _ _ _ => rfl, rfl⟩, Fr7_I SM (Or.inr rfl) _, rfl, hfl⟩
end
