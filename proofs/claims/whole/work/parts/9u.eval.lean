/-! pure: codes of the reference worked out -/
def CdBt (r11 r12 : Nat → Int32) (s : Nat) (L : List (Nat × Nat)) : Prop := (∀ k x, L[k]? = some x → r11 (s + k) = nI (roN x) ∧ r12 (s + k) = nI (raN x)) ∧ r11 (s + L.length) = 0
theorem CdBt_tl {r11 r12 : Nat → Int32} {s : Nat} {x : Nat × Nat} {L : List (Nat × Nat)} (h : CdBt r11 r12 s (x :: L)) : CdBt r11 r12 (s + 1) L := ⟨fun k y hy => by
  have := h.1 (k + 1) y (by simpa using hy)
  rw [show s + 1 + k = s + (k + 1) by omega]
  exact this, by
  have h2 := h.2
  rw [show s + 1 + L.length = s + (x :: L).length by show s + 1 + L.length = s + (L.length + 1); omega]
  exact h2⟩
theorem ro_pos (x : Nat × Nat) : 0 < roN x ∧ roN x ≤ 10 := by
  unfold roN
  repeat' (first | omega | split)
theorem sR_off (S : Ob) {k j : Nat} (h : j ≠ k) (p : Nat → Int32) : (sR S k p).2.2.1 j = S.2.2.1 j := va_ne _ h _
theorem oA_24 (S : Ob) (p : Nat → Int32) (j : Nat) (v : Int32) : oA (sR S 24 p) 24 j v = sR S 24 (upd p j v) := by
  rw [oA_sR, sR_sR, sR_at]
theorem r_so {sm : Ob} {n : Nat} {E : Nat × Nat → Int32} (hall : ∀ p, f12_everyWorld (sR sm 24 p) = some (allS n)) : ∀ (L : List (Nat × Nat)) (pos m : Nat) (s o : List Int32) (p : Nat → Int32), L.length + 1 < m → pos + L.length < 3300 → CdBt (sm.2.2.1 11) (sm.2.2.1 12) pos L → (∀ x, x ∈ L → x.1 ≤ 5 ∧ (x.1 = 0 → ∀ p, f12_soOf (nI x.2) (sR sm 24 p) = some (E x)) ∧ (x.1 = 1 → x.2 < 8 ∧ f12_worldsOf (nI x.2) = some (E x)) ∧ (x.1 = 2 → x.2 < 6 ∧ sm.2.2.1 28 x.2 = E x)) → StkF p s → s.length ≤ 1100 → runA E (fun a => (a ^^^ (-1)) &&& allS n) biW 1100 L s = some o → ∃ q, f12_soIn_4 m (nI s.length) (nI pos) (sR sm 24 p) = some (q 0, sR sm 24 q) ∧ StkF q o := by
  intro L
  induction L with
  | nil =>
    intro pos m s o p hm hp hc hE hs hl hr
    obtain ⟨m, rfl⟩ : ∃ k, m = k + 1 := ⟨m - 1, by omega⟩
    rw [← Option.some.inj hr]
    refine ⟨p, ?_, hs⟩
    have h0 : sm.2.2.1 11 pos = 0 := hc.2
    have hp' : pos < 3300 := hp
    rw [f12_soIn_4, inb_nI hp' (by omega), ck_t, nI_clamp (by omega), sR_off sm (by omega), if_pos h0, show inb 0 1100 = true from rfl, ck_t, sR_at]
    rfl
  | cons x L ih =>
    intro pos m s o p hm hp hc hE hs hl hr
    obtain ⟨m, rfl⟩ : ∃ k, m = k + 1 := ⟨m - 1, by omega⟩
    have hL : (x :: L).length = L.length + 1 := rfl
    rw [hL] at hm hp
    obtain ⟨e0, e1⟩ := hc.1 0 x rfl
    rw [Nat.add_zero] at e0 e1
    have next : ∀ q s' k, StkF q s' → k = nI s'.length → s'.length ≤ 1100 → runA E (fun a => (a ^^^ (-1)) &&& allS n) biW 1100 L s' = some o → ∃ q', f12_soIn_187 (f12_soIn_4 m) k (nI pos) (sR sm 24 q) = some (q' 0, sR sm 24 q') ∧ StkF q' o := by
      intro q s' k hs' hk hl' hr'
      unfold f12_soIn_187
      rw [lt_e, nI_1, hk]
      exact ih (pos + 1) m s' o q (by omega) (by omega) (CdBt_tl hc) (fun y hy => hE y (List.mem_cons_of_mem _ hy)) hs' hl' hr'
    have hro : ¬ nI (roN x) = 0 := nI_ne0 (ro_pos x).1 (by have := (ro_pos x).2; omega)
    rw [f12_soIn_4, inb_nI (by omega) (by omega), ck_t, nI_clamp (by omega), sR_off sm (show 11 ≠ 24 by omega), sR_off sm (show 12 ≠ 24 by omega), e0, e1, if_neg hro, ck_t, lt_e]
    obtain ⟨h5, k0, k1, k2⟩ := hE x List.mem_cons_self
    obtain ⟨a, b⟩ := x
    rw [runA_c] at hr
    have hrL : ∀ v, lfB a = true → E (a, b) = v → s.length < 1100 ∧ runA E (fun a => (a ^^^ (-1)) &&& allS n) biW 1100 L (v :: s) = some o := by
      intro v hv he
      rw [if_pos hv] at hr
      by_cases hl2 : s.length < 1100
      · rw [if_pos hl2] at hr
        exact ⟨hl2, by rw [← he]; exact hr⟩
      · rw [if_neg hl2] at hr; exact absurd hr (by simp)
    have h5' : a ≤ 5 := h5
    rcases (show a = 0 ∨ a = 1 ∨ a = 2 ∨ a = 3 ∨ a = 4 ∨ a = 5 by omega) with rfl | rfl | rfl | rfl | rfl | rfl
    · obtain ⟨g1, g2⟩ := hrL _ rfl rfl
      have hw : f12_soOf (nI (raN (0, b))) (sR sm 24 p) = some (E (0, b)) := k0 rfl p
      rw [if_pos (show nI (roN (0, b)) = 2 from rfl), ck_t, hw, bd_s, inb_nI g1 (by omega), ck_t, lt_e, lt_e, oA_24, nI_clamp (by omega), nI_1]
      exact next _ (E (0, b) :: s) _ ⟨pk_us, stk_upd (Nat.le_refl _) hs⟩ rfl g1 g2
    · obtain ⟨g1, g2⟩ := hrL _ rfl rfl
      obtain ⟨hb, hw⟩ := k1 rfl
      have hb' : b < 8 := hb
      rw [if_neg (show ¬ nI (roN (1, b)) = 2 from (by decide : ¬ nI 1 = 2)), if_pos (show nI (roN (1, b)) = 1 from rfl), ck_t, show nI (raN (1, b)) = nI b from rfl, if_neg (show ¬ (20 : Int32) ≤ nI b from nI_ge (b := 20) (by omega) (by omega)), ck_t, show f12_worldsOf (nI b) = some (E (1, b)) from hw, bd_s]
      unfold f12_soIn_97
      rw [inb_nI g1 (by omega), ck_t, lt_e, lt_e, oA_24, nI_clamp (by omega), nI_1]
      exact next _ (E (1, b) :: s) _ ⟨pk_us, stk_upd (Nat.le_refl _) hs⟩ rfl g1 g2
    · obtain ⟨g1, g2⟩ := hrL _ rfl rfl
      obtain ⟨hb, hw⟩ := k2 rfl
      have hb' : b < 6 := hb
      have ew : sm.2.2.1 28 b = E (2, b) := hw
      have es : nI (20 + b) - 20 = nI b := by
        rw [show (20 : Int32) = nI 20 from rfl]
        have := pk_sub_toInt (a := 20 + b) (b := 20) (by omega) (by omega)
        rw [← Int32.toInt_inj, this, nI_toInt (by omega)]; omega
      rw [if_neg (show ¬ nI (roN (2, b)) = 2 from (by decide : ¬ nI 1 = 2)), if_pos (show nI (roN (2, b)) = 1 from rfl), ck_t, show nI (raN (2, b)) = nI (20 + b) from rfl, if_pos (show (20 : Int32) ≤ nI (20 + b) from nI_le (a := 20) (by omega) (by omega)), ck_t, es, inb_nI hb' (by omega), ck_t, nI_clamp (by omega), sR_off sm (show 28 ≠ 24 by omega), ew]
      unfold f12_soIn_97
      rw [inb_nI g1 (by omega), ck_t, lt_e, lt_e, oA_24, nI_clamp (by omega), nI_1]
      exact next _ (E (2, b) :: s) _ ⟨pk_us, stk_upd (Nat.le_refl _) hs⟩ rfl g1 g2
    · rw [if_neg (show ¬ nI (roN (3, b)) = 2 from (by decide : ¬ nI 3 = 2)), if_neg (show ¬ nI (roN (3, b)) = 1 from (by decide : ¬ nI 3 = 1)), if_pos (show nI (roN (3, b)) = 3 from rfl)]
      match s, hs, hl, hr with
      | v :: s, hs, hl, hr =>
        have hl' : s.length + 1 ≤ 1100 := hl
        have em : nI (v :: s).length - 1 = nI s.length := by
          show nI (s.length + 1) - 1 = _
          rw [nI_dec (by omega) (by omega), Nat.add_sub_cancel]
        rw [em, inb_nI (by omega) (by omega), ck_t, hall, bd_s, ck_t, lt_e, oA_24, nI_clamp (by omega), sR_at, hs.1]
        exact next _ (((v ^^^ (-1)) &&& allS n) :: s) _ ⟨pk_us, stk_upd (Nat.le_refl _) hs.2⟩ rfl hl' hr
      | [], hs, hl, hr => exact absurd hr (by simp [lfB])
    · rw [if_neg (show ¬ nI (roN (4, b)) = 2 from (by decide : ¬ nI 9 = 2)), if_neg (show ¬ nI (roN (4, b)) = 1 from (by decide : ¬ nI 9 = 1)), if_neg (show ¬ nI (roN (4, b)) = 3 from (by decide : ¬ nI 9 = 3)), lt_e, if_pos (show nI (roN (4, b)) = 9 from rfl)]
      match s, hs, hl, hr with
      | v :: w :: s, hs, hl, hr =>
        have hl' : s.length + 2 ≤ 1100 := hl
        have em : nI (v :: w :: s).length + -1 = nI (s.length + 1) := by
          show nI (s.length + 2) + -1 = _
          rw [← Int32.sub_eq_add_neg, nI_dec (by omega) (by omega)]
          rfl
        have em2 : nI (s.length + 1) - 1 = nI s.length := by
          rw [nI_dec (by omega) (by omega), Nat.add_sub_cancel]
        have hv : p (s.length + 1) = v := hs.1
        have hw : p s.length = w := hs.2.1
        rw [em, em2, inb_nI (by omega) (by omega), ck_t, inb_nI (show s.length + 1 < 1100 by omega) (by omega), ck_t, nI_clamp (by omega), nI_clamp (by omega), sR_at, hv, hw]
        unfold f12_soIn_186
        rw [inb_nI (by omega) (by omega), ck_t, lt_e, oA_24, nI_clamp (by omega)]
        exact next _ ((w &&& v) :: s) _ ⟨pk_us, stk_upd (Nat.le_refl _) hs.2.2⟩ rfl (by show s.length + 1 ≤ 1100; omega) hr
      | [], hs, hl, hr => exact absurd hr (by simp [lfB])
      | [a], hs, hl, hr => exact absurd hr (by simp [lfB])
    · rw [if_neg (show ¬ nI (roN (5, b)) = 2 from (by decide : ¬ nI 10 = 2)), if_neg (show ¬ nI (roN (5, b)) = 1 from (by decide : ¬ nI 10 = 1)), if_neg (show ¬ nI (roN (5, b)) = 3 from (by decide : ¬ nI 10 = 3)), lt_e, if_neg (show ¬ nI (roN (5, b)) = 9 from (by decide : ¬ nI 10 = 9))]
      match s, hs, hl, hr with
      | v :: w :: s, hs, hl, hr =>
        have hl' : s.length + 2 ≤ 1100 := hl
        have em : nI (v :: w :: s).length + -1 = nI (s.length + 1) := by
          show nI (s.length + 2) + -1 = _
          rw [← Int32.sub_eq_add_neg, nI_dec (by omega) (by omega)]
          rfl
        have em2 : nI (s.length + 1) - 1 = nI s.length := by
          rw [nI_dec (by omega) (by omega), Nat.add_sub_cancel]
        have hv : p (s.length + 1) = v := hs.1
        have hw : p s.length = w := hs.2.1
        rw [em, em2, inb_nI (by omega) (by omega), ck_t, inb_nI (show s.length + 1 < 1100 by omega) (by omega), ck_t, nI_clamp (by omega), nI_clamp (by omega), sR_at, hv, hw]
        unfold f12_soIn_186
        rw [inb_nI (by omega) (by omega), ck_t, lt_e, oA_24, nI_clamp (by omega)]
        exact next _ ((w ||| v) :: s) _ ⟨pk_us, stk_upd (Nat.le_refl _) hs.2.2⟩ rfl (by show s.length + 1 ≤ 1100; omega) hr
      | [], hs, hl, hr => exact absurd hr (by simp [lfB])
      | [a], hs, hl, hr => exact absurd hr (by simp [lfB])
