/-! pure: worth at the reference -/
theorem r_worthR {sm : Ob} : ∀ (L : List (Nat × Nat)) (pos m : Nat) (s o : List Int32) (p : Nat → Int32), L.length + 1 < m → pos + L.length < 3300 → CdBt (sm.2.2.1 11) (sm.2.2.1 12) pos L → LvA 9 0 L → StkF p s → s.length ≤ 1100 → runA (eA (sm.2.2.1 23 0) (sm.2.2.1 23 1) (sm.2.2.1 23 2)) unA biA 1100 L s = some o → ∃ q, f12_worthAt_4 m (nI s.length) (nI pos) (sR sm 24 p) = some (q 0, sR sm 24 q) ∧ StkF q o := by
  intro L
  induction L with
  | nil =>
    intro pos m s o p hm hp hc hE hs hl hr
    obtain ⟨m, rfl⟩ : ∃ k, m = k + 1 := ⟨m - 1, by omega⟩
    rw [← Option.some.inj hr]
    refine ⟨p, ?_, hs⟩
    have h0 : sm.2.2.1 11 pos = 0 := hc.2
    have hp' : pos < 3300 := hp
    rw [f12_worthAt_4, inb_nI hp' (by omega), ck_t, nI_clamp (by omega), sR_off sm (by omega), if_pos h0, show inb 0 1100 = true from rfl, ck_t, sR_at]
    rfl
  | cons x L ih =>
    intro pos m s o p hm hp hc hE hs hl hr
    obtain ⟨m, rfl⟩ : ∃ k, m = k + 1 := ⟨m - 1, by omega⟩
    have hL : (x :: L).length = L.length + 1 := rfl
    rw [hL] at hm hp
    obtain ⟨e0, e1⟩ := hc.1 0 x rfl
    rw [Nat.add_zero] at e0 e1
    have next : ∀ q s' k, StkF q s' → k = nI s'.length → s'.length ≤ 1100 → runA (eA (sm.2.2.1 23 0) (sm.2.2.1 23 1) (sm.2.2.1 23 2)) unA biA 1100 L s' = some o → ∃ q', f12_worthAt_134 (f12_worthAt_4 m) k (nI pos) (sR sm 24 q) = some (q' 0, sR sm 24 q') ∧ StkF q' o := by
      intro q s' k hs' hk hl' hr'
      unfold f12_worthAt_134
      rw [lt_e, nI_1, hk]
      exact ih (pos + 1) m s' o q (by omega) (by omega) (CdBt_tl hc) (fun y hy => hE y (List.mem_cons_of_mem _ hy)) hs' hl' hr'
    have hro : ¬ nI (roN x) = 0 := nI_ne0 (ro_pos x).1 (by have := (ro_pos x).2; omega)
    rw [f12_worthAt_4, inb_nI (by omega) (by omega), ck_t, nI_clamp (by omega), sR_off sm (show 11 ≠ 24 by omega), e0, if_neg hro, ck_t, lt_e]
    obtain ⟨h12, -, h3, -, -, -, h11, hb3⟩ := hE x List.mem_cons_self
    have h3' := h3 (by omega)
    obtain ⟨a, b⟩ := x
    rw [runA_c] at hr
    have hrL : ∀ v, lfB a = true → eA (sm.2.2.1 23 0) (sm.2.2.1 23 1) (sm.2.2.1 23 2) (a, b) = v → s.length < 1100 ∧ runA (eA (sm.2.2.1 23 0) (sm.2.2.1 23 1) (sm.2.2.1 23 2)) unA biA 1100 L (v :: s) = some o := by
      intro v hv he
      rw [if_pos hv] at hr
      by_cases hl2 : s.length < 1100
      · rw [if_pos hl2] at hr
        exact ⟨hl2, by rw [← he]; exact hr⟩
      · rw [if_neg hl2] at hr; exact absurd hr (by simp)
    have h12' : a ≤ 12 := h12
    have h3'' : 3 ≤ a := h3'
    rcases (show a = 3 ∨ (4 ≤ a ∧ a ≤ 10) ∨ a = 11 ∨ a = 12 by omega) with rfl | ⟨a1, a2⟩ | rfl | rfl
    · rw [if_neg (show ¬ nI (roN (3, b)) = 1 from (by decide : ¬ nI 3 = 1)), if_neg (show ¬ nI (roN (3, b)) = 2 from (by decide : ¬ nI 3 = 2)), if_pos (show nI (roN (3, b)) = 3 from rfl)]
      match s, hs, hl, hr with
      | v :: s, hs, hl, hr =>
        have hl' : s.length + 1 ≤ 1100 := hl
        have em : nI (v :: s).length - 1 = nI s.length := by
          show nI (s.length + 1) - 1 = _
          rw [nI_dec (by omega) (by omega), Nat.add_sub_cancel]
        rw [em, inb_nI (by omega) (by omega), ck_t, nI_clamp (by omega), sR_at, hs.1]
        have key : (if v = 0 then f12_worthAt_100 (f12_worthAt_4 m) (nI (v :: s).length) (nI pos) (nI s.length) 1 (sR sm 24 p) else f12_worthAt_100 (f12_worthAt_4 m) (nI (v :: s).length) (nI pos) (nI s.length) 0 (sR sm 24 p)) = f12_worthAt_134 (f12_worthAt_4 m) (nI (v :: s).length) (nI pos) (sR sm 24 (upd p s.length (unA v))) := by
          unfold f12_worthAt_100 unA
          rw [inb_nI (by omega) (by omega), ck_t, ck_t, lt_e, lt_e, oA_24, oA_24, nI_clamp (by omega)]
          by_cases hv : v = 0
          · rw [if_pos hv, if_pos hv]
          · rw [if_neg hv, if_neg hv]
        rw [key]
        exact next _ (unA v :: s) _ ⟨pk_us, stk_upd (Nat.le_refl _) hs.2⟩ rfl hl' hr
      | [], hs, hl, hr => exact absurd hr (by simp [lfB])
    · obtain ⟨c1, c2⟩ := ck_op (b := b) a1 a2
      have hlf : ¬ lfB a = true := by unfold lfB; simp only [decide_eq_true_eq]; omega
      have hv : ∀ k, (k = 1 ∨ k = 2 ∨ k = 3) → ¬ roN (a, 0) = k := by
        intro k hk
        rcases (show a = 4 ∨ a = 5 ∨ a = 6 ∨ a = 7 ∨ a = 8 ∨ a = 9 ∨ a = 10 by omega) with rfl | rfl | rfl | rfl | rfl | rfl | rfl <;> rcases hk with rfl | rfl | rfl <;> decide
      have hck := (ro_pos (a, 0)).2
      rw [c2]
      rw [if_neg (show ¬ nI (roN (a, 0)) = 1 from fun h => hv 1 (by omega) ((nI_eq (b := 1) (by omega) (by omega)).mp h)), if_neg (show ¬ nI (roN (a, 0)) = 2 from fun h => hv 2 (by omega) ((nI_eq (b := 2) (by omega) (by omega)).mp h)), if_neg (show ¬ nI (roN (a, 0)) = 3 from fun h => hv 3 (by omega) ((nI_eq (b := 3) (by omega) (by omega)).mp h)), lt_e]
      rw [if_neg hlf, if_neg (show ¬ a = 3 by omega)] at hr
      match s, hs, hl, hr with
      | v :: w :: s, hs, hl, hr =>
        have hl' : s.length + 2 ≤ 1100 := hl
        have em : nI (v :: w :: s).length + -1 = nI (s.length + 1) := by
          show nI (s.length + 2) + -1 = _
          rw [← Int32.sub_eq_add_neg, nI_dec (by omega) (by omega)]
          rfl
        have em2 : nI (s.length + 1) - 1 = nI s.length := by
          rw [nI_dec (by omega) (by omega), Nat.add_sub_cancel]
        have hv : p (s.length + 1) = v := hs.1
        have hw : p s.length = w := hs.2.1
        rw [em, em2, inb_nI (by omega) (by omega), ck_t, inb_nI (show s.length + 1 < 1100 by omega) (by omega), ck_t, nI_clamp (by omega), nI_clamp (by omega), sR_at, hv, hw, r_both a1 a2, bd_s, ck_t, lt_e, oA_24]
        exact next _ (biA a w v :: s) _ ⟨pk_us, stk_upd (Nat.le_refl _) hs.2.2⟩ rfl (by show s.length + 1 ≤ 1100; omega) hr
      | [], hs, hl, hr => exact absurd hr (by simp)
      | [a], hs, hl, hr => exact absurd hr (by simp)
    · obtain ⟨g1, g2⟩ := hrL _ rfl rfl
      rw [if_pos (show nI (roN (11, b)) = 1 from rfl)]
      unfold f12_worthAt_33
      rw [if_pos (show nI (roN (11, b)) = 1 from rfl), inb_nI (show pos < 3300 by omega) (by omega), ck_t, nI_clamp (by omega), sR_off sm (show 12 ≠ 24 by omega), e1]
      unfold f12_worthAt_64
      rw [inb_nI g1 (by omega), ck_t, lt_e, lt_e, oA_24, nI_clamp (by omega), nI_1]
      exact next _ (nI b :: s) _ ⟨pk_us, stk_upd (Nat.le_refl _) hs⟩ rfl g1 g2
    · obtain ⟨g1, g2⟩ := hrL _ rfl rfl
      have hb : b < 3 := hb3 rfl
      have er : sm.2.2.1 23 b = eA (sm.2.2.1 23 0) (sm.2.2.1 23 1) (sm.2.2.1 23 2) (12, b) := by
        rcases (show b = 0 ∨ b = 1 ∨ b = 2 by omega) with rfl | rfl | rfl <;> rfl
      rw [if_neg (show ¬ nI (roN (12, b)) = 1 from (by decide : ¬ nI 2 = 1)), if_pos (show nI (roN (12, b)) = 2 from rfl)]
      unfold f12_worthAt_33
      rw [if_neg (show ¬ nI (roN (12, b)) = 1 from (by decide : ¬ nI 2 = 1)), inb_nI (show pos < 3300 by omega) (by omega), ck_t, nI_clamp (by omega), sR_off sm (show 12 ≠ 24 by omega), e1, show nI (raN (12, b)) = nI b from rfl, inb_nI hb (by omega), ck_t, nI_clamp (by omega), sR_off sm (show 23 ≠ 24 by omega), er]
      unfold f12_worthAt_64
      rw [inb_nI g1 (by omega), ck_t, lt_e, lt_e, oA_24, nI_clamp (by omega), nI_1]
      exact next _ (eA (sm.2.2.1 23 0) (sm.2.2.1 23 1) (sm.2.2.1 23 2) (12, b) :: s) _ ⟨pk_us, stk_upd (Nat.le_refl _) hs⟩ rfl g1 g2
/-- amounts agree -/
theorem amount_both {SI sm SC : Ob} {L : List (Nat × Nat)} {n j sp r h : Nat} (hj : j < 8) (hw : WfA L h) (h64 : h ≤ 64) (hlv : LvA 9 0 L) (hc : CdAt SC sp L) (hsp : sp + L.length ≤ 1000) (hb : CdBt (sm.2.2.1 11) (sm.2.2.1 12) r L) (hrp : r + L.length < 3300) (e0 : sm.2.2.1 23 0 = SI.2.2.1 3 j) (e1 : sm.2.2.1 23 1 = SI.2.2.1 4 j) (e2 : sm.2.2.1 23 2 = SI.1 0) : ∃ v p SC', f2_amount (nI j) (nI sp) (nI (sp + L.length)) SC SI = some (v, SC') ∧ FrS SC SC' ∧ f12_worthAt (nI r) sm = some (v, sR sm 24 p) := by
  obtain ⟨v1, v2, a1, a2, a3⟩ := wf_rel (R := fun a b => a = b) (E1 := eA (SI.2.2.1 3 j) (SI.2.2.1 4 j) (SI.1 0)) (E2 := eA (sm.2.2.1 23 0) (sm.2.2.1 23 1) (sm.2.2.1 23 2)) (un1 := unA) (un2 := unA) (bi1 := biA) (bi2 := biA) hw h64 (fun a b e => by rw [e]) (fun x _ _ => by rw [e0, e1, e2]) (fun x _ a b c d e f => by rw [e, f])
  have hS0 : FrS SC (oI SC 4 0) := ⟨fun k hk => va_ne _ hk _, rfl, fun _ _ => rfl, rfl⟩
  obtain ⟨SC1, b1, b2, b3, b4⟩ := c_amount (SI := SI) hj L sp FU (oI SC 4 0) [] [v1] (FU_lt (by omega)) hsp (fun k x hx => hc k x hx) hlv ⟨rfl, trivial⟩ (by show 0 ≤ 64; omega) a1
  obtain ⟨SC2, c1, c2, c3⟩ := c_pop b2 (by show 0 < 64; omega)
  obtain ⟨q, d1, d2⟩ := r_worthR (sm := sm) L r FU [] [v2] (sm.2.2.1 24) (FU_lt (by omega)) hrp hb hlv trivial (by show 0 ≤ 1100; omega) a2
  refine ⟨v1, q, SC2, ?_, FrS_tr hS0 (FrS_tr b4 c3), ?_⟩
  · unfold f2_amount
    rw [lt_e, b1]
    unfold f2_amount_178
    rw [c1, bd_s]
  · have es : sR sm 24 (sm.2.2.1 24) = sm := by unfold sR; rw [va_self]
    have d0 : q 0 = v2 := d2.1
    rw [es, d0, ← a3] at d1
    exact d1
