/-! pure: amounts -/
def unA (a : Int32) : Int32 := if a = 0 then 1 else 0
def biA (op : Nat) (a b : Int32) : Int32 := if op = 4 then (if a = 0 then 0 else if b = 0 then 0 else 1) else if op = 6 then a * b else if op = 7 then a + b else if op = 8 then a - b else if op = 9 then (if b ≤ a then 0 else 1) else if op = 10 then (if a = b then 1 else 0) else (if a = 0 then (if b = 0 then 0 else 1) else 1)
theorem c_join {op : Nat} (h1 : 4 ≤ op) (h2 : op ≤ 10) (a b : Int32) : f2_joined (nI (ckN (op, 0))) a b = some (biA op a b) := by
  unfold f2_joined
  rcases (show op = 4 ∨ op = 5 ∨ op = 6 ∨ op = 7 ∨ op = 8 ∨ op = 9 ∨ op = 10 by omega) with rfl | rfl | rfl | rfl | rfl | rfl | rfl
  · rw [if_pos (show nI (ckN (4, 0)) = 27 by decide)]
    show _ = some (if a = 0 then 0 else if b = 0 then 0 else 1)
    split
    · rfl
    · split <;> rfl
  · rw [if_neg (show ¬ nI (ckN (5, 0)) = 27 by decide), if_neg (show ¬ nI (ckN (5, 0)) = 42 by decide), if_neg (show ¬ nI (ckN (5, 0)) = 43 by decide), if_neg (show ¬ nI (ckN (5, 0)) = 45 by decide), if_neg (show ¬ nI (ckN (5, 0)) = 60 by decide), if_neg (show ¬ nI (ckN (5, 0)) = 61 by decide)]
    show _ = some (if a = 0 then (if b = 0 then 0 else 1) else 1)
    split
    · split <;> rfl
    · rfl
  · rw [if_neg (show ¬ nI (ckN (6, 0)) = 27 by decide), if_pos (show nI (ckN (6, 0)) = 42 by decide)]; rfl
  · rw [if_neg (show ¬ nI (ckN (7, 0)) = 27 by decide), if_neg (show ¬ nI (ckN (7, 0)) = 42 by decide), if_pos (show nI (ckN (7, 0)) = 43 by decide)]; rfl
  · rw [if_neg (show ¬ nI (ckN (8, 0)) = 27 by decide), if_neg (show ¬ nI (ckN (8, 0)) = 42 by decide), if_neg (show ¬ nI (ckN (8, 0)) = 43 by decide), if_pos (show nI (ckN (8, 0)) = 45 by decide)]; rfl
  · rw [if_neg (show ¬ nI (ckN (9, 0)) = 27 by decide), if_neg (show ¬ nI (ckN (9, 0)) = 42 by decide), if_neg (show ¬ nI (ckN (9, 0)) = 43 by decide), if_neg (show ¬ nI (ckN (9, 0)) = 45 by decide), if_pos (show nI (ckN (9, 0)) = 60 by decide)]
    show _ = some (if b ≤ a then 0 else 1)
    split <;> rfl
  · rw [if_neg (show ¬ nI (ckN (10, 0)) = 27 by decide), if_neg (show ¬ nI (ckN (10, 0)) = 42 by decide), if_neg (show ¬ nI (ckN (10, 0)) = 43 by decide), if_neg (show ¬ nI (ckN (10, 0)) = 45 by decide), if_neg (show ¬ nI (ckN (10, 0)) = 60 by decide), if_pos (show nI (ckN (10, 0)) = 61 by decide)]
    show _ = some (if a = b then 1 else 0)
    split <;> rfl
theorem r_both {op : Nat} (h1 : 4 ≤ op) (h2 : op ≤ 10) (a b : Int32) : f12_both (nI (roN (op, 0))) a b = some (biA op a b) := by
  unfold f12_both
  rcases (show op = 4 ∨ op = 5 ∨ op = 6 ∨ op = 7 ∨ op = 8 ∨ op = 9 ∨ op = 10 by omega) with rfl | rfl | rfl | rfl | rfl | rfl | rfl
  · rw [if_neg (show ¬ nI (roN (4, 0)) = 4 by decide), if_neg (show ¬ nI (roN (4, 0)) = 5 by decide), if_neg (show ¬ nI (roN (4, 0)) = 6 by decide), if_neg (show ¬ nI (roN (4, 0)) = 7 by decide), if_neg (show ¬ nI (roN (4, 0)) = 8 by decide), if_pos (show nI (roN (4, 0)) = 9 by decide)]
    show _ = some (if a = 0 then 0 else if b = 0 then 0 else 1)
    split
    · rfl
    · split <;> rfl
  · rw [if_neg (show ¬ nI (roN (5, 0)) = 4 by decide), if_neg (show ¬ nI (roN (5, 0)) = 5 by decide), if_neg (show ¬ nI (roN (5, 0)) = 6 by decide), if_neg (show ¬ nI (roN (5, 0)) = 7 by decide), if_neg (show ¬ nI (roN (5, 0)) = 8 by decide), if_neg (show ¬ nI (roN (5, 0)) = 9 by decide)]
    show _ = some (if a = 0 then (if b = 0 then 0 else 1) else 1)
    split
    · split <;> rfl
    · rfl
  · rw [if_neg (show ¬ nI (roN (6, 0)) = 4 by decide), if_neg (show ¬ nI (roN (6, 0)) = 5 by decide), if_pos (show nI (roN (6, 0)) = 6 by decide)]; rfl
  · rw [if_pos (show nI (roN (7, 0)) = 4 by decide)]; rfl
  · rw [if_neg (show ¬ nI (roN (8, 0)) = 4 by decide), if_pos (show nI (roN (8, 0)) = 5 by decide)]; rfl
  · rw [if_neg (show ¬ nI (roN (9, 0)) = 4 by decide), if_neg (show ¬ nI (roN (9, 0)) = 5 by decide), if_neg (show ¬ nI (roN (9, 0)) = 6 by decide), if_pos (show nI (roN (9, 0)) = 7 by decide)]
    show _ = some (if b ≤ a then 0 else 1)
    split <;> rfl
  · rw [if_neg (show ¬ nI (roN (10, 0)) = 4 by decide), if_neg (show ¬ nI (roN (10, 0)) = 5 by decide), if_neg (show ¬ nI (roN (10, 0)) = 6 by decide), if_neg (show ¬ nI (roN (10, 0)) = 7 by decide), if_pos (show nI (roN (10, 0)) = 8 by decide)]
    show _ = some (if a = b then 1 else 0)
    split <;> rfl
def eA (u v w : Int32) (x : Nat × Nat) : Int32 := if x.1 = 11 then nI x.2 else if x.2 = 0 then u else if x.2 = 1 then v else w
theorem ck_op {op b : Nat} (h1 : 4 ≤ op) (h2 : op ≤ 10) : ckN (op, b) = ckN (op, 0) ∧ roN (op, b) = roN (op, 0) := by
  rcases (show op = 4 ∨ op = 5 ∨ op = 6 ∨ op = 7 ∨ op = 8 ∨ op = 9 ∨ op = 10 by omega) with rfl | rfl | rfl | rfl | rfl | rfl | rfl <;> exact ⟨rfl, rfl⟩
theorem c_amount {SI : Ob} {j : Nat} (hj : j < 8) : ∀ (L : List (Nat × Nat)) (pos m : Nat) (SC : Ob) (s o : List Int32), L.length + 1 < m → pos + L.length ≤ 1000 → CdAt SC pos L → LvA 9 0 L → StkC SC s → s.length ≤ 64 → runA (eA (SI.2.2.1 3 j) (SI.2.2.1 4 j) (SI.1 0)) unA biA 64 L s = some o → ∃ SC', f2_amount_8 m (nI j) (nI (pos + L.length)) (nI pos) SC SI = f2_amount_178 SC' SI ∧ StkC SC' o ∧ o.length ≤ 64 ∧ FrS SC SC' := by
  intro L
  induction L with
  | nil =>
    intro pos m SC s o hm hp hc hE hs hl hr
    obtain ⟨m, rfl⟩ : ∃ k, m = k + 1 := ⟨m - 1, by omega⟩
    rw [← Option.some.inj hr]
    refine ⟨SC, ?_, hs, hl, FrS_refl _⟩
    rw [f2_amount_8, if_pos (nI_le (by show pos + 0 ≤ pos; omega) (by have : pos + 0 ≤ 1000 := hp; omega))]
  | cons x L ih =>
    intro pos m SC s o hm hp hc hE hs hl hr
    obtain ⟨m, rfl⟩ : ∃ k, m = k + 1 := ⟨m - 1, by omega⟩
    have hL : (x :: L).length = L.length + 1 := rfl
    rw [hL] at hm hp
    have e0 := (hc 0 x rfl).1
    have e1 := (hc 0 x rfl).2
    rw [Nat.add_zero] at e0 e1
    have next : ∀ SC' s', FrS SC SC' → StkC SC' s' → s'.length ≤ 64 → runA (eA (SI.2.2.1 3 j) (SI.2.2.1 4 j) (SI.1 0)) unA biA 64 L s' = some o → ∃ SC2, f2_amount_172 (f2_amount_8 m) (nI j) (nI (pos + (x :: L).length)) (nI pos) SC' SI = f2_amount_178 SC2 SI ∧ StkC SC2 o ∧ o.length ≤ 64 ∧ FrS SC SC2 := by
      intro SC' s' hf hs' hl' hr'
      obtain ⟨SC2, g1, g2, g3, g4⟩ := ih (pos + 1) m SC' s' o (by omega) (by omega) (CdAt_tl hc hf) (fun y hy => hE y (List.mem_cons_of_mem _ hy)) hs' hl' hr'
      refine ⟨SC2, ?_, g2, g3, FrS_tr hf g4⟩
      unfold f2_amount_172
      rw [lt_e, nI_1, hL, show pos + (L.length + 1) = pos + 1 + L.length by omega, g1]
    rw [f2_amount_8, if_neg (show ¬ nI (pos + (x :: L).length) ≤ nI pos from nI_ge (by rw [hL]; omega) (by rw [hL]; omega)), if_neg (show ¬ (1000 : Int32) ≤ nI pos from nI_ge (b := 1000) (by omega) (by omega)), inb_nI (by omega) (by omega), ck_t, nI_clamp (show pos < 2 ^ 31 by omega), e0, inb_nI hj (by omega), nI_clamp (show j < 2 ^ 31 by omega)]
    obtain ⟨h12, -, h3, -, -, -, h11, hb3⟩ := hE x List.mem_cons_self
    have h3' := h3 (by omega)
    obtain ⟨a, b⟩ := x
    rw [runA_c] at hr
    have leaf : ∀ v, lfB a = true → eA (SI.2.2.1 3 j) (SI.2.2.1 4 j) (SI.1 0) (a, b) = v → ∃ SC', (bd (f2_push v SC) fun q => f2_amount_172 (f2_amount_8 m) (nI j) (nI (pos + ((a, b) :: L).length)) (nI pos) q SI) = f2_amount_178 SC' SI ∧ StkC SC' o ∧ o.length ≤ 64 ∧ FrS SC SC' := by
      intro v hv he
      rw [if_pos hv] at hr
      by_cases hl2 : s.length < 64
      · rw [if_pos hl2] at hr
        obtain ⟨SC', p1, p2, p3⟩ := c_push hs hl2 v
        rw [p1, bd_s]
        exact next SC' (v :: s) p3 p2 hl2 (by rw [← he]; exact hr)
      · rw [if_neg hl2] at hr; exact absurd hr (by simp)
    have h12' : a ≤ 12 := h12
    have h3'' : 3 ≤ a := h3'
    rcases (show a = 3 ∨ (4 ≤ a ∧ a ≤ 10) ∨ a = 11 ∨ a = 12 by omega) with rfl | ⟨a1, a2⟩ | rfl | rfl
    · rw [if_pos (show nI (ckN (3, b)) = 26 from rfl)]
      match s, hs, hl, hr with
      | v :: s, hs, hl, hr =>
        have hl' : s.length < 64 := hl
        obtain ⟨SC1, p1, p2, p3⟩ := c_pop hs hl'
        obtain ⟨SC2, q1, q2, q3⟩ := c_push p2 hl' (unA v)
        rw [p1, bd_s]
        have key : (if v = 0 then f2_amount_140 (f2_amount_8 m) (nI j) (nI (pos + ((3, b) :: L).length)) (nI pos) 1 SC1 SI else f2_amount_140 (f2_amount_8 m) (nI j) (nI (pos + ((3, b) :: L).length)) (nI pos) 0 SC1 SI) = f2_amount_172 (f2_amount_8 m) (nI j) (nI (pos + ((3, b) :: L).length)) (nI pos) SC2 SI := by
          unfold unA at q1
          unfold f2_amount_140
          by_cases hv : v = 0
          · rw [if_pos hv] at q1 ⊢; rw [q1, bd_s]
          · rw [if_neg hv] at q1 ⊢; rw [q1, bd_s]
        show ∃ SC', (if v = 0 then f2_amount_140 (f2_amount_8 m) (nI j) (nI (pos + ((3, b) :: L).length)) (nI pos) 1 SC1 SI else f2_amount_140 (f2_amount_8 m) (nI j) (nI (pos + ((3, b) :: L).length)) (nI pos) 0 SC1 SI) = _ ∧ _
        rw [key]
        exact next SC2 _ (FrS_tr p3 q3) q2 hl' hr
      | [], hs, hl, hr => exact absurd hr (by simp [lfB])
    · obtain ⟨c1, c2⟩ := ck_op (b := b) a1 a2
      have hlf : ¬ lfB a = true := by unfold lfB; simp only [decide_eq_true_eq]; omega
      have hv : ∀ k, (k = 26 ∨ k = 29 ∨ k = 30 ∨ k = 31 ∨ k = 33) → ¬ ckN (a, 0) = k := by
        intro k hk
        rcases (show a = 4 ∨ a = 5 ∨ a = 6 ∨ a = 7 ∨ a = 8 ∨ a = 9 ∨ a = 10 by omega) with rfl | rfl | rfl | rfl | rfl | rfl | rfl <;> rcases hk with rfl | rfl | rfl | rfl | rfl <;> decide
      have hck : ckN (a, 0) < 62 := by
        rcases (show a = 4 ∨ a = 5 ∨ a = 6 ∨ a = 7 ∨ a = 8 ∨ a = 9 ∨ a = 10 by omega) with rfl | rfl | rfl | rfl | rfl | rfl | rfl <;> decide
      rw [c1]
      rw [if_neg (show ¬ nI (ckN (a, 0)) = 26 from fun h => hv 26 (by omega) ((nI_eq (b := 26) (by omega) (by omega)).mp h)), if_neg (show ¬ nI (ckN (a, 0)) = 29 from fun h => hv 29 (by omega) ((nI_eq (b := 29) (by omega) (by omega)).mp h)), if_neg (show ¬ nI (ckN (a, 0)) = 30 from fun h => hv 30 (by omega) ((nI_eq (b := 30) (by omega) (by omega)).mp h)), if_neg (show ¬ nI (ckN (a, 0)) = 31 from fun h => hv 31 (by omega) ((nI_eq (b := 31) (by omega) (by omega)).mp h)), if_neg (show ¬ nI (ckN (a, 0)) = 33 from fun h => hv 33 (by omega) ((nI_eq (b := 33) (by omega) (by omega)).mp h))]
      rw [if_neg hlf, if_neg (show ¬ a = 3 by omega)] at hr
      match s, hs, hl, hr with
      | v :: w :: s, hs, hl, hr =>
        have hl' : s.length + 1 < 64 := hl
        obtain ⟨SC1, p1, p2, p3⟩ := c_pop hs (show (w :: s).length < 64 from hl')
        obtain ⟨SC2, q1, q2, q3⟩ := c_pop p2 (show s.length < 64 by omega)
        obtain ⟨SC3, u1, u2, u3⟩ := c_push q2 (show s.length < 64 by omega) (biA a w v)
        have er : SC1.2.2.1 0 pos = nI (ckN (a, 0)) := by rw [p3.2.2.1 0 (by omega), e0, c1]
        rw [p1, bd_s, lt_e, ck_t]
        show ∃ SC', (bd (f2_pop SC1) fun r_60 => bd (f2_joined (SC1.2.2.1 0 pos) r_60.1 v) fun r_62 => bd (f2_push r_62 r_60.2) fun r_64 => f2_amount_172 (f2_amount_8 m) (nI j) (nI (pos + ((a, b) :: L).length)) (nI pos) r_64 SI) = _ ∧ _
        rw [q1, bd_s, er]
        show ∃ SC', (bd (f2_joined (nI (ckN (a, 0))) w v) fun r_62 => bd (f2_push r_62 SC2) fun r_64 => f2_amount_172 (f2_amount_8 m) (nI j) (nI (pos + ((a, b) :: L).length)) (nI pos) r_64 SI) = _ ∧ _
        rw [c_join a1 a2, bd_s, u1, bd_s]
        exact next SC3 _ (FrS_tr p3 (FrS_tr q3 u3)) u2 (by show s.length + 1 ≤ 64; omega) hr
      | [], hs, hl, hr => exact absurd hr (by simp)
      | [a], hs, hl, hr => exact absurd hr (by simp)
    · rw [if_neg (show ¬ nI (ckN (11, b)) = 26 from (by decide : ¬ nI 33 = 26)), if_neg (show ¬ nI (ckN (11, b)) = 29 from (by decide : ¬ nI 33 = 29)), if_neg (show ¬ nI (ckN (11, b)) = 30 from (by decide : ¬ nI 33 = 30)), if_neg (show ¬ nI (ckN (11, b)) = 31 from (by decide : ¬ nI 33 = 31)), if_pos (show nI (ckN (11, b)) = 33 from rfl), e1 (show (11 : Nat) ≠ 12 by omega), ck_t]
      exact leaf _ rfl rfl
    · have hb : b < 3 := hb3 rfl
      rcases (show b = 0 ∨ b = 1 ∨ b = 2 by omega) with rfl | rfl | rfl
      · rw [if_neg (show ¬ nI (ckN (12, 0)) = 26 by decide), if_pos (show nI (ckN (12, 0)) = 29 by decide), ck_t]
        exact leaf _ rfl rfl
      · rw [if_neg (show ¬ nI (ckN (12, 1)) = 26 by decide), if_neg (show ¬ nI (ckN (12, 1)) = 29 by decide), if_pos (show nI (ckN (12, 1)) = 30 by decide), ck_t]
        exact leaf _ rfl rfl
      · rw [if_neg (show ¬ nI (ckN (12, 2)) = 26 by decide), if_neg (show ¬ nI (ckN (12, 2)) = 29 by decide), if_neg (show ¬ nI (ckN (12, 2)) = 30 by decide), if_pos (show nI (ckN (12, 2)) = 31 by decide)]
        exact leaf _ rfl rfl
