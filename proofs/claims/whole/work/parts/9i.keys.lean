/-! pure: words of the language, tokens -/
def kwL : List (List Nat) := [[103, 117, 101, 115, 116], [114, 111, 111, 109], [115, 116, 97, 121, 115], [115, 105, 103, 110], [101, 114, 114, 115], [119, 104, 101, 110], [115, 101, 101, 115], [115, 104, 117, 110], [98, 105, 108, 108], [115, 97, 121, 115], [115, 104, 111, 119, 115], [104, 105, 100, 101, 115], [119, 101, 97, 116, 104, 101, 114], [110, 105, 103, 104, 116], [112, 108, 97, 105, 110], [104, 111, 110, 101, 115, 116], [108, 105, 97, 114], [109, 97, 100], [99, 108, 101, 97, 114], [115, 110, 111, 119], [102, 111, 103], [119, 105, 110, 100], [111, 100, 100], [108, 111, 119], [97, 108, 111, 110, 101], [111, 108, 100], [110, 111, 116], [97, 110, 100], [111, 114], [100, 111, 111, 114], [110, 105, 103, 104, 116, 115], [109, 97, 110, 121]]
def kwT : List Nat := [103, 117, 101, 115, 116, 32, 114, 111, 111, 109, 32, 115, 116, 97, 121, 115, 32, 115, 105, 103, 110, 32, 101, 114, 114, 115, 32, 119, 104, 101, 110, 32, 115, 101, 101, 115, 32, 115, 104, 117, 110, 32, 98, 105, 108, 108, 32, 115, 97, 121, 115, 32, 115, 104, 111, 119, 115, 32, 104, 105, 100, 101, 115, 32, 119, 101, 97, 116, 104, 101, 114, 32, 110, 105, 103, 104, 116, 32, 112, 108, 97, 105, 110, 32, 104, 111, 110, 101, 115, 116, 32, 108, 105, 97, 114, 32, 109, 97, 100, 32, 99, 108, 101, 97, 114, 32, 115, 110, 111, 119, 32, 102, 111, 103, 32, 119, 105, 110, 100, 32, 111, 100, 100, 32, 108, 111, 119, 32, 97, 108, 111, 110, 101, 32, 111, 108, 100, 32, 110, 111, 116, 32, 97, 110, 100, 32, 111, 114, 32, 100, 111, 111, 114, 32, 110, 105, 103, 104, 116, 115, 32, 109, 97, 110, 121, 32]
def kw (i : Nat) : List Nat := kwL.getD i []
theorem key_m : ∀ i, i < 32 → wk12_32 i = lN (codM (kw i)) := by decide +kernel
theorem key_ch : ∀ j, j < 166 → fzj0_charAt_5068e (nI j) = some (nI (kwT.getD j 0)) := by decide +kernel
def keyF (j : Nat) (a : Nat × Int64 × List Int64) : Nat × Int64 × List Int64 := if kwT.getD j 0 = 32 then (a.1 + 1, 0, a.2.2 ++ [a.2.1]) else (a.1, (a.2.1 <<< (Int32.toInt64 8 &&& 63)) ||| (Int32.toInt64 (nI (kwT.getD j 0))), a.2.2)
theorem key_end : fl keyF 166 (0, 0, []) = (32, 0, kwL.map (fun w => lN (codC w))) := by decide +kernel
theorem key_len : ∀ j, j < 166 → (fl keyF j (0, 0, [])).1 < 32 ∧ (fl keyF j (0, 0, [])).2.2.length = (fl keyF j (0, 0, [])).1 := by decide +kernel
theorem key_c {ST1 : Ob} (h : f10_init_28 FU 0 0 0 o0 = some ST1) : ∀ i, i < 32 → ST1.2.2.2 1 i = lN (codC (kw i)) := by
  obtain ⟨r, e, hr⟩ := loop_inv (fun q j (a : (Nat × Int64 × List Int64) × Ob) => f10_init_28 q (nI a.1.1) a.1.2.1 (nI j) a.2) (fun j a => a.1 = fl keyF j (0, 0, []) ∧ ∀ i, i < a.1.1 → a.2.2.2.2 1 i = a.1.2.2.getD i 0) (fun S => ∀ i, i < 32 → S.2.2.2 1 i = (kwL.map (fun w => lN (codC w))).getD i 0) 166
    (by
      rintro q ⟨a, S⟩ ⟨h1, h2⟩
      refine ⟨S, ?_, ?_⟩
      · show f10_init_28 (q + 1) _ _ (nI 166) S = _
        rw [f10_init_28, show fzj0_length_8abf5 = some 166 from by decide, bd_s, if_pos (by decide)]
        rfl
      · have h1' : a = fl keyF 166 (0, 0, []) := h1
        have h2' : ∀ i, i < a.1 → S.2.2.2 1 i = a.2.2.getD i 0 := h2
        rw [h1', key_end] at h2'
        exact h2')
    (by
      rintro q j ⟨a, S⟩ hj ⟨h1, h2⟩
      have h1' : a = fl keyF j (0, 0, []) := h1
      have h2' : ∀ i, i < a.1 → S.2.2.2 1 i = a.2.2.getD i 0 := h2
      obtain ⟨k1, k2⟩ := key_len j hj
      rw [← h1'] at k1 k2
      have hch : ∀ x : Nat, x = kwT.getD j 0 → x < 256 := fun x hx => by
        rw [hx]
        exact (by decide +kernel : ∀ j, j < 166 → kwT.getD j 0 < 256) j hj
      obtain ⟨x, hx⟩ : ∃ x, x = kwT.getD j 0 := ⟨_, rfl⟩
      have hx256 := hch x hx
      show ∃ b : (Nat × Int64 × List Int64) × Ob, (b.1 = fl keyF (j + 1) (0, 0, []) ∧ ∀ i, i < b.1.1 → b.2.2.2.2 1 i = b.1.2.2.getD i 0) ∧ f10_init_28 (q + 1) (nI a.1) a.2.1 (nI j) S = f10_init_28 q (nI b.1.1) b.1.2.1 (nI (j + 1)) b.2
      rw [f10_init_28, show fzj0_length_8abf5 = some 166 from by decide, bd_s, if_neg (show ¬ (166 : Int32) ≤ nI j from nI_ge (b := 166) hj (by omega)), if_neg (show ¬ (32 : Int32) ≤ nI a.1 from nI_ge (b := 32) k1 (by omega)), key_ch j hj, bd_s, ← hx]
      unfold f10_init_84
      by_cases h32 : x = 32
      · refine ⟨((a.1 + 1, 0, a.2.2 ++ [a.2.1]), oJ S 1 a.1 a.2.1), ⟨?_, fun i hi => ?_⟩, ?_⟩
        · rw [fl_succ, ← h1']; unfold keyF; rw [← hx, if_pos h32]
        · show vp_updL (S.2.2.2 1) a.1 a.2.1 i = (a.2.2 ++ [a.2.1]).getD i 0
          by_cases hia : i = a.1
          · rw [hia, pk_uLs, List.getD_eq_getElem?_getD, List.getElem?_append_right (by omega), k2, Nat.sub_self]; rfl
          · have hi' : i < a.1 + 1 := hi
            rw [pk_uLn hia, h2' i (by omega), List.getD_eq_getElem?_getD, List.getD_eq_getElem?_getD, List.getElem?_append_left (by omega)]
        · rw [if_pos (by rw [h32]; rfl), inb_nI k1 (by omega), ck_t, lt_e, lt_e, lt_e, nI_1, nI_1, nI_clamp (by omega)]
      · refine ⟨((a.1, (a.2.1 <<< (Int32.toInt64 8 &&& 63)) ||| (Int32.toInt64 (nI x)), a.2.2), S), ⟨?_, h2'⟩, ?_⟩
        · rw [fl_succ, ← h1']; unfold keyF; rw [← hx, if_neg h32]
        · rw [if_neg (show ¬ nI x = 32 from fun hh => h32 ((nI_eq (b := 32) (by omega) (by omega)).mp hh)), lt_e, lt_e, nI_1])
    FU 0 ((0, 0, []), o0) (Nat.zero_le _) (FU_lt (by omega)) ⟨rfl, fun i hi => absurd hi (Nat.not_lt_zero i)⟩
  have e' : f10_init_28 FU 0 0 0 o0 = some r := e
  rw [h] at e'
  have : ST1 = r := Option.some.inj e'
  subst this
  intro i hi
  rw [hr i hi]
  exact (by decide +kernel : ∀ i, i < 32 → (kwL.map (fun w => lN (codC w))).getD i 0 = lN (codC (kw i))) i hi
/-! codes of words are each another -/
theorem cod_inj {b : Nat} {f : Nat → Nat} {S : Nat → Prop} (hf : ∀ x, S x → 1 ≤ f x ∧ f x < b) (hi : ∀ x y, S x → S y → f x = f y → x = y) : ∀ n (u v : List Nat), u.length ≤ n → (∀ x ∈ u, S x) → (∀ x ∈ v, S x) → u.foldl (fun a c => b * a + f c) 0 = v.foldl (fun a c => b * a + f c) 0 → u = v := by
  intro n
  induction n with
  | zero =>
    intro u v hu h1 h2 e
    have : u = [] := List.eq_nil_of_length_eq_zero (by omega)
    subst this
    rcases List.eq_nil_or_concat v with rfl | ⟨v', y, rfl⟩
    · rfl
    · rw [List.concat_eq_append] at h2 e
      rw [List.foldl_append] at e
      have hy := (hf y (h2 y (by simp))).1
      have e' : 0 = b * (v'.foldl (fun a c => b * a + f c) 0) + f y := e
      omega
  | succ n ih =>
    intro u v hu h1 h2 e
    rcases List.eq_nil_or_concat u with rfl | ⟨u', x, rfl⟩
    · rcases List.eq_nil_or_concat v with rfl | ⟨v', y, rfl⟩
      · rfl
      · rw [List.concat_eq_append] at h2 e
        rw [List.foldl_append] at e
        have hy := (hf y (h2 y (by simp))).1
        have e' : 0 = b * (v'.foldl (fun a c => b * a + f c) 0) + f y := e
        omega
    · rw [List.concat_eq_append] at hu h1 e ⊢
      rcases List.eq_nil_or_concat v with rfl | ⟨v', y, rfl⟩
      · rw [List.foldl_append] at e
        have hx := (hf x (h1 x (by simp))).1
        have e' : b * (u'.foldl (fun a c => b * a + f c) 0) + f x = 0 := e
        omega
      · rw [List.concat_eq_append] at h2 e ⊢
        rw [List.foldl_append, List.foldl_append] at e
        have e' : b * (u'.foldl (fun a c => b * a + f c) 0) + f x = b * (v'.foldl (fun a c => b * a + f c) 0) + f y := e
        obtain ⟨hx1, hx2⟩ := hf x (h1 x (by simp))
        obtain ⟨hy1, hy2⟩ := hf y (h2 y (by simp))
        have m1 : (b * (u'.foldl (fun a c => b * a + f c) 0) + f x) % b = f x := by rw [Nat.mul_add_mod, Nat.mod_eq_of_lt hx2]
        have m2 : (b * (v'.foldl (fun a c => b * a + f c) 0) + f y) % b = f y := by rw [Nat.mul_add_mod, Nat.mod_eq_of_lt hy2]
        have exy : f x = f y := by rw [← m1, ← m2, e']
        have hbp : 0 < b := by omega
        have eq : u'.foldl (fun a c => b * a + f c) 0 = v'.foldl (fun a c => b * a + f c) 0 := Nat.eq_of_mul_eq_mul_left hbp (by omega)
        have := ih u' v' (by simp at hu; omega) (fun z hz => h1 z (by simp [hz])) (fun z hz => h2 z (by simp [hz])) eq
        rw [this, hi x y (h1 x (by simp)) (h2 y (by simp)) exy]
def ltr (w : List Nat) : Prop := ∀ c ∈ w, 97 ≤ c ∧ c ≤ 122
theorem codC_inj {u v : List Nat} (hu : ltr u) (hv : ltr v) (h : codC u = codC v) : u = v := cod_inj (b := 256) (f := fun x => x) (S := fun c => 97 ≤ c ∧ c ≤ 122) (fun x hx => ⟨by omega, by omega⟩) (fun _ _ _ _ e => e) u.length u v (Nat.le_refl _) hu hv h
theorem codM_inj {u v : List Nat} (hu : ltr u) (hv : ltr v) (h : codM u = codM v) : u = v := cod_inj (b := 37) (f := fun x => x - 96) (S := fun c => 97 ≤ c ∧ c ≤ 122) (fun x hx => ⟨by omega, by omega⟩) (fun x y hx hy e => by have e' : x - 96 = y - 96 := e; omega) u.length u v (Nat.le_refl _) hu hv h
theorem cod_lt {b B : Nat} {f : Nat → Nat} {S : Nat → Prop} (hf : ∀ x, S x → f x < b) : ∀ (w : List Nat), (∀ x ∈ w, S x) → w.foldl (fun a c => b * a + f c) 0 < b ^ w.length ∨ w = [] := by
  intro w
  rcases List.eq_nil_or_concat w with rfl | ⟨u, x, rfl⟩
  · exact fun _ => Or.inr rfl
  · intro h
    left
    have key : ∀ n (w : List Nat), w.length = n → (∀ x ∈ w, S x) → w.foldl (fun a c => b * a + f c) 0 < b ^ w.length + (if n = 0 then 1 else 0) := by
      intro n
      induction n with
      | zero =>
        intro w hw _
        have : w = [] := List.eq_nil_of_length_eq_zero hw
        subst this
        simp
      | succ n ih =>
        intro w hw h
        rcases List.eq_nil_or_concat w with rfl | ⟨u, x, rfl⟩
        · simp at hw
        · rw [List.concat_eq_append] at hw h ⊢
          have hl : u.length = n := by simp at hw; omega
          have i1 := ih u hl (fun z hz => h z (by simp [hz]))
          rw [List.foldl_append, List.length_append]
          show b * (u.foldl (fun a c => b * a + f c) 0) + f x < b ^ (u.length + 1) + (if n + 1 = 0 then 1 else 0)
          have hx := hf x (h x (by simp))
          rw [Nat.pow_succ, if_neg (by omega)]
          by_cases hn : n = 0
          · have : u = [] := List.eq_nil_of_length_eq_zero (by omega)
            subst this
            simp
            omega
          · rw [if_neg hn] at i1
            have : b * (u.foldl (fun a c => b * a + f c) 0 + 1) ≤ b * b ^ u.length := Nat.mul_le_mul_left b (by omega)
            rw [Nat.mul_comm (b ^ u.length) b]
            rw [Nat.mul_add] at this
            omega
    have := key _ _ rfl h
    rw [List.concat_eq_append] at this ⊢
    have hl : (u ++ [x]).length ≠ 0 := by simp
    rw [if_neg hl] at this
    omega
theorem codC_lt {w : List Nat} (h : ltr w) (h8 : w.length ≤ 8) : codC w < 2 ^ 64 := by
  rcases cod_lt (b := 256) (B := 0) (f := fun x => x) (S := fun c => 97 ≤ c ∧ c ≤ 122) (fun x hx => by omega) w h with h1 | h1
  · exact Nat.lt_of_lt_of_le h1 (Nat.le_trans (Nat.pow_le_pow_right (by omega) h8) (by decide))
  · rw [h1]; decide
theorem codM_lt {w : List Nat} (h : ltr w) (h8 : w.length ≤ 8) : codM w < 2 ^ 64 := by
  rcases cod_lt (b := 37) (B := 0) (f := fun x => x - 96) (S := fun c => 97 ≤ c ∧ c ≤ 122) (fun x hx => by omega) w h with h1 | h1
  · exact Nat.lt_of_lt_of_le h1 (Nat.le_trans (Nat.pow_le_pow_right (by omega) h8) (by decide))
  · rw [h1]; decide
theorem lN_inj {a b : Nat} (ha : a < 2 ^ 64) (hb : b < 2 ^ 64) : lN a = lN b ↔ a = b := by
  constructor
  · intro h
    have := congrArg (fun z : Int64 => z.toBitVec.toNat) h
    simp only [wb_tn ha, wb_tn hb] at this
    exact this
  · intro h; rw [h]
theorem kw_ok : ∀ k, k < 32 → ltr (kw k) ∧ (kw k).length ≤ 8 ∧ 1 ≤ (kw k).length := by
  intro k hk
  have := (by decide +kernel : ∀ k, k < 32 → (∀ c ∈ kw k, 97 ≤ c ∧ c ≤ 122) ∧ (kw k).length ≤ 8 ∧ 1 ≤ (kw k).length) k hk
  exact this
theorem kw_inj : ∀ k, k < 32 → ∀ l, l < 32 → kw k = kw l → k = l := by decide +kernel
def kIx (w : List Nat) : Nat := fa_first (fun k => decide (kw k = w)) 32
theorem kIx_le (w : List Nat) : kIx w ≤ 32 := fa_first_le _ _
theorem kIx_iff {w : List Nat} {k : Nat} (hk : k < 32) : kIx w = k ↔ w = kw k := by
  constructor
  · intro h
    have := fa_first_yes (fun k => decide (kw k = w)) 32 (by show kIx w < 32; omega)
    have h2 : decide (kw (kIx w) = w) = true := this
    rw [h] at h2
    exact (of_decide_eq_true h2).symm
  · intro h
    have hle : kIx w ≤ k := by
      apply Classical.byContradiction
      intro hno
      have := fa_first_no (fun k => decide (kw k = w)) 32 k (by show k < kIx w; omega)
      have h2 : decide (kw k = w) = false := this
      exact (of_decide_eq_false h2) h.symm
    have := fa_first_yes (fun k => decide (kw k = w)) 32 (by show kIx w < 32; omega)
    have h2 : decide (kw (kIx w) = w) = true := this
    have h3 := of_decide_eq_true h2
    exact kw_inj _ (by omega) _ hk (h3.trans h)
