/-! pure: an inn on its way -/
def FrI (A B : Ob) : Prop := (∀ k, k ≠ 7 → k ≠ 8 → k ≠ 13 → k ≠ 19 → k ≠ 21 → B.1 k = A.1 k) ∧ B.2.1 = A.2.1 ∧ (∀ k, k ≠ 10 → k ≠ 11 → k ≠ 12 → k ≠ 17 → B.2.2.1 k = A.2.2.1 k) ∧ (∀ k, k ≠ 15 → B.2.2.2 k = A.2.2.2 k) ∧ (∀ k, k < 60 → B.2.2.1 10 k = A.2.2.1 10 k) ∧ ∀ k, k < 2200 → B.2.2.1 11 k = A.2.2.1 11 k ∧ B.2.2.1 12 k = A.2.2.1 12 k
theorem FrI_tr {A B D : Ob} (h1 : FrI A B) (h2 : FrI B D) : FrI A D := ⟨fun k a b c d e => (h2.1 k a b c d e).trans (h1.1 k a b c d e), h2.2.1.trans h1.2.1, fun k a b c d => (h2.2.2.1 k a b c d).trans (h1.2.2.1 k a b c d), fun k a => (h2.2.2.2.1 k a).trans (h1.2.2.2.1 k a), fun k a => (h2.2.2.2.2.1 k a).trans (h1.2.2.2.2.1 k a), fun k a => ⟨(h2.2.2.2.2.2 k a).1.trans (h1.2.2.2.2.2 k a).1, (h2.2.2.2.2.2 k a).2.trans (h1.2.2.2.2.2 k a).2⟩⟩
theorem FrI_F {A B : Ob} (h : FrF A B) : FrI A B := ⟨fun k a b c _ _ => h.1 k a b c, h.2.1, fun k _ a b _ => h.2.2.1 k a b, fun k _ => by rw [h.2.2.2.1], fun k _ => by rw [h.2.2.1 10 (by omega) (by omega)], h.2.2.2.2⟩
theorem FrI_7 {A B : Ob} (h : Fr7 A B) : FrI A B := ⟨fun k a b _ _ _ => h.1 k a b, by rw [h.2], fun k _ _ _ _ => by rw [h.2], fun k _ => by rw [h.2], fun k _ => by rw [h.2], fun k _ => by rw [h.2]; exact ⟨rfl, rfl⟩⟩
theorem FrI_10 (A : Ob) {j : Nat} (hj : 60 ≤ j) (v : Int32) : FrI A (oA A 10 j v) := ⟨fun _ _ _ _ _ _ => rfl, rfl, fun k a _ _ _ => va_ne _ a _, fun _ _ => rfl, fun k hk => pk_un (by omega), fun k _ => ⟨rfl, rfl⟩⟩
theorem FrI_I (A : Ob) {j : Nat} (hj : j = 7 ∨ j = 8 ∨ j = 13 ∨ j = 19 ∨ j = 21) (v : Int32) : FrI A (oI A j v) := ⟨fun k a b c d e => va_ne _ (by omega) _, rfl, fun _ _ _ _ _ => rfl, fun _ _ => rfl, fun _ _ => rfl, fun _ _ => ⟨rfl, rfl⟩⟩
theorem FrI_15 (A : Ob) (j : Nat) (v : Int64) : FrI A (oJ A 15 j v) := ⟨fun _ _ _ _ _ _ => rfl, rfl, fun _ _ _ _ _ => rfl, fun k hk => va_ne _ hk _, fun _ _ => rfl, fun _ _ => ⟨rfl, rfl⟩⟩
theorem FrI_17 (A : Ob) (j : Nat) (v : Int32) : FrI A (oA A 17 j v) := ⟨fun _ _ _ _ _ _ => rfl, rfl, fun k _ _ _ d => va_ne _ d _, fun _ _ => rfl, fun _ _ => rfl, fun _ _ => ⟨rfl, rfl⟩⟩
theorem RfS_I {A B : Ob} {C : Nat → Nat} {t N : Nat} (h : RfS A C t N) (hf : FrI A B) : RfS B C t N := RfS_fr h (hf.2.2.1 4 (by omega) (by omega) (by omega) (by omega)) (hf.2.2.1 5 (by omega) (by omega) (by omega) (by omega)) (hf.2.2.2.1 6 (by omega)) (hf.2.2.2.1 9 (by omega))
theorem syn_I {C : Nat → Nat} {t N i : Nat} {SG ST SM SM' : Ob} (h : Syn C t N SG ST SM i) (hf : FrI SM SM') (h7 : SM'.1 7 = SM.1 7) (h8 : SM'.1 8 = SM.1 8) : Syn C t N SG ST SM' i := by
  obtain ⟨a1, a2, a3, a4, a5, a6, a7⟩ := h
  exact ⟨a1, a2, a3, h7.trans a4, h8.trans a5, a6, RfS_I a7 hf⟩
/-- guests read, and those yet to come -/
def GuP (SI : Ob) (r10 : Nat → Int32) (n g : Nat) : Prop :=
  n ≤ 8 ∧ SI.1 0 = nI n ∧ r10 60 = nI n ∧
  (∀ j, j < n → r10 (63 + 5 * j) = SI.2.2.1 2 j ∧ r10 (63 + 5 * j + 1) = SI.2.2.1 3 j ∧ r10 (63 + 5 * j + 2) = SI.2.2.1 4 j ∧ r10 (63 + 5 * j + 3) = SI.2.2.1 5 j ∧ r10 (63 + 5 * j + 4) = SI.2.2.1 6 j) ∧
  (∀ j, j < n → ∃ v, v < 4 ∧ SI.2.2.1 2 j = nI v) ∧ (∀ j, j < n → ∃ v, 1 ≤ v ∧ v ≤ 12 ∧ SI.2.2.1 3 j = nI v) ∧ (∀ j, j < n → ∃ v, 1 ≤ v ∧ v ≤ 99 ∧ SI.2.2.1 4 j = nI v) ∧ (∀ j, j < n → ∃ v, v < 2 ^ g ∧ SI.2.2.1 5 j = nI v) ∧
  (∀ j, n ≤ j → j < 8 → r10 (63 + 5 * j + 3) = 0 ∧ r10 (63 + 5 * j + 4) = 0)
/-- signs read, with their codes -/
def SgP (SI SR SC : Ob) (r10 r11 r12 : Nat → Int32) (n g s r : Nat) : Prop :=
  g ≤ 6 ∧ SI.1 8 = nI g ∧ r10 61 = nI g ∧ (∀ q, q < g → r10 (103 + 2 * q) = SI.2.2.1 10 q ∧ ∃ v, v ≤ 10 ∧ SI.2.2.1 10 q = nI v) ∧
  ∀ q, q < g → ∃ (L : List (Nat × Nat)) (a n0 r0 : Nat), SR.2.2.1 2 q = nI a ∧ SR.2.2.1 3 q = nI (a + L.length) ∧ r10 (103 + 2 * q + 1) = nI r0 ∧ CdAt SC a L ∧ a + L.length ≤ s ∧ CdBt (fun x => r11 (2200 + x)) (fun x => r12 (2200 + x)) r0 L ∧ r0 + L.length < r ∧ WfA L 12 ∧ LvA n0 q L ∧ n0 ≤ n
/-- the law of bills, if read -/
def BlP (SR SC : Ob) (r10 r11 r12 : Nat → Int32) (s r : Nat) : Prop :=
  (SR.1 6 = 0 ∧ r10 62 < 0) ∨ (SR.1 6 = 1 ∧ ∃ (L : List (Nat × Nat)) (a r0 : Nat), SR.1 4 = nI a ∧ SR.1 5 = nI (a + L.length) ∧ r10 62 = nI r0 ∧ CdAt SC a L ∧ a + L.length ≤ s ∧ CdBt (fun x => r11 (2200 + x)) (fun x => r12 (2200 + x)) r0 L ∧ r0 + L.length < r ∧ WfA L 24 ∧ LvA 9 0 L)
def InP (C : Nat → Nat) (t N n g : Nat) (S0 SR SG ST SC SI SM : Ob) (i s r : Nat) : Prop :=
  Syn C t N SG ST SM i ∧ FrI S0 SM ∧ SC.1 3 = nI s ∧ s ≤ i ∧ SM.1 13 = nI r ∧ r ≤ i ∧ SM.1 20 = 1 ∧ SM.1 19 = nI (n + g) ∧ NmR SI (SM.1 19) (SM.2.2.2 15) (SM.2.2.1 17) n g ∧ GuP SI (SM.2.2.1 10) n g ∧ SgP SI SR SC (SM.2.2.1 10) (SM.2.2.1 11) (SM.2.2.1 12) n g s r ∧ BlP SR SC (SM.2.2.1 10) (SM.2.2.1 11) (SM.2.2.1 12) s r
/-- how a line of an inn may come out -/
def IOut (C : Nat → Nat) (t N : Nat) (S0 SG ST : Ob) (i : Nat) (rc : Option (Int32 × Ob × Ob × Ob × Ob × Ob)) (rm : Option Ob) : Prop :=
  (∃ SR' ST' SC' SI' SM' i' n' g' s' r', rc = some (1, SR', SG, ST', SC', SI') ∧ rm = some SM' ∧ FrA ST ST' ∧ i < i' ∧ InP C t N n' g' S0 SR' SG ST' SC' SI' SM' i' s' r') ∨
  (∃ SR' SG' ST' SC' SI' SM' F, rc = some (0, SR', SG', ST', SC', SI') ∧ rm = some SM' ∧ FrA ST ST' ∧ SG'.1 3 = nI F ∧ Flt SM' F ∧ FrI S0 SM')
theorem c_addGuest {SI : Ob} {n : Nat} (h : SI.1 0 = nI n) (hn : n < 8) (x : Int64) (a b c : Int32) : ∃ SI', f4_addGuest x a b c SI = some SI' ∧ SI'.1 0 = nI (n + 1) ∧ SI'.1 8 = SI.1 8 ∧ SI'.2.2.1 2 = upd (SI.2.2.1 2) n a ∧ SI'.2.2.1 3 = upd (SI.2.2.1 3) n b ∧ SI'.2.2.1 4 = upd (SI.2.2.1 4) n c ∧ SI'.2.2.1 5 = upd (SI.2.2.1 5) n 0 ∧ SI'.2.2.1 6 = upd (SI.2.2.1 6) n 0 ∧ SI'.2.2.1 10 = SI.2.2.1 10 ∧ SI'.2.2.1 11 = SI.2.2.1 11 ∧ SI'.2.2.1 12 = SI.2.2.1 12 ∧ SI'.2.2.2 1 = vp_updL (SI.2.2.2 1) n x ∧ SI'.2.2.2 9 = SI.2.2.2 9 := by
  unfold f4_addGuest f4_addGuest_81
  rw [h, if_neg (show ¬ (8 : Int32) ≤ nI n from nI_ge (b := 8) hn (by omega))]
  have e : inb (nI n) 8 = true := inb_nI hn (by omega)
  have ec : Int32.toNatClampNeg (nI n) = n := nI_clamp (by omega)
  refine ⟨oI (oA (oA (oA (oA (oA (oJ SI 1 n x) 2 n a) 3 n b) 4 n c) 5 n 0) 6 n 0) 0 (nI (n + 1)), ?_, rfl, rfl, rfl, rfl, rfl, rfl, rfl, rfl, rfl, rfl, rfl, rfl⟩
  rw [e, ck_t, lt_e, ec]
  have g1 : (oJ SI 1 n x).1 0 = nI n := h
  rw [g1, e, ck_t, lt_e, ec]
  have g2 : (oA (oJ SI 1 n x) 2 n a).1 0 = nI n := h
  rw [g2, e, ck_t, lt_e, ec]
  have g3 : (oA (oA (oJ SI 1 n x) 2 n a) 3 n b).1 0 = nI n := h
  rw [g3, e, ck_t, lt_e, ec]
  have g4 : (oA (oA (oA (oJ SI 1 n x) 2 n a) 3 n b) 4 n c).1 0 = nI n := h
  rw [g4, e, ck_t, lt_e, ec]
  have g5 : (oA (oA (oA (oA (oJ SI 1 n x) 2 n a) 3 n b) 4 n c) 5 n 0).1 0 = nI n := h
  rw [g5, e, ck_t, lt_e, ec]
  have g6 : (oA (oA (oA (oA (oA (oJ SI 1 n x) 2 n a) 3 n b) 4 n c) 5 n 0) 6 n 0).1 0 = nI n := h
  rw [lt_e, g6, nI_1]
theorem c_addSign {SI : Ob} {g : Nat} (h : SI.1 8 = nI g) (hg : g < 6) (x : Int64) (a : Int32) : ∃ SI', f4_addSign x a SI = some SI' ∧ SI'.1 8 = nI (g + 1) ∧ SI'.1 0 = SI.1 0 ∧ (∀ k, k ≠ 10 → k ≠ 11 → SI'.2.2.1 k = SI.2.2.1 k) ∧ SI'.2.2.1 10 = upd (SI.2.2.1 10) g a ∧ SI'.2.2.1 11 = upd (SI.2.2.1 11) g 0 ∧ SI'.2.2.2 9 = vp_updL (SI.2.2.2 9) g x ∧ SI'.2.2.2 1 = SI.2.2.2 1 := by
  unfold f4_addSign f4_addSign_49
  rw [h, if_neg (show ¬ (6 : Int32) ≤ nI g from nI_ge (b := 6) hg (by omega))]
  have e : inb (nI g) 6 = true := inb_nI hg (by omega)
  have ec : Int32.toNatClampNeg (nI g) = g := nI_clamp (by omega)
  refine ⟨oI (oA (oA (oJ SI 9 g x) 10 g a) 11 g 0) 8 (nI (g + 1)), ?_, rfl, rfl, fun k k1 k2 => ?_, rfl, rfl, rfl, rfl⟩
  · rw [e, ck_t, lt_e, ec]
    have g1 : (oJ SI 9 g x).1 8 = nI g := h
    rw [g1, e, ck_t, lt_e, ec]
    have g2 : (oA (oJ SI 9 g x) 10 g a).1 8 = nI g := h
    rw [g2, e, ck_t, lt_e, ec]
    have g3 : (oA (oA (oJ SI 9 g x) 10 g a) 11 g 0).1 8 = nI g := h
    rw [lt_e, g3, nI_1]
  · show va_up (va_up SI.2.2.1 10 _) 11 _ k = _
    rw [va_ne _ k2, va_ne _ k1]
