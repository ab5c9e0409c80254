/-! pure: what holds between the class's objects and the reference's -/
/-- a row put whole -/
def sR (S : Ob) (k : Nat) (p : Nat → Int32) : Ob := (S.1, S.2.1, va_up S.2.2.1 k p, S.2.2.2)
theorem sR_self (S : Ob) (k : Nat) : sR S k (S.2.2.1 k) = S := by
  unfold sR
  have : va_up S.2.2.1 k (S.2.2.1 k) = S.2.2.1 := by
    funext i; unfold va_up; split
    · rename_i h; rw [h]
    · rfl
  rw [this]
theorem sR_at (S : Ob) (k : Nat) (p : Nat → Int32) : (sR S k p).2.2.1 k = p := by
  unfold sR va_up; simp
theorem sR_ne (S : Ob) {k i : Nat} (h : i ≠ k) (p : Nat → Int32) : (sR S k p).2.2.1 i = S.2.2.1 i := by
  unfold sR va_up; simp [h]
theorem sR_oA (S : Ob) (k j : Nat) (p : Nat → Int32) (v : Int32) : oA (sR S k p) k j v = sR S k (upd p j v) := by
  have e := sR_at S k p
  unfold oA
  rw [e]
  unfold sR
  simp only
  rw [bx_uu]
theorem oA_sR (S : Ob) (k j : Nat) (v : Int32) : oA S k j v = sR S k (upd (S.2.2.1 k) j v) := rfl
theorem sR_sR (S : Ob) (k : Nat) (p q : Nat → Int32) : sR (sR S k p) k q = sR S k q := by
  unfold sR
  simp only
  rw [bx_uu]
/-- the class's inn -/
def InnC (SI : Ob) (n g : Nat) : Prop :=
  n ≤ 8 ∧ g ≤ 6 ∧ SI.1 0 = nI n ∧ SI.1 8 = nI g ∧
  (∀ j, j < n → ∃ v, v < 4 ∧ SI.2.2.1 2 j = nI v) ∧
  (∀ j, j < n → ∃ v, 1 ≤ v ∧ v ≤ 12 ∧ SI.2.2.1 3 j = nI v) ∧
  (∀ j, j < n → ∃ v, 1 ≤ v ∧ v ≤ 99 ∧ SI.2.2.1 4 j = nI v) ∧
  (∀ j, j < n → ∃ v, v < 2 ^ g ∧ SI.2.2.1 5 j = nI v) ∧
  (∀ j, j < n → ∃ v, v ≤ 99 ∧ SI.2.2.1 7 j = nI v) ∧
  (∀ s, s < g → ∃ v, v ≤ 10 ∧ SI.2.2.1 10 s = nI v) ∧
  (∀ s, s < g → ∀ i, i < 32 → bt (SI.2.2.1 11 s) i = true → i < 4 * n) ∧
  (∀ w, w < 32 → SI.2.2.1 12 w = so (fun s => decide (s < g) && bt (SI.2.2.1 11 s) w))
/-- the reference's, r10 inns, r28 shownIn, r29 shown -/
def InnM (SI : Ob) (r10 r28 r29 : Nat → Int32) (n g : Nat) : Prop :=
  r10 0 = nI n ∧ r10 1 = nI g ∧
  (∀ j, j < n → r10 (3 + 5 * j) = SI.2.2.1 2 j ∧ r10 (3 + 5 * j + 1) = SI.2.2.1 3 j ∧ r10 (3 + 5 * j + 2) = SI.2.2.1 4 j ∧ r10 (3 + 5 * j + 3) = SI.2.2.1 5 j ∧ r10 (3 + 5 * j + 4) = SI.2.2.1 6 j) ∧
  (∀ s, s < g → r10 (43 + 2 * s) = SI.2.2.1 10 s) ∧
  (∀ s, s < g → r28 s = SI.2.2.1 11 s) ∧
  (∀ w, w < 32 → r29 w = SI.2.2.1 12 w)
/-- a book, and the reference's state at b: left, nights, kept, heard -/
def BkR (SB : Ob) (r : Nat → Int32) (b n g : Nat) : Prop :=
  r b = SB.1 0 ∧ (∀ i, i < 32 → bt (SB.1 0) i = true → i < 4 * n) ∧
  (∃ t, t ≤ 10 ∧ SB.1 1 = nI t ∧ r (b + 1) = nI t ∧ ∀ k, k < t → r (b + 2 + k) = SB.2.2.1 2 k ∧ ∀ i, i < 32 → bt (SB.2.2.1 2 k) i = true → i < n) ∧
  (∃ q, q ≤ 8 ∧ SB.1 3 = nI q ∧ r (b + 12) = nI q ∧ ∀ k, k < q → (∃ s, s < g ∧ SB.2.2.1 4 k = nI s) ∧ r (b + 13 + 2 * k) = SB.2.2.1 4 k ∧ (SB.2.2.1 5 k = 0 ∨ SB.2.2.1 5 k = 1) ∧ r (b + 13 + 2 * k + 1) = SB.2.2.1 5 k)
/-- what can be undone -/
def UnR (SB : Ob) (r : Nat → Int32) (und : Int32) (n : Nat) : Prop :=
  ∃ (u t : Nat) (te : Nat → Nat), u ≤ 16 ∧ t ≤ 10 ∧ SB.1 6 = nI u ∧ und = nI u ∧ SB.1 1 = nI t ∧ (∀ e, e < u → te e ≤ t) ∧ (∀ e f, e ≤ f → f < u → te e ≤ te f) ∧
  (∀ e, e < u → r (30 * (5 + e)) = SB.2.2.1 7 e ∧ (∀ i, i < 32 → bt (SB.2.2.1 7 e) i = true → i < 4 * n) ∧ SB.2.2.1 8 e = nI (te e) ∧ r (30 * (5 + e) + 1) = nI (te e) ∧ ∀ k, k < te e → r (30 * (5 + e) + 2 + k) = SB.2.2.1 2 k)
/-- marks -/
def MkR (cs : Nat → Ob) (r r27 : Nat → Int32) (n g : Nat) : Prop :=
  ∀ m, m < 4 → (cs 0).2.2.1 8 m = r27 m ∧ (r27 m = 0 ∨ r27 m = 1) ∧ (r27 m = 1 → BkR (cs (11 + m)) r (30 * (1 + m)) n g)
/-- the tape -/
def TpR (ST : Ob) (len : Int32) (r1 : Nat → Int32) (w9 : Nat → Int64) : Prop :=
  (∃ t, t ≤ 1000 ∧ ST.1 2 = nI t ∧ len = nI t ∧ ∀ k, k < t → ST.2.2.1 0 k = r1 k ∧ ∃ c, (c = 10 ∨ 32 ≤ c ∧ c ≤ 126) ∧ r1 k = nI c) ∧ (∀ i, i < 32 → w9 i = wk12_32 i) ∧ ∃ ST1, f10_init_28 FU 0 0 0 o0 = some ST1 ∧ ∀ i, i < 32 → ST.2.2.2 1 i = ST1.2.2.2 1 i
/-- rows that a line, or the law of bills, reads -/
def Like (lo hi : Nat) (f g : Nat → Int32) : Prop := ∀ i, lo ≤ i → i < hi → f i = g i
/-- the morning: line k goes with the worlds v -/
def LnR (r10 r11 r12 r22 r28 : Nat → Int32) (k : Nat) (v : Int32) : Prop :=
  ∀ sm : Ob, Like 0 60 (sm.2.2.1 10) r10 → Like 0 2200 (sm.2.2.1 11) r11 → Like 0 2200 (sm.2.2.1 12) r12 → Like 0 80 (sm.2.2.1 22) r22 → Like 0 6 (sm.2.2.1 28) r28 → ∃ p, f12_lineIn (nI (1 + 3 * k)) sm = some (v, sR sm 24 p)
def MoR (SP : Ob) (r10 r11 r12 r22 r28 : Nat → Int32) : Prop :=
  ∃ l, l ≤ 24 ∧ SP.1 0 = nI l ∧ r22 0 = nI l ∧ ∀ k, k < l → (SP.2.2.1 2 k = 0 ∨ SP.2.2.1 2 k = 1) ∧ (r22 (1 + 3 * k) = 4 ↔ SP.2.2.1 2 k = 1) ∧ ∃ v, LnR r10 r11 r12 r22 r28 k v ∧ (SP.2.2.1 2 k = 0 → v = SP.2.2.1 1 k)
/-- the law of bills -/
def clampS (v : Int32) : Int32 := if v < 0 then 0 else if 99 < v then 99 else v
def BiR (SI : Ob) (r10 r11 r12 : Nat → Int32) (n : Nat) : Prop :=
  (r10 2 < 0 ∧ ∀ j, j < n → SI.2.2.1 7 j = 1) ∨ (¬ r10 2 < 0 ∧ ∀ j, j < n → ∀ sm : Ob, Like 0 1100 (sm.2.2.1 11) r11 → Like 0 1100 (sm.2.2.1 12) r12 → sm.2.2.1 23 0 = SI.2.2.1 3 j → sm.2.2.1 23 1 = SI.2.2.1 4 j → sm.2.2.1 23 2 = nI n → ∃ v p, f12_worthAt (r10 2) sm = some (v, sR sm 24 p) ∧ clampS v = SI.2.2.1 7 j)
/-- words of letters -/
def okW (w : List Nat) : Prop := 1 ≤ w.length ∧ w.length ≤ 8 ∧ ∀ c ∈ w, 97 ≤ c ∧ c ≤ 122
def codC (w : List Nat) : Nat := w.foldl (fun a c => 256 * a + c) 0
def codM (w : List Nat) : Nat := w.foldl (fun a c => 37 * a + (c - 96)) 0
def NmR (SI : Ob) (many : Int32) (l14 : Nat → Int64) (r16 : Nat → Int32) (n g : Nat) : Prop :=
  many = nI (n + g) ∧ ∃ (ws : Nat → List Nat) (id : Nat → Nat), (∀ k, k < n + g → okW (ws k) ∧ l14 k = lN (codM (ws k)) ∧ r16 k = nI (id k) ∧ (id k < n ∨ 20 ≤ id k ∧ id k < 20 + g) ∧ (id k < n → SI.2.2.2 1 (id k) = lN (codC (ws k))) ∧ (20 ≤ id k → SI.2.2.2 9 (id k - 20) = lN (codC (ws k)))) ∧
  (∀ k l, k < n + g → l < n + g → ws k = ws l → k = l) ∧ (∀ j, j < n → ∃ k, k < n + g ∧ id k = j) ∧ (∀ s, s < g → ∃ k, k < n + g ∧ id k = 20 + s)
def InvN (cs : Nat → Ob) (sm : Ob) (n g : Nat) : Prop :=
  InnC (cs 8) n g ∧ InnM (cs 8) (sm.2.2.1 10) (sm.2.2.1 28) (sm.2.2.1 29) n g ∧ BkR (cs 10) (sm.2.2.1 25) 0 n g ∧ UnR (cs 10) (sm.2.2.1 25) (sm.1 26) n ∧ MkR cs (sm.2.2.1 25) (sm.2.2.1 27) n g ∧ TpR (cs 3) (sm.1 2) (sm.2.2.1 1) (sm.2.2.2 9) ∧ MoR (cs 15) (sm.2.2.1 10) (sm.2.2.1 11) (sm.2.2.1 12) (sm.2.2.1 22) (sm.2.2.1 28) ∧ BiR (cs 8) (sm.2.2.1 10) (sm.2.2.1 11) (sm.2.2.1 12) n ∧ NmR (cs 8) (sm.1 18) (sm.2.2.2 14) (sm.2.2.1 16) n g
def Inv (cs : Nat → Ob) (sm : Ob) : Prop := ∃ n g : Nat, InvN cs sm n g
/-! ranges -/
theorem s4_hasGuest_no {SI : Ob} {n : Nat} {x : Int32} (hn : SI.1 0 = nI n) (h : x < 0 ∨ nI n ≤ x) : f4_hasGuest x SI = some 0 := by
  unfold f4_hasGuest
  rw [hn]
  rcases h with h | h
  · rw [if_pos h]; rfl
  · by_cases h2 : x < 0
    · rw [if_pos h2]; rfl
    · rw [if_neg h2, if_pos h]; rfl
theorem s4_hasGuest_yes {SI : Ob} {n j : Nat} (hn : SI.1 0 = nI n) (hj : j < n) (h8 : n ≤ 8) : f4_hasGuest (nI j) SI = some 1 := by
  unfold f4_hasGuest
  rw [hn, if_neg (nI_pos (by omega)), if_neg (nI_ge hj (by omega))]; rfl
theorem s4_hasSign_no {SI : Ob} {n : Nat} {x : Int32} (hn : SI.1 8 = nI n) (h : x < 0 ∨ nI n ≤ x) : f4_hasSign x SI = some 0 := by
  unfold f4_hasSign
  rw [hn]
  rcases h with h | h
  · rw [if_pos h]; rfl
  · by_cases h2 : x < 0
    · rw [if_pos h2]; rfl
    · rw [if_neg h2, if_pos h]; rfl
theorem s4_hasSign_yes {SI : Ob} {n j : Nat} (hn : SI.1 8 = nI n) (hj : j < n) (h8 : n ≤ 8) : f4_hasSign (nI j) SI = some 1 := by
  unfold f4_hasSign
  rw [hn, if_neg (nI_pos (by omega)), if_neg (nI_ge hj (by omega))]; rfl
theorem s4_hasWorld_no {SI : Ob} {n : Nat} {x : Int32} (hn : SI.1 0 = nI n) (h : x < 0 ∨ nI (4 * n) ≤ x) : f4_hasWorld x SI = some 0 := by
  unfold f4_hasWorld
  rw [hn, nI_4]
  rcases h with h | h
  · rw [if_pos h]; rfl
  · by_cases h2 : x < 0
    · rw [if_pos h2]; rfl
    · rw [if_neg h2, if_pos h]; rfl
theorem s4_hasWorld_yes {SI : Ob} {n j : Nat} (hn : SI.1 0 = nI n) (hj : j < 4 * n) (h8 : n ≤ 8) : f4_hasWorld (nI j) SI = some 1 := by
  unfold f4_hasWorld
  rw [hn, nI_4, if_neg (nI_pos (by omega)), if_neg (nI_ge hj (by omega))]; rfl
theorem s12_isGuest_no {SM : Ob} {n : Nat} {x : Int32} (hn : SM.2.2.1 10 0 = nI n) (h : x < 0 ∨ nI n ≤ x) : f12_isGuest x SM = some 0 := by
  unfold f12_isGuest
  rw [s12_guests, bd_s, hn]
  rcases h with h | h
  · rw [if_pos h]; rfl
  · by_cases h2 : x < 0
    · rw [if_pos h2]; rfl
    · rw [if_neg h2, if_pos h]; rfl
theorem s12_isGuest_yes {SM : Ob} {n j : Nat} (hn : SM.2.2.1 10 0 = nI n) (hj : j < n) (h8 : n ≤ 8) : f12_isGuest (nI j) SM = some 1 := by
  unfold f12_isGuest
  rw [s12_guests, bd_s, hn, if_neg (nI_pos (by omega)), if_neg (nI_ge hj (by omega))]; rfl
theorem nI_m1 (n : Nat) (h : n < 2 ^ 30) : (nI n - 1).toInt = (n : Int) - 1 := pk_sub_toInt (a := n) (b := 1) h (by omega)
theorem s12_within_yes {n j : Nat} (hj : j < n) (h8 : n < 2 ^ 30) : f12_within (nI j) 0 (nI n - 1) = some 1 := by
  unfold f12_within
  rw [if_neg (nI_pos (by omega)), if_neg]
  · rfl
  · rw [Int32.lt_iff_toInt_lt, nI_m1 n h8, nI_toInt (by omega)]; omega
theorem s12_within_no {n : Nat} {x : Int32} (h : x < 0 ∨ nI n ≤ x) (h8 : n < 2 ^ 30) : f12_within x 0 (nI n - 1) = some 0 := by
  unfold f12_within
  rcases h with h | h
  · rw [if_pos h]; rfl
  · by_cases h2 : x < 0
    · rw [if_pos h2]; rfl
    · rw [if_neg h2, if_pos]
      · rfl
      · rw [Int32.le_iff_toInt_le, nI_toInt (by omega)] at h
        rw [Int32.lt_iff_toInt_lt, nI_m1 n h8]; omega
theorem s12_withinL_yes {x lo hi : Int32} (h : ¬ x < lo) (h2 : ¬ hi < x) : f12_within x lo hi = some 1 := by
  unfold f12_within
  rw [if_neg h, if_neg h2]; rfl
theorem s12_withinL_no {x lo hi : Int32} (h : x < lo ∨ hi < x) : f12_within x lo hi = some 0 := by
  unfold f12_within
  rcases h with h | h
  · rw [if_pos h]; rfl
  · by_cases h2 : x < lo
    · rw [if_pos h2]; rfl
    · rw [if_neg h2, if_pos h]; rfl
theorem s12_worlds {SM : Ob} {n : Nat} (hn : SM.2.2.1 10 0 = nI n) : f12_worlds SM = some (nI (4 * n)) := by
  unfold f12_worlds
  rw [s12_guests, bd_s, hn, nI_4']
theorem s12_guestOf {SM : Ob} {j k : Nat} (hj : j < 8) (hk : k < 5) : f12_guestOf (nI j) (nI k) SM = some (SM.2.2.1 10 (3 + 5 * j + k)) := by
  unfold f12_guestOf
  have e : (3 + 5 * nI j) + nI k = nI (3 + 5 * j + k) := by
    rw [show (5 : Int32) = nI 5 from rfl, show (3 : Int32) = nI 3 from rfl, pk_mul, nI_add, nI_add]
  rw [e, inb_nI (by omega) (by omega), ck_t, nI_clamp (by omega)]
/-! all worlds -/
def allS (n : Nat) : Int32 := so (fun i => decide (i < 4 * n))
theorem all_c : ∀ n, n ≤ 8 → (if nI n = 0 then (0 : Int32) else ush (-1) (32 - nI n * 4)) = allS n := by
  intro n h
  exact (by decide +kernel : ∀ n, n < 9 → (if nI n = 0 then (0 : Int32) else ush (-1) (32 - nI n * 4)) = allS n) n (by omega)
theorem all_m : ∀ n, n ≤ 8 → (if nI (4 * n) = 32 then (-1 : Int32) else (1 <<< (nI (4 * n) &&& 31)) - 1) = allS n := by
  intro n h
  exact (by decide +kernel : ∀ n, n < 9 → (if nI (4 * n) = 32 then (-1 : Int32) else (1 <<< (nI (4 * n) &&& 31)) - 1) = allS n) n (by omega)
theorem s4_all {SI : Ob} {n : Nat} (hn : SI.1 0 = nI n) (h8 : n ≤ 8) : f4_all SI = some (allS n) := by
  unfold f4_all f4_all_22
  rw [hn, ← all_c n h8]
  split <;> rfl
theorem s12_everyWorld {SM : Ob} {n : Nat} (hn : SM.2.2.1 10 0 = nI n) (h8 : n ≤ 8) : f12_everyWorld SM = some (allS n) := by
  unfold f12_everyWorld f12_everyWorld_21
  rw [s12_worlds hn, bd_s, ← all_m n h8]
  split
  · rfl
  · rw [bd_s]
theorem allS_bt {n i : Nat} (hi : i < 32) : bt (allS n) i = decide (i < 4 * n) := so_bt _ hi
