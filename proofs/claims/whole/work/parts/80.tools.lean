/-! pure: combinators, loops over a counter, sets of bits -/
theorem bd_s {α β : Type} (a : α) (f : α → Option β) : bd (some a) f = f a := rfl
theorem ck_t {α : Type} (x : Option α) : ck true x = x := rfl
theorem lt_e {α β : Type} (x : α) (f : α → Option β) : lt x f = f x := rfl
theorem ck_p {α : Type} {b : Bool} (h : b = true) (x : Option α) : ck b x = x := by rw [h]; rfl
theorem inb_nI {j N : Nat} (h : j < N) (hN : N < 2 ^ 31) : inb (nI j) N = true := decide_eq_true (nI_in h hN)
theorem isz_0 : isz 0 = true := rfl
theorem isz_1 : isz 1 = true := rfl
theorem FU_lt {n : Nat} (h : n < 5000) : n < FU := h
def fl {α : Type} (f : Nat → α → α) : Nat → α → α
  | 0, a => a
  | n + 1, a => f n (fl f n a)
theorem fl_succ {α : Type} (f : Nat → α → α) (n : Nat) (a : α) : fl f (n + 1) a = f n (fl f n a) := rfl
theorem fl_cong {α : Type} {f g : Nat → α → α} {a : α} : ∀ {n : Nat}, (∀ j b, j < n → f j b = g j b) → fl f n a = fl g n a
  | 0, _ => rfl
  | n + 1, h => by rw [fl_succ, fl_succ, fl_cong (fun j b hj => h j b (by omega)), h n _ (by omega)]
theorem loop_fl {α β : Type} (L : Nat → Nat → α → Option β) (f : Nat → α → α) (fin : α → Option β) (n : Nat) (a0 : α) (hend : ∀ m, L (m + 1) n (fl f n a0) = fin (fl f n a0)) (hstep : ∀ m j, j < n → L (m + 1) j (fl f j a0) = L m (j + 1) (f j (fl f j a0))) : ∀ m j, j ≤ n → n - j < m → L m j (fl f j a0) = fin (fl f n a0) := by
  intro m
  induction m with
  | zero => intro j h1 h2; omega
  | succ m ih =>
    intro j h1 h2
    by_cases h : j = n
    · subst h
      exact hend m
    · rw [hstep m j (by omega)]
      exact ih (j + 1) (by omega) (by omega)
/-- a loop with an invariant of its state -/
theorem loop_inv {α β : Type} (L : Nat → Nat → α → Option β) (I : Nat → α → Prop) (R : β → Prop) (n : Nat) (hend : ∀ m a, I n a → ∃ r, L (m + 1) n a = some r ∧ R r) (hstep : ∀ m j a, j < n → I j a → ∃ b, I (j + 1) b ∧ L (m + 1) j a = L m (j + 1) b) : ∀ m j a, j ≤ n → n - j < m → I j a → ∃ r, L m j a = some r ∧ R r := by
  intro m
  induction m with
  | zero => intro j a h1 h2; omega
  | succ m ih =>
    intro j a h1 h2 hI
    by_cases h : j = n
    · subst h
      exact hend m a hI
    · obtain ⟨b, hb, e⟩ := hstep m j a (by omega) hI
      rw [e]
      exact ih (j + 1) b (by omega) (by omega) hb
/-- a loop that may end early -/
theorem loop_find {β : Type} (L : Nat → Nat → Option β) (p : Nat → Bool) (hit : Nat → Option β) (miss : Option β) (n : Nat) (hend : ∀ m, L (m + 1) n = miss) (hyes : ∀ m j, j < n → p j = true → L (m + 1) j = hit j) (hno : ∀ m j, j < n → p j = false → L (m + 1) j = L m (j + 1)) : ∀ m j, j ≤ n → n - j < m → L m j = (match (List.range' j (n - j)).find? p with | some k => hit k | none => miss) := by
  intro m
  induction m with
  | zero => intro j h1 h2; omega
  | succ m ih =>
    intro j h1 h2
    by_cases h : j = n
    · subst h
      rw [hend m, Nat.sub_self]
      rfl
    · obtain ⟨k, hk⟩ : ∃ k, n - j = k + 1 := ⟨n - j - 1, by omega⟩
      rw [hk, List.range'_succ, List.find?_cons]
      by_cases hp : p j = true
      · rw [hyes m j (by omega) hp, hp]
      · have hp' : p j = false := by simpa using hp
        rw [hno m j (by omega) hp', hp', ih (j + 1) (by omega) (by omega), show n - (j + 1) = k by omega]
/-- the set of those k < 32 that fulfil p -/
def so (p : Nat → Bool) : Int32 := fl (fun k a => if p k then a ||| (1 <<< (nI k &&& 31)) else a) 32 0
theorem b_1 : ∀ i, i < 32 → bt 1 i = decide (i = 0) := by decide +kernel
theorem b_15 : ∀ i, i < 32 → bt 15 i = decide (i < 4) := by decide +kernel
theorem b_one {k i : Nat} (hk : k < 32) (hi : i < 32) : bt (1 <<< (nI k &&& 31)) i = decide (i = k) := by
  rw [b_shl k hk 1 hi]
  by_cases h : k ≤ i
  · rw [b_1 (i - k) (by omega)]
    by_cases h2 : i = k
    · subst h2; simp
    · simp [h2, h]; omega
  · have h2 : i ≠ k := by omega
    simp [h, h2]
theorem fl_bits (p : Nat → Bool) {i : Nat} (hi : i < 32) : ∀ n, n ≤ 32 → bt (fl (fun k a => if p k then a ||| (1 <<< (nI k &&& 31)) else a) n 0) i = (decide (i < n) && p i)
  | 0, _ => by simp [fl, b_0]
  | n + 1, h => by
    have ih := fl_bits p hi n (by omega)
    rw [fl_succ]
    by_cases hp : p n = true
    · rw [if_pos hp, b_or, ih, b_one (by omega) hi]
      by_cases h2 : i = n
      · subst h2; simp [hp]
      · by_cases h3 : i < n
        · have : i < n + 1 := by omega
          simp [h2, h3, this]
        · have : ¬ i < n + 1 := by omega
          simp [h2, h3, this]
    · have hp' : p n = false := by simpa using hp
      rw [if_neg hp, ih]
      by_cases h2 : i = n
      · subst h2; simp [hp']
      · by_cases h3 : i < n
        · have : i < n + 1 := by omega
          simp [h3, this]
        · have : ¬ i < n + 1 := by omega
          simp [h3, this]
theorem so_bt (p : Nat → Bool) {i : Nat} (hi : i < 32) : bt (so p) i = p i := by
  unfold so
  rw [fl_bits p hi 32 (Nat.le_refl _)]
  simp [hi]
theorem so_eq {x : Int32} {p : Nat → Bool} (h : ∀ i, i < 32 → bt x i = p i) : x = so p := b_ext (fun i hi => by rw [h i hi, so_bt p hi])
theorem so_cong {p q : Nat → Bool} (h : ∀ i, i < 32 → p i = q i) : so p = so q := b_ext (fun i hi => by rw [so_bt p hi, so_bt q hi, h i hi])
theorem so_self (x : Int32) : so (bt x) = x := (so_eq (fun _ _ => rfl)).symm
/-- a fold that adds bits below n <= 32 -/
theorem fl_so (c : Nat → Bool) {n : Nat} (hn : n ≤ 32) : fl (fun k a => if c k then a ||| (1 <<< (nI k &&& 31)) else a) n 0 = so (fun k => decide (k < n) && c k) := so_eq (fun i hi => fl_bits c hi n hn)
theorem b_not (x : Int32) {i : Nat} (hi : i < 32) : bt (x ^^^ (-1)) i = !bt x i := by
  rw [b_xor, b_m1 i hi]
  cases bt x i <;> rfl
theorem b_z {x : Int32} : x = 0 ↔ ∀ i, i < 32 → bt x i = false := by
  constructor
  · intro h i _; rw [h, b_0]
  · intro h; exact b_ext (fun i hi => by rw [h i hi, b_0])
theorem so_and (p q : Nat → Bool) : so p &&& so q = so (fun i => p i && q i) := so_eq (fun i hi => by rw [b_and, so_bt p hi, so_bt q hi])
theorem so_or (p q : Nat → Bool) : so p ||| so q = so (fun i => p i || q i) := so_eq (fun i hi => by rw [b_or, so_bt p hi, so_bt q hi])
theorem so_xor (p q : Nat → Bool) : so p ^^^ so q = so (fun i => p i ^^ q i) := so_eq (fun i hi => by rw [b_xor, so_bt p hi, so_bt q hi])
theorem so_not (p : Nat → Bool) : so p ^^^ (-1) = so (fun i => !p i) := so_eq (fun i hi => by rw [b_not _ hi, so_bt p hi])
theorem so_0 : so (fun _ => false) = 0 := (so_eq (fun i _ => b_0 i)).symm
theorem so_z {p : Nat → Bool} : so p = 0 ↔ ∀ i, i < 32 → p i = false := by
  rw [b_z]
  constructor
  · intro h i hi; rw [← so_bt p hi]; exact h i hi
  · intro h i hi; rw [so_bt p hi]; exact h i hi
/-- one bit by shift and mask -/
theorem bit_s {x : Int32} {k : Nat} (hk : k < 32) : (x >>> (nI k &&& 31)) &&& 1 = if bt x k then 1 else 0 := by
  refine b_ext (fun i hi => ?_)
  rw [b_and, b_sshr k hk x hi, b_1 i hi]
  by_cases h : i = 0
  · subst h
    rw [if_pos (by omega), Nat.add_zero]
    cases bt x k
    · simp [b_0]
    · simp [b_1 0 (by omega)]
  · cases bt x k
    · simp [b_0, h]
    · simp [b_1 i hi, h]
theorem bit_u {x : Int32} {k : Nat} (hk : k < 32) : (ush x (nI k)) &&& 1 = if bt x k then 1 else 0 := by
  unfold ush
  refine b_ext (fun i hi => ?_)
  rw [b_and, b_ushr k hk x i, b_1 i hi]
  by_cases h : i = 0
  · subst h
    rw [Nat.add_zero]
    cases bt x k
    · simp [b_0]
    · simp [b_1 0 (by omega)]
  · cases bt x k
    · simp [b_0, h]
    · simp [b_1 i hi, h]
theorem ib_1 (b : Bool) : ((if b then (1 : Int32) else 0) = 1) ↔ b = true := by cases b <;> simp
theorem ib_0 (b : Bool) : ((if b then (1 : Int32) else 0) = 0) ↔ b = false := by cases b <;> simp
/-- the four worlds of a guest -/
def w4s (j i : Nat) : Bool := decide (4 * j ≤ i) && decide (i < 4 * j + 4)
def whoB (x : Int32) (j : Nat) : Bool := bt x (4 * j) || bt x (4 * j + 1) || bt x (4 * j + 2) || bt x (4 * j + 3)
theorem nI_4 (j : Nat) : nI j * 4 = nI (4 * j) := by rw [show (4 : Int32) = nI 4 from rfl, pk_mul, Nat.mul_comm]
theorem nI_4' (j : Nat) : 4 * nI j = nI (4 * j) := by rw [show (4 : Int32) = nI 4 from rfl, pk_mul]
theorem own_bt {j i : Nat} (hj : j < 8) (hi : i < 32) : bt (15 <<< (nI (4 * j) &&& 31)) i = w4s j i := by
  rw [b_shl (4 * j) (by omega) 15 hi]
  unfold w4s
  by_cases h : 4 * j ≤ i
  · rw [b_15 (i - 4 * j) (by omega)]
    by_cases h2 : i < 4 * j + 4
    · simp [h, h2]; omega
    · simp [h, h2]; omega
  · simp [h]
theorem own_so {j : Nat} (hj : j < 8) : 15 <<< (nI (4 * j) &&& 31) = so (w4s j) := so_eq (fun _ hi => own_bt hj hi)
theorem own_z {x : Int32} {j : Nat} (hj : j < 8) : (x &&& (15 <<< (nI (4 * j) &&& 31))) = 0 ↔ whoB x j = false := by
  rw [b_z]
  constructor
  · intro h
    unfold whoB
    have h0 := h (4 * j) (by omega)
    have h1 := h (4 * j + 1) (by omega)
    have h2 := h (4 * j + 2) (by omega)
    have h3 := h (4 * j + 3) (by omega)
    rw [b_and, own_bt hj (by omega)] at h0 h1 h2 h3
    simp [w4s] at h0 h1 h2 h3
    simp [h0, h1, h2, h3]
  · intro h i hi
    rw [b_and, own_bt hj hi]
    unfold whoB at h
    simp only [Bool.or_eq_false_iff] at h
    by_cases h2 : 4 * j ≤ i ∧ i < 4 * j + 4
    · have : i = 4 * j ∨ i = 4 * j + 1 ∨ i = 4 * j + 2 ∨ i = 4 * j + 3 := by omega
      rcases this with e | e | e | e <;> subst e <;> simp [h]
    · unfold w4s
      by_cases h3 : 4 * j ≤ i
      · have : ¬ i < 4 * j + 4 := by omega
        simp [this]
      · simp [h3]
/-- which of n guests are the one in a world of x -/
def whoS (n : Nat) (x : Int32) : Int32 := so (fun j => decide (j < n) && whoB x j)
def whoF (x : Int32) (g : Nat) (a : Int32) : Int32 := if whoB x g then a ||| (1 <<< (nI g &&& 31)) else a
theorem who_fl (x : Int32) {n : Nat} (h : n ≤ 8) : fl (whoF x) n 0 = whoS n x := fl_so (whoB x) (by omega)
theorem s4_guestsIn {SI : Ob} {n : Nat} (x : Int32) (hn : SI.1 0 = nI n) (h8 : n ≤ 8) : f4_guestsIn x SI = some (whoS n x) := by
  rw [← who_fl x h8]
  refine loop_fl (fun m j a => f4_guestsIn_4 m x a (nI j) SI) (whoF x) some n 0 ?_ ?_ FU 0 (Nat.zero_le _) (FU_lt (by omega))
  · intro m
    show f4_guestsIn_4 (m + 1) x _ (nI n) SI = _
    rw [f4_guestsIn_4, hn, if_pos (nI_le (Nat.le_refl n) (by omega))]
  · intro m j hj
    show f4_guestsIn_4 (m + 1) x _ (nI j) SI = f4_guestsIn_4 m x _ (nI (j + 1)) SI
    rw [f4_guestsIn_4, hn, if_neg (nI_ge hj (by omega)), nI_succ]
    simp only [f4_worldsOf, bd_s, f4_guestsIn_28, lt_e, whoF, nI_4]
    by_cases h : whoB x j = true
    · rw [if_neg (by rw [own_z (by omega), h]; simp), if_pos h]
    · rw [if_pos ((own_z (by omega)).mpr (by simpa using h)), if_neg h]
theorem s12_guests (SM : Ob) : f12_guests SM = some (SM.2.2.1 10 0) := rfl
theorem s12_signs (SM : Ob) : f12_signs SM = some (SM.2.2.1 10 1) := rfl
theorem s12_whoIn {SM : Ob} {n : Nat} (x : Int32) (hn : SM.2.2.1 10 0 = nI n) (h8 : n ≤ 8) : f12_whoIn x SM = some (whoS n x) := by
  rw [← who_fl x h8]
  refine loop_fl (fun m j a => f12_whoIn_4 m x a (nI j) SM) (whoF x) some n 0 ?_ ?_ FU 0 (Nat.zero_le _) (FU_lt (by omega))
  · intro m
    show f12_whoIn_4 (m + 1) x _ (nI n) SM = _
    rw [f12_whoIn_4, s12_guests, hn]
    simp only [bd_s]
    rw [if_pos (nI_le (Nat.le_refl n) (by omega))]
  · intro m j hj
    show f12_whoIn_4 (m + 1) x _ (nI j) SM = f12_whoIn_4 m x _ (nI (j + 1)) SM
    rw [f12_whoIn_4, s12_guests, hn, nI_succ]
    simp only [bd_s, f12_worldsOf, f12_whoIn_29, lt_e, whoF, nI_4']
    rw [if_neg (nI_ge hj (by omega))]
    by_cases h : whoB x j = true
    · rw [if_neg (by rw [own_z (by omega), h]; simp), if_pos h]
    · rw [if_pos ((own_z (by omega)).mpr (by simpa using h)), if_neg h, Int32.or_zero]
