/-! pure: how many bits -/
def cnt (x : Int32) : Nat := fb_ct (bt x) 32
theorem cnt_le (x : Int32) : cnt x ≤ 32 := fb_ct_le _ _
theorem s12_bits (x : Int32) : f12_bits x = some (nI (cnt x)) := by
  have hk : ∀ n, n ≤ 32 → fl (fun k (a : Int32) => a + (if bt x k then 1 else 0)) n 0 = nI (fb_ct (bt x) n) := by
    intro n
    induction n with
    | zero => intro _; rfl
    | succ n ih =>
      intro h
      rw [fl_succ, ih (by omega), fb_ct_succ, ← nI_add]
      cases bt x n <;> rfl
  unfold cnt
  rw [← hk 32 (Nat.le_refl _)]
  refine loop_fl (fun m j a => f12_bits_4 m x a (nI j)) (fun k (a : Int32) => a + (if bt x k then 1 else 0)) some 32 0 ?_ ?_ FU 0 (Nat.zero_le _) (FU_lt (by omega))
  · intro m
    show f12_bits_4 (m + 1) x _ (nI 32) = _
    rw [f12_bits_4, if_pos (show (32 : Int32) ≤ nI 32 from by decide)]
  · intro m j hj
    show f12_bits_4 (m + 1) x _ (nI j) = f12_bits_4 m x _ (nI (j + 1))
    rw [f12_bits_4, if_neg (show ¬ (32 : Int32) ≤ nI j from nI_ge (b := 32) hj (by omega)), nI_succ]
    simp only [lt_e, bit_s hj]
theorem blk_sh {b c m k sh : Nat} (hb : b < 256) (hm : m < 2 ^ (8 - sh)) (hs : sh ≤ 8) : ((b + 256 * c) / 2 ^ sh) &&& (m + 256 * k) = ((b / 2 ^ sh) &&& m) + 256 * ((c / 2 ^ sh) &&& k) := by
  have hm8 : m < 2 ^ 8 := Nat.lt_of_lt_of_le hm (Nat.pow_le_pow_right (by omega) (by omega))
  have e1 : ∀ {u v i : Nat}, u < 2 ^ 8 → (u + 256 * v).testBit i = if i < 8 then u.testBit i else v.testBit (i - 8) := by
    intro u v i hu
    rw [show u + 256 * v = 2 ^ 8 * v + u by omega, Nat.testBit_two_pow_mul_add v hu i]
  have hx : (b / 2 ^ sh) &&& m < 2 ^ 8 := Nat.lt_of_le_of_lt Nat.and_le_right hm8
  refine Nat.eq_of_testBit_eq (fun i => ?_)
  rw [e1 hx, Nat.testBit_and, Nat.testBit_div_two_pow, e1 hm8, e1 (by omega)]
  by_cases h : i < 8
  · rw [if_pos h, if_pos h, Nat.testBit_and, Nat.testBit_div_two_pow]
    by_cases h2 : i < 8 - sh
    · rw [if_pos (by omega)]
    · have : m.testBit i = false := Nat.testBit_lt_two_pow (Nat.lt_of_lt_of_le hm (Nat.pow_le_pow_right (by omega) (by omega)))
      rw [this, Bool.and_false, Bool.and_false]
  · rw [if_neg h, if_neg h, if_neg (by omega), Nat.testBit_and, Nat.testBit_div_two_pow, show i + sh - 8 = (i - 8) + sh by omega]
theorem bt_nI {N i : Nat} (hN : N < 2 ^ 32) : bt (nI N) i = N.testBit i := by
  unfold bt
  rw [BitVec.getLsbD, pk_tn hN]
theorem and15 {a b : Nat} (h : a < 16) : (a + 16 * b) &&& 15 = a := by
  rw [show (15 : Nat) = 2 ^ 4 - 1 from rfl, Nat.and_two_pow_sub_one_eq_mod]; omega
def dig (a b c d : Nat) : Nat := a + 256 * (b + 256 * (c + 256 * d))
theorem dig_ex {N : Nat} (h : N < 2 ^ 32) : ∃ a b c d, a < 256 ∧ b < 256 ∧ c < 256 ∧ d < 256 ∧ N = dig a b c d := ⟨N % 256, N / 256 % 256, N / 65536 % 256, N / 16777216, by omega, by omega, by omega, by omega, by unfold dig; omega⟩
theorem dig_lt {a b c d : Nat} (ha : a < 256) (hb : b < 256) (hc : c < 256) (hd : d < 256) : dig a b c d < 2 ^ 32 := by unfold dig; omega
theorem dig_and {a b c d m sh : Nat} (ha : a < 256) (hb : b < 256) (hc : c < 256) (hm : m < 2 ^ (8 - sh)) (hs : sh ≤ 8) : (dig a b c d / 2 ^ sh) &&& dig m m m m = dig ((a / 2 ^ sh) &&& m) ((b / 2 ^ sh) &&& m) ((c / 2 ^ sh) &&& m) ((d / 2 ^ sh) &&& m) := by
  unfold dig
  rw [blk_sh ha hm hs, blk_sh hb hm hs, blk_sh hc hm hs]
theorem dig_and0 {a b c d m : Nat} (ha : a < 256) (hb : b < 256) (hc : c < 256) (hm : m < 256) : dig a b c d &&& dig m m m m = dig (a &&& m) (b &&& m) (c &&& m) (d &&& m) := by
  have h := dig_and (d := d) (sh := 0) ha hb hc hm (Nat.zero_le _)
  simp only [Nat.pow_zero, Nat.div_one] at h
  exact h
theorem dig_sub {a b c d x y z w : Nat} (ha : x ≤ a) (hb : y ≤ b) (hc : z ≤ c) (hd : w ≤ d) : dig x y z w ≤ dig a b c d ∧ dig a b c d - dig x y z w = dig (a - x) (b - y) (c - z) (d - w) := by
  unfold dig; omega
theorem dig_add {a b c d x y z w : Nat} : dig a b c d + dig x y z w = dig (a + x) (b + y) (c + z) (d + w) := by
  unfold dig; omega
theorem dig_16 {a b c d x y z w : Nat} (ha : a < 16) (hb : b < 16) (hc : c < 16) (hd : d < 16) : dig (a + 16 * x) (b + 16 * y) (c + 16 * z) (d + 16 * w) / 16 = dig (x + 16 * b) (y + 16 * c) (z + 16 * d) w := by
  unfold dig; omega
theorem dig_256 {a b c d : Nat} (ha : a < 256) : dig a b c d / 256 = dig b c d 0 := by
  unfold dig; omega
theorem dig_65536 {a b c d : Nat} (ha : a < 256) (hb : b < 256) : dig a b c d / 65536 = dig c d 0 0 := by
  unfold dig; omega
theorem dig_64 {a b c d : Nat} (ha : a < 64) : dig a b c d % 64 = a := by
  unfold dig; omega
theorem dig_cnt {a b c d : Nat} (ha : a < 256) (hb : b < 256) (hc : c < 256) (hd : d < 256) : cnt (nI (dig a b c d)) = fb_ct (fun i => a.testBit i) 8 + (fb_ct (fun i => b.testBit i) 8 + (fb_ct (fun i => c.testBit i) 8 + fb_ct (fun i => d.testBit i) 8)) := by
  have t : ∀ {u v : Nat} {i : Nat}, u < 256 → (u + 256 * v).testBit i = if i < 8 then u.testBit i else v.testBit (i - 8) := by
    intro u v i hu
    rw [show u + 256 * v = 2 ^ 8 * v + u by omega, Nat.testBit_two_pow_mul_add v (show u < 2 ^ 8 by omega) i]
  have t2 : ∀ (u v k : Nat), u < 256 → fb_ct (fun i => (u + 256 * v).testBit i) (8 + k) = fb_ct (fun i => u.testBit i) 8 + fb_ct (fun i => v.testBit i) k := by
    intro u v k hu
    rw [fb_ct_split]
    congr 1
    · exact fb_ct_cong (fun i hi => by rw [t hu, if_pos hi])
    · exact fb_ct_cong (fun i hi => by rw [t hu, if_neg (by omega), show 8 + i - 8 = i by omega])
  unfold cnt
  rw [fb_ct_cong (q := fun i => (dig a b c d).testBit i) (fun i _ => bt_nI (dig_lt ha hb hc hd))]
  unfold dig
  rw [show 32 = 8 + 24 from rfl, t2 _ _ _ ha, show 24 = 8 + 16 from rfl, t2 _ _ _ hb, show 16 = 8 + 8 from rfl, t2 _ _ _ hc]
def e8 (b : Nat) : Nat := b - ((b / 2 ^ 1) &&& 85)
def h8 (b : Nat) : Nat := (e8 b &&& 51) + ((e8 b / 2 ^ 2) &&& 51)
theorem pop8' : ∀ b, b < 256 → (b / 2 ^ 1) &&& 85 ≤ b ∧ e8 b < 256 ∧ h8 b < 256 ∧ h8 b % 16 ≤ 4 ∧ h8 b / 16 ≤ 4 ∧ h8 b % 16 + h8 b / 16 = fb_ct (fun i => b.testBit i) 8 := by decide +kernel
theorem sw1 {a b c d : Nat} (ha : a < 256) (hb : b < 256) (hc : c < 256) (hd : d < 256) : nI (dig a b c d) - (ush (nI (dig a b c d)) 1 &&& 1431655765) = nI (dig (e8 a) (e8 b) (e8 c) (e8 d)) := by
  have h := dig_sub (pop8' a ha).1 (pop8' b hb).1 (pop8' c hc).1 (pop8' d hd).1
  have m := dig_and (d := d) (m := 85) (sh := 1) ha hb hc (by decide) (by decide)
  unfold ush
  rw [pk_ushrN (dig_lt ha hb hc hd) 1 1 (by decide), show (1431655765 : Int32) = nI (dig 85 85 85 85) from rfl, fa_and, m, pk_sub h.1, h.2]
  rfl
theorem sw2 {a b c d : Nat} (ha : a < 256) (hb : b < 256) (hc : c < 256) (hd : d < 256) : (nI (dig a b c d) &&& 858993459) + (ush (nI (dig a b c d)) 2 &&& 858993459) = nI (dig ((a &&& 51) + ((a / 2 ^ 2) &&& 51)) ((b &&& 51) + ((b / 2 ^ 2) &&& 51)) ((c &&& 51) + ((c / 2 ^ 2) &&& 51)) ((d &&& 51) + ((d / 2 ^ 2) &&& 51))) := by
  have m := dig_and (d := d) (m := 51) (sh := 2) ha hb hc (by decide) (by decide)
  unfold ush
  rw [pk_ushrN (dig_lt ha hb hc hd) 2 2 (by decide), show (858993459 : Int32) = nI (dig 51 51 51 51) from rfl, fa_and, fa_and, m, dig_and0 ha hb hc (by decide), nI_add, dig_add]
theorem sw2' {a b c d : Nat} (ha : e8 a < 256) (hb : e8 b < 256) (hc : e8 c < 256) (hd : e8 d < 256) : (nI (dig (e8 a) (e8 b) (e8 c) (e8 d)) &&& 858993459) + (ush (nI (dig (e8 a) (e8 b) (e8 c) (e8 d))) 2 &&& 858993459) = nI (dig (h8 a) (h8 b) (h8 c) (h8 d)) := sw2 ha hb hc hd
theorem hn8 {z : Nat} (h1 : z % 16 ≤ 4) (h2 : z / 16 ≤ 4) : ∃ l k, z = l + 16 * k ∧ l ≤ 4 ∧ k ≤ 4 ∧ z % 16 + z / 16 = l + k := ⟨z % 16, z / 16, by omega, h1, h2, rfl⟩
theorem sw3 {l0 l1 l2 l3 k0 k1 k2 k3 : Nat} (a0 : l0 ≤ 4) (a1 : l1 ≤ 4) (a2 : l2 ≤ 4) (a3 : l3 ≤ 4) (c0 : k0 ≤ 4) (c1 : k1 ≤ 4) (c2 : k2 ≤ 4) (c3 : k3 ≤ 4) : (nI (dig (l0 + 16 * k0) (l1 + 16 * k1) (l2 + 16 * k2) (l3 + 16 * k3)) + ush (nI (dig (l0 + 16 * k0) (l1 + 16 * k1) (l2 + 16 * k2) (l3 + 16 * k3))) 4) &&& 252645135 = nI (dig (l0 + k0) (l1 + k1) (l2 + k2) (l3 + k3)) := by
  unfold ush
  rw [pk_ushrN (dig_lt (by omega) (by omega) (by omega) (by omega)) 4 4 (by decide), show (2 : Nat) ^ 4 = 16 from rfl, dig_16 (by omega) (by omega) (by omega) (by omega), show (252645135 : Int32) = nI (dig 15 15 15 15) from rfl, nI_add, fa_and, dig_add, dig_and0 (by omega) (by omega) (by omega) (by omega),
    show l0 + 16 * k0 + (k0 + 16 * l1) = (l0 + k0) + 16 * (k0 + l1) by omega, show l1 + 16 * k1 + (k1 + 16 * l2) = (l1 + k1) + 16 * (k1 + l2) by omega, show l2 + 16 * k2 + (k2 + 16 * l3) = (l2 + k2) + 16 * (k2 + l3) by omega, show l3 + 16 * k3 + k3 = (l3 + k3) + 16 * k3 by omega, and15 (by omega), and15 (by omega), and15 (by omega), and15 (by omega)]
theorem sw4 {a b c d : Nat} (ha : a ≤ 8) (hb : b ≤ 8) (hc : c ≤ 8) (hd : d ≤ 8) : nI (dig a b c d) + ush (nI (dig a b c d)) 8 = nI (dig (a + b) (b + c) (c + d) (d + 0)) := by
  unfold ush
  rw [pk_ushrN (dig_lt (by omega) (by omega) (by omega) (by omega)) 8 8 (by decide), nI_add, show (2 : Nat) ^ 8 = 256 from rfl, dig_256 (by omega), dig_add]
theorem sw5 {a b c d : Nat} (ha : a ≤ 16) (hb : b ≤ 16) (hc : c ≤ 16) (hd : d ≤ 16) : nI (dig a b c d) + ush (nI (dig a b c d)) 16 = nI (dig (a + c) (b + d) (c + 0) (d + 0)) := by
  unfold ush
  rw [pk_ushrN (dig_lt (by omega) (by omega) (by omega) (by omega)) 16 16 (by decide), nI_add, show (2 : Nat) ^ 16 = 65536 from rfl, dig_65536 (by omega) (by omega), dig_add]
theorem sj_bitCount (x : Int32) : fj6_bitCount x = some (nI (cnt x)) := by
  obtain ⟨N, hN, rfl⟩ := wb_of32 x
  obtain ⟨a, b, c, d, ha, hb, hc, hd, rfl⟩ := dig_ex hN
  clear hN
  rw [dig_cnt ha hb hc hd]
  obtain ⟨-, a1, a2, a3, a4, a5⟩ := pop8' a ha
  obtain ⟨-, b1, b2, b3, b4, b5⟩ := pop8' b hb
  obtain ⟨-, c1, c2, c3, c4, c5⟩ := pop8' c hc
  obtain ⟨-, d1, d2, d3, d4, d5⟩ := pop8' d hd
  unfold fj6_bitCount
  simp only [lt_e]
  rw [sw1 ha hb hc hd, sw2' a1 b1 c1 d1]
  rw [← a5, ← b5, ← c5, ← d5]
  obtain ⟨l0, k0, e0, f0, g0, s0⟩ := hn8 a3 a4
  obtain ⟨l1, k1, e1, f1, g1, s1⟩ := hn8 b3 b4
  obtain ⟨l2, k2, e2, f2, g2, s2⟩ := hn8 c3 c4
  obtain ⟨l3, k3, e3, f3, g3, s3⟩ := hn8 d3 d4
  rw [s0, s1, s2, s3, e0, e1, e2, e3, sw3 f0 f1 f2 f3 g0 g1 g2 g3]
  clear a1 a2 a3 a4 a5 b1 b2 b3 b4 b5 c1 c2 c3 c4 c5 d1 d2 d3 d4 d5 e0 e1 e2 e3 s0 s1 s2 s3 ha hb hc hd
  rw [sw4 (by omega) (by omega) (by omega) (by omega), sw5 (by omega) (by omega) (by omega) (by omega), show (63 : Int32) = nI (2 ^ 6 - 1) from rfl, fa_mask, show (2 : Nat) ^ 6 = 64 from rfl, dig_64 (by omega)]
  congr 2
  omega
/-- a set below 2^n by its number -/
theorem cnt_small : ∀ v, v < 256 → cnt (nI v) = fb_ct (fun i => v.testBit i) 8 := by
  intro v hv
  unfold cnt
  rw [fb_ct_cong (q := fun i => v.testBit i) (fun i _ => bt_nI (by omega)), show 32 = 8 + 24 from rfl, fb_ct_split, fb_ct_zero (p := fun k => v.testBit (8 + k)).mpr (fun k _ => Nat.testBit_lt_two_pow (Nat.lt_of_lt_of_le (show v < 2 ^ 8 by omega) (Nat.pow_le_pow_right (by omega) (by omega))))]
  rfl
