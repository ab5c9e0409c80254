/-! pure: feed -/
theorem LB_ushr (x : Int64) {k i : Nat} (hk : k < 64) : LB (lush x (nI k)) i = LB x (k + i) := by
  obtain ⟨m, hm, rfl⟩ := wb_of x
  unfold lush
  rw [wb_shr hm hk, LB_lN (Nat.lt_of_le_of_lt (Nat.div_le_self _ _) hm), LB_lN hm, Nat.testBit_div_two_pow, Nat.add_comm]
theorem l_cnt : ∀ k, k < 64 → (((nI k).toInt64 &&& 63).toBitVec.smod 64).toNat = k := by decide +kernel
theorem LB_sshr (x : Int64) {k i : Nat} (hk : k < 64) (hi : k + i < 64) : LB (x >>> ((nI k).toInt64 &&& 63)) i = LB x (k + i) := by
  unfold LB
  rw [Int64.toBitVec_shiftRight]
  show (x.toBitVec.sshiftRight (((nI k).toInt64 &&& 63).toBitVec.smod 64).toNat).getLsbD i = _
  rw [l_cnt k hk, BitVec.getLsbD_sshiftRight]
  simp [hi]
  omega
theorem bt_32 (y : Int64) {i : Nat} (hi : i < 32) : bt (Int64.toInt32 y) i = LB y i := by
  unfold bt LB
  rw [Int64.toBitVec_toInt32, BitVec.getLsbD_signExtend]
  have : i < 64 := by omega
  simp [hi, this]
theorem LB_255 : ∀ i, i < 64 → LB 255 i = decide (i < 8) := by decide +kernel
theorem byte_eq (x : Int64) {k : Nat} (hk : k ≤ 56) : Int64.toInt32 ((lush x (nI k)) &&& 255) = (Int64.toInt32 (x >>> ((nI k).toInt64 &&& 63))) &&& 255 := by
  refine b_ext (fun i hi => ?_)
  rw [bt_32 _ hi, LB_and, LB_ushr x (by omega), LB_255 i (by omega), b_and, bt_32 _ hi, b_255]
  by_cases h : i < 8
  · rw [LB_sshr x (by omega) (by omega)]
  · simp [h]
def Tq (ST SM : Ob) : Prop := ∃ t, t ≤ 1000 ∧ ST.1 2 = nI t ∧ SM.1 2 = nI t ∧ ∀ k, k < t → ST.2.2.1 0 k = SM.2.2.1 1 k ∧ ∃ c, (c = 10 ∨ 32 ≤ c ∧ c ≤ 126) ∧ SM.2.2.1 1 k = nI c
theorem put_both {c : Nat} {ST SM : Ob} (h : Tq ST SM) (hc : c = 10 ∨ 32 ≤ c ∧ c ≤ 126) {t : Nat} (ht : ST.1 2 = nI t) (t10 : t < 1000) : Tq (oI (oA ST 0 t (nI c)) 2 (nI (t + 1))) (oI (sR SM 1 (upd (SM.2.2.1 1) t (nI c))) 2 (nI (t + 1))) := by
  obtain ⟨t', t1, t2, t3, t4⟩ := h
  have e : t' = t := (nI_eq (by omega) (by omega)).mp (t2.symm.trans ht)
  subst e
  refine ⟨t' + 1, by omega, rfl, rfl, fun k hk => ?_⟩
  show upd (ST.2.2.1 0) t' (nI c) k = upd (SM.2.2.1 1) t' (nI c) k ∧ ∃ c', _ ∧ upd (SM.2.2.1 1) t' (nI c) k = nI c'
  by_cases hkt : k = t'
  · rw [hkt, pk_us, pk_us]
    exact ⟨rfl, c, hc, rfl⟩
  · rw [pk_un hkt, pk_un hkt]
    exact t4 k (by omega)
theorem oI_sR_2 (SM : Ob) (p p' : Nat → Int32) (v v' : Int32) : oI (sR (oI (sR SM 1 p) 2 v) 1 p') 2 v' = oI (sR SM 1 p') 2 v' := by
  unfold oI sR
  simp only [bx_uu]
theorem lay_both (x : Int64) : ∀ d ST SM m1 m2, d ≤ 8 → d < m1 → d < m2 → Tq ST SM → ∃ ST' p v, f10_put_3 m1 x (nI (8 * d) + (-8)) ST = some ST' ∧ f12_lay_3 m2 x (nI (8 * d) + (-8)) SM = some (oI (sR SM 1 p) 2 v) ∧ Tq ST' (oI (sR SM 1 p) 2 v) ∧ ST'.2.2.2 = ST.2.2.2 := by
  intro d
  induction d with
  | zero =>
    intro ST SM m1 m2 _ h1 h2 h
    obtain ⟨m1, rfl⟩ : ∃ k, m1 = k + 1 := ⟨m1 - 1, by omega⟩
    obtain ⟨m2, rfl⟩ : ∃ k, m2 = k + 1 := ⟨m2 - 1, by omega⟩
    have e : oI (sR SM 1 (SM.2.2.1 1)) 2 (SM.1 2) = SM := by
      rw [sR_self]; unfold oI; rw [va_self]
    refine ⟨ST, SM.2.2.1 1, SM.1 2, ?_, ?_, by rw [e]; exact h, rfl⟩
    · rw [f10_put_3, if_pos (by decide)]
    · rw [f12_lay_3, if_pos (by decide), e]
  | succ d ih =>
    intro ST SM m1 m2 hd h1 h2 h
    obtain ⟨m1, rfl⟩ : ∃ k, m1 = k + 1 := ⟨m1 - 1, by omega⟩
    obtain ⟨m2, rfl⟩ : ∃ k, m2 = k + 1 := ⟨m2 - 1, by omega⟩
    have ei : nI (8 * (d + 1)) + (-8) = nI (8 * d) := by
      rw [show 8 * (d + 1) = 8 * d + 8 by omega, ← nI_add, Int32.add_assoc, show nI 8 + (-8) = 0 from by decide, Int32.add_zero]
    have e82 : ∀ S, f10_put_82 (f10_put_3 m1) x (nI (8 * d)) S = f10_put_3 m1 x (nI (8 * d) + (-8)) S := fun S => rfl
    have e69 : ∀ S, f12_lay_69 (f12_lay_3 m2) x (nI (8 * d)) S = f12_lay_3 m2 x (nI (8 * d) + (-8)) S := fun S => rfl
    obtain ⟨c, hc, hce⟩ := pk_andE (Int64.toInt32 (x >>> ((nI (8 * d)).toInt64 &&& 63))) (m := 255) 8 (by decide)
    rw [ei, f10_put_3, if_neg (nI_pos (by omega)), f12_lay_3, if_neg (nI_pos (by omega)), byte_eq x (by omega), hce, lt_e, lt_e]
    have skip : ∃ ST' p v, f10_put_3 m1 x (nI (8 * d) + (-8)) ST = some ST' ∧ f12_lay_3 m2 x (nI (8 * d) + (-8)) SM = some (oI (sR SM 1 p) 2 v) ∧ Tq ST' (oI (sR SM 1 p) 2 v) ∧ ST'.2.2.2 = ST.2.2.2 := ih ST SM m1 m2 (by omega) (by omega) (by omega) h
    obtain ⟨t, t1, t2, t3, t4⟩ := id h
    have take : (c = 10 ∨ 32 ≤ c ∧ c ≤ 126) → ∃ ST' p v, f10_put_38 (f10_put_3 m1) x (nI (8 * d)) (nI c) ST = some ST' ∧ f12_lay_38 (f12_lay_3 m2) x (nI (8 * d)) (nI c) SM = some (oI (sR SM 1 p) 2 v) ∧ Tq ST' (oI (sR SM 1 p) 2 v) ∧ ST'.2.2.2 = ST.2.2.2 := by
      intro hcc
      unfold f10_put_38 f10_put_43 f12_lay_38
      rw [if_neg (by decide), t2, t3, e82, e69]
      by_cases ht : t = 1000
      · rw [if_pos (by rw [ht]; decide), if_pos (by rw [ht]; decide)]
        exact skip
      · rw [if_neg (show ¬ (1000 : Int32) ≤ nI t from nI_ge (b := 1000) (by omega) (by omega)), if_neg (show ¬ (1000 : Int32) ≤ nI t from nI_ge (b := 1000) (by omega) (by omega)), inb_nI (by omega) (by omega), ck_t, ck_t, lt_e, lt_e, lt_e, lt_e, nI_clamp (by omega), pk_vb, fa_byte_small (by omega), e82, e69]
        have q1 : (oA ST 0 t (nI c)).1 2 + 1 = nI (t + 1) := by
          show ST.1 2 + 1 = _
          rw [t2, nI_1]
        have q2 : (oA SM 1 t (nI c)).1 2 + 1 = nI (t + 1) := by
          show SM.1 2 + 1 = _
          rw [t3, nI_1]
        rw [q1, q2, oA_sR SM]
        obtain ⟨ST', p, v, r1, r2, r3, r4⟩ := ih _ _ m1 m2 (by omega) (by omega) (by omega) (put_both h hcc t2 (by omega))
        rw [oI_sR_2] at r2 r3
        exact ⟨ST', p, v, r1, r2, r3, r4⟩
    by_cases h10 : c = 10
    · rw [if_pos (by rw [h10]; rfl), if_pos (by rw [h10]; rfl)]
      exact take (Or.inl h10)
    · have n10 : ¬ nI c = 10 := fun hh => h10 ((nI_eq (b := 10) (by omega) (by omega)).mp hh)
      rw [if_neg n10, if_neg n10]
      unfold f10_put_42
      by_cases h32 : c < 32
      · rw [if_pos (show nI c < 32 from nI_lt (b := 32) h32 (by omega)), if_pos (show nI c < 32 from nI_lt (b := 32) h32 (by omega)), e69]
        unfold f10_put_43
        rw [if_pos rfl, e82]
        exact skip
      · rw [if_neg (show ¬ nI c < 32 from nI_nlt (b := 32) (by omega) (by omega)), if_neg (show ¬ nI c < 32 from nI_nlt (b := 32) (by omega) (by omega))]
        by_cases h126 : 126 < c
        · rw [if_pos (show (126 : Int32) < nI c from nI_lt (a := 126) h126 (by omega)), if_pos (show (126 : Int32) < nI c from nI_lt (a := 126) h126 (by omega)), e69]
          unfold f10_put_43
          rw [if_pos rfl, e82]
          exact skip
        · rw [if_neg (show ¬ (126 : Int32) < nI c from nI_nlt (a := 126) (by omega) (by omega)), if_neg (show ¬ (126 : Int32) < nI c from nI_nlt (a := 126) (by omega) (by omega))]
          exact take (Or.inr ⟨by omega, by omega⟩)
theorem st_feed : St_feed Inv := by
  intro cs sm x1 x3 x5 h
  obtain ⟨n, g, hI⟩ := h
  obtain ⟨hC, hM, hB, hU, hK, hT, hO, hL, hN⟩ := id hI
  obtain ⟨⟨t, t1, t2, t3, t4⟩, k9, k1⟩ := hT
  have hq : Tq (cs 3) (oI sm 0 0) := ⟨t, t1, t2, t3, t4⟩
  have e56 : nI (8 * 8) + (-8) = 56 := by decide
  obtain ⟨S1, p1, v1, a1, b1, c1, d1⟩ := lay_both x1 8 (cs 3) (oI sm 0 0) FU FU (by omega) (FU_lt (by omega)) (FU_lt (by omega)) hq
  obtain ⟨S2, p2, v2, a2, b2, c2, d2⟩ := lay_both x3 8 _ _ FU FU (by omega) (FU_lt (by omega)) (FU_lt (by omega)) c1
  obtain ⟨S3, p3, v3, a3, b3, c3, d3⟩ := lay_both x5 8 _ _ FU FU (by omega) (FU_lt (by omega)) (FU_lt (by omega)) c2
  rw [oI_sR_2] at b2 c2
  rw [oI_sR_2] at b3
  rw [oI_sR_2, oI_sR_2] at c3
  rw [oI_sR_2] at b3
  rw [e56] at a1 a2 a3 b1 b2 b3
  obtain ⟨t', w1, w2, w3, w4⟩ := id c3
  refine ⟨S3.1 2, S3, oI (sR (oI sm 0 0) 1 p3) 2 v3, ?_, ?_, n, g, ?_⟩
  · unfold f11_feed f10_put
    rw [a1, bd_s, a2, bd_s, a3, bd_s]
  · unfold f12_feed f12_lay
    rw [lt_e, b1, bd_s, b2, bd_s, b3, bd_s, w2, w3]
  · refine ⟨hC, hM, hB, hU, MkR_like hK (fun _ _ _ => rfl) rfl (fun m _ => va_ne _ (by omega) _), ⟨⟨t', w1, w2, w3, w4⟩, k9, ?_⟩, hO, hL, hN⟩
    obtain ⟨ST1, f1, f2⟩ := k1
    refine ⟨ST1, f1, fun i hi => ?_⟩
    show S3.2.2.2 1 i = _
    rw [d3, d2, d1]
    exact f2 i hi
