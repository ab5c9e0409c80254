/-! pure: lines of a morning -/
def FrM (A B : Ob) : Prop := (∀ k, k ≠ 7 → k ≠ 8 → k ≠ 13 → B.1 k = A.1 k) ∧ B.2.1 = A.2.1 ∧ (∀ k, k ≠ 11 → k ≠ 12 → k ≠ 22 → B.2.2.1 k = A.2.2.1 k) ∧ B.2.2.2 = A.2.2.2 ∧ (∀ k, k < 2200 → B.2.2.1 11 k = A.2.2.1 11 k ∧ B.2.2.1 12 k = A.2.2.1 12 k) ∧ ∀ k, k < 80 → B.2.2.1 22 k = A.2.2.1 22 k
theorem FrM_F {A B : Ob} (h : FrF A B) : FrM A B := ⟨h.1, h.2.1, fun k a b _ => h.2.2.1 k a b, h.2.2.2.1, h.2.2.2.2, fun k _ => by rw [h.2.2.1 22 (by omega) (by omega)]⟩
theorem FrM_refl (A : Ob) : FrM A A := FrM_F (FrF_refl A)
theorem FrM_tr {A B D : Ob} (h1 : FrM A B) (h2 : FrM B D) : FrM A D := ⟨fun k a b c => (h2.1 k a b c).trans (h1.1 k a b c), h2.2.1.trans h1.2.1, fun k a b c => (h2.2.2.1 k a b c).trans (h1.2.2.1 k a b c), h2.2.2.2.1.trans h1.2.2.2.1, fun k hk => ⟨(h2.2.2.2.2.1 k hk).1.trans (h1.2.2.2.2.1 k hk).1, (h2.2.2.2.2.1 k hk).2.trans (h1.2.2.2.2.1 k hk).2⟩, fun k hk => (h2.2.2.2.2.2 k hk).trans (h1.2.2.2.2.2 k hk)⟩
theorem FrM_22 (A : Ob) {j : Nat} (hj : 80 ≤ j) (v : Int32) : FrM A (oA A 22 j v) := ⟨fun _ _ _ _ => rfl, rfl, fun k a b c => va_ne _ c _, rfl, fun k _ => ⟨rfl, rfl⟩, fun k hk => pk_un (by omega)⟩
theorem RfS_M {A B : Ob} {C : Nat → Nat} {t N : Nat} (h : RfS A C t N) (hf : FrM A B) : RfS B C t N := RfS_fr h (hf.2.2.1 4 (by omega) (by omega) (by omega)) (hf.2.2.1 5 (by omega) (by omega) (by omega)) (by rw [hf.2.2.2.1]) (by rw [hf.2.2.2.1])
theorem syn_M {C : Nat → Nat} {t N i : Nat} {SG ST SM SM' : Ob} (h : Syn C t N SG ST SM i) (hf : FrM SM SM') (h7 : SM'.1 7 = SM.1 7) (h8 : SM'.1 8 = SM.1 8) : Syn C t N SG ST SM' i := by
  obtain ⟨a1, a2, a3, a4, a5, a6, a7⟩ := h
  exact ⟨a1, a2, a3, h7.trans a4, h8.trans a5, a6, RfS_M a7 hf⟩
/-- what all of a morning's reading rests on -/
def MoC (SI S0 : Ob) (n g : Nat) : Prop := InnC SI n g ∧ S0.1 20 = 0 ∧ S0.1 21 = nI (20 + g) ∧ NmR SI (S0.1 18) (S0.2.2.2 14) (S0.2.2.1 16) n g
theorem moc_ctx {SI S0 SM : Ob} {n g : Nat} (h : MoC SI S0 n g) (hf : FrM S0 SM) : CtxF SI n g SM := by
  obtain ⟨⟨h8, h6, hn, hg, -⟩, a1, a2, a3⟩ := h
  have ht : TbR SM (S0.2.2.2 14) (S0.2.2.1 16) (n + g) := Or.inl ⟨(hf.1 20 (by omega) (by omega) (by omega)).trans a1, (hf.1 18 (by omega) (by omega) (by omega)).trans a3.1, by rw [hf.2.2.2.1], hf.2.2.1 16 (by omega) (by omega) (by omega)⟩
  exact ⟨h8, h6, hn, hg, (hf.1 21 (by omega) (by omega) (by omega)).trans a2, nms_of hn h8 hg h6 (by omega) ht (nmt_of a3)⟩
theorem moc_strict {SI S0 SM : Ob} {n g i : Nat} (h : MoC SI S0 n g) (hf : FrM S0 SM) (h7 : SM.1 7 = nI i) (hi : i < 1002) : ∀ v, f12_find SM = some v → v ≠ nI (20 + g) := by
  obtain ⟨⟨h8, h6, hn, hg, -⟩, a1, a2, a3⟩ := h
  have ht : TbR SM (S0.2.2.2 14) (S0.2.2.1 16) (n + g) := Or.inl ⟨(hf.1 20 (by omega) (by omega) (by omega)).trans a1, (hf.1 18 (by omega) (by omega) (by omega)).trans a3.1, by rw [hf.2.2.2.1], hf.2.2.1 16 (by omega) (by omega) (by omega)⟩
  exact find_strict h8 h6 ht h7 hi a3
/-- the sign at the end of a line -/
theorem semi {C : Nat → Nat} {t N i : Nat} {SG ST SM : Ob} (hsy : Syn C t N SG ST SM i) (SC SN : Ob) : (∃ ST' SM', (bd (f3_take 59 SG ST) fun r_3 => ck (isz r_3.1) (some (r_3.1, r_3.2.1, r_3.2.2, SC, SN))) = some (1, SG, ST', SC, SN) ∧ f12_takeSign 59 SM = some SM' ∧ Syn C t N SG ST' SM' (i + 1) ∧ FrA ST ST' ∧ FrF SM SM' ∧ SM'.1 13 = SM.1 13 ∧ SM'.2.2.1 = SM.2.2.1) ∨ (∃ SG' SM' F, (bd (f3_take 59 SG ST) fun r_3 => ck (isz r_3.1) (some (r_3.1, r_3.2.1, r_3.2.2, SC, SN))) = some (0, SG', ST, SC, SN) ∧ f12_takeSign 59 SM = some SM' ∧ SG'.1 3 = nI F ∧ Flt SM' F ∧ FrF SM SM') := by
  obtain ⟨y1, y2, y3, y4, y5, y6, y7⟩ := id hsy
  have hp := PP_le C t i
  have ht := y7.1
  have w : f12_takeSign 59 SM = _ := r_takeSign y7 y4 y6 y5 (k := 59) (by omega) (by omega)
  rcases c_take hsy (k := 59) (by omega) (by omega) with ⟨hc, ST', e, f, hi, sy⟩ | ⟨hc, e⟩
  · left
    have e' : f3_take 59 SG ST = _ := e
    refine ⟨ST', oI SM 7 (nI (i + 1)), ?_, ?_, sy, f, FrF_I SM (Or.inl rfl) _, rfl, rfl⟩
    · rw [e', bd_s]; rfl
    · rw [w, if_pos hc]
  · right
    have e' : f3_take 59 SG ST = _ := e
    refine ⟨oI SG 3 (nI (1 + 16 * PP C t i)), oI SM 8 (nI (1 + 16 * PP C t i)), 1 + 16 * PP C t i, ?_, ?_, rfl, ⟨rfl, by omega, by omega⟩, FrF_I SM (by omega) _⟩
    · rw [e', bd_s]; rfl
    · rw [w, if_neg hc]
theorem c_add {SN : Ob} {l : Nat} (h : SN.1 0 = nI l) (hl : l < 24) (v : Int32) {b : Int32} (hb : b = 0 ∨ b = 1) : ∃ SN', f7_add v b SN = some SN' ∧ SN'.1 0 = nI (l + 1) ∧ SN'.2.2.1 1 = upd (SN.2.2.1 1) l v ∧ SN'.2.2.1 2 = upd (SN.2.2.1 2) l b := by
  have hv : vp_nar .boolean b = b := by rcases hb with rfl | rfl <;> rfl
  unfold f7_add f7_add_39
  rw [h, if_neg (show ¬ (24 : Int32) ≤ nI l from nI_ge (b := 24) hl (by omega)), inb_nI hl (by omega), ck_t, lt_e]
  have e : (oA SN 1 (Int32.toNatClampNeg (nI l)) v).1 0 = nI l := h
  rw [e, inb_nI hl (by omega), ck_t, lt_e, lt_e, nI_clamp (by omega), hv]
  refine ⟨_, rfl, ?_, rfl, rfl⟩
  show SN.1 0 + 1 = _
  rw [h, nI_1]
/-- what line k will say -/
def LnQ (r10 r28 r11 r12 r22 : Nat → Int32) (r k : Nat) (v : Int32) : Prop := ∀ sm : Ob, Like 0 60 (sm.2.2.1 10) r10 → Like 0 6 (sm.2.2.1 28) r28 → (∀ j, j < 3 → sm.2.2.1 22 (1 + 3 * k + j) = r22 (80 + 3 * k + j)) → (∀ j, j < r → sm.2.2.1 11 (1100 + j) = r11 (2200 + j) ∧ sm.2.2.1 12 (1100 + j) = r12 (2200 + j)) → ∃ p, f12_lineIn (nI (1 + 3 * k)) sm = some (v, sR sm 24 p)
def LnP (SI : Ob) (r10 r28 r11 r12 r22 : Nat → Int32) (r k : Nat) (v b : Int32) : Prop := (b = 0 ∨ b = 1) ∧ (r22 (80 + 3 * k) = 4 ↔ b = 1) ∧ ∃ w, LnQ r10 r28 r11 r12 r22 r k w ∧ (b = 0 → w = v)
theorem es_self (sm : Ob) : sR sm 24 (sm.2.2.1 24) = sm := by unfold sR; rw [va_self]
theorem ln_1 {SI : Ob} {r10 r28 r29 r11 r12 r22 : Nat → Int32} {n g s r k : Nat} (hC : InnC SI n g) (hM : InnM SI r10 r28 r29 n g) (hk : k < 24) (hs : s < g) (h0 : r22 (80 + 3 * k) = 1) (h1 : r22 (80 + 3 * k + 1) = nI s) : LnQ r10 r28 r11 r12 r22 r k (SI.2.2.1 11 s) := by
  intro sm a10 a28 a22 a11
  have hg := hC.2.1
  have b0 := a22 0 (by omega)
  have b1 := a22 1 (by omega)
  rw [Nat.add_zero, Nat.add_zero, h0] at b0
  rw [h1] at b1
  refine ⟨sm.2.2.1 24, ?_⟩
  unfold f12_lineIn f12_lineIn_109
  rw [nI_1, inb_nI (by omega) (by omega), ck_t, lt_e, nI_clamp (by omega), b0, if_neg (show ¬ (1 : Int32) = 0 by decide), if_pos (show (1 : Int32) = 1 from rfl), inb_nI (by omega) (by omega), ck_t, nI_clamp (by omega), b1, inb_nI (show s < 6 by omega) (by omega), ck_t, nI_clamp (by omega), a28 s (by omega) (by omega), hM.2.2.2.2.1 s hs, es_self]
theorem ln_2 {SI : Ob} {r10 r28 r29 r11 r12 r22 : Nat → Int32} {n g s r k : Nat} (hC : InnC SI n g) (hM : InnM SI r10 r28 r29 n g) (hk : k < 24) (hs : s < g) (h0 : r22 (80 + 3 * k) = 2) (h1 : r22 (80 + 3 * k + 1) = nI s) : LnQ r10 r28 r11 r12 r22 r k (allS n &&& (SI.2.2.1 11 s ^^^ (-1))) := by
  intro sm a10 a28 a22 a11
  have hg := hC.2.1
  have b0 := a22 0 (by omega)
  have b1 := a22 1 (by omega)
  rw [Nat.add_zero, Nat.add_zero, h0] at b0
  rw [h1] at b1
  have ew : f12_everyWorld sm = some (allS n) := s12_everyWorld (by rw [a10 0 (by omega) (by omega)]; exact hM.1) hC.1
  refine ⟨sm.2.2.1 24, ?_⟩
  unfold f12_lineIn f12_lineIn_109
  rw [nI_1, inb_nI (by omega) (by omega), ck_t, lt_e, nI_clamp (by omega), b0, if_neg (show ¬ (2 : Int32) = 0 by decide), if_neg (show ¬ (2 : Int32) = 1 by decide), if_pos (show (2 : Int32) = 2 from rfl), inb_nI (by omega) (by omega), ck_t, nI_clamp (by omega), b1, inb_nI (show s < 6 by omega) (by omega), ck_t, nI_clamp (by omega), ew, bd_s, a28 s (by omega) (by omega), hM.2.2.2.2.1 s hs, es_self, Int32.and_comm]
theorem ln_3 {SI : Ob} {r10 r28 r29 r11 r12 r22 : Nat → Int32} {n g w r k : Nat} (hC : InnC SI n g) (hM : InnM SI r10 r28 r29 n g) (hk : k < 24) (hw : w < 4) (h0 : r22 (80 + 3 * k) = 3) (h1 : r22 (80 + 3 * k + 1) = nI w) : LnQ r10 r28 r11 r12 r22 r k (allS n &&& (286331153 <<< (nI w &&& 31))) := by
  intro sm a10 a28 a22 a11
  have b0 := a22 0 (by omega)
  have b1 := a22 1 (by omega)
  rw [Nat.add_zero, Nat.add_zero, h0] at b0
  rw [h1] at b1
  have ew : f12_soOf (nI w) sm = _ := s12_soOf_w (n := n) (by rw [a10 0 (by omega) (by omega)]; exact hM.1) hC.1 hw
  refine ⟨sm.2.2.1 24, ?_⟩
  unfold f12_lineIn f12_lineIn_109
  rw [nI_1, inb_nI (by omega) (by omega), ck_t, lt_e, nI_clamp (by omega), b0, if_neg (show ¬ (3 : Int32) = 0 by decide), if_neg (show ¬ (3 : Int32) = 1 by decide), if_neg (show ¬ (3 : Int32) = 2 by decide), if_pos (show (3 : Int32) = 3 from rfl), inb_nI (by omega) (by omega), ck_t, nI_clamp (by omega), b1, ew, bd_s, es_self]
theorem ln_4 {SI : Ob} {r10 r28 r29 r11 r12 r22 : Nat → Int32} {n g r k : Nat} (hC : InnC SI n g) (hM : InnM SI r10 r28 r29 n g) (hk : k < 24) (h0 : r22 (80 + 3 * k) = 4) : LnQ r10 r28 r11 r12 r22 r k (allS n) := by
  intro sm a10 a28 a22 a11
  have b0 := a22 0 (by omega)
  rw [Nat.add_zero, Nat.add_zero, h0] at b0
  have ew : f12_everyWorld sm = some (allS n) := s12_everyWorld (by rw [a10 0 (by omega) (by omega)]; exact hM.1) hC.1
  refine ⟨sm.2.2.1 24, ?_⟩
  unfold f12_lineIn f12_lineIn_109
  rw [inb_nI (by omega) (by omega), ck_t, lt_e, nI_clamp (by omega), b0, if_neg (show ¬ (4 : Int32) = 0 by decide), if_neg (show ¬ (4 : Int32) = 1 by decide), if_neg (show ¬ (4 : Int32) = 2 by decide), if_neg (show ¬ (4 : Int32) = 3 by decide), ew, bd_s, es_self]
theorem gsr_of {SI : Ob} {r10 r28 r29 f : Nat → Int32} {n g : Nat} (hC : InnC SI n g) (hM : InnM SI r10 r28 r29 n g) (hf : Like 0 60 f r10) : GsR SI f n := by
  obtain ⟨h8, h6, hn, hg, -, h3, -⟩ := hC
  refine ⟨h8, hn, by rw [hf 0 (by omega) (by omega)]; exact hM.1, fun j hj => ?_, fun j hj => ?_⟩
  · obtain ⟨-, m2, m3, -⟩ := hM.2.2.1 j hj
    rw [hf _ (by omega) (by omega), hf _ (by omega) (by omega)]
    exact ⟨m2, m3⟩
  · obtain ⟨v, v1, v2, v3⟩ := h3 j hj
    exact ⟨v, v2, v3⟩
theorem ln_0 {SI SC : Ob} {r10 r28 r29 r11 r12 r22 : Nat → Int32} {n g j r r0 k h : Nat} {L : List (Nat × Nat)} (hC : InnC SI n g) (hM : InnM SI r10 r28 r29 n g) (hk : k < 24) (hj : j < n) (h0 : r22 (80 + 3 * k) = 0) (h1 : r22 (80 + 3 * k + 1) = nI j) (h2 : r22 (80 + 3 * k + 2) = nI (1100 + r0)) (hw : WfA L h) (h64 : h ≤ 64) (hlv : LvA n g L) (hc : CdAt SC 0 L) (hl : L.length ≤ 1000) (hb : CdBt (fun x => r11 (2200 + x)) (fun x => r12 (2200 + x)) r0 L) (hr : r0 + L.length < r) (hr2 : r ≤ 1100) : ∃ u v SC', f2_worlds 0 (nI L.length) SC SI = some (u, SC') ∧ FrS SC SC' ∧ f4_sayable (nI j) u SI = some v ∧ LnQ r10 r28 r11 r12 r22 r k v := by
  have hC' := id hC
  obtain ⟨h8, h6, hn, hg, hk2, h3, h4, h5, h7, h10, h11, h12⟩ := hC'
  obtain ⟨q, q1, q2⟩ := hk2 j hj
  have hmask : ∀ s, s < g → SI.2.2.1 11 s &&& allS n = SI.2.2.1 11 s := fun s hs => b_ext (fun i hi => by
    rw [b_and]
    cases e : bt (SI.2.2.1 11 s) i
    · rfl
    · unfold allS
      rw [so_bt _ hi, decide_eq_true (h11 s hs i hi e)]; rfl)
  have main : ∀ sm : Ob, Like 0 60 (sm.2.2.1 10) r10 → Like 0 6 (sm.2.2.1 28) r28 → (∀ j, j < r → sm.2.2.1 11 (1100 + j) = r11 (2200 + j) ∧ sm.2.2.1 12 (1100 + j) = r12 (2200 + j)) → ∃ v p SC', f2_worlds (nI 0) (nI (0 + L.length)) SC SI = some (v, SC') ∧ FrS SC SC' ∧ f12_soIn (nI (1100 + r0)) sm = some (v, sR sm 24 p) ∧ v &&& allS n = v := by
    intro sm a10 a28 a11
    refine worlds_both (gsr_of hC hM a10) hw h64 hlv (Nat.le_refl _) (Nat.le_refl _) h6 hg (fun s hs => ⟨by rw [a28 s (by omega) (by omega)]; exact hM.2.2.2.2.1 s hs, hmask s hs⟩) hc (by omega) ⟨fun k x hx => ?_, ?_⟩ (by omega)
    · have hkl : k < L.length := by
        rcases Nat.lt_or_ge k L.length with h | h
        · exact h
        · rw [List.getElem?_eq_none h] at hx; exact absurd hx (by simp)
      obtain ⟨e1, e2⟩ := a11 (r0 + k) (by omega)
      obtain ⟨d1, d2⟩ := hb.1 k x hx
      rw [Nat.add_assoc, e1, e2]
      exact ⟨d1, d2⟩
    · obtain ⟨e1, e2⟩ := a11 (r0 + L.length) (by omega)
      rw [Nat.add_assoc, e1]
      exact hb.2
  obtain ⟨u, p0, SC', u1, u2, u3, u4⟩ := main (sR (sR (sR (sR o0 10 r10) 28 r28) 11 (fun x => r11 (2200 + (x - 1100)))) 12 (fun x => r12 (2200 + (x - 1100)))) (fun _ _ _ => rfl) (fun _ _ _ => rfl) (fun j _ => ⟨by show r11 (2200 + (1100 + j - 1100)) = _; rw [show 1100 + j - 1100 = j by omega], by show r12 (2200 + (1100 + j - 1100)) = _; rw [show 1100 + j - 1100 = j by omega]⟩)
  rw [Nat.zero_add] at u1
  refine ⟨u, sayS n q j u, SC', u1, u2, s4_sayable u hn h8 hj q2 q1, ?_⟩
  intro sm a10 a28 a22 a11
  have b0 := a22 0 (by omega)
  have b1 := a22 1 (by omega)
  have b2 := a22 2 (by omega)
  rw [Nat.add_zero, Nat.add_zero, h0] at b0
  rw [h1] at b1
  rw [h2] at b2
  obtain ⟨u', p, SC'', w1, w2, w3, w4⟩ := main sm a10 a28 a11
  rw [Nat.zero_add, u1] at w1
  have eu : u' = u := by
    have := Option.some.inj w1
    exact (congrArg Prod.fst this).symm
  rw [eu] at w3
  refine ⟨p, ?_⟩
  have hs : f12_saidIn (nI j) u (sR sm 24 p) = some (sayS n q j u) := by
    have e10 : (sR sm 24 p).2.2.1 10 = sm.2.2.1 10 := sR_off sm (by omega) p
    have := s12_saidIn (SM := sR sm 24 p) (n := n) (j := j) (k := q) u (by rw [e10, a10 0 (by omega) (by omega)]; exact hM.1) h8 hj (by rw [e10, a10 _ (by omega) (by omega), (hM.2.2.1 j hj).1, q2]) q1
    rw [u4] at this
    exact this
  have e2 : nI (1 + 3 * k) + 2 = nI (1 + 3 * k + 2) := by rw [show (2 : Int32) = nI 2 from rfl, nI_add]
  unfold f12_lineIn
  rw [nI_1, e2, inb_nI (by omega) (by omega), ck_t, lt_e, nI_clamp (by omega), b0, if_pos (show (0 : Int32) = 0 from rfl), inb_nI (by omega) (by omega), ck_t, inb_nI (by omega) (by omega), ck_t, nI_clamp (by omega), nI_clamp (by omega), b1, b2, w3, bd_s]
  show bd (f12_saidIn (nI j) u (sR sm 24 p)) _ = _
  rw [hs, bd_s]
