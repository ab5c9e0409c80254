/-! pure: new names -/
theorem ul_s {f : Nat → Int64} {j : Nat} {v : Int64} : vp_updL f j v j = v := by unfold vp_updL; simp
theorem ul_n {f : Nat → Int64} {j k : Nat} {v : Int64} (h : k ≠ j) : vp_updL f j v k = f k := by unfold vp_updL; simp [h]
def NewW (l : Nat → Int64) (K : Nat) (w : List Nat) : Prop := okW w ∧ ∀ k, k < K → l k ≠ lN (codM w)
theorem nmr_guest {SI SI' : Ob} {many : Int32} {l : Nat → Int64} {r : Nat → Int32} {n g : Nat} {w : List Nat} (h : NmR SI many l r n g) (hw : NewW l (n + g) w) (hn : n < 8) (e1 : ∀ j, j < n → SI'.2.2.2 1 j = SI.2.2.2 1 j) (e2 : SI'.2.2.2 1 n = lN (codC w)) (e9 : ∀ s, s < g → SI'.2.2.2 9 s = SI.2.2.2 9 s) : NmR SI' (nI (n + g + 1)) (vp_updL l (n + g) (lN (codM w))) (upd r (n + g) (nI n)) (n + 1) g := by
  obtain ⟨-, ws, id, h1, h2, h3, h4⟩ := h
  have hne : ∀ k, k < n + g → ws k ≠ w := fun k hk e => hw.2 k hk (by rw [(h1 k hk).2.1, e])
  refine ⟨congrArg nI (by omega), fun k => if k = n + g then w else ws k, fun k => if k = n + g then n else id k, fun k hk => ?_, fun k m hk hm e => ?_, fun j hj => ?_, fun s hs => ?_⟩
  · by_cases c : k = n + g
    · simp only [if_pos c]
      rw [c, ul_s, pk_us]
      exact ⟨hw.1, rfl, rfl, Or.inl (by omega), fun _ => e2, fun h => absurd h (by omega)⟩
    · simp only [if_neg c]
      rw [ul_n (by omega), pk_un (by omega)]
      obtain ⟨a1, a2, a3, a4, a5, a6⟩ := h1 k (by omega)
      refine ⟨a1, a2, a3, by omega, fun hl => ?_, fun hl => ?_⟩
      · rcases a4 with a4 | a4
        · rw [e1 _ a4]; exact a5 a4
        · omega
      · rcases a4 with a4 | a4
        · omega
        · rw [e9 _ (by omega)]; exact a6 hl
  · simp only at e
    by_cases c : k = n + g
    · by_cases c' : m = n + g
      · rw [c, c']
      · rw [if_pos c, if_neg c'] at e
        exact absurd e.symm (hne m (by omega))
    · by_cases c' : m = n + g
      · rw [if_neg c, if_pos c'] at e
        exact absurd e (hne k (by omega))
      · rw [if_neg c, if_neg c'] at e
        exact h2 k m (by omega) (by omega) e
  · by_cases c : j = n
    · exact ⟨n + g, by omega, by simp only [if_pos]; exact c.symm⟩
    · obtain ⟨k, hk, ek⟩ := h3 j (by omega)
      exact ⟨k, by omega, by simp only [if_neg (show ¬ k = n + g by omega)]; exact ek⟩
  · obtain ⟨k, hk, ek⟩ := h4 s hs
    exact ⟨k, by omega, by simp only [if_neg (show ¬ k = n + g by omega)]; exact ek⟩
theorem nmt_mid {SI : Ob} {many : Int32} {l : Nat → Int64} {r : Nat → Int32} {n g : Nat} {w : List Nat} (h : NmR SI many l r n g) (hw : NewW l (n + g) w) (hn : n ≤ 8) : NmT SI (vp_updL l (n + g) (lN (codM w))) (upd r (n + g) (nI (20 + g))) n g (n + g + 1) := by
  obtain ⟨-, ws, id, h1, h2, h3, h4⟩ := h
  have hne : ∀ k, k < n + g → ws k ≠ w := fun k hk e => hw.2 k hk (by rw [(h1 k hk).2.1, e])
  refine ⟨fun k => if k = n + g then w else ws k, fun k => if k = n + g then 20 + g else id k, fun k hk => ?_, fun k m hk hm e => ?_, fun j hj => ?_, fun s hs => ?_⟩
  · by_cases c : k = n + g
    · simp only [if_pos c]
      rw [c, ul_s, pk_us]
      exact ⟨hw.1, rfl, rfl, Or.inr ⟨by omega, Nat.le_refl _⟩, fun h => absurd h (by omega), fun _ h => absurd h (by omega)⟩
    · simp only [if_neg c]
      rw [ul_n (by omega), pk_un (by omega)]
      obtain ⟨a1, a2, a3, a4, a5, a6⟩ := h1 k (by omega)
      exact ⟨a1, a2, a3, by omega, a5, fun h _ => a6 h⟩
  · simp only at e
    by_cases c : k = n + g
    · by_cases c' : m = n + g
      · rw [c, c']
      · rw [if_pos c, if_neg c'] at e
        exact absurd e.symm (hne m (by omega))
    · by_cases c' : m = n + g
      · rw [if_neg c, if_pos c'] at e
        exact absurd e (hne k (by omega))
      · rw [if_neg c, if_neg c'] at e
        exact h2 k m (by omega) (by omega) e
  · obtain ⟨k, hk, ek⟩ := h3 j hj
    exact ⟨k, by omega, by simp only [if_neg (show ¬ k = n + g by omega)]; exact ek⟩
  · obtain ⟨k, hk, ek⟩ := h4 s hs
    exact ⟨k, by omega, by simp only [if_neg (show ¬ k = n + g by omega)]; exact ek⟩
theorem nmr_sign {SI SI' : Ob} {many : Int32} {l : Nat → Int64} {r : Nat → Int32} {n g : Nat} {w : List Nat} (h : NmR SI many l r n g) (hw : NewW l (n + g) w) (hn : n ≤ 8) (e1 : ∀ j, j < n → SI'.2.2.2 1 j = SI.2.2.2 1 j) (e2 : SI'.2.2.2 9 g = lN (codC w)) (e9 : ∀ s, s < g → SI'.2.2.2 9 s = SI.2.2.2 9 s) : NmR SI' (nI (n + g + 1)) (vp_updL l (n + g) (lN (codM w))) (upd r (n + g) (nI (20 + g))) n (g + 1) := by
  obtain ⟨-, ws, id, h1, h2, h3, h4⟩ := h
  have hne : ∀ k, k < n + g → ws k ≠ w := fun k hk e => hw.2 k hk (by rw [(h1 k hk).2.1, e])
  refine ⟨rfl, fun k => if k = n + g then w else ws k, fun k => if k = n + g then 20 + g else id k, fun k hk => ?_, fun k m hk hm e => ?_, fun j hj => ?_, fun s hs => ?_⟩
  · by_cases c : k = n + g
    · simp only [if_pos c]
      rw [c, ul_s, pk_us]
      exact ⟨hw.1, rfl, rfl, Or.inr ⟨by omega, by omega⟩, fun h => absurd h (by omega), fun _ => by rw [show 20 + g - 20 = g by omega]; exact e2⟩
    · simp only [if_neg c]
      rw [ul_n (by omega), pk_un (by omega)]
      obtain ⟨a1, a2, a3, a4, a5, a6⟩ := h1 k (by omega)
      refine ⟨a1, a2, a3, by omega, fun hl => ?_, fun hl => ?_⟩
      · rw [e1 _ hl]; exact a5 hl
      · rcases a4 with a4 | a4
        · omega
        · rw [e9 _ (by omega)]; exact a6 hl
  · simp only at e
    by_cases c : k = n + g
    · by_cases c' : m = n + g
      · rw [c, c']
      · rw [if_pos c, if_neg c'] at e
        exact absurd e.symm (hne m (by omega))
    · by_cases c' : m = n + g
      · rw [if_neg c, if_pos c'] at e
        exact absurd e (hne k (by omega))
      · rw [if_neg c, if_neg c'] at e
        exact h2 k m (by omega) (by omega) e
  · obtain ⟨k, hk, ek⟩ := h3 j hj
    exact ⟨k, by omega, by simp only [if_neg (show ¬ k = n + g by omega)]; exact ek⟩
  · by_cases c : s = g
    · exact ⟨n + g, by omega, by simp only [if_pos]; rw [c]⟩
    · obtain ⟨k, hk, ek⟩ := h4 s (by omega)
      exact ⟨k, by omega, by simp only [if_neg (show ¬ k = n + g by omega)]; exact ek⟩
theorem new_of {SI SM : Ob} {many : Int32} {l : Nat → Int64} {r : Nat → Int32} {n g i : Nat} {w : List Nat} (h8 : n ≤ 8) (h6 : g ≤ 6) (ht : TbR SM l r (n + g)) (h7 : SM.1 7 = nI i) (hi : i < 1002) (h : NmR SI many l r n g) (hw : okW w) (hx : SM.2.2.2 6 i = lN (codM w)) {v : Int32} (hf : f12_find SM = some v) (hv : v < 0) : NewW l (n + g) w := by
  obtain ⟨-, ws, id, h1, h2, h3, h4⟩ := h
  have inj : ∀ a b, a < n + g → b < n + g → l a = l b → a = b := by
    intro a b ha hb e
    obtain ⟨⟨o1, o2, o3⟩, e2, -⟩ := h1 a ha
    obtain ⟨⟨o1', o2', o3'⟩, e2', -⟩ := h1 b hb
    rw [e2, e2', lN_inj (codM_lt o3 o2) (codM_lt o3' o2')] at e
    exact h2 a b ha hb (codM_inj o3 o3' e)
  refine ⟨hw, fun k hk e => ?_⟩
  rw [(find_steps ht (by omega) h7 hi).1 k hk (by rw [e, hx]) (fun m hm em => inj m k hm hk (by rw [em, e, hx]))] at hf
  rw [← Option.some.inj hf, (h1 k hk).2.2.1] at hv
  have := (h1 k hk).2.2.2.1
  exact nI_pos (by omega) hv
/-- a new name, or a fault -/
theorem name_both {C : Nat → Nat} {t N i n g : Nat} {SG ST SM SI : Ob} {many : Int32} (hsy : Syn C t N SG ST SM i) (h8 : n ≤ 8) (h6 : g ≤ 6) (hn : SI.1 0 = nI n) (hg : SI.1 8 = nI g) (h20 : SM.1 20 = 1) (h19 : SM.1 19 = nI (n + g)) (hK : n + g < 14) (hN : NmR SI many (SM.2.2.2 15) (SM.2.2.1 17) n g) (SR : Ob) (x : Int32) (SMp : Ob) (hp7 : oI SMp 7 (SMp.1 7 + 1) = SM) :
    (∃ w ST', NewW (SM.2.2.2 15) (n + g) w ∧ ST.2.1 6 = lN (codC w) ∧ f9_newName SR SG ST SI = some (1, SG, ST') ∧ FrA ST ST' ∧ f12_readName x SMp = some (oI (oI (oA (oJ SM 15 (n + g) (lN (codM w))) 17 (n + g) x) 19 (nI (n + g + 1))) 7 (nI (i + 1))) ∧ i < N ∧ Syn C t N SG ST' (oI (oI (oA (oJ SM 15 (n + g) (lN (codM w))) 17 (n + g) x) 19 (nI (n + g + 1))) 7 (nI (i + 1))) (i + 1)) ∨
    (∃ F, f9_newName SR SG ST SI = some (0, oI SG 3 (nI F), ST) ∧ f12_readName x SMp = some (oI SM 8 (nI F)) ∧ 0 < F ∧ F < 2 ^ 20) := by
  obtain ⟨y1, y2, y3, y4, y5, y6, y7⟩ := id hsy
  have hp := PP_le C t i
  have ht := y7.1
  have hNt := y7.2.1
  have hm := (syn_kd hsy).2
  have e1 : f3_fail 1 SG ST = _ := c_fail hsy 1
  have e3 : f3_fail 3 SG ST = _ := c_fail hsy 3
  have w1 : f12_wrong 1 SM = _ := r_wrong y7 y4 y6 y5 1
  have w3 : f12_wrong 3 SM = _ := r_wrong y7 y4 y6 y5 3
  have hnm : f10_isName ST = some (if 29 ≤ kdT C t i ∧ kdT C t i ≤ 32 then 1 else 0) := c_isName y2 hm
  have tb : TbR SM (SM.2.2.2 15) (SM.2.2.1 17) (n + g) := Or.inr ⟨h20, h19, rfl, rfl⟩
  have hflt : ∀ c, 1 ≤ c → c ≤ 5 → f12_readName_37 x (oI SM 8 (nI (c + 16 * PP C t i))) = some (oI SM 8 (nI (c + 16 * PP C t i))) := by
    intro c c1 c2
    have hfl : Flt (oI SM 8 (nI (c + 16 * PP C t i))) (c + 16 * PP C t i) := ⟨rfl, by omega, by omega⟩
    unfold f12_readName_37 f12_readName_92
    rw [if_neg (flt_ne hfl)]
  unfold f9_newName f9_newName_49 f12_readName
  rw [hnm, bd_s, e1, bd_s, e3, bd_s, lt_e, hp7, r_isName y7 y4 y6 y5, bd_s, w1, bd_s, w3, bd_s, hflt 1 (by omega) (by omega), hflt 3 (by omega) (by omega)]
  by_cases c1 : 29 ≤ kdT C t i ∧ kdT C t i ≤ 32
  · rw [if_pos c1, if_neg (show ¬ (1 : Int32) = 0 by decide), if_neg (show ¬ (1 : Int32) = 0 by decide)]
    obtain ⟨v, a, b, f1, f2, f3, f4⟩ := find_at hsy (nms_of hn h8 hg h6 (by omega) tb (nmt_of hN)) c1.2
    rw [f1, bd_s, f2, bd_s, f3, bd_s]
    have told : ¬ v < 0 → ¬ (a = -1 ∧ b = -1) → ∃ F, (if a = -1 then (if b = -1 then (bd (f10_advance ST) fun r_10 => some ((1 : Int32), SG, r_10)) else ck (isz (0, oI SG 3 (nI (3 + 16 * PP C t i))).1) (some ((0, oI SG 3 (nI (3 + 16 * PP C t i))).1, (0, oI SG 3 (nI (3 + 16 * PP C t i))).2, ST))) else ck (isz (0, oI SG 3 (nI (3 + 16 * PP C t i))).1) (some ((0, oI SG 3 (nI (3 + 16 * PP C t i))).1, (0, oI SG 3 (nI (3 + 16 * PP C t i))).2, ST))) = some (0, oI SG 3 (nI F), ST) ∧ (if v < 0 then f12_readName_37 x SM else some (oI SM 8 (nI (3 + 16 * PP C t i)))) = some (oI SM 8 (nI F)) ∧ 0 < F ∧ F < 2 ^ 20 := by
      intro hv hab
      refine ⟨3 + 16 * PP C t i, ?_, by rw [if_neg hv], by omega, by omega⟩
      by_cases ha : a = -1
      · rw [if_pos ha, if_neg (fun e => hab ⟨ha, e⟩)]; rfl
      · rw [if_neg ha]; rfl
    rcases f4 with ⟨j, hj, rfl, rfl, rfl⟩ | ⟨j, hj, rfl, rfl, rfl⟩ | ⟨hv, rfl, rfl⟩
    · exact Or.inr (told (nI_pos (by omega)) (fun e => nI_nm1 (by omega) e.1))
    · exact Or.inr (told (nI_pos (by omega)) (fun e => nI_nm1 (by omega) e.2))
    · have hv' : v = -1 := by
        rcases hv with e | e
        · exact e
        · exact absurd e (find_strict h8 h6 tb y4 (by omega) hN v f1)
      obtain ⟨v1, v2, v3, v4, v5⟩ := val_w y7 y6 c1.2
      have hiN : i < N := kd_lt y7 y6 (by omega)
      obtain ⟨ST', a2, fa, sy⟩ := syn_adv hsy hiN
      have hnew := new_of h8 h6 tb y4 (by omega) hN ⟨v4, v3, v2⟩ v1 f1 (by rw [hv']; decide)
      left
      refine ⟨wdT C t (PP C t i), ST', hnew, y2.2.2.2.1 c1.2, ?_, fa, ?_, hiN, ?_⟩
      · rw [if_pos (show (-1 : Int32) = -1 from rfl), if_pos (show (-1 : Int32) = -1 from rfl), a2, bd_s]
      · rw [if_pos (show v < 0 by rw [hv']; decide)]
        unfold f12_readName_37 f12_readName_92
        rw [if_pos y5, y4, h19, inb_nI (by omega) (by omega), ck_t, inb_nI hK (by omega), ck_t, lt_e, nI_clamp (by omega), nI_clamp (by omega), v1]
        have g19 : (oJ SM 15 (n + g) (lN (codM (wdT C t (PP C t i))))).1 19 = nI (n + g) := h19
        rw [g19, inb_nI hK (by omega), ck_t, lt_e, nI_clamp (by omega)]
        have g19' : (oA (oJ SM 15 (n + g) (lN (codM (wdT C t (PP C t i))))) 17 (n + g) x).1 19 = nI (n + g) := h19
        rw [g19', lt_e, nI_1]
        have g7 : (oI (oA (oJ SM 15 (n + g) (lN (codM (wdT C t (PP C t i))))) 17 (n + g) x) 19 (nI (n + g + 1))).1 7 = nI i := y4
        rw [g7, lt_e, nI_1]
      · obtain ⟨z1, z2, z3, z4, z5, z6, z7⟩ := sy
        exact ⟨z1, z2, z3, rfl, y5, z6, RfS_fr y7 rfl rfl rfl rfl⟩
  · rw [if_neg c1, if_pos (show (0 : Int32) = 0 from rfl), if_pos (show (0 : Int32) = 0 from rfl)]
    exact Or.inr ⟨1 + 16 * PP C t i, rfl, rfl, by omega, by omega⟩
