/-! pure: the lines by their kinds -/
section
variable {C : Nat → Nat} {t N n g : Nat} {SI S0 : Ob} {r29 : Nat → Int32} {SG ST SN SM : Ob} {i r l : Nat}
theorem r_takeOne (hsy : Syn C t N SG ST SM i) {fr mn : Nat} (hf : fr + mn ≤ 32) : f12_takeOne (nI fr) (nI mn) SM = some (if fr ≤ kdT C t i ∧ kdT C t i < fr + mn then (nI (kdT C t i - fr), oI SM 7 (nI (i + 1))) else (0, oI SM 8 (nI (1 + 16 * PP C t i)))) := by
  obtain ⟨y1, y2, y3, y4, y5, y6, y7⟩ := id hsy
  have hp := PP_le C t i
  have ht := y7.1
  have w6 : f12_wrong 1 SM = _ := r_wrong y7 y4 y6 y5 1
  unfold f12_takeOne
  rw [if_pos (show SM.1 8 ≤ 0 by rw [y5]; decide), r_word y7 y4 y6 y5 hf, bd_s]
  by_cases c : fr ≤ kdT C t i ∧ kdT C t i < fr + mn
  · rw [if_pos c, if_pos c]
    unfold f12_takeOne_17
    rw [if_pos y5, if_pos (nI_pos' (by omega))]
    unfold f12_takeOne_34
    rw [if_pos (show SM.1 8 ≤ 0 by rw [y5]; decide)]
    unfold f12_takeOne_51 f12_takeOne_67
    rw [lt_e, y4, nI_1, if_pos (show (oI SM 7 (nI (i + 1))).1 8 ≤ 0 by show SM.1 8 ≤ 0; rw [y5]; decide)]
  · have hfl : Flt (oI SM 8 (nI (1 + 16 * PP C t i))) (1 + 16 * PP C t i) := ⟨rfl, by omega, by omega⟩
    rw [if_neg c, if_neg c]
    unfold f12_takeOne_17
    rw [if_pos y5, if_neg (show ¬ (0 : Int32) ≤ -1 by decide), w6, bd_s]
    unfold f12_takeOne_34
    rw [if_neg (flt_nle hfl)]
    have e : oI (oI SM 8 (nI (1 + 16 * PP C t i))) 7 ((oI SM 8 (nI (1 + 16 * PP C t i))).1 7 + 0) = oI SM 8 (nI (1 + 16 * PP C t i)) := by rw [Int32.add_zero, oI_self]
    unfold f12_takeOne_51 f12_takeOne_67
    rw [lt_e, e, if_neg (flt_nle hfl)]
theorem mo_line (hm : MoC SI S0 n g) (hM : InnM SI (S0.2.2.1 10) (S0.2.2.1 28) r29 n g) (hF0 : FrM S0 SM) (hsy : Syn C t N SG ST SM i) (hiN : i < N) (hr : SM.1 13 = nI r) (hri : r ≤ i) (hl : l ≤ 24) (hN : SN.1 0 = nI l) (SR SC : Ob) : LOut C t N SI (S0.2.2.1 10) (S0.2.2.1 28) SG ST SN SM i r l (f9_morningLine SR SG ST SC SI SN) := by
  obtain ⟨y1, y2, y3, y4, y5, y6, y7⟩ := id hsy
  have hC := hm.1
  have hC2 := id hC
  obtain ⟨h8, h6, hn, hg, -⟩ := hC2
  have hk61 := (syn_kd hsy).2
  have ht := y7.1
  have hNt := y7.2.1
  have e1 : f3_fail 1 SG ST = _ := c_fail hsy 1
  have e5 : f3_fail 5 SG ST = _ := c_fail hsy 5
  have hmr := mo_ref hsy hiN hl
  unfold f9_morningLine
  rw [(syn_kd hsy).1, lt_e]
  by_cases c1 : 9 ≤ kdT C t i ∧ kdT C t i < 14
  · rw [if_neg (show ¬ nI (kdT C t i) < 9 from nI_nlt (b := 9) c1.1 (by omega)), if_pos (show nI (kdT C t i) ≤ 13 from nI_le (b := 13) (by omega) (by omega)), hN]
    by_cases c2 : l = 24
    · rw [if_neg (show ¬ nI l < 24 by rw [c2]; decide), e5, bd_s]
      exact mo_bad (SR := SR) hsy (c := 5) (by omega) (by omega) (nI l) rfl (fun m => by rw [hmr m, if_pos c1, if_pos c2])
    · have hl24 : l < 24 := by omega
      obtain ⟨ST1, a1, f1, sy1⟩ := syn_adv hsy hiN
      rw [if_pos (show nI l < 24 from nI_lt (b := 24) hl24 (by omega)), a1, bd_s]
      obtain ⟨K, hK⟩ : ∃ K, K = kdT C t i := ⟨_, rfl⟩
      rw [← hK] at c1 ⊢
      obtain ⟨SA, hSA⟩ : ∃ SA, SA = oA (oI SM 7 (nI (i + 1))) 22 (80 + 3 * l) (nI (K - 9)) := ⟨_, rfl⟩
      have hrm : ∀ m, f12_morning_34 (m + 1) (nI l) SM = bd (f12_readWord (nI (K - 9)) (nI (81 + 3 * l)) SA) fun a => bd (f12_takeSign 59 a) fun b => f12_morning_34 m (nI (l + 1)) b := fun m => by
        rw [hmr m, ← hK, if_pos c1, if_neg c2, hSA]
      have fA : FrM SM SA := by
        rw [hSA]; exact FrM_tr (FrM_F (FrF_I SM (Or.inl rfl) _)) (FrM_22 _ (by omega) _)
      have fA1 : FrM (oI SM 7 (nI (i + 1))) SA := by rw [hSA]; exact FrM_22 _ (by omega) _
      have syA : Syn C t N SG ST1 SA (i + 1) := syn_M sy1 fA1 (by rw [hSA]; rfl) (by rw [hSA]; rfl)
      have rA : SA.1 13 = nI r := by rw [hSA]; exact hr
      have k22 : ∀ k, k < 80 + 3 * l → SA.2.2.1 22 k = SM.2.2.1 22 k := fun k hk => by
        rw [hSA]; exact pk_un (by omega)
      have k220 : SA.2.2.1 22 (80 + 3 * l) = nI (K - 9) := by rw [hSA]; exact pk_us
      have k11 : SA.2.2.1 11 = SM.2.2.1 11 ∧ SA.2.2.1 12 = SM.2.2.1 12 := by rw [hSA]; exact ⟨rfl, rfl⟩
      have k11' : ∀ k, k < 2200 + r → SA.2.2.1 11 k = SM.2.2.1 11 k ∧ SA.2.2.1 12 k = SM.2.2.1 12 k := fun k _ => by rw [k11.1, k11.2]; exact ⟨rfl, rfl⟩
      have cxA : CtxF SI n g SA := moc_ctx hm (FrM_tr hF0 fA)
      have e1A : f3_fail 1 SG ST1 = _ := c_fail syA 1
      have i1N : i + 1 ≤ N := syA.2.2.2.2.2.1
      have i82 : nI (81 + 3 * l) + 1 = nI (82 + 3 * l) := by rw [nI_1]; exact congrArg nI (by omega)
      rcases (show K = 13 ∨ K = 12 ∨ (K = 10 ∨ K = 11) ∨ K = 9 by omega) with e | e | e | e
      · rw [e, if_neg (show ¬ nI 13 = 9 by decide), if_neg (show ¬ nI 13 = 12 by decide), if_pos (show nI 13 = 13 from rfl)]
        have rw0 : f12_readWord (nI (K - 9)) (nI (81 + 3 * l)) SA = some SA := by
          rw [e]; rfl
        refine mo_fin (SR := SR) (SC2 := SC) (v := 0) (b := 1) syA f1 (by omega) fA rA (Nat.le_refl _) (by omega) hl24 hN k22 k11' ⟨Or.inr rfl, ?_, allS n, ln_4 hC hM hl24 (by rw [k220, e]; rfl), fun h => absurd h (by decide)⟩ rfl (fun m => by rw [hrm m, rw0, bd_s])
        rw [k220, e]
        exact ⟨fun _ => rfl, fun _ => rfl⟩
      · rw [e, if_neg (show ¬ nI 12 = 9 by decide), if_pos (show nI 12 = 12 from rfl), (syn_kd syA).1]
        have hk1 := (syn_kd syA).2
        have w : f12_takeOne 18 4 SA = _ := r_takeOne syA (fr := 18) (mn := 4) (by omega)
        have rw0 : f12_readWord (nI (K - 9)) (nI (81 + 3 * l)) SA = bd (f12_takeOne 18 4 SA) fun r_4 => some (oA r_4.2 22 (81 + 3 * l) r_4.1) := by
          rw [e]
          show f12_readWord 3 (nI (81 + 3 * l)) SA = _
          unfold f12_readWord f12_readWord_87
          rw [if_neg (show ¬ (3 : Int32) = 0 by decide), if_pos (show (3 : Int32) ≤ 3 by decide), if_pos (show (3 : Int32) = 3 from rfl), inb_nI (by omega) (by omega), nI_clamp (by omega)]
          rfl
        by_cases c3 : 18 ≤ kdT C t (i + 1) ∧ kdT C t (i + 1) < 22
        · have hi2 : i + 1 < N := kd_lt syA.2.2.2.2.2.2 i1N (by omega)
          obtain ⟨ST2, a2, f2, sy2⟩ := syn_adv syA hi2
          obtain ⟨w', hw'⟩ : ∃ w', kdT C t (i + 1) = 18 + w' := ⟨kdT C t (i + 1) - 18, by omega⟩
          have es : ∀ w, w < 4 → nI (18 + w) - 18 = nI w := by decide +kernel
          have hby : f4_worldsBy (nI (kdT C t (i + 1))) SI = some (allS n &&& (286331153 <<< (nI w' &&& 31))) := by
            unfold f4_worldsBy
            rw [if_neg (show ¬ nI (kdT C t (i + 1)) < 18 from nI_nlt (b := 18) (by omega) (by omega)), if_neg (show ¬ (21 : Int32) < nI (kdT C t (i + 1)) from nI_nlt (a := 21) (by omega) (by omega)), s4_all hn h8, bd_s, hw', es w' (by omega)]
          rw [if_neg (show ¬ nI (kdT C t (i + 1)) < 18 from nI_nlt (b := 18) (by omega) (by omega)), if_pos (show nI (kdT C t (i + 1)) ≤ 21 from nI_le (b := 21) (by omega) (by omega)), hby, bd_s, a2, bd_s]
          rw [w, if_pos (show 18 ≤ kdT C t (i + 1) ∧ kdT C t (i + 1) < 18 + 4 from c3), bd_s, show kdT C t (i + 1) - 18 = w' by omega] at rw0
          have f22 : FrM (oI SA 7 (nI (i + 1 + 1))) (oA (oI SA 7 (nI (i + 1 + 1))) 22 (81 + 3 * l) (nI w')) := FrM_22 _ (by omega) _
          refine mo_fin (SR := SR) (SC2 := SC) (v := allS n &&& (286331153 <<< (nI w' &&& 31))) (b := 0) (r2 := r) (syn_M sy2 f22 rfl rfl) (FrA_tr f1 f2) (by omega) (FrM_tr fA (FrM_tr (FrM_F (FrF_I SA (Or.inl rfl) _)) f22)) rA (Nat.le_refl _) (by omega) hl24 hN (fun k hk => ?_) (fun k hk => k11' k hk) ⟨Or.inl rfl, ?_, _, ln_3 hC hM hl24 (show w' < 4 by omega) ?_ ?_, fun _ => rfl⟩ rfl (fun m => by rw [hrm m, rw0, bd_s])
          · show upd (SA.2.2.1 22) (81 + 3 * l) (nI w') k = _
            rw [pk_un (by omega)]; exact k22 k hk
          · show upd (SA.2.2.1 22) (81 + 3 * l) (nI w') (80 + 3 * l) = 4 ↔ _
            rw [pk_un (by omega), k220, e]
            exact ⟨fun h => absurd h (by decide), fun h => absurd h (by decide)⟩
          · show upd (SA.2.2.1 22) (81 + 3 * l) (nI w') (80 + 3 * l) = 3
            rw [pk_un (by omega), k220, e]; rfl
          · show upd (SA.2.2.1 22) (81 + 3 * l) (nI w') (80 + 3 * l + 1) = _
            rw [show 80 + 3 * l + 1 = 81 + 3 * l by omega]; exact pk_us
        · have hcl : (if nI (kdT C t (i + 1)) < 18 then f9_morningLine_174 SR SG ST1 SC SI SN else if nI (kdT C t (i + 1)) ≤ 21 then (bd (f4_worldsBy (nI (kdT C t (i + 1))) SI) fun r_17 => bd (f10_advance ST1) fun r_19 => f9_morningLine_255 (nI 12) r_17 SR SG r_19 SC SI SN) else f9_morningLine_174 SR SG ST1 SC SI SN) = some (0, oI SG 3 (nI (1 + 16 * PP C t (i + 1))), ST1, SC, SN) := by
            have e174 : f9_morningLine_174 SR SG ST1 SC SI SN = some (0, oI SG 3 (nI (1 + 16 * PP C t (i + 1))), ST1, SC, SN) := by
              unfold f9_morningLine_174
              rw [e1A, bd_s]; rfl
            by_cases c4 : kdT C t (i + 1) < 18
            · rw [if_pos (show nI (kdT C t (i + 1)) < 18 from nI_lt (b := 18) c4 (by omega)), e174]
            · rw [if_neg (show ¬ nI (kdT C t (i + 1)) < 18 from nI_nlt (b := 18) (by omega) (by omega)), if_neg (show ¬ nI (kdT C t (i + 1)) ≤ 21 from nI_ge (a := 21) (by omega) (by omega)), e174]
          rw [hcl]
          rw [w, if_neg (show ¬ (18 ≤ kdT C t (i + 1) ∧ kdT C t (i + 1) < 18 + 4) from c3), bd_s] at rw0
          have hp := PP_le C t (i + 1)
          exact mo_flt (SM2 := oA (oI SA 8 (nI (1 + 16 * PP C t (i + 1)))) 22 (81 + 3 * l) 0) (F := 1 + 16 * PP C t (i + 1)) f1 (FrM_tr fA (FrM_tr (FrM_F (FrF_I SA (by omega) _)) (FrM_22 _ (by omega) _))) rfl ⟨rfl, by omega, by omega⟩ rfl (fun m => by rw [hrm m, rw0, bd_s])
      · have rw0 : f12_readWord (nI (K - 9)) (nI (81 + 3 * l)) SA = bd (f12_takeTold 20 6 SA) fun r_8 => some (oA r_8.2 22 (81 + 3 * l) r_8.1) := by
          have h12 : nI (K - 9) = 1 ∨ nI (K - 9) = 2 := by
            rcases e with e | e
            · left; rw [e]; rfl
            · right; rw [e]; rfl
          unfold f12_readWord f12_readWord_87
          rw [if_neg (show ¬ nI (K - 9) = 0 by rcases h12 with h | h <;> rw [h] <;> decide), if_neg (show ¬ (3 : Int32) ≤ nI (K - 9) by rcases h12 with h | h <;> rw [h] <;> decide), inb_nI (by omega) (by omega), nI_clamp (by omega)]
          rfl
        rw [if_neg (show ¬ nI K = 9 by rcases e with e | e <;> rw [e] <;> decide), if_neg (show ¬ nI K = 12 by rcases e with e | e <;> rw [e] <;> decide), if_neg (show ¬ nI K = 13 by rcases e with e | e <;> rw [e] <;> decide)]
        rcases told_s syA (ctxN_of cxA) (moc_strict hm (FrM_tr hF0 fA) syA.2.2.2.1 (by omega)) with ⟨s, hs, hi2, d1, d2⟩ | ⟨F, hF1, hF2, d1, d2⟩
        · obtain ⟨ST2, a2, f2, sy2⟩ := syn_adv syA hi2
          rw [r_takeTold syA d2, bd_s] at rw0
          have hws : ∀ z, f4_worldsShowing (nI s) z SI = some (if z = 0 then allS n &&& (SI.2.2.1 11 s ^^^ (-1)) else SI.2.2.1 11 s) := by
            intro z
            unfold f4_worldsShowing f4_worldsShowing_36
            rw [s4_hasSign_yes hg hs (by omega), bd_s, if_neg (show ¬ (1 : Int32) = 0 by decide), s4_all hn h8, bd_s, inb_nI (by omega) (by omega), ck_t, ck_t, nI_clamp (by omega)]
            split <;> rfl
          have f22 : FrM (oI SA 7 (nI (i + 1 + 1))) (oA (oI SA 7 (nI (i + 1 + 1))) 22 (81 + 3 * l) (nI s)) := FrM_22 _ (by omega) _
          have q0 : ∀ k, k < 81 + 3 * l → (oA (oI SA 7 (nI (i + 1 + 1))) 22 (81 + 3 * l) (nI s)).2.2.1 22 k = SA.2.2.1 22 k := fun k hk => pk_un (by omega)
          have q1 : (oA (oI SA 7 (nI (i + 1 + 1))) 22 (81 + 3 * l) (nI s)).2.2.1 22 (80 + 3 * l + 1) = nI s := by
            rw [show 80 + 3 * l + 1 = 81 + 3 * l by omega]; exact pk_us
          rw [d1, bd_s, lt_e, if_neg (show ¬ nI s = -1 from nI_nm1 (by omega))]
          rcases e with e | e
          · rw [e, if_pos (show nI 10 = 10 from rfl)]
            unfold f9_morningLine_243
            rw [hws, bd_s, a2, bd_s]
            refine mo_fin (SR := SR) (SC2 := SC) (v := SI.2.2.1 11 s) (b := 0) (r2 := r) (syn_M sy2 f22 rfl rfl) (FrA_tr f1 f2) (by omega) (FrM_tr fA (FrM_tr (FrM_F (FrF_I SA (Or.inl rfl) _)) f22)) rA (Nat.le_refl _) (by omega) hl24 hN (fun k hk => (q0 k (by omega)).trans (k22 k hk)) (fun k hk => k11' k hk) ⟨Or.inl rfl, ?_, _, ln_1 hC hM hl24 hs ?_ q1, fun _ => rfl⟩ rfl (fun m => by rw [hrm m, rw0, bd_s])
            · rw [q0 _ (by omega), k220, e]
              exact ⟨fun h => absurd h (by decide), fun h => absurd h (by decide)⟩
            · rw [q0 _ (by omega), k220, e]; rfl
          · rw [e, if_neg (show ¬ nI 11 = 10 by decide)]
            unfold f9_morningLine_243
            rw [hws, bd_s, a2, bd_s]
            refine mo_fin (SR := SR) (SC2 := SC) (v := allS n &&& (SI.2.2.1 11 s ^^^ (-1))) (b := 0) (r2 := r) (syn_M sy2 f22 rfl rfl) (FrA_tr f1 f2) (by omega) (FrM_tr fA (FrM_tr (FrM_F (FrF_I SA (Or.inl rfl) _)) f22)) rA (Nat.le_refl _) (by omega) hl24 hN (fun k hk => (q0 k (by omega)).trans (k22 k hk)) (fun k hk => k11' k hk) ⟨Or.inl rfl, ?_, _, ln_2 hC hM hl24 hs ?_ q1, fun _ => rfl⟩ rfl (fun m => by rw [hrm m, rw0, bd_s])
            · rw [q0 _ (by omega), k220, e]
              exact ⟨fun h => absurd h (by decide), fun h => absurd h (by decide)⟩
            · rw [q0 _ (by omega), k220, e]; rfl
        · rw [r_takeToldF hF1 hF2 d2, bd_s] at rw0
          rw [d1, bd_s, lt_e, if_pos (show (-1 : Int32) = -1 from rfl)]
          exact mo_flt (SM2 := oA (oI SA 8 (nI F)) 22 (81 + 3 * l) 0) (F := F) f1 (FrM_tr fA (FrM_tr (FrM_F (FrF_I SA (by omega) _)) (FrM_22 _ (by omega) _))) rfl ⟨rfl, hF1, hF2⟩ rfl (fun m => by rw [hrm m, rw0, bd_s])
      · have rw0 : f12_readWord (nI (K - 9)) (nI (81 + 3 * l)) SA = bd (f12_takeTold 0 8 SA) fun r_12 => bd (f12_either (f12_item DP) 0 (oA (oA r_12.2 22 (81 + 3 * l) r_12.1) 22 (82 + 3 * l) (1100 + (oA r_12.2 22 (81 + 3 * l) r_12.1).1 13))) fun r_18 => bd (f12_emit 0 0 r_18) fun b => some b := by
          rw [e]
          show f12_readWord 0 (nI (81 + 3 * l)) SA = _
          unfold f12_readWord f12_readWord_87
          rw [if_pos (show (0 : Int32) = 0 from rfl), i82, inb_nI (by omega) (by omega), inb_nI (by omega) (by omega), nI_clamp (by omega), nI_clamp (by omega)]
          rfl
        rw [e, if_pos (show nI 9 = 9 from rfl)]
        rcases told_g syA (ctxN_of cxA) with ⟨j, hj, hi2, d1, d2⟩ | ⟨F, hF1, hF2, d1, d2⟩
        · obtain ⟨ST2, a2, f2, sy2⟩ := syn_adv syA hi2
          rw [r_takeTold syA d2, bd_s] at rw0
          obtain ⟨SB, hSB⟩ : ∃ SB, SB = oA (oA (oI SA 7 (nI (i + 1 + 1))) 22 (81 + 3 * l) (nI j)) 22 (82 + 3 * l) (nI (1100 + r)) := ⟨_, rfl⟩
          have rw1 : f12_readWord (nI (K - 9)) (nI (81 + 3 * l)) SA = bd (f12_either (f12_item DP) 0 SB) fun r_18 => bd (f12_emit 0 0 r_18) fun b => some b := by
            rw [rw0, hSB]
            show bd (f12_either (f12_item DP) 0 (oA (oA (oI SA 7 (nI (i + 1 + 1))) 22 (81 + 3 * l) (nI j)) 22 (82 + 3 * l) (1100 + SA.1 13))) _ = _
            rw [rA, show (1100 : Int32) = nI 1100 from rfl, nI_add]
          have f22 : FrM (oI SA 7 (nI (i + 1 + 1))) SB := by rw [hSB]; exact FrM_tr (FrM_22 _ (by omega) _) (FrM_22 _ (by omega) _)
          have syB : Syn C t N SG ST2 SB (i + 1 + 1) := syn_M sy2 f22 (by rw [hSB]; rfl) (by rw [hSB]; rfl)
          have fB : FrM SM SB := FrM_tr fA (FrM_tr (FrM_F (FrF_I SA (Or.inl rfl) _)) f22)
          have rB : SB.1 13 = nI r := by rw [hSB]; exact rA
          have b22 : ∀ k, k < 81 + 3 * l → SB.2.2.1 22 k = SA.2.2.1 22 k := fun k hk => by
            rw [hSB]
            show upd (upd (SA.2.2.1 22) (81 + 3 * l) (nI j)) (82 + 3 * l) (nI (1100 + r)) k = _
            rw [pk_un (by omega), pk_un (by omega)]
          have b221 : SB.2.2.1 22 (80 + 3 * l + 1) = nI j := by
            rw [hSB, show 80 + 3 * l + 1 = 81 + 3 * l by omega]
            show upd (upd (SA.2.2.1 22) (81 + 3 * l) (nI j)) (82 + 3 * l) (nI (1100 + r)) (81 + 3 * l) = _
            rw [pk_un (by omega), pk_us]
          have b222 : SB.2.2.1 22 (80 + 3 * l + 2) = nI (1100 + r) := by
            rw [hSB, show 80 + 3 * l + 2 = 82 + 3 * l by omega]
            exact pk_us
          have b11 : SB.2.2.1 11 = SA.2.2.1 11 ∧ SB.2.2.1 12 = SA.2.2.1 12 := by rw [hSB]; exact ⟨rfl, rfl⟩
          rw [d1, bd_s, lt_e, if_neg (show ¬ nI j = -1 from nI_nm1 (by omega)), a2, bd_s, lt_e]
          rcases sim_formula SG ST2 (oI SC 3 0) SB (i + 1 + 1) 0 r syB rfl (Nat.zero_le _) rB (by omega) (moc_ctx hm (FrM_tr hF0 fB)) with ⟨ST3, SC3, SM3, i3, L, q1, q2, q3, q4, q5, q6, q7, q8, q9, q10, q11⟩ | ⟨SG3, ST3, SC3, SM3, i3, r3, s3, F, q1, q2, q3, q4, q5, q6, q7, q8, q9, q10, q11⟩
          · have hi3 : i3 ≤ N := q3.2.2.2.2.2.1
            obtain ⟨SM4, w1, w2, w3, w4, w5, w6, w7, w8⟩ := r_emit q7.1 (by omega) 0 0
            have e22 : SM4.2.2.1 22 = SB.2.2.1 22 := (w2.2.2.1 22 (by omega) (by omega)).trans (q8.2.2.1 22 (by omega) (by omega))
            obtain ⟨u, v, SC', u1, u2, u3, u4⟩ := ln_0 (r11 := SM4.2.2.1 11) (r12 := SM4.2.2.1 12) (r22 := SM4.2.2.1 22) (r := r + L.length + 1) (r0 := r) (k := l) (SC := SC3) hC hM hl24 hj (by rw [e22, b22 _ (by omega), k220, e]; rfl) (by rw [e22, b221]) (by rw [e22, b222]) q10 (by omega) q11 q6.2.2 (by omega) ⟨fun k x hx => by
              have hkl : k < L.length := by
                rcases Nat.lt_or_ge k L.length with h | h
                · exact h
                · rw [List.getElem?_eq_none h] at hx; exact absurd hx (by simp)
              obtain ⟨g1, g2⟩ := w6 (2200 + (r + k)) (by omega)
              obtain ⟨g3, g4⟩ := q7.2.2 k x hx
              rw [Nat.add_assoc] at g3 g4
              exact ⟨g1.trans g3, g2.trans g4⟩, w7⟩ (by omega) (by omega)
            have q61 : SC3.1 3 = nI L.length := by rw [q6.1, Nat.zero_add]
            rw [q1, bd_s]
            show LOut C t N SI _ _ SG ST SN SM i r l (if (1 : Int32) = 0 then some (0, SG, ST3, SC3, SN) else bd (f2_worlds 0 (SC3.1 3) SC3 SI) fun r_31 => bd (f4_sayable (nI j) r_31.1 SI) fun r_33 => f9_morningLine_255 (nI 9) r_33 SR SG ST3 r_31.2 SI SN)
            rw [if_neg (show ¬ (1 : Int32) = 0 by decide), q61, u1, bd_s]
            show LOut C t N SI _ _ SG ST SN SM i r l (bd (f4_sayable (nI j) u SI) fun r_33 => f9_morningLine_255 (nI 9) r_33 SR SG ST3 SC' SI SN)
            rw [u3, bd_s]
            refine mo_fin (SR := SR) (SC2 := SC') (v := v) (b := 0) (r2 := r + L.length + 1) (syn_F (i' := i3) q3 w2 w3 w4) (FrA_tr f1 (FrA_tr f2 q4)) (by omega) (FrM_tr fB (FrM_F (FrF_tr q8 w2))) w5 (by omega) (by omega) hl24 hN (fun k hk => by rw [e22, b22 k (by omega)]; exact k22 k hk) (fun k hk => ?_) ⟨Or.inl rfl, ?_, v, u4, fun _ => rfl⟩ rfl (fun m => by rw [hrm m, rw1, q2, bd_s, w1, bd_s, bd_s])
            · obtain ⟨g1, g2⟩ := w6 k (by omega)
              obtain ⟨g3, g4⟩ := q7.2.1 k hk
              rw [b11.1] at g3
              rw [b11.2] at g4
              exact ⟨(g1.trans g3).trans (k11' k hk).1, (g2.trans g4).trans (k11' k hk).2⟩
            · rw [e22, b22 _ (by omega), k220, e]
              exact ⟨fun h => absurd h (by decide), fun h => absurd h (by decide)⟩
          · obtain ⟨SM4, w1, w2, w3, w4, w5, w6, w7, w8⟩ := r_emit q9 (by omega) 0 0
            rw [q1, bd_s]
            show LOut C t N SI _ _ SG ST SN SM i r l (if (0 : Int32) = 0 then some (0, SG3, ST3, SC3, SN) else bd (f2_worlds 0 (SC3.1 3) SC3 SI) fun r_31 => bd (f4_sayable (nI j) r_31.1 SI) fun r_33 => f9_morningLine_255 (nI 9) r_33 SR SG3 ST3 r_31.2 SI SN)
            rw [if_pos (show (0 : Int32) = 0 from rfl)]
            exact mo_flt (SM2 := SM4) (F := F) (FrA_tr f1 (FrA_tr f2 q3)) (FrM_tr fB (FrM_F (FrF_tr q8 w2))) q4 ⟨w4.trans q5.1, q5.2⟩ rfl (fun m => by rw [hrm m, rw1, q2, bd_s, w1, bd_s, bd_s])
        · rw [r_takeToldF hF1 hF2 d2, bd_s] at rw0
          rw [d1, bd_s, lt_e, if_pos (show (-1 : Int32) = -1 from rfl)]
          obtain ⟨SB, hSB⟩ : ∃ SB, SB = oA (oA (oI SA 8 (nI F)) 22 (81 + 3 * l) 0) 22 (82 + 3 * l) (1100 + SA.1 13) := ⟨_, rfl⟩
          have rw1 : f12_readWord (nI (K - 9)) (nI (81 + 3 * l)) SA = bd (f12_either (f12_item DP) 0 SB) fun r_18 => bd (f12_emit 0 0 r_18) fun b => some b := by
            rw [rw0, hSB]; rfl
          have hfl : Flt SB F := by rw [hSB]; exact ⟨rfl, hF1, hF2⟩
          have rB : SB.1 13 = nI r := by rw [hSB]; exact rA
          obtain ⟨SM4, w1, w2, w3, w4, w5, w6, w7, w8⟩ := r_emit rB (by omega) 0 0
          refine mo_flt (SM2 := SM4) (F := F) f1 (FrM_tr fA (FrM_tr ?_ (FrM_F w2))) rfl ⟨w4.trans hfl.1, hfl.2⟩ rfl (fun m => by rw [hrm m, rw1, x_either hfl, bd_s, w1, bd_s, bd_s])
          rw [hSB]
          exact FrM_tr (FrM_F (FrF_I SA (by omega) _)) (FrM_tr (FrM_22 _ (by omega) _) (FrM_22 _ (by omega) _))
  · have e20 : f9_morningLine_20 SR SG ST SC SI SN = some (0, oI SG 3 (nI (1 + 16 * PP C t i)), ST, SC, SN) := by
      unfold f9_morningLine_20
      rw [e1, bd_s]; rfl
    refine mo_bad (SR := SR) (SC := SC) hsy (c := 1) (by omega) (by omega) (nI l) ?_ (fun m => by rw [hmr m, if_neg c1])
    by_cases c4 : kdT C t i < 9
    · rw [if_pos (show nI (kdT C t i) < 9 from nI_lt (b := 9) c4 (by omega)), e20]
    · rw [if_neg (show ¬ nI (kdT C t i) < 9 from nI_nlt (b := 9) (by omega) (by omega)), if_neg (show ¬ nI (kdT C t i) ≤ 13 from nI_ge (a := 13) (by omega) (by omega)), e20]
end
