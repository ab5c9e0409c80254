/-! pure: bills worked out -/
theorem cl_eq (z : Int32) : (if 0 < (if z < 99 then z else 99) then (if z < 99 then z else 99) else 0) = clampS z := by
  unfold clampS
  by_cases h1 : z < 99
  · rw [if_pos h1]
    have h2 : ¬ 99 < z := by
      rw [Int32.lt_iff_toInt_lt] at h1 ⊢; omega
    rw [if_neg h2]
    by_cases h3 : 0 < z
    · have h4 : ¬ z < 0 := by
        rw [Int32.lt_iff_toInt_lt] at h3 ⊢; omega
      rw [if_pos h3, if_neg h4]
    · rw [if_neg h3]
      by_cases h4 : z < 0
      · rw [if_pos h4]
      · rw [if_neg h4]
        refine Int32.toInt_inj.mp ?_
        rw [Int32.lt_iff_toInt_lt] at h3 h4
        omega
  · rw [if_neg h1, if_pos (show (0 : Int32) < 99 by decide)]
    have e99 : (99 : Int32).toInt = 99 := by decide
    have e0 : (0 : Int32).toInt = 0 := by decide
    have h4 : ¬ z < 0 := by
      rw [Int32.lt_iff_toInt_lt] at h1 ⊢; omega
    rw [if_neg h4]
    by_cases h5 : 99 < z
    · rw [if_pos h5]
    · rw [if_neg h5]
      refine Int32.toInt_inj.mp ?_
      rw [Int32.lt_iff_toInt_lt] at h1 h5
      omega
theorem cl_le (z : Int32) : ∃ u, u ≤ 99 ∧ clampS z = nI u := by
  unfold clampS
  have e99 : (99 : Int32).toInt = 99 := by decide
  have e0 : (0 : Int32).toInt = 0 := by decide
  by_cases h1 : z < 0
  · rw [if_pos h1]; exact ⟨0, by omega, rfl⟩
  · rw [if_neg h1]
    by_cases h2 : 99 < z
    · rw [if_pos h2]; exact ⟨99, by omega, rfl⟩
    · rw [if_neg h2]
      rw [Int32.lt_iff_toInt_lt] at h1 h2
      refine ⟨z.toInt.toNat, by omega, Int32.toInt_inj.mp ?_⟩
      rw [nI_toInt (by omega)]
      omega
def BlQ (SR SC : Ob) (r10 r11 r12 : Nat → Int32) : Prop :=
  (SR.1 6 = 0 ∧ r10 2 < 0) ∨ (SR.1 6 = 1 ∧ ∃ (L : List (Nat × Nat)) (a r0 : Nat), SR.1 4 = nI a ∧ SR.1 5 = nI (a + L.length) ∧ r10 2 = nI r0 ∧ CdAt SC a L ∧ a + L.length ≤ 1000 ∧ CdBt r11 r12 r0 L ∧ r0 + L.length < 1100 ∧ WfA L 24 ∧ LvA 9 0 L)
theorem bills_loop {SR SG SC0 SI0 : Ob} {n : Nat} (V : Nat → Int32) (hn : SI0.1 0 = nI n) (h8 : n ≤ 8) (hA : ∀ j SC SI, j < n → FrS SC0 SC → SI.1 = SI0.1 → (∀ k, k ≠ 7 → SI.2.2.1 k = SI0.2.2.1 k) → (SR.1 6 = 0 ∧ V j = 1) ∨ (¬ SR.1 6 = 0 ∧ ∃ SC', f2_amount (nI j) (SR.1 4) (SR.1 5) SC SI = some (V j, SC') ∧ FrS SC SC')) : ∃ SC' SI', f9_workOut_50 SR SG SC0 SI0 = some (SC', SI') ∧ SI'.1 = SI0.1 ∧ SI'.2.2.2 = SI0.2.2.2 ∧ (∀ k, k ≠ 7 → SI'.2.2.1 k = SI0.2.2.1 k) ∧ ∀ j, j < n → SI'.2.2.1 7 j = clampS (V j) := by
  obtain ⟨⟨SC', SI'⟩, e, c1, c2, c3, c4⟩ := loop_inv (fun m j (a : Ob × Ob) => f9_workOut_52 m (nI j) SR SG a.1 a.2) (fun k a => FrS SC0 a.1 ∧ a.2.1 = SI0.1 ∧ a.2.2.2.2 = SI0.2.2.2 ∧ (∀ j, j ≠ 7 → a.2.2.2.1 j = SI0.2.2.1 j) ∧ ∀ j, j < k → a.2.2.2.1 7 j = clampS (V j)) (fun a => a.2.1 = SI0.1 ∧ a.2.2.2.2 = SI0.2.2.2 ∧ (∀ j, j ≠ 7 → a.2.2.2.1 j = SI0.2.2.1 j) ∧ ∀ j, j < n → a.2.2.2.1 7 j = clampS (V j)) n
    (by
      intro m a ⟨_, c1, c2, c3, c4⟩
      refine ⟨a, ?_, c1, c2, c3, c4⟩
      show f9_workOut_52 (m + 1) (nI n) SR SG a.1 a.2 = _
      rw [f9_workOut_52, c1, hn, if_pos (nI_le (Nat.le_refl _) (by omega))])
    (by
      intro m k a hk ⟨c0, c1, c2, c3, c4⟩
      have step : ∀ SC', FrS SC0 SC' → (FrS SC0 (SC', oA a.2 7 k (clampS (V k))).1 ∧ (SC', oA a.2 7 k (clampS (V k))).2.1 = SI0.1 ∧ (SC', oA a.2 7 k (clampS (V k))).2.2.2.2 = SI0.2.2.2 ∧ (∀ j, j ≠ 7 → (SC', oA a.2 7 k (clampS (V k))).2.2.2.1 j = SI0.2.2.1 j) ∧ ∀ j, j < k + 1 → (SC', oA a.2 7 k (clampS (V k))).2.2.2.1 7 j = clampS (V j)) := by
        intro SC' hS
        refine ⟨hS, c1, c2, fun j hj => ?_, fun j hj => ?_⟩
        · show va_up a.2.2.2.1 7 _ j = _
          rw [va_ne _ hj]; exact c3 j hj
        · show upd (a.2.2.2.1 7) k _ j = _
          by_cases hjk : j = k
          · rw [hjk, pk_us]
          · rw [pk_un hjk]; exact c4 j (by omega)
      rcases hA k a.1 a.2 hk c0 c1 c3 with ⟨h6, hv⟩ | ⟨h6, SC', hv, hS⟩
      · refine ⟨(a.1, oA a.2 7 k (clampS (V k))), step a.1 c0, ?_⟩
        show f9_workOut_52 (m + 1) (nI k) SR SG a.1 a.2 = f9_workOut_52 m (nI (k + 1)) SR SG a.1 (oA a.2 7 k (clampS (V k)))
        rw [f9_workOut_52, c1, hn, if_neg (nI_ge hk (by omega)), if_pos h6]
        unfold f9_workOut_91
        rw [inb_nI (by omega) (by omega), ck_t, lt_e, lt_e, nI_clamp (by omega), nI_1, cl_eq, hv]
      · refine ⟨(SC', oA a.2 7 k (clampS (V k))), step SC' (FrS_tr c0 hS), ?_⟩
        show f9_workOut_52 (m + 1) (nI k) SR SG a.1 a.2 = f9_workOut_52 m (nI (k + 1)) SR SG SC' (oA a.2 7 k (clampS (V k)))
        rw [f9_workOut_52, c1, hn, if_neg (nI_ge hk (by omega)), if_neg h6, hv, bd_s]
        unfold f9_workOut_91
        rw [inb_nI (by omega) (by omega), ck_t, lt_e, lt_e, nI_clamp (by omega), nI_1, cl_eq])
    FU 0 (SC0, SI0) (Nat.zero_le _) (FU_lt (by omega)) ⟨FrS_refl _, rfl, rfl, fun _ _ => rfl, fun j hj => absurd hj (by omega)⟩
  exact ⟨SC', SI', e, c1, c2, c3, c4⟩
/-- an object that has just these rows -/
def obR (f : Nat → Nat → Int32) : Ob := (fun _ => 0, fun _ => 0, f, fun _ _ => 0)
theorem bills_of {SR SG SC0 SI0 : Ob} {r10 r11 r12 : Nat → Int32} {n : Nat} (hn : SI0.1 0 = nI n) (h8 : n ≤ 8) (hB : BlQ SR SC0 r10 r11 r12) : ∃ SC' SI', f9_workOut_50 SR SG SC0 SI0 = some (SC', SI') ∧ SI'.1 = SI0.1 ∧ SI'.2.2.2 = SI0.2.2.2 ∧ (∀ k, k ≠ 7 → SI'.2.2.1 k = SI0.2.2.1 k) ∧ (∀ j, j < n → ∃ u, u ≤ 99 ∧ SI'.2.2.1 7 j = nI u) ∧ BiR SI' r10 r11 r12 n := by
  rcases hB with ⟨b1, b2⟩ | ⟨b1, L, a, r0, b2, b3, b4, b5, b6, b7, b8, b9, b10⟩
  · obtain ⟨SC', SI', e, c1, c2, c3, c4⟩ := bills_loop (SR := SR) (SG := SG) (SC0 := SC0) (fun _ => 1) hn h8 (fun j SC SI _ _ _ _ => Or.inl ⟨b1, rfl⟩)
    exact ⟨SC', SI', e, c1, c2, c3, fun j hj => by rw [c4 j hj]; exact cl_le 1, Or.inl ⟨b2, fun j hj => by rw [c4 j hj]; rfl⟩⟩
  · have h6 : ¬ SR.1 6 = 0 := by rw [b1]; decide
    obtain ⟨sj, hsj⟩ : ∃ sj : Nat → Ob, sj = fun j => obR (va_up (va_up (va_up (fun _ _ => 0) 11 r11) 12 r12) 23 (upd (upd (upd (fun _ => 0) 0 (SI0.2.2.1 3 j)) 1 (SI0.2.2.1 4 j)) 2 (SI0.1 0))) := ⟨_, rfl⟩
    have j11 : ∀ j, (sj j).2.2.1 11 = r11 := fun j => by rw [hsj]; rfl
    have j12 : ∀ j, (sj j).2.2.1 12 = r12 := fun j => by rw [hsj]; rfl
    have j0 : ∀ j, (sj j).2.2.1 23 0 = SI0.2.2.1 3 j := fun j => by rw [hsj]; rfl
    have j1 : ∀ j, (sj j).2.2.1 23 1 = SI0.2.2.1 4 j := fun j => by rw [hsj]; rfl
    have j2 : ∀ j, (sj j).2.2.1 23 2 = SI0.1 0 := fun j => by rw [hsj]; rfl
    obtain ⟨V, hV⟩ : ∃ V : Nat → Int32, V = fun j => ((f12_worthAt (nI r0) (sj j)).getD (0, o0)).1 := ⟨_, rfl⟩
    have amt : ∀ j SC SI, j < n → FrS SC0 SC → SI.1 = SI0.1 → (∀ k, k ≠ 7 → SI.2.2.1 k = SI0.2.2.1 k) → ∃ SC', f2_amount (nI j) (nI a) (nI (a + L.length)) SC SI = some (V j, SC') ∧ FrS SC SC' := by
      intro j SC SI hj hS h1 h2
      obtain ⟨v, p, SC', v1, v2, v3⟩ := amount_both (SI := SI) (sm := sj j) (SC := SC) (n := n) (j := j) (sp := a) (r := r0) (h := 24) (by omega) b9 (by omega) b10 (fun k x hx => by rw [hS.2.2.1 0 (by omega), hS.2.2.1 1 (by omega)]; exact b5 k x hx) b6 (by rw [j11, j12]; exact b7) (by omega) (by rw [j0, h2 3 (by omega)]) (by rw [j1, h2 4 (by omega)]) (by rw [j2, h1])
      have ev : V j = v := by rw [hV]; show ((f12_worthAt (nI r0) (sj j)).getD (0, o0)).1 = v; rw [v3]; rfl
      exact ⟨SC', by rw [ev]; exact v1, v2⟩
    obtain ⟨SC', SI', e, c1, c2, c3, c4⟩ := bills_loop (SR := SR) (SG := SG) (SC0 := SC0) V hn h8 (fun j SC SI hj hS h1 h2 => Or.inr ⟨h6, by rw [b2, b3]; exact amt j SC SI hj hS h1 h2⟩)
    refine ⟨SC', SI', e, c1, c2, c3, fun j hj => by rw [c4 j hj]; exact cl_le _, Or.inr ⟨by rw [b4]; exact nI_pos (by omega), fun j hj sm s11 s12 s0 s1 s2 => ?_⟩⟩
    rw [c3 3 (by omega)] at s0
    rw [c3 4 (by omega)] at s1
    obtain ⟨v, p, SC2, v1, v2, v3⟩ := amount_both (SI := SI0) (sm := sm) (SC := SC0) (n := n) (j := j) (sp := a) (r := r0) (h := 24) (by omega) b9 (by omega) b10 b5 b6 ⟨fun k x hx => (by
      have hl := len_of hx
      rw [s11 _ (by omega) (by omega), s12 _ (by omega) (by omega)]; exact b7.1 k x hx), by rw [s11 _ (by omega) (by omega)]; exact b7.2⟩ (by omega) s0 s1 (by rw [s2, hn])
    obtain ⟨SC3, w1, w2⟩ := amt j SC0 SI0 hj (FrS_refl _) rfl (fun _ _ => rfl)
    have ev : v = V j := by
      rw [v1] at w1
      exact (Prod.mk.inj (Option.some.inj w1)).1
    refine ⟨v, p, by rw [b4]; exact v3, ?_⟩
    rw [ev, c4 j hj]
