/-! pure: all calls; the first states -/
theorem steps_inv : Steps Inv := ⟨st_feed, st_inn, st_morning, st_guest, st_shows, st_left, st_answer, st_sign, st_weather, st_night, st_undo, st_judged, st_spare, st_who, st_ask, st_fewest, st_tell, st_knows, st_sure, st_rounds, st_common, st_hear, st_likely, st_odds, st_errors, st_hunt, st_same, st_bill, st_beds, st_watch, st_years, st_mark, st_count⟩
theorem tape_ints : ∀ (m : Nat) (x1 : Int32) (x2 : Int64) (x4 : Int32) (ST : Ob), KpR (fun S : Ob => S.1 = ST.1) (f10_init_28 m x1 x2 x4 ST) := by
  intro m
  induction m with
  | zero => intro x1 x2 x4 ST; exact kp_none
  | succ m ih =>
    intro x1 x2 x4 ST
    rw [f10_init_28]
    unfold f10_init_84 f10_init_90
    repeat' (with_reducible first | refine kp_bd (fun _ _ => ?_) | refine kp_if ?_ ?_ | refine kp_ck ?_ | refine kp_lt ?_)
    · exact kp_some rfl
    · exact kp_some rfl
    · exact ih _ _ _ (oJ ST 1 _ _)
    · exact ih _ _ _ _
theorem tape_some : (f10_init_28 FU 0 0 0 o0).isSome = true := by decide +kernel
theorem tape_first : ∃ ST1, f10_init_28 FU 0 0 0 o0 = some ST1 ∧ ST1.1 = o0.1 := by
  obtain ⟨ST1, h⟩ := Option.isSome_iff_exists.mp tape_some
  exact ⟨ST1, h, tape_ints _ _ _ _ _ _ h⟩
theorem r_stands0 (SM : Ob) : ∃ p, f12_standsAsAlways 0 SM = some (sR SM 10 p) ∧ (∀ j, j < 60 → j ≠ 2 → p j = 0) ∧ p 2 = -1 := by
  obtain ⟨S', e, p, e1, e3, e4⟩ := loop_inv (fun m k S => f12_standsAsAlways_2 m 0 (nI k) S) (fun k S => ∃ p, S = sR SM 10 p ∧ ∀ j, j < k → p j = 0) (fun S => ∃ p, S = sR SM 10 p ∧ (∀ j, j < 60 → j ≠ 2 → p j = 0) ∧ p 2 = -1) 60
    (by
      intro m S ⟨p, h1, h3⟩
      refine ⟨sR SM 10 (upd p 2 (-1)), ?_, upd p 2 (-1), rfl, fun j h5 h6 => ?_, pk_us⟩
      · show f12_standsAsAlways_2 (m + 1) 0 (nI 60) S = _
        rw [f12_standsAsAlways_2, if_pos (show (60 : Int32) ≤ nI 60 by decide), show inb ((0 : Int32) + 2) 120 = true from rfl, ck_t, lt_e, show Int32.toNatClampNeg ((0 : Int32) + 2) = 2 from rfl, h1, oA_sR, sR_sR, sR_at]
      · rw [pk_un h6]; exact h3 j (by omega))
    (by
      intro m k S hk ⟨p, h1, h3⟩
      refine ⟨sR SM 10 (upd p k 0), ⟨upd p k 0, rfl, fun j h5 => ?_⟩, ?_⟩
      · by_cases hj : j = k
        · rw [hj, pk_us]
        · rw [pk_un hj]; exact h3 j (by omega)
      · show f12_standsAsAlways_2 (m + 1) 0 (nI k) S = f12_standsAsAlways_2 m 0 (nI (k + 1)) _
        have i1 : (0 : Int32) + nI k = nI k := by rw [show (0 : Int32) = nI 0 from rfl, nI_add, Nat.zero_add]
        rw [f12_standsAsAlways_2, if_neg (show ¬ (60 : Int32) ≤ nI k from nI_ge (b := 60) hk (by omega)), i1, inb_nI (by omega) (by omega), ck_t, lt_e, lt_e, nI_clamp (by omega), nI_1, h1, oA_sR, sR_sR, sR_at])
    FU 0 SM (Nat.zero_le _) (FU_lt (by omega)) ⟨SM.2.2.1 10, by unfold sR; rw [va_self], fun j h5 => absurd h5 (by omega)⟩
  refine ⟨p, ?_, e3, e4⟩
  have e' : f12_standsAsAlways_2 FU 0 0 SM = some S' := e
  unfold f12_standsAsAlways
  rw [e', e1]
theorem first_inv : ∃ ST1 Sa SM1 : Ob, f10_init_28 FU 0 0 0 o0 = some ST1 ∧ f12_standsAsAlways 0 S12 = some Sa ∧ f12_begins Sa = some SM1 ∧ Inv (fun i => if i = 3 then ST1 else o0) SM1 := by
  obtain ⟨ST1, hT, hT1⟩ := tape_first
  obtain ⟨p, p1, p2, p3⟩ := r_stands0 S12
  obtain ⟨Sa, hSa⟩ : ∃ S, S = sR S12 10 p := ⟨_, rfl⟩
  rw [← hSa] at p1
  have e10 : Sa.2.2.1 10 = p := by rw [hSa]; exact sR_at _ _ _
  obtain ⟨SM4, x1, x2, x3, x4, x5, x6, x7, x8, x9, x10, x11, x12⟩ := r_begins (SM := Sa) (n := 0) (g := 0) (by rw [e10]; exact p2 0 (by omega) (by omega)) (by omega) (by rw [e10]; exact p2 1 (by omega) (by omega)) (by omega)
  have hb : f12_begins Sa = some SM4 := by
    unfold f12_begins
    show f12_begins_2 (4999 + 1) 0 Sa = _
    rw [f12_begins_2, s12_signs, bd_s, e10, p2 1 (by omega) (by omega), if_pos (show (0 : Int32) ≤ 0 by decide), x1]
  have m10 : SM4.2.2.1 10 = p := (x6 10 (by omega) (by omega) (by omega) (by omega)).trans e10
  have z0 : ∀ P : Nat → Bool, so (fun q => decide (q < 0) && P q) = 0 := fun P => (so_eq (fun i hi => by rw [b_0]; simp)).symm
  refine ⟨ST1, Sa, SM4, hT, p1, hb, 0, 0, ?_, ?_, ?_, ?_, ?_, ?_, ?_, ?_, ?_⟩
  · show InnC o0 0 0
    exact ⟨by omega, by omega, rfl, rfl, fun j hj => absurd hj (by omega), fun j hj => absurd hj (by omega), fun j hj => absurd hj (by omega), fun j hj => absurd hj (by omega), fun j hj => absurd hj (by omega), fun j hj => absurd hj (by omega), fun j hj => absurd hj (by omega), fun w _ => (z0 _).symm⟩
  · show InnM o0 (SM4.2.2.1 10) (SM4.2.2.1 28) (SM4.2.2.1 29) 0 0
    exact ⟨by rw [m10]; exact p2 0 (by omega) (by omega), by rw [m10]; exact p2 1 (by omega) (by omega), fun j hj => absurd hj (by omega), fun j hj => absurd hj (by omega), fun j hj => absurd hj (by omega), fun w hw => by rw [x7 w hw, z0]; rfl⟩
  · show BkR o0 (SM4.2.2.1 25) 0 0 0
    refine ⟨?_, fun i hi hb => ?_, ⟨0, by omega, rfl, x9, fun k hk => absurd hk (by omega)⟩, ⟨0, by omega, rfl, x10, fun k hk => absurd hk (by omega)⟩⟩
    · rw [x8]
      show allS 0 = 0
      exact (so_eq (fun i hi => by rw [b_0]; simp)).symm
    · have hb' : bt (0 : Int32) i = true := hb
      rw [b_0] at hb'
      exact absurd hb' (by decide)
  · show UnR o0 (SM4.2.2.1 25) (SM4.1 26) 0
    exact ⟨0, 0, fun _ => 0, by omega, by omega, rfl, x3, rfl, fun e he => absurd he (by omega), fun e f _ he => absurd he (by omega), fun e he => absurd he (by omega)⟩
  · intro m hm
    refine ⟨?_, Or.inl (x12 m hm), fun h1 => ?_⟩
    · show o0.2.2.1 8 m = _
      rw [x12 m hm]; rfl
    · rw [x12 m hm] at h1
      exact absurd h1 (by decide)
  · show TpR ST1 (SM4.1 2) (SM4.2.2.1 1) (SM4.2.2.2 9)
    refine ⟨⟨0, by omega, by rw [hT1]; rfl, ?_, fun k hk => absurd hk (by omega)⟩, fun i hi => ?_, ST1, hT, fun i hi => rfl⟩
    · rw [x2 2 (by omega), hSa]; rfl
    · rw [x5, hSa]; rfl
  · show MoR o0 (SM4.2.2.1 10) (SM4.2.2.1 11) (SM4.2.2.1 12) (SM4.2.2.1 22) (SM4.2.2.1 28)
    exact ⟨0, by omega, rfl, x11, fun k hk => absurd hk (by omega)⟩
  · show BiR o0 (SM4.2.2.1 10) (SM4.2.2.1 11) (SM4.2.2.1 12) 0
    exact Or.inl ⟨by rw [m10, p3]; decide, fun j hj => absurd hj (by omega)⟩
  · show NmR o0 (SM4.1 18) (SM4.2.2.2 14) (SM4.2.2.1 16) 0 0
    exact ⟨by rw [x2 18 (by omega), hSa]; rfl, fun _ => [], fun _ => 0, fun k hk => absurd hk (by omega), fun k l hk => absurd hk (by omega), fun j hj => absurd hj (by omega), fun s hs => absurd hs (by omega)⟩
