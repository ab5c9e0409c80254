/-! pure: worlds of a code at both -/
theorem lvE {n g : Nat} {L : List (Nat × Nat)} (h : LvA n g L) (hn : n ≤ 8) {x : Nat × Nat} (hx : x ∈ L) : x.1 ≤ 5 ∧ (x.1 = 0 → x.2 < 8) ∧ (x.1 = 1 → x.2 < n) ∧ (x.1 = 2 → x.2 < g) := ⟨(h x hx).2.1 hn, (h x hx).2.2.2.1, (h x hx).2.2.2.2.1, (h x hx).2.2.2.2.2.1⟩
theorem worlds_both {SI sm SC : Ob} {L : List (Nat × Nat)} {n n0 g G sp r h : Nat} (hg : GsR SI (sm.2.2.1 10) n) (hw : WfA L h) (h64 : h ≤ 64) (hlv : LvA n0 g L) (hn0 : n0 ≤ n) (hgG : g ≤ G) (hG : G ≤ 6) (h8 : SI.1 8 = nI G) (hsh : ∀ s, s < g → sm.2.2.1 28 s = SI.2.2.1 11 s ∧ SI.2.2.1 11 s &&& allS n = SI.2.2.1 11 s) (hc : CdAt SC sp L) (hsp : sp + L.length ≤ 1000) (hb : CdBt (sm.2.2.1 11) (sm.2.2.1 12) r L) (hrp : r + L.length < 3300) : ∃ v p SC', f2_worlds (nI sp) (nI (sp + L.length)) SC SI = some (v, SC') ∧ FrS SC SC' ∧ f12_soIn (nI r) sm = some (v, sR sm 24 p) ∧ v &&& allS n = v := by
  have hn := hg.1
  have hF : ∀ x, x ∈ L → ∃ v, (x.1 = 0 → f4_worldsBy (nI (18 + x.2)) SI = some v ∧ (∀ p, f12_soOf (nI x.2) (sR sm 24 p) = some v)) ∧ (x.1 = 1 → f4_worldsOf (nI x.2) SI = some v ∧ f12_worldsOf (nI x.2) = some v) ∧ (x.1 = 2 → f4_worldsShowing (nI x.2) 1 SI = some v ∧ sm.2.2.1 28 x.2 = v) ∧ v &&& allS n = v := by
    intro x hx
    obtain ⟨l1, l2, l3, l4⟩ := lvE hlv (by omega) hx
    rcases (show x.1 = 0 ∨ x.1 = 1 ∨ x.1 = 2 ∨ 3 ≤ x.1 by omega) with e | e | e | e
    · obtain ⟨v, v1, v2, v3⟩ := fact_both hg (l2 e)
      refine ⟨v, fun _ => ⟨v1, fun p => ?_⟩, fun e' => absurd e' (by omega), fun e' => absurd e' (by omega), v3⟩
      obtain ⟨v', w1, w2, w3⟩ := fact_both (SM := sR sm 24 p) (n := n) (by rw [sR_off sm (show 10 ≠ 24 by omega)]; exact hg) (l2 e)
      rw [w2, ← w1, v1]
    · have := l3 e
      refine ⟨so (w4s x.2), fun e' => absurd e' (by omega), fun _ => ⟨s4_worldsOf (by omega), ?_⟩, fun e' => absurd e' (by omega), own_all (by omega)⟩
      unfold f12_worldsOf
      rw [nI_4', own_so (by omega)]
    · have hs := l4 e
      obtain ⟨s1, s2⟩ := hsh x.2 hs
      refine ⟨SI.2.2.1 11 x.2, fun e' => absurd e' (by omega), fun e' => absurd e' (by omega), fun _ => ⟨?_, s1⟩, s2⟩
      unfold f4_worldsShowing f4_worldsShowing_36
      rw [s4_hasSign_yes h8 (by omega) (by omega), bd_s, if_neg (show ¬ (1 : Int32) = 0 by decide), if_neg (show ¬ (1 : Int32) = 0 by decide), inb_nI (by omega) (by omega), ck_t, nI_clamp (by omega)]
    · exact ⟨0, fun e' => absurd e' (by omega), fun e' => absurd e' (by omega), fun e' => absurd e' (by omega), Int32.zero_and⟩
  have hE : ∃ E : Nat × Nat → Int32, ∀ x, x ∈ L → (x.1 = 0 → f4_worldsBy (nI (18 + x.2)) SI = some (E x) ∧ (∀ p, f12_soOf (nI x.2) (sR sm 24 p) = some (E x))) ∧ (x.1 = 1 → f4_worldsOf (nI x.2) SI = some (E x) ∧ f12_worldsOf (nI x.2) = some (E x)) ∧ (x.1 = 2 → f4_worldsShowing (nI x.2) 1 SI = some (E x) ∧ sm.2.2.1 28 x.2 = E x) ∧ E x &&& allS n = E x := by
    refine ⟨fun x => if x.1 = 0 then (f4_worldsBy (nI (18 + x.2)) SI).getD 0 else if x.1 = 1 then (f4_worldsOf (nI x.2) SI).getD 0 else if x.1 = 2 then sm.2.2.1 28 x.2 else 0, fun x hx => ?_⟩
    obtain ⟨v, v1, v2, v3, v4⟩ := hF x hx
    simp only
    rcases (show x.1 = 0 ∨ x.1 = 1 ∨ x.1 = 2 ∨ (x.1 ≠ 0 ∧ x.1 ≠ 1 ∧ x.1 ≠ 2) by omega) with e | e | e | ⟨e1, e2, e3⟩
    · obtain ⟨w1, w2⟩ := v1 e
      rw [if_pos e, w1]
      exact ⟨fun _ => ⟨rfl, w2⟩, fun e' => absurd e' (by omega), fun e' => absurd e' (by omega), v4⟩
    · obtain ⟨w1, w2⟩ := v2 e
      rw [if_neg (by omega), if_pos e, w1]
      exact ⟨fun e' => absurd e' (by omega), fun _ => ⟨rfl, w2⟩, fun e' => absurd e' (by omega), v4⟩
    · obtain ⟨w1, w2⟩ := v3 e
      rw [if_neg (by omega), if_neg (by omega), if_pos e, w2]
      exact ⟨fun e' => absurd e' (by omega), fun e' => absurd e' (by omega), fun _ => ⟨w1, rfl⟩, v4⟩
    · rw [if_neg e1, if_neg e2, if_neg e3]
      exact ⟨fun e' => absurd e' e1, fun e' => absurd e' e2, fun e' => absurd e' e3, Int32.zero_and⟩
  obtain ⟨E, hE⟩ := hE
  obtain ⟨v1, v2, a1, a2, a3⟩ := wf_rel (R := fun a b => a &&& allS n = b) (E1 := E) (E2 := E) (un1 := fun a => a ^^^ (-1)) (un2 := fun a => (a ^^^ (-1)) &&& allS n) (bi1 := biW) (bi2 := biW) hw h64
    (fun a b e => by
      rw [← e]
      exact b_ext (fun i hi => by
        simp only [b_and, b_not _ hi]
        cases bt a i <;> cases bt (allS n) i <;> rfl))
    (fun x hx _ => (hE x hx).2.2.2)
    (fun x _ a b c d e f => by
      show biW x.1 a c &&& allS n = biW x.1 b d
      rw [← e, ← f]
      unfold biW
      by_cases h4 : x.1 = 4
      · rw [if_pos h4, if_pos h4]
        exact b_ext (fun i hi => by
          simp only [b_and]
          cases bt a i <;> cases bt c i <;> cases bt (allS n) i <;> rfl)
      · rw [if_neg h4, if_neg h4]
        exact b_ext (fun i hi => by
          simp only [b_and, b_or]
          cases bt a i <;> cases bt c i <;> cases bt (allS n) i <;> rfl))
  have hS0 : FrS SC (oI SC 4 0) := ⟨fun k hk => va_ne _ hk _, rfl, fun _ _ => rfl, rfl⟩
  obtain ⟨SC1, b1, b2, b3, b4⟩ := c_worlds (SI := SI) (E := E) L sp FU (oI SC 4 0) [] [v1] (FU_lt (by omega)) hsp (fun k x hx => hc k x hx) (fun x hx => by
    obtain ⟨l1, l2, l3, l4⟩ := lvE hlv (by omega) hx
    obtain ⟨w1, w2, w3, w4⟩ := hE x hx
    exact ⟨l1, fun e => ⟨l2 e, (w1 e).1⟩, fun e => (w2 e).1, fun e => (w3 e).1⟩) ⟨rfl, trivial⟩ (by show 0 ≤ 64; omega) a1
  obtain ⟨SC2, c1, c2, c3⟩ := c_pop b2 (by show 0 < 64; omega)
  obtain ⟨q, d1, d2⟩ := r_so (sm := sm) (n := n) (E := E) (fun p => s12_everyWorld (by rw [sR_off sm (show 10 ≠ 24 by omega)]; exact hg.2.2.1) hn) L r FU [] [v2] (sm.2.2.1 24) (FU_lt (by omega)) hrp hb (fun x hx => by
    obtain ⟨l1, l2, l3, l4⟩ := lvE hlv (by omega) hx
    obtain ⟨w1, w2, w3, w4⟩ := hE x hx
    exact ⟨l1, fun e => (w1 e).2, fun e => ⟨by have := l3 e; omega, (w2 e).2⟩, fun e => ⟨by have := l4 e; omega, (w3 e).2⟩⟩) trivial (by show 0 ≤ 1100; omega) a2
  have a3' : v1 &&& allS n = v2 := a3
  refine ⟨v2, q, SC2, ?_, FrS_tr hS0 (FrS_tr b4 c3), ?_, ?_⟩
  · unfold f2_worlds
    rw [lt_e, b1]
    unfold f2_worlds_161
    rw [c1, bd_s, s4_all hg.2.1 hn, bd_s, ← a3']
  · have es : sR sm 24 (sm.2.2.1 24) = sm := by unfold sR; rw [va_self]
    have d0 : q 0 = v2 := d2.1
    rw [es, d0] at d1
    exact d1
  · rw [← a3', Int32.and_assoc, Int32.and_self]
