/-! pure: knows, sure, tell -/
/-- a loop that goes on into something else -/
theorem loop_to {α β : Type} (L : Nat → Nat → α → Option β) (I : Nat → α → Prop) (K : α → Option β) (n : Nat) (hend : ∀ m a, I n a → L (m + 1) n a = K a) (hstep : ∀ m j a, j < n → I j a → ∃ b, I (j + 1) b ∧ L (m + 1) j a = L m (j + 1) b) : ∀ m j a, j ≤ n → n - j < m → I j a → ∃ b, I n b ∧ L m j a = K b := by
  intro m
  induction m with
  | zero => intro j a h1 h2; omega
  | succ m ih =>
    intro j a h1 h2 hI
    by_cases h : j = n
    · subst h
      exact ⟨a, hI, hend m a hI⟩
    · obtain ⟨b, hb, e⟩ := hstep m j a (by omega) hI
      rw [e]
      exact ih (j + 1) b (by omega) (by omega) hb
def shW (cs : Nat → Ob) (w : Nat) : Nat := vN ((cs 8).2.2.1 12 w)
theorem inv_sh {cs : Nat → Ob} {sm : Ob} {n g : Nat} (h : InvN cs sm n g) : ShR (cs 8) (shW cs) ∧ ShM sm (shW cs) ∧ ∀ w, w < 32 → shW cs w < 2 ^ g := by
  obtain ⟨hC, hM, -⟩ := h
  have h6 := hC.2.1
  have hlt : ∀ w, w < 32 → shW cs w < 2 ^ g := fun w hw => vN_lt (fun i hi hb => by
    rw [hC.2.2.2.2.2.2.2.2.2.2.2 w hw, so_bt _ hi] at hb
    simp at hb
    exact hb.1)
  have h64 : ∀ w, w < 32 → shW cs w < 64 := fun w hw => Nat.lt_of_lt_of_le (hlt w hw) (Nat.pow_le_pow_right (n := 2) (i := g) (j := 6) (by omega) h6)
  refine ⟨fun w hw => ⟨(nI_vN _).symm, h64 w hw⟩, fun w hw => ⟨?_, h64 w hw⟩, hlt⟩
  rw [hM.2.2.2.2.2 w hw]
  exact (nI_vN _).symm
theorem inv_sees {cs : Nat → Ob} {sm : Ob} {n g j : Nat} (h : InvN cs sm n g) (hj : j < n) : ∃ sg, sg < 2 ^ g ∧ sg < 64 ∧ (cs 8).2.2.1 5 j = nI sg ∧ sm.2.2.1 10 (3 + 5 * j + 3) = nI sg := by
  obtain ⟨hC, hM, -⟩ := h
  obtain ⟨v, v1, v2⟩ := hC.2.2.2.2.2.2.2.1 j hj
  have h6 := hC.2.1
  refine ⟨v, v1, Nat.lt_of_lt_of_le v1 (Nat.pow_le_pow_right (n := 2) (i := g) (j := 6) (by omega) h6), v2, ?_⟩
  rw [← v2]
  exact (hM.2.2.1 j hj).2.2.2.1
theorem guest_both {cs : Nat → Ob} {sm : Ob} {n g : Nat} (h : InvN cs sm n g) (x : Int32) : (∃ j, j < n ∧ x = nI j ∧ f4_hasGuest x (cs 8) = some 1 ∧ f12_isGuest x (oI sm 0 0) = some 1) ∨ (f4_hasGuest x (cs 8) = some 0 ∧ f12_isGuest x (oI sm 0 0) = some 0) := by
  obtain ⟨hC, hM, -⟩ := h
  obtain ⟨h8, -, hn, -⟩ := hC
  have hn' : (oI sm 0 0).2.2.1 10 0 = nI n := hM.1
  rcases pk_ix x (n := n) (by omega) with hx | hx | ⟨j, hj, rfl⟩
  · exact Or.inr ⟨s4_hasGuest_no hn (Or.inl hx), s12_isGuest_no hn' (Or.inl hx)⟩
  · exact Or.inr ⟨s4_hasGuest_no hn (Or.inr hx), s12_isGuest_no hn' (Or.inr hx)⟩
  · exact Or.inl ⟨j, hj, rfl, s4_hasGuest_yes hn hj h8, s12_isGuest_yes hn' hj h8⟩
theorem sign_both {cs : Nat → Ob} {sm : Ob} {n g : Nat} (h : InvN cs sm n g) (x : Int32) : f12_signs (oI sm 0 0) = some (nI g) ∧ ((∃ j, j < g ∧ x = nI j ∧ f4_hasSign x (cs 8) = some 1 ∧ f12_within x 0 (nI g - 1) = some 1) ∨ (f4_hasSign x (cs 8) = some 0 ∧ f12_within x 0 (nI g - 1) = some 0)) := by
  obtain ⟨hC, hM, -⟩ := h
  obtain ⟨h8, h6, hn, hg, -⟩ := hC
  refine ⟨by rw [← hM.2.1]; rfl, ?_⟩
  rcases pk_ix x (n := g) (by omega) with hx | hx | ⟨j, hj, rfl⟩
  · exact Or.inr ⟨s4_hasSign_no hg (Or.inl hx), s12_within_no (Or.inl hx) (by omega)⟩
  · exact Or.inr ⟨s4_hasSign_no hg (Or.inr hx), s12_within_no (Or.inr hx) (by omega)⟩
  · exact Or.inl ⟨j, hj, rfl, s4_hasSign_yes hg hj (by omega), s12_within_yes hj (by omega)⟩
theorem left_both {cs : Nat → Ob} {sm : Ob} {n g : Nat} (h : InvN cs sm n g) (x : Int32) : (∃ w, w < 4 * n ∧ x = nI w ∧ bt ((cs 10).1 0) w = true ∧ f11_isLeft x (cs 0) (cs 8) (cs 10) = some 1 ∧ f12_isLeft x (oI sm 0 0) = some 1) ∨ (f11_isLeft x (cs 0) (cs 8) (cs 10) = some 0 ∧ f12_isLeft x (oI sm 0 0) = some 0) := by
  obtain ⟨hC, hM, hB, -⟩ := h
  obtain ⟨h8, -, hn, -⟩ := hC
  have hn' : (oI sm 0 0).2.2.1 10 0 = nI n := hM.1
  have e0 : (oI sm 0 0).2.2.1 25 (Int32.toNatClampNeg 0) = (cs 10).1 0 := hB.1
  have no : x < 0 ∨ nI (4 * n) ≤ x → (f11_isLeft x (cs 0) (cs 8) (cs 10) = some 0 ∧ f12_isLeft x (oI sm 0 0) = some 0) := by
    intro hx
    constructor
    · unfold f11_isLeft; rw [s4_hasWorld_no hn hx]; rfl
    · unfold f12_isLeft; rw [s12_worlds hn', bd_s, s12_within_no hx (by omega)]; rfl
  rcases pk_ix x (n := 4 * n) (by omega) with hx | hx | ⟨w, hw, rfl⟩
  · exact Or.inr (no (Or.inl hx))
  · exact Or.inr (no (Or.inr hx))
  · have e1 : f11_isLeft (nI w) (cs 0) (cs 8) (cs 10) = some (if bt ((cs 10).1 0) w then 1 else 0) := by
      unfold f11_isLeft f11_isLeft_30 f11_isLeft_31
      rw [s4_hasWorld_yes hn hw h8, bd_s, if_neg (by decide), bit_u (by omega)]
      cases bt ((cs 10).1 0) w <;> rfl
    have e2 : f12_isLeft (nI w) (oI sm 0 0) = some (if bt ((cs 10).1 0) w then 1 else 0) := by
      unfold f12_isLeft f12_isLeft_31 f12_isLeft_32
      rw [s12_worlds hn', bd_s, s12_within_yes hw (by omega), bd_s, if_neg (by decide), e0, s12_isIn (by omega), bd_s]
      cases bt ((cs 10).1 0) w <;> rfl
    cases hb : bt ((cs 10).1 0) w
    · rw [hb] at e1 e2
      exact Or.inr ⟨e1, e2⟩
    · rw [hb] at e1 e2
      exact Or.inl ⟨w, hw, rfl, hb, e1, e2⟩
theorem inv_left {cs : Nat → Ob} {sm : Ob} {n g : Nat} (h : InvN cs sm n g) : (oI sm 0 0).2.2.1 25 (Int32.toNatClampNeg 0) = (cs 10).1 0 ∧ ∀ i, i < 32 → bt ((cs 10).1 0) i = true → i < 4 * n := ⟨h.2.2.1.1, h.2.2.1.2.1⟩
theorem st_knows : St_knows Inv := by
  intro cs sm x1 x2 h
  obtain ⟨n, g, hI⟩ := h
  have hI' : InvN cs (oI sm 0 0) n g := hI
  obtain ⟨h8, h6, hn, -⟩ := id hI.1
  have hn' : (oI sm 0 0).2.2.1 10 0 = nI n := hI.2.1.1
  obtain ⟨s1, s2, -⟩ := inv_sh hI'
  obtain ⟨l1, l2⟩ := inv_left hI
  rcases guest_both hI x1 with ⟨j, hj, rfl, a1, a2⟩ | ⟨a1, a2⟩
  · obtain ⟨sg, -, -, g1, g2⟩ := inv_sees hI' hj
    rcases left_both hI x2 with ⟨w, hw, rfl, hb, b1, b2⟩ | ⟨b1, b2⟩
    · refine ⟨whoS n (vw n (shW cs) sg ((cs 10).1 0) w), oI sm 0 0, ?_, ?_, n, g, hI'⟩
      · unfold f11_knows
        rw [a1, bd_s, if_neg (by decide), b1, bd_s, if_neg (by decide), s6_view s1 (by omega) (by omega) g1 l2, bd_s, s4_guestsIn _ hn h8, bd_s]
      · unfold f12_knows
        rw [lt_e, a2, bd_s, if_neg (by decide), b2, bd_s, if_neg (by decide), l1, s12_viewIn _ hn' h8 s2 (by omega) (by omega) g2, bd_s, s12_whoIn _ hn' h8, bd_s]
        rfl
    · refine ⟨-1, oI sm 0 0, ?_, ?_, n, g, hI'⟩
      · unfold f11_knows
        rw [a1, bd_s, if_neg (by decide), b1]; rfl
      · unfold f12_knows
        rw [lt_e, a2, bd_s, if_neg (by decide), b2]; rfl
  · refine ⟨-1, oI sm 0 0, ?_, ?_, n, g, hI'⟩
    · unfold f11_knows
      rw [a1]; rfl
    · unfold f12_knows
      rw [lt_e, a2]; rfl
theorem flz_1 {p : Nat → Bool} : ∀ {m : Nat}, (∀ k, k < m → p k = false) → fl (fun k (a : Int32) => if p k then 0 else a) m 1 = 1
  | 0, _ => rfl
  | m + 1, h => by rw [fl_succ, if_neg (by rw [h m (by omega)]; decide), flz_1 (fun k hk => h k (by omega))]
theorem flz_0 {p : Nat → Bool} {k : Nat} (hp : p k = true) : ∀ {m : Nat}, k < m → fl (fun k (a : Int32) => if p k then 0 else a) m 1 = 0
  | 0, h => absurd h (Nat.not_lt_zero k)
  | m + 1, h => by
    rw [fl_succ]
    by_cases hk : k = m
    · subst hk; rw [if_pos hp]
    · rw [flz_0 hp (by omega)]; exact ite_id _
theorem st_sure : St_sure Inv := by
  intro cs sm x1 x2 x3 h
  obtain ⟨n, g, hI⟩ := h
  have hI' : InvN cs (oI sm 0 0) n g := hI
  obtain ⟨h8, h6, hn, -⟩ := id hI.1
  have hn' : (oI sm 0 0).2.2.1 10 0 = nI n := hI.2.1.1
  obtain ⟨s1, s2, -⟩ := inv_sh hI'
  obtain ⟨l1, l2⟩ := inv_left hI
  rcases guest_both hI x1 with ⟨j, hj, rfl, a1, a2⟩ | ⟨a1, a2⟩
  · rcases guest_both hI x2 with ⟨o, ho, rfl, c1, c2⟩ | ⟨c1, c2⟩
    · by_cases hjo : nI j = nI o
      · refine ⟨-1, oI sm 0 0, ?_, ?_, n, g, hI'⟩
        · unfold f11_sure
          rw [a1, bd_s, if_neg (by decide), c1, bd_s, if_neg (by decide), if_pos hjo]; rfl
        · unfold f12_sure
          rw [lt_e, a2, bd_s, if_neg (by decide), c2, bd_s, if_neg (by decide), if_pos hjo]; rfl
      · rcases left_both hI x3 with ⟨w, hw, rfl, hb, b1, b2⟩ | ⟨b1, b2⟩
        · obtain ⟨sg, -, -, g1, g2⟩ := inv_sees hI' hj
          obtain ⟨so', -, -, o1, o2⟩ := inv_sees hI' ho
          obtain ⟨V, hV⟩ : ∃ V, V = vw n (shW cs) sg ((cs 10).1 0) w := ⟨_, rfl⟩
          have hVl : ∀ i, i < 32 → bt V i = true → i < 4 * n ∧ bt ((cs 10).1 0) i = true := fun i hi hb => by
            rw [hV] at hb
            obtain ⟨d1, d2, d3⟩ := (vw_bt hi).mp hb
            exact ⟨d1, d2⟩
          have hc : f11_sure (nI j) (nI o) (nI w) (cs 0) (cs 8) (cs 10) = some (if V &&& (so (fun w => bt ((cs 10).1 0) w && kn n (shW cs) so' ((cs 10).1 0) w) ^^^ (-1)) = 0 then 1 else 0) := by
            unfold f11_sure f11_sure_83
            rw [a1, bd_s, if_neg (by decide), c1, bd_s, if_neg (by decide), if_neg hjo, b1, bd_s, if_neg (by decide), s6_view s1 (by omega) (by omega) g1 l2, bd_s, s6_knowing hn h8 s1 (by omega) o1 l2, bd_s, ← hV]
            split <;> rfl
          have hm : f12_sure (nI j) (nI o) (nI w) sm = some (fl (fun k (a : Int32) => if (bt V k && !kn n (shW cs) so' ((cs 10).1 0) k) then 0 else a) (4 * n) 1, oI sm 0 0) := by
            unfold f12_sure
            rw [lt_e, a2, bd_s, if_neg (by decide), c2, bd_s, if_neg (by decide), if_neg hjo, b2, bd_s, if_neg (by decide), l1, s12_viewIn _ hn' h8 s2 (by omega) (by omega) g2, bd_s, ← hV]
            refine loop_fl (fun m k a => f12_sure_56 m (nI o) V a (nI k) (oI sm 0 0)) (fun k (a : Int32) => if (bt V k && !kn n (shW cs) so' ((cs 10).1 0) k) then 0 else a) (fun a => some (a, oI sm 0 0)) (4 * n) 1 ?_ ?_ FU 0 (Nat.zero_le _) (FU_lt (by omega))
            · intro m
              show f12_sure_56 (m + 1) _ _ _ (nI (4 * n)) _ = _
              rw [f12_sure_56, s12_worlds hn', bd_s, if_pos (nI_le (Nat.le_refl _) (by omega))]
            · intro m k hk
              show f12_sure_56 (m + 1) _ _ _ (nI k) _ = f12_sure_56 m _ _ _ (nI (k + 1)) _
              rw [f12_sure_56, s12_worlds hn', bd_s, if_neg (nI_ge hk (by omega)), s12_isIn (by omega), bd_s, l1, s12_viewIn _ hn' h8 s2 (by omega) (by omega) o2, bd_s, s12_whoIn _ hn' h8, bd_s, s12_alone, bd_s]
              unfold f12_sure_102 f12_sure_104
              simp only [lt_e, nI_1, ib_0, alone_kn h8]
              cases h1 : bt V k
              · rfl
              · cases h2 : kn n (shW cs) so' ((cs 10).1 0) k <;> rfl
          refine ⟨_, oI sm 0 0, hc, ?_, n, g, hI'⟩
          rw [hm]
          refine congrArg (fun z => some (z, oI sm 0 0)) ?_
          by_cases hz : V &&& (so (fun w => bt ((cs 10).1 0) w && kn n (shW cs) so' ((cs 10).1 0) w) ^^^ (-1)) = 0
          · rw [if_pos hz]
            refine flz_1 (fun k hk => ?_)
            have := (b_z.mp hz) k (by omega)
            rw [b_and, b_not _ (by omega), so_bt _ (by omega)] at this
            cases h1 : bt V k
            · rfl
            · rw [h1, (hVl k (by omega) h1).2] at this
              simpa using this
          · rw [if_neg hz]
            have : ∃ k, k < 32 ∧ ¬ bt (V &&& (so (fun w => bt ((cs 10).1 0) w && kn n (shW cs) so' ((cs 10).1 0) w) ^^^ (-1))) k = false := by
              apply Classical.byContradiction
              intro hno
              exact hz (b_z.mpr (fun i hi => Classical.byContradiction (fun hh => hno ⟨i, hi, hh⟩)))
            obtain ⟨k, hk, hkk⟩ := this
            rw [b_and, b_not _ hk, so_bt _ hk] at hkk
            cases h1 : bt V k
            · rw [h1] at hkk; exact absurd rfl hkk
            · rw [h1, (hVl k hk h1).2] at hkk
              refine flz_0 (k := k) ?_ (hVl k hk h1).1
              rw [h1]
              simpa using hkk
        · refine ⟨-1, oI sm 0 0, ?_, ?_, n, g, hI'⟩
          · unfold f11_sure
            rw [a1, bd_s, if_neg (by decide), c1, bd_s, if_neg (by decide), if_neg hjo, b1]; rfl
          · unfold f12_sure
            rw [lt_e, a2, bd_s, if_neg (by decide), c2, bd_s, if_neg (by decide), if_neg hjo, b2]; rfl
    · refine ⟨-1, oI sm 0 0, ?_, ?_, n, g, hI'⟩
      · unfold f11_sure
        rw [a1, bd_s, if_neg (by decide), c1]; rfl
      · unfold f12_sure
        rw [lt_e, a2, bd_s, if_neg (by decide), c2]; rfl
  · refine ⟨-1, oI sm 0 0, ?_, ?_, n, g, hI'⟩
    · unfold f11_sure
      rw [a1]; rfl
    · unfold f12_sure
      rw [lt_e, a2]; rfl
/-- the least set, of the fewest -/
def telF (T : Nat → Bool) (k : Nat) (a : Int32) : Int32 := if (a = -1 ∨ cnt (nI k) < cnt a) ∧ T k = true then nI k else a
theorem tel_or (T : Nat → Bool) : ∀ j, fl (telF T) j (-1) = -1 ∨ ∃ v, v < j ∧ fl (telF T) j (-1) = nI v
  | 0 => Or.inl rfl
  | j + 1 => by
    rw [fl_succ]
    obtain ⟨a, ha⟩ : ∃ a, a = fl (telF T) j (-1) := ⟨_, rfl⟩
    have ih := tel_or T j
    rw [← ha] at ih ⊢
    unfold telF
    by_cases h : (a = -1 ∨ cnt (nI j) < cnt a) ∧ T j = true
    · rw [if_pos h]; exact Or.inr ⟨j, by omega, rfl⟩
    · rw [if_neg h]
      rcases ih with h2 | ⟨v, v1, v2⟩
      · exact Or.inl h2
      · exact Or.inr ⟨v, by omega, v2⟩
theorem nI_nm1 {v : Nat} (h : v < 2 ^ 31) : ¬ nI v = -1 := fun e => by
  have := congrArg Int32.toInt e
  rw [nI_toInt h] at this
  have e1 : (-1 : Int32).toInt = -1 := by decide
  omega
theorem tel_neg {T : Nat → Bool} {j : Nat} (hj : j < 2 ^ 31) : fl (telF T) j (-1) < 0 ↔ fl (telF T) j (-1) = -1 := by
  rcases tel_or T j with h | ⟨v, v1, v2⟩
  · rw [h]; decide
  · rw [v2]
    exact ⟨fun h => absurd h (nI_pos (by omega)), fun h => absurd h (nI_nm1 (by omega))⟩
def alkP (x : Int32) (sh : Nat → Nat) (sg a b : Nat) : Prop := bt x a = true ∧ bt x b = true ∧ a / 4 ≠ b / 4 ∧ sh a &&& sg = sh b &&& sg
theorem db_alk {n : Nat} {x : Int32} {sh : Nat → Nat} {sg : Nat} {D : Int64} (hD : ∀ k, LB D k = true ↔ dbP n x sh sg k) (h8 : n ≤ 8) (hs : ∀ w, w < 32 → sh w < 64) : D = 0 ↔ ∀ a, a < 4 * n → ∀ b, b < a → ¬ alkP x sh sg a b := by
  constructor
  · rintro h a ha b hb ⟨h1, h2, h3, h4⟩
    have hk : sh a &&& sg < 64 := and_64 (hs a (by omega))
    have := LB_z.mp h (sh a &&& sg) hk
    have h5 : LB D (sh a &&& sg) = true := (hD _).mpr ⟨b / 4, a / 4, by omega, by omega, ⟨b % 4, by omega, by rw [show 4 * (b / 4) + b % 4 = b by omega]; exact h2, by rw [show 4 * (b / 4) + b % 4 = b by omega]; exact h4.symm⟩, ⟨a % 4, by omega, by rw [show 4 * (a / 4) + a % 4 = a by omega]; exact h1, by rw [show 4 * (a / 4) + a % 4 = a by omega]⟩⟩
    rw [h5] at this
    exact absurd this (by decide)
  · intro h
    refine LB_z.mpr (fun k hk => ?_)
    cases hb : LB D k
    · rfl
    · obtain ⟨c, d, h1, h2, ⟨i, i1, i2, i3⟩, ⟨j, j1, j2, j3⟩⟩ := (hD k).mp hb
      exact absurd ⟨j2, i2, by omega, by rw [i3, j3]⟩ (h (4 * d + j) (by omega) (4 * c + i) (by omega))
theorem s12_tellsAll {SM : Ob} {sh : Nat → Nat} {n sg : Nat} {x : Int32} (hn : SM.2.2.1 10 0 = nI n) (h8 : n ≤ 8) (hs : ShM SM sh) (hx : SM.2.2.1 25 0 = x) : ∃ t, f12_tellsAll (nI sg) SM = some t ∧ (t = 0 ∨ t = 1) ∧ (t = 1 ↔ ∀ a, a < 4 * n → ∀ b, b < a → ¬ alkP x sh sg a b) := by
  refine loop_inv (fun q a t => f12_tellsAll_4 q (nI sg) t (nI a) SM) (fun a t => (t = 0 ∨ t = 1) ∧ (t = 1 ↔ ∀ a', a' < a → ∀ b, b < a' → ¬ alkP x sh sg a' b)) _ (4 * n) ?_ ?_ FU 0 1 (Nat.zero_le _) (FU_lt (by omega)) ⟨Or.inr rfl, fun _ a h => absurd h (Nat.not_lt_zero a), fun _ => rfl⟩
  · intro q t ht
    refine ⟨t, ?_, ht⟩
    show f12_tellsAll_4 (q + 1) _ _ (nI (4 * n)) SM = _
    rw [f12_tellsAll_4, s12_worlds hn, bd_s, if_pos (nI_le (Nat.le_refl _) (by omega))]
    rcases ht.1 with h | h <;> rw [h] <;> rfl
  · intro q a t ha ht
    obtain ⟨b, hb, e⟩ := loop_to (fun m b t => f12_tellsAll_15 (f12_tellsAll_4 q) m (nI sg) t (nI a) (nI b) SM) (fun b t => (t = 0 ∨ t = 1) ∧ (t = 1 ↔ (∀ a', a' < a → ∀ b', b' < a' → ¬ alkP x sh sg a' b') ∧ ∀ b', b' < b → ¬ alkP x sh sg a b')) (fun t => f12_tellsAll_4 q (nI sg) t (nI (a + 1)) SM) a
      (by
        intro m t _
        show f12_tellsAll_15 _ (m + 1) _ _ _ (nI a) SM = _
        rw [f12_tellsAll_15, if_pos (nI_le (Nat.le_refl a) (by omega)), lt_e, nI_1])
      (by
        intro m b t hb ht2
        have e98 : ∀ z, f12_tellsAll_98 (f12_tellsAll_4 q) (f12_tellsAll_15 (f12_tellsAll_4 q) m) (nI sg) (nI a) (nI b) z SM = f12_tellsAll_15 (f12_tellsAll_4 q) m (nI sg) z (nI a) (nI (b + 1)) SM := fun z => by
          unfold f12_tellsAll_98; rw [lt_e, nI_1]
        have hno : ¬ alkP x sh sg a b → ∃ b_1, ((b_1 = 0 ∨ b_1 = 1) ∧ (b_1 = 1 ↔ (∀ a', a' < a → ∀ b', b' < a' → ¬ alkP x sh sg a' b') ∧ ∀ b', b' < b + 1 → ¬ alkP x sh sg a b')) ∧ f12_tellsAll_81 (f12_tellsAll_4 q) (f12_tellsAll_15 (f12_tellsAll_4 q) m) (nI sg) t (nI a) (nI b) SM = f12_tellsAll_15 (f12_tellsAll_4 q) m (nI sg) b_1 (nI a) (nI (b + 1)) SM := fun hna => by
          refine ⟨t, ⟨ht2.1, ht2.2.trans ⟨fun h => ⟨h.1, fun b' hb' => ?_⟩, fun h => ⟨h.1, fun b' hb' => h.2 b' (by omega)⟩⟩⟩, ?_⟩
          · by_cases hbb : b' = b
            · rw [hbb]; exact hna
            · exact h.2 b' (by omega)
          · unfold f12_tellsAll_81 f12_tellsAll_82 f12_tellsAll_97
            rw [e98, e98]
            rcases ht2.1 with h | h <;> rw [h] <;> rfl
        have hyes : alkP x sh sg a b → ∃ b_1, ((b_1 = 0 ∨ b_1 = 1) ∧ (b_1 = 1 ↔ (∀ a', a' < a → ∀ b', b' < a' → ¬ alkP x sh sg a' b') ∧ ∀ b', b' < b + 1 → ¬ alkP x sh sg a b')) ∧ f12_tellsAll_82 (f12_tellsAll_4 q) (f12_tellsAll_15 (f12_tellsAll_4 q) m) (nI sg) t (nI a) (nI b) 1 SM = f12_tellsAll_15 (f12_tellsAll_4 q) m (nI sg) b_1 (nI a) (nI (b + 1)) SM := fun hya => by
          refine ⟨0, ⟨Or.inl rfl, fun h => absurd h (by decide), fun h => absurd hya (h.2 b (by omega))⟩, ?_⟩
          unfold f12_tellsAll_82 f12_tellsAll_97
          rw [e98, e98]
          rw [if_neg (show ¬ (1 : Int32) = 0 by decide)]
          exact ite_id _
        show ∃ b_1, _ ∧ f12_tellsAll_15 _ (m + 1) _ t _ (nI b) SM = _
        rw [f12_tellsAll_15, if_neg (nI_ge hb (by omega))]
        show ∃ b_1, _ ∧ ck true (bd (f12_isIn (SM.2.2.1 25 0) (nI a)) _) = _
        rw [ck_t, hx, s12_isIn (by omega), bd_s]
        cases h1 : bt x a
        · rw [if_pos (show (if false = true then (1 : Int32) else 0) = 0 from rfl)]
          exact hno (fun h => Bool.noConfusion (h1.symm.trans h.1))
        rw [if_neg (by decide)]
        show ∃ b_1, _ ∧ ck true (bd (f12_isIn (SM.2.2.1 25 0) (nI b)) _) = _
        rw [ck_t, hx, s12_isIn (by omega), bd_s]
        cases h2 : bt x b
        · rw [if_pos (show (if false = true then (1 : Int32) else 0) = 0 from rfl)]
          exact hno (fun h => Bool.noConfusion (h2.symm.trans h.2.1))
        rw [if_neg (by decide)]
        show ∃ b_1, _ ∧ ck true (ck true (if nI a / nI 4 = nI b / nI 4 then _ else _)) = _
        rw [ck_t, ck_t, pk_div (by omega) (by omega) (by omega), pk_div (by omega) (by omega) (by omega), inb_nI (by omega) (by omega), ck_t, inb_nI (by omega) (by omega), ck_t, nI_clamp (by omega), nI_clamp (by omega), (hs a (by omega)).1, (hs b (by omega)).1]
        by_cases h3 : a / 4 = b / 4
        · rw [if_pos (by rw [h3])]
          exact hno (fun h => h.2.2.1 h3)
        rw [if_neg (fun h => h3 ((nI_eq (by omega) (by omega)).mp h))]
        by_cases h4 : sh a &&& sg = sh b &&& sg
        · rw [if_pos ((xz' (hs a (by omega)).2 (hs b (by omega)).2).mpr h4)]
          exact hyes ⟨h1, h2, h3, h4⟩
        · rw [if_neg (fun h => h4 ((xz' (hs a (by omega)).2 (hs b (by omega)).2).mp h))]
          exact hno (fun h => h4 h.2.2.2))
      FU 0 t (Nat.zero_le _) (FU_lt (by omega)) ⟨ht.1, ht.2.trans ⟨fun h => ⟨h, fun b' hb' => absurd hb' (Nat.not_lt_zero b')⟩, fun h => h.1⟩⟩
    refine ⟨b, ⟨hb.1, hb.2.trans ⟨fun h a' ha' => ?_, fun h => ⟨fun a' ha' => h a' (by omega), fun b' hb' => h a (by omega) b' hb'⟩⟩⟩, ?_⟩
    · by_cases haa : a' = a
      · rw [haa]; exact h.2
      · exact h.1 a' (by omega)
    · show f12_tellsAll_4 (q + 1) _ _ (nI a) SM = _
      rw [f12_tellsAll_4, s12_worlds hn, bd_s, if_neg (nI_ge ha (by omega))]
      exact e
theorem shl1 : ∀ g, g ≤ 8 → (1 : Int32) <<< (nI g &&& 31) = nI (2 ^ g) := fun g hg => (by decide +kernel : ∀ g, g < 9 → (1 : Int32) <<< (nI g &&& 31) = nI (2 ^ g)) g (by omega)
theorem st_tell : St_tell Inv := by
  intro cs sm h
  obtain ⟨n, g, hI⟩ := h
  have hI' : InvN cs (oI sm 0 0) n g := hI
  obtain ⟨h8, h6, hn, hg, -⟩ := id hI.1
  have hn' : (oI sm 0 0).2.2.1 10 0 = nI n := hI.2.1.1
  obtain ⟨s1, s2, -⟩ := inv_sh hI'
  obtain ⟨l1, l2⟩ := inv_left hI
  have hsg : f12_signs (oI sm 0 0) = some (nI g) := by rw [← hI.2.1.2.1]; rfl
  have h2g : 2 ^ g ≤ 64 := Nat.pow_le_pow_right (n := 2) (i := g) (j := 6) (by omega) h6
  obtain ⟨T, hT⟩ : ∃ T : Nat → Bool, T = fun k => decide ((f6_doubtful (nI k) ((cs 10).1 0) (cs 8)).getD 0 = 0) := ⟨_, rfl⟩
  have hTc : ∀ k, ∃ D, f6_doubtful (nI k) ((cs 10).1 0) (cs 8) = some D ∧ (D = 0 ↔ T k = true) := fun k => by
    obtain ⟨D, e, hD⟩ := s6_doubtful hn h8 s1 k ((cs 10).1 0)
    refine ⟨D, e, ?_⟩
    rw [hT]
    simp only [e, Option.getD_some, decide_eq_true_eq]
  have hTm : ∀ k, f12_tellsAll (nI k) (oI sm 0 0) = some (if T k then 1 else 0) := fun k => by
    obtain ⟨D, e, hD⟩ := s6_doubtful hn h8 s1 k ((cs 10).1 0)
    obtain ⟨t, e2, t1, t2⟩ := s12_tellsAll (sg := k) hn' h8 s2 l1
    rw [← db_alk hD h8 (fun w hw => (s1 w hw).2)] at t2
    obtain ⟨D', e', hD'⟩ := hTc k
    have : D' = D := Option.some.inj (e'.symm.trans e)
    subst this
    rw [hD'] at t2
    rw [e2]
    cases hk : T k
    · rw [hk] at t2
      rcases t1 with h | h
      · rw [h]; rfl
      · exact absurd (t2.mp h) (by decide)
    · rw [hk] at t2
      rw [t2.mpr rfl]; rfl
  have cntlt : ∀ a b : Int32, (nI (cnt a) ≤ nI (cnt b)) ↔ ¬ cnt b < cnt a := fun a b => by
    have := cnt_le a; have := cnt_le b
    rw [nI_leI (by omega) (by omega)]; omega
  refine ⟨fl (telF T) (2 ^ g) (-1), oI sm 0 0, ?_, ?_, n, g, hI'⟩
  · unfold f11_tell f6_tellingSigns
    have hl := loop_fl (fun m k a => f6_tellingSigns_4 m ((cs 10).1 0) a (nI k) (cs 8)) (telF T) some (2 ^ g) (-1)
      (by
        intro m
        show f6_tellingSigns_4 (m + 1) _ _ (nI (2 ^ g)) _ = _
        rw [f6_tellingSigns_4, hg, shl1 g (by omega), if_pos (nI_le (Nat.le_refl _) (by omega))])
      (by
        intro m k hk
        show f6_tellingSigns_4 (m + 1) _ _ (nI k) _ = f6_tellingSigns_4 m _ _ (nI (k + 1)) _
        obtain ⟨D, e, hD⟩ := hTc k
        obtain ⟨a, ha⟩ : ∃ a, a = fl (telF T) k (-1) := ⟨_, rfl⟩
        rw [← ha]
        rw [f6_tellingSigns_4, hg, shl1 g (by omega), if_neg (nI_ge hk (by omega))]
        unfold f6_tellingSigns_30 f6_tellingSigns_35 f6_tellingSigns_55
        rw [sj_bitCount, bd_s, sj_bitCount, bd_s, e, bd_s]
        simp only [lt_e, nI_1, cntlt, lgc_eq, hD]
        rw [if_neg (show ¬ (1 : Int32) = 0 by decide)]
        unfold telF
        by_cases c1 : a = -1
        · cases hk2 : T k <;> simp [c1]
        · by_cases c2 : cnt (nI k) < cnt a
          · cases hk2 : T k <;> simp [c1, c2]
          · cases hk2 : T k <;> simp [c1, c2])
      FU 0 (Nat.zero_le _) (FU_lt (by omega))
    have hl' : f6_tellingSigns_4 FU ((cs 10).1 0) (-1) 0 (cs 8) = _ := hl
    rw [hl', bd_s]
  · unfold f12_tell
    rw [lt_e]
    refine loop_fl (fun m k a => f12_tell_9 m a (nI k) (oI sm 0 0)) (telF T) (fun a => some (a, oI sm 0 0)) (2 ^ g) (-1) ?_ ?_ FU 0 (Nat.zero_le _) (FU_lt (by omega))
    · intro m
      show f12_tell_9 (m + 1) _ (nI (2 ^ g)) _ = _
      rw [f12_tell_9, hsg, bd_s, shl1 g (by omega), if_pos (nI_le (Nat.le_refl _) (by omega))]
    · intro m k hk
      show f12_tell_9 (m + 1) _ (nI k) _ = f12_tell_9 m _ (nI (k + 1)) _
      have hneg := tel_neg (T := T) (j := k) (by omega)
      obtain ⟨a, ha⟩ : ∃ a, a = fl (telF T) k (-1) := ⟨_, rfl⟩
      rw [← ha] at hneg ⊢
      rw [f12_tell_9, hsg, bd_s, shl1 g (by omega), if_neg (nI_ge hk (by omega))]
      unfold f12_tell_34 f12_tell_46 f12_tell_47
      rw [s12_bits, bd_s, s12_bits, bd_s, hTm, bd_s]
      simp only [lt_e, nI_1, cntlt, ib_0, hneg]
      unfold telF
      by_cases c1 : a = -1
      · cases hk2 : T k <;> simp [c1]
      · by_cases c2 : cnt (nI k) < cnt a
        · cases hk2 : T k <;> simp [c1, c2]
        · cases hk2 : T k <;> simp [c1, c2]
