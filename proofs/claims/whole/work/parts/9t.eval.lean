/-! pure: codes worked out -/
def StkF (f : Nat → Int32) : List Int32 → Prop
  | [] => True
  | v :: s => f s.length = v ∧ StkF f s
theorem stk_upd {f : Nat → Int32} {v : Int32} : ∀ {s : List Int32} {j : Nat}, s.length ≤ j → StkF f s → StkF (upd f j v) s
  | [], _, _, _ => trivial
  | a :: s, j, h, ⟨h1, h2⟩ => ⟨by
      have h' : s.length + 1 ≤ j := h
      rw [pk_un (by omega)]; exact h1, stk_upd (s := s) (by have h' : s.length + 1 ≤ j := h; omega) h2⟩
def RelL (R : Int32 → Int32 → Prop) : List Int32 → List Int32 → Prop
  | [], [] => True
  | a :: s, b :: t => R a b ∧ RelL R s t
  | _, _ => False
theorem rel_run {R : Int32 → Int32 → Prop} {E1 E2 : Nat × Nat → Int32} {un1 un2 : Int32 → Int32} {bi1 bi2 : Nat → Int32 → Int32 → Int32} {l1 l2 : Nat} (hun : ∀ a b, R a b → R (un1 a) (un2 b)) : ∀ (L : List (Nat × Nat)), (∀ x, x ∈ L → lfB x.1 = true → R (E1 x) (E2 x)) → (∀ x, x ∈ L → ∀ a b c d, R a b → R c d → R (bi1 x.1 a c) (bi2 x.1 b d)) → ∀ s1 s2 o1 o2, RelL R s1 s2 → runA E1 un1 bi1 l1 L s1 = some o1 → runA E2 un2 bi2 l2 L s2 = some o2 → RelL R o1 o2 := by
  intro L
  induction L with
  | nil =>
    intro hE hbi s1 s2 o1 o2 hs h1 h2
    rw [← Option.some.inj h1, ← Option.some.inj h2]; exact hs
  | cons x L ih =>
    intro hE hbi s1 s2 o1 o2 hs h1 h2
    have ih' := ih (fun y hy => hE y (List.mem_cons_of_mem _ hy)) (fun y hy => hbi y (List.mem_cons_of_mem _ hy))
    have hx : x ∈ x :: L := List.mem_cons_self
    rw [runA_c] at h1 h2
    by_cases c1 : lfB x.1 = true
    · rw [if_pos c1] at h1 h2
      by_cases d1 : s1.length < l1
      · by_cases d2 : s2.length < l2
        · rw [if_pos d1] at h1
          rw [if_pos d2] at h2
          exact ih' _ _ _ _ (show RelL R (E1 x :: s1) (E2 x :: s2) from ⟨hE x hx c1, hs⟩) h1 h2
        · rw [if_neg d2] at h2; exact absurd h2 (by simp)
      · rw [if_neg d1] at h1; exact absurd h1 (by simp)
    · rw [if_neg c1] at h1 h2
      by_cases c3 : x.1 = 3
      · rw [if_pos c3] at h1 h2
        match s1, s2, hs with
        | a :: s, b :: t, hs => exact ih' _ _ _ _ (show RelL R (un1 a :: s) (un2 b :: t) from ⟨hun a b hs.1, hs.2⟩) h1 h2
        | [], _, _ => exact absurd h1 (by simp)
      · rw [if_neg c3] at h1 h2
        match s1, s2, hs with
        | b :: a :: s, b' :: a' :: t, hs => exact ih' _ _ _ _ (show RelL R (bi1 x.1 a b :: s) (bi2 x.1 a' b' :: t) from ⟨hbi x hx a a' b b' hs.2.1 hs.1, hs.2.2⟩) h1 h2
        | [], _, _ => exact absurd h1 (by simp)
        | [a], _, _ => exact absurd h1 (by simp)
        | _ :: _ :: _, [b], hs => exact absurd hs.2 (fun h => h)
theorem wf_rel {R : Int32 → Int32 → Prop} {E1 E2 : Nat × Nat → Int32} {un1 un2 : Int32 → Int32} {bi1 bi2 : Nat → Int32 → Int32 → Int32} {L : List (Nat × Nat)} {h : Nat} (hw : WfA L h) (h64 : h ≤ 64) (hun : ∀ a b, R a b → R (un1 a) (un2 b)) (hE : ∀ x, x ∈ L → lfB x.1 = true → R (E1 x) (E2 x)) (hbi : ∀ x, x ∈ L → ∀ a b c d, R a b → R c d → R (bi1 x.1 a c) (bi2 x.1 b d)) : ∃ v1 v2, runA E1 un1 bi1 64 L [] = some [v1] ∧ runA E2 un2 bi2 1100 L [] = some [v2] ∧ R v1 v2 := by
  obtain ⟨v1, e1⟩ := hw E1 un1 bi1
  obtain ⟨v2, e2⟩ := hw E2 un2 bi2
  have a1 := e1 [] 64 (by show 0 + h ≤ 64; omega)
  have a2 := e2 [] 1100 (by show 0 + h ≤ 1100; omega)
  exact ⟨v1, v2, a1, a2, (rel_run hun L hE hbi [] [] _ _ trivial a1 a2).1⟩
/-- the class's stack -/
def FrS (A B : Ob) : Prop := (∀ k, k ≠ 4 → B.1 k = A.1 k) ∧ B.2.1 = A.2.1 ∧ (∀ k, k ≠ 2 → B.2.2.1 k = A.2.2.1 k) ∧ B.2.2.2 = A.2.2.2
theorem FrS_refl (A : Ob) : FrS A A := ⟨fun _ _ => rfl, rfl, fun _ _ => rfl, rfl⟩
theorem FrS_tr {A B D : Ob} (h1 : FrS A B) (h2 : FrS B D) : FrS A D := ⟨fun k a => (h2.1 k a).trans (h1.1 k a), h2.2.1.trans h1.2.1, fun k a => (h2.2.2.1 k a).trans (h1.2.2.1 k a), h2.2.2.2.trans h1.2.2.2⟩
def StkC (SC : Ob) (s : List Int32) : Prop := SC.1 4 = nI s.length ∧ StkF (SC.2.2.1 2) s
theorem c_push {SC : Ob} {s : List Int32} (h : StkC SC s) (hl : s.length < 64) (v : Int32) : ∃ SC', f2_push v SC = some SC' ∧ StkC SC' (v :: s) ∧ FrS SC SC' := by
  unfold f2_push f2_push_32
  rw [h.1, if_neg (show ¬ (64 : Int32) ≤ nI s.length from nI_ge (b := 64) hl (by omega)), inb_nI hl (by omega), ck_t, lt_e, lt_e, nI_clamp (by omega)]
  refine ⟨_, rfl, ⟨?_, ?_, ?_⟩, ⟨fun k hk => va_ne _ hk _, rfl, fun k hk => va_ne _ hk _, rfl⟩⟩
  · show SC.1 4 + 1 = _
    rw [h.1, nI_1]; rfl
  · exact pk_us
  · exact stk_upd (Nat.le_refl _) h.2
theorem c_pop {SC : Ob} {s : List Int32} {v : Int32} (h : StkC SC (v :: s)) (hl : s.length < 64) : ∃ SC', f2_pop SC = some (v, SC') ∧ StkC SC' s ∧ FrS SC SC' := by
  have h4 : SC.1 4 = nI (s.length + 1) := h.1
  unfold f2_pop
  rw [h4, if_pos (show (0 : Int32) < nI (s.length + 1) from nI_lt (a := 0) (by omega) (by omega)), nI_dec (by omega) (by omega), lt_e]
  have e : (oI SC 4 (nI (s.length + 1 - 1))).1 4 = nI s.length := by show nI (s.length + 1 - 1) = _; rw [Nat.add_sub_cancel]
  rw [e, inb_nI hl (by omega), ck_t, nI_clamp (by omega)]
  refine ⟨oI SC 4 (nI (s.length + 1 - 1)), ?_, ⟨e, h.2.2⟩, ⟨fun k hk => va_ne _ hk _, rfl, fun k hk => rfl, rfl⟩⟩
  rw [show (oI SC 4 (nI (s.length + 1 - 1))).2.2.1 2 s.length = v from h.2.1]
def CdAt (SC : Ob) (s : Nat) (L : List (Nat × Nat)) : Prop := ∀ k x, L[k]? = some x → SC.2.2.1 0 (s + k) = nI (ckN x) ∧ (x.1 ≠ 12 → SC.2.2.1 1 (s + k) = nI (cpN x))
theorem CdAt_tl {SC SC' : Ob} {s : Nat} {x : Nat × Nat} {L : List (Nat × Nat)} (h : CdAt SC s (x :: L)) (hf : FrS SC SC') : CdAt SC' (s + 1) L := fun k y hy => by
  have := h (k + 1) y (by simpa using hy)
  rw [show s + 1 + k = s + (k + 1) by omega, hf.2.2.1 0 (by omega), hf.2.2.1 1 (by omega)]
  exact this
def biW (op : Nat) (a b : Int32) : Int32 := if op = 4 then a &&& b else a ||| b
theorem c_worlds {SI : Ob} {E : Nat × Nat → Int32} : ∀ (L : List (Nat × Nat)) (pos m : Nat) (SC : Ob) (s o : List Int32), L.length + 1 < m → pos + L.length ≤ 1000 → CdAt SC pos L → (∀ x, x ∈ L → x.1 ≤ 5 ∧ (x.1 = 0 → x.2 < 8 ∧ f4_worldsBy (nI (18 + x.2)) SI = some (E x)) ∧ (x.1 = 1 → f4_worldsOf (nI x.2) SI = some (E x)) ∧ (x.1 = 2 → f4_worldsShowing (nI x.2) 1 SI = some (E x))) → StkC SC s → s.length ≤ 64 → runA E (fun a => a ^^^ (-1)) biW 64 L s = some o → ∃ SC', f2_worlds_8 m (nI (pos + L.length)) (nI pos) SC SI = f2_worlds_161 SC' SI ∧ StkC SC' o ∧ o.length ≤ 64 ∧ FrS SC SC' := by
  intro L
  induction L with
  | nil =>
    intro pos m SC s o hm hp hc hE hs hl hr
    obtain ⟨m, rfl⟩ : ∃ k, m = k + 1 := ⟨m - 1, by omega⟩
    rw [← Option.some.inj hr]
    refine ⟨SC, ?_, hs, hl, FrS_refl _⟩
    rw [f2_worlds_8, if_pos (nI_le (by show pos + 0 ≤ pos; omega) (by have : pos + 0 ≤ 1000 := hp; omega))]
  | cons x L ih =>
    intro pos m SC s o hm hp hc hE hs hl hr
    obtain ⟨m, rfl⟩ : ∃ k, m = k + 1 := ⟨m - 1, by omega⟩
    have hL : (x :: L).length = L.length + 1 := rfl
    rw [hL] at hm hp
    have e0 := (hc 0 x rfl).1
    have e1 := (hc 0 x rfl).2
    rw [Nat.add_zero] at e0 e1
    have next : ∀ SC' s', FrS SC SC' → StkC SC' s' → s'.length ≤ 64 → runA E (fun a => a ^^^ (-1)) biW 64 L s' = some o → ∃ SC2, f2_worlds_155 (f2_worlds_8 m) (nI (pos + (x :: L).length)) (nI pos) SC' SI = f2_worlds_161 SC2 SI ∧ StkC SC2 o ∧ o.length ≤ 64 ∧ FrS SC SC2 := by
      intro SC' s' hf hs' hl' hr'
      obtain ⟨SC2, g1, g2, g3, g4⟩ := ih (pos + 1) m SC' s' o (by omega) (by omega) (CdAt_tl hc hf) (fun y hy => hE y (List.mem_cons_of_mem _ hy)) hs' hl' hr'
      refine ⟨SC2, ?_, g2, g3, FrS_tr hf g4⟩
      unfold f2_worlds_155
      rw [lt_e, nI_1, hL, show pos + (L.length + 1) = pos + 1 + L.length by omega, g1]
    rw [f2_worlds_8, if_neg (show ¬ nI (pos + (x :: L).length) ≤ nI pos from nI_ge (by rw [hL]; omega) (by rw [hL]; omega)), if_neg (show ¬ (1000 : Int32) ≤ nI pos from nI_ge (b := 1000) (by omega) (by omega)), inb_nI (by omega) (by omega), ck_t, lt_e, nI_clamp (by omega), e0]
    obtain ⟨h5, k0, k1, k2⟩ := hE x List.mem_cons_self
    obtain ⟨a, b⟩ := x
    rw [runA_c] at hr
    have leaf : ∀ v, lfB a = true → E (a, b) = v → ∃ SC', (bd (f2_push v SC) fun q => f2_worlds_155 (f2_worlds_8 m) (nI (pos + ((a, b) :: L).length)) (nI pos) q SI) = f2_worlds_161 SC' SI ∧ StkC SC' o ∧ o.length ≤ 64 ∧ FrS SC SC' := by
      intro v hv he
      rw [if_pos hv] at hr
      by_cases hl2 : s.length < 64
      · rw [if_pos hl2] at hr
        obtain ⟨SC', p1, p2, p3⟩ := c_push hs hl2 v
        rw [p1, bd_s]
        exact next SC' (v :: s) p3 p2 hl2 (by rw [← he]; exact hr)
      · rw [if_neg hl2] at hr; exact absurd hr (by simp)
    have h5' : a ≤ 5 := h5
    rcases (show a = 0 ∨ a = 1 ∨ a = 2 ∨ a = 3 ∨ a = 4 ∨ a = 5 by omega) with rfl | rfl | rfl | rfl | rfl | rfl
    · obtain ⟨hb, hw⟩ := k0 rfl
      have hb' : b < 8 := hb
      have ek : ckN (0, b) = 18 + b := rfl
      rw [ek, if_neg (show ¬ nI (18 + b) = 26 from fun h => by have := (nI_eq (b := 26) (by omega) (by omega)).mp h; omega), if_neg (show ¬ nI (18 + b) = 27 from fun h => by have := (nI_eq (b := 27) (by omega) (by omega)).mp h; omega), if_neg (show ¬ nI (18 + b) = 28 from fun h => by have := (nI_eq (b := 28) (by omega) (by omega)).mp h; omega), if_neg (show ¬ nI (18 + b) = 0 from nI_ne0 (by omega) (by omega)), if_neg (show ¬ nI (18 + b) = 3 from fun h => by have := (nI_eq (b := 3) (by omega) (by omega)).mp h; omega), hw, bd_s]
      exact leaf _ rfl rfl
    · rw [if_neg (show ¬ nI (ckN (1, b)) = 26 from (by decide : ¬ nI 0 = 26)), if_neg (show ¬ nI (ckN (1, b)) = 27 from (by decide : ¬ nI 0 = 27)), if_neg (show ¬ nI (ckN (1, b)) = 28 from (by decide : ¬ nI 0 = 28)), if_pos (show nI (ckN (1, b)) = 0 from rfl), e1 (show (1 : Nat) ≠ 12 by omega), show nI (cpN (1, b)) = nI b from rfl, ck_t, k1 rfl, bd_s]
      exact leaf _ rfl rfl
    · rw [if_neg (show ¬ nI (ckN (2, b)) = 26 from (by decide : ¬ nI 3 = 26)), if_neg (show ¬ nI (ckN (2, b)) = 27 from (by decide : ¬ nI 3 = 27)), if_neg (show ¬ nI (ckN (2, b)) = 28 from (by decide : ¬ nI 3 = 28)), if_neg (show ¬ nI (ckN (2, b)) = 0 from (by decide : ¬ nI 3 = 0)), if_pos (show nI (ckN (2, b)) = 3 from rfl), e1 (show (2 : Nat) ≠ 12 by omega), show nI (cpN (2, b)) = nI b from rfl, ck_t, k2 rfl, bd_s]
      exact leaf _ rfl rfl
    · rw [if_pos (show nI (ckN (3, b)) = 26 from rfl)]
      match s, hs, hl, hr with
      | v :: s, hs, hl, hr =>
        have hl' : s.length < 64 := hl
        obtain ⟨SC1, p1, p2, p3⟩ := c_pop hs hl'
        obtain ⟨SC2, q1, q2, q3⟩ := c_push p2 hl' (v ^^^ (-1))
        rw [p1, bd_s]
        show ∃ SC', (bd (f2_push (v ^^^ (-1)) SC1) fun r_38 => f2_worlds_155 (f2_worlds_8 m) (nI (pos + ((3, b) :: L).length)) (nI pos) r_38 SI) = _ ∧ _
        rw [q1, bd_s]
        exact next SC2 _ (FrS_tr p3 q3) q2 hl' hr
      | [], hs, hl, hr => exact absurd hr (by simp [lfB])
    · rw [if_neg (show ¬ nI (ckN (4, b)) = 26 from (by decide : ¬ nI 27 = 26)), if_pos (show nI (ckN (4, b)) = 27 from rfl)]
      match s, hs, hl, hr with
      | v :: w :: s, hs, hl, hr =>
        have hl' : s.length + 1 < 64 := hl
        obtain ⟨SC1, p1, p2, p3⟩ := c_pop hs (show (w :: s).length < 64 from hl')
        obtain ⟨SC2, q1, q2, q3⟩ := c_pop p2 (show s.length < 64 by omega)
        obtain ⟨SC3, u1, u2, u3⟩ := c_push q2 (show s.length < 64 by omega) (v &&& w)
        rw [p1, bd_s]
        show ∃ SC', (bd (f2_pop SC1) fun r_32 => bd (f2_push (v &&& r_32.1) r_32.2) fun r_34 => f2_worlds_155 (f2_worlds_8 m) (nI (pos + ((4, b) :: L).length)) (nI pos) r_34 SI) = _ ∧ _
        rw [q1, bd_s]
        show ∃ SC', (bd (f2_push (v &&& w) SC2) fun r_34 => f2_worlds_155 (f2_worlds_8 m) (nI (pos + ((4, b) :: L).length)) (nI pos) r_34 SI) = _ ∧ _
        rw [u1, bd_s]
        exact next SC3 _ (FrS_tr p3 (FrS_tr q3 u3)) u2 (by show s.length + 1 ≤ 64; omega) (by rw [Int32.and_comm]; exact hr)
      | [], hs, hl, hr => exact absurd hr (by simp [lfB])
      | [a], hs, hl, hr => exact absurd hr (by simp [lfB])
    · rw [if_neg (show ¬ nI (ckN (5, b)) = 26 from (by decide : ¬ nI 28 = 26)), if_neg (show ¬ nI (ckN (5, b)) = 27 from (by decide : ¬ nI 28 = 27)), if_pos (show nI (ckN (5, b)) = 28 from rfl)]
      match s, hs, hl, hr with
      | v :: w :: s, hs, hl, hr =>
        have hl' : s.length + 1 < 64 := hl
        obtain ⟨SC1, p1, p2, p3⟩ := c_pop hs (show (w :: s).length < 64 from hl')
        obtain ⟨SC2, q1, q2, q3⟩ := c_pop p2 (show s.length < 64 by omega)
        obtain ⟨SC3, u1, u2, u3⟩ := c_push q2 (show s.length < 64 by omega) (v ||| w)
        rw [p1, bd_s]
        show ∃ SC', (bd (f2_pop SC1) fun r_32 => bd (f2_push (v ||| r_32.1) r_32.2) fun r_34 => f2_worlds_155 (f2_worlds_8 m) (nI (pos + ((5, b) :: L).length)) (nI pos) r_34 SI) = _ ∧ _
        rw [q1, bd_s]
        show ∃ SC', (bd (f2_push (v ||| w) SC2) fun r_34 => f2_worlds_155 (f2_worlds_8 m) (nI (pos + ((5, b) :: L).length)) (nI pos) r_34 SI) = _ ∧ _
        rw [u1, bd_s]
        exact next SC3 _ (FrS_tr p3 (FrS_tr q3 u3)) u2 (by show s.length + 1 ≤ 64; omega) (by rw [Int32.or_comm]; exact hr)
      | [], hs, hl, hr => exact absurd hr (by simp [lfB])
      | [a], hs, hl, hr => exact absurd hr (by simp [lfB])
