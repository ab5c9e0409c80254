/-! pure: what is put behind another; chains of the grammar -/
/-- 0 fact, 1 guest, 2 sign, 3 not, 4 and, 5 or, 6 *, 7 +, 8 -, 9 <, 10 =, 11 number, 12 fact of bill -/
def ckN (x : Nat × Nat) : Nat := if x.1 = 0 then 18 + x.2 else if x.1 = 1 then 0 else if x.1 = 2 then 3 else if x.1 = 3 then 26 else if x.1 = 4 then 27 else if x.1 = 5 then 28 else if x.1 = 6 then 42 else if x.1 = 7 then 43 else if x.1 = 8 then 45 else if x.1 = 9 then 60 else if x.1 = 10 then 61 else if x.1 = 11 then 33 else 29 + x.2
def cpN (x : Nat × Nat) : Nat := if x.1 = 1 ∨ x.1 = 2 ∨ x.1 = 11 then x.2 else 0
def roN (x : Nat × Nat) : Nat := if x.1 = 0 then 2 else if x.1 = 1 then 1 else if x.1 = 2 then 1 else if x.1 = 3 then 3 else if x.1 = 4 then 9 else if x.1 = 5 then 10 else if x.1 = 6 then 6 else if x.1 = 7 then 4 else if x.1 = 8 then 5 else if x.1 = 9 then 7 else if x.1 = 10 then 8 else if x.1 = 11 then 1 else 2
def raN (x : Nat × Nat) : Nat := if x.1 = 2 then 20 + x.2 else if x.1 = 0 ∨ x.1 = 1 ∨ x.1 = 11 ∨ x.1 = 12 then x.2 else 0
def lfB (a : Nat) : Bool := decide (a < 3 ∨ 11 ≤ a)
def runA (E : Nat × Nat → Int32) (un : Int32 → Int32) (bi : Nat → Int32 → Int32 → Int32) (lim : Nat) : List (Nat × Nat) → List Int32 → Option (List Int32)
  | [], stk => some stk
  | x :: L, stk => if lfB x.1 then (if stk.length < lim then runA E un bi lim L (E x :: stk) else none) else if x.1 = 3 then (match stk with
      | a :: s => runA E un bi lim L (un a :: s)
      | [] => none) else (match stk with
      | b :: a :: s => runA E un bi lim L (bi x.1 a b :: s)
      | _ => none)
theorem runA_c (E : Nat × Nat → Int32) (un : Int32 → Int32) (bi : Nat → Int32 → Int32 → Int32) (lim : Nat) (x : Nat × Nat) (L : List (Nat × Nat)) (stk : List Int32) : runA E un bi lim (x :: L) stk = if lfB x.1 then (if stk.length < lim then runA E un bi lim L (E x :: stk) else none) else if x.1 = 3 then (match stk with
      | a :: s => runA E un bi lim L (un a :: s)
      | [] => none) else (match stk with
      | b :: a :: s => runA E un bi lim L (bi x.1 a b :: s)
      | _ => none) := rfl
theorem runA_app (E : Nat × Nat → Int32) (un : Int32 → Int32) (bi : Nat → Int32 → Int32 → Int32) (lim : Nat) : ∀ L1 L2 stk r, runA E un bi lim L1 stk = some r → runA E un bi lim (L1 ++ L2) stk = runA E un bi lim L2 r := by
  intro L1
  induction L1 with
  | nil => intro L2 stk r h; rw [show r = stk from (Option.some.inj h).symm]; rfl
  | cons x L ih =>
    intro L2 stk r h
    rw [List.cons_append]
    rw [runA_c] at h ⊢
    by_cases h1 : lfB x.1 = true
    · rw [if_pos h1] at h ⊢
      by_cases h2 : stk.length < lim
      · rw [if_pos h2] at h ⊢
        exact ih L2 _ r h
      · rw [if_neg h2] at h; exact absurd h (by simp)
    · rw [if_neg h1] at h ⊢
      by_cases h3 : x.1 = 3
      · rw [if_pos h3] at h ⊢
        cases stk with
        | nil => exact absurd h (by simp)
        | cons a s => exact ih L2 _ r h
      · rw [if_neg h3] at h ⊢
        match stk with
        | [] => exact absurd h (by simp)
        | [a] => exact absurd h (by simp)
        | b :: a :: s => exact ih L2 _ r h
def WfA (L : List (Nat × Nat)) (h : Nat) : Prop := ∀ E un bi, ∃ v, ∀ stk lim, stk.length + h ≤ lim → runA E un bi lim L stk = some (v :: stk)
theorem wf_leaf {x : Nat × Nat} (hx : lfB x.1 = true) {h : Nat} (hh : 1 ≤ h) : WfA [x] h := fun E un bi => ⟨E x, fun stk lim hl => by
  rw [runA_c, if_pos hx, if_pos (by omega)]
  rfl⟩
theorem wf_un {L : List (Nat × Nat)} {h : Nat} (hL : WfA L h) : WfA (L ++ [(3, 0)]) h := fun E un bi => by
  obtain ⟨v, hv⟩ := hL E un bi
  refine ⟨un v, fun stk lim hl => ?_⟩
  rw [runA_app E un bi lim L _ stk _ (hv stk lim hl)]
  rfl
theorem wf_bi {L1 L2 : List (Nat × Nat)} {h1 h2 h b : Nat} (w1 : WfA L1 h1) (w2 : WfA L2 h2) (hb : lfB b = false) (hb3 : b ≠ 3) (e1 : h1 ≤ h) (e2 : h2 + 1 ≤ h) : WfA (L1 ++ L2 ++ [(b, 0)]) h := fun E un bi => by
  obtain ⟨v1, hv1⟩ := w1 E un bi
  obtain ⟨v2, hv2⟩ := w2 E un bi
  refine ⟨bi b v1 v2, fun stk lim hl => ?_⟩
  rw [List.append_assoc, runA_app E un bi lim L1 _ stk _ (hv1 stk lim (by omega)), runA_app E un bi lim L2 _ _ _ (hv2 (v1 :: stk) lim (by show stk.length + 1 + h2 ≤ lim; omega))]
  rw [runA_c, if_neg (by rw [hb]; decide), if_neg hb3]
  rfl
theorem wf_mono {L : List (Nat × Nat)} {h h' : Nat} (w : WfA L h) (e : h ≤ h') : WfA L h' := fun E un bi => by
  obtain ⟨v, hv⟩ := w E un bi
  exact ⟨v, fun stk lim hl => hv stk lim (by omega)⟩
def LvA (n g : Nat) (L : List (Nat × Nat)) : Prop := ∀ x ∈ L, x.1 ≤ 12 ∧ (n ≤ 8 → x.1 ≤ 5) ∧ (8 < n → 3 ≤ x.1) ∧ (x.1 = 0 → x.2 < 8) ∧ (x.1 = 1 → x.2 < n) ∧ (x.1 = 2 → x.2 < g) ∧ (x.1 = 11 → x.2 ≤ 9999) ∧ (x.1 = 12 → x.2 < 3)
theorem lv_app {n g : Nat} {L1 L2 : List (Nat × Nat)} (h1 : LvA n g L1) (h2 : LvA n g L2) : LvA n g (L1 ++ L2) := fun x hx => by
  rcases List.mem_append.mp hx with h | h
  · exact h1 x h
  · exact h2 x h
theorem lv_op {n g b : Nat} (h1 : 3 ≤ b) (h2 : b ≤ 10) (h3 : n ≤ 8 → b ≤ 5) : LvA n g [(b, 0)] := fun x hx => by
  have : x = (b, 0) := by simpa using hx
  subst this
  exact ⟨by show b ≤ 12; omega, h3, fun _ => h1, fun h => absurd (show b = 0 from h) (by omega), fun h => absurd (show b = 1 from h) (by omega), fun h => absurd (show b = 2 from h) (by omega), fun h => absurd (show b = 11 from h) (by omega), fun h => absurd (show b = 12 from h) (by omega)⟩
def CdA (SC SC' : Ob) (s : Nat) (L : List (Nat × Nat)) : Prop := SC'.1 3 = nI (s + L.length) ∧ (∀ k, k < s → SC'.2.2.1 0 k = SC.2.2.1 0 k ∧ SC'.2.2.1 1 k = SC.2.2.1 1 k) ∧ ∀ k x, L[k]? = some x → SC'.2.2.1 0 (s + k) = nI (ckN x) ∧ (x.1 ≠ 12 → SC'.2.2.1 1 (s + k) = nI (cpN x))
def CdB (SM SM' : Ob) (r : Nat) (L : List (Nat × Nat)) : Prop := SM'.1 13 = nI (r + L.length) ∧ (∀ k, k < 2200 + r → SM'.2.2.1 11 k = SM.2.2.1 11 k ∧ SM'.2.2.1 12 k = SM.2.2.1 12 k) ∧ ∀ k x, L[k]? = some x → SM'.2.2.1 11 (2200 + r + k) = nI (roN x) ∧ SM'.2.2.1 12 (2200 + r + k) = nI (raN x)
theorem CdA_nil {SC : Ob} {s : Nat} (h : SC.1 3 = nI s) : CdA SC SC s [] := ⟨h, fun _ _ => ⟨rfl, rfl⟩, fun k x hx => absurd hx (by simp)⟩
theorem CdB_nil {SM : Ob} {r : Nat} (h : SM.1 13 = nI r) : CdB SM SM r [] := ⟨h, fun _ _ => ⟨rfl, rfl⟩, fun k x hx => absurd hx (by simp)⟩
theorem CdA_app {A B D : Ob} {s : Nat} {L1 L2 : List (Nat × Nat)} (h1 : CdA A B s L1) (h2 : CdA B D (s + L1.length) L2) : CdA A D s (L1 ++ L2) := by
  obtain ⟨a1, a2, a3⟩ := h1
  obtain ⟨b1, b2, b3⟩ := h2
  refine ⟨by rw [List.length_append, ← Nat.add_assoc]; exact b1, fun k hk => ?_, fun k x hx => ?_⟩
  · obtain ⟨c1, c2⟩ := b2 k (by omega)
    obtain ⟨d1, d2⟩ := a2 k hk
    exact ⟨c1.trans d1, c2.trans d2⟩
  · by_cases hk : k < L1.length
    · rw [List.getElem?_append_left hk] at hx
      obtain ⟨c1, c2⟩ := b2 (s + k) (by omega)
      obtain ⟨d1, d2⟩ := a3 k x hx
      exact ⟨c1.trans d1, fun h => c2.trans (d2 h)⟩
    · rw [List.getElem?_append_right (by omega)] at hx
      have := b3 (k - L1.length) x hx
      rw [show s + L1.length + (k - L1.length) = s + k by omega] at this
      exact this
theorem CdB_app {A B D : Ob} {r : Nat} {L1 L2 : List (Nat × Nat)} (h1 : CdB A B r L1) (h2 : CdB B D (r + L1.length) L2) : CdB A D r (L1 ++ L2) := by
  obtain ⟨a1, a2, a3⟩ := h1
  obtain ⟨b1, b2, b3⟩ := h2
  refine ⟨by rw [List.length_append, ← Nat.add_assoc]; exact b1, fun k hk => ?_, fun k x hx => ?_⟩
  · obtain ⟨c1, c2⟩ := b2 k (by omega)
    obtain ⟨d1, d2⟩ := a2 k hk
    exact ⟨c1.trans d1, c2.trans d2⟩
  · by_cases hk : k < L1.length
    · rw [List.getElem?_append_left hk] at hx
      obtain ⟨c1, c2⟩ := b2 (2200 + r + k) (by omega)
      obtain ⟨d1, d2⟩ := a3 k x hx
      exact ⟨c1.trans d1, c2.trans d2⟩
    · rw [List.getElem?_append_right (by omega)] at hx
      have := b3 (k - L1.length) x hx
      rw [show 2200 + (r + L1.length) + (k - L1.length) = 2200 + r + k by omega] at this
      exact this
theorem c_put {SC : Ob} {s : Nat} (h : SC.1 3 = nI s) (hs : s < 1000) {x : Nat × Nat} {p : Int32} (hp : x.1 ≠ 12 → p = nI (cpN x)) : ∃ SC', f2_put (nI (ckN x)) p SC = some SC' ∧ CdA SC SC' s [x] := by
  unfold f2_put f2_put_40
  rw [h, if_neg (show ¬ (1000 : Int32) ≤ nI s from nI_ge (b := 1000) hs (by omega)), inb_nI hs (by omega), ck_t, lt_e]
  have e : (oA SC 0 (Int32.toNatClampNeg (nI s)) (nI (ckN x))).1 3 = nI s := h
  rw [e, inb_nI hs (by omega), ck_t, lt_e, lt_e, nI_clamp (by omega)]
  refine ⟨_, rfl, ?_, fun k hk => ?_, fun k y hy => ?_⟩
  · show SC.1 3 + 1 = _
    rw [h, nI_1]; rfl
  · show upd (SC.2.2.1 0) s (nI (ckN x)) k = _ ∧ upd (SC.2.2.1 1) s p k = _
    rw [pk_un (by omega), pk_un (by omega)]; exact ⟨rfl, rfl⟩
  · have hk : k = 0 := by
      cases k with
      | zero => rfl
      | succ k => simp at hy
    subst hk
    have hxy : x = y := by simpa using hy
    subst hxy
    show upd (SC.2.2.1 0) s (nI (ckN x)) (s + 0) = _ ∧ (_ → upd (SC.2.2.1 1) s p (s + 0) = _)
    rw [Nat.add_zero, pk_us, pk_us]
    exact ⟨rfl, hp⟩
theorem c_put' {SC : Ob} {s : Nat} (h : SC.1 3 = nI s) (hs : s ≤ 1000) (k p : Int32) : ∃ SC' s', f2_put k p SC = some SC' ∧ SC'.1 3 = nI s' ∧ s' ≤ 1000 := by
  unfold f2_put f2_put_40
  rw [h]
  by_cases h1 : s = 1000
  · rw [if_pos (by rw [h1]; decide)]
    exact ⟨SC, s, rfl, h, hs⟩
  · rw [if_neg (show ¬ (1000 : Int32) ≤ nI s from nI_ge (b := 1000) (by omega) (by omega)), inb_nI (by omega) (by omega), ck_t, lt_e]
    have e : (oA SC 0 (Int32.toNatClampNeg (nI s)) k).1 3 = nI s := h
    rw [e, inb_nI (by omega) (by omega), ck_t, lt_e, lt_e]
    refine ⟨_, s + 1, rfl, ?_, by omega⟩
    show SC.1 3 + 1 = _
    rw [h, nI_1]
/-- what the reference leaves as it was -/
def FrF (A B : Ob) : Prop := (∀ k, k ≠ 7 → k ≠ 8 → k ≠ 13 → B.1 k = A.1 k) ∧ B.2.1 = A.2.1 ∧ (∀ k, k ≠ 11 → k ≠ 12 → B.2.2.1 k = A.2.2.1 k) ∧ B.2.2.2 = A.2.2.2 ∧ ∀ k, k < 2200 → B.2.2.1 11 k = A.2.2.1 11 k ∧ B.2.2.1 12 k = A.2.2.1 12 k
theorem FrF_refl (A : Ob) : FrF A A := ⟨fun _ _ _ _ => rfl, rfl, fun _ _ _ => rfl, rfl, fun _ _ => ⟨rfl, rfl⟩⟩
theorem FrF_tr {A B D : Ob} (h1 : FrF A B) (h2 : FrF B D) : FrF A D := ⟨fun k a b c => (h2.1 k a b c).trans (h1.1 k a b c), h2.2.1.trans h1.2.1, fun k a b => (h2.2.2.1 k a b).trans (h1.2.2.1 k a b), h2.2.2.2.1.trans h1.2.2.2.1, fun k hk => ⟨(h2.2.2.2.2 k hk).1.trans (h1.2.2.2.2 k hk).1, (h2.2.2.2.2 k hk).2.trans (h1.2.2.2.2 k hk).2⟩⟩
theorem FrF_I (A : Ob) {k : Nat} (hk : k = 7 ∨ k = 8 ∨ k = 13) (v : Int32) : FrF A (oI A k v) := ⟨fun j a b c => va_ne _ (by omega) _, rfl, fun _ _ _ => rfl, rfl, fun _ _ => ⟨rfl, rfl⟩⟩
theorem RfS_F {A B : Ob} {C : Nat → Nat} {t N : Nat} (h : RfS A C t N) (hf : FrF A B) : RfS B C t N := RfS_fr h (hf.2.2.1 4 (by omega) (by omega)) (hf.2.2.1 5 (by omega) (by omega)) (by rw [hf.2.2.2.1]) (by rw [hf.2.2.2.1])
theorem r_emit {SM : Ob} {r : Nat} (h : SM.1 13 = nI r) (hr : r < 1100) (a b : Int32) : ∃ SM', f12_emit a b SM = some SM' ∧ FrF SM SM' ∧ SM'.1 7 = SM.1 7 ∧ SM'.1 8 = SM.1 8 ∧ SM'.1 13 = nI (r + 1) ∧ (∀ k, k < 2200 + r → SM'.2.2.1 11 k = SM.2.2.1 11 k ∧ SM'.2.2.1 12 k = SM.2.2.1 12 k) ∧ SM'.2.2.1 11 (2200 + r) = a ∧ SM'.2.2.1 12 (2200 + r) = b := by
  unfold f12_emit
  have e1 : (2200 : Int32) + nI r = nI (2200 + r) := by rw [show (2200 : Int32) = nI 2200 from rfl, nI_add]
  rw [h, e1, inb_nI (by omega) (by omega), ck_t, lt_e]
  have e : (oA SM 11 (Int32.toNatClampNeg (nI (2200 + r))) a).1 13 = nI r := h
  rw [e, e1, inb_nI (by omega) (by omega), ck_t, lt_e, lt_e, nI_clamp (by omega)]
  have keep : ∀ k, k < 2200 + r → upd (SM.2.2.1 11) (2200 + r) a k = SM.2.2.1 11 k ∧ upd (SM.2.2.1 12) (2200 + r) b k = SM.2.2.1 12 k := fun k hk => ⟨pk_un (by omega), pk_un (by omega)⟩
  refine ⟨_, rfl, ⟨fun k a b c => va_ne _ (by omega) _, rfl, fun k h1 h2 => ?_, rfl, fun k hk => keep k (by omega)⟩, rfl, rfl, ?_, keep, pk_us, pk_us⟩
  · show va_up (va_up SM.2.2.1 11 _) 12 _ k = _
    rw [va_ne _ h2, va_ne _ h1]
  · show SM.1 13 + 1 = _
    rw [h, nI_1]
theorem r_emitx {SM : Ob} {r : Nat} (h : SM.1 13 = nI r) (hr : r < 1100) (x : Nat × Nat) : ∃ SM', f12_emit (nI (roN x)) (nI (raN x)) SM = some SM' ∧ FrF SM SM' ∧ SM'.1 7 = SM.1 7 ∧ SM'.1 8 = SM.1 8 ∧ CdB SM SM' r [x] := by
  obtain ⟨S, e, f, a7, a8, a13, k1, k2, k3⟩ := r_emit h hr (nI (roN x)) (nI (raN x))
  refine ⟨S, e, f, a7, a8, a13, k1, fun k y hy => ?_⟩
  have hk : k = 0 := by
    cases k with
    | zero => rfl
    | succ k => simp at hy
  subst hk
  have hxy : x = y := by simpa using hy
  subst hxy
  exact ⟨k2, k3⟩
/-- both stand at token i -/
def Syn (C : Nat → Nat) (t N : Nat) (SG ST SM : Ob) (i : Nat) : Prop := chC ST C t ∧ TkQ ST C t (PP C t i) ∧ SG.1 3 = 0 ∧ SM.1 7 = nI i ∧ SM.1 8 = 0 ∧ i ≤ N ∧ RfS SM C t N
theorem syn_adv {C : Nat → Nat} {t N i : Nat} {SG ST SM : Ob} (h : Syn C t N SG ST SM i) (hi : i < N) : ∃ ST', f10_advance ST = some ST' ∧ FrA ST ST' ∧ Syn C t N SG ST' (oI SM 7 (nI (i + 1))) (i + 1) := by
  obtain ⟨h1, h2, h3, h4, h5, h6, h7⟩ := h
  obtain ⟨ST', e, f, k⟩ := tok_adv h1 h2.2.2.1 (en_le (PP_le C t i)).1
  exact ⟨ST', e, f, chC_fr h1 f, k, h3, rfl, h5, by omega, RfS_F h7 (FrF_I SM (Or.inl rfl) _)⟩
theorem syn_F {C : Nat → Nat} {t N i i' : Nat} {SG ST SM SM' : Ob} (h : Syn C t N SG ST SM i) (hf : FrF SM SM') (h7 : SM'.1 7 = SM.1 7) (h8 : SM'.1 8 = SM.1 8) : Syn C t N SG ST SM' i := by
  obtain ⟨a1, a2, a3, a4, a5, a6, a7⟩ := h
  exact ⟨a1, a2, a3, h7.trans a4, h8.trans a5, a6, RfS_F a7 hf⟩
theorem syn_kd {C : Nat → Nat} {t N i : Nat} {SG ST SM : Ob} (h : Syn C t N SG ST SM i) : ST.1 3 = nI (kdT C t i) ∧ kdT C t i ≤ 61 := ⟨h.2.1.1, kd_max h.2.2.2.2.2.2 h.2.2.2.2.2.1⟩
theorem syn_eq {C : Nat → Nat} {t N i : Nat} {SG ST SM : Ob} (h : Syn C t N SG ST SM i) {k : Nat} (hk : k < 2 ^ 31) : ST.1 3 = nI k ↔ kdT C t i = k := by
  rw [(syn_kd h).1]
  exact nI_eq (by have := (syn_kd h).2; omega) hk
/-- how a piece of the grammar may come out -/
def OutP (C : Nat → Nat) (t N n g h : Nat) (SG ST SC SM : Ob) (i s r : Nat) (rc : Option (Int32 × Ob × Ob × Ob)) (rm : Option Ob) : Prop :=
  (∃ ST' SC' SM' i' L, rc = some (1, SG, ST', SC') ∧ rm = some SM' ∧ Syn C t N SG ST' SM' i' ∧ FrA ST ST' ∧ i < i' ∧ CdA SC SC' s L ∧ CdB SM SM' r L ∧ FrF SM SM' ∧ L.length + i ≤ i' ∧ WfA L h ∧ LvA n g L) ∨
  (∃ SG' ST' SC' SM' i' r' s' F, rc = some (0, SG', ST', SC') ∧ rm = some SM' ∧ FrA ST ST' ∧ SG'.1 3 = nI F ∧ Flt SM' F ∧ SC'.1 3 = nI s' ∧ s' ≤ 1000 ∧ FrF SM SM' ∧ SM'.1 13 = nI r' ∧ r' + i ≤ r + i' ∧ i' ≤ N)
section
variable {C : Nat → Nat} {t N n g h : Nat} {Ctx : Ob → Prop} {cs : Ob → Ob → Ob → Option (Int32 × Ob × Ob × Ob)} {rs : Ob → Option Ob} {Lc : Nat → Int32 → Int32 → Ob → Ob → Ob → Option (Int32 × Ob × Ob × Ob)} {Lr : Nat → Ob → Option Ob} {op : Nat → Nat}
theorem chain_loop (hctx : ∀ A B, Ctx A → FrF A B → Ctx B)
    (hsub : ∀ SG ST SC SM i s r, Syn C t N SG ST SM i → SC.1 3 = nI s → s ≤ i → SM.1 13 = nI r → r ≤ i → Ctx SM → OutP C t N n g h SG ST SC SM i s r (cs SG ST SC) (rs SM))
    (hop : ∀ k, op k = 0 ∨ (4 ≤ op k ∧ op k ≤ 10 ∧ k ≠ 34 ∧ ckN (op k, 0) = k ∧ (n ≤ 8 → op k ≤ 5)))
    (hcstop : ∀ m q SG ST SC k, ST.1 3 = nI k → k ≤ 61 → op k = 0 → Lc (m + 1) 1 q SG ST SC = some (1, SG, ST, SC))
    (hcfail : ∀ m q SG ST SC, Lc (m + 1) 0 q SG ST SC = some (0, SG, ST, SC))
    (hcop : ∀ m q SG ST SC k, q < 1000 → ST.1 3 = nI k → k ≤ 61 → op k ≠ 0 → Lc (m + 1) 1 (nI q) SG ST SC = bd (f10_advance ST) fun ST1 => bd (cs SG ST1 SC) fun r => bd (f2_put (nI k) 0 (r.2.2.2)) fun SC1 => Lc m (r.1) (nI (q + 1)) (r.2.1) (r.2.2.1) SC1)
    (hrstop : ∀ m SM i, RfS SM C t N → SM.1 7 = nI i → i ≤ N → SM.1 8 = 0 → op (kdT C t i) = 0 → Lr (m + 1) SM = some SM)
    (hrflt : ∀ m SM F, Flt SM F → Lr (m + 1) SM = some SM)
    (hrop : ∀ m SM i, RfS SM C t N → SM.1 7 = nI i → i ≤ N → SM.1 8 = 0 → op (kdT C t i) ≠ 0 → Lr (m + 1) SM = bd (rs (oI SM 7 (nI (i + 1)))) fun SM1 => bd (f12_emit (nI (roN (op (kdT C t i), 0))) (nI (raN (op (kdT C t i), 0))) SM1) fun SM2 => Lr m SM2) :
    ∀ d q SG ST SC SM i m1 m2 ST0 SC0 SM0 i0 s0 r0 L0, N - i ≤ d → N - i + 1 < m1 → N - i + 1 < m2 → Syn C t N SG ST SM i → q ≤ i → CdA SC0 SC s0 L0 → CdB SM0 SM r0 L0 → FrF SM0 SM → FrA ST0 ST → L0.length + i0 ≤ i → i0 < i → s0 ≤ i0 → r0 ≤ i0 → WfA L0 (h + 1) → LvA n g L0 → Ctx SM → OutP C t N n g (h + 1) SG ST0 SC0 SM0 i0 s0 r0 (Lc m1 1 (nI q) SG ST SC) (Lr m2 SM) := by
  intro d
  induction d with
  | zero =>
    intro q SG ST SC SM i m1 m2 ST0 SC0 SM0 i0 s0 r0 L0 hd hm1 hm2 hsy hq hA hB hF hT hlen hii hs0 hr0 hwf hlv hcx
    obtain ⟨m1, rfl⟩ : ∃ k, m1 = k + 1 := ⟨m1 - 1, by omega⟩
    obtain ⟨m2, rfl⟩ : ∃ k, m2 = k + 1 := ⟨m2 - 1, by omega⟩
    obtain ⟨y1, y2, y3, y4, y5, y6, y7⟩ := id hsy
    have hiN : i = N := by omega
    have hk : kdT C t i = 34 := by rw [hiN]; exact kd_N y7
    have ho : op (kdT C t i) = 0 := by
      rcases hop (kdT C t i) with h1 | h1
      · exact h1
      · exact absurd hk h1.2.2.1
    rw [hcstop m1 (nI q) SG ST SC _ (syn_kd hsy).1 (syn_kd hsy).2 ho, hrstop m2 SM i y7 y4 y6 y5 ho]
    exact Or.inl ⟨ST, SC, SM, i, L0, rfl, rfl, hsy, hT, hii, hA, hB, hF, hlen, hwf, hlv⟩
  | succ d ih =>
    intro q SG ST SC SM i m1 m2 ST0 SC0 SM0 i0 s0 r0 L0 hd hm1 hm2 hsy hq hA hB hF hT hlen hii hs0 hr0 hwf hlv hcx
    obtain ⟨m1, rfl⟩ : ∃ k, m1 = k + 1 := ⟨m1 - 1, by omega⟩
    obtain ⟨m2, rfl⟩ : ∃ k, m2 = k + 1 := ⟨m2 - 1, by omega⟩
    obtain ⟨y1, y2, y3, y4, y5, y6, y7⟩ := id hsy
    have ht := y7.1
    have hNt := y7.2.1
    by_cases ho : op (kdT C t i) = 0
    · rw [hcstop m1 (nI q) SG ST SC _ (syn_kd hsy).1 (syn_kd hsy).2 ho, hrstop m2 SM i y7 y4 y6 y5 ho]
      exact Or.inl ⟨ST, SC, SM, i, L0, rfl, rfl, hsy, hT, hii, hA, hB, hF, hlen, hwf, hlv⟩
    · rcases hop (kdT C t i) with h1 | ⟨o1, o2, o3, o4, o5⟩
      · exact absurd h1 ho
      · have hiN : i < N := kd_lt y7 y6 o3
        obtain ⟨ST1, e1, f1, sy1⟩ := syn_adv hsy hiN
        rw [hcop m1 q SG ST SC _ (by omega) (syn_kd hsy).1 (syn_kd hsy).2 ho, e1, bd_s, hrop m2 SM i y7 y4 y6 y5 ho]
        have c13 : (oI SM 7 (nI (i + 1))).1 13 = nI (r0 + L0.length) := hB.1
        have hcx1 : Ctx (oI SM 7 (nI (i + 1))) := hctx _ _ hcx (FrF_I SM (Or.inl rfl) _)
        rcases hsub SG ST1 SC _ (i + 1) (s0 + L0.length) (r0 + L0.length) sy1 hA.1 (by omega) c13 (by omega) hcx1 with ⟨ST2, SC2, SM2, i2, L2, q1, q2, q3, q4, q5, q6, q7, q8, q9, q10, q11⟩ | ⟨SG2, ST2, SC2, SM2, i2, r2, s2, F, q1, q2, q3, q4, q5, q6, q7, q8, q9, q10, q11⟩
        · have hi2N : i2 ≤ N := q3.2.2.2.2.2.1
          obtain ⟨SC3, p1, p2⟩ := c_put (x := (op (kdT C t i), 0)) q6.1 (by omega) (p := 0) (fun _ => by
            unfold cpN
            rw [if_neg (by show ¬ (op (kdT C t i) = 1 ∨ op (kdT C t i) = 2 ∨ op (kdT C t i) = 11); omega)]; rfl)
          rw [o4] at p1
          obtain ⟨SM3, w1, w2, w3, w4, w5⟩ := r_emitx q7.1 (by omega) (op (kdT C t i), 0)
          rw [q1, bd_s, q2, bd_s]
          show OutP C t N n g (h + 1) SG ST0 SC0 SM0 i0 s0 r0 (bd (f2_put (nI (kdT C t i)) 0 SC2) fun SC1 => Lc m1 1 (nI (q + 1)) SG ST2 SC1) _
          rw [p1, bd_s, w1, bd_s]
          have hF2 : FrF SM0 SM2 := FrF_tr hF (FrF_tr (FrF_I SM (Or.inl rfl) _) q8)
          refine ih (q + 1) SG ST2 SC3 SM3 i2 m1 m2 ST0 SC0 SM0 i0 s0 r0 (L0 ++ L2 ++ [(op (kdT C t i), 0)]) (by omega) (by omega) (by omega) (syn_F (i' := i2) q3 w2 w3 w4) (by omega) ?_ ?_ (FrF_tr hF2 w2) (FrA_tr hT (FrA_tr f1 q4)) ?_ (by omega) hs0 hr0 ?_ ?_ (hctx _ _ (hctx _ _ hcx1 q8) w2)
          · have a1 := CdA_app hA q6
            refine CdA_app a1 ?_
            rw [List.length_append, ← Nat.add_assoc]; exact p2
          · have b0 : CdB SM SM2 (r0 + L0.length) L2 := q7
            have b1 := CdB_app hB b0
            refine CdB_app b1 ?_
            rw [List.length_append, ← Nat.add_assoc]; exact w5
          · rw [List.length_append, List.length_append]
            show L0.length + L2.length + 1 + i0 ≤ i2
            omega
          · exact wf_bi hwf q10 (by unfold lfB; exact decide_eq_false (by omega)) (by omega) (Nat.le_refl _) (Nat.le_refl _)
          · exact lv_app (lv_app hlv q11) (lv_op (by omega) (by omega) o5)
        · rw [q1, bd_s, q2, bd_s]
          obtain ⟨SC3, s3, p1, p2, p3⟩ := c_put' q6 q7 (nI (kdT C t i)) 0
          obtain ⟨SM3, w1, w2, w3, w4, w5, -⟩ := r_emit q9 (by omega) (nI (roN (op (kdT C t i), 0))) (nI (raN (op (kdT C t i), 0)))
          have hfl3 : Flt SM3 F := ⟨w4.trans q5.1, q5.2⟩
          show OutP C t N n g (h + 1) SG ST0 SC0 SM0 i0 s0 r0 (bd (f2_put (nI (kdT C t i)) 0 SC2) fun SC1 => Lc m1 0 (nI (q + 1)) SG2 ST2 SC1) _
          obtain ⟨m1, rfl⟩ : ∃ k, m1 = k + 1 := ⟨m1 - 1, by omega⟩
          obtain ⟨m2, rfl⟩ : ∃ k, m2 = k + 1 := ⟨m2 - 1, by omega⟩
          rw [p1, bd_s, w1, bd_s, hcfail, hrflt _ _ _ hfl3]
          exact Or.inr ⟨SG2, ST2, SC3, SM3, i2, r2 + 1, s3, F, rfl, rfl, FrA_tr hT (FrA_tr f1 q3), q4, hfl3, p2, p3, FrF_tr hF (FrF_tr (FrF_I SM (Or.inl rfl) _) (FrF_tr q8 w2)), w5, by omega, q11⟩
end
