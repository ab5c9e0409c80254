/-! pure: a guest's line -/
def gR3 (p : Nat) (S : Ob) : Option Ob := bd (f12_takeAfter 2 1 99 S) fun r => some (oA (oA r.2 10 (p + 2) r.1) 10 60 ((oA r.2 10 (p + 2) r.1).2.2.1 10 60 + 1))
def gR2 (p : Nat) (S : Ob) : Option Ob := bd (f12_takeAfter 1 1 12 S) fun r => gR3 p (oA r.2 10 (p + 1) r.1)
def gR1 (p : Nat) (S : Ob) : Option Ob := bd (f12_takeOne 14 4 S) fun r => gR2 p (oA r.2 10 p r.1)
theorem r_guest {SM : Ob} {n : Nat} (h : SM.2.2.1 10 60 = nI n) (hn : n < 8) : f12_readGuest SM = bd (f12_readName (nI n) SM) fun a => gR1 (63 + 5 * n) a := by
  unfold f12_readGuest gR1 gR2 gR3
  have e60 : SM.2.2.1 10 (Int32.toNatClampNeg 60) = nI n := h
  have e5 : (63 : Int32) + 5 * nI n = nI (63 + 5 * n) := by rw [show (63 : Int32) = nI 63 from rfl, show (5 : Int32) = nI 5 from rfl, pk_mul, nI_add]
  have e7 : nI (63 + 5 * n) + 2 = nI (63 + 5 * n + 2) := by rw [show (2 : Int32) = nI 2 from rfl, nI_add]
  have i0 : inb (nI (63 + 5 * n)) 120 = true := inb_nI (by omega) (by omega)
  have i1 : inb (nI (63 + 5 * n + 1)) 120 = true := inb_nI (by omega) (by omega)
  have i2 : inb (nI (63 + 5 * n + 2)) 120 = true := inb_nI (by omega) (by omega)
  have c0 : Int32.toNatClampNeg (nI (63 + 5 * n)) = 63 + 5 * n := nI_clamp (by omega)
  have c1 : Int32.toNatClampNeg (nI (63 + 5 * n + 1)) = 63 + 5 * n + 1 := nI_clamp (by omega)
  have c2 : Int32.toNatClampNeg (nI (63 + 5 * n + 2)) = 63 + 5 * n + 2 := nI_clamp (by omega)
  rw [show inb 60 120 = true from rfl, ck_t, lt_e, e60, if_neg (show ¬ nI n = 8 from fun e => by have := (nI_eq (b := 8) (by omega) (by omega)).mp e; omega)]
  simp only [lt_e, e5, nI_1, e7, i0, i1, i2, c0, c1, c2, ck_t]
  rfl
theorem gR3_x {S : Ob} {F p : Nat} (h : Flt S F) (hp : 60 ≤ p) : ∃ S', gR3 p S = some S' ∧ Flt S' F ∧ FrI S S' := by
  unfold gR3
  rw [x_takeAfter h, bd_s]
  exact ⟨_, rfl, h, FrI_tr (FrI_10 S (by omega) _) (FrI_10 _ (by omega) _)⟩
theorem gR2_x {S : Ob} {F p : Nat} (h : Flt S F) (hp : 60 ≤ p) : ∃ S', gR2 p S = some S' ∧ Flt S' F ∧ FrI S S' := by
  unfold gR2
  rw [x_takeAfter h, bd_s]
  obtain ⟨S', e1, e2, e3⟩ := gR3_x (S := oA S 10 (p + 1) 0) (F := F) (p := p) h hp
  exact ⟨S', e1, e2, FrI_tr (FrI_10 S (by omega) _) e3⟩
theorem gR1_x {S : Ob} {F p : Nat} (h : Flt S F) (hp : 60 ≤ p) : ∃ S', gR1 p S = some S' ∧ Flt S' F ∧ FrI S S' := by
  unfold gR1
  rw [x_takeOne h, bd_s]
  obtain ⟨S', e1, e2, e3⟩ := gR2_x (S := oA S 10 p 0) (F := F) (p := p) h hp
  exact ⟨S', e1, e2, FrI_tr (FrI_10 S hp _) e3⟩
