/-! pure: a sign's line, the reference -/
def sG2 (p g : Nat) (S : Ob) : Option Ob := bd (f12_either (f12_item DP) 0 (oI (oA S 10 (p + 1) (S.1 13)) 21 (nI (20 + g)))) fun a => bd (f12_emit 0 0 a) fun b => some (oA b 10 61 (b.2.2.1 10 61 + 1))
def sG1 (p g : Nat) (S : Ob) : Option Ob := bd (f12_takeAfter 4 0 10 S) fun r => bd (f12_takeWord 5 (oA r.2 10 p r.1)) fun a => sG2 p g a
theorem r_sign {SM : Ob} {g : Nat} (h : SM.2.2.1 10 61 = nI g) (hg : g < 6) : f12_readSign SM = bd (f12_readName (nI (20 + g)) SM) fun a => sG1 (103 + 2 * g) g a := by
  unfold f12_readSign sG1 sG2
  have e61 : SM.2.2.1 10 (Int32.toNatClampNeg 61) = nI g := h
  have e2 : (103 : Int32) + 2 * nI g = nI (103 + 2 * g) := by rw [show (103 : Int32) = nI 103 from rfl, show (2 : Int32) = nI 2 from rfl, pk_mul, nI_add]
  have e20 : (20 : Int32) + nI g = nI (20 + g) := by rw [show (20 : Int32) = nI 20 from rfl, nI_add]
  have i0 : inb (nI (103 + 2 * g)) 120 = true := inb_nI (by omega) (by omega)
  have i1 : inb (nI (103 + 2 * g + 1)) 120 = true := inb_nI (by omega) (by omega)
  have c0 : Int32.toNatClampNeg (nI (103 + 2 * g)) = 103 + 2 * g := nI_clamp (by omega)
  have c1 : Int32.toNatClampNeg (nI (103 + 2 * g + 1)) = 103 + 2 * g + 1 := nI_clamp (by omega)
  rw [show inb 61 120 = true from rfl, ck_t, lt_e, e61, if_neg (show ¬ nI g = 6 from fun e => by have := (nI_eq (b := 6) (by omega) (by omega)).mp e; omega)]
  simp only [lt_e, e2, e20, nI_1, i0, i1, c0, c1, ck_t]
  rfl
theorem sG2_x {S : Ob} {F p g r : Nat} (h : Flt S F) (hp : 60 ≤ p) (h13 : S.1 13 = nI r) (hr : r < 1100) : ∃ S', sG2 p g S = some S' ∧ Flt S' F ∧ FrI S S' := by
  unfold sG2
  have hf : Flt (oI (oA S 10 (p + 1) (S.1 13)) 21 (nI (20 + g))) F := h
  obtain ⟨S4, w1, w2, w3, w4, w5, -⟩ := r_emit (SM := oI (oA S 10 (p + 1) (S.1 13)) 21 (nI (20 + g))) (r := r) h13 hr 0 0
  rw [x_either hf, bd_s, w1, bd_s]
  have hf4 : Flt S4 F := ⟨w4.trans hf.1, hf.2⟩
  exact ⟨_, rfl, hf4, FrI_tr (FrI_10 S (by omega) _) (FrI_tr (FrI_I _ (by omega) _) (FrI_tr (FrI_F w2) (FrI_10 _ (by omega) _)))⟩
theorem sG1_x {S : Ob} {F p g r : Nat} (h : Flt S F) (hp : 60 ≤ p) (h13 : S.1 13 = nI r) (hr : r < 1100) : ∃ S', sG1 p g S = some S' ∧ Flt S' F ∧ FrI S S' := by
  unfold sG1
  have hf : Flt (oA S 10 p 0) F := h
  rw [x_takeAfter h, bd_s]
  show ∃ S', (bd (f12_takeWord 5 (oA S 10 p 0)) fun a => sG2 p g a) = some S' ∧ _
  rw [x_takeWord hf, bd_s]
  obtain ⟨S', e1, e2, e3⟩ := sG2_x (S := oA S 10 p 0) (F := F) (p := p) (g := g) (r := r) hf hp h13 hr
  exact ⟨S', e1, e2, FrI_tr (FrI_10 S (by omega) _) e3⟩
