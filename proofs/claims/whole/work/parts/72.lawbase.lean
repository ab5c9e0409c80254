/-! what the cases of the law use -/
abbrev lwC : Nat := 111
abbrev lwS : Nat := 17330
theorem lwRm : lwC ≤ room_1.cells ∧ lwS ≤ room_1.slots := ⟨Nat.le_of_ble_eq_true rfl, Nat.le_of_ble_eq_true rfl⟩
theorem lw_in {i j L : Nat} (h : i + j < L) (hL : L < 2 ^ 31) : vp_in (nI i + nI j) L := by
  rw [nI_add]
  exact vp_in_nI h hL
theorem lv_nmi {p : Program} {l : Launch} {e : Env} {R : Room} {s : State} {m : MethodId} {args : Array Value} {below : List Frame} {meth : Method} {c : Code} {H : Heap} {locs : List Loc} {cells slots : Nat} {Q : State → Prop} {pc : Nat} {ls : Array Slot} {rest : List Value} {x y : Int32} (h : y = x) (k : W p l e R s m args below meth c H locs cells slots Q (F0 m pc ls (.int y :: rest))) : W p l e R s m args below meth c H locs cells slots Q (F0 m pc ls (.int x :: rest)) := by
  subst h
  exact k
theorem lw_cmp {i L : Nat} (hL : L ≤ 3584) (hi : i ≤ L + 7) : (Int32.ofNat L - 7 < nI i) ↔ L < i + 7 := by
  have h1 : (Int32.ofNat L - 7 : Int32).toInt = (L : Int) - 7 := pk_sub_toInt (a := L) (b := 7) (by omega) (by omega)
  have h2 : (nI i).toInt = (i : Int) := nI_toInt (by omega)
  rw [Int32.lt_iff_toInt_lt, h1, h2]
  omega
