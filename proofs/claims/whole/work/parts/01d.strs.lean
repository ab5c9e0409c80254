/-! rows over the literals -/
def isb (i : Int32) : Bool := decide (i.toInt8.toInt32 = i)
theorem isb_of {i : Int32} (h : isb i = true) : narrow .byte (.int i) = .int i := by
  have h2 : i.toInt8.toInt32 = i := of_decide_eq_true h
  show Value.int i.toInt8.toInt32 = .int i
  rw [h2]
def isc (i : Int32) : Bool := decide ((i.toUInt32 % 65536).toInt32 = i)
theorem isc_of {i : Int32} (h : isc i = true) : narrow .char (.int i) = .int i := by
  have h2 : (i.toUInt32 % 65536).toInt32 = i := of_decide_eq_true h
  rw [← h2]
  exact pk_nc i
theorem inb4 {i : Int32} (h : inb i 4 = true) (h0 : ¬ i = 0) (h1 : ¬ i = 1) (h2 : ¬ i = 2) : i = 3 := by
  obtain ⟨j, hj, rfl⟩ := vp_in_of (inb_of h) (by decide)
  match j, hj with
  | 0, _ => exact absurd rfl h0
  | 1, _ => exact absurd rfl h1
  | 2, _ => exact absurd rfl h2
  | 3, _ => rfl
section GS
variable {p : Program} {l : Launch} {e : Env} {R : Room} {s : State} {m : MethodId} {args : Array Value} {below : List Frame} {meth : Method} {c : Code} {H : Heap} {locs : List Loc} {cells slots : Nat} {Q : State → Prop}
variable {cc : ByteArray} {nL : Nat} {ws : List Cond} {own : String} {ret : Option FieldType} {D : va_G} {cy : Nat → ClassId} {ad : Nat → Nat} {w : va_W} {A : Nat → Prop} {pc : Nat} {ls : Array Slot} {rest : List Value}
theorem g_sval (hC : Cx p s m args meth c cc nL ws own ret) (hW : GW D cy ad w A s H locs) (i : Nat) (hi : i < 2) {index : Nat} (iL : Nat) (hlk : ws[iL]? = some (.fieldLink own index "java/lang/String" "value" "[B")) (hdg : decode cc pc = .ok (.getfield index, 3))
    (kk : W p l e R s m args below meth c H locs cells slots Q (F0 m (pc + 3) ls (.ref (ad (2 * i + 1)) :: rest))) : W p l e R s m args below meth c H locs cells slots Q (F0 m pc ls (.ref (ad (2 * i)) :: rest)) :=
  vk_getf hC.1 hC.2.1 (hW.2.2.2.2.2.2.2.2.1.1 i hi).2.2.1 hW.2.2.2.1 hC.2.2.2.1 (hC.2.2.2.2.1 _ (List.mem_of_getElem? hlk)) (fun _ h => h) hdg kk
theorem g_scod (hC : Cx p s m args meth c cc nL ws own ret) (hW : GW D cy ad w A s H locs) (i : Nat) (hi : i < 2) {index : Nat} (iL : Nat) (hlk : ws[iL]? = some (.fieldLink own index "java/lang/String" "coder" "B")) (hdg : decode cc pc = .ok (.getfield index, 3))
    (kk : W p l e R s m args below meth c H locs cells slots Q (F0 m (pc + 3) ls (.int 0 :: rest))) : W p l e R s m args below meth c H locs cells slots Q (F0 m pc ls (.ref (ad (2 * i)) :: rest)) :=
  vk_getf hC.1 hC.2.1 (hW.2.2.2.2.2.2.2.2.1.1 i hi).2.1 hW.2.2.2.1 hC.2.2.2.1 (hC.2.2.2.2.1 _ (List.mem_of_getElem? hlk)) (fun _ h => h) hdg kk
theorem g_sget (hC : Cx p s m args meth c cc nL ws own ret) (hW : GW D cy ad w A s H locs) {index : Nat} (iL : Nat) (hlk : ws[iL]? = some (.fieldLink own index "java/lang/String" "COMPACT_STRINGS" "Z")) (hdg : decode cc pc = .ok (.getstatic index, 3))
    (kk : W p l e R s m args below meth c H locs cells slots Q (F0 m (pc + 3) ls (.int 1 :: rest))) : W p l e R s m args below meth c H locs cells slots Q (F0 m pc ls rest) :=
  va_gets hC.1 hC.2.1 hW.2.2.2.2.2.2.2.2.2.1 hW.2.2.2.1 hC.2.2.2.1 (hC.2.2.2.2.1 _ (List.mem_of_getElem? hlk)) (fun _ h => h) hdg kk
theorem g_slen (hC : Cx p s m args meth c cc nL ws own ret) (hW : GW D cy ad w A s H locs) (i : Nat) (hi : i < 2) {v : Int32} (hv : Int32.ofNat (sLe.getD i 0) = v) (hdg : decode cc pc = .ok (.arraylength, 1))
    (kk : W p l e R s m args below meth c H locs cells slots Q (F0 m (pc + 1) ls (.int v :: rest))) : W p l e R s m args below meth c H locs cells slots Q (F0 m pc ls (.ref (ad (2 * i + 1)) :: rest)) :=
  va_tlen hC.1 hC.2.1 (hW.2.2.2.2.2.2.2.2.1.1 i hi).2.2.2 hW.2.2.2.1 hv hdg kk
theorem g_sbal (hC : Cx p s m args meth c cc nL ws own ret) (hW : GW D cy ad w A s H locs) (i : Nat) (hi : i < 2) {x : Int32} {n : Nat} (hn : sLe.getD i 0 = n) (hin : inb x n = true) (hdg : decode cc pc = .ok (.baload, 1))
    (kk : W p l e R s m args below meth c H locs cells slots Q (F0 m (pc + 1) ls (.int ((sBy.getD i []).getD x.toNatClampNeg 0) :: rest))) : W p l e R s m args below meth c H locs cells slots Q (F0 m pc ls (.int x :: .ref (ad (2 * i + 1)) :: rest)) :=
  va_tb hC.1 hC.2.1 (hW.2.2.2.2.2.2.2.2.1.1 i hi).2.2.2 hW.2.2.2.1 (by rw [hn]; exact inb_of hin) rfl hdg kk
variable {y : MethodName} {bytes : ByteArray} {maxL n index : Nat} {ret' : Option FieldType} {wsc : List Cond} {rm : Room} {As st0 : List Value} {r : Int32}
theorem g_calliVs (hC : Cx p s m args meth c cc nL ws own ret) (hW : GW D cy ad w A s H locs) (i : Nat) (hi : i < 2) (hM : GCi l y wsc rm (.ref (ad (2 * i)) :: As) D cy ad [] [] r) (cw : CallW R s args own "java/lang/String" index y bytes maxL ret' wsc rm 0 0 n) (hn : As.length = n) (hsz : ls.size = nL) (hst : st0 = As.reverse ++ .ref (ad (2 * i)) :: rest) (hrm : (rest.map fun v => v.category).sum ≤ 8) (hdg : decode cc pc = .ok (.invokevirtual index, 3)) (hf : cells ≤ R.cells ∧ slots ≤ R.slots)
    (kk : ∀ (H1 : Heap) (locs1 : List Loc), GW D cy ad w A s H1 locs1 → W p l e R s m args below meth c H1 locs1 cells slots Q (F0 m (pc + 3) ls (.int r :: rest))) : W p l e R s m args below meth c H locs cells slots Q (F0 m pc ls st0) :=
  va_calli (va_runV (As := As) (rest := rest) ⟨hC.1, hC.2.1, hC.2.2.1, hC.2.2.2.1, hC.2.2.2.2.1⟩ (hM H.size) cw ⟨Pw_blind _ D cy ad [] _, vk_recv hW.2.2.2.2.2.2.2.2.1 hi hW.2.2.2.1, hW.pre (Sub.nil w) _⟩ rfl hn hsz hst (lv_room (pc := pc) (ls := ls) (rest := st0) hrm) hdg hf) hW.2.2.2.1 (fun q' _ h => hW.free (Sub.nil w) q' h) (hW.free (Sub.nil w)) (fun r' u t H1 locs1 ht hvm hw hB hz1 hk1 hS1 => by
    subst hw
    exact kk H1 locs1 (hW.join (Sub.nil w) ht hB hk1 hS1))
theorem g_zretB (hC : Cx p s m args meth c cc nL ws own (some .byte)) (hW : GW D cy ad w A s H locs) {v : Int32} (hz : narrow .byte (.int v) = .int v) (hdg : decode cc pc = .ok (.ireturn, 1)) : W p l e R s m args below meth c H locs cells slots (MQ below (QI D cy w A v) args s cells slots A) (F0 m pc ls [.int v]) :=
  W.zret hC.1 hC.2.1 hC.2.2.2.2.2.1 hz (fun t ht hWm => ⟨⟨v, (), rfl, rfl, by rw [ht]; exact hW.1, va_K.moved hWm.alike hW.2.2.1, hW.2.1⟩, hW.2.2.2.1.F ht⟩) hW.2.2.2.1.2.2 hdg hC.2.2.2.2.2.2
theorem g_zretC (hC : Cx p s m args meth c cc nL ws own (some .char)) (hW : GW D cy ad w A s H locs) {v : Int32} (hz : narrow .char (.int v) = .int v) (hdg : decode cc pc = .ok (.ireturn, 1)) : W p l e R s m args below meth c H locs cells slots (MQ below (QI D cy w A v) args s cells slots A) (F0 m pc ls [.int v]) :=
  W.zret hC.1 hC.2.1 hC.2.2.2.2.2.1 hz (fun t ht hWm => ⟨⟨v, (), rfl, rfl, by rw [ht]; exact hW.1, va_K.moved hWm.alike hW.2.2.1, hW.2.1⟩, hW.2.2.2.1.F ht⟩) hW.2.2.2.1.2.2 hdg hC.2.2.2.2.2.2
end GS
