/-! the base of all walks: states of objects, checks, the bundle of a world, rows over the bundle -/
abbrev Ob : Type := (Nat → Int32) × (Nat → Int64) × (Nat → Nat → Int32) × (Nat → Nat → Int64)
def oI (S : Ob) (k : Nat) (v : Int32) : Ob := (va_up S.1 k v, S.2)
def oL (S : Ob) (k : Nat) (v : Int64) : Ob := (S.1, va_up S.2.1 k v, S.2.2)
def oA (S : Ob) (k j : Nat) (v : Int32) : Ob := (S.1, S.2.1, va_up S.2.2.1 k (upd (S.2.2.1 k) j v), S.2.2.2)
def oJ (S : Ob) (k j : Nat) (v : Int64) : Ob := (S.1, S.2.1, S.2.2.1, va_up S.2.2.2 k (vp_updL (S.2.2.2 k) j v))
def ck {α : Type} (b : Bool) (x : Option α) : Option α := match b with
  | true => x
  | false => none
theorem ck_of {α : Type} {b : Bool} {x : Option α} {r : α} (h : ck b x = some r) : b = true ∧ x = some r := by
  cases b with
  | true => exact ⟨rfl, h⟩
  | false => cases h
def inb (i : Int32) (n : Nat) : Bool := decide (¬ (i < 0 ∨ n ≤ i.toNatClampNeg))
theorem inb_of {i : Int32} {n : Nat} (h : inb i n = true) : vp_in i n := show ¬ (i < 0 ∨ n ≤ i.toNatClampNeg) from of_decide_eq_true h
def nz (i : Int32) : Bool := decide (¬ i = 0)
theorem nz_of {i : Int32} (h : nz i = true) : ¬ i = 0 := of_decide_eq_true h
def nzl (i : Int64) : Bool := decide (¬ i = 0)
theorem nzl_of {i : Int64} (h : nzl i = true) : ¬ i = 0 := of_decide_eq_true h
def isz (i : Int32) : Bool := decide (i = 0 ∨ i = 1)
theorem isz_of {i : Int32} (h : isz i = true) : narrow .boolean (.int i) = .int i := by
  rcases of_decide_eq_true h with rfl | rfl <;> decide
def bd {α β : Type} (x : Option α) (f : α → Option β) : Option β := match x with
  | none => none
  | some a => f a
theorem bd_of {α β : Type} {x : Option α} {f : α → Option β} {r : β} (h : bd x f = some r) : ∃ a, x = some a ∧ f a = some r := by
  cases x with
  | none => cases h
  | some a => exact ⟨a, rfl, h⟩
def FU : Nat := 5000
abbrev DP : Nat := 12
def lt {α β : Type} (x : α) (f : α → Option β) : Option β := f x
theorem lt_nm {α β : Type} {x y : α} {f : α → Option β} {r : β} (h : lt x f = some r) (e : y = x) : f y = some r := by
  rw [e]
  exact h
theorem ite_t {α : Type} {c : Prop} [Decidable c] {a b : Option α} {r : α} (h : (if c then a else b) = some r) (hc : c) : a = some r := by
  rw [if_pos hc] at h
  exact h
theorem ite_f {α : Type} {c : Prop} [Decidable c] {a b : Option α} {r : α} (h : (if c then a else b) = some r) (hc : ¬ c) : b = some r := by
  rw [if_neg hc] at h
  exact h
theorem fits_isz {i : Int32} (h : isz i = true) : fits .boolean (.int i) = true := by
  rcases of_decide_eq_true h with rfl | rfl <;> decide
theorem tab_out {x : Int32} {lo hi : Int} (vs : List Int32) (h : ∀ v ∈ vs, ¬ x = v) (hc : ((List.range vs.length).map (fun k : Nat => lo + (k : Int))) = vs.map Int32.toInt ∧ lo + vs.length = hi + 1) : x.toInt < lo ∨ hi < x.toInt := by
  by_cases h1 : x.toInt < lo
  · exact Or.inl h1
  · by_cases h2 : hi < x.toInt
    · exact Or.inr h2
    · exfalso
      obtain ⟨hc1, hc2⟩ := hc
      obtain ⟨k, hk⟩ : ∃ k : Nat, x.toInt = lo + k := ⟨(x.toInt - lo).toNat, by omega⟩
      have hlt : k < vs.length := by omega
      have e1 : ((List.range vs.length).map (fun k : Nat => lo + (k : Int)))[k]? = some (lo + k) := by simp [hlt]
      rw [hc1, List.getElem?_map] at e1
      cases hv : vs[k]? with
      | none => rw [hv] at e1; cases e1
      | some v =>
        rw [hv] at e1
        have e2 : v.toInt = lo + k := Option.some.inj e1
        exact h v (List.mem_of_getElem? hv) (Int32.toInt_inj.mp (by rw [hk, e2]))
def ush (x y : Int32) : Int32 := (x.toUInt32 >>> (y.toUInt32 &&& Int32.toUInt32 31)).toInt32
def lush (x : Int64) (y : Int32) : Int64 := (x.toUInt64 >>> (y.toInt64.toUInt64 &&& Int64.toUInt64 63)).toInt64
/-- the classes of rows: int, long, boolean, byte, Book -/
def Ty5 (cy : Nat → ClassId) : List (ClassId × FieldType) := [(cy 0, .int), (cy 1, .long), (cy 2, .boolean), (cy 3, .byte), (cy 4, .object "ExtraGuest$Book")]
/-- a method's own facts -/
def Cx (p : Program) (s : State) (m : MethodId) (args : Array Value) (meth : Method) (c : Code) (cc : ByteArray) (nL : Nat) (ws : List Cond) (own : String) (ret : Option FieldType) : Prop :=
  p.tables.exec = Jvm.exec ∧ c.code = cc ∧ c.maxLocals = nL ∧ s.vm.findClass own = some m.cls ∧ (∀ w ∈ ws, w.before args s = true) ∧ meth.sig.returnType = ret ∧ meth.locks = false
/-- the literals of Tape, and what is known of the tables beside words -/
def sT0 : String := "guest room stays sign errs when sees shun bill says shows hides weather night plain honest liar mad clear snow fog wind odd low alone old not and or door nights many "
def sT1 : String := "()<=+-*;"
def sBy : List (List Int32) := [[103, 117, 101, 115, 116, 32, 114, 111, 111, 109, 32, 115, 116, 97, 121, 115, 32, 115, 105, 103, 110, 32, 101, 114, 114, 115, 32, 119, 104, 101, 110, 32, 115, 101, 101, 115, 32, 115, 104, 117, 110, 32, 98, 105, 108, 108, 32, 115, 97, 121, 115, 32, 115, 104, 111, 119, 115, 32, 104, 105, 100, 101, 115, 32, 119, 101, 97, 116, 104, 101, 114, 32, 110, 105, 103, 104, 116, 32, 112, 108, 97, 105, 110, 32, 104, 111, 110, 101, 115, 116, 32, 108, 105, 97, 114, 32, 109, 97, 100, 32, 99, 108, 101, 97, 114, 32, 115, 110, 111, 119, 32, 102, 111, 103, 32, 119, 105, 110, 100, 32, 111, 100, 100, 32, 108, 111, 119, 32, 97, 108, 111, 110, 101, 32, 111, 108, 100, 32, 110, 111, 116, 32, 97, 110, 100, 32, 111, 114, 32, 100, 111, 111, 114, 32, 110, 105, 103, 104, 116, 115, 32, 109, 97, 110, 121, 32], [40, 41, 60, 61, 43, 45, 42, 59]]
def sLe : List Nat := [166, 8]
def nwl : List (String × Nat × MethodName) := [(RX9, 127, yX3_formula), (RX9, 150, yX3_expression), (RX11, 11, yX9_init), (RX11, 23, yX4_init), (RX11, 33, yX7_init), (RX11, 43, yX0_init), (RX11, 58, yX8_init), (RX11, 65, yX1_init), (RX11, 72, yX5_init), (RX3, 20, yX2_init), (RX9, 11, yX3_init)]
def NX (ad : Nat → Nat) (A : Nat → Prop) (U : State) : Prop :=
  (∀ q ∈ nwl, va_Nw (.methodLinkNest q.1 q.2.1 q.2.2 "ExtraGuest") U) ∧ vk_R RX10 19 sT0 (ad 0) U ∧ vk_R RX10 54 sT1 (ad 2) U ∧ vk_S 2 sLe sBy (fun i => ad (2 * i)) (fun i => ad (2 * i + 1)) A U U.heap ∧ va_Z "java/lang/String" "COMPACT_STRINGS" "Z" (.int 1) A U U.heap ∧ va_Zq "jdk/internal/util/Preconditions" "SIOOBE_FORMATTER" "Ljava/util/function/BiFunction;" A U U.heap ∧ va_AO "ExtraGuest$Book" U
theorem NX.blind {ad : Nat → Nat} {A : Nat → Prop} {U : State} {g : JFrame} {mk : MethodId} {a : Array Value} (h : NX ad A U) : NX ad A (U.calling g mk a) :=
  ⟨fun q hq => va_Nw.same rfl rfl (h.1 q hq), vk_R.same (u := U) rfl h.2.1, vk_R.same (u := U) rfl h.2.2.1, vk_S.moved (u := U) (Vm.Alike.refl U.vm) h.2.2.2.1, va_Z.moved (u := U) (Vm.Alike.refl U.vm) h.2.2.2.2.1, va_Zq.moved (u := U) (Vm.Alike.refl U.vm) h.2.2.2.2.2.1, va_AO.moved (u := U) (Vm.Alike.refl U.vm) h.2.2.2.2.2.2⟩
theorem NX.call {ad : Nat → Nat} {A B : Nat → Prop} {s U : State} {locs : List Loc} {H : Heap} (h : NX ad A s) (hS : va_S A s.heap H locs) (hB : ∀ q, B q → A q) (hU : U.heap = H) (hW : s.WarmedH U.vm) : NX ad B U := by
  subst hU
  exact ⟨fun q hq => va_Nw.warmM hW (h.1 q hq), vk_R.warm hW h.2.1, vk_R.warm hW h.2.2.1, ((vk_S.kept h.2.2.2.1 hS.2.1).narrow hB).moved hW.alike, ((va_Z.kept h.2.2.2.2.1 hS.2.1).narrow hB).moved hW.alike, ((va_Zq.kept h.2.2.2.2.2.1 hS.2.1).narrow hB).moved hW.alike, va_AO.moved hW.alike h.2.2.2.2.2.2⟩
/-- the world w in the heap H -/
def GW (D : va_G) (cy : Nat → ClassId) (ad : Nat → Nat) (w : va_W) (A : Nat → Prop) (s : State) (H : Heap) (locs : List Loc) : Prop :=
  va_P D vwCl w H ∧ va_D A w ∧ va_K D vwCl (Ty5 cy) s ∧ va_S A s.heap H locs ∧ (∀ q, s.heap.size ≤ q → A q) ∧ NX ad A s
/-- what a method's start is, and its end -/
def Pw (D : va_G) (cy : Nat → ClassId) (ad : Nat → Nat) (w : va_W) (sz : Nat) (U : State) : Prop := U.heap.size = sz ∧ va_P D vwCl w U.heap ∧ va_K D vwCl (Ty5 cy) U ∧ va_D (fun _ => True) w ∧ NX ad (va_A w sz) U
def Bw (D : va_G) (cy : Nat → ClassId) (w1 : va_W) (A : Nat → Prop) (_ : Unit) (t : State) : Prop := va_P D vwCl w1 t.heap ∧ va_K D vwCl (Ty5 cy) t ∧ va_D A w1
abbrev QI (D : va_G) (cy : Nat → ClassId) (w1 : va_W) (A : Nat → Prop) (r : Int32) : Array Value → State → Outcome → State → Prop := va_Qi (fun r' (_ : Unit) => r' = r) (Bw D cy w1 A) A
abbrev QL (D : va_G) (cy : Nat → ClassId) (w1 : va_W) (A : Nat → Prop) (r : Int64) : Array Value → State → Outcome → State → Prop := va_Ql (fun r' (_ : Unit) => r' = r) (Bw D cy w1 A) A
abbrev QV (D : va_G) (cy : Nat → ClassId) (w1 : va_W) (A : Nat → Prop) : Array Value → State → Outcome → State → Prop := va_Qv (fun (_ : Unit) => True) (Bw D cy w1 A) A
/-- contracts: from the world w to the world w1, with the answer r -/
def GCi (l : Launch) (y : MethodName) (ws : List Cond) (rm : Room) (Ar : List Value) (D : va_G) (cy : Nat → ClassId) (ad : Nat → Nat) (w w1 : va_W) (r : Int32) : Prop := ∀ sz, Met l y ws rm (va_Pc Ar (Pw D cy ad w sz)) (QI D cy w1 (va_A w sz) r) 0 0 (va_A w sz)
def GCl (l : Launch) (y : MethodName) (ws : List Cond) (rm : Room) (Ar : List Value) (D : va_G) (cy : Nat → ClassId) (ad : Nat → Nat) (w w1 : va_W) (r : Int64) : Prop := ∀ sz, Met l y ws rm (va_Pc Ar (Pw D cy ad w sz)) (QL D cy w1 (va_A w sz) r) 0 0 (va_A w sz)
def GCv (l : Launch) (y : MethodName) (ws : List Cond) (rm : Room) (Ar : List Value) (D : va_G) (cy : Nat → ClassId) (ad : Nat → Nat) (w w1 : va_W) : Prop := ∀ sz, Met l y ws rm (va_Pc Ar (Pw D cy ad w sz)) (QV D cy w1 (va_A w sz)) 0 0 (va_A w sz)
theorem Pw_blind (Ar : List Value) (D : va_G) (cy : Nat → ClassId) (ad : Nat → Nat) (w : va_W) (sz : Nat) : FrameBlind (va_Pc Ar (Pw D cy ad w sz)) := fun a U g mk q => by
  obtain ⟨q0, q1, qP, qK, qD, qN⟩ := q
  exact ⟨q0, q1, qP, va_K.moved (u := U) (U := U.calling g mk a) (Vm.Alike.refl U.vm) qK, qD, qN.blind⟩
section GR
variable {p : Program} {l : Launch} {e : Env} {R : Room} {s : State} {m : MethodId} {args : Array Value} {below : List Frame} {meth : Method} {c : Code} {H : Heap} {locs : List Loc} {cells slots : Nat} {Q : State → Prop}
variable {cc : ByteArray} {nL : Nat} {ws : List Cond} {own : String} {ret : Option FieldType} {D : va_G} {cy : Nat → ClassId} {ad : Nat → Nat} {w : va_W} {A : Nat → Prop} {pc : Nat} {ls : Array Slot} {rest : List Value}
theorem g_get (hC : Cx p s m args meth c cc nL ws own ret) (hW : GW D cy ad w A s H locs) {C : String} {T : u_T} {N ci index a : Nat} {fs : List Value} {v : Value} (hin : ∀ x ∈ u_ws C T N, x ∈ ws) (q0 : Nat) (he : w[q0]? = some (a, .inr (ci, fs))) (hc : vwCl[ci]? = some (C, T, N)) (k : Nat) (hk : k < N) (iL : Nat) (hlk : ws[iL]? = some (.fieldLink own index (T k).1 (T k).2.1 (T k).2.2.1)) (hv : fs[k]? = some v) (hdg : decode cc pc = .ok (.getfield index, 3))
    (kk : W p l e R s m args below meth c H locs cells slots Q (F0 m (pc + 3) ls (v :: rest))) : W p l e R s m args below meth c H locs cells slots Q (F0 m pc ls (.ref a :: rest)) :=
  va_get hC.1 hC.2.1 hC.2.2.2.2.1 hin hC.2.2.2.1 hW.2.2.1 hW.1 q0 he hc k hk (hC.2.2.2.2.1 _ (List.mem_of_getElem? hlk)) (fun _ h => h) hv hdg kk
theorem g_put (hC : Cx p s m args meth c cc nL ws own ret) (hW : GW D cy ad w A s H locs) {C : String} {T : u_T} {N ci index a : Nat} {fs : List Value} {v : Value} (hin : ∀ x ∈ u_ws C T N, x ∈ ws) (ty0 : Nat → FieldType) (hty : ∀ k, k < N → parseFieldDescriptor (T k).2.2.1 = some (ty0 k)) (hnm : ∀ a, a < N → ∀ b, b < N → a ≠ b → (T a).2.1 ≠ (T b).2.1) (q0 : Nat) (he : w[q0]? = some (a, .inr (ci, fs))) (hc : vwCl[ci]? = some (C, T, N)) (k : Nat) (hk : k < N) (iL : Nat) (hlk : ws[iL]? = some (.fieldLink own index (T k).1 (T k).2.1 (T k).2.2.1)) (hfin : (T k).2.2.2 = false) (hn : narrow (ty0 k) v = v) (hfit : fits (ty0 k) v = true) (hl : k < fs.length) {w' : va_W} (hw' : w.set q0 (a, .inr (ci, fs.set k v)) = w') (hdg : decode cc pc = .ok (.putfield index, 3))
    (kk : ∀ (H1 : Heap) (locs1 : List Loc), GW D cy ad w' A s H1 locs1 → W p l e R s m args below meth c H1 locs1 cells slots Q (F0 m (pc + 3) ls rest)) : W p l e R s m args below meth c H locs cells slots Q (F0 m pc ls (v :: .ref a :: rest)) := by
  subst hw'
  exact va_put hC.1 hC.2.1 hC.2.2.2.2.1 hin ty0 hty hnm hC.2.2.2.1 hW.2.2.1 hW.1 hW.2.1 hW.2.2.2.1 q0 he hc k hk (hC.2.2.2.2.1 _ (List.mem_of_getElem? hlk)) (fun _ h => h) hfin (hty k hk) hn hfit hl hdg (fun H1 locs1 h1 h2 h3 => kk H1 locs1 ⟨h1, h2, hW.2.2.1, h3, hW.2.2.2.2⟩)
theorem g_iald (hC : Cx p s m args meth c cc nL ws own ret) (hW : GW D cy ad w A s H locs) (q0 : Nat) {a n : Nat} {f : Nat → Int32} (ha : w[q0]? = some (a, .inl (cy 0, n, .inl f))) {i : Int32} (hin : inb i n = true) (hdg : decode cc pc = .ok (.iaload, 1))
    (kk : W p l e R s m args below meth c H locs cells slots Q (F0 m (pc + 1) ls (.int (f i.toNatClampNeg) :: rest))) : W p l e R s m args below meth c H locs cells slots Q (F0 m pc ls (.int i :: .ref a :: rest)) :=
  va_iald hC.1 hC.2.1 hW.2.2.1 hW.1 q0 0 ha rfl (inb_of hin) hdg kk
theorem g_lald (hC : Cx p s m args meth c cc nL ws own ret) (hW : GW D cy ad w A s H locs) (q0 : Nat) {a n : Nat} {f : Nat → Int64} (ha : w[q0]? = some (a, .inl (cy 1, n, .inr (.inl f)))) {i : Int32} (hin : inb i n = true) (hdg : decode cc pc = .ok (.laload, 1))
    (kk : W p l e R s m args below meth c H locs cells slots Q (F0 m (pc + 1) ls (.long (f i.toNatClampNeg) :: rest))) : W p l e R s m args below meth c H locs cells slots Q (F0 m pc ls (.int i :: .ref a :: rest)) :=
  va_lald hC.1 hC.2.1 hW.2.2.1 hW.1 q0 1 ha rfl (inb_of hin) hdg kk
theorem g_zald (hC : Cx p s m args meth c cc nL ws own ret) (hW : GW D cy ad w A s H locs) (q0 : Nat) {a n : Nat} {f : Nat → Int32} (ha : w[q0]? = some (a, .inl (cy 2, n, .inl f))) {i : Int32} (hin : inb i n = true) (hdg : decode cc pc = .ok (.baload, 1))
    (kk : W p l e R s m args below meth c H locs cells slots Q (F0 m (pc + 1) ls (.int (f i.toNatClampNeg) :: rest))) : W p l e R s m args below meth c H locs cells slots Q (F0 m pc ls (.int i :: .ref a :: rest)) :=
  va_zald hC.1 hC.2.1 hW.2.2.1 hW.1 q0 2 ha rfl (inb_of hin) hdg kk
theorem g_bald (hC : Cx p s m args meth c cc nL ws own ret) (hW : GW D cy ad w A s H locs) (q0 : Nat) {a n : Nat} {f : Nat → Int32} (ha : w[q0]? = some (a, .inl (cy 3, n, .inl f))) {i : Int32} (hin : inb i n = true) (hdg : decode cc pc = .ok (.baload, 1))
    (kk : W p l e R s m args below meth c H locs cells slots Q (F0 m (pc + 1) ls (.int (f i.toNatClampNeg) :: rest))) : W p l e R s m args below meth c H locs cells slots Q (F0 m pc ls (.int i :: .ref a :: rest)) :=
  va_bald hC.1 hC.2.1 hW.2.2.1 hW.1 q0 3 ha rfl (inb_of hin) hdg kk
theorem g_iast (hC : Cx p s m args meth c cc nL ws own ret) (hW : GW D cy ad w A s H locs) (q0 : Nat) {a n : Nat} {f : Nat → Int32} (ha : w[q0]? = some (a, .inl (cy 0, n, .inl f))) {i x : Int32} (hin : inb i n = true) {w' : va_W} (hw' : w.set q0 (a, .inl (cy 0, n, .inl (upd f i.toNatClampNeg x))) = w') (hdg : decode cc pc = .ok (.iastore, 1))
    (kk : ∀ (H1 : Heap) (locs1 : List Loc), GW D cy ad w' A s H1 locs1 → W p l e R s m args below meth c H1 locs1 cells slots Q (F0 m (pc + 1) ls rest)) : W p l e R s m args below meth c H locs cells slots Q (F0 m pc ls (.int x :: .int i :: .ref a :: rest)) := by
  subst hw'
  exact va_iast hC.1 hC.2.1 hW.2.2.1 hW.1 hW.2.1 hW.2.2.2.1 q0 0 ha rfl (inb_of hin) hdg (fun H1 locs1 h1 h2 h3 => kk H1 locs1 ⟨h1, h2, hW.2.2.1, h3, hW.2.2.2.2⟩)
theorem g_last (hC : Cx p s m args meth c cc nL ws own ret) (hW : GW D cy ad w A s H locs) (q0 : Nat) {a n : Nat} {f : Nat → Int64} (ha : w[q0]? = some (a, .inl (cy 1, n, .inr (.inl f)))) {i : Int32} {x : Int64} (hin : inb i n = true) {w' : va_W} (hw' : w.set q0 (a, .inl (cy 1, n, .inr (.inl (vp_updL f i.toNatClampNeg x)))) = w') (hdg : decode cc pc = .ok (.lastore, 1))
    (kk : ∀ (H1 : Heap) (locs1 : List Loc), GW D cy ad w' A s H1 locs1 → W p l e R s m args below meth c H1 locs1 cells slots Q (F0 m (pc + 1) ls rest)) : W p l e R s m args below meth c H locs cells slots Q (F0 m pc ls (.long x :: .int i :: .ref a :: rest)) := by
  subst hw'
  exact va_last hC.1 hC.2.1 hW.2.2.1 hW.1 hW.2.1 hW.2.2.2.1 q0 1 ha rfl (inb_of hin) hdg (fun H1 locs1 h1 h2 h3 => kk H1 locs1 ⟨h1, h2, hW.2.2.1, h3, hW.2.2.2.2⟩)
theorem g_zast (hC : Cx p s m args meth c cc nL ws own ret) (hW : GW D cy ad w A s H locs) (q0 : Nat) {a n : Nat} {f : Nat → Int32} (ha : w[q0]? = some (a, .inl (cy 2, n, .inl f))) {i x : Int32} (hin : inb i n = true) {w' : va_W} (hw' : w.set q0 (a, .inl (cy 2, n, .inl (upd f i.toNatClampNeg (vp_nar .boolean x)))) = w') (hdg : decode cc pc = .ok (.bastore, 1))
    (kk : ∀ (H1 : Heap) (locs1 : List Loc), GW D cy ad w' A s H1 locs1 → W p l e R s m args below meth c H1 locs1 cells slots Q (F0 m (pc + 1) ls rest)) : W p l e R s m args below meth c H locs cells slots Q (F0 m pc ls (.int x :: .int i :: .ref a :: rest)) := by
  subst hw'
  exact va_zast hC.1 hC.2.1 hW.2.2.1 hW.1 hW.2.1 hW.2.2.2.1 q0 2 ha rfl (inb_of hin) hdg (fun H1 locs1 h1 h2 h3 => kk H1 locs1 ⟨h1, h2, hW.2.2.1, h3, hW.2.2.2.2⟩)
theorem g_bast (hC : Cx p s m args meth c cc nL ws own ret) (hW : GW D cy ad w A s H locs) (q0 : Nat) {a n : Nat} {f : Nat → Int32} (ha : w[q0]? = some (a, .inl (cy 3, n, .inl f))) {i x : Int32} (hin : inb i n = true) {w' : va_W} (hw' : w.set q0 (a, .inl (cy 3, n, .inl (upd f i.toNatClampNeg (vp_nar .byte x)))) = w') (hdg : decode cc pc = .ok (.bastore, 1))
    (kk : ∀ (H1 : Heap) (locs1 : List Loc), GW D cy ad w' A s H1 locs1 → W p l e R s m args below meth c H1 locs1 cells slots Q (F0 m (pc + 1) ls rest)) : W p l e R s m args below meth c H locs cells slots Q (F0 m pc ls (.int x :: .int i :: .ref a :: rest)) := by
  subst hw'
  exact va_bast hC.1 hC.2.1 hW.2.2.1 hW.1 hW.2.1 hW.2.2.2.1 q0 3 ha rfl (inb_of hin) hdg (fun H1 locs1 h1 h2 h3 => kk H1 locs1 ⟨h1, h2, hW.2.2.1, h3, hW.2.2.2.2⟩)
theorem g_iret (hC : Cx p s m args meth c cc nL ws own (some .int)) (hW : GW D cy ad w A s H locs) {v : Int32} (hdg : decode cc pc = .ok (.ireturn, 1)) : W p l e R s m args below meth c H locs cells slots (MQ below (QI D cy w A v) args s cells slots A) (F0 m pc ls [.int v]) :=
  W.iret hC.1 hC.2.1 hC.2.2.2.2.2.1 (fun t ht hWm => ⟨⟨v, (), rfl, rfl, by rw [ht]; exact hW.1, va_K.moved hWm.alike hW.2.2.1, hW.2.1⟩, hW.2.2.2.1.F ht⟩) hW.2.2.2.1.2.2 hdg hC.2.2.2.2.2.2
theorem g_zret (hC : Cx p s m args meth c cc nL ws own (some .boolean)) (hW : GW D cy ad w A s H locs) {v : Int32} (hz : isz v = true) (hdg : decode cc pc = .ok (.ireturn, 1)) : W p l e R s m args below meth c H locs cells slots (MQ below (QI D cy w A v) args s cells slots A) (F0 m pc ls [.int v]) :=
  W.zret hC.1 hC.2.1 hC.2.2.2.2.2.1 (isz_of hz) (fun t ht hWm => ⟨⟨v, (), rfl, rfl, by rw [ht]; exact hW.1, va_K.moved hWm.alike hW.2.2.1, hW.2.1⟩, hW.2.2.2.1.F ht⟩) hW.2.2.2.1.2.2 hdg hC.2.2.2.2.2.2
theorem g_lret (hC : Cx p s m args meth c cc nL ws own (some .long)) (hW : GW D cy ad w A s H locs) {v : Int64} (hdg : decode cc pc = .ok (.lreturn, 1)) : W p l e R s m args below meth c H locs cells slots (MQ below (QL D cy w A v) args s cells slots A) (F0 m pc ls [.long v]) :=
  W.lret hC.1 hC.2.1 hC.2.2.2.2.2.1 (fun t ht hWm => ⟨⟨v, (), rfl, rfl, by rw [ht]; exact hW.1, va_K.moved hWm.alike hW.2.2.1, hW.2.1⟩, hW.2.2.2.1.F ht⟩) hW.2.2.2.1.2.2 hdg hC.2.2.2.2.2.2
theorem g_vret (hC : Cx p s m args meth c cc nL ws own none) (hW : GW D cy ad w A s H locs) (hdg : decode cc pc = .ok (.return_, 1)) : W p l e R s m args below meth c H locs cells slots (MQ below (QV D cy w A) args s cells slots A) (F0 m pc ls []) :=
  W.vret hC.1 hC.2.1 hC.2.2.2.2.2.1 (fun t ht hWm => ⟨⟨(), rfl, trivial, by rw [ht]; exact hW.1, va_K.moved hWm.alike hW.2.2.1, hW.2.1⟩, hW.2.2.2.1.F ht⟩) hW.2.2.2.1.2.2 hdg hC.2.2.2.2.2.2
/-- the callee's part wc of the world w, and the world w' when that has become wc1 -/
def Sub (w wc wc1 w' : va_W) : Prop := ∃ (isC isR pm : List Nat) (wr : va_W), isC.map (fun i => w[i]?) = wc.map some ∧ isR.map (fun i => w[i]?) = wr.map some ∧ va_nd isC = true ∧ va_nd isR = true ∧ (∀ i ∈ isR, i ∉ isC) ∧ pm.map (fun i => (wr ++ wc1)[i]?) = w'.map some ∧ va_nd pm = true
theorem va_P.subm {D : va_G} {cl : List vw_C} {w w' : va_W} {H : Heap} (h : va_P D cl w H) {is : List Nat} (hs : is.map (fun i => w[i]?) = w'.map some) : va_P D cl w' H := by
  refine h.sub is ?_
  have e : is.filterMap (fun i => w[i]?) = (is.map (fun i => w[i]?)).filterMap id := by rw [List.filterMap_map]; rfl
  rw [e, hs, List.filterMap_map]
  exact List.filterMap_some
theorem range_get (w : va_W) : (List.range w.length).map (fun i => w[i]?) = w.map some := by
  apply List.ext_getElem
  · simp
  · intro i h1 h2
    have h3 : i < w.length := by simpa using h2
    simp [h3]
theorem nd_range : ∀ (l : List Nat), l.Nodup → va_nd l = true
  | [], _ => rfl
  | a :: l, h => by
    have h2 := List.nodup_cons.mp h
    simp only [va_nd, Bool.and_eq_true, decide_eq_true_eq]
    exact ⟨h2.1, nd_range l h2.2⟩
theorem Sub.all (w w1 : va_W) : Sub w w w1 w1 :=
  ⟨List.range w.length, [], List.range w1.length, [], range_get w, rfl, nd_range _ List.nodup_range, rfl, (fun _ h => by cases h), range_get w1, nd_range _ List.nodup_range⟩
theorem Sub.nil (w : va_W) : Sub w [] [] w := by
  refine ⟨[], List.range w.length, List.range w.length, w, rfl, range_get w, rfl, nd_range _ List.nodup_range, (fun _ _ h => by cases h), ?_, nd_range _ List.nodup_range⟩
  rw [List.append_nil]
  exact range_get w
theorem GW.free {wc wc1 w' : va_W} (hW : GW D cy ad w A s H locs) (hs : Sub w wc wc1 w') : ∀ q, va_A wc H.size q → A q := by
  obtain ⟨isC, isR, pm, wr, h1, -⟩ := hs
  exact va_free hW.2.1 hW.2.2.2.1 hW.2.2.2.2.1 isC h1
theorem GW.pre {wc wc1 w' : va_W} (hW : GW D cy ad w A s H locs) (hs : Sub w wc wc1 w') (Ar : List Value) : ∀ U : State, U.heap = H → s.WarmedH U.vm → va_Pc Ar (Pw D cy ad wc H.size) Ar.toArray U := by
  have hf := hW.free hs
  obtain ⟨isC, isR, pm, wr, h1, h2, h3, -⟩ := hs
  intro U hU hWm
  refine ⟨rfl, by rw [hU], by rw [hU]; exact hW.1.subm h1, va_K.moved hWm.alike hW.2.2.1, (hW.2.1.sub isC h3 h1).weaken (fun _ _ _ _ => trivial), hW.2.2.2.2.2.call hW.2.2.2.1 hf hU hWm⟩
theorem GW.join {wc wc1 w' : va_W} {t : State} {H1 : Heap} {locs1 : List Loc} (hW : GW D cy ad w A s H locs) (hs : Sub w wc wc1 w') (ht : t.heap = H1) (hB : Bw D cy wc1 (va_A wc H.size) () t) (hk : ∀ q : Nat, q < H.size → ¬ va_A wc H.size q → H1[q]? = H[q]?) (hS1 : va_S A s.heap H1 locs1) : GW D cy ad w' A s H1 locs1 := by
  have hf := hW.free hs
  obtain ⟨isC, isR, pm, wr, h1, h2, h3, h4, h5, h6, h7⟩ := hs
  obtain ⟨hP1, -, hD1⟩ := hB
  rw [ht] at hP1
  obtain ⟨hP, hD⟩ := va_join hW.1 hW.2.1 isC isR h1 h2 h4 h5 hk hf hP1 hD1
  exact ⟨hP.subm h6, hD.sub pm h7 h6, hW.2.2.1, hS1, hW.2.2.2.2⟩
theorem GW.recv {wc wc1 w' : va_W} (hW : GW D cy ad w A s H locs) (hs : Sub w wc wc1 w') {b ci q0 : Nat} {fs : List Value} {q : vw_C} (hc : vwCl[ci]? = some q) (he : wc[q0]? = some (b, .inr (ci, fs))) : ∃ cell : Cell, H[b]? = some cell ∧ cell.vm.isStatics = false ∧ s.vm.findClass q.1 = some cell.cls := by
  obtain ⟨isC, isR, pm, wr, h1, -⟩ := hs
  exact va_recv hW.2.2.1 (hW.1.subm h1) hc he
variable {y : MethodName} {bytes : ByteArray} {maxL n index b : Nat} {ret' : Option FieldType} {wsc : List Cond} {rm : Room} {wc wc1 w' : va_W} {As st0 : List Value} {C host : String} {r : Int32} {rl : Int64}
/-- invokevirtual -/
theorem g_calliV (hC : Cx p s m args meth c cc nL ws own ret) (hW : GW D cy ad w A s H locs) (hM : GCi l y wsc rm (.ref b :: As) D cy ad wc wc1 r) (cw : CallW R s args own C index y bytes maxL ret' wsc rm 0 0 n) (hs : Sub w wc wc1 w') (q0 ci : Nat) {q : vw_C} {fs : List Value} (hc : vwCl[ci]? = some q) (hq : q.1 = C) (he : wc[q0]? = some (b, .inr (ci, fs))) (hn : As.length = n) (hsz : ls.size = nL) (hst : st0 = As.reverse ++ .ref b :: rest) (hrm : (rest.map fun v => v.category).sum ≤ 8) (hdg : decode cc pc = .ok (.invokevirtual index, 3)) (hf : cells ≤ R.cells ∧ slots ≤ R.slots)
    (kk : ∀ (H1 : Heap) (locs1 : List Loc), GW D cy ad w' A s H1 locs1 → W p l e R s m args below meth c H1 locs1 cells slots Q (F0 m (pc + 3) ls (.int r :: rest))) : W p l e R s m args below meth c H locs cells slots Q (F0 m pc ls st0) :=
  va_calli (va_runV (As := As) (rest := rest) ⟨hC.1, hC.2.1, hC.2.2.1, hC.2.2.2.1, hC.2.2.2.2.1⟩ (hM H.size) cw ⟨Pw_blind _ D cy ad wc _, by rw [← hq]; exact hW.recv hs hc he, hW.pre hs _⟩ rfl hn hsz hst (lv_room (pc := pc) (ls := ls) (rest := st0) hrm) hdg hf) hW.2.2.2.1 (fun q' _ h => hW.free hs q' h) (hW.free hs) (fun r' u t H1 locs1 ht hvm hw hB hz1 hk1 hS1 => by
    subst hw
    exact kk H1 locs1 (hW.join hs ht hB hk1 hS1))
theorem g_calllV (hC : Cx p s m args meth c cc nL ws own ret) (hW : GW D cy ad w A s H locs) (hM : GCl l y wsc rm (.ref b :: As) D cy ad wc wc1 rl) (cw : CallW R s args own C index y bytes maxL ret' wsc rm 0 0 n) (hs : Sub w wc wc1 w') (q0 ci : Nat) {q : vw_C} {fs : List Value} (hc : vwCl[ci]? = some q) (hq : q.1 = C) (he : wc[q0]? = some (b, .inr (ci, fs))) (hn : As.length = n) (hsz : ls.size = nL) (hst : st0 = As.reverse ++ .ref b :: rest) (hrm : (rest.map fun v => v.category).sum ≤ 8) (hdg : decode cc pc = .ok (.invokevirtual index, 3)) (hf : cells ≤ R.cells ∧ slots ≤ R.slots)
    (kk : ∀ (H1 : Heap) (locs1 : List Loc), GW D cy ad w' A s H1 locs1 → W p l e R s m args below meth c H1 locs1 cells slots Q (F0 m (pc + 3) ls (.long rl :: rest))) : W p l e R s m args below meth c H locs cells slots Q (F0 m pc ls st0) :=
  va_calll (va_runV (As := As) (rest := rest) ⟨hC.1, hC.2.1, hC.2.2.1, hC.2.2.2.1, hC.2.2.2.2.1⟩ (hM H.size) cw ⟨Pw_blind _ D cy ad wc _, by rw [← hq]; exact hW.recv hs hc he, hW.pre hs _⟩ rfl hn hsz hst (lv_room (pc := pc) (ls := ls) (rest := st0) hrm) hdg hf) hW.2.2.2.1 (fun q' _ h => hW.free hs q' h) (hW.free hs) (fun r' u t H1 locs1 ht hvm hw hB hz1 hk1 hS1 => by
    subst hw
    exact kk H1 locs1 (hW.join hs ht hB hk1 hS1))
theorem g_callvV (hC : Cx p s m args meth c cc nL ws own ret) (hW : GW D cy ad w A s H locs) (hM : GCv l y wsc rm (.ref b :: As) D cy ad wc wc1) (cw : CallW R s args own C index y bytes maxL ret' wsc rm 0 0 n) (hs : Sub w wc wc1 w') (q0 ci : Nat) {q : vw_C} {fs : List Value} (hc : vwCl[ci]? = some q) (hq : q.1 = C) (he : wc[q0]? = some (b, .inr (ci, fs))) (hn : As.length = n) (hsz : ls.size = nL) (hst : st0 = As.reverse ++ .ref b :: rest) (hrm : (rest.map fun v => v.category).sum ≤ 8) (hdg : decode cc pc = .ok (.invokevirtual index, 3)) (hf : cells ≤ R.cells ∧ slots ≤ R.slots)
    (kk : ∀ (H1 : Heap) (locs1 : List Loc), GW D cy ad w' A s H1 locs1 → W p l e R s m args below meth c H1 locs1 cells slots Q (F0 m (pc + 3) ls rest)) : W p l e R s m args below meth c H locs cells slots Q (F0 m pc ls st0) :=
  va_callv (va_runV (As := As) (rest := rest) ⟨hC.1, hC.2.1, hC.2.2.1, hC.2.2.2.1, hC.2.2.2.2.1⟩ (hM H.size) cw ⟨Pw_blind _ D cy ad wc _, by rw [← hq]; exact hW.recv hs hc he, hW.pre hs _⟩ rfl hn hsz hst (lv_room (pc := pc) (ls := ls) (rest := st0) hrm) hdg hf) hW.2.2.2.1 (fun q' _ h => hW.free hs q' h) (hW.free hs) (fun u t H1 locs1 ht hvm hw hB hz1 hk1 hS1 => kk H1 locs1 (hW.join hs ht hB hk1 hS1))
/-- invokevirtual of a nest mate's private method -/
theorem g_calliN (hC : Cx p s m args meth c cc nL ws own ret) (hW : GW D cy ad w A s H locs) (hM : GCi l y wsc rm (.ref b :: As) D cy ad wc wc1 r) (cw : va_CN R s args own index y host bytes maxL ret' wsc rm 0 0 n ∧ (Cond.instanceMethod y).before args s = true ∧ (Cond.selects C y y).before args s = true) (hs : Sub w wc wc1 w') (q0 ci : Nat) {q : vw_C} {fs : List Value} (hc : vwCl[ci]? = some q) (hq : q.1 = C) (he : wc[q0]? = some (b, .inr (ci, fs))) (hn : As.length = n) (hsz : ls.size = nL) (hst : st0 = As.reverse ++ .ref b :: rest) (hrm : (rest.map fun v => v.category).sum ≤ 8) (hdg : decode cc pc = .ok (.invokevirtual index, 3)) (hf : cells ≤ R.cells ∧ slots ≤ R.slots)
    (kk : ∀ (H1 : Heap) (locs1 : List Loc), GW D cy ad w' A s H1 locs1 → W p l e R s m args below meth c H1 locs1 cells slots Q (F0 m (pc + 3) ls (.int r :: rest))) : W p l e R s m args below meth c H locs cells slots Q (F0 m pc ls st0) :=
  va_calli (va_runVN (As := As) (rest := rest) ⟨hC.1, hC.2.1, hC.2.2.1, hC.2.2.2.1, hC.2.2.2.2.1⟩ (hM H.size) cw ⟨Pw_blind _ D cy ad wc _, by rw [← hq]; exact hW.recv hs hc he, hW.pre hs _⟩ rfl hn hsz hst (lv_room (pc := pc) (ls := ls) (rest := st0) hrm) hdg hf) hW.2.2.2.1 (fun q' _ h => hW.free hs q' h) (hW.free hs) (fun r' u t H1 locs1 ht hvm hw hB hz1 hk1 hS1 => by
    subst hw
    exact kk H1 locs1 (hW.join hs ht hB hk1 hS1))
/-- invokestatic -/
theorem g_calliS (hC : Cx p s m args meth c cc nL ws own ret) (hW : GW D cy ad w A s H locs) (hM : GCi l y wsc rm As D cy ad wc wc1 r) (cw : CallB R s args own index y bytes maxL ret' wsc rm 0 0 n ∧ (Cond.static y).before args s = true) (hs : Sub w wc wc1 w') (hn : As.length = n) (hsz : ls.size = nL) (hst : st0 = As.reverse ++ rest) (hrm : (rest.map fun v => v.category).sum ≤ 8) (hdg : decode cc pc = .ok (.invokestatic index, 3)) (hf : cells ≤ R.cells ∧ slots ≤ R.slots)
    (kk : ∀ (H1 : Heap) (locs1 : List Loc), GW D cy ad w' A s H1 locs1 → W p l e R s m args below meth c H1 locs1 cells slots Q (F0 m (pc + 3) ls (.int r :: rest))) : W p l e R s m args below meth c H locs cells slots Q (F0 m pc ls st0) :=
  va_calli (va_runS (As := As) (rest := rest) ⟨hC.1, hC.2.1, hC.2.2.1, hC.2.2.2.1, hC.2.2.2.2.1⟩ (hM H.size) cw ⟨Pw_blind _ D cy ad wc _, hW.pre hs _⟩ rfl hn hsz hst (lv_room (pc := pc) (ls := ls) (rest := st0) hrm) hdg hf) hW.2.2.2.1 (fun q' _ h => hW.free hs q' h) (hW.free hs) (fun r' u t H1 locs1 ht hvm hw hB hz1 hk1 hS1 => by
    subst hw
    exact kk H1 locs1 (hW.join hs ht hB hk1 hS1))
theorem g_calllS (hC : Cx p s m args meth c cc nL ws own ret) (hW : GW D cy ad w A s H locs) (hM : GCl l y wsc rm As D cy ad wc wc1 rl) (cw : CallB R s args own index y bytes maxL ret' wsc rm 0 0 n ∧ (Cond.static y).before args s = true) (hs : Sub w wc wc1 w') (hn : As.length = n) (hsz : ls.size = nL) (hst : st0 = As.reverse ++ rest) (hrm : (rest.map fun v => v.category).sum ≤ 8) (hdg : decode cc pc = .ok (.invokestatic index, 3)) (hf : cells ≤ R.cells ∧ slots ≤ R.slots)
    (kk : ∀ (H1 : Heap) (locs1 : List Loc), GW D cy ad w' A s H1 locs1 → W p l e R s m args below meth c H1 locs1 cells slots Q (F0 m (pc + 3) ls (.long rl :: rest))) : W p l e R s m args below meth c H locs cells slots Q (F0 m pc ls st0) :=
  va_calll (va_runS (As := As) (rest := rest) ⟨hC.1, hC.2.1, hC.2.2.1, hC.2.2.2.1, hC.2.2.2.2.1⟩ (hM H.size) cw ⟨Pw_blind _ D cy ad wc _, hW.pre hs _⟩ rfl hn hsz hst (lv_room (pc := pc) (ls := ls) (rest := st0) hrm) hdg hf) hW.2.2.2.1 (fun q' _ h => hW.free hs q' h) (hW.free hs) (fun r' u t H1 locs1 ht hvm hw hB hz1 hk1 hS1 => by
    subst hw
    exact kk H1 locs1 (hW.join hs ht hB hk1 hS1))
end GR
/-- a contract out of a walk -/
theorem GC.start {l : Launch} {y : MethodName} {ws ws' : List Cond} {rm : Room} {Ar : List Value} {D : va_G} {cy : Nat → ClassId} {ad : Nat → Nat} {w : va_W} {Qc : (Nat → Prop) → Array Value → State → Outcome → State → Prop} {cc : ByteArray} {maxL : Nat} {ret : Option FieldType} {own : String} (sz : Nat)
    (hy : plainName y.cls = true) (hw : ws = Cond.code y cc maxL ret :: ws') (hown : y.cls = own) (hlen : (lg_sl Ar).length ≤ maxL)
    (body : ∀ (p : Program) (e : Env) (s : State) (m : MethodId) (below : List Frame) (meth : Method) (c : Code) (A : Nat → Prop) (ls : Array Slot), Cx p s m Ar.toArray meth c cc maxL ws own ret → GW D cy ad w A s s.heap [] → lv_has ls maxL (lv_args 0 Ar) →
      W p l e rm s m Ar.toArray below meth c s.heap [] 0 0 (MQ below (Qc A) Ar.toArray s 0 0 A) (F0 m 0 ls [])) : Met l y ws rm (va_Pc Ar (Pw D cy ad w sz)) (Qc (va_A w sz)) 0 0 (va_A w sz) := by
  refine Met.ofW (cc := cc) (maxL := maxL) (ret := ret) hy hw ?_
  intro p e s m args below meth c s₁ B hml hv
  obtain ⟨rfl, hsz, hP, hK, hD0, hN⟩ := hv
  have hts := atoms_spec (ws := ws) B.pre
  subst hsz
  have hl := lv_entry Ar (n := maxL) hlen
  rw [lg_entry_eq]
  exact body p e s m below meth c _ _ ⟨B.exec, B.bytes, hml, by rw [← hown]; exact findClass_of_methodNamed B.named, hts, B.returns, B.notSynchronized⟩ ⟨hP, hD0.self (sz := s.heap.size), hK, va_S.rf, fun q h => Or.inr h, hN⟩ hl
