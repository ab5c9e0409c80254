/-! makers: rows that make cells, contracts of makers -/
def o0 : Ob := (fun _ => 0, fun _ => 0, fun _ _ => 0, fun _ _ => 0)
theorem ra_eq {U : State} {c1 c2 : ClassId} {ty : FieldType} (hp : ∀ C, ty ≠ .object C) (h1 : va_RA U c1 ty) (h2 : va_RA U c2 ty) : c1 = c2 := by
  cases ty <;> first | exact absurd rfl (hp _) | exact Option.some.inj (h1.symm.trans h2)
theorem ra_eqO {U : State} {c1 c2 : ClassId} {C : String} (h1 : va_RA U c1 (.object C)) (h2 : va_RA U c2 (.object C)) : c1 = c2 := by
  obtain ⟨_, _, _, _, _, g1⟩ := h1
  obtain ⟨_, _, _, _, _, g2⟩ := h2
  exact Option.some.inj (g1.symm.trans g2)
abbrev QN (D : va_G) (cy : Nat → ClassId) (w1 : (Nat → Nat → Nat) → va_W) (A : Nat → Prop) (h0 : Nat) : Array Value → State → Outcome → State → Prop := va_Qv (fun u : Nat → Nat → Nat => u 0 0 = h0) (fun u t => Bw D cy (w1 u) A () t) A
def GCn (l : Launch) (y : MethodName) (ws : List Cond) (rm : Room) (Ar : List Value) (D : va_G) (cy : Nat → ClassId) (ad : Nat → Nat) (w : va_W) (h0 : Nat) (w1 : (Nat → Nat → Nat) → va_W) (mc ms : Nat) : Prop := ∀ sz, Met l y ws rm (va_Pc Ar (Pw D cy ad w sz)) (QN D cy w1 (va_A w sz) h0) mc ms (va_A w sz)
section GN
variable {p : Program} {l : Launch} {e : Env} {R : Room} {s : State} {m : MethodId} {args : Array Value} {below : List Frame} {meth : Method} {c : Code} {H : Heap} {locs : List Loc} {cells slots : Nat} {Q : State → Prop}
variable {cc : ByteArray} {nL : Nat} {ws : List Cond} {own : String} {ret : Option FieldType} {D : va_G} {cy : Nat → ClassId} {ad : Nat → Nat} {w : va_W} {A : Nat → Prop} {pc : Nat} {ls : Array Slot} {rest : List Value}
theorem GW.perm {w' : va_W} (hW : GW D cy ad w A s H locs) (is : List Nat) (hi : is.map (fun i => w[i]?) = w'.map some) (hn : va_nd is = true) : GW D cy ad w' A s H locs :=
  ⟨hW.1.subm hi, hW.2.1.sub is hn hi, hW.2.2⟩
theorem g_newa (hC : Cx p s m args meth c cc nL ws own ret) (hW : GW D cy ad w A s H locs) (t : Nat) {ty : FieldType} {atype : ArrayType} (ht : (Ty5 cy)[t]? = some (cy t, ty)) (hty : newarray.typeOf atype = ty) (hob : ∀ C, ty ≠ .object C) (iL : Nat) (hlk : ws[iL]? = some (.arrayClass ty)) {n : Int32} {N : Nat} {a0 : vp_A} (ha : ∀ cA : ClassId, vp_cell cA a0 = arrV cA N (fun _ => defaultValue ty)) (hn : ¬ n < 0) (hN : n.toNatClampNeg = N) (hb2 : N * componentBytes ty ≤ 536870912) (hcells : cells + 1 ≤ R.cells) (hslots : slots + N ≤ R.slots) (hdg : decode cc pc = .ok (.newarray atype, 2))
    (kk : ∀ (q : Nat) (H1 : Heap), GW D cy ad (w ++ [(q, .inl (cy t, a0))]) A s H1 locs → W p l e R s m args below meth c H1 locs (cells + 1) (slots + N) Q (F0 m (pc + 2) ls (.ref q :: rest))) : W p l e R s m args below meth c H locs cells slots Q (F0 m pc ls (.int n :: rest)) := by
  subst hty
  refine va_newa hC.1 hC.2.1 (hC.2.2.2.2.1 _ (List.mem_of_getElem? hlk)) rfl hW.2.2.1 hW.1 hW.2.1 hW.2.2.2.1 hW.2.2.2.2.1 ha hn hN hb2 hcells hslots hdg (fun q cA H1 hK hP hD hS => ?_)
  have e1 := (hK.2 5 (cA, newarray.typeOf atype) rfl).2
  have e2 := (hW.2.2.1.2 t _ ht).2
  have e3 : cA = cy t := ra_eq hob e1 e2
  subst e3
  exact kk q H1 ⟨hP, hD, hW.2.2.1, hS, hW.2.2.2.2⟩
theorem g_newq (hC : Cx p s m args meth c cc nL ws own ret) (hW : GW D cy ad w A s H locs) {index : Nat} (iL : Nat) (hlk : ws[iL]? = some (.classLink own index "ExtraGuest$Book")) {n : Int32} {N : Nat} (hn : ¬ n < 0) (hN : n.toNatClampNeg = N) (hb2 : N * 4 ≤ 536870912) (hcells : cells + 1 ≤ R.cells) (hslots : slots + N ≤ R.slots) (hdg : decode cc pc = .ok (.anewarray index, 3))
    (kk : ∀ (q : Nat) (H1 : Heap), GW D cy ad (w ++ [(q, .inl (cy 4, N, .inr (.inr (.inr (.inr (fun _ => none))))))]) A s H1 locs → W p l e R s m args below meth c H1 locs (cells + 1) (slots + N) Q (F0 m (pc + 3) ls (.ref q :: rest))) : W p l e R s m args below meth c H locs cells slots Q (F0 m pc ls (.int n :: rest)) := by
  refine va_newq hC.1 hC.2.1 hC.2.2.2.1 (hC.2.2.2.2.1 _ (List.mem_of_getElem? hlk)) hW.2.2.2.2.2.2.2.2.2.2.2 hW.2.2.1 hW.1 hW.2.1 hW.2.2.2.1 hW.2.2.2.2.1 hn hN hb2 hcells hslots hdg (fun q cA H1 hK hP hD hS => ?_)
  have e1 := (hK.2 5 (cA, .object "ExtraGuest$Book") rfl).2
  have e2 := (hW.2.2.1.2 4 _ rfl).2
  have e3 : cA = cy 4 := ra_eqO e1 e2
  subst e3
  exact kk q H1 ⟨hP, hD, hW.2.2.1, hS, hW.2.2.2.2⟩
theorem g_astq (hC : Cx p s m args meth c cc nL ws own ret) (hW : GW D cy ad w A s H locs) (q0 qk : Nat) {a n v : Nat} {vs : List Value} {f : Nat → Option Nat} (ha : w[q0]? = some (a, .inl (cy 4, n, .inr (.inr (.inr (.inr f)))))) (hv : w[qk]? = some (v, .inr (0, vs))) {i : Int32} (hin : inb i n = true) {w' : va_W} (hw' : w.set q0 (a, .inl (cy 4, n, .inr (.inr (.inr (.inr (va_up f i.toNatClampNeg (some v))))))) = w') (hdg : decode cc pc = .ok (.aastore, 1))
    (kk : ∀ (H1 : Heap) (locs1 : List Loc), GW D cy ad w' A s H1 locs1 → W p l e R s m args below meth c H1 locs1 cells slots Q (F0 m (pc + 1) ls rest)) : W p l e R s m args below meth c H locs cells slots Q (F0 m pc ls (.ref v :: .int i :: .ref a :: rest)) := by
  subst hw'
  exact va_astq hC.1 hC.2.1 hW.2.2.1 hW.1 hW.2.1 hW.2.2.2.1 q0 4 qk 0 ha rfl hv rfl (inb_of hin) hdg (fun H1 locs1 h1 h2 h3 => kk H1 locs1 ⟨h1, h2, hW.2.2.1, h3, hW.2.2.2.2⟩)
theorem g_new (hC : Cx p s m args meth c cc nL ws own ret) (hW : GW D cy ad w A s H locs) {C : String} {T : u_T} {N ci index : Nat} (hin : ∀ x ∈ u_ws C T N, x ∈ ws) (ty0 : Nat → FieldType) (hty : ∀ k, k < N → parseFieldDescriptor (T k).2.2.1 = some (ty0 k)) (i1 i2 i3 : Nat) (h1 : ws[i1]? = some (.classLink own index C)) (h2 : ws[i2]? = some (.instantiable C N)) (h3 : ws[i3]? = some (.initialized C)) (hc : vwCl[ci]? = some (C, T, N)) {fs : List Value} (hfs : ∀ j, j < N → defaultValue (ty0 j) = vp_V fs j) (hcells : cells + 1 ≤ R.cells) (hslots : slots + N ≤ R.slots) (hdg : decode cc pc = .ok (.new index, 3))
    (kk : ∀ (q : Nat) (H1 : Heap), GW D cy ad (w ++ [(q, .inr (ci, fs))]) A s H1 locs → W p l e R s m args below meth c H1 locs (cells + 1) (slots + N) Q (F0 m (pc + 3) ls (.ref q :: rest))) : W p l e R s m args below meth c H locs cells slots Q (F0 m pc ls rest) :=
  va_new hC.1 hC.2.1 hC.2.2.2.2.1 hin ty0 hty hC.2.2.2.1 (hC.2.2.2.2.1 _ (List.mem_of_getElem? h1)) (hC.2.2.2.2.1 _ (List.mem_of_getElem? h2)) (hC.2.2.2.2.1 _ (List.mem_of_getElem? h3)) hW.2.2.1 hW.1 hW.2.1 hW.2.2.2.1 hW.2.2.2.2.1 hc hfs hcells hslots hdg (fun q H1 hP hD hS => kk q H1 ⟨hP, hD, hW.2.2.1, hS, hW.2.2.2.2⟩)
theorem g_putF (hC : Cx p s m args meth c cc nL ws own ret) (hW : GW D cy ad w A s H locs) (hini : meth.name = "<init>") {C : String} {T : u_T} {N ci index a : Nat} {fs : List Value} {v : Value} (hin : ∀ x ∈ u_ws C T N, x ∈ ws) (ty0 : Nat → FieldType) (hty : ∀ k, k < N → parseFieldDescriptor (T k).2.2.1 = some (ty0 k)) (hnm : ∀ a, a < N → ∀ b, b < N → a ≠ b → (T a).2.1 ≠ (T b).2.1) (q0 : Nat) (he : w[q0]? = some (a, .inr (ci, fs))) (hc : vwCl[ci]? = some (C, T, N)) (k : Nat) (hk : k < N) (iL : Nat) (hlk : ws[iL]? = some (.fieldLink own index (T k).1 (T k).2.1 (T k).2.2.1)) (hfin : (T k).2.2.2 = true) (hdecl : (T k).1 = own) (hn : narrow (ty0 k) v = v) (hfit : fits (ty0 k) v = true) (hl : k < fs.length) {w' : va_W} (hw' : w.set q0 (a, .inr (ci, fs.set k v)) = w') (hdg : decode cc pc = .ok (.putfield index, 3))
    (kk : ∀ (H1 : Heap) (locs1 : List Loc), GW D cy ad w' A s H1 locs1 → W p l e R s m args below meth c H1 locs1 cells slots Q (F0 m (pc + 3) ls rest)) : W p l e R s m args below meth c H locs cells slots Q (F0 m pc ls (v :: .ref a :: rest)) := by
  subst hw'
  exact va_putF hC.1 hC.2.1 hC.2.2.2.2.1 hin ty0 hty hnm hC.2.2.2.1 hW.2.2.1 hW.1 hW.2.1 hW.2.2.2.1 q0 he hc k hk (hC.2.2.2.2.1 _ (List.mem_of_getElem? hlk)) (fun _ h => h) hfin hini hdecl (hty k hk) hn hfit hl hdg (fun H1 locs1 h1 h2 h3 => kk H1 locs1 ⟨h1, h2, hW.2.2.1, h3, hW.2.2.2.2⟩)
theorem g_oinit (hC : Cx p s m args meth c cc nL ws own ret) {idx : Nat} (i1 i2 i3 : Nat) (h1 : ws[i1]? = some (.methodLink own idx Lib.objectInit)) (h2 : ws[i2]? = some (.instanceMethod Lib.objectInit)) (h3 : ws[i3]? = some (.code Lib.objectInit ⟨#[0xb1]⟩ 1 none)) (hsz : ls.size = nL) {a : Nat} (hd : decode cc pc = .ok (.invokespecial idx, 3)) (hfr : 1 ≤ R.frames) (hlo : (rest.map fun v => v.category).sum + 12 ≤ R.locals)
    (kk : W p l e R s m args below meth c H locs cells slots Q (F0 m (pc + 3) ls rest)) : W p l e R s m args below meth c H locs cells slots Q (F0 m pc ls (.ref a :: rest)) :=
  W.objInit hC.1 hC.2.1 hC.2.2.2.1 (hC.2.2.2.2.1 _ (List.mem_of_getElem? h1)) (hC.2.2.2.2.1 _ (List.mem_of_getElem? h2)) (hC.2.2.2.2.1 _ (List.mem_of_getElem? h3)) (g := F0 m pc ls (.ref a :: rest)) rfl (by rw [hC.2.2.1]; exact hsz) rfl hd hfr (by show 2 * 0 + _ + 12 ≤ _; omega) kk
theorem g_vretn (hC : Cx p s m args meth c cc nL ws own none) {w1 : (Nat → Nat → Nat) → va_W} {h0 : Nat} (u : Nat → Nat → Nat) (hu : u 0 0 = h0) (hW : GW D cy ad (w1 u) A s H locs) (hdg : decode cc pc = .ok (.return_, 1)) : W p l e R s m args below meth c H locs cells slots (MQ below (QN D cy w1 A h0) args s cells slots A) (F0 m pc ls []) :=
  W.vret hC.1 hC.2.1 hC.2.2.2.2.2.1 (fun t ht hWm => ⟨⟨u, rfl, hu, by rw [ht]; exact hW.1, va_K.moved hWm.alike hW.2.2.1, hW.2.1⟩, hW.2.2.2.1.F ht⟩) hW.2.2.2.1.2.2 hdg hC.2.2.2.2.2.2
variable {y : MethodName} {bytes : ByteArray} {maxL n index b mc ms : Nat} {wsc : List Cond} {rm : Room} {wc : va_W} {wc1 w' : (Nat → Nat → Nat) → va_W} {host : String}
theorem g_callnN (hC : Cx p s m args meth c cc nL ws own ret) (hW : GW D cy ad w A s H locs) (hM : GCn l y wsc rm [.ref b] D cy ad wc b wc1 mc ms) (cw : va_CN R s args own index y host bytes maxL none wsc rm mc ms 0 ∧ y.name = "<init>" ∧ (Cond.instanceMethod y).before args s = true) (hs : ∀ u, Sub w wc (wc1 u) (w' u)) (hsz : ls.size = nL) (hrm : (rest.map fun v => v.category).sum ≤ 8) (hdg : decode cc pc = .ok (.invokespecial index, 3)) (hf : cells + mc ≤ R.cells ∧ slots + ms ≤ R.slots)
    (kk : ∀ (u : Nat → Nat → Nat) (H1 : Heap) (locs1 : List Loc), u 0 0 = b → GW D cy ad (w' u) A s H1 locs1 → W p l e R s m args below meth c H1 locs1 (cells + mc) (slots + ms) Q (F0 m (pc + 3) ls rest)) : W p l e R s m args below meth c H locs cells slots Q (F0 m pc ls (.ref b :: rest)) :=
  va_callv (va_runIN (As := []) (rest := rest) ⟨hC.1, hC.2.1, hC.2.2.1, hC.2.2.2.1, hC.2.2.2.2.1⟩ (hM H.size) cw ⟨Pw_blind _ D cy ad wc _, hW.pre (hs (fun _ _ => 0)) _⟩ rfl rfl hsz rfl (lv_room (pc := pc) (ls := ls) (rest := .ref b :: rest) hrm) hdg hf) hW.2.2.2.1 (fun q' _ h => hW.free (hs (fun _ _ => 0)) q' h) (hW.free (hs (fun _ _ => 0))) (fun u t H1 locs1 ht hvm hw hB hz1 hk1 hS1 => kk u H1 locs1 hw (hW.join (hs u) ht hB hk1 hS1))
theorem g_callnI (hC : Cx p s m args meth c cc nL ws own ret) (hW : GW D cy ad w A s H locs) (hM : GCn l y wsc rm [.ref b] D cy ad wc b wc1 mc ms) (cw : CallB R s args own index y bytes maxL none wsc rm mc ms 0 ∧ y.name = "<init>" ∧ (Cond.instanceMethod y).before args s = true) (hs : ∀ u, Sub w wc (wc1 u) (w' u)) (hsz : ls.size = nL) (hrm : (rest.map fun v => v.category).sum ≤ 8) (hdg : decode cc pc = .ok (.invokespecial index, 3)) (hf : cells + mc ≤ R.cells ∧ slots + ms ≤ R.slots)
    (kk : ∀ (u : Nat → Nat → Nat) (H1 : Heap) (locs1 : List Loc), u 0 0 = b → GW D cy ad (w' u) A s H1 locs1 → W p l e R s m args below meth c H1 locs1 (cells + mc) (slots + ms) Q (F0 m (pc + 3) ls rest)) : W p l e R s m args below meth c H locs cells slots Q (F0 m pc ls (.ref b :: rest)) :=
  va_callv (va_runI (As := []) (rest := rest) ⟨hC.1, hC.2.1, hC.2.2.1, hC.2.2.2.1, hC.2.2.2.2.1⟩ (hM H.size) cw ⟨Pw_blind _ D cy ad wc _, hW.pre (hs (fun _ _ => 0)) _⟩ rfl rfl hsz rfl (lv_room (pc := pc) (ls := ls) (rest := .ref b :: rest) hrm) hdg hf) hW.2.2.2.1 (fun q' _ h => hW.free (hs (fun _ _ => 0)) q' h) (hW.free (hs (fun _ _ => 0))) (fun u t H1 locs1 ht hvm hw hB hz1 hk1 hS1 => kk u H1 locs1 hw (hW.join (hs u) ht hB hk1 hS1))
theorem g_gso (hC : Cx p s m args meth c cc nL ws own ret) (hW : GW D cy ad w A s H locs) {index : Nat} (iL : Nat) (hlk : ws[iL]? = some (.fieldLink own index "jdk/internal/util/Preconditions" "SIOOBE_FORMATTER" "Ljava/util/function/BiFunction;")) (hdg : decode cc pc = .ok (.getstatic index, 3))
    (k0 : W p l e R s m args below meth c H locs cells slots Q (F0 m (pc + 3) ls (.null :: rest))) (k1 : ∀ t : Nat, W p l e R s m args below meth c H locs cells slots Q (F0 m (pc + 3) ls (.ref t :: rest))) : W p l e R s m args below meth c H locs cells slots Q (F0 m pc ls rest) := by
  rcases hW.2.2.2.2.2.2.2.2.2.2.1 with h | ⟨t, h⟩
  · exact va_gets hC.1 hC.2.1 h hW.2.2.2.1 hC.2.2.2.1 (hC.2.2.2.2.1 _ (List.mem_of_getElem? hlk)) (fun _ h => h) hdg k0
  · exact va_gets hC.1 hC.2.1 h hW.2.2.2.1 hC.2.2.2.1 (hC.2.2.2.2.1 _ (List.mem_of_getElem? hlk)) (fun _ h => h) hdg (k1 t)
end GN
theorem GCn.start {l : Launch} {y : MethodName} {ws ws' : List Cond} {rm : Room} {Ar : List Value} {D : va_G} {cy : Nat → ClassId} {ad : Nat → Nat} {w : va_W} {Qc : (Nat → Prop) → Array Value → State → Outcome → State → Prop} {cc : ByteArray} {maxL mc ms : Nat} {ret : Option FieldType} {own : String} (sz : Nat)
    (hy : plainName y.cls = true) (hw : ws = Cond.code y cc maxL ret :: ws') (hown : y.cls = own) (hlen : (lg_sl Ar).length ≤ maxL) (hnm : y.name = "<init>")
    (body : ∀ (p : Program) (e : Env) (s : State) (m : MethodId) (below : List Frame) (meth : Method) (c : Code) (A : Nat → Prop) (ls : Array Slot), meth.name = "<init>" → Cx p s m Ar.toArray meth c cc maxL ws own ret → GW D cy ad w A s s.heap [] → lv_has ls maxL (lv_args 0 Ar) →
      W p l e rm s m Ar.toArray below meth c s.heap [] 0 0 (MQ below (Qc A) Ar.toArray s mc ms A) (F0 m 0 ls [])) : Met l y ws rm (va_Pc Ar (Pw D cy ad w sz)) (Qc (va_A w sz)) mc ms (va_A w sz) := by
  refine Met.ofW (cc := cc) (maxL := maxL) (ret := ret) hy hw ?_
  intro p e s m args below meth c s₁ B hml hv
  obtain ⟨rfl, hsz, hP, hK, hD0, hN⟩ := hv
  have hts := atoms_spec (ws := ws) B.pre
  subst hsz
  have hl := lv_entry Ar (n := maxL) hlen
  rw [lg_entry_eq]
  exact body p e s m below meth c _ _ ((name_of_methodNamed B.named B.method).1.trans hnm) ⟨B.exec, B.bytes, hml, by rw [← hown]; exact findClass_of_methodNamed B.named, hts, B.returns, B.notSynchronized⟩ ⟨hP, hD0.self (sz := s.heap.size), hK, va_S.rf, fun q h => Or.inr h, hN⟩ hl
