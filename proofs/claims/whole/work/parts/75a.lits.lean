/-! laid by program: from the law's entry into its loop -/
theorem cy_of {args : Array Value} {s : State} {ty : FieldType} (hp : ∀ C, ty ≠ .object C) (h : (Cond.arrayClass ty).before args s = true) : ∃ cA : ClassId, ArrOfT s cA ty ∧ va_RA s cA ty := by
  obtain ⟨cA, kA, comp, h1, h2, h3⟩ := Cond.arrayClass_spec h
  refine ⟨cA, fun n z => ⟨fun k h => (by cases h), kA, h2, comp, h3⟩, ?_⟩
  cases ty <;> first | exact absurd rfl (hp _) | exact h1
theorem cyO_of {args : Array Value} {s : State} {C : String} (h : (Cond.arrayOver (.object C)).before args s = true) : ∃ cA : ClassId, ArrOfT s cA (.object C) ∧ va_RA s cA (.object C) := by
  obtain ⟨comp, cA, kA, h1, h2, h3, h4, h5⟩ := Cond.arrayOver_spec h
  exact ⟨cA, fun n z => ⟨fun k h => (by cases h), kA, h3, comp, h4⟩, kA, comp, h3, h4, h1, h5⟩
def tmS (i : Nat) : Term := if i = 0 then Term.string "ExtraGuest$Tape" 19 else Term.string "ExtraGuest$Tape" 54
def elS (i j : Nat) : Cond := Cond.eq (.elem (.field (tmS i) "java/lang/String" "value" "[B") (.int (Int32.ofNat j))) (.int ((sBy.getD i []).getD j 0))
theorem el_mem {l : List Cond} {c : Nat → Cond} {n : Nat} (ps : List Nat) (h : (List.range n).map c = ps.filterMap (fun i => l[i]?)) {j : Nat} (hj : j < n) : c j ∈ l := by
  have h1 : c j ∈ (List.range n).map c := List.mem_map.mpr ⟨j, List.mem_range.mpr hj, rfl⟩
  rw [h] at h1
  obtain ⟨i, -, hi⟩ := List.mem_filterMap.mp h1
  exact List.mem_of_getElem? hi
theorem str0_all : ((flatC (Jvm.Cond.and given_1 narrow_1)).drop 13).take 166 = (List.range 166).map (elS 0) := by decide +kernel
theorem str1_all : ((flatC (Jvm.Cond.and given_1 narrow_1)).drop 183).take 8 = (List.range 8).map (elS 1) := by decide +kernel
theorem str0_el {j : Nat} (hj : j < 166) : elS 0 j ∈ flatC (Jvm.Cond.and given_1 narrow_1) := by
  have h1 : elS 0 j ∈ (List.range 166).map (elS 0) := List.mem_map.mpr ⟨j, List.mem_range.mpr hj, rfl⟩
  rw [← str0_all] at h1
  exact List.mem_of_mem_drop (List.mem_of_mem_take h1)
theorem str1_el {j : Nat} (hj : j < 8) : elS 1 j ∈ flatC (Jvm.Cond.and given_1 narrow_1) := by
  have h1 : elS 1 j ∈ (List.range 8).map (elS 1) := List.mem_map.mpr ⟨j, List.mem_range.mpr hj, rfl⟩
  rw [← str1_all] at h1
  exact List.mem_of_mem_drop (List.mem_of_mem_take h1)
