set_option maxRecDepth 100000 in
set_option maxHeartbeats 8000000 in
theorem nx_of {args : Array Value} {s : State} (hts : ∀ w ∈ lw_tbl, w.before args s = true) (hgv : (Jvm.Cond.and given_1 narrow_1).before args s = true) : ∃ ad : Nat → Nat, NX ad (fun q : Nat => s.heap.size ≤ q) s := by
  have hfl := flat_of_before _ hgv
  have hA : ∀ a : Nat, a < s.heap.size → ¬ (fun q : Nat => s.heap.size ≤ q) a := fun a h => Nat.not_le.mpr h
  obtain ⟨adK, adV, hS, hE⟩ := vk_Sof (args := args) (s := s) (N := 2) (tm := tmS) (len := sLe) (byt := sBy) (A := fun q : Nat => s.heap.size ≤ q) (by decide)
    (fun i hi => by
      match i, hi with
      | 0, _ => exact (hfl _ (List.mem_of_getElem? (i := 9) rfl))
      | 1, _ => exact (hfl _ (List.mem_of_getElem? (i := 179) rfl)))
    (fun i hi => by
      match i, hi with
      | 0, _ => exact (hfl _ (List.mem_of_getElem? (i := 10) rfl))
      | 1, _ => exact (hfl _ (List.mem_of_getElem? (i := 180) rfl)))
    (fun i hi => by
      match i, hi with
      | 0, _ => exact (hfl _ (List.mem_of_getElem? (i := 11) rfl))
      | 1, _ => exact (hfl _ (List.mem_of_getElem? (i := 181) rfl)))
    (fun i hi => by
      match i, hi with
      | 0, _ => exact (hfl _ (List.mem_of_getElem? (i := 12) rfl))
      | 1, _ => exact (hfl _ (List.mem_of_getElem? (i := 182) rfl)))
    (fun i hi j hj => by
      match i, hi with
      | 0, _ => exact hfl _ (str0_el hj)
      | 1, _ => exact hfl _ (str1_el hj))
    (fun i j hi hj hij => by
      match i, hi, j, hj, hij with
      | 0, _, 0, _, hij => exact absurd rfl hij
      | 1, _, 1, _, hij => exact absurd rfl hij
      | 0, _, 1, _, _ => exact Or.inl (hfl _ (List.mem_of_getElem? (i := 191) rfl))
      | 1, _, 0, _, _ => exact Or.inr (hfl _ (List.mem_of_getElem? (i := 191) rfl))) hA
  refine ⟨fun k => if k = 0 then adK 0 else if k = 1 then adV 0 else if k = 2 then adK 1 else adV 1, ?_, ?_, ?_, ?_, ?_, ?_, ?_⟩
  · exact (List.forall_mem_cons.mpr ⟨va_Nw.of rfl (hts _ (List.mem_of_getElem? (i := 669) rfl)), (List.forall_mem_cons.mpr ⟨va_Nw.of rfl (hts _ (List.mem_of_getElem? (i := 718) rfl)), (List.forall_mem_cons.mpr ⟨va_Nw.of rfl (hts _ (List.mem_of_getElem? (i := 136) rfl)), (List.forall_mem_cons.mpr ⟨va_Nw.of rfl (hts _ (List.mem_of_getElem? (i := 303) rfl)), (List.forall_mem_cons.mpr ⟨va_Nw.of rfl (hts _ (List.mem_of_getElem? (i := 381) rfl)), (List.forall_mem_cons.mpr ⟨va_Nw.of rfl (hts _ (List.mem_of_getElem? (i := 400) rfl)), (List.forall_mem_cons.mpr ⟨va_Nw.of rfl (hts _ (List.mem_of_getElem? (i := 443) rfl)), (List.forall_mem_cons.mpr ⟨va_Nw.of rfl (hts _ (List.mem_of_getElem? (i := 456) rfl)), (List.forall_mem_cons.mpr ⟨va_Nw.of rfl (hts _ (List.mem_of_getElem? (i := 469) rfl)), (List.forall_mem_cons.mpr ⟨va_Nw.of rfl (hts _ (List.mem_of_getElem? (i := 239) rfl)), (List.forall_mem_cons.mpr ⟨va_Nw.of rfl (hts _ (List.mem_of_getElem? (i := 142) rfl)), (fun _ h => by cases h)⟩)⟩)⟩)⟩)⟩)⟩)⟩)⟩)⟩)⟩)⟩)
  · exact vk_R.of (hts _ (List.mem_of_getElem? (i := 152) rfl)) (hE 0 (by decide))
  · exact vk_R.of (hts _ (List.mem_of_getElem? (i := 562) rfl)) (hE 1 (by decide))
  · exact ⟨fun i hi => by
      match i, hi with
      | 0, _ => exact hS.1 0 (by decide)
      | 1, _ => exact hS.1 1 (by decide), fun i j hi hj h => by
      match i, hi, j, hj, h with
      | 0, _, 0, _, _ => rfl
      | 1, _, 1, _, _ => rfl
      | 0, _, 1, _, h => exact hS.2 0 1 (by decide) (by decide) h
      | 1, _, 0, _, h => exact hS.2 1 0 (by decide) (by decide) h⟩
  · exact va_Zof (hts _ (List.mem_of_getElem? (i := 162) rfl)) (hts _ (List.mem_of_getElem? (i := 110) rfl)) (va_eqt (hfl _ (List.mem_of_getElem? (i := 4) rfl))) hA
  · exact va_Zqof (hts _ (List.mem_of_getElem? (i := 178) rfl)) (hts _ (List.mem_of_getElem? (i := 112) rfl)) (hfl _ (List.mem_of_getElem? (i := 5) rfl)) hA
  · exact va_AO.of (hts _ (List.mem_of_getElem? (i := 440) rfl))
