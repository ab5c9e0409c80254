/-! a callee's part of a world, block by block -/
theorem nd_of : ∀ (l : List Nat), va_nd l = true → l.Nodup
  | [], _ => List.nodup_nil
  | a :: l, h => by
    simp only [va_nd, Bool.and_eq_true, decide_eq_true_eq] at h
    exact List.nodup_cons.mpr ⟨h.1, nd_of l h.2⟩
theorem get_r (w v : va_W) (i : Nat) : (w ++ v)[w.length + i]? = v[i]? := by
  rw [List.getElem?_append_right (Nat.le_add_right _ _), Nat.add_sub_cancel_left]
theorem get_l (w v : va_W) {i : Nat} (h : i < w.length) : (w ++ v)[i]? = w[i]? := List.getElem?_append_left h
theorem range_l (w v : va_W) : (List.range w.length).map (fun i => (w ++ v)[i]?) = w.map some := by
  rw [← range_get w]
  exact List.map_congr_left (fun i hi => get_l w v (List.mem_range.mp hi))
theorem map_r (w v : va_W) (l : List Nat) : (l.map (fun i => w.length + i)).map (fun i => (w ++ v)[i]?) = l.map (fun i => v[i]?) := by
  rw [List.map_map]
  exact List.map_congr_left (fun i _ => get_r w v i)
theorem nd_add {l : List Nat} (h : l.Nodup) (k : Nat) : (l.map (fun i => k + i)).Nodup := List.pairwise_map.mpr (h.imp (fun hne e => hne (by omega)))
theorem nd_rl {l : List Nat} (h : l.Nodup) (k : Nat) : (List.range k ++ l.map (fun i => k + i)).Nodup := List.nodup_append.mpr ⟨List.nodup_range, nd_add h k, fun a ha b hb e => by
  have h1 := List.mem_range.mp ha
  obtain ⟨i, -, hi⟩ := List.mem_map.mp hb
  omega⟩
theorem Sub.skipL (w : va_W) {v vc vc1 v' : va_W} (h : Sub v vc vc1 v') : Sub (w ++ v) vc vc1 (w ++ v') := by
  obtain ⟨isC, isR, pm, wr, h1, h2, h3, h4, h5, h6, h7⟩ := h
  refine ⟨isC.map (fun i => w.length + i), List.range w.length ++ isR.map (fun i => w.length + i), List.range w.length ++ pm.map (fun i => w.length + i), w ++ wr, ?_, ?_, ?_, ?_, ?_, ?_, ?_⟩
  · rw [map_r, h1]
  · rw [List.map_append, range_l, map_r, h2, List.map_append]
  · exact nd_range _ (nd_add (nd_of _ h3) _)
  · exact nd_range _ (nd_rl (nd_of _ h4) _)
  · intro i hi hc
    obtain ⟨k, hk, ek⟩ := List.mem_map.mp hc
    rcases List.mem_append.mp hi with hi | hi
    · have := List.mem_range.mp hi
      omega
    · obtain ⟨j, hj, ej⟩ := List.mem_map.mp hi
      have e : j = k := by omega
      exact h5 j hj (e ▸ hk)
  · rw [List.map_append, List.append_assoc, range_l, map_r, h6, List.map_append]
  · exact nd_range _ (nd_rl (nd_of _ h7) _)
theorem Sub.takeL (w w1 : va_W) {v vc vc1 v' : va_W} (h : Sub v vc vc1 v') : Sub (w ++ v) (w ++ vc) (w1 ++ vc1) (w1 ++ v') := by
  obtain ⟨isC, isR, pm, wr, h1, h2, h3, h4, h5, h6, h7⟩ := h
  refine ⟨List.range w.length ++ isC.map (fun i => w.length + i), isR.map (fun i => w.length + i), (List.range w1.length).map (fun i => wr.length + i) ++ pm.map (fun i => if i < wr.length then i else w1.length + i), wr, ?_, ?_, ?_, ?_, ?_, ?_, ?_⟩
  · rw [List.map_append, range_l, map_r, h1, List.map_append]
  · rw [map_r, h2]
  · exact nd_range _ (nd_rl (nd_of _ h3) _)
  · exact nd_range _ (nd_add (nd_of _ h4) _)
  · intro i hi hc
    obtain ⟨j, hj, ej⟩ := List.mem_map.mp hi
    rcases List.mem_append.mp hc with hc | hc
    · have := List.mem_range.mp hc
      omega
    · obtain ⟨k, hk, ek⟩ := List.mem_map.mp hc
      have e : j = k := by omega
      exact h5 j hj (e ▸ hk)
  · rw [List.map_append, map_r, range_l, List.map_append, ← h6, List.map_map]
    refine congrArg (fun z => w1.map some ++ z) (List.map_congr_left (fun i _ => ?_))
    show (wr ++ (w1 ++ vc1))[if i < wr.length then i else w1.length + i]? = (wr ++ vc1)[i]?
    by_cases hi : i < wr.length
    · rw [if_pos hi, get_l _ _ hi, get_l _ _ hi]
    · rw [if_neg hi]
      obtain ⟨k, rfl⟩ : ∃ k, i = wr.length + k := ⟨i - wr.length, by omega⟩
      rw [show w1.length + (wr.length + k) = wr.length + (w1.length + k) by omega, get_r, get_r, get_r]
  · have n1 : (pm.map (fun i => if i < wr.length then i else w1.length + i)).Nodup := List.pairwise_map.mpr ((nd_of _ h7).imp (fun {a b} hne e => by
      have e' : (if a < wr.length then a else w1.length + a) = (if b < wr.length then b else w1.length + b) := e
      apply hne
      split at e' <;> split at e' <;> omega))
    have n2 : ∀ a ∈ (List.range w1.length).map (fun i => wr.length + i), ∀ b ∈ pm.map (fun i => if i < wr.length then i else w1.length + i), a ≠ b := by
      intro a m1 b m2 e
      obtain ⟨i, hi, ei⟩ := List.mem_map.mp m1
      obtain ⟨j, hj, ej⟩ := List.mem_map.mp m2
      have h8 := List.mem_range.mp hi
      have ej' : (if j < wr.length then j else w1.length + j) = b := ej
      split at ej' <;> omega
    exact nd_range _ (List.nodup_append.mpr ⟨nd_add List.nodup_range _, n1, n2⟩)
theorem Sub.takeLast (w w1 v : va_W) : Sub (w ++ v) w w1 (w1 ++ v) := by
  have h := Sub.takeL w w1 (Sub.nil v)
  rw [List.append_nil, List.append_nil] at h
  exact h
