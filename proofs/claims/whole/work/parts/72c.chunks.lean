/-! words of the law by chunk and place -/
theorem goodIn_c {big : List Cond} (ch : List (List Cond)) (hch : ∀ l ∈ ch, ∀ w ∈ l, w ∈ big) (ws : List Cond) (qs : List (Nat × Nat)) (hp : ws = qs.filterMap (fun q => (ch.getD q.1 [])[q.2]?)) (h : ws.all goodWord = true) : GoodIn big ws := by
  intro w hw
  have h1 := List.all_eq_true.mp h w hw
  rw [hp] at hw
  obtain ⟨q, -, hq⟩ := List.mem_filterMap.mp hw
  have hm : w ∈ ch.getD q.1 [] := List.mem_of_getElem? hq
  refine ⟨?_, good_of_word h1⟩
  rw [List.getD_eq_getElem?_getD] at hm
  cases e : ch[q.1]? with
  | none => rw [e] at hm; exact absurd hm (by simp)
  | some l => rw [e] at hm; exact hch l (List.mem_of_getElem? e) w hm
def lawCh : List (List Cond) := [wsL_law_r1, wsL_law_r2, wsL_law_r3, wsL_law_r4, wsL_law_r5, wsL_law_r6, wsL_law_r7, wsL_law_r8, wsL_law_r9, wsL_law_r10, wsL_law_r11, wsL_law_r12, wsL_law_r13, wsL_law_r14, wsL_law_r15, wsL_law_r16, wsL_law_r17, wsL_law_r18, wsL_law_r19, wsL_law_r20, wsL_law_r21, wsL_law_r22, wsL_law_r23, wsL_law_r24, wsL_law_r25, wsL_law_r26, wsL_law_r27, wsL_law_r28, wsL_law_r29, wsL_law_r30, wsL_law_r31, wsL_law_r32, wsL_law_r33, wsL_law_r34, wsL_law_r35, wsL_law_r36, wsL_law_r37, wsL_law_r38, wsL_law_r39, wsL_law_r40, wsL_law_r41, wsL_law_r42, wsL_law_r43, wsL_law_r44, wsL_law_r45, wsL_law_r46, wsL_law_r47, wsL_law_r48, wsL_law_r49, wsL_law_r50, wsL_law_r51, wsL_law_r52, wsL_law_r53, wsL_law_r54, wsL_law_r55, wsL_law_r56, wsL_law_r57, wsL_law_r58, wsL_law_r59, wsL_law_r60, wsX110, wsX120, wsX90, wsX40, wsX70, wsX00, wsX80, wsX10, wsX50, wsX30, wsX100, wsX20]
theorem lawCh_in : ∀ l ∈ lawCh, ∀ w ∈ l, w ∈ wsL_law := by
  have e : wsL_law = lawCh.flatten := by
    simp only [wsL_law, lawCh, List.flatten_cons, List.flatten_nil, List.append_assoc, List.append_nil]
  intro l hl w hw
  rw [e]
  exact List.mem_flatten.mpr ⟨l, hl, hw⟩
