/-! pure: lines of an inn leave row 12 as it was -/
def KpR {β : Type} (P : β → Prop) (x : Option β) : Prop := ∀ r, x = some r → P r
theorem kp_bd {α β : Type} {P : β → Prop} {x : Option α} {f : α → Option β} (h : ∀ a, x = some a → KpR P (f a)) : KpR P (bd x f) := fun r hr => by
  obtain ⟨a, ha, hf⟩ := bd_of hr
  exact h a ha r hf
theorem kp_lt {α β : Type} {P : β → Prop} {x : α} {f : α → Option β} (h : KpR P (f x)) : KpR P (lt x f) := h
theorem kp_ck {β : Type} {P : β → Prop} {b : Bool} {x : Option β} (h : KpR P x) : KpR P (ck b x) := fun r hr => h r (ck_of hr).2
theorem kp_if {β : Type} {P : β → Prop} {c : Prop} [Decidable c] {x y : Option β} (h1 : KpR P x) (h2 : KpR P y) : KpR P (if c then x else y) := by
  split
  · exact h1
  · exact h2
theorem kp_some {β : Type} {P : β → Prop} {a : β} (h : P a) : KpR P (some a) := fun r hr => by
  rw [← Option.some.inj hr]; exact h
theorem kp_none {β : Type} {P : β → Prop} : KpR P (none : Option β) := fun r hr => by cases hr
theorem k12_addGuest (x : Int64) (a b c : Int32) (SI : Ob) : KpR (fun S : Ob => S.2.2.1 12 = SI.2.2.1 12) (f4_addGuest x a b c SI) := by
  unfold f4_addGuest f4_addGuest_81
  repeat' (with_reducible first | refine kp_bd (fun _ _ => ?_) | refine kp_if ?_ ?_ | refine kp_ck ?_ | refine kp_lt ?_)
  all_goals exact kp_some rfl
theorem k12_addSign (x : Int64) (a : Int32) (SI : Ob) : KpR (fun S : Ob => S.2.2.1 12 = SI.2.2.1 12) (f4_addSign x a SI) := by
  unfold f4_addSign f4_addSign_49
  repeat' (with_reducible first | refine kp_bd (fun _ _ => ?_) | refine kp_if ?_ ?_ | refine kp_ck ?_ | refine kp_lt ?_)
  all_goals exact kp_some rfl
theorem k12_guest (SR SG ST SI : Ob) : KpR (fun r : Int32 × Ob × Ob × Ob => r.2.2.2.2.2.1 12 = SI.2.2.1 12) (f9_guestLine SR SG ST SI) := by
  unfold f9_guestLine f9_guestLine_79
  repeat' (with_reducible first | refine kp_bd (fun _ _ => ?_) | refine kp_if ?_ ?_ | refine kp_ck ?_ | refine kp_lt ?_)
  all_goals (refine kp_some ?_; first | rfl | exact k12_addGuest _ _ _ _ _ _ ‹_›)
theorem k12_sign (SR SG ST SC SI : Ob) : KpR (fun r : Int32 × Ob × Ob × Ob × Ob × Ob => r.2.2.2.2.2.2.2.1 12 = SI.2.2.1 12) (f9_signLine SR SG ST SC SI) := by
  unfold f9_signLine f9_signLine_101
  repeat' (with_reducible first | refine kp_bd (fun _ _ => ?_) | refine kp_if ?_ ?_ | refine kp_ck ?_ | refine kp_lt ?_)
  all_goals (refine kp_some ?_; first | rfl | exact k12_addSign _ _ _ _ ‹_›)
theorem k12_shun (SR SG ST SI : Ob) : KpR (fun r : Int32 × Ob × Ob × Ob => r.2.2.2.2.2.1 12 = SI.2.2.1 12) (f9_shunLine SR SG ST SI) := by
  unfold f9_shunLine f9_shunLine_63
  repeat' (with_reducible first | refine kp_bd (fun _ _ => ?_) | refine kp_if ?_ ?_ | refine kp_ck ?_ | refine kp_lt ?_)
  all_goals exact kp_some rfl
theorem k12_sees_52 (SI : Ob) : ∀ (m : Nat) (x2 x3 x4 : Int32) (SR SG ST : Ob), KpR (fun r : Int32 × Ob × Ob × Ob => r.2.2.2.2.2.1 12 = SI.2.2.1 12) (f9_seesLine_52 m x2 x3 x4 SR SG ST SI) := by
  intro m
  induction m with
  | zero => intro x2 x3 x4 SR SG ST; exact kp_none
  | succ m ih =>
    intro x2 x3 x4 SR SG ST
    rw [f9_seesLine_52]
    unfold f9_seesLine_79 f9_seesLine_135
    repeat' (with_reducible first | refine kp_bd (fun _ _ => ?_) | refine kp_if ?_ ?_ | refine kp_ck ?_ | refine kp_lt ?_)
    all_goals (with_reducible first | exact ih _ _ _ _ _ _ | (refine kp_some ?_))
    all_goals rfl
theorem k12_sees (SR SG ST SI : Ob) : KpR (fun r : Int32 × Ob × Ob × Ob => r.2.2.2.2.2.1 12 = SI.2.2.1 12) (f9_seesLine SR SG ST SI) := by
  unfold f9_seesLine
  repeat' (with_reducible first | refine kp_bd (fun _ _ => ?_) | refine kp_if ?_ ?_ | refine kp_ck ?_ | refine kp_lt ?_)
  all_goals (with_reducible first | exact k12_sees_52 _ _ _ _ _ _ _ _ | (refine kp_some ?_))
  all_goals rfl
theorem k12_line (SR SG ST SC SI : Ob) : KpR (fun r : Int32 × Ob × Ob × Ob × Ob × Ob => r.2.2.2.2.2.2.2.1 12 = SI.2.2.1 12) (f9_innLine SR SG ST SC SI) := by
  unfold f9_innLine
  repeat' (with_reducible refine kp_if ?_ ?_)
  · exact kp_bd (fun a ha => kp_ck (kp_some (k12_guest SR SG ST SI a ha)))
  · exact kp_bd (fun a ha => kp_ck (kp_some (k12_sign SR SG ST SC SI a ha)))
  · exact kp_bd (fun a ha => kp_ck (kp_some (k12_sees SR SG ST SI a ha)))
  · exact kp_bd (fun a ha => kp_ck (kp_some (k12_shun SR SG ST SI a ha)))
  · exact kp_bd (fun a ha => kp_ck (kp_some rfl))
  · exact kp_bd (fun a ha => kp_ck (kp_some rfl))
