/-! pure: the line of two who shun each other -/
theorem inp_ctx {C : Nat → Nat} {t N n g i s r : Nat} {S0 SR SG ST SC SI SM : Ob} (h : InP C t N n g S0 SR SG ST SC SI SM i s r) {SM' : Ob} (h20 : SM'.1 20 = SM.1 20) (h19 : SM'.1 19 = SM.1 19) (h15 : SM'.2.2.2 15 = SM.2.2.2 15) (h17 : SM'.2.2.1 17 = SM.2.2.1 17) : CtxN SI n g SM' := by
  obtain ⟨hsy, hF, hs, hsi, hr, hri, i20, i19, hNm, hGu, hSg, hBl⟩ := h
  have g1 := hGu.1
  have s1 := hSg.1
  refine ⟨g1, s1, hGu.2.1, hSg.2.1, nms_of hGu.2.1 g1 hSg.2.1 s1 (by omega) (Or.inr ⟨h20.trans i20, h19.trans i19, rfl, rfl⟩) ?_⟩
  rw [h15, h17]
  exact nmt_of hNm
