theorem co0 : CoOk mem0 := by unfold CoOk; decide +kernel
theorem sh0 : ShOk mem0 := by unfold ShOk; decide +kernel
theorem nm0 : NmOk mem0 := ⟨0, by decide +kernel, by decide, by decide +kernel⟩
theorem z0 : mem0 16 4 = 0 ∧ mem0 16 5 = 0 := by decide +kernel
