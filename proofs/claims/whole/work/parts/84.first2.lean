theorem co0 : CoOk mem0 := by unfold CoOk; decide +kernel
theorem sh0 : ShOk mem0 := by unfold ShOk; decide +kernel
theorem nm0 : NmOk mem0 := ⟨0, by decide +kernel, by decide, by decide +kernel⟩
theorem z0 : mem0 16 4 = 0 ∧ mem0 16 5 = 0 := by decide +kernel
theorem ev0 : EvOk16 mem0 := by unfold EvOk16 EvR; decide +kernel
theorem cn0 : cnR (mem0 11) 0 0 = none := by decide +kernel
theorem tx0 : TxOk mem0 := by
  refine ⟨0, by decide +kernel, by decide, by decide +kernel, by unfold RuOk; decide +kernel, by decide +kernel, fun told wh t _ => ⟨fun h => ?_, fun h => ?_⟩⟩
  · obtain ⟨j, hj, -⟩ := h
    rw [show mem0 10 4 = 0 by decide +kernel] at hj
    exact absurd hj (Nat.not_lt_zero j)
  · unfold SPx prsS at h
    rw [cn0] at h
    exact h.elim
theorem mi0 : MI mem0 mem0 := by
  refine ⟨by unfold MPc; decide +kernel, by unfold MPt; decide +kernel, by unfold MPx; decide +kernel, by unfold MPs; decide +kernel, Or.inl (by decide +kernel), fun h => ?_⟩
  rw [show mem0 49 14 = 0 by decide +kernel] at h
  cases h
theorem jn0 : Jn mem0 := ⟨⟨co0, ev0, z0, tx0, nm0, sh0⟩, mi0⟩
