theorem csP_s (le nu be : Nat → Int) (told : Int) (wh : Nat → Int) (t : Int) (k : Nat) : csP le nu be told wh t (k + 1) = if be k = 1 then ((csP le nu be told wh t k).1 ∨ (0 < k ∧ (csP le nu be told wh t k).2), hold told wh t (le k) (nu k)) else ((csP le nu be told wh t k).1, (csP le nu be told wh t k).2 ∧ hold told wh t (le k) (nu k)) := rfl
theorem csP_cg {le nu be le' nu' be' : Nat → Int} {told : Int} {wh : Nat → Int} {t : Int} : ∀ {k : Nat}, (∀ j, j < k → le j = le' j ∧ nu j = nu' j ∧ be j = be' j) → csP le nu be told wh t k = csP le' nu' be' told wh t k
  | 0, _ => rfl
  | k + 1, h => by
    rw [csP_s, csP_s, csP_cg (fun j hj => h j (by omega)), (h k (by omega)).1, (h k (by omega)).2.1, (h k (by omega)).2.2]
theorem cnR_ok {tx : Nat → Int} {L a a2 : Nat} {b v : Int} (h : cnR tx L a = some (b, v, a2)) (hL : a ≤ L) : cdOk b v ∧ a < L ∧ a + 1 ≤ a2 ∧ a2 ≤ L := by
  have hg := cnR_gt h hL
  unfold cnR at h
  unfold cdOk
  by_cases h1 : hrT tx L a = 116
  · rw [if_pos h1] at h; cases h; exact ⟨by omega, hg.1, hg.2, hg.1⟩
  · rw [if_neg h1] at h
    by_cases h2 : hrT tx L a = 109
    · rw [if_pos h2] at h
      have h8 := nmb_le tx L 2 (a + 1) 0 hg.1
      split at h
      · cases h
      · rename_i hb
        unfold nBadB at hb
        simp at hb
        cases h; exact ⟨by omega, hg.1, hg.2, h8.2⟩
    · rw [if_neg h2] at h
      by_cases h3 : hrT tx L a = 110
      · rw [if_pos h3] at h
        have h8 := nmb_le tx L 1 (a + 1) 0 hg.1
        split at h
        · cases h
        · rename_i hb
          unfold nBadB at hb
          simp at hb
          cases h; exact ⟨by omega, hg.1, hg.2, h8.2⟩
      · rw [if_neg h3] at h
        by_cases h4 : hrT tx L a = 107
        · rw [if_pos h4] at h
          have h8 := nmb_le tx L 1 (a + 1) 0 hg.1
          split at h
          · cases h
          · rename_i hb
            unfold nBadB at hb
            simp at hb
            cases h; exact ⟨by omega, hg.1, hg.2, h8.2⟩
        · rw [if_neg h4] at h; cases h
/-- what is left to read behind a condition that ends at a2 -/
def rsF (tx : Nat → Int) (L f a2 : Nat) : Int := if hrT tx L a2 = 38 ∨ hrT tx L a2 = 124 then prsF tx L f (a2 + 1) else if a2 < L then (a2 : Int) else -1
def rsS (tx : Nat → Int) (L : Nat) (told : Int) (wh : Nat → Int) (t : Int) (f a2 : Nat) (cl cu : Prop) : Prop := if hrT tx L a2 = 38 then prsS tx L told wh t f (a2 + 1) cl cu else if hrT tx L a2 = 124 then prsS tx L told wh t f (a2 + 1) (cl ∨ cu) True else if a2 < L then False else cl ∨ cu
theorem prsF_rs {tx : Nat → Int} {L f a a2 : Nat} {b v : Int} (h : cnR tx L a = some (b, v, a2)) : prsF tx L (f + 1) a = rsF tx L f a2 := by
  show (match cnR tx L a with | none => (cnF tx L a : Int) | some (_, _, a2) => if hrT tx L a2 = 38 ∨ hrT tx L a2 = 124 then prsF tx L f (a2 + 1) else if a2 < L then (a2 : Int) else -1) = _
  rw [h]; rfl
theorem prsS_rs {tx : Nat → Int} {L f a a2 : Nat} {b v : Int} {told : Int} {wh : Nat → Int} {t : Int} {cl cu : Prop} (h : cnR tx L a = some (b, v, a2)) : prsS tx L told wh t (f + 1) a cl cu ↔ rsS tx L told wh t f a2 cl (cu ∧ hold told wh t b v) := by
  rw [prsS_e, h]; exact Iff.rfl
theorem rsS_cg {tx : Nat → Int} {L f a2 : Nat} {told : Int} {wh : Nat → Int} {t : Int} {cl cl' cu cu' : Prop} (h1 : cl ↔ cl') (h2 : cu ↔ cu') : rsS tx L told wh t f a2 cl cu ↔ rsS tx L told wh t f a2 cl' cu' := by rw [propext h1, propext h2]
/-- K conditions are read, the reader stands behind the last at a2 -/
def PJ (tx : Nat → Int) (L : Nat) (zm : Mem) (K a2 : Nat) : Prop := (zm 49 12 = (L : Int) ∧ zm 49 14 = 1 ∧ zm 49 15 = (a2 : Int) ∧ zm 49 16 = -1 ∧ zm 49 17 = (K : Int)) ∧ (1 ≤ K ∧ 2 * K ≤ a2 + 1 ∧ a2 ≤ L ∧ L ≤ 40) ∧ zm 61 0 = 1 ∧ (∀ k, k < K → (zm 61 k = 0 ∨ zm 61 k = 1) ∧ cdOk (zm 59 k) (zm 60 k)) ∧ prsF tx L 41 0 = rsF tx L (41 - K) a2 ∧ ∀ told wh t, SPx tx L told wh t ↔ rsS tx L told wh t (41 - K) a2 (csP (zm 59) (zm 60) (zm 61) told wh t K).1 (csP (zm 59) (zm 60) (zm 61) told wh t K).2
/-- one more condition was read -/
def Nw (zm zn : Mem) (K : Nat) (b v g : Int) (a2 : Nat) : Prop := (zn 49 15 = (a2 : Int) ∧ zn 49 16 = -1 ∧ zn 49 17 = (K : Int) + 1) ∧ zn 59 = uset (zm 59) K b ∧ zn 60 = uset (zm 60) K v ∧ zn 61 = uset (zm 61) K g
section PJS
variable {tx : Nat → Int} {L K a a2 a3 : Nat} {zm zn : Mem} {b v : Int}
theorem PJ.first (h12 : zn 49 12 = (L : Int)) (h14 : zn 49 14 = 1) (hL : L ≤ 40) (hc : cnR tx L 0 = some (b, v, a2)) (hN : Nw zm zn 0 b v 1 a2) : PJ tx L zn 1 a2 := by
  obtain ⟨⟨n1, n2, n3⟩, n4, n5, n6⟩ := hN
  obtain ⟨o1, o2, o3, o4⟩ := cnR_ok hc (Nat.zero_le _)
  have e1 : zn 61 0 = 1 := by rw [n6, uset_eq]
  have e2 : zn 59 0 = b := by rw [n4, uset_eq]
  have e3 : zn 60 0 = v := by rw [n5, uset_eq]
  refine ⟨⟨h12, h14, n1, n2, by rw [n3]; rfl⟩, ⟨by omega, by omega, o4, hL⟩, e1, fun k hk => ?_, prsF_rs hc, fun told wh t => ?_⟩
  · rw [show k = 0 by omega, e1, e2, e3]; exact ⟨Or.inr rfl, o1⟩
  · unfold SPx
    rw [prsS_rs hc, csP_s, if_pos e1, e2, e3]
    refine rsS_cg ?_ ?_
    · show False ↔ False ∨ (0 < 0 ∧ True)
      constructor
      · exact fun q => q.elim
      · rintro (q | q)
        · exact q
        · exact absurd q.1 (by decide)
    · show True ∧ _ ↔ _
      exact ⟨fun q => q.2, fun q => ⟨trivial, q⟩⟩
theorem PJ.next (h : PJ tx L zm K a2) (h12 : zn 49 12 = (L : Int)) (h14 : zn 49 14 = 1) (hj : hrT tx L a2 = 38 ∨ hrT tx L a2 = 124) (hl : a2 < L) (hc : cnR tx L (a2 + 1) = some (b, v, a3)) (hN : Nw zm zn K b v (if hrT tx L a2 = 124 then 1 else 0) a3) : PJ tx L zn (K + 1) a3 := by
  obtain ⟨_, ⟨b1, b2, b3, b4⟩, b5, b6, b7, b8⟩ := h
  obtain ⟨⟨n1, n2, n3⟩, n4, n5, n6⟩ := hN
  obtain ⟨o1, o2, o3, o4⟩ := cnR_ok hc (by omega)
  have e1 : zn 61 K = if hrT tx L a2 = 124 then 1 else 0 := by rw [n6, uset_eq]
  have e2 : zn 59 K = b := by rw [n4, uset_eq]
  have e3 : zn 60 K = v := by rw [n5, uset_eq]
  have er : ∀ j, j < K → zm 59 j = zn 59 j ∧ zm 60 j = zn 60 j ∧ zm 61 j = zn 61 j := fun j hj => by
    rw [n4, n5, n6, uset_ne _ _ (by omega), uset_ne _ _ (by omega), uset_ne _ _ (by omega)]; exact ⟨rfl, rfl, rfl⟩
  refine ⟨⟨h12, h14, n1, n2, by rw [n3]; rfl⟩, ⟨by omega, by omega, o4, b4⟩, by rw [n6, uset_ne _ _ (by omega)]; exact b5, fun k hk => ?_, ?_, fun told wh t => ?_⟩
  · by_cases q : k = K
    · rw [q, e1, e2, e3]
      refine ⟨?_, o1⟩
      split
      · exact Or.inr rfl
      · exact Or.inl rfl
    · rw [← (er k (by omega)).1, ← (er k (by omega)).2.1, ← (er k (by omega)).2.2]; exact b6 k (by omega)
  · rw [b7]
    unfold rsF
    rw [if_pos hj, show 41 - K = (41 - (K + 1)) + 1 by omega, prsF_rs hc]; rfl
  · rw [b8 told wh t, csP_cg er, csP_s, e1, e2, e3]
    generalize csP (zn 59) (zn 60) (zn 61) told wh t K = cs
    have hf : 41 - K = (41 - (K + 1)) + 1 := by omega
    by_cases q : hrT tx L a2 = 124
    · have q3 : ¬ hrT tx L a2 = 38 := by omega
      unfold rsS
      rw [if_neg q3, if_pos q, if_pos q, if_pos rfl, hf]
      refine (prsS_rs hc).trans (rsS_cg ?_ ?_)
      · show _ ∨ _ ↔ _ ∨ (0 < K ∧ _)
        constructor
        · rintro (z | z)
          · exact Or.inl z
          · exact Or.inr ⟨by omega, z⟩
        · rintro (z | z)
          · exact Or.inl z
          · exact Or.inr z.2
      · exact ⟨fun z => z.2, fun z => ⟨trivial, z⟩⟩
    · have q3 : hrT tx L a2 = 38 := by omega
      rw [if_neg q, if_neg (by decide)]
      unfold rsS
      rw [if_pos q3, hf]
      exact prsS_rs hc
theorem PJ.stop (h : PJ tx L zm K a2) (hj : hrT tx L a2 = 38 ∨ hrT tx L a2 = 124) (hl : a2 < L) (hc : cnR tx L (a2 + 1) = none) : prsF tx L 41 0 = (cnF tx L (a2 + 1) : Int) := by
  obtain ⟨_, ⟨b1, b2, b3, b4⟩, b5, b6, b7, b8⟩ := h
  rw [b7]
  unfold rsF
  rw [if_pos hj, show 41 - K = (41 - (K + 1)) + 1 by omega]
  exact prsF_no hc
theorem PJ.bad (h : PJ tx L zm K a2) (hj : ¬ (hrT tx L a2 = 38 ∨ hrT tx L a2 = 124)) (hl : a2 < L) : prsF tx L 41 0 = (a2 : Int) := by
  rw [h.2.2.2.2.1]
  unfold rsF
  rw [if_neg hj, if_pos hl]
theorem PJ.fin (h : PJ tx L zm K a2) (hl : ¬ a2 < L) : Prsd tx L zm := by
  obtain ⟨⟨a1, a0, a2', a3, a4⟩, ⟨b1, b2, b3, b4⟩, b5, b6, b7, b8⟩ := h
  have hh : hrT tx L a2 = -1 := by unfold hrT; rw [if_neg hl]
  have hf : prsF tx L 41 0 = -1 := by
    rw [b7]; unfold rsF; rw [if_neg (by omega), if_neg hl]
  refine ⟨a3.trans hf.symm, fun _ => ⟨K, a4, b1, by omega, b5, b6, fun told wh t _ => ?_⟩⟩
  rw [b8 told wh t]
  unfold rsS
  rw [if_neg (by omega), if_neg (by omega), if_neg hl]
end PJS
