-- reading the whole text: its fault; what it asks
def prsF (tx : Nat → Int) (L : Nat) : Nat → Nat → Int
  | 0, _ => -1
  | f + 1, a => match cnR tx L a with
    | none => (cnF tx L a : Int)
    | some (_, _, a2) => if hrT tx L a2 = 38 ∨ hrT tx L a2 = 124 then prsF tx L f (a2 + 1) else if a2 < L then (a2 : Int) else -1
def prsS (tx : Nat → Int) (L : Nat) (told : Int) (wh : Nat → Int) (t : Int) : Nat → Nat → Prop → Prop → Prop
  | 0, _, _, _ => False
  | f + 1, a, cl, cu => match cnR tx L a with
    | none => False
    | some (b, v, a2) => if hrT tx L a2 = 38 then prsS tx L told wh t f (a2 + 1) cl (cu ∧ hold told wh t b v) else if hrT tx L a2 = 124 then prsS tx L told wh t f (a2 + 1) (cl ∨ (cu ∧ hold told wh t b v)) True else if a2 < L then False else cl ∨ (cu ∧ hold told wh t b v)
section PRS
variable {tx : Nat → Int} {L : Nat}
theorem prsF_no {f a : Nat} (h : cnR tx L a = none) : prsF tx L (f + 1) a = (cnF tx L a : Int) := by unfold prsF; rw [h]
theorem prsF_go {f a a2 : Nat} {b v : Int} (h : cnR tx L a = some (b, v, a2)) (hj : hrT tx L a2 = 38 ∨ hrT tx L a2 = 124) : prsF tx L (f + 1) a = prsF tx L f (a2 + 1) := by
  show (match cnR tx L a with | none => (cnF tx L a : Int) | some (_, _, a2) => if hrT tx L a2 = 38 ∨ hrT tx L a2 = 124 then prsF tx L f (a2 + 1) else if a2 < L then (a2 : Int) else -1) = _
  rw [h]; show (if _ then _ else _) = _; rw [if_pos hj]
theorem prsF_bad {f a a2 : Nat} {b v : Int} (h : cnR tx L a = some (b, v, a2)) (hj : ¬ (hrT tx L a2 = 38 ∨ hrT tx L a2 = 124)) (h2 : a2 < L) : prsF tx L (f + 1) a = (a2 : Int) := by
  show (match cnR tx L a with | none => (cnF tx L a : Int) | some (_, _, a2) => if hrT tx L a2 = 38 ∨ hrT tx L a2 = 124 then prsF tx L f (a2 + 1) else if a2 < L then (a2 : Int) else -1) = _
  rw [h]; show (if _ then _ else if _ then _ else _) = _; rw [if_neg hj, if_pos h2]
theorem prsF_end {f a a2 : Nat} {b v : Int} (h : cnR tx L a = some (b, v, a2)) (hj : ¬ (hrT tx L a2 = 38 ∨ hrT tx L a2 = 124)) (h2 : ¬ a2 < L) : prsF tx L (f + 1) a = -1 := by
  show (match cnR tx L a with | none => (cnF tx L a : Int) | some (_, _, a2) => if hrT tx L a2 = 38 ∨ hrT tx L a2 = 124 then prsF tx L f (a2 + 1) else if a2 < L then (a2 : Int) else -1) = _
  rw [h]; show (if _ then _ else if _ then _ else _) = _; rw [if_neg hj, if_neg h2]
variable {told : Int} {wh : Nat → Int} {t : Int} {cl cu : Prop}
theorem prsS_e {f a : Nat} : prsS tx L told wh t (f + 1) a cl cu = match cnR tx L a with
    | none => False
    | some (b, v, a2) => if hrT tx L a2 = 38 then prsS tx L told wh t f (a2 + 1) cl (cu ∧ hold told wh t b v) else if hrT tx L a2 = 124 then prsS tx L told wh t f (a2 + 1) (cl ∨ (cu ∧ hold told wh t b v)) True else if a2 < L then False else cl ∨ (cu ∧ hold told wh t b v) := rfl
theorem prsS_and {f a a2 : Nat} {b v : Int} (h : cnR tx L a = some (b, v, a2)) (hj : hrT tx L a2 = 38) : prsS tx L told wh t (f + 1) a cl cu ↔ prsS tx L told wh t f (a2 + 1) cl (cu ∧ hold told wh t b v) := by
  rw [prsS_e, h]; show (if _ then _ else _) ↔ _; rw [if_pos hj]
theorem prsS_or {f a a2 : Nat} {b v : Int} (h : cnR tx L a = some (b, v, a2)) (hj : hrT tx L a2 = 124) : prsS tx L told wh t (f + 1) a cl cu ↔ prsS tx L told wh t f (a2 + 1) (cl ∨ (cu ∧ hold told wh t b v)) True := by
  rw [prsS_e, h]; show (if _ then _ else if _ then _ else _) ↔ _; rw [if_neg (by omega), if_pos hj]
theorem prsS_end {f a a2 : Nat} {b v : Int} (h : cnR tx L a = some (b, v, a2)) (h1 : ¬ hrT tx L a2 = 38) (h3 : ¬ hrT tx L a2 = 124) (h2 : ¬ a2 < L) : prsS tx L told wh t (f + 1) a cl cu ↔ cl ∨ (cu ∧ hold told wh t b v) := by
  rw [prsS_e, h]; show (if _ then _ else if _ then _ else if _ then _ else _) ↔ _; rw [if_neg h1, if_neg h3, if_neg h2]
theorem prs_fault : ∀ (f a : Nat) (cl cu : Prop), prsF tx L f a ≠ -1 → ¬ prsS tx L told wh t f a cl cu
  | 0, a, cl, cu, _ => fun h => h
  | f + 1, a, cl, cu, hF => by
    rw [prsS_e]
    cases hc : cnR tx L a with
    | none => exact fun h => h
    | some q =>
      obtain ⟨b, v, a2⟩ := q
      show ¬ (if _ then _ else if _ then _ else if _ then _ else _)
      by_cases h1 : hrT tx L a2 = 38
      · rw [if_pos h1]; exact prs_fault f (a2 + 1) _ _ (by rw [← prsF_go hc (Or.inl h1)]; exact hF)
      · rw [if_neg h1]
        by_cases h2 : hrT tx L a2 = 124
        · rw [if_pos h2]; exact prs_fault f (a2 + 1) _ _ (by rw [← prsF_go hc (Or.inr h2)]; exact hF)
        · rw [if_neg h2]
          by_cases h3 : a2 < L
          · rw [if_pos h3]; exact fun h => h
          · exact absurd (prsF_end hc (fun z => z.elim h1 h2) h3) hF
theorem prsS_congr : ∀ (f a : Nat) {cl cl' cu cu' : Prop}, (cl ↔ cl') → (cu ↔ cu') → (prsS tx L told wh t f a cl cu ↔ prsS tx L told wh t f a cl' cu')
  | _, _, _, _, _, _, h1, h2 => by rw [propext h1, propext h2]
end PRS
