-- minute by minute: arrivals are there for every company
def sim (fm : Nat → Int) (K : Nat → Bool) (lag seen : Nat → Int) : Nat → Nat → Int
  | 0, c => if K c then 60 else fm c
  | T + 1, c => if K c = true ∧ sim fm K lag seen T c = 60 ∧ (T : Int) + lag c < 60 ∧ seen c ≤ (cnO (sim fm K lag seen T) 8 T : Int) then (T : Int) + lag c else sim fm K lag seen T c
section SIM
variable {fm : Nat → Int} {K : Nat → Bool} {lag seen : Nat → Int}
theorem sim_s (T c : Nat) : sim fm K lag seen (T + 1) c = if K c = true ∧ sim fm K lag seen T c = 60 ∧ (T : Int) + lag c < 60 ∧ seen c ≤ (cnO (sim fm K lag seen T) 8 T : Int) then (T : Int) + lag c else sim fm K lag seen T c := rfl
theorem sim_own {T c : Nat} (hk : K c = false) : sim fm K lag seen T c = fm c := by
  induction T with
  | zero => show (if K c then 60 else fm c) = _; rw [hk]; rfl
  | succ T ih => rw [sim_s, if_neg (by rw [hk]; simp), ih]
theorem sim_bd (hf : ∀ c, c < 8 → K c = false → 0 ≤ fm c ∧ fm c ≤ 60) (hl : ∀ c, c < 8 → K c = true → 1 ≤ lag c) {T c : Nat} (hc : c < 8) : 0 ≤ sim fm K lag seen T c ∧ sim fm K lag seen T c ≤ 60 := by
  induction T with
  | zero =>
    show 0 ≤ (if K c then 60 else fm c) ∧ (if K c then 60 else fm c) ≤ 60
    cases hk : K c with
    | true => simp
    | false => simp; exact hf c hc hk
  | succ T ih =>
    rw [sim_s]
    split
    · rename_i h; have := hl c hc h.1; omega
    · exact ih
theorem sim_stab (hl : ∀ c, c < 8 → K c = true → 1 ≤ lag c) {c : Nat} (hc : c < 8) (u : Nat) (hu : u < 60) : ∀ d : Nat, (sim fm K lag seen (u + d) c ≤ (u : Int) ↔ sim fm K lag seen u c ≤ (u : Int)) := by
  intro d
  induction d with
  | zero => exact Iff.rfl
  | succ d ih =>
    rw [← ih, show u + (d + 1) = (u + d) + 1 by omega, sim_s]
    split
    · rename_i h
      have h1 := hl c hc h.1
      omega
    · exact Iff.rfl
theorem sim_cn (hl : ∀ c, c < 8 → K c = true → 1 ≤ lag c) {u : Nat} (hu : u < 60) : cnO (sim fm K lag seen 60) 8 u = cnO (sim fm K lag seen u) 8 u := by
  apply cnt_congr
  intro c hc
  have := sim_stab (fm := fm) (seen := seen) hl hc u hu (60 - u)
  rw [show u + (60 - u) = 60 by omega] at this
  simp [this]
theorem sim_look {c : Nat} (hk : K c = true) : ∀ T : Nat, (sim fm K lag seen T c = 60 ∧ ∀ u : Nat, u < T → ¬ ((u : Int) + lag c < 60 ∧ seen c ≤ (cnO (sim fm K lag seen u) 8 u : Int))) ∨ ∃ u : Nat, u < T ∧ sim fm K lag seen T c = (u : Int) + lag c ∧ (u : Int) + lag c < 60 ∧ seen c ≤ (cnO (sim fm K lag seen u) 8 u : Int) := by
  intro T
  induction T with
  | zero => exact Or.inl ⟨by show (if K c then 60 else fm c) = 60; rw [hk]; rfl, fun u h => by omega⟩
  | succ T ih =>
    rw [sim_s]
    rcases ih with ⟨h1, h2⟩ | ⟨u, h1, h2, h3, h4⟩
    · by_cases h : K c = true ∧ sim fm K lag seen T c = 60 ∧ (T : Int) + lag c < 60 ∧ seen c ≤ (cnO (sim fm K lag seen T) 8 T : Int)
      · rw [if_pos h]; exact Or.inr ⟨T, by omega, rfl, h.2.2.1, h.2.2.2⟩
      · rw [if_neg h]
        refine Or.inl ⟨h1, fun u hu q => ?_⟩
        rcases Nat.lt_or_ge u T with z | z
        · exact h2 u z q
        · rw [show u = T by omega] at q; exact h ⟨hk, h1, q.1, q.2⟩
    · rw [if_neg (fun h => by omega)]
      exact Or.inr ⟨u, by omega, h2, h3, h4⟩
theorem cnO_mono {f : Nat → Int} {n : Nat} {s t : Int} (h : s ≤ t) : cnO f n s ≤ cnO f n t := cnt_mono (fun j _ q => by simp at q ⊢; omega)
theorem sim_come (hf : ∀ c, c < 8 → K c = false → 0 ≤ fm c ∧ fm c ≤ 60) (hl : ∀ c, c < 8 → K c = true → 1 ≤ lag c) : IsCome fm K lag seen (sim fm K lag seen 60) := by
  intro c hc
  refine ⟨sim_bd hf hl hc, fun t h0 h1 => ?_⟩
  cases hk : K c with
  | false => rw [sim_own hk]; simp
  | true =>
    rw [if_pos rfl]
    have hlc := hl c hc hk
    rcases sim_look (fm := fm) (lag := lag) (seen := seen) hk 60 with ⟨e1, e2⟩ | ⟨u, e0, e1, e2, e3⟩
    · rw [e1]
      constructor
      · intro q; omega
      · rintro ⟨q1, q2⟩
        exfalso
        have h9 := e2 (t - lag c).toNat (by omega)
        rw [← sim_cn hl (by omega), show (((t - lag c).toNat : Nat) : Int) = t - lag c by omega] at h9
        exact h9 ⟨by omega, q2⟩
    · rw [e1]
      have e4 := sim_cn (fm := fm) (K := K) (lag := lag) (seen := seen) hl (u := u) (by omega)
      constructor
      · intro q
        refine ⟨by omega, ?_⟩
        have := cnO_mono (f := sim fm K lag seen 60) (n := 8) (s := (u : Int)) (t := t - lag c) (by omega)
        omega
      · rintro ⟨q1, q2⟩
        -- the first minute at which it saw enough is no later
        rcases Int.lt_or_le t ((u : Int) + lag c) with z | z
        · exfalso
          rcases sim_look (fm := fm) (lag := lag) (seen := seen) hk ((t - lag c).toNat + 1) with ⟨f1, f2⟩ | ⟨w, f0, f1, f2, f3⟩
          · have h9 := f2 (t - lag c).toNat (by omega)
            rw [← sim_cn hl (by omega), show (((t - lag c).toNat : Nat) : Int) = t - lag c by omega] at h9
            exact h9 ⟨by omega, q2⟩
          · -- set by then, and kept
            have keep : ∀ d : Nat, sim fm K lag seen ((t - lag c).toNat + 1 + d) c = (w : Int) + lag c := by
              intro d
              induction d with
              | zero => exact f1
              | succ d ih =>
                rw [show (t - lag c).toNat + 1 + (d + 1) = ((t - lag c).toNat + 1 + d) + 1 by omega, sim_s, if_neg (fun h => by omega), ih]
            have k9 := keep (60 - ((t - lag c).toNat + 1))
            rw [show (t - lag c).toNat + 1 + (60 - ((t - lag c).toNat + 1)) = 60 by omega, e1] at k9
            omega
        · exact z
theorem RB_mono {mem : Mem} {told : Int} {wh : Nat → Int} {s t : Int} (h : s ≤ t) (hr : RB mem told wh s) : RB mem told wh t := by
  obtain ⟨j, h1, h2, h3, h4, h5⟩ := hr
  have h6 := cnO_mono (f := wh) (n := 8) h
  exact ⟨j, h1, by omega, fun q => by have := h3 q; omega, by omega, fun c hc ht => by have := h5 c hc ht; omega⟩
/-- there is a beginning -/
theorem beg_ex (P : Int → Prop) (hm : ∀ s t, s ≤ t → P s → P t) : ∃ v, IsBeg P v := by
  have key : ∀ n : Nat, n ≤ 60 → (∃ v : Int, (0 ≤ v ∧ v < n) ∧ ∀ t, 0 ≤ t → t < 60 → (v ≤ t ↔ P t)) ∨ ∀ t : Int, 0 ≤ t → t < (n : Int) → ¬ P t := by
    intro n
    induction n with
    | zero => intro _; exact Or.inr (fun t h0 h1 => by omega)
    | succ n ih =>
      intro hn
      rcases ih (by omega) with ⟨v, h1, h2⟩ | h
      · exact Or.inl ⟨v, by omega, h2⟩
      · by_cases hp : P (n : Int)
        · refine Or.inl ⟨(n : Int), by omega, fun t h0 h1 => ⟨fun q => hm _ _ q hp, fun q => ?_⟩⟩
          rcases Int.lt_or_le t (n : Int) with z | z
          · exact absurd q (h t h0 z)
          · exact z
        · refine Or.inr (fun t h0 h1 => ?_)
          rcases Int.lt_or_le t (n : Int) with z | z
          · exact h t h0 z
          · rw [show t = (n : Int) by omega]; exact hp
  rcases key 60 (Nat.le_refl _) with ⟨v, h1, h2⟩ | h
  · exact ⟨v, by omega, h2⟩
  · exact ⟨60, by omega, fun t h0 h1 => ⟨fun q => by omega, fun q => absurd q (h t h0 h1)⟩⟩
theorem begF_is {mem : Mem} {told : Int} {wh : Nat → Int} : IsBeg (RB mem told wh) (begF (RB mem told wh)) := Classical.epsilon_spec (p := fun v => IsBeg (RB mem told wh) v) (beg_ex _ (fun _ _ h hr => RB_mono h hr))
/-- who comes behind the beginning without it changes nothing of it -/
theorem beg_late {mem : Mem} {told : Int} {fm fm' : Nat → Int} {o : Nat} (hf : ∀ c, c < 8 → K c = false → 0 ≤ fm c ∧ fm c ≤ 60) (hf' : ∀ c, c < 8 → K c = false → 0 ≤ fm' c ∧ fm' c ≤ 60) (hl : ∀ c, c < 8 → K c = true → 1 ≤ lag c) (ho : K o = false) (h60 : fm o = 60) (hne : ∀ c, c < 8 → c ≠ o → fm c = fm' c) (hx : begF (RB mem told (comeF fm K lag seen)) < fm' o) (ho8 : o < 8) :
    begF (RB mem told (comeF fm' K lag seen)) = begF (RB mem told (comeF fm K lag seen)) := by
  have w := comeF_is (sim_come (seen := seen) hf hl)
  have w' := comeF_is (sim_come (seen := seen) hf' hl)
  have b := begF_is (mem := mem) (told := told) (wh := comeF fm K lag seen)
  generalize hv : begF (RB mem told (comeF fm K lag seen)) = v at *
  have hfo := hf' o ho8 ho
  have key : ∀ (N : Nat) (t : Int), t < N → t ≤ v → ∀ c, c < 8 → (comeF fm K lag seen c ≤ t ↔ comeF fm' K lag seen c ≤ t) := by
    intro N
    induction N with
    | zero =>
      intro t ht ht2 c hc
      have a1 := (w c hc).1; have a2 := (w' c hc).1
      omega
    | succ N ih =>
      intro t ht ht2 c hc
      by_cases h0 : 0 ≤ t
      · rw [(w c hc).2 t h0 (by omega), (w' c hc).2 t h0 (by omega)]
        cases hk : K c with
        | false =>
          by_cases e : c = o
          · subst e; simp; omega
          · rw [hne c hc e]; simp
        | true =>
          have hlc := hl c hc hk
          have e : cnO (comeF fm K lag seen) 8 (t - lag c) = cnO (comeF fm' K lag seen) 8 (t - lag c) := by
            apply cnt_congr
            intro j hj
            have := ih (t - lag c) (by omega) (by omega) j hj
            simp [this]
          rw [e]; simp
      · have a1 := (w c hc).1; have a2 := (w' c hc).1
        omega
  have hrb : ∀ t, t ≤ v → t < 61 → (RB mem told (comeF fm' K lag seen) t ↔ RB mem told (comeF fm K lag seen) t) := fun t h1 h2 => (RB_congr (fun c hc => key 61 t (by omega) h1 c hc)).symm
  apply begF_eq
  refine ⟨b.1, fun t h0 h1 => ?_⟩
  rcases Int.lt_or_le v t with z | z
  · constructor
    · intro _
      have h9 := (b.2 v b.1.1 (by omega)).mp (Int.le_refl _)
      exact RB_mono (Int.le_of_lt z) ((hrb v (Int.le_refl _) (by omega)).mpr h9)
    · intro _; omega
  · rw [hrb t z (by omega)]; exact b.2 t h0 h1
end SIM
