-- ARRIVALS
def Tm (ord lag seen : Nat → Int) (c : Nat) : Int := if ord (seen c - 1).toNat + lag c < 60 then ord (seen c - 1).toNat + lag c else 60
def LkOk (nl : Nat) (L : Nat → Nat) (lk : Nat → Bool) (lag seen : Nat → Int) : Prop := nl ≤ 8 ∧ (∀ j, j < nl → L j < 8 ∧ (1 ≤ lag (L j) ∧ lag (L j) ≤ 30) ∧ (1 ≤ seen (L j) ∧ seen (L j) ≤ 7)) ∧ (∀ i j, i < nl → j < nl → L i = L j → i = j) ∧ ∀ c, c < 8 → (lk c = true ↔ ∃ j, j < nl ∧ L j = c)
def CLI (ord wh : Nat → Int) (n : Nat) (fm : Nat → Int) (nl : Nat) (L : Nat → Nat) (lk : Nat → Bool) (lag seen : Nat → Int) (p i : Nat) : Prop :=
  n ≤ 8 ∧ Srt ord n ∧ (∀ j, j < n → 0 ≤ ord j ∧ ord j < 60) ∧ (∀ t, t < 60 → cnO ord n t = cnO wh 8 t) ∧ (∀ c, c < 8 → 0 ≤ wh c ∧ wh c ≤ 60) ∧ (∀ c, c < 8 → lk c = false → wh c = fm c) ∧ ∀ j, j < nl → wh (L j) = if seen (L j) ≤ p ∨ (seen (L j) = p + 1 ∧ j < i) then Tm ord lag seen (L j) else 60
section CLI
variable {ord wh fm lag seen : Nat → Int} {n nl p i : Nat} {L : Nat → Nat} {lk : Nat → Bool}
theorem CLI.skip (h : CLI ord wh n fm nl L lk lag seen p i) (hs : seen (L i) ≠ (p : Int) + 1) : CLI ord wh n fm nl L lk lag seen p (i + 1) := by
  obtain ⟨h1, h2, h3, h4, h5, h6, h7⟩ := h
  refine ⟨h1, h2, h3, h4, h5, h6, fun j hj => ?_⟩
  rw [h7 j hj]
  by_cases e : j = i
  · subst e
    have e1 : (seen (L j) ≤ p ∨ (seen (L j) = p + 1 ∧ j < j)) ↔ (seen (L j) ≤ p ∨ (seen (L j) = p + 1 ∧ j < j + 1)) := by omega
    simp only [e1]
  · have e1 : (seen (L j) ≤ p ∨ (seen (L j) = p + 1 ∧ j < i)) ↔ (seen (L j) ≤ p ∨ (seen (L j) = p + 1 ∧ j < i + 1)) := by omega
    simp only [e1]
theorem CLI.late (h : CLI ord wh n fm nl L lk lag seen p i) (hi : i < nl) (hs : seen (L i) = (p : Int) + 1) (hx : 60 ≤ ord p + lag (L i)) : CLI ord wh n fm nl L lk lag seen p (i + 1) := by
  obtain ⟨h1, h2, h3, h4, h5, h6, h7⟩ := h
  refine ⟨h1, h2, h3, h4, h5, h6, fun j hj => ?_⟩
  by_cases e : j = i
  · subst e
    rw [h7 j hj, if_neg (by omega), if_pos (by omega)]
    unfold Tm
    rw [hs, show ((p : Int) + 1 - 1).toNat = p by omega, if_neg (by omega)]
  · rw [h7 j hj]
    have e1 : (seen (L j) ≤ p ∨ (seen (L j) = p + 1 ∧ j < i)) ↔ (seen (L j) ≤ p ∨ (seen (L j) = p + 1 ∧ j < i + 1)) := by omega
    simp only [e1]
theorem cnO_wh_lt {c : Nat} (hc : c < 8) (h : wh c = 60) : cnO wh 8 59 < 8 := by
  unfold cnO
  have h1 := cnt_one (p := fun j => decide (wh j ≤ 59)) (q := fun j => decide (wh j ≤ 59) || decide (j = c)) (k := c) (n := 8) hc (fun j _ hne => by simp [hne]) (by simp [h])
  have h2 := cnt_le (fun j => decide (wh j ≤ 59) || decide (j = c)) 8
  simp at h1
  omega
theorem CLI.room (h : CLI ord wh n fm nl L lk lag seen p i) (hL : LkOk nl L lk lag seen) (hi : i < nl) (hs : seen (L i) = (p : Int) + 1) : n < 8 := by
  obtain ⟨h1, h2, h3, h4, h5, h6, h7⟩ := h
  have e1 := h7 i hi
  rw [if_neg (by omega)] at e1
  have e2 := cnO_wh_lt (hL.2.1 i hi).1 e1
  have e3 := h4 59 (by decide)
  have e4 : cnO ord n 59 = n := cnt_all (fun j hj => by have := h3 j hj; simp; omega)
  omega
theorem cnO_uset {c : Nat} {x : Int} (hc : c < 8) (h : wh c = 60) {t : Int} (ht : t < 60) : cnO (uset wh c x) 8 t = cnO wh 8 t + if x ≤ t then 1 else 0 := by
  unfold cnO
  have h1 := cnt_one (p := fun j => decide (wh j ≤ t)) (q := fun j => decide (uset wh c x j ≤ t)) (k := c) (n := 8) hc (fun j _ hne => by rw [uset_ne _ _ hne]) (by simp [h]; omega)
  rw [h1, uset_eq]
  simp
theorem CLI.put {g : Nat → Int} (h : CLI ord wh n fm nl L lk lag seen p i) (hL : LkOk nl L lk lag seen) (hi : i < nl) (hs : seen (L i) = (p : Int) + 1) (hp : p < n) (hx : ord p + lag (L i) < 60) (hI : Ins ord g n (ord p + lag (L i))) : CLI g (uset wh (L i) (ord p + lag (L i))) (n + 1) fm nl L lk lag seen p (i + 1) := by
  have hn := h.room hL hi hs
  obtain ⟨h1, h2, h3, h4, h5, h6, h7⟩ := h
  obtain ⟨i1, i2, i3, i4⟩ := hI
  obtain ⟨l1, l2, l3⟩ := hL.2.1 i hi
  have e1 := h7 i hi
  rw [if_neg (by omega)] at e1
  have hord : ∀ j, j ≤ p → g j = ord j := fun j hj => i4 j (by omega) (by
    rcases Nat.lt_or_ge j p with q | q
    · have := h2 j p q hp; omega
    · rw [show j = p by omega]; omega)
  refine ⟨by omega, i1, i2, fun t ht => ?_, fun c hc => ?_, fun c hc hk => ?_, fun j hj => ?_⟩
  · rw [i3 t, h4 t ht, cnO_uset l1 e1 ht]
  · unfold uset
    have hpp := h3 p hp
    split
    · omega
    · exact h5 c hc
  · unfold uset
    rw [if_neg]
    · exact h6 c hc hk
    · intro e; rw [(hL.2.2.2 c hc).mpr ⟨i, hi, e.symm⟩] at hk; cases hk
  · by_cases e : j = i
    · subst e
      rw [uset_eq, if_pos (by omega)]
      unfold Tm
      rw [hs, show ((p : Int) + 1 - 1).toNat = p by omega, hord p (Nat.le_refl _), if_pos hx]
    · rw [uset_ne _ _ (fun q => e (hL.2.2.1 j i hj hi q)), h7 j hj]
      obtain ⟨_, _, m3⟩ := hL.2.1 j hj
      by_cases q : seen (L j) ≤ p ∨ (seen (L j) = p + 1 ∧ j < i)
      · rw [if_pos q, if_pos (by omega)]
        unfold Tm
        rw [hord _ (by omega)]
      · rw [if_neg q, if_neg (by omega)]
theorem CLI.next (h : CLI ord wh n fm nl L lk lag seen p nl) : CLI ord wh n fm nl L lk lag seen (p + 1) 0 := by
  obtain ⟨h1, h2, h3, h4, h5, h6, h7⟩ := h
  refine ⟨h1, h2, h3, h4, h5, h6, fun j hj => ?_⟩
  rw [h7 j hj]
  have e1 : (seen (L j) ≤ p ∨ (seen (L j) = p + 1 ∧ j < nl)) ↔ (seen (L j) ≤ ((p + 1 : Nat) : Int) ∨ (seen (L j) = ((p + 1 : Nat) : Int) + 1 ∧ j < 0)) := by omega
  simp only [e1]
/-- the arrivals of all: who looks, by the others; else at its own minute -/
def IsCome (fm : Nat → Int) (lk : Nat → Bool) (lag seen wh : Nat → Int) : Prop := ∀ c, c < 8 → (0 ≤ wh c ∧ wh c ≤ 60) ∧ ∀ t, 0 ≤ t → t < 60 → (wh c ≤ t ↔ if lk c then lag c ≤ t ∧ seen c ≤ (cnO wh 8 (t - lag c) : Int) else fm c ≤ t)
theorem CLI.ends (h : CLI ord wh n fm nl L lk lag seen n 0) (hL : LkOk nl L lk lag seen) : IsCome fm lk lag seen wh := by
  obtain ⟨h1, h2, h3, h4, h5, h6, h7⟩ := h
  intro c hc
  refine ⟨h5 c hc, fun t ht0 ht => ?_⟩
  cases hk : lk c with
  | false => rw [h6 c hc hk]; simp
  | true =>
    obtain ⟨j, hj, rfl⟩ := (hL.2.2.2 c hc).mp hk
    obtain ⟨_, m2, m3⟩ := hL.2.1 j hj
    rw [if_pos rfl, h7 j hj]
    have e4 := h4 (t - lag (L j)) (by omega)
    by_cases q : seen (L j) ≤ n
    · rw [if_pos (Or.inl q)]
      have h8 := srt_cnt h2 (j := (seen (L j) - 1).toNat) (by omega) (t - lag (L j))
      have h9 := h3 (seen (L j) - 1).toNat (by omega)
      rw [← e4]
      unfold Tm
      split <;> omega
    · rw [if_neg (by omega)]
      have h8 : cnO ord n (t - lag (L j)) ≤ n := cnt_le _ _
      omega
theorem IsCome.one {wh' : Nat → Int} (h : IsCome fm lk lag seen wh) (h' : IsCome fm lk lag seen wh') (hlag : ∀ c, c < 8 → lk c = true → 1 ≤ lag c) : ∀ c, c < 8 → wh c = wh' c := by
  have key : ∀ (N : Nat) (t : Int), t < N → t < 60 → ∀ c, c < 8 → (wh c ≤ t ↔ wh' c ≤ t) := by
    intro N
    induction N with
    | zero =>
      intro t ht ht2 c hc
      have a1 := (h c hc).1; have a2 := (h' c hc).1
      omega
    | succ N ih =>
      intro t ht ht2 c hc
      by_cases h0 : 0 ≤ t
      · rw [(h c hc).2 t h0 ht2, (h' c hc).2 t h0 ht2]
        cases hk : lk c with
        | false => simp
        | true =>
          have hl := hlag c hc hk
          have e : cnO wh 8 (t - lag c) = cnO wh' 8 (t - lag c) := by
            unfold cnO
            apply cnt_congr
            intro j hj
            have := ih (t - lag c) (by omega) (by omega) j hj
            simp [this]
          rw [e]
      · have a1 := (h c hc).1; have a2 := (h' c hc).1
        omega
  intro c hc
  have a1 := (h c hc).1; have a2 := (h' c hc).1
  have k1 := key 60 (wh c)
  have k2 := key 60 (wh' c)
  rcases Int.lt_or_le (wh c) 60 with q | q
  · have := (k1 q q c hc).mp (Int.le_refl _)
    rcases Int.lt_or_le (wh' c) 60 with r | r
    · have := (k2 r r c hc).mpr (Int.le_refl _); omega
    · omega
  · rcases Int.lt_or_le (wh' c) 60 with r | r
    · have := (k2 r r c hc).mpr (Int.le_refl _); omega
    · omega
end CLI
