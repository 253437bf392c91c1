/-- the rule holds at t: told, arrivals -/
def RB (mem : Mem) (told : Int) (wh : Nat → Int) (t : Int) : Prop := ∃ j, j < (mem 10 4).toNat ∧ mem 12 j ≤ t ∧ (mem 13 j = 1 → told ≤ t) ∧ mem 14 j ≤ (cnO wh 8 t : Int) ∧ ∀ c, c < 8 → (mem 15 j).toNat.testBit c = true → wh c ≤ t
theorem RB_of {mem mv : Mem} {told : Int} {n : Nat} {ord wh : Nat → Int} (h4 : mv 10 4 = mem 10 4) (h12 : mv 12 = mem 12) (h13 : mv 13 = mem 13) (h14 : mv 14 = mem 14) (h15 : mv 15 = mem 15) {t : Int} (hc : cnO ord n t = cnO wh 8 t) : (∃ j, j < (mv 10 4).toNat ∧ altOk mv told n ord wh j t) ↔ RB mem told wh t := by
  unfold altOk RB
  rw [h4, h12, h13, h14, h15, hc]
theorem RuOk.mv {mem mv : Mem} (h4 : mv 10 4 = mem 10 4) (h12 : mv 12 = mem 12) (h13 : mv 13 = mem 13) (h14 : mv 14 = mem 14) (h15 : mv 15 = mem 15) (h : RuOk mem) : RuOk mv := by
  unfold RuOk at *
  rw [h4, h12, h13, h14, h15]; exact h
theorem cnt_zero {p : Nat → Bool} : ∀ {n : Nat}, cnt p n = 0 → ∀ j, j < n → p j = false
  | 0, _, j, hj => by omega
  | n + 1, h, j, hj => by
    rw [cnt_s] at h
    by_cases hp : p n = true
    · rw [if_pos hp] at h; omega
    · rw [if_neg hp] at h
      rcases Nat.lt_or_ge j n with q | q
      · exact cnt_zero (by omega) j q
      · rw [show j = n by omega]; simpa using hp
section STL
variable {fm wn lag seen : Nat → Int} {F K : Nat → Bool}
theorem st_cnt (hFK : ∀ c, c < 8 → K c = true → F c = false) (hw : ∀ c, c < 8 → K c = false → wn c = if F c then fm c else 60) {t : Int} (ht : t < 60) : cnt (fun c => F c && decide (fm c ≤ t)) 8 = cnO (fun c => if K c then 60 else wn c) 8 t := by
  unfold cnO
  apply cnt_congr
  intro c hc
  show (F c && decide (fm c ≤ t)) = decide ((if K c then 60 else wn c) ≤ t)
  cases hk : K c with
  | true => rw [hFK c hc hk]; simp; omega
  | false =>
    have h9 := hw c hc hk
    cases hf : F c with
    | true => rw [hf] at h9; simp at h9; simp [h9]
    | false => rw [hf] at h9; simp at h9; simp [h9]; omega
theorem st_cntB {o : Nat} {x : Int} (ho : o < 8) (hFo : F o = false) (hKo : K o = false) (hFK : ∀ c, c < 8 → K c = true → F c = false) (hw : ∀ c, c < 8 → K c = false → c ≠ o → wn c = if F c then fm c else 60) {t : Int} (ht : t < 60) : cnt (fun c => F c && decide (fm c ≤ t)) 8 + (if x ≤ t then 1 else 0) = cnO (fun c => if K c then 60 else uset wn o x c) 8 t := by
  unfold cnO
  have h1 := cnt_one (p := fun c => F c && decide (fm c ≤ t)) (q := fun c => decide ((if K c then 60 else uset wn o x c) ≤ t)) (k := o) (n := 8) ho (fun c hc hne => by
    show (F c && decide (fm c ≤ t)) = decide ((if K c then 60 else uset wn o x c) ≤ t)
    rw [uset_ne _ _ hne]
    cases hk : K c with
    | true => rw [hFK c hc hk]; simp; omega
    | false =>
      have h9 := hw c hc hk hne
      cases hf : F c with
      | true => rw [hf] at h9; simp at h9; simp [h9]
      | false => rw [hf] at h9; simp at h9; simp [h9]; omega) (by simp [hFo])
  rw [h1]
  simp [hKo, uset_eq]
theorem st_roomB {o n : Nat} {od : Nat → Int} (ho : o < 8) (hFo : F o = false) (hr : ∀ j, j < n → 0 ≤ od j ∧ od j < 60) (hc : ∀ t, t < 60 → cnO od n t = cnt (fun c => F c && decide (fm c ≤ t)) 8) : n < 8 := by
  have e1 : cnO od n 59 = n := cnt_all (fun j hj => by have := hr j hj; simp; omega)
  have e2 := hc 59 (by decide)
  have e3 := cnt_one (p := fun c => F c && decide (fm c ≤ 59)) (q := fun c => (F c && decide (fm c ≤ 59)) || decide (c = o)) (k := o) (n := 8) ho (fun c _ hne => by simp [hne]) (by simp [hFo])
  have e4 := cnt_le (fun c => (F c && decide (fm c ≤ 59)) || decide (c = o)) 8
  simp at e3
  omega
theorem IsCome_firm {wh fm : Nat → Int} {K : Nat → Bool} {lag seen : Nat → Int} (hK : ∀ c, c < 8 → K c = false) (h : ∀ c, c < 8 → wh c = fm c) (hr : ∀ c, c < 8 → 0 ≤ wh c ∧ wh c ≤ 60) : IsCome fm K lag seen wh := by
  intro c hc
  refine ⟨hr c hc, fun t _ _ => ?_⟩
  rw [hK c hc, h c hc]; simp
theorem IsCome.congr {wh fm fm' : Nat → Int} {K : Nat → Bool} {lag seen : Nat → Int} (h : IsCome fm K lag seen wh) (e : ∀ c, c < 8 → K c = false → fm c = fm' c) : IsCome fm' K lag seen wh := by
  intro c hc
  refine ⟨(h c hc).1, fun t h0 h1 => ?_⟩
  rw [(h c hc).2 t h0 h1]
  cases hk : K c with
  | true => simp
  | false => simp [e c hc hk]
end STL
