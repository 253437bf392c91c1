-- THE GRID's ways by their numbers: digits to the base m
theorem odo_eq {m R i : Nat} (hm : 0 < m) (h : i % m ^ R = m ^ R - 1) : i + 1 = m ^ R * (i / m ^ R + 1) := by
  have h1 := Nat.div_add_mod i (m ^ R)
  have h2 : 0 < m ^ R := Nat.pow_pos hm
  rw [Nat.mul_add, Nat.mul_one]
  omega
theorem odo_low {m R i r : Nat} (hm : 0 < m) (h : i % m ^ R = m ^ R - 1) (hr : r < R) : (i + 1) / m ^ r % m = 0 := by
  rw [odo_eq hm h]
  obtain ⟨d, rfl⟩ : ∃ d, R = r + (1 + d) := ⟨R - r - 1, by omega⟩
  rw [Nat.pow_add, Nat.mul_assoc, Nat.mul_div_cancel_left _ (Nat.pow_pos hm), Nat.pow_add, Nat.pow_one, Nat.mul_assoc, Nat.mul_mod_right]
theorem odo_at {m R i : Nat} (hm : 0 < m) (h : i % m ^ R = m ^ R - 1) : (i + 1) / m ^ R = i / m ^ R + 1 := by
  have := odo_eq hm h
  rw [this, Nat.mul_div_cancel_left _ (Nat.pow_pos hm)]
theorem succ_div {q m : Nat} (hm : 0 < m) (h : q % m + 1 < m) : (q + 1) / m = q / m := by
  have h1 := Nat.div_add_mod q m
  rw [Nat.div_eq_iff hm]
  have e : (q / m) * m = m * (q / m) := Nat.mul_comm _ _
  have e2 : (q / m + 1) * m = m * (q / m) + m := by rw [Nat.add_mul, e, Nat.one_mul]
  omega
theorem odo_up {m R i r : Nat} (hm : 0 < m) (h : i % m ^ R = m ^ R - 1) (hd : i / m ^ R % m + 1 < m) (hr : R < r) : (i + 1) / m ^ r % m = i / m ^ r % m := by
  obtain ⟨d, rfl⟩ : ∃ d, r = R + (1 + d) := ⟨r - R - 1, by omega⟩
  rw [Nat.pow_add, ← Nat.div_div_eq_div_mul, ← Nat.div_div_eq_div_mul, odo_at hm h, Nat.pow_add, Nat.pow_one, ← Nat.div_div_eq_div_mul, ← Nat.div_div_eq_div_mul, succ_div hm hd]
theorem odo_dig {m R i : Nat} (hm : 0 < m) (h : i % m ^ R = m ^ R - 1) (hd : i / m ^ R % m + 1 < m) : (i + 1) / m ^ R % m = i / m ^ R % m + 1 := by
  rw [odo_at hm h, Nat.add_mod, Nat.mod_eq_of_lt (show 1 < m by omega), Nat.mod_eq_of_lt hd]
theorem odo_carry {m R i : Nat} (hm : 0 < m) (h : i % m ^ R = m ^ R - 1) (hd : i / m ^ R % m = m - 1) : i % m ^ (R + 1) = m ^ (R + 1) - 1 := by
  rw [Nat.mod_pow_succ, h, hd, Nat.pow_succ]
  have h2 : 0 < m ^ R := Nat.pow_pos hm
  obtain ⟨k, rfl⟩ : ∃ k, m = k + 1 := ⟨m - 1, by omega⟩
  rw [Nat.add_sub_cancel, Nat.mul_add, Nat.mul_one]
  omega
/-- how many plain ones stand behind c; the digit of c in way i -/
def rkP (pl : Nat → Bool) (c : Nat) : Nat := cnt pl 8 - cnt pl (c + 1)
def dgP (pl : Nat → Bool) (m i c : Nat) : Nat := i / m ^ (rkP pl c) % m
theorem dg_lt {pl : Nat → Bool} {m i c : Nat} (hm : 0 < m) : dgP pl m i c < m := Nat.mod_lt _ hm
theorem cnt_le_mono {pl : Nat → Bool} {a b : Nat} (h : a ≤ b) : cnt pl a ≤ cnt pl b := by
  obtain ⟨d, rfl⟩ : ∃ d, b = a + d := ⟨b - a, by omega⟩
  rw [cnt_split]; omega
/-- all plain ones from q on are at their last digit -/
def Top (pl : Nat → Bool) (m i q : Nat) : Prop := i % m ^ (cnt pl 8 - cnt pl q) = m ^ (cnt pl 8 - cnt pl q) - 1
theorem Top.top {pl : Nat → Bool} {m i : Nat} : Top pl m i 8 := by unfold Top; rw [Nat.sub_self, Nat.pow_zero, Nat.mod_one]
theorem Top.skip {pl : Nat → Bool} {m i c : Nat} (h : Top pl m i (c + 1)) (hp : pl c = false) : Top pl m i c := by
  unfold Top at *
  have e : cnt pl (c + 1) = cnt pl c := by rw [cnt_s pl c, hp]; rfl
  rw [e] at h
  exact h
theorem Top.carry {pl : Nat → Bool} {m i c : Nat} (hm : 0 < m) (h : Top pl m i (c + 1)) (hc : c < 8) (hp : pl c = true) (hd : dgP pl m i c = m - 1) : Top pl m i c := by
  unfold Top dgP rkP at *
  have e : cnt pl 8 - cnt pl c = (cnt pl 8 - cnt pl (c + 1)) + 1 := by
    have h1 := cnt_lt_of hc hp
    have h2 := cnt_le_mono (pl := pl) (show c + 1 ≤ 8 by omega)
    have h3 : cnt pl (c + 1) = cnt pl c + 1 := by rw [cnt_s pl c, hp]; rfl
    omega
  rw [e]
  exact odo_carry hm h hd
theorem Top.next {pl : Nat → Bool} {m i c : Nat} (hm : 0 < m) (h : Top pl m i (c + 1)) (hc : c < 8) (hp : pl c = true) (hd : dgP pl m i c + 1 < m) : ∀ d, d < 8 → pl d = true → dgP pl m (i + 1) d = if c < d then 0 else if d = c then dgP pl m i c + 1 else dgP pl m i d := by
  intro d hd8 hpd
  unfold Top dgP at *
  have hr : rkP pl c = cnt pl 8 - cnt pl (c + 1) := rfl
  rw [← hr] at h
  by_cases h1 : c < d
  · rw [if_pos h1]
    apply odo_low hm h
    unfold rkP
    have a1 := cnt_le_mono (pl := pl) (show d + 1 ≤ 8 by omega)
    have a2 := cnt_lt_of (p := pl) (c := d) (n := d + 1) (by omega) hpd
    have a3 := cnt_le_mono (pl := pl) (show c + 1 ≤ d by omega)
    omega
  · rw [if_neg h1]
    by_cases h2 : d = c
    · rw [if_pos h2, h2]; exact odo_dig hm h hd
    · rw [if_neg h2]
      apply odo_up hm h hd
      unfold rkP
      have a1 := cnt_le_mono (pl := pl) (show c + 1 ≤ 8 by omega)
      have a2 := cnt_lt_of (p := pl) (c := c) (n := c + 1) (by omega) hp
      have a3 := cnt_le_mono (pl := pl) (show d + 1 ≤ c by omega)
      omega
theorem Top.end {pl : Nat → Bool} {m i : Nat} (h : Top pl m i 0) (hi : i < m ^ cnt pl 8) : i + 1 = m ^ cnt pl 8 := by
  unfold Top at h
  rw [show cnt pl 0 = 0 from rfl, Nat.sub_zero, Nat.mod_eq_of_lt hi] at h
  omega
theorem Top.not_last {pl : Nat → Bool} {m i c : Nat} (hm : 0 < m) (h : Top pl m i (c + 1)) (hc : c < 8) (hp : pl c = true) (hd : dgP pl m i c + 1 < m) (hi : i < m ^ cnt pl 8) : i + 1 < m ^ cnt pl 8 := by
  rcases Nat.lt_or_ge (i + 1) (m ^ cnt pl 8) with q | q
  · exact q
  · exfalso
    have e : i + 1 = m ^ cnt pl 8 := by omega
    have h1 := h.next hm hc hp hd c hc hp
    rw [if_neg (by omega), if_pos rfl, e] at h1
    unfold dgP at h1 hd
    have h2 : m ^ cnt pl 8 / m ^ rkP pl c % m = 0 := by
      have a1 := cnt_lt_of (p := pl) (c := c) (n := 8) hc hp
      have a2 := cnt_le_mono (pl := pl) (show c + 1 ≤ 8 by omega)
      obtain ⟨d, hd2⟩ : ∃ d, cnt pl 8 = rkP pl c + (1 + d) := by
        refine ⟨cnt pl 8 - rkP pl c - 1, ?_⟩
        unfold rkP
        have a3 : cnt pl (c + 1) = cnt pl c + 1 := by rw [cnt_s pl c, hp]; rfl
        omega
      rw [hd2, Nat.pow_add, Nat.mul_div_cancel_left _ (Nat.pow_pos hm), Nat.pow_add, Nat.pow_one, Nat.mul_mod_right]
    omega
