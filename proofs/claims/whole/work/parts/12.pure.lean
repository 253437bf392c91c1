-- sums
def sumTo (f : Nat → Int) : Nat → Int
  | 0 => 0
  | n + 1 => sumTo f n + f n
theorem sumTo_bd {f : Nat → Int} {a b : Int} : ∀ {n : Nat}, (∀ j, j < n → a ≤ f j ∧ f j ≤ b) → n * a ≤ sumTo f n ∧ sumTo f n ≤ n * b
  | 0, _ => by simp [sumTo]
  | n + 1, h => by
    have h1 := sumTo_bd (n := n) (fun j hj => h j (by omega))
    have h2 := h n (by omega)
    unfold sumTo
    rw [show ((n + 1 : Nat) : Int) = (n : Int) + 1 by omega, Int.add_mul, Int.add_mul]
    omega
theorem sumTo_congr {f g : Nat → Int} : ∀ {n : Nat}, (∀ j, j < n → f j = g j) → sumTo f n = sumTo g n
  | 0, _ => rfl
  | n + 1, h => by unfold sumTo; rw [sumTo_congr (fun j hj => h j (by omega)), h n (by omega)]
-- bits of small numbers
theorem ofInt_nat (n : Nat) : Int32.ofInt (n : Int) = nI n := rfl
theorem bAnd_nat {a b : Nat} (ha : a < 2 ^ 31) : bAnd (a : Int) (b : Int) = ((a &&& b : Nat) : Int) := by
  unfold bAnd
  rw [ofInt_nat, ofInt_nat, fa_and, nI_toInt (Nat.lt_of_le_of_lt Nat.and_le_left ha)]
theorem bOr_nat {a b : Nat} (ha : a < 2 ^ 31) (hb : b < 2 ^ 31) : bOr (a : Int) (b : Int) = ((a ||| b : Nat) : Int) := by
  unfold bOr
  rw [ofInt_nat, ofInt_nat, fa_or, nI_toInt (Nat.or_lt_two_pow ha hb)]
theorem shm : ∀ c : Fin 32, ((nI c.val &&& 31 : Int32).toBitVec.smod 32).toNat = c.val := by decide
theorem bShl_nat {a c : Nat} (hc : c < 32) (ha : a * 2 ^ c < 2 ^ 31) : bShl (a : Int) (c : Int) = ((a * 2 ^ c : Nat) : Int) := by
  unfold bShl
  rw [ofInt_nat, ofInt_nat, pk_shlN _ c (shm ⟨c, hc⟩) (by omega), nI_toInt ha]
theorem bShr_nat {a c : Nat} (hc : c < 32) (ha : a < 2 ^ 31) : bShr (a : Int) (c : Int) = ((a / 2 ^ c : Nat) : Int) := by
  unfold bShr
  rw [ofInt_nat, ofInt_nat, pk_shrN ha _ c (shm ⟨c, hc⟩), nI_toInt (Nat.lt_of_le_of_lt (Nat.div_le_self _ _) ha)]
/-- bit c of a: (a >> c) & 1 -/
def bt (a : Int) (c : Nat) : Int := if a.toNat.testBit c then 1 else 0
theorem bt_eq {a : Int} {c : Nat} (h0 : 0 ≤ a) (h1 : a < 2 ^ 31) (hc : c < 32) : bAnd (bShr a (c : Int)) 1 = bt a c := by
  obtain ⟨n, rfl⟩ := Int.eq_ofNat_of_zero_le h0
  rw [bShr_nat hc (by omega), show (1 : Int) = ((1 : Nat) : Int) from rfl, bAnd_nat (Nat.lt_of_le_of_lt (Nat.div_le_self _ _) (by omega))]
  unfold bt
  rw [show ((n : Int)).toNat = n from rfl, Nat.testBit_eq_decide_div_mod_eq, Nat.and_one_is_mod]
  have : n / 2 ^ c % 2 < 2 := Nat.mod_lt _ (by decide)
  by_cases h : n / 2 ^ c % 2 = 1
  · simp [h]
  · have h2 : n / 2 ^ c % 2 = 0 := by omega
    simp [h2]
theorem bt_01 (a : Int) (c : Nat) : bt a c = 0 ∨ bt a c = 1 := by unfold bt; split <;> simp
theorem one_shl {c : Nat} (hc : c < 31) : bShl 1 (c : Int) = ((2 ^ c : Nat) : Int) := by
  have h := bShl_nat (a := 1) (c := c) (by omega) (by rw [Nat.one_mul]; exact Nat.pow_lt_pow_right (by decide) hc)
  rw [Nat.one_mul] at h
  exact h
/-- the bits of those below k of whom p is so -/
def bitsTo (p : Nat → Bool) : Nat → Nat
  | 0 => 0
  | k + 1 => if p k then bitsTo p k ||| 2 ^ k else bitsTo p k
theorem bitsTo_lt (p : Nat → Bool) : ∀ k, bitsTo p k < 2 ^ k
  | 0 => by simp [bitsTo]
  | k + 1 => by
    have h := bitsTo_lt p k
    unfold bitsTo
    split
    · exact Nat.or_lt_two_pow (Nat.lt_trans h (Nat.pow_lt_pow_right (by decide) (by omega))) (Nat.pow_lt_pow_right (by decide) (by omega))
    · exact Nat.lt_trans h (Nat.pow_lt_pow_right (by decide) (by omega))
theorem bitsTo_congr {p q : Nat → Bool} : ∀ {k : Nat}, (∀ j, j < k → p j = q j) → bitsTo p k = bitsTo q k
  | 0, _ => rfl
  | k + 1, h => by unfold bitsTo; rw [bitsTo_congr (fun j hj => h j (by omega)), h k (by omega)]
theorem bitsTo_testBit (p : Nat → Bool) : ∀ (k j : Nat), (bitsTo p k).testBit j = (decide (j < k) && p j)
  | 0, j => by simp [bitsTo]
  | k + 1, j => by
    have ih := bitsTo_testBit p k j
    unfold bitsTo
    by_cases e : j = k
    · subst e
      have h0 : (bitsTo p j).testBit j = false := by rw [ih]; simp
      by_cases hp : p j = true
      · simp [hp, Nat.testBit_or, Nat.testBit_two_pow_self]
      · simp [hp, h0]
    · have e2 : decide (j < k + 1) = decide (j < k) := by
        have : j < k + 1 ↔ j < k := by omega
        simp [this]
      rw [e2]
      by_cases hp : p k = true
      · simp [hp, Nat.testBit_or, ih, Nat.testBit_two_pow_of_ne (Ne.symm e)]
      · simp [hp, ih]
-- memory: what is read behind a write
theorem mset_eq (mem : Mem) (c j : Nat) (v : Int) : mset mem c j v c j = v := by simp [mset, rset, uset]
theorem mset_nj (mem : Mem) (c j : Nat) (v : Int) {j' : Nat} (h : j' ≠ j) : mset mem c j v c j' = mem c j' := by simp [mset, rset, uset, h]
theorem mset_nc (mem : Mem) (c j : Nat) (v : Int) {c' : Nat} (h : c' ≠ c) : mset mem c j v c' = mem c' := by simp [mset, rset, h]
theorem uset_eq (f : Nat → Int) (j : Nat) (v : Int) : uset f j v j = v := if_pos rfl
theorem uset_ne (f : Nat → Int) {j j' : Nat} (v : Int) (h : j' ≠ j) : uset f j v j' = f j' := if_neg h
theorem mset_row (mem : Mem) (c j : Nat) (v : Int) : mset mem c j v c = uset (mem c) j v := by simp [mset, rset]
theorem mset_rset (mem : Mem) (c j : Nat) (f : Nat → Int) (v : Int) : mset (rset mem c f) c j v = rset mem c (uset f j v) := by
  funext c' j'
  simp only [mset, rset]
  split <;> simp
theorem rset_self (mem : Mem) (c : Nat) : rset mem c (mem c) = mem := by
  funext c'
  simp only [rset]
  split
  · rename_i h; rw [h]
  · rfl
theorem rset_rset (mem : Mem) (c : Nat) (f g : Nat → Int) : rset (rset mem c f) c g = rset mem c g := by
  funext c'
  simp only [rset]
  split <;> rfl
/-- the first k places of f, the rest of g -/
def mix (f g : Nat → Int) (k : Nat) : Nat → Int := fun j => if j < k then f j else g j
theorem mix_0 (f g : Nat → Int) : mix f g 0 = g := by funext j; simp [mix]
theorem mix_s (f g : Nat → Int) (k : Nat) : uset (mix f g k) k (f k) = mix f g (k + 1) := by
  funext j
  simp only [uset, mix]
  by_cases h : j = k
  · subst h; simp
  · by_cases h2 : j < k
    · simp [h, h2, show j < k + 1 by omega]
    · simp [h, h2, show ¬ j < k + 1 by omega]
