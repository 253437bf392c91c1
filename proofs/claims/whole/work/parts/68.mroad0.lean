theorem lDivP {a b : Int} (ha : okL a) (hb : 0 < b ∧ b ≤ 4611686018427387904) : lDiv a b = a.tdiv b := by
  unfold lDiv
  have hb2 : okL b := by constructor <;> omega
  rw [Int64.toInt_div_of_ne_right _ _ (fun q => by
    have := congrArg Int64.toInt q
    rw [i64_toInt hb2] at this
    have h1 : (-1 : Int64).toInt = -1 := by decide
    omega), i64_toInt ha, i64_toInt hb2]
theorem lRemP {a b : Nat} (ha : a ≤ 4611686018427387904) (hb : 0 < b ∧ b ≤ 4611686018427387904) : lRem (a : Int) (b : Int) = ((a % b : Nat) : Int) := by
  have ea : okL (a : Int) := by constructor <;> omega
  have eq : okL (((a / b : Nat)) : Int) := by
    have h9 := Nat.div_le_self a b
    generalize a / b = y at h9 ⊢
    constructor <;> omega
  have h1 : Int64.ofInt (a : Int) / Int64.ofInt (b : Int) = Int64.ofInt ((a / b : Nat) : Int) := by
    apply Int64.toInt_inj.mp
    have e := lDivP (a := (a : Int)) (b := (b : Int)) ea (by omega)
    unfold lDiv at e
    rw [e, i64_toInt eq, Int.tdiv_eq_ediv_of_nonneg (by omega)]
    rfl
  unfold lRem
  have h2 := Nat.div_add_mod a b
  have h3 := Nat.mod_lt a hb.1
  rw [h1, ← Int64.ofInt_mul, ← Int64.ofInt_sub]
  have h4 : (a : Int) - ((a / b : Nat) : Int) * (b : Int) = ((a % b : Nat) : Int) := by
    rw [← Int.natCast_mul, Nat.mul_comm]
    generalize b * (a / b) = y at h2
    omega
  rw [h4, i64_toInt (by constructor <;> omega)]
/-- what a number and a power of two have in common -/
theorem gcd_2 : ∀ (j m : Nat), ∃ e a : Nat, e ≤ j ∧ Nat.gcd m (2 ^ j) = 2 ^ e ∧ m = a * 2 ^ e ∧ (e = j ∨ a % 2 = 1)
  | 0, m => ⟨0, m, Nat.le_refl _, by rw [Nat.pow_zero, Nat.gcd_one_right], by rw [Nat.pow_zero, Nat.mul_one], Or.inl rfl⟩
  | j + 1, m => by
    by_cases q : m % 2 = 0
    · obtain ⟨e, a, h1, h2, h3, h4⟩ := gcd_2 j (m / 2)
      refine ⟨e + 1, a, by omega, ?_, ?_, by omega⟩
      · have hm : m = 2 * (m / 2) := by omega
        rw [hm, Nat.pow_succ, Nat.mul_comm (2 ^ j) 2, Nat.gcd_mul_left, h2, Nat.pow_succ]
        omega
      · rw [Nat.pow_succ, ← Nat.mul_assoc, ← h3]; omega
    · refine ⟨0, m, by omega, ?_, by rw [Nat.pow_zero, Nat.mul_one], Or.inr (by omega)⟩
      have h1 : Nat.Coprime m 2 := by
        unfold Nat.Coprime
        rw [Nat.gcd_comm, Nat.gcd_rec, show m % 2 = 1 by omega]
        decide
      rw [Nat.pow_zero]
      exact Nat.Coprime.pow_right (j + 1) h1
/-- lowest terms: a sum of shares, and the sum over all eight -/
theorem low_is {M : Int} {K : Nat} (hK : K ≤ 8) (wh : Int) : IsLow (M * 16 ^ (8 - K)) wh (if wh = 0 then M.tdiv ((Nat.gcd M.natAbs (2 ^ (4 * K)) : Nat) : Int) else (((2 ^ (4 * K) : Nat) : Int)).tdiv ((Nat.gcd M.natAbs (2 ^ (4 * K)) : Nat) : Int)) := by
  obtain ⟨e, a, h1, h2, h3, h4⟩ := gcd_2 (4 * K) M.natAbs
  rw [h2]
  have hp : ((2 ^ e : Nat) : Int) ≠ 0 := by have := Nat.two_pow_pos e; omega
  obtain ⟨b, hb1, hb2⟩ : ∃ b : Int, M = b * ((2 ^ e : Nat) : Int) ∧ b.natAbs = a := by
    rcases Int.natAbs_eq M with q | q
    · exact ⟨(a : Int), by rw [q, h3]; rw [Int.natCast_mul], rfl⟩
    · exact ⟨-(a : Int), by rw [q, h3, Int.natCast_mul, Int.neg_mul], by omega⟩
  have hd : M.tdiv ((2 ^ e : Nat) : Int) = b := by rw [hb1]; exact Int.mul_tdiv_cancel _ hp
  have h16 : (16 : Int) ^ (8 - K) = 2 ^ (32 - 4 * K) := by
    rw [show (16 : Int) = 2 ^ 4 by decide, ← Int.pow_mul, show 4 * (8 - K) = 32 - 4 * K by omega]
  refine ⟨32 - 4 * K + e, b, by omega, ?_, ?_, ?_⟩
  · rw [h16, hb1, Int.natCast_pow, Int.mul_assoc]
    show b * ((2 : Int) ^ e * 2 ^ (32 - 4 * K)) = _
    rw [← Int.pow_add, Nat.add_comm]
  · rcases h4 with q | q
    · left; omega
    · right
      intro z
      have := tdm b
      omega
  · rw [hd]
    have e2 : (((2 ^ (4 * K) : Nat) : Int)).tdiv ((2 ^ e : Nat) : Int) = ((2 ^ (32 - (32 - 4 * K + e)) : Nat) : Int) := by
      rw [show 32 - (32 - 4 * K + e) = 4 * K - e by omega]
      have : 2 ^ (4 * K) = 2 ^ (4 * K - e) * 2 ^ e := by rw [← Nat.pow_add]; congr 1; omega
      rw [this, Int.natCast_mul]
      exact Int.mul_tdiv_cancel _ hp
    rw [e2]
-- ways of those only who have a lot
def lotQ (lot : Nat → Int) (c : Nat) : Bool := decide (0 < lot c)
def ptN (lot : Nat → Int) (v : Nat) : Nat → Int
  | 0 => 1
  | m + 1 => if lotQ lot m = true then ptN lot v m * (if v.testBit (cnt (lotQ lot) m) = true then lot m else 16 - lot m) else ptN lot v m
def spN (lot : Nat → Int) (v : Nat) : Nat → Nat
  | 0 => 0
  | m + 1 => if lotQ lot m = true ∧ v.testBit (cnt (lotQ lot) m) = true then spN lot v m ||| 2 ^ m else spN lot v m
theorem ptN_s (lot : Nat → Int) (v m : Nat) : ptN lot v (m + 1) = if lotQ lot m = true then ptN lot v m * (if v.testBit (cnt (lotQ lot) m) = true then lot m else 16 - lot m) else ptN lot v m := rfl
theorem spN_s (lot : Nat → Int) (v m : Nat) : spN lot v (m + 1) = if lotQ lot m = true ∧ v.testBit (cnt (lotQ lot) m) = true then spN lot v m ||| 2 ^ m else spN lot v m := rfl
theorem spN_lt (lot : Nat → Int) (v : Nat) : ∀ m, spN lot v m < 2 ^ m
  | 0 => by show 0 < 1; decide
  | m + 1 => by
    have h := spN_lt lot v m
    have h2 : 2 ^ m < 2 ^ (m + 1) := Nat.pow_lt_pow_right (by decide) (by omega)
    rw [spN_s]
    split
    · exact Nat.or_lt_two_pow (by omega) h2
    · omega
theorem pt_cg {lot : Nat → Int} {v v' : Nat} : ∀ {m : Nat}, (∀ j, j < cnt (lotQ lot) m → v.testBit j = v'.testBit j) → ptN lot v m = ptN lot v' m ∧ spN lot v m = spN lot v' m
  | 0, _ => ⟨rfl, rfl⟩
  | m + 1, h => by
    have hc : cnt (lotQ lot) (m + 1) = cnt (lotQ lot) m + if lotQ lot m then 1 else 0 := cnt_s _ _
    obtain ⟨i1, i2⟩ := pt_cg (lot := lot) (v := v) (v' := v') (m := m) (fun j hj => h j (by omega))
    rw [ptN_s, ptN_s, spN_s, spN_s, i1, i2]
    by_cases q : lotQ lot m = true
    · rw [h (cnt (lotQ lot) m) (by rw [hc, if_pos q]; omega)]
      exact ⟨rfl, rfl⟩
    · rw [if_neg q, if_neg q, if_neg (fun z => q z.1), if_neg (fun z => q z.1)]
      exact ⟨rfl, rfl⟩
theorem wt_cg {lot : Nat → Int} {w w' : Nat} : ∀ {m : Nat}, (∀ j, j < m → w.testBit j = w'.testBit j) → wtN lot (w : Int) m = wtN lot (w' : Int) m
  | 0, _ => rfl
  | m + 1, h => by
    rw [wtN_s, wtN_s, wt_cg (fun j hj => h j (by omega))]
    unfold bt
    rw [Int.toNat_natCast, Int.toNat_natCast, h m (by omega)]
theorem sumTo_add (f : Nat → Int) (a : Nat) : ∀ b : Nat, sumTo f (a + b) = sumTo f a + sumTo (fun j => f (a + j)) b
  | 0 => by show sumTo f a = sumTo f a + 0; omega
  | b + 1 => by
    show sumTo f (a + b) + f (a + b) = sumTo f a + (sumTo (fun j => f (a + j)) b + f (a + b))
    rw [sumTo_add f a b]; omega
theorem sumTo_mul (x : Int) (f : Nat → Int) : ∀ n : Nat, sumTo (fun j => x * f j) n = x * sumTo f n
  | 0 => by show (0 : Int) = x * 0; omega
  | n + 1 => by
    show sumTo (fun j => x * f j) n + x * f n = x * (sumTo f n + f n)
    rw [sumTo_mul x f n, Int.mul_add]
theorem tb_hi {m w : Nat} (h : w < 2 ^ m) : (2 ^ m + w).testBit m = true := by rw [Nat.testBit_two_pow_add_eq, Nat.testBit_lt_two_pow h]; rfl
theorem bt_nat {w c : Nat} : bt (w : Int) c = if w.testBit c = true then 1 else 0 := by unfold bt; rw [Int.toNat_natCast]
/-- the sum over all ways of eight, and that over the ways of those who have a lot -/
theorem ways_eq {lot : Nat → Int} (hl : ∀ c, c < 8 → 0 ≤ lot c) : ∀ (m : Nat), m ≤ 8 → ∀ F : Nat → Int, sumTo (fun w => wtN lot (w : Int) m * F w) (2 ^ m) = sumTo (fun v => ptN lot v m * F (spN lot v m)) (2 ^ cnt (lotQ lot) m) * 16 ^ (m - cnt (lotQ lot) m)
  | 0, _, F => by
    show 0 + 1 * F 0 = (0 + 1 * F 0) * 16 ^ 0
    omega
  | m + 1, hm, F => by
    have hcl := cnt_le (lotQ lot) m
    have hc : cnt (lotQ lot) (m + 1) = cnt (lotQ lot) m + if lotQ lot m then 1 else 0 := cnt_s _ _
    have ih := ways_eq hl m (by omega)
    have e1 : sumTo (fun w => wtN lot (w : Int) (m + 1) * F w) (2 ^ m) = (16 - lot m) * sumTo (fun w => wtN lot (w : Int) m * F w) (2 ^ m) := by
      rw [← sumTo_mul]
      refine sumTo_congr (fun w hw => ?_)
      show wtN lot (w : Int) (m + 1) * F w = _
      rw [wtN_s, bt_nat, Nat.testBit_lt_two_pow hw, if_neg (by decide)]
      rw [Int.mul_comm (wtN lot (w : Int) m), Int.mul_assoc]
    have e2 : sumTo (fun j => wtN lot ((2 ^ m + j : Nat) : Int) (m + 1) * F (2 ^ m + j)) (2 ^ m) = lot m * sumTo (fun w => wtN lot (w : Int) m * F (2 ^ m + w)) (2 ^ m) := by
      rw [← sumTo_mul]
      refine sumTo_congr (fun w hw => ?_)
      show wtN lot ((2 ^ m + w : Nat) : Int) (m + 1) * F (2 ^ m + w) = _
      rw [wtN_s, bt_nat, tb_hi hw, if_pos rfl, if_pos rfl, wt_cg (w := 2 ^ m + w) (w' := w) (fun j hj => Nat.testBit_two_pow_add_gt hj w)]
      rw [Int.mul_comm (wtN lot (w : Int) m), Int.mul_assoc]
    have e3 : 2 ^ (m + 1) = 2 ^ m + 2 ^ m := by rw [Nat.pow_succ]; omega
    rw [e3, sumTo_add, e1]
    show _ + sumTo (fun j => wtN lot ((2 ^ m + j : Nat) : Int) (m + 1) * F (2 ^ m + j)) (2 ^ m) = _
    rw [e2, ih F, ih (fun w => F (2 ^ m + w))]
    by_cases q : lotQ lot m = true
    · rw [hc, if_pos q]
      have e4 : 2 ^ (cnt (lotQ lot) m + 1) = 2 ^ cnt (lotQ lot) m + 2 ^ cnt (lotQ lot) m := by rw [Nat.pow_succ]; omega
      have f1 : sumTo (fun v => ptN lot v (m + 1) * F (spN lot v (m + 1))) (2 ^ cnt (lotQ lot) m) = (16 - lot m) * sumTo (fun v => ptN lot v m * F (spN lot v m)) (2 ^ cnt (lotQ lot) m) := by
        rw [← sumTo_mul]
        refine sumTo_congr (fun v hv => ?_)
        show ptN lot v (m + 1) * F (spN lot v (m + 1)) = _
        rw [ptN_s, spN_s, if_pos q, Nat.testBit_lt_two_pow hv, if_neg (by decide), if_neg (fun z => absurd z.2 (by decide))]
        rw [Int.mul_comm (ptN lot v m), Int.mul_assoc]
      have f2 : sumTo (fun j => ptN lot (2 ^ cnt (lotQ lot) m + j) (m + 1) * F (spN lot (2 ^ cnt (lotQ lot) m + j) (m + 1))) (2 ^ cnt (lotQ lot) m) = lot m * sumTo (fun v => ptN lot v m * F (2 ^ m + spN lot v m)) (2 ^ cnt (lotQ lot) m) := by
        rw [← sumTo_mul]
        refine sumTo_congr (fun v hv => ?_)
        show ptN lot (2 ^ cnt (lotQ lot) m + v) (m + 1) * F (spN lot (2 ^ cnt (lotQ lot) m + v) (m + 1)) = _
        obtain ⟨g1, g2⟩ := pt_cg (lot := lot) (v := 2 ^ cnt (lotQ lot) m + v) (v' := v) (m := m) (fun j hj => Nat.testBit_two_pow_add_gt hj v)
        rw [ptN_s, spN_s, if_pos q, tb_hi hv, if_pos rfl, if_pos ⟨q, rfl⟩, g1, g2]
        have g3 := Nat.two_pow_add_eq_or_of_lt (spN_lt lot v m) 1
        rw [Nat.mul_one] at g3
        rw [Nat.or_comm, ← g3, Int.mul_comm (ptN lot v m), Int.mul_assoc]
      rw [e4, sumTo_add, f1]
      show _ = (_ + sumTo (fun j => ptN lot (2 ^ cnt (lotQ lot) m + j) (m + 1) * F (spN lot (2 ^ cnt (lotQ lot) m + j) (m + 1))) (2 ^ cnt (lotQ lot) m)) * _
      rw [f2, show m + 1 - (cnt (lotQ lot) m + 1) = m - cnt (lotQ lot) m by omega, Int.add_mul, Int.mul_assoc, Int.mul_assoc]
    · have hz : lot m = 0 := by
        have h0 := hl m (by omega)
        unfold lotQ at q
        simp at q
        omega
      rw [hc, if_neg q]
      simp only [Nat.add_zero]
      rw [hz, Int.zero_mul, Int.add_zero, show m + 1 - cnt (lotQ lot) m = (m - cnt (lotQ lot) m) + 1 by omega, Int.pow_succ]
      have f1 : sumTo (fun v => ptN lot v (m + 1) * F (spN lot v (m + 1))) (2 ^ cnt (lotQ lot) m) = sumTo (fun v => ptN lot v m * F (spN lot v m)) (2 ^ cnt (lotQ lot) m) := sumTo_congr (fun v hv => by
        show ptN lot v (m + 1) * F (spN lot v (m + 1)) = _
        rw [ptN_s, spN_s, if_neg q, if_neg (fun z => q z.1)])
      rw [f1, Int.sub_zero, Int.mul_comm 16, Int.mul_assoc]
/-- by the row of those who have a lot -/
def ptR (R : Nat → Nat) (lot : Nat → Int) (v : Nat) : Nat → Int
  | 0 => 1
  | k + 1 => ptR R lot v k * (if v.testBit k = true then lot (R k) else 16 - lot (R k))
def spR (R : Nat → Nat) (v : Nat) : Nat → Nat
  | 0 => 0
  | k + 1 => if v.testBit k = true then spR R v k ||| 2 ^ (R k) else spR R v k
theorem ptR_N {R : Nat → Nat} {lot : Nat → Int} {v : Nat} : ∀ m : Nat, (∀ c, c < m → lotQ lot c = true → R (cnt (lotQ lot) c) = c) → ptR R lot v (cnt (lotQ lot) m) = ptN lot v m ∧ spR R v (cnt (lotQ lot) m) = spN lot v m
  | 0, _ => ⟨rfl, rfl⟩
  | m + 1, h => by
    obtain ⟨i1, i2⟩ := ptR_N (R := R) (lot := lot) (v := v) m (fun c hc => h c (by omega))
    rw [cnt_s, ptN_s, spN_s]
    by_cases q : lotQ lot m = true
    · rw [if_pos q, if_pos q]
      show ptR R lot v (cnt (lotQ lot) m) * _ = _ ∧ (if _ then _ else _) = _
      rw [i1, i2, h m (by omega) q]
      refine ⟨rfl, ?_⟩
      by_cases z : v.testBit (cnt (lotQ lot) m) = true
      · rw [if_pos z, if_pos ⟨q, z⟩]
      · rw [if_neg z, if_neg (fun y => z y.2)]
    · rw [if_neg q, if_neg q, if_neg (fun z => q z.1)]
      exact ⟨i1, i2⟩
