-- one digit of a way's number set
def tyD (B m q s y : Nat) : Nat := B * (m * q + y) + s
theorem tyD_of (m r way : Nat) (hm : 0 < m) : way = tyD (m ^ r) m (way / m ^ (r + 1)) (way % m ^ r) (way / m ^ r % m) := by
  unfold tyD
  have h1 := Nat.div_add_mod way (m ^ r)
  have h2 := Nat.div_add_mod (way / m ^ r) m
  rw [Nat.div_div_eq_div_mul, ← Nat.pow_succ] at h2
  rw [h2, h1]
theorem tyD_div {B m q s y : Nat} (hs : s < B) : tyD B m q s y / B = m * q + y := by
  unfold tyD
  rw [Nat.mul_add_div (by omega), Nat.div_eq_of_lt hs, Nat.add_zero]
theorem tyD_at {B m q s y : Nat} (hs : s < B) (hy : y < m) : tyD B m q s y / B % m = y := by
  rw [tyD_div hs, Nat.mul_add_mod, Nat.mod_eq_of_lt hy]
theorem tyD_lo {m r r' q s y : Nat} (hm : 0 < m) (hr : r' < r) : tyD (m ^ r) m q s y / m ^ r' % m = s / m ^ r' % m := by
  unfold tyD
  have e : m ^ r = m ^ r' * (m * m ^ (r - r' - 1)) := by
    rw [Nat.mul_comm m, ← Nat.pow_succ, ← Nat.pow_add]; congr 1; omega
  rw [e, Nat.mul_assoc, Nat.mul_add_div (Nat.pow_pos hm), Nat.mul_assoc, Nat.mul_add_mod]
theorem tyD_hi {m r r' q s y : Nat} (hm : 0 < m) (hs : s < m ^ r) (hy : y < m) (hr : r < r') : tyD (m ^ r) m q s y / m ^ r' = q / m ^ (r' - r - 1) := by
  have e : m ^ r' = m ^ r * (m * m ^ (r' - r - 1)) := by
    rw [Nat.mul_comm m, ← Nat.pow_succ, ← Nat.pow_add]; congr 1; omega
  rw [e, ← Nat.div_div_eq_div_mul, tyD_div hs, ← Nat.div_div_eq_div_mul, Nat.mul_add_div hm, Nat.div_eq_of_lt hy, Nat.add_zero]
def setD (m r way x : Nat) : Nat := tyD (m ^ r) m (way / m ^ (r + 1)) (way % m ^ r) x
theorem sd_at {m r way x : Nat} (hm : 0 < m) (hx : x < m) : setD m r way x / m ^ r % m = x := tyD_at (Nat.mod_lt _ (Nat.pow_pos hm)) hx
theorem sd_ne {m r r' way x : Nat} (hm : 0 < m) (hx : x < m) (hr : r' ≠ r) : setD m r way x / m ^ r' % m = way / m ^ r' % m := by
  have hs := Nat.mod_lt way (Nat.pow_pos (n := r) hm)
  have ho := Nat.mod_lt (way / m ^ r) hm
  have e := tyD_of m r way hm
  rcases Nat.lt_or_gt_of_ne hr with z | z
  · rw [show way / m ^ r' = tyD (m ^ r) m (way / m ^ (r + 1)) (way % m ^ r) (way / m ^ r % m) / m ^ r' from by rw [← e]]
    unfold setD
    rw [tyD_lo hm z, tyD_lo hm z]
  · rw [show way / m ^ r' = tyD (m ^ r) m (way / m ^ (r + 1)) (way % m ^ r) (way / m ^ r % m) / m ^ r' from by rw [← e]]
    unfold setD
    rw [tyD_hi hm hs hx z, tyD_hi hm hs ho z]
theorem sd_lt {m r P way x : Nat} (hm : 0 < m) (hx : x < m) (hr : r < P) (hw : way < m ^ P) : setD m r way x < m ^ P := by
  have hs := Nat.mod_lt way (Nat.pow_pos (n := r) hm)
  have e : m ^ P = m ^ (r + 1) * m ^ (P - r - 1) := by rw [← Nat.pow_add]; congr 1; omega
  have hq : way / m ^ (r + 1) < m ^ (P - r - 1) := Nat.div_lt_of_lt_mul (by rw [← e]; exact hw)
  unfold setD tyD
  have h1 : m ^ r * (m * (way / m ^ (r + 1)) + x) + way % m ^ r < m ^ r * (m * (way / m ^ (r + 1)) + x + 1) := by
    rw [Nat.mul_add (m ^ r) _ 1, Nat.mul_one]; omega
  have h2 : m ^ r * (m * (way / m ^ (r + 1)) + x + 1) ≤ m ^ r * (m * (way / m ^ (r + 1) + 1)) := by
    refine Nat.mul_le_mul_left _ ?_
    rw [Nat.mul_add m _ 1, Nat.mul_one]; omega
  have h3 : m ^ r * (m * (way / m ^ (r + 1) + 1)) ≤ m ^ P := by
    rw [e, ← Nat.mul_assoc, ← Nat.pow_succ]
    exact Nat.mul_le_mul_left _ hq
  omega
theorem sd_eq {m r way x : Nat} (hm : 0 < m) : ((setD m r way x : Nat) : Int) = (way : Int) + ((x : Int) - ((way / m ^ r % m : Nat) : Int)) * ((m ^ r : Nat) : Int) := by
  have e := tyD_of m r way hm
  generalize way / m ^ r % m = o at e ⊢
  unfold setD
  generalize way / m ^ (r + 1) = q at e ⊢
  generalize way % m ^ r = s at e ⊢
  generalize m ^ r = B at e ⊢
  rw [e]
  unfold tyD
  rw [Int.natCast_add, Int.natCast_add, Int.natCast_mul, Int.natCast_mul, Int.natCast_add, Int.natCast_add, Int.sub_mul, Int.mul_add, Int.mul_add, Int.mul_comm (B : Int) (x : Int), Int.mul_comm (B : Int) (o : Int)]
  omega
/-- the k-th plain comer's digit -/
theorem rk_of {p : Nat → Bool} {c : Nat} (hp : p c = true) (hc : c < 8) : rkP p c = cnt p 8 - 1 - cnt p c ∧ cnt p c < cnt p 8 := by
  have h1 := cnt_lt_of (p := p) hc hp
  have h2 : cnt p (c + 1) = cnt p c + 1 := by rw [cnt_s, if_pos hp]
  unfold rkP
  omega
theorem rk_inj {p : Nat → Bool} {c d : Nat} (hp : p c = true) (hd : p d = true) (hc : c < 8) (hd8 : d < 8) (h : rkP p c = rkP p d) : c = d := by
  have h1 := rk_of hp hc
  have h2 := rk_of hd hd8
  exact cnt_inj hp hd (by omega)
/-- what one pays in way j -/
noncomputable def csQ (A : Mem) (g : Int) (j c : Nat) : Int := pyE A (A 17) (A 18) (grT A g j) 0 0 c
theorem gr_set {A : Mem} {g : Int} (hg : 5 ≤ g ∧ g ≤ 30) {way c x : Nat} (hc : c < 8) (hk : A 18 c = 0) (hx : x < mkN g) : grT A g (setD (mkN g) (rkP (plN A) c) way x) = uset (grT A g way) c (mnF g (mkN g) x) := by
  have hm : 0 < mkN g := by have := mk_bd hg; omega
  funext d
  unfold uset
  by_cases q : d = c
  · rw [if_pos q, q]
    unfold grT
    rw [if_pos ⟨hc, hk⟩]
    unfold dgP
    rw [sd_at hm hx]
  · rw [if_neg q]
    unfold grT
    by_cases z : d < 8 ∧ A 18 d = 0
    · rw [if_pos z, if_pos z]
      unfold dgP
      rw [sd_ne hm hx (fun y => q (rk_inj (decide_eq_true z.2) (decide_eq_true hk) z.1 hc y))]
    · rw [if_neg z, if_neg z]
theorem ev_gr {A : Mem} {g : Int} (hg : 5 ≤ g ∧ g ≤ 30) (hI : CI A) (j : Nat) : EvR (A 17) (A 18) (grT A g j) 0 0 (A 2) (A 3) := ⟨hI.ev.1, fun c hc => ⟨(hI.ev.2 c hc).1, grT_bd hg hI j c hc, (hI.ev.2 c hc).2.2⟩⟩
theorem cs_set {A : Mem} {g : Int} (hg : 5 ≤ g ∧ g ≤ 30) (hI : CI A) {way c x : Nat} (hc : c < 8) (hk : A 18 c = 0) (hx : x < mkN g) : csQ A g (setD (mkN g) (rkP (plN A) c) way x) c = prA A (A 17) (A 18) (grT A g way) 0 0 c (mnF g (mkN g) x).toNat := by
  have hb := mn_bd hg hx
  unfold csQ
  rw [gr_set hg hc hk hx]
  have e := pyE_pr hI.1 (ev_gr hg hI way) (k := (mnF g (mkN g) x).toNat) hc hk (bt_0 _) (bt_0 _) (by omega)
  rw [show (((mnF g (mkN g) x).toNat : Nat) : Int) = mnF g (mkN g) x by omega] at e
  exact e
theorem cs_own {A : Mem} {g : Int} (hg : 5 ≤ g ∧ g ≤ 30) (hI : CI A) {way c : Nat} (hc : c < 8) (hk : A 18 c = 0) : csQ A g way c = prA A (A 17) (A 18) (grT A g way) 0 0 c (grT A g way c).toNat := pyE_own hI.1 (ev_gr hg hI way) hc hk (bt_0 _) (bt_0 _)
/-- the tables: who is plain; the grid; costs of the ways below i -/
def PLr (A zm : Mem) : Prop := zm 49 31 = ((cnt (plN A) 8 : Nat) : Int) ∧ ∀ c, c < 8 → plN A c = true → zm 65 (cnt (plN A) c) = (c : Int)
def GRr (A zm : Mem) (g : Int) : Prop := zm 49 35 = ((mkN g : Nat) : Int) ∧ zm 49 36 = ((wyN A g : Nat) : Int) ∧ ∀ c, c < 8 → plN A c = true → zm 68 (cnt (plN A) c) = ((mkN g ^ rkP (plN A) c : Nat) : Int)
def CTr (A zm : Mem) (g : Int) (i : Nat) : Prop := ∀ j, j < i → (∀ c, c < 8 → plN A c = true → zm 66 (2197 * cnt (plN A) c + j) = csQ A g j c) ∧ zm 67 j = tgQ A g j
theorem bDivP {a b : Int} (ha : 0 ≤ a ∧ a ≤ 2147483647) (hb : 0 < b ∧ b ≤ 2147483647) : bDiv a b = a / b := by
  unfold bDiv
  have ha2 : okI a := by constructor <;> omega
  have hb2 : okI b := by constructor <;> omega
  rw [Int32.toInt_div_of_ne_right _ _ (fun q => by
    have := congrArg Int32.toInt q
    rw [i32_toInt hb2] at this
    have h1 : (-1 : Int32).toInt = -1 := by decide
    omega), i32_toInt ha2, i32_toInt hb2, Int.tdiv_eq_ediv_of_nonneg ha.1]
theorem bDivN {a b : Nat} (ha : a ≤ 2147483647) (hb : 0 < b ∧ b ≤ 2147483647) : bDiv (a : Int) (b : Int) = ((a / b : Nat) : Int) := by
  rw [bDivP (by omega) (by omega)]; rfl
theorem bRemN {a b : Nat} (ha : a ≤ 2147483647) (hb : 0 < b ∧ b ≤ 2147483647) : bRem (a : Int) (b : Int) = ((a % b : Nat) : Int) := by
  have eq : okI (((a / b : Nat)) : Int) := by
    have h9 := Nat.div_le_self a b
    generalize a / b = y at h9 ⊢
    constructor <;> omega
  have h1 : Int32.ofInt (a : Int) / Int32.ofInt (b : Int) = Int32.ofInt ((a / b : Nat) : Int) := by
    apply Int32.toInt_inj.mp
    have e := bDivN ha hb
    unfold bDiv at e
    rw [e, i32_toInt eq]
  unfold bRem
  have h2 := Nat.div_add_mod a b
  have h3 := Nat.mod_lt a hb.1
  rw [h1, ← Int32.ofInt_mul, ← Int32.ofInt_sub]
  have h4 : (a : Int) - ((a / b : Nat) : Int) * (b : Int) = ((a % b : Nat) : Int) := by
    rw [← Int.natCast_mul, Nat.mul_comm]
    generalize b * (a / b) = y at h2
    omega
  rw [h4, i32_toInt (by constructor <;> omega)]
