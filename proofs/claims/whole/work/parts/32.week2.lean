-- WEEKS
def pkN (am : Nat → Int) : Nat → Nat
  | 0 => 0
  | k + 1 => 64 * pkN am k + (am k).toNat
theorem pkN_lt {am : Nat → Int} : ∀ {k : Nat}, (∀ c, c < k → 0 ≤ am c ∧ am c ≤ 60) → pkN am k < 64 ^ k
  | 0, _ => by simp [pkN]
  | k + 1, h => by
    have h1 := pkN_lt (k := k) (fun c hc => h c (by omega))
    have h2 := h k (by omega)
    unfold pkN
    rw [Nat.pow_succ]
    omega
theorem pkN_inj {am am' : Nat → Int} : ∀ {k : Nat}, (∀ c, c < k → 0 ≤ am c ∧ am c ≤ 60) → (∀ c, c < k → 0 ≤ am' c ∧ am' c ≤ 60) → (pkN am k = pkN am' k ↔ ∀ c, c < k → am c = am' c)
  | 0, _, _ => by simp [pkN]
  | k + 1, h, h' => by
    have ih := pkN_inj (k := k) (fun c hc => h c (by omega)) (fun c hc => h' c (by omega))
    have h1 := h k (by omega)
    have h2 := h' k (by omega)
    unfold pkN
    constructor
    · intro q c hc
      have q1 : pkN am k = pkN am' k := by omega
      rcases Nat.lt_or_ge c k with z | z
      · exact ih.mp q1 c z
      · rw [show c = k by omega]; omega
    · intro q
      rw [ih.mpr (fun c hc => q c (by omega)), q k (by omega)]
theorem lsh6 {n : Nat} (h : n * 64 < 2 ^ 63) : lShl (n : Int) 6 = ((64 * n : Nat) : Int) := by
  unfold lShl
  rw [show Int64.ofInt (n : Int) = lN n from rfl, g_shl (k := 6) (p := 64) (by decide) (by decide) (by decide) (by omega), pk_lT h, Nat.mul_comm]
theorem lor6 {b a : Nat} (ha : a < 64) (h : 64 * b + a < 2 ^ 63) : lOr ((64 * b : Nat) : Int) (a : Int) = ((64 * b + a : Nat) : Int) := by
  unfold lOr
  rw [show Int64.ofInt ((64 * b : Nat) : Int) = lN (2 ^ 6 * b) from rfl, show Int64.ofInt (a : Int) = lN a from rfl, fb_or_sumL b (by omega), show 2 ^ 6 * b = 64 * b from rfl, pk_lT h]
theorem zak2 {a : Int} {P : Prop} (h : P → 0 ≤ a ∧ a ≤ 60) (hp : P) : a.toNat < 64 := by have := h hp; omega
theorem zak3 {a : Int} {b n : Nat} {P : Prop} (h : P → 0 ≤ a ∧ a ≤ 60) (hp : P) (h1 : b < n) (h2 : n ≤ 64 ^ 8) : 64 * b + a.toNat < 2 ^ 63 := by have := h hp; omega

theorem t_aimsAsOne (G : Gm) (mem : Mem) (ha : ∀ c, c < 8 → 0 ≤ mem 28 c ∧ mem 28 c ≤ 60) : Con G mX1_aimsAsOne [(2, 25)] mem (fun r m' => r = some (1, ((pkN (mem 28) 8 : Nat) : Int)) ∧ m' = mem) := by
  refine Con.of (lo := [(2, 25), (3, 0), (3, 0), (3, 0)]) (by decide +kernel) (Nat.le_of_ble_eq_true rfl) rfl ?_
  generalize hQ_ : (fun r m' => r = some (1, ((pkN (mem 28) 8 : Nat) : Int)) ∧ m' = mem : Option AV → Mem → Prop) = Q_
  refine e_lconst (pc := 0) (z := 0) dX1_aimsAsOne_0 rfl (by decide) ?_
  refine e_lstoren (pc := 1) (lo' := [(2, 25), (1, 0), (3, 0), (3, 0)]) dX1_aimsAsOne_1 rfl rfl (by decide) rfl ?_
  refine e_iconst (pc := 2) dX1_aimsAsOne_2 (by decide) ?_
  refine e_istoren (pc := 3) (lo' := [(2, 25), (1, 0), (3, 0), (0, 0)]) dX1_aimsAsOne_3 rfl rfl (by decide) rfl ?_
  have L4 : ∀ (n_ : Nat) (k : Nat), 8 - k = n_ → (k ≤ 8) → Ev G mX1_aimsAsOne Q_ 4 [(2, 25), (1, ((pkN (mem 28) k : Nat) : Int)), (3, 0), (0, (k : Int))] [] mem := by
    intro n_
    induction n_ using Nat.strongRecOn with
    | ind n_ ih4 =>
      intro k hn_ zk
      have zp := pkN_lt (am := mem 28) (k := k) (fun c hc => ha c (by omega))
      have zp2 : 64 ^ k ≤ 64 ^ 8 := Nat.pow_le_pow_right (by decide) zk
      have zak := ha k
      refine e_iloadn (pc := 4) dX1_aimsAsOne_4 rfl rfl ?_
      refine e_bipush (pc := 5) dX1_aimsAsOne_5 rfl (by decide) ?_
      refine e_icmp_ge (pc := 7) (tgt := 29) dX1_aimsAsOne_7 rfl (fun h7 => ?_) (fun h7 => ?_)
      · skip
        refine e_lloadn (pc := 29) dX1_aimsAsOne_29 rfl rfl ?_
        exact e_lret (pc := 30) dX1_aimsAsOne_30 rfl (by rw [← hQ_, show k = 8 by omega]; exact ⟨rfl, rfl⟩)
      · skip
        refine e_lloadn (pc := 10) dX1_aimsAsOne_10 rfl rfl ?_
        refine e_bipush (pc := 11) dX1_aimsAsOne_11 rfl (by decide) ?_
        refine e_lshl (pc := 13) dX1_aimsAsOne_13 ?_
        rw [show lShl ((pkN (mem 28) k : Nat) : Int) 6 = ((64 * pkN (mem 28) k : Nat) : Int) from lsh6 (by omega)]
        refine e_aloadn (pc := 14) dX1_aimsAsOne_14 rfl rfl ?_
        refine e_getr (pc := 15) (k := 28) dX1_aimsAsOne_15 fX1_21 s_25 rfl (by decide) ?_
        refine e_iloadn (pc := 18) dX1_aimsAsOne_18 rfl rfl ?_
        refine e_ialdv (pc := 19) (v := (((mem 28 k).toNat : Nat) : Int)) dX1_aimsAsOne_19 s_28 (by omega) ((Int.toNat_of_nonneg (zak (by omega)).1).symm) ?_
        refine e_i2l (pc := 20) dX1_aimsAsOne_20 ?_
        refine e_lor (pc := 21) dX1_aimsAsOne_21 ?_
        rw [show lOr ((64 * pkN (mem 28) k : Nat) : Int) (((mem 28 k).toNat : Nat) : Int) = ((pkN (mem 28) (k + 1) : Nat) : Int) from lor6 (zak2 zak (by omega)) (zak3 zak (by omega) zp zp2)]
        refine e_lstoren (pc := 22) (lo' := [(2, 25), (1, ((pkN (mem 28) (k + 1) : Nat) : Int)), (3, 0), (0, (k : Int))]) dX1_aimsAsOne_22 rfl rfl (by decide) rfl ?_
        refine e_iinc (pc := 23) (lo' := [(2, 25), (1, ((pkN (mem 28) (k + 1) : Nat) : Int)), (3, 0), (0, (k : Int) + 1)]) dX1_aimsAsOne_23 rfl (by omega) rfl (by decide) rfl ?_
        refine e_goto (pc := 26) (tgt := 4) dX1_aimsAsOne_26 rfl ?_
        exact Ev.to (ih4 _ (by omega) (k + 1) (rfl) (by omega)) rfl rfl rfl
  exact Ev.to (L4 _ 0 (rfl) (by omega)) rfl rfl rfl

/-- the same aims -/
def E8 (a b : Nat → Int) : Prop := ∀ c, c < 8 → a c = b c
theorem E8.rf {a : Nat → Int} : E8 a a := fun _ _ => rfl
theorem E8.sy {a b : Nat → Int} (h : E8 a b) : E8 b a := fun c hc => (h c hc).symm
theorem E8.tr {a b d : Nat → Int} (h : E8 a b) (h2 : E8 b d) : E8 a d := fun c hc => (h c hc).trans (h2 c hc)
theorem whF_congr {kd am am' : Nat → Int} (h : E8 am am') (told late aw : Int) (dl lag seen : Nat → Int) : whF kd am told late aw dl lag seen = whF kd am' told late aw dl lag seen := by
  unfold whF comeF
  congr 1
  funext wh
  apply propext
  have hf : ∀ c, c < 8 → fmR kd am told late aw dl c = fmR kd am' told late aw dl c := fun c hc => by unfold fmR firmV; rw [h c hc]
  constructor
  · intro q c hc
    rw [← hf c hc]; exact q c hc
  · intro q c hc
    rw [hf c hc]; exact q c hc
theorem stF_congr {mem : Mem} {kd am am' : Nat → Int} (h : E8 am am') (told late aw : Int) (dl lag seen : Nat → Int) : stF mem kd am told late aw dl lag seen = stF mem kd am' told late aw dl lag seen := by
  unfold stF
  rw [whF_congr h]
theorem E8.us {a b : Nat → Int} (h : E8 a b) (o : Nat) (x : Int) : E8 (uset a o x) (uset b o x) := fun c hc => by
  unfold uset
  split
  · rfl
  · exact h c hc
theorem prA_congr {mem : Mem} {tm kd am am' : Nat → Int} {late aw : Int} (h : E8 am am') : prA mem tm kd am late aw = prA mem tm kd am' late aw := by
  funext o j
  unfold prA
  rw [stF_congr (h.us o (j : Int))]
theorem bfA_congr {mem : Mem} {down : Bool} {am am' : Nat → Int} (h : E8 am am') : bfA mem down am = bfA mem down am' := by
  funext c
  unfold bfA
  rw [prA_congr h]
/-- the aims of week w -/
noncomputable def wkA (mem : Mem) (am : Nat → Int) : Nat → Nat → Int
  | 0 => am
  | w + 1 => nxA (bfA mem false) (mem 27) (wkA mem am w)
theorem nxA_congr {mem : Mem} {am am' : Nat → Int} (h : E8 am am') : E8 (nxA (bfA mem false) (mem 27) am) (nxA (bfA mem false) (mem 27) am') := fun c hc => by
  unfold nxA
  rw [bfA_congr h, h c hc]
theorem wkA_add {mem : Mem} {am : Nat → Int} {f g : Nat} (h : E8 (wkA mem am f) (wkA mem am g)) : ∀ d : Nat, E8 (wkA mem am (f + d)) (wkA mem am (g + d))
  | 0 => h
  | d + 1 => nxA_congr (wkA_add h d)
theorem wkA_bd {mem : Mem} {am : Nat → Int} (h : ∀ c, c < 8 → 0 ≤ am c ∧ am c ≤ 60) : ∀ w : Nat, ∀ c, c < 8 → 0 ≤ wkA mem am w c ∧ wkA mem am w c ≤ 60
  | 0 => h
  | w + 1 => fun c hc => by
    have ih := wkA_bd (mem := mem) h w c hc
    show 0 ≤ nxA _ _ _ c ∧ nxA _ _ _ c ≤ 60
    unfold nxA
    have := bestN_le (prA mem (mem 26) (mem 27) (wkA mem am w) (mem 25 4) (mem 25 5) c) false
    split
    · unfold bfA; omega
    · exact ih
/-- when it begins in week w -/
noncomputable def wkB (mem : Mem) (am : Nat → Int) (w : Nat) : Int := stF mem (mem 27) (wkA mem am w) (mem 26 0) (mem 25 4) (mem 25 5) (mem 9) (mem 2) (mem 3)
/-- no two of the first N weeks have the same aims -/
def NoRep (X : Nat → Nat → Int) (N : Nat) : Prop := ∀ g, g < N → ∀ f, f < g → ¬ E8 (X f) (X g)
/-- the first repeat among the first N weeks -/
def RepAt (X : Nat → Nat → Int) (N f g : Nat) : Prop := f < g ∧ g < N ∧ E8 (X f) (X g) ∧ NoRep X g ∧ ∀ f', f' < f → ¬ E8 (X f') (X g)
