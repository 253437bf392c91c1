def plN (A : Mem) (c : Nat) : Bool := decide (A 18 c = 0)
/-- how many minutes a grid has; its minutes -/
def mkN (g : Int) : Nat := ((59 + g) / g).toNat + 1
def mnF (g : Int) (m j : Nat) : Int := if j + 1 = m then 60 else g * (j : Int)
theorem mk_is {g : Int} {k : Nat} (hg : 5 ≤ g ∧ g ≤ 30) (h1 : 60 ≤ g * (k : Int)) (h2 : ∀ j : Nat, j < k → g * (j : Int) < 60) : mkN g = k + 1 := by
  unfold mkN
  have hk : 0 < k := by
    rcases Nat.eq_zero_or_pos k with q | q
    · subst q; simp at h1
    · exact q
  have h3 := h2 (k - 1) (by omega)
  have e : (59 + g) / g = (k : Int) := by
    refine Int.ediv_eq_iff_of_pos (by omega) |>.mpr ⟨?_, ?_⟩
    · rw [Int.mul_comm] at h3
      rw [show ((k - 1 : Nat) : Int) = (k : Int) - 1 by omega, Int.sub_mul] at h3
      omega
    · rw [Int.mul_comm] at h1
      omega
  rw [e]; rfl
theorem mk_bd {g : Int} (hg : 5 ≤ g ∧ g ≤ 30) : 2 ≤ mkN g ∧ mkN g ≤ 13 := by
  unfold mkN
  have h1 : 1 ≤ (59 + g) / g := Int.le_ediv_of_mul_le (by omega) (by omega)
  have h2 : (59 + g) / g < 13 := Int.ediv_lt_of_lt_mul (by omega) (by omega)
  omega
theorem mn_bd {g : Int} (hg : 5 ≤ g ∧ g ≤ 30) {j : Nat} (hj : j < mkN g) : 0 ≤ mnF g (mkN g) j ∧ mnF g (mkN g) j ≤ 60 := by
  unfold mnF
  by_cases q : j + 1 = mkN g
  · rw [if_pos q]; omega
  · rw [if_neg q]
    have h0 : 0 ≤ g * (j : Int) := Int.mul_nonneg (by omega) (by omega)
    refine ⟨h0, ?_⟩
    have h1 : (j : Int) + 1 ≤ (59 + g) / g := by unfold mkN at hj q; omega
    have h2 : ((j : Int) + 1) * g ≤ 59 + g := Int.mul_le_of_le_ediv (by omega) h1
    rw [Int.add_mul, Int.mul_comm] at h2
    omega
/-- the aims of way i of a grid -/
def grT (A : Mem) (g : Int) (i : Nat) : Nat → Int := fun c => if c < 8 ∧ A 18 c = 0 then mnF g (mkN g) (dgP (plN A) (mkN g) i c) else A 19 c
def RsQ (A : Mem) (g : Int) (j : Nat) : Prop := ∀ c, c < 8 → A 18 c = 0 → ∀ i, i < mkN g → prA A (A 17) (A 18) (grT A g j) 0 0 c (grT A g j c).toNat ≤ prA A (A 17) (A 18) (grT A g j) 0 0 c (mnF g (mkN g) i).toNat
noncomputable def rsQ (A : Mem) (g : Int) (j : Nat) : Bool := @decide (RsQ A g j) (Classical.propDecidable _)
theorem rsQ_iff {A : Mem} {g : Int} {j : Nat} : rsQ A g j = true ↔ RsQ A g j := by unfold rsQ; exact @decide_eq_true_iff _ (Classical.propDecidable _)
noncomputable def tgQ (A : Mem) (g : Int) (j : Nat) : Int := togA A (A 17) (A 18) (grT A g j) 0 0
def wyN (A : Mem) (g : Int) : Nat := mkN g ^ cnt (plN A) 8
/-- the i-th rest's way -/
noncomputable def rsW (A : Mem) (g i : Int) : Int := fromK (fun w => rsQ A g w && decide (((cnt (rsQ A g) w : Nat) : Int) = i)) (wyN A g) 0
theorem rkP_cg {p q : Nat → Bool} (h : ∀ c, c < 8 → p c = q c) {c : Nat} (hc : c < 8) : rkP p c = rkP q c := by
  unfold rkP
  rw [cnt_congr h, cnt_congr (n := c + 1) (fun j hj => h j (by omega))]
theorem dgP_cg {p q : Nat → Bool} (h : ∀ c, c < 8 → p c = q c) {m i c : Nat} (hc : c < 8) : dgP p m i c = dgP q m i c := by
  unfold dgP; rw [rkP_cg h hc]
/-- the trial's grid is laid -/
def GL (A zm : Mem) (g : Int) : Prop := TS A (A 17) (A 18) zm ∧ zm 34 2 = ((mkN g : Nat) : Int) ∧ ∀ j, j < mkN g → zm 35 j = mnF g (mkN g) j
section GLS
variable {A zm zn : Mem} {g : Int}
theorem GL.pl (h : GL A zm g) : ∀ c, c < 8 → plT zm c = plN A c := fun c hc => by unfold plT plN; rw [h.1.2.2.1 c hc]
theorem GL.n (h : GL A zm g) : mkN g ^ cnt (plT zm) 8 = wyN A g := by unfold wyN; rw [cnt_congr h.pl]
theorem GL.gr (hg : 5 ≤ g ∧ g ≤ 30) (h : GL A zm g) (i : Nat) : EP (A 18) (grT A g i) (grA zm (mkN g) i) := fun c hc hk => by
  unfold grT grA
  rw [if_pos ⟨hc, hk⟩, if_pos ⟨hc, by rw [h.pl c hc]; unfold plN; simpa using hk⟩, dgP_cg h.pl hc, h.2.2 _ (dg_lt (by have := mk_bd hg; omega))]
theorem GL.rs (hg : 5 ≤ g ∧ g ≤ 30) (h : GL A zm g) (j : Nat) : rsB zm (mkN g) j = rsQ A g j := by
  refine Bool.eq_iff_iff.mpr (rsB_iff.trans (Iff.trans ?_ rsQ_iff.symm))
  unfold RsP RsQ
  rw [h.1.2.2.2.1.1, h.1.2.2.2.1.2, prA_cg h.1.se h.1.2.1 h.1.2.2.1 (h.gr hg j)]
  constructor
  · intro q c hc hk i hi
    have := q c hc ((h.1.2.2.1 c hc).symm.trans hk) i hi
    rw [← h.gr hg j c hc hk, h.2.2 i hi] at this
    exact this
  · intro q c hc hk i hi
    have hk' := (h.1.2.2.1 c hc).trans hk
    rw [← h.gr hg j c hc hk', h.2.2 i hi]
    exact q c hc hk' i hi
theorem GL.tg (hg : 5 ≤ g ∧ g ≤ 30) (h : GL A zm g) (j : Nat) : tgW zm (mkN g) j = tgQ A g j := by
  unfold tgW tgQ
  rw [h.1.2.2.2.1.1, h.1.2.2.2.1.2, togA_cg h.1.se h.1.2.1 h.1.2.2.1 (h.gr hg j)]
theorem GL.y (h : GL A zm g) (zf : Fr scY zm zn) (hr : ∀ c, c < 8 → 0 ≤ zn 28 c ∧ zn 28 c ≤ 60) : GL A zn g := by
  have zt := TrS.of zf trY
  obtain ⟨h1, h2, h3⟩ := h
  obtain ⟨a1, a2, a3, a4, a5⟩ := h1
  refine ⟨⟨a1.tr (scYQ zf), by rw [zt.1.1]; exact a2, by rw [zt.1.2.1]; exact a3, ⟨zt.1.2.2.1.trans a4.1, zt.1.2.2.2.trans a4.2⟩, zt.ev a5 hr⟩, (zf 34 2 rfl).trans h2, fun j hj => (zf 35 j rfl).trans (h3 j hj)⟩
end GLS
theorem cnt_pl_le {A : Mem} {g : Int} (hg : 5 ≤ g ∧ g ≤ 30) (h : cnt (plN A) 8 ≤ 3) : wyN A g ≤ 2197 := by
  unfold wyN
  have h1 : mkN g ^ cnt (plN A) 8 ≤ mkN g ^ 3 := Nat.pow_le_pow_right (by have := mk_bd hg; omega) h
  have h2 : mkN g ^ 3 ≤ 13 ^ 3 := Nat.pow_le_pow_left (mk_bd hg).2 3
  omega
theorem t_layB (G : Gm) (A zm : Mem) (g : Int) (hg : 5 ≤ g ∧ g ≤ 30) (hT : TS A (A 17) (A 18) zm) : Con G mX2_lay [(2, 34), (0, g)] zm (fun r m' => r = none ∧ GL A m' g) := by
  refine (t_lay2 G zm g hg).mono (fun r m' h => ?_)
  obtain ⟨h1, zf, k, h2, h3, h4, h5, h6⟩ := h
  have hm := mk_is hg h3 (fun j hj => (h5 j hj).2)
  have r : ∀ c, c < 34 → m' c = zm c := fun c hc => funext (fun j => zf c j (by unfold scM; simp; omega))
  obtain ⟨a1, a2, a3, a4, a5⟩ := hT
  refine ⟨h1, ⟨a1.tr (scMQ zf), by rw [r 26 (by omega)]; exact a2, by rw [r 27 (by omega)]; exact a3, by rw [r 25 (by omega)]; exact a4, ?_⟩, by rw [h4, hm]; rfl, fun j hj => ?_⟩
  · unfold EvOk25; rw [r 26 (by omega), r 27 (by omega), r 28 (by omega), r 25 (by omega), r 2 (by omega), r 3 (by omega)]; exact a5
  · rw [hm] at hj ⊢
    unfold mnF
    by_cases q : j + 1 = k + 1
    · rw [if_pos q, show j = k by omega, h6]
    · rw [if_neg q, (h5 j (by omega)).1]
theorem t_walkB (G : Gm) (A zm : Mem) (g i : Int) (hg : 5 ≤ g ∧ g ≤ 30) (hi : -1 ≤ i) (hI : CI A) (h3 : cnt (plN A) 8 ≤ 3) (hL : GL A zm g) : Con G mX2_walk [(2, 34), (0, i)] zm (fun r m' => ∃ f : Int, r = some (0, f) ∧ Fr scQ A m' ∧ (i = -1 → f = ((cnt (rsQ A g) (wyN A g) : Nat) : Int)) ∧ (0 ≤ i → (f ≤ i ∧ rsW A g i = -1) ∨ (i < f ∧ GL A m' g ∧ ∃ w : Nat, w < wyN A g ∧ rsW A g i = (w : Int) ∧ EP (A 18) (grT A g w) (m' 28)))) := by
  have h35 : ∀ x, x < mkN g → 0 ≤ zm 35 x ∧ zm 35 x ≤ 60 := fun x hx => by rw [hL.2.2 x hx]; exact mn_bd hg hx
  refine (t_walk G zm (mkN g) (mk_bd hg) hL.2.1 h35 (by rw [hL.n]; exact cnt_pl_le hg h3) (hL.1.se.co hI.1) hL.1.2.2.2.2 (hL.1.se.ru hI.ru) hL.1.2.2.2.1.1 hL.1.2.2.2.1.2 i hi).mono (fun r m' h => ?_)
  obtain ⟨f, h1, h2, h4⟩ := h
  have er : rsB zm (mkN g) = rsQ A g := funext (fun j => hL.rs hg j)
  rw [er, hL.n] at h4
  refine ⟨f, h1, hL.1.1.tr (scYQ h2), ?_, ?_⟩
  · intro q
    rcases h4 with ⟨a, _⟩ | ⟨a, _⟩
    · exact a
    · omega
  · intro q
    rcases h4 with ⟨a, b⟩ | ⟨_, a, w, b1, b2, b3, b4⟩
    · refine Or.inl ⟨by have := b q; omega, ?_⟩
      unfold rsW
      have key : ∀ N k : Nat, k + N ≤ wyN A g → fromK (fun w => rsQ A g w && decide (((cnt (rsQ A g) w : Nat) : Int) = i)) N k = -1 := by
        intro N
        induction N with
        | zero => intro k _; rfl
        | succ N ih =>
          intro k hk
          show (if (rsQ A g k && decide (((cnt (rsQ A g) k : Nat) : Int) = i)) = true then (k : Int) else _) = _
          rw [if_neg, ih (k + 1) (by omega)]
          intro z
          simp at z
          have h7 := cnt_lt_of (p := rsQ A g) (show k < wyN A g by omega) z.1
          have h8 := b q
          omega
      exact key _ _ (by omega)
    · refine Or.inr ⟨by omega, ?_, w, b1, ?_, ?_⟩
      · refine hL.y h2 ?_
        rw [b4]
        exact grA_bd (by have := mk_bd hg; omega) h35 (fun c hc => (hL.1.2.2.2.2.2 c hc).2.1)
      · unfold rsW
        have key : ∀ d k : Nat, k + d = w → fromK (fun w => rsQ A g w && decide (((cnt (rsQ A g) w : Nat) : Int) = i)) (wyN A g - k) k = (w : Int) := by
          intro d
          induction d with
          | zero =>
            intro k hk
            rw [show k = w by omega]
            exact fromK_t (by simp [b2, b3]) b1
          | succ d ih =>
            intro k hk
            rw [fromK_f _ (by omega), ih (k + 1) (by omega)]
            rw [Bool.eq_false_iff]
            intro z
            simp at z
            have h7 := cnt_lt_of (p := rsQ A g) (show k < w by omega) z.1
            omega
        exact key w 0 (by omega)
      · rw [b4]; exact hL.gr hg w
theorem t_goodB (G : Gm) (A zm : Mem) (g : Int) (hg : 5 ≤ g ∧ g ≤ 30) (hI : CI A) (h3 : cnt (plN A) 8 ≤ 3) (hL : GL A zm g) : Con G mX2_good [(2, 34)] zm (fun r m' => r = some (0, mnT (tgQ A g) (wyN A g)) ∧ Fr scQ A m') := by
  have h35 : ∀ x, x < mkN g → 0 ≤ zm 35 x ∧ zm 35 x ≤ 60 := fun x hx => by rw [hL.2.2 x hx]; exact mn_bd hg hx
  refine (t_good G zm (mkN g) (mk_bd hg) hL.2.1 h35 (by rw [hL.n]; exact cnt_pl_le hg h3) (hL.1.se.co hI.1) hL.1.2.2.2.2 (hL.1.se.ru hI.ru)).mono (fun r m' h => ?_)
  obtain ⟨h1, h2⟩ := h
  have er : tgW zm (mkN g) = tgQ A g := funext (fun j => hL.tg hg j)
  rw [er, hL.n] at h1
  exact ⟨h1, hL.1.1.tr (scYQ h2)⟩
theorem t_togB (G : Gm) (A zm : Mem) (g : Int) (w : Nat) (hI : CI A) (hL : GL A zm g) (he : EP (A 18) (grT A g w) (zm 28)) : Con G mX1_together [(2, 25)] zm (fun r m' => r = some (0, tgQ A g w) ∧ GL A m' g) := by
  refine (t_together_25 G zm (hL.1.se.co hI.1) hL.1.2.2.2.2 (hL.1.se.ru hI.ru)).mono (fun r m' h => ?_)
  obtain ⟨h1, h2⟩ := h
  refine ⟨?_, hL.y (scGY h2) (by rw [(fr_25 h2).2.2.1]; exact fun c hc => (hL.1.2.2.2.2.2 c hc).2.1)⟩
  rw [h1]
  unfold tgQ
  rw [hL.1.2.2.2.1.1, hL.1.2.2.2.1.2, togA_cg hL.1.se hL.1.2.1 hL.1.2.2.1 he]
theorem priceV_bd {A : Mem} {told fine food : Int} {o : Nat} {x st : Int} (hC : CoOk A) (hf : 0 ≤ fine ∧ fine ≤ 99) (hd : 0 ≤ food ∧ food ≤ 99) (ho : o < 8) (hx : 0 ≤ x ∧ x ≤ 60) (hs : 0 ≤ st ∧ st ≤ 60) : -99 ≤ priceV (A 5) (A 6) (A 7) told fine food o x st ∧ priceV (A 5) (A 6) (A 7) told fine food o x st ≤ 6039 := by
  obtain ⟨h1, h2, h3, _⟩ := hC o ho
  unfold priceV
  by_cases q : 60 ≤ x
  · rw [if_pos q]; omega
  · rw [if_neg q]
    have a : -99 ≤ (if st < x then A 6 o * (x - st) else A 5 o * (st - x) - (if st < 60 then food else 0)) ∧ (if st < x then A 6 o * (x - st) else A 5 o * (st - x) - (if st < 60 then food else 0)) ≤ 5940 := by
      by_cases z : st < x
      · rw [if_pos z]; have := mulI h2 (b := x - st) (by omega); omega
      · rw [if_neg z]
        have := mulI h1 (b := st - x) (by omega)
        split <;> omega
    generalize (if st < x then A 6 o * (x - st) else A 5 o * (st - x) - (if st < 60 then food else 0)) = y at a
    split <;> omega
theorem whT_bd {A : Mem} {tm kd am : Nat → Int} {late aw : Int} (hC : CoOk A) (hE : EvR tm kd am late aw (A 2) (A 3)) : ∀ c, c < 8 → 0 ≤ whT A tm kd am late aw c ∧ whT A tm kd am late aw c ≤ 60 := by
  refine whF_bd (fun c hc => ?_) (fun c hc hk => ?_)
  · unfold fmR
    split
    · exact firmV_bd (hE.2 c hc).2.1.1 hE.1.1.1 (by have := (hC c hc).2.2.2.2.1; omega)
    · omega
  · unfold isK at hk
    simp at hk
    exact ((hE.2 c hc).2.2 hk.1).1
theorem tog_bd {A : Mem} {tm kd am : Nat → Int} {late aw : Int} (hC : CoOk A) (hE : EvR tm kd am late aw (A 2) (A 3)) : -792 ≤ togA A tm kd am late aw ∧ togA A tm kd am late aw ≤ 48312 := by
  have h := sumTo_bd (f := fun c => if kd c = -1 then 0 else priceV (A 5) (A 6) (A 7) (tm 0) (tm 1) (tm 2) c (whF kd am (tm 0) late aw (A 9) (A 2) (A 3) c) (stF A kd am (tm 0) late aw (A 9) (A 2) (A 3))) (a := -99) (b := 6039) (n := 8) (fun j hj => by
    show -99 ≤ (if kd j = -1 then 0 else _) ∧ (if kd j = -1 then 0 else _) ≤ 6039
    split
    · omega
    · exact priceV_bd hC hE.1.2.1 hE.1.2.2.1 hj (whT_bd hC hE j hj) (stT_bd A tm kd am late aw))
  unfold togA
  omega
theorem grT_bd {A : Mem} {g : Int} (hg : 5 ≤ g ∧ g ≤ 30) (hI : CI A) (i : Nat) : ∀ c, c < 8 → 0 ≤ grT A g i c ∧ grT A g i c ≤ 60 := fun c hc => by
  unfold grT
  split
  · exact mn_bd hg (dg_lt (by have := mk_bd hg; omega))
  · exact (hI.2.1.2 c hc).2.1
theorem tgQ_bd {A : Mem} {g : Int} (hg : 5 ≤ g ∧ g ≤ 30) (hI : CI A) (w : Nat) : -792 ≤ tgQ A g w ∧ tgQ A g w ≤ 48312 := by
  refine tog_bd hI.1 ⟨⟨hI.2.1.1.1, hI.2.1.1.2.1, hI.2.1.1.2.2.1, by omega, by omega⟩, fun c hc => ?_⟩
  have := hI.2.1.2 c hc
  exact ⟨this.1, grT_bd hg hI w c hc, this.2.2⟩
theorem mnT_bd {f : Nat → Int} {a b : Int} (hb : ∀ j, a ≤ f j ∧ f j ≤ b) (h1 : a ≤ 2147483647) (h2 : b < 2147483647) : ∀ k : Nat, a ≤ mnT f k ∧ (0 < k → mnT f k ≤ b) ∧ mnT f k ≤ 2147483647
  | 0 => ⟨h1, fun h => absurd h (by decide), Int.le_refl _⟩
  | k + 1 => by
    have ih := mnT_bd hb h1 h2 k
    have hk := hb k
    show a ≤ (if f k < mnT f k then f k else mnT f k) ∧ (_ → (if f k < mnT f k then f k else mnT f k) ≤ b) ∧ (if f k < mnT f k then f k else mnT f k) ≤ 2147483647
    split <;> refine ⟨by omega, fun _ => by omega, by omega⟩
theorem wy_pos {A : Mem} {g : Int} (hg : 5 ≤ g ∧ g ≤ 30) : 0 < wyN A g := Nat.pow_pos (by have := mk_bd hg; omega)
theorem bc_pl {A : Mem} : cnt (fun j => (bitsTo (fun c => decide (A 18 c = 0)) 8).testBit j) 8 = cnt (plN A) 8 := cnt_congr (fun j hj => by rw [bitsTo_testBit]; simp [hj, plN])
theorem t_bitPl (G : Gm) (A mem : Mem) : Con G mJ6_bitCount_0f7a4 [(0, ((bitsTo (fun c => decide (A 18 c = 0)) 8 : Nat) : Int))] mem (fun r m' => r = some (0, ((cnt (plN A) 8 : Nat) : Int)) ∧ m' = mem) := by
  have h := t_bitCount G mem (bitsTo (fun c => decide (A 18 c = 0)) 8) (bitsTo_lt (fun c => decide (A 18 c = 0)) 8)
  rw [bc_pl] at h
  exact h

noncomputable def an_rests (A : Mem) (g i comer : Int) : Int := if ¬ (5 ≤ g ∧ g ≤ 30) ∨ i < -1 ∨ (i = -1 ∧ comer ≠ -1) ∨ (i ≠ -1 ∧ comer = -1) ∨ (comer ≠ -1 ∧ ¬ (0 ≤ comer ∧ comer < 8 ∧ A 18 comer.toNat = 0)) then -2 else if 3 < cnt (plN A) 8 then -4 else if comer = -1 then ((cnt (rsQ A g) (wyN A g) : Nat) : Int) else if rsW A g i = -1 then -1 else grT A g (rsW A g i).toNat comer.toNat
noncomputable def an_lost (A : Mem) (g i : Int) : Int := if ¬ (5 ≤ g ∧ g ≤ 30) ∨ i < -1 then -10000 else if 3 < cnt (plN A) 8 then -10001 else if i = -1 then mnT (tgQ A g) (wyN A g) else if rsW A g i = -1 then -10002 else tgQ A g (rsW A g i).toNat - mnT (tgQ A g) (wyN A g)

theorem c_rests (G : Gm) (mem : Mem) (g i comer : Int) (hI : CI mem) : Con G mX7_rests [(2, 0), (0, g), (0, i), (0, comer)] mem (fun r m' => r = some (0, an_rests mem g i comer) ∧ Fr scQ mem m') := by
  refine Con.of (lo := [(2, 0), (0, g), (0, i), (0, comer), (3, 0)]) (by decide +kernel) (Nat.le_of_ble_eq_true rfl) rfl ?_
  generalize hQ_ : (fun r m' => r = some (0, an_rests mem g i comer) ∧ Fr scQ mem m' : Option AV → Mem → Prop) = Q_
  refine e_iloadn (pc := 0) dX7_rests_0 rfl rfl ?_
  refine e_callSr (pc := 1) (as := [(0, g)]) (st := []) (v := (0, if 5 ≤ g ∧ g ≤ 30 then 1 else 0)) (t_isStep G mem g) dX7_rests_1 lX7_rests_170 rfl rfl rfl ?_
  by_cases zg : 5 ≤ g ∧ g ≤ 30
  · rw [if_pos zg]
    refine e_if_eq (pc := 4) (tgt := 35) dX7_rests_4 rfl (fun h4 => ?_) (fun h4 => ?_)
    · skip
      exact absurd h4 (by decide)
    · skip
      refine e_iloadn (pc := 7) dX7_rests_7 rfl rfl ?_
      refine e_iconst (pc := 8) dX7_rests_8 (by decide) ?_
      refine e_icmp_lt (pc := 9) (tgt := 35) dX7_rests_9 rfl (fun h9 => ?_) (fun h9 => ?_)
      · skip
        refine e_bipush (pc := 35) dX7_rests_35 rfl (by decide) ?_
        have zan : an_rests mem g i comer = -2 := by unfold an_rests; rw [if_pos (by omega)]
        exact e_iret (pc := 37) dX7_rests_37 rfl (by rw [← hQ_]; exact ⟨by rw [zan], Fr.rf⟩)
      · skip
        refine e_iloadn (pc := 12) dX7_rests_12 rfl rfl ?_
        refine e_iconst (pc := 13) dX7_rests_13 (by decide) ?_
        refine e_icmp_ne (pc := 14) (tgt := 21) dX7_rests_14 rfl (fun h14 => ?_) (fun h14 => ?_)
        · skip
          refine e_iconst (pc := 21) dX7_rests_21 (by decide) ?_
          refine e_iloadn (pc := 22) dX7_rests_22 rfl rfl ?_
          refine e_iconst (pc := 23) dX7_rests_23 (by decide) ?_
          refine e_icmp_ne (pc := 24) (tgt := 31) dX7_rests_24 rfl (fun h24 => ?_) (fun h24 => ?_)
          · skip
            refine e_iconst (pc := 31) dX7_rests_31 (by decide) ?_
            refine e_icmp_eq (pc := 32) (tgt := 38) dX7_rests_32 rfl (fun h32 => ?_) (fun h32 => ?_)
            · skip
              refine e_iloadn (pc := 38) dX7_rests_38 rfl rfl ?_
              refine e_iconst (pc := 39) dX7_rests_39 (by decide) ?_
              refine e_icmp_eq (pc := 40) (tgt := 54) dX7_rests_40 rfl (fun h40 => ?_) (fun h40 => ?_)
              · skip
                refine e_aloadn (pc := 54) dX7_rests_54 rfl rfl ?_
                refine e_getr (pc := 55) (k := 16) dX7_rests_55 fX7_28 s_0 rfl (by decide) ?_
                refine e_callVr (pc := 58) (as := []) (st := []) (t_plainBits_16 G mem) dX7_rests_58 lX7_rests_173 rfl s_16 cn_1 rfl rfl ?_
                refine e_callSr (pc := 61) (as := [(0, ((bitsTo (fun c => decide (mem 18 c = 0)) 8 : Nat) : Int))]) (st := []) (t_bitPl G mem mem) dX7_rests_61 lX7_rests_176 rfl rfl rfl ?_
                refine e_iconst (pc := 64) dX7_rests_64 (by decide) ?_
                refine e_icmp_le (pc := 65) (tgt := 71) dX7_rests_65 rfl (fun h65 => ?_) (fun h65 => ?_)
                · skip
                  refine e_aloadn (pc := 71) dX7_rests_71 rfl rfl ?_
                  refine e_getr (pc := 72) (k := 25) dX7_rests_72 fX7_32 s_0 rfl (by decide) ?_
                  refine e_aloadn (pc := 75) dX7_rests_75 rfl rfl ?_
                  refine e_getr (pc := 76) (k := 16) dX7_rests_76 fX7_28 s_0 rfl (by decide) ?_
                  refine e_callV (pc := 79) (as := [(2, 16)]) (st := []) (t_becomes G mem) dX7_rests_79 lX7_rests_163 rfl s_25 cn_1 rfl rfl (fun r_ zm1 hq_ => ?_)
                  obtain ⟨zr_, zB⟩ := hq_
                  subst zr_
                  have zT0 := zB.ts hI.2.1
                  refine Ev.to (st' := []) ?_ rfl rfl rfl
                  refine e_aloadn (pc := 82) dX7_rests_82 rfl rfl ?_
                  refine e_getr (pc := 83) (k := 34) dX7_rests_83 fX7_40 s_0 rfl (by decide) ?_
                  refine e_iloadn (pc := 86) dX7_rests_86 rfl rfl ?_
                  refine e_callV (pc := 87) (as := [(0, g)]) (st := []) (t_layB G mem zm1 g zg zT0) dX7_rests_87 lX7_rests_181 rfl s_34 cn_2 rfl rfl (fun r_ zm2 hq_ => ?_)
                  obtain ⟨zr_, zL⟩ := hq_
                  subst zr_
                  refine Ev.to (st' := []) ?_ rfl rfl rfl
                  refine e_aloadn (pc := 90) dX7_rests_90 rfl rfl ?_
                  refine e_getr (pc := 91) (k := 34) dX7_rests_91 fX7_40 s_0 rfl (by decide) ?_
                  refine e_iloadn (pc := 94) dX7_rests_94 rfl rfl ?_
                  refine e_callV (pc := 95) (as := [(0, i)]) (st := []) (t_walkB G mem zm2 g i zg (by omega) hI (by omega) zL) dX7_rests_95 lX7_rests_185 rfl s_34 cn_2 rfl rfl (fun r_ zm3 hq_ => ?_)
                  obtain ⟨zv, zr_, zf3, zA, zI⟩ := hq_
                  subst zr_
                  refine Ev.to (st' := [(0, zv)]) ?_ rfl rfl rfl
                  refine e_istore (pc := 98) (lo' := [(2, 0), (0, g), (0, i), (0, comer), (0, zv)]) dX7_rests_98 rfl (by decide) rfl ?_
                  refine e_iloadn (pc := 100) dX7_rests_100 rfl rfl ?_
                  refine e_iconst (pc := 101) dX7_rests_101 (by decide) ?_
                  refine e_icmp_ne (pc := 102) (tgt := 108) dX7_rests_102 rfl (fun h102 => ?_) (fun h102 => ?_)
                  · skip
                    exfalso; omega
                  · skip
                    refine e_iload (pc := 105) dX7_rests_105 rfl ?_
                    have zneg : ¬ (¬ (5 ≤ g ∧ g ≤ 30) ∨ i < -1 ∨ (i = -1 ∧ comer ≠ -1) ∨ (i ≠ -1 ∧ comer = -1) ∨ (comer ≠ -1 ∧ ¬ (0 ≤ comer ∧ comer < 8 ∧ mem 18 comer.toNat = 0))) := by
                      rintro (q | q | q | q | q)
                      · exact q zg
                      · omega
                      · omega
                      · omega
                      · omega
                    have zan : an_rests mem g i comer = zv := by unfold an_rests; rw [if_neg zneg, if_neg (by omega), if_pos (by omega), zA (by omega)]
                    exact e_iret (pc := 107) dX7_rests_107 rfl (by rw [← hQ_]; exact ⟨by rw [zan], zf3⟩)
                · skip
                  refine e_bipush (pc := 68) dX7_rests_68 rfl (by decide) ?_
                  have zneg : ¬ (¬ (5 ≤ g ∧ g ≤ 30) ∨ i < -1 ∨ (i = -1 ∧ comer ≠ -1) ∨ (i ≠ -1 ∧ comer = -1) ∨ (comer ≠ -1 ∧ ¬ (0 ≤ comer ∧ comer < 8 ∧ mem 18 comer.toNat = 0))) := by
                    rintro (q | q | q | q | q)
                    · exact q zg
                    · omega
                    · omega
                    · omega
                    · omega
                  have zan : an_rests mem g i comer = -4 := by unfold an_rests; rw [if_neg zneg, if_pos (by omega)]
                  exact e_iret (pc := 70) dX7_rests_70 rfl (by rw [← hQ_]; exact ⟨by rw [zan], Fr.rf⟩)
              · skip
                refine e_aloadn (pc := 43) dX7_rests_43 rfl rfl ?_
                refine e_iloadn (pc := 44) dX7_rests_44 rfl rfl ?_
                refine e_callVr (pc := 45) (as := [(0, comer)]) (st := []) (v := (0, if 0 ≤ comer ∧ comer < 8 ∧ mem 18 comer.toNat = 0 then 1 else 0)) (t_isPlain G mem comer) dX7_rests_45 lX7_rests_88 rfl s_0 cn_7 rfl rfl ?_
                by_cases zc : 0 ≤ comer ∧ comer < 8 ∧ mem 18 comer.toNat = 0
                · rw [if_pos zc]
                  obtain ⟨cn, rfl⟩ : ∃ cn : Nat, comer = (cn : Int) := ⟨comer.toNat, by omega⟩
                  have zcn : cn < 8 := by omega
                  have zck : mem 18 cn = 0 := zc.2.2
                  refine e_if_ne (pc := 48) (tgt := 54) dX7_rests_48 rfl (fun h48 => ?_) (fun h48 => ?_)
                  · skip
                    refine e_aloadn (pc := 54) dX7_rests_54 rfl rfl ?_
                    refine e_getr (pc := 55) (k := 16) dX7_rests_55 fX7_28 s_0 rfl (by decide) ?_
                    refine e_callVr (pc := 58) (as := []) (st := []) (t_plainBits_16 G mem) dX7_rests_58 lX7_rests_173 rfl s_16 cn_1 rfl rfl ?_
                    refine e_callSr (pc := 61) (as := [(0, ((bitsTo (fun c => decide (mem 18 c = 0)) 8 : Nat) : Int))]) (st := []) (t_bitPl G mem mem) dX7_rests_61 lX7_rests_176 rfl rfl rfl ?_
                    refine e_iconst (pc := 64) dX7_rests_64 (by decide) ?_
                    refine e_icmp_le (pc := 65) (tgt := 71) dX7_rests_65 rfl (fun h65 => ?_) (fun h65 => ?_)
                    · skip
                      refine e_aloadn (pc := 71) dX7_rests_71 rfl rfl ?_
                      refine e_getr (pc := 72) (k := 25) dX7_rests_72 fX7_32 s_0 rfl (by decide) ?_
                      refine e_aloadn (pc := 75) dX7_rests_75 rfl rfl ?_
                      refine e_getr (pc := 76) (k := 16) dX7_rests_76 fX7_28 s_0 rfl (by decide) ?_
                      refine e_callV (pc := 79) (as := [(2, 16)]) (st := []) (t_becomes G mem) dX7_rests_79 lX7_rests_163 rfl s_25 cn_1 rfl rfl (fun r_ zm1 hq_ => ?_)
                      obtain ⟨zr_, zB⟩ := hq_
                      subst zr_
                      have zT0 := zB.ts hI.2.1
                      refine Ev.to (st' := []) ?_ rfl rfl rfl
                      refine e_aloadn (pc := 82) dX7_rests_82 rfl rfl ?_
                      refine e_getr (pc := 83) (k := 34) dX7_rests_83 fX7_40 s_0 rfl (by decide) ?_
                      refine e_iloadn (pc := 86) dX7_rests_86 rfl rfl ?_
                      refine e_callV (pc := 87) (as := [(0, g)]) (st := []) (t_layB G mem zm1 g zg zT0) dX7_rests_87 lX7_rests_181 rfl s_34 cn_2 rfl rfl (fun r_ zm2 hq_ => ?_)
                      obtain ⟨zr_, zL⟩ := hq_
                      subst zr_
                      refine Ev.to (st' := []) ?_ rfl rfl rfl
                      refine e_aloadn (pc := 90) dX7_rests_90 rfl rfl ?_
                      refine e_getr (pc := 91) (k := 34) dX7_rests_91 fX7_40 s_0 rfl (by decide) ?_
                      refine e_iloadn (pc := 94) dX7_rests_94 rfl rfl ?_
                      refine e_callV (pc := 95) (as := [(0, i)]) (st := []) (t_walkB G mem zm2 g i zg (by omega) hI (by omega) zL) dX7_rests_95 lX7_rests_185 rfl s_34 cn_2 rfl rfl (fun r_ zm3 hq_ => ?_)
                      obtain ⟨zv, zr_, zf3, zA, zI⟩ := hq_
                      subst zr_
                      refine Ev.to (st' := [(0, zv)]) ?_ rfl rfl rfl
                      refine e_istore (pc := 98) (lo' := [(2, 0), (0, g), (0, i), (0, (cn : Int)), (0, zv)]) dX7_rests_98 rfl (by decide) rfl ?_
                      refine e_iloadn (pc := 100) dX7_rests_100 rfl rfl ?_
                      refine e_iconst (pc := 101) dX7_rests_101 (by decide) ?_
                      refine e_icmp_ne (pc := 102) (tgt := 108) dX7_rests_102 rfl (fun h102 => ?_) (fun h102 => ?_)
                      · skip
                        have zor := zI (by omega)
                        refine e_iload (pc := 108) dX7_rests_108 rfl ?_
                        refine e_iloadn (pc := 110) dX7_rests_110 rfl rfl ?_
                        refine e_icmp_le (pc := 111) (tgt := 126) dX7_rests_111 rfl (fun h111 => ?_) (fun h111 => ?_)
                        · skip
                          have zw2 : rsW mem g i = -1 := by
                            rcases zor with ⟨_, q⟩ | ⟨q, _⟩
                            · exact q
                            · exfalso; omega
                          refine e_iconst (pc := 126) dX7_rests_126 (by decide) ?_
                          have zneg : ¬ (¬ (5 ≤ g ∧ g ≤ 30) ∨ i < -1 ∨ (i = -1 ∧ (cn : Int) ≠ -1) ∨ (i ≠ -1 ∧ (cn : Int) = -1) ∨ ((cn : Int) ≠ -1 ∧ ¬ (0 ≤ (cn : Int) ∧ (cn : Int) < 8 ∧ mem 18 (cn : Int).toNat = 0))) := by
                            rintro (q | q | q | q | q)
                            · exact q zg
                            · omega
                            · omega
                            · omega
                            · exact q.2 zc
                          have zan : an_rests mem g i (cn : Int) = -1 := by unfold an_rests; rw [if_neg zneg, if_neg (by omega), if_neg (by omega), if_pos zw2]
                          exact e_iret (pc := 127) dX7_rests_127 rfl (by rw [← hQ_]; exact ⟨by rw [zan], zf3⟩)
                        · skip
                          obtain ⟨w, zw1, zw2, zw3⟩ : ∃ w : Nat, w < wyN mem g ∧ rsW mem g i = (w : Int) ∧ EP (mem 18) (grT mem g w) (zm3 28) := by
                            rcases zor with ⟨q, _⟩ | ⟨_, _, q⟩
                            · exfalso; omega
                            · exact q
                          refine e_aloadn (pc := 114) dX7_rests_114 rfl rfl ?_
                          refine e_getr (pc := 115) (k := 25) dX7_rests_115 fX7_32 s_0 rfl (by decide) ?_
                          refine e_getr (pc := 118) (k := 28) dX7_rests_118 fX7_85 s_25 rfl (by decide) ?_
                          refine e_iloadn (pc := 121) dX7_rests_121 rfl rfl ?_
                          refine e_ialdv (pc := 122) (v := (grT mem g w cn)) dX7_rests_122 s_28 (by omega) ((zw3 cn zcn zck).symm) ?_
                          refine e_goto (pc := 123) (tgt := 127) dX7_rests_123 rfl ?_
                          have zneg : ¬ (¬ (5 ≤ g ∧ g ≤ 30) ∨ i < -1 ∨ (i = -1 ∧ (cn : Int) ≠ -1) ∨ (i ≠ -1 ∧ (cn : Int) = -1) ∨ ((cn : Int) ≠ -1 ∧ ¬ (0 ≤ (cn : Int) ∧ (cn : Int) < 8 ∧ mem 18 (cn : Int).toNat = 0))) := by
                            rintro (q | q | q | q | q)
                            · exact q zg
                            · omega
                            · omega
                            · omega
                            · exact q.2 zc
                          have zan : an_rests mem g i (cn : Int) = grT mem g w cn := by unfold an_rests; rw [if_neg zneg, if_neg (by omega), if_neg (by omega), if_neg (by omega), zw2]; rfl
                          exact e_iret (pc := 127) dX7_rests_127 rfl (by rw [← hQ_]; exact ⟨by rw [zan], zf3⟩)
                      · skip
                        exfalso; omega
                    · skip
                      refine e_bipush (pc := 68) dX7_rests_68 rfl (by decide) ?_
                      have zneg : ¬ (¬ (5 ≤ g ∧ g ≤ 30) ∨ i < -1 ∨ (i = -1 ∧ (cn : Int) ≠ -1) ∨ (i ≠ -1 ∧ (cn : Int) = -1) ∨ ((cn : Int) ≠ -1 ∧ ¬ (0 ≤ (cn : Int) ∧ (cn : Int) < 8 ∧ mem 18 (cn : Int).toNat = 0))) := by
                        rintro (q | q | q | q | q)
                        · exact q zg
                        · omega
                        · omega
                        · omega
                        · exact q.2 zc
                      have zan : an_rests mem g i (cn : Int) = -4 := by unfold an_rests; rw [if_neg zneg, if_pos (by omega)]
                      exact e_iret (pc := 70) dX7_rests_70 rfl (by rw [← hQ_]; exact ⟨by rw [zan], Fr.rf⟩)
                  · skip
                    exact absurd h48 (by decide)
                · rw [if_neg zc]
                  refine e_if_ne (pc := 48) (tgt := 54) dX7_rests_48 rfl (fun h48 => ?_) (fun h48 => ?_)
                  · skip
                    exact absurd h48 (by decide)
                  · skip
                    refine e_bipush (pc := 51) dX7_rests_51 rfl (by decide) ?_
                    have zan : an_rests mem g i comer = -2 := by unfold an_rests; rw [if_pos (Or.inr (Or.inr (Or.inr (Or.inr ⟨by omega, zc⟩))))]
                    exact e_iret (pc := 53) dX7_rests_53 rfl (by rw [← hQ_]; exact ⟨by rw [zan], Fr.rf⟩)
            · skip
              exact absurd h32 (by decide)
          · skip
            refine e_iconst (pc := 27) dX7_rests_27 (by decide) ?_
            refine e_goto (pc := 28) (tgt := 32) dX7_rests_28 rfl ?_
            refine e_icmp_eq (pc := 32) (tgt := 38) dX7_rests_32 rfl (fun h32 => ?_) (fun h32 => ?_)
            · skip
              exact absurd h32 (by decide)
            · skip
              refine e_bipush (pc := 35) dX7_rests_35 rfl (by decide) ?_
              have zan : an_rests mem g i comer = -2 := by unfold an_rests; rw [if_pos (by omega)]
              exact e_iret (pc := 37) dX7_rests_37 rfl (by rw [← hQ_]; exact ⟨by rw [zan], Fr.rf⟩)
        · skip
          refine e_iconst (pc := 17) dX7_rests_17 (by decide) ?_
          refine e_goto (pc := 18) (tgt := 22) dX7_rests_18 rfl ?_
          refine e_iloadn (pc := 22) dX7_rests_22 rfl rfl ?_
          refine e_iconst (pc := 23) dX7_rests_23 (by decide) ?_
          refine e_icmp_ne (pc := 24) (tgt := 31) dX7_rests_24 rfl (fun h24 => ?_) (fun h24 => ?_)
          · skip
            refine e_iconst (pc := 31) dX7_rests_31 (by decide) ?_
            refine e_icmp_eq (pc := 32) (tgt := 38) dX7_rests_32 rfl (fun h32 => ?_) (fun h32 => ?_)
            · skip
              exact absurd h32 (by decide)
            · skip
              refine e_bipush (pc := 35) dX7_rests_35 rfl (by decide) ?_
              have zan : an_rests mem g i comer = -2 := by unfold an_rests; rw [if_pos (by omega)]
              exact e_iret (pc := 37) dX7_rests_37 rfl (by rw [← hQ_]; exact ⟨by rw [zan], Fr.rf⟩)
          · skip
            refine e_iconst (pc := 27) dX7_rests_27 (by decide) ?_
            refine e_goto (pc := 28) (tgt := 32) dX7_rests_28 rfl ?_
            refine e_icmp_eq (pc := 32) (tgt := 38) dX7_rests_32 rfl (fun h32 => ?_) (fun h32 => ?_)
            · skip
              refine e_iloadn (pc := 38) dX7_rests_38 rfl rfl ?_
              refine e_iconst (pc := 39) dX7_rests_39 (by decide) ?_
              refine e_icmp_eq (pc := 40) (tgt := 54) dX7_rests_40 rfl (fun h40 => ?_) (fun h40 => ?_)
              · skip
                refine e_aloadn (pc := 54) dX7_rests_54 rfl rfl ?_
                refine e_getr (pc := 55) (k := 16) dX7_rests_55 fX7_28 s_0 rfl (by decide) ?_
                refine e_callVr (pc := 58) (as := []) (st := []) (t_plainBits_16 G mem) dX7_rests_58 lX7_rests_173 rfl s_16 cn_1 rfl rfl ?_
                refine e_callSr (pc := 61) (as := [(0, ((bitsTo (fun c => decide (mem 18 c = 0)) 8 : Nat) : Int))]) (st := []) (t_bitPl G mem mem) dX7_rests_61 lX7_rests_176 rfl rfl rfl ?_
                refine e_iconst (pc := 64) dX7_rests_64 (by decide) ?_
                refine e_icmp_le (pc := 65) (tgt := 71) dX7_rests_65 rfl (fun h65 => ?_) (fun h65 => ?_)
                · skip
                  refine e_aloadn (pc := 71) dX7_rests_71 rfl rfl ?_
                  refine e_getr (pc := 72) (k := 25) dX7_rests_72 fX7_32 s_0 rfl (by decide) ?_
                  refine e_aloadn (pc := 75) dX7_rests_75 rfl rfl ?_
                  refine e_getr (pc := 76) (k := 16) dX7_rests_76 fX7_28 s_0 rfl (by decide) ?_
                  refine e_callV (pc := 79) (as := [(2, 16)]) (st := []) (t_becomes G mem) dX7_rests_79 lX7_rests_163 rfl s_25 cn_1 rfl rfl (fun r_ zm1 hq_ => ?_)
                  obtain ⟨zr_, zB⟩ := hq_
                  subst zr_
                  have zT0 := zB.ts hI.2.1
                  refine Ev.to (st' := []) ?_ rfl rfl rfl
                  refine e_aloadn (pc := 82) dX7_rests_82 rfl rfl ?_
                  refine e_getr (pc := 83) (k := 34) dX7_rests_83 fX7_40 s_0 rfl (by decide) ?_
                  refine e_iloadn (pc := 86) dX7_rests_86 rfl rfl ?_
                  refine e_callV (pc := 87) (as := [(0, g)]) (st := []) (t_layB G mem zm1 g zg zT0) dX7_rests_87 lX7_rests_181 rfl s_34 cn_2 rfl rfl (fun r_ zm2 hq_ => ?_)
                  obtain ⟨zr_, zL⟩ := hq_
                  subst zr_
                  refine Ev.to (st' := []) ?_ rfl rfl rfl
                  refine e_aloadn (pc := 90) dX7_rests_90 rfl rfl ?_
                  refine e_getr (pc := 91) (k := 34) dX7_rests_91 fX7_40 s_0 rfl (by decide) ?_
                  refine e_iloadn (pc := 94) dX7_rests_94 rfl rfl ?_
                  refine e_callV (pc := 95) (as := [(0, i)]) (st := []) (t_walkB G mem zm2 g i zg (by omega) hI (by omega) zL) dX7_rests_95 lX7_rests_185 rfl s_34 cn_2 rfl rfl (fun r_ zm3 hq_ => ?_)
                  obtain ⟨zv, zr_, zf3, zA, zI⟩ := hq_
                  subst zr_
                  refine Ev.to (st' := [(0, zv)]) ?_ rfl rfl rfl
                  refine e_istore (pc := 98) (lo' := [(2, 0), (0, g), (0, i), (0, comer), (0, zv)]) dX7_rests_98 rfl (by decide) rfl ?_
                  refine e_iloadn (pc := 100) dX7_rests_100 rfl rfl ?_
                  refine e_iconst (pc := 101) dX7_rests_101 (by decide) ?_
                  refine e_icmp_ne (pc := 102) (tgt := 108) dX7_rests_102 rfl (fun h102 => ?_) (fun h102 => ?_)
                  · skip
                    exfalso; omega
                  · skip
                    refine e_iload (pc := 105) dX7_rests_105 rfl ?_
                    have zneg : ¬ (¬ (5 ≤ g ∧ g ≤ 30) ∨ i < -1 ∨ (i = -1 ∧ comer ≠ -1) ∨ (i ≠ -1 ∧ comer = -1) ∨ (comer ≠ -1 ∧ ¬ (0 ≤ comer ∧ comer < 8 ∧ mem 18 comer.toNat = 0))) := by
                      rintro (q | q | q | q | q)
                      · exact q zg
                      · omega
                      · omega
                      · omega
                      · omega
                    have zan : an_rests mem g i comer = zv := by unfold an_rests; rw [if_neg zneg, if_neg (by omega), if_pos (by omega), zA (by omega)]
                    exact e_iret (pc := 107) dX7_rests_107 rfl (by rw [← hQ_]; exact ⟨by rw [zan], zf3⟩)
                · skip
                  refine e_bipush (pc := 68) dX7_rests_68 rfl (by decide) ?_
                  have zneg : ¬ (¬ (5 ≤ g ∧ g ≤ 30) ∨ i < -1 ∨ (i = -1 ∧ comer ≠ -1) ∨ (i ≠ -1 ∧ comer = -1) ∨ (comer ≠ -1 ∧ ¬ (0 ≤ comer ∧ comer < 8 ∧ mem 18 comer.toNat = 0))) := by
                    rintro (q | q | q | q | q)
                    · exact q zg
                    · omega
                    · omega
                    · omega
                    · omega
                  have zan : an_rests mem g i comer = -4 := by unfold an_rests; rw [if_neg zneg, if_pos (by omega)]
                  exact e_iret (pc := 70) dX7_rests_70 rfl (by rw [← hQ_]; exact ⟨by rw [zan], Fr.rf⟩)
              · skip
                refine e_aloadn (pc := 43) dX7_rests_43 rfl rfl ?_
                refine e_iloadn (pc := 44) dX7_rests_44 rfl rfl ?_
                refine e_callVr (pc := 45) (as := [(0, comer)]) (st := []) (v := (0, if 0 ≤ comer ∧ comer < 8 ∧ mem 18 comer.toNat = 0 then 1 else 0)) (t_isPlain G mem comer) dX7_rests_45 lX7_rests_88 rfl s_0 cn_7 rfl rfl ?_
                by_cases zc : 0 ≤ comer ∧ comer < 8 ∧ mem 18 comer.toNat = 0
                · rw [if_pos zc]
                  obtain ⟨cn, rfl⟩ : ∃ cn : Nat, comer = (cn : Int) := ⟨comer.toNat, by omega⟩
                  have zcn : cn < 8 := by omega
                  have zck : mem 18 cn = 0 := zc.2.2
                  refine e_if_ne (pc := 48) (tgt := 54) dX7_rests_48 rfl (fun h48 => ?_) (fun h48 => ?_)
                  · skip
                    refine e_aloadn (pc := 54) dX7_rests_54 rfl rfl ?_
                    refine e_getr (pc := 55) (k := 16) dX7_rests_55 fX7_28 s_0 rfl (by decide) ?_
                    refine e_callVr (pc := 58) (as := []) (st := []) (t_plainBits_16 G mem) dX7_rests_58 lX7_rests_173 rfl s_16 cn_1 rfl rfl ?_
                    refine e_callSr (pc := 61) (as := [(0, ((bitsTo (fun c => decide (mem 18 c = 0)) 8 : Nat) : Int))]) (st := []) (t_bitPl G mem mem) dX7_rests_61 lX7_rests_176 rfl rfl rfl ?_
                    refine e_iconst (pc := 64) dX7_rests_64 (by decide) ?_
                    refine e_icmp_le (pc := 65) (tgt := 71) dX7_rests_65 rfl (fun h65 => ?_) (fun h65 => ?_)
                    · skip
                      refine e_aloadn (pc := 71) dX7_rests_71 rfl rfl ?_
                      refine e_getr (pc := 72) (k := 25) dX7_rests_72 fX7_32 s_0 rfl (by decide) ?_
                      refine e_aloadn (pc := 75) dX7_rests_75 rfl rfl ?_
                      refine e_getr (pc := 76) (k := 16) dX7_rests_76 fX7_28 s_0 rfl (by decide) ?_
                      refine e_callV (pc := 79) (as := [(2, 16)]) (st := []) (t_becomes G mem) dX7_rests_79 lX7_rests_163 rfl s_25 cn_1 rfl rfl (fun r_ zm1 hq_ => ?_)
                      obtain ⟨zr_, zB⟩ := hq_
                      subst zr_
                      have zT0 := zB.ts hI.2.1
                      refine Ev.to (st' := []) ?_ rfl rfl rfl
                      refine e_aloadn (pc := 82) dX7_rests_82 rfl rfl ?_
                      refine e_getr (pc := 83) (k := 34) dX7_rests_83 fX7_40 s_0 rfl (by decide) ?_
                      refine e_iloadn (pc := 86) dX7_rests_86 rfl rfl ?_
                      refine e_callV (pc := 87) (as := [(0, g)]) (st := []) (t_layB G mem zm1 g zg zT0) dX7_rests_87 lX7_rests_181 rfl s_34 cn_2 rfl rfl (fun r_ zm2 hq_ => ?_)
                      obtain ⟨zr_, zL⟩ := hq_
                      subst zr_
                      refine Ev.to (st' := []) ?_ rfl rfl rfl
                      refine e_aloadn (pc := 90) dX7_rests_90 rfl rfl ?_
                      refine e_getr (pc := 91) (k := 34) dX7_rests_91 fX7_40 s_0 rfl (by decide) ?_
                      refine e_iloadn (pc := 94) dX7_rests_94 rfl rfl ?_
                      refine e_callV (pc := 95) (as := [(0, i)]) (st := []) (t_walkB G mem zm2 g i zg (by omega) hI (by omega) zL) dX7_rests_95 lX7_rests_185 rfl s_34 cn_2 rfl rfl (fun r_ zm3 hq_ => ?_)
                      obtain ⟨zv, zr_, zf3, zA, zI⟩ := hq_
                      subst zr_
                      refine Ev.to (st' := [(0, zv)]) ?_ rfl rfl rfl
                      refine e_istore (pc := 98) (lo' := [(2, 0), (0, g), (0, i), (0, (cn : Int)), (0, zv)]) dX7_rests_98 rfl (by decide) rfl ?_
                      refine e_iloadn (pc := 100) dX7_rests_100 rfl rfl ?_
                      refine e_iconst (pc := 101) dX7_rests_101 (by decide) ?_
                      refine e_icmp_ne (pc := 102) (tgt := 108) dX7_rests_102 rfl (fun h102 => ?_) (fun h102 => ?_)
                      · skip
                        have zor := zI (by omega)
                        refine e_iload (pc := 108) dX7_rests_108 rfl ?_
                        refine e_iloadn (pc := 110) dX7_rests_110 rfl rfl ?_
                        refine e_icmp_le (pc := 111) (tgt := 126) dX7_rests_111 rfl (fun h111 => ?_) (fun h111 => ?_)
                        · skip
                          have zw2 : rsW mem g i = -1 := by
                            rcases zor with ⟨_, q⟩ | ⟨q, _⟩
                            · exact q
                            · exfalso; omega
                          refine e_iconst (pc := 126) dX7_rests_126 (by decide) ?_
                          have zneg : ¬ (¬ (5 ≤ g ∧ g ≤ 30) ∨ i < -1 ∨ (i = -1 ∧ (cn : Int) ≠ -1) ∨ (i ≠ -1 ∧ (cn : Int) = -1) ∨ ((cn : Int) ≠ -1 ∧ ¬ (0 ≤ (cn : Int) ∧ (cn : Int) < 8 ∧ mem 18 (cn : Int).toNat = 0))) := by
                            rintro (q | q | q | q | q)
                            · exact q zg
                            · omega
                            · omega
                            · omega
                            · exact q.2 zc
                          have zan : an_rests mem g i (cn : Int) = -1 := by unfold an_rests; rw [if_neg zneg, if_neg (by omega), if_neg (by omega), if_pos zw2]
                          exact e_iret (pc := 127) dX7_rests_127 rfl (by rw [← hQ_]; exact ⟨by rw [zan], zf3⟩)
                        · skip
                          obtain ⟨w, zw1, zw2, zw3⟩ : ∃ w : Nat, w < wyN mem g ∧ rsW mem g i = (w : Int) ∧ EP (mem 18) (grT mem g w) (zm3 28) := by
                            rcases zor with ⟨q, _⟩ | ⟨_, _, q⟩
                            · exfalso; omega
                            · exact q
                          refine e_aloadn (pc := 114) dX7_rests_114 rfl rfl ?_
                          refine e_getr (pc := 115) (k := 25) dX7_rests_115 fX7_32 s_0 rfl (by decide) ?_
                          refine e_getr (pc := 118) (k := 28) dX7_rests_118 fX7_85 s_25 rfl (by decide) ?_
                          refine e_iloadn (pc := 121) dX7_rests_121 rfl rfl ?_
                          refine e_ialdv (pc := 122) (v := (grT mem g w cn)) dX7_rests_122 s_28 (by omega) ((zw3 cn zcn zck).symm) ?_
                          refine e_goto (pc := 123) (tgt := 127) dX7_rests_123 rfl ?_
                          have zneg : ¬ (¬ (5 ≤ g ∧ g ≤ 30) ∨ i < -1 ∨ (i = -1 ∧ (cn : Int) ≠ -1) ∨ (i ≠ -1 ∧ (cn : Int) = -1) ∨ ((cn : Int) ≠ -1 ∧ ¬ (0 ≤ (cn : Int) ∧ (cn : Int) < 8 ∧ mem 18 (cn : Int).toNat = 0))) := by
                            rintro (q | q | q | q | q)
                            · exact q zg
                            · omega
                            · omega
                            · omega
                            · exact q.2 zc
                          have zan : an_rests mem g i (cn : Int) = grT mem g w cn := by unfold an_rests; rw [if_neg zneg, if_neg (by omega), if_neg (by omega), if_neg (by omega), zw2]; rfl
                          exact e_iret (pc := 127) dX7_rests_127 rfl (by rw [← hQ_]; exact ⟨by rw [zan], zf3⟩)
                      · skip
                        exfalso; omega
                    · skip
                      refine e_bipush (pc := 68) dX7_rests_68 rfl (by decide) ?_
                      have zneg : ¬ (¬ (5 ≤ g ∧ g ≤ 30) ∨ i < -1 ∨ (i = -1 ∧ (cn : Int) ≠ -1) ∨ (i ≠ -1 ∧ (cn : Int) = -1) ∨ ((cn : Int) ≠ -1 ∧ ¬ (0 ≤ (cn : Int) ∧ (cn : Int) < 8 ∧ mem 18 (cn : Int).toNat = 0))) := by
                        rintro (q | q | q | q | q)
                        · exact q zg
                        · omega
                        · omega
                        · omega
                        · exact q.2 zc
                      have zan : an_rests mem g i (cn : Int) = -4 := by unfold an_rests; rw [if_neg zneg, if_pos (by omega)]
                      exact e_iret (pc := 70) dX7_rests_70 rfl (by rw [← hQ_]; exact ⟨by rw [zan], Fr.rf⟩)
                  · skip
                    exact absurd h48 (by decide)
                · rw [if_neg zc]
                  refine e_if_ne (pc := 48) (tgt := 54) dX7_rests_48 rfl (fun h48 => ?_) (fun h48 => ?_)
                  · skip
                    exact absurd h48 (by decide)
                  · skip
                    refine e_bipush (pc := 51) dX7_rests_51 rfl (by decide) ?_
                    have zan : an_rests mem g i comer = -2 := by unfold an_rests; rw [if_pos (Or.inr (Or.inr (Or.inr (Or.inr ⟨by omega, zc⟩))))]
                    exact e_iret (pc := 53) dX7_rests_53 rfl (by rw [← hQ_]; exact ⟨by rw [zan], Fr.rf⟩)
            · skip
              exact absurd h32 (by decide)
  · rw [if_neg zg]
    refine e_if_eq (pc := 4) (tgt := 35) dX7_rests_4 rfl (fun h4 => ?_) (fun h4 => ?_)
    · skip
      refine e_bipush (pc := 35) dX7_rests_35 rfl (by decide) ?_
      have zan : an_rests mem g i comer = -2 := by unfold an_rests; rw [if_pos (by omega)]
      exact e_iret (pc := 37) dX7_rests_37 rfl (by rw [← hQ_]; exact ⟨by rw [zan], Fr.rf⟩)
    · skip
      exact absurd h4 (by decide)

theorem c_lost (G : Gm) (mem : Mem) (g i : Int) (hI : CI mem) : Con G mX7_lost [(2, 0), (0, g), (0, i)] mem (fun r m' => r = some (0, an_lost mem g i) ∧ Fr scQ mem m') := by
  refine Con.of (lo := [(2, 0), (0, g), (0, i), (3, 0)]) (by decide +kernel) (Nat.le_of_ble_eq_true rfl) rfl ?_
  generalize hQ_ : (fun r m' => r = some (0, an_lost mem g i) ∧ Fr scQ mem m' : Option AV → Mem → Prop) = Q_
  refine e_iloadn (pc := 0) dX7_lost_0 rfl rfl ?_
  refine e_callSr (pc := 1) (as := [(0, g)]) (st := []) (v := (0, if 5 ≤ g ∧ g ≤ 30 then 1 else 0)) (t_isStep G mem g) dX7_lost_1 lX7_lost_170 rfl rfl rfl ?_
  by_cases zg : 5 ≤ g ∧ g ≤ 30
  · rw [if_pos zg]
    refine e_if_eq (pc := 4) (tgt := 12) dX7_lost_4 rfl (fun h4 => ?_) (fun h4 => ?_)
    · skip
      exact absurd h4 (by decide)
    · skip
      refine e_iloadn (pc := 7) dX7_lost_7 rfl rfl ?_
      refine e_iconst (pc := 8) dX7_lost_8 (by decide) ?_
      refine e_icmp_ge (pc := 9) (tgt := 16) dX7_lost_9 rfl (fun h9 => ?_) (fun h9 => ?_)
      · skip
        refine e_aloadn (pc := 16) dX7_lost_16 rfl rfl ?_
        refine e_getr (pc := 17) (k := 16) dX7_lost_17 fX7_28 s_0 rfl (by decide) ?_
        refine e_callVr (pc := 20) (as := []) (st := []) (t_plainBits_16 G mem) dX7_lost_20 lX7_lost_173 rfl s_16 cn_1 rfl rfl ?_
        refine e_callSr (pc := 23) (as := [(0, ((bitsTo (fun c => decide (mem 18 c = 0)) 8 : Nat) : Int))]) (st := []) (t_bitPl G mem mem) dX7_lost_23 lX7_lost_176 rfl rfl rfl ?_
        refine e_iconst (pc := 26) dX7_lost_26 (by decide) ?_
        refine e_icmp_le (pc := 27) (tgt := 34) dX7_lost_27 rfl (fun h27 => ?_) (fun h27 => ?_)
        · skip
          refine e_aloadn (pc := 34) dX7_lost_34 rfl rfl ?_
          refine e_getr (pc := 35) (k := 25) dX7_lost_35 fX7_32 s_0 rfl (by decide) ?_
          refine e_aloadn (pc := 38) dX7_lost_38 rfl rfl ?_
          refine e_getr (pc := 39) (k := 16) dX7_lost_39 fX7_28 s_0 rfl (by decide) ?_
          refine e_callV (pc := 42) (as := [(2, 16)]) (st := []) (t_becomes G mem) dX7_lost_42 lX7_lost_163 rfl s_25 cn_1 rfl rfl (fun r_ zm1 hq_ => ?_)
          obtain ⟨zr_, zB⟩ := hq_
          subst zr_
          have zT0 := zB.ts hI.2.1
          refine Ev.to (st' := []) ?_ rfl rfl rfl
          refine e_aloadn (pc := 45) dX7_lost_45 rfl rfl ?_
          refine e_getr (pc := 46) (k := 34) dX7_lost_46 fX7_40 s_0 rfl (by decide) ?_
          refine e_iloadn (pc := 49) dX7_lost_49 rfl rfl ?_
          refine e_callV (pc := 50) (as := [(0, g)]) (st := []) (t_layB G mem zm1 g zg zT0) dX7_lost_50 lX7_lost_181 rfl s_34 cn_2 rfl rfl (fun r_ zm2 hq_ => ?_)
          obtain ⟨zr_, zL⟩ := hq_
          subst zr_
          refine Ev.to (st' := []) ?_ rfl rfl rfl
          refine e_iloadn (pc := 53) dX7_lost_53 rfl rfl ?_
          refine e_iconst (pc := 54) dX7_lost_54 (by decide) ?_
          refine e_icmp_ne (pc := 55) (tgt := 66) dX7_lost_55 rfl (fun h55 => ?_) (fun h55 => ?_)
          · skip
            refine e_aloadn (pc := 66) dX7_lost_66 rfl rfl ?_
            refine e_getr (pc := 67) (k := 34) dX7_lost_67 fX7_40 s_0 rfl (by decide) ?_
            refine e_iloadn (pc := 70) dX7_lost_70 rfl rfl ?_
            refine e_callV (pc := 71) (as := [(0, i)]) (st := []) (t_walkB G mem zm2 g i zg (by omega) hI (by omega) zL) dX7_lost_71 lX7_lost_185 rfl s_34 cn_2 rfl rfl (fun r_ zm3 hq_ => ?_)
            obtain ⟨zv, zr_, zf3, zA, zI⟩ := hq_
            subst zr_
            refine Ev.to (st' := [(0, zv)]) ?_ rfl rfl rfl
            refine e_iloadn (pc := 74) dX7_lost_74 rfl rfl ?_
            refine e_icmp_gt (pc := 75) (tgt := 82) dX7_lost_75 rfl (fun h75 => ?_) (fun h75 => ?_)
            · skip
              obtain ⟨zL3, w, zw1, zw2, zw3⟩ : GL mem zm3 g ∧ ∃ w : Nat, w < wyN mem g ∧ rsW mem g i = (w : Int) ∧ EP (mem 18) (grT mem g w) (zm3 28) := by
                rcases zI (by omega) with ⟨q, _⟩ | ⟨_, q⟩
                · exfalso; omega
                · exact q
              refine e_aloadn (pc := 82) dX7_lost_82 rfl rfl ?_
              refine e_getr (pc := 83) (k := 25) dX7_lost_83 fX7_32 s_0 rfl (by decide) ?_
              refine e_callV (pc := 86) (as := []) (st := []) (t_togB G mem zm3 g w hI zL3 zw3) dX7_lost_86 lX7_lost_149 rfl s_25 cn_1 rfl rfl (fun r_ zm4 hq_ => ?_)
              obtain ⟨zr_, zL4⟩ := hq_
              subst zr_
              have ztb := tgQ_bd zg hI w
              have zmb := mnT_bd (f := tgQ mem g) (fun j => tgQ_bd zg hI j) (by decide) (by decide) (wyN mem g)
              have zwp := wy_pos (A := mem) zg
              have zmb2 := zmb.2.1 zwp
              refine Ev.to (st' := [(0, tgQ mem g w)]) ?_ rfl rfl rfl
              refine e_istoren (pc := 89) (lo' := [(2, 0), (0, g), (0, i), (0, tgQ mem g w)]) dX7_lost_89 rfl rfl (by decide) rfl ?_
              refine e_iloadn (pc := 90) dX7_lost_90 rfl rfl ?_
              refine e_aloadn (pc := 91) dX7_lost_91 rfl rfl ?_
              refine e_getr (pc := 92) (k := 34) dX7_lost_92 fX7_40 s_0 rfl (by decide) ?_
              refine e_callV (pc := 95) (as := []) (st := [(0, tgQ mem g w)]) (t_goodB G mem zm4 g zg hI (by omega) zL4) dX7_lost_95 lX7_lost_188 rfl s_34 cn_2 rfl rfl (fun r_ zm5 hq_ => ?_)
              obtain ⟨zr_, zf5⟩ := hq_
              subst zr_
              refine Ev.to (st' := [(0, mnT (tgQ mem g) (wyN mem g)), (0, tgQ mem g w)]) ?_ rfl rfl rfl
              refine e_isubn (pc := 98) dX7_lost_98 (by omega) ?_
              have zneg : ¬ (¬ (5 ≤ g ∧ g ≤ 30) ∨ i < -1) := by omega
              have zan : an_lost mem g i = (tgQ mem g w) - (mnT (tgQ mem g) (wyN mem g)) := by unfold an_lost; rw [if_neg zneg, if_neg (by omega), if_neg (by omega), if_neg (by omega), zw2]; rfl
              exact e_iret (pc := 99) dX7_lost_99 rfl (by rw [← hQ_]; exact ⟨by rw [zan], zf5⟩)
            · skip
              have zw2 : rsW mem g i = -1 := by
                rcases zI (by omega) with ⟨_, q⟩ | ⟨q, _⟩
                · exact q
                · exfalso; omega
              refine e_sipush (pc := 78) dX7_lost_78 rfl (by decide) ?_
              have zneg : ¬ (¬ (5 ≤ g ∧ g ≤ 30) ∨ i < -1) := by omega
              have zan : an_lost mem g i = -10002 := by unfold an_lost; rw [if_neg zneg, if_neg (by omega), if_neg (by omega), if_pos zw2]
              exact e_iret (pc := 81) dX7_lost_81 rfl (by rw [← hQ_]; exact ⟨by rw [zan], zf3⟩)
          · skip
            refine e_aloadn (pc := 58) dX7_lost_58 rfl rfl ?_
            refine e_getr (pc := 59) (k := 34) dX7_lost_59 fX7_40 s_0 rfl (by decide) ?_
            refine e_callV (pc := 62) (as := []) (st := []) (t_goodB G mem zm2 g zg hI (by omega) zL) dX7_lost_62 lX7_lost_188 rfl s_34 cn_2 rfl rfl (fun r_ zm5 hq_ => ?_)
            obtain ⟨zr_, zf5⟩ := hq_
            subst zr_
            refine Ev.to (st' := [(0, mnT (tgQ mem g) (wyN mem g))]) ?_ rfl rfl rfl
            have zneg : ¬ (¬ (5 ≤ g ∧ g ≤ 30) ∨ i < -1) := by omega
            have zan : an_lost mem g i = mnT (tgQ mem g) (wyN mem g) := by unfold an_lost; rw [if_neg zneg, if_neg (by omega), if_pos (by omega)]
            exact e_iret (pc := 65) dX7_lost_65 rfl (by rw [← hQ_]; exact ⟨by rw [zan], zf5⟩)
        · skip
          refine e_sipush (pc := 30) dX7_lost_30 rfl (by decide) ?_
          have zneg : ¬ (¬ (5 ≤ g ∧ g ≤ 30) ∨ i < -1) := by omega
          have zan : an_lost mem g i = -10001 := by unfold an_lost; rw [if_neg zneg, if_pos (by omega)]
          exact e_iret (pc := 33) dX7_lost_33 rfl (by rw [← hQ_]; exact ⟨by rw [zan], Fr.rf⟩)
      · skip
        refine e_sipush (pc := 12) dX7_lost_12 rfl (by decide) ?_
        have zan : an_lost mem g i = -10000 := by unfold an_lost; rw [if_pos (by omega)]
        exact e_iret (pc := 15) dX7_lost_15 rfl (by rw [← hQ_]; exact ⟨by rw [zan], Fr.rf⟩)
  · rw [if_neg zg]
    refine e_if_eq (pc := 4) (tgt := 12) dX7_lost_4 rfl (fun h4 => ?_) (fun h4 => ?_)
    · skip
      refine e_sipush (pc := 12) dX7_lost_12 rfl (by decide) ?_
      have zan : an_lost mem g i = -10000 := by unfold an_lost; rw [if_pos (by omega)]
      exact e_iret (pc := 15) dX7_lost_15 rfl (by rw [← hQ_]; exact ⟨by rw [zan], Fr.rf⟩)
    · skip
      exact absurd h4 (by decide)
