-- ROADS
theorem lCmp_le {a b : Int} : lCmp a b ≤ 0 ↔ a ≤ b := by
  unfold lCmp
  by_cases h : a > b
  · rw [if_pos h]; omega
  · rw [if_neg h]
    split <;> omega
theorem lCmp_eq {a b : Int} : lCmp a b = 0 ↔ a = b := by
  unfold lCmp
  by_cases h : a > b
  · rw [if_pos h]; omega
  · rw [if_neg h]
    split <;> omega
def wtN (lot : Nat → Int) (way : Int) : Nat → Int
  | 0 => 1
  | k + 1 => wtN lot way k * (if bt way k = 1 then lot k else 16 - lot k)
theorem wtN_s (lot : Nat → Int) (way : Int) (k : Nat) : wtN lot way (k + 1) = wtN lot way k * (if bt way k = 1 then lot k else 16 - lot k) := rfl
theorem wtN_bd {lot : Nat → Int} {way : Int} : ∀ {k : Nat}, (∀ c, c < k → 0 ≤ lot c ∧ lot c ≤ 15) → 0 ≤ wtN lot way k ∧ wtN lot way k ≤ 16 ^ k
  | 0, _ => by simp [wtN]
  | k + 1, h => by
    have ih := wtN_bd (way := way) (k := k) (fun c hc => h c (by omega))
    have h2 := h k (by omega)
    rw [wtN_s]
    have h3 : 0 ≤ (if bt way k = 1 then lot k else 16 - lot k) ∧ (if bt way k = 1 then lot k else 16 - lot k) ≤ 16 := by split <;> omega
    generalize (if bt way k = 1 then lot k else 16 - lot k) = x at h3
    refine ⟨Int.mul_nonneg ih.1 h3.1, ?_⟩
    rw [Int.pow_succ]
    exact Int.mul_le_mul ih.2 h3.2 h3.1 (Int.le_trans ih.1 ih.2)
theorem wtN_zero {lot : Nat → Int} {way : Int} {k : Nat} (h : wtN lot way k = 0) : ∀ d : Nat, wtN lot way (k + d) = 0
  | 0 => h
  | d + 1 => by rw [show k + (d + 1) = (k + d) + 1 by omega, wtN_s, wtN_zero h d, Int.zero_mul]
theorem wt8_bd {mem : Mem} (hC : CoOk mem) (way : Int) : 0 ≤ wtN (mem 8) way 8 ∧ wtN (mem 8) way 8 ≤ 4294967296 := by
  have h := wtN_bd (lot := mem 8) (way := way) (k := 8) (fun c hc => (hC c hc).2.2.2.1)
  have e : (16 : Int) ^ 8 = 4294967296 := by decide
  rw [e] at h; exact h
theorem mulL {a p : Int} (ha : 0 ≤ a ∧ a ≤ 4294967296) (hp : -99 ≤ p ∧ p ≤ 6039) : -25937424601600 ≤ a * p ∧ a * p ≤ 25937424601600 := by
  have h1 := Int.mul_le_mul_of_nonneg_left hp.2 ha.1
  have h2 := Int.mul_le_mul_of_nonneg_left hp.1 ha.1
  omega
theorem p16 {k : Nat} (h : k < 8) : (16 : Int) ^ (k + 1) ≤ 4294967296 := by
  rcases (show k = 0 ∨ k = 1 ∨ k = 2 ∨ k = 3 ∨ k = 4 ∨ k = 5 ∨ k = 6 ∨ k = 7 by omega) with rfl | rfl | rfl | rfl | rfl | rfl | rfl | rfl <;> decide
def scR (c j : Nat) : Bool := scG 25 c j || (c == 25 && j == 4)
/-- when it begins, by a way of roads; who comes when -/
noncomputable def stL (mem : Mem) (way : Int) : Int := stF mem (mem 27) (mem 28) (mem 26 0) way (mem 25 5) (mem 9) (mem 2) (mem 3)
noncomputable def whL (mem : Mem) (way : Int) : Nat → Int := whF (mem 27) (mem 28) (mem 26 0) way (mem 25 5) (mem 9) (mem 2) (mem 3)
noncomputable def begS (mem : Mem) (minute : Int) (w : Nat) : Int := if stL mem (w : Int) ≤ minute then wtN (mem 8) (w : Int) 8 else 0
noncomputable def priS (mem : Mem) (o w : Nat) : Int := wtN (mem 8) (w : Int) 8 * priceV (mem 5) (mem 6) (mem 7) (mem 26 0) (mem 26 1) (mem 26 2) o (whL mem (w : Int) o) (stL mem (w : Int))

theorem t_weight (G : Gm) (mem : Mem) (way : Int) (hw : 0 ≤ way ∧ way < 256) (hC : CoOk mem) : Con G mX3_weight [(2, 40), (0, way)] mem (fun r m' => r = some (1, wtN (mem 8) way 8) ∧ m' = mem) := by
  refine Con.of (lo := [(2, 40), (0, way), (3, 0), (3, 0), (3, 0), (3, 0)]) (by decide +kernel) (Nat.le_of_ble_eq_true rfl) rfl ?_
  generalize hQ_ : (fun r m' => r = some (1, wtN (mem 8) way 8) ∧ m' = mem : Option AV → Mem → Prop) = Q_
  refine e_lconst (pc := 0) (z := 1) dX3_weight_0 rfl (by decide) ?_
  refine e_lstoren (pc := 1) (lo' := [(2, 40), (0, way), (1, 1), (3, 0), (3, 0), (3, 0)]) dX3_weight_1 rfl rfl (by decide) rfl ?_
  refine e_iconst (pc := 2) dX3_weight_2 (by decide) ?_
  refine e_istore (pc := 3) (lo' := [(2, 40), (0, way), (1, 1), (3, 0), (0, 0), (3, 0)]) dX3_weight_3 rfl (by decide) rfl ?_
  have L5 : ∀ (n_ : Nat) (k : Nat), 8 - k = n_ → (k ≤ 8) → Ev G mX3_weight Q_ 5 [(2, 40), (0, way), (1, wtN (mem 8) way k), (3, 0), (0, (k : Int)), (3, 0)] [] mem := by
    intro n_
    induction n_ using Nat.strongRecOn with
    | ind n_ ih5 =>
      intro k hn_ zk
      have zb := wtN_bd (lot := mem 8) (way := way) (k := k) (fun c hc => (hC c (by omega)).2.2.2.1)
      have zbt := bt_01 way k
      refine e_iload (pc := 5) dX3_weight_5 rfl ?_
      refine e_bipush (pc := 7) dX3_weight_7 rfl (by decide) ?_
      refine e_icmp_ge (pc := 9) (tgt := 62) dX3_weight_9 rfl (fun h9 => ?_) (fun h9 => ?_)
      · skip
        refine e_lloadn (pc := 62) dX3_weight_62 rfl rfl ?_
        have zfin : wtN (mem 8) way 8 = wtN (mem 8) way k := by
          rw [show k = 8 by omega]
        exact e_lret (pc := 63) dX3_weight_63 rfl (by rw [← hQ_, zfin]; exact ⟨rfl, rfl⟩)
      · skip
        refine e_lloadn (pc := 12) dX3_weight_12 rfl rfl ?_
        refine e_lconst (pc := 13) (z := 0) dX3_weight_13 rfl (by decide) ?_
        refine e_lcmp (pc := 14) dX3_weight_14 ?_
        refine e_if_le (pc := 15) (tgt := 62) dX3_weight_15 rfl (fun h15 => ?_) (fun h15 => ?_)
        · skip
          refine e_lloadn (pc := 62) dX3_weight_62 rfl rfl ?_
          have zfin : wtN (mem 8) way 8 = wtN (mem 8) way k := by
            have z0 : wtN (mem 8) way k = 0 := by have := lCmp_le.mp h15; omega
            have z1 := wtN_zero z0 (8 - k)
            rw [show k + (8 - k) = 8 by omega] at z1
            rw [z1, z0]
          exact e_lret (pc := 63) dX3_weight_63 rfl (by rw [← hQ_, zfin]; exact ⟨rfl, rfl⟩)
        · skip
          have zb1 := wtN_bd (lot := mem 8) (way := way) (k := k + 1) (fun c hc => (hC c (by omega)).2.2.2.1)
          have zlot := (hC k (by omega)).2.2.2.1
          have zp8 := p16 (k := k) (by omega)
          rw [wtN_s] at zb1
          refine e_aloadn (pc := 18) dX3_weight_18 rfl rfl ?_
          refine e_getr (pc := 19) (k := 1) dX3_weight_19 fX3_9 s_40 rfl (by decide) ?_
          refine e_getr (pc := 22) (k := 4) dX3_weight_22 fX3_19 s_1 rfl (by decide) ?_
          refine e_iconst (pc := 25) dX3_weight_25 (by decide) ?_
          refine e_aald (pc := 26) dX3_weight_26 s_4 (by omega) ?_
          refine Ev.to (st' := [(2, 8)]) ?_ rfl rfl rfl
          refine e_iload (pc := 27) dX3_weight_27 rfl ?_
          refine e_ialdv (pc := 29) (v := mem 8 k) dX3_weight_29 s_8 (by omega) rfl ?_
          refine e_istore (pc := 30) (lo' := [(2, 40), (0, way), (1, wtN (mem 8) way k), (3, 0), (0, (k : Int)), (0, mem 8 k)]) dX3_weight_30 rfl (by decide) rfl ?_
          refine e_lloadn (pc := 32) dX3_weight_32 rfl rfl ?_
          refine e_iloadn (pc := 33) dX3_weight_33 rfl rfl ?_
          refine e_iload (pc := 34) dX3_weight_34 rfl ?_
          refine e_ishr (pc := 36) dX3_weight_36 ?_
          refine e_iconst (pc := 37) dX3_weight_37 (by decide) ?_
          refine e_iand (pc := 38) dX3_weight_38 ?_
          rw [show bAnd (bShr way (k : Int)) 1 = bt way k from bt_eq hw.1 (by omega) (by omega)]
          refine e_if_eq (pc := 39) (tgt := 48) dX3_weight_39 rfl (fun h39 => ?_) (fun h39 => ?_)
          · skip
            refine e_bipush (pc := 48) dX3_weight_48 rfl (by decide) ?_
            refine e_iload (pc := 50) dX3_weight_50 rfl ?_
            refine e_isubn (pc := 52) dX3_weight_52 (by omega) ?_
            refine e_i2l (pc := 53) dX3_weight_53 ?_
            rw [if_neg (by omega)] at zb1
            refine e_lmuln (pc := 54) dX3_weight_54 (by omega) ?_
            refine e_lstoren (pc := 55) (lo' := [(2, 40), (0, way), (1, (wtN (mem 8) way k) * (16 - (mem 8 k))), (3, 0), (0, (k : Int)), (0, mem 8 k)]) dX3_weight_55 rfl rfl (by decide) rfl ?_
            refine e_iinc (pc := 56) (lo' := [(2, 40), (0, way), (1, (wtN (mem 8) way k) * (16 - (mem 8 k))), (3, 0), (0, (k : Int) + 1), (0, mem 8 k)]) dX3_weight_56 rfl (by omega) rfl (by decide) rfl ?_
            refine e_goto (pc := 59) (tgt := 5) dX3_weight_59 rfl ?_
            refine Ev.fgt [5] ?_
            exact Ev.to (ih5 _ (by omega) (k + 1) (rfl) (by omega)) (by rw [wtN_s, if_neg (by omega)]; rfl) rfl rfl
          · skip
            refine e_iload (pc := 42) dX3_weight_42 rfl ?_
            refine e_i2l (pc := 44) dX3_weight_44 ?_
            refine e_goto (pc := 45) (tgt := 54) dX3_weight_45 rfl ?_
            rw [if_pos (by omega)] at zb1
            refine e_lmuln (pc := 54) dX3_weight_54 (by omega) ?_
            refine e_lstoren (pc := 55) (lo' := [(2, 40), (0, way), (1, (wtN (mem 8) way k) * (mem 8 k)), (3, 0), (0, (k : Int)), (0, mem 8 k)]) dX3_weight_55 rfl rfl (by decide) rfl ?_
            refine e_iinc (pc := 56) (lo' := [(2, 40), (0, way), (1, (wtN (mem 8) way k) * (mem 8 k)), (3, 0), (0, (k : Int) + 1), (0, mem 8 k)]) dX3_weight_56 rfl (by omega) rfl (by decide) rfl ?_
            refine e_goto (pc := 59) (tgt := 5) dX3_weight_59 rfl ?_
            refine Ev.fgt [5] ?_
            exact Ev.to (ih5 _ (by omega) (k + 1) (rfl) (by omega)) (by rw [wtN_s, if_pos (by omega)]; rfl) rfl rfl
  exact Ev.to (L5 _ 0 (rfl) (by omega)) rfl rfl rfl

theorem TrR {mem zm : Mem} (zf : Fr scR mem zm) : TrS (mset mem 25 4 (zm 25 4)) zm := by
  have e : ∀ c, c ≠ 25 → (mset mem 25 4 (zm 25 4)) c = mem c := fun c hc => mset_nc _ _ _ _ hc
  refine ⟨⟨?_, ?_, ?_, ?_⟩, ⟨?_, ?_, ?_, ?_, ?_⟩, ?_, ?_, ?_, ?_, ?_, ?_, ?_⟩
  · rw [e 26 (by decide)]; exact funext fun j => zf 26 j rfl
  · rw [e 27 (by decide)]; exact funext fun j => zf 27 j rfl
  · exact (mset_eq _ _ _ _).symm
  · rw [mset_nj _ _ _ _ (by decide)]; exact zf 25 5 rfl
  · rw [e 10 (by decide)]; exact zf 10 4 rfl
  · rw [e 12 (by decide)]; exact funext fun j => zf 12 j rfl
  · rw [e 13 (by decide)]; exact funext fun j => zf 13 j rfl
  · rw [e 14 (by decide)]; exact funext fun j => zf 14 j rfl
  · rw [e 15 (by decide)]; exact funext fun j => zf 15 j rfl
  · rw [e 5 (by decide)]; exact funext fun j => zf 5 j rfl
  · rw [e 6 (by decide)]; exact funext fun j => zf 6 j rfl
  · rw [e 7 (by decide)]; exact funext fun j => zf 7 j rfl
  · rw [e 8 (by decide)]; exact funext fun j => zf 8 j rfl
  · rw [e 9 (by decide)]; exact funext fun j => zf 9 j rfl
  · rw [e 2 (by decide)]; exact funext fun j => zf 2 j rfl
  · rw [e 3 (by decide)]; exact funext fun j => zf 3 j rfl
/-- the rows of a memory that differs by its late bits and what is scratch -/
theorem rR {mem zm : Mem} (zf : Fr scR mem zm) : (zm 26 = mem 26 ∧ zm 27 = mem 27 ∧ zm 28 = mem 28 ∧ zm 25 5 = mem 25 5) ∧ (zm 10 4 = mem 10 4 ∧ zm 12 = mem 12 ∧ zm 13 = mem 13 ∧ zm 14 = mem 14 ∧ zm 15 = mem 15) ∧ zm 5 = mem 5 ∧ zm 6 = mem 6 ∧ zm 7 = mem 7 ∧ zm 8 = mem 8 ∧ zm 9 = mem 9 ∧ zm 2 = mem 2 ∧ zm 3 = mem 3 :=
  ⟨⟨funext fun j => zf 26 j rfl, funext fun j => zf 27 j rfl, funext fun j => zf 28 j rfl, zf 25 5 rfl⟩, ⟨zf 10 4 rfl, funext fun j => zf 12 j rfl, funext fun j => zf 13 j rfl, funext fun j => zf 14 j rfl, funext fun j => zf 15 j rfl⟩, funext fun j => zf 5 j rfl, funext fun j => zf 6 j rfl, funext fun j => zf 7 j rfl, funext fun j => zf 8 j rfl, funext fun j => zf 9 j rfl, funext fun j => zf 2 j rfl, funext fun j => zf 3 j rfl⟩
theorem CoR {mem zm : Mem} (zf : Fr scR mem zm) (hC : CoOk mem) : CoOk zm := by
  obtain ⟨_, _, a5, a6, a7, a8, a9, a2, a3⟩ := rR zf
  unfold CoOk at *
  rw [a5, a6, a7, a8, a9, a2, a3]; exact hC
theorem EvR25 {mem zm : Mem} (zf : Fr scR mem zm) (hE : EvOk25 mem) {x : Int} (hx : zm 25 4 = x) (h : 0 ≤ x ∧ x < 256) : EvOk25 zm := by
  obtain ⟨⟨a1, a2, a3, a4⟩, _, _, _, _, _, _, b2, b3⟩ := rR zf
  unfold EvOk25 EvR at *
  rw [a1, a2, a3, a4, b2, b3, hx]
  exact ⟨⟨hE.1.1, hE.1.2.1, hE.1.2.2.1, h, hE.1.2.2.2.2⟩, hE.2⟩
theorem stR {mem zm : Mem} (zf : Fr scR mem zm) {x : Int} (hx : zm 25 4 = x) : stF zm (zm 27) (zm 28) (zm 26 0) (zm 25 4) (zm 25 5) (zm 9) (zm 2) (zm 3) = stL mem x ∧ whF (zm 27) (zm 28) (zm 26 0) (zm 25 4) (zm 25 5) (zm 9) (zm 2) (zm 3) = whL mem x := by
  obtain ⟨⟨a1, a2, a3, a4⟩, ⟨r1, r2, r3, r4, r5⟩, _, _, _, _, a9, b2, b3⟩ := rR zf
  unfold stL whL
  rw [a1, a2, a3, a4, a9, b2, b3, hx, stF_mv r1 r2 r3 r4 r5]
  exact ⟨rfl, rfl⟩
theorem scGR {mem zm : Mem} (zf : Fr (scG 25) mem zm) : Fr scR mem zm := zf.mono (fun c j q => by unfold scR at q; simp at q; exact q.1)
theorem whL_bd {mem : Mem} (hC : CoOk mem) (hE : EvOk25 mem) {x : Int} (hx : 0 ≤ x ∧ x < 256) : ∀ c, c < 8 → 0 ≤ whL mem x c ∧ whL mem x c ≤ 60 := by
  have zf : Fr scR mem (mset mem 25 4 x) := (Fr.rf (S := scR)).ms rfl
  have h := wb_25 (CoR zf hC) (EvR25 zf hE (mset_eq _ _ _ _) hx)
  rw [(stR zf (mset_eq _ _ _ _)).2] at h
  exact h

theorem t_begunBy (G : Gm) (mem : Mem) (minute : Int) (hC : CoOk mem) (hE : EvOk25 mem) (hR : RuOk mem) : Con G mX3_begunBy [(2, 40), (0, minute)] mem (fun r m' => r = some (1, sumTo (begS mem minute) 256) ∧ Fr scR mem m') := by
  refine Con.of (lo := [(2, 40), (0, minute), (3, 0), (3, 0), (3, 0), (3, 0), (3, 0)]) (by decide +kernel) (Nat.le_of_ble_eq_true rfl) rfl ?_
  generalize hQ_ : (fun r m' => r = some (1, sumTo (begS mem minute) 256) ∧ Fr scR mem m' : Option AV → Mem → Prop) = Q_
  have zfb : ∀ j, j < 256 → 0 ≤ begS mem minute j ∧ begS mem minute j ≤ 4294967296 := by
    intro j hj
    have := wt8_bd hC (j : Int)
    unfold begS
    split <;> omega
  refine e_lconst (pc := 0) (z := 0) dX3_begunBy_0 rfl (by decide) ?_
  refine e_lstoren (pc := 1) (lo' := [(2, 40), (0, minute), (1, 0), (3, 0), (3, 0), (3, 0), (3, 0)]) dX3_begunBy_1 rfl rfl (by decide) rfl ?_
  refine e_iconst (pc := 2) dX3_begunBy_2 (by decide) ?_
  refine e_istore (pc := 3) (lo' := [(2, 40), (0, minute), (1, 0), (3, 0), (0, 0), (3, 0), (3, 0)]) dX3_begunBy_3 rfl (by decide) rfl ?_
  have L5 : ∀ (n_ : Nat) (k : Nat) (zmv : Mem), 256 - k = n_ → (k ≤ 256) → (Fr scR mem zmv) → Ev G mX3_begunBy Q_ 5 [(2, 40), (0, minute), (1, sumTo (begS mem minute) k), (3, 0), (0, (k : Int)), (3, 0), (3, 0)] [] zmv := by
    intro n_
    induction n_ using Nat.strongRecOn with
    | ind n_ ih5 =>
      intro k zmv hn_ zk zf
      have zsb := sumTo_bd (f := begS mem minute) (a := 0) (b := 4294967296) (n := k) (fun j hj => zfb j (by omega))
      have zfk := zfb k
      have zw8 := wt8_bd hC (k : Int)
      refine e_iload (pc := 5) dX3_begunBy_5 rfl ?_
      refine e_sipush (pc := 7) dX3_begunBy_7 rfl (by decide) ?_
      refine e_icmp_ge (pc := 10) (tgt := 59) dX3_begunBy_10 rfl (fun h10 => ?_) (fun h10 => ?_)
      · skip
        refine e_lloadn (pc := 59) dX3_begunBy_59 rfl rfl ?_
        exact e_lret (pc := 60) dX3_begunBy_60 rfl (by rw [← hQ_, show k = 256 by omega]; exact ⟨rfl, zf⟩)
      · skip
        refine e_aloadn (pc := 13) dX3_begunBy_13 rfl rfl ?_
        refine e_iload (pc := 14) dX3_begunBy_14 rfl ?_
        have zW := t_weight G zmv (k : Int) (by omega) (CoR zf hC)
        rw [(rR zf).2.2.2.2.2.1] at zW
        refine e_callVr (pc := 16) (as := [(0, (k : Int))]) (st := []) (zW) dX3_begunBy_16 lX3_begunBy_25 rfl s_40 cn_3 rfl rfl ?_
        refine e_lstore (pc := 19) (lo' := [(2, 40), (0, minute), (1, sumTo (begS mem minute) k), (3, 0), (0, (k : Int)), (1, wtN (mem 8) (k : Int) 8), (3, 0)]) dX3_begunBy_19 rfl (by decide) rfl ?_
        refine e_aloadn (pc := 21) dX3_begunBy_21 rfl rfl ?_
        refine e_getr (pc := 22) (k := 25) dX3_begunBy_22 fX3_15 s_40 rfl (by decide) ?_
        refine e_iload (pc := 25) dX3_begunBy_25 rfl ?_
        refine e_putI (pc := 27) (mem2 := mset zmv 25 4 (k : Int)) dX3_begunBy_27 fX3_29 s_25 rfl (by decide) pw_1_4 rfl ?_
        refine e_lload (pc := 30) dX3_begunBy_30 rfl ?_
        refine e_lconst (pc := 32) (z := 0) dX3_begunBy_32 rfl (by decide) ?_
        refine e_lcmp (pc := 33) dX3_begunBy_33 ?_
        refine e_if_le (pc := 34) (tgt := 53) dX3_begunBy_34 rfl (fun h34 => ?_) (fun h34 => ?_)
        · skip
          refine e_iinc (pc := 53) (lo' := [(2, 40), (0, minute), (1, sumTo (begS mem minute) k), (3, 0), (0, (k : Int) + 1), (1, wtN (mem 8) (k : Int) 8), (3, 0)]) dX3_begunBy_53 rfl (by omega) rfl (by decide) rfl ?_
          refine e_goto (pc := 56) (tgt := 5) dX3_begunBy_56 rfl ?_
          have zs9 : sumTo (begS mem minute) (k + 1) = sumTo (begS mem minute) k := by
            show sumTo (begS mem minute) k + begS mem minute k = _
            rw [show begS mem minute k = 0 from by unfold begS; have z0 := lCmp_le.mp h34; split <;> omega, Int.add_zero]
          refine Ev.fgt [5] ?_
          exact Ev.to (ih5 _ (by omega) (k + 1) (mset zmv 25 4 (k : Int)) (rfl) (by omega) (zf.ms rfl)) (by rw [zs9]; rfl) rfl rfl
        · skip
          refine e_aloadn (pc := 37) dX3_begunBy_37 rfl rfl ?_
          refine e_getr (pc := 38) (k := 25) dX3_begunBy_38 fX3_15 s_40 rfl (by decide) ?_
          have zf1 : Fr scR mem (mset zmv 25 4 (k : Int)) := zf.ms rfl
          have zx1 : (mset zmv 25 4 (k : Int)) 25 4 = (k : Int) := mset_eq _ _ _ _
          obtain ⟨zs1, zs2⟩ := stR zf1 zx1
          obtain ⟨_, zrr, _⟩ := rR zf1
          refine e_callV (pc := 41) (as := []) (st := []) (t_reckon_25 G (mset zmv 25 4 (k : Int)) (CoR zf1 hC) (EvR25 zf1 hE zx1 (by omega)) (RuOk.mv zrr.1 zrr.2.1 zrr.2.2.1 zrr.2.2.2.1 zrr.2.2.2.2 hR)) dX3_begunBy_41 lX3_begunBy_35 rfl s_25 cn_1 rfl rfl (fun r_ zm1 hq_ => ?_)
          rw [zs1, zs2] at hq_
          obtain ⟨zr_, zvb, zf2, zwh⟩ := hq_
          subst zr_
          have zf3 : Fr scR mem zm1 := zf1.tr (scGR zf2)
          refine Ev.to (st' := [(0, stL mem (k : Int))]) ?_ rfl rfl rfl
          refine e_iloadn (pc := 44) dX3_begunBy_44 rfl rfl ?_
          refine e_icmp_gt (pc := 45) (tgt := 53) dX3_begunBy_45 rfl (fun h45 => ?_) (fun h45 => ?_)
          · skip
            refine e_iinc (pc := 53) (lo' := [(2, 40), (0, minute), (1, sumTo (begS mem minute) k), (3, 0), (0, (k : Int) + 1), (1, wtN (mem 8) (k : Int) 8), (3, 0)]) dX3_begunBy_53 rfl (by omega) rfl (by decide) rfl ?_
            refine e_goto (pc := 56) (tgt := 5) dX3_begunBy_56 rfl ?_
            have zs9 : sumTo (begS mem minute) (k + 1) = sumTo (begS mem minute) k := by
              show sumTo (begS mem minute) k + begS mem minute k = _
              rw [show begS mem minute k = 0 from by unfold begS; rw [if_neg (by omega)], Int.add_zero]
            refine Ev.fgt [5] ?_
            exact Ev.to (ih5 _ (by omega) (k + 1) zm1 (rfl) (by omega) (zf3)) (by rw [zs9]; rfl) rfl rfl
          · skip
            refine e_lloadn (pc := 48) dX3_begunBy_48 rfl rfl ?_
            refine e_lload (pc := 49) dX3_begunBy_49 rfl ?_
            refine e_laddn (pc := 51) dX3_begunBy_51 (by omega) ?_
            refine e_lstoren (pc := 52) (lo' := [(2, 40), (0, minute), (1, (sumTo (begS mem minute) k) + (wtN (mem 8) (k : Int) 8)), (3, 0), (0, (k : Int)), (1, wtN (mem 8) (k : Int) 8), (3, 0)]) dX3_begunBy_52 rfl rfl (by decide) rfl ?_
            refine e_iinc (pc := 53) (lo' := [(2, 40), (0, minute), (1, (sumTo (begS mem minute) k) + (wtN (mem 8) (k : Int) 8)), (3, 0), (0, (k : Int) + 1), (1, wtN (mem 8) (k : Int) 8), (3, 0)]) dX3_begunBy_53 rfl (by omega) rfl (by decide) rfl ?_
            refine e_goto (pc := 56) (tgt := 5) dX3_begunBy_56 rfl ?_
            have zs9 : sumTo (begS mem minute) (k + 1) = (sumTo (begS mem minute) k) + (wtN (mem 8) (k : Int) 8) := by
              show sumTo (begS mem minute) k + begS mem minute k = _
              rw [show begS mem minute k = wtN (mem 8) (k : Int) 8 from by unfold begS; rw [if_pos (by omega)]]
            refine Ev.fgt [5] ?_
            exact Ev.to (ih5 _ (by omega) (k + 1) zm1 (rfl) (by omega) (zf3)) (by rw [zs9]; rfl) rfl rfl
  exact Ev.to (L5 _ 0 mem (rfl) (by omega) (Fr.rf)) rfl rfl rfl

theorem t_priceOf (G : Gm) (mem : Mem) (o : Nat) (ho : o < 8) (hC : CoOk mem) (hE : EvOk25 mem) (hR : RuOk mem) : Con G mX3_priceOf [(2, 40), (0, (o : Int))] mem (fun r m' => r = some (1, sumTo (priS mem o) 256) ∧ Fr scR mem m') := by
  refine Con.of (lo := [(2, 40), (0, (o : Int)), (3, 0), (3, 0), (3, 0), (3, 0), (3, 0), (3, 0)]) (by decide +kernel) (Nat.le_of_ble_eq_true rfl) rfl ?_
  generalize hQ_ : (fun r m' => r = some (1, sumTo (priS mem o) 256) ∧ Fr scR mem m' : Option AV → Mem → Prop) = Q_
  have zfb : ∀ j, j < 256 → -25937424601600 ≤ priS mem o j ∧ priS mem o j ≤ 25937424601600 := by
    intro j hj
    exact mulL (wt8_bd hC (j : Int)) (price_bd25 hC hE ho (whL_bd hC hE (by omega) o ho) stF_bd)
  refine e_lconst (pc := 0) (z := 0) dX3_priceOf_0 rfl (by decide) ?_
  refine e_lstoren (pc := 1) (lo' := [(2, 40), (0, (o : Int)), (1, 0), (3, 0), (3, 0), (3, 0), (3, 0), (3, 0)]) dX3_priceOf_1 rfl rfl (by decide) rfl ?_
  refine e_iconst (pc := 2) dX3_priceOf_2 (by decide) ?_
  refine e_istore (pc := 3) (lo' := [(2, 40), (0, (o : Int)), (1, 0), (3, 0), (0, 0), (3, 0), (3, 0), (3, 0)]) dX3_priceOf_3 rfl (by decide) rfl ?_
  have L5 : ∀ (n_ : Nat) (k : Nat) (zmv : Mem), 256 - k = n_ → (k ≤ 256) → (Fr scR mem zmv) → Ev G mX3_priceOf Q_ 5 [(2, 40), (0, (o : Int)), (1, sumTo (priS mem o) k), (3, 0), (0, (k : Int)), (3, 0), (3, 0), (3, 0)] [] zmv := by
    intro n_
    induction n_ using Nat.strongRecOn with
    | ind n_ ih5 =>
      intro k zmv hn_ zk zf
      have zsb := sumTo_bd (f := priS mem o) (a := -25937424601600) (b := 25937424601600) (n := k) (fun j hj => zfb j (by omega))
      have zfk := zfb k
      have zw8 := wt8_bd hC (k : Int)
      refine e_iload (pc := 5) dX3_priceOf_5 rfl ?_
      refine e_sipush (pc := 7) dX3_priceOf_7 rfl (by decide) ?_
      refine e_icmp_ge (pc := 10) (tgt := 78) dX3_priceOf_10 rfl (fun h10 => ?_) (fun h10 => ?_)
      · skip
        refine e_lloadn (pc := 78) dX3_priceOf_78 rfl rfl ?_
        exact e_lret (pc := 79) dX3_priceOf_79 rfl (by rw [← hQ_, show k = 256 by omega]; exact ⟨rfl, zf⟩)
      · skip
        refine e_aloadn (pc := 13) dX3_priceOf_13 rfl rfl ?_
        refine e_iload (pc := 14) dX3_priceOf_14 rfl ?_
        have zW := t_weight G zmv (k : Int) (by omega) (CoR zf hC)
        rw [(rR zf).2.2.2.2.2.1] at zW
        refine e_callVr (pc := 16) (as := [(0, (k : Int))]) (st := []) (zW) dX3_priceOf_16 lX3_priceOf_25 rfl s_40 cn_3 rfl rfl ?_
        refine e_lstore (pc := 19) (lo' := [(2, 40), (0, (o : Int)), (1, sumTo (priS mem o) k), (3, 0), (0, (k : Int)), (1, wtN (mem 8) (k : Int) 8), (3, 0), (3, 0)]) dX3_priceOf_19 rfl (by decide) rfl ?_
        refine e_lload (pc := 21) dX3_priceOf_21 rfl ?_
        refine e_lconst (pc := 23) (z := 0) dX3_priceOf_23 rfl (by decide) ?_
        refine e_lcmp (pc := 24) dX3_priceOf_24 ?_
        refine e_if_le (pc := 25) (tgt := 72) dX3_priceOf_25 rfl (fun h25 => ?_) (fun h25 => ?_)
        · skip
          refine e_iinc (pc := 72) (lo' := [(2, 40), (0, (o : Int)), (1, sumTo (priS mem o) k), (3, 0), (0, (k : Int) + 1), (1, wtN (mem 8) (k : Int) 8), (3, 0), (3, 0)]) dX3_priceOf_72 rfl (by omega) rfl (by decide) rfl ?_
          refine e_goto (pc := 75) (tgt := 5) dX3_priceOf_75 rfl ?_
          have zs9 : sumTo (priS mem o) (k + 1) = sumTo (priS mem o) k := by
            show sumTo (priS mem o) k + priS mem o k = _
            rw [show priS mem o k = 0 from by unfold priS; have z0 := lCmp_le.mp h25; rw [show wtN (mem 8) (k : Int) 8 = 0 by omega, Int.zero_mul], Int.add_zero]
          refine Ev.fgt [5] ?_
          exact Ev.to (ih5 _ (by omega) (k + 1) zmv (rfl) (by omega) (zf)) (by rw [zs9]; rfl) rfl rfl
        · skip
          refine e_aloadn (pc := 28) dX3_priceOf_28 rfl rfl ?_
          refine e_getr (pc := 29) (k := 25) dX3_priceOf_29 fX3_15 s_40 rfl (by decide) ?_
          refine e_iload (pc := 32) dX3_priceOf_32 rfl ?_
          refine e_putI (pc := 34) (mem2 := mset zmv 25 4 (k : Int)) dX3_priceOf_34 fX3_29 s_25 rfl (by decide) pw_1_4 rfl ?_
          refine e_aloadn (pc := 37) dX3_priceOf_37 rfl rfl ?_
          refine e_getr (pc := 38) (k := 25) dX3_priceOf_38 fX3_15 s_40 rfl (by decide) ?_
          have zf1 : Fr scR mem (mset zmv 25 4 (k : Int)) := zf.ms rfl
          have zx1 : (mset zmv 25 4 (k : Int)) 25 4 = (k : Int) := mset_eq _ _ _ _
          obtain ⟨zs1, zs2⟩ := stR zf1 zx1
          obtain ⟨_, zrr, _⟩ := rR zf1
          refine e_callV (pc := 41) (as := []) (st := []) (t_reckon_25 G (mset zmv 25 4 (k : Int)) (CoR zf1 hC) (EvR25 zf1 hE zx1 (by omega)) (RuOk.mv zrr.1 zrr.2.1 zrr.2.2.1 zrr.2.2.2.1 zrr.2.2.2.2 hR)) dX3_priceOf_41 lX3_priceOf_35 rfl s_25 cn_1 rfl rfl (fun r_ zm1 hq_ => ?_)
          rw [zs1, zs2] at hq_
          obtain ⟨zr_, zvb, zf2, zwh⟩ := hq_
          subst zr_
          have zf3 : Fr scR mem zm1 := zf1.tr (scGR zf2)
          refine Ev.to (st' := [(0, stL mem (k : Int))]) ?_ rfl rfl rfl
          refine e_istore (pc := 44) (lo' := [(2, 40), (0, (o : Int)), (1, sumTo (priS mem o) k), (3, 0), (0, (k : Int)), (1, wtN (mem 8) (k : Int) 8), (3, 0), (0, stL mem (k : Int))]) dX3_priceOf_44 rfl (by decide) rfl ?_
          refine e_lloadn (pc := 46) dX3_priceOf_46 rfl rfl ?_
          refine e_lload (pc := 47) dX3_priceOf_47 rfl ?_
          refine e_aloadn (pc := 49) dX3_priceOf_49 rfl rfl ?_
          refine e_getr (pc := 50) (k := 25) dX3_priceOf_50 fX3_15 s_40 rfl (by decide) ?_
          refine e_iloadn (pc := 53) dX3_priceOf_53 rfl rfl ?_
          refine e_aloadn (pc := 54) dX3_priceOf_54 rfl rfl ?_
          refine e_getr (pc := 55) (k := 25) dX3_priceOf_55 fX3_15 s_40 rfl (by decide) ?_
          refine e_getr (pc := 58) (k := 29) dX3_priceOf_58 fX3_39 s_25 rfl (by decide) ?_
          refine e_iloadn (pc := 61) dX3_priceOf_61 rfl rfl ?_
          refine e_ialdv (pc := 62) (v := (whL mem (k : Int) o)) dX3_priceOf_62 s_29 (by omega) (zwh o ho) ?_
          refine e_iload (pc := 63) dX3_priceOf_63 rfl ?_
          obtain ⟨⟨a1, a2, a3, a4⟩, _, b5, b6, b7, _⟩ := rR zf3
          have zx3 : zm1 25 4 = (k : Int) := (zf2 25 4 rfl).trans zx1
          have zP := t_price_25 G zm1 o (whL mem (k : Int) o) (stL mem (k : Int)) ho (whL_bd hC hE (by omega) o ho) zvb (CoR zf3 hC) (EvR25 zf3 hE zx3 (by omega))
          rw [b5, b6, b7, a1] at zP
          refine e_callVr (pc := 65) (as := [(0, (o : Int)), (0, (whL mem (k : Int) o)), (0, stL mem (k : Int))]) (st := [(1, wtN (mem 8) (k : Int) 8), (1, sumTo (priS mem o) k)]) (zP) dX3_priceOf_65 lX3_priceOf_43 rfl s_25 cn_1 rfl rfl ?_
          refine e_i2l (pc := 68) dX3_priceOf_68 ?_
          refine e_lmuln (pc := 69) dX3_priceOf_69 (by have zz1 := zfk (by omega); unfold priS at zz1; omega) ?_
          refine e_laddn (pc := 70) dX3_priceOf_70 (by have zz1 := zfk (by omega); unfold priS at zz1; omega) ?_
          refine e_lstoren (pc := 71) (lo' := [(2, 40), (0, (o : Int)), (1, (sumTo (priS mem o) k) + ((wtN (mem 8) (k : Int) 8) * (priceV (mem 5) (mem 6) (mem 7) (mem 26 0) (mem 26 1) (mem 26 2) o (whL mem (k : Int) o) (stL mem (k : Int))))), (3, 0), (0, (k : Int)), (1, wtN (mem 8) (k : Int) 8), (3, 0), (0, stL mem (k : Int))]) dX3_priceOf_71 rfl rfl (by decide) rfl ?_
          refine e_iinc (pc := 72) (lo' := [(2, 40), (0, (o : Int)), (1, (sumTo (priS mem o) k) + ((wtN (mem 8) (k : Int) 8) * (priceV (mem 5) (mem 6) (mem 7) (mem 26 0) (mem 26 1) (mem 26 2) o (whL mem (k : Int) o) (stL mem (k : Int))))), (3, 0), (0, (k : Int) + 1), (1, wtN (mem 8) (k : Int) 8), (3, 0), (0, stL mem (k : Int))]) dX3_priceOf_72 rfl (by omega) rfl (by decide) rfl ?_
          refine e_goto (pc := 75) (tgt := 5) dX3_priceOf_75 rfl ?_
          refine Ev.fgt [5, 7] ?_
          exact Ev.to (ih5 _ (by omega) (k + 1) zm1 (rfl) (by omega) (zf3)) rfl rfl rfl
  exact Ev.to (L5 _ 0 mem (rfl) (by omega) (Fr.rf)) rfl rfl rfl
