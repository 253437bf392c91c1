theorem t_priceF (G : Gm) (mem zm0 : Mem) (o : Nat) (ho : o < 8) (hC : CoOk mem) (hE : EvOk25 mem) (hR : RuOk mem) (zf0 : Fr scR mem zm0) : Con G mX3_priceOf [(2, 40), (0, (o : Int))] zm0 (fun r m' => r = some (1, sumTo (priS mem o) 256) ∧ Fr scR mem m') := by
  refine Con.of (lo := [(2, 40), (0, (o : Int)), (3, 0), (3, 0), (3, 0), (3, 0), (3, 0), (3, 0)]) (by decide +kernel) (Nat.le_of_ble_eq_true rfl) rfl ?_
  generalize hQ_ : (fun r m' => r = some (1, sumTo (priS mem o) 256) ∧ Fr scR mem m' : Option AV → Mem → Prop) = Q_
  have zfb : ∀ j, j < 256 → -25937424601600 ≤ priS mem o j ∧ priS mem o j ≤ 25937424601600 := by
    intro j hj
    exact mulL (wt8_bd hC (j : Int)) (price_bd25 hC hE ho (whL_bd hC hE (by omega) o ho) stF_bd)
  refine e_lconst (pc := 0) (z := 0) dX3_priceOf_0 rfl (by decide) ?_
  refine e_lstoren (pc := 1) (lo' := [(2, 40), (0, (o : Int)), (1, 0), (3, 0), (3, 0), (3, 0), (3, 0), (3, 0)]) dX3_priceOf_1 rfl rfl (by decide) rfl ?_
  refine e_iconst (pc := 2) dX3_priceOf_2 (by decide) ?_
  refine e_istore (pc := 3) (lo' := [(2, 40), (0, (o : Int)), (1, 0), (3, 0), (0, 0), (3, 0), (3, 0), (3, 0)]) dX3_priceOf_3 rfl (by decide) rfl ?_
  have L5 : ∀ (n_ : Nat) (k : Nat) (zmv : Mem), 256 - k = n_ → (k ≤ 256) → (Fr scR mem zmv) → Ev G mX3_priceOf Q_ 5 [(2, 40), (0, (o : Int)), (1, sumTo (priS mem o) k), (3, 0), (0, (k : Int)), (3, 0), (3, 0), (3, 0)] [] zmv := by
    intro n_
    induction n_ using Nat.strongRecOn with
    | ind n_ ih5 =>
      intro k zmv hn_ zk zf
      have zsb := sumTo_bd (f := priS mem o) (a := -25937424601600) (b := 25937424601600) (n := k) (fun j hj => zfb j (by omega))
      have zfk := zfb k
      have zw8 := wt8_bd hC (k : Int)
      refine e_iload (pc := 5) dX3_priceOf_5 rfl ?_
      refine e_sipush (pc := 7) dX3_priceOf_7 rfl (by decide) ?_
      refine e_icmp_ge (pc := 10) (tgt := 78) dX3_priceOf_10 rfl (fun h10 => ?_) (fun h10 => ?_)
      · skip
        refine e_lloadn (pc := 78) dX3_priceOf_78 rfl rfl ?_
        exact e_lret (pc := 79) dX3_priceOf_79 rfl (by rw [← hQ_, show k = 256 by omega]; exact ⟨rfl, zf⟩)
      · skip
        refine e_aloadn (pc := 13) dX3_priceOf_13 rfl rfl ?_
        refine e_iload (pc := 14) dX3_priceOf_14 rfl ?_
        have zW := t_weight G zmv (k : Int) (by omega) (CoR zf hC)
        rw [(rR zf).2.2.2.2.2.1] at zW
        refine e_callVr (pc := 16) (as := [(0, (k : Int))]) (st := []) (zW) dX3_priceOf_16 lX3_priceOf_25 rfl s_40 cn_3 rfl rfl ?_
        refine e_lstore (pc := 19) (lo' := [(2, 40), (0, (o : Int)), (1, sumTo (priS mem o) k), (3, 0), (0, (k : Int)), (1, wtN (mem 8) (k : Int) 8), (3, 0), (3, 0)]) dX3_priceOf_19 rfl (by decide) rfl ?_
        refine e_lload (pc := 21) dX3_priceOf_21 rfl ?_
        refine e_lconst (pc := 23) (z := 0) dX3_priceOf_23 rfl (by decide) ?_
        refine e_lcmp (pc := 24) dX3_priceOf_24 ?_
        refine e_if_le (pc := 25) (tgt := 72) dX3_priceOf_25 rfl (fun h25 => ?_) (fun h25 => ?_)
        · skip
          refine e_iinc (pc := 72) (lo' := [(2, 40), (0, (o : Int)), (1, sumTo (priS mem o) k), (3, 0), (0, (k : Int) + 1), (1, wtN (mem 8) (k : Int) 8), (3, 0), (3, 0)]) dX3_priceOf_72 rfl (by omega) rfl (by decide) rfl ?_
          refine e_goto (pc := 75) (tgt := 5) dX3_priceOf_75 rfl ?_
          have zs9 : sumTo (priS mem o) (k + 1) = sumTo (priS mem o) k := by
            show sumTo (priS mem o) k + priS mem o k = _
            rw [show priS mem o k = 0 from by unfold priS; have z0 := lCmp_le.mp h25; rw [show wtN (mem 8) (k : Int) 8 = 0 by omega, Int.zero_mul], Int.add_zero]
          refine Ev.fgt [5] ?_
          exact Ev.to (ih5 _ (by omega) (k + 1) zmv (rfl) (by omega) (zf)) (by rw [zs9]; rfl) rfl rfl
        · skip
          refine e_aloadn (pc := 28) dX3_priceOf_28 rfl rfl ?_
          refine e_getr (pc := 29) (k := 25) dX3_priceOf_29 fX3_15 s_40 rfl (by decide) ?_
          refine e_iload (pc := 32) dX3_priceOf_32 rfl ?_
          refine e_putI (pc := 34) (mem2 := mset zmv 25 4 (k : Int)) dX3_priceOf_34 fX3_29 s_25 rfl (by decide) pw_1_4 rfl ?_
          refine e_aloadn (pc := 37) dX3_priceOf_37 rfl rfl ?_
          refine e_getr (pc := 38) (k := 25) dX3_priceOf_38 fX3_15 s_40 rfl (by decide) ?_
          have zf1 : Fr scR mem (mset zmv 25 4 (k : Int)) := zf.ms rfl
          have zx1 : (mset zmv 25 4 (k : Int)) 25 4 = (k : Int) := mset_eq _ _ _ _
          obtain ⟨zs1, zs2⟩ := stR zf1 zx1
          obtain ⟨_, zrr, _⟩ := rR zf1
          refine e_callV (pc := 41) (as := []) (st := []) (t_reckon_25 G (mset zmv 25 4 (k : Int)) (CoR zf1 hC) (EvR25 zf1 hE zx1 (by omega)) (RuOk.mv zrr.1 zrr.2.1 zrr.2.2.1 zrr.2.2.2.1 zrr.2.2.2.2 hR)) dX3_priceOf_41 lX3_priceOf_35 rfl s_25 cn_1 rfl rfl (fun r_ zm1 hq_ => ?_)
          rw [zs1, zs2] at hq_
          obtain ⟨zr_, zvb, zf2, zwh⟩ := hq_
          subst zr_
          have zf3 : Fr scR mem zm1 := zf1.tr (scGR zf2)
          refine Ev.to (st' := [(0, stL mem (k : Int))]) ?_ rfl rfl rfl
          refine e_istore (pc := 44) (lo' := [(2, 40), (0, (o : Int)), (1, sumTo (priS mem o) k), (3, 0), (0, (k : Int)), (1, wtN (mem 8) (k : Int) 8), (3, 0), (0, stL mem (k : Int))]) dX3_priceOf_44 rfl (by decide) rfl ?_
          refine e_lloadn (pc := 46) dX3_priceOf_46 rfl rfl ?_
          refine e_lload (pc := 47) dX3_priceOf_47 rfl ?_
          refine e_aloadn (pc := 49) dX3_priceOf_49 rfl rfl ?_
          refine e_getr (pc := 50) (k := 25) dX3_priceOf_50 fX3_15 s_40 rfl (by decide) ?_
          refine e_iloadn (pc := 53) dX3_priceOf_53 rfl rfl ?_
          refine e_aloadn (pc := 54) dX3_priceOf_54 rfl rfl ?_
          refine e_getr (pc := 55) (k := 25) dX3_priceOf_55 fX3_15 s_40 rfl (by decide) ?_
          refine e_getr (pc := 58) (k := 29) dX3_priceOf_58 fX3_39 s_25 rfl (by decide) ?_
          refine e_iloadn (pc := 61) dX3_priceOf_61 rfl rfl ?_
          refine e_ialdv (pc := 62) (v := (whL mem (k : Int) o)) dX3_priceOf_62 s_29 (by omega) (zwh o ho) ?_
          refine e_iload (pc := 63) dX3_priceOf_63 rfl ?_
          obtain ⟨⟨a1, a2, a3, a4⟩, _, b5, b6, b7, _⟩ := rR zf3
          have zx3 : zm1 25 4 = (k : Int) := (zf2 25 4 rfl).trans zx1
          have zP := t_price_25 G zm1 o (whL mem (k : Int) o) (stL mem (k : Int)) ho (whL_bd hC hE (by omega) o ho) zvb (CoR zf3 hC) (EvR25 zf3 hE zx3 (by omega))
          rw [b5, b6, b7, a1] at zP
          refine e_callVr (pc := 65) (as := [(0, (o : Int)), (0, (whL mem (k : Int) o)), (0, stL mem (k : Int))]) (st := [(1, wtN (mem 8) (k : Int) 8), (1, sumTo (priS mem o) k)]) (zP) dX3_priceOf_65 lX3_priceOf_43 rfl s_25 cn_1 rfl rfl ?_
          refine e_i2l (pc := 68) dX3_priceOf_68 ?_
          refine e_lmuln (pc := 69) dX3_priceOf_69 (by have zz1 := zfk (by omega); unfold priS at zz1; omega) ?_
          refine e_laddn (pc := 70) dX3_priceOf_70 (by have zz1 := zfk (by omega); unfold priS at zz1; omega) ?_
          refine e_lstoren (pc := 71) (lo' := [(2, 40), (0, (o : Int)), (1, (sumTo (priS mem o) k) + ((wtN (mem 8) (k : Int) 8) * (priceV (mem 5) (mem 6) (mem 7) (mem 26 0) (mem 26 1) (mem 26 2) o (whL mem (k : Int) o) (stL mem (k : Int))))), (3, 0), (0, (k : Int)), (1, wtN (mem 8) (k : Int) 8), (3, 0), (0, stL mem (k : Int))]) dX3_priceOf_71 rfl rfl (by decide) rfl ?_
          refine e_iinc (pc := 72) (lo' := [(2, 40), (0, (o : Int)), (1, (sumTo (priS mem o) k) + ((wtN (mem 8) (k : Int) 8) * (priceV (mem 5) (mem 6) (mem 7) (mem 26 0) (mem 26 1) (mem 26 2) o (whL mem (k : Int) o) (stL mem (k : Int))))), (3, 0), (0, (k : Int) + 1), (1, wtN (mem 8) (k : Int) 8), (3, 0), (0, stL mem (k : Int))]) dX3_priceOf_72 rfl (by omega) rfl (by decide) rfl ?_
          refine e_goto (pc := 75) (tgt := 5) dX3_priceOf_75 rfl ?_
          refine Ev.fgt [5, 7] ?_
          exact Ev.to (ih5 _ (by omega) (k + 1) zm1 (rfl) (by omega) (zf3)) rfl rfl rfl
  exact Ev.to (L5 _ 0 zm0 (rfl) (by omega) (zf0)) rfl rfl rfl

def IsLow (top wh v : Int) : Prop := ∃ (h : Nat) (a : Int), h ≤ 32 ∧ top = a * 2 ^ h ∧ (h = 32 ∨ ¬ a.tmod 2 = 0) ∧ v = if wh = 0 then a else ((2 ^ (32 - h) : Nat) : Int)
theorem low_lt {a1 a2 : Int} {h1 h2 : Nat} (hh : h1 < h2) (hl : h2 ≤ 32) (e : a1 * 2 ^ h1 = a2 * 2 ^ h2) (o1 : h1 = 32 ∨ ¬ a1.tmod 2 = 0) : False := by
  obtain ⟨d, rfl⟩ : ∃ d, h2 = h1 + (d + 1) := ⟨h2 - h1 - 1, by omega⟩
  rw [Int.pow_add, Int.mul_comm (2 ^ h1), ← Int.mul_assoc] at e
  have hp : (2 : Int) ^ h1 ≠ 0 := Int.ne_of_gt (Int.pow_pos (by decide))
  have e2 := Int.mul_eq_mul_right_iff hp |>.mp e
  rcases o1 with q | q
  · omega
  · apply q
    rw [e2, Int.pow_succ, ← Int.mul_assoc]
    exact Int.mul_tmod_left _ _
theorem IsLow.one {top wh v v' : Int} (h : IsLow top wh v) (h' : IsLow top wh v') : v = v' := by
  obtain ⟨h1, a1, l1, e1, o1, rfl⟩ := h
  obtain ⟨h2, a2, l2, e2, o2, rfl⟩ := h'
  have e : a1 * 2 ^ h1 = a2 * 2 ^ h2 := e1.symm.trans e2
  rcases Nat.lt_trichotomy h1 h2 with q | q | q
  · exact (low_lt q l2 e o1).elim
  · subst q
    have hp : (2 : Int) ^ h1 ≠ 0 := Int.ne_of_gt (Int.pow_pos (by decide))
    rw [Int.mul_eq_mul_right_iff hp |>.mp e]
  · exact (low_lt q l1 e.symm o2).elim
noncomputable def lowF (top wh : Int) : Int := Classical.epsilon (fun v => IsLow top wh v)
theorem lowF_eq {top wh v : Int} (h : IsLow top wh v) : lowF top wh = v := (Classical.epsilon_spec (p := fun v => IsLow top wh v) ⟨v, h⟩).one h
theorem t_lowB (G : Gm) (mem : Mem) (top wh : Int) (ho : okL top) : Con G mX3_lowest [(2, 40), (1, top), (0, wh)] mem (fun r m' => r = some (1, lowF top wh) ∧ m' = mem) := by
  refine (t_lowest3 G mem top wh ho).mono (fun r m' h => ?_)
  obtain ⟨h, a, h1, h2, h3, h4, h5⟩ := h
  refine ⟨?_, h5⟩
  rw [h4, lowF_eq ⟨h, a, h1, h2, h3, rfl⟩]
/-- the shares of ways of roads: in which it has begun by a minute; what one pays -/
noncomputable def bgS (A : Mem) (minute : Int) (w : Nat) : Int := if stT A (A 17) (A 18) (A 19) (w : Int) 0 ≤ minute then wtN (A 8) (w : Int) 8 else 0
noncomputable def prS (A : Mem) (am : Nat → Int) (o w : Nat) : Int := wtN (A 8) (w : Int) 8 * priceV (A 5) (A 6) (A 7) (A 17 0) (A 17 1) (A 17 2) o (whT A (A 17) (A 18) am (w : Int) 0 o) (stT A (A 17) (A 18) am (w : Int) 0)
theorem bgS_bd {A : Mem} (hC : CoOk A) (minute : Int) : 0 ≤ sumTo (bgS A minute) 256 ∧ sumTo (bgS A minute) 256 ≤ 1099511627776 := by
  have h := sumTo_bd (f := bgS A minute) (a := 0) (b := 4294967296) (n := 256) (fun j hj => by
    have := wt8_bd hC (j : Int)
    unfold bgS
    split <;> omega)
  omega
theorem prS_bd {A : Mem} {am : Nat → Int} {o : Nat} (hI : CI A) (ha : ∀ c, c < 8 → 0 ≤ am c ∧ am c ≤ 60) (ho : o < 8) : -6639980699000000 ≤ sumTo (prS A am o) 256 ∧ sumTo (prS A am o) 256 ≤ 6639980699000000 := by
  have h := sumTo_bd (f := prS A am o) (a := -25937424601600) (b := 25937424601600) (n := 256) (fun j hj => by
    refine mulL (wt8_bd hI.1 (j : Int)) (priceV_bd hI.1 hI.2.1.1.2.1 hI.2.1.1.2.2.1 ho (whT_bd hI.1 ⟨⟨hI.2.1.1.1, hI.2.1.1.2.1, hI.2.1.1.2.2.1, by omega, by omega⟩, fun c hc => ⟨(hI.2.1.2 c hc).1, ha c hc, (hI.2.1.2 c hc).2.2⟩⟩ o ho) (stT_bd A (A 17) (A 18) am (j : Int) 0)))
  omega
section RDS
variable {A zm : Mem} {tm kd am : Nat → Int}
theorem begS_T (hT : TS A (A 17) (A 18) zm) (h28 : EP (A 18) (A 19) (zm 28)) (minute : Int) : begS zm minute = bgS A minute := by
  funext w
  unfold begS bgS
  have e : stL zm (w : Int) = stT A (A 17) (A 18) (A 19) (w : Int) 0 := by
    rw [← stT_cg (late := (w : Int)) (aw := 0) hT.se hT.2.1.1 hT.2.2.1 h28]
    unfold stL stT
    rw [hT.2.2.2.1.2]
  rw [e, hT.se.2.2.2.2.1]
theorem priS_T (hS : SE A zm) (h26 : E3 (A 17) (zm 26)) (h27 : E8 (A 18) (zm 27)) (h5 : zm 25 5 = 0) (h28 : EP (A 18) am (zm 28)) (o : Nat) : priS zm o = prS A am o := by
  funext w
  unfold priS prS
  have e : stL zm (w : Int) = stT A (A 17) (A 18) am (w : Int) 0 := by
    rw [← stT_cg (late := (w : Int)) (aw := 0) hS h26.1 h27 h28]
    unfold stL stT
    rw [h5]
  have e2 : whL zm (w : Int) = whT A (A 17) (A 18) am (w : Int) 0 := by
    rw [← whT_cg (late := (w : Int)) (aw := 0) hS h26.1 h27 h28]
    unfold whL whT
    rw [h5]
  rw [e, e2, hS.2.2.2.2.1, hS.2.1, hS.2.2.1, hS.2.2.2.1, ← h26.1, ← h26.2.1, ← h26.2.2]
end RDS
theorem t_begB (G : Gm) (A zm : Mem) (minute : Int) (hI : CI A) (hT : TS A (A 17) (A 18) zm) (h28 : EP (A 18) (A 19) (zm 28)) : Con G mX3_begunBy [(2, 40), (0, minute)] zm (fun r m' => r = some (1, sumTo (bgS A minute) 256) ∧ Fr scQ A m') := by
  refine (t_begunBy G zm minute (hT.se.co hI.1) hT.2.2.2.2 (hT.se.ru hI.ru)).mono (fun r m' h => ?_)
  rw [begS_T hT h28] at h
  exact ⟨h.1, hT.1.tr (scRQ h.2)⟩
theorem t_priB (G : Gm) (A zm : Mem) (o : Nat) (ho : o < 8) (hI : CI A) (hT : TS A (A 17) (A 18) zm) (h28 : EP (A 18) (A 19) (zm 28)) : Con G mX3_priceOf [(2, 40), (0, (o : Int))] zm (fun r m' => r = some (1, sumTo (prS A (A 19) o) 256) ∧ Fr scQ A m') := by
  refine (t_priceOf G zm o ho (hT.se.co hI.1) hT.2.2.2.2 (hT.se.ru hI.ru)).mono (fun r m' h => ?_)
  rw [priS_T hT.se hT.2.1 hT.2.2.1 hT.2.2.2.1.2 h28] at h
  exact ⟨h.1, hT.1.tr (scRQ h.2)⟩
noncomputable def an_odds (A : Mem) (minute wh : Int) : Int := if (0 ≤ minute ∧ minute < 60) ∧ (wh = 0 ∨ wh = 1) then lowF (sumTo (bgS A minute) 256) wh else -9223372036854775806
noncomputable def an_mean (A : Mem) (comer wh : Int) : Int := if (0 ≤ comer ∧ comer < 8 ∧ A 18 comer.toNat ≠ -1) ∧ (wh = 0 ∨ wh = 1) then lowF (sumTo (prS A (A 19) comer.toNat) 256) wh else -9223372036854775806
def srS (f : Nat → Int) : Nat → Int × Int
  | 0 => (0, 9223372036854775807)
  | k + 1 => if f k < (srS f k).2 then ((k : Int), f k) else srS f k
theorem srS_t {f : Nat → Int} {k : Nat} (h : f k < (srS f k).2) : srS f (k + 1) = ((k : Int), f k) := by
  show (if f k < (srS f k).2 then ((k : Int), f k) else srS f k) = _
  rw [if_pos h]
theorem srS_f {f : Nat → Int} {k : Nat} (h : ¬ f k < (srS f k).2) : srS f (k + 1) = srS f k := by
  show (if f k < (srS f k).2 then ((k : Int), f k) else srS f k) = _
  rw [if_neg h]
noncomputable def srF (A : Mem) (o k : Nat) : Int := sumTo (prS A (uset (A 19) o (k : Int)) o) 256
noncomputable def an_sure (A : Mem) (comer : Int) : Int := if 0 ≤ comer ∧ comer < 8 ∧ A 18 comer.toNat = 0 then (srS (srF A comer.toNat) 61).1 else -2
theorem lCmp_ge {a b : Int} : 0 ≤ lCmp a b ↔ b ≤ a := by
  unfold lCmp
  by_cases h : a > b
  · simp [h]; omega
  · by_cases h2 : a = b
    · simp [h2]
    · simp [h, h2]; omega
theorem scR_sw {zmB zmv : Mem} {cn : Nat} {a b : Int} (h : Fr scR (mset zmB 28 cn a) zmv) : Fr scR (mset zmB 28 cn b) (mset zmv 28 cn b) := by
  intro c j q
  by_cases e : c = 28
  · subst e
    rw [mset_row, mset_row]
    by_cases e2 : j = cn
    · subst e2; rw [uset_eq, uset_eq]
    · rw [uset_ne _ _ e2, uset_ne _ _ e2, h 28 j q, mset_row, uset_ne _ _ e2]
  · rw [mset_nc _ _ _ _ e, mset_nc _ _ _ _ e, h c j q, mset_nc _ _ _ _ e]
theorem t_srB (G : Gm) (A zmB zmv : Mem) (o k : Nat) (a : Int) (ho : o < 8) (hk : k ≤ 60) (hI : CI A) (hT : TS A (A 17) (A 18) zmB) (h28 : E8 (A 19) (zmB 28)) (hf : Fr scR (mset zmB 28 o a) zmv) : Con G mX3_priceOf [(2, 40), (0, (o : Int))] (mset zmv 28 o (k : Int)) (fun r m' => r = some (1, srF A o k) ∧ Fr scR (mset zmB 28 o (k : Int)) m') := by
  have hS : SE A (mset zmB 28 o (k : Int)) := hT.se.tr (SE.of (S := fun c j => c == 28) ((Fr.rf).ms rfl) (fun c j h => by simp; omega))
  have hE : EvOk25 (mset zmB 28 o (k : Int)) := by
    have h5 := hT.2.2.2.2
    show EvR (zmB 26) (zmB 27) (mset zmB 28 o (k : Int) 28) (zmB 25 4) (zmB 25 5) (zmB 2) (zmB 3)
    rw [mset_row]
    refine ⟨h5.1, fun c hc => ?_⟩
    have := h5.2 c hc
    refine ⟨this.1, ?_, this.2.2⟩
    unfold uset
    split
    · omega
    · exact this.2.1
  refine (t_priceF G (mset zmB 28 o (k : Int)) (mset zmv 28 o (k : Int)) o ho (hS.co hI.1) hE (hS.ru hI.ru) (scR_sw hf)).mono (fun r m' h => ?_)
  rw [priS_T (A := A) (am := uset (A 19) o (k : Int)) hS hT.2.1 hT.2.2.1 hT.2.2.2.1.2 (by rw [mset_row]; exact (h28.us o _).ep)] at h
  exact h

theorem c_odds (G : Gm) (mem : Mem) (minute wh : Int) (hI : CI mem) : Con G mX7_odds [(2, 0), (0, minute), (0, wh)] mem (fun r m' => r = some (1, an_odds mem minute wh) ∧ Fr scQ mem m') := by
  refine Con.of (lo := [(2, 0), (0, minute), (0, wh)]) (by decide +kernel) (Nat.le_of_ble_eq_true rfl) rfl ?_
  generalize hQ_ : (fun r m' => r = some (1, an_odds mem minute wh) ∧ Fr scQ mem m' : Option AV → Mem → Prop) = Q_
  refine e_iloadn (pc := 0) dX7_odds_0 rfl rfl ?_
  refine e_if_lt (pc := 1) (tgt := 19) dX7_odds_1 rfl (fun h1 => ?_) (fun h1 => ?_)
  · skip
    refine e_ldc2 (pc := 19) (z := (-9223372036854775806)) dX7_odds_19 kX7_221 (by decide) ?_
    have zan : an_odds mem minute wh = -9223372036854775806 := by unfold an_odds; first | rw [if_pos (by omega)] | rw [if_neg (by omega)]
    exact e_lret (pc := 22) dX7_odds_22 rfl (by rw [← hQ_]; exact ⟨by rw [zan], Fr.rf⟩)
  · skip
    refine e_iloadn (pc := 4) dX7_odds_4 rfl rfl ?_
    refine e_bipush (pc := 5) dX7_odds_5 rfl (by decide) ?_
    refine e_icmp_ge (pc := 7) (tgt := 19) dX7_odds_7 rfl (fun h7 => ?_) (fun h7 => ?_)
    · skip
      refine e_ldc2 (pc := 19) (z := (-9223372036854775806)) dX7_odds_19 kX7_221 (by decide) ?_
      have zan : an_odds mem minute wh = -9223372036854775806 := by unfold an_odds; first | rw [if_pos (by omega)] | rw [if_neg (by omega)]
      exact e_lret (pc := 22) dX7_odds_22 rfl (by rw [← hQ_]; exact ⟨by rw [zan], Fr.rf⟩)
    · skip
      refine e_iloadn (pc := 10) dX7_odds_10 rfl rfl ?_
      refine e_if_eq (pc := 11) (tgt := 23) dX7_odds_11 rfl (fun h11 => ?_) (fun h11 => ?_)
      · skip
        refine e_aloadn (pc := 23) dX7_odds_23 rfl rfl ?_
        refine e_getr (pc := 24) (k := 25) dX7_odds_24 fX7_32 s_0 rfl (by decide) ?_
        refine e_aloadn (pc := 27) dX7_odds_27 rfl rfl ?_
        refine e_getr (pc := 28) (k := 16) dX7_odds_28 fX7_28 s_0 rfl (by decide) ?_
        refine e_callV (pc := 31) (as := [(2, 16)]) (st := []) (t_becomes G mem) dX7_odds_31 lX7_odds_163 rfl s_25 cn_1 rfl rfl (fun r_ zm1 hq_ => ?_)
        obtain ⟨zr_, zB⟩ := hq_
        subst zr_
        obtain ⟨zT0, z28⟩ := tsQ hI Fr.rf zB
        refine Ev.to (st' := []) ?_ rfl rfl rfl
        refine e_aloadn (pc := 34) dX7_odds_34 rfl rfl ?_
        refine e_getr (pc := 35) (k := 40) dX7_odds_35 fX7_56 s_0 rfl (by decide) ?_
        refine e_aloadn (pc := 38) dX7_odds_38 rfl rfl ?_
        refine e_getr (pc := 39) (k := 40) dX7_odds_39 fX7_56 s_0 rfl (by decide) ?_
        refine e_iloadn (pc := 42) dX7_odds_42 rfl rfl ?_
        refine e_callV (pc := 43) (as := [(0, minute)]) (st := [(2, 40)]) (t_begB G mem zm1 minute hI zT0 z28.ep) dX7_odds_43 lX7_odds_223 rfl s_40 cn_3 rfl rfl (fun r_ zm2 hq_ => ?_)
        obtain ⟨zr_, zf⟩ := hq_
        subst zr_
        have zbd := bgS_bd hI.1 minute
        refine Ev.to (st' := [(1, sumTo (bgS mem minute) 256), (2, 40)]) ?_ rfl rfl rfl
        refine e_iloadn (pc := 46) dX7_odds_46 rfl rfl ?_
        refine e_callVr (pc := 47) (as := [(1, sumTo (bgS mem minute) 256), (0, wh)]) (st := []) (t_lowB G zm2 (sumTo (bgS mem minute) 256) wh (by constructor <;> omega)) dX7_odds_47 lX7_odds_227 rfl s_40 cn_3 rfl rfl ?_
        have zan : an_odds mem minute wh = lowF (sumTo (bgS mem minute) 256) wh := by unfold an_odds; first | rw [if_pos (by omega)] | rw [if_neg (by omega)]
        exact e_lret (pc := 50) dX7_odds_50 rfl (by rw [← hQ_]; exact ⟨by rw [zan], zf⟩)
      · skip
        refine e_iloadn (pc := 14) dX7_odds_14 rfl rfl ?_
        refine e_iconst (pc := 15) dX7_odds_15 (by decide) ?_
        refine e_icmp_eq (pc := 16) (tgt := 23) dX7_odds_16 rfl (fun h16 => ?_) (fun h16 => ?_)
        · skip
          refine e_aloadn (pc := 23) dX7_odds_23 rfl rfl ?_
          refine e_getr (pc := 24) (k := 25) dX7_odds_24 fX7_32 s_0 rfl (by decide) ?_
          refine e_aloadn (pc := 27) dX7_odds_27 rfl rfl ?_
          refine e_getr (pc := 28) (k := 16) dX7_odds_28 fX7_28 s_0 rfl (by decide) ?_
          refine e_callV (pc := 31) (as := [(2, 16)]) (st := []) (t_becomes G mem) dX7_odds_31 lX7_odds_163 rfl s_25 cn_1 rfl rfl (fun r_ zm1 hq_ => ?_)
          obtain ⟨zr_, zB⟩ := hq_
          subst zr_
          obtain ⟨zT0, z28⟩ := tsQ hI Fr.rf zB
          refine Ev.to (st' := []) ?_ rfl rfl rfl
          refine e_aloadn (pc := 34) dX7_odds_34 rfl rfl ?_
          refine e_getr (pc := 35) (k := 40) dX7_odds_35 fX7_56 s_0 rfl (by decide) ?_
          refine e_aloadn (pc := 38) dX7_odds_38 rfl rfl ?_
          refine e_getr (pc := 39) (k := 40) dX7_odds_39 fX7_56 s_0 rfl (by decide) ?_
          refine e_iloadn (pc := 42) dX7_odds_42 rfl rfl ?_
          refine e_callV (pc := 43) (as := [(0, minute)]) (st := [(2, 40)]) (t_begB G mem zm1 minute hI zT0 z28.ep) dX7_odds_43 lX7_odds_223 rfl s_40 cn_3 rfl rfl (fun r_ zm2 hq_ => ?_)
          obtain ⟨zr_, zf⟩ := hq_
          subst zr_
          have zbd := bgS_bd hI.1 minute
          refine Ev.to (st' := [(1, sumTo (bgS mem minute) 256), (2, 40)]) ?_ rfl rfl rfl
          refine e_iloadn (pc := 46) dX7_odds_46 rfl rfl ?_
          refine e_callVr (pc := 47) (as := [(1, sumTo (bgS mem minute) 256), (0, wh)]) (st := []) (t_lowB G zm2 (sumTo (bgS mem minute) 256) wh (by constructor <;> omega)) dX7_odds_47 lX7_odds_227 rfl s_40 cn_3 rfl rfl ?_
          have zan : an_odds mem minute wh = lowF (sumTo (bgS mem minute) 256) wh := by unfold an_odds; first | rw [if_pos (by omega)] | rw [if_neg (by omega)]
          exact e_lret (pc := 50) dX7_odds_50 rfl (by rw [← hQ_]; exact ⟨by rw [zan], zf⟩)
        · skip
          refine e_ldc2 (pc := 19) (z := (-9223372036854775806)) dX7_odds_19 kX7_221 (by decide) ?_
          have zan : an_odds mem minute wh = -9223372036854775806 := by unfold an_odds; first | rw [if_pos (by omega)] | rw [if_neg (by omega)]
          exact e_lret (pc := 22) dX7_odds_22 rfl (by rw [← hQ_]; exact ⟨by rw [zan], Fr.rf⟩)

theorem c_mean (G : Gm) (mem : Mem) (comer wh : Int) (hI : CI mem) : Con G mX7_mean [(2, 0), (0, comer), (0, wh)] mem (fun r m' => r = some (1, an_mean mem comer wh) ∧ Fr scQ mem m') := by
  refine Con.of (lo := [(2, 0), (0, comer), (0, wh)]) (by decide +kernel) (Nat.le_of_ble_eq_true rfl) rfl ?_
  generalize hQ_ : (fun r m' => r = some (1, an_mean mem comer wh) ∧ Fr scQ mem m' : Option AV → Mem → Prop) = Q_
  refine e_aloadn (pc := 0) dX7_mean_0 rfl rfl ?_
  refine e_iloadn (pc := 1) dX7_mean_1 rfl rfl ?_
  refine e_callVr (pc := 2) (as := [(0, comer)]) (st := []) (v := (0, if 0 ≤ comer ∧ comer < 8 ∧ mem 18 comer.toNat ≠ -1 then 1 else 0)) (t_isComer G mem comer) dX7_mean_2 lX7_mean_112 rfl s_0 cn_7 rfl rfl ?_
  by_cases zc : 0 ≤ comer ∧ comer < 8 ∧ mem 18 comer.toNat ≠ -1
  · rw [if_pos zc]
    obtain ⟨cn, rfl⟩ : ∃ cn : Nat, comer = (cn : Int) := ⟨comer.toNat, by omega⟩
    have zcn : cn < 8 := by omega
    refine e_if_eq (pc := 5) (tgt := 17) dX7_mean_5 rfl (fun h5 => ?_) (fun h5 => ?_)
    · skip
      exact absurd h5 (by decide)
    · skip
      refine e_iloadn (pc := 8) dX7_mean_8 rfl rfl ?_
      refine e_if_eq (pc := 9) (tgt := 21) dX7_mean_9 rfl (fun h9 => ?_) (fun h9 => ?_)
      · skip
        refine e_aloadn (pc := 21) dX7_mean_21 rfl rfl ?_
        refine e_getr (pc := 22) (k := 25) dX7_mean_22 fX7_32 s_0 rfl (by decide) ?_
        refine e_aloadn (pc := 25) dX7_mean_25 rfl rfl ?_
        refine e_getr (pc := 26) (k := 16) dX7_mean_26 fX7_28 s_0 rfl (by decide) ?_
        refine e_callV (pc := 29) (as := [(2, 16)]) (st := []) (t_becomes G mem) dX7_mean_29 lX7_mean_163 rfl s_25 cn_1 rfl rfl (fun r_ zm1 hq_ => ?_)
        obtain ⟨zr_, zB⟩ := hq_
        subst zr_
        obtain ⟨zT0, z28⟩ := tsQ hI Fr.rf zB
        refine Ev.to (st' := []) ?_ rfl rfl rfl
        refine e_aloadn (pc := 32) dX7_mean_32 rfl rfl ?_
        refine e_getr (pc := 33) (k := 40) dX7_mean_33 fX7_56 s_0 rfl (by decide) ?_
        refine e_aloadn (pc := 36) dX7_mean_36 rfl rfl ?_
        refine e_getr (pc := 37) (k := 40) dX7_mean_37 fX7_56 s_0 rfl (by decide) ?_
        refine e_iloadn (pc := 40) dX7_mean_40 rfl rfl ?_
        refine e_callV (pc := 41) (as := [(0, (cn : Int))]) (st := [(2, 40)]) (t_priB G mem zm1 cn zcn hI zT0 z28.ep) dX7_mean_41 lX7_mean_231 rfl s_40 cn_3 rfl rfl (fun r_ zm2 hq_ => ?_)
        obtain ⟨zr_, zf⟩ := hq_
        subst zr_
        have zbd := prS_bd hI (fun c hc => (hI.2.1.2 c hc).2.1) zcn
        refine Ev.to (st' := [(1, sumTo (prS mem (mem 19) cn) 256), (2, 40)]) ?_ rfl rfl rfl
        refine e_iloadn (pc := 44) dX7_mean_44 rfl rfl ?_
        refine e_callVr (pc := 45) (as := [(1, sumTo (prS mem (mem 19) cn) 256), (0, wh)]) (st := []) (t_lowB G zm2 (sumTo (prS mem (mem 19) cn) 256) wh (by constructor <;> omega)) dX7_mean_45 lX7_mean_227 rfl s_40 cn_3 rfl rfl ?_
        have zan : an_mean mem (cn : Int) wh = lowF (sumTo (prS mem (mem 19) cn) 256) wh := by unfold an_mean; rw [if_pos ⟨zc, by omega⟩]; rfl
        exact e_lret (pc := 48) dX7_mean_48 rfl (by rw [← hQ_]; exact ⟨by rw [zan], zf⟩)
      · skip
        refine e_iloadn (pc := 12) dX7_mean_12 rfl rfl ?_
        refine e_iconst (pc := 13) dX7_mean_13 (by decide) ?_
        refine e_icmp_eq (pc := 14) (tgt := 21) dX7_mean_14 rfl (fun h14 => ?_) (fun h14 => ?_)
        · skip
          refine e_aloadn (pc := 21) dX7_mean_21 rfl rfl ?_
          refine e_getr (pc := 22) (k := 25) dX7_mean_22 fX7_32 s_0 rfl (by decide) ?_
          refine e_aloadn (pc := 25) dX7_mean_25 rfl rfl ?_
          refine e_getr (pc := 26) (k := 16) dX7_mean_26 fX7_28 s_0 rfl (by decide) ?_
          refine e_callV (pc := 29) (as := [(2, 16)]) (st := []) (t_becomes G mem) dX7_mean_29 lX7_mean_163 rfl s_25 cn_1 rfl rfl (fun r_ zm1 hq_ => ?_)
          obtain ⟨zr_, zB⟩ := hq_
          subst zr_
          obtain ⟨zT0, z28⟩ := tsQ hI Fr.rf zB
          refine Ev.to (st' := []) ?_ rfl rfl rfl
          refine e_aloadn (pc := 32) dX7_mean_32 rfl rfl ?_
          refine e_getr (pc := 33) (k := 40) dX7_mean_33 fX7_56 s_0 rfl (by decide) ?_
          refine e_aloadn (pc := 36) dX7_mean_36 rfl rfl ?_
          refine e_getr (pc := 37) (k := 40) dX7_mean_37 fX7_56 s_0 rfl (by decide) ?_
          refine e_iloadn (pc := 40) dX7_mean_40 rfl rfl ?_
          refine e_callV (pc := 41) (as := [(0, (cn : Int))]) (st := [(2, 40)]) (t_priB G mem zm1 cn zcn hI zT0 z28.ep) dX7_mean_41 lX7_mean_231 rfl s_40 cn_3 rfl rfl (fun r_ zm2 hq_ => ?_)
          obtain ⟨zr_, zf⟩ := hq_
          subst zr_
          have zbd := prS_bd hI (fun c hc => (hI.2.1.2 c hc).2.1) zcn
          refine Ev.to (st' := [(1, sumTo (prS mem (mem 19) cn) 256), (2, 40)]) ?_ rfl rfl rfl
          refine e_iloadn (pc := 44) dX7_mean_44 rfl rfl ?_
          refine e_callVr (pc := 45) (as := [(1, sumTo (prS mem (mem 19) cn) 256), (0, wh)]) (st := []) (t_lowB G zm2 (sumTo (prS mem (mem 19) cn) 256) wh (by constructor <;> omega)) dX7_mean_45 lX7_mean_227 rfl s_40 cn_3 rfl rfl ?_
          have zan : an_mean mem (cn : Int) wh = lowF (sumTo (prS mem (mem 19) cn) 256) wh := by unfold an_mean; rw [if_pos ⟨zc, by omega⟩]; rfl
          exact e_lret (pc := 48) dX7_mean_48 rfl (by rw [← hQ_]; exact ⟨by rw [zan], zf⟩)
        · skip
          refine e_ldc2 (pc := 17) (z := (-9223372036854775806)) dX7_mean_17 kX7_221 (by decide) ?_
          have zan : an_mean mem (cn : Int) wh = -9223372036854775806 := by unfold an_mean; rw [if_neg (fun q => by have := q.2; omega)]
          exact e_lret (pc := 20) dX7_mean_20 rfl (by rw [← hQ_]; exact ⟨by rw [zan], Fr.rf⟩)
  · rw [if_neg zc]
    refine e_if_eq (pc := 5) (tgt := 17) dX7_mean_5 rfl (fun h5 => ?_) (fun h5 => ?_)
    · skip
      refine e_ldc2 (pc := 17) (z := (-9223372036854775806)) dX7_mean_17 kX7_221 (by decide) ?_
      have zan : an_mean mem comer wh = -9223372036854775806 := by unfold an_mean; rw [if_neg (fun q => zc q.1)]
      exact e_lret (pc := 20) dX7_mean_20 rfl (by rw [← hQ_]; exact ⟨by rw [zan], Fr.rf⟩)
    · skip
      exact absurd h5 (by decide)

theorem c_sure (G : Gm) (mem : Mem) (comer : Int) (hI : CI mem) : Con G mX7_sure [(2, 0), (0, comer)] mem (fun r m' => r = some (0, an_sure mem comer) ∧ Fr scQ mem m') := by
  refine Con.of (lo := [(2, 0), (0, comer), (3, 0), (3, 0), (3, 0), (3, 0), (3, 0), (3, 0)]) (by decide +kernel) (Nat.le_of_ble_eq_true rfl) rfl ?_
  generalize hQ_ : (fun r m' => r = some (0, an_sure mem comer) ∧ Fr scQ mem m' : Option AV → Mem → Prop) = Q_
  refine e_aloadn (pc := 0) dX7_sure_0 rfl rfl ?_
  refine e_iloadn (pc := 1) dX7_sure_1 rfl rfl ?_
  refine e_callVr (pc := 2) (as := [(0, comer)]) (st := []) (v := (0, if 0 ≤ comer ∧ comer < 8 ∧ mem 18 comer.toNat = 0 then 1 else 0)) (t_isPlain G mem comer) dX7_sure_2 lX7_sure_88 rfl s_0 cn_7 rfl rfl ?_
  by_cases zc : 0 ≤ comer ∧ comer < 8 ∧ mem 18 comer.toNat = 0
  · rw [if_pos zc]
    obtain ⟨cn, rfl⟩ : ∃ cn : Nat, comer = (cn : Int) := ⟨comer.toNat, by omega⟩
    have zcn : cn < 8 := by omega
    refine e_if_ne (pc := 5) (tgt := 11) dX7_sure_5 rfl (fun h5 => ?_) (fun h5 => ?_)
    · skip
      refine e_aloadn (pc := 11) dX7_sure_11 rfl rfl ?_
      refine e_getr (pc := 12) (k := 25) dX7_sure_12 fX7_32 s_0 rfl (by decide) ?_
      refine e_aloadn (pc := 15) dX7_sure_15 rfl rfl ?_
      refine e_getr (pc := 16) (k := 16) dX7_sure_16 fX7_28 s_0 rfl (by decide) ?_
      refine e_callV (pc := 19) (as := [(2, 16)]) (st := []) (t_becomes G mem) dX7_sure_19 lX7_sure_163 rfl s_25 cn_1 rfl rfl (fun r_ zm1 hq_ => ?_)
      obtain ⟨zr_, zB⟩ := hq_
      subst zr_
      obtain ⟨zT0, z28⟩ := tsQ hI Fr.rf zB
      refine Ev.to (st' := []) ?_ rfl rfl rfl
      refine e_iconst (pc := 22) dX7_sure_22 (by decide) ?_
      refine e_istoren (pc := 23) (lo' := [(2, 0), (0, (cn : Int)), (0, 0), (3, 0), (3, 0), (3, 0), (3, 0), (3, 0)]) dX7_sure_23 rfl rfl (by decide) rfl ?_
      refine e_ldc2 (pc := 24) (z := 9223372036854775807) dX7_sure_24 kX7_234 (by decide) ?_
      refine e_lstoren (pc := 27) (lo' := [(2, 0), (0, (cn : Int)), (0, 0), (1, 9223372036854775807), (3, 0), (3, 0), (3, 0), (3, 0)]) dX7_sure_27 rfl rfl (by decide) rfl ?_
      refine e_iconst (pc := 28) dX7_sure_28 (by decide) ?_
      refine e_istore (pc := 29) (lo' := [(2, 0), (0, (cn : Int)), (0, 0), (1, 9223372036854775807), (3, 0), (0, 0), (3, 0), (3, 0)]) dX7_sure_29 rfl (by decide) rfl ?_
      have L31 : ∀ (n_ : Nat) (k : Nat) (za : Int) (zmv : Mem), 61 - k = n_ → (k ≤ 61) → (Fr scR (mset zm1 28 cn za) zmv) → Ev G mX7_sure Q_ 31 [(2, 0), (0, (cn : Int)), (0, (srS (srF mem cn) k).1), (1, (srS (srF mem cn) k).2), (3, 0), (0, (k : Int)), (3, 0), (3, 0)] [] zmv := by
        intro n_
        induction n_ using Nat.strongRecOn with
        | ind n_ ih31 =>
          intro k za zmv hn_ zk zf
          refine e_iload (pc := 31) dX7_sure_31 rfl ?_
          refine e_bipush (pc := 33) dX7_sure_33 rfl (by decide) ?_
          refine e_icmp_gt (pc := 35) (tgt := 78) dX7_sure_35 rfl (fun h35 => ?_) (fun h35 => ?_)
          · skip
            refine e_iloadn (pc := 78) dX7_sure_78 rfl rfl ?_
            have zke : k = 61 := by omega
            subst zke
            have zan : an_sure mem (cn : Int) = (srS (srF mem cn) 61).1 := by unfold an_sure; rw [if_pos zc]; rfl
            have zfin : Fr scQ mem zmv := (zT0.1.ms (by rfl)).tr (scRQ zf)
            exact e_iret (pc := 79) dX7_sure_79 rfl (by rw [← hQ_]; exact ⟨by rw [zan], zfin⟩)
          · skip
            refine e_aloadn (pc := 38) dX7_sure_38 rfl rfl ?_
            refine e_getr (pc := 39) (k := 25) dX7_sure_39 fX7_32 s_0 rfl (by decide) ?_
            refine e_getr (pc := 42) (k := 28) dX7_sure_42 fX7_85 s_25 rfl (by decide) ?_
            refine e_iloadn (pc := 45) dX7_sure_45 rfl rfl ?_
            refine e_iload (pc := 46) dX7_sure_46 rfl ?_
            refine e_iastm (pc := 48) (mem2 := mset zmv 28 cn (k : Int)) dX7_sure_48 s_28 (by omega) rfl ?_
            refine e_aloadn (pc := 49) dX7_sure_49 rfl rfl ?_
            refine e_getr (pc := 50) (k := 40) dX7_sure_50 fX7_56 s_0 rfl (by decide) ?_
            refine e_iloadn (pc := 53) dX7_sure_53 rfl rfl ?_
            refine e_callV (pc := 54) (as := [(0, (cn : Int))]) (st := []) (t_srB G mem zm1 zmv cn k za zcn (by omega) hI zT0 z28 zf) dX7_sure_54 lX7_sure_231 rfl s_40 cn_3 rfl rfl (fun r_ zm2 hq_ => ?_)
            obtain ⟨zr_, zf2⟩ := hq_
            subst zr_
            refine Ev.to (st' := [(1, srF mem cn k)]) ?_ rfl rfl rfl
            refine e_lstore (pc := 57) (lo' := [(2, 0), (0, (cn : Int)), (0, (srS (srF mem cn) k).1), (1, (srS (srF mem cn) k).2), (3, 0), (0, (k : Int)), (1, srF mem cn k), (3, 0)]) dX7_sure_57 rfl (by decide) rfl ?_
            refine e_lload (pc := 59) dX7_sure_59 rfl ?_
            refine e_lloadn (pc := 61) dX7_sure_61 rfl rfl ?_
            refine e_lcmp (pc := 62) dX7_sure_62 ?_
            refine e_if_ge (pc := 63) (tgt := 72) dX7_sure_63 rfl (fun h63 => ?_) (fun h63 => ?_)
            · skip
              refine e_iinc (pc := 72) (lo' := [(2, 0), (0, (cn : Int)), (0, (srS (srF mem cn) k).1), (1, (srS (srF mem cn) k).2), (3, 0), (0, (k : Int) + 1), (1, srF mem cn k), (3, 0)]) dX7_sure_72 rfl (by omega) rfl (by decide) rfl ?_
              refine e_goto (pc := 75) (tgt := 31) dX7_sure_75 rfl ?_
              have zcm := lCmp_ge (a := srF mem cn k) (b := (srS (srF mem cn) k).2)
              refine Ev.fgt [6] ?_
              exact Ev.to (ih31 _ (by omega) (k + 1) (k : Int) zm2 (rfl) (by omega) (zf2)) (by rw [srS_f (by omega)]; rfl) rfl rfl
            · skip
              refine e_lload (pc := 66) dX7_sure_66 rfl ?_
              refine e_lstoren (pc := 68) (lo' := [(2, 0), (0, (cn : Int)), (0, (srS (srF mem cn) k).1), (1, srF mem cn k), (3, 0), (0, (k : Int)), (1, srF mem cn k), (3, 0)]) dX7_sure_68 rfl rfl (by decide) rfl ?_
              refine e_iload (pc := 69) dX7_sure_69 rfl ?_
              refine e_istoren (pc := 71) (lo' := [(2, 0), (0, (cn : Int)), (0, (k : Int)), (1, srF mem cn k), (3, 0), (0, (k : Int)), (1, srF mem cn k), (3, 0)]) dX7_sure_71 rfl rfl (by decide) rfl ?_
              refine e_iinc (pc := 72) (lo' := [(2, 0), (0, (cn : Int)), (0, (k : Int)), (1, srF mem cn k), (3, 0), (0, (k : Int) + 1), (1, srF mem cn k), (3, 0)]) dX7_sure_72 rfl (by omega) rfl (by decide) rfl ?_
              refine e_goto (pc := 75) (tgt := 31) dX7_sure_75 rfl ?_
              have zcm := lCmp_ge (a := srF mem cn k) (b := (srS (srF mem cn) k).2)
              refine Ev.fgt [6] ?_
              exact Ev.to (ih31 _ (by omega) (k + 1) (k : Int) zm2 (rfl) (by omega) (zf2)) (by rw [srS_t (by omega)]; rfl) rfl rfl
      exact Ev.to (L31 _ 0 (zm1 28 cn) zm1 (rfl) (by omega) (by rw [mset_self _ _ _ rfl]; exact Fr.rf)) rfl rfl rfl
    · skip
      exact absurd h5 (by decide)
  · rw [if_neg zc]
    refine e_if_ne (pc := 5) (tgt := 11) dX7_sure_5 rfl (fun h5 => ?_) (fun h5 => ?_)
    · skip
      exact absurd h5 (by decide)
    · skip
      refine e_bipush (pc := 8) dX7_sure_8 rfl (by decide) ?_
      have zan : an_sure mem comer = -2 := by unfold an_sure; rw [if_neg zc]
      exact e_iret (pc := 10) dX7_sure_10 rfl (by rw [← hQ_]; exact ⟨by rw [zan], Fr.rf⟩)
