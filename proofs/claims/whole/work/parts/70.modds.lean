theorem ptN_bd {lot : Nat → Int} {v : Nat} : ∀ {m : Nat}, (∀ c, c < m → 0 ≤ lot c ∧ lot c ≤ 15) → 0 ≤ ptN lot v m ∧ ptN lot v m ≤ 16 ^ m
  | 0, _ => by show (0 : Int) ≤ 1 ∧ (1 : Int) ≤ 1; omega
  | m + 1, h => by
    have ih := ptN_bd (v := v) (m := m) (fun j hj => h j (by omega))
    have hk := h m (by omega)
    rw [ptN_s, Int.pow_succ]
    split
    · have hx : 0 ≤ (if v.testBit (cnt (lotQ lot) m) = true then lot m else 16 - lot m) ∧ (if v.testBit (cnt (lotQ lot) m) = true then lot m else 16 - lot m) ≤ 16 := by split <;> omega
      generalize (if v.testBit (cnt (lotQ lot) m) = true then lot m else 16 - lot m) = x at hx
      exact ⟨Int.mul_nonneg ih.1 hx.1, Int.mul_le_mul ih.2 hx.2 hx.1 (by omega)⟩
    · generalize (16 : Int) ^ m = y at ih ⊢
      omega
theorem pt8_bd {A : Mem} (hC : CoOk A) (v : Nat) : 0 ≤ ptN (A 8) v 8 ∧ ptN (A 8) v 8 ≤ 4294967296 := by
  have h := ptN_bd (lot := A 8) (v := v) (m := 8) (fun c hc => (hC c hc).2.2.2.1)
  have e : (16 : Int) ^ 8 = 4294967296 := by decide
  omega
/-- the model's sum of shares -/
def msF (A : Mem) (F : Nat → Int) (k : Nat) : Int := sumTo (fun v => ptN (A 8) v 8 * F (spN (A 8) v 8)) k
theorem msF_s (A : Mem) (F : Nat → Int) (k : Nat) : msF A F (k + 1) = msF A F k + ptN (A 8) k 8 * F (spN (A 8) k 8) := rfl
theorem ms_tot {A : Mem} (hC : CoOk A) (F : Nat → Int) : sumTo (fun w => wtN (A 8) (w : Int) 8 * F w) 256 = msF A F (2 ^ cnt (lotQ (A 8)) 8) * 16 ^ (8 - cnt (lotQ (A 8)) 8) := ways_eq (fun c hc => (hC c hc).2.2.2.1.1) 8 (Nat.le_refl _) F
noncomputable def odF (A : Mem) (minute : Int) (w : Nat) : Int := if stT A (A 17) (A 18) (A 19) (w : Int) 0 ≤ minute then 1 else 0
theorem od_tot {A : Mem} (hC : CoOk A) (minute : Int) : sumTo (bgS A minute) 256 = msF A (odF A minute) (2 ^ cnt (lotQ (A 8)) 8) * 16 ^ (8 - cnt (lotQ (A 8)) 8) := by
  rw [← ms_tot hC]
  refine sumTo_congr (fun w hw => ?_)
  unfold bgS odF
  split <;> omega
noncomputable def meF (A : Mem) (am : Nat → Int) (o w : Nat) : Int := pyE A (A 17) (A 18) am (w : Int) 0 o
theorem me_tot {A : Mem} (hC : CoOk A) (am : Nat → Int) (o : Nat) : sumTo (prS A am o) 256 = msF A (meF A am o) (2 ^ cnt (lotQ (A 8)) 8) * 16 ^ (8 - cnt (lotQ (A 8)) 8) := by
  rw [← ms_tot hC]
  exact sumTo_congr (fun w hw => rfl)
theorem lshl4 : ∀ k : Fin 9, lShl 1 (4 * (k.val : Int)) = ((2 ^ (4 * k.val) : Nat) : Int) := by decide
theorem pow_lot (A : Mem) : 1 ≤ 2 ^ cnt (lotQ (A 8)) 8 ∧ 2 ^ cnt (lotQ (A 8)) 8 ≤ 256 := by
  have h1 : 0 < 2 ^ cnt (lotQ (A 8)) 8 := Nat.two_pow_pos _
  have h2 : 2 ^ cnt (lotQ (A 8)) 8 ≤ 2 ^ 8 := Nat.pow_le_pow_right (by decide) (cnt_le _ _)
  omega

theorem m_oddsNow (G : Gm) (A mem : Mem) (minute wh : Int) (hI : CI A) (hM : MI A mem) : Con G mX8_oddsNow [(2, 49), (0, minute), (0, wh)] mem (fun r m' => r = some (1, lowF (sumTo (bgS A minute) 256) wh) ∧ MI A m' ∧ Fr scZ mem m') := by
  refine Con.of (lo := [(2, 49), (0, minute), (0, wh), (3, 0), (3, 0), (3, 0), (3, 0), (3, 0)]) (by decide +kernel) (Nat.le_of_ble_eq_true rfl) rfl ?_
  generalize hQ_ : (fun r m' => r = some (1, lowF (sumTo (bgS A minute) 256) wh) ∧ MI A m' ∧ Fr scZ mem m' : Option AV → Mem → Prop) = Q_
  have zpl := pow_lot A
  have zc8 := cnt_le (lotQ (A 8)) 8
  have zob : ∀ j, 0 ≤ ptN (A 8) j 8 * odF A minute (spN (A 8) j 8) ∧ ptN (A 8) j 8 * odF A minute (spN (A 8) j 8) ≤ 4294967296 := fun j => by
    have z1 := pt8_bd hI.1 j
    unfold odF
    split <;> omega
  refine e_aloadn (pc := 0) dX8_oddsNow_0 rfl rfl ?_
  refine e_callV (pc := 1) (as := []) (st := []) (m_asTold G A mem hI hM) dX8_oddsNow_1 lX8_oddsNow_190 rfl s_49 cn_8 rfl rfl (fun r_ zma hq_ => ?_)
  obtain ⟨zr_, zMa, zfa, zEa⟩ := hq_
  subst zr_
  refine Ev.to (st' := []) ?_ rfl rfl rfl
  refine e_aloadn (pc := 4) dX8_oddsNow_4 rfl rfl ?_
  refine e_callV (pc := 5) (as := []) (st := []) (m_roads G A zma hI zMa) dX8_oddsNow_5 lX8_oddsNow_265 rfl s_49 cn_8 rfl rfl (fun r_ zmb hq_ => ?_)
  obtain ⟨zr_, zMb, zfb, zDb⟩ := hq_
  subst zr_
  have zEb := zEa.mv (fun j h1 h2 => zfb 49 j (by unfold scRd; simp; omega)) (funext (fun j => zfb 62 j rfl))
  have zfz0 : Fr scZ mem zmb := (scHZ zfa).tr (scRdZ zfb)
  refine Ev.to (st' := []) ?_ rfl rfl rfl
  refine e_lconst (pc := 8) (z := 0) dX8_oddsNow_8 rfl (by decide) ?_
  refine e_lstoren (pc := 9) (lo' := [(2, 49), (0, minute), (0, wh), (1, 0), (3, 0), (3, 0), (3, 0), (3, 0)]) dX8_oddsNow_9 rfl rfl (by decide) rfl ?_
  refine e_iconst (pc := 10) dX8_oddsNow_10 (by decide) ?_
  refine e_istore (pc := 11) (lo' := [(2, 49), (0, minute), (0, wh), (1, 0), (3, 0), (0, 0), (3, 0), (3, 0)]) dX8_oddsNow_11 rfl (by decide) rfl ?_
  have L13 : ∀ (n_ : Nat) (k : Nat) (za : Int) (zmv : Mem), 256 - k = n_ → (k ≤ 2 ^ cnt (lotQ (A 8)) 8) → (MI A zmv) → (ME A zmv (A 17) (A 18) (A 19) za 0) → (RD A zmv) → (Fr scZ mem zmv) → Ev G mX8_oddsNow Q_ 13 [(2, 49), (0, minute), (0, wh), (1, msF A (odF A minute) k), (3, 0), (0, (k : Int)), (3, 0), (3, 0)] [] zmv := by
    intro n_
    induction n_ using Nat.strongRecOn with
    | ind n_ ih13 =>
      intro k za zmv hn_ zk zM zE zD zf
      have zsb := sumTo_bd (f := fun v => ptN (A 8) v 8 * odF A minute (spN (A 8) v 8)) (a := 0) (b := 4294967296) (n := k) (fun j _ => zob j)
      change _ ≤ msF A (odF A minute) k ∧ msF A (odF A minute) k ≤ _ at zsb
      refine e_iload (pc := 13) dX8_oddsNow_13 rfl ?_
      refine e_iconst (pc := 15) dX8_oddsNow_15 (by decide) ?_
      refine e_aloadn (pc := 16) dX8_oddsNow_16 rfl rfl ?_
      refine e_getiv (pc := 17) (v := ((cnt (lotQ (A 8)) 8 : Nat) : Int)) dX8_oddsNow_17 fX8_262 s_49 rfl (by decide) (zD.1) ?_
      refine e_ishl (pc := 20) dX8_oddsNow_20 ?_
      rw [show bShl 1 ((cnt (lotQ (A 8)) 8 : Nat) : Int) = ((2 ^ cnt (lotQ (A 8)) 8 : Nat) : Int) from one_shl (by omega)]
      refine e_icmp_ge (pc := 21) (tgt := 55) dX8_oddsNow_21 rfl (fun h21 => ?_) (fun h21 => ?_)
      · skip
        refine e_lloadn (pc := 55) dX8_oddsNow_55 rfl rfl ?_
        refine e_lconst (pc := 56) (z := 1) dX8_oddsNow_56 rfl (by decide) ?_
        refine e_iconst (pc := 57) dX8_oddsNow_57 (by decide) ?_
        refine e_aloadn (pc := 58) dX8_oddsNow_58 rfl rfl ?_
        refine e_getiv (pc := 59) (v := ((cnt (lotQ (A 8)) 8 : Nat) : Int)) dX8_oddsNow_59 fX8_262 s_49 rfl (by decide) (zD.1) ?_
        refine e_imuln (pc := 62) dX8_oddsNow_62 (by omega) ?_
        refine e_lshl (pc := 63) dX8_oddsNow_63 ?_
        rw [show lShl 1 (4 * ((cnt (lotQ (A 8)) 8 : Nat) : Int)) = ((2 ^ (4 * cnt (lotQ (A 8)) 8) : Nat) : Int) from lshl4 ⟨cnt (lotQ (A 8)) 8, by omega⟩]
        refine e_iloadn (pc := 64) dX8_oddsNow_64 rfl rfl ?_
        refine e_callSr (pc := 65) (as := [(1, msF A (odF A minute) k), (1, ((2 ^ (4 * cnt (lotQ (A 8)) 8) : Nat) : Int)), (0, wh)]) (st := []) (m_lowest G zmv (msF A (odF A minute) k) wh (cnt (lotQ (A 8)) 8) zc8 (by omega)) dX8_oddsNow_65 lX8_oddsNow_272 rfl rfl rfl ?_
        have zan : lowF (sumTo (bgS A minute) 256) wh = lowF (msF A (odF A minute) k * 16 ^ (8 - cnt (lotQ (A 8)) 8)) wh := by rw [od_tot hI.1, show k = 2 ^ cnt (lotQ (A 8)) 8 by omega]
        exact e_lret (pc := 68) dX8_oddsNow_68 rfl (by rw [← hQ_]; exact ⟨by rw [zan], zM, zf⟩)
      · skip
        refine e_aloadn (pc := 24) dX8_oddsNow_24 rfl rfl ?_
        refine e_iload (pc := 25) dX8_oddsNow_25 rfl ?_
        refine e_callV (pc := 27) (as := [(0, (k : Int))]) (st := []) (m_takes G A zmv (A 17) (A 18) (A 19) za k (by omega) hI zM zE zD) dX8_oddsNow_27 lX8_oddsNow_268 rfl s_49 cn_8 rfl rfl (fun r_ zm1 hq_ => ?_)
        obtain ⟨zr_, zM1, zE1, zG1, zD1, zf1⟩ := hq_
        subst zr_
        have zpb := pt8_bd hI.1 k
        refine Ev.to (st' := [(1, ptN (A 8) k 8)]) ?_ rfl rfl rfl
        refine e_lstore (pc := 30) (lo' := [(2, 49), (0, minute), (0, wh), (1, msF A (odF A minute) k), (3, 0), (0, (k : Int)), (1, ptN (A 8) k 8), (3, 0)]) dX8_oddsNow_30 rfl (by decide) rfl ?_
        refine e_lloadn (pc := 32) dX8_oddsNow_32 rfl rfl ?_
        refine e_aloadn (pc := 33) dX8_oddsNow_33 rfl rfl ?_
        refine e_getiv (pc := 34) (v := (stT A (A 17) (A 18) (A 19) ((spN (A 8) k 8 : Nat) : Int) 0)) dX8_oddsNow_34 fX8_178 s_49 rfl (by decide) (zG1.1) ?_
        refine e_iloadn (pc := 37) dX8_oddsNow_37 rfl rfl ?_
        refine e_icmp_gt (pc := 38) (tgt := 46) dX8_oddsNow_38 rfl (fun h38 => ?_) (fun h38 => ?_)
        · skip
          refine e_lconst (pc := 46) (z := 0) dX8_oddsNow_46 rfl (by decide) ?_
          refine e_laddn (pc := 47) dX8_oddsNow_47 (by omega) ?_
          refine e_lstoren (pc := 48) (lo' := [(2, 49), (0, minute), (0, wh), (1, (msF A (odF A minute) k) + 0), (3, 0), (0, (k : Int)), (1, ptN (A 8) k 8), (3, 0)]) dX8_oddsNow_48 rfl rfl (by decide) rfl ?_
          refine e_iinc (pc := 49) (lo' := [(2, 49), (0, minute), (0, wh), (1, (msF A (odF A minute) k) + 0), (3, 0), (0, (k : Int) + 1), (1, ptN (A 8) k 8), (3, 0)]) dX8_oddsNow_49 rfl (by omega) rfl (by decide) rfl ?_
          refine e_goto (pc := 52) (tgt := 13) dX8_oddsNow_52 rfl ?_
          have zms : msF A (odF A minute) (k + 1) = (msF A (odF A minute) k) + 0 := by
            rw [msF_s]
            unfold odF
            rw [if_neg (by omega)]
            omega
          refine Ev.fgt [6] ?_
          exact Ev.to (ih13 _ (by omega) (k + 1) ((spN (A 8) k 8 : Nat) : Int) zm1 (rfl) (by omega) (zM1) (zE1) (zD1) (zf.tr (scTkZ zf1))) (by rw [zms]; rfl) rfl rfl
        · skip
          refine e_lload (pc := 41) dX8_oddsNow_41 rfl ?_
          refine e_goto (pc := 43) (tgt := 47) dX8_oddsNow_43 rfl ?_
          refine e_laddn (pc := 47) dX8_oddsNow_47 (by omega) ?_
          refine e_lstoren (pc := 48) (lo' := [(2, 49), (0, minute), (0, wh), (1, (msF A (odF A minute) k) + (ptN (A 8) k 8)), (3, 0), (0, (k : Int)), (1, ptN (A 8) k 8), (3, 0)]) dX8_oddsNow_48 rfl rfl (by decide) rfl ?_
          refine e_iinc (pc := 49) (lo' := [(2, 49), (0, minute), (0, wh), (1, (msF A (odF A minute) k) + (ptN (A 8) k 8)), (3, 0), (0, (k : Int) + 1), (1, ptN (A 8) k 8), (3, 0)]) dX8_oddsNow_49 rfl (by omega) rfl (by decide) rfl ?_
          refine e_goto (pc := 52) (tgt := 13) dX8_oddsNow_52 rfl ?_
          have zms : msF A (odF A minute) (k + 1) = (msF A (odF A minute) k) + (ptN (A 8) k 8) := by
            rw [msF_s]
            unfold odF
            rw [if_pos (by omega)]
            omega
          refine Ev.fgt [6] ?_
          exact Ev.to (ih13 _ (by omega) (k + 1) ((spN (A 8) k 8 : Nat) : Int) zm1 (rfl) (by omega) (zM1) (zE1) (zD1) (zf.tr (scTkZ zf1))) (by rw [zms]; rfl) rfl rfl
  exact Ev.to (L13 _ 0 0 zmb (rfl) (by omega) (zMb) (zEb) (zDb) (zfz0)) rfl rfl rfl

theorem m_odds (G : Gm) (A mem : Mem) (minute wh : Int) (hI : CI A) (hM : MI A mem) : Con G mX8_odds [(2, 49), (0, minute), (0, wh)] mem (fun r m' => r = some (1, an_odds A minute wh) ∧ MI A m' ∧ Fr scZ mem m') := by
  refine Con.of (lo := [(2, 49), (0, minute), (0, wh)]) (by decide +kernel) (Nat.le_of_ble_eq_true rfl) rfl ?_
  generalize hQ_ : (fun r m' => r = some (1, an_odds A minute wh) ∧ MI A m' ∧ Fr scZ mem m' : Option AV → Mem → Prop) = Q_
  refine e_iloadn (pc := 0) dX8_odds_0 rfl rfl ?_
  refine e_iconst (pc := 1) dX8_odds_1 (by decide) ?_
  refine e_bipush (pc := 2) dX8_odds_2 rfl (by decide) ?_
  refine e_callSr (pc := 4) (as := [(0, minute), (0, 0), (0, 59)]) (st := []) (v := (0, if 0 ≤ minute ∧ minute ≤ 59 then 1 else 0)) (m_in G (mem) minute 0 59) dX8_odds_4 lX8_odds_95 rfl rfl rfl ?_
  by_cases zc4 : 0 ≤ minute ∧ minute ≤ 59
  · rw [if_pos zc4]
    refine e_if_eq (pc := 7) (tgt := 28) dX8_odds_7 rfl (fun h7 => ?_) (fun h7 => ?_)
    · skip
      exact absurd h7 (by decide)
    · skip
      refine e_iloadn (pc := 10) dX8_odds_10 rfl rfl ?_
      refine e_iconst (pc := 11) dX8_odds_11 (by decide) ?_
      refine e_iconst (pc := 12) dX8_odds_12 (by decide) ?_
      refine e_callSr (pc := 13) (as := [(0, wh), (0, 0), (0, 1)]) (st := []) (v := (0, if 0 ≤ wh ∧ wh ≤ 1 then 1 else 0)) (m_in G (mem) wh 0 1) dX8_odds_13 lX8_odds_95 rfl rfl rfl ?_
      by_cases zc13 : 0 ≤ wh ∧ wh ≤ 1
      · rw [if_pos zc13]
        refine e_if_eq (pc := 16) (tgt := 28) dX8_odds_16 rfl (fun h16 => ?_) (fun h16 => ?_)
        · skip
          exact absurd h16 (by decide)
        · skip
          refine e_aloadn (pc := 19) dX8_odds_19 rfl rfl ?_
          refine e_iloadn (pc := 20) dX8_odds_20 rfl rfl ?_
          refine e_iloadn (pc := 21) dX8_odds_21 rfl rfl ?_
          refine e_callV (pc := 22) (as := [(0, minute), (0, wh)]) (st := []) (m_oddsNow G A mem minute wh hI hM) dX8_odds_22 lX8_odds_276 rfl s_49 cn_8 rfl rfl (fun r_ zm1 hq_ => ?_)
          obtain ⟨zr_, zM1, zf1⟩ := hq_
          subst zr_
          refine Ev.to (st' := [(1, lowF (sumTo (bgS A minute) 256) wh)]) ?_ rfl rfl rfl
          refine e_goto (pc := 25) (tgt := 31) dX8_odds_25 rfl ?_
          have zan : an_odds A minute wh = lowF (sumTo (bgS A minute) 256) wh := by unfold an_odds; rw [if_pos (by omega)]
          exact e_lret (pc := 31) dX8_odds_31 rfl (by rw [← hQ_]; exact ⟨by rw [zan], zM1, zf1⟩)
      · rw [if_neg zc13]
        refine e_if_eq (pc := 16) (tgt := 28) dX8_odds_16 rfl (fun h16 => ?_) (fun h16 => ?_)
        · skip
          refine e_ldc2 (pc := 28) (z := (-9223372036854775806)) dX8_odds_28 kX8_280 (by decide) ?_
          have zan : an_odds A minute wh = -9223372036854775806 := by unfold an_odds; rw [if_neg (by omega)]
          exact e_lret (pc := 31) dX8_odds_31 rfl (by rw [← hQ_]; exact ⟨by rw [zan], hM, Fr.rf⟩)
        · skip
          exact absurd h16 (by decide)
  · rw [if_neg zc4]
    refine e_if_eq (pc := 7) (tgt := 28) dX8_odds_7 rfl (fun h7 => ?_) (fun h7 => ?_)
    · skip
      refine e_ldc2 (pc := 28) (z := (-9223372036854775806)) dX8_odds_28 kX8_280 (by decide) ?_
      have zan : an_odds A minute wh = -9223372036854775806 := by unfold an_odds; rw [if_neg (by omega)]
      exact e_lret (pc := 31) dX8_odds_31 rfl (by rw [← hQ_]; exact ⟨by rw [zan], hM, Fr.rf⟩)
    · skip
      exact absurd h7 (by decide)

theorem m_meanNow (G : Gm) (A mem : Mem) (am : Nat → Int) (late : Int) (o : Nat) (ho : o < 8) (hq : A 18 o ≠ -1) (hI : CI A) (hM : MI A mem) (hE : ME A mem (A 17) (A 18) am late 0) (hD : RD A mem) : Con G mX8_meanNow [(2, 49), (0, (o : Int))] mem (fun r m' => r = some (1, msF A (meF A am o) (2 ^ cnt (lotQ (A 8)) 8)) ∧ MI A m' ∧ Fr scZ mem m' ∧ RD A m' ∧ ∃ late' : Int, ME A m' (A 17) (A 18) am late' 0) := by
  refine Con.of (lo := [(2, 49), (0, (o : Int)), (3, 0), (3, 0), (3, 0), (3, 0), (3, 0)]) (by decide +kernel) (Nat.le_of_ble_eq_true rfl) rfl ?_
  generalize hQ_ : (fun r m' => r = some (1, msF A (meF A am o) (2 ^ cnt (lotQ (A 8)) 8)) ∧ MI A m' ∧ Fr scZ mem m' ∧ RD A m' ∧ ∃ late' : Int, ME A m' (A 17) (A 18) am late' 0 : Option AV → Mem → Prop) = Q_
  have zpl := pow_lot A
  have zc8 := cnt_le (lotQ (A 8)) 8
  have zev := hE.2.2.2.2
  have zel : ∀ j : Nat, EvR (A 17) (A 18) am ((spN (A 8) j 8 : Nat) : Int) 0 (A 2) (A 3) := fun j => ⟨⟨zev.1.1, zev.1.2.1, zev.1.2.2.1, by have := spN_lt (A 8) j 8; omega, by omega⟩, zev.2⟩
  have zpy : ∀ j : Nat, -99 ≤ meF A am o (spN (A 8) j 8) ∧ meF A am o (spN (A 8) j 8) ≤ 6039 := fun j => pyE_bd hI.1 (zel j) ho
  have zob : ∀ j, -25937424601600 ≤ ptN (A 8) j 8 * meF A am o (spN (A 8) j 8) ∧ ptN (A 8) j 8 * meF A am o (spN (A 8) j 8) ≤ 25937424601600 := fun j => mulL (pt8_bd hI.1 j) (zpy j)
  refine e_lconst (pc := 0) (z := 0) dX8_meanNow_0 rfl (by decide) ?_
  refine e_lstoren (pc := 1) (lo' := [(2, 49), (0, (o : Int)), (1, 0), (3, 0), (3, 0), (3, 0), (3, 0)]) dX8_meanNow_1 rfl rfl (by decide) rfl ?_
  refine e_iconst (pc := 2) dX8_meanNow_2 (by decide) ?_
  refine e_istore (pc := 3) (lo' := [(2, 49), (0, (o : Int)), (1, 0), (3, 0), (0, 0), (3, 0), (3, 0)]) dX8_meanNow_3 rfl (by decide) rfl ?_
  have L5 : ∀ (n_ : Nat) (k : Nat) (za : Int) (zmv : Mem), 256 - k = n_ → (k ≤ 2 ^ cnt (lotQ (A 8)) 8) → (MI A zmv) → (ME A zmv (A 17) (A 18) am za 0) → (RD A zmv) → (Fr scZ mem zmv) → Ev G mX8_meanNow Q_ 5 [(2, 49), (0, (o : Int)), (1, msF A (meF A am o) k), (3, 0), (0, (k : Int)), (3, 0), (3, 0)] [] zmv := by
    intro n_
    induction n_ using Nat.strongRecOn with
    | ind n_ ih5 =>
      intro k za zmv hn_ zk zM zE zD zf
      have zsb := sumTo_bd (f := fun v => ptN (A 8) v 8 * meF A am o (spN (A 8) v 8)) (a := -25937424601600) (b := 25937424601600) (n := k) (fun j _ => zob j)
      change _ ≤ msF A (meF A am o) k ∧ msF A (meF A am o) k ≤ _ at zsb
      refine e_iload (pc := 5) dX8_meanNow_5 rfl ?_
      refine e_iconst (pc := 7) dX8_meanNow_7 (by decide) ?_
      refine e_aloadn (pc := 8) dX8_meanNow_8 rfl rfl ?_
      refine e_getiv (pc := 9) (v := ((cnt (lotQ (A 8)) 8 : Nat) : Int)) dX8_meanNow_9 fX8_262 s_49 rfl (by decide) (zD.1) ?_
      refine e_ishl (pc := 12) dX8_meanNow_12 ?_
      rw [show bShl 1 ((cnt (lotQ (A 8)) 8 : Nat) : Int) = ((2 ^ cnt (lotQ (A 8)) 8 : Nat) : Int) from one_shl (by omega)]
      refine e_icmp_ge (pc := 13) (tgt := 42) dX8_meanNow_13 rfl (fun h13 => ?_) (fun h13 => ?_)
      · skip
        refine e_lloadn (pc := 42) dX8_meanNow_42 rfl rfl ?_
        have zke : k = 2 ^ cnt (lotQ (A 8)) 8 := by omega
        exact e_lret (pc := 43) dX8_meanNow_43 rfl (by rw [← hQ_, ← zke]; exact ⟨rfl, zM, zf, zD, _, zE⟩)
      · skip
        refine e_aloadn (pc := 16) dX8_meanNow_16 rfl rfl ?_
        refine e_iload (pc := 17) dX8_meanNow_17 rfl ?_
        refine e_callV (pc := 19) (as := [(0, (k : Int))]) (st := []) (m_takes G A zmv (A 17) (A 18) am za k (by omega) hI zM zE zD) dX8_meanNow_19 lX8_meanNow_268 rfl s_49 cn_8 rfl rfl (fun r_ zm1 hq_ => ?_)
        obtain ⟨zr_, zM1, zE1, zG1, zD1, zf1⟩ := hq_
        subst zr_
        have zob1 : -25937424601600 ≤ ptN (A 8) k 8 * pyE A (A 17) (A 18) am ((spN (A 8) k 8 : Nat) : Int) 0 o ∧ ptN (A 8) k 8 * pyE A (A 17) (A 18) am ((spN (A 8) k 8 : Nat) : Int) 0 o ≤ 25937424601600 := zob k
        refine Ev.to (st' := [(1, ptN (A 8) k 8)]) ?_ rfl rfl rfl
        refine e_lstore (pc := 22) (lo' := [(2, 49), (0, (o : Int)), (1, msF A (meF A am o) k), (3, 0), (0, (k : Int)), (1, ptN (A 8) k 8), (3, 0)]) dX8_meanNow_22 rfl (by decide) rfl ?_
        refine e_lloadn (pc := 24) dX8_meanNow_24 rfl rfl ?_
        refine e_lload (pc := 25) dX8_meanNow_25 rfl ?_
        refine e_aloadn (pc := 27) dX8_meanNow_27 rfl rfl ?_
        refine e_iloadn (pc := 28) dX8_meanNow_28 rfl rfl ?_
        refine e_callVr (pc := 29) (as := [(0, (o : Int))]) (st := [(1, ptN (A 8) k 8), (1, msF A (meF A am o) k)]) (m_paysNow G A zm1 (A 17) (A 18) am ((spN (A 8) k 8 : Nat) : Int) 0 o ho hq hI zM1 zE1 zG1) dX8_meanNow_29 lX8_meanNow_187 rfl s_49 cn_8 rfl rfl ?_
        refine e_i2l (pc := 32) dX8_meanNow_32 ?_
        refine e_lmuln (pc := 33) dX8_meanNow_33 (by omega) ?_
        refine e_laddn (pc := 34) dX8_meanNow_34 (by omega) ?_
        refine e_lstoren (pc := 35) (lo' := [(2, 49), (0, (o : Int)), (1, (msF A (meF A am o) k) + ((ptN (A 8) k 8) * (meF A am o (spN (A 8) k 8)))), (3, 0), (0, (k : Int)), (1, ptN (A 8) k 8), (3, 0)]) dX8_meanNow_35 rfl rfl (by decide) rfl ?_
        refine e_iinc (pc := 36) (lo' := [(2, 49), (0, (o : Int)), (1, (msF A (meF A am o) k) + ((ptN (A 8) k 8) * (meF A am o (spN (A 8) k 8)))), (3, 0), (0, (k : Int) + 1), (1, ptN (A 8) k 8), (3, 0)]) dX8_meanNow_36 rfl (by omega) rfl (by decide) rfl ?_
        refine e_goto (pc := 39) (tgt := 5) dX8_meanNow_39 rfl ?_
        refine Ev.fgt [5] ?_
        exact Ev.to (ih5 _ (by omega) (k + 1) ((spN (A 8) k 8 : Nat) : Int) zm1 (rfl) (by omega) (zM1) (zE1) (zD1) (zf.tr (scTkZ zf1))) rfl rfl rfl
  exact Ev.to (L5 _ 0 late mem (rfl) (by omega) (hM) (hE) (hD) (Fr.rf)) rfl rfl rfl

theorem me_bd {A : Mem} {am : Nat → Int} {o : Nat} (hI : CI A) (ha : ∀ c, c < 8 → 0 ≤ am c ∧ am c ≤ 60) (ho : o < 8) : -6639980699000000 ≤ msF A (meF A am o) (2 ^ cnt (lotQ (A 8)) 8) ∧ msF A (meF A am o) (2 ^ cnt (lotQ (A 8)) 8) ≤ 6639980699000000 := by
  have zev := hI.ev
  have zob : ∀ j, -25937424601600 ≤ ptN (A 8) j 8 * meF A am o (spN (A 8) j 8) ∧ ptN (A 8) j 8 * meF A am o (spN (A 8) j 8) ≤ 25937424601600 := fun j => mulL (pt8_bd hI.1 j) (pyE_bd hI.1 ⟨⟨zev.1.1, zev.1.2.1, zev.1.2.2.1, by have := spN_lt (A 8) j 8; omega, by omega⟩, fun c hc => ⟨(zev.2 c hc).1, ha c hc, (zev.2 c hc).2.2⟩⟩ ho)
  have h := sumTo_bd (f := fun v => ptN (A 8) v 8 * meF A am o (spN (A 8) v 8)) (a := -25937424601600) (b := 25937424601600) (n := 2 ^ cnt (lotQ (A 8)) 8) (fun j _ => zob j)
  change _ ≤ msF A (meF A am o) (2 ^ cnt (lotQ (A 8)) 8) ∧ msF A (meF A am o) (2 ^ cnt (lotQ (A 8)) 8) ≤ _ at h
  have hp := pow_lot A
  generalize 2 ^ cnt (lotQ (A 8)) 8 = y at h hp ⊢
  omega

theorem m_mean (G : Gm) (A mem : Mem) (comer wh : Int) (hI : CI A) (hM : MI A mem) : Con G mX8_mean [(2, 49), (0, comer), (0, wh)] mem (fun r m' => r = some (1, an_mean A comer wh) ∧ MI A m' ∧ Fr scZ mem m') := by
  refine Con.of (lo := [(2, 49), (0, comer), (0, wh)]) (by decide +kernel) (Nat.le_of_ble_eq_true rfl) rfl ?_
  generalize hQ_ : (fun r m' => r = some (1, an_mean A comer wh) ∧ MI A m' ∧ Fr scZ mem m' : Option AV → Mem → Prop) = Q_
  refine e_aloadn (pc := 0) dX8_mean_0 rfl rfl ?_
  refine e_iloadn (pc := 1) dX8_mean_1 rfl rfl ?_
  refine e_callVr (pc := 2) (as := [(0, comer)]) (st := []) (v := (0, if 0 ≤ comer ∧ comer < 8 ∧ A 18 comer.toNat ≠ -1 then 1 else 0)) (m_isComerI G A mem comer hI hM) dX8_mean_2 lX8_mean_103 rfl s_49 cn_8 rfl rfl ?_
  by_cases zc : 0 ≤ comer ∧ comer < 8 ∧ A 18 comer.toNat ≠ -1
  · rw [if_pos zc]
    obtain ⟨cn, zcn1⟩ : ∃ cn : Nat, comer = (cn : Int) := ⟨comer.toNat, by omega⟩
    subst zcn1
    have zcn : cn < 8 := by omega
    have zck : A 18 cn ≠ -1 := zc.2.2
    refine e_if_eq (pc := 5) (tgt := 17) dX8_mean_5 rfl (fun h5 => ?_) (fun h5 => ?_)
    · skip
      exact absurd h5 (by decide)
    · skip
      refine e_iloadn (pc := 8) dX8_mean_8 rfl rfl ?_
      refine e_iconst (pc := 9) dX8_mean_9 (by decide) ?_
      refine e_iconst (pc := 10) dX8_mean_10 (by decide) ?_
      refine e_callSr (pc := 11) (as := [(0, wh), (0, 0), (0, 1)]) (st := []) (v := (0, if 0 ≤ wh ∧ wh ≤ 1 then 1 else 0)) (m_in G (mem) wh 0 1) dX8_mean_11 lX8_mean_95 rfl rfl rfl ?_
      by_cases zc11 : 0 ≤ wh ∧ wh ≤ 1
      · rw [if_pos zc11]
        refine e_if_ne (pc := 14) (tgt := 21) dX8_mean_14 rfl (fun h14 => ?_) (fun h14 => ?_)
        · skip
          refine e_aloadn (pc := 21) dX8_mean_21 rfl rfl ?_
          refine e_callV (pc := 22) (as := []) (st := []) (m_asTold G A mem hI hM) dX8_mean_22 lX8_mean_190 rfl s_49 cn_8 rfl rfl (fun r_ zma hq_ => ?_)
          obtain ⟨zr_, zMa, zfa, zEa⟩ := hq_
          subst zr_
          refine Ev.to (st' := []) ?_ rfl rfl rfl
          refine e_aloadn (pc := 25) dX8_mean_25 rfl rfl ?_
          refine e_callV (pc := 26) (as := []) (st := []) (m_roads G A zma hI zMa) dX8_mean_26 lX8_mean_265 rfl s_49 cn_8 rfl rfl (fun r_ zmb hq_ => ?_)
          obtain ⟨zr_, zMb, zfb, zDb⟩ := hq_
          subst zr_
          have zEb := zEa.mv (fun j h1 h2 => zfb 49 j (by unfold scRd; simp; omega)) (funext (fun j => zfb 62 j rfl))
          have zfz0 : Fr scZ mem zmb := (scHZ zfa).tr (scRdZ zfb)
          refine Ev.to (st' := []) ?_ rfl rfl rfl
          refine e_aloadn (pc := 29) dX8_mean_29 rfl rfl ?_
          refine e_iloadn (pc := 30) dX8_mean_30 rfl rfl ?_
          refine e_callV (pc := 31) (as := [(0, (cn : Int))]) (st := []) (m_meanNow G A zmb (A 19) 0 cn zcn zck hI zMb zEb zDb) dX8_mean_31 lX8_mean_282 rfl s_49 cn_8 rfl rfl (fun r_ zm1 hq_ => ?_)
          obtain ⟨zr_, zM1, zf1, zD1, _, _⟩ := hq_
          subst zr_
          have zbd := me_bd hI (fun c hc => (hI.2.1.2 c hc).2.1) zcn
          have zc8 := cnt_le (lotQ (A 8)) 8
          refine Ev.to (st' := [(1, msF A (meF A (A 19) cn) (2 ^ cnt (lotQ (A 8)) 8))]) ?_ rfl rfl rfl
          refine e_lconst (pc := 34) (z := 1) dX8_mean_34 rfl (by decide) ?_
          refine e_iconst (pc := 35) dX8_mean_35 (by decide) ?_
          refine e_aloadn (pc := 36) dX8_mean_36 rfl rfl ?_
          refine e_getiv (pc := 37) (v := ((cnt (lotQ (A 8)) 8 : Nat) : Int)) dX8_mean_37 fX8_262 s_49 rfl (by decide) (zD1.1) ?_
          refine e_imuln (pc := 40) dX8_mean_40 (by omega) ?_
          refine e_lshl (pc := 41) dX8_mean_41 ?_
          rw [show lShl 1 (4 * ((cnt (lotQ (A 8)) 8 : Nat) : Int)) = ((2 ^ (4 * cnt (lotQ (A 8)) 8) : Nat) : Int) from lshl4 ⟨cnt (lotQ (A 8)) 8, by omega⟩]
          refine e_iloadn (pc := 42) dX8_mean_42 rfl rfl ?_
          refine e_callSr (pc := 43) (as := [(1, msF A (meF A (A 19) cn) (2 ^ cnt (lotQ (A 8)) 8)), (1, ((2 ^ (4 * cnt (lotQ (A 8)) 8) : Nat) : Int)), (0, wh)]) (st := []) (m_lowest G zm1 (msF A (meF A (A 19) cn) (2 ^ cnt (lotQ (A 8)) 8)) wh (cnt (lotQ (A 8)) 8) zc8 (by omega)) dX8_mean_43 lX8_mean_272 rfl rfl rfl ?_
          have zan : an_mean A (cn : Int) wh = lowF (msF A (meF A (A 19) cn) (2 ^ cnt (lotQ (A 8)) 8) * 16 ^ (8 - cnt (lotQ (A 8)) 8)) wh := by unfold an_mean; rw [if_pos ⟨zc, by omega⟩, ← me_tot hI.1]; rfl
          exact e_lret (pc := 46) dX8_mean_46 rfl (by rw [← hQ_]; exact ⟨by rw [zan], zM1, zfz0.tr zf1⟩)
        · skip
          exact absurd h14 (by decide)
      · rw [if_neg zc11]
        refine e_if_ne (pc := 14) (tgt := 21) dX8_mean_14 rfl (fun h14 => ?_) (fun h14 => ?_)
        · skip
          exact absurd h14 (by decide)
        · skip
          refine e_ldc2 (pc := 17) (z := (-9223372036854775806)) dX8_mean_17 kX8_280 (by decide) ?_
          have zan : an_mean A (cn : Int) wh = -9223372036854775806 := by unfold an_mean; rw [if_neg (fun q => by have := q.2; omega)]
          exact e_lret (pc := 20) dX8_mean_20 rfl (by rw [← hQ_]; exact ⟨by rw [zan], hM, Fr.rf⟩)
  · rw [if_neg zc]
    refine e_if_eq (pc := 5) (tgt := 17) dX8_mean_5 rfl (fun h5 => ?_) (fun h5 => ?_)
    · skip
      refine e_ldc2 (pc := 17) (z := (-9223372036854775806)) dX8_mean_17 kX8_280 (by decide) ?_
      have zan : an_mean A comer wh = -9223372036854775806 := by unfold an_mean; rw [if_neg (fun q => zc q.1)]
      exact e_lret (pc := 20) dX8_mean_20 rfl (by rw [← hQ_]; exact ⟨by rw [zan], hM, Fr.rf⟩)
    · skip
      exact absurd h5 (by decide)

theorem m_sure (G : Gm) (A mem : Mem) (comer : Int) (hI : CI A) (hM : MI A mem) : Con G mX8_sure [(2, 49), (0, comer)] mem (fun r m' => r = some (0, an_sure A comer) ∧ MI A m' ∧ Fr scZ mem m') := by
  refine Con.of (lo := [(2, 49), (0, comer), (3, 0), (3, 0), (3, 0), (3, 0), (3, 0), (3, 0), (3, 0)]) (by decide +kernel) (Nat.le_of_ble_eq_true rfl) rfl ?_
  generalize hQ_ : (fun r m' => r = some (0, an_sure A comer) ∧ MI A m' ∧ Fr scZ mem m' : Option AV → Mem → Prop) = Q_
  refine e_aloadn (pc := 0) dX8_sure_0 rfl rfl ?_
  refine e_iloadn (pc := 1) dX8_sure_1 rfl rfl ?_
  refine e_callVr (pc := 2) (as := [(0, comer)]) (st := []) (v := (0, if 0 ≤ comer ∧ comer < 8 ∧ A 18 comer.toNat = 0 then 1 else 0)) (m_isPlain G A mem comer hI hM) dX8_sure_2 lX8_sure_107 rfl s_49 cn_8 rfl rfl ?_
  by_cases zc : 0 ≤ comer ∧ comer < 8 ∧ A 18 comer.toNat = 0
  · rw [if_pos zc]
    obtain ⟨cn, zcn1⟩ : ∃ cn : Nat, comer = (cn : Int) := ⟨comer.toNat, by omega⟩
    subst zcn1
    have zcn : cn < 8 := by omega
    have zck : A 18 cn = 0 := zc.2.2
    refine e_if_ne (pc := 5) (tgt := 11) dX8_sure_5 rfl (fun h5 => ?_) (fun h5 => ?_)
    · skip
      refine e_aloadn (pc := 11) dX8_sure_11 rfl rfl ?_
      refine e_callV (pc := 12) (as := []) (st := []) (m_asTold G A mem hI hM) dX8_sure_12 lX8_sure_190 rfl s_49 cn_8 rfl rfl (fun r_ zma hq_ => ?_)
      obtain ⟨zr_, zMa, zfa, zEa⟩ := hq_
      subst zr_
      refine Ev.to (st' := []) ?_ rfl rfl rfl
      refine e_aloadn (pc := 15) dX8_sure_15 rfl rfl ?_
      refine e_callV (pc := 16) (as := []) (st := []) (m_roads G A zma hI zMa) dX8_sure_16 lX8_sure_265 rfl s_49 cn_8 rfl rfl (fun r_ zmb hq_ => ?_)
      obtain ⟨zr_, zMb, zfb, zDb⟩ := hq_
      subst zr_
      have zEb := zEa.mv (fun j h1 h2 => zfb 49 j (by unfold scRd; simp; omega)) (funext (fun j => zfb 62 j rfl))
      have zfz0 : Fr scZ mem zmb := (scHZ zfa).tr (scRdZ zfb)
      refine Ev.to (st' := []) ?_ rfl rfl rfl
      refine e_iconst (pc := 19) dX8_sure_19 (by decide) ?_
      refine e_istoren (pc := 20) (lo' := [(2, 49), (0, (cn : Int)), (0, 0), (3, 0), (3, 0), (3, 0), (3, 0), (3, 0), (3, 0)]) dX8_sure_20 rfl rfl (by decide) rfl ?_
      refine e_lconst (pc := 21) (z := 0) dX8_sure_21 rfl (by decide) ?_
      refine e_lstoren (pc := 22) (lo' := [(2, 49), (0, (cn : Int)), (0, 0), (1, 0), (3, 0), (3, 0), (3, 0), (3, 0), (3, 0)]) dX8_sure_22 rfl rfl (by decide) rfl ?_
      refine e_iconst (pc := 23) dX8_sure_23 (by decide) ?_
      refine e_istore (pc := 24) (lo' := [(2, 49), (0, (cn : Int)), (0, 0), (1, 0), (3, 0), (0, 0), (3, 0), (3, 0), (3, 0)]) dX8_sure_24 rfl (by decide) rfl ?_
      have L26 : ∀ (n_ : Nat) (k : Nat) (ba : Int) (le : Int) (za : Int) (zc0 : Int) (zmv : Mem), 61 - k = n_ → (k ≤ 61) → (k = 0 → ba = 0 ∧ le = 0) → (0 < k → srS (srF A cn) k = (ba, le * (16 : Int) ^ (8 - cnt (lotQ (A 8)) 8))) → (MI A zmv) → (ME A zmv (A 17) (A 18) (uset (A 19) cn zc0) za 0) → (RD A zmv) → (Fr scZ mem zmv) → (0 ≤ zc0 ∧ zc0 ≤ 60) → Ev G mX8_sure Q_ 26 [(2, 49), (0, (cn : Int)), (0, ba), (1, le), (3, 0), (0, (k : Int)), (3, 0), (3, 0), (3, 0)] [] zmv := by
        intro n_
        induction n_ using Nat.strongRecOn with
        | ind n_ ih26 =>
          intro k ba le za zc0 zmv hn_ zk zb0 zb1 zM zE zD zf zc0b
          refine e_iload (pc := 26) dX8_sure_26 rfl ?_
          refine e_bipush (pc := 28) dX8_sure_28 rfl (by decide) ?_
          refine e_icmp_gt (pc := 30) (tgt := 97) dX8_sure_30 rfl (fun h30 => ?_) (fun h30 => ?_)
          · skip
            refine e_iloadn (pc := 97) dX8_sure_97 rfl rfl ?_
            have zb2 := zb1 (by omega)
            rw [show k = 61 by omega] at zb2
            have zan : an_sure A (cn : Int) = ba := by unfold an_sure; rw [if_pos zc]; show (srS (srF A cn) 61).1 = _; rw [zb2]
            exact e_iret (pc := 98) dX8_sure_98 rfl (by rw [← hQ_]; exact ⟨by rw [zan], zM, zf⟩)
          · skip
            refine e_aloadn (pc := 33) dX8_sure_33 rfl rfl ?_
            refine e_getr (pc := 34) (k := 62) dX8_sure_34 fX8_47 s_49 rfl (by decide) ?_
            refine e_iloadn (pc := 37) dX8_sure_37 rfl rfl ?_
            refine e_iload (pc := 38) dX8_sure_38 rfl ?_
            refine e_iastm (pc := 40) (mem2 := mset zmv 62 cn (k : Int)) dX8_sure_40 s_62 (by omega) rfl ?_
            refine e_aloadn (pc := 41) dX8_sure_41 rfl rfl ?_
            refine e_iloadn (pc := 42) dX8_sure_42 rfl rfl ?_
            have zE0 : ME A (mset zmv 62 cn (k : Int)) (A 17) (A 18) (uset (A 19) cn (k : Int)) za 0 := by
              have z1 := zE.us (c := cn) (x := (k : Int)) (zn := mset zmv 62 cn (k : Int)) (by omega) (fun j h1 h2 => rfl) (fun d hd => by rw [mset_row])
              rw [us_us] at z1
              exact z1
            refine e_callV (pc := 43) (as := [(0, (cn : Int))]) (st := []) (m_meanNow G A (mset zmv 62 cn (k : Int)) (uset (A 19) cn (k : Int)) za cn zcn (by rw [zck]; decide) hI (zM.v ((Fr.rf (S := scV)).ms rfl)) zE0 ⟨zD.1, zD.2⟩) dX8_sure_43 lX8_sure_282 rfl s_49 cn_8 rfl rfl (fun r_ zm1 hq_ => ?_)
            obtain ⟨zr_, zM1, zf1, zD1, zlt, zE1⟩ := hq_
            subst zr_
            have zsr : srF A cn k = msF A (meF A (uset (A 19) cn (k : Int)) cn) (2 ^ cnt (lotQ (A 8)) 8) * (16 : Int) ^ (8 - cnt (lotQ (A 8)) 8) := me_tot hI.1 _ _
            have zpp : 0 < (16 : Int) ^ (8 - cnt (lotQ (A 8)) 8) := Int.pow_pos (by decide)
            have zcm := lCmp_ge (a := msF A (meF A (uset (A 19) cn (k : Int)) cn) (2 ^ cnt (lotQ (A 8)) 8)) (b := le)
            refine Ev.to (st' := [(1, msF A (meF A (uset (A 19) cn (k : Int)) cn) (2 ^ cnt (lotQ (A 8)) 8))]) ?_ rfl rfl rfl
            refine e_lstore (pc := 46) (lo' := [(2, 49), (0, (cn : Int)), (0, ba), (1, le), (3, 0), (0, (k : Int)), (1, msF A (meF A (uset (A 19) cn (k : Int)) cn) (2 ^ cnt (lotQ (A 8)) 8)), (3, 0), (3, 0)]) dX8_sure_46 rfl (by decide) rfl ?_
            refine e_iload (pc := 48) dX8_sure_48 rfl ?_
            refine e_if_eq (pc := 50) (tgt := 60) dX8_sure_50 rfl (fun h50 => ?_) (fun h50 => ?_)
            · skip
              refine e_iconst (pc := 60) dX8_sure_60 (by decide) ?_
              refine e_goto (pc := 61) (tgt := 65) dX8_sure_61 rfl ?_
              refine e_istore (pc := 65) (lo' := [(2, 49), (0, (cn : Int)), (0, ba), (1, le), (3, 0), (0, (k : Int)), (1, msF A (meF A (uset (A 19) cn (k : Int)) cn) (2 ^ cnt (lotQ (A 8)) 8)), (3, 0), (0, 1)]) dX8_sure_65 rfl (by decide) rfl ?_
              refine e_iload (pc := 67) dX8_sure_67 rfl ?_
              refine e_if_eq (pc := 69) (tgt := 77) dX8_sure_69 rfl (fun h69 => ?_) (fun h69 => ?_)
              · skip
                exact absurd h69 (by decide)
              · skip
                refine e_iload (pc := 72) dX8_sure_72 rfl ?_
                refine e_goto (pc := 74) (tgt := 78) dX8_sure_74 rfl ?_
                refine e_istoren (pc := 78) (lo' := [(2, 49), (0, (cn : Int)), (0, (k : Int)), (1, le), (3, 0), (0, (k : Int)), (1, msF A (meF A (uset (A 19) cn (k : Int)) cn) (2 ^ cnt (lotQ (A 8)) 8)), (3, 0), (0, 1)]) dX8_sure_78 rfl rfl (by decide) rfl ?_
                refine e_iload (pc := 79) dX8_sure_79 rfl ?_
                refine e_if_eq (pc := 81) (tgt := 89) dX8_sure_81 rfl (fun h81 => ?_) (fun h81 => ?_)
                · skip
                  exact absurd h81 (by decide)
                · skip
                  refine e_lload (pc := 84) dX8_sure_84 rfl ?_
                  refine e_goto (pc := 86) (tgt := 90) dX8_sure_86 rfl ?_
                  refine e_lstoren (pc := 90) (lo' := [(2, 49), (0, (cn : Int)), (0, (k : Int)), (1, msF A (meF A (uset (A 19) cn (k : Int)) cn) (2 ^ cnt (lotQ (A 8)) 8)), (3, 0), (0, (k : Int)), (1, msF A (meF A (uset (A 19) cn (k : Int)) cn) (2 ^ cnt (lotQ (A 8)) 8)), (3, 0), (0, 1)]) dX8_sure_90 rfl rfl (by decide) rfl ?_
                  refine e_iinc (pc := 91) (lo' := [(2, 49), (0, (cn : Int)), (0, (k : Int)), (1, msF A (meF A (uset (A 19) cn (k : Int)) cn) (2 ^ cnt (lotQ (A 8)) 8)), (3, 0), (0, (k : Int) + 1), (1, msF A (meF A (uset (A 19) cn (k : Int)) cn) (2 ^ cnt (lotQ (A 8)) 8)), (3, 0), (0, 1)]) dX8_sure_91 rfl (by omega) rfl (by decide) rfl ?_
                  refine e_goto (pc := 94) (tgt := 26) dX8_sure_94 rfl ?_
                  have zbs : srS (srF A cn) (k + 1) = ((k : Int), (msF A (meF A (uset (A 19) cn (k : Int)) cn) (2 ^ cnt (lotQ (A 8)) 8)) * (16 : Int) ^ (8 - cnt (lotQ (A 8)) 8)) := by
                    have z1 := prS_bd (am := uset (A 19) cn (k : Int)) (o := cn) hI (fun c hc => (ev_us hI.ev cn (by omega)).2 c hc |>.2.1) zcn
                    have z0 : k = 0 := by omega
                    rw [← zsr]
                    refine srS_t ?_
                    rw [z0]
                    rw [z0] at z1
                    show srF A cn 0 < 9223372036854775807
                    unfold srF
                    omega
                  refine Ev.fgt [6, 8] ?_
                  exact Ev.to (ih26 _ (by omega) (k + 1) (k : Int) (msF A (meF A (uset (A 19) cn (k : Int)) cn) (2 ^ cnt (lotQ (A 8)) 8)) zlt (k : Int) zm1 (rfl) (by omega) (fun q => absurd q (by omega)) (fun _ => zbs) (zM1) (zE1) (zD1) ((zf.ms rfl).tr zf1) (by omega)) rfl rfl rfl
            · skip
              refine e_lload (pc := 53) dX8_sure_53 rfl ?_
              refine e_lloadn (pc := 55) dX8_sure_55 rfl rfl ?_
              refine e_lcmp (pc := 56) dX8_sure_56 ?_
              refine e_if_ge (pc := 57) (tgt := 64) dX8_sure_57 rfl (fun h57 => ?_) (fun h57 => ?_)
              · skip
                refine e_iconst (pc := 64) dX8_sure_64 (by decide) ?_
                refine e_istore (pc := 65) (lo' := [(2, 49), (0, (cn : Int)), (0, ba), (1, le), (3, 0), (0, (k : Int)), (1, msF A (meF A (uset (A 19) cn (k : Int)) cn) (2 ^ cnt (lotQ (A 8)) 8)), (3, 0), (0, 0)]) dX8_sure_65 rfl (by decide) rfl ?_
                refine e_iload (pc := 67) dX8_sure_67 rfl ?_
                refine e_if_eq (pc := 69) (tgt := 77) dX8_sure_69 rfl (fun h69 => ?_) (fun h69 => ?_)
                · skip
                  refine e_iloadn (pc := 77) dX8_sure_77 rfl rfl ?_
                  refine e_istoren (pc := 78) (lo' := [(2, 49), (0, (cn : Int)), (0, ba), (1, le), (3, 0), (0, (k : Int)), (1, msF A (meF A (uset (A 19) cn (k : Int)) cn) (2 ^ cnt (lotQ (A 8)) 8)), (3, 0), (0, 0)]) dX8_sure_78 rfl rfl (by decide) rfl ?_
                  refine e_iload (pc := 79) dX8_sure_79 rfl ?_
                  refine e_if_eq (pc := 81) (tgt := 89) dX8_sure_81 rfl (fun h81 => ?_) (fun h81 => ?_)
                  · skip
                    refine e_lloadn (pc := 89) dX8_sure_89 rfl rfl ?_
                    refine e_lstoren (pc := 90) (lo' := [(2, 49), (0, (cn : Int)), (0, ba), (1, le), (3, 0), (0, (k : Int)), (1, msF A (meF A (uset (A 19) cn (k : Int)) cn) (2 ^ cnt (lotQ (A 8)) 8)), (3, 0), (0, 0)]) dX8_sure_90 rfl rfl (by decide) rfl ?_
                    refine e_iinc (pc := 91) (lo' := [(2, 49), (0, (cn : Int)), (0, ba), (1, le), (3, 0), (0, (k : Int) + 1), (1, msF A (meF A (uset (A 19) cn (k : Int)) cn) (2 ^ cnt (lotQ (A 8)) 8)), (3, 0), (0, 0)]) dX8_sure_91 rfl (by omega) rfl (by decide) rfl ?_
                    refine e_goto (pc := 94) (tgt := 26) dX8_sure_94 rfl ?_
                    have zbs : srS (srF A cn) (k + 1) = (ba, le * (16 : Int) ^ (8 - cnt (lotQ (A 8)) 8)) := by
                      have z0 : 0 < k := by omega
                      rw [← zb1 z0]
                      refine srS_f ?_
                      rw [zb1 z0, zsr]
                      exact Int.not_lt.mpr (Int.mul_le_mul_of_nonneg_right (by omega) (Int.le_of_lt zpp))
                    refine Ev.fgt [6, 8] ?_
                    exact Ev.to (ih26 _ (by omega) (k + 1) ba le zlt (k : Int) zm1 (rfl) (by omega) (fun q => absurd q (by omega)) (fun _ => zbs) (zM1) (zE1) (zD1) ((zf.ms rfl).tr zf1) (by omega)) rfl rfl rfl
                  · skip
                    exact absurd h81 (by decide)
                · skip
                  exact absurd h69 (by decide)
              · skip
                refine e_iconst (pc := 60) dX8_sure_60 (by decide) ?_
                refine e_goto (pc := 61) (tgt := 65) dX8_sure_61 rfl ?_
                refine e_istore (pc := 65) (lo' := [(2, 49), (0, (cn : Int)), (0, ba), (1, le), (3, 0), (0, (k : Int)), (1, msF A (meF A (uset (A 19) cn (k : Int)) cn) (2 ^ cnt (lotQ (A 8)) 8)), (3, 0), (0, 1)]) dX8_sure_65 rfl (by decide) rfl ?_
                refine e_iload (pc := 67) dX8_sure_67 rfl ?_
                refine e_if_eq (pc := 69) (tgt := 77) dX8_sure_69 rfl (fun h69 => ?_) (fun h69 => ?_)
                · skip
                  exact absurd h69 (by decide)
                · skip
                  refine e_iload (pc := 72) dX8_sure_72 rfl ?_
                  refine e_goto (pc := 74) (tgt := 78) dX8_sure_74 rfl ?_
                  refine e_istoren (pc := 78) (lo' := [(2, 49), (0, (cn : Int)), (0, (k : Int)), (1, le), (3, 0), (0, (k : Int)), (1, msF A (meF A (uset (A 19) cn (k : Int)) cn) (2 ^ cnt (lotQ (A 8)) 8)), (3, 0), (0, 1)]) dX8_sure_78 rfl rfl (by decide) rfl ?_
                  refine e_iload (pc := 79) dX8_sure_79 rfl ?_
                  refine e_if_eq (pc := 81) (tgt := 89) dX8_sure_81 rfl (fun h81 => ?_) (fun h81 => ?_)
                  · skip
                    exact absurd h81 (by decide)
                  · skip
                    refine e_lload (pc := 84) dX8_sure_84 rfl ?_
                    refine e_goto (pc := 86) (tgt := 90) dX8_sure_86 rfl ?_
                    refine e_lstoren (pc := 90) (lo' := [(2, 49), (0, (cn : Int)), (0, (k : Int)), (1, msF A (meF A (uset (A 19) cn (k : Int)) cn) (2 ^ cnt (lotQ (A 8)) 8)), (3, 0), (0, (k : Int)), (1, msF A (meF A (uset (A 19) cn (k : Int)) cn) (2 ^ cnt (lotQ (A 8)) 8)), (3, 0), (0, 1)]) dX8_sure_90 rfl rfl (by decide) rfl ?_
                    refine e_iinc (pc := 91) (lo' := [(2, 49), (0, (cn : Int)), (0, (k : Int)), (1, msF A (meF A (uset (A 19) cn (k : Int)) cn) (2 ^ cnt (lotQ (A 8)) 8)), (3, 0), (0, (k : Int) + 1), (1, msF A (meF A (uset (A 19) cn (k : Int)) cn) (2 ^ cnt (lotQ (A 8)) 8)), (3, 0), (0, 1)]) dX8_sure_91 rfl (by omega) rfl (by decide) rfl ?_
                    refine e_goto (pc := 94) (tgt := 26) dX8_sure_94 rfl ?_
                    have zbs : srS (srF A cn) (k + 1) = ((k : Int), (msF A (meF A (uset (A 19) cn (k : Int)) cn) (2 ^ cnt (lotQ (A 8)) 8)) * (16 : Int) ^ (8 - cnt (lotQ (A 8)) 8)) := by
                      have z0 : 0 < k := by omega
                      rw [← zsr]
                      refine srS_t ?_
                      rw [zb1 z0, zsr]
                      exact Int.mul_lt_mul_of_pos_right (by omega) zpp
                    refine Ev.fgt [6, 8] ?_
                    exact Ev.to (ih26 _ (by omega) (k + 1) (k : Int) (msF A (meF A (uset (A 19) cn (k : Int)) cn) (2 ^ cnt (lotQ (A 8)) 8)) zlt (k : Int) zm1 (rfl) (by omega) (fun q => absurd q (by omega)) (fun _ => zbs) (zM1) (zE1) (zD1) ((zf.ms rfl).tr zf1) (by omega)) rfl rfl rfl
      exact Ev.to (L26 _ 0 0 0 0 (A 19 cn) zmb (rfl) (by omega) (fun _ => ⟨rfl, rfl⟩) (fun q => absurd q (by decide)) (zMb) (by rw [us_self]; exact zEb) (zDb) (zfz0) ((hI.2.1.2 cn zcn).2.1)) rfl rfl rfl
    · skip
      exact absurd h5 (by decide)
  · rw [if_neg zc]
    refine e_if_ne (pc := 5) (tgt := 11) dX8_sure_5 rfl (fun h5 => ?_) (fun h5 => ?_)
    · skip
      exact absurd h5 (by decide)
    · skip
      refine e_bipush (pc := 8) dX8_sure_8 rfl (by decide) ?_
      have zan : an_sure A comer = -2 := by unfold an_sure; rw [if_neg zc]
      exact e_iret (pc := 10) dX8_sure_10 rfl (by rw [← hQ_]; exact ⟨by rw [zan], hM, Fr.rf⟩)
