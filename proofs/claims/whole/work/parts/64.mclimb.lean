theorem us_self (f : Nat → Int) (c : Nat) : uset f c (f c) = f := by
  funext j
  unfold uset
  split
  · rename_i q; rw [q]
  · rfl
theorem us_us (f : Nat → Int) (c : Nat) (a b : Int) : uset (uset f c a) c b = uset f c b := by
  funext j
  unfold uset
  split <;> rfl
theorem pyE_own {A : Mem} {tm kd am : Nat → Int} {late aw : Int} (hC : CoOk A) (hE : EvR tm kd am late aw (A 2) (A 3)) {c : Nat} (hc : c < 8) (hk : kd c = 0) (ha : bt aw c = 0) (hl : bt late c = 0) : pyE A tm kd am late aw c = prA A tm kd am late aw c (am c).toNat := by
  have hr := (hE.2 c hc).2.1
  have e := pyE_pr hC hE (k := (am c).toNat) hc hk ha hl (by omega)
  rw [show (((am c).toNat : Nat) : Int) = am c by omega, us_self] at e
  exact e

theorem m_restlessNow (G : Gm) (A mem : Mem) (hI : CI A) (hM : MI A mem) : Con G mX8_restlessNow [(2, 49)] mem (fun r m' => r = some (0, an_restless A ) ∧ MI A m' ∧ Fr scZ mem m') := by
  refine Con.of (lo := [(2, 49), (3, 0), (3, 0), (3, 0), (3, 0)]) (by decide +kernel) (Nat.le_of_ble_eq_true rfl) rfl ?_
  generalize hQ_ : (fun r m' => r = some (0, an_restless A ) ∧ MI A m' ∧ Fr scZ mem m' : Option AV → Mem → Prop) = Q_
  obtain ⟨n, zn1, zn2, zn9⟩ := hI.2.2.2.2.1
  have znp : ∀ c, c < 8 → n ≤ c → ¬ A 18 c = 0 := fun c hc hq => by have := (zn9 c hc).1.mpr hq; omega
  clear zn9
  have zev := hI.ev
  refine e_aloadn (pc := 0) dX8_restlessNow_0 rfl rfl ?_
  refine e_callV (pc := 1) (as := []) (st := []) (m_asTold G A mem hI hM) dX8_restlessNow_1 lX8_restlessNow_190 rfl s_49 cn_8 rfl rfl (fun r_ zm0 hq_ => ?_)
  obtain ⟨zr_, zM0, zf0, zE0⟩ := hq_
  subst zr_
  refine Ev.to (st' := []) ?_ rfl rfl rfl
  refine e_iconst (pc := 4) dX8_restlessNow_4 (by decide) ?_
  refine e_istoren (pc := 5) (lo' := [(2, 49), (0, 0), (3, 0), (3, 0), (3, 0)]) dX8_restlessNow_5 rfl rfl (by decide) rfl ?_
  have L6 : ∀ (n_ : Nat) (k : Nat) (zmv : Mem), 8 - k = n_ → (k ≤ n) → (MI A zmv) → (ME A zmv (A 17) (A 18) (A 19) 0 0) → (Fr scZ mem zmv) → (an_restless A = fromK (fun c => decide (A 18 c = 0 ∧ prA A (A 17) (A 18) (A 19) 0 0 c (bestN (prA A (A 17) (A 18) (A 19) 0 0 c) false) < prA A (A 17) (A 18) (A 19) 0 0 c (A 19 c).toNat)) (8 - k) k) → Ev G mX8_restlessNow Q_ 6 [(2, 49), (0, (k : Int)), (3, 0), (3, 0), (3, 0)] [] zmv := by
    intro n_
    induction n_ using Nat.strongRecOn with
    | ind n_ ih6 =>
      intro k zmv hn_ zk zM zE zf zan
      refine e_iloadn (pc := 6) dX8_restlessNow_6 rfl rfl ?_
      refine e_aloadn (pc := 7) dX8_restlessNow_7 rfl rfl ?_
      refine e_getiv (pc := 8) (v := (n : Int)) dX8_restlessNow_8 fX8_99 s_49 rfl (by decide) (zM.1.1.trans zn1) ?_
      refine e_icmp_ge (pc := 11) (tgt := 84) dX8_restlessNow_11 rfl (fun h11 => ?_) (fun h11 => ?_)
      · skip
        refine e_iconst (pc := 84) dX8_restlessNow_84 (by decide) ?_
        have zend : ∀ d : Nat, d ≤ 8 - k → fromK (fun c => decide (A 18 c = 0 ∧ prA A (A 17) (A 18) (A 19) 0 0 c (bestN (prA A (A 17) (A 18) (A 19) 0 0 c) false) < prA A (A 17) (A 18) (A 19) 0 0 c (A 19 c).toNat)) d (8 - d) = -1 := by
          intro d
          induction d with
          | zero => intro _; rfl
          | succ d ih =>
            intro hd
            show (if decide _ = true then _ else fromK _ d (8 - (d + 1) + 1)) = _
            rw [if_neg (by simp only [decide_eq_true_eq]; exact fun q => znp (8 - (d + 1)) (by omega) (by omega) q.1), show 8 - (d + 1) + 1 = 8 - d by omega]
            exact ih (by omega)
        have zz := zend (8 - k) (Nat.le_refl _)
        rw [show 8 - (8 - k) = k by omega] at zz
        rw [zz] at zan
        exact e_iret (pc := 85) dX8_restlessNow_85 rfl (by rw [← hQ_]; exact ⟨by rw [zan], zM, zf⟩)
      · skip
        refine e_aloadn (pc := 14) dX8_restlessNow_14 rfl rfl ?_
        refine e_getr (pc := 15) (k := 50) dX8_restlessNow_15 fX8_7 s_49 rfl (by decide) ?_
        refine e_iloadn (pc := 18) dX8_restlessNow_18 rfl rfl ?_
        refine e_ialdv (pc := 19) (v := (A 18 k)) dX8_restlessNow_19 s_50 (by omega) ((zM.1.2 k (by omega) ((hI.cm zn1 (by omega)).mpr (by omega))).1.1) ?_
        refine e_if_ne (pc := 20) (tgt := 78) dX8_restlessNow_20 rfl (fun h20 => ?_) (fun h20 => ?_)
        · skip
          refine e_iinc (pc := 78) (lo' := [(2, 49), (0, (k : Int) + 1), (3, 0), (3, 0), (3, 0)]) dX8_restlessNow_78 rfl (by omega) rfl (by decide) rfl ?_
          refine e_goto (pc := 81) (tgt := 6) dX8_restlessNow_81 rfl ?_
          exact Ev.to (ih6 _ (by omega) (k + 1) zmv (rfl) (by omega) (zM) (zE) (zf) (zan.trans (fromK_f (decide_eq_false (fun q => h20 q.1)) (by omega)))) rfl rfl rfl
        · skip
          refine e_aloadn (pc := 23) dX8_restlessNow_23 rfl rfl ?_
          refine e_callV (pc := 24) (as := []) (st := []) (m_goes G A zmv (A 17) (A 18) (A 19) 0 0 hI zM zE) dX8_restlessNow_24 lX8_restlessNow_193 rfl s_49 cn_8 rfl rfl (fun r_ zm1 hq_ => ?_)
          obtain ⟨zr_, zM1, zf1, zG1⟩ := hq_
          subst zr_
          have zE1 := zE.o zf1
          have zk8 : k < 8 := by omega
          have zq : A 18 k ≠ -1 := by omega
          refine Ev.to (st' := []) ?_ rfl rfl rfl
          refine e_aloadn (pc := 27) dX8_restlessNow_27 rfl rfl ?_
          refine e_iloadn (pc := 28) dX8_restlessNow_28 rfl rfl ?_
          have zPN := m_paysNow G A zm1 (A 17) (A 18) (A 19) 0 0 k zk8 zq hI zM1 zE1 zG1
          rw [pyE_own hI.1 zev zk8 h20 (bt_0 _) (bt_0 _)] at zPN
          refine e_callVr (pc := 29) (as := [(0, (k : Int))]) (st := []) (zPN) dX8_restlessNow_29 lX8_restlessNow_187 rfl s_49 cn_8 rfl rfl ?_
          refine e_istoren (pc := 32) (lo' := [(2, 49), (0, (k : Int)), (0, prA A (A 17) (A 18) (A 19) 0 0 k (A 19 k).toNat), (3, 0), (3, 0)]) dX8_restlessNow_32 rfl rfl (by decide) rfl ?_
          refine e_aloadn (pc := 33) dX8_restlessNow_33 rfl rfl ?_
          refine e_getr (pc := 34) (k := 62) dX8_restlessNow_34 fX8_47 s_49 rfl (by decide) ?_
          refine e_iloadn (pc := 37) dX8_restlessNow_37 rfl rfl ?_
          refine e_ialdv (pc := 38) (v := (zm1 62 k)) dX8_restlessNow_38 s_62 (by omega) (rfl) ?_
          refine e_istoren (pc := 39) (lo' := [(2, 49), (0, (k : Int)), (0, prA A (A 17) (A 18) (A 19) 0 0 k (A 19 k).toNat), (0, (zm1 62 k)), (3, 0)]) dX8_restlessNow_39 rfl rfl (by decide) rfl ?_
          refine e_aloadn (pc := 40) dX8_restlessNow_40 rfl rfl ?_
          refine e_getr (pc := 41) (k := 62) dX8_restlessNow_41 fX8_47 s_49 rfl (by decide) ?_
          refine e_iloadn (pc := 44) dX8_restlessNow_44 rfl rfl ?_
          refine e_aloadn (pc := 45) dX8_restlessNow_45 rfl rfl ?_
          refine e_iloadn (pc := 46) dX8_restlessNow_46 rfl rfl ?_
          refine e_iconst (pc := 47) dX8_restlessNow_47 (by decide) ?_
          refine e_callV (pc := 48) (as := [(0, (k : Int)), (0, 0)]) (st := [(0, (k : Int)), (2, 62)]) (m_bestOf G A zm1 (A 17) (A 18) (A 19) 0 0 k false zk8 h20 (bt_0 _) (bt_0 _) hI zM1 zE1) dX8_restlessNow_48 lX8_restlessNow_199 rfl s_49 cn_8 rfl rfl (fun r_ zm2 hq_ => ?_)
          obtain ⟨zr_, zM2, zf2⟩ := hq_
          subst zr_
          refine Ev.to (st' := [(0, ((bestN (prA A (A 17) (A 18) (A 19) 0 0 k) false : Nat) : Int)), (0, (k : Int)), (2, 62)]) ?_ rfl rfl rfl
          refine e_iastm (pc := 51) (mem2 := mset zm2 62 k ((bestN (prA A (A 17) (A 18) (A 19) 0 0 k) false : Nat) : Int)) dX8_restlessNow_51 s_62 (by omega) rfl ?_
          refine e_aloadn (pc := 52) dX8_restlessNow_52 rfl rfl ?_
          have zbb := bestN_le (prA A (A 17) (A 18) (A 19) 0 0 k) false
          have zE2b := zE1.o zf2
          have zE2c : ME A (mset zm2 62 k ((bestN (prA A (A 17) (A 18) (A 19) 0 0 k) false : Nat) : Int)) (A 17) (A 18) (uset (A 19) k ((bestN (prA A (A 17) (A 18) (A 19) 0 0 k) false : Nat) : Int)) 0 0 := zE2b.us (by omega) (fun j h1 h2 => rfl) (fun d hd => by rw [mset_row])
          refine e_callV (pc := 53) (as := []) (st := []) (m_goes G A (mset zm2 62 k ((bestN (prA A (A 17) (A 18) (A 19) 0 0 k) false : Nat) : Int)) (A 17) (A 18) (uset (A 19) k ((bestN (prA A (A 17) (A 18) (A 19) 0 0 k) false : Nat) : Int)) 0 0 hI (zM2.v ((Fr.rf (S := scV)).ms rfl)) zE2c) dX8_restlessNow_53 lX8_restlessNow_193 rfl s_49 cn_8 rfl rfl (fun r_ zm3 hq_ => ?_)
          obtain ⟨zr_, zM3, zf3, zG3⟩ := hq_
          subst zr_
          have zE3 := zE2c.o zf3
          refine Ev.to (st' := []) ?_ rfl rfl rfl
          refine e_aloadn (pc := 56) dX8_restlessNow_56 rfl rfl ?_
          refine e_iloadn (pc := 57) dX8_restlessNow_57 rfl rfl ?_
          have zPM := m_paysNow G A zm3 (A 17) (A 18) (uset (A 19) k ((bestN (prA A (A 17) (A 18) (A 19) 0 0 k) false : Nat) : Int)) 0 0 k zk8 zq hI zM3 zE3 zG3
          rw [pyE_pr hI.1 zev zk8 h20 (bt_0 _) (bt_0 _) zbb] at zPM
          refine e_callVr (pc := 58) (as := [(0, (k : Int))]) (st := []) (zPM) dX8_restlessNow_58 lX8_restlessNow_187 rfl s_49 cn_8 rfl rfl ?_
          refine e_istore (pc := 61) (lo' := [(2, 49), (0, (k : Int)), (0, prA A (A 17) (A 18) (A 19) 0 0 k (A 19 k).toNat), (0, (zm1 62 k)), (0, prA A (A 17) (A 18) (A 19) 0 0 k (bestN (prA A (A 17) (A 18) (A 19) 0 0 k) false))]) dX8_restlessNow_61 rfl (by decide) rfl ?_
          refine e_aloadn (pc := 63) dX8_restlessNow_63 rfl rfl ?_
          refine e_getr (pc := 64) (k := 62) dX8_restlessNow_64 fX8_47 s_49 rfl (by decide) ?_
          refine e_iloadn (pc := 67) dX8_restlessNow_67 rfl rfl ?_
          refine e_iloadn (pc := 68) dX8_restlessNow_68 rfl rfl ?_
          refine e_iastm (pc := 69) (mem2 := mset zm3 62 k (zm1 62 k)) dX8_restlessNow_69 s_62 (by omega) rfl ?_
          refine e_iload (pc := 70) dX8_restlessNow_70 rfl ?_
          refine e_iloadn (pc := 72) dX8_restlessNow_72 rfl rfl ?_
          refine e_icmp_ge (pc := 73) (tgt := 78) dX8_restlessNow_73 rfl (fun h73 => ?_) (fun h73 => ?_)
          · skip
            refine e_iinc (pc := 78) (lo' := [(2, 49), (0, (k : Int) + 1), (0, prA A (A 17) (A 18) (A 19) 0 0 k (A 19 k).toNat), (0, (zm1 62 k)), (0, prA A (A 17) (A 18) (A 19) 0 0 k (bestN (prA A (A 17) (A 18) (A 19) 0 0 k) false))]) dX8_restlessNow_78 rfl (by omega) rfl (by decide) rfl ?_
            refine e_goto (pc := 81) (tgt := 6) dX8_restlessNow_81 rfl ?_
            have zrow : (mset zm3 62 k (zm1 62 k)) 62 = zm1 62 := by
              rw [mset_row]
              have z1 : zm3 62 = uset (zm2 62) k ((bestN (prA A (A 17) (A 18) (A 19) 0 0 k) false : Nat) : Int) := (funext (fun j => zf3 62 j rfl) : zm3 62 = _).trans (mset_row _ _ _ _)
              have z2 : zm2 62 = zm1 62 := funext (fun j => zf2 62 j rfl)
              rw [z1, z2, us_us, us_self]
            have zEk : ME A (mset zm3 62 k (zm1 62 k)) (A 17) (A 18) (A 19) 0 0 := zE1.mv (fun j h1 h2 => (zf3 49 j (by unfold scO; simp; omega)).trans (zf2 49 j (by unfold scO; simp; omega))) zrow
            have zfk : Fr scZ mem (mset zm3 62 k (zm1 62 k)) := (((zf.tr (scOZ zf1)).tr (scOZ zf2)).ms rfl |>.tr (scOZ zf3)).ms rfl
            refine Ev.fgt [2, 3, 4] ?_
            exact Ev.to (ih6 _ (by omega) (k + 1) (mset zm3 62 k (zm1 62 k)) (rfl) (by omega) (zM3.v ((Fr.rf (S := scV)).ms rfl)) (zEk) (zfk) (zan.trans (fromK_f (decide_eq_false (fun q => by have := q.2; omega)) (by omega)))) rfl rfl rfl
          · skip
            refine e_iloadn (pc := 76) dX8_restlessNow_76 rfl rfl ?_
            have zrow : (mset zm3 62 k (zm1 62 k)) 62 = zm1 62 := by
              rw [mset_row]
              have z1 : zm3 62 = uset (zm2 62) k ((bestN (prA A (A 17) (A 18) (A 19) 0 0 k) false : Nat) : Int) := (funext (fun j => zf3 62 j rfl) : zm3 62 = _).trans (mset_row _ _ _ _)
              have z2 : zm2 62 = zm1 62 := funext (fun j => zf2 62 j rfl)
              rw [z1, z2, us_us, us_self]
            have zEk : ME A (mset zm3 62 k (zm1 62 k)) (A 17) (A 18) (A 19) 0 0 := zE1.mv (fun j h1 h2 => (zf3 49 j (by unfold scO; simp; omega)).trans (zf2 49 j (by unfold scO; simp; omega))) zrow
            have zfk : Fr scZ mem (mset zm3 62 k (zm1 62 k)) := (((zf.tr (scOZ zf1)).tr (scOZ zf2)).ms rfl |>.tr (scOZ zf3)).ms rfl
            rw [fromK_t (decide_eq_true ⟨h20, by omega⟩) (by omega)] at zan
            exact e_iret (pc := 77) dX8_restlessNow_77 rfl (by rw [← hQ_]; exact ⟨by rw [zan], zM3.v ((Fr.rf (S := scV)).ms rfl), zfk⟩)
  exact Ev.to (L6 _ 0 zm0 (rfl) (by omega) (zM0) (zE0) (scHZ zf0) (rfl)) rfl rfl rfl

theorem m_restless (G : Gm) (A mem : Mem) (hI : CI A) (hM : MI A mem) : Con G mX8_restless [(2, 49)] mem (fun r m' => r = some (0, an_restless A ) ∧ MI A m' ∧ Fr scZ mem m') := by
  refine Con.of (lo := [(2, 49)]) (by decide +kernel) (Nat.le_of_ble_eq_true rfl) rfl ?_
  generalize hQ_ : (fun r m' => r = some (0, an_restless A ) ∧ MI A m' ∧ Fr scZ mem m' : Option AV → Mem → Prop) = Q_
  refine e_aloadn (pc := 0) dX8_restless_0 rfl rfl ?_
  refine e_callV (pc := 1) (as := []) (st := []) (m_restlessNow G A mem hI hM) dX8_restless_1 lX8_restless_203 rfl s_49 cn_8 rfl rfl (fun r_ zm1 hq_ => ?_)
  obtain ⟨zr_, zM1, zf1⟩ := hq_
  subst zr_
  refine Ev.to (st' := [(0, an_restless A)]) ?_ rfl rfl rfl
  exact e_iret (pc := 4) dX8_restless_4 rfl (by rw [← hQ_]; exact ⟨rfl, zM1, zf1⟩)

theorem rnd_tail {bf : (Nat → Int) → Nat → Nat} {kd x : Nat → Int} {n : Nat} : ∀ d : Nat, n + d ≤ 8 → (∀ c, c < 8 → n ≤ c → ¬ kd c = 0) → rndTo bf kd x (n + d) = rndTo bf kd x n
  | 0, _, _ => rfl
  | d + 1, h, hk => by
    show rndTo bf kd x (n + d + 1) = _
    rw [rndTo_s, if_neg (hk (n + d) (by omega) (by omega)), rnd_tail d (by omega) hk]
theorem rnd_bd {bf : (Nat → Int) → Nat → Nat} {kd x : Nat → Int} (hb : ∀ a c, bf a c ≤ 60) (hx : ∀ c, c < 8 → 0 ≤ x c ∧ x c ≤ 60) : ∀ k : Nat, ∀ c, c < 8 → 0 ≤ (rndTo bf kd x k).2 c ∧ (rndTo bf kd x k).2 c ≤ 60
  | 0 => hx
  | k + 1 => fun c hc => by
    have ih := rnd_bd (kd := kd) hb hx k
    rw [rndTo_s]
    split
    · show 0 ≤ uset _ k _ c ∧ uset _ k _ c ≤ 60
      unfold uset
      split
      · have := hb (rndTo bf kd x k).2 k; omega
      · exact ih c hc
    · exact ih c hc
theorem rnd_t {bf : (Nat → Int) → Nat → Nat} {kd x : Nat → Int} {k : Nat} (h : kd k = 0) : rndTo bf kd x (k + 1) = ((rndTo bf kd x k).1 || decide (((bf (rndTo bf kd x k).2 k : Nat) : Int) ≠ (rndTo bf kd x k).2 k), uset (rndTo bf kd x k).2 k ((bf (rndTo bf kd x k).2 k : Nat) : Int)) := by rw [rndTo_s, if_pos h]
theorem rnd_f {bf : (Nat → Int) → Nat → Nat} {kd x : Nat → Int} {k : Nat} (h : ¬ kd k = 0) : rndTo bf kd x (k + 1) = rndTo bf kd x k := by rw [rndTo_s, if_neg h]

theorem m_climbs (G : Gm) (A mem : Mem) (tm kd am : Nat → Int) (down : Bool) (hI : CI A) (hM : MI A mem) (hE : ME A mem tm kd am 0 0) : Con G mX8_climbs [(2, 49), (0, (if down then 1 else 0))] mem (fun r m' => ∃ v : Int, r = some (0, v) ∧ MI A m' ∧ Fr scZ mem m' ∧ ((v = 0 ∧ cliA A tm kd down = none) ∨ (v = 1 ∧ ∃ x, cliA A tm kd down = some x ∧ ME A m' tm kd x 0 0 ∧ GO A m' tm kd x 0 0))) := by
  refine Con.of (lo := [(2, 49), (0, (if down then 1 else 0)), (3, 0), (3, 0), (3, 0), (3, 0)]) (by decide +kernel) (Nat.le_of_ble_eq_true rfl) rfl ?_
  generalize hQ_ : (fun r m' => ∃ v : Int, r = some (0, v) ∧ MI A m' ∧ Fr scZ mem m' ∧ ((v = 0 ∧ cliA A tm kd down = none) ∨ (v = 1 ∧ ∃ x, cliA A tm kd down = some x ∧ ME A m' tm kd x 0 0 ∧ GO A m' tm kd x 0 0)) : Option AV → Mem → Prop) = Q_
  obtain ⟨n, zn1, zn2, zn9⟩ := hI.2.2.2.2.1
  have zn3 := hM.1.1.trans zn1
  have zno : ∀ c, c < 8 → n ≤ c → ¬ kd c = 0 := fun c hc hq => by
    have z1 := (zn9 c hc).1.mpr hq
    have z2 := (hE.kd hc).2.1.mpr z1
    omega
  clear zn9
  have zbf : ∀ a c, bfT A tm kd 0 0 down a c ≤ 60 := fun a c => bestN_le _ _
  have zcl0 : cliA A tm kd down = clm (bfT A tm kd 0 0 down) kd 20 (fun _ => if down then 60 else 0) := rfl
  refine e_iconst (pc := 0) dX8_climbs_0 (by decide) ?_
  refine e_istoren (pc := 1) (lo' := [(2, 49), (0, (if down then 1 else 0)), (0, 0), (3, 0), (3, 0), (3, 0)]) dX8_climbs_1 rfl rfl (by decide) rfl ?_
  have L2 : ∀ (n_ : Nat) (k : Nat), 8 - k = n_ → (k ≤ n) → Ev G mX8_climbs Q_ 2 [(2, 49), (0, (if down then 1 else 0)), (0, (k : Int)), (3, 0), (3, 0), (3, 0)] [] (rset mem 62 (cl0 (A 18) (mem 62) (if down then 60 else 0) k)) := by
    intro n_
    induction n_ using Nat.strongRecOn with
    | ind n_ ih2 =>
      intro k hn_ zk
      refine e_iloadn (pc := 2) dX8_climbs_2 rfl rfl ?_
      refine e_aloadn (pc := 3) dX8_climbs_3 rfl rfl ?_
      refine e_getiv (pc := 4) (v := (n : Int)) dX8_climbs_4 fX8_99 s_49 rfl (by decide) (zn3) ?_
      refine e_icmp_ge (pc := 7) (tgt := 50) dX8_climbs_7 rfl (fun h7 => ?_) (fun h7 => ?_)
      · skip
        have zke : k = n := by omega
        have zE1 : ME A (rset mem 62 (cl0 (A 18) (mem 62) (if down then 60 else 0) k)) tm kd (fun _ => (if down then 60 else 0)) 0 0 := by
          obtain ⟨e1, e2, e3, e4, e5⟩ := hE
          refine ⟨e1, e2, e3, fun c hc hk => ?_, e5.1, fun c hc => ⟨(e5.2 c hc).1, ?_, (e5.2 c hc).2.2⟩⟩
          · show cl0 (A 18) (mem 62) (if down then 60 else 0) k c = (if down then 60 else 0)
            have z1 := (ME.kd ⟨e1, e2, e3, e4, e5⟩ hc).2.2.1.mp hk
            unfold cl0
            rw [if_pos ⟨by have := (hI.cm zn1 hc).mp (by omega); omega, z1.1⟩]
          · show 0 ≤ (if down then (60 : Int) else 0) ∧ (if down then (60 : Int) else 0) ≤ 60
            cases down <;> decide
        refine e_iconst (pc := 50) dX8_climbs_50 (by decide) ?_
        refine e_istoren (pc := 51) (lo' := [(2, 49), (0, (if down then 1 else 0)), (0, 0), (3, 0), (3, 0), (3, 0)]) dX8_climbs_51 rfl rfl (by decide) rfl ?_
        have L52 : ∀ (n_ : Nat) (rd : Nat) (x : Nat → Int) (zmv : Mem), 20 - rd = n_ → (rd ≤ 20) → (MI A zmv) → (ME A zmv tm kd x 0 0) → (Fr scZ mem zmv) → (cliA A tm kd down = clm (bfT A tm kd 0 0 down) kd (20 - rd) x) → Ev G mX8_climbs Q_ 52 [(2, 49), (0, (if down then 1 else 0)), (0, (rd : Int)), (3, 0), (3, 0), (3, 0)] [] zmv := by
          intro n_
          induction n_ using Nat.strongRecOn with
          | ind n_ ih52 =>
            intro rd x zmv hn_ zrd zM zE zf zcl
            refine e_iloadn (pc := 52) dX8_climbs_52 rfl rfl ?_
            refine e_bipush (pc := 53) dX8_climbs_53 rfl (by decide) ?_
            refine e_icmp_ge (pc := 55) (tgt := 156) dX8_climbs_55 rfl (fun h55 => ?_) (fun h55 => ?_)
            · skip
              refine e_iconst (pc := 156) dX8_climbs_156 (by decide) ?_
              rw [show 20 - rd = 0 by omega] at zcl
              exact e_zret (pc := 157) dX8_climbs_157 rfl (by decide) (by rw [← hQ_]; exact ⟨_, rfl, zM, zf, Or.inl ⟨rfl, zcl⟩⟩)
            · skip
              refine e_iconst (pc := 58) dX8_climbs_58 (by decide) ?_
              refine e_istoren (pc := 59) (lo' := [(2, 49), (0, (if down then 1 else 0)), (0, (rd : Int)), (0, 0), (3, 0), (3, 0)]) dX8_climbs_59 rfl rfl (by decide) rfl ?_
              refine e_iconst (pc := 60) dX8_climbs_60 (by decide) ?_
              refine e_istore (pc := 61) (lo' := [(2, 49), (0, (if down then 1 else 0)), (0, (rd : Int)), (0, 0), (0, 0), (3, 0)]) dX8_climbs_61 rfl (by decide) rfl ?_
              have L63 : ∀ (n_ : Nat) (k : Nat) (zmw : Mem), 8 - k = n_ → (k ≤ n) → (MI A zmw) → (ME A zmw tm kd (rndTo (bfT A tm kd 0 0 down) kd x k).2 0 0) → (Fr scZ mem zmw) → Ev G mX8_climbs Q_ 63 [(2, 49), (0, (if down then 1 else 0)), (0, (rd : Int)), (0, (if (rndTo (bfT A tm kd 0 0 down) kd x k).1 then 1 else 0)), (0, (k : Int)), (3, 0)] [] zmw := by
                intro n_
                induction n_ using Nat.strongRecOn with
                | ind n_ ih63 =>
                  intro k zmw hn_ zkn zMw zEw zfw
                  refine e_iload (pc := 63) dX8_climbs_63 rfl ?_
                  refine e_aloadn (pc := 65) dX8_climbs_65 rfl rfl ?_
                  refine e_getiv (pc := 66) (v := (n : Int)) dX8_climbs_66 fX8_99 s_49 rfl (by decide) (zMw.1.1.trans zn1) ?_
                  refine e_icmp_ge (pc := 69) (tgt := 140) dX8_climbs_69 rfl (fun h69 => ?_) (fun h69 => ?_)
                  · skip
                    have zke2 : k = n := by omega
                    have zr8 : rndTo (bfT A tm kd 0 0 down) kd x n = rndTo (bfT A tm kd 0 0 down) kd x 8 := by
                      have z1 := rnd_tail (bf := (bfT A tm kd 0 0 down)) (kd := kd) (x := x) (n := n) (8 - n) (by omega) zno
                      rw [show n + (8 - n) = 8 by omega] at z1
                      exact z1.symm
                    refine e_iloadn (pc := 140) dX8_climbs_140 rfl rfl ?_
                    refine e_if_ne (pc := 141) (tgt := 150) dX8_climbs_141 rfl (fun h141 => ?_) (fun h141 => ?_)
                    · skip
                      refine e_iinc (pc := 150) (lo' := [(2, 49), (0, (if down then 1 else 0)), (0, (rd : Int) + 1), (0, (if (rndTo (bfT A tm kd 0 0 down) kd x k).1 then 1 else 0)), (0, (k : Int)), (3, 0)]) dX8_climbs_150 rfl (by omega) rfl (by decide) rfl ?_
                      refine e_goto (pc := 153) (tgt := 52) dX8_climbs_153 rfl ?_
                      have zch : (rndTo (bfT A tm kd 0 0 down) kd x 8).1 = true := by
                        rw [← zr8]
                        cases zq : (rndTo (bfT A tm kd 0 0 down) kd x n).1 with
                        | true => rfl
                        | false => rw [zke2, zq] at h141; exact absurd rfl h141
                      have zcl2 : cliA A tm kd down = clm (bfT A tm kd 0 0 down) kd (20 - (rd + 1)) (rndTo (bfT A tm kd 0 0 down) kd x 8).2 := by
                        rw [zcl, show 20 - rd = (20 - (rd + 1)) + 1 by omega]
                        show (if (rndTo (bfT A tm kd 0 0 down) kd x 8).1 = true then _ else _) = _
                        rw [if_pos zch]
                      rw [zke2] at zEw
                      refine Ev.fgt [3, 4] ?_
                      exact Ev.to (ih52 _ (by omega) (rd + 1) ((rndTo (bfT A tm kd 0 0 down) kd x 8).2) zmw (rfl) (by omega) (zMw) (by rw [← zr8]; exact zEw) (zfw) (zcl2)) rfl rfl rfl
                    · skip
                      refine e_aloadn (pc := 144) dX8_climbs_144 rfl rfl ?_
                      refine e_callV (pc := 145) (as := []) (st := []) (m_goes G A zmw tm kd (rndTo (bfT A tm kd 0 0 down) kd x k).2 0 0 hI zMw zEw) dX8_climbs_145 lX8_climbs_193 rfl s_49 cn_8 rfl rfl (fun r_ zm3 hq_ => ?_)
                      obtain ⟨zr_, zM3, zf3, zG3⟩ := hq_
                      subst zr_
                      have zE3 := zEw.o zf3
                      refine Ev.to (st' := []) ?_ rfl rfl rfl
                      refine e_iconst (pc := 148) dX8_climbs_148 (by decide) ?_
                      have zch : (rndTo (bfT A tm kd 0 0 down) kd x 8).1 = false := by
                        rw [← zr8]
                        cases zq : (rndTo (bfT A tm kd 0 0 down) kd x n).1 with
                        | false => rfl
                        | true => rw [zke2, zq] at h141; exact absurd h141 (by decide)
                      have zcl2 : cliA A tm kd down = some (rndTo (bfT A tm kd 0 0 down) kd x 8).2 := by
                        rw [zcl, show 20 - rd = (20 - (rd + 1)) + 1 by omega]
                        show (if (rndTo (bfT A tm kd 0 0 down) kd x 8).1 = true then _ else _) = _
                        rw [if_neg (by rw [zch]; decide)]
                      rw [zke2, zr8] at zE3 zG3
                      exact e_zret (pc := 149) dX8_climbs_149 rfl (by decide) (by rw [← hQ_]; exact ⟨_, rfl, zM3, zfw.tr (scOZ zf3), Or.inr ⟨rfl, _, zcl2, zE3, zG3⟩⟩)
                  · skip
                    have zk8 : k < 8 := by omega
                    obtain ⟨zkd1, zkd2, zkd3, zkd4⟩ := zEw.kd zk8
                    have zb1 := bt_01 (zmw 49 25) k
                    have zgb := zEw.2.1.2.2
                    refine e_aloadn (pc := 72) dX8_climbs_72 rfl rfl ?_
                    refine e_getr (pc := 73) (k := 50) dX8_climbs_73 fX8_7 s_49 rfl (by decide) ?_
                    refine e_iload (pc := 76) dX8_climbs_76 rfl ?_
                    refine e_ialdv (pc := 78) (v := (A 18 k)) dX8_climbs_78 s_50 (by omega) ((zMw.1.2 k (by omega) ((hI.cm zn1 (by omega)).mpr (by omega))).1.1) ?_
                    refine e_if_ne (pc := 79) (tgt := 134) dX8_climbs_79 rfl (fun h79 => ?_) (fun h79 => ?_)
                    · skip
                      refine e_iinc (pc := 134) (lo' := [(2, 49), (0, (if down then 1 else 0)), (0, (rd : Int)), (0, (if (rndTo (bfT A tm kd 0 0 down) kd x k).1 then 1 else 0)), (0, (k : Int) + 1), (3, 0)]) dX8_climbs_134 rfl (by omega) rfl (by decide) rfl ?_
                      refine e_goto (pc := 137) (tgt := 63) dX8_climbs_137 rfl ?_
                      have zrs : rndTo (bfT A tm kd 0 0 down) kd x (k + 1) = (rndTo (bfT A tm kd 0 0 down) kd x k) := rnd_f (by omega)
                      exact Ev.to (ih63 _ (by omega) (k + 1) zmw (rfl) (by omega) (zMw) (by rw [zrs]; exact zEw) (zfw)) (by rw [zrs]; rfl) rfl rfl
                    · skip
                      refine e_aloadn (pc := 82) dX8_climbs_82 rfl rfl ?_
                      refine e_getiv (pc := 83) (v := (zmw 49 25)) dX8_climbs_83 fX8_166 s_49 rfl (by decide) (rfl) ?_
                      refine e_iload (pc := 86) dX8_climbs_86 rfl ?_
                      refine e_ishr (pc := 88) dX8_climbs_88 ?_
                      refine e_iconst (pc := 89) dX8_climbs_89 (by decide) ?_
                      refine e_iand (pc := 90) dX8_climbs_90 ?_
                      rw [show bAnd (bShr (zmw 49 25) (k : Int)) 1 = bt (zmw 49 25) k from bt_eq (by omega) (by omega) (by omega)]
                      refine e_if_ne (pc := 91) (tgt := 134) dX8_climbs_91 rfl (fun h91 => ?_) (fun h91 => ?_)
                      · skip
                        refine e_iinc (pc := 134) (lo' := [(2, 49), (0, (if down then 1 else 0)), (0, (rd : Int)), (0, (if (rndTo (bfT A tm kd 0 0 down) kd x k).1 then 1 else 0)), (0, (k : Int) + 1), (3, 0)]) dX8_climbs_134 rfl (by omega) rfl (by decide) rfl ?_
                        refine e_goto (pc := 137) (tgt := 63) dX8_climbs_137 rfl ?_
                        have zrs : rndTo (bfT A tm kd 0 0 down) kd x (k + 1) = (rndTo (bfT A tm kd 0 0 down) kd x k) := rnd_f (by omega)
                        exact Ev.to (ih63 _ (by omega) (k + 1) zmw (rfl) (by omega) (zMw) (by rw [zrs]; exact zEw) (zfw)) (by rw [zrs]; rfl) rfl rfl
                      · skip
                        refine e_aloadn (pc := 94) dX8_climbs_94 rfl rfl ?_
                        refine e_iload (pc := 95) dX8_climbs_95 rfl ?_
                        refine e_iloadn (pc := 97) dX8_climbs_97 rfl rfl ?_
                        refine e_callV (pc := 98) (as := [(0, (k : Int)), (0, (if down then 1 else 0))]) (st := []) (m_bestOf G A zmw tm kd (rndTo (bfT A tm kd 0 0 down) kd x k).2 0 0 k down zk8 (by omega) (bt_0 _) (bt_0 _) hI zMw zEw) dX8_climbs_98 lX8_climbs_199 rfl s_49 cn_8 rfl rfl (fun r_ zm1 hq_ => ?_)
                        obtain ⟨zr_, zM1, zf1⟩ := hq_
                        subst zr_
                        refine Ev.to (st' := [(0, (((bfT A tm kd 0 0 down) (rndTo (bfT A tm kd 0 0 down) kd x k).2 k : Nat) : Int))]) ?_ rfl rfl rfl
                        refine e_istore (pc := 101) (lo' := [(2, 49), (0, (if down then 1 else 0)), (0, (rd : Int)), (0, (if (rndTo (bfT A tm kd 0 0 down) kd x k).1 then 1 else 0)), (0, (k : Int)), (0, (((bfT A tm kd 0 0 down) (rndTo (bfT A tm kd 0 0 down) kd x k).2 k : Nat) : Int))]) dX8_climbs_101 rfl (by decide) rfl ?_
                        refine e_iloadn (pc := 103) dX8_climbs_103 rfl rfl ?_
                        refine e_if_ne (pc := 104) (tgt := 119) dX8_climbs_104 rfl (fun h104 => ?_) (fun h104 => ?_)
                        · skip
                          have zfl : (rndTo (bfT A tm kd 0 0 down) kd x k).1 = true := by cases zq : (rndTo (bfT A tm kd 0 0 down) kd x k).1 with
                            | true => rfl
                            | false => rw [zq] at h104; exact absurd rfl h104
                          refine e_iconst (pc := 119) dX8_climbs_119 (by decide) ?_
                          refine e_goto (pc := 120) (tgt := 124) dX8_climbs_120 rfl ?_
                          refine e_istoren (pc := 124) (lo' := [(2, 49), (0, (if down then 1 else 0)), (0, (rd : Int)), (0, 1), (0, (k : Int)), (0, (((bfT A tm kd 0 0 down) (rndTo (bfT A tm kd 0 0 down) kd x k).2 k : Nat) : Int))]) dX8_climbs_124 rfl rfl (by decide) rfl ?_
                          refine e_aloadn (pc := 125) dX8_climbs_125 rfl rfl ?_
                          refine e_getr (pc := 126) (k := 62) dX8_climbs_126 fX8_47 s_49 rfl (by decide) ?_
                          refine e_iload (pc := 129) dX8_climbs_129 rfl ?_
                          refine e_iload (pc := 131) dX8_climbs_131 rfl ?_
                          refine e_iastm (pc := 133) (mem2 := mset zm1 62 k (((bfT A tm kd 0 0 down) (rndTo (bfT A tm kd 0 0 down) kd x k).2 k : Nat) : Int)) dX8_climbs_133 s_62 (by omega) rfl ?_
                          refine e_iinc (pc := 134) (lo' := [(2, 49), (0, (if down then 1 else 0)), (0, (rd : Int)), (0, 1), (0, (k : Int) + 1), (0, (((bfT A tm kd 0 0 down) (rndTo (bfT A tm kd 0 0 down) kd x k).2 k : Nat) : Int))]) dX8_climbs_134 rfl (by omega) rfl (by decide) rfl ?_
                          refine e_goto (pc := 137) (tgt := 63) dX8_climbs_137 rfl ?_
                          have zrs : rndTo (bfT A tm kd 0 0 down) kd x (k + 1) = (true, uset (rndTo (bfT A tm kd 0 0 down) kd x k).2 k (((bfT A tm kd 0 0 down) (rndTo (bfT A tm kd 0 0 down) kd x k).2 k : Nat) : Int)) := by
                            rw [rnd_t (by omega)]
                            first | (rw [show (rndTo (bfT A tm kd 0 0 down) kd x k).1 = true from zfl]; rfl) | (rw [decide_eq_true h116, Bool.or_true])
                          have zE2 : ME A (mset zm1 62 k (((bfT A tm kd 0 0 down) (rndTo (bfT A tm kd 0 0 down) kd x k).2 k : Nat) : Int)) tm kd (uset (rndTo (bfT A tm kd 0 0 down) kd x k).2 k (((bfT A tm kd 0 0 down) (rndTo (bfT A tm kd 0 0 down) kd x k).2 k : Nat) : Int)) 0 0 := (zEw.o zf1).us (by have := zbf (rndTo (bfT A tm kd 0 0 down) kd x k).2 k; omega) (fun j h1 h2 => rfl) (fun d hd => by rw [mset_row])
                          have zf2 : Fr scZ mem (mset zm1 62 k (((bfT A tm kd 0 0 down) (rndTo (bfT A tm kd 0 0 down) kd x k).2 k : Nat) : Int)) := (zfw.tr (scOZ zf1)).ms rfl
                          refine Ev.fgt [5] ?_
                          exact Ev.to (ih63 _ (by omega) (k + 1) (mset zm1 62 k (((bfT A tm kd 0 0 down) (rndTo (bfT A tm kd 0 0 down) kd x k).2 k : Nat) : Int)) (rfl) (by omega) (zM1.v ((Fr.rf (S := scV)).ms rfl)) (by rw [zrs]; exact zE2) (zf2)) (by rw [zrs]; rfl) rfl rfl
                        · skip
                          have zfl : (rndTo (bfT A tm kd 0 0 down) kd x k).1 = false := by cases zq : (rndTo (bfT A tm kd 0 0 down) kd x k).1 with
                            | false => rfl
                            | true => rw [zq] at h104; exact absurd h104 (by decide)
                          refine e_iload (pc := 107) dX8_climbs_107 rfl ?_
                          refine e_aloadn (pc := 109) dX8_climbs_109 rfl rfl ?_
                          refine e_getr (pc := 110) (k := 62) dX8_climbs_110 fX8_47 s_49 rfl (by decide) ?_
                          refine e_iload (pc := 113) dX8_climbs_113 rfl ?_
                          refine e_ialdv (pc := 115) (v := ((rndTo (bfT A tm kd 0 0 down) kd x k).2 k)) dX8_climbs_115 s_62 (by omega) ((zf1 62 k rfl).trans (zEw.2.2.2.1 k zk8 (by omega))) ?_
                          refine e_icmp_eq (pc := 116) (tgt := 123) dX8_climbs_116 rfl (fun h116 => ?_) (fun h116 => ?_)
                          · skip
                            refine e_iconst (pc := 123) dX8_climbs_123 (by decide) ?_
                            refine e_istoren (pc := 124) (lo' := [(2, 49), (0, (if down then 1 else 0)), (0, (rd : Int)), (0, 0), (0, (k : Int)), (0, (((bfT A tm kd 0 0 down) (rndTo (bfT A tm kd 0 0 down) kd x k).2 k : Nat) : Int))]) dX8_climbs_124 rfl rfl (by decide) rfl ?_
                            refine e_aloadn (pc := 125) dX8_climbs_125 rfl rfl ?_
                            refine e_getr (pc := 126) (k := 62) dX8_climbs_126 fX8_47 s_49 rfl (by decide) ?_
                            refine e_iload (pc := 129) dX8_climbs_129 rfl ?_
                            refine e_iload (pc := 131) dX8_climbs_131 rfl ?_
                            refine e_iastm (pc := 133) (mem2 := mset zm1 62 k (((bfT A tm kd 0 0 down) (rndTo (bfT A tm kd 0 0 down) kd x k).2 k : Nat) : Int)) dX8_climbs_133 s_62 (by omega) rfl ?_
                            refine e_iinc (pc := 134) (lo' := [(2, 49), (0, (if down then 1 else 0)), (0, (rd : Int)), (0, 0), (0, (k : Int) + 1), (0, (((bfT A tm kd 0 0 down) (rndTo (bfT A tm kd 0 0 down) kd x k).2 k : Nat) : Int))]) dX8_climbs_134 rfl (by omega) rfl (by decide) rfl ?_
                            refine e_goto (pc := 137) (tgt := 63) dX8_climbs_137 rfl ?_
                            have zrs : rndTo (bfT A tm kd 0 0 down) kd x (k + 1) = (false, uset (rndTo (bfT A tm kd 0 0 down) kd x k).2 k (((bfT A tm kd 0 0 down) (rndTo (bfT A tm kd 0 0 down) kd x k).2 k : Nat) : Int)) := by
                              rw [rnd_t (by omega)]
                              rw [show (rndTo (bfT A tm kd 0 0 down) kd x k).1 = false from zfl, decide_eq_false (fun q => q h116)]; rfl
                            have zE2 : ME A (mset zm1 62 k (((bfT A tm kd 0 0 down) (rndTo (bfT A tm kd 0 0 down) kd x k).2 k : Nat) : Int)) tm kd (uset (rndTo (bfT A tm kd 0 0 down) kd x k).2 k (((bfT A tm kd 0 0 down) (rndTo (bfT A tm kd 0 0 down) kd x k).2 k : Nat) : Int)) 0 0 := (zEw.o zf1).us (by have := zbf (rndTo (bfT A tm kd 0 0 down) kd x k).2 k; omega) (fun j h1 h2 => rfl) (fun d hd => by rw [mset_row])
                            have zf2 : Fr scZ mem (mset zm1 62 k (((bfT A tm kd 0 0 down) (rndTo (bfT A tm kd 0 0 down) kd x k).2 k : Nat) : Int)) := (zfw.tr (scOZ zf1)).ms rfl
                            refine Ev.fgt [5] ?_
                            exact Ev.to (ih63 _ (by omega) (k + 1) (mset zm1 62 k (((bfT A tm kd 0 0 down) (rndTo (bfT A tm kd 0 0 down) kd x k).2 k : Nat) : Int)) (rfl) (by omega) (zM1.v ((Fr.rf (S := scV)).ms rfl)) (by rw [zrs]; exact zE2) (zf2)) (by rw [zrs]; rfl) rfl rfl
                          · skip
                            refine e_iconst (pc := 119) dX8_climbs_119 (by decide) ?_
                            refine e_goto (pc := 120) (tgt := 124) dX8_climbs_120 rfl ?_
                            refine e_istoren (pc := 124) (lo' := [(2, 49), (0, (if down then 1 else 0)), (0, (rd : Int)), (0, 1), (0, (k : Int)), (0, (((bfT A tm kd 0 0 down) (rndTo (bfT A tm kd 0 0 down) kd x k).2 k : Nat) : Int))]) dX8_climbs_124 rfl rfl (by decide) rfl ?_
                            refine e_aloadn (pc := 125) dX8_climbs_125 rfl rfl ?_
                            refine e_getr (pc := 126) (k := 62) dX8_climbs_126 fX8_47 s_49 rfl (by decide) ?_
                            refine e_iload (pc := 129) dX8_climbs_129 rfl ?_
                            refine e_iload (pc := 131) dX8_climbs_131 rfl ?_
                            refine e_iastm (pc := 133) (mem2 := mset zm1 62 k (((bfT A tm kd 0 0 down) (rndTo (bfT A tm kd 0 0 down) kd x k).2 k : Nat) : Int)) dX8_climbs_133 s_62 (by omega) rfl ?_
                            refine e_iinc (pc := 134) (lo' := [(2, 49), (0, (if down then 1 else 0)), (0, (rd : Int)), (0, 1), (0, (k : Int) + 1), (0, (((bfT A tm kd 0 0 down) (rndTo (bfT A tm kd 0 0 down) kd x k).2 k : Nat) : Int))]) dX8_climbs_134 rfl (by omega) rfl (by decide) rfl ?_
                            refine e_goto (pc := 137) (tgt := 63) dX8_climbs_137 rfl ?_
                            have zrs : rndTo (bfT A tm kd 0 0 down) kd x (k + 1) = (true, uset (rndTo (bfT A tm kd 0 0 down) kd x k).2 k (((bfT A tm kd 0 0 down) (rndTo (bfT A tm kd 0 0 down) kd x k).2 k : Nat) : Int)) := by
                              rw [rnd_t (by omega)]
                              first | (rw [show (rndTo (bfT A tm kd 0 0 down) kd x k).1 = true from zfl]; rfl) | (rw [decide_eq_true h116, Bool.or_true])
                            have zE2 : ME A (mset zm1 62 k (((bfT A tm kd 0 0 down) (rndTo (bfT A tm kd 0 0 down) kd x k).2 k : Nat) : Int)) tm kd (uset (rndTo (bfT A tm kd 0 0 down) kd x k).2 k (((bfT A tm kd 0 0 down) (rndTo (bfT A tm kd 0 0 down) kd x k).2 k : Nat) : Int)) 0 0 := (zEw.o zf1).us (by have := zbf (rndTo (bfT A tm kd 0 0 down) kd x k).2 k; omega) (fun j h1 h2 => rfl) (fun d hd => by rw [mset_row])
                            have zf2 : Fr scZ mem (mset zm1 62 k (((bfT A tm kd 0 0 down) (rndTo (bfT A tm kd 0 0 down) kd x k).2 k : Nat) : Int)) := (zfw.tr (scOZ zf1)).ms rfl
                            refine Ev.fgt [5] ?_
                            exact Ev.to (ih63 _ (by omega) (k + 1) (mset zm1 62 k (((bfT A tm kd 0 0 down) (rndTo (bfT A tm kd 0 0 down) kd x k).2 k : Nat) : Int)) (rfl) (by omega) (zM1.v ((Fr.rf (S := scV)).ms rfl)) (by rw [zrs]; exact zE2) (zf2)) (by rw [zrs]; rfl) rfl rfl
              exact Ev.to (L63 _ 0 zmv (rfl) (by omega) (zM) (zE) (zf)) rfl rfl rfl
        exact Ev.to (L52 _ 0 (fun _ => (if down then 60 else 0)) (rset mem 62 (cl0 (A 18) (mem 62) (if down then 60 else 0) k)) (rfl) (by omega) (hM.v ((Fr.rf (S := scV)).rs (fun _ => rfl))) (zE1) ((Fr.rf (S := scZ)).rs (fun _ => rfl)) (zcl0)) rfl rfl rfl
      · skip
        refine e_aloadn (pc := 10) dX8_climbs_10 rfl rfl ?_
        refine e_getr (pc := 11) (k := 62) dX8_climbs_11 fX8_47 s_49 rfl (by decide) ?_
        refine e_iloadn (pc := 14) dX8_climbs_14 rfl rfl ?_
        refine e_aloadn (pc := 15) dX8_climbs_15 rfl rfl ?_
        refine e_getr (pc := 16) (k := 50) dX8_climbs_16 fX8_7 s_49 rfl (by decide) ?_
        refine e_iloadn (pc := 19) dX8_climbs_19 rfl rfl ?_
        refine e_ialdv (pc := 20) (v := (A 18 k)) dX8_climbs_20 s_50 (by omega) ((hM.1.2 k (by omega) ((hI.cm zn1 (by omega)).mpr (by omega))).1.1) ?_
        refine e_if_ne (pc := 21) (tgt := 37) dX8_climbs_21 rfl (fun h21 => ?_) (fun h21 => ?_)
        · skip
          refine e_aloadn (pc := 37) dX8_climbs_37 rfl rfl ?_
          refine e_getr (pc := 38) (k := 62) dX8_climbs_38 fX8_47 s_49 rfl (by decide) ?_
          refine e_iloadn (pc := 41) dX8_climbs_41 rfl rfl ?_
          refine e_ialdv (pc := 42) (v := (cl0 (A 18) (mem 62) (if down then 60 else 0) k k)) dX8_climbs_42 s_62 (by omega) (rfl) ?_
          refine e_iastm (pc := 43) (mem2 := rset mem 62 (cl0 (A 18) (mem 62) (if down then 60 else 0) (k + 1))) dX8_climbs_43 s_62 (by omega) (by rw [← cl0_f h21]; exact mset_self _ _ _ rfl) ?_
          refine e_iinc (pc := 44) (lo' := [(2, 49), (0, (if down then 1 else 0)), (0, (k : Int) + 1), (3, 0), (3, 0), (3, 0)]) dX8_climbs_44 rfl (by omega) rfl (by decide) rfl ?_
          refine e_goto (pc := 47) (tgt := 2) dX8_climbs_47 rfl ?_
          exact Ev.to (ih2 _ (by omega) (k + 1) (rfl) (by omega)) rfl rfl rfl
        · skip
          refine e_iloadn (pc := 24) dX8_climbs_24 rfl rfl ?_
          refine e_if_eq (pc := 25) (tgt := 33) dX8_climbs_25 rfl (fun h25 => ?_) (fun h25 => ?_)
          · skip
            have zdn : down = false := by cases down with
              | false => rfl
              | true => exact absurd h25 (by decide)
            refine e_iconst (pc := 33) dX8_climbs_33 (by decide) ?_
            refine e_goto (pc := 34) (tgt := 43) dX8_climbs_34 rfl ?_
            refine e_iastm (pc := 43) (mem2 := rset mem 62 (cl0 (A 18) (mem 62) (if down then 60 else 0) (k + 1))) dX8_climbs_43 s_62 (by omega) (by rw [← cl0_t h21, zdn]; exact mset_rset _ _ _ _ _) ?_
            refine e_iinc (pc := 44) (lo' := [(2, 49), (0, (if down then 1 else 0)), (0, (k : Int) + 1), (3, 0), (3, 0), (3, 0)]) dX8_climbs_44 rfl (by omega) rfl (by decide) rfl ?_
            refine e_goto (pc := 47) (tgt := 2) dX8_climbs_47 rfl ?_
            exact Ev.to (ih2 _ (by omega) (k + 1) (rfl) (by omega)) rfl rfl rfl
          · skip
            have zdn : down = true := by cases down with
              | true => rfl
              | false => exact absurd rfl h25
            refine e_bipush (pc := 28) dX8_climbs_28 rfl (by decide) ?_
            refine e_goto (pc := 30) (tgt := 43) dX8_climbs_30 rfl ?_
            refine e_iastm (pc := 43) (mem2 := rset mem 62 (cl0 (A 18) (mem 62) (if down then 60 else 0) (k + 1))) dX8_climbs_43 s_62 (by omega) (by rw [← cl0_t h21, zdn]; exact mset_rset _ _ _ _ _) ?_
            refine e_iinc (pc := 44) (lo' := [(2, 49), (0, (if down then 1 else 0)), (0, (k : Int) + 1), (3, 0), (3, 0), (3, 0)]) dX8_climbs_44 rfl (by omega) rfl (by decide) rfl ?_
            refine e_goto (pc := 47) (tgt := 2) dX8_climbs_47 rfl ?_
            exact Ev.to (ih2 _ (by omega) (k + 1) (rfl) (by omega)) rfl rfl rfl
  exact Ev.to (L2 _ 0 (rfl) (by omega)) rfl rfl (by rw [cl0_0, rset_self])
