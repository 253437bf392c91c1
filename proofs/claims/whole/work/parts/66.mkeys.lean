noncomputable def kyQ (A : Mem) (wh : Int) (c : Nat) : Bool := if wh = 0 then kyP A c else decide (whA0 A c = stA0 A)

theorem m_keysNow (G : Gm) (A mem : Mem) (wh : Int) (hw : wh = 0 ∨ wh = 1) (hI : CI A) (hM : MI A mem) : Con G mX8_keysNow [(2, 49), (0, wh)] mem (fun r m' => r = some (0, an_keys A wh) ∧ MI A m' ∧ Fr scZ mem m') := by
  refine Con.of (lo := [(2, 49), (0, wh), (3, 0), (3, 0), (3, 0)]) (by decide +kernel) (Nat.le_of_ble_eq_true rfl) rfl ?_
  generalize hQ_ : (fun r m' => r = some (0, an_keys A wh) ∧ MI A m' ∧ Fr scZ mem m' : Option AV → Mem → Prop) = Q_
  obtain ⟨n, zn1, zn2, zn9⟩ := hI.2.2.2.2.1
  have zev := hI.ev
  have zsb : 0 ≤ stA0 A ∧ stA0 A ≤ 60 := stT_bd A (A 17) (A 18) (A 19) 0 0
  have ztl : stA0 A < 60 → ∀ c, c < 8 → n ≤ c → kyQ A wh c = false := fun hs c hc hq => by
    have zk1 := (zn9 c hc).1.mpr hq
    unfold kyQ
    split
    · unfold kyP
      rw [st_nobody zk1]
      exact decide_eq_false (by show ¬ 60 ≤ stA0 A; omega)
    · have z2 : whA0 A c = 60 := wh_no hI.1 zev hc zk1
      exact decide_eq_false (by rw [z2]; omega)
  clear zn9
  refine e_aloadn (pc := 0) dX8_keysNow_0 rfl rfl ?_
  refine e_callV (pc := 1) (as := []) (st := []) (m_asTold G A mem hI hM) dX8_keysNow_1 lX8_keysNow_190 rfl s_49 cn_8 rfl rfl (fun r_ zma hq_ => ?_)
  obtain ⟨zr_, zMa, zfa, zEa⟩ := hq_
  subst zr_
  refine Ev.to (st' := []) ?_ rfl rfl rfl
  refine e_aloadn (pc := 4) dX8_keysNow_4 rfl rfl ?_
  refine e_callV (pc := 5) (as := []) (st := []) (m_goes G A zma (A 17) (A 18) (A 19) 0 0 hI zMa zEa) dX8_keysNow_5 lX8_keysNow_193 rfl s_49 cn_8 rfl rfl (fun r_ zmb hq_ => ?_)
  obtain ⟨zr_, zMb, zfb, zGb⟩ := hq_
  subst zr_
  refine Ev.to (st' := []) ?_ rfl rfl rfl
  refine e_aloadn (pc := 8) dX8_keysNow_8 rfl rfl ?_
  refine e_getiv (pc := 9) (v := (stA0 A)) dX8_keysNow_9 fX8_178 s_49 rfl (by decide) (zGb.1) ?_
  refine e_istoren (pc := 12) (lo' := [(2, 49), (0, wh), (0, (stA0 A)), (3, 0), (3, 0)]) dX8_keysNow_12 rfl rfl (by decide) rfl ?_
  refine e_iconst (pc := 13) dX8_keysNow_13 (by decide) ?_
  refine e_istoren (pc := 14) (lo' := [(2, 49), (0, wh), (0, (stA0 A)), (0, 0), (3, 0)]) dX8_keysNow_14 rfl rfl (by decide) rfl ?_
  refine e_iconst (pc := 15) dX8_keysNow_15 (by decide) ?_
  refine e_istore (pc := 16) (lo' := [(2, 49), (0, wh), (0, (stA0 A)), (0, 0), (0, 0)]) dX8_keysNow_16 rfl (by decide) rfl ?_
  have L18 : ∀ (n_ : Nat) (k : Nat) (zmv : Mem), 8 - k = n_ → (k ≤ n) → (MI A zmv) → (ME A zmv (A 17) (A 18) (A 19) 0 0) → (wh ≠ 0 → GO A zmv (A 17) (A 18) (A 19) 0 0) → (Fr scZ mem zmv) → (0 < k → stA0 A < 60) → Ev G mX8_keysNow Q_ 18 [(2, 49), (0, wh), (0, stA0 A), (0, ((bitsTo (kyQ A wh) k : Nat) : Int)), (0, (k : Int))] [] zmv := by
    intro n_
    induction n_ using Nat.strongRecOn with
    | ind n_ ih18 =>
      intro k zmv hn_ zk zM zE zG zf zpos
      have hb := bitsTo_lt (kyQ A wh) k
      have hb2 : 2 ^ k ≤ 2 ^ 8 := Nat.pow_le_pow_right (by decide) (by omega)
      refine e_iload (pc := 18) dX8_keysNow_18 rfl ?_
      refine e_aloadn (pc := 20) dX8_keysNow_20 rfl rfl ?_
      refine e_getiv (pc := 21) (v := (n : Int)) dX8_keysNow_21 fX8_99 s_49 rfl (by decide) (zM.1.1.trans zn1) ?_
      refine e_icmp_ge (pc := 24) (tgt := 105) dX8_keysNow_24 rfl (fun h24 => ?_) (fun h24 => ?_)
      · skip
        refine e_iloadn (pc := 105) dX8_keysNow_105 rfl rfl ?_
        have zan : an_keys A wh = ((bitsTo (kyQ A wh) k : Nat) : Int) := by
          unfold an_keys
          rw [if_pos hw]
          by_cases z0 : 60 ≤ stA0 A
          · rw [if_pos z0]
            have zk0 : k = 0 := Classical.byContradiction (fun q => by have := zpos (by omega); omega)
            rw [zk0]; rfl
          · rw [if_neg z0, show k = n by omega, bits_n8 zn2 (ztl (by omega))]
            rcases hw with z1 | z1
            · rw [if_pos z1]
              have : kyQ A wh = kyP A := funext (fun c => by unfold kyQ; rw [if_pos z1])
              rw [this]
            · rw [if_neg (by omega)]
              have : kyQ A wh = fun c => decide (whA0 A c = stA0 A) := funext (fun c => by unfold kyQ; rw [if_neg (by omega)])
              rw [this]
        exact e_iret (pc := 106) dX8_keysNow_106 rfl (by rw [← hQ_]; exact ⟨by rw [zan], zM, zf⟩)
      · skip
        refine e_iloadn (pc := 27) dX8_keysNow_27 rfl rfl ?_
        refine e_bipush (pc := 28) dX8_keysNow_28 rfl (by decide) ?_
        refine e_icmp_ge (pc := 30) (tgt := 105) dX8_keysNow_30 rfl (fun h30 => ?_) (fun h30 => ?_)
        · skip
          refine e_iloadn (pc := 105) dX8_keysNow_105 rfl rfl ?_
          have zan : an_keys A wh = ((bitsTo (kyQ A wh) k : Nat) : Int) := by
            unfold an_keys
            rw [if_pos hw, if_pos h30]
            have zk0 : k = 0 := Classical.byContradiction (fun q => by have := zpos (by omega); omega)
            rw [zk0]; rfl
          exact e_iret (pc := 106) dX8_keysNow_106 rfl (by rw [← hQ_]; exact ⟨by rw [zan], zM, zf⟩)
        · skip
          have hb3 : 2 ^ k < 2 ^ 8 := Nat.pow_lt_pow_right (by decide) (by omega)
          have zk8 : k < 8 := by omega
          refine e_iloadn (pc := 33) dX8_keysNow_33 rfl rfl ?_
          refine e_if_ne (pc := 34) (tgt := 77) dX8_keysNow_34 rfl (fun h34 => ?_) (fun h34 => ?_)
          · skip
            refine e_iloadn (pc := 77) dX8_keysNow_77 rfl rfl ?_
            refine e_aloadn (pc := 78) dX8_keysNow_78 rfl rfl ?_
            refine e_getr (pc := 79) (k := 63) dX8_keysNow_79 fX8_50 s_49 rfl (by decide) ?_
            refine e_iload (pc := 82) dX8_keysNow_82 rfl ?_
            refine e_ialdv (pc := 84) (v := (whA0 A k)) dX8_keysNow_84 s_63 (by omega) ((zG h34).2 k zk8 ((hI.cm zn1 zk8).mpr (by omega))) ?_
            refine e_iloadn (pc := 85) dX8_keysNow_85 rfl rfl ?_
            refine e_icmp_ne (pc := 86) (tgt := 96) dX8_keysNow_86 rfl (fun h86 => ?_) (fun h86 => ?_)
            · skip
              refine e_iconst (pc := 96) dX8_keysNow_96 (by decide) ?_
              refine e_ior (pc := 97) dX8_keysNow_97 ?_
              rw [show bOr ((bitsTo (kyQ A wh) k : Nat) : Int) 0 = ((bitsTo (kyQ A wh) k : Nat) : Int) from bor_0 (by omega)]
              refine e_istoren (pc := 98) (lo' := [(2, 49), (0, wh), (0, stA0 A), (0, ((bitsTo (kyQ A wh) k : Nat) : Int)), (0, (k : Int))]) dX8_keysNow_98 rfl rfl (by decide) rfl ?_
              refine e_iinc (pc := 99) (lo' := [(2, 49), (0, wh), (0, stA0 A), (0, ((bitsTo (kyQ A wh) k : Nat) : Int)), (0, (k : Int) + 1)]) dX8_keysNow_99 rfl (by omega) rfl (by decide) rfl ?_
              refine e_goto (pc := 102) (tgt := 18) dX8_keysNow_102 rfl ?_
              exact Ev.to (ih18 _ (by omega) (k + 1) zmv (rfl) (by omega) (zM) (zE) (zG) (zf) (fun _ => h30)) (by rw [show bitsTo (kyQ A wh) (k + 1) = bitsTo (kyQ A wh) k from (by show (if kyQ A wh k = true then _ else _) = _; rw [if_neg (by unfold kyQ; rw [if_neg h34]; simp only [decide_eq_true_eq]; exact h86)])]; rfl) rfl rfl
            · skip
              refine e_iconst (pc := 89) dX8_keysNow_89 (by decide) ?_
              refine e_iload (pc := 90) dX8_keysNow_90 rfl ?_
              refine e_ishl (pc := 92) dX8_keysNow_92 ?_
              rw [show bShl 1 (k : Int) = ((2 ^ k : Nat) : Int) from one_shl (by omega)]
              refine e_goto (pc := 93) (tgt := 97) dX8_keysNow_93 rfl ?_
              refine e_ior (pc := 97) dX8_keysNow_97 ?_
              rw [show bOr ((bitsTo (kyQ A wh) k : Nat) : Int) ((2 ^ k : Nat) : Int) = ((bitsTo (kyQ A wh) k ||| 2 ^ k : Nat) : Int) from bOr_nat (by omega) (by omega)]
              refine e_istoren (pc := 98) (lo' := [(2, 49), (0, wh), (0, stA0 A), (0, ((bitsTo (kyQ A wh) k ||| 2 ^ k : Nat) : Int)), (0, (k : Int))]) dX8_keysNow_98 rfl rfl (by decide) rfl ?_
              refine e_iinc (pc := 99) (lo' := [(2, 49), (0, wh), (0, stA0 A), (0, ((bitsTo (kyQ A wh) k ||| 2 ^ k : Nat) : Int)), (0, (k : Int) + 1)]) dX8_keysNow_99 rfl (by omega) rfl (by decide) rfl ?_
              refine e_goto (pc := 102) (tgt := 18) dX8_keysNow_102 rfl ?_
              exact Ev.to (ih18 _ (by omega) (k + 1) zmv (rfl) (by omega) (zM) (zE) (zG) (zf) (fun _ => h30)) (by rw [show bitsTo (kyQ A wh) (k + 1) = bitsTo (kyQ A wh) k ||| 2 ^ k from (by show (if kyQ A wh k = true then _ else _) = _; rw [if_pos (by unfold kyQ; rw [if_neg h34]; exact decide_eq_true h86)])]; rfl) rfl rfl
          · skip
            refine e_aloadn (pc := 37) dX8_keysNow_37 rfl rfl ?_
            refine e_iconst (pc := 38) dX8_keysNow_38 (by decide) ?_
            refine e_iload (pc := 39) dX8_keysNow_39 rfl ?_
            refine e_ishl (pc := 41) dX8_keysNow_41 ?_
            rw [show bShl 1 (k : Int) = ((2 ^ k : Nat) : Int) from one_shl (by omega)]
            refine e_putI (pc := 42) (mem2 := mset zmv 49 26 ((2 ^ k : Nat) : Int)) dX8_keysNow_42 fX8_169 s_49 rfl (by decide) pw_8_26 rfl ?_
            refine e_aloadn (pc := 45) dX8_keysNow_45 rfl rfl ?_
            have zE0 := zE.away (v := ((2 ^ k : Nat) : Int)) (by omega)
            refine e_callV (pc := 46) (as := []) (st := []) (m_goes G A (mset zmv 49 26 ((2 ^ k : Nat) : Int)) (A 17) (A 18) (A 19) 0 ((2 ^ k : Nat) : Int) hI (zM.v ((Fr.rf (S := scV)).ms rfl)) zE0) dX8_keysNow_46 lX8_keysNow_193 rfl s_49 cn_8 rfl rfl (fun r_ zm1 hq_ => ?_)
            obtain ⟨zr_, zM1, zf1, zG1⟩ := hq_
            subst zr_
            have zE1 := (zE0.o zf1).away (v := 0) (by omega)
            have zsk := stT_bd A (A 17) (A 18) (A 19) 0 ((2 ^ k : Nat) : Int)
            refine Ev.to (st' := []) ?_ rfl rfl rfl
            refine e_iloadn (pc := 49) dX8_keysNow_49 rfl rfl ?_
            refine e_aloadn (pc := 50) dX8_keysNow_50 rfl rfl ?_
            refine e_getiv (pc := 51) (v := (stT A (A 17) (A 18) (A 19) 0 ((2 ^ k : Nat) : Int))) dX8_keysNow_51 fX8_178 s_49 rfl (by decide) (zG1.1) ?_
            refine e_bipush (pc := 54) dX8_keysNow_54 rfl (by decide) ?_
            refine e_icmp_ne (pc := 56) (tgt := 66) dX8_keysNow_56 rfl (fun h56 => ?_) (fun h56 => ?_)
            · skip
              refine e_iconst (pc := 66) dX8_keysNow_66 (by decide) ?_
              refine e_ior (pc := 67) dX8_keysNow_67 ?_
              rw [show bOr ((bitsTo (kyQ A wh) k : Nat) : Int) 0 = ((bitsTo (kyQ A wh) k : Nat) : Int) from bor_0 (by omega)]
              refine e_istoren (pc := 68) (lo' := [(2, 49), (0, wh), (0, stA0 A), (0, ((bitsTo (kyQ A wh) k : Nat) : Int)), (0, (k : Int))]) dX8_keysNow_68 rfl rfl (by decide) rfl ?_
              refine e_aloadn (pc := 69) dX8_keysNow_69 rfl rfl ?_
              refine e_iconst (pc := 70) dX8_keysNow_70 (by decide) ?_
              refine e_putI (pc := 71) (mem2 := mset zm1 49 26 0) dX8_keysNow_71 fX8_169 s_49 rfl (by decide) pw_8_26 rfl ?_
              refine e_goto (pc := 74) (tgt := 99) dX8_keysNow_74 rfl ?_
              refine e_iinc (pc := 99) (lo' := [(2, 49), (0, wh), (0, stA0 A), (0, ((bitsTo (kyQ A wh) k : Nat) : Int)), (0, (k : Int) + 1)]) dX8_keysNow_99 rfl (by omega) rfl (by decide) rfl ?_
              refine e_goto (pc := 102) (tgt := 18) dX8_keysNow_102 rfl ?_
              exact Ev.to (ih18 _ (by omega) (k + 1) (mset zm1 49 26 0) (rfl) (by omega) (zM1.v ((Fr.rf (S := scV)).ms rfl)) (zE1) (fun q => absurd h34 q) (((zf.ms rfl).tr (scOZ zf1)).ms rfl) (fun _ => h30)) (by rw [show bitsTo (kyQ A wh) (k + 1) = bitsTo (kyQ A wh) k from (by show (if kyQ A wh k = true then _ else _) = _; rw [if_neg (by unfold kyQ; rw [if_pos h34]; unfold kyP; simp only [decide_eq_true_eq]; omega)])]; rfl) rfl rfl
            · skip
              refine e_iconst (pc := 59) dX8_keysNow_59 (by decide) ?_
              refine e_iload (pc := 60) dX8_keysNow_60 rfl ?_
              refine e_ishl (pc := 62) dX8_keysNow_62 ?_
              rw [show bShl 1 (k : Int) = ((2 ^ k : Nat) : Int) from one_shl (by omega)]
              refine e_goto (pc := 63) (tgt := 67) dX8_keysNow_63 rfl ?_
              refine e_ior (pc := 67) dX8_keysNow_67 ?_
              rw [show bOr ((bitsTo (kyQ A wh) k : Nat) : Int) ((2 ^ k : Nat) : Int) = ((bitsTo (kyQ A wh) k ||| 2 ^ k : Nat) : Int) from bOr_nat (by omega) (by omega)]
              refine e_istoren (pc := 68) (lo' := [(2, 49), (0, wh), (0, stA0 A), (0, ((bitsTo (kyQ A wh) k ||| 2 ^ k : Nat) : Int)), (0, (k : Int))]) dX8_keysNow_68 rfl rfl (by decide) rfl ?_
              refine e_aloadn (pc := 69) dX8_keysNow_69 rfl rfl ?_
              refine e_iconst (pc := 70) dX8_keysNow_70 (by decide) ?_
              refine e_putI (pc := 71) (mem2 := mset zm1 49 26 0) dX8_keysNow_71 fX8_169 s_49 rfl (by decide) pw_8_26 rfl ?_
              refine e_goto (pc := 74) (tgt := 99) dX8_keysNow_74 rfl ?_
              refine e_iinc (pc := 99) (lo' := [(2, 49), (0, wh), (0, stA0 A), (0, ((bitsTo (kyQ A wh) k ||| 2 ^ k : Nat) : Int)), (0, (k : Int) + 1)]) dX8_keysNow_99 rfl (by omega) rfl (by decide) rfl ?_
              refine e_goto (pc := 102) (tgt := 18) dX8_keysNow_102 rfl ?_
              exact Ev.to (ih18 _ (by omega) (k + 1) (mset zm1 49 26 0) (rfl) (by omega) (zM1.v ((Fr.rf (S := scV)).ms rfl)) (zE1) (fun q => absurd h34 q) (((zf.ms rfl).tr (scOZ zf1)).ms rfl) (fun _ => h30)) (by rw [show bitsTo (kyQ A wh) (k + 1) = bitsTo (kyQ A wh) k ||| 2 ^ k from (by show (if kyQ A wh k = true then _ else _) = _; rw [if_pos (by unfold kyQ; rw [if_pos h34]; unfold kyP; exact decide_eq_true (by omega))])]; rfl) rfl rfl
  exact Ev.to (L18 _ 0 zmb (rfl) (by omega) (zMb) (zEa.o zfb) (fun _ => zGb) ((scHZ zfa).tr (scOZ zfb)) (fun q => absurd q (by decide))) rfl rfl rfl

theorem m_keys (G : Gm) (A mem : Mem) (wh : Int) (hI : CI A) (hM : MI A mem) : Con G mX8_keys [(2, 49), (0, wh)] mem (fun r m' => r = some (0, an_keys A wh) ∧ MI A m' ∧ Fr scZ mem m') := by
  refine Con.of (lo := [(2, 49), (0, wh)]) (by decide +kernel) (Nat.le_of_ble_eq_true rfl) rfl ?_
  generalize hQ_ : (fun r m' => r = some (0, an_keys A wh) ∧ MI A m' ∧ Fr scZ mem m' : Option AV → Mem → Prop) = Q_
  refine e_iloadn (pc := 0) dX8_keys_0 rfl rfl ?_
  refine e_iconst (pc := 1) dX8_keys_1 (by decide) ?_
  refine e_iconst (pc := 2) dX8_keys_2 (by decide) ?_
  refine e_callSr (pc := 3) (as := [(0, wh), (0, 0), (0, 1)]) (st := []) (v := (0, if 0 ≤ wh ∧ wh ≤ 1 then 1 else 0)) (m_in G mem wh 0 1) dX8_keys_3 lX8_keys_95 rfl rfl rfl ?_
  by_cases zw : 0 ≤ wh ∧ wh ≤ 1
  · rw [if_pos zw]
    refine e_if_eq (pc := 6) (tgt := 17) dX8_keys_6 rfl (fun h6 => ?_) (fun h6 => ?_)
    · skip
      exact absurd h6 (by decide)
    · skip
      refine e_aloadn (pc := 9) dX8_keys_9 rfl rfl ?_
      refine e_iloadn (pc := 10) dX8_keys_10 rfl rfl ?_
      refine e_callV (pc := 11) (as := [(0, wh)]) (st := []) (m_keysNow G A mem wh (by omega) hI hM) dX8_keys_11 lX8_keys_256 rfl s_49 cn_8 rfl rfl (fun r_ zm1 hq_ => ?_)
      obtain ⟨zr_, zM1, zf1⟩ := hq_
      subst zr_
      refine Ev.to (st' := [(0, an_keys A wh)]) ?_ rfl rfl rfl
      refine e_goto (pc := 14) (tgt := 19) dX8_keys_14 rfl ?_
      exact e_iret (pc := 19) dX8_keys_19 rfl (by rw [← hQ_]; exact ⟨rfl, zM1, zf1⟩)
  · rw [if_neg zw]
    refine e_if_eq (pc := 6) (tgt := 17) dX8_keys_6 rfl (fun h6 => ?_) (fun h6 => ?_)
    · skip
      refine e_bipush (pc := 17) dX8_keys_17 rfl (by decide) ?_
      have zan : an_keys A wh = -2 := by unfold an_keys; rw [if_neg (by omega)]
      exact e_iret (pc := 19) dX8_keys_19 rfl (by rw [← hQ_]; exact ⟨by rw [zan], hM, Fr.rf⟩)
    · skip
      exact absurd h6 (by decide)

theorem m_guests (G : Gm) (A mem : Mem) (hI : CI A) (hM : MI A mem) : Con G mX8_guests [(2, 49)] mem (fun r m' => r = some (0, an_guests A ) ∧ MI A m' ∧ Fr scZ mem m') := by
  refine Con.of (lo := [(2, 49), (3, 0), (3, 0), (3, 0)]) (by decide +kernel) (Nat.le_of_ble_eq_true rfl) rfl ?_
  generalize hQ_ : (fun r m' => r = some (0, an_guests A ) ∧ MI A m' ∧ Fr scZ mem m' : Option AV → Mem → Prop) = Q_
  obtain ⟨n, zn1, zn2, zn9⟩ := hI.2.2.2.2.1
  have zn3 := hM.1.1.trans zn1
  have zpl : bitsTo (fun c => decide (A 18 c = 0)) n = bitsTo (fun c => decide (A 18 c = 0)) 8 := bits_n8 zn2 (fun c hc hq => decide_eq_false (by have := (zn9 c hc).1.mpr hq; omega))
  clear zn9
  refine e_iconst (pc := 0) dX8_guests_0 (by decide) ?_
  refine e_istoren (pc := 1) (lo' := [(2, 49), (0, 0), (3, 0), (3, 0)]) dX8_guests_1 rfl rfl (by decide) rfl ?_
  refine e_iconst (pc := 2) dX8_guests_2 (by decide) ?_
  refine e_istoren (pc := 3) (lo' := [(2, 49), (0, 0), (0, 0), (3, 0)]) dX8_guests_3 rfl rfl (by decide) rfl ?_
  have L4 : ∀ (n_ : Nat) (k : Nat), 8 - k = n_ → (k ≤ n) → Ev G mX8_guests Q_ 4 [(2, 49), (0, ((bitsTo (fun c => decide (A 18 c = 0)) k : Nat) : Int)), (0, (k : Int)), (3, 0)] [] mem := by
    intro n_
    induction n_ using Nat.strongRecOn with
    | ind n_ ih4 =>
      intro k hn_ zk
      have hb := bitsTo_lt (fun c => decide (A 18 c = 0)) k
      have hb2 : 2 ^ k ≤ 2 ^ 8 := Nat.pow_le_pow_right (by decide) (by omega)
      refine e_iloadn (pc := 4) dX8_guests_4 rfl rfl ?_
      refine e_aloadn (pc := 5) dX8_guests_5 rfl rfl ?_
      refine e_getiv (pc := 6) (v := (n : Int)) dX8_guests_6 fX8_99 s_49 rfl (by decide) (zn3) ?_
      refine e_icmp_ge (pc := 9) (tgt := 37) dX8_guests_9 rfl (fun h9 => ?_) (fun h9 => ?_)
      · skip
        have zke : k = n := by omega
        have zpb : ((bitsTo (fun c => decide (A 18 c = 0)) k : Nat) : Int) = plB A := by unfold plB; rw [zke, zpl]
        rw [zpb]
        refine e_iconst (pc := 37) dX8_guests_37 (by decide) ?_
        refine e_istoren (pc := 38) (lo' := [(2, 49), (0, plB A), (0, 0), (3, 0)]) dX8_guests_38 rfl rfl (by decide) rfl ?_
        have L39 : ∀ (n_ : Nat) (m : Nat) (zmv : Mem), 4 - m = n_ → (m ≤ 4) → (MI A zmv) → (Fr scZ mem zmv) → (an_guests A = gq (guP A) (4 - m) m) → Ev G mX8_guests Q_ 39 [(2, 49), (0, plB A), (0, (m : Int)), (3, 0)] [] zmv := by
          intro n_
          induction n_ using Nat.strongRecOn with
          | ind n_ ih39 =>
            intro m zmv hn_ zm zM zf zan
            refine e_iloadn (pc := 39) dX8_guests_39 rfl rfl ?_
            refine e_iconst (pc := 40) dX8_guests_40 (by decide) ?_
            refine e_icmp_ge (pc := 41) (tgt := 111) dX8_guests_41 rfl (fun h41 => ?_) (fun h41 => ?_)
            · skip
              refine e_iconst (pc := 111) dX8_guests_111 (by decide) ?_
              rw [gq_e (by omega)] at zan
              exact e_iret (pc := 112) dX8_guests_112 rfl (by rw [← hQ_]; exact ⟨by rw [zan], zM, zf⟩)
            · skip
              refine e_iconst (pc := 44) dX8_guests_44 (by decide) ?_
              refine e_istoren (pc := 45) (lo' := [(2, 49), (0, plB A), (0, (m : Int)), (0, 0)]) dX8_guests_45 rfl rfl (by decide) rfl ?_
              have L46 : ∀ (n_ : Nat) (b : Nat) (zmw : Mem), 256 - b = n_ → (b ≤ 256) → (MI A zmw) → (Fr scZ mem zmw) → (fromK (guP A m) 256 0 = fromK (guP A m) (256 - b) b) → Ev G mX8_guests Q_ 46 [(2, 49), (0, plB A), (0, (m : Int)), (0, (b : Int))] [] zmw := by
                intro n_
                induction n_ using Nat.strongRecOn with
                | ind n_ ih46 =>
                  intro b zmw hn_ zb zM zf zfk
                  refine e_iloadn (pc := 46) dX8_guests_46 rfl rfl ?_
                  refine e_sipush (pc := 47) dX8_guests_47 rfl (by decide) ?_
                  refine e_icmp_ge (pc := 50) (tgt := 105) dX8_guests_50 rfl (fun h50 => ?_) (fun h50 => ?_)
                  · skip
                    refine e_iinc (pc := 105) (lo' := [(2, 49), (0, plB A), (0, (m : Int) + 1), (0, (b : Int))]) dX8_guests_105 rfl (by omega) rfl (by decide) rfl ?_
                    refine e_goto (pc := 108) (tgt := 39) dX8_guests_108 rfl ?_
                    refine Ev.fgt [3] ?_
                    exact Ev.to (ih39 _ (by omega) (m + 1) zmw (rfl) (by omega) (zM) (zf) (zan.trans (gq_next (by omega) (zfk.trans (fromK_e (by omega)))))) rfl rfl rfl
                  · skip
                    refine e_iloadn (pc := 53) dX8_guests_53 rfl rfl ?_
                    refine e_callSr (pc := 54) (as := [(0, (b : Int))]) (st := []) (m_ones G zmw b (by omega)) dX8_guests_54 lX8_guests_259 rfl rfl rfl ?_
                    refine e_iloadn (pc := 57) dX8_guests_57 rfl rfl ?_
                    refine e_icmp_ne (pc := 58) (tgt := 99) dX8_guests_58 rfl (fun h58 => ?_) (fun h58 => ?_)
                    · skip
                      refine e_iinc (pc := 99) (lo' := [(2, 49), (0, plB A), (0, (m : Int)), (0, (b : Int) + 1)]) dX8_guests_99 rfl (by omega) rfl (by decide) rfl ?_
                      refine e_goto (pc := 102) (tgt := 46) dX8_guests_102 rfl ?_
                      have zp : guP A m b = false := by unfold guP; rw [decide_eq_false (fun q => h58 (by have := q.1; omega))]; rfl
                      exact Ev.to (ih46 _ (by omega) (b + 1) zmw (rfl) (by omega) (zM) (zf) (zfk.trans (fromK_f zp (by omega)))) rfl rfl rfl
                    · skip
                      refine e_iloadn (pc := 61) dX8_guests_61 rfl rfl ?_
                      refine e_iloadn (pc := 62) dX8_guests_62 rfl rfl ?_
                      refine e_iconst (pc := 63) dX8_guests_63 (by decide) ?_
                      refine e_ixor (pc := 64) dX8_guests_64 ?_
                      refine e_iand (pc := 65) dX8_guests_65 ?_
                      refine e_if_ne (pc := 66) (tgt := 99) dX8_guests_66 rfl (fun h66 => ?_) (fun h66 => ?_)
                      · skip
                        refine e_iinc (pc := 99) (lo' := [(2, 49), (0, plB A), (0, (m : Int)), (0, (b : Int) + 1)]) dX8_guests_99 rfl (by omega) rfl (by decide) rfl ?_
                        refine e_goto (pc := 102) (tgt := 46) dX8_guests_102 rfl ?_
                        have zp : guP A m b = false := by unfold guP; rw [decide_eq_false (fun q => h66 q.2)]; rfl
                        exact Ev.to (ih46 _ (by omega) (b + 1) zmw (rfl) (by omega) (zM) (zf) (zfk.trans (fromK_f zp (by omega)))) rfl rfl rfl
                      · skip
                        refine e_aloadn (pc := 69) dX8_guests_69 rfl rfl ?_
                        refine e_callV (pc := 70) (as := []) (st := []) (m_asTold G A zmw hI zM) dX8_guests_70 lX8_guests_190 rfl s_49 cn_8 rfl rfl (fun r_ zm1 hq_ => ?_)
                        obtain ⟨zr_, zM1, zf1, zE1⟩ := hq_
                        subst zr_
                        refine Ev.to (st' := []) ?_ rfl rfl rfl
                        refine e_aloadn (pc := 73) dX8_guests_73 rfl rfl ?_
                        refine e_iloadn (pc := 74) dX8_guests_74 rfl rfl ?_
                        refine e_putI (pc := 75) (mem2 := mset zm1 49 25 (b : Int)) dX8_guests_75 fX8_166 s_49 rfl (by decide) pw_8_25 rfl ?_
                        refine e_aloadn (pc := 78) dX8_guests_78 rfl rfl ?_
                        refine e_iconst (pc := 79) dX8_guests_79 (by decide) ?_
                        have zgu : ∀ c, c < 8 → bt (b : Int) c = 1 → A 18 c = 0 := fun c hc hq => by
                          have z1 : b.testBit c = true := by
                            unfold bt at hq
                            rw [Int.toNat_natCast] at hq
                            cases zq : b.testBit c with
                            | true => rfl
                            | false => rw [zq] at hq; exact absurd hq (by decide)
                          have z2 := sub_ok (p := bitsTo (fun c => decide (A 18 c = 0)) 8) h66 hc z1
                          rw [bitsTo_testBit] at z2
                          simp at z2
                          exact z2.2
                        have zE2 := zE1.gu (b := (b : Int)) (by omega) zgu
                        refine e_callV (pc := 80) (as := [(0, 1)]) (st := []) (m_climbs G A (mset zm1 49 25 (b : Int)) (A 17) (mpR (A 18) (b : Int) 8) (A 19) true hI (zM1.v ((Fr.rf (S := scV)).ms rfl)) zE2) dX8_guests_80 lX8_guests_206 rfl s_49 cn_8 rfl rfl (fun r_ zm2 hq_ => ?_)
                        obtain ⟨zv, zr_, zM2, zf2, zor⟩ := hq_
                        subst zr_
                        have zfz : Fr scZ mem zm2 := ((zf.tr (scHZ zf1)).ms rfl).tr zf2
                        refine Ev.to (st' := [(0, zv)]) ?_ rfl rfl rfl
                        rcases zor with ⟨zv0, zcl⟩ | ⟨zv0, x, zcl, zEx, zGx⟩
                        · subst zv0
                          refine e_if_eq (pc := 83) (tgt := 99) dX8_guests_83 rfl (fun h83 => ?_) (fun h83 => ?_)
                          · skip
                            refine e_iinc (pc := 99) (lo' := [(2, 49), (0, plB A), (0, (m : Int)), (0, (b : Int) + 1)]) dX8_guests_99 rfl (by omega) rfl (by decide) rfl ?_
                            refine e_goto (pc := 102) (tgt := 46) dX8_guests_102 rfl ?_
                            have zin : inT A (A 17) (mpR (A 18) (b : Int) 8) = false := by
                              unfold inT
                              rw [zcl]
                            have zp : guP A m b = false := by unfold guP; rw [zin, Bool.and_false]
                            exact Ev.to (ih46 _ (by omega) (b + 1) zm2 (rfl) (by omega) (zM2) (zfz) (zfk.trans (fromK_f zp (by omega)))) rfl rfl rfl
                          · skip
                            exact absurd h83 (by decide)
                        · subst zv0
                          refine e_if_eq (pc := 83) (tgt := 99) dX8_guests_83 rfl (fun h83 => ?_) (fun h83 => ?_)
                          · skip
                            exact absurd h83 (by decide)
                          · skip
                            refine e_aloadn (pc := 86) dX8_guests_86 rfl rfl ?_
                            refine e_getiv (pc := 87) (v := (stT A (A 17) (mpR (A 18) (b : Int) 8) x 0 0)) dX8_guests_87 fX8_178 s_49 rfl (by decide) (zGx.1) ?_
                            refine e_aloadn (pc := 90) dX8_guests_90 rfl rfl ?_
                            refine e_getiv (pc := 91) (v := (A 17 0)) dX8_guests_91 fX8_157 s_49 rfl (by decide) (zEx.1.1) ?_
                            refine e_icmp_gt (pc := 94) (tgt := 99) dX8_guests_94 rfl (fun h94 => ?_) (fun h94 => ?_)
                            · skip
                              refine e_iinc (pc := 99) (lo' := [(2, 49), (0, plB A), (0, (m : Int)), (0, (b : Int) + 1)]) dX8_guests_99 rfl (by omega) rfl (by decide) rfl ?_
                              refine e_goto (pc := 102) (tgt := 46) dX8_guests_102 rfl ?_
                              have zin : inT A (A 17) (mpR (A 18) (b : Int) 8) = false := by
                                unfold inT
                                rw [zcl]
                                exact decide_eq_false (by omega)
                              have zp : guP A m b = false := by unfold guP; rw [zin, Bool.and_false]
                              exact Ev.to (ih46 _ (by omega) (b + 1) zm2 (rfl) (by omega) (zM2) (zfz) (zfk.trans (fromK_f zp (by omega)))) rfl rfl rfl
                            · skip
                              refine e_iloadn (pc := 97) dX8_guests_97 rfl rfl ?_
                              have zin : inT A (A 17) (mpR (A 18) (b : Int) 8) = true := by
                                unfold inT
                                rw [zcl]
                                exact decide_eq_true (by omega)
                              have zp : guP A m b = true := by unfold guP; rw [zin, decide_eq_true (show cnt (fun j => b.testBit j) 8 = m ∧ bAnd (b : Int) (bXor (plB A) (-1)) = 0 from ⟨by omega, h66⟩)]; rfl
                              rw [gq_hit (by omega) (zfk.trans (fromK_t zp (by omega))) (by omega)] at zan
                              exact e_iret (pc := 98) dX8_guests_98 rfl (by rw [← hQ_]; exact ⟨by rw [zan], zM2, zfz⟩)
              exact Ev.to (L46 _ 0 zmv (rfl) (by omega) (zM) (zf) (rfl)) rfl rfl rfl
        exact Ev.to (L39 _ 0 mem (rfl) (by omega) (hM) (Fr.rf) (rfl)) rfl rfl rfl
      · skip
        refine e_iloadn (pc := 12) dX8_guests_12 rfl rfl ?_
        refine e_aloadn (pc := 13) dX8_guests_13 rfl rfl ?_
        refine e_getr (pc := 14) (k := 50) dX8_guests_14 fX8_7 s_49 rfl (by decide) ?_
        refine e_iloadn (pc := 17) dX8_guests_17 rfl rfl ?_
        refine e_ialdv (pc := 18) (v := (A 18 k)) dX8_guests_18 s_50 (by omega) ((hM.1.2 k (by omega) ((hI.cm zn1 (by omega)).mpr (by omega))).1.1) ?_
        refine e_if_ne (pc := 19) (tgt := 28) dX8_guests_19 rfl (fun h19 => ?_) (fun h19 => ?_)
        · skip
          refine e_iconst (pc := 28) dX8_guests_28 (by decide) ?_
          refine e_ior (pc := 29) dX8_guests_29 ?_
          rw [show bOr ((bitsTo (fun c => decide (A 18 c = 0)) k : Nat) : Int) 0 = ((bitsTo (fun c => decide (A 18 c = 0)) k : Nat) : Int) from bor_0 (by omega)]
          refine e_istoren (pc := 30) (lo' := [(2, 49), (0, ((bitsTo (fun c => decide (A 18 c = 0)) k : Nat) : Int)), (0, (k : Int)), (3, 0)]) dX8_guests_30 rfl rfl (by decide) rfl ?_
          refine e_iinc (pc := 31) (lo' := [(2, 49), (0, ((bitsTo (fun c => decide (A 18 c = 0)) k : Nat) : Int)), (0, (k : Int) + 1), (3, 0)]) dX8_guests_31 rfl (by omega) rfl (by decide) rfl ?_
          refine e_goto (pc := 34) (tgt := 4) dX8_guests_34 rfl ?_
          exact Ev.to (ih4 _ (by omega) (k + 1) (rfl) (by omega)) (by rw [show bitsTo (fun c => decide (A 18 c = 0)) (k + 1) = bitsTo (fun c => decide (A 18 c = 0)) k from (by show (if decide (A 18 k = 0) = true then _ else _) = _; rw [if_neg (by simp only [decide_eq_true_eq]; exact h19)])]; rfl) rfl rfl
        · skip
          refine e_iconst (pc := 22) dX8_guests_22 (by decide) ?_
          refine e_iloadn (pc := 23) dX8_guests_23 rfl rfl ?_
          refine e_ishl (pc := 24) dX8_guests_24 ?_
          rw [show bShl 1 (k : Int) = ((2 ^ k : Nat) : Int) from one_shl (by omega)]
          refine e_goto (pc := 25) (tgt := 29) dX8_guests_25 rfl ?_
          refine e_ior (pc := 29) dX8_guests_29 ?_
          rw [show bOr ((bitsTo (fun c => decide (A 18 c = 0)) k : Nat) : Int) ((2 ^ k : Nat) : Int) = ((bitsTo (fun c => decide (A 18 c = 0)) k ||| 2 ^ k : Nat) : Int) from bOr_nat (by omega) (by omega)]
          refine e_istoren (pc := 30) (lo' := [(2, 49), (0, ((bitsTo (fun c => decide (A 18 c = 0)) k ||| 2 ^ k : Nat) : Int)), (0, (k : Int)), (3, 0)]) dX8_guests_30 rfl rfl (by decide) rfl ?_
          refine e_iinc (pc := 31) (lo' := [(2, 49), (0, ((bitsTo (fun c => decide (A 18 c = 0)) k ||| 2 ^ k : Nat) : Int)), (0, (k : Int) + 1), (3, 0)]) dX8_guests_31 rfl (by omega) rfl (by decide) rfl ?_
          refine e_goto (pc := 34) (tgt := 4) dX8_guests_34 rfl ?_
          exact Ev.to (ih4 _ (by omega) (k + 1) (rfl) (by omega)) (by rw [show bitsTo (fun c => decide (A 18 c = 0)) (k + 1) = bitsTo (fun c => decide (A 18 c = 0)) k ||| 2 ^ k from (by show (if decide (A 18 k = 0) = true then _ else _) = _; rw [if_pos (decide_eq_true h19)])]; rfl) rfl rfl
  exact Ev.to (L4 _ 0 (rfl) (by omega)) rfl rfl rfl
