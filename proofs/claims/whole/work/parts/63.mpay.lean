def scH (c j : Nat) : Bool := c == 62 || (c == 49 && (decide (22 ≤ j) && decide (j ≤ 27)))
theorem scHV {a b : Mem} (zf : Fr scH a b) : Fr scV a b := zf.mono (fun c j q => by unfold scV at q; unfold scH; simp at q ⊢; omega)
theorem scHZ {a b : Mem} (zf : Fr scH a b) : Fr scZ a b := zf.mono (fun c j q => by unfold scZ at q; unfold scH; simp at q ⊢; omega)
theorem scOZ {a b : Mem} (zf : Fr scO a b) : Fr scZ a b := zf.mono (fun c j q => by unfold scZ at q; unfold scO; simp at q ⊢; omega)
theorem CI.ev {A : Mem} (h : CI A) : EvR (A 17) (A 18) (A 19) 0 0 (A 2) (A 3) := ⟨⟨h.2.1.1.1, h.2.1.1.2.1, h.2.1.1.2.2.1, by omega, by omega⟩, h.2.1.2⟩

theorem m_asTold (G : Gm) (A mem : Mem) (hI : CI A) (hM : MI A mem) : Con G mX8_asTold [(2, 49)] mem (fun r m' => r = none ∧ MI A m' ∧ Fr scH mem m' ∧ ME A m' (A 17) (A 18) (A 19) 0 0) := by
  refine Con.of (lo := [(2, 49), (3, 0)]) (by decide +kernel) (Nat.le_of_ble_eq_true rfl) rfl ?_
  generalize hQ_ : (fun r m' => r = none ∧ MI A m' ∧ Fr scH mem m' ∧ ME A m' (A 17) (A 18) (A 19) 0 0 : Option AV → Mem → Prop) = Q_
  obtain ⟨n, zn1, zn2, _⟩ := hI.2.2.2.2.1
  have zn3 := hM.1.1.trans zn1
  refine e_iconst (pc := 0) dX8_asTold_0 (by decide) ?_
  refine e_istoren (pc := 1) (lo' := [(2, 49), (0, 0)]) dX8_asTold_1 rfl rfl (by decide) rfl ?_
  have L2 : ∀ (n_ : Nat) (k : Nat), 8 - k = n_ → (k ≤ n) → Ev G mX8_asTold Q_ 2 [(2, 49), (0, (k : Int))] [] (rset mem 62 (mix (mem 51) (mem 62) k)) := by
    intro n_
    induction n_ using Nat.strongRecOn with
    | ind n_ ih2 =>
      intro k hn_ zk
      refine e_iloadn (pc := 2) dX8_asTold_2 rfl rfl ?_
      refine e_aloadn (pc := 3) dX8_asTold_3 rfl rfl ?_
      refine e_getiv (pc := 4) (v := (n : Int)) dX8_asTold_4 fX8_99 s_49 rfl (by decide) (zn3) ?_
      refine e_icmp_ge (pc := 7) (tgt := 28) dX8_asTold_7 rfl (fun h7 => ?_) (fun h7 => ?_)
      · skip
        refine e_aloadn (pc := 28) dX8_asTold_28 rfl rfl ?_
        refine e_aloadn (pc := 29) dX8_asTold_29 rfl rfl ?_
        refine e_getiv (pc := 30) (v := (A 17 0)) dX8_asTold_30 fX8_117 s_49 rfl (by decide) (hM.2.1.1) ?_
        refine e_putI (pc := 33) (mem2 := mset (rset mem 62 (mix (mem 51) (mem 62) k)) 49 22 (A 17 0)) dX8_asTold_33 fX8_157 s_49 rfl (by decide) pw_8_22 rfl ?_
        refine e_aloadn (pc := 36) dX8_asTold_36 rfl rfl ?_
        refine e_aloadn (pc := 37) dX8_asTold_37 rfl rfl ?_
        refine e_getiv (pc := 38) (v := (A 17 1)) dX8_asTold_38 fX8_120 s_49 rfl (by decide) (hM.2.1.2.1) ?_
        refine e_putI (pc := 41) (mem2 := mset (mset (rset mem 62 (mix (mem 51) (mem 62) k)) 49 22 (A 17 0)) 49 23 (A 17 1)) dX8_asTold_41 fX8_160 s_49 rfl (by decide) pw_8_23 rfl ?_
        refine e_aloadn (pc := 44) dX8_asTold_44 rfl rfl ?_
        refine e_aloadn (pc := 45) dX8_asTold_45 rfl rfl ?_
        refine e_getiv (pc := 46) (v := (A 17 2)) dX8_asTold_46 fX8_123 s_49 rfl (by decide) (hM.2.1.2.2) ?_
        refine e_putI (pc := 49) (mem2 := mset (mset (mset (rset mem 62 (mix (mem 51) (mem 62) k)) 49 22 (A 17 0)) 49 23 (A 17 1)) 49 24 (A 17 2)) dX8_asTold_49 fX8_163 s_49 rfl (by decide) pw_8_24 rfl ?_
        refine e_aloadn (pc := 52) dX8_asTold_52 rfl rfl ?_
        refine e_iconst (pc := 53) dX8_asTold_53 (by decide) ?_
        refine e_putI (pc := 54) (mem2 := mset (mset (mset (mset (rset mem 62 (mix (mem 51) (mem 62) k)) 49 22 (A 17 0)) 49 23 (A 17 1)) 49 24 (A 17 2)) 49 25 0) dX8_asTold_54 fX8_166 s_49 rfl (by decide) pw_8_25 rfl ?_
        refine e_aloadn (pc := 57) dX8_asTold_57 rfl rfl ?_
        refine e_iconst (pc := 58) dX8_asTold_58 (by decide) ?_
        refine e_putI (pc := 59) (mem2 := mset (mset (mset (mset (mset (rset mem 62 (mix (mem 51) (mem 62) k)) 49 22 (A 17 0)) 49 23 (A 17 1)) 49 24 (A 17 2)) 49 25 0) 49 26 0) dX8_asTold_59 fX8_169 s_49 rfl (by decide) pw_8_26 rfl ?_
        refine e_aloadn (pc := 62) dX8_asTold_62 rfl rfl ?_
        refine e_iconst (pc := 63) dX8_asTold_63 (by decide) ?_
        refine e_putI (pc := 64) (mem2 := mset (mset (mset (mset (mset (mset (rset mem 62 (mix (mem 51) (mem 62) k)) 49 22 (A 17 0)) 49 23 (A 17 1)) 49 24 (A 17 2)) 49 25 0) 49 26 0) 49 27 0) dX8_asTold_64 fX8_172 s_49 rfl (by decide) pw_8_27 rfl ?_
        have zfh : Fr scH mem (mset (mset (mset (mset (mset (mset (rset mem 62 (mix (mem 51) (mem 62) k)) 49 22 (A 17 0)) 49 23 (A 17 1)) 49 24 (A 17 2)) 49 25 0) 49 26 0) 49 27 0) := ((((((((Fr.rf (S := scH)).rs (fun _ => rfl)).ms rfl).ms rfl).ms rfl).ms rfl).ms rfl).ms rfl)
        have zme : ME A (mset (mset (mset (mset (mset (mset (rset mem 62 (mix (mem 51) (mem 62) k)) 49 22 (A 17 0)) 49 23 (A 17 1)) 49 24 (A 17 2)) 49 25 0) 49 26 0) 49 27 0) (A 17) (A 18) (A 19) 0 0 := by
          refine ⟨⟨rfl, rfl, rfl⟩, ⟨rfl, rfl, by show (0 : Int) ≤ 0; omega, by show (0 : Int) < 256; omega⟩, fun c hc => ?_, fun c hc hk => ?_, hI.ev⟩
          · show (bt 0 c = 1 → _) ∧ _ = if bt 0 c = 1 then 1 else A 18 c
            rw [bt_0, if_neg (by decide)]
            exact ⟨fun q => absurd q (by decide), rfl⟩
          · have zc := (hI.cm zn1 hc).mp (by rw [hk]; decide)
            show mix (mem 51) (mem 62) k c = _
            rw [mix_lt (by omega)]
            exact (hM.1.2 c hc (by rw [hk]; decide)).1.2.1 hk
        exact e_vret (pc := 67) dX8_asTold_67 rfl (by rw [← hQ_]; exact ⟨rfl, hM.v (scHV zfh), zfh, zme⟩)
      · skip
        refine e_aloadn (pc := 10) dX8_asTold_10 rfl rfl ?_
        refine e_getr (pc := 11) (k := 62) dX8_asTold_11 fX8_47 s_49 rfl (by decide) ?_
        refine e_iloadn (pc := 14) dX8_asTold_14 rfl rfl ?_
        refine e_aloadn (pc := 15) dX8_asTold_15 rfl rfl ?_
        refine e_getr (pc := 16) (k := 51) dX8_asTold_16 fX8_13 s_49 rfl (by decide) ?_
        refine e_iloadn (pc := 19) dX8_asTold_19 rfl rfl ?_
        refine e_ialdv (pc := 20) (v := (mem 51 k)) dX8_asTold_20 s_51 (by omega) (rfl) ?_
        refine e_iastm (pc := 21) (mem2 := rset mem 62 (mix (mem 51) (mem 62) (k + 1))) dX8_asTold_21 s_62 (by omega) (by rw [← mix_s]; exact mset_rset _ _ _ _ _) ?_
        refine e_iinc (pc := 22) (lo' := [(2, 49), (0, (k : Int) + 1)]) dX8_asTold_22 rfl (by omega) rfl (by decide) rfl ?_
        refine e_goto (pc := 25) (tgt := 2) dX8_asTold_25 rfl ?_
        exact Ev.to (ih2 _ (by omega) (k + 1) (rfl) (by omega)) rfl rfl rfl
  exact Ev.to (L2 _ 0 (rfl) (by omega)) rfl rfl (by rw [mix_0, rset_self])

noncomputable def pyE (A : Mem) (tm kd am : Nat → Int) (late aw : Int) (c : Nat) : Int := priceV (A 5) (A 6) (A 7) (tm 0) (tm 1) (tm 2) c (whT A tm kd am late aw c) (stT A tm kd am late aw)
theorem pyE_bd {A : Mem} {tm kd am : Nat → Int} {late aw : Int} (hC : CoOk A) (hE : EvR tm kd am late aw (A 2) (A 3)) {c : Nat} (hc : c < 8) : -99 ≤ pyE A tm kd am late aw c ∧ pyE A tm kd am late aw c ≤ 6039 := priceV_bd hC hE.1.2.1 hE.1.2.2.1 hc (whT_bd hC hE c hc) (stT_bd A tm kd am late aw)

theorem m_paysNow (G : Gm) (A mem : Mem) (tm kd am : Nat → Int) (late aw : Int) (c : Nat) (hc : c < 8) (hq : A 18 c ≠ -1) (hI : CI A) (hM : MI A mem) (hE : ME A mem tm kd am late aw) (hG : GO A mem tm kd am late aw) : Con G mX8_paysNow [(2, 49), (0, (c : Int))] mem (fun r m' => r = some (0, pyE A tm kd am late aw c) ∧ m' = mem) := by
  refine Con.of (lo := [(2, 49), (0, (c : Int)), (3, 0)]) (by decide +kernel) (Nat.le_of_ble_eq_true rfl) rfl ?_
  generalize hQ_ : (fun r m' => r = some (0, pyE A tm kd am late aw c) ∧ m' = mem : Option AV → Mem → Prop) = Q_
  obtain ⟨⟨zq0, zq1, zq2⟩, zq3, zq4, zq5, zq6, zq7⟩ := hM.1.2 c hc hq
  have zwv := hG.2 c hc hq
  have zsv := hG.1
  have zev := hE.2.2.2.2
  have zwb := whT_bd hI.1 zev c hc
  have zsb := stT_bd A tm kd am late aw
  obtain ⟨zc5, zc6, zc7, _⟩ := hI.1 c hc
  have ztf := zev.1.2.1
  have ztd := zev.1.2.2.1
  have zpd : pyE A tm kd am late aw c = priceV (A 5) (A 6) (A 7) (tm 0) (tm 1) (tm 2) c (whT A tm kd am late aw c) (stT A tm kd am late aw) := rfl
  generalize hWv_ : whT A tm kd am late aw c = zwh at *
  generalize hSv_ : stT A tm kd am late aw = zst at *
  have zm1 := mulI zc5 (b := zst - zwh)
  have zm2 := mulI zc6 (b := zwh - zst)
  refine e_aloadn (pc := 0) dX8_paysNow_0 rfl rfl ?_
  refine e_getr (pc := 1) (k := 63) dX8_paysNow_1 fX8_50 s_49 rfl (by decide) ?_
  refine e_iloadn (pc := 4) dX8_paysNow_4 rfl rfl ?_
  refine e_ialdv (pc := 5) (v := zwh) dX8_paysNow_5 s_63 (by omega) (zwv) ?_
  refine e_bipush (pc := 6) dX8_paysNow_6 rfl (by decide) ?_
  refine e_icmp_ne (pc := 8) (tgt := 18) dX8_paysNow_8 rfl (fun h8 => ?_) (fun h8 => ?_)
  · skip
    refine e_aloadn (pc := 18) dX8_paysNow_18 rfl rfl ?_
    refine e_getr (pc := 19) (k := 63) dX8_paysNow_19 fX8_50 s_49 rfl (by decide) ?_
    refine e_iloadn (pc := 22) dX8_paysNow_22 rfl rfl ?_
    refine e_ialdv (pc := 23) (v := zwh) dX8_paysNow_23 s_63 (by omega) (zwv) ?_
    refine e_aloadn (pc := 24) dX8_paysNow_24 rfl rfl ?_
    refine e_getiv (pc := 25) (v := (tm 0)) dX8_paysNow_25 fX8_157 s_49 rfl (by decide) (hE.1.1) ?_
    refine e_icmp_le (pc := 28) (tgt := 38) dX8_paysNow_28 rfl (fun h28 => ?_) (fun h28 => ?_)
    · skip
      refine e_iconst (pc := 38) dX8_paysNow_38 (by decide) ?_
      refine e_istoren (pc := 39) (lo' := [(2, 49), (0, (c : Int)), (0, 0)]) dX8_paysNow_39 rfl rfl (by decide) rfl ?_
      refine e_aloadn (pc := 40) dX8_paysNow_40 rfl rfl ?_
      refine e_getr (pc := 41) (k := 63) dX8_paysNow_41 fX8_50 s_49 rfl (by decide) ?_
      refine e_iloadn (pc := 44) dX8_paysNow_44 rfl rfl ?_
      refine e_ialdv (pc := 45) (v := zwh) dX8_paysNow_45 s_63 (by omega) (zwv) ?_
      refine e_aloadn (pc := 46) dX8_paysNow_46 rfl rfl ?_
      refine e_getiv (pc := 47) (v := zst) dX8_paysNow_47 fX8_178 s_49 rfl (by decide) (zsv) ?_
      refine e_icmp_gt (pc := 50) (tgt := 92) dX8_paysNow_50 rfl (fun h50 => ?_) (fun h50 => ?_)
      · skip
        refine e_iloadn (pc := 92) dX8_paysNow_92 rfl rfl ?_
        refine e_aloadn (pc := 93) dX8_paysNow_93 rfl rfl ?_
        refine e_getr (pc := 94) (k := 54) dX8_paysNow_94 fX8_22 s_49 rfl (by decide) ?_
        refine e_iloadn (pc := 97) dX8_paysNow_97 rfl rfl ?_
        refine e_ialdv (pc := 98) (v := (A 6 c)) dX8_paysNow_98 s_54 (by omega) (zq4) ?_
        refine e_aloadn (pc := 99) dX8_paysNow_99 rfl rfl ?_
        refine e_getr (pc := 100) (k := 63) dX8_paysNow_100 fX8_50 s_49 rfl (by decide) ?_
        refine e_iloadn (pc := 103) dX8_paysNow_103 rfl rfl ?_
        refine e_ialdv (pc := 104) (v := zwh) dX8_paysNow_104 s_63 (by omega) (zwv) ?_
        refine e_aloadn (pc := 105) dX8_paysNow_105 rfl rfl ?_
        refine e_getiv (pc := 106) (v := zst) dX8_paysNow_106 fX8_178 s_49 rfl (by decide) (zsv) ?_
        refine e_isubn (pc := 109) dX8_paysNow_109 (by omega) ?_
        refine e_imuln (pc := 110) dX8_paysNow_110 (by have z8 := zm2 (by omega); omega) ?_
        refine e_iaddn (pc := 111) dX8_paysNow_111 (by have z8 := zm2 (by omega); omega) ?_
        have zan : pyE A tm kd am late aw c = 0 + ((A 6 c) * (zwh - zst)) := by
          rw [zpd]
          unfold priceV
          rw [if_neg (by omega), if_pos (by omega), if_neg (by omega)]; omega
        exact e_iret (pc := 112) dX8_paysNow_112 rfl (by rw [← hQ_]; exact ⟨by rw [zan], rfl⟩)
      · skip
        refine e_iloadn (pc := 53) dX8_paysNow_53 rfl rfl ?_
        refine e_aloadn (pc := 54) dX8_paysNow_54 rfl rfl ?_
        refine e_getr (pc := 55) (k := 53) dX8_paysNow_55 fX8_19 s_49 rfl (by decide) ?_
        refine e_iloadn (pc := 58) dX8_paysNow_58 rfl rfl ?_
        refine e_ialdv (pc := 59) (v := (A 5 c)) dX8_paysNow_59 s_53 (by omega) (zq3) ?_
        refine e_aloadn (pc := 60) dX8_paysNow_60 rfl rfl ?_
        refine e_getiv (pc := 61) (v := zst) dX8_paysNow_61 fX8_178 s_49 rfl (by decide) (zsv) ?_
        refine e_aloadn (pc := 64) dX8_paysNow_64 rfl rfl ?_
        refine e_getr (pc := 65) (k := 63) dX8_paysNow_65 fX8_50 s_49 rfl (by decide) ?_
        refine e_iloadn (pc := 68) dX8_paysNow_68 rfl rfl ?_
        refine e_ialdv (pc := 69) (v := zwh) dX8_paysNow_69 s_63 (by omega) (zwv) ?_
        refine e_isubn (pc := 70) dX8_paysNow_70 (by omega) ?_
        refine e_imuln (pc := 71) dX8_paysNow_71 (by have z8 := zm1 (by omega); omega) ?_
        refine e_iaddn (pc := 72) dX8_paysNow_72 (by have z8 := zm1 (by omega); omega) ?_
        refine e_aloadn (pc := 73) dX8_paysNow_73 rfl rfl ?_
        refine e_getiv (pc := 74) (v := zst) dX8_paysNow_74 fX8_178 s_49 rfl (by decide) (zsv) ?_
        refine e_bipush (pc := 77) dX8_paysNow_77 rfl (by decide) ?_
        refine e_icmp_ge (pc := 79) (tgt := 89) dX8_paysNow_79 rfl (fun h79 => ?_) (fun h79 => ?_)
        · skip
          refine e_iconst (pc := 89) dX8_paysNow_89 (by decide) ?_
          refine e_isubn (pc := 90) dX8_paysNow_90 (by have z8 := zm1 (by omega); omega) ?_
          have zan : pyE A tm kd am late aw c = (0 + ((A 5 c) * (zst - zwh))) - 0 := by
            rw [zpd]
            unfold priceV
            rw [if_neg (by omega), if_neg (by omega), if_neg (by omega), if_neg (by omega)]; omega
          exact e_iret (pc := 91) dX8_paysNow_91 rfl (by rw [← hQ_]; exact ⟨by rw [zan], rfl⟩)
        · skip
          refine e_aloadn (pc := 82) dX8_paysNow_82 rfl rfl ?_
          refine e_getiv (pc := 83) (v := (tm 2)) dX8_paysNow_83 fX8_163 s_49 rfl (by decide) (hE.1.2.2) ?_
          refine e_goto (pc := 86) (tgt := 90) dX8_paysNow_86 rfl ?_
          refine e_isubn (pc := 90) dX8_paysNow_90 (by have z8 := zm1 (by omega); omega) ?_
          have zan : pyE A tm kd am late aw c = (0 + ((A 5 c) * (zst - zwh))) - (tm 2) := by
            rw [zpd]
            unfold priceV
            rw [if_neg (by omega), if_neg (by omega), if_pos (by omega), if_neg (by omega)]; omega
          exact e_iret (pc := 91) dX8_paysNow_91 rfl (by rw [← hQ_]; exact ⟨by rw [zan], rfl⟩)
    · skip
      refine e_aloadn (pc := 31) dX8_paysNow_31 rfl rfl ?_
      refine e_getiv (pc := 32) (v := (tm 1)) dX8_paysNow_32 fX8_160 s_49 rfl (by decide) (hE.1.2.1) ?_
      refine e_goto (pc := 35) (tgt := 39) dX8_paysNow_35 rfl ?_
      refine e_istoren (pc := 39) (lo' := [(2, 49), (0, (c : Int)), (0, (tm 1))]) dX8_paysNow_39 rfl rfl (by decide) rfl ?_
      refine e_aloadn (pc := 40) dX8_paysNow_40 rfl rfl ?_
      refine e_getr (pc := 41) (k := 63) dX8_paysNow_41 fX8_50 s_49 rfl (by decide) ?_
      refine e_iloadn (pc := 44) dX8_paysNow_44 rfl rfl ?_
      refine e_ialdv (pc := 45) (v := zwh) dX8_paysNow_45 s_63 (by omega) (zwv) ?_
      refine e_aloadn (pc := 46) dX8_paysNow_46 rfl rfl ?_
      refine e_getiv (pc := 47) (v := zst) dX8_paysNow_47 fX8_178 s_49 rfl (by decide) (zsv) ?_
      refine e_icmp_gt (pc := 50) (tgt := 92) dX8_paysNow_50 rfl (fun h50 => ?_) (fun h50 => ?_)
      · skip
        refine e_iloadn (pc := 92) dX8_paysNow_92 rfl rfl ?_
        refine e_aloadn (pc := 93) dX8_paysNow_93 rfl rfl ?_
        refine e_getr (pc := 94) (k := 54) dX8_paysNow_94 fX8_22 s_49 rfl (by decide) ?_
        refine e_iloadn (pc := 97) dX8_paysNow_97 rfl rfl ?_
        refine e_ialdv (pc := 98) (v := (A 6 c)) dX8_paysNow_98 s_54 (by omega) (zq4) ?_
        refine e_aloadn (pc := 99) dX8_paysNow_99 rfl rfl ?_
        refine e_getr (pc := 100) (k := 63) dX8_paysNow_100 fX8_50 s_49 rfl (by decide) ?_
        refine e_iloadn (pc := 103) dX8_paysNow_103 rfl rfl ?_
        refine e_ialdv (pc := 104) (v := zwh) dX8_paysNow_104 s_63 (by omega) (zwv) ?_
        refine e_aloadn (pc := 105) dX8_paysNow_105 rfl rfl ?_
        refine e_getiv (pc := 106) (v := zst) dX8_paysNow_106 fX8_178 s_49 rfl (by decide) (zsv) ?_
        refine e_isubn (pc := 109) dX8_paysNow_109 (by omega) ?_
        refine e_imuln (pc := 110) dX8_paysNow_110 (by have z8 := zm2 (by omega); omega) ?_
        refine e_iaddn (pc := 111) dX8_paysNow_111 (by have z8 := zm2 (by omega); omega) ?_
        have zan : pyE A tm kd am late aw c = (tm 1) + ((A 6 c) * (zwh - zst)) := by
          rw [zpd]
          unfold priceV
          rw [if_neg (by omega), if_pos (by omega), if_pos (by omega)]; omega
        exact e_iret (pc := 112) dX8_paysNow_112 rfl (by rw [← hQ_]; exact ⟨by rw [zan], rfl⟩)
      · skip
        refine e_iloadn (pc := 53) dX8_paysNow_53 rfl rfl ?_
        refine e_aloadn (pc := 54) dX8_paysNow_54 rfl rfl ?_
        refine e_getr (pc := 55) (k := 53) dX8_paysNow_55 fX8_19 s_49 rfl (by decide) ?_
        refine e_iloadn (pc := 58) dX8_paysNow_58 rfl rfl ?_
        refine e_ialdv (pc := 59) (v := (A 5 c)) dX8_paysNow_59 s_53 (by omega) (zq3) ?_
        refine e_aloadn (pc := 60) dX8_paysNow_60 rfl rfl ?_
        refine e_getiv (pc := 61) (v := zst) dX8_paysNow_61 fX8_178 s_49 rfl (by decide) (zsv) ?_
        refine e_aloadn (pc := 64) dX8_paysNow_64 rfl rfl ?_
        refine e_getr (pc := 65) (k := 63) dX8_paysNow_65 fX8_50 s_49 rfl (by decide) ?_
        refine e_iloadn (pc := 68) dX8_paysNow_68 rfl rfl ?_
        refine e_ialdv (pc := 69) (v := zwh) dX8_paysNow_69 s_63 (by omega) (zwv) ?_
        refine e_isubn (pc := 70) dX8_paysNow_70 (by omega) ?_
        refine e_imuln (pc := 71) dX8_paysNow_71 (by have z8 := zm1 (by omega); omega) ?_
        refine e_iaddn (pc := 72) dX8_paysNow_72 (by have z8 := zm1 (by omega); omega) ?_
        refine e_aloadn (pc := 73) dX8_paysNow_73 rfl rfl ?_
        refine e_getiv (pc := 74) (v := zst) dX8_paysNow_74 fX8_178 s_49 rfl (by decide) (zsv) ?_
        refine e_bipush (pc := 77) dX8_paysNow_77 rfl (by decide) ?_
        refine e_icmp_ge (pc := 79) (tgt := 89) dX8_paysNow_79 rfl (fun h79 => ?_) (fun h79 => ?_)
        · skip
          refine e_iconst (pc := 89) dX8_paysNow_89 (by decide) ?_
          refine e_isubn (pc := 90) dX8_paysNow_90 (by have z8 := zm1 (by omega); omega) ?_
          have zan : pyE A tm kd am late aw c = ((tm 1) + ((A 5 c) * (zst - zwh))) - 0 := by
            rw [zpd]
            unfold priceV
            rw [if_neg (by omega), if_neg (by omega), if_neg (by omega), if_pos (by omega)]; omega
          exact e_iret (pc := 91) dX8_paysNow_91 rfl (by rw [← hQ_]; exact ⟨by rw [zan], rfl⟩)
        · skip
          refine e_aloadn (pc := 82) dX8_paysNow_82 rfl rfl ?_
          refine e_getiv (pc := 83) (v := (tm 2)) dX8_paysNow_83 fX8_163 s_49 rfl (by decide) (hE.1.2.2) ?_
          refine e_goto (pc := 86) (tgt := 90) dX8_paysNow_86 rfl ?_
          refine e_isubn (pc := 90) dX8_paysNow_90 (by have z8 := zm1 (by omega); omega) ?_
          have zan : pyE A tm kd am late aw c = ((tm 1) + ((A 5 c) * (zst - zwh))) - (tm 2) := by
            rw [zpd]
            unfold priceV
            rw [if_neg (by omega), if_neg (by omega), if_pos (by omega), if_pos (by omega)]; omega
          exact e_iret (pc := 91) dX8_paysNow_91 rfl (by rw [← hQ_]; exact ⟨by rw [zan], rfl⟩)
  · skip
    refine e_aloadn (pc := 11) dX8_paysNow_11 rfl rfl ?_
    refine e_getr (pc := 12) (k := 55) dX8_paysNow_12 fX8_25 s_49 rfl (by decide) ?_
    refine e_iloadn (pc := 15) dX8_paysNow_15 rfl rfl ?_
    refine e_ialdv (pc := 16) (v := (A 7 c)) dX8_paysNow_16 s_55 (by omega) (zq5) ?_
    have zan : pyE A tm kd am late aw c = (A 7 c) := by
      rw [zpd]
      unfold priceV
      rw [if_pos (by omega)]
    exact e_iret (pc := 17) dX8_paysNow_17 rfl (by rw [← hQ_]; exact ⟨by rw [zan], rfl⟩)

theorem tog_n {A : Mem} {tm kd am : Nat → Int} {late aw : Int} {n : Nat} (hn : n ≤ 8) (h1 : ∀ c, c < n → kd c ≠ -1) (h2 : ∀ c, c < 8 → n ≤ c → kd c = -1) : sumTo (pyE A tm kd am late aw) n = togA A tm kd am late aw := by
  unfold togA
  have e := sumTo_tail (f := fun c => if kd c = -1 then 0 else priceV (A 5) (A 6) (A 7) (tm 0) (tm 1) (tm 2) c (whF kd am (tm 0) late aw (A 9) (A 2) (A 3) c) (stF A kd am (tm 0) late aw (A 9) (A 2) (A 3))) (n := n) (8 - n) (fun c h3 h4 => if_pos (h2 c (by omega) h3))
  rw [show n + (8 - n) = 8 by omega] at e
  rw [e]
  exact sumTo_congr (fun c hc => (if_neg (h1 c hc)).symm)

theorem m_paysAll (G : Gm) (A mem : Mem) (tm kd am : Nat → Int) (late aw : Int) (hI : CI A) (hM : MI A mem) (hE : ME A mem tm kd am late aw) (hG : GO A mem tm kd am late aw) : Con G mX8_paysAll [(2, 49)] mem (fun r m' => r = some (0, togA A tm kd am late aw) ∧ m' = mem) := by
  refine Con.of (lo := [(2, 49), (3, 0), (3, 0)]) (by decide +kernel) (Nat.le_of_ble_eq_true rfl) rfl ?_
  generalize hQ_ : (fun r m' => r = some (0, togA A tm kd am late aw) ∧ m' = mem : Option AV → Mem → Prop) = Q_
  obtain ⟨n, zn1, zn2, zn9⟩ := hI.2.2.2.2.1
  have zn3 := hM.1.1.trans zn1
  have zev := hE.2.2.2.2
  have ztg : sumTo (pyE A tm kd am late aw) n = togA A tm kd am late aw := tog_n zn2 (fun c hc q => ((hI.cm zn1 (by omega)).mpr hc) ((hE.kd (by omega)).2.1.mp q)) (fun c hc hq => (hE.kd hc).2.1.mpr ((zn9 c hc).1.mpr hq))
  clear zn9
  refine e_iconst (pc := 0) dX8_paysAll_0 (by decide) ?_
  refine e_istoren (pc := 1) (lo' := [(2, 49), (0, 0), (3, 0)]) dX8_paysAll_1 rfl rfl (by decide) rfl ?_
  refine e_iconst (pc := 2) dX8_paysAll_2 (by decide) ?_
  refine e_istoren (pc := 3) (lo' := [(2, 49), (0, 0), (0, 0)]) dX8_paysAll_3 rfl rfl (by decide) rfl ?_
  have L4 : ∀ (n_ : Nat) (k : Nat), 8 - k = n_ → (k ≤ n) → Ev G mX8_paysAll Q_ 4 [(2, 49), (0, sumTo (pyE A tm kd am late aw) k), (0, (k : Int))] [] mem := by
    intro n_
    induction n_ using Nat.strongRecOn with
    | ind n_ ih4 =>
      intro k hn_ zk
      have zsb := sumTo_bd (f := pyE A tm kd am late aw) (a := -99) (b := 6039) (n := k) (fun j hj => pyE_bd hI.1 zev (by omega))
      refine e_iloadn (pc := 4) dX8_paysAll_4 rfl rfl ?_
      refine e_aloadn (pc := 5) dX8_paysAll_5 rfl rfl ?_
      refine e_getiv (pc := 6) (v := (n : Int)) dX8_paysAll_6 fX8_99 s_49 rfl (by decide) (zn3) ?_
      refine e_icmp_ge (pc := 9) (tgt := 26) dX8_paysAll_9 rfl (fun h9 => ?_) (fun h9 => ?_)
      · skip
        refine e_iloadn (pc := 26) dX8_paysAll_26 rfl rfl ?_
        have zke : k = n := by omega
        exact e_iret (pc := 27) dX8_paysAll_27 rfl (by rw [← hQ_, zke, ztg]; exact ⟨rfl, rfl⟩)
      · skip
        refine e_iloadn (pc := 12) dX8_paysAll_12 rfl rfl ?_
        refine e_aloadn (pc := 13) dX8_paysAll_13 rfl rfl ?_
        refine e_iloadn (pc := 14) dX8_paysAll_14 rfl rfl ?_
        have zpb := pyE_bd hI.1 zev (c := k) (by omega)
        refine e_callVr (pc := 15) (as := [(0, (k : Int))]) (st := [(0, sumTo (pyE A tm kd am late aw) k)]) (m_paysNow G A mem tm kd am late aw k (by omega) ((hI.cm zn1 (by omega)).mpr (by omega)) hI hM hE hG) dX8_paysAll_15 lX8_paysAll_187 rfl s_49 cn_8 rfl rfl ?_
        refine e_iaddn (pc := 18) dX8_paysAll_18 (by omega) ?_
        refine e_istoren (pc := 19) (lo' := [(2, 49), (0, (sumTo (pyE A tm kd am late aw) k) + (pyE A tm kd am late aw k)), (0, (k : Int))]) dX8_paysAll_19 rfl rfl (by decide) rfl ?_
        refine e_iinc (pc := 20) (lo' := [(2, 49), (0, (sumTo (pyE A tm kd am late aw) k) + (pyE A tm kd am late aw k)), (0, (k : Int) + 1)]) dX8_paysAll_20 rfl (by omega) rfl (by decide) rfl ?_
        refine e_goto (pc := 23) (tgt := 4) dX8_paysAll_23 rfl ?_
        exact Ev.to (ih4 _ (by omega) (k + 1) (rfl) (by omega)) rfl rfl rfl
  exact Ev.to (L4 _ 0 (rfl) (by omega)) rfl rfl rfl

theorem m_begins (G : Gm) (A mem : Mem) (hI : CI A) (hM : MI A mem) : Con G mX8_begins [(2, 49)] mem (fun r m' => r = some (0, an_begins A ) ∧ MI A m' ∧ Fr scZ mem m') := by
  refine Con.of (lo := [(2, 49)]) (by decide +kernel) (Nat.le_of_ble_eq_true rfl) rfl ?_
  generalize hQ_ : (fun r m' => r = some (0, an_begins A ) ∧ MI A m' ∧ Fr scZ mem m' : Option AV → Mem → Prop) = Q_
  refine e_aloadn (pc := 0) dX8_begins_0 rfl rfl ?_
  refine e_callV (pc := 1) (as := []) (st := []) (m_asTold G A mem hI hM) dX8_begins_1 lX8_begins_190 rfl s_49 cn_8 rfl rfl (fun r_ zm1 hq_ => ?_)
  obtain ⟨zr_, zM1, zf1, zE1⟩ := hq_
  subst zr_
  refine Ev.to (st' := []) ?_ rfl rfl rfl
  refine e_aloadn (pc := 4) dX8_begins_4 rfl rfl ?_
  refine e_callV (pc := 5) (as := []) (st := []) (m_goes G A zm1 (A 17) (A 18) (A 19) 0 0 hI zM1 zE1) dX8_begins_5 lX8_begins_193 rfl s_49 cn_8 rfl rfl (fun r_ zm2 hq_ => ?_)
  obtain ⟨zr_, zM2, zf2, zG2⟩ := hq_
  subst zr_
  have zE2 := zE1.o zf2
  have zfz : Fr scZ mem zm2 := (scHZ zf1).tr (scOZ zf2)
  refine Ev.to (st' := []) ?_ rfl rfl rfl
  refine e_aloadn (pc := 8) dX8_begins_8 rfl rfl ?_
  refine e_getiv (pc := 9) (v := (an_begins A)) dX8_begins_9 fX8_178 s_49 rfl (by decide) (zG2.1) ?_
  exact e_iret (pc := 12) dX8_begins_12 rfl (by rw [← hQ_]; exact ⟨rfl, zM2, zfz⟩)

theorem m_comes (G : Gm) (A mem : Mem) (comer : Int) (hI : CI A) (hM : MI A mem) : Con G mX8_comes [(2, 49), (0, comer)] mem (fun r m' => r = some (0, an_comes A comer) ∧ MI A m' ∧ Fr scZ mem m') := by
  refine Con.of (lo := [(2, 49), (0, comer)]) (by decide +kernel) (Nat.le_of_ble_eq_true rfl) rfl ?_
  generalize hQ_ : (fun r m' => r = some (0, an_comes A comer) ∧ MI A m' ∧ Fr scZ mem m' : Option AV → Mem → Prop) = Q_
  refine e_aloadn (pc := 0) dX8_comes_0 rfl rfl ?_
  refine e_iloadn (pc := 1) dX8_comes_1 rfl rfl ?_
  refine e_callVr (pc := 2) (as := [(0, comer)]) (st := []) (v := (0, if 0 ≤ comer ∧ comer < 8 ∧ A 18 comer.toNat ≠ -1 then 1 else 0)) (m_isComerI G A mem comer hI hM) dX8_comes_2 lX8_comes_103 rfl s_49 cn_8 rfl rfl ?_
  by_cases zc : 0 ≤ comer ∧ comer < 8 ∧ A 18 comer.toNat ≠ -1
  · rw [if_pos zc]
    obtain ⟨cn, zcn1⟩ : ∃ cn : Nat, comer = (cn : Int) := ⟨comer.toNat, by omega⟩
    subst zcn1
    have zcn : cn < 8 := by omega
    have zck : A 18 cn ≠ -1 := zc.2.2
    refine e_if_ne (pc := 5) (tgt := 11) dX8_comes_5 rfl (fun h5 => ?_) (fun h5 => ?_)
    · skip
      refine e_aloadn (pc := 11) dX8_comes_11 rfl rfl ?_
      refine e_callV (pc := 12) (as := []) (st := []) (m_asTold G A mem hI hM) dX8_comes_12 lX8_comes_190 rfl s_49 cn_8 rfl rfl (fun r_ zm1 hq_ => ?_)
      obtain ⟨zr_, zM1, zf1, zE1⟩ := hq_
      subst zr_
      refine Ev.to (st' := []) ?_ rfl rfl rfl
      refine e_aloadn (pc := 15) dX8_comes_15 rfl rfl ?_
      refine e_callV (pc := 16) (as := []) (st := []) (m_goes G A zm1 (A 17) (A 18) (A 19) 0 0 hI zM1 zE1) dX8_comes_16 lX8_comes_193 rfl s_49 cn_8 rfl rfl (fun r_ zm2 hq_ => ?_)
      obtain ⟨zr_, zM2, zf2, zG2⟩ := hq_
      subst zr_
      have zE2 := zE1.o zf2
      have zfz : Fr scZ mem zm2 := (scHZ zf1).tr (scOZ zf2)
      refine Ev.to (st' := []) ?_ rfl rfl rfl
      refine e_aloadn (pc := 19) dX8_comes_19 rfl rfl ?_
      refine e_getr (pc := 20) (k := 63) dX8_comes_20 fX8_50 s_49 rfl (by decide) ?_
      refine e_iloadn (pc := 23) dX8_comes_23 rfl rfl ?_
      refine e_ialdv (pc := 24) (v := (whA0 A cn)) dX8_comes_24 s_63 (by omega) (zG2.2 cn zcn zck) ?_
      have zan : an_comes A (cn : Int) = whA0 A cn := by unfold an_comes; rw [if_pos zc]; rfl
      exact e_iret (pc := 25) dX8_comes_25 rfl (by rw [← hQ_]; exact ⟨by rw [zan], zM2, zfz⟩)
    · skip
      exact absurd h5 (by decide)
  · rw [if_neg zc]
    refine e_if_ne (pc := 5) (tgt := 11) dX8_comes_5 rfl (fun h5 => ?_) (fun h5 => ?_)
    · skip
      exact absurd h5 (by decide)
    · skip
      refine e_bipush (pc := 8) dX8_comes_8 rfl (by decide) ?_
      have zan : an_comes A comer = -2 := by unfold an_comes; rw [if_neg zc]
      exact e_iret (pc := 10) dX8_comes_10 rfl (by rw [← hQ_]; exact ⟨by rw [zan], hM, Fr.rf⟩)

theorem m_pays (G : Gm) (A mem : Mem) (comer : Int) (hI : CI A) (hM : MI A mem) : Con G mX8_pays [(2, 49), (0, comer)] mem (fun r m' => r = some (0, an_pays A comer) ∧ MI A m' ∧ Fr scZ mem m') := by
  refine Con.of (lo := [(2, 49), (0, comer)]) (by decide +kernel) (Nat.le_of_ble_eq_true rfl) rfl ?_
  generalize hQ_ : (fun r m' => r = some (0, an_pays A comer) ∧ MI A m' ∧ Fr scZ mem m' : Option AV → Mem → Prop) = Q_
  refine e_iloadn (pc := 0) dX8_pays_0 rfl rfl ?_
  refine e_iconst (pc := 1) dX8_pays_1 (by decide) ?_
  refine e_icmp_eq (pc := 2) (tgt := 17) dX8_pays_2 rfl (fun h2 => ?_) (fun h2 => ?_)
  · skip
    refine e_aloadn (pc := 17) dX8_pays_17 rfl rfl ?_
    refine e_callV (pc := 18) (as := []) (st := []) (m_asTold G A mem hI hM) dX8_pays_18 lX8_pays_190 rfl s_49 cn_8 rfl rfl (fun r_ zm1 hq_ => ?_)
    obtain ⟨zr_, zM1, zf1, zE1⟩ := hq_
    subst zr_
    refine Ev.to (st' := []) ?_ rfl rfl rfl
    refine e_aloadn (pc := 21) dX8_pays_21 rfl rfl ?_
    refine e_callV (pc := 22) (as := []) (st := []) (m_goes G A zm1 (A 17) (A 18) (A 19) 0 0 hI zM1 zE1) dX8_pays_22 lX8_pays_193 rfl s_49 cn_8 rfl rfl (fun r_ zm2 hq_ => ?_)
    obtain ⟨zr_, zM2, zf2, zG2⟩ := hq_
    subst zr_
    have zE2 := zE1.o zf2
    have zfz : Fr scZ mem zm2 := (scHZ zf1).tr (scOZ zf2)
    refine Ev.to (st' := []) ?_ rfl rfl rfl
    refine e_iloadn (pc := 25) dX8_pays_25 rfl rfl ?_
    refine e_iconst (pc := 26) dX8_pays_26 (by decide) ?_
    refine e_icmp_ne (pc := 27) (tgt := 37) dX8_pays_27 rfl (fun h27 => ?_) (fun h27 => ?_)
    · skip
      exfalso; omega
    · skip
      refine e_aloadn (pc := 30) dX8_pays_30 rfl rfl ?_
      refine e_callVr (pc := 31) (as := []) (st := []) (m_paysAll G A zm2 (A 17) (A 18) (A 19) 0 0 hI zM2 zE2 zG2) dX8_pays_31 lX8_pays_196 rfl s_49 cn_8 rfl rfl ?_
      refine e_goto (pc := 34) (tgt := 42) dX8_pays_34 rfl ?_
      have zan : an_pays A comer = togA A (A 17) (A 18) (A 19) 0 0 := by unfold an_pays; rw [if_pos (by omega)]
      exact e_iret (pc := 42) dX8_pays_42 rfl (by rw [← hQ_]; exact ⟨by rw [zan], zM2, zfz⟩)
  · skip
    refine e_aloadn (pc := 5) dX8_pays_5 rfl rfl ?_
    refine e_iloadn (pc := 6) dX8_pays_6 rfl rfl ?_
    refine e_callVr (pc := 7) (as := [(0, comer)]) (st := []) (v := (0, if 0 ≤ comer ∧ comer < 8 ∧ A 18 comer.toNat ≠ -1 then 1 else 0)) (m_isComerI G A mem comer hI hM) dX8_pays_7 lX8_pays_103 rfl s_49 cn_8 rfl rfl ?_
    by_cases zc : 0 ≤ comer ∧ comer < 8 ∧ A 18 comer.toNat ≠ -1
    · rw [if_pos zc]
      obtain ⟨cn, zcn1⟩ : ∃ cn : Nat, comer = (cn : Int) := ⟨comer.toNat, by omega⟩
      subst zcn1
      have zcn : cn < 8 := by omega
      have zck : A 18 cn ≠ -1 := zc.2.2
      refine e_if_ne (pc := 10) (tgt := 17) dX8_pays_10 rfl (fun h10 => ?_) (fun h10 => ?_)
      · skip
        refine e_aloadn (pc := 17) dX8_pays_17 rfl rfl ?_
        refine e_callV (pc := 18) (as := []) (st := []) (m_asTold G A mem hI hM) dX8_pays_18 lX8_pays_190 rfl s_49 cn_8 rfl rfl (fun r_ zm1 hq_ => ?_)
        obtain ⟨zr_, zM1, zf1, zE1⟩ := hq_
        subst zr_
        refine Ev.to (st' := []) ?_ rfl rfl rfl
        refine e_aloadn (pc := 21) dX8_pays_21 rfl rfl ?_
        refine e_callV (pc := 22) (as := []) (st := []) (m_goes G A zm1 (A 17) (A 18) (A 19) 0 0 hI zM1 zE1) dX8_pays_22 lX8_pays_193 rfl s_49 cn_8 rfl rfl (fun r_ zm2 hq_ => ?_)
        obtain ⟨zr_, zM2, zf2, zG2⟩ := hq_
        subst zr_
        have zE2 := zE1.o zf2
        have zfz : Fr scZ mem zm2 := (scHZ zf1).tr (scOZ zf2)
        refine Ev.to (st' := []) ?_ rfl rfl rfl
        refine e_iloadn (pc := 25) dX8_pays_25 rfl rfl ?_
        refine e_iconst (pc := 26) dX8_pays_26 (by decide) ?_
        refine e_icmp_ne (pc := 27) (tgt := 37) dX8_pays_27 rfl (fun h27 => ?_) (fun h27 => ?_)
        · skip
          refine e_aloadn (pc := 37) dX8_pays_37 rfl rfl ?_
          refine e_iloadn (pc := 38) dX8_pays_38 rfl rfl ?_
          refine e_callVr (pc := 39) (as := [(0, (cn : Int))]) (st := []) (m_paysNow G A zm2 (A 17) (A 18) (A 19) 0 0 cn zcn zck hI zM2 zE2 zG2) dX8_pays_39 lX8_pays_187 rfl s_49 cn_8 rfl rfl ?_
          have zan : an_pays A (cn : Int) = pyE A (A 17) (A 18) (A 19) 0 0 cn := by unfold an_pays; rw [if_neg (by omega), if_pos zc]; rfl
          exact e_iret (pc := 42) dX8_pays_42 rfl (by rw [← hQ_]; exact ⟨by rw [zan], zM2, zfz⟩)
        · skip
          exfalso; omega
      · skip
        exact absurd h10 (by decide)
    · rw [if_neg zc]
      refine e_if_ne (pc := 10) (tgt := 17) dX8_pays_10 rfl (fun h10 => ?_) (fun h10 => ?_)
      · skip
        exact absurd h10 (by decide)
      · skip
        refine e_sipush (pc := 13) dX8_pays_13 rfl (by decide) ?_
        have zan : an_pays A comer = -10000 := by unfold an_pays; rw [if_neg h2, if_neg zc]
        exact e_iret (pc := 16) dX8_pays_16 rfl (by rw [← hQ_]; exact ⟨by rw [zan], hM, Fr.rf⟩)

theorem wh_own {A : Mem} {tm kd am : Nat → Int} {late aw : Int} (hC : CoOk A) (hE : EvR tm kd am late aw (A 2) (A 3)) {c : Nat} (hc : c < 8) (hk : kd c = 0) (ha : bt aw c = 0) (hl : bt late c = 0) : whT A tm kd am late aw c = am c := by
  rw [← smE_wh hC hE hc]
  show sim _ _ _ _ 60 c = _
  rw [sim_own (by unfold isK; rw [hk]; simp)]
  have hr := (hE.2 c hc).2.1
  unfold fmR firmV
  have : (c : Int) ≠ -1 := by omega
  rw [if_pos (by unfold isF; rw [hk, ha]; simp [this]), if_pos hk, hl, if_neg (show ¬ (0 : Int) = 1 by decide), Int.add_zero]
  split <;> omega
theorem ev_us {A : Mem} {tm kd am : Nat → Int} {late aw : Int} (hE : EvR tm kd am late aw (A 2) (A 3)) (c : Nat) {x : Int} (hx : 0 ≤ x ∧ x ≤ 60) : EvR tm kd (uset am c x) late aw (A 2) (A 3) := ⟨hE.1, fun d hd => by
  have := hE.2 d hd
  refine ⟨this.1, ?_, this.2.2⟩
  unfold uset
  split
  · exact hx
  · exact this.2.1⟩
theorem ME.us {A zm zn : Mem} {tm kd am : Nat → Int} {late aw : Int} (h : ME A zm tm kd am late aw) {c : Nat} {x : Int} (hx : 0 ≤ x ∧ x ≤ 60) (e : ∀ j, 22 ≤ j → j ≤ 27 → zn 49 j = zm 49 j) (e2 : ∀ d, d < 8 → zn 62 d = uset (zm 62) c x d) : ME A zn tm kd (uset am c x) late aw := by
  obtain ⟨h1, h2, h3, h4, h5⟩ := h
  refine ⟨?_, ?_, ?_, fun d hd hk => ?_, ev_us h5 c hx⟩
  · rw [e 22 (by omega) (by omega), e 23 (by omega) (by omega), e 24 (by omega) (by omega)]; exact h1
  · rw [e 25 (by omega) (by omega), e 26 (by omega) (by omega), e 27 (by omega) (by omega)]; exact h2
  · rw [e 25 (by omega) (by omega)]; exact h3
  · rw [e2 d hd]; exact us_eq (h4 d hd hk)
theorem pyE_pr {A : Mem} {tm kd am : Nat → Int} {late aw : Int} (hC : CoOk A) (hE : EvR tm kd am late aw (A 2) (A 3)) {c k : Nat} (hc : c < 8) (hk : kd c = 0) (ha : bt aw c = 0) (hl : bt late c = 0) (hk6 : k ≤ 60) : pyE A tm kd (uset am c (k : Int)) late aw c = prA A tm kd am late aw c k := by
  unfold pyE
  rw [wh_own hC (ev_us hE c (by omega)) hc hk ha hl, uset_eq]
  rfl
def scO6 (c j : Nat) : Bool := scO c j || c == 62
theorem scO6V {a b : Mem} (zf : Fr scO a b) : Fr scO6 a b := zf.mono (fun c j q => by unfold scO6 at q; simp at q; exact q.1)
theorem bst_k (f : Nat → Int) (last : Bool) (k : Nat) : bst f last (k + 1) = if f k < (bst f last k).2 ∨ (last = true ∧ f k = (bst f last k).2) then ((k : Int), f k) else bst f last k := rfl

theorem m_bestOf (G : Gm) (A mem : Mem) (tm kd am : Nat → Int) (late aw : Int) (c : Nat) (last : Bool) (hc : c < 8) (hk : kd c = 0) (ha : bt aw c = 0) (hl : bt late c = 0) (hI : CI A) (hM : MI A mem) (hE : ME A mem tm kd am late aw) : Con G mX8_bestOf [(2, 49), (0, (c : Int)), (0, (if last then 1 else 0))] mem (fun r m' => r = some (0, ((bestN (prA A tm kd am late aw c) last : Nat) : Int)) ∧ MI A m' ∧ Fr scO mem m') := by
  refine Con.of (lo := [(2, 49), (0, (c : Int)), (0, (if last then 1 else 0)), (3, 0), (3, 0), (3, 0), (3, 0), (3, 0), (3, 0)]) (by decide +kernel) (Nat.le_of_ble_eq_true rfl) rfl ?_
  generalize hQ_ : (fun r m' => r = some (0, ((bestN (prA A tm kd am late aw c) last : Nat) : Int)) ∧ MI A m' ∧ Fr scO mem m' : Option AV → Mem → Prop) = Q_
  have zev := hE.2.2.2.2
  have zpb : ∀ j, j ≤ 60 → -99 ≤ (prA A tm kd am late aw c) j ∧ (prA A tm kd am late aw c) j ≤ 6039 := fun j hj => by rw [← pyE_pr hI.1 zev hc hk ha hl hj]; exact pyE_bd hI.1 (ev_us zev c (by omega)) hc
  have zq : A 18 c ≠ -1 := by have := (hE.kd hc).2.2.1.mp hk; omega
  refine e_aloadn (pc := 0) dX8_bestOf_0 rfl rfl ?_
  refine e_getr (pc := 1) (k := 62) dX8_bestOf_1 fX8_47 s_49 rfl (by decide) ?_
  refine e_iloadn (pc := 4) dX8_bestOf_4 rfl rfl ?_
  refine e_ialdv (pc := 5) (v := (mem 62 c)) dX8_bestOf_5 s_62 (by omega) (rfl) ?_
  refine e_istoren (pc := 6) (lo' := [(2, 49), (0, (c : Int)), (0, (if last then 1 else 0)), (0, (mem 62 c)), (3, 0), (3, 0), (3, 0), (3, 0), (3, 0)]) dX8_bestOf_6 rfl rfl (by decide) rfl ?_
  refine e_iconst (pc := 7) dX8_bestOf_7 (by decide) ?_
  refine e_istore (pc := 8) (lo' := [(2, 49), (0, (c : Int)), (0, (if last then 1 else 0)), (0, (mem 62 c)), (0, 0), (3, 0), (3, 0), (3, 0), (3, 0)]) dX8_bestOf_8 rfl (by decide) rfl ?_
  refine e_iconst (pc := 10) dX8_bestOf_10 (by decide) ?_
  refine e_istore (pc := 11) (lo' := [(2, 49), (0, (c : Int)), (0, (if last then 1 else 0)), (0, (mem 62 c)), (0, 0), (0, 0), (3, 0), (3, 0), (3, 0)]) dX8_bestOf_11 rfl (by decide) rfl ?_
  refine e_iconst (pc := 13) dX8_bestOf_13 (by decide) ?_
  refine e_istore (pc := 14) (lo' := [(2, 49), (0, (c : Int)), (0, (if last then 1 else 0)), (0, (mem 62 c)), (0, 0), (0, 0), (0, 0), (3, 0), (3, 0)]) dX8_bestOf_14 rfl (by decide) rfl ?_
  have L16 : ∀ (n_ : Nat) (k : Nat) (ba : Int) (le : Int) (zmv : Mem), 61 - k = n_ → (k ≤ 61) → (k = 0 → ba = 0 ∧ le = 0) → (0 < k → bst (prA A tm kd am late aw c) last k = (ba, le)) → (MI A zmv) → (Fr scO6 mem zmv) → (∀ j, j ≠ c → zmv 62 j = mem 62 j) → Ev G mX8_bestOf Q_ 16 [(2, 49), (0, (c : Int)), (0, (if last then 1 else 0)), (0, mem 62 c), (0, ba), (0, le), (0, (k : Int)), (3, 0), (3, 0)] [] zmv := by
    intro n_
    induction n_ using Nat.strongRecOn with
    | ind n_ ih16 =>
      intro k ba le zmv hn_ zk zb0 zb1 zM zf zr
      refine e_iload (pc := 16) dX8_bestOf_16 rfl ?_
      refine e_bipush (pc := 18) dX8_bestOf_18 rfl (by decide) ?_
      refine e_icmp_gt (pc := 20) (tgt := 106) dX8_bestOf_20 rfl (fun h20 => ?_) (fun h20 => ?_)
      · skip
        have zke : k = 61 := by omega
        have zbe := zb1 (by omega)
        rw [zke] at zbe
        refine e_aloadn (pc := 106) dX8_bestOf_106 rfl rfl ?_
        refine e_getr (pc := 107) (k := 62) dX8_bestOf_107 fX8_47 s_49 rfl (by decide) ?_
        refine e_iloadn (pc := 110) dX8_bestOf_110 rfl rfl ?_
        refine e_iloadn (pc := 111) dX8_bestOf_111 rfl rfl ?_
        refine e_iastm (pc := 112) (mem2 := mset zmv 62 c (mem 62 c)) dX8_bestOf_112 s_62 (by omega) rfl ?_
        refine e_iload (pc := 113) dX8_bestOf_113 rfl ?_
        have zrow : (mset zmv 62 c (mem 62 c)) 62 = mem 62 := by
          rw [mset_row]
          funext j
          unfold uset
          by_cases q : j = c
          · rw [if_pos q, q]
          · rw [if_neg q]; exact zr j q
        have zfo : Fr scO mem (mset zmv 62 c (mem 62 c)) := fun d j q => by
          by_cases z : d = 62
          · rw [z, zrow]
          · rw [mset_nc _ _ _ _ z]; exact zf d j (by unfold scO6; simp [q, z])
        have zan : ((bestN (prA A tm kd am late aw c) last : Nat) : Int) = ba := by
          have z7 := bestN_eq (prA A tm kd am late aw c) last
          unfold bestV at z7
          rw [zbe] at z7
          exact z7.symm
        exact e_iret (pc := 115) dX8_bestOf_115 rfl (by rw [← hQ_]; exact ⟨by rw [zan], zM.v ((Fr.rf (S := scV)).ms rfl), zfo⟩)
      · skip
        refine e_aloadn (pc := 23) dX8_bestOf_23 rfl rfl ?_
        refine e_getr (pc := 24) (k := 62) dX8_bestOf_24 fX8_47 s_49 rfl (by decide) ?_
        refine e_iloadn (pc := 27) dX8_bestOf_27 rfl rfl ?_
        refine e_iload (pc := 28) dX8_bestOf_28 rfl ?_
        refine e_iastm (pc := 30) (mem2 := mset zmv 62 c (k : Int)) dX8_bestOf_30 s_62 (by omega) rfl ?_
        refine e_aloadn (pc := 31) dX8_bestOf_31 rfl rfl ?_
        have zE0 : ME A (mset zmv 62 c (k : Int)) tm kd (uset am c (k : Int)) late aw := hE.us (by omega) (fun j h1 h2 => zf 49 j (by unfold scO6 scO; simp; omega)) (fun d hd => by
          show uset (zmv 62) c (k : Int) d = _
          by_cases q : d = c
          · rw [q, uset_eq, uset_eq]
          · rw [uset_ne _ _ q, uset_ne _ _ q]; exact zr d q)
        refine e_callV (pc := 32) (as := []) (st := []) (m_goes G A (mset zmv 62 c (k : Int)) tm kd (uset am c (k : Int)) late aw hI (zM.v ((Fr.rf (S := scV)).ms rfl)) zE0) dX8_bestOf_32 lX8_bestOf_193 rfl s_49 cn_8 rfl rfl (fun r_ zm1 hq_ => ?_)
        obtain ⟨zr_, zM1, zf1, zG1⟩ := hq_
        subst zr_
        have zE1 := zE0.o zf1
        refine Ev.to (st' := []) ?_ rfl rfl rfl
        refine e_aloadn (pc := 35) dX8_bestOf_35 rfl rfl ?_
        refine e_iloadn (pc := 36) dX8_bestOf_36 rfl rfl ?_
        have zPN := m_paysNow G A zm1 tm kd (uset am c (k : Int)) late aw c hc zq hI zM1 zE1 zG1
        rw [pyE_pr hI.1 zev hc hk ha hl (by omega)] at zPN
        refine e_callVr (pc := 37) (as := [(0, (c : Int))]) (st := []) (zPN) dX8_bestOf_37 lX8_bestOf_187 rfl s_49 cn_8 rfl rfl ?_
        refine e_istore (pc := 40) (lo' := [(2, 49), (0, (c : Int)), (0, (if last then 1 else 0)), (0, mem 62 c), (0, ba), (0, le), (0, (k : Int)), (0, (prA A tm kd am late aw c) k), (3, 0)]) dX8_bestOf_40 rfl (by decide) rfl ?_
        refine e_iload (pc := 42) dX8_bestOf_42 rfl ?_
        refine e_if_eq (pc := 44) (tgt := 65) dX8_bestOf_44 rfl (fun h44 => ?_) (fun h44 => ?_)
        · skip
          refine e_iconst (pc := 65) dX8_bestOf_65 (by decide) ?_
          refine e_goto (pc := 66) (tgt := 70) dX8_bestOf_66 rfl ?_
          refine e_istore (pc := 70) (lo' := [(2, 49), (0, (c : Int)), (0, (if last then 1 else 0)), (0, mem 62 c), (0, ba), (0, le), (0, (k : Int)), (0, (prA A tm kd am late aw c) k), (0, 1)]) dX8_bestOf_70 rfl (by decide) rfl ?_
          refine e_iload (pc := 72) dX8_bestOf_72 rfl ?_
          refine e_if_eq (pc := 74) (tgt := 82) dX8_bestOf_74 rfl (fun h74 => ?_) (fun h74 => ?_)
          · skip
            exact absurd h74 (by decide)
          · skip
            refine e_iload (pc := 77) dX8_bestOf_77 rfl ?_
            refine e_goto (pc := 79) (tgt := 84) dX8_bestOf_79 rfl ?_
            refine e_istore (pc := 84) (lo' := [(2, 49), (0, (c : Int)), (0, (if last then 1 else 0)), (0, mem 62 c), (0, (k : Int)), (0, le), (0, (k : Int)), (0, (prA A tm kd am late aw c) k), (0, 1)]) dX8_bestOf_84 rfl (by decide) rfl ?_
            refine e_iload (pc := 86) dX8_bestOf_86 rfl ?_
            refine e_if_eq (pc := 88) (tgt := 96) dX8_bestOf_88 rfl (fun h88 => ?_) (fun h88 => ?_)
            · skip
              exact absurd h88 (by decide)
            · skip
              refine e_iload (pc := 91) dX8_bestOf_91 rfl ?_
              refine e_goto (pc := 93) (tgt := 98) dX8_bestOf_93 rfl ?_
              refine e_istore (pc := 98) (lo' := [(2, 49), (0, (c : Int)), (0, (if last then 1 else 0)), (0, mem 62 c), (0, (k : Int)), (0, (prA A tm kd am late aw c) k), (0, (k : Int)), (0, (prA A tm kd am late aw c) k), (0, 1)]) dX8_bestOf_98 rfl (by decide) rfl ?_
              refine e_iinc (pc := 100) (lo' := [(2, 49), (0, (c : Int)), (0, (if last then 1 else 0)), (0, mem 62 c), (0, (k : Int)), (0, (prA A tm kd am late aw c) k), (0, (k : Int) + 1), (0, (prA A tm kd am late aw c) k), (0, 1)]) dX8_bestOf_100 rfl (by omega) rfl (by decide) rfl ?_
              refine e_goto (pc := 103) (tgt := 16) dX8_bestOf_103 rfl ?_
              have zf3 : Fr scO6 mem zm1 := (zf.ms rfl).tr (scO6V zf1)
              have zr3 : ∀ j, j ≠ c → zm1 62 j = mem 62 j := fun j hj => (zf1 62 j rfl).trans ((mset_nj _ _ _ _ hj).trans (zr j hj))
              have zbs : bst (prA A tm kd am late aw c) last (k + 1) = ((k : Int), (prA A tm kd am late aw c) k) := by
                rw [bst_k]
                by_cases z0 : k = 0
                · rw [z0]
                  exact if_pos (Or.inl (show (prA A tm kd am late aw c) 0 < 2147483647 by have := zpb 0 (by omega); omega))
                · rw [zb1 (by omega)]
                  show (if (prA A tm kd am late aw c) k < le ∨ (last = true ∧ (prA A tm kd am late aw c) k = le) then ((k : Int), (prA A tm kd am late aw c) k) else (ba, le)) = _
                  exfalso; omega
              refine Ev.fgt [7, 8] ?_
              exact Ev.to (ih16 _ (by omega) (k + 1) (k : Int) ((prA A tm kd am late aw c) k) zm1 (rfl) (by omega) (fun q => absurd q (by omega)) (fun _ => zbs) (zM1) (zf3) (zr3)) rfl rfl rfl
        · skip
          refine e_iload (pc := 47) dX8_bestOf_47 rfl ?_
          refine e_iload (pc := 49) dX8_bestOf_49 rfl ?_
          refine e_icmp_lt (pc := 51) (tgt := 65) dX8_bestOf_51 rfl (fun h51 => ?_) (fun h51 => ?_)
          · skip
            refine e_iconst (pc := 65) dX8_bestOf_65 (by decide) ?_
            refine e_goto (pc := 66) (tgt := 70) dX8_bestOf_66 rfl ?_
            refine e_istore (pc := 70) (lo' := [(2, 49), (0, (c : Int)), (0, (if last then 1 else 0)), (0, mem 62 c), (0, ba), (0, le), (0, (k : Int)), (0, (prA A tm kd am late aw c) k), (0, 1)]) dX8_bestOf_70 rfl (by decide) rfl ?_
            refine e_iload (pc := 72) dX8_bestOf_72 rfl ?_
            refine e_if_eq (pc := 74) (tgt := 82) dX8_bestOf_74 rfl (fun h74 => ?_) (fun h74 => ?_)
            · skip
              exact absurd h74 (by decide)
            · skip
              refine e_iload (pc := 77) dX8_bestOf_77 rfl ?_
              refine e_goto (pc := 79) (tgt := 84) dX8_bestOf_79 rfl ?_
              refine e_istore (pc := 84) (lo' := [(2, 49), (0, (c : Int)), (0, (if last then 1 else 0)), (0, mem 62 c), (0, (k : Int)), (0, le), (0, (k : Int)), (0, (prA A tm kd am late aw c) k), (0, 1)]) dX8_bestOf_84 rfl (by decide) rfl ?_
              refine e_iload (pc := 86) dX8_bestOf_86 rfl ?_
              refine e_if_eq (pc := 88) (tgt := 96) dX8_bestOf_88 rfl (fun h88 => ?_) (fun h88 => ?_)
              · skip
                exact absurd h88 (by decide)
              · skip
                refine e_iload (pc := 91) dX8_bestOf_91 rfl ?_
                refine e_goto (pc := 93) (tgt := 98) dX8_bestOf_93 rfl ?_
                refine e_istore (pc := 98) (lo' := [(2, 49), (0, (c : Int)), (0, (if last then 1 else 0)), (0, mem 62 c), (0, (k : Int)), (0, (prA A tm kd am late aw c) k), (0, (k : Int)), (0, (prA A tm kd am late aw c) k), (0, 1)]) dX8_bestOf_98 rfl (by decide) rfl ?_
                refine e_iinc (pc := 100) (lo' := [(2, 49), (0, (c : Int)), (0, (if last then 1 else 0)), (0, mem 62 c), (0, (k : Int)), (0, (prA A tm kd am late aw c) k), (0, (k : Int) + 1), (0, (prA A tm kd am late aw c) k), (0, 1)]) dX8_bestOf_100 rfl (by omega) rfl (by decide) rfl ?_
                refine e_goto (pc := 103) (tgt := 16) dX8_bestOf_103 rfl ?_
                have zf3 : Fr scO6 mem zm1 := (zf.ms rfl).tr (scO6V zf1)
                have zr3 : ∀ j, j ≠ c → zm1 62 j = mem 62 j := fun j hj => (zf1 62 j rfl).trans ((mset_nj _ _ _ _ hj).trans (zr j hj))
                have zbs : bst (prA A tm kd am late aw c) last (k + 1) = ((k : Int), (prA A tm kd am late aw c) k) := by
                  rw [bst_k]
                  by_cases z0 : k = 0
                  · rw [z0]
                    exact if_pos (Or.inl (show (prA A tm kd am late aw c) 0 < 2147483647 by have := zpb 0 (by omega); omega))
                  · rw [zb1 (by omega)]
                    show (if (prA A tm kd am late aw c) k < le ∨ (last = true ∧ (prA A tm kd am late aw c) k = le) then ((k : Int), (prA A tm kd am late aw c) k) else (ba, le)) = _
                    exact if_pos (Or.inl (by omega))
                refine Ev.fgt [7, 8] ?_
                exact Ev.to (ih16 _ (by omega) (k + 1) (k : Int) ((prA A tm kd am late aw c) k) zm1 (rfl) (by omega) (fun q => absurd q (by omega)) (fun _ => zbs) (zM1) (zf3) (zr3)) rfl rfl rfl
          · skip
            refine e_iloadn (pc := 54) dX8_bestOf_54 rfl rfl ?_
            refine e_if_eq (pc := 55) (tgt := 69) dX8_bestOf_55 rfl (fun h55 => ?_) (fun h55 => ?_)
            · skip
              have zlast : last = false := by cases last with
                | false => rfl
                | true => exact absurd h55 (by decide)
              refine e_iconst (pc := 69) dX8_bestOf_69 (by decide) ?_
              refine e_istore (pc := 70) (lo' := [(2, 49), (0, (c : Int)), (0, (if last then 1 else 0)), (0, mem 62 c), (0, ba), (0, le), (0, (k : Int)), (0, (prA A tm kd am late aw c) k), (0, 0)]) dX8_bestOf_70 rfl (by decide) rfl ?_
              refine e_iload (pc := 72) dX8_bestOf_72 rfl ?_
              refine e_if_eq (pc := 74) (tgt := 82) dX8_bestOf_74 rfl (fun h74 => ?_) (fun h74 => ?_)
              · skip
                refine e_iload (pc := 82) dX8_bestOf_82 rfl ?_
                refine e_istore (pc := 84) (lo' := [(2, 49), (0, (c : Int)), (0, (if last then 1 else 0)), (0, mem 62 c), (0, ba), (0, le), (0, (k : Int)), (0, (prA A tm kd am late aw c) k), (0, 0)]) dX8_bestOf_84 rfl (by decide) rfl ?_
                refine e_iload (pc := 86) dX8_bestOf_86 rfl ?_
                refine e_if_eq (pc := 88) (tgt := 96) dX8_bestOf_88 rfl (fun h88 => ?_) (fun h88 => ?_)
                · skip
                  refine e_iload (pc := 96) dX8_bestOf_96 rfl ?_
                  refine e_istore (pc := 98) (lo' := [(2, 49), (0, (c : Int)), (0, (if last then 1 else 0)), (0, mem 62 c), (0, ba), (0, le), (0, (k : Int)), (0, (prA A tm kd am late aw c) k), (0, 0)]) dX8_bestOf_98 rfl (by decide) rfl ?_
                  refine e_iinc (pc := 100) (lo' := [(2, 49), (0, (c : Int)), (0, (if last then 1 else 0)), (0, mem 62 c), (0, ba), (0, le), (0, (k : Int) + 1), (0, (prA A tm kd am late aw c) k), (0, 0)]) dX8_bestOf_100 rfl (by omega) rfl (by decide) rfl ?_
                  refine e_goto (pc := 103) (tgt := 16) dX8_bestOf_103 rfl ?_
                  have zf3 : Fr scO6 mem zm1 := (zf.ms rfl).tr (scO6V zf1)
                  have zr3 : ∀ j, j ≠ c → zm1 62 j = mem 62 j := fun j hj => (zf1 62 j rfl).trans ((mset_nj _ _ _ _ hj).trans (zr j hj))
                  have zbs : bst (prA A tm kd am late aw c) last (k + 1) = (ba, le) := by
                    rw [bst_k]
                    by_cases z0 : k = 0
                    · rw [z0]
                      exfalso; omega
                    · rw [zb1 (by omega)]
                      show (if (prA A tm kd am late aw c) k < le ∨ (last = true ∧ (prA A tm kd am late aw c) k = le) then ((k : Int), (prA A tm kd am late aw c) k) else (ba, le)) = _
                      refine if_neg ?_
                      rintro (q | q)
                      · omega
                      · rw [zlast] at q; exact absurd q.1 (by decide)
                  refine Ev.fgt [7, 8] ?_
                  exact Ev.to (ih16 _ (by omega) (k + 1) ba le zm1 (rfl) (by omega) (fun q => absurd q (by omega)) (fun _ => zbs) (zM1) (zf3) (zr3)) rfl rfl rfl
                · skip
                  exact absurd h88 (by decide)
              · skip
                exact absurd h74 (by decide)
            · skip
              have zlast : last = true := by cases last with
                | true => rfl
                | false => exact absurd rfl h55
              refine e_iload (pc := 58) dX8_bestOf_58 rfl ?_
              refine e_iload (pc := 60) dX8_bestOf_60 rfl ?_
              refine e_icmp_ne (pc := 62) (tgt := 69) dX8_bestOf_62 rfl (fun h62 => ?_) (fun h62 => ?_)
              · skip
                refine e_iconst (pc := 69) dX8_bestOf_69 (by decide) ?_
                refine e_istore (pc := 70) (lo' := [(2, 49), (0, (c : Int)), (0, (if last then 1 else 0)), (0, mem 62 c), (0, ba), (0, le), (0, (k : Int)), (0, (prA A tm kd am late aw c) k), (0, 0)]) dX8_bestOf_70 rfl (by decide) rfl ?_
                refine e_iload (pc := 72) dX8_bestOf_72 rfl ?_
                refine e_if_eq (pc := 74) (tgt := 82) dX8_bestOf_74 rfl (fun h74 => ?_) (fun h74 => ?_)
                · skip
                  refine e_iload (pc := 82) dX8_bestOf_82 rfl ?_
                  refine e_istore (pc := 84) (lo' := [(2, 49), (0, (c : Int)), (0, (if last then 1 else 0)), (0, mem 62 c), (0, ba), (0, le), (0, (k : Int)), (0, (prA A tm kd am late aw c) k), (0, 0)]) dX8_bestOf_84 rfl (by decide) rfl ?_
                  refine e_iload (pc := 86) dX8_bestOf_86 rfl ?_
                  refine e_if_eq (pc := 88) (tgt := 96) dX8_bestOf_88 rfl (fun h88 => ?_) (fun h88 => ?_)
                  · skip
                    refine e_iload (pc := 96) dX8_bestOf_96 rfl ?_
                    refine e_istore (pc := 98) (lo' := [(2, 49), (0, (c : Int)), (0, (if last then 1 else 0)), (0, mem 62 c), (0, ba), (0, le), (0, (k : Int)), (0, (prA A tm kd am late aw c) k), (0, 0)]) dX8_bestOf_98 rfl (by decide) rfl ?_
                    refine e_iinc (pc := 100) (lo' := [(2, 49), (0, (c : Int)), (0, (if last then 1 else 0)), (0, mem 62 c), (0, ba), (0, le), (0, (k : Int) + 1), (0, (prA A tm kd am late aw c) k), (0, 0)]) dX8_bestOf_100 rfl (by omega) rfl (by decide) rfl ?_
                    refine e_goto (pc := 103) (tgt := 16) dX8_bestOf_103 rfl ?_
                    have zf3 : Fr scO6 mem zm1 := (zf.ms rfl).tr (scO6V zf1)
                    have zr3 : ∀ j, j ≠ c → zm1 62 j = mem 62 j := fun j hj => (zf1 62 j rfl).trans ((mset_nj _ _ _ _ hj).trans (zr j hj))
                    have zbs : bst (prA A tm kd am late aw c) last (k + 1) = (ba, le) := by
                      rw [bst_k]
                      by_cases z0 : k = 0
                      · rw [z0]
                        exfalso; omega
                      · rw [zb1 (by omega)]
                        show (if (prA A tm kd am late aw c) k < le ∨ (last = true ∧ (prA A tm kd am late aw c) k = le) then ((k : Int), (prA A tm kd am late aw c) k) else (ba, le)) = _
                        refine if_neg ?_
                        rintro (q | q)
                        · omega
                        · exact h62 q.2
                    refine Ev.fgt [7, 8] ?_
                    exact Ev.to (ih16 _ (by omega) (k + 1) ba le zm1 (rfl) (by omega) (fun q => absurd q (by omega)) (fun _ => zbs) (zM1) (zf3) (zr3)) rfl rfl rfl
                  · skip
                    exact absurd h88 (by decide)
                · skip
                  exact absurd h74 (by decide)
              · skip
                refine e_iconst (pc := 65) dX8_bestOf_65 (by decide) ?_
                refine e_goto (pc := 66) (tgt := 70) dX8_bestOf_66 rfl ?_
                refine e_istore (pc := 70) (lo' := [(2, 49), (0, (c : Int)), (0, (if last then 1 else 0)), (0, mem 62 c), (0, ba), (0, le), (0, (k : Int)), (0, (prA A tm kd am late aw c) k), (0, 1)]) dX8_bestOf_70 rfl (by decide) rfl ?_
                refine e_iload (pc := 72) dX8_bestOf_72 rfl ?_
                refine e_if_eq (pc := 74) (tgt := 82) dX8_bestOf_74 rfl (fun h74 => ?_) (fun h74 => ?_)
                · skip
                  exact absurd h74 (by decide)
                · skip
                  refine e_iload (pc := 77) dX8_bestOf_77 rfl ?_
                  refine e_goto (pc := 79) (tgt := 84) dX8_bestOf_79 rfl ?_
                  refine e_istore (pc := 84) (lo' := [(2, 49), (0, (c : Int)), (0, (if last then 1 else 0)), (0, mem 62 c), (0, (k : Int)), (0, le), (0, (k : Int)), (0, (prA A tm kd am late aw c) k), (0, 1)]) dX8_bestOf_84 rfl (by decide) rfl ?_
                  refine e_iload (pc := 86) dX8_bestOf_86 rfl ?_
                  refine e_if_eq (pc := 88) (tgt := 96) dX8_bestOf_88 rfl (fun h88 => ?_) (fun h88 => ?_)
                  · skip
                    exact absurd h88 (by decide)
                  · skip
                    refine e_iload (pc := 91) dX8_bestOf_91 rfl ?_
                    refine e_goto (pc := 93) (tgt := 98) dX8_bestOf_93 rfl ?_
                    refine e_istore (pc := 98) (lo' := [(2, 49), (0, (c : Int)), (0, (if last then 1 else 0)), (0, mem 62 c), (0, (k : Int)), (0, (prA A tm kd am late aw c) k), (0, (k : Int)), (0, (prA A tm kd am late aw c) k), (0, 1)]) dX8_bestOf_98 rfl (by decide) rfl ?_
                    refine e_iinc (pc := 100) (lo' := [(2, 49), (0, (c : Int)), (0, (if last then 1 else 0)), (0, mem 62 c), (0, (k : Int)), (0, (prA A tm kd am late aw c) k), (0, (k : Int) + 1), (0, (prA A tm kd am late aw c) k), (0, 1)]) dX8_bestOf_100 rfl (by omega) rfl (by decide) rfl ?_
                    refine e_goto (pc := 103) (tgt := 16) dX8_bestOf_103 rfl ?_
                    have zf3 : Fr scO6 mem zm1 := (zf.ms rfl).tr (scO6V zf1)
                    have zr3 : ∀ j, j ≠ c → zm1 62 j = mem 62 j := fun j hj => (zf1 62 j rfl).trans ((mset_nj _ _ _ _ hj).trans (zr j hj))
                    have zbs : bst (prA A tm kd am late aw c) last (k + 1) = ((k : Int), (prA A tm kd am late aw c) k) := by
                      rw [bst_k]
                      by_cases z0 : k = 0
                      · rw [z0]
                        exact if_pos (Or.inl (show (prA A tm kd am late aw c) 0 < 2147483647 by have := zpb 0 (by omega); omega))
                      · rw [zb1 (by omega)]
                        show (if (prA A tm kd am late aw c) k < le ∨ (last = true ∧ (prA A tm kd am late aw c) k = le) then ((k : Int), (prA A tm kd am late aw c) k) else (ba, le)) = _
                        exact if_pos (Or.inr ⟨zlast, by omega⟩)
                    refine Ev.fgt [7, 8] ?_
                    exact Ev.to (ih16 _ (by omega) (k + 1) (k : Int) ((prA A tm kd am late aw c) k) zm1 (rfl) (by omega) (fun q => absurd q (by omega)) (fun _ => zbs) (zM1) (zf3) (zr3)) rfl rfl rfl
  exact Ev.to (L16 _ 0 0 0 mem (rfl) (by omega) (fun _ => ⟨rfl, rfl⟩) (fun q => absurd q (by decide)) (hM) (Fr.rf) (fun _ _ => rfl)) rfl rfl rfl

theorem m_best (G : Gm) (A mem : Mem) (comer : Int) (last : Bool) (hI : CI A) (hM : MI A mem) : Con G mX8_best [(2, 49), (0, comer), (0, (if last then 1 else 0))] mem (fun r m' => r = some (0, an_best A comer last) ∧ MI A m' ∧ Fr scZ mem m') := by
  refine Con.of (lo := [(2, 49), (0, comer), (0, (if last then 1 else 0))]) (by decide +kernel) (Nat.le_of_ble_eq_true rfl) rfl ?_
  generalize hQ_ : (fun r m' => r = some (0, an_best A comer last) ∧ MI A m' ∧ Fr scZ mem m' : Option AV → Mem → Prop) = Q_
  refine e_aloadn (pc := 0) dX8_best_0 rfl rfl ?_
  refine e_iloadn (pc := 1) dX8_best_1 rfl rfl ?_
  refine e_callVr (pc := 2) (as := [(0, comer)]) (st := []) (v := (0, if 0 ≤ comer ∧ comer < 8 ∧ A 18 comer.toNat = 0 then 1 else 0)) (m_isPlain G A mem comer hI hM) dX8_best_2 lX8_best_107 rfl s_49 cn_8 rfl rfl ?_
  by_cases zc : 0 ≤ comer ∧ comer < 8 ∧ A 18 comer.toNat = 0
  · rw [if_pos zc]
    obtain ⟨cn, zcn1⟩ : ∃ cn : Nat, comer = (cn : Int) := ⟨comer.toNat, by omega⟩
    subst zcn1
    have zcn : cn < 8 := by omega
    have zck : A 18 cn = 0 := zc.2.2
    refine e_if_ne (pc := 5) (tgt := 11) dX8_best_5 rfl (fun h5 => ?_) (fun h5 => ?_)
    · skip
      refine e_aloadn (pc := 11) dX8_best_11 rfl rfl ?_
      refine e_callV (pc := 12) (as := []) (st := []) (m_asTold G A mem hI hM) dX8_best_12 lX8_best_190 rfl s_49 cn_8 rfl rfl (fun r_ zm1 hq_ => ?_)
      obtain ⟨zr_, zM1, zf1, zE1⟩ := hq_
      subst zr_
      refine Ev.to (st' := []) ?_ rfl rfl rfl
      refine e_aloadn (pc := 15) dX8_best_15 rfl rfl ?_
      refine e_iloadn (pc := 16) dX8_best_16 rfl rfl ?_
      refine e_iloadn (pc := 17) dX8_best_17 rfl rfl ?_
      refine e_callV (pc := 18) (as := [(0, (cn : Int)), (0, (if last then 1 else 0))]) (st := []) (m_bestOf G A zm1 (A 17) (A 18) (A 19) 0 0 cn last zcn zck (bt_0 _) (bt_0 _) hI zM1 zE1) dX8_best_18 lX8_best_199 rfl s_49 cn_8 rfl rfl (fun r_ zm2 hq_ => ?_)
      obtain ⟨zr_, zM2, zf2⟩ := hq_
      subst zr_
      refine Ev.to (st' := [(0, ((bestN (prA A (A 17) (A 18) (A 19) 0 0 cn) last : Nat) : Int))]) ?_ rfl rfl rfl
      have zan : an_best A (cn : Int) last = ((bestN (prA A (A 17) (A 18) (A 19) 0 0 cn) last : Nat) : Int) := by unfold an_best; rw [if_pos zc]; rfl
      exact e_iret (pc := 21) dX8_best_21 rfl (by rw [← hQ_]; exact ⟨by rw [zan], zM2, (scHZ zf1).tr (scOZ zf2)⟩)
    · skip
      exact absurd h5 (by decide)
  · rw [if_neg zc]
    refine e_if_ne (pc := 5) (tgt := 11) dX8_best_5 rfl (fun h5 => ?_) (fun h5 => ?_)
    · skip
      exact absurd h5 (by decide)
    · skip
      refine e_bipush (pc := 8) dX8_best_8 rfl (by decide) ?_
      have zan : an_best A comer last = -2 := by unfold an_best; rw [if_neg zc]
      exact e_iret (pc := 10) dX8_best_10 rfl (by rw [← hQ_]; exact ⟨by rw [zan], hM, Fr.rf⟩)
