theorem i8_s : ∀ v : Fin 61, i8 (v.val : Int) = (v.val : Int) ∧ i16 (v.val : Int) = (v.val : Int) := by decide
theorem lw5_s {f v : Int} (h : 0 ≤ v ∧ v ≤ 60) : lw5 f v = v := by
  obtain ⟨n, rfl⟩ := Int.eq_ofNat_of_zero_le h.1
  have e := i8_s ⟨n, by omega⟩
  unfold lw5
  split
  · exact e.1
  · split
    · exact e.2
    · rfl
theorem wkS_bd (A : Mem) (w : Nat) : 0 ≤ wkS A w ∧ wkS A w ≤ 60 := stT_bd A _ _ _ 0 0

theorem m_write (G : Gm) (A mem : Mem) (zs : Int) (hI : CI A) (hM : MI A mem) : Con G mX8_write [(2, 49), (0, zs)] mem (fun r m' => r = some (0, an_write A zs) ∧ MI (nx_write A zs) m' ∧ Fr scZ mem m') := by
  refine Con.of (lo := [(2, 49), (0, zs), (3, 0), (3, 0)]) (by decide +kernel) (Nat.le_of_ble_eq_true rfl) rfl ?_
  generalize hQ_ : (fun r m' => r = some (0, an_write A zs) ∧ MI (nx_write A zs) m' ∧ Fr scZ mem m' : Option AV → Mem → Prop) = Q_
  refine e_iloadn (pc := 0) dX8_write_0 rfl rfl ?_
  refine e_callSr (pc := 1) (as := [(0, zs)]) (st := []) (v := (0, if 0 ≤ zs ∧ zs < 4 then 1 else 0)) (m_isSheet G mem zs) dX8_write_1 lX8_write_110 rfl rfl rfl ?_
  by_cases zcs : 0 ≤ zs ∧ zs < 4
  · rw [if_pos zcs]
    obtain ⟨sn, zsn1⟩ : ∃ sn : Nat, zs = (sn : Int) := ⟨zs.toNat, by omega⟩
    subst zsn1
    have hs : sn < 4 := by omega
    refine e_if_ne (pc := 4) (tgt := 10) dX8_write_4 rfl (fun h4 => ?_) (fun h4 => ?_)
    · skip
      refine e_aloadn (pc := 10) dX8_write_10 rfl rfl ?_
      refine e_getr (pc := 11) (k := 73) dX8_write_11 fX8_80 s_49 rfl (by decide) ?_
      refine e_iloadn (pc := 14) dX8_write_14 rfl rfl ?_
      refine e_zaldv (pc := 15) (v := (if A 47 sn = -1 then 0 else 1)) dX8_write_15 s_73 (by omega) ((hM.2.2.2.1.2 sn hs).1) ?_
      refine e_if_ne (pc := 16) (tgt := 25) dX8_write_16 rfl (fun h16 => ?_) (fun h16 => ?_)
      · skip
        have zth : A 47 sn ≠ -1 := fun q => h16 (by rw [if_pos q])
        obtain ⟨zs4, zs5⟩ := (hM.2.2.2.1.2 sn hs).2.1 zth
        have zwm := wrM_is hI.2.2.2.2.2 hs
        refine e_aloadn (pc := 25) dX8_write_25 rfl rfl ?_
        refine e_getr (pc := 26) (k := 75) dX8_write_26 fX8_86 s_49 rfl (by decide) ?_
        refine e_iloadn (pc := 29) dX8_write_29 rfl rfl ?_
        refine e_ialdv (pc := 30) (v := (A 48 sn)) dX8_write_30 s_75 (by omega) (zs5) ?_
        refine e_bipush (pc := 31) dX8_write_31 rfl (by decide) ?_
        refine e_icmp_ge (pc := 33) (tgt := 45) dX8_write_33 rfl (fun h33 => ?_) (fun h33 => ?_)
        · skip
          refine e_bipush (pc := 45) dX8_write_45 rfl (by decide) ?_
          have zwv : 61 = ((wrM A sn : Nat) : Int) := by
            have z1 := zwm.1
            split at z1 <;> omega
          rw [zwv]
          refine e_istoren (pc := 47) (lo' := [(2, 49), (0, (sn : Int)), (0, ((wrM A sn : Nat) : Int)), (3, 0)]) dX8_write_47 rfl rfl (by decide) rfl ?_
          refine e_iloadn (pc := 48) dX8_write_48 rfl rfl ?_
          refine e_if_le (pc := 49) (tgt := 59) dX8_write_49 rfl (fun h49 => ?_) (fun h49 => ?_)
          · skip
            refine e_iconst (pc := 59) dX8_write_59 (by decide) ?_
            refine e_istoren (pc := 60) (lo' := [(2, 49), (0, (sn : Int)), (0, ((wrM A sn : Nat) : Int)), (0, 0)]) dX8_write_60 rfl rfl (by decide) rfl ?_
            have L61 : ∀ (n_ : Nat) (k : Nat) (zmv : Mem), 61 - k = n_ → (k ≤ wrM A sn) → (MI A zmv) → (∀ u, u < wrM A sn → zmv 70 u = wkS A u) → (Fr scZ mem zmv) → Ev G mX8_write Q_ 61 [(2, 49), (0, (sn : Int)), (0, ((wrM A sn : Nat) : Int)), (0, (k : Int))] [] (rset zmv 76 (cpy (wkS A) (zmv 76) 0 (64 * sn) k)) := by
              intro n_
              induction n_ using Nat.strongRecOn with
              | ind n_ ih61 =>
                intro k zmv hn_ zk zM zrow zf
                refine e_iloadn (pc := 61) dX8_write_61 rfl rfl ?_
                refine e_iloadn (pc := 62) dX8_write_62 rfl rfl ?_
                refine e_icmp_ge (pc := 63) (tgt := 84) dX8_write_63 rfl (fun h63 => ?_) (fun h63 => ?_)
                · skip
                  refine e_iloadn (pc := 84) dX8_write_84 rfl rfl ?_
                  have zke : k = wrM A sn := by omega
                  rw [zke]
                  have zan : an_write A (sn : Int) = ((wrM A sn : Nat) : Int) := by unfold an_write; rw [if_pos zcs, if_neg (show ¬ A 47 (sn : Int).toNat = -1 from zth)]; rfl
                  have zmi : MI (nx_write A (sn : Int)) (rset zmv 76 (cpy (wkS A) (zmv 76) 0 (64 * sn) (wrM A sn))) := by
                    unfold nx_write
                    rw [if_pos zcs, if_neg (show ¬ A 47 (sn : Int).toNat = -1 from zth)]
                    show MI (rset A (43 + sn) (mix (wkS A) (A (43 + sn)) (wrM A sn))) _
                    refine zM.items hs (fun t ht i hi => ?_)
                    have z1 := (zM.2.2.2.1.2 t ht).2.2 i hi
                    unfold cpy mix
                    by_cases e : t = sn
                    · rw [if_pos e, e]
                      rw [e] at z1
                      by_cases q : i < wrM A sn
                      · rw [if_pos (by omega), if_pos q, show 0 + (64 * sn + i - 64 * sn) = i by omega]
                      · rw [if_neg (by omega), if_neg q]; exact z1
                    · rw [if_neg e, if_neg (by omega)]
                  exact e_iret (pc := 85) dX8_write_85 rfl (by rw [← hQ_]; exact ⟨by rw [zan], zmi, zf.rs (fun _ => rfl)⟩)
                · skip
                  refine e_aloadn (pc := 66) dX8_write_66 rfl rfl ?_
                  refine e_iloadn (pc := 67) dX8_write_67 rfl rfl ?_
                  refine e_iloadn (pc := 68) dX8_write_68 rfl rfl ?_
                  refine e_aloadn (pc := 69) dX8_write_69 rfl rfl ?_
                  refine e_getr (pc := 70) (k := 70) dX8_write_70 fX8_71 s_49 rfl (by decide) ?_
                  refine e_iloadn (pc := 73) dX8_write_73 rfl rfl ?_
                  refine e_ialdv (pc := 74) (v := (wkS A k)) dX8_write_74 s_70 (by omega) (zrow k (by omega)) ?_
                  refine e_callV (pc := 75) (as := [(0, (sn : Int)), (0, (k : Int)), (0, (wkS A k))]) (st := []) (m_keep G (rset zmv 76 (cpy (wkS A) (zmv 76) 0 (64 * sn) k)) sn k (A 47 sn) (wkS A k) hs (by omega) ((zM.2.2.2.1.2 sn hs).2.1 zth).1) dX8_write_75 lX8_write_291 rfl s_49 cn_8 rfl rfl (fun r_ zmk hq_ => ?_)
                  obtain ⟨zr_, zme⟩ := hq_
                  subst zr_
                  rw [lw5_s (wkS_bd A k), mset_rset, cpy_s] at zme
                  subst zme
                  refine Ev.to (st' := []) ?_ rfl rfl rfl
                  refine e_iinc (pc := 78) (lo' := [(2, 49), (0, (sn : Int)), (0, ((wrM A sn : Nat) : Int)), (0, (k : Int) + 1)]) dX8_write_78 rfl (by omega) rfl (by decide) rfl ?_
                  refine e_goto (pc := 81) (tgt := 61) dX8_write_81 rfl ?_
                  exact Ev.to (ih61 _ (by omega) (k + 1) zmv (rfl) (by omega) (zM) (zrow) (zf)) rfl rfl rfl
            exact Ev.to (L61 _ 0 mem (rfl) (by omega) (hM) (fun u hu => absurd hu (by omega)) (Fr.rf)) rfl rfl (by rw [cpy_0]; exact (rset_self _ 76).symm)
          · skip
            refine e_aloadn (pc := 52) dX8_write_52 rfl rfl ?_
            refine e_iloadn (pc := 53) dX8_write_53 rfl rfl ?_
            refine e_iconst (pc := 54) dX8_write_54 (by decide) ?_
            refine e_isubn (pc := 55) dX8_write_55 (by omega) ?_
            refine e_callV (pc := 56) (as := [(0, ((wrM A sn : Nat) : Int) - 1)]) (st := []) ((show Con G mX8_weeks [(2, 49), (0, ((wrM A sn : Nat) : Int) - 1)] mem _ from by have z1 := m_weeks G A mem (wrM A sn - 1) (by omega) hI hM; rw [show (((wrM A sn - 1 : Nat)) : Int) = ((wrM A sn : Nat) : Int) - 1 by omega] at z1; exact z1)) dX8_write_56 lX8_write_243 rfl s_49 cn_8 rfl rfl (fun r_ zm1 hq_ => ?_)
            obtain ⟨zr_, zM1, zf1, Z, n, zn1, zn2, zR⟩ := hq_
            subst zr_
            refine Ev.to (st' := []) ?_ rfl rfl rfl
            refine e_iconst (pc := 59) dX8_write_59 (by decide) ?_
            refine e_istoren (pc := 60) (lo' := [(2, 49), (0, (sn : Int)), (0, ((wrM A sn : Nat) : Int)), (0, 0)]) dX8_write_60 rfl rfl (by decide) rfl ?_
            have L61 : ∀ (n_ : Nat) (k : Nat) (zmv : Mem), 61 - k = n_ → (k ≤ wrM A sn) → (MI A zmv) → (∀ u, u < wrM A sn → zmv 70 u = wkS A u) → (Fr scZ mem zmv) → Ev G mX8_write Q_ 61 [(2, 49), (0, (sn : Int)), (0, ((wrM A sn : Nat) : Int)), (0, (k : Int))] [] (rset zmv 76 (cpy (wkS A) (zmv 76) 0 (64 * sn) k)) := by
              intro n_
              induction n_ using Nat.strongRecOn with
              | ind n_ ih61 =>
                intro k zmv hn_ zk zM zrow zf
                refine e_iloadn (pc := 61) dX8_write_61 rfl rfl ?_
                refine e_iloadn (pc := 62) dX8_write_62 rfl rfl ?_
                refine e_icmp_ge (pc := 63) (tgt := 84) dX8_write_63 rfl (fun h63 => ?_) (fun h63 => ?_)
                · skip
                  refine e_iloadn (pc := 84) dX8_write_84 rfl rfl ?_
                  have zke : k = wrM A sn := by omega
                  rw [zke]
                  have zan : an_write A (sn : Int) = ((wrM A sn : Nat) : Int) := by unfold an_write; rw [if_pos zcs, if_neg (show ¬ A 47 (sn : Int).toNat = -1 from zth)]; rfl
                  have zmi : MI (nx_write A (sn : Int)) (rset zmv 76 (cpy (wkS A) (zmv 76) 0 (64 * sn) (wrM A sn))) := by
                    unfold nx_write
                    rw [if_pos zcs, if_neg (show ¬ A 47 (sn : Int).toNat = -1 from zth)]
                    show MI (rset A (43 + sn) (mix (wkS A) (A (43 + sn)) (wrM A sn))) _
                    refine zM.items hs (fun t ht i hi => ?_)
                    have z1 := (zM.2.2.2.1.2 t ht).2.2 i hi
                    unfold cpy mix
                    by_cases e : t = sn
                    · rw [if_pos e, e]
                      rw [e] at z1
                      by_cases q : i < wrM A sn
                      · rw [if_pos (by omega), if_pos q, show 0 + (64 * sn + i - 64 * sn) = i by omega]
                      · rw [if_neg (by omega), if_neg q]; exact z1
                    · rw [if_neg e, if_neg (by omega)]
                  exact e_iret (pc := 85) dX8_write_85 rfl (by rw [← hQ_]; exact ⟨by rw [zan], zmi, zf.rs (fun _ => rfl)⟩)
                · skip
                  refine e_aloadn (pc := 66) dX8_write_66 rfl rfl ?_
                  refine e_iloadn (pc := 67) dX8_write_67 rfl rfl ?_
                  refine e_iloadn (pc := 68) dX8_write_68 rfl rfl ?_
                  refine e_aloadn (pc := 69) dX8_write_69 rfl rfl ?_
                  refine e_getr (pc := 70) (k := 70) dX8_write_70 fX8_71 s_49 rfl (by decide) ?_
                  refine e_iloadn (pc := 73) dX8_write_73 rfl rfl ?_
                  refine e_ialdv (pc := 74) (v := (wkS A k)) dX8_write_74 s_70 (by omega) (zrow k (by omega)) ?_
                  refine e_callV (pc := 75) (as := [(0, (sn : Int)), (0, (k : Int)), (0, (wkS A k))]) (st := []) (m_keep G (rset zmv 76 (cpy (wkS A) (zmv 76) 0 (64 * sn) k)) sn k (A 47 sn) (wkS A k) hs (by omega) ((zM.2.2.2.1.2 sn hs).2.1 zth).1) dX8_write_75 lX8_write_291 rfl s_49 cn_8 rfl rfl (fun r_ zmk hq_ => ?_)
                  obtain ⟨zr_, zme⟩ := hq_
                  subst zr_
                  rw [lw5_s (wkS_bd A k), mset_rset, cpy_s] at zme
                  subst zme
                  refine Ev.to (st' := []) ?_ rfl rfl rfl
                  refine e_iinc (pc := 78) (lo' := [(2, 49), (0, (sn : Int)), (0, ((wrM A sn : Nat) : Int)), (0, (k : Int) + 1)]) dX8_write_78 rfl (by omega) rfl (by decide) rfl ?_
                  refine e_goto (pc := 81) (tgt := 61) dX8_write_81 rfl ?_
                  exact Ev.to (ih61 _ (by omega) (k + 1) zmv (rfl) (by omega) (zM) (zrow) (zf)) rfl rfl rfl
            exact Ev.to (L61 _ 0 zm1 (rfl) (by omega) (zM1) (fun u hu => zR.1 u (by omega)) (zf1)) rfl rfl (by rw [cpy_0]; exact (rset_self _ 76).symm)
        · skip
          refine e_aloadn (pc := 36) dX8_write_36 rfl rfl ?_
          refine e_getr (pc := 37) (k := 75) dX8_write_37 fX8_86 s_49 rfl (by decide) ?_
          refine e_iloadn (pc := 40) dX8_write_40 rfl rfl ?_
          refine e_ialdv (pc := 41) (v := (A 48 sn)) dX8_write_41 s_75 (by omega) (zs5) ?_
          refine e_goto (pc := 42) (tgt := 47) dX8_write_42 rfl ?_
          have zwv : (A 48 sn) = ((wrM A sn : Nat) : Int) := by
            have z1 := zwm.1
            split at z1 <;> omega
          rw [zwv]
          refine e_istoren (pc := 47) (lo' := [(2, 49), (0, (sn : Int)), (0, ((wrM A sn : Nat) : Int)), (3, 0)]) dX8_write_47 rfl rfl (by decide) rfl ?_
          refine e_iloadn (pc := 48) dX8_write_48 rfl rfl ?_
          refine e_if_le (pc := 49) (tgt := 59) dX8_write_49 rfl (fun h49 => ?_) (fun h49 => ?_)
          · skip
            refine e_iconst (pc := 59) dX8_write_59 (by decide) ?_
            refine e_istoren (pc := 60) (lo' := [(2, 49), (0, (sn : Int)), (0, ((wrM A sn : Nat) : Int)), (0, 0)]) dX8_write_60 rfl rfl (by decide) rfl ?_
            have L61 : ∀ (n_ : Nat) (k : Nat) (zmv : Mem), 61 - k = n_ → (k ≤ wrM A sn) → (MI A zmv) → (∀ u, u < wrM A sn → zmv 70 u = wkS A u) → (Fr scZ mem zmv) → Ev G mX8_write Q_ 61 [(2, 49), (0, (sn : Int)), (0, ((wrM A sn : Nat) : Int)), (0, (k : Int))] [] (rset zmv 76 (cpy (wkS A) (zmv 76) 0 (64 * sn) k)) := by
              intro n_
              induction n_ using Nat.strongRecOn with
              | ind n_ ih61 =>
                intro k zmv hn_ zk zM zrow zf
                refine e_iloadn (pc := 61) dX8_write_61 rfl rfl ?_
                refine e_iloadn (pc := 62) dX8_write_62 rfl rfl ?_
                refine e_icmp_ge (pc := 63) (tgt := 84) dX8_write_63 rfl (fun h63 => ?_) (fun h63 => ?_)
                · skip
                  refine e_iloadn (pc := 84) dX8_write_84 rfl rfl ?_
                  have zke : k = wrM A sn := by omega
                  rw [zke]
                  have zan : an_write A (sn : Int) = ((wrM A sn : Nat) : Int) := by unfold an_write; rw [if_pos zcs, if_neg (show ¬ A 47 (sn : Int).toNat = -1 from zth)]; rfl
                  have zmi : MI (nx_write A (sn : Int)) (rset zmv 76 (cpy (wkS A) (zmv 76) 0 (64 * sn) (wrM A sn))) := by
                    unfold nx_write
                    rw [if_pos zcs, if_neg (show ¬ A 47 (sn : Int).toNat = -1 from zth)]
                    show MI (rset A (43 + sn) (mix (wkS A) (A (43 + sn)) (wrM A sn))) _
                    refine zM.items hs (fun t ht i hi => ?_)
                    have z1 := (zM.2.2.2.1.2 t ht).2.2 i hi
                    unfold cpy mix
                    by_cases e : t = sn
                    · rw [if_pos e, e]
                      rw [e] at z1
                      by_cases q : i < wrM A sn
                      · rw [if_pos (by omega), if_pos q, show 0 + (64 * sn + i - 64 * sn) = i by omega]
                      · rw [if_neg (by omega), if_neg q]; exact z1
                    · rw [if_neg e, if_neg (by omega)]
                  exact e_iret (pc := 85) dX8_write_85 rfl (by rw [← hQ_]; exact ⟨by rw [zan], zmi, zf.rs (fun _ => rfl)⟩)
                · skip
                  refine e_aloadn (pc := 66) dX8_write_66 rfl rfl ?_
                  refine e_iloadn (pc := 67) dX8_write_67 rfl rfl ?_
                  refine e_iloadn (pc := 68) dX8_write_68 rfl rfl ?_
                  refine e_aloadn (pc := 69) dX8_write_69 rfl rfl ?_
                  refine e_getr (pc := 70) (k := 70) dX8_write_70 fX8_71 s_49 rfl (by decide) ?_
                  refine e_iloadn (pc := 73) dX8_write_73 rfl rfl ?_
                  refine e_ialdv (pc := 74) (v := (wkS A k)) dX8_write_74 s_70 (by omega) (zrow k (by omega)) ?_
                  refine e_callV (pc := 75) (as := [(0, (sn : Int)), (0, (k : Int)), (0, (wkS A k))]) (st := []) (m_keep G (rset zmv 76 (cpy (wkS A) (zmv 76) 0 (64 * sn) k)) sn k (A 47 sn) (wkS A k) hs (by omega) ((zM.2.2.2.1.2 sn hs).2.1 zth).1) dX8_write_75 lX8_write_291 rfl s_49 cn_8 rfl rfl (fun r_ zmk hq_ => ?_)
                  obtain ⟨zr_, zme⟩ := hq_
                  subst zr_
                  rw [lw5_s (wkS_bd A k), mset_rset, cpy_s] at zme
                  subst zme
                  refine Ev.to (st' := []) ?_ rfl rfl rfl
                  refine e_iinc (pc := 78) (lo' := [(2, 49), (0, (sn : Int)), (0, ((wrM A sn : Nat) : Int)), (0, (k : Int) + 1)]) dX8_write_78 rfl (by omega) rfl (by decide) rfl ?_
                  refine e_goto (pc := 81) (tgt := 61) dX8_write_81 rfl ?_
                  exact Ev.to (ih61 _ (by omega) (k + 1) zmv (rfl) (by omega) (zM) (zrow) (zf)) rfl rfl rfl
            exact Ev.to (L61 _ 0 mem (rfl) (by omega) (hM) (fun u hu => absurd hu (by omega)) (Fr.rf)) rfl rfl (by rw [cpy_0]; exact (rset_self _ 76).symm)
          · skip
            refine e_aloadn (pc := 52) dX8_write_52 rfl rfl ?_
            refine e_iloadn (pc := 53) dX8_write_53 rfl rfl ?_
            refine e_iconst (pc := 54) dX8_write_54 (by decide) ?_
            refine e_isubn (pc := 55) dX8_write_55 (by omega) ?_
            refine e_callV (pc := 56) (as := [(0, ((wrM A sn : Nat) : Int) - 1)]) (st := []) ((show Con G mX8_weeks [(2, 49), (0, ((wrM A sn : Nat) : Int) - 1)] mem _ from by have z1 := m_weeks G A mem (wrM A sn - 1) (by omega) hI hM; rw [show (((wrM A sn - 1 : Nat)) : Int) = ((wrM A sn : Nat) : Int) - 1 by omega] at z1; exact z1)) dX8_write_56 lX8_write_243 rfl s_49 cn_8 rfl rfl (fun r_ zm1 hq_ => ?_)
            obtain ⟨zr_, zM1, zf1, Z, n, zn1, zn2, zR⟩ := hq_
            subst zr_
            refine Ev.to (st' := []) ?_ rfl rfl rfl
            refine e_iconst (pc := 59) dX8_write_59 (by decide) ?_
            refine e_istoren (pc := 60) (lo' := [(2, 49), (0, (sn : Int)), (0, ((wrM A sn : Nat) : Int)), (0, 0)]) dX8_write_60 rfl rfl (by decide) rfl ?_
            have L61 : ∀ (n_ : Nat) (k : Nat) (zmv : Mem), 61 - k = n_ → (k ≤ wrM A sn) → (MI A zmv) → (∀ u, u < wrM A sn → zmv 70 u = wkS A u) → (Fr scZ mem zmv) → Ev G mX8_write Q_ 61 [(2, 49), (0, (sn : Int)), (0, ((wrM A sn : Nat) : Int)), (0, (k : Int))] [] (rset zmv 76 (cpy (wkS A) (zmv 76) 0 (64 * sn) k)) := by
              intro n_
              induction n_ using Nat.strongRecOn with
              | ind n_ ih61 =>
                intro k zmv hn_ zk zM zrow zf
                refine e_iloadn (pc := 61) dX8_write_61 rfl rfl ?_
                refine e_iloadn (pc := 62) dX8_write_62 rfl rfl ?_
                refine e_icmp_ge (pc := 63) (tgt := 84) dX8_write_63 rfl (fun h63 => ?_) (fun h63 => ?_)
                · skip
                  refine e_iloadn (pc := 84) dX8_write_84 rfl rfl ?_
                  have zke : k = wrM A sn := by omega
                  rw [zke]
                  have zan : an_write A (sn : Int) = ((wrM A sn : Nat) : Int) := by unfold an_write; rw [if_pos zcs, if_neg (show ¬ A 47 (sn : Int).toNat = -1 from zth)]; rfl
                  have zmi : MI (nx_write A (sn : Int)) (rset zmv 76 (cpy (wkS A) (zmv 76) 0 (64 * sn) (wrM A sn))) := by
                    unfold nx_write
                    rw [if_pos zcs, if_neg (show ¬ A 47 (sn : Int).toNat = -1 from zth)]
                    show MI (rset A (43 + sn) (mix (wkS A) (A (43 + sn)) (wrM A sn))) _
                    refine zM.items hs (fun t ht i hi => ?_)
                    have z1 := (zM.2.2.2.1.2 t ht).2.2 i hi
                    unfold cpy mix
                    by_cases e : t = sn
                    · rw [if_pos e, e]
                      rw [e] at z1
                      by_cases q : i < wrM A sn
                      · rw [if_pos (by omega), if_pos q, show 0 + (64 * sn + i - 64 * sn) = i by omega]
                      · rw [if_neg (by omega), if_neg q]; exact z1
                    · rw [if_neg e, if_neg (by omega)]
                  exact e_iret (pc := 85) dX8_write_85 rfl (by rw [← hQ_]; exact ⟨by rw [zan], zmi, zf.rs (fun _ => rfl)⟩)
                · skip
                  refine e_aloadn (pc := 66) dX8_write_66 rfl rfl ?_
                  refine e_iloadn (pc := 67) dX8_write_67 rfl rfl ?_
                  refine e_iloadn (pc := 68) dX8_write_68 rfl rfl ?_
                  refine e_aloadn (pc := 69) dX8_write_69 rfl rfl ?_
                  refine e_getr (pc := 70) (k := 70) dX8_write_70 fX8_71 s_49 rfl (by decide) ?_
                  refine e_iloadn (pc := 73) dX8_write_73 rfl rfl ?_
                  refine e_ialdv (pc := 74) (v := (wkS A k)) dX8_write_74 s_70 (by omega) (zrow k (by omega)) ?_
                  refine e_callV (pc := 75) (as := [(0, (sn : Int)), (0, (k : Int)), (0, (wkS A k))]) (st := []) (m_keep G (rset zmv 76 (cpy (wkS A) (zmv 76) 0 (64 * sn) k)) sn k (A 47 sn) (wkS A k) hs (by omega) ((zM.2.2.2.1.2 sn hs).2.1 zth).1) dX8_write_75 lX8_write_291 rfl s_49 cn_8 rfl rfl (fun r_ zmk hq_ => ?_)
                  obtain ⟨zr_, zme⟩ := hq_
                  subst zr_
                  rw [lw5_s (wkS_bd A k), mset_rset, cpy_s] at zme
                  subst zme
                  refine Ev.to (st' := []) ?_ rfl rfl rfl
                  refine e_iinc (pc := 78) (lo' := [(2, 49), (0, (sn : Int)), (0, ((wrM A sn : Nat) : Int)), (0, (k : Int) + 1)]) dX8_write_78 rfl (by omega) rfl (by decide) rfl ?_
                  refine e_goto (pc := 81) (tgt := 61) dX8_write_81 rfl ?_
                  exact Ev.to (ih61 _ (by omega) (k + 1) zmv (rfl) (by omega) (zM) (zrow) (zf)) rfl rfl rfl
            exact Ev.to (L61 _ 0 zm1 (rfl) (by omega) (zM1) (fun u hu => zR.1 u (by omega)) (zf1)) rfl rfl (by rw [cpy_0]; exact (rset_self _ 76).symm)
      · skip
        have zth : A 47 sn = -1 := Classical.byContradiction (fun q => by rw [if_neg q] at h16; omega)
        refine e_aloadn (pc := 19) dX8_write_19 rfl rfl ?_
        refine e_iconst (pc := 20) dX8_write_20 (by decide) ?_
        refine e_callVr (pc := 21) (as := [(0, 1)]) (st := []) (m_meets G mem 1 (by decide)) dX8_write_21 lX8_write_113 rfl s_49 cn_8 rfl rfl ?_
        have zan : an_write A (sn : Int) = -10 - 1 := by unfold an_write; (rw [if_pos zcs, if_pos (show A 47 (sn : Int).toNat = -1 from zth)]) <;> rfl
        have zmi : MI (nx_write A (sn : Int)) (mset mem 49 49 1) := by unfold nx_write; rw [if_pos zcs, if_pos (show A 47 (sn : Int).toNat = -1 from zth)]; exact hM.meet 1
        exact e_iret (pc := 24) dX8_write_24 rfl (by rw [← hQ_]; exact ⟨by rw [zan], zmi, Fr.rf.ms rfl⟩)
    · skip
      exact absurd h4 (by decide)
  · rw [if_neg zcs]
    refine e_if_ne (pc := 4) (tgt := 10) dX8_write_4 rfl (fun h4 => ?_) (fun h4 => ?_)
    · skip
      exact absurd h4 (by decide)
    · skip
      refine e_bipush (pc := 7) dX8_write_7 rfl (by decide) ?_
      have zan : an_write A zs = -2 := by unfold an_write; rw [if_neg zcs]
      have zmi : MI (nx_write A zs) mem := by unfold nx_write; rw [if_neg zcs]; exact hM
      exact e_iret (pc := 9) dX8_write_9 rfl (by rw [← hQ_]; exact ⟨by rw [zan], zmi, Fr.rf⟩)

theorem m_digest (G : Gm) (A mem : Mem) (hI : CI A) (hM : MI A mem) : Con G mX8_digest [(2, 49)] mem (fun r m' => r = some (1, an_digest A) ∧ MI A m' ∧ Fr scZ mem m') := by
  refine Con.of (lo := [(2, 49), (3, 0), (3, 0), (3, 0)]) (by decide +kernel) (Nat.le_of_ble_eq_true rfl) rfl ?_
  generalize hQ_ : (fun r m' => r = some (1, an_digest A) ∧ MI A m' ∧ Fr scZ mem m' : Option AV → Mem → Prop) = Q_
  refine e_ldc2 (pc := 0) (z := 17) dX8_digest_0 kX8_299 (by decide) ?_
  refine e_lstoren (pc := 3) (lo' := [(2, 49), (1, 17), (3, 0), (3, 0)]) dX8_digest_3 rfl rfl (by decide) rfl ?_
  refine e_iconst (pc := 4) dX8_digest_4 (by decide) ?_
  refine e_istoren (pc := 5) (lo' := [(2, 49), (1, 17), (3, 0), (0, 0)]) dX8_digest_5 rfl rfl (by decide) rfl ?_
  have L6 : ∀ (n_ : Nat) (k : Nat), 8 - k = n_ → (k ≤ 8) → Ev G mX8_digest Q_ 6 [(2, 49), (1, dgC A k), (3, 0), (0, (k : Int))] [] mem := by
    intro n_
    induction n_ using Nat.strongRecOn with
    | ind n_ ih6 =>
      intro k hn_ zk
      refine e_iloadn (pc := 6) dX8_digest_6 rfl rfl ?_
      refine e_bipush (pc := 7) dX8_digest_7 rfl (by decide) ?_
      refine e_icmp_ge (pc := 9) (tgt := 31) dX8_digest_9 rfl (fun h9 => ?_) (fun h9 => ?_)
      · skip
        have zke : k = 8 := by omega
        rw [zke]
        obtain ⟨n, zn1, zn2, _⟩ := hI.2.2.2.2.1
        refine e_ldc2 (pc := 31) (z := 31) dX8_digest_31 kX8_301 (by decide) ?_
        refine e_lloadn (pc := 34) dX8_digest_34 rfl rfl ?_
        refine e_lmul (pc := 35) dX8_digest_35 ?_
        refine e_aloadn (pc := 36) dX8_digest_36 rfl rfl ?_
        refine e_callV (pc := 37) (as := []) (st := [(1, w64 (31 * (dgC A 8)))]) (m_faultNow G A mem hI hM) dX8_digest_37 lX8_digest_154 rfl s_49 cn_8 rfl rfl (fun r_ zm1 hq_ => ?_)
        obtain ⟨zr_, zM1, zrd, zf1⟩ := hq_
        subst zr_
        have zF1 : Fr scZ mem zm1 := scOZ (scFO zf1)
        refine Ev.to (st' := [(0, an_fault A), (1, w64 (31 * (dgC A 8)))]) ?_ rfl rfl rfl
        refine e_i2l (pc := 40) dX8_digest_40 ?_
        refine e_ladd (pc := 41) dX8_digest_41 ?_
        rw [show w64 ((w64 (31 * (dgC A 8))) + (an_fault A)) = dg1 A from rfl]
        refine e_lstoren (pc := 42) (lo' := [(2, 49), (1, dg1 A), (3, 0), (0, ((8 : Nat) : Int))]) dX8_digest_42 rfl rfl (by decide) rfl ?_
        refine e_aloadn (pc := 43) dX8_digest_43 rfl rfl ?_
        refine e_callV (pc := 44) (as := []) (st := []) (m_asTold G A zm1 hI zM1) dX8_digest_44 lX8_digest_190 rfl s_49 cn_8 rfl rfl (fun r_ zm2 hq_ => ?_)
        obtain ⟨zr_, zM2, zf2, zE2⟩ := hq_
        subst zr_
        have zF2 : Fr scZ mem zm2 := zF1.tr (scHZ zf2)
        refine Ev.to (st' := []) ?_ rfl rfl rfl
        refine e_aloadn (pc := 47) dX8_digest_47 rfl rfl ?_
        refine e_callV (pc := 48) (as := []) (st := []) (m_goes G A zm2 (A 17) (A 18) (A 19) 0 0 hI zM2 zE2) dX8_digest_48 lX8_digest_193 rfl s_49 cn_8 rfl rfl (fun r_ zm3 hq_ => ?_)
        obtain ⟨zr_, zM3, zf3, zG3⟩ := hq_
        subst zr_
        have zF3 : Fr scZ mem zm3 := zF2.tr (scOZ zf3)
        have zE3 := zE2.o zf3
        refine Ev.to (st' := []) ?_ rfl rfl rfl
        refine e_ldc2 (pc := 51) (z := 31) dX8_digest_51 kX8_301 (by decide) ?_
        refine e_lloadn (pc := 54) dX8_digest_54 rfl rfl ?_
        refine e_lmul (pc := 55) dX8_digest_55 ?_
        refine e_aloadn (pc := 56) dX8_digest_56 rfl rfl ?_
        refine e_getiv (pc := 57) (v := (an_begins A)) dX8_digest_57 fX8_178 s_49 rfl (by decide) (zG3.1) ?_
        refine e_i2l (pc := 60) dX8_digest_60 ?_
        refine e_ladd (pc := 61) dX8_digest_61 ?_
        rw [show w64 ((w64 (31 * (dg1 A))) + (an_begins A)) = dg2 A from rfl]
        refine e_lstoren (pc := 62) (lo' := [(2, 49), (1, dg2 A), (3, 0), (0, ((8 : Nat) : Int))]) dX8_digest_62 rfl rfl (by decide) rfl ?_
        refine e_iconst (pc := 63) dX8_digest_63 (by decide) ?_
        refine e_istoren (pc := 64) (lo' := [(2, 49), (1, dg2 A), (3, 0), (0, 0)]) dX8_digest_64 rfl rfl (by decide) rfl ?_
        have L65 : ∀ (n_ : Nat) (k : Nat), 8 - k = n_ → (k ≤ n) → Ev G mX8_digest Q_ 65 [(2, 49), (1, dgN A k), (3, 0), (0, (k : Int))] [] zm3 := by
          intro n_
          induction n_ using Nat.strongRecOn with
          | ind n_ ih65 =>
            intro k hn_ zkn
            refine e_iloadn (pc := 65) dX8_digest_65 rfl rfl ?_
            refine e_aloadn (pc := 66) dX8_digest_66 rfl rfl ?_
            refine e_getiv (pc := 67) (v := (n : Int)) dX8_digest_67 fX8_99 s_49 rfl (by decide) (zM3.1.1.trans zn1) ?_
            refine e_icmp_ge (pc := 70) (tgt := 106) dX8_digest_70 rfl (fun h70 => ?_) (fun h70 => ?_)
            · skip
              have zkd : k = (A 1 0).toNat := by omega
              rw [zkd]
              refine e_ldc2 (pc := 106) (z := 31) dX8_digest_106 kX8_301 (by decide) ?_
              refine e_lloadn (pc := 109) dX8_digest_109 rfl rfl ?_
              refine e_lmul (pc := 110) dX8_digest_110 ?_
              refine e_aloadn (pc := 111) dX8_digest_111 rfl rfl ?_
              refine e_callV (pc := 112) (as := []) (st := [(1, w64 (31 * (dgN A (A 1 0).toNat)))]) (m_restlessNow G A zm3 hI zM3) dX8_digest_112 lX8_digest_203 rfl s_49 cn_8 rfl rfl (fun r_ zm4 hq_ => ?_)
              obtain ⟨zr_, zM4, zf4⟩ := hq_
              subst zr_
              have zF4 : Fr scZ mem zm4 := zF3.tr zf4
              refine Ev.to (st' := [(0, an_restless A), (1, w64 (31 * (dgN A (A 1 0).toNat)))]) ?_ rfl rfl rfl
              refine e_i2l (pc := 115) dX8_digest_115 ?_
              refine e_ladd (pc := 116) dX8_digest_116 ?_
              rw [show w64 ((w64 (31 * (dgN A (A 1 0).toNat))) + (an_restless A)) = dg3 A from rfl]
              refine e_lstoren (pc := 117) (lo' := [(2, 49), (1, dg3 A), (3, 0), (0, (((A 1 0).toNat : Nat) : Int))]) dX8_digest_117 rfl rfl (by decide) rfl ?_
              refine e_ldc2 (pc := 118) (z := 31) dX8_digest_118 kX8_301 (by decide) ?_
              refine e_lloadn (pc := 121) dX8_digest_121 rfl rfl ?_
              refine e_lmul (pc := 122) dX8_digest_122 ?_
              refine e_aloadn (pc := 123) dX8_digest_123 rfl rfl ?_
              refine e_iconst (pc := 124) dX8_digest_124 (by decide) ?_
              refine e_callV (pc := 125) (as := [(0, 0)]) (st := [(1, w64 (31 * (dg3 A)))]) (m_climbNow G A zm4 false hI zM4) dX8_digest_125 lX8_digest_210 rfl s_49 cn_8 rfl rfl (fun r_ zm5 hq_ => ?_)
              obtain ⟨zr_, zM5, zf5, _⟩ := hq_
              subst zr_
              have zF5 : Fr scZ mem zm5 := zF4.tr zf5
              refine Ev.to (st' := [(0, an_climb A false (-1)), (1, w64 (31 * (dg3 A)))]) ?_ rfl rfl rfl
              refine e_i2l (pc := 128) dX8_digest_128 ?_
              refine e_ladd (pc := 129) dX8_digest_129 ?_
              rw [show w64 ((w64 (31 * (dg3 A))) + (an_climb A false (-1))) = dg4 A from rfl]
              refine e_lstoren (pc := 130) (lo' := [(2, 49), (1, dg4 A), (3, 0), (0, (((A 1 0).toNat : Nat) : Int))]) dX8_digest_130 rfl rfl (by decide) rfl ?_
              refine e_ldc2 (pc := 131) (z := 31) dX8_digest_131 kX8_301 (by decide) ?_
              refine e_lloadn (pc := 134) dX8_digest_134 rfl rfl ?_
              refine e_lmul (pc := 135) dX8_digest_135 ?_
              refine e_aloadn (pc := 136) dX8_digest_136 rfl rfl ?_
              refine e_iconst (pc := 137) dX8_digest_137 (by decide) ?_
              refine e_callV (pc := 138) (as := [(0, 1)]) (st := [(1, w64 (31 * (dg4 A)))]) (m_climbNow G A zm5 true hI zM5) dX8_digest_138 lX8_digest_210 rfl s_49 cn_8 rfl rfl (fun r_ zm6 hq_ => ?_)
              obtain ⟨zr_, zM6, zf6, _⟩ := hq_
              subst zr_
              have zF6 : Fr scZ mem zm6 := zF5.tr zf6
              refine Ev.to (st' := [(0, an_climb A true (-1)), (1, w64 (31 * (dg4 A)))]) ?_ rfl rfl rfl
              refine e_i2l (pc := 141) dX8_digest_141 ?_
              refine e_ladd (pc := 142) dX8_digest_142 ?_
              rw [show w64 ((w64 (31 * (dg4 A))) + (an_climb A true (-1))) = dg5 A from rfl]
              refine e_lstoren (pc := 143) (lo' := [(2, 49), (1, dg5 A), (3, 0), (0, (((A 1 0).toNat : Nat) : Int))]) dX8_digest_143 rfl rfl (by decide) rfl ?_
              refine e_ldc2 (pc := 144) (z := 31) dX8_digest_144 kX8_301 (by decide) ?_
              refine e_lloadn (pc := 147) dX8_digest_147 rfl rfl ?_
              refine e_lmul (pc := 148) dX8_digest_148 ?_
              refine e_aloadn (pc := 149) dX8_digest_149 rfl rfl ?_
              refine e_iconst (pc := 150) dX8_digest_150 (by decide) ?_
              refine e_callV (pc := 151) (as := [(0, 1)]) (st := [(1, w64 (31 * (dg5 A)))]) (m_weekNow G A zm6 1 (by decide) hI zM6) dX8_digest_151 lX8_digest_246 rfl s_49 cn_8 rfl rfl (fun r_ zm7 hq_ => ?_)
              obtain ⟨zr_, zM7, zf7⟩ := hq_
              subst zr_
              have zF7 : Fr scZ mem zm7 := zF6.tr zf7
              refine Ev.to (st' := [(0, an_week A 1), (1, w64 (31 * (dg5 A)))]) ?_ rfl rfl rfl
              refine e_i2l (pc := 154) dX8_digest_154 ?_
              refine e_ladd (pc := 155) dX8_digest_155 ?_
              rw [show w64 ((w64 (31 * (dg5 A))) + (an_week A 1)) = dg6 A from rfl]
              refine e_lstoren (pc := 156) (lo' := [(2, 49), (1, dg6 A), (3, 0), (0, (((A 1 0).toNat : Nat) : Int))]) dX8_digest_156 rfl rfl (by decide) rfl ?_
              refine e_ldc2 (pc := 157) (z := 31) dX8_digest_157 kX8_301 (by decide) ?_
              refine e_lloadn (pc := 160) dX8_digest_160 rfl rfl ?_
              refine e_lmul (pc := 161) dX8_digest_161 ?_
              refine e_aloadn (pc := 162) dX8_digest_162 rfl rfl ?_
              refine e_iconst (pc := 163) dX8_digest_163 (by decide) ?_
              refine e_callV (pc := 164) (as := [(0, 2)]) (st := [(1, w64 (31 * (dg6 A)))]) (m_weekNow G A zm7 2 (by decide) hI zM7) dX8_digest_164 lX8_digest_246 rfl s_49 cn_8 rfl rfl (fun r_ zm8 hq_ => ?_)
              obtain ⟨zr_, zM8, zf8⟩ := hq_
              subst zr_
              have zF8 : Fr scZ mem zm8 := zF7.tr zf8
              refine Ev.to (st' := [(0, an_week A 2), (1, w64 (31 * (dg6 A)))]) ?_ rfl rfl rfl
              refine e_i2l (pc := 167) dX8_digest_167 ?_
              refine e_ladd (pc := 168) dX8_digest_168 ?_
              rw [show w64 ((w64 (31 * (dg6 A))) + (an_week A 2)) = dg7 A from rfl]
              refine e_lstoren (pc := 169) (lo' := [(2, 49), (1, dg7 A), (3, 0), (0, (((A 1 0).toNat : Nat) : Int))]) dX8_digest_169 rfl rfl (by decide) rfl ?_
              refine e_ldc2 (pc := 170) (z := 31) dX8_digest_170 kX8_301 (by decide) ?_
              refine e_lloadn (pc := 173) dX8_digest_173 rfl rfl ?_
              refine e_lmul (pc := 174) dX8_digest_174 ?_
              refine e_aloadn (pc := 175) dX8_digest_175 rfl rfl ?_
              refine e_iconst (pc := 176) dX8_digest_176 (by decide) ?_
              refine e_callV (pc := 177) (as := [(0, 0)]) (st := [(1, w64 (31 * (dg7 A)))]) (m_keysNow G A zm8 0 (Or.inl rfl) hI zM8) dX8_digest_177 lX8_digest_256 rfl s_49 cn_8 rfl rfl (fun r_ zm9 hq_ => ?_)
              obtain ⟨zr_, zM9, zf9⟩ := hq_
              subst zr_
              have zF9 : Fr scZ mem zm9 := zF8.tr zf9
              refine Ev.to (st' := [(0, an_keys A 0), (1, w64 (31 * (dg7 A)))]) ?_ rfl rfl rfl
              refine e_i2l (pc := 180) dX8_digest_180 ?_
              refine e_ladd (pc := 181) dX8_digest_181 ?_
              rw [show w64 ((w64 (31 * (dg7 A))) + (an_keys A 0)) = dg8 A from rfl]
              refine e_lstoren (pc := 182) (lo' := [(2, 49), (1, dg8 A), (3, 0), (0, (((A 1 0).toNat : Nat) : Int))]) dX8_digest_182 rfl rfl (by decide) rfl ?_
              refine e_ldc2 (pc := 183) (z := 31) dX8_digest_183 kX8_301 (by decide) ?_
              refine e_lloadn (pc := 186) dX8_digest_186 rfl rfl ?_
              refine e_lmul (pc := 187) dX8_digest_187 ?_
              refine e_aloadn (pc := 188) dX8_digest_188 rfl rfl ?_
              refine e_iconst (pc := 189) dX8_digest_189 (by decide) ?_
              refine e_callV (pc := 190) (as := [(0, 1)]) (st := [(1, w64 (31 * (dg8 A)))]) (m_keysNow G A zm9 1 (Or.inr rfl) hI zM9) dX8_digest_190 lX8_digest_256 rfl s_49 cn_8 rfl rfl (fun r_ zm10 hq_ => ?_)
              obtain ⟨zr_, zM10, zf10⟩ := hq_
              subst zr_
              have zF10 : Fr scZ mem zm10 := zF9.tr zf10
              refine Ev.to (st' := [(0, an_keys A 1), (1, w64 (31 * (dg8 A)))]) ?_ rfl rfl rfl
              refine e_i2l (pc := 193) dX8_digest_193 ?_
              refine e_ladd (pc := 194) dX8_digest_194 ?_
              rw [show w64 ((w64 (31 * (dg8 A))) + (an_keys A 1)) = dg9 A from rfl]
              refine e_lstoren (pc := 195) (lo' := [(2, 49), (1, dg9 A), (3, 0), (0, (((A 1 0).toNat : Nat) : Int))]) dX8_digest_195 rfl rfl (by decide) rfl ?_
              refine e_ldc2 (pc := 196) (z := 31) dX8_digest_196 kX8_301 (by decide) ?_
              refine e_lloadn (pc := 199) dX8_digest_199 rfl rfl ?_
              refine e_lmul (pc := 200) dX8_digest_200 ?_
              refine e_aloadn (pc := 201) dX8_digest_201 rfl rfl ?_
              refine e_bipush (pc := 202) dX8_digest_202 rfl (by decide) ?_
              refine e_iconst (pc := 204) dX8_digest_204 (by decide) ?_
              have zod : lowF (sumTo (bgS A 30) 256) 0 = an_odds A 30 0 := by unfold an_odds; rw [if_pos (by omega)]
              have zON := m_oddsNow G A zm10 30 0 hI zM10
              rw [zod] at zON
              refine e_callV (pc := 205) (as := [(0, 30), (0, 0)]) (st := [(1, w64 (31 * (dg9 A)))]) (zON) dX8_digest_205 lX8_digest_276 rfl s_49 cn_8 rfl rfl (fun r_ zm11 hq_ => ?_)
              obtain ⟨zr_, zM11, zf11⟩ := hq_
              subst zr_
              have zF11 : Fr scZ mem zm11 := zF10.tr zf11
              refine Ev.to (st' := [(1, an_odds A 30 0), (1, w64 (31 * (dg9 A)))]) ?_ rfl rfl rfl
              refine e_ladd (pc := 208) dX8_digest_208 ?_
              rw [show w64 ((w64 (31 * (dg9 A))) + (an_odds A 30 0)) = an_digest A from rfl]
              exact e_lret (pc := 209) dX8_digest_209 rfl (by rw [← hQ_]; exact ⟨rfl, zM11, zF11⟩)
            · skip
              have zk8 : k < 8 := by omega
              have zq := (hI.cm zn1 zk8).mpr (by omega)
              have zac : an_comes A (k : Int) = whA0 A k := by unfold an_comes; rw [if_pos ⟨by omega, by omega, zq⟩]; rfl
              have zap : an_pays A (k : Int) = pyE A (A 17) (A 18) (A 19) 0 0 k := by unfold an_pays; rw [if_neg (by omega), if_pos ⟨by omega, by omega, zq⟩]; rfl
              refine e_ldc2 (pc := 73) (z := 31) dX8_digest_73 kX8_301 (by decide) ?_
              refine e_lloadn (pc := 76) dX8_digest_76 rfl rfl ?_
              refine e_lmul (pc := 77) dX8_digest_77 ?_
              refine e_aloadn (pc := 78) dX8_digest_78 rfl rfl ?_
              refine e_getr (pc := 79) (k := 63) dX8_digest_79 fX8_50 s_49 rfl (by decide) ?_
              refine e_iloadn (pc := 82) dX8_digest_82 rfl rfl ?_
              refine e_ialdv (pc := 83) (v := (an_comes A (k : Int))) dX8_digest_83 s_63 (by omega) (by rw [zac]; exact zG3.2 k zk8 zq) ?_
              refine e_i2l (pc := 84) dX8_digest_84 ?_
              refine e_ladd (pc := 85) dX8_digest_85 ?_
              rw [show w64 ((w64 (31 * (dgN A k))) + (an_comes A (k : Int))) = dgs (dgN A k) (an_comes A (k : Int)) from rfl]
              refine e_lstoren (pc := 86) (lo' := [(2, 49), (1, dgs (dgN A k) (an_comes A (k : Int))), (3, 0), (0, (k : Int))]) dX8_digest_86 rfl rfl (by decide) rfl ?_
              refine e_ldc2 (pc := 87) (z := 31) dX8_digest_87 kX8_301 (by decide) ?_
              refine e_lloadn (pc := 90) dX8_digest_90 rfl rfl ?_
              refine e_lmul (pc := 91) dX8_digest_91 ?_
              refine e_aloadn (pc := 92) dX8_digest_92 rfl rfl ?_
              refine e_iloadn (pc := 93) dX8_digest_93 rfl rfl ?_
              have zPN := m_paysNow G A zm3 (A 17) (A 18) (A 19) 0 0 k zk8 zq hI zM3 zE3 zG3
              rw [← zap] at zPN
              refine e_callVr (pc := 94) (as := [(0, (k : Int))]) (st := [(1, w64 (31 * (dgs (dgN A k) (an_comes A (k : Int)))))]) (zPN) dX8_digest_94 lX8_digest_187 rfl s_49 cn_8 rfl rfl ?_
              refine e_i2l (pc := 97) dX8_digest_97 ?_
              refine e_ladd (pc := 98) dX8_digest_98 ?_
              rw [show w64 ((w64 (31 * (dgs (dgN A k) (an_comes A (k : Int))))) + (an_pays A (k : Int))) = dgN A (k + 1) from rfl]
              refine e_lstoren (pc := 99) (lo' := [(2, 49), (1, dgN A (k + 1)), (3, 0), (0, (k : Int))]) dX8_digest_99 rfl rfl (by decide) rfl ?_
              refine e_iinc (pc := 100) (lo' := [(2, 49), (1, dgN A (k + 1)), (3, 0), (0, (k : Int) + 1)]) dX8_digest_100 rfl (by omega) rfl (by decide) rfl ?_
              refine e_goto (pc := 103) (tgt := 65) dX8_digest_103 rfl ?_
              exact Ev.to (ih65 _ (by omega) (k + 1) (rfl) (by omega)) rfl rfl rfl
        exact Ev.to (L65 _ 0 (rfl) (by omega)) rfl rfl rfl
      · skip
        refine e_ldc2 (pc := 12) (z := 31) dX8_digest_12 kX8_301 (by decide) ?_
        refine e_lloadn (pc := 15) dX8_digest_15 rfl rfl ?_
        refine e_lmul (pc := 16) dX8_digest_16 ?_
        refine e_aloadn (pc := 17) dX8_digest_17 rfl rfl ?_
        refine e_iloadn (pc := 18) dX8_digest_18 rfl rfl ?_
        refine e_callVr (pc := 19) (as := [(0, (k : Int))]) (st := [(1, w64 (31 * (dgC A k)))]) (m_count G A mem (k : Int) hI hM) dX8_digest_19 lX8_digest_303 rfl s_49 cn_8 rfl rfl ?_
        refine e_i2l (pc := 22) dX8_digest_22 ?_
        refine e_ladd (pc := 23) dX8_digest_23 ?_
        rw [show w64 ((w64 (31 * (dgC A k))) + (an_count A (k : Int))) = dgC A (k + 1) from rfl]
        refine e_lstoren (pc := 24) (lo' := [(2, 49), (1, dgC A (k + 1)), (3, 0), (0, (k : Int))]) dX8_digest_24 rfl rfl (by decide) rfl ?_
        refine e_iinc (pc := 25) (lo' := [(2, 49), (1, dgC A (k + 1)), (3, 0), (0, (k : Int) + 1)]) dX8_digest_25 rfl (by omega) rfl (by decide) rfl ?_
        refine e_goto (pc := 28) (tgt := 6) dX8_digest_28 rfl ?_
        exact Ev.to (ih6 _ (by omega) (k + 1) (rfl) (by omega)) rfl rfl rfl
  exact Ev.to (L6 _ 0 (rfl) (by omega)) rfl rfl rfl
