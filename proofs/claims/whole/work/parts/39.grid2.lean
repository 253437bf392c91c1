theorem t_toNextWay (G : Gm) (mem zm : Mem) (m i : Nat) (hm : 2 ≤ m ∧ m ≤ 13) (hmm : mem 34 2 = (m : Int)) (hi : i < m ^ cnt (plT mem) 8) (hW : WyI mem zm m i) : Con G mX2_toNextWay [(2, 34)] zm (fun r m' => ∃ b : Bool, r = some (0, if b then 1 else 0) ∧ ((b = true ∧ i + 1 < m ^ cnt (plT mem) 8 ∧ WyI mem m' m (i + 1)) ∨ (b = false ∧ i + 1 = m ^ cnt (plT mem) 8 ∧ Fr scY mem m'))) := by
  refine Con.of (lo := [(2, 34), (3, 0), (3, 0), (3, 0)]) (by decide +kernel) (Nat.le_of_ble_eq_true rfl) rfl ?_
  generalize hQ_ : (fun r m' => ∃ b : Bool, r = some (0, if b then 1 else 0) ∧ ((b = true ∧ i + 1 < m ^ cnt (plT mem) 8 ∧ WyI mem m' m (i + 1)) ∨ (b = false ∧ i + 1 = m ^ cnt (plT mem) 8 ∧ Fr scY mem m')) : Option AV → Mem → Prop) = Q_
  refine e_bipush (pc := 0) dX2_toNextWay_0 rfl (by decide) ?_
  refine e_istoren (pc := 2) (lo' := [(2, 34), (0, 7), (3, 0), (3, 0)]) dX2_toNextWay_2 rfl rfl (by decide) rfl ?_
  have L3 : ∀ (n_ : Nat) (q : Nat) (zmv : Mem), q = n_ → (q ≤ 8) → (Fr scY mem zmv) → (Top (plT mem) m i q) → (zmv 28 = fun d9 => if d9 < 8 ∧ plT mem d9 = true then mem 35 (if q ≤ d9 then 0 else dgP (plT mem) m i d9) else mem 28 d9) → (∀ d9, d9 < 8 → plT mem d9 = true → zmv 36 d9 = (((if q ≤ d9 then 0 else dgP (plT mem) m i d9) : Nat) : Int)) → Ev G mX2_toNextWay Q_ 3 [(2, 34), (0, (q : Int) - 1), (3, 0), (3, 0)] [] zmv := by
    intro n_
    induction n_ using Nat.strongRecOn with
    | ind n_ ih3 =>
      intro q zmv hn_ zq zf zT zA zP
      refine e_iloadn (pc := 3) dX2_toNextWay_3 rfl rfl ?_
      refine e_if_lt (pc := 4) (tgt := 102) dX2_toNextWay_4 rfl (fun h4 => ?_) (fun h4 => ?_)
      · skip
        refine e_iconst (pc := 102) dX2_toNextWay_102 (by decide) ?_
        have zq0 : q = 0 := by omega
        subst zq0
        have zend := zT.end hi
        exact e_zret (pc := 103) dX2_toNextWay_103 rfl (by decide) (by rw [← hQ_]; exact ⟨false, rfl, Or.inr ⟨rfl, zend, zf⟩⟩)
      · skip
        obtain ⟨c, rfl⟩ : ∃ c, q = c + 1 := ⟨q - 1, by omega⟩
        refine Ev.to (lo' := [(2, 34), (0, (c : Int)), (3, 0), (3, 0)]) ?_ (by rw [show ((c + 1 : Nat) : Int) - 1 = (c : Int) by omega]) rfl rfl
        refine e_aloadn (pc := 7) dX2_toNextWay_7 rfl rfl ?_
        refine e_getr (pc := 8) (k := 25) dX2_toNextWay_8 fX2_18 s_34 rfl (by decide) ?_
        refine e_getr (pc := 11) (k := 27) dX2_toNextWay_11 fX2_26 s_25 rfl (by decide) ?_
        refine e_iloadn (pc := 14) dX2_toNextWay_14 rfl rfl ?_
        refine e_ialdv (pc := 15) (v := mem 27 c) dX2_toNextWay_15 s_27 (by omega) (zf 27 c rfl) ?_
        refine e_if_eq (pc := 16) (tgt := 22) dX2_toNextWay_16 rfl (fun h16 => ?_) (fun h16 => ?_)
        · skip
          have zpl : plT mem c = true := by unfold plT; simpa using h16
          have zdl : dgP (plT mem) m i c < m := dg_lt (by omega)
          refine e_aloadn (pc := 22) dX2_toNextWay_22 rfl rfl ?_
          refine e_getr (pc := 23) (k := 36) dX2_toNextWay_23 fX2_15 s_34 rfl (by decide) ?_
          refine e_iloadn (pc := 26) dX2_toNextWay_26 rfl rfl ?_
          refine e_ialdv (pc := 27) (v := ((dgP (plT mem) m i c : Nat) : Int)) dX2_toNextWay_27 s_36 (by omega) ((zP c (by omega) zpl).trans (by rw [if_neg (by omega)])) ?_
          refine e_iconst (pc := 28) dX2_toNextWay_28 (by decide) ?_
          refine e_iaddn (pc := 29) dX2_toNextWay_29 (by omega) ?_
          refine e_istoren (pc := 30) (lo' := [(2, 34), (0, (c : Int)), (0, ((dgP (plT mem) m i c : Nat) : Int) + 1), (3, 0)]) dX2_toNextWay_30 rfl rfl (by decide) rfl ?_
          refine e_iloadn (pc := 31) dX2_toNextWay_31 rfl rfl ?_
          refine e_if_lt (pc := 32) (tgt := 53) dX2_toNextWay_32 rfl (fun h32 => ?_) (fun h32 => ?_)
          · skip
            exfalso; omega
          · skip
            refine e_iloadn (pc := 35) dX2_toNextWay_35 rfl rfl ?_
            refine e_aloadn (pc := 36) dX2_toNextWay_36 rfl rfl ?_
            refine e_getiv (pc := 37) (v := (m : Int)) dX2_toNextWay_37 fX2_22 s_34 rfl (by decide) ((zf 34 2 rfl).trans hmm) ?_
            refine e_icmp_ge (pc := 40) (tgt := 53) dX2_toNextWay_40 rfl (fun h40 => ?_) (fun h40 => ?_)
            · skip
              refine e_iconst (pc := 53) dX2_toNextWay_53 (by decide) ?_
              refine e_istoren (pc := 54) (lo' := [(2, 34), (0, (c : Int)), (0, ((dgP (plT mem) m i c : Nat) : Int) + 1), (0, 0)]) dX2_toNextWay_54 rfl rfl (by decide) rfl ?_
              refine e_aloadn (pc := 55) dX2_toNextWay_55 rfl rfl ?_
              refine e_getr (pc := 56) (k := 36) dX2_toNextWay_56 fX2_15 s_34 rfl (by decide) ?_
              refine e_iloadn (pc := 59) dX2_toNextWay_59 rfl rfl ?_
              refine e_iloadn (pc := 60) dX2_toNextWay_60 rfl rfl ?_
              refine e_if_eq (pc := 61) (tgt := 68) dX2_toNextWay_61 rfl (fun h61 => ?_) (fun h61 => ?_)
              · skip
                refine e_iconst (pc := 68) dX2_toNextWay_68 (by decide) ?_
                refine e_iastm (pc := 69) (mem2 := mset zmv 36 c 0) dX2_toNextWay_69 s_36 (by omega) (rfl) ?_
                refine e_aloadn (pc := 70) dX2_toNextWay_70 rfl rfl ?_
                refine e_getr (pc := 71) (k := 25) dX2_toNextWay_71 fX2_18 s_34 rfl (by decide) ?_
                refine e_getr (pc := 74) (k := 28) dX2_toNextWay_74 fX2_31 s_25 rfl (by decide) ?_
                refine e_iloadn (pc := 77) dX2_toNextWay_77 rfl rfl ?_
                refine e_aloadn (pc := 78) dX2_toNextWay_78 rfl rfl ?_
                refine e_getr (pc := 79) (k := 35) dX2_toNextWay_79 fX2_9 s_34 rfl (by decide) ?_
                refine e_aloadn (pc := 82) dX2_toNextWay_82 rfl rfl ?_
                refine e_getr (pc := 83) (k := 36) dX2_toNextWay_83 fX2_15 s_34 rfl (by decide) ?_
                refine e_iloadn (pc := 86) dX2_toNextWay_86 rfl rfl ?_
                refine e_ialdv (pc := 87) (v := 0) dX2_toNextWay_87 s_36 (by omega) (mset_eq _ _ _ _) ?_
                refine e_ialdv (pc := 88) (v := (mem 35 0)) dX2_toNextWay_88 s_35 (by omega) ((zf 35 0 rfl)) ?_
                refine e_iastm (pc := 89) (mem2 := mset (mset zmv 36 c 0) 28 c (mem 35 0)) dX2_toNextWay_89 s_28 (by omega) rfl ?_
                refine e_iloadn (pc := 90) dX2_toNextWay_90 rfl rfl ?_
                refine e_if_eq (pc := 91) (tgt := 96) dX2_toNextWay_91 rfl (fun h91 => ?_) (fun h91 => ?_)
                · skip
                  refine e_iinc (pc := 96) (lo' := [(2, 34), (0, (c : Int) + (-1)), (0, ((dgP (plT mem) m i c : Nat) : Int) + 1), (0, 0)]) dX2_toNextWay_96 rfl (by omega) rfl (by decide) rfl ?_
                  refine e_goto (pc := 99) (tgt := 3) dX2_toNextWay_99 rfl ?_
                  have zA2 : (mset (mset zmv 36 c 0) 28 c (mem 35 0)) 28 = fun d9 => if d9 < 8 ∧ plT mem d9 = true then mem 35 (if c ≤ d9 then 0 else dgP (plT mem) m i d9) else mem 28 d9 := by
                    rw [mset_row, show (mset zmv 36 c 0) 28 = zmv 28 from rfl, zA]
                    funext d
                    unfold uset
                    by_cases y : d = c
                    · rw [if_pos y, y, if_pos ⟨by omega, zpl⟩, if_pos (Nat.le_refl _)]
                    · rw [if_neg y]
                      show (if d < 8 ∧ plT mem d = true then mem 35 (if c + 1 ≤ d then 0 else dgP (plT mem) m i d) else mem 28 d) = (if d < 8 ∧ plT mem d = true then mem 35 (if c ≤ d then 0 else dgP (plT mem) m i d) else mem 28 d)
                      by_cases x : c + 1 ≤ d
                      · rw [if_pos x, if_pos (show c ≤ d by omega)]
                      · rw [if_neg x, if_neg (show ¬ c ≤ d by omega)]
                  have zP2 : ∀ d9, d9 < 8 → plT mem d9 = true → (mset (mset zmv 36 c 0) 28 c (mem 35 0)) 36 d9 = (((if c ≤ d9 then 0 else dgP (plT mem) m i d9) : Nat) : Int) := by
                    intro d hd hp
                    show (mset zmv 36 c 0) 36 d = _
                    rw [mset_row]
                    by_cases y : d = c
                    · rw [y, uset_eq, if_pos (Nat.le_refl _)]; rfl
                    · rw [uset_ne _ _ y, zP d hd hp]
                      by_cases x : c + 1 ≤ d
                      · rw [if_pos x, if_pos (by omega)]
                      · rw [if_neg x, if_neg (by omega)]
                  refine Ev.fgt [2, 3] ?_
                  exact Ev.to (ih3 _ (by omega) c (mset (mset zmv 36 c 0) 28 c (mem 35 0)) (rfl) (by omega) (((zf.ms rfl).ms rfl)) (zT.carry (by omega) (by omega) zpl (by omega)) (zA2) (zP2)) (by rw [show (c : Int) + -1 = (c : Int) - 1 by omega]; try rfl) rfl rfl
                · skip
                  exfalso; omega
              · skip
                exfalso; omega
            · skip
              refine e_iloadn (pc := 43) dX2_toNextWay_43 rfl rfl ?_
              refine e_bipush (pc := 44) dX2_toNextWay_44 rfl (by decide) ?_
              refine e_icmp_ge (pc := 46) (tgt := 53) dX2_toNextWay_46 rfl (fun h46 => ?_) (fun h46 => ?_)
              · skip
                exfalso; omega
              · skip
                refine e_iconst (pc := 49) dX2_toNextWay_49 (by decide) ?_
                refine e_goto (pc := 50) (tgt := 54) dX2_toNextWay_50 rfl ?_
                refine e_istoren (pc := 54) (lo' := [(2, 34), (0, (c : Int)), (0, ((dgP (plT mem) m i c : Nat) : Int) + 1), (0, 1)]) dX2_toNextWay_54 rfl rfl (by decide) rfl ?_
                refine e_aloadn (pc := 55) dX2_toNextWay_55 rfl rfl ?_
                refine e_getr (pc := 56) (k := 36) dX2_toNextWay_56 fX2_15 s_34 rfl (by decide) ?_
                refine e_iloadn (pc := 59) dX2_toNextWay_59 rfl rfl ?_
                refine e_iloadn (pc := 60) dX2_toNextWay_60 rfl rfl ?_
                refine e_if_eq (pc := 61) (tgt := 68) dX2_toNextWay_61 rfl (fun h61 => ?_) (fun h61 => ?_)
                · skip
                  exfalso; omega
                · skip
                  refine e_iloadn (pc := 64) dX2_toNextWay_64 rfl rfl ?_
                  refine e_goto (pc := 65) (tgt := 69) dX2_toNextWay_65 rfl ?_
                  refine e_iastm (pc := 69) (mem2 := mset zmv 36 c ((dgP (plT mem) m i c + 1 : Nat) : Int)) dX2_toNextWay_69 s_36 (by omega) (rfl) ?_
                  refine e_aloadn (pc := 70) dX2_toNextWay_70 rfl rfl ?_
                  refine e_getr (pc := 71) (k := 25) dX2_toNextWay_71 fX2_18 s_34 rfl (by decide) ?_
                  refine e_getr (pc := 74) (k := 28) dX2_toNextWay_74 fX2_31 s_25 rfl (by decide) ?_
                  refine e_iloadn (pc := 77) dX2_toNextWay_77 rfl rfl ?_
                  refine e_aloadn (pc := 78) dX2_toNextWay_78 rfl rfl ?_
                  refine e_getr (pc := 79) (k := 35) dX2_toNextWay_79 fX2_9 s_34 rfl (by decide) ?_
                  refine e_aloadn (pc := 82) dX2_toNextWay_82 rfl rfl ?_
                  refine e_getr (pc := 83) (k := 36) dX2_toNextWay_83 fX2_15 s_34 rfl (by decide) ?_
                  refine e_iloadn (pc := 86) dX2_toNextWay_86 rfl rfl ?_
                  refine e_ialdv (pc := 87) (v := ((dgP (plT mem) m i c + 1 : Nat) : Int)) dX2_toNextWay_87 s_36 (by omega) (mset_eq _ _ _ _) ?_
                  refine e_ialdv (pc := 88) (v := (mem 35 (dgP (plT mem) m i c + 1))) dX2_toNextWay_88 s_35 (by omega) ((zf 35 (dgP (plT mem) m i c + 1) rfl)) ?_
                  refine e_iastm (pc := 89) (mem2 := mset (mset zmv 36 c ((dgP (plT mem) m i c + 1 : Nat) : Int)) 28 c (mem 35 (dgP (plT mem) m i c + 1))) dX2_toNextWay_89 s_28 (by omega) rfl ?_
                  refine e_iloadn (pc := 90) dX2_toNextWay_90 rfl rfl ?_
                  refine e_if_eq (pc := 91) (tgt := 96) dX2_toNextWay_91 rfl (fun h91 => ?_) (fun h91 => ?_)
                  · skip
                    exfalso; omega
                  · skip
                    refine e_iconst (pc := 94) dX2_toNextWay_94 (by decide) ?_
                    have znx := zT.next (by omega) (by omega) zpl (by omega)
                    have zlt := zT.not_last (by omega) (by omega) zpl (by omega) hi
                    have zW2 : WyI mem (mset (mset zmv 36 c ((dgP (plT mem) m i c + 1 : Nat) : Int)) 28 c (mem 35 (dgP (plT mem) m i c + 1))) m (i + 1) := by
                      refine ⟨((zf.ms rfl).ms rfl), ?_, fun d hd hp => ?_⟩
                      · rw [mset_row, show (mset zmv 36 c ((dgP (plT mem) m i c + 1 : Nat) : Int)) 28 = zmv 28 from rfl, zA]
                        funext d
                        unfold uset grA
                        by_cases y : d = c
                        · rw [if_pos y, y, if_pos ⟨by omega, zpl⟩, znx c (by omega) zpl, if_neg (by omega), if_pos rfl]
                        · rw [if_neg y]
                          by_cases x : d < 8 ∧ plT mem d = true
                          · rw [if_pos x]
                            show (if d < 8 ∧ plT mem d = true then mem 35 (if c + 1 ≤ d then 0 else dgP (plT mem) m i d) else mem 28 d) = _
                            rw [if_pos x, znx d x.1 x.2]
                            by_cases u : c < d
                            · rw [if_pos (show c + 1 ≤ d by omega), if_pos u]
                            · rw [if_neg (show ¬ c + 1 ≤ d by omega), if_neg u, if_neg y]
                          · rw [if_neg x]
                            show (if d < 8 ∧ plT mem d = true then mem 35 (if c + 1 ≤ d then 0 else dgP (plT mem) m i d) else mem 28 d) = _
                            rw [if_neg x]
                      · show (mset zmv 36 c ((dgP (plT mem) m i c + 1 : Nat) : Int)) 36 d = _
                        rw [mset_row, znx d hd hp]
                        by_cases y : d = c
                        · rw [y, uset_eq, if_neg (by omega), if_pos rfl]
                        · rw [uset_ne _ _ y, zP d hd hp, if_neg y]
                          by_cases u : c < d
                          · rw [if_pos (show c + 1 ≤ d by omega), if_pos u]
                          · rw [if_neg (show ¬ c + 1 ≤ d by omega), if_neg u]
                    exact e_zret (pc := 95) dX2_toNextWay_95 rfl (by decide) (by rw [← hQ_]; exact ⟨true, rfl, Or.inl ⟨rfl, zlt, zW2⟩⟩)
        · skip
          have zpl : plT mem c = false := by unfold plT; simpa using h16
          refine e_goto (pc := 19) (tgt := 96) dX2_toNextWay_19 rfl ?_
          refine e_iinc (pc := 96) (lo' := [(2, 34), (0, (c : Int) + (-1)), (3, 0), (3, 0)]) dX2_toNextWay_96 rfl (by omega) rfl (by decide) rfl ?_
          refine e_goto (pc := 99) (tgt := 3) dX2_toNextWay_99 rfl ?_
          have zA2 : zmv 28 = fun d9 => if d9 < 8 ∧ plT mem d9 = true then mem 35 (if c ≤ d9 then 0 else dgP (plT mem) m i d9) else mem 28 d9 := by
            rw [zA]
            funext d
            by_cases z : d < 8 ∧ plT mem d = true
            · have zd : d ≠ c := fun e => by rw [e, zpl] at z; cases z.2
              rw [if_pos z, if_pos z]
              by_cases y : c + 1 ≤ d
              · rw [if_pos y, if_pos (by omega)]
              · rw [if_neg y, if_neg (by omega)]
            · rw [if_neg z, if_neg z]
          have zP2 : ∀ d9, d9 < 8 → plT mem d9 = true → zmv 36 d9 = (((if c ≤ d9 then 0 else dgP (plT mem) m i d9) : Nat) : Int) := by
            intro d hd hp
            have zd : d ≠ c := fun e => by rw [e, zpl] at hp; cases hp
            rw [zP d hd hp]
            by_cases y : c + 1 ≤ d
            · rw [if_pos y, if_pos (by omega)]
            · rw [if_neg y, if_neg (by omega)]
          exact Ev.to (ih3 _ (by omega) c zmv (rfl) (by omega) (zf) (zT.skip zpl) (zA2) (zP2)) (by rw [show (c : Int) + -1 = (c : Int) - 1 by omega]; try rfl) rfl rfl
  have zA0 : zm 28 = fun d9 => if d9 < 8 ∧ plT mem d9 = true then mem 35 (if 8 ≤ d9 then 0 else dgP (plT mem) m i d9) else mem 28 d9 := by
    rw [hW.2.1]
    funext c
    unfold grA
    by_cases z : c < 8 ∧ plT mem c = true
    · rw [if_pos z, if_pos z, if_neg (by omega)]
    · rw [if_neg z, if_neg z]
  have zP0 : ∀ d9, d9 < 8 → plT mem d9 = true → zm 36 d9 = (((if 8 ≤ d9 then 0 else dgP (plT mem) m i d9) : Nat) : Int) := by
    intro c hc hp
    rw [if_neg (by omega)]
    exact hW.2.2 c hc hp
  exact Ev.to (L3 _ 8 zm (rfl) (by omega) (hW.1) (Top.top) (zA0) (zP0)) rfl rfl rfl
