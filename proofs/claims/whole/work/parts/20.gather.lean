def scG (e c j : Nat) : Bool := c == e + 4 || c == e + 5 || c == e + 6 || c == e + 7 || (c == e && (j == 9 || j == 11 || j == 13))

theorem EvOk16.mv {mem mv : Mem} (zzg : Fr (scG 16) mem mv) (h : EvOk16 mem) : EvOk16 mv := by
  unfold EvOk16 at *
  rw [show mv 17 = mem 17 from funext (fun j => zzg 17 j rfl), show mv 18 = mem 18 from funext (fun j => zzg 18 j rfl), show mv 19 = mem 19 from funext (fun j => zzg 19 j rfl), show mv 16 4 = mem 16 4 from zzg 16 4 rfl, show mv 16 5 = mem 16 5 from zzg 16 5 rfl, show mv 2 = mem 2 from funext (fun j => zzg 2 j rfl), show mv 3 = mem 3 from funext (fun j => zzg 3 j rfl)]
  exact h
theorem CoOk.mv {S : Nat → Nat → Bool} {mem mv : Mem} (zzg : Fr S mem mv) (h : CoOk mem) (hS : ∀ c j, 2 ≤ c → c ≤ 9 → S c j = false := by intro c j h1 h2; rcases (show c = 2 ∨ c = 3 ∨ c = 4 ∨ c = 5 ∨ c = 6 ∨ c = 7 ∨ c = 8 ∨ c = 9 by omega) with rfl | rfl | rfl | rfl | rfl | rfl | rfl | rfl <;> rfl) : CoOk mv := by
  intro c hc
  rw [zzg 5 c (hS 5 c (by decide) (by decide)), zzg 6 c (hS 6 c (by decide) (by decide)), zzg 7 c (hS 7 c (by decide) (by decide)), zzg 8 c (hS 8 c (by decide) (by decide)), zzg 9 c (hS 9 c (by decide) (by decide)), zzg 2 c (hS 2 c (by decide) (by decide)), zzg 3 c (hS 3 c (by decide) (by decide))]
  exact h c hc
theorem t_gather_16 (G : Gm) (mem : Mem) (op : Int) (hC : CoOk mem) (hE : EvOk16 mem) : Con G mX1_gather [(2, 16), (0, op)] mem (fun r m' => r = none ∧ Fr (scG 16) mem m' ∧ ∃ n : Nat, m' 16 11 = (n : Int) ∧ m' 16 13 = ((cnt (isK (mem 18) (mem 16 5) op) 8 : Nat) : Int) ∧ GI (m' 22) (m' 23) (m' 20) n (isF (mem 18) (mem 16 5) op) (isK (mem 18) (mem 16 5) op) (firmV (mem 18) (mem 19) (mem 17 0) (mem 16 4) (mem 9)) 8) := by
  refine Con.of (lo := [(2, 16), (0, op), (3, 0)]) (by decide +kernel) (Nat.le_of_ble_eq_true rfl) rfl ?_
  generalize hQ_ : (fun r m' => r = none ∧ Fr (scG 16) mem m' ∧ ∃ n : Nat, m' 16 11 = (n : Int) ∧ m' 16 13 = ((cnt (isK (mem 18) (mem 16 5) op) 8 : Nat) : Int) ∧ GI (m' 22) (m' 23) (m' 20) n (isF (mem 18) (mem 16 5) op) (isK (mem 18) (mem 16 5) op) (firmV (mem 18) (mem 19) (mem 17 0) (mem 16 4) (mem 9)) 8 : Option AV → Mem → Prop) = Q_
  have hE2 := hE.2
  have zzaw := hE.1.2.2.2.2
  have zztd := hE.1.1
  refine e_aloadn (pc := 0) dX1_gather_0 rfl rfl ?_
  refine e_iconst (pc := 1) dX1_gather_1 (by decide) ?_
  refine e_putI (pc := 2) (mem2 := mset mem 16 9 0) dX1_gather_2 fX1_76 s_16 rfl (by decide) pw_1_9 rfl ?_
  refine e_aloadn (pc := 5) dX1_gather_5 rfl rfl ?_
  refine e_iconst (pc := 6) dX1_gather_6 (by decide) ?_
  refine e_putI (pc := 7) (mem2 := mset (mset mem 16 9 0) 16 13 0) dX1_gather_7 fX1_79 s_16 rfl (by decide) pw_1_13 rfl ?_
  refine e_iconst (pc := 10) dX1_gather_10 (by decide) ?_
  refine e_istoren (pc := 11) (lo' := [(2, 16), (0, op), (0, 0)]) dX1_gather_11 rfl rfl (by decide) rfl ?_
  have L12 : ∀ (n_ : Nat) (k : Nat) (n : Nat) (mv : Mem), 8 - k = n_ → (k ≤ 8) → (mv 16 9 = (n : Int)) → (mv 16 13 = ((cnt (isK (mem 18) (mem 16 5) op) k : Nat) : Int)) → (Fr (scG 16) mem mv) → (GI (mv 21) (mv 23) (mv 20) n (isF (mem 18) (mem 16 5) op) (isK (mem 18) (mem 16 5) op) (firmV (mem 18) (mem 19) (mem 17 0) (mem 16 4) (mem 9)) k) → Ev G mX1_gather Q_ 12 [(2, 16), (0, op), (0, (k : Int))] [] mv := by
    intro n_
    induction n_ using Nat.strongRecOn with
    | ind n_ ih12 =>
      intro k n mv hn_ zzk zzt zzl zzg zzI
      refine e_iloadn (pc := 12) dX1_gather_12 rfl rfl ?_
      refine e_bipush (pc := 13) dX1_gather_13 rfl (by decide) ?_
      refine e_icmp_ge (pc := 15) (tgt := 115) dX1_gather_15 rfl (fun h15 => ?_) (fun h15 => ?_)
      · skip
        refine e_aloadn (pc := 115) dX1_gather_115 rfl rfl ?_
        refine e_getr (pc := 116) (k := 21) dX1_gather_116 fX1_27 s_16 rfl (by decide) ?_
        refine e_iconst (pc := 119) dX1_gather_119 (by decide) ?_
        refine e_aloadn (pc := 120) dX1_gather_120 rfl rfl ?_
        refine e_getr (pc := 121) (k := 22) dX1_gather_121 fX1_30 s_16 rfl (by decide) ?_
        refine e_iconst (pc := 124) dX1_gather_124 (by decide) ?_
        refine e_bipush (pc := 125) dX1_gather_125 rfl (by decide) ?_
        refine e_copy (pc := 127) dX1_gather_127 lX1_cp47 (by decide) rfl s_21 s_22 (by decide) (by decide) ?_
        refine e_aloadn (pc := 130) dX1_gather_130 rfl rfl ?_
        refine e_aloadn (pc := 131) dX1_gather_131 rfl rfl ?_
        refine e_getiv (pc := 132) (v := (n : Int)) dX1_gather_132 fX1_76 s_16 rfl (by decide) (zzt) ?_
        refine e_putI (pc := 135) (mem2 := mset (rset mv 22 (cpy (mv 21) (mv 22) 0 0 8)) 16 11 (n : Int)) dX1_gather_135 fX1_89 s_16 rfl (by decide) pw_1_11 rfl ?_
        have zz8 : k = 8 := by omega
        subst zz8
        obtain ⟨zi1, zi2, zi3, zi4, zi5, zi6⟩ := zzI
        have zze : ∀ j, j < n → cpy (mv 21) (mv 22) 0 0 8 j = mv 21 j := by
          intro j hj
          unfold cpy
          rw [if_pos ⟨by omega, by omega⟩]
          congr 1; omega
        have zzfin : GI (cpy (mv 21) (mv 22) 0 0 8) (mv 23) (mv 20) n (isF (mem 18) (mem 16 5) op) (isK (mem 18) (mem 16 5) op) (firmV (mem 18) (mem 19) (mem 17 0) (mem 16 4) (mem 9)) 8 := ⟨zi1, zi2.congr zze, fun j hj => by rw [zze j hj]; exact zi3 j hj, fun t ht => by rw [cnO_congr zze]; exact zi4 t ht, zi5, zi6⟩
        exact e_vret (pc := 138) dX1_gather_138 rfl (by rw [← hQ_]; exact ⟨rfl, ((zzg.rs (fun _ => rfl)).ms rfl), n, rfl, zzl, zzfin⟩)
      · skip
        have zzn := zzI.1
        have zzE := hE2 k (by omega)
        have zzC := hC k (by omega)
        have zzcl : cnt (isK (mem 18) (mem 16 5) op) k ≤ k := cnt_le _ _
        have zzfb := firmV_bd (kind := mem 18) (aim := mem 19) (told := mem 17 0) (late := mem 16 4) (dl := mem 9) (c := k) (by omega) (by omega) (by omega)
        have zzbt := bt_01 (mem 16 5) k
        refine e_aloadn (pc := 18) dX1_gather_18 rfl rfl ?_
        refine e_getr (pc := 19) (k := 20) dX1_gather_19 fX1_24 s_16 rfl (by decide) ?_
        refine e_iloadn (pc := 22) dX1_gather_22 rfl rfl ?_
        refine e_bipush (pc := 23) dX1_gather_23 rfl (by decide) ?_
        refine e_iastm (pc := 25) (mem2 := mset mv 20 k 60) dX1_gather_25 s_20 (by omega) rfl ?_
        refine e_iloadn (pc := 26) dX1_gather_26 rfl rfl ?_
        refine e_iloadn (pc := 27) dX1_gather_27 rfl rfl ?_
        refine e_icmp_eq (pc := 28) (tgt := 109) dX1_gather_28 rfl (fun h28 => ?_) (fun h28 => ?_)
        · skip
          refine e_iinc (pc := 109) (lo' := [(2, 16), (0, op), (0, (k : Int) + 1)]) dX1_gather_109 rfl (by omega) rfl (by decide) rfl ?_
          refine e_goto (pc := 112) (tgt := 12) dX1_gather_112 rfl ?_
          have zzF : isF (mem 18) (mem 16 5) op k = false := by unfold isF; simp; omega
          have zzK : isK (mem 18) (mem 16 5) op k = false := by unfold isK; simp; omega
          have zzl2 : mv 16 13 = ((cnt (isK (mem 18) (mem 16 5) op) (k + 1) : Nat) : Int) := by rw [zzl, cnt_s, zzK]; rfl
          exact Ev.to (ih12 _ (by omega) (k + 1) n (mset mv 20 k 60) (rfl) (by omega) (zzt) (zzl2) ((zzg.ms rfl)) (GI.none zzI zzF zzK)) rfl rfl rfl
        · skip
          refine e_aloadn (pc := 31) dX1_gather_31 rfl rfl ?_
          refine e_getr (pc := 32) (k := 18) dX1_gather_32 fX1_18 s_16 rfl (by decide) ?_
          refine e_iloadn (pc := 35) dX1_gather_35 rfl rfl ?_
          refine e_ialdv (pc := 36) (v := mem 18 k) dX1_gather_36 s_18 (by omega) (zzg 18 k rfl) ?_
          refine e_iconst (pc := 37) dX1_gather_37 (by decide) ?_
          refine e_icmp_eq (pc := 38) (tgt := 109) dX1_gather_38 rfl (fun h38 => ?_) (fun h38 => ?_)
          · skip
            refine e_iinc (pc := 109) (lo' := [(2, 16), (0, op), (0, (k : Int) + 1)]) dX1_gather_109 rfl (by omega) rfl (by decide) rfl ?_
            refine e_goto (pc := 112) (tgt := 12) dX1_gather_112 rfl ?_
            have zzF : isF (mem 18) (mem 16 5) op k = false := by unfold isF; simp; omega
            have zzK : isK (mem 18) (mem 16 5) op k = false := by unfold isK; simp; omega
            have zzl2 : mv 16 13 = ((cnt (isK (mem 18) (mem 16 5) op) (k + 1) : Nat) : Int) := by rw [zzl, cnt_s, zzK]; rfl
            exact Ev.to (ih12 _ (by omega) (k + 1) n (mset mv 20 k 60) (rfl) (by omega) (zzt) (zzl2) ((zzg.ms rfl)) (GI.none zzI zzF zzK)) rfl rfl rfl
          · skip
            refine e_aloadn (pc := 41) dX1_gather_41 rfl rfl ?_
            refine e_getiv (pc := 42) (v := mem 16 5) dX1_gather_42 fX1_57 s_16 rfl (by decide) (zzg 16 5 rfl) ?_
            refine e_iloadn (pc := 45) dX1_gather_45 rfl rfl ?_
            refine e_ishr (pc := 46) dX1_gather_46 ?_
            refine e_iconst (pc := 47) dX1_gather_47 (by decide) ?_
            refine e_iand (pc := 48) dX1_gather_48 ?_
            rw [show bAnd (bShr (mem 16 5) (k : Int)) 1 = bt (mem 16 5) k from bt_eq zzaw.1 (by omega) (by omega)]
            refine e_if_eq (pc := 49) (tgt := 55) dX1_gather_49 rfl (fun h49 => ?_) (fun h49 => ?_)
            · skip
              refine e_aloadn (pc := 55) dX1_gather_55 rfl rfl ?_
              refine e_getr (pc := 56) (k := 18) dX1_gather_56 fX1_18 s_16 rfl (by decide) ?_
              refine e_iloadn (pc := 59) dX1_gather_59 rfl rfl ?_
              refine e_ialdv (pc := 60) (v := mem 18 k) dX1_gather_60 s_18 (by omega) (zzg 18 k rfl) ?_
              refine e_iconst (pc := 61) dX1_gather_61 (by decide) ?_
              refine e_icmp_ne (pc := 62) (tgt := 88) dX1_gather_62 rfl (fun h62 => ?_) (fun h62 => ?_)
              · skip
                have zzF : isF (mem 18) (mem 16 5) op k = true := by unfold isF; simp; omega
                have zzK : isK (mem 18) (mem 16 5) op k = false := by unfold isK; simp; omega
                refine e_aloadn (pc := 88) dX1_gather_88 rfl rfl ?_
                refine e_getr (pc := 89) (k := 20) dX1_gather_89 fX1_24 s_16 rfl (by decide) ?_
                refine e_iloadn (pc := 92) dX1_gather_92 rfl rfl ?_
                refine e_aloadn (pc := 93) dX1_gather_93 rfl rfl ?_
                refine e_iloadn (pc := 94) dX1_gather_94 rfl rfl ?_
                have zzq1 : mv 18 = mem 18 := funext (fun j => zzg 18 j rfl)
                have zzq2 : mv 19 = mem 19 := funext (fun j => zzg 19 j rfl)
                have zzq3 : mv 17 0 = mem 17 0 := zzg 17 0 rfl
                have zzq4 : mv 16 4 = mem 16 4 := zzg 16 4 rfl
                have zzq5 : mv 9 = mem 9 := funext (fun j => zzg 9 j rfl)
                have zzG : Fr (scG 16) mem (mset mv 20 k 60) := (zzg.ms rfl)
                have zzM := t_firmMinute_16 G (mset mv 20 k 60) k (by omega) (CoOk.mv zzG hC) (EvOk16.mv zzG hE)
                rw [show firmV ((mset mv 20 k 60) 18) ((mset mv 20 k 60) 19) ((mset mv 20 k 60) 17 0) ((mset mv 20 k 60) 16 4) ((mset mv 20 k 60) 9) k = firmV (mem 18) (mem 19) (mem 17 0) (mem 16 4) (mem 9) k from by show firmV (mv 18) (mv 19) (mv 17 0) (mv 16 4) (mv 9) k = _; rw [zzq1, zzq2, zzq3, zzq4, zzq5]] at zzM
                refine e_callVr (pc := 95) (as := [(0, (k : Int))]) (st := [(0, (k : Int)), (2, 20)]) (zzM) dX1_gather_95 lX1_gather_82 rfl s_16 cn_1 rfl rfl ?_
                refine e_iastm (pc := 98) (mem2 := mset (mset mv 20 k 60) 20 k (firmV (mem 18) (mem 19) (mem 17 0) (mem 16 4) (mem 9) k)) dX1_gather_98 s_20 (by omega) rfl ?_
                refine e_aloadn (pc := 99) dX1_gather_99 rfl rfl ?_
                refine e_aloadn (pc := 100) dX1_gather_100 rfl rfl ?_
                refine e_getr (pc := 101) (k := 20) dX1_gather_101 fX1_24 s_16 rfl (by decide) ?_
                refine e_iloadn (pc := 104) dX1_gather_104 rfl rfl ?_
                refine e_ialdv (pc := 105) (v := (firmV (mem 18) (mem 19) (mem 17 0) (mem 16 4) (mem 9) k)) dX1_gather_105 s_20 (by omega) (mset_eq _ _ _ _) ?_
                refine e_callV (pc := 106) (as := [(0, (firmV (mem 18) (mem 19) (mem 17 0) (mem 16 4) (mem 9) k))]) (st := []) (t_enter_16 G (mset (mset mv 20 k 60) 20 k (firmV (mem 18) (mem 19) (mem 17 0) (mem 16 4) (mem 9) k)) n ((firmV (mem 18) (mem 19) (mem 17 0) (mem 16 4) (mem 9) k)) zzt (by omega) (fun _ => by omega) (by omega) zzI.2.1 zzI.2.2.1) dX1_gather_106 lX1_gather_86 rfl s_16 cn_1 rfl rfl (fun r_ m_ hq_ => ?_)
                obtain ⟨zzr, zzx0, zzx1⟩ := hq_
                subst zzr
                refine Ev.to (st' := []) ?_ rfl rfl rfl
                by_cases zz60 : 60 ≤ firmV (mem 18) (mem 19) (mem 17 0) (mem 16 4) (mem 9) k
                · have zzx := zzx0 zz60
                  subst zzx
                  refine e_iinc (pc := 109) (lo' := [(2, 16), (0, op), (0, (k : Int) + 1)]) dX1_gather_109 rfl (by omega) rfl (by decide) rfl ?_
                  refine e_goto (pc := 112) (tgt := 12) dX1_gather_112 rfl ?_
                  have zzI2 := GI.wnk zzI zzF zzK n (mv 21) (by have := zzI.1; omega) zzI.2.1 zzI.2.2.1 (fun t ht => by rw [if_neg (by omega)]; rfl)
                  have zzl2 : mv 16 13 = ((cnt (isK (mem 18) (mem 16 5) op) (k + 1) : Nat) : Int) := by rw [zzl, cnt_s, zzK]; rfl
                  exact Ev.to (ih12 _ (by omega) (k + 1) n (mset (mset mv 20 k 60) 20 k (firmV (mem 18) (mem 19) (mem 17 0) (mem 16 4) (mem 9) k)) (rfl) (by omega) (zzt) (zzl2) (((zzg.ms rfl).ms rfl)) (zzI2)) rfl rfl rfl
                · obtain ⟨f, rfl, zzIns⟩ := zzx1 (by omega)
                  refine e_iinc (pc := 109) (lo' := [(2, 16), (0, op), (0, (k : Int) + 1)]) dX1_gather_109 rfl (by omega) rfl (by decide) rfl ?_
                  refine e_goto (pc := 112) (tgt := 12) dX1_gather_112 rfl ?_
                  have zzI2 := GI.wnk zzI zzF zzK (n + 1) f (by have := zzI.1; omega) zzIns.1 zzIns.2.1 (fun t ht => zzIns.2.2.1 t)
                  have zzl2 : mv 16 13 = ((cnt (isK (mem 18) (mem 16 5) op) (k + 1) : Nat) : Int) := by rw [zzl, cnt_s, zzK]; rfl
                  exact Ev.to (ih12 _ (by omega) (k + 1) (n + 1) (mset (rset (mset (mset mv 20 k 60) 20 k (firmV (mem 18) (mem 19) (mem 17 0) (mem 16 4) (mem 9) k)) 21 f) 16 9 ((n : Int) + 1)) (rfl) (by omega) (rfl) (zzl2) (((((zzg.ms rfl).ms rfl).rs (fun _ => rfl)).ms rfl)) (zzI2)) rfl rfl rfl
              · skip
                have zzK : isK (mem 18) (mem 16 5) op k = true := by unfold isK; simp; omega
                refine e_aloadn (pc := 65) dX1_gather_65 rfl rfl ?_
                refine e_getr (pc := 66) (k := 23) dX1_gather_66 fX1_33 s_16 rfl (by decide) ?_
                refine e_aloadn (pc := 69) dX1_gather_69 rfl rfl ?_
                refine e_getiv (pc := 70) (v := ((cnt (isK (mem 18) (mem 16 5) op) k : Nat) : Int)) dX1_gather_70 fX1_79 s_16 rfl (by decide) (zzl) ?_
                refine e_iloadn (pc := 73) dX1_gather_73 rfl rfl ?_
                refine e_iastm (pc := 74) (mem2 := mset (mset mv 20 k 60) 23 (cnt (isK (mem 18) (mem 16 5) op) k) (k : Int)) dX1_gather_74 s_23 (by omega) rfl ?_
                refine e_aloadn (pc := 75) dX1_gather_75 rfl rfl ?_
                refine e_dup (pc := 76) dX1_gather_76 rfl ?_
                refine e_getiv (pc := 77) (v := ((cnt (isK (mem 18) (mem 16 5) op) k : Nat) : Int)) dX1_gather_77 fX1_79 s_16 rfl (by decide) (zzl) ?_
                refine e_iconst (pc := 80) dX1_gather_80 (by decide) ?_
                refine e_iaddn (pc := 81) dX1_gather_81 (by omega) ?_
                refine e_putI (pc := 82) (mem2 := mset (mset (mset mv 20 k 60) 23 (cnt (isK (mem 18) (mem 16 5) op) k) (k : Int)) 16 13 (((cnt (isK (mem 18) (mem 16 5) op) k : Nat) : Int) + 1)) dX1_gather_82 fX1_79 s_16 rfl (by decide) pw_1_13 rfl ?_
                refine e_goto (pc := 85) (tgt := 109) dX1_gather_85 rfl ?_
                refine e_iinc (pc := 109) (lo' := [(2, 16), (0, op), (0, (k : Int) + 1)]) dX1_gather_109 rfl (by omega) rfl (by decide) rfl ?_
                refine e_goto (pc := 112) (tgt := 12) dX1_gather_112 rfl ?_
                have zzF : isF (mem 18) (mem 16 5) op k = false := by unfold isF; simp; omega
                have zzl2 : ((cnt (isK (mem 18) (mem 16 5) op) k : Nat) : Int) + 1 = ((cnt (isK (mem 18) (mem 16 5) op) (k + 1) : Nat) : Int) := by rw [cnt_s, zzK]; rfl
                exact Ev.to (ih12 _ (by omega) (k + 1) n (mset (mset (mset mv 20 k 60) 23 (cnt (isK (mem 18) (mem 16 5) op) k) (k : Int)) 16 13 (((cnt (isK (mem 18) (mem 16 5) op) k : Nat) : Int) + 1)) (rfl) (by omega) (zzt) (zzl2) ((((zzg.ms rfl).ms rfl).ms rfl)) (GI.look zzI zzF zzK)) rfl rfl rfl
            · skip
              refine e_goto (pc := 52) (tgt := 109) dX1_gather_52 rfl ?_
              refine e_iinc (pc := 109) (lo' := [(2, 16), (0, op), (0, (k : Int) + 1)]) dX1_gather_109 rfl (by omega) rfl (by decide) rfl ?_
              refine e_goto (pc := 112) (tgt := 12) dX1_gather_112 rfl ?_
              have zzF : isF (mem 18) (mem 16 5) op k = false := by unfold isF; simp; omega
              have zzK : isK (mem 18) (mem 16 5) op k = false := by unfold isK; simp; omega
              have zzl2 : mv 16 13 = ((cnt (isK (mem 18) (mem 16 5) op) (k + 1) : Nat) : Int) := by rw [zzl, cnt_s, zzK]; rfl
              exact Ev.to (ih12 _ (by omega) (k + 1) n (mset mv 20 k 60) (rfl) (by omega) (zzt) (zzl2) ((zzg.ms rfl)) (GI.none zzI zzF zzK)) rfl rfl rfl
  exact Ev.to (L12 _ 0 0 (mset (mset mem 16 9 0) 16 13 0) (rfl) (by omega) (rfl) (rfl) (((Fr.rf.ms rfl).ms rfl)) (⟨Nat.le_refl _, fun i j _ h => by omega, fun j h => by omega, fun t _ => rfl, fun c h => by omega, fun c h => by omega⟩)) rfl rfl rfl

theorem EvOk25.mv {mem mv : Mem} (zzg : Fr (scG 25) mem mv) (h : EvOk25 mem) : EvOk25 mv := by
  unfold EvOk25 at *
  rw [show mv 26 = mem 26 from funext (fun j => zzg 26 j rfl), show mv 27 = mem 27 from funext (fun j => zzg 27 j rfl), show mv 28 = mem 28 from funext (fun j => zzg 28 j rfl), show mv 25 4 = mem 25 4 from zzg 25 4 rfl, show mv 25 5 = mem 25 5 from zzg 25 5 rfl, show mv 2 = mem 2 from funext (fun j => zzg 2 j rfl), show mv 3 = mem 3 from funext (fun j => zzg 3 j rfl)]
  exact h
theorem t_gather_25 (G : Gm) (mem : Mem) (op : Int) (hC : CoOk mem) (hE : EvOk25 mem) : Con G mX1_gather [(2, 25), (0, op)] mem (fun r m' => r = none ∧ Fr (scG 25) mem m' ∧ ∃ n : Nat, m' 25 11 = (n : Int) ∧ m' 25 13 = ((cnt (isK (mem 27) (mem 25 5) op) 8 : Nat) : Int) ∧ GI (m' 31) (m' 32) (m' 29) n (isF (mem 27) (mem 25 5) op) (isK (mem 27) (mem 25 5) op) (firmV (mem 27) (mem 28) (mem 26 0) (mem 25 4) (mem 9)) 8) := by
  refine Con.of (lo := [(2, 25), (0, op), (3, 0)]) (by decide +kernel) (Nat.le_of_ble_eq_true rfl) rfl ?_
  generalize hQ_ : (fun r m' => r = none ∧ Fr (scG 25) mem m' ∧ ∃ n : Nat, m' 25 11 = (n : Int) ∧ m' 25 13 = ((cnt (isK (mem 27) (mem 25 5) op) 8 : Nat) : Int) ∧ GI (m' 31) (m' 32) (m' 29) n (isF (mem 27) (mem 25 5) op) (isK (mem 27) (mem 25 5) op) (firmV (mem 27) (mem 28) (mem 26 0) (mem 25 4) (mem 9)) 8 : Option AV → Mem → Prop) = Q_
  have hE2 := hE.2
  have zzaw := hE.1.2.2.2.2
  have zztd := hE.1.1
  refine e_aloadn (pc := 0) dX1_gather_0 rfl rfl ?_
  refine e_iconst (pc := 1) dX1_gather_1 (by decide) ?_
  refine e_putI (pc := 2) (mem2 := mset mem 25 9 0) dX1_gather_2 fX1_76 s_25 rfl (by decide) pw_1_9 rfl ?_
  refine e_aloadn (pc := 5) dX1_gather_5 rfl rfl ?_
  refine e_iconst (pc := 6) dX1_gather_6 (by decide) ?_
  refine e_putI (pc := 7) (mem2 := mset (mset mem 25 9 0) 25 13 0) dX1_gather_7 fX1_79 s_25 rfl (by decide) pw_1_13 rfl ?_
  refine e_iconst (pc := 10) dX1_gather_10 (by decide) ?_
  refine e_istoren (pc := 11) (lo' := [(2, 25), (0, op), (0, 0)]) dX1_gather_11 rfl rfl (by decide) rfl ?_
  have L12 : ∀ (n_ : Nat) (k : Nat) (n : Nat) (mv : Mem), 8 - k = n_ → (k ≤ 8) → (mv 25 9 = (n : Int)) → (mv 25 13 = ((cnt (isK (mem 27) (mem 25 5) op) k : Nat) : Int)) → (Fr (scG 25) mem mv) → (GI (mv 30) (mv 32) (mv 29) n (isF (mem 27) (mem 25 5) op) (isK (mem 27) (mem 25 5) op) (firmV (mem 27) (mem 28) (mem 26 0) (mem 25 4) (mem 9)) k) → Ev G mX1_gather Q_ 12 [(2, 25), (0, op), (0, (k : Int))] [] mv := by
    intro n_
    induction n_ using Nat.strongRecOn with
    | ind n_ ih12 =>
      intro k n mv hn_ zzk zzt zzl zzg zzI
      refine e_iloadn (pc := 12) dX1_gather_12 rfl rfl ?_
      refine e_bipush (pc := 13) dX1_gather_13 rfl (by decide) ?_
      refine e_icmp_ge (pc := 15) (tgt := 115) dX1_gather_15 rfl (fun h15 => ?_) (fun h15 => ?_)
      · skip
        refine e_aloadn (pc := 115) dX1_gather_115 rfl rfl ?_
        refine e_getr (pc := 116) (k := 30) dX1_gather_116 fX1_27 s_25 rfl (by decide) ?_
        refine e_iconst (pc := 119) dX1_gather_119 (by decide) ?_
        refine e_aloadn (pc := 120) dX1_gather_120 rfl rfl ?_
        refine e_getr (pc := 121) (k := 31) dX1_gather_121 fX1_30 s_25 rfl (by decide) ?_
        refine e_iconst (pc := 124) dX1_gather_124 (by decide) ?_
        refine e_bipush (pc := 125) dX1_gather_125 rfl (by decide) ?_
        refine e_copy (pc := 127) dX1_gather_127 lX1_cp47 (by decide) rfl s_30 s_31 (by decide) (by decide) ?_
        refine e_aloadn (pc := 130) dX1_gather_130 rfl rfl ?_
        refine e_aloadn (pc := 131) dX1_gather_131 rfl rfl ?_
        refine e_getiv (pc := 132) (v := (n : Int)) dX1_gather_132 fX1_76 s_25 rfl (by decide) (zzt) ?_
        refine e_putI (pc := 135) (mem2 := mset (rset mv 31 (cpy (mv 30) (mv 31) 0 0 8)) 25 11 (n : Int)) dX1_gather_135 fX1_89 s_25 rfl (by decide) pw_1_11 rfl ?_
        have zz8 : k = 8 := by omega
        subst zz8
        obtain ⟨zi1, zi2, zi3, zi4, zi5, zi6⟩ := zzI
        have zze : ∀ j, j < n → cpy (mv 30) (mv 31) 0 0 8 j = mv 30 j := by
          intro j hj
          unfold cpy
          rw [if_pos ⟨by omega, by omega⟩]
          congr 1; omega
        have zzfin : GI (cpy (mv 30) (mv 31) 0 0 8) (mv 32) (mv 29) n (isF (mem 27) (mem 25 5) op) (isK (mem 27) (mem 25 5) op) (firmV (mem 27) (mem 28) (mem 26 0) (mem 25 4) (mem 9)) 8 := ⟨zi1, zi2.congr zze, fun j hj => by rw [zze j hj]; exact zi3 j hj, fun t ht => by rw [cnO_congr zze]; exact zi4 t ht, zi5, zi6⟩
        exact e_vret (pc := 138) dX1_gather_138 rfl (by rw [← hQ_]; exact ⟨rfl, ((zzg.rs (fun _ => rfl)).ms rfl), n, rfl, zzl, zzfin⟩)
      · skip
        have zzn := zzI.1
        have zzE := hE2 k (by omega)
        have zzC := hC k (by omega)
        have zzcl : cnt (isK (mem 27) (mem 25 5) op) k ≤ k := cnt_le _ _
        have zzfb := firmV_bd (kind := mem 27) (aim := mem 28) (told := mem 26 0) (late := mem 25 4) (dl := mem 9) (c := k) (by omega) (by omega) (by omega)
        have zzbt := bt_01 (mem 25 5) k
        refine e_aloadn (pc := 18) dX1_gather_18 rfl rfl ?_
        refine e_getr (pc := 19) (k := 29) dX1_gather_19 fX1_24 s_25 rfl (by decide) ?_
        refine e_iloadn (pc := 22) dX1_gather_22 rfl rfl ?_
        refine e_bipush (pc := 23) dX1_gather_23 rfl (by decide) ?_
        refine e_iastm (pc := 25) (mem2 := mset mv 29 k 60) dX1_gather_25 s_29 (by omega) rfl ?_
        refine e_iloadn (pc := 26) dX1_gather_26 rfl rfl ?_
        refine e_iloadn (pc := 27) dX1_gather_27 rfl rfl ?_
        refine e_icmp_eq (pc := 28) (tgt := 109) dX1_gather_28 rfl (fun h28 => ?_) (fun h28 => ?_)
        · skip
          refine e_iinc (pc := 109) (lo' := [(2, 25), (0, op), (0, (k : Int) + 1)]) dX1_gather_109 rfl (by omega) rfl (by decide) rfl ?_
          refine e_goto (pc := 112) (tgt := 12) dX1_gather_112 rfl ?_
          have zzF : isF (mem 27) (mem 25 5) op k = false := by unfold isF; simp; omega
          have zzK : isK (mem 27) (mem 25 5) op k = false := by unfold isK; simp; omega
          have zzl2 : mv 25 13 = ((cnt (isK (mem 27) (mem 25 5) op) (k + 1) : Nat) : Int) := by rw [zzl, cnt_s, zzK]; rfl
          exact Ev.to (ih12 _ (by omega) (k + 1) n (mset mv 29 k 60) (rfl) (by omega) (zzt) (zzl2) ((zzg.ms rfl)) (GI.none zzI zzF zzK)) rfl rfl rfl
        · skip
          refine e_aloadn (pc := 31) dX1_gather_31 rfl rfl ?_
          refine e_getr (pc := 32) (k := 27) dX1_gather_32 fX1_18 s_25 rfl (by decide) ?_
          refine e_iloadn (pc := 35) dX1_gather_35 rfl rfl ?_
          refine e_ialdv (pc := 36) (v := mem 27 k) dX1_gather_36 s_27 (by omega) (zzg 27 k rfl) ?_
          refine e_iconst (pc := 37) dX1_gather_37 (by decide) ?_
          refine e_icmp_eq (pc := 38) (tgt := 109) dX1_gather_38 rfl (fun h38 => ?_) (fun h38 => ?_)
          · skip
            refine e_iinc (pc := 109) (lo' := [(2, 25), (0, op), (0, (k : Int) + 1)]) dX1_gather_109 rfl (by omega) rfl (by decide) rfl ?_
            refine e_goto (pc := 112) (tgt := 12) dX1_gather_112 rfl ?_
            have zzF : isF (mem 27) (mem 25 5) op k = false := by unfold isF; simp; omega
            have zzK : isK (mem 27) (mem 25 5) op k = false := by unfold isK; simp; omega
            have zzl2 : mv 25 13 = ((cnt (isK (mem 27) (mem 25 5) op) (k + 1) : Nat) : Int) := by rw [zzl, cnt_s, zzK]; rfl
            exact Ev.to (ih12 _ (by omega) (k + 1) n (mset mv 29 k 60) (rfl) (by omega) (zzt) (zzl2) ((zzg.ms rfl)) (GI.none zzI zzF zzK)) rfl rfl rfl
          · skip
            refine e_aloadn (pc := 41) dX1_gather_41 rfl rfl ?_
            refine e_getiv (pc := 42) (v := mem 25 5) dX1_gather_42 fX1_57 s_25 rfl (by decide) (zzg 25 5 rfl) ?_
            refine e_iloadn (pc := 45) dX1_gather_45 rfl rfl ?_
            refine e_ishr (pc := 46) dX1_gather_46 ?_
            refine e_iconst (pc := 47) dX1_gather_47 (by decide) ?_
            refine e_iand (pc := 48) dX1_gather_48 ?_
            rw [show bAnd (bShr (mem 25 5) (k : Int)) 1 = bt (mem 25 5) k from bt_eq zzaw.1 (by omega) (by omega)]
            refine e_if_eq (pc := 49) (tgt := 55) dX1_gather_49 rfl (fun h49 => ?_) (fun h49 => ?_)
            · skip
              refine e_aloadn (pc := 55) dX1_gather_55 rfl rfl ?_
              refine e_getr (pc := 56) (k := 27) dX1_gather_56 fX1_18 s_25 rfl (by decide) ?_
              refine e_iloadn (pc := 59) dX1_gather_59 rfl rfl ?_
              refine e_ialdv (pc := 60) (v := mem 27 k) dX1_gather_60 s_27 (by omega) (zzg 27 k rfl) ?_
              refine e_iconst (pc := 61) dX1_gather_61 (by decide) ?_
              refine e_icmp_ne (pc := 62) (tgt := 88) dX1_gather_62 rfl (fun h62 => ?_) (fun h62 => ?_)
              · skip
                have zzF : isF (mem 27) (mem 25 5) op k = true := by unfold isF; simp; omega
                have zzK : isK (mem 27) (mem 25 5) op k = false := by unfold isK; simp; omega
                refine e_aloadn (pc := 88) dX1_gather_88 rfl rfl ?_
                refine e_getr (pc := 89) (k := 29) dX1_gather_89 fX1_24 s_25 rfl (by decide) ?_
                refine e_iloadn (pc := 92) dX1_gather_92 rfl rfl ?_
                refine e_aloadn (pc := 93) dX1_gather_93 rfl rfl ?_
                refine e_iloadn (pc := 94) dX1_gather_94 rfl rfl ?_
                have zzq1 : mv 27 = mem 27 := funext (fun j => zzg 27 j rfl)
                have zzq2 : mv 28 = mem 28 := funext (fun j => zzg 28 j rfl)
                have zzq3 : mv 26 0 = mem 26 0 := zzg 26 0 rfl
                have zzq4 : mv 25 4 = mem 25 4 := zzg 25 4 rfl
                have zzq5 : mv 9 = mem 9 := funext (fun j => zzg 9 j rfl)
                have zzG : Fr (scG 25) mem (mset mv 29 k 60) := (zzg.ms rfl)
                have zzM := t_firmMinute_25 G (mset mv 29 k 60) k (by omega) (CoOk.mv zzG hC) (EvOk25.mv zzG hE)
                rw [show firmV ((mset mv 29 k 60) 27) ((mset mv 29 k 60) 28) ((mset mv 29 k 60) 26 0) ((mset mv 29 k 60) 25 4) ((mset mv 29 k 60) 9) k = firmV (mem 27) (mem 28) (mem 26 0) (mem 25 4) (mem 9) k from by show firmV (mv 27) (mv 28) (mv 26 0) (mv 25 4) (mv 9) k = _; rw [zzq1, zzq2, zzq3, zzq4, zzq5]] at zzM
                refine e_callVr (pc := 95) (as := [(0, (k : Int))]) (st := [(0, (k : Int)), (2, 29)]) (zzM) dX1_gather_95 lX1_gather_82 rfl s_25 cn_1 rfl rfl ?_
                refine e_iastm (pc := 98) (mem2 := mset (mset mv 29 k 60) 29 k (firmV (mem 27) (mem 28) (mem 26 0) (mem 25 4) (mem 9) k)) dX1_gather_98 s_29 (by omega) rfl ?_
                refine e_aloadn (pc := 99) dX1_gather_99 rfl rfl ?_
                refine e_aloadn (pc := 100) dX1_gather_100 rfl rfl ?_
                refine e_getr (pc := 101) (k := 29) dX1_gather_101 fX1_24 s_25 rfl (by decide) ?_
                refine e_iloadn (pc := 104) dX1_gather_104 rfl rfl ?_
                refine e_ialdv (pc := 105) (v := (firmV (mem 27) (mem 28) (mem 26 0) (mem 25 4) (mem 9) k)) dX1_gather_105 s_29 (by omega) (mset_eq _ _ _ _) ?_
                refine e_callV (pc := 106) (as := [(0, (firmV (mem 27) (mem 28) (mem 26 0) (mem 25 4) (mem 9) k))]) (st := []) (t_enter_25 G (mset (mset mv 29 k 60) 29 k (firmV (mem 27) (mem 28) (mem 26 0) (mem 25 4) (mem 9) k)) n ((firmV (mem 27) (mem 28) (mem 26 0) (mem 25 4) (mem 9) k)) zzt (by omega) (fun _ => by omega) (by omega) zzI.2.1 zzI.2.2.1) dX1_gather_106 lX1_gather_86 rfl s_25 cn_1 rfl rfl (fun r_ m_ hq_ => ?_)
                obtain ⟨zzr, zzx0, zzx1⟩ := hq_
                subst zzr
                refine Ev.to (st' := []) ?_ rfl rfl rfl
                by_cases zz60 : 60 ≤ firmV (mem 27) (mem 28) (mem 26 0) (mem 25 4) (mem 9) k
                · have zzx := zzx0 zz60
                  subst zzx
                  refine e_iinc (pc := 109) (lo' := [(2, 25), (0, op), (0, (k : Int) + 1)]) dX1_gather_109 rfl (by omega) rfl (by decide) rfl ?_
                  refine e_goto (pc := 112) (tgt := 12) dX1_gather_112 rfl ?_
                  have zzI2 := GI.wnk zzI zzF zzK n (mv 30) (by have := zzI.1; omega) zzI.2.1 zzI.2.2.1 (fun t ht => by rw [if_neg (by omega)]; rfl)
                  have zzl2 : mv 25 13 = ((cnt (isK (mem 27) (mem 25 5) op) (k + 1) : Nat) : Int) := by rw [zzl, cnt_s, zzK]; rfl
                  exact Ev.to (ih12 _ (by omega) (k + 1) n (mset (mset mv 29 k 60) 29 k (firmV (mem 27) (mem 28) (mem 26 0) (mem 25 4) (mem 9) k)) (rfl) (by omega) (zzt) (zzl2) (((zzg.ms rfl).ms rfl)) (zzI2)) rfl rfl rfl
                · obtain ⟨f, rfl, zzIns⟩ := zzx1 (by omega)
                  refine e_iinc (pc := 109) (lo' := [(2, 25), (0, op), (0, (k : Int) + 1)]) dX1_gather_109 rfl (by omega) rfl (by decide) rfl ?_
                  refine e_goto (pc := 112) (tgt := 12) dX1_gather_112 rfl ?_
                  have zzI2 := GI.wnk zzI zzF zzK (n + 1) f (by have := zzI.1; omega) zzIns.1 zzIns.2.1 (fun t ht => zzIns.2.2.1 t)
                  have zzl2 : mv 25 13 = ((cnt (isK (mem 27) (mem 25 5) op) (k + 1) : Nat) : Int) := by rw [zzl, cnt_s, zzK]; rfl
                  exact Ev.to (ih12 _ (by omega) (k + 1) (n + 1) (mset (rset (mset (mset mv 29 k 60) 29 k (firmV (mem 27) (mem 28) (mem 26 0) (mem 25 4) (mem 9) k)) 30 f) 25 9 ((n : Int) + 1)) (rfl) (by omega) (rfl) (zzl2) (((((zzg.ms rfl).ms rfl).rs (fun _ => rfl)).ms rfl)) (zzI2)) rfl rfl rfl
              · skip
                have zzK : isK (mem 27) (mem 25 5) op k = true := by unfold isK; simp; omega
                refine e_aloadn (pc := 65) dX1_gather_65 rfl rfl ?_
                refine e_getr (pc := 66) (k := 32) dX1_gather_66 fX1_33 s_25 rfl (by decide) ?_
                refine e_aloadn (pc := 69) dX1_gather_69 rfl rfl ?_
                refine e_getiv (pc := 70) (v := ((cnt (isK (mem 27) (mem 25 5) op) k : Nat) : Int)) dX1_gather_70 fX1_79 s_25 rfl (by decide) (zzl) ?_
                refine e_iloadn (pc := 73) dX1_gather_73 rfl rfl ?_
                refine e_iastm (pc := 74) (mem2 := mset (mset mv 29 k 60) 32 (cnt (isK (mem 27) (mem 25 5) op) k) (k : Int)) dX1_gather_74 s_32 (by omega) rfl ?_
                refine e_aloadn (pc := 75) dX1_gather_75 rfl rfl ?_
                refine e_dup (pc := 76) dX1_gather_76 rfl ?_
                refine e_getiv (pc := 77) (v := ((cnt (isK (mem 27) (mem 25 5) op) k : Nat) : Int)) dX1_gather_77 fX1_79 s_25 rfl (by decide) (zzl) ?_
                refine e_iconst (pc := 80) dX1_gather_80 (by decide) ?_
                refine e_iaddn (pc := 81) dX1_gather_81 (by omega) ?_
                refine e_putI (pc := 82) (mem2 := mset (mset (mset mv 29 k 60) 32 (cnt (isK (mem 27) (mem 25 5) op) k) (k : Int)) 25 13 (((cnt (isK (mem 27) (mem 25 5) op) k : Nat) : Int) + 1)) dX1_gather_82 fX1_79 s_25 rfl (by decide) pw_1_13 rfl ?_
                refine e_goto (pc := 85) (tgt := 109) dX1_gather_85 rfl ?_
                refine e_iinc (pc := 109) (lo' := [(2, 25), (0, op), (0, (k : Int) + 1)]) dX1_gather_109 rfl (by omega) rfl (by decide) rfl ?_
                refine e_goto (pc := 112) (tgt := 12) dX1_gather_112 rfl ?_
                have zzF : isF (mem 27) (mem 25 5) op k = false := by unfold isF; simp; omega
                have zzl2 : ((cnt (isK (mem 27) (mem 25 5) op) k : Nat) : Int) + 1 = ((cnt (isK (mem 27) (mem 25 5) op) (k + 1) : Nat) : Int) := by rw [cnt_s, zzK]; rfl
                exact Ev.to (ih12 _ (by omega) (k + 1) n (mset (mset (mset mv 29 k 60) 32 (cnt (isK (mem 27) (mem 25 5) op) k) (k : Int)) 25 13 (((cnt (isK (mem 27) (mem 25 5) op) k : Nat) : Int) + 1)) (rfl) (by omega) (zzt) (zzl2) ((((zzg.ms rfl).ms rfl).ms rfl)) (GI.look zzI zzF zzK)) rfl rfl rfl
            · skip
              refine e_goto (pc := 52) (tgt := 109) dX1_gather_52 rfl ?_
              refine e_iinc (pc := 109) (lo' := [(2, 25), (0, op), (0, (k : Int) + 1)]) dX1_gather_109 rfl (by omega) rfl (by decide) rfl ?_
              refine e_goto (pc := 112) (tgt := 12) dX1_gather_112 rfl ?_
              have zzF : isF (mem 27) (mem 25 5) op k = false := by unfold isF; simp; omega
              have zzK : isK (mem 27) (mem 25 5) op k = false := by unfold isK; simp; omega
              have zzl2 : mv 25 13 = ((cnt (isK (mem 27) (mem 25 5) op) (k + 1) : Nat) : Int) := by rw [zzl, cnt_s, zzK]; rfl
              exact Ev.to (ih12 _ (by omega) (k + 1) n (mset mv 29 k 60) (rfl) (by omega) (zzt) (zzl2) ((zzg.ms rfl)) (GI.none zzI zzF zzK)) rfl rfl rfl
  exact Ev.to (L12 _ 0 0 (mset (mset mem 25 9 0) 25 13 0) (rfl) (by omega) (rfl) (rfl) (((Fr.rf.ms rfl).ms rfl)) (⟨Nat.le_refl _, fun i j _ h => by omega, fun j h => by omega, fun t _ => rfl, fun c h => by omega, fun c h => by omega⟩)) rfl rfl rfl
