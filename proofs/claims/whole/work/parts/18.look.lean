def scL (e c j : Nat) : Bool := c == e + 4 || c == e + 5 || (c == e && j == 9)
def sc1 (e c j : Nat) : Bool := c == e + 4

theorem t_callLookers_16 (G : Gm) (mem : Mem) (n nl : Nat) (L : Nat → Nat) (lk : Nat → Bool) (hn : mem 16 9 = (n : Int)) (hn8 : n ≤ 8) (hs : Srt (mem 21) n) (hr : ∀ j, j < n → 0 ≤ mem 21 j ∧ mem 21 j < 60) (hnl : mem 16 13 = (nl : Int)) (hLm : ∀ j, j < nl → mem 23 j = (L j : Int)) (hL : LkOk nl L lk (mem 2) (mem 3)) (hwr : ∀ c, c < 8 → 0 ≤ mem 20 c ∧ mem 20 c ≤ 60) (hcnt : ∀ t, t < 60 → cnO (mem 21) n t = cnO (fun c => if lk c then 60 else mem 20 c) 8 t) : Con G mX1_callLookers [(2, 16)] mem (fun r m' => r = none ∧ Fr (scL 16) mem m' ∧ ∃ n' : Nat, m' 16 9 = (n' : Int) ∧ n' ≤ 8 ∧ Srt (m' 21) n' ∧ (∀ j, j < n' → 0 ≤ m' 21 j ∧ m' 21 j < 60) ∧ (∀ t, t < 60 → cnO (m' 21) n' t = cnO (m' 20) 8 t) ∧ IsCome (mem 20) lk (mem 2) (mem 3) (m' 20)) := by
  refine Con.of (lo := [(2, 16), (3, 0), (3, 0), (3, 0), (3, 0)]) (by decide +kernel) (Nat.le_of_ble_eq_true rfl) rfl ?_
  generalize hQ_ : (fun r m' => r = none ∧ Fr (scL 16) mem m' ∧ ∃ n' : Nat, m' 16 9 = (n' : Int) ∧ n' ≤ 8 ∧ Srt (m' 21) n' ∧ (∀ j, j < n' → 0 ≤ m' 21 j ∧ m' 21 j < 60) ∧ (∀ t, t < 60 → cnO (m' 21) n' t = cnO (m' 20) 8 t) ∧ IsCome (mem 20) lk (mem 2) (mem 3) (m' 20) : Option AV → Mem → Prop) = Q_
  refine e_iconst (pc := 0) dX1_callLookers_0 (by decide) ?_
  refine e_istoren (pc := 1) (lo' := [(2, 16), (0, 0), (3, 0), (3, 0), (3, 0)]) dX1_callLookers_1 rfl rfl (by decide) rfl ?_
  have L2 : ∀ (n_ : Nat) (k : Nat) (mu : Mem), 8 - k = n_ → (k ≤ nl) → (Fr (sc1 16) mem mu) → (∀ i, i < k → mu 20 (L i) = 60) → (∀ c, (∀ i, i < k → L i ≠ c) → mu 20 c = mem 20 c) → Ev G mX1_callLookers Q_ 2 [(2, 16), (0, (k : Int)), (3, 0), (3, 0), (3, 0)] [] mu := by
    intro n_
    induction n_ using Nat.strongRecOn with
    | ind n_ ih2 =>
      intro k mu hn_ zzk zzf zza zzb
      have zzn := hL.1
      refine e_iloadn (pc := 2) dX1_callLookers_2 rfl rfl ?_
      refine e_aloadn (pc := 3) dX1_callLookers_3 rfl rfl ?_
      refine e_getiv (pc := 4) (v := (nl : Int)) dX1_callLookers_4 fX1_79 s_16 rfl (by decide) ((zzf 16 13 rfl).trans hnl) ?_
      refine e_icmp_ge (pc := 7) (tgt := 35) dX1_callLookers_7 rfl (fun h7 => ?_) (fun h7 => ?_)
      · skip
        refine e_iconst (pc := 35) dX1_callLookers_35 (by decide) ?_
        refine e_istoren (pc := 36) (lo' := [(2, 16), (0, 0), (3, 0), (3, 0), (3, 0)]) dX1_callLookers_36 rfl rfl (by decide) rfl ?_
        have L37 : ∀ (n_ : Nat) (p : Nat) (m : Nat) (mv : Mem), 8 - p = n_ → (p ≤ m) → (mv 16 9 = (m : Int)) → (Fr (scL 16) mem mv) → (CLI (mv 21) (mv 20) m (mem 20) nl L lk (mem 2) (mem 3) p 0) → Ev G mX1_callLookers Q_ 37 [(2, 16), (0, (p : Int)), (3, 0), (3, 0), (3, 0)] [] mv := by
          intro n_
          induction n_ using Nat.strongRecOn with
          | ind n_ ih37 =>
            intro p m mv hn_ zzp zzt zzg zzI
            refine e_iloadn (pc := 37) dX1_callLookers_37 rfl rfl ?_
            refine e_aloadn (pc := 38) dX1_callLookers_38 rfl rfl ?_
            refine e_getiv (pc := 39) (v := (m : Int)) dX1_callLookers_39 fX1_76 s_16 rfl (by decide) (zzt) ?_
            refine e_icmp_ge (pc := 42) (tgt := 140) dX1_callLookers_42 rfl (fun h42 => ?_) (fun h42 => ?_)
            · skip
              have zze : IsCome (mem 20) lk (mem 2) (mem 3) (mv 20) := CLI.ends (by rw [show p = m by omega] at zzI; exact zzI) hL
              exact e_vret (pc := 140) dX1_callLookers_140 rfl (by rw [← hQ_]; exact ⟨rfl, zzg, m, zzt, zzI.1, zzI.2.1, zzI.2.2.1, zzI.2.2.2.1, zze⟩)
            · skip
              refine e_iloadn (pc := 45) dX1_callLookers_45 rfl rfl ?_
              refine e_bipush (pc := 46) dX1_callLookers_46 rfl (by decide) ?_
              refine e_icmp_ge (pc := 48) (tgt := 140) dX1_callLookers_48 rfl (fun h48 => ?_) (fun h48 => ?_)
              · skip
                exfalso; have := zzI.1; omega
              · skip
                refine e_iconst (pc := 51) dX1_callLookers_51 (by decide) ?_
                refine e_istoren (pc := 52) (lo' := [(2, 16), (0, (p : Int)), (0, 0), (3, 0), (3, 0)]) dX1_callLookers_52 rfl rfl (by decide) rfl ?_
                have L53 : ∀ (n_ : Nat) (i : Nat) (m : Nat) (mv : Mem), 8 - i = n_ → (i ≤ nl) → (p < m) → (mv 16 9 = (m : Int)) → (Fr (scL 16) mem mv) → (CLI (mv 21) (mv 20) m (mem 20) nl L lk (mem 2) (mem 3) p i) → Ev G mX1_callLookers Q_ 53 [(2, 16), (0, (p : Int)), (0, (i : Int)), (3, 0), (3, 0)] [] mv := by
                  intro n_
                  induction n_ using Nat.strongRecOn with
                  | ind n_ ih53 =>
                    intro i m mv hn_ zzi zzq zzt zzg zzJ
                    have zzn := hL.1
                    have zzm8 := zzJ.1
                    refine e_iloadn (pc := 53) dX1_callLookers_53 rfl rfl ?_
                    refine e_aloadn (pc := 54) dX1_callLookers_54 rfl rfl ?_
                    refine e_getiv (pc := 55) (v := (nl : Int)) dX1_callLookers_55 fX1_79 s_16 rfl (by decide) ((zzg 16 13 rfl).trans hnl) ?_
                    refine e_icmp_ge (pc := 58) (tgt := 134) dX1_callLookers_58 rfl (fun h58 => ?_) (fun h58 => ?_)
                    · skip
                      have zzJ2 := zzJ
                      refine e_iinc (pc := 134) (lo' := [(2, 16), (0, (p : Int) + 1), (0, (i : Int)), (3, 0), (3, 0)]) dX1_callLookers_134 rfl (by omega) rfl (by decide) rfl ?_
                      refine e_goto (pc := 137) (tgt := 37) dX1_callLookers_137 rfl ?_
                      refine Ev.fgt [2] ?_
                      exact Ev.to (ih37 _ (by omega) (p + 1) m mv (rfl) (by omega) (zzt) (zzg) (CLI.next (by rw [show i = nl by omega] at zzJ2; exact zzJ2))) rfl rfl rfl
                    · skip
                      refine e_iloadn (pc := 61) dX1_callLookers_61 rfl rfl ?_
                      refine e_bipush (pc := 62) dX1_callLookers_62 rfl (by decide) ?_
                      refine e_icmp_ge (pc := 64) (tgt := 134) dX1_callLookers_64 rfl (fun h64 => ?_) (fun h64 => ?_)
                      · skip
                        exfalso; omega
                      · skip
                        have zzl := hL.2.1 i (by omega)
                        have zzo := zzJ.2.2.1 p zzq
                        refine e_aloadn (pc := 67) dX1_callLookers_67 rfl rfl ?_
                        refine e_getr (pc := 68) (k := 23) dX1_callLookers_68 fX1_33 s_16 rfl (by decide) ?_
                        refine e_iloadn (pc := 71) dX1_callLookers_71 rfl rfl ?_
                        refine e_ialdv (pc := 72) (v := ((L i : Nat) : Int)) dX1_callLookers_72 s_23 (by omega) ((zzg 23 i rfl).trans (hLm i (by omega))) ?_
                        refine e_istoren (pc := 73) (lo' := [(2, 16), (0, (p : Int)), (0, (i : Int)), (0, ((L i : Nat) : Int)), (3, 0)]) dX1_callLookers_73 rfl rfl (by decide) rfl ?_
                        refine e_aloadn (pc := 74) dX1_callLookers_74 rfl rfl ?_
                        refine e_getr (pc := 75) (k := 21) dX1_callLookers_75 fX1_27 s_16 rfl (by decide) ?_
                        refine e_iloadn (pc := 78) dX1_callLookers_78 rfl rfl ?_
                        refine e_ialdv (pc := 79) (v := mv 21 p) dX1_callLookers_79 s_21 (by omega) rfl ?_
                        refine e_aloadn (pc := 80) dX1_callLookers_80 rfl rfl ?_
                        refine e_getr (pc := 81) (k := 1) dX1_callLookers_81 fX1_39 s_16 rfl (by decide) ?_
                        refine e_getr (pc := 84) (k := 2) dX1_callLookers_84 fX1_107 s_1 rfl (by decide) ?_
                        refine e_iloadn (pc := 87) dX1_callLookers_87 rfl rfl ?_
                        refine e_ialdv (pc := 88) (v := mem 2 (L i)) dX1_callLookers_88 s_2 (by omega) (zzg 2 (L i) rfl) ?_
                        refine e_iaddn (pc := 89) dX1_callLookers_89 (by omega) ?_
                        refine e_istore (pc := 90) (lo' := [(2, 16), (0, (p : Int)), (0, (i : Int)), (0, ((L i : Nat) : Int)), (0, (mv 21 p) + (mem 2 (L i)))]) dX1_callLookers_90 rfl (by decide) rfl ?_
                        refine e_aloadn (pc := 92) dX1_callLookers_92 rfl rfl ?_
                        refine e_getr (pc := 93) (k := 1) dX1_callLookers_93 fX1_39 s_16 rfl (by decide) ?_
                        refine e_getr (pc := 96) (k := 3) dX1_callLookers_96 fX1_110 s_1 rfl (by decide) ?_
                        refine e_iloadn (pc := 99) dX1_callLookers_99 rfl rfl ?_
                        refine e_ialdv (pc := 100) (v := mem 3 (L i)) dX1_callLookers_100 s_3 (by omega) (zzg 3 (L i) rfl) ?_
                        refine e_iloadn (pc := 101) dX1_callLookers_101 rfl rfl ?_
                        refine e_iconst (pc := 102) dX1_callLookers_102 (by decide) ?_
                        refine e_iaddn (pc := 103) dX1_callLookers_103 (by omega) ?_
                        refine e_icmp_ne (pc := 104) (tgt := 128) dX1_callLookers_104 rfl (fun h104 => ?_) (fun h104 => ?_)
                        · skip
                          refine e_iinc (pc := 128) (lo' := [(2, 16), (0, (p : Int)), (0, (i : Int) + 1), (0, ((L i : Nat) : Int)), (0, (mv 21 p) + (mem 2 (L i)))]) dX1_callLookers_128 rfl (by omega) rfl (by decide) rfl ?_
                          refine e_goto (pc := 131) (tgt := 53) dX1_callLookers_131 rfl ?_
                          refine Ev.fgt [3, 4] ?_
                          exact Ev.to (ih53 _ (by omega) (i + 1) m mv (rfl) (by omega) (zzq) (zzt) (zzg) (zzJ.skip h104)) rfl rfl rfl
                        · skip
                          refine e_iload (pc := 107) dX1_callLookers_107 rfl ?_
                          refine e_bipush (pc := 109) dX1_callLookers_109 rfl (by decide) ?_
                          refine e_icmp_ge (pc := 111) (tgt := 128) dX1_callLookers_111 rfl (fun h111 => ?_) (fun h111 => ?_)
                          · skip
                            refine e_iinc (pc := 128) (lo' := [(2, 16), (0, (p : Int)), (0, (i : Int) + 1), (0, ((L i : Nat) : Int)), (0, (mv 21 p) + (mem 2 (L i)))]) dX1_callLookers_128 rfl (by omega) rfl (by decide) rfl ?_
                            refine e_goto (pc := 131) (tgt := 53) dX1_callLookers_131 rfl ?_
                            refine Ev.fgt [3, 4] ?_
                            exact Ev.to (ih53 _ (by omega) (i + 1) m mv (rfl) (by omega) (zzq) (zzt) (zzg) (zzJ.late (by omega) h104 h111)) rfl rfl rfl
                          · skip
                            refine e_aloadn (pc := 114) dX1_callLookers_114 rfl rfl ?_
                            refine e_getr (pc := 115) (k := 20) dX1_callLookers_115 fX1_24 s_16 rfl (by decide) ?_
                            refine e_iloadn (pc := 118) dX1_callLookers_118 rfl rfl ?_
                            refine e_iload (pc := 119) dX1_callLookers_119 rfl ?_
                            refine e_iastm (pc := 121) (mem2 := mset mv 20 (L i) ((mv 21 p) + (mem 2 (L i)))) dX1_callLookers_121 s_20 (by omega) rfl ?_
                            refine e_aloadn (pc := 122) dX1_callLookers_122 rfl rfl ?_
                            refine e_iload (pc := 123) dX1_callLookers_123 rfl ?_
                            refine e_callV (pc := 125) (as := [(0, (mv 21 p) + (mem 2 (L i)))]) (st := []) (t_enter_16 G (mset mv 20 (L i) ((mv 21 p) + (mem 2 (L i)))) m ((mv 21 p) + (mem 2 (L i))) zzt (by omega) (fun _ => zzJ.room hL (by omega) h104) zzJ.1 zzJ.2.1 zzJ.2.2.1) dX1_callLookers_125 lX1_callLookers_86 rfl s_16 cn_1 rfl rfl (fun r_ m_ hq_ => ?_)
                            obtain ⟨zzr, _, zzx⟩ := hq_
                            subst zzr
                            obtain ⟨f, rfl, zzIns⟩ := zzx h111
                            refine Ev.to (st' := []) ?_ rfl rfl rfl
                            refine e_iinc (pc := 128) (lo' := [(2, 16), (0, (p : Int)), (0, (i : Int) + 1), (0, ((L i : Nat) : Int)), (0, (mv 21 p) + (mem 2 (L i)))]) dX1_callLookers_128 rfl (by omega) rfl (by decide) rfl ?_
                            refine e_goto (pc := 131) (tgt := 53) dX1_callLookers_131 rfl ?_
                            refine Ev.fgt [3, 4] ?_
                            exact Ev.to (ih53 _ (by omega) (i + 1) (m + 1) (mset (rset (mset mv 20 (L i) ((mv 21 p) + (mem 2 (L i)))) 21 f) 16 9 ((m : Int) + 1)) (rfl) (by omega) (by omega) (rfl) ((((zzg.ms rfl).rs (fun _ => rfl)).ms rfl)) (zzJ.put hL (by omega) h104 zzq h111 zzIns)) rfl rfl rfl
                exact Ev.to (L53 _ 0 m mv (rfl) (by omega) (by omega) (zzt) (zzg) (zzI)) rfl rfl rfl
        have zzw : ∀ c, c < 8 → mu 20 c = if lk c then 60 else mem 20 c := by
          intro c hc
          cases zk : lk c with
          | true =>
            obtain ⟨j, hj, rfl⟩ := (hL.2.2.2 c hc).mp zk
            rw [if_pos rfl]; exact zza j (by omega)
          | false =>
            rw [if_neg (by decide)]
            exact zzb c (fun i hi q => by rw [(hL.2.2.2 c hc).mpr ⟨i, by omega, q⟩] at zk; cases zk)
        have zzo : mu 21 = mem 21 := funext (fun j => zzf 21 j rfl)
        have zzI0 : CLI (mu 21) (mu 20) n (mem 20) nl L lk (mem 2) (mem 3) 0 0 := by
          rw [zzo]
          refine ⟨hn8, hs, hr, fun t ht => ?_, fun c hc => ?_, fun c hc hk => ?_, fun j hj => ?_⟩
          · rw [hcnt t ht]
            exact cnt_congr (fun c hc => by rw [zzw c hc])
          · rw [zzw c hc]
            have := hwr c hc
            split <;> omega
          · rw [zzw c hc, hk]; rfl
          · have z1 := hL.2.1 j hj
            rw [zza j (by omega), if_neg (by omega)]
        exact Ev.to (L37 _ 0 n mu (rfl) (by omega) ((zzf 16 9 rfl).trans hn) (zzf.mono (fun c j q => by unfold scL at q; unfold sc1; simp at q ⊢; omega)) (zzI0)) rfl rfl rfl
      · skip
        refine e_iloadn (pc := 10) dX1_callLookers_10 rfl rfl ?_
        refine e_bipush (pc := 11) dX1_callLookers_11 rfl (by decide) ?_
        refine e_icmp_ge (pc := 13) (tgt := 35) dX1_callLookers_13 rfl (fun h13 => ?_) (fun h13 => ?_)
        · skip
          exfalso; omega
        · skip
          have zzl := hL.2.1 k (by omega)
          refine e_aloadn (pc := 16) dX1_callLookers_16 rfl rfl ?_
          refine e_getr (pc := 17) (k := 20) dX1_callLookers_17 fX1_24 s_16 rfl (by decide) ?_
          refine e_aloadn (pc := 20) dX1_callLookers_20 rfl rfl ?_
          refine e_getr (pc := 21) (k := 23) dX1_callLookers_21 fX1_33 s_16 rfl (by decide) ?_
          refine e_iloadn (pc := 24) dX1_callLookers_24 rfl rfl ?_
          refine e_ialdv (pc := 25) (v := ((L k : Nat) : Int)) dX1_callLookers_25 s_23 (by omega) ((zzf 23 k rfl).trans (hLm k (by omega))) ?_
          refine e_bipush (pc := 26) dX1_callLookers_26 rfl (by decide) ?_
          refine e_iastm (pc := 28) (mem2 := mset mu 20 (L k) 60) dX1_callLookers_28 s_20 (by omega) rfl ?_
          refine e_iinc (pc := 29) (lo' := [(2, 16), (0, (k : Int) + 1), (3, 0), (3, 0), (3, 0)]) dX1_callLookers_29 rfl (by omega) rfl (by decide) rfl ?_
          refine e_goto (pc := 32) (tgt := 2) dX1_callLookers_32 rfl ?_
          have zza2 : ∀ i, i < k + 1 → (mset mu 20 (L k) 60) 20 (L i) = 60 := by
            intro i hi
            rw [mset_row]
            unfold uset
            split
            · rfl
            · rename_i q
              exact zza i (by rcases Nat.lt_or_ge i k with z | z
                              · exact z
                              · exact absurd (by rw [show i = k by omega]) q)
          have zzb2 : ∀ c, (∀ i, i < k + 1 → L i ≠ c) → (mset mu 20 (L k) 60) 20 c = mem 20 c := by
            intro c hc
            rw [mset_row, uset_ne _ _ (Ne.symm (hc k (by omega)))]
            exact zzb c (fun i hi => hc i (by omega))
          exact Ev.to (ih2 _ (by omega) (k + 1) (mset mu 20 (L k) 60) (rfl) (by omega) ((zzf.ms rfl)) (zza2) (zzb2)) rfl rfl rfl
  exact Ev.to (L2 _ 0 mem (rfl) (by omega) (Fr.rf) (fun i hi => by omega) (fun c _ => rfl)) rfl rfl rfl

theorem t_callLookers_25 (G : Gm) (mem : Mem) (n nl : Nat) (L : Nat → Nat) (lk : Nat → Bool) (hn : mem 25 9 = (n : Int)) (hn8 : n ≤ 8) (hs : Srt (mem 30) n) (hr : ∀ j, j < n → 0 ≤ mem 30 j ∧ mem 30 j < 60) (hnl : mem 25 13 = (nl : Int)) (hLm : ∀ j, j < nl → mem 32 j = (L j : Int)) (hL : LkOk nl L lk (mem 2) (mem 3)) (hwr : ∀ c, c < 8 → 0 ≤ mem 29 c ∧ mem 29 c ≤ 60) (hcnt : ∀ t, t < 60 → cnO (mem 30) n t = cnO (fun c => if lk c then 60 else mem 29 c) 8 t) : Con G mX1_callLookers [(2, 25)] mem (fun r m' => r = none ∧ Fr (scL 25) mem m' ∧ ∃ n' : Nat, m' 25 9 = (n' : Int) ∧ n' ≤ 8 ∧ Srt (m' 30) n' ∧ (∀ j, j < n' → 0 ≤ m' 30 j ∧ m' 30 j < 60) ∧ (∀ t, t < 60 → cnO (m' 30) n' t = cnO (m' 29) 8 t) ∧ IsCome (mem 29) lk (mem 2) (mem 3) (m' 29)) := by
  refine Con.of (lo := [(2, 25), (3, 0), (3, 0), (3, 0), (3, 0)]) (by decide +kernel) (Nat.le_of_ble_eq_true rfl) rfl ?_
  generalize hQ_ : (fun r m' => r = none ∧ Fr (scL 25) mem m' ∧ ∃ n' : Nat, m' 25 9 = (n' : Int) ∧ n' ≤ 8 ∧ Srt (m' 30) n' ∧ (∀ j, j < n' → 0 ≤ m' 30 j ∧ m' 30 j < 60) ∧ (∀ t, t < 60 → cnO (m' 30) n' t = cnO (m' 29) 8 t) ∧ IsCome (mem 29) lk (mem 2) (mem 3) (m' 29) : Option AV → Mem → Prop) = Q_
  refine e_iconst (pc := 0) dX1_callLookers_0 (by decide) ?_
  refine e_istoren (pc := 1) (lo' := [(2, 25), (0, 0), (3, 0), (3, 0), (3, 0)]) dX1_callLookers_1 rfl rfl (by decide) rfl ?_
  have L2 : ∀ (n_ : Nat) (k : Nat) (mu : Mem), 8 - k = n_ → (k ≤ nl) → (Fr (sc1 25) mem mu) → (∀ i, i < k → mu 29 (L i) = 60) → (∀ c, (∀ i, i < k → L i ≠ c) → mu 29 c = mem 29 c) → Ev G mX1_callLookers Q_ 2 [(2, 25), (0, (k : Int)), (3, 0), (3, 0), (3, 0)] [] mu := by
    intro n_
    induction n_ using Nat.strongRecOn with
    | ind n_ ih2 =>
      intro k mu hn_ zzk zzf zza zzb
      have zzn := hL.1
      refine e_iloadn (pc := 2) dX1_callLookers_2 rfl rfl ?_
      refine e_aloadn (pc := 3) dX1_callLookers_3 rfl rfl ?_
      refine e_getiv (pc := 4) (v := (nl : Int)) dX1_callLookers_4 fX1_79 s_25 rfl (by decide) ((zzf 25 13 rfl).trans hnl) ?_
      refine e_icmp_ge (pc := 7) (tgt := 35) dX1_callLookers_7 rfl (fun h7 => ?_) (fun h7 => ?_)
      · skip
        refine e_iconst (pc := 35) dX1_callLookers_35 (by decide) ?_
        refine e_istoren (pc := 36) (lo' := [(2, 25), (0, 0), (3, 0), (3, 0), (3, 0)]) dX1_callLookers_36 rfl rfl (by decide) rfl ?_
        have L37 : ∀ (n_ : Nat) (p : Nat) (m : Nat) (mv : Mem), 8 - p = n_ → (p ≤ m) → (mv 25 9 = (m : Int)) → (Fr (scL 25) mem mv) → (CLI (mv 30) (mv 29) m (mem 29) nl L lk (mem 2) (mem 3) p 0) → Ev G mX1_callLookers Q_ 37 [(2, 25), (0, (p : Int)), (3, 0), (3, 0), (3, 0)] [] mv := by
          intro n_
          induction n_ using Nat.strongRecOn with
          | ind n_ ih37 =>
            intro p m mv hn_ zzp zzt zzg zzI
            refine e_iloadn (pc := 37) dX1_callLookers_37 rfl rfl ?_
            refine e_aloadn (pc := 38) dX1_callLookers_38 rfl rfl ?_
            refine e_getiv (pc := 39) (v := (m : Int)) dX1_callLookers_39 fX1_76 s_25 rfl (by decide) (zzt) ?_
            refine e_icmp_ge (pc := 42) (tgt := 140) dX1_callLookers_42 rfl (fun h42 => ?_) (fun h42 => ?_)
            · skip
              have zze : IsCome (mem 29) lk (mem 2) (mem 3) (mv 29) := CLI.ends (by rw [show p = m by omega] at zzI; exact zzI) hL
              exact e_vret (pc := 140) dX1_callLookers_140 rfl (by rw [← hQ_]; exact ⟨rfl, zzg, m, zzt, zzI.1, zzI.2.1, zzI.2.2.1, zzI.2.2.2.1, zze⟩)
            · skip
              refine e_iloadn (pc := 45) dX1_callLookers_45 rfl rfl ?_
              refine e_bipush (pc := 46) dX1_callLookers_46 rfl (by decide) ?_
              refine e_icmp_ge (pc := 48) (tgt := 140) dX1_callLookers_48 rfl (fun h48 => ?_) (fun h48 => ?_)
              · skip
                exfalso; have := zzI.1; omega
              · skip
                refine e_iconst (pc := 51) dX1_callLookers_51 (by decide) ?_
                refine e_istoren (pc := 52) (lo' := [(2, 25), (0, (p : Int)), (0, 0), (3, 0), (3, 0)]) dX1_callLookers_52 rfl rfl (by decide) rfl ?_
                have L53 : ∀ (n_ : Nat) (i : Nat) (m : Nat) (mv : Mem), 8 - i = n_ → (i ≤ nl) → (p < m) → (mv 25 9 = (m : Int)) → (Fr (scL 25) mem mv) → (CLI (mv 30) (mv 29) m (mem 29) nl L lk (mem 2) (mem 3) p i) → Ev G mX1_callLookers Q_ 53 [(2, 25), (0, (p : Int)), (0, (i : Int)), (3, 0), (3, 0)] [] mv := by
                  intro n_
                  induction n_ using Nat.strongRecOn with
                  | ind n_ ih53 =>
                    intro i m mv hn_ zzi zzq zzt zzg zzJ
                    have zzn := hL.1
                    have zzm8 := zzJ.1
                    refine e_iloadn (pc := 53) dX1_callLookers_53 rfl rfl ?_
                    refine e_aloadn (pc := 54) dX1_callLookers_54 rfl rfl ?_
                    refine e_getiv (pc := 55) (v := (nl : Int)) dX1_callLookers_55 fX1_79 s_25 rfl (by decide) ((zzg 25 13 rfl).trans hnl) ?_
                    refine e_icmp_ge (pc := 58) (tgt := 134) dX1_callLookers_58 rfl (fun h58 => ?_) (fun h58 => ?_)
                    · skip
                      have zzJ2 := zzJ
                      refine e_iinc (pc := 134) (lo' := [(2, 25), (0, (p : Int) + 1), (0, (i : Int)), (3, 0), (3, 0)]) dX1_callLookers_134 rfl (by omega) rfl (by decide) rfl ?_
                      refine e_goto (pc := 137) (tgt := 37) dX1_callLookers_137 rfl ?_
                      refine Ev.fgt [2] ?_
                      exact Ev.to (ih37 _ (by omega) (p + 1) m mv (rfl) (by omega) (zzt) (zzg) (CLI.next (by rw [show i = nl by omega] at zzJ2; exact zzJ2))) rfl rfl rfl
                    · skip
                      refine e_iloadn (pc := 61) dX1_callLookers_61 rfl rfl ?_
                      refine e_bipush (pc := 62) dX1_callLookers_62 rfl (by decide) ?_
                      refine e_icmp_ge (pc := 64) (tgt := 134) dX1_callLookers_64 rfl (fun h64 => ?_) (fun h64 => ?_)
                      · skip
                        exfalso; omega
                      · skip
                        have zzl := hL.2.1 i (by omega)
                        have zzo := zzJ.2.2.1 p zzq
                        refine e_aloadn (pc := 67) dX1_callLookers_67 rfl rfl ?_
                        refine e_getr (pc := 68) (k := 32) dX1_callLookers_68 fX1_33 s_25 rfl (by decide) ?_
                        refine e_iloadn (pc := 71) dX1_callLookers_71 rfl rfl ?_
                        refine e_ialdv (pc := 72) (v := ((L i : Nat) : Int)) dX1_callLookers_72 s_32 (by omega) ((zzg 32 i rfl).trans (hLm i (by omega))) ?_
                        refine e_istoren (pc := 73) (lo' := [(2, 25), (0, (p : Int)), (0, (i : Int)), (0, ((L i : Nat) : Int)), (3, 0)]) dX1_callLookers_73 rfl rfl (by decide) rfl ?_
                        refine e_aloadn (pc := 74) dX1_callLookers_74 rfl rfl ?_
                        refine e_getr (pc := 75) (k := 30) dX1_callLookers_75 fX1_27 s_25 rfl (by decide) ?_
                        refine e_iloadn (pc := 78) dX1_callLookers_78 rfl rfl ?_
                        refine e_ialdv (pc := 79) (v := mv 30 p) dX1_callLookers_79 s_30 (by omega) rfl ?_
                        refine e_aloadn (pc := 80) dX1_callLookers_80 rfl rfl ?_
                        refine e_getr (pc := 81) (k := 1) dX1_callLookers_81 fX1_39 s_25 rfl (by decide) ?_
                        refine e_getr (pc := 84) (k := 2) dX1_callLookers_84 fX1_107 s_1 rfl (by decide) ?_
                        refine e_iloadn (pc := 87) dX1_callLookers_87 rfl rfl ?_
                        refine e_ialdv (pc := 88) (v := mem 2 (L i)) dX1_callLookers_88 s_2 (by omega) (zzg 2 (L i) rfl) ?_
                        refine e_iaddn (pc := 89) dX1_callLookers_89 (by omega) ?_
                        refine e_istore (pc := 90) (lo' := [(2, 25), (0, (p : Int)), (0, (i : Int)), (0, ((L i : Nat) : Int)), (0, (mv 30 p) + (mem 2 (L i)))]) dX1_callLookers_90 rfl (by decide) rfl ?_
                        refine e_aloadn (pc := 92) dX1_callLookers_92 rfl rfl ?_
                        refine e_getr (pc := 93) (k := 1) dX1_callLookers_93 fX1_39 s_25 rfl (by decide) ?_
                        refine e_getr (pc := 96) (k := 3) dX1_callLookers_96 fX1_110 s_1 rfl (by decide) ?_
                        refine e_iloadn (pc := 99) dX1_callLookers_99 rfl rfl ?_
                        refine e_ialdv (pc := 100) (v := mem 3 (L i)) dX1_callLookers_100 s_3 (by omega) (zzg 3 (L i) rfl) ?_
                        refine e_iloadn (pc := 101) dX1_callLookers_101 rfl rfl ?_
                        refine e_iconst (pc := 102) dX1_callLookers_102 (by decide) ?_
                        refine e_iaddn (pc := 103) dX1_callLookers_103 (by omega) ?_
                        refine e_icmp_ne (pc := 104) (tgt := 128) dX1_callLookers_104 rfl (fun h104 => ?_) (fun h104 => ?_)
                        · skip
                          refine e_iinc (pc := 128) (lo' := [(2, 25), (0, (p : Int)), (0, (i : Int) + 1), (0, ((L i : Nat) : Int)), (0, (mv 30 p) + (mem 2 (L i)))]) dX1_callLookers_128 rfl (by omega) rfl (by decide) rfl ?_
                          refine e_goto (pc := 131) (tgt := 53) dX1_callLookers_131 rfl ?_
                          refine Ev.fgt [3, 4] ?_
                          exact Ev.to (ih53 _ (by omega) (i + 1) m mv (rfl) (by omega) (zzq) (zzt) (zzg) (zzJ.skip h104)) rfl rfl rfl
                        · skip
                          refine e_iload (pc := 107) dX1_callLookers_107 rfl ?_
                          refine e_bipush (pc := 109) dX1_callLookers_109 rfl (by decide) ?_
                          refine e_icmp_ge (pc := 111) (tgt := 128) dX1_callLookers_111 rfl (fun h111 => ?_) (fun h111 => ?_)
                          · skip
                            refine e_iinc (pc := 128) (lo' := [(2, 25), (0, (p : Int)), (0, (i : Int) + 1), (0, ((L i : Nat) : Int)), (0, (mv 30 p) + (mem 2 (L i)))]) dX1_callLookers_128 rfl (by omega) rfl (by decide) rfl ?_
                            refine e_goto (pc := 131) (tgt := 53) dX1_callLookers_131 rfl ?_
                            refine Ev.fgt [3, 4] ?_
                            exact Ev.to (ih53 _ (by omega) (i + 1) m mv (rfl) (by omega) (zzq) (zzt) (zzg) (zzJ.late (by omega) h104 h111)) rfl rfl rfl
                          · skip
                            refine e_aloadn (pc := 114) dX1_callLookers_114 rfl rfl ?_
                            refine e_getr (pc := 115) (k := 29) dX1_callLookers_115 fX1_24 s_25 rfl (by decide) ?_
                            refine e_iloadn (pc := 118) dX1_callLookers_118 rfl rfl ?_
                            refine e_iload (pc := 119) dX1_callLookers_119 rfl ?_
                            refine e_iastm (pc := 121) (mem2 := mset mv 29 (L i) ((mv 30 p) + (mem 2 (L i)))) dX1_callLookers_121 s_29 (by omega) rfl ?_
                            refine e_aloadn (pc := 122) dX1_callLookers_122 rfl rfl ?_
                            refine e_iload (pc := 123) dX1_callLookers_123 rfl ?_
                            refine e_callV (pc := 125) (as := [(0, (mv 30 p) + (mem 2 (L i)))]) (st := []) (t_enter_25 G (mset mv 29 (L i) ((mv 30 p) + (mem 2 (L i)))) m ((mv 30 p) + (mem 2 (L i))) zzt (by omega) (fun _ => zzJ.room hL (by omega) h104) zzJ.1 zzJ.2.1 zzJ.2.2.1) dX1_callLookers_125 lX1_callLookers_86 rfl s_25 cn_1 rfl rfl (fun r_ m_ hq_ => ?_)
                            obtain ⟨zzr, _, zzx⟩ := hq_
                            subst zzr
                            obtain ⟨f, rfl, zzIns⟩ := zzx h111
                            refine Ev.to (st' := []) ?_ rfl rfl rfl
                            refine e_iinc (pc := 128) (lo' := [(2, 25), (0, (p : Int)), (0, (i : Int) + 1), (0, ((L i : Nat) : Int)), (0, (mv 30 p) + (mem 2 (L i)))]) dX1_callLookers_128 rfl (by omega) rfl (by decide) rfl ?_
                            refine e_goto (pc := 131) (tgt := 53) dX1_callLookers_131 rfl ?_
                            refine Ev.fgt [3, 4] ?_
                            exact Ev.to (ih53 _ (by omega) (i + 1) (m + 1) (mset (rset (mset mv 29 (L i) ((mv 30 p) + (mem 2 (L i)))) 30 f) 25 9 ((m : Int) + 1)) (rfl) (by omega) (by omega) (rfl) ((((zzg.ms rfl).rs (fun _ => rfl)).ms rfl)) (zzJ.put hL (by omega) h104 zzq h111 zzIns)) rfl rfl rfl
                exact Ev.to (L53 _ 0 m mv (rfl) (by omega) (by omega) (zzt) (zzg) (zzI)) rfl rfl rfl
        have zzw : ∀ c, c < 8 → mu 29 c = if lk c then 60 else mem 29 c := by
          intro c hc
          cases zk : lk c with
          | true =>
            obtain ⟨j, hj, rfl⟩ := (hL.2.2.2 c hc).mp zk
            rw [if_pos rfl]; exact zza j (by omega)
          | false =>
            rw [if_neg (by decide)]
            exact zzb c (fun i hi q => by rw [(hL.2.2.2 c hc).mpr ⟨i, by omega, q⟩] at zk; cases zk)
        have zzo : mu 30 = mem 30 := funext (fun j => zzf 30 j rfl)
        have zzI0 : CLI (mu 30) (mu 29) n (mem 29) nl L lk (mem 2) (mem 3) 0 0 := by
          rw [zzo]
          refine ⟨hn8, hs, hr, fun t ht => ?_, fun c hc => ?_, fun c hc hk => ?_, fun j hj => ?_⟩
          · rw [hcnt t ht]
            exact cnt_congr (fun c hc => by rw [zzw c hc])
          · rw [zzw c hc]
            have := hwr c hc
            split <;> omega
          · rw [zzw c hc, hk]; rfl
          · have z1 := hL.2.1 j hj
            rw [zza j (by omega), if_neg (by omega)]
        exact Ev.to (L37 _ 0 n mu (rfl) (by omega) ((zzf 25 9 rfl).trans hn) (zzf.mono (fun c j q => by unfold scL at q; unfold sc1; simp at q ⊢; omega)) (zzI0)) rfl rfl rfl
      · skip
        refine e_iloadn (pc := 10) dX1_callLookers_10 rfl rfl ?_
        refine e_bipush (pc := 11) dX1_callLookers_11 rfl (by decide) ?_
        refine e_icmp_ge (pc := 13) (tgt := 35) dX1_callLookers_13 rfl (fun h13 => ?_) (fun h13 => ?_)
        · skip
          exfalso; omega
        · skip
          have zzl := hL.2.1 k (by omega)
          refine e_aloadn (pc := 16) dX1_callLookers_16 rfl rfl ?_
          refine e_getr (pc := 17) (k := 29) dX1_callLookers_17 fX1_24 s_25 rfl (by decide) ?_
          refine e_aloadn (pc := 20) dX1_callLookers_20 rfl rfl ?_
          refine e_getr (pc := 21) (k := 32) dX1_callLookers_21 fX1_33 s_25 rfl (by decide) ?_
          refine e_iloadn (pc := 24) dX1_callLookers_24 rfl rfl ?_
          refine e_ialdv (pc := 25) (v := ((L k : Nat) : Int)) dX1_callLookers_25 s_32 (by omega) ((zzf 32 k rfl).trans (hLm k (by omega))) ?_
          refine e_bipush (pc := 26) dX1_callLookers_26 rfl (by decide) ?_
          refine e_iastm (pc := 28) (mem2 := mset mu 29 (L k) 60) dX1_callLookers_28 s_29 (by omega) rfl ?_
          refine e_iinc (pc := 29) (lo' := [(2, 25), (0, (k : Int) + 1), (3, 0), (3, 0), (3, 0)]) dX1_callLookers_29 rfl (by omega) rfl (by decide) rfl ?_
          refine e_goto (pc := 32) (tgt := 2) dX1_callLookers_32 rfl ?_
          have zza2 : ∀ i, i < k + 1 → (mset mu 29 (L k) 60) 29 (L i) = 60 := by
            intro i hi
            rw [mset_row]
            unfold uset
            split
            · rfl
            · rename_i q
              exact zza i (by rcases Nat.lt_or_ge i k with z | z
                              · exact z
                              · exact absurd (by rw [show i = k by omega]) q)
          have zzb2 : ∀ c, (∀ i, i < k + 1 → L i ≠ c) → (mset mu 29 (L k) 60) 29 c = mem 29 c := by
            intro c hc
            rw [mset_row, uset_ne _ _ (Ne.symm (hc k (by omega)))]
            exact zzb c (fun i hi => hc i (by omega))
          exact Ev.to (ih2 _ (by omega) (k + 1) (mset mu 29 (L k) 60) (rfl) (by omega) ((zzf.ms rfl)) (zza2) (zzb2)) rfl rfl rfl
  exact Ev.to (L2 _ 0 mem (rfl) (by omega) (Fr.rf) (fun i hi => by omega) (fun c _ => rfl)) rfl rfl rfl
