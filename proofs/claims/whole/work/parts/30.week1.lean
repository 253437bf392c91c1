/-- all plain ones' aims in the week behind -/
def nxA (bf : (Nat → Int) → Nat → Nat) (kd am : Nat → Int) : Nat → Int := fun c => if c < 8 ∧ kd c = 0 then ((bf am c : Nat) : Int) else am c
def scN (c j : Nat) : Bool := scG 25 c j || c == 33
def scW (c j : Nat) : Bool := scC c j || c == 33

theorem t_goesToNextWeek (G : Gm) (mem : Mem) (hC : CoOk mem) (hE : EvOk25 mem) (hR : RuOk mem) (hl : mem 25 4 = 0) (ha : mem 25 5 = 0) : Con G mX1_goesToNextWeek [(2, 25)] mem (fun r m' => r = none ∧ Fr scW mem m' ∧ m' 28 = nxA (bfA mem false) (mem 27) (mem 28)) := by
  refine Con.of (lo := [(2, 25), (3, 0)]) (by decide +kernel) (Nat.le_of_ble_eq_true rfl) rfl ?_
  generalize hQ_ : (fun r m' => r = none ∧ Fr scW mem m' ∧ m' 28 = nxA (bfA mem false) (mem 27) (mem 28) : Option AV → Mem → Prop) = Q_
  refine e_iconst (pc := 0) dX1_goesToNextWeek_0 (by decide) ?_
  refine e_istoren (pc := 1) (lo' := [(2, 25), (0, 0)]) dX1_goesToNextWeek_1 rfl rfl (by decide) rfl ?_
  have L2 : ∀ (n_ : Nat) (k : Nat) (zmv : Mem), 8 - k = n_ → (k ≤ 8) → (Fr scN mem zmv) → (∀ c, c < k → zmv 33 c = nxA (bfA mem false) (mem 27) (mem 28) c) → Ev G mX1_goesToNextWeek Q_ 2 [(2, 25), (0, (k : Int))] [] zmv := by
    intro n_
    induction n_ using Nat.strongRecOn with
    | ind n_ ih2 =>
      intro k zmv hn_ zk zf zn
      refine e_iloadn (pc := 2) dX1_goesToNextWeek_2 rfl rfl ?_
      refine e_bipush (pc := 3) dX1_goesToNextWeek_3 rfl (by decide) ?_
      refine e_icmp_ge (pc := 5) (tgt := 44) dX1_goesToNextWeek_5 rfl (fun h5 => ?_) (fun h5 => ?_)
      · skip
        refine e_aloadn (pc := 44) dX1_goesToNextWeek_44 rfl rfl ?_
        refine e_getr (pc := 45) (k := 33) dX1_goesToNextWeek_45 fX1_36 s_25 rfl (by decide) ?_
        refine e_iconst (pc := 48) dX1_goesToNextWeek_48 (by decide) ?_
        refine e_aloadn (pc := 49) dX1_goesToNextWeek_49 rfl rfl ?_
        refine e_getr (pc := 50) (k := 28) dX1_goesToNextWeek_50 fX1_21 s_25 rfl (by decide) ?_
        refine e_iconst (pc := 53) dX1_goesToNextWeek_53 (by decide) ?_
        refine e_bipush (pc := 54) dX1_goesToNextWeek_54 rfl (by decide) ?_
        refine e_copy (pc := 56) dX1_goesToNextWeek_56 lX1_cp47 (by decide) rfl s_33 s_28 (by decide) (by decide) ?_
        have zrow : cpy (zmv 33) (zmv 28) 0 0 8 = nxA (bfA mem false) (mem 27) (mem 28) := by
          funext c
          unfold cpy
          by_cases z : c < 8
          · rw [if_pos ⟨by omega, by omega⟩, show 0 + (c - 0) = c by omega]; exact zn c (by omega)
          · rw [if_neg (by omega), zf 28 c rfl]
            unfold nxA
            rw [if_neg (by omega)]
        have zfw : Fr scW mem (rset zmv 28 (cpy (zmv 33) (zmv 28) 0 0 8)) := (zf.mono (fun c j q => by unfold scW scC at q; unfold scN; simp at q ⊢; exact ⟨q.1.1, q.2⟩)).rs (fun _ => rfl)
        exact e_vret (pc := 59) dX1_goesToNextWeek_59 rfl (by rw [← hQ_]; exact ⟨rfl, zfw, zrow⟩)
      · skip
        refine e_aloadn (pc := 8) dX1_goesToNextWeek_8 rfl rfl ?_
        refine e_getr (pc := 9) (k := 33) dX1_goesToNextWeek_9 fX1_36 s_25 rfl (by decide) ?_
        refine e_iloadn (pc := 12) dX1_goesToNextWeek_12 rfl rfl ?_
        refine e_aloadn (pc := 13) dX1_goesToNextWeek_13 rfl rfl ?_
        refine e_getr (pc := 14) (k := 27) dX1_goesToNextWeek_14 fX1_18 s_25 rfl (by decide) ?_
        refine e_iloadn (pc := 17) dX1_goesToNextWeek_17 rfl rfl ?_
        refine e_ialdv (pc := 18) (v := mem 27 k) dX1_goesToNextWeek_18 s_27 (by omega) (zf 27 k rfl) ?_
        refine e_if_ne (pc := 19) (tgt := 31) dX1_goesToNextWeek_19 rfl (fun h19 => ?_) (fun h19 => ?_)
        · skip
          refine e_aloadn (pc := 31) dX1_goesToNextWeek_31 rfl rfl ?_
          refine e_getr (pc := 32) (k := 28) dX1_goesToNextWeek_32 fX1_21 s_25 rfl (by decide) ?_
          refine e_iloadn (pc := 35) dX1_goesToNextWeek_35 rfl rfl ?_
          refine e_ialdv (pc := 36) (v := mem 28 k) dX1_goesToNextWeek_36 s_28 (by omega) (zf 28 k rfl) ?_
          refine e_iastm (pc := 37) (mem2 := mset zmv 33 k (mem 28 k)) dX1_goesToNextWeek_37 s_33 (by omega) rfl ?_
          refine e_iinc (pc := 38) (lo' := [(2, 25), (0, (k : Int) + 1)]) dX1_goesToNextWeek_38 rfl (by omega) rfl (by decide) rfl ?_
          refine e_goto (pc := 41) (tgt := 2) dX1_goesToNextWeek_41 rfl ?_
          have zn2 : ∀ c, c < k + 1 → (mset zmv 33 k (mem 28 k)) 33 c = nxA (bfA mem false) (mem 27) (mem 28) c := by
            intro c hc
            rw [mset_row]
            by_cases z : c = k
            · subst z
              rw [uset_eq]
              unfold nxA
              rw [if_neg (fun q => h19 q.2)]
            · rw [uset_ne _ _ z]
              exact zn c (by omega)
          exact Ev.to (ih2 _ (by omega) (k + 1) (mset zmv 33 k (mem 28 k)) (rfl) (by omega) (zf.ms rfl) (zn2)) rfl rfl rfl
        · skip
          refine e_aloadn (pc := 22) dX1_goesToNextWeek_22 rfl rfl ?_
          refine e_iloadn (pc := 23) dX1_goesToNextWeek_23 rfl rfl ?_
          refine e_iconst (pc := 24) dX1_goesToNextWeek_24 (by decide) ?_
          have zC := CoOk.mv zf hC
          have zfc : Fr scW mem zmv := zf.mono (fun c j q => by unfold scW scC at q; unfold scN; simp at q ⊢; exact ⟨q.1.1, q.2⟩)
          have zE : EvOk25 zmv := by
            have z1 := hE
            unfold EvOk25 at z1 ⊢
            rw [show zmv 26 = mem 26 from funext (fun j => zf 26 j rfl), show zmv 27 = mem 27 from funext (fun j => zf 27 j rfl), show zmv 28 = mem 28 from funext (fun j => zf 28 j rfl), show zmv 25 4 = mem 25 4 from zf 25 4 rfl, show zmv 25 5 = mem 25 5 from zf 25 5 rfl, show zmv 2 = mem 2 from funext (fun j => zf 2 j rfl), show zmv 3 = mem 3 from funext (fun j => zf 3 j rfl)]
            exact z1
          have zR := RuC zf hR
          have zk0 : zmv 27 k = 0 := (zf 27 k rfl).trans h19
          have zpm : prF25 zmv = prA mem (mem 26) (mem 27) (mem 28) (mem 25 4) (mem 25 5) := prF_rows25 (funext (fun j => zf 26 j rfl)) (funext (fun j => zf 27 j rfl)) (funext (fun j => zf 28 j rfl)) (zf 25 4 rfl) (zf 25 5 rfl) (funext (fun j => zf 2 j rfl)) (funext (fun j => zf 3 j rfl)) (funext (fun j => zf 5 j rfl)) (funext (fun j => zf 6 j rfl)) (funext (fun j => zf 7 j rfl)) (funext (fun j => zf 9 j rfl)) (funext (fun j => zf 12 j rfl)) (funext (fun j => zf 13 j rfl)) (funext (fun j => zf 14 j rfl)) (funext (fun j => zf 15 j rfl)) (zf 10 4 rfl)
          refine e_callV (pc := 25) (as := [(0, (k : Int)), (0, 0)]) (st := [(0, (k : Int)), (2, 33)]) (t_bestN_25 G zmv k false 0 rfl zC zE zR (by omega) zk0 ((zf 25 4 rfl).trans hl) ((zf 25 5 rfl).trans ha)) dX1_goesToNextWeek_25 lX1_goesToNextWeek_114 rfl s_25 cn_1 rfl rfl (fun r_ zm1 hq_ => ?_)
          rw [zpm] at hq_
          obtain ⟨zr_, zG⟩ := hq_
          subst zr_
          refine Ev.to (st' := [(0, ((bfA mem false (mem 28) k : Nat) : Int)), (0, (k : Int)), (2, 33)]) ?_ rfl rfl rfl
          refine e_goto (pc := 28) (tgt := 37) dX1_goesToNextWeek_28 rfl ?_
          refine e_iastm (pc := 37) (mem2 := mset zm1 33 k ((bfA mem false (mem 28) k : Nat) : Int)) dX1_goesToNextWeek_37 s_33 (by omega) rfl ?_
          refine e_iinc (pc := 38) (lo' := [(2, 25), (0, (k : Int) + 1)]) dX1_goesToNextWeek_38 rfl (by omega) rfl (by decide) rfl ?_
          refine e_goto (pc := 41) (tgt := 2) dX1_goesToNextWeek_41 rfl ?_
          have zn2 : ∀ c, c < k + 1 → (mset zm1 33 k ((bfA mem false (mem 28) k : Nat) : Int)) 33 c = nxA (bfA mem false) (mem 27) (mem 28) c := by
            intro c hc
            rw [mset_row]
            by_cases z : c = k
            · subst z
              rw [uset_eq]
              unfold nxA
              rw [if_pos ⟨by omega, h19⟩]
            · rw [uset_ne _ _ z, show zm1 33 c = zmv 33 c from zG.1 33 c rfl]
              exact zn c (by omega)
          exact Ev.to (ih2 _ (by omega) (k + 1) (mset zm1 33 k ((bfA mem false (mem 28) k : Nat) : Int)) (rfl) (by omega) ((zf.tr (zG.1.mono (fun c j q => by unfold scN at q; simp at q; exact q.1))).ms rfl) (zn2)) rfl rfl rfl
  exact Ev.to (L2 _ 0 mem (rfl) (by omega) (Fr.rf) (fun c hc => by omega)) rfl rfl rfl

theorem t_restsAmong (G : Gm) (mem : Mem) (n : Nat) (hn : n ≤ 13) (hm : ∀ i, i < n → 0 ≤ mem 35 i ∧ mem 35 i ≤ 60) (hC : CoOk mem) (hE : EvOk25 mem) (hR : RuOk mem) (hl : mem 25 4 = 0) (ha : mem 25 5 = 0) : Con G mX1_restsAmong [(2, 25), (2, 35), (0, (n : Int))] mem (fun r m' => ∃ b : Bool, r = some (0, if b then 1 else 0) ∧ Fr (scG 25) mem m' ∧ (b = true ↔ ∀ c, c < 8 → (mem 27 c = 0 → ∀ i, i < n → prA mem (mem 26) (mem 27) (mem 28) (mem 25 4) (mem 25 5) c (mem 28 c).toNat ≤ prA mem (mem 26) (mem 27) (mem 28) (mem 25 4) (mem 25 5) c (mem 35 i).toNat))) := by
  refine Con.of (lo := [(2, 25), (2, 35), (0, (n : Int)), (3, 0), (3, 0), (3, 0)]) (by decide +kernel) (Nat.le_of_ble_eq_true rfl) rfl ?_
  generalize hQ_ : (fun r m' => ∃ b : Bool, r = some (0, if b then 1 else 0) ∧ Fr (scG 25) mem m' ∧ (b = true ↔ ∀ c, c < 8 → (mem 27 c = 0 → ∀ i, i < n → prA mem (mem 26) (mem 27) (mem 28) (mem 25 4) (mem 25 5) c (mem 28 c).toNat ≤ prA mem (mem 26) (mem 27) (mem 28) (mem 25 4) (mem 25 5) c (mem 35 i).toNat)) : Option AV → Mem → Prop) = Q_
  refine e_iconst (pc := 0) dX1_restsAmong_0 (by decide) ?_
  refine e_istoren (pc := 1) (lo' := [(2, 25), (2, 35), (0, (n : Int)), (0, 0), (3, 0), (3, 0)]) dX1_restsAmong_1 rfl rfl (by decide) rfl ?_
  have L2 : ∀ (n_ : Nat) (k : Nat) (zmv : Mem), 8 - k = n_ → (k ≤ 8) → (Fr (scG 25) mem zmv) → (∀ c, c < k → (mem 27 c = 0 → ∀ i, i < n → prA mem (mem 26) (mem 27) (mem 28) (mem 25 4) (mem 25 5) c (mem 28 c).toNat ≤ prA mem (mem 26) (mem 27) (mem 28) (mem 25 4) (mem 25 5) c (mem 35 i).toNat)) → Ev G mX1_restsAmong Q_ 2 [(2, 25), (2, 35), (0, (n : Int)), (0, (k : Int)), (3, 0), (3, 0)] [] zmv := by
    intro n_
    induction n_ using Nat.strongRecOn with
    | ind n_ ih2 =>
      intro k zmv hn_ zk zf zr
      refine e_iloadn (pc := 2) dX1_restsAmong_2 rfl rfl ?_
      refine e_bipush (pc := 3) dX1_restsAmong_3 rfl (by decide) ?_
      refine e_icmp_ge (pc := 5) (tgt := 82) dX1_restsAmong_5 rfl (fun h5 => ?_) (fun h5 => ?_)
      · skip
        refine e_iconst (pc := 82) dX1_restsAmong_82 (by decide) ?_
        have zyes : ∀ c, c < 8 → (mem 27 c = 0 → ∀ i, i < n → prA mem (mem 26) (mem 27) (mem 28) (mem 25 4) (mem 25 5) c (mem 28 c).toNat ≤ prA mem (mem 26) (mem 27) (mem 28) (mem 25 4) (mem 25 5) c (mem 35 i).toNat) := fun c hc => zr c (by omega)
        exact e_zret (pc := 83) dX1_restsAmong_83 rfl (by decide) (by rw [← hQ_]; exact ⟨true, rfl, zf, by simpa using zyes⟩)
      · skip
        refine e_aloadn (pc := 8) dX1_restsAmong_8 rfl rfl ?_
        refine e_getr (pc := 9) (k := 27) dX1_restsAmong_9 fX1_18 s_25 rfl (by decide) ?_
        refine e_iloadn (pc := 12) dX1_restsAmong_12 rfl rfl ?_
        refine e_ialdv (pc := 13) (v := mem 27 k) dX1_restsAmong_13 s_27 (by omega) (zf 27 k rfl) ?_
        refine e_if_eq (pc := 14) (tgt := 20) dX1_restsAmong_14 rfl (fun h14 => ?_) (fun h14 => ?_)
        · skip
          obtain ⟨q0, q1, q2, q3, q4, q5, q6, q7, q8, q9, q10, q11, q12, q13, q14, q15⟩ := fr_25 zf
          have zC := CoOk.mv zf hC
          have zE := EvOk25.mv zf hE
          have zR := RuOk.mv q15 q9 q10 q11 q12 hR
          have zl : bt (zmv 25 4) k = 0 := by rw [q13, hl]; exact bt_0 k
          have za : bt (zmv 25 5) k = 0 := by rw [q14, ha]; exact bt_0 k
          have zk0 : zmv 27 k = 0 := by rw [q1]; exact h14
          have zaim := (hE.2 k (by omega)).2.1
          have zpm := prF_mv25 zf
          refine e_aloadn (pc := 20) dX1_restsAmong_20 rfl rfl ?_
          refine e_iloadn (pc := 21) dX1_restsAmong_21 rfl rfl ?_
          refine e_callV (pc := 22) (as := [(0, (k : Int))]) (st := []) (t_gatherG_25 G zmv k zC zE) dX1_restsAmong_22 lX1_restsAmong_60 rfl s_25 cn_1 rfl rfl (fun r_ zm1 hq_ => ?_)
          obtain ⟨zr_, zG1⟩ := hq_
          subst zr_
          refine Ev.to (st' := []) ?_ rfl rfl rfl
          refine e_aloadn (pc := 25) dX1_restsAmong_25 rfl rfl ?_
          refine e_iloadn (pc := 26) dX1_restsAmong_26 rfl rfl ?_
          refine e_aloadn (pc := 27) dX1_restsAmong_27 rfl rfl ?_
          refine e_getr (pc := 28) (k := 28) dX1_restsAmong_28 fX1_21 s_25 rfl (by decide) ?_
          refine e_iloadn (pc := 31) dX1_restsAmong_31 rfl rfl ?_
          refine e_ialdv (pc := 32) (v := (((mem 28 k).toNat : Nat) : Int)) dX1_restsAmong_32 s_28 (by omega) (((zG1.1 28 k rfl).trans (zf 28 k rfl)).trans (by omega)) ?_
          refine e_callV (pc := 33) (as := [(0, (k : Int)), (0, (((mem 28 k).toNat : Nat) : Int))]) (st := []) (t_openPrice_25 G zmv zm1 k (mem 28 k).toNat (by omega) zC zE zR (by omega) zk0 zl za zG1) dX1_restsAmong_33 lX1_restsAmong_118 rfl s_25 cn_1 rfl rfl (fun r_ zm2 hq_ => ?_)
          rw [zpm] at hq_
          obtain ⟨zr_, zG2⟩ := hq_
          subst zr_
          refine Ev.to (st' := [(0, prA mem (mem 26) (mem 27) (mem 28) (mem 25 4) (mem 25 5) k (mem 28 k).toNat)]) ?_ rfl rfl rfl
          refine e_istore (pc := 36) (lo' := [(2, 25), (2, 35), (0, (n : Int)), (0, (k : Int)), (0, prA mem (mem 26) (mem 27) (mem 28) (mem 25 4) (mem 25 5) k (mem 28 k).toNat), (3, 0)]) dX1_restsAmong_36 rfl (by decide) rfl ?_
          refine e_iconst (pc := 38) dX1_restsAmong_38 (by decide) ?_
          refine e_istore (pc := 39) (lo' := [(2, 25), (2, 35), (0, (n : Int)), (0, (k : Int)), (0, prA mem (mem 26) (mem 27) (mem 28) (mem 25 4) (mem 25 5) k (mem 28 k).toNat), (0, 0)]) dX1_restsAmong_39 rfl (by decide) rfl ?_
          have L41 : ∀ (n_ : Nat) (i : Nat) (zmu : Mem), n - i = n_ → (i ≤ n) → (GS25 zmv zmu k) → (∀ i2, i2 < i → prA mem (mem 26) (mem 27) (mem 28) (mem 25 4) (mem 25 5) k (mem 28 k).toNat ≤ prA mem (mem 26) (mem 27) (mem 28) (mem 25 4) (mem 25 5) k (mem 35 i2).toNat) → Ev G mX1_restsAmong Q_ 41 [(2, 25), (2, 35), (0, (n : Int)), (0, (k : Int)), (0, prA mem (mem 26) (mem 27) (mem 28) (mem 25 4) (mem 25 5) k (mem 28 k).toNat), (0, (i : Int))] [] zmu := by
            intro n_
            induction n_ using Nat.strongRecOn with
            | ind n_ ih41 =>
              intro i zmu hn_ zi zGu zri
              refine e_iload (pc := 41) dX1_restsAmong_41 rfl ?_
              refine e_iloadn (pc := 43) dX1_restsAmong_43 rfl rfl ?_
              refine e_icmp_ge (pc := 44) (tgt := 76) dX1_restsAmong_44 rfl (fun h44 => ?_) (fun h44 => ?_)
              · skip
                refine e_iinc (pc := 76) (lo' := [(2, 25), (2, 35), (0, (n : Int)), (0, (k : Int) + 1), (0, prA mem (mem 26) (mem 27) (mem 28) (mem 25 4) (mem 25 5) k (mem 28 k).toNat), (0, (i : Int))]) dX1_restsAmong_76 rfl (by omega) rfl (by decide) rfl ?_
                refine e_goto (pc := 79) (tgt := 2) dX1_restsAmong_79 rfl ?_
                have zr2 : ∀ c, c < k + 1 → (mem 27 c = 0 → ∀ i, i < n → prA mem (mem 26) (mem 27) (mem 28) (mem 25 4) (mem 25 5) c (mem 28 c).toNat ≤ prA mem (mem 26) (mem 27) (mem 28) (mem 25 4) (mem 25 5) c (mem 35 i).toNat) := by
                  intro c hc hkc
                  rcases Nat.lt_or_ge c k with z | z
                  · exact zr c z hkc
                  · rw [show c = k by omega] at hkc ⊢
                    intro i2 hi2; exact zri i2 (by omega)
                refine Ev.fgt [4, 5] ?_
                exact Ev.to (ih2 _ (by omega) (k + 1) zmu (rfl) (by omega) (zf.tr zGu.1) (zr2)) rfl rfl rfl
              · skip
                refine e_iload (pc := 47) dX1_restsAmong_47 rfl ?_
                refine e_aloadn (pc := 49) dX1_restsAmong_49 rfl rfl ?_
                refine e_alen (pc := 50) dX1_restsAmong_50 s_35 (by decide) (by decide) ?_
                refine e_icmp_ge (pc := 51) (tgt := 76) dX1_restsAmong_51 rfl (fun h51 => ?_) (fun h51 => ?_)
                · skip
                  exfalso; omega
                · skip
                  have zmn := hm i (by omega)
                  refine e_aloadn (pc := 54) dX1_restsAmong_54 rfl rfl ?_
                  refine e_iloadn (pc := 55) dX1_restsAmong_55 rfl rfl ?_
                  refine e_aloadn (pc := 56) dX1_restsAmong_56 rfl rfl ?_
                  refine e_iload (pc := 57) dX1_restsAmong_57 rfl ?_
                  refine e_ialdv (pc := 59) (v := (((mem 35 i).toNat : Nat) : Int)) dX1_restsAmong_59 s_35 (by omega) (((zGu.1 35 i rfl).trans (zf 35 i rfl)).trans (by omega)) ?_
                  refine e_callV (pc := 60) (as := [(0, (k : Int)), (0, (((mem 35 i).toNat : Nat) : Int))]) (st := []) (t_openPrice_25 G zmv zmu k (mem 35 i).toNat (by omega) zC zE zR (by omega) zk0 zl za zGu) dX1_restsAmong_60 lX1_restsAmong_118 rfl s_25 cn_1 rfl rfl (fun r_ zm3 hq_ => ?_)
                  rw [zpm] at hq_
                  obtain ⟨zr_, zG3⟩ := hq_
                  subst zr_
                  refine Ev.to (st' := [(0, prA mem (mem 26) (mem 27) (mem 28) (mem 25 4) (mem 25 5) k (mem 35 i).toNat)]) ?_ rfl rfl rfl
                  refine e_iload (pc := 63) dX1_restsAmong_63 rfl ?_
                  refine e_icmp_ge (pc := 65) (tgt := 70) dX1_restsAmong_65 rfl (fun h65 => ?_) (fun h65 => ?_)
                  · skip
                    refine e_iinc (pc := 70) (lo' := [(2, 25), (2, 35), (0, (n : Int)), (0, (k : Int)), (0, prA mem (mem 26) (mem 27) (mem 28) (mem 25 4) (mem 25 5) k (mem 28 k).toNat), (0, (i : Int) + 1)]) dX1_restsAmong_70 rfl (by omega) rfl (by decide) rfl ?_
                    refine e_goto (pc := 73) (tgt := 41) dX1_restsAmong_73 rfl ?_
                    have zri2 : ∀ i2, i2 < i + 1 → prA mem (mem 26) (mem 27) (mem 28) (mem 25 4) (mem 25 5) k (mem 28 k).toNat ≤ prA mem (mem 26) (mem 27) (mem 28) (mem 25 4) (mem 25 5) k (mem 35 i2).toNat := by
                      intro i2 hi2
                      rcases Nat.lt_or_ge i2 i with z | z
                      · exact zri i2 z
                      · rw [show i2 = i by omega]; omega
                    exact Ev.to (ih41 _ (by omega) (i + 1) zm3 (rfl) (by omega) (zG3) (zri2)) rfl rfl rfl
                  · skip
                    refine e_iconst (pc := 68) dX1_restsAmong_68 (by decide) ?_
                    have znot : ¬ ∀ c, c < 8 → (mem 27 c = 0 → ∀ i, i < n → prA mem (mem 26) (mem 27) (mem 28) (mem 25 4) (mem 25 5) c (mem 28 c).toNat ≤ prA mem (mem 26) (mem 27) (mem 28) (mem 25 4) (mem 25 5) c (mem 35 i).toNat) := fun z => by
                      have z1 := z k (by omega) h14 i (by omega)
                      omega
                    exact e_zret (pc := 69) dX1_restsAmong_69 rfl (by decide) (by rw [← hQ_]; exact ⟨false, rfl, zf.tr zG3.1, by simpa using znot⟩)
          exact Ev.to (L41 _ 0 zm2 (rfl) (by omega) (zG2) (fun i2 hi2 => by omega)) rfl rfl rfl
        · skip
          refine e_goto (pc := 17) (tgt := 76) dX1_restsAmong_17 rfl ?_
          refine e_iinc (pc := 76) (lo' := [(2, 25), (2, 35), (0, (n : Int)), (0, (k : Int) + 1), (3, 0), (3, 0)]) dX1_restsAmong_76 rfl (by omega) rfl (by decide) rfl ?_
          refine e_goto (pc := 79) (tgt := 2) dX1_restsAmong_79 rfl ?_
          have zr2 : ∀ c, c < k + 1 → (mem 27 c = 0 → ∀ i, i < n → prA mem (mem 26) (mem 27) (mem 28) (mem 25 4) (mem 25 5) c (mem 28 c).toNat ≤ prA mem (mem 26) (mem 27) (mem 28) (mem 25 4) (mem 25 5) c (mem 35 i).toNat) := by
            intro c hc hkc
            rcases Nat.lt_or_ge c k with z | z
            · exact zr c z hkc
            · rw [show c = k by omega] at hkc ⊢
              exact absurd hkc h14
          exact Ev.to (ih2 _ (by omega) (k + 1) zmv (rfl) (by omega) (zf) (zr2)) rfl rfl rfl
  exact Ev.to (L2 _ 0 mem (rfl) (by omega) (Fr.rf) (fun c hc => by omega)) rfl rfl rfl
