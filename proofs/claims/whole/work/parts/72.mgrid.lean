theorem pl_no {A : Mem} (hI : CI A) {n : Nat} (hn : A 1 0 = (n : Int)) {c : Nat} (hc : c < 8) (hq : plN A c = true) : c < n := by
  have : A 18 c = 0 := of_decide_eq_true hq
  exact (hI.cm hn hc).mp (by rw [this]; decide)
theorem pl_of {A : Mem} {c : Nat} (hq : plN A c = true) : A 18 c = 0 := of_decide_eq_true hq
theorem pl_kth {A zm : Mem} (h : PLr A zm) {k : Nat} (hk : k < cnt (plN A) 8) : ∃ c, c < 8 ∧ plN A c = true ∧ cnt (plN A) c = k ∧ zm 65 k = (c : Int) := by
  obtain ⟨c, h1, h2, h3⟩ := cnt_kth hk
  exact ⟨c, h1, h2, h3, by rw [← h3]; exact h.2 c h1 h2⟩

theorem m_gathers (G : Gm) (A mem : Mem) (hI : CI A) (hM : MI A mem) : Con G mX8_gathers [(2, 49)] mem (fun r m' => r = some (0, if cnt (plN A) 8 < 4 then 1 else 0) ∧ MI A m' ∧ PLr A m' ∧ Fr scZ mem m') := by
  refine Con.of (lo := [(2, 49), (3, 0)]) (by decide +kernel) (Nat.le_of_ble_eq_true rfl) rfl ?_
  generalize hQ_ : (fun r m' => r = some (0, if cnt (plN A) 8 < 4 then 1 else 0) ∧ MI A m' ∧ PLr A m' ∧ Fr scZ mem m' : Option AV → Mem → Prop) = Q_
  obtain ⟨n, zn1, zn2, _⟩ := hI.2.2.2.2.1
  refine e_aloadn (pc := 0) dX8_gathers_0 rfl rfl ?_
  refine e_iconst (pc := 1) dX8_gathers_1 (by decide) ?_
  refine e_putI (pc := 2) (mem2 := mset mem 49 31 0) dX8_gathers_2 fX8_214 s_49 rfl (by decide) pw_8_31 rfl ?_
  refine e_iconst (pc := 5) dX8_gathers_5 (by decide) ?_
  refine e_istoren (pc := 6) (lo' := [(2, 49), (0, 0)]) dX8_gathers_6 rfl rfl (by decide) rfl ?_
  have L7 : ∀ (n_ : Nat) (k : Nat) (zmv : Mem), 8 - k = n_ → (k ≤ n) → (MI A zmv) → (Fr scZ mem zmv) → (zmv 49 31 = ((cnt (plN A) k : Nat) : Int)) → (∀ c, c < k → plN A c = true → zmv 65 (cnt (plN A) c) = (c : Int)) → Ev G mX8_gathers Q_ 7 [(2, 49), (0, (k : Int))] [] zmv := by
    intro n_
    induction n_ using Nat.strongRecOn with
    | ind n_ ih7 =>
      intro k zmv hn_ zk zM zf zK zR
      refine e_iloadn (pc := 7) dX8_gathers_7 rfl rfl ?_
      refine e_aloadn (pc := 8) dX8_gathers_8 rfl rfl ?_
      refine e_getiv (pc := 9) (v := (n : Int)) dX8_gathers_9 fX8_99 s_49 rfl (by decide) (zM.1.1.trans zn1) ?_
      refine e_icmp_ge (pc := 12) (tgt := 50) dX8_gathers_12 rfl (fun h12 => ?_) (fun h12 => ?_)
      · skip
        have zke : k = n := by omega
        have zc8 : cnt (plN A) n = cnt (plN A) 8 := cnt_n8 zn2 (fun c hc hq => Bool.eq_false_iff.mpr (fun z => by have := pl_no hI zn1 hc z; omega))
        rw [zke, zc8] at zK
        have zPL : PLr A zmv := ⟨zK, fun c hc hq => zR c (by have := pl_no hI zn1 hc hq; omega) hq⟩
        refine e_aloadn (pc := 50) dX8_gathers_50 rfl rfl ?_
        refine e_getiv (pc := 51) (v := ((cnt (plN A) 8 : Nat) : Int)) dX8_gathers_51 fX8_214 s_49 rfl (by decide) (zK) ?_
        refine e_iconst (pc := 54) dX8_gathers_54 (by decide) ?_
        refine e_icmp_ge (pc := 55) (tgt := 62) dX8_gathers_55 rfl (fun h55 => ?_) (fun h55 => ?_)
        · skip
          refine e_iconst (pc := 62) dX8_gathers_62 (by decide) ?_
          exact e_zret (pc := 63) dX8_gathers_63 rfl (by decide) (by rw [← hQ_]; exact ⟨by rw [if_neg (by omega)], zM, zPL, zf⟩)
        · skip
          refine e_iconst (pc := 58) dX8_gathers_58 (by decide) ?_
          refine e_goto (pc := 59) (tgt := 63) dX8_gathers_59 rfl ?_
          exact e_zret (pc := 63) dX8_gathers_63 rfl (by decide) (by rw [← hQ_]; exact ⟨by rw [if_pos (by omega)], zM, zPL, zf⟩)
      · skip
        have zk8 : k < 8 := by omega
        have zq0 := (zM.1.2 k zk8 ((hI.cm zn1 zk8).mpr (by omega))).1.1
        have zcl := cnt_le (plN A) k
        refine e_aloadn (pc := 15) dX8_gathers_15 rfl rfl ?_
        refine e_getr (pc := 16) (k := 50) dX8_gathers_16 fX8_7 s_49 rfl (by decide) ?_
        refine e_iloadn (pc := 19) dX8_gathers_19 rfl rfl ?_
        refine e_ialdv (pc := 20) (v := (A 18 k)) dX8_gathers_20 s_50 (by omega) (zq0) ?_
        refine e_if_ne (pc := 21) (tgt := 44) dX8_gathers_21 rfl (fun h21 => ?_) (fun h21 => ?_)
        · skip
          refine e_iinc (pc := 44) (lo' := [(2, 49), (0, (k : Int) + 1)]) dX8_gathers_44 rfl (by omega) rfl (by decide) rfl ?_
          refine e_goto (pc := 47) (tgt := 7) dX8_gathers_47 rfl ?_
          have zlq : ¬ plN A k = true := fun q => h21 (pl_of q)
          have zR2 : ∀ c, c < k + 1 → plN A c = true → zmv 65 (cnt (plN A) c) = (c : Int) := fun c hc hq => by
            by_cases zz : c = k
            · rw [zz] at hq; exact absurd hq zlq
            · exact zR c (by omega) hq
          exact Ev.to (ih7 _ (by omega) (k + 1) zmv (rfl) (by omega) (zM) (zf) (by rw [cnt_s, if_neg zlq]; exact zK) (zR2)) rfl rfl rfl
        · skip
          have zlq : plN A k = true := decide_eq_true h21
          refine e_aloadn (pc := 24) dX8_gathers_24 rfl rfl ?_
          refine e_getr (pc := 25) (k := 65) dX8_gathers_25 fX8_56 s_49 rfl (by decide) ?_
          refine e_aloadn (pc := 28) dX8_gathers_28 rfl rfl ?_
          refine e_getiv (pc := 29) (v := ((cnt (plN A) k : Nat) : Int)) dX8_gathers_29 fX8_214 s_49 rfl (by decide) (zK) ?_
          refine e_iloadn (pc := 32) dX8_gathers_32 rfl rfl ?_
          refine e_iastm (pc := 33) (mem2 := mset zmv 65 (cnt (plN A) k) (k : Int)) dX8_gathers_33 s_65 (by omega) rfl ?_
          refine e_aloadn (pc := 34) dX8_gathers_34 rfl rfl ?_
          refine e_dup (pc := 35) dX8_gathers_35 rfl ?_
          refine e_getiv (pc := 36) (v := ((cnt (plN A) k : Nat) : Int)) dX8_gathers_36 fX8_214 s_49 rfl (by decide) (zK) ?_
          refine e_iconst (pc := 39) dX8_gathers_39 (by decide) ?_
          refine e_iaddn (pc := 40) dX8_gathers_40 (by omega) ?_
          refine e_putI (pc := 41) (mem2 := mset (mset zmv 65 (cnt (plN A) k) (k : Int)) 49 31 (((cnt (plN A) k : Nat) : Int) + 1)) dX8_gathers_41 fX8_214 s_49 rfl (by decide) pw_8_31 rfl ?_
          refine e_iinc (pc := 44) (lo' := [(2, 49), (0, (k : Int) + 1)]) dX8_gathers_44 rfl (by omega) rfl (by decide) rfl ?_
          refine e_goto (pc := 47) (tgt := 7) dX8_gathers_47 rfl ?_
          have zR2 : ∀ c, c < k + 1 → plN A c = true → (mset (mset zmv 65 (cnt (plN A) k) (k : Int)) 49 31 (((cnt (plN A) k : Nat) : Int) + 1)) 65 (cnt (plN A) c) = (c : Int) := fun c hc hq => by
            show mset zmv 65 (cnt (plN A) k) (k : Int) 65 (cnt (plN A) c) = _
            by_cases zz : c = k
            · rw [zz, mset_eq]
            · have := cnt_lt_of (p := (plN A)) (show c < k by omega) hq
              rw [mset_nj _ _ _ _ (by omega)]
              exact zR c (by omega) hq
          exact Ev.to (ih7 _ (by omega) (k + 1) (mset (mset zmv 65 (cnt (plN A) k) (k : Int)) 49 31 (((cnt (plN A) k : Nat) : Int) + 1)) (rfl) (by omega) (zM.v (((Fr.rf (S := scV)).ms rfl).ms rfl)) ((zf.ms rfl).ms rfl) (by rw [cnt_s, if_pos zlq]; rfl) (zR2)) rfl rfl rfl
  exact Ev.to (L7 _ 0 (mset mem 49 31 0) (rfl) (by omega) (hM.v ((Fr.rf (S := scV)).ms rfl)) (Fr.rf.ms rfl) (rfl) (fun c hc => absurd hc (by omega))) rfl rfl rfl

theorem PLr.mv {A zm zn : Mem} (h : PLr A zm) (e : zn 49 31 = zm 49 31) (e2 : zn 65 = zm 65) : PLr A zn := by unfold PLr; rw [e, e2]; exact h
theorem GRr.mv {A zm zn : Mem} {g : Int} (h : GRr A zm g) (e1 : zn 49 35 = zm 49 35) (e2 : zn 49 36 = zm 49 36) (e3 : zn 68 = zm 68) : GRr A zn g := by unfold GRr; rw [e1, e2, e3]; exact h
theorem CTr.mv {A zm zn : Mem} {g : Int} {i : Nat} (h : CTr A zm g i) (e1 : zn 66 = zm 66) (e2 : zn 67 = zm 67) : CTr A zn g i := by unfold CTr; rw [e1, e2]; exact h
def sc62 (c j : Nat) : Bool := c == 62
def sc66 (c j : Nat) : Bool := c == 66
theorem pw_le {g : Int} (hg : 5 ≤ g ∧ g ≤ 30) {k : Nat} (hk : k ≤ 3) : 1 ≤ mkN g ^ k ∧ mkN g ^ k ≤ 2197 := by
  have h0 := mk_bd hg
  have h1 : 0 < mkN g ^ k := Nat.pow_pos (by omega)
  have h2 : mkN g ^ k ≤ mkN g ^ 3 := Nat.pow_le_pow_right (by omega) hk
  have h3 : mkN g ^ 3 ≤ 13 ^ 3 := Nat.pow_le_pow_left h0.2 3
  omega

theorem m_grids (G : Gm) (A mem : Mem) (g : Int) (hg : 5 ≤ g ∧ g ≤ 30) (h3 : cnt (plN A) 8 ≤ 3) (hI : CI A) (hM : MI A mem) (hP : PLr A mem) : Con G mX8_grids [(2, 49), (0, g)] mem (fun r m' => r = none ∧ MI A m' ∧ PLr A m' ∧ GRr A m' g ∧ CTr A m' g (wyN A g) ∧ Fr scZ mem m') := by
  refine Con.of (lo := [(2, 49), (0, g), (3, 0), (3, 0)]) (by decide +kernel) (Nat.le_of_ble_eq_true rfl) rfl ?_
  generalize hQ_ : (fun r m' => r = none ∧ MI A m' ∧ PLr A m' ∧ GRr A m' g ∧ CTr A m' g (wyN A g) ∧ Fr scZ mem m' : Option AV → Mem → Prop) = Q_
  have zmb := mk_bd hg
  have zdv : (59 + g) / g + 1 = ((mkN g : Nat) : Int) := by
    have z1 : 1 ≤ (59 + g) / g := Int.le_ediv_of_mul_le (by omega) (by omega)
    unfold mkN
    omega
  have zNw : wyN A g = mkN g ^ cnt (plN A) 8 := rfl
  have zNb := pw_le hg h3
  rw [← zNw] at zNb
  refine e_aloadn (pc := 0) dX8_grids_0 rfl rfl ?_
  refine e_bipush (pc := 1) dX8_grids_1 rfl (by decide) ?_
  refine e_iloadn (pc := 3) dX8_grids_3 rfl rfl ?_
  refine e_iaddn (pc := 4) dX8_grids_4 (by omega) ?_
  refine e_iconst (pc := 5) dX8_grids_5 (by decide) ?_
  refine e_isubn (pc := 6) dX8_grids_6 (by omega) ?_
  refine e_iloadn (pc := 7) dX8_grids_7 rfl rfl ?_
  refine e_idiv (pc := 8) dX8_grids_8 (by omega) ?_
  rw [show bDiv ((60 + g) - 1) g = (59 + g) / g from by rw [show 60 + g - 1 = 59 + g by omega]; exact bDivP (by omega) (by omega)]
  refine e_iconst (pc := 9) dX8_grids_9 (by decide) ?_
  refine e_iaddn (pc := 10) dX8_grids_10 (by omega) ?_
  refine e_putI (pc := 11) (mem2 := mset mem 49 35 ((mkN g : Nat) : Int)) dX8_grids_11 fX8_217 s_49 rfl (by decide) pw_8_35 (by rw [zdv]) ?_
  refine e_aloadn (pc := 14) dX8_grids_14 rfl rfl ?_
  refine e_iconst (pc := 15) dX8_grids_15 (by decide) ?_
  refine e_putI (pc := 16) (mem2 := mset (mset mem 49 35 ((mkN g : Nat) : Int)) 49 36 1) dX8_grids_16 fX8_220 s_49 rfl (by decide) pw_8_36 rfl ?_
  refine e_aloadn (pc := 19) dX8_grids_19 rfl rfl ?_
  refine e_getiv (pc := 20) (v := ((cnt (plN A) 8 : Nat) : Int)) dX8_grids_20 fX8_214 s_49 rfl (by decide) (hP.1) ?_
  refine e_iconst (pc := 23) dX8_grids_23 (by decide) ?_
  refine e_isubn (pc := 24) dX8_grids_24 (by omega) ?_
  refine e_istoren (pc := 25) (lo' := [(2, 49), (0, g), (0, ((cnt (plN A) 8 : Nat) : Int) - 1), (3, 0)]) dX8_grids_25 rfl rfl (by decide) rfl ?_
  have L26 : ∀ (n_ : Nat) (kk : Nat) (zmv : Mem), kk = n_ → (kk ≤ cnt (plN A) 8) → (MI A zmv) → (PLr A zmv) → (zmv 49 35 = ((mkN g : Nat) : Int)) → (zmv 49 36 = ((mkN g ^ (cnt (plN A) 8 - kk) : Nat) : Int)) → (∀ c, c < 8 → plN A c = true → kk ≤ cnt (plN A) c → zmv 68 (cnt (plN A) c) = ((mkN g ^ rkP (plN A) c : Nat) : Int)) → (Fr scZ mem zmv) → Ev G mX8_grids Q_ 26 [(2, 49), (0, g), (0, (kk : Int) - 1), (3, 0)] [] zmv := by
    intro n_
    induction n_ using Nat.strongRecOn with
    | ind n_ ih26 =>
      intro kk zmv hn_ zkk zM zP z35 z36 z68 zf
      refine e_iloadn (pc := 26) dX8_grids_26 rfl rfl ?_
      refine e_if_lt (pc := 27) (tgt := 59) dX8_grids_27 rfl (fun h27 => ?_) (fun h27 => ?_)
      · skip
        have zk0 : kk = 0 := by omega
        have zG0 : GRr A zmv g := ⟨z35, by rw [z36, zk0]; rfl, fun c hc hq => z68 c hc hq (by omega)⟩
        refine e_aloadn (pc := 59) dX8_grids_59 rfl rfl ?_
        refine e_callV (pc := 60) (as := []) (st := []) (m_asTold G A zmv hI zM) dX8_grids_60 lX8_grids_190 rfl s_49 cn_8 rfl rfl (fun r_ zma hq_ => ?_)
        obtain ⟨zr_, zMa, zfa, zEa⟩ := hq_
        subst zr_
        have zPa := zP.mv (zfa 49 31 rfl) (funext (fun j => zfa 65 j rfl))
        have zGa := zG0.mv (zfa 49 35 rfl) (zfa 49 36 rfl) (funext (fun j => zfa 68 j rfl))
        have zfz := zf.tr (scHZ zfa)
        refine Ev.to (st' := []) ?_ rfl rfl rfl
        refine e_iconst (pc := 63) dX8_grids_63 (by decide) ?_
        refine e_istoren (pc := 64) (lo' := [(2, 49), (0, g), (0, 0), (3, 0)]) dX8_grids_64 rfl rfl (by decide) rfl ?_
        have L65 : ∀ (n_ : Nat) (i : Nat) (am : Nat → Int) (zmx : Mem), wyN A g - i = n_ → (i ≤ wyN A g) → (MI A zmx) → (ME A zmx (A 17) (A 18) am 0 0) → (PLr A zmx) → (GRr A zmx g) → (CTr A zmx g i) → (Fr scZ mem zmx) → Ev G mX8_grids Q_ 65 [(2, 49), (0, g), (0, (i : Int)), (3, 0)] [] zmx := by
          intro n_
          induction n_ using Nat.strongRecOn with
          | ind n_ ih65 =>
            intro i am zmx hn_ zi zMx zEx zPx zGx zCx zfx
            refine e_iloadn (pc := 65) dX8_grids_65 rfl rfl ?_
            refine e_aloadn (pc := 66) dX8_grids_66 rfl rfl ?_
            refine e_getiv (pc := 67) (v := ((wyN A g : Nat) : Int)) dX8_grids_67 fX8_220 s_49 rfl (by decide) (zGx.2.1) ?_
            refine e_icmp_ge (pc := 70) (tgt := 179) dX8_grids_70 rfl (fun h70 => ?_) (fun h70 => ?_)
            · skip
              have zie : i = wyN A g := by omega
              rw [zie] at zCx
              exact e_vret (pc := 179) dX8_grids_179 rfl (by rw [← hQ_]; exact ⟨rfl, zMx, zPx, zGx, zCx, zfx⟩)
            · skip
              refine e_iconst (pc := 73) dX8_grids_73 (by decide) ?_
              refine e_istoren (pc := 74) (lo' := [(2, 49), (0, g), (0, (i : Int)), (0, 0)]) dX8_grids_74 rfl rfl (by decide) rfl ?_
              have L75 : ∀ (n_ : Nat) (k : Nat) (zmw : Mem), 8 - k = n_ → (k ≤ cnt (plN A) 8) → (Fr sc62 zmx zmw) → (∀ c, c < 8 → plN A c = true → cnt (plN A) c < k → zmw 62 c = grT A g i c) → Ev G mX8_grids Q_ 75 [(2, 49), (0, g), (0, (i : Int)), (0, (k : Int))] [] zmw := by
                intro n_
                induction n_ using Nat.strongRecOn with
                | ind n_ ih75 =>
                  intro k zmw hn_ zk zf62 zrow
                  refine e_iloadn (pc := 75) dX8_grids_75 rfl rfl ?_
                  refine e_aloadn (pc := 76) dX8_grids_76 rfl rfl ?_
                  refine e_getiv (pc := 77) (v := ((cnt (plN A) 8 : Nat) : Int)) dX8_grids_77 fX8_214 s_49 rfl (by decide) ((zf62 49 31 rfl).trans zPx.1) ?_
                  refine e_icmp_ge (pc := 80) (tgt := 121) dX8_grids_80 rfl (fun h80 => ?_) (fun h80 => ?_)
                  · skip
                    have zE1 : ME A zmw (A 17) (A 18) (grT A g i) 0 0 := by
                      have z0 := zEx
                      obtain ⟨e1, e2, e3, e4, e5⟩ := z0
                      refine ⟨?_, ?_, ?_, fun c hc hk => zrow c hc (decide_eq_true hk) (by have := (rk_of (p := (plN A)) (decide_eq_true hk) hc).2; omega), ev_gr hg hI i⟩
                      · rw [zf62 49 22 rfl, zf62 49 23 rfl, zf62 49 24 rfl]; exact e1
                      · rw [zf62 49 25 rfl, zf62 49 26 rfl, zf62 49 27 rfl]; exact e2
                      · rw [zf62 49 25 rfl]; exact e3
                    have zM1 := zMx.v (zf62.mono (fun c j q => by unfold scV at q; unfold sc62; simp at q ⊢; omega))
                    refine e_aloadn (pc := 121) dX8_grids_121 rfl rfl ?_
                    refine e_callV (pc := 122) (as := []) (st := []) (m_goes G A zmw (A 17) (A 18) (grT A g i) 0 0 hI zM1 zE1) dX8_grids_122 lX8_grids_193 rfl s_49 cn_8 rfl rfl (fun r_ zm1 hq_ => ?_)
                    obtain ⟨zr_, zM2, zf1, zG2⟩ := hq_
                    subst zr_
                    have zE2 := zE1.o zf1
                    have zPm := (zPx.mv (zf62 49 31 rfl) (funext (fun j => zf62 65 j rfl))).mv (zf1 49 31 rfl) (funext (fun j => zf1 65 j rfl))
                    have zGm := (zGx.mv (zf62 49 35 rfl) (zf62 49 36 rfl) (funext (fun j => zf62 68 j rfl))).mv (zf1 49 35 rfl) (zf1 49 36 rfl) (funext (fun j => zf1 68 j rfl))
                    have zfm : Fr scZ mem zm1 := (zfx.tr (zf62.mono (fun c j q => by unfold scZ at q; unfold sc62; simp at q ⊢; omega))).tr (scOZ zf1)
                    refine Ev.to (st' := []) ?_ rfl rfl rfl
                    refine e_iconst (pc := 125) dX8_grids_125 (by decide) ?_
                    refine e_istoren (pc := 126) (lo' := [(2, 49), (0, g), (0, (i : Int)), (0, 0)]) dX8_grids_126 rfl rfl (by decide) rfl ?_
                    have L127 : ∀ (n_ : Nat) (k : Nat) (zmy : Mem), 8 - k = n_ → (k ≤ cnt (plN A) 8) → (Fr sc66 zm1 zmy) → (∀ c, c < 8 → plN A c = true → cnt (plN A) c < k → zmy 66 (2197 * cnt (plN A) c + i) = csQ A g i c) → (∀ c, c < 8 → plN A c = true → ∀ j, j < i → zmy 66 (2197 * cnt (plN A) c + j) = zm1 66 (2197 * cnt (plN A) c + j)) → Ev G mX8_grids Q_ 127 [(2, 49), (0, g), (0, (i : Int)), (0, (k : Int))] [] zmy := by
                      intro n_
                      induction n_ using Nat.strongRecOn with
                      | ind n_ ih127 =>
                        intro k zmy hn_ zk2 zf66 zcost zold
                        refine e_iloadn (pc := 127) dX8_grids_127 rfl rfl ?_
                        refine e_aloadn (pc := 128) dX8_grids_128 rfl rfl ?_
                        refine e_getiv (pc := 129) (v := ((cnt (plN A) 8 : Nat) : Int)) dX8_grids_129 fX8_214 s_49 rfl (by decide) ((zf66 49 31 rfl).trans zPm.1) ?_
                        refine e_icmp_ge (pc := 132) (tgt := 163) dX8_grids_132 rfl (fun h132 => ?_) (fun h132 => ?_)
                        · skip
                          have zM3 := (zM2.v (zf66.mono (fun c j q => by unfold scV at q; unfold sc66; simp at q ⊢; omega)))
                          have zE3 := (zE2.mv (fun j h1 h2 => zf66 49 j rfl) (funext (fun j => zf66 62 j rfl)))
                          have zP3 := zPm.mv (zf66 49 31 rfl) (funext (fun j => zf66 65 j rfl))
                          have zG3r := zGm.mv (zf66 49 35 rfl) (zf66 49 36 rfl) (funext (fun j => zf66 68 j rfl))
                          have zf3 : Fr scZ mem zmy := zfm.tr (zf66.mono (fun c j q => by unfold scZ at q; unfold sc66; simp at q ⊢; omega))
                          refine e_aloadn (pc := 163) dX8_grids_163 rfl rfl ?_
                          refine e_getr (pc := 164) (k := 67) dX8_grids_164 fX8_62 s_49 rfl (by decide) ?_
                          refine e_iloadn (pc := 167) dX8_grids_167 rfl rfl ?_
                          refine e_aloadn (pc := 168) dX8_grids_168 rfl rfl ?_
                          refine e_callVr (pc := 169) (as := []) (st := [(0, (i : Int)), (2, 67)]) (m_paysAll G A zmy (A 17) (A 18) (grT A g i) 0 0 hI (zM2.v (zf66.mono (fun c j q => by unfold scV at q; unfold sc66; simp at q ⊢; omega))) (zE2.mv (fun j h1 h2 => zf66 49 j rfl) (funext (fun j => zf66 62 j rfl))) (show GO A zmy (A 17) (A 18) (grT A g i) 0 0 from ⟨(zf66 49 30 rfl).trans zG2.1, fun c hc hq => (zf66 63 c rfl).trans (zG2.2 c hc hq)⟩)) dX8_grids_169 lX8_grids_196 rfl s_49 cn_8 rfl rfl ?_
                          refine e_iastm (pc := 172) (mem2 := mset zmy 67 i (tgQ A g i)) dX8_grids_172 s_67 (by omega) rfl ?_
                          refine e_iinc (pc := 173) (lo' := [(2, 49), (0, g), (0, (i : Int) + 1), (0, (k : Int))]) dX8_grids_173 rfl (by omega) rfl (by decide) rfl ?_
                          refine e_goto (pc := 176) (tgt := 65) dX8_grids_176 rfl ?_
                          have zC4 : CTr A (mset zmy 67 i (tgQ A g i)) g (i + 1) := fun j hj => by
                            refine ⟨fun c hc hq => ?_, ?_⟩
                            · show zmy 66 (2197 * cnt (plN A) c + j) = _
                              by_cases zz : j = i
                              · rw [zz]; exact zcost c hc hq (by have := (rk_of hq hc).2; omega)
                              · rw [zold c hc hq j (by omega), show zm1 66 _ = zmw 66 _ from zf1 66 _ rfl, show zmw 66 _ = zmx 66 _ from zf62 66 _ rfl]
                                exact (zCx j (by omega)).1 c hc hq
                            · show mset zmy 67 i (tgQ A g i) 67 j = _
                              by_cases zz : j = i
                              · rw [zz, mset_eq]
                              · rw [mset_nj _ _ _ _ zz, show zmy 67 j = zm1 67 j from zf66 67 j rfl, show zm1 67 j = zmw 67 j from zf1 67 j rfl, show zmw 67 j = zmx 67 j from zf62 67 j rfl]
                                exact (zCx j (by omega)).2
                          refine Ev.fgt [3] ?_
                          exact Ev.to (ih65 _ (by omega) (i + 1) (grT A g i) (mset zmy 67 i (tgQ A g i)) (rfl) (by omega) (zM3.v ((Fr.rf (S := scV)).ms rfl)) (zE3.mv (fun j h1 h2 => rfl) rfl) (zP3.mv rfl rfl) (zG3r.mv rfl rfl rfl) (zC4) (zf3.ms rfl)) rfl rfl rfl
                        · skip
                          obtain ⟨c, zc1, zc2, zc3, zc4⟩ := pl_kth zPm (show k < cnt (plN A) 8 by omega)
                          have zcp := pl_of zc2
                          refine e_aloadn (pc := 135) dX8_grids_135 rfl rfl ?_
                          refine e_getr (pc := 136) (k := 66) dX8_grids_136 fX8_59 s_49 rfl (by decide) ?_
                          refine e_sipush (pc := 139) dX8_grids_139 rfl (by decide) ?_
                          refine e_iloadn (pc := 142) dX8_grids_142 rfl rfl ?_
                          refine e_imuln (pc := 143) dX8_grids_143 (by omega) ?_
                          refine e_iloadn (pc := 144) dX8_grids_144 rfl rfl ?_
                          refine e_iaddn (pc := 145) dX8_grids_145 (by omega) ?_
                          refine e_aloadn (pc := 146) dX8_grids_146 rfl rfl ?_
                          refine e_aloadn (pc := 147) dX8_grids_147 rfl rfl ?_
                          refine e_getr (pc := 148) (k := 65) dX8_grids_148 fX8_56 s_49 rfl (by decide) ?_
                          refine e_iloadn (pc := 151) dX8_grids_151 rfl rfl ?_
                          refine e_ialdv (pc := 152) (v := (c : Int)) dX8_grids_152 s_65 (by omega) ((zf66 65 k rfl).trans zc4) ?_
                          refine e_callVr (pc := 153) (as := [(0, (c : Int))]) (st := [(0, (2197 * (k : Int)) + (i : Int)), (2, 66)]) (m_paysNow G A zmy (A 17) (A 18) (grT A g i) 0 0 c zc1 (by rw [zcp]; decide) hI (zM2.v (zf66.mono (fun c j q => by unfold scV at q; unfold sc66; simp at q ⊢; omega))) (zE2.mv (fun j h1 h2 => zf66 49 j rfl) (funext (fun j => zf66 62 j rfl))) (show GO A zmy (A 17) (A 18) (grT A g i) 0 0 from ⟨(zf66 49 30 rfl).trans zG2.1, fun c hc hq => (zf66 63 c rfl).trans (zG2.2 c hc hq)⟩)) dX8_grids_153 lX8_grids_187 rfl s_49 cn_8 rfl rfl ?_
                          refine e_iastm (pc := 156) (mem2 := mset zmy 66 (2197 * k + i) (csQ A g i c)) dX8_grids_156 s_66 (by omega) (by rw [show (2197 * (k : Int) + (i : Int)).toNat = 2197 * k + i by omega]; rfl) ?_
                          refine e_iinc (pc := 157) (lo' := [(2, 49), (0, g), (0, (i : Int)), (0, (k : Int) + 1)]) dX8_grids_157 rfl (by omega) rfl (by decide) rfl ?_
                          refine e_goto (pc := 160) (tgt := 127) dX8_grids_160 rfl ?_
                          have zcn : ∀ d, d < 8 → plN A d = true → cnt (plN A) d < k + 1 → (mset zmy 66 (2197 * k + i) (csQ A g i c)) 66 (2197 * cnt (plN A) d + i) = csQ A g i d := fun d hd hq hk => by
                            rw [mset_row]
                            by_cases zz : d = c
                            · rw [zz, zc3, uset_eq]
                            · have z1 : cnt (plN A) d ≠ k := fun q => zz (cnt_inj hq zc2 (q.trans zc3.symm))
                              rw [uset_ne _ _ (by omega)]; exact zcost d hd hq (by omega)
                          have zon : ∀ d, d < 8 → plN A d = true → ∀ j, j < i → (mset zmy 66 (2197 * k + i) (csQ A g i c)) 66 (2197 * cnt (plN A) d + j) = zm1 66 (2197 * cnt (plN A) d + j) := fun d hd hq j hj => by
                            rw [mset_row, uset_ne _ _ (by omega)]; exact zold d hd hq j hj
                          exact Ev.to (ih127 _ (by omega) (k + 1) (mset zmy 66 (2197 * k + i) (csQ A g i c)) (rfl) (by omega) (zf66.ms rfl) (zcn) (zon)) rfl rfl rfl
                    exact Ev.to (L127 _ 0 zm1 (rfl) (by omega) (Fr.rf) (fun c hc hq hk => absurd hk (by omega)) (fun c hc hq j hj => rfl)) rfl rfl rfl
                  · skip
                    obtain ⟨c, zc1, zc2, zc3, zc4⟩ := pl_kth zPx (show k < cnt (plN A) 8 by omega)
                    have zrk := rk_of zc2 zc1
                    have zpw := pw_le hg (k := rkP (plN A) c) (by omega)
                    have zdl : dgP (plN A) (mkN g) i c < mkN g := dg_lt (by omega)
                    have zdi : i / mkN g ^ rkP (plN A) c ≤ i := Nat.div_le_self _ _
                    refine e_aloadn (pc := 83) dX8_grids_83 rfl rfl ?_
                    refine e_getr (pc := 84) (k := 62) dX8_grids_84 fX8_47 s_49 rfl (by decide) ?_
                    refine e_aloadn (pc := 87) dX8_grids_87 rfl rfl ?_
                    refine e_getr (pc := 88) (k := 65) dX8_grids_88 fX8_56 s_49 rfl (by decide) ?_
                    refine e_iloadn (pc := 91) dX8_grids_91 rfl rfl ?_
                    refine e_ialdv (pc := 92) (v := (c : Int)) dX8_grids_92 s_65 (by omega) ((zf62 65 k rfl).trans zc4) ?_
                    refine e_iloadn (pc := 93) dX8_grids_93 rfl rfl ?_
                    refine e_aloadn (pc := 94) dX8_grids_94 rfl rfl ?_
                    refine e_getiv (pc := 95) (v := ((mkN g : Nat) : Int)) dX8_grids_95 fX8_217 s_49 rfl (by decide) ((zf62 49 35 rfl).trans zGx.1) ?_
                    refine e_iloadn (pc := 98) dX8_grids_98 rfl rfl ?_
                    refine e_aloadn (pc := 99) dX8_grids_99 rfl rfl ?_
                    refine e_getr (pc := 100) (k := 68) dX8_grids_100 fX8_65 s_49 rfl (by decide) ?_
                    refine e_iloadn (pc := 103) dX8_grids_103 rfl rfl ?_
                    refine e_ialdv (pc := 104) (v := ((mkN g ^ rkP (plN A) c : Nat) : Int)) dX8_grids_104 s_68 (by omega) ((zf62 68 k rfl).trans (by rw [← zc3]; exact zGx.2.2 c zc1 zc2)) ?_
                    refine e_idiv (pc := 105) dX8_grids_105 (by omega) ?_
                    rw [show bDiv (i : Int) ((mkN g ^ rkP (plN A) c : Nat) : Int) = ((i / mkN g ^ rkP (plN A) c : Nat) : Int) from bDivN (by omega) (by omega)]
                    refine e_aloadn (pc := 106) dX8_grids_106 rfl rfl ?_
                    refine e_getiv (pc := 107) (v := ((mkN g : Nat) : Int)) dX8_grids_107 fX8_217 s_49 rfl (by decide) ((zf62 49 35 rfl).trans zGx.1) ?_
                    refine e_irem (pc := 110) dX8_grids_110 (by omega) ?_
                    rw [show bRem ((i / mkN g ^ rkP (plN A) c : Nat) : Int) ((mkN g : Nat) : Int) = ((dgP (plN A) (mkN g) i c : Nat) : Int) from bRemN (by omega) (by omega)]
                    refine e_callSr (pc := 111) (as := [(0, g), (0, ((mkN g : Nat) : Int)), (0, ((dgP (plN A) (mkN g) i c : Nat) : Int))]) (st := [(0, (c : Int)), (2, 62)]) (m_minuteOf G zmw g (mkN g) (dgP (plN A) (mkN g) i c) hg zdl zmb.2) dX8_grids_111 lX8_grids_223 rfl rfl rfl ?_
                    refine e_iastm (pc := 114) (mem2 := mset zmw 62 c (mnF g (mkN g) (dgP (plN A) (mkN g) i c))) dX8_grids_114 s_62 (by omega) rfl ?_
                    refine e_iinc (pc := 115) (lo' := [(2, 49), (0, g), (0, (i : Int)), (0, (k : Int) + 1)]) dX8_grids_115 rfl (by omega) rfl (by decide) rfl ?_
                    refine e_goto (pc := 118) (tgt := 75) dX8_grids_118 rfl ?_
                    have zrown : ∀ d, d < 8 → plN A d = true → cnt (plN A) d < k + 1 → (mset zmw 62 c (mnF g (mkN g) (dgP (plN A) (mkN g) i c))) 62 d = grT A g i d := fun d hd hq hk => by
                      rw [mset_row]
                      by_cases zz : d = c
                      · rw [zz, uset_eq]
                        unfold grT
                        rw [if_pos ⟨zc1, pl_of zc2⟩]
                      · have z1 : cnt (plN A) d ≠ k := fun q => zz (cnt_inj hq zc2 (q.trans zc3.symm))
                        rw [uset_ne _ _ zz]; exact zrow d hd hq (by omega)
                    exact Ev.to (ih75 _ (by omega) (k + 1) (mset zmw 62 c (mnF g (mkN g) (dgP (plN A) (mkN g) i c))) (rfl) (by omega) (zf62.ms rfl) (zrown)) rfl rfl rfl
              exact Ev.to (L75 _ 0 zmx (rfl) (by omega) (Fr.rf) (fun c hc hq hk => absurd hk (by omega))) rfl rfl rfl
        exact Ev.to (L65 _ 0 (A 19) zma (rfl) (by omega) (zMa) (zEa) (zPa) (zGa) (fun j hj => absurd hj (by omega)) (zfz)) rfl rfl rfl
      · skip
        refine e_aloadn (pc := 30) dX8_grids_30 rfl rfl ?_
        refine e_getr (pc := 31) (k := 68) dX8_grids_31 fX8_65 s_49 rfl (by decide) ?_
        refine e_iloadn (pc := 34) dX8_grids_34 rfl rfl ?_
        refine e_aloadn (pc := 35) dX8_grids_35 rfl rfl ?_
        refine e_getiv (pc := 36) (v := ((mkN g ^ (cnt (plN A) 8 - kk) : Nat) : Int)) dX8_grids_36 fX8_220 s_49 rfl (by decide) (z36) ?_
        refine e_iastm (pc := 39) (mem2 := mset zmv 68 (kk - 1) ((mkN g ^ (cnt (plN A) 8 - kk) : Nat) : Int)) dX8_grids_39 s_68 (by omega) (by rw [show ((kk : Int) - 1).toNat = kk - 1 by omega]) ?_
        refine e_aloadn (pc := 40) dX8_grids_40 rfl rfl ?_
        refine e_dup (pc := 41) dX8_grids_41 rfl ?_
        refine e_getiv (pc := 42) (v := ((mkN g ^ (cnt (plN A) 8 - kk) : Nat) : Int)) dX8_grids_42 fX8_220 s_49 rfl (by decide) (z36) ?_
        refine e_aloadn (pc := 45) dX8_grids_45 rfl rfl ?_
        refine e_getiv (pc := 46) (v := ((mkN g : Nat) : Int)) dX8_grids_46 fX8_217 s_49 rfl (by decide) (z35) ?_
        refine e_imuln (pc := 49) dX8_grids_49 (by have z1 := pw_le hg (k := cnt (plN A) 8 - kk + 1) (by omega); rw [Nat.pow_succ] at z1; rw [← Int.natCast_mul]; constructor <;> omega) ?_
        refine e_putI (pc := 50) (mem2 := mset (mset zmv 68 (kk - 1) ((mkN g ^ (cnt (plN A) 8 - kk) : Nat) : Int)) 49 36 (((mkN g ^ (cnt (plN A) 8 - kk) : Nat) : Int) * ((mkN g : Nat) : Int))) dX8_grids_50 fX8_220 s_49 rfl (by decide) pw_8_36 rfl ?_
        refine e_iinc (pc := 53) (lo' := [(2, 49), (0, g), (0, (kk : Int) - 1 + (-1)), (3, 0)]) dX8_grids_53 rfl (by omega) rfl (by decide) rfl ?_
        refine e_goto (pc := 56) (tgt := 26) dX8_grids_56 rfl ?_
        have z36n : (mset (mset zmv 68 (kk - 1) ((mkN g ^ (cnt (plN A) 8 - kk) : Nat) : Int)) 49 36 (((mkN g ^ (cnt (plN A) 8 - kk) : Nat) : Int) * ((mkN g : Nat) : Int))) 49 36 = ((mkN g ^ (cnt (plN A) 8 - (kk - 1)) : Nat) : Int) := by
          show ((mkN g ^ (cnt (plN A) 8 - kk) : Nat) : Int) * ((mkN g : Nat) : Int) = _
          rw [← Int.natCast_mul, ← Nat.pow_succ, show (cnt (plN A) 8 - kk).succ = cnt (plN A) 8 - (kk - 1) by omega]
        have z68n : ∀ c, c < 8 → plN A c = true → kk - 1 ≤ cnt (plN A) c → (mset (mset zmv 68 (kk - 1) ((mkN g ^ (cnt (plN A) 8 - kk) : Nat) : Int)) 49 36 (((mkN g ^ (cnt (plN A) 8 - kk) : Nat) : Int) * ((mkN g : Nat) : Int))) 68 (cnt (plN A) c) = ((mkN g ^ rkP (plN A) c : Nat) : Int) := fun c hc hq hk => by
          show mset zmv 68 (kk - 1) ((mkN g ^ (cnt (plN A) 8 - kk) : Nat) : Int) 68 (cnt (plN A) c) = _
          by_cases zz : cnt (plN A) c = kk - 1
          · rw [zz, mset_eq, (rk_of hq hc).1, show cnt (plN A) 8 - 1 - cnt (plN A) c = cnt (plN A) 8 - kk by omega]
          · rw [mset_nj _ _ _ _ zz]; exact z68 c hc hq (by omega)
        exact Ev.to (ih26 _ (by omega) (kk - 1) (mset (mset zmv 68 (kk - 1) ((mkN g ^ (cnt (plN A) 8 - kk) : Nat) : Int)) 49 36 (((mkN g ^ (cnt (plN A) 8 - kk) : Nat) : Int) * ((mkN g : Nat) : Int))) (rfl) (by omega) (zM.v (((Fr.rf (S := scV)).ms rfl).ms rfl)) (zP.mv rfl rfl) (z35) (z36n) (z68n) ((zf.ms rfl).ms rfl)) (by rw [show (kk : Int) - 1 + (-1) = ((kk - 1 : Nat) : Int) - 1 by omega]) rfl rfl
  exact Ev.to (L26 _ (cnt (plN A) 8) (mset (mset mem 49 35 ((mkN g : Nat) : Int)) 49 36 1) (rfl) (Nat.le_refl _) (hM.v (((Fr.rf (S := scV)).ms rfl).ms rfl)) (hP.mv rfl rfl) (rfl) (by rw [Nat.sub_self]; rfl) (fun c hc hq hk => absurd hk (by have := (rk_of hq hc).2; omega)) ((Fr.rf.ms rfl).ms rfl)) rfl rfl rfl
