theorem wkT_add {A : Mem} {tm kd am : Nat → Int} {f g : Nat} (h : E8 (wkT A tm kd am f) (wkT A tm kd am g)) : ∀ d : Nat, E8 (wkT A tm kd am (f + d)) (wkT A tm kd am (g + d))
  | 0 => h
  | d + 1 => fun c hc => by
    have ih := wkT_add h d
    have e : bfT A tm kd 0 0 false (wkT A tm kd am (f + d)) = bfT A tm kd 0 0 false (wkT A tm kd am (g + d)) := (bfT_cg SE.rf E3.rf E8.rf ih.ep).symm
    show nxA _ kd (wkT A tm kd am (f + d)) c = nxA _ kd (wkT A tm kd am (g + d)) c
    unfold nxA
    rw [e, ih c hc]
theorem lex_rep {A : Mem} {tm kd am : Nat → Int} {f g : Nat} (hf : f < g) (hg : g ≤ 60) (h : E8 (wkT A tm kd am f) (wkT A tm kd am g)) (h1 : ∀ f', f' < f → ∀ g', f' < g' → g' ≤ 60 → ¬ E8 (wkT A tm kd am f') (wkT A tm kd am g')) (h2 : ∀ g', f < g' → g' < g → ¬ E8 (wkT A tm kd am f) (wkT A tm kd am g')) : RepAt (wkT A tm kd am) 61 f g := by
  refine ⟨hf, by omega, h, fun g' hg' f' hf' q => ?_, fun f' hf' => h1 f' hf' g (by omega) hg⟩
  rcases Nat.lt_trichotomy f' f with z | z | z
  · exact h1 f' z g' hf' (by omega) q
  · rw [z] at q hf'; exact h2 g' hf' hg' q
  · have q2 := wkT_add q (g - g')
    rw [show g' + (g - g') = g by omega] at q2
    exact h2 (f' + (g - g')) (by omega) (by omega) (h.tr q2.sy)
/-- the model's row of aims of week u -/
noncomputable def rwV (A : Mem) (Z : Nat → Int) (u c : Nat) : Int := if A 18 c = 0 then wkT A (A 17) (A 18) (A 19) u c else Z c
theorem rwV_8 {A : Mem} {Z : Nat → Int} {n : Nat} (hn : n ≤ 8) (hp : ∀ c, c < 8 → n ≤ c → ¬ A 18 c = 0) (a b : Nat) : (∀ c, c < n → rwV A Z a c = rwV A Z b c) ↔ E8 (wkT A (A 17) (A 18) (A 19) a) (wkT A (A 17) (A 18) (A 19) b) := by
  rw [wkT_8]
  constructor
  · intro h c hc hk
    have := h c (Nat.lt_of_not_le (fun q => hp c hc q hk))
    unfold rwV at this
    rw [if_pos hk, if_pos hk] at this
    exact this
  · intro h c hc
    unfold rwV
    split
    · rename_i q; exact h c (by omega) q
    · rfl
/-- the weeks' rows -/
def WR (A zm : Mem) (Z : Nat → Int) (n N : Nat) : Prop := (∀ u, u < N → zm 70 u = wkS A u) ∧ ∀ u, u < N → ∀ c, c < n → zm 69 (8 * u + c) = rwV A Z u c

theorem m_weeks (G : Gm) (A mem : Mem) (U : Nat) (hU : U ≤ 60) (hI : CI A) (hM : MI A mem) : Con G mX8_weeks [(2, 49), (0, (U : Int))] mem (fun r m' => r = none ∧ MI A m' ∧ Fr scZ mem m' ∧ ∃ (Z : Nat → Int) (n : Nat), A 1 0 = (n : Int) ∧ n ≤ 8 ∧ WR A m' Z n (U + 1)) := by
  refine Con.of (lo := [(2, 49), (0, (U : Int)), (3, 0), (3, 0)]) (by decide +kernel) (Nat.le_of_ble_eq_true rfl) rfl ?_
  generalize hQ_ : (fun r m' => r = none ∧ MI A m' ∧ Fr scZ mem m' ∧ ∃ (Z : Nat → Int) (n : Nat), A 1 0 = (n : Int) ∧ n ≤ 8 ∧ WR A m' Z n (U + 1) : Option AV → Mem → Prop) = Q_
  obtain ⟨n, zn1, zn2, zn9⟩ := hI.2.2.2.2.1
  clear zn9
  have zwb := fun w => wkT_bd (A := A) (tm := A 17) (kd := A 18) (am := A 19) (fun c hc => (hI.2.1.2 c hc).2.1) w
  refine e_aloadn (pc := 0) dX8_weeks_0 rfl rfl ?_
  refine e_callV (pc := 1) (as := []) (st := []) (m_asTold G A mem hI hM) dX8_weeks_1 lX8_weeks_190 rfl s_49 cn_8 rfl rfl (fun r_ zma hq_ => ?_)
  obtain ⟨zr_, zMa, zfa, zEa⟩ := hq_
  subst zr_
  refine Ev.to (st' := []) ?_ rfl rfl rfl
  refine e_iconst (pc := 4) dX8_weeks_4 (by decide) ?_
  refine e_istoren (pc := 5) (lo' := [(2, 49), (0, (U : Int)), (0, 0), (3, 0)]) dX8_weeks_5 rfl rfl (by decide) rfl ?_
  have L6 : ∀ (n_ : Nat) (w : Nat) (zmv : Mem), U + 1 - w = n_ → (w ≤ U + 1) → (MI A zmv) → (w ≤ U → ME A zmv (A 17) (A 18) (wkT A (A 17) (A 18) (A 19) w) 0 0) → (w ≤ U → ∀ c, c < n → ¬ A 18 c = 0 → zmv 62 c = zma 62 c) → (WR A zmv (zma 62) n w) → (Fr scZ mem zmv) → Ev G mX8_weeks Q_ 6 [(2, 49), (0, (U : Int)), (0, (w : Int)), (3, 0)] [] zmv := by
    intro n_
    induction n_ using Nat.strongRecOn with
    | ind n_ ih6 =>
      intro w zmv hn_ zw zM zE zZ zR zf
      refine e_iloadn (pc := 6) dX8_weeks_6 rfl rfl ?_
      refine e_iloadn (pc := 7) dX8_weeks_7 rfl rfl ?_
      refine e_icmp_gt (pc := 8) (tgt := 148) dX8_weeks_8 rfl (fun h8 => ?_) (fun h8 => ?_)
      · skip
        have zwe : w = U + 1 := by omega
        rw [zwe] at zR
        exact e_vret (pc := 148) dX8_weeks_148 rfl (by rw [← hQ_]; exact ⟨rfl, zM, zf, _, n, zn1, zn2, zR⟩)
      · skip
        refine e_aloadn (pc := 11) dX8_weeks_11 rfl rfl ?_
        refine e_callV (pc := 12) (as := []) (st := []) (m_goes G A zmv (A 17) (A 18) (wkT A (A 17) (A 18) (A 19) w) 0 0 hI zM (zE (by omega))) dX8_weeks_12 lX8_weeks_193 rfl s_49 cn_8 rfl rfl (fun r_ zm1 hq_ => ?_)
        obtain ⟨zr_, zM1, zf1, zG1⟩ := hq_
        subst zr_
        have zE1 := (zE (by omega)).o zf1
        refine Ev.to (st' := []) ?_ rfl rfl rfl
        refine e_aloadn (pc := 15) dX8_weeks_15 rfl rfl ?_
        refine e_getr (pc := 16) (k := 70) dX8_weeks_16 fX8_71 s_49 rfl (by decide) ?_
        refine e_iloadn (pc := 19) dX8_weeks_19 rfl rfl ?_
        refine e_aloadn (pc := 20) dX8_weeks_20 rfl rfl ?_
        refine e_getiv (pc := 21) (v := (stT A (A 17) (A 18) (wkT A (A 17) (A 18) (A 19) w) 0 0)) dX8_weeks_21 fX8_178 s_49 rfl (by decide) (zG1.1) ?_
        refine e_iastm (pc := 24) (mem2 := mset zm1 70 w (stT A (A 17) (A 18) (wkT A (A 17) (A 18) (A 19) w) 0 0)) dX8_weeks_24 s_70 (by omega) rfl ?_
        refine e_iconst (pc := 25) dX8_weeks_25 (by decide) ?_
        refine e_istoren (pc := 26) (lo' := [(2, 49), (0, (U : Int)), (0, (w : Int)), (0, 0)]) dX8_weeks_26 rfl rfl (by decide) rfl ?_
        have L27 : ∀ (n_ : Nat) (k : Nat), 8 - k = n_ → (k ≤ n) → Ev G mX8_weeks Q_ 27 [(2, 49), (0, (U : Int)), (0, (w : Int)), (0, (k : Int))] [] (rset (mset zm1 70 w (stT A (A 17) (A 18) (wkT A (A 17) (A 18) (A 19) w) 0 0)) 69 (cpy (zm1 62) (zm1 69) 0 (8 * w) k)) := by
          intro n_
          induction n_ using Nat.strongRecOn with
          | ind n_ ih27 =>
            intro k hn_ zk
            refine e_iloadn (pc := 27) dX8_weeks_27 rfl rfl ?_
            refine e_aloadn (pc := 28) dX8_weeks_28 rfl rfl ?_
            refine e_getiv (pc := 29) (v := (n : Int)) dX8_weeks_29 fX8_99 s_49 rfl (by decide) (zM1.1.1.trans zn1) ?_
            refine e_icmp_ge (pc := 32) (tgt := 58) dX8_weeks_32 rfl (fun h32 => ?_) (fun h32 => ?_)
            · skip
              have zke : k = n := by omega
              rw [zke]
              obtain ⟨NX, zNX⟩ : ∃ NX : Nat → Int, ∀ c, NX c = if A 18 c = 0 then ((bfT A (A 17) (A 18) 0 0 false (wkT A (A 17) (A 18) (A 19) w) c : Nat) : Int) else zm1 62 c := ⟨fun c => if A 18 c = 0 then ((bfT A (A 17) (A 18) 0 0 false (wkT A (A 17) (A 18) (A 19) w) c : Nat) : Int) else zm1 62 c, fun _ => rfl⟩
              refine e_iconst (pc := 58) dX8_weeks_58 (by decide) ?_
              refine e_istoren (pc := 59) (lo' := [(2, 49), (0, (U : Int)), (0, (w : Int)), (0, 0)]) dX8_weeks_59 rfl rfl (by decide) rfl ?_
              have L60 : ∀ (n_ : Nat) (p : Nat) (zmw : Mem), 8 - p = n_ → (p ≤ n) → (MI A zmw) → (ME A zmw (A 17) (A 18) (wkT A (A 17) (A 18) (A 19) w) 0 0) → (zmw 62 = zm1 62) → (zmw 69 = (cpy (zm1 62) (zm1 69) 0 (8 * w) n)) → (zmw 70 = uset (zm1 70) w (stT A (A 17) (A 18) (wkT A (A 17) (A 18) (A 19) w) 0 0)) → (Fr scZ mem zmw) → (∀ c, c < p → zmw 71 c = NX c) → (0 < p → w < U) → Ev G mX8_weeks Q_ 60 [(2, 49), (0, (U : Int)), (0, (w : Int)), (0, (p : Int))] [] zmw := by
                intro n_
                induction n_ using Nat.strongRecOn with
                | ind n_ ih60 =>
                  intro p zmw hn_ zp zM2 zE2 z62 z69 z70 zfz z71 zpu
                  refine e_iloadn (pc := 60) dX8_weeks_60 rfl rfl ?_
                  refine e_aloadn (pc := 61) dX8_weeks_61 rfl rfl ?_
                  refine e_getiv (pc := 62) (v := (n : Int)) dX8_weeks_62 fX8_99 s_49 rfl (by decide) (zM2.1.1.trans zn1) ?_
                  refine e_icmp_ge (pc := 65) (tgt := 109) dX8_weeks_65 rfl (fun h65 => ?_) (fun h65 => ?_)
                  · skip
                    have z71d : w < U → ∀ c, c < n → zmw 71 c = NX c := fun hw c hc => z71 c (by omega)
                    refine e_iconst (pc := 109) dX8_weeks_109 (by decide) ?_
                    refine e_istoren (pc := 110) (lo' := [(2, 49), (0, (U : Int)), (0, (w : Int)), (0, 0)]) dX8_weeks_110 rfl rfl (by decide) rfl ?_
                    have L111 : ∀ (n_ : Nat) (q : Nat), 8 - q = n_ → (q ≤ n) → Ev G mX8_weeks Q_ 111 [(2, 49), (0, (U : Int)), (0, (w : Int)), (0, (q : Int))] [] (rset zmw 62 (mix (zmw 71) (zmw 62) q)) := by
                      intro n_
                      induction n_ using Nat.strongRecOn with
                      | ind n_ ih111 =>
                        intro q hn_ zq
                        refine e_iloadn (pc := 111) dX8_weeks_111 rfl rfl ?_
                        refine e_aloadn (pc := 112) dX8_weeks_112 rfl rfl ?_
                        refine e_getiv (pc := 113) (v := (n : Int)) dX8_weeks_113 fX8_99 s_49 rfl (by decide) (zM2.1.1.trans zn1) ?_
                        refine e_icmp_ge (pc := 116) (tgt := 142) dX8_weeks_116 rfl (fun h116 => ?_) (fun h116 => ?_)
                        · skip
                          have zq2 : w < U → q = n := fun hw => by omega
                          refine e_iinc (pc := 142) (lo' := [(2, 49), (0, (U : Int)), (0, (w : Int) + 1), (0, (q : Int))]) dX8_weeks_142 rfl (by omega) rfl (by decide) rfl ?_
                          refine e_goto (pc := 145) (tgt := 6) dX8_weeks_145 rfl ?_
                          have z62n : w < U → ∀ c, c < n → mix (zmw 71) (zmw 62) q c = NX c := fun hw c hc => by
                            rw [mix_lt (by have := zq2 hw; omega)]
                            exact z71d hw c hc
                          have zEn : w + 1 ≤ U → ME A (rset zmw 62 (mix (zmw 71) (zmw 62) q)) (A 17) (A 18) (wkT A (A 17) (A 18) (A 19) (w + 1)) 0 0 := fun hw => by
                            obtain ⟨e1, e2, e3, e4, e5⟩ := zE2
                            refine ⟨e1, e2, e3, fun c hc hk => ?_, e5.1, fun c hc => ⟨(e5.2 c hc).1, zwb (w + 1) c hc, (e5.2 c hc).2.2⟩⟩
                            have zcn := (hI.cm zn1 hc).mp (by rw [hk]; decide)
                            show mix (zmw 71) (zmw 62) q c = _
                            rw [z62n (by omega) c zcn, zNX]
                            show _ = nxA (bfT A (A 17) (A 18) 0 0 false) (A 18) (wkT A (A 17) (A 18) (A 19) w) c
                            unfold nxA
                            rw [if_pos hk, if_pos ⟨hc, hk⟩]
                          have zZn : w + 1 ≤ U → ∀ c, c < n → ¬ A 18 c = 0 → (rset zmw 62 (mix (zmw 71) (zmw 62) q)) 62 c = zma 62 c := fun hw c hc hk => by
                            show mix (zmw 71) (zmw 62) q c = _
                            rw [z62n (by omega) c hc, zNX, if_neg hk]
                            exact (zf1 62 c rfl).trans (zZ (by omega) c hc hk)
                          have zRn : WR A (rset zmw 62 (mix (zmw 71) (zmw 62) q)) (zma 62) n (w + 1) := by
                            refine ⟨fun u hu => ?_, fun u hu c hc => ?_⟩
                            · show zmw 70 u = _
                              rw [z70]
                              by_cases zz : u = w
                              · rw [zz, uset_eq]; rfl
                              · rw [uset_ne _ _ zz, show zm1 70 u = zmv 70 u from zf1 70 u rfl]; exact zR.1 u (by omega)
                            · show zmw 69 (8 * u + c) = _
                              rw [z69]
                              unfold cpy
                              by_cases zz : u = w
                              · rw [if_pos (by omega), show 0 + (8 * u + c - 8 * w) = c by omega, show zm1 62 c = zmv 62 c from zf1 62 c rfl, zz]
                                unfold rwV
                                by_cases zp : A 18 c = 0
                                · rw [if_pos zp]; exact (zE (by omega)).2.2.2.1 c (by omega) zp
                                · rw [if_neg zp]; exact zZ (by omega) c hc zp
                              · rw [if_neg (by omega), show zm1 69 (8 * u + c) = zmv 69 (8 * u + c) from zf1 69 _ rfl]; exact zR.2 u (by omega) c hc
                          refine Ev.fgt [3] ?_
                          exact Ev.to (ih6 _ (by omega) (w + 1) (rset zmw 62 (mix (zmw 71) (zmw 62) q)) (rfl) (by omega) (zM2.v ((Fr.rf (S := scV)).rs (fun _ => rfl))) (zEn) (zZn) (zRn) (zfz.rs (fun _ => rfl))) rfl rfl rfl
                        · skip
                          refine e_iloadn (pc := 119) dX8_weeks_119 rfl rfl ?_
                          refine e_iloadn (pc := 120) dX8_weeks_120 rfl rfl ?_
                          refine e_icmp_ge (pc := 121) (tgt := 142) dX8_weeks_121 rfl (fun h121 => ?_) (fun h121 => ?_)
                          · skip
                            have zq2 : w < U → q = n := fun hw => by omega
                            refine e_iinc (pc := 142) (lo' := [(2, 49), (0, (U : Int)), (0, (w : Int) + 1), (0, (q : Int))]) dX8_weeks_142 rfl (by omega) rfl (by decide) rfl ?_
                            refine e_goto (pc := 145) (tgt := 6) dX8_weeks_145 rfl ?_
                            have z62n : w < U → ∀ c, c < n → mix (zmw 71) (zmw 62) q c = NX c := fun hw c hc => by
                              rw [mix_lt (by have := zq2 hw; omega)]
                              exact z71d hw c hc
                            have zEn : w + 1 ≤ U → ME A (rset zmw 62 (mix (zmw 71) (zmw 62) q)) (A 17) (A 18) (wkT A (A 17) (A 18) (A 19) (w + 1)) 0 0 := fun hw => by
                              obtain ⟨e1, e2, e3, e4, e5⟩ := zE2
                              refine ⟨e1, e2, e3, fun c hc hk => ?_, e5.1, fun c hc => ⟨(e5.2 c hc).1, zwb (w + 1) c hc, (e5.2 c hc).2.2⟩⟩
                              have zcn := (hI.cm zn1 hc).mp (by rw [hk]; decide)
                              show mix (zmw 71) (zmw 62) q c = _
                              rw [z62n (by omega) c zcn, zNX]
                              show _ = nxA (bfT A (A 17) (A 18) 0 0 false) (A 18) (wkT A (A 17) (A 18) (A 19) w) c
                              unfold nxA
                              rw [if_pos hk, if_pos ⟨hc, hk⟩]
                            have zZn : w + 1 ≤ U → ∀ c, c < n → ¬ A 18 c = 0 → (rset zmw 62 (mix (zmw 71) (zmw 62) q)) 62 c = zma 62 c := fun hw c hc hk => by
                              show mix (zmw 71) (zmw 62) q c = _
                              rw [z62n (by omega) c hc, zNX, if_neg hk]
                              exact (zf1 62 c rfl).trans (zZ (by omega) c hc hk)
                            have zRn : WR A (rset zmw 62 (mix (zmw 71) (zmw 62) q)) (zma 62) n (w + 1) := by
                              refine ⟨fun u hu => ?_, fun u hu c hc => ?_⟩
                              · show zmw 70 u = _
                                rw [z70]
                                by_cases zz : u = w
                                · rw [zz, uset_eq]; rfl
                                · rw [uset_ne _ _ zz, show zm1 70 u = zmv 70 u from zf1 70 u rfl]; exact zR.1 u (by omega)
                              · show zmw 69 (8 * u + c) = _
                                rw [z69]
                                unfold cpy
                                by_cases zz : u = w
                                · rw [if_pos (by omega), show 0 + (8 * u + c - 8 * w) = c by omega, show zm1 62 c = zmv 62 c from zf1 62 c rfl, zz]
                                  unfold rwV
                                  by_cases zp : A 18 c = 0
                                  · rw [if_pos zp]; exact (zE (by omega)).2.2.2.1 c (by omega) zp
                                  · rw [if_neg zp]; exact zZ (by omega) c hc zp
                                · rw [if_neg (by omega), show zm1 69 (8 * u + c) = zmv 69 (8 * u + c) from zf1 69 _ rfl]; exact zR.2 u (by omega) c hc
                            refine Ev.fgt [3] ?_
                            exact Ev.to (ih6 _ (by omega) (w + 1) (rset zmw 62 (mix (zmw 71) (zmw 62) q)) (rfl) (by omega) (zM2.v ((Fr.rf (S := scV)).rs (fun _ => rfl))) (zEn) (zZn) (zRn) (zfz.rs (fun _ => rfl))) rfl rfl rfl
                          · skip
                            refine e_aloadn (pc := 124) dX8_weeks_124 rfl rfl ?_
                            refine e_getr (pc := 125) (k := 62) dX8_weeks_125 fX8_47 s_49 rfl (by decide) ?_
                            refine e_iloadn (pc := 128) dX8_weeks_128 rfl rfl ?_
                            refine e_aloadn (pc := 129) dX8_weeks_129 rfl rfl ?_
                            refine e_getr (pc := 130) (k := 71) dX8_weeks_130 fX8_74 s_49 rfl (by decide) ?_
                            refine e_iloadn (pc := 133) dX8_weeks_133 rfl rfl ?_
                            refine e_ialdv (pc := 134) (v := (zmw 71 q)) dX8_weeks_134 s_71 (by omega) (rfl) ?_
                            refine e_iastm (pc := 135) (mem2 := rset zmw 62 (mix (zmw 71) (zmw 62) (q + 1))) dX8_weeks_135 s_62 (by omega) (by rw [← mix_s]; exact mset_rset _ _ _ _ _) ?_
                            refine e_iinc (pc := 136) (lo' := [(2, 49), (0, (U : Int)), (0, (w : Int)), (0, (q : Int) + 1)]) dX8_weeks_136 rfl (by omega) rfl (by decide) rfl ?_
                            refine e_goto (pc := 139) (tgt := 111) dX8_weeks_139 rfl ?_
                            exact Ev.to (ih111 _ (by omega) (q + 1) (rfl) (by omega)) rfl rfl rfl
                    exact Ev.to (L111 _ 0 (rfl) (by omega)) rfl rfl (by rw [mix_0]; exact (rset_self _ 62).symm)
                  · skip
                    refine e_iloadn (pc := 68) dX8_weeks_68 rfl rfl ?_
                    refine e_iloadn (pc := 69) dX8_weeks_69 rfl rfl ?_
                    refine e_icmp_ge (pc := 70) (tgt := 109) dX8_weeks_70 rfl (fun h70 => ?_) (fun h70 => ?_)
                    · skip
                      have z71d : w < U → ∀ c, c < n → zmw 71 c = NX c := fun hw c hc => absurd hw (by omega)
                      refine e_iconst (pc := 109) dX8_weeks_109 (by decide) ?_
                      refine e_istoren (pc := 110) (lo' := [(2, 49), (0, (U : Int)), (0, (w : Int)), (0, 0)]) dX8_weeks_110 rfl rfl (by decide) rfl ?_
                      have L111 : ∀ (n_ : Nat) (q : Nat), 8 - q = n_ → (q ≤ n) → Ev G mX8_weeks Q_ 111 [(2, 49), (0, (U : Int)), (0, (w : Int)), (0, (q : Int))] [] (rset zmw 62 (mix (zmw 71) (zmw 62) q)) := by
                        intro n_
                        induction n_ using Nat.strongRecOn with
                        | ind n_ ih111 =>
                          intro q hn_ zq
                          refine e_iloadn (pc := 111) dX8_weeks_111 rfl rfl ?_
                          refine e_aloadn (pc := 112) dX8_weeks_112 rfl rfl ?_
                          refine e_getiv (pc := 113) (v := (n : Int)) dX8_weeks_113 fX8_99 s_49 rfl (by decide) (zM2.1.1.trans zn1) ?_
                          refine e_icmp_ge (pc := 116) (tgt := 142) dX8_weeks_116 rfl (fun h116 => ?_) (fun h116 => ?_)
                          · skip
                            have zq2 : w < U → q = n := fun hw => by omega
                            refine e_iinc (pc := 142) (lo' := [(2, 49), (0, (U : Int)), (0, (w : Int) + 1), (0, (q : Int))]) dX8_weeks_142 rfl (by omega) rfl (by decide) rfl ?_
                            refine e_goto (pc := 145) (tgt := 6) dX8_weeks_145 rfl ?_
                            have z62n : w < U → ∀ c, c < n → mix (zmw 71) (zmw 62) q c = NX c := fun hw c hc => by
                              rw [mix_lt (by have := zq2 hw; omega)]
                              exact z71d hw c hc
                            have zEn : w + 1 ≤ U → ME A (rset zmw 62 (mix (zmw 71) (zmw 62) q)) (A 17) (A 18) (wkT A (A 17) (A 18) (A 19) (w + 1)) 0 0 := fun hw => by
                              obtain ⟨e1, e2, e3, e4, e5⟩ := zE2
                              refine ⟨e1, e2, e3, fun c hc hk => ?_, e5.1, fun c hc => ⟨(e5.2 c hc).1, zwb (w + 1) c hc, (e5.2 c hc).2.2⟩⟩
                              have zcn := (hI.cm zn1 hc).mp (by rw [hk]; decide)
                              show mix (zmw 71) (zmw 62) q c = _
                              rw [z62n (by omega) c zcn, zNX]
                              show _ = nxA (bfT A (A 17) (A 18) 0 0 false) (A 18) (wkT A (A 17) (A 18) (A 19) w) c
                              unfold nxA
                              rw [if_pos hk, if_pos ⟨hc, hk⟩]
                            have zZn : w + 1 ≤ U → ∀ c, c < n → ¬ A 18 c = 0 → (rset zmw 62 (mix (zmw 71) (zmw 62) q)) 62 c = zma 62 c := fun hw c hc hk => by
                              show mix (zmw 71) (zmw 62) q c = _
                              rw [z62n (by omega) c hc, zNX, if_neg hk]
                              exact (zf1 62 c rfl).trans (zZ (by omega) c hc hk)
                            have zRn : WR A (rset zmw 62 (mix (zmw 71) (zmw 62) q)) (zma 62) n (w + 1) := by
                              refine ⟨fun u hu => ?_, fun u hu c hc => ?_⟩
                              · show zmw 70 u = _
                                rw [z70]
                                by_cases zz : u = w
                                · rw [zz, uset_eq]; rfl
                                · rw [uset_ne _ _ zz, show zm1 70 u = zmv 70 u from zf1 70 u rfl]; exact zR.1 u (by omega)
                              · show zmw 69 (8 * u + c) = _
                                rw [z69]
                                unfold cpy
                                by_cases zz : u = w
                                · rw [if_pos (by omega), show 0 + (8 * u + c - 8 * w) = c by omega, show zm1 62 c = zmv 62 c from zf1 62 c rfl, zz]
                                  unfold rwV
                                  by_cases zp : A 18 c = 0
                                  · rw [if_pos zp]; exact (zE (by omega)).2.2.2.1 c (by omega) zp
                                  · rw [if_neg zp]; exact zZ (by omega) c hc zp
                                · rw [if_neg (by omega), show zm1 69 (8 * u + c) = zmv 69 (8 * u + c) from zf1 69 _ rfl]; exact zR.2 u (by omega) c hc
                            refine Ev.fgt [3] ?_
                            exact Ev.to (ih6 _ (by omega) (w + 1) (rset zmw 62 (mix (zmw 71) (zmw 62) q)) (rfl) (by omega) (zM2.v ((Fr.rf (S := scV)).rs (fun _ => rfl))) (zEn) (zZn) (zRn) (zfz.rs (fun _ => rfl))) rfl rfl rfl
                          · skip
                            refine e_iloadn (pc := 119) dX8_weeks_119 rfl rfl ?_
                            refine e_iloadn (pc := 120) dX8_weeks_120 rfl rfl ?_
                            refine e_icmp_ge (pc := 121) (tgt := 142) dX8_weeks_121 rfl (fun h121 => ?_) (fun h121 => ?_)
                            · skip
                              have zq2 : w < U → q = n := fun hw => by omega
                              refine e_iinc (pc := 142) (lo' := [(2, 49), (0, (U : Int)), (0, (w : Int) + 1), (0, (q : Int))]) dX8_weeks_142 rfl (by omega) rfl (by decide) rfl ?_
                              refine e_goto (pc := 145) (tgt := 6) dX8_weeks_145 rfl ?_
                              have z62n : w < U → ∀ c, c < n → mix (zmw 71) (zmw 62) q c = NX c := fun hw c hc => by
                                rw [mix_lt (by have := zq2 hw; omega)]
                                exact z71d hw c hc
                              have zEn : w + 1 ≤ U → ME A (rset zmw 62 (mix (zmw 71) (zmw 62) q)) (A 17) (A 18) (wkT A (A 17) (A 18) (A 19) (w + 1)) 0 0 := fun hw => by
                                obtain ⟨e1, e2, e3, e4, e5⟩ := zE2
                                refine ⟨e1, e2, e3, fun c hc hk => ?_, e5.1, fun c hc => ⟨(e5.2 c hc).1, zwb (w + 1) c hc, (e5.2 c hc).2.2⟩⟩
                                have zcn := (hI.cm zn1 hc).mp (by rw [hk]; decide)
                                show mix (zmw 71) (zmw 62) q c = _
                                rw [z62n (by omega) c zcn, zNX]
                                show _ = nxA (bfT A (A 17) (A 18) 0 0 false) (A 18) (wkT A (A 17) (A 18) (A 19) w) c
                                unfold nxA
                                rw [if_pos hk, if_pos ⟨hc, hk⟩]
                              have zZn : w + 1 ≤ U → ∀ c, c < n → ¬ A 18 c = 0 → (rset zmw 62 (mix (zmw 71) (zmw 62) q)) 62 c = zma 62 c := fun hw c hc hk => by
                                show mix (zmw 71) (zmw 62) q c = _
                                rw [z62n (by omega) c hc, zNX, if_neg hk]
                                exact (zf1 62 c rfl).trans (zZ (by omega) c hc hk)
                              have zRn : WR A (rset zmw 62 (mix (zmw 71) (zmw 62) q)) (zma 62) n (w + 1) := by
                                refine ⟨fun u hu => ?_, fun u hu c hc => ?_⟩
                                · show zmw 70 u = _
                                  rw [z70]
                                  by_cases zz : u = w
                                  · rw [zz, uset_eq]; rfl
                                  · rw [uset_ne _ _ zz, show zm1 70 u = zmv 70 u from zf1 70 u rfl]; exact zR.1 u (by omega)
                                · show zmw 69 (8 * u + c) = _
                                  rw [z69]
                                  unfold cpy
                                  by_cases zz : u = w
                                  · rw [if_pos (by omega), show 0 + (8 * u + c - 8 * w) = c by omega, show zm1 62 c = zmv 62 c from zf1 62 c rfl, zz]
                                    unfold rwV
                                    by_cases zp : A 18 c = 0
                                    · rw [if_pos zp]; exact (zE (by omega)).2.2.2.1 c (by omega) zp
                                    · rw [if_neg zp]; exact zZ (by omega) c hc zp
                                  · rw [if_neg (by omega), show zm1 69 (8 * u + c) = zmv 69 (8 * u + c) from zf1 69 _ rfl]; exact zR.2 u (by omega) c hc
                              refine Ev.fgt [3] ?_
                              exact Ev.to (ih6 _ (by omega) (w + 1) (rset zmw 62 (mix (zmw 71) (zmw 62) q)) (rfl) (by omega) (zM2.v ((Fr.rf (S := scV)).rs (fun _ => rfl))) (zEn) (zZn) (zRn) (zfz.rs (fun _ => rfl))) rfl rfl rfl
                            · skip
                              refine e_aloadn (pc := 124) dX8_weeks_124 rfl rfl ?_
                              refine e_getr (pc := 125) (k := 62) dX8_weeks_125 fX8_47 s_49 rfl (by decide) ?_
                              refine e_iloadn (pc := 128) dX8_weeks_128 rfl rfl ?_
                              refine e_aloadn (pc := 129) dX8_weeks_129 rfl rfl ?_
                              refine e_getr (pc := 130) (k := 71) dX8_weeks_130 fX8_74 s_49 rfl (by decide) ?_
                              refine e_iloadn (pc := 133) dX8_weeks_133 rfl rfl ?_
                              refine e_ialdv (pc := 134) (v := (zmw 71 q)) dX8_weeks_134 s_71 (by omega) (rfl) ?_
                              refine e_iastm (pc := 135) (mem2 := rset zmw 62 (mix (zmw 71) (zmw 62) (q + 1))) dX8_weeks_135 s_62 (by omega) (by rw [← mix_s]; exact mset_rset _ _ _ _ _) ?_
                              refine e_iinc (pc := 136) (lo' := [(2, 49), (0, (U : Int)), (0, (w : Int)), (0, (q : Int) + 1)]) dX8_weeks_136 rfl (by omega) rfl (by decide) rfl ?_
                              refine e_goto (pc := 139) (tgt := 111) dX8_weeks_139 rfl ?_
                              exact Ev.to (ih111 _ (by omega) (q + 1) (rfl) (by omega)) rfl rfl rfl
                      exact Ev.to (L111 _ 0 (rfl) (by omega)) rfl rfl (by rw [mix_0]; exact (rset_self _ 62).symm)
                    · skip
                      refine e_aloadn (pc := 73) dX8_weeks_73 rfl rfl ?_
                      refine e_getr (pc := 74) (k := 71) dX8_weeks_74 fX8_74 s_49 rfl (by decide) ?_
                      refine e_iloadn (pc := 77) dX8_weeks_77 rfl rfl ?_
                      refine e_aloadn (pc := 78) dX8_weeks_78 rfl rfl ?_
                      refine e_getr (pc := 79) (k := 50) dX8_weeks_79 fX8_7 s_49 rfl (by decide) ?_
                      refine e_iloadn (pc := 82) dX8_weeks_82 rfl rfl ?_
                      refine e_ialdv (pc := 83) (v := (A 18 p)) dX8_weeks_83 s_50 (by omega) ((zM2.1.2 p (by omega) ((hI.cm zn1 (by omega)).mpr (by omega))).1.1) ?_
                      refine e_if_ne (pc := 84) (tgt := 96) dX8_weeks_84 rfl (fun h84 => ?_) (fun h84 => ?_)
                      · skip
                        refine e_aloadn (pc := 96) dX8_weeks_96 rfl rfl ?_
                        refine e_getr (pc := 97) (k := 62) dX8_weeks_97 fX8_47 s_49 rfl (by decide) ?_
                        refine e_iloadn (pc := 100) dX8_weeks_100 rfl rfl ?_
                        refine e_ialdv (pc := 101) (v := (zm1 62 p)) dX8_weeks_101 s_62 (by omega) (by rw [Int.toNat_natCast, z62]) ?_
                        refine e_iastm (pc := 102) (mem2 := mset zmw 71 p (zm1 62 p)) dX8_weeks_102 s_71 (by omega) rfl ?_
                        refine e_iinc (pc := 103) (lo' := [(2, 49), (0, (U : Int)), (0, (w : Int)), (0, (p : Int) + 1)]) dX8_weeks_103 rfl (by omega) rfl (by decide) rfl ?_
                        refine e_goto (pc := 106) (tgt := 60) dX8_weeks_106 rfl ?_
                        have z71n : ∀ c, c < p + 1 → (mset zmw 71 p (zm1 62 p)) 71 c = NX c := fun c hc => by
                          rw [mset_row]
                          by_cases zz : c = p
                          · rw [zz, uset_eq, zNX, if_neg h84]
                          · rw [uset_ne _ _ zz]; exact z71 c (by omega)
                        exact Ev.to (ih60 _ (by omega) (p + 1) (mset zmw 71 p (zm1 62 p)) (rfl) (by omega) (zM2.v ((Fr.rf (S := scV)).ms rfl)) (zE2.mv (fun j h1 h2 => rfl) rfl) (z62) (z69) (z70) (zfz.ms rfl) (z71n) (fun _ => by omega)) rfl rfl rfl
                      · skip
                        refine e_aloadn (pc := 87) dX8_weeks_87 rfl rfl ?_
                        refine e_iloadn (pc := 88) dX8_weeks_88 rfl rfl ?_
                        refine e_iconst (pc := 89) dX8_weeks_89 (by decide) ?_
                        refine e_callV (pc := 90) (as := [(0, (p : Int)), (0, 0)]) (st := [(0, (p : Int)), (2, 71)]) (m_bestOf G A zmw (A 17) (A 18) (wkT A (A 17) (A 18) (A 19) w) 0 0 p false (by omega) h84 (bt_0 _) (bt_0 _) hI zM2 zE2) dX8_weeks_90 lX8_weeks_199 rfl s_49 cn_8 rfl rfl (fun r_ zm3 hq_ => ?_)
                        obtain ⟨zr_, zM3, zf3⟩ := hq_
                        subst zr_
                        refine Ev.to (st' := [(0, ((bfT A (A 17) (A 18) 0 0 false (wkT A (A 17) (A 18) (A 19) w) p : Nat) : Int)), (0, (p : Int)), (2, 71)]) ?_ rfl rfl rfl
                        refine e_goto (pc := 93) (tgt := 102) dX8_weeks_93 rfl ?_
                        refine e_iastm (pc := 102) (mem2 := mset zm3 71 p ((bfT A (A 17) (A 18) 0 0 false (wkT A (A 17) (A 18) (A 19) w) p : Nat) : Int)) dX8_weeks_102 s_71 (by omega) rfl ?_
                        refine e_iinc (pc := 103) (lo' := [(2, 49), (0, (U : Int)), (0, (w : Int)), (0, (p : Int) + 1)]) dX8_weeks_103 rfl (by omega) rfl (by decide) rfl ?_
                        refine e_goto (pc := 106) (tgt := 60) dX8_weeks_106 rfl ?_
                        have zr62 : (mset zm3 71 p ((bfT A (A 17) (A 18) 0 0 false (wkT A (A 17) (A 18) (A 19) w) p : Nat) : Int)) 62 = zm1 62 := (funext (fun j => zf3 62 j rfl) : zm3 62 = zmw 62).trans z62
                        have zr69 : (mset zm3 71 p ((bfT A (A 17) (A 18) 0 0 false (wkT A (A 17) (A 18) (A 19) w) p : Nat) : Int)) 69 = (cpy (zm1 62) (zm1 69) 0 (8 * w) n) := (funext (fun j => zf3 69 j rfl) : zm3 69 = zmw 69).trans z69
                        have zr70 : (mset zm3 71 p ((bfT A (A 17) (A 18) 0 0 false (wkT A (A 17) (A 18) (A 19) w) p : Nat) : Int)) 70 = uset (zm1 70) w (stT A (A 17) (A 18) (wkT A (A 17) (A 18) (A 19) w) 0 0) := (funext (fun j => zf3 70 j rfl) : zm3 70 = zmw 70).trans z70
                        have z71n : ∀ c, c < p + 1 → (mset zm3 71 p ((bfT A (A 17) (A 18) 0 0 false (wkT A (A 17) (A 18) (A 19) w) p : Nat) : Int)) 71 c = NX c := fun c hc => by
                          rw [mset_row]
                          by_cases zz : c = p
                          · rw [zz, uset_eq, zNX, if_pos h84]
                          · rw [uset_ne _ _ zz, show zm3 71 c = zmw 71 c from zf3 71 c rfl]; exact z71 c (by omega)
                        exact Ev.to (ih60 _ (by omega) (p + 1) (mset zm3 71 p ((bfT A (A 17) (A 18) 0 0 false (wkT A (A 17) (A 18) (A 19) w) p : Nat) : Int)) (rfl) (by omega) (zM3.v ((Fr.rf (S := scV)).ms rfl)) ((zE2.o zf3).mv (fun j h1 h2 => rfl) rfl) (zr62) (zr69) (zr70) ((zfz.tr (scOZ zf3)).ms rfl) (z71n) (fun _ => by omega)) rfl rfl rfl
              exact Ev.to (L60 _ 0 (rset (mset zm1 70 w (stT A (A 17) (A 18) (wkT A (A 17) (A 18) (A 19) w) 0 0)) 69 (cpy (zm1 62) (zm1 69) 0 (8 * w) n)) (rfl) (by omega) (zM1.v (((Fr.rf (S := scV)).ms rfl).rs (fun _ => rfl))) (zE1.mv (fun j h1 h2 => rfl) rfl) (rfl) (rfl) (by rw [← mset_row]; rfl) (((zf.tr (scOZ zf1)).ms rfl).rs (fun _ => rfl)) (fun c hc => absurd hc (by omega)) (fun q => absurd q (by decide))) rfl rfl rfl
            · skip
              refine e_aloadn (pc := 35) dX8_weeks_35 rfl rfl ?_
              refine e_getr (pc := 36) (k := 69) dX8_weeks_36 fX8_68 s_49 rfl (by decide) ?_
              refine e_bipush (pc := 39) dX8_weeks_39 rfl (by decide) ?_
              refine e_iloadn (pc := 41) dX8_weeks_41 rfl rfl ?_
              refine e_imuln (pc := 42) dX8_weeks_42 (by omega) ?_
              refine e_iloadn (pc := 43) dX8_weeks_43 rfl rfl ?_
              refine e_iaddn (pc := 44) dX8_weeks_44 (by omega) ?_
              refine e_aloadn (pc := 45) dX8_weeks_45 rfl rfl ?_
              refine e_getr (pc := 46) (k := 62) dX8_weeks_46 fX8_47 s_49 rfl (by decide) ?_
              refine e_iloadn (pc := 49) dX8_weeks_49 rfl rfl ?_
              refine e_ialdv (pc := 50) (v := (zm1 62 k)) dX8_weeks_50 s_62 (by omega) (rfl) ?_
              refine e_iastm (pc := 51) (mem2 := rset (mset zm1 70 w (stT A (A 17) (A 18) (wkT A (A 17) (A 18) (A 19) w) 0 0)) 69 (cpy (zm1 62) (zm1 69) 0 (8 * w) (k + 1))) dX8_weeks_51 s_69 (by omega) (by rw [show (8 * (w : Int) + (k : Int)).toNat = 8 * w + k by omega, ← cpy_s]; exact mset_rset _ _ _ _ _) ?_
              refine e_iinc (pc := 52) (lo' := [(2, 49), (0, (U : Int)), (0, (w : Int)), (0, (k : Int) + 1)]) dX8_weeks_52 rfl (by omega) rfl (by decide) rfl ?_
              refine e_goto (pc := 55) (tgt := 27) dX8_weeks_55 rfl ?_
              exact Ev.to (ih27 _ (by omega) (k + 1) (rfl) (by omega)) rfl rfl rfl
        exact Ev.to (L27 _ 0 (rfl) (by omega)) rfl rfl (by rw [cpy_0]; exact (rset_self _ 69).symm)
  exact Ev.to (L6 _ 0 zma (rfl) (by omega) (zMa) (fun _ => zEa) (fun _ _ _ _ => rfl) (⟨fun u hu => absurd hu (by omega), fun u hu => absurd hu (by omega)⟩) (scHZ zfa)) rfl rfl rfl

theorem m_weekNow (G : Gm) (A mem : Mem) (U : Nat) (hU : U ≤ 60) (hI : CI A) (hM : MI A mem) : Con G mX8_weekNow [(2, 49), (0, (U : Int))] mem (fun r m' => r = some (0, an_week A (U : Int)) ∧ MI A m' ∧ Fr scZ mem m') := by
  refine Con.of (lo := [(2, 49), (0, (U : Int))]) (by decide +kernel) (Nat.le_of_ble_eq_true rfl) rfl ?_
  generalize hQ_ : (fun r m' => r = some (0, an_week A (U : Int)) ∧ MI A m' ∧ Fr scZ mem m' : Option AV → Mem → Prop) = Q_
  refine e_aloadn (pc := 0) dX8_weekNow_0 rfl rfl ?_
  refine e_iloadn (pc := 1) dX8_weekNow_1 rfl rfl ?_
  refine e_callV (pc := 2) (as := [(0, (U : Int))]) (st := []) (m_weeks G A mem U hU hI hM) dX8_weekNow_2 lX8_weekNow_243 rfl s_49 cn_8 rfl rfl (fun r_ zm1 hq_ => ?_)
  obtain ⟨zr_, zM1, zf1, Z, n, zn1, zn2, zR⟩ := hq_
  subst zr_
  refine Ev.to (st' := []) ?_ rfl rfl rfl
  refine e_aloadn (pc := 5) dX8_weekNow_5 rfl rfl ?_
  refine e_getr (pc := 6) (k := 70) dX8_weekNow_6 fX8_71 s_49 rfl (by decide) ?_
  refine e_iloadn (pc := 9) dX8_weekNow_9 rfl rfl ?_
  refine e_ialdv (pc := 10) (v := (wkS A U)) dX8_weekNow_10 s_70 (by omega) (zR.1 U (by omega)) ?_
  have zan : an_week A (U : Int) = wkS A U := by unfold an_week; rw [if_pos (by omega)]; rfl
  exact e_iret (pc := 11) dX8_weekNow_11 rfl (by rw [← hQ_]; exact ⟨by rw [zan], zM1, zf1⟩)

theorem m_week (G : Gm) (A mem : Mem) (zwk : Int) (hI : CI A) (hM : MI A mem) : Con G mX8_week [(2, 49), (0, zwk)] mem (fun r m' => r = some (0, an_week A zwk) ∧ MI A m' ∧ Fr scZ mem m') := by
  refine Con.of (lo := [(2, 49), (0, zwk)]) (by decide +kernel) (Nat.le_of_ble_eq_true rfl) rfl ?_
  generalize hQ_ : (fun r m' => r = some (0, an_week A zwk) ∧ MI A m' ∧ Fr scZ mem m' : Option AV → Mem → Prop) = Q_
  refine e_iloadn (pc := 0) dX8_week_0 rfl rfl ?_
  refine e_iconst (pc := 1) dX8_week_1 (by decide) ?_
  refine e_bipush (pc := 2) dX8_week_2 rfl (by decide) ?_
  refine e_callSr (pc := 4) (as := [(0, zwk), (0, 0), (0, 60)]) (st := []) (v := (0, if 0 ≤ zwk ∧ zwk ≤ 60 then 1 else 0)) (m_in G mem zwk 0 60) dX8_week_4 lX8_week_95 rfl rfl rfl ?_
  by_cases zi : 0 ≤ zwk ∧ zwk ≤ 60
  · rw [if_pos zi]
    obtain ⟨U, zU⟩ : ∃ U : Nat, zwk = (U : Int) := ⟨zwk.toNat, by omega⟩
    subst zU
    refine e_if_eq (pc := 7) (tgt := 18) dX8_week_7 rfl (fun h7 => ?_) (fun h7 => ?_)
    · skip
      exact absurd h7 (by decide)
    · skip
      refine e_aloadn (pc := 10) dX8_week_10 rfl rfl ?_
      refine e_iloadn (pc := 11) dX8_week_11 rfl rfl ?_
      refine e_callV (pc := 12) (as := [(0, (U : Int))]) (st := []) (m_weekNow G A mem U (by omega) hI hM) dX8_week_12 lX8_week_246 rfl s_49 cn_8 rfl rfl (fun r_ zm1 hq_ => ?_)
      obtain ⟨zr_, zM1, zf1⟩ := hq_
      subst zr_
      refine Ev.to (st' := [(0, an_week A (U : Int))]) ?_ rfl rfl rfl
      refine e_goto (pc := 15) (tgt := 20) dX8_week_15 rfl ?_
      exact e_iret (pc := 20) dX8_week_20 rfl (by rw [← hQ_]; exact ⟨rfl, zM1, zf1⟩)
  · rw [if_neg zi]
    refine e_if_eq (pc := 7) (tgt := 18) dX8_week_7 rfl (fun h7 => ?_) (fun h7 => ?_)
    · skip
      refine e_bipush (pc := 18) dX8_week_18 rfl (by decide) ?_
      have zan : an_week A zwk = -2 := by unfold an_week; rw [if_neg zi]
      exact e_iret (pc := 20) dX8_week_20 rfl (by rw [← hQ_]; exact ⟨by rw [zan], hM, Fr.rf⟩)
    · skip
      exact absurd h7 (by decide)

theorem m_isSameWeek (G : Gm) (A mem : Mem) (Z : Nat → Int) (n N a b : Nat) (hn : A 1 0 = (n : Int)) (hn8 : n ≤ 8) (hN : N ≤ 61) (ha : a < N) (hb : b < N) (hM : MI A mem) (hR : WR A mem Z n N) : Con G mX8_isSameWeek [(2, 49), (0, (a : Int)), (0, (b : Int))] mem (fun r m' => ∃ v : Int, r = some (0, v) ∧ m' = mem ∧ ((v = 0 ∧ ¬ ∀ c, c < n → rwV A Z a c = rwV A Z b c) ∨ (v = 1 ∧ ∀ c, c < n → rwV A Z a c = rwV A Z b c))) := by
  refine Con.of (lo := [(2, 49), (0, (a : Int)), (0, (b : Int)), (3, 0)]) (by decide +kernel) (Nat.le_of_ble_eq_true rfl) rfl ?_
  generalize hQ_ : (fun r m' => ∃ v : Int, r = some (0, v) ∧ m' = mem ∧ ((v = 0 ∧ ¬ ∀ c, c < n → rwV A Z a c = rwV A Z b c) ∨ (v = 1 ∧ ∀ c, c < n → rwV A Z a c = rwV A Z b c)) : Option AV → Mem → Prop) = Q_
  refine e_iconst (pc := 0) dX8_isSameWeek_0 (by decide) ?_
  refine e_istoren (pc := 1) (lo' := [(2, 49), (0, (a : Int)), (0, (b : Int)), (0, 0)]) dX8_isSameWeek_1 rfl rfl (by decide) rfl ?_
  have L2 : ∀ (n_ : Nat) (k : Nat), 8 - k = n_ → (k ≤ n) → (∀ c, c < k → rwV A Z a c = rwV A Z b c) → Ev G mX8_isSameWeek Q_ 2 [(2, 49), (0, (a : Int)), (0, (b : Int)), (0, (k : Int))] [] mem := by
    intro n_
    induction n_ using Nat.strongRecOn with
    | ind n_ ih2 =>
      intro k hn_ zk zs
      refine e_iloadn (pc := 2) dX8_isSameWeek_2 rfl rfl ?_
      refine e_aloadn (pc := 3) dX8_isSameWeek_3 rfl rfl ?_
      refine e_getiv (pc := 4) (v := (n : Int)) dX8_isSameWeek_4 fX8_99 s_49 rfl (by decide) (hM.1.1.trans hn) ?_
      refine e_icmp_ge (pc := 7) (tgt := 43) dX8_isSameWeek_7 rfl (fun h7 => ?_) (fun h7 => ?_)
      · skip
        refine e_iconst (pc := 43) dX8_isSameWeek_43 (by decide) ?_
        have zke : k = n := by omega
        rw [zke] at zs
        exact e_zret (pc := 44) dX8_isSameWeek_44 rfl (by decide) (by rw [← hQ_]; exact ⟨_, rfl, rfl, Or.inr ⟨rfl, zs⟩⟩)
      · skip
        refine e_aloadn (pc := 10) dX8_isSameWeek_10 rfl rfl ?_
        refine e_getr (pc := 11) (k := 69) dX8_isSameWeek_11 fX8_68 s_49 rfl (by decide) ?_
        refine e_bipush (pc := 14) dX8_isSameWeek_14 rfl (by decide) ?_
        refine e_iloadn (pc := 16) dX8_isSameWeek_16 rfl rfl ?_
        refine e_imuln (pc := 17) dX8_isSameWeek_17 (by omega) ?_
        refine e_iloadn (pc := 18) dX8_isSameWeek_18 rfl rfl ?_
        refine e_iaddn (pc := 19) dX8_isSameWeek_19 (by omega) ?_
        refine e_ialdv (pc := 20) (v := (rwV A Z a k)) dX8_isSameWeek_20 s_69 (by omega) (by rw [show (8 * (a : Int) + (k : Int)).toNat = 8 * a + k by omega]; exact hR.2 a ha k (by omega)) ?_
        refine e_aloadn (pc := 21) dX8_isSameWeek_21 rfl rfl ?_
        refine e_getr (pc := 22) (k := 69) dX8_isSameWeek_22 fX8_68 s_49 rfl (by decide) ?_
        refine e_bipush (pc := 25) dX8_isSameWeek_25 rfl (by decide) ?_
        refine e_iloadn (pc := 27) dX8_isSameWeek_27 rfl rfl ?_
        refine e_imuln (pc := 28) dX8_isSameWeek_28 (by omega) ?_
        refine e_iloadn (pc := 29) dX8_isSameWeek_29 rfl rfl ?_
        refine e_iaddn (pc := 30) dX8_isSameWeek_30 (by omega) ?_
        refine e_ialdv (pc := 31) (v := (rwV A Z b k)) dX8_isSameWeek_31 s_69 (by omega) (by rw [show (8 * (b : Int) + (k : Int)).toNat = 8 * b + k by omega]; exact hR.2 b hb k (by omega)) ?_
        refine e_icmp_eq (pc := 32) (tgt := 37) dX8_isSameWeek_32 rfl (fun h32 => ?_) (fun h32 => ?_)
        · skip
          refine e_iinc (pc := 37) (lo' := [(2, 49), (0, (a : Int)), (0, (b : Int)), (0, (k : Int) + 1)]) dX8_isSameWeek_37 rfl (by omega) rfl (by decide) rfl ?_
          refine e_goto (pc := 40) (tgt := 2) dX8_isSameWeek_40 rfl ?_
          have zs2 : ∀ c, c < k + 1 → rwV A Z a c = rwV A Z b c := fun c hc => by
            by_cases zz : c = k
            · rw [zz]; exact h32
            · exact zs c (by omega)
          exact Ev.to (ih2 _ (by omega) (k + 1) (rfl) (by omega) (zs2)) rfl rfl rfl
        · skip
          refine e_iconst (pc := 35) dX8_isSameWeek_35 (by decide) ?_
          exact e_zret (pc := 36) dX8_isSameWeek_36 rfl (by decide) (by rw [← hQ_]; exact ⟨_, rfl, rfl, Or.inl ⟨rfl, fun q => h32 (q k (by omega))⟩⟩)
  exact Ev.to (L2 _ 0 (rfl) (by omega) (fun c hc => absurd hc (by omega))) rfl rfl rfl

theorem m_round (G : Gm) (A mem : Mem) (wh : Int) (hI : CI A) (hM : MI A mem) : Con G mX8_round [(2, 49), (0, wh)] mem (fun r m' => r = some (0, an_round A wh) ∧ MI A m' ∧ Fr scZ mem m') := by
  refine Con.of (lo := [(2, 49), (0, wh), (3, 0), (3, 0)]) (by decide +kernel) (Nat.le_of_ble_eq_true rfl) rfl ?_
  generalize hQ_ : (fun r m' => r = some (0, an_round A wh) ∧ MI A m' ∧ Fr scZ mem m' : Option AV → Mem → Prop) = Q_
  refine e_iloadn (pc := 0) dX8_round_0 rfl rfl ?_
  refine e_iconst (pc := 1) dX8_round_1 (by decide) ?_
  refine e_iconst (pc := 2) dX8_round_2 (by decide) ?_
  refine e_callSr (pc := 3) (as := [(0, wh), (0, 0), (0, 1)]) (st := []) (v := (0, if 0 ≤ wh ∧ wh ≤ 1 then 1 else 0)) (m_in G mem wh 0 1) dX8_round_3 lX8_round_95 rfl rfl rfl ?_
  by_cases zi : 0 ≤ wh ∧ wh ≤ 1
  · rw [if_pos zi]
    refine e_if_ne (pc := 6) (tgt := 12) dX8_round_6 rfl (fun h6 => ?_) (fun h6 => ?_)
    · skip
      refine e_aloadn (pc := 12) dX8_round_12 rfl rfl ?_
      refine e_bipush (pc := 13) dX8_round_13 rfl (by decide) ?_
      refine e_callV (pc := 15) (as := [(0, 60)]) (st := []) (m_weeks G A mem 60 (by decide) hI hM) dX8_round_15 lX8_round_243 rfl s_49 cn_8 rfl rfl (fun r_ zm1 hq_ => ?_)
      obtain ⟨zr_, zM1, zf1, Z, n, zn1, zn2, zR⟩ := hq_
      subst zr_
      have zne : ∀ a b : Nat, (∀ c, c < n → rwV A Z a c = rwV A Z b c) ↔ E8 (wkT A (A 17) (A 18) (A 19) a) (wkT A (A 17) (A 18) (A 19) b) := rwV_8 zn2 (fun c hc hq z => by have := (hI.cm zn1 hc).mp (by rw [z]; decide); omega)
      refine Ev.to (st' := []) ?_ rfl rfl rfl
      refine e_iconst (pc := 18) dX8_round_18 (by decide) ?_
      refine e_istoren (pc := 19) (lo' := [(2, 49), (0, wh), (0, 0), (3, 0)]) dX8_round_19 rfl rfl (by decide) rfl ?_
      have L20 : ∀ (n_ : Nat) (f : Nat), 60 - f = n_ → (f ≤ 60) → (∀ f', f' < f → ∀ g', f' < g' → g' ≤ 60 → ¬ E8 (wkT A (A 17) (A 18) (A 19) f') (wkT A (A 17) (A 18) (A 19) g')) → Ev G mX8_round Q_ 20 [(2, 49), (0, wh), (0, (f : Int)), (3, 0)] [] zm1 := by
        intro n_
        induction n_ using Nat.strongRecOn with
        | ind n_ ih20 =>
          intro f hn_ zf zo
          refine e_iloadn (pc := 20) dX8_round_20 rfl rfl ?_
          refine e_bipush (pc := 21) dX8_round_21 rfl (by decide) ?_
          refine e_icmp_ge (pc := 23) (tgt := 69) dX8_round_23 rfl (fun h23 => ?_) (fun h23 => ?_)
          · skip
            refine e_iconst (pc := 69) dX8_round_69 (by decide) ?_
            have zan : an_round A wh = -1 := by
              unfold an_round
              rw [if_pos (by omega)]
              exact roundF_eq (Or.inl ⟨fun g hg f' hf => zo f' (by omega) g hf (by omega), rfl⟩)
            exact e_iret (pc := 70) dX8_round_70 rfl (by rw [← hQ_]; exact ⟨by rw [zan], zM1, zf1⟩)
          · skip
            refine e_iloadn (pc := 26) dX8_round_26 rfl rfl ?_
            refine e_iconst (pc := 27) dX8_round_27 (by decide) ?_
            refine e_iaddn (pc := 28) dX8_round_28 (by omega) ?_
            refine e_istoren (pc := 29) (lo' := [(2, 49), (0, wh), (0, (f : Int)), (0, (f : Int) + 1)]) dX8_round_29 rfl rfl (by decide) rfl ?_
            have L30 : ∀ (n_ : Nat) (g : Nat), 61 - g = n_ → (f < g ∧ g ≤ 61) → (∀ g', f < g' → g' < g → ¬ E8 (wkT A (A 17) (A 18) (A 19) f) (wkT A (A 17) (A 18) (A 19) g')) → Ev G mX8_round Q_ 30 [(2, 49), (0, wh), (0, (f : Int)), (0, (g : Int))] [] zm1 := by
              intro n_
              induction n_ using Nat.strongRecOn with
              | ind n_ ih30 =>
                intro g hn_ zg zin
                refine e_iloadn (pc := 30) dX8_round_30 rfl rfl ?_
                refine e_bipush (pc := 31) dX8_round_31 rfl (by decide) ?_
                refine e_icmp_gt (pc := 33) (tgt := 63) dX8_round_33 rfl (fun h33 => ?_) (fun h33 => ?_)
                · skip
                  refine e_iinc (pc := 63) (lo' := [(2, 49), (0, wh), (0, (f : Int) + 1), (0, (g : Int))]) dX8_round_63 rfl (by omega) rfl (by decide) rfl ?_
                  refine e_goto (pc := 66) (tgt := 20) dX8_round_66 rfl ?_
                  have zo2 : ∀ f', f' < f + 1 → ∀ g', f' < g' → g' ≤ 60 → ¬ E8 (wkT A (A 17) (A 18) (A 19) f') (wkT A (A 17) (A 18) (A 19) g') := fun f' hf g' hg hg2 => by
                    by_cases zz : f' = f
                    · rw [zz]; exact zin g' (by omega) (by omega)
                    · exact zo f' (by omega) g' hg hg2
                  refine Ev.fgt [3] ?_
                  exact Ev.to (ih20 _ (by omega) (f + 1) (rfl) (by omega) (zo2)) rfl rfl rfl
                · skip
                  refine e_aloadn (pc := 36) dX8_round_36 rfl rfl ?_
                  refine e_iloadn (pc := 37) dX8_round_37 rfl rfl ?_
                  refine e_iloadn (pc := 38) dX8_round_38 rfl rfl ?_
                  refine e_callV (pc := 39) (as := [(0, (f : Int)), (0, (g : Int))]) (st := []) (m_isSameWeek G A zm1 Z n 61 f g zn1 zn2 (by omega) (by omega) (by omega) zM1 zR) dX8_round_39 lX8_round_249 rfl s_49 cn_8 rfl rfl (fun r_ zm2 hq_ => ?_)
                  obtain ⟨zv, zr_, zme, zor⟩ := hq_
                  subst zr_
                  subst zme
                  refine Ev.to (st' := [(0, zv)]) ?_ rfl rfl rfl
                  rcases zor with ⟨zv0, zns⟩ | ⟨zv0, zys⟩
                  · subst zv0
                    refine e_if_eq (pc := 42) (tgt := 57) dX8_round_42 rfl (fun h42 => ?_) (fun h42 => ?_)
                    · skip
                      refine e_iinc (pc := 57) (lo' := [(2, 49), (0, wh), (0, (f : Int)), (0, (g : Int) + 1)]) dX8_round_57 rfl (by omega) rfl (by decide) rfl ?_
                      refine e_goto (pc := 60) (tgt := 30) dX8_round_60 rfl ?_
                      have zin2 : ∀ g', f < g' → g' < g + 1 → ¬ E8 (wkT A (A 17) (A 18) (A 19) f) (wkT A (A 17) (A 18) (A 19) g') := fun g' h1 h2 => by
                        by_cases zz : g' = g
                        · rw [zz]; exact fun q => zns ((zne f g).mpr q)
                        · exact zin g' h1 (by omega)
                      exact Ev.to (ih30 _ (by omega) (g + 1) (rfl) (by omega) (zin2)) rfl rfl rfl
                    · skip
                      exact absurd h42 (by decide)
                  · subst zv0
                    refine e_if_eq (pc := 42) (tgt := 57) dX8_round_42 rfl (fun h42 => ?_) (fun h42 => ?_)
                    · skip
                      exact absurd h42 (by decide)
                    · skip
                      refine e_iloadn (pc := 45) dX8_round_45 rfl rfl ?_
                      refine e_if_ne (pc := 46) (tgt := 53) dX8_round_46 rfl (fun h46 => ?_) (fun h46 => ?_)
                      · skip
                        refine e_iloadn (pc := 53) dX8_round_53 rfl rfl ?_
                        refine e_iloadn (pc := 54) dX8_round_54 rfl rfl ?_
                        refine e_isubn (pc := 55) dX8_round_55 (by omega) ?_
                        have zrep := lex_rep zg.1 (by omega) ((zne f g).mp zys) zo zin
                        have zan : an_round A wh = (g : Int) - (f : Int) := by
                          unfold an_round
                          rw [if_pos (by omega)]
                          exact roundF_eq (Or.inr ⟨f, g, zrep, by rw [if_neg (by omega)]⟩)
                        exact e_iret (pc := 56) dX8_round_56 rfl (by rw [← hQ_]; exact ⟨by rw [zan], zM1, zf1⟩)
                      · skip
                        refine e_iloadn (pc := 49) dX8_round_49 rfl rfl ?_
                        refine e_goto (pc := 50) (tgt := 56) dX8_round_50 rfl ?_
                        have zrep := lex_rep zg.1 (by omega) ((zne f g).mp zys) zo zin
                        have zan : an_round A wh = (f : Int) := by
                          unfold an_round
                          rw [if_pos (by omega)]
                          exact roundF_eq (Or.inr ⟨f, g, zrep, by rw [if_pos (by omega)]⟩)
                        exact e_iret (pc := 56) dX8_round_56 rfl (by rw [← hQ_]; exact ⟨by rw [zan], zM1, zf1⟩)
            exact Ev.to (L30 _ (f + 1) (rfl) (by omega) (fun g' h1 h2 => absurd h2 (by omega))) rfl rfl rfl
      exact Ev.to (L20 _ 0 (rfl) (by omega) (fun f' hf => absurd hf (by omega))) rfl rfl rfl
    · skip
      exact absurd h6 (by decide)
  · rw [if_neg zi]
    refine e_if_ne (pc := 6) (tgt := 12) dX8_round_6 rfl (fun h6 => ?_) (fun h6 => ?_)
    · skip
      exact absurd h6 (by decide)
    · skip
      refine e_bipush (pc := 9) dX8_round_9 rfl (by decide) ?_
      have zan : an_round A wh = -2 := by unfold an_round; rw [if_neg (by omega)]
      exact e_iret (pc := 11) dX8_round_11 rfl (by rw [← hQ_]; exact ⟨by rw [zan], hM, Fr.rf⟩)
