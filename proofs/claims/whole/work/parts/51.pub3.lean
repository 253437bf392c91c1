def TS (A : Mem) (tm kd : Nat → Int) (zm : Mem) : Prop := Fr scQ A zm ∧ E3 tm (zm 26) ∧ E8 kd (zm 27) ∧ (zm 25 4 = 0 ∧ zm 25 5 = 0) ∧ EvOk25 zm
theorem Becomes.ts {A B : Mem} (h : Becomes A B) (hE : EvOk16 A) : TS A (A 17) (A 18) B := ⟨scBQ h.1, h.e3, h.kd, ⟨h.2.2.2.2.1, h.2.2.2.2.2⟩, h.ev hE⟩
section TSS
variable {A zm zn : Mem} {tm kd : Nat → Int}
theorem TS.se (h : TS A tm kd zm) : SE A zm := SE.q h.1
theorem TS.g (h : TS A tm kd zm) (zf : Fr (scG 25) zm zn) : TS A tm kd zn := by
  obtain ⟨q0, q1, q2, q3, q4, q5, q6, q7, q8, q9, q10, q11, q12, q13, q14, q15⟩ := fr_25 zf
  refine ⟨h.1.tr (scGQ25 zf), by rw [q0]; exact h.2.1, by rw [q1]; exact h.2.2.1, ⟨q13.trans h.2.2.2.1.1, q14.trans h.2.2.2.1.2⟩, EvOk25.mv zf h.2.2.2.2⟩
theorem TS.c (h : TS A tm kd zm) (zf : Fr scC zm zn) (hr : ∀ c, c < 8 → 0 ≤ zn 28 c ∧ zn 28 c ≤ 60) : TS A tm kd zn := by
  have e26 : zn 26 = zm 26 := funext (fun j => zf 26 j rfl)
  have e27 : zn 27 = zm 27 := funext (fun j => zf 27 j rfl)
  exact ⟨h.1.tr (scCQ zf), by rw [e26]; exact h.2.1, by rw [e27]; exact h.2.2.1, ⟨(zf 25 4 rfl).trans h.2.2.2.1.1, (zf 25 5 rfl).trans h.2.2.2.1.2⟩, EvC zf h.2.2.2.2 hr⟩
end TSS
theorem bfA_T {zm : Mem} (hl : zm 25 4 = 0) (ha : zm 25 5 = 0) (down : Bool) : bfA zm down = bfT zm (zm 26) (zm 27) 0 0 down := by
  funext a c; unfold bfA bfT; rw [hl, ha]
theorem t_climbsT (G : Gm) (A zm : Mem) (tm kd : Nat → Int) (down : Bool) (dv : Int) (hdv : dv = if down then 1 else 0) (hI : CI A) (hT : TS A tm kd zm) : Con G mX1_climbs [(2, 25), (0, dv)] zm (fun r m' => ∃ v : Int, r = some (0, v) ∧ TS A tm kd m' ∧ ((v = 0 ∧ cliA A tm kd down = none) ∨ (v = 1 ∧ ∃ x, cliA A tm kd down = some x ∧ EP kd x (m' 28)))) := by
  subst hdv
  refine (t_climbs G zm down (hT.se.co hI.1) hT.2.2.2.2 (hT.se.ru hI.ru) hT.2.2.2.1.1 hT.2.2.2.1.2).mono (fun r m' h => ?_)
  obtain ⟨h1, h2, h3, h4⟩ := h
  rw [bfA_T hT.2.2.2.1.1 hT.2.2.2.1.2] at h1 h4
  rcases cli_cg (down := down) hT.se hT.2.1 hT.2.2.1 (cl0_ep (am := zm 28) hT.2.2.1) with ⟨e1, e2⟩ | ⟨x, y, e1, e2, e3⟩
  · rw [e2] at h1
    exact ⟨_, h1, hT.c h2 h3, Or.inl ⟨rfl, e1⟩⟩
  · rw [e2] at h1
    exact ⟨_, h1, hT.c h2 h3, Or.inr ⟨rfl, x, e1, by rw [h4 y e2]; exact e3⟩⟩
theorem t_reckT (G : Gm) (A zm : Mem) (tm kd : Nat → Int) (hI : CI A) (hT : TS A tm kd zm) : Con G mX1_reckon [(2, 25)] zm (fun r m' => r = some (0, stT A tm kd (zm 28) 0 0) ∧ TS A tm kd m' ∧ Fr (scG 25) zm m') := by
  refine (t_reckon_25 G zm (hT.se.co hI.1) hT.2.2.2.2 (hT.se.ru hI.ru)).mono (fun r m' h => ?_)
  obtain ⟨h1, _, h3, _⟩ := h
  refine ⟨?_, hT.g h3, h3⟩
  rw [h1, hT.2.2.2.1.1, hT.2.2.2.1.2]
  have e := stT_cg (late := 0) (aw := 0) hT.se hT.2.1.1 hT.2.2.1 (EP.rf (a := zm 28))
  rw [← e]; rfl
theorem stT_ep {A : Mem} {tm kd a b : Nat → Int} {late aw : Int} (h : EP kd a b) : stT A tm kd b late aw = stT A tm kd a late aw := stT_cg SE.rf rfl E8.rf h
/-- whether climbing down comes to rest in time -/
noncomputable def inT (A : Mem) (tm kd : Nat → Int) : Bool := match cliA A tm kd true with
  | some x => decide (stT A tm kd x 0 0 ≤ tm 0)
  | none => false

theorem t_inTime (G : Gm) (A mem : Mem) (tm kd : Nat → Int) (hI : CI A) (hT : TS A tm kd mem) : Con G mX7_trialIsInTime [(2, 0)] mem (fun r m' => r = some (0, if inT A tm kd = true then 1 else 0) ∧ Fr scQ A m') := by
  refine Con.of (lo := [(2, 0)]) (by decide +kernel) (Nat.le_of_ble_eq_true rfl) rfl ?_
  generalize hQ_ : (fun r m' => r = some (0, if inT A tm kd = true then 1 else 0) ∧ Fr scQ A m' : Option AV → Mem → Prop) = Q_
  refine e_aloadn (pc := 0) dX7_trialIsInTime_0 rfl rfl ?_
  refine e_getr (pc := 1) (k := 25) dX7_trialIsInTime_1 fX7_32 s_0 rfl (by decide) ?_
  refine e_iconst (pc := 4) dX7_trialIsInTime_4 (by decide) ?_
  refine e_callV (pc := 5) (as := [(0, 1)]) (st := []) (t_climbsT G A mem tm kd true 1 rfl hI hT) dX7_trialIsInTime_5 lX7_trialIsInTime_166 rfl s_25 cn_1 rfl rfl (fun r_ zm2 hq_ => ?_)
  obtain ⟨zv, zr_, zT, zor⟩ := hq_
  subst zr_
  refine Ev.to (st' := [(0, zv)]) ?_ rfl rfl rfl
  rcases zor with ⟨rfl, zcl⟩ | ⟨rfl, x, zcl, zxe⟩
  · skip
    refine e_if_eq (pc := 8) (tgt := 34) dX7_trialIsInTime_8 rfl (fun h8 => ?_) (fun h8 => ?_)
    · skip
      refine e_iconst (pc := 34) dX7_trialIsInTime_34 (by decide) ?_
      have zin : inT A tm kd = false := by unfold inT; rw [zcl]
      exact e_zret (pc := 35) dX7_trialIsInTime_35 rfl (by decide) (by rw [← hQ_]; exact ⟨by rw [zin]; rfl, zT.1⟩)
    · skip
      exact absurd h8 (by decide)
  · skip
    refine e_if_eq (pc := 8) (tgt := 34) dX7_trialIsInTime_8 rfl (fun h8 => ?_) (fun h8 => ?_)
    · skip
      exact absurd h8 (by decide)
    · skip
      refine e_aloadn (pc := 11) dX7_trialIsInTime_11 rfl rfl ?_
      refine e_getr (pc := 12) (k := 25) dX7_trialIsInTime_12 fX7_32 s_0 rfl (by decide) ?_
      refine e_callV (pc := 15) (as := []) (st := []) (t_reckT G A zm2 tm kd hI zT) dX7_trialIsInTime_15 lX7_trialIsInTime_142 rfl s_25 cn_1 rfl rfl (fun r_ zm3 hq_ => ?_)
      rw [stT_ep zxe] at hq_
      obtain ⟨zr_, zT3, zf3⟩ := hq_
      subst zr_
      have ztm := zT3.2.1.1
      refine Ev.to (st' := [(0, stT A tm kd x 0 0)]) ?_ rfl rfl rfl
      refine e_aloadn (pc := 18) dX7_trialIsInTime_18 rfl rfl ?_
      refine e_getr (pc := 19) (k := 25) dX7_trialIsInTime_19 fX7_32 s_0 rfl (by decide) ?_
      refine e_getr (pc := 22) (k := 26) dX7_trialIsInTime_22 fX7_127 s_25 rfl (by decide) ?_
      refine e_iconst (pc := 25) dX7_trialIsInTime_25 (by decide) ?_
      refine e_ialdv (pc := 26) (v := (tm 0)) dX7_trialIsInTime_26 s_26 (by omega) (ztm.symm) ?_
      refine e_icmp_gt (pc := 27) (tgt := 34) dX7_trialIsInTime_27 rfl (fun h27 => ?_) (fun h27 => ?_)
      · skip
        refine e_iconst (pc := 34) dX7_trialIsInTime_34 (by decide) ?_
        have zin : inT A tm kd = false := by unfold inT; rw [zcl]; show decide _ = _; simp; omega
        exact e_zret (pc := 35) dX7_trialIsInTime_35 rfl (by decide) (by rw [← hQ_]; exact ⟨by rw [zin]; rfl, zT3.1⟩)
      · skip
        refine e_iconst (pc := 30) dX7_trialIsInTime_30 (by decide) ?_
        refine e_goto (pc := 31) (tgt := 35) dX7_trialIsInTime_31 rfl ?_
        have zin : inT A tm kd = true := by unfold inT; rw [zcl]; show decide _ = _; simp; omega
        exact e_zret (pc := 35) dX7_trialIsInTime_35 rfl (by decide) (by rw [← hQ_]; exact ⟨by rw [zin]; rfl, zT3.1⟩)

noncomputable def an_climb (A : Mem) (down : Bool) (comer : Int) : Int := if comer ≠ -1 ∧ ¬ (0 ≤ comer ∧ comer < 8 ∧ A 18 comer.toNat = 0) then -2 else match cliA A (A 17) (A 18) down with
  | none => -1
  | some x => if comer = -1 then stT A (A 17) (A 18) x 0 0 else x comer.toNat

theorem c_climb (G : Gm) (mem : Mem) (down : Bool) (comer : Int) (hI : CI mem) : Con G mX7_climb [(2, 0), (0, (if down then 1 else 0)), (0, comer)] mem (fun r m' => r = some (0, an_climb mem down comer) ∧ Fr scQ mem m') := by
  refine Con.of (lo := [(2, 0), (0, (if down then 1 else 0)), (0, comer)]) (by decide +kernel) (Nat.le_of_ble_eq_true rfl) rfl ?_
  generalize hQ_ : (fun r m' => r = some (0, an_climb mem down comer) ∧ Fr scQ mem m' : Option AV → Mem → Prop) = Q_
  refine e_iloadn (pc := 0) dX7_climb_0 rfl rfl ?_
  refine e_iconst (pc := 1) dX7_climb_1 (by decide) ?_
  refine e_icmp_eq (pc := 2) (tgt := 16) dX7_climb_2 rfl (fun h2 => ?_) (fun h2 => ?_)
  · skip
    refine e_aloadn (pc := 16) dX7_climb_16 rfl rfl ?_
    refine e_getr (pc := 17) (k := 25) dX7_climb_17 fX7_32 s_0 rfl (by decide) ?_
    refine e_aloadn (pc := 20) dX7_climb_20 rfl rfl ?_
    refine e_getr (pc := 21) (k := 16) dX7_climb_21 fX7_28 s_0 rfl (by decide) ?_
    refine e_callV (pc := 24) (as := [(2, 16)]) (st := []) (t_becomes G (mem)) dX7_climb_24 lX7_climb_163 rfl s_25 cn_1 rfl rfl (fun r_ zm1 hq_ => ?_)
    obtain ⟨zr_, zB⟩ := hq_
    subst zr_
    refine Ev.to (st' := []) ?_ rfl rfl rfl
    refine e_aloadn (pc := 27) dX7_climb_27 rfl rfl ?_
    refine e_getr (pc := 28) (k := 25) dX7_climb_28 fX7_32 s_0 rfl (by decide) ?_
    refine e_iloadn (pc := 31) dX7_climb_31 rfl rfl ?_
    have zT1 := zB.ts hI.2.1
    refine e_callV (pc := 32) (as := [(0, (if down then 1 else 0))]) (st := []) (t_climbsT G mem zm1 (mem 17) (mem 18) down _ rfl hI zT1) dX7_climb_32 lX7_climb_166 rfl s_25 cn_1 rfl rfl (fun r_ zm2 hq_ => ?_)
    obtain ⟨zv, zr_, zT, zor⟩ := hq_
    subst zr_
    refine Ev.to (st' := [(0, zv)]) ?_ rfl rfl rfl
    rcases zor with ⟨rfl, zcl⟩ | ⟨rfl, x, zcl, zxe⟩
    · skip
      refine e_if_ne (pc := 35) (tgt := 40) dX7_climb_35 rfl (fun h35 => ?_) (fun h35 => ?_)
      · skip
        exact absurd h35 (by decide)
      · skip
        refine e_iconst (pc := 38) dX7_climb_38 (by decide) ?_
        have zan : an_climb mem down comer = -1 := by unfold an_climb; rw [if_neg (fun q => q.1 (by omega)), zcl]
        exact e_iret (pc := 39) dX7_climb_39 rfl (by rw [← hQ_]; exact ⟨by rw [zan], zT.1⟩)
    · skip
      refine e_if_ne (pc := 35) (tgt := 40) dX7_climb_35 rfl (fun h35 => ?_) (fun h35 => ?_)
      · skip
        refine e_iloadn (pc := 40) dX7_climb_40 rfl rfl ?_
        refine e_iconst (pc := 41) dX7_climb_41 (by decide) ?_
        refine e_icmp_ne (pc := 42) (tgt := 55) dX7_climb_42 rfl (fun h42 => ?_) (fun h42 => ?_)
        · skip
          exfalso; omega
        · skip
          refine e_aloadn (pc := 45) dX7_climb_45 rfl rfl ?_
          refine e_getr (pc := 46) (k := 25) dX7_climb_46 fX7_32 s_0 rfl (by decide) ?_
          refine e_callV (pc := 49) (as := []) (st := []) (t_reckT G mem zm2 (mem 17) (mem 18) hI zT) dX7_climb_49 lX7_climb_142 rfl s_25 cn_1 rfl rfl (fun r_ zm3 hq_ => ?_)
          rw [stT_ep zxe] at hq_
          obtain ⟨zr_, zT3, zf3⟩ := hq_
          subst zr_
          refine Ev.to (st' := [(0, stT mem (mem 17) (mem 18) x 0 0)]) ?_ rfl rfl rfl
          refine e_goto (pc := 52) (tgt := 64) dX7_climb_52 rfl ?_
          have zan : an_climb mem down comer = stT mem (mem 17) (mem 18) x 0 0 := by unfold an_climb; rw [if_neg (fun q => q.1 (by omega)), zcl]; exact if_pos (by omega)
          exact e_iret (pc := 64) dX7_climb_64 rfl (by rw [← hQ_]; exact ⟨by rw [zan], zT3.1⟩)
      · skip
        exact absurd h35 (by decide)
  · skip
    refine e_aloadn (pc := 5) dX7_climb_5 rfl rfl ?_
    refine e_iloadn (pc := 6) dX7_climb_6 rfl rfl ?_
    refine e_callVr (pc := 7) (as := [(0, comer)]) (st := []) (v := (0, if 0 ≤ comer ∧ comer < 8 ∧ mem 18 comer.toNat = 0 then 1 else 0)) (t_isPlain G mem comer) dX7_climb_7 lX7_climb_88 rfl s_0 cn_7 rfl rfl ?_
    by_cases zc7 : 0 ≤ comer ∧ comer < 8 ∧ mem 18 comer.toNat = 0
    · rw [if_pos zc7]
      obtain ⟨cn, rfl⟩ : ∃ cn : Nat, comer = (cn : Int) := ⟨comer.toNat, by omega⟩
      have zcn : cn < 8 := by omega
      have zck : mem 18 cn = 0 := zc7.2.2
      refine e_if_ne (pc := 10) (tgt := 16) dX7_climb_10 rfl (fun h10 => ?_) (fun h10 => ?_)
      · skip
        refine e_aloadn (pc := 16) dX7_climb_16 rfl rfl ?_
        refine e_getr (pc := 17) (k := 25) dX7_climb_17 fX7_32 s_0 rfl (by decide) ?_
        refine e_aloadn (pc := 20) dX7_climb_20 rfl rfl ?_
        refine e_getr (pc := 21) (k := 16) dX7_climb_21 fX7_28 s_0 rfl (by decide) ?_
        refine e_callV (pc := 24) (as := [(2, 16)]) (st := []) (t_becomes G (mem)) dX7_climb_24 lX7_climb_163 rfl s_25 cn_1 rfl rfl (fun r_ zm1 hq_ => ?_)
        obtain ⟨zr_, zB⟩ := hq_
        subst zr_
        refine Ev.to (st' := []) ?_ rfl rfl rfl
        refine e_aloadn (pc := 27) dX7_climb_27 rfl rfl ?_
        refine e_getr (pc := 28) (k := 25) dX7_climb_28 fX7_32 s_0 rfl (by decide) ?_
        refine e_iloadn (pc := 31) dX7_climb_31 rfl rfl ?_
        have zT1 := zB.ts hI.2.1
        refine e_callV (pc := 32) (as := [(0, (if down then 1 else 0))]) (st := []) (t_climbsT G mem zm1 (mem 17) (mem 18) down _ rfl hI zT1) dX7_climb_32 lX7_climb_166 rfl s_25 cn_1 rfl rfl (fun r_ zm2 hq_ => ?_)
        obtain ⟨zv, zr_, zT, zor⟩ := hq_
        subst zr_
        refine Ev.to (st' := [(0, zv)]) ?_ rfl rfl rfl
        rcases zor with ⟨rfl, zcl⟩ | ⟨rfl, x, zcl, zxe⟩
        · skip
          refine e_if_ne (pc := 35) (tgt := 40) dX7_climb_35 rfl (fun h35 => ?_) (fun h35 => ?_)
          · skip
            exact absurd h35 (by decide)
          · skip
            refine e_iconst (pc := 38) dX7_climb_38 (by decide) ?_
            have zan : an_climb mem down (cn : Int) = -1 := by unfold an_climb; rw [if_neg (fun q => q.2 zc7), zcl]
            exact e_iret (pc := 39) dX7_climb_39 rfl (by rw [← hQ_]; exact ⟨by rw [zan], zT.1⟩)
        · skip
          refine e_if_ne (pc := 35) (tgt := 40) dX7_climb_35 rfl (fun h35 => ?_) (fun h35 => ?_)
          · skip
            refine e_iloadn (pc := 40) dX7_climb_40 rfl rfl ?_
            refine e_iconst (pc := 41) dX7_climb_41 (by decide) ?_
            refine e_icmp_ne (pc := 42) (tgt := 55) dX7_climb_42 rfl (fun h42 => ?_) (fun h42 => ?_)
            · skip
              refine e_aloadn (pc := 55) dX7_climb_55 rfl rfl ?_
              refine e_getr (pc := 56) (k := 25) dX7_climb_56 fX7_32 s_0 rfl (by decide) ?_
              refine e_getr (pc := 59) (k := 28) dX7_climb_59 fX7_85 s_25 rfl (by decide) ?_
              refine e_iloadn (pc := 62) dX7_climb_62 rfl rfl ?_
              refine e_ialdv (pc := 63) (v := (x cn)) dX7_climb_63 s_28 (by omega) ((zxe cn zcn zck).symm) ?_
              have zan : an_climb mem down (cn : Int) = (x cn) := by unfold an_climb; rw [if_neg (fun q => q.2 zc7), zcl]; exact if_neg (by omega)
              exact e_iret (pc := 64) dX7_climb_64 rfl (by rw [← hQ_]; exact ⟨by rw [zan], zT.1⟩)
            · skip
              exfalso; omega
          · skip
            exact absurd h35 (by decide)
      · skip
        exact absurd h10 (by decide)
    · rw [if_neg zc7]
      refine e_if_ne (pc := 10) (tgt := 16) dX7_climb_10 rfl (fun h10 => ?_) (fun h10 => ?_)
      · skip
        exact absurd h10 (by decide)
      · skip
        refine e_bipush (pc := 13) dX7_climb_13 rfl (by decide) ?_
        have zan : an_climb mem down comer = -2 := by unfold an_climb; rw [if_pos ⟨by omega, zc7⟩]
        exact e_iret (pc := 15) dX7_climb_15 rfl (by rw [← hQ_]; exact ⟨by rw [zan], Fr.rf⟩)

noncomputable def wkS (A : Mem) (w : Nat) : Int := stT A (A 17) (A 18) (wkT A (A 17) (A 18) (A 19) w) 0 0
theorem wkB_S {A B : Mem} (h : Becomes A B) (u : Nat) : wkB B (B 28) u = wkS A u := by
  unfold wkB wkS
  rw [wkA_T h.2.2.2.2.1 h.2.2.2.2.2, h.2.2.2.2.1, h.2.2.2.2.2]
  exact stT_cg (late := 0) (aw := 0) h.se h.e3.1 h.kd (wkT_ep h.se h.e3 h.kd h.am.ep u)
theorem wkX_8 {A B : Mem} (h : Becomes A B) (f g : Nat) : E8 (wkA B (B 28) f) (wkA B (B 28) g) ↔ E8 (wkT A (A 17) (A 18) (A 19) f) (wkT A (A 17) (A 18) (A 19) g) := by
  rw [wkA_T h.2.2.2.2.1 h.2.2.2.2.2, wkA_T h.2.2.2.2.1 h.2.2.2.2.2]
  have e := wkT_e8 (A := A) (B := B) h.se h.e3 h.kd h.am
  exact ⟨fun q => ((e f).tr q).tr (e g).sy, fun q => ((e f).sy.tr q).tr (e g)⟩
theorem t_runB (G : Gm) (A zm : Mem) (N : Nat) (hN : N ≤ 61) (z : Int) (hz : z = (N : Int) - 1) (hI : CI A) (hB : Becomes A zm) : Con G mX6_run [(2, 37), (0, z)] zm (fun r m' => r = none ∧ Fr scQ A m' ∧ (∀ u, u < N → m' 38 u = wkS A u) ∧ ((NoRep (wkT A (A 17) (A 18) (A 19)) N ∧ m' 37 1 = -1 ∧ m' 37 2 = -1) ∨ ∃ f g : Nat, RepAt (wkT A (A 17) (A 18) (A 19)) N f g ∧ m' 37 1 = (f : Int) ∧ m' 37 2 = (g : Int) - (f : Int))) := by
  subst hz
  refine (t_run G zm N hN (hB.se.co hI.1) (hB.ev hI.2.1) (hB.se.ru hI.ru) hB.2.2.2.2.1 hB.2.2.2.2.2).mono (fun r m' h => ?_)
  obtain ⟨h1, h2, h3, h4⟩ := h
  refine ⟨h1, (scBQ hB.1).tr (scKQ h2), fun u hu => (h3 u hu).trans (wkB_S hB u), ?_⟩
  rcases h4 with ⟨q1, q2⟩ | ⟨f, g, q1, q2⟩
  · exact Or.inl ⟨q1.cg (wkX_8 hB), q2⟩
  · exact Or.inr ⟨f, g, q1.cg (wkX_8 hB), q2⟩
noncomputable def an_week (A : Mem) (week : Int) : Int := if 0 ≤ week ∧ week ≤ 60 then wkS A week.toNat else -2
noncomputable def an_round (A : Mem) (what : Int) : Int := if what = 0 ∨ what = 1 then roundF (wkT A (A 17) (A 18) (A 19)) what else -2

theorem c_week (G : Gm) (mem : Mem) (week : Int) (hI : CI mem) : Con G mX7_week [(2, 0), (0, week)] mem (fun r m' => r = some (0, an_week mem week) ∧ Fr scQ mem m') := by
  refine Con.of (lo := [(2, 0), (0, week)]) (by decide +kernel) (Nat.le_of_ble_eq_true rfl) rfl ?_
  generalize hQ_ : (fun r m' => r = some (0, an_week mem week) ∧ Fr scQ mem m' : Option AV → Mem → Prop) = Q_
  refine e_iloadn (pc := 0) dX7_week_0 rfl rfl ?_
  refine e_if_lt (pc := 1) (tgt := 10) dX7_week_1 rfl (fun h1 => ?_) (fun h1 => ?_)
  · skip
    refine e_bipush (pc := 10) dX7_week_10 rfl (by decide) ?_
    have zan : an_week mem week = -2 := by unfold an_week; (repeat (first | rw [if_pos (by omega)] | rw [if_neg (by omega)])) <;> rfl
    exact e_iret (pc := 12) dX7_week_12 rfl (by rw [← hQ_]; exact ⟨by rw [zan], Fr.rf⟩)
  · skip
    refine e_iloadn (pc := 4) dX7_week_4 rfl rfl ?_
    refine e_bipush (pc := 5) dX7_week_5 rfl (by decide) ?_
    refine e_icmp_le (pc := 7) (tgt := 13) dX7_week_7 rfl (fun h7 => ?_) (fun h7 => ?_)
    · skip
      refine e_aloadn (pc := 13) dX7_week_13 rfl rfl ?_
      refine e_getr (pc := 14) (k := 25) dX7_week_14 fX7_32 s_0 rfl (by decide) ?_
      refine e_aloadn (pc := 17) dX7_week_17 rfl rfl ?_
      refine e_getr (pc := 18) (k := 16) dX7_week_18 fX7_28 s_0 rfl (by decide) ?_
      refine e_callV (pc := 21) (as := [(2, 16)]) (st := []) (t_becomes G (mem)) dX7_week_21 lX7_week_163 rfl s_25 cn_1 rfl rfl (fun r_ zm1 hq_ => ?_)
      obtain ⟨zr_, zB⟩ := hq_
      subst zr_
      refine Ev.to (st' := []) ?_ rfl rfl rfl
      refine e_aloadn (pc := 24) dX7_week_24 rfl rfl ?_
      refine e_getr (pc := 25) (k := 37) dX7_week_25 fX7_47 s_0 rfl (by decide) ?_
      refine e_iloadn (pc := 28) dX7_week_28 rfl rfl ?_
      refine e_callV (pc := 29) (as := [(0, week)]) (st := []) (t_runB G mem zm1 (week.toNat + 1) (by omega) week (by omega) hI zB) dX7_week_29 lX7_week_191 rfl s_37 cn_6 rfl rfl (fun r_ zm2 hq_ => ?_)
      obtain ⟨zr_, zf, zw, zrd⟩ := hq_
      subst zr_
      refine Ev.to (st' := []) ?_ rfl rfl rfl
      refine e_aloadn (pc := 32) dX7_week_32 rfl rfl ?_
      refine e_getr (pc := 33) (k := 37) dX7_week_33 fX7_47 s_0 rfl (by decide) ?_
      refine e_getr (pc := 36) (k := 38) dX7_week_36 fX7_194 s_37 rfl (by decide) ?_
      refine e_iloadn (pc := 39) dX7_week_39 rfl rfl ?_
      refine e_ialdv (pc := 40) (v := (wkS mem week.toNat)) dX7_week_40 s_38 (by omega) (zw week.toNat (by omega)) ?_
      have zan : an_week mem week = (wkS mem week.toNat) := by unfold an_week; (repeat (first | rw [if_pos (by omega)] | rw [if_neg (by omega)])) <;> rfl
      exact e_iret (pc := 41) dX7_week_41 rfl (by rw [← hQ_]; exact ⟨by rw [zan], zf⟩)
    · skip
      refine e_bipush (pc := 10) dX7_week_10 rfl (by decide) ?_
      have zan : an_week mem week = -2 := by unfold an_week; (repeat (first | rw [if_pos (by omega)] | rw [if_neg (by omega)])) <;> rfl
      exact e_iret (pc := 12) dX7_week_12 rfl (by rw [← hQ_]; exact ⟨by rw [zan], Fr.rf⟩)

theorem c_round (G : Gm) (mem : Mem) (what : Int) (hI : CI mem) : Con G mX7_round [(2, 0), (0, what)] mem (fun r m' => r = some (0, an_round mem what) ∧ Fr scQ mem m') := by
  refine Con.of (lo := [(2, 0), (0, what)]) (by decide +kernel) (Nat.le_of_ble_eq_true rfl) rfl ?_
  generalize hQ_ : (fun r m' => r = some (0, an_round mem what) ∧ Fr scQ mem m' : Option AV → Mem → Prop) = Q_
  refine e_iloadn (pc := 0) dX7_round_0 rfl rfl ?_
  refine e_if_eq (pc := 1) (tgt := 12) dX7_round_1 rfl (fun h1 => ?_) (fun h1 => ?_)
  · skip
    refine e_aloadn (pc := 12) dX7_round_12 rfl rfl ?_
    refine e_getr (pc := 13) (k := 25) dX7_round_13 fX7_32 s_0 rfl (by decide) ?_
    refine e_aloadn (pc := 16) dX7_round_16 rfl rfl ?_
    refine e_getr (pc := 17) (k := 16) dX7_round_17 fX7_28 s_0 rfl (by decide) ?_
    refine e_callV (pc := 20) (as := [(2, 16)]) (st := []) (t_becomes G (mem)) dX7_round_20 lX7_round_163 rfl s_25 cn_1 rfl rfl (fun r_ zm1 hq_ => ?_)
    obtain ⟨zr_, zB⟩ := hq_
    subst zr_
    refine Ev.to (st' := []) ?_ rfl rfl rfl
    refine e_aloadn (pc := 23) dX7_round_23 rfl rfl ?_
    refine e_getr (pc := 24) (k := 37) dX7_round_24 fX7_47 s_0 rfl (by decide) ?_
    refine e_bipush (pc := 27) dX7_round_27 rfl (by decide) ?_
    refine e_callV (pc := 29) (as := [(0, 60)]) (st := []) (t_runB G mem zm1 61 (by omega) 60 (by decide) hI zB) dX7_round_29 lX7_round_191 rfl s_37 cn_6 rfl rfl (fun r_ zm2 hq_ => ?_)
    obtain ⟨zr_, zf, zw, zrd⟩ := hq_
    subst zr_
    refine Ev.to (st' := []) ?_ rfl rfl rfl
    refine e_iloadn (pc := 32) dX7_round_32 rfl rfl ?_
    refine e_if_ne (pc := 33) (tgt := 46) dX7_round_33 rfl (fun h33 => ?_) (fun h33 => ?_)
    · skip
      refine e_aloadn (pc := 46) dX7_round_46 rfl rfl ?_
      refine e_getr (pc := 47) (k := 37) dX7_round_47 fX7_47 s_0 rfl (by decide) ?_
      refine e_getiv (pc := 50) (v := zm2 37 2) dX7_round_50 fX7_200 s_37 rfl (by decide) rfl ?_
      have zan : an_round mem what = zm2 37 2 := by
        unfold an_round
        rw [if_pos (by omega)]
        refine roundF_eq ?_
        rcases zrd with ⟨q1, q2, q3⟩ | ⟨f, g, q1, q2, q3⟩
        · exact Or.inl ⟨q1, q3⟩
        · exact Or.inr ⟨f, g, q1, by rw [q3, if_neg (by omega)]⟩
      exact e_iret (pc := 53) dX7_round_53 rfl (by rw [← hQ_]; exact ⟨by rw [zan], zf⟩)
    · skip
      refine e_aloadn (pc := 36) dX7_round_36 rfl rfl ?_
      refine e_getr (pc := 37) (k := 37) dX7_round_37 fX7_47 s_0 rfl (by decide) ?_
      refine e_getiv (pc := 40) (v := zm2 37 1) dX7_round_40 fX7_197 s_37 rfl (by decide) rfl ?_
      refine e_goto (pc := 43) (tgt := 53) dX7_round_43 rfl ?_
      have zan : an_round mem what = zm2 37 1 := by
        unfold an_round
        rw [if_pos (by omega)]
        refine roundF_eq ?_
        rcases zrd with ⟨q1, q2, q3⟩ | ⟨f, g, q1, q2, q3⟩
        · exact Or.inl ⟨q1, q2⟩
        · exact Or.inr ⟨f, g, q1, by rw [q2, if_pos (by omega)]⟩
      exact e_iret (pc := 53) dX7_round_53 rfl (by rw [← hQ_]; exact ⟨by rw [zan], zf⟩)
  · skip
    refine e_iloadn (pc := 4) dX7_round_4 rfl rfl ?_
    refine e_iconst (pc := 5) dX7_round_5 (by decide) ?_
    refine e_icmp_eq (pc := 6) (tgt := 12) dX7_round_6 rfl (fun h6 => ?_) (fun h6 => ?_)
    · skip
      refine e_aloadn (pc := 12) dX7_round_12 rfl rfl ?_
      refine e_getr (pc := 13) (k := 25) dX7_round_13 fX7_32 s_0 rfl (by decide) ?_
      refine e_aloadn (pc := 16) dX7_round_16 rfl rfl ?_
      refine e_getr (pc := 17) (k := 16) dX7_round_17 fX7_28 s_0 rfl (by decide) ?_
      refine e_callV (pc := 20) (as := [(2, 16)]) (st := []) (t_becomes G (mem)) dX7_round_20 lX7_round_163 rfl s_25 cn_1 rfl rfl (fun r_ zm1 hq_ => ?_)
      obtain ⟨zr_, zB⟩ := hq_
      subst zr_
      refine Ev.to (st' := []) ?_ rfl rfl rfl
      refine e_aloadn (pc := 23) dX7_round_23 rfl rfl ?_
      refine e_getr (pc := 24) (k := 37) dX7_round_24 fX7_47 s_0 rfl (by decide) ?_
      refine e_bipush (pc := 27) dX7_round_27 rfl (by decide) ?_
      refine e_callV (pc := 29) (as := [(0, 60)]) (st := []) (t_runB G mem zm1 61 (by omega) 60 (by decide) hI zB) dX7_round_29 lX7_round_191 rfl s_37 cn_6 rfl rfl (fun r_ zm2 hq_ => ?_)
      obtain ⟨zr_, zf, zw, zrd⟩ := hq_
      subst zr_
      refine Ev.to (st' := []) ?_ rfl rfl rfl
      refine e_iloadn (pc := 32) dX7_round_32 rfl rfl ?_
      refine e_if_ne (pc := 33) (tgt := 46) dX7_round_33 rfl (fun h33 => ?_) (fun h33 => ?_)
      · skip
        refine e_aloadn (pc := 46) dX7_round_46 rfl rfl ?_
        refine e_getr (pc := 47) (k := 37) dX7_round_47 fX7_47 s_0 rfl (by decide) ?_
        refine e_getiv (pc := 50) (v := zm2 37 2) dX7_round_50 fX7_200 s_37 rfl (by decide) rfl ?_
        have zan : an_round mem what = zm2 37 2 := by
          unfold an_round
          rw [if_pos (by omega)]
          refine roundF_eq ?_
          rcases zrd with ⟨q1, q2, q3⟩ | ⟨f, g, q1, q2, q3⟩
          · exact Or.inl ⟨q1, q3⟩
          · exact Or.inr ⟨f, g, q1, by rw [q3, if_neg (by omega)]⟩
        exact e_iret (pc := 53) dX7_round_53 rfl (by rw [← hQ_]; exact ⟨by rw [zan], zf⟩)
      · skip
        refine e_aloadn (pc := 36) dX7_round_36 rfl rfl ?_
        refine e_getr (pc := 37) (k := 37) dX7_round_37 fX7_47 s_0 rfl (by decide) ?_
        refine e_getiv (pc := 40) (v := zm2 37 1) dX7_round_40 fX7_197 s_37 rfl (by decide) rfl ?_
        refine e_goto (pc := 43) (tgt := 53) dX7_round_43 rfl ?_
        have zan : an_round mem what = zm2 37 1 := by
          unfold an_round
          rw [if_pos (by omega)]
          refine roundF_eq ?_
          rcases zrd with ⟨q1, q2, q3⟩ | ⟨f, g, q1, q2, q3⟩
          · exact Or.inl ⟨q1, q2⟩
          · exact Or.inr ⟨f, g, q1, by rw [q2, if_pos (by omega)]⟩
        exact e_iret (pc := 53) dX7_round_53 rfl (by rw [← hQ_]; exact ⟨by rw [zan], zf⟩)
    · skip
      refine e_bipush (pc := 9) dX7_round_9 rfl (by decide) ?_
      have zan : an_round mem what = -2 := by unfold an_round; rw [if_neg (by omega)]
      exact e_iret (pc := 11) dX7_round_11 rfl (by rw [← hQ_]; exact ⟨by rw [zan], Fr.rf⟩)
