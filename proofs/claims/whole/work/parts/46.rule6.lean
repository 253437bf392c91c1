theorem cnR_gt {tx : Nat → Int} {L a a2 : Nat} {b v : Int} (h : cnR tx L a = some (b, v, a2)) (hL : a ≤ L) : a < L ∧ a + 1 ≤ a2 := by
  have hl : ∀ x : Int, 0 ≤ x → hrT tx L a = x → a < L := by
    intro x hx hh
    rcases Nat.lt_or_ge a L with z | z
    · exact z
    · exfalso; unfold hrT at hh; rw [if_neg (by omega)] at hh; omega
  unfold cnR at h
  by_cases h1 : hrT tx L a = 116
  · rw [if_pos h1] at h; cases h; exact ⟨hl 116 (by decide) h1, Nat.le_refl _⟩
  · rw [if_neg h1] at h
    by_cases h2 : hrT tx L a = 109
    · rw [if_pos h2] at h
      have h9 := hl 109 (by decide) h2
      have h8 := nmb_le tx L 2 (a + 1) 0 h9
      split at h
      · cases h
      · cases h; exact ⟨h9, h8.1⟩
    · rw [if_neg h2] at h
      by_cases h3 : hrT tx L a = 110
      · rw [if_pos h3] at h
        have h9 := hl 110 (by decide) h3
        have h8 := nmb_le tx L 1 (a + 1) 0 h9
        split at h
        · cases h
        · cases h; exact ⟨h9, h8.1⟩
      · rw [if_neg h3] at h
        by_cases h4 : hrT tx L a = 107
        · rw [if_pos h4] at h
          have h9 := hl 107 (by decide) h4
          have h8 := nmb_le tx L 1 (a + 1) 0 h9
          split at h
          · cases h
          · cases h; exact ⟨h9, h8.1⟩
        · rw [if_neg h4] at h; cases h
def OpM (zm : Mem) (told : Int) (wh : Nat → Int) (t : Int) : Prop := OpS (zm 10 9) (zm 10 10) (zm 10 11) (zm 10 12) told wh t
/-- what the text asks -/
def SPx (tx : Nat → Int) (L : Nat) (told : Int) (wh : Nat → Int) (t : Int) : Prop := prsS tx L told wh t 41 0 False True
/-- the reader stands at a, k alternatives are closed -/
def PIx (tx : Nat → Int) (zm : Mem) (L p a k : Nat) : Prop := TxI zm L a ∧ zm 10 1 = -1 ∧ zm 10 4 = (k : Int) ∧ 2 * k ≤ a ∧ 2 * p ≤ a ∧ opOk zm ∧ prsF tx L 41 0 = prsF tx L (41 - p) a ∧ ∀ told wh t, 0 ≤ t → (SPx tx L told wh t ↔ prsS tx L told wh t (41 - p) a (RB zm told wh t) (OpM zm told wh t))
/-- the text is read -/
def PDx (tx : Nat → Int) (zm : Mem) (L : Nat) : Prop := zm 10 1 = prsF tx L 41 0 ∧ (prsF tx L 41 0 = -1 → ∀ told wh t, 0 ≤ t → (RB zm told wh t ↔ SPx tx L told wh t))
section PIX
variable {tx : Nat → Int} {zm zm1 zm2 : Mem} {L p a k a2 : Nat} {b v : Int}
theorem PIx.lt (h : PIx tx zm L p a k) : p ≤ 20 := by
  obtain ⟨⟨_, h1, _, h2⟩, _, _, _, h3, _⟩ := h; omega
theorem PIx.no (h : PIx tx zm L p a k) (hc : cnR tx L a = none) (h1 : zm1 10 1 = ((cnF tx L a : Nat) : Int)) : PDx tx zm1 L := by
  have hp := h.lt
  have e := h.2.2.2.2.2.2.1
  rw [show 41 - p = (40 - p) + 1 by omega, prsF_no hc] at e
  exact ⟨by rw [h1, e], fun z => by omega⟩
theorem PIx.bad (h : PIx tx zm L p a k) (hc : cnR tx L a = some (b, v, a2)) (hj : ¬ (hrT tx L a2 = 38 ∨ hrT tx L a2 = 124)) (h2 : a2 < L) (h1 : zm2 10 1 = (a2 : Int)) : PDx tx zm2 L := by
  have hp := h.lt
  have e := h.2.2.2.2.2.2.1
  rw [show 41 - p = (40 - p) + 1 by omega, prsF_bad hc hj h2] at e
  exact ⟨by rw [h1, e], fun z => by omega⟩
theorem PIx.fin (h : PIx tx zm L p a k) (hc : cnR tx L a = some (b, v, a2)) (h2 : a2 = L) (h1 : zm2 10 1 = -1) (hr : ∀ told wh t, RB zm2 told wh t ↔ RB zm told wh t ∨ (OpM zm told wh t ∧ hold told wh t b v)) : PDx tx zm2 L := by
  have hp := h.lt
  have hh : hrT tx L a2 = -1 := by unfold hrT; rw [if_neg (by omega)]
  have e := h.2.2.2.2.2.2.1
  rw [show 41 - p = (40 - p) + 1 by omega, prsF_end hc (by omega) (by omega)] at e
  refine ⟨by rw [h1, e], fun _ told wh t ht => ?_⟩
  have e2 := h.2.2.2.2.2.2.2 told wh t ht
  rw [show 41 - p = (40 - p) + 1 by omega, prsS_end hc (by omega) (by omega) (by omega)] at e2
  rw [hr, e2]
theorem PIx.and (h : PIx tx zm L p a k) (hc : cnR tx L a = some (b, v, a2)) (hj : hrT tx L a2 = 38) (hI : TxI zm2 L (a2 + 1)) (h1 : zm2 10 1 = -1) (h4 : zm2 10 4 = (k : Int)) (hO : opOk zm2) (hr : ∀ told wh t, RB zm2 told wh t ↔ RB zm told wh t) (ho : ∀ told wh t, OpM zm2 told wh t ↔ OpM zm told wh t ∧ hold told wh t b v) : PIx tx zm2 L (p + 1) (a2 + 1) k := by
  have hp := h.lt
  have hg := cnR_gt hc h.1.2.2.2
  obtain ⟨_, _, _, k1, k2, _, e, e2⟩ := h
  refine ⟨hI, h1, h4, by omega, by omega, hO, ?_, fun told wh t ht => ?_⟩
  · rw [e, show 41 - p = (41 - (p + 1)) + 1 by omega, prsF_go hc (Or.inl hj)]
  · rw [e2 told wh t ht, show 41 - p = (41 - (p + 1)) + 1 by omega, prsS_and hc hj]
    exact prsS_congr _ _ (hr told wh t).symm (ho told wh t).symm
theorem PIx.or (h : PIx tx zm L p a k) (hc : cnR tx L a = some (b, v, a2)) (hj : hrT tx L a2 = 124) (hI : TxI zm2 L (a2 + 1)) (h1 : zm2 10 1 = -1) (h4 : zm2 10 4 = (k : Int) + 1) (hO : opOk zm2) (hz : zm2 10 9 = 0 ∧ zm2 10 10 = 0 ∧ zm2 10 11 = 0 ∧ zm2 10 12 = 0) (hr : ∀ told wh t, RB zm2 told wh t ↔ RB zm told wh t ∨ (OpM zm told wh t ∧ hold told wh t b v)) : PIx tx zm2 L (p + 1) (a2 + 1) (k + 1) := by
  have hp := h.lt
  have hg := cnR_gt hc h.1.2.2.2
  obtain ⟨_, _, _, k1, k2, _, e, e2⟩ := h
  refine ⟨hI, h1, h4, by omega, by omega, hO, ?_, fun told wh t ht => ?_⟩
  · rw [e, show 41 - p = (41 - (p + 1)) + 1 by omega, prsF_go hc (Or.inr hj)]
  · rw [e2 told wh t ht, show 41 - p = (41 - (p + 1)) + 1 by omega, prsS_or hc hj]
    refine prsS_congr _ _ (hr told wh t).symm ⟨fun _ => ?_, fun _ => trivial⟩
    unfold OpM OpS
    rw [hz.1, hz.2.1, hz.2.2.1, hz.2.2.2]
    exact ⟨ht, (fun q => absurd q (by decide)), Int.natCast_nonneg _, (fun c _ q => by rw [show ((0 : Int).toNat) = 0 from rfl, Nat.zero_testBit] at q; cases q)⟩
end PIX

theorem t_parse (G : Gm) (mem : Mem) (L : Nat) (hL : mem 10 0 = (L : Int) ∧ L ≤ 40) (hb : ∀ j, j < 40 → 0 ≤ mem 11 j ∧ mem 11 j ≤ 255) (hR : RuOk mem) : Con G mX4_parse [(2, 10)] mem (fun r m' => r = none ∧ Fr scJ mem m' ∧ RuOk m' ∧ m' 10 1 = prsF (mem 11) L 41 0 ∧ ∀ told wh t, 0 ≤ t → (RB m' told wh t ↔ SPx (mem 11) L told wh t)) := by
  refine Con.of (lo := [(2, 10), (3, 0), (3, 0)]) (by decide +kernel) (Nat.le_of_ble_eq_true rfl) rfl ?_
  generalize hQ_ : (fun r m' => r = none ∧ Fr scJ mem m' ∧ RuOk m' ∧ m' 10 1 = prsF (mem 11) L 41 0 ∧ ∀ told wh t, 0 ≤ t → (RB m' told wh t ↔ SPx (mem 11) L told wh t) : Option AV → Mem → Prop) = Q_
  refine e_aloadn (pc := 0) dX4_parse_0 rfl rfl ?_
  refine e_iconst (pc := 1) dX4_parse_1 (by decide) ?_
  refine e_putI (pc := 2) (mem2 := mset mem 10 3 0) dX4_parse_2 fX4_35 s_10 rfl (by decide) pw_4_3 rfl ?_
  refine e_aloadn (pc := 5) dX4_parse_5 rfl rfl ?_
  refine e_iconst (pc := 6) dX4_parse_6 (by decide) ?_
  refine e_putI (pc := 7) (mem2 := mset (mset mem 10 3 0) 10 1 (-1)) dX4_parse_7 fX4_38 s_10 rfl (by decide) pw_4_1 rfl ?_
  refine e_aloadn (pc := 10) dX4_parse_10 rfl rfl ?_
  refine e_iconst (pc := 11) dX4_parse_11 (by decide) ?_
  refine e_putI (pc := 12) (mem2 := mset (mset (mset mem 10 3 0) 10 1 (-1)) 10 4 0) dX4_parse_12 fX4_41 s_10 rfl (by decide) pw_4_4 rfl ?_
  refine e_aloadn (pc := 15) dX4_parse_15 rfl rfl ?_
  refine e_callVv (pc := 16) (as := []) (st := []) (t_opens G (mset (mset (mset mem 10 3 0) 10 1 (-1)) 10 4 0)) dX4_parse_16 lX4_parse_44 rfl s_10 cn_4 rfl rfl ?_
  refine e_iconst (pc := 19) dX4_parse_19 (by decide) ?_
  refine e_istoren (pc := 20) (lo' := [(2, 10), (0, 1), (3, 0)]) dX4_parse_20 rfl rfl (by decide) rfl ?_
  refine e_iconst (pc := 21) dX4_parse_21 (by decide) ?_
  refine e_istoren (pc := 22) (lo' := [(2, 10), (0, 1), (0, 0)]) dX4_parse_22 rfl rfl (by decide) rfl ?_
  have L23 : ∀ (n_ : Nat) (p : Nat) (zmo : Bool) (zmv : Mem), 41 - p = n_ → (p ≤ 41) → (Fr scJ mem zmv) → (RuOk zmv) → (zmo = true → ∃ a k, PIx (mem 11) zmv L p a k) → (zmo = false → PDx (mem 11) zmv L) → Ev G mX4_parse Q_ 23 [(2, 10), (0, (if zmo then 1 else 0)), (0, (p : Int))] [] zmv := by
    intro n_
    induction n_ using Nat.strongRecOn with
    | ind n_ ih23 =>
      intro p zmo zmv hn_ zp zf zR zPI zPD
      refine e_iloadn (pc := 23) dX4_parse_23 rfl rfl ?_
      refine e_bipush (pc := 24) dX4_parse_24 rfl (by decide) ?_
      refine e_icmp_gt (pc := 26) (tgt := 59) dX4_parse_26 rfl (fun h26 => ?_) (fun h26 => ?_)
      · skip
        have zmf : zmo = false := by
          cases zo : zmo with
          | false => rfl
          | true =>
            exfalso
            obtain ⟨a, k, zz1⟩ := zPI zo
            have zz2 := zz1.lt
            first | omega | (subst zo; simp at h30) | (rw [zo] at h30; simp at h30) | (rw [zo] at h26; simp at h26) | simp_all
        obtain ⟨zD1, zD2⟩ := zPD zmf
        clear zPI zPD
        refine e_aloadn (pc := 59) dX4_parse_59 rfl rfl ?_
        refine e_getiv (pc := 60) (v := (prsF (mem 11) L 41 0)) dX4_parse_60 fX4_38 s_10 rfl (by decide) (zD1) ?_
        refine e_iconst (pc := 63) dX4_parse_63 (by decide) ?_
        refine e_icmp_eq (pc := 64) (tgt := 72) dX4_parse_64 rfl (fun h64 => ?_) (fun h64 => ?_)
        · skip
          exact e_vret (pc := 72) dX4_parse_72 rfl (by rw [← hQ_]; exact ⟨rfl, zf, zR, zD1, zD2 h64⟩)
        · skip
          refine e_aloadn (pc := 67) dX4_parse_67 rfl rfl ?_
          refine e_iconst (pc := 68) dX4_parse_68 (by decide) ?_
          refine e_putI (pc := 69) (mem2 := mset zmv 10 4 0) dX4_parse_69 fX4_41 s_10 rfl (by decide) pw_4_4 rfl ?_
          have zfin : ∀ told wh t, 0 ≤ t → (RB (mset zmv 10 4 0) told wh t ↔ SPx (mem 11) L told wh t) := fun told wh t ht => ⟨fun ⟨j, q, _⟩ => absurd q (Nat.not_lt_zero j), fun q => absurd q (prs_fault _ _ _ _ h64)⟩
          have zRf : RuOk (mset zmv 10 4 0) := ⟨⟨by show (0 : Int) ≤ 0; decide, by show (0 : Int) ≤ 20; decide⟩, zR.2⟩
          exact e_vret (pc := 72) dX4_parse_72 rfl (by rw [← hQ_]; exact ⟨rfl, zf.ms rfl, zRf, zD1, zfin⟩)
      · skip
        refine e_iloadn (pc := 29) dX4_parse_29 rfl rfl ?_
        refine e_if_eq (pc := 30) (tgt := 59) dX4_parse_30 rfl (fun h30 => ?_) (fun h30 => ?_)
        · skip
          have zmf : zmo = false := by
            cases zo : zmo with
            | false => rfl
            | true =>
              exfalso
              obtain ⟨a, k, zz1⟩ := zPI zo
              have zz2 := zz1.lt
              first | omega | (subst zo; simp at h30) | (rw [zo] at h30; simp at h30) | (rw [zo] at h26; simp at h26) | simp_all
          obtain ⟨zD1, zD2⟩ := zPD zmf
          clear zPI zPD
          refine e_aloadn (pc := 59) dX4_parse_59 rfl rfl ?_
          refine e_getiv (pc := 60) (v := (prsF (mem 11) L 41 0)) dX4_parse_60 fX4_38 s_10 rfl (by decide) (zD1) ?_
          refine e_iconst (pc := 63) dX4_parse_63 (by decide) ?_
          refine e_icmp_eq (pc := 64) (tgt := 72) dX4_parse_64 rfl (fun h64 => ?_) (fun h64 => ?_)
          · skip
            exact e_vret (pc := 72) dX4_parse_72 rfl (by rw [← hQ_]; exact ⟨rfl, zf, zR, zD1, zD2 h64⟩)
          · skip
            refine e_aloadn (pc := 67) dX4_parse_67 rfl rfl ?_
            refine e_iconst (pc := 68) dX4_parse_68 (by decide) ?_
            refine e_putI (pc := 69) (mem2 := mset zmv 10 4 0) dX4_parse_69 fX4_41 s_10 rfl (by decide) pw_4_4 rfl ?_
            have zfin : ∀ told wh t, 0 ≤ t → (RB (mset zmv 10 4 0) told wh t ↔ SPx (mem 11) L told wh t) := fun told wh t ht => ⟨fun ⟨j, q, _⟩ => absurd q (Nat.not_lt_zero j), fun q => absurd q (prs_fault _ _ _ _ h64)⟩
            have zRf : RuOk (mset zmv 10 4 0) := ⟨⟨by show (0 : Int) ≤ 0; decide, by show (0 : Int) ≤ 20; decide⟩, zR.2⟩
            exact e_vret (pc := 72) dX4_parse_72 rfl (by rw [← hQ_]; exact ⟨rfl, zf.ms rfl, zRf, zD1, zfin⟩)
        · skip
          have zmt : zmo = true := by cases zmo <;> simp_all
          obtain ⟨a, k, zPI⟩ := zPI zmt
          clear zPD
          have zp20 := zPI.lt
          have zple : p + 1 ≤ 41 := by omega
          have zdec : 41 - (p + 1) < n_ := by omega
          have z11 : zmv 11 = mem 11 := funext (fun j => zf 11 j rfl)
          refine e_aloadn (pc := 33) dX4_parse_33 rfl rfl ?_
          refine e_callV (pc := 34) (as := []) (st := []) (t_readsCondition G zmv L a zPI.1 (by rw [z11]; exact hb) zPI.2.1 zPI.2.2.2.2.2.1) dX4_parse_34 lX4_parse_47 rfl s_10 cn_4 rfl rfl (fun r_ zm1 hq_ => ?_)
          rw [z11] at hq_
          obtain ⟨zfc, zor⟩ := hq_
          have zf1 : Fr scJ mem zm1 := zf.tr (zfc.mono (fun c j q => by unfold scJ at q; unfold scP; simp at q ⊢; omega))
          have zR1 : RuOk zm1 := RuOk.mv (zfc 10 4 rfl) (funext fun j => zfc 12 j rfl) (funext fun j => zfc 13 j rfl) (funext fun j => zfc 14 j rfl) (funext fun j => zfc 15 j rfl) zR
          have zRB1 : ∀ told wh t, RB zm1 told wh t ↔ RB zmv told wh t := fun told wh t => RB_mv (zfc 10 4 rfl) (funext fun j => zfc 12 j rfl) (funext fun j => zfc 13 j rfl) (funext fun j => zfc 14 j rfl) (funext fun j => zfc 15 j rfl)
          obtain ⟨zrv, zr_, zoc⟩ : ∃ zrv : Int, r_ = some (0, zrv) ∧ ((zrv = 0 ∧ cnR (mem 11) L a = none ∧ zm1 10 1 = ((cnF (mem 11) L a : Nat) : Int)) ∨ (zrv = 1 ∧ ∃ (b v : Int) (a2 : Nat), cnR (mem 11) L a = some (b, v, a2) ∧ zm1 10 1 = -1 ∧ zm1 10 3 = (a2 : Int) ∧ a2 ≤ L ∧ opOk zm1 ∧ ∀ told wh t, OpS (zm1 10 9) (zm1 10 10) (zm1 10 11) (zm1 10 12) told wh t ↔ OpS (zmv 10 9) (zmv 10 10) (zmv 10 11) (zmv 10 12) told wh t ∧ hold told wh t b v)) := by
            rcases zor with ⟨h1, h2, h3⟩ | ⟨b, v, a2, h1, h2, h3⟩
            · exact ⟨_, h2, Or.inl ⟨rfl, h1, h3⟩⟩
            · exact ⟨_, h2, Or.inr ⟨rfl, b, v, a2, h1, h3⟩⟩
          clear zor
          subst zr_
          refine Ev.to (st' := [(0, zrv)]) ?_ rfl rfl rfl
          rcases zoc with ⟨rfl, zcn, zrf⟩ | ⟨rfl, b, v, a2, zcn, zrf, zat, zal, zop, zsem⟩
          · skip
            refine e_if_eq (pc := 37) (tgt := 51) dX4_parse_37 rfl (fun h37 => ?_) (fun h37 => ?_)
            · skip
              refine e_iconst (pc := 51) dX4_parse_51 (by decide) ?_
              refine e_istoren (pc := 52) (lo' := [(2, 10), (0, 0), (0, (p : Int))]) dX4_parse_52 rfl rfl (by decide) rfl ?_
              refine e_iinc (pc := 53) (lo' := [(2, 10), (0, 0), (0, (p : Int) + 1)]) dX4_parse_53 rfl (by omega) rfl (by decide) rfl ?_
              refine e_goto (pc := 56) (tgt := 23) dX4_parse_56 rfl ?_
              exact Ev.to (ih23 _ (zdec) (p + 1) false zm1 (rfl) (zple) (zf1) (zR1) (fun z => by cases z) (fun _ => zPI.no zcn zrf)) rfl rfl rfl
            · skip
              exfalso; omega
          · skip
            refine e_if_eq (pc := 37) (tgt := 51) dX4_parse_37 rfl (fun h37 => ?_) (fun h37 => ?_)
            · skip
              exfalso; omega
            · skip
              refine e_aloadn (pc := 40) dX4_parse_40 rfl rfl ?_
              have zgt := cnR_gt zcn zPI.1.2.2.2
              have zka := zPI.2.2.2.1
              have zI1 : TxI zm1 L a2 := ⟨(zfc 10 0 rfl).trans zPI.1.1, zPI.1.2.1, zat, zal⟩
              have zk1 : zm1 10 4 = (k : Int) := (zfc 10 4 rfl).trans zPI.2.2.1
              have z111 : zm1 11 = mem 11 := funext (fun j => zf1 11 j rfl)
              refine e_callV (pc := 41) (as := []) (st := []) (t_readsJoint G zm1 L a2 k zI1 zrf zk1 (by omega) zR1 zop) dX4_parse_41 lX4_parse_51 rfl s_10 cn_4 rfl rfl (fun r_ zm2 hq_ => ?_)
              rw [z111] at hq_
              obtain ⟨zfj, zR2, zop2, zor⟩ := hq_
              have zf2 : Fr scJ mem zm2 := zf1.tr zfj
              have zl2 : zm2 10 0 = (L : Int) := (zfj 10 0 rfl).trans zI1.1
              obtain ⟨zrw, zr_, zoj⟩ : ∃ zrw : Int, r_ = some (0, zrw) ∧ ((zrw = 1 ∧ (PIx (mem 11) zm2 L (p + 1) (a2 + 1) k ∨ PIx (mem 11) zm2 L (p + 1) (a2 + 1) (k + 1))) ∨ (zrw = 0 ∧ PDx (mem 11) zm2 L)) := by
                have zsem1 : ∀ told wh t, RB zm1 told wh t ∨ OpM zm1 told wh t ↔ RB zmv told wh t ∨ (OpM zmv told wh t ∧ hold told wh t b v) := fun told wh t => or_congr (zRB1 told wh t) (zsem told wh t)
                rcases zor with ⟨h1, h2, h3⟩ | ⟨h1, h2, h3, h4, h5, h6, h7, h8⟩ | ⟨h1, h2, h3, h4, h5⟩ | ⟨h1, h2, h3, h4⟩
                · refine ⟨1, h2, Or.inl ⟨rfl, Or.inl ?_⟩⟩
                  have ha2 : a2 < L := by
                    rcases Nat.lt_or_ge a2 L with z | z
                    · exact z
                    · exfalso; unfold hrT at h1; rw [if_neg (by omega)] at h1; omega
                  subst h3
                  exact zPI.and zcn h1 ⟨zl2, zPI.1.2.1, rfl, ha2⟩ zrf zk1 zop (fun told wh t => (RB_at (by decide) told wh t).trans (zRB1 told wh t)) zsem
                · exact ⟨1, h3, Or.inl ⟨rfl, Or.inr (zPI.or zcn h1 ⟨zl2, zPI.1.2.1, h4, h2⟩ h5 h6 zop2 h7 (fun told wh t => (h8 told wh t).trans (zsem1 told wh t)))⟩⟩
                · exact ⟨0, h4, Or.inr ⟨rfl, zPI.bad zcn (fun z => z.elim h1 h2) h3 (by rw [h5]; rfl)⟩⟩
                · exact ⟨0, h2, Or.inr ⟨rfl, zPI.fin zcn h1 h3 (fun told wh t => (h4 told wh t).trans (zsem1 told wh t))⟩⟩
              clear zor
              subst zr_
              refine Ev.to (st' := [(0, zrw)]) ?_ rfl rfl rfl
              rcases zoj with ⟨rfl, zN | zN⟩ | ⟨rfl, zN⟩
              · skip
                refine e_if_eq (pc := 44) (tgt := 51) dX4_parse_44 rfl (fun h44 => ?_) (fun h44 => ?_)
                · skip
                  exfalso; omega
                · skip
                  refine e_iconst (pc := 47) dX4_parse_47 (by decide) ?_
                  refine e_goto (pc := 48) (tgt := 52) dX4_parse_48 rfl ?_
                  refine e_istoren (pc := 52) (lo' := [(2, 10), (0, 1), (0, (p : Int))]) dX4_parse_52 rfl rfl (by decide) rfl ?_
                  refine e_iinc (pc := 53) (lo' := [(2, 10), (0, 1), (0, (p : Int) + 1)]) dX4_parse_53 rfl (by omega) rfl (by decide) rfl ?_
                  refine e_goto (pc := 56) (tgt := 23) dX4_parse_56 rfl ?_
                  exact Ev.to (ih23 _ (zdec) (p + 1) true zm2 (rfl) (zple) (zf2) (zR2) (fun _ => ⟨_, _, zN⟩) (fun z => by cases z)) rfl rfl rfl
              · skip
                refine e_if_eq (pc := 44) (tgt := 51) dX4_parse_44 rfl (fun h44 => ?_) (fun h44 => ?_)
                · skip
                  exfalso; omega
                · skip
                  refine e_iconst (pc := 47) dX4_parse_47 (by decide) ?_
                  refine e_goto (pc := 48) (tgt := 52) dX4_parse_48 rfl ?_
                  refine e_istoren (pc := 52) (lo' := [(2, 10), (0, 1), (0, (p : Int))]) dX4_parse_52 rfl rfl (by decide) rfl ?_
                  refine e_iinc (pc := 53) (lo' := [(2, 10), (0, 1), (0, (p : Int) + 1)]) dX4_parse_53 rfl (by omega) rfl (by decide) rfl ?_
                  refine e_goto (pc := 56) (tgt := 23) dX4_parse_56 rfl ?_
                  exact Ev.to (ih23 _ (zdec) (p + 1) true zm2 (rfl) (zple) (zf2) (zR2) (fun _ => ⟨_, _, zN⟩) (fun z => by cases z)) rfl rfl rfl
              · skip
                refine e_if_eq (pc := 44) (tgt := 51) dX4_parse_44 rfl (fun h44 => ?_) (fun h44 => ?_)
                · skip
                  refine e_iconst (pc := 51) dX4_parse_51 (by decide) ?_
                  refine e_istoren (pc := 52) (lo' := [(2, 10), (0, 0), (0, (p : Int))]) dX4_parse_52 rfl rfl (by decide) rfl ?_
                  refine e_iinc (pc := 53) (lo' := [(2, 10), (0, 0), (0, (p : Int) + 1)]) dX4_parse_53 rfl (by omega) rfl (by decide) rfl ?_
                  refine e_goto (pc := 56) (tgt := 23) dX4_parse_56 rfl ?_
                  exact Ev.to (ih23 _ (zdec) (p + 1) false zm2 (rfl) (zple) (zf2) (zR2) (fun z => by cases z) (fun _ => zN)) rfl rfl rfl
                · skip
                  exfalso; omega
  have zRu0 : RuOk (mset (mset (mset mem 10 3 0) 10 1 (-1)) 10 4 0) := ⟨⟨by show (0 : Int) ≤ 0; decide, by show (0 : Int) ≤ 20; decide⟩, hR.2⟩
  have zP0 : PIx (mem 11) (mset (mset (mset (mset (mset (mset (mset mem 10 3 0) 10 1 (-1)) 10 4 0) 10 9 0) 10 10 0) 10 11 0) 10 12 0) L 0 0 0 := by
    refine ⟨⟨hL.1, hL.2, rfl, Nat.zero_le _⟩, rfl, rfl, Nat.le_refl _, Nat.le_refl _, ⟨(by decide : (0 : Int) ≤ 0 ∧ (0 : Int) ≤ 59), Or.inl rfl, (by decide : (0 : Int) ≤ 0 ∧ (0 : Int) ≤ 8), (by decide : (0 : Int) ≤ 0 ∧ (0 : Int) < 256)⟩, rfl, fun told wh t ht => ?_⟩
    refine prsS_congr _ _ ⟨fun q => q.elim, fun ⟨j, q, _⟩ => absurd q (Nat.not_lt_zero j)⟩ ⟨fun _ => ?_, fun _ => trivial⟩
    exact ⟨ht, (fun q => absurd q (show ¬ ((0 : Int) = 1) by decide)), Int.natCast_nonneg _, (fun c _ q => by have q2 : ((0 : Int).toNat).testBit c = true := q; rw [show ((0 : Int).toNat) = 0 from rfl, Nat.zero_testBit] at q2; cases q2)⟩
  exact Ev.to (L23 _ 0 true (mset (mset (mset (mset (mset (mset (mset mem 10 3 0) 10 1 (-1)) 10 4 0) 10 9 0) 10 10 0) 10 11 0) 10 12 0) (rfl) (by omega) ((((((((Fr.rf.ms rfl).ms rfl).ms rfl).ms rfl).ms rfl).ms rfl).ms rfl)) (Ru_at (by decide) (Ru_at (by decide) (Ru_at (by decide) (Ru_at (by decide) zRu0)))) (fun _ => ⟨0, 0, zP0⟩) (fun z => by cases z)) rfl rfl rfl
