/-- an alternative is closed -/
def clM (mem : Mem) (k : Nat) : Mem := mset (mset (mset (mset (mset mem 12 k (mem 10 9)) 13 k (mem 10 10)) 14 k (mem 10 11)) 15 k (mem 10 12)) 10 4 ((k : Int) + 1)
theorem clM_rows (mem : Mem) (k : Nat) : clM mem k 12 = uset (mem 12) k (mem 10 9) ∧ clM mem k 13 = uset (mem 13) k (mem 10 10) ∧ clM mem k 14 = uset (mem 14) k (mem 10 11) ∧ clM mem k 15 = uset (mem 15) k (mem 10 12) ∧ clM mem k 10 4 = (k : Int) + 1 := ⟨rfl, rfl, rfl, rfl, rfl⟩
theorem clM_RB {mem : Mem} {k : Nat} (hk : mem 10 4 = (k : Int)) (told : Int) (wh : Nat → Int) (t : Int) : RB (clM mem k) told wh t ↔ RB mem told wh t ∨ OpS (mem 10 9) (mem 10 10) (mem 10 11) (mem 10 12) told wh t := by
  obtain ⟨e1, e2, e3, e4, e5⟩ := clM_rows mem k
  unfold RB OpS
  rw [e1, e2, e3, e4, e5, hk, show ((k : Int) + 1).toNat = k + 1 by omega, show ((k : Int)).toNat = k from rfl]
  constructor
  · rintro ⟨j, h1, h2, h3, h4, h5⟩
    by_cases e : j = k
    · subst e
      rw [uset_eq] at h2 h3 h4 h5
      exact Or.inr ⟨h2, h3, h4, h5⟩
    · rw [uset_ne _ _ e] at h2 h3 h4 h5
      exact Or.inl ⟨j, by omega, h2, h3, h4, h5⟩
  · rintro (⟨j, h1, h2, h3, h4, h5⟩ | ⟨h2, h3, h4, h5⟩)
    · have e : j ≠ k := by omega
      refine ⟨j, by omega, ?_, ?_, ?_, ?_⟩
      · rw [uset_ne _ _ e]; exact h2
      · rw [uset_ne _ _ e]; exact h3
      · rw [uset_ne _ _ e]; exact h4
      · rw [uset_ne _ _ e]; exact h5
    · refine ⟨k, by omega, ?_, ?_, ?_, ?_⟩
      · rw [uset_eq]; exact h2
      · rw [uset_eq]; exact h3
      · rw [uset_eq]; exact h4
      · rw [uset_eq]; exact h5
theorem clM_Ru {mem : Mem} {k : Nat} (hk : k < 20) (hR : RuOk mem) (hO : opOk mem) : RuOk (clM mem k) := by
  obtain ⟨e1, e2, e3, e4, e5⟩ := clM_rows mem k
  unfold RuOk
  rw [e1, e2, e3, e4, e5]
  refine ⟨by omega, fun i hi => ?_⟩
  by_cases e : i = k
  · rw [e, uset_eq, uset_eq, uset_eq, uset_eq]; exact hO
  · rw [uset_ne _ _ e, uset_ne _ _ e, uset_ne _ _ e, uset_ne _ _ e]; exact hR.2 i hi
def scJ (c j : Nat) : Bool := c == 12 || c == 13 || c == 14 || c == 15 || (c == 10 && (j == 1 || j == 3 || j == 4 || j == 9 || j == 10 || j == 11 || j == 12))
theorem clM_fr {mem : Mem} {k : Nat} : Fr scJ mem (clM mem k) := ((((((Fr.rf (S := scJ)).ms rfl).ms rfl).ms rfl).ms rfl).ms rfl)
theorem Ru_at {mem : Mem} {v : Int} {j : Nat} (hj : j ≠ 4) (hR : RuOk mem) : RuOk (mset mem 10 j v) := RuOk.mv (mset_nj _ _ _ _ (Ne.symm hj)) rfl rfl rfl rfl hR
theorem RB_at {mem : Mem} {v : Int} {j : Nat} (hj : j ≠ 4) (told : Int) (wh : Nat → Int) (t : Int) : RB (mset mem 10 j v) told wh t ↔ RB mem told wh t := RB_mv (mset_nj _ _ _ _ (Ne.symm hj)) rfl rfl rfl rfl

theorem t_readsJoint (G : Gm) (mem : Mem) (L a k : Nat) (hI : TxI mem L a) (hf : mem 10 1 = -1) (hk : mem 10 4 = (k : Int)) (hka : 2 * k + 1 ≤ a) (hR : RuOk mem) (hO : opOk mem) : Con G mX4_readsJoint [(2, 10)] mem (fun r m' => Fr scJ mem m' ∧ RuOk m' ∧ opOk m' ∧ ((hrT (mem 11) L a = 38 ∧ r = some (0, 1) ∧ m' = mset mem 10 3 ((a + 1 : Nat) : Int)) ∨ (hrT (mem 11) L a = 124 ∧ a < L ∧ r = some (0, 1) ∧ m' 10 3 = ((a + 1 : Nat) : Int) ∧ m' 10 1 = -1 ∧ m' 10 4 = (k : Int) + 1 ∧ (m' 10 9 = 0 ∧ m' 10 10 = 0 ∧ m' 10 11 = 0 ∧ m' 10 12 = 0) ∧ ∀ told wh t, RB m' told wh t ↔ RB mem told wh t ∨ OpS (mem 10 9) (mem 10 10) (mem 10 11) (mem 10 12) told wh t) ∨ (hrT (mem 11) L a ≠ 38 ∧ hrT (mem 11) L a ≠ 124 ∧ a < L ∧ r = some (0, 0) ∧ m' = mset mem 10 1 (a : Int)) ∨ (a = L ∧ r = some (0, 0) ∧ m' 10 1 = -1 ∧ ∀ told wh t, RB m' told wh t ↔ RB mem told wh t ∨ OpS (mem 10 9) (mem 10 10) (mem 10 11) (mem 10 12) told wh t))) := by
  refine Con.of (lo := [(2, 10), (3, 0)]) (by decide +kernel) (Nat.le_of_ble_eq_true rfl) rfl ?_
  generalize hQ_ : (fun r m' => Fr scJ mem m' ∧ RuOk m' ∧ opOk m' ∧ ((hrT (mem 11) L a = 38 ∧ r = some (0, 1) ∧ m' = mset mem 10 3 ((a + 1 : Nat) : Int)) ∨ (hrT (mem 11) L a = 124 ∧ a < L ∧ r = some (0, 1) ∧ m' 10 3 = ((a + 1 : Nat) : Int) ∧ m' 10 1 = -1 ∧ m' 10 4 = (k : Int) + 1 ∧ (m' 10 9 = 0 ∧ m' 10 10 = 0 ∧ m' 10 11 = 0 ∧ m' 10 12 = 0) ∧ ∀ told wh t, RB m' told wh t ↔ RB mem told wh t ∨ OpS (mem 10 9) (mem 10 10) (mem 10 11) (mem 10 12) told wh t) ∨ (hrT (mem 11) L a ≠ 38 ∧ hrT (mem 11) L a ≠ 124 ∧ a < L ∧ r = some (0, 0) ∧ m' = mset mem 10 1 (a : Int)) ∨ (a = L ∧ r = some (0, 0) ∧ m' 10 1 = -1 ∧ ∀ told wh t, RB m' told wh t ↔ RB mem told wh t ∨ OpS (mem 10 9) (mem 10 10) (mem 10 11) (mem 10 12) told wh t)) : Option AV → Mem → Prop) = Q_
  refine e_aloadn (pc := 0) dX4_readsJoint_0 rfl rfl ?_
  refine e_callVr (pc := 1) (as := []) (st := []) (t_here G mem L a hI) dX4_readsJoint_1 lX4_readsJoint_54 rfl s_10 cn_4 rfl rfl ?_
  refine e_istoren (pc := 4) (lo' := [(2, 10), (0, hrT (mem 11) L a)]) dX4_readsJoint_4 rfl rfl (by decide) rfl ?_
  have zL := hI.2.1
  have zaL := hI.2.2.2
  refine e_iloadn (pc := 5) dX4_readsJoint_5 rfl rfl ?_
  refine e_bipush (pc := 6) dX4_readsJoint_6 rfl (by decide) ?_
  refine e_icmp_ne (pc := 8) (tgt := 23) dX4_readsJoint_8 rfl (fun h8 => ?_) (fun h8 => ?_)
  · skip
    refine e_iloadn (pc := 23) dX4_readsJoint_23 rfl rfl ?_
    refine e_bipush (pc := 24) dX4_readsJoint_24 rfl (by decide) ?_
    refine e_icmp_ne (pc := 26) (tgt := 49) dX4_readsJoint_26 rfl (fun h26 => ?_) (fun h26 => ?_)
    · skip
      refine e_aloadn (pc := 49) dX4_readsJoint_49 rfl rfl ?_
      refine e_getiv (pc := 50) (v := (a : Int)) dX4_readsJoint_50 fX4_35 s_10 rfl (by decide) (hI.2.2.1) ?_
      refine e_aloadn (pc := 53) dX4_readsJoint_53 rfl rfl ?_
      refine e_getiv (pc := 54) (v := (L : Int)) dX4_readsJoint_54 fX4_28 s_10 rfl (by decide) (hI.1) ?_
      refine e_icmp_ge (pc := 57) (tgt := 71) dX4_readsJoint_57 rfl (fun h57 => ?_) (fun h57 => ?_)
      · skip
        refine e_aloadn (pc := 71) dX4_readsJoint_71 rfl rfl ?_
        have zCl : Con G mX4_closes [(2, 10)] (mem) (fun r m' => r = none ∧ m' = clM (mem) k) := t_closes G (mem) k hk (by omega) hO.2.1
        refine e_callVv (pc := 72) (as := []) (st := []) (zCl) dX4_readsJoint_72 lX4_readsJoint_81 rfl s_10 cn_4 rfl rfl ?_
        refine e_iconst (pc := 75) dX4_readsJoint_75 (by decide) ?_
        exact e_zret (pc := 76) dX4_readsJoint_76 rfl (by decide) (by rw [← hQ_]; exact ⟨clM_fr, clM_Ru (by omega) hR hO, hO, Or.inr (Or.inr (Or.inr ⟨by omega, rfl, hf, fun told wh t => clM_RB hk told wh t⟩))⟩)
      · skip
        refine e_aloadn (pc := 60) dX4_readsJoint_60 rfl rfl ?_
        refine e_aloadn (pc := 61) dX4_readsJoint_61 rfl rfl ?_
        refine e_getiv (pc := 62) (v := (a : Int)) dX4_readsJoint_62 fX4_35 s_10 rfl (by decide) (hI.2.2.1) ?_
        refine e_putI (pc := 65) (mem2 := mset mem 10 1 (a : Int)) dX4_readsJoint_65 fX4_38 s_10 rfl (by decide) pw_4_1 rfl ?_
        refine e_goto (pc := 68) (tgt := 75) dX4_readsJoint_68 rfl ?_
        refine e_iconst (pc := 75) dX4_readsJoint_75 (by decide) ?_
        exact e_zret (pc := 76) dX4_readsJoint_76 rfl (by decide) (by rw [← hQ_]; exact ⟨(Fr.rf (S := scJ)).ms rfl, Ru_at (by decide) hR, hO, Or.inr (Or.inr (Or.inl ⟨by omega, by omega, by omega, rfl, rfl⟩))⟩)
    · skip
      refine e_aloadn (pc := 29) dX4_readsJoint_29 rfl rfl ?_
      refine e_dup (pc := 30) dX4_readsJoint_30 rfl ?_
      refine e_getiv (pc := 31) (v := (a : Int)) dX4_readsJoint_31 fX4_35 s_10 rfl (by decide) (hI.2.2.1) ?_
      refine e_iconst (pc := 34) dX4_readsJoint_34 (by decide) ?_
      refine e_iaddn (pc := 35) dX4_readsJoint_35 (by omega) ?_
      refine e_putI (pc := 36) (mem2 := mset mem 10 3 ((a + 1 : Nat) : Int)) dX4_readsJoint_36 fX4_35 s_10 rfl (by decide) pw_4_3 (rfl) ?_
      refine e_aloadn (pc := 39) dX4_readsJoint_39 rfl rfl ?_
      have zCl : Con G mX4_closes [(2, 10)] (mset mem 10 3 ((a + 1 : Nat) : Int)) (fun r m' => r = none ∧ m' = clM (mset mem 10 3 ((a + 1 : Nat) : Int)) k) := t_closes G (mset mem 10 3 ((a + 1 : Nat) : Int)) k hk (by omega) hO.2.1
      refine e_callVv (pc := 40) (as := []) (st := []) (zCl) dX4_readsJoint_40 lX4_readsJoint_81 rfl s_10 cn_4 rfl rfl ?_
      refine e_aloadn (pc := 43) dX4_readsJoint_43 rfl rfl ?_
      refine e_callVv (pc := 44) (as := []) (st := []) (t_opens G (clM (mset mem 10 3 ((a + 1 : Nat) : Int)) k)) dX4_readsJoint_44 lX4_readsJoint_44 rfl s_10 cn_4 rfl rfl ?_
      refine e_iconst (pc := 47) dX4_readsJoint_47 (by decide) ?_
      have zbL : a < L := by
        rcases Nat.lt_or_ge a L with z | z
        · exact z
        · exfalso; unfold hrT at h26; rw [if_neg (by omega)] at h26; omega
      have zRu : RuOk (mset (mset (mset (mset (clM (mset mem 10 3 ((a + 1 : Nat) : Int)) k) 10 9 0) 10 10 0) 10 11 0) 10 12 0) := Ru_at (by decide) (Ru_at (by decide) (Ru_at (by decide) (Ru_at (by decide) (clM_Ru (by omega) (Ru_at (by decide) hR) hO))))
      have zRB : ∀ told wh t, RB (mset (mset (mset (mset (clM (mset mem 10 3 ((a + 1 : Nat) : Int)) k) 10 9 0) 10 10 0) 10 11 0) 10 12 0) told wh t ↔ RB mem told wh t ∨ OpS (mem 10 9) (mem 10 10) (mem 10 11) (mem 10 12) told wh t := by
        intro told wh t
        rw [RB_at (by decide), RB_at (by decide), RB_at (by decide), RB_at (by decide), clM_RB (mem := mset mem 10 3 ((a + 1 : Nat) : Int)) hk, RB_at (by decide)]
        exact Iff.rfl
      have zfr : Fr scJ mem (mset (mset (mset (mset (clM (mset mem 10 3 ((a + 1 : Nat) : Int)) k) 10 9 0) 10 10 0) 10 11 0) 10 12 0) := ((((((Fr.rf (S := scJ)).ms rfl).tr clM_fr).ms rfl).ms rfl).ms rfl).ms rfl
      exact e_zret (pc := 48) dX4_readsJoint_48 rfl (by decide) (by rw [← hQ_]; exact ⟨zfr, zRu, ⟨(by decide : (0 : Int) ≤ 0 ∧ (0 : Int) ≤ 59), Or.inl rfl, (by decide : (0 : Int) ≤ 0 ∧ (0 : Int) ≤ 8), (by decide : (0 : Int) ≤ 0 ∧ (0 : Int) < 256)⟩, Or.inr (Or.inl ⟨h26, zbL, rfl, rfl, hf, rfl, ⟨rfl, rfl, rfl, rfl⟩, zRB⟩)⟩)
  · skip
    refine e_aloadn (pc := 11) dX4_readsJoint_11 rfl rfl ?_
    refine e_dup (pc := 12) dX4_readsJoint_12 rfl ?_
    refine e_getiv (pc := 13) (v := (a : Int)) dX4_readsJoint_13 fX4_35 s_10 rfl (by decide) (hI.2.2.1) ?_
    refine e_iconst (pc := 16) dX4_readsJoint_16 (by decide) ?_
    refine e_iaddn (pc := 17) dX4_readsJoint_17 (by omega) ?_
    refine e_putI (pc := 18) (mem2 := mset mem 10 3 ((a + 1 : Nat) : Int)) dX4_readsJoint_18 fX4_35 s_10 rfl (by decide) pw_4_3 (rfl) ?_
    refine e_iconst (pc := 21) dX4_readsJoint_21 (by decide) ?_
    exact e_zret (pc := 22) dX4_readsJoint_22 rfl (by decide) (by rw [← hQ_]; exact ⟨(Fr.rf (S := scJ)).ms rfl, Ru_at (by decide) hR, hO, Or.inl ⟨by omega, rfl, rfl⟩⟩)
