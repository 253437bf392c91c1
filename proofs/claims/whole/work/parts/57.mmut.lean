section MIU
variable {A B zm zn : Mem}
theorem MPs.mv (h : MPs A zm) (hf : zn 49 49 = B 41 3) (e : ∀ c, 43 ≤ c → c ≤ 48 → B c = A c) (e3 : zn 73 = zm 73) (e4 : zn 74 = zm 74) (e5 : zn 75 = zm 75) (e6 : zn 76 = zm 76) : MPs B zn := by
  unfold MPs
  rw [e3, e4, e5, e6, e 47 (by omega) (by omega), e 48 (by omega) (by omega)]
  refine ⟨hf, fun s hs => ?_⟩
  rw [e (43 + s) (by omega) (by omega)]
  exact h.2 s hs
theorem MI.meet (h : MI A zm) (f : Int) : MI (mset A 41 3 f) (mset zm 49 49 f) := ⟨h.1, h.2.1, h.2.2.1, h.2.2.2.1.mv rfl (fun c h1 h2 => mset_nc _ _ _ _ (by omega)) rfl rfl rfl rfl, h.2.2.2.2⟩
theorem MI.aim (h : MI A zm) {c : Nat} (v : Int) (hk : A 18 c = 0) : MI (mset A 19 c v) (mset zm 51 c v) := by
  refine ⟨⟨h.1.1, fun d hd hn => ?_⟩, h.2.1, h.2.2.1, h.2.2.2.1.mv h.2.2.2.1.1 (fun c h1 h2 => mset_nc _ _ _ _ (by omega)) rfl rfl rfl rfl, h.2.2.2.2⟩
  obtain ⟨⟨a1, a2, a3⟩, a4⟩ := h.1.2 d hd hn
  refine ⟨⟨a1, fun q => ?_, fun q => ?_⟩, a4⟩
  · show uset (zm 51) c v d = uset (A 19) c v d
    unfold uset
    split
    · rfl
    · exact a2 q
  · show uset (zm 51) c v d = A 2 d ∧ zm 52 d = A 3 d
    have q2 : A 18 d = 2 := q
    rw [uset_ne _ _ (fun e => by rw [e, hk] at q2; omega)]
    exact a3 q
theorem MI.set0 (h : MI A zm) (v : Int) : MI (mset A 17 0 v) (mset zm 49 9 v) := ⟨h.1, ⟨rfl, h.2.1.2.1, h.2.1.2.2⟩, h.2.2.1, h.2.2.2.1.mv h.2.2.2.1.1 (fun c h1 h2 => mset_nc _ _ _ _ (by omega)) rfl rfl rfl rfl, h.2.2.2.2⟩
theorem MI.set1 (h : MI A zm) (v : Int) : MI (mset A 17 1 v) (mset zm 49 10 v) := ⟨h.1, ⟨h.2.1.1, rfl, h.2.1.2.2⟩, h.2.2.1, h.2.2.2.1.mv h.2.2.2.1.1 (fun c h1 h2 => mset_nc _ _ _ _ (by omega)) rfl rfl rfl rfl, h.2.2.2.2⟩
theorem MI.set2 (h : MI A zm) (v : Int) : MI (mset A 17 2 v) (mset zm 49 11 v) := ⟨h.1, ⟨h.2.1.1, h.2.1.2.1, rfl⟩, h.2.2.1, h.2.2.2.1.mv h.2.2.2.1.1 (fun c h1 h2 => mset_nc _ _ _ _ (by omega)) rfl rfl rfl rfl, h.2.2.2.2⟩
theorem us_eq {f g : Nat → Int} {c d : Nat} {v : Int} (h : f d = g d) : uset f c v d = uset g c v d := by
  unfold uset
  split
  · rfl
  · exact h
theorem MI.cost0 (h : MI A zm) (c : Nat) (v : Int) : MI (mset A 5 c v) (mset zm 53 c v) := by
  refine ⟨⟨h.1.1, fun d hd hn => ?_⟩, h.2.1, h.2.2.1, h.2.2.2.1.mv h.2.2.2.1.1 (fun c h1 h2 => mset_nc _ _ _ _ (by omega)) rfl rfl rfl rfl, h.2.2.2.2⟩
  obtain ⟨a1, a2, a3, a4, a5, a6⟩ := h.1.2 d hd hn
  exact ⟨a1, us_eq a2, a3, a4, a5, a6⟩
theorem MI.cost1 (h : MI A zm) (c : Nat) (v : Int) : MI (mset A 6 c v) (mset zm 54 c v) := by
  refine ⟨⟨h.1.1, fun d hd hn => ?_⟩, h.2.1, h.2.2.1, h.2.2.2.1.mv h.2.2.2.1.1 (fun c h1 h2 => mset_nc _ _ _ _ (by omega)) rfl rfl rfl rfl, h.2.2.2.2⟩
  obtain ⟨a1, a2, a3, a4, a5, a6⟩ := h.1.2 d hd hn
  exact ⟨a1, a2, us_eq a3, a4, a5, a6⟩
theorem MI.cost2 (h : MI A zm) (c : Nat) (v : Int) : MI (mset A 7 c v) (mset zm 55 c v) := by
  refine ⟨⟨h.1.1, fun d hd hn => ?_⟩, h.2.1, h.2.2.1, h.2.2.2.1.mv h.2.2.2.1.1 (fun c h1 h2 => mset_nc _ _ _ _ (by omega)) rfl rfl rfl rfl, h.2.2.2.2⟩
  obtain ⟨a1, a2, a3, a4, a5, a6⟩ := h.1.2 d hd hn
  exact ⟨a1, a2, a3, us_eq a4, a5, a6⟩
theorem MI.cost3 (h : MI A zm) (c : Nat) (v : Int) : MI (mset A 8 c v) (mset zm 56 c v) := by
  refine ⟨⟨h.1.1, fun d hd hn => ?_⟩, h.2.1, h.2.2.1, h.2.2.2.1.mv h.2.2.2.1.1 (fun c h1 h2 => mset_nc _ _ _ _ (by omega)) rfl rfl rfl rfl, h.2.2.2.2⟩
  obtain ⟨a1, a2, a3, a4, a5, a6⟩ := h.1.2 d hd hn
  exact ⟨a1, a2, a3, a4, us_eq a5, a6⟩
theorem MI.cost4 (h : MI A zm) (c : Nat) (v : Int) : MI (mset A 9 c v) (mset zm 57 c v) := by
  refine ⟨⟨h.1.1, fun d hd hn => ?_⟩, h.2.1, h.2.2.1, h.2.2.2.1.mv h.2.2.2.1.1 (fun c h1 h2 => mset_nc _ _ _ _ (by omega)) rfl rfl rfl rfl, h.2.2.2.2⟩
  obtain ⟨a1, a2, a3, a4, a5, a6⟩ := h.1.2 d hd hn
  exact ⟨a1, a2, a3, a4, a5, us_eq a6⟩
def nwC (zm : Mem) (n : Nat) (kind a b : Int) : Mem := mset (mset (mset (mset (mset (mset (mset (mset (mset zm 50 n kind) 51 n a) 52 n b) 53 n 1) 54 n 1) 55 n 100) 56 n 0) 57 n 5) 49 0 ((n : Int) + 1)
theorem MI.comer (h : MI A zm) (hI : CI A) {n : Nat} (hn : A 1 0 = (n : Int)) (h8 : n < 8) {kind a b : Int} (hk : kind = 0 ∨ kind = 1 ∨ kind = 2) : MI (mset (mset (mset (mset (mset A 1 0 ((n : Int) + 1)) 2 n (if kind = 2 then a else 0)) 3 n (if kind = 2 then b else 0)) 18 n kind) 19 n (if kind = 0 then a else 0)) (nwC zm n kind a b) := by
  refine ⟨⟨rfl, fun d hd hq => ?_⟩, h.2.1, h.2.2.1, h.2.2.2.1.mv h.2.2.2.1.1 (fun c h1 h2 => by rw [mset_nc _ _ _ _ (by omega), mset_nc _ _ _ _ (by omega), mset_nc _ _ _ _ (by omega), mset_nc _ _ _ _ (by omega), mset_nc _ _ _ _ (by omega)]) rfl rfl rfl rfl, h.2.2.2.2⟩
  show (uset (zm 50) n kind d = uset (A 18) n kind d ∧ (uset (A 18) n kind d = 0 → uset (zm 51) n a d = uset (A 19) n (if kind = 0 then a else 0) d) ∧ (uset (A 18) n kind d = 2 → uset (zm 51) n a d = uset (A 2) n (if kind = 2 then a else 0) d ∧ uset (zm 52) n b d = uset (A 3) n (if kind = 2 then b else 0) d)) ∧ uset (zm 53) n 1 d = A 5 d ∧ uset (zm 54) n 1 d = A 6 d ∧ uset (zm 55) n 100 d = A 7 d ∧ uset (zm 56) n 0 d = A 8 d ∧ uset (zm 57) n 5 d = A 9 d
  by_cases e : d = n
  · subst e
    simp only [uset_eq]
    obtain ⟨n', g1, g2, g3⟩ := hI.2.2.2.2.1
    obtain ⟨c1, c2, c3, c4, c5⟩ := (g3 d hd).2.1 (by omega)
    refine ⟨⟨trivial, fun q => by rw [if_pos q], fun q => by rw [if_pos q, if_pos q]; exact ⟨rfl, rfl⟩⟩, c1.symm, c2.symm, c3.symm, c4.symm, c5.symm⟩
  · have hq2 : A 18 d ≠ -1 := by
      have : uset (A 18) n kind d ≠ -1 := hq
      rw [uset_ne _ _ e] at this; exact this
    simp only [uset_ne _ _ e]
    exact h.1.2 d hd hq2
theorem MI.type (h : MI A zm) {L : Nat} {b : Int} (hL : A 10 0 = (L : Int)) (hB : Fr scT A B) (h0 : B 10 0 = A 10 0 + 1) (h1 : B 11 = uset (A 11) L b) : MI B (mset (mset (mset zm 58 L b) 49 12 ((L : Int) + 1)) 49 14 0) := by
  have r : ∀ c, c < 10 ∨ 15 < c → B c = A c := fun c hc => funext (fun j => hB c j (by unfold scT scJ; simp; omega))
  obtain ⟨a1, a2, a3, a4, a5⟩ := h
  refine ⟨?_, ?_, ⟨?_, fun j hj => ?_⟩, ?_, ⟨Or.inl rfl, fun q => absurd (show (0 : Int) = 1 from q) (by decide)⟩⟩
  · unfold MPc; rw [r 1 (by omega), r 2 (by omega), r 3 (by omega), r 5 (by omega), r 6 (by omega), r 7 (by omega), r 8 (by omega), r 9 (by omega), r 18 (by omega), r 19 (by omega)]; exact a1
  · unfold MPt; rw [r 17 (by omega)]; exact a2
  · rw [h0, hL]; rfl
  · rw [h1]; exact us_eq (f := zm 58) (a3.2 j hj)
  · unfold MPs
    rw [r 41 (by omega), r 47 (by omega), r 48 (by omega)]
    refine ⟨a4.1, fun s hs => ?_⟩
    rw [r (43 + s) (by omega)]
    exact a4.2 s hs
theorem MI.wipe (h : MI A zm) (hB : Fr scT A B) (h0 : B 10 0 = ((0 : Nat) : Int)) (h1 : B 11 = A 11) : MI B (mset (mset zm 49 12 0) 49 14 0) := by
  have r : ∀ c, c < 10 ∨ 15 < c → B c = A c := fun c hc => funext (fun j => hB c j (by unfold scT scJ; simp; omega))
  obtain ⟨a1, a2, a3, a4, a5⟩ := h
  refine ⟨?_, ?_, ⟨?_, fun j hj => ?_⟩, ?_, ⟨Or.inl rfl, fun q => absurd (show (0 : Int) = 1 from q) (by decide)⟩⟩
  · unfold MPc; rw [r 1 (by omega), r 2 (by omega), r 3 (by omega), r 5 (by omega), r 6 (by omega), r 7 (by omega), r 8 (by omega), r 9 (by omega), r 18 (by omega), r 19 (by omega)]; exact a1
  · unfold MPt; rw [r 17 (by omega)]; exact a2
  · rw [h0]; rfl
  · rw [h1]; exact a3.2 j hj
  · unfold MPs
    rw [r 41 (by omega), r 47 (by omega), r 48 (by omega)]
    refine ⟨a4.1, fun s hs => ?_⟩
    rw [r (43 + s) (by omega)]
    exact a4.2 s hs
end MIU

theorem m_aim (G : Gm) (A mem : Mem) (comer minute : Int) (hI : CI A) (hM : MI A mem) : Con G mX8_aim [(2, 49), (0, comer), (0, minute)] mem (fun r m' => r = some (0, an_aim A comer minute) ∧ MI (nx_aim A comer minute) m' ∧ Fr scZ mem m') := by
  refine Con.of (lo := [(2, 49), (0, comer), (0, minute), (3, 0)]) (by decide +kernel) (Nat.le_of_ble_eq_true rfl) rfl ?_
  generalize hQ_ : (fun r m' => r = some (0, an_aim A comer minute) ∧ MI (nx_aim A comer minute) m' ∧ Fr scZ mem m' : Option AV → Mem → Prop) = Q_
  refine e_aloadn (pc := 0) dX8_aim_0 rfl rfl ?_
  refine e_iloadn (pc := 1) dX8_aim_1 rfl rfl ?_
  refine e_callVr (pc := 2) (as := [(0, comer)]) (st := []) (v := (0, if 0 ≤ comer ∧ comer < 8 ∧ A 18 comer.toNat = 0 then 1 else 0)) (m_isPlain G A mem comer hI hM) dX8_aim_2 lX8_aim_107 rfl s_49 cn_8 rfl rfl ?_
  by_cases zc : 0 ≤ comer ∧ comer < 8 ∧ A 18 comer.toNat = 0
  · rw [if_pos zc]
    obtain ⟨cn, rfl⟩ : ∃ cn : Nat, comer = (cn : Int) := ⟨comer.toNat, by omega⟩
    have zcn : cn < 8 := by omega
    have zck : A 18 cn = 0 := zc.2.2
    have zrd := (hM.1.2 cn zcn (by rw [zck]; decide)).1.2.1 zck
    refine e_if_eq (pc := 5) (tgt := 18) dX8_aim_5 rfl (fun h5 => ?_) (fun h5 => ?_)
    · skip
      exact absurd h5 (by decide)
    · skip
      refine e_iloadn (pc := 8) dX8_aim_8 rfl rfl ?_
      refine e_iconst (pc := 9) dX8_aim_9 (by decide) ?_
      refine e_bipush (pc := 10) dX8_aim_10 rfl (by decide) ?_
      refine e_callSr (pc := 12) (as := [(0, minute), (0, 0), (0, 60)]) (st := []) (v := (0, if 0 ≤ minute ∧ minute ≤ 60 then 1 else 0)) (m_in G (mem) minute 0 60) dX8_aim_12 lX8_aim_95 rfl rfl rfl ?_
      by_cases zc12 : 0 ≤ minute ∧ minute ≤ 60
      · rw [if_pos zc12]
        refine e_if_ne (pc := 15) (tgt := 21) dX8_aim_15 rfl (fun h15 => ?_) (fun h15 => ?_)
        · skip
          refine e_aloadn (pc := 21) dX8_aim_21 rfl rfl ?_
          refine e_getr (pc := 22) (k := 51) dX8_aim_22 fX8_13 s_49 rfl (by decide) ?_
          refine e_iloadn (pc := 25) dX8_aim_25 rfl rfl ?_
          refine e_ialdv (pc := 26) (v := (A 19 cn)) dX8_aim_26 s_51 (by omega) (zrd) ?_
          refine e_istoren (pc := 27) (lo' := [(2, 49), (0, (cn : Int)), (0, minute), (0, (A 19 cn))]) dX8_aim_27 rfl rfl (by decide) rfl ?_
          refine e_aloadn (pc := 28) dX8_aim_28 rfl rfl ?_
          refine e_getr (pc := 29) (k := 51) dX8_aim_29 fX8_13 s_49 rfl (by decide) ?_
          refine e_iloadn (pc := 32) dX8_aim_32 rfl rfl ?_
          refine e_iloadn (pc := 33) dX8_aim_33 rfl rfl ?_
          refine e_iastm (pc := 34) (mem2 := mset mem 51 cn minute) dX8_aim_34 s_51 (by omega) rfl ?_
          refine e_iloadn (pc := 35) dX8_aim_35 rfl rfl ?_
          have zan : an_aim A (cn : Int) minute = A 19 cn := by unfold an_aim; rw [if_pos ⟨zc, zc12⟩]; rfl
          have znx : nx_aim A (cn : Int) minute = mset A 19 cn minute := by unfold nx_aim; rw [if_pos ⟨zc, zc12⟩]; rfl
          exact e_iret (pc := 36) dX8_aim_36 rfl (by rw [← hQ_]; exact ⟨by rw [zan], by rw [znx]; exact hM.aim minute zck, (Fr.rf.ms rfl)⟩)
        · skip
          exact absurd h15 (by decide)
      · rw [if_neg zc12]
        refine e_if_ne (pc := 15) (tgt := 21) dX8_aim_15 rfl (fun h15 => ?_) (fun h15 => ?_)
        · skip
          exact absurd h15 (by decide)
        · skip
          refine e_bipush (pc := 18) dX8_aim_18 rfl (by decide) ?_
          have zan : an_aim A (cn : Int) minute = -2 := by unfold an_aim; rw [if_neg (fun q => zc12 q.2)]
          have znx : nx_aim A (cn : Int) minute = A := by unfold nx_aim; rw [if_neg (fun q => zc12 q.2)]
          exact e_iret (pc := 20) dX8_aim_20 rfl (by rw [← hQ_]; exact ⟨by rw [zan], by rw [znx]; exact hM, Fr.rf⟩)
  · rw [if_neg zc]
    refine e_if_eq (pc := 5) (tgt := 18) dX8_aim_5 rfl (fun h5 => ?_) (fun h5 => ?_)
    · skip
      refine e_bipush (pc := 18) dX8_aim_18 rfl (by decide) ?_
      have zan : an_aim A comer minute = -2 := by unfold an_aim; rw [if_neg (fun q => zc q.1)]
      have znx : nx_aim A comer minute = A := by unfold nx_aim; rw [if_neg (fun q => zc q.1)]
      exact e_iret (pc := 20) dX8_aim_20 rfl (by rw [← hQ_]; exact ⟨by rw [zan], by rw [znx]; exact hM, Fr.rf⟩)
    · skip
      exact absurd h5 (by decide)

theorem m_set (G : Gm) (A mem : Mem) (wh v : Int) (hM : MI A mem) : Con G mX8_set [(2, 49), (0, wh), (0, v)] mem (fun r m' => r = some (0, an_set A wh v) ∧ MI (nx_set A wh v) m' ∧ Fr scZ mem m') := by
  refine Con.of (lo := [(2, 49), (0, wh), (0, v), (3, 0)]) (by decide +kernel) (Nat.le_of_ble_eq_true rfl) rfl ?_
  generalize hQ_ : (fun r m' => r = some (0, an_set A wh v) ∧ MI (nx_set A wh v) m' ∧ Fr scZ mem m' : Option AV → Mem → Prop) = Q_
  refine e_iloadn (pc := 0) dX8_set_0 rfl rfl ?_
  refine e_iconst (pc := 1) dX8_set_1 (by decide) ?_
  refine e_iconst (pc := 2) dX8_set_2 (by decide) ?_
  refine e_callSr (pc := 3) (as := [(0, wh), (0, 0), (0, 2)]) (st := []) (v := (0, if 0 ≤ wh ∧ wh ≤ 2 then 1 else 0)) (m_in G (mem) wh 0 2) dX8_set_3 lX8_set_95 rfl rfl rfl ?_
  by_cases zc3 : 0 ≤ wh ∧ wh ≤ 2
  · rw [if_pos zc3]
    refine e_if_eq (pc := 6) (tgt := 28) dX8_set_6 rfl (fun h6 => ?_) (fun h6 => ?_)
    · skip
      exact absurd h6 (by decide)
    · skip
      refine e_iloadn (pc := 9) dX8_set_9 rfl rfl ?_
      refine e_iconst (pc := 10) dX8_set_10 (by decide) ?_
      refine e_iloadn (pc := 11) dX8_set_11 rfl rfl ?_
      refine e_if_ne (pc := 12) (tgt := 20) dX8_set_12 rfl (fun h12 => ?_) (fun h12 => ?_)
      · skip
        refine e_bipush (pc := 20) dX8_set_20 rfl (by decide) ?_
        refine e_callSr (pc := 22) (as := [(0, v), (0, 0), (0, 99)]) (st := []) (v := (0, if 0 ≤ v ∧ v ≤ 99 then 1 else 0)) (m_in G (mem) v 0 99) dX8_set_22 lX8_set_95 rfl rfl rfl ?_
        by_cases zc22 : 0 ≤ v ∧ v ≤ 99
        · rw [if_pos zc22]
          refine e_if_ne (pc := 25) (tgt := 31) dX8_set_25 rfl (fun h25 => ?_) (fun h25 => ?_)
          · skip
            have zgd : (wh = 0 ∧ 0 ≤ v ∧ v ≤ 59) ∨ ((wh = 1 ∨ wh = 2) ∧ 0 ≤ v ∧ v ≤ 99) := by omega
            have zan : an_set A wh v = A 17 wh.toNat := by unfold an_set; rw [if_pos zgd]
            have znx : nx_set A wh v = mset A 17 wh.toNat v := by unfold nx_set; rw [if_pos zgd]
            rcases (show wh = 0 ∨ wh = 1 ∨ wh = 2 by omega) with rfl | rfl | rfl
            · skip
              refine e_iloadn (pc := 31) dX8_set_31 rfl rfl ?_
              refine e_if_ne (pc := 32) (tgt := 42) dX8_set_32 rfl (fun h32 => ?_) (fun h32 => ?_)
              · skip
                exact absurd h32 (by decide)
              · skip
                refine e_aloadn (pc := 35) dX8_set_35 rfl rfl ?_
                refine e_getiv (pc := 36) (v := (A 17 0)) dX8_set_36 fX8_117 s_49 rfl (by decide) (hM.2.1.1) ?_
                refine e_goto (pc := 39) (tgt := 58) dX8_set_39 rfl ?_
                refine e_istoren (pc := 58) (lo' := [(2, 49), (0, 0), (0, v), (0, (A 17 0))]) dX8_set_58 rfl rfl (by decide) rfl ?_
                refine e_aloadn (pc := 59) dX8_set_59 rfl rfl ?_
                refine e_iloadn (pc := 60) dX8_set_60 rfl rfl ?_
                refine e_if_ne (pc := 61) (tgt := 68) dX8_set_61 rfl (fun h61 => ?_) (fun h61 => ?_)
                · skip
                  exact absurd h61 (by decide)
                · skip
                  refine e_iloadn (pc := 64) dX8_set_64 rfl rfl ?_
                  refine e_goto (pc := 65) (tgt := 72) dX8_set_65 rfl ?_
                  refine e_putI (pc := 72) (mem2 := mset mem 49 9 v) dX8_set_72 fX8_117 s_49 rfl (by decide) pw_8_9 (rfl) ?_
                  refine e_aloadn (pc := 75) dX8_set_75 rfl rfl ?_
                  refine e_iloadn (pc := 76) dX8_set_76 rfl rfl ?_
                  refine e_iconst (pc := 77) dX8_set_77 (by decide) ?_
                  refine e_icmp_ne (pc := 78) (tgt := 85) dX8_set_78 rfl (fun h78 => ?_) (fun h78 => ?_)
                  · skip
                    refine e_aloadn (pc := 85) dX8_set_85 rfl rfl ?_
                    refine e_getiv (pc := 86) (v := mem 49 10) dX8_set_86 fX8_120 s_49 rfl (by decide) rfl ?_
                    refine e_putI (pc := 89) (mem2 := mset mem 49 9 v) dX8_set_89 fX8_120 s_49 rfl (by decide) pw_8_10 (mset_self _ _ _ rfl) ?_
                    refine e_aloadn (pc := 92) dX8_set_92 rfl rfl ?_
                    refine e_iloadn (pc := 93) dX8_set_93 rfl rfl ?_
                    refine e_iconst (pc := 94) dX8_set_94 (by decide) ?_
                    refine e_icmp_ne (pc := 95) (tgt := 102) dX8_set_95 rfl (fun h95 => ?_) (fun h95 => ?_)
                    · skip
                      refine e_aloadn (pc := 102) dX8_set_102 rfl rfl ?_
                      refine e_getiv (pc := 103) (v := mem 49 11) dX8_set_103 fX8_123 s_49 rfl (by decide) rfl ?_
                      refine e_putI (pc := 106) (mem2 := mset mem 49 9 v) dX8_set_106 fX8_123 s_49 rfl (by decide) pw_8_11 (mset_self _ _ _ rfl) ?_
                      refine e_iloadn (pc := 109) dX8_set_109 rfl rfl ?_
                      exact e_iret (pc := 110) dX8_set_110 rfl (by rw [← hQ_]; exact ⟨congrArg (fun z => some ((0 : Nat), z)) zan.symm, by rw [znx]; exact hM.set0 v, (Fr.rf.ms rfl)⟩)
                    · skip
                      exact absurd h95 (by decide)
                  · skip
                    exact absurd h78 (by decide)
            · skip
              refine e_iloadn (pc := 31) dX8_set_31 rfl rfl ?_
              refine e_if_ne (pc := 32) (tgt := 42) dX8_set_32 rfl (fun h32 => ?_) (fun h32 => ?_)
              · skip
                refine e_iloadn (pc := 42) dX8_set_42 rfl rfl ?_
                refine e_iconst (pc := 43) dX8_set_43 (by decide) ?_
                refine e_icmp_ne (pc := 44) (tgt := 54) dX8_set_44 rfl (fun h44 => ?_) (fun h44 => ?_)
                · skip
                  exact absurd h44 (by decide)
                · skip
                  refine e_aloadn (pc := 47) dX8_set_47 rfl rfl ?_
                  refine e_getiv (pc := 48) (v := (A 17 1)) dX8_set_48 fX8_120 s_49 rfl (by decide) (hM.2.1.2.1) ?_
                  refine e_goto (pc := 51) (tgt := 58) dX8_set_51 rfl ?_
                  refine e_istoren (pc := 58) (lo' := [(2, 49), (0, 1), (0, v), (0, (A 17 1))]) dX8_set_58 rfl rfl (by decide) rfl ?_
                  refine e_aloadn (pc := 59) dX8_set_59 rfl rfl ?_
                  refine e_iloadn (pc := 60) dX8_set_60 rfl rfl ?_
                  refine e_if_ne (pc := 61) (tgt := 68) dX8_set_61 rfl (fun h61 => ?_) (fun h61 => ?_)
                  · skip
                    refine e_aloadn (pc := 68) dX8_set_68 rfl rfl ?_
                    refine e_getiv (pc := 69) (v := mem 49 9) dX8_set_69 fX8_117 s_49 rfl (by decide) rfl ?_
                    refine e_putI (pc := 72) (mem2 := mem) dX8_set_72 fX8_117 s_49 rfl (by decide) pw_8_9 (mset_self _ _ _ rfl) ?_
                    refine e_aloadn (pc := 75) dX8_set_75 rfl rfl ?_
                    refine e_iloadn (pc := 76) dX8_set_76 rfl rfl ?_
                    refine e_iconst (pc := 77) dX8_set_77 (by decide) ?_
                    refine e_icmp_ne (pc := 78) (tgt := 85) dX8_set_78 rfl (fun h78 => ?_) (fun h78 => ?_)
                    · skip
                      exact absurd h78 (by decide)
                    · skip
                      refine e_iloadn (pc := 81) dX8_set_81 rfl rfl ?_
                      refine e_goto (pc := 82) (tgt := 89) dX8_set_82 rfl ?_
                      refine e_putI (pc := 89) (mem2 := mset mem 49 10 v) dX8_set_89 fX8_120 s_49 rfl (by decide) pw_8_10 (rfl) ?_
                      refine e_aloadn (pc := 92) dX8_set_92 rfl rfl ?_
                      refine e_iloadn (pc := 93) dX8_set_93 rfl rfl ?_
                      refine e_iconst (pc := 94) dX8_set_94 (by decide) ?_
                      refine e_icmp_ne (pc := 95) (tgt := 102) dX8_set_95 rfl (fun h95 => ?_) (fun h95 => ?_)
                      · skip
                        refine e_aloadn (pc := 102) dX8_set_102 rfl rfl ?_
                        refine e_getiv (pc := 103) (v := mem 49 11) dX8_set_103 fX8_123 s_49 rfl (by decide) rfl ?_
                        refine e_putI (pc := 106) (mem2 := mset mem 49 10 v) dX8_set_106 fX8_123 s_49 rfl (by decide) pw_8_11 (mset_self _ _ _ rfl) ?_
                        refine e_iloadn (pc := 109) dX8_set_109 rfl rfl ?_
                        exact e_iret (pc := 110) dX8_set_110 rfl (by rw [← hQ_]; exact ⟨congrArg (fun z => some ((0 : Nat), z)) zan.symm, by rw [znx]; exact hM.set1 v, (Fr.rf.ms rfl)⟩)
                      · skip
                        exact absurd h95 (by decide)
                  · skip
                    exact absurd h61 (by decide)
              · skip
                exact absurd h32 (by decide)
            · skip
              refine e_iloadn (pc := 31) dX8_set_31 rfl rfl ?_
              refine e_if_ne (pc := 32) (tgt := 42) dX8_set_32 rfl (fun h32 => ?_) (fun h32 => ?_)
              · skip
                refine e_iloadn (pc := 42) dX8_set_42 rfl rfl ?_
                refine e_iconst (pc := 43) dX8_set_43 (by decide) ?_
                refine e_icmp_ne (pc := 44) (tgt := 54) dX8_set_44 rfl (fun h44 => ?_) (fun h44 => ?_)
                · skip
                  refine e_aloadn (pc := 54) dX8_set_54 rfl rfl ?_
                  refine e_getiv (pc := 55) (v := (A 17 2)) dX8_set_55 fX8_123 s_49 rfl (by decide) (hM.2.1.2.2) ?_
                  refine e_istoren (pc := 58) (lo' := [(2, 49), (0, 2), (0, v), (0, (A 17 2))]) dX8_set_58 rfl rfl (by decide) rfl ?_
                  refine e_aloadn (pc := 59) dX8_set_59 rfl rfl ?_
                  refine e_iloadn (pc := 60) dX8_set_60 rfl rfl ?_
                  refine e_if_ne (pc := 61) (tgt := 68) dX8_set_61 rfl (fun h61 => ?_) (fun h61 => ?_)
                  · skip
                    refine e_aloadn (pc := 68) dX8_set_68 rfl rfl ?_
                    refine e_getiv (pc := 69) (v := mem 49 9) dX8_set_69 fX8_117 s_49 rfl (by decide) rfl ?_
                    refine e_putI (pc := 72) (mem2 := mem) dX8_set_72 fX8_117 s_49 rfl (by decide) pw_8_9 (mset_self _ _ _ rfl) ?_
                    refine e_aloadn (pc := 75) dX8_set_75 rfl rfl ?_
                    refine e_iloadn (pc := 76) dX8_set_76 rfl rfl ?_
                    refine e_iconst (pc := 77) dX8_set_77 (by decide) ?_
                    refine e_icmp_ne (pc := 78) (tgt := 85) dX8_set_78 rfl (fun h78 => ?_) (fun h78 => ?_)
                    · skip
                      refine e_aloadn (pc := 85) dX8_set_85 rfl rfl ?_
                      refine e_getiv (pc := 86) (v := mem 49 10) dX8_set_86 fX8_120 s_49 rfl (by decide) rfl ?_
                      refine e_putI (pc := 89) (mem2 := mem) dX8_set_89 fX8_120 s_49 rfl (by decide) pw_8_10 (mset_self _ _ _ rfl) ?_
                      refine e_aloadn (pc := 92) dX8_set_92 rfl rfl ?_
                      refine e_iloadn (pc := 93) dX8_set_93 rfl rfl ?_
                      refine e_iconst (pc := 94) dX8_set_94 (by decide) ?_
                      refine e_icmp_ne (pc := 95) (tgt := 102) dX8_set_95 rfl (fun h95 => ?_) (fun h95 => ?_)
                      · skip
                        exact absurd h95 (by decide)
                      · skip
                        refine e_iloadn (pc := 98) dX8_set_98 rfl rfl ?_
                        refine e_goto (pc := 99) (tgt := 106) dX8_set_99 rfl ?_
                        refine e_putI (pc := 106) (mem2 := mset mem 49 11 v) dX8_set_106 fX8_123 s_49 rfl (by decide) pw_8_11 (rfl) ?_
                        refine e_iloadn (pc := 109) dX8_set_109 rfl rfl ?_
                        exact e_iret (pc := 110) dX8_set_110 rfl (by rw [← hQ_]; exact ⟨congrArg (fun z => some ((0 : Nat), z)) zan.symm, by rw [znx]; exact hM.set2 v, (Fr.rf.ms rfl)⟩)
                    · skip
                      exact absurd h78 (by decide)
                  · skip
                    exact absurd h61 (by decide)
                · skip
                  exact absurd h44 (by decide)
              · skip
                exact absurd h32 (by decide)
          · skip
            exact absurd h25 (by decide)
        · rw [if_neg zc22]
          refine e_if_ne (pc := 25) (tgt := 31) dX8_set_25 rfl (fun h25 => ?_) (fun h25 => ?_)
          · skip
            exact absurd h25 (by decide)
          · skip
            refine e_bipush (pc := 28) dX8_set_28 rfl (by decide) ?_
            have zng : ¬ ((wh = 0 ∧ 0 ≤ v ∧ v ≤ 59) ∨ ((wh = 1 ∨ wh = 2) ∧ 0 ≤ v ∧ v ≤ 99)) := by omega
            have zan : an_set A wh v = -2 := by unfold an_set; rw [if_neg zng]
            have znx : nx_set A wh v = A := by unfold nx_set; rw [if_neg zng]
            exact e_iret (pc := 30) dX8_set_30 rfl (by rw [← hQ_]; exact ⟨by rw [zan], by rw [znx]; exact hM, Fr.rf⟩)
      · skip
        refine e_bipush (pc := 15) dX8_set_15 rfl (by decide) ?_
        refine e_goto (pc := 17) (tgt := 22) dX8_set_17 rfl ?_
        refine e_callSr (pc := 22) (as := [(0, v), (0, 0), (0, 59)]) (st := []) (v := (0, if 0 ≤ v ∧ v ≤ 59 then 1 else 0)) (m_in G (mem) v 0 59) dX8_set_22 lX8_set_95 rfl rfl rfl ?_
        by_cases zc22 : 0 ≤ v ∧ v ≤ 59
        · rw [if_pos zc22]
          refine e_if_ne (pc := 25) (tgt := 31) dX8_set_25 rfl (fun h25 => ?_) (fun h25 => ?_)
          · skip
            have zgd : (wh = 0 ∧ 0 ≤ v ∧ v ≤ 59) ∨ ((wh = 1 ∨ wh = 2) ∧ 0 ≤ v ∧ v ≤ 99) := by omega
            have zan : an_set A wh v = A 17 wh.toNat := by unfold an_set; rw [if_pos zgd]
            have znx : nx_set A wh v = mset A 17 wh.toNat v := by unfold nx_set; rw [if_pos zgd]
            rcases (show wh = 0 ∨ wh = 1 ∨ wh = 2 by omega) with rfl | rfl | rfl
            · skip
              refine e_iloadn (pc := 31) dX8_set_31 rfl rfl ?_
              refine e_if_ne (pc := 32) (tgt := 42) dX8_set_32 rfl (fun h32 => ?_) (fun h32 => ?_)
              · skip
                exact absurd h32 (by decide)
              · skip
                refine e_aloadn (pc := 35) dX8_set_35 rfl rfl ?_
                refine e_getiv (pc := 36) (v := (A 17 0)) dX8_set_36 fX8_117 s_49 rfl (by decide) (hM.2.1.1) ?_
                refine e_goto (pc := 39) (tgt := 58) dX8_set_39 rfl ?_
                refine e_istoren (pc := 58) (lo' := [(2, 49), (0, 0), (0, v), (0, (A 17 0))]) dX8_set_58 rfl rfl (by decide) rfl ?_
                refine e_aloadn (pc := 59) dX8_set_59 rfl rfl ?_
                refine e_iloadn (pc := 60) dX8_set_60 rfl rfl ?_
                refine e_if_ne (pc := 61) (tgt := 68) dX8_set_61 rfl (fun h61 => ?_) (fun h61 => ?_)
                · skip
                  exact absurd h61 (by decide)
                · skip
                  refine e_iloadn (pc := 64) dX8_set_64 rfl rfl ?_
                  refine e_goto (pc := 65) (tgt := 72) dX8_set_65 rfl ?_
                  refine e_putI (pc := 72) (mem2 := mset mem 49 9 v) dX8_set_72 fX8_117 s_49 rfl (by decide) pw_8_9 (rfl) ?_
                  refine e_aloadn (pc := 75) dX8_set_75 rfl rfl ?_
                  refine e_iloadn (pc := 76) dX8_set_76 rfl rfl ?_
                  refine e_iconst (pc := 77) dX8_set_77 (by decide) ?_
                  refine e_icmp_ne (pc := 78) (tgt := 85) dX8_set_78 rfl (fun h78 => ?_) (fun h78 => ?_)
                  · skip
                    refine e_aloadn (pc := 85) dX8_set_85 rfl rfl ?_
                    refine e_getiv (pc := 86) (v := mem 49 10) dX8_set_86 fX8_120 s_49 rfl (by decide) rfl ?_
                    refine e_putI (pc := 89) (mem2 := mset mem 49 9 v) dX8_set_89 fX8_120 s_49 rfl (by decide) pw_8_10 (mset_self _ _ _ rfl) ?_
                    refine e_aloadn (pc := 92) dX8_set_92 rfl rfl ?_
                    refine e_iloadn (pc := 93) dX8_set_93 rfl rfl ?_
                    refine e_iconst (pc := 94) dX8_set_94 (by decide) ?_
                    refine e_icmp_ne (pc := 95) (tgt := 102) dX8_set_95 rfl (fun h95 => ?_) (fun h95 => ?_)
                    · skip
                      refine e_aloadn (pc := 102) dX8_set_102 rfl rfl ?_
                      refine e_getiv (pc := 103) (v := mem 49 11) dX8_set_103 fX8_123 s_49 rfl (by decide) rfl ?_
                      refine e_putI (pc := 106) (mem2 := mset mem 49 9 v) dX8_set_106 fX8_123 s_49 rfl (by decide) pw_8_11 (mset_self _ _ _ rfl) ?_
                      refine e_iloadn (pc := 109) dX8_set_109 rfl rfl ?_
                      exact e_iret (pc := 110) dX8_set_110 rfl (by rw [← hQ_]; exact ⟨congrArg (fun z => some ((0 : Nat), z)) zan.symm, by rw [znx]; exact hM.set0 v, (Fr.rf.ms rfl)⟩)
                    · skip
                      exact absurd h95 (by decide)
                  · skip
                    exact absurd h78 (by decide)
            · skip
              refine e_iloadn (pc := 31) dX8_set_31 rfl rfl ?_
              refine e_if_ne (pc := 32) (tgt := 42) dX8_set_32 rfl (fun h32 => ?_) (fun h32 => ?_)
              · skip
                refine e_iloadn (pc := 42) dX8_set_42 rfl rfl ?_
                refine e_iconst (pc := 43) dX8_set_43 (by decide) ?_
                refine e_icmp_ne (pc := 44) (tgt := 54) dX8_set_44 rfl (fun h44 => ?_) (fun h44 => ?_)
                · skip
                  exact absurd h44 (by decide)
                · skip
                  refine e_aloadn (pc := 47) dX8_set_47 rfl rfl ?_
                  refine e_getiv (pc := 48) (v := (A 17 1)) dX8_set_48 fX8_120 s_49 rfl (by decide) (hM.2.1.2.1) ?_
                  refine e_goto (pc := 51) (tgt := 58) dX8_set_51 rfl ?_
                  refine e_istoren (pc := 58) (lo' := [(2, 49), (0, 1), (0, v), (0, (A 17 1))]) dX8_set_58 rfl rfl (by decide) rfl ?_
                  refine e_aloadn (pc := 59) dX8_set_59 rfl rfl ?_
                  refine e_iloadn (pc := 60) dX8_set_60 rfl rfl ?_
                  refine e_if_ne (pc := 61) (tgt := 68) dX8_set_61 rfl (fun h61 => ?_) (fun h61 => ?_)
                  · skip
                    refine e_aloadn (pc := 68) dX8_set_68 rfl rfl ?_
                    refine e_getiv (pc := 69) (v := mem 49 9) dX8_set_69 fX8_117 s_49 rfl (by decide) rfl ?_
                    refine e_putI (pc := 72) (mem2 := mem) dX8_set_72 fX8_117 s_49 rfl (by decide) pw_8_9 (mset_self _ _ _ rfl) ?_
                    refine e_aloadn (pc := 75) dX8_set_75 rfl rfl ?_
                    refine e_iloadn (pc := 76) dX8_set_76 rfl rfl ?_
                    refine e_iconst (pc := 77) dX8_set_77 (by decide) ?_
                    refine e_icmp_ne (pc := 78) (tgt := 85) dX8_set_78 rfl (fun h78 => ?_) (fun h78 => ?_)
                    · skip
                      exact absurd h78 (by decide)
                    · skip
                      refine e_iloadn (pc := 81) dX8_set_81 rfl rfl ?_
                      refine e_goto (pc := 82) (tgt := 89) dX8_set_82 rfl ?_
                      refine e_putI (pc := 89) (mem2 := mset mem 49 10 v) dX8_set_89 fX8_120 s_49 rfl (by decide) pw_8_10 (rfl) ?_
                      refine e_aloadn (pc := 92) dX8_set_92 rfl rfl ?_
                      refine e_iloadn (pc := 93) dX8_set_93 rfl rfl ?_
                      refine e_iconst (pc := 94) dX8_set_94 (by decide) ?_
                      refine e_icmp_ne (pc := 95) (tgt := 102) dX8_set_95 rfl (fun h95 => ?_) (fun h95 => ?_)
                      · skip
                        refine e_aloadn (pc := 102) dX8_set_102 rfl rfl ?_
                        refine e_getiv (pc := 103) (v := mem 49 11) dX8_set_103 fX8_123 s_49 rfl (by decide) rfl ?_
                        refine e_putI (pc := 106) (mem2 := mset mem 49 10 v) dX8_set_106 fX8_123 s_49 rfl (by decide) pw_8_11 (mset_self _ _ _ rfl) ?_
                        refine e_iloadn (pc := 109) dX8_set_109 rfl rfl ?_
                        exact e_iret (pc := 110) dX8_set_110 rfl (by rw [← hQ_]; exact ⟨congrArg (fun z => some ((0 : Nat), z)) zan.symm, by rw [znx]; exact hM.set1 v, (Fr.rf.ms rfl)⟩)
                      · skip
                        exact absurd h95 (by decide)
                  · skip
                    exact absurd h61 (by decide)
              · skip
                exact absurd h32 (by decide)
            · skip
              refine e_iloadn (pc := 31) dX8_set_31 rfl rfl ?_
              refine e_if_ne (pc := 32) (tgt := 42) dX8_set_32 rfl (fun h32 => ?_) (fun h32 => ?_)
              · skip
                refine e_iloadn (pc := 42) dX8_set_42 rfl rfl ?_
                refine e_iconst (pc := 43) dX8_set_43 (by decide) ?_
                refine e_icmp_ne (pc := 44) (tgt := 54) dX8_set_44 rfl (fun h44 => ?_) (fun h44 => ?_)
                · skip
                  refine e_aloadn (pc := 54) dX8_set_54 rfl rfl ?_
                  refine e_getiv (pc := 55) (v := (A 17 2)) dX8_set_55 fX8_123 s_49 rfl (by decide) (hM.2.1.2.2) ?_
                  refine e_istoren (pc := 58) (lo' := [(2, 49), (0, 2), (0, v), (0, (A 17 2))]) dX8_set_58 rfl rfl (by decide) rfl ?_
                  refine e_aloadn (pc := 59) dX8_set_59 rfl rfl ?_
                  refine e_iloadn (pc := 60) dX8_set_60 rfl rfl ?_
                  refine e_if_ne (pc := 61) (tgt := 68) dX8_set_61 rfl (fun h61 => ?_) (fun h61 => ?_)
                  · skip
                    refine e_aloadn (pc := 68) dX8_set_68 rfl rfl ?_
                    refine e_getiv (pc := 69) (v := mem 49 9) dX8_set_69 fX8_117 s_49 rfl (by decide) rfl ?_
                    refine e_putI (pc := 72) (mem2 := mem) dX8_set_72 fX8_117 s_49 rfl (by decide) pw_8_9 (mset_self _ _ _ rfl) ?_
                    refine e_aloadn (pc := 75) dX8_set_75 rfl rfl ?_
                    refine e_iloadn (pc := 76) dX8_set_76 rfl rfl ?_
                    refine e_iconst (pc := 77) dX8_set_77 (by decide) ?_
                    refine e_icmp_ne (pc := 78) (tgt := 85) dX8_set_78 rfl (fun h78 => ?_) (fun h78 => ?_)
                    · skip
                      refine e_aloadn (pc := 85) dX8_set_85 rfl rfl ?_
                      refine e_getiv (pc := 86) (v := mem 49 10) dX8_set_86 fX8_120 s_49 rfl (by decide) rfl ?_
                      refine e_putI (pc := 89) (mem2 := mem) dX8_set_89 fX8_120 s_49 rfl (by decide) pw_8_10 (mset_self _ _ _ rfl) ?_
                      refine e_aloadn (pc := 92) dX8_set_92 rfl rfl ?_
                      refine e_iloadn (pc := 93) dX8_set_93 rfl rfl ?_
                      refine e_iconst (pc := 94) dX8_set_94 (by decide) ?_
                      refine e_icmp_ne (pc := 95) (tgt := 102) dX8_set_95 rfl (fun h95 => ?_) (fun h95 => ?_)
                      · skip
                        exact absurd h95 (by decide)
                      · skip
                        refine e_iloadn (pc := 98) dX8_set_98 rfl rfl ?_
                        refine e_goto (pc := 99) (tgt := 106) dX8_set_99 rfl ?_
                        refine e_putI (pc := 106) (mem2 := mset mem 49 11 v) dX8_set_106 fX8_123 s_49 rfl (by decide) pw_8_11 (rfl) ?_
                        refine e_iloadn (pc := 109) dX8_set_109 rfl rfl ?_
                        exact e_iret (pc := 110) dX8_set_110 rfl (by rw [← hQ_]; exact ⟨congrArg (fun z => some ((0 : Nat), z)) zan.symm, by rw [znx]; exact hM.set2 v, (Fr.rf.ms rfl)⟩)
                    · skip
                      exact absurd h78 (by decide)
                  · skip
                    exact absurd h61 (by decide)
                · skip
                  exact absurd h44 (by decide)
              · skip
                exact absurd h32 (by decide)
          · skip
            exact absurd h25 (by decide)
        · rw [if_neg zc22]
          refine e_if_ne (pc := 25) (tgt := 31) dX8_set_25 rfl (fun h25 => ?_) (fun h25 => ?_)
          · skip
            exact absurd h25 (by decide)
          · skip
            refine e_bipush (pc := 28) dX8_set_28 rfl (by decide) ?_
            have zng : ¬ ((wh = 0 ∧ 0 ≤ v ∧ v ≤ 59) ∨ ((wh = 1 ∨ wh = 2) ∧ 0 ≤ v ∧ v ≤ 99)) := by omega
            have zan : an_set A wh v = -2 := by unfold an_set; rw [if_neg zng]
            have znx : nx_set A wh v = A := by unfold nx_set; rw [if_neg zng]
            exact e_iret (pc := 30) dX8_set_30 rfl (by rw [← hQ_]; exact ⟨by rw [zan], by rw [znx]; exact hM, Fr.rf⟩)
  · rw [if_neg zc3]
    refine e_if_eq (pc := 6) (tgt := 28) dX8_set_6 rfl (fun h6 => ?_) (fun h6 => ?_)
    · skip
      refine e_bipush (pc := 28) dX8_set_28 rfl (by decide) ?_
      have zng : ¬ ((wh = 0 ∧ 0 ≤ v ∧ v ≤ 59) ∨ ((wh = 1 ∨ wh = 2) ∧ 0 ≤ v ∧ v ≤ 99)) := by omega
      have zan : an_set A wh v = -2 := by unfold an_set; rw [if_neg zng]
      have znx : nx_set A wh v = A := by unfold nx_set; rw [if_neg zng]
      exact e_iret (pc := 30) dX8_set_30 rfl (by rw [← hQ_]; exact ⟨by rw [zan], by rw [znx]; exact hM, Fr.rf⟩)
    · skip
      exact absurd h6 (by decide)

theorem m_cost (G : Gm) (A mem : Mem) (comer wh v : Int) (hI : CI A) (hM : MI A mem) : Con G mX8_cost [(2, 49), (0, comer), (0, wh), (0, v)] mem (fun r m' => r = some (0, an_cost A comer wh v) ∧ MI (nx_cost A comer wh v) m' ∧ Fr scZ mem m') := by
  refine Con.of (lo := [(2, 49), (0, comer), (0, wh), (0, v), (3, 0), (3, 0)]) (by decide +kernel) (Nat.le_of_ble_eq_true rfl) rfl ?_
  generalize hQ_ : (fun r m' => r = some (0, an_cost A comer wh v) ∧ MI (nx_cost A comer wh v) m' ∧ Fr scZ mem m' : Option AV → Mem → Prop) = Q_
  refine e_aloadn (pc := 0) dX8_cost_0 rfl rfl ?_
  refine e_iloadn (pc := 1) dX8_cost_1 rfl rfl ?_
  refine e_callVr (pc := 2) (as := [(0, comer)]) (st := []) (v := (0, if 0 ≤ comer ∧ comer < 8 ∧ A 18 comer.toNat ≠ -1 then 1 else 0)) (m_isComerI G A mem comer hI hM) dX8_cost_2 lX8_cost_103 rfl s_49 cn_8 rfl rfl ?_
  by_cases zc : 0 ≤ comer ∧ comer < 8 ∧ A 18 comer.toNat ≠ -1
  · rw [if_pos zc]
    obtain ⟨cn, rfl⟩ : ∃ cn : Nat, comer = (cn : Int) := ⟨comer.toNat, by omega⟩
    have zcn : cn < 8 := by omega
    have zck : A 18 cn ≠ -1 := zc.2.2
    obtain ⟨⟨zq0, zq1, zq2⟩, zq3, zq4, zq5, zq6, zq7⟩ := hM.1.2 cn zcn zck
    refine e_if_eq (pc := 5) (tgt := 96) dX8_cost_5 rfl (fun h5 => ?_) (fun h5 => ?_)
    · skip
      exact absurd h5 (by decide)
    · skip
      have C107 : (((wh = 0 ∨ wh = 1) ∧ 0 ≤ v ∧ v ≤ 99) ∨ (wh = 2 ∧ 0 ≤ v ∧ v ≤ 999) ∨ (A 18 cn ≠ 2 ∧ ((wh = 3 ∧ 0 ≤ v ∧ v ≤ 15) ∨ (wh = 4 ∧ 1 ≤ v ∧ v ≤ 30)))) → Ev G mX8_cost Q_ 107 [(2, 49), (0, (cn : Int)), (0, wh), (0, v), (3, 0), (3, 0)] [] mem := by
        intro zgd
        have zan : an_cost A (cn : Int) wh v = A (5 + wh.toNat) cn := by unfold an_cost; rw [if_pos ⟨zc, zgd⟩]; rfl
        have znx : nx_cost A (cn : Int) wh v = mset A (5 + wh.toNat) cn v := by unfold nx_cost; rw [if_pos ⟨zc, zgd⟩]; rfl
        rcases (show wh = 0 ∨ wh = 1 ∨ wh = 2 ∨ wh = 3 ∨ wh = 4 by omega) with rfl | rfl | rfl | rfl | rfl
        · skip
          refine e_iloadn (pc := 107) dX8_cost_107 rfl rfl ?_
          refine e_if_ne (pc := 108) (tgt := 120) dX8_cost_108 rfl (fun h108 => ?_) (fun h108 => ?_)
          · skip
            exact absurd h108 (by decide)
          · skip
            refine e_aloadn (pc := 111) dX8_cost_111 rfl rfl ?_
            refine e_getr (pc := 112) (k := 53) dX8_cost_112 fX8_19 s_49 rfl (by decide) ?_
            refine e_iloadn (pc := 115) dX8_cost_115 rfl rfl ?_
            refine e_ialdv (pc := 116) (v := (A 5 cn)) dX8_cost_116 s_53 (by omega) (zq3) ?_
            refine e_goto (pc := 117) (tgt := 168) dX8_cost_117 rfl ?_
            refine e_istore (pc := 168) (lo' := [(2, 49), (0, (cn : Int)), (0, 0), (0, v), (3, 0), (0, (A 5 cn))]) dX8_cost_168 rfl (by decide) rfl ?_
            refine e_aloadn (pc := 170) dX8_cost_170 rfl rfl ?_
            refine e_getr (pc := 171) (k := 53) dX8_cost_171 fX8_19 s_49 rfl (by decide) ?_
            refine e_iloadn (pc := 174) dX8_cost_174 rfl rfl ?_
            refine e_iloadn (pc := 175) dX8_cost_175 rfl rfl ?_
            refine e_if_ne (pc := 176) (tgt := 183) dX8_cost_176 rfl (fun h176 => ?_) (fun h176 => ?_)
            · skip
              exact absurd h176 (by decide)
            · skip
              refine e_iloadn (pc := 179) dX8_cost_179 rfl rfl ?_
              refine e_goto (pc := 180) (tgt := 189) dX8_cost_180 rfl ?_
              refine e_iastm (pc := 189) (mem2 := mset mem 53 cn v) dX8_cost_189 s_53 (by omega) (rfl) ?_
              refine e_aloadn (pc := 190) dX8_cost_190 rfl rfl ?_
              refine e_getr (pc := 191) (k := 54) dX8_cost_191 fX8_22 s_49 rfl (by decide) ?_
              refine e_iloadn (pc := 194) dX8_cost_194 rfl rfl ?_
              refine e_iloadn (pc := 195) dX8_cost_195 rfl rfl ?_
              refine e_iconst (pc := 196) dX8_cost_196 (by decide) ?_
              refine e_icmp_ne (pc := 197) (tgt := 204) dX8_cost_197 rfl (fun h197 => ?_) (fun h197 => ?_)
              · skip
                refine e_aloadn (pc := 204) dX8_cost_204 rfl rfl ?_
                refine e_getr (pc := 205) (k := 54) dX8_cost_205 fX8_22 s_49 rfl (by decide) ?_
                refine e_iloadn (pc := 208) dX8_cost_208 rfl rfl ?_
                refine e_ialdv (pc := 209) (v := mem 54 cn) dX8_cost_209 s_54 (by omega) rfl ?_
                refine e_iastm (pc := 210) (mem2 := mset mem 53 cn v) dX8_cost_210 s_54 (by omega) (mset_self _ _ _ rfl) ?_
                refine e_aloadn (pc := 211) dX8_cost_211 rfl rfl ?_
                refine e_getr (pc := 212) (k := 55) dX8_cost_212 fX8_25 s_49 rfl (by decide) ?_
                refine e_iloadn (pc := 215) dX8_cost_215 rfl rfl ?_
                refine e_iloadn (pc := 216) dX8_cost_216 rfl rfl ?_
                refine e_iconst (pc := 217) dX8_cost_217 (by decide) ?_
                refine e_icmp_ne (pc := 218) (tgt := 225) dX8_cost_218 rfl (fun h218 => ?_) (fun h218 => ?_)
                · skip
                  refine e_aloadn (pc := 225) dX8_cost_225 rfl rfl ?_
                  refine e_getr (pc := 226) (k := 55) dX8_cost_226 fX8_25 s_49 rfl (by decide) ?_
                  refine e_iloadn (pc := 229) dX8_cost_229 rfl rfl ?_
                  refine e_ialdv (pc := 230) (v := mem 55 cn) dX8_cost_230 s_55 (by omega) rfl ?_
                  refine e_iastm (pc := 231) (mem2 := mset mem 53 cn v) dX8_cost_231 s_55 (by omega) (mset_self _ _ _ rfl) ?_
                  refine e_aloadn (pc := 232) dX8_cost_232 rfl rfl ?_
                  refine e_getr (pc := 233) (k := 56) dX8_cost_233 fX8_28 s_49 rfl (by decide) ?_
                  refine e_iloadn (pc := 236) dX8_cost_236 rfl rfl ?_
                  refine e_iloadn (pc := 237) dX8_cost_237 rfl rfl ?_
                  refine e_iconst (pc := 238) dX8_cost_238 (by decide) ?_
                  refine e_icmp_ne (pc := 239) (tgt := 246) dX8_cost_239 rfl (fun h239 => ?_) (fun h239 => ?_)
                  · skip
                    refine e_aloadn (pc := 246) dX8_cost_246 rfl rfl ?_
                    refine e_getr (pc := 247) (k := 56) dX8_cost_247 fX8_28 s_49 rfl (by decide) ?_
                    refine e_iloadn (pc := 250) dX8_cost_250 rfl rfl ?_
                    refine e_ialdv (pc := 251) (v := mem 56 cn) dX8_cost_251 s_56 (by omega) rfl ?_
                    refine e_iastm (pc := 252) (mem2 := mset mem 53 cn v) dX8_cost_252 s_56 (by omega) (mset_self _ _ _ rfl) ?_
                    refine e_aloadn (pc := 253) dX8_cost_253 rfl rfl ?_
                    refine e_getr (pc := 254) (k := 57) dX8_cost_254 fX8_31 s_49 rfl (by decide) ?_
                    refine e_iloadn (pc := 257) dX8_cost_257 rfl rfl ?_
                    refine e_iloadn (pc := 258) dX8_cost_258 rfl rfl ?_
                    refine e_iconst (pc := 259) dX8_cost_259 (by decide) ?_
                    refine e_icmp_ne (pc := 260) (tgt := 267) dX8_cost_260 rfl (fun h260 => ?_) (fun h260 => ?_)
                    · skip
                      refine e_aloadn (pc := 267) dX8_cost_267 rfl rfl ?_
                      refine e_getr (pc := 268) (k := 57) dX8_cost_268 fX8_31 s_49 rfl (by decide) ?_
                      refine e_iloadn (pc := 271) dX8_cost_271 rfl rfl ?_
                      refine e_ialdv (pc := 272) (v := mem 57 cn) dX8_cost_272 s_57 (by omega) rfl ?_
                      refine e_iastm (pc := 273) (mem2 := mset mem 53 cn v) dX8_cost_273 s_57 (by omega) (mset_self _ _ _ rfl) ?_
                      refine e_iload (pc := 274) dX8_cost_274 rfl ?_
                      exact e_iret (pc := 276) dX8_cost_276 rfl (by rw [← hQ_]; exact ⟨congrArg (fun z => some ((0 : Nat), z)) zan.symm, by rw [znx]; exact hM.cost0 cn v, (Fr.rf.ms rfl)⟩)
                    · skip
                      exact absurd h260 (by decide)
                  · skip
                    exact absurd h239 (by decide)
                · skip
                  exact absurd h218 (by decide)
              · skip
                exact absurd h197 (by decide)
        · skip
          refine e_iloadn (pc := 107) dX8_cost_107 rfl rfl ?_
          refine e_if_ne (pc := 108) (tgt := 120) dX8_cost_108 rfl (fun h108 => ?_) (fun h108 => ?_)
          · skip
            refine e_iloadn (pc := 120) dX8_cost_120 rfl rfl ?_
            refine e_iconst (pc := 121) dX8_cost_121 (by decide) ?_
            refine e_icmp_ne (pc := 122) (tgt := 134) dX8_cost_122 rfl (fun h122 => ?_) (fun h122 => ?_)
            · skip
              exact absurd h122 (by decide)
            · skip
              refine e_aloadn (pc := 125) dX8_cost_125 rfl rfl ?_
              refine e_getr (pc := 126) (k := 54) dX8_cost_126 fX8_22 s_49 rfl (by decide) ?_
              refine e_iloadn (pc := 129) dX8_cost_129 rfl rfl ?_
              refine e_ialdv (pc := 130) (v := (A 6 cn)) dX8_cost_130 s_54 (by omega) (zq4) ?_
              refine e_goto (pc := 131) (tgt := 168) dX8_cost_131 rfl ?_
              refine e_istore (pc := 168) (lo' := [(2, 49), (0, (cn : Int)), (0, 1), (0, v), (3, 0), (0, (A 6 cn))]) dX8_cost_168 rfl (by decide) rfl ?_
              refine e_aloadn (pc := 170) dX8_cost_170 rfl rfl ?_
              refine e_getr (pc := 171) (k := 53) dX8_cost_171 fX8_19 s_49 rfl (by decide) ?_
              refine e_iloadn (pc := 174) dX8_cost_174 rfl rfl ?_
              refine e_iloadn (pc := 175) dX8_cost_175 rfl rfl ?_
              refine e_if_ne (pc := 176) (tgt := 183) dX8_cost_176 rfl (fun h176 => ?_) (fun h176 => ?_)
              · skip
                refine e_aloadn (pc := 183) dX8_cost_183 rfl rfl ?_
                refine e_getr (pc := 184) (k := 53) dX8_cost_184 fX8_19 s_49 rfl (by decide) ?_
                refine e_iloadn (pc := 187) dX8_cost_187 rfl rfl ?_
                refine e_ialdv (pc := 188) (v := mem 53 cn) dX8_cost_188 s_53 (by omega) rfl ?_
                refine e_iastm (pc := 189) (mem2 := mem) dX8_cost_189 s_53 (by omega) (mset_self _ _ _ rfl) ?_
                refine e_aloadn (pc := 190) dX8_cost_190 rfl rfl ?_
                refine e_getr (pc := 191) (k := 54) dX8_cost_191 fX8_22 s_49 rfl (by decide) ?_
                refine e_iloadn (pc := 194) dX8_cost_194 rfl rfl ?_
                refine e_iloadn (pc := 195) dX8_cost_195 rfl rfl ?_
                refine e_iconst (pc := 196) dX8_cost_196 (by decide) ?_
                refine e_icmp_ne (pc := 197) (tgt := 204) dX8_cost_197 rfl (fun h197 => ?_) (fun h197 => ?_)
                · skip
                  exact absurd h197 (by decide)
                · skip
                  refine e_iloadn (pc := 200) dX8_cost_200 rfl rfl ?_
                  refine e_goto (pc := 201) (tgt := 210) dX8_cost_201 rfl ?_
                  refine e_iastm (pc := 210) (mem2 := mset mem 54 cn v) dX8_cost_210 s_54 (by omega) (rfl) ?_
                  refine e_aloadn (pc := 211) dX8_cost_211 rfl rfl ?_
                  refine e_getr (pc := 212) (k := 55) dX8_cost_212 fX8_25 s_49 rfl (by decide) ?_
                  refine e_iloadn (pc := 215) dX8_cost_215 rfl rfl ?_
                  refine e_iloadn (pc := 216) dX8_cost_216 rfl rfl ?_
                  refine e_iconst (pc := 217) dX8_cost_217 (by decide) ?_
                  refine e_icmp_ne (pc := 218) (tgt := 225) dX8_cost_218 rfl (fun h218 => ?_) (fun h218 => ?_)
                  · skip
                    refine e_aloadn (pc := 225) dX8_cost_225 rfl rfl ?_
                    refine e_getr (pc := 226) (k := 55) dX8_cost_226 fX8_25 s_49 rfl (by decide) ?_
                    refine e_iloadn (pc := 229) dX8_cost_229 rfl rfl ?_
                    refine e_ialdv (pc := 230) (v := mem 55 cn) dX8_cost_230 s_55 (by omega) rfl ?_
                    refine e_iastm (pc := 231) (mem2 := mset mem 54 cn v) dX8_cost_231 s_55 (by omega) (mset_self _ _ _ rfl) ?_
                    refine e_aloadn (pc := 232) dX8_cost_232 rfl rfl ?_
                    refine e_getr (pc := 233) (k := 56) dX8_cost_233 fX8_28 s_49 rfl (by decide) ?_
                    refine e_iloadn (pc := 236) dX8_cost_236 rfl rfl ?_
                    refine e_iloadn (pc := 237) dX8_cost_237 rfl rfl ?_
                    refine e_iconst (pc := 238) dX8_cost_238 (by decide) ?_
                    refine e_icmp_ne (pc := 239) (tgt := 246) dX8_cost_239 rfl (fun h239 => ?_) (fun h239 => ?_)
                    · skip
                      refine e_aloadn (pc := 246) dX8_cost_246 rfl rfl ?_
                      refine e_getr (pc := 247) (k := 56) dX8_cost_247 fX8_28 s_49 rfl (by decide) ?_
                      refine e_iloadn (pc := 250) dX8_cost_250 rfl rfl ?_
                      refine e_ialdv (pc := 251) (v := mem 56 cn) dX8_cost_251 s_56 (by omega) rfl ?_
                      refine e_iastm (pc := 252) (mem2 := mset mem 54 cn v) dX8_cost_252 s_56 (by omega) (mset_self _ _ _ rfl) ?_
                      refine e_aloadn (pc := 253) dX8_cost_253 rfl rfl ?_
                      refine e_getr (pc := 254) (k := 57) dX8_cost_254 fX8_31 s_49 rfl (by decide) ?_
                      refine e_iloadn (pc := 257) dX8_cost_257 rfl rfl ?_
                      refine e_iloadn (pc := 258) dX8_cost_258 rfl rfl ?_
                      refine e_iconst (pc := 259) dX8_cost_259 (by decide) ?_
                      refine e_icmp_ne (pc := 260) (tgt := 267) dX8_cost_260 rfl (fun h260 => ?_) (fun h260 => ?_)
                      · skip
                        refine e_aloadn (pc := 267) dX8_cost_267 rfl rfl ?_
                        refine e_getr (pc := 268) (k := 57) dX8_cost_268 fX8_31 s_49 rfl (by decide) ?_
                        refine e_iloadn (pc := 271) dX8_cost_271 rfl rfl ?_
                        refine e_ialdv (pc := 272) (v := mem 57 cn) dX8_cost_272 s_57 (by omega) rfl ?_
                        refine e_iastm (pc := 273) (mem2 := mset mem 54 cn v) dX8_cost_273 s_57 (by omega) (mset_self _ _ _ rfl) ?_
                        refine e_iload (pc := 274) dX8_cost_274 rfl ?_
                        exact e_iret (pc := 276) dX8_cost_276 rfl (by rw [← hQ_]; exact ⟨congrArg (fun z => some ((0 : Nat), z)) zan.symm, by rw [znx]; exact hM.cost1 cn v, (Fr.rf.ms rfl)⟩)
                      · skip
                        exact absurd h260 (by decide)
                    · skip
                      exact absurd h239 (by decide)
                  · skip
                    exact absurd h218 (by decide)
              · skip
                exact absurd h176 (by decide)
          · skip
            exact absurd h108 (by decide)
        · skip
          refine e_iloadn (pc := 107) dX8_cost_107 rfl rfl ?_
          refine e_if_ne (pc := 108) (tgt := 120) dX8_cost_108 rfl (fun h108 => ?_) (fun h108 => ?_)
          · skip
            refine e_iloadn (pc := 120) dX8_cost_120 rfl rfl ?_
            refine e_iconst (pc := 121) dX8_cost_121 (by decide) ?_
            refine e_icmp_ne (pc := 122) (tgt := 134) dX8_cost_122 rfl (fun h122 => ?_) (fun h122 => ?_)
            · skip
              refine e_iloadn (pc := 134) dX8_cost_134 rfl rfl ?_
              refine e_iconst (pc := 135) dX8_cost_135 (by decide) ?_
              refine e_icmp_ne (pc := 136) (tgt := 148) dX8_cost_136 rfl (fun h136 => ?_) (fun h136 => ?_)
              · skip
                exact absurd h136 (by decide)
              · skip
                refine e_aloadn (pc := 139) dX8_cost_139 rfl rfl ?_
                refine e_getr (pc := 140) (k := 55) dX8_cost_140 fX8_25 s_49 rfl (by decide) ?_
                refine e_iloadn (pc := 143) dX8_cost_143 rfl rfl ?_
                refine e_ialdv (pc := 144) (v := (A 7 cn)) dX8_cost_144 s_55 (by omega) (zq5) ?_
                refine e_goto (pc := 145) (tgt := 168) dX8_cost_145 rfl ?_
                refine e_istore (pc := 168) (lo' := [(2, 49), (0, (cn : Int)), (0, 2), (0, v), (3, 0), (0, (A 7 cn))]) dX8_cost_168 rfl (by decide) rfl ?_
                refine e_aloadn (pc := 170) dX8_cost_170 rfl rfl ?_
                refine e_getr (pc := 171) (k := 53) dX8_cost_171 fX8_19 s_49 rfl (by decide) ?_
                refine e_iloadn (pc := 174) dX8_cost_174 rfl rfl ?_
                refine e_iloadn (pc := 175) dX8_cost_175 rfl rfl ?_
                refine e_if_ne (pc := 176) (tgt := 183) dX8_cost_176 rfl (fun h176 => ?_) (fun h176 => ?_)
                · skip
                  refine e_aloadn (pc := 183) dX8_cost_183 rfl rfl ?_
                  refine e_getr (pc := 184) (k := 53) dX8_cost_184 fX8_19 s_49 rfl (by decide) ?_
                  refine e_iloadn (pc := 187) dX8_cost_187 rfl rfl ?_
                  refine e_ialdv (pc := 188) (v := mem 53 cn) dX8_cost_188 s_53 (by omega) rfl ?_
                  refine e_iastm (pc := 189) (mem2 := mem) dX8_cost_189 s_53 (by omega) (mset_self _ _ _ rfl) ?_
                  refine e_aloadn (pc := 190) dX8_cost_190 rfl rfl ?_
                  refine e_getr (pc := 191) (k := 54) dX8_cost_191 fX8_22 s_49 rfl (by decide) ?_
                  refine e_iloadn (pc := 194) dX8_cost_194 rfl rfl ?_
                  refine e_iloadn (pc := 195) dX8_cost_195 rfl rfl ?_
                  refine e_iconst (pc := 196) dX8_cost_196 (by decide) ?_
                  refine e_icmp_ne (pc := 197) (tgt := 204) dX8_cost_197 rfl (fun h197 => ?_) (fun h197 => ?_)
                  · skip
                    refine e_aloadn (pc := 204) dX8_cost_204 rfl rfl ?_
                    refine e_getr (pc := 205) (k := 54) dX8_cost_205 fX8_22 s_49 rfl (by decide) ?_
                    refine e_iloadn (pc := 208) dX8_cost_208 rfl rfl ?_
                    refine e_ialdv (pc := 209) (v := mem 54 cn) dX8_cost_209 s_54 (by omega) rfl ?_
                    refine e_iastm (pc := 210) (mem2 := mem) dX8_cost_210 s_54 (by omega) (mset_self _ _ _ rfl) ?_
                    refine e_aloadn (pc := 211) dX8_cost_211 rfl rfl ?_
                    refine e_getr (pc := 212) (k := 55) dX8_cost_212 fX8_25 s_49 rfl (by decide) ?_
                    refine e_iloadn (pc := 215) dX8_cost_215 rfl rfl ?_
                    refine e_iloadn (pc := 216) dX8_cost_216 rfl rfl ?_
                    refine e_iconst (pc := 217) dX8_cost_217 (by decide) ?_
                    refine e_icmp_ne (pc := 218) (tgt := 225) dX8_cost_218 rfl (fun h218 => ?_) (fun h218 => ?_)
                    · skip
                      exact absurd h218 (by decide)
                    · skip
                      refine e_iloadn (pc := 221) dX8_cost_221 rfl rfl ?_
                      refine e_goto (pc := 222) (tgt := 231) dX8_cost_222 rfl ?_
                      refine e_iastm (pc := 231) (mem2 := mset mem 55 cn v) dX8_cost_231 s_55 (by omega) (rfl) ?_
                      refine e_aloadn (pc := 232) dX8_cost_232 rfl rfl ?_
                      refine e_getr (pc := 233) (k := 56) dX8_cost_233 fX8_28 s_49 rfl (by decide) ?_
                      refine e_iloadn (pc := 236) dX8_cost_236 rfl rfl ?_
                      refine e_iloadn (pc := 237) dX8_cost_237 rfl rfl ?_
                      refine e_iconst (pc := 238) dX8_cost_238 (by decide) ?_
                      refine e_icmp_ne (pc := 239) (tgt := 246) dX8_cost_239 rfl (fun h239 => ?_) (fun h239 => ?_)
                      · skip
                        refine e_aloadn (pc := 246) dX8_cost_246 rfl rfl ?_
                        refine e_getr (pc := 247) (k := 56) dX8_cost_247 fX8_28 s_49 rfl (by decide) ?_
                        refine e_iloadn (pc := 250) dX8_cost_250 rfl rfl ?_
                        refine e_ialdv (pc := 251) (v := mem 56 cn) dX8_cost_251 s_56 (by omega) rfl ?_
                        refine e_iastm (pc := 252) (mem2 := mset mem 55 cn v) dX8_cost_252 s_56 (by omega) (mset_self _ _ _ rfl) ?_
                        refine e_aloadn (pc := 253) dX8_cost_253 rfl rfl ?_
                        refine e_getr (pc := 254) (k := 57) dX8_cost_254 fX8_31 s_49 rfl (by decide) ?_
                        refine e_iloadn (pc := 257) dX8_cost_257 rfl rfl ?_
                        refine e_iloadn (pc := 258) dX8_cost_258 rfl rfl ?_
                        refine e_iconst (pc := 259) dX8_cost_259 (by decide) ?_
                        refine e_icmp_ne (pc := 260) (tgt := 267) dX8_cost_260 rfl (fun h260 => ?_) (fun h260 => ?_)
                        · skip
                          refine e_aloadn (pc := 267) dX8_cost_267 rfl rfl ?_
                          refine e_getr (pc := 268) (k := 57) dX8_cost_268 fX8_31 s_49 rfl (by decide) ?_
                          refine e_iloadn (pc := 271) dX8_cost_271 rfl rfl ?_
                          refine e_ialdv (pc := 272) (v := mem 57 cn) dX8_cost_272 s_57 (by omega) rfl ?_
                          refine e_iastm (pc := 273) (mem2 := mset mem 55 cn v) dX8_cost_273 s_57 (by omega) (mset_self _ _ _ rfl) ?_
                          refine e_iload (pc := 274) dX8_cost_274 rfl ?_
                          exact e_iret (pc := 276) dX8_cost_276 rfl (by rw [← hQ_]; exact ⟨congrArg (fun z => some ((0 : Nat), z)) zan.symm, by rw [znx]; exact hM.cost2 cn v, (Fr.rf.ms rfl)⟩)
                        · skip
                          exact absurd h260 (by decide)
                      · skip
                        exact absurd h239 (by decide)
                  · skip
                    exact absurd h197 (by decide)
                · skip
                  exact absurd h176 (by decide)
            · skip
              exact absurd h122 (by decide)
          · skip
            exact absurd h108 (by decide)
        · skip
          refine e_iloadn (pc := 107) dX8_cost_107 rfl rfl ?_
          refine e_if_ne (pc := 108) (tgt := 120) dX8_cost_108 rfl (fun h108 => ?_) (fun h108 => ?_)
          · skip
            refine e_iloadn (pc := 120) dX8_cost_120 rfl rfl ?_
            refine e_iconst (pc := 121) dX8_cost_121 (by decide) ?_
            refine e_icmp_ne (pc := 122) (tgt := 134) dX8_cost_122 rfl (fun h122 => ?_) (fun h122 => ?_)
            · skip
              refine e_iloadn (pc := 134) dX8_cost_134 rfl rfl ?_
              refine e_iconst (pc := 135) dX8_cost_135 (by decide) ?_
              refine e_icmp_ne (pc := 136) (tgt := 148) dX8_cost_136 rfl (fun h136 => ?_) (fun h136 => ?_)
              · skip
                refine e_iloadn (pc := 148) dX8_cost_148 rfl rfl ?_
                refine e_iconst (pc := 149) dX8_cost_149 (by decide) ?_
                refine e_icmp_ne (pc := 150) (tgt := 162) dX8_cost_150 rfl (fun h150 => ?_) (fun h150 => ?_)
                · skip
                  exact absurd h150 (by decide)
                · skip
                  refine e_aloadn (pc := 153) dX8_cost_153 rfl rfl ?_
                  refine e_getr (pc := 154) (k := 56) dX8_cost_154 fX8_28 s_49 rfl (by decide) ?_
                  refine e_iloadn (pc := 157) dX8_cost_157 rfl rfl ?_
                  refine e_ialdv (pc := 158) (v := (A 8 cn)) dX8_cost_158 s_56 (by omega) (zq6) ?_
                  refine e_goto (pc := 159) (tgt := 168) dX8_cost_159 rfl ?_
                  refine e_istore (pc := 168) (lo' := [(2, 49), (0, (cn : Int)), (0, 3), (0, v), (3, 0), (0, (A 8 cn))]) dX8_cost_168 rfl (by decide) rfl ?_
                  refine e_aloadn (pc := 170) dX8_cost_170 rfl rfl ?_
                  refine e_getr (pc := 171) (k := 53) dX8_cost_171 fX8_19 s_49 rfl (by decide) ?_
                  refine e_iloadn (pc := 174) dX8_cost_174 rfl rfl ?_
                  refine e_iloadn (pc := 175) dX8_cost_175 rfl rfl ?_
                  refine e_if_ne (pc := 176) (tgt := 183) dX8_cost_176 rfl (fun h176 => ?_) (fun h176 => ?_)
                  · skip
                    refine e_aloadn (pc := 183) dX8_cost_183 rfl rfl ?_
                    refine e_getr (pc := 184) (k := 53) dX8_cost_184 fX8_19 s_49 rfl (by decide) ?_
                    refine e_iloadn (pc := 187) dX8_cost_187 rfl rfl ?_
                    refine e_ialdv (pc := 188) (v := mem 53 cn) dX8_cost_188 s_53 (by omega) rfl ?_
                    refine e_iastm (pc := 189) (mem2 := mem) dX8_cost_189 s_53 (by omega) (mset_self _ _ _ rfl) ?_
                    refine e_aloadn (pc := 190) dX8_cost_190 rfl rfl ?_
                    refine e_getr (pc := 191) (k := 54) dX8_cost_191 fX8_22 s_49 rfl (by decide) ?_
                    refine e_iloadn (pc := 194) dX8_cost_194 rfl rfl ?_
                    refine e_iloadn (pc := 195) dX8_cost_195 rfl rfl ?_
                    refine e_iconst (pc := 196) dX8_cost_196 (by decide) ?_
                    refine e_icmp_ne (pc := 197) (tgt := 204) dX8_cost_197 rfl (fun h197 => ?_) (fun h197 => ?_)
                    · skip
                      refine e_aloadn (pc := 204) dX8_cost_204 rfl rfl ?_
                      refine e_getr (pc := 205) (k := 54) dX8_cost_205 fX8_22 s_49 rfl (by decide) ?_
                      refine e_iloadn (pc := 208) dX8_cost_208 rfl rfl ?_
                      refine e_ialdv (pc := 209) (v := mem 54 cn) dX8_cost_209 s_54 (by omega) rfl ?_
                      refine e_iastm (pc := 210) (mem2 := mem) dX8_cost_210 s_54 (by omega) (mset_self _ _ _ rfl) ?_
                      refine e_aloadn (pc := 211) dX8_cost_211 rfl rfl ?_
                      refine e_getr (pc := 212) (k := 55) dX8_cost_212 fX8_25 s_49 rfl (by decide) ?_
                      refine e_iloadn (pc := 215) dX8_cost_215 rfl rfl ?_
                      refine e_iloadn (pc := 216) dX8_cost_216 rfl rfl ?_
                      refine e_iconst (pc := 217) dX8_cost_217 (by decide) ?_
                      refine e_icmp_ne (pc := 218) (tgt := 225) dX8_cost_218 rfl (fun h218 => ?_) (fun h218 => ?_)
                      · skip
                        refine e_aloadn (pc := 225) dX8_cost_225 rfl rfl ?_
                        refine e_getr (pc := 226) (k := 55) dX8_cost_226 fX8_25 s_49 rfl (by decide) ?_
                        refine e_iloadn (pc := 229) dX8_cost_229 rfl rfl ?_
                        refine e_ialdv (pc := 230) (v := mem 55 cn) dX8_cost_230 s_55 (by omega) rfl ?_
                        refine e_iastm (pc := 231) (mem2 := mem) dX8_cost_231 s_55 (by omega) (mset_self _ _ _ rfl) ?_
                        refine e_aloadn (pc := 232) dX8_cost_232 rfl rfl ?_
                        refine e_getr (pc := 233) (k := 56) dX8_cost_233 fX8_28 s_49 rfl (by decide) ?_
                        refine e_iloadn (pc := 236) dX8_cost_236 rfl rfl ?_
                        refine e_iloadn (pc := 237) dX8_cost_237 rfl rfl ?_
                        refine e_iconst (pc := 238) dX8_cost_238 (by decide) ?_
                        refine e_icmp_ne (pc := 239) (tgt := 246) dX8_cost_239 rfl (fun h239 => ?_) (fun h239 => ?_)
                        · skip
                          exact absurd h239 (by decide)
                        · skip
                          refine e_iloadn (pc := 242) dX8_cost_242 rfl rfl ?_
                          refine e_goto (pc := 243) (tgt := 252) dX8_cost_243 rfl ?_
                          refine e_iastm (pc := 252) (mem2 := mset mem 56 cn v) dX8_cost_252 s_56 (by omega) (rfl) ?_
                          refine e_aloadn (pc := 253) dX8_cost_253 rfl rfl ?_
                          refine e_getr (pc := 254) (k := 57) dX8_cost_254 fX8_31 s_49 rfl (by decide) ?_
                          refine e_iloadn (pc := 257) dX8_cost_257 rfl rfl ?_
                          refine e_iloadn (pc := 258) dX8_cost_258 rfl rfl ?_
                          refine e_iconst (pc := 259) dX8_cost_259 (by decide) ?_
                          refine e_icmp_ne (pc := 260) (tgt := 267) dX8_cost_260 rfl (fun h260 => ?_) (fun h260 => ?_)
                          · skip
                            refine e_aloadn (pc := 267) dX8_cost_267 rfl rfl ?_
                            refine e_getr (pc := 268) (k := 57) dX8_cost_268 fX8_31 s_49 rfl (by decide) ?_
                            refine e_iloadn (pc := 271) dX8_cost_271 rfl rfl ?_
                            refine e_ialdv (pc := 272) (v := mem 57 cn) dX8_cost_272 s_57 (by omega) rfl ?_
                            refine e_iastm (pc := 273) (mem2 := mset mem 56 cn v) dX8_cost_273 s_57 (by omega) (mset_self _ _ _ rfl) ?_
                            refine e_iload (pc := 274) dX8_cost_274 rfl ?_
                            exact e_iret (pc := 276) dX8_cost_276 rfl (by rw [← hQ_]; exact ⟨congrArg (fun z => some ((0 : Nat), z)) zan.symm, by rw [znx]; exact hM.cost3 cn v, (Fr.rf.ms rfl)⟩)
                          · skip
                            exact absurd h260 (by decide)
                      · skip
                        exact absurd h218 (by decide)
                    · skip
                      exact absurd h197 (by decide)
                  · skip
                    exact absurd h176 (by decide)
              · skip
                exact absurd h136 (by decide)
            · skip
              exact absurd h122 (by decide)
          · skip
            exact absurd h108 (by decide)
        · skip
          refine e_iloadn (pc := 107) dX8_cost_107 rfl rfl ?_
          refine e_if_ne (pc := 108) (tgt := 120) dX8_cost_108 rfl (fun h108 => ?_) (fun h108 => ?_)
          · skip
            refine e_iloadn (pc := 120) dX8_cost_120 rfl rfl ?_
            refine e_iconst (pc := 121) dX8_cost_121 (by decide) ?_
            refine e_icmp_ne (pc := 122) (tgt := 134) dX8_cost_122 rfl (fun h122 => ?_) (fun h122 => ?_)
            · skip
              refine e_iloadn (pc := 134) dX8_cost_134 rfl rfl ?_
              refine e_iconst (pc := 135) dX8_cost_135 (by decide) ?_
              refine e_icmp_ne (pc := 136) (tgt := 148) dX8_cost_136 rfl (fun h136 => ?_) (fun h136 => ?_)
              · skip
                refine e_iloadn (pc := 148) dX8_cost_148 rfl rfl ?_
                refine e_iconst (pc := 149) dX8_cost_149 (by decide) ?_
                refine e_icmp_ne (pc := 150) (tgt := 162) dX8_cost_150 rfl (fun h150 => ?_) (fun h150 => ?_)
                · skip
                  refine e_aloadn (pc := 162) dX8_cost_162 rfl rfl ?_
                  refine e_getr (pc := 163) (k := 57) dX8_cost_163 fX8_31 s_49 rfl (by decide) ?_
                  refine e_iloadn (pc := 166) dX8_cost_166 rfl rfl ?_
                  refine e_ialdv (pc := 167) (v := (A 9 cn)) dX8_cost_167 s_57 (by omega) (zq7) ?_
                  refine e_istore (pc := 168) (lo' := [(2, 49), (0, (cn : Int)), (0, 4), (0, v), (3, 0), (0, (A 9 cn))]) dX8_cost_168 rfl (by decide) rfl ?_
                  refine e_aloadn (pc := 170) dX8_cost_170 rfl rfl ?_
                  refine e_getr (pc := 171) (k := 53) dX8_cost_171 fX8_19 s_49 rfl (by decide) ?_
                  refine e_iloadn (pc := 174) dX8_cost_174 rfl rfl ?_
                  refine e_iloadn (pc := 175) dX8_cost_175 rfl rfl ?_
                  refine e_if_ne (pc := 176) (tgt := 183) dX8_cost_176 rfl (fun h176 => ?_) (fun h176 => ?_)
                  · skip
                    refine e_aloadn (pc := 183) dX8_cost_183 rfl rfl ?_
                    refine e_getr (pc := 184) (k := 53) dX8_cost_184 fX8_19 s_49 rfl (by decide) ?_
                    refine e_iloadn (pc := 187) dX8_cost_187 rfl rfl ?_
                    refine e_ialdv (pc := 188) (v := mem 53 cn) dX8_cost_188 s_53 (by omega) rfl ?_
                    refine e_iastm (pc := 189) (mem2 := mem) dX8_cost_189 s_53 (by omega) (mset_self _ _ _ rfl) ?_
                    refine e_aloadn (pc := 190) dX8_cost_190 rfl rfl ?_
                    refine e_getr (pc := 191) (k := 54) dX8_cost_191 fX8_22 s_49 rfl (by decide) ?_
                    refine e_iloadn (pc := 194) dX8_cost_194 rfl rfl ?_
                    refine e_iloadn (pc := 195) dX8_cost_195 rfl rfl ?_
                    refine e_iconst (pc := 196) dX8_cost_196 (by decide) ?_
                    refine e_icmp_ne (pc := 197) (tgt := 204) dX8_cost_197 rfl (fun h197 => ?_) (fun h197 => ?_)
                    · skip
                      refine e_aloadn (pc := 204) dX8_cost_204 rfl rfl ?_
                      refine e_getr (pc := 205) (k := 54) dX8_cost_205 fX8_22 s_49 rfl (by decide) ?_
                      refine e_iloadn (pc := 208) dX8_cost_208 rfl rfl ?_
                      refine e_ialdv (pc := 209) (v := mem 54 cn) dX8_cost_209 s_54 (by omega) rfl ?_
                      refine e_iastm (pc := 210) (mem2 := mem) dX8_cost_210 s_54 (by omega) (mset_self _ _ _ rfl) ?_
                      refine e_aloadn (pc := 211) dX8_cost_211 rfl rfl ?_
                      refine e_getr (pc := 212) (k := 55) dX8_cost_212 fX8_25 s_49 rfl (by decide) ?_
                      refine e_iloadn (pc := 215) dX8_cost_215 rfl rfl ?_
                      refine e_iloadn (pc := 216) dX8_cost_216 rfl rfl ?_
                      refine e_iconst (pc := 217) dX8_cost_217 (by decide) ?_
                      refine e_icmp_ne (pc := 218) (tgt := 225) dX8_cost_218 rfl (fun h218 => ?_) (fun h218 => ?_)
                      · skip
                        refine e_aloadn (pc := 225) dX8_cost_225 rfl rfl ?_
                        refine e_getr (pc := 226) (k := 55) dX8_cost_226 fX8_25 s_49 rfl (by decide) ?_
                        refine e_iloadn (pc := 229) dX8_cost_229 rfl rfl ?_
                        refine e_ialdv (pc := 230) (v := mem 55 cn) dX8_cost_230 s_55 (by omega) rfl ?_
                        refine e_iastm (pc := 231) (mem2 := mem) dX8_cost_231 s_55 (by omega) (mset_self _ _ _ rfl) ?_
                        refine e_aloadn (pc := 232) dX8_cost_232 rfl rfl ?_
                        refine e_getr (pc := 233) (k := 56) dX8_cost_233 fX8_28 s_49 rfl (by decide) ?_
                        refine e_iloadn (pc := 236) dX8_cost_236 rfl rfl ?_
                        refine e_iloadn (pc := 237) dX8_cost_237 rfl rfl ?_
                        refine e_iconst (pc := 238) dX8_cost_238 (by decide) ?_
                        refine e_icmp_ne (pc := 239) (tgt := 246) dX8_cost_239 rfl (fun h239 => ?_) (fun h239 => ?_)
                        · skip
                          refine e_aloadn (pc := 246) dX8_cost_246 rfl rfl ?_
                          refine e_getr (pc := 247) (k := 56) dX8_cost_247 fX8_28 s_49 rfl (by decide) ?_
                          refine e_iloadn (pc := 250) dX8_cost_250 rfl rfl ?_
                          refine e_ialdv (pc := 251) (v := mem 56 cn) dX8_cost_251 s_56 (by omega) rfl ?_
                          refine e_iastm (pc := 252) (mem2 := mem) dX8_cost_252 s_56 (by omega) (mset_self _ _ _ rfl) ?_
                          refine e_aloadn (pc := 253) dX8_cost_253 rfl rfl ?_
                          refine e_getr (pc := 254) (k := 57) dX8_cost_254 fX8_31 s_49 rfl (by decide) ?_
                          refine e_iloadn (pc := 257) dX8_cost_257 rfl rfl ?_
                          refine e_iloadn (pc := 258) dX8_cost_258 rfl rfl ?_
                          refine e_iconst (pc := 259) dX8_cost_259 (by decide) ?_
                          refine e_icmp_ne (pc := 260) (tgt := 267) dX8_cost_260 rfl (fun h260 => ?_) (fun h260 => ?_)
                          · skip
                            exact absurd h260 (by decide)
                          · skip
                            refine e_iloadn (pc := 263) dX8_cost_263 rfl rfl ?_
                            refine e_goto (pc := 264) (tgt := 273) dX8_cost_264 rfl ?_
                            refine e_iastm (pc := 273) (mem2 := mset mem 57 cn v) dX8_cost_273 s_57 (by omega) (rfl) ?_
                            refine e_iload (pc := 274) dX8_cost_274 rfl ?_
                            exact e_iret (pc := 276) dX8_cost_276 rfl (by rw [← hQ_]; exact ⟨congrArg (fun z => some ((0 : Nat), z)) zan.symm, by rw [znx]; exact hM.cost4 cn v, (Fr.rf.ms rfl)⟩)
                        · skip
                          exact absurd h239 (by decide)
                      · skip
                        exact absurd h218 (by decide)
                    · skip
                      exact absurd h197 (by decide)
                  · skip
                    exact absurd h176 (by decide)
                · skip
                  exact absurd h150 (by decide)
              · skip
                exact absurd h136 (by decide)
            · skip
              exact absurd h122 (by decide)
          · skip
            exact absurd h108 (by decide)
      refine e_iloadn (pc := 8) dX8_cost_8 rfl rfl ?_
      refine e_if_eq (pc := 9) (tgt := 17) dX8_cost_9 rfl (fun h9 => ?_) (fun h9 => ?_)
      · skip
        refine e_iloadn (pc := 17) dX8_cost_17 rfl rfl ?_
        refine e_iconst (pc := 18) dX8_cost_18 (by decide) ?_
        refine e_bipush (pc := 19) dX8_cost_19 rfl (by decide) ?_
        refine e_callSr (pc := 21) (as := [(0, v), (0, 0), (0, 99)]) (st := []) (v := (0, if 0 ≤ v ∧ v ≤ 99 then 1 else 0)) (m_in G (mem) v 0 99) dX8_cost_21 lX8_cost_95 rfl rfl rfl ?_
        by_cases zc21 : 0 ≤ v ∧ v ≤ 99
        · rw [if_pos zc21]
          refine e_if_eq (pc := 24) (tgt := 96) dX8_cost_24 rfl (fun h24 => ?_) (fun h24 => ?_)
          · skip
            exact absurd h24 (by decide)
          · skip
            refine e_goto (pc := 27) (tgt := 92) dX8_cost_27 rfl ?_
            have zgd : ((wh = 0 ∨ wh = 1) ∧ 0 ≤ v ∧ v ≤ 99) ∨ (wh = 2 ∧ 0 ≤ v ∧ v ≤ 999) ∨ (A 18 cn ≠ 2 ∧ ((wh = 3 ∧ 0 ≤ v ∧ v ≤ 15) ∨ (wh = 4 ∧ 1 ≤ v ∧ v ≤ 30))) := by omega
            refine e_iconst (pc := 92) dX8_cost_92 (by decide) ?_
            refine e_goto (pc := 93) (tgt := 97) dX8_cost_93 rfl ?_
            refine e_istore (pc := 97) (lo' := [(2, 49), (0, (cn : Int)), (0, wh), (0, v), (0, 1), (3, 0)]) dX8_cost_97 rfl (by decide) rfl ?_
            refine e_iload (pc := 99) dX8_cost_99 rfl ?_
            refine e_if_ne (pc := 101) (tgt := 107) dX8_cost_101 rfl (fun h101 => ?_) (fun h101 => ?_)
            · skip
              refine Ev.fgt [4] ?_
              exact Ev.to (C107  (zgd)) rfl rfl rfl
            · skip
              exact absurd h101 (by decide)
        · rw [if_neg zc21]
          refine e_if_eq (pc := 24) (tgt := 96) dX8_cost_24 rfl (fun h24 => ?_) (fun h24 => ?_)
          · skip
            refine e_iconst (pc := 96) dX8_cost_96 (by decide) ?_
            refine e_istore (pc := 97) (lo' := [(2, 49), (0, (cn : Int)), (0, wh), (0, v), (0, 0), (3, 0)]) dX8_cost_97 rfl (by decide) rfl ?_
            refine e_iload (pc := 99) dX8_cost_99 rfl ?_
            refine e_if_ne (pc := 101) (tgt := 107) dX8_cost_101 rfl (fun h101 => ?_) (fun h101 => ?_)
            · skip
              exact absurd h101 (by decide)
            · skip
              refine e_bipush (pc := 104) dX8_cost_104 rfl (by decide) ?_
              have zan : an_cost A (cn : Int) wh v = -2 := by unfold an_cost; rw [if_neg (fun q => by have q2 : ((wh = 0 ∨ wh = 1) ∧ 0 ≤ v ∧ v ≤ 99) ∨ (wh = 2 ∧ 0 ≤ v ∧ v ≤ 999) ∨ (A 18 cn ≠ 2 ∧ ((wh = 3 ∧ 0 ≤ v ∧ v ≤ 15) ∨ (wh = 4 ∧ 1 ≤ v ∧ v ≤ 30))) := q.2; omega)]
              have znx : nx_cost A (cn : Int) wh v = A := by unfold nx_cost; rw [if_neg (fun q => by have q2 : ((wh = 0 ∨ wh = 1) ∧ 0 ≤ v ∧ v ≤ 99) ∨ (wh = 2 ∧ 0 ≤ v ∧ v ≤ 999) ∨ (A 18 cn ≠ 2 ∧ ((wh = 3 ∧ 0 ≤ v ∧ v ≤ 15) ∨ (wh = 4 ∧ 1 ≤ v ∧ v ≤ 30))) := q.2; omega)]
              exact e_iret (pc := 106) dX8_cost_106 rfl (by rw [← hQ_]; exact ⟨by rw [zan], by rw [znx]; exact hM, Fr.rf⟩)
          · skip
            exact absurd h24 (by decide)
      · skip
        refine e_iloadn (pc := 12) dX8_cost_12 rfl rfl ?_
        refine e_iconst (pc := 13) dX8_cost_13 (by decide) ?_
        refine e_icmp_ne (pc := 14) (tgt := 30) dX8_cost_14 rfl (fun h14 => ?_) (fun h14 => ?_)
        · skip
          refine e_iloadn (pc := 30) dX8_cost_30 rfl rfl ?_
          refine e_iconst (pc := 31) dX8_cost_31 (by decide) ?_
          refine e_icmp_ne (pc := 32) (tgt := 49) dX8_cost_32 rfl (fun h32 => ?_) (fun h32 => ?_)
          · skip
            refine e_aloadn (pc := 49) dX8_cost_49 rfl rfl ?_
            refine e_getr (pc := 50) (k := 50) dX8_cost_50 fX8_7 s_49 rfl (by decide) ?_
            refine e_iloadn (pc := 53) dX8_cost_53 rfl rfl ?_
            refine e_ialdv (pc := 54) (v := (A 18 cn)) dX8_cost_54 s_50 (by omega) (zq0) ?_
            refine e_iconst (pc := 55) dX8_cost_55 (by decide) ?_
            refine e_icmp_eq (pc := 56) (tgt := 96) dX8_cost_56 rfl (fun h56 => ?_) (fun h56 => ?_)
            · skip
              refine e_iconst (pc := 96) dX8_cost_96 (by decide) ?_
              refine e_istore (pc := 97) (lo' := [(2, 49), (0, (cn : Int)), (0, wh), (0, v), (0, 0), (3, 0)]) dX8_cost_97 rfl (by decide) rfl ?_
              refine e_iload (pc := 99) dX8_cost_99 rfl ?_
              refine e_if_ne (pc := 101) (tgt := 107) dX8_cost_101 rfl (fun h101 => ?_) (fun h101 => ?_)
              · skip
                exact absurd h101 (by decide)
              · skip
                refine e_bipush (pc := 104) dX8_cost_104 rfl (by decide) ?_
                have zan : an_cost A (cn : Int) wh v = -2 := by unfold an_cost; rw [if_neg (fun q => by have q2 : ((wh = 0 ∨ wh = 1) ∧ 0 ≤ v ∧ v ≤ 99) ∨ (wh = 2 ∧ 0 ≤ v ∧ v ≤ 999) ∨ (A 18 cn ≠ 2 ∧ ((wh = 3 ∧ 0 ≤ v ∧ v ≤ 15) ∨ (wh = 4 ∧ 1 ≤ v ∧ v ≤ 30))) := q.2; omega)]
                have znx : nx_cost A (cn : Int) wh v = A := by unfold nx_cost; rw [if_neg (fun q => by have q2 : ((wh = 0 ∨ wh = 1) ∧ 0 ≤ v ∧ v ≤ 99) ∨ (wh = 2 ∧ 0 ≤ v ∧ v ≤ 999) ∨ (A 18 cn ≠ 2 ∧ ((wh = 3 ∧ 0 ≤ v ∧ v ≤ 15) ∨ (wh = 4 ∧ 1 ≤ v ∧ v ≤ 30))) := q.2; omega)]
                exact e_iret (pc := 106) dX8_cost_106 rfl (by rw [← hQ_]; exact ⟨by rw [zan], by rw [znx]; exact hM, Fr.rf⟩)
            · skip
              refine e_iloadn (pc := 59) dX8_cost_59 rfl rfl ?_
              refine e_iconst (pc := 60) dX8_cost_60 (by decide) ?_
              refine e_icmp_ne (pc := 61) (tgt := 77) dX8_cost_61 rfl (fun h61 => ?_) (fun h61 => ?_)
              · skip
                refine e_iloadn (pc := 77) dX8_cost_77 rfl rfl ?_
                refine e_iconst (pc := 78) dX8_cost_78 (by decide) ?_
                refine e_icmp_ne (pc := 79) (tgt := 96) dX8_cost_79 rfl (fun h79 => ?_) (fun h79 => ?_)
                · skip
                  refine e_iconst (pc := 96) dX8_cost_96 (by decide) ?_
                  refine e_istore (pc := 97) (lo' := [(2, 49), (0, (cn : Int)), (0, wh), (0, v), (0, 0), (3, 0)]) dX8_cost_97 rfl (by decide) rfl ?_
                  refine e_iload (pc := 99) dX8_cost_99 rfl ?_
                  refine e_if_ne (pc := 101) (tgt := 107) dX8_cost_101 rfl (fun h101 => ?_) (fun h101 => ?_)
                  · skip
                    exact absurd h101 (by decide)
                  · skip
                    refine e_bipush (pc := 104) dX8_cost_104 rfl (by decide) ?_
                    have zan : an_cost A (cn : Int) wh v = -2 := by unfold an_cost; rw [if_neg (fun q => by have q2 : ((wh = 0 ∨ wh = 1) ∧ 0 ≤ v ∧ v ≤ 99) ∨ (wh = 2 ∧ 0 ≤ v ∧ v ≤ 999) ∨ (A 18 cn ≠ 2 ∧ ((wh = 3 ∧ 0 ≤ v ∧ v ≤ 15) ∨ (wh = 4 ∧ 1 ≤ v ∧ v ≤ 30))) := q.2; omega)]
                    have znx : nx_cost A (cn : Int) wh v = A := by unfold nx_cost; rw [if_neg (fun q => by have q2 : ((wh = 0 ∨ wh = 1) ∧ 0 ≤ v ∧ v ≤ 99) ∨ (wh = 2 ∧ 0 ≤ v ∧ v ≤ 999) ∨ (A 18 cn ≠ 2 ∧ ((wh = 3 ∧ 0 ≤ v ∧ v ≤ 15) ∨ (wh = 4 ∧ 1 ≤ v ∧ v ≤ 30))) := q.2; omega)]
                    exact e_iret (pc := 106) dX8_cost_106 rfl (by rw [← hQ_]; exact ⟨by rw [zan], by rw [znx]; exact hM, Fr.rf⟩)
                · skip
                  refine e_iloadn (pc := 82) dX8_cost_82 rfl rfl ?_
                  refine e_iconst (pc := 83) dX8_cost_83 (by decide) ?_
                  refine e_bipush (pc := 84) dX8_cost_84 rfl (by decide) ?_
                  refine e_callSr (pc := 86) (as := [(0, v), (0, 1), (0, 30)]) (st := []) (v := (0, if 1 ≤ v ∧ v ≤ 30 then 1 else 0)) (m_in G (mem) v 1 30) dX8_cost_86 lX8_cost_95 rfl rfl rfl ?_
                  by_cases zc86 : 1 ≤ v ∧ v ≤ 30
                  · rw [if_pos zc86]
                    refine e_if_eq (pc := 89) (tgt := 96) dX8_cost_89 rfl (fun h89 => ?_) (fun h89 => ?_)
                    · skip
                      exact absurd h89 (by decide)
                    · skip
                      have zgd : ((wh = 0 ∨ wh = 1) ∧ 0 ≤ v ∧ v ≤ 99) ∨ (wh = 2 ∧ 0 ≤ v ∧ v ≤ 999) ∨ (A 18 cn ≠ 2 ∧ ((wh = 3 ∧ 0 ≤ v ∧ v ≤ 15) ∨ (wh = 4 ∧ 1 ≤ v ∧ v ≤ 30))) := by omega
                      refine e_iconst (pc := 92) dX8_cost_92 (by decide) ?_
                      refine e_goto (pc := 93) (tgt := 97) dX8_cost_93 rfl ?_
                      refine e_istore (pc := 97) (lo' := [(2, 49), (0, (cn : Int)), (0, wh), (0, v), (0, 1), (3, 0)]) dX8_cost_97 rfl (by decide) rfl ?_
                      refine e_iload (pc := 99) dX8_cost_99 rfl ?_
                      refine e_if_ne (pc := 101) (tgt := 107) dX8_cost_101 rfl (fun h101 => ?_) (fun h101 => ?_)
                      · skip
                        refine Ev.fgt [4] ?_
                        exact Ev.to (C107  (zgd)) rfl rfl rfl
                      · skip
                        exact absurd h101 (by decide)
                  · rw [if_neg zc86]
                    refine e_if_eq (pc := 89) (tgt := 96) dX8_cost_89 rfl (fun h89 => ?_) (fun h89 => ?_)
                    · skip
                      refine e_iconst (pc := 96) dX8_cost_96 (by decide) ?_
                      refine e_istore (pc := 97) (lo' := [(2, 49), (0, (cn : Int)), (0, wh), (0, v), (0, 0), (3, 0)]) dX8_cost_97 rfl (by decide) rfl ?_
                      refine e_iload (pc := 99) dX8_cost_99 rfl ?_
                      refine e_if_ne (pc := 101) (tgt := 107) dX8_cost_101 rfl (fun h101 => ?_) (fun h101 => ?_)
                      · skip
                        exact absurd h101 (by decide)
                      · skip
                        refine e_bipush (pc := 104) dX8_cost_104 rfl (by decide) ?_
                        have zan : an_cost A (cn : Int) wh v = -2 := by unfold an_cost; rw [if_neg (fun q => by have q2 : ((wh = 0 ∨ wh = 1) ∧ 0 ≤ v ∧ v ≤ 99) ∨ (wh = 2 ∧ 0 ≤ v ∧ v ≤ 999) ∨ (A 18 cn ≠ 2 ∧ ((wh = 3 ∧ 0 ≤ v ∧ v ≤ 15) ∨ (wh = 4 ∧ 1 ≤ v ∧ v ≤ 30))) := q.2; omega)]
                        have znx : nx_cost A (cn : Int) wh v = A := by unfold nx_cost; rw [if_neg (fun q => by have q2 : ((wh = 0 ∨ wh = 1) ∧ 0 ≤ v ∧ v ≤ 99) ∨ (wh = 2 ∧ 0 ≤ v ∧ v ≤ 999) ∨ (A 18 cn ≠ 2 ∧ ((wh = 3 ∧ 0 ≤ v ∧ v ≤ 15) ∨ (wh = 4 ∧ 1 ≤ v ∧ v ≤ 30))) := q.2; omega)]
                        exact e_iret (pc := 106) dX8_cost_106 rfl (by rw [← hQ_]; exact ⟨by rw [zan], by rw [znx]; exact hM, Fr.rf⟩)
                    · skip
                      exact absurd h89 (by decide)
              · skip
                refine e_iloadn (pc := 64) dX8_cost_64 rfl rfl ?_
                refine e_iconst (pc := 65) dX8_cost_65 (by decide) ?_
                refine e_bipush (pc := 66) dX8_cost_66 rfl (by decide) ?_
                refine e_callSr (pc := 68) (as := [(0, v), (0, 0), (0, 15)]) (st := []) (v := (0, if 0 ≤ v ∧ v ≤ 15 then 1 else 0)) (m_in G (mem) v 0 15) dX8_cost_68 lX8_cost_95 rfl rfl rfl ?_
                by_cases zc68 : 0 ≤ v ∧ v ≤ 15
                · rw [if_pos zc68]
                  refine e_if_eq (pc := 71) (tgt := 96) dX8_cost_71 rfl (fun h71 => ?_) (fun h71 => ?_)
                  · skip
                    exact absurd h71 (by decide)
                  · skip
                    refine e_goto (pc := 74) (tgt := 92) dX8_cost_74 rfl ?_
                    have zgd : ((wh = 0 ∨ wh = 1) ∧ 0 ≤ v ∧ v ≤ 99) ∨ (wh = 2 ∧ 0 ≤ v ∧ v ≤ 999) ∨ (A 18 cn ≠ 2 ∧ ((wh = 3 ∧ 0 ≤ v ∧ v ≤ 15) ∨ (wh = 4 ∧ 1 ≤ v ∧ v ≤ 30))) := by omega
                    refine e_iconst (pc := 92) dX8_cost_92 (by decide) ?_
                    refine e_goto (pc := 93) (tgt := 97) dX8_cost_93 rfl ?_
                    refine e_istore (pc := 97) (lo' := [(2, 49), (0, (cn : Int)), (0, wh), (0, v), (0, 1), (3, 0)]) dX8_cost_97 rfl (by decide) rfl ?_
                    refine e_iload (pc := 99) dX8_cost_99 rfl ?_
                    refine e_if_ne (pc := 101) (tgt := 107) dX8_cost_101 rfl (fun h101 => ?_) (fun h101 => ?_)
                    · skip
                      refine Ev.fgt [4] ?_
                      exact Ev.to (C107  (zgd)) rfl rfl rfl
                    · skip
                      exact absurd h101 (by decide)
                · rw [if_neg zc68]
                  refine e_if_eq (pc := 71) (tgt := 96) dX8_cost_71 rfl (fun h71 => ?_) (fun h71 => ?_)
                  · skip
                    refine e_iconst (pc := 96) dX8_cost_96 (by decide) ?_
                    refine e_istore (pc := 97) (lo' := [(2, 49), (0, (cn : Int)), (0, wh), (0, v), (0, 0), (3, 0)]) dX8_cost_97 rfl (by decide) rfl ?_
                    refine e_iload (pc := 99) dX8_cost_99 rfl ?_
                    refine e_if_ne (pc := 101) (tgt := 107) dX8_cost_101 rfl (fun h101 => ?_) (fun h101 => ?_)
                    · skip
                      exact absurd h101 (by decide)
                    · skip
                      refine e_bipush (pc := 104) dX8_cost_104 rfl (by decide) ?_
                      have zan : an_cost A (cn : Int) wh v = -2 := by unfold an_cost; rw [if_neg (fun q => by have q2 : ((wh = 0 ∨ wh = 1) ∧ 0 ≤ v ∧ v ≤ 99) ∨ (wh = 2 ∧ 0 ≤ v ∧ v ≤ 999) ∨ (A 18 cn ≠ 2 ∧ ((wh = 3 ∧ 0 ≤ v ∧ v ≤ 15) ∨ (wh = 4 ∧ 1 ≤ v ∧ v ≤ 30))) := q.2; omega)]
                      have znx : nx_cost A (cn : Int) wh v = A := by unfold nx_cost; rw [if_neg (fun q => by have q2 : ((wh = 0 ∨ wh = 1) ∧ 0 ≤ v ∧ v ≤ 99) ∨ (wh = 2 ∧ 0 ≤ v ∧ v ≤ 999) ∨ (A 18 cn ≠ 2 ∧ ((wh = 3 ∧ 0 ≤ v ∧ v ≤ 15) ∨ (wh = 4 ∧ 1 ≤ v ∧ v ≤ 30))) := q.2; omega)]
                      exact e_iret (pc := 106) dX8_cost_106 rfl (by rw [← hQ_]; exact ⟨by rw [zan], by rw [znx]; exact hM, Fr.rf⟩)
                  · skip
                    exact absurd h71 (by decide)
          · skip
            refine e_iloadn (pc := 35) dX8_cost_35 rfl rfl ?_
            refine e_iconst (pc := 36) dX8_cost_36 (by decide) ?_
            refine e_sipush (pc := 37) dX8_cost_37 rfl (by decide) ?_
            refine e_callSr (pc := 40) (as := [(0, v), (0, 0), (0, 999)]) (st := []) (v := (0, if 0 ≤ v ∧ v ≤ 999 then 1 else 0)) (m_in G (mem) v 0 999) dX8_cost_40 lX8_cost_95 rfl rfl rfl ?_
            by_cases zc40 : 0 ≤ v ∧ v ≤ 999
            · rw [if_pos zc40]
              refine e_if_eq (pc := 43) (tgt := 96) dX8_cost_43 rfl (fun h43 => ?_) (fun h43 => ?_)
              · skip
                exact absurd h43 (by decide)
              · skip
                refine e_goto (pc := 46) (tgt := 92) dX8_cost_46 rfl ?_
                have zgd : ((wh = 0 ∨ wh = 1) ∧ 0 ≤ v ∧ v ≤ 99) ∨ (wh = 2 ∧ 0 ≤ v ∧ v ≤ 999) ∨ (A 18 cn ≠ 2 ∧ ((wh = 3 ∧ 0 ≤ v ∧ v ≤ 15) ∨ (wh = 4 ∧ 1 ≤ v ∧ v ≤ 30))) := by omega
                refine e_iconst (pc := 92) dX8_cost_92 (by decide) ?_
                refine e_goto (pc := 93) (tgt := 97) dX8_cost_93 rfl ?_
                refine e_istore (pc := 97) (lo' := [(2, 49), (0, (cn : Int)), (0, wh), (0, v), (0, 1), (3, 0)]) dX8_cost_97 rfl (by decide) rfl ?_
                refine e_iload (pc := 99) dX8_cost_99 rfl ?_
                refine e_if_ne (pc := 101) (tgt := 107) dX8_cost_101 rfl (fun h101 => ?_) (fun h101 => ?_)
                · skip
                  refine Ev.fgt [4] ?_
                  exact Ev.to (C107  (zgd)) rfl rfl rfl
                · skip
                  exact absurd h101 (by decide)
            · rw [if_neg zc40]
              refine e_if_eq (pc := 43) (tgt := 96) dX8_cost_43 rfl (fun h43 => ?_) (fun h43 => ?_)
              · skip
                refine e_iconst (pc := 96) dX8_cost_96 (by decide) ?_
                refine e_istore (pc := 97) (lo' := [(2, 49), (0, (cn : Int)), (0, wh), (0, v), (0, 0), (3, 0)]) dX8_cost_97 rfl (by decide) rfl ?_
                refine e_iload (pc := 99) dX8_cost_99 rfl ?_
                refine e_if_ne (pc := 101) (tgt := 107) dX8_cost_101 rfl (fun h101 => ?_) (fun h101 => ?_)
                · skip
                  exact absurd h101 (by decide)
                · skip
                  refine e_bipush (pc := 104) dX8_cost_104 rfl (by decide) ?_
                  have zan : an_cost A (cn : Int) wh v = -2 := by unfold an_cost; rw [if_neg (fun q => by have q2 : ((wh = 0 ∨ wh = 1) ∧ 0 ≤ v ∧ v ≤ 99) ∨ (wh = 2 ∧ 0 ≤ v ∧ v ≤ 999) ∨ (A 18 cn ≠ 2 ∧ ((wh = 3 ∧ 0 ≤ v ∧ v ≤ 15) ∨ (wh = 4 ∧ 1 ≤ v ∧ v ≤ 30))) := q.2; omega)]
                  have znx : nx_cost A (cn : Int) wh v = A := by unfold nx_cost; rw [if_neg (fun q => by have q2 : ((wh = 0 ∨ wh = 1) ∧ 0 ≤ v ∧ v ≤ 99) ∨ (wh = 2 ∧ 0 ≤ v ∧ v ≤ 999) ∨ (A 18 cn ≠ 2 ∧ ((wh = 3 ∧ 0 ≤ v ∧ v ≤ 15) ∨ (wh = 4 ∧ 1 ≤ v ∧ v ≤ 30))) := q.2; omega)]
                  exact e_iret (pc := 106) dX8_cost_106 rfl (by rw [← hQ_]; exact ⟨by rw [zan], by rw [znx]; exact hM, Fr.rf⟩)
              · skip
                exact absurd h43 (by decide)
        · skip
          refine e_iloadn (pc := 17) dX8_cost_17 rfl rfl ?_
          refine e_iconst (pc := 18) dX8_cost_18 (by decide) ?_
          refine e_bipush (pc := 19) dX8_cost_19 rfl (by decide) ?_
          refine e_callSr (pc := 21) (as := [(0, v), (0, 0), (0, 99)]) (st := []) (v := (0, if 0 ≤ v ∧ v ≤ 99 then 1 else 0)) (m_in G (mem) v 0 99) dX8_cost_21 lX8_cost_95 rfl rfl rfl ?_
          by_cases zc21 : 0 ≤ v ∧ v ≤ 99
          · rw [if_pos zc21]
            refine e_if_eq (pc := 24) (tgt := 96) dX8_cost_24 rfl (fun h24 => ?_) (fun h24 => ?_)
            · skip
              exact absurd h24 (by decide)
            · skip
              refine e_goto (pc := 27) (tgt := 92) dX8_cost_27 rfl ?_
              have zgd : ((wh = 0 ∨ wh = 1) ∧ 0 ≤ v ∧ v ≤ 99) ∨ (wh = 2 ∧ 0 ≤ v ∧ v ≤ 999) ∨ (A 18 cn ≠ 2 ∧ ((wh = 3 ∧ 0 ≤ v ∧ v ≤ 15) ∨ (wh = 4 ∧ 1 ≤ v ∧ v ≤ 30))) := by omega
              refine e_iconst (pc := 92) dX8_cost_92 (by decide) ?_
              refine e_goto (pc := 93) (tgt := 97) dX8_cost_93 rfl ?_
              refine e_istore (pc := 97) (lo' := [(2, 49), (0, (cn : Int)), (0, wh), (0, v), (0, 1), (3, 0)]) dX8_cost_97 rfl (by decide) rfl ?_
              refine e_iload (pc := 99) dX8_cost_99 rfl ?_
              refine e_if_ne (pc := 101) (tgt := 107) dX8_cost_101 rfl (fun h101 => ?_) (fun h101 => ?_)
              · skip
                refine Ev.fgt [4] ?_
                exact Ev.to (C107  (zgd)) rfl rfl rfl
              · skip
                exact absurd h101 (by decide)
          · rw [if_neg zc21]
            refine e_if_eq (pc := 24) (tgt := 96) dX8_cost_24 rfl (fun h24 => ?_) (fun h24 => ?_)
            · skip
              refine e_iconst (pc := 96) dX8_cost_96 (by decide) ?_
              refine e_istore (pc := 97) (lo' := [(2, 49), (0, (cn : Int)), (0, wh), (0, v), (0, 0), (3, 0)]) dX8_cost_97 rfl (by decide) rfl ?_
              refine e_iload (pc := 99) dX8_cost_99 rfl ?_
              refine e_if_ne (pc := 101) (tgt := 107) dX8_cost_101 rfl (fun h101 => ?_) (fun h101 => ?_)
              · skip
                exact absurd h101 (by decide)
              · skip
                refine e_bipush (pc := 104) dX8_cost_104 rfl (by decide) ?_
                have zan : an_cost A (cn : Int) wh v = -2 := by unfold an_cost; rw [if_neg (fun q => by have q2 : ((wh = 0 ∨ wh = 1) ∧ 0 ≤ v ∧ v ≤ 99) ∨ (wh = 2 ∧ 0 ≤ v ∧ v ≤ 999) ∨ (A 18 cn ≠ 2 ∧ ((wh = 3 ∧ 0 ≤ v ∧ v ≤ 15) ∨ (wh = 4 ∧ 1 ≤ v ∧ v ≤ 30))) := q.2; omega)]
                have znx : nx_cost A (cn : Int) wh v = A := by unfold nx_cost; rw [if_neg (fun q => by have q2 : ((wh = 0 ∨ wh = 1) ∧ 0 ≤ v ∧ v ≤ 99) ∨ (wh = 2 ∧ 0 ≤ v ∧ v ≤ 999) ∨ (A 18 cn ≠ 2 ∧ ((wh = 3 ∧ 0 ≤ v ∧ v ≤ 15) ∨ (wh = 4 ∧ 1 ≤ v ∧ v ≤ 30))) := q.2; omega)]
                exact e_iret (pc := 106) dX8_cost_106 rfl (by rw [← hQ_]; exact ⟨by rw [zan], by rw [znx]; exact hM, Fr.rf⟩)
            · skip
              exact absurd h24 (by decide)
  · rw [if_neg zc]
    refine e_if_eq (pc := 5) (tgt := 96) dX8_cost_5 rfl (fun h5 => ?_) (fun h5 => ?_)
    · skip
      refine e_iconst (pc := 96) dX8_cost_96 (by decide) ?_
      refine e_istore (pc := 97) (lo' := [(2, 49), (0, comer), (0, wh), (0, v), (0, 0), (3, 0)]) dX8_cost_97 rfl (by decide) rfl ?_
      refine e_iload (pc := 99) dX8_cost_99 rfl ?_
      refine e_if_ne (pc := 101) (tgt := 107) dX8_cost_101 rfl (fun h101 => ?_) (fun h101 => ?_)
      · skip
        exact absurd h101 (by decide)
      · skip
        refine e_bipush (pc := 104) dX8_cost_104 rfl (by decide) ?_
        have zan : an_cost A comer wh v = -2 := by unfold an_cost; rw [if_neg (fun q => zc q.1)]
        have znx : nx_cost A comer wh v = A := by unfold nx_cost; rw [if_neg (fun q => zc q.1)]
        exact e_iret (pc := 106) dX8_cost_106 rfl (by rw [← hQ_]; exact ⟨by rw [zan], by rw [znx]; exact hM, Fr.rf⟩)
    · skip
      exact absurd h5 (by decide)

theorem m_comer (G : Gm) (A mem : Mem) (kind a b : Int) (hI : CI A) (hM : MI A mem) : Con G mX8_comer [(2, 49), (0, kind), (0, a), (0, b)] mem (fun r m' => r = some (0, an_comer A kind a b) ∧ MI (nx_comer A kind a b) m' ∧ Fr scZ mem m') := by
  refine Con.of (lo := [(2, 49), (0, kind), (0, a), (0, b), (3, 0)]) (by decide +kernel) (Nat.le_of_ble_eq_true rfl) rfl ?_
  generalize hQ_ : (fun r m' => r = some (0, an_comer A kind a b) ∧ MI (nx_comer A kind a b) m' ∧ Fr scZ mem m' : Option AV → Mem → Prop) = Q_
  have C87 : ((kind = 0 ∧ (0 ≤ a ∧ a ≤ 60) ∧ b = 0) ∨ (kind = 1 ∧ a = 0 ∧ b = 0) ∨ (kind = 2 ∧ (1 ≤ a ∧ a ≤ 30) ∧ 1 ≤ b ∧ b ≤ 7)) → Ev G mX8_comer Q_ 87 [(2, 49), (0, kind), (0, a), (0, b), (3, 0)] [] mem := by
    intro zgd
    obtain ⟨n, zn1, zn2, _⟩ := hI.2.2.2.2.1
    have zn3 := hM.1.1.trans zn1
    refine e_aloadn (pc := 87) dX8_comer_87 rfl rfl ?_
    refine e_getiv (pc := 88) (v := (n : Int)) dX8_comer_88 fX8_99 s_49 rfl (by decide) (zn3) ?_
    refine e_bipush (pc := 91) dX8_comer_91 rfl (by decide) ?_
    refine e_icmp_ne (pc := 93) (tgt := 99) dX8_comer_93 rfl (fun h93 => ?_) (fun h93 => ?_)
    · skip
      refine e_aloadn (pc := 99) dX8_comer_99 rfl rfl ?_
      refine e_getr (pc := 100) (k := 50) dX8_comer_100 fX8_7 s_49 rfl (by decide) ?_
      refine e_aloadn (pc := 103) dX8_comer_103 rfl rfl ?_
      refine e_getiv (pc := 104) (v := (n : Int)) dX8_comer_104 fX8_99 s_49 rfl (by decide) (zn3) ?_
      refine e_iloadn (pc := 107) dX8_comer_107 rfl rfl ?_
      refine e_iastm (pc := 108) (mem2 := mset mem 50 n kind) dX8_comer_108 s_50 (by omega) rfl ?_
      refine e_aloadn (pc := 109) dX8_comer_109 rfl rfl ?_
      refine e_getr (pc := 110) (k := 51) dX8_comer_110 fX8_13 s_49 rfl (by decide) ?_
      refine e_aloadn (pc := 113) dX8_comer_113 rfl rfl ?_
      refine e_getiv (pc := 114) (v := (n : Int)) dX8_comer_114 fX8_99 s_49 rfl (by decide) (zn3) ?_
      refine e_iloadn (pc := 117) dX8_comer_117 rfl rfl ?_
      refine e_iastm (pc := 118) (mem2 := mset (mset mem 50 n kind) 51 n a) dX8_comer_118 s_51 (by omega) rfl ?_
      refine e_aloadn (pc := 119) dX8_comer_119 rfl rfl ?_
      refine e_getr (pc := 120) (k := 52) dX8_comer_120 fX8_16 s_49 rfl (by decide) ?_
      refine e_aloadn (pc := 123) dX8_comer_123 rfl rfl ?_
      refine e_getiv (pc := 124) (v := (n : Int)) dX8_comer_124 fX8_99 s_49 rfl (by decide) (zn3) ?_
      refine e_iloadn (pc := 127) dX8_comer_127 rfl rfl ?_
      refine e_iastm (pc := 128) (mem2 := mset (mset (mset mem 50 n kind) 51 n a) 52 n b) dX8_comer_128 s_52 (by omega) rfl ?_
      refine e_aloadn (pc := 129) dX8_comer_129 rfl rfl ?_
      refine e_getr (pc := 130) (k := 53) dX8_comer_130 fX8_19 s_49 rfl (by decide) ?_
      refine e_aloadn (pc := 133) dX8_comer_133 rfl rfl ?_
      refine e_getiv (pc := 134) (v := (n : Int)) dX8_comer_134 fX8_99 s_49 rfl (by decide) (zn3) ?_
      refine e_iconst (pc := 137) dX8_comer_137 (by decide) ?_
      refine e_iastm (pc := 138) (mem2 := mset (mset (mset (mset mem 50 n kind) 51 n a) 52 n b) 53 n 1) dX8_comer_138 s_53 (by omega) rfl ?_
      refine e_aloadn (pc := 139) dX8_comer_139 rfl rfl ?_
      refine e_getr (pc := 140) (k := 54) dX8_comer_140 fX8_22 s_49 rfl (by decide) ?_
      refine e_aloadn (pc := 143) dX8_comer_143 rfl rfl ?_
      refine e_getiv (pc := 144) (v := (n : Int)) dX8_comer_144 fX8_99 s_49 rfl (by decide) (zn3) ?_
      refine e_iconst (pc := 147) dX8_comer_147 (by decide) ?_
      refine e_iastm (pc := 148) (mem2 := mset (mset (mset (mset (mset mem 50 n kind) 51 n a) 52 n b) 53 n 1) 54 n 1) dX8_comer_148 s_54 (by omega) rfl ?_
      refine e_aloadn (pc := 149) dX8_comer_149 rfl rfl ?_
      refine e_getr (pc := 150) (k := 55) dX8_comer_150 fX8_25 s_49 rfl (by decide) ?_
      refine e_aloadn (pc := 153) dX8_comer_153 rfl rfl ?_
      refine e_getiv (pc := 154) (v := (n : Int)) dX8_comer_154 fX8_99 s_49 rfl (by decide) (zn3) ?_
      refine e_bipush (pc := 157) dX8_comer_157 rfl (by decide) ?_
      refine e_iastm (pc := 159) (mem2 := mset (mset (mset (mset (mset (mset mem 50 n kind) 51 n a) 52 n b) 53 n 1) 54 n 1) 55 n 100) dX8_comer_159 s_55 (by omega) rfl ?_
      refine e_aloadn (pc := 160) dX8_comer_160 rfl rfl ?_
      refine e_getr (pc := 161) (k := 56) dX8_comer_161 fX8_28 s_49 rfl (by decide) ?_
      refine e_aloadn (pc := 164) dX8_comer_164 rfl rfl ?_
      refine e_getiv (pc := 165) (v := (n : Int)) dX8_comer_165 fX8_99 s_49 rfl (by decide) (zn3) ?_
      refine e_iconst (pc := 168) dX8_comer_168 (by decide) ?_
      refine e_iastm (pc := 169) (mem2 := mset (mset (mset (mset (mset (mset (mset mem 50 n kind) 51 n a) 52 n b) 53 n 1) 54 n 1) 55 n 100) 56 n 0) dX8_comer_169 s_56 (by omega) rfl ?_
      refine e_aloadn (pc := 170) dX8_comer_170 rfl rfl ?_
      refine e_getr (pc := 171) (k := 57) dX8_comer_171 fX8_31 s_49 rfl (by decide) ?_
      refine e_aloadn (pc := 174) dX8_comer_174 rfl rfl ?_
      refine e_getiv (pc := 175) (v := (n : Int)) dX8_comer_175 fX8_99 s_49 rfl (by decide) (zn3) ?_
      refine e_iconst (pc := 178) dX8_comer_178 (by decide) ?_
      refine e_iastm (pc := 179) (mem2 := mset (mset (mset (mset (mset (mset (mset (mset mem 50 n kind) 51 n a) 52 n b) 53 n 1) 54 n 1) 55 n 100) 56 n 0) 57 n 5) dX8_comer_179 s_57 (by omega) rfl ?_
      refine e_aloadn (pc := 180) dX8_comer_180 rfl rfl ?_
      refine e_dup (pc := 181) dX8_comer_181 rfl ?_
      refine e_getiv (pc := 182) (v := (n : Int)) dX8_comer_182 fX8_99 s_49 rfl (by decide) (zn3) ?_
      refine e_iconst (pc := 185) dX8_comer_185 (by decide) ?_
      refine e_iaddn (pc := 186) dX8_comer_186 (by omega) ?_
      refine e_putI (pc := 187) (mem2 := mset (mset (mset (mset (mset (mset (mset (mset (mset mem 50 n kind) 51 n a) 52 n b) 53 n 1) 54 n 1) 55 n 100) 56 n 0) 57 n 5) 49 0 ((n : Int) + 1)) dX8_comer_187 fX8_99 s_49 rfl (by decide) pw_8_0 rfl ?_
      refine e_aloadn (pc := 190) dX8_comer_190 rfl rfl ?_
      refine e_getiv (pc := 191) (v := ((n : Int) + 1)) dX8_comer_191 fX8_99 s_49 rfl (by decide) (rfl) ?_
      refine e_iconst (pc := 194) dX8_comer_194 (by decide) ?_
      refine e_isubn (pc := 195) dX8_comer_195 (by omega) ?_
      have zan : an_comer A kind a b = (n : Int) + 1 - 1 := by unfold an_comer; rw [if_pos zgd, if_pos (by omega)]; omega
      have zmi : MI (nx_comer A kind a b) (nwC mem n kind a b) := by
        unfold nx_comer
        rw [if_pos ⟨zgd, by omega⟩, zn1]
        exact hM.comer hI zn1 (by omega) (by omega)
      exact e_iret (pc := 196) dX8_comer_196 rfl (by rw [← hQ_]; exact ⟨congrArg (fun z => some ((0 : Nat), z)) zan.symm, zmi, (((((((((Fr.rf.ms rfl).ms rfl).ms rfl).ms rfl).ms rfl).ms rfl).ms rfl).ms rfl).ms rfl)⟩)
    · skip
      refine e_bipush (pc := 96) dX8_comer_96 rfl (by decide) ?_
      have zan : an_comer A kind a b = -4 := by unfold an_comer; rw [if_pos zgd, if_neg (by omega)]
      have znx : nx_comer A kind a b = A := by unfold nx_comer; rw [if_neg (fun q => by have := q.2; omega)]
      exact e_iret (pc := 98) dX8_comer_98 rfl (by rw [← hQ_]; exact ⟨by rw [zan], by rw [znx]; exact hM, Fr.rf⟩)
  refine e_iloadn (pc := 0) dX8_comer_0 rfl rfl ?_
  refine e_if_ne (pc := 1) (tgt := 26) dX8_comer_1 rfl (fun h1 => ?_) (fun h1 => ?_)
  · skip
    refine e_iloadn (pc := 26) dX8_comer_26 rfl rfl ?_
    refine e_iconst (pc := 27) dX8_comer_27 (by decide) ?_
    refine e_icmp_ne (pc := 28) (tgt := 47) dX8_comer_28 rfl (fun h28 => ?_) (fun h28 => ?_)
    · skip
      refine e_iloadn (pc := 47) dX8_comer_47 rfl rfl ?_
      refine e_iconst (pc := 48) dX8_comer_48 (by decide) ?_
      refine e_icmp_ne (pc := 49) (tgt := 76) dX8_comer_49 rfl (fun h49 => ?_) (fun h49 => ?_)
      · skip
        refine e_iconst (pc := 76) dX8_comer_76 (by decide) ?_
        have zng : ¬ ((kind = 0 ∧ (0 ≤ a ∧ a ≤ 60) ∧ b = 0) ∨ (kind = 1 ∧ a = 0 ∧ b = 0) ∨ (kind = 2 ∧ (1 ≤ a ∧ a ≤ 30) ∧ 1 ≤ b ∧ b ≤ 7)) := by omega
        refine e_istore (pc := 77) (lo' := [(2, 49), (0, kind), (0, a), (0, b), (0, 0)]) dX8_comer_77 rfl (by decide) rfl ?_
        refine e_iload (pc := 79) dX8_comer_79 rfl ?_
        refine e_if_ne (pc := 81) (tgt := 87) dX8_comer_81 rfl (fun h81 => ?_) (fun h81 => ?_)
        · skip
          exact absurd h81 (by decide)
        · skip
          refine e_bipush (pc := 84) dX8_comer_84 rfl (by decide) ?_
          have zan : an_comer A kind a b = -2 := by unfold an_comer; rw [if_neg zng]
          have znx : nx_comer A kind a b = A := by unfold nx_comer; rw [if_neg (fun q => zng q.1)]
          exact e_iret (pc := 86) dX8_comer_86 rfl (by rw [← hQ_]; exact ⟨by rw [zan], by rw [znx]; exact hM, Fr.rf⟩)
      · skip
        refine e_iloadn (pc := 52) dX8_comer_52 rfl rfl ?_
        refine e_iconst (pc := 53) dX8_comer_53 (by decide) ?_
        refine e_bipush (pc := 54) dX8_comer_54 rfl (by decide) ?_
        refine e_callSr (pc := 56) (as := [(0, a), (0, 1), (0, 30)]) (st := []) (v := (0, if 1 ≤ a ∧ a ≤ 30 then 1 else 0)) (m_in G (mem) a 1 30) dX8_comer_56 lX8_comer_95 rfl rfl rfl ?_
        by_cases zc56 : 1 ≤ a ∧ a ≤ 30
        · rw [if_pos zc56]
          refine e_if_eq (pc := 59) (tgt := 76) dX8_comer_59 rfl (fun h59 => ?_) (fun h59 => ?_)
          · skip
            exact absurd h59 (by decide)
          · skip
            refine e_iloadn (pc := 62) dX8_comer_62 rfl rfl ?_
            refine e_iconst (pc := 63) dX8_comer_63 (by decide) ?_
            refine e_bipush (pc := 64) dX8_comer_64 rfl (by decide) ?_
            refine e_callSr (pc := 66) (as := [(0, b), (0, 1), (0, 7)]) (st := []) (v := (0, if 1 ≤ b ∧ b ≤ 7 then 1 else 0)) (m_in G (mem) b 1 7) dX8_comer_66 lX8_comer_95 rfl rfl rfl ?_
            by_cases zc66 : 1 ≤ b ∧ b ≤ 7
            · rw [if_pos zc66]
              refine e_if_eq (pc := 69) (tgt := 76) dX8_comer_69 rfl (fun h69 => ?_) (fun h69 => ?_)
              · skip
                exact absurd h69 (by decide)
              · skip
                refine e_iconst (pc := 72) dX8_comer_72 (by decide) ?_
                refine e_goto (pc := 73) (tgt := 77) dX8_comer_73 rfl ?_
                have zgd : (kind = 0 ∧ (0 ≤ a ∧ a ≤ 60) ∧ b = 0) ∨ (kind = 1 ∧ a = 0 ∧ b = 0) ∨ (kind = 2 ∧ (1 ≤ a ∧ a ≤ 30) ∧ 1 ≤ b ∧ b ≤ 7) := by omega
                refine e_istore (pc := 77) (lo' := [(2, 49), (0, kind), (0, a), (0, b), (0, 1)]) dX8_comer_77 rfl (by decide) rfl ?_
                refine e_iload (pc := 79) dX8_comer_79 rfl ?_
                refine e_if_ne (pc := 81) (tgt := 87) dX8_comer_81 rfl (fun h81 => ?_) (fun h81 => ?_)
                · skip
                  refine Ev.fgt [4] ?_
                  exact Ev.to (C87  (zgd)) rfl rfl rfl
                · skip
                  exact absurd h81 (by decide)
            · rw [if_neg zc66]
              refine e_if_eq (pc := 69) (tgt := 76) dX8_comer_69 rfl (fun h69 => ?_) (fun h69 => ?_)
              · skip
                refine e_iconst (pc := 76) dX8_comer_76 (by decide) ?_
                have zng : ¬ ((kind = 0 ∧ (0 ≤ a ∧ a ≤ 60) ∧ b = 0) ∨ (kind = 1 ∧ a = 0 ∧ b = 0) ∨ (kind = 2 ∧ (1 ≤ a ∧ a ≤ 30) ∧ 1 ≤ b ∧ b ≤ 7)) := by omega
                refine e_istore (pc := 77) (lo' := [(2, 49), (0, kind), (0, a), (0, b), (0, 0)]) dX8_comer_77 rfl (by decide) rfl ?_
                refine e_iload (pc := 79) dX8_comer_79 rfl ?_
                refine e_if_ne (pc := 81) (tgt := 87) dX8_comer_81 rfl (fun h81 => ?_) (fun h81 => ?_)
                · skip
                  exact absurd h81 (by decide)
                · skip
                  refine e_bipush (pc := 84) dX8_comer_84 rfl (by decide) ?_
                  have zan : an_comer A kind a b = -2 := by unfold an_comer; rw [if_neg zng]
                  have znx : nx_comer A kind a b = A := by unfold nx_comer; rw [if_neg (fun q => zng q.1)]
                  exact e_iret (pc := 86) dX8_comer_86 rfl (by rw [← hQ_]; exact ⟨by rw [zan], by rw [znx]; exact hM, Fr.rf⟩)
              · skip
                exact absurd h69 (by decide)
        · rw [if_neg zc56]
          refine e_if_eq (pc := 59) (tgt := 76) dX8_comer_59 rfl (fun h59 => ?_) (fun h59 => ?_)
          · skip
            refine e_iconst (pc := 76) dX8_comer_76 (by decide) ?_
            have zng : ¬ ((kind = 0 ∧ (0 ≤ a ∧ a ≤ 60) ∧ b = 0) ∨ (kind = 1 ∧ a = 0 ∧ b = 0) ∨ (kind = 2 ∧ (1 ≤ a ∧ a ≤ 30) ∧ 1 ≤ b ∧ b ≤ 7)) := by omega
            refine e_istore (pc := 77) (lo' := [(2, 49), (0, kind), (0, a), (0, b), (0, 0)]) dX8_comer_77 rfl (by decide) rfl ?_
            refine e_iload (pc := 79) dX8_comer_79 rfl ?_
            refine e_if_ne (pc := 81) (tgt := 87) dX8_comer_81 rfl (fun h81 => ?_) (fun h81 => ?_)
            · skip
              exact absurd h81 (by decide)
            · skip
              refine e_bipush (pc := 84) dX8_comer_84 rfl (by decide) ?_
              have zan : an_comer A kind a b = -2 := by unfold an_comer; rw [if_neg zng]
              have znx : nx_comer A kind a b = A := by unfold nx_comer; rw [if_neg (fun q => zng q.1)]
              exact e_iret (pc := 86) dX8_comer_86 rfl (by rw [← hQ_]; exact ⟨by rw [zan], by rw [znx]; exact hM, Fr.rf⟩)
          · skip
            exact absurd h59 (by decide)
    · skip
      refine e_iloadn (pc := 31) dX8_comer_31 rfl rfl ?_
      refine e_if_ne (pc := 32) (tgt := 43) dX8_comer_32 rfl (fun h32 => ?_) (fun h32 => ?_)
      · skip
        refine e_iconst (pc := 43) dX8_comer_43 (by decide) ?_
        refine e_goto (pc := 44) (tgt := 77) dX8_comer_44 rfl ?_
        have zng : ¬ ((kind = 0 ∧ (0 ≤ a ∧ a ≤ 60) ∧ b = 0) ∨ (kind = 1 ∧ a = 0 ∧ b = 0) ∨ (kind = 2 ∧ (1 ≤ a ∧ a ≤ 30) ∧ 1 ≤ b ∧ b ≤ 7)) := by omega
        refine e_istore (pc := 77) (lo' := [(2, 49), (0, kind), (0, a), (0, b), (0, 0)]) dX8_comer_77 rfl (by decide) rfl ?_
        refine e_iload (pc := 79) dX8_comer_79 rfl ?_
        refine e_if_ne (pc := 81) (tgt := 87) dX8_comer_81 rfl (fun h81 => ?_) (fun h81 => ?_)
        · skip
          exact absurd h81 (by decide)
        · skip
          refine e_bipush (pc := 84) dX8_comer_84 rfl (by decide) ?_
          have zan : an_comer A kind a b = -2 := by unfold an_comer; rw [if_neg zng]
          have znx : nx_comer A kind a b = A := by unfold nx_comer; rw [if_neg (fun q => zng q.1)]
          exact e_iret (pc := 86) dX8_comer_86 rfl (by rw [← hQ_]; exact ⟨by rw [zan], by rw [znx]; exact hM, Fr.rf⟩)
      · skip
        refine e_iloadn (pc := 35) dX8_comer_35 rfl rfl ?_
        refine e_if_ne (pc := 36) (tgt := 43) dX8_comer_36 rfl (fun h36 => ?_) (fun h36 => ?_)
        · skip
          refine e_iconst (pc := 43) dX8_comer_43 (by decide) ?_
          refine e_goto (pc := 44) (tgt := 77) dX8_comer_44 rfl ?_
          have zng : ¬ ((kind = 0 ∧ (0 ≤ a ∧ a ≤ 60) ∧ b = 0) ∨ (kind = 1 ∧ a = 0 ∧ b = 0) ∨ (kind = 2 ∧ (1 ≤ a ∧ a ≤ 30) ∧ 1 ≤ b ∧ b ≤ 7)) := by omega
          refine e_istore (pc := 77) (lo' := [(2, 49), (0, kind), (0, a), (0, b), (0, 0)]) dX8_comer_77 rfl (by decide) rfl ?_
          refine e_iload (pc := 79) dX8_comer_79 rfl ?_
          refine e_if_ne (pc := 81) (tgt := 87) dX8_comer_81 rfl (fun h81 => ?_) (fun h81 => ?_)
          · skip
            exact absurd h81 (by decide)
          · skip
            refine e_bipush (pc := 84) dX8_comer_84 rfl (by decide) ?_
            have zan : an_comer A kind a b = -2 := by unfold an_comer; rw [if_neg zng]
            have znx : nx_comer A kind a b = A := by unfold nx_comer; rw [if_neg (fun q => zng q.1)]
            exact e_iret (pc := 86) dX8_comer_86 rfl (by rw [← hQ_]; exact ⟨by rw [zan], by rw [znx]; exact hM, Fr.rf⟩)
        · skip
          refine e_iconst (pc := 39) dX8_comer_39 (by decide) ?_
          refine e_goto (pc := 40) (tgt := 77) dX8_comer_40 rfl ?_
          have zgd : (kind = 0 ∧ (0 ≤ a ∧ a ≤ 60) ∧ b = 0) ∨ (kind = 1 ∧ a = 0 ∧ b = 0) ∨ (kind = 2 ∧ (1 ≤ a ∧ a ≤ 30) ∧ 1 ≤ b ∧ b ≤ 7) := by omega
          refine e_istore (pc := 77) (lo' := [(2, 49), (0, kind), (0, a), (0, b), (0, 1)]) dX8_comer_77 rfl (by decide) rfl ?_
          refine e_iload (pc := 79) dX8_comer_79 rfl ?_
          refine e_if_ne (pc := 81) (tgt := 87) dX8_comer_81 rfl (fun h81 => ?_) (fun h81 => ?_)
          · skip
            refine Ev.fgt [4] ?_
            exact Ev.to (C87  (zgd)) rfl rfl rfl
          · skip
            exact absurd h81 (by decide)
  · skip
    refine e_iloadn (pc := 4) dX8_comer_4 rfl rfl ?_
    refine e_iconst (pc := 5) dX8_comer_5 (by decide) ?_
    refine e_bipush (pc := 6) dX8_comer_6 rfl (by decide) ?_
    refine e_callSr (pc := 8) (as := [(0, a), (0, 0), (0, 60)]) (st := []) (v := (0, if 0 ≤ a ∧ a ≤ 60 then 1 else 0)) (m_in G (mem) a 0 60) dX8_comer_8 lX8_comer_95 rfl rfl rfl ?_
    by_cases zc8 : 0 ≤ a ∧ a ≤ 60
    · rw [if_pos zc8]
      refine e_if_eq (pc := 11) (tgt := 22) dX8_comer_11 rfl (fun h11 => ?_) (fun h11 => ?_)
      · skip
        exact absurd h11 (by decide)
      · skip
        refine e_iloadn (pc := 14) dX8_comer_14 rfl rfl ?_
        refine e_if_ne (pc := 15) (tgt := 22) dX8_comer_15 rfl (fun h15 => ?_) (fun h15 => ?_)
        · skip
          refine e_iconst (pc := 22) dX8_comer_22 (by decide) ?_
          refine e_goto (pc := 23) (tgt := 77) dX8_comer_23 rfl ?_
          have zng : ¬ ((kind = 0 ∧ (0 ≤ a ∧ a ≤ 60) ∧ b = 0) ∨ (kind = 1 ∧ a = 0 ∧ b = 0) ∨ (kind = 2 ∧ (1 ≤ a ∧ a ≤ 30) ∧ 1 ≤ b ∧ b ≤ 7)) := by omega
          refine e_istore (pc := 77) (lo' := [(2, 49), (0, kind), (0, a), (0, b), (0, 0)]) dX8_comer_77 rfl (by decide) rfl ?_
          refine e_iload (pc := 79) dX8_comer_79 rfl ?_
          refine e_if_ne (pc := 81) (tgt := 87) dX8_comer_81 rfl (fun h81 => ?_) (fun h81 => ?_)
          · skip
            exact absurd h81 (by decide)
          · skip
            refine e_bipush (pc := 84) dX8_comer_84 rfl (by decide) ?_
            have zan : an_comer A kind a b = -2 := by unfold an_comer; rw [if_neg zng]
            have znx : nx_comer A kind a b = A := by unfold nx_comer; rw [if_neg (fun q => zng q.1)]
            exact e_iret (pc := 86) dX8_comer_86 rfl (by rw [← hQ_]; exact ⟨by rw [zan], by rw [znx]; exact hM, Fr.rf⟩)
        · skip
          refine e_iconst (pc := 18) dX8_comer_18 (by decide) ?_
          refine e_goto (pc := 19) (tgt := 77) dX8_comer_19 rfl ?_
          have zgd : (kind = 0 ∧ (0 ≤ a ∧ a ≤ 60) ∧ b = 0) ∨ (kind = 1 ∧ a = 0 ∧ b = 0) ∨ (kind = 2 ∧ (1 ≤ a ∧ a ≤ 30) ∧ 1 ≤ b ∧ b ≤ 7) := by omega
          refine e_istore (pc := 77) (lo' := [(2, 49), (0, kind), (0, a), (0, b), (0, 1)]) dX8_comer_77 rfl (by decide) rfl ?_
          refine e_iload (pc := 79) dX8_comer_79 rfl ?_
          refine e_if_ne (pc := 81) (tgt := 87) dX8_comer_81 rfl (fun h81 => ?_) (fun h81 => ?_)
          · skip
            refine Ev.fgt [4] ?_
            exact Ev.to (C87  (zgd)) rfl rfl rfl
          · skip
            exact absurd h81 (by decide)
    · rw [if_neg zc8]
      refine e_if_eq (pc := 11) (tgt := 22) dX8_comer_11 rfl (fun h11 => ?_) (fun h11 => ?_)
      · skip
        refine e_iconst (pc := 22) dX8_comer_22 (by decide) ?_
        refine e_goto (pc := 23) (tgt := 77) dX8_comer_23 rfl ?_
        have zng : ¬ ((kind = 0 ∧ (0 ≤ a ∧ a ≤ 60) ∧ b = 0) ∨ (kind = 1 ∧ a = 0 ∧ b = 0) ∨ (kind = 2 ∧ (1 ≤ a ∧ a ≤ 30) ∧ 1 ≤ b ∧ b ≤ 7)) := by omega
        refine e_istore (pc := 77) (lo' := [(2, 49), (0, kind), (0, a), (0, b), (0, 0)]) dX8_comer_77 rfl (by decide) rfl ?_
        refine e_iload (pc := 79) dX8_comer_79 rfl ?_
        refine e_if_ne (pc := 81) (tgt := 87) dX8_comer_81 rfl (fun h81 => ?_) (fun h81 => ?_)
        · skip
          exact absurd h81 (by decide)
        · skip
          refine e_bipush (pc := 84) dX8_comer_84 rfl (by decide) ?_
          have zan : an_comer A kind a b = -2 := by unfold an_comer; rw [if_neg zng]
          have znx : nx_comer A kind a b = A := by unfold nx_comer; rw [if_neg (fun q => zng q.1)]
          exact e_iret (pc := 86) dX8_comer_86 rfl (by rw [← hQ_]; exact ⟨by rw [zan], by rw [znx]; exact hM, Fr.rf⟩)
      · skip
        exact absurd h11 (by decide)

theorem m_type (G : Gm) (A B mem : Mem) (b : Int) (hI : CI A) (hM : MI A mem) (hT : TyR A B b) : Con G mX8_type [(2, 49), (0, b)] mem (fun r m' => r = some (0, an_type A b) ∧ MI B m' ∧ Fr scZ mem m') := by
  refine Con.of (lo := [(2, 49), (0, b)]) (by decide +kernel) (Nat.le_of_ble_eq_true rfl) rfl ?_
  generalize hQ_ : (fun r m' => r = some (0, an_type A b) ∧ MI B m' ∧ Fr scZ mem m' : Option AV → Mem → Prop) = Q_
  obtain ⟨L, zL1, zL2, _⟩ := hI.2.2.2.1
  have zL3 := hM.2.2.1.1.trans zL1
  refine e_iloadn (pc := 0) dX8_type_0 rfl rfl ?_
  refine e_iconst (pc := 1) dX8_type_1 (by decide) ?_
  refine e_sipush (pc := 2) dX8_type_2 rfl (by decide) ?_
  refine e_callSr (pc := 5) (as := [(0, b), (0, 0), (0, 255)]) (st := []) (v := (0, if 0 ≤ b ∧ b ≤ 255 then 1 else 0)) (m_in G (mem) b 0 255) dX8_type_5 lX8_type_95 rfl rfl rfl ?_
  by_cases zc5 : 0 ≤ b ∧ b ≤ 255
  · rw [if_pos zc5]
    refine e_if_ne (pc := 8) (tgt := 14) dX8_type_8 rfl (fun h8 => ?_) (fun h8 => ?_)
    · skip
      refine e_aloadn (pc := 14) dX8_type_14 rfl rfl ?_
      refine e_getiv (pc := 15) (v := (L : Int)) dX8_type_15 fX8_126 s_49 rfl (by decide) (zL3) ?_
      refine e_bipush (pc := 18) dX8_type_18 rfl (by decide) ?_
      refine e_icmp_ne (pc := 20) (tgt := 26) dX8_type_20 rfl (fun h20 => ?_) (fun h20 => ?_)
      · skip
        refine e_aloadn (pc := 26) dX8_type_26 rfl rfl ?_
        refine e_getr (pc := 27) (k := 58) dX8_type_27 fX8_34 s_49 rfl (by decide) ?_
        refine e_aloadn (pc := 30) dX8_type_30 rfl rfl ?_
        refine e_getiv (pc := 31) (v := (L : Int)) dX8_type_31 fX8_126 s_49 rfl (by decide) (zL3) ?_
        refine e_iloadn (pc := 34) dX8_type_34 rfl rfl ?_
        refine e_iastm (pc := 35) (mem2 := mset mem 58 L b) dX8_type_35 s_58 (by omega) rfl ?_
        refine e_aloadn (pc := 36) dX8_type_36 rfl rfl ?_
        refine e_dup (pc := 37) dX8_type_37 rfl ?_
        refine e_getiv (pc := 38) (v := (L : Int)) dX8_type_38 fX8_126 s_49 rfl (by decide) (zL3) ?_
        refine e_iconst (pc := 41) dX8_type_41 (by decide) ?_
        refine e_iaddn (pc := 42) dX8_type_42 (by omega) ?_
        refine e_putI (pc := 43) (mem2 := mset (mset mem 58 L b) 49 12 ((L : Int) + 1)) dX8_type_43 fX8_126 s_49 rfl (by decide) pw_8_12 rfl ?_
        refine e_aloadn (pc := 46) dX8_type_46 rfl rfl ?_
        refine e_iconst (pc := 47) dX8_type_47 (by decide) ?_
        refine e_putZ (pc := 48) (mem2 := mset (mset (mset mem 58 L b) 49 12 ((L : Int) + 1)) 49 14 0) dX8_type_48 fX8_129 s_49 rfl (by decide) pw_8_14 (by decide) rfl ?_
        refine e_aloadn (pc := 51) dX8_type_51 rfl rfl ?_
        refine e_getiv (pc := 52) (v := ((L : Int) + 1)) dX8_type_52 fX8_126 s_49 rfl (by decide) (rfl) ?_
        have zan : an_type A b = (L : Int) + 1 := by unfold an_type; rw [if_pos zc5, if_pos (by omega), zL1]
        unfold TyR at hT
        rw [if_pos (by omega)] at hT
        obtain ⟨zt1, zt2, zt3, zt4⟩ := hT
        rw [zL1] at zt3
        exact e_iret (pc := 55) dX8_type_55 rfl (by rw [← hQ_]; exact ⟨by rw [zan], hM.type zL1 zt1 zt2 zt3, (((Fr.rf.ms rfl).ms rfl).ms rfl)⟩)
      · skip
        refine e_bipush (pc := 23) dX8_type_23 rfl (by decide) ?_
        have zan : an_type A b = -4 := by unfold an_type; rw [if_pos zc5, if_neg (by omega)]
        have zB : B = A := by unfold TyR at hT; rw [if_neg (by omega)] at hT; exact hT
        exact e_iret (pc := 25) dX8_type_25 rfl (by rw [← hQ_]; exact ⟨by rw [zan], by rw [zB]; exact hM, Fr.rf⟩)
    · skip
      exact absurd h8 (by decide)
  · rw [if_neg zc5]
    refine e_if_ne (pc := 8) (tgt := 14) dX8_type_8 rfl (fun h8 => ?_) (fun h8 => ?_)
    · skip
      exact absurd h8 (by decide)
    · skip
      refine e_bipush (pc := 11) dX8_type_11 rfl (by decide) ?_
      have zan : an_type A b = -2 := by unfold an_type; rw [if_neg zc5]
      have zB : B = A := by unfold TyR at hT; rw [if_neg (by omega)] at hT; exact hT
      exact e_iret (pc := 13) dX8_type_13 rfl (by rw [← hQ_]; exact ⟨by rw [zan], by rw [zB]; exact hM, Fr.rf⟩)

theorem m_wipe (G : Gm) (A B mem : Mem) (hM : MI A mem) (hB : Fr scT A B) (h0 : B 10 0 = ((0 : Nat) : Int)) (h1 : B 11 = A 11) : Con G mX8_wipe [(2, 49)] mem (fun r m' => r = some (0, A 10 0) ∧ MI B m' ∧ Fr scZ mem m') := by
  refine Con.of (lo := [(2, 49), (3, 0)]) (by decide +kernel) (Nat.le_of_ble_eq_true rfl) rfl ?_
  generalize hQ_ : (fun r m' => r = some (0, A 10 0) ∧ MI B m' ∧ Fr scZ mem m' : Option AV → Mem → Prop) = Q_
  refine e_aloadn (pc := 0) dX8_wipe_0 rfl rfl ?_
  refine e_getiv (pc := 1) (v := (A 10 0)) dX8_wipe_1 fX8_126 s_49 rfl (by decide) (hM.2.2.1.1) ?_
  refine e_istoren (pc := 4) (lo' := [(2, 49), (0, (A 10 0))]) dX8_wipe_4 rfl rfl (by decide) rfl ?_
  refine e_aloadn (pc := 5) dX8_wipe_5 rfl rfl ?_
  refine e_iconst (pc := 6) dX8_wipe_6 (by decide) ?_
  refine e_putI (pc := 7) (mem2 := mset mem 49 12 0) dX8_wipe_7 fX8_126 s_49 rfl (by decide) pw_8_12 rfl ?_
  refine e_aloadn (pc := 10) dX8_wipe_10 rfl rfl ?_
  refine e_iconst (pc := 11) dX8_wipe_11 (by decide) ?_
  refine e_putZ (pc := 12) (mem2 := mset (mset mem 49 12 0) 49 14 0) dX8_wipe_12 fX8_129 s_49 rfl (by decide) pw_8_14 (by decide) rfl ?_
  refine e_iloadn (pc := 15) dX8_wipe_15 rfl rfl ?_
  exact e_iret (pc := 16) dX8_wipe_16 rfl (by rw [← hQ_]; exact ⟨rfl, hM.wipe hB h0 h1, ((Fr.rf.ms rfl).ms rfl)⟩)

def smF (A : Mem) (wh : Int) (c : Nat) : Int := if wh = 7 then A 8 c else if A 18 c ≠ 0 then 0 else if wh = 1 then ((2 ^ c : Nat) : Int) else A 19 c
theorem smF_bd {A : Mem} (hI : CI A) (wh : Int) {c : Nat} (hc : c < 8) : 0 ≤ smF A wh c ∧ smF A wh c ≤ 256 := by
  have h1 := (hI.1 c hc).2.2.2.1
  have h2 := (hI.2.1.2 c hc).2.1
  have h3 : 2 ^ c ≤ 2 ^ 8 := Nat.pow_le_pow_right (by decide) (by omega)
  have h4 : 0 ≤ ((2 ^ c : Nat) : Int) ∧ ((2 ^ c : Nat) : Int) ≤ ((2 ^ 8 : Nat) : Int) := ⟨Int.natCast_nonneg _, Int.ofNat_le.mpr h3⟩
  unfold smF
  generalize ((2 ^ c : Nat) : Int) = y at h4
  (repeat' split) <;> omega
theorem bitsTo_sum (p : Nat → Bool) : ∀ k : Nat, ((bitsTo p k : Nat) : Int) = sumTo (fun c => if p c = true then ((2 ^ c : Nat) : Int) else 0) k
  | 0 => rfl
  | k + 1 => by
    have ih := bitsTo_sum p k
    have hl := bitsTo_lt p k
    show (((if p k = true then bitsTo p k ||| 2 ^ k else bitsTo p k) : Nat) : Int) = sumTo _ k + (if p k = true then ((2 ^ k : Nat) : Int) else 0)
    rw [← ih]
    by_cases q : p k = true
    · rw [if_pos q, if_pos q, Nat.or_comm]
      have e := Nat.two_pow_add_eq_or_of_lt hl 1
      rw [Nat.mul_one] at e
      rw [← e]; omega
    · rw [if_neg q, if_neg q]; omega
theorem sumTo_tail {f : Nat → Int} {n : Nat} : ∀ d : Nat, (∀ c, n ≤ c → c < n + d → f c = 0) → sumTo f (n + d) = sumTo f n
  | 0, _ => rfl
  | d + 1, h => by
    show sumTo f (n + d) + f (n + d) = _
    rw [sumTo_tail d (fun c h1 h2 => h c h1 (by omega)), h (n + d) (by omega) (by omega), Int.add_zero]
theorem smF_all {A : Mem} (hI : CI A) {n : Nat} (hn : A 1 0 = (n : Int)) {wh : Int} (hw : wh = 1 ∨ wh = 6 ∨ wh = 7) : sumTo (smF A wh) n = an_count A wh := by
  obtain ⟨n', g1, g2, g3⟩ := hI.2.2.2.2.1
  have e : sumTo (smF A wh) 8 = sumTo (smF A wh) n := by
    rw [show 8 = n + (8 - n) by omega]
    refine sumTo_tail (8 - n) (fun c h1 h2 => ?_)
    have k1 := (g3 c (by omega)).1
    have k2 := (g3 c (by omega)).2.1 (by omega)
    unfold smF
    by_cases q : wh = 7
    · rw [if_pos q]; exact k2.2.2.2.1
    · rw [if_neg q, if_pos (by omega)]
  rw [← e]
  unfold an_count
  rcases hw with rfl | rfl | rfl
  · rw [if_neg (by decide), if_pos rfl]
    unfold plB
    rw [bitsTo_sum]
    refine sumTo_congr (fun c hc => ?_)
    unfold smF
    rw [if_neg (by decide)]
    by_cases q : A 18 c = 0
    · rw [if_neg (fun z => z q), if_pos rfl, if_pos (by simpa using q)]
    · rw [if_pos q, if_neg (by simpa using q)]
  · rw [if_neg (by decide), if_neg (by decide), if_neg (by decide), if_neg (by decide), if_neg (by decide), if_neg (by decide), if_pos rfl]
    refine sumTo_congr (fun c hc => ?_)
    unfold smF
    rw [if_neg (by decide)]
    by_cases q : A 18 c = 0
    · rw [if_neg (fun z => z q), if_neg (by decide), if_pos q]
    · rw [if_pos q, if_neg q]
  · rw [if_neg (by decide), if_neg (by decide), if_neg (by decide), if_neg (by decide), if_neg (by decide), if_neg (by decide), if_neg (by decide), if_pos rfl]
    refine sumTo_congr (fun c hc => ?_)
    unfold smF
    rw [if_pos rfl]

theorem m_sumOf (G : Gm) (A mem : Mem) (wh : Int) (n : Nat) (hn : A 1 0 = (n : Int)) (hn8 : n ≤ 8) (hI : CI A) (hM : MI A mem) : Con G mX8_sumOf [(2, 49), (0, wh)] mem (fun r m' => r = some (0, sumTo (smF A wh) n) ∧ m' = mem) := by
  refine Con.of (lo := [(2, 49), (0, wh), (3, 0), (3, 0)]) (by decide +kernel) (Nat.le_of_ble_eq_true rfl) rfl ?_
  generalize hQ_ : (fun r m' => r = some (0, sumTo (smF A wh) n) ∧ m' = mem : Option AV → Mem → Prop) = Q_
  refine e_iconst (pc := 0) dX8_sumOf_0 (by decide) ?_
  refine e_istoren (pc := 1) (lo' := [(2, 49), (0, wh), (0, 0), (3, 0)]) dX8_sumOf_1 rfl rfl (by decide) rfl ?_
  refine e_iconst (pc := 2) dX8_sumOf_2 (by decide) ?_
  refine e_istoren (pc := 3) (lo' := [(2, 49), (0, wh), (0, 0), (0, 0)]) dX8_sumOf_3 rfl rfl (by decide) rfl ?_
  have L4 : ∀ (n_ : Nat) (k : Nat), 8 - k = n_ → (k ≤ n) → Ev G mX8_sumOf Q_ 4 [(2, 49), (0, wh), (0, sumTo (smF A wh) k), (0, (k : Int))] [] mem := by
    intro n_
    induction n_ using Nat.strongRecOn with
    | ind n_ ih4 =>
      intro k hn_ zk
      have zsb := sumTo_bd (f := smF A wh) (a := 0) (b := 256) (n := k) (fun j hj => smF_bd hI wh (by omega))
      refine e_iloadn (pc := 4) dX8_sumOf_4 rfl rfl ?_
      refine e_aloadn (pc := 5) dX8_sumOf_5 rfl rfl ?_
      refine e_getiv (pc := 6) (v := (n : Int)) dX8_sumOf_6 fX8_99 s_49 rfl (by decide) (hM.1.1.trans hn) ?_
      refine e_icmp_ge (pc := 9) (tgt := 66) dX8_sumOf_9 rfl (fun h9 => ?_) (fun h9 => ?_)
      · skip
        refine e_iloadn (pc := 66) dX8_sumOf_66 rfl rfl ?_
        have zke : k = n := by omega
        exact e_iret (pc := 67) dX8_sumOf_67 rfl (by rw [← hQ_, zke]; exact ⟨rfl, rfl⟩)
      · skip
        obtain ⟨⟨zq0, zq1, zq2⟩, zq3, zq4, zq5, zq6, zq7⟩ := hM.1.2 k (by omega) ((hI.cm hn (by omega)).mpr (by omega))
        have zb1 := smF_bd hI wh (c := k) (by omega)
        have zb2 := (hI.1 k (by omega)).2.2.2.1
        have zb3 := (hI.2.1.2 k (by omega)).2.1
        have zb4 : 2 ^ k ≤ 2 ^ 8 := Nat.pow_le_pow_right (by decide) (by omega)
        have zb5 : 0 ≤ ((2 ^ k : Nat) : Int) ∧ ((2 ^ k : Nat) : Int) ≤ ((2 ^ 8 : Nat) : Int) := ⟨Int.natCast_nonneg _, Int.ofNat_le.mpr zb4⟩
        refine e_iloadn (pc := 12) dX8_sumOf_12 rfl rfl ?_
        refine e_iloadn (pc := 13) dX8_sumOf_13 rfl rfl ?_
        refine e_bipush (pc := 14) dX8_sumOf_14 rfl (by decide) ?_
        refine e_icmp_ne (pc := 16) (tgt := 28) dX8_sumOf_16 rfl (fun h16 => ?_) (fun h16 => ?_)
        · skip
          refine e_aloadn (pc := 28) dX8_sumOf_28 rfl rfl ?_
          refine e_getr (pc := 29) (k := 50) dX8_sumOf_29 fX8_7 s_49 rfl (by decide) ?_
          refine e_iloadn (pc := 32) dX8_sumOf_32 rfl rfl ?_
          refine e_ialdv (pc := 33) (v := (A 18 k)) dX8_sumOf_33 s_50 (by omega) (zq0) ?_
          refine e_if_eq (pc := 34) (tgt := 41) dX8_sumOf_34 rfl (fun h34 => ?_) (fun h34 => ?_)
          · skip
            refine e_iloadn (pc := 41) dX8_sumOf_41 rfl rfl ?_
            refine e_iconst (pc := 42) dX8_sumOf_42 (by decide) ?_
            refine e_icmp_ne (pc := 43) (tgt := 52) dX8_sumOf_43 rfl (fun h43 => ?_) (fun h43 => ?_)
            · skip
              refine e_aloadn (pc := 52) dX8_sumOf_52 rfl rfl ?_
              refine e_getr (pc := 53) (k := 51) dX8_sumOf_53 fX8_13 s_49 rfl (by decide) ?_
              refine e_iloadn (pc := 56) dX8_sumOf_56 rfl rfl ?_
              refine e_ialdv (pc := 57) (v := (A 19 k)) dX8_sumOf_57 s_51 (by omega) (zq1 h34) ?_
              refine e_iaddn (pc := 58) dX8_sumOf_58 (by omega) ?_
              refine e_istoren (pc := 59) (lo' := [(2, 49), (0, wh), (0, (sumTo (smF A wh) k) + (A 19 k)), (0, (k : Int))]) dX8_sumOf_59 rfl rfl (by decide) rfl ?_
              refine e_iinc (pc := 60) (lo' := [(2, 49), (0, wh), (0, (sumTo (smF A wh) k) + (A 19 k)), (0, (k : Int) + 1)]) dX8_sumOf_60 rfl (by omega) rfl (by decide) rfl ?_
              refine e_goto (pc := 63) (tgt := 4) dX8_sumOf_63 rfl ?_
              have zsm : sumTo (smF A wh) (k + 1) = (sumTo (smF A wh) k) + (A 19 k) := by
                show sumTo (smF A wh) k + smF A wh k = _
                rw [show smF A wh k = (A 19 k) from by unfold smF; (repeat (first | rw [if_pos (by omega)] | rw [if_neg (by omega)]))]
              exact Ev.to (ih4 _ (by omega) (k + 1) (rfl) (by omega)) (by rw [zsm]; rfl) rfl rfl
            · skip
              refine e_iconst (pc := 46) dX8_sumOf_46 (by decide) ?_
              refine e_iloadn (pc := 47) dX8_sumOf_47 rfl rfl ?_
              refine e_ishl (pc := 48) dX8_sumOf_48 ?_
              rw [show bShl 1 (k : Int) = ((2 ^ k : Nat) : Int) from one_shl (by omega)]
              refine e_goto (pc := 49) (tgt := 58) dX8_sumOf_49 rfl ?_
              refine e_iaddn (pc := 58) dX8_sumOf_58 (by omega) ?_
              refine e_istoren (pc := 59) (lo' := [(2, 49), (0, wh), (0, (sumTo (smF A wh) k) + ((2 ^ k : Nat) : Int)), (0, (k : Int))]) dX8_sumOf_59 rfl rfl (by decide) rfl ?_
              refine e_iinc (pc := 60) (lo' := [(2, 49), (0, wh), (0, (sumTo (smF A wh) k) + ((2 ^ k : Nat) : Int)), (0, (k : Int) + 1)]) dX8_sumOf_60 rfl (by omega) rfl (by decide) rfl ?_
              refine e_goto (pc := 63) (tgt := 4) dX8_sumOf_63 rfl ?_
              have zsm : sumTo (smF A wh) (k + 1) = (sumTo (smF A wh) k) + ((2 ^ k : Nat) : Int) := by
                show sumTo (smF A wh) k + smF A wh k = _
                rw [show smF A wh k = ((2 ^ k : Nat) : Int) from by unfold smF; (repeat (first | rw [if_pos (by omega)] | rw [if_neg (by omega)]))]
              exact Ev.to (ih4 _ (by omega) (k + 1) (rfl) (by omega)) (by rw [zsm]; rfl) rfl rfl
          · skip
            refine e_iconst (pc := 37) dX8_sumOf_37 (by decide) ?_
            refine e_goto (pc := 38) (tgt := 58) dX8_sumOf_38 rfl ?_
            refine e_iaddn (pc := 58) dX8_sumOf_58 (by omega) ?_
            refine e_istoren (pc := 59) (lo' := [(2, 49), (0, wh), (0, (sumTo (smF A wh) k) + 0), (0, (k : Int))]) dX8_sumOf_59 rfl rfl (by decide) rfl ?_
            refine e_iinc (pc := 60) (lo' := [(2, 49), (0, wh), (0, (sumTo (smF A wh) k) + 0), (0, (k : Int) + 1)]) dX8_sumOf_60 rfl (by omega) rfl (by decide) rfl ?_
            refine e_goto (pc := 63) (tgt := 4) dX8_sumOf_63 rfl ?_
            have zsm : sumTo (smF A wh) (k + 1) = (sumTo (smF A wh) k) + 0 := by
              show sumTo (smF A wh) k + smF A wh k = _
              rw [show smF A wh k = 0 from by unfold smF; (repeat (first | rw [if_pos (by omega)] | rw [if_neg (by omega)]))]
            exact Ev.to (ih4 _ (by omega) (k + 1) (rfl) (by omega)) (by rw [zsm]; rfl) rfl rfl
        · skip
          refine e_aloadn (pc := 19) dX8_sumOf_19 rfl rfl ?_
          refine e_getr (pc := 20) (k := 56) dX8_sumOf_20 fX8_28 s_49 rfl (by decide) ?_
          refine e_iloadn (pc := 23) dX8_sumOf_23 rfl rfl ?_
          refine e_ialdv (pc := 24) (v := (A 8 k)) dX8_sumOf_24 s_56 (by omega) (zq6) ?_
          refine e_goto (pc := 25) (tgt := 58) dX8_sumOf_25 rfl ?_
          refine e_iaddn (pc := 58) dX8_sumOf_58 (by omega) ?_
          refine e_istoren (pc := 59) (lo' := [(2, 49), (0, wh), (0, (sumTo (smF A wh) k) + (A 8 k)), (0, (k : Int))]) dX8_sumOf_59 rfl rfl (by decide) rfl ?_
          refine e_iinc (pc := 60) (lo' := [(2, 49), (0, wh), (0, (sumTo (smF A wh) k) + (A 8 k)), (0, (k : Int) + 1)]) dX8_sumOf_60 rfl (by omega) rfl (by decide) rfl ?_
          refine e_goto (pc := 63) (tgt := 4) dX8_sumOf_63 rfl ?_
          have zsm : sumTo (smF A wh) (k + 1) = (sumTo (smF A wh) k) + (A 8 k) := by
            show sumTo (smF A wh) k + smF A wh k = _
            rw [show smF A wh k = (A 8 k) from by unfold smF; (repeat (first | rw [if_pos (by omega)] | rw [if_neg (by omega)]))]
          exact Ev.to (ih4 _ (by omega) (k + 1) (rfl) (by omega)) (by rw [zsm]; rfl) rfl rfl
  exact Ev.to (L4 _ 0 (rfl) (by omega)) rfl rfl rfl

theorem m_count (G : Gm) (A mem : Mem) (wh : Int) (hI : CI A) (hM : MI A mem) : Con G mX8_count [(2, 49), (0, wh)] mem (fun r m' => r = some (0, an_count A wh) ∧ m' = mem) := by
  refine Con.of (lo := [(2, 49), (0, wh)]) (by decide +kernel) (Nat.le_of_ble_eq_true rfl) rfl ?_
  generalize hQ_ : (fun r m' => r = some (0, an_count A wh) ∧ m' = mem : Option AV → Mem → Prop) = Q_
  obtain ⟨n, zn1, zn2, _⟩ := hI.2.2.2.2.1
  refine e_iloadn (pc := 0) dX8_count_0 rfl rfl ?_
  by_cases hs1 : 0 ≤ wh ∧ wh ≤ 8
  · obtain ⟨hsa1, hsb1⟩ := hs1
    rcases (show wh = 0 ∨ wh = 1 ∨ wh = 2 ∨ wh = 3 ∨ wh = 4 ∨ wh = 5 ∨ wh = 6 ∨ wh = 7 ∨ wh = 8 by omega) with hs1 | hs1 | hs1 | hs1 | hs1 | hs1 | hs1 | hs1 | hs1
    · skip
      refine e_tableIn (pc := 1) (tgt := 52) (off := 51) dX8_count_1 (by omega) (by rw [hs1]; rfl) rfl ?_
      refine e_aloadn (pc := 52) dX8_count_52 rfl rfl ?_
      refine e_getiv (pc := 53) (v := (A 1 0)) dX8_count_53 fX8_99 s_49 rfl (by decide) (hM.1.1) ?_
      have zan : an_count A wh = (A 1 0) := by unfold an_count; (repeat (first | rw [if_pos (by omega)] | rw [if_neg (by omega)]))
      exact e_iret (pc := 56) dX8_count_56 rfl (by rw [← hQ_]; exact ⟨by rw [zan], rfl⟩)
    · skip
      refine e_tableIn (pc := 1) (tgt := 57) (off := 56) dX8_count_1 (by omega) (by rw [hs1]; rfl) rfl ?_
      refine e_aloadn (pc := 57) dX8_count_57 rfl rfl ?_
      refine e_iloadn (pc := 58) dX8_count_58 rfl rfl ?_
      refine e_callVr (pc := 59) (as := [(0, wh)]) (st := []) (m_sumOf G A mem wh n zn1 zn2 hI hM) dX8_count_59 lX8_count_296 rfl s_49 cn_8 rfl rfl ?_
      have zan : an_count A wh = sumTo (smF A wh) n := (smF_all hI zn1 (by omega)).symm
      exact e_iret (pc := 62) dX8_count_62 rfl (by rw [← hQ_]; exact ⟨by rw [zan], rfl⟩)
    · skip
      refine e_tableIn (pc := 1) (tgt := 63) (off := 62) dX8_count_1 (by omega) (by rw [hs1]; rfl) rfl ?_
      refine e_aloadn (pc := 63) dX8_count_63 rfl rfl ?_
      refine e_getiv (pc := 64) (v := (A 17 0)) dX8_count_64 fX8_117 s_49 rfl (by decide) (hM.2.1.1) ?_
      have zan : an_count A wh = (A 17 0) := by unfold an_count; (repeat (first | rw [if_pos (by omega)] | rw [if_neg (by omega)]))
      exact e_iret (pc := 67) dX8_count_67 rfl (by rw [← hQ_]; exact ⟨by rw [zan], rfl⟩)
    · skip
      refine e_tableIn (pc := 1) (tgt := 68) (off := 67) dX8_count_1 (by omega) (by rw [hs1]; rfl) rfl ?_
      refine e_aloadn (pc := 68) dX8_count_68 rfl rfl ?_
      refine e_getiv (pc := 69) (v := (A 17 1)) dX8_count_69 fX8_120 s_49 rfl (by decide) (hM.2.1.2.1) ?_
      have zan : an_count A wh = (A 17 1) := by unfold an_count; (repeat (first | rw [if_pos (by omega)] | rw [if_neg (by omega)]))
      exact e_iret (pc := 72) dX8_count_72 rfl (by rw [← hQ_]; exact ⟨by rw [zan], rfl⟩)
    · skip
      refine e_tableIn (pc := 1) (tgt := 73) (off := 72) dX8_count_1 (by omega) (by rw [hs1]; rfl) rfl ?_
      refine e_aloadn (pc := 73) dX8_count_73 rfl rfl ?_
      refine e_getiv (pc := 74) (v := (A 17 2)) dX8_count_74 fX8_123 s_49 rfl (by decide) (hM.2.1.2.2) ?_
      have zan : an_count A wh = (A 17 2) := by unfold an_count; (repeat (first | rw [if_pos (by omega)] | rw [if_neg (by omega)]))
      exact e_iret (pc := 77) dX8_count_77 rfl (by rw [← hQ_]; exact ⟨by rw [zan], rfl⟩)
    · skip
      refine e_tableIn (pc := 1) (tgt := 78) (off := 77) dX8_count_1 (by omega) (by rw [hs1]; rfl) rfl ?_
      refine e_aloadn (pc := 78) dX8_count_78 rfl rfl ?_
      refine e_getiv (pc := 79) (v := (A 10 0)) dX8_count_79 fX8_126 s_49 rfl (by decide) (hM.2.2.1.1) ?_
      have zan : an_count A wh = (A 10 0) := by unfold an_count; (repeat (first | rw [if_pos (by omega)] | rw [if_neg (by omega)]))
      exact e_iret (pc := 82) dX8_count_82 rfl (by rw [← hQ_]; exact ⟨by rw [zan], rfl⟩)
    · skip
      refine e_tableIn (pc := 1) (tgt := 57) (off := 56) dX8_count_1 (by omega) (by rw [hs1]; rfl) rfl ?_
      refine e_aloadn (pc := 57) dX8_count_57 rfl rfl ?_
      refine e_iloadn (pc := 58) dX8_count_58 rfl rfl ?_
      refine e_callVr (pc := 59) (as := [(0, wh)]) (st := []) (m_sumOf G A mem wh n zn1 zn2 hI hM) dX8_count_59 lX8_count_296 rfl s_49 cn_8 rfl rfl ?_
      have zan : an_count A wh = sumTo (smF A wh) n := (smF_all hI zn1 (by omega)).symm
      exact e_iret (pc := 62) dX8_count_62 rfl (by rw [← hQ_]; exact ⟨by rw [zan], rfl⟩)
    · skip
      refine e_tableIn (pc := 1) (tgt := 57) (off := 56) dX8_count_1 (by omega) (by rw [hs1]; rfl) rfl ?_
      refine e_aloadn (pc := 57) dX8_count_57 rfl rfl ?_
      refine e_iloadn (pc := 58) dX8_count_58 rfl rfl ?_
      refine e_callVr (pc := 59) (as := [(0, wh)]) (st := []) (m_sumOf G A mem wh n zn1 zn2 hI hM) dX8_count_59 lX8_count_296 rfl s_49 cn_8 rfl rfl ?_
      have zan : an_count A wh = sumTo (smF A wh) n := (smF_all hI zn1 (by omega)).symm
      exact e_iret (pc := 62) dX8_count_62 rfl (by rw [← hQ_]; exact ⟨by rw [zan], rfl⟩)
    · skip
      refine e_tableIn (pc := 1) (tgt := 83) (off := 82) dX8_count_1 (by omega) (by rw [hs1]; rfl) rfl ?_
      refine e_aloadn (pc := 83) dX8_count_83 rfl rfl ?_
      refine e_getiv (pc := 84) (v := (A 41 3)) dX8_count_84 fX8_285 s_49 rfl (by decide) (hM.2.2.2.1.1) ?_
      have zan : an_count A wh = (A 41 3) := by unfold an_count; (repeat (first | rw [if_pos (by omega)] | rw [if_neg (by omega)]))
      exact e_iret (pc := 87) dX8_count_87 rfl (by rw [← hQ_]; exact ⟨by rw [zan], rfl⟩)
  · skip
    refine e_tableOut (pc := 1) (tgt := 88) dX8_count_1 (by omega) rfl ?_
    refine e_bipush (pc := 88) dX8_count_88 rfl (by decide) ?_
    have zan : an_count A wh = -2 := by unfold an_count; (repeat (first | rw [if_pos (by omega)] | rw [if_neg (by omega)]))
    exact e_iret (pc := 90) dX8_count_90 rfl (by rw [← hQ_]; exact ⟨by rw [zan], rfl⟩)
