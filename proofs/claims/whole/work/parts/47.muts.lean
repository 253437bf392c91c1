def scT (c j : Nat) : Bool := scJ c j || c == 11 || (c == 10 && j == 0)
def TxOk (mem : Mem) : Prop := ∃ L : Nat, mem 10 0 = (L : Int) ∧ L ≤ 40 ∧ (∀ j, j < 40 → 0 ≤ mem 11 j ∧ mem 11 j ≤ 255) ∧ RuOk mem ∧ mem 10 1 = prsF (mem 11) L 41 0 ∧ ∀ told wh t, 0 ≤ t → (RB mem told wh t ↔ SPx (mem 11) L told wh t)
theorem b_us {f : Nat → Int} {L : Nat} {b : Int} (hb : ∀ j, j < 40 → 0 ≤ f j ∧ f j ≤ 255) (h : 0 ≤ b ∧ b ≤ 255) : ∀ j, j < 40 → 0 ≤ uset f L b j ∧ uset f L b j ≤ 255 := by
  intro j hj; unfold uset
  split
  · exact h
  · exact hb j hj
theorem scJT {mem zm : Mem} (zf : Fr scJ mem zm) : Fr scT mem zm := zf.mono (fun c j q => by unfold scT at q; simp at q; exact q.1.1)

theorem t_takes (G : Gm) (mem : Mem) (L : Nat) (b : Int) (hL : mem 10 0 = (L : Int) ∧ L ≤ 40) (hb : ∀ j, j < 40 → 0 ≤ mem 11 j ∧ mem 11 j ≤ 255) (hR : RuOk mem) (hbb : 0 ≤ b ∧ b ≤ 255) : Con G mX4_takes [(2, 10), (0, b)] mem (fun r m' => (L = 40 ∧ r = some (0, 0) ∧ m' = mem) ∨ (L < 40 ∧ r = some (0, 1) ∧ Fr scT mem m' ∧ m' 10 0 = ((L + 1 : Nat) : Int) ∧ m' 11 = uset (mem 11) L b ∧ TxOk m')) := by
  refine Con.of (lo := [(2, 10), (0, b)]) (by decide +kernel) (Nat.le_of_ble_eq_true rfl) rfl ?_
  generalize hQ_ : (fun r m' => (L = 40 ∧ r = some (0, 0) ∧ m' = mem) ∨ (L < 40 ∧ r = some (0, 1) ∧ Fr scT mem m' ∧ m' 10 0 = ((L + 1 : Nat) : Int) ∧ m' 11 = uset (mem 11) L b ∧ TxOk m') : Option AV → Mem → Prop) = Q_
  refine e_aloadn (pc := 0) dX4_takes_0 rfl rfl ?_
  refine e_getiv (pc := 1) (v := (L : Int)) dX4_takes_1 fX4_28 s_10 rfl (by decide) (hL.1) ?_
  refine e_if_lt (pc := 4) (tgt := 16) dX4_takes_4 rfl (fun h4 => ?_) (fun h4 => ?_)
  · skip
    refine e_iconst (pc := 16) dX4_takes_16 (by decide) ?_
    exact e_zret (pc := 17) dX4_takes_17 rfl (by decide) (by rw [← hQ_]; exact Or.inl ⟨by omega, rfl, rfl⟩)
  · skip
    refine e_aloadn (pc := 7) dX4_takes_7 rfl rfl ?_
    refine e_getiv (pc := 8) (v := (L : Int)) dX4_takes_8 fX4_28 s_10 rfl (by decide) (hL.1) ?_
    refine e_bipush (pc := 11) dX4_takes_11 rfl (by decide) ?_
    refine e_icmp_lt (pc := 13) (tgt := 18) dX4_takes_13 rfl (fun h13 => ?_) (fun h13 => ?_)
    · skip
      refine e_aloadn (pc := 18) dX4_takes_18 rfl rfl ?_
      refine e_getr (pc := 19) (k := 11) dX4_takes_19 fX4_9 s_10 rfl (by decide) ?_
      refine e_aloadn (pc := 22) dX4_takes_22 rfl rfl ?_
      refine e_getiv (pc := 23) (v := (L : Int)) dX4_takes_23 fX4_28 s_10 rfl (by decide) (hL.1) ?_
      refine e_iloadn (pc := 26) dX4_takes_26 rfl rfl ?_
      refine e_iastm (pc := 27) (mem2 := mset mem 11 L b) dX4_takes_27 s_11 (by omega) rfl ?_
      refine e_aloadn (pc := 28) dX4_takes_28 rfl rfl ?_
      refine e_dup (pc := 29) dX4_takes_29 rfl ?_
      refine e_getiv (pc := 30) (v := (L : Int)) dX4_takes_30 fX4_28 s_10 rfl (by decide) (hL.1) ?_
      refine e_iconst (pc := 33) dX4_takes_33 (by decide) ?_
      refine e_iaddn (pc := 34) dX4_takes_34 (by omega) ?_
      refine e_putI (pc := 35) (mem2 := mset (mset mem 11 L b) 10 0 ((L : Int) + 1)) dX4_takes_35 fX4_28 s_10 rfl (by decide) pw_4_0 rfl ?_
      have zlt : L < 40 := by omega
      have zR : RuOk (mset (mset mem 11 L b) 10 0 ((L : Int) + 1)) := RuOk.mv rfl rfl rfl rfl rfl hR
      have zL : (mset (mset mem 11 L b) 10 0 ((L : Int) + 1)) 10 0 = ((L + 1 : Nat) : Int) ∧ L + 1 ≤ 40 := ⟨rfl, zlt⟩
      refine e_aloadn (pc := 38) dX4_takes_38 rfl rfl ?_
      refine e_callV (pc := 39) (as := []) (st := []) (t_parse G (mset (mset mem 11 L b) 10 0 ((L : Int) + 1)) (L + 1) zL (b_us hb hbb) zR) dX4_takes_39 lX4_takes_32 rfl s_10 cn_4 rfl rfl (fun r_ zm1 hq_ => ?_)
      obtain ⟨zr_, zf, zR1, zF1, zS1⟩ := hq_
      subst zr_
      refine Ev.to (st' := []) ?_ rfl rfl rfl
      refine e_iconst (pc := 42) dX4_takes_42 (by decide) ?_
      have z11 : zm1 11 = uset (mem 11) L b := funext (fun j => zf 11 j rfl)
      have z100 : zm1 10 0 = ((L + 1 : Nat) : Int) := zf 10 0 rfl
      have zT : TxOk zm1 := ⟨L + 1, z100, zlt, by rw [z11]; exact b_us hb hbb, zR1, by rw [z11]; exact zF1, fun told wh t ht => by rw [z11]; exact zS1 told wh t ht⟩
      exact e_zret (pc := 43) dX4_takes_43 rfl (by decide) (by rw [← hQ_]; exact Or.inr ⟨zlt, rfl, (((Fr.rf.ms rfl).ms rfl).tr (scJT zf)), z100, z11, zT⟩)
    · skip
      refine e_iconst (pc := 16) dX4_takes_16 (by decide) ?_
      exact e_zret (pc := 17) dX4_takes_17 rfl (by decide) (by rw [← hQ_]; exact Or.inl ⟨by omega, rfl, rfl⟩)

theorem t_empties (G : Gm) (mem : Mem) (hb : ∀ j, j < 40 → 0 ≤ mem 11 j ∧ mem 11 j ≤ 255) (hR : RuOk mem) : Con G mX4_empties [(2, 10)] mem (fun r m' => r = none ∧ Fr scT mem m' ∧ m' 10 0 = ((0 : Nat) : Int) ∧ m' 11 = mem 11 ∧ TxOk m') := by
  refine Con.of (lo := [(2, 10)]) (by decide +kernel) (Nat.le_of_ble_eq_true rfl) rfl ?_
  generalize hQ_ : (fun r m' => r = none ∧ Fr scT mem m' ∧ m' 10 0 = ((0 : Nat) : Int) ∧ m' 11 = mem 11 ∧ TxOk m' : Option AV → Mem → Prop) = Q_
  refine e_aloadn (pc := 0) dX4_empties_0 rfl rfl ?_
  refine e_iconst (pc := 1) dX4_empties_1 (by decide) ?_
  refine e_putI (pc := 2) (mem2 := mset mem 10 0 0) dX4_empties_2 fX4_28 s_10 rfl (by decide) pw_4_0 rfl ?_
  refine e_aloadn (pc := 5) dX4_empties_5 rfl rfl ?_
  refine e_callV (pc := 6) (as := []) (st := []) (t_parse G (mset mem 10 0 0) 0 ⟨rfl, Nat.zero_le _⟩ hb (RuOk.mv rfl rfl rfl rfl rfl hR)) dX4_empties_6 lX4_empties_32 rfl s_10 cn_4 rfl rfl (fun r_ zm1 hq_ => ?_)
  obtain ⟨zr_, zf, zR1, zF1, zS1⟩ := hq_
  subst zr_
  refine Ev.to (st' := []) ?_ rfl rfl rfl
  have z11 : zm1 11 = mem 11 := funext (fun j => zf 11 j rfl)
  have z100 : zm1 10 0 = ((0 : Nat) : Int) := zf 10 0 rfl
  have zT : TxOk zm1 := ⟨0, z100, Nat.zero_le _, by rw [z11]; exact hb, zR1, by rw [z11]; exact zF1, fun told wh t ht => by rw [z11]; exact zS1 told wh t ht⟩
  exact e_vret (pc := 9) dX4_empties_9 rfl (by rw [← hQ_]; exact ⟨rfl, (Fr.rf.ms rfl).tr (scJT zf), z100, z11, zT⟩)

def an_comer (A : Mem) (kind a b : Int) : Int := if (kind = 0 ∧ (0 ≤ a ∧ a ≤ 60) ∧ b = 0) ∨ (kind = 1 ∧ a = 0 ∧ b = 0) ∨ (kind = 2 ∧ (1 ≤ a ∧ a ≤ 30) ∧ 1 ≤ b ∧ b ≤ 7) then (if 0 ≤ A 1 0 ∧ A 1 0 < 8 then A 1 0 else -4) else -2
def nx_comer (A : Mem) (kind a b : Int) : Mem := if ((kind = 0 ∧ (0 ≤ a ∧ a ≤ 60) ∧ b = 0) ∨ (kind = 1 ∧ a = 0 ∧ b = 0) ∨ (kind = 2 ∧ (1 ≤ a ∧ a ≤ 30) ∧ 1 ≤ b ∧ b ≤ 7)) ∧ 0 ≤ A 1 0 ∧ A 1 0 < 8 then mset (mset (mset (mset (mset A 1 0 (A 1 0 + 1)) 2 (A 1 0).toNat (if kind = 2 then a else 0)) 3 (A 1 0).toNat (if kind = 2 then b else 0)) 18 (A 1 0).toNat kind) 19 (A 1 0).toNat (if kind = 0 then a else 0) else A

theorem c_comer (G : Gm) (mem : Mem) (kind a b : Int)  : Con G mX7_comer [(2, 0), (0, kind), (0, a), (0, b)] mem (fun r m' => r = some (0, an_comer mem kind a b) ∧ m' = nx_comer mem kind a b) := by
  refine Con.of (lo := [(2, 0), (0, kind), (0, a), (0, b), (3, 0)]) (by decide +kernel) (Nat.le_of_ble_eq_true rfl) rfl ?_
  generalize hQ_ : (fun r m' => r = some (0, an_comer mem kind a b) ∧ m' = nx_comer mem kind a b : Option AV → Mem → Prop) = Q_
  refine e_iloadn (pc := 0) dX7_comer_0 rfl rfl ?_
  refine e_iloadn (pc := 1) dX7_comer_1 rfl rfl ?_
  refine e_iloadn (pc := 2) dX7_comer_2 rfl rfl ?_
  refine e_callSr (pc := 3) (as := [(0, kind), (0, a), (0, b)]) (st := []) (v := (0, if (kind = 0 ∧ (0 ≤ a ∧ a ≤ 60) ∧ b = 0) ∨ (kind = 1 ∧ a = 0 ∧ b = 0) ∨ (kind = 2 ∧ (1 ≤ a ∧ a ≤ 30) ∧ 1 ≤ b ∧ b ≤ 7) then 1 else 0)) (t_mayCome G mem kind a b) dX7_comer_3 lX7_comer_67 rfl rfl rfl ?_
  by_cases zc3 : (kind = 0 ∧ (0 ≤ a ∧ a ≤ 60) ∧ b = 0) ∨ (kind = 1 ∧ a = 0 ∧ b = 0) ∨ (kind = 2 ∧ (1 ≤ a ∧ a ≤ 30) ∧ 1 ≤ b ∧ b ≤ 7)
  · rw [if_pos zc3]
    refine e_if_ne (pc := 6) (tgt := 12) dX7_comer_6 rfl (fun h6 => ?_) (fun h6 => ?_)
    · skip
      refine e_aloadn (pc := 12) dX7_comer_12 rfl rfl ?_
      refine e_getr (pc := 13) (k := 1) dX7_comer_13 fX7_12 s_0 rfl (by decide) ?_
      refine e_getiv (pc := 16) (v := mem 1 0) dX7_comer_16 fX7_71 s_1 rfl (by decide) rfl ?_
      refine e_istore (pc := 19) (lo' := [(2, 0), (0, kind), (0, a), (0, b), (0, mem 1 0)]) dX7_comer_19 rfl (by decide) rfl ?_
      refine e_iload (pc := 21) dX7_comer_21 rfl ?_
      refine e_if_lt (pc := 23) (tgt := 33) dX7_comer_23 rfl (fun h23 => ?_) (fun h23 => ?_)
      · skip
        refine e_bipush (pc := 33) dX7_comer_33 rfl (by decide) ?_
        have zan : an_comer mem kind a b = -4 := by
          first | (unfold an_comer; (repeat (first | rw [if_pos (by omega)] | rw [if_neg (by omega)])) <;> rfl) | (exfalso; omega)
        have znx : nx_comer mem kind a b = mem := by
          first | (unfold nx_comer; (repeat (first | rw [if_pos (by omega)] | rw [if_neg (by omega)])) <;> rfl) | (exfalso; omega)
        exact e_iret (pc := 35) dX7_comer_35 rfl (by rw [← hQ_]; exact ⟨by rw [zan], znx.symm⟩)
      · skip
        refine e_iload (pc := 26) dX7_comer_26 rfl ?_
        refine e_bipush (pc := 28) dX7_comer_28 rfl (by decide) ?_
        refine e_icmp_lt (pc := 30) (tgt := 36) dX7_comer_30 rfl (fun h30 => ?_) (fun h30 => ?_)
        · skip
          refine e_aloadn (pc := 36) dX7_comer_36 rfl rfl ?_
          refine e_getr (pc := 37) (k := 1) dX7_comer_37 fX7_12 s_0 rfl (by decide) ?_
          refine e_iload (pc := 40) dX7_comer_40 rfl ?_
          refine e_iconst (pc := 42) dX7_comer_42 (by decide) ?_
          refine e_iaddn (pc := 43) dX7_comer_43 (by omega) ?_
          refine e_putI (pc := 44) (mem2 := mset mem 1 0 ((mem 1 0) + 1)) dX7_comer_44 fX7_71 s_1 rfl (by decide) pw_0_0 rfl ?_
          refine e_aloadn (pc := 47) dX7_comer_47 rfl rfl ?_
          refine e_getr (pc := 48) (k := 1) dX7_comer_48 fX7_12 s_0 rfl (by decide) ?_
          refine e_getr (pc := 51) (k := 2) dX7_comer_51 fX7_75 s_1 rfl (by decide) ?_
          refine e_iload (pc := 54) dX7_comer_54 rfl ?_
          refine e_iloadn (pc := 56) dX7_comer_56 rfl rfl ?_
          refine e_iconst (pc := 57) dX7_comer_57 (by decide) ?_
          refine e_icmp_ne (pc := 58) (tgt := 65) dX7_comer_58 rfl (fun h58 => ?_) (fun h58 => ?_)
          · skip
            refine e_iconst (pc := 65) dX7_comer_65 (by decide) ?_
            refine e_iastm (pc := 66) (mem2 := mset (mset mem 1 0 ((mem 1 0) + 1)) 2 ((mem 1 0).toNat) 0) dX7_comer_66 s_2 (by omega) rfl ?_
            refine e_aloadn (pc := 67) dX7_comer_67 rfl rfl ?_
            refine e_getr (pc := 68) (k := 1) dX7_comer_68 fX7_12 s_0 rfl (by decide) ?_
            refine e_getr (pc := 71) (k := 3) dX7_comer_71 fX7_79 s_1 rfl (by decide) ?_
            refine e_iload (pc := 74) dX7_comer_74 rfl ?_
            refine e_iloadn (pc := 76) dX7_comer_76 rfl rfl ?_
            refine e_iconst (pc := 77) dX7_comer_77 (by decide) ?_
            refine e_icmp_ne (pc := 78) (tgt := 85) dX7_comer_78 rfl (fun h78 => ?_) (fun h78 => ?_)
            · skip
              refine e_iconst (pc := 85) dX7_comer_85 (by decide) ?_
              refine e_iastm (pc := 86) (mem2 := mset (mset (mset mem 1 0 ((mem 1 0) + 1)) 2 ((mem 1 0).toNat) 0) 3 ((mem 1 0).toNat) 0) dX7_comer_86 s_3 (by omega) rfl ?_
              refine e_aloadn (pc := 87) dX7_comer_87 rfl rfl ?_
              refine e_getr (pc := 88) (k := 16) dX7_comer_88 fX7_28 s_0 rfl (by decide) ?_
              refine e_getr (pc := 91) (k := 18) dX7_comer_91 fX7_82 s_16 rfl (by decide) ?_
              refine e_iload (pc := 94) dX7_comer_94 rfl ?_
              refine e_iloadn (pc := 96) dX7_comer_96 rfl rfl ?_
              refine e_iastm (pc := 97) (mem2 := mset (mset (mset (mset mem 1 0 ((mem 1 0) + 1)) 2 ((mem 1 0).toNat) 0) 3 ((mem 1 0).toNat) 0) 18 ((mem 1 0).toNat) kind) dX7_comer_97 s_18 (by omega) rfl ?_
              refine e_aloadn (pc := 98) dX7_comer_98 rfl rfl ?_
              refine e_getr (pc := 99) (k := 16) dX7_comer_99 fX7_28 s_0 rfl (by decide) ?_
              refine e_getr (pc := 102) (k := 19) dX7_comer_102 fX7_85 s_16 rfl (by decide) ?_
              refine e_iload (pc := 105) dX7_comer_105 rfl ?_
              refine e_iloadn (pc := 107) dX7_comer_107 rfl rfl ?_
              refine e_if_ne (pc := 108) (tgt := 115) dX7_comer_108 rfl (fun h108 => ?_) (fun h108 => ?_)
              · skip
                refine e_iconst (pc := 115) dX7_comer_115 (by decide) ?_
                refine e_iastm (pc := 116) (mem2 := mset (mset (mset (mset (mset mem 1 0 ((mem 1 0) + 1)) 2 ((mem 1 0).toNat) 0) 3 ((mem 1 0).toNat) 0) 18 ((mem 1 0).toNat) kind) 19 ((mem 1 0).toNat) 0) dX7_comer_116 s_19 (by omega) rfl ?_
                refine e_iload (pc := 117) dX7_comer_117 rfl ?_
                have zan : an_comer mem kind a b = mem 1 0 := by
                  first | (unfold an_comer; (repeat (first | rw [if_pos (by omega)] | rw [if_neg (by omega)])) <;> rfl) | (exfalso; omega)
                have znx : nx_comer mem kind a b = mset (mset (mset (mset (mset mem 1 0 ((mem 1 0) + 1)) 2 ((mem 1 0).toNat) 0) 3 ((mem 1 0).toNat) 0) 18 ((mem 1 0).toNat) kind) 19 ((mem 1 0).toNat) 0 := by
                  first | (unfold nx_comer; (repeat (first | rw [if_pos (by omega)] | rw [if_neg (by omega)])) <;> rfl) | (exfalso; omega)
                exact e_iret (pc := 119) dX7_comer_119 rfl (by rw [← hQ_]; exact ⟨by rw [zan], znx.symm⟩)
              · skip
                refine e_iloadn (pc := 111) dX7_comer_111 rfl rfl ?_
                refine e_goto (pc := 112) (tgt := 116) dX7_comer_112 rfl ?_
                refine e_iastm (pc := 116) (mem2 := mset (mset (mset (mset (mset mem 1 0 ((mem 1 0) + 1)) 2 ((mem 1 0).toNat) 0) 3 ((mem 1 0).toNat) 0) 18 ((mem 1 0).toNat) kind) 19 ((mem 1 0).toNat) a) dX7_comer_116 s_19 (by omega) rfl ?_
                refine e_iload (pc := 117) dX7_comer_117 rfl ?_
                have zan : an_comer mem kind a b = mem 1 0 := by
                  first | (unfold an_comer; (repeat (first | rw [if_pos (by omega)] | rw [if_neg (by omega)])) <;> rfl) | (exfalso; omega)
                have znx : nx_comer mem kind a b = mset (mset (mset (mset (mset mem 1 0 ((mem 1 0) + 1)) 2 ((mem 1 0).toNat) 0) 3 ((mem 1 0).toNat) 0) 18 ((mem 1 0).toNat) kind) 19 ((mem 1 0).toNat) a := by
                  first | (unfold nx_comer; (repeat (first | rw [if_pos (by omega)] | rw [if_neg (by omega)])) <;> rfl) | (exfalso; omega)
                exact e_iret (pc := 119) dX7_comer_119 rfl (by rw [← hQ_]; exact ⟨by rw [zan], znx.symm⟩)
            · skip
              refine e_iloadn (pc := 81) dX7_comer_81 rfl rfl ?_
              refine e_goto (pc := 82) (tgt := 86) dX7_comer_82 rfl ?_
              refine e_iastm (pc := 86) (mem2 := mset (mset (mset mem 1 0 ((mem 1 0) + 1)) 2 ((mem 1 0).toNat) 0) 3 ((mem 1 0).toNat) b) dX7_comer_86 s_3 (by omega) rfl ?_
              refine e_aloadn (pc := 87) dX7_comer_87 rfl rfl ?_
              refine e_getr (pc := 88) (k := 16) dX7_comer_88 fX7_28 s_0 rfl (by decide) ?_
              refine e_getr (pc := 91) (k := 18) dX7_comer_91 fX7_82 s_16 rfl (by decide) ?_
              refine e_iload (pc := 94) dX7_comer_94 rfl ?_
              refine e_iloadn (pc := 96) dX7_comer_96 rfl rfl ?_
              refine e_iastm (pc := 97) (mem2 := mset (mset (mset (mset mem 1 0 ((mem 1 0) + 1)) 2 ((mem 1 0).toNat) 0) 3 ((mem 1 0).toNat) b) 18 ((mem 1 0).toNat) kind) dX7_comer_97 s_18 (by omega) rfl ?_
              refine e_aloadn (pc := 98) dX7_comer_98 rfl rfl ?_
              refine e_getr (pc := 99) (k := 16) dX7_comer_99 fX7_28 s_0 rfl (by decide) ?_
              refine e_getr (pc := 102) (k := 19) dX7_comer_102 fX7_85 s_16 rfl (by decide) ?_
              refine e_iload (pc := 105) dX7_comer_105 rfl ?_
              refine e_iloadn (pc := 107) dX7_comer_107 rfl rfl ?_
              refine e_if_ne (pc := 108) (tgt := 115) dX7_comer_108 rfl (fun h108 => ?_) (fun h108 => ?_)
              · skip
                refine e_iconst (pc := 115) dX7_comer_115 (by decide) ?_
                refine e_iastm (pc := 116) (mem2 := mset (mset (mset (mset (mset mem 1 0 ((mem 1 0) + 1)) 2 ((mem 1 0).toNat) 0) 3 ((mem 1 0).toNat) b) 18 ((mem 1 0).toNat) kind) 19 ((mem 1 0).toNat) 0) dX7_comer_116 s_19 (by omega) rfl ?_
                refine e_iload (pc := 117) dX7_comer_117 rfl ?_
                have zan : an_comer mem kind a b = mem 1 0 := by
                  first | (unfold an_comer; (repeat (first | rw [if_pos (by omega)] | rw [if_neg (by omega)])) <;> rfl) | (exfalso; omega)
                have znx : nx_comer mem kind a b = mset (mset (mset (mset (mset mem 1 0 ((mem 1 0) + 1)) 2 ((mem 1 0).toNat) 0) 3 ((mem 1 0).toNat) b) 18 ((mem 1 0).toNat) kind) 19 ((mem 1 0).toNat) 0 := by
                  first | (unfold nx_comer; (repeat (first | rw [if_pos (by omega)] | rw [if_neg (by omega)])) <;> rfl) | (exfalso; omega)
                exact e_iret (pc := 119) dX7_comer_119 rfl (by rw [← hQ_]; exact ⟨by rw [zan], znx.symm⟩)
              · skip
                refine e_iloadn (pc := 111) dX7_comer_111 rfl rfl ?_
                refine e_goto (pc := 112) (tgt := 116) dX7_comer_112 rfl ?_
                refine e_iastm (pc := 116) (mem2 := mset (mset (mset (mset (mset mem 1 0 ((mem 1 0) + 1)) 2 ((mem 1 0).toNat) 0) 3 ((mem 1 0).toNat) b) 18 ((mem 1 0).toNat) kind) 19 ((mem 1 0).toNat) a) dX7_comer_116 s_19 (by omega) rfl ?_
                refine e_iload (pc := 117) dX7_comer_117 rfl ?_
                have zan : an_comer mem kind a b = mem 1 0 := by
                  first | (unfold an_comer; (repeat (first | rw [if_pos (by omega)] | rw [if_neg (by omega)])) <;> rfl) | (exfalso; omega)
                have znx : nx_comer mem kind a b = mset (mset (mset (mset (mset mem 1 0 ((mem 1 0) + 1)) 2 ((mem 1 0).toNat) 0) 3 ((mem 1 0).toNat) b) 18 ((mem 1 0).toNat) kind) 19 ((mem 1 0).toNat) a := by
                  first | (unfold nx_comer; (repeat (first | rw [if_pos (by omega)] | rw [if_neg (by omega)])) <;> rfl) | (exfalso; omega)
                exact e_iret (pc := 119) dX7_comer_119 rfl (by rw [← hQ_]; exact ⟨by rw [zan], znx.symm⟩)
          · skip
            refine e_iloadn (pc := 61) dX7_comer_61 rfl rfl ?_
            refine e_goto (pc := 62) (tgt := 66) dX7_comer_62 rfl ?_
            refine e_iastm (pc := 66) (mem2 := mset (mset mem 1 0 ((mem 1 0) + 1)) 2 ((mem 1 0).toNat) a) dX7_comer_66 s_2 (by omega) rfl ?_
            refine e_aloadn (pc := 67) dX7_comer_67 rfl rfl ?_
            refine e_getr (pc := 68) (k := 1) dX7_comer_68 fX7_12 s_0 rfl (by decide) ?_
            refine e_getr (pc := 71) (k := 3) dX7_comer_71 fX7_79 s_1 rfl (by decide) ?_
            refine e_iload (pc := 74) dX7_comer_74 rfl ?_
            refine e_iloadn (pc := 76) dX7_comer_76 rfl rfl ?_
            refine e_iconst (pc := 77) dX7_comer_77 (by decide) ?_
            refine e_icmp_ne (pc := 78) (tgt := 85) dX7_comer_78 rfl (fun h78 => ?_) (fun h78 => ?_)
            · skip
              refine e_iconst (pc := 85) dX7_comer_85 (by decide) ?_
              refine e_iastm (pc := 86) (mem2 := mset (mset (mset mem 1 0 ((mem 1 0) + 1)) 2 ((mem 1 0).toNat) a) 3 ((mem 1 0).toNat) 0) dX7_comer_86 s_3 (by omega) rfl ?_
              refine e_aloadn (pc := 87) dX7_comer_87 rfl rfl ?_
              refine e_getr (pc := 88) (k := 16) dX7_comer_88 fX7_28 s_0 rfl (by decide) ?_
              refine e_getr (pc := 91) (k := 18) dX7_comer_91 fX7_82 s_16 rfl (by decide) ?_
              refine e_iload (pc := 94) dX7_comer_94 rfl ?_
              refine e_iloadn (pc := 96) dX7_comer_96 rfl rfl ?_
              refine e_iastm (pc := 97) (mem2 := mset (mset (mset (mset mem 1 0 ((mem 1 0) + 1)) 2 ((mem 1 0).toNat) a) 3 ((mem 1 0).toNat) 0) 18 ((mem 1 0).toNat) kind) dX7_comer_97 s_18 (by omega) rfl ?_
              refine e_aloadn (pc := 98) dX7_comer_98 rfl rfl ?_
              refine e_getr (pc := 99) (k := 16) dX7_comer_99 fX7_28 s_0 rfl (by decide) ?_
              refine e_getr (pc := 102) (k := 19) dX7_comer_102 fX7_85 s_16 rfl (by decide) ?_
              refine e_iload (pc := 105) dX7_comer_105 rfl ?_
              refine e_iloadn (pc := 107) dX7_comer_107 rfl rfl ?_
              refine e_if_ne (pc := 108) (tgt := 115) dX7_comer_108 rfl (fun h108 => ?_) (fun h108 => ?_)
              · skip
                refine e_iconst (pc := 115) dX7_comer_115 (by decide) ?_
                refine e_iastm (pc := 116) (mem2 := mset (mset (mset (mset (mset mem 1 0 ((mem 1 0) + 1)) 2 ((mem 1 0).toNat) a) 3 ((mem 1 0).toNat) 0) 18 ((mem 1 0).toNat) kind) 19 ((mem 1 0).toNat) 0) dX7_comer_116 s_19 (by omega) rfl ?_
                refine e_iload (pc := 117) dX7_comer_117 rfl ?_
                have zan : an_comer mem kind a b = mem 1 0 := by
                  first | (unfold an_comer; (repeat (first | rw [if_pos (by omega)] | rw [if_neg (by omega)])) <;> rfl) | (exfalso; omega)
                have znx : nx_comer mem kind a b = mset (mset (mset (mset (mset mem 1 0 ((mem 1 0) + 1)) 2 ((mem 1 0).toNat) a) 3 ((mem 1 0).toNat) 0) 18 ((mem 1 0).toNat) kind) 19 ((mem 1 0).toNat) 0 := by
                  first | (unfold nx_comer; (repeat (first | rw [if_pos (by omega)] | rw [if_neg (by omega)])) <;> rfl) | (exfalso; omega)
                exact e_iret (pc := 119) dX7_comer_119 rfl (by rw [← hQ_]; exact ⟨by rw [zan], znx.symm⟩)
              · skip
                refine e_iloadn (pc := 111) dX7_comer_111 rfl rfl ?_
                refine e_goto (pc := 112) (tgt := 116) dX7_comer_112 rfl ?_
                refine e_iastm (pc := 116) (mem2 := mset (mset (mset (mset (mset mem 1 0 ((mem 1 0) + 1)) 2 ((mem 1 0).toNat) a) 3 ((mem 1 0).toNat) 0) 18 ((mem 1 0).toNat) kind) 19 ((mem 1 0).toNat) a) dX7_comer_116 s_19 (by omega) rfl ?_
                refine e_iload (pc := 117) dX7_comer_117 rfl ?_
                have zan : an_comer mem kind a b = mem 1 0 := by
                  first | (unfold an_comer; (repeat (first | rw [if_pos (by omega)] | rw [if_neg (by omega)])) <;> rfl) | (exfalso; omega)
                have znx : nx_comer mem kind a b = mset (mset (mset (mset (mset mem 1 0 ((mem 1 0) + 1)) 2 ((mem 1 0).toNat) a) 3 ((mem 1 0).toNat) 0) 18 ((mem 1 0).toNat) kind) 19 ((mem 1 0).toNat) a := by
                  first | (unfold nx_comer; (repeat (first | rw [if_pos (by omega)] | rw [if_neg (by omega)])) <;> rfl) | (exfalso; omega)
                exact e_iret (pc := 119) dX7_comer_119 rfl (by rw [← hQ_]; exact ⟨by rw [zan], znx.symm⟩)
            · skip
              refine e_iloadn (pc := 81) dX7_comer_81 rfl rfl ?_
              refine e_goto (pc := 82) (tgt := 86) dX7_comer_82 rfl ?_
              refine e_iastm (pc := 86) (mem2 := mset (mset (mset mem 1 0 ((mem 1 0) + 1)) 2 ((mem 1 0).toNat) a) 3 ((mem 1 0).toNat) b) dX7_comer_86 s_3 (by omega) rfl ?_
              refine e_aloadn (pc := 87) dX7_comer_87 rfl rfl ?_
              refine e_getr (pc := 88) (k := 16) dX7_comer_88 fX7_28 s_0 rfl (by decide) ?_
              refine e_getr (pc := 91) (k := 18) dX7_comer_91 fX7_82 s_16 rfl (by decide) ?_
              refine e_iload (pc := 94) dX7_comer_94 rfl ?_
              refine e_iloadn (pc := 96) dX7_comer_96 rfl rfl ?_
              refine e_iastm (pc := 97) (mem2 := mset (mset (mset (mset mem 1 0 ((mem 1 0) + 1)) 2 ((mem 1 0).toNat) a) 3 ((mem 1 0).toNat) b) 18 ((mem 1 0).toNat) kind) dX7_comer_97 s_18 (by omega) rfl ?_
              refine e_aloadn (pc := 98) dX7_comer_98 rfl rfl ?_
              refine e_getr (pc := 99) (k := 16) dX7_comer_99 fX7_28 s_0 rfl (by decide) ?_
              refine e_getr (pc := 102) (k := 19) dX7_comer_102 fX7_85 s_16 rfl (by decide) ?_
              refine e_iload (pc := 105) dX7_comer_105 rfl ?_
              refine e_iloadn (pc := 107) dX7_comer_107 rfl rfl ?_
              refine e_if_ne (pc := 108) (tgt := 115) dX7_comer_108 rfl (fun h108 => ?_) (fun h108 => ?_)
              · skip
                refine e_iconst (pc := 115) dX7_comer_115 (by decide) ?_
                refine e_iastm (pc := 116) (mem2 := mset (mset (mset (mset (mset mem 1 0 ((mem 1 0) + 1)) 2 ((mem 1 0).toNat) a) 3 ((mem 1 0).toNat) b) 18 ((mem 1 0).toNat) kind) 19 ((mem 1 0).toNat) 0) dX7_comer_116 s_19 (by omega) rfl ?_
                refine e_iload (pc := 117) dX7_comer_117 rfl ?_
                have zan : an_comer mem kind a b = mem 1 0 := by
                  first | (unfold an_comer; (repeat (first | rw [if_pos (by omega)] | rw [if_neg (by omega)])) <;> rfl) | (exfalso; omega)
                have znx : nx_comer mem kind a b = mset (mset (mset (mset (mset mem 1 0 ((mem 1 0) + 1)) 2 ((mem 1 0).toNat) a) 3 ((mem 1 0).toNat) b) 18 ((mem 1 0).toNat) kind) 19 ((mem 1 0).toNat) 0 := by
                  first | (unfold nx_comer; (repeat (first | rw [if_pos (by omega)] | rw [if_neg (by omega)])) <;> rfl) | (exfalso; omega)
                exact e_iret (pc := 119) dX7_comer_119 rfl (by rw [← hQ_]; exact ⟨by rw [zan], znx.symm⟩)
              · skip
                refine e_iloadn (pc := 111) dX7_comer_111 rfl rfl ?_
                refine e_goto (pc := 112) (tgt := 116) dX7_comer_112 rfl ?_
                refine e_iastm (pc := 116) (mem2 := mset (mset (mset (mset (mset mem 1 0 ((mem 1 0) + 1)) 2 ((mem 1 0).toNat) a) 3 ((mem 1 0).toNat) b) 18 ((mem 1 0).toNat) kind) 19 ((mem 1 0).toNat) a) dX7_comer_116 s_19 (by omega) rfl ?_
                refine e_iload (pc := 117) dX7_comer_117 rfl ?_
                have zan : an_comer mem kind a b = mem 1 0 := by
                  first | (unfold an_comer; (repeat (first | rw [if_pos (by omega)] | rw [if_neg (by omega)])) <;> rfl) | (exfalso; omega)
                have znx : nx_comer mem kind a b = mset (mset (mset (mset (mset mem 1 0 ((mem 1 0) + 1)) 2 ((mem 1 0).toNat) a) 3 ((mem 1 0).toNat) b) 18 ((mem 1 0).toNat) kind) 19 ((mem 1 0).toNat) a := by
                  first | (unfold nx_comer; (repeat (first | rw [if_pos (by omega)] | rw [if_neg (by omega)])) <;> rfl) | (exfalso; omega)
                exact e_iret (pc := 119) dX7_comer_119 rfl (by rw [← hQ_]; exact ⟨by rw [zan], znx.symm⟩)
        · skip
          refine e_bipush (pc := 33) dX7_comer_33 rfl (by decide) ?_
          have zan : an_comer mem kind a b = -4 := by
            first | (unfold an_comer; (repeat (first | rw [if_pos (by omega)] | rw [if_neg (by omega)])) <;> rfl) | (exfalso; omega)
          have znx : nx_comer mem kind a b = mem := by
            first | (unfold nx_comer; (repeat (first | rw [if_pos (by omega)] | rw [if_neg (by omega)])) <;> rfl) | (exfalso; omega)
          exact e_iret (pc := 35) dX7_comer_35 rfl (by rw [← hQ_]; exact ⟨by rw [zan], znx.symm⟩)
    · skip
      exact absurd h6 (by decide)
  · rw [if_neg zc3]
    refine e_if_ne (pc := 6) (tgt := 12) dX7_comer_6 rfl (fun h6 => ?_) (fun h6 => ?_)
    · skip
      exact absurd h6 (by decide)
    · skip
      refine e_bipush (pc := 9) dX7_comer_9 rfl (by decide) ?_
      have zan : an_comer mem kind a b = -2 := by
        first | (unfold an_comer; (repeat (first | rw [if_pos (by omega)] | rw [if_neg (by omega)])) <;> rfl) | (exfalso; omega)
      have znx : nx_comer mem kind a b = mem := by
        first | (unfold nx_comer; (repeat (first | rw [if_pos (by omega)] | rw [if_neg (by omega)])) <;> rfl) | (exfalso; omega)
      exact e_iret (pc := 11) dX7_comer_11 rfl (by rw [← hQ_]; exact ⟨by rw [zan], znx.symm⟩)

def an_aim (A : Mem) (comer minute : Int) : Int := if (0 ≤ comer ∧ comer < 8 ∧ A 18 comer.toNat = 0) ∧ 0 ≤ minute ∧ minute ≤ 60 then A 19 comer.toNat else -2
def nx_aim (A : Mem) (comer minute : Int) : Mem := if (0 ≤ comer ∧ comer < 8 ∧ A 18 comer.toNat = 0) ∧ 0 ≤ minute ∧ minute ≤ 60 then mset A 19 comer.toNat minute else A

theorem c_aim (G : Gm) (mem : Mem) (comer minute : Int)  : Con G mX7_aim [(2, 0), (0, comer), (0, minute)] mem (fun r m' => r = some (0, an_aim mem comer minute) ∧ m' = nx_aim mem comer minute) := by
  refine Con.of (lo := [(2, 0), (0, comer), (0, minute), (3, 0)]) (by decide +kernel) (Nat.le_of_ble_eq_true rfl) rfl ?_
  generalize hQ_ : (fun r m' => r = some (0, an_aim mem comer minute) ∧ m' = nx_aim mem comer minute : Option AV → Mem → Prop) = Q_
  refine e_aloadn (pc := 0) dX7_aim_0 rfl rfl ?_
  refine e_iloadn (pc := 1) dX7_aim_1 rfl rfl ?_
  refine e_callVr (pc := 2) (as := [(0, comer)]) (st := []) (v := (0, if 0 ≤ comer ∧ comer < 8 ∧ mem 18 comer.toNat = 0 then 1 else 0)) (t_isPlain G mem comer) dX7_aim_2 lX7_aim_88 rfl s_0 cn_7 rfl rfl ?_
  by_cases zc2 : 0 ≤ comer ∧ comer < 8 ∧ mem 18 comer.toNat = 0
  · rw [if_pos zc2]
    refine e_if_eq (pc := 5) (tgt := 15) dX7_aim_5 rfl (fun h5 => ?_) (fun h5 => ?_)
    · skip
      exact absurd h5 (by decide)
    · skip
      refine e_iloadn (pc := 8) dX7_aim_8 rfl rfl ?_
      refine e_callSr (pc := 9) (as := [(0, minute)]) (st := []) (v := (0, if 0 ≤ minute ∧ minute ≤ 60 then 1 else 0)) (t_mayAim G mem minute) dX7_aim_9 lX7_aim_92 rfl rfl rfl ?_
      by_cases zc9 : 0 ≤ minute ∧ minute ≤ 60
      · rw [if_pos zc9]
        refine e_if_ne (pc := 12) (tgt := 18) dX7_aim_12 rfl (fun h12 => ?_) (fun h12 => ?_)
        · skip
          refine e_aloadn (pc := 18) dX7_aim_18 rfl rfl ?_
          refine e_getr (pc := 19) (k := 16) dX7_aim_19 fX7_28 s_0 rfl (by decide) ?_
          refine e_getr (pc := 22) (k := 19) dX7_aim_22 fX7_85 s_16 rfl (by decide) ?_
          refine e_iloadn (pc := 25) dX7_aim_25 rfl rfl ?_
          refine e_ialdv (pc := 26) (v := mem 19 comer.toNat) dX7_aim_26 s_19 (by omega) rfl ?_
          refine e_istoren (pc := 27) (lo' := [(2, 0), (0, comer), (0, minute), (0, mem 19 comer.toNat)]) dX7_aim_27 rfl rfl (by decide) rfl ?_
          refine e_aloadn (pc := 28) dX7_aim_28 rfl rfl ?_
          refine e_getr (pc := 29) (k := 16) dX7_aim_29 fX7_28 s_0 rfl (by decide) ?_
          refine e_getr (pc := 32) (k := 19) dX7_aim_32 fX7_85 s_16 rfl (by decide) ?_
          refine e_iloadn (pc := 35) dX7_aim_35 rfl rfl ?_
          refine e_iloadn (pc := 36) dX7_aim_36 rfl rfl ?_
          refine e_iastm (pc := 37) (mem2 := mset mem 19 comer.toNat minute) dX7_aim_37 s_19 (by omega) rfl ?_
          refine e_iloadn (pc := 38) dX7_aim_38 rfl rfl ?_
          have zan : an_aim mem comer minute = mem 19 comer.toNat := by
            first | (unfold an_aim; (repeat (first | rw [if_pos (by omega)] | rw [if_neg (by omega)])) <;> rfl) | (exfalso; omega)
          have znx : nx_aim mem comer minute = mset mem 19 comer.toNat minute := by
            first | (unfold nx_aim; (repeat (first | rw [if_pos (by omega)] | rw [if_neg (by omega)])) <;> rfl) | (exfalso; omega)
          exact e_iret (pc := 39) dX7_aim_39 rfl (by rw [← hQ_]; exact ⟨by rw [zan], znx.symm⟩)
        · skip
          exact absurd h12 (by decide)
      · rw [if_neg zc9]
        refine e_if_ne (pc := 12) (tgt := 18) dX7_aim_12 rfl (fun h12 => ?_) (fun h12 => ?_)
        · skip
          exact absurd h12 (by decide)
        · skip
          refine e_bipush (pc := 15) dX7_aim_15 rfl (by decide) ?_
          have zan : an_aim mem comer minute = -2 := by
            first | (unfold an_aim; (repeat (first | rw [if_pos (by omega)] | rw [if_neg (by omega)])) <;> rfl) | (exfalso; omega)
          have znx : nx_aim mem comer minute = mem := by
            first | (unfold nx_aim; (repeat (first | rw [if_pos (by omega)] | rw [if_neg (by omega)])) <;> rfl) | (exfalso; omega)
          exact e_iret (pc := 17) dX7_aim_17 rfl (by rw [← hQ_]; exact ⟨by rw [zan], znx.symm⟩)
  · rw [if_neg zc2]
    refine e_if_eq (pc := 5) (tgt := 15) dX7_aim_5 rfl (fun h5 => ?_) (fun h5 => ?_)
    · skip
      refine e_bipush (pc := 15) dX7_aim_15 rfl (by decide) ?_
      have zan : an_aim mem comer minute = -2 := by
        first | (unfold an_aim; (repeat (first | rw [if_pos (by omega)] | rw [if_neg (by omega)])) <;> rfl) | (exfalso; omega)
      have znx : nx_aim mem comer minute = mem := by
        first | (unfold nx_aim; (repeat (first | rw [if_pos (by omega)] | rw [if_neg (by omega)])) <;> rfl) | (exfalso; omega)
      exact e_iret (pc := 17) dX7_aim_17 rfl (by rw [← hQ_]; exact ⟨by rw [zan], znx.symm⟩)
    · skip
      exact absurd h5 (by decide)

def an_set (A : Mem) (wh v : Int) : Int := if (wh = 0 ∧ 0 ≤ v ∧ v ≤ 59) ∨ ((wh = 1 ∨ wh = 2) ∧ 0 ≤ v ∧ v ≤ 99) then A 17 wh.toNat else -2
def nx_set (A : Mem) (wh v : Int) : Mem := if (wh = 0 ∧ 0 ≤ v ∧ v ≤ 59) ∨ ((wh = 1 ∨ wh = 2) ∧ 0 ≤ v ∧ v ≤ 99) then mset A 17 wh.toNat v else A

theorem c_set (G : Gm) (mem : Mem) (wh v : Int)  : Con G mX7_set [(2, 0), (0, wh), (0, v)] mem (fun r m' => r = some (0, an_set mem wh v) ∧ m' = nx_set mem wh v) := by
  refine Con.of (lo := [(2, 0), (0, wh), (0, v), (3, 0)]) (by decide +kernel) (Nat.le_of_ble_eq_true rfl) rfl ?_
  generalize hQ_ : (fun r m' => r = some (0, an_set mem wh v) ∧ m' = nx_set mem wh v : Option AV → Mem → Prop) = Q_
  refine e_iloadn (pc := 0) dX7_set_0 rfl rfl ?_
  refine e_if_lt (pc := 1) (tgt := 22) dX7_set_1 rfl (fun h1 => ?_) (fun h1 => ?_)
  · skip
    refine e_bipush (pc := 22) dX7_set_22 rfl (by decide) ?_
    have zan : an_set mem wh v = -2 := by
      first | (unfold an_set; (repeat (first | rw [if_pos (by omega)] | rw [if_neg (by omega)])) <;> rfl) | (exfalso; omega)
    have znx : nx_set mem wh v = mem := by
      first | (unfold nx_set; (repeat (first | rw [if_pos (by omega)] | rw [if_neg (by omega)])) <;> rfl) | (exfalso; omega)
    exact e_iret (pc := 24) dX7_set_24 rfl (by rw [← hQ_]; exact ⟨by rw [zan], znx.symm⟩)
  · skip
    refine e_iloadn (pc := 4) dX7_set_4 rfl rfl ?_
    refine e_iconst (pc := 5) dX7_set_5 (by decide) ?_
    refine e_icmp_gt (pc := 6) (tgt := 22) dX7_set_6 rfl (fun h6 => ?_) (fun h6 => ?_)
    · skip
      refine e_bipush (pc := 22) dX7_set_22 rfl (by decide) ?_
      have zan : an_set mem wh v = -2 := by
        first | (unfold an_set; (repeat (first | rw [if_pos (by omega)] | rw [if_neg (by omega)])) <;> rfl) | (exfalso; omega)
      have znx : nx_set mem wh v = mem := by
        first | (unfold nx_set; (repeat (first | rw [if_pos (by omega)] | rw [if_neg (by omega)])) <;> rfl) | (exfalso; omega)
      exact e_iret (pc := 24) dX7_set_24 rfl (by rw [← hQ_]; exact ⟨by rw [zan], znx.symm⟩)
    · skip
      refine e_iloadn (pc := 9) dX7_set_9 rfl rfl ?_
      refine e_if_lt (pc := 10) (tgt := 22) dX7_set_10 rfl (fun h10 => ?_) (fun h10 => ?_)
      · skip
        refine e_bipush (pc := 22) dX7_set_22 rfl (by decide) ?_
        have zan : an_set mem wh v = -2 := by
          first | (unfold an_set; (repeat (first | rw [if_pos (by omega)] | rw [if_neg (by omega)])) <;> rfl) | (exfalso; omega)
        have znx : nx_set mem wh v = mem := by
          first | (unfold nx_set; (repeat (first | rw [if_pos (by omega)] | rw [if_neg (by omega)])) <;> rfl) | (exfalso; omega)
        exact e_iret (pc := 24) dX7_set_24 rfl (by rw [← hQ_]; exact ⟨by rw [zan], znx.symm⟩)
      · skip
        rcases (show wh = 0 ∨ wh = 1 ∨ wh = 2 by omega) with rfl | rfl | rfl
        · skip
          refine e_iloadn (pc := 13) dX7_set_13 rfl rfl ?_
          refine e_gets (pc := 14) (k := 3) dX7_set_14 (by decide) fX7_124 ?_
          refine e_iloadn (pc := 17) dX7_set_17 rfl rfl ?_
          refine e_siald (pc := 18) (k := 3) dX7_set_18 (by decide) (by decide) (by decide) ?_
          rw [show (stV 3).getD (0 : Int).toNat 0 = 59 from rfl]
          refine e_icmp_le (pc := 19) (tgt := 25) dX7_set_19 rfl (fun h19 => ?_) (fun h19 => ?_)
          · skip
            refine e_aloadn (pc := 25) dX7_set_25 rfl rfl ?_
            refine e_getr (pc := 26) (k := 16) dX7_set_26 fX7_28 s_0 rfl (by decide) ?_
            refine e_getr (pc := 29) (k := 17) dX7_set_29 fX7_127 s_16 rfl (by decide) ?_
            refine e_iloadn (pc := 32) dX7_set_32 rfl rfl ?_
            refine e_ialdv (pc := 33) (v := mem 17 0) dX7_set_33 s_17 (by omega) rfl ?_
            refine e_istoren (pc := 34) (lo' := [(2, 0), (0, 0), (0, v), (0, mem 17 0)]) dX7_set_34 rfl rfl (by decide) rfl ?_
            refine e_aloadn (pc := 35) dX7_set_35 rfl rfl ?_
            refine e_getr (pc := 36) (k := 16) dX7_set_36 fX7_28 s_0 rfl (by decide) ?_
            refine e_getr (pc := 39) (k := 17) dX7_set_39 fX7_127 s_16 rfl (by decide) ?_
            refine e_iloadn (pc := 42) dX7_set_42 rfl rfl ?_
            refine e_iloadn (pc := 43) dX7_set_43 rfl rfl ?_
            refine e_iastm (pc := 44) (mem2 := mset mem 17 0 v) dX7_set_44 s_17 (by omega) rfl ?_
            refine e_iloadn (pc := 45) dX7_set_45 rfl rfl ?_
            have zan : an_set mem 0 v = mem 17 0 := by
              first | (unfold an_set; (repeat (first | rw [if_pos (by omega)] | rw [if_neg (by omega)])) <;> rfl) | (exfalso; omega)
            have znx : nx_set mem 0 v = mset mem 17 0 v := by
              first | (unfold nx_set; (repeat (first | rw [if_pos (by omega)] | rw [if_neg (by omega)])) <;> rfl) | (exfalso; omega)
            exact e_iret (pc := 46) dX7_set_46 rfl (by rw [← hQ_]; exact ⟨by rw [zan], znx.symm⟩)
          · skip
            refine e_bipush (pc := 22) dX7_set_22 rfl (by decide) ?_
            have zan : an_set mem 0 v = -2 := by
              first | (unfold an_set; (repeat (first | rw [if_pos (by omega)] | rw [if_neg (by omega)])) <;> rfl) | (exfalso; omega)
            have znx : nx_set mem 0 v = mem := by
              first | (unfold nx_set; (repeat (first | rw [if_pos (by omega)] | rw [if_neg (by omega)])) <;> rfl) | (exfalso; omega)
            exact e_iret (pc := 24) dX7_set_24 rfl (by rw [← hQ_]; exact ⟨by rw [zan], znx.symm⟩)
        · skip
          refine e_iloadn (pc := 13) dX7_set_13 rfl rfl ?_
          refine e_gets (pc := 14) (k := 3) dX7_set_14 (by decide) fX7_124 ?_
          refine e_iloadn (pc := 17) dX7_set_17 rfl rfl ?_
          refine e_siald (pc := 18) (k := 3) dX7_set_18 (by decide) (by decide) (by decide) ?_
          rw [show (stV 3).getD (1 : Int).toNat 0 = 99 from rfl]
          refine e_icmp_le (pc := 19) (tgt := 25) dX7_set_19 rfl (fun h19 => ?_) (fun h19 => ?_)
          · skip
            refine e_aloadn (pc := 25) dX7_set_25 rfl rfl ?_
            refine e_getr (pc := 26) (k := 16) dX7_set_26 fX7_28 s_0 rfl (by decide) ?_
            refine e_getr (pc := 29) (k := 17) dX7_set_29 fX7_127 s_16 rfl (by decide) ?_
            refine e_iloadn (pc := 32) dX7_set_32 rfl rfl ?_
            refine e_ialdv (pc := 33) (v := mem 17 1) dX7_set_33 s_17 (by omega) rfl ?_
            refine e_istoren (pc := 34) (lo' := [(2, 0), (0, 1), (0, v), (0, mem 17 1)]) dX7_set_34 rfl rfl (by decide) rfl ?_
            refine e_aloadn (pc := 35) dX7_set_35 rfl rfl ?_
            refine e_getr (pc := 36) (k := 16) dX7_set_36 fX7_28 s_0 rfl (by decide) ?_
            refine e_getr (pc := 39) (k := 17) dX7_set_39 fX7_127 s_16 rfl (by decide) ?_
            refine e_iloadn (pc := 42) dX7_set_42 rfl rfl ?_
            refine e_iloadn (pc := 43) dX7_set_43 rfl rfl ?_
            refine e_iastm (pc := 44) (mem2 := mset mem 17 1 v) dX7_set_44 s_17 (by omega) rfl ?_
            refine e_iloadn (pc := 45) dX7_set_45 rfl rfl ?_
            have zan : an_set mem 1 v = mem 17 1 := by
              first | (unfold an_set; (repeat (first | rw [if_pos (by omega)] | rw [if_neg (by omega)])) <;> rfl) | (exfalso; omega)
            have znx : nx_set mem 1 v = mset mem 17 1 v := by
              first | (unfold nx_set; (repeat (first | rw [if_pos (by omega)] | rw [if_neg (by omega)])) <;> rfl) | (exfalso; omega)
            exact e_iret (pc := 46) dX7_set_46 rfl (by rw [← hQ_]; exact ⟨by rw [zan], znx.symm⟩)
          · skip
            refine e_bipush (pc := 22) dX7_set_22 rfl (by decide) ?_
            have zan : an_set mem 1 v = -2 := by
              first | (unfold an_set; (repeat (first | rw [if_pos (by omega)] | rw [if_neg (by omega)])) <;> rfl) | (exfalso; omega)
            have znx : nx_set mem 1 v = mem := by
              first | (unfold nx_set; (repeat (first | rw [if_pos (by omega)] | rw [if_neg (by omega)])) <;> rfl) | (exfalso; omega)
            exact e_iret (pc := 24) dX7_set_24 rfl (by rw [← hQ_]; exact ⟨by rw [zan], znx.symm⟩)
        · skip
          refine e_iloadn (pc := 13) dX7_set_13 rfl rfl ?_
          refine e_gets (pc := 14) (k := 3) dX7_set_14 (by decide) fX7_124 ?_
          refine e_iloadn (pc := 17) dX7_set_17 rfl rfl ?_
          refine e_siald (pc := 18) (k := 3) dX7_set_18 (by decide) (by decide) (by decide) ?_
          rw [show (stV 3).getD (2 : Int).toNat 0 = 99 from rfl]
          refine e_icmp_le (pc := 19) (tgt := 25) dX7_set_19 rfl (fun h19 => ?_) (fun h19 => ?_)
          · skip
            refine e_aloadn (pc := 25) dX7_set_25 rfl rfl ?_
            refine e_getr (pc := 26) (k := 16) dX7_set_26 fX7_28 s_0 rfl (by decide) ?_
            refine e_getr (pc := 29) (k := 17) dX7_set_29 fX7_127 s_16 rfl (by decide) ?_
            refine e_iloadn (pc := 32) dX7_set_32 rfl rfl ?_
            refine e_ialdv (pc := 33) (v := mem 17 2) dX7_set_33 s_17 (by omega) rfl ?_
            refine e_istoren (pc := 34) (lo' := [(2, 0), (0, 2), (0, v), (0, mem 17 2)]) dX7_set_34 rfl rfl (by decide) rfl ?_
            refine e_aloadn (pc := 35) dX7_set_35 rfl rfl ?_
            refine e_getr (pc := 36) (k := 16) dX7_set_36 fX7_28 s_0 rfl (by decide) ?_
            refine e_getr (pc := 39) (k := 17) dX7_set_39 fX7_127 s_16 rfl (by decide) ?_
            refine e_iloadn (pc := 42) dX7_set_42 rfl rfl ?_
            refine e_iloadn (pc := 43) dX7_set_43 rfl rfl ?_
            refine e_iastm (pc := 44) (mem2 := mset mem 17 2 v) dX7_set_44 s_17 (by omega) rfl ?_
            refine e_iloadn (pc := 45) dX7_set_45 rfl rfl ?_
            have zan : an_set mem 2 v = mem 17 2 := by
              first | (unfold an_set; (repeat (first | rw [if_pos (by omega)] | rw [if_neg (by omega)])) <;> rfl) | (exfalso; omega)
            have znx : nx_set mem 2 v = mset mem 17 2 v := by
              first | (unfold nx_set; (repeat (first | rw [if_pos (by omega)] | rw [if_neg (by omega)])) <;> rfl) | (exfalso; omega)
            exact e_iret (pc := 46) dX7_set_46 rfl (by rw [← hQ_]; exact ⟨by rw [zan], znx.symm⟩)
          · skip
            refine e_bipush (pc := 22) dX7_set_22 rfl (by decide) ?_
            have zan : an_set mem 2 v = -2 := by
              first | (unfold an_set; (repeat (first | rw [if_pos (by omega)] | rw [if_neg (by omega)])) <;> rfl) | (exfalso; omega)
            have znx : nx_set mem 2 v = mem := by
              first | (unfold nx_set; (repeat (first | rw [if_pos (by omega)] | rw [if_neg (by omega)])) <;> rfl) | (exfalso; omega)
            exact e_iret (pc := 24) dX7_set_24 rfl (by rw [← hQ_]; exact ⟨by rw [zan], znx.symm⟩)

def an_cost (A : Mem) (comer wh v : Int) : Int := if (0 ≤ comer ∧ comer < 8 ∧ A 18 comer.toNat ≠ -1) ∧ (((wh = 0 ∨ wh = 1) ∧ 0 ≤ v ∧ v ≤ 99) ∨ (wh = 2 ∧ 0 ≤ v ∧ v ≤ 999) ∨ (A 18 comer.toNat ≠ 2 ∧ ((wh = 3 ∧ 0 ≤ v ∧ v ≤ 15) ∨ (wh = 4 ∧ 1 ≤ v ∧ v ≤ 30)))) then A (5 + wh.toNat) comer.toNat else -2
def nx_cost (A : Mem) (comer wh v : Int) : Mem := if (0 ≤ comer ∧ comer < 8 ∧ A 18 comer.toNat ≠ -1) ∧ (((wh = 0 ∨ wh = 1) ∧ 0 ≤ v ∧ v ≤ 99) ∨ (wh = 2 ∧ 0 ≤ v ∧ v ≤ 999) ∨ (A 18 comer.toNat ≠ 2 ∧ ((wh = 3 ∧ 0 ≤ v ∧ v ≤ 15) ∨ (wh = 4 ∧ 1 ≤ v ∧ v ≤ 30)))) then mset A (5 + wh.toNat) comer.toNat v else A

theorem c_cost (G : Gm) (mem : Mem) (comer wh v : Int)  : Con G mX7_cost [(2, 0), (0, comer), (0, wh), (0, v)] mem (fun r m' => r = some (0, an_cost mem comer wh v) ∧ m' = nx_cost mem comer wh v) := by
  refine Con.of (lo := [(2, 0), (0, comer), (0, wh), (0, v), (3, 0)]) (by decide +kernel) (Nat.le_of_ble_eq_true rfl) rfl ?_
  generalize hQ_ : (fun r m' => r = some (0, an_cost mem comer wh v) ∧ m' = nx_cost mem comer wh v : Option AV → Mem → Prop) = Q_
  refine e_aloadn (pc := 0) dX7_cost_0 rfl rfl ?_
  refine e_iloadn (pc := 1) dX7_cost_1 rfl rfl ?_
  refine e_callVr (pc := 2) (as := [(0, comer)]) (st := []) (v := (0, if 0 ≤ comer ∧ comer < 8 ∧ mem 18 comer.toNat ≠ -1 then 1 else 0)) (t_isComer G mem comer) dX7_cost_2 lX7_cost_112 rfl s_0 cn_7 rfl rfl ?_
  by_cases zc2 : 0 ≤ comer ∧ comer < 8 ∧ mem 18 comer.toNat ≠ -1
  · rw [if_pos zc2]
    refine e_if_eq (pc := 5) (tgt := 35) dX7_cost_5 rfl (fun h5 => ?_) (fun h5 => ?_)
    · skip
      exact absurd h5 (by decide)
    · skip
      refine e_iloadn (pc := 8) dX7_cost_8 rfl rfl ?_
      refine e_if_lt (pc := 9) (tgt := 35) dX7_cost_9 rfl (fun h9 => ?_) (fun h9 => ?_)
      · skip
        refine e_bipush (pc := 35) dX7_cost_35 rfl (by decide) ?_
        have zan : an_cost mem comer wh v = -2 := by
          first | (unfold an_cost; (repeat (first | rw [if_pos (by omega)] | rw [if_neg (by omega)])) <;> rfl) | (exfalso; omega)
        have znx : nx_cost mem comer wh v = mem := by
          first | (unfold nx_cost; (repeat (first | rw [if_pos (by omega)] | rw [if_neg (by omega)])) <;> rfl) | (exfalso; omega)
        exact e_iret (pc := 37) dX7_cost_37 rfl (by rw [← hQ_]; exact ⟨by rw [zan], znx.symm⟩)
      · skip
        refine e_iloadn (pc := 12) dX7_cost_12 rfl rfl ?_
        refine e_iconst (pc := 13) dX7_cost_13 (by decide) ?_
        refine e_icmp_gt (pc := 14) (tgt := 35) dX7_cost_14 rfl (fun h14 => ?_) (fun h14 => ?_)
        · skip
          refine e_bipush (pc := 35) dX7_cost_35 rfl (by decide) ?_
          have zan : an_cost mem comer wh v = -2 := by
            first | (unfold an_cost; (repeat (first | rw [if_pos (by omega)] | rw [if_neg (by omega)])) <;> rfl) | (exfalso; omega)
          have znx : nx_cost mem comer wh v = mem := by
            first | (unfold nx_cost; (repeat (first | rw [if_pos (by omega)] | rw [if_neg (by omega)])) <;> rfl) | (exfalso; omega)
          exact e_iret (pc := 37) dX7_cost_37 rfl (by rw [← hQ_]; exact ⟨by rw [zan], znx.symm⟩)
        · skip
          rcases (show wh = 0 ∨ wh = 1 ∨ wh = 2 ∨ wh = 3 ∨ wh = 4 by omega) with rfl | rfl | rfl | rfl | rfl
          · skip
            refine e_iloadn (pc := 17) dX7_cost_17 rfl rfl ?_
            refine e_gets (pc := 18) (k := 1) dX7_cost_18 (by decide) fX7_115 ?_
            refine e_iloadn (pc := 21) dX7_cost_21 rfl rfl ?_
            refine e_siald (pc := 22) (k := 1) dX7_cost_22 (by decide) (by decide) (by decide) ?_
            rw [show (stV 1).getD (0 : Int).toNat 0 = 0 from rfl]
            refine e_icmp_lt (pc := 23) (tgt := 35) dX7_cost_23 rfl (fun h23 => ?_) (fun h23 => ?_)
            · skip
              refine e_bipush (pc := 35) dX7_cost_35 rfl (by decide) ?_
              have zan : an_cost mem comer 0 v = -2 := by
                first | (unfold an_cost; (repeat (first | rw [if_pos (by omega)] | rw [if_neg (by omega)])) <;> rfl) | (exfalso; omega)
              have znx : nx_cost mem comer 0 v = mem := by
                first | (unfold nx_cost; (repeat (first | rw [if_pos (by omega)] | rw [if_neg (by omega)])) <;> rfl) | (exfalso; omega)
              exact e_iret (pc := 37) dX7_cost_37 rfl (by rw [← hQ_]; exact ⟨by rw [zan], znx.symm⟩)
            · skip
              refine e_iloadn (pc := 26) dX7_cost_26 rfl rfl ?_
              refine e_gets (pc := 27) (k := 2) dX7_cost_27 (by decide) fX7_118 ?_
              refine e_iloadn (pc := 30) dX7_cost_30 rfl rfl ?_
              refine e_siald (pc := 31) (k := 2) dX7_cost_31 (by decide) (by decide) (by decide) ?_
              rw [show (stV 2).getD (0 : Int).toNat 0 = 99 from rfl]
              refine e_icmp_le (pc := 32) (tgt := 38) dX7_cost_32 rfl (fun h32 => ?_) (fun h32 => ?_)
              · skip
                refine e_aloadn (pc := 38) dX7_cost_38 rfl rfl ?_
                refine e_getr (pc := 39) (k := 16) dX7_cost_39 fX7_28 s_0 rfl (by decide) ?_
                refine e_getr (pc := 42) (k := 18) dX7_cost_42 fX7_82 s_16 rfl (by decide) ?_
                refine e_iloadn (pc := 45) dX7_cost_45 rfl rfl ?_
                refine e_ialdv (pc := 46) (v := mem 18 comer.toNat) dX7_cost_46 s_18 (by omega) rfl ?_
                refine e_iconst (pc := 47) dX7_cost_47 (by decide) ?_
                refine e_icmp_ne (pc := 48) (tgt := 64) dX7_cost_48 rfl (fun h48 => ?_) (fun h48 => ?_)
                · skip
                  refine e_aloadn (pc := 64) dX7_cost_64 rfl rfl ?_
                  refine e_getr (pc := 65) (k := 1) dX7_cost_65 fX7_12 s_0 rfl (by decide) ?_
                  refine e_getr (pc := 68) (k := 4) dX7_cost_68 fX7_121 s_1 rfl (by decide) ?_
                  refine e_iloadn (pc := 71) dX7_cost_71 rfl rfl ?_
                  refine e_aald (pc := 72) dX7_cost_72 s_4 (by omega) ?_
                  refine Ev.to (st' := [(2, 5)]) ?_ rfl rfl rfl
                  refine e_iloadn (pc := 73) dX7_cost_73 rfl rfl ?_
                  refine e_ialdv (pc := 74) (v := mem 5 comer.toNat) dX7_cost_74 s_5 (by omega) rfl ?_
                  refine e_istore (pc := 75) (lo' := [(2, 0), (0, comer), (0, 0), (0, v), (0, mem 5 comer.toNat)]) dX7_cost_75 rfl (by decide) rfl ?_
                  refine e_aloadn (pc := 77) dX7_cost_77 rfl rfl ?_
                  refine e_getr (pc := 78) (k := 1) dX7_cost_78 fX7_12 s_0 rfl (by decide) ?_
                  refine e_getr (pc := 81) (k := 4) dX7_cost_81 fX7_121 s_1 rfl (by decide) ?_
                  refine e_iloadn (pc := 84) dX7_cost_84 rfl rfl ?_
                  refine e_aald (pc := 85) dX7_cost_85 s_4 (by omega) ?_
                  refine Ev.to (st' := [(2, 5)]) ?_ rfl rfl rfl
                  refine e_iloadn (pc := 86) dX7_cost_86 rfl rfl ?_
                  refine e_iloadn (pc := 87) dX7_cost_87 rfl rfl ?_
                  refine e_iastm (pc := 88) (mem2 := mset mem 5 comer.toNat v) dX7_cost_88 s_5 (by omega) rfl ?_
                  refine e_iload (pc := 89) dX7_cost_89 rfl ?_
                  have zan : an_cost mem comer 0 v = mem 5 comer.toNat := by
                    first | (unfold an_cost; (repeat (first | rw [if_pos (by omega)] | rw [if_neg (by omega)])) <;> rfl) | (exfalso; omega)
                  have znx : nx_cost mem comer 0 v = mset mem 5 comer.toNat v := by
                    first | (unfold nx_cost; (repeat (first | rw [if_pos (by omega)] | rw [if_neg (by omega)])) <;> rfl) | (exfalso; omega)
                  exact e_iret (pc := 91) dX7_cost_91 rfl (by rw [← hQ_]; exact ⟨by rw [zan], znx.symm⟩)
                · skip
                  refine e_iloadn (pc := 51) dX7_cost_51 rfl rfl ?_
                  refine e_iconst (pc := 52) dX7_cost_52 (by decide) ?_
                  refine e_icmp_eq (pc := 53) (tgt := 61) dX7_cost_53 rfl (fun h53 => ?_) (fun h53 => ?_)
                  · skip
                    exact absurd h53 (by decide)
                  · skip
                    refine e_iloadn (pc := 56) dX7_cost_56 rfl rfl ?_
                    refine e_iconst (pc := 57) dX7_cost_57 (by decide) ?_
                    refine e_icmp_ne (pc := 58) (tgt := 64) dX7_cost_58 rfl (fun h58 => ?_) (fun h58 => ?_)
                    · skip
                      refine e_aloadn (pc := 64) dX7_cost_64 rfl rfl ?_
                      refine e_getr (pc := 65) (k := 1) dX7_cost_65 fX7_12 s_0 rfl (by decide) ?_
                      refine e_getr (pc := 68) (k := 4) dX7_cost_68 fX7_121 s_1 rfl (by decide) ?_
                      refine e_iloadn (pc := 71) dX7_cost_71 rfl rfl ?_
                      refine e_aald (pc := 72) dX7_cost_72 s_4 (by omega) ?_
                      refine Ev.to (st' := [(2, 5)]) ?_ rfl rfl rfl
                      refine e_iloadn (pc := 73) dX7_cost_73 rfl rfl ?_
                      refine e_ialdv (pc := 74) (v := mem 5 comer.toNat) dX7_cost_74 s_5 (by omega) rfl ?_
                      refine e_istore (pc := 75) (lo' := [(2, 0), (0, comer), (0, 0), (0, v), (0, mem 5 comer.toNat)]) dX7_cost_75 rfl (by decide) rfl ?_
                      refine e_aloadn (pc := 77) dX7_cost_77 rfl rfl ?_
                      refine e_getr (pc := 78) (k := 1) dX7_cost_78 fX7_12 s_0 rfl (by decide) ?_
                      refine e_getr (pc := 81) (k := 4) dX7_cost_81 fX7_121 s_1 rfl (by decide) ?_
                      refine e_iloadn (pc := 84) dX7_cost_84 rfl rfl ?_
                      refine e_aald (pc := 85) dX7_cost_85 s_4 (by omega) ?_
                      refine Ev.to (st' := [(2, 5)]) ?_ rfl rfl rfl
                      refine e_iloadn (pc := 86) dX7_cost_86 rfl rfl ?_
                      refine e_iloadn (pc := 87) dX7_cost_87 rfl rfl ?_
                      refine e_iastm (pc := 88) (mem2 := mset mem 5 comer.toNat v) dX7_cost_88 s_5 (by omega) rfl ?_
                      refine e_iload (pc := 89) dX7_cost_89 rfl ?_
                      have zan : an_cost mem comer 0 v = mem 5 comer.toNat := by
                        first | (unfold an_cost; (repeat (first | rw [if_pos (by omega)] | rw [if_neg (by omega)])) <;> rfl) | (exfalso; omega)
                      have znx : nx_cost mem comer 0 v = mset mem 5 comer.toNat v := by
                        first | (unfold nx_cost; (repeat (first | rw [if_pos (by omega)] | rw [if_neg (by omega)])) <;> rfl) | (exfalso; omega)
                      exact e_iret (pc := 91) dX7_cost_91 rfl (by rw [← hQ_]; exact ⟨by rw [zan], znx.symm⟩)
                    · skip
                      exact absurd h58 (by decide)
              · skip
                refine e_bipush (pc := 35) dX7_cost_35 rfl (by decide) ?_
                have zan : an_cost mem comer 0 v = -2 := by
                  first | (unfold an_cost; (repeat (first | rw [if_pos (by omega)] | rw [if_neg (by omega)])) <;> rfl) | (exfalso; omega)
                have znx : nx_cost mem comer 0 v = mem := by
                  first | (unfold nx_cost; (repeat (first | rw [if_pos (by omega)] | rw [if_neg (by omega)])) <;> rfl) | (exfalso; omega)
                exact e_iret (pc := 37) dX7_cost_37 rfl (by rw [← hQ_]; exact ⟨by rw [zan], znx.symm⟩)
          · skip
            refine e_iloadn (pc := 17) dX7_cost_17 rfl rfl ?_
            refine e_gets (pc := 18) (k := 1) dX7_cost_18 (by decide) fX7_115 ?_
            refine e_iloadn (pc := 21) dX7_cost_21 rfl rfl ?_
            refine e_siald (pc := 22) (k := 1) dX7_cost_22 (by decide) (by decide) (by decide) ?_
            rw [show (stV 1).getD (1 : Int).toNat 0 = 0 from rfl]
            refine e_icmp_lt (pc := 23) (tgt := 35) dX7_cost_23 rfl (fun h23 => ?_) (fun h23 => ?_)
            · skip
              refine e_bipush (pc := 35) dX7_cost_35 rfl (by decide) ?_
              have zan : an_cost mem comer 1 v = -2 := by
                first | (unfold an_cost; (repeat (first | rw [if_pos (by omega)] | rw [if_neg (by omega)])) <;> rfl) | (exfalso; omega)
              have znx : nx_cost mem comer 1 v = mem := by
                first | (unfold nx_cost; (repeat (first | rw [if_pos (by omega)] | rw [if_neg (by omega)])) <;> rfl) | (exfalso; omega)
              exact e_iret (pc := 37) dX7_cost_37 rfl (by rw [← hQ_]; exact ⟨by rw [zan], znx.symm⟩)
            · skip
              refine e_iloadn (pc := 26) dX7_cost_26 rfl rfl ?_
              refine e_gets (pc := 27) (k := 2) dX7_cost_27 (by decide) fX7_118 ?_
              refine e_iloadn (pc := 30) dX7_cost_30 rfl rfl ?_
              refine e_siald (pc := 31) (k := 2) dX7_cost_31 (by decide) (by decide) (by decide) ?_
              rw [show (stV 2).getD (1 : Int).toNat 0 = 99 from rfl]
              refine e_icmp_le (pc := 32) (tgt := 38) dX7_cost_32 rfl (fun h32 => ?_) (fun h32 => ?_)
              · skip
                refine e_aloadn (pc := 38) dX7_cost_38 rfl rfl ?_
                refine e_getr (pc := 39) (k := 16) dX7_cost_39 fX7_28 s_0 rfl (by decide) ?_
                refine e_getr (pc := 42) (k := 18) dX7_cost_42 fX7_82 s_16 rfl (by decide) ?_
                refine e_iloadn (pc := 45) dX7_cost_45 rfl rfl ?_
                refine e_ialdv (pc := 46) (v := mem 18 comer.toNat) dX7_cost_46 s_18 (by omega) rfl ?_
                refine e_iconst (pc := 47) dX7_cost_47 (by decide) ?_
                refine e_icmp_ne (pc := 48) (tgt := 64) dX7_cost_48 rfl (fun h48 => ?_) (fun h48 => ?_)
                · skip
                  refine e_aloadn (pc := 64) dX7_cost_64 rfl rfl ?_
                  refine e_getr (pc := 65) (k := 1) dX7_cost_65 fX7_12 s_0 rfl (by decide) ?_
                  refine e_getr (pc := 68) (k := 4) dX7_cost_68 fX7_121 s_1 rfl (by decide) ?_
                  refine e_iloadn (pc := 71) dX7_cost_71 rfl rfl ?_
                  refine e_aald (pc := 72) dX7_cost_72 s_4 (by omega) ?_
                  refine Ev.to (st' := [(2, 6)]) ?_ rfl rfl rfl
                  refine e_iloadn (pc := 73) dX7_cost_73 rfl rfl ?_
                  refine e_ialdv (pc := 74) (v := mem 6 comer.toNat) dX7_cost_74 s_6 (by omega) rfl ?_
                  refine e_istore (pc := 75) (lo' := [(2, 0), (0, comer), (0, 1), (0, v), (0, mem 6 comer.toNat)]) dX7_cost_75 rfl (by decide) rfl ?_
                  refine e_aloadn (pc := 77) dX7_cost_77 rfl rfl ?_
                  refine e_getr (pc := 78) (k := 1) dX7_cost_78 fX7_12 s_0 rfl (by decide) ?_
                  refine e_getr (pc := 81) (k := 4) dX7_cost_81 fX7_121 s_1 rfl (by decide) ?_
                  refine e_iloadn (pc := 84) dX7_cost_84 rfl rfl ?_
                  refine e_aald (pc := 85) dX7_cost_85 s_4 (by omega) ?_
                  refine Ev.to (st' := [(2, 6)]) ?_ rfl rfl rfl
                  refine e_iloadn (pc := 86) dX7_cost_86 rfl rfl ?_
                  refine e_iloadn (pc := 87) dX7_cost_87 rfl rfl ?_
                  refine e_iastm (pc := 88) (mem2 := mset mem 6 comer.toNat v) dX7_cost_88 s_6 (by omega) rfl ?_
                  refine e_iload (pc := 89) dX7_cost_89 rfl ?_
                  have zan : an_cost mem comer 1 v = mem 6 comer.toNat := by
                    first | (unfold an_cost; (repeat (first | rw [if_pos (by omega)] | rw [if_neg (by omega)])) <;> rfl) | (exfalso; omega)
                  have znx : nx_cost mem comer 1 v = mset mem 6 comer.toNat v := by
                    first | (unfold nx_cost; (repeat (first | rw [if_pos (by omega)] | rw [if_neg (by omega)])) <;> rfl) | (exfalso; omega)
                  exact e_iret (pc := 91) dX7_cost_91 rfl (by rw [← hQ_]; exact ⟨by rw [zan], znx.symm⟩)
                · skip
                  refine e_iloadn (pc := 51) dX7_cost_51 rfl rfl ?_
                  refine e_iconst (pc := 52) dX7_cost_52 (by decide) ?_
                  refine e_icmp_eq (pc := 53) (tgt := 61) dX7_cost_53 rfl (fun h53 => ?_) (fun h53 => ?_)
                  · skip
                    exact absurd h53 (by decide)
                  · skip
                    refine e_iloadn (pc := 56) dX7_cost_56 rfl rfl ?_
                    refine e_iconst (pc := 57) dX7_cost_57 (by decide) ?_
                    refine e_icmp_ne (pc := 58) (tgt := 64) dX7_cost_58 rfl (fun h58 => ?_) (fun h58 => ?_)
                    · skip
                      refine e_aloadn (pc := 64) dX7_cost_64 rfl rfl ?_
                      refine e_getr (pc := 65) (k := 1) dX7_cost_65 fX7_12 s_0 rfl (by decide) ?_
                      refine e_getr (pc := 68) (k := 4) dX7_cost_68 fX7_121 s_1 rfl (by decide) ?_
                      refine e_iloadn (pc := 71) dX7_cost_71 rfl rfl ?_
                      refine e_aald (pc := 72) dX7_cost_72 s_4 (by omega) ?_
                      refine Ev.to (st' := [(2, 6)]) ?_ rfl rfl rfl
                      refine e_iloadn (pc := 73) dX7_cost_73 rfl rfl ?_
                      refine e_ialdv (pc := 74) (v := mem 6 comer.toNat) dX7_cost_74 s_6 (by omega) rfl ?_
                      refine e_istore (pc := 75) (lo' := [(2, 0), (0, comer), (0, 1), (0, v), (0, mem 6 comer.toNat)]) dX7_cost_75 rfl (by decide) rfl ?_
                      refine e_aloadn (pc := 77) dX7_cost_77 rfl rfl ?_
                      refine e_getr (pc := 78) (k := 1) dX7_cost_78 fX7_12 s_0 rfl (by decide) ?_
                      refine e_getr (pc := 81) (k := 4) dX7_cost_81 fX7_121 s_1 rfl (by decide) ?_
                      refine e_iloadn (pc := 84) dX7_cost_84 rfl rfl ?_
                      refine e_aald (pc := 85) dX7_cost_85 s_4 (by omega) ?_
                      refine Ev.to (st' := [(2, 6)]) ?_ rfl rfl rfl
                      refine e_iloadn (pc := 86) dX7_cost_86 rfl rfl ?_
                      refine e_iloadn (pc := 87) dX7_cost_87 rfl rfl ?_
                      refine e_iastm (pc := 88) (mem2 := mset mem 6 comer.toNat v) dX7_cost_88 s_6 (by omega) rfl ?_
                      refine e_iload (pc := 89) dX7_cost_89 rfl ?_
                      have zan : an_cost mem comer 1 v = mem 6 comer.toNat := by
                        first | (unfold an_cost; (repeat (first | rw [if_pos (by omega)] | rw [if_neg (by omega)])) <;> rfl) | (exfalso; omega)
                      have znx : nx_cost mem comer 1 v = mset mem 6 comer.toNat v := by
                        first | (unfold nx_cost; (repeat (first | rw [if_pos (by omega)] | rw [if_neg (by omega)])) <;> rfl) | (exfalso; omega)
                      exact e_iret (pc := 91) dX7_cost_91 rfl (by rw [← hQ_]; exact ⟨by rw [zan], znx.symm⟩)
                    · skip
                      exact absurd h58 (by decide)
              · skip
                refine e_bipush (pc := 35) dX7_cost_35 rfl (by decide) ?_
                have zan : an_cost mem comer 1 v = -2 := by
                  first | (unfold an_cost; (repeat (first | rw [if_pos (by omega)] | rw [if_neg (by omega)])) <;> rfl) | (exfalso; omega)
                have znx : nx_cost mem comer 1 v = mem := by
                  first | (unfold nx_cost; (repeat (first | rw [if_pos (by omega)] | rw [if_neg (by omega)])) <;> rfl) | (exfalso; omega)
                exact e_iret (pc := 37) dX7_cost_37 rfl (by rw [← hQ_]; exact ⟨by rw [zan], znx.symm⟩)
          · skip
            refine e_iloadn (pc := 17) dX7_cost_17 rfl rfl ?_
            refine e_gets (pc := 18) (k := 1) dX7_cost_18 (by decide) fX7_115 ?_
            refine e_iloadn (pc := 21) dX7_cost_21 rfl rfl ?_
            refine e_siald (pc := 22) (k := 1) dX7_cost_22 (by decide) (by decide) (by decide) ?_
            rw [show (stV 1).getD (2 : Int).toNat 0 = 0 from rfl]
            refine e_icmp_lt (pc := 23) (tgt := 35) dX7_cost_23 rfl (fun h23 => ?_) (fun h23 => ?_)
            · skip
              refine e_bipush (pc := 35) dX7_cost_35 rfl (by decide) ?_
              have zan : an_cost mem comer 2 v = -2 := by
                first | (unfold an_cost; (repeat (first | rw [if_pos (by omega)] | rw [if_neg (by omega)])) <;> rfl) | (exfalso; omega)
              have znx : nx_cost mem comer 2 v = mem := by
                first | (unfold nx_cost; (repeat (first | rw [if_pos (by omega)] | rw [if_neg (by omega)])) <;> rfl) | (exfalso; omega)
              exact e_iret (pc := 37) dX7_cost_37 rfl (by rw [← hQ_]; exact ⟨by rw [zan], znx.symm⟩)
            · skip
              refine e_iloadn (pc := 26) dX7_cost_26 rfl rfl ?_
              refine e_gets (pc := 27) (k := 2) dX7_cost_27 (by decide) fX7_118 ?_
              refine e_iloadn (pc := 30) dX7_cost_30 rfl rfl ?_
              refine e_siald (pc := 31) (k := 2) dX7_cost_31 (by decide) (by decide) (by decide) ?_
              rw [show (stV 2).getD (2 : Int).toNat 0 = 999 from rfl]
              refine e_icmp_le (pc := 32) (tgt := 38) dX7_cost_32 rfl (fun h32 => ?_) (fun h32 => ?_)
              · skip
                refine e_aloadn (pc := 38) dX7_cost_38 rfl rfl ?_
                refine e_getr (pc := 39) (k := 16) dX7_cost_39 fX7_28 s_0 rfl (by decide) ?_
                refine e_getr (pc := 42) (k := 18) dX7_cost_42 fX7_82 s_16 rfl (by decide) ?_
                refine e_iloadn (pc := 45) dX7_cost_45 rfl rfl ?_
                refine e_ialdv (pc := 46) (v := mem 18 comer.toNat) dX7_cost_46 s_18 (by omega) rfl ?_
                refine e_iconst (pc := 47) dX7_cost_47 (by decide) ?_
                refine e_icmp_ne (pc := 48) (tgt := 64) dX7_cost_48 rfl (fun h48 => ?_) (fun h48 => ?_)
                · skip
                  refine e_aloadn (pc := 64) dX7_cost_64 rfl rfl ?_
                  refine e_getr (pc := 65) (k := 1) dX7_cost_65 fX7_12 s_0 rfl (by decide) ?_
                  refine e_getr (pc := 68) (k := 4) dX7_cost_68 fX7_121 s_1 rfl (by decide) ?_
                  refine e_iloadn (pc := 71) dX7_cost_71 rfl rfl ?_
                  refine e_aald (pc := 72) dX7_cost_72 s_4 (by omega) ?_
                  refine Ev.to (st' := [(2, 7)]) ?_ rfl rfl rfl
                  refine e_iloadn (pc := 73) dX7_cost_73 rfl rfl ?_
                  refine e_ialdv (pc := 74) (v := mem 7 comer.toNat) dX7_cost_74 s_7 (by omega) rfl ?_
                  refine e_istore (pc := 75) (lo' := [(2, 0), (0, comer), (0, 2), (0, v), (0, mem 7 comer.toNat)]) dX7_cost_75 rfl (by decide) rfl ?_
                  refine e_aloadn (pc := 77) dX7_cost_77 rfl rfl ?_
                  refine e_getr (pc := 78) (k := 1) dX7_cost_78 fX7_12 s_0 rfl (by decide) ?_
                  refine e_getr (pc := 81) (k := 4) dX7_cost_81 fX7_121 s_1 rfl (by decide) ?_
                  refine e_iloadn (pc := 84) dX7_cost_84 rfl rfl ?_
                  refine e_aald (pc := 85) dX7_cost_85 s_4 (by omega) ?_
                  refine Ev.to (st' := [(2, 7)]) ?_ rfl rfl rfl
                  refine e_iloadn (pc := 86) dX7_cost_86 rfl rfl ?_
                  refine e_iloadn (pc := 87) dX7_cost_87 rfl rfl ?_
                  refine e_iastm (pc := 88) (mem2 := mset mem 7 comer.toNat v) dX7_cost_88 s_7 (by omega) rfl ?_
                  refine e_iload (pc := 89) dX7_cost_89 rfl ?_
                  have zan : an_cost mem comer 2 v = mem 7 comer.toNat := by
                    first | (unfold an_cost; (repeat (first | rw [if_pos (by omega)] | rw [if_neg (by omega)])) <;> rfl) | (exfalso; omega)
                  have znx : nx_cost mem comer 2 v = mset mem 7 comer.toNat v := by
                    first | (unfold nx_cost; (repeat (first | rw [if_pos (by omega)] | rw [if_neg (by omega)])) <;> rfl) | (exfalso; omega)
                  exact e_iret (pc := 91) dX7_cost_91 rfl (by rw [← hQ_]; exact ⟨by rw [zan], znx.symm⟩)
                · skip
                  refine e_iloadn (pc := 51) dX7_cost_51 rfl rfl ?_
                  refine e_iconst (pc := 52) dX7_cost_52 (by decide) ?_
                  refine e_icmp_eq (pc := 53) (tgt := 61) dX7_cost_53 rfl (fun h53 => ?_) (fun h53 => ?_)
                  · skip
                    exact absurd h53 (by decide)
                  · skip
                    refine e_iloadn (pc := 56) dX7_cost_56 rfl rfl ?_
                    refine e_iconst (pc := 57) dX7_cost_57 (by decide) ?_
                    refine e_icmp_ne (pc := 58) (tgt := 64) dX7_cost_58 rfl (fun h58 => ?_) (fun h58 => ?_)
                    · skip
                      refine e_aloadn (pc := 64) dX7_cost_64 rfl rfl ?_
                      refine e_getr (pc := 65) (k := 1) dX7_cost_65 fX7_12 s_0 rfl (by decide) ?_
                      refine e_getr (pc := 68) (k := 4) dX7_cost_68 fX7_121 s_1 rfl (by decide) ?_
                      refine e_iloadn (pc := 71) dX7_cost_71 rfl rfl ?_
                      refine e_aald (pc := 72) dX7_cost_72 s_4 (by omega) ?_
                      refine Ev.to (st' := [(2, 7)]) ?_ rfl rfl rfl
                      refine e_iloadn (pc := 73) dX7_cost_73 rfl rfl ?_
                      refine e_ialdv (pc := 74) (v := mem 7 comer.toNat) dX7_cost_74 s_7 (by omega) rfl ?_
                      refine e_istore (pc := 75) (lo' := [(2, 0), (0, comer), (0, 2), (0, v), (0, mem 7 comer.toNat)]) dX7_cost_75 rfl (by decide) rfl ?_
                      refine e_aloadn (pc := 77) dX7_cost_77 rfl rfl ?_
                      refine e_getr (pc := 78) (k := 1) dX7_cost_78 fX7_12 s_0 rfl (by decide) ?_
                      refine e_getr (pc := 81) (k := 4) dX7_cost_81 fX7_121 s_1 rfl (by decide) ?_
                      refine e_iloadn (pc := 84) dX7_cost_84 rfl rfl ?_
                      refine e_aald (pc := 85) dX7_cost_85 s_4 (by omega) ?_
                      refine Ev.to (st' := [(2, 7)]) ?_ rfl rfl rfl
                      refine e_iloadn (pc := 86) dX7_cost_86 rfl rfl ?_
                      refine e_iloadn (pc := 87) dX7_cost_87 rfl rfl ?_
                      refine e_iastm (pc := 88) (mem2 := mset mem 7 comer.toNat v) dX7_cost_88 s_7 (by omega) rfl ?_
                      refine e_iload (pc := 89) dX7_cost_89 rfl ?_
                      have zan : an_cost mem comer 2 v = mem 7 comer.toNat := by
                        first | (unfold an_cost; (repeat (first | rw [if_pos (by omega)] | rw [if_neg (by omega)])) <;> rfl) | (exfalso; omega)
                      have znx : nx_cost mem comer 2 v = mset mem 7 comer.toNat v := by
                        first | (unfold nx_cost; (repeat (first | rw [if_pos (by omega)] | rw [if_neg (by omega)])) <;> rfl) | (exfalso; omega)
                      exact e_iret (pc := 91) dX7_cost_91 rfl (by rw [← hQ_]; exact ⟨by rw [zan], znx.symm⟩)
                    · skip
                      exact absurd h58 (by decide)
              · skip
                refine e_bipush (pc := 35) dX7_cost_35 rfl (by decide) ?_
                have zan : an_cost mem comer 2 v = -2 := by
                  first | (unfold an_cost; (repeat (first | rw [if_pos (by omega)] | rw [if_neg (by omega)])) <;> rfl) | (exfalso; omega)
                have znx : nx_cost mem comer 2 v = mem := by
                  first | (unfold nx_cost; (repeat (first | rw [if_pos (by omega)] | rw [if_neg (by omega)])) <;> rfl) | (exfalso; omega)
                exact e_iret (pc := 37) dX7_cost_37 rfl (by rw [← hQ_]; exact ⟨by rw [zan], znx.symm⟩)
          · skip
            refine e_iloadn (pc := 17) dX7_cost_17 rfl rfl ?_
            refine e_gets (pc := 18) (k := 1) dX7_cost_18 (by decide) fX7_115 ?_
            refine e_iloadn (pc := 21) dX7_cost_21 rfl rfl ?_
            refine e_siald (pc := 22) (k := 1) dX7_cost_22 (by decide) (by decide) (by decide) ?_
            rw [show (stV 1).getD (3 : Int).toNat 0 = 0 from rfl]
            refine e_icmp_lt (pc := 23) (tgt := 35) dX7_cost_23 rfl (fun h23 => ?_) (fun h23 => ?_)
            · skip
              refine e_bipush (pc := 35) dX7_cost_35 rfl (by decide) ?_
              have zan : an_cost mem comer 3 v = -2 := by
                first | (unfold an_cost; (repeat (first | rw [if_pos (by omega)] | rw [if_neg (by omega)])) <;> rfl) | (exfalso; omega)
              have znx : nx_cost mem comer 3 v = mem := by
                first | (unfold nx_cost; (repeat (first | rw [if_pos (by omega)] | rw [if_neg (by omega)])) <;> rfl) | (exfalso; omega)
              exact e_iret (pc := 37) dX7_cost_37 rfl (by rw [← hQ_]; exact ⟨by rw [zan], znx.symm⟩)
            · skip
              refine e_iloadn (pc := 26) dX7_cost_26 rfl rfl ?_
              refine e_gets (pc := 27) (k := 2) dX7_cost_27 (by decide) fX7_118 ?_
              refine e_iloadn (pc := 30) dX7_cost_30 rfl rfl ?_
              refine e_siald (pc := 31) (k := 2) dX7_cost_31 (by decide) (by decide) (by decide) ?_
              rw [show (stV 2).getD (3 : Int).toNat 0 = 15 from rfl]
              refine e_icmp_le (pc := 32) (tgt := 38) dX7_cost_32 rfl (fun h32 => ?_) (fun h32 => ?_)
              · skip
                refine e_aloadn (pc := 38) dX7_cost_38 rfl rfl ?_
                refine e_getr (pc := 39) (k := 16) dX7_cost_39 fX7_28 s_0 rfl (by decide) ?_
                refine e_getr (pc := 42) (k := 18) dX7_cost_42 fX7_82 s_16 rfl (by decide) ?_
                refine e_iloadn (pc := 45) dX7_cost_45 rfl rfl ?_
                refine e_ialdv (pc := 46) (v := mem 18 comer.toNat) dX7_cost_46 s_18 (by omega) rfl ?_
                refine e_iconst (pc := 47) dX7_cost_47 (by decide) ?_
                refine e_icmp_ne (pc := 48) (tgt := 64) dX7_cost_48 rfl (fun h48 => ?_) (fun h48 => ?_)
                · skip
                  refine e_aloadn (pc := 64) dX7_cost_64 rfl rfl ?_
                  refine e_getr (pc := 65) (k := 1) dX7_cost_65 fX7_12 s_0 rfl (by decide) ?_
                  refine e_getr (pc := 68) (k := 4) dX7_cost_68 fX7_121 s_1 rfl (by decide) ?_
                  refine e_iloadn (pc := 71) dX7_cost_71 rfl rfl ?_
                  refine e_aald (pc := 72) dX7_cost_72 s_4 (by omega) ?_
                  refine Ev.to (st' := [(2, 8)]) ?_ rfl rfl rfl
                  refine e_iloadn (pc := 73) dX7_cost_73 rfl rfl ?_
                  refine e_ialdv (pc := 74) (v := mem 8 comer.toNat) dX7_cost_74 s_8 (by omega) rfl ?_
                  refine e_istore (pc := 75) (lo' := [(2, 0), (0, comer), (0, 3), (0, v), (0, mem 8 comer.toNat)]) dX7_cost_75 rfl (by decide) rfl ?_
                  refine e_aloadn (pc := 77) dX7_cost_77 rfl rfl ?_
                  refine e_getr (pc := 78) (k := 1) dX7_cost_78 fX7_12 s_0 rfl (by decide) ?_
                  refine e_getr (pc := 81) (k := 4) dX7_cost_81 fX7_121 s_1 rfl (by decide) ?_
                  refine e_iloadn (pc := 84) dX7_cost_84 rfl rfl ?_
                  refine e_aald (pc := 85) dX7_cost_85 s_4 (by omega) ?_
                  refine Ev.to (st' := [(2, 8)]) ?_ rfl rfl rfl
                  refine e_iloadn (pc := 86) dX7_cost_86 rfl rfl ?_
                  refine e_iloadn (pc := 87) dX7_cost_87 rfl rfl ?_
                  refine e_iastm (pc := 88) (mem2 := mset mem 8 comer.toNat v) dX7_cost_88 s_8 (by omega) rfl ?_
                  refine e_iload (pc := 89) dX7_cost_89 rfl ?_
                  have zan : an_cost mem comer 3 v = mem 8 comer.toNat := by
                    first | (unfold an_cost; (repeat (first | rw [if_pos (by omega)] | rw [if_neg (by omega)])) <;> rfl) | (exfalso; omega)
                  have znx : nx_cost mem comer 3 v = mset mem 8 comer.toNat v := by
                    first | (unfold nx_cost; (repeat (first | rw [if_pos (by omega)] | rw [if_neg (by omega)])) <;> rfl) | (exfalso; omega)
                  exact e_iret (pc := 91) dX7_cost_91 rfl (by rw [← hQ_]; exact ⟨by rw [zan], znx.symm⟩)
                · skip
                  refine e_iloadn (pc := 51) dX7_cost_51 rfl rfl ?_
                  refine e_iconst (pc := 52) dX7_cost_52 (by decide) ?_
                  refine e_icmp_eq (pc := 53) (tgt := 61) dX7_cost_53 rfl (fun h53 => ?_) (fun h53 => ?_)
                  · skip
                    refine e_bipush (pc := 61) dX7_cost_61 rfl (by decide) ?_
                    have zan : an_cost mem comer 3 v = -2 := by
                      first | (unfold an_cost; (repeat (first | rw [if_pos (by omega)] | rw [if_neg (by omega)])) <;> rfl) | (exfalso; omega)
                    have znx : nx_cost mem comer 3 v = mem := by
                      first | (unfold nx_cost; (repeat (first | rw [if_pos (by omega)] | rw [if_neg (by omega)])) <;> rfl) | (exfalso; omega)
                    exact e_iret (pc := 63) dX7_cost_63 rfl (by rw [← hQ_]; exact ⟨by rw [zan], znx.symm⟩)
                  · skip
                    exact absurd h53 (by decide)
              · skip
                refine e_bipush (pc := 35) dX7_cost_35 rfl (by decide) ?_
                have zan : an_cost mem comer 3 v = -2 := by
                  first | (unfold an_cost; (repeat (first | rw [if_pos (by omega)] | rw [if_neg (by omega)])) <;> rfl) | (exfalso; omega)
                have znx : nx_cost mem comer 3 v = mem := by
                  first | (unfold nx_cost; (repeat (first | rw [if_pos (by omega)] | rw [if_neg (by omega)])) <;> rfl) | (exfalso; omega)
                exact e_iret (pc := 37) dX7_cost_37 rfl (by rw [← hQ_]; exact ⟨by rw [zan], znx.symm⟩)
          · skip
            refine e_iloadn (pc := 17) dX7_cost_17 rfl rfl ?_
            refine e_gets (pc := 18) (k := 1) dX7_cost_18 (by decide) fX7_115 ?_
            refine e_iloadn (pc := 21) dX7_cost_21 rfl rfl ?_
            refine e_siald (pc := 22) (k := 1) dX7_cost_22 (by decide) (by decide) (by decide) ?_
            rw [show (stV 1).getD (4 : Int).toNat 0 = 1 from rfl]
            refine e_icmp_lt (pc := 23) (tgt := 35) dX7_cost_23 rfl (fun h23 => ?_) (fun h23 => ?_)
            · skip
              refine e_bipush (pc := 35) dX7_cost_35 rfl (by decide) ?_
              have zan : an_cost mem comer 4 v = -2 := by
                first | (unfold an_cost; (repeat (first | rw [if_pos (by omega)] | rw [if_neg (by omega)])) <;> rfl) | (exfalso; omega)
              have znx : nx_cost mem comer 4 v = mem := by
                first | (unfold nx_cost; (repeat (first | rw [if_pos (by omega)] | rw [if_neg (by omega)])) <;> rfl) | (exfalso; omega)
              exact e_iret (pc := 37) dX7_cost_37 rfl (by rw [← hQ_]; exact ⟨by rw [zan], znx.symm⟩)
            · skip
              refine e_iloadn (pc := 26) dX7_cost_26 rfl rfl ?_
              refine e_gets (pc := 27) (k := 2) dX7_cost_27 (by decide) fX7_118 ?_
              refine e_iloadn (pc := 30) dX7_cost_30 rfl rfl ?_
              refine e_siald (pc := 31) (k := 2) dX7_cost_31 (by decide) (by decide) (by decide) ?_
              rw [show (stV 2).getD (4 : Int).toNat 0 = 30 from rfl]
              refine e_icmp_le (pc := 32) (tgt := 38) dX7_cost_32 rfl (fun h32 => ?_) (fun h32 => ?_)
              · skip
                refine e_aloadn (pc := 38) dX7_cost_38 rfl rfl ?_
                refine e_getr (pc := 39) (k := 16) dX7_cost_39 fX7_28 s_0 rfl (by decide) ?_
                refine e_getr (pc := 42) (k := 18) dX7_cost_42 fX7_82 s_16 rfl (by decide) ?_
                refine e_iloadn (pc := 45) dX7_cost_45 rfl rfl ?_
                refine e_ialdv (pc := 46) (v := mem 18 comer.toNat) dX7_cost_46 s_18 (by omega) rfl ?_
                refine e_iconst (pc := 47) dX7_cost_47 (by decide) ?_
                refine e_icmp_ne (pc := 48) (tgt := 64) dX7_cost_48 rfl (fun h48 => ?_) (fun h48 => ?_)
                · skip
                  refine e_aloadn (pc := 64) dX7_cost_64 rfl rfl ?_
                  refine e_getr (pc := 65) (k := 1) dX7_cost_65 fX7_12 s_0 rfl (by decide) ?_
                  refine e_getr (pc := 68) (k := 4) dX7_cost_68 fX7_121 s_1 rfl (by decide) ?_
                  refine e_iloadn (pc := 71) dX7_cost_71 rfl rfl ?_
                  refine e_aald (pc := 72) dX7_cost_72 s_4 (by omega) ?_
                  refine Ev.to (st' := [(2, 9)]) ?_ rfl rfl rfl
                  refine e_iloadn (pc := 73) dX7_cost_73 rfl rfl ?_
                  refine e_ialdv (pc := 74) (v := mem 9 comer.toNat) dX7_cost_74 s_9 (by omega) rfl ?_
                  refine e_istore (pc := 75) (lo' := [(2, 0), (0, comer), (0, 4), (0, v), (0, mem 9 comer.toNat)]) dX7_cost_75 rfl (by decide) rfl ?_
                  refine e_aloadn (pc := 77) dX7_cost_77 rfl rfl ?_
                  refine e_getr (pc := 78) (k := 1) dX7_cost_78 fX7_12 s_0 rfl (by decide) ?_
                  refine e_getr (pc := 81) (k := 4) dX7_cost_81 fX7_121 s_1 rfl (by decide) ?_
                  refine e_iloadn (pc := 84) dX7_cost_84 rfl rfl ?_
                  refine e_aald (pc := 85) dX7_cost_85 s_4 (by omega) ?_
                  refine Ev.to (st' := [(2, 9)]) ?_ rfl rfl rfl
                  refine e_iloadn (pc := 86) dX7_cost_86 rfl rfl ?_
                  refine e_iloadn (pc := 87) dX7_cost_87 rfl rfl ?_
                  refine e_iastm (pc := 88) (mem2 := mset mem 9 comer.toNat v) dX7_cost_88 s_9 (by omega) rfl ?_
                  refine e_iload (pc := 89) dX7_cost_89 rfl ?_
                  have zan : an_cost mem comer 4 v = mem 9 comer.toNat := by
                    first | (unfold an_cost; (repeat (first | rw [if_pos (by omega)] | rw [if_neg (by omega)])) <;> rfl) | (exfalso; omega)
                  have znx : nx_cost mem comer 4 v = mset mem 9 comer.toNat v := by
                    first | (unfold nx_cost; (repeat (first | rw [if_pos (by omega)] | rw [if_neg (by omega)])) <;> rfl) | (exfalso; omega)
                  exact e_iret (pc := 91) dX7_cost_91 rfl (by rw [← hQ_]; exact ⟨by rw [zan], znx.symm⟩)
                · skip
                  refine e_iloadn (pc := 51) dX7_cost_51 rfl rfl ?_
                  refine e_iconst (pc := 52) dX7_cost_52 (by decide) ?_
                  refine e_icmp_eq (pc := 53) (tgt := 61) dX7_cost_53 rfl (fun h53 => ?_) (fun h53 => ?_)
                  · skip
                    exact absurd h53 (by decide)
                  · skip
                    refine e_iloadn (pc := 56) dX7_cost_56 rfl rfl ?_
                    refine e_iconst (pc := 57) dX7_cost_57 (by decide) ?_
                    refine e_icmp_ne (pc := 58) (tgt := 64) dX7_cost_58 rfl (fun h58 => ?_) (fun h58 => ?_)
                    · skip
                      exact absurd h58 (by decide)
                    · skip
                      refine e_bipush (pc := 61) dX7_cost_61 rfl (by decide) ?_
                      have zan : an_cost mem comer 4 v = -2 := by
                        first | (unfold an_cost; (repeat (first | rw [if_pos (by omega)] | rw [if_neg (by omega)])) <;> rfl) | (exfalso; omega)
                      have znx : nx_cost mem comer 4 v = mem := by
                        first | (unfold nx_cost; (repeat (first | rw [if_pos (by omega)] | rw [if_neg (by omega)])) <;> rfl) | (exfalso; omega)
                      exact e_iret (pc := 63) dX7_cost_63 rfl (by rw [← hQ_]; exact ⟨by rw [zan], znx.symm⟩)
              · skip
                refine e_bipush (pc := 35) dX7_cost_35 rfl (by decide) ?_
                have zan : an_cost mem comer 4 v = -2 := by
                  first | (unfold an_cost; (repeat (first | rw [if_pos (by omega)] | rw [if_neg (by omega)])) <;> rfl) | (exfalso; omega)
                have znx : nx_cost mem comer 4 v = mem := by
                  first | (unfold nx_cost; (repeat (first | rw [if_pos (by omega)] | rw [if_neg (by omega)])) <;> rfl) | (exfalso; omega)
                exact e_iret (pc := 37) dX7_cost_37 rfl (by rw [← hQ_]; exact ⟨by rw [zan], znx.symm⟩)
  · rw [if_neg zc2]
    refine e_if_eq (pc := 5) (tgt := 35) dX7_cost_5 rfl (fun h5 => ?_) (fun h5 => ?_)
    · skip
      refine e_bipush (pc := 35) dX7_cost_35 rfl (by decide) ?_
      have zan : an_cost mem comer wh v = -2 := by
        first | (unfold an_cost; (repeat (first | rw [if_pos (by omega)] | rw [if_neg (by omega)])) <;> rfl) | (exfalso; omega)
      have znx : nx_cost mem comer wh v = mem := by
        first | (unfold nx_cost; (repeat (first | rw [if_pos (by omega)] | rw [if_neg (by omega)])) <;> rfl) | (exfalso; omega)
      exact e_iret (pc := 37) dX7_cost_37 rfl (by rw [← hQ_]; exact ⟨by rw [zan], znx.symm⟩)
    · skip
      exact absurd h5 (by decide)
