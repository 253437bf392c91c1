-- THE RULE's text: the byte at a place; numbers
def hrT (tx : Nat → Int) (L a : Nat) : Int := if a < L then tx a else -1
def nmb (tx : Nat → Int) (L : Nat) : Nat → Nat → Int → Nat × Int
  | 0, a, v => (a, v)
  | f + 1, a, v => if 48 ≤ hrT tx L a ∧ hrT tx L a ≤ 57 then nmb tx L f (a + 1) (v * 10 + hrT tx L a - 48) else (a, v)
theorem nmb_s (tx : Nat → Int) (L f a : Nat) (v : Int) : nmb tx L (f + 1) a v = if 48 ≤ hrT tx L a ∧ hrT tx L a ≤ 57 then nmb tx L f (a + 1) (v * 10 + hrT tx L a - 48) else (a, v) := rfl
theorem mset_self (mem : Mem) (c j : Nat) {v : Int} (h : mem c j = v) : mset mem c j v = mem := by
  funext c' j'
  simp only [mset, rset, uset]
  split
  · rename_i e; subst e
    show (if j' = j then v else mem c' j') = mem c' j'
    split
    · rename_i e; subst e; exact h.symm
    · rfl
  · rfl
theorem mset_mset (mem : Mem) (c j : Nat) (v w : Int) : mset (mset mem c j v) c j w = mset mem c j w := by
  funext c' j'
  simp only [mset, rset]
  split
  · rename_i e; subst e
    simp [uset]
    split <;> rfl
  · rfl
/-- the rule's text, its length, the reader's place -/
def TxI (mem : Mem) (L a : Nat) : Prop := mem 10 0 = (L : Int) ∧ L ≤ 40 ∧ mem 10 3 = (a : Int) ∧ a ≤ L

theorem t_here (G : Gm) (mem : Mem) (L a : Nat) (hI : TxI mem L a) : Con G mX4_here [(2, 10)] mem (fun r m' => r = some (0, hrT (mem 11) L a) ∧ m' = mem) := by
  refine Con.of (lo := [(2, 10)]) (by decide +kernel) (Nat.le_of_ble_eq_true rfl) rfl ?_
  generalize hQ_ : (fun r m' => r = some (0, hrT (mem 11) L a) ∧ m' = mem : Option AV → Mem → Prop) = Q_
  refine e_aloadn (pc := 0) dX4_here_0 rfl rfl ?_
  refine e_getiv (pc := 1) (v := (a : Int)) dX4_here_1 fX4_35 s_10 rfl (by decide) (hI.2.2.1) ?_
  refine e_if_lt (pc := 4) (tgt := 39) dX4_here_4 rfl (fun h4 => ?_) (fun h4 => ?_)
  · skip
    exfalso; omega
  · skip
    refine e_aloadn (pc := 7) dX4_here_7 rfl rfl ?_
    refine e_getiv (pc := 8) (v := (a : Int)) dX4_here_8 fX4_35 s_10 rfl (by decide) (hI.2.2.1) ?_
    refine e_aloadn (pc := 11) dX4_here_11 rfl rfl ?_
    refine e_getiv (pc := 12) (v := (L : Int)) dX4_here_12 fX4_28 s_10 rfl (by decide) (hI.1) ?_
    refine e_icmp_ge (pc := 15) (tgt := 39) dX4_here_15 rfl (fun h15 => ?_) (fun h15 => ?_)
    · skip
      refine e_iconst (pc := 39) dX4_here_39 (by decide) ?_
      have zh : hrT (mem 11) L a = -1 := by unfold hrT; rw [if_neg (by omega)]
      exact e_iret (pc := 40) dX4_here_40 rfl (by rw [← hQ_, zh]; exact ⟨rfl, rfl⟩)
    · skip
      refine e_aloadn (pc := 18) dX4_here_18 rfl rfl ?_
      refine e_getiv (pc := 19) (v := (a : Int)) dX4_here_19 fX4_35 s_10 rfl (by decide) (hI.2.2.1) ?_
      refine e_bipush (pc := 22) dX4_here_22 rfl (by decide) ?_
      refine e_icmp_ge (pc := 24) (tgt := 39) dX4_here_24 rfl (fun h24 => ?_) (fun h24 => ?_)
      · skip
        exfalso; have z1 := hI.2.1; omega
      · skip
        refine e_aloadn (pc := 27) dX4_here_27 rfl rfl ?_
        refine e_getr (pc := 28) (k := 11) dX4_here_28 fX4_9 s_10 rfl (by decide) ?_
        refine e_aloadn (pc := 31) dX4_here_31 rfl rfl ?_
        refine e_getiv (pc := 32) (v := (a : Int)) dX4_here_32 fX4_35 s_10 rfl (by decide) (hI.2.2.1) ?_
        refine e_ialdv (pc := 35) (v := mem 11 a) dX4_here_35 s_11 (by omega) rfl ?_
        refine e_goto (pc := 36) (tgt := 40) dX4_here_36 rfl ?_
        have zh : hrT (mem 11) L a = mem 11 a := by unfold hrT; rw [if_pos (by omega)]
        exact e_iret (pc := 40) dX4_here_40 rfl (by rw [← hQ_, zh]; exact ⟨rfl, rfl⟩)

theorem t_opens (G : Gm) (mem : Mem) : Con G mX4_opens [(2, 10)] mem (fun r m' => r = none ∧ m' = mset (mset (mset (mset mem 10 9 0) 10 10 0) 10 11 0) 10 12 0) := by
  refine Con.of (lo := [(2, 10)]) (by decide +kernel) (Nat.le_of_ble_eq_true rfl) rfl ?_
  generalize hQ_ : (fun r m' => r = none ∧ m' = mset (mset (mset (mset mem 10 9 0) 10 10 0) 10 11 0) 10 12 0 : Option AV → Mem → Prop) = Q_
  refine e_aloadn (pc := 0) dX4_opens_0 rfl rfl ?_
  refine e_iconst (pc := 1) dX4_opens_1 (by decide) ?_
  refine e_putI (pc := 2) (mem2 := mset mem 10 9 0) dX4_opens_2 fX4_62 s_10 rfl (by decide) pw_4_9 rfl ?_
  refine e_aloadn (pc := 5) dX4_opens_5 rfl rfl ?_
  refine e_iconst (pc := 6) dX4_opens_6 (by decide) ?_
  refine e_putZ (pc := 7) (mem2 := mset (mset mem 10 9 0) 10 10 0) dX4_opens_7 fX4_58 s_10 rfl (by decide) pw_4_10 (by decide) rfl ?_
  refine e_aloadn (pc := 10) dX4_opens_10 rfl rfl ?_
  refine e_iconst (pc := 11) dX4_opens_11 (by decide) ?_
  refine e_putI (pc := 12) (mem2 := mset (mset (mset mem 10 9 0) 10 10 0) 10 11 0) dX4_opens_12 fX4_75 s_10 rfl (by decide) pw_4_11 rfl ?_
  refine e_aloadn (pc := 15) dX4_opens_15 rfl rfl ?_
  refine e_iconst (pc := 16) dX4_opens_16 (by decide) ?_
  refine e_putI (pc := 17) (mem2 := mset (mset (mset (mset mem 10 9 0) 10 10 0) 10 11 0) 10 12 0) dX4_opens_17 fX4_78 s_10 rfl (by decide) pw_4_12 rfl ?_
  exact e_vret (pc := 20) dX4_opens_20 rfl (by rw [← hQ_]; exact ⟨rfl, rfl⟩)

theorem t_closes (G : Gm) (mem : Mem) (k : Nat) (hk : mem 10 4 = (k : Int)) (hk2 : k < 20) (hz : mem 10 10 = 0 ∨ mem 10 10 = 1) : Con G mX4_closes [(2, 10)] mem (fun r m' => r = none ∧ m' = mset (mset (mset (mset (mset mem 12 k (mem 10 9)) 13 k (mem 10 10)) 14 k (mem 10 11)) 15 k (mem 10 12)) 10 4 ((k : Int) + 1)) := by
  refine Con.of (lo := [(2, 10)]) (by decide +kernel) (Nat.le_of_ble_eq_true rfl) rfl ?_
  generalize hQ_ : (fun r m' => r = none ∧ m' = mset (mset (mset (mset (mset mem 12 k (mem 10 9)) 13 k (mem 10 10)) 14 k (mem 10 11)) 15 k (mem 10 12)) 10 4 ((k : Int) + 1) : Option AV → Mem → Prop) = Q_
  refine e_aloadn (pc := 0) dX4_closes_0 rfl rfl ?_
  refine e_getiv (pc := 1) (v := (k : Int)) dX4_closes_1 fX4_41 s_10 rfl (by decide) (hk) ?_
  refine e_if_lt (pc := 4) (tgt := 16) dX4_closes_4 rfl (fun h4 => ?_) (fun h4 => ?_)
  · skip
    exfalso; omega
  · skip
    refine e_aloadn (pc := 7) dX4_closes_7 rfl rfl ?_
    refine e_getiv (pc := 8) (v := (k : Int)) dX4_closes_8 fX4_41 s_10 rfl (by decide) (hk) ?_
    refine e_bipush (pc := 11) dX4_closes_11 rfl (by decide) ?_
    refine e_icmp_lt (pc := 13) (tgt := 17) dX4_closes_13 rfl (fun h13 => ?_) (fun h13 => ?_)
    · skip
      refine e_aloadn (pc := 17) dX4_closes_17 rfl rfl ?_
      refine e_getr (pc := 18) (k := 12) dX4_closes_18 fX4_15 s_10 rfl (by decide) ?_
      refine e_aloadn (pc := 21) dX4_closes_21 rfl rfl ?_
      refine e_getiv (pc := 22) (v := (k : Int)) dX4_closes_22 fX4_41 s_10 rfl (by decide) (hk) ?_
      refine e_aloadn (pc := 25) dX4_closes_25 rfl rfl ?_
      refine e_getiv (pc := 26) (v := mem 10 9) dX4_closes_26 fX4_62 s_10 rfl (by decide) rfl ?_
      refine e_iastm (pc := 29) (mem2 := mset mem 12 k (mem 10 9)) dX4_closes_29 s_12 (by omega) rfl ?_
      refine e_aloadn (pc := 30) dX4_closes_30 rfl rfl ?_
      refine e_getr (pc := 31) (k := 13) dX4_closes_31 fX4_18 s_10 rfl (by decide) ?_
      refine e_aloadn (pc := 34) dX4_closes_34 rfl rfl ?_
      refine e_getiv (pc := 35) (v := (k : Int)) dX4_closes_35 fX4_41 s_10 rfl (by decide) (hk) ?_
      refine e_aloadn (pc := 38) dX4_closes_38 rfl rfl ?_
      refine e_getiv (pc := 39) (v := mem 10 10) dX4_closes_39 fX4_58 s_10 rfl (by decide) rfl ?_
      refine e_zastm (pc := 42) (mem2 := mset (mset mem 12 k (mem 10 9)) 13 k (mem 10 10)) dX4_closes_42 s_13 (by omega) (hz) rfl ?_
      refine e_aloadn (pc := 43) dX4_closes_43 rfl rfl ?_
      refine e_getr (pc := 44) (k := 14) dX4_closes_44 fX4_22 s_10 rfl (by decide) ?_
      refine e_aloadn (pc := 47) dX4_closes_47 rfl rfl ?_
      refine e_getiv (pc := 48) (v := (k : Int)) dX4_closes_48 fX4_41 s_10 rfl (by decide) (hk) ?_
      refine e_aloadn (pc := 51) dX4_closes_51 rfl rfl ?_
      refine e_getiv (pc := 52) (v := mem 10 11) dX4_closes_52 fX4_75 s_10 rfl (by decide) rfl ?_
      refine e_iastm (pc := 55) (mem2 := mset (mset (mset mem 12 k (mem 10 9)) 13 k (mem 10 10)) 14 k (mem 10 11)) dX4_closes_55 s_14 (by omega) rfl ?_
      refine e_aloadn (pc := 56) dX4_closes_56 rfl rfl ?_
      refine e_getr (pc := 57) (k := 15) dX4_closes_57 fX4_25 s_10 rfl (by decide) ?_
      refine e_aloadn (pc := 60) dX4_closes_60 rfl rfl ?_
      refine e_getiv (pc := 61) (v := (k : Int)) dX4_closes_61 fX4_41 s_10 rfl (by decide) (hk) ?_
      refine e_aloadn (pc := 64) dX4_closes_64 rfl rfl ?_
      refine e_getiv (pc := 65) (v := mem 10 12) dX4_closes_65 fX4_78 s_10 rfl (by decide) rfl ?_
      refine e_iastm (pc := 68) (mem2 := mset (mset (mset (mset mem 12 k (mem 10 9)) 13 k (mem 10 10)) 14 k (mem 10 11)) 15 k (mem 10 12)) dX4_closes_68 s_15 (by omega) rfl ?_
      refine e_aloadn (pc := 69) dX4_closes_69 rfl rfl ?_
      refine e_dup (pc := 70) dX4_closes_70 rfl ?_
      refine e_getiv (pc := 71) (v := (k : Int)) dX4_closes_71 fX4_41 s_10 rfl (by decide) (hk) ?_
      refine e_iconst (pc := 74) dX4_closes_74 (by decide) ?_
      refine e_iaddn (pc := 75) dX4_closes_75 (by omega) ?_
      refine e_putI (pc := 76) (mem2 := mset (mset (mset (mset (mset mem 12 k (mem 10 9)) 13 k (mem 10 10)) 14 k (mem 10 11)) 15 k (mem 10 12)) 10 4 ((k : Int) + 1)) dX4_closes_76 fX4_41 s_10 rfl (by decide) pw_4_4 rfl ?_
      exact e_vret (pc := 79) dX4_closes_79 rfl (by rw [← hQ_]; exact ⟨rfl, rfl⟩)
    · skip
      exfalso; omega

theorem t_number (G : Gm) (mem : Mem) (L a f : Nat) (lw hh : Int) (hf : f ≤ 2) (hI : TxI mem L a) (hb : ∀ j, j < 40 → 0 ≤ mem 11 j ∧ mem 11 j ≤ 255) : Con G mX4_number [(2, 10), (0, (f : Int)), (0, lw), (0, hh)] mem (fun r m' => ((((nmb (mem 11) L f a 0).1 = a ∨ (nmb (mem 11) L f a 0).2 < lw ∨ hh < (nmb (mem 11) L f a 0).2) ∧ r = some (0, -1) ∧ m' = mset (mset mem 10 3 (((nmb (mem 11) L f a 0).1 : Nat) : Int)) 10 1 (a : Int)) ∨ (¬ ((nmb (mem 11) L f a 0).1 = a ∨ (nmb (mem 11) L f a 0).2 < lw ∨ hh < (nmb (mem 11) L f a 0).2) ∧ r = some (0, (nmb (mem 11) L f a 0).2) ∧ m' = mset mem 10 3 (((nmb (mem 11) L f a 0).1 : Nat) : Int)))) := by
  refine Con.of (lo := [(2, 10), (0, (f : Int)), (0, lw), (0, hh), (3, 0), (3, 0), (3, 0)]) (by decide +kernel) (Nat.le_of_ble_eq_true rfl) rfl ?_
  generalize hQ_ : (fun r m' => ((((nmb (mem 11) L f a 0).1 = a ∨ (nmb (mem 11) L f a 0).2 < lw ∨ hh < (nmb (mem 11) L f a 0).2) ∧ r = some (0, -1) ∧ m' = mset (mset mem 10 3 (((nmb (mem 11) L f a 0).1 : Nat) : Int)) 10 1 (a : Int)) ∨ (¬ ((nmb (mem 11) L f a 0).1 = a ∨ (nmb (mem 11) L f a 0).2 < lw ∨ hh < (nmb (mem 11) L f a 0).2) ∧ r = some (0, (nmb (mem 11) L f a 0).2) ∧ m' = mset mem 10 3 (((nmb (mem 11) L f a 0).1 : Nat) : Int))) : Option AV → Mem → Prop) = Q_
  refine e_aloadn (pc := 0) dX4_number_0 rfl rfl ?_
  refine e_getiv (pc := 1) (v := (a : Int)) dX4_number_1 fX4_35 s_10 rfl (by decide) (hI.2.2.1) ?_
  refine e_istore (pc := 4) (lo' := [(2, 10), (0, (f : Int)), (0, lw), (0, hh), (0, (a : Int)), (3, 0), (3, 0)]) dX4_number_4 rfl (by decide) rfl ?_
  refine e_iconst (pc := 6) dX4_number_6 (by decide) ?_
  refine e_istore (pc := 7) (lo' := [(2, 10), (0, (f : Int)), (0, lw), (0, hh), (0, (a : Int)), (0, 0), (3, 0)]) dX4_number_7 rfl (by decide) rfl ?_
  refine e_iconst (pc := 9) dX4_number_9 (by decide) ?_
  refine e_istore (pc := 10) (lo' := [(2, 10), (0, (f : Int)), (0, lw), (0, hh), (0, (a : Int)), (0, 0), (0, 0)]) dX4_number_10 rfl (by decide) rfl ?_
  have L12 : ∀ (n_ : Nat) (j : Nat) (b : Nat) (v : Int), f - j = n_ → (j ≤ f) → (b = a + j ∧ b ≤ L) → (0 ≤ v ∧ v ≤ 99 ∧ (j = 0 → v = 0) ∧ (j ≤ 1 → v ≤ 9)) → (nmb (mem 11) L f a 0 = nmb (mem 11) L (f - j) b v) → Ev G mX4_number Q_ 12 [(2, 10), (0, (f : Int)), (0, lw), (0, hh), (0, (a : Int)), (0, v), (0, (j : Int))] [] (mset mem 10 3 (b : Int)) := by
    intro n_
    induction n_ using Nat.strongRecOn with
    | ind n_ ih12 =>
      intro j b v hn_ zj zb zv zn
      have zL := hI.2.1
      refine e_iload (pc := 12) dX4_number_12 rfl ?_
      refine e_iloadn (pc := 14) dX4_number_14 rfl rfl ?_
      refine e_icmp_ge (pc := 15) (tgt := 67) dX4_number_15 rfl (fun h15 => ?_) (fun h15 => ?_)
      · skip
        have zq : nmb (mem 11) L f a 0 = (b, v) := by
          rw [zn]
          rw [show f - j = 0 by omega]; rfl
        refine e_aloadn (pc := 67) dX4_number_67 rfl rfl ?_
        refine e_getiv (pc := 68) (v := (b : Int)) dX4_number_68 fX4_35 s_10 rfl (by decide) rfl ?_
        refine e_iload (pc := 71) dX4_number_71 rfl ?_
        refine e_icmp_eq (pc := 73) (tgt := 88) dX4_number_73 rfl (fun h73 => ?_) (fun h73 => ?_)
        · skip
          refine e_aloadn (pc := 88) dX4_number_88 rfl rfl ?_
          refine e_iload (pc := 89) dX4_number_89 rfl ?_
          refine e_putI (pc := 91) (mem2 := mset (mset mem 10 3 (b : Int)) 10 1 (a : Int)) dX4_number_91 fX4_38 s_10 rfl (by decide) pw_4_1 rfl ?_
          refine e_iconst (pc := 94) dX4_number_94 (by decide) ?_
          exact e_iret (pc := 95) dX4_number_95 rfl (by rw [← hQ_, zq]; exact Or.inl ⟨by show b = a ∨ v < lw ∨ hh < v; omega, rfl, rfl⟩)
        · skip
          refine e_iload (pc := 76) dX4_number_76 rfl ?_
          refine e_iloadn (pc := 78) dX4_number_78 rfl rfl ?_
          refine e_icmp_lt (pc := 79) (tgt := 88) dX4_number_79 rfl (fun h79 => ?_) (fun h79 => ?_)
          · skip
            refine e_aloadn (pc := 88) dX4_number_88 rfl rfl ?_
            refine e_iload (pc := 89) dX4_number_89 rfl ?_
            refine e_putI (pc := 91) (mem2 := mset (mset mem 10 3 (b : Int)) 10 1 (a : Int)) dX4_number_91 fX4_38 s_10 rfl (by decide) pw_4_1 rfl ?_
            refine e_iconst (pc := 94) dX4_number_94 (by decide) ?_
            exact e_iret (pc := 95) dX4_number_95 rfl (by rw [← hQ_, zq]; exact Or.inl ⟨by show b = a ∨ v < lw ∨ hh < v; omega, rfl, rfl⟩)
          · skip
            refine e_iload (pc := 82) dX4_number_82 rfl ?_
            refine e_iloadn (pc := 84) dX4_number_84 rfl rfl ?_
            refine e_icmp_le (pc := 85) (tgt := 96) dX4_number_85 rfl (fun h85 => ?_) (fun h85 => ?_)
            · skip
              refine e_iload (pc := 96) dX4_number_96 rfl ?_
              exact e_iret (pc := 98) dX4_number_98 rfl (by rw [← hQ_, zq]; exact Or.inr ⟨by show ¬ (b = a ∨ v < lw ∨ hh < v); omega, rfl, rfl⟩)
            · skip
              refine e_aloadn (pc := 88) dX4_number_88 rfl rfl ?_
              refine e_iload (pc := 89) dX4_number_89 rfl ?_
              refine e_putI (pc := 91) (mem2 := mset (mset mem 10 3 (b : Int)) 10 1 (a : Int)) dX4_number_91 fX4_38 s_10 rfl (by decide) pw_4_1 rfl ?_
              refine e_iconst (pc := 94) dX4_number_94 (by decide) ?_
              exact e_iret (pc := 95) dX4_number_95 rfl (by rw [← hQ_, zq]; exact Or.inl ⟨by show b = a ∨ v < lw ∨ hh < v; omega, rfl, rfl⟩)
      · skip
        refine e_aloadn (pc := 18) dX4_number_18 rfl rfl ?_
        have zT : TxI (mset mem 10 3 (b : Int)) L b := ⟨hI.1, hI.2.1, rfl, zb.2⟩
        have zH : Con G mX4_here [(2, 10)] (mset mem 10 3 (b : Int)) (fun r m' => r = some (0, hrT (mem 11) L b) ∧ m' = mset mem 10 3 (b : Int)) := t_here G (mset mem 10 3 (b : Int)) L b zT
        refine e_callVr (pc := 19) (as := []) (st := []) (zH) dX4_number_19 lX4_number_54 rfl s_10 cn_4 rfl rfl ?_
        refine e_bipush (pc := 22) dX4_number_22 rfl (by decide) ?_
        refine e_icmp_lt (pc := 24) (tgt := 67) dX4_number_24 rfl (fun h24 => ?_) (fun h24 => ?_)
        · skip
          have zq : nmb (mem 11) L f a 0 = (b, v) := by
            rw [zn]
            rw [show f - j = (f - (j + 1)) + 1 by omega, nmb_s, if_neg (fun z => by omega)]
          refine e_aloadn (pc := 67) dX4_number_67 rfl rfl ?_
          refine e_getiv (pc := 68) (v := (b : Int)) dX4_number_68 fX4_35 s_10 rfl (by decide) rfl ?_
          refine e_iload (pc := 71) dX4_number_71 rfl ?_
          refine e_icmp_eq (pc := 73) (tgt := 88) dX4_number_73 rfl (fun h73 => ?_) (fun h73 => ?_)
          · skip
            refine e_aloadn (pc := 88) dX4_number_88 rfl rfl ?_
            refine e_iload (pc := 89) dX4_number_89 rfl ?_
            refine e_putI (pc := 91) (mem2 := mset (mset mem 10 3 (b : Int)) 10 1 (a : Int)) dX4_number_91 fX4_38 s_10 rfl (by decide) pw_4_1 rfl ?_
            refine e_iconst (pc := 94) dX4_number_94 (by decide) ?_
            exact e_iret (pc := 95) dX4_number_95 rfl (by rw [← hQ_, zq]; exact Or.inl ⟨by show b = a ∨ v < lw ∨ hh < v; omega, rfl, rfl⟩)
          · skip
            refine e_iload (pc := 76) dX4_number_76 rfl ?_
            refine e_iloadn (pc := 78) dX4_number_78 rfl rfl ?_
            refine e_icmp_lt (pc := 79) (tgt := 88) dX4_number_79 rfl (fun h79 => ?_) (fun h79 => ?_)
            · skip
              refine e_aloadn (pc := 88) dX4_number_88 rfl rfl ?_
              refine e_iload (pc := 89) dX4_number_89 rfl ?_
              refine e_putI (pc := 91) (mem2 := mset (mset mem 10 3 (b : Int)) 10 1 (a : Int)) dX4_number_91 fX4_38 s_10 rfl (by decide) pw_4_1 rfl ?_
              refine e_iconst (pc := 94) dX4_number_94 (by decide) ?_
              exact e_iret (pc := 95) dX4_number_95 rfl (by rw [← hQ_, zq]; exact Or.inl ⟨by show b = a ∨ v < lw ∨ hh < v; omega, rfl, rfl⟩)
            · skip
              refine e_iload (pc := 82) dX4_number_82 rfl ?_
              refine e_iloadn (pc := 84) dX4_number_84 rfl rfl ?_
              refine e_icmp_le (pc := 85) (tgt := 96) dX4_number_85 rfl (fun h85 => ?_) (fun h85 => ?_)
              · skip
                refine e_iload (pc := 96) dX4_number_96 rfl ?_
                exact e_iret (pc := 98) dX4_number_98 rfl (by rw [← hQ_, zq]; exact Or.inr ⟨by show ¬ (b = a ∨ v < lw ∨ hh < v); omega, rfl, rfl⟩)
              · skip
                refine e_aloadn (pc := 88) dX4_number_88 rfl rfl ?_
                refine e_iload (pc := 89) dX4_number_89 rfl ?_
                refine e_putI (pc := 91) (mem2 := mset (mset mem 10 3 (b : Int)) 10 1 (a : Int)) dX4_number_91 fX4_38 s_10 rfl (by decide) pw_4_1 rfl ?_
                refine e_iconst (pc := 94) dX4_number_94 (by decide) ?_
                exact e_iret (pc := 95) dX4_number_95 rfl (by rw [← hQ_, zq]; exact Or.inl ⟨by show b = a ∨ v < lw ∨ hh < v; omega, rfl, rfl⟩)
        · skip
          refine e_aloadn (pc := 27) dX4_number_27 rfl rfl ?_
          have zT : TxI (mset mem 10 3 (b : Int)) L b := ⟨hI.1, hI.2.1, rfl, zb.2⟩
          have zH : Con G mX4_here [(2, 10)] (mset mem 10 3 (b : Int)) (fun r m' => r = some (0, hrT (mem 11) L b) ∧ m' = mset mem 10 3 (b : Int)) := t_here G (mset mem 10 3 (b : Int)) L b zT
          refine e_callVr (pc := 28) (as := []) (st := []) (zH) dX4_number_28 lX4_number_54 rfl s_10 cn_4 rfl rfl ?_
          refine e_bipush (pc := 31) dX4_number_31 rfl (by decide) ?_
          refine e_icmp_gt (pc := 33) (tgt := 67) dX4_number_33 rfl (fun h33 => ?_) (fun h33 => ?_)
          · skip
            have zq : nmb (mem 11) L f a 0 = (b, v) := by
              rw [zn]
              rw [show f - j = (f - (j + 1)) + 1 by omega, nmb_s, if_neg (fun z => by omega)]
            refine e_aloadn (pc := 67) dX4_number_67 rfl rfl ?_
            refine e_getiv (pc := 68) (v := (b : Int)) dX4_number_68 fX4_35 s_10 rfl (by decide) rfl ?_
            refine e_iload (pc := 71) dX4_number_71 rfl ?_
            refine e_icmp_eq (pc := 73) (tgt := 88) dX4_number_73 rfl (fun h73 => ?_) (fun h73 => ?_)
            · skip
              refine e_aloadn (pc := 88) dX4_number_88 rfl rfl ?_
              refine e_iload (pc := 89) dX4_number_89 rfl ?_
              refine e_putI (pc := 91) (mem2 := mset (mset mem 10 3 (b : Int)) 10 1 (a : Int)) dX4_number_91 fX4_38 s_10 rfl (by decide) pw_4_1 rfl ?_
              refine e_iconst (pc := 94) dX4_number_94 (by decide) ?_
              exact e_iret (pc := 95) dX4_number_95 rfl (by rw [← hQ_, zq]; exact Or.inl ⟨by show b = a ∨ v < lw ∨ hh < v; omega, rfl, rfl⟩)
            · skip
              refine e_iload (pc := 76) dX4_number_76 rfl ?_
              refine e_iloadn (pc := 78) dX4_number_78 rfl rfl ?_
              refine e_icmp_lt (pc := 79) (tgt := 88) dX4_number_79 rfl (fun h79 => ?_) (fun h79 => ?_)
              · skip
                refine e_aloadn (pc := 88) dX4_number_88 rfl rfl ?_
                refine e_iload (pc := 89) dX4_number_89 rfl ?_
                refine e_putI (pc := 91) (mem2 := mset (mset mem 10 3 (b : Int)) 10 1 (a : Int)) dX4_number_91 fX4_38 s_10 rfl (by decide) pw_4_1 rfl ?_
                refine e_iconst (pc := 94) dX4_number_94 (by decide) ?_
                exact e_iret (pc := 95) dX4_number_95 rfl (by rw [← hQ_, zq]; exact Or.inl ⟨by show b = a ∨ v < lw ∨ hh < v; omega, rfl, rfl⟩)
              · skip
                refine e_iload (pc := 82) dX4_number_82 rfl ?_
                refine e_iloadn (pc := 84) dX4_number_84 rfl rfl ?_
                refine e_icmp_le (pc := 85) (tgt := 96) dX4_number_85 rfl (fun h85 => ?_) (fun h85 => ?_)
                · skip
                  refine e_iload (pc := 96) dX4_number_96 rfl ?_
                  exact e_iret (pc := 98) dX4_number_98 rfl (by rw [← hQ_, zq]; exact Or.inr ⟨by show ¬ (b = a ∨ v < lw ∨ hh < v); omega, rfl, rfl⟩)
                · skip
                  refine e_aloadn (pc := 88) dX4_number_88 rfl rfl ?_
                  refine e_iload (pc := 89) dX4_number_89 rfl ?_
                  refine e_putI (pc := 91) (mem2 := mset (mset mem 10 3 (b : Int)) 10 1 (a : Int)) dX4_number_91 fX4_38 s_10 rfl (by decide) pw_4_1 rfl ?_
                  refine e_iconst (pc := 94) dX4_number_94 (by decide) ?_
                  exact e_iret (pc := 95) dX4_number_95 rfl (by rw [← hQ_, zq]; exact Or.inl ⟨by show b = a ∨ v < lw ∨ hh < v; omega, rfl, rfl⟩)
          · skip
            have zbL : b < L := by
              rcases Nat.lt_or_ge b L with z | z
              · exact z
              · exfalso; unfold hrT at h24; rw [if_neg (by omega)] at h24; omega
            refine e_iload (pc := 36) dX4_number_36 rfl ?_
            refine e_bipush (pc := 38) dX4_number_38 rfl (by decide) ?_
            refine e_imuln (pc := 40) dX4_number_40 (by omega) ?_
            refine e_aloadn (pc := 41) dX4_number_41 rfl rfl ?_
            have zT : TxI (mset mem 10 3 (b : Int)) L b := ⟨hI.1, hI.2.1, rfl, zb.2⟩
            have zH : Con G mX4_here [(2, 10)] (mset mem 10 3 (b : Int)) (fun r m' => r = some (0, hrT (mem 11) L b) ∧ m' = mset mem 10 3 (b : Int)) := t_here G (mset mem 10 3 (b : Int)) L b zT
            refine e_callVr (pc := 42) (as := []) (st := [(0, v * 10)]) (zH) dX4_number_42 lX4_number_54 rfl s_10 cn_4 rfl rfl ?_
            refine e_iaddn (pc := 45) dX4_number_45 (by omega) ?_
            refine e_bipush (pc := 46) dX4_number_46 rfl (by decide) ?_
            refine e_isubn (pc := 48) dX4_number_48 (by omega) ?_
            refine e_istore (pc := 49) (lo' := [(2, 10), (0, (f : Int)), (0, lw), (0, hh), (0, (a : Int)), (0, ((v * 10) + (hrT (mem 11) L b)) - 48), (0, (j : Int))]) dX4_number_49 rfl (by decide) rfl ?_
            refine e_aloadn (pc := 51) dX4_number_51 rfl rfl ?_
            refine e_dup (pc := 52) dX4_number_52 rfl ?_
            refine e_getiv (pc := 53) (v := (b : Int)) dX4_number_53 fX4_35 s_10 rfl (by decide) rfl ?_
            refine e_iconst (pc := 56) dX4_number_56 (by decide) ?_
            refine e_iaddn (pc := 57) dX4_number_57 (by omega) ?_
            refine e_putI (pc := 58) (mem2 := mset mem 10 3 ((b + 1 : Nat) : Int)) dX4_number_58 fX4_35 s_10 rfl (by decide) pw_4_3 (by rw [mset_mset]; rfl) ?_
            refine e_iinc (pc := 61) (lo' := [(2, 10), (0, (f : Int)), (0, lw), (0, hh), (0, (a : Int)), (0, ((v * 10) + (hrT (mem 11) L b)) - 48), (0, (j : Int) + 1)]) dX4_number_61 rfl (by omega) rfl (by decide) rfl ?_
            refine e_goto (pc := 64) (tgt := 12) dX4_number_64 rfl ?_
            exact Ev.to (ih12 _ (by omega) (j + 1) (b + 1) (v * 10 + hrT (mem 11) L b - 48) (rfl) (by omega) (by omega) (by omega) (by rw [zn, show f - j = (f - (j + 1)) + 1 by omega, nmb_s, if_pos ⟨h24, h33⟩])) rfl rfl rfl
  exact Ev.to (L12 _ 0 a 0 (rfl) (by omega) (by have z1 := hI.2.2.2; omega) (by omega) (rfl)) rfl rfl ((mset_self _ _ _ hI.2.2.1).symm)
