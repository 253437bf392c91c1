theorem t_enter_16 (G : Gm) (mem : Mem) (n : Nat) (x : Int) (hn : mem 16 9 = (n : Int)) (hx : 0 ≤ x) (hn8 : x < 60 → n < 8) (hnl : n ≤ 8) (hs : Srt (mem 21) n) (hr : ∀ j, j < n → 0 ≤ mem 21 j ∧ mem 21 j < 60) : Con G mX1_enter [(2, 16), (0, x)] mem (fun r m' => r = none ∧ (60 ≤ x → m' = mem) ∧ (x < 60 → ∃ f, m' = mset (rset mem 21 f) 16 9 ((n : Int) + 1) ∧ Ins (mem 21) f n x)) := by
  refine Con.of (lo := [(2, 16), (0, x), (3, 0)]) (by decide +kernel) (Nat.le_of_ble_eq_true rfl) rfl ?_
  generalize hQ_ : (fun r m' => r = none ∧ (60 ≤ x → m' = mem) ∧ (x < 60 → ∃ f, m' = mset (rset mem 21 f) 16 9 ((n : Int) + 1) ∧ Ins (mem 21) f n x) : Option AV → Mem → Prop) = Q_
  refine e_iloadn (pc := 0) dX1_enter_0 rfl rfl ?_
  refine e_bipush (pc := 1) dX1_enter_1 rfl (by decide) ?_
  refine e_icmp_ge (pc := 3) (tgt := 22) dX1_enter_3 rfl (fun h3 => ?_) (fun h3 => ?_)
  · skip
    exact e_vret (pc := 22) dX1_enter_22 rfl (by rw [← hQ_]; exact ⟨rfl, fun _ => rfl, fun h => by omega⟩)
  · skip
    refine e_aloadn (pc := 6) dX1_enter_6 rfl rfl ?_
    refine e_getiv (pc := 7) (v := (n : Int)) dX1_enter_7 fX1_76 s_16 rfl (by decide) (hn) ?_
    refine e_if_lt (pc := 10) (tgt := 22) dX1_enter_10 rfl (fun h10 => ?_) (fun h10 => ?_)
    · skip
      omega
    · skip
      refine e_aloadn (pc := 13) dX1_enter_13 rfl rfl ?_
      refine e_getiv (pc := 14) (v := (n : Int)) dX1_enter_14 fX1_76 s_16 rfl (by decide) (hn) ?_
      refine e_bipush (pc := 17) dX1_enter_17 rfl (by decide) ?_
      refine e_icmp_lt (pc := 19) (tgt := 23) dX1_enter_19 rfl (fun h19 => ?_) (fun h19 => ?_)
      · skip
        refine e_aloadn (pc := 23) dX1_enter_23 rfl rfl ?_
        refine e_getiv (pc := 24) (v := (n : Int)) dX1_enter_24 fX1_76 s_16 rfl (by decide) (hn) ?_
        refine e_istoren (pc := 27) (lo' := [(2, 16), (0, x), (0, (n : Int))]) dX1_enter_27 rfl rfl (by decide) rfl ?_
        have L28 : ∀ (n_ : Nat) (p : Nat), p = n_ → (p ≤ n) → (∀ j, p ≤ j → j < n → x < mem 21 j) → Ev G mX1_enter Q_ 28 [(2, 16), (0, x), (0, (p : Int))] [] (rset mem 21 (shf (mem 21) n p)) := by
          intro n_
          induction n_ using Nat.strongRecOn with
          | ind n_ ih28 =>
            intro p hn_ hp hgt
            refine e_iloadn (pc := 28) dX1_enter_28 rfl rfl ?_
            refine e_if_le (pc := 29) (tgt := 64) dX1_enter_29 rfl (fun h29 => ?_) (fun h29 => ?_)
            · skip
              refine e_aloadn (pc := 64) dX1_enter_64 rfl rfl ?_
              refine e_getr (pc := 65) (k := 21) dX1_enter_65 fX1_27 s_16 rfl (by decide) ?_
              refine e_iloadn (pc := 68) dX1_enter_68 rfl rfl ?_
              refine e_iloadn (pc := 69) dX1_enter_69 rfl rfl ?_
              refine e_iastm (pc := 70) (mem2 := rset mem 21 (ins (mem 21) n p x)) dX1_enter_70 s_21 (by omega) (by rw [mset_rset]; rfl) ?_
              refine e_aloadn (pc := 71) dX1_enter_71 rfl rfl ?_
              refine e_dup (pc := 72) dX1_enter_72 rfl ?_
              refine e_getiv (pc := 73) (v := (n : Int)) dX1_enter_73 fX1_76 s_16 rfl (by decide) (hn) ?_
              refine e_iconst (pc := 76) dX1_enter_76 (by decide) ?_
              refine e_iaddn (pc := 77) dX1_enter_77 (by omega) ?_
              refine e_putI (pc := 78) (mem2 := mset (rset mem 21 (ins (mem 21) n p x)) 16 9 ((n : Int) + 1)) dX1_enter_78 fX1_76 s_16 rfl (by decide) pw_1_9 rfl ?_
              have h8 : ∀ j, j < p → mem 21 j ≤ x := by
                intro j hj
                omega
              exact e_vret (pc := 81) dX1_enter_81 rfl (by rw [← hQ_]; exact ⟨rfl, fun h => by omega, fun h => ⟨_, rfl, ins_ok hs hr ⟨hx, h⟩ hp h8 hgt⟩⟩)
            · skip
              refine e_aloadn (pc := 32) dX1_enter_32 rfl rfl ?_
              refine e_getr (pc := 33) (k := 21) dX1_enter_33 fX1_27 s_16 rfl (by decide) ?_
              refine e_iloadn (pc := 36) dX1_enter_36 rfl rfl ?_
              refine e_iconst (pc := 37) dX1_enter_37 (by decide) ?_
              refine e_isubn (pc := 38) dX1_enter_38 (by omega) ?_
              refine e_ialdv (pc := 39) (v := (mem 21 (p - 1))) dX1_enter_39 s_21 (by omega) (by show shf (mem 21) n p ((p : Int) - 1).toNat = _; rw [show ((p : Int) - 1).toNat = p - 1 by omega]; unfold shf; rw [if_neg (by omega)]) ?_
              refine e_iloadn (pc := 40) dX1_enter_40 rfl rfl ?_
              refine e_icmp_le (pc := 41) (tgt := 64) dX1_enter_41 rfl (fun h41 => ?_) (fun h41 => ?_)
              · skip
                refine e_aloadn (pc := 64) dX1_enter_64 rfl rfl ?_
                refine e_getr (pc := 65) (k := 21) dX1_enter_65 fX1_27 s_16 rfl (by decide) ?_
                refine e_iloadn (pc := 68) dX1_enter_68 rfl rfl ?_
                refine e_iloadn (pc := 69) dX1_enter_69 rfl rfl ?_
                refine e_iastm (pc := 70) (mem2 := rset mem 21 (ins (mem 21) n p x)) dX1_enter_70 s_21 (by omega) (by rw [mset_rset]; rfl) ?_
                refine e_aloadn (pc := 71) dX1_enter_71 rfl rfl ?_
                refine e_dup (pc := 72) dX1_enter_72 rfl ?_
                refine e_getiv (pc := 73) (v := (n : Int)) dX1_enter_73 fX1_76 s_16 rfl (by decide) (hn) ?_
                refine e_iconst (pc := 76) dX1_enter_76 (by decide) ?_
                refine e_iaddn (pc := 77) dX1_enter_77 (by omega) ?_
                refine e_putI (pc := 78) (mem2 := mset (rset mem 21 (ins (mem 21) n p x)) 16 9 ((n : Int) + 1)) dX1_enter_78 fX1_76 s_16 rfl (by decide) pw_1_9 rfl ?_
                have h8 : ∀ j, j < p → mem 21 j ≤ x := by
                  intro j hj
                  rcases Nat.lt_or_ge j (p - 1) with q | q
                  · have := hs j (p - 1) q (by omega); omega
                  · rw [show j = p - 1 by omega]; omega
                exact e_vret (pc := 81) dX1_enter_81 rfl (by rw [← hQ_]; exact ⟨rfl, fun h => by omega, fun h => ⟨_, rfl, ins_ok hs hr ⟨hx, h⟩ hp h8 hgt⟩⟩)
              · skip
                refine e_aloadn (pc := 44) dX1_enter_44 rfl rfl ?_
                refine e_getr (pc := 45) (k := 21) dX1_enter_45 fX1_27 s_16 rfl (by decide) ?_
                refine e_iloadn (pc := 48) dX1_enter_48 rfl rfl ?_
                refine e_aloadn (pc := 49) dX1_enter_49 rfl rfl ?_
                refine e_getr (pc := 50) (k := 21) dX1_enter_50 fX1_27 s_16 rfl (by decide) ?_
                refine e_iloadn (pc := 53) dX1_enter_53 rfl rfl ?_
                refine e_iconst (pc := 54) dX1_enter_54 (by decide) ?_
                refine e_isubn (pc := 55) dX1_enter_55 (by omega) ?_
                refine e_ialdv (pc := 56) (v := (mem 21 (p - 1))) dX1_enter_56 s_21 (by omega) (by show shf (mem 21) n p ((p : Int) - 1).toNat = _; rw [show ((p : Int) - 1).toNat = p - 1 by omega]; unfold shf; rw [if_neg (by omega)]) ?_
                refine e_iastm (pc := 57) (mem2 := rset mem 21 (shf (mem 21) n (p - 1))) dX1_enter_57 s_21 (by omega) (by rw [mset_rset]; have h9 := shf_s (mem 21) n (p - 1) (by omega); rw [show p - 1 + 1 = p by omega] at h9; show rset mem 21 (uset (shf (mem 21) n p) p (mem 21 (p - 1))) = _; rw [h9]) ?_
                refine e_iinc (pc := 58) (lo' := [(2, 16), (0, x), (0, (p : Int) + (-1))]) dX1_enter_58 rfl (by omega) rfl (by decide) rfl ?_
                refine e_goto (pc := 61) (tgt := 28) dX1_enter_61 rfl ?_
                have h9 : ∀ j, p - 1 ≤ j → j < n → x < mem 21 j := by
                  intro j h1 h2
                  rcases Nat.lt_or_ge j p with q | q
                  · rw [show j = p - 1 by omega]; exact h41
                  · exact hgt j q h2
                exact Ev.to (ih28 _ (by omega) (p - 1) (rfl) (by omega) (h9)) ((by rw [show ((p - 1 : Nat) : Int) = (p : Int) + -1 by omega])) rfl rfl
        exact Ev.to (L28 _ n (rfl) (Nat.le_refl _) (fun j h1 h2 => absurd h1 (by omega))) rfl rfl (by rw [shf_n, rset_self])
      · skip
        omega

theorem t_enter_25 (G : Gm) (mem : Mem) (n : Nat) (x : Int) (hn : mem 25 9 = (n : Int)) (hx : 0 ≤ x) (hn8 : x < 60 → n < 8) (hnl : n ≤ 8) (hs : Srt (mem 30) n) (hr : ∀ j, j < n → 0 ≤ mem 30 j ∧ mem 30 j < 60) : Con G mX1_enter [(2, 25), (0, x)] mem (fun r m' => r = none ∧ (60 ≤ x → m' = mem) ∧ (x < 60 → ∃ f, m' = mset (rset mem 30 f) 25 9 ((n : Int) + 1) ∧ Ins (mem 30) f n x)) := by
  refine Con.of (lo := [(2, 25), (0, x), (3, 0)]) (by decide +kernel) (Nat.le_of_ble_eq_true rfl) rfl ?_
  generalize hQ_ : (fun r m' => r = none ∧ (60 ≤ x → m' = mem) ∧ (x < 60 → ∃ f, m' = mset (rset mem 30 f) 25 9 ((n : Int) + 1) ∧ Ins (mem 30) f n x) : Option AV → Mem → Prop) = Q_
  refine e_iloadn (pc := 0) dX1_enter_0 rfl rfl ?_
  refine e_bipush (pc := 1) dX1_enter_1 rfl (by decide) ?_
  refine e_icmp_ge (pc := 3) (tgt := 22) dX1_enter_3 rfl (fun h3 => ?_) (fun h3 => ?_)
  · skip
    exact e_vret (pc := 22) dX1_enter_22 rfl (by rw [← hQ_]; exact ⟨rfl, fun _ => rfl, fun h => by omega⟩)
  · skip
    refine e_aloadn (pc := 6) dX1_enter_6 rfl rfl ?_
    refine e_getiv (pc := 7) (v := (n : Int)) dX1_enter_7 fX1_76 s_25 rfl (by decide) (hn) ?_
    refine e_if_lt (pc := 10) (tgt := 22) dX1_enter_10 rfl (fun h10 => ?_) (fun h10 => ?_)
    · skip
      omega
    · skip
      refine e_aloadn (pc := 13) dX1_enter_13 rfl rfl ?_
      refine e_getiv (pc := 14) (v := (n : Int)) dX1_enter_14 fX1_76 s_25 rfl (by decide) (hn) ?_
      refine e_bipush (pc := 17) dX1_enter_17 rfl (by decide) ?_
      refine e_icmp_lt (pc := 19) (tgt := 23) dX1_enter_19 rfl (fun h19 => ?_) (fun h19 => ?_)
      · skip
        refine e_aloadn (pc := 23) dX1_enter_23 rfl rfl ?_
        refine e_getiv (pc := 24) (v := (n : Int)) dX1_enter_24 fX1_76 s_25 rfl (by decide) (hn) ?_
        refine e_istoren (pc := 27) (lo' := [(2, 25), (0, x), (0, (n : Int))]) dX1_enter_27 rfl rfl (by decide) rfl ?_
        have L28 : ∀ (n_ : Nat) (p : Nat), p = n_ → (p ≤ n) → (∀ j, p ≤ j → j < n → x < mem 30 j) → Ev G mX1_enter Q_ 28 [(2, 25), (0, x), (0, (p : Int))] [] (rset mem 30 (shf (mem 30) n p)) := by
          intro n_
          induction n_ using Nat.strongRecOn with
          | ind n_ ih28 =>
            intro p hn_ hp hgt
            refine e_iloadn (pc := 28) dX1_enter_28 rfl rfl ?_
            refine e_if_le (pc := 29) (tgt := 64) dX1_enter_29 rfl (fun h29 => ?_) (fun h29 => ?_)
            · skip
              refine e_aloadn (pc := 64) dX1_enter_64 rfl rfl ?_
              refine e_getr (pc := 65) (k := 30) dX1_enter_65 fX1_27 s_25 rfl (by decide) ?_
              refine e_iloadn (pc := 68) dX1_enter_68 rfl rfl ?_
              refine e_iloadn (pc := 69) dX1_enter_69 rfl rfl ?_
              refine e_iastm (pc := 70) (mem2 := rset mem 30 (ins (mem 30) n p x)) dX1_enter_70 s_30 (by omega) (by rw [mset_rset]; rfl) ?_
              refine e_aloadn (pc := 71) dX1_enter_71 rfl rfl ?_
              refine e_dup (pc := 72) dX1_enter_72 rfl ?_
              refine e_getiv (pc := 73) (v := (n : Int)) dX1_enter_73 fX1_76 s_25 rfl (by decide) (hn) ?_
              refine e_iconst (pc := 76) dX1_enter_76 (by decide) ?_
              refine e_iaddn (pc := 77) dX1_enter_77 (by omega) ?_
              refine e_putI (pc := 78) (mem2 := mset (rset mem 30 (ins (mem 30) n p x)) 25 9 ((n : Int) + 1)) dX1_enter_78 fX1_76 s_25 rfl (by decide) pw_1_9 rfl ?_
              have h8 : ∀ j, j < p → mem 30 j ≤ x := by
                intro j hj
                omega
              exact e_vret (pc := 81) dX1_enter_81 rfl (by rw [← hQ_]; exact ⟨rfl, fun h => by omega, fun h => ⟨_, rfl, ins_ok hs hr ⟨hx, h⟩ hp h8 hgt⟩⟩)
            · skip
              refine e_aloadn (pc := 32) dX1_enter_32 rfl rfl ?_
              refine e_getr (pc := 33) (k := 30) dX1_enter_33 fX1_27 s_25 rfl (by decide) ?_
              refine e_iloadn (pc := 36) dX1_enter_36 rfl rfl ?_
              refine e_iconst (pc := 37) dX1_enter_37 (by decide) ?_
              refine e_isubn (pc := 38) dX1_enter_38 (by omega) ?_
              refine e_ialdv (pc := 39) (v := (mem 30 (p - 1))) dX1_enter_39 s_30 (by omega) (by show shf (mem 30) n p ((p : Int) - 1).toNat = _; rw [show ((p : Int) - 1).toNat = p - 1 by omega]; unfold shf; rw [if_neg (by omega)]) ?_
              refine e_iloadn (pc := 40) dX1_enter_40 rfl rfl ?_
              refine e_icmp_le (pc := 41) (tgt := 64) dX1_enter_41 rfl (fun h41 => ?_) (fun h41 => ?_)
              · skip
                refine e_aloadn (pc := 64) dX1_enter_64 rfl rfl ?_
                refine e_getr (pc := 65) (k := 30) dX1_enter_65 fX1_27 s_25 rfl (by decide) ?_
                refine e_iloadn (pc := 68) dX1_enter_68 rfl rfl ?_
                refine e_iloadn (pc := 69) dX1_enter_69 rfl rfl ?_
                refine e_iastm (pc := 70) (mem2 := rset mem 30 (ins (mem 30) n p x)) dX1_enter_70 s_30 (by omega) (by rw [mset_rset]; rfl) ?_
                refine e_aloadn (pc := 71) dX1_enter_71 rfl rfl ?_
                refine e_dup (pc := 72) dX1_enter_72 rfl ?_
                refine e_getiv (pc := 73) (v := (n : Int)) dX1_enter_73 fX1_76 s_25 rfl (by decide) (hn) ?_
                refine e_iconst (pc := 76) dX1_enter_76 (by decide) ?_
                refine e_iaddn (pc := 77) dX1_enter_77 (by omega) ?_
                refine e_putI (pc := 78) (mem2 := mset (rset mem 30 (ins (mem 30) n p x)) 25 9 ((n : Int) + 1)) dX1_enter_78 fX1_76 s_25 rfl (by decide) pw_1_9 rfl ?_
                have h8 : ∀ j, j < p → mem 30 j ≤ x := by
                  intro j hj
                  rcases Nat.lt_or_ge j (p - 1) with q | q
                  · have := hs j (p - 1) q (by omega); omega
                  · rw [show j = p - 1 by omega]; omega
                exact e_vret (pc := 81) dX1_enter_81 rfl (by rw [← hQ_]; exact ⟨rfl, fun h => by omega, fun h => ⟨_, rfl, ins_ok hs hr ⟨hx, h⟩ hp h8 hgt⟩⟩)
              · skip
                refine e_aloadn (pc := 44) dX1_enter_44 rfl rfl ?_
                refine e_getr (pc := 45) (k := 30) dX1_enter_45 fX1_27 s_25 rfl (by decide) ?_
                refine e_iloadn (pc := 48) dX1_enter_48 rfl rfl ?_
                refine e_aloadn (pc := 49) dX1_enter_49 rfl rfl ?_
                refine e_getr (pc := 50) (k := 30) dX1_enter_50 fX1_27 s_25 rfl (by decide) ?_
                refine e_iloadn (pc := 53) dX1_enter_53 rfl rfl ?_
                refine e_iconst (pc := 54) dX1_enter_54 (by decide) ?_
                refine e_isubn (pc := 55) dX1_enter_55 (by omega) ?_
                refine e_ialdv (pc := 56) (v := (mem 30 (p - 1))) dX1_enter_56 s_30 (by omega) (by show shf (mem 30) n p ((p : Int) - 1).toNat = _; rw [show ((p : Int) - 1).toNat = p - 1 by omega]; unfold shf; rw [if_neg (by omega)]) ?_
                refine e_iastm (pc := 57) (mem2 := rset mem 30 (shf (mem 30) n (p - 1))) dX1_enter_57 s_30 (by omega) (by rw [mset_rset]; have h9 := shf_s (mem 30) n (p - 1) (by omega); rw [show p - 1 + 1 = p by omega] at h9; show rset mem 30 (uset (shf (mem 30) n p) p (mem 30 (p - 1))) = _; rw [h9]) ?_
                refine e_iinc (pc := 58) (lo' := [(2, 25), (0, x), (0, (p : Int) + (-1))]) dX1_enter_58 rfl (by omega) rfl (by decide) rfl ?_
                refine e_goto (pc := 61) (tgt := 28) dX1_enter_61 rfl ?_
                have h9 : ∀ j, p - 1 ≤ j → j < n → x < mem 30 j := by
                  intro j h1 h2
                  rcases Nat.lt_or_ge j p with q | q
                  · rw [show j = p - 1 by omega]; exact h41
                  · exact hgt j q h2
                exact Ev.to (ih28 _ (by omega) (p - 1) (rfl) (by omega) (h9)) ((by rw [show ((p - 1 : Nat) : Int) = (p : Int) + -1 by omega])) rfl rfl
        exact Ev.to (L28 _ n (rfl) (Nat.le_refl _) (fun j h1 h2 => absurd h1 (by omega))) rfl rfl (by rw [shf_n, rset_self])
      · skip
        omega
