theorem t_mayAim (G : Gm) (mem : Mem) (a : Int) : Con G mX7_mayAim [(0, a)] mem (fun r m' => r = some (0, if 0 ≤ a ∧ a ≤ 60 then 1 else 0) ∧ m' = mem) := by
  refine Con.of (lo := [(0, a)]) (by decide +kernel) (Nat.le_of_ble_eq_true rfl) rfl ?_
  generalize hQ_ : (fun r m' => r = some (0, if 0 ≤ a ∧ a ≤ 60 then 1 else 0) ∧ m' = mem : Option AV → Mem → Prop) = Q_
  refine e_iloadn (pc := 0) dX7_mayAim_0 rfl rfl ?_
  refine e_if_lt (pc := 1) (tgt := 14) dX7_mayAim_1 rfl (fun h1 => ?_) (fun h1 => ?_)
  · skip
    refine e_iconst (pc := 14) dX7_mayAim_14 (by decide) ?_
    exact e_zret (pc := 15) dX7_mayAim_15 rfl (by decide) (by rw [← hQ_]; exact ⟨by first | (rw [if_neg (by omega)]; done) | (rw [if_pos (by omega)]; done) | (exfalso; omega), rfl⟩)
  · skip
    refine e_iloadn (pc := 4) dX7_mayAim_4 rfl rfl ?_
    refine e_bipush (pc := 5) dX7_mayAim_5 rfl (by decide) ?_
    refine e_icmp_gt (pc := 7) (tgt := 14) dX7_mayAim_7 rfl (fun h7 => ?_) (fun h7 => ?_)
    · skip
      refine e_iconst (pc := 14) dX7_mayAim_14 (by decide) ?_
      exact e_zret (pc := 15) dX7_mayAim_15 rfl (by decide) (by rw [← hQ_]; exact ⟨by first | (rw [if_neg (by omega)]; done) | (rw [if_pos (by omega)]; done) | (exfalso; omega), rfl⟩)
    · skip
      refine e_iconst (pc := 10) dX7_mayAim_10 (by decide) ?_
      refine e_goto (pc := 11) (tgt := 15) dX7_mayAim_11 rfl ?_
      exact e_zret (pc := 15) dX7_mayAim_15 rfl (by decide) (by rw [← hQ_]; exact ⟨by first | (rw [if_neg (by omega)]; done) | (rw [if_pos (by omega)]; done) | (exfalso; omega), rfl⟩)

theorem t_isStep (G : Gm) (mem : Mem) (a : Int) : Con G mX7_isStep [(0, a)] mem (fun r m' => r = some (0, if 5 ≤ a ∧ a ≤ 30 then 1 else 0) ∧ m' = mem) := by
  refine Con.of (lo := [(0, a)]) (by decide +kernel) (Nat.le_of_ble_eq_true rfl) rfl ?_
  generalize hQ_ : (fun r m' => r = some (0, if 5 ≤ a ∧ a ≤ 30 then 1 else 0) ∧ m' = mem : Option AV → Mem → Prop) = Q_
  refine e_iloadn (pc := 0) dX7_isStep_0 rfl rfl ?_
  refine e_iconst (pc := 1) dX7_isStep_1 (by decide) ?_
  refine e_icmp_lt (pc := 2) (tgt := 15) dX7_isStep_2 rfl (fun h2 => ?_) (fun h2 => ?_)
  · skip
    refine e_iconst (pc := 15) dX7_isStep_15 (by decide) ?_
    exact e_zret (pc := 16) dX7_isStep_16 rfl (by decide) (by rw [← hQ_]; exact ⟨by first | (rw [if_neg (by omega)]; done) | (rw [if_pos (by omega)]; done) | (exfalso; omega), rfl⟩)
  · skip
    refine e_iloadn (pc := 5) dX7_isStep_5 rfl rfl ?_
    refine e_bipush (pc := 6) dX7_isStep_6 rfl (by decide) ?_
    refine e_icmp_gt (pc := 8) (tgt := 15) dX7_isStep_8 rfl (fun h8 => ?_) (fun h8 => ?_)
    · skip
      refine e_iconst (pc := 15) dX7_isStep_15 (by decide) ?_
      exact e_zret (pc := 16) dX7_isStep_16 rfl (by decide) (by rw [← hQ_]; exact ⟨by first | (rw [if_neg (by omega)]; done) | (rw [if_pos (by omega)]; done) | (exfalso; omega), rfl⟩)
    · skip
      refine e_iconst (pc := 11) dX7_isStep_11 (by decide) ?_
      refine e_goto (pc := 12) (tgt := 16) dX7_isStep_12 rfl ?_
      exact e_zret (pc := 16) dX7_isStep_16 rfl (by decide) (by rw [← hQ_]; exact ⟨by first | (rw [if_neg (by omega)]; done) | (rw [if_pos (by omega)]; done) | (exfalso; omega), rfl⟩)

theorem t_isSheet (G : Gm) (mem : Mem) (a : Int) : Con G mX7_isSheet [(0, a)] mem (fun r m' => r = some (0, if 0 ≤ a ∧ a < 4 then 1 else 0) ∧ m' = mem) := by
  refine Con.of (lo := [(0, a)]) (by decide +kernel) (Nat.le_of_ble_eq_true rfl) rfl ?_
  generalize hQ_ : (fun r m' => r = some (0, if 0 ≤ a ∧ a < 4 then 1 else 0) ∧ m' = mem : Option AV → Mem → Prop) = Q_
  refine e_iloadn (pc := 0) dX7_isSheet_0 rfl rfl ?_
  refine e_if_lt (pc := 1) (tgt := 13) dX7_isSheet_1 rfl (fun h1 => ?_) (fun h1 => ?_)
  · skip
    refine e_iconst (pc := 13) dX7_isSheet_13 (by decide) ?_
    exact e_zret (pc := 14) dX7_isSheet_14 rfl (by decide) (by rw [← hQ_]; exact ⟨by first | (rw [if_neg (by omega)]; done) | (rw [if_pos (by omega)]; done) | (exfalso; omega), rfl⟩)
  · skip
    refine e_iloadn (pc := 4) dX7_isSheet_4 rfl rfl ?_
    refine e_iconst (pc := 5) dX7_isSheet_5 (by decide) ?_
    refine e_icmp_ge (pc := 6) (tgt := 13) dX7_isSheet_6 rfl (fun h6 => ?_) (fun h6 => ?_)
    · skip
      refine e_iconst (pc := 13) dX7_isSheet_13 (by decide) ?_
      exact e_zret (pc := 14) dX7_isSheet_14 rfl (by decide) (by rw [← hQ_]; exact ⟨by first | (rw [if_neg (by omega)]; done) | (rw [if_pos (by omega)]; done) | (exfalso; omega), rfl⟩)
    · skip
      refine e_iconst (pc := 9) dX7_isSheet_9 (by decide) ?_
      refine e_goto (pc := 10) (tgt := 14) dX7_isSheet_10 rfl ?_
      exact e_zret (pc := 14) dX7_isSheet_14 rfl (by decide) (by rw [← hQ_]; exact ⟨by first | (rw [if_neg (by omega)]; done) | (rw [if_pos (by omega)]; done) | (exfalso; omega), rfl⟩)

theorem t_isForm (G : Gm) (mem : Mem) (a : Int) : Con G mX7_isForm [(0, a)] mem (fun r m' => r = some (0, if 0 ≤ a ∧ a < 3 then 1 else 0) ∧ m' = mem) := by
  refine Con.of (lo := [(0, a)]) (by decide +kernel) (Nat.le_of_ble_eq_true rfl) rfl ?_
  generalize hQ_ : (fun r m' => r = some (0, if 0 ≤ a ∧ a < 3 then 1 else 0) ∧ m' = mem : Option AV → Mem → Prop) = Q_
  refine e_iloadn (pc := 0) dX7_isForm_0 rfl rfl ?_
  refine e_if_lt (pc := 1) (tgt := 13) dX7_isForm_1 rfl (fun h1 => ?_) (fun h1 => ?_)
  · skip
    refine e_iconst (pc := 13) dX7_isForm_13 (by decide) ?_
    exact e_zret (pc := 14) dX7_isForm_14 rfl (by decide) (by rw [← hQ_]; exact ⟨by first | (rw [if_neg (by omega)]; done) | (rw [if_pos (by omega)]; done) | (exfalso; omega), rfl⟩)
  · skip
    refine e_iloadn (pc := 4) dX7_isForm_4 rfl rfl ?_
    refine e_iconst (pc := 5) dX7_isForm_5 (by decide) ?_
    refine e_icmp_ge (pc := 6) (tgt := 13) dX7_isForm_6 rfl (fun h6 => ?_) (fun h6 => ?_)
    · skip
      refine e_iconst (pc := 13) dX7_isForm_13 (by decide) ?_
      exact e_zret (pc := 14) dX7_isForm_14 rfl (by decide) (by rw [← hQ_]; exact ⟨by first | (rw [if_neg (by omega)]; done) | (rw [if_pos (by omega)]; done) | (exfalso; omega), rfl⟩)
    · skip
      refine e_iconst (pc := 9) dX7_isForm_9 (by decide) ?_
      refine e_goto (pc := 10) (tgt := 14) dX7_isForm_10 rfl ?_
      exact e_zret (pc := 14) dX7_isForm_14 rfl (by decide) (by rw [← hQ_]; exact ⟨by first | (rw [if_neg (by omega)]; done) | (rw [if_pos (by omega)]; done) | (exfalso; omega), rfl⟩)

theorem t_isComer (G : Gm) (mem : Mem) (a : Int) : Con G mX7_isComer [(2, 0), (0, a)] mem (fun r m' => r = some (0, if 0 ≤ a ∧ a < 8 ∧ mem 18 a.toNat ≠ -1 then 1 else 0) ∧ m' = mem) := by
  refine Con.of (lo := [(2, 0), (0, a)]) (by decide +kernel) (Nat.le_of_ble_eq_true rfl) rfl ?_
  generalize hQ_ : (fun r m' => r = some (0, if 0 ≤ a ∧ a < 8 ∧ mem 18 a.toNat ≠ -1 then 1 else 0) ∧ m' = mem : Option AV → Mem → Prop) = Q_
  refine e_iloadn (pc := 0) dX7_isComer_0 rfl rfl ?_
  refine e_if_lt (pc := 1) (tgt := 27) dX7_isComer_1 rfl (fun h1 => ?_) (fun h1 => ?_)
  · skip
    refine e_iconst (pc := 27) dX7_isComer_27 (by decide) ?_
    exact e_zret (pc := 28) dX7_isComer_28 rfl (by decide) (by rw [← hQ_]; exact ⟨by first | (rw [if_neg (by omega)]; done) | (rw [if_pos (by omega)]; done) | (exfalso; omega), rfl⟩)
  · skip
    refine e_iloadn (pc := 4) dX7_isComer_4 rfl rfl ?_
    refine e_bipush (pc := 5) dX7_isComer_5 rfl (by decide) ?_
    refine e_icmp_ge (pc := 7) (tgt := 27) dX7_isComer_7 rfl (fun h7 => ?_) (fun h7 => ?_)
    · skip
      refine e_iconst (pc := 27) dX7_isComer_27 (by decide) ?_
      exact e_zret (pc := 28) dX7_isComer_28 rfl (by decide) (by rw [← hQ_]; exact ⟨by first | (rw [if_neg (by omega)]; done) | (rw [if_pos (by omega)]; done) | (exfalso; omega), rfl⟩)
    · skip
      refine e_aloadn (pc := 10) dX7_isComer_10 rfl rfl ?_
      refine e_getr (pc := 11) (k := 16) dX7_isComer_11 fX7_28 s_0 rfl (by decide) ?_
      refine e_getr (pc := 14) (k := 18) dX7_isComer_14 fX7_82 s_16 rfl (by decide) ?_
      refine e_iloadn (pc := 17) dX7_isComer_17 rfl rfl ?_
      refine e_ialdv (pc := 18) (v := mem 18 a.toNat) dX7_isComer_18 s_18 (by omega) rfl ?_
      refine e_iconst (pc := 19) dX7_isComer_19 (by decide) ?_
      refine e_icmp_eq (pc := 20) (tgt := 27) dX7_isComer_20 rfl (fun h20 => ?_) (fun h20 => ?_)
      · skip
        refine e_iconst (pc := 27) dX7_isComer_27 (by decide) ?_
        exact e_zret (pc := 28) dX7_isComer_28 rfl (by decide) (by rw [← hQ_]; exact ⟨by first | (rw [if_neg (by omega)]; done) | (rw [if_pos (by omega)]; done) | (exfalso; omega), rfl⟩)
      · skip
        refine e_iconst (pc := 23) dX7_isComer_23 (by decide) ?_
        refine e_goto (pc := 24) (tgt := 28) dX7_isComer_24 rfl ?_
        exact e_zret (pc := 28) dX7_isComer_28 rfl (by decide) (by rw [← hQ_]; exact ⟨by first | (rw [if_neg (by omega)]; done) | (rw [if_pos (by omega)]; done) | (exfalso; omega), rfl⟩)

theorem t_isPlain (G : Gm) (mem : Mem) (a : Int) : Con G mX7_isPlain [(2, 0), (0, a)] mem (fun r m' => r = some (0, if 0 ≤ a ∧ a < 8 ∧ mem 18 a.toNat = 0 then 1 else 0) ∧ m' = mem) := by
  refine Con.of (lo := [(2, 0), (0, a)]) (by decide +kernel) (Nat.le_of_ble_eq_true rfl) rfl ?_
  generalize hQ_ : (fun r m' => r = some (0, if 0 ≤ a ∧ a < 8 ∧ mem 18 a.toNat = 0 then 1 else 0) ∧ m' = mem : Option AV → Mem → Prop) = Q_
  refine e_iloadn (pc := 0) dX7_isPlain_0 rfl rfl ?_
  refine e_if_lt (pc := 1) (tgt := 26) dX7_isPlain_1 rfl (fun h1 => ?_) (fun h1 => ?_)
  · skip
    refine e_iconst (pc := 26) dX7_isPlain_26 (by decide) ?_
    exact e_zret (pc := 27) dX7_isPlain_27 rfl (by decide) (by rw [← hQ_]; exact ⟨by first | (rw [if_neg (by omega)]; done) | (rw [if_pos (by omega)]; done) | (exfalso; omega), rfl⟩)
  · skip
    refine e_iloadn (pc := 4) dX7_isPlain_4 rfl rfl ?_
    refine e_bipush (pc := 5) dX7_isPlain_5 rfl (by decide) ?_
    refine e_icmp_ge (pc := 7) (tgt := 26) dX7_isPlain_7 rfl (fun h7 => ?_) (fun h7 => ?_)
    · skip
      refine e_iconst (pc := 26) dX7_isPlain_26 (by decide) ?_
      exact e_zret (pc := 27) dX7_isPlain_27 rfl (by decide) (by rw [← hQ_]; exact ⟨by first | (rw [if_neg (by omega)]; done) | (rw [if_pos (by omega)]; done) | (exfalso; omega), rfl⟩)
    · skip
      refine e_aloadn (pc := 10) dX7_isPlain_10 rfl rfl ?_
      refine e_getr (pc := 11) (k := 16) dX7_isPlain_11 fX7_28 s_0 rfl (by decide) ?_
      refine e_getr (pc := 14) (k := 18) dX7_isPlain_14 fX7_82 s_16 rfl (by decide) ?_
      refine e_iloadn (pc := 17) dX7_isPlain_17 rfl rfl ?_
      refine e_ialdv (pc := 18) (v := mem 18 a.toNat) dX7_isPlain_18 s_18 (by omega) rfl ?_
      refine e_if_ne (pc := 19) (tgt := 26) dX7_isPlain_19 rfl (fun h19 => ?_) (fun h19 => ?_)
      · skip
        refine e_iconst (pc := 26) dX7_isPlain_26 (by decide) ?_
        exact e_zret (pc := 27) dX7_isPlain_27 rfl (by decide) (by rw [← hQ_]; exact ⟨by first | (rw [if_neg (by omega)]; done) | (rw [if_pos (by omega)]; done) | (exfalso; omega), rfl⟩)
      · skip
        refine e_iconst (pc := 22) dX7_isPlain_22 (by decide) ?_
        refine e_goto (pc := 23) (tgt := 27) dX7_isPlain_23 rfl ?_
        exact e_zret (pc := 27) dX7_isPlain_27 rfl (by decide) (by rw [← hQ_]; exact ⟨by first | (rw [if_neg (by omega)]; done) | (rw [if_pos (by omega)]; done) | (exfalso; omega), rfl⟩)

theorem t_mayCome (G : Gm) (mem : Mem) (kind a b : Int) : Con G mX7_mayCome [(0, kind), (0, a), (0, b)] mem (fun r m' => r = some (0, if (kind = 0 ∧ (0 ≤ a ∧ a ≤ 60) ∧ b = 0) ∨ (kind = 1 ∧ a = 0 ∧ b = 0) ∨ (kind = 2 ∧ (1 ≤ a ∧ a ≤ 30) ∧ 1 ≤ b ∧ b ≤ 7) then 1 else 0) ∧ m' = mem) := by
  refine Con.of (lo := [(0, kind), (0, a), (0, b)]) (by decide +kernel) (Nat.le_of_ble_eq_true rfl) rfl ?_
  generalize hQ_ : (fun r m' => r = some (0, if (kind = 0 ∧ (0 ≤ a ∧ a ≤ 60) ∧ b = 0) ∨ (kind = 1 ∧ a = 0 ∧ b = 0) ∨ (kind = 2 ∧ (1 ≤ a ∧ a ≤ 30) ∧ 1 ≤ b ∧ b ≤ 7) then 1 else 0) ∧ m' = mem : Option AV → Mem → Prop) = Q_
  refine e_iloadn (pc := 0) dX7_mayCome_0 rfl rfl ?_
  by_cases hs1 : 0 ≤ kind ∧ kind ≤ 2
  · obtain ⟨hsa1, hsb1⟩ := hs1
    rcases (show kind = 0 ∨ kind = 1 ∨ kind = 2 by omega) with hs1 | hs1 | hs1
    · skip
      refine e_tableIn (pc := 1) (tgt := 28) (off := 27) dX7_mayCome_1 (by omega) (by rw [hs1]; rfl) rfl ?_
      refine e_iloadn (pc := 28) dX7_mayCome_28 rfl rfl ?_
      refine e_callSr (pc := 29) (as := [(0, a)]) (st := []) (t_mayAim G mem a) dX7_mayCome_29 lX7_mayCome_92 rfl rfl rfl ?_
      by_cases zma : 0 ≤ a ∧ a ≤ 60
      · rw [if_pos zma]
        refine e_if_eq (pc := 32) (tgt := 43) dX7_mayCome_32 rfl (fun h32 => ?_) (fun h32 => ?_)
        · skip
          exact absurd h32 (by decide)
        · skip
          refine e_iloadn (pc := 35) dX7_mayCome_35 rfl rfl ?_
          refine e_if_ne (pc := 36) (tgt := 43) dX7_mayCome_36 rfl (fun h36 => ?_) (fun h36 => ?_)
          · skip
            refine e_iconst (pc := 43) dX7_mayCome_43 (by decide) ?_
            exact e_zret (pc := 44) dX7_mayCome_44 rfl (by decide) (by rw [← hQ_]; exact ⟨by first | (rw [if_neg (by omega)]; done) | (rw [if_pos (by omega)]; done) | (exfalso; omega), rfl⟩)
          · skip
            refine e_iconst (pc := 39) dX7_mayCome_39 (by decide) ?_
            refine e_goto (pc := 40) (tgt := 44) dX7_mayCome_40 rfl ?_
            exact e_zret (pc := 44) dX7_mayCome_44 rfl (by decide) (by rw [← hQ_]; exact ⟨by first | (rw [if_neg (by omega)]; done) | (rw [if_pos (by omega)]; done) | (exfalso; omega), rfl⟩)
      · rw [if_neg zma]
        refine e_if_eq (pc := 32) (tgt := 43) dX7_mayCome_32 rfl (fun h32 => ?_) (fun h32 => ?_)
        · skip
          refine e_iconst (pc := 43) dX7_mayCome_43 (by decide) ?_
          exact e_zret (pc := 44) dX7_mayCome_44 rfl (by decide) (by rw [← hQ_]; exact ⟨by first | (rw [if_neg (by omega)]; done) | (rw [if_pos (by omega)]; done) | (exfalso; omega), rfl⟩)
        · skip
          exact absurd h32 (by decide)
    · skip
      refine e_tableIn (pc := 1) (tgt := 45) (off := 44) dX7_mayCome_1 (by omega) (by rw [hs1]; rfl) rfl ?_
      refine e_iloadn (pc := 45) dX7_mayCome_45 rfl rfl ?_
      refine e_if_ne (pc := 46) (tgt := 57) dX7_mayCome_46 rfl (fun h46 => ?_) (fun h46 => ?_)
      · skip
        refine e_iconst (pc := 57) dX7_mayCome_57 (by decide) ?_
        exact e_zret (pc := 58) dX7_mayCome_58 rfl (by decide) (by rw [← hQ_]; exact ⟨by first | (rw [if_neg (by omega)]; done) | (rw [if_pos (by omega)]; done) | (exfalso; omega), rfl⟩)
      · skip
        refine e_iloadn (pc := 49) dX7_mayCome_49 rfl rfl ?_
        refine e_if_ne (pc := 50) (tgt := 57) dX7_mayCome_50 rfl (fun h50 => ?_) (fun h50 => ?_)
        · skip
          refine e_iconst (pc := 57) dX7_mayCome_57 (by decide) ?_
          exact e_zret (pc := 58) dX7_mayCome_58 rfl (by decide) (by rw [← hQ_]; exact ⟨by first | (rw [if_neg (by omega)]; done) | (rw [if_pos (by omega)]; done) | (exfalso; omega), rfl⟩)
        · skip
          refine e_iconst (pc := 53) dX7_mayCome_53 (by decide) ?_
          refine e_goto (pc := 54) (tgt := 58) dX7_mayCome_54 rfl ?_
          exact e_zret (pc := 58) dX7_mayCome_58 rfl (by decide) (by rw [← hQ_]; exact ⟨by first | (rw [if_neg (by omega)]; done) | (rw [if_pos (by omega)]; done) | (exfalso; omega), rfl⟩)
    · skip
      refine e_tableIn (pc := 1) (tgt := 59) (off := 58) dX7_mayCome_1 (by omega) (by rw [hs1]; rfl) rfl ?_
      refine e_iloadn (pc := 59) dX7_mayCome_59 rfl rfl ?_
      refine e_iconst (pc := 60) dX7_mayCome_60 (by decide) ?_
      refine e_icmp_lt (pc := 61) (tgt := 85) dX7_mayCome_61 rfl (fun h61 => ?_) (fun h61 => ?_)
      · skip
        refine e_iconst (pc := 85) dX7_mayCome_85 (by decide) ?_
        exact e_zret (pc := 86) dX7_mayCome_86 rfl (by decide) (by rw [← hQ_]; exact ⟨by first | (rw [if_neg (by omega)]; done) | (rw [if_pos (by omega)]; done) | (exfalso; omega), rfl⟩)
      · skip
        refine e_iloadn (pc := 64) dX7_mayCome_64 rfl rfl ?_
        refine e_bipush (pc := 65) dX7_mayCome_65 rfl (by decide) ?_
        refine e_icmp_gt (pc := 67) (tgt := 85) dX7_mayCome_67 rfl (fun h67 => ?_) (fun h67 => ?_)
        · skip
          refine e_iconst (pc := 85) dX7_mayCome_85 (by decide) ?_
          exact e_zret (pc := 86) dX7_mayCome_86 rfl (by decide) (by rw [← hQ_]; exact ⟨by first | (rw [if_neg (by omega)]; done) | (rw [if_pos (by omega)]; done) | (exfalso; omega), rfl⟩)
        · skip
          refine e_iloadn (pc := 70) dX7_mayCome_70 rfl rfl ?_
          refine e_iconst (pc := 71) dX7_mayCome_71 (by decide) ?_
          refine e_icmp_lt (pc := 72) (tgt := 85) dX7_mayCome_72 rfl (fun h72 => ?_) (fun h72 => ?_)
          · skip
            refine e_iconst (pc := 85) dX7_mayCome_85 (by decide) ?_
            exact e_zret (pc := 86) dX7_mayCome_86 rfl (by decide) (by rw [← hQ_]; exact ⟨by first | (rw [if_neg (by omega)]; done) | (rw [if_pos (by omega)]; done) | (exfalso; omega), rfl⟩)
          · skip
            refine e_iloadn (pc := 75) dX7_mayCome_75 rfl rfl ?_
            refine e_bipush (pc := 76) dX7_mayCome_76 rfl (by decide) ?_
            refine e_icmp_gt (pc := 78) (tgt := 85) dX7_mayCome_78 rfl (fun h78 => ?_) (fun h78 => ?_)
            · skip
              refine e_iconst (pc := 85) dX7_mayCome_85 (by decide) ?_
              exact e_zret (pc := 86) dX7_mayCome_86 rfl (by decide) (by rw [← hQ_]; exact ⟨by first | (rw [if_neg (by omega)]; done) | (rw [if_pos (by omega)]; done) | (exfalso; omega), rfl⟩)
            · skip
              refine e_iconst (pc := 81) dX7_mayCome_81 (by decide) ?_
              refine e_goto (pc := 82) (tgt := 86) dX7_mayCome_82 rfl ?_
              exact e_zret (pc := 86) dX7_mayCome_86 rfl (by decide) (by rw [← hQ_]; exact ⟨by first | (rw [if_neg (by omega)]; done) | (rw [if_pos (by omega)]; done) | (exfalso; omega), rfl⟩)
  · skip
    refine e_tableOut (pc := 1) (tgt := 87) dX7_mayCome_1 (by omega) rfl ?_
    refine e_iconst (pc := 87) dX7_mayCome_87 (by decide) ?_
    exact e_zret (pc := 88) dX7_mayCome_88 rfl (by decide) (by rw [← hQ_]; exact ⟨by first | (rw [if_neg (by omega)]; done) | (rw [if_pos (by omega)]; done) | (exfalso; omega), rfl⟩)

theorem t_finds (G : Gm) (mem : Mem) (f : Int) (hf : 0 ≤ f ∧ f ≤ 9) : Con G mX5_finds [(2, 41), (0, f)] mem (fun r m' => r = some (0, -10 - f) ∧ m' = mset mem 41 3 f) := by
  refine Con.of (lo := [(2, 41), (0, f)]) (by decide +kernel) (Nat.le_of_ble_eq_true rfl) rfl ?_
  generalize hQ_ : (fun r m' => r = some (0, -10 - f) ∧ m' = mset mem 41 3 f : Option AV → Mem → Prop) = Q_
  refine e_aloadn (pc := 0) dX5_finds_0 rfl rfl ?_
  refine e_iloadn (pc := 1) dX5_finds_1 rfl rfl ?_
  refine e_putI (pc := 2) (mem2 := mset mem 41 3 f) dX5_finds_2 fX5_23 s_41 rfl (by decide) pw_5_3 rfl ?_
  refine e_bipush (pc := 5) dX5_finds_5 rfl (by decide) ?_
  refine e_iloadn (pc := 7) dX5_finds_7 rfl rfl ?_
  refine e_isubn (pc := 8) dX5_finds_8 (by omega) ?_
  exact e_iret (pc := 9) dX5_finds_9 rfl (by rw [← hQ_]; exact ⟨rfl, rfl⟩)

theorem t_isGone (G : Gm) (mem : Mem) (s : Nat) (hs : s < 4) : Con G mX5_isGone [(2, 41), (0, (s : Int))] mem (fun r m' => r = some (0, if mem 47 s = -1 then 1 else 0) ∧ m' = mem) := by
  refine Con.of (lo := [(2, 41), (0, (s : Int))]) (by decide +kernel) (Nat.le_of_ble_eq_true rfl) rfl ?_
  generalize hQ_ : (fun r m' => r = some (0, if mem 47 s = -1 then 1 else 0) ∧ m' = mem : Option AV → Mem → Prop) = Q_
  refine e_aloadn (pc := 0) dX5_isGone_0 rfl rfl ?_
  refine e_getr (pc := 1) (k := 47) dX5_isGone_1 fX5_16 s_41 rfl (by decide) ?_
  refine e_iloadn (pc := 4) dX5_isGone_4 rfl rfl ?_
  refine e_ialdv (pc := 5) (v := mem 47 s) dX5_isGone_5 s_47 (by omega) rfl ?_
  refine e_iconst (pc := 6) dX5_isGone_6 (by decide) ?_
  refine e_icmp_ne (pc := 7) (tgt := 14) dX5_isGone_7 rfl (fun h7 => ?_) (fun h7 => ?_)
  · skip
    refine e_iconst (pc := 14) dX5_isGone_14 (by decide) ?_
    exact e_zret (pc := 15) dX5_isGone_15 rfl (by decide) (by rw [← hQ_]; exact ⟨by first | (rw [if_neg (by omega)]; done) | (rw [if_pos (by omega)]; done) | (exfalso; omega), rfl⟩)
  · skip
    refine e_iconst (pc := 10) dX5_isGone_10 (by decide) ?_
    refine e_goto (pc := 11) (tgt := 15) dX5_isGone_11 rfl ?_
    exact e_zret (pc := 15) dX5_isGone_15 rfl (by decide) (by rw [← hQ_]; exact ⟨by first | (rw [if_neg (by omega)]; done) | (rw [if_pos (by omega)]; done) | (exfalso; omega), rfl⟩)

theorem t_drop (G : Gm) (mem : Mem) (s : Nat) (hs : s < 4) : Con G mX5_drop [(2, 41), (0, (s : Int))] mem (fun r m' => r = none ∧ m' = mset (mset mem 47 s (-1)) 48 s 0) := by
  refine Con.of (lo := [(2, 41), (0, (s : Int))]) (by decide +kernel) (Nat.le_of_ble_eq_true rfl) rfl ?_
  generalize hQ_ : (fun r m' => r = none ∧ m' = mset (mset mem 47 s (-1)) 48 s 0 : Option AV → Mem → Prop) = Q_
  refine e_aloadn (pc := 0) dX5_drop_0 rfl rfl ?_
  refine e_getr (pc := 1) (k := 47) dX5_drop_1 fX5_16 s_41 rfl (by decide) ?_
  refine e_iloadn (pc := 4) dX5_drop_4 rfl rfl ?_
  refine e_iconst (pc := 5) dX5_drop_5 (by decide) ?_
  refine e_iastm (pc := 6) (mem2 := mset mem 47 s (-1)) dX5_drop_6 s_47 (by omega) rfl ?_
  refine e_aloadn (pc := 7) dX5_drop_7 rfl rfl ?_
  refine e_getr (pc := 8) (k := 48) dX5_drop_8 fX5_20 s_41 rfl (by decide) ?_
  refine e_iloadn (pc := 11) dX5_drop_11 rfl rfl ?_
  refine e_iconst (pc := 12) dX5_drop_12 (by decide) ?_
  refine e_iastm (pc := 13) (mem2 := mset (mset mem 47 s (-1)) 48 s 0) dX5_drop_13 s_48 (by omega) rfl ?_
  exact e_vret (pc := 14) dX5_drop_14 rfl (by rw [← hQ_]; exact ⟨rfl, rfl⟩)

theorem shI {s : Nat} (h : s < 4) : shp (43 + s) = .inr (0, 64, 0) := by
  match s, h with
  | 0, _ => rfl
  | 1, _ => rfl
  | 2, _ => rfl
  | 3, _ => rfl
def zr64 (f : Nat → Int) (k : Nat) : Nat → Int := fun j => if j < k then 0 else f j
theorem zr64_0 (f : Nat → Int) : zr64 f 0 = f := by funext j; unfold zr64; rw [if_neg (by omega)]
theorem zr64_s (f : Nat → Int) (k : Nat) : uset (zr64 f k) k 0 = zr64 f (k + 1) := by
  funext j; unfold uset zr64
  by_cases e : j = k
  · rw [if_pos e, if_pos (by omega)]
  · rw [if_neg e]
    by_cases h : j < k
    · rw [if_pos h, if_pos (by omega)]
    · rw [if_neg h, if_neg (by omega)]

theorem t_lay5 (G : Gm) (mem : Mem) (s : Nat) (f n : Int) (hs : s < 4) : Con G mX5_lay [(2, 41), (0, (s : Int)), (0, f), (0, n)] mem (fun r m' => r = none ∧ m' = rset (mset (mset mem 47 s f) 48 s n) (43 + s) (zr64 (mem (43 + s)) 64)) := by
  refine Con.of (lo := [(2, 41), (0, (s : Int)), (0, f), (0, n), (3, 0)]) (by decide +kernel) (Nat.le_of_ble_eq_true rfl) rfl ?_
  generalize hQ_ : (fun r m' => r = none ∧ m' = rset (mset (mset mem 47 s f) 48 s n) (43 + s) (zr64 (mem (43 + s)) 64) : Option AV → Mem → Prop) = Q_
  refine e_aloadn (pc := 0) dX5_lay_0 rfl rfl ?_
  refine e_getr (pc := 1) (k := 47) dX5_lay_1 fX5_16 s_41 rfl (by decide) ?_
  refine e_iloadn (pc := 4) dX5_lay_4 rfl rfl ?_
  refine e_iloadn (pc := 5) dX5_lay_5 rfl rfl ?_
  refine e_iastm (pc := 6) (mem2 := mset mem 47 s f) dX5_lay_6 s_47 (by omega) rfl ?_
  refine e_aloadn (pc := 7) dX5_lay_7 rfl rfl ?_
  refine e_getr (pc := 8) (k := 48) dX5_lay_8 fX5_20 s_41 rfl (by decide) ?_
  refine e_iloadn (pc := 11) dX5_lay_11 rfl rfl ?_
  refine e_iloadn (pc := 12) dX5_lay_12 rfl rfl ?_
  refine e_iastm (pc := 13) (mem2 := mset (mset mem 47 s f) 48 s n) dX5_lay_13 s_48 (by omega) rfl ?_
  refine e_iconst (pc := 14) dX5_lay_14 (by decide) ?_
  refine e_istore (pc := 15) (lo' := [(2, 41), (0, (s : Int)), (0, f), (0, n), (0, 0)]) dX5_lay_15 rfl (by decide) rfl ?_
  have L17 : ∀ (n_ : Nat) (k : Nat), 64 - k = n_ → (k ≤ 64) → Ev G mX5_lay Q_ 17 [(2, 41), (0, (s : Int)), (0, f), (0, n), (0, (k : Int))] [] (rset (mset (mset mem 47 s f) 48 s n) (43 + s) (zr64 (mem (43 + s)) k)) := by
    intro n_
    induction n_ using Nat.strongRecOn with
    | ind n_ ih17 =>
      intro k hn_ zk
      refine e_iload (pc := 17) dX5_lay_17 rfl ?_
      refine e_bipush (pc := 19) dX5_lay_19 rfl (by decide) ?_
      refine e_icmp_ge (pc := 21) (tgt := 40) dX5_lay_21 rfl (fun h21 => ?_) (fun h21 => ?_)
      · skip
        exact e_vret (pc := 40) dX5_lay_40 rfl (by rw [← hQ_, show k = 64 by omega]; exact ⟨rfl, rfl⟩)
      · skip
        refine e_aloadn (pc := 24) dX5_lay_24 rfl rfl ?_
        refine e_getr (pc := 25) (k := 42) dX5_lay_25 fX5_11 s_41 rfl (by decide) ?_
        refine e_iloadn (pc := 28) dX5_lay_28 rfl rfl ?_
        refine e_aald (pc := 29) dX5_lay_29 s_42 (by omega) ?_
        refine Ev.to (st' := [(2, ((43 + s : Nat) : Int))]) ?_ rfl rfl rfl
        refine e_iload (pc := 30) dX5_lay_30 rfl ?_
        refine e_iconst (pc := 32) dX5_lay_32 (by decide) ?_
        refine e_iastm (pc := 33) (c := (43 + s)) (mem2 := rset (mset (mset mem 47 s f) 48 s n) (43 + s) (zr64 (mem (43 + s)) (k + 1))) dX5_lay_33 (shI hs) (by omega) (by rw [mset_rset, Int.toNat_natCast, zr64_s]) ?_
        refine e_iinc (pc := 34) (lo' := [(2, 41), (0, (s : Int)), (0, f), (0, n), (0, (k : Int) + 1)]) dX5_lay_34 rfl (by omega) rfl (by decide) rfl ?_
        refine e_goto (pc := 37) (tgt := 17) dX5_lay_37 rfl ?_
        exact Ev.to (ih17 _ (by omega) (k + 1) (rfl) (by omega)) rfl rfl rfl
  exact Ev.to (L17 _ 0 (rfl) (by omega)) rfl rfl (by rw [zr64_0, show mem (43 + s) = (mset (mset mem 47 s f) 48 s n) (43 + s) from by rw [mset_nc _ _ _ _ (by omega), mset_nc _ _ _ _ (by omega)], rset_self])

theorem t_findingAt (G : Gm) (mem : Mem) (s : Nat) (f i : Int) (hs : s < 4) (hz : mem 48 s ≤ 64) : Con G mX5_findingAt [(2, 41), (0, (s : Int)), (0, f), (0, i)] mem (fun r m' => r = some (0, if mem 47 s = -1 then 1 else if mem 47 s ≠ f then 3 else if i < 0 ∨ mem 48 s ≤ i then 2 else 0) ∧ m' = mem) := by
  refine Con.of (lo := [(2, 41), (0, (s : Int)), (0, f), (0, i)]) (by decide +kernel) (Nat.le_of_ble_eq_true rfl) rfl ?_
  generalize hQ_ : (fun r m' => r = some (0, if mem 47 s = -1 then 1 else if mem 47 s ≠ f then 3 else if i < 0 ∨ mem 48 s ≤ i then 2 else 0) ∧ m' = mem : Option AV → Mem → Prop) = Q_
  refine e_aloadn (pc := 0) dX5_findingAt_0 rfl rfl ?_
  refine e_iloadn (pc := 1) dX5_findingAt_1 rfl rfl ?_
  refine e_callVr (pc := 2) (as := [(0, (s : Int))]) (st := []) (t_isGone G mem s hs) dX5_findingAt_2 lX5_findingAt_27 rfl s_41 cn_5 rfl rfl ?_
  by_cases zgo : mem 47 s = -1
  · rw [if_pos zgo]
    refine e_if_eq (pc := 5) (tgt := 10) dX5_findingAt_5 rfl (fun h5 => ?_) (fun h5 => ?_)
    · skip
      exact absurd h5 (by decide)
    · skip
      refine e_iconst (pc := 8) dX5_findingAt_8 (by decide) ?_
      have zfa : ((if mem 47 s = -1 then 1 else if mem 47 s ≠ f then 3 else if i < 0 ∨ mem 48 s ≤ i then 2 else 0 : Int)) = 1 := by
        (repeat' split) <;> omega
      exact e_iret (pc := 9) dX5_findingAt_9 rfl (by rw [← hQ_, zfa]; exact ⟨rfl, rfl⟩)
  · rw [if_neg zgo]
    refine e_if_eq (pc := 5) (tgt := 10) dX5_findingAt_5 rfl (fun h5 => ?_) (fun h5 => ?_)
    · skip
      refine e_aloadn (pc := 10) dX5_findingAt_10 rfl rfl ?_
      refine e_getr (pc := 11) (k := 47) dX5_findingAt_11 fX5_16 s_41 rfl (by decide) ?_
      refine e_iloadn (pc := 14) dX5_findingAt_14 rfl rfl ?_
      refine e_ialdv (pc := 15) (v := mem 47 s) dX5_findingAt_15 s_47 (by omega) rfl ?_
      refine e_iloadn (pc := 16) dX5_findingAt_16 rfl rfl ?_
      refine e_icmp_eq (pc := 17) (tgt := 22) dX5_findingAt_17 rfl (fun h17 => ?_) (fun h17 => ?_)
      · skip
        refine e_iloadn (pc := 22) dX5_findingAt_22 rfl rfl ?_
        refine e_if_lt (pc := 23) (tgt := 42) dX5_findingAt_23 rfl (fun h23 => ?_) (fun h23 => ?_)
        · skip
          refine e_iconst (pc := 42) dX5_findingAt_42 (by decide) ?_
          refine e_goto (pc := 43) (tgt := 47) dX5_findingAt_43 rfl ?_
          have zfa : ((if mem 47 s = -1 then 1 else if mem 47 s ≠ f then 3 else if i < 0 ∨ mem 48 s ≤ i then 2 else 0 : Int)) = 2 := by
            (repeat' split) <;> omega
          exact e_iret (pc := 47) dX5_findingAt_47 rfl (by rw [← hQ_, zfa]; exact ⟨rfl, rfl⟩)
        · skip
          refine e_iloadn (pc := 26) dX5_findingAt_26 rfl rfl ?_
          refine e_aloadn (pc := 27) dX5_findingAt_27 rfl rfl ?_
          refine e_getr (pc := 28) (k := 48) dX5_findingAt_28 fX5_20 s_41 rfl (by decide) ?_
          refine e_iloadn (pc := 31) dX5_findingAt_31 rfl rfl ?_
          refine e_ialdv (pc := 32) (v := mem 48 s) dX5_findingAt_32 s_48 (by omega) rfl ?_
          refine e_icmp_ge (pc := 33) (tgt := 42) dX5_findingAt_33 rfl (fun h33 => ?_) (fun h33 => ?_)
          · skip
            refine e_iconst (pc := 42) dX5_findingAt_42 (by decide) ?_
            refine e_goto (pc := 43) (tgt := 47) dX5_findingAt_43 rfl ?_
            have zfa : ((if mem 47 s = -1 then 1 else if mem 47 s ≠ f then 3 else if i < 0 ∨ mem 48 s ≤ i then 2 else 0 : Int)) = 2 := by
              (repeat' split) <;> omega
            exact e_iret (pc := 47) dX5_findingAt_47 rfl (by rw [← hQ_, zfa]; exact ⟨rfl, rfl⟩)
          · skip
            refine e_iloadn (pc := 36) dX5_findingAt_36 rfl rfl ?_
            refine e_bipush (pc := 37) dX5_findingAt_37 rfl (by decide) ?_
            refine e_icmp_lt (pc := 39) (tgt := 46) dX5_findingAt_39 rfl (fun h39 => ?_) (fun h39 => ?_)
            · skip
              refine e_iconst (pc := 46) dX5_findingAt_46 (by decide) ?_
              have zfa : ((if mem 47 s = -1 then 1 else if mem 47 s ≠ f then 3 else if i < 0 ∨ mem 48 s ≤ i then 2 else 0 : Int)) = 0 := by
                (repeat' split) <;> omega
              exact e_iret (pc := 47) dX5_findingAt_47 rfl (by rw [← hQ_, zfa]; exact ⟨rfl, rfl⟩)
            · skip
              refine e_iconst (pc := 42) dX5_findingAt_42 (by decide) ?_
              refine e_goto (pc := 43) (tgt := 47) dX5_findingAt_43 rfl ?_
              have zfa : ((if mem 47 s = -1 then 1 else if mem 47 s ≠ f then 3 else if i < 0 ∨ mem 48 s ≤ i then 2 else 0 : Int)) = 2 := by
                (repeat' split) <;> omega
              exact e_iret (pc := 47) dX5_findingAt_47 rfl (by rw [← hQ_, zfa]; exact ⟨rfl, rfl⟩)
      · skip
        refine e_iconst (pc := 20) dX5_findingAt_20 (by decide) ?_
        have zfa : ((if mem 47 s = -1 then 1 else if mem 47 s ≠ f then 3 else if i < 0 ∨ mem 48 s ≤ i then 2 else 0 : Int)) = 3 := by
          (repeat' split) <;> omega
        exact e_iret (pc := 21) dX5_findingAt_21 rfl (by rw [← hQ_, zfa]; exact ⟨rfl, rfl⟩)
    · skip
      exact absurd h5 (by decide)

theorem t_hasItems (G : Gm) (mem : Mem) (s : Nat) (i n : Int) (hs : s < 4) (hz : 0 ≤ mem 48 s ∧ mem 48 s ≤ 64) : Con G mX5_hasItems [(2, 41), (0, (s : Int)), (0, i), (0, n)] mem (fun r m' => r = some (0, if 0 ≤ i ∧ i ≤ mem 48 s ∧ n ≤ mem 48 s - i then 1 else 0) ∧ m' = mem) := by
  refine Con.of (lo := [(2, 41), (0, (s : Int)), (0, i), (0, n)]) (by decide +kernel) (Nat.le_of_ble_eq_true rfl) rfl ?_
  generalize hQ_ : (fun r m' => r = some (0, if 0 ≤ i ∧ i ≤ mem 48 s ∧ n ≤ mem 48 s - i then 1 else 0) ∧ m' = mem : Option AV → Mem → Prop) = Q_
  refine e_iloadn (pc := 0) dX5_hasItems_0 rfl rfl ?_
  refine e_if_lt (pc := 1) (tgt := 30) dX5_hasItems_1 rfl (fun h1 => ?_) (fun h1 => ?_)
  · skip
    refine e_iconst (pc := 30) dX5_hasItems_30 (by decide) ?_
    exact e_zret (pc := 31) dX5_hasItems_31 rfl (by decide) (by rw [← hQ_]; exact ⟨by first | (rw [if_neg (by omega)]; done) | (rw [if_pos (by omega)]; done) | (exfalso; omega), rfl⟩)
  · skip
    refine e_iloadn (pc := 4) dX5_hasItems_4 rfl rfl ?_
    refine e_aloadn (pc := 5) dX5_hasItems_5 rfl rfl ?_
    refine e_getr (pc := 6) (k := 48) dX5_hasItems_6 fX5_20 s_41 rfl (by decide) ?_
    refine e_iloadn (pc := 9) dX5_hasItems_9 rfl rfl ?_
    refine e_ialdv (pc := 10) (v := mem 48 s) dX5_hasItems_10 s_48 (by omega) rfl ?_
    refine e_icmp_gt (pc := 11) (tgt := 30) dX5_hasItems_11 rfl (fun h11 => ?_) (fun h11 => ?_)
    · skip
      refine e_iconst (pc := 30) dX5_hasItems_30 (by decide) ?_
      exact e_zret (pc := 31) dX5_hasItems_31 rfl (by decide) (by rw [← hQ_]; exact ⟨by first | (rw [if_neg (by omega)]; done) | (rw [if_pos (by omega)]; done) | (exfalso; omega), rfl⟩)
    · skip
      refine e_iloadn (pc := 14) dX5_hasItems_14 rfl rfl ?_
      refine e_aloadn (pc := 15) dX5_hasItems_15 rfl rfl ?_
      refine e_getr (pc := 16) (k := 48) dX5_hasItems_16 fX5_20 s_41 rfl (by decide) ?_
      refine e_iloadn (pc := 19) dX5_hasItems_19 rfl rfl ?_
      refine e_ialdv (pc := 20) (v := mem 48 s) dX5_hasItems_20 s_48 (by omega) rfl ?_
      refine e_iloadn (pc := 21) dX5_hasItems_21 rfl rfl ?_
      refine e_isubn (pc := 22) dX5_hasItems_22 (by omega) ?_
      refine e_icmp_gt (pc := 23) (tgt := 30) dX5_hasItems_23 rfl (fun h23 => ?_) (fun h23 => ?_)
      · skip
        refine e_iconst (pc := 30) dX5_hasItems_30 (by decide) ?_
        exact e_zret (pc := 31) dX5_hasItems_31 rfl (by decide) (by rw [← hQ_]; exact ⟨by first | (rw [if_neg (by omega)]; done) | (rw [if_pos (by omega)]; done) | (exfalso; omega), rfl⟩)
      · skip
        refine e_iconst (pc := 26) dX5_hasItems_26 (by decide) ?_
        refine e_goto (pc := 27) (tgt := 31) dX5_hasItems_27 rfl ?_
        exact e_zret (pc := 31) dX5_hasItems_31 rfl (by decide) (by rw [← hQ_]; exact ⟨by first | (rw [if_neg (by omega)]; done) | (rw [if_pos (by omega)]; done) | (exfalso; omega), rfl⟩)

theorem t_lowest5 (G : Gm) (mem : Mem) (f v : Int) : Con G mX5_lowest [(2, 41), (0, f), (0, v)] mem (fun r m' => r = some (0, if f = 0 then i8 v else if f = 1 then i16 v else v) ∧ m' = mem) := by
  refine Con.of (lo := [(2, 41), (0, f), (0, v)]) (by decide +kernel) (Nat.le_of_ble_eq_true rfl) rfl ?_
  generalize hQ_ : (fun r m' => r = some (0, if f = 0 then i8 v else if f = 1 then i16 v else v) ∧ m' = mem : Option AV → Mem → Prop) = Q_
  refine e_iloadn (pc := 0) dX5_lowest_0 rfl rfl ?_
  refine e_if_ne (pc := 1) (tgt := 7) dX5_lowest_1 rfl (fun h1 => ?_) (fun h1 => ?_)
  · skip
    refine e_iloadn (pc := 7) dX5_lowest_7 rfl rfl ?_
    refine e_iconst (pc := 8) dX5_lowest_8 (by decide) ?_
    refine e_icmp_ne (pc := 9) (tgt := 17) dX5_lowest_9 rfl (fun h9 => ?_) (fun h9 => ?_)
    · skip
      refine e_iloadn (pc := 17) dX5_lowest_17 rfl rfl ?_
      have zlw : ((if f = 0 then i8 v else if f = 1 then i16 v else v : Int)) = v := by
        (repeat' split) <;> first | rfl | omega
      exact e_iret (pc := 18) dX5_lowest_18 rfl (by rw [← hQ_, zlw]; exact ⟨rfl, rfl⟩)
    · skip
      refine e_iloadn (pc := 12) dX5_lowest_12 rfl rfl ?_
      refine e_i2s (pc := 13) dX5_lowest_13 ?_
      refine e_goto (pc := 14) (tgt := 18) dX5_lowest_14 rfl ?_
      have zlw : ((if f = 0 then i8 v else if f = 1 then i16 v else v : Int)) = i16 v := by
        (repeat' split) <;> first | rfl | omega
      exact e_iret (pc := 18) dX5_lowest_18 rfl (by rw [← hQ_, zlw]; exact ⟨rfl, rfl⟩)
  · skip
    refine e_iloadn (pc := 4) dX5_lowest_4 rfl rfl ?_
    refine e_i2b (pc := 5) dX5_lowest_5 ?_
    have zlw : ((if f = 0 then i8 v else if f = 1 then i16 v else v : Int)) = i8 v := by
      (repeat' split) <;> first | rfl | omega
    exact e_iret (pc := 6) dX5_lowest_6 rfl (by rw [← hQ_, zlw]; exact ⟨rfl, rfl⟩)
