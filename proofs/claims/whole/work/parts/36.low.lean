theorem tdm (a : Int) : 2 * a.tdiv 2 + a.tmod 2 = a ∧ -2 < a.tmod 2 ∧ a.tmod 2 < 2 := ⟨Int.mul_tdiv_add_tmod a 2, tmod_bounds (by decide)⟩
theorem q64 {a : Int} (h : okL a) : Int64.ofInt a / Int64.ofInt 2 = Int64.ofInt (a.tdiv 2) := by
  have h1 := tdm a
  have h2 : okL (a.tdiv 2) := by omega
  apply Int64.toInt_inj.mp
  rw [Int64.toInt_div, i64_toInt h, i64_toInt (by decide), i64_toInt h2]
  exact Int.bmod_eq_of_le (by omega) (by omega)
theorem lDiv2 {a : Int} (h : okL a) : lDiv a 2 = a.tdiv 2 := by
  have h1 := tdm a
  unfold lDiv
  rw [q64 h, i64_toInt (by omega)]
theorem lRem2 {a : Int} (h : okL a) : lRem a 2 = a.tmod 2 := by
  have h1 := tdm a
  unfold lRem
  rw [q64 h, ← Int64.ofInt_mul, ← Int64.ofInt_sub, show a - a.tdiv 2 * 2 = a.tmod 2 by omega, i64_toInt (by omega)]
theorem td_half {a b : Int} (h : a.tmod 2 = 0) (hb : a.tdiv 2 = b) : a = 2 * b := by have := tdm a; omega
theorem p2_half {h : Nat} (hh : h < 32) : ((2 ^ (32 - h) : Nat) : Int).tdiv 2 = ((2 ^ (32 - (h + 1)) : Nat) : Int) := by
  have e : 2 ^ (32 - h) = 2 * 2 ^ (32 - (h + 1)) := by rw [show 32 - h = (32 - (h + 1)) + 1 by omega, Nat.pow_succ]; omega
  rw [e]
  show ((2 * 2 ^ (32 - (h + 1)) : Nat) : Int).tdiv 2 = _
  rw [Int.natCast_mul]
  exact Int.mul_tdiv_cancel_left _ (by decide)
theorem p2_lt (h : Nat) : ((2 ^ (32 - h) : Nat) : Int) ≤ 4294967296 ∧ 0 < ((2 ^ (32 - h) : Nat) : Int) := by
  have h1 : 2 ^ (32 - h) ≤ 2 ^ 32 := Nat.pow_le_pow_right (by decide) (by omega)
  have h2 : 0 < 2 ^ (32 - h) := Nat.two_pow_pos _
  omega

theorem t_lowest3 (G : Gm) (mem : Mem) (top what : Int) (ho : okL top) : Con G mX3_lowest [(2, 40), (1, top), (0, what)] mem (fun r m' => ∃ (h : Nat) (a : Int), h ≤ 32 ∧ top = a * 2 ^ h ∧ (h = 32 ∨ ¬ a.tmod 2 = 0) ∧ r = some (1, if what = 0 then a else ((2 ^ (32 - h) : Nat) : Int)) ∧ m' = mem) := by
  refine Con.of (lo := [(2, 40), (1, top), (3, 0), (0, what), (3, 0), (3, 0), (3, 0), (3, 0), (3, 0)]) (by decide +kernel) (Nat.le_of_ble_eq_true rfl) rfl ?_
  generalize hQ_ : (fun r m' => ∃ (h : Nat) (a : Int), h ≤ 32 ∧ top = a * 2 ^ h ∧ (h = 32 ∨ ¬ a.tmod 2 = 0) ∧ r = some (1, if what = 0 then a else ((2 ^ (32 - h) : Nat) : Int)) ∧ m' = mem : Option AV → Mem → Prop) = Q_
  refine e_lloadn (pc := 0) dX3_lowest_0 rfl rfl ?_
  refine e_lstore (pc := 1) (lo' := [(2, 40), (1, top), (3, 0), (0, what), (1, top), (3, 0), (3, 0), (3, 0), (3, 0)]) dX3_lowest_1 rfl (by decide) rfl ?_
  refine e_ldc2 (pc := 3) (z := 4294967296) dX3_lowest_3 kX3_47 (by decide) ?_
  refine e_lstore (pc := 6) (lo' := [(2, 40), (1, top), (3, 0), (0, what), (1, top), (3, 0), (1, 4294967296), (3, 0), (3, 0)]) dX3_lowest_6 rfl (by decide) rfl ?_
  refine e_iconst (pc := 8) dX3_lowest_8 (by decide) ?_
  refine e_istore (pc := 9) (lo' := [(2, 40), (1, top), (3, 0), (0, what), (1, top), (3, 0), (1, 4294967296), (3, 0), (0, 0)]) dX3_lowest_9 rfl (by decide) rfl ?_
  have L11 : ∀ (n_ : Nat) (h : Nat) (a : Int), 32 - h = n_ → (h ≤ 32) → (okL a) → (top = a * 2 ^ h) → Ev G mX3_lowest Q_ 11 [(2, 40), (1, top), (3, 0), (0, what), (1, a), (3, 0), (1, ((2 ^ (32 - h) : Nat) : Int)), (3, 0), (0, (h : Int))] [] mem := by
    intro n_
    induction n_ using Nat.strongRecOn with
    | ind n_ ih11 =>
      intro h a hn_ zh zo zt
      refine e_iload (pc := 11) dX3_lowest_11 rfl ?_
      refine e_bipush (pc := 13) dX3_lowest_13 rfl (by decide) ?_
      refine e_icmp_ge (pc := 15) (tgt := 51) dX3_lowest_15 rfl (fun h15 => ?_) (fun h15 => ?_)
      · skip
        have zst : h = 32 ∨ ¬ a.tmod 2 = 0 := Or.inl (by omega)
        refine e_iloadn (pc := 51) dX3_lowest_51 rfl rfl ?_
        refine e_if_ne (pc := 52) (tgt := 60) dX3_lowest_52 rfl (fun h52 => ?_) (fun h52 => ?_)
        · skip
          refine e_lload (pc := 60) dX3_lowest_60 rfl ?_
          have zfin : (if what = 0 then a else ((2 ^ (32 - h) : Nat) : Int)) = ((2 ^ (32 - h) : Nat) : Int) := by
            rw [if_neg h52]
          exact e_lret (pc := 62) dX3_lowest_62 rfl (by rw [← hQ_]; exact ⟨h, a, zh, zt, zst, by rw [zfin], rfl⟩)
        · skip
          refine e_lload (pc := 55) dX3_lowest_55 rfl ?_
          refine e_goto (pc := 57) (tgt := 62) dX3_lowest_57 rfl ?_
          have zfin : (if what = 0 then a else ((2 ^ (32 - h) : Nat) : Int)) = a := by
            rw [if_pos h52]
          exact e_lret (pc := 62) dX3_lowest_62 rfl (by rw [← hQ_]; exact ⟨h, a, zh, zt, zst, by rw [zfin], rfl⟩)
      · skip
        refine e_lload (pc := 18) dX3_lowest_18 rfl ?_
        refine e_ldc2 (pc := 20) (z := 2) dX3_lowest_20 kX3_49 (by decide) ?_
        refine e_lrem (pc := 23) dX3_lowest_23 (by omega) ?_
        rw [show lRem a 2 = a.tmod 2 from lRem2 zo]
        refine e_lconst (pc := 24) (z := 0) dX3_lowest_24 rfl (by decide) ?_
        refine e_lcmp (pc := 25) dX3_lowest_25 ?_
        refine e_if_ne (pc := 26) (tgt := 51) dX3_lowest_26 rfl (fun h26 => ?_) (fun h26 => ?_)
        · skip
          have zst : h = 32 ∨ ¬ a.tmod 2 = 0 := Or.inr (fun q => h26 (lCmp_eq.mpr q))
          refine e_iloadn (pc := 51) dX3_lowest_51 rfl rfl ?_
          refine e_if_ne (pc := 52) (tgt := 60) dX3_lowest_52 rfl (fun h52 => ?_) (fun h52 => ?_)
          · skip
            refine e_lload (pc := 60) dX3_lowest_60 rfl ?_
            have zfin : (if what = 0 then a else ((2 ^ (32 - h) : Nat) : Int)) = ((2 ^ (32 - h) : Nat) : Int) := by
              rw [if_neg h52]
            exact e_lret (pc := 62) dX3_lowest_62 rfl (by rw [← hQ_]; exact ⟨h, a, zh, zt, zst, by rw [zfin], rfl⟩)
          · skip
            refine e_lload (pc := 55) dX3_lowest_55 rfl ?_
            refine e_goto (pc := 57) (tgt := 62) dX3_lowest_57 rfl ?_
            have zfin : (if what = 0 then a else ((2 ^ (32 - h) : Nat) : Int)) = a := by
              rw [if_pos h52]
            exact e_lret (pc := 62) dX3_lowest_62 rfl (by rw [← hQ_]; exact ⟨h, a, zh, zt, zst, by rw [zfin], rfl⟩)
        · skip
          have zev : a.tmod 2 = 0 := lCmp_eq.mp h26
          refine e_lload (pc := 29) dX3_lowest_29 rfl ?_
          refine e_ldc2 (pc := 31) (z := 2) dX3_lowest_31 kX3_49 (by decide) ?_
          refine e_ldiv (pc := 34) dX3_lowest_34 (by omega) ?_
          rw [show lDiv a 2 = a.tdiv 2 from lDiv2 zo]
          refine e_lstore (pc := 35) (lo' := [(2, 40), (1, top), (3, 0), (0, what), (1, a.tdiv 2), (3, 0), (1, ((2 ^ (32 - h) : Nat) : Int)), (3, 0), (0, (h : Int))]) dX3_lowest_35 rfl (by decide) rfl ?_
          refine e_lload (pc := 37) dX3_lowest_37 rfl ?_
          refine e_ldc2 (pc := 39) (z := 2) dX3_lowest_39 kX3_49 (by decide) ?_
          refine e_ldiv (pc := 42) dX3_lowest_42 (by omega) ?_
          rw [show lDiv ((2 ^ (32 - h) : Nat) : Int) 2 = ((2 ^ (32 - (h + 1)) : Nat) : Int) from (lDiv2 (by have z1 := p2_lt h; omega)).trans (p2_half (by omega))]
          refine e_lstore (pc := 43) (lo' := [(2, 40), (1, top), (3, 0), (0, what), (1, a.tdiv 2), (3, 0), (1, ((2 ^ (32 - (h + 1)) : Nat) : Int)), (3, 0), (0, (h : Int))]) dX3_lowest_43 rfl (by decide) rfl ?_
          refine e_iinc (pc := 45) (lo' := [(2, 40), (1, top), (3, 0), (0, what), (1, a.tdiv 2), (3, 0), (1, ((2 ^ (32 - (h + 1)) : Nat) : Int)), (3, 0), (0, (h : Int) + 1)]) dX3_lowest_45 rfl (by omega) rfl (by decide) rfl ?_
          refine e_goto (pc := 48) (tgt := 11) dX3_lowest_48 rfl ?_
          have zt2 : top = a.tdiv 2 * 2 ^ (h + 1) := by
            have z1 := td_half zev rfl
            rw [zt, Int.pow_succ]
            generalize (2 : Int) ^ h = p at *
            rw [Int.mul_comm p 2, ← Int.mul_assoc, Int.mul_comm (a.tdiv 2) 2, ← z1]
          exact Ev.to (ih11 _ (by omega) (h + 1) (a.tdiv 2) (rfl) (by omega) (by have z1 := tdm a; omega) (zt2)) rfl rfl rfl
  exact Ev.to (L11 _ 0 top (rfl) (by omega) (ho) (by rw [Int.pow_zero, Int.mul_one])) rfl rfl rfl

theorem t_lotsTogether (G : Gm) (mem : Mem) (hC : CoOk mem) : Con G mX0_lotsTogether [(2, 1)] mem (fun r m' => r = some (0, sumTo (mem 8) 8) ∧ m' = mem) := by
  refine Con.of (lo := [(2, 1), (3, 0), (3, 0)]) (by decide +kernel) (Nat.le_of_ble_eq_true rfl) rfl ?_
  generalize hQ_ : (fun r m' => r = some (0, sumTo (mem 8) 8) ∧ m' = mem : Option AV → Mem → Prop) = Q_
  refine e_iconst (pc := 0) dX0_lotsTogether_0 (by decide) ?_
  refine e_istoren (pc := 1) (lo' := [(2, 1), (0, 0), (3, 0)]) dX0_lotsTogether_1 rfl rfl (by decide) rfl ?_
  refine e_iconst (pc := 2) dX0_lotsTogether_2 (by decide) ?_
  refine e_istoren (pc := 3) (lo' := [(2, 1), (0, 0), (0, 0)]) dX0_lotsTogether_3 rfl rfl (by decide) rfl ?_
  have L4 : ∀ (n_ : Nat) (k : Nat), 8 - k = n_ → (k ≤ 8) → Ev G mX0_lotsTogether Q_ 4 [(2, 1), (0, sumTo (mem 8) k), (0, (k : Int))] [] mem := by
    intro n_
    induction n_ using Nat.strongRecOn with
    | ind n_ ih4 =>
      intro k hn_ zk
      have zb := sumTo_bd (f := mem 8) (a := 0) (b := 15) (n := k) (fun j hj => (hC j (by omega)).2.2.2.1)
      have zb2 := fun z => (hC k z).2.2.2.1
      refine e_iloadn (pc := 4) dX0_lotsTogether_4 rfl rfl ?_
      refine e_bipush (pc := 5) dX0_lotsTogether_5 rfl (by decide) ?_
      refine e_icmp_ge (pc := 7) (tgt := 27) dX0_lotsTogether_7 rfl (fun h7 => ?_) (fun h7 => ?_)
      · skip
        refine e_iloadn (pc := 27) dX0_lotsTogether_27 rfl rfl ?_
        exact e_iret (pc := 28) dX0_lotsTogether_28 rfl (by rw [← hQ_, show k = 8 by omega]; exact ⟨rfl, rfl⟩)
      · skip
        refine e_iloadn (pc := 10) dX0_lotsTogether_10 rfl rfl ?_
        refine e_aloadn (pc := 11) dX0_lotsTogether_11 rfl rfl ?_
        refine e_getr (pc := 12) (k := 4) dX0_lotsTogether_12 fX0_23 s_1 rfl (by decide) ?_
        refine e_iconst (pc := 15) dX0_lotsTogether_15 (by decide) ?_
        refine e_aald (pc := 16) dX0_lotsTogether_16 s_4 (by omega) ?_
        refine Ev.to (st' := [(2, 8), (0, sumTo (mem 8) k)]) ?_ rfl rfl rfl
        refine e_iloadn (pc := 17) dX0_lotsTogether_17 rfl rfl ?_
        refine e_ialdv (pc := 18) (v := mem 8 k) dX0_lotsTogether_18 s_8 (by omega) rfl ?_
        refine e_iaddn (pc := 19) dX0_lotsTogether_19 (by have z1 := zb2 (by omega); omega) ?_
        refine e_istoren (pc := 20) (lo' := [(2, 1), (0, (sumTo (mem 8) k) + (mem 8 k)), (0, (k : Int))]) dX0_lotsTogether_20 rfl rfl (by decide) rfl ?_
        refine e_iinc (pc := 21) (lo' := [(2, 1), (0, (sumTo (mem 8) k) + (mem 8 k)), (0, (k : Int) + 1)]) dX0_lotsTogether_21 rfl (by omega) rfl (by decide) rfl ?_
        refine e_goto (pc := 24) (tgt := 4) dX0_lotsTogether_24 rfl ?_
        exact Ev.to (ih4 _ (by omega) (k + 1) (rfl) (by omega)) rfl rfl rfl
  exact Ev.to (L4 _ 0 (rfl) (by omega)) rfl rfl rfl

theorem bc_all : ∀ n : Fin 256, bAnd (w32 ((w32 ((bAnd (w32 ((w32 ((bAnd (w32 ((n.val : Int) - (bAnd (bUshr (n.val : Int) 1) 1431655765))) 858993459) + (bAnd (bUshr (w32 ((n.val : Int) - (bAnd (bUshr (n.val : Int) 1) 1431655765))) 2) 858993459))) + (bUshr (w32 ((bAnd (w32 ((n.val : Int) - (bAnd (bUshr (n.val : Int) 1) 1431655765))) 858993459) + (bAnd (bUshr (w32 ((n.val : Int) - (bAnd (bUshr (n.val : Int) 1) 1431655765))) 2) 858993459))) 4))) 252645135) + (bUshr (bAnd (w32 ((w32 ((bAnd (w32 ((n.val : Int) - (bAnd (bUshr (n.val : Int) 1) 1431655765))) 858993459) + (bAnd (bUshr (w32 ((n.val : Int) - (bAnd (bUshr (n.val : Int) 1) 1431655765))) 2) 858993459))) + (bUshr (w32 ((bAnd (w32 ((n.val : Int) - (bAnd (bUshr (n.val : Int) 1) 1431655765))) 858993459) + (bAnd (bUshr (w32 ((n.val : Int) - (bAnd (bUshr (n.val : Int) 1) 1431655765))) 2) 858993459))) 4))) 252645135) 8))) + (bUshr (w32 ((bAnd (w32 ((w32 ((bAnd (w32 ((n.val : Int) - (bAnd (bUshr (n.val : Int) 1) 1431655765))) 858993459) + (bAnd (bUshr (w32 ((n.val : Int) - (bAnd (bUshr (n.val : Int) 1) 1431655765))) 2) 858993459))) + (bUshr (w32 ((bAnd (w32 ((n.val : Int) - (bAnd (bUshr (n.val : Int) 1) 1431655765))) 858993459) + (bAnd (bUshr (w32 ((n.val : Int) - (bAnd (bUshr (n.val : Int) 1) 1431655765))) 2) 858993459))) 4))) 252645135) + (bUshr (bAnd (w32 ((w32 ((bAnd (w32 ((n.val : Int) - (bAnd (bUshr (n.val : Int) 1) 1431655765))) 858993459) + (bAnd (bUshr (w32 ((n.val : Int) - (bAnd (bUshr (n.val : Int) 1) 1431655765))) 2) 858993459))) + (bUshr (w32 ((bAnd (w32 ((n.val : Int) - (bAnd (bUshr (n.val : Int) 1) 1431655765))) 858993459) + (bAnd (bUshr (w32 ((n.val : Int) - (bAnd (bUshr (n.val : Int) 1) 1431655765))) 2) 858993459))) 4))) 252645135) 8))) 16))) 63 = ((cnt (fun j => n.val.testBit j) 8 : Nat) : Int) := by decide +kernel
theorem bc_ok (x : Nat) (hx : x < 256) : bAnd (w32 ((w32 ((bAnd (w32 ((w32 ((bAnd (w32 ((x : Int) - (bAnd (bUshr (x : Int) 1) 1431655765))) 858993459) + (bAnd (bUshr (w32 ((x : Int) - (bAnd (bUshr (x : Int) 1) 1431655765))) 2) 858993459))) + (bUshr (w32 ((bAnd (w32 ((x : Int) - (bAnd (bUshr (x : Int) 1) 1431655765))) 858993459) + (bAnd (bUshr (w32 ((x : Int) - (bAnd (bUshr (x : Int) 1) 1431655765))) 2) 858993459))) 4))) 252645135) + (bUshr (bAnd (w32 ((w32 ((bAnd (w32 ((x : Int) - (bAnd (bUshr (x : Int) 1) 1431655765))) 858993459) + (bAnd (bUshr (w32 ((x : Int) - (bAnd (bUshr (x : Int) 1) 1431655765))) 2) 858993459))) + (bUshr (w32 ((bAnd (w32 ((x : Int) - (bAnd (bUshr (x : Int) 1) 1431655765))) 858993459) + (bAnd (bUshr (w32 ((x : Int) - (bAnd (bUshr (x : Int) 1) 1431655765))) 2) 858993459))) 4))) 252645135) 8))) + (bUshr (w32 ((bAnd (w32 ((w32 ((bAnd (w32 ((x : Int) - (bAnd (bUshr (x : Int) 1) 1431655765))) 858993459) + (bAnd (bUshr (w32 ((x : Int) - (bAnd (bUshr (x : Int) 1) 1431655765))) 2) 858993459))) + (bUshr (w32 ((bAnd (w32 ((x : Int) - (bAnd (bUshr (x : Int) 1) 1431655765))) 858993459) + (bAnd (bUshr (w32 ((x : Int) - (bAnd (bUshr (x : Int) 1) 1431655765))) 2) 858993459))) 4))) 252645135) + (bUshr (bAnd (w32 ((w32 ((bAnd (w32 ((x : Int) - (bAnd (bUshr (x : Int) 1) 1431655765))) 858993459) + (bAnd (bUshr (w32 ((x : Int) - (bAnd (bUshr (x : Int) 1) 1431655765))) 2) 858993459))) + (bUshr (w32 ((bAnd (w32 ((x : Int) - (bAnd (bUshr (x : Int) 1) 1431655765))) 858993459) + (bAnd (bUshr (w32 ((x : Int) - (bAnd (bUshr (x : Int) 1) 1431655765))) 2) 858993459))) 4))) 252645135) 8))) 16))) 63 = ((cnt (fun j => x.testBit j) 8 : Nat) : Int) := bc_all ⟨x, hx⟩

theorem t_bitCount (G : Gm) (mem : Mem) (x : Nat) (hx : x < 256) : Con G mJ6_bitCount_0f7a4 [(0, (x : Int))] mem (fun r m' => r = some (0, ((cnt (fun j => x.testBit j) 8 : Nat) : Int)) ∧ m' = mem) := by
  refine Con.of (lo := [(0, (x : Int))]) (by decide +kernel) (Nat.le_of_ble_eq_true rfl) rfl ?_
  generalize hQ_ : (fun r m' => r = some (0, ((cnt (fun j => x.testBit j) 8 : Nat) : Int)) ∧ m' = mem : Option AV → Mem → Prop) = Q_
  refine e_iloadn (pc := 0) dJ6_bitCount_0f7a4_0 rfl rfl ?_
  refine e_iloadn (pc := 1) dJ6_bitCount_0f7a4_1 rfl rfl ?_
  refine e_iconst (pc := 2) dJ6_bitCount_0f7a4_2 (by decide) ?_
  refine e_iushr (pc := 3) dJ6_bitCount_0f7a4_3 ?_
  refine e_ldcw (pc := 4) (z := 1431655765) dJ6_bitCount_0f7a4_4 kJ6_265 (by decide) ?_
  refine e_iand (pc := 7) dJ6_bitCount_0f7a4_7 ?_
  refine e_isub (pc := 8) dJ6_bitCount_0f7a4_8 ?_
  refine e_istoren (pc := 9) (lo' := [(0, w32 ((x : Int) - (bAnd (bUshr (x : Int) 1) 1431655765)))]) dJ6_bitCount_0f7a4_9 rfl rfl (by decide) rfl ?_
  refine e_iloadn (pc := 10) dJ6_bitCount_0f7a4_10 rfl rfl ?_
  refine e_ldcw (pc := 11) (z := 858993459) dJ6_bitCount_0f7a4_11 kJ6_266 (by decide) ?_
  refine e_iand (pc := 14) dJ6_bitCount_0f7a4_14 ?_
  refine e_iloadn (pc := 15) dJ6_bitCount_0f7a4_15 rfl rfl ?_
  refine e_iconst (pc := 16) dJ6_bitCount_0f7a4_16 (by decide) ?_
  refine e_iushr (pc := 17) dJ6_bitCount_0f7a4_17 ?_
  refine e_ldcw (pc := 18) (z := 858993459) dJ6_bitCount_0f7a4_18 kJ6_266 (by decide) ?_
  refine e_iand (pc := 21) dJ6_bitCount_0f7a4_21 ?_
  refine e_iadd (pc := 22) dJ6_bitCount_0f7a4_22 ?_
  refine e_istoren (pc := 23) (lo' := [(0, w32 ((bAnd (w32 ((x : Int) - (bAnd (bUshr (x : Int) 1) 1431655765))) 858993459) + (bAnd (bUshr (w32 ((x : Int) - (bAnd (bUshr (x : Int) 1) 1431655765))) 2) 858993459)))]) dJ6_bitCount_0f7a4_23 rfl rfl (by decide) rfl ?_
  refine e_iloadn (pc := 24) dJ6_bitCount_0f7a4_24 rfl rfl ?_
  refine e_iloadn (pc := 25) dJ6_bitCount_0f7a4_25 rfl rfl ?_
  refine e_iconst (pc := 26) dJ6_bitCount_0f7a4_26 (by decide) ?_
  refine e_iushr (pc := 27) dJ6_bitCount_0f7a4_27 ?_
  refine e_iadd (pc := 28) dJ6_bitCount_0f7a4_28 ?_
  refine e_ldcw (pc := 29) (z := 252645135) dJ6_bitCount_0f7a4_29 kJ6_267 (by decide) ?_
  refine e_iand (pc := 32) dJ6_bitCount_0f7a4_32 ?_
  refine e_istoren (pc := 33) (lo' := [(0, bAnd (w32 ((w32 ((bAnd (w32 ((x : Int) - (bAnd (bUshr (x : Int) 1) 1431655765))) 858993459) + (bAnd (bUshr (w32 ((x : Int) - (bAnd (bUshr (x : Int) 1) 1431655765))) 2) 858993459))) + (bUshr (w32 ((bAnd (w32 ((x : Int) - (bAnd (bUshr (x : Int) 1) 1431655765))) 858993459) + (bAnd (bUshr (w32 ((x : Int) - (bAnd (bUshr (x : Int) 1) 1431655765))) 2) 858993459))) 4))) 252645135)]) dJ6_bitCount_0f7a4_33 rfl rfl (by decide) rfl ?_
  refine e_iloadn (pc := 34) dJ6_bitCount_0f7a4_34 rfl rfl ?_
  refine e_iloadn (pc := 35) dJ6_bitCount_0f7a4_35 rfl rfl ?_
  refine e_bipush (pc := 36) dJ6_bitCount_0f7a4_36 rfl (by decide) ?_
  refine e_iushr (pc := 38) dJ6_bitCount_0f7a4_38 ?_
  refine e_iadd (pc := 39) dJ6_bitCount_0f7a4_39 ?_
  refine e_istoren (pc := 40) (lo' := [(0, w32 ((bAnd (w32 ((w32 ((bAnd (w32 ((x : Int) - (bAnd (bUshr (x : Int) 1) 1431655765))) 858993459) + (bAnd (bUshr (w32 ((x : Int) - (bAnd (bUshr (x : Int) 1) 1431655765))) 2) 858993459))) + (bUshr (w32 ((bAnd (w32 ((x : Int) - (bAnd (bUshr (x : Int) 1) 1431655765))) 858993459) + (bAnd (bUshr (w32 ((x : Int) - (bAnd (bUshr (x : Int) 1) 1431655765))) 2) 858993459))) 4))) 252645135) + (bUshr (bAnd (w32 ((w32 ((bAnd (w32 ((x : Int) - (bAnd (bUshr (x : Int) 1) 1431655765))) 858993459) + (bAnd (bUshr (w32 ((x : Int) - (bAnd (bUshr (x : Int) 1) 1431655765))) 2) 858993459))) + (bUshr (w32 ((bAnd (w32 ((x : Int) - (bAnd (bUshr (x : Int) 1) 1431655765))) 858993459) + (bAnd (bUshr (w32 ((x : Int) - (bAnd (bUshr (x : Int) 1) 1431655765))) 2) 858993459))) 4))) 252645135) 8)))]) dJ6_bitCount_0f7a4_40 rfl rfl (by decide) rfl ?_
  refine e_iloadn (pc := 41) dJ6_bitCount_0f7a4_41 rfl rfl ?_
  refine e_iloadn (pc := 42) dJ6_bitCount_0f7a4_42 rfl rfl ?_
  refine e_bipush (pc := 43) dJ6_bitCount_0f7a4_43 rfl (by decide) ?_
  refine e_iushr (pc := 45) dJ6_bitCount_0f7a4_45 ?_
  refine e_iadd (pc := 46) dJ6_bitCount_0f7a4_46 ?_
  refine e_istoren (pc := 47) (lo' := [(0, w32 ((w32 ((bAnd (w32 ((w32 ((bAnd (w32 ((x : Int) - (bAnd (bUshr (x : Int) 1) 1431655765))) 858993459) + (bAnd (bUshr (w32 ((x : Int) - (bAnd (bUshr (x : Int) 1) 1431655765))) 2) 858993459))) + (bUshr (w32 ((bAnd (w32 ((x : Int) - (bAnd (bUshr (x : Int) 1) 1431655765))) 858993459) + (bAnd (bUshr (w32 ((x : Int) - (bAnd (bUshr (x : Int) 1) 1431655765))) 2) 858993459))) 4))) 252645135) + (bUshr (bAnd (w32 ((w32 ((bAnd (w32 ((x : Int) - (bAnd (bUshr (x : Int) 1) 1431655765))) 858993459) + (bAnd (bUshr (w32 ((x : Int) - (bAnd (bUshr (x : Int) 1) 1431655765))) 2) 858993459))) + (bUshr (w32 ((bAnd (w32 ((x : Int) - (bAnd (bUshr (x : Int) 1) 1431655765))) 858993459) + (bAnd (bUshr (w32 ((x : Int) - (bAnd (bUshr (x : Int) 1) 1431655765))) 2) 858993459))) 4))) 252645135) 8))) + (bUshr (w32 ((bAnd (w32 ((w32 ((bAnd (w32 ((x : Int) - (bAnd (bUshr (x : Int) 1) 1431655765))) 858993459) + (bAnd (bUshr (w32 ((x : Int) - (bAnd (bUshr (x : Int) 1) 1431655765))) 2) 858993459))) + (bUshr (w32 ((bAnd (w32 ((x : Int) - (bAnd (bUshr (x : Int) 1) 1431655765))) 858993459) + (bAnd (bUshr (w32 ((x : Int) - (bAnd (bUshr (x : Int) 1) 1431655765))) 2) 858993459))) 4))) 252645135) + (bUshr (bAnd (w32 ((w32 ((bAnd (w32 ((x : Int) - (bAnd (bUshr (x : Int) 1) 1431655765))) 858993459) + (bAnd (bUshr (w32 ((x : Int) - (bAnd (bUshr (x : Int) 1) 1431655765))) 2) 858993459))) + (bUshr (w32 ((bAnd (w32 ((x : Int) - (bAnd (bUshr (x : Int) 1) 1431655765))) 858993459) + (bAnd (bUshr (w32 ((x : Int) - (bAnd (bUshr (x : Int) 1) 1431655765))) 2) 858993459))) 4))) 252645135) 8))) 16)))]) dJ6_bitCount_0f7a4_47 rfl rfl (by decide) rfl ?_
  refine e_iloadn (pc := 48) dJ6_bitCount_0f7a4_48 rfl rfl ?_
  refine e_bipush (pc := 49) dJ6_bitCount_0f7a4_49 rfl (by decide) ?_
  refine e_iand (pc := 51) dJ6_bitCount_0f7a4_51 ?_
  exact e_iret (pc := 52) dJ6_bitCount_0f7a4_52 rfl (by rw [← hQ_]; exact ⟨by rw [bc_ok x hx], rfl⟩)
