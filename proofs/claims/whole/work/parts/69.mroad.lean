theorem m_lowest (G : Gm) (mem : Mem) (top wh : Int) (K : Nat) (hK : K ≤ 8) (ht : -4611686018427387904 ≤ top ∧ top ≤ 4611686018427387904) : Con G mX8_lowest [(1, top), (1, ((2 ^ (4 * K) : Nat) : Int)), (0, wh)] mem (fun r m' => r = some (1, lowF (top * 16 ^ (8 - K)) wh) ∧ m' = mem) := by
  refine Con.of (lo := [(1, top), (3, 0), (1, ((2 ^ (4 * K) : Nat) : Int)), (3, 0), (0, wh), (3, 0), (3, 0), (3, 0), (3, 0), (3, 0), (3, 0)]) (by decide +kernel) (Nat.le_of_ble_eq_true rfl) rfl ?_
  generalize hQ_ : (fun r m' => r = some (1, lowF (top * 16 ^ (8 - K)) wh) ∧ m' = mem : Option AV → Mem → Prop) = Q_
  have zp1 : 2 ^ (4 * K) ≤ 2 ^ 32 := Nat.pow_le_pow_right (by decide) (by omega)
  have zp2 : 0 < 2 ^ (4 * K) := Nat.two_pow_pos _
  generalize hB_ : 2 ^ (4 * K) = zB at *
  have zgp : 0 < Nat.gcd top.natAbs zB := Nat.gcd_pos_of_pos_right _ zp2
  refine e_lloadn (pc := 0) dX8_lowest_0 rfl rfl ?_
  refine e_lconst (pc := 1) (z := 0) dX8_lowest_1 rfl (by decide) ?_
  refine e_lcmp (pc := 2) dX8_lowest_2 ?_
  refine e_if_ge (pc := 3) (tgt := 11) dX8_lowest_3 rfl (fun h3 => ?_) (fun h3 => ?_)
  · skip
    refine e_lloadn (pc := 11) dX8_lowest_11 rfl rfl ?_
    refine e_lstore (pc := 12) (lo' := [(1, top), (3, 0), (1, (zB : Int)), (3, 0), (0, wh), (1, top), (3, 0), (3, 0), (3, 0), (3, 0), (3, 0)]) dX8_lowest_12 rfl (by decide) rfl ?_
    refine e_lloadn (pc := 14) dX8_lowest_14 rfl rfl ?_
    refine e_lstore (pc := 15) (lo' := [(1, top), (3, 0), (1, (zB : Int)), (3, 0), (0, wh), (1, top), (3, 0), (1, (zB : Int)), (3, 0), (3, 0), (3, 0)]) dX8_lowest_15 rfl (by decide) rfl ?_
    have L17 : ∀ (n_ : Nat) (a : Nat) (b : Nat), b = n_ → (Nat.gcd a b = Nat.gcd top.natAbs zB) → (a ≤ 4611686018427387904 ∧ b ≤ 4611686018427387904) → Ev G mX8_lowest Q_ 17 [(1, top), (3, 0), (1, (zB : Int)), (3, 0), (0, wh), (1, (a : Int)), (3, 0), (1, (b : Int)), (3, 0), (3, 0), (3, 0)] [] mem := by
      intro n_
      induction n_ using Nat.strongRecOn with
      | ind n_ ih17 =>
        intro a b hn_ zg zab
        refine e_lload (pc := 17) dX8_lowest_17 rfl ?_
        refine e_lconst (pc := 19) (z := 0) dX8_lowest_19 rfl (by decide) ?_
        refine e_lcmp (pc := 20) dX8_lowest_20 ?_
        refine e_if_eq (pc := 21) (tgt := 42) dX8_lowest_21 rfl (fun h21 => ?_) (fun h21 => ?_)
        · skip
          have zb0 : (b : Int) = 0 := lCmp_eq.mp h21
          have zag : a = Nat.gcd top.natAbs zB := by rw [show b = 0 by omega, Nat.gcd_zero_right] at zg; exact zg
          have za0 : 0 < a := by omega
          refine e_iload (pc := 42) dX8_lowest_42 rfl ?_
          refine e_if_ne (pc := 44) (tgt := 54) dX8_lowest_44 rfl (fun h44 => ?_) (fun h44 => ?_)
          · skip
            refine e_lloadn (pc := 54) dX8_lowest_54 rfl rfl ?_
            refine e_lload (pc := 55) dX8_lowest_55 rfl ?_
            refine e_ldiv (pc := 57) dX8_lowest_57 (by omega) ?_
            rw [show lDiv (zB : Int) (a : Int) = (zB : Int).tdiv (a : Int) from lDivP (by constructor <;> omega) (by omega)]
            have zan : lowF (top * 16 ^ (8 - K)) wh = (zB : Int).tdiv (a : Int) := by
              refine lowF_eq ?_
              have z1 := low_is (M := top) hK wh
              rw [hB_, ← zag, if_neg h44] at z1
              exact z1
            exact e_lret (pc := 58) dX8_lowest_58 rfl (by rw [← hQ_]; exact ⟨by rw [zan], rfl⟩)
          · skip
            refine e_lloadn (pc := 47) dX8_lowest_47 rfl rfl ?_
            refine e_lload (pc := 48) dX8_lowest_48 rfl ?_
            refine e_ldiv (pc := 50) dX8_lowest_50 (by omega) ?_
            rw [show lDiv top (a : Int) = top.tdiv (a : Int) from lDivP (by constructor <;> omega) (by omega)]
            refine e_goto (pc := 51) (tgt := 58) dX8_lowest_51 rfl ?_
            have zan : lowF (top * 16 ^ (8 - K)) wh = top.tdiv (a : Int) := by
              refine lowF_eq ?_
              have z1 := low_is (M := top) hK wh
              rw [hB_, ← zag, if_pos h44] at z1
              exact z1
            exact e_lret (pc := 58) dX8_lowest_58 rfl (by rw [← hQ_]; exact ⟨by rw [zan], rfl⟩)
        · skip
          have zb0 : b ≠ 0 := fun q => h21 (lCmp_eq.mpr (by rw [q]; rfl))
          have zml2 : a % b < n_ := by have := Nat.mod_lt a (show 0 < b by omega); omega
          refine e_lload (pc := 24) dX8_lowest_24 rfl ?_
          refine e_lload (pc := 26) dX8_lowest_26 rfl ?_
          refine e_lrem (pc := 28) dX8_lowest_28 (by omega) ?_
          rw [show lRem (a : Int) (b : Int) = ((a % b : Nat) : Int) from lRemP zab.1 (by omega)]
          refine e_lstore (pc := 29) (lo' := [(1, top), (3, 0), (1, (zB : Int)), (3, 0), (0, wh), (1, (a : Int)), (3, 0), (1, (b : Int)), (3, 0), (1, ((a % b : Nat) : Int)), (3, 0)]) dX8_lowest_29 rfl (by decide) rfl ?_
          refine e_lload (pc := 31) dX8_lowest_31 rfl ?_
          refine e_lstore (pc := 33) (lo' := [(1, top), (3, 0), (1, (zB : Int)), (3, 0), (0, wh), (1, (b : Int)), (3, 0), (1, (b : Int)), (3, 0), (1, ((a % b : Nat) : Int)), (3, 0)]) dX8_lowest_33 rfl (by decide) rfl ?_
          refine e_lload (pc := 35) dX8_lowest_35 rfl ?_
          refine e_lstore (pc := 37) (lo' := [(1, top), (3, 0), (1, (zB : Int)), (3, 0), (0, wh), (1, (b : Int)), (3, 0), (1, ((a % b : Nat) : Int)), (3, 0), (1, ((a % b : Nat) : Int)), (3, 0)]) dX8_lowest_37 rfl (by decide) rfl ?_
          refine e_goto (pc := 39) (tgt := 17) dX8_lowest_39 rfl ?_
          have zg2 : Nat.gcd b (a % b) = Nat.gcd top.natAbs zB := by rw [Nat.gcd_comm b, ← Nat.gcd_rec, Nat.gcd_comm]; exact zg
          have zml := Nat.mod_lt a (show 0 < b by omega)
          refine Ev.fgt [9] ?_
          exact Ev.to (ih17 _ (zml2) b (a % b) (rfl) (zg2) (by have := Nat.mod_lt a (show 0 < b by omega); omega)) rfl rfl rfl
    have zcm := lCmp_ge (a := top) (b := 0)
    exact Ev.to (L17 _ top.natAbs zB (rfl) (rfl) (by omega)) (by rw [show ((top.natAbs : Nat) : Int) = top by omega]) rfl rfl
  · skip
    refine e_lloadn (pc := 6) dX8_lowest_6 rfl rfl ?_
    refine e_lneg (pc := 7) dX8_lowest_7 ?_
    rw [show w64 (-top) = -top from w64_id (by constructor <;> omega)]
    refine e_goto (pc := 8) (tgt := 12) dX8_lowest_8 rfl ?_
    refine e_lstore (pc := 12) (lo' := [(1, top), (3, 0), (1, (zB : Int)), (3, 0), (0, wh), (1, -top), (3, 0), (3, 0), (3, 0), (3, 0), (3, 0)]) dX8_lowest_12 rfl (by decide) rfl ?_
    refine e_lloadn (pc := 14) dX8_lowest_14 rfl rfl ?_
    refine e_lstore (pc := 15) (lo' := [(1, top), (3, 0), (1, (zB : Int)), (3, 0), (0, wh), (1, -top), (3, 0), (1, (zB : Int)), (3, 0), (3, 0), (3, 0)]) dX8_lowest_15 rfl (by decide) rfl ?_
    have L17 : ∀ (n_ : Nat) (a : Nat) (b : Nat), b = n_ → (Nat.gcd a b = Nat.gcd top.natAbs zB) → (a ≤ 4611686018427387904 ∧ b ≤ 4611686018427387904) → Ev G mX8_lowest Q_ 17 [(1, top), (3, 0), (1, (zB : Int)), (3, 0), (0, wh), (1, (a : Int)), (3, 0), (1, (b : Int)), (3, 0), (3, 0), (3, 0)] [] mem := by
      intro n_
      induction n_ using Nat.strongRecOn with
      | ind n_ ih17 =>
        intro a b hn_ zg zab
        refine e_lload (pc := 17) dX8_lowest_17 rfl ?_
        refine e_lconst (pc := 19) (z := 0) dX8_lowest_19 rfl (by decide) ?_
        refine e_lcmp (pc := 20) dX8_lowest_20 ?_
        refine e_if_eq (pc := 21) (tgt := 42) dX8_lowest_21 rfl (fun h21 => ?_) (fun h21 => ?_)
        · skip
          have zb0 : (b : Int) = 0 := lCmp_eq.mp h21
          have zag : a = Nat.gcd top.natAbs zB := by rw [show b = 0 by omega, Nat.gcd_zero_right] at zg; exact zg
          have za0 : 0 < a := by omega
          refine e_iload (pc := 42) dX8_lowest_42 rfl ?_
          refine e_if_ne (pc := 44) (tgt := 54) dX8_lowest_44 rfl (fun h44 => ?_) (fun h44 => ?_)
          · skip
            refine e_lloadn (pc := 54) dX8_lowest_54 rfl rfl ?_
            refine e_lload (pc := 55) dX8_lowest_55 rfl ?_
            refine e_ldiv (pc := 57) dX8_lowest_57 (by omega) ?_
            rw [show lDiv (zB : Int) (a : Int) = (zB : Int).tdiv (a : Int) from lDivP (by constructor <;> omega) (by omega)]
            have zan : lowF (top * 16 ^ (8 - K)) wh = (zB : Int).tdiv (a : Int) := by
              refine lowF_eq ?_
              have z1 := low_is (M := top) hK wh
              rw [hB_, ← zag, if_neg h44] at z1
              exact z1
            exact e_lret (pc := 58) dX8_lowest_58 rfl (by rw [← hQ_]; exact ⟨by rw [zan], rfl⟩)
          · skip
            refine e_lloadn (pc := 47) dX8_lowest_47 rfl rfl ?_
            refine e_lload (pc := 48) dX8_lowest_48 rfl ?_
            refine e_ldiv (pc := 50) dX8_lowest_50 (by omega) ?_
            rw [show lDiv top (a : Int) = top.tdiv (a : Int) from lDivP (by constructor <;> omega) (by omega)]
            refine e_goto (pc := 51) (tgt := 58) dX8_lowest_51 rfl ?_
            have zan : lowF (top * 16 ^ (8 - K)) wh = top.tdiv (a : Int) := by
              refine lowF_eq ?_
              have z1 := low_is (M := top) hK wh
              rw [hB_, ← zag, if_pos h44] at z1
              exact z1
            exact e_lret (pc := 58) dX8_lowest_58 rfl (by rw [← hQ_]; exact ⟨by rw [zan], rfl⟩)
        · skip
          have zb0 : b ≠ 0 := fun q => h21 (lCmp_eq.mpr (by rw [q]; rfl))
          have zml2 : a % b < n_ := by have := Nat.mod_lt a (show 0 < b by omega); omega
          refine e_lload (pc := 24) dX8_lowest_24 rfl ?_
          refine e_lload (pc := 26) dX8_lowest_26 rfl ?_
          refine e_lrem (pc := 28) dX8_lowest_28 (by omega) ?_
          rw [show lRem (a : Int) (b : Int) = ((a % b : Nat) : Int) from lRemP zab.1 (by omega)]
          refine e_lstore (pc := 29) (lo' := [(1, top), (3, 0), (1, (zB : Int)), (3, 0), (0, wh), (1, (a : Int)), (3, 0), (1, (b : Int)), (3, 0), (1, ((a % b : Nat) : Int)), (3, 0)]) dX8_lowest_29 rfl (by decide) rfl ?_
          refine e_lload (pc := 31) dX8_lowest_31 rfl ?_
          refine e_lstore (pc := 33) (lo' := [(1, top), (3, 0), (1, (zB : Int)), (3, 0), (0, wh), (1, (b : Int)), (3, 0), (1, (b : Int)), (3, 0), (1, ((a % b : Nat) : Int)), (3, 0)]) dX8_lowest_33 rfl (by decide) rfl ?_
          refine e_lload (pc := 35) dX8_lowest_35 rfl ?_
          refine e_lstore (pc := 37) (lo' := [(1, top), (3, 0), (1, (zB : Int)), (3, 0), (0, wh), (1, (b : Int)), (3, 0), (1, ((a % b : Nat) : Int)), (3, 0), (1, ((a % b : Nat) : Int)), (3, 0)]) dX8_lowest_37 rfl (by decide) rfl ?_
          refine e_goto (pc := 39) (tgt := 17) dX8_lowest_39 rfl ?_
          have zg2 : Nat.gcd b (a % b) = Nat.gcd top.natAbs zB := by rw [Nat.gcd_comm b, ← Nat.gcd_rec, Nat.gcd_comm]; exact zg
          have zml := Nat.mod_lt a (show 0 < b by omega)
          refine Ev.fgt [9] ?_
          exact Ev.to (ih17 _ (zml2) b (a % b) (rfl) (zg2) (by have := Nat.mod_lt a (show 0 < b by omega); omega)) rfl rfl rfl
    have zcm := lCmp_ge (a := top) (b := 0)
    exact Ev.to (L17 _ top.natAbs zB (rfl) (rfl) (by omega)) (by rw [show ((top.natAbs : Nat) : Int) = -top by omega]) rfl rfl

/-- who is on the road -/
def RD (A zm : Mem) : Prop := zm 49 42 = ((cnt (lotQ (A 8)) 8 : Nat) : Int) ∧ ∀ c, c < 8 → lotQ (A 8) c = true → zm 72 (cnt (lotQ (A 8)) c) = (c : Int)
def scRd (c j : Nat) : Bool := c == 72 || (c == 49 && j == 42)
theorem scRdV {a b : Mem} (zf : Fr scRd a b) : Fr scV a b := zf.mono (fun c j q => by unfold scV at q; unfold scRd; simp at q ⊢; omega)
theorem scRdZ {a b : Mem} (zf : Fr scRd a b) : Fr scZ a b := zf.mono (fun c j q => by unfold scZ at q; unfold scRd; simp at q ⊢; omega)
theorem lot_no {A : Mem} (hI : CI A) {n : Nat} (hn : A 1 0 = (n : Int)) {c : Nat} (hc : c < 8) (hq : lotQ (A 8) c = true) : c < n ∧ A 18 c ≠ 2 := by
  obtain ⟨n', h1, h2, h3⟩ := hI.2.2.2.2.1
  unfold lotQ at hq
  simp at hq
  refine ⟨Nat.lt_of_not_le (fun q => ?_), fun q => ?_⟩
  · have := ((h3 c hc).2.1 (by omega)).2.2.2.1; omega
  · have := (h3 c hc).2.2 q; omega
theorem cnt_n8 {p : Nat → Bool} {n : Nat} (hn : n ≤ 8) (h : ∀ c, c < 8 → n ≤ c → p c = false) : cnt p n = cnt p 8 := by
  obtain ⟨r, hr⟩ : ∃ r, 8 = n + r := ⟨8 - n, by omega⟩
  rw [hr, cnt_split, cnt_none (n := r)]
  · rfl
  · exact fun j hj => h (n + j) (by omega) (by omega)

theorem m_roads (G : Gm) (A mem : Mem) (hI : CI A) (hM : MI A mem) : Con G mX8_roads [(2, 49)] mem (fun r m' => r = none ∧ MI A m' ∧ Fr scRd mem m' ∧ RD A m') := by
  refine Con.of (lo := [(2, 49), (3, 0)]) (by decide +kernel) (Nat.le_of_ble_eq_true rfl) rfl ?_
  generalize hQ_ : (fun r m' => r = none ∧ MI A m' ∧ Fr scRd mem m' ∧ RD A m' : Option AV → Mem → Prop) = Q_
  obtain ⟨n, zn1, zn2, _⟩ := hI.2.2.2.2.1
  refine e_aloadn (pc := 0) dX8_roads_0 rfl rfl ?_
  refine e_iconst (pc := 1) dX8_roads_1 (by decide) ?_
  refine e_putI (pc := 2) (mem2 := mset mem 49 42 0) dX8_roads_2 fX8_262 s_49 rfl (by decide) pw_8_42 rfl ?_
  refine e_iconst (pc := 5) dX8_roads_5 (by decide) ?_
  refine e_istoren (pc := 6) (lo' := [(2, 49), (0, 0)]) dX8_roads_6 rfl rfl (by decide) rfl ?_
  have L7 : ∀ (n_ : Nat) (k : Nat) (zmv : Mem), 8 - k = n_ → (k ≤ n) → (MI A zmv) → (Fr scRd mem zmv) → (zmv 49 42 = ((cnt (lotQ (A 8)) k : Nat) : Int)) → (∀ c, c < k → lotQ (A 8) c = true → zmv 72 (cnt (lotQ (A 8)) c) = (c : Int)) → Ev G mX8_roads Q_ 7 [(2, 49), (0, (k : Int))] [] zmv := by
    intro n_
    induction n_ using Nat.strongRecOn with
    | ind n_ ih7 =>
      intro k zmv hn_ zk zM zf zK zR
      refine e_iloadn (pc := 7) dX8_roads_7 rfl rfl ?_
      refine e_aloadn (pc := 8) dX8_roads_8 rfl rfl ?_
      refine e_getiv (pc := 9) (v := (n : Int)) dX8_roads_9 fX8_99 s_49 rfl (by decide) (zM.1.1.trans zn1) ?_
      refine e_icmp_ge (pc := 12) (tgt := 60) dX8_roads_12 rfl (fun h12 => ?_) (fun h12 => ?_)
      · skip
        have zke : k = n := by omega
        have zc8 : cnt (lotQ (A 8)) n = cnt (lotQ (A 8)) 8 := cnt_n8 zn2 (fun c hc hq => Bool.eq_false_iff.mpr (fun z => by have := (lot_no hI zn1 hc z).1; omega))
        rw [zke, zc8] at zK
        exact e_vret (pc := 60) dX8_roads_60 rfl (by rw [← hQ_]; exact ⟨rfl, zM, zf, zK, fun c hc hq => zR c (by have := (lot_no hI zn1 hc hq).1; omega) hq⟩)
      · skip
        have zk8 : k < 8 := by omega
        obtain ⟨⟨zq0, zq1, zq2⟩, zq3, zq4, zq5, zq6, zq7⟩ := zM.1.2 k zk8 ((hI.cm zn1 zk8).mpr (by omega))
        have zcl := cnt_le (lotQ (A 8)) k
        refine e_aloadn (pc := 15) dX8_roads_15 rfl rfl ?_
        refine e_getr (pc := 16) (k := 50) dX8_roads_16 fX8_7 s_49 rfl (by decide) ?_
        refine e_iloadn (pc := 19) dX8_roads_19 rfl rfl ?_
        refine e_ialdv (pc := 20) (v := (A 18 k)) dX8_roads_20 s_50 (by omega) (zq0) ?_
        refine e_iconst (pc := 21) dX8_roads_21 (by decide) ?_
        refine e_icmp_eq (pc := 22) (tgt := 54) dX8_roads_22 rfl (fun h22 => ?_) (fun h22 => ?_)
        · skip
          have zlq : ¬ lotQ (A 8) k = true := fun q => (lot_no hI zn1 zk8 q).2 h22
          refine e_iinc (pc := 54) (lo' := [(2, 49), (0, (k : Int) + 1)]) dX8_roads_54 rfl (by omega) rfl (by decide) rfl ?_
          refine e_goto (pc := 57) (tgt := 7) dX8_roads_57 rfl ?_
          have zR2 : ∀ c, c < k + 1 → lotQ (A 8) c = true → zmv 72 (cnt (lotQ (A 8)) c) = (c : Int) := fun c hc hq => by
            by_cases zz : c = k
            · rw [zz] at hq; exact absurd hq zlq
            · exact zR c (by omega) hq
          exact Ev.to (ih7 _ (by omega) (k + 1) zmv (rfl) (by omega) (zM) (zf) (by rw [cnt_s, if_neg zlq]; exact zK) (zR2)) rfl rfl rfl
        · skip
          refine e_aloadn (pc := 25) dX8_roads_25 rfl rfl ?_
          refine e_getr (pc := 26) (k := 56) dX8_roads_26 fX8_28 s_49 rfl (by decide) ?_
          refine e_iloadn (pc := 29) dX8_roads_29 rfl rfl ?_
          refine e_ialdv (pc := 30) (v := (A 8 k)) dX8_roads_30 s_56 (by omega) (zq6) ?_
          refine e_if_le (pc := 31) (tgt := 54) dX8_roads_31 rfl (fun h31 => ?_) (fun h31 => ?_)
          · skip
            have zlq : ¬ lotQ (A 8) k = true := fun q => by unfold lotQ at q; simp at q; omega
            refine e_iinc (pc := 54) (lo' := [(2, 49), (0, (k : Int) + 1)]) dX8_roads_54 rfl (by omega) rfl (by decide) rfl ?_
            refine e_goto (pc := 57) (tgt := 7) dX8_roads_57 rfl ?_
            have zR2 : ∀ c, c < k + 1 → lotQ (A 8) c = true → zmv 72 (cnt (lotQ (A 8)) c) = (c : Int) := fun c hc hq => by
              by_cases zz : c = k
              · rw [zz] at hq; exact absurd hq zlq
              · exact zR c (by omega) hq
            exact Ev.to (ih7 _ (by omega) (k + 1) zmv (rfl) (by omega) (zM) (zf) (by rw [cnt_s, if_neg zlq]; exact zK) (zR2)) rfl rfl rfl
          · skip
            have zlq : lotQ (A 8) k = true := decide_eq_true h31
            refine e_aloadn (pc := 34) dX8_roads_34 rfl rfl ?_
            refine e_getr (pc := 35) (k := 72) dX8_roads_35 fX8_77 s_49 rfl (by decide) ?_
            refine e_aloadn (pc := 38) dX8_roads_38 rfl rfl ?_
            refine e_getiv (pc := 39) (v := ((cnt (lotQ (A 8)) k : Nat) : Int)) dX8_roads_39 fX8_262 s_49 rfl (by decide) (zK) ?_
            refine e_iloadn (pc := 42) dX8_roads_42 rfl rfl ?_
            refine e_iastm (pc := 43) (mem2 := mset zmv 72 (cnt (lotQ (A 8)) k) (k : Int)) dX8_roads_43 s_72 (by omega) rfl ?_
            refine e_aloadn (pc := 44) dX8_roads_44 rfl rfl ?_
            refine e_dup (pc := 45) dX8_roads_45 rfl ?_
            refine e_getiv (pc := 46) (v := ((cnt (lotQ (A 8)) k : Nat) : Int)) dX8_roads_46 fX8_262 s_49 rfl (by decide) (zK) ?_
            refine e_iconst (pc := 49) dX8_roads_49 (by decide) ?_
            refine e_iaddn (pc := 50) dX8_roads_50 (by omega) ?_
            refine e_putI (pc := 51) (mem2 := mset (mset zmv 72 (cnt (lotQ (A 8)) k) (k : Int)) 49 42 (((cnt (lotQ (A 8)) k : Nat) : Int) + 1)) dX8_roads_51 fX8_262 s_49 rfl (by decide) pw_8_42 rfl ?_
            refine e_iinc (pc := 54) (lo' := [(2, 49), (0, (k : Int) + 1)]) dX8_roads_54 rfl (by omega) rfl (by decide) rfl ?_
            refine e_goto (pc := 57) (tgt := 7) dX8_roads_57 rfl ?_
            have zR2 : ∀ c, c < k + 1 → lotQ (A 8) c = true → (mset (mset zmv 72 (cnt (lotQ (A 8)) k) (k : Int)) 49 42 (((cnt (lotQ (A 8)) k : Nat) : Int) + 1)) 72 (cnt (lotQ (A 8)) c) = (c : Int) := fun c hc hq => by
              show mset zmv 72 (cnt (lotQ (A 8)) k) (k : Int) 72 (cnt (lotQ (A 8)) c) = _
              by_cases zz : c = k
              · rw [zz, mset_eq]
              · have := cnt_lt_of (p := (lotQ (A 8))) (show c < k by omega) hq
                rw [mset_nj _ _ _ _ (by omega)]
                exact zR c (by omega) hq
            exact Ev.to (ih7 _ (by omega) (k + 1) (mset (mset zmv 72 (cnt (lotQ (A 8)) k) (k : Int)) 49 42 (((cnt (lotQ (A 8)) k : Nat) : Int) + 1)) (rfl) (by omega) (zM.v (((Fr.rf (S := scV)).ms rfl).ms rfl)) ((zf.ms rfl).ms rfl) (by rw [cnt_s, if_pos zlq]; rfl) (zR2)) rfl rfl rfl
  exact Ev.to (L7 _ 0 (mset mem 49 42 0) (rfl) (by omega) (hM.v ((Fr.rf (S := scV)).ms rfl)) (Fr.rf.ms rfl) (rfl) (fun c hc => absurd hc (by omega))) rfl rfl rfl

def scTk (c j : Nat) : Bool := scO c j || (c == 49 && j == 27)
theorem scTkZ {a b : Mem} (zf : Fr scTk a b) : Fr scZ a b := zf.mono (fun c j q => by unfold scZ at q; unfold scTk scO; simp at q ⊢; omega)
theorem scOTk {a b : Mem} (zf : Fr scO a b) : Fr scTk a b := zf.mono (fun c j q => by unfold scTk at q; simp at q; exact q.1)
theorem RD.mv {A zm zn : Mem} (h : RD A zm) (zf : Fr scTk zm zn) : RD A zn := ⟨(zf 49 42 rfl).trans h.1, fun c hc hq => (zf 72 _ rfl).trans (h.2 c hc hq)⟩
theorem ptR_bd {R : Nat → Nat} {lot : Nat → Int} {v : Nat} : ∀ {k : Nat}, (∀ j, j < k → 0 ≤ lot (R j) ∧ lot (R j) ≤ 15) → 0 ≤ ptR R lot v k ∧ ptR R lot v k ≤ 16 ^ k
  | 0, _ => by show (0 : Int) ≤ 1 ∧ (1 : Int) ≤ 1; omega
  | k + 1, h => by
    have ih := ptR_bd (v := v) (k := k) (fun j hj => h j (by omega))
    have hk := h k (by omega)
    show 0 ≤ ptR R lot v k * (if v.testBit k = true then lot (R k) else 16 - lot (R k)) ∧ ptR R lot v k * (if v.testBit k = true then lot (R k) else 16 - lot (R k)) ≤ 16 ^ (k + 1)
    have hx : 0 ≤ (if v.testBit k = true then lot (R k) else 16 - lot (R k)) ∧ (if v.testBit k = true then lot (R k) else 16 - lot (R k)) ≤ 16 := by split <;> omega
    generalize (if v.testBit k = true then lot (R k) else 16 - lot (R k)) = x at hx
    rw [Int.pow_succ]
    exact ⟨Int.mul_nonneg ih.1 hx.1, Int.mul_le_mul ih.2 hx.2 hx.1 (by omega)⟩
theorem spR_lt {R : Nat → Nat} {v : Nat} : ∀ {k : Nat}, (∀ j, j < k → R j < 8) → spR R v k < 256
  | 0, _ => by show 0 < 256; decide
  | k + 1, h => by
    have ih := spR_lt (v := v) (k := k) (fun j hj => h j (by omega))
    have hk := h k (by omega)
    show (if v.testBit k = true then spR R v k ||| 2 ^ (R k) else spR R v k) < 256
    split
    · exact Nat.or_lt_two_pow (n := 8) ih (Nat.pow_lt_pow_right (by decide) hk)
    · exact ih
theorem p16k {k : Nat} (h : k ≤ 8) : (16 : Int) ^ k ≤ 4294967296 := by
  rcases (show k = 0 ∨ k = 1 ∨ k = 2 ∨ k = 3 ∨ k = 4 ∨ k = 5 ∨ k = 6 ∨ k = 7 ∨ k = 8 by omega) with rfl | rfl | rfl | rfl | rfl | rfl | rfl | rfl | rfl <;> decide

theorem m_takes (G : Gm) (A mem : Mem) (tm kd am : Nat → Int) (late : Int) (v : Nat) (hv : v < 256) (hI : CI A) (hM : MI A mem) (hE : ME A mem tm kd am late 0) (hD : RD A mem) : Con G mX8_takes [(2, 49), (0, (v : Int))] mem (fun r m' => r = some (1, ptN (A 8) v 8) ∧ MI A m' ∧ ME A m' tm kd am ((spN (A 8) v 8 : Nat) : Int) 0 ∧ GO A m' tm kd am ((spN (A 8) v 8 : Nat) : Int) 0 ∧ RD A m' ∧ Fr scTk mem m') := by
  refine Con.of (lo := [(2, 49), (0, (v : Int)), (3, 0), (3, 0), (3, 0), (3, 0)]) (by decide +kernel) (Nat.le_of_ble_eq_true rfl) rfl ?_
  generalize hQ_ : (fun r m' => r = some (1, ptN (A 8) v 8) ∧ MI A m' ∧ ME A m' tm kd am ((spN (A 8) v 8 : Nat) : Int) 0 ∧ GO A m' tm kd am ((spN (A 8) v 8 : Nat) : Int) 0 ∧ RD A m' ∧ Fr scTk mem m' : Option AV → Mem → Prop) = Q_
  obtain ⟨n, zn1, zn2, _⟩ := hI.2.2.2.2.1
  have zrk : ∀ k, k < cnt (lotQ (A 8)) 8 → ∃ c, c < 8 ∧ lotQ (A 8) c = true ∧ cnt (lotQ (A 8)) c = k ∧ mem 72 k = (c : Int) := fun k hk => by
    obtain ⟨c, h1, h2, h3⟩ := cnt_kth hk
    exact ⟨c, h1, h2, h3, by rw [← h3]; exact hD.2 c h1 h2⟩
  have zrb : ∀ k, k < cnt (lotQ (A 8)) 8 → (mem 72 k).toNat < 8 := fun k hk => by
    obtain ⟨c, h1, _, _, h4⟩ := zrk k hk
    omega
  have zlb : ∀ k, k < cnt (lotQ (A 8)) 8 → 0 ≤ A 8 (mem 72 k).toNat ∧ A 8 (mem 72 k).toNat ≤ 15 := fun k hk => (hI.1 _ (zrb k hk)).2.2.2.1
  have zc8 := cnt_le (lotQ (A 8)) 8
  obtain ⟨zN1, zN2⟩ := ptR_N (R := (fun k => (mem 72 k).toNat)) (lot := A 8) (v := v) 8 (fun c hc hq => by show (mem 72 _).toNat = c; rw [hD.2 c hc hq]; rfl)
  refine e_lconst (pc := 0) (z := 1) dX8_takes_0 rfl (by decide) ?_
  refine e_lstoren (pc := 1) (lo' := [(2, 49), (0, (v : Int)), (1, 1), (3, 0), (3, 0), (3, 0)]) dX8_takes_1 rfl rfl (by decide) rfl ?_
  refine e_aloadn (pc := 2) dX8_takes_2 rfl rfl ?_
  refine e_iconst (pc := 3) dX8_takes_3 (by decide) ?_
  refine e_putI (pc := 4) (mem2 := mset mem 49 27 0) dX8_takes_4 fX8_172 s_49 rfl (by decide) pw_8_27 rfl ?_
  refine e_iconst (pc := 7) dX8_takes_7 (by decide) ?_
  refine e_istore (pc := 8) (lo' := [(2, 49), (0, (v : Int)), (1, 1), (3, 0), (0, 0), (3, 0)]) dX8_takes_8 rfl (by decide) rfl ?_
  have L10 : ∀ (n_ : Nat) (k : Nat), 8 - k = n_ → (k ≤ cnt (lotQ (A 8)) 8) → Ev G mX8_takes Q_ 10 [(2, 49), (0, (v : Int)), (1, ptR (fun k => (mem 72 k).toNat) (A 8) v k), (3, 0), (0, (k : Int)), (3, 0)] [] (mset mem 49 27 ((spR (fun k => (mem 72 k).toNat) v k : Nat) : Int)) := by
    intro n_
    induction n_ using Nat.strongRecOn with
    | ind n_ ih10 =>
      intro k hn_ zk
      have zpb := ptR_bd (R := (fun k => (mem 72 k).toNat)) (lot := A 8) (v := v) (k := k) (fun j hj => zlb j (by omega))
      have zpk := p16k (k := k) (by omega)
      have zsl := spR_lt (R := (fun k => (mem 72 k).toNat)) (v := v) (k := k) (fun j hj => zrb j (by omega))
      refine e_iload (pc := 10) dX8_takes_10 rfl ?_
      refine e_aloadn (pc := 12) dX8_takes_12 rfl rfl ?_
      refine e_getiv (pc := 13) (v := ((cnt (lotQ (A 8)) 8 : Nat) : Int)) dX8_takes_13 fX8_262 s_49 rfl (by decide) (hD.1) ?_
      refine e_icmp_ge (pc := 16) (tgt := 109) dX8_takes_16 rfl (fun h16 => ?_) (fun h16 => ?_)
      · skip
        refine e_aloadn (pc := 109) dX8_takes_109 rfl rfl ?_
        have zke : k = cnt (lotQ (A 8)) 8 := by omega
        rw [zke, zN2] at zsl
        have zE0 := hE.lte (v := ((spN (A 8) v 8 : Nat) : Int)) (by omega)
        rw [zke, zN1, zN2]
        refine e_callV (pc := 110) (as := []) (st := []) (m_goes G A (mset mem 49 27 ((spN (A 8) v 8 : Nat) : Int)) tm kd am ((spN (A 8) v 8 : Nat) : Int) 0 hI (hM.v ((Fr.rf (S := scV)).ms rfl)) zE0) dX8_takes_110 lX8_takes_193 rfl s_49 cn_8 rfl rfl (fun r_ zm1 hq_ => ?_)
        obtain ⟨zr_, zM1, zf1, zG1⟩ := hq_
        subst zr_
        have zE1 := zE0.o zf1
        have zft : Fr scTk mem zm1 := (Fr.rf.ms rfl).tr (scOTk zf1)
        refine Ev.to (st' := []) ?_ rfl rfl rfl
        refine e_lloadn (pc := 113) dX8_takes_113 rfl rfl ?_
        exact e_lret (pc := 114) dX8_takes_114 rfl (by rw [← hQ_]; exact ⟨rfl, zM1, zE1, zG1, hD.mv zft, zft⟩)
      · skip
        have zkK : k < cnt (lotQ (A 8)) 8 := by omega
        obtain ⟨c, zc1, zc2, zc3, zc4⟩ := zrk k zkK
        have zRk : (mem 72 k).toNat = c := by omega
        have zcn := (lot_no hI zn1 zc1 zc2).1
        have zlr := (hM.1.2 c zc1 ((hI.cm zn1 zc1).mpr zcn)).2.2.2.2.1
        have zlo := (hI.1 c zc1).2.2.2.1
        have zpd : 0 ≤ ptR (fun k => (mem 72 k).toNat) (A 8) v k * 16 ∧ ptR (fun k => (mem 72 k).toNat) (A 8) v k * 16 ≤ 68719476736 := by omega
        have zm1 : 0 ≤ ptR (fun k => (mem 72 k).toNat) (A 8) v k * A 8 c ∧ ptR (fun k => (mem 72 k).toNat) (A 8) v k * A 8 c ≤ ptR (fun k => (mem 72 k).toNat) (A 8) v k * 16 := ⟨Int.mul_nonneg zpb.1 zlo.1, Int.mul_le_mul_of_nonneg_left (by omega) zpb.1⟩
        have zm2 : 0 ≤ ptR (fun k => (mem 72 k).toNat) (A 8) v k * (16 - A 8 c) ∧ ptR (fun k => (mem 72 k).toNat) (A 8) v k * (16 - A 8 c) ≤ ptR (fun k => (mem 72 k).toNat) (A 8) v k * 16 := ⟨Int.mul_nonneg zpb.1 (by omega), Int.mul_le_mul_of_nonneg_left (by omega) zpb.1⟩
        have zpw : 2 ^ c < 2 ^ 8 := Nat.pow_lt_pow_right (by decide) zc1
        refine e_iloadn (pc := 19) dX8_takes_19 rfl rfl ?_
        refine e_iload (pc := 20) dX8_takes_20 rfl ?_
        refine e_ishr (pc := 22) dX8_takes_22 ?_
        refine e_iconst (pc := 23) dX8_takes_23 (by decide) ?_
        refine e_iand (pc := 24) dX8_takes_24 ?_
        rw [show bAnd (bShr (v : Int) (k : Int)) 1 = bt (v : Int) k from bt_eq (by omega) (by omega) (by omega)]
        refine e_iconst (pc := 25) dX8_takes_25 (by decide) ?_
        refine e_icmp_ne (pc := 26) (tgt := 33) dX8_takes_26 rfl (fun h26 => ?_) (fun h26 => ?_)
        · skip
          have ztb : ¬ v.testBit k = true := fun q => h26 (by rw [bt_nat, if_pos q])
          refine e_iconst (pc := 33) dX8_takes_33 (by decide) ?_
          refine e_istore (pc := 34) (lo' := [(2, 49), (0, (v : Int)), (1, ptR (fun k => (mem 72 k).toNat) (A 8) v k), (3, 0), (0, (k : Int)), (0, 0)]) dX8_takes_34 rfl (by decide) rfl ?_
          refine e_lloadn (pc := 36) dX8_takes_36 rfl rfl ?_
          refine e_iload (pc := 37) dX8_takes_37 rfl ?_
          refine e_if_eq (pc := 39) (tgt := 58) dX8_takes_39 rfl (fun h39 => ?_) (fun h39 => ?_)
          · skip
            refine e_bipush (pc := 58) dX8_takes_58 rfl (by decide) ?_
            refine e_aloadn (pc := 60) dX8_takes_60 rfl rfl ?_
            refine e_getr (pc := 61) (k := 56) dX8_takes_61 fX8_28 s_49 rfl (by decide) ?_
            refine e_aloadn (pc := 64) dX8_takes_64 rfl rfl ?_
            refine e_getr (pc := 65) (k := 72) dX8_takes_65 fX8_77 s_49 rfl (by decide) ?_
            refine e_iload (pc := 68) dX8_takes_68 rfl ?_
            refine e_ialdv (pc := 70) (v := (c : Int)) dX8_takes_70 s_72 (by omega) (zc4) ?_
            refine e_ialdv (pc := 71) (v := (A 8 c)) dX8_takes_71 s_56 (by omega) (zlr) ?_
            refine e_isubn (pc := 72) dX8_takes_72 (by omega) ?_
            refine e_i2l (pc := 73) dX8_takes_73 ?_
            refine e_lmuln (pc := 74) dX8_takes_74 (by omega) ?_
            refine e_lstoren (pc := 75) (lo' := [(2, 49), (0, (v : Int)), (1, (ptR (fun k => (mem 72 k).toNat) (A 8) v k) * (16 - (A 8 c))), (3, 0), (0, (k : Int)), (0, 0)]) dX8_takes_75 rfl rfl (by decide) rfl ?_
            refine e_aloadn (pc := 76) dX8_takes_76 rfl rfl ?_
            refine e_dup (pc := 77) dX8_takes_77 rfl ?_
            refine e_getiv (pc := 78) (v := ((spR (fun k => (mem 72 k).toNat) v k : Nat) : Int)) dX8_takes_78 fX8_172 s_49 rfl (by decide) (rfl) ?_
            refine e_iload (pc := 81) dX8_takes_81 rfl ?_
            refine e_if_eq (pc := 83) (tgt := 98) dX8_takes_83 rfl (fun h83 => ?_) (fun h83 => ?_)
            · skip
              refine e_iconst (pc := 98) dX8_takes_98 (by decide) ?_
              refine e_ior (pc := 99) dX8_takes_99 ?_
              rw [show bOr ((spR (fun k => (mem 72 k).toNat) v k : Nat) : Int) 0 = ((spR (fun k => (mem 72 k).toNat) v k : Nat) : Int) from bor_0 (by omega)]
              refine e_putI (pc := 100) (mem2 := mset (mset mem 49 27 ((spR (fun k => (mem 72 k).toNat) v k : Nat) : Int)) 49 27 ((spR (fun k => (mem 72 k).toNat) v k : Nat) : Int)) dX8_takes_100 fX8_172 s_49 rfl (by decide) pw_8_27 rfl ?_
              refine e_iinc (pc := 103) (lo' := [(2, 49), (0, (v : Int)), (1, (ptR (fun k => (mem 72 k).toNat) (A 8) v k) * (16 - (A 8 c))), (3, 0), (0, (k : Int) + 1), (0, 0)]) dX8_takes_103 rfl (by omega) rfl (by decide) rfl ?_
              refine e_goto (pc := 106) (tgt := 10) dX8_takes_106 rfl ?_
              have zpt : ptR (fun k => (mem 72 k).toNat) (A 8) v (k + 1) = (ptR (fun k => (mem 72 k).toNat) (A 8) v k) * (16 - (A 8 c)) := by
                show ptR (fun k => (mem 72 k).toNat) (A 8) v k * (if v.testBit k = true then A 8 (mem 72 k).toNat else 16 - A 8 (mem 72 k).toNat) = _
                rw [if_neg ztb, zRk]
              have zsp : ((spR (fun k => (mem 72 k).toNat) v (k + 1) : Nat) : Int) = ((spR (fun k => (mem 72 k).toNat) v k : Nat) : Int) := by
                show (((if v.testBit k = true then spR (fun k => (mem 72 k).toNat) v k ||| 2 ^ (mem 72 k).toNat else spR (fun k => (mem 72 k).toNat) v k) : Nat) : Int) = _
                rw [if_neg ztb]
              refine Ev.fgt [5] ?_
              exact Ev.to (ih10 _ (by omega) (k + 1) (rfl) (by omega)) (by rw [zpt]; rfl) rfl (by rw [mset_mset, zsp])
            · skip
              exact absurd h83 (by decide)
          · skip
            exact absurd h39 (by decide)
        · skip
          have ztb : v.testBit k = true := by rw [bt_nat] at h26; exact Classical.byContradiction (fun q => by rw [if_neg q] at h26; omega)
          refine e_iconst (pc := 29) dX8_takes_29 (by decide) ?_
          refine e_goto (pc := 30) (tgt := 34) dX8_takes_30 rfl ?_
          refine e_istore (pc := 34) (lo' := [(2, 49), (0, (v : Int)), (1, ptR (fun k => (mem 72 k).toNat) (A 8) v k), (3, 0), (0, (k : Int)), (0, 1)]) dX8_takes_34 rfl (by decide) rfl ?_
          refine e_lloadn (pc := 36) dX8_takes_36 rfl rfl ?_
          refine e_iload (pc := 37) dX8_takes_37 rfl ?_
          refine e_if_eq (pc := 39) (tgt := 58) dX8_takes_39 rfl (fun h39 => ?_) (fun h39 => ?_)
          · skip
            exact absurd h39 (by decide)
          · skip
            refine e_aloadn (pc := 42) dX8_takes_42 rfl rfl ?_
            refine e_getr (pc := 43) (k := 56) dX8_takes_43 fX8_28 s_49 rfl (by decide) ?_
            refine e_aloadn (pc := 46) dX8_takes_46 rfl rfl ?_
            refine e_getr (pc := 47) (k := 72) dX8_takes_47 fX8_77 s_49 rfl (by decide) ?_
            refine e_iload (pc := 50) dX8_takes_50 rfl ?_
            refine e_ialdv (pc := 52) (v := (c : Int)) dX8_takes_52 s_72 (by omega) (zc4) ?_
            refine e_ialdv (pc := 53) (v := (A 8 c)) dX8_takes_53 s_56 (by omega) (zlr) ?_
            refine e_i2l (pc := 54) dX8_takes_54 ?_
            refine e_goto (pc := 55) (tgt := 74) dX8_takes_55 rfl ?_
            refine e_lmuln (pc := 74) dX8_takes_74 (by omega) ?_
            refine e_lstoren (pc := 75) (lo' := [(2, 49), (0, (v : Int)), (1, (ptR (fun k => (mem 72 k).toNat) (A 8) v k) * (A 8 c)), (3, 0), (0, (k : Int)), (0, 1)]) dX8_takes_75 rfl rfl (by decide) rfl ?_
            refine e_aloadn (pc := 76) dX8_takes_76 rfl rfl ?_
            refine e_dup (pc := 77) dX8_takes_77 rfl ?_
            refine e_getiv (pc := 78) (v := ((spR (fun k => (mem 72 k).toNat) v k : Nat) : Int)) dX8_takes_78 fX8_172 s_49 rfl (by decide) (rfl) ?_
            refine e_iload (pc := 81) dX8_takes_81 rfl ?_
            refine e_if_eq (pc := 83) (tgt := 98) dX8_takes_83 rfl (fun h83 => ?_) (fun h83 => ?_)
            · skip
              exact absurd h83 (by decide)
            · skip
              refine e_iconst (pc := 86) dX8_takes_86 (by decide) ?_
              refine e_aloadn (pc := 87) dX8_takes_87 rfl rfl ?_
              refine e_getr (pc := 88) (k := 72) dX8_takes_88 fX8_77 s_49 rfl (by decide) ?_
              refine e_iload (pc := 91) dX8_takes_91 rfl ?_
              refine e_ialdv (pc := 93) (v := (c : Int)) dX8_takes_93 s_72 (by omega) (zc4) ?_
              refine e_ishl (pc := 94) dX8_takes_94 ?_
              rw [show bShl 1 (c : Int) = ((2 ^ c : Nat) : Int) from one_shl (by omega)]
              refine e_goto (pc := 95) (tgt := 99) dX8_takes_95 rfl ?_
              refine e_ior (pc := 99) dX8_takes_99 ?_
              rw [show bOr ((spR (fun k => (mem 72 k).toNat) v k : Nat) : Int) ((2 ^ c : Nat) : Int) = ((spR (fun k => (mem 72 k).toNat) v k ||| 2 ^ c : Nat) : Int) from bOr_nat (by omega) (by omega)]
              refine e_putI (pc := 100) (mem2 := mset (mset mem 49 27 ((spR (fun k => (mem 72 k).toNat) v k : Nat) : Int)) 49 27 ((spR (fun k => (mem 72 k).toNat) v k ||| 2 ^ c : Nat) : Int)) dX8_takes_100 fX8_172 s_49 rfl (by decide) pw_8_27 rfl ?_
              refine e_iinc (pc := 103) (lo' := [(2, 49), (0, (v : Int)), (1, (ptR (fun k => (mem 72 k).toNat) (A 8) v k) * (A 8 c)), (3, 0), (0, (k : Int) + 1), (0, 1)]) dX8_takes_103 rfl (by omega) rfl (by decide) rfl ?_
              refine e_goto (pc := 106) (tgt := 10) dX8_takes_106 rfl ?_
              have zpt : ptR (fun k => (mem 72 k).toNat) (A 8) v (k + 1) = (ptR (fun k => (mem 72 k).toNat) (A 8) v k) * (A 8 c) := by
                show ptR (fun k => (mem 72 k).toNat) (A 8) v k * (if v.testBit k = true then A 8 (mem 72 k).toNat else 16 - A 8 (mem 72 k).toNat) = _
                rw [if_pos ztb, zRk]
              have zsp : ((spR (fun k => (mem 72 k).toNat) v (k + 1) : Nat) : Int) = ((spR (fun k => (mem 72 k).toNat) v k ||| 2 ^ c : Nat) : Int) := by
                show (((if v.testBit k = true then spR (fun k => (mem 72 k).toNat) v k ||| 2 ^ (mem 72 k).toNat else spR (fun k => (mem 72 k).toNat) v k) : Nat) : Int) = _
                rw [if_pos ztb, zRk]
              refine Ev.fgt [5] ?_
              exact Ev.to (ih10 _ (by omega) (k + 1) (rfl) (by omega)) (by rw [zpt]; rfl) rfl (by rw [mset_mset, zsp])
  exact Ev.to (L10 _ 0 (rfl) (by omega)) rfl rfl rfl
