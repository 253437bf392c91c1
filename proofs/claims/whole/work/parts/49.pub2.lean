def an_sheet (A : Mem) (s f n : Int) : Int := if (0 ≤ s ∧ s < 4) ∧ (0 ≤ f ∧ f < 3) ∧ n ≤ 64 then (if n < 0 then -15 else n) else -2
def nx_sheet (A : Mem) (s f n : Int) : Mem := if (0 ≤ s ∧ s < 4) ∧ (0 ≤ f ∧ f < 3) ∧ n ≤ 64 then (if n < 0 then mset A 41 3 5 else rset (mset (mset A 47 s.toNat f) 48 s.toNat n) (43 + s.toNat) (zr64 (A (43 + s.toNat)) 64)) else A

theorem c_sheet (G : Gm) (mem : Mem) (s f n : Int)  : Con G mX7_sheet [(2, 0), (0, s), (0, f), (0, n)] mem (fun r m' => r = some (0, an_sheet mem s f n) ∧ m' = nx_sheet mem s f n) := by
  refine Con.of (lo := [(2, 0), (0, s), (0, f), (0, n)]) (by decide +kernel) (Nat.le_of_ble_eq_true rfl) rfl ?_
  generalize hQ_ : (fun r m' => r = some (0, an_sheet mem s f n) ∧ m' = nx_sheet mem s f n : Option AV → Mem → Prop) = Q_
  refine e_iloadn (pc := 0) dX7_sheet_0 rfl rfl ?_
  refine e_callSr (pc := 1) (as := [(0, s)]) (st := []) (v := (0, if 0 ≤ s ∧ s < 4 then 1 else 0)) (t_isSheet G mem s) dX7_sheet_1 lX7_sheet_95 rfl rfl rfl ?_
  by_cases zc1 : 0 ≤ s ∧ s < 4
  · rw [if_pos zc1]
    obtain ⟨sn, rfl⟩ : ∃ sn : Nat, s = (sn : Int) := ⟨s.toNat, by omega⟩
    have hs : sn < 4 := by omega
    refine e_if_eq (pc := 4) (tgt := 20) dX7_sheet_4 rfl (fun h4 => ?_) (fun h4 => ?_)
    · skip
      exact absurd h4 (by decide)
    · skip
      refine e_iloadn (pc := 7) dX7_sheet_7 rfl rfl ?_
      refine e_callSr (pc := 8) (as := [(0, f)]) (st := []) (v := (0, if 0 ≤ f ∧ f < 3 then 1 else 0)) (t_isForm G mem f) dX7_sheet_8 lX7_sheet_236 rfl rfl rfl ?_
      by_cases zc8 : 0 ≤ f ∧ f < 3
      · rw [if_pos zc8]
        refine e_if_eq (pc := 11) (tgt := 20) dX7_sheet_11 rfl (fun h11 => ?_) (fun h11 => ?_)
        · skip
          exact absurd h11 (by decide)
        · skip
          refine e_iloadn (pc := 14) dX7_sheet_14 rfl rfl ?_
          refine e_bipush (pc := 15) dX7_sheet_15 rfl (by decide) ?_
          refine e_icmp_le (pc := 17) (tgt := 23) dX7_sheet_17 rfl (fun h17 => ?_) (fun h17 => ?_)
          · skip
            refine e_iloadn (pc := 23) dX7_sheet_23 rfl rfl ?_
            refine e_if_ge (pc := 24) (tgt := 36) dX7_sheet_24 rfl (fun h24 => ?_) (fun h24 => ?_)
            · skip
              refine e_aloadn (pc := 36) dX7_sheet_36 rfl rfl ?_
              refine e_getr (pc := 37) (k := 41) dX7_sheet_37 fX7_63 s_0 rfl (by decide) ?_
              refine e_iloadn (pc := 40) dX7_sheet_40 rfl rfl ?_
              refine e_iloadn (pc := 41) dX7_sheet_41 rfl rfl ?_
              refine e_iloadn (pc := 42) dX7_sheet_42 rfl rfl ?_
              refine e_callVv (pc := 43) (as := [(0, (sn : Int)), (0, f), (0, n)]) (st := []) (t_lay5 G mem sn f n hs) dX7_sheet_43 lX7_sheet_239 rfl s_41 cn_5 rfl rfl ?_
              refine e_iloadn (pc := 46) dX7_sheet_46 rfl rfl ?_
              have zan : an_sheet mem (sn : Int) f n = n := by
                first | (unfold an_sheet; (try simp only [Int.toNat_natCast]); (repeat (first | rw [if_pos (by omega)] | rw [if_neg (by omega)])) <;> first | rfl | omega) | (exfalso; omega)
              have znx : nx_sheet mem (sn : Int) f n = rset (mset (mset mem 47 sn f) 48 sn n) (43 + sn) (zr64 (mem (43 + sn)) 64) := by
                first | (unfold nx_sheet; (try simp only [Int.toNat_natCast]); (repeat (first | rw [if_pos (by omega)] | rw [if_neg (by omega)])) <;> rfl) | (exfalso; omega)
              exact e_iret (pc := 47) dX7_sheet_47 rfl (by rw [← hQ_]; exact ⟨by rw [zan], znx.symm⟩)
            · skip
              refine e_aloadn (pc := 27) dX7_sheet_27 rfl rfl ?_
              refine e_getr (pc := 28) (k := 41) dX7_sheet_28 fX7_63 s_0 rfl (by decide) ?_
              refine e_iconst (pc := 31) dX7_sheet_31 (by decide) ?_
              refine e_callVr (pc := 32) (as := [(0, 5)]) (st := []) (t_finds G (mem) 5 (by omega)) dX7_sheet_32 lX7_sheet_101 rfl s_41 cn_5 rfl rfl ?_
              have zan : an_sheet mem (sn : Int) f n = -10 - 5 := by
                first | (unfold an_sheet; (try simp only [Int.toNat_natCast]); (repeat (first | rw [if_pos (by omega)] | rw [if_neg (by omega)])) <;> first | rfl | omega) | (exfalso; omega)
              have znx : nx_sheet mem (sn : Int) f n = mset mem 41 3 5 := by
                first | (unfold nx_sheet; (try simp only [Int.toNat_natCast]); (repeat (first | rw [if_pos (by omega)] | rw [if_neg (by omega)])) <;> rfl) | (exfalso; omega)
              exact e_iret (pc := 35) dX7_sheet_35 rfl (by rw [← hQ_]; exact ⟨by rw [zan], znx.symm⟩)
          · skip
            refine e_bipush (pc := 20) dX7_sheet_20 rfl (by decide) ?_
            have zan : an_sheet mem (sn : Int) f n = -2 := by
              first | (unfold an_sheet; (try simp only [Int.toNat_natCast]); (repeat (first | rw [if_pos (by omega)] | rw [if_neg (by omega)])) <;> first | rfl | omega) | (exfalso; omega)
            have znx : nx_sheet mem (sn : Int) f n = mem := by
              first | (unfold nx_sheet; (try simp only [Int.toNat_natCast]); (repeat (first | rw [if_pos (by omega)] | rw [if_neg (by omega)])) <;> rfl) | (exfalso; omega)
            exact e_iret (pc := 22) dX7_sheet_22 rfl (by rw [← hQ_]; exact ⟨by rw [zan], znx.symm⟩)
      · rw [if_neg zc8]
        refine e_if_eq (pc := 11) (tgt := 20) dX7_sheet_11 rfl (fun h11 => ?_) (fun h11 => ?_)
        · skip
          refine e_bipush (pc := 20) dX7_sheet_20 rfl (by decide) ?_
          have zan : an_sheet mem (sn : Int) f n = -2 := by
            first | (unfold an_sheet; (try simp only [Int.toNat_natCast]); (repeat (first | rw [if_pos (by omega)] | rw [if_neg (by omega)])) <;> first | rfl | omega) | (exfalso; omega)
          have znx : nx_sheet mem (sn : Int) f n = mem := by
            first | (unfold nx_sheet; (try simp only [Int.toNat_natCast]); (repeat (first | rw [if_pos (by omega)] | rw [if_neg (by omega)])) <;> rfl) | (exfalso; omega)
          exact e_iret (pc := 22) dX7_sheet_22 rfl (by rw [← hQ_]; exact ⟨by rw [zan], znx.symm⟩)
        · skip
          exact absurd h11 (by decide)
  · rw [if_neg zc1]
    refine e_if_eq (pc := 4) (tgt := 20) dX7_sheet_4 rfl (fun h4 => ?_) (fun h4 => ?_)
    · skip
      refine e_bipush (pc := 20) dX7_sheet_20 rfl (by decide) ?_
      have zan : an_sheet mem s f n = -2 := by
        first | (unfold an_sheet; (try simp only [Int.toNat_natCast]); (repeat (first | rw [if_pos (by omega)] | rw [if_neg (by omega)])) <;> first | rfl | omega) | (exfalso; omega)
      have znx : nx_sheet mem s f n = mem := by
        first | (unfold nx_sheet; (try simp only [Int.toNat_natCast]); (repeat (first | rw [if_pos (by omega)] | rw [if_neg (by omega)])) <;> rfl) | (exfalso; omega)
      exact e_iret (pc := 22) dX7_sheet_22 rfl (by rw [← hQ_]; exact ⟨by rw [zan], znx.symm⟩)
    · skip
      exact absurd h4 (by decide)

def an_lose (A : Mem) (s : Int) : Int := if 0 ≤ s ∧ s < 4 then (if A 47 s.toNat = -1 then -11 else A 48 s.toNat) else -2
def nx_lose (A : Mem) (s : Int) : Mem := if 0 ≤ s ∧ s < 4 then (if A 47 s.toNat = -1 then mset A 41 3 1 else mset (mset A 47 s.toNat (-1)) 48 s.toNat 0) else A

theorem c_lose (G : Gm) (mem : Mem) (s : Int)  : Con G mX7_lose [(2, 0), (0, s)] mem (fun r m' => r = some (0, an_lose mem s) ∧ m' = nx_lose mem s) := by
  refine Con.of (lo := [(2, 0), (0, s), (3, 0)]) (by decide +kernel) (Nat.le_of_ble_eq_true rfl) rfl ?_
  generalize hQ_ : (fun r m' => r = some (0, an_lose mem s) ∧ m' = nx_lose mem s : Option AV → Mem → Prop) = Q_
  refine e_iloadn (pc := 0) dX7_lose_0 rfl rfl ?_
  refine e_callSr (pc := 1) (as := [(0, s)]) (st := []) (v := (0, if 0 ≤ s ∧ s < 4 then 1 else 0)) (t_isSheet G mem s) dX7_lose_1 lX7_lose_95 rfl rfl rfl ?_
  by_cases zc1 : 0 ≤ s ∧ s < 4
  · rw [if_pos zc1]
    obtain ⟨sn, rfl⟩ : ∃ sn : Nat, s = (sn : Int) := ⟨s.toNat, by omega⟩
    have hs : sn < 4 := by omega
    refine e_if_ne (pc := 4) (tgt := 10) dX7_lose_4 rfl (fun h4 => ?_) (fun h4 => ?_)
    · skip
      refine e_aloadn (pc := 10) dX7_lose_10 rfl rfl ?_
      refine e_getr (pc := 11) (k := 41) dX7_lose_11 fX7_63 s_0 rfl (by decide) ?_
      refine e_iloadn (pc := 14) dX7_lose_14 rfl rfl ?_
      refine e_callVr (pc := 15) (as := [(0, (sn : Int))]) (st := []) (v := (0, if mem 47 sn = -1 then 1 else 0)) (t_isGone G mem sn hs) dX7_lose_15 lX7_lose_98 rfl s_41 cn_5 rfl rfl ?_
      by_cases zc15 : mem 47 sn = -1
      · rw [if_pos zc15]
        refine e_if_eq (pc := 18) (tgt := 30) dX7_lose_18 rfl (fun h18 => ?_) (fun h18 => ?_)
        · skip
          exact absurd h18 (by decide)
        · skip
          refine e_aloadn (pc := 21) dX7_lose_21 rfl rfl ?_
          refine e_getr (pc := 22) (k := 41) dX7_lose_22 fX7_63 s_0 rfl (by decide) ?_
          refine e_iconst (pc := 25) dX7_lose_25 (by decide) ?_
          refine e_callVr (pc := 26) (as := [(0, 1)]) (st := []) (t_finds G (mem) 1 (by omega)) dX7_lose_26 lX7_lose_101 rfl s_41 cn_5 rfl rfl ?_
          have zan : an_lose mem (sn : Int) = -10 - 1 := by
            first | (unfold an_lose; (try simp only [Int.toNat_natCast]); (repeat (first | rw [if_pos (by omega)] | rw [if_neg (by omega)])) <;> first | rfl | omega) | (exfalso; omega)
          have znx : nx_lose mem (sn : Int) = mset mem 41 3 1 := by
            first | (unfold nx_lose; (try simp only [Int.toNat_natCast]); (repeat (first | rw [if_pos (by omega)] | rw [if_neg (by omega)])) <;> rfl) | (exfalso; omega)
          exact e_iret (pc := 29) dX7_lose_29 rfl (by rw [← hQ_]; exact ⟨by rw [zan], znx.symm⟩)
      · rw [if_neg zc15]
        refine e_if_eq (pc := 18) (tgt := 30) dX7_lose_18 rfl (fun h18 => ?_) (fun h18 => ?_)
        · skip
          refine e_aloadn (pc := 30) dX7_lose_30 rfl rfl ?_
          refine e_getr (pc := 31) (k := 41) dX7_lose_31 fX7_63 s_0 rfl (by decide) ?_
          refine e_getr (pc := 34) (k := 48) dX7_lose_34 fX7_105 s_41 rfl (by decide) ?_
          refine e_iloadn (pc := 37) dX7_lose_37 rfl rfl ?_
          refine e_ialdv (pc := 38) (v := mem 48 sn) dX7_lose_38 s_48 (by omega) rfl ?_
          refine e_istoren (pc := 39) (lo' := [(2, 0), (0, (sn : Int)), (0, mem 48 sn)]) dX7_lose_39 rfl rfl (by decide) rfl ?_
          refine e_aloadn (pc := 40) dX7_lose_40 rfl rfl ?_
          refine e_getr (pc := 41) (k := 41) dX7_lose_41 fX7_63 s_0 rfl (by decide) ?_
          refine e_iloadn (pc := 44) dX7_lose_44 rfl rfl ?_
          refine e_callVv (pc := 45) (as := [(0, (sn : Int))]) (st := []) (t_drop G mem sn hs) dX7_lose_45 lX7_lose_242 rfl s_41 cn_5 rfl rfl ?_
          refine e_iloadn (pc := 48) dX7_lose_48 rfl rfl ?_
          have zan : an_lose mem (sn : Int) = mem 48 sn := by
            first | (unfold an_lose; (try simp only [Int.toNat_natCast]); (repeat (first | rw [if_pos (by omega)] | rw [if_neg (by omega)])) <;> first | rfl | omega) | (exfalso; omega)
          have znx : nx_lose mem (sn : Int) = mset (mset mem 47 sn (-1)) 48 sn 0 := by
            first | (unfold nx_lose; (try simp only [Int.toNat_natCast]); (repeat (first | rw [if_pos (by omega)] | rw [if_neg (by omega)])) <;> rfl) | (exfalso; omega)
          exact e_iret (pc := 49) dX7_lose_49 rfl (by rw [← hQ_]; exact ⟨by rw [zan], znx.symm⟩)
        · skip
          exact absurd h18 (by decide)
    · skip
      exact absurd h4 (by decide)
  · rw [if_neg zc1]
    refine e_if_ne (pc := 4) (tgt := 10) dX7_lose_4 rfl (fun h4 => ?_) (fun h4 => ?_)
    · skip
      exact absurd h4 (by decide)
    · skip
      refine e_bipush (pc := 7) dX7_lose_7 rfl (by decide) ?_
      have zan : an_lose mem s = -2 := by
        first | (unfold an_lose; (try simp only [Int.toNat_natCast]); (repeat (first | rw [if_pos (by omega)] | rw [if_neg (by omega)])) <;> first | rfl | omega) | (exfalso; omega)
      have znx : nx_lose mem s = mem := by
        first | (unfold nx_lose; (try simp only [Int.toNat_natCast]); (repeat (first | rw [if_pos (by omega)] | rw [if_neg (by omega)])) <;> rfl) | (exfalso; omega)
      exact e_iret (pc := 9) dX7_lose_9 rfl (by rw [← hQ_]; exact ⟨by rw [zan], znx.symm⟩)

def fnd (A : Mem) (s : Nat) (f i : Int) : Int := if A 47 s = -1 then 1 else if A 47 s ≠ f then 3 else if i < 0 ∨ A 48 s ≤ i then 2 else 0
theorem fnd_bd (A : Mem) (s : Nat) (f i : Int) : 0 ≤ fnd A s f i ∧ fnd A s f i ≤ 3 := by unfold fnd; (repeat' split) <;> omega
theorem fnd_0 {A : Mem} {s : Nat} {f i : Int} (h : fnd A s f i = 0) : A 47 s = f ∧ 0 ≤ i ∧ i < A 48 s := by unfold fnd at h; (repeat' split at h) <;> omega
def lw5 (f v : Int) : Int := if f = 0 then i8 v else if f = 1 then i16 v else v

def an_put (A : Mem) (s f i v : Int) : Int := if (0 ≤ s ∧ s < 4) ∧ (0 ≤ f ∧ f < 3) then (if fnd A s.toNat f i = 0 then 1 else -10 - fnd A s.toNat f i) else -2
def nx_put (A : Mem) (s f i v : Int) : Mem := if (0 ≤ s ∧ s < 4) ∧ (0 ≤ f ∧ f < 3) then (if fnd A s.toNat f i = 0 then mset A (43 + s.toNat) i.toNat (lw5 f v) else mset A 41 3 (fnd A s.toNat f i)) else A

theorem c_put (G : Gm) (mem : Mem) (s f i v : Int) (hS : ShOk mem) : Con G mX7_put [(2, 0), (0, s), (0, f), (0, i), (0, v)] mem (fun r m' => r = some (0, an_put mem s f i v) ∧ m' = nx_put mem s f i v) := by
  refine Con.of (lo := [(2, 0), (0, s), (0, f), (0, i), (0, v), (3, 0)]) (by decide +kernel) (Nat.le_of_ble_eq_true rfl) rfl ?_
  generalize hQ_ : (fun r m' => r = some (0, an_put mem s f i v) ∧ m' = nx_put mem s f i v : Option AV → Mem → Prop) = Q_
  refine e_iloadn (pc := 0) dX7_put_0 rfl rfl ?_
  refine e_callSr (pc := 1) (as := [(0, s)]) (st := []) (v := (0, if 0 ≤ s ∧ s < 4 then 1 else 0)) (t_isSheet G mem s) dX7_put_1 lX7_put_95 rfl rfl rfl ?_
  by_cases zc1 : 0 ≤ s ∧ s < 4
  · rw [if_pos zc1]
    obtain ⟨sn, rfl⟩ : ∃ sn : Nat, s = (sn : Int) := ⟨s.toNat, by omega⟩
    have hs : sn < 4 := by omega
    refine e_if_eq (pc := 4) (tgt := 14) dX7_put_4 rfl (fun h4 => ?_) (fun h4 => ?_)
    · skip
      exact absurd h4 (by decide)
    · skip
      refine e_iloadn (pc := 7) dX7_put_7 rfl rfl ?_
      refine e_callSr (pc := 8) (as := [(0, f)]) (st := []) (v := (0, if 0 ≤ f ∧ f < 3 then 1 else 0)) (t_isForm G mem f) dX7_put_8 lX7_put_236 rfl rfl rfl ?_
      by_cases zc8 : 0 ≤ f ∧ f < 3
      · rw [if_pos zc8]
        refine e_if_ne (pc := 11) (tgt := 17) dX7_put_11 rfl (fun h11 => ?_) (fun h11 => ?_)
        · skip
          refine e_aloadn (pc := 17) dX7_put_17 rfl rfl ?_
          refine e_getr (pc := 18) (k := 41) dX7_put_18 fX7_63 s_0 rfl (by decide) ?_
          refine e_iloadn (pc := 21) dX7_put_21 rfl rfl ?_
          refine e_iloadn (pc := 22) dX7_put_22 rfl rfl ?_
          refine e_iloadn (pc := 23) dX7_put_23 rfl rfl ?_
          have zfb := fnd_bd mem sn f i
          refine e_callVr (pc := 24) (as := [(0, (sn : Int)), (0, f), (0, i)]) (st := []) (t_findingAt G mem sn f i hs (hS sn hs).2.2) dX7_put_24 lX7_put_245 rfl s_41 cn_5 rfl rfl ?_
          refine e_istore (pc := 27) (lo' := [(2, 0), (0, (sn : Int)), (0, f), (0, i), (0, v), (0, fnd mem sn f i)]) dX7_put_27 rfl (by decide) rfl ?_
          refine e_iload (pc := 29) dX7_put_29 rfl ?_
          refine e_if_eq (pc := 31) (tgt := 44) dX7_put_31 rfl (fun h31 => ?_) (fun h31 => ?_)
          · skip
            have zf0 := fnd_0 h31
            have zs4 := hS sn hs
            refine e_aloadn (pc := 44) dX7_put_44 rfl rfl ?_
            refine e_getr (pc := 45) (k := 41) dX7_put_45 fX7_63 s_0 rfl (by decide) ?_
            refine e_getr (pc := 48) (k := 42) dX7_put_48 fX7_108 s_41 rfl (by decide) ?_
            refine e_iloadn (pc := 51) dX7_put_51 rfl rfl ?_
            refine e_aald (pc := 52) dX7_put_52 s_42 (by omega) ?_
            refine Ev.to (st' := [(2, ((43 + sn : Nat) : Int))]) ?_ rfl rfl rfl
            refine e_iloadn (pc := 53) dX7_put_53 rfl rfl ?_
            refine e_aloadn (pc := 54) dX7_put_54 rfl rfl ?_
            refine e_getr (pc := 55) (k := 41) dX7_put_55 fX7_63 s_0 rfl (by decide) ?_
            refine e_iloadn (pc := 58) dX7_put_58 rfl rfl ?_
            refine e_iload (pc := 59) dX7_put_59 rfl ?_
            refine e_callVr (pc := 61) (as := [(0, f), (0, v)]) (st := [(0, i), (2, ((43 + sn : Nat) : Int))]) (t_lowest5 G mem f v) dX7_put_61 lX7_put_248 rfl s_41 cn_5 rfl rfl ?_
            refine e_iastm (pc := 64) (c := (43 + sn)) (mem2 := mset mem (43 + sn) i.toNat (lw5 f v)) dX7_put_64 (shI hs) (by omega) rfl ?_
            refine e_iconst (pc := 65) dX7_put_65 (by decide) ?_
            have zan : an_put mem (sn : Int) f i v = 1 := by
              first | (unfold an_put; (try simp only [Int.toNat_natCast]); (repeat (first | rw [if_pos (by omega)] | rw [if_neg (by omega)])) <;> first | rfl | omega) | (exfalso; omega)
            have znx : nx_put mem (sn : Int) f i v = mset mem (43 + sn) i.toNat (lw5 f v) := by
              first | (unfold nx_put; (try simp only [Int.toNat_natCast]); (repeat (first | rw [if_pos (by omega)] | rw [if_neg (by omega)])) <;> rfl) | (exfalso; omega)
            exact e_iret (pc := 66) dX7_put_66 rfl (by rw [← hQ_]; exact ⟨by rw [zan], znx.symm⟩)
          · skip
            refine e_aloadn (pc := 34) dX7_put_34 rfl rfl ?_
            refine e_getr (pc := 35) (k := 41) dX7_put_35 fX7_63 s_0 rfl (by decide) ?_
            refine e_iload (pc := 38) dX7_put_38 rfl ?_
            refine e_callVr (pc := 40) (as := [(0, fnd mem sn f i)]) (st := []) (t_finds G (mem) (fnd mem sn f i) (by omega)) dX7_put_40 lX7_put_101 rfl s_41 cn_5 rfl rfl ?_
            have zan : an_put mem (sn : Int) f i v = -10 - (fnd mem sn f i) := by
              first | (unfold an_put; (try simp only [Int.toNat_natCast]); (repeat (first | rw [if_pos (by omega)] | rw [if_neg (by omega)])) <;> first | rfl | omega) | (exfalso; omega)
            have znx : nx_put mem (sn : Int) f i v = mset mem 41 3 (fnd mem sn f i) := by
              first | (unfold nx_put; (try simp only [Int.toNat_natCast]); (repeat (first | rw [if_pos (by omega)] | rw [if_neg (by omega)])) <;> rfl) | (exfalso; omega)
            exact e_iret (pc := 43) dX7_put_43 rfl (by rw [← hQ_]; exact ⟨by rw [zan], znx.symm⟩)
        · skip
          exact absurd h11 (by decide)
      · rw [if_neg zc8]
        refine e_if_ne (pc := 11) (tgt := 17) dX7_put_11 rfl (fun h11 => ?_) (fun h11 => ?_)
        · skip
          exact absurd h11 (by decide)
        · skip
          refine e_bipush (pc := 14) dX7_put_14 rfl (by decide) ?_
          have zan : an_put mem (sn : Int) f i v = -2 := by
            first | (unfold an_put; (try simp only [Int.toNat_natCast]); (repeat (first | rw [if_pos (by omega)] | rw [if_neg (by omega)])) <;> first | rfl | omega) | (exfalso; omega)
          have znx : nx_put mem (sn : Int) f i v = mem := by
            first | (unfold nx_put; (try simp only [Int.toNat_natCast]); (repeat (first | rw [if_pos (by omega)] | rw [if_neg (by omega)])) <;> rfl) | (exfalso; omega)
          exact e_iret (pc := 16) dX7_put_16 rfl (by rw [← hQ_]; exact ⟨by rw [zan], znx.symm⟩)
  · rw [if_neg zc1]
    refine e_if_eq (pc := 4) (tgt := 14) dX7_put_4 rfl (fun h4 => ?_) (fun h4 => ?_)
    · skip
      refine e_bipush (pc := 14) dX7_put_14 rfl (by decide) ?_
      have zan : an_put mem s f i v = -2 := by
        first | (unfold an_put; (try simp only [Int.toNat_natCast]); (repeat (first | rw [if_pos (by omega)] | rw [if_neg (by omega)])) <;> first | rfl | omega) | (exfalso; omega)
      have znx : nx_put mem s f i v = mem := by
        first | (unfold nx_put; (try simp only [Int.toNat_natCast]); (repeat (first | rw [if_pos (by omega)] | rw [if_neg (by omega)])) <;> rfl) | (exfalso; omega)
      exact e_iret (pc := 16) dX7_put_16 rfl (by rw [← hQ_]; exact ⟨by rw [zan], znx.symm⟩)
    · skip
      exact absurd h4 (by decide)

def an_get (A : Mem) (s f i : Int) : Int := if ((0 ≤ s ∧ s < 4) ∧ (0 ≤ f ∧ f < 3)) ∧ fnd A s.toNat f i = 0 then A (43 + s.toNat) i.toNat else -2147483648
def nx_get (A : Mem) (s f i : Int) : Mem := if ((0 ≤ s ∧ s < 4) ∧ (0 ≤ f ∧ f < 3)) ∧ ¬ fnd A s.toNat f i = 0 then mset A 41 3 (fnd A s.toNat f i) else A

theorem c_get (G : Gm) (mem : Mem) (s f i : Int) (hS : ShOk mem) : Con G mX7_get [(2, 0), (0, s), (0, f), (0, i)] mem (fun r m' => r = some (0, an_get mem s f i) ∧ m' = nx_get mem s f i) := by
  refine Con.of (lo := [(2, 0), (0, s), (0, f), (0, i), (3, 0)]) (by decide +kernel) (Nat.le_of_ble_eq_true rfl) rfl ?_
  generalize hQ_ : (fun r m' => r = some (0, an_get mem s f i) ∧ m' = nx_get mem s f i : Option AV → Mem → Prop) = Q_
  refine e_iloadn (pc := 0) dX7_get_0 rfl rfl ?_
  refine e_callSr (pc := 1) (as := [(0, s)]) (st := []) (v := (0, if 0 ≤ s ∧ s < 4 then 1 else 0)) (t_isSheet G mem s) dX7_get_1 lX7_get_95 rfl rfl rfl ?_
  by_cases zc1 : 0 ≤ s ∧ s < 4
  · rw [if_pos zc1]
    obtain ⟨sn, rfl⟩ : ∃ sn : Nat, s = (sn : Int) := ⟨s.toNat, by omega⟩
    have hs : sn < 4 := by omega
    refine e_if_eq (pc := 4) (tgt := 14) dX7_get_4 rfl (fun h4 => ?_) (fun h4 => ?_)
    · skip
      exact absurd h4 (by decide)
    · skip
      refine e_iloadn (pc := 7) dX7_get_7 rfl rfl ?_
      refine e_callSr (pc := 8) (as := [(0, f)]) (st := []) (v := (0, if 0 ≤ f ∧ f < 3 then 1 else 0)) (t_isForm G mem f) dX7_get_8 lX7_get_236 rfl rfl rfl ?_
      by_cases zc8 : 0 ≤ f ∧ f < 3
      · rw [if_pos zc8]
        refine e_if_ne (pc := 11) (tgt := 17) dX7_get_11 rfl (fun h11 => ?_) (fun h11 => ?_)
        · skip
          refine e_aloadn (pc := 17) dX7_get_17 rfl rfl ?_
          refine e_getr (pc := 18) (k := 41) dX7_get_18 fX7_63 s_0 rfl (by decide) ?_
          refine e_iloadn (pc := 21) dX7_get_21 rfl rfl ?_
          refine e_iloadn (pc := 22) dX7_get_22 rfl rfl ?_
          refine e_iloadn (pc := 23) dX7_get_23 rfl rfl ?_
          have zfb := fnd_bd mem sn f i
          refine e_callVr (pc := 24) (as := [(0, (sn : Int)), (0, f), (0, i)]) (st := []) (t_findingAt G mem sn f i hs (hS sn hs).2.2) dX7_get_24 lX7_get_245 rfl s_41 cn_5 rfl rfl ?_
          refine e_istore (pc := 27) (lo' := [(2, 0), (0, (sn : Int)), (0, f), (0, i), (0, fnd mem sn f i)]) dX7_get_27 rfl (by decide) rfl ?_
          refine e_iload (pc := 29) dX7_get_29 rfl ?_
          refine e_if_eq (pc := 31) (tgt := 47) dX7_get_31 rfl (fun h31 => ?_) (fun h31 => ?_)
          · skip
            have zf0 := fnd_0 h31
            have zs4 := hS sn hs
            refine e_aloadn (pc := 47) dX7_get_47 rfl rfl ?_
            refine e_getr (pc := 48) (k := 41) dX7_get_48 fX7_63 s_0 rfl (by decide) ?_
            refine e_getr (pc := 51) (k := 42) dX7_get_51 fX7_108 s_41 rfl (by decide) ?_
            refine e_iloadn (pc := 54) dX7_get_54 rfl rfl ?_
            refine e_aald (pc := 55) dX7_get_55 s_42 (by omega) ?_
            refine Ev.to (st' := [(2, ((43 + sn : Nat) : Int))]) ?_ rfl rfl rfl
            refine e_iloadn (pc := 56) dX7_get_56 rfl rfl ?_
            refine e_ialdv (pc := 57) (c := (43 + sn)) (v := mem (43 + sn) i.toNat) dX7_get_57 (shI hs) (by omega) rfl ?_
            have zan : an_get mem (sn : Int) f i = mem (43 + sn) i.toNat := by
              first | (unfold an_get; (try simp only [Int.toNat_natCast]); (repeat (first | rw [if_pos (by omega)] | rw [if_neg (by omega)])) <;> first | rfl | omega) | (exfalso; omega)
            have znx : nx_get mem (sn : Int) f i = mem := by
              first | (unfold nx_get; (try simp only [Int.toNat_natCast]); (repeat (first | rw [if_pos (by omega)] | rw [if_neg (by omega)])) <;> rfl) | (exfalso; omega)
            exact e_iret (pc := 58) dX7_get_58 rfl (by rw [← hQ_]; exact ⟨by rw [zan], znx.symm⟩)
          · skip
            refine e_aloadn (pc := 34) dX7_get_34 rfl rfl ?_
            refine e_getr (pc := 35) (k := 41) dX7_get_35 fX7_63 s_0 rfl (by decide) ?_
            refine e_iload (pc := 38) dX7_get_38 rfl ?_
            refine e_callVr (pc := 40) (as := [(0, fnd mem sn f i)]) (st := []) (t_finds G (mem) (fnd mem sn f i) (by omega)) dX7_get_40 lX7_get_101 rfl s_41 cn_5 rfl rfl ?_
            refine e_pop (pc := 43) dX7_get_43 rfl ?_
            refine e_ldc (pc := 44) (z := (-2147483648)) dX7_get_44 kX7_251 (by decide) ?_
            have zan : an_get mem (sn : Int) f i = -2147483648 := by
              first | (unfold an_get; (try simp only [Int.toNat_natCast]); (repeat (first | rw [if_pos (by omega)] | rw [if_neg (by omega)])) <;> first | rfl | omega) | (exfalso; omega)
            have znx : nx_get mem (sn : Int) f i = mset mem 41 3 (fnd mem sn f i) := by
              first | (unfold nx_get; (try simp only [Int.toNat_natCast]); (repeat (first | rw [if_pos (by omega)] | rw [if_neg (by omega)])) <;> rfl) | (exfalso; omega)
            exact e_iret (pc := 46) dX7_get_46 rfl (by rw [← hQ_]; exact ⟨by rw [zan], znx.symm⟩)
        · skip
          exact absurd h11 (by decide)
      · rw [if_neg zc8]
        refine e_if_ne (pc := 11) (tgt := 17) dX7_get_11 rfl (fun h11 => ?_) (fun h11 => ?_)
        · skip
          exact absurd h11 (by decide)
        · skip
          refine e_ldc (pc := 14) (z := (-2147483648)) dX7_get_14 kX7_251 (by decide) ?_
          have zan : an_get mem (sn : Int) f i = -2147483648 := by
            first | (unfold an_get; (try simp only [Int.toNat_natCast]); (repeat (first | rw [if_pos (by omega)] | rw [if_neg (by omega)])) <;> first | rfl | omega) | (exfalso; omega)
          have znx : nx_get mem (sn : Int) f i = mem := by
            first | (unfold nx_get; (try simp only [Int.toNat_natCast]); (repeat (first | rw [if_pos (by omega)] | rw [if_neg (by omega)])) <;> rfl) | (exfalso; omega)
          exact e_iret (pc := 16) dX7_get_16 rfl (by rw [← hQ_]; exact ⟨by rw [zan], znx.symm⟩)
  · rw [if_neg zc1]
    refine e_if_eq (pc := 4) (tgt := 14) dX7_get_4 rfl (fun h4 => ?_) (fun h4 => ?_)
    · skip
      refine e_ldc (pc := 14) (z := (-2147483648)) dX7_get_14 kX7_251 (by decide) ?_
      have zan : an_get mem s f i = -2147483648 := by
        first | (unfold an_get; (try simp only [Int.toNat_natCast]); (repeat (first | rw [if_pos (by omega)] | rw [if_neg (by omega)])) <;> first | rfl | omega) | (exfalso; omega)
      have znx : nx_get mem s f i = mem := by
        first | (unfold nx_get; (try simp only [Int.toNat_natCast]); (repeat (first | rw [if_pos (by omega)] | rw [if_neg (by omega)])) <;> rfl) | (exfalso; omega)
      exact e_iret (pc := 16) dX7_get_16 rfl (by rw [← hQ_]; exact ⟨by rw [zan], znx.symm⟩)
    · skip
      exact absurd h4 (by decide)

def an_copy (A : Mem) (s i t j n : Int) : Int := if (0 ≤ s ∧ s < 4) ∧ (0 ≤ t ∧ t < 4) then (if A 47 s.toNat = -1 ∨ A 47 t.toNat = -1 then -11 else if A 47 s.toNat ≠ A 47 t.toNat then -14 else if n < 0 ∨ ¬ (0 ≤ i ∧ i ≤ A 48 s.toNat ∧ n ≤ A 48 s.toNat - i) ∨ ¬ (0 ≤ j ∧ j ≤ A 48 t.toNat ∧ n ≤ A 48 t.toNat - j) then -12 else 1) else -2
def nx_copy (A : Mem) (s i t j n : Int) : Mem := if (0 ≤ s ∧ s < 4) ∧ (0 ≤ t ∧ t < 4) then (if A 47 s.toNat = -1 ∨ A 47 t.toNat = -1 then mset A 41 3 1 else if A 47 s.toNat ≠ A 47 t.toNat then mset A 41 3 4 else if n < 0 ∨ ¬ (0 ≤ i ∧ i ≤ A 48 s.toNat ∧ n ≤ A 48 s.toNat - i) ∨ ¬ (0 ≤ j ∧ j ≤ A 48 t.toNat ∧ n ≤ A 48 t.toNat - j) then mset A 41 3 2 else rset A (43 + t.toNat) (cpy (A (43 + s.toNat)) (A (43 + t.toNat)) i.toNat j.toNat n.toNat)) else A

theorem c_copy (G : Gm) (mem : Mem) (s i t j n : Int) (hS : ShOk mem) : Con G mX7_copy [(2, 0), (0, s), (0, i), (0, t), (0, j), (0, n)] mem (fun r m' => r = some (0, an_copy mem s i t j n) ∧ m' = nx_copy mem s i t j n) := by
  refine Con.of (lo := [(2, 0), (0, s), (0, i), (0, t), (0, j), (0, n)]) (by decide +kernel) (Nat.le_of_ble_eq_true rfl) rfl ?_
  generalize hQ_ : (fun r m' => r = some (0, an_copy mem s i t j n) ∧ m' = nx_copy mem s i t j n : Option AV → Mem → Prop) = Q_
  refine e_iloadn (pc := 0) dX7_copy_0 rfl rfl ?_
  refine e_callSr (pc := 1) (as := [(0, s)]) (st := []) (v := (0, if 0 ≤ s ∧ s < 4 then 1 else 0)) (t_isSheet G mem s) dX7_copy_1 lX7_copy_95 rfl rfl rfl ?_
  by_cases zc1 : 0 ≤ s ∧ s < 4
  · rw [if_pos zc1]
    obtain ⟨sn, rfl⟩ : ∃ sn : Nat, s = (sn : Int) := ⟨s.toNat, by omega⟩
    have hs : sn < 4 := by omega
    refine e_if_eq (pc := 4) (tgt := 14) dX7_copy_4 rfl (fun h4 => ?_) (fun h4 => ?_)
    · skip
      exact absurd h4 (by decide)
    · skip
      refine e_iloadn (pc := 7) dX7_copy_7 rfl rfl ?_
      refine e_callSr (pc := 8) (as := [(0, t)]) (st := []) (v := (0, if 0 ≤ t ∧ t < 4 then 1 else 0)) (t_isSheet G mem t) dX7_copy_8 lX7_copy_95 rfl rfl rfl ?_
      by_cases zc8 : 0 ≤ t ∧ t < 4
      · rw [if_pos zc8]
        obtain ⟨tn, rfl⟩ : ∃ tn : Nat, t = (tn : Int) := ⟨t.toNat, by omega⟩
        have ht : tn < 4 := by omega
        refine e_if_ne (pc := 11) (tgt := 17) dX7_copy_11 rfl (fun h11 => ?_) (fun h11 => ?_)
        · skip
          refine e_aloadn (pc := 17) dX7_copy_17 rfl rfl ?_
          refine e_getr (pc := 18) (k := 41) dX7_copy_18 fX7_63 s_0 rfl (by decide) ?_
          refine e_iloadn (pc := 21) dX7_copy_21 rfl rfl ?_
          refine e_callVr (pc := 22) (as := [(0, (sn : Int))]) (st := []) (v := (0, if mem 47 sn = -1 then 1 else 0)) (t_isGone G mem sn hs) dX7_copy_22 lX7_copy_98 rfl s_41 cn_5 rfl rfl ?_
          by_cases zc22 : mem 47 sn = -1
          · rw [if_pos zc22]
            refine e_if_ne (pc := 25) (tgt := 39) dX7_copy_25 rfl (fun h25 => ?_) (fun h25 => ?_)
            · skip
              refine e_aloadn (pc := 39) dX7_copy_39 rfl rfl ?_
              refine e_getr (pc := 40) (k := 41) dX7_copy_40 fX7_63 s_0 rfl (by decide) ?_
              refine e_iconst (pc := 43) dX7_copy_43 (by decide) ?_
              refine e_callVr (pc := 44) (as := [(0, 1)]) (st := []) (t_finds G (mem) 1 (by omega)) dX7_copy_44 lX7_copy_101 rfl s_41 cn_5 rfl rfl ?_
              have zan : an_copy mem (sn : Int) i (tn : Int) j n = -10 - 1 := by
                first | (unfold an_copy; (try simp only [Int.toNat_natCast]); (repeat (first | rw [if_pos (by omega)] | rw [if_neg (by omega)])) <;> first | rfl | omega) | (exfalso; omega)
              have znx : nx_copy mem (sn : Int) i (tn : Int) j n = mset mem 41 3 1 := by
                first | (unfold nx_copy; (try simp only [Int.toNat_natCast]); (repeat (first | rw [if_pos (by omega)] | rw [if_neg (by omega)])) <;> rfl) | (exfalso; omega)
              exact e_iret (pc := 47) dX7_copy_47 rfl (by rw [← hQ_]; exact ⟨by rw [zan], znx.symm⟩)
            · skip
              exact absurd h25 (by decide)
          · rw [if_neg zc22]
            refine e_if_ne (pc := 25) (tgt := 39) dX7_copy_25 rfl (fun h25 => ?_) (fun h25 => ?_)
            · skip
              exact absurd h25 (by decide)
            · skip
              refine e_aloadn (pc := 28) dX7_copy_28 rfl rfl ?_
              refine e_getr (pc := 29) (k := 41) dX7_copy_29 fX7_63 s_0 rfl (by decide) ?_
              refine e_iloadn (pc := 32) dX7_copy_32 rfl rfl ?_
              refine e_callVr (pc := 33) (as := [(0, (tn : Int))]) (st := []) (v := (0, if mem 47 tn = -1 then 1 else 0)) (t_isGone G mem tn ht) dX7_copy_33 lX7_copy_98 rfl s_41 cn_5 rfl rfl ?_
              by_cases zc33 : mem 47 tn = -1
              · rw [if_pos zc33]
                refine e_if_eq (pc := 36) (tgt := 48) dX7_copy_36 rfl (fun h36 => ?_) (fun h36 => ?_)
                · skip
                  exact absurd h36 (by decide)
                · skip
                  refine e_aloadn (pc := 39) dX7_copy_39 rfl rfl ?_
                  refine e_getr (pc := 40) (k := 41) dX7_copy_40 fX7_63 s_0 rfl (by decide) ?_
                  refine e_iconst (pc := 43) dX7_copy_43 (by decide) ?_
                  refine e_callVr (pc := 44) (as := [(0, 1)]) (st := []) (t_finds G (mem) 1 (by omega)) dX7_copy_44 lX7_copy_101 rfl s_41 cn_5 rfl rfl ?_
                  have zan : an_copy mem (sn : Int) i (tn : Int) j n = -10 - 1 := by
                    first | (unfold an_copy; (try simp only [Int.toNat_natCast]); (repeat (first | rw [if_pos (by omega)] | rw [if_neg (by omega)])) <;> first | rfl | omega) | (exfalso; omega)
                  have znx : nx_copy mem (sn : Int) i (tn : Int) j n = mset mem 41 3 1 := by
                    first | (unfold nx_copy; (try simp only [Int.toNat_natCast]); (repeat (first | rw [if_pos (by omega)] | rw [if_neg (by omega)])) <;> rfl) | (exfalso; omega)
                  exact e_iret (pc := 47) dX7_copy_47 rfl (by rw [← hQ_]; exact ⟨by rw [zan], znx.symm⟩)
              · rw [if_neg zc33]
                refine e_if_eq (pc := 36) (tgt := 48) dX7_copy_36 rfl (fun h36 => ?_) (fun h36 => ?_)
                · skip
                  refine e_aloadn (pc := 48) dX7_copy_48 rfl rfl ?_
                  refine e_getr (pc := 49) (k := 41) dX7_copy_49 fX7_63 s_0 rfl (by decide) ?_
                  refine e_getr (pc := 52) (k := 47) dX7_copy_52 fX7_252 s_41 rfl (by decide) ?_
                  refine e_iloadn (pc := 55) dX7_copy_55 rfl rfl ?_
                  refine e_ialdv (pc := 56) (v := mem 47 sn) dX7_copy_56 s_47 (by omega) rfl ?_
                  refine e_aloadn (pc := 57) dX7_copy_57 rfl rfl ?_
                  refine e_getr (pc := 58) (k := 41) dX7_copy_58 fX7_63 s_0 rfl (by decide) ?_
                  refine e_getr (pc := 61) (k := 47) dX7_copy_61 fX7_252 s_41 rfl (by decide) ?_
                  refine e_iloadn (pc := 64) dX7_copy_64 rfl rfl ?_
                  refine e_ialdv (pc := 65) (v := mem 47 tn) dX7_copy_65 s_47 (by omega) rfl ?_
                  refine e_icmp_eq (pc := 66) (tgt := 78) dX7_copy_66 rfl (fun h66 => ?_) (fun h66 => ?_)
                  · skip
                    refine e_iload (pc := 78) dX7_copy_78 rfl ?_
                    refine e_if_lt (pc := 80) (tgt := 112) dX7_copy_80 rfl (fun h80 => ?_) (fun h80 => ?_)
                    · skip
                      refine e_aloadn (pc := 112) dX7_copy_112 rfl rfl ?_
                      refine e_getr (pc := 113) (k := 41) dX7_copy_113 fX7_63 s_0 rfl (by decide) ?_
                      refine e_iconst (pc := 116) dX7_copy_116 (by decide) ?_
                      refine e_callVr (pc := 117) (as := [(0, 2)]) (st := []) (t_finds G (mem) 2 (by omega)) dX7_copy_117 lX7_copy_101 rfl s_41 cn_5 rfl rfl ?_
                      have zan : an_copy mem (sn : Int) i (tn : Int) j n = -10 - 2 := by
                        first | (unfold an_copy; (try simp only [Int.toNat_natCast]); (repeat (first | rw [if_pos (by omega)] | rw [if_neg (by omega)])) <;> first | rfl | omega) | (exfalso; omega)
                      have znx : nx_copy mem (sn : Int) i (tn : Int) j n = mset mem 41 3 2 := by
                        first | (unfold nx_copy; (try simp only [Int.toNat_natCast]); (repeat (first | rw [if_pos (by omega)] | rw [if_neg (by omega)])) <;> rfl) | (exfalso; omega)
                      exact e_iret (pc := 120) dX7_copy_120 rfl (by rw [← hQ_]; exact ⟨by rw [zan], znx.symm⟩)
                    · skip
                      refine e_aloadn (pc := 83) dX7_copy_83 rfl rfl ?_
                      refine e_getr (pc := 84) (k := 41) dX7_copy_84 fX7_63 s_0 rfl (by decide) ?_
                      refine e_iloadn (pc := 87) dX7_copy_87 rfl rfl ?_
                      refine e_iloadn (pc := 88) dX7_copy_88 rfl rfl ?_
                      refine e_iload (pc := 89) dX7_copy_89 rfl ?_
                      refine e_callVr (pc := 91) (as := [(0, (sn : Int)), (0, i), (0, n)]) (st := []) (v := (0, if 0 ≤ i ∧ i ≤ mem 48 sn ∧ n ≤ mem 48 sn - i then 1 else 0)) (t_hasItems G mem sn i n hs (hS sn hs).2) dX7_copy_91 lX7_copy_255 rfl s_41 cn_5 rfl rfl ?_
                      by_cases zc91 : 0 ≤ i ∧ i ≤ mem 48 sn ∧ n ≤ mem 48 sn - i
                      · rw [if_pos zc91]
                        refine e_if_eq (pc := 94) (tgt := 112) dX7_copy_94 rfl (fun h94 => ?_) (fun h94 => ?_)
                        · skip
                          exact absurd h94 (by decide)
                        · skip
                          refine e_aloadn (pc := 97) dX7_copy_97 rfl rfl ?_
                          refine e_getr (pc := 98) (k := 41) dX7_copy_98 fX7_63 s_0 rfl (by decide) ?_
                          refine e_iloadn (pc := 101) dX7_copy_101 rfl rfl ?_
                          refine e_iload (pc := 102) dX7_copy_102 rfl ?_
                          refine e_iload (pc := 104) dX7_copy_104 rfl ?_
                          refine e_callVr (pc := 106) (as := [(0, (tn : Int)), (0, j), (0, n)]) (st := []) (v := (0, if 0 ≤ j ∧ j ≤ mem 48 tn ∧ n ≤ mem 48 tn - j then 1 else 0)) (t_hasItems G mem tn j n ht (hS tn ht).2) dX7_copy_106 lX7_copy_255 rfl s_41 cn_5 rfl rfl ?_
                          by_cases zc106 : 0 ≤ j ∧ j ≤ mem 48 tn ∧ n ≤ mem 48 tn - j
                          · rw [if_pos zc106]
                            refine e_if_ne (pc := 109) (tgt := 121) dX7_copy_109 rfl (fun h109 => ?_) (fun h109 => ?_)
                            · skip
                              refine e_aloadn (pc := 121) dX7_copy_121 rfl rfl ?_
                              refine e_getr (pc := 122) (k := 41) dX7_copy_122 fX7_63 s_0 rfl (by decide) ?_
                              refine e_getr (pc := 125) (k := 42) dX7_copy_125 fX7_108 s_41 rfl (by decide) ?_
                              refine e_iloadn (pc := 128) dX7_copy_128 rfl rfl ?_
                              refine e_aald (pc := 129) dX7_copy_129 s_42 (by omega) ?_
                              refine Ev.to (st' := [(2, ((43 + sn : Nat) : Int))]) ?_ rfl rfl rfl
                              refine e_iloadn (pc := 130) dX7_copy_130 rfl rfl ?_
                              refine e_aloadn (pc := 131) dX7_copy_131 rfl rfl ?_
                              refine e_getr (pc := 132) (k := 41) dX7_copy_132 fX7_63 s_0 rfl (by decide) ?_
                              refine e_getr (pc := 135) (k := 42) dX7_copy_135 fX7_108 s_41 rfl (by decide) ?_
                              refine e_iloadn (pc := 138) dX7_copy_138 rfl rfl ?_
                              refine e_aald (pc := 139) dX7_copy_139 s_42 (by omega) ?_
                              refine Ev.to (st' := [(2, ((43 + tn : Nat) : Int)), (0, i), (2, ((43 + sn : Nat) : Int))]) ?_ rfl rfl rfl
                              refine e_iload (pc := 140) dX7_copy_140 rfl ?_
                              refine e_iload (pc := 142) dX7_copy_142 rfl ?_
                              refine e_copy (pc := 144) (a := (43 + sn)) (b := (43 + tn)) dX7_copy_144 lX7_cp258 (by decide) rfl (shI hs) (shI ht) (by decide) (by have q1 := hS sn hs; have q2 := hS tn ht; omega) ?_
                              refine e_iconst (pc := 147) dX7_copy_147 (by decide) ?_
                              have zan : an_copy mem (sn : Int) i (tn : Int) j n = 1 := by
                                first | (unfold an_copy; (try simp only [Int.toNat_natCast]); (repeat (first | rw [if_pos (by omega)] | rw [if_neg (by omega)])) <;> first | rfl | omega) | (exfalso; omega)
                              have znx : nx_copy mem (sn : Int) i (tn : Int) j n = rset mem (43 + tn) (cpy (mem (43 + sn)) (mem (43 + tn)) i.toNat j.toNat n.toNat) := by
                                first | (unfold nx_copy; (try simp only [Int.toNat_natCast]); (repeat (first | rw [if_pos (by omega)] | rw [if_neg (by omega)])) <;> rfl) | (exfalso; omega)
                              exact e_iret (pc := 148) dX7_copy_148 rfl (by rw [← hQ_]; exact ⟨by rw [zan], znx.symm⟩)
                            · skip
                              exact absurd h109 (by decide)
                          · rw [if_neg zc106]
                            refine e_if_ne (pc := 109) (tgt := 121) dX7_copy_109 rfl (fun h109 => ?_) (fun h109 => ?_)
                            · skip
                              exact absurd h109 (by decide)
                            · skip
                              refine e_aloadn (pc := 112) dX7_copy_112 rfl rfl ?_
                              refine e_getr (pc := 113) (k := 41) dX7_copy_113 fX7_63 s_0 rfl (by decide) ?_
                              refine e_iconst (pc := 116) dX7_copy_116 (by decide) ?_
                              refine e_callVr (pc := 117) (as := [(0, 2)]) (st := []) (t_finds G (mem) 2 (by omega)) dX7_copy_117 lX7_copy_101 rfl s_41 cn_5 rfl rfl ?_
                              have zan : an_copy mem (sn : Int) i (tn : Int) j n = -10 - 2 := by
                                first | (unfold an_copy; (try simp only [Int.toNat_natCast]); (repeat (first | rw [if_pos (by omega)] | rw [if_neg (by omega)])) <;> first | rfl | omega) | (exfalso; omega)
                              have znx : nx_copy mem (sn : Int) i (tn : Int) j n = mset mem 41 3 2 := by
                                first | (unfold nx_copy; (try simp only [Int.toNat_natCast]); (repeat (first | rw [if_pos (by omega)] | rw [if_neg (by omega)])) <;> rfl) | (exfalso; omega)
                              exact e_iret (pc := 120) dX7_copy_120 rfl (by rw [← hQ_]; exact ⟨by rw [zan], znx.symm⟩)
                      · rw [if_neg zc91]
                        refine e_if_eq (pc := 94) (tgt := 112) dX7_copy_94 rfl (fun h94 => ?_) (fun h94 => ?_)
                        · skip
                          refine e_aloadn (pc := 112) dX7_copy_112 rfl rfl ?_
                          refine e_getr (pc := 113) (k := 41) dX7_copy_113 fX7_63 s_0 rfl (by decide) ?_
                          refine e_iconst (pc := 116) dX7_copy_116 (by decide) ?_
                          refine e_callVr (pc := 117) (as := [(0, 2)]) (st := []) (t_finds G (mem) 2 (by omega)) dX7_copy_117 lX7_copy_101 rfl s_41 cn_5 rfl rfl ?_
                          have zan : an_copy mem (sn : Int) i (tn : Int) j n = -10 - 2 := by
                            first | (unfold an_copy; (try simp only [Int.toNat_natCast]); (repeat (first | rw [if_pos (by omega)] | rw [if_neg (by omega)])) <;> first | rfl | omega) | (exfalso; omega)
                          have znx : nx_copy mem (sn : Int) i (tn : Int) j n = mset mem 41 3 2 := by
                            first | (unfold nx_copy; (try simp only [Int.toNat_natCast]); (repeat (first | rw [if_pos (by omega)] | rw [if_neg (by omega)])) <;> rfl) | (exfalso; omega)
                          exact e_iret (pc := 120) dX7_copy_120 rfl (by rw [← hQ_]; exact ⟨by rw [zan], znx.symm⟩)
                        · skip
                          exact absurd h94 (by decide)
                  · skip
                    refine e_aloadn (pc := 69) dX7_copy_69 rfl rfl ?_
                    refine e_getr (pc := 70) (k := 41) dX7_copy_70 fX7_63 s_0 rfl (by decide) ?_
                    refine e_iconst (pc := 73) dX7_copy_73 (by decide) ?_
                    refine e_callVr (pc := 74) (as := [(0, 4)]) (st := []) (t_finds G (mem) 4 (by omega)) dX7_copy_74 lX7_copy_101 rfl s_41 cn_5 rfl rfl ?_
                    have zan : an_copy mem (sn : Int) i (tn : Int) j n = -10 - 4 := by
                      first | (unfold an_copy; (try simp only [Int.toNat_natCast]); (repeat (first | rw [if_pos (by omega)] | rw [if_neg (by omega)])) <;> first | rfl | omega) | (exfalso; omega)
                    have znx : nx_copy mem (sn : Int) i (tn : Int) j n = mset mem 41 3 4 := by
                      first | (unfold nx_copy; (try simp only [Int.toNat_natCast]); (repeat (first | rw [if_pos (by omega)] | rw [if_neg (by omega)])) <;> rfl) | (exfalso; omega)
                    exact e_iret (pc := 77) dX7_copy_77 rfl (by rw [← hQ_]; exact ⟨by rw [zan], znx.symm⟩)
                · skip
                  exact absurd h36 (by decide)
        · skip
          exact absurd h11 (by decide)
      · rw [if_neg zc8]
        refine e_if_ne (pc := 11) (tgt := 17) dX7_copy_11 rfl (fun h11 => ?_) (fun h11 => ?_)
        · skip
          exact absurd h11 (by decide)
        · skip
          refine e_bipush (pc := 14) dX7_copy_14 rfl (by decide) ?_
          have zan : an_copy mem (sn : Int) i t j n = -2 := by
            first | (unfold an_copy; (try simp only [Int.toNat_natCast]); (repeat (first | rw [if_pos (by omega)] | rw [if_neg (by omega)])) <;> first | rfl | omega) | (exfalso; omega)
          have znx : nx_copy mem (sn : Int) i t j n = mem := by
            first | (unfold nx_copy; (try simp only [Int.toNat_natCast]); (repeat (first | rw [if_pos (by omega)] | rw [if_neg (by omega)])) <;> rfl) | (exfalso; omega)
          exact e_iret (pc := 16) dX7_copy_16 rfl (by rw [← hQ_]; exact ⟨by rw [zan], znx.symm⟩)
  · rw [if_neg zc1]
    refine e_if_eq (pc := 4) (tgt := 14) dX7_copy_4 rfl (fun h4 => ?_) (fun h4 => ?_)
    · skip
      refine e_bipush (pc := 14) dX7_copy_14 rfl (by decide) ?_
      have zan : an_copy mem s i t j n = -2 := by
        first | (unfold an_copy; (try simp only [Int.toNat_natCast]); (repeat (first | rw [if_pos (by omega)] | rw [if_neg (by omega)])) <;> first | rfl | omega) | (exfalso; omega)
      have znx : nx_copy mem s i t j n = mem := by
        first | (unfold nx_copy; (try simp only [Int.toNat_natCast]); (repeat (first | rw [if_pos (by omega)] | rw [if_neg (by omega)])) <;> rfl) | (exfalso; omega)
      exact e_iret (pc := 16) dX7_copy_16 rfl (by rw [← hQ_]; exact ⟨by rw [zan], znx.symm⟩)
    · skip
      exact absurd h4 (by decide)

def rdA (kd it : Nat → Int) (sz : Int) (am : Nat → Int) : Nat → Bool × Nat × (Nat → Int)
  | 0 => (true, 0, am)
  | k + 1 => if (rdA kd it sz am k).1 = true ∧ kd k = 0 then (if sz ≤ ((rdA kd it sz am k).2.1 : Int) ∨ ¬ (0 ≤ it (rdA kd it sz am k).2.1 ∧ it (rdA kd it sz am k).2.1 ≤ 60) then (false, (rdA kd it sz am k).2) else (true, (rdA kd it sz am k).2.1 + 1, uset (rdA kd it sz am k).2.2 k (it (rdA kd it sz am k).2.1))) else rdA kd it sz am k
theorem rdA_s (kd it : Nat → Int) (sz : Int) (am : Nat → Int) (k : Nat) : rdA kd it sz am (k + 1) = if (rdA kd it sz am k).1 = true ∧ kd k = 0 then (if sz ≤ ((rdA kd it sz am k).2.1 : Int) ∨ ¬ (0 ≤ it (rdA kd it sz am k).2.1 ∧ it (rdA kd it sz am k).2.1 ≤ 60) then (false, (rdA kd it sz am k).2) else (true, (rdA kd it sz am k).2.1 + 1, uset (rdA kd it sz am k).2.2 k (it (rdA kd it sz am k).2.1))) else rdA kd it sz am k := rfl
theorem rdA_skip {kd it : Nat → Int} {sz : Int} {am am' : Nat → Int} {k n : Nat} (h : rdA kd it sz am k = (true, n, am')) (hk : ¬ kd k = 0) : rdA kd it sz am (k + 1) = (true, n, am') := by rw [rdA_s, if_neg (fun q => hk q.2), h]
theorem rdA_go {kd it : Nat → Int} {sz : Int} {am am' : Nat → Int} {k n : Nat} (h : rdA kd it sz am k = (true, n, am')) (hk : kd k = 0) (h1 : (n : Int) < sz) (h2 : 0 ≤ it n ∧ it n ≤ 60) : rdA kd it sz am (k + 1) = (true, n + 1, uset am' k (it n)) := by
  rw [rdA_s, h]; show (if true = true ∧ kd k = 0 then (if sz ≤ (n : Int) ∨ ¬ (0 ≤ it n ∧ it n ≤ 60) then _ else _) else _) = _
  rw [if_pos ⟨rfl, hk⟩, if_neg (by omega)]
theorem rdA_stop {kd it : Nat → Int} {sz : Int} {am am' : Nat → Int} {k n : Nat} (h : rdA kd it sz am k = (true, n, am')) (hk : kd k = 0) (h1 : sz ≤ (n : Int) ∨ ¬ (0 ≤ it n ∧ it n ≤ 60)) : ∀ d : Nat, rdA kd it sz am (k + 1 + d) = (false, n, am')
  | 0 => by
    show rdA kd it sz am (k + 1) = _
    rw [rdA_s, h]; show (if true = true ∧ kd k = 0 then (if sz ≤ (n : Int) ∨ ¬ (0 ≤ it n ∧ it n ≤ 60) then _ else _) else _) = _
    rw [if_pos ⟨rfl, hk⟩, if_pos h1]
  | d + 1 => by
    have e := rdA_stop h hk h1 d
    show rdA kd it sz am (k + 1 + d + 1) = _
    rw [rdA_s, e, if_neg (fun q => by cases q.1)]
theorem rdA_n {kd it : Nat → Int} {sz : Int} {am : Nat → Int} : ∀ k : Nat, (rdA kd it sz am k).2.1 ≤ k
  | 0 => Nat.le_refl _
  | k + 1 => by
    have := rdA_n (kd := kd) (it := it) (sz := sz) (am := am) k
    rw [rdA_s]
    split
    · split
      · show (rdA kd it sz am k).2.1 ≤ k + 1; omega
      · show (rdA kd it sz am k).2.1 + 1 ≤ k + 1; omega
    · omega
def an_read (A : Mem) (s : Int) : Int := if 0 ≤ s ∧ s < 4 then (if A 47 s.toNat = -1 then -11 else ((rdA (A 18) (A (43 + s.toNat)) (A 48 s.toNat) (A 19) 8).2.1 : Int)) else -2
def nx_read (A : Mem) (s : Int) : Mem := if 0 ≤ s ∧ s < 4 then (if A 47 s.toNat = -1 then mset A 41 3 1 else rset A 19 (rdA (A 18) (A (43 + s.toNat)) (A 48 s.toNat) (A 19) 8).2.2) else A

theorem c_read (G : Gm) (mem : Mem) (s : Int) (hS : ShOk mem) : Con G mX7_read [(2, 0), (0, s)] mem (fun r m' => r = some (0, an_read mem s) ∧ m' = nx_read mem s) := by
  refine Con.of (lo := [(2, 0), (0, s), (3, 0), (3, 0)]) (by decide +kernel) (Nat.le_of_ble_eq_true rfl) rfl ?_
  generalize hQ_ : (fun r m' => r = some (0, an_read mem s) ∧ m' = nx_read mem s : Option AV → Mem → Prop) = Q_
  refine e_iloadn (pc := 0) dX7_read_0 rfl rfl ?_
  refine e_callSr (pc := 1) (as := [(0, s)]) (st := []) (v := (0, if 0 ≤ s ∧ s < 4 then 1 else 0)) (t_isSheet G mem s) dX7_read_1 lX7_read_95 rfl rfl rfl ?_
  by_cases zc1 : 0 ≤ s ∧ s < 4
  · rw [if_pos zc1]
    obtain ⟨sn, rfl⟩ : ∃ sn : Nat, s = (sn : Int) := ⟨s.toNat, by omega⟩
    have hs : sn < 4 := by omega
    refine e_if_ne (pc := 4) (tgt := 10) dX7_read_4 rfl (fun h4 => ?_) (fun h4 => ?_)
    · skip
      refine e_aloadn (pc := 10) dX7_read_10 rfl rfl ?_
      refine e_getr (pc := 11) (k := 41) dX7_read_11 fX7_63 s_0 rfl (by decide) ?_
      refine e_iloadn (pc := 14) dX7_read_14 rfl rfl ?_
      refine e_callVr (pc := 15) (as := [(0, (sn : Int))]) (st := []) (v := (0, if mem 47 sn = -1 then 1 else 0)) (t_isGone G mem sn hs) dX7_read_15 lX7_read_98 rfl s_41 cn_5 rfl rfl ?_
      by_cases zc15 : mem 47 sn = -1
      · rw [if_pos zc15]
        refine e_if_eq (pc := 18) (tgt := 30) dX7_read_18 rfl (fun h18 => ?_) (fun h18 => ?_)
        · skip
          exact absurd h18 (by decide)
        · skip
          refine e_aloadn (pc := 21) dX7_read_21 rfl rfl ?_
          refine e_getr (pc := 22) (k := 41) dX7_read_22 fX7_63 s_0 rfl (by decide) ?_
          refine e_iconst (pc := 25) dX7_read_25 (by decide) ?_
          refine e_callVr (pc := 26) (as := [(0, 1)]) (st := []) (t_finds G (mem) 1 (by omega)) dX7_read_26 lX7_read_101 rfl s_41 cn_5 rfl rfl ?_
          have zan : an_read mem (sn : Int) = -10 - 1 := by
            unfold an_read; (try simp only [Int.toNat_natCast]); (repeat (first | rw [if_pos (by omega)] | rw [if_neg (by omega)])) <;> rfl
          have znx : nx_read mem (sn : Int) = mset mem 41 3 1 := by
            unfold nx_read; (try simp only [Int.toNat_natCast]); (repeat (first | rw [if_pos (by omega)] | rw [if_neg (by omega)])) <;> rfl
          exact e_iret (pc := 29) dX7_read_29 rfl (by rw [← hQ_]; exact ⟨by rw [zan], znx.symm⟩)
      · rw [if_neg zc15]
        refine e_if_eq (pc := 18) (tgt := 30) dX7_read_18 rfl (fun h18 => ?_) (fun h18 => ?_)
        · skip
          refine e_iconst (pc := 30) dX7_read_30 (by decide) ?_
          refine e_istoren (pc := 31) (lo' := [(2, 0), (0, (sn : Int)), (0, 0), (3, 0)]) dX7_read_31 rfl rfl (by decide) rfl ?_
          refine e_iconst (pc := 32) dX7_read_32 (by decide) ?_
          refine e_istoren (pc := 33) (lo' := [(2, 0), (0, (sn : Int)), (0, 0), (0, 0)]) dX7_read_33 rfl rfl (by decide) rfl ?_
          have L34 : ∀ (n_ : Nat) (k : Nat) (n : Nat) (am : Nat → Int), 8 - k = n_ → (k ≤ 8) → (n ≤ k) → (rdA (mem 18) (mem (43 + sn)) (mem 48 sn) (mem 19) k = (true, n, am)) → Ev G mX7_read Q_ 34 [(2, 0), (0, (sn : Int)), (0, (n : Int)), (0, (k : Int))] [] (rset mem 19 am) := by
            intro n_
            induction n_ using Nat.strongRecOn with
            | ind n_ ih34 =>
              intro k n am hn_ zk znk zr
              refine e_iloadn (pc := 34) dX7_read_34 rfl rfl ?_
              refine e_bipush (pc := 35) dX7_read_35 rfl (by decide) ?_
              refine e_icmp_ge (pc := 37) (tgt := 117) dX7_read_37 rfl (fun h37 => ?_) (fun h37 => ?_)
              · skip
                refine e_iloadn (pc := 117) dX7_read_117 rfl rfl ?_
                obtain ⟨zb, zend⟩ : ∃ zb : Bool, rdA (mem 18) (mem (43 + sn)) (mem 48 sn) (mem 19) 8 = (zb, n, am) := by
                  first | (have q := rdA_stop zr h49 (Or.inl h65) (7 - k); rw [show k + 1 + (7 - k) = 8 by omega] at q; exact ⟨_, q⟩) | (have q := rdA_stop zr h49 (Or.inr zmy) (7 - k); rw [show k + 1 + (7 - k) = 8 by omega] at q; exact ⟨_, q⟩) | (rw [show k = 8 by omega] at zr; exact ⟨_, zr⟩)
                have zan : an_read mem (sn : Int) = (n : Int) := by
                  unfold an_read
                  rw [if_pos (by omega), if_neg (show ¬ mem 47 ((sn : Int).toNat) = -1 from zc15)]
                  show ((rdA (mem 18) (mem (43 + sn)) (mem 48 sn) (mem 19) 8).2.1 : Int) = _
                  rw [zend]
                have znx : nx_read mem (sn : Int) = rset mem 19 am := by
                  unfold nx_read
                  rw [if_pos (by omega), if_neg (show ¬ mem 47 ((sn : Int).toNat) = -1 from zc15)]
                  show rset mem 19 (rdA (mem 18) (mem (43 + sn)) (mem 48 sn) (mem 19) 8).2.2 = _
                  rw [zend]
                exact e_iret (pc := 118) dX7_read_118 rfl (by rw [← hQ_]; exact ⟨by rw [zan], znx.symm⟩)
              · skip
                refine e_aloadn (pc := 40) dX7_read_40 rfl rfl ?_
                refine e_getr (pc := 41) (k := 16) dX7_read_41 fX7_28 s_0 rfl (by decide) ?_
                refine e_getr (pc := 44) (k := 18) dX7_read_44 fX7_82 s_16 rfl (by decide) ?_
                refine e_iloadn (pc := 47) dX7_read_47 rfl rfl ?_
                refine e_ialdv (pc := 48) (v := mem 18 k) dX7_read_48 s_18 (by omega) rfl ?_
                refine e_if_eq (pc := 49) (tgt := 55) dX7_read_49 rfl (fun h49 => ?_) (fun h49 => ?_)
                · skip
                  refine e_iloadn (pc := 55) dX7_read_55 rfl rfl ?_
                  refine e_aloadn (pc := 56) dX7_read_56 rfl rfl ?_
                  refine e_getr (pc := 57) (k := 41) dX7_read_57 fX7_63 s_0 rfl (by decide) ?_
                  refine e_getr (pc := 60) (k := 48) dX7_read_60 fX7_105 s_41 rfl (by decide) ?_
                  refine e_iloadn (pc := 63) dX7_read_63 rfl rfl ?_
                  refine e_ialdv (pc := 64) (v := mem 48 sn) dX7_read_64 s_48 (by omega) rfl ?_
                  refine e_icmp_ge (pc := 65) (tgt := 117) dX7_read_65 rfl (fun h65 => ?_) (fun h65 => ?_)
                  · skip
                    refine e_iloadn (pc := 117) dX7_read_117 rfl rfl ?_
                    obtain ⟨zb, zend⟩ : ∃ zb : Bool, rdA (mem 18) (mem (43 + sn)) (mem 48 sn) (mem 19) 8 = (zb, n, am) := by
                      first | (have q := rdA_stop zr h49 (Or.inl h65) (7 - k); rw [show k + 1 + (7 - k) = 8 by omega] at q; exact ⟨_, q⟩) | (have q := rdA_stop zr h49 (Or.inr zmy) (7 - k); rw [show k + 1 + (7 - k) = 8 by omega] at q; exact ⟨_, q⟩) | (rw [show k = 8 by omega] at zr; exact ⟨_, zr⟩)
                    have zan : an_read mem (sn : Int) = (n : Int) := by
                      unfold an_read
                      rw [if_pos (by omega), if_neg (show ¬ mem 47 ((sn : Int).toNat) = -1 from zc15)]
                      show ((rdA (mem 18) (mem (43 + sn)) (mem 48 sn) (mem 19) 8).2.1 : Int) = _
                      rw [zend]
                    have znx : nx_read mem (sn : Int) = rset mem 19 am := by
                      unfold nx_read
                      rw [if_pos (by omega), if_neg (show ¬ mem 47 ((sn : Int).toNat) = -1 from zc15)]
                      show rset mem 19 (rdA (mem 18) (mem (43 + sn)) (mem 48 sn) (mem 19) 8).2.2 = _
                      rw [zend]
                    exact e_iret (pc := 118) dX7_read_118 rfl (by rw [← hQ_]; exact ⟨by rw [zan], znx.symm⟩)
                  · skip
                    refine e_aloadn (pc := 68) dX7_read_68 rfl rfl ?_
                    refine e_getr (pc := 69) (k := 41) dX7_read_69 fX7_63 s_0 rfl (by decide) ?_
                    refine e_getr (pc := 72) (k := 42) dX7_read_72 fX7_108 s_41 rfl (by decide) ?_
                    refine e_iloadn (pc := 75) dX7_read_75 rfl rfl ?_
                    refine e_aald (pc := 76) dX7_read_76 s_42 (by omega) ?_
                    refine Ev.to (st' := [(2, ((43 + sn : Nat) : Int))]) ?_ rfl rfl rfl
                    refine e_iloadn (pc := 77) dX7_read_77 rfl rfl ?_
                    refine e_ialdv (pc := 78) (c := (43 + sn)) (v := (mem (43 + sn) n)) dX7_read_78 (shI hs) (by have q1 := hS sn hs; omega) (by show (rset mem 19 am) (43 + sn) n = _; rw [rset_ne _ _ _ (by omega)]) ?_
                    refine e_callSr (pc := 79) (as := [(0, (mem (43 + sn) n))]) (st := []) (v := (0, if 0 ≤ mem (43 + sn) n ∧ mem (43 + sn) n ≤ 60 then 1 else 0)) (t_mayAim G (rset mem 19 am) (mem (43 + sn) n)) dX7_read_79 lX7_read_92 rfl rfl rfl ?_
                    by_cases zmy : 0 ≤ mem (43 + sn) n ∧ mem (43 + sn) n ≤ 60
                    · rw [if_pos zmy]
                      refine e_if_ne (pc := 82) (tgt := 88) dX7_read_82 rfl (fun h82 => ?_) (fun h82 => ?_)
                      · skip
                        refine e_aloadn (pc := 88) dX7_read_88 rfl rfl ?_
                        refine e_getr (pc := 89) (k := 16) dX7_read_89 fX7_28 s_0 rfl (by decide) ?_
                        refine e_getr (pc := 92) (k := 19) dX7_read_92 fX7_85 s_16 rfl (by decide) ?_
                        refine e_iloadn (pc := 95) dX7_read_95 rfl rfl ?_
                        refine e_aloadn (pc := 96) dX7_read_96 rfl rfl ?_
                        refine e_getr (pc := 97) (k := 41) dX7_read_97 fX7_63 s_0 rfl (by decide) ?_
                        refine e_getr (pc := 100) (k := 42) dX7_read_100 fX7_108 s_41 rfl (by decide) ?_
                        refine e_iloadn (pc := 103) dX7_read_103 rfl rfl ?_
                        refine e_aald (pc := 104) dX7_read_104 s_42 (by omega) ?_
                        refine Ev.to (st' := [(2, ((43 + sn : Nat) : Int)), (0, (k : Int)), (2, 19)]) ?_ rfl rfl rfl
                        refine e_iloadn (pc := 105) dX7_read_105 rfl rfl ?_
                        refine e_ialdv (pc := 106) (c := (43 + sn)) (v := (mem (43 + sn) n)) dX7_read_106 (shI hs) (by have q1 := hS sn hs; omega) (by show (rset mem 19 am) (43 + sn) n = _; rw [rset_ne _ _ _ (by omega)]) ?_
                        refine e_iastm (pc := 107) (mem2 := mset (rset mem 19 am) 19 k (mem (43 + sn) n)) dX7_read_107 s_19 (by omega) rfl ?_
                        refine e_iinc (pc := 108) (lo' := [(2, 0), (0, (sn : Int)), (0, (n : Int) + 1), (0, (k : Int))]) dX7_read_108 rfl (by omega) rfl (by decide) rfl ?_
                        refine e_iinc (pc := 111) (lo' := [(2, 0), (0, (sn : Int)), (0, (n : Int) + 1), (0, (k : Int) + 1)]) dX7_read_111 rfl (by omega) rfl (by decide) rfl ?_
                        refine e_goto (pc := 114) (tgt := 34) dX7_read_114 rfl ?_
                        exact Ev.to (ih34 _ (by omega) (k + 1) (n + 1) (uset am k (mem (43 + sn) n)) (rfl) (by omega) (by omega) (rdA_go zr h49 h65 zmy)) rfl rfl (mset_rset _ _ _ _ _)
                      · skip
                        exact absurd h82 (by decide)
                    · rw [if_neg zmy]
                      refine e_if_ne (pc := 82) (tgt := 88) dX7_read_82 rfl (fun h82 => ?_) (fun h82 => ?_)
                      · skip
                        exact absurd h82 (by decide)
                      · skip
                        refine e_goto (pc := 85) (tgt := 117) dX7_read_85 rfl ?_
                        refine e_iloadn (pc := 117) dX7_read_117 rfl rfl ?_
                        obtain ⟨zb, zend⟩ : ∃ zb : Bool, rdA (mem 18) (mem (43 + sn)) (mem 48 sn) (mem 19) 8 = (zb, n, am) := by
                          first | (have q := rdA_stop zr h49 (Or.inl h65) (7 - k); rw [show k + 1 + (7 - k) = 8 by omega] at q; exact ⟨_, q⟩) | (have q := rdA_stop zr h49 (Or.inr zmy) (7 - k); rw [show k + 1 + (7 - k) = 8 by omega] at q; exact ⟨_, q⟩) | (rw [show k = 8 by omega] at zr; exact ⟨_, zr⟩)
                        have zan : an_read mem (sn : Int) = (n : Int) := by
                          unfold an_read
                          rw [if_pos (by omega), if_neg (show ¬ mem 47 ((sn : Int).toNat) = -1 from zc15)]
                          show ((rdA (mem 18) (mem (43 + sn)) (mem 48 sn) (mem 19) 8).2.1 : Int) = _
                          rw [zend]
                        have znx : nx_read mem (sn : Int) = rset mem 19 am := by
                          unfold nx_read
                          rw [if_pos (by omega), if_neg (show ¬ mem 47 ((sn : Int).toNat) = -1 from zc15)]
                          show rset mem 19 (rdA (mem 18) (mem (43 + sn)) (mem 48 sn) (mem 19) 8).2.2 = _
                          rw [zend]
                        exact e_iret (pc := 118) dX7_read_118 rfl (by rw [← hQ_]; exact ⟨by rw [zan], znx.symm⟩)
                · skip
                  refine e_goto (pc := 52) (tgt := 111) dX7_read_52 rfl ?_
                  refine e_iinc (pc := 111) (lo' := [(2, 0), (0, (sn : Int)), (0, (n : Int)), (0, (k : Int) + 1)]) dX7_read_111 rfl (by omega) rfl (by decide) rfl ?_
                  refine e_goto (pc := 114) (tgt := 34) dX7_read_114 rfl ?_
                  exact Ev.to (ih34 _ (by omega) (k + 1) n am (rfl) (by omega) (by omega) (rdA_skip zr h49)) rfl rfl rfl
          exact Ev.to (L34 _ 0 0 (mem 19) (rfl) (by omega) (by omega) (rfl)) rfl rfl (by rw [rset_self])
        · skip
          exact absurd h18 (by decide)
    · skip
      exact absurd h4 (by decide)
  · rw [if_neg zc1]
    refine e_if_ne (pc := 4) (tgt := 10) dX7_read_4 rfl (fun h4 => ?_) (fun h4 => ?_)
    · skip
      exact absurd h4 (by decide)
    · skip
      refine e_bipush (pc := 7) dX7_read_7 rfl (by decide) ?_
      have zan : an_read mem s = -2 := by
        unfold an_read; (try simp only [Int.toNat_natCast]); (repeat (first | rw [if_pos (by omega)] | rw [if_neg (by omega)])) <;> rfl
      have znx : nx_read mem s = mem := by
        unfold nx_read; (try simp only [Int.toNat_natCast]); (repeat (first | rw [if_pos (by omega)] | rw [if_neg (by omega)])) <;> rfl
      exact e_iret (pc := 9) dX7_read_9 rfl (by rw [← hQ_]; exact ⟨by rw [zan], znx.symm⟩)
