-- THE MODEL'S SIDE: what its rows have to do with the class's
def scZ (c j : Nat) : Bool := decide (49 ≤ c)
def MPc (A zm : Mem) : Prop := zm 49 0 = A 1 0 ∧ ∀ c, c < 8 → A 18 c ≠ -1 → (zm 50 c = A 18 c ∧ (A 18 c = 0 → zm 51 c = A 19 c) ∧ (A 18 c = 2 → zm 51 c = A 2 c ∧ zm 52 c = A 3 c)) ∧ zm 53 c = A 5 c ∧ zm 54 c = A 6 c ∧ zm 55 c = A 7 c ∧ zm 56 c = A 8 c ∧ zm 57 c = A 9 c
def MPt (A zm : Mem) : Prop := zm 49 9 = A 17 0 ∧ zm 49 10 = A 17 1 ∧ zm 49 11 = A 17 2
def MPx (A zm : Mem) : Prop := zm 49 12 = A 10 0 ∧ ∀ j, j < 40 → zm 58 j = A 11 j
def MPs (A zm : Mem) : Prop := zm 49 49 = A 41 3 ∧ ∀ s, s < 4 → zm 73 s = (if A 47 s = -1 then 0 else 1) ∧ (A 47 s ≠ -1 → zm 74 s = A 47 s ∧ zm 75 s = A 48 s) ∧ ∀ i, i < 64 → zm 76 (64 * s + i) = A (43 + s) i
/-- the conditions read so far: what the closed alternatives ask, what the open one asks -/
def csP (le nu be : Nat → Int) (told : Int) (wh : Nat → Int) (t : Int) : Nat → Prop × Prop
  | 0 => (False, True)
  | k + 1 => if be k = 1 then ((csP le nu be told wh t k).1 ∨ (0 < k ∧ (csP le nu be told wh t k).2), hold told wh t (le k) (nu k)) else ((csP le nu be told wh t k).1, (csP le nu be told wh t k).2 ∧ hold told wh t (le k) (nu k))
/-- one condition's letter and number -/
def cdOk (b v : Int) : Prop := (b = 109 ∧ 0 ≤ v ∧ v ≤ 59) ∨ (b = 110 ∧ 1 ≤ v ∧ v ≤ 8) ∨ (b = 107 ∧ 0 ≤ v ∧ v ≤ 7) ∨ (b = 116 ∧ v = 0)
def Prsd (tx : Nat → Int) (L : Nat) (zm : Mem) : Prop := zm 49 16 = prsF tx L 41 0 ∧ (prsF tx L 41 0 = -1 → ∃ K : Nat, zm 49 17 = (K : Int) ∧ 1 ≤ K ∧ K ≤ 40 ∧ zm 61 0 = 1 ∧ (∀ k, k < K → (zm 61 k = 0 ∨ zm 61 k = 1) ∧ cdOk (zm 59 k) (zm 60 k)) ∧ ∀ told wh t, 0 ≤ t → (SPx tx L told wh t ↔ (csP (zm 59) (zm 60) (zm 61) told wh t K).1 ∨ (csP (zm 59) (zm 60) (zm 61) told wh t K).2))
def MD (A zm : Mem) : Prop := (zm 49 14 = 0 ∨ zm 49 14 = 1) ∧ (zm 49 14 = 1 → Prsd (A 11) (A 10 0).toNat zm)
def MI (A zm : Mem) : Prop := MPc A zm ∧ MPt A zm ∧ MPx A zm ∧ MPs A zm ∧ MD A zm
/-- what the model only reckons with -/
def scV (c j : Nat) : Bool := (decide (62 ≤ c) && decide (c ≤ 72)) || c == 77 || (c == 49 && (decide (22 ≤ j) && decide (j ≤ 42)))
theorem MI.v {A zm zn : Mem} (zf : Fr scV zm zn) (h : MI A zm) : MI A zn := by
  have r : ∀ c, 50 ≤ c → c ≤ 61 → zn c = zm c := fun c h1 h2 => funext (fun j => zf c j (by unfold scV; simp; omega))
  have r2 : ∀ c, 73 ≤ c → c ≤ 76 → zn c = zm c := fun c h1 h2 => funext (fun j => zf c j (by unfold scV; simp; omega))
  have r3 : ∀ j, (j < 22 ∨ 42 < j) → zn 49 j = zm 49 j := fun j h1 => zf 49 j (by unfold scV; simp; omega)
  obtain ⟨h1, h2, h3, h4, h5⟩ := h
  refine ⟨?_, ?_, ?_, ?_, ?_⟩
  · unfold MPc; rw [r3 0 (by omega), r 50 (by omega) (by omega), r 51 (by omega) (by omega), r 52 (by omega) (by omega), r 53 (by omega) (by omega), r 54 (by omega) (by omega), r 55 (by omega) (by omega), r 56 (by omega) (by omega), r 57 (by omega) (by omega)]; exact h1
  · unfold MPt; rw [r3 9 (by omega), r3 10 (by omega), r3 11 (by omega)]; exact h2
  · unfold MPx; rw [r3 12 (by omega), r 58 (by omega) (by omega)]; exact h3
  · unfold MPs; rw [r3 49 (by omega), r2 73 (by omega) (by omega), r2 74 (by omega) (by omega), r2 75 (by omega) (by omega), r2 76 (by omega) (by omega)]; exact h4
  · unfold MD Prsd; rw [r3 14 (by omega), r3 16 (by omega), r3 17 (by omega), r 59 (by omega) (by omega), r 60 (by omega) (by omega), r 61 (by omega) (by omega)]; exact h5
/-- only the model's own rows count -/
theorem MI.own {A zm zn : Mem} (e : ∀ c, 49 ≤ c → zn c = zm c) (h : MI A zm) : MI A zn := by
  obtain ⟨h1, h2, h3, h4, h5⟩ := h
  refine ⟨?_, ?_, ?_, ?_, ?_⟩
  · unfold MPc; rw [e 49 (by omega), e 50 (by omega), e 51 (by omega), e 52 (by omega), e 53 (by omega), e 54 (by omega), e 55 (by omega), e 56 (by omega), e 57 (by omega)]; exact h1
  · unfold MPt; rw [e 49 (by omega)]; exact h2
  · unfold MPx; rw [e 49 (by omega), e 58 (by omega)]; exact h3
  · unfold MPs; rw [e 49 (by omega), e 73 (by omega), e 74 (by omega), e 75 (by omega), e 76 (by omega)]; exact h4
  · unfold MD Prsd; rw [e 49 (by omega), e 59 (by omega), e 60 (by omega), e 61 (by omega)]; exact h5
/-- of the class's rows those that are its state -/
theorem MI.st {A B zm : Mem} (e : ∀ c, c < 49 → (c < 20 ∨ 39 < c) → c ≠ 16 → B c = A c) (h : MI A zm) : MI B zm := by
  obtain ⟨h1, h2, h3, h4, h5⟩ := h
  refine ⟨?_, ?_, ?_, ?_, ?_⟩
  · unfold MPc; rw [e 1 (by omega) (by omega) (by omega), e 2 (by omega) (by omega) (by omega), e 3 (by omega) (by omega) (by omega), e 5 (by omega) (by omega) (by omega), e 6 (by omega) (by omega) (by omega), e 7 (by omega) (by omega) (by omega), e 8 (by omega) (by omega) (by omega), e 9 (by omega) (by omega) (by omega), e 18 (by omega) (by omega) (by omega), e 19 (by omega) (by omega) (by omega)]; exact h1
  · unfold MPt; rw [e 17 (by omega) (by omega) (by omega)]; exact h2
  · unfold MPx; rw [e 10 (by omega) (by omega) (by omega), e 11 (by omega) (by omega) (by omega)]; exact h3
  · unfold MPs
    rw [e 41 (by omega) (by omega) (by omega), e 47 (by omega) (by omega) (by omega), e 48 (by omega) (by omega) (by omega)]
    refine ⟨h4.1, fun s hs => ?_⟩
    rw [e (43 + s) (by omega) (by omega) (by omega)]
    exact h4.2 s hs
  · unfold MD; rw [e 10 (by omega) (by omega) (by omega), e 11 (by omega) (by omega) (by omega)]; exact h5
/-- who is a comer -/
theorem CI.cm {A : Mem} (h : CI A) {n : Nat} (hn : A 1 0 = (n : Int)) {c : Nat} (hc : c < 8) : A 18 c ≠ -1 ↔ c < n := by
  obtain ⟨n', h1, h2, h3⟩ := h.2.2.2.2.1
  have := (h3 c hc).1
  rw [show n = n' by omega]
  omega

theorem m_in (G : Gm) (mem : Mem) (v a b : Int) : Con G mX8_in [(0, v), (0, a), (0, b)] mem (fun r m' => r = some (0, if a ≤ v ∧ v ≤ b then 1 else 0) ∧ m' = mem) := by
  refine Con.of (lo := [(0, v), (0, a), (0, b)]) (by decide +kernel) (Nat.le_of_ble_eq_true rfl) rfl ?_
  generalize hQ_ : (fun r m' => r = some (0, if a ≤ v ∧ v ≤ b then 1 else 0) ∧ m' = mem : Option AV → Mem → Prop) = Q_
  refine e_iloadn (pc := 0) dX8_in_0 rfl rfl ?_
  refine e_iloadn (pc := 1) dX8_in_1 rfl rfl ?_
  refine e_icmp_lt (pc := 2) (tgt := 14) dX8_in_2 rfl (fun h2 => ?_) (fun h2 => ?_)
  · skip
    refine e_iconst (pc := 14) dX8_in_14 (by decide) ?_
    exact e_zret (pc := 15) dX8_in_15 rfl (by decide) (by rw [← hQ_]; exact ⟨by rw [if_neg (by omega)], rfl⟩)
  · skip
    refine e_iloadn (pc := 5) dX8_in_5 rfl rfl ?_
    refine e_iloadn (pc := 6) dX8_in_6 rfl rfl ?_
    refine e_icmp_gt (pc := 7) (tgt := 14) dX8_in_7 rfl (fun h7 => ?_) (fun h7 => ?_)
    · skip
      refine e_iconst (pc := 14) dX8_in_14 (by decide) ?_
      exact e_zret (pc := 15) dX8_in_15 rfl (by decide) (by rw [← hQ_]; exact ⟨by rw [if_neg (by omega)], rfl⟩)
    · skip
      refine e_iconst (pc := 10) dX8_in_10 (by decide) ?_
      refine e_goto (pc := 11) (tgt := 15) dX8_in_11 rfl ?_
      exact e_zret (pc := 15) dX8_in_15 rfl (by decide) (by rw [← hQ_]; exact ⟨by rw [if_pos (by omega)], rfl⟩)

theorem m_isComer (G : Gm) (mem : Mem) (c : Int) (n : Nat) (hn : mem 49 0 = (n : Int)) (hn8 : n ≤ 8) : Con G mX8_isComer [(2, 49), (0, c)] mem (fun r m' => r = some (0, if 0 ≤ c ∧ c < (n : Int) then 1 else 0) ∧ m' = mem) := by
  refine Con.of (lo := [(2, 49), (0, c)]) (by decide +kernel) (Nat.le_of_ble_eq_true rfl) rfl ?_
  generalize hQ_ : (fun r m' => r = some (0, if 0 ≤ c ∧ c < (n : Int) then 1 else 0) ∧ m' = mem : Option AV → Mem → Prop) = Q_
  refine e_iloadn (pc := 0) dX8_isComer_0 rfl rfl ?_
  refine e_iconst (pc := 1) dX8_isComer_1 (by decide) ?_
  refine e_aloadn (pc := 2) dX8_isComer_2 rfl rfl ?_
  refine e_getiv (pc := 3) (v := (n : Int)) dX8_isComer_3 fX8_99 s_49 rfl (by decide) (hn) ?_
  refine e_iconst (pc := 6) dX8_isComer_6 (by decide) ?_
  refine e_isubn (pc := 7) dX8_isComer_7 (by omega) ?_
  refine e_callSr (pc := 8) (as := [(0, c), (0, 0), (0, (n : Int) - 1)]) (st := []) (m_in G mem c 0 ((n : Int) - 1)) dX8_isComer_8 lX8_isComer_95 rfl rfl rfl ?_
  have zan : (if 0 ≤ c ∧ c < (n : Int) then (1 : Int) else 0) = (if 0 ≤ c ∧ c ≤ (n : Int) - 1 then 1 else 0) := by
    by_cases q : 0 ≤ c ∧ c < (n : Int)
    · rw [if_pos q, if_pos (by omega)]
    · rw [if_neg q, if_neg (by omega)]
  exact e_zret (pc := 11) dX8_isComer_11 rfl (by split <;> decide) (by rw [← hQ_]; exact ⟨by rw [zan], rfl⟩)

theorem m_isComerI (G : Gm) (A mem : Mem) (c : Int) (hI : CI A) (hM : MI A mem) : Con G mX8_isComer [(2, 49), (0, c)] mem (fun r m' => r = some (0, if 0 ≤ c ∧ c < 8 ∧ A 18 c.toNat ≠ -1 then 1 else 0) ∧ m' = mem) := by
  obtain ⟨n, h1, h2, h3⟩ := hI.2.2.2.2.1
  refine (m_isComer G mem c n (hM.1.1.trans h1) h2).mono (fun r m' h => ?_)
  refine ⟨?_, h.2⟩
  rw [h.1]
  by_cases q : 0 ≤ c ∧ c < (n : Int)
  · rw [if_pos q, if_pos ⟨q.1, by omega, (hI.cm h1 (by omega)).mpr (by omega)⟩]
  · rw [if_neg q, if_neg (fun z => q ⟨z.1, by have := (hI.cm h1 (by omega)).mp z.2.2; omega⟩)]

theorem m_isPlain (G : Gm) (A mem : Mem) (c : Int) (hI : CI A) (hM : MI A mem) : Con G mX8_isPlain [(2, 49), (0, c)] mem (fun r m' => r = some (0, if 0 ≤ c ∧ c < 8 ∧ A 18 c.toNat = 0 then 1 else 0) ∧ m' = mem) := by
  refine Con.of (lo := [(2, 49), (0, c)]) (by decide +kernel) (Nat.le_of_ble_eq_true rfl) rfl ?_
  generalize hQ_ : (fun r m' => r = some (0, if 0 ≤ c ∧ c < 8 ∧ A 18 c.toNat = 0 then 1 else 0) ∧ m' = mem : Option AV → Mem → Prop) = Q_
  refine e_aloadn (pc := 0) dX8_isPlain_0 rfl rfl ?_
  refine e_iloadn (pc := 1) dX8_isPlain_1 rfl rfl ?_
  refine e_callVr (pc := 2) (as := [(0, c)]) (st := []) (v := (0, if 0 ≤ c ∧ c < 8 ∧ A 18 c.toNat ≠ -1 then 1 else 0)) (m_isComerI G A mem c hI hM) dX8_isPlain_2 lX8_isPlain_103 rfl s_49 cn_8 rfl rfl ?_
  by_cases zc : 0 ≤ c ∧ c < 8 ∧ A 18 c.toNat ≠ -1
  · rw [if_pos zc]
    obtain ⟨cn, rfl⟩ : ∃ cn : Nat, c = (cn : Int) := ⟨c.toNat, by omega⟩
    have zcn : cn < 8 := by omega
    have zck : A 18 cn ≠ -1 := zc.2.2
    have zrd := (hM.1.2 cn zcn zck).1.1
    refine e_if_eq (pc := 5) (tgt := 21) dX8_isPlain_5 rfl (fun h5 => ?_) (fun h5 => ?_)
    · skip
      exact absurd h5 (by decide)
    · skip
      refine e_aloadn (pc := 8) dX8_isPlain_8 rfl rfl ?_
      refine e_getr (pc := 9) (k := 50) dX8_isPlain_9 fX8_7 s_49 rfl (by decide) ?_
      refine e_iloadn (pc := 12) dX8_isPlain_12 rfl rfl ?_
      refine e_ialdv (pc := 13) (v := (A 18 cn)) dX8_isPlain_13 s_50 (by omega) (zrd) ?_
      refine e_if_ne (pc := 14) (tgt := 21) dX8_isPlain_14 rfl (fun h14 => ?_) (fun h14 => ?_)
      · skip
        refine e_iconst (pc := 21) dX8_isPlain_21 (by decide) ?_
        exact e_zret (pc := 22) dX8_isPlain_22 rfl (by decide) (by rw [← hQ_]; exact ⟨by rw [if_neg (fun q => h14 q.2.2)], rfl⟩)
      · skip
        refine e_iconst (pc := 17) dX8_isPlain_17 (by decide) ?_
        refine e_goto (pc := 18) (tgt := 22) dX8_isPlain_18 rfl ?_
        exact e_zret (pc := 22) dX8_isPlain_22 rfl (by decide) (by rw [← hQ_]; exact ⟨by rw [if_pos (show 0 ≤ (cn : Int) ∧ (cn : Int) < 8 ∧ A 18 (cn : Int).toNat = 0 from ⟨by omega, by omega, h14⟩)], rfl⟩)
  · rw [if_neg zc]
    refine e_if_eq (pc := 5) (tgt := 21) dX8_isPlain_5 rfl (fun h5 => ?_) (fun h5 => ?_)
    · skip
      refine e_iconst (pc := 21) dX8_isPlain_21 (by decide) ?_
      exact e_zret (pc := 22) dX8_isPlain_22 rfl (by decide) (by rw [← hQ_]; exact ⟨by rw [if_neg (fun q => zc ⟨q.1, q.2.1, by rw [q.2.2]; decide⟩)], rfl⟩)
    · skip
      exact absurd h5 (by decide)

theorem m_ones (G : Gm) (mem : Mem) (b : Nat) (hb : b < 256) : Con G mX8_ones [(0, (b : Int))] mem (fun r m' => r = some (0, ((cnt (fun j => b.testBit j) 8 : Nat) : Int)) ∧ m' = mem) := by
  refine Con.of (lo := [(0, (b : Int)), (3, 0), (3, 0)]) (by decide +kernel) (Nat.le_of_ble_eq_true rfl) rfl ?_
  generalize hQ_ : (fun r m' => r = some (0, ((cnt (fun j => b.testBit j) 8 : Nat) : Int)) ∧ m' = mem : Option AV → Mem → Prop) = Q_
  refine e_iconst (pc := 0) dX8_ones_0 (by decide) ?_
  refine e_istoren (pc := 1) (lo' := [(0, (b : Int)), (0, 0), (3, 0)]) dX8_ones_1 rfl rfl (by decide) rfl ?_
  refine e_iconst (pc := 2) dX8_ones_2 (by decide) ?_
  refine e_istoren (pc := 3) (lo' := [(0, (b : Int)), (0, 0), (0, 0)]) dX8_ones_3 rfl rfl (by decide) rfl ?_
  have L4 : ∀ (n_ : Nat) (k : Nat), 8 - k = n_ → (k ≤ 8) → Ev G mX8_ones Q_ 4 [(0, (b : Int)), (0, ((cnt (fun j => b.testBit j) k : Nat) : Int)), (0, (k : Int))] [] mem := by
    intro n_
    induction n_ using Nat.strongRecOn with
    | ind n_ ih4 =>
      intro k hn_ zk
      have zcl := cnt_le (fun j => b.testBit j) k
      have zbt := bt_01 (b : Int) k
      refine e_iloadn (pc := 4) dX8_ones_4 rfl rfl ?_
      refine e_bipush (pc := 5) dX8_ones_5 rfl (by decide) ?_
      refine e_icmp_ge (pc := 7) (tgt := 24) dX8_ones_7 rfl (fun h7 => ?_) (fun h7 => ?_)
      · skip
        refine e_iloadn (pc := 24) dX8_ones_24 rfl rfl ?_
        have zke : k = 8 := by omega
        subst zke
        exact e_iret (pc := 25) dX8_ones_25 rfl (by rw [← hQ_]; exact ⟨rfl, rfl⟩)
      · skip
        refine e_iloadn (pc := 10) dX8_ones_10 rfl rfl ?_
        refine e_iloadn (pc := 11) dX8_ones_11 rfl rfl ?_
        refine e_iloadn (pc := 12) dX8_ones_12 rfl rfl ?_
        refine e_ishr (pc := 13) dX8_ones_13 ?_
        refine e_iconst (pc := 14) dX8_ones_14 (by decide) ?_
        refine e_iand (pc := 15) dX8_ones_15 ?_
        rw [show bAnd (bShr (b : Int) (k : Int)) 1 = bt (b : Int) k from bt_eq (by omega) (by omega) (by omega)]
        refine e_iaddn (pc := 16) dX8_ones_16 (by omega) ?_
        refine e_istoren (pc := 17) (lo' := [(0, (b : Int)), (0, ((cnt (fun j => b.testBit j) k : Nat) : Int) + (bt (b : Int) k)), (0, (k : Int))]) dX8_ones_17 rfl rfl (by decide) rfl ?_
        refine e_iinc (pc := 18) (lo' := [(0, (b : Int)), (0, ((cnt (fun j => b.testBit j) k : Nat) : Int) + (bt (b : Int) k)), (0, (k : Int) + 1)]) dX8_ones_18 rfl (by omega) rfl (by decide) rfl ?_
        refine e_goto (pc := 21) (tgt := 4) dX8_ones_21 rfl ?_
        have zcs : ((cnt (fun j => b.testBit j) (k + 1) : Nat) : Int) = ((cnt (fun j => b.testBit j) k : Nat) : Int) + bt (b : Int) k := by
          rw [cnt_s]; unfold bt
          show _ = _ + (if b.testBit k = true then (1 : Int) else 0)
          split <;> rfl
        exact Ev.to (ih4 _ (by omega) (k + 1) (rfl) (by omega)) (by rw [zcs]; rfl) rfl rfl
  exact Ev.to (L4 _ 0 (rfl) (by omega)) rfl rfl rfl

theorem m_amount (G : Gm) (mem : Mem) (x : Int) (hx : -60 ≤ x ∧ x ≤ 60) : Con G mX8_amount [(0, x)] mem (fun r m' => r = some (0, amV x) ∧ m' = mem) := by
  refine Con.of (lo := [(0, x)]) (by decide +kernel) (Nat.le_of_ble_eq_true rfl) rfl ?_
  generalize hQ_ : (fun r m' => r = some (0, amV x) ∧ m' = mem : Option AV → Mem → Prop) = Q_
  refine e_iloadn (pc := 0) dX8_amount_0 rfl rfl ?_
  refine e_if_ge (pc := 1) (tgt := 9) dX8_amount_1 rfl (fun h1 => ?_) (fun h1 => ?_)
  · skip
    refine e_iloadn (pc := 9) dX8_amount_9 rfl rfl ?_
    have zan : amV x = x := by unfold amV; rw [if_pos (by omega)]
    exact e_iret (pc := 10) dX8_amount_10 rfl (by rw [← hQ_]; exact ⟨by rw [zan], rfl⟩)
  · skip
    refine e_iloadn (pc := 4) dX8_amount_4 rfl rfl ?_
    refine e_ineg (pc := 5) dX8_amount_5 ?_
    rw [show w32 (-x) = -x from w32_id (by constructor <;> omega)]
    refine e_goto (pc := 6) (tgt := 10) dX8_amount_6 rfl ?_
    have zan : amV x = -x := by unfold amV; rw [if_neg (by omega)]
    exact e_iret (pc := 10) dX8_amount_10 rfl (by rw [← hQ_]; exact ⟨by rw [zan], rfl⟩)

theorem m_looks (G : Gm) (A mem : Mem) (c : Nat) (aw : Int) (hc : c < 8) (hk : A 18 c ≠ -1) (hM : MI A mem) (ha : mem 49 26 = aw) (hw : 0 ≤ aw ∧ aw < 256) : Con G mX8_looks [(2, 49), (0, (c : Int))] mem (fun r m' => r = some (0, if A 18 c = 2 ∧ bt aw c = 0 then 1 else 0) ∧ m' = mem) := by
  refine Con.of (lo := [(2, 49), (0, (c : Int))]) (by decide +kernel) (Nat.le_of_ble_eq_true rfl) rfl ?_
  generalize hQ_ : (fun r m' => r = some (0, if A 18 c = 2 ∧ bt aw c = 0 then 1 else 0) ∧ m' = mem : Option AV → Mem → Prop) = Q_
  refine e_aloadn (pc := 0) dX8_looks_0 rfl rfl ?_
  refine e_getr (pc := 1) (k := 50) dX8_looks_1 fX8_7 s_49 rfl (by decide) ?_
  refine e_iloadn (pc := 4) dX8_looks_4 rfl rfl ?_
  refine e_ialdv (pc := 5) (v := (A 18 c)) dX8_looks_5 s_50 (by omega) ((hM.1.2 c hc hk).1.1) ?_
  refine e_iconst (pc := 6) dX8_looks_6 (by decide) ?_
  refine e_icmp_ne (pc := 7) (tgt := 25) dX8_looks_7 rfl (fun h7 => ?_) (fun h7 => ?_)
  · skip
    refine e_iconst (pc := 25) dX8_looks_25 (by decide) ?_
    exact e_zret (pc := 26) dX8_looks_26 rfl (by decide) (by rw [← hQ_]; exact ⟨by rw [if_neg (fun q => by omega)], rfl⟩)
  · skip
    refine e_aloadn (pc := 10) dX8_looks_10 rfl rfl ?_
    refine e_getiv (pc := 11) (v := aw) dX8_looks_11 fX8_169 s_49 rfl (by decide) (ha) ?_
    refine e_iloadn (pc := 14) dX8_looks_14 rfl rfl ?_
    refine e_ishr (pc := 15) dX8_looks_15 ?_
    refine e_iconst (pc := 16) dX8_looks_16 (by decide) ?_
    refine e_iand (pc := 17) dX8_looks_17 ?_
    rw [show bAnd (bShr aw (c : Int)) 1 = bt aw c from bt_eq (by omega) (by omega) (by omega)]
    refine e_if_ne (pc := 18) (tgt := 25) dX8_looks_18 rfl (fun h18 => ?_) (fun h18 => ?_)
    · skip
      refine e_iconst (pc := 25) dX8_looks_25 (by decide) ?_
      exact e_zret (pc := 26) dX8_looks_26 rfl (by decide) (by rw [← hQ_]; exact ⟨by rw [if_neg (fun q => by omega)], rfl⟩)
    · skip
      refine e_iconst (pc := 21) dX8_looks_21 (by decide) ?_
      refine e_goto (pc := 22) (tgt := 26) dX8_looks_22 rfl ?_
      exact e_zret (pc := 26) dX8_looks_26 rfl (by decide) (by rw [← hQ_]; exact ⟨by rw [if_pos ⟨h7, h18⟩], rfl⟩)

theorem m_meets (G : Gm) (mem : Mem) (f : Int) (hf : 0 ≤ f ∧ f ≤ 9) : Con G mX8_meets [(2, 49), (0, f)] mem (fun r m' => r = some (0, -10 - f) ∧ m' = mset mem 49 49 f) := by
  refine Con.of (lo := [(2, 49), (0, f)]) (by decide +kernel) (Nat.le_of_ble_eq_true rfl) rfl ?_
  generalize hQ_ : (fun r m' => r = some (0, -10 - f) ∧ m' = mset mem 49 49 f : Option AV → Mem → Prop) = Q_
  refine e_aloadn (pc := 0) dX8_meets_0 rfl rfl ?_
  refine e_iloadn (pc := 1) dX8_meets_1 rfl rfl ?_
  refine e_putI (pc := 2) (mem2 := mset mem 49 49 f) dX8_meets_2 fX8_285 s_49 rfl (by decide) pw_8_49 rfl ?_
  refine e_bipush (pc := 5) dX8_meets_5 rfl (by decide) ?_
  refine e_iloadn (pc := 7) dX8_meets_7 rfl rfl ?_
  refine e_isubn (pc := 8) dX8_meets_8 (by omega) ?_
  exact e_iret (pc := 9) dX8_meets_9 rfl (by rw [← hQ_]; exact ⟨rfl, rfl⟩)

theorem m_isSheet (G : Gm) (mem : Mem) (s : Int) : Con G mX8_isSheet [(0, s)] mem (fun r m' => r = some (0, if 0 ≤ s ∧ s < 4 then 1 else 0) ∧ m' = mem) := by
  refine Con.of (lo := [(0, s)]) (by decide +kernel) (Nat.le_of_ble_eq_true rfl) rfl ?_
  generalize hQ_ : (fun r m' => r = some (0, if 0 ≤ s ∧ s < 4 then 1 else 0) ∧ m' = mem : Option AV → Mem → Prop) = Q_
  refine e_iloadn (pc := 0) dX8_isSheet_0 rfl rfl ?_
  refine e_iconst (pc := 1) dX8_isSheet_1 (by decide) ?_
  refine e_iconst (pc := 2) dX8_isSheet_2 (by decide) ?_
  refine e_callSr (pc := 3) (as := [(0, s), (0, 0), (0, 3)]) (st := []) (m_in G mem s 0 3) dX8_isSheet_3 lX8_isSheet_95 rfl rfl rfl ?_
  have zan : (if 0 ≤ s ∧ s < 4 then (1 : Int) else 0) = (if 0 ≤ s ∧ s ≤ 3 then 1 else 0) := by
    by_cases q : 0 ≤ s ∧ s < 4
    · rw [if_pos q, if_pos (by omega)]
    · rw [if_neg q, if_neg (by omega)]
  exact e_zret (pc := 6) dX8_isSheet_6 rfl (by split <;> decide) (by rw [← hQ_]; exact ⟨by rw [zan], rfl⟩)

theorem m_lacks (G : Gm) (A mem : Mem) (s : Nat) (f i : Int) (hs : s < 4) (hM : MI A mem) (hS : ShOk A) : Con G mX8_lacks [(2, 49), (0, (s : Int)), (0, f), (0, i)] mem (fun r m' => r = some (0, fnd A s f i) ∧ m' = mem) := by
  refine Con.of (lo := [(2, 49), (0, (s : Int)), (0, f), (0, i)]) (by decide +kernel) (Nat.le_of_ble_eq_true rfl) rfl ?_
  generalize hQ_ : (fun r m' => r = some (0, fnd A s f i) ∧ m' = mem : Option AV → Mem → Prop) = Q_
  refine e_aloadn (pc := 0) dX8_lacks_0 rfl rfl ?_
  refine e_getr (pc := 1) (k := 73) dX8_lacks_1 fX8_80 s_49 rfl (by decide) ?_
  refine e_iloadn (pc := 4) dX8_lacks_4 rfl rfl ?_
  refine e_zaldv (pc := 5) (v := (if A 47 s = -1 then 0 else 1)) dX8_lacks_5 s_73 (by omega) ((hM.2.2.2.1.2 s hs).1) ?_
  refine e_if_ne (pc := 6) (tgt := 13) dX8_lacks_6 rfl (fun h6 => ?_) (fun h6 => ?_)
  · skip
    have zth : A 47 s ≠ -1 := fun q => h6 (by rw [if_pos q])
    obtain ⟨zfo, zsz⟩ := (hM.2.2.2.1.2 s hs).2.1 zth
    have zsb := (hS s hs).2
    refine e_aloadn (pc := 13) dX8_lacks_13 rfl rfl ?_
    refine e_getr (pc := 14) (k := 74) dX8_lacks_14 fX8_83 s_49 rfl (by decide) ?_
    refine e_iloadn (pc := 17) dX8_lacks_17 rfl rfl ?_
    refine e_ialdv (pc := 18) (v := (A 47 s)) dX8_lacks_18 s_74 (by omega) (zfo) ?_
    refine e_iloadn (pc := 19) dX8_lacks_19 rfl rfl ?_
    refine e_icmp_eq (pc := 20) (tgt := 27) dX8_lacks_20 rfl (fun h20 => ?_) (fun h20 => ?_)
    · skip
      refine e_iloadn (pc := 27) dX8_lacks_27 rfl rfl ?_
      refine e_iconst (pc := 28) dX8_lacks_28 (by decide) ?_
      refine e_aloadn (pc := 29) dX8_lacks_29 rfl rfl ?_
      refine e_getr (pc := 30) (k := 75) dX8_lacks_30 fX8_86 s_49 rfl (by decide) ?_
      refine e_iloadn (pc := 33) dX8_lacks_33 rfl rfl ?_
      refine e_ialdv (pc := 34) (v := (A 48 s)) dX8_lacks_34 s_75 (by omega) (zsz) ?_
      refine e_iconst (pc := 35) dX8_lacks_35 (by decide) ?_
      refine e_isubn (pc := 36) dX8_lacks_36 (by omega) ?_
      refine e_callSr (pc := 37) (as := [(0, i), (0, 0), (0, (A 48 s) - 1)]) (st := []) (v := (0, if 0 ≤ i ∧ i ≤ A 48 s - 1 then 1 else 0)) (m_in G mem i 0 (A 48 s - 1)) dX8_lacks_37 lX8_lacks_95 rfl rfl rfl ?_
      by_cases zin : 0 ≤ i ∧ i ≤ A 48 s - 1
      · rw [if_pos zin]
        refine e_if_eq (pc := 40) (tgt := 47) dX8_lacks_40 rfl (fun h40 => ?_) (fun h40 => ?_)
        · skip
          exact absurd h40 (by decide)
        · skip
          refine e_iconst (pc := 43) dX8_lacks_43 (by decide) ?_
          refine e_goto (pc := 44) (tgt := 48) dX8_lacks_44 rfl ?_
          have zan : fnd A s f i = 0 := by unfold fnd; rw [if_neg zth, if_neg (by omega), if_neg (by omega)]
          exact e_iret (pc := 48) dX8_lacks_48 rfl (by rw [← hQ_]; exact ⟨by rw [zan], rfl⟩)
      · rw [if_neg zin]
        refine e_if_eq (pc := 40) (tgt := 47) dX8_lacks_40 rfl (fun h40 => ?_) (fun h40 => ?_)
        · skip
          refine e_iconst (pc := 47) dX8_lacks_47 (by decide) ?_
          have zan : fnd A s f i = 2 := by unfold fnd; rw [if_neg zth, if_neg (by omega), if_pos (by omega)]
          exact e_iret (pc := 48) dX8_lacks_48 rfl (by rw [← hQ_]; exact ⟨by rw [zan], rfl⟩)
        · skip
          exact absurd h40 (by decide)
    · skip
      refine e_iconst (pc := 23) dX8_lacks_23 (by decide) ?_
      refine e_goto (pc := 24) (tgt := 48) dX8_lacks_24 rfl ?_
      have zan : fnd A s f i = 3 := by unfold fnd; rw [if_neg zth, if_pos h20]
      exact e_iret (pc := 48) dX8_lacks_48 rfl (by rw [← hQ_]; exact ⟨by rw [zan], rfl⟩)
  · skip
    refine e_iconst (pc := 9) dX8_lacks_9 (by decide) ?_
    refine e_goto (pc := 10) (tgt := 48) dX8_lacks_10 rfl ?_
    have zth : A 47 s = -1 := Classical.byContradiction (fun q => by rw [if_neg q] at h6; omega)
    have zan : fnd A s f i = 1 := by unfold fnd; rw [if_pos zth]
    exact e_iret (pc := 48) dX8_lacks_48 rfl (by rw [← hQ_]; exact ⟨by rw [zan], rfl⟩)

theorem m_keep (G : Gm) (mem : Mem) (s i : Nat) (f v : Int) (hs : s < 4) (hi : i < 64) (hf : mem 74 s = f) : Con G mX8_keep [(2, 49), (0, (s : Int)), (0, (i : Int)), (0, v)] mem (fun r m' => r = none ∧ m' = mset mem 76 (64 * s + i) (lw5 f v)) := by
  refine Con.of (lo := [(2, 49), (0, (s : Int)), (0, (i : Int)), (0, v)]) (by decide +kernel) (Nat.le_of_ble_eq_true rfl) rfl ?_
  generalize hQ_ : (fun r m' => r = none ∧ m' = mset mem 76 (64 * s + i) (lw5 f v) : Option AV → Mem → Prop) = Q_
  refine e_aloadn (pc := 0) dX8_keep_0 rfl rfl ?_
  refine e_getr (pc := 1) (k := 76) dX8_keep_1 fX8_89 s_49 rfl (by decide) ?_
  refine e_bipush (pc := 4) dX8_keep_4 rfl (by decide) ?_
  refine e_iloadn (pc := 6) dX8_keep_6 rfl rfl ?_
  refine e_imuln (pc := 7) dX8_keep_7 (by omega) ?_
  refine e_iloadn (pc := 8) dX8_keep_8 rfl rfl ?_
  refine e_iaddn (pc := 9) dX8_keep_9 (by omega) ?_
  refine e_aloadn (pc := 10) dX8_keep_10 rfl rfl ?_
  refine e_getr (pc := 11) (k := 74) dX8_keep_11 fX8_83 s_49 rfl (by decide) ?_
  refine e_iloadn (pc := 14) dX8_keep_14 rfl rfl ?_
  refine e_ialdv (pc := 15) (v := f) dX8_keep_15 s_74 (by omega) (hf) ?_
  refine e_if_ne (pc := 16) (tgt := 24) dX8_keep_16 rfl (fun h16 => ?_) (fun h16 => ?_)
  · skip
    refine e_aloadn (pc := 24) dX8_keep_24 rfl rfl ?_
    refine e_getr (pc := 25) (k := 74) dX8_keep_25 fX8_83 s_49 rfl (by decide) ?_
    refine e_iloadn (pc := 28) dX8_keep_28 rfl rfl ?_
    refine e_ialdv (pc := 29) (v := f) dX8_keep_29 s_74 (by omega) (hf) ?_
    refine e_iconst (pc := 30) dX8_keep_30 (by decide) ?_
    refine e_icmp_ne (pc := 31) (tgt := 39) dX8_keep_31 rfl (fun h31 => ?_) (fun h31 => ?_)
    · skip
      refine e_iloadn (pc := 39) dX8_keep_39 rfl rfl ?_
      refine e_iastm (pc := 40) (mem2 := mset mem 76 (64 * s + i) (lw5 f v)) dX8_keep_40 s_76 (by omega) (by rw [show (64 * (s : Int) + (i : Int)).toNat = 64 * s + i by omega]; unfold lw5; rw [if_neg h16, if_neg h31]) ?_
      exact e_vret (pc := 41) dX8_keep_41 rfl (by rw [← hQ_]; exact ⟨rfl, rfl⟩)
    · skip
      refine e_iloadn (pc := 34) dX8_keep_34 rfl rfl ?_
      refine e_i2s (pc := 35) dX8_keep_35 ?_
      refine e_goto (pc := 36) (tgt := 40) dX8_keep_36 rfl ?_
      refine e_iastm (pc := 40) (mem2 := mset mem 76 (64 * s + i) (lw5 f v)) dX8_keep_40 s_76 (by omega) (by rw [show (64 * (s : Int) + (i : Int)).toNat = 64 * s + i by omega]; unfold lw5; rw [if_neg h16, if_pos h31]) ?_
      exact e_vret (pc := 41) dX8_keep_41 rfl (by rw [← hQ_]; exact ⟨rfl, rfl⟩)
  · skip
    refine e_iloadn (pc := 19) dX8_keep_19 rfl rfl ?_
    refine e_i2b (pc := 20) dX8_keep_20 ?_
    refine e_goto (pc := 21) (tgt := 40) dX8_keep_21 rfl ?_
    refine e_iastm (pc := 40) (mem2 := mset mem 76 (64 * s + i) (lw5 f v)) dX8_keep_40 s_76 (by omega) (by rw [show (64 * (s : Int) + (i : Int)).toNat = 64 * s + i by omega]; unfold lw5; rw [if_pos h16]) ?_
    exact e_vret (pc := 41) dX8_keep_41 rfl (by rw [← hQ_]; exact ⟨rfl, rfl⟩)

theorem m_minuteOf (G : Gm) (mem : Mem) (g : Int) (m k : Nat) (hg : 5 ≤ g ∧ g ≤ 30) (hk : k < m) (hm : m ≤ 13) : Con G mX8_minuteOf [(0, g), (0, (m : Int)), (0, (k : Int))] mem (fun r m' => r = some (0, mnF g m k) ∧ m' = mem) := by
  refine Con.of (lo := [(0, g), (0, (m : Int)), (0, (k : Int))]) (by decide +kernel) (Nat.le_of_ble_eq_true rfl) rfl ?_
  generalize hQ_ : (fun r m' => r = some (0, mnF g m k) ∧ m' = mem : Option AV → Mem → Prop) = Q_
  refine e_iloadn (pc := 0) dX8_minuteOf_0 rfl rfl ?_
  refine e_iloadn (pc := 1) dX8_minuteOf_1 rfl rfl ?_
  refine e_iconst (pc := 2) dX8_minuteOf_2 (by decide) ?_
  refine e_isubn (pc := 3) dX8_minuteOf_3 (by omega) ?_
  refine e_icmp_ne (pc := 4) (tgt := 12) dX8_minuteOf_4 rfl (fun h4 => ?_) (fun h4 => ?_)
  · skip
    refine e_iloadn (pc := 12) dX8_minuteOf_12 rfl rfl ?_
    refine e_iloadn (pc := 13) dX8_minuteOf_13 rfl rfl ?_
    refine e_imuln (pc := 14) dX8_minuteOf_14 (by have h1 : g * (k : Int) ≤ 30 * (k : Int) := Int.mul_le_mul_of_nonneg_right (by omega) (by omega); have h2 : 0 ≤ g * (k : Int) := Int.mul_nonneg (by omega) (by omega); constructor <;> omega) ?_
    have zan : mnF g m k = g * (k : Int) := by unfold mnF; rw [if_neg (by omega)]
    exact e_iret (pc := 15) dX8_minuteOf_15 rfl (by rw [← hQ_]; exact ⟨by rw [zan], rfl⟩)
  · skip
    refine e_bipush (pc := 7) dX8_minuteOf_7 rfl (by decide) ?_
    refine e_goto (pc := 9) (tgt := 15) dX8_minuteOf_9 rfl ?_
    have zan : mnF g m k = 60 := by unfold mnF; rw [if_pos (by omega)]
    exact e_iret (pc := 15) dX8_minuteOf_15 rfl (by rw [← hQ_]; exact ⟨by rw [zan], rfl⟩)

theorem m_byteNow (G : Gm) (mem : Mem) (tx : Nat → Int) (L a : Nat) (hL : mem 49 12 = (L : Int)) (hl : L ≤ 40) (ha : mem 49 15 = (a : Int)) (hx : ∀ j, j < 40 → mem 58 j = tx j) : Con G mX8_byteNow [(2, 49)] mem (fun r m' => r = some (0, hrT tx L a) ∧ m' = mem) := by
  refine Con.of (lo := [(2, 49)]) (by decide +kernel) (Nat.le_of_ble_eq_true rfl) rfl ?_
  generalize hQ_ : (fun r m' => r = some (0, hrT tx L a) ∧ m' = mem : Option AV → Mem → Prop) = Q_
  refine e_aloadn (pc := 0) dX8_byteNow_0 rfl rfl ?_
  refine e_getiv (pc := 1) (v := (a : Int)) dX8_byteNow_1 fX8_133 s_49 rfl (by decide) (ha) ?_
  refine e_aloadn (pc := 4) dX8_byteNow_4 rfl rfl ?_
  refine e_getiv (pc := 5) (v := (L : Int)) dX8_byteNow_5 fX8_126 s_49 rfl (by decide) (hL) ?_
  refine e_icmp_ge (pc := 8) (tgt := 23) dX8_byteNow_8 rfl (fun h8 => ?_) (fun h8 => ?_)
  · skip
    refine e_iconst (pc := 23) dX8_byteNow_23 (by decide) ?_
    have zan : hrT tx L a = -1 := by unfold hrT; rw [if_neg (by omega)]
    exact e_iret (pc := 24) dX8_byteNow_24 rfl (by rw [← hQ_]; exact ⟨by rw [zan], rfl⟩)
  · skip
    refine e_aloadn (pc := 11) dX8_byteNow_11 rfl rfl ?_
    refine e_getr (pc := 12) (k := 58) dX8_byteNow_12 fX8_34 s_49 rfl (by decide) ?_
    refine e_aloadn (pc := 15) dX8_byteNow_15 rfl rfl ?_
    refine e_getiv (pc := 16) (v := (a : Int)) dX8_byteNow_16 fX8_133 s_49 rfl (by decide) (ha) ?_
    refine e_ialdv (pc := 19) (v := (tx a)) dX8_byteNow_19 s_58 (by omega) (hx a (by omega)) ?_
    refine e_goto (pc := 20) (tgt := 24) dX8_byteNow_20 rfl ?_
    have zan : hrT tx L a = (tx a) := by unfold hrT; rw [if_pos (by omega)]
    exact e_iret (pc := 24) dX8_byteNow_24 rfl (by rw [← hQ_]; exact ⟨by rw [zan], rfl⟩)
