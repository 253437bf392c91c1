section MEU
variable {A zm : Mem} {tm kd am : Nat → Int} {late aw : Int}
theorem ev_tm (hE : EvR tm kd am late aw (A 2) (A 3)) {k : Nat} {v : Int} (hk : k < 3) (hv : 0 ≤ v ∧ v ≤ if k = 0 then 59 else 99) : EvR (uset tm k v) kd am late aw (A 2) (A 3) := by
  obtain ⟨⟨a1, a2, a3, a4, a5⟩, h⟩ := hE
  refine ⟨?_, h⟩
  unfold uset
  rcases (show k = 0 ∨ k = 1 ∨ k = 2 by omega) with rfl | rfl | rfl
  · exact ⟨by simpa using hv, a2, a3, a4, a5⟩
  · exact ⟨a1, by simpa using hv, a3, a4, a5⟩
  · exact ⟨a1, a2, by simpa using hv, a4, a5⟩
theorem ME.tm0 (h : ME A zm tm kd am late aw) {v : Int} (hv : 0 ≤ v ∧ v ≤ 59) : ME A (mset zm 49 22 v) (uset tm 0 v) kd am late aw := ⟨⟨rfl, h.1.2.1, h.1.2.2⟩, h.2.1, h.2.2.1, h.2.2.2.1, ev_tm h.2.2.2.2 (by omega) hv⟩
theorem ME.tm1 (h : ME A zm tm kd am late aw) {v : Int} (hv : 0 ≤ v ∧ v ≤ 99) : ME A (mset zm 49 23 v) (uset tm 1 v) kd am late aw := ⟨⟨h.1.1, rfl, h.1.2.2⟩, h.2.1, h.2.2.1, h.2.2.2.1, ev_tm h.2.2.2.2 (by omega) hv⟩
theorem ME.tm2 (h : ME A zm tm kd am late aw) {v : Int} (hv : 0 ≤ v ∧ v ≤ 99) : ME A (mset zm 49 24 v) (uset tm 2 v) kd am late aw := ⟨⟨h.1.1, h.1.2.1, rfl⟩, h.2.1, h.2.2.1, h.2.2.2.1, ev_tm h.2.2.2.2 (by omega) hv⟩
theorem ME.away (h : ME A zm tm kd am late aw) {v : Int} (hv : 0 ≤ v ∧ v < 256) : ME A (mset zm 49 26 v) tm kd am late v := ⟨h.1, ⟨rfl, h.2.1.2.1, h.2.1.2.2⟩, h.2.2.1, h.2.2.2.1, ⟨h.2.2.2.2.1.1, h.2.2.2.2.1.2.1, h.2.2.2.2.1.2.2.1, h.2.2.2.2.1.2.2.2.1, hv⟩, h.2.2.2.2.2⟩
theorem ME.lte (h : ME A zm tm kd am late aw) {v : Int} (hv : 0 ≤ v ∧ v < 256) : ME A (mset zm 49 27 v) tm kd am v aw := ⟨h.1, ⟨h.2.1.1, rfl, h.2.1.2.2⟩, h.2.2.1, h.2.2.2.1, ⟨h.2.2.2.2.1.1, h.2.2.2.2.1.2.1, h.2.2.2.2.1.2.2.1, hv, h.2.2.2.2.1.2.2.2.2⟩, h.2.2.2.2.2⟩
theorem ME.gu (h : ME A zm (A 17) (A 18) (A 19) 0 0) {b : Int} (hb : 0 ≤ b ∧ b < 256) (hs : ∀ c, c < 8 → bt b c = 1 → A 18 c = 0) : ME A (mset zm 49 25 b) (A 17) (mpR (A 18) b 8) (A 19) 0 0 := by
  refine ⟨h.1, ⟨h.2.1.1, h.2.1.2.1, hb⟩, fun c hc => ⟨hs c hc, ?_⟩, fun c hc hk => ?_, ⟨h.2.2.2.2.1, fun c hc => ?_⟩⟩
  · show mpR (A 18) b 8 c = if bt b c = 1 then 1 else A 18 c
    unfold mpR
    by_cases q : bt b c = 1
    · rw [if_pos ⟨hc, q⟩, if_pos q]
    · rw [if_neg (fun z => q z.2), if_neg q]
  · refine h.2.2.2.1 c hc ?_
    unfold mpR at hk
    split at hk
    · exact absurd hk (by decide)
    · exact hk
  · have a := h.2.2.2.2.2 c hc
    unfold mpR
    split
    · exact ⟨by omega, a.2.1, fun z => absurd z (by decide)⟩
    · exact a
end MEU
theorem bitsTo_tail {p : Nat → Bool} {n : Nat} : ∀ d : Nat, (∀ c, n ≤ c → c < n + d → p c = false) → bitsTo p (n + d) = bitsTo p n
  | 0, _ => rfl
  | d + 1, h => by
    show (if p (n + d) = true then _ else bitsTo p (n + d)) = _
    rw [if_neg (by rw [h (n + d) (by omega) (by omega)]; decide), bitsTo_tail d (fun c h1 h2 => h c h1 (by omega))]
theorem bits_n8 {p : Nat → Bool} {n : Nat} (hn : n ≤ 8) (h : ∀ c, c < 8 → n ≤ c → p c = false) : bitsTo p n = bitsTo p 8 := by
  have e := bitsTo_tail (p := p) (n := n) (8 - n) (fun c h1 h2 => h c (by omega) h1)
  rw [show n + (8 - n) = 8 by omega] at e
  exact e.symm
theorem bor_0 {a : Nat} (h : a < 2 ^ 31) : bOr (a : Int) 0 = (a : Int) := by
  have e := bOr_nat (a := a) (b := 0) h (by decide)
  rw [Nat.or_zero] at e
  exact e
theorem bt_pow {c d : Nat} : bt ((2 ^ c : Nat) : Int) d = if d = c then 1 else 0 := by
  unfold bt
  rw [Int.toNat_natCast, Nat.testBit_two_pow]
  by_cases q : d = c
  · subst q; simp
  · rw [if_neg (by simpa using Ne.symm q), if_neg q]
/-- it makes no odds whether nobody is away -/
theorem st_nobody {A : Mem} {tm kd am : Nat → Int} {late : Int} {c : Nat} (hk : kd c = -1) : stT A tm kd am late ((2 ^ c : Nat) : Int) = stT A tm kd am late 0 := by
  have e1 : ∀ d, isK kd ((2 ^ c : Nat) : Int) (-1) d = isK kd 0 (-1) d := fun d => by
    unfold isK
    rw [bt_pow, bt_0]
    by_cases q : d = c
    · rw [q, hk]; simp
    · rw [if_neg q]
  have e2 : ∀ d, isF kd ((2 ^ c : Nat) : Int) (-1) d = isF kd 0 (-1) d := fun d => by
    unfold isF
    rw [bt_pow, bt_0]
    by_cases q : d = c
    · rw [q, hk]; simp
    · rw [if_neg q]
  have e3 : whF kd am (tm 0) late ((2 ^ c : Nat) : Int) (A 9) (A 2) (A 3) = whF kd am (tm 0) late 0 (A 9) (A 2) (A 3) := by
    unfold whF
    refine comeF_cg (fun d hd => ?_) (fun d hd => e1 d)
    unfold fmR
    rw [e2]
  unfold stT stF
  rw [e3]
theorem sub_ok {b p c : Nat} (h : bAnd (b : Int) (bXor (p : Int) (-1)) = 0) (hc : c < 8) (hb : b.testBit c = true) : p.testBit c = true := by
  unfold bAnd bXor at h
  rw [i32_back] at h
  have h2 : (Int32.ofInt (b : Int) &&& (Int32.ofInt (p : Int) ^^^ Int32.ofInt (-1))) = Int32.ofInt 0 := Int32.toInt_inj.mp (h.trans rfl)
  have h3 := congrArg (fun x : Int32 => x.toBitVec.getLsbD c) h2
  have e1 : ∀ m : Nat, (Int32.ofInt (m : Int)).toBitVec.getLsbD c = m.testBit c := fun m => by
    rw [Int32.toBitVec_ofInt, BitVec.ofInt_natCast, BitVec.getLsbD_ofNat]
    simp [show c < 32 by omega]
  have e2 : (Int32.ofInt (-1)).toBitVec.getLsbD c = true := by
    rcases (show c = 0 ∨ c = 1 ∨ c = 2 ∨ c = 3 ∨ c = 4 ∨ c = 5 ∨ c = 6 ∨ c = 7 by omega) with rfl | rfl | rfl | rfl | rfl | rfl | rfl | rfl <;> decide
  have e3 : (Int32.ofInt 0).toBitVec.getLsbD c = false := by
    have := e1 0
    rw [Nat.zero_testBit] at this
    exact this
  have h4 : ((Int32.ofInt (b : Int)).toBitVec &&& ((Int32.ofInt (p : Int)).toBitVec ^^^ (Int32.ofInt (-1)).toBitVec)).getLsbD c = false := h3.trans e3
  rw [BitVec.getLsbD_and, BitVec.getLsbD_xor, e1, e1, e2, hb] at h4
  revert h4
  cases p.testBit c <;> simp

theorem m_climbNow (G : Gm) (A mem : Mem) (down : Bool) (hI : CI A) (hM : MI A mem) : Con G mX8_climbNow [(2, 49), (0, (if down then 1 else 0))] mem (fun r m' => r = some (0, an_climb A down (-1)) ∧ MI A m' ∧ Fr scZ mem m' ∧ ∀ x, cliA A (A 17) (A 18) down = some x → ∀ c, c < 8 → A 18 c = 0 → m' 62 c = x c) := by
  refine Con.of (lo := [(2, 49), (0, (if down then 1 else 0))]) (by decide +kernel) (Nat.le_of_ble_eq_true rfl) rfl ?_
  generalize hQ_ : (fun r m' => r = some (0, an_climb A down (-1)) ∧ MI A m' ∧ Fr scZ mem m' ∧ ∀ x, cliA A (A 17) (A 18) down = some x → ∀ c, c < 8 → A 18 c = 0 → m' 62 c = x c : Option AV → Mem → Prop) = Q_
  refine e_aloadn (pc := 0) dX8_climbNow_0 rfl rfl ?_
  refine e_callV (pc := 1) (as := []) (st := []) (m_asTold G A mem hI hM) dX8_climbNow_1 lX8_climbNow_190 rfl s_49 cn_8 rfl rfl (fun r_ zm1 hq_ => ?_)
  obtain ⟨zr_, zM1, zf1, zE1⟩ := hq_
  subst zr_
  refine Ev.to (st' := []) ?_ rfl rfl rfl
  refine e_aloadn (pc := 4) dX8_climbNow_4 rfl rfl ?_
  refine e_iloadn (pc := 5) dX8_climbNow_5 rfl rfl ?_
  refine e_callV (pc := 6) (as := [(0, (if down then 1 else 0))]) (st := []) (m_climbs G A zm1 (A 17) (A 18) (A 19) down hI zM1 zE1) dX8_climbNow_6 lX8_climbNow_206 rfl s_49 cn_8 rfl rfl (fun r_ zm2 hq_ => ?_)
  obtain ⟨zv, zr_, zM2, zf2, zor⟩ := hq_
  subst zr_
  have zfz : Fr scZ mem zm2 := (scHZ zf1).tr zf2
  refine Ev.to (st' := [(0, zv)]) ?_ rfl rfl rfl
  rcases zor with ⟨zv0, zcl⟩ | ⟨zv0, x, zcl, zEx, zGx⟩
  · subst zv0
    refine e_if_eq (pc := 9) (tgt := 19) dX8_climbNow_9 rfl (fun h9 => ?_) (fun h9 => ?_)
    · skip
      refine e_iconst (pc := 19) dX8_climbNow_19 (by decide) ?_
      have zan : an_climb A down (-1) = -1 := by unfold an_climb; rw [if_neg (fun q => q.1 rfl), zcl]
      exact e_iret (pc := 20) dX8_climbNow_20 rfl (by rw [← hQ_]; exact ⟨by rw [zan], zM2, zfz, fun y hy => by rw [zcl] at hy; cases hy⟩)
    · skip
      exact absurd h9 (by decide)
  · subst zv0
    refine e_if_eq (pc := 9) (tgt := 19) dX8_climbNow_9 rfl (fun h9 => ?_) (fun h9 => ?_)
    · skip
      exact absurd h9 (by decide)
    · skip
      refine e_aloadn (pc := 12) dX8_climbNow_12 rfl rfl ?_
      refine e_getiv (pc := 13) (v := (stT A (A 17) (A 18) x 0 0)) dX8_climbNow_13 fX8_178 s_49 rfl (by decide) (zGx.1) ?_
      refine e_goto (pc := 16) (tgt := 20) dX8_climbNow_16 rfl ?_
      have zan : an_climb A down (-1) = (stT A (A 17) (A 18) x 0 0) := by unfold an_climb; rw [if_neg (fun q => q.1 rfl), zcl]; exact if_pos rfl
      exact e_iret (pc := 20) dX8_climbNow_20 rfl (by rw [← hQ_]; exact ⟨by rw [zan], zM2, zfz, fun y hy => by rw [zcl] at hy; cases hy; exact fun c hc hk => zEx.2.2.2.1 c hc hk⟩)

theorem m_climb (G : Gm) (A mem : Mem) (down : Bool) (comer : Int) (hI : CI A) (hM : MI A mem) : Con G mX8_climb [(2, 49), (0, (if down then 1 else 0)), (0, comer)] mem (fun r m' => r = some (0, an_climb A down comer) ∧ MI A m' ∧ Fr scZ mem m') := by
  refine Con.of (lo := [(2, 49), (0, (if down then 1 else 0)), (0, comer), (3, 0)]) (by decide +kernel) (Nat.le_of_ble_eq_true rfl) rfl ?_
  generalize hQ_ : (fun r m' => r = some (0, an_climb A down comer) ∧ MI A m' ∧ Fr scZ mem m' : Option AV → Mem → Prop) = Q_
  refine e_iloadn (pc := 0) dX8_climb_0 rfl rfl ?_
  refine e_iconst (pc := 1) dX8_climb_1 (by decide) ?_
  refine e_icmp_eq (pc := 2) (tgt := 16) dX8_climb_2 rfl (fun h2 => ?_) (fun h2 => ?_)
  · skip
    refine e_aloadn (pc := 16) dX8_climb_16 rfl rfl ?_
    refine e_iloadn (pc := 17) dX8_climb_17 rfl rfl ?_
    refine e_callV (pc := 18) (as := [(0, (if down then 1 else 0))]) (st := []) (m_climbNow G A mem down hI hM) dX8_climb_18 lX8_climb_210 rfl s_49 cn_8 rfl rfl (fun r_ zm1 hq_ => ?_)
    obtain ⟨zr_, zM1, zf1, zrow⟩ := hq_
    subst zr_
    refine Ev.to (st' := [(0, an_climb A down (-1))]) ?_ rfl rfl rfl
    refine e_istoren (pc := 21) (lo' := [(2, 49), (0, (if down then 1 else 0)), (0, comer), (0, an_climb A down (-1))]) dX8_climb_21 rfl rfl (by decide) rfl ?_
    refine e_iloadn (pc := 22) dX8_climb_22 rfl rfl ?_
    refine e_iconst (pc := 23) dX8_climb_23 (by decide) ?_
    refine e_icmp_eq (pc := 24) (tgt := 32) dX8_climb_24 rfl (fun h24 => ?_) (fun h24 => ?_)
    · skip
      refine e_iloadn (pc := 32) dX8_climb_32 rfl rfl ?_
      refine e_goto (pc := 33) (tgt := 42) dX8_climb_33 rfl ?_
      have zan : an_climb A down comer = an_climb A down (-1) := by rw [show comer = -1 by omega]
      exact e_iret (pc := 42) dX8_climb_42 rfl (by rw [← hQ_]; exact ⟨by rw [zan], zM1, zf1⟩)
    · skip
      refine e_iloadn (pc := 27) dX8_climb_27 rfl rfl ?_
      refine e_iconst (pc := 28) dX8_climb_28 (by decide) ?_
      refine e_icmp_ne (pc := 29) (tgt := 36) dX8_climb_29 rfl (fun h29 => ?_) (fun h29 => ?_)
      · skip
        exfalso; omega
      · skip
        refine e_iloadn (pc := 32) dX8_climb_32 rfl rfl ?_
        refine e_goto (pc := 33) (tgt := 42) dX8_climb_33 rfl ?_
        have zan : an_climb A down comer = an_climb A down (-1) := by rw [show comer = -1 by omega]
        exact e_iret (pc := 42) dX8_climb_42 rfl (by rw [← hQ_]; exact ⟨by rw [zan], zM1, zf1⟩)
  · skip
    refine e_aloadn (pc := 5) dX8_climb_5 rfl rfl ?_
    refine e_iloadn (pc := 6) dX8_climb_6 rfl rfl ?_
    refine e_callVr (pc := 7) (as := [(0, comer)]) (st := []) (v := (0, if 0 ≤ comer ∧ comer < 8 ∧ A 18 comer.toNat = 0 then 1 else 0)) (m_isPlain G A mem comer hI hM) dX8_climb_7 lX8_climb_107 rfl s_49 cn_8 rfl rfl ?_
    by_cases zc : 0 ≤ comer ∧ comer < 8 ∧ A 18 comer.toNat = 0
    · rw [if_pos zc]
      obtain ⟨cn, zcn1⟩ : ∃ cn : Nat, comer = (cn : Int) := ⟨comer.toNat, by omega⟩
      subst zcn1
      have zcn : cn < 8 := by omega
      have zck : A 18 cn = 0 := zc.2.2
      refine e_if_ne (pc := 10) (tgt := 16) dX8_climb_10 rfl (fun h10 => ?_) (fun h10 => ?_)
      · skip
        refine e_aloadn (pc := 16) dX8_climb_16 rfl rfl ?_
        refine e_iloadn (pc := 17) dX8_climb_17 rfl rfl ?_
        refine e_callV (pc := 18) (as := [(0, (if down then 1 else 0))]) (st := []) (m_climbNow G A mem down hI hM) dX8_climb_18 lX8_climb_210 rfl s_49 cn_8 rfl rfl (fun r_ zm1 hq_ => ?_)
        obtain ⟨zr_, zM1, zf1, zrow⟩ := hq_
        subst zr_
        refine Ev.to (st' := [(0, an_climb A down (-1))]) ?_ rfl rfl rfl
        refine e_istoren (pc := 21) (lo' := [(2, 49), (0, (if down then 1 else 0)), (0, (cn : Int)), (0, an_climb A down (-1))]) dX8_climb_21 rfl rfl (by decide) rfl ?_
        refine e_iloadn (pc := 22) dX8_climb_22 rfl rfl ?_
        refine e_iconst (pc := 23) dX8_climb_23 (by decide) ?_
        refine e_icmp_eq (pc := 24) (tgt := 32) dX8_climb_24 rfl (fun h24 => ?_) (fun h24 => ?_)
        · skip
          refine e_iloadn (pc := 32) dX8_climb_32 rfl rfl ?_
          refine e_goto (pc := 33) (tgt := 42) dX8_climb_33 rfl ?_
          have zno : cliA A (A 17) (A 18) down = none := by
            cases zq : cliA A (A 17) (A 18) down with
            | none => rfl
            | some x =>
              have z1 : an_climb A down (-1) = stT A (A 17) (A 18) x 0 0 := by unfold an_climb; rw [if_neg (fun q => q.1 rfl), zq]; exact if_pos rfl
              have z2 := stT_bd A (A 17) (A 18) x 0 0
              omega
          have zan : an_climb A down (cn : Int) = an_climb A down (-1) := by
            rw [h24]
            unfold an_climb
            rw [if_neg (fun q => q.2 zc), zno]
          exact e_iret (pc := 42) dX8_climb_42 rfl (by rw [← hQ_]; exact ⟨by rw [zan], zM1, zf1⟩)
        · skip
          refine e_iloadn (pc := 27) dX8_climb_27 rfl rfl ?_
          refine e_iconst (pc := 28) dX8_climb_28 (by decide) ?_
          refine e_icmp_ne (pc := 29) (tgt := 36) dX8_climb_29 rfl (fun h29 => ?_) (fun h29 => ?_)
          · skip
            obtain ⟨zx, zcl⟩ : ∃ x, cliA A (A 17) (A 18) down = some x := by
              cases zq : cliA A (A 17) (A 18) down with
              | some x => exact ⟨x, rfl⟩
              | none => exact absurd (show an_climb A down (-1) = -1 by unfold an_climb; rw [if_neg (fun q => q.1 rfl), zq]) h24
            refine e_aloadn (pc := 36) dX8_climb_36 rfl rfl ?_
            refine e_getr (pc := 37) (k := 62) dX8_climb_37 fX8_47 s_49 rfl (by decide) ?_
            refine e_iloadn (pc := 40) dX8_climb_40 rfl rfl ?_
            refine e_ialdv (pc := 41) (v := (zx cn)) dX8_climb_41 s_62 (by omega) (zrow zx zcl cn zcn zck) ?_
            have zan : an_climb A down (cn : Int) = zx cn := by unfold an_climb; rw [if_neg (fun q => q.2 zc), zcl]; exact if_neg (by omega)
            exact e_iret (pc := 42) dX8_climb_42 rfl (by rw [← hQ_]; exact ⟨by rw [zan], zM1, zf1⟩)
          · skip
            exfalso; omega
      · skip
        exact absurd h10 (by decide)
    · rw [if_neg zc]
      refine e_if_ne (pc := 10) (tgt := 16) dX8_climb_10 rfl (fun h10 => ?_) (fun h10 => ?_)
      · skip
        exact absurd h10 (by decide)
      · skip
        refine e_bipush (pc := 13) dX8_climb_13 rfl (by decide) ?_
        have zan : an_climb A down comer = -2 := by unfold an_climb; rw [if_pos ⟨h2, zc⟩]
        exact e_iret (pc := 15) dX8_climb_15 rfl (by rw [← hQ_]; exact ⟨by rw [zan], hM, Fr.rf⟩)

theorem m_fault (G : Gm) (A mem : Mem) (hI : CI A) (hM : MI A mem) : Con G mX8_fault [(2, 49)] mem (fun r m' => r = some (0, an_fault A ) ∧ MI A m' ∧ Fr scZ mem m') := by
  refine Con.of (lo := [(2, 49)]) (by decide +kernel) (Nat.le_of_ble_eq_true rfl) rfl ?_
  generalize hQ_ : (fun r m' => r = some (0, an_fault A ) ∧ MI A m' ∧ Fr scZ mem m' : Option AV → Mem → Prop) = Q_
  refine e_aloadn (pc := 0) dX8_fault_0 rfl rfl ?_
  refine e_callV (pc := 1) (as := []) (st := []) (m_faultNow G A mem hI hM) dX8_fault_1 lX8_fault_154 rfl s_49 cn_8 rfl rfl (fun r_ zm1 hq_ => ?_)
  obtain ⟨zr_, zM1, zrd, zf1⟩ := hq_
  subst zr_
  refine Ev.to (st' := [(0, an_fault A)]) ?_ rfl rfl rfl
  exact e_iret (pc := 4) dX8_fault_4 rfl (by rw [← hQ_]; exact ⟨rfl, zM1, scOZ (scFO zf1)⟩)

theorem m_moved (G : Gm) (A mem : Mem) (wish : Int) (hI : CI A) (hM : MI A mem) : Con G mX8_moved [(2, 49), (0, wish)] mem (fun r m' => r = some (0, an_moved A wish) ∧ MI A m' ∧ Fr scZ mem m') := by
  refine Con.of (lo := [(2, 49), (0, wish), (3, 0), (3, 0), (3, 0), (3, 0), (3, 0), (3, 0)]) (by decide +kernel) (Nat.le_of_ble_eq_true rfl) rfl ?_
  generalize hQ_ : (fun r m' => r = some (0, an_moved A wish) ∧ MI A m' ∧ Fr scZ mem m' : Option AV → Mem → Prop) = Q_
  refine e_iloadn (pc := 0) dX8_moved_0 rfl rfl ?_
  refine e_iconst (pc := 1) dX8_moved_1 (by decide) ?_
  refine e_bipush (pc := 2) dX8_moved_2 rfl (by decide) ?_
  refine e_callSr (pc := 4) (as := [(0, wish), (0, 0), (0, 59)]) (st := []) (v := (0, if 0 ≤ wish ∧ wish ≤ 59 then 1 else 0)) (m_in G mem wish 0 59) dX8_moved_4 lX8_moved_95 rfl rfl rfl ?_
  by_cases zw : 0 ≤ wish ∧ wish ≤ 59
  · rw [if_pos zw]
    refine e_if_ne (pc := 7) (tgt := 13) dX8_moved_7 rfl (fun h7 => ?_) (fun h7 => ?_)
    · skip
      refine e_iconst (pc := 13) dX8_moved_13 (by decide) ?_
      refine e_istoren (pc := 14) (lo' := [(2, 49), (0, wish), (0, -1), (3, 0), (3, 0), (3, 0), (3, 0), (3, 0)]) dX8_moved_14 rfl rfl (by decide) rfl ?_
      refine e_iconst (pc := 15) dX8_moved_15 (by decide) ?_
      refine e_istoren (pc := 16) (lo' := [(2, 49), (0, wish), (0, -1), (0, 0), (3, 0), (3, 0), (3, 0), (3, 0)]) dX8_moved_16 rfl rfl (by decide) rfl ?_
      refine e_iconst (pc := 17) dX8_moved_17 (by decide) ?_
      refine e_istore (pc := 18) (lo' := [(2, 49), (0, wish), (0, -1), (0, 0), (0, 0), (3, 0), (3, 0), (3, 0)]) dX8_moved_18 rfl (by decide) rfl ?_
      have L20 : ∀ (n_ : Nat) (k : Nat) (ba : Int) (le : Int) (zmv : Mem), 60 - k = n_ → (k ≤ 60) → (k = 0 → ba = -1) → (0 < k → mvS (mvF A wish) k = (ba, le) ∧ 0 ≤ ba) → (MI A zmv) → (Fr scZ mem zmv) → Ev G mX8_moved Q_ 20 [(2, 49), (0, wish), (0, ba), (0, le), (0, (k : Int)), (3, 0), (3, 0), (3, 0)] [] zmv := by
        intro n_
        induction n_ using Nat.strongRecOn with
        | ind n_ ih20 =>
          intro k ba le zmv hn_ zk zb0 zb1 zM zf
          refine e_iload (pc := 20) dX8_moved_20 rfl ?_
          refine e_bipush (pc := 22) dX8_moved_22 rfl (by decide) ?_
          refine e_icmp_ge (pc := 24) (tgt := 113) dX8_moved_24 rfl (fun h24 => ?_) (fun h24 => ?_)
          · skip
            refine e_iloadn (pc := 113) dX8_moved_113 rfl rfl ?_
            have zke : k = 60 := by omega
            have zb2 := (zb1 (by omega)).1
            rw [zke] at zb2
            have zan : an_moved A wish = ba := by unfold an_moved; rw [if_pos (by omega), zb2]
            exact e_iret (pc := 114) dX8_moved_114 rfl (by rw [← hQ_]; exact ⟨by rw [zan], zM, zf⟩)
          · skip
            refine e_aloadn (pc := 27) dX8_moved_27 rfl rfl ?_
            refine e_callV (pc := 28) (as := []) (st := []) (m_asTold G A zmv hI zM) dX8_moved_28 lX8_moved_190 rfl s_49 cn_8 rfl rfl (fun r_ zm1 hq_ => ?_)
            obtain ⟨zr_, zM1, zf1, zE1⟩ := hq_
            subst zr_
            refine Ev.to (st' := []) ?_ rfl rfl rfl
            refine e_aloadn (pc := 31) dX8_moved_31 rfl rfl ?_
            refine e_iload (pc := 32) dX8_moved_32 rfl ?_
            refine e_putI (pc := 34) (mem2 := mset zm1 49 22 (k : Int)) dX8_moved_34 fX8_157 s_49 rfl (by decide) pw_8_22 rfl ?_
            refine e_aloadn (pc := 37) dX8_moved_37 rfl rfl ?_
            refine e_iconst (pc := 38) dX8_moved_38 (by decide) ?_
            have zE2 := zE1.tm0 (v := (k : Int)) (by omega)
            refine e_callV (pc := 39) (as := [(0, 0)]) (st := []) (m_climbs G A (mset zm1 49 22 (k : Int)) (uset (A 17) 0 (k : Int)) (A 18) (A 19) false hI (zM1.v ((Fr.rf (S := scV)).ms rfl)) zE2) dX8_moved_39 lX8_moved_206 rfl s_49 cn_8 rfl rfl (fun r_ zm2 hq_ => ?_)
            obtain ⟨zv, zr_, zM2, zf2, zor⟩ := hq_
            subst zr_
            have zfz : Fr scZ mem zm2 := ((zf.tr (scHZ zf1)).ms rfl).tr zf2
            refine Ev.to (st' := [(0, zv)]) ?_ rfl rfl rfl
            rcases zor with ⟨zv0, zcl⟩ | ⟨zv0, x, zcl, zEx, zGx⟩
            · subst zv0
              refine e_if_eq (pc := 42) (tgt := 52) dX8_moved_42 rfl (fun h42 => ?_) (fun h42 => ?_)
              · skip
                refine e_bipush (pc := 52) dX8_moved_52 rfl (by decide) ?_
                have zsb : 0 ≤ 60 ∧ 60 ≤ 60 := by omega
                have zmf : amV (60 - wish) = mvF A wish k := by unfold mvF mvSt; rw [zcl]
                have zfb : 0 ≤ mvF A wish k ∧ mvF A wish k ≤ 60 := by rw [← zmf]; unfold amV; split <;> omega
                refine e_istore (pc := 54) (lo' := [(2, 49), (0, wish), (0, ba), (0, le), (0, (k : Int)), (0, 60), (3, 0), (3, 0)]) dX8_moved_54 rfl (by decide) rfl ?_
                refine e_iload (pc := 56) dX8_moved_56 rfl ?_
                refine e_iloadn (pc := 58) dX8_moved_58 rfl rfl ?_
                refine e_isubn (pc := 59) dX8_moved_59 (by omega) ?_
                have zAM := m_amount G zm2 (60 - wish) (by omega)
                rw [zmf] at zAM
                refine e_callSr (pc := 60) (as := [(0, 60 - wish)]) (st := []) (zAM) dX8_moved_60 lX8_moved_253 rfl rfl rfl ?_
                refine e_istore (pc := 63) (lo' := [(2, 49), (0, wish), (0, ba), (0, le), (0, (k : Int)), (0, 60), (0, mvF A wish k), (3, 0)]) dX8_moved_63 rfl (by decide) rfl ?_
                refine e_iloadn (pc := 65) dX8_moved_65 rfl rfl ?_
                refine e_iconst (pc := 66) dX8_moved_66 (by decide) ?_
                refine e_icmp_eq (pc := 67) (tgt := 76) dX8_moved_67 rfl (fun h67 => ?_) (fun h67 => ?_)
                · skip
                  refine e_iconst (pc := 76) dX8_moved_76 (by decide) ?_
                  refine e_goto (pc := 77) (tgt := 81) dX8_moved_77 rfl ?_
                  refine e_istore (pc := 81) (lo' := [(2, 49), (0, wish), (0, ba), (0, le), (0, (k : Int)), (0, 60), (0, mvF A wish k), (0, 1)]) dX8_moved_81 rfl (by decide) rfl ?_
                  refine e_iload (pc := 83) dX8_moved_83 rfl ?_
                  refine e_if_eq (pc := 85) (tgt := 93) dX8_moved_85 rfl (fun h85 => ?_) (fun h85 => ?_)
                  · skip
                    exact absurd h85 (by decide)
                  · skip
                    refine e_iload (pc := 88) dX8_moved_88 rfl ?_
                    refine e_goto (pc := 90) (tgt := 94) dX8_moved_90 rfl ?_
                    refine e_istoren (pc := 94) (lo' := [(2, 49), (0, wish), (0, (k : Int)), (0, le), (0, (k : Int)), (0, 60), (0, mvF A wish k), (0, 1)]) dX8_moved_94 rfl rfl (by decide) rfl ?_
                    refine e_iload (pc := 95) dX8_moved_95 rfl ?_
                    refine e_if_eq (pc := 97) (tgt := 105) dX8_moved_97 rfl (fun h97 => ?_) (fun h97 => ?_)
                    · skip
                      exact absurd h97 (by decide)
                    · skip
                      refine e_iload (pc := 100) dX8_moved_100 rfl ?_
                      refine e_goto (pc := 102) (tgt := 106) dX8_moved_102 rfl ?_
                      refine e_istoren (pc := 106) (lo' := [(2, 49), (0, wish), (0, (k : Int)), (0, mvF A wish k), (0, (k : Int)), (0, 60), (0, mvF A wish k), (0, 1)]) dX8_moved_106 rfl rfl (by decide) rfl ?_
                      refine e_iinc (pc := 107) (lo' := [(2, 49), (0, wish), (0, (k : Int)), (0, mvF A wish k), (0, (k : Int) + 1), (0, 60), (0, mvF A wish k), (0, 1)]) dX8_moved_107 rfl (by omega) rfl (by decide) rfl ?_
                      refine e_goto (pc := 110) (tgt := 20) dX8_moved_110 rfl ?_
                      have zbs : mvS (mvF A wish) (k + 1) = ((k : Int), mvF A wish k) ∧ 0 ≤ (k : Int) := by
                        have z0 : k = 0 := Classical.byContradiction (fun q => by have := (zb1 (by omega)).2; omega)
                        refine ⟨mvS_t ?_, by omega⟩
                        rw [z0]
                        show mvF A wish 0 < 61
                        rw [z0] at zfb
                        omega
                      refine Ev.fgt [5, 6, 7] ?_
                      exact Ev.to (ih20 _ (by omega) (k + 1) (k : Int) (mvF A wish k) zm2 (rfl) (by omega) (fun q => absurd q (by omega)) (fun _ => zbs) (zM2) (zfz)) rfl rfl rfl
                · skip
                  refine e_iload (pc := 70) dX8_moved_70 rfl ?_
                  refine e_iloadn (pc := 72) dX8_moved_72 rfl rfl ?_
                  refine e_icmp_ge (pc := 73) (tgt := 80) dX8_moved_73 rfl (fun h73 => ?_) (fun h73 => ?_)
                  · skip
                    refine e_iconst (pc := 80) dX8_moved_80 (by decide) ?_
                    refine e_istore (pc := 81) (lo' := [(2, 49), (0, wish), (0, ba), (0, le), (0, (k : Int)), (0, 60), (0, mvF A wish k), (0, 0)]) dX8_moved_81 rfl (by decide) rfl ?_
                    refine e_iload (pc := 83) dX8_moved_83 rfl ?_
                    refine e_if_eq (pc := 85) (tgt := 93) dX8_moved_85 rfl (fun h85 => ?_) (fun h85 => ?_)
                    · skip
                      refine e_iloadn (pc := 93) dX8_moved_93 rfl rfl ?_
                      refine e_istoren (pc := 94) (lo' := [(2, 49), (0, wish), (0, ba), (0, le), (0, (k : Int)), (0, 60), (0, mvF A wish k), (0, 0)]) dX8_moved_94 rfl rfl (by decide) rfl ?_
                      refine e_iload (pc := 95) dX8_moved_95 rfl ?_
                      refine e_if_eq (pc := 97) (tgt := 105) dX8_moved_97 rfl (fun h97 => ?_) (fun h97 => ?_)
                      · skip
                        refine e_iloadn (pc := 105) dX8_moved_105 rfl rfl ?_
                        refine e_istoren (pc := 106) (lo' := [(2, 49), (0, wish), (0, ba), (0, le), (0, (k : Int)), (0, 60), (0, mvF A wish k), (0, 0)]) dX8_moved_106 rfl rfl (by decide) rfl ?_
                        refine e_iinc (pc := 107) (lo' := [(2, 49), (0, wish), (0, ba), (0, le), (0, (k : Int) + 1), (0, 60), (0, mvF A wish k), (0, 0)]) dX8_moved_107 rfl (by omega) rfl (by decide) rfl ?_
                        refine e_goto (pc := 110) (tgt := 20) dX8_moved_110 rfl ?_
                        have zbs : mvS (mvF A wish) (k + 1) = (ba, le) ∧ 0 ≤ ba := by
                          have z0 : 0 < k := by
                            rcases Nat.eq_zero_or_pos k with q | q
                            · exact absurd (zb0 q) h67
                            · exact q
                          refine ⟨?_, (zb1 z0).2⟩
                          rw [mvS_f, (zb1 z0).1]
                          rw [(zb1 z0).1]
                          show ¬ mvF A wish k < le
                          omega
                        refine Ev.fgt [5, 6, 7] ?_
                        exact Ev.to (ih20 _ (by omega) (k + 1) ba le zm2 (rfl) (by omega) (fun q => absurd q (by omega)) (fun _ => zbs) (zM2) (zfz)) rfl rfl rfl
                      · skip
                        exact absurd h97 (by decide)
                    · skip
                      exact absurd h85 (by decide)
                  · skip
                    refine e_iconst (pc := 76) dX8_moved_76 (by decide) ?_
                    refine e_goto (pc := 77) (tgt := 81) dX8_moved_77 rfl ?_
                    refine e_istore (pc := 81) (lo' := [(2, 49), (0, wish), (0, ba), (0, le), (0, (k : Int)), (0, 60), (0, mvF A wish k), (0, 1)]) dX8_moved_81 rfl (by decide) rfl ?_
                    refine e_iload (pc := 83) dX8_moved_83 rfl ?_
                    refine e_if_eq (pc := 85) (tgt := 93) dX8_moved_85 rfl (fun h85 => ?_) (fun h85 => ?_)
                    · skip
                      exact absurd h85 (by decide)
                    · skip
                      refine e_iload (pc := 88) dX8_moved_88 rfl ?_
                      refine e_goto (pc := 90) (tgt := 94) dX8_moved_90 rfl ?_
                      refine e_istoren (pc := 94) (lo' := [(2, 49), (0, wish), (0, (k : Int)), (0, le), (0, (k : Int)), (0, 60), (0, mvF A wish k), (0, 1)]) dX8_moved_94 rfl rfl (by decide) rfl ?_
                      refine e_iload (pc := 95) dX8_moved_95 rfl ?_
                      refine e_if_eq (pc := 97) (tgt := 105) dX8_moved_97 rfl (fun h97 => ?_) (fun h97 => ?_)
                      · skip
                        exact absurd h97 (by decide)
                      · skip
                        refine e_iload (pc := 100) dX8_moved_100 rfl ?_
                        refine e_goto (pc := 102) (tgt := 106) dX8_moved_102 rfl ?_
                        refine e_istoren (pc := 106) (lo' := [(2, 49), (0, wish), (0, (k : Int)), (0, mvF A wish k), (0, (k : Int)), (0, 60), (0, mvF A wish k), (0, 1)]) dX8_moved_106 rfl rfl (by decide) rfl ?_
                        refine e_iinc (pc := 107) (lo' := [(2, 49), (0, wish), (0, (k : Int)), (0, mvF A wish k), (0, (k : Int) + 1), (0, 60), (0, mvF A wish k), (0, 1)]) dX8_moved_107 rfl (by omega) rfl (by decide) rfl ?_
                        refine e_goto (pc := 110) (tgt := 20) dX8_moved_110 rfl ?_
                        have zbs : mvS (mvF A wish) (k + 1) = ((k : Int), mvF A wish k) ∧ 0 ≤ (k : Int) := by
                          have z0 : 0 < k := by
                            rcases Nat.eq_zero_or_pos k with q | q
                            · exact absurd (zb0 q) h67
                            · exact q
                          refine ⟨mvS_t ?_, by omega⟩
                          rw [(zb1 z0).1]
                          exact h73
                        refine Ev.fgt [5, 6, 7] ?_
                        exact Ev.to (ih20 _ (by omega) (k + 1) (k : Int) (mvF A wish k) zm2 (rfl) (by omega) (fun q => absurd q (by omega)) (fun _ => zbs) (zM2) (zfz)) rfl rfl rfl
              · skip
                exact absurd h42 (by decide)
            · subst zv0
              refine e_if_eq (pc := 42) (tgt := 52) dX8_moved_42 rfl (fun h42 => ?_) (fun h42 => ?_)
              · skip
                exact absurd h42 (by decide)
              · skip
                refine e_aloadn (pc := 45) dX8_moved_45 rfl rfl ?_
                refine e_getiv (pc := 46) (v := (stT A (uset (A 17) 0 (k : Int)) (A 18) x 0 0)) dX8_moved_46 fX8_178 s_49 rfl (by decide) (zGx.1) ?_
                refine e_goto (pc := 49) (tgt := 54) dX8_moved_49 rfl ?_
                have zsb : 0 ≤ (stT A (uset (A 17) 0 (k : Int)) (A 18) x 0 0) ∧ (stT A (uset (A 17) 0 (k : Int)) (A 18) x 0 0) ≤ 60 := stT_bd A (uset (A 17) 0 (k : Int)) (A 18) x 0 0
                have zmf : amV ((stT A (uset (A 17) 0 (k : Int)) (A 18) x 0 0) - wish) = mvF A wish k := by unfold mvF mvSt; rw [zcl]
                have zfb : 0 ≤ mvF A wish k ∧ mvF A wish k ≤ 60 := by rw [← zmf]; unfold amV; split <;> omega
                refine e_istore (pc := 54) (lo' := [(2, 49), (0, wish), (0, ba), (0, le), (0, (k : Int)), (0, (stT A (uset (A 17) 0 (k : Int)) (A 18) x 0 0)), (3, 0), (3, 0)]) dX8_moved_54 rfl (by decide) rfl ?_
                refine e_iload (pc := 56) dX8_moved_56 rfl ?_
                refine e_iloadn (pc := 58) dX8_moved_58 rfl rfl ?_
                refine e_isubn (pc := 59) dX8_moved_59 (by omega) ?_
                have zAM := m_amount G zm2 ((stT A (uset (A 17) 0 (k : Int)) (A 18) x 0 0) - wish) (by omega)
                rw [zmf] at zAM
                refine e_callSr (pc := 60) (as := [(0, (stT A (uset (A 17) 0 (k : Int)) (A 18) x 0 0) - wish)]) (st := []) (zAM) dX8_moved_60 lX8_moved_253 rfl rfl rfl ?_
                refine e_istore (pc := 63) (lo' := [(2, 49), (0, wish), (0, ba), (0, le), (0, (k : Int)), (0, (stT A (uset (A 17) 0 (k : Int)) (A 18) x 0 0)), (0, mvF A wish k), (3, 0)]) dX8_moved_63 rfl (by decide) rfl ?_
                refine e_iloadn (pc := 65) dX8_moved_65 rfl rfl ?_
                refine e_iconst (pc := 66) dX8_moved_66 (by decide) ?_
                refine e_icmp_eq (pc := 67) (tgt := 76) dX8_moved_67 rfl (fun h67 => ?_) (fun h67 => ?_)
                · skip
                  refine e_iconst (pc := 76) dX8_moved_76 (by decide) ?_
                  refine e_goto (pc := 77) (tgt := 81) dX8_moved_77 rfl ?_
                  refine e_istore (pc := 81) (lo' := [(2, 49), (0, wish), (0, ba), (0, le), (0, (k : Int)), (0, (stT A (uset (A 17) 0 (k : Int)) (A 18) x 0 0)), (0, mvF A wish k), (0, 1)]) dX8_moved_81 rfl (by decide) rfl ?_
                  refine e_iload (pc := 83) dX8_moved_83 rfl ?_
                  refine e_if_eq (pc := 85) (tgt := 93) dX8_moved_85 rfl (fun h85 => ?_) (fun h85 => ?_)
                  · skip
                    exact absurd h85 (by decide)
                  · skip
                    refine e_iload (pc := 88) dX8_moved_88 rfl ?_
                    refine e_goto (pc := 90) (tgt := 94) dX8_moved_90 rfl ?_
                    refine e_istoren (pc := 94) (lo' := [(2, 49), (0, wish), (0, (k : Int)), (0, le), (0, (k : Int)), (0, (stT A (uset (A 17) 0 (k : Int)) (A 18) x 0 0)), (0, mvF A wish k), (0, 1)]) dX8_moved_94 rfl rfl (by decide) rfl ?_
                    refine e_iload (pc := 95) dX8_moved_95 rfl ?_
                    refine e_if_eq (pc := 97) (tgt := 105) dX8_moved_97 rfl (fun h97 => ?_) (fun h97 => ?_)
                    · skip
                      exact absurd h97 (by decide)
                    · skip
                      refine e_iload (pc := 100) dX8_moved_100 rfl ?_
                      refine e_goto (pc := 102) (tgt := 106) dX8_moved_102 rfl ?_
                      refine e_istoren (pc := 106) (lo' := [(2, 49), (0, wish), (0, (k : Int)), (0, mvF A wish k), (0, (k : Int)), (0, (stT A (uset (A 17) 0 (k : Int)) (A 18) x 0 0)), (0, mvF A wish k), (0, 1)]) dX8_moved_106 rfl rfl (by decide) rfl ?_
                      refine e_iinc (pc := 107) (lo' := [(2, 49), (0, wish), (0, (k : Int)), (0, mvF A wish k), (0, (k : Int) + 1), (0, (stT A (uset (A 17) 0 (k : Int)) (A 18) x 0 0)), (0, mvF A wish k), (0, 1)]) dX8_moved_107 rfl (by omega) rfl (by decide) rfl ?_
                      refine e_goto (pc := 110) (tgt := 20) dX8_moved_110 rfl ?_
                      have zbs : mvS (mvF A wish) (k + 1) = ((k : Int), mvF A wish k) ∧ 0 ≤ (k : Int) := by
                        have z0 : k = 0 := Classical.byContradiction (fun q => by have := (zb1 (by omega)).2; omega)
                        refine ⟨mvS_t ?_, by omega⟩
                        rw [z0]
                        show mvF A wish 0 < 61
                        rw [z0] at zfb
                        omega
                      refine Ev.fgt [5, 6, 7] ?_
                      exact Ev.to (ih20 _ (by omega) (k + 1) (k : Int) (mvF A wish k) zm2 (rfl) (by omega) (fun q => absurd q (by omega)) (fun _ => zbs) (zM2) (zfz)) rfl rfl rfl
                · skip
                  refine e_iload (pc := 70) dX8_moved_70 rfl ?_
                  refine e_iloadn (pc := 72) dX8_moved_72 rfl rfl ?_
                  refine e_icmp_ge (pc := 73) (tgt := 80) dX8_moved_73 rfl (fun h73 => ?_) (fun h73 => ?_)
                  · skip
                    refine e_iconst (pc := 80) dX8_moved_80 (by decide) ?_
                    refine e_istore (pc := 81) (lo' := [(2, 49), (0, wish), (0, ba), (0, le), (0, (k : Int)), (0, (stT A (uset (A 17) 0 (k : Int)) (A 18) x 0 0)), (0, mvF A wish k), (0, 0)]) dX8_moved_81 rfl (by decide) rfl ?_
                    refine e_iload (pc := 83) dX8_moved_83 rfl ?_
                    refine e_if_eq (pc := 85) (tgt := 93) dX8_moved_85 rfl (fun h85 => ?_) (fun h85 => ?_)
                    · skip
                      refine e_iloadn (pc := 93) dX8_moved_93 rfl rfl ?_
                      refine e_istoren (pc := 94) (lo' := [(2, 49), (0, wish), (0, ba), (0, le), (0, (k : Int)), (0, (stT A (uset (A 17) 0 (k : Int)) (A 18) x 0 0)), (0, mvF A wish k), (0, 0)]) dX8_moved_94 rfl rfl (by decide) rfl ?_
                      refine e_iload (pc := 95) dX8_moved_95 rfl ?_
                      refine e_if_eq (pc := 97) (tgt := 105) dX8_moved_97 rfl (fun h97 => ?_) (fun h97 => ?_)
                      · skip
                        refine e_iloadn (pc := 105) dX8_moved_105 rfl rfl ?_
                        refine e_istoren (pc := 106) (lo' := [(2, 49), (0, wish), (0, ba), (0, le), (0, (k : Int)), (0, (stT A (uset (A 17) 0 (k : Int)) (A 18) x 0 0)), (0, mvF A wish k), (0, 0)]) dX8_moved_106 rfl rfl (by decide) rfl ?_
                        refine e_iinc (pc := 107) (lo' := [(2, 49), (0, wish), (0, ba), (0, le), (0, (k : Int) + 1), (0, (stT A (uset (A 17) 0 (k : Int)) (A 18) x 0 0)), (0, mvF A wish k), (0, 0)]) dX8_moved_107 rfl (by omega) rfl (by decide) rfl ?_
                        refine e_goto (pc := 110) (tgt := 20) dX8_moved_110 rfl ?_
                        have zbs : mvS (mvF A wish) (k + 1) = (ba, le) ∧ 0 ≤ ba := by
                          have z0 : 0 < k := by
                            rcases Nat.eq_zero_or_pos k with q | q
                            · exact absurd (zb0 q) h67
                            · exact q
                          refine ⟨?_, (zb1 z0).2⟩
                          rw [mvS_f, (zb1 z0).1]
                          rw [(zb1 z0).1]
                          show ¬ mvF A wish k < le
                          omega
                        refine Ev.fgt [5, 6, 7] ?_
                        exact Ev.to (ih20 _ (by omega) (k + 1) ba le zm2 (rfl) (by omega) (fun q => absurd q (by omega)) (fun _ => zbs) (zM2) (zfz)) rfl rfl rfl
                      · skip
                        exact absurd h97 (by decide)
                    · skip
                      exact absurd h85 (by decide)
                  · skip
                    refine e_iconst (pc := 76) dX8_moved_76 (by decide) ?_
                    refine e_goto (pc := 77) (tgt := 81) dX8_moved_77 rfl ?_
                    refine e_istore (pc := 81) (lo' := [(2, 49), (0, wish), (0, ba), (0, le), (0, (k : Int)), (0, (stT A (uset (A 17) 0 (k : Int)) (A 18) x 0 0)), (0, mvF A wish k), (0, 1)]) dX8_moved_81 rfl (by decide) rfl ?_
                    refine e_iload (pc := 83) dX8_moved_83 rfl ?_
                    refine e_if_eq (pc := 85) (tgt := 93) dX8_moved_85 rfl (fun h85 => ?_) (fun h85 => ?_)
                    · skip
                      exact absurd h85 (by decide)
                    · skip
                      refine e_iload (pc := 88) dX8_moved_88 rfl ?_
                      refine e_goto (pc := 90) (tgt := 94) dX8_moved_90 rfl ?_
                      refine e_istoren (pc := 94) (lo' := [(2, 49), (0, wish), (0, (k : Int)), (0, le), (0, (k : Int)), (0, (stT A (uset (A 17) 0 (k : Int)) (A 18) x 0 0)), (0, mvF A wish k), (0, 1)]) dX8_moved_94 rfl rfl (by decide) rfl ?_
                      refine e_iload (pc := 95) dX8_moved_95 rfl ?_
                      refine e_if_eq (pc := 97) (tgt := 105) dX8_moved_97 rfl (fun h97 => ?_) (fun h97 => ?_)
                      · skip
                        exact absurd h97 (by decide)
                      · skip
                        refine e_iload (pc := 100) dX8_moved_100 rfl ?_
                        refine e_goto (pc := 102) (tgt := 106) dX8_moved_102 rfl ?_
                        refine e_istoren (pc := 106) (lo' := [(2, 49), (0, wish), (0, (k : Int)), (0, mvF A wish k), (0, (k : Int)), (0, (stT A (uset (A 17) 0 (k : Int)) (A 18) x 0 0)), (0, mvF A wish k), (0, 1)]) dX8_moved_106 rfl rfl (by decide) rfl ?_
                        refine e_iinc (pc := 107) (lo' := [(2, 49), (0, wish), (0, (k : Int)), (0, mvF A wish k), (0, (k : Int) + 1), (0, (stT A (uset (A 17) 0 (k : Int)) (A 18) x 0 0)), (0, mvF A wish k), (0, 1)]) dX8_moved_107 rfl (by omega) rfl (by decide) rfl ?_
                        refine e_goto (pc := 110) (tgt := 20) dX8_moved_110 rfl ?_
                        have zbs : mvS (mvF A wish) (k + 1) = ((k : Int), mvF A wish k) ∧ 0 ≤ (k : Int) := by
                          have z0 : 0 < k := by
                            rcases Nat.eq_zero_or_pos k with q | q
                            · exact absurd (zb0 q) h67
                            · exact q
                          refine ⟨mvS_t ?_, by omega⟩
                          rw [(zb1 z0).1]
                          exact h73
                        refine Ev.fgt [5, 6, 7] ?_
                        exact Ev.to (ih20 _ (by omega) (k + 1) (k : Int) (mvF A wish k) zm2 (rfl) (by omega) (fun q => absurd q (by omega)) (fun _ => zbs) (zM2) (zfz)) rfl rfl rfl
      exact Ev.to (L20 _ 0 (-1) 0 mem (rfl) (by omega) (fun _ => rfl) (fun q => absurd q (by decide)) (hM) (Fr.rf)) rfl rfl rfl
    · skip
      exact absurd h7 (by decide)
  · rw [if_neg zw]
    refine e_if_ne (pc := 7) (tgt := 13) dX8_moved_7 rfl (fun h7 => ?_) (fun h7 => ?_)
    · skip
      exact absurd h7 (by decide)
    · skip
      refine e_bipush (pc := 10) dX8_moved_10 rfl (by decide) ?_
      have zan : an_moved A wish = -2 := by unfold an_moved; rw [if_neg (by omega)]
      exact e_iret (pc := 12) dX8_moved_12 rfl (by rw [← hQ_]; exact ⟨by rw [zan], hM, Fr.rf⟩)

theorem m_least (G : Gm) (A mem : Mem) (food : Bool) (hI : CI A) (hM : MI A mem) : Con G mX8_least [(2, 49), (0, (if food then 1 else 0))] mem (fun r m' => r = some (0, an_least A food) ∧ MI A m' ∧ Fr scZ mem m') := by
  refine Con.of (lo := [(2, 49), (0, (if food then 1 else 0)), (3, 0)]) (by decide +kernel) (Nat.le_of_ble_eq_true rfl) rfl ?_
  generalize hQ_ : (fun r m' => r = some (0, an_least A food) ∧ MI A m' ∧ Fr scZ mem m' : Option AV → Mem → Prop) = Q_
  refine e_iconst (pc := 0) dX8_least_0 (by decide) ?_
  refine e_istoren (pc := 1) (lo' := [(2, 49), (0, (if food then 1 else 0)), (0, 0)]) dX8_least_1 rfl rfl (by decide) rfl ?_
  have L2 : ∀ (n_ : Nat) (k : Nat) (zmv : Mem), 41 - k = n_ → (k ≤ 41) → (MI A zmv) → (Fr scZ mem zmv) → (an_least A food = fromK (lsP A food) (41 - k) k) → Ev G mX8_least Q_ 2 [(2, 49), (0, (if food then 1 else 0)), (0, (k : Int))] [] zmv := by
    intro n_
    induction n_ using Nat.strongRecOn with
    | ind n_ ih2 =>
      intro k zmv hn_ zk zM zf zan
      refine e_iloadn (pc := 2) dX8_least_2 rfl rfl ?_
      refine e_bipush (pc := 3) dX8_least_3 rfl (by decide) ?_
      refine e_icmp_gt (pc := 5) (tgt := 71) dX8_least_5 rfl (fun h5 => ?_) (fun h5 => ?_)
      · skip
        refine e_iconst (pc := 71) dX8_least_71 (by decide) ?_
        rw [fromK_e (by omega)] at zan
        exact e_iret (pc := 72) dX8_least_72 rfl (by rw [← hQ_]; exact ⟨by rw [zan], zM, zf⟩)
      · skip
        refine e_aloadn (pc := 8) dX8_least_8 rfl rfl ?_
        refine e_callV (pc := 9) (as := []) (st := []) (m_asTold G A zmv hI zM) dX8_least_9 lX8_least_190 rfl s_49 cn_8 rfl rfl (fun r_ zm1 hq_ => ?_)
        obtain ⟨zr_, zM1, zf1, zE1⟩ := hq_
        subst zr_
        refine Ev.to (st' := []) ?_ rfl rfl rfl
        rcases (show food = true ∨ food = false by cases food <;> simp) with zfo | zfo
        · skip
          refine Ev.to (lo' := [(2, 49), (0, 1), (0, (k : Int))]) ?_ (by rw [zfo]; rfl) rfl rfl
          refine e_aloadn (pc := 12) dX8_least_12 rfl rfl ?_
          refine e_iloadn (pc := 13) dX8_least_13 rfl rfl ?_
          refine e_if_eq (pc := 14) (tgt := 24) dX8_least_14 rfl (fun h14 => ?_) (fun h14 => ?_)
          · skip
            exact absurd h14 (by decide)
          · skip
            refine e_aloadn (pc := 17) dX8_least_17 rfl rfl ?_
            refine e_getiv (pc := 18) (v := (zm1 49 23)) dX8_least_18 fX8_160 s_49 rfl (by decide) (rfl) ?_
            refine e_goto (pc := 21) (tgt := 25) dX8_least_21 rfl ?_
            refine e_putI (pc := 25) (mem2 := zm1) dX8_least_25 fX8_160 s_49 rfl (by decide) pw_8_23 (mset_self _ _ _ rfl) ?_
            refine e_aloadn (pc := 28) dX8_least_28 rfl rfl ?_
            refine e_iloadn (pc := 29) dX8_least_29 rfl rfl ?_
            refine e_if_eq (pc := 30) (tgt := 37) dX8_least_30 rfl (fun h30 => ?_) (fun h30 => ?_)
            · skip
              exact absurd h30 (by decide)
            · skip
              refine e_iloadn (pc := 33) dX8_least_33 rfl rfl ?_
              refine e_goto (pc := 34) (tgt := 41) dX8_least_34 rfl ?_
              refine e_putI (pc := 41) (mem2 := mset zm1 49 24 (k : Int)) dX8_least_41 fX8_163 s_49 rfl (by decide) pw_8_24 (rfl) ?_
              refine e_aloadn (pc := 44) dX8_least_44 rfl rfl ?_
              refine e_iconst (pc := 45) dX8_least_45 (by decide) ?_
              have zE2 := zE1.tm2 (v := (k : Int)) (by omega)
              refine e_callV (pc := 46) (as := [(0, 1)]) (st := []) (m_climbs G A (mset zm1 49 24 (k : Int)) (uset (A 17) 2 (k : Int)) (A 18) (A 19) true hI (zM1.v ((Fr.rf (S := scV)).ms rfl)) zE2) dX8_least_46 lX8_least_206 rfl s_49 cn_8 rfl rfl (fun r_ zm2 hq_ => ?_)
              obtain ⟨zv, zr_, zM2, zf2, zor⟩ := hq_
              subst zr_
              have zfz : Fr scZ mem zm2 := ((zf.tr (scHZ zf1)).ms rfl).tr zf2
              refine Ev.to (st' := [(0, zv)]) ?_ rfl rfl rfl
              rcases zor with ⟨zv0, zcl⟩ | ⟨zv0, x, zcl, zEx, zGx⟩
              · subst zv0
                refine e_if_eq (pc := 49) (tgt := 65) dX8_least_49 rfl (fun h49 => ?_) (fun h49 => ?_)
                · skip
                  refine e_iinc (pc := 65) (lo' := [(2, 49), (0, 1), (0, (k : Int) + 1)]) dX8_least_65 rfl (by omega) rfl (by decide) rfl ?_
                  refine e_goto (pc := 68) (tgt := 2) dX8_least_68 rfl ?_
                  have zin : lsP A food k = false := by
                    unfold lsP inT
                    rw [zfo]
                    show (match cliA A (uset (A 17) 2 (k : Int)) (A 18) true with | some x => decide (stT A (uset (A 17) 2 (k : Int)) (A 18) x 0 0 ≤ uset (A 17) 2 (k : Int) 0) | none => false) = false
                    rw [zcl]
                  exact Ev.to (ih2 _ (by omega) (k + 1) zm2 (rfl) (by omega) (zM2) (zfz) (zan.trans (fromK_f zin (by omega)))) (by rw [zfo]; rfl) rfl rfl
                · skip
                  exact absurd h49 (by decide)
              · subst zv0
                refine e_if_eq (pc := 49) (tgt := 65) dX8_least_49 rfl (fun h49 => ?_) (fun h49 => ?_)
                · skip
                  exact absurd h49 (by decide)
                · skip
                  refine e_aloadn (pc := 52) dX8_least_52 rfl rfl ?_
                  refine e_getiv (pc := 53) (v := (stT A (uset (A 17) 2 (k : Int)) (A 18) x 0 0)) dX8_least_53 fX8_178 s_49 rfl (by decide) (zGx.1) ?_
                  refine e_aloadn (pc := 56) dX8_least_56 rfl rfl ?_
                  refine e_getiv (pc := 57) (v := ((uset (A 17) 2 (k : Int)) 0)) dX8_least_57 fX8_157 s_49 rfl (by decide) (zEx.1.1) ?_
                  refine e_icmp_gt (pc := 60) (tgt := 65) dX8_least_60 rfl (fun h60 => ?_) (fun h60 => ?_)
                  · skip
                    refine e_iinc (pc := 65) (lo' := [(2, 49), (0, 1), (0, (k : Int) + 1)]) dX8_least_65 rfl (by omega) rfl (by decide) rfl ?_
                    refine e_goto (pc := 68) (tgt := 2) dX8_least_68 rfl ?_
                    have zin : lsP A food k = false := by
                      unfold lsP inT
                      rw [zfo]
                      show (match cliA A (uset (A 17) 2 (k : Int)) (A 18) true with | some x => decide (stT A (uset (A 17) 2 (k : Int)) (A 18) x 0 0 ≤ uset (A 17) 2 (k : Int) 0) | none => false) = false
                      rw [zcl]
                      exact decide_eq_false (by omega)
                    exact Ev.to (ih2 _ (by omega) (k + 1) zm2 (rfl) (by omega) (zM2) (zfz) (zan.trans (fromK_f zin (by omega)))) (by rw [zfo]; rfl) rfl rfl
                  · skip
                    refine e_iloadn (pc := 63) dX8_least_63 rfl rfl ?_
                    have zin : lsP A food k = true := by
                      unfold lsP inT
                      rw [zfo]
                      show (match cliA A (uset (A 17) 2 (k : Int)) (A 18) true with | some x => decide (stT A (uset (A 17) 2 (k : Int)) (A 18) x 0 0 ≤ uset (A 17) 2 (k : Int) 0) | none => false) = true
                      rw [zcl]
                      exact decide_eq_true (by omega)
                    rw [fromK_t zin (by omega)] at zan
                    exact e_iret (pc := 64) dX8_least_64 rfl (by rw [← hQ_]; exact ⟨by rw [zan], zM2, zfz⟩)
        · skip
          refine Ev.to (lo' := [(2, 49), (0, 0), (0, (k : Int))]) ?_ (by rw [zfo]; rfl) rfl rfl
          refine e_aloadn (pc := 12) dX8_least_12 rfl rfl ?_
          refine e_iloadn (pc := 13) dX8_least_13 rfl rfl ?_
          refine e_if_eq (pc := 14) (tgt := 24) dX8_least_14 rfl (fun h14 => ?_) (fun h14 => ?_)
          · skip
            refine e_iloadn (pc := 24) dX8_least_24 rfl rfl ?_
            refine e_putI (pc := 25) (mem2 := mset zm1 49 23 (k : Int)) dX8_least_25 fX8_160 s_49 rfl (by decide) pw_8_23 (rfl) ?_
            refine e_aloadn (pc := 28) dX8_least_28 rfl rfl ?_
            refine e_iloadn (pc := 29) dX8_least_29 rfl rfl ?_
            refine e_if_eq (pc := 30) (tgt := 37) dX8_least_30 rfl (fun h30 => ?_) (fun h30 => ?_)
            · skip
              refine e_aloadn (pc := 37) dX8_least_37 rfl rfl ?_
              refine e_getiv (pc := 38) (v := (zm1 49 24)) dX8_least_38 fX8_163 s_49 rfl (by decide) (rfl) ?_
              refine e_putI (pc := 41) (mem2 := mset zm1 49 23 (k : Int)) dX8_least_41 fX8_163 s_49 rfl (by decide) pw_8_24 (mset_self _ _ _ rfl) ?_
              refine e_aloadn (pc := 44) dX8_least_44 rfl rfl ?_
              refine e_iconst (pc := 45) dX8_least_45 (by decide) ?_
              have zE2 := zE1.tm1 (v := (k : Int)) (by omega)
              refine e_callV (pc := 46) (as := [(0, 1)]) (st := []) (m_climbs G A (mset zm1 49 23 (k : Int)) (uset (A 17) 1 (k : Int)) (A 18) (A 19) true hI (zM1.v ((Fr.rf (S := scV)).ms rfl)) zE2) dX8_least_46 lX8_least_206 rfl s_49 cn_8 rfl rfl (fun r_ zm2 hq_ => ?_)
              obtain ⟨zv, zr_, zM2, zf2, zor⟩ := hq_
              subst zr_
              have zfz : Fr scZ mem zm2 := ((zf.tr (scHZ zf1)).ms rfl).tr zf2
              refine Ev.to (st' := [(0, zv)]) ?_ rfl rfl rfl
              rcases zor with ⟨zv0, zcl⟩ | ⟨zv0, x, zcl, zEx, zGx⟩
              · subst zv0
                refine e_if_eq (pc := 49) (tgt := 65) dX8_least_49 rfl (fun h49 => ?_) (fun h49 => ?_)
                · skip
                  refine e_iinc (pc := 65) (lo' := [(2, 49), (0, 0), (0, (k : Int) + 1)]) dX8_least_65 rfl (by omega) rfl (by decide) rfl ?_
                  refine e_goto (pc := 68) (tgt := 2) dX8_least_68 rfl ?_
                  have zin : lsP A food k = false := by
                    unfold lsP inT
                    rw [zfo]
                    show (match cliA A (uset (A 17) 1 (k : Int)) (A 18) true with | some x => decide (stT A (uset (A 17) 1 (k : Int)) (A 18) x 0 0 ≤ uset (A 17) 1 (k : Int) 0) | none => false) = false
                    rw [zcl]
                  exact Ev.to (ih2 _ (by omega) (k + 1) zm2 (rfl) (by omega) (zM2) (zfz) (zan.trans (fromK_f zin (by omega)))) (by rw [zfo]; rfl) rfl rfl
                · skip
                  exact absurd h49 (by decide)
              · subst zv0
                refine e_if_eq (pc := 49) (tgt := 65) dX8_least_49 rfl (fun h49 => ?_) (fun h49 => ?_)
                · skip
                  exact absurd h49 (by decide)
                · skip
                  refine e_aloadn (pc := 52) dX8_least_52 rfl rfl ?_
                  refine e_getiv (pc := 53) (v := (stT A (uset (A 17) 1 (k : Int)) (A 18) x 0 0)) dX8_least_53 fX8_178 s_49 rfl (by decide) (zGx.1) ?_
                  refine e_aloadn (pc := 56) dX8_least_56 rfl rfl ?_
                  refine e_getiv (pc := 57) (v := ((uset (A 17) 1 (k : Int)) 0)) dX8_least_57 fX8_157 s_49 rfl (by decide) (zEx.1.1) ?_
                  refine e_icmp_gt (pc := 60) (tgt := 65) dX8_least_60 rfl (fun h60 => ?_) (fun h60 => ?_)
                  · skip
                    refine e_iinc (pc := 65) (lo' := [(2, 49), (0, 0), (0, (k : Int) + 1)]) dX8_least_65 rfl (by omega) rfl (by decide) rfl ?_
                    refine e_goto (pc := 68) (tgt := 2) dX8_least_68 rfl ?_
                    have zin : lsP A food k = false := by
                      unfold lsP inT
                      rw [zfo]
                      show (match cliA A (uset (A 17) 1 (k : Int)) (A 18) true with | some x => decide (stT A (uset (A 17) 1 (k : Int)) (A 18) x 0 0 ≤ uset (A 17) 1 (k : Int) 0) | none => false) = false
                      rw [zcl]
                      exact decide_eq_false (by omega)
                    exact Ev.to (ih2 _ (by omega) (k + 1) zm2 (rfl) (by omega) (zM2) (zfz) (zan.trans (fromK_f zin (by omega)))) (by rw [zfo]; rfl) rfl rfl
                  · skip
                    refine e_iloadn (pc := 63) dX8_least_63 rfl rfl ?_
                    have zin : lsP A food k = true := by
                      unfold lsP inT
                      rw [zfo]
                      show (match cliA A (uset (A 17) 1 (k : Int)) (A 18) true with | some x => decide (stT A (uset (A 17) 1 (k : Int)) (A 18) x 0 0 ≤ uset (A 17) 1 (k : Int) 0) | none => false) = true
                      rw [zcl]
                      exact decide_eq_true (by omega)
                    rw [fromK_t zin (by omega)] at zan
                    exact e_iret (pc := 64) dX8_least_64 rfl (by rw [← hQ_]; exact ⟨by rw [zan], zM2, zfz⟩)
            · skip
              exact absurd h30 (by decide)
          · skip
            exact absurd h14 (by decide)
  exact Ev.to (L2 _ 0 mem (rfl) (by omega) (hM) (Fr.rf) (rfl)) rfl rfl rfl
