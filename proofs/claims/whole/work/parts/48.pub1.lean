def NmOk (A : Mem) : Prop := ∃ n : Nat, A 1 0 = (n : Int) ∧ n ≤ 8 ∧ ∀ c, c < 8 → (A 18 c = -1 ↔ n ≤ c) ∧ (n ≤ c → A 5 c = 1 ∧ A 6 c = 1 ∧ A 7 c = 100 ∧ A 8 c = 0 ∧ A 9 c = 5) ∧ (A 18 c = 2 → A 8 c = 0)
def ShOk (A : Mem) : Prop := ∀ s, s < 4 → (-1 ≤ A 47 s ∧ A 47 s ≤ 2) ∧ (0 ≤ A 48 s ∧ A 48 s ≤ 64)
def CI (A : Mem) : Prop := CoOk A ∧ EvOk16 A ∧ (A 16 4 = 0 ∧ A 16 5 = 0) ∧ TxOk A ∧ NmOk A ∧ ShOk A
theorem TxOk.ru {A : Mem} (h : TxOk A) : RuOk A := by obtain ⟨L, _, _, _, h, _⟩ := h; exact h
theorem CI.ru {A : Mem} (h : CI A) : RuOk A := h.2.2.2.1.ru
def scQ (c j : Nat) : Bool := (decide (20 ≤ c) && decide (c ≤ 39)) || (c == 16 && (j == 9 || j == 11 || j == 13))
theorem scQ_of {S : Nat → Nat → Bool} {mem zm : Mem} (zf : Fr S mem zm) (h : ∀ c j, S c j = true → scQ c j = true) : Fr scQ mem zm := fun c j q => zf c j (by
  cases hs : S c j with
  | false => rfl
  | true => rw [h c j hs] at q; cases q)

theorem scGQ16 {mem zm : Mem} (zf : Fr (scG 16) mem zm) : Fr scQ mem zm := scQ_of zf (fun c j q => by unfold scG at q; unfold scQ; simp at q ⊢; omega)
theorem scGQ25 {mem zm : Mem} (zf : Fr (scG 25) mem zm) : Fr scQ mem zm := scQ_of zf (fun c j q => by unfold scG at q; unfold scQ; simp at q ⊢; omega)
theorem scBQ {mem zm : Mem} (zf : Fr scB mem zm) : Fr scQ mem zm := scQ_of zf (fun c j q => by unfold scB at q; unfold scQ; simp at q ⊢; omega)
theorem scCQ {mem zm : Mem} (zf : Fr scC mem zm) : Fr scQ mem zm := scQ_of zf (fun c j q => by unfold scC scG at q; unfold scQ; simp at q ⊢; omega)
theorem scWQ {mem zm : Mem} (zf : Fr scW mem zm) : Fr scQ mem zm := scQ_of zf (fun c j q => by unfold scW scC scG at q; unfold scQ; simp at q ⊢; omega)
theorem scKQ {mem zm : Mem} (zf : Fr scK mem zm) : Fr scQ mem zm := scQ_of zf (fun c j q => by unfold scK scW scC scG at q; unfold scQ; simp at q ⊢; omega)
theorem scRQ {mem zm : Mem} (zf : Fr scR mem zm) : Fr scQ mem zm := scQ_of zf (fun c j q => by unfold scR scG at q; unfold scQ; simp at q ⊢; omega)
theorem scMQ {mem zm : Mem} (zf : Fr scM mem zm) : Fr scQ mem zm := scQ_of zf (fun c j q => by unfold scM at q; unfold scQ; simp at q ⊢; omega)
theorem scYQ {mem zm : Mem} (zf : Fr scY mem zm) : Fr scQ mem zm := scQ_of zf (fun c j q => by unfold scY scG at q; unfold scQ; simp at q ⊢; omega)
theorem TxOk.mv {A B : Mem} (h0 : B 10 0 = A 10 0) (h1 : B 10 1 = A 10 1) (h4 : B 10 4 = A 10 4) (h11 : B 11 = A 11) (h12 : B 12 = A 12) (h13 : B 13 = A 13) (h14 : B 14 = A 14) (h15 : B 15 = A 15) (h : TxOk A) : TxOk B := by
  obtain ⟨L, a, b, d, e, f, g⟩ := h
  refine ⟨L, h0.trans a, b, by rw [h11]; exact d, RuOk.mv h4 h12 h13 h14 h15 e, by rw [h1, h11]; exact f, fun told wh t ht => ?_⟩
  rw [h11]; exact (RB_mv h4 h12 h13 h14 h15).trans (g told wh t ht)
theorem CI.fr {A B : Mem} (zf : Fr scQ A B) (h : CI A) : CI B := by
  have r : ∀ c, (c < 20 ∨ 39 < c) → c ≠ 16 → B c = A c := fun c h1 h2 => funext (fun j => zf c j (by unfold scQ; simp; omega))
  obtain ⟨h1, h2, ⟨h3, h3b⟩, h4, h5, h6⟩ := h
  have e4 : B 16 4 = A 16 4 := zf 16 4 rfl
  have e5 : B 16 5 = A 16 5 := zf 16 5 rfl
  refine ⟨?_, ?_, ⟨e4.trans h3, e5.trans h3b⟩, TxOk.mv (zf 10 0 rfl) (zf 10 1 rfl) (zf 10 4 rfl) (r 11 (by omega) (by omega)) (r 12 (by omega) (by omega)) (r 13 (by omega) (by omega)) (r 14 (by omega) (by omega)) (r 15 (by omega) (by omega)) h4, ?_, ?_⟩
  · unfold CoOk; rw [r 2 (by omega) (by omega), r 3 (by omega) (by omega), r 5 (by omega) (by omega), r 6 (by omega) (by omega), r 7 (by omega) (by omega), r 8 (by omega) (by omega), r 9 (by omega) (by omega)]; exact h1
  · unfold EvOk16; rw [r 2 (by omega) (by omega), r 3 (by omega) (by omega), r 17 (by omega) (by omega), r 18 (by omega) (by omega), r 19 (by omega) (by omega), e4, e5]; exact h2
  · unfold NmOk; rw [r 1 (by omega) (by omega), r 18 (by omega) (by omega), r 5 (by omega) (by omega), r 6 (by omega) (by omega), r 7 (by omega) (by omega), r 8 (by omega) (by omega), r 9 (by omega) (by omega)]; exact h5
  · unfold ShOk; rw [r 47 (by omega) (by omega), r 48 (by omega) (by omega)]; exact h6
noncomputable def stA0 (A : Mem) : Int := stF A (A 18) (A 19) (A 17 0) 0 0 (A 9) (A 2) (A 3)
noncomputable def whA0 (A : Mem) : Nat → Int := whF (A 18) (A 19) (A 17 0) 0 0 (A 9) (A 2) (A 3)
noncomputable def pvA0 (A : Mem) (c : Nat) (m s : Int) : Int := priceV (A 5) (A 6) (A 7) (A 17 0) (A 17 1) (A 17 2) c m s
theorem t_reckN (G : Gm) (mem : Mem) (hI : CI mem) : Con G mX1_reckon [(2, 16)] mem (fun r m' => r = some (0, stA0 mem) ∧ (0 ≤ stA0 mem ∧ stA0 mem ≤ 60) ∧ Fr (scG 16) mem m' ∧ ∀ c, c < 8 → m' 20 c = whA0 mem c) := by
  have h := t_reckon_16 G mem hI.1 hI.2.1 hI.ru
  rw [hI.2.2.1.1, hI.2.2.1.2] at h
  exact h
theorem wbN {mem : Mem} (hI : CI mem) : ∀ c, c < 8 → 0 ≤ whA0 mem c ∧ whA0 mem c ≤ 60 := by
  have h := wb_16 hI.1 hI.2.1
  rw [hI.2.2.1.1, hI.2.2.1.2] at h
  exact h

noncomputable def an_fault (A : Mem)  : Int := A 10 1

theorem c_fault (G : Gm) (mem : Mem)  (hI : CI mem)  : Con G mX7_fault [(2, 0)] mem (fun r m' => r = some (0, an_fault mem ) ∧ Fr scQ mem m') := by
  refine Con.of (lo := [(2, 0)]) (by decide +kernel) (Nat.le_of_ble_eq_true rfl) rfl ?_
  generalize hQ_ : (fun r m' => r = some (0, an_fault mem ) ∧ Fr scQ mem m' : Option AV → Mem → Prop) = Q_
  refine e_aloadn (pc := 0) dX7_fault_0 rfl rfl ?_
  refine e_getr (pc := 1) (k := 10) dX7_fault_1 fX7_19 s_0 rfl (by decide) ?_
  refine e_getiv (pc := 4) (v := mem 10 1) dX7_fault_4 fX7_139 s_10 rfl (by decide) rfl ?_
  have zan : an_fault mem  = mem 10 1 := by
    first | rfl | (unfold an_fault; (repeat (first | rw [if_pos (by omega)] | rw [if_neg (by omega)])) <;> rfl) | (exfalso; omega)
  exact e_iret (pc := 7) dX7_fault_7 rfl (by rw [← hQ_]; exact ⟨by rw [zan], Fr.rf⟩)

noncomputable def an_begins (A : Mem)  : Int := stA0 A

theorem c_begins (G : Gm) (mem : Mem)  (hI : CI mem)  : Con G mX7_begins [(2, 0)] mem (fun r m' => r = some (0, an_begins mem ) ∧ Fr scQ mem m') := by
  refine Con.of (lo := [(2, 0)]) (by decide +kernel) (Nat.le_of_ble_eq_true rfl) rfl ?_
  generalize hQ_ : (fun r m' => r = some (0, an_begins mem ) ∧ Fr scQ mem m' : Option AV → Mem → Prop) = Q_
  refine e_aloadn (pc := 0) dX7_begins_0 rfl rfl ?_
  refine e_getr (pc := 1) (k := 16) dX7_begins_1 fX7_28 s_0 rfl (by decide) ?_
  refine e_callV (pc := 4) (as := []) (st := []) (t_reckN G mem hI) dX7_begins_4 lX7_begins_142 rfl s_16 cn_1 rfl rfl (fun r_ zm1 hq_ => ?_)
  obtain ⟨zr_, zsb, zf, zw⟩ := hq_
  subst zr_
  refine Ev.to (st' := [(0, stA0 mem)]) ?_ rfl rfl rfl
  have zan : an_begins mem  = stA0 mem := by
    first | rfl | (unfold an_begins; (repeat (first | rw [if_pos (by omega)] | rw [if_neg (by omega)])) <;> rfl) | (exfalso; omega)
  exact e_iret (pc := 7) dX7_begins_7 rfl (by rw [← hQ_]; exact ⟨by rw [zan], scGQ16 zf⟩)

noncomputable def an_comes (A : Mem) (comer : Int) : Int := if 0 ≤ comer ∧ comer < 8 ∧ A 18 comer.toNat ≠ -1 then whA0 A comer.toNat else -2

theorem c_comes (G : Gm) (mem : Mem) (comer : Int) (hI : CI mem)  : Con G mX7_comes [(2, 0), (0, comer)] mem (fun r m' => r = some (0, an_comes mem comer) ∧ Fr scQ mem m') := by
  refine Con.of (lo := [(2, 0), (0, comer)]) (by decide +kernel) (Nat.le_of_ble_eq_true rfl) rfl ?_
  generalize hQ_ : (fun r m' => r = some (0, an_comes mem comer) ∧ Fr scQ mem m' : Option AV → Mem → Prop) = Q_
  refine e_aloadn (pc := 0) dX7_comes_0 rfl rfl ?_
  refine e_iloadn (pc := 1) dX7_comes_1 rfl rfl ?_
  refine e_callVr (pc := 2) (as := [(0, comer)]) (st := []) (v := (0, if 0 ≤ comer ∧ comer < 8 ∧ mem 18 comer.toNat ≠ -1 then 1 else 0)) (t_isComer G mem comer) dX7_comes_2 lX7_comes_112 rfl s_0 cn_7 rfl rfl ?_
  by_cases zc2 : 0 ≤ comer ∧ comer < 8 ∧ mem 18 comer.toNat ≠ -1
  · rw [if_pos zc2]
    obtain ⟨cn, rfl⟩ : ∃ cn : Nat, comer = (cn : Int) := ⟨comer.toNat, by omega⟩
    have zcn : cn < 8 := by omega
    refine e_if_ne (pc := 5) (tgt := 11) dX7_comes_5 rfl (fun h5 => ?_) (fun h5 => ?_)
    · skip
      refine e_aloadn (pc := 11) dX7_comes_11 rfl rfl ?_
      refine e_getr (pc := 12) (k := 16) dX7_comes_12 fX7_28 s_0 rfl (by decide) ?_
      refine e_callV (pc := 15) (as := []) (st := []) (t_reckN G mem hI) dX7_comes_15 lX7_comes_142 rfl s_16 cn_1 rfl rfl (fun r_ zm1 hq_ => ?_)
      obtain ⟨zr_, zsb, zf, zw⟩ := hq_
      subst zr_
      refine Ev.to (st' := [(0, stA0 mem)]) ?_ rfl rfl rfl
      refine e_pop (pc := 18) dX7_comes_18 rfl ?_
      refine e_aloadn (pc := 19) dX7_comes_19 rfl rfl ?_
      refine e_getr (pc := 20) (k := 16) dX7_comes_20 fX7_28 s_0 rfl (by decide) ?_
      refine e_getr (pc := 23) (k := 20) dX7_comes_23 fX7_146 s_16 rfl (by decide) ?_
      refine e_iloadn (pc := 26) dX7_comes_26 rfl rfl ?_
      refine e_ialdv (pc := 27) (v := (whA0 mem cn)) dX7_comes_27 s_20 (by omega) (zw cn zcn) ?_
      have zan : an_comes mem (cn : Int) = (whA0 mem cn) := by
        first | rfl | (unfold an_comes; (repeat (first | rw [if_pos (by omega)] | rw [if_neg (by omega)])) <;> rfl) | (exfalso; omega)
      exact e_iret (pc := 28) dX7_comes_28 rfl (by rw [← hQ_]; exact ⟨by rw [zan], scGQ16 zf⟩)
    · skip
      exact absurd h5 (by decide)
  · rw [if_neg zc2]
    refine e_if_ne (pc := 5) (tgt := 11) dX7_comes_5 rfl (fun h5 => ?_) (fun h5 => ?_)
    · skip
      exact absurd h5 (by decide)
    · skip
      refine e_bipush (pc := 8) dX7_comes_8 rfl (by decide) ?_
      have zan : an_comes mem comer = -2 := by
        first | rfl | (unfold an_comes; (repeat (first | rw [if_pos (by omega)] | rw [if_neg (by omega)])) <;> rfl) | (exfalso; omega)
      exact e_iret (pc := 10) dX7_comes_10 rfl (by rw [← hQ_]; exact ⟨by rw [zan], Fr.rf⟩)

noncomputable def an_pays (A : Mem) (comer : Int) : Int := if comer = -1 then togA A (A 17) (A 18) (A 19) 0 0 else if 0 ≤ comer ∧ comer < 8 ∧ A 18 comer.toNat ≠ -1 then pvA0 A comer.toNat (whA0 A comer.toNat) (stA0 A) else -10000

theorem c_pays (G : Gm) (mem : Mem) (comer : Int) (hI : CI mem) : Con G mX7_pays [(2, 0), (0, comer)] mem (fun r m' => r = some (0, an_pays mem comer) ∧ Fr scQ mem m') := by
  refine Con.of (lo := [(2, 0), (0, comer), (3, 0)]) (by decide +kernel) (Nat.le_of_ble_eq_true rfl) rfl ?_
  generalize hQ_ : (fun r m' => r = some (0, an_pays mem comer) ∧ Fr scQ mem m' : Option AV → Mem → Prop) = Q_
  refine e_iloadn (pc := 0) dX7_pays_0 rfl rfl ?_
  refine e_iconst (pc := 1) dX7_pays_1 (by decide) ?_
  refine e_icmp_ne (pc := 2) (tgt := 13) dX7_pays_2 rfl (fun h2 => ?_) (fun h2 => ?_)
  · skip
    refine e_aloadn (pc := 13) dX7_pays_13 rfl rfl ?_
    refine e_iloadn (pc := 14) dX7_pays_14 rfl rfl ?_
    refine e_callVr (pc := 15) (as := [(0, comer)]) (st := []) (v := (0, if 0 ≤ comer ∧ comer < 8 ∧ mem 18 comer.toNat ≠ -1 then 1 else 0)) (t_isComer G mem comer) dX7_pays_15 lX7_pays_112 rfl s_0 cn_7 rfl rfl ?_
    by_cases zc15 : 0 ≤ comer ∧ comer < 8 ∧ mem 18 comer.toNat ≠ -1
    · rw [if_pos zc15]
      obtain ⟨cn, rfl⟩ : ∃ cn : Nat, comer = (cn : Int) := ⟨comer.toNat, by omega⟩
      have zcn : cn < 8 := by omega
      refine e_if_ne (pc := 18) (tgt := 25) dX7_pays_18 rfl (fun h18 => ?_) (fun h18 => ?_)
      · skip
        refine e_aloadn (pc := 25) dX7_pays_25 rfl rfl ?_
        refine e_getr (pc := 26) (k := 16) dX7_pays_26 fX7_28 s_0 rfl (by decide) ?_
        refine e_callV (pc := 29) (as := []) (st := []) (t_reckN G mem hI) dX7_pays_29 lX7_pays_142 rfl s_16 cn_1 rfl rfl (fun r_ zm1 hq_ => ?_)
        obtain ⟨zr_, zsb, zf, zw⟩ := hq_
        subst zr_
        refine Ev.to (st' := [(0, stA0 mem)]) ?_ rfl rfl rfl
        refine e_istoren (pc := 32) (lo' := [(2, 0), (0, (cn : Int)), (0, stA0 mem)]) dX7_pays_32 rfl rfl (by decide) rfl ?_
        refine e_aloadn (pc := 33) dX7_pays_33 rfl rfl ?_
        refine e_getr (pc := 34) (k := 16) dX7_pays_34 fX7_28 s_0 rfl (by decide) ?_
        refine e_iloadn (pc := 37) dX7_pays_37 rfl rfl ?_
        refine e_aloadn (pc := 38) dX7_pays_38 rfl rfl ?_
        refine e_getr (pc := 39) (k := 16) dX7_pays_39 fX7_28 s_0 rfl (by decide) ?_
        refine e_getr (pc := 42) (k := 20) dX7_pays_42 fX7_146 s_16 rfl (by decide) ?_
        refine e_iloadn (pc := 45) dX7_pays_45 rfl rfl ?_
        refine e_ialdv (pc := 46) (v := (whA0 mem cn)) dX7_pays_46 s_20 (by omega) (zw cn zcn) ?_
        refine e_iloadn (pc := 47) dX7_pays_47 rfl rfl ?_
        obtain ⟨q0, q1, q2, q3, q4, q5, q6, q7, q8, q9, q10, q11, q12, q13, q14, q15⟩ := fr_16 zf
        refine e_callV (pc := 48) (as := [(0, (cn : Int)), (0, (whA0 mem cn)), (0, stA0 mem)]) (st := []) (t_price_16 G zm1 cn (whA0 mem cn) (stA0 mem) zcn (wbN hI cn zcn) zsb (CoOk.mv zf hI.1) (EvOk16.mv zf hI.2.1)) dX7_pays_48 lX7_pays_152 rfl s_16 cn_1 rfl rfl (fun r_ zm2 hq_ => ?_)
        rw [q5, q6, q7, q0] at hq_
        obtain ⟨zr_, rfl⟩ := hq_
        subst zr_
        refine Ev.to (st' := [(0, pvA0 mem cn (whA0 mem cn) (stA0 mem))]) ?_ rfl rfl rfl
        have zan : an_pays mem (cn : Int) = pvA0 mem cn (whA0 mem cn) (stA0 mem) := by
          unfold an_pays; (repeat (first | rw [if_pos (by omega)] | rw [if_neg (by omega)])) <;> rfl
        exact e_iret (pc := 51) dX7_pays_51 rfl (by rw [← hQ_]; exact ⟨by rw [zan], scGQ16 zf⟩)
      · skip
        exact absurd h18 (by decide)
    · rw [if_neg zc15]
      refine e_if_ne (pc := 18) (tgt := 25) dX7_pays_18 rfl (fun h18 => ?_) (fun h18 => ?_)
      · skip
        exact absurd h18 (by decide)
      · skip
        refine e_sipush (pc := 21) dX7_pays_21 rfl (by decide) ?_
        have zan : an_pays mem comer = -10000 := by
          unfold an_pays; (repeat (first | rw [if_pos (by omega)] | rw [if_neg (by omega)])) <;> rfl
        exact e_iret (pc := 24) dX7_pays_24 rfl (by rw [← hQ_]; exact ⟨by rw [zan], Fr.rf⟩)
  · skip
    refine e_aloadn (pc := 5) dX7_pays_5 rfl rfl ?_
    refine e_getr (pc := 6) (k := 16) dX7_pays_6 fX7_28 s_0 rfl (by decide) ?_
    refine e_callV (pc := 9) (as := []) (st := []) (t_together_16 G mem hI.1 hI.2.1 hI.ru) dX7_pays_9 lX7_pays_149 rfl s_16 cn_1 rfl rfl (fun r_ zm1 hq_ => ?_)
    rw [hI.2.2.1.1, hI.2.2.1.2] at hq_
    obtain ⟨zr_, zf⟩ := hq_
    subst zr_
    refine Ev.to (st' := [(0, togA mem (mem 17) (mem 18) (mem 19) 0 0)]) ?_ rfl rfl rfl
    have zan : an_pays mem comer = togA mem (mem 17) (mem 18) (mem 19) 0 0 := by
      unfold an_pays; (repeat (first | rw [if_pos (by omega)] | rw [if_neg (by omega)])) <;> rfl
    exact e_iret (pc := 12) dX7_pays_12 rfl (by rw [← hQ_]; exact ⟨by rw [zan], scGQ16 zf⟩)

noncomputable def an_best (A : Mem) (comer : Int) (last : Bool) : Int := if 0 ≤ comer ∧ comer < 8 ∧ A 18 comer.toNat = 0 then ((bestN (prA A (A 17) (A 18) (A 19) 0 0 comer.toNat) last : Nat) : Int) else -2

theorem c_best (G : Gm) (mem : Mem) (comer : Int) (last : Bool) (hI : CI mem) : Con G mX7_best [(2, 0), (0, comer), (0, (if last then 1 else 0))] mem (fun r m' => r = some (0, an_best mem comer last) ∧ Fr scQ mem m') := by
  refine Con.of (lo := [(2, 0), (0, comer), (0, (if last then 1 else 0))]) (by decide +kernel) (Nat.le_of_ble_eq_true rfl) rfl ?_
  generalize hQ_ : (fun r m' => r = some (0, an_best mem comer last) ∧ Fr scQ mem m' : Option AV → Mem → Prop) = Q_
  refine e_aloadn (pc := 0) dX7_best_0 rfl rfl ?_
  refine e_iloadn (pc := 1) dX7_best_1 rfl rfl ?_
  refine e_callVr (pc := 2) (as := [(0, comer)]) (st := []) (v := (0, if 0 ≤ comer ∧ comer < 8 ∧ mem 18 comer.toNat = 0 then 1 else 0)) (t_isPlain G mem comer) dX7_best_2 lX7_best_88 rfl s_0 cn_7 rfl rfl ?_
  by_cases zc2 : 0 ≤ comer ∧ comer < 8 ∧ mem 18 comer.toNat = 0
  · rw [if_pos zc2]
    obtain ⟨cn, rfl⟩ : ∃ cn : Nat, comer = (cn : Int) := ⟨comer.toNat, by omega⟩
    have zcn : cn < 8 := by omega
    refine e_if_eq (pc := 5) (tgt := 20) dX7_best_5 rfl (fun h5 => ?_) (fun h5 => ?_)
    · skip
      exact absurd h5 (by decide)
    · skip
      refine e_aloadn (pc := 8) dX7_best_8 rfl rfl ?_
      refine e_getr (pc := 9) (k := 16) dX7_best_9 fX7_28 s_0 rfl (by decide) ?_
      refine e_iloadn (pc := 12) dX7_best_12 rfl rfl ?_
      refine e_iloadn (pc := 13) dX7_best_13 rfl rfl ?_
      have zpm := prF_mv16 (Fr.rf (S := scG 16) (mem := mem))
      rw [hI.2.2.1.1, hI.2.2.1.2] at zpm
      refine e_callV (pc := 14) (as := [(0, (cn : Int)), (0, (if last then 1 else 0))]) (st := []) (t_bestN_16 G mem cn last _ rfl hI.1 hI.2.1 hI.ru zcn zc2.2.2 hI.2.2.1.1 hI.2.2.1.2) dX7_best_14 lX7_best_156 rfl s_16 cn_1 rfl rfl (fun r_ zm1 hq_ => ?_)
      rw [zpm] at hq_
      obtain ⟨zr_, zG1⟩ := hq_
      subst zr_
      have zf := zG1.1
      refine Ev.to (st' := [(0, ((bestN (prA mem (mem 17) (mem 18) (mem 19) 0 0 cn) last : Nat) : Int))]) ?_ rfl rfl rfl
      refine e_goto (pc := 17) (tgt := 22) dX7_best_17 rfl ?_
      have zan : an_best mem (cn : Int) last = ((bestN (prA mem (mem 17) (mem 18) (mem 19) 0 0 cn) last : Nat) : Int) := by
        unfold an_best; (repeat (first | rw [if_pos (by omega)] | rw [if_neg (by omega)])) <;> rfl
      exact e_iret (pc := 22) dX7_best_22 rfl (by rw [← hQ_]; exact ⟨by rw [zan], scGQ16 zf⟩)
  · rw [if_neg zc2]
    refine e_if_eq (pc := 5) (tgt := 20) dX7_best_5 rfl (fun h5 => ?_) (fun h5 => ?_)
    · skip
      refine e_bipush (pc := 20) dX7_best_20 rfl (by decide) ?_
      have zan : an_best mem comer last = -2 := by
        unfold an_best; (repeat (first | rw [if_pos (by omega)] | rw [if_neg (by omega)])) <;> rfl
      exact e_iret (pc := 22) dX7_best_22 rfl (by rw [← hQ_]; exact ⟨by rw [zan], Fr.rf⟩)
    · skip
      exact absurd h5 (by decide)

noncomputable def an_restless (A : Mem)  : Int := fromK (fun c => decide (A 18 c = 0 ∧ prA A (A 17) (A 18) (A 19) 0 0 c (bestN (prA A (A 17) (A 18) (A 19) 0 0 c) false) < prA A (A 17) (A 18) (A 19) 0 0 c (A 19 c).toNat)) 8 0

theorem c_restless (G : Gm) (mem : Mem)  (hI : CI mem)  : Con G mX7_restless [(2, 0)] mem (fun r m' => r = some (0, an_restless mem ) ∧ Fr scQ mem m') := by
  refine Con.of (lo := [(2, 0)]) (by decide +kernel) (Nat.le_of_ble_eq_true rfl) rfl ?_
  generalize hQ_ : (fun r m' => r = some (0, an_restless mem ) ∧ Fr scQ mem m' : Option AV → Mem → Prop) = Q_
  refine e_aloadn (pc := 0) dX7_restless_0 rfl rfl ?_
  refine e_getr (pc := 1) (k := 16) dX7_restless_1 fX7_28 s_0 rfl (by decide) ?_
  refine e_callV (pc := 4) (as := []) (st := []) (t_firstRestless G mem hI.1 hI.2.1 hI.ru hI.2.2.1.1 hI.2.2.1.2) dX7_restless_4 lX7_restless_160 rfl s_16 cn_1 rfl rfl (fun r_ zm1 hq_ => ?_)
  rw [hI.2.2.1.1, hI.2.2.1.2] at hq_
  obtain ⟨zr_, zf⟩ := hq_
  subst zr_
  refine Ev.to (st' := [(0, an_restless mem)]) ?_ rfl rfl rfl
  have zan : an_restless mem  = an_restless mem := by
    first | rfl | (unfold an_restless; (repeat (first | rw [if_pos (by omega)] | rw [if_neg (by omega)])) <;> rfl) | (exfalso; omega)
  exact e_iret (pc := 7) dX7_restless_7 rfl (by rw [← hQ_]; exact ⟨by rw [zan], scGQ16 zf⟩)

def an_type (A : Mem) (b : Int) : Int := if 0 ≤ b ∧ b ≤ 255 then (if A 10 0 < 40 then A 10 0 + 1 else -4) else -2
def TyR (A m' : Mem) (b : Int) : Prop := if (0 ≤ b ∧ b ≤ 255) ∧ A 10 0 < 40 then Fr scT A m' ∧ m' 10 0 = A 10 0 + 1 ∧ m' 11 = uset (A 11) (A 10 0).toNat b ∧ TxOk m' else m' = A

theorem c_type (G : Gm) (mem : Mem) (b : Int) (hT : TxOk mem) : Con G mX7_type [(2, 0), (0, b)] mem (fun r m' => r = some (0, an_type mem b) ∧ TyR mem m' b) := by
  refine Con.of (lo := [(2, 0), (0, b)]) (by decide +kernel) (Nat.le_of_ble_eq_true rfl) rfl ?_
  generalize hQ_ : (fun r m' => r = some (0, an_type mem b) ∧ TyR mem m' b : Option AV → Mem → Prop) = Q_
  refine e_iloadn (pc := 0) dX7_type_0 rfl rfl ?_
  refine e_if_lt (pc := 1) (tgt := 11) dX7_type_1 rfl (fun h1 => ?_) (fun h1 => ?_)
  · skip
    refine e_bipush (pc := 11) dX7_type_11 rfl (by decide) ?_
    have zan : an_type mem b = -2 := by
      unfold an_type; (repeat (first | rw [if_pos (by omega)] | rw [if_neg (by omega)])) <;> rfl
    have znx : TyR mem mem b := by
      unfold TyR; rw [if_neg (by omega)]
    exact e_iret (pc := 13) dX7_type_13 rfl (by rw [← hQ_]; exact ⟨by rw [zan], znx⟩)
  · skip
    refine e_iloadn (pc := 4) dX7_type_4 rfl rfl ?_
    refine e_sipush (pc := 5) dX7_type_5 rfl (by decide) ?_
    refine e_icmp_le (pc := 8) (tgt := 14) dX7_type_8 rfl (fun h8 => ?_) (fun h8 => ?_)
    · skip
      refine e_aloadn (pc := 14) dX7_type_14 rfl rfl ?_
      refine e_getr (pc := 15) (k := 10) dX7_type_15 fX7_19 s_0 rfl (by decide) ?_
      refine e_iloadn (pc := 18) dX7_type_18 rfl rfl ?_
      have zR := hT.ru
      obtain ⟨L, zL1, zL2, zL3, zL4⟩ := hT
      clear zL4
      refine e_callV (pc := 19) (as := [(0, b)]) (st := []) (t_takes G mem L b ⟨zL1, zL2⟩ zL3 zR ⟨by omega, by omega⟩) dX7_type_19 lX7_type_130 rfl s_10 cn_4 rfl rfl (fun r_ zm1 hq_ => ?_)
      obtain ⟨zv, zr_, zor⟩ : ∃ zv : Int, r_ = some (0, zv) ∧ ((zv = 0 ∧ L = 40 ∧ zm1 = mem) ∨ (zv = 1 ∧ L < 40 ∧ Fr scT mem zm1 ∧ zm1 10 0 = ((L + 1 : Nat) : Int) ∧ zm1 11 = uset (mem 11) L b ∧ TxOk zm1)) := by
        rcases hq_ with ⟨h1, h2, h3⟩ | ⟨h1, h2, h3⟩
        · exact ⟨_, h2, Or.inl ⟨rfl, h1, h3⟩⟩
        · exact ⟨_, h2, Or.inr ⟨rfl, h1, h3⟩⟩
      subst zr_
      refine Ev.to (st' := [(0, zv)]) ?_ rfl rfl rfl
      rcases zor with ⟨rfl, zl, rfl⟩ | ⟨rfl, zl, zf, z100, z11, zT⟩
      · skip
        refine e_if_eq (pc := 22) (tgt := 35) dX7_type_22 rfl (fun h22 => ?_) (fun h22 => ?_)
        · skip
          refine e_bipush (pc := 35) dX7_type_35 rfl (by decide) ?_
          have zan : an_type zm1 b = -4 := by
            unfold an_type; (repeat (first | rw [if_pos (by omega)] | rw [if_neg (by omega)])) <;> rfl
          have znx : TyR zm1 zm1 b := by
            unfold TyR; rw [if_neg (by omega)]
          exact e_iret (pc := 37) dX7_type_37 rfl (by rw [← hQ_]; exact ⟨by rw [zan], znx⟩)
        · skip
          exact absurd h22 (by decide)
      · skip
        refine e_if_eq (pc := 22) (tgt := 35) dX7_type_22 rfl (fun h22 => ?_) (fun h22 => ?_)
        · skip
          exact absurd h22 (by decide)
        · skip
          refine e_aloadn (pc := 25) dX7_type_25 rfl rfl ?_
          refine e_getr (pc := 26) (k := 10) dX7_type_26 fX7_19 s_0 rfl (by decide) ?_
          refine e_getiv (pc := 29) (v := ((L + 1 : Nat) : Int)) dX7_type_29 fX7_133 s_10 rfl (by decide) (z100) ?_
          refine e_goto (pc := 32) (tgt := 37) dX7_type_32 rfl ?_
          have zan : an_type mem b = ((L + 1 : Nat) : Int) := by
            unfold an_type; rw [if_pos ⟨by omega, by omega⟩, if_pos (by omega)]; omega
          have znx : TyR mem zm1 b := by
            unfold TyR; rw [if_pos ⟨⟨by omega, by omega⟩, by omega⟩]; exact ⟨zf, by rw [z100, zL1]; rfl, by rw [z11, zL1]; rfl, zT⟩
          exact e_iret (pc := 37) dX7_type_37 rfl (by rw [← hQ_]; exact ⟨by rw [zan], znx⟩)
    · skip
      refine e_bipush (pc := 11) dX7_type_11 rfl (by decide) ?_
      have zan : an_type mem b = -2 := by
        unfold an_type; (repeat (first | rw [if_pos (by omega)] | rw [if_neg (by omega)])) <;> rfl
      have znx : TyR mem mem b := by
        unfold TyR; rw [if_neg (by omega)]
      exact e_iret (pc := 13) dX7_type_13 rfl (by rw [← hQ_]; exact ⟨by rw [zan], znx⟩)

theorem c_wipe (G : Gm) (mem : Mem) (hT : TxOk mem) : Con G mX7_wipe [(2, 0)] mem (fun r m' => r = some (0, mem 10 0) ∧ Fr scT mem m' ∧ m' 10 0 = ((0 : Nat) : Int) ∧ m' 11 = mem 11 ∧ TxOk m') := by
  refine Con.of (lo := [(2, 0), (3, 0)]) (by decide +kernel) (Nat.le_of_ble_eq_true rfl) rfl ?_
  generalize hQ_ : (fun r m' => r = some (0, mem 10 0) ∧ Fr scT mem m' ∧ m' 10 0 = ((0 : Nat) : Int) ∧ m' 11 = mem 11 ∧ TxOk m' : Option AV → Mem → Prop) = Q_
  refine e_aloadn (pc := 0) dX7_wipe_0 rfl rfl ?_
  refine e_getr (pc := 1) (k := 10) dX7_wipe_1 fX7_19 s_0 rfl (by decide) ?_
  refine e_getiv (pc := 4) (v := mem 10 0) dX7_wipe_4 fX7_133 s_10 rfl (by decide) rfl ?_
  refine e_istoren (pc := 7) (lo' := [(2, 0), (0, mem 10 0)]) dX7_wipe_7 rfl rfl (by decide) rfl ?_
  refine e_aloadn (pc := 8) dX7_wipe_8 rfl rfl ?_
  refine e_getr (pc := 9) (k := 10) dX7_wipe_9 fX7_19 s_0 rfl (by decide) ?_
  have zR := hT.ru
  obtain ⟨L, zL1, zL2, zL3, zL4⟩ := hT
  clear zL4
  refine e_callV (pc := 12) (as := []) (st := []) (t_empties G mem zL3 zR) dX7_wipe_12 lX7_wipe_136 rfl s_10 cn_4 rfl rfl (fun r_ zm1 hq_ => ?_)
  obtain ⟨zr_, zf, z100, z11, zT⟩ := hq_
  subst zr_
  refine Ev.to (st' := []) ?_ rfl rfl rfl
  refine e_iloadn (pc := 15) dX7_wipe_15 rfl rfl ?_
  exact e_iret (pc := 16) dX7_wipe_16 rfl (by rw [← hQ_]; exact ⟨rfl, zf, z100, z11, zT⟩)
