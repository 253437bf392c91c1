theorem bst_lt (f : Nat → Int) (last : Bool) : ∀ k : Nat, 0 ≤ (bst f last k).1 ∧ ((bst f last k).1 < k ∨ (bst f last k).1 = 0)
  | 0 => by simp [bst]
  | k + 1 => by
    have h := bst_lt f last k
    unfold bst
    split
    · show 0 ≤ (k : Int) ∧ ((k : Int) < _ ∨ _); omega
    · omega
/-- BEST as a number of minutes -/
def bestN (f : Nat → Int) (last : Bool) : Nat := (bst f last 61).1.toNat
theorem bestN_le (f : Nat → Int) (last : Bool) : bestN f last ≤ 60 := by have := bst_lt f last 61; unfold bestN; omega
theorem bestN_eq (f : Nat → Int) (last : Bool) : bestV f last = ((bestN f last : Nat) : Int) := by have := bst_lt f last 61; unfold bestN bestV; omega

theorem t_bestN_16 (G : Gm) (mem : Mem) (o : Nat) (last : Bool) (lv : Int) (hlv : lv = if last then 1 else 0) (hC : CoOk mem) (hE : EvOk16 mem) (hR : RuOk mem) (ho : o < 8) (hk : mem 18 o = 0) (hl : mem 16 4 = 0) (ha : mem 16 5 = 0) : Con G mX1_bestOf [(2, 16), (0, (o : Int)), (0, lv)] mem (fun r m' => r = some (0, ((bestN (prF16 mem o) last : Nat) : Int)) ∧ GS16 mem m' o) := by
  subst hlv
  refine (t_bestOf_16 G mem o last hC hE hR ho hk (by rw [hl]; exact bt_0 o) (by rw [ha]; exact bt_0 o)).mono (fun r m' h => ?_)
  rw [bestN_eq] at h
  exact h
theorem prF_rows16 {mem zm : Mem} {tm kd am : Nat → Int} {late aw : Int} (h0 : zm 17 = tm) (h1 : zm 18 = kd) (h2 : zm 19 = am) (h3 : zm 16 4 = late) (h4 : zm 16 5 = aw) (q2 : zm 2 = mem 2) (q3 : zm 3 = mem 3) (q5 : zm 5 = mem 5) (q6 : zm 6 = mem 6) (q7 : zm 7 = mem 7) (q9 : zm 9 = mem 9) (q12 : zm 12 = mem 12) (q13 : zm 13 = mem 13) (q14 : zm 14 = mem 14) (q15 : zm 15 = mem 15) (qr : zm 10 4 = mem 10 4) : prF16 zm = prA mem tm kd am late aw := by
  have h := prA_mv (mem := mem) (mv := zm) qr q12 q13 q14 q15 q5 q6 q7 q9 q2 q3 tm kd am late aw
  rw [← h]
  funext o j
  unfold prF16 prA
  rw [h0, h1, h2, h3, h4]

theorem t_bestN_25 (G : Gm) (mem : Mem) (o : Nat) (last : Bool) (lv : Int) (hlv : lv = if last then 1 else 0) (hC : CoOk mem) (hE : EvOk25 mem) (hR : RuOk mem) (ho : o < 8) (hk : mem 27 o = 0) (hl : mem 25 4 = 0) (ha : mem 25 5 = 0) : Con G mX1_bestOf [(2, 25), (0, (o : Int)), (0, lv)] mem (fun r m' => r = some (0, ((bestN (prF25 mem o) last : Nat) : Int)) ∧ GS25 mem m' o) := by
  subst hlv
  refine (t_bestOf_25 G mem o last hC hE hR ho hk (by rw [hl]; exact bt_0 o) (by rw [ha]; exact bt_0 o)).mono (fun r m' h => ?_)
  rw [bestN_eq] at h
  exact h
theorem prF_rows25 {mem zm : Mem} {tm kd am : Nat → Int} {late aw : Int} (h0 : zm 26 = tm) (h1 : zm 27 = kd) (h2 : zm 28 = am) (h3 : zm 25 4 = late) (h4 : zm 25 5 = aw) (q2 : zm 2 = mem 2) (q3 : zm 3 = mem 3) (q5 : zm 5 = mem 5) (q6 : zm 6 = mem 6) (q7 : zm 7 = mem 7) (q9 : zm 9 = mem 9) (q12 : zm 12 = mem 12) (q13 : zm 13 = mem 13) (q14 : zm 14 = mem 14) (q15 : zm 15 = mem 15) (qr : zm 10 4 = mem 10 4) : prF25 zm = prA mem tm kd am late aw := by
  have h := prA_mv (mem := mem) (mv := zm) qr q12 q13 q14 q15 q5 q6 q7 q9 q2 q3 tm kd am late aw
  rw [← h]
  funext o j
  unfold prF25 prA
  rw [h0, h1, h2, h3, h4]

theorem t_firstRestless (G : Gm) (mem : Mem) (hC : CoOk mem) (hE : EvOk16 mem) (hR : RuOk mem) (hl : mem 16 4 = 0) (ha : mem 16 5 = 0) : Con G mX1_firstRestless [(2, 16)] mem (fun r m' => r = some (0, fromK (fun c => decide (mem 18 c = 0 ∧ prA mem (mem 17) (mem 18) (mem 19) (mem 16 4) (mem 16 5) c (bestN (prA mem (mem 17) (mem 18) (mem 19) (mem 16 4) (mem 16 5) c) false) < prA mem (mem 17) (mem 18) (mem 19) (mem 16 4) (mem 16 5) c (mem 19 c).toNat)) 8 0) ∧ Fr (scG 16) mem m') := by
  refine Con.of (lo := [(2, 16), (3, 0), (3, 0)]) (by decide +kernel) (Nat.le_of_ble_eq_true rfl) rfl ?_
  generalize hQ_ : (fun r m' => r = some (0, fromK (fun c => decide (mem 18 c = 0 ∧ prA mem (mem 17) (mem 18) (mem 19) (mem 16 4) (mem 16 5) c (bestN (prA mem (mem 17) (mem 18) (mem 19) (mem 16 4) (mem 16 5) c) false) < prA mem (mem 17) (mem 18) (mem 19) (mem 16 4) (mem 16 5) c (mem 19 c).toNat)) 8 0) ∧ Fr (scG 16) mem m' : Option AV → Mem → Prop) = Q_
  refine e_iconst (pc := 0) dX1_firstRestless_0 (by decide) ?_
  refine e_istoren (pc := 1) (lo' := [(2, 16), (0, 0), (3, 0)]) dX1_firstRestless_1 rfl rfl (by decide) rfl ?_
  have L2 : ∀ (n_ : Nat) (k : Nat) (zmv : Mem), 8 - k = n_ → (k ≤ 8) → (Fr (scG 16) mem zmv) → (fromK (fun c => decide (mem 18 c = 0 ∧ prA mem (mem 17) (mem 18) (mem 19) (mem 16 4) (mem 16 5) c (bestN (prA mem (mem 17) (mem 18) (mem 19) (mem 16 4) (mem 16 5) c) false) < prA mem (mem 17) (mem 18) (mem 19) (mem 16 4) (mem 16 5) c (mem 19 c).toNat)) 8 0 = fromK (fun c => decide (mem 18 c = 0 ∧ prA mem (mem 17) (mem 18) (mem 19) (mem 16 4) (mem 16 5) c (bestN (prA mem (mem 17) (mem 18) (mem 19) (mem 16 4) (mem 16 5) c) false) < prA mem (mem 17) (mem 18) (mem 19) (mem 16 4) (mem 16 5) c (mem 19 c).toNat)) (8 - k) k) → Ev G mX1_firstRestless Q_ 2 [(2, 16), (0, (k : Int)), (3, 0)] [] zmv := by
    intro n_
    induction n_ using Nat.strongRecOn with
    | ind n_ ih2 =>
      intro k zmv hn_ zk zf zr
      refine e_iloadn (pc := 2) dX1_firstRestless_2 rfl rfl ?_
      refine e_bipush (pc := 3) dX1_firstRestless_3 rfl (by decide) ?_
      refine e_icmp_ge (pc := 5) (tgt := 55) dX1_firstRestless_5 rfl (fun h5 => ?_) (fun h5 => ?_)
      · skip
        refine e_iconst (pc := 55) dX1_firstRestless_55 (by decide) ?_
        have zr3 : fromK (fun c => decide (mem 18 c = 0 ∧ prA mem (mem 17) (mem 18) (mem 19) (mem 16 4) (mem 16 5) c (bestN (prA mem (mem 17) (mem 18) (mem 19) (mem 16 4) (mem 16 5) c) false) < prA mem (mem 17) (mem 18) (mem 19) (mem 16 4) (mem 16 5) c (mem 19 c).toNat)) 8 0 = -1 := by
          rw [zr, show 8 - k = 0 by omega]; rfl
        exact e_iret (pc := 56) dX1_firstRestless_56 rfl (by rw [← hQ_]; exact ⟨by rw [zr3], zf⟩)
      · skip
        refine e_aloadn (pc := 8) dX1_firstRestless_8 rfl rfl ?_
        refine e_getr (pc := 9) (k := 18) dX1_firstRestless_9 fX1_18 s_16 rfl (by decide) ?_
        refine e_iloadn (pc := 12) dX1_firstRestless_12 rfl rfl ?_
        refine e_ialdv (pc := 13) (v := mem 18 k) dX1_firstRestless_13 s_18 (by omega) (zf 18 k rfl) ?_
        refine e_if_eq (pc := 14) (tgt := 20) dX1_firstRestless_14 rfl (fun h14 => ?_) (fun h14 => ?_)
        · skip
          obtain ⟨q0, q1, q2, q3, q4, q5, q6, q7, q8, q9, q10, q11, q12, q13, q14, q15⟩ := fr_16 zf
          have zC := CoOk.mv zf hC
          have zE := EvOk16.mv zf hE
          have zR := RuOk.mv q15 q9 q10 q11 q12 hR
          have zl : zmv 16 4 = 0 := q13.trans hl
          have za : zmv 16 5 = 0 := q14.trans ha
          have zk0 : zmv 18 k = 0 := by rw [q1]; exact h14
          have zaim := (hE.2 k (by omega)).2.1
          have zpm := prF_mv16 zf
          have zbn := bestN_le (prA mem (mem 17) (mem 18) (mem 19) (mem 16 4) (mem 16 5) k) false
          refine e_aloadn (pc := 20) dX1_firstRestless_20 rfl rfl ?_
          refine e_iloadn (pc := 21) dX1_firstRestless_21 rfl rfl ?_
          refine e_iconst (pc := 22) dX1_firstRestless_22 (by decide) ?_
          refine e_callV (pc := 23) (as := [(0, (k : Int)), (0, 0)]) (st := []) (t_bestN_16 G zmv k false 0 rfl zC zE zR (by omega) zk0 zl za) dX1_firstRestless_23 lX1_firstRestless_114 rfl s_16 cn_1 rfl rfl (fun r_ zm1 hq_ => ?_)
          rw [zpm] at hq_
          obtain ⟨zr_, zG1⟩ := hq_
          subst zr_
          refine Ev.to (st' := [(0, ((bestN (prA mem (mem 17) (mem 18) (mem 19) (mem 16 4) (mem 16 5) k) false : Nat) : Int))]) ?_ rfl rfl rfl
          refine e_istoren (pc := 26) (lo' := [(2, 16), (0, (k : Int)), (0, ((bestN (prA mem (mem 17) (mem 18) (mem 19) (mem 16 4) (mem 16 5) k) false : Nat) : Int))]) dX1_firstRestless_26 rfl rfl (by decide) rfl ?_
          refine e_aloadn (pc := 27) dX1_firstRestless_27 rfl rfl ?_
          refine e_iloadn (pc := 28) dX1_firstRestless_28 rfl rfl ?_
          refine e_iloadn (pc := 29) dX1_firstRestless_29 rfl rfl ?_
          refine e_callV (pc := 30) (as := [(0, (k : Int)), (0, ((bestN (prA mem (mem 17) (mem 18) (mem 19) (mem 16 4) (mem 16 5) k) false : Nat) : Int))]) (st := []) (t_openPrice_16 G zmv zm1 k (bestN (prA mem (mem 17) (mem 18) (mem 19) (mem 16 4) (mem 16 5) k) false) (by omega) zC zE zR (by omega) zk0 (by rw [zl]; exact bt_0 k) (by rw [za]; exact bt_0 k) zG1) dX1_firstRestless_30 lX1_firstRestless_118 rfl s_16 cn_1 rfl rfl (fun r_ zm2 hq_ => ?_)
          rw [zpm] at hq_
          obtain ⟨zr_, zG2⟩ := hq_
          subst zr_
          refine Ev.to (st' := [(0, prA mem (mem 17) (mem 18) (mem 19) (mem 16 4) (mem 16 5) k (bestN (prA mem (mem 17) (mem 18) (mem 19) (mem 16 4) (mem 16 5) k) false))]) ?_ rfl rfl rfl
          refine e_aloadn (pc := 33) dX1_firstRestless_33 rfl rfl ?_
          refine e_iloadn (pc := 34) dX1_firstRestless_34 rfl rfl ?_
          refine e_aloadn (pc := 35) dX1_firstRestless_35 rfl rfl ?_
          refine e_getr (pc := 36) (k := 19) dX1_firstRestless_36 fX1_21 s_16 rfl (by decide) ?_
          refine e_iloadn (pc := 39) dX1_firstRestless_39 rfl rfl ?_
          refine e_ialdv (pc := 40) (v := (((mem 19 k).toNat : Nat) : Int)) dX1_firstRestless_40 s_19 (by omega) (((zG2.1 19 k rfl).trans (zf 19 k rfl)).trans (by omega)) ?_
          refine e_callV (pc := 41) (as := [(0, (k : Int)), (0, (((mem 19 k).toNat : Nat) : Int))]) (st := [(0, prA mem (mem 17) (mem 18) (mem 19) (mem 16 4) (mem 16 5) k (bestN (prA mem (mem 17) (mem 18) (mem 19) (mem 16 4) (mem 16 5) k) false))]) (t_openPrice_16 G zmv zm2 k (mem 19 k).toNat (by omega) zC zE zR (by omega) zk0 (by rw [zl]; exact bt_0 k) (by rw [za]; exact bt_0 k) zG2) dX1_firstRestless_41 lX1_firstRestless_118 rfl s_16 cn_1 rfl rfl (fun r_ zm3 hq_ => ?_)
          rw [zpm] at hq_
          obtain ⟨zr_, zG3⟩ := hq_
          subst zr_
          refine Ev.to (st' := [(0, prA mem (mem 17) (mem 18) (mem 19) (mem 16 4) (mem 16 5) k (mem 19 k).toNat), (0, prA mem (mem 17) (mem 18) (mem 19) (mem 16 4) (mem 16 5) k (bestN (prA mem (mem 17) (mem 18) (mem 19) (mem 16 4) (mem 16 5) k) false))]) ?_ rfl rfl rfl
          refine e_icmp_ge (pc := 44) (tgt := 49) dX1_firstRestless_44 rfl (fun h44 => ?_) (fun h44 => ?_)
          · skip
            refine e_iinc (pc := 49) (lo' := [(2, 16), (0, (k : Int) + 1), (0, ((bestN (prA mem (mem 17) (mem 18) (mem 19) (mem 16 4) (mem 16 5) k) false : Nat) : Int))]) dX1_firstRestless_49 rfl (by omega) rfl (by decide) rfl ?_
            refine e_goto (pc := 52) (tgt := 2) dX1_firstRestless_52 rfl ?_
            have zr2 : fromK (fun c => decide (mem 18 c = 0 ∧ prA mem (mem 17) (mem 18) (mem 19) (mem 16 4) (mem 16 5) c (bestN (prA mem (mem 17) (mem 18) (mem 19) (mem 16 4) (mem 16 5) c) false) < prA mem (mem 17) (mem 18) (mem 19) (mem 16 4) (mem 16 5) c (mem 19 c).toNat)) 8 0 = fromK (fun c => decide (mem 18 c = 0 ∧ prA mem (mem 17) (mem 18) (mem 19) (mem 16 4) (mem 16 5) c (bestN (prA mem (mem 17) (mem 18) (mem 19) (mem 16 4) (mem 16 5) c) false) < prA mem (mem 17) (mem 18) (mem 19) (mem 16 4) (mem 16 5) c (mem 19 c).toNat)) (8 - (k + 1)) (k + 1) := by
              rw [zr, show 8 - k = (8 - (k + 1)) + 1 by omega]
              show (if (fun c => decide (mem 18 c = 0 ∧ prA mem (mem 17) (mem 18) (mem 19) (mem 16 4) (mem 16 5) c (bestN (prA mem (mem 17) (mem 18) (mem 19) (mem 16 4) (mem 16 5) c) false) < prA mem (mem 17) (mem 18) (mem 19) (mem 16 4) (mem 16 5) c (mem 19 c).toNat)) k then _ else _) = _
              rw [if_neg (by simp; intro _; omega)]
            refine Ev.fgt [2] ?_
            exact Ev.to (ih2 _ (by omega) (k + 1) zm3 (rfl) (by omega) (zf.tr zG3.1) (zr2)) rfl rfl rfl
          · skip
            refine e_iloadn (pc := 47) dX1_firstRestless_47 rfl rfl ?_
            have zr3 : fromK (fun c => decide (mem 18 c = 0 ∧ prA mem (mem 17) (mem 18) (mem 19) (mem 16 4) (mem 16 5) c (bestN (prA mem (mem 17) (mem 18) (mem 19) (mem 16 4) (mem 16 5) c) false) < prA mem (mem 17) (mem 18) (mem 19) (mem 16 4) (mem 16 5) c (mem 19 c).toNat)) 8 0 = (k : Int) := by
              rw [zr, show 8 - k = (8 - (k + 1)) + 1 by omega]
              show (if (fun c => decide (mem 18 c = 0 ∧ prA mem (mem 17) (mem 18) (mem 19) (mem 16 4) (mem 16 5) c (bestN (prA mem (mem 17) (mem 18) (mem 19) (mem 16 4) (mem 16 5) c) false) < prA mem (mem 17) (mem 18) (mem 19) (mem 16 4) (mem 16 5) c (mem 19 c).toNat)) k then _ else _) = _
              rw [if_pos (by simp; exact ⟨h14, h44⟩)]
            exact e_iret (pc := 48) dX1_firstRestless_48 rfl (by rw [← hQ_]; exact ⟨by rw [zr3], zf.tr zG3.1⟩)
        · skip
          refine e_goto (pc := 17) (tgt := 49) dX1_firstRestless_17 rfl ?_
          refine e_iinc (pc := 49) (lo' := [(2, 16), (0, (k : Int) + 1), (3, 0)]) dX1_firstRestless_49 rfl (by omega) rfl (by decide) rfl ?_
          refine e_goto (pc := 52) (tgt := 2) dX1_firstRestless_52 rfl ?_
          have zr2 : fromK (fun c => decide (mem 18 c = 0 ∧ prA mem (mem 17) (mem 18) (mem 19) (mem 16 4) (mem 16 5) c (bestN (prA mem (mem 17) (mem 18) (mem 19) (mem 16 4) (mem 16 5) c) false) < prA mem (mem 17) (mem 18) (mem 19) (mem 16 4) (mem 16 5) c (mem 19 c).toNat)) 8 0 = fromK (fun c => decide (mem 18 c = 0 ∧ prA mem (mem 17) (mem 18) (mem 19) (mem 16 4) (mem 16 5) c (bestN (prA mem (mem 17) (mem 18) (mem 19) (mem 16 4) (mem 16 5) c) false) < prA mem (mem 17) (mem 18) (mem 19) (mem 16 4) (mem 16 5) c (mem 19 c).toNat)) (8 - (k + 1)) (k + 1) := by
            rw [zr, show 8 - k = (8 - (k + 1)) + 1 by omega]
            show (if (fun c => decide (mem 18 c = 0 ∧ prA mem (mem 17) (mem 18) (mem 19) (mem 16 4) (mem 16 5) c (bestN (prA mem (mem 17) (mem 18) (mem 19) (mem 16 4) (mem 16 5) c) false) < prA mem (mem 17) (mem 18) (mem 19) (mem 16 4) (mem 16 5) c (mem 19 c).toNat)) k then _ else _) = _
            rw [if_neg (by simp; intro z1; exact absurd z1 h14)]
          exact Ev.to (ih2 _ (by omega) (k + 1) zmv (rfl) (by omega) (zf) (zr2)) rfl rfl rfl
  exact Ev.to (L2 _ 0 mem (rfl) (by omega) (Fr.rf) (rfl)) rfl rfl rfl
