theorem stF_mv {mem mv : Mem} (h4 : mv 10 4 = mem 10 4) (h12 : mv 12 = mem 12) (h13 : mv 13 = mem 13) (h14 : mv 14 = mem 14) (h15 : mv 15 = mem 15) (kd am : Nat → Int) (told late aw : Int) (dl lag seen : Nat → Int) : stF mv kd am told late aw dl lag seen = stF mem kd am told late aw dl lag seen := by
  unfold stF
  congr 1
  funext t
  exact propext (RB_mv h4 h12 h13 h14 h15)
/-- what o pays at minute j, all others as they are -/
noncomputable def prA (mem : Mem) (tm kd am : Nat → Int) (late aw : Int) (o j : Nat) : Int := priceV (mem 5) (mem 6) (mem 7) (tm 0) (tm 1) (tm 2) o (j : Int) (stF mem kd (uset am o (j : Int)) (tm 0) late aw (mem 9) (mem 2) (mem 3))
theorem prA_mv {mem mv : Mem} (h4 : mv 10 4 = mem 10 4) (h12 : mv 12 = mem 12) (h13 : mv 13 = mem 13) (h14 : mv 14 = mem 14) (h15 : mv 15 = mem 15) (h5 : mv 5 = mem 5) (h6 : mv 6 = mem 6) (h7 : mv 7 = mem 7) (h9 : mv 9 = mem 9) (h2 : mv 2 = mem 2) (h3 : mv 3 = mem 3) (tm kd am : Nat → Int) (late aw : Int) : prA mv tm kd am late aw = prA mem tm kd am late aw := by
  funext o j
  unfold prA
  rw [h5, h6, h7, h9, h2, h3, stF_mv h4 h12 h13 h14 h15]
/-- the first from k on, of n, of whom p is so; -1 -/
def fromK (p : Nat → Bool) : Nat → Nat → Int
  | 0, _ => -1
  | n + 1, k => if p k then (k : Int) else fromK p n (k + 1)
/-- what all pay together -/
noncomputable def togA (mem : Mem) (tm kd am : Nat → Int) (late aw : Int) : Int := sumTo (fun c => if kd c = -1 then 0 else priceV (mem 5) (mem 6) (mem 7) (tm 0) (tm 1) (tm 2) c (whF kd am (tm 0) late aw (mem 9) (mem 2) (mem 3) c) (stF mem kd am (tm 0) late aw (mem 9) (mem 2) (mem 3))) 8
theorem whF_bd {kd am : Nat → Int} {told late aw : Int} {dl lag seen : Nat → Int} (hf : ∀ c, c < 8 → 0 ≤ fmR kd am told late aw dl c ∧ fmR kd am told late aw dl c ≤ 60) (hl : ∀ c, c < 8 → isK kd aw (-1) c = true → 1 ≤ lag c) : ∀ c, c < 8 → 0 ≤ whF kd am told late aw dl lag seen c ∧ whF kd am told late aw dl lag seen c ≤ 60 := fun c hc => (comeF_is (sim_come (seen := seen) (fun c hc _ => hf c hc) hl) c hc).1

theorem wb_16 {mem : Mem} (hC : CoOk mem) (hE : EvOk16 mem) : ∀ c, c < 8 → 0 ≤ whF (mem 18) (mem 19) (mem 17 0) (mem 16 4) (mem 16 5) (mem 9) (mem 2) (mem 3) c ∧ whF (mem 18) (mem 19) (mem 17 0) (mem 16 4) (mem 16 5) (mem 9) (mem 2) (mem 3) c ≤ 60 := by
  refine whF_bd (fun c hc => ?_) (fun c hc h => (kr_16 hC hE (-1) c hc h).1.1)
  have := fb_16 hC hE c hc
  unfold fmR
  split <;> omega
theorem fr_16 {mem zm : Mem} (zf : Fr (scG 16) mem zm) : zm 17 = mem 17 ∧ zm 18 = mem 18 ∧ zm 19 = mem 19 ∧ zm 2 = mem 2 ∧ zm 3 = mem 3 ∧ zm 5 = mem 5 ∧ zm 6 = mem 6 ∧ zm 7 = mem 7 ∧ zm 9 = mem 9 ∧ zm 12 = mem 12 ∧ zm 13 = mem 13 ∧ zm 14 = mem 14 ∧ zm 15 = mem 15 ∧ zm 16 4 = mem 16 4 ∧ zm 16 5 = mem 16 5 ∧ zm 10 4 = mem 10 4 := ⟨funext (fun j => zf 17 j rfl), funext (fun j => zf 18 j rfl), funext (fun j => zf 19 j rfl), funext (fun j => zf 2 j rfl), funext (fun j => zf 3 j rfl), funext (fun j => zf 5 j rfl), funext (fun j => zf 6 j rfl), funext (fun j => zf 7 j rfl), funext (fun j => zf 9 j rfl), funext (fun j => zf 12 j rfl), funext (fun j => zf 13 j rfl), funext (fun j => zf 14 j rfl), funext (fun j => zf 15 j rfl), zf 16 4 rfl, zf 16 5 rfl, zf 10 4 rfl⟩
theorem prF_mv16 {mem zm : Mem} (zf : Fr (scG 16) mem zm) : prF16 zm = prA mem (mem 17) (mem 18) (mem 19) (mem 16 4) (mem 16 5) := by
  obtain ⟨q0, q1, q2, q3, q4, q5, q6, q7, q8, q9, q10, q11, q12, q13, q14, q15⟩ := fr_16 zf
  have h := prA_mv (mem := mem) (mv := zm) q15 q9 q10 q11 q12 q5 q6 q7 q8 q3 q4 (zm 17) (zm 18) (zm 19) (zm 16 4) (zm 16 5)
  rw [q0, q1, q2, q13, q14] at h
  rw [← h]
  funext o j
  unfold prF16 prA
  rw [q0, q1, q2, q13, q14]

theorem t_together_16 (G : Gm) (mem : Mem) (hC : CoOk mem) (hE : EvOk16 mem) (hR : RuOk mem) : Con G mX1_together [(2, 16)] mem (fun r m' => r = some (0, togA mem (mem 17) (mem 18) (mem 19) (mem 16 4) (mem 16 5)) ∧ Fr (scG 16) mem m') := by
  refine Con.of (lo := [(2, 16), (3, 0), (3, 0), (3, 0)]) (by decide +kernel) (Nat.le_of_ble_eq_true rfl) rfl ?_
  generalize hQ_ : (fun r m' => r = some (0, togA mem (mem 17) (mem 18) (mem 19) (mem 16 4) (mem 16 5)) ∧ Fr (scG 16) mem m' : Option AV → Mem → Prop) = Q_
  refine e_aloadn (pc := 0) dX1_together_0 rfl rfl ?_
  refine e_callV (pc := 1) (as := []) (st := []) (t_reckon_16 G mem hC hE hR) dX1_together_1 lX1_together_68 rfl s_16 cn_1 rfl rfl (fun r_ zm hq_ => ?_)
  obtain ⟨zr_, zvb, zf, zw⟩ := hq_
  subst zr_
  refine Ev.to (st' := [(0, stF mem (mem 18) (mem 19) (mem 17 0) (mem 16 4) (mem 16 5) (mem 9) (mem 2) (mem 3))]) ?_ rfl rfl rfl
  refine e_istoren (pc := 4) (lo' := [(2, 16), (0, stF mem (mem 18) (mem 19) (mem 17 0) (mem 16 4) (mem 16 5) (mem 9) (mem 2) (mem 3)), (3, 0), (3, 0)]) dX1_together_4 rfl rfl (by decide) rfl ?_
  refine e_iconst (pc := 5) dX1_together_5 (by decide) ?_
  refine e_istoren (pc := 6) (lo' := [(2, 16), (0, stF mem (mem 18) (mem 19) (mem 17 0) (mem 16 4) (mem 16 5) (mem 9) (mem 2) (mem 3)), (0, 0), (3, 0)]) dX1_together_6 rfl rfl (by decide) rfl ?_
  refine e_iconst (pc := 7) dX1_together_7 (by decide) ?_
  refine e_istoren (pc := 8) (lo' := [(2, 16), (0, stF mem (mem 18) (mem 19) (mem 17 0) (mem 16 4) (mem 16 5) (mem 9) (mem 2) (mem 3)), (0, 0), (0, 0)]) dX1_together_8 rfl rfl (by decide) rfl ?_
  have L9 : ∀ (n_ : Nat) (k : Nat), 8 - k = n_ → (k ≤ 8) → Ev G mX1_together Q_ 9 [(2, 16), (0, stF mem (mem 18) (mem 19) (mem 17 0) (mem 16 4) (mem 16 5) (mem 9) (mem 2) (mem 3)), (0, sumTo (fun c => if mem 18 c = -1 then 0 else priceV (mem 5) (mem 6) (mem 7) (mem 17 0) (mem 17 1) (mem 17 2) c (whF (mem 18) (mem 19) (mem 17 0) (mem 16 4) (mem 16 5) (mem 9) (mem 2) (mem 3) c) (stF mem (mem 18) (mem 19) (mem 17 0) (mem 16 4) (mem 16 5) (mem 9) (mem 2) (mem 3))) k), (0, (k : Int))] [] zm := by
    intro n_
    induction n_ using Nat.strongRecOn with
    | ind n_ ih9 =>
      intro k hn_ zk
      have zpb : ∀ j, j < 8 → -99 ≤ priceV (mem 5) (mem 6) (mem 7) (mem 17 0) (mem 17 1) (mem 17 2) j (whF (mem 18) (mem 19) (mem 17 0) (mem 16 4) (mem 16 5) (mem 9) (mem 2) (mem 3) j) (stF mem (mem 18) (mem 19) (mem 17 0) (mem 16 4) (mem 16 5) (mem 9) (mem 2) (mem 3)) ∧ priceV (mem 5) (mem 6) (mem 7) (mem 17 0) (mem 17 1) (mem 17 2) j (whF (mem 18) (mem 19) (mem 17 0) (mem 16 4) (mem 16 5) (mem 9) (mem 2) (mem 3) j) (stF mem (mem 18) (mem 19) (mem 17 0) (mem 16 4) (mem 16 5) (mem 9) (mem 2) (mem 3)) ≤ 6039 := fun j hj => by
        have z1 := wb_16 hC hE j hj
        exact price_bd16 (o := j) hC hE hj z1 zvb
      have zsb := sumTo_bd (f := (fun c => if mem 18 c = -1 then 0 else priceV (mem 5) (mem 6) (mem 7) (mem 17 0) (mem 17 1) (mem 17 2) c (whF (mem 18) (mem 19) (mem 17 0) (mem 16 4) (mem 16 5) (mem 9) (mem 2) (mem 3) c) (stF mem (mem 18) (mem 19) (mem 17 0) (mem 16 4) (mem 16 5) (mem 9) (mem 2) (mem 3)))) (a := -99) (b := 6039) (n := k) (fun j hj => by
        have z1 := zpb j (by omega)
        show -99 ≤ (if mem 18 j = -1 then 0 else _) ∧ (if mem 18 j = -1 then 0 else _) ≤ 6039
        split <;> omega)
      have zpk := zpb k
      refine e_iloadn (pc := 9) dX1_together_9 rfl rfl ?_
      refine e_bipush (pc := 10) dX1_together_10 rfl (by decide) ?_
      refine e_icmp_ge (pc := 12) (tgt := 46) dX1_together_12 rfl (fun h12 => ?_) (fun h12 => ?_)
      · skip
        refine e_iloadn (pc := 46) dX1_together_46 rfl rfl ?_
        exact e_iret (pc := 47) dX1_together_47 rfl (by rw [← hQ_, show k = 8 by omega]; exact ⟨rfl, zf⟩)
      · skip
        refine e_aloadn (pc := 15) dX1_together_15 rfl rfl ?_
        refine e_getr (pc := 16) (k := 18) dX1_together_16 fX1_18 s_16 rfl (by decide) ?_
        refine e_iloadn (pc := 19) dX1_together_19 rfl rfl ?_
        refine e_ialdv (pc := 20) (v := mem 18 k) dX1_together_20 s_18 (by omega) (zf 18 k rfl) ?_
        refine e_iconst (pc := 21) dX1_together_21 (by decide) ?_
        refine e_icmp_eq (pc := 22) (tgt := 40) dX1_together_22 rfl (fun h22 => ?_) (fun h22 => ?_)
        · skip
          refine e_iinc (pc := 40) (lo' := [(2, 16), (0, stF mem (mem 18) (mem 19) (mem 17 0) (mem 16 4) (mem 16 5) (mem 9) (mem 2) (mem 3)), (0, sumTo (fun c => if mem 18 c = -1 then 0 else priceV (mem 5) (mem 6) (mem 7) (mem 17 0) (mem 17 1) (mem 17 2) c (whF (mem 18) (mem 19) (mem 17 0) (mem 16 4) (mem 16 5) (mem 9) (mem 2) (mem 3) c) (stF mem (mem 18) (mem 19) (mem 17 0) (mem 16 4) (mem 16 5) (mem 9) (mem 2) (mem 3))) k), (0, (k : Int) + 1)]) dX1_together_40 rfl (by omega) rfl (by decide) rfl ?_
          refine e_goto (pc := 43) (tgt := 9) dX1_together_43 rfl ?_
          have zs9 : sumTo (fun c => if mem 18 c = -1 then 0 else priceV (mem 5) (mem 6) (mem 7) (mem 17 0) (mem 17 1) (mem 17 2) c (whF (mem 18) (mem 19) (mem 17 0) (mem 16 4) (mem 16 5) (mem 9) (mem 2) (mem 3) c) (stF mem (mem 18) (mem 19) (mem 17 0) (mem 16 4) (mem 16 5) (mem 9) (mem 2) (mem 3))) (k + 1) = sumTo (fun c => if mem 18 c = -1 then 0 else priceV (mem 5) (mem 6) (mem 7) (mem 17 0) (mem 17 1) (mem 17 2) c (whF (mem 18) (mem 19) (mem 17 0) (mem 16 4) (mem 16 5) (mem 9) (mem 2) (mem 3) c) (stF mem (mem 18) (mem 19) (mem 17 0) (mem 16 4) (mem 16 5) (mem 9) (mem 2) (mem 3))) k := by
            show _ + (if mem 18 k = -1 then _ else _) = _
            rw [if_pos h22, Int.add_zero]
          exact Ev.to (ih9 _ (by omega) (k + 1) (rfl) (by omega)) (by rw [zs9]; rfl) rfl rfl
        · skip
          refine e_iloadn (pc := 25) dX1_together_25 rfl rfl ?_
          refine e_aloadn (pc := 26) dX1_together_26 rfl rfl ?_
          refine e_iloadn (pc := 27) dX1_together_27 rfl rfl ?_
          refine e_aloadn (pc := 28) dX1_together_28 rfl rfl ?_
          refine e_getr (pc := 29) (k := 20) dX1_together_29 fX1_24 s_16 rfl (by decide) ?_
          refine e_iloadn (pc := 32) dX1_together_32 rfl rfl ?_
          refine e_ialdv (pc := 33) (v := (whF (mem 18) (mem 19) (mem 17 0) (mem 16 4) (mem 16 5) (mem 9) (mem 2) (mem 3) k)) dX1_together_33 s_20 (by omega) (zw k (by omega)) ?_
          refine e_iloadn (pc := 34) dX1_together_34 rfl rfl ?_
          obtain ⟨q0, q1, q2, q3, q4, q5, q6, q7, q8, q9, q10, q11, q12, q13, q14, q15⟩ := fr_16 zf
          have zP := t_price_16 G zm k (whF (mem 18) (mem 19) (mem 17 0) (mem 16 4) (mem 16 5) (mem 9) (mem 2) (mem 3) k) (stF mem (mem 18) (mem 19) (mem 17 0) (mem 16 4) (mem 16 5) (mem 9) (mem 2) (mem 3)) (by omega) (wb_16 hC hE k (by omega)) zvb (CoOk.mv zf hC) (EvOk16.mv zf hE)
          rw [q5, q6, q7, q0] at zP
          refine e_callVr (pc := 35) (as := [(0, (k : Int)), (0, (whF (mem 18) (mem 19) (mem 17 0) (mem 16 4) (mem 16 5) (mem 9) (mem 2) (mem 3) k)), (0, stF mem (mem 18) (mem 19) (mem 17 0) (mem 16 4) (mem 16 5) (mem 9) (mem 2) (mem 3))]) (st := [(0, sumTo (fun c => if mem 18 c = -1 then 0 else priceV (mem 5) (mem 6) (mem 7) (mem 17 0) (mem 17 1) (mem 17 2) c (whF (mem 18) (mem 19) (mem 17 0) (mem 16 4) (mem 16 5) (mem 9) (mem 2) (mem 3) c) (stF mem (mem 18) (mem 19) (mem 17 0) (mem 16 4) (mem 16 5) (mem 9) (mem 2) (mem 3))) k)]) (zP) dX1_together_35 lX1_together_72 rfl s_16 cn_1 rfl rfl ?_
          refine e_iaddn (pc := 38) dX1_together_38 (by omega) ?_
          refine e_istoren (pc := 39) (lo' := [(2, 16), (0, stF mem (mem 18) (mem 19) (mem 17 0) (mem 16 4) (mem 16 5) (mem 9) (mem 2) (mem 3)), (0, (sumTo (fun c => if mem 18 c = -1 then 0 else priceV (mem 5) (mem 6) (mem 7) (mem 17 0) (mem 17 1) (mem 17 2) c (whF (mem 18) (mem 19) (mem 17 0) (mem 16 4) (mem 16 5) (mem 9) (mem 2) (mem 3) c) (stF mem (mem 18) (mem 19) (mem 17 0) (mem 16 4) (mem 16 5) (mem 9) (mem 2) (mem 3))) k) + (priceV (mem 5) (mem 6) (mem 7) (mem 17 0) (mem 17 1) (mem 17 2) k (whF (mem 18) (mem 19) (mem 17 0) (mem 16 4) (mem 16 5) (mem 9) (mem 2) (mem 3) k) (stF mem (mem 18) (mem 19) (mem 17 0) (mem 16 4) (mem 16 5) (mem 9) (mem 2) (mem 3)))), (0, (k : Int))]) dX1_together_39 rfl rfl (by decide) rfl ?_
          refine e_iinc (pc := 40) (lo' := [(2, 16), (0, stF mem (mem 18) (mem 19) (mem 17 0) (mem 16 4) (mem 16 5) (mem 9) (mem 2) (mem 3)), (0, (sumTo (fun c => if mem 18 c = -1 then 0 else priceV (mem 5) (mem 6) (mem 7) (mem 17 0) (mem 17 1) (mem 17 2) c (whF (mem 18) (mem 19) (mem 17 0) (mem 16 4) (mem 16 5) (mem 9) (mem 2) (mem 3) c) (stF mem (mem 18) (mem 19) (mem 17 0) (mem 16 4) (mem 16 5) (mem 9) (mem 2) (mem 3))) k) + (priceV (mem 5) (mem 6) (mem 7) (mem 17 0) (mem 17 1) (mem 17 2) k (whF (mem 18) (mem 19) (mem 17 0) (mem 16 4) (mem 16 5) (mem 9) (mem 2) (mem 3) k) (stF mem (mem 18) (mem 19) (mem 17 0) (mem 16 4) (mem 16 5) (mem 9) (mem 2) (mem 3)))), (0, (k : Int) + 1)]) dX1_together_40 rfl (by omega) rfl (by decide) rfl ?_
          refine e_goto (pc := 43) (tgt := 9) dX1_together_43 rfl ?_
          have zs9 : sumTo (fun c => if mem 18 c = -1 then 0 else priceV (mem 5) (mem 6) (mem 7) (mem 17 0) (mem 17 1) (mem 17 2) c (whF (mem 18) (mem 19) (mem 17 0) (mem 16 4) (mem 16 5) (mem 9) (mem 2) (mem 3) c) (stF mem (mem 18) (mem 19) (mem 17 0) (mem 16 4) (mem 16 5) (mem 9) (mem 2) (mem 3))) (k + 1) = sumTo (fun c => if mem 18 c = -1 then 0 else priceV (mem 5) (mem 6) (mem 7) (mem 17 0) (mem 17 1) (mem 17 2) c (whF (mem 18) (mem 19) (mem 17 0) (mem 16 4) (mem 16 5) (mem 9) (mem 2) (mem 3) c) (stF mem (mem 18) (mem 19) (mem 17 0) (mem 16 4) (mem 16 5) (mem 9) (mem 2) (mem 3))) k + priceV (mem 5) (mem 6) (mem 7) (mem 17 0) (mem 17 1) (mem 17 2) k (whF (mem 18) (mem 19) (mem 17 0) (mem 16 4) (mem 16 5) (mem 9) (mem 2) (mem 3) k) (stF mem (mem 18) (mem 19) (mem 17 0) (mem 16 4) (mem 16 5) (mem 9) (mem 2) (mem 3)) := by
            show _ + (if mem 18 k = -1 then _ else _) = _
            rw [if_neg h22]
          exact Ev.to (ih9 _ (by omega) (k + 1) (rfl) (by omega)) (by rw [zs9]; rfl) rfl rfl
  exact Ev.to (L9 _ 0 (rfl) (by omega)) rfl rfl rfl

theorem wb_25 {mem : Mem} (hC : CoOk mem) (hE : EvOk25 mem) : ∀ c, c < 8 → 0 ≤ whF (mem 27) (mem 28) (mem 26 0) (mem 25 4) (mem 25 5) (mem 9) (mem 2) (mem 3) c ∧ whF (mem 27) (mem 28) (mem 26 0) (mem 25 4) (mem 25 5) (mem 9) (mem 2) (mem 3) c ≤ 60 := by
  refine whF_bd (fun c hc => ?_) (fun c hc h => (kr_25 hC hE (-1) c hc h).1.1)
  have := fb_25 hC hE c hc
  unfold fmR
  split <;> omega
theorem fr_25 {mem zm : Mem} (zf : Fr (scG 25) mem zm) : zm 26 = mem 26 ∧ zm 27 = mem 27 ∧ zm 28 = mem 28 ∧ zm 2 = mem 2 ∧ zm 3 = mem 3 ∧ zm 5 = mem 5 ∧ zm 6 = mem 6 ∧ zm 7 = mem 7 ∧ zm 9 = mem 9 ∧ zm 12 = mem 12 ∧ zm 13 = mem 13 ∧ zm 14 = mem 14 ∧ zm 15 = mem 15 ∧ zm 25 4 = mem 25 4 ∧ zm 25 5 = mem 25 5 ∧ zm 10 4 = mem 10 4 := ⟨funext (fun j => zf 26 j rfl), funext (fun j => zf 27 j rfl), funext (fun j => zf 28 j rfl), funext (fun j => zf 2 j rfl), funext (fun j => zf 3 j rfl), funext (fun j => zf 5 j rfl), funext (fun j => zf 6 j rfl), funext (fun j => zf 7 j rfl), funext (fun j => zf 9 j rfl), funext (fun j => zf 12 j rfl), funext (fun j => zf 13 j rfl), funext (fun j => zf 14 j rfl), funext (fun j => zf 15 j rfl), zf 25 4 rfl, zf 25 5 rfl, zf 10 4 rfl⟩
theorem prF_mv25 {mem zm : Mem} (zf : Fr (scG 25) mem zm) : prF25 zm = prA mem (mem 26) (mem 27) (mem 28) (mem 25 4) (mem 25 5) := by
  obtain ⟨q0, q1, q2, q3, q4, q5, q6, q7, q8, q9, q10, q11, q12, q13, q14, q15⟩ := fr_25 zf
  have h := prA_mv (mem := mem) (mv := zm) q15 q9 q10 q11 q12 q5 q6 q7 q8 q3 q4 (zm 26) (zm 27) (zm 28) (zm 25 4) (zm 25 5)
  rw [q0, q1, q2, q13, q14] at h
  rw [← h]
  funext o j
  unfold prF25 prA
  rw [q0, q1, q2, q13, q14]

theorem t_together_25 (G : Gm) (mem : Mem) (hC : CoOk mem) (hE : EvOk25 mem) (hR : RuOk mem) : Con G mX1_together [(2, 25)] mem (fun r m' => r = some (0, togA mem (mem 26) (mem 27) (mem 28) (mem 25 4) (mem 25 5)) ∧ Fr (scG 25) mem m') := by
  refine Con.of (lo := [(2, 25), (3, 0), (3, 0), (3, 0)]) (by decide +kernel) (Nat.le_of_ble_eq_true rfl) rfl ?_
  generalize hQ_ : (fun r m' => r = some (0, togA mem (mem 26) (mem 27) (mem 28) (mem 25 4) (mem 25 5)) ∧ Fr (scG 25) mem m' : Option AV → Mem → Prop) = Q_
  refine e_aloadn (pc := 0) dX1_together_0 rfl rfl ?_
  refine e_callV (pc := 1) (as := []) (st := []) (t_reckon_25 G mem hC hE hR) dX1_together_1 lX1_together_68 rfl s_25 cn_1 rfl rfl (fun r_ zm hq_ => ?_)
  obtain ⟨zr_, zvb, zf, zw⟩ := hq_
  subst zr_
  refine Ev.to (st' := [(0, stF mem (mem 27) (mem 28) (mem 26 0) (mem 25 4) (mem 25 5) (mem 9) (mem 2) (mem 3))]) ?_ rfl rfl rfl
  refine e_istoren (pc := 4) (lo' := [(2, 25), (0, stF mem (mem 27) (mem 28) (mem 26 0) (mem 25 4) (mem 25 5) (mem 9) (mem 2) (mem 3)), (3, 0), (3, 0)]) dX1_together_4 rfl rfl (by decide) rfl ?_
  refine e_iconst (pc := 5) dX1_together_5 (by decide) ?_
  refine e_istoren (pc := 6) (lo' := [(2, 25), (0, stF mem (mem 27) (mem 28) (mem 26 0) (mem 25 4) (mem 25 5) (mem 9) (mem 2) (mem 3)), (0, 0), (3, 0)]) dX1_together_6 rfl rfl (by decide) rfl ?_
  refine e_iconst (pc := 7) dX1_together_7 (by decide) ?_
  refine e_istoren (pc := 8) (lo' := [(2, 25), (0, stF mem (mem 27) (mem 28) (mem 26 0) (mem 25 4) (mem 25 5) (mem 9) (mem 2) (mem 3)), (0, 0), (0, 0)]) dX1_together_8 rfl rfl (by decide) rfl ?_
  have L9 : ∀ (n_ : Nat) (k : Nat), 8 - k = n_ → (k ≤ 8) → Ev G mX1_together Q_ 9 [(2, 25), (0, stF mem (mem 27) (mem 28) (mem 26 0) (mem 25 4) (mem 25 5) (mem 9) (mem 2) (mem 3)), (0, sumTo (fun c => if mem 27 c = -1 then 0 else priceV (mem 5) (mem 6) (mem 7) (mem 26 0) (mem 26 1) (mem 26 2) c (whF (mem 27) (mem 28) (mem 26 0) (mem 25 4) (mem 25 5) (mem 9) (mem 2) (mem 3) c) (stF mem (mem 27) (mem 28) (mem 26 0) (mem 25 4) (mem 25 5) (mem 9) (mem 2) (mem 3))) k), (0, (k : Int))] [] zm := by
    intro n_
    induction n_ using Nat.strongRecOn with
    | ind n_ ih9 =>
      intro k hn_ zk
      have zpb : ∀ j, j < 8 → -99 ≤ priceV (mem 5) (mem 6) (mem 7) (mem 26 0) (mem 26 1) (mem 26 2) j (whF (mem 27) (mem 28) (mem 26 0) (mem 25 4) (mem 25 5) (mem 9) (mem 2) (mem 3) j) (stF mem (mem 27) (mem 28) (mem 26 0) (mem 25 4) (mem 25 5) (mem 9) (mem 2) (mem 3)) ∧ priceV (mem 5) (mem 6) (mem 7) (mem 26 0) (mem 26 1) (mem 26 2) j (whF (mem 27) (mem 28) (mem 26 0) (mem 25 4) (mem 25 5) (mem 9) (mem 2) (mem 3) j) (stF mem (mem 27) (mem 28) (mem 26 0) (mem 25 4) (mem 25 5) (mem 9) (mem 2) (mem 3)) ≤ 6039 := fun j hj => by
        have z1 := wb_25 hC hE j hj
        exact price_bd25 (o := j) hC hE hj z1 zvb
      have zsb := sumTo_bd (f := (fun c => if mem 27 c = -1 then 0 else priceV (mem 5) (mem 6) (mem 7) (mem 26 0) (mem 26 1) (mem 26 2) c (whF (mem 27) (mem 28) (mem 26 0) (mem 25 4) (mem 25 5) (mem 9) (mem 2) (mem 3) c) (stF mem (mem 27) (mem 28) (mem 26 0) (mem 25 4) (mem 25 5) (mem 9) (mem 2) (mem 3)))) (a := -99) (b := 6039) (n := k) (fun j hj => by
        have z1 := zpb j (by omega)
        show -99 ≤ (if mem 27 j = -1 then 0 else _) ∧ (if mem 27 j = -1 then 0 else _) ≤ 6039
        split <;> omega)
      have zpk := zpb k
      refine e_iloadn (pc := 9) dX1_together_9 rfl rfl ?_
      refine e_bipush (pc := 10) dX1_together_10 rfl (by decide) ?_
      refine e_icmp_ge (pc := 12) (tgt := 46) dX1_together_12 rfl (fun h12 => ?_) (fun h12 => ?_)
      · skip
        refine e_iloadn (pc := 46) dX1_together_46 rfl rfl ?_
        exact e_iret (pc := 47) dX1_together_47 rfl (by rw [← hQ_, show k = 8 by omega]; exact ⟨rfl, zf⟩)
      · skip
        refine e_aloadn (pc := 15) dX1_together_15 rfl rfl ?_
        refine e_getr (pc := 16) (k := 27) dX1_together_16 fX1_18 s_25 rfl (by decide) ?_
        refine e_iloadn (pc := 19) dX1_together_19 rfl rfl ?_
        refine e_ialdv (pc := 20) (v := mem 27 k) dX1_together_20 s_27 (by omega) (zf 27 k rfl) ?_
        refine e_iconst (pc := 21) dX1_together_21 (by decide) ?_
        refine e_icmp_eq (pc := 22) (tgt := 40) dX1_together_22 rfl (fun h22 => ?_) (fun h22 => ?_)
        · skip
          refine e_iinc (pc := 40) (lo' := [(2, 25), (0, stF mem (mem 27) (mem 28) (mem 26 0) (mem 25 4) (mem 25 5) (mem 9) (mem 2) (mem 3)), (0, sumTo (fun c => if mem 27 c = -1 then 0 else priceV (mem 5) (mem 6) (mem 7) (mem 26 0) (mem 26 1) (mem 26 2) c (whF (mem 27) (mem 28) (mem 26 0) (mem 25 4) (mem 25 5) (mem 9) (mem 2) (mem 3) c) (stF mem (mem 27) (mem 28) (mem 26 0) (mem 25 4) (mem 25 5) (mem 9) (mem 2) (mem 3))) k), (0, (k : Int) + 1)]) dX1_together_40 rfl (by omega) rfl (by decide) rfl ?_
          refine e_goto (pc := 43) (tgt := 9) dX1_together_43 rfl ?_
          have zs9 : sumTo (fun c => if mem 27 c = -1 then 0 else priceV (mem 5) (mem 6) (mem 7) (mem 26 0) (mem 26 1) (mem 26 2) c (whF (mem 27) (mem 28) (mem 26 0) (mem 25 4) (mem 25 5) (mem 9) (mem 2) (mem 3) c) (stF mem (mem 27) (mem 28) (mem 26 0) (mem 25 4) (mem 25 5) (mem 9) (mem 2) (mem 3))) (k + 1) = sumTo (fun c => if mem 27 c = -1 then 0 else priceV (mem 5) (mem 6) (mem 7) (mem 26 0) (mem 26 1) (mem 26 2) c (whF (mem 27) (mem 28) (mem 26 0) (mem 25 4) (mem 25 5) (mem 9) (mem 2) (mem 3) c) (stF mem (mem 27) (mem 28) (mem 26 0) (mem 25 4) (mem 25 5) (mem 9) (mem 2) (mem 3))) k := by
            show _ + (if mem 27 k = -1 then _ else _) = _
            rw [if_pos h22, Int.add_zero]
          exact Ev.to (ih9 _ (by omega) (k + 1) (rfl) (by omega)) (by rw [zs9]; rfl) rfl rfl
        · skip
          refine e_iloadn (pc := 25) dX1_together_25 rfl rfl ?_
          refine e_aloadn (pc := 26) dX1_together_26 rfl rfl ?_
          refine e_iloadn (pc := 27) dX1_together_27 rfl rfl ?_
          refine e_aloadn (pc := 28) dX1_together_28 rfl rfl ?_
          refine e_getr (pc := 29) (k := 29) dX1_together_29 fX1_24 s_25 rfl (by decide) ?_
          refine e_iloadn (pc := 32) dX1_together_32 rfl rfl ?_
          refine e_ialdv (pc := 33) (v := (whF (mem 27) (mem 28) (mem 26 0) (mem 25 4) (mem 25 5) (mem 9) (mem 2) (mem 3) k)) dX1_together_33 s_29 (by omega) (zw k (by omega)) ?_
          refine e_iloadn (pc := 34) dX1_together_34 rfl rfl ?_
          obtain ⟨q0, q1, q2, q3, q4, q5, q6, q7, q8, q9, q10, q11, q12, q13, q14, q15⟩ := fr_25 zf
          have zP := t_price_25 G zm k (whF (mem 27) (mem 28) (mem 26 0) (mem 25 4) (mem 25 5) (mem 9) (mem 2) (mem 3) k) (stF mem (mem 27) (mem 28) (mem 26 0) (mem 25 4) (mem 25 5) (mem 9) (mem 2) (mem 3)) (by omega) (wb_25 hC hE k (by omega)) zvb (CoOk.mv zf hC) (EvOk25.mv zf hE)
          rw [q5, q6, q7, q0] at zP
          refine e_callVr (pc := 35) (as := [(0, (k : Int)), (0, (whF (mem 27) (mem 28) (mem 26 0) (mem 25 4) (mem 25 5) (mem 9) (mem 2) (mem 3) k)), (0, stF mem (mem 27) (mem 28) (mem 26 0) (mem 25 4) (mem 25 5) (mem 9) (mem 2) (mem 3))]) (st := [(0, sumTo (fun c => if mem 27 c = -1 then 0 else priceV (mem 5) (mem 6) (mem 7) (mem 26 0) (mem 26 1) (mem 26 2) c (whF (mem 27) (mem 28) (mem 26 0) (mem 25 4) (mem 25 5) (mem 9) (mem 2) (mem 3) c) (stF mem (mem 27) (mem 28) (mem 26 0) (mem 25 4) (mem 25 5) (mem 9) (mem 2) (mem 3))) k)]) (zP) dX1_together_35 lX1_together_72 rfl s_25 cn_1 rfl rfl ?_
          refine e_iaddn (pc := 38) dX1_together_38 (by omega) ?_
          refine e_istoren (pc := 39) (lo' := [(2, 25), (0, stF mem (mem 27) (mem 28) (mem 26 0) (mem 25 4) (mem 25 5) (mem 9) (mem 2) (mem 3)), (0, (sumTo (fun c => if mem 27 c = -1 then 0 else priceV (mem 5) (mem 6) (mem 7) (mem 26 0) (mem 26 1) (mem 26 2) c (whF (mem 27) (mem 28) (mem 26 0) (mem 25 4) (mem 25 5) (mem 9) (mem 2) (mem 3) c) (stF mem (mem 27) (mem 28) (mem 26 0) (mem 25 4) (mem 25 5) (mem 9) (mem 2) (mem 3))) k) + (priceV (mem 5) (mem 6) (mem 7) (mem 26 0) (mem 26 1) (mem 26 2) k (whF (mem 27) (mem 28) (mem 26 0) (mem 25 4) (mem 25 5) (mem 9) (mem 2) (mem 3) k) (stF mem (mem 27) (mem 28) (mem 26 0) (mem 25 4) (mem 25 5) (mem 9) (mem 2) (mem 3)))), (0, (k : Int))]) dX1_together_39 rfl rfl (by decide) rfl ?_
          refine e_iinc (pc := 40) (lo' := [(2, 25), (0, stF mem (mem 27) (mem 28) (mem 26 0) (mem 25 4) (mem 25 5) (mem 9) (mem 2) (mem 3)), (0, (sumTo (fun c => if mem 27 c = -1 then 0 else priceV (mem 5) (mem 6) (mem 7) (mem 26 0) (mem 26 1) (mem 26 2) c (whF (mem 27) (mem 28) (mem 26 0) (mem 25 4) (mem 25 5) (mem 9) (mem 2) (mem 3) c) (stF mem (mem 27) (mem 28) (mem 26 0) (mem 25 4) (mem 25 5) (mem 9) (mem 2) (mem 3))) k) + (priceV (mem 5) (mem 6) (mem 7) (mem 26 0) (mem 26 1) (mem 26 2) k (whF (mem 27) (mem 28) (mem 26 0) (mem 25 4) (mem 25 5) (mem 9) (mem 2) (mem 3) k) (stF mem (mem 27) (mem 28) (mem 26 0) (mem 25 4) (mem 25 5) (mem 9) (mem 2) (mem 3)))), (0, (k : Int) + 1)]) dX1_together_40 rfl (by omega) rfl (by decide) rfl ?_
          refine e_goto (pc := 43) (tgt := 9) dX1_together_43 rfl ?_
          have zs9 : sumTo (fun c => if mem 27 c = -1 then 0 else priceV (mem 5) (mem 6) (mem 7) (mem 26 0) (mem 26 1) (mem 26 2) c (whF (mem 27) (mem 28) (mem 26 0) (mem 25 4) (mem 25 5) (mem 9) (mem 2) (mem 3) c) (stF mem (mem 27) (mem 28) (mem 26 0) (mem 25 4) (mem 25 5) (mem 9) (mem 2) (mem 3))) (k + 1) = sumTo (fun c => if mem 27 c = -1 then 0 else priceV (mem 5) (mem 6) (mem 7) (mem 26 0) (mem 26 1) (mem 26 2) c (whF (mem 27) (mem 28) (mem 26 0) (mem 25 4) (mem 25 5) (mem 9) (mem 2) (mem 3) c) (stF mem (mem 27) (mem 28) (mem 26 0) (mem 25 4) (mem 25 5) (mem 9) (mem 2) (mem 3))) k + priceV (mem 5) (mem 6) (mem 7) (mem 26 0) (mem 26 1) (mem 26 2) k (whF (mem 27) (mem 28) (mem 26 0) (mem 25 4) (mem 25 5) (mem 9) (mem 2) (mem 3) k) (stF mem (mem 27) (mem 28) (mem 26 0) (mem 25 4) (mem 25 5) (mem 9) (mem 2) (mem 3)) := by
            show _ + (if mem 27 k = -1 then _ else _) = _
            rw [if_neg h22]
          exact Ev.to (ih9 _ (by omega) (k + 1) (rfl) (by omega)) (by rw [zs9]; rfl) rfl rfl
  exact Ev.to (L9 _ 0 (rfl) (by omega)) rfl rfl rfl
