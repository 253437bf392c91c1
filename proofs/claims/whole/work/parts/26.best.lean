-- BEST: the first (or last) of the least of 0 .. k-1
def bst (f : Nat → Int) (last : Bool) : Nat → Int × Int
  | 0 => (0, 2147483647)
  | k + 1 => if f k < (bst f last k).2 ∨ (last = true ∧ f k = (bst f last k).2) then ((k : Int), f k) else bst f last k
theorem bst_bd {f : Nat → Int} {last : Bool} {a b : Int} (hb : a ≤ 2147483647) : ∀ {k : Nat}, (∀ j, j < k → a ≤ f j ∧ f j ≤ b) → (0 ≤ (bst f last k).1 ∧ (bst f last k).1 ≤ k) ∧ a ≤ (bst f last k).2 ∧ (bst f last k).2 ≤ 2147483647 ∨ b > 2147483647
  | 0, _ => by simp [bst]; omega
  | k + 1, h => by
    rcases bst_bd (last := last) (k := k) hb (fun j hj => h j (by omega)) with ⟨h1, h2, h3⟩ | h1
    · have h4 := h k (by omega)
      by_cases q : b > 2147483647
      · exact Or.inr q
      · left
        unfold bst
        split
        · exact ⟨by show 0 ≤ (k : Int) ∧ (k : Int) ≤ _; omega, by show a ≤ f k; omega, by show f k ≤ _; omega⟩
        · exact ⟨by omega, h2, h3⟩
    · exact Or.inr h1
theorem bst_congr {f g : Nat → Int} {last : Bool} : ∀ {k : Nat}, (∀ j, j < k → f j = g j) → bst f last k = bst g last k
  | 0, _ => rfl
  | k + 1, h => by unfold bst; rw [bst_congr (fun j hj => h j (by omega)), h k (by omega)]
theorem stF_bd {mem : Mem} {kd am : Nat → Int} {told late aw : Int} {dl lag seen : Nat → Int} : 0 ≤ stF mem kd am told late aw dl lag seen ∧ stF mem kd am told late aw dl lag seen ≤ 60 := begF_is.1
def bestV (f : Nat → Int) (last : Bool) : Int := (bst f last 61).1

/-- what the open one pays at minute j -/
noncomputable def prF16 (mem : Mem) (o : Nat) (j : Nat) : Int := priceV (mem 5) (mem 6) (mem 7) (mem 17 0) (mem 17 1) (mem 17 2) o (j : Int) (stF mem (mem 18) (uset (mem 19) o (j : Int)) (mem 17 0) (mem 16 4) (mem 16 5) (mem 9) (mem 2) (mem 3))
theorem st60_16 {mem : Mem} {o : Nat} {x : Int} (hC : CoOk mem) (hE : EvOk16 mem) (ho : o < 8) (hk : mem 18 o = 0) (hl : bt (mem 16 4) o = 0) (ha : bt (mem 16 5) o = 0) (hx : 0 ≤ x ∧ x ≤ 60) (h : stF mem (mem 18) (uset (mem 19) o 60) (mem 17 0) (mem 16 4) (mem 16 5) (mem 9) (mem 2) (mem 3) < x) : stF mem (mem 18) (uset (mem 19) o x) (mem 17 0) (mem 16 4) (mem 16 5) (mem 9) (mem 2) (mem 3) = stF mem (mem 18) (uset (mem 19) o 60) (mem 17 0) (mem 16 4) (mem 16 5) (mem 9) (mem 2) (mem 3) := by
  have hkr := kr_16 hC hE (-1)
  have hfb : ∀ y : Int, 0 ≤ y → y ≤ 60 → ∀ c, c < 8 → 0 ≤ fmR (mem 18) (uset (mem 19) o y) (mem 17 0) (mem 16 4) (mem 16 5) (mem 9) c ∧ fmR (mem 18) (uset (mem 19) o y) (mem 17 0) (mem 16 4) (mem 16 5) (mem 9) c ≤ 60 := by
    intro y h0 h1 c hc
    rw [← fmR_open hk ha hl h1]
    have := fb_16 hC hE c hc
    split
    · omega
    · split <;> omega
  have hat : ∀ y : Int, 0 ≤ y → y ≤ 60 → fmR (mem 18) (uset (mem 19) o y) (mem 17 0) (mem 16 4) (mem 16 5) (mem 9) o = y := by
    intro y h0 h1
    rw [← fmR_open hk ha hl h1, if_pos rfl]
  unfold stF whF at h ⊢
  refine beg_late (o := o) (fun c hc _ => hfb 60 (by decide) (by decide) c hc) (fun c hc _ => hfb x hx.1 hx.2 c hc) (fun c hc q => (hkr c hc q).1.1) (by unfold isK; simp [hk]) (hat 60 (by decide) (by decide)) (fun c hc hne => ?_) (by rw [hat x hx.1 hx.2]; exact h) ho
  rw [← fmR_open hk ha hl (by decide), ← fmR_open hk ha hl hx.2, if_neg hne, if_neg hne]
theorem price_bd16 {mem : Mem} {o : Nat} {x st : Int} (hC : CoOk mem) (hE : EvOk16 mem) (ho : o < 8) (hx : 0 ≤ x ∧ x ≤ 60) (hs : 0 ≤ st ∧ st ≤ 60) : -99 ≤ priceV (mem 5) (mem 6) (mem 7) (mem 17 0) (mem 17 1) (mem 17 2) o x st ∧ priceV (mem 5) (mem 6) (mem 7) (mem 17 0) (mem 17 1) (mem 17 2) o x st ≤ 6039 := by
  obtain ⟨h5, h6, h7, _⟩ := hC o ho
  obtain ⟨⟨t0, t1, t2, _⟩, _⟩ := hE
  have m1 := mulI h6 (b := x - st)
  have m2 := mulI h5 (b := st - x)
  unfold priceV
  split
  · omega
  · split
    · have := m1 (by omega)
      (repeat' split) <;> omega
    · have := m2 (by omega)
      (repeat' split) <;> omega

theorem t_openPrice_16 (G : Gm) (mem zm : Mem) (o j : Nat) (hj : j ≤ 60) (hC : CoOk mem) (hE : EvOk16 mem) (hR : RuOk mem) (ho : o < 8) (hk : mem 18 o = 0) (hl : bt (mem 16 4) o = 0) (ha : bt (mem 16 5) o = 0) (hG : GS16 mem zm o) : Con G mX1_openPrice [(2, 16), (0, (o : Int)), (0, (j : Int))] zm (fun r m' => r = some (0, prF16 mem o j) ∧ GS16 mem m' o) := by
  refine Con.of (lo := [(2, 16), (0, (o : Int)), (0, (j : Int))]) (by decide +kernel) (Nat.le_of_ble_eq_true rfl) rfl ?_
  generalize hQ_ : (fun r m' => r = some (0, prF16 mem o j) ∧ GS16 mem m' o : Option AV → Mem → Prop) = Q_
  refine e_aloadn (pc := 0) dX1_openPrice_0 rfl rfl ?_
  refine e_iloadn (pc := 1) dX1_openPrice_1 rfl rfl ?_
  refine e_iloadn (pc := 2) dX1_openPrice_2 rfl rfl ?_
  refine e_aloadn (pc := 3) dX1_openPrice_3 rfl rfl ?_
  refine e_iloadn (pc := 4) dX1_openPrice_4 rfl rfl ?_
  refine e_iloadn (pc := 5) dX1_openPrice_5 rfl rfl ?_
  refine e_callV (pc := 6) (as := [(0, (o : Int)), (0, (j : Int))]) (st := [(0, (j : Int)), (0, (o : Int)), (2, 16)]) (t_settleG_16 G mem zm o (j : Int) hC hE hR ho (by omega) hk hl ha hG) dX1_openPrice_6 lX1_openPrice_64 rfl s_16 cn_1 rfl rfl (fun r_ zm2 hq_ => ?_)
  obtain ⟨zr_, zvb, zG, _⟩ := hq_
  subst zr_
  refine Ev.to (st' := [(0, stF mem (mem 18) (uset (mem 19) o (j : Int)) (mem 17 0) (mem 16 4) (mem 16 5) (mem 9) (mem 2) (mem 3)), (0, (j : Int)), (0, (o : Int)), (2, 16)]) ?_ rfl rfl rfl
  have zf := zG.1
  have zqm5 : zm2 5 = mem 5 := funext (fun j => zf 5 j rfl)
  have zqm6 : zm2 6 = mem 6 := funext (fun j => zf 6 j rfl)
  have zqm7 : zm2 7 = mem 7 := funext (fun j => zf 7 j rfl)
  have zqmt : zm2 17 = mem 17 := funext (fun j => zf 17 j rfl)
  have zP := t_price_16 G zm2 o (j : Int) (stF mem (mem 18) (uset (mem 19) o (j : Int)) (mem 17 0) (mem 16 4) (mem 16 5) (mem 9) (mem 2) (mem 3)) ho (by omega) zvb (CoOk.mv zf hC) (EvOk16.mv zf hE)
  rw [zqm5, zqm6, zqm7, zqmt] at zP
  refine e_callVr (pc := 9) (as := [(0, (o : Int)), (0, (j : Int)), (0, stF mem (mem 18) (uset (mem 19) o (j : Int)) (mem 17 0) (mem 16 4) (mem 16 5) (mem 9) (mem 2) (mem 3))]) (st := []) (zP) dX1_openPrice_9 lX1_openPrice_72 rfl s_16 cn_1 rfl rfl ?_
  exact e_iret (pc := 12) dX1_openPrice_12 rfl (by rw [← hQ_]; exact ⟨rfl, zG⟩)

theorem t_bestOf_16 (G : Gm) (mem : Mem) (o : Nat) (last : Bool) (hC : CoOk mem) (hE : EvOk16 mem) (hR : RuOk mem) (ho : o < 8) (hk : mem 18 o = 0) (hl : bt (mem 16 4) o = 0) (ha : bt (mem 16 5) o = 0) : Con G mX1_bestOf [(2, 16), (0, (o : Int)), (0, (if last then 1 else 0))] mem (fun r m' => r = some (0, bestV (prF16 mem o) last) ∧ GS16 mem m' o) := by
  refine Con.of (lo := [(2, 16), (0, (o : Int)), (0, (if last then 1 else 0)), (3, 0), (3, 0), (3, 0), (3, 0), (3, 0), (3, 0)]) (by decide +kernel) (Nat.le_of_ble_eq_true rfl) rfl ?_
  generalize hQ_ : (fun r m' => r = some (0, bestV (prF16 mem o) last) ∧ GS16 mem m' o : Option AV → Mem → Prop) = Q_
  have zsb : ∀ j : Nat, j ≤ 60 → 0 ≤ stF mem (mem 18) (uset (mem 19) o (j : Int)) (mem 17 0) (mem 16 4) (mem 16 5) (mem 9) (mem 2) (mem 3) ∧ stF mem (mem 18) (uset (mem 19) o (j : Int)) (mem 17 0) (mem 16 4) (mem 16 5) (mem 9) (mem 2) (mem 3) ≤ 60 := fun j _ => stF_bd
  refine e_aloadn (pc := 0) dX1_bestOf_0 rfl rfl ?_
  refine e_iloadn (pc := 1) dX1_bestOf_1 rfl rfl ?_
  refine e_callV (pc := 2) (as := [(0, (o : Int))]) (st := []) (t_gatherG_16 G mem o hC hE) dX1_bestOf_2 lX1_bestOf_60 rfl s_16 cn_1 rfl rfl (fun r_ zm hq_ => ?_)
  obtain ⟨zr_, zG⟩ := hq_
  subst zr_
  refine Ev.to (st' := []) ?_ rfl rfl rfl
  refine e_aloadn (pc := 5) dX1_bestOf_5 rfl rfl ?_
  refine e_iloadn (pc := 6) dX1_bestOf_6 rfl rfl ?_
  refine e_bipush (pc := 7) dX1_bestOf_7 rfl (by decide) ?_
  refine e_callV (pc := 9) (as := [(0, (o : Int)), (0, 60)]) (st := []) (t_settleG_16 G mem zm o 60 hC hE hR ho (by omega) hk hl ha zG) dX1_bestOf_9 lX1_bestOf_64 rfl s_16 cn_1 rfl rfl (fun r_ zm1 hq_ => ?_)
  obtain ⟨zr_, zvb, zG1, _⟩ := hq_
  subst zr_
  refine Ev.to (st' := [(0, stF mem (mem 18) (uset (mem 19) o 60) (mem 17 0) (mem 16 4) (mem 16 5) (mem 9) (mem 2) (mem 3))]) ?_ rfl rfl rfl
  refine e_istoren (pc := 12) (lo' := [(2, 16), (0, (o : Int)), (0, (if last then 1 else 0)), (0, stF mem (mem 18) (uset (mem 19) o 60) (mem 17 0) (mem 16 4) (mem 16 5) (mem 9) (mem 2) (mem 3)), (3, 0), (3, 0), (3, 0), (3, 0), (3, 0)]) dX1_bestOf_12 rfl rfl (by decide) rfl ?_
  refine e_iconst (pc := 13) dX1_bestOf_13 (by decide) ?_
  refine e_istore (pc := 14) (lo' := [(2, 16), (0, (o : Int)), (0, (if last then 1 else 0)), (0, stF mem (mem 18) (uset (mem 19) o 60) (mem 17 0) (mem 16 4) (mem 16 5) (mem 9) (mem 2) (mem 3)), (0, 0), (3, 0), (3, 0), (3, 0), (3, 0)]) dX1_bestOf_14 rfl (by decide) rfl ?_
  refine e_ldc (pc := 16) (z := 2147483647) dX1_bestOf_16 kX1_113 (by decide) ?_
  refine e_istore (pc := 18) (lo' := [(2, 16), (0, (o : Int)), (0, (if last then 1 else 0)), (0, stF mem (mem 18) (uset (mem 19) o 60) (mem 17 0) (mem 16 4) (mem 16 5) (mem 9) (mem 2) (mem 3)), (0, 0), (0, 2147483647), (3, 0), (3, 0), (3, 0)]) dX1_bestOf_18 rfl (by decide) rfl ?_
  refine e_iconst (pc := 20) dX1_bestOf_20 (by decide) ?_
  refine e_istore (pc := 21) (lo' := [(2, 16), (0, (o : Int)), (0, (if last then 1 else 0)), (0, stF mem (mem 18) (uset (mem 19) o 60) (mem 17 0) (mem 16 4) (mem 16 5) (mem 9) (mem 2) (mem 3)), (0, 0), (0, 2147483647), (0, 0), (3, 0), (3, 0)]) dX1_bestOf_21 rfl (by decide) rfl ?_
  have L23 : ∀ (n_ : Nat) (k : Nat) (zmv : Mem), 61 - k = n_ → (k ≤ 61) → (GS16 mem zmv o) → Ev G mX1_bestOf Q_ 23 [(2, 16), (0, (o : Int)), (0, (if last then 1 else 0)), (0, stF mem (mem 18) (uset (mem 19) o 60) (mem 17 0) (mem 16 4) (mem 16 5) (mem 9) (mem 2) (mem 3)), (0, (bst (prF16 mem o) last k).1), (0, (bst (prF16 mem o) last k).2), (0, (k : Int)), (3, 0), (3, 0)] [] zmv := by
    intro n_
    induction n_ using Nat.strongRecOn with
    | ind n_ ih23 =>
      intro k zmv hn_ zk zGv
      have zb := bst_bd (f := prF16 mem o) (last := last) (a := -99) (b := 6039) (by decide) (k := k) (fun j hj => price_bd16 hC hE ho (by omega) (zsb j (by omega)))
      refine e_iload (pc := 23) dX1_bestOf_23 rfl ?_
      refine e_bipush (pc := 25) dX1_bestOf_25 rfl (by decide) ?_
      refine e_icmp_gt (pc := 27) (tgt := 92) dX1_bestOf_27 rfl (fun h27 => ?_) (fun h27 => ?_)
      · skip
        refine e_iload (pc := 92) dX1_bestOf_92 rfl ?_
        exact e_iret (pc := 94) dX1_bestOf_94 rfl (by rw [← hQ_, show k = 61 by omega]; exact ⟨rfl, zGv⟩)
      · skip
        have C47 : ∀ (zm3 : Mem), (GS16 mem zm3 o) → Ev G mX1_bestOf Q_ 47 [(2, 16), (0, (o : Int)), (0, (if last then 1 else 0)), (0, stF mem (mem 18) (uset (mem 19) o 60) (mem 17 0) (mem 16 4) (mem 16 5) (mem 9) (mem 2) (mem 3)), (0, (bst (prF16 mem o) last k).1), (0, (bst (prF16 mem o) last k).2), (0, (k : Int)), (3, 0), (3, 0)] [(0, stF mem (mem 18) (uset (mem 19) o (k : Int)) (mem 17 0) (mem 16 4) (mem 16 5) (mem 9) (mem 2) (mem 3))] zm3 := by
          intro zm3 zG3
          refine e_istore (pc := 47) (lo' := [(2, 16), (0, (o : Int)), (0, (if last then 1 else 0)), (0, stF mem (mem 18) (uset (mem 19) o 60) (mem 17 0) (mem 16 4) (mem 16 5) (mem 9) (mem 2) (mem 3)), (0, (bst (prF16 mem o) last k).1), (0, (bst (prF16 mem o) last k).2), (0, (k : Int)), (0, stF mem (mem 18) (uset (mem 19) o (k : Int)) (mem 17 0) (mem 16 4) (mem 16 5) (mem 9) (mem 2) (mem 3)), (3, 0)]) dX1_bestOf_47 rfl (by decide) rfl ?_
          refine e_aloadn (pc := 49) dX1_bestOf_49 rfl rfl ?_
          refine e_iloadn (pc := 50) dX1_bestOf_50 rfl rfl ?_
          refine e_iload (pc := 51) dX1_bestOf_51 rfl ?_
          refine e_iload (pc := 53) dX1_bestOf_53 rfl ?_
          have zf := zG3.1
          have zqm5 : zm3 5 = mem 5 := funext (fun j => zf 5 j rfl)
          have zqm6 : zm3 6 = mem 6 := funext (fun j => zf 6 j rfl)
          have zqm7 : zm3 7 = mem 7 := funext (fun j => zf 7 j rfl)
          have zqmt : zm3 17 = mem 17 := funext (fun j => zf 17 j rfl)
          have zP := t_price_16 G zm3 o (k : Int) (stF mem (mem 18) (uset (mem 19) o (k : Int)) (mem 17 0) (mem 16 4) (mem 16 5) (mem 9) (mem 2) (mem 3)) ho (by omega) (zsb k (by omega)) (CoOk.mv zf hC) (EvOk16.mv zf hE)
          rw [zqm5, zqm6, zqm7, zqmt] at zP
          refine e_callVr (pc := 55) (as := [(0, (o : Int)), (0, (k : Int)), (0, stF mem (mem 18) (uset (mem 19) o (k : Int)) (mem 17 0) (mem 16 4) (mem 16 5) (mem 9) (mem 2) (mem 3))]) (st := []) (zP) dX1_bestOf_55 lX1_bestOf_72 rfl s_16 cn_1 rfl rfl ?_
          refine e_istore (pc := 58) (lo' := [(2, 16), (0, (o : Int)), (0, (if last then 1 else 0)), (0, stF mem (mem 18) (uset (mem 19) o 60) (mem 17 0) (mem 16 4) (mem 16 5) (mem 9) (mem 2) (mem 3)), (0, (bst (prF16 mem o) last k).1), (0, (bst (prF16 mem o) last k).2), (0, (k : Int)), (0, stF mem (mem 18) (uset (mem 19) o (k : Int)) (mem 17 0) (mem 16 4) (mem 16 5) (mem 9) (mem 2) (mem 3)), (0, prF16 mem o k)]) dX1_bestOf_58 rfl (by decide) rfl ?_
          refine e_iload (pc := 60) dX1_bestOf_60 rfl ?_
          refine e_iload (pc := 62) dX1_bestOf_62 rfl ?_
          refine e_icmp_lt (pc := 64) (tgt := 78) dX1_bestOf_64 rfl (fun h64 => ?_) (fun h64 => ?_)
          · skip
            refine e_iload (pc := 78) dX1_bestOf_78 rfl ?_
            refine e_istore (pc := 80) (lo' := [(2, 16), (0, (o : Int)), (0, (if last then 1 else 0)), (0, stF mem (mem 18) (uset (mem 19) o 60) (mem 17 0) (mem 16 4) (mem 16 5) (mem 9) (mem 2) (mem 3)), (0, (bst (prF16 mem o) last k).1), (0, prF16 mem o k), (0, (k : Int)), (0, stF mem (mem 18) (uset (mem 19) o (k : Int)) (mem 17 0) (mem 16 4) (mem 16 5) (mem 9) (mem 2) (mem 3)), (0, prF16 mem o k)]) dX1_bestOf_80 rfl (by decide) rfl ?_
            refine e_iload (pc := 82) dX1_bestOf_82 rfl ?_
            refine e_istore (pc := 84) (lo' := [(2, 16), (0, (o : Int)), (0, (if last then 1 else 0)), (0, stF mem (mem 18) (uset (mem 19) o 60) (mem 17 0) (mem 16 4) (mem 16 5) (mem 9) (mem 2) (mem 3)), (0, (k : Int)), (0, prF16 mem o k), (0, (k : Int)), (0, stF mem (mem 18) (uset (mem 19) o (k : Int)) (mem 17 0) (mem 16 4) (mem 16 5) (mem 9) (mem 2) (mem 3)), (0, prF16 mem o k)]) dX1_bestOf_84 rfl (by decide) rfl ?_
            refine e_iinc (pc := 86) (lo' := [(2, 16), (0, (o : Int)), (0, (if last then 1 else 0)), (0, stF mem (mem 18) (uset (mem 19) o 60) (mem 17 0) (mem 16 4) (mem 16 5) (mem 9) (mem 2) (mem 3)), (0, (k : Int)), (0, prF16 mem o k), (0, (k : Int) + 1), (0, stF mem (mem 18) (uset (mem 19) o (k : Int)) (mem 17 0) (mem 16 4) (mem 16 5) (mem 9) (mem 2) (mem 3)), (0, prF16 mem o k)]) dX1_bestOf_86 rfl (by omega) rfl (by decide) rfl ?_
            refine e_goto (pc := 89) (tgt := 23) dX1_bestOf_89 rfl ?_
            have zbk : bst (prF16 mem o) last (k + 1) = ((k : Int), prF16 mem o k) := by
              show (if _ then _ else _) = _
              rw [if_pos (Or.inl h64)]
            refine Ev.fgt [7, 8] ?_
            exact Ev.to (ih23 _ (by omega) (k + 1) zm3 (rfl) (by omega) (zG3)) (by rw [zbk]; rfl) rfl rfl
          · skip
            refine e_iloadn (pc := 67) dX1_bestOf_67 rfl rfl ?_
            refine e_if_eq (pc := 68) (tgt := 86) dX1_bestOf_68 rfl (fun h68 => ?_) (fun h68 => ?_)
            · skip
              refine e_iinc (pc := 86) (lo' := [(2, 16), (0, (o : Int)), (0, (if last then 1 else 0)), (0, stF mem (mem 18) (uset (mem 19) o 60) (mem 17 0) (mem 16 4) (mem 16 5) (mem 9) (mem 2) (mem 3)), (0, (bst (prF16 mem o) last k).1), (0, (bst (prF16 mem o) last k).2), (0, (k : Int) + 1), (0, stF mem (mem 18) (uset (mem 19) o (k : Int)) (mem 17 0) (mem 16 4) (mem 16 5) (mem 9) (mem 2) (mem 3)), (0, prF16 mem o k)]) dX1_bestOf_86 rfl (by omega) rfl (by decide) rfl ?_
              refine e_goto (pc := 89) (tgt := 23) dX1_bestOf_89 rfl ?_
              have zbk : bst (prF16 mem o) last (k + 1) = bst (prF16 mem o) last k := by
                show (if _ then _ else _) = _
                rw [if_neg (fun q => q.elim (fun z => by omega) (fun z => by rw [z.1] at h68; simp at h68))]
              refine Ev.fgt [7, 8] ?_
              exact Ev.to (ih23 _ (by omega) (k + 1) zm3 (rfl) (by omega) (zG3)) (by rw [zbk]; rfl) rfl rfl
            · skip
              refine e_iload (pc := 71) dX1_bestOf_71 rfl ?_
              refine e_iload (pc := 73) dX1_bestOf_73 rfl ?_
              refine e_icmp_ne (pc := 75) (tgt := 86) dX1_bestOf_75 rfl (fun h75 => ?_) (fun h75 => ?_)
              · skip
                refine e_iinc (pc := 86) (lo' := [(2, 16), (0, (o : Int)), (0, (if last then 1 else 0)), (0, stF mem (mem 18) (uset (mem 19) o 60) (mem 17 0) (mem 16 4) (mem 16 5) (mem 9) (mem 2) (mem 3)), (0, (bst (prF16 mem o) last k).1), (0, (bst (prF16 mem o) last k).2), (0, (k : Int) + 1), (0, stF mem (mem 18) (uset (mem 19) o (k : Int)) (mem 17 0) (mem 16 4) (mem 16 5) (mem 9) (mem 2) (mem 3)), (0, prF16 mem o k)]) dX1_bestOf_86 rfl (by omega) rfl (by decide) rfl ?_
                refine e_goto (pc := 89) (tgt := 23) dX1_bestOf_89 rfl ?_
                have zbk : bst (prF16 mem o) last (k + 1) = bst (prF16 mem o) last k := by
                  show (if _ then _ else _) = _
                  rw [if_neg (fun q => q.elim (fun z => by omega) (fun z => h75 z.2))]
                refine Ev.fgt [7, 8] ?_
                exact Ev.to (ih23 _ (by omega) (k + 1) zm3 (rfl) (by omega) (zG3)) (by rw [zbk]; rfl) rfl rfl
              · skip
                refine e_iload (pc := 78) dX1_bestOf_78 rfl ?_
                refine e_istore (pc := 80) (lo' := [(2, 16), (0, (o : Int)), (0, (if last then 1 else 0)), (0, stF mem (mem 18) (uset (mem 19) o 60) (mem 17 0) (mem 16 4) (mem 16 5) (mem 9) (mem 2) (mem 3)), (0, (bst (prF16 mem o) last k).1), (0, prF16 mem o k), (0, (k : Int)), (0, stF mem (mem 18) (uset (mem 19) o (k : Int)) (mem 17 0) (mem 16 4) (mem 16 5) (mem 9) (mem 2) (mem 3)), (0, prF16 mem o k)]) dX1_bestOf_80 rfl (by decide) rfl ?_
                refine e_iload (pc := 82) dX1_bestOf_82 rfl ?_
                refine e_istore (pc := 84) (lo' := [(2, 16), (0, (o : Int)), (0, (if last then 1 else 0)), (0, stF mem (mem 18) (uset (mem 19) o 60) (mem 17 0) (mem 16 4) (mem 16 5) (mem 9) (mem 2) (mem 3)), (0, (k : Int)), (0, prF16 mem o k), (0, (k : Int)), (0, stF mem (mem 18) (uset (mem 19) o (k : Int)) (mem 17 0) (mem 16 4) (mem 16 5) (mem 9) (mem 2) (mem 3)), (0, prF16 mem o k)]) dX1_bestOf_84 rfl (by decide) rfl ?_
                refine e_iinc (pc := 86) (lo' := [(2, 16), (0, (o : Int)), (0, (if last then 1 else 0)), (0, stF mem (mem 18) (uset (mem 19) o 60) (mem 17 0) (mem 16 4) (mem 16 5) (mem 9) (mem 2) (mem 3)), (0, (k : Int)), (0, prF16 mem o k), (0, (k : Int) + 1), (0, stF mem (mem 18) (uset (mem 19) o (k : Int)) (mem 17 0) (mem 16 4) (mem 16 5) (mem 9) (mem 2) (mem 3)), (0, prF16 mem o k)]) dX1_bestOf_86 rfl (by omega) rfl (by decide) rfl ?_
                refine e_goto (pc := 89) (tgt := 23) dX1_bestOf_89 rfl ?_
                have zbk : bst (prF16 mem o) last (k + 1) = ((k : Int), prF16 mem o k) := by
                  show (if _ then _ else _) = _
                  rw [if_pos (Or.inr ⟨by cases last <;> simp_all, h75⟩)]
                refine Ev.fgt [7, 8] ?_
                exact Ev.to (ih23 _ (by omega) (k + 1) zm3 (rfl) (by omega) (zG3)) (by rw [zbk]; rfl) rfl rfl
        refine e_iload (pc := 30) dX1_bestOf_30 rfl ?_
        refine e_iloadn (pc := 32) dX1_bestOf_32 rfl rfl ?_
        refine e_icmp_le (pc := 33) (tgt := 40) dX1_bestOf_33 rfl (fun h33 => ?_) (fun h33 => ?_)
        · skip
          refine e_aloadn (pc := 40) dX1_bestOf_40 rfl rfl ?_
          refine e_iloadn (pc := 41) dX1_bestOf_41 rfl rfl ?_
          refine e_iload (pc := 42) dX1_bestOf_42 rfl ?_
          refine e_callV (pc := 44) (as := [(0, (o : Int)), (0, (k : Int))]) (st := []) (t_settleG_16 G mem zmv o (k : Int) hC hE hR ho (by omega) hk hl ha zGv) dX1_bestOf_44 lX1_bestOf_64 rfl s_16 cn_1 rfl rfl (fun r_ zm2 hq_ => ?_)
          obtain ⟨zr_, zvb2, zG2, _⟩ := hq_
          subst zr_
          refine Ev.to (st' := [(0, stF mem (mem 18) (uset (mem 19) o (k : Int)) (mem 17 0) (mem 16 4) (mem 16 5) (mem 9) (mem 2) (mem 3))]) ?_ rfl rfl rfl
          exact Ev.to (C47 zm2 (zG2)) rfl rfl rfl
        · skip
          refine e_iloadn (pc := 36) dX1_bestOf_36 rfl rfl ?_
          refine e_goto (pc := 37) (tgt := 47) dX1_bestOf_37 rfl ?_
          exact Ev.to (C47 zmv (zGv)) rfl (by rw [st60_16 (x := (k : Int)) hC hE ho hk hl ha (by omega) (by omega)]) rfl
  exact Ev.to (L23 _ 0 zm1 (rfl) (by omega) (zG1)) rfl rfl rfl

/-- what the open one pays at minute j -/
noncomputable def prF25 (mem : Mem) (o : Nat) (j : Nat) : Int := priceV (mem 5) (mem 6) (mem 7) (mem 26 0) (mem 26 1) (mem 26 2) o (j : Int) (stF mem (mem 27) (uset (mem 28) o (j : Int)) (mem 26 0) (mem 25 4) (mem 25 5) (mem 9) (mem 2) (mem 3))
theorem st60_25 {mem : Mem} {o : Nat} {x : Int} (hC : CoOk mem) (hE : EvOk25 mem) (ho : o < 8) (hk : mem 27 o = 0) (hl : bt (mem 25 4) o = 0) (ha : bt (mem 25 5) o = 0) (hx : 0 ≤ x ∧ x ≤ 60) (h : stF mem (mem 27) (uset (mem 28) o 60) (mem 26 0) (mem 25 4) (mem 25 5) (mem 9) (mem 2) (mem 3) < x) : stF mem (mem 27) (uset (mem 28) o x) (mem 26 0) (mem 25 4) (mem 25 5) (mem 9) (mem 2) (mem 3) = stF mem (mem 27) (uset (mem 28) o 60) (mem 26 0) (mem 25 4) (mem 25 5) (mem 9) (mem 2) (mem 3) := by
  have hkr := kr_25 hC hE (-1)
  have hfb : ∀ y : Int, 0 ≤ y → y ≤ 60 → ∀ c, c < 8 → 0 ≤ fmR (mem 27) (uset (mem 28) o y) (mem 26 0) (mem 25 4) (mem 25 5) (mem 9) c ∧ fmR (mem 27) (uset (mem 28) o y) (mem 26 0) (mem 25 4) (mem 25 5) (mem 9) c ≤ 60 := by
    intro y h0 h1 c hc
    rw [← fmR_open hk ha hl h1]
    have := fb_25 hC hE c hc
    split
    · omega
    · split <;> omega
  have hat : ∀ y : Int, 0 ≤ y → y ≤ 60 → fmR (mem 27) (uset (mem 28) o y) (mem 26 0) (mem 25 4) (mem 25 5) (mem 9) o = y := by
    intro y h0 h1
    rw [← fmR_open hk ha hl h1, if_pos rfl]
  unfold stF whF at h ⊢
  refine beg_late (o := o) (fun c hc _ => hfb 60 (by decide) (by decide) c hc) (fun c hc _ => hfb x hx.1 hx.2 c hc) (fun c hc q => (hkr c hc q).1.1) (by unfold isK; simp [hk]) (hat 60 (by decide) (by decide)) (fun c hc hne => ?_) (by rw [hat x hx.1 hx.2]; exact h) ho
  rw [← fmR_open hk ha hl (by decide), ← fmR_open hk ha hl hx.2, if_neg hne, if_neg hne]
theorem price_bd25 {mem : Mem} {o : Nat} {x st : Int} (hC : CoOk mem) (hE : EvOk25 mem) (ho : o < 8) (hx : 0 ≤ x ∧ x ≤ 60) (hs : 0 ≤ st ∧ st ≤ 60) : -99 ≤ priceV (mem 5) (mem 6) (mem 7) (mem 26 0) (mem 26 1) (mem 26 2) o x st ∧ priceV (mem 5) (mem 6) (mem 7) (mem 26 0) (mem 26 1) (mem 26 2) o x st ≤ 6039 := by
  obtain ⟨h5, h6, h7, _⟩ := hC o ho
  obtain ⟨⟨t0, t1, t2, _⟩, _⟩ := hE
  have m1 := mulI h6 (b := x - st)
  have m2 := mulI h5 (b := st - x)
  unfold priceV
  split
  · omega
  · split
    · have := m1 (by omega)
      (repeat' split) <;> omega
    · have := m2 (by omega)
      (repeat' split) <;> omega

theorem t_openPrice_25 (G : Gm) (mem zm : Mem) (o j : Nat) (hj : j ≤ 60) (hC : CoOk mem) (hE : EvOk25 mem) (hR : RuOk mem) (ho : o < 8) (hk : mem 27 o = 0) (hl : bt (mem 25 4) o = 0) (ha : bt (mem 25 5) o = 0) (hG : GS25 mem zm o) : Con G mX1_openPrice [(2, 25), (0, (o : Int)), (0, (j : Int))] zm (fun r m' => r = some (0, prF25 mem o j) ∧ GS25 mem m' o) := by
  refine Con.of (lo := [(2, 25), (0, (o : Int)), (0, (j : Int))]) (by decide +kernel) (Nat.le_of_ble_eq_true rfl) rfl ?_
  generalize hQ_ : (fun r m' => r = some (0, prF25 mem o j) ∧ GS25 mem m' o : Option AV → Mem → Prop) = Q_
  refine e_aloadn (pc := 0) dX1_openPrice_0 rfl rfl ?_
  refine e_iloadn (pc := 1) dX1_openPrice_1 rfl rfl ?_
  refine e_iloadn (pc := 2) dX1_openPrice_2 rfl rfl ?_
  refine e_aloadn (pc := 3) dX1_openPrice_3 rfl rfl ?_
  refine e_iloadn (pc := 4) dX1_openPrice_4 rfl rfl ?_
  refine e_iloadn (pc := 5) dX1_openPrice_5 rfl rfl ?_
  refine e_callV (pc := 6) (as := [(0, (o : Int)), (0, (j : Int))]) (st := [(0, (j : Int)), (0, (o : Int)), (2, 25)]) (t_settleG_25 G mem zm o (j : Int) hC hE hR ho (by omega) hk hl ha hG) dX1_openPrice_6 lX1_openPrice_64 rfl s_25 cn_1 rfl rfl (fun r_ zm2 hq_ => ?_)
  obtain ⟨zr_, zvb, zG, _⟩ := hq_
  subst zr_
  refine Ev.to (st' := [(0, stF mem (mem 27) (uset (mem 28) o (j : Int)) (mem 26 0) (mem 25 4) (mem 25 5) (mem 9) (mem 2) (mem 3)), (0, (j : Int)), (0, (o : Int)), (2, 25)]) ?_ rfl rfl rfl
  have zf := zG.1
  have zqm5 : zm2 5 = mem 5 := funext (fun j => zf 5 j rfl)
  have zqm6 : zm2 6 = mem 6 := funext (fun j => zf 6 j rfl)
  have zqm7 : zm2 7 = mem 7 := funext (fun j => zf 7 j rfl)
  have zqmt : zm2 26 = mem 26 := funext (fun j => zf 26 j rfl)
  have zP := t_price_25 G zm2 o (j : Int) (stF mem (mem 27) (uset (mem 28) o (j : Int)) (mem 26 0) (mem 25 4) (mem 25 5) (mem 9) (mem 2) (mem 3)) ho (by omega) zvb (CoOk.mv zf hC) (EvOk25.mv zf hE)
  rw [zqm5, zqm6, zqm7, zqmt] at zP
  refine e_callVr (pc := 9) (as := [(0, (o : Int)), (0, (j : Int)), (0, stF mem (mem 27) (uset (mem 28) o (j : Int)) (mem 26 0) (mem 25 4) (mem 25 5) (mem 9) (mem 2) (mem 3))]) (st := []) (zP) dX1_openPrice_9 lX1_openPrice_72 rfl s_25 cn_1 rfl rfl ?_
  exact e_iret (pc := 12) dX1_openPrice_12 rfl (by rw [← hQ_]; exact ⟨rfl, zG⟩)

theorem t_bestOf_25 (G : Gm) (mem : Mem) (o : Nat) (last : Bool) (hC : CoOk mem) (hE : EvOk25 mem) (hR : RuOk mem) (ho : o < 8) (hk : mem 27 o = 0) (hl : bt (mem 25 4) o = 0) (ha : bt (mem 25 5) o = 0) : Con G mX1_bestOf [(2, 25), (0, (o : Int)), (0, (if last then 1 else 0))] mem (fun r m' => r = some (0, bestV (prF25 mem o) last) ∧ GS25 mem m' o) := by
  refine Con.of (lo := [(2, 25), (0, (o : Int)), (0, (if last then 1 else 0)), (3, 0), (3, 0), (3, 0), (3, 0), (3, 0), (3, 0)]) (by decide +kernel) (Nat.le_of_ble_eq_true rfl) rfl ?_
  generalize hQ_ : (fun r m' => r = some (0, bestV (prF25 mem o) last) ∧ GS25 mem m' o : Option AV → Mem → Prop) = Q_
  have zsb : ∀ j : Nat, j ≤ 60 → 0 ≤ stF mem (mem 27) (uset (mem 28) o (j : Int)) (mem 26 0) (mem 25 4) (mem 25 5) (mem 9) (mem 2) (mem 3) ∧ stF mem (mem 27) (uset (mem 28) o (j : Int)) (mem 26 0) (mem 25 4) (mem 25 5) (mem 9) (mem 2) (mem 3) ≤ 60 := fun j _ => stF_bd
  refine e_aloadn (pc := 0) dX1_bestOf_0 rfl rfl ?_
  refine e_iloadn (pc := 1) dX1_bestOf_1 rfl rfl ?_
  refine e_callV (pc := 2) (as := [(0, (o : Int))]) (st := []) (t_gatherG_25 G mem o hC hE) dX1_bestOf_2 lX1_bestOf_60 rfl s_25 cn_1 rfl rfl (fun r_ zm hq_ => ?_)
  obtain ⟨zr_, zG⟩ := hq_
  subst zr_
  refine Ev.to (st' := []) ?_ rfl rfl rfl
  refine e_aloadn (pc := 5) dX1_bestOf_5 rfl rfl ?_
  refine e_iloadn (pc := 6) dX1_bestOf_6 rfl rfl ?_
  refine e_bipush (pc := 7) dX1_bestOf_7 rfl (by decide) ?_
  refine e_callV (pc := 9) (as := [(0, (o : Int)), (0, 60)]) (st := []) (t_settleG_25 G mem zm o 60 hC hE hR ho (by omega) hk hl ha zG) dX1_bestOf_9 lX1_bestOf_64 rfl s_25 cn_1 rfl rfl (fun r_ zm1 hq_ => ?_)
  obtain ⟨zr_, zvb, zG1, _⟩ := hq_
  subst zr_
  refine Ev.to (st' := [(0, stF mem (mem 27) (uset (mem 28) o 60) (mem 26 0) (mem 25 4) (mem 25 5) (mem 9) (mem 2) (mem 3))]) ?_ rfl rfl rfl
  refine e_istoren (pc := 12) (lo' := [(2, 25), (0, (o : Int)), (0, (if last then 1 else 0)), (0, stF mem (mem 27) (uset (mem 28) o 60) (mem 26 0) (mem 25 4) (mem 25 5) (mem 9) (mem 2) (mem 3)), (3, 0), (3, 0), (3, 0), (3, 0), (3, 0)]) dX1_bestOf_12 rfl rfl (by decide) rfl ?_
  refine e_iconst (pc := 13) dX1_bestOf_13 (by decide) ?_
  refine e_istore (pc := 14) (lo' := [(2, 25), (0, (o : Int)), (0, (if last then 1 else 0)), (0, stF mem (mem 27) (uset (mem 28) o 60) (mem 26 0) (mem 25 4) (mem 25 5) (mem 9) (mem 2) (mem 3)), (0, 0), (3, 0), (3, 0), (3, 0), (3, 0)]) dX1_bestOf_14 rfl (by decide) rfl ?_
  refine e_ldc (pc := 16) (z := 2147483647) dX1_bestOf_16 kX1_113 (by decide) ?_
  refine e_istore (pc := 18) (lo' := [(2, 25), (0, (o : Int)), (0, (if last then 1 else 0)), (0, stF mem (mem 27) (uset (mem 28) o 60) (mem 26 0) (mem 25 4) (mem 25 5) (mem 9) (mem 2) (mem 3)), (0, 0), (0, 2147483647), (3, 0), (3, 0), (3, 0)]) dX1_bestOf_18 rfl (by decide) rfl ?_
  refine e_iconst (pc := 20) dX1_bestOf_20 (by decide) ?_
  refine e_istore (pc := 21) (lo' := [(2, 25), (0, (o : Int)), (0, (if last then 1 else 0)), (0, stF mem (mem 27) (uset (mem 28) o 60) (mem 26 0) (mem 25 4) (mem 25 5) (mem 9) (mem 2) (mem 3)), (0, 0), (0, 2147483647), (0, 0), (3, 0), (3, 0)]) dX1_bestOf_21 rfl (by decide) rfl ?_
  have L23 : ∀ (n_ : Nat) (k : Nat) (zmv : Mem), 61 - k = n_ → (k ≤ 61) → (GS25 mem zmv o) → Ev G mX1_bestOf Q_ 23 [(2, 25), (0, (o : Int)), (0, (if last then 1 else 0)), (0, stF mem (mem 27) (uset (mem 28) o 60) (mem 26 0) (mem 25 4) (mem 25 5) (mem 9) (mem 2) (mem 3)), (0, (bst (prF25 mem o) last k).1), (0, (bst (prF25 mem o) last k).2), (0, (k : Int)), (3, 0), (3, 0)] [] zmv := by
    intro n_
    induction n_ using Nat.strongRecOn with
    | ind n_ ih23 =>
      intro k zmv hn_ zk zGv
      have zb := bst_bd (f := prF25 mem o) (last := last) (a := -99) (b := 6039) (by decide) (k := k) (fun j hj => price_bd25 hC hE ho (by omega) (zsb j (by omega)))
      refine e_iload (pc := 23) dX1_bestOf_23 rfl ?_
      refine e_bipush (pc := 25) dX1_bestOf_25 rfl (by decide) ?_
      refine e_icmp_gt (pc := 27) (tgt := 92) dX1_bestOf_27 rfl (fun h27 => ?_) (fun h27 => ?_)
      · skip
        refine e_iload (pc := 92) dX1_bestOf_92 rfl ?_
        exact e_iret (pc := 94) dX1_bestOf_94 rfl (by rw [← hQ_, show k = 61 by omega]; exact ⟨rfl, zGv⟩)
      · skip
        have C47 : ∀ (zm3 : Mem), (GS25 mem zm3 o) → Ev G mX1_bestOf Q_ 47 [(2, 25), (0, (o : Int)), (0, (if last then 1 else 0)), (0, stF mem (mem 27) (uset (mem 28) o 60) (mem 26 0) (mem 25 4) (mem 25 5) (mem 9) (mem 2) (mem 3)), (0, (bst (prF25 mem o) last k).1), (0, (bst (prF25 mem o) last k).2), (0, (k : Int)), (3, 0), (3, 0)] [(0, stF mem (mem 27) (uset (mem 28) o (k : Int)) (mem 26 0) (mem 25 4) (mem 25 5) (mem 9) (mem 2) (mem 3))] zm3 := by
          intro zm3 zG3
          refine e_istore (pc := 47) (lo' := [(2, 25), (0, (o : Int)), (0, (if last then 1 else 0)), (0, stF mem (mem 27) (uset (mem 28) o 60) (mem 26 0) (mem 25 4) (mem 25 5) (mem 9) (mem 2) (mem 3)), (0, (bst (prF25 mem o) last k).1), (0, (bst (prF25 mem o) last k).2), (0, (k : Int)), (0, stF mem (mem 27) (uset (mem 28) o (k : Int)) (mem 26 0) (mem 25 4) (mem 25 5) (mem 9) (mem 2) (mem 3)), (3, 0)]) dX1_bestOf_47 rfl (by decide) rfl ?_
          refine e_aloadn (pc := 49) dX1_bestOf_49 rfl rfl ?_
          refine e_iloadn (pc := 50) dX1_bestOf_50 rfl rfl ?_
          refine e_iload (pc := 51) dX1_bestOf_51 rfl ?_
          refine e_iload (pc := 53) dX1_bestOf_53 rfl ?_
          have zf := zG3.1
          have zqm5 : zm3 5 = mem 5 := funext (fun j => zf 5 j rfl)
          have zqm6 : zm3 6 = mem 6 := funext (fun j => zf 6 j rfl)
          have zqm7 : zm3 7 = mem 7 := funext (fun j => zf 7 j rfl)
          have zqmt : zm3 26 = mem 26 := funext (fun j => zf 26 j rfl)
          have zP := t_price_25 G zm3 o (k : Int) (stF mem (mem 27) (uset (mem 28) o (k : Int)) (mem 26 0) (mem 25 4) (mem 25 5) (mem 9) (mem 2) (mem 3)) ho (by omega) (zsb k (by omega)) (CoOk.mv zf hC) (EvOk25.mv zf hE)
          rw [zqm5, zqm6, zqm7, zqmt] at zP
          refine e_callVr (pc := 55) (as := [(0, (o : Int)), (0, (k : Int)), (0, stF mem (mem 27) (uset (mem 28) o (k : Int)) (mem 26 0) (mem 25 4) (mem 25 5) (mem 9) (mem 2) (mem 3))]) (st := []) (zP) dX1_bestOf_55 lX1_bestOf_72 rfl s_25 cn_1 rfl rfl ?_
          refine e_istore (pc := 58) (lo' := [(2, 25), (0, (o : Int)), (0, (if last then 1 else 0)), (0, stF mem (mem 27) (uset (mem 28) o 60) (mem 26 0) (mem 25 4) (mem 25 5) (mem 9) (mem 2) (mem 3)), (0, (bst (prF25 mem o) last k).1), (0, (bst (prF25 mem o) last k).2), (0, (k : Int)), (0, stF mem (mem 27) (uset (mem 28) o (k : Int)) (mem 26 0) (mem 25 4) (mem 25 5) (mem 9) (mem 2) (mem 3)), (0, prF25 mem o k)]) dX1_bestOf_58 rfl (by decide) rfl ?_
          refine e_iload (pc := 60) dX1_bestOf_60 rfl ?_
          refine e_iload (pc := 62) dX1_bestOf_62 rfl ?_
          refine e_icmp_lt (pc := 64) (tgt := 78) dX1_bestOf_64 rfl (fun h64 => ?_) (fun h64 => ?_)
          · skip
            refine e_iload (pc := 78) dX1_bestOf_78 rfl ?_
            refine e_istore (pc := 80) (lo' := [(2, 25), (0, (o : Int)), (0, (if last then 1 else 0)), (0, stF mem (mem 27) (uset (mem 28) o 60) (mem 26 0) (mem 25 4) (mem 25 5) (mem 9) (mem 2) (mem 3)), (0, (bst (prF25 mem o) last k).1), (0, prF25 mem o k), (0, (k : Int)), (0, stF mem (mem 27) (uset (mem 28) o (k : Int)) (mem 26 0) (mem 25 4) (mem 25 5) (mem 9) (mem 2) (mem 3)), (0, prF25 mem o k)]) dX1_bestOf_80 rfl (by decide) rfl ?_
            refine e_iload (pc := 82) dX1_bestOf_82 rfl ?_
            refine e_istore (pc := 84) (lo' := [(2, 25), (0, (o : Int)), (0, (if last then 1 else 0)), (0, stF mem (mem 27) (uset (mem 28) o 60) (mem 26 0) (mem 25 4) (mem 25 5) (mem 9) (mem 2) (mem 3)), (0, (k : Int)), (0, prF25 mem o k), (0, (k : Int)), (0, stF mem (mem 27) (uset (mem 28) o (k : Int)) (mem 26 0) (mem 25 4) (mem 25 5) (mem 9) (mem 2) (mem 3)), (0, prF25 mem o k)]) dX1_bestOf_84 rfl (by decide) rfl ?_
            refine e_iinc (pc := 86) (lo' := [(2, 25), (0, (o : Int)), (0, (if last then 1 else 0)), (0, stF mem (mem 27) (uset (mem 28) o 60) (mem 26 0) (mem 25 4) (mem 25 5) (mem 9) (mem 2) (mem 3)), (0, (k : Int)), (0, prF25 mem o k), (0, (k : Int) + 1), (0, stF mem (mem 27) (uset (mem 28) o (k : Int)) (mem 26 0) (mem 25 4) (mem 25 5) (mem 9) (mem 2) (mem 3)), (0, prF25 mem o k)]) dX1_bestOf_86 rfl (by omega) rfl (by decide) rfl ?_
            refine e_goto (pc := 89) (tgt := 23) dX1_bestOf_89 rfl ?_
            have zbk : bst (prF25 mem o) last (k + 1) = ((k : Int), prF25 mem o k) := by
              show (if _ then _ else _) = _
              rw [if_pos (Or.inl h64)]
            refine Ev.fgt [7, 8] ?_
            exact Ev.to (ih23 _ (by omega) (k + 1) zm3 (rfl) (by omega) (zG3)) (by rw [zbk]; rfl) rfl rfl
          · skip
            refine e_iloadn (pc := 67) dX1_bestOf_67 rfl rfl ?_
            refine e_if_eq (pc := 68) (tgt := 86) dX1_bestOf_68 rfl (fun h68 => ?_) (fun h68 => ?_)
            · skip
              refine e_iinc (pc := 86) (lo' := [(2, 25), (0, (o : Int)), (0, (if last then 1 else 0)), (0, stF mem (mem 27) (uset (mem 28) o 60) (mem 26 0) (mem 25 4) (mem 25 5) (mem 9) (mem 2) (mem 3)), (0, (bst (prF25 mem o) last k).1), (0, (bst (prF25 mem o) last k).2), (0, (k : Int) + 1), (0, stF mem (mem 27) (uset (mem 28) o (k : Int)) (mem 26 0) (mem 25 4) (mem 25 5) (mem 9) (mem 2) (mem 3)), (0, prF25 mem o k)]) dX1_bestOf_86 rfl (by omega) rfl (by decide) rfl ?_
              refine e_goto (pc := 89) (tgt := 23) dX1_bestOf_89 rfl ?_
              have zbk : bst (prF25 mem o) last (k + 1) = bst (prF25 mem o) last k := by
                show (if _ then _ else _) = _
                rw [if_neg (fun q => q.elim (fun z => by omega) (fun z => by rw [z.1] at h68; simp at h68))]
              refine Ev.fgt [7, 8] ?_
              exact Ev.to (ih23 _ (by omega) (k + 1) zm3 (rfl) (by omega) (zG3)) (by rw [zbk]; rfl) rfl rfl
            · skip
              refine e_iload (pc := 71) dX1_bestOf_71 rfl ?_
              refine e_iload (pc := 73) dX1_bestOf_73 rfl ?_
              refine e_icmp_ne (pc := 75) (tgt := 86) dX1_bestOf_75 rfl (fun h75 => ?_) (fun h75 => ?_)
              · skip
                refine e_iinc (pc := 86) (lo' := [(2, 25), (0, (o : Int)), (0, (if last then 1 else 0)), (0, stF mem (mem 27) (uset (mem 28) o 60) (mem 26 0) (mem 25 4) (mem 25 5) (mem 9) (mem 2) (mem 3)), (0, (bst (prF25 mem o) last k).1), (0, (bst (prF25 mem o) last k).2), (0, (k : Int) + 1), (0, stF mem (mem 27) (uset (mem 28) o (k : Int)) (mem 26 0) (mem 25 4) (mem 25 5) (mem 9) (mem 2) (mem 3)), (0, prF25 mem o k)]) dX1_bestOf_86 rfl (by omega) rfl (by decide) rfl ?_
                refine e_goto (pc := 89) (tgt := 23) dX1_bestOf_89 rfl ?_
                have zbk : bst (prF25 mem o) last (k + 1) = bst (prF25 mem o) last k := by
                  show (if _ then _ else _) = _
                  rw [if_neg (fun q => q.elim (fun z => by omega) (fun z => h75 z.2))]
                refine Ev.fgt [7, 8] ?_
                exact Ev.to (ih23 _ (by omega) (k + 1) zm3 (rfl) (by omega) (zG3)) (by rw [zbk]; rfl) rfl rfl
              · skip
                refine e_iload (pc := 78) dX1_bestOf_78 rfl ?_
                refine e_istore (pc := 80) (lo' := [(2, 25), (0, (o : Int)), (0, (if last then 1 else 0)), (0, stF mem (mem 27) (uset (mem 28) o 60) (mem 26 0) (mem 25 4) (mem 25 5) (mem 9) (mem 2) (mem 3)), (0, (bst (prF25 mem o) last k).1), (0, prF25 mem o k), (0, (k : Int)), (0, stF mem (mem 27) (uset (mem 28) o (k : Int)) (mem 26 0) (mem 25 4) (mem 25 5) (mem 9) (mem 2) (mem 3)), (0, prF25 mem o k)]) dX1_bestOf_80 rfl (by decide) rfl ?_
                refine e_iload (pc := 82) dX1_bestOf_82 rfl ?_
                refine e_istore (pc := 84) (lo' := [(2, 25), (0, (o : Int)), (0, (if last then 1 else 0)), (0, stF mem (mem 27) (uset (mem 28) o 60) (mem 26 0) (mem 25 4) (mem 25 5) (mem 9) (mem 2) (mem 3)), (0, (k : Int)), (0, prF25 mem o k), (0, (k : Int)), (0, stF mem (mem 27) (uset (mem 28) o (k : Int)) (mem 26 0) (mem 25 4) (mem 25 5) (mem 9) (mem 2) (mem 3)), (0, prF25 mem o k)]) dX1_bestOf_84 rfl (by decide) rfl ?_
                refine e_iinc (pc := 86) (lo' := [(2, 25), (0, (o : Int)), (0, (if last then 1 else 0)), (0, stF mem (mem 27) (uset (mem 28) o 60) (mem 26 0) (mem 25 4) (mem 25 5) (mem 9) (mem 2) (mem 3)), (0, (k : Int)), (0, prF25 mem o k), (0, (k : Int) + 1), (0, stF mem (mem 27) (uset (mem 28) o (k : Int)) (mem 26 0) (mem 25 4) (mem 25 5) (mem 9) (mem 2) (mem 3)), (0, prF25 mem o k)]) dX1_bestOf_86 rfl (by omega) rfl (by decide) rfl ?_
                refine e_goto (pc := 89) (tgt := 23) dX1_bestOf_89 rfl ?_
                have zbk : bst (prF25 mem o) last (k + 1) = ((k : Int), prF25 mem o k) := by
                  show (if _ then _ else _) = _
                  rw [if_pos (Or.inr ⟨by cases last <;> simp_all, h75⟩)]
                refine Ev.fgt [7, 8] ?_
                exact Ev.to (ih23 _ (by omega) (k + 1) zm3 (rfl) (by omega) (zG3)) (by rw [zbk]; rfl) rfl rfl
        refine e_iload (pc := 30) dX1_bestOf_30 rfl ?_
        refine e_iloadn (pc := 32) dX1_bestOf_32 rfl rfl ?_
        refine e_icmp_le (pc := 33) (tgt := 40) dX1_bestOf_33 rfl (fun h33 => ?_) (fun h33 => ?_)
        · skip
          refine e_aloadn (pc := 40) dX1_bestOf_40 rfl rfl ?_
          refine e_iloadn (pc := 41) dX1_bestOf_41 rfl rfl ?_
          refine e_iload (pc := 42) dX1_bestOf_42 rfl ?_
          refine e_callV (pc := 44) (as := [(0, (o : Int)), (0, (k : Int))]) (st := []) (t_settleG_25 G mem zmv o (k : Int) hC hE hR ho (by omega) hk hl ha zGv) dX1_bestOf_44 lX1_bestOf_64 rfl s_25 cn_1 rfl rfl (fun r_ zm2 hq_ => ?_)
          obtain ⟨zr_, zvb2, zG2, _⟩ := hq_
          subst zr_
          refine Ev.to (st' := [(0, stF mem (mem 27) (uset (mem 28) o (k : Int)) (mem 26 0) (mem 25 4) (mem 25 5) (mem 9) (mem 2) (mem 3))]) ?_ rfl rfl rfl
          exact Ev.to (C47 zm2 (zG2)) rfl rfl rfl
        · skip
          refine e_iloadn (pc := 36) dX1_bestOf_36 rfl rfl ?_
          refine e_goto (pc := 37) (tgt := 47) dX1_bestOf_37 rfl ?_
          exact Ev.to (C47 zmv (zGv)) rfl (by rw [st60_25 (x := (k : Int)) hC hE ho hk hl ha (by omega) (by omega)]) rfl
  exact Ev.to (L23 _ 0 zm1 (rfl) (by omega) (zG1)) rfl rfl rfl
