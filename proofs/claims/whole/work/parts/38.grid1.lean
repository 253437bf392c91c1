-- the grid's cells
def scY (c j : Nat) : Bool := scG 25 c j || c == 28 || c == 36
def plT (mem : Mem) (c : Nat) : Bool := decide (mem 27 c = 0)
/-- the aims of way i -/
def grA (mem : Mem) (m i : Nat) : Nat → Int := fun c => if c < 8 ∧ plT mem c = true then mem 35 (dgP (plT mem) m i c) else mem 28 c
theorem grA_0 {mem : Mem} {m : Nat} {c : Nat} (hc : c < 8) (hp : plT mem c = true) : grA mem m 0 c = mem 35 0 := by
  unfold grA
  rw [if_pos ⟨hc, hp⟩]
  unfold dgP
  rw [Nat.zero_div, Nat.zero_mod]
/-- the trial stands at way i -/
def WyI (mem zm : Mem) (m i : Nat) : Prop := Fr scY mem zm ∧ zm 28 = grA mem m i ∧ ∀ c, c < 8 → plT mem c = true → zm 36 c = ((dgP (plT mem) m i c : Nat) : Int)

def scM (c j : Nat) : Bool := c == 35 || (c == 34 && j == 2)
theorem t_lay2 (G : Gm) (mem : Mem) (g : Int) (hg : 5 ≤ g ∧ g ≤ 30) : Con G mX2_lay [(2, 34), (0, g)] mem (fun r m' => r = none ∧ Fr scM mem m' ∧ ∃ k : Nat, k ≤ 12 ∧ 60 ≤ g * (k : Int) ∧ m' 34 2 = (k : Int) + 1 ∧ (∀ j, j < k → m' 35 j = g * (j : Int) ∧ g * (j : Int) < 60) ∧ m' 35 k = 60) := by
  refine Con.of (lo := [(2, 34), (0, g), (3, 0)]) (by decide +kernel) (Nat.le_of_ble_eq_true rfl) rfl ?_
  generalize hQ_ : (fun r m' => r = none ∧ Fr scM mem m' ∧ ∃ k : Nat, k ≤ 12 ∧ 60 ≤ g * (k : Int) ∧ m' 34 2 = (k : Int) + 1 ∧ (∀ j, j < k → m' 35 j = g * (j : Int) ∧ g * (j : Int) < 60) ∧ m' 35 k = 60 : Option AV → Mem → Prop) = Q_
  refine e_aloadn (pc := 0) dX2_lay_0 rfl rfl ?_
  refine e_iconst (pc := 1) dX2_lay_1 (by decide) ?_
  refine e_putI (pc := 2) (mem2 := mset mem 34 2 0) dX2_lay_2 fX2_22 s_34 rfl (by decide) pw_2_2 rfl ?_
  refine e_iconst (pc := 5) dX2_lay_5 (by decide) ?_
  refine e_istoren (pc := 6) (lo' := [(2, 34), (0, g), (0, 0)]) dX2_lay_6 rfl rfl (by decide) rfl ?_
  have L7 : ∀ (n_ : Nat) (k : Nat) (zmv : Mem), 12 - k = n_ → (Fr scM mem zmv) → (zmv 34 2 = (k : Int)) → (∀ j, j < k → zmv 35 j = g * (j : Int) ∧ g * (j : Int) < 60) → Ev G mX2_lay Q_ 7 [(2, 34), (0, g), (0, g * (k : Int))] [] zmv := by
    intro n_
    induction n_ using Nat.strongRecOn with
    | ind n_ ih7 =>
      intro k zmv hn_ zf zm zr
      have zg0 : 5 * (k : Int) ≤ g * (k : Int) := Int.mul_le_mul_of_nonneg_right hg.1 (by omega)
      have zkb : k ≤ 12 := by
        rcases Nat.eq_zero_or_pos k with z | z
        · omega
        · have z1 := (zr (k - 1) (by omega)).2
          have z2 : 5 * ((k - 1 : Nat) : Int) ≤ g * ((k - 1 : Nat) : Int) := Int.mul_le_mul_of_nonneg_right hg.1 (by omega)
          omega
      refine e_iloadn (pc := 7) dX2_lay_7 rfl rfl ?_
      refine e_bipush (pc := 8) dX2_lay_8 rfl (by decide) ?_
      refine e_icmp_ge (pc := 10) (tgt := 49) dX2_lay_10 rfl (fun h10 => ?_) (fun h10 => ?_)
      · skip
        refine e_aloadn (pc := 49) dX2_lay_49 rfl rfl ?_
        refine e_getr (pc := 50) (k := 35) dX2_lay_50 fX2_9 s_34 rfl (by decide) ?_
        refine e_aloadn (pc := 53) dX2_lay_53 rfl rfl ?_
        refine e_getiv (pc := 54) (v := (k : Int)) dX2_lay_54 fX2_22 s_34 rfl (by decide) (zm) ?_
        refine e_bipush (pc := 57) dX2_lay_57 rfl (by decide) ?_
        refine e_iastm (pc := 59) (mem2 := mset zmv 35 k 60) dX2_lay_59 s_35 (by omega) rfl ?_
        refine e_aloadn (pc := 60) dX2_lay_60 rfl rfl ?_
        refine e_dup (pc := 61) dX2_lay_61 rfl ?_
        refine e_getiv (pc := 62) (v := (k : Int)) dX2_lay_62 fX2_22 s_34 rfl (by decide) (zm) ?_
        refine e_iconst (pc := 65) dX2_lay_65 (by decide) ?_
        refine e_iaddn (pc := 66) dX2_lay_66 (by omega) ?_
        refine e_putI (pc := 67) (mem2 := mset (mset zmv 35 k 60) 34 2 ((k : Int) + 1)) dX2_lay_67 fX2_22 s_34 rfl (by decide) pw_2_2 rfl ?_
        have zfin : ∀ j, j < k → (mset (mset zmv 35 k 60) 34 2 ((k : Int) + 1)) 35 j = g * (j : Int) ∧ g * (j : Int) < 60 := by
          intro j hj
          show (mset zmv 35 k 60) 35 j = _ ∧ _
          rw [mset_row, uset_ne _ _ (by omega)]
          exact zr j hj
        have zlast : (mset (mset zmv 35 k 60) 34 2 ((k : Int) + 1)) 35 k = 60 := by
          show (mset zmv 35 k 60) 35 k = _
          rw [mset_row, uset_eq]
        exact e_vret (pc := 70) dX2_lay_70 rfl (by rw [← hQ_]; exact ⟨rfl, (zf.ms rfl).ms rfl, k, zkb, h10, rfl, zfin, zlast⟩)
      · skip
        refine e_aloadn (pc := 13) dX2_lay_13 rfl rfl ?_
        refine e_getiv (pc := 14) (v := (k : Int)) dX2_lay_14 fX2_22 s_34 rfl (by decide) (zm) ?_
        refine e_bipush (pc := 17) dX2_lay_17 rfl (by decide) ?_
        refine e_icmp_ge (pc := 19) (tgt := 49) dX2_lay_19 rfl (fun h19 => ?_) (fun h19 => ?_)
        · skip
          exfalso; omega
        · skip
          refine e_aloadn (pc := 22) dX2_lay_22 rfl rfl ?_
          refine e_getr (pc := 23) (k := 35) dX2_lay_23 fX2_9 s_34 rfl (by decide) ?_
          refine e_aloadn (pc := 26) dX2_lay_26 rfl rfl ?_
          refine e_getiv (pc := 27) (v := (k : Int)) dX2_lay_27 fX2_22 s_34 rfl (by decide) (zm) ?_
          refine e_iloadn (pc := 30) dX2_lay_30 rfl rfl ?_
          refine e_iastm (pc := 31) (mem2 := mset zmv 35 k (g * (k : Int))) dX2_lay_31 s_35 (by omega) rfl ?_
          refine e_aloadn (pc := 32) dX2_lay_32 rfl rfl ?_
          refine e_dup (pc := 33) dX2_lay_33 rfl ?_
          refine e_getiv (pc := 34) (v := (k : Int)) dX2_lay_34 fX2_22 s_34 rfl (by decide) (zm) ?_
          refine e_iconst (pc := 37) dX2_lay_37 (by decide) ?_
          refine e_iaddn (pc := 38) dX2_lay_38 (by omega) ?_
          refine e_putI (pc := 39) (mem2 := mset (mset zmv 35 k (g * (k : Int))) 34 2 ((k : Int) + 1)) dX2_lay_39 fX2_22 s_34 rfl (by decide) pw_2_2 rfl ?_
          refine e_iloadn (pc := 42) dX2_lay_42 rfl rfl ?_
          refine e_iloadn (pc := 43) dX2_lay_43 rfl rfl ?_
          refine e_iaddn (pc := 44) dX2_lay_44 (by omega) ?_
          refine e_istoren (pc := 45) (lo' := [(2, 34), (0, g), (0, (g * (k : Int)) + g)]) dX2_lay_45 rfl rfl (by decide) rfl ?_
          refine e_goto (pc := 46) (tgt := 7) dX2_lay_46 rfl ?_
          have zr2 : ∀ j, j < k + 1 → (mset (mset zmv 35 k (g * (k : Int))) 34 2 ((k : Int) + 1)) 35 j = g * (j : Int) ∧ g * (j : Int) < 60 := by
            intro j hj
            show (mset zmv 35 k (g * (k : Int))) 35 j = _ ∧ _
            rw [mset_row]
            by_cases z : j = k
            · rw [z, uset_eq]; exact ⟨rfl, h10⟩
            · rw [uset_ne _ _ z]; exact zr j (by omega)
          exact Ev.to (ih7 _ (by omega) (k + 1) (mset (mset zmv 35 k (g * (k : Int))) 34 2 ((k : Int) + 1)) (rfl) ((zf.ms rfl).ms rfl) (rfl) (zr2)) (by rw [show g * ((k + 1 : Nat) : Int) = g * (k : Int) + g from by rw [show ((k + 1 : Nat) : Int) = (k : Int) + 1 by omega, Int.mul_add, Int.mul_one]]) rfl rfl
  exact Ev.to (L7 _ 0 (mset mem 34 2 0) (rfl) ((Fr.rf (S := scM)).ms rfl) (rfl) (fun j hj => by omega)) (by rw [show g * ((0 : Nat) : Int) = 0 from Int.mul_zero g]) rfl rfl

theorem t_toFirstWay (G : Gm) (mem : Mem) (m : Nat) : Con G mX2_toFirstWay [(2, 34)] mem (fun r m' => r = none ∧ WyI mem m' m 0) := by
  refine Con.of (lo := [(2, 34), (3, 0)]) (by decide +kernel) (Nat.le_of_ble_eq_true rfl) rfl ?_
  generalize hQ_ : (fun r m' => r = none ∧ WyI mem m' m 0 : Option AV → Mem → Prop) = Q_
  refine e_iconst (pc := 0) dX2_toFirstWay_0 (by decide) ?_
  refine e_istoren (pc := 1) (lo' := [(2, 34), (0, 0)]) dX2_toFirstWay_1 rfl rfl (by decide) rfl ?_
  have L2 : ∀ (n_ : Nat) (k : Nat) (zmv : Mem), 8 - k = n_ → (k ≤ 8) → (Fr scY mem zmv) → (∀ c, c < k → zmv 36 c = 0) → (zmv 28 = fun c => if c < k ∧ plT mem c = true then mem 35 0 else mem 28 c) → Ev G mX2_toFirstWay Q_ 2 [(2, 34), (0, (k : Int))] [] zmv := by
    intro n_
    induction n_ using Nat.strongRecOn with
    | ind n_ ih2 =>
      intro k zmv hn_ zk zf zp za
      refine e_iloadn (pc := 2) dX2_toFirstWay_2 rfl rfl ?_
      refine e_bipush (pc := 3) dX2_toFirstWay_3 rfl (by decide) ?_
      refine e_icmp_ge (pc := 5) (tgt := 48) dX2_toFirstWay_5 rfl (fun h5 => ?_) (fun h5 => ?_)
      · skip
        have zfin : WyI mem zmv m 0 := by
          refine ⟨zf, ?_, fun c hc hp => ?_⟩
          · rw [za]
            funext c
            rw [show k = 8 by omega]
            by_cases z : c < 8 ∧ plT mem c = true
            · rw [if_pos z, grA_0 z.1 z.2]
            · rw [if_neg z]; unfold grA; rw [if_neg z]
          · rw [zp c (by omega)]
            unfold dgP
            rw [Nat.zero_div, Nat.zero_mod]; rfl
        exact e_vret (pc := 48) dX2_toFirstWay_48 rfl (by rw [← hQ_]; exact ⟨rfl, zfin⟩)
      · skip
        refine e_aloadn (pc := 8) dX2_toFirstWay_8 rfl rfl ?_
        refine e_getr (pc := 9) (k := 36) dX2_toFirstWay_9 fX2_15 s_34 rfl (by decide) ?_
        refine e_iloadn (pc := 12) dX2_toFirstWay_12 rfl rfl ?_
        refine e_iconst (pc := 13) dX2_toFirstWay_13 (by decide) ?_
        refine e_iastm (pc := 14) (mem2 := mset zmv 36 k 0) dX2_toFirstWay_14 s_36 (by omega) rfl ?_
        refine e_aloadn (pc := 15) dX2_toFirstWay_15 rfl rfl ?_
        refine e_getr (pc := 16) (k := 25) dX2_toFirstWay_16 fX2_18 s_34 rfl (by decide) ?_
        refine e_getr (pc := 19) (k := 27) dX2_toFirstWay_19 fX2_26 s_25 rfl (by decide) ?_
        refine e_iloadn (pc := 22) dX2_toFirstWay_22 rfl rfl ?_
        refine e_ialdv (pc := 23) (v := mem 27 k) dX2_toFirstWay_23 s_27 (by omega) (zf 27 k rfl) ?_
        refine e_if_ne (pc := 24) (tgt := 42) dX2_toFirstWay_24 rfl (fun h24 => ?_) (fun h24 => ?_)
        · skip
          have zpl : plT mem k = false := by unfold plT; simpa using h24
          refine e_iinc (pc := 42) (lo' := [(2, 34), (0, (k : Int) + 1)]) dX2_toFirstWay_42 rfl (by omega) rfl (by decide) rfl ?_
          refine e_goto (pc := 45) (tgt := 2) dX2_toFirstWay_45 rfl ?_
          have zp2 : ∀ c, c < k + 1 → (mset zmv 36 k 0) 36 c = 0 := by
            intro c hc
            rw [mset_row]
            by_cases z : c = k
            · rw [z, uset_eq]
            · rw [uset_ne _ _ z]; exact zp c (by omega)
          have za2 : zmv 28 = fun c => if c < k + 1 ∧ plT mem c = true then mem 35 0 else mem 28 c := by
            funext c
            rw [za]
            show (if c < k ∧ plT mem c = true then mem 35 0 else mem 28 c) = (if c < k + 1 ∧ plT mem c = true then mem 35 0 else mem 28 c)
            by_cases z : c = k
            · subst z
              rw [if_neg (by omega), if_neg (fun q => by rw [zpl] at q; cases q.2)]
            · by_cases q : c < k ∧ plT mem c = true
              · rw [if_pos q, if_pos ⟨by omega, q.2⟩]
              · rw [if_neg q, if_neg (fun q2 => q ⟨by omega, q2.2⟩)]
          exact Ev.to (ih2 _ (by omega) (k + 1) (mset zmv 36 k 0) (rfl) (by omega) ((zf.ms rfl)) (zp2) (za2)) rfl rfl rfl
        · skip
          have zpl : plT mem k = true := by unfold plT; simpa using h24
          refine e_aloadn (pc := 27) dX2_toFirstWay_27 rfl rfl ?_
          refine e_getr (pc := 28) (k := 25) dX2_toFirstWay_28 fX2_18 s_34 rfl (by decide) ?_
          refine e_getr (pc := 31) (k := 28) dX2_toFirstWay_31 fX2_31 s_25 rfl (by decide) ?_
          refine e_iloadn (pc := 34) dX2_toFirstWay_34 rfl rfl ?_
          refine e_aloadn (pc := 35) dX2_toFirstWay_35 rfl rfl ?_
          refine e_getr (pc := 36) (k := 35) dX2_toFirstWay_36 fX2_9 s_34 rfl (by decide) ?_
          refine e_iconst (pc := 39) dX2_toFirstWay_39 (by decide) ?_
          refine e_ialdv (pc := 40) (v := mem 35 0) dX2_toFirstWay_40 s_35 (by omega) (zf 35 0 rfl) ?_
          refine e_iastm (pc := 41) (mem2 := mset (mset zmv 36 k 0) 28 k (mem 35 0)) dX2_toFirstWay_41 s_28 (by omega) rfl ?_
          refine e_iinc (pc := 42) (lo' := [(2, 34), (0, (k : Int) + 1)]) dX2_toFirstWay_42 rfl (by omega) rfl (by decide) rfl ?_
          refine e_goto (pc := 45) (tgt := 2) dX2_toFirstWay_45 rfl ?_
          have zp2 : ∀ c, c < k + 1 → (mset zmv 36 k 0) 36 c = 0 := by
            intro c hc
            rw [mset_row]
            by_cases z : c = k
            · rw [z, uset_eq]
            · rw [uset_ne _ _ z]; exact zp c (by omega)
          have za2 : uset (zmv 28) k (mem 35 0) = fun c => if c < k + 1 ∧ plT mem c = true then mem 35 0 else mem 28 c := by
            funext c
            rw [za]
            unfold uset
            by_cases z : c = k
            · subst z
              rw [if_pos rfl, if_pos ⟨by omega, zpl⟩]
            · rw [if_neg z]
              show (if c < k ∧ plT mem c = true then mem 35 0 else mem 28 c) = (if c < k + 1 ∧ plT mem c = true then mem 35 0 else mem 28 c)
              by_cases q : c < k ∧ plT mem c = true
              · rw [if_pos q, if_pos ⟨by omega, q.2⟩]
              · rw [if_neg q, if_neg (fun q2 => q ⟨by omega, q2.2⟩)]
          exact Ev.to (ih2 _ (by omega) (k + 1) (mset (mset zmv 36 k 0) 28 k (mem 35 0)) (rfl) (by omega) (((zf.ms rfl).ms rfl)) (zp2) (za2)) rfl rfl rfl
  exact Ev.to (L2 _ 0 mem (rfl) (by omega) (Fr.rf) (fun c hc => by omega) (by funext c; rw [if_neg (by omega)])) rfl rfl rfl
