theorem m_isRest (G : Gm) (A mem : Mem) (g : Int) (wy : Nat) (hg : 5 ≤ g ∧ g ≤ 30) (h3 : cnt (plN A) 8 ≤ 3) (hw : wy < wyN A g) (hI : CI A) (hP : PLr A mem) (hR : GRr A mem g) (hC : CTr A mem g (wyN A g)) : Con G mX8_isRest [(2, 49), (0, (wy : Int))] mem (fun r m' => ∃ v : Int, r = some (0, v) ∧ m' = mem ∧ ((v = 0 ∧ ¬ RsQ A g wy) ∨ (v = 1 ∧ RsQ A g wy))) := by
  refine Con.of (lo := [(2, 49), (0, (wy : Int)), (3, 0), (3, 0), (3, 0)]) (by decide +kernel) (Nat.le_of_ble_eq_true rfl) rfl ?_
  generalize hQ_ : (fun r m' => ∃ v : Int, r = some (0, v) ∧ m' = mem ∧ ((v = 0 ∧ ¬ RsQ A g wy) ∨ (v = 1 ∧ RsQ A g wy)) : Option AV → Mem → Prop) = Q_
  have zmb := mk_bd hg
  have zNw : wyN A g = mkN g ^ cnt (plN A) 8 := rfl
  have zNb := pw_le hg h3
  rw [← zNw] at zNb
  refine e_iconst (pc := 0) dX8_isRest_0 (by decide) ?_
  refine e_istoren (pc := 1) (lo' := [(2, 49), (0, (wy : Int)), (0, 0), (3, 0), (3, 0)]) dX8_isRest_1 rfl rfl (by decide) rfl ?_
  have L2 : ∀ (n_ : Nat) (k : Nat), 8 - k = n_ → (k ≤ cnt (plN A) 8) → (∀ c, c < 8 → plN A c = true → cnt (plN A) c < k → ∀ y, y < mkN g → prA A (A 17) (A 18) (grT A g wy) 0 0 c (grT A g wy c).toNat ≤ prA A (A 17) (A 18) (grT A g wy) 0 0 c (mnF g (mkN g) y).toNat) → Ev G mX8_isRest Q_ 2 [(2, 49), (0, (wy : Int)), (0, (k : Int)), (3, 0), (3, 0)] [] mem := by
    intro n_
    induction n_ using Nat.strongRecOn with
    | ind n_ ih2 =>
      intro k hn_ zk zs
      refine e_iloadn (pc := 2) dX8_isRest_2 rfl rfl ?_
      refine e_aloadn (pc := 3) dX8_isRest_3 rfl rfl ?_
      refine e_getiv (pc := 4) (v := ((cnt (plN A) 8 : Nat) : Int)) dX8_isRest_4 fX8_214 s_49 rfl (by decide) (hP.1) ?_
      refine e_icmp_ge (pc := 7) (tgt := 89) dX8_isRest_7 rfl (fun h7 => ?_) (fun h7 => ?_)
      · skip
        refine e_iconst (pc := 89) dX8_isRest_89 (by decide) ?_
        exact e_zret (pc := 90) dX8_isRest_90 rfl (by decide) (by rw [← hQ_]; exact ⟨_, rfl, rfl, Or.inr ⟨rfl, fun c hc hk y hy => zs c hc (decide_eq_true hk) (by have := (rk_of (p := plN A) (decide_eq_true hk) hc).2; omega) y hy⟩⟩)
      · skip
        obtain ⟨c, zc1, zc2, zc3, zc4⟩ := pl_kth hP (show k < cnt (plN A) 8 by omega)
        have zcp := pl_of zc2
        have zrk := rk_of zc2 zc1
        have zpw := pw_le hg (k := rkP (plN A) c) (by omega)
        have zdl : dgP (plN A) (mkN g) wy c < mkN g := dg_lt (by omega)
        have zdi : wy / mkN g ^ rkP (plN A) c ≤ wy := Nat.div_le_self _ _
        refine e_iloadn (pc := 10) dX8_isRest_10 rfl rfl ?_
        refine e_aloadn (pc := 11) dX8_isRest_11 rfl rfl ?_
        refine e_getr (pc := 12) (k := 68) dX8_isRest_12 fX8_65 s_49 rfl (by decide) ?_
        refine e_iloadn (pc := 15) dX8_isRest_15 rfl rfl ?_
        refine e_ialdv (pc := 16) (v := ((mkN g ^ rkP (plN A) c : Nat) : Int)) dX8_isRest_16 s_68 (by omega) (by rw [Int.toNat_natCast, ← zc3]; exact hR.2.2 c zc1 zc2) ?_
        refine e_idiv (pc := 17) dX8_isRest_17 (by omega) ?_
        rw [show bDiv (wy : Int) ((mkN g ^ rkP (plN A) c : Nat) : Int) = ((wy / mkN g ^ rkP (plN A) c : Nat) : Int) from bDivN (by omega) (by omega)]
        refine e_aloadn (pc := 18) dX8_isRest_18 rfl rfl ?_
        refine e_getiv (pc := 19) (v := ((mkN g : Nat) : Int)) dX8_isRest_19 fX8_217 s_49 rfl (by decide) (hR.1) ?_
        refine e_irem (pc := 22) dX8_isRest_22 (by omega) ?_
        rw [show bRem ((wy / mkN g ^ rkP (plN A) c : Nat) : Int) ((mkN g : Nat) : Int) = ((dgP (plN A) (mkN g) wy c : Nat) : Int) from bRemN (by omega) (by omega)]
        refine e_istoren (pc := 23) (lo' := [(2, 49), (0, (wy : Int)), (0, (k : Int)), (0, ((dgP (plN A) (mkN g) wy c : Nat) : Int)), (3, 0)]) dX8_isRest_23 rfl rfl (by decide) rfl ?_
        refine e_iconst (pc := 24) dX8_isRest_24 (by decide) ?_
        refine e_istore (pc := 25) (lo' := [(2, 49), (0, (wy : Int)), (0, (k : Int)), (0, ((dgP (plN A) (mkN g) wy c : Nat) : Int)), (0, 0)]) dX8_isRest_25 rfl (by decide) rfl ?_
        have L27 : ∀ (n_ : Nat) (x : Nat), 13 - x = n_ → (x ≤ mkN g) → (∀ y, y < x → prA A (A 17) (A 18) (grT A g wy) 0 0 c (grT A g wy c).toNat ≤ prA A (A 17) (A 18) (grT A g wy) 0 0 c (mnF g (mkN g) y).toNat) → Ev G mX8_isRest Q_ 27 [(2, 49), (0, (wy : Int)), (0, (k : Int)), (0, ((dgP (plN A) (mkN g) wy c : Nat) : Int)), (0, (x : Int))] [] mem := by
          intro n_
          induction n_ using Nat.strongRecOn with
          | ind n_ ih27 =>
            intro x hn_ zxm zx
            refine e_iload (pc := 27) dX8_isRest_27 rfl ?_
            refine e_aloadn (pc := 29) dX8_isRest_29 rfl rfl ?_
            refine e_getiv (pc := 30) (v := ((mkN g : Nat) : Int)) dX8_isRest_30 fX8_217 s_49 rfl (by decide) (hR.1) ?_
            refine e_icmp_ge (pc := 33) (tgt := 83) dX8_isRest_33 rfl (fun h33 => ?_) (fun h33 => ?_)
            · skip
              refine e_iinc (pc := 83) (lo' := [(2, 49), (0, (wy : Int)), (0, (k : Int) + 1), (0, ((dgP (plN A) (mkN g) wy c : Nat) : Int)), (0, (x : Int))]) dX8_isRest_83 rfl (by omega) rfl (by decide) rfl ?_
              refine e_goto (pc := 86) (tgt := 2) dX8_isRest_86 rfl ?_
              have zsn : ∀ d, d < 8 → plN A d = true → cnt (plN A) d < k + 1 → ∀ y, y < mkN g → prA A (A 17) (A 18) (grT A g wy) 0 0 d (grT A g wy d).toNat ≤ prA A (A 17) (A 18) (grT A g wy) 0 0 d (mnF g (mkN g) y).toNat := fun d hd hq hk y hy => by
                by_cases zz : d = c
                · rw [zz]; exact zx y (by omega)
                · have z1 : cnt (plN A) d ≠ k := fun q => zz (cnt_inj hq zc2 (q.trans zc3.symm))
                  exact zs d hd hq (by omega) y hy
              refine Ev.fgt [3, 4] ?_
              exact Ev.to (ih2 _ (by omega) (k + 1) (rfl) (by omega) (zsn)) rfl rfl rfl
            · skip
              have zse : ((setD (mkN g) (rkP (plN A) c) wy x : Nat) : Int) = (wy : Int) + ((x : Int) - ((dgP (plN A) (mkN g) wy c : Nat) : Int)) * ((mkN g ^ rkP (plN A) c : Nat) : Int) := sd_eq (by omega)
              have zsl : setD (mkN g) (rkP (plN A) c) wy x < wyN A g := sd_lt (by omega) (by omega) (by omega) hw
              have zc5 := (hC _ zsl).1 c zc1 zc2
              rw [cs_set hg hI zc1 zcp (by omega), zc3] at zc5
              have zc6 := (hC _ hw).1 c zc1 zc2
              rw [cs_own hg hI zc1 zcp, zc3] at zc6
              refine e_aloadn (pc := 36) dX8_isRest_36 rfl rfl ?_
              refine e_getr (pc := 37) (k := 66) dX8_isRest_37 fX8_59 s_49 rfl (by decide) ?_
              refine e_sipush (pc := 40) dX8_isRest_40 rfl (by decide) ?_
              refine e_iloadn (pc := 43) dX8_isRest_43 rfl rfl ?_
              refine e_imuln (pc := 44) dX8_isRest_44 (by omega) ?_
              refine e_iloadn (pc := 45) dX8_isRest_45 rfl rfl ?_
              refine e_iaddn (pc := 46) dX8_isRest_46 (by omega) ?_
              refine e_iload (pc := 47) dX8_isRest_47 rfl ?_
              refine e_iloadn (pc := 49) dX8_isRest_49 rfl rfl ?_
              refine e_isubn (pc := 50) dX8_isRest_50 (by omega) ?_
              refine e_aloadn (pc := 51) dX8_isRest_51 rfl rfl ?_
              refine e_getr (pc := 52) (k := 68) dX8_isRest_52 fX8_65 s_49 rfl (by decide) ?_
              refine e_iloadn (pc := 55) dX8_isRest_55 rfl rfl ?_
              refine e_ialdv (pc := 56) (v := ((mkN g ^ rkP (plN A) c : Nat) : Int)) dX8_isRest_56 s_68 (by omega) (by rw [Int.toNat_natCast, ← zc3]; exact hR.2.2 c zc1 zc2) ?_
              refine e_imuln (pc := 57) dX8_isRest_57 (by have z1 := zse; constructor <;> omega) ?_
              refine e_iaddn (pc := 58) dX8_isRest_58 (by have z1 := zse; constructor <;> omega) ?_
              refine e_ialdv (pc := 59) (v := (prA A (A 17) (A 18) (grT A g wy) 0 0 c (mnF g (mkN g) x).toNat)) dX8_isRest_59 s_66 (by have z1 := zse; omega) (by rw [show (((2197 * (k : Int)) + (wy : Int)) + (((x : Int) - ((dgP (plN A) (mkN g) wy c : Nat) : Int)) * ((mkN g ^ rkP (plN A) c : Nat) : Int))).toNat = 2197 * k + setD (mkN g) (rkP (plN A) c) wy x by omega]; exact zc5) ?_
              refine e_aloadn (pc := 60) dX8_isRest_60 rfl rfl ?_
              refine e_getr (pc := 61) (k := 66) dX8_isRest_61 fX8_59 s_49 rfl (by decide) ?_
              refine e_sipush (pc := 64) dX8_isRest_64 rfl (by decide) ?_
              refine e_iloadn (pc := 67) dX8_isRest_67 rfl rfl ?_
              refine e_imuln (pc := 68) dX8_isRest_68 (by omega) ?_
              refine e_iloadn (pc := 69) dX8_isRest_69 rfl rfl ?_
              refine e_iaddn (pc := 70) dX8_isRest_70 (by omega) ?_
              refine e_ialdv (pc := 71) (v := (prA A (A 17) (A 18) (grT A g wy) 0 0 c (grT A g wy c).toNat)) dX8_isRest_71 s_66 (by omega) (by rw [show ((2197 * (k : Int)) + (wy : Int)).toNat = 2197 * k + wy by omega]; exact zc6) ?_
              refine e_icmp_ge (pc := 72) (tgt := 77) dX8_isRest_72 rfl (fun h72 => ?_) (fun h72 => ?_)
              · skip
                refine e_iinc (pc := 77) (lo' := [(2, 49), (0, (wy : Int)), (0, (k : Int)), (0, ((dgP (plN A) (mkN g) wy c : Nat) : Int)), (0, (x : Int) + 1)]) dX8_isRest_77 rfl (by omega) rfl (by decide) rfl ?_
                refine e_goto (pc := 80) (tgt := 27) dX8_isRest_80 rfl ?_
                have zxn : ∀ y, y < x + 1 → prA A (A 17) (A 18) (grT A g wy) 0 0 c (grT A g wy c).toNat ≤ prA A (A 17) (A 18) (grT A g wy) 0 0 c (mnF g (mkN g) y).toNat := fun y hy => by
                  by_cases zz : y = x
                  · rw [zz]; exact h72
                  · exact zx y (by omega)
                exact Ev.to (ih27 _ (by omega) (x + 1) (rfl) (by omega) (zxn)) rfl rfl rfl
              · skip
                refine e_iconst (pc := 75) dX8_isRest_75 (by decide) ?_
                exact e_zret (pc := 76) dX8_isRest_76 rfl (by decide) (by rw [← hQ_]; exact ⟨_, rfl, rfl, Or.inl ⟨rfl, fun q => by have := q c zc1 zcp x (by omega); omega⟩⟩)
        exact Ev.to (L27 _ 0 (rfl) (by omega) (fun y hy => absurd hy (by omega))) rfl rfl rfl
  exact Ev.to (L2 _ 0 (rfl) (by omega) (fun c hc hq hk => absurd hk (by omega))) rfl rfl rfl

theorem m_restAt (G : Gm) (A mem : Mem) (g zi : Int) (hg : 5 ≤ g ∧ g ≤ 30) (h3 : cnt (plN A) 8 ≤ 3) (hI : CI A) (hP : PLr A mem) (hR : GRr A mem g) (hC : CTr A mem g (wyN A g)) : Con G mX8_restAt [(2, 49), (0, zi)] mem (fun r m' => r = some (0, rsW A g zi) ∧ ∃ x : Int, m' = mset mem 49 38 x ∧ (zi = -1 → x = ((cnt (rsQ A g) (wyN A g) : Nat) : Int))) := by
  refine Con.of (lo := [(2, 49), (0, zi), (3, 0)]) (by decide +kernel) (Nat.le_of_ble_eq_true rfl) rfl ?_
  generalize hQ_ : (fun r m' => r = some (0, rsW A g zi) ∧ ∃ x : Int, m' = mset mem 49 38 x ∧ (zi = -1 → x = ((cnt (rsQ A g) (wyN A g) : Nat) : Int)) : Option AV → Mem → Prop) = Q_
  have zmb := mk_bd hg
  have zNw : wyN A g = mkN g ^ cnt (plN A) 8 := rfl
  have zNb := pw_le hg h3
  rw [← zNw] at zNb
  refine e_aloadn (pc := 0) dX8_restAt_0 rfl rfl ?_
  refine e_iconst (pc := 1) dX8_restAt_1 (by decide) ?_
  refine e_putI (pc := 2) (mem2 := mset mem 49 38 0) dX8_restAt_2 fX8_226 s_49 rfl (by decide) pw_8_38 rfl ?_
  refine e_iconst (pc := 5) dX8_restAt_5 (by decide) ?_
  refine e_istoren (pc := 6) (lo' := [(2, 49), (0, zi), (0, 0)]) dX8_restAt_6 rfl rfl (by decide) rfl ?_
  have L7 : ∀ (n_ : Nat) (w : Nat), wyN A g - w = n_ → (w ≤ wyN A g) → (rsW A g zi = fromK (fun w => rsQ A g w && decide (((cnt (rsQ A g) w : Nat) : Int) = zi)) (wyN A g - w) w) → Ev G mX8_restAt Q_ 7 [(2, 49), (0, zi), (0, (w : Int))] [] (mset mem 49 38 ((cnt (rsQ A g) w : Nat) : Int)) := by
    intro n_
    induction n_ using Nat.strongRecOn with
    | ind n_ ih7 =>
      intro w hn_ zw zan
      have zcl := cnt_le (rsQ A g) w
      refine e_iloadn (pc := 7) dX8_restAt_7 rfl rfl ?_
      refine e_aloadn (pc := 8) dX8_restAt_8 rfl rfl ?_
      refine e_getiv (pc := 9) (v := ((wyN A g : Nat) : Int)) dX8_restAt_9 fX8_220 s_49 rfl (by decide) (hR.2.1) ?_
      refine e_icmp_ge (pc := 12) (tgt := 49) dX8_restAt_12 rfl (fun h12 => ?_) (fun h12 => ?_)
      · skip
        refine e_iconst (pc := 49) dX8_restAt_49 (by decide) ?_
        rw [fromK_e (by omega)] at zan
        exact e_iret (pc := 50) dX8_restAt_50 rfl (by rw [← hQ_]; exact ⟨by rw [zan], _, rfl, fun _ => by rw [show w = wyN A g by omega]⟩)
      · skip
        refine e_aloadn (pc := 15) dX8_restAt_15 rfl rfl ?_
        refine e_iloadn (pc := 16) dX8_restAt_16 rfl rfl ?_
        refine e_callV (pc := 17) (as := [(0, (w : Int))]) (st := []) (m_isRest G A (mset mem 49 38 ((cnt (rsQ A g) w : Nat) : Int)) g w hg h3 (by omega) hI ⟨hP.1, hP.2⟩ ⟨hR.1, hR.2.1, hR.2.2⟩ (fun j hj => hC j hj)) dX8_restAt_17 lX8_restAt_229 rfl s_49 cn_8 rfl rfl (fun r_ zmr hq_ => ?_)
        obtain ⟨zv, zr_, zme, zor⟩ := hq_
        subst zr_
        subst zme
        refine Ev.to (st' := [(0, zv)]) ?_ rfl rfl rfl
        rcases zor with ⟨zv0, zrs⟩ | ⟨zv0, zrs⟩
        · subst zv0
          refine e_if_eq (pc := 20) (tgt := 43) dX8_restAt_20 rfl (fun h20 => ?_) (fun h20 => ?_)
          · skip
            refine e_iinc (pc := 43) (lo' := [(2, 49), (0, zi), (0, (w : Int) + 1)]) dX8_restAt_43 rfl (by omega) rfl (by decide) rfl ?_
            refine e_goto (pc := 46) (tgt := 7) dX8_restAt_46 rfl ?_
            have zrq : ¬ rsQ A g w = true := fun q => zrs (rsQ_iff.mp q)
            have zpf : (fun w => rsQ A g w && decide (((cnt (rsQ A g) w : Nat) : Int) = zi)) w = false := by
              show (rsQ A g w && decide _) = false
              rw [Bool.eq_false_iff.mpr zrq, Bool.false_and]
            exact Ev.to (ih7 _ (by omega) (w + 1) (rfl) (by omega) (zan.trans (fromK_f zpf (by omega)))) rfl rfl (by rw [cnt_s, if_neg zrq]; rfl)
          · skip
            exact absurd h20 (by decide)
        · subst zv0
          refine e_if_eq (pc := 20) (tgt := 43) dX8_restAt_20 rfl (fun h20 => ?_) (fun h20 => ?_)
          · skip
            exact absurd h20 (by decide)
          · skip
            refine e_aloadn (pc := 23) dX8_restAt_23 rfl rfl ?_
            refine e_getiv (pc := 24) (v := ((cnt (rsQ A g) w : Nat) : Int)) dX8_restAt_24 fX8_226 s_49 rfl (by decide) rfl ?_
            refine e_iloadn (pc := 27) dX8_restAt_27 rfl rfl ?_
            refine e_icmp_ne (pc := 28) (tgt := 33) dX8_restAt_28 rfl (fun h28 => ?_) (fun h28 => ?_)
            · skip
              refine e_aloadn (pc := 33) dX8_restAt_33 rfl rfl ?_
              refine e_dup (pc := 34) dX8_restAt_34 rfl ?_
              refine e_getiv (pc := 35) (v := ((cnt (rsQ A g) w : Nat) : Int)) dX8_restAt_35 fX8_226 s_49 rfl (by decide) rfl ?_
              refine e_iconst (pc := 38) dX8_restAt_38 (by decide) ?_
              refine e_iaddn (pc := 39) dX8_restAt_39 (by omega) ?_
              refine e_putI (pc := 40) (mem2 := mset (mset mem 49 38 ((cnt (rsQ A g) w : Nat) : Int)) 49 38 (((cnt (rsQ A g) w : Nat) : Int) + 1)) dX8_restAt_40 fX8_226 s_49 rfl (by decide) pw_8_38 rfl ?_
              refine e_iinc (pc := 43) (lo' := [(2, 49), (0, zi), (0, (w : Int) + 1)]) dX8_restAt_43 rfl (by omega) rfl (by decide) rfl ?_
              refine e_goto (pc := 46) (tgt := 7) dX8_restAt_46 rfl ?_
              have zrq : rsQ A g w = true := rsQ_iff.mpr zrs
              have zpf : (fun w => rsQ A g w && decide (((cnt (rsQ A g) w : Nat) : Int) = zi)) w = false := by
                show (rsQ A g w && decide _) = false
                rw [decide_eq_false h28, Bool.and_false]
              exact Ev.to (ih7 _ (by omega) (w + 1) (rfl) (by omega) (zan.trans (fromK_f zpf (by omega)))) rfl rfl (by rw [mset_mset, cnt_s, if_pos zrq]; rfl)
            · skip
              refine e_iloadn (pc := 31) dX8_restAt_31 rfl rfl ?_
              have zpt : (fun w => rsQ A g w && decide (((cnt (rsQ A g) w : Nat) : Int) = zi)) w = true := by
                show (rsQ A g w && decide _) = true
                rw [rsQ_iff.mpr zrs, decide_eq_true h28]; rfl
              rw [fromK_t zpt (by omega)] at zan
              exact e_iret (pc := 32) dX8_restAt_32 rfl (by rw [← hQ_]; exact ⟨by rw [zan], _, rfl, fun q => by omega⟩)
  exact Ev.to (L7 _ 0 (rfl) (by omega) (rfl)) rfl rfl rfl

theorem fk_bd {q : Nat → Bool} : ∀ (n k : Nat), fromK q n k = -1 ∨ ∃ w : Nat, fromK q n k = (w : Int) ∧ w < k + n
  | 0, k => Or.inl rfl
  | n + 1, k => by
    show (if q k then (k : Int) else fromK q n (k + 1)) = -1 ∨ ∃ w : Nat, (if q k then (k : Int) else fromK q n (k + 1)) = (w : Int) ∧ w < k + (n + 1)
    by_cases z : q k = true
    · rw [if_pos z]; exact Or.inr ⟨k, rfl, by omega⟩
    · rw [if_neg z]
      rcases fk_bd n (k + 1) with h | ⟨w, h1, h2⟩
      · exact Or.inl h
      · exact Or.inr ⟨w, h1, by omega⟩
theorem rsW_bd (A : Mem) (g i : Int) : rsW A g i = -1 ∨ ∃ w : Nat, rsW A g i = (w : Int) ∧ w < wyN A g := by
  rcases fk_bd (q := fun w => rsQ A g w && decide (((cnt (rsQ A g) w : Nat) : Int) = i)) (wyN A g) 0 with h | ⟨w, h1, h2⟩
  · exact Or.inl h
  · exact Or.inr ⟨w, h1, by omega⟩

theorem m_rests (G : Gm) (A mem : Mem) (g zi comer : Int) (hI : CI A) (hM : MI A mem) : Con G mX8_rests [(2, 49), (0, g), (0, zi), (0, comer)] mem (fun r m' => r = some (0, an_rests A g zi comer) ∧ MI A m' ∧ Fr scZ mem m') := by
  refine Con.of (lo := [(2, 49), (0, g), (0, zi), (0, comer), (3, 0), (3, 0), (3, 0)]) (by decide +kernel) (Nat.le_of_ble_eq_true rfl) rfl ?_
  generalize hQ_ : (fun r m' => r = some (0, an_rests A g zi comer) ∧ MI A m' ∧ Fr scZ mem m' : Option AV → Mem → Prop) = Q_
  refine e_iloadn (pc := 0) dX8_rests_0 rfl rfl ?_
  refine e_iconst (pc := 1) dX8_rests_1 (by decide) ?_
  refine e_icmp_ne (pc := 2) (tgt := 14) dX8_rests_2 rfl (fun h2 => ?_) (fun h2 => ?_)
  · skip
    refine e_iconst (pc := 14) dX8_rests_14 (by decide) ?_
    refine e_istore (pc := 15) (lo' := [(2, 49), (0, g), (0, zi), (0, comer), (0, 0), (3, 0), (3, 0)]) dX8_rests_15 rfl (by decide) rfl ?_
    refine e_iloadn (pc := 17) dX8_rests_17 rfl rfl ?_
    refine e_iconst (pc := 18) dX8_rests_18 (by decide) ?_
    refine e_bipush (pc := 19) dX8_rests_19 rfl (by decide) ?_
    refine e_callSr (pc := 21) (as := [(0, g), (0, 5), (0, 30)]) (st := []) (v := (0, if 5 ≤ g ∧ g ≤ 30 then 1 else 0)) (m_in G mem g 5 30) dX8_rests_21 lX8_rests_95 rfl rfl rfl ?_
    by_cases zg : 5 ≤ g ∧ g ≤ 30
    · rw [if_pos zg]
      refine e_if_eq (pc := 24) (tgt := 44) dX8_rests_24 rfl (fun h24 => ?_) (fun h24 => ?_)
      · skip
        exact absurd h24 (by decide)
      · skip
        refine e_iload (pc := 27) dX8_rests_27 rfl ?_
        refine e_if_ne (pc := 29) (tgt := 47) dX8_rests_29 rfl (fun h29 => ?_) (fun h29 => ?_)
        · skip
          exact absurd h29 (by decide)
        · skip
          refine e_iloadn (pc := 32) dX8_rests_32 rfl rfl ?_
          refine e_if_lt (pc := 33) (tgt := 44) dX8_rests_33 rfl (fun h33 => ?_) (fun h33 => ?_)
          · skip
            refine e_bipush (pc := 44) dX8_rests_44 rfl (by decide) ?_
            have zan : an_rests A g zi comer = -2 := by unfold an_rests; rw [if_pos (by first | omega | exact (if zz : comer = -1 then by omega else Or.inr (Or.inr (Or.inr (Or.inr ⟨zz, zc⟩)))))]
            exact e_iret (pc := 46) dX8_rests_46 rfl (by rw [← hQ_]; exact ⟨by rw [zan], hM, Fr.rf⟩)
          · skip
            refine e_aloadn (pc := 36) dX8_rests_36 rfl rfl ?_
            refine e_iloadn (pc := 37) dX8_rests_37 rfl rfl ?_
            refine e_callVr (pc := 38) (as := [(0, comer)]) (st := []) (v := (0, if 0 ≤ comer ∧ comer < 8 ∧ A 18 comer.toNat = 0 then 1 else 0)) (m_isPlain G A mem comer hI hM) dX8_rests_38 lX8_rests_107 rfl s_49 cn_8 rfl rfl ?_
            by_cases zc : 0 ≤ comer ∧ comer < 8 ∧ A 18 comer.toNat = 0
            · rw [if_pos zc]
              obtain ⟨cn, zcn1⟩ : ∃ cn : Nat, comer = (cn : Int) := ⟨comer.toNat, by omega⟩
              subst zcn1
              have zcn : cn < 8 := by omega
              have zck : A 18 cn = 0 := zc.2.2
              refine e_if_ne (pc := 41) (tgt := 47) dX8_rests_41 rfl (fun h41 => ?_) (fun h41 => ?_)
              · skip
                refine e_aloadn (pc := 47) dX8_rests_47 rfl rfl ?_
                refine e_callV (pc := 48) (as := []) (st := []) (m_gathers G A mem hI hM) dX8_rests_48 lX8_rests_232 rfl s_49 cn_8 rfl rfl (fun r_ zma hq_ => ?_)
                obtain ⟨zr_, zMa, zPa, zfa⟩ := hq_
                subst zr_
                refine Ev.to (st' := [(0, (if cnt (plN A) 8 < 4 then 1 else 0))]) ?_ rfl rfl rfl
                refine e_if_ne (pc := 51) (tgt := 57) dX8_rests_51 rfl (fun h51 => ?_) (fun h51 => ?_)
                · skip
                  refine e_aloadn (pc := 57) dX8_rests_57 rfl rfl ?_
                  refine e_iloadn (pc := 58) dX8_rests_58 rfl rfl ?_
                  have zh3 : cnt (plN A) 8 ≤ 3 := Classical.byContradiction (fun q => h51 (by rw [if_neg (by omega)]))
                  refine e_callV (pc := 59) (as := [(0, g)]) (st := []) (m_grids G A zma g zg zh3 hI zMa zPa) dX8_rests_59 lX8_rests_236 rfl s_49 cn_8 rfl rfl (fun r_ zmb hq_ => ?_)
                  obtain ⟨zr_, zMb, zPb, zGb, zCb, zfb⟩ := hq_
                  subst zr_
                  have zmk := mk_bd zg
                  have zfz : Fr scZ mem zmb := zfa.tr zfb
                  have zwp := wy_pos (A := A) zg
                  have zwl := cnt_pl_le (A := A) zg zh3
                  refine Ev.to (st' := []) ?_ rfl rfl rfl
                  refine e_aloadn (pc := 62) dX8_rests_62 rfl rfl ?_
                  refine e_iloadn (pc := 63) dX8_rests_63 rfl rfl ?_
                  refine e_callV (pc := 64) (as := [(0, zi)]) (st := []) (m_restAt G A zmb g zi zg zh3 hI zPb zGb zCb) dX8_rests_64 lX8_rests_240 rfl s_49 cn_8 rfl rfl (fun r_ zmc hq_ => ?_)
                  obtain ⟨zr_, zx, zme, zxa⟩ := hq_
                  subst zr_
                  subst zme
                  have zMc := zMb.v (zn := mset zmb 49 38 zx) ((Fr.rf (S := scV)).ms rfl)
                  have zfc : Fr scZ mem (mset zmb 49 38 zx) := zfz.ms rfl
                  have zrw := rsW_bd A g zi
                  refine Ev.to (st' := [(0, rsW A g zi)]) ?_ rfl rfl rfl
                  refine e_istore (pc := 67) (lo' := [(2, 49), (0, g), (0, zi), (0, (cn : Int)), (0, 0), (0, rsW A g zi), (3, 0)]) dX8_rests_67 rfl (by decide) rfl ?_
                  refine e_iload (pc := 69) dX8_rests_69 rfl ?_
                  refine e_if_eq (pc := 71) (tgt := 79) dX8_rests_71 rfl (fun h71 => ?_) (fun h71 => ?_)
                  · skip
                    have zplc : plN A cn = true := decide_eq_true zck
                    have zrk := rk_of zplc zcn
                    refine e_iconst (pc := 79) dX8_rests_79 (by decide) ?_
                    refine e_istore (pc := 80) (lo' := [(2, 49), (0, g), (0, zi), (0, (cn : Int)), (0, 0), (0, rsW A g zi), (0, 0)]) dX8_rests_80 rfl (by decide) rfl ?_
                    have L82 : ∀ (n_ : Nat) (k : Nat), 8 - k = n_ → (k ≤ cnt (plN A) cn) → Ev G mX8_rests Q_ 82 [(2, 49), (0, g), (0, zi), (0, (cn : Int)), (0, 0), (0, rsW A g zi), (0, (k : Int))] [] (mset zmb 49 38 zx) := by
                      intro n_
                      induction n_ using Nat.strongRecOn with
                      | ind n_ ih82 =>
                        intro k hn_ zk
                        refine e_aloadn (pc := 82) dX8_rests_82 rfl rfl ?_
                        obtain ⟨c, zc1, zc2, zc3, zc4⟩ := pl_kth zPb (show k < cnt (plN A) 8 by omega)
                        refine e_getr (pc := 83) (k := 65) dX8_rests_83 fX8_56 s_49 rfl (by decide) ?_
                        refine e_iload (pc := 86) dX8_rests_86 rfl ?_
                        refine e_ialdv (pc := 88) (v := (c : Int)) dX8_rests_88 s_65 (by omega) (zc4) ?_
                        refine e_iloadn (pc := 89) dX8_rests_89 rfl rfl ?_
                        refine e_icmp_eq (pc := 90) (tgt := 99) dX8_rests_90 rfl (fun h90 => ?_) (fun h90 => ?_)
                        · skip
                          have zce : c = cn := by omega
                          rw [zce] at zc3
                          refine e_iload (pc := 99) dX8_rests_99 rfl ?_
                          refine e_iconst (pc := 101) dX8_rests_101 (by decide) ?_
                          refine e_icmp_ne (pc := 102) (tgt := 109) dX8_rests_102 rfl (fun h102 => ?_) (fun h102 => ?_)
                          · skip
                            obtain ⟨wy, zwy, zwl2⟩ : ∃ wy : Nat, rsW A g zi = (wy : Int) ∧ wy < wyN A g := by
                              rcases zrw with z | z
                              · exact absurd z h102
                              · exact z
                            have zpw := pw_le zg (k := rkP (plN A) cn) (by omega)
                            have zdl : dgP (plN A) (mkN g) wy cn < mkN g := dg_lt (by omega)
                            have zdi : wy / mkN g ^ rkP (plN A) cn ≤ wy := Nat.div_le_self _ _
                            refine Ev.to (lo' := [(2, 49), (0, g), (0, zi), (0, (cn : Int)), (0, 0), (0, (wy : Int)), (0, (k : Int))]) ?_ (by rw [zwy]) rfl rfl
                            refine e_iloadn (pc := 109) dX8_rests_109 rfl rfl ?_
                            refine e_aloadn (pc := 110) dX8_rests_110 rfl rfl ?_
                            refine e_getiv (pc := 111) (v := ((mkN g : Nat) : Int)) dX8_rests_111 fX8_217 s_49 rfl (by decide) (zGb.1) ?_
                            refine e_iload (pc := 114) dX8_rests_114 rfl ?_
                            refine e_aloadn (pc := 116) dX8_rests_116 rfl rfl ?_
                            refine e_getr (pc := 117) (k := 68) dX8_rests_117 fX8_65 s_49 rfl (by decide) ?_
                            refine e_iload (pc := 120) dX8_rests_120 rfl ?_
                            refine e_ialdv (pc := 122) (v := ((mkN g ^ rkP (plN A) cn : Nat) : Int)) dX8_rests_122 s_68 (by omega) (by rw [Int.toNat_natCast, ← zc3]; exact zGb.2.2 cn zcn zplc) ?_
                            refine e_idiv (pc := 123) dX8_rests_123 (by omega) ?_
                            rw [show bDiv (wy : Int) ((mkN g ^ rkP (plN A) cn : Nat) : Int) = ((wy / mkN g ^ rkP (plN A) cn : Nat) : Int) from bDivN (by omega) (by omega)]
                            refine e_aloadn (pc := 124) dX8_rests_124 rfl rfl ?_
                            refine e_getiv (pc := 125) (v := ((mkN g : Nat) : Int)) dX8_rests_125 fX8_217 s_49 rfl (by decide) (zGb.1) ?_
                            refine e_irem (pc := 128) dX8_rests_128 (by omega) ?_
                            rw [show bRem ((wy / mkN g ^ rkP (plN A) cn : Nat) : Int) ((mkN g : Nat) : Int) = ((dgP (plN A) (mkN g) wy cn : Nat) : Int) from bRemN (by omega) (by omega)]
                            refine e_callSr (pc := 129) (as := [(0, g), (0, ((mkN g : Nat) : Int)), (0, ((dgP (plN A) (mkN g) wy cn : Nat) : Int))]) (st := []) (m_minuteOf G (mset zmb 49 38 zx) g (mkN g) (dgP (plN A) (mkN g) wy cn) zg zdl zmk.2) dX8_rests_129 lX8_rests_223 rfl rfl rfl ?_
                            have zneg : ¬ (¬ (5 ≤ g ∧ g ≤ 30) ∨ zi < -1 ∨ (zi = -1 ∧ (cn : Int) ≠ -1) ∨ (zi ≠ -1 ∧ (cn : Int) = -1) ∨ ((cn : Int) ≠ -1 ∧ ¬ (0 ≤ (cn : Int) ∧ (cn : Int) < 8 ∧ A 18 (cn : Int).toNat = 0))) := by
                              rintro (q | q | q | q | q)
                              · exact q zg
                              · omega
                              · omega
                              · omega
                              · exact q.2 zc
                            have zan : an_rests A g zi (cn : Int) = mnF g (mkN g) (dgP (plN A) (mkN g) wy cn) := by
                              unfold an_rests
                              rw [if_neg zneg, if_neg (by omega), if_neg (by omega), if_neg (by omega), zwy]
                              show grT A g wy cn = _
                              unfold grT
                              rw [if_pos ⟨zcn, zck⟩]
                            exact e_iret (pc := 132) dX8_rests_132 rfl (by rw [← hQ_]; exact ⟨by rw [zan], zMc, zfc⟩)
                          · skip
                            refine e_iconst (pc := 105) dX8_rests_105 (by decide) ?_
                            refine e_goto (pc := 106) (tgt := 132) dX8_rests_106 rfl ?_
                            have zneg : ¬ (¬ (5 ≤ g ∧ g ≤ 30) ∨ zi < -1 ∨ (zi = -1 ∧ (cn : Int) ≠ -1) ∨ (zi ≠ -1 ∧ (cn : Int) = -1) ∨ ((cn : Int) ≠ -1 ∧ ¬ (0 ≤ (cn : Int) ∧ (cn : Int) < 8 ∧ A 18 (cn : Int).toNat = 0))) := by
                              rintro (q | q | q | q | q)
                              · exact q zg
                              · omega
                              · omega
                              · omega
                              · exact q.2 zc
                            have zan : an_rests A g zi (cn : Int) = -1 := by unfold an_rests; rw [if_neg zneg, if_neg (by omega), if_neg (by omega), if_pos h102]
                            exact e_iret (pc := 132) dX8_rests_132 rfl (by rw [← hQ_]; exact ⟨by rw [zan], zMc, zfc⟩)
                        · skip
                          refine e_iinc (pc := 93) (lo' := [(2, 49), (0, g), (0, zi), (0, (cn : Int)), (0, 0), (0, rsW A g zi), (0, (k : Int) + 1)]) dX8_rests_93 rfl (by omega) rfl (by decide) rfl ?_
                          refine e_goto (pc := 96) (tgt := 82) dX8_rests_96 rfl ?_
                          have zkn : k + 1 ≤ cnt (plN A) cn := by
                            rcases Nat.lt_or_ge k (cnt (plN A) cn) with z | z
                            · exact z
                            · exfalso; exact h90 (by rw [← zc4, show k = cnt (plN A) cn by omega]; exact zPb.2 cn zcn zplc)
                          exact Ev.to (ih82 _ (by omega) (k + 1) (rfl) (zkn)) rfl rfl rfl
                    exact Ev.to (L82 _ 0 (rfl) (by omega)) rfl rfl rfl
                  · skip
                    exact absurd h71 (by decide)
                · skip
                  refine e_bipush (pc := 54) dX8_rests_54 rfl (by decide) ?_
                  have zneg : ¬ (¬ (5 ≤ g ∧ g ≤ 30) ∨ zi < -1 ∨ (zi = -1 ∧ (cn : Int) ≠ -1) ∨ (zi ≠ -1 ∧ (cn : Int) = -1) ∨ ((cn : Int) ≠ -1 ∧ ¬ (0 ≤ (cn : Int) ∧ (cn : Int) < 8 ∧ A 18 (cn : Int).toNat = 0))) := by
                    rintro (q | q | q | q | q)
                    · exact q zg
                    · omega
                    · omega
                    · omega
                    · exact q.2 zc
                  have zh4 : 3 < cnt (plN A) 8 := Classical.byContradiction (fun q => by rw [if_pos (by omega)] at h51; omega)
                  have zan : an_rests A g zi (cn : Int) = -4 := by unfold an_rests; rw [if_neg zneg, if_pos zh4]
                  exact e_iret (pc := 56) dX8_rests_56 rfl (by rw [← hQ_]; exact ⟨by rw [zan], zMa, zfa⟩)
              · skip
                exact absurd h41 (by decide)
            · rw [if_neg zc]
              refine e_if_ne (pc := 41) (tgt := 47) dX8_rests_41 rfl (fun h41 => ?_) (fun h41 => ?_)
              · skip
                exact absurd h41 (by decide)
              · skip
                refine e_bipush (pc := 44) dX8_rests_44 rfl (by decide) ?_
                have zan : an_rests A g zi comer = -2 := by unfold an_rests; rw [if_pos (by first | omega | exact (if zz : comer = -1 then by omega else Or.inr (Or.inr (Or.inr (Or.inr ⟨zz, zc⟩)))))]
                exact e_iret (pc := 46) dX8_rests_46 rfl (by rw [← hQ_]; exact ⟨by rw [zan], hM, Fr.rf⟩)
    · rw [if_neg zg]
      refine e_if_eq (pc := 24) (tgt := 44) dX8_rests_24 rfl (fun h24 => ?_) (fun h24 => ?_)
      · skip
        refine e_bipush (pc := 44) dX8_rests_44 rfl (by decide) ?_
        have zan : an_rests A g zi comer = -2 := by unfold an_rests; rw [if_pos (by first | omega | exact (if zz : comer = -1 then by omega else Or.inr (Or.inr (Or.inr (Or.inr ⟨zz, zc⟩)))))]
        exact e_iret (pc := 46) dX8_rests_46 rfl (by rw [← hQ_]; exact ⟨by rw [zan], hM, Fr.rf⟩)
      · skip
        exact absurd h24 (by decide)
  · skip
    refine e_iloadn (pc := 5) dX8_rests_5 rfl rfl ?_
    refine e_iconst (pc := 6) dX8_rests_6 (by decide) ?_
    refine e_icmp_ne (pc := 7) (tgt := 14) dX8_rests_7 rfl (fun h7 => ?_) (fun h7 => ?_)
    · skip
      refine e_iconst (pc := 14) dX8_rests_14 (by decide) ?_
      refine e_istore (pc := 15) (lo' := [(2, 49), (0, g), (0, zi), (0, comer), (0, 0), (3, 0), (3, 0)]) dX8_rests_15 rfl (by decide) rfl ?_
      refine e_iloadn (pc := 17) dX8_rests_17 rfl rfl ?_
      refine e_iconst (pc := 18) dX8_rests_18 (by decide) ?_
      refine e_bipush (pc := 19) dX8_rests_19 rfl (by decide) ?_
      refine e_callSr (pc := 21) (as := [(0, g), (0, 5), (0, 30)]) (st := []) (v := (0, if 5 ≤ g ∧ g ≤ 30 then 1 else 0)) (m_in G mem g 5 30) dX8_rests_21 lX8_rests_95 rfl rfl rfl ?_
      by_cases zg : 5 ≤ g ∧ g ≤ 30
      · rw [if_pos zg]
        refine e_if_eq (pc := 24) (tgt := 44) dX8_rests_24 rfl (fun h24 => ?_) (fun h24 => ?_)
        · skip
          exact absurd h24 (by decide)
        · skip
          refine e_iload (pc := 27) dX8_rests_27 rfl ?_
          refine e_if_ne (pc := 29) (tgt := 47) dX8_rests_29 rfl (fun h29 => ?_) (fun h29 => ?_)
          · skip
            exact absurd h29 (by decide)
          · skip
            refine e_iloadn (pc := 32) dX8_rests_32 rfl rfl ?_
            refine e_if_lt (pc := 33) (tgt := 44) dX8_rests_33 rfl (fun h33 => ?_) (fun h33 => ?_)
            · skip
              refine e_bipush (pc := 44) dX8_rests_44 rfl (by decide) ?_
              have zan : an_rests A g zi comer = -2 := by unfold an_rests; rw [if_pos (by first | omega | exact (if zz : comer = -1 then by omega else Or.inr (Or.inr (Or.inr (Or.inr ⟨zz, zc⟩)))))]
              exact e_iret (pc := 46) dX8_rests_46 rfl (by rw [← hQ_]; exact ⟨by rw [zan], hM, Fr.rf⟩)
            · skip
              refine e_aloadn (pc := 36) dX8_rests_36 rfl rfl ?_
              refine e_iloadn (pc := 37) dX8_rests_37 rfl rfl ?_
              refine e_callVr (pc := 38) (as := [(0, comer)]) (st := []) (v := (0, if 0 ≤ comer ∧ comer < 8 ∧ A 18 comer.toNat = 0 then 1 else 0)) (m_isPlain G A mem comer hI hM) dX8_rests_38 lX8_rests_107 rfl s_49 cn_8 rfl rfl ?_
              by_cases zc : 0 ≤ comer ∧ comer < 8 ∧ A 18 comer.toNat = 0
              · rw [if_pos zc]
                obtain ⟨cn, zcn1⟩ : ∃ cn : Nat, comer = (cn : Int) := ⟨comer.toNat, by omega⟩
                subst zcn1
                have zcn : cn < 8 := by omega
                have zck : A 18 cn = 0 := zc.2.2
                refine e_if_ne (pc := 41) (tgt := 47) dX8_rests_41 rfl (fun h41 => ?_) (fun h41 => ?_)
                · skip
                  refine e_aloadn (pc := 47) dX8_rests_47 rfl rfl ?_
                  refine e_callV (pc := 48) (as := []) (st := []) (m_gathers G A mem hI hM) dX8_rests_48 lX8_rests_232 rfl s_49 cn_8 rfl rfl (fun r_ zma hq_ => ?_)
                  obtain ⟨zr_, zMa, zPa, zfa⟩ := hq_
                  subst zr_
                  refine Ev.to (st' := [(0, (if cnt (plN A) 8 < 4 then 1 else 0))]) ?_ rfl rfl rfl
                  refine e_if_ne (pc := 51) (tgt := 57) dX8_rests_51 rfl (fun h51 => ?_) (fun h51 => ?_)
                  · skip
                    refine e_aloadn (pc := 57) dX8_rests_57 rfl rfl ?_
                    refine e_iloadn (pc := 58) dX8_rests_58 rfl rfl ?_
                    have zh3 : cnt (plN A) 8 ≤ 3 := Classical.byContradiction (fun q => h51 (by rw [if_neg (by omega)]))
                    refine e_callV (pc := 59) (as := [(0, g)]) (st := []) (m_grids G A zma g zg zh3 hI zMa zPa) dX8_rests_59 lX8_rests_236 rfl s_49 cn_8 rfl rfl (fun r_ zmb hq_ => ?_)
                    obtain ⟨zr_, zMb, zPb, zGb, zCb, zfb⟩ := hq_
                    subst zr_
                    have zmk := mk_bd zg
                    have zfz : Fr scZ mem zmb := zfa.tr zfb
                    have zwp := wy_pos (A := A) zg
                    have zwl := cnt_pl_le (A := A) zg zh3
                    refine Ev.to (st' := []) ?_ rfl rfl rfl
                    refine e_aloadn (pc := 62) dX8_rests_62 rfl rfl ?_
                    refine e_iloadn (pc := 63) dX8_rests_63 rfl rfl ?_
                    refine e_callV (pc := 64) (as := [(0, zi)]) (st := []) (m_restAt G A zmb g zi zg zh3 hI zPb zGb zCb) dX8_rests_64 lX8_rests_240 rfl s_49 cn_8 rfl rfl (fun r_ zmc hq_ => ?_)
                    obtain ⟨zr_, zx, zme, zxa⟩ := hq_
                    subst zr_
                    subst zme
                    have zMc := zMb.v (zn := mset zmb 49 38 zx) ((Fr.rf (S := scV)).ms rfl)
                    have zfc : Fr scZ mem (mset zmb 49 38 zx) := zfz.ms rfl
                    have zrw := rsW_bd A g zi
                    refine Ev.to (st' := [(0, rsW A g zi)]) ?_ rfl rfl rfl
                    refine e_istore (pc := 67) (lo' := [(2, 49), (0, g), (0, zi), (0, (cn : Int)), (0, 0), (0, rsW A g zi), (3, 0)]) dX8_rests_67 rfl (by decide) rfl ?_
                    refine e_iload (pc := 69) dX8_rests_69 rfl ?_
                    refine e_if_eq (pc := 71) (tgt := 79) dX8_rests_71 rfl (fun h71 => ?_) (fun h71 => ?_)
                    · skip
                      have zplc : plN A cn = true := decide_eq_true zck
                      have zrk := rk_of zplc zcn
                      refine e_iconst (pc := 79) dX8_rests_79 (by decide) ?_
                      refine e_istore (pc := 80) (lo' := [(2, 49), (0, g), (0, zi), (0, (cn : Int)), (0, 0), (0, rsW A g zi), (0, 0)]) dX8_rests_80 rfl (by decide) rfl ?_
                      have L82 : ∀ (n_ : Nat) (k : Nat), 8 - k = n_ → (k ≤ cnt (plN A) cn) → Ev G mX8_rests Q_ 82 [(2, 49), (0, g), (0, zi), (0, (cn : Int)), (0, 0), (0, rsW A g zi), (0, (k : Int))] [] (mset zmb 49 38 zx) := by
                        intro n_
                        induction n_ using Nat.strongRecOn with
                        | ind n_ ih82 =>
                          intro k hn_ zk
                          refine e_aloadn (pc := 82) dX8_rests_82 rfl rfl ?_
                          obtain ⟨c, zc1, zc2, zc3, zc4⟩ := pl_kth zPb (show k < cnt (plN A) 8 by omega)
                          refine e_getr (pc := 83) (k := 65) dX8_rests_83 fX8_56 s_49 rfl (by decide) ?_
                          refine e_iload (pc := 86) dX8_rests_86 rfl ?_
                          refine e_ialdv (pc := 88) (v := (c : Int)) dX8_rests_88 s_65 (by omega) (zc4) ?_
                          refine e_iloadn (pc := 89) dX8_rests_89 rfl rfl ?_
                          refine e_icmp_eq (pc := 90) (tgt := 99) dX8_rests_90 rfl (fun h90 => ?_) (fun h90 => ?_)
                          · skip
                            have zce : c = cn := by omega
                            rw [zce] at zc3
                            refine e_iload (pc := 99) dX8_rests_99 rfl ?_
                            refine e_iconst (pc := 101) dX8_rests_101 (by decide) ?_
                            refine e_icmp_ne (pc := 102) (tgt := 109) dX8_rests_102 rfl (fun h102 => ?_) (fun h102 => ?_)
                            · skip
                              obtain ⟨wy, zwy, zwl2⟩ : ∃ wy : Nat, rsW A g zi = (wy : Int) ∧ wy < wyN A g := by
                                rcases zrw with z | z
                                · exact absurd z h102
                                · exact z
                              have zpw := pw_le zg (k := rkP (plN A) cn) (by omega)
                              have zdl : dgP (plN A) (mkN g) wy cn < mkN g := dg_lt (by omega)
                              have zdi : wy / mkN g ^ rkP (plN A) cn ≤ wy := Nat.div_le_self _ _
                              refine Ev.to (lo' := [(2, 49), (0, g), (0, zi), (0, (cn : Int)), (0, 0), (0, (wy : Int)), (0, (k : Int))]) ?_ (by rw [zwy]) rfl rfl
                              refine e_iloadn (pc := 109) dX8_rests_109 rfl rfl ?_
                              refine e_aloadn (pc := 110) dX8_rests_110 rfl rfl ?_
                              refine e_getiv (pc := 111) (v := ((mkN g : Nat) : Int)) dX8_rests_111 fX8_217 s_49 rfl (by decide) (zGb.1) ?_
                              refine e_iload (pc := 114) dX8_rests_114 rfl ?_
                              refine e_aloadn (pc := 116) dX8_rests_116 rfl rfl ?_
                              refine e_getr (pc := 117) (k := 68) dX8_rests_117 fX8_65 s_49 rfl (by decide) ?_
                              refine e_iload (pc := 120) dX8_rests_120 rfl ?_
                              refine e_ialdv (pc := 122) (v := ((mkN g ^ rkP (plN A) cn : Nat) : Int)) dX8_rests_122 s_68 (by omega) (by rw [Int.toNat_natCast, ← zc3]; exact zGb.2.2 cn zcn zplc) ?_
                              refine e_idiv (pc := 123) dX8_rests_123 (by omega) ?_
                              rw [show bDiv (wy : Int) ((mkN g ^ rkP (plN A) cn : Nat) : Int) = ((wy / mkN g ^ rkP (plN A) cn : Nat) : Int) from bDivN (by omega) (by omega)]
                              refine e_aloadn (pc := 124) dX8_rests_124 rfl rfl ?_
                              refine e_getiv (pc := 125) (v := ((mkN g : Nat) : Int)) dX8_rests_125 fX8_217 s_49 rfl (by decide) (zGb.1) ?_
                              refine e_irem (pc := 128) dX8_rests_128 (by omega) ?_
                              rw [show bRem ((wy / mkN g ^ rkP (plN A) cn : Nat) : Int) ((mkN g : Nat) : Int) = ((dgP (plN A) (mkN g) wy cn : Nat) : Int) from bRemN (by omega) (by omega)]
                              refine e_callSr (pc := 129) (as := [(0, g), (0, ((mkN g : Nat) : Int)), (0, ((dgP (plN A) (mkN g) wy cn : Nat) : Int))]) (st := []) (m_minuteOf G (mset zmb 49 38 zx) g (mkN g) (dgP (plN A) (mkN g) wy cn) zg zdl zmk.2) dX8_rests_129 lX8_rests_223 rfl rfl rfl ?_
                              have zneg : ¬ (¬ (5 ≤ g ∧ g ≤ 30) ∨ zi < -1 ∨ (zi = -1 ∧ (cn : Int) ≠ -1) ∨ (zi ≠ -1 ∧ (cn : Int) = -1) ∨ ((cn : Int) ≠ -1 ∧ ¬ (0 ≤ (cn : Int) ∧ (cn : Int) < 8 ∧ A 18 (cn : Int).toNat = 0))) := by
                                rintro (q | q | q | q | q)
                                · exact q zg
                                · omega
                                · omega
                                · omega
                                · exact q.2 zc
                              have zan : an_rests A g zi (cn : Int) = mnF g (mkN g) (dgP (plN A) (mkN g) wy cn) := by
                                unfold an_rests
                                rw [if_neg zneg, if_neg (by omega), if_neg (by omega), if_neg (by omega), zwy]
                                show grT A g wy cn = _
                                unfold grT
                                rw [if_pos ⟨zcn, zck⟩]
                              exact e_iret (pc := 132) dX8_rests_132 rfl (by rw [← hQ_]; exact ⟨by rw [zan], zMc, zfc⟩)
                            · skip
                              refine e_iconst (pc := 105) dX8_rests_105 (by decide) ?_
                              refine e_goto (pc := 106) (tgt := 132) dX8_rests_106 rfl ?_
                              have zneg : ¬ (¬ (5 ≤ g ∧ g ≤ 30) ∨ zi < -1 ∨ (zi = -1 ∧ (cn : Int) ≠ -1) ∨ (zi ≠ -1 ∧ (cn : Int) = -1) ∨ ((cn : Int) ≠ -1 ∧ ¬ (0 ≤ (cn : Int) ∧ (cn : Int) < 8 ∧ A 18 (cn : Int).toNat = 0))) := by
                                rintro (q | q | q | q | q)
                                · exact q zg
                                · omega
                                · omega
                                · omega
                                · exact q.2 zc
                              have zan : an_rests A g zi (cn : Int) = -1 := by unfold an_rests; rw [if_neg zneg, if_neg (by omega), if_neg (by omega), if_pos h102]
                              exact e_iret (pc := 132) dX8_rests_132 rfl (by rw [← hQ_]; exact ⟨by rw [zan], zMc, zfc⟩)
                          · skip
                            refine e_iinc (pc := 93) (lo' := [(2, 49), (0, g), (0, zi), (0, (cn : Int)), (0, 0), (0, rsW A g zi), (0, (k : Int) + 1)]) dX8_rests_93 rfl (by omega) rfl (by decide) rfl ?_
                            refine e_goto (pc := 96) (tgt := 82) dX8_rests_96 rfl ?_
                            have zkn : k + 1 ≤ cnt (plN A) cn := by
                              rcases Nat.lt_or_ge k (cnt (plN A) cn) with z | z
                              · exact z
                              · exfalso; exact h90 (by rw [← zc4, show k = cnt (plN A) cn by omega]; exact zPb.2 cn zcn zplc)
                            exact Ev.to (ih82 _ (by omega) (k + 1) (rfl) (zkn)) rfl rfl rfl
                      exact Ev.to (L82 _ 0 (rfl) (by omega)) rfl rfl rfl
                    · skip
                      exact absurd h71 (by decide)
                  · skip
                    refine e_bipush (pc := 54) dX8_rests_54 rfl (by decide) ?_
                    have zneg : ¬ (¬ (5 ≤ g ∧ g ≤ 30) ∨ zi < -1 ∨ (zi = -1 ∧ (cn : Int) ≠ -1) ∨ (zi ≠ -1 ∧ (cn : Int) = -1) ∨ ((cn : Int) ≠ -1 ∧ ¬ (0 ≤ (cn : Int) ∧ (cn : Int) < 8 ∧ A 18 (cn : Int).toNat = 0))) := by
                      rintro (q | q | q | q | q)
                      · exact q zg
                      · omega
                      · omega
                      · omega
                      · exact q.2 zc
                    have zh4 : 3 < cnt (plN A) 8 := Classical.byContradiction (fun q => by rw [if_pos (by omega)] at h51; omega)
                    have zan : an_rests A g zi (cn : Int) = -4 := by unfold an_rests; rw [if_neg zneg, if_pos zh4]
                    exact e_iret (pc := 56) dX8_rests_56 rfl (by rw [← hQ_]; exact ⟨by rw [zan], zMa, zfa⟩)
                · skip
                  exact absurd h41 (by decide)
              · rw [if_neg zc]
                refine e_if_ne (pc := 41) (tgt := 47) dX8_rests_41 rfl (fun h41 => ?_) (fun h41 => ?_)
                · skip
                  exact absurd h41 (by decide)
                · skip
                  refine e_bipush (pc := 44) dX8_rests_44 rfl (by decide) ?_
                  have zan : an_rests A g zi comer = -2 := by unfold an_rests; rw [if_pos (by first | omega | exact (if zz : comer = -1 then by omega else Or.inr (Or.inr (Or.inr (Or.inr ⟨zz, zc⟩)))))]
                  exact e_iret (pc := 46) dX8_rests_46 rfl (by rw [← hQ_]; exact ⟨by rw [zan], hM, Fr.rf⟩)
      · rw [if_neg zg]
        refine e_if_eq (pc := 24) (tgt := 44) dX8_rests_24 rfl (fun h24 => ?_) (fun h24 => ?_)
        · skip
          refine e_bipush (pc := 44) dX8_rests_44 rfl (by decide) ?_
          have zan : an_rests A g zi comer = -2 := by unfold an_rests; rw [if_pos (by first | omega | exact (if zz : comer = -1 then by omega else Or.inr (Or.inr (Or.inr (Or.inr ⟨zz, zc⟩)))))]
          exact e_iret (pc := 46) dX8_rests_46 rfl (by rw [← hQ_]; exact ⟨by rw [zan], hM, Fr.rf⟩)
        · skip
          exact absurd h24 (by decide)
    · skip
      refine e_iconst (pc := 10) dX8_rests_10 (by decide) ?_
      refine e_goto (pc := 11) (tgt := 15) dX8_rests_11 rfl ?_
      refine e_istore (pc := 15) (lo' := [(2, 49), (0, g), (0, zi), (0, comer), (0, 1), (3, 0), (3, 0)]) dX8_rests_15 rfl (by decide) rfl ?_
      refine e_iloadn (pc := 17) dX8_rests_17 rfl rfl ?_
      refine e_iconst (pc := 18) dX8_rests_18 (by decide) ?_
      refine e_bipush (pc := 19) dX8_rests_19 rfl (by decide) ?_
      refine e_callSr (pc := 21) (as := [(0, g), (0, 5), (0, 30)]) (st := []) (v := (0, if 5 ≤ g ∧ g ≤ 30 then 1 else 0)) (m_in G mem g 5 30) dX8_rests_21 lX8_rests_95 rfl rfl rfl ?_
      by_cases zg : 5 ≤ g ∧ g ≤ 30
      · rw [if_pos zg]
        refine e_if_eq (pc := 24) (tgt := 44) dX8_rests_24 rfl (fun h24 => ?_) (fun h24 => ?_)
        · skip
          exact absurd h24 (by decide)
        · skip
          refine e_iload (pc := 27) dX8_rests_27 rfl ?_
          refine e_if_ne (pc := 29) (tgt := 47) dX8_rests_29 rfl (fun h29 => ?_) (fun h29 => ?_)
          · skip
            refine e_aloadn (pc := 47) dX8_rests_47 rfl rfl ?_
            refine e_callV (pc := 48) (as := []) (st := []) (m_gathers G A mem hI hM) dX8_rests_48 lX8_rests_232 rfl s_49 cn_8 rfl rfl (fun r_ zma hq_ => ?_)
            obtain ⟨zr_, zMa, zPa, zfa⟩ := hq_
            subst zr_
            refine Ev.to (st' := [(0, (if cnt (plN A) 8 < 4 then 1 else 0))]) ?_ rfl rfl rfl
            refine e_if_ne (pc := 51) (tgt := 57) dX8_rests_51 rfl (fun h51 => ?_) (fun h51 => ?_)
            · skip
              refine e_aloadn (pc := 57) dX8_rests_57 rfl rfl ?_
              refine e_iloadn (pc := 58) dX8_rests_58 rfl rfl ?_
              have zh3 : cnt (plN A) 8 ≤ 3 := Classical.byContradiction (fun q => h51 (by rw [if_neg (by omega)]))
              refine e_callV (pc := 59) (as := [(0, g)]) (st := []) (m_grids G A zma g zg zh3 hI zMa zPa) dX8_rests_59 lX8_rests_236 rfl s_49 cn_8 rfl rfl (fun r_ zmb hq_ => ?_)
              obtain ⟨zr_, zMb, zPb, zGb, zCb, zfb⟩ := hq_
              subst zr_
              have zmk := mk_bd zg
              have zfz : Fr scZ mem zmb := zfa.tr zfb
              have zwp := wy_pos (A := A) zg
              have zwl := cnt_pl_le (A := A) zg zh3
              refine Ev.to (st' := []) ?_ rfl rfl rfl
              refine e_aloadn (pc := 62) dX8_rests_62 rfl rfl ?_
              refine e_iloadn (pc := 63) dX8_rests_63 rfl rfl ?_
              refine e_callV (pc := 64) (as := [(0, zi)]) (st := []) (m_restAt G A zmb g zi zg zh3 hI zPb zGb zCb) dX8_rests_64 lX8_rests_240 rfl s_49 cn_8 rfl rfl (fun r_ zmc hq_ => ?_)
              obtain ⟨zr_, zx, zme, zxa⟩ := hq_
              subst zr_
              subst zme
              have zMc := zMb.v (zn := mset zmb 49 38 zx) ((Fr.rf (S := scV)).ms rfl)
              have zfc : Fr scZ mem (mset zmb 49 38 zx) := zfz.ms rfl
              have zrw := rsW_bd A g zi
              refine Ev.to (st' := [(0, rsW A g zi)]) ?_ rfl rfl rfl
              refine e_istore (pc := 67) (lo' := [(2, 49), (0, g), (0, zi), (0, comer), (0, 1), (0, rsW A g zi), (3, 0)]) dX8_rests_67 rfl (by decide) rfl ?_
              refine e_iload (pc := 69) dX8_rests_69 rfl ?_
              refine e_if_eq (pc := 71) (tgt := 79) dX8_rests_71 rfl (fun h71 => ?_) (fun h71 => ?_)
              · skip
                exact absurd h71 (by decide)
              · skip
                refine e_aloadn (pc := 74) dX8_rests_74 rfl rfl ?_
                refine e_getiv (pc := 75) (v := zx) dX8_rests_75 fX8_226 s_49 rfl (by decide) (rfl) ?_
                have zneg : ¬ (¬ (5 ≤ g ∧ g ≤ 30) ∨ zi < -1 ∨ (zi = -1 ∧ comer ≠ -1) ∨ (zi ≠ -1 ∧ comer = -1) ∨ (comer ≠ -1 ∧ ¬ (0 ≤ comer ∧ comer < 8 ∧ A 18 comer.toNat = 0))) := by
                  rintro (q | q | q | q | q)
                  · exact q zg
                  · omega
                  · omega
                  · omega
                  · omega
                have zan : an_rests A g zi comer = zx := by unfold an_rests; rw [if_neg zneg, if_neg (by omega), if_pos (by omega), zxa (by omega)]
                exact e_iret (pc := 78) dX8_rests_78 rfl (by rw [← hQ_]; exact ⟨by rw [zan], zMc, zfc⟩)
            · skip
              refine e_bipush (pc := 54) dX8_rests_54 rfl (by decide) ?_
              have zneg : ¬ (¬ (5 ≤ g ∧ g ≤ 30) ∨ zi < -1 ∨ (zi = -1 ∧ comer ≠ -1) ∨ (zi ≠ -1 ∧ comer = -1) ∨ (comer ≠ -1 ∧ ¬ (0 ≤ comer ∧ comer < 8 ∧ A 18 comer.toNat = 0))) := by
                rintro (q | q | q | q | q)
                · exact q zg
                · omega
                · omega
                · omega
                · omega
              have zh4 : 3 < cnt (plN A) 8 := Classical.byContradiction (fun q => by rw [if_pos (by omega)] at h51; omega)
              have zan : an_rests A g zi comer = -4 := by unfold an_rests; rw [if_neg zneg, if_pos zh4]
              exact e_iret (pc := 56) dX8_rests_56 rfl (by rw [← hQ_]; exact ⟨by rw [zan], zMa, zfa⟩)
          · skip
            exact absurd h29 (by decide)
      · rw [if_neg zg]
        refine e_if_eq (pc := 24) (tgt := 44) dX8_rests_24 rfl (fun h24 => ?_) (fun h24 => ?_)
        · skip
          refine e_bipush (pc := 44) dX8_rests_44 rfl (by decide) ?_
          have zan : an_rests A g zi comer = -2 := by unfold an_rests; rw [if_pos (by first | omega | exact (if zz : comer = -1 then by omega else Or.inr (Or.inr (Or.inr (Or.inr ⟨zz, zc⟩)))))]
          exact e_iret (pc := 46) dX8_rests_46 rfl (by rw [← hQ_]; exact ⟨by rw [zan], hM, Fr.rf⟩)
        · skip
          exact absurd h24 (by decide)

theorem m_lost (G : Gm) (A mem : Mem) (g zi : Int) (hI : CI A) (hM : MI A mem) : Con G mX8_lost [(2, 49), (0, g), (0, zi)] mem (fun r m' => r = some (0, an_lost A g zi) ∧ MI A m' ∧ Fr scZ mem m') := by
  refine Con.of (lo := [(2, 49), (0, g), (0, zi), (3, 0), (3, 0)]) (by decide +kernel) (Nat.le_of_ble_eq_true rfl) rfl ?_
  generalize hQ_ : (fun r m' => r = some (0, an_lost A g zi) ∧ MI A m' ∧ Fr scZ mem m' : Option AV → Mem → Prop) = Q_
  refine e_iloadn (pc := 0) dX8_lost_0 rfl rfl ?_
  refine e_iconst (pc := 1) dX8_lost_1 (by decide) ?_
  refine e_bipush (pc := 2) dX8_lost_2 rfl (by decide) ?_
  refine e_callSr (pc := 4) (as := [(0, g), (0, 5), (0, 30)]) (st := []) (v := (0, if 5 ≤ g ∧ g ≤ 30 then 1 else 0)) (m_in G mem g 5 30) dX8_lost_4 lX8_lost_95 rfl rfl rfl ?_
  by_cases zg : 5 ≤ g ∧ g ≤ 30
  · rw [if_pos zg]
    refine e_if_eq (pc := 7) (tgt := 15) dX8_lost_7 rfl (fun h7 => ?_) (fun h7 => ?_)
    · skip
      exact absurd h7 (by decide)
    · skip
      refine e_iloadn (pc := 10) dX8_lost_10 rfl rfl ?_
      refine e_iconst (pc := 11) dX8_lost_11 (by decide) ?_
      refine e_icmp_ge (pc := 12) (tgt := 19) dX8_lost_12 rfl (fun h12 => ?_) (fun h12 => ?_)
      · skip
        refine e_aloadn (pc := 19) dX8_lost_19 rfl rfl ?_
        refine e_callV (pc := 20) (as := []) (st := []) (m_gathers G A mem hI hM) dX8_lost_20 lX8_lost_232 rfl s_49 cn_8 rfl rfl (fun r_ zma hq_ => ?_)
        obtain ⟨zr_, zMa, zPa, zfa⟩ := hq_
        subst zr_
        refine Ev.to (st' := [(0, (if cnt (plN A) 8 < 4 then 1 else 0))]) ?_ rfl rfl rfl
        refine e_if_ne (pc := 23) (tgt := 30) dX8_lost_23 rfl (fun h23 => ?_) (fun h23 => ?_)
        · skip
          refine e_aloadn (pc := 30) dX8_lost_30 rfl rfl ?_
          refine e_iloadn (pc := 31) dX8_lost_31 rfl rfl ?_
          have zh3 : cnt (plN A) 8 ≤ 3 := Classical.byContradiction (fun q => h23 (by rw [if_neg (by omega)]))
          refine e_callV (pc := 32) (as := [(0, g)]) (st := []) (m_grids G A zma g zg zh3 hI zMa zPa) dX8_lost_32 lX8_lost_236 rfl s_49 cn_8 rfl rfl (fun r_ zmb hq_ => ?_)
          obtain ⟨zr_, zMb, zPb, zGb, zCb, zfb⟩ := hq_
          subst zr_
          have zmk := mk_bd zg
          have zfz : Fr scZ mem zmb := zfa.tr zfb
          have zwp := wy_pos (A := A) zg
          have zwl := cnt_pl_le (A := A) zg zh3
          refine Ev.to (st' := []) ?_ rfl rfl rfl
          refine e_aloadn (pc := 35) dX8_lost_35 rfl rfl ?_
          refine e_getr (pc := 36) (k := 67) dX8_lost_36 fX8_62 s_49 rfl (by decide) ?_
          refine e_iconst (pc := 39) dX8_lost_39 (by decide) ?_
          refine e_ialdv (pc := 40) (v := (mnT (tgQ A g) 1)) dX8_lost_40 s_67 (by omega) (by show zmb 67 0 = _; rw [(zCb 0 zwp).2]; show _ = if tgQ A g 0 < 2147483647 then tgQ A g 0 else 2147483647; rw [if_pos (by have := tgQ_bd zg hI 0; omega)]) ?_
          refine e_istoren (pc := 41) (lo' := [(2, 49), (0, g), (0, zi), (0, (mnT (tgQ A g) 1)), (3, 0)]) dX8_lost_41 rfl rfl (by decide) rfl ?_
          refine e_iconst (pc := 42) dX8_lost_42 (by decide) ?_
          refine e_istore (pc := 43) (lo' := [(2, 49), (0, g), (0, zi), (0, (mnT (tgQ A g) 1)), (0, 1)]) dX8_lost_43 rfl (by decide) rfl ?_
          have L45 : ∀ (n_ : Nat) (k : Nat), wyN A g - k = n_ → (1 ≤ k ∧ k ≤ wyN A g) → Ev G mX8_lost Q_ 45 [(2, 49), (0, g), (0, zi), (0, mnT (tgQ A g) k), (0, (k : Int))] [] zmb := by
            intro n_
            induction n_ using Nat.strongRecOn with
            | ind n_ ih45 =>
              intro k hn_ zk
              refine e_iload (pc := 45) dX8_lost_45 rfl ?_
              refine e_aloadn (pc := 47) dX8_lost_47 rfl rfl ?_
              refine e_getiv (pc := 48) (v := ((wyN A g : Nat) : Int)) dX8_lost_48 fX8_220 s_49 rfl (by decide) (zGb.2.1) ?_
              refine e_icmp_ge (pc := 51) (tgt := 83) dX8_lost_51 rfl (fun h51 => ?_) (fun h51 => ?_)
              · skip
                have zke : k = wyN A g := by omega
                have zmb1 := mnT_bd (f := tgQ A g) (fun j => tgQ_bd zg hI j) (by decide) (by decide) (wyN A g)
                have zmb2 := zmb1.2.1 zwp
                rw [zke]
                refine e_iloadn (pc := 83) dX8_lost_83 rfl rfl ?_
                refine e_iconst (pc := 84) dX8_lost_84 (by decide) ?_
                refine e_icmp_ne (pc := 85) (tgt := 90) dX8_lost_85 rfl (fun h85 => ?_) (fun h85 => ?_)
                · skip
                  refine e_aloadn (pc := 90) dX8_lost_90 rfl rfl ?_
                  refine e_iloadn (pc := 91) dX8_lost_91 rfl rfl ?_
                  refine e_callV (pc := 92) (as := [(0, zi)]) (st := []) (m_restAt G A zmb g zi zg zh3 hI zPb zGb zCb) dX8_lost_92 lX8_lost_240 rfl s_49 cn_8 rfl rfl (fun r_ zmc hq_ => ?_)
                  obtain ⟨zr_, zx, zme, zxa⟩ := hq_
                  subst zr_
                  subst zme
                  have zMc := zMb.v (zn := mset zmb 49 38 zx) ((Fr.rf (S := scV)).ms rfl)
                  have zfc : Fr scZ mem (mset zmb 49 38 zx) := zfz.ms rfl
                  have zrw := rsW_bd A g zi
                  refine Ev.to (st' := [(0, rsW A g zi)]) ?_ rfl rfl rfl
                  refine e_istore (pc := 95) (lo' := [(2, 49), (0, g), (0, zi), (0, mnT (tgQ A g) (wyN A g)), (0, rsW A g zi)]) dX8_lost_95 rfl (by decide) rfl ?_
                  refine e_iload (pc := 97) dX8_lost_97 rfl ?_
                  refine e_iconst (pc := 99) dX8_lost_99 (by decide) ?_
                  refine e_icmp_ne (pc := 100) (tgt := 109) dX8_lost_100 rfl (fun h100 => ?_) (fun h100 => ?_)
                  · skip
                    obtain ⟨wy, zwy, zwl2⟩ : ∃ wy : Nat, rsW A g zi = (wy : Int) ∧ wy < wyN A g := by
                      rcases zrw with z | z
                      · exact absurd z h100
                      · exact z
                    have ztb := tgQ_bd zg hI wy
                    refine Ev.to (lo' := [(2, 49), (0, g), (0, zi), (0, mnT (tgQ A g) (wyN A g)), (0, (wy : Int))]) ?_ (by rw [zwy]) rfl rfl
                    refine e_aloadn (pc := 109) dX8_lost_109 rfl rfl ?_
                    refine e_getr (pc := 110) (k := 67) dX8_lost_110 fX8_62 s_49 rfl (by decide) ?_
                    refine e_iload (pc := 113) dX8_lost_113 rfl ?_
                    refine e_ialdv (pc := 115) (v := (tgQ A g wy)) dX8_lost_115 s_67 (by omega) ((zCb wy zwl2).2) ?_
                    refine e_iloadn (pc := 116) dX8_lost_116 rfl rfl ?_
                    refine e_isubn (pc := 117) dX8_lost_117 (by omega) ?_
                    have zneg : ¬ (¬ (5 ≤ g ∧ g ≤ 30) ∨ zi < -1) := by omega
                    have zan : an_lost A g zi = (tgQ A g wy) - (mnT (tgQ A g) (wyN A g)) := by unfold an_lost; rw [if_neg zneg, if_neg (by omega), if_neg (by omega), if_neg (by omega), zwy]; rfl
                    exact e_iret (pc := 118) dX8_lost_118 rfl (by rw [← hQ_]; exact ⟨by rw [zan], zMc, zfc⟩)
                  · skip
                    refine e_sipush (pc := 103) dX8_lost_103 rfl (by decide) ?_
                    refine e_goto (pc := 106) (tgt := 118) dX8_lost_106 rfl ?_
                    have zneg : ¬ (¬ (5 ≤ g ∧ g ≤ 30) ∨ zi < -1) := by omega
                    have zan : an_lost A g zi = -10002 := by unfold an_lost; rw [if_neg zneg, if_neg (by omega), if_neg (by omega), if_pos h100]
                    exact e_iret (pc := 118) dX8_lost_118 rfl (by rw [← hQ_]; exact ⟨by rw [zan], zMc, zfc⟩)
                · skip
                  refine e_iloadn (pc := 88) dX8_lost_88 rfl rfl ?_
                  have zneg : ¬ (¬ (5 ≤ g ∧ g ≤ 30) ∨ zi < -1) := by omega
                  have zan : an_lost A g zi = mnT (tgQ A g) (wyN A g) := by unfold an_lost; rw [if_neg zneg, if_neg (by omega), if_pos (by omega)]
                  exact e_iret (pc := 89) dX8_lost_89 rfl (by rw [← hQ_]; exact ⟨by rw [zan], zMb, zfz⟩)
              · skip
                refine e_aloadn (pc := 54) dX8_lost_54 rfl rfl ?_
                refine e_getr (pc := 55) (k := 67) dX8_lost_55 fX8_62 s_49 rfl (by decide) ?_
                refine e_iload (pc := 58) dX8_lost_58 rfl ?_
                refine e_ialdv (pc := 60) (v := (tgQ A g k)) dX8_lost_60 s_67 (by omega) ((zCb k (by omega)).2) ?_
                refine e_iloadn (pc := 61) dX8_lost_61 rfl rfl ?_
                refine e_icmp_ge (pc := 62) (tgt := 75) dX8_lost_62 rfl (fun h62 => ?_) (fun h62 => ?_)
                · skip
                  refine e_iloadn (pc := 75) dX8_lost_75 rfl rfl ?_
                  refine e_istoren (pc := 76) (lo' := [(2, 49), (0, g), (0, zi), (0, mnT (tgQ A g) k), (0, (k : Int))]) dX8_lost_76 rfl rfl (by decide) rfl ?_
                  refine e_iinc (pc := 77) (lo' := [(2, 49), (0, g), (0, zi), (0, mnT (tgQ A g) k), (0, (k : Int) + 1)]) dX8_lost_77 rfl (by omega) rfl (by decide) rfl ?_
                  refine e_goto (pc := 80) (tgt := 45) dX8_lost_80 rfl ?_
                  have zmn : mnT (tgQ A g) (k + 1) = mnT (tgQ A g) k := by
                    show (if tgQ A g k < mnT (tgQ A g) k then tgQ A g k else mnT (tgQ A g) k) = _
                    rw [if_neg (by omega)]
                  exact Ev.to (ih45 _ (by omega) (k + 1) (rfl) (by omega)) (by rw [zmn]; rfl) rfl rfl
                · skip
                  refine e_aloadn (pc := 65) dX8_lost_65 rfl rfl ?_
                  refine e_getr (pc := 66) (k := 67) dX8_lost_66 fX8_62 s_49 rfl (by decide) ?_
                  refine e_iload (pc := 69) dX8_lost_69 rfl ?_
                  refine e_ialdv (pc := 71) (v := (tgQ A g k)) dX8_lost_71 s_67 (by omega) ((zCb k (by omega)).2) ?_
                  refine e_goto (pc := 72) (tgt := 76) dX8_lost_72 rfl ?_
                  refine e_istoren (pc := 76) (lo' := [(2, 49), (0, g), (0, zi), (0, (tgQ A g k)), (0, (k : Int))]) dX8_lost_76 rfl rfl (by decide) rfl ?_
                  refine e_iinc (pc := 77) (lo' := [(2, 49), (0, g), (0, zi), (0, (tgQ A g k)), (0, (k : Int) + 1)]) dX8_lost_77 rfl (by omega) rfl (by decide) rfl ?_
                  refine e_goto (pc := 80) (tgt := 45) dX8_lost_80 rfl ?_
                  have zmn : mnT (tgQ A g) (k + 1) = (tgQ A g k) := by
                    show (if tgQ A g k < mnT (tgQ A g) k then tgQ A g k else mnT (tgQ A g) k) = _
                    rw [if_pos h62]
                  exact Ev.to (ih45 _ (by omega) (k + 1) (rfl) (by omega)) (by rw [zmn]; rfl) rfl rfl
          exact Ev.to (L45 _ 1 (rfl) (by omega)) rfl rfl rfl
        · skip
          refine e_sipush (pc := 26) dX8_lost_26 rfl (by decide) ?_
          have zneg : ¬ (¬ (5 ≤ g ∧ g ≤ 30) ∨ zi < -1) := by omega
          have zh4 : 3 < cnt (plN A) 8 := Classical.byContradiction (fun q => by rw [if_pos (by omega)] at h23; omega)
          have zan : an_lost A g zi = -10001 := by unfold an_lost; rw [if_neg zneg, if_pos zh4]
          exact e_iret (pc := 29) dX8_lost_29 rfl (by rw [← hQ_]; exact ⟨by rw [zan], zMa, zfa⟩)
      · skip
        refine e_sipush (pc := 15) dX8_lost_15 rfl (by decide) ?_
        have zan : an_lost A g zi = -10000 := by unfold an_lost; rw [if_pos (by omega)]
        exact e_iret (pc := 18) dX8_lost_18 rfl (by rw [← hQ_]; exact ⟨by rw [zan], hM, Fr.rf⟩)
  · rw [if_neg zg]
    refine e_if_eq (pc := 7) (tgt := 15) dX8_lost_7 rfl (fun h7 => ?_) (fun h7 => ?_)
    · skip
      refine e_sipush (pc := 15) dX8_lost_15 rfl (by decide) ?_
      have zan : an_lost A g zi = -10000 := by unfold an_lost; rw [if_pos (by omega)]
      exact e_iret (pc := 18) dX8_lost_18 rfl (by rw [← hQ_]; exact ⟨by rw [zan], hM, Fr.rf⟩)
    · skip
      exact absurd h7 (by decide)
