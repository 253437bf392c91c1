/-- what all pay in way j -/
noncomputable def tgW (mem : Mem) (m j : Nat) : Int := togA mem (mem 26) (mem 27) (grA mem m j) (mem 25 4) (mem 25 5)

theorem t_good (G : Gm) (mem : Mem) (m : Nat) (hm : 2 ≤ m ∧ m ≤ 13) (hmm : mem 34 2 = (m : Int)) (h35 : ∀ x, x < m → 0 ≤ mem 35 x ∧ mem 35 x ≤ 60) (hT : (m ^ cnt (plT mem) 8) ≤ 2197) (hC : CoOk mem) (hE : EvOk25 mem) (hR : RuOk mem) : Con G mX2_good [(2, 34)] mem (fun r m' => r = some (0, mnT (tgW mem m) (m ^ cnt (plT mem) 8)) ∧ Fr scY mem m') := by
  refine Con.of (lo := [(2, 34), (3, 0), (3, 0), (3, 0)]) (by decide +kernel) (Nat.le_of_ble_eq_true rfl) rfl ?_
  generalize hQ_ : (fun r m' => r = some (0, mnT (tgW mem m) (m ^ cnt (plT mem) 8)) ∧ Fr scY mem m' : Option AV → Mem → Prop) = Q_
  refine e_aloadn (pc := 0) dX2_good_0 rfl rfl ?_
  refine e_callV (pc := 1) (as := []) (st := []) (t_toFirstWay G mem m) dX2_good_1 lX2_good_34 rfl s_34 cn_2 rfl rfl (fun r_ zm0 hq_ => ?_)
  obtain ⟨zr_, zW0⟩ := hq_
  subst zr_
  refine Ev.to (st' := []) ?_ rfl rfl rfl
  refine e_ldc (pc := 4) (z := 2147483647) dX2_good_4 kX2_45 (by decide) ?_
  refine e_istoren (pc := 6) (lo' := [(2, 34), (0, 2147483647), (3, 0), (3, 0)]) dX2_good_6 rfl rfl (by decide) rfl ?_
  refine e_iconst (pc := 7) dX2_good_7 (by decide) ?_
  refine e_istoren (pc := 8) (lo' := [(2, 34), (0, 2147483647), (0, 1), (3, 0)]) dX2_good_8 rfl rfl (by decide) rfl ?_
  refine e_iconst (pc := 9) dX2_good_9 (by decide) ?_
  refine e_istoren (pc := 10) (lo' := [(2, 34), (0, 2147483647), (0, 1), (0, 0)]) dX2_good_10 rfl rfl (by decide) rfl ?_
  have L11 : ∀ (n_ : Nat) (j : Nat) (zmo : Bool) (zmv : Mem), (m ^ cnt (plT mem) 8) - j = n_ → (j ≤ (m ^ cnt (plT mem) 8)) → (Fr scY mem zmv) → (zmo = true → j < (m ^ cnt (plT mem) 8) ∧ WyI mem zmv m j) → (zmo = false → j = (m ^ cnt (plT mem) 8)) → Ev G mX2_good Q_ 11 [(2, 34), (0, mnT (tgW mem m) j), (0, (if zmo then 1 else 0)), (0, (j : Int))] [] zmv := by
    intro n_
    induction n_ using Nat.strongRecOn with
    | ind n_ ih11 =>
      intro j zmo zmv hn_ zj zf zW zN
      refine e_iloadn (pc := 11) dX2_good_11 rfl rfl ?_
      refine e_sipush (pc := 12) dX2_good_12 rfl (by decide) ?_
      refine e_icmp_ge (pc := 15) (tgt := 45) dX2_good_15 rfl (fun h15 => ?_) (fun h15 => ?_)
      · skip
        refine e_iloadn (pc := 45) dX2_good_45 rfl rfl ?_
        have zmf : zmo = false := by
          cases zo : zmo with
          | false => rfl
          | true =>
            exfalso
            have z1 := (zW zo).1
            rw [zo] at *
            first | omega | simp_all
        have zjT := zN zmf
        subst zjT
        exact e_iret (pc := 46) dX2_good_46 rfl (by rw [← hQ_]; exact ⟨rfl, zf⟩)
      · skip
        refine e_iloadn (pc := 18) dX2_good_18 rfl rfl ?_
        refine e_if_eq (pc := 19) (tgt := 45) dX2_good_19 rfl (fun h19 => ?_) (fun h19 => ?_)
        · skip
          refine e_iloadn (pc := 45) dX2_good_45 rfl rfl ?_
          have zmf : zmo = false := by
            cases zo : zmo with
            | false => rfl
            | true =>
              exfalso
              have z1 := (zW zo).1
              rw [zo] at *
              first | omega | simp_all
          have zjT := zN zmf
          subst zjT
          exact e_iret (pc := 46) dX2_good_46 rfl (by rw [← hQ_]; exact ⟨rfl, zf⟩)
        · skip
          have zmt : zmo = true := by cases zmo <;> simp_all
          obtain ⟨zjT, zWj⟩ := zW zmt
          have zTr := TrS.of zf trY
          have zrg : ∀ c, c < 8 → 0 ≤ zmv 28 c ∧ zmv 28 c ≤ 60 := by rw [zWj.2.1]; exact grA_bd (by omega) h35 (fun c hc => (hE.2 c hc).2.1)
          refine e_iloadn (pc := 22) dX2_good_22 rfl rfl ?_
          refine e_aloadn (pc := 23) dX2_good_23 rfl rfl ?_
          refine e_getr (pc := 24) (k := 25) dX2_good_24 fX2_18 s_34 rfl (by decide) ?_
          refine e_callV (pc := 27) (as := []) (st := [(0, mnT (tgW mem m) j)]) (t_together_25 G zmv (zTr.co hC) (zTr.ev hE zrg) (zTr.ru hR)) dX2_good_27 lX2_good_46 rfl s_25 cn_1 rfl rfl (fun r_ zm1 hq_ => ?_)
          rw [togA_mv zTr, zWj.2.1] at hq_
          obtain ⟨zr_, zf1⟩ := hq_
          subst zr_
          have zfy : Fr scY mem zm1 := zf.tr (scGY zf1)
          have zW1 : WyI mem zm1 m j := ⟨zfy, (funext (fun c => zf1 28 c rfl) : zm1 28 = zmv 28).trans zWj.2.1, fun c hc hp => (zf1 36 c rfl).trans (zWj.2.2 c hc hp)⟩
          refine Ev.to (st' := [(0, tgW mem m j), (0, mnT (tgW mem m) j)]) ?_ rfl rfl rfl
          refine e_min (pc := 30) dX2_good_30 lX2_min50 (by decide) rfl ?_
          refine e_istoren (pc := 33) (lo' := [(2, 34), (0, if tgW mem m j < mnT (tgW mem m) j then tgW mem m j else mnT (tgW mem m) j), (0, (if zmo then 1 else 0)), (0, (j : Int))]) dX2_good_33 rfl rfl (by decide) rfl ?_
          refine e_aloadn (pc := 34) dX2_good_34 rfl rfl ?_
          refine e_callV (pc := 35) (as := []) (st := []) (t_toNextWay G mem zm1 m j hm hmm zjT zW1) dX2_good_35 lX2_good_41 rfl s_34 cn_2 rfl rfl (fun r_ zm2 hq_ => ?_)
          obtain ⟨zb2, zr_, zor⟩ := hq_
          subst zr_
          refine Ev.to (st' := [(0, (if zb2 then 1 else 0))]) ?_ rfl rfl rfl
          refine e_istoren (pc := 38) (lo' := [(2, 34), (0, if tgW mem m j < mnT (tgW mem m) j then tgW mem m j else mnT (tgW mem m) j), (0, (if zb2 then 1 else 0)), (0, (j : Int))]) dX2_good_38 rfl rfl (by decide) rfl ?_
          refine e_iinc (pc := 39) (lo' := [(2, 34), (0, if tgW mem m j < mnT (tgW mem m) j then tgW mem m j else mnT (tgW mem m) j), (0, (if zb2 then 1 else 0)), (0, (j : Int) + 1)]) dX2_good_39 rfl (by omega) rfl (by decide) rfl ?_
          refine e_goto (pc := 42) (tgt := 11) dX2_good_42 rfl ?_
          have zjl : j + 1 ≤ (m ^ cnt (plT mem) 8) := zjT
          have zdec : (m ^ cnt (plT mem) 8) - (j + 1) < n_ := by clear zor; omega
          have zf2 : Fr scY mem zm2 := by rcases zor with ⟨_, _, z⟩ | ⟨_, _, z⟩; · exact z.1
                                          · exact z
          have zw2 : zb2 = true → j + 1 < (m ^ cnt (plT mem) 8) ∧ WyI mem zm2 m (j + 1) := by
            intro h
            rcases zor with ⟨_, z1, z2⟩ | ⟨z, _, _⟩
            · exact ⟨z1, z2⟩
            · rw [z] at h; cases h
          have zn2 : zb2 = false → j + 1 = (m ^ cnt (plT mem) 8) := by
            intro h
            rcases zor with ⟨z, _, _⟩ | ⟨_, z1, _⟩
            · rw [z] at h; cases h
            · exact z1
          exact Ev.to (ih11 _ (zdec) (j + 1) zb2 zm2 (rfl) (zjl) (zf2) (zw2) (zn2)) rfl rfl rfl
  exact Ev.to (L11 _ 0 true zm0 (rfl) (by omega) (zW0.1) (fun _ => ⟨Nat.pow_pos (by omega), zW0⟩) (fun h => by cases h)) rfl rfl rfl
