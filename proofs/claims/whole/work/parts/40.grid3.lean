theorem togA_mv {mem zm : Mem} (h : TrS mem zm) (am : Nat → Int) : togA zm (zm 26) (zm 27) am (zm 25 4) (zm 25 5) = togA mem (mem 26) (mem 27) am (mem 25 4) (mem 25 5) := by
  unfold togA
  rw [h.1.1, h.1.2.1, h.1.2.2.1, h.1.2.2.2, h.2.2.1, h.2.2.2.1, h.2.2.2.2.1, h.2.2.2.2.2.2.1, h.2.2.2.2.2.2.2.1, h.2.2.2.2.2.2.2.2, stF_mv h.2.1.1 h.2.1.2.1 h.2.1.2.2.1 h.2.1.2.2.2.1 h.2.1.2.2.2.2]
theorem prA_tr {mem zm : Mem} (h : TrS mem zm) (am : Nat → Int) : prA zm (zm 26) (zm 27) am (zm 25 4) (zm 25 5) = prA mem (mem 26) (mem 27) am (mem 25 4) (mem 25 5) := by
  rw [h.1.1, h.1.2.1, h.1.2.2.1, h.1.2.2.2, prA_mv h.2.1.1 h.2.1.2.1 h.2.1.2.2.1 h.2.1.2.2.2.1 h.2.1.2.2.2.2 h.2.2.1 h.2.2.2.1 h.2.2.2.2.1 h.2.2.2.2.2.2.1 h.2.2.2.2.2.2.2.1 h.2.2.2.2.2.2.2.2]
theorem trY : trOk scY := fun j => by refine ⟨?_, ?_, ?_, ?_, ?_, ?_, ?_, ?_, ?_, ?_, ?_, ?_, ?_, ?_, ?_, ?_⟩ <;> rfl
theorem scGY {mem zm : Mem} (zf : Fr (scG 25) mem zm) : Fr scY mem zm := zf.mono (fun c j q => by unfold scY at q; simp at q; exact q.1.1)
/-- way j is a rest of the grid -/
def RsP (mem : Mem) (m j : Nat) : Prop := ∀ c, c < 8 → (mem 27 c = 0 → ∀ i, i < m → prA mem (mem 26) (mem 27) (grA mem m j) (mem 25 4) (mem 25 5) c (grA mem m j c).toNat ≤ prA mem (mem 26) (mem 27) (grA mem m j) (mem 25 4) (mem 25 5) c (mem 35 i).toNat)
noncomputable def rsB (mem : Mem) (m j : Nat) : Bool := @decide (RsP mem m j) (Classical.propDecidable _)
theorem rsB_iff {mem : Mem} {m j : Nat} : rsB mem m j = true ↔ RsP mem m j := by unfold rsB; exact @decide_eq_true_iff _ (Classical.propDecidable _)
theorem grA_bd {mem : Mem} {m j : Nat} (hm : 0 < m) (h35 : ∀ x, x < m → 0 ≤ mem 35 x ∧ mem 35 x ≤ 60) (h28 : ∀ c, c < 8 → 0 ≤ mem 28 c ∧ mem 28 c ≤ 60) : ∀ c, c < 8 → 0 ≤ grA mem m j c ∧ grA mem m j c ≤ 60 := by
  intro c hc
  unfold grA
  split
  · exact h35 _ (dg_lt hm)
  · exact h28 c hc
def mnT (f : Nat → Int) : Nat → Int
  | 0 => 2147483647
  | k + 1 => if f k < mnT f k then f k else mnT f k

theorem t_walk (G : Gm) (mem : Mem) (m : Nat) (hm : 2 ≤ m ∧ m ≤ 13) (hmm : mem 34 2 = (m : Int)) (h35 : ∀ x, x < m → 0 ≤ mem 35 x ∧ mem 35 x ≤ 60) (hT : (m ^ cnt (plT mem) 8) ≤ 2197) (hC : CoOk mem) (hE : EvOk25 mem) (hR : RuOk mem) (hl : mem 25 4 = 0) (ha : mem 25 5 = 0) (i : Int) (hi : -1 ≤ i) : Con G mX2_walk [(2, 34), (0, i)] mem (fun r m' => ∃ f : Int, r = some (0, f) ∧ Fr scY mem m' ∧ ((f = ((cnt (rsB mem m) (m ^ cnt (plT mem) 8) : Nat) : Int) ∧ (0 ≤ i → ((cnt (rsB mem m) (m ^ cnt (plT mem) 8) : Nat) : Int) ≤ i)) ∨ (0 ≤ i ∧ f = i + 1 ∧ ∃ w, w < (m ^ cnt (plT mem) 8) ∧ rsB mem m w = true ∧ ((cnt (rsB mem m) w : Nat) : Int) = i ∧ m' 28 = grA mem m w))) := by
  refine Con.of (lo := [(2, 34), (0, i), (3, 0), (3, 0), (3, 0)]) (by decide +kernel) (Nat.le_of_ble_eq_true rfl) rfl ?_
  generalize hQ_ : (fun r m' => ∃ f : Int, r = some (0, f) ∧ Fr scY mem m' ∧ ((f = ((cnt (rsB mem m) (m ^ cnt (plT mem) 8) : Nat) : Int) ∧ (0 ≤ i → ((cnt (rsB mem m) (m ^ cnt (plT mem) 8) : Nat) : Int) ≤ i)) ∨ (0 ≤ i ∧ f = i + 1 ∧ ∃ w, w < (m ^ cnt (plT mem) 8) ∧ rsB mem m w = true ∧ ((cnt (rsB mem m) w : Nat) : Int) = i ∧ m' 28 = grA mem m w)) : Option AV → Mem → Prop) = Q_
  refine e_aloadn (pc := 0) dX2_walk_0 rfl rfl ?_
  refine e_callV (pc := 1) (as := []) (st := []) (t_toFirstWay G mem m) dX2_walk_1 lX2_walk_34 rfl s_34 cn_2 rfl rfl (fun r_ zm0 hq_ => ?_)
  obtain ⟨zr_, zW0⟩ := hq_
  subst zr_
  refine Ev.to (st' := []) ?_ rfl rfl rfl
  refine e_iconst (pc := 4) dX2_walk_4 (by decide) ?_
  refine e_istoren (pc := 5) (lo' := [(2, 34), (0, i), (0, 0), (3, 0), (3, 0)]) dX2_walk_5 rfl rfl (by decide) rfl ?_
  refine e_iconst (pc := 6) dX2_walk_6 (by decide) ?_
  refine e_istoren (pc := 7) (lo' := [(2, 34), (0, i), (0, 0), (0, 1), (3, 0)]) dX2_walk_7 rfl rfl (by decide) rfl ?_
  refine e_iconst (pc := 8) dX2_walk_8 (by decide) ?_
  refine e_istore (pc := 9) (lo' := [(2, 34), (0, i), (0, 0), (0, 1), (0, 0)]) dX2_walk_9 rfl (by decide) rfl ?_
  have L11 : ∀ (n_ : Nat) (j : Nat) (zmo : Bool) (zmv : Mem), (m ^ cnt (plT mem) 8) - j = n_ → (j ≤ (m ^ cnt (plT mem) 8)) → (Fr scY mem zmv) → (zmo = true → j < (m ^ cnt (plT mem) 8) ∧ WyI mem zmv m j) → (zmo = false → j = (m ^ cnt (plT mem) 8)) → (0 ≤ i → ((cnt (rsB mem m) j : Nat) : Int) ≤ i) → Ev G mX2_walk Q_ 11 [(2, 34), (0, i), (0, ((cnt (rsB mem m) j : Nat) : Int)), (0, (if zmo then 1 else 0)), (0, (j : Int))] [] zmv := by
    intro n_
    induction n_ using Nat.strongRecOn with
    | ind n_ ih11 =>
      intro j zmo zmv hn_ zj zf zW zN zi
      refine e_iload (pc := 11) dX2_walk_11 rfl ?_
      refine e_sipush (pc := 13) dX2_walk_13 rfl (by decide) ?_
      refine e_icmp_ge (pc := 16) (tgt := 67) dX2_walk_16 rfl (fun h16 => ?_) (fun h16 => ?_)
      · skip
        refine e_iloadn (pc := 67) dX2_walk_67 rfl rfl ?_
        have zmf : zmo = false := by
          cases zo : zmo with
          | false => rfl
          | true =>
            exfalso
            have z1 := (zW zo).1
            rw [zo] at *
            first | omega | simp_all
        have zjT := zN zmf
        subst zjT
        exact e_iret (pc := 68) dX2_walk_68 rfl (by rw [← hQ_]; exact ⟨_, rfl, zf, Or.inl ⟨rfl, zi⟩⟩)
      · skip
        refine e_iloadn (pc := 19) dX2_walk_19 rfl rfl ?_
        refine e_if_eq (pc := 20) (tgt := 67) dX2_walk_20 rfl (fun h20 => ?_) (fun h20 => ?_)
        · skip
          refine e_iloadn (pc := 67) dX2_walk_67 rfl rfl ?_
          have zmf : zmo = false := by
            cases zo : zmo with
            | false => rfl
            | true =>
              exfalso
              have z1 := (zW zo).1
              rw [zo] at *
              first | omega | simp_all
          have zjT := zN zmf
          subst zjT
          exact e_iret (pc := 68) dX2_walk_68 rfl (by rw [← hQ_]; exact ⟨_, rfl, zf, Or.inl ⟨rfl, zi⟩⟩)
        · skip
          have zmt : zmo = true := by cases zmo <;> simp_all
          obtain ⟨zjT, zWj⟩ := zW zmt
          have zTr := TrS.of zf trY
          have zrg : ∀ c, c < 8 → 0 ≤ zmv 28 c ∧ zmv 28 c ≤ 60 := by rw [zWj.2.1]; exact grA_bd (by omega) h35 (fun c hc => (hE.2 c hc).2.1)
          have zcb : cnt (rsB mem m) j ≤ j := cnt_le _ _
          have z35 : zmv 35 = mem 35 := funext (fun x => zf 35 x rfl)
          refine e_aloadn (pc := 23) dX2_walk_23 rfl rfl ?_
          refine e_getr (pc := 24) (k := 25) dX2_walk_24 fX2_18 s_34 rfl (by decide) ?_
          refine e_aloadn (pc := 27) dX2_walk_27 rfl rfl ?_
          refine e_getr (pc := 28) (k := 35) dX2_walk_28 fX2_9 s_34 rfl (by decide) ?_
          refine e_aloadn (pc := 31) dX2_walk_31 rfl rfl ?_
          refine e_getiv (pc := 32) (v := (m : Int)) dX2_walk_32 fX2_22 s_34 rfl (by decide) ((zf 34 2 rfl).trans hmm) ?_
          refine e_callV (pc := 35) (as := [(2, 35), (0, (m : Int))]) (st := []) (t_restsAmong G zmv m hm.2 (by rw [z35]; exact h35) (zTr.co hC) (zTr.ev hE zrg) (zTr.ru hR) (zTr.1.2.2.1.trans hl) (zTr.1.2.2.2.trans ha)) dX2_walk_35 lX2_walk_37 rfl s_25 cn_1 rfl rfl (fun r_ zm1 hq_ => ?_)
          obtain ⟨zb, zr_, zf1, zbi⟩ := hq_
          subst zr_
          rw [prA_tr zTr, zTr.1.2.1, z35, zWj.2.1] at zbi
          have zrs : rsB mem m j = zb := Bool.eq_iff_iff.mpr (rsB_iff.trans zbi.symm)
          have zfy : Fr scY mem zm1 := zf.tr (scGY zf1)
          have zW1 : WyI mem zm1 m j := ⟨zfy, (funext (fun c => zf1 28 c rfl) : zm1 28 = zmv 28).trans zWj.2.1, fun c hc hp => (zf1 36 c rfl).trans (zWj.2.2 c hc hp)⟩
          refine Ev.to (st' := [(0, (if zb then 1 else 0))]) ?_ rfl rfl rfl
          refine e_if_eq (pc := 38) (tgt := 56) dX2_walk_38 rfl (fun h38 => ?_) (fun h38 => ?_)
          · skip
            have zbt : ¬ zb = true := by cases zb <;> simp_all
            refine e_aloadn (pc := 56) dX2_walk_56 rfl rfl ?_
            refine e_callV (pc := 57) (as := []) (st := []) (t_toNextWay G mem zm1 m j hm hmm zjT zW1) dX2_walk_57 lX2_walk_41 rfl s_34 cn_2 rfl rfl (fun r_ zm2 hq_ => ?_)
            obtain ⟨zb2, zr_, zor⟩ := hq_
            subst zr_
            refine Ev.to (st' := [(0, (if zb2 then 1 else 0))]) ?_ rfl rfl rfl
            refine e_istoren (pc := 60) (lo' := [(2, 34), (0, i), (0, ((cnt (rsB mem m) j : Nat) : Int)), (0, (if zb2 then 1 else 0)), (0, (j : Int))]) dX2_walk_60 rfl rfl (by decide) rfl ?_
            refine e_iinc (pc := 61) (lo' := [(2, 34), (0, i), (0, ((cnt (rsB mem m) j : Nat) : Int)), (0, (if zb2 then 1 else 0)), (0, (j : Int) + 1)]) dX2_walk_61 rfl (by omega) rfl (by decide) rfl ?_
            refine e_goto (pc := 64) (tgt := 11) dX2_walk_64 rfl ?_
            have zjl : j + 1 ≤ (m ^ cnt (plT mem) 8) := zjT
            have zdec : (m ^ cnt (plT mem) 8) - (j + 1) < n_ := by clear zor; omega
            have zcs : cnt (rsB mem m) (j + 1) = cnt (rsB mem m) j := by rw [cnt_s, zrs]; rw [if_neg zbt]; rfl
            have zf2 : Fr scY mem zm2 := by rcases zor with ⟨_, _, z⟩ | ⟨_, _, z⟩; · exact z.1
                                            · exact z
            have zw2 : zb2 = true → j + 1 < (m ^ cnt (plT mem) 8) ∧ WyI mem zm2 m (j + 1) := by
              intro h
              rcases zor with ⟨_, z1, z2⟩ | ⟨z, _, _⟩
              · exact ⟨z1, z2⟩
              · rw [z] at h; cases h
            have zn2 : zb2 = false → j + 1 = (m ^ cnt (plT mem) 8) := by
              intro h
              rcases zor with ⟨z, _, _⟩ | ⟨_, z1, _⟩
              · rw [z] at h; cases h
              · exact z1
            have zi2 : 0 ≤ i → ((cnt (rsB mem m) (j + 1) : Nat) : Int) ≤ i := by
              intro h
              clear zor
              rw [zcs]
              exact zi h
            exact Ev.to (ih11 _ (zdec) (j + 1) zb2 zm2 (rfl) (zjl) (zf2) (zw2) (zn2) (zi2)) (by rw [zcs]; rfl) rfl rfl
          · skip
            have zbt : zb = true := by cases zb <;> simp_all
            refine e_iinc (pc := 41) (lo' := [(2, 34), (0, i), (0, ((cnt (rsB mem m) j : Nat) : Int) + 1), (0, (if zmo then 1 else 0)), (0, (j : Int))]) dX2_walk_41 rfl (by have zz1 := zj; omega) rfl (by decide) rfl ?_
            refine e_iloadn (pc := 44) dX2_walk_44 rfl rfl ?_
            refine e_iconst (pc := 45) dX2_walk_45 (by decide) ?_
            refine e_icmp_eq (pc := 46) (tgt := 56) dX2_walk_46 rfl (fun h46 => ?_) (fun h46 => ?_)
            · skip
              refine e_aloadn (pc := 56) dX2_walk_56 rfl rfl ?_
              refine e_callV (pc := 57) (as := []) (st := []) (t_toNextWay G mem zm1 m j hm hmm zjT zW1) dX2_walk_57 lX2_walk_41 rfl s_34 cn_2 rfl rfl (fun r_ zm2 hq_ => ?_)
              obtain ⟨zb2, zr_, zor⟩ := hq_
              subst zr_
              refine Ev.to (st' := [(0, (if zb2 then 1 else 0))]) ?_ rfl rfl rfl
              refine e_istoren (pc := 60) (lo' := [(2, 34), (0, i), (0, ((cnt (rsB mem m) j : Nat) : Int) + 1), (0, (if zb2 then 1 else 0)), (0, (j : Int))]) dX2_walk_60 rfl rfl (by decide) rfl ?_
              refine e_iinc (pc := 61) (lo' := [(2, 34), (0, i), (0, ((cnt (rsB mem m) j : Nat) : Int) + 1), (0, (if zb2 then 1 else 0)), (0, (j : Int) + 1)]) dX2_walk_61 rfl (by omega) rfl (by decide) rfl ?_
              refine e_goto (pc := 64) (tgt := 11) dX2_walk_64 rfl ?_
              have zjl : j + 1 ≤ (m ^ cnt (plT mem) 8) := zjT
              have zdec : (m ^ cnt (plT mem) 8) - (j + 1) < n_ := by clear zor; omega
              have zcs : cnt (rsB mem m) (j + 1) = cnt (rsB mem m) j + 1 := by rw [cnt_s, zrs]; rw [if_pos zbt]
              have zf2 : Fr scY mem zm2 := by rcases zor with ⟨_, _, z⟩ | ⟨_, _, z⟩; · exact z.1
                                              · exact z
              have zw2 : zb2 = true → j + 1 < (m ^ cnt (plT mem) 8) ∧ WyI mem zm2 m (j + 1) := by
                intro h
                rcases zor with ⟨_, z1, z2⟩ | ⟨z, _, _⟩
                · exact ⟨z1, z2⟩
                · rw [z] at h; cases h
              have zn2 : zb2 = false → j + 1 = (m ^ cnt (plT mem) 8) := by
                intro h
                rcases zor with ⟨z, _, _⟩ | ⟨_, z1, _⟩
                · rw [z] at h; cases h
                · exact z1
              have zi2 : 0 ≤ i → ((cnt (rsB mem m) (j + 1) : Nat) : Int) ≤ i := by
                intro h
                clear zor
                rw [zcs]
                omega
              exact Ev.to (ih11 _ (zdec) (j + 1) zb2 zm2 (rfl) (zjl) (zf2) (zw2) (zn2) (zi2)) (by rw [zcs]; rfl) rfl rfl
            · skip
              refine e_iloadn (pc := 49) dX2_walk_49 rfl rfl ?_
              refine e_iloadn (pc := 50) dX2_walk_50 rfl rfl ?_
              refine e_icmp_le (pc := 51) (tgt := 56) dX2_walk_51 rfl (fun h51 => ?_) (fun h51 => ?_)
              · skip
                refine e_aloadn (pc := 56) dX2_walk_56 rfl rfl ?_
                refine e_callV (pc := 57) (as := []) (st := []) (t_toNextWay G mem zm1 m j hm hmm zjT zW1) dX2_walk_57 lX2_walk_41 rfl s_34 cn_2 rfl rfl (fun r_ zm2 hq_ => ?_)
                obtain ⟨zb2, zr_, zor⟩ := hq_
                subst zr_
                refine Ev.to (st' := [(0, (if zb2 then 1 else 0))]) ?_ rfl rfl rfl
                refine e_istoren (pc := 60) (lo' := [(2, 34), (0, i), (0, ((cnt (rsB mem m) j : Nat) : Int) + 1), (0, (if zb2 then 1 else 0)), (0, (j : Int))]) dX2_walk_60 rfl rfl (by decide) rfl ?_
                refine e_iinc (pc := 61) (lo' := [(2, 34), (0, i), (0, ((cnt (rsB mem m) j : Nat) : Int) + 1), (0, (if zb2 then 1 else 0)), (0, (j : Int) + 1)]) dX2_walk_61 rfl (by omega) rfl (by decide) rfl ?_
                refine e_goto (pc := 64) (tgt := 11) dX2_walk_64 rfl ?_
                have zjl : j + 1 ≤ (m ^ cnt (plT mem) 8) := zjT
                have zdec : (m ^ cnt (plT mem) 8) - (j + 1) < n_ := by clear zor; omega
                have zcs : cnt (rsB mem m) (j + 1) = cnt (rsB mem m) j + 1 := by rw [cnt_s, zrs]; rw [if_pos zbt]
                have zf2 : Fr scY mem zm2 := by rcases zor with ⟨_, _, z⟩ | ⟨_, _, z⟩; · exact z.1
                                                · exact z
                have zw2 : zb2 = true → j + 1 < (m ^ cnt (plT mem) 8) ∧ WyI mem zm2 m (j + 1) := by
                  intro h
                  rcases zor with ⟨_, z1, z2⟩ | ⟨z, _, _⟩
                  · exact ⟨z1, z2⟩
                  · rw [z] at h; cases h
                have zn2 : zb2 = false → j + 1 = (m ^ cnt (plT mem) 8) := by
                  intro h
                  rcases zor with ⟨z, _, _⟩ | ⟨_, z1, _⟩
                  · rw [z] at h; cases h
                  · exact z1
                have zi2 : 0 ≤ i → ((cnt (rsB mem m) (j + 1) : Nat) : Int) ≤ i := by
                  intro h
                  clear zor
                  rw [zcs]
                  omega
                exact Ev.to (ih11 _ (zdec) (j + 1) zb2 zm2 (rfl) (zjl) (zf2) (zw2) (zn2) (zi2)) (by rw [zcs]; rfl) rfl rfl
              · skip
                refine e_iloadn (pc := 54) dX2_walk_54 rfl rfl ?_
                have zie : ((cnt (rsB mem m) j : Nat) : Int) = i := by have z1 := zi (by omega); omega
                exact e_iret (pc := 55) dX2_walk_55 rfl (by rw [← hQ_]; exact ⟨_, rfl, zfy, Or.inr ⟨by omega, by omega, j, zjT, zrs.trans zbt, zie, zW1.2.1⟩⟩)
  exact Ev.to (L11 _ 0 true zm0 (rfl) (by omega) (zW0.1) (fun _ => ⟨Nat.pow_pos (by omega), zW0⟩) (fun h => by cases h) (fun h => h)) rfl rfl rfl
