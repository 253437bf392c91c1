theorem wkB_rep {mem : Mem} {am : Nat → Int} {f g w : Nat} (h : E8 (wkA mem am f) (wkA mem am g)) (hf : f < g) (hg : g ≤ w) : wkB mem am (w - (g - f)) = wkB mem am w := by
  have h1 := wkA_add h (w - g)
  rw [show g + (w - g) = w by omega, show f + (w - g) = w - (g - f) by omega] at h1
  unfold wkB
  exact stF_congr h1 _ _ _ _ _ _

theorem t_run (G : Gm) (mem : Mem) (N : Nat) (hN : N ≤ 61) (hC : CoOk mem) (hE : EvOk25 mem) (hR : RuOk mem) (hl : mem 25 4 = 0) (ha : mem 25 5 = 0) : Con G mX6_run [(2, 37), (0, (N : Int) - 1)] mem (fun r m' => r = none ∧ Fr scK mem m' ∧ (∀ u, u < N → m' 38 u = wkB mem (mem 28) u) ∧ ((NoRep (wkA mem (mem 28)) N ∧ m' 37 1 = -1 ∧ m' 37 2 = -1) ∨ ∃ f g : Nat, RepAt (wkA mem (mem 28)) N f g ∧ m' 37 1 = (f : Int) ∧ m' 37 2 = (g : Int) - (f : Int))) := by
  refine Con.of (lo := [(2, 37), (0, (N : Int) - 1), (3, 0)]) (by decide +kernel) (Nat.le_of_ble_eq_true rfl) rfl ?_
  generalize hQ_ : (fun r m' => r = none ∧ Fr scK mem m' ∧ (∀ u, u < N → m' 38 u = wkB mem (mem 28) u) ∧ ((NoRep (wkA mem (mem 28)) N ∧ m' 37 1 = -1 ∧ m' 37 2 = -1) ∨ ∃ f g : Nat, RepAt (wkA mem (mem 28)) N f g ∧ m' 37 1 = (f : Int) ∧ m' 37 2 = (g : Int) - (f : Int)) : Option AV → Mem → Prop) = Q_
  refine e_aloadn (pc := 0) dX6_run_0 rfl rfl ?_
  refine e_iconst (pc := 1) dX6_run_1 (by decide) ?_
  refine e_putI (pc := 2) (mem2 := mset mem 37 1 (-1)) dX6_run_2 fX6_23 s_37 rfl (by decide) pw_6_1 rfl ?_
  refine e_aloadn (pc := 5) dX6_run_5 rfl rfl ?_
  refine e_iconst (pc := 6) dX6_run_6 (by decide) ?_
  refine e_putI (pc := 7) (mem2 := mset (mset mem 37 1 (-1)) 37 2 (-1)) dX6_run_7 fX6_27 s_37 rfl (by decide) pw_6_2 rfl ?_
  refine e_iconst (pc := 10) dX6_run_10 (by decide) ?_
  refine e_istoren (pc := 11) (lo' := [(2, 37), (0, (N : Int) - 1), (0, 0)]) dX6_run_11 rfl rfl (by decide) rfl ?_
  have L12 : ∀ (n_ : Nat) (w : Nat) (zmv : Mem), 61 - w = n_ → (w ≤ N) → (Fr scK mem zmv) → ((∀ u, u < w → zmv 38 u = wkB mem (mem 28) u) ∧ ((NoRep (wkA mem (mem 28)) w ∧ zmv 37 1 = -1 ∧ zmv 37 2 = -1 ∧ WkI mem zmv w ∧ zmv 28 = if w = 0 then mem 28 else wkA mem (mem 28) (w - 1)) ∨ ∃ f g : Nat, RepAt (wkA mem (mem 28)) w f g ∧ zmv 37 1 = (f : Int) ∧ zmv 37 2 = (g : Int) - (f : Int))) → Ev G mX6_run Q_ 12 [(2, 37), (0, (N : Int) - 1), (0, (w : Int))] [] zmv := by
    intro n_
    induction n_ using Nat.strongRecOn with
    | ind n_ ih12 =>
      intro w zmv hn_ zw zf zI
      refine e_iloadn (pc := 12) dX6_run_12 rfl rfl ?_
      refine e_iloadn (pc := 13) dX6_run_13 rfl rfl ?_
      refine e_icmp_gt (pc := 14) (tgt := 80) dX6_run_14 rfl (fun h14 => ?_) (fun h14 => ?_)
      · skip
        have zwN : w = N := by omega
        subst zwN
        have zfin : (NoRep (wkA mem (mem 28)) w ∧ zmv 37 1 = -1 ∧ zmv 37 2 = -1) ∨ ∃ f g : Nat, RepAt (wkA mem (mem 28)) w f g ∧ zmv 37 1 = (f : Int) ∧ zmv 37 2 = (g : Int) - (f : Int) := by
          rcases zI.2 with ⟨a1, a2, a3, _⟩ | h
          · exact Or.inl ⟨a1, a2, a3⟩
          · exact Or.inr h
        exact e_vret (pc := 80) dX6_run_80 rfl (by rw [← hQ_]; exact ⟨rfl, zf, zI.1, zfin⟩)
      · skip
        refine e_iloadn (pc := 17) dX6_run_17 rfl rfl ?_
        refine e_bipush (pc := 18) dX6_run_18 rfl (by decide) ?_
        refine e_icmp_gt (pc := 20) (tgt := 80) dX6_run_20 rfl (fun h20 => ?_) (fun h20 => ?_)
        · skip
          exfalso; omega
        · skip
          obtain ⟨zB, ⟨zN, zF, zL, zW, z28⟩ | ⟨f, g, zR, zF, zL⟩⟩ := zI
          · skip
            refine e_aloadn (pc := 23) dX6_run_23 rfl rfl ?_
            refine e_getiv (pc := 24) (v := (-1)) dX6_run_24 fX6_27 s_37 rfl (by decide) (zL) ?_
            refine e_if_le (pc := 27) (tgt := 58) dX6_run_27 rfl (fun h27 => ?_) (fun h27 => ?_)
            · skip
              have C69 : ∀ (zm5 : Mem), (WkI mem zm5 w) → (zm5 28 = wkA mem (mem 28) w) → (zm5 37 1 = -1) → (zm5 37 2 = -1) → Ev G mX6_run Q_ 69 [(2, 37), (0, (N : Int) - 1), (0, (w : Int))] [] zm5 := by
                intro zm5 zi5 z285 z5f z5l
                refine e_aloadn (pc := 69) dX6_run_69 rfl rfl ?_
                refine e_iloadn (pc := 70) dX6_run_70 rfl rfl ?_
                refine e_callV (pc := 71) (as := [(0, (w : Int))]) (st := []) (t_keep G mem zm5 w (by omega) hC hE hR hl ha zi5 z285 z5f z5l zN) dX6_run_71 lX6_run_35 rfl s_37 cn_6 rfl rfl (fun r_ zm1 hq_ => ?_)
                obtain ⟨zr_, zi1, z281, zo1⟩ := hq_
                subst zr_
                refine Ev.to (st' := []) ?_ rfl rfl rfl
                refine e_iinc (pc := 74) (lo' := [(2, 37), (0, (N : Int) - 1), (0, (w : Int) + 1)]) dX6_run_74 rfl (by omega) rfl (by decide) rfl ?_
                refine e_goto (pc := 77) (tgt := 12) dX6_run_77 rfl ?_
                have zdec : 61 - (w + 1) < n_ := by clear zo1; omega
                have zle : w + 1 ≤ N := by clear zo1; omega
                have zI2 : (∀ u, u < w + 1 → zm1 38 u = wkB mem (mem 28) u) ∧ ((NoRep (wkA mem (mem 28)) (w + 1) ∧ zm1 37 1 = -1 ∧ zm1 37 2 = -1 ∧ WkI mem zm1 (w + 1) ∧ zm1 28 = if w + 1 = 0 then mem 28 else wkA mem (mem 28) (w + 1 - 1)) ∨ ∃ f g : Nat, RepAt (wkA mem (mem 28)) (w + 1) f g ∧ zm1 37 1 = (f : Int) ∧ zm1 37 2 = (g : Int) - (f : Int)) := by
                  refine ⟨zi1.2.1, ?_⟩
                  rcases zo1 with ⟨a1, a2, a3⟩ | ⟨f, a1, a2, a3⟩
                  · exact Or.inl ⟨a1, a2, a3, zi1, by rw [if_neg (by omega), z281]; rfl⟩
                  · exact Or.inr ⟨f, w, a1, a2, a3⟩
                exact Ev.to (ih12 _ (zdec) (w + 1) zm1 (rfl) (zle) (zi1.1) (zI2)) rfl rfl rfl
              refine e_iloadn (pc := 58) dX6_run_58 rfl rfl ?_
              refine e_if_le (pc := 59) (tgt := 69) dX6_run_59 rfl (fun h59 => ?_) (fun h59 => ?_)
              · skip
                exact Ev.to (C69 zmv (zW) (by rw [z28, if_pos (by omega), show w = 0 by omega]; rfl) (zF) (zL)) rfl rfl rfl
              · skip
                refine e_aloadn (pc := 62) dX6_run_62 rfl rfl ?_
                refine e_getr (pc := 63) (k := 25) dX6_run_63 fX6_19 s_37 rfl (by decide) ?_
                have zT := TrS.of zW.1 trK
                have zrg : ∀ c, c < 8 → 0 ≤ zmv 28 c ∧ zmv 28 c ≤ 60 := by
                  rw [z28, if_neg (by omega)]
                  exact wkA_bd (fun c hc => (hE.2 c hc).2.1) (w - 1)
                refine e_callV (pc := 66) (as := []) (st := []) (t_goesToNextWeek G zmv (zT.co hC) (zT.ev hE zrg) (zT.ru hR) (zT.1.2.2.1.trans hl) (zT.1.2.2.2.trans ha)) dX6_run_66 lX6_run_30 rfl s_25 cn_1 rfl rfl (fun r_ zm0 hq_ => ?_)
                rw [zT.bf, zT.1.2.1, z28, if_neg (by omega)] at hq_
                obtain ⟨zr_, zf0, zx0⟩ := hq_
                subst zr_
                have z28b : zm0 28 = wkA mem (mem 28) w := by rw [zx0, show w = (w - 1) + 1 by omega]; rfl
                have zi0 : WkI mem zm0 w := ⟨zW.1.tr (scWK zf0), fun u hu => (zf0 38 u rfl).trans (zW.2.1 u hu), fun u hu => (zf0 39 u rfl).trans (zW.2.2 u hu)⟩
                refine Ev.to (st' := []) ?_ rfl rfl rfl
                exact Ev.to (C69 zm0 (zi0) (z28b) ((zf0 37 1 rfl).trans zF) ((zf0 37 2 rfl).trans zL)) rfl rfl rfl
            · skip
              exfalso; omega
          · skip
            have zR1 := zR.1
            have zR2 := zR.2.1
            refine e_aloadn (pc := 23) dX6_run_23 rfl rfl ?_
            refine e_getiv (pc := 24) (v := ((g : Int) - (f : Int))) dX6_run_24 fX6_27 s_37 rfl (by decide) (zL) ?_
            refine e_if_le (pc := 27) (tgt := 58) dX6_run_27 rfl (fun h27 => ?_) (fun h27 => ?_)
            · skip
              exfalso; omega
            · skip
              refine e_aloadn (pc := 30) dX6_run_30 rfl rfl ?_
              refine e_getiv (pc := 31) (v := ((g : Int) - (f : Int))) dX6_run_31 fX6_27 s_37 rfl (by decide) (zL) ?_
              refine e_iloadn (pc := 34) dX6_run_34 rfl rfl ?_
              refine e_icmp_gt (pc := 35) (tgt := 58) dX6_run_35 rfl (fun h35 => ?_) (fun h35 => ?_)
              · skip
                exfalso; omega
              · skip
                refine e_aloadn (pc := 38) dX6_run_38 rfl rfl ?_
                refine e_getr (pc := 39) (k := 38) dX6_run_39 fX6_9 s_37 rfl (by decide) ?_
                refine e_iloadn (pc := 42) dX6_run_42 rfl rfl ?_
                refine e_aloadn (pc := 43) dX6_run_43 rfl rfl ?_
                refine e_getr (pc := 44) (k := 38) dX6_run_44 fX6_9 s_37 rfl (by decide) ?_
                refine e_iloadn (pc := 47) dX6_run_47 rfl rfl ?_
                refine e_aloadn (pc := 48) dX6_run_48 rfl rfl ?_
                refine e_getiv (pc := 49) (v := ((g : Int) - (f : Int))) dX6_run_49 fX6_27 s_37 rfl (by decide) (zL) ?_
                refine e_isubn (pc := 52) dX6_run_52 (by omega) ?_
                refine e_ialdv (pc := 53) (v := (wkB mem (mem 28) w)) dX6_run_53 s_38 (by omega) (by rw [show ((w : Int) - ((g : Int) - (f : Int))).toNat = w - (g - f) by omega, zB _ (by omega)]; exact wkB_rep zR.2.2.1 zR1 (by omega)) ?_
                refine e_iastm (pc := 54) (mem2 := mset zmv 38 w (wkB mem (mem 28) w)) dX6_run_54 s_38 (by omega) rfl ?_
                refine e_goto (pc := 55) (tgt := 74) dX6_run_55 rfl ?_
                refine e_iinc (pc := 74) (lo' := [(2, 37), (0, (N : Int) - 1), (0, (w : Int) + 1)]) dX6_run_74 rfl (by omega) rfl (by decide) rfl ?_
                refine e_goto (pc := 77) (tgt := 12) dX6_run_77 rfl ?_
                have zdec : 61 - (w + 1) < n_ := by omega
                have zle : w + 1 ≤ N := by omega
                have zI2 : (∀ u, u < w + 1 → (mset zmv 38 w (wkB mem (mem 28) w)) 38 u = wkB mem (mem 28) u) ∧ ((NoRep (wkA mem (mem 28)) (w + 1) ∧ (mset zmv 38 w (wkB mem (mem 28) w)) 37 1 = -1 ∧ (mset zmv 38 w (wkB mem (mem 28) w)) 37 2 = -1 ∧ WkI mem (mset zmv 38 w (wkB mem (mem 28) w)) (w + 1) ∧ (mset zmv 38 w (wkB mem (mem 28) w)) 28 = if w + 1 = 0 then mem 28 else wkA mem (mem 28) (w + 1 - 1)) ∨ ∃ f g : Nat, RepAt (wkA mem (mem 28)) (w + 1) f g ∧ (mset zmv 38 w (wkB mem (mem 28) w)) 37 1 = (f : Int) ∧ (mset zmv 38 w (wkB mem (mem 28) w)) 37 2 = (g : Int) - (f : Int)) := by
                  refine ⟨fun u hu => ?_, Or.inr ⟨f, g, ⟨zR.1, by have := zR.2.1; omega, zR.2.2⟩, zF, zL⟩⟩
                  rw [mset_row]
                  by_cases z : u = w
                  · rw [z, uset_eq]
                  · rw [uset_ne _ _ z]; exact zB u (by omega)
                exact Ev.to (ih12 _ (zdec) (w + 1) (mset zmv 38 w (wkB mem (mem 28) w)) (rfl) (zle) (zf.ms rfl) (zI2)) rfl rfl rfl
  exact Ev.to (L12 _ 0 (mset (mset mem 37 1 (-1)) 37 2 (-1)) (rfl) (by omega) (((Fr.rf (S := scK)).ms rfl).ms rfl) (⟨fun u hu => by omega, Or.inl ⟨fun g hg => by omega, rfl, rfl, ⟨((Fr.rf (S := scK)).ms rfl).ms rfl, fun u hu => by omega, fun u hu => by omega⟩, rfl⟩⟩)) rfl rfl rfl
