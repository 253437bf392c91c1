def scK (c j : Nat) : Bool := scW c j || c == 38 || c == 39 || (c == 37 && (j == 1 || j == 2))
theorem bfA_mv {mem zm : Mem} {down : Bool} (h26 : zm 26 = mem 26) (h27 : zm 27 = mem 27) (hl : zm 25 4 = mem 25 4) (ha : zm 25 5 = mem 25 5) (h4 : zm 10 4 = mem 10 4) (h12 : zm 12 = mem 12) (h13 : zm 13 = mem 13) (h14 : zm 14 = mem 14) (h15 : zm 15 = mem 15) (h5 : zm 5 = mem 5) (h6 : zm 6 = mem 6) (h7 : zm 7 = mem 7) (h9 : zm 9 = mem 9) (h2 : zm 2 = mem 2) (h3 : zm 3 = mem 3) : bfA zm down = bfA mem down := by
  funext am c
  unfold bfA
  rw [h26, h27, hl, ha, prA_mv h4 h12 h13 h14 h15 h5 h6 h7 h9 h2 h3]
/-- rows of the trial that queries leave as they are -/
def TrS (mem zm : Mem) : Prop := (zm 26 = mem 26 ∧ zm 27 = mem 27 ∧ zm 25 4 = mem 25 4 ∧ zm 25 5 = mem 25 5) ∧ (zm 10 4 = mem 10 4 ∧ zm 12 = mem 12 ∧ zm 13 = mem 13 ∧ zm 14 = mem 14 ∧ zm 15 = mem 15) ∧ zm 5 = mem 5 ∧ zm 6 = mem 6 ∧ zm 7 = mem 7 ∧ zm 8 = mem 8 ∧ zm 9 = mem 9 ∧ zm 2 = mem 2 ∧ zm 3 = mem 3
def trOk (S : Nat → Nat → Bool) : Prop := ∀ j, S 26 j = false ∧ S 27 j = false ∧ S 25 4 = false ∧ S 25 5 = false ∧ S 10 4 = false ∧ S 12 j = false ∧ S 13 j = false ∧ S 14 j = false ∧ S 15 j = false ∧ S 5 j = false ∧ S 6 j = false ∧ S 7 j = false ∧ S 8 j = false ∧ S 9 j = false ∧ S 2 j = false ∧ S 3 j = false
theorem TrS.of {S : Nat → Nat → Bool} {mem zm : Mem} (zf : Fr S mem zm) (h : trOk S) : TrS mem zm := by
  refine ⟨⟨funext fun j => zf 26 j ?_, funext fun j => zf 27 j ?_, zf 25 4 ?_, zf 25 5 ?_⟩, ⟨zf 10 4 ?_, funext fun j => zf 12 j ?_, funext fun j => zf 13 j ?_, funext fun j => zf 14 j ?_, funext fun j => zf 15 j ?_⟩, funext fun j => zf 5 j ?_, funext fun j => zf 6 j ?_, funext fun j => zf 7 j ?_, funext fun j => zf 8 j ?_, funext fun j => zf 9 j ?_, funext fun j => zf 2 j ?_, funext fun j => zf 3 j ?_⟩
  all_goals first | exact (h j).1 | exact (h j).2.1 | exact (h 0).2.2.1 | exact (h 0).2.2.2.1 | exact (h 0).2.2.2.2.1 | exact (h j).2.2.2.2.2.1 | exact (h j).2.2.2.2.2.2.1 | exact (h j).2.2.2.2.2.2.2.1 | exact (h j).2.2.2.2.2.2.2.2.1 | exact (h j).2.2.2.2.2.2.2.2.2.1 | exact (h j).2.2.2.2.2.2.2.2.2.2.1 | exact (h j).2.2.2.2.2.2.2.2.2.2.2.1 | exact (h j).2.2.2.2.2.2.2.2.2.2.2.2.1 | exact (h j).2.2.2.2.2.2.2.2.2.2.2.2.2.1 | exact (h j).2.2.2.2.2.2.2.2.2.2.2.2.2.2.1 | exact (h j).2.2.2.2.2.2.2.2.2.2.2.2.2.2.2
theorem TrS.bf {mem zm : Mem} (h : TrS mem zm) (down : Bool) : bfA zm down = bfA mem down := bfA_mv h.1.1 h.1.2.1 h.1.2.2.1 h.1.2.2.2 h.2.1.1 h.2.1.2.1 h.2.1.2.2.1 h.2.1.2.2.2.1 h.2.1.2.2.2.2 h.2.2.1 h.2.2.2.1 h.2.2.2.2.1 h.2.2.2.2.2.2.1 h.2.2.2.2.2.2.2.1 h.2.2.2.2.2.2.2.2
theorem TrS.co {mem zm : Mem} (h : TrS mem zm) (hC : CoOk mem) : CoOk zm := by
  unfold CoOk at *
  rw [h.2.2.1, h.2.2.2.1, h.2.2.2.2.1, h.2.2.2.2.2.1, h.2.2.2.2.2.2.1, h.2.2.2.2.2.2.2.1, h.2.2.2.2.2.2.2.2]; exact hC
theorem TrS.ru {mem zm : Mem} (h : TrS mem zm) (hR : RuOk mem) : RuOk zm := RuOk.mv h.2.1.1 h.2.1.2.1 h.2.1.2.2.1 h.2.1.2.2.2.1 h.2.1.2.2.2.2 hR
theorem TrS.ev {mem zm : Mem} (h : TrS mem zm) (hE : EvOk25 mem) (hr : ∀ c, c < 8 → 0 ≤ zm 28 c ∧ zm 28 c ≤ 60) : EvOk25 zm := by
  unfold EvOk25 at *
  rw [h.1.1, h.1.2.1, h.1.2.2.1, h.1.2.2.2, h.2.2.2.2.2.2.2.1, h.2.2.2.2.2.2.2.2]
  exact ⟨hE.1, fun c hc => ⟨(hE.2 c hc).1, hr c hc, (hE.2 c hc).2.2⟩⟩
theorem TrS.st {mem zm : Mem} (h : TrS mem zm) (am : Nat → Int) : stF zm (zm 27) am (zm 26 0) (zm 25 4) (zm 25 5) (zm 9) (zm 2) (zm 3) = stF mem (mem 27) am (mem 26 0) (mem 25 4) (mem 25 5) (mem 9) (mem 2) (mem 3) := by
  rw [h.1.1, h.1.2.1, h.1.2.2.1, h.1.2.2.2, h.2.2.2.2.2.2.1, h.2.2.2.2.2.2.2.1, h.2.2.2.2.2.2.2.2, stF_mv h.2.1.1 h.2.1.2.1 h.2.1.2.2.1 h.2.1.2.2.2.1 h.2.1.2.2.2.2]
theorem trK : trOk scK := fun j => by refine ⟨?_, ?_, ?_, ?_, ?_, ?_, ?_, ?_, ?_, ?_, ?_, ?_, ?_, ?_, ?_, ?_⟩ <;> rfl
theorem scGK {mem zm : Mem} (zf : Fr (scG 25) mem zm) : Fr scK mem zm := zf.mono (fun c j q => by unfold scK scW scC at q; simp at q; exact q.1.1.1.1.1)
theorem scWK {mem zm : Mem} (zf : Fr scW mem zm) : Fr scK mem zm := zf.mono (fun c j q => by unfold scK at q; simp at q; exact q.1.1.1)
/-- weeks below w are reckoned -/
def WkI (mem zm : Mem) (w : Nat) : Prop := Fr scK mem zm ∧ (∀ u, u < w → zm 38 u = wkB mem (mem 28) u) ∧ ∀ u, u < w → zm 39 u = ((pkN (wkA mem (mem 28) u) 8 : Nat) : Int)

theorem t_keep (G : Gm) (mem zm1 : Mem) (w : Nat) (hw : w ≤ 60) (hC : CoOk mem) (hE : EvOk25 mem) (hR : RuOk mem) (hl : mem 25 4 = 0) (ha : mem 25 5 = 0) (zi1 : WkI mem zm1 w) (z28 : zm1 28 = wkA mem (mem 28) w) (z1f : zm1 37 1 = -1) (z1l : zm1 37 2 = -1) (hN : NoRep (wkA mem (mem 28)) w) : Con G mX6_keep [(2, 37), (0, (w : Int))] zm1 (fun r m' => r = none ∧ WkI mem m' (w + 1) ∧ m' 28 = wkA mem (mem 28) w ∧ ((NoRep (wkA mem (mem 28)) (w + 1) ∧ m' 37 1 = -1 ∧ m' 37 2 = -1) ∨ ∃ f : Nat, RepAt (wkA mem (mem 28)) (w + 1) f w ∧ m' 37 1 = (f : Int) ∧ m' 37 2 = (w : Int) - (f : Int))) := by
  refine Con.of (lo := [(2, 37), (0, (w : Int)), (3, 0)]) (by decide +kernel) (Nat.le_of_ble_eq_true rfl) rfl ?_
  generalize hQ_ : (fun r m' => r = none ∧ WkI mem m' (w + 1) ∧ m' 28 = wkA mem (mem 28) w ∧ ((NoRep (wkA mem (mem 28)) (w + 1) ∧ m' 37 1 = -1 ∧ m' 37 2 = -1) ∨ ∃ f : Nat, RepAt (wkA mem (mem 28)) (w + 1) f w ∧ m' 37 1 = (f : Int) ∧ m' 37 2 = (w : Int) - (f : Int)) : Option AV → Mem → Prop) = Q_
  refine e_aloadn (pc := 0) dX6_keep_0 rfl rfl ?_
  refine e_getr (pc := 1) (k := 39) dX6_keep_1 fX6_15 s_37 rfl (by decide) ?_
  refine e_iloadn (pc := 4) dX6_keep_4 rfl rfl ?_
  refine e_aloadn (pc := 5) dX6_keep_5 rfl rfl ?_
  refine e_getr (pc := 6) (k := 25) dX6_keep_6 fX6_19 s_37 rfl (by decide) ?_
  have zT := TrS.of zi1.1 trK
  have zbd := wkA_bd (mem := mem) (am := mem 28) (fun c hc => (hE.2 c hc).2.1)
  have zA := t_aimsAsOne G zm1 (by rw [z28]; exact zbd w)
  rw [z28] at zA
  refine e_callVr (pc := 9) (as := []) (st := [(0, (w : Int)), (2, 39)]) (zA) dX6_keep_9 lX6_keep_39 rfl s_25 cn_1 rfl rfl ?_
  refine e_lastm (pc := 12) (mem2 := mset zm1 39 w ((pkN (wkA mem (mem 28) w) 8 : Nat) : Int)) dX6_keep_12 s_39 (by omega) rfl ?_
  refine e_aloadn (pc := 13) dX6_keep_13 rfl rfl ?_
  refine e_getr (pc := 14) (k := 38) dX6_keep_14 fX6_9 s_37 rfl (by decide) ?_
  refine e_iloadn (pc := 17) dX6_keep_17 rfl rfl ?_
  refine e_aloadn (pc := 18) dX6_keep_18 rfl rfl ?_
  refine e_getr (pc := 19) (k := 25) dX6_keep_19 fX6_19 s_37 rfl (by decide) ?_
  have zf2 : Fr scK mem (mset zm1 39 w ((pkN (wkA mem (mem 28) w) 8 : Nat) : Int)) := zi1.1.ms rfl
  have zT2 := TrS.of zf2 trK
  have zrg2 : ∀ c, c < 8 → 0 ≤ (mset zm1 39 w ((pkN (wkA mem (mem 28) w) 8 : Nat) : Int)) 28 c ∧ (mset zm1 39 w ((pkN (wkA mem (mem 28) w) 8 : Nat) : Int)) 28 c ≤ 60 := by
    show ∀ c, c < 8 → 0 ≤ zm1 28 c ∧ zm1 28 c ≤ 60
    rw [z28]; exact zbd w
  have zst : stF (mset zm1 39 w ((pkN (wkA mem (mem 28) w) 8 : Nat) : Int)) ((mset zm1 39 w ((pkN (wkA mem (mem 28) w) 8 : Nat) : Int)) 27) ((mset zm1 39 w ((pkN (wkA mem (mem 28) w) 8 : Nat) : Int)) 28) ((mset zm1 39 w ((pkN (wkA mem (mem 28) w) 8 : Nat) : Int)) 26 0) ((mset zm1 39 w ((pkN (wkA mem (mem 28) w) 8 : Nat) : Int)) 25 4) ((mset zm1 39 w ((pkN (wkA mem (mem 28) w) 8 : Nat) : Int)) 25 5) ((mset zm1 39 w ((pkN (wkA mem (mem 28) w) 8 : Nat) : Int)) 9) ((mset zm1 39 w ((pkN (wkA mem (mem 28) w) 8 : Nat) : Int)) 2) ((mset zm1 39 w ((pkN (wkA mem (mem 28) w) 8 : Nat) : Int)) 3) = wkB mem (mem 28) w := by
    rw [zT2.st, show (mset zm1 39 w ((pkN (wkA mem (mem 28) w) 8 : Nat) : Int)) 28 = zm1 28 from rfl, z28]; rfl
  refine e_callV (pc := 22) (as := []) (st := [(0, (w : Int)), (2, 38)]) (t_reckon_25 G (mset zm1 39 w ((pkN (wkA mem (mem 28) w) 8 : Nat) : Int)) (zT2.co hC) (zT2.ev hE zrg2) (zT2.ru hR)) dX6_keep_22 lX6_keep_43 rfl s_25 cn_1 rfl rfl (fun r_ zm3 hq_ => ?_)
  rw [zst] at hq_
  obtain ⟨zr_, zvb, zf3, _⟩ := hq_
  subst zr_
  refine Ev.to (st' := [(0, wkB mem (mem 28) w), (0, (w : Int)), (2, 38)]) ?_ rfl rfl rfl
  refine e_iastm (pc := 25) (mem2 := mset zm3 38 w (wkB mem (mem 28) w)) dX6_keep_25 s_38 (by omega) rfl ?_
  have zf4 : Fr scK mem (mset zm3 38 w (wkB mem (mem 28) w)) := (zf2.tr (scGK zf3)).ms rfl
  have z39 : ∀ u, u < w + 1 → (mset zm3 38 w (wkB mem (mem 28) w)) 39 u = ((pkN (wkA mem (mem 28) u) 8 : Nat) : Int) := by
    intro u hu
    show zm3 39 u = _
    rw [zf3 39 u rfl, mset_row]
    by_cases z : u = w
    · rw [z, uset_eq]
    · rw [uset_ne _ _ z]; exact zi1.2.2 u (by omega)
  have z38 : ∀ u, u < w + 1 → (mset zm3 38 w (wkB mem (mem 28) w)) 38 u = wkB mem (mem 28) u := by
    intro u hu
    rw [mset_row]
    by_cases z : u = w
    · rw [z, uset_eq]
    · rw [uset_ne _ _ z, zf3 38 u rfl]; exact zi1.2.1 u (by omega)
  have z28c : (mset zm3 38 w (wkB mem (mem 28) w)) 28 = wkA mem (mem 28) w := by
    show zm3 28 = _
    rw [← z28]
    exact funext (fun j => zf3 28 j rfl)
  have zq1 : (mset zm3 38 w (wkB mem (mem 28) w)) 37 1 = -1 := (zf3 37 1 rfl).trans z1f
  have zq2 : (mset zm3 38 w (wkB mem (mem 28) w)) 37 2 = -1 := (zf3 37 2 rfl).trans z1l
  generalize hzm4 : mset zm3 38 w (wkB mem (mem 28) w) = zm4 at *
  refine e_iconst (pc := 26) dX6_keep_26 (by decide) ?_
  refine e_istoren (pc := 27) (lo' := [(2, 37), (0, (w : Int)), (0, 0)]) dX6_keep_27 rfl rfl (by decide) rfl ?_
  have L28 : ∀ (n_ : Nat) (j : Nat), w - j = n_ → (j ≤ w) → (∀ f, f < j → ¬ E8 (wkA mem (mem 28) f) (wkA mem (mem 28) w)) → Ev G mX6_keep Q_ 28 [(2, 37), (0, (w : Int)), (0, (j : Int))] [] zm4 := by
    intro n_
    induction n_ using Nat.strongRecOn with
    | ind n_ ih28 =>
      intro j hn_ zj znj
      refine e_iloadn (pc := 28) dX6_keep_28 rfl rfl ?_
      refine e_iloadn (pc := 29) dX6_keep_29 rfl rfl ?_
      refine e_icmp_ge (pc := 30) (tgt := 68) dX6_keep_30 rfl (fun h30 => ?_) (fun h30 => ?_)
      · skip
        have znr : NoRep (wkA mem (mem 28)) (w + 1) := by
          intro g hg f hf2
          rcases Nat.lt_or_ge g w with z | z
          · exact hN g z f hf2
          · rw [show g = w by omega] at hf2 ⊢
            exact znj f (by omega)
        exact e_vret (pc := 68) dX6_keep_68 rfl (by rw [← hQ_]; exact ⟨rfl, ⟨zf4, z38, z39⟩, z28c, Or.inl ⟨znr, zq1, zq2⟩⟩)
      · skip
        refine e_aloadn (pc := 33) dX6_keep_33 rfl rfl ?_
        refine e_getr (pc := 34) (k := 39) dX6_keep_34 fX6_15 s_37 rfl (by decide) ?_
        refine e_iloadn (pc := 37) dX6_keep_37 rfl rfl ?_
        refine e_laldv (pc := 38) (v := ((pkN (wkA mem (mem 28) j) 8 : Nat) : Int)) dX6_keep_38 s_39 (by omega) (z39 j (by omega)) ?_
        refine e_aloadn (pc := 39) dX6_keep_39 rfl rfl ?_
        refine e_getr (pc := 40) (k := 39) dX6_keep_40 fX6_15 s_37 rfl (by decide) ?_
        refine e_iloadn (pc := 43) dX6_keep_43 rfl rfl ?_
        refine e_laldv (pc := 44) (v := ((pkN (wkA mem (mem 28) w) 8 : Nat) : Int)) dX6_keep_44 s_39 (by omega) (z39 w (by omega)) ?_
        refine e_lcmp (pc := 45) dX6_keep_45 ?_
        refine e_if_ne (pc := 46) (tgt := 62) dX6_keep_46 rfl (fun h46 => ?_) (fun h46 => ?_)
        · skip
          have zne : ¬ pkN (wkA mem (mem 28) j) 8 = pkN (wkA mem (mem 28) w) 8 := by
            intro q
            rw [q] at h46
            unfold lCmp at h46
            simp at h46
          refine e_iinc (pc := 62) (lo' := [(2, 37), (0, (w : Int)), (0, (j : Int) + 1)]) dX6_keep_62 rfl (by omega) rfl (by decide) rfl ?_
          refine e_goto (pc := 65) (tgt := 28) dX6_keep_65 rfl ?_
          have zn2 : ∀ f, f < j + 1 → ¬ E8 (wkA mem (mem 28) f) (wkA mem (mem 28) w) := by
            intro f hf2
            rcases Nat.lt_or_ge f j with z | z
            · exact znj f z
            · rw [show f = j by omega]
              intro q
              exact zne ((pkN_inj (zbd j) (zbd w)).mpr q)
          exact Ev.to (ih28 _ (by omega) (j + 1) (rfl) (by omega) (zn2)) rfl rfl rfl
        · skip
          have zeq : E8 (wkA mem (mem 28) j) (wkA mem (mem 28) w) := (pkN_inj (zbd j) (zbd w)).mp (by
            unfold lCmp at h46
            by_cases q : ((pkN (wkA mem (mem 28) j) 8 : Nat) : Int) > ((pkN (wkA mem (mem 28) w) 8 : Nat) : Int)
            · rw [if_pos q] at h46; cases h46
            · rw [if_neg q] at h46
              by_cases q2 : ((pkN (wkA mem (mem 28) j) 8 : Nat) : Int) = ((pkN (wkA mem (mem 28) w) 8 : Nat) : Int)
              · omega
              · rw [if_neg q2] at h46; cases h46)
          refine e_aloadn (pc := 49) dX6_keep_49 rfl rfl ?_
          refine e_iloadn (pc := 50) dX6_keep_50 rfl rfl ?_
          refine e_putI (pc := 51) (mem2 := mset zm4 37 1 (j : Int)) dX6_keep_51 fX6_23 s_37 rfl (by decide) pw_6_1 rfl ?_
          refine e_aloadn (pc := 54) dX6_keep_54 rfl rfl ?_
          refine e_iloadn (pc := 55) dX6_keep_55 rfl rfl ?_
          refine e_iloadn (pc := 56) dX6_keep_56 rfl rfl ?_
          refine e_isubn (pc := 57) dX6_keep_57 (by omega) ?_
          refine e_putI (pc := 58) (mem2 := mset (mset zm4 37 1 (j : Int)) 37 2 ((w : Int) - (j : Int))) dX6_keep_58 fX6_27 s_37 rfl (by decide) pw_6_2 rfl ?_
          have zrep : RepAt (wkA mem (mem 28)) (w + 1) j w := ⟨by omega, by omega, zeq, hN, znj⟩
          have zfin : WkI mem (mset (mset zm4 37 1 (j : Int)) 37 2 ((w : Int) - (j : Int))) (w + 1) := ⟨(zf4.ms rfl).ms rfl, z38, z39⟩
          exact e_vret (pc := 61) dX6_keep_61 rfl (by rw [← hQ_]; exact ⟨rfl, zfin, z28c, Or.inr ⟨j, zrep, rfl, rfl⟩⟩)
  exact Ev.to (L28 _ 0 (rfl) (by omega) (fun f hf2 => by omega)) rfl rfl rfl
