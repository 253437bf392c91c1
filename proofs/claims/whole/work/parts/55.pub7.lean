section ANQ
variable {A B : Mem}
theorem rQ (zf : Fr scQ A B) (c : Nat) (h : c < 20 ∨ 39 < c) (h2 : c ≠ 16) : B c = A c := funext (fun j => zf c j (by unfold scQ; simp; omega))
theorem stQ (zf : Fr scQ A B) : stA0 B = stA0 A := by
  obtain ⟨e1, e2, e3⟩ := frQ_rows zf
  exact stT_cg (tm := A 17) (kd := A 18) (am := A 19) (tm' := B 17) (kd' := B 18) (am' := B 19) (late := 0) (aw := 0) (SE.q zf) (by rw [e1]) (by rw [e2]; exact E8.rf) (by rw [e3]; exact EP.rf)
theorem whQ (zf : Fr scQ A B) : whA0 B = whA0 A := by
  obtain ⟨e1, e2, e3⟩ := frQ_rows zf
  exact whT_cg (tm := A 17) (kd := A 18) (am := A 19) (tm' := B 17) (kd' := B 18) (am' := B 19) (late := 0) (aw := 0) (SE.q zf) (by rw [e1]) (by rw [e2]; exact E8.rf) (by rw [e3]; exact EP.rf)
def an_count (A : Mem) (wh : Int) : Int := if wh = 0 then A 1 0 else if wh = 1 then plB A else if wh = 2 then A 17 0 else if wh = 3 then A 17 1 else if wh = 4 then A 17 2 else if wh = 5 then A 10 0 else if wh = 6 then sumTo (fun c => if A 18 c = 0 then A 19 c else 0) 8 else if wh = 7 then sumTo (A 8) 8 else if wh = 8 then A 41 3 else -2
theorem anQ_count (zf : Fr scQ A B) (wh : Int) : an_count B wh = an_count A wh := by
  unfold an_count plB
  rw [rQ zf 1 (by omega) (by omega), rQ zf 17 (by omega) (by omega), rQ zf 18 (by omega) (by omega), rQ zf 19 (by omega) (by omega), rQ zf 8 (by omega) (by omega), rQ zf 10 (by omega) (by omega), rQ zf 41 (by omega) (by omega)]
theorem anQ_fault (zf : Fr scQ A B) : an_fault B = an_fault A := by unfold an_fault; rw [rQ zf 10 (by omega) (by omega)]
theorem anQ_begins (zf : Fr scQ A B) : an_begins B = an_begins A := stQ zf
theorem anQ_comes (zf : Fr scQ A B) (c : Int) : an_comes B c = an_comes A c := by unfold an_comes; rw [whQ zf, rQ zf 18 (by omega) (by omega)]
theorem anQ_pays (zf : Fr scQ A B) (c : Int) : an_pays B c = an_pays A c := by
  unfold an_pays pvA0
  have e : togA B (B 17) (B 18) (B 19) 0 0 = togA A (A 17) (A 18) (A 19) 0 0 := by
    obtain ⟨e1, e2, e3⟩ := frQ_rows zf
    rw [e1, e2, e3]
    exact togA_cg (SE.q zf) E3.rf E8.rf EP.rf
  rw [e, stQ zf, whQ zf, rQ zf 18 (by omega) (by omega), rQ zf 17 (by omega) (by omega), rQ zf 5 (by omega) (by omega), rQ zf 6 (by omega) (by omega), rQ zf 7 (by omega) (by omega)]
theorem anQ_restless (zf : Fr scQ A B) : an_restless B = an_restless A := by
  unfold an_restless
  obtain ⟨e1, e2, e3⟩ := frQ_rows zf
  rw [e1, e2, e3, prA_cg (SE.q zf) E3.rf E8.rf EP.rf]
theorem bfQ (zf : Fr scQ A B) (tm kd : Nat → Int) (down : Bool) : bfT B tm kd 0 0 down = bfT A tm kd 0 0 down := funext (fun am => bfT_cg (SE.q zf) E3.rf E8.rf EP.rf)
theorem anQ_climb (zf : Fr scQ A B) (down : Bool) (c : Int) : an_climb B down c = an_climb A down c := by
  have e : ∀ x, stT B (B 17) (B 18) x 0 0 = stT A (A 17) (A 18) x 0 0 := fun x => by
    obtain ⟨e1, e2, e3⟩ := frQ_rows zf
    rw [e1, e2]
    exact stT_cg (SE.q zf) rfl E8.rf EP.rf
  unfold an_climb
  have e2 : cliA B (B 17) (B 18) down = cliA A (A 17) (A 18) down := by
    obtain ⟨e1, e2, e3⟩ := frQ_rows zf
    unfold cliA
    rw [e1, e2, bfQ zf]
  rw [e2, rQ zf 18 (by omega) (by omega)] at *
  congr 1
  cases cliA A (A 17) (A 18) down with
  | none => rfl
  | some x => show (if c = -1 then _ else _) = (if c = -1 then _ else _); rw [e x]
theorem wkQ (zf : Fr scQ A B) : ∀ w, wkT B (B 17) (B 18) (B 19) w = wkT A (A 17) (A 18) (A 19) w
  | 0 => rQ zf 19 (by omega) (by omega)
  | w + 1 => by
    show nxA (bfT B (B 17) (B 18) 0 0 false) (B 18) (wkT B (B 17) (B 18) (B 19) w) = nxA (bfT A (A 17) (A 18) 0 0 false) (A 18) (wkT A (A 17) (A 18) (A 19) w)
    obtain ⟨e1, e2, e3⟩ := frQ_rows zf
    rw [wkQ zf w, e1, e2, bfQ zf]
theorem wkSQ (zf : Fr scQ A B) (w : Nat) : wkS B w = wkS A w := by
  unfold wkS
  rw [wkQ zf]
  obtain ⟨e1, e2, e3⟩ := frQ_rows zf
  rw [e1, e2]
  exact stT_cg (SE.q zf) rfl E8.rf EP.rf
theorem anQ_week (zf : Fr scQ A B) (w : Int) : an_week B w = an_week A w := by unfold an_week; rw [wkSQ zf]
theorem anQ_keys (zf : Fr scQ A B) (wh : Int) : an_keys B wh = an_keys A wh := by unfold an_keys; rw [stQ zf, whQ zf, kyP_mv zf]
theorem anQ_odds (zf : Fr scQ A B) (minute wh : Int) : an_odds B minute wh = an_odds A minute wh := by
  unfold an_odds
  have e : bgS B minute = bgS A minute := by
    funext w
    unfold bgS
    obtain ⟨e1, e2, e3⟩ := frQ_rows zf
    rw [e1, e2, e3, stT_cg (SE.q zf) rfl E8.rf EP.rf, rQ zf 8 (by omega) (by omega)]
  rw [e]
end ANQ

theorem c_count (G : Gm) (mem : Mem) (wh : Int) (hI : CI mem) : Con G mX7_count [(2, 0), (0, wh)] mem (fun r m' => r = some (0, an_count mem wh) ∧ m' = mem) := by
  refine Con.of (lo := [(2, 0), (0, wh)]) (by decide +kernel) (Nat.le_of_ble_eq_true rfl) rfl ?_
  generalize hQ_ : (fun r m' => r = some (0, an_count mem wh) ∧ m' = mem : Option AV → Mem → Prop) = Q_
  refine e_iloadn (pc := 0) dX7_count_0 rfl rfl ?_
  by_cases hs1 : 0 ≤ wh ∧ wh ≤ 8
  · obtain ⟨hsa1, hsb1⟩ := hs1
    rcases (show wh = 0 ∨ wh = 1 ∨ wh = 2 ∨ wh = 3 ∨ wh = 4 ∨ wh = 5 ∨ wh = 6 ∨ wh = 7 ∨ wh = 8 by omega) with hs1 | hs1 | hs1 | hs1 | hs1 | hs1 | hs1 | hs1 | hs1
    · skip
      refine e_tableIn (pc := 1) (tgt := 52) (off := 51) dX7_count_1 (by omega) (by rw [hs1]; rfl) rfl ?_
      refine e_aloadn (pc := 52) dX7_count_52 rfl rfl ?_
      refine e_getr (pc := 53) (k := 1) dX7_count_53 fX7_12 s_0 rfl (by decide) ?_
      refine e_getiv (pc := 56) (v := mem 1 0) dX7_count_56 fX7_71 s_1 rfl (by decide) rfl ?_
      have zan : an_count mem wh = mem 1 0 := by unfold an_count; (repeat (first | rw [if_pos (by omega)] | rw [if_neg (by omega)]))
      exact e_iret (pc := 59) dX7_count_59 rfl (by rw [← hQ_]; exact ⟨congrArg (fun z => some ((0 : Nat), z)) zan.symm, rfl⟩)
    · skip
      refine e_tableIn (pc := 1) (tgt := 60) (off := 59) dX7_count_1 (by omega) (by rw [hs1]; rfl) rfl ?_
      refine e_aloadn (pc := 60) dX7_count_60 rfl rfl ?_
      refine e_getr (pc := 61) (k := 16) dX7_count_61 fX7_28 s_0 rfl (by decide) ?_
      refine e_callVr (pc := 64) (as := []) (st := []) (t_plainBits_16 G mem) dX7_count_64 lX7_count_173 rfl s_16 cn_1 rfl rfl ?_
      have zan : an_count mem wh = plB mem := by unfold an_count; (repeat (first | rw [if_pos (by omega)] | rw [if_neg (by omega)]))
      exact e_iret (pc := 67) dX7_count_67 rfl (by rw [← hQ_]; exact ⟨congrArg (fun z => some ((0 : Nat), z)) zan.symm, rfl⟩)
    · skip
      refine e_tableIn (pc := 1) (tgt := 68) (off := 67) dX7_count_1 (by omega) (by rw [hs1]; rfl) rfl ?_
      refine e_aloadn (pc := 68) dX7_count_68 rfl rfl ?_
      refine e_getr (pc := 69) (k := 16) dX7_count_69 fX7_28 s_0 rfl (by decide) ?_
      refine e_getr (pc := 72) (k := 17) dX7_count_72 fX7_127 s_16 rfl (by decide) ?_
      refine e_iconst (pc := 75) dX7_count_75 (by decide) ?_
      refine e_ialdv (pc := 76) (v := mem 17 0) dX7_count_76 s_17 (by omega) rfl ?_
      have zan : an_count mem wh = mem 17 0 := by unfold an_count; (repeat (first | rw [if_pos (by omega)] | rw [if_neg (by omega)]))
      exact e_iret (pc := 77) dX7_count_77 rfl (by rw [← hQ_]; exact ⟨congrArg (fun z => some ((0 : Nat), z)) zan.symm, rfl⟩)
    · skip
      refine e_tableIn (pc := 1) (tgt := 78) (off := 77) dX7_count_1 (by omega) (by rw [hs1]; rfl) rfl ?_
      refine e_aloadn (pc := 78) dX7_count_78 rfl rfl ?_
      refine e_getr (pc := 79) (k := 16) dX7_count_79 fX7_28 s_0 rfl (by decide) ?_
      refine e_getr (pc := 82) (k := 17) dX7_count_82 fX7_127 s_16 rfl (by decide) ?_
      refine e_iconst (pc := 85) dX7_count_85 (by decide) ?_
      refine e_ialdv (pc := 86) (v := mem 17 1) dX7_count_86 s_17 (by omega) rfl ?_
      have zan : an_count mem wh = mem 17 1 := by unfold an_count; (repeat (first | rw [if_pos (by omega)] | rw [if_neg (by omega)]))
      exact e_iret (pc := 87) dX7_count_87 rfl (by rw [← hQ_]; exact ⟨congrArg (fun z => some ((0 : Nat), z)) zan.symm, rfl⟩)
    · skip
      refine e_tableIn (pc := 1) (tgt := 88) (off := 87) dX7_count_1 (by omega) (by rw [hs1]; rfl) rfl ?_
      refine e_aloadn (pc := 88) dX7_count_88 rfl rfl ?_
      refine e_getr (pc := 89) (k := 16) dX7_count_89 fX7_28 s_0 rfl (by decide) ?_
      refine e_getr (pc := 92) (k := 17) dX7_count_92 fX7_127 s_16 rfl (by decide) ?_
      refine e_iconst (pc := 95) dX7_count_95 (by decide) ?_
      refine e_ialdv (pc := 96) (v := mem 17 2) dX7_count_96 s_17 (by omega) rfl ?_
      have zan : an_count mem wh = mem 17 2 := by unfold an_count; (repeat (first | rw [if_pos (by omega)] | rw [if_neg (by omega)]))
      exact e_iret (pc := 97) dX7_count_97 rfl (by rw [← hQ_]; exact ⟨congrArg (fun z => some ((0 : Nat), z)) zan.symm, rfl⟩)
    · skip
      refine e_tableIn (pc := 1) (tgt := 98) (off := 97) dX7_count_1 (by omega) (by rw [hs1]; rfl) rfl ?_
      refine e_aloadn (pc := 98) dX7_count_98 rfl rfl ?_
      refine e_getr (pc := 99) (k := 10) dX7_count_99 fX7_19 s_0 rfl (by decide) ?_
      refine e_getiv (pc := 102) (v := mem 10 0) dX7_count_102 fX7_133 s_10 rfl (by decide) rfl ?_
      have zan : an_count mem wh = mem 10 0 := by unfold an_count; (repeat (first | rw [if_pos (by omega)] | rw [if_neg (by omega)]))
      exact e_iret (pc := 105) dX7_count_105 rfl (by rw [← hQ_]; exact ⟨congrArg (fun z => some ((0 : Nat), z)) zan.symm, rfl⟩)
    · skip
      refine e_tableIn (pc := 1) (tgt := 106) (off := 105) dX7_count_1 (by omega) (by rw [hs1]; rfl) rfl ?_
      refine e_aloadn (pc := 106) dX7_count_106 rfl rfl ?_
      refine e_getr (pc := 107) (k := 16) dX7_count_107 fX7_28 s_0 rfl (by decide) ?_
      refine e_callVr (pc := 110) (as := []) (st := []) (t_aimsTogether_16 G mem (fun c hc => (hI.2.1.2 c hc).2.1)) dX7_count_110 lX7_count_267 rfl s_16 cn_1 rfl rfl ?_
      have zan : an_count mem wh = sumTo (fun c => if mem 18 c = 0 then mem 19 c else 0) 8 := by unfold an_count; (repeat (first | rw [if_pos (by omega)] | rw [if_neg (by omega)]))
      exact e_iret (pc := 113) dX7_count_113 rfl (by rw [← hQ_]; exact ⟨congrArg (fun z => some ((0 : Nat), z)) zan.symm, rfl⟩)
    · skip
      refine e_tableIn (pc := 1) (tgt := 114) (off := 113) dX7_count_1 (by omega) (by rw [hs1]; rfl) rfl ?_
      refine e_aloadn (pc := 114) dX7_count_114 rfl rfl ?_
      refine e_getr (pc := 115) (k := 1) dX7_count_115 fX7_12 s_0 rfl (by decide) ?_
      refine e_callVr (pc := 118) (as := []) (st := []) (t_lotsTogether G mem hI.1) dX7_count_118 lX7_count_270 rfl s_1 cn_0 rfl rfl ?_
      have zan : an_count mem wh = sumTo (mem 8) 8 := by unfold an_count; (repeat (first | rw [if_pos (by omega)] | rw [if_neg (by omega)]))
      exact e_iret (pc := 121) dX7_count_121 rfl (by rw [← hQ_]; exact ⟨congrArg (fun z => some ((0 : Nat), z)) zan.symm, rfl⟩)
    · skip
      refine e_tableIn (pc := 1) (tgt := 122) (off := 121) dX7_count_1 (by omega) (by rw [hs1]; rfl) rfl ?_
      refine e_aloadn (pc := 122) dX7_count_122 rfl rfl ?_
      refine e_getr (pc := 123) (k := 41) dX7_count_123 fX7_63 s_0 rfl (by decide) ?_
      refine e_getiv (pc := 126) (v := mem 41 3) dX7_count_126 fX7_273 s_41 rfl (by decide) rfl ?_
      have zan : an_count mem wh = mem 41 3 := by unfold an_count; (repeat (first | rw [if_pos (by omega)] | rw [if_neg (by omega)]))
      exact e_iret (pc := 129) dX7_count_129 rfl (by rw [← hQ_]; exact ⟨congrArg (fun z => some ((0 : Nat), z)) zan.symm, rfl⟩)
  · skip
    refine e_tableOut (pc := 1) (tgt := 130) dX7_count_1 (by omega) rfl ?_
    refine e_bipush (pc := 130) dX7_count_130 rfl (by decide) ?_
    have zan : an_count mem wh = -2 := by unfold an_count; (repeat (first | rw [if_pos (by omega)] | rw [if_neg (by omega)]))
    exact e_iret (pc := 132) dX7_count_132 rfl (by rw [← hQ_]; exact ⟨congrArg (fun z => some ((0 : Nat), z)) zan.symm, rfl⟩)

theorem q_count (G : Gm) (A zm : Mem) (wh : Int) (hI : CI A) (zf : Fr scQ A zm) : Con G mX7_count [(2, 0), (0, wh)] zm (fun r m' => r = some (0, an_count A wh) ∧ Fr scQ A m') := by
  refine (c_count G zm wh (hI.fr zf)).mono (fun r m' h => ?_)
  obtain ⟨h1, h2⟩ := h
  rw [anQ_count zf] at h1
  exact ⟨h1, by rw [h2]; exact zf⟩
theorem q_fault (G : Gm) (A zm : Mem)  (hI : CI A) (zf : Fr scQ A zm) : Con G mX7_fault [(2, 0)] zm (fun r m' => r = some (0, an_fault A) ∧ Fr scQ A m') := by
  refine (c_fault G zm  (hI.fr zf)).mono (fun r m' h => ?_)
  obtain ⟨h1, h2⟩ := h
  rw [anQ_fault zf] at h1
  exact ⟨h1, zf.tr h2⟩
theorem q_begins (G : Gm) (A zm : Mem)  (hI : CI A) (zf : Fr scQ A zm) : Con G mX7_begins [(2, 0)] zm (fun r m' => r = some (0, an_begins A) ∧ Fr scQ A m') := by
  refine (c_begins G zm  (hI.fr zf)).mono (fun r m' h => ?_)
  obtain ⟨h1, h2⟩ := h
  rw [anQ_begins zf] at h1
  exact ⟨h1, zf.tr h2⟩
theorem q_comes (G : Gm) (A zm : Mem) (c : Int) (hI : CI A) (zf : Fr scQ A zm) : Con G mX7_comes [(2, 0), (0, c)] zm (fun r m' => r = some (0, an_comes A c) ∧ Fr scQ A m') := by
  refine (c_comes G zm c (hI.fr zf)).mono (fun r m' h => ?_)
  obtain ⟨h1, h2⟩ := h
  rw [anQ_comes zf] at h1
  exact ⟨h1, zf.tr h2⟩
theorem q_pays (G : Gm) (A zm : Mem) (c : Int) (hI : CI A) (zf : Fr scQ A zm) : Con G mX7_pays [(2, 0), (0, c)] zm (fun r m' => r = some (0, an_pays A c) ∧ Fr scQ A m') := by
  refine (c_pays G zm c (hI.fr zf)).mono (fun r m' h => ?_)
  obtain ⟨h1, h2⟩ := h
  rw [anQ_pays zf] at h1
  exact ⟨h1, zf.tr h2⟩
theorem q_restless (G : Gm) (A zm : Mem)  (hI : CI A) (zf : Fr scQ A zm) : Con G mX7_restless [(2, 0)] zm (fun r m' => r = some (0, an_restless A) ∧ Fr scQ A m') := by
  refine (c_restless G zm  (hI.fr zf)).mono (fun r m' h => ?_)
  obtain ⟨h1, h2⟩ := h
  rw [anQ_restless zf] at h1
  exact ⟨h1, zf.tr h2⟩
theorem q_climb (G : Gm) (A zm : Mem) (down : Bool) (dv : Int) (c : Int) (hI : CI A) (zf : Fr scQ A zm) (hdv : dv = if down then 1 else 0) : Con G mX7_climb [(2, 0), (0, dv), (0, c)] zm (fun r m' => r = some (0, an_climb A down c) ∧ Fr scQ A m') := by
  subst hdv
  refine (c_climb G zm down c (hI.fr zf)).mono (fun r m' h => ?_)
  obtain ⟨h1, h2⟩ := h
  rw [anQ_climb zf] at h1
  exact ⟨h1, zf.tr h2⟩
theorem q_week (G : Gm) (A zm : Mem) (w : Int) (hI : CI A) (zf : Fr scQ A zm) : Con G mX7_week [(2, 0), (0, w)] zm (fun r m' => r = some (0, an_week A w) ∧ Fr scQ A m') := by
  refine (c_week G zm w (hI.fr zf)).mono (fun r m' h => ?_)
  obtain ⟨h1, h2⟩ := h
  rw [anQ_week zf] at h1
  exact ⟨h1, zf.tr h2⟩
theorem q_keys (G : Gm) (A zm : Mem) (wh : Int) (hI : CI A) (zf : Fr scQ A zm) : Con G mX7_keys [(2, 0), (0, wh)] zm (fun r m' => r = some (0, an_keys A wh) ∧ Fr scQ A m') := by
  refine (c_keys G zm wh (hI.fr zf)).mono (fun r m' h => ?_)
  obtain ⟨h1, h2⟩ := h
  rw [anQ_keys zf] at h1
  exact ⟨h1, zf.tr h2⟩
theorem q_odds (G : Gm) (A zm : Mem) (minute : Int) (wh : Int) (hI : CI A) (zf : Fr scQ A zm) : Con G mX7_odds [(2, 0), (0, minute), (0, wh)] zm (fun r m' => r = some (1, an_odds A minute wh) ∧ Fr scQ A m') := by
  refine (c_odds G zm minute wh (hI.fr zf)).mono (fun r m' h => ?_)
  obtain ⟨h1, h2⟩ := h
  rw [anQ_odds zf] at h1
  exact ⟨h1, zf.tr h2⟩
def dgs (h v : Int) : Int := w64 (w64 (31 * h) + v)
def dgC (A : Mem) : Nat → Int
  | 0 => 17
  | k + 1 => dgs (dgC A k) (an_count A (k : Int))
noncomputable def dg1 (A : Mem) : Int := dgs (dgC A 8) (an_fault A)
noncomputable def dg2 (A : Mem) : Int := dgs (dg1 A) (an_begins A)
noncomputable def dgN (A : Mem) : Nat → Int
  | 0 => dg2 A
  | k + 1 => dgs (dgs (dgN A k) (an_comes A (k : Int))) (an_pays A (k : Int))
noncomputable def dg3 (A : Mem) : Int := dgs (dgN A (A 1 0).toNat) (an_restless A)
noncomputable def dg4 (A : Mem) : Int := dgs (dg3 A) (an_climb A false (-1))
noncomputable def dg5 (A : Mem) : Int := dgs (dg4 A) (an_climb A true (-1))
noncomputable def dg6 (A : Mem) : Int := dgs (dg5 A) (an_week A 1)
noncomputable def dg7 (A : Mem) : Int := dgs (dg6 A) (an_week A 2)
noncomputable def dg8 (A : Mem) : Int := dgs (dg7 A) (an_keys A 0)
noncomputable def dg9 (A : Mem) : Int := dgs (dg8 A) (an_keys A 1)
noncomputable def an_digest (A : Mem) : Int := dgs (dg9 A) (an_odds A 30 0)

theorem c_digest (G : Gm) (mem : Mem) (hI : CI mem) : Con G mX7_digest [(2, 0)] mem (fun r m' => r = some (1, an_digest mem) ∧ Fr scQ mem m') := by
  refine Con.of (lo := [(2, 0), (3, 0), (3, 0), (3, 0)]) (by decide +kernel) (Nat.le_of_ble_eq_true rfl) rfl ?_
  generalize hQ_ : (fun r m' => r = some (1, an_digest mem) ∧ Fr scQ mem m' : Option AV → Mem → Prop) = Q_
  refine e_ldc2 (pc := 0) (z := 17) dX7_digest_0 kX7_276 (by decide) ?_
  refine e_lstoren (pc := 3) (lo' := [(2, 0), (1, 17), (3, 0), (3, 0)]) dX7_digest_3 rfl rfl (by decide) rfl ?_
  refine e_iconst (pc := 4) dX7_digest_4 (by decide) ?_
  refine e_istoren (pc := 5) (lo' := [(2, 0), (1, 17), (3, 0), (0, 0)]) dX7_digest_5 rfl rfl (by decide) rfl ?_
  have L6 : ∀ (n_ : Nat) (k : Nat) (zmv : Mem), 8 - k = n_ → (k ≤ 8) → (Fr scQ mem zmv) → Ev G mX7_digest Q_ 6 [(2, 0), (1, dgC mem k), (3, 0), (0, (k : Int))] [] zmv := by
    intro n_
    induction n_ using Nat.strongRecOn with
    | ind n_ ih6 =>
      intro k zmv hn_ zk zf
      refine e_iloadn (pc := 6) dX7_digest_6 rfl rfl ?_
      refine e_bipush (pc := 7) dX7_digest_7 rfl (by decide) ?_
      refine e_icmp_gt (pc := 9) (tgt := 31) dX7_digest_9 rfl (fun h9 => ?_) (fun h9 => ?_)
      · skip
        have zke : k = 8 := by omega
        subst zke
        obtain ⟨n, zn1, zn2, _⟩ := hI.2.2.2.2.1
        refine e_ldc2 (pc := 31) (z := 31) dX7_digest_31 kX7_278 (by decide) ?_
        refine e_lloadn (pc := 34) dX7_digest_34 rfl rfl ?_
        refine e_lmul (pc := 35) dX7_digest_35 ?_
        refine e_aloadn (pc := 36) dX7_digest_36 rfl rfl ?_
        refine e_callV (pc := 37) (as := []) (st := [(1, w64 (31 * (dgC mem 8)))]) (q_fault G mem zmv hI zf) dX7_digest_37 lX7_digest_283 rfl s_0 cn_7 rfl rfl (fun r_ zm1 hq_ => ?_)
        obtain ⟨zr_, zf1⟩ := hq_
        subst zr_
        refine Ev.to (st' := [(0, an_fault mem), (1, w64 (31 * (dgC mem 8)))]) ?_ rfl rfl rfl
        refine e_i2l (pc := 40) dX7_digest_40 ?_
        refine e_ladd (pc := 41) dX7_digest_41 ?_
        rw [show w64 ((w64 (31 * (dgC mem 8))) + (an_fault mem)) = dg1 mem from rfl]
        refine e_lstoren (pc := 42) (lo' := [(2, 0), (1, dg1 mem), (3, 0), (0, ((8 : Nat) : Int))]) dX7_digest_42 rfl rfl (by decide) rfl ?_
        refine e_ldc2 (pc := 43) (z := 31) dX7_digest_43 kX7_278 (by decide) ?_
        refine e_lloadn (pc := 46) dX7_digest_46 rfl rfl ?_
        refine e_lmul (pc := 47) dX7_digest_47 ?_
        refine e_aloadn (pc := 48) dX7_digest_48 rfl rfl ?_
        refine e_callV (pc := 49) (as := []) (st := [(1, w64 (31 * (dg1 mem)))]) (q_begins G mem zm1 hI zf1) dX7_digest_49 lX7_digest_286 rfl s_0 cn_7 rfl rfl (fun r_ zm2 hq_ => ?_)
        obtain ⟨zr_, zf2⟩ := hq_
        subst zr_
        refine Ev.to (st' := [(0, an_begins mem), (1, w64 (31 * (dg1 mem)))]) ?_ rfl rfl rfl
        refine e_i2l (pc := 52) dX7_digest_52 ?_
        refine e_ladd (pc := 53) dX7_digest_53 ?_
        rw [show w64 ((w64 (31 * (dg1 mem))) + (an_begins mem)) = dg2 mem from rfl]
        refine e_lstoren (pc := 54) (lo' := [(2, 0), (1, dg2 mem), (3, 0), (0, ((8 : Nat) : Int))]) dX7_digest_54 rfl rfl (by decide) rfl ?_
        refine e_iconst (pc := 55) dX7_digest_55 (by decide) ?_
        refine e_istoren (pc := 56) (lo' := [(2, 0), (1, dg2 mem), (3, 0), (0, 0)]) dX7_digest_56 rfl rfl (by decide) rfl ?_
        have L57 : ∀ (n_ : Nat) (k : Nat) (zmw : Mem), 8 - k = n_ → (k ≤ n) → (Fr scQ mem zmw) → Ev G mX7_digest Q_ 57 [(2, 0), (1, dgN mem k), (3, 0), (0, (k : Int))] [] zmw := by
          intro n_
          induction n_ using Nat.strongRecOn with
          | ind n_ ih57 =>
            intro k zmw hn_ zkn zg
            refine e_iloadn (pc := 57) dX7_digest_57 rfl rfl ?_
            refine e_aloadn (pc := 58) dX7_digest_58 rfl rfl ?_
            refine e_getr (pc := 59) (k := 1) dX7_digest_59 fX7_12 s_0 rfl (by decide) ?_
            refine e_getiv (pc := 62) (v := (n : Int)) dX7_digest_62 fX7_71 s_1 rfl (by decide) ((zg 1 0 rfl).trans zn1) ?_
            refine e_icmp_ge (pc := 65) (tgt := 100) dX7_digest_65 rfl (fun h65 => ?_) (fun h65 => ?_)
            · skip
              have zke : k = (mem 1 0).toNat := by omega
              subst zke
              refine e_ldc2 (pc := 100) (z := 31) dX7_digest_100 kX7_278 (by decide) ?_
              refine e_lloadn (pc := 103) dX7_digest_103 rfl rfl ?_
              refine e_lmul (pc := 104) dX7_digest_104 ?_
              refine e_aloadn (pc := 105) dX7_digest_105 rfl rfl ?_
              refine e_callV (pc := 106) (as := []) (st := [(1, w64 (31 * (dgN mem (mem 1 0).toNat)))]) (q_restless G mem zmw hI zg) dX7_digest_106 lX7_digest_295 rfl s_0 cn_7 rfl rfl (fun r_ zm3 hq_ => ?_)
              obtain ⟨zr_, zf3⟩ := hq_
              subst zr_
              refine Ev.to (st' := [(0, an_restless mem), (1, w64 (31 * (dgN mem (mem 1 0).toNat)))]) ?_ rfl rfl rfl
              refine e_i2l (pc := 109) dX7_digest_109 ?_
              refine e_ladd (pc := 110) dX7_digest_110 ?_
              rw [show w64 ((w64 (31 * (dgN mem (mem 1 0).toNat))) + (an_restless mem)) = dg3 mem from rfl]
              refine e_lstoren (pc := 111) (lo' := [(2, 0), (1, dg3 mem), (3, 0), (0, ((mem 1 0).toNat : Int))]) dX7_digest_111 rfl rfl (by decide) rfl ?_
              refine e_ldc2 (pc := 112) (z := 31) dX7_digest_112 kX7_278 (by decide) ?_
              refine e_lloadn (pc := 115) dX7_digest_115 rfl rfl ?_
              refine e_lmul (pc := 116) dX7_digest_116 ?_
              refine e_aloadn (pc := 117) dX7_digest_117 rfl rfl ?_
              refine e_iconst (pc := 118) dX7_digest_118 (by decide) ?_
              refine e_iconst (pc := 119) dX7_digest_119 (by decide) ?_
              refine e_callV (pc := 120) (as := [(0, 0), (0, -1)]) (st := [(1, w64 (31 * (dg3 mem)))]) (q_climb G mem zm3 false 0 (-1) hI zf3 rfl) dX7_digest_120 lX7_digest_298 rfl s_0 cn_7 rfl rfl (fun r_ zm4 hq_ => ?_)
              obtain ⟨zr_, zf4⟩ := hq_
              subst zr_
              refine Ev.to (st' := [(0, an_climb mem false (-1)), (1, w64 (31 * (dg3 mem)))]) ?_ rfl rfl rfl
              refine e_i2l (pc := 123) dX7_digest_123 ?_
              refine e_ladd (pc := 124) dX7_digest_124 ?_
              rw [show w64 ((w64 (31 * (dg3 mem))) + (an_climb mem false (-1))) = dg4 mem from rfl]
              refine e_lstoren (pc := 125) (lo' := [(2, 0), (1, dg4 mem), (3, 0), (0, ((mem 1 0).toNat : Int))]) dX7_digest_125 rfl rfl (by decide) rfl ?_
              refine e_ldc2 (pc := 126) (z := 31) dX7_digest_126 kX7_278 (by decide) ?_
              refine e_lloadn (pc := 129) dX7_digest_129 rfl rfl ?_
              refine e_lmul (pc := 130) dX7_digest_130 ?_
              refine e_aloadn (pc := 131) dX7_digest_131 rfl rfl ?_
              refine e_iconst (pc := 132) dX7_digest_132 (by decide) ?_
              refine e_iconst (pc := 133) dX7_digest_133 (by decide) ?_
              refine e_callV (pc := 134) (as := [(0, 1), (0, -1)]) (st := [(1, w64 (31 * (dg4 mem)))]) (q_climb G mem zm4 true 1 (-1) hI zf4 rfl) dX7_digest_134 lX7_digest_298 rfl s_0 cn_7 rfl rfl (fun r_ zm5 hq_ => ?_)
              obtain ⟨zr_, zf5⟩ := hq_
              subst zr_
              refine Ev.to (st' := [(0, an_climb mem true (-1)), (1, w64 (31 * (dg4 mem)))]) ?_ rfl rfl rfl
              refine e_i2l (pc := 137) dX7_digest_137 ?_
              refine e_ladd (pc := 138) dX7_digest_138 ?_
              rw [show w64 ((w64 (31 * (dg4 mem))) + (an_climb mem true (-1))) = dg5 mem from rfl]
              refine e_lstoren (pc := 139) (lo' := [(2, 0), (1, dg5 mem), (3, 0), (0, ((mem 1 0).toNat : Int))]) dX7_digest_139 rfl rfl (by decide) rfl ?_
              refine e_ldc2 (pc := 140) (z := 31) dX7_digest_140 kX7_278 (by decide) ?_
              refine e_lloadn (pc := 143) dX7_digest_143 rfl rfl ?_
              refine e_lmul (pc := 144) dX7_digest_144 ?_
              refine e_aloadn (pc := 145) dX7_digest_145 rfl rfl ?_
              refine e_iconst (pc := 146) dX7_digest_146 (by decide) ?_
              refine e_callV (pc := 147) (as := [(0, 1)]) (st := [(1, w64 (31 * (dg5 mem)))]) (q_week G mem zm5 1 hI zf5) dX7_digest_147 lX7_digest_302 rfl s_0 cn_7 rfl rfl (fun r_ zm6 hq_ => ?_)
              obtain ⟨zr_, zf6⟩ := hq_
              subst zr_
              refine Ev.to (st' := [(0, an_week mem 1), (1, w64 (31 * (dg5 mem)))]) ?_ rfl rfl rfl
              refine e_i2l (pc := 150) dX7_digest_150 ?_
              refine e_ladd (pc := 151) dX7_digest_151 ?_
              rw [show w64 ((w64 (31 * (dg5 mem))) + (an_week mem 1)) = dg6 mem from rfl]
              refine e_lstoren (pc := 152) (lo' := [(2, 0), (1, dg6 mem), (3, 0), (0, ((mem 1 0).toNat : Int))]) dX7_digest_152 rfl rfl (by decide) rfl ?_
              refine e_ldc2 (pc := 153) (z := 31) dX7_digest_153 kX7_278 (by decide) ?_
              refine e_lloadn (pc := 156) dX7_digest_156 rfl rfl ?_
              refine e_lmul (pc := 157) dX7_digest_157 ?_
              refine e_aloadn (pc := 158) dX7_digest_158 rfl rfl ?_
              refine e_iconst (pc := 159) dX7_digest_159 (by decide) ?_
              refine e_callV (pc := 160) (as := [(0, 2)]) (st := [(1, w64 (31 * (dg6 mem)))]) (q_week G mem zm6 2 hI zf6) dX7_digest_160 lX7_digest_302 rfl s_0 cn_7 rfl rfl (fun r_ zm7 hq_ => ?_)
              obtain ⟨zr_, zf7⟩ := hq_
              subst zr_
              refine Ev.to (st' := [(0, an_week mem 2), (1, w64 (31 * (dg6 mem)))]) ?_ rfl rfl rfl
              refine e_i2l (pc := 163) dX7_digest_163 ?_
              refine e_ladd (pc := 164) dX7_digest_164 ?_
              rw [show w64 ((w64 (31 * (dg6 mem))) + (an_week mem 2)) = dg7 mem from rfl]
              refine e_lstoren (pc := 165) (lo' := [(2, 0), (1, dg7 mem), (3, 0), (0, ((mem 1 0).toNat : Int))]) dX7_digest_165 rfl rfl (by decide) rfl ?_
              refine e_ldc2 (pc := 166) (z := 31) dX7_digest_166 kX7_278 (by decide) ?_
              refine e_lloadn (pc := 169) dX7_digest_169 rfl rfl ?_
              refine e_lmul (pc := 170) dX7_digest_170 ?_
              refine e_aloadn (pc := 171) dX7_digest_171 rfl rfl ?_
              refine e_iconst (pc := 172) dX7_digest_172 (by decide) ?_
              refine e_callV (pc := 173) (as := [(0, 0)]) (st := [(1, w64 (31 * (dg7 mem)))]) (q_keys G mem zm7 0 hI zf7) dX7_digest_173 lX7_digest_305 rfl s_0 cn_7 rfl rfl (fun r_ zm8 hq_ => ?_)
              obtain ⟨zr_, zf8⟩ := hq_
              subst zr_
              refine Ev.to (st' := [(0, an_keys mem 0), (1, w64 (31 * (dg7 mem)))]) ?_ rfl rfl rfl
              refine e_i2l (pc := 176) dX7_digest_176 ?_
              refine e_ladd (pc := 177) dX7_digest_177 ?_
              rw [show w64 ((w64 (31 * (dg7 mem))) + (an_keys mem 0)) = dg8 mem from rfl]
              refine e_lstoren (pc := 178) (lo' := [(2, 0), (1, dg8 mem), (3, 0), (0, ((mem 1 0).toNat : Int))]) dX7_digest_178 rfl rfl (by decide) rfl ?_
              refine e_ldc2 (pc := 179) (z := 31) dX7_digest_179 kX7_278 (by decide) ?_
              refine e_lloadn (pc := 182) dX7_digest_182 rfl rfl ?_
              refine e_lmul (pc := 183) dX7_digest_183 ?_
              refine e_aloadn (pc := 184) dX7_digest_184 rfl rfl ?_
              refine e_iconst (pc := 185) dX7_digest_185 (by decide) ?_
              refine e_callV (pc := 186) (as := [(0, 1)]) (st := [(1, w64 (31 * (dg8 mem)))]) (q_keys G mem zm8 1 hI zf8) dX7_digest_186 lX7_digest_305 rfl s_0 cn_7 rfl rfl (fun r_ zm9 hq_ => ?_)
              obtain ⟨zr_, zf9⟩ := hq_
              subst zr_
              refine Ev.to (st' := [(0, an_keys mem 1), (1, w64 (31 * (dg8 mem)))]) ?_ rfl rfl rfl
              refine e_i2l (pc := 189) dX7_digest_189 ?_
              refine e_ladd (pc := 190) dX7_digest_190 ?_
              rw [show w64 ((w64 (31 * (dg8 mem))) + (an_keys mem 1)) = dg9 mem from rfl]
              refine e_lstoren (pc := 191) (lo' := [(2, 0), (1, dg9 mem), (3, 0), (0, ((mem 1 0).toNat : Int))]) dX7_digest_191 rfl rfl (by decide) rfl ?_
              refine e_ldc2 (pc := 192) (z := 31) dX7_digest_192 kX7_278 (by decide) ?_
              refine e_lloadn (pc := 195) dX7_digest_195 rfl rfl ?_
              refine e_lmul (pc := 196) dX7_digest_196 ?_
              refine e_aloadn (pc := 197) dX7_digest_197 rfl rfl ?_
              refine e_bipush (pc := 198) dX7_digest_198 rfl (by decide) ?_
              refine e_iconst (pc := 200) dX7_digest_200 (by decide) ?_
              refine e_callV (pc := 201) (as := [(0, 30), (0, 0)]) (st := [(1, w64 (31 * (dg9 mem)))]) (q_odds G mem zm9 30 0 hI zf9) dX7_digest_201 lX7_digest_308 rfl s_0 cn_7 rfl rfl (fun r_ zm10 hq_ => ?_)
              obtain ⟨zr_, zf10⟩ := hq_
              subst zr_
              refine Ev.to (st' := [(1, an_odds mem 30 0), (1, w64 (31 * (dg9 mem)))]) ?_ rfl rfl rfl
              refine e_ladd (pc := 204) dX7_digest_204 ?_
              rw [show w64 ((w64 (31 * (dg9 mem))) + (an_odds mem 30 0)) = an_digest mem from rfl]
              exact e_lret (pc := 205) dX7_digest_205 rfl (by rw [← hQ_]; exact ⟨rfl, zf10⟩)
            · skip
              refine e_ldc2 (pc := 68) (z := 31) dX7_digest_68 kX7_278 (by decide) ?_
              refine e_lloadn (pc := 71) dX7_digest_71 rfl rfl ?_
              refine e_lmul (pc := 72) dX7_digest_72 ?_
              refine e_aloadn (pc := 73) dX7_digest_73 rfl rfl ?_
              refine e_iloadn (pc := 74) dX7_digest_74 rfl rfl ?_
              refine e_callV (pc := 75) (as := [(0, (k : Int))]) (st := [(1, w64 (31 * (dgN mem k)))]) (q_comes G mem zmw (k : Int) hI zg) dX7_digest_75 lX7_digest_289 rfl s_0 cn_7 rfl rfl (fun r_ zm11 hq_ => ?_)
              obtain ⟨zr_, zf11⟩ := hq_
              subst zr_
              refine Ev.to (st' := [(0, an_comes mem (k : Int)), (1, w64 (31 * (dgN mem k)))]) ?_ rfl rfl rfl
              refine e_i2l (pc := 78) dX7_digest_78 ?_
              refine e_ladd (pc := 79) dX7_digest_79 ?_
              rw [show w64 ((w64 (31 * (dgN mem k))) + (an_comes mem (k : Int))) = dgs (dgN mem k) (an_comes mem (k : Int)) from rfl]
              refine e_lstoren (pc := 80) (lo' := [(2, 0), (1, dgs (dgN mem k) (an_comes mem (k : Int))), (3, 0), (0, (k : Int))]) dX7_digest_80 rfl rfl (by decide) rfl ?_
              refine e_ldc2 (pc := 81) (z := 31) dX7_digest_81 kX7_278 (by decide) ?_
              refine e_lloadn (pc := 84) dX7_digest_84 rfl rfl ?_
              refine e_lmul (pc := 85) dX7_digest_85 ?_
              refine e_aloadn (pc := 86) dX7_digest_86 rfl rfl ?_
              refine e_iloadn (pc := 87) dX7_digest_87 rfl rfl ?_
              refine e_callV (pc := 88) (as := [(0, (k : Int))]) (st := [(1, w64 (31 * (dgs (dgN mem k) (an_comes mem (k : Int)))))]) (q_pays G mem zm11 (k : Int) hI zf11) dX7_digest_88 lX7_digest_292 rfl s_0 cn_7 rfl rfl (fun r_ zm12 hq_ => ?_)
              obtain ⟨zr_, zf12⟩ := hq_
              subst zr_
              refine Ev.to (st' := [(0, an_pays mem (k : Int)), (1, w64 (31 * (dgs (dgN mem k) (an_comes mem (k : Int)))))]) ?_ rfl rfl rfl
              refine e_i2l (pc := 91) dX7_digest_91 ?_
              refine e_ladd (pc := 92) dX7_digest_92 ?_
              rw [show w64 ((w64 (31 * (dgs (dgN mem k) (an_comes mem (k : Int))))) + (an_pays mem (k : Int))) = dgN mem (k + 1) from rfl]
              refine e_lstoren (pc := 93) (lo' := [(2, 0), (1, dgN mem (k + 1)), (3, 0), (0, (k : Int))]) dX7_digest_93 rfl rfl (by decide) rfl ?_
              refine e_iinc (pc := 94) (lo' := [(2, 0), (1, dgN mem (k + 1)), (3, 0), (0, (k : Int) + 1)]) dX7_digest_94 rfl (by omega) rfl (by decide) rfl ?_
              refine e_goto (pc := 97) (tgt := 57) dX7_digest_97 rfl ?_
              exact Ev.to (ih57 _ (by omega) (k + 1) zm12 (rfl) (by omega) (zf12)) rfl rfl rfl
        exact Ev.to (L57 _ 0 zm2 (rfl) (by omega) (zf2)) rfl rfl rfl
      · skip
        refine e_ldc2 (pc := 12) (z := 31) dX7_digest_12 kX7_278 (by decide) ?_
        refine e_lloadn (pc := 15) dX7_digest_15 rfl rfl ?_
        refine e_lmul (pc := 16) dX7_digest_16 ?_
        refine e_aloadn (pc := 17) dX7_digest_17 rfl rfl ?_
        refine e_iloadn (pc := 18) dX7_digest_18 rfl rfl ?_
        refine e_callV (pc := 19) (as := [(0, (k : Int))]) (st := [(1, w64 (31 * (dgC mem k)))]) (q_count G mem zmv (k : Int) hI zf) dX7_digest_19 lX7_digest_280 rfl s_0 cn_7 rfl rfl (fun r_ zm13 hq_ => ?_)
        obtain ⟨zr_, zf13⟩ := hq_
        subst zr_
        refine Ev.to (st' := [(0, an_count mem (k : Int)), (1, w64 (31 * (dgC mem k)))]) ?_ rfl rfl rfl
        refine e_i2l (pc := 22) dX7_digest_22 ?_
        refine e_ladd (pc := 23) dX7_digest_23 ?_
        rw [show w64 ((w64 (31 * (dgC mem k))) + (an_count mem (k : Int))) = dgs (dgC mem k) (an_count mem (k : Int)) from rfl]
        refine e_lstoren (pc := 24) (lo' := [(2, 0), (1, dgs (dgC mem k) (an_count mem (k : Int))), (3, 0), (0, (k : Int))]) dX7_digest_24 rfl rfl (by decide) rfl ?_
        refine e_iinc (pc := 25) (lo' := [(2, 0), (1, dgs (dgC mem k) (an_count mem (k : Int))), (3, 0), (0, (k : Int) + 1)]) dX7_digest_25 rfl (by omega) rfl (by decide) rfl ?_
        refine e_goto (pc := 28) (tgt := 6) dX7_digest_28 rfl ?_
        exact Ev.to (ih6 _ (by omega) (k + 1) zm13 (rfl) (by omega) (zf13)) rfl rfl rfl
  exact Ev.to (L6 _ 0 mem (rfl) (by omega) (Fr.rf)) rfl rfl rfl

def wrM (A : Mem) (s : Nat) : Nat := (if 61 < A 48 s then 61 else A 48 s).toNat
theorem wrM_is {A : Mem} {s : Nat} (hS : ShOk A) (hs : s < 4) : (if 61 < A 48 s then 61 else A 48 s) = ((wrM A s : Nat) : Int) ∧ wrM A s ≤ 61 := by
  have := (hS s hs).2
  unfold wrM
  split <;> omega
def an_write (A : Mem) (s : Int) : Int := if 0 ≤ s ∧ s < 4 then (if A 47 s.toNat = -1 then -11 else ((wrM A s.toNat : Nat) : Int)) else -2
noncomputable def nx_write (A : Mem) (s : Int) : Mem := if 0 ≤ s ∧ s < 4 then (if A 47 s.toNat = -1 then mset A 41 3 1 else rset A (43 + s.toNat) (mix (wkS A) (A (43 + s.toNat)) (wrM A s.toNat))) else A
theorem Fr.rs2 {S : Nat → Nat → Bool} {A B : Mem} (h : Fr S A B) (c : Nat) (f : Nat → Int) : Fr S (rset A c f) (rset B c f) := by
  intro c' j q
  by_cases e : c' = c
  · subst e; rw [rset_eq, rset_eq]
  · rw [rset_ne _ _ _ e, rset_ne _ _ _ e]; exact h c' j q

theorem c_write (G : Gm) (mem : Mem) (s : Int) (hI : CI mem) : Con G mX7_write [(2, 0), (0, s)] mem (fun r m' => r = some (0, an_write mem s) ∧ Fr scQ (nx_write mem s) m') := by
  refine Con.of (lo := [(2, 0), (0, s), (3, 0), (3, 0)]) (by decide +kernel) (Nat.le_of_ble_eq_true rfl) rfl ?_
  generalize hQ_ : (fun r m' => r = some (0, an_write mem s) ∧ Fr scQ (nx_write mem s) m' : Option AV → Mem → Prop) = Q_
  refine e_iloadn (pc := 0) dX7_write_0 rfl rfl ?_
  refine e_callSr (pc := 1) (as := [(0, s)]) (st := []) (v := (0, if 0 ≤ s ∧ s < 4 then 1 else 0)) (t_isSheet G mem s) dX7_write_1 lX7_write_95 rfl rfl rfl ?_
  by_cases zc : 0 ≤ s ∧ s < 4
  · rw [if_pos zc]
    obtain ⟨sn, rfl⟩ : ∃ sn : Nat, s = (sn : Int) := ⟨s.toNat, by omega⟩
    have zs : sn < 4 := by omega
    refine e_if_ne (pc := 4) (tgt := 10) dX7_write_4 rfl (fun h4 => ?_) (fun h4 => ?_)
    · skip
      refine e_aloadn (pc := 10) dX7_write_10 rfl rfl ?_
      refine e_getr (pc := 11) (k := 41) dX7_write_11 fX7_63 s_0 rfl (by decide) ?_
      refine e_iloadn (pc := 14) dX7_write_14 rfl rfl ?_
      refine e_callVr (pc := 15) (as := [(0, (sn : Int))]) (st := []) (v := (0, if mem 47 sn = -1 then 1 else 0)) (t_isGone G mem sn zs) dX7_write_15 lX7_write_98 rfl s_41 cn_5 rfl rfl ?_
      by_cases zd : mem 47 sn = -1
      · rw [if_pos zd]
        refine e_if_eq (pc := 18) (tgt := 30) dX7_write_18 rfl (fun h18 => ?_) (fun h18 => ?_)
        · skip
          exact absurd h18 (by decide)
        · skip
          refine e_aloadn (pc := 21) dX7_write_21 rfl rfl ?_
          refine e_getr (pc := 22) (k := 41) dX7_write_22 fX7_63 s_0 rfl (by decide) ?_
          refine e_iconst (pc := 25) dX7_write_25 (by decide) ?_
          refine e_callVr (pc := 26) (as := [(0, 1)]) (st := []) (t_finds G mem 1 (by decide)) dX7_write_26 lX7_write_101 rfl s_41 cn_5 rfl rfl ?_
          have zan : an_write mem (sn : Int) = -10 - 1 := by unfold an_write; (rw [if_pos zc, if_pos (show mem 47 (sn : Int).toNat = -1 from zd)]) <;> rfl
          have znx : Fr scQ (nx_write mem (sn : Int)) (mset mem 41 3 1) := by unfold nx_write; rw [if_pos zc, if_pos (show mem 47 (sn : Int).toNat = -1 from zd)]; exact Fr.rf
          exact e_iret (pc := 29) dX7_write_29 rfl (by rw [← hQ_]; exact ⟨by rw [zan], znx⟩)
      · rw [if_neg zd]
        refine e_if_eq (pc := 18) (tgt := 30) dX7_write_18 rfl (fun h18 => ?_) (fun h18 => ?_)
        · skip
          refine e_aloadn (pc := 30) dX7_write_30 rfl rfl ?_
          refine e_getr (pc := 31) (k := 41) dX7_write_31 fX7_63 s_0 rfl (by decide) ?_
          refine e_getr (pc := 34) (k := 48) dX7_write_34 fX7_105 s_41 rfl (by decide) ?_
          refine e_iloadn (pc := 37) dX7_write_37 rfl rfl ?_
          refine e_ialdv (pc := 38) (v := mem 48 sn) dX7_write_38 s_48 (by omega) rfl ?_
          refine e_bipush (pc := 39) dX7_write_39 rfl (by decide) ?_
          refine e_min (pc := 41) dX7_write_41 lX7_min264 (by decide) rfl ?_
          rw [show (if 61 < mem 48 sn then 61 else mem 48 sn) = ((wrM mem sn : Nat) : Int) from (wrM_is hI.2.2.2.2.2 zs).1]
          refine e_istoren (pc := 44) (lo' := [(2, 0), (0, (sn : Int)), (0, ((wrM mem sn : Nat) : Int)), (3, 0)]) dX7_write_44 rfl rfl (by decide) rfl ?_
          refine e_aloadn (pc := 45) dX7_write_45 rfl rfl ?_
          refine e_getr (pc := 46) (k := 25) dX7_write_46 fX7_32 s_0 rfl (by decide) ?_
          refine e_aloadn (pc := 49) dX7_write_49 rfl rfl ?_
          refine e_getr (pc := 50) (k := 16) dX7_write_50 fX7_28 s_0 rfl (by decide) ?_
          refine e_callV (pc := 53) (as := [(2, 16)]) (st := []) (t_becomes G mem) dX7_write_53 lX7_write_163 rfl s_25 cn_1 rfl rfl (fun r_ zm1 hq_ => ?_)
          obtain ⟨zr_, zB⟩ := hq_
          subst zr_
          have zM := (wrM_is hI.2.2.2.2.2 zs).2
          refine Ev.to (st' := []) ?_ rfl rfl rfl
          refine e_aloadn (pc := 56) dX7_write_56 rfl rfl ?_
          refine e_getr (pc := 57) (k := 37) dX7_write_57 fX7_47 s_0 rfl (by decide) ?_
          refine e_iloadn (pc := 60) dX7_write_60 rfl rfl ?_
          refine e_iconst (pc := 61) dX7_write_61 (by decide) ?_
          refine e_isubn (pc := 62) dX7_write_62 (by omega) ?_
          refine e_callV (pc := 63) (as := [(0, ((wrM mem sn : Nat) : Int) - 1)]) (st := []) (t_runB G mem zm1 (wrM mem sn) zM _ rfl hI zB) dX7_write_63 lX7_write_191 rfl s_37 cn_6 rfl rfl (fun r_ zm2 hq_ => ?_)
          obtain ⟨zr_, zf, zw, zrd⟩ := hq_
          subst zr_
          clear zrd
          have zrow : zm2 (43 + sn) = mem (43 + sn) := rQ zf _ (by omega) (by omega)
          refine Ev.to (st' := []) ?_ rfl rfl rfl
          refine e_iconst (pc := 66) dX7_write_66 (by decide) ?_
          refine e_istoren (pc := 67) (lo' := [(2, 0), (0, (sn : Int)), (0, ((wrM mem sn : Nat) : Int)), (0, 0)]) dX7_write_67 rfl rfl (by decide) rfl ?_
          have L68 : ∀ (n_ : Nat) (k : Nat), 61 - k = n_ → (k ≤ wrM mem sn) → Ev G mX7_write Q_ 68 [(2, 0), (0, (sn : Int)), (0, ((wrM mem sn : Nat) : Int)), (0, (k : Int))] [] (rset zm2 (43 + sn) (mix (wkS mem) (mem (43 + sn)) k)) := by
            intro n_
            induction n_ using Nat.strongRecOn with
            | ind n_ ih68 =>
              intro k hn_ zk
              refine e_iloadn (pc := 68) dX7_write_68 rfl rfl ?_
              refine e_iloadn (pc := 69) dX7_write_69 rfl rfl ?_
              refine e_icmp_ge (pc := 70) (tgt := 99) dX7_write_70 rfl (fun h70 => ?_) (fun h70 => ?_)
              · skip
                refine e_iloadn (pc := 99) dX7_write_99 rfl rfl ?_
                have zke : k = wrM mem sn := by omega
                subst zke
                have zan : an_write mem (sn : Int) = ((wrM mem sn : Nat) : Int) := by unfold an_write; rw [if_pos zc, if_neg (show ¬ mem 47 (sn : Int).toNat = -1 from zd)]; rfl
                have znx : Fr scQ (nx_write mem (sn : Int)) (rset zm2 (43 + sn) (mix (wkS mem) (mem (43 + sn)) (wrM mem sn))) := by unfold nx_write; rw [if_pos zc, if_neg (show ¬ mem 47 (sn : Int).toNat = -1 from zd)]; exact zf.rs2 _ _
                exact e_iret (pc := 100) dX7_write_100 rfl (by rw [← hQ_]; exact ⟨by rw [zan], znx⟩)
              · skip
                refine e_aloadn (pc := 73) dX7_write_73 rfl rfl ?_
                refine e_getr (pc := 74) (k := 41) dX7_write_74 fX7_63 s_0 rfl (by decide) ?_
                refine e_getr (pc := 77) (k := 42) dX7_write_77 fX7_108 s_41 rfl (by decide) ?_
                refine e_iloadn (pc := 80) dX7_write_80 rfl rfl ?_
                refine e_aald (pc := 81) dX7_write_81 s_42 (by omega) ?_
                refine Ev.to (st' := [(2, ((43 + sn : Nat) : Int))]) ?_ rfl rfl rfl
                refine e_iloadn (pc := 82) dX7_write_82 rfl rfl ?_
                refine e_aloadn (pc := 83) dX7_write_83 rfl rfl ?_
                refine e_getr (pc := 84) (k := 37) dX7_write_84 fX7_47 s_0 rfl (by decide) ?_
                refine e_getr (pc := 87) (k := 38) dX7_write_87 fX7_194 s_37 rfl (by decide) ?_
                refine e_iloadn (pc := 90) dX7_write_90 rfl rfl ?_
                refine e_ialdv (pc := 91) (v := (wkS mem k)) dX7_write_91 s_38 (by omega) (by rw [rset_ne _ _ _ (show (38 : Nat) ≠ 43 + sn by omega)]; exact zw k (by omega)) ?_
                refine e_iastm (pc := 92) (c := (43 + sn)) (mem2 := rset zm2 (43 + sn) (mix (wkS mem) (mem (43 + sn)) (k + 1))) dX7_write_92 (shI zs) (by omega) (by rw [← mix_s]; exact mset_rset _ _ _ _ _) ?_
                refine e_iinc (pc := 93) (lo' := [(2, 0), (0, (sn : Int)), (0, ((wrM mem sn : Nat) : Int)), (0, (k : Int) + 1)]) dX7_write_93 rfl (by omega) rfl (by decide) rfl ?_
                refine e_goto (pc := 96) (tgt := 68) dX7_write_96 rfl ?_
                exact Ev.to (ih68 _ (by omega) (k + 1) (rfl) (by omega)) rfl rfl rfl
          exact Ev.to (L68 _ 0 (rfl) (by omega)) rfl rfl (by rw [mix_0, ← zrow, rset_self])
        · skip
          exact absurd h18 (by decide)
    · skip
      exact absurd h4 (by decide)
  · rw [if_neg zc]
    refine e_if_ne (pc := 4) (tgt := 10) dX7_write_4 rfl (fun h4 => ?_) (fun h4 => ?_)
    · skip
      exact absurd h4 (by decide)
    · skip
      refine e_bipush (pc := 7) dX7_write_7 rfl (by decide) ?_
      have zan : an_write mem s = -2 := by unfold an_write; rw [if_neg zc]
      have znx : Fr scQ (nx_write mem s) (mem) := by unfold nx_write; rw [if_neg zc]; exact Fr.rf
      exact e_iret (pc := 9) dX7_write_9 rfl (by rw [← hQ_]; exact ⟨by rw [zan], znx⟩)
