theorem MI.sh {A B zm zn : Mem} (h : MI A zm) (eB : ∀ c, c < 20 → B c = A c) (e1 : ∀ j, j < 49 → zn 49 j = zm 49 j) (e2 : ∀ c, 50 ≤ c → c ≤ 61 → zn c = zm c) (h4 : MPs B zn) : MI B zn := by
  obtain ⟨a1, a2, a3, _, a5⟩ := h
  refine ⟨?_, ?_, ?_, h4, ?_⟩
  · unfold MPc; rw [e1 0 (by omega), e2 50 (by omega) (by omega), e2 51 (by omega) (by omega), e2 52 (by omega) (by omega), e2 53 (by omega) (by omega), e2 54 (by omega) (by omega), e2 55 (by omega) (by omega), e2 56 (by omega) (by omega), e2 57 (by omega) (by omega), eB 1 (by omega), eB 2 (by omega), eB 3 (by omega), eB 5 (by omega), eB 6 (by omega), eB 7 (by omega), eB 8 (by omega), eB 9 (by omega), eB 18 (by omega), eB 19 (by omega)]; exact a1
  · unfold MPt; rw [e1 9 (by omega), e1 10 (by omega), e1 11 (by omega), eB 17 (by omega)]; exact a2
  · unfold MPx; rw [e1 12 (by omega), e2 58 (by omega) (by omega), eB 10 (by omega), eB 11 (by omega)]; exact a3
  · unfold MD Prsd; rw [e1 14 (by omega), e1 16 (by omega), e1 17 (by omega), e2 59 (by omega) (by omega), e2 60 (by omega) (by omega), e2 61 (by omega) (by omega), eB 10 (by omega), eB 11 (by omega)]; exact a5
def zrI (f : Nat → Int) (s k : Nat) : Nat → Int := fun j => if 64 * s ≤ j ∧ j < 64 * s + k then 0 else f j
theorem zrI_0 (f : Nat → Int) (s : Nat) : zrI f s 0 = f := by funext j; unfold zrI; rw [if_neg (by omega)]
theorem zrI_s (f : Nat → Int) (s k : Nat) : uset (zrI f s k) (64 * s + k) 0 = zrI f s (k + 1) := by
  funext j
  unfold uset zrI
  by_cases e : j = 64 * s + k
  · rw [if_pos e, if_pos (by omega)]
  · rw [if_neg e]
    by_cases q : 64 * s ≤ j ∧ j < 64 * s + k
    · rw [if_pos q, if_pos (by omega)]
    · rw [if_neg q, if_neg (by omega)]
section MSH
variable {A zm : Mem} {s : Nat}
theorem rsI (A : Mem) (f : Nat → Int) (s s' : Nat) : rset A (43 + s) f (43 + s') = if s' = s then f else A (43 + s') := by
  by_cases e : s' = s
  · subst e; rw [if_pos rfl, rset_eq]
  · rw [if_neg e, rset_ne _ _ _ (by omega)]
theorem MI.sheet (h : MI A zm) (hs : s < 4) {f n : Int} (hf : f ≠ -1) : MI (rset (mset (mset A 47 s f) 48 s n) (43 + s) (zr64 (A (43 + s)) 64)) (rset (mset (mset (mset zm 73 s 1) 74 s f) 75 s n) 76 (zrI (zm 76) s 64)) := by
  refine h.sh (fun c hc => by rw [rset_ne _ _ _ (by omega), mset_nc _ _ _ _ (by omega), mset_nc _ _ _ _ (by omega)]) (fun j hj => rfl) (fun c h1 h2 => by rw [rset_ne _ _ _ (by omega), mset_nc _ _ _ _ (by omega), mset_nc _ _ _ _ (by omega), mset_nc _ _ _ _ (by omega)]) ?_
  obtain ⟨g1, g2⟩ := h.2.2.2.1
  unfold MPs
  rw [rset_ne _ _ _ (show (41 : Nat) ≠ 43 + s by omega), rset_ne _ _ _ (show (47 : Nat) ≠ 43 + s by omega), rset_ne _ _ _ (show (48 : Nat) ≠ 43 + s by omega)]
  refine ⟨g1, fun s' hs' => ?_⟩
  show uset (zm 73) s 1 s' = (if uset (A 47) s f s' = -1 then 0 else 1) ∧ (uset (A 47) s f s' ≠ -1 → uset (zm 74) s f s' = uset (A 47) s f s' ∧ uset (zm 75) s n s' = uset (A 48) s n s') ∧ ∀ i, i < 64 → zrI (zm 76) s 64 (64 * s' + i) = _
  rw [rsI]
  obtain ⟨k1, k2, k3⟩ := g2 s' hs'
  by_cases e : s' = s
  · subst e
    rw [uset_eq, uset_eq, uset_eq, uset_eq, uset_eq, if_neg hf, if_pos rfl]
    refine ⟨rfl, fun _ => ⟨rfl, rfl⟩, fun i hi => ?_⟩
    unfold zrI zr64
    rw [if_pos (by omega), if_pos hi]
  · rw [uset_ne _ _ e, uset_ne _ _ e, uset_ne _ _ e, uset_ne _ _ e, uset_ne _ _ e, if_neg e]
    refine ⟨k1, k2, fun i hi => ?_⟩
    unfold zrI
    rw [if_neg (by omega), mset_nc _ _ _ _ (by omega), mset_nc _ _ _ _ (by omega)]
    exact k3 i hi
theorem MI.lose (h : MI A zm) (hs : s < 4) : MI (mset (mset A 47 s (-1)) 48 s 0) (mset zm 73 s 0) := by
  refine h.sh (fun c hc => by rw [mset_nc _ _ _ _ (by omega), mset_nc _ _ _ _ (by omega)]) (fun j hj => rfl) (fun c h1 h2 => by rw [mset_nc _ _ _ _ (by omega)]) ?_
  obtain ⟨g1, g2⟩ := h.2.2.2.1
  refine ⟨g1, fun s' hs' => ?_⟩
  show uset (zm 73) s 0 s' = (if uset (A 47) s (-1) s' = -1 then 0 else 1) ∧ (uset (A 47) s (-1) s' ≠ -1 → zm 74 s' = uset (A 47) s (-1) s' ∧ zm 75 s' = uset (A 48) s 0 s') ∧ ∀ i, i < 64 → zm 76 (64 * s' + i) = _
  rw [mset_nc _ _ _ _ (show 43 + s' ≠ 48 by omega), mset_nc _ _ _ _ (show 43 + s' ≠ 47 by omega)]
  obtain ⟨k1, k2, k3⟩ := g2 s' hs'
  by_cases e : s' = s
  · subst e
    rw [uset_eq, uset_eq, if_pos rfl]
    exact ⟨rfl, fun q => absurd rfl q, k3⟩
  · rw [uset_ne _ _ e, uset_ne _ _ e, uset_ne _ _ e]
    exact ⟨k1, k2, k3⟩
theorem MI.items (h : MI A zm) {f g : Nat → Int} (hs : s < 4) (hg : ∀ s', s' < 4 → ∀ i, i < 64 → g (64 * s' + i) = if s' = s then f i else zm 76 (64 * s' + i)) : MI (rset A (43 + s) f) (rset zm 76 g) := by
  refine h.sh (fun c hc => by rw [rset_ne _ _ _ (by omega)]) (fun j hj => rfl) (fun c h1 h2 => by rw [rset_ne _ _ _ (by omega)]) ?_
  obtain ⟨g1, g2⟩ := h.2.2.2.1
  unfold MPs
  rw [rset_ne _ _ _ (show (41 : Nat) ≠ 43 + s by omega), rset_ne _ _ _ (show (47 : Nat) ≠ 43 + s by omega), rset_ne _ _ _ (show (48 : Nat) ≠ 43 + s by omega)]
  refine ⟨g1, fun s' hs' => ?_⟩
  obtain ⟨k1, k2, k3⟩ := g2 s' hs'
  refine ⟨k1, k2, fun i hi => ?_⟩
  show g (64 * s' + i) = _
  rw [hg s' hs' i hi, rsI]
  by_cases e : s' = s
  · rw [if_pos e, if_pos e]
  · rw [if_neg e, if_neg e]; exact k3 i hi
theorem MI.put (h : MI A zm) (hs : s < 4) {i : Nat} (hi : i < 64) (v : Int) : MI (mset A (43 + s) i v) (mset zm 76 (64 * s + i) v) := by
  refine h.items (f := uset (A (43 + s)) i v) (g := uset (zm 76) (64 * s + i) v) hs (fun s' hs' j hj => ?_)
  by_cases e : s' = s
  · subst e
    rw [if_pos rfl]
    unfold uset
    by_cases q : j = i
    · rw [if_pos (by omega), if_pos q]
    · rw [if_neg (by omega), if_neg q]; exact (h.2.2.2.1.2 s' hs).2.2 j hj
  · rw [if_neg e, uset_ne _ _ (by omega)]
theorem cpy_0 (f g : Nat → Int) (sp d : Nat) : cpy f g sp d 0 = g := by funext j; unfold cpy; rw [if_neg (by omega)]
theorem cpy_s (f g : Nat → Int) (d k : Nat) : uset (cpy f g 0 d k) (d + k) (f k) = cpy f g 0 d (k + 1) := by
  funext j
  unfold uset cpy
  by_cases e : j = d + k
  · rw [if_pos e, if_pos (by omega), e]; congr 1; omega
  · rw [if_neg e]
    by_cases q : d ≤ j ∧ j < d + k
    · rw [if_pos q, if_pos (by omega)]
    · rw [if_neg q, if_neg (by omega)]
theorem MI.copy (h : MI A zm) {t i j n : Nat} (hs : s < 4) (ht : t < 4) (h1 : i + n ≤ 64) (h2 : j + n ≤ 64) : MI (rset A (43 + t) (cpy (A (43 + s)) (A (43 + t)) i j n)) (rset (rset zm 77 (mix (fun x => zm 76 (64 * s + i + x)) (zm 77) n)) 76 (cpy (mix (fun x => zm 76 (64 * s + i + x)) (zm 77) n) (zm 76) 0 (64 * t + j) n)) := by
  have hv : MI A (rset zm 77 (mix (fun x => zm 76 (64 * s + i + x)) (zm 77) n)) := h.v ((Fr.rf (S := scV)).rs (fun _ => rfl))
  refine hv.items ht (fun t' ht' x hx => ?_)
  show cpy _ _ 0 (64 * t + j) n (64 * t' + x) = if t' = t then _ else zm 76 (64 * t' + x)
  have k1 := (h.2.2.2.1.2 s hs).2.2
  have k2 := (h.2.2.2.1.2 t' ht').2.2
  unfold cpy
  by_cases e : t' = t
  · subst e
    rw [if_pos rfl]
    by_cases q : j ≤ x ∧ x < j + n
    · rw [if_pos (by omega), if_pos q]
      unfold mix
      rw [if_pos (by omega)]
      show zm 76 (64 * s + i + (0 + (64 * t' + x - (64 * t' + j)))) = _
      rw [show 64 * s + i + (0 + (64 * t' + x - (64 * t' + j))) = 64 * s + (i + (x - j)) by omega]
      exact k1 _ (by omega)
    · rw [if_neg (by omega), if_neg q]; exact k2 x hx
  · rw [if_neg e, if_neg (by omega)]
theorem rdA_am {kd it : Nat → Int} {sz : Int} {am am' : Nat → Int} : ∀ k : Nat, ((rdA kd it sz am k).1 = (rdA kd it sz am' k).1 ∧ (rdA kd it sz am k).2.1 = (rdA kd it sz am' k).2.1) ∧ (∀ c, kd c ≠ 0 → (rdA kd it sz am k).2.2 c = am c) ∧ ∀ c, am c = am' c → (rdA kd it sz am k).2.2 c = (rdA kd it sz am' k).2.2 c
  | 0 => ⟨⟨rfl, rfl⟩, fun _ _ => rfl, fun _ h => h⟩
  | k + 1 => by
    obtain ⟨⟨h1, h2⟩, h3, h4⟩ := rdA_am (kd := kd) (it := it) (sz := sz) (am := am) (am' := am') k
    rw [rdA_s, rdA_s, ← h1, ← h2]
    by_cases q : (rdA kd it sz am k).1 = true ∧ kd k = 0
    · rw [if_pos q, if_pos q]
      by_cases z : sz ≤ ((rdA kd it sz am k).2.1 : Int) ∨ ¬ (0 ≤ it (rdA kd it sz am k).2.1 ∧ it (rdA kd it sz am k).2.1 ≤ 60)
      · rw [if_pos z, if_pos z]; exact ⟨⟨rfl, h2⟩, h3, h4⟩
      · rw [if_neg z, if_neg z]
        refine ⟨⟨rfl, rfl⟩, fun c hc => ?_, fun c hc => us_eq (h4 c hc)⟩
        show uset _ k _ c = _
        rw [uset_ne _ _ (fun e => hc (by rw [e]; exact q.2))]
        exact h3 c hc
    · rw [if_neg q, if_neg q]; exact ⟨⟨h1, h2⟩, h3, h4⟩
theorem MI.read (h : MI A zm) {f g : Nat → Int} (h1 : ∀ c, c < 8 → A 18 c = 0 → g c = f c) (h2 : ∀ c, c < 8 → A 18 c = 2 → g c = zm 51 c) : MI (rset A 19 f) (rset zm 51 g) := by
  refine ⟨⟨h.1.1, fun d hd hn => ?_⟩, h.2.1, h.2.2.1, h.2.2.2.1.mv h.2.2.2.1.1 (fun c h1 h2 => rset_ne _ _ _ (by omega)) rfl rfl rfl rfl, h.2.2.2.2⟩
  obtain ⟨⟨a1, a2, a3⟩, a4⟩ := h.1.2 d hd hn
  refine ⟨⟨a1, fun q => h1 d hd q, fun q => ?_⟩, a4⟩
  show g d = A 2 d ∧ zm 52 d = A 3 d
  rw [h2 d hd q]
  exact a3 q
end MSH

theorem m_sheet (G : Gm) (A mem : Mem) (s f n : Int) (hM : MI A mem) : Con G mX8_sheet [(2, 49), (0, s), (0, f), (0, n)] mem (fun r m' => r = some (0, an_sheet A s f n) ∧ MI (nx_sheet A s f n) m' ∧ Fr scZ mem m') := by
  refine Con.of (lo := [(2, 49), (0, s), (0, f), (0, n), (3, 0)]) (by decide +kernel) (Nat.le_of_ble_eq_true rfl) rfl ?_
  generalize hQ_ : (fun r m' => r = some (0, an_sheet A s f n) ∧ MI (nx_sheet A s f n) m' ∧ Fr scZ mem m' : Option AV → Mem → Prop) = Q_
  refine e_iloadn (pc := 0) dX8_sheet_0 rfl rfl ?_
  refine e_callSr (pc := 1) (as := [(0, s)]) (st := []) (v := (0, if 0 ≤ s ∧ s < 4 then 1 else 0)) (m_isSheet G mem s) dX8_sheet_1 lX8_sheet_110 rfl rfl rfl ?_
  by_cases zcs : 0 ≤ s ∧ s < 4
  · rw [if_pos zcs]
    obtain ⟨sn, rfl⟩ : ∃ sn : Nat, s = (sn : Int) := ⟨s.toNat, by omega⟩
    have hs : sn < 4 := by omega
    refine e_if_eq (pc := 4) (tgt := 22) dX8_sheet_4 rfl (fun h4 => ?_) (fun h4 => ?_)
    · skip
      exact absurd h4 (by decide)
    · skip
      refine e_iloadn (pc := 7) dX8_sheet_7 rfl rfl ?_
      refine e_iconst (pc := 8) dX8_sheet_8 (by decide) ?_
      refine e_iconst (pc := 9) dX8_sheet_9 (by decide) ?_
      refine e_callSr (pc := 10) (as := [(0, f), (0, 0), (0, 2)]) (st := []) (v := (0, if 0 ≤ f ∧ f ≤ 2 then 1 else 0)) (m_in G (mem) f 0 2) dX8_sheet_10 lX8_sheet_95 rfl rfl rfl ?_
      by_cases zc10 : 0 ≤ f ∧ f ≤ 2
      · rw [if_pos zc10]
        refine e_if_eq (pc := 13) (tgt := 22) dX8_sheet_13 rfl (fun h13 => ?_) (fun h13 => ?_)
        · skip
          exact absurd h13 (by decide)
        · skip
          refine e_iloadn (pc := 16) dX8_sheet_16 rfl rfl ?_
          refine e_bipush (pc := 17) dX8_sheet_17 rfl (by decide) ?_
          refine e_icmp_le (pc := 19) (tgt := 25) dX8_sheet_19 rfl (fun h19 => ?_) (fun h19 => ?_)
          · skip
            refine e_iloadn (pc := 25) dX8_sheet_25 rfl rfl ?_
            refine e_if_ge (pc := 26) (tgt := 35) dX8_sheet_26 rfl (fun h26 => ?_) (fun h26 => ?_)
            · skip
              refine e_aloadn (pc := 35) dX8_sheet_35 rfl rfl ?_
              refine e_getr (pc := 36) (k := 73) dX8_sheet_36 fX8_80 s_49 rfl (by decide) ?_
              refine e_iloadn (pc := 39) dX8_sheet_39 rfl rfl ?_
              refine e_iconst (pc := 40) dX8_sheet_40 (by decide) ?_
              refine e_zastm (pc := 41) (mem2 := mset mem 73 sn 1) dX8_sheet_41 s_73 (by omega) (by decide) rfl ?_
              refine e_aloadn (pc := 42) dX8_sheet_42 rfl rfl ?_
              refine e_getr (pc := 43) (k := 74) dX8_sheet_43 fX8_83 s_49 rfl (by decide) ?_
              refine e_iloadn (pc := 46) dX8_sheet_46 rfl rfl ?_
              refine e_iloadn (pc := 47) dX8_sheet_47 rfl rfl ?_
              refine e_iastm (pc := 48) (mem2 := mset (mset mem 73 sn 1) 74 sn f) dX8_sheet_48 s_74 (by omega) rfl ?_
              refine e_aloadn (pc := 49) dX8_sheet_49 rfl rfl ?_
              refine e_getr (pc := 50) (k := 75) dX8_sheet_50 fX8_86 s_49 rfl (by decide) ?_
              refine e_iloadn (pc := 53) dX8_sheet_53 rfl rfl ?_
              refine e_iloadn (pc := 54) dX8_sheet_54 rfl rfl ?_
              refine e_iastm (pc := 55) (mem2 := mset (mset (mset mem 73 sn 1) 74 sn f) 75 sn n) dX8_sheet_55 s_75 (by omega) rfl ?_
              refine e_iconst (pc := 56) dX8_sheet_56 (by decide) ?_
              refine e_istore (pc := 57) (lo' := [(2, 49), (0, (sn : Int)), (0, f), (0, n), (0, 0)]) dX8_sheet_57 rfl (by decide) rfl ?_
              have L59 : ∀ (n_ : Nat) (k : Nat), 64 - k = n_ → (k ≤ 64) → Ev G mX8_sheet Q_ 59 [(2, 49), (0, (sn : Int)), (0, f), (0, n), (0, (k : Int))] [] (rset (mset (mset (mset mem 73 sn 1) 74 sn f) 75 sn n) 76 (zrI (mem 76) sn k)) := by
                intro n_
                induction n_ using Nat.strongRecOn with
                | ind n_ ih59 =>
                  intro k hn_ zk
                  refine e_iload (pc := 59) dX8_sheet_59 rfl ?_
                  refine e_bipush (pc := 61) dX8_sheet_61 rfl (by decide) ?_
                  refine e_icmp_ge (pc := 63) (tgt := 85) dX8_sheet_63 rfl (fun h63 => ?_) (fun h63 => ?_)
                  · skip
                    refine e_iloadn (pc := 85) dX8_sheet_85 rfl rfl ?_
                    have zke : k = 64 := by omega
                    subst zke
                    have zan : an_sheet A (sn : Int) f n = n := by unfold an_sheet; rw [if_pos (by omega), if_neg (by omega)]
                    have zmi : MI (nx_sheet A (sn : Int) f n) (rset (mset (mset (mset mem 73 sn 1) 74 sn f) 75 sn n) 76 (zrI (mem 76) sn 64)) := by unfold nx_sheet; rw [if_pos (by omega), if_neg (by omega)]; exact hM.sheet hs (by omega)
                    exact e_iret (pc := 86) dX8_sheet_86 rfl (by rw [← hQ_]; exact ⟨by rw [zan], zmi, ((((Fr.rf.ms rfl).ms rfl).ms rfl).rs (fun _ => rfl))⟩)
                  · skip
                    refine e_aloadn (pc := 66) dX8_sheet_66 rfl rfl ?_
                    refine e_getr (pc := 67) (k := 76) dX8_sheet_67 fX8_89 s_49 rfl (by decide) ?_
                    refine e_bipush (pc := 70) dX8_sheet_70 rfl (by decide) ?_
                    refine e_iloadn (pc := 72) dX8_sheet_72 rfl rfl ?_
                    refine e_imuln (pc := 73) dX8_sheet_73 (by omega) ?_
                    refine e_iload (pc := 74) dX8_sheet_74 rfl ?_
                    refine e_iaddn (pc := 76) dX8_sheet_76 (by omega) ?_
                    refine e_iconst (pc := 77) dX8_sheet_77 (by decide) ?_
                    refine e_iastm (pc := 78) (mem2 := rset (mset (mset (mset mem 73 sn 1) 74 sn f) 75 sn n) 76 (zrI (mem 76) sn (k + 1))) dX8_sheet_78 s_76 (by omega) (by rw [show (64 * (sn : Int) + (k : Int)).toNat = 64 * sn + k by omega, ← zrI_s]; exact mset_rset _ _ _ _ _) ?_
                    refine e_iinc (pc := 79) (lo' := [(2, 49), (0, (sn : Int)), (0, f), (0, n), (0, (k : Int) + 1)]) dX8_sheet_79 rfl (by omega) rfl (by decide) rfl ?_
                    refine e_goto (pc := 82) (tgt := 59) dX8_sheet_82 rfl ?_
                    exact Ev.to (ih59 _ (by omega) (k + 1) (rfl) (by omega)) rfl rfl rfl
              exact Ev.to (L59 _ 0 (rfl) (by omega)) rfl rfl (by rw [zrI_0]; exact (rset_self _ 76).symm)
            · skip
              refine e_aloadn (pc := 29) dX8_sheet_29 rfl rfl ?_
              refine e_iconst (pc := 30) dX8_sheet_30 (by decide) ?_
              refine e_callVr (pc := 31) (as := [(0, 5)]) (st := []) (m_meets G (mem) 5 (by omega)) dX8_sheet_31 lX8_sheet_113 rfl s_49 cn_8 rfl rfl ?_
              have zan : an_sheet A (sn : Int) f n = -10 - 5 := by unfold an_sheet; (rw [if_pos (by omega), if_pos (by omega)]) <;> rfl
              have zmi : MI (nx_sheet A (sn : Int) f n) (mset mem 49 49 5) := by unfold nx_sheet; rw [if_pos (by omega), if_pos (by omega)]; exact hM.meet 5
              exact e_iret (pc := 34) dX8_sheet_34 rfl (by rw [← hQ_]; exact ⟨by rw [zan], zmi, (Fr.rf.ms rfl)⟩)
          · skip
            refine e_bipush (pc := 22) dX8_sheet_22 rfl (by decide) ?_
            have zan : an_sheet A (sn : Int) f n = -2 := by unfold an_sheet; rw [if_neg (by omega)]
            have zmi : MI (nx_sheet A (sn : Int) f n) (mem) := by unfold nx_sheet; rw [if_neg (by omega)]; exact hM
            exact e_iret (pc := 24) dX8_sheet_24 rfl (by rw [← hQ_]; exact ⟨by rw [zan], zmi, Fr.rf⟩)
      · rw [if_neg zc10]
        refine e_if_eq (pc := 13) (tgt := 22) dX8_sheet_13 rfl (fun h13 => ?_) (fun h13 => ?_)
        · skip
          refine e_bipush (pc := 22) dX8_sheet_22 rfl (by decide) ?_
          have zan : an_sheet A (sn : Int) f n = -2 := by unfold an_sheet; rw [if_neg (by omega)]
          have zmi : MI (nx_sheet A (sn : Int) f n) (mem) := by unfold nx_sheet; rw [if_neg (by omega)]; exact hM
          exact e_iret (pc := 24) dX8_sheet_24 rfl (by rw [← hQ_]; exact ⟨by rw [zan], zmi, Fr.rf⟩)
        · skip
          exact absurd h13 (by decide)
  · rw [if_neg zcs]
    refine e_if_eq (pc := 4) (tgt := 22) dX8_sheet_4 rfl (fun h4 => ?_) (fun h4 => ?_)
    · skip
      refine e_bipush (pc := 22) dX8_sheet_22 rfl (by decide) ?_
      have zan : an_sheet A s f n = -2 := by unfold an_sheet; rw [if_neg (by omega)]
      have zmi : MI (nx_sheet A s f n) (mem) := by unfold nx_sheet; rw [if_neg (by omega)]; exact hM
      exact e_iret (pc := 24) dX8_sheet_24 rfl (by rw [← hQ_]; exact ⟨by rw [zan], zmi, Fr.rf⟩)
    · skip
      exact absurd h4 (by decide)

theorem m_lose (G : Gm) (A mem : Mem) (s : Int) (hM : MI A mem) : Con G mX8_lose [(2, 49), (0, s)] mem (fun r m' => r = some (0, an_lose A s) ∧ MI (nx_lose A s) m' ∧ Fr scZ mem m') := by
  refine Con.of (lo := [(2, 49), (0, s)]) (by decide +kernel) (Nat.le_of_ble_eq_true rfl) rfl ?_
  generalize hQ_ : (fun r m' => r = some (0, an_lose A s) ∧ MI (nx_lose A s) m' ∧ Fr scZ mem m' : Option AV → Mem → Prop) = Q_
  refine e_iloadn (pc := 0) dX8_lose_0 rfl rfl ?_
  refine e_callSr (pc := 1) (as := [(0, s)]) (st := []) (v := (0, if 0 ≤ s ∧ s < 4 then 1 else 0)) (m_isSheet G mem s) dX8_lose_1 lX8_lose_110 rfl rfl rfl ?_
  by_cases zcs : 0 ≤ s ∧ s < 4
  · rw [if_pos zcs]
    obtain ⟨sn, rfl⟩ : ∃ sn : Nat, s = (sn : Int) := ⟨s.toNat, by omega⟩
    have hs : sn < 4 := by omega
    refine e_if_ne (pc := 4) (tgt := 10) dX8_lose_4 rfl (fun h4 => ?_) (fun h4 => ?_)
    · skip
      refine e_aloadn (pc := 10) dX8_lose_10 rfl rfl ?_
      refine e_getr (pc := 11) (k := 73) dX8_lose_11 fX8_80 s_49 rfl (by decide) ?_
      refine e_iloadn (pc := 14) dX8_lose_14 rfl rfl ?_
      refine e_zaldv (pc := 15) (v := (if A 47 sn = -1 then 0 else 1)) dX8_lose_15 s_73 (by omega) ((hM.2.2.2.1.2 sn hs).1) ?_
      refine e_if_ne (pc := 16) (tgt := 25) dX8_lose_16 rfl (fun h16 => ?_) (fun h16 => ?_)
      · skip
        have zth : A 47 sn ≠ -1 := fun q => h16 (by rw [if_pos q])
        refine e_aloadn (pc := 25) dX8_lose_25 rfl rfl ?_
        refine e_getr (pc := 26) (k := 73) dX8_lose_26 fX8_80 s_49 rfl (by decide) ?_
        refine e_iloadn (pc := 29) dX8_lose_29 rfl rfl ?_
        refine e_iconst (pc := 30) dX8_lose_30 (by decide) ?_
        refine e_zastm (pc := 31) (mem2 := mset mem 73 sn 0) dX8_lose_31 s_73 (by omega) (by decide) rfl ?_
        refine e_aloadn (pc := 32) dX8_lose_32 rfl rfl ?_
        refine e_getr (pc := 33) (k := 75) dX8_lose_33 fX8_86 s_49 rfl (by decide) ?_
        refine e_iloadn (pc := 36) dX8_lose_36 rfl rfl ?_
        refine e_ialdv (pc := 37) (v := (A 48 sn)) dX8_lose_37 s_75 (by omega) (((hM.2.2.2.1.2 sn hs).2.1 zth).2) ?_
        have zan : an_lose A (sn : Int) = (A 48 sn) := by unfold an_lose; rw [if_pos zcs, if_neg (show ¬ A 47 (sn : Int).toNat = -1 from zth)]; rfl
        have zmi : MI (nx_lose A (sn : Int)) (mset mem 73 sn 0) := by unfold nx_lose; rw [if_pos zcs, if_neg (show ¬ A 47 (sn : Int).toNat = -1 from zth)]; exact hM.lose hs
        exact e_iret (pc := 38) dX8_lose_38 rfl (by rw [← hQ_]; exact ⟨by rw [zan], zmi, (Fr.rf.ms rfl)⟩)
      · skip
        have zth : A 47 sn = -1 := Classical.byContradiction (fun q => by rw [if_neg q] at h16; omega)
        refine e_aloadn (pc := 19) dX8_lose_19 rfl rfl ?_
        refine e_iconst (pc := 20) dX8_lose_20 (by decide) ?_
        refine e_callVr (pc := 21) (as := [(0, 1)]) (st := []) (m_meets G (mem) 1 (by omega)) dX8_lose_21 lX8_lose_113 rfl s_49 cn_8 rfl rfl ?_
        have zan : an_lose A (sn : Int) = -10 - 1 := by unfold an_lose; (rw [if_pos zcs, if_pos (show A 47 (sn : Int).toNat = -1 from zth)]) <;> rfl
        have zmi : MI (nx_lose A (sn : Int)) (mset mem 49 49 1) := by unfold nx_lose; rw [if_pos zcs, if_pos (show A 47 (sn : Int).toNat = -1 from zth)]; exact hM.meet 1
        exact e_iret (pc := 24) dX8_lose_24 rfl (by rw [← hQ_]; exact ⟨by rw [zan], zmi, (Fr.rf.ms rfl)⟩)
    · skip
      exact absurd h4 (by decide)
  · rw [if_neg zcs]
    refine e_if_ne (pc := 4) (tgt := 10) dX8_lose_4 rfl (fun h4 => ?_) (fun h4 => ?_)
    · skip
      exact absurd h4 (by decide)
    · skip
      refine e_bipush (pc := 7) dX8_lose_7 rfl (by decide) ?_
      have zan : an_lose A s = -2 := by unfold an_lose; rw [if_neg zcs]
      have zmi : MI (nx_lose A s) (mem) := by unfold nx_lose; rw [if_neg zcs]; exact hM
      exact e_iret (pc := 9) dX8_lose_9 rfl (by rw [← hQ_]; exact ⟨by rw [zan], zmi, Fr.rf⟩)

theorem m_put (G : Gm) (A mem : Mem) (s f i v : Int) (hM : MI A mem) (hS : ShOk A) : Con G mX8_put [(2, 49), (0, s), (0, f), (0, i), (0, v)] mem (fun r m' => r = some (0, an_put A s f i v) ∧ MI (nx_put A s f i v) m' ∧ Fr scZ mem m') := by
  refine Con.of (lo := [(2, 49), (0, s), (0, f), (0, i), (0, v), (3, 0)]) (by decide +kernel) (Nat.le_of_ble_eq_true rfl) rfl ?_
  generalize hQ_ : (fun r m' => r = some (0, an_put A s f i v) ∧ MI (nx_put A s f i v) m' ∧ Fr scZ mem m' : Option AV → Mem → Prop) = Q_
  refine e_iloadn (pc := 0) dX8_put_0 rfl rfl ?_
  refine e_callSr (pc := 1) (as := [(0, s)]) (st := []) (v := (0, if 0 ≤ s ∧ s < 4 then 1 else 0)) (m_isSheet G mem s) dX8_put_1 lX8_put_110 rfl rfl rfl ?_
  by_cases zcs : 0 ≤ s ∧ s < 4
  · rw [if_pos zcs]
    obtain ⟨sn, rfl⟩ : ∃ sn : Nat, s = (sn : Int) := ⟨s.toNat, by omega⟩
    have hs : sn < 4 := by omega
    refine e_if_eq (pc := 4) (tgt := 16) dX8_put_4 rfl (fun h4 => ?_) (fun h4 => ?_)
    · skip
      exact absurd h4 (by decide)
    · skip
      refine e_iloadn (pc := 7) dX8_put_7 rfl rfl ?_
      refine e_iconst (pc := 8) dX8_put_8 (by decide) ?_
      refine e_iconst (pc := 9) dX8_put_9 (by decide) ?_
      refine e_callSr (pc := 10) (as := [(0, f), (0, 0), (0, 2)]) (st := []) (v := (0, if 0 ≤ f ∧ f ≤ 2 then 1 else 0)) (m_in G (mem) f 0 2) dX8_put_10 lX8_put_95 rfl rfl rfl ?_
      by_cases zc10 : 0 ≤ f ∧ f ≤ 2
      · rw [if_pos zc10]
        refine e_if_ne (pc := 13) (tgt := 19) dX8_put_13 rfl (fun h13 => ?_) (fun h13 => ?_)
        · skip
          refine e_aloadn (pc := 19) dX8_put_19 rfl rfl ?_
          refine e_iloadn (pc := 20) dX8_put_20 rfl rfl ?_
          refine e_iloadn (pc := 21) dX8_put_21 rfl rfl ?_
          refine e_iloadn (pc := 22) dX8_put_22 rfl rfl ?_
          have zfb := fnd_bd A sn f i
          refine e_callVr (pc := 23) (as := [(0, (sn : Int)), (0, f), (0, i)]) (st := []) (m_lacks G A mem sn f i hs hM hS) dX8_put_23 lX8_put_288 rfl s_49 cn_8 rfl rfl ?_
          refine e_istore (pc := 26) (lo' := [(2, 49), (0, (sn : Int)), (0, f), (0, i), (0, v), (0, fnd A sn f i)]) dX8_put_26 rfl (by decide) rfl ?_
          refine e_iload (pc := 28) dX8_put_28 rfl ?_
          refine e_if_le (pc := 30) (tgt := 40) dX8_put_30 rfl (fun h30 => ?_) (fun h30 => ?_)
          · skip
            have zf0 : fnd A sn f i = 0 := by omega
            obtain ⟨zg1, zg2, zg3⟩ := fnd_0 zf0
            have zsz := (hS sn hs).2
            obtain ⟨inn, rfl⟩ : ∃ inn : Nat, i = (inn : Int) := ⟨i.toNat, by omega⟩
            have zfm : mem 74 sn = f := ((hM.2.2.2.1.2 sn hs).2.1 (by omega)).1.trans zg1
            refine e_aloadn (pc := 40) dX8_put_40 rfl rfl ?_
            refine e_iloadn (pc := 41) dX8_put_41 rfl rfl ?_
            refine e_iloadn (pc := 42) dX8_put_42 rfl rfl ?_
            refine e_iload (pc := 43) dX8_put_43 rfl ?_
            refine e_callVv (pc := 45) (as := [(0, (sn : Int)), (0, (inn : Int)), (0, v)]) (st := []) (m_keep G mem sn inn f v hs (by omega) zfm) dX8_put_45 lX8_put_291 rfl s_49 cn_8 rfl rfl ?_
            refine e_iconst (pc := 48) dX8_put_48 (by decide) ?_
            have zan : an_put A (sn : Int) f (inn : Int) v = 1 := by unfold an_put; rw [if_pos (by omega), if_pos (show fnd A (sn : Int).toNat f (inn : Int) = 0 from zf0)]
            have zmi : MI (nx_put A (sn : Int) f (inn : Int) v) (mset mem 76 (64 * sn + inn) (lw5 f v)) := by unfold nx_put; rw [if_pos (by omega), if_pos (show fnd A (sn : Int).toNat f (inn : Int) = 0 from zf0)]; exact hM.put hs (by omega) _
            exact e_iret (pc := 49) dX8_put_49 rfl (by rw [← hQ_]; exact ⟨by rw [zan], zmi, (Fr.rf.ms rfl)⟩)
          · skip
            refine e_aloadn (pc := 33) dX8_put_33 rfl rfl ?_
            refine e_iload (pc := 34) dX8_put_34 rfl ?_
            refine e_callVr (pc := 36) (as := [(0, fnd A sn f i)]) (st := []) (m_meets G (mem) (fnd A sn f i) (by omega)) dX8_put_36 lX8_put_113 rfl s_49 cn_8 rfl rfl ?_
            have zan : an_put A (sn : Int) f i v = -10 - (fnd A sn f i) := by unfold an_put; rw [if_pos (by omega), if_neg (show ¬ fnd A (sn : Int).toNat f i = 0 by rw [Int.toNat_natCast]; omega)]; rfl
            have zmi : MI (nx_put A (sn : Int) f i v) (mset mem 49 49 (fnd A sn f i)) := by unfold nx_put; rw [if_pos (by omega), if_neg (show ¬ fnd A (sn : Int).toNat f i = 0 by rw [Int.toNat_natCast]; omega)]; exact hM.meet _
            exact e_iret (pc := 39) dX8_put_39 rfl (by rw [← hQ_]; exact ⟨by rw [zan], zmi, (Fr.rf.ms rfl)⟩)
        · skip
          exact absurd h13 (by decide)
      · rw [if_neg zc10]
        refine e_if_ne (pc := 13) (tgt := 19) dX8_put_13 rfl (fun h13 => ?_) (fun h13 => ?_)
        · skip
          exact absurd h13 (by decide)
        · skip
          refine e_bipush (pc := 16) dX8_put_16 rfl (by decide) ?_
          have zan : an_put A (sn : Int) f i v = -2 := by unfold an_put; rw [if_neg (by omega)]
          have zmi : MI (nx_put A (sn : Int) f i v) (mem) := by unfold nx_put; rw [if_neg (by omega)]; exact hM
          exact e_iret (pc := 18) dX8_put_18 rfl (by rw [← hQ_]; exact ⟨by rw [zan], zmi, Fr.rf⟩)
  · rw [if_neg zcs]
    refine e_if_eq (pc := 4) (tgt := 16) dX8_put_4 rfl (fun h4 => ?_) (fun h4 => ?_)
    · skip
      refine e_bipush (pc := 16) dX8_put_16 rfl (by decide) ?_
      have zan : an_put A s f i v = -2 := by unfold an_put; rw [if_neg (by omega)]
      have zmi : MI (nx_put A s f i v) (mem) := by unfold nx_put; rw [if_neg (by omega)]; exact hM
      exact e_iret (pc := 18) dX8_put_18 rfl (by rw [← hQ_]; exact ⟨by rw [zan], zmi, Fr.rf⟩)
    · skip
      exact absurd h4 (by decide)

theorem m_get (G : Gm) (A mem : Mem) (s f i : Int) (hM : MI A mem) (hS : ShOk A) : Con G mX8_get [(2, 49), (0, s), (0, f), (0, i)] mem (fun r m' => r = some (0, an_get A s f i) ∧ MI (nx_get A s f i) m' ∧ Fr scZ mem m') := by
  refine Con.of (lo := [(2, 49), (0, s), (0, f), (0, i), (3, 0)]) (by decide +kernel) (Nat.le_of_ble_eq_true rfl) rfl ?_
  generalize hQ_ : (fun r m' => r = some (0, an_get A s f i) ∧ MI (nx_get A s f i) m' ∧ Fr scZ mem m' : Option AV → Mem → Prop) = Q_
  refine e_iloadn (pc := 0) dX8_get_0 rfl rfl ?_
  refine e_callSr (pc := 1) (as := [(0, s)]) (st := []) (v := (0, if 0 ≤ s ∧ s < 4 then 1 else 0)) (m_isSheet G mem s) dX8_get_1 lX8_get_110 rfl rfl rfl ?_
  by_cases zcs : 0 ≤ s ∧ s < 4
  · rw [if_pos zcs]
    obtain ⟨sn, rfl⟩ : ∃ sn : Nat, s = (sn : Int) := ⟨s.toNat, by omega⟩
    have hs : sn < 4 := by omega
    refine e_if_eq (pc := 4) (tgt := 16) dX8_get_4 rfl (fun h4 => ?_) (fun h4 => ?_)
    · skip
      exact absurd h4 (by decide)
    · skip
      refine e_iloadn (pc := 7) dX8_get_7 rfl rfl ?_
      refine e_iconst (pc := 8) dX8_get_8 (by decide) ?_
      refine e_iconst (pc := 9) dX8_get_9 (by decide) ?_
      refine e_callSr (pc := 10) (as := [(0, f), (0, 0), (0, 2)]) (st := []) (v := (0, if 0 ≤ f ∧ f ≤ 2 then 1 else 0)) (m_in G (mem) f 0 2) dX8_get_10 lX8_get_95 rfl rfl rfl ?_
      by_cases zc10 : 0 ≤ f ∧ f ≤ 2
      · rw [if_pos zc10]
        refine e_if_ne (pc := 13) (tgt := 20) dX8_get_13 rfl (fun h13 => ?_) (fun h13 => ?_)
        · skip
          refine e_aloadn (pc := 20) dX8_get_20 rfl rfl ?_
          refine e_iloadn (pc := 21) dX8_get_21 rfl rfl ?_
          refine e_iloadn (pc := 22) dX8_get_22 rfl rfl ?_
          refine e_iloadn (pc := 23) dX8_get_23 rfl rfl ?_
          have zfb := fnd_bd A sn f i
          refine e_callVr (pc := 24) (as := [(0, (sn : Int)), (0, f), (0, i)]) (st := []) (m_lacks G A mem sn f i hs hM hS) dX8_get_24 lX8_get_288 rfl s_49 cn_8 rfl rfl ?_
          refine e_istore (pc := 27) (lo' := [(2, 49), (0, (sn : Int)), (0, f), (0, i), (0, fnd A sn f i)]) dX8_get_27 rfl (by decide) rfl ?_
          refine e_iload (pc := 29) dX8_get_29 rfl ?_
          refine e_if_le (pc := 31) (tgt := 44) dX8_get_31 rfl (fun h31 => ?_) (fun h31 => ?_)
          · skip
            have zf0 : fnd A sn f i = 0 := by omega
            obtain ⟨zg1, zg2, zg3⟩ := fnd_0 zf0
            have zsz := (hS sn hs).2
            refine e_aloadn (pc := 44) dX8_get_44 rfl rfl ?_
            refine e_getr (pc := 45) (k := 76) dX8_get_45 fX8_89 s_49 rfl (by decide) ?_
            refine e_bipush (pc := 48) dX8_get_48 rfl (by decide) ?_
            refine e_iloadn (pc := 50) dX8_get_50 rfl rfl ?_
            refine e_imuln (pc := 51) dX8_get_51 (by omega) ?_
            refine e_iloadn (pc := 52) dX8_get_52 rfl rfl ?_
            refine e_iaddn (pc := 53) dX8_get_53 (by omega) ?_
            refine e_ialdv (pc := 54) (v := (A (43 + sn) i.toNat)) dX8_get_54 s_76 (by omega) (by rw [show (64 * (sn : Int) + i).toNat = 64 * sn + i.toNat by omega]; exact (hM.2.2.2.1.2 sn hs).2.2 _ (by omega)) ?_
            have zan : an_get A (sn : Int) f i = (A (43 + sn) i.toNat) := by unfold an_get; rw [if_pos ⟨by omega, zf0⟩]; rfl
            have zmi : MI (nx_get A (sn : Int) f i) (mem) := by unfold nx_get; rw [if_neg (fun q => q.2 zf0)]; exact hM
            exact e_iret (pc := 55) dX8_get_55 rfl (by rw [← hQ_]; exact ⟨by rw [zan], zmi, Fr.rf⟩)
          · skip
            refine e_aloadn (pc := 34) dX8_get_34 rfl rfl ?_
            refine e_iload (pc := 35) dX8_get_35 rfl ?_
            refine e_putI (pc := 37) (mem2 := mset mem 49 49 (fnd A sn f i)) dX8_get_37 fX8_285 s_49 rfl (by decide) pw_8_49 rfl ?_
            refine e_ldcw (pc := 40) (z := (-2147483648)) dX8_get_40 kX8_295 (by decide) ?_
            have zan : an_get A (sn : Int) f i = -2147483648 := by unfold an_get; rw [if_neg (fun q => by have q2 : fnd A sn f i = 0 := q.2; omega)]
            have zmi : MI (nx_get A (sn : Int) f i) (mset mem 49 49 (fnd A sn f i)) := by unfold nx_get; rw [if_pos ⟨by omega, (show ¬ fnd A (sn : Int).toNat f i = 0 by rw [Int.toNat_natCast]; omega)⟩]; exact hM.meet _
            exact e_iret (pc := 43) dX8_get_43 rfl (by rw [← hQ_]; exact ⟨by rw [zan], zmi, (Fr.rf.ms rfl)⟩)
        · skip
          exact absurd h13 (by decide)
      · rw [if_neg zc10]
        refine e_if_ne (pc := 13) (tgt := 20) dX8_get_13 rfl (fun h13 => ?_) (fun h13 => ?_)
        · skip
          exact absurd h13 (by decide)
        · skip
          refine e_ldcw (pc := 16) (z := (-2147483648)) dX8_get_16 kX8_295 (by decide) ?_
          have zan : an_get A (sn : Int) f i = -2147483648 := by unfold an_get; rw [if_neg (fun q => by have := q.1; omega)]
          have zmi : MI (nx_get A (sn : Int) f i) (mem) := by unfold nx_get; rw [if_neg (fun q => by have := q.1; omega)]; exact hM
          exact e_iret (pc := 19) dX8_get_19 rfl (by rw [← hQ_]; exact ⟨by rw [zan], zmi, Fr.rf⟩)
  · rw [if_neg zcs]
    refine e_if_eq (pc := 4) (tgt := 16) dX8_get_4 rfl (fun h4 => ?_) (fun h4 => ?_)
    · skip
      refine e_ldcw (pc := 16) (z := (-2147483648)) dX8_get_16 kX8_295 (by decide) ?_
      have zan : an_get A s f i = -2147483648 := by unfold an_get; rw [if_neg (fun q => by have := q.1; omega)]
      have zmi : MI (nx_get A s f i) (mem) := by unfold nx_get; rw [if_neg (fun q => by have := q.1; omega)]; exact hM
      exact e_iret (pc := 19) dX8_get_19 rfl (by rw [← hQ_]; exact ⟨by rw [zan], zmi, Fr.rf⟩)
    · skip
      exact absurd h4 (by decide)

theorem m_copy (G : Gm) (A mem : Mem) (s i t j n : Int) (hM : MI A mem) (hS : ShOk A) (hoi : okI i) (hoj : okI j) (hon : okI n) : Con G mX8_copy [(2, 49), (0, s), (0, i), (0, t), (0, j), (0, n)] mem (fun r m' => r = some (0, an_copy A s i t j n) ∧ MI (nx_copy A s i t j n) m' ∧ Fr scZ mem m') := by
  refine Con.of (lo := [(2, 49), (0, s), (0, i), (0, t), (0, j), (0, n), (3, 0)]) (by decide +kernel) (Nat.le_of_ble_eq_true rfl) rfl ?_
  generalize hQ_ : (fun r m' => r = some (0, an_copy A s i t j n) ∧ MI (nx_copy A s i t j n) m' ∧ Fr scZ mem m' : Option AV → Mem → Prop) = Q_
  refine e_iloadn (pc := 0) dX8_copy_0 rfl rfl ?_
  refine e_callSr (pc := 1) (as := [(0, s)]) (st := []) (v := (0, if 0 ≤ s ∧ s < 4 then 1 else 0)) (m_isSheet G mem s) dX8_copy_1 lX8_copy_110 rfl rfl rfl ?_
  by_cases zcs : 0 ≤ s ∧ s < 4
  · rw [if_pos zcs]
    obtain ⟨sn, rfl⟩ : ∃ sn : Nat, s = (sn : Int) := ⟨s.toNat, by omega⟩
    have hs : sn < 4 := by omega
    refine e_if_eq (pc := 4) (tgt := 14) dX8_copy_4 rfl (fun h4 => ?_) (fun h4 => ?_)
    · skip
      exact absurd h4 (by decide)
    · skip
      refine e_iloadn (pc := 7) dX8_copy_7 rfl rfl ?_
      refine e_callSr (pc := 8) (as := [(0, t)]) (st := []) (v := (0, if 0 ≤ t ∧ t < 4 then 1 else 0)) (m_isSheet G mem t) dX8_copy_8 lX8_copy_110 rfl rfl rfl ?_
      by_cases zct : 0 ≤ t ∧ t < 4
      · rw [if_pos zct]
        obtain ⟨tn, rfl⟩ : ∃ tn : Nat, t = (tn : Int) := ⟨t.toNat, by omega⟩
        have ht : tn < 4 := by omega
        refine e_if_ne (pc := 11) (tgt := 17) dX8_copy_11 rfl (fun h11 => ?_) (fun h11 => ?_)
        · skip
          refine e_aloadn (pc := 17) dX8_copy_17 rfl rfl ?_
          refine e_getr (pc := 18) (k := 73) dX8_copy_18 fX8_80 s_49 rfl (by decide) ?_
          refine e_iloadn (pc := 21) dX8_copy_21 rfl rfl ?_
          refine e_zaldv (pc := 22) (v := (if A 47 sn = -1 then 0 else 1)) dX8_copy_22 s_73 (by omega) ((hM.2.2.2.1.2 sn hs).1) ?_
          refine e_if_eq (pc := 23) (tgt := 35) dX8_copy_23 rfl (fun h23 => ?_) (fun h23 => ?_)
          · skip
            have zgo : A 47 sn = -1 ∨ A 47 tn = -1 := Or.inl (Classical.byContradiction (fun q => by rw [if_neg q] at h23; omega))
            refine e_aloadn (pc := 35) dX8_copy_35 rfl rfl ?_
            refine e_iconst (pc := 36) dX8_copy_36 (by decide) ?_
            refine e_callVr (pc := 37) (as := [(0, 1)]) (st := []) (m_meets G (mem) 1 (by omega)) dX8_copy_37 lX8_copy_113 rfl s_49 cn_8 rfl rfl ?_
            have zan : an_copy A (sn : Int) i (tn : Int) j n = -10 - 1 := by unfold an_copy; (rw [if_pos (by omega), if_pos (show A 47 (sn : Int).toNat = -1 ∨ A 47 (tn : Int).toNat = -1 from zgo)]) <;> rfl
            have zmi : MI (nx_copy A (sn : Int) i (tn : Int) j n) (mset mem 49 49 1) := by unfold nx_copy; rw [if_pos (by omega), if_pos (show A 47 (sn : Int).toNat = -1 ∨ A 47 (tn : Int).toNat = -1 from zgo)]; exact hM.meet 1
            exact e_iret (pc := 40) dX8_copy_40 rfl (by rw [← hQ_]; exact ⟨by rw [zan], zmi, (Fr.rf.ms rfl)⟩)
          · skip
            have zts : A 47 sn ≠ -1 := fun q => h23 (by rw [if_pos q])
            obtain ⟨zs4, zs5⟩ := (hM.2.2.2.1.2 sn hs).2.1 zts
            refine e_aloadn (pc := 26) dX8_copy_26 rfl rfl ?_
            refine e_getr (pc := 27) (k := 73) dX8_copy_27 fX8_80 s_49 rfl (by decide) ?_
            refine e_iloadn (pc := 30) dX8_copy_30 rfl rfl ?_
            refine e_zaldv (pc := 31) (v := (if A 47 tn = -1 then 0 else 1)) dX8_copy_31 s_73 (by omega) ((hM.2.2.2.1.2 tn ht).1) ?_
            refine e_if_ne (pc := 32) (tgt := 41) dX8_copy_32 rfl (fun h32 => ?_) (fun h32 => ?_)
            · skip
              have ztt : A 47 tn ≠ -1 := fun q => h32 (by rw [if_pos q])
              obtain ⟨zt4, zt5⟩ := (hM.2.2.2.1.2 tn ht).2.1 ztt
              refine e_aloadn (pc := 41) dX8_copy_41 rfl rfl ?_
              refine e_getr (pc := 42) (k := 74) dX8_copy_42 fX8_83 s_49 rfl (by decide) ?_
              refine e_iloadn (pc := 45) dX8_copy_45 rfl rfl ?_
              refine e_ialdv (pc := 46) (v := (A 47 sn)) dX8_copy_46 s_74 (by omega) (zs4) ?_
              refine e_aloadn (pc := 47) dX8_copy_47 rfl rfl ?_
              refine e_getr (pc := 48) (k := 74) dX8_copy_48 fX8_83 s_49 rfl (by decide) ?_
              refine e_iloadn (pc := 51) dX8_copy_51 rfl rfl ?_
              refine e_ialdv (pc := 52) (v := (A 47 tn)) dX8_copy_52 s_74 (by omega) (zt4) ?_
              refine e_icmp_eq (pc := 53) (tgt := 62) dX8_copy_53 rfl (fun h53 => ?_) (fun h53 => ?_)
              · skip
                have zsb := (hS sn hs).2
                have ztb := (hS tn ht).2
                have zl1 := lCmp_le (a := i + n) (b := A 48 sn)
                have zl2 := lCmp_le (a := j + n) (b := A 48 tn)
                refine e_iloadn (pc := 62) dX8_copy_62 rfl rfl ?_
                refine e_if_lt (pc := 63) (tgt := 111) dX8_copy_63 rfl (fun h63 => ?_) (fun h63 => ?_)
                · skip
                  refine e_aloadn (pc := 111) dX8_copy_111 rfl rfl ?_
                  refine e_iconst (pc := 112) dX8_copy_112 (by decide) ?_
                  refine e_callVr (pc := 113) (as := [(0, 2)]) (st := []) (m_meets G (mem) 2 (by omega)) dX8_copy_113 lX8_copy_113 rfl s_49 cn_8 rfl rfl ?_
                  have zan : an_copy A (sn : Int) i (tn : Int) j n = -10 - 2 := by unfold an_copy; (rw [if_pos (by omega), if_neg (show ¬ (A 47 (sn : Int).toNat = -1 ∨ A 47 (tn : Int).toNat = -1) from fun q => q.elim zts ztt), if_neg (show ¬ A 47 (sn : Int).toNat ≠ A 47 (tn : Int).toNat from fun q => q h53), if_pos (show n < 0 ∨ ¬ (0 ≤ i ∧ i ≤ A 48 (sn : Int).toNat ∧ n ≤ A 48 (sn : Int).toNat - i) ∨ ¬ (0 ≤ j ∧ j ≤ A 48 (tn : Int).toNat ∧ n ≤ A 48 (tn : Int).toNat - j) by simp only [Int.toNat_natCast]; omega)]) <;> rfl
                  have zmi : MI (nx_copy A (sn : Int) i (tn : Int) j n) (mset mem 49 49 2) := by unfold nx_copy; rw [if_pos (by omega), if_neg (show ¬ (A 47 (sn : Int).toNat = -1 ∨ A 47 (tn : Int).toNat = -1) from fun q => q.elim zts ztt), if_neg (show ¬ A 47 (sn : Int).toNat ≠ A 47 (tn : Int).toNat from fun q => q h53), if_pos (show n < 0 ∨ ¬ (0 ≤ i ∧ i ≤ A 48 (sn : Int).toNat ∧ n ≤ A 48 (sn : Int).toNat - i) ∨ ¬ (0 ≤ j ∧ j ≤ A 48 (tn : Int).toNat ∧ n ≤ A 48 (tn : Int).toNat - j) by simp only [Int.toNat_natCast]; omega)]; exact hM.meet 2
                  exact e_iret (pc := 116) dX8_copy_116 rfl (by rw [← hQ_]; exact ⟨by rw [zan], zmi, (Fr.rf.ms rfl)⟩)
                · skip
                  refine e_iload (pc := 66) dX8_copy_66 rfl ?_
                  refine e_if_lt (pc := 68) (tgt := 111) dX8_copy_68 rfl (fun h68 => ?_) (fun h68 => ?_)
                  · skip
                    refine e_aloadn (pc := 111) dX8_copy_111 rfl rfl ?_
                    refine e_iconst (pc := 112) dX8_copy_112 (by decide) ?_
                    refine e_callVr (pc := 113) (as := [(0, 2)]) (st := []) (m_meets G (mem) 2 (by omega)) dX8_copy_113 lX8_copy_113 rfl s_49 cn_8 rfl rfl ?_
                    have zan : an_copy A (sn : Int) i (tn : Int) j n = -10 - 2 := by unfold an_copy; (rw [if_pos (by omega), if_neg (show ¬ (A 47 (sn : Int).toNat = -1 ∨ A 47 (tn : Int).toNat = -1) from fun q => q.elim zts ztt), if_neg (show ¬ A 47 (sn : Int).toNat ≠ A 47 (tn : Int).toNat from fun q => q h53), if_pos (show n < 0 ∨ ¬ (0 ≤ i ∧ i ≤ A 48 (sn : Int).toNat ∧ n ≤ A 48 (sn : Int).toNat - i) ∨ ¬ (0 ≤ j ∧ j ≤ A 48 (tn : Int).toNat ∧ n ≤ A 48 (tn : Int).toNat - j) by simp only [Int.toNat_natCast]; omega)]) <;> rfl
                    have zmi : MI (nx_copy A (sn : Int) i (tn : Int) j n) (mset mem 49 49 2) := by unfold nx_copy; rw [if_pos (by omega), if_neg (show ¬ (A 47 (sn : Int).toNat = -1 ∨ A 47 (tn : Int).toNat = -1) from fun q => q.elim zts ztt), if_neg (show ¬ A 47 (sn : Int).toNat ≠ A 47 (tn : Int).toNat from fun q => q h53), if_pos (show n < 0 ∨ ¬ (0 ≤ i ∧ i ≤ A 48 (sn : Int).toNat ∧ n ≤ A 48 (sn : Int).toNat - i) ∨ ¬ (0 ≤ j ∧ j ≤ A 48 (tn : Int).toNat ∧ n ≤ A 48 (tn : Int).toNat - j) by simp only [Int.toNat_natCast]; omega)]; exact hM.meet 2
                    exact e_iret (pc := 116) dX8_copy_116 rfl (by rw [← hQ_]; exact ⟨by rw [zan], zmi, (Fr.rf.ms rfl)⟩)
                  · skip
                    refine e_iload (pc := 71) dX8_copy_71 rfl ?_
                    refine e_if_lt (pc := 73) (tgt := 111) dX8_copy_73 rfl (fun h73 => ?_) (fun h73 => ?_)
                    · skip
                      refine e_aloadn (pc := 111) dX8_copy_111 rfl rfl ?_
                      refine e_iconst (pc := 112) dX8_copy_112 (by decide) ?_
                      refine e_callVr (pc := 113) (as := [(0, 2)]) (st := []) (m_meets G (mem) 2 (by omega)) dX8_copy_113 lX8_copy_113 rfl s_49 cn_8 rfl rfl ?_
                      have zan : an_copy A (sn : Int) i (tn : Int) j n = -10 - 2 := by unfold an_copy; (rw [if_pos (by omega), if_neg (show ¬ (A 47 (sn : Int).toNat = -1 ∨ A 47 (tn : Int).toNat = -1) from fun q => q.elim zts ztt), if_neg (show ¬ A 47 (sn : Int).toNat ≠ A 47 (tn : Int).toNat from fun q => q h53), if_pos (show n < 0 ∨ ¬ (0 ≤ i ∧ i ≤ A 48 (sn : Int).toNat ∧ n ≤ A 48 (sn : Int).toNat - i) ∨ ¬ (0 ≤ j ∧ j ≤ A 48 (tn : Int).toNat ∧ n ≤ A 48 (tn : Int).toNat - j) by simp only [Int.toNat_natCast]; omega)]) <;> rfl
                      have zmi : MI (nx_copy A (sn : Int) i (tn : Int) j n) (mset mem 49 49 2) := by unfold nx_copy; rw [if_pos (by omega), if_neg (show ¬ (A 47 (sn : Int).toNat = -1 ∨ A 47 (tn : Int).toNat = -1) from fun q => q.elim zts ztt), if_neg (show ¬ A 47 (sn : Int).toNat ≠ A 47 (tn : Int).toNat from fun q => q h53), if_pos (show n < 0 ∨ ¬ (0 ≤ i ∧ i ≤ A 48 (sn : Int).toNat ∧ n ≤ A 48 (sn : Int).toNat - i) ∨ ¬ (0 ≤ j ∧ j ≤ A 48 (tn : Int).toNat ∧ n ≤ A 48 (tn : Int).toNat - j) by simp only [Int.toNat_natCast]; omega)]; exact hM.meet 2
                      exact e_iret (pc := 116) dX8_copy_116 rfl (by rw [← hQ_]; exact ⟨by rw [zan], zmi, (Fr.rf.ms rfl)⟩)
                    · skip
                      refine e_iloadn (pc := 76) dX8_copy_76 rfl rfl ?_
                      refine e_i2l (pc := 77) dX8_copy_77 ?_
                      refine e_iload (pc := 78) dX8_copy_78 rfl ?_
                      refine e_i2l (pc := 80) dX8_copy_80 ?_
                      refine e_laddn (pc := 81) dX8_copy_81 (by omega) ?_
                      refine e_aloadn (pc := 82) dX8_copy_82 rfl rfl ?_
                      refine e_getr (pc := 83) (k := 75) dX8_copy_83 fX8_86 s_49 rfl (by decide) ?_
                      refine e_iloadn (pc := 86) dX8_copy_86 rfl rfl ?_
                      refine e_ialdv (pc := 87) (v := (A 48 sn)) dX8_copy_87 s_75 (by omega) (zs5) ?_
                      refine e_i2l (pc := 88) dX8_copy_88 ?_
                      refine e_lcmp (pc := 89) dX8_copy_89 ?_
                      refine e_if_gt (pc := 90) (tgt := 111) dX8_copy_90 rfl (fun h90 => ?_) (fun h90 => ?_)
                      · skip
                        refine e_aloadn (pc := 111) dX8_copy_111 rfl rfl ?_
                        refine e_iconst (pc := 112) dX8_copy_112 (by decide) ?_
                        refine e_callVr (pc := 113) (as := [(0, 2)]) (st := []) (m_meets G (mem) 2 (by omega)) dX8_copy_113 lX8_copy_113 rfl s_49 cn_8 rfl rfl ?_
                        have zan : an_copy A (sn : Int) i (tn : Int) j n = -10 - 2 := by unfold an_copy; (rw [if_pos (by omega), if_neg (show ¬ (A 47 (sn : Int).toNat = -1 ∨ A 47 (tn : Int).toNat = -1) from fun q => q.elim zts ztt), if_neg (show ¬ A 47 (sn : Int).toNat ≠ A 47 (tn : Int).toNat from fun q => q h53), if_pos (show n < 0 ∨ ¬ (0 ≤ i ∧ i ≤ A 48 (sn : Int).toNat ∧ n ≤ A 48 (sn : Int).toNat - i) ∨ ¬ (0 ≤ j ∧ j ≤ A 48 (tn : Int).toNat ∧ n ≤ A 48 (tn : Int).toNat - j) by simp only [Int.toNat_natCast]; omega)]) <;> rfl
                        have zmi : MI (nx_copy A (sn : Int) i (tn : Int) j n) (mset mem 49 49 2) := by unfold nx_copy; rw [if_pos (by omega), if_neg (show ¬ (A 47 (sn : Int).toNat = -1 ∨ A 47 (tn : Int).toNat = -1) from fun q => q.elim zts ztt), if_neg (show ¬ A 47 (sn : Int).toNat ≠ A 47 (tn : Int).toNat from fun q => q h53), if_pos (show n < 0 ∨ ¬ (0 ≤ i ∧ i ≤ A 48 (sn : Int).toNat ∧ n ≤ A 48 (sn : Int).toNat - i) ∨ ¬ (0 ≤ j ∧ j ≤ A 48 (tn : Int).toNat ∧ n ≤ A 48 (tn : Int).toNat - j) by simp only [Int.toNat_natCast]; omega)]; exact hM.meet 2
                        exact e_iret (pc := 116) dX8_copy_116 rfl (by rw [← hQ_]; exact ⟨by rw [zan], zmi, (Fr.rf.ms rfl)⟩)
                      · skip
                        refine e_iload (pc := 93) dX8_copy_93 rfl ?_
                        refine e_i2l (pc := 95) dX8_copy_95 ?_
                        refine e_iload (pc := 96) dX8_copy_96 rfl ?_
                        refine e_i2l (pc := 98) dX8_copy_98 ?_
                        refine e_laddn (pc := 99) dX8_copy_99 (by omega) ?_
                        refine e_aloadn (pc := 100) dX8_copy_100 rfl rfl ?_
                        refine e_getr (pc := 101) (k := 75) dX8_copy_101 fX8_86 s_49 rfl (by decide) ?_
                        refine e_iloadn (pc := 104) dX8_copy_104 rfl rfl ?_
                        refine e_ialdv (pc := 105) (v := (A 48 tn)) dX8_copy_105 s_75 (by omega) (zt5) ?_
                        refine e_i2l (pc := 106) dX8_copy_106 ?_
                        refine e_lcmp (pc := 107) dX8_copy_107 ?_
                        refine e_if_le (pc := 108) (tgt := 117) dX8_copy_108 rfl (fun h108 => ?_) (fun h108 => ?_)
                        · skip
                          obtain ⟨ii, rfl⟩ : ∃ ii : Nat, i = (ii : Int) := ⟨i.toNat, by omega⟩
                          obtain ⟨jj, rfl⟩ : ∃ jj : Nat, j = (jj : Int) := ⟨j.toNat, by omega⟩
                          obtain ⟨nn, rfl⟩ : ∃ nn : Nat, n = (nn : Int) := ⟨n.toNat, by omega⟩
                          have zi1 : ii + nn ≤ 64 := by omega
                          have zj1 : jj + nn ≤ 64 := by omega
                          have zok : ¬ ((nn : Int) < 0 ∨ ¬ (0 ≤ (ii : Int) ∧ (ii : Int) ≤ A 48 sn ∧ (nn : Int) ≤ A 48 sn - (ii : Int)) ∨ ¬ (0 ≤ (jj : Int) ∧ (jj : Int) ≤ A 48 tn ∧ (nn : Int) ≤ A 48 tn - (jj : Int))) := by omega
                          clear zl1 zl2 h90 h108
                          refine e_iconst (pc := 117) dX8_copy_117 (by decide) ?_
                          refine e_istore (pc := 118) (lo' := [(2, 49), (0, (sn : Int)), (0, (ii : Int)), (0, (tn : Int)), (0, (jj : Int)), (0, (nn : Int)), (0, 0)]) dX8_copy_118 rfl (by decide) rfl ?_
                          have L120 : ∀ (n_ : Nat) (k : Nat), 64 - k = n_ → (k ≤ nn) → Ev G mX8_copy Q_ 120 [(2, 49), (0, (sn : Int)), (0, (ii : Int)), (0, (tn : Int)), (0, (jj : Int)), (0, (nn : Int)), (0, (k : Int))] [] (rset mem 77 (mix (fun x => mem 76 (64 * sn + ii + x)) (mem 77) k)) := by
                            intro n_
                            induction n_ using Nat.strongRecOn with
                            | ind n_ ih120 =>
                              intro k hn_ zk
                              refine e_iload (pc := 120) dX8_copy_120 rfl ?_
                              refine e_iload (pc := 122) dX8_copy_122 rfl ?_
                              refine e_icmp_ge (pc := 124) (tgt := 154) dX8_copy_124 rfl (fun h124 => ?_) (fun h124 => ?_)
                              · skip
                                have zke : k = nn := by omega
                                rw [zke]
                                refine e_iconst (pc := 154) dX8_copy_154 (by decide) ?_
                                refine e_istore (pc := 155) (lo' := [(2, 49), (0, (sn : Int)), (0, (ii : Int)), (0, (tn : Int)), (0, (jj : Int)), (0, (nn : Int)), (0, 0)]) dX8_copy_155 rfl (by decide) rfl ?_
                                have L157 : ∀ (n_ : Nat) (k : Nat), 64 - k = n_ → (k ≤ nn) → Ev G mX8_copy Q_ 157 [(2, 49), (0, (sn : Int)), (0, (ii : Int)), (0, (tn : Int)), (0, (jj : Int)), (0, (nn : Int)), (0, (k : Int))] [] (rset (rset mem 77 (mix (fun x => mem 76 (64 * sn + ii + x)) (mem 77) nn)) 76 (cpy (mix (fun x => mem 76 (64 * sn + ii + x)) (mem 77) nn) (mem 76) 0 (64 * tn + jj) k)) := by
                                  intro n_
                                  induction n_ using Nat.strongRecOn with
                                  | ind n_ ih157 =>
                                    intro k hn_ zk2
                                    refine e_iload (pc := 157) dX8_copy_157 rfl ?_
                                    refine e_iload (pc := 159) dX8_copy_159 rfl ?_
                                    refine e_icmp_ge (pc := 161) (tgt := 192) dX8_copy_161 rfl (fun h161 => ?_) (fun h161 => ?_)
                                    · skip
                                      refine e_iconst (pc := 192) dX8_copy_192 (by decide) ?_
                                      have zke2 : k = nn := by omega
                                      rw [zke2]
                                      have zan : an_copy A (sn : Int) (ii : Int) (tn : Int) (jj : Int) (nn : Int) = 1 := by unfold an_copy; rw [if_pos (by omega), if_neg (show ¬ (A 47 (sn : Int).toNat = -1 ∨ A 47 (tn : Int).toNat = -1) from fun q => q.elim zts ztt), if_neg (show ¬ A 47 (sn : Int).toNat ≠ A 47 (tn : Int).toNat from fun q => q h53), if_neg (show ¬ ((nn : Int) < 0 ∨ ¬ (0 ≤ (ii : Int) ∧ (ii : Int) ≤ A 48 (sn : Int).toNat ∧ (nn : Int) ≤ A 48 (sn : Int).toNat - (ii : Int)) ∨ ¬ (0 ≤ (jj : Int) ∧ (jj : Int) ≤ A 48 (tn : Int).toNat ∧ (nn : Int) ≤ A 48 (tn : Int).toNat - (jj : Int))) from zok)]
                                      have zmi : MI (nx_copy A (sn : Int) (ii : Int) (tn : Int) (jj : Int) (nn : Int)) (rset (rset mem 77 (mix (fun x => mem 76 (64 * sn + ii + x)) (mem 77) nn)) 76 (cpy (mix (fun x => mem 76 (64 * sn + ii + x)) (mem 77) nn) (mem 76) 0 (64 * tn + jj) nn)) := by unfold nx_copy; rw [if_pos (by omega), if_neg (show ¬ (A 47 (sn : Int).toNat = -1 ∨ A 47 (tn : Int).toNat = -1) from fun q => q.elim zts ztt), if_neg (show ¬ A 47 (sn : Int).toNat ≠ A 47 (tn : Int).toNat from fun q => q h53), if_neg (show ¬ ((nn : Int) < 0 ∨ ¬ (0 ≤ (ii : Int) ∧ (ii : Int) ≤ A 48 (sn : Int).toNat ∧ (nn : Int) ≤ A 48 (sn : Int).toNat - (ii : Int)) ∨ ¬ (0 ≤ (jj : Int) ∧ (jj : Int) ≤ A 48 (tn : Int).toNat ∧ (nn : Int) ≤ A 48 (tn : Int).toNat - (jj : Int))) from zok)]; exact hM.copy hs ht zi1 zj1
                                      exact e_iret (pc := 193) dX8_copy_193 rfl (by rw [← hQ_]; exact ⟨by rw [zan], zmi, ((Fr.rf.rs (fun _ => rfl)).rs (fun _ => rfl))⟩)
                                    · skip
                                      refine e_aloadn (pc := 164) dX8_copy_164 rfl rfl ?_
                                      refine e_getr (pc := 165) (k := 76) dX8_copy_165 fX8_89 s_49 rfl (by decide) ?_
                                      refine e_bipush (pc := 168) dX8_copy_168 rfl (by decide) ?_
                                      refine e_iloadn (pc := 170) dX8_copy_170 rfl rfl ?_
                                      refine e_imuln (pc := 171) dX8_copy_171 (by omega) ?_
                                      refine e_iload (pc := 172) dX8_copy_172 rfl ?_
                                      refine e_iaddn (pc := 174) dX8_copy_174 (by omega) ?_
                                      refine e_iload (pc := 175) dX8_copy_175 rfl ?_
                                      refine e_iaddn (pc := 177) dX8_copy_177 (by omega) ?_
                                      refine e_aloadn (pc := 178) dX8_copy_178 rfl rfl ?_
                                      refine e_getr (pc := 179) (k := 77) dX8_copy_179 fX8_92 s_49 rfl (by decide) ?_
                                      refine e_iload (pc := 182) dX8_copy_182 rfl ?_
                                      refine e_ialdv (pc := 184) (v := ((mix (fun x => mem 76 (64 * sn + ii + x)) (mem 77) nn) k)) dX8_copy_184 s_77 (by omega) (rfl) ?_
                                      refine e_iastm (pc := 185) (mem2 := rset (rset mem 77 (mix (fun x => mem 76 (64 * sn + ii + x)) (mem 77) nn)) 76 (cpy (mix (fun x => mem 76 (64 * sn + ii + x)) (mem 77) nn) (mem 76) 0 (64 * tn + jj) (k + 1))) dX8_copy_185 s_76 (by omega) (by rw [show (64 * (tn : Int) + (jj : Int) + (k : Int)).toNat = 64 * tn + jj + k by omega, ← cpy_s]; exact mset_rset _ _ _ _ _) ?_
                                      refine e_iinc (pc := 186) (lo' := [(2, 49), (0, (sn : Int)), (0, (ii : Int)), (0, (tn : Int)), (0, (jj : Int)), (0, (nn : Int)), (0, (k : Int) + 1)]) dX8_copy_186 rfl (by omega) rfl (by decide) rfl ?_
                                      refine e_goto (pc := 189) (tgt := 157) dX8_copy_189 rfl ?_
                                      exact Ev.to (ih157 _ (by omega) (k + 1) (rfl) (by omega)) rfl rfl rfl
                                exact Ev.to (L157 _ 0 (rfl) (by omega)) rfl rfl (by rw [cpy_0]; exact (rset_self _ 76).symm)
                              · skip
                                refine e_aloadn (pc := 127) dX8_copy_127 rfl rfl ?_
                                refine e_getr (pc := 128) (k := 77) dX8_copy_128 fX8_92 s_49 rfl (by decide) ?_
                                refine e_iload (pc := 131) dX8_copy_131 rfl ?_
                                refine e_aloadn (pc := 133) dX8_copy_133 rfl rfl ?_
                                refine e_getr (pc := 134) (k := 76) dX8_copy_134 fX8_89 s_49 rfl (by decide) ?_
                                refine e_bipush (pc := 137) dX8_copy_137 rfl (by decide) ?_
                                refine e_iloadn (pc := 139) dX8_copy_139 rfl rfl ?_
                                refine e_imuln (pc := 140) dX8_copy_140 (by omega) ?_
                                refine e_iloadn (pc := 141) dX8_copy_141 rfl rfl ?_
                                refine e_iaddn (pc := 142) dX8_copy_142 (by omega) ?_
                                refine e_iload (pc := 143) dX8_copy_143 rfl ?_
                                refine e_iaddn (pc := 145) dX8_copy_145 (by omega) ?_
                                refine e_ialdv (pc := 146) (v := (mem 76 (64 * sn + ii + k))) dX8_copy_146 s_76 (by omega) (by rw [show (64 * (sn : Int) + (ii : Int) + (k : Int)).toNat = 64 * sn + ii + k by omega]; rfl) ?_
                                refine e_iastm (pc := 147) (mem2 := rset mem 77 (mix (fun x => mem 76 (64 * sn + ii + x)) (mem 77) (k + 1))) dX8_copy_147 s_77 (by omega) (by rw [← mix_s]; exact mset_rset _ _ _ _ _) ?_
                                refine e_iinc (pc := 148) (lo' := [(2, 49), (0, (sn : Int)), (0, (ii : Int)), (0, (tn : Int)), (0, (jj : Int)), (0, (nn : Int)), (0, (k : Int) + 1)]) dX8_copy_148 rfl (by omega) rfl (by decide) rfl ?_
                                refine e_goto (pc := 151) (tgt := 120) dX8_copy_151 rfl ?_
                                exact Ev.to (ih120 _ (by omega) (k + 1) (rfl) (by omega)) rfl rfl rfl
                          exact Ev.to (L120 _ 0 (rfl) (by omega)) rfl rfl (by rw [mix_0]; exact (rset_self _ 77).symm)
                        · skip
                          refine e_aloadn (pc := 111) dX8_copy_111 rfl rfl ?_
                          refine e_iconst (pc := 112) dX8_copy_112 (by decide) ?_
                          refine e_callVr (pc := 113) (as := [(0, 2)]) (st := []) (m_meets G (mem) 2 (by omega)) dX8_copy_113 lX8_copy_113 rfl s_49 cn_8 rfl rfl ?_
                          have zan : an_copy A (sn : Int) i (tn : Int) j n = -10 - 2 := by unfold an_copy; (rw [if_pos (by omega), if_neg (show ¬ (A 47 (sn : Int).toNat = -1 ∨ A 47 (tn : Int).toNat = -1) from fun q => q.elim zts ztt), if_neg (show ¬ A 47 (sn : Int).toNat ≠ A 47 (tn : Int).toNat from fun q => q h53), if_pos (show n < 0 ∨ ¬ (0 ≤ i ∧ i ≤ A 48 (sn : Int).toNat ∧ n ≤ A 48 (sn : Int).toNat - i) ∨ ¬ (0 ≤ j ∧ j ≤ A 48 (tn : Int).toNat ∧ n ≤ A 48 (tn : Int).toNat - j) by simp only [Int.toNat_natCast]; omega)]) <;> rfl
                          have zmi : MI (nx_copy A (sn : Int) i (tn : Int) j n) (mset mem 49 49 2) := by unfold nx_copy; rw [if_pos (by omega), if_neg (show ¬ (A 47 (sn : Int).toNat = -1 ∨ A 47 (tn : Int).toNat = -1) from fun q => q.elim zts ztt), if_neg (show ¬ A 47 (sn : Int).toNat ≠ A 47 (tn : Int).toNat from fun q => q h53), if_pos (show n < 0 ∨ ¬ (0 ≤ i ∧ i ≤ A 48 (sn : Int).toNat ∧ n ≤ A 48 (sn : Int).toNat - i) ∨ ¬ (0 ≤ j ∧ j ≤ A 48 (tn : Int).toNat ∧ n ≤ A 48 (tn : Int).toNat - j) by simp only [Int.toNat_natCast]; omega)]; exact hM.meet 2
                          exact e_iret (pc := 116) dX8_copy_116 rfl (by rw [← hQ_]; exact ⟨by rw [zan], zmi, (Fr.rf.ms rfl)⟩)
              · skip
                refine e_aloadn (pc := 56) dX8_copy_56 rfl rfl ?_
                refine e_iconst (pc := 57) dX8_copy_57 (by decide) ?_
                refine e_callVr (pc := 58) (as := [(0, 4)]) (st := []) (m_meets G (mem) 4 (by omega)) dX8_copy_58 lX8_copy_113 rfl s_49 cn_8 rfl rfl ?_
                have zan : an_copy A (sn : Int) i (tn : Int) j n = -10 - 4 := by unfold an_copy; (rw [if_pos (by omega), if_neg (show ¬ (A 47 (sn : Int).toNat = -1 ∨ A 47 (tn : Int).toNat = -1) from fun q => q.elim zts ztt), if_pos (show A 47 (sn : Int).toNat ≠ A 47 (tn : Int).toNat from h53)]) <;> rfl
                have zmi : MI (nx_copy A (sn : Int) i (tn : Int) j n) (mset mem 49 49 4) := by unfold nx_copy; rw [if_pos (by omega), if_neg (show ¬ (A 47 (sn : Int).toNat = -1 ∨ A 47 (tn : Int).toNat = -1) from fun q => q.elim zts ztt), if_pos (show A 47 (sn : Int).toNat ≠ A 47 (tn : Int).toNat from h53)]; exact hM.meet 4
                exact e_iret (pc := 61) dX8_copy_61 rfl (by rw [← hQ_]; exact ⟨by rw [zan], zmi, (Fr.rf.ms rfl)⟩)
            · skip
              have zgo : A 47 sn = -1 ∨ A 47 tn = -1 := Or.inr (Classical.byContradiction (fun q => by rw [if_neg q] at h32; omega))
              refine e_aloadn (pc := 35) dX8_copy_35 rfl rfl ?_
              refine e_iconst (pc := 36) dX8_copy_36 (by decide) ?_
              refine e_callVr (pc := 37) (as := [(0, 1)]) (st := []) (m_meets G (mem) 1 (by omega)) dX8_copy_37 lX8_copy_113 rfl s_49 cn_8 rfl rfl ?_
              have zan : an_copy A (sn : Int) i (tn : Int) j n = -10 - 1 := by unfold an_copy; (rw [if_pos (by omega), if_pos (show A 47 (sn : Int).toNat = -1 ∨ A 47 (tn : Int).toNat = -1 from zgo)]) <;> rfl
              have zmi : MI (nx_copy A (sn : Int) i (tn : Int) j n) (mset mem 49 49 1) := by unfold nx_copy; rw [if_pos (by omega), if_pos (show A 47 (sn : Int).toNat = -1 ∨ A 47 (tn : Int).toNat = -1 from zgo)]; exact hM.meet 1
              exact e_iret (pc := 40) dX8_copy_40 rfl (by rw [← hQ_]; exact ⟨by rw [zan], zmi, (Fr.rf.ms rfl)⟩)
        · skip
          exact absurd h11 (by decide)
      · rw [if_neg zct]
        refine e_if_ne (pc := 11) (tgt := 17) dX8_copy_11 rfl (fun h11 => ?_) (fun h11 => ?_)
        · skip
          exact absurd h11 (by decide)
        · skip
          refine e_bipush (pc := 14) dX8_copy_14 rfl (by decide) ?_
          have zan : an_copy A (sn : Int) i t j n = -2 := by unfold an_copy; rw [if_neg (by omega)]
          have zmi : MI (nx_copy A (sn : Int) i t j n) (mem) := by unfold nx_copy; rw [if_neg (by omega)]; exact hM
          exact e_iret (pc := 16) dX8_copy_16 rfl (by rw [← hQ_]; exact ⟨by rw [zan], zmi, Fr.rf⟩)
  · rw [if_neg zcs]
    refine e_if_eq (pc := 4) (tgt := 14) dX8_copy_4 rfl (fun h4 => ?_) (fun h4 => ?_)
    · skip
      refine e_bipush (pc := 14) dX8_copy_14 rfl (by decide) ?_
      have zan : an_copy A s i t j n = -2 := by unfold an_copy; rw [if_neg (by omega)]
      have zmi : MI (nx_copy A s i t j n) (mem) := by unfold nx_copy; rw [if_neg (by omega)]; exact hM
      exact e_iret (pc := 16) dX8_copy_16 rfl (by rw [← hQ_]; exact ⟨by rw [zan], zmi, Fr.rf⟩)
    · skip
      exact absurd h4 (by decide)

theorem m_read (G : Gm) (A mem : Mem) (s : Int) (hI : CI A) (hM : MI A mem) (hS : ShOk A) : Con G mX8_read [(2, 49), (0, s)] mem (fun r m' => r = some (0, an_read A s) ∧ MI (nx_read A s) m' ∧ Fr scZ mem m') := by
  refine Con.of (lo := [(2, 49), (0, s), (3, 0), (3, 0)]) (by decide +kernel) (Nat.le_of_ble_eq_true rfl) rfl ?_
  generalize hQ_ : (fun r m' => r = some (0, an_read A s) ∧ MI (nx_read A s) m' ∧ Fr scZ mem m' : Option AV → Mem → Prop) = Q_
  refine e_iloadn (pc := 0) dX8_read_0 rfl rfl ?_
  refine e_callSr (pc := 1) (as := [(0, s)]) (st := []) (v := (0, if 0 ≤ s ∧ s < 4 then 1 else 0)) (m_isSheet G mem s) dX8_read_1 lX8_read_110 rfl rfl rfl ?_
  by_cases zcs : 0 ≤ s ∧ s < 4
  · rw [if_pos zcs]
    obtain ⟨sn, rfl⟩ : ∃ sn : Nat, s = (sn : Int) := ⟨s.toNat, by omega⟩
    have hs : sn < 4 := by omega
    refine e_if_ne (pc := 4) (tgt := 10) dX8_read_4 rfl (fun h4 => ?_) (fun h4 => ?_)
    · skip
      refine e_aloadn (pc := 10) dX8_read_10 rfl rfl ?_
      refine e_getr (pc := 11) (k := 73) dX8_read_11 fX8_80 s_49 rfl (by decide) ?_
      refine e_iloadn (pc := 14) dX8_read_14 rfl rfl ?_
      refine e_zaldv (pc := 15) (v := (if A 47 sn = -1 then 0 else 1)) dX8_read_15 s_73 (by omega) ((hM.2.2.2.1.2 sn hs).1) ?_
      refine e_if_ne (pc := 16) (tgt := 25) dX8_read_16 rfl (fun h16 => ?_) (fun h16 => ?_)
      · skip
        have zth : A 47 sn ≠ -1 := fun q => h16 (by rw [if_pos q])
        obtain ⟨zs4, zs5⟩ := (hM.2.2.2.1.2 sn hs).2.1 zth
        have zsb := (hS sn hs).2
        obtain ⟨N, zn1, zn2, _⟩ := hI.2.2.2.2.1
        have zn3 := hM.1.1.trans zn1
        refine e_iconst (pc := 25) dX8_read_25 (by decide) ?_
        refine e_istoren (pc := 26) (lo' := [(2, 49), (0, (sn : Int)), (0, 0), (3, 0)]) dX8_read_26 rfl rfl (by decide) rfl ?_
        refine e_iconst (pc := 27) dX8_read_27 (by decide) ?_
        refine e_istoren (pc := 28) (lo' := [(2, 49), (0, (sn : Int)), (0, 0), (0, 0)]) dX8_read_28 rfl rfl (by decide) rfl ?_
        have L29 : ∀ (n_ : Nat) (k : Nat) (n : Nat) (am : Nat → Int), 8 - k = n_ → (k ≤ N) → (n ≤ k) → ((n : Int) ≤ A 48 sn) → (rdA (A 18) (A (43 + sn)) (A 48 sn) (mem 51) k = (true, n, am)) → Ev G mX8_read Q_ 29 [(2, 49), (0, (sn : Int)), (0, (n : Int)), (0, (k : Int))] [] (rset mem 51 am) := by
          intro n_
          induction n_ using Nat.strongRecOn with
          | ind n_ ih29 =>
            intro k n am hn_ zk znk zns zr
            refine e_iloadn (pc := 29) dX8_read_29 rfl rfl ?_
            refine e_aloadn (pc := 30) dX8_read_30 rfl rfl ?_
            refine e_getiv (pc := 31) (v := (N : Int)) dX8_read_31 fX8_99 s_49 rfl (by decide) (zn3) ?_
            refine e_icmp_ge (pc := 34) (tgt := 104) dX8_read_34 rfl (fun h34 => ?_) (fun h34 => ?_)
            · skip
              refine e_iloadn (pc := 104) dX8_read_104 rfl rfl ?_
              have zend : rdA (A 18) (A (43 + sn)) (A 48 sn) (mem 51) 8 = (true, n, am) := by
                have zkk : ∀ d : Nat, d ≤ 8 - k → rdA (A 18) (A (43 + sn)) (A 48 sn) (mem 51) (k + d) = (true, n, am) := by
                  intro d
                  induction d with
                  | zero => intro _; exact zr
                  | succ d ih =>
                    intro hd
                    refine rdA_skip (ih (by omega)) (fun q => ?_)
                    have q2 : A 18 (k + d) = 0 := q
                    have := hI.cm zn1 (c := k + d) (by omega)
                    rw [q2] at this
                    have := this.mp (by decide)
                    omega
                have := zkk (8 - k) (by omega)
                rw [show k + (8 - k) = 8 by omega] at this
                exact this
              have zam := rdA_am (kd := A 18) (it := A (43 + sn)) (sz := A 48 sn) (am := mem 51) (am' := A 19) 8
              rw [zend] at zam
              have zan : an_read A (sn : Int) = (n : Int) := by
                unfold an_read
                rw [if_pos zcs, if_neg (show ¬ A 47 (sn : Int).toNat = -1 from zth)]
                exact congrArg (fun z : Nat => (z : Int)) zam.1.2.symm
              have zmi : MI (nx_read A (sn : Int)) (rset mem 51 am) := by
                unfold nx_read
                rw [if_pos zcs, if_neg (show ¬ A 47 (sn : Int).toNat = -1 from zth)]
                exact hM.read (fun c hc hk => zam.2.2 c ((hM.1.2 c hc (by rw [hk]; decide)).1.2.1 hk)) (fun c hc hk => zam.2.1 c (by rw [hk]; decide))
              exact e_iret (pc := 105) dX8_read_105 rfl (by rw [← hQ_]; exact ⟨by rw [zan], zmi, Fr.rf.rs (fun _ => rfl)⟩)
            · skip
              refine e_aloadn (pc := 37) dX8_read_37 rfl rfl ?_
              refine e_getr (pc := 38) (k := 50) dX8_read_38 fX8_7 s_49 rfl (by decide) ?_
              refine e_iloadn (pc := 41) dX8_read_41 rfl rfl ?_
              refine e_ialdv (pc := 42) (v := (A 18 k)) dX8_read_42 s_50 (by omega) ((hM.1.2 k (by omega) ((hI.cm zn1 (by omega)).mpr (by omega))).1.1) ?_
              refine e_if_ne (pc := 43) (tgt := 98) dX8_read_43 rfl (fun h43 => ?_) (fun h43 => ?_)
              · skip
                refine e_iinc (pc := 98) (lo' := [(2, 49), (0, (sn : Int)), (0, (n : Int)), (0, (k : Int) + 1)]) dX8_read_98 rfl (by omega) rfl (by decide) rfl ?_
                refine e_goto (pc := 101) (tgt := 29) dX8_read_101 rfl ?_
                exact Ev.to (ih29 _ (by omega) (k + 1) n am (rfl) (by omega) (by omega) (by omega) (rdA_skip zr h43)) rfl rfl rfl
              · skip
                refine e_iloadn (pc := 46) dX8_read_46 rfl rfl ?_
                refine e_aloadn (pc := 47) dX8_read_47 rfl rfl ?_
                refine e_getr (pc := 48) (k := 75) dX8_read_48 fX8_86 s_49 rfl (by decide) ?_
                refine e_iloadn (pc := 51) dX8_read_51 rfl rfl ?_
                refine e_ialdv (pc := 52) (v := (A 48 sn)) dX8_read_52 s_75 (by omega) (zs5) ?_
                refine e_icmp_eq (pc := 53) (tgt := 76) dX8_read_53 rfl (fun h53 => ?_) (fun h53 => ?_)
                · skip
                  refine e_iloadn (pc := 76) dX8_read_76 rfl rfl ?_
                  have zend : rdA (A 18) (A (43 + sn)) (A 48 sn) (mem 51) 8 = (false, n, am) := by
                    have q := rdA_stop zr h43 (by first | exact Or.inl (by omega) | exact Or.inr zmy) (7 - k)
                    rw [show k + 1 + (7 - k) = 8 by omega] at q
                    exact q
                  have zam := rdA_am (kd := A 18) (it := A (43 + sn)) (sz := A 48 sn) (am := mem 51) (am' := A 19) 8
                  rw [zend] at zam
                  have zan : an_read A (sn : Int) = (n : Int) := by
                    unfold an_read
                    rw [if_pos zcs, if_neg (show ¬ A 47 (sn : Int).toNat = -1 from zth)]
                    exact congrArg (fun z : Nat => (z : Int)) zam.1.2.symm
                  have zmi : MI (nx_read A (sn : Int)) (rset mem 51 am) := by
                    unfold nx_read
                    rw [if_pos zcs, if_neg (show ¬ A 47 (sn : Int).toNat = -1 from zth)]
                    exact hM.read (fun c hc hk => zam.2.2 c ((hM.1.2 c hc (by rw [hk]; decide)).1.2.1 hk)) (fun c hc hk => zam.2.1 c (by rw [hk]; decide))
                  exact e_iret (pc := 77) dX8_read_77 rfl (by rw [← hQ_]; exact ⟨by rw [zan], zmi, Fr.rf.rs (fun _ => rfl)⟩)
                · skip
                  refine e_aloadn (pc := 56) dX8_read_56 rfl rfl ?_
                  refine e_getr (pc := 57) (k := 76) dX8_read_57 fX8_89 s_49 rfl (by decide) ?_
                  refine e_bipush (pc := 60) dX8_read_60 rfl (by decide) ?_
                  refine e_iloadn (pc := 62) dX8_read_62 rfl rfl ?_
                  refine e_imuln (pc := 63) dX8_read_63 (by omega) ?_
                  refine e_iloadn (pc := 64) dX8_read_64 rfl rfl ?_
                  refine e_iaddn (pc := 65) dX8_read_65 (by omega) ?_
                  refine e_ialdv (pc := 66) (v := (A (43 + sn) n)) dX8_read_66 s_76 (by omega) (by rw [show (64 * (sn : Int) + (n : Int)).toNat = 64 * sn + n by omega]; exact (hM.2.2.2.1.2 sn hs).2.2 n (by omega)) ?_
                  refine e_iconst (pc := 67) dX8_read_67 (by decide) ?_
                  refine e_bipush (pc := 68) dX8_read_68 rfl (by decide) ?_
                  refine e_callSr (pc := 70) (as := [(0, (A (43 + sn) n)), (0, 0), (0, 60)]) (st := []) (v := (0, if 0 ≤ A (43 + sn) n ∧ A (43 + sn) n ≤ 60 then 1 else 0)) (m_in G (rset mem 51 am) (A (43 + sn) n) 0 60) dX8_read_70 lX8_read_95 rfl rfl rfl ?_
                  by_cases zmy : 0 ≤ A (43 + sn) n ∧ A (43 + sn) n ≤ 60
                  · rw [if_pos zmy]
                    refine e_if_ne (pc := 73) (tgt := 78) dX8_read_73 rfl (fun h73 => ?_) (fun h73 => ?_)
                    · skip
                      refine e_aloadn (pc := 78) dX8_read_78 rfl rfl ?_
                      refine e_getr (pc := 79) (k := 51) dX8_read_79 fX8_13 s_49 rfl (by decide) ?_
                      refine e_iloadn (pc := 82) dX8_read_82 rfl rfl ?_
                      refine e_aloadn (pc := 83) dX8_read_83 rfl rfl ?_
                      refine e_getr (pc := 84) (k := 76) dX8_read_84 fX8_89 s_49 rfl (by decide) ?_
                      refine e_bipush (pc := 87) dX8_read_87 rfl (by decide) ?_
                      refine e_iloadn (pc := 89) dX8_read_89 rfl rfl ?_
                      refine e_imuln (pc := 90) dX8_read_90 (by omega) ?_
                      refine e_iloadn (pc := 91) dX8_read_91 rfl rfl ?_
                      refine e_iaddn (pc := 92) dX8_read_92 (by omega) ?_
                      refine e_ialdv (pc := 93) (v := (A (43 + sn) n)) dX8_read_93 s_76 (by omega) (by rw [show (64 * (sn : Int) + (n : Int)).toNat = 64 * sn + n by omega]; exact (hM.2.2.2.1.2 sn hs).2.2 n (by omega)) ?_
                      refine e_iastm (pc := 94) (mem2 := mset (rset mem 51 am) 51 k (A (43 + sn) n)) dX8_read_94 s_51 (by omega) rfl ?_
                      refine e_iinc (pc := 95) (lo' := [(2, 49), (0, (sn : Int)), (0, (n : Int) + 1), (0, (k : Int))]) dX8_read_95 rfl (by omega) rfl (by decide) rfl ?_
                      refine e_iinc (pc := 98) (lo' := [(2, 49), (0, (sn : Int)), (0, (n : Int) + 1), (0, (k : Int) + 1)]) dX8_read_98 rfl (by omega) rfl (by decide) rfl ?_
                      refine e_goto (pc := 101) (tgt := 29) dX8_read_101 rfl ?_
                      exact Ev.to (ih29 _ (by omega) (k + 1) (n + 1) (uset am k (A (43 + sn) n)) (rfl) (by omega) (by omega) (by omega) (rdA_go zr h43 (by omega) zmy)) rfl rfl (mset_rset _ _ _ _ _)
                    · skip
                      exact absurd h73 (by decide)
                  · rw [if_neg zmy]
                    refine e_if_ne (pc := 73) (tgt := 78) dX8_read_73 rfl (fun h73 => ?_) (fun h73 => ?_)
                    · skip
                      exact absurd h73 (by decide)
                    · skip
                      refine e_iloadn (pc := 76) dX8_read_76 rfl rfl ?_
                      have zend : rdA (A 18) (A (43 + sn)) (A 48 sn) (mem 51) 8 = (false, n, am) := by
                        have q := rdA_stop zr h43 (by first | exact Or.inl (by omega) | exact Or.inr zmy) (7 - k)
                        rw [show k + 1 + (7 - k) = 8 by omega] at q
                        exact q
                      have zam := rdA_am (kd := A 18) (it := A (43 + sn)) (sz := A 48 sn) (am := mem 51) (am' := A 19) 8
                      rw [zend] at zam
                      have zan : an_read A (sn : Int) = (n : Int) := by
                        unfold an_read
                        rw [if_pos zcs, if_neg (show ¬ A 47 (sn : Int).toNat = -1 from zth)]
                        exact congrArg (fun z : Nat => (z : Int)) zam.1.2.symm
                      have zmi : MI (nx_read A (sn : Int)) (rset mem 51 am) := by
                        unfold nx_read
                        rw [if_pos zcs, if_neg (show ¬ A 47 (sn : Int).toNat = -1 from zth)]
                        exact hM.read (fun c hc hk => zam.2.2 c ((hM.1.2 c hc (by rw [hk]; decide)).1.2.1 hk)) (fun c hc hk => zam.2.1 c (by rw [hk]; decide))
                      exact e_iret (pc := 77) dX8_read_77 rfl (by rw [← hQ_]; exact ⟨by rw [zan], zmi, Fr.rf.rs (fun _ => rfl)⟩)
        exact Ev.to (L29 _ 0 0 (mem 51) (rfl) (by omega) (by omega) (by omega) (rfl)) rfl rfl (by rw [rset_self])
      · skip
        have zth : A 47 sn = -1 := Classical.byContradiction (fun q => by rw [if_neg q] at h16; omega)
        refine e_aloadn (pc := 19) dX8_read_19 rfl rfl ?_
        refine e_iconst (pc := 20) dX8_read_20 (by decide) ?_
        refine e_callVr (pc := 21) (as := [(0, 1)]) (st := []) (m_meets G (mem) 1 (by omega)) dX8_read_21 lX8_read_113 rfl s_49 cn_8 rfl rfl ?_
        have zan : an_read A (sn : Int) = -10 - 1 := by unfold an_read; (rw [if_pos zcs, if_pos (show A 47 (sn : Int).toNat = -1 from zth)]) <;> rfl
        have zmi : MI (nx_read A (sn : Int)) (mset mem 49 49 1) := by unfold nx_read; rw [if_pos zcs, if_pos (show A 47 (sn : Int).toNat = -1 from zth)]; exact hM.meet 1
        exact e_iret (pc := 24) dX8_read_24 rfl (by rw [← hQ_]; exact ⟨by rw [zan], zmi, (Fr.rf.ms rfl)⟩)
    · skip
      exact absurd h4 (by decide)
  · rw [if_neg zcs]
    refine e_if_ne (pc := 4) (tgt := 10) dX8_read_4 rfl (fun h4 => ?_) (fun h4 => ?_)
    · skip
      exact absurd h4 (by decide)
    · skip
      refine e_bipush (pc := 7) dX8_read_7 rfl (by decide) ?_
      have zan : an_read A s = -2 := by unfold an_read; rw [if_neg zcs]
      have zmi : MI (nx_read A s) (mem) := by unfold nx_read; rw [if_neg zcs]; exact hM
      exact e_iret (pc := 9) dX8_read_9 rfl (by rw [← hQ_]; exact ⟨by rw [zan], zmi, Fr.rf⟩)
