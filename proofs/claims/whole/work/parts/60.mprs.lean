def scF (c j : Nat) : Bool := c == 59 || c == 60 || c == 61 || (c == 49 && (decide (14 ≤ j) && decide (j ≤ 17)))
def scF2 (c j : Nat) : Bool := c == 59 || c == 60 || c == 61 || (c == 49 && (decide (15 ≤ j) && decide (j ≤ 17)))
theorem scF12 {mem zm : Mem} (zf : Fr scF2 mem zm) : Fr scF mem zm := zf.mono (fun c j q => by unfold scF at q; unfold scF2; simp at q ⊢; omega)
theorem MI.f {A zm zn : Mem} (zf : Fr scF zm zn) (h : MI A zm) (hD : MD A zn) : MI A zn := by
  have r : ∀ c, c ≠ 49 → c ≠ 59 → c ≠ 60 → c ≠ 61 → zn c = zm c := fun c h1 h2 h3 h4 => funext (fun j => zf c j (by unfold scF; simp; omega))
  have r3 : ∀ j, (j < 14 ∨ 17 < j) → zn 49 j = zm 49 j := fun j h1 => zf 49 j (by unfold scF; simp; omega)
  obtain ⟨h1, h2, h3, h4, _⟩ := h
  refine ⟨?_, ?_, ?_, ?_, hD⟩
  · unfold MPc; rw [r3 0 (by omega), r 50 (by omega) (by omega) (by omega) (by omega), r 51 (by omega) (by omega) (by omega) (by omega), r 52 (by omega) (by omega) (by omega) (by omega), r 53 (by omega) (by omega) (by omega) (by omega), r 54 (by omega) (by omega) (by omega) (by omega), r 55 (by omega) (by omega) (by omega) (by omega), r 56 (by omega) (by omega) (by omega) (by omega), r 57 (by omega) (by omega) (by omega) (by omega)]; exact h1
  · unfold MPt; rw [r3 9 (by omega), r3 10 (by omega), r3 11 (by omega)]; exact h2
  · unfold MPx; rw [r3 12 (by omega), r 58 (by omega) (by omega) (by omega) (by omega)]; exact h3
  · unfold MPs; rw [r3 49 (by omega), r 73 (by omega) (by omega) (by omega) (by omega), r 74 (by omega) (by omega) (by omega) (by omega), r 75 (by omega) (by omega) (by omega) (by omega), r 76 (by omega) (by omega) (by omega) (by omega)]; exact h4
/-- the reader of the model stands at a -/
def TxM (tx : Nat → Int) (mem : Mem) (L a : Nat) : Prop := mem 49 12 = (L : Int) ∧ L ≤ 40 ∧ mem 49 15 = (a : Int) ∧ a ≤ L ∧ (∀ j, j < 40 → mem 58 j = tx j) ∧ ∀ j, j < 40 → 0 ≤ tx j ∧ tx j ≤ 255
theorem hr_bd {tx : Nat → Int} {L a : Nat} (h : ∀ j, j < 40 → 0 ≤ tx j ∧ tx j ≤ 255) (hL : L ≤ 40) : -1 ≤ hrT tx L a ∧ hrT tx L a ≤ 255 := by
  unfold hrT
  split
  · have := h a (by omega); omega
  · omega
theorem hr_lt {tx : Nat → Int} {L a : Nat} (h : 0 ≤ hrT tx L a) : a < L := by
  rcases Nat.lt_or_ge a L with z | z
  · exact z
  · exfalso; unfold hrT at h; rw [if_neg (by omega)] at h; omega

theorem m_number (G : Gm) (mem : Mem) (tx : Nat → Int) (L a f : Nat) (lw hh : Int) (hf : f ≤ 2) (hI : TxM tx mem L a) : Con G mX8_number [(2, 49), (0, (f : Int)), (0, lw), (0, hh)] mem (fun r m' => r = some (0, (nmb tx L f a 0).2) ∧ ((nBadB (nmb tx L f a 0) a lw hh = true ∧ m' = mset (mset mem 49 15 (((nmb tx L f a 0).1 : Nat) : Int)) 49 16 (a : Int)) ∨ (nBadB (nmb tx L f a 0) a lw hh = false ∧ m' = mset mem 49 15 (((nmb tx L f a 0).1 : Nat) : Int)))) := by
  refine Con.of (lo := [(2, 49), (0, (f : Int)), (0, lw), (0, hh), (3, 0), (3, 0)]) (by decide +kernel) (Nat.le_of_ble_eq_true rfl) rfl ?_
  generalize hQ_ : (fun r m' => r = some (0, (nmb tx L f a 0).2) ∧ ((nBadB (nmb tx L f a 0) a lw hh = true ∧ m' = mset (mset mem 49 15 (((nmb tx L f a 0).1 : Nat) : Int)) 49 16 (a : Int)) ∨ (nBadB (nmb tx L f a 0) a lw hh = false ∧ m' = mset mem 49 15 (((nmb tx L f a 0).1 : Nat) : Int))) : Option AV → Mem → Prop) = Q_
  refine e_aloadn (pc := 0) dX8_number_0 rfl rfl ?_
  refine e_getiv (pc := 1) (v := (a : Int)) dX8_number_1 fX8_133 s_49 rfl (by decide) (hI.2.2.1) ?_
  refine e_istore (pc := 4) (lo' := [(2, 49), (0, (f : Int)), (0, lw), (0, hh), (0, (a : Int)), (3, 0)]) dX8_number_4 rfl (by decide) rfl ?_
  refine e_iconst (pc := 6) dX8_number_6 (by decide) ?_
  refine e_istore (pc := 7) (lo' := [(2, 49), (0, (f : Int)), (0, lw), (0, hh), (0, (a : Int)), (0, 0)]) dX8_number_7 rfl (by decide) rfl ?_
  have L9 : ∀ (n_ : Nat) (j : Nat) (b : Nat) (v : Int), f - j = n_ → (j ≤ f) → (b = a + j ∧ b ≤ L) → (0 ≤ v ∧ v ≤ 99 ∧ (j = 0 → v = 0) ∧ (j ≤ 1 → v ≤ 9)) → (nmb tx L f a 0 = nmb tx L (f - j) b v) → Ev G mX8_number Q_ 9 [(2, 49), (0, (f : Int)), (0, lw), (0, hh), (0, (a : Int)), (0, v)] [] (mset mem 49 15 (b : Int)) := by
    intro n_
    induction n_ using Nat.strongRecOn with
    | ind n_ ih9 =>
      intro j b v hn_ zj zb zv zn
      have zL := hI.2.1
      have zhb := hr_bd (a := b) hI.2.2.2.2.2 hI.2.1
      refine e_aloadn (pc := 9) dX8_number_9 rfl rfl ?_
      refine e_getiv (pc := 10) (v := (b : Int)) dX8_number_10 fX8_133 s_49 rfl (by decide) rfl ?_
      refine e_iload (pc := 13) dX8_number_13 rfl ?_
      refine e_iloadn (pc := 15) dX8_number_15 rfl rfl ?_
      refine e_iaddn (pc := 16) dX8_number_16 (by omega) ?_
      refine e_icmp_ge (pc := 17) (tgt := 66) dX8_number_17 rfl (fun h17 => ?_) (fun h17 => ?_)
      · skip
        have zq : nmb tx L f a 0 = (b, v) := by
          rw [zn]
          rw [show f - j = 0 by omega]; rfl
        refine e_aloadn (pc := 66) dX8_number_66 rfl rfl ?_
        refine e_getiv (pc := 67) (v := (b : Int)) dX8_number_67 fX8_133 s_49 rfl (by decide) rfl ?_
        refine e_iload (pc := 70) dX8_number_70 rfl ?_
        refine e_icmp_eq (pc := 72) (tgt := 85) dX8_number_72 rfl (fun h72 => ?_) (fun h72 => ?_)
        · skip
          refine e_aloadn (pc := 85) dX8_number_85 rfl rfl ?_
          refine e_iload (pc := 86) dX8_number_86 rfl ?_
          refine e_putI (pc := 88) (mem2 := mset (mset mem 49 15 (b : Int)) 49 16 (a : Int)) dX8_number_88 fX8_140 s_49 rfl (by decide) pw_8_16 rfl ?_
          refine e_iload (pc := 91) dX8_number_91 rfl ?_
          have zbd : nBadB (b, v) a lw hh = true := by unfold nBadB; simp only [decide_eq_true_eq]; omega
          exact e_iret (pc := 93) dX8_number_93 rfl (by rw [← hQ_, zq]; exact ⟨rfl, Or.inl ⟨zbd, rfl⟩⟩)
        · skip
          refine e_iload (pc := 75) dX8_number_75 rfl ?_
          refine e_iloadn (pc := 77) dX8_number_77 rfl rfl ?_
          refine e_iloadn (pc := 78) dX8_number_78 rfl rfl ?_
          refine e_callSr (pc := 79) (as := [(0, v), (0, lw), (0, hh)]) (st := []) (v := (0, if lw ≤ v ∧ v ≤ hh then 1 else 0)) (m_in G (mset mem 49 15 (b : Int)) v lw hh) dX8_number_79 lX8_number_95 rfl rfl rfl ?_
          by_cases zin : lw ≤ v ∧ v ≤ hh
          · rw [if_pos zin]
            refine e_if_ne (pc := 82) (tgt := 91) dX8_number_82 rfl (fun h82 => ?_) (fun h82 => ?_)
            · skip
              refine e_iload (pc := 91) dX8_number_91 rfl ?_
              have zbd : nBadB (b, v) a lw hh = false := by unfold nBadB; simp only [decide_eq_false_iff_not]; omega
              exact e_iret (pc := 93) dX8_number_93 rfl (by rw [← hQ_, zq]; exact ⟨rfl, Or.inr ⟨zbd, rfl⟩⟩)
            · skip
              exact absurd h82 (by decide)
          · rw [if_neg zin]
            refine e_if_ne (pc := 82) (tgt := 91) dX8_number_82 rfl (fun h82 => ?_) (fun h82 => ?_)
            · skip
              exact absurd h82 (by decide)
            · skip
              refine e_aloadn (pc := 85) dX8_number_85 rfl rfl ?_
              refine e_iload (pc := 86) dX8_number_86 rfl ?_
              refine e_putI (pc := 88) (mem2 := mset (mset mem 49 15 (b : Int)) 49 16 (a : Int)) dX8_number_88 fX8_140 s_49 rfl (by decide) pw_8_16 rfl ?_
              refine e_iload (pc := 91) dX8_number_91 rfl ?_
              have zbd : nBadB (b, v) a lw hh = true := by unfold nBadB; simp only [decide_eq_true_eq]; omega
              exact e_iret (pc := 93) dX8_number_93 rfl (by rw [← hQ_, zq]; exact ⟨rfl, Or.inl ⟨zbd, rfl⟩⟩)
      · skip
        refine e_aloadn (pc := 20) dX8_number_20 rfl rfl ?_
        refine e_callVr (pc := 21) (as := []) (st := []) ((show Con G mX8_byteNow [(2, 49)] (mset mem 49 15 (b : Int)) (fun r m' => r = some (0, hrT tx L b) ∧ m' = mset mem 49 15 (b : Int)) from m_byteNow G (mset mem 49 15 (b : Int)) tx L b hI.1 hI.2.1 rfl hI.2.2.2.2.1)) dX8_number_21 lX8_number_136 rfl s_49 cn_8 rfl rfl ?_
        refine e_bipush (pc := 24) dX8_number_24 rfl (by decide) ?_
        refine e_icmp_lt (pc := 26) (tgt := 66) dX8_number_26 rfl (fun h26 => ?_) (fun h26 => ?_)
        · skip
          have zq : nmb tx L f a 0 = (b, v) := by
            rw [zn]
            rw [show f - j = (f - (j + 1)) + 1 by omega, nmb_s, if_neg (fun z => by omega)]
          refine e_aloadn (pc := 66) dX8_number_66 rfl rfl ?_
          refine e_getiv (pc := 67) (v := (b : Int)) dX8_number_67 fX8_133 s_49 rfl (by decide) rfl ?_
          refine e_iload (pc := 70) dX8_number_70 rfl ?_
          refine e_icmp_eq (pc := 72) (tgt := 85) dX8_number_72 rfl (fun h72 => ?_) (fun h72 => ?_)
          · skip
            refine e_aloadn (pc := 85) dX8_number_85 rfl rfl ?_
            refine e_iload (pc := 86) dX8_number_86 rfl ?_
            refine e_putI (pc := 88) (mem2 := mset (mset mem 49 15 (b : Int)) 49 16 (a : Int)) dX8_number_88 fX8_140 s_49 rfl (by decide) pw_8_16 rfl ?_
            refine e_iload (pc := 91) dX8_number_91 rfl ?_
            have zbd : nBadB (b, v) a lw hh = true := by unfold nBadB; simp only [decide_eq_true_eq]; omega
            exact e_iret (pc := 93) dX8_number_93 rfl (by rw [← hQ_, zq]; exact ⟨rfl, Or.inl ⟨zbd, rfl⟩⟩)
          · skip
            refine e_iload (pc := 75) dX8_number_75 rfl ?_
            refine e_iloadn (pc := 77) dX8_number_77 rfl rfl ?_
            refine e_iloadn (pc := 78) dX8_number_78 rfl rfl ?_
            refine e_callSr (pc := 79) (as := [(0, v), (0, lw), (0, hh)]) (st := []) (v := (0, if lw ≤ v ∧ v ≤ hh then 1 else 0)) (m_in G (mset mem 49 15 (b : Int)) v lw hh) dX8_number_79 lX8_number_95 rfl rfl rfl ?_
            by_cases zin : lw ≤ v ∧ v ≤ hh
            · rw [if_pos zin]
              refine e_if_ne (pc := 82) (tgt := 91) dX8_number_82 rfl (fun h82 => ?_) (fun h82 => ?_)
              · skip
                refine e_iload (pc := 91) dX8_number_91 rfl ?_
                have zbd : nBadB (b, v) a lw hh = false := by unfold nBadB; simp only [decide_eq_false_iff_not]; omega
                exact e_iret (pc := 93) dX8_number_93 rfl (by rw [← hQ_, zq]; exact ⟨rfl, Or.inr ⟨zbd, rfl⟩⟩)
              · skip
                exact absurd h82 (by decide)
            · rw [if_neg zin]
              refine e_if_ne (pc := 82) (tgt := 91) dX8_number_82 rfl (fun h82 => ?_) (fun h82 => ?_)
              · skip
                exact absurd h82 (by decide)
              · skip
                refine e_aloadn (pc := 85) dX8_number_85 rfl rfl ?_
                refine e_iload (pc := 86) dX8_number_86 rfl ?_
                refine e_putI (pc := 88) (mem2 := mset (mset mem 49 15 (b : Int)) 49 16 (a : Int)) dX8_number_88 fX8_140 s_49 rfl (by decide) pw_8_16 rfl ?_
                refine e_iload (pc := 91) dX8_number_91 rfl ?_
                have zbd : nBadB (b, v) a lw hh = true := by unfold nBadB; simp only [decide_eq_true_eq]; omega
                exact e_iret (pc := 93) dX8_number_93 rfl (by rw [← hQ_, zq]; exact ⟨rfl, Or.inl ⟨zbd, rfl⟩⟩)
        · skip
          refine e_aloadn (pc := 29) dX8_number_29 rfl rfl ?_
          refine e_callVr (pc := 30) (as := []) (st := []) ((show Con G mX8_byteNow [(2, 49)] (mset mem 49 15 (b : Int)) (fun r m' => r = some (0, hrT tx L b) ∧ m' = mset mem 49 15 (b : Int)) from m_byteNow G (mset mem 49 15 (b : Int)) tx L b hI.1 hI.2.1 rfl hI.2.2.2.2.1)) dX8_number_30 lX8_number_136 rfl s_49 cn_8 rfl rfl ?_
          refine e_bipush (pc := 33) dX8_number_33 rfl (by decide) ?_
          refine e_icmp_gt (pc := 35) (tgt := 66) dX8_number_35 rfl (fun h35 => ?_) (fun h35 => ?_)
          · skip
            have zq : nmb tx L f a 0 = (b, v) := by
              rw [zn]
              rw [show f - j = (f - (j + 1)) + 1 by omega, nmb_s, if_neg (fun z => by omega)]
            refine e_aloadn (pc := 66) dX8_number_66 rfl rfl ?_
            refine e_getiv (pc := 67) (v := (b : Int)) dX8_number_67 fX8_133 s_49 rfl (by decide) rfl ?_
            refine e_iload (pc := 70) dX8_number_70 rfl ?_
            refine e_icmp_eq (pc := 72) (tgt := 85) dX8_number_72 rfl (fun h72 => ?_) (fun h72 => ?_)
            · skip
              refine e_aloadn (pc := 85) dX8_number_85 rfl rfl ?_
              refine e_iload (pc := 86) dX8_number_86 rfl ?_
              refine e_putI (pc := 88) (mem2 := mset (mset mem 49 15 (b : Int)) 49 16 (a : Int)) dX8_number_88 fX8_140 s_49 rfl (by decide) pw_8_16 rfl ?_
              refine e_iload (pc := 91) dX8_number_91 rfl ?_
              have zbd : nBadB (b, v) a lw hh = true := by unfold nBadB; simp only [decide_eq_true_eq]; omega
              exact e_iret (pc := 93) dX8_number_93 rfl (by rw [← hQ_, zq]; exact ⟨rfl, Or.inl ⟨zbd, rfl⟩⟩)
            · skip
              refine e_iload (pc := 75) dX8_number_75 rfl ?_
              refine e_iloadn (pc := 77) dX8_number_77 rfl rfl ?_
              refine e_iloadn (pc := 78) dX8_number_78 rfl rfl ?_
              refine e_callSr (pc := 79) (as := [(0, v), (0, lw), (0, hh)]) (st := []) (v := (0, if lw ≤ v ∧ v ≤ hh then 1 else 0)) (m_in G (mset mem 49 15 (b : Int)) v lw hh) dX8_number_79 lX8_number_95 rfl rfl rfl ?_
              by_cases zin : lw ≤ v ∧ v ≤ hh
              · rw [if_pos zin]
                refine e_if_ne (pc := 82) (tgt := 91) dX8_number_82 rfl (fun h82 => ?_) (fun h82 => ?_)
                · skip
                  refine e_iload (pc := 91) dX8_number_91 rfl ?_
                  have zbd : nBadB (b, v) a lw hh = false := by unfold nBadB; simp only [decide_eq_false_iff_not]; omega
                  exact e_iret (pc := 93) dX8_number_93 rfl (by rw [← hQ_, zq]; exact ⟨rfl, Or.inr ⟨zbd, rfl⟩⟩)
                · skip
                  exact absurd h82 (by decide)
              · rw [if_neg zin]
                refine e_if_ne (pc := 82) (tgt := 91) dX8_number_82 rfl (fun h82 => ?_) (fun h82 => ?_)
                · skip
                  exact absurd h82 (by decide)
                · skip
                  refine e_aloadn (pc := 85) dX8_number_85 rfl rfl ?_
                  refine e_iload (pc := 86) dX8_number_86 rfl ?_
                  refine e_putI (pc := 88) (mem2 := mset (mset mem 49 15 (b : Int)) 49 16 (a : Int)) dX8_number_88 fX8_140 s_49 rfl (by decide) pw_8_16 rfl ?_
                  refine e_iload (pc := 91) dX8_number_91 rfl ?_
                  have zbd : nBadB (b, v) a lw hh = true := by unfold nBadB; simp only [decide_eq_true_eq]; omega
                  exact e_iret (pc := 93) dX8_number_93 rfl (by rw [← hQ_, zq]; exact ⟨rfl, Or.inl ⟨zbd, rfl⟩⟩)
          · skip
            have zbL : b < L := hr_lt (tx := tx) (by omega)
            refine e_bipush (pc := 38) dX8_number_38 rfl (by decide) ?_
            refine e_iload (pc := 40) dX8_number_40 rfl ?_
            refine e_imuln (pc := 42) dX8_number_42 (by omega) ?_
            refine e_aloadn (pc := 43) dX8_number_43 rfl rfl ?_
            refine e_callVr (pc := 44) (as := []) (st := [(0, 10 * v)]) ((show Con G mX8_byteNow [(2, 49)] (mset mem 49 15 (b : Int)) (fun r m' => r = some (0, hrT tx L b) ∧ m' = mset mem 49 15 (b : Int)) from m_byteNow G (mset mem 49 15 (b : Int)) tx L b hI.1 hI.2.1 rfl hI.2.2.2.2.1)) dX8_number_44 lX8_number_136 rfl s_49 cn_8 rfl rfl ?_
            refine e_iaddn (pc := 47) dX8_number_47 (by omega) ?_
            refine e_bipush (pc := 48) dX8_number_48 rfl (by decide) ?_
            refine e_isubn (pc := 50) dX8_number_50 (by omega) ?_
            refine e_istore (pc := 51) (lo' := [(2, 49), (0, (f : Int)), (0, lw), (0, hh), (0, (a : Int)), (0, ((10 * v) + (hrT tx L b)) - 48)]) dX8_number_51 rfl (by decide) rfl ?_
            refine e_aloadn (pc := 53) dX8_number_53 rfl rfl ?_
            refine e_dup (pc := 54) dX8_number_54 rfl ?_
            refine e_getiv (pc := 55) (v := (b : Int)) dX8_number_55 fX8_133 s_49 rfl (by decide) rfl ?_
            refine e_iconst (pc := 58) dX8_number_58 (by decide) ?_
            refine e_iaddn (pc := 59) dX8_number_59 (by omega) ?_
            refine e_putI (pc := 60) (mem2 := mset mem 49 15 ((b + 1 : Nat) : Int)) dX8_number_60 fX8_133 s_49 rfl (by decide) pw_8_15 (by rw [mset_mset]; rfl) ?_
            refine e_goto (pc := 63) (tgt := 9) dX8_number_63 rfl ?_
            exact Ev.to (ih9 _ (by omega) (j + 1) (b + 1) (v * 10 + hrT tx L b - 48) (rfl) (by omega) (by omega) (by omega) (by rw [zn, show f - j = (f - (j + 1)) + 1 by omega, nmb_s, if_pos ⟨h26, h35⟩])) (by rw [show 10 * v + hrT tx L b - 48 = v * 10 + hrT tx L b - 48 by omega]) rfl rfl
  exact Ev.to (L9 _ 0 a 0 (rfl) (by omega) (by have z1 := hI.2.2.2.1; omega) (by omega) (rfl)) rfl rfl ((mset_self _ _ _ hI.2.2.1).symm)

theorem m_condition (G : Gm) (mem : Mem) (tx : Nat → Int) (L a K : Nat) (g : Int) (hI : TxM tx mem L a) (hK : mem 49 17 = (K : Int)) (hK2 : K < 40) (hF : mem 49 16 = -1) (hg : g = 0 ∨ g = 1) : Con G mX8_condition [(2, 49), (0, g)] mem (fun r m' => r = none ∧ Fr scF2 mem m' ∧ ((cnR tx L a = none ∧ m' 49 16 = ((cnF tx L a : Nat) : Int)) ∨ ∃ (b v : Int) (a2 : Nat), cnR tx L a = some (b, v, a2) ∧ Nw mem m' K b v g a2)) := by
  refine Con.of (lo := [(2, 49), (0, g), (3, 0)]) (by decide +kernel) (Nat.le_of_ble_eq_true rfl) rfl ?_
  generalize hQ_ : (fun r m' => r = none ∧ Fr scF2 mem m' ∧ ((cnR tx L a = none ∧ m' 49 16 = ((cnF tx L a : Nat) : Int)) ∨ ∃ (b v : Int) (a2 : Nat), cnR tx L a = some (b, v, a2) ∧ Nw mem m' K b v g a2) : Option AV → Mem → Prop) = Q_
  have zb1 := hI.2.1
  have zb2 := hI.2.2.2.1
  refine e_aloadn (pc := 0) dX8_condition_0 rfl rfl ?_
  refine e_callVr (pc := 1) (as := []) (st := []) ((show Con G mX8_byteNow [(2, 49)] (mem) (fun r m' => r = some (0, hrT tx L a) ∧ m' = mem) from m_byteNow G (mem) tx L a hI.1 hI.2.1 hI.2.2.1 hI.2.2.2.2.1)) dX8_condition_1 lX8_condition_136 rfl s_49 cn_8 rfl rfl ?_
  refine e_istoren (pc := 4) (lo' := [(2, 49), (0, g), (0, hrT tx L a)]) dX8_condition_4 rfl rfl (by decide) rfl ?_
  refine e_iloadn (pc := 5) dX8_condition_5 rfl rfl ?_
  refine e_bipush (pc := 6) dX8_condition_6 rfl (by decide) ?_
  refine e_icmp_eq (pc := 8) (tgt := 38) dX8_condition_8 rfl (fun h8 => ?_) (fun h8 => ?_)
  · skip
    refine e_aloadn (pc := 38) dX8_condition_38 rfl rfl ?_
    refine e_dup (pc := 39) dX8_condition_39 rfl ?_
    refine e_getiv (pc := 40) (v := (a : Int)) dX8_condition_40 fX8_133 s_49 rfl (by decide) (hI.2.2.1) ?_
    refine e_iconst (pc := 43) dX8_condition_43 (by decide) ?_
    refine e_iaddn (pc := 44) dX8_condition_44 (by omega) ?_
    refine e_putI (pc := 45) (mem2 := mset mem 49 15 ((a : Int) + 1)) dX8_condition_45 fX8_133 s_49 rfl (by decide) pw_8_15 rfl ?_
    refine e_aloadn (pc := 48) dX8_condition_48 rfl rfl ?_
    refine e_getr (pc := 49) (k := 59) dX8_condition_49 fX8_37 s_49 rfl (by decide) ?_
    refine e_aloadn (pc := 52) dX8_condition_52 rfl rfl ?_
    refine e_getiv (pc := 53) (v := (K : Int)) dX8_condition_53 fX8_143 s_49 rfl (by decide) (hK) ?_
    refine e_iloadn (pc := 56) dX8_condition_56 rfl rfl ?_
    refine e_iastm (pc := 57) (mem2 := mset (mset mem 49 15 ((a : Int) + 1)) 59 K (hrT tx L a)) dX8_condition_57 s_59 (by omega) rfl ?_
    refine e_aloadn (pc := 58) dX8_condition_58 rfl rfl ?_
    refine e_getr (pc := 59) (k := 60) dX8_condition_59 fX8_40 s_49 rfl (by decide) ?_
    refine e_aloadn (pc := 62) dX8_condition_62 rfl rfl ?_
    refine e_getiv (pc := 63) (v := (K : Int)) dX8_condition_63 fX8_143 s_49 rfl (by decide) (hK) ?_
    refine e_iloadn (pc := 66) dX8_condition_66 rfl rfl ?_
    refine e_bipush (pc := 67) dX8_condition_67 rfl (by decide) ?_
    refine e_icmp_ne (pc := 69) (tgt := 83) dX8_condition_69 rfl (fun h69 => ?_) (fun h69 => ?_)
    · skip
      exfalso; omega
    · skip
      refine e_aloadn (pc := 72) dX8_condition_72 rfl rfl ?_
      refine e_iconst (pc := 73) dX8_condition_73 (by decide) ?_
      refine e_iconst (pc := 74) dX8_condition_74 (by decide) ?_
      refine e_bipush (pc := 75) dX8_condition_75 rfl (by decide) ?_
      have zaL : a < L := hr_lt (tx := tx) (by omega)
      have zT : TxM tx (mset (mset mem 49 15 ((a : Int) + 1)) 59 K (hrT tx L a)) L (a + 1) := ⟨hI.1, hI.2.1, rfl, zaL, hI.2.2.2.2.1, hI.2.2.2.2.2⟩
      refine e_callV (pc := 77) (as := [(0, 2), (0, 0), (0, 59)]) (st := [(0, (K : Int)), (2, 60)]) (m_number G (mset (mset mem 49 15 ((a : Int) + 1)) 59 K (hrT tx L a)) tx L (a + 1) 2 0 59 (by decide) zT) dX8_condition_77 lX8_condition_146 rfl s_49 cn_8 rfl rfl (fun r_ zm1 hq_ => ?_)
      obtain ⟨zr_, zor⟩ := hq_
      subst zr_
      refine Ev.to (st' := [(0, (nmb tx L 2 (a + 1) 0).2), (0, (K : Int)), (2, 60)]) ?_ rfl rfl rfl
      rcases zor with ⟨zbd, zme⟩ | ⟨zbd, zme⟩
      · subst zme
        refine e_goto (pc := 80) (tgt := 118) dX8_condition_80 rfl ?_
        refine e_iastm (pc := 118) (mem2 := mset (mset (mset (mset (mset mem 49 15 ((a : Int) + 1)) 59 K (hrT tx L a)) 49 15 (((nmb tx L 2 (a + 1) 0).1 : Nat) : Int)) 49 16 ((a + 1 : Nat) : Int)) 60 K ((nmb tx L 2 (a + 1) 0).2)) dX8_condition_118 s_60 (by omega) rfl ?_
        refine e_aloadn (pc := 119) dX8_condition_119 rfl rfl ?_
        refine e_getr (pc := 120) (k := 61) dX8_condition_120 fX8_43 s_49 rfl (by decide) ?_
        refine e_aloadn (pc := 123) dX8_condition_123 rfl rfl ?_
        refine e_getiv (pc := 124) (v := (K : Int)) dX8_condition_124 fX8_143 s_49 rfl (by decide) (hK) ?_
        refine e_iloadn (pc := 127) dX8_condition_127 rfl rfl ?_
        refine e_zastm (pc := 128) (mem2 := mset (mset (mset (mset (mset (mset mem 49 15 ((a : Int) + 1)) 59 K (hrT tx L a)) 49 15 (((nmb tx L 2 (a + 1) 0).1 : Nat) : Int)) 49 16 ((a + 1 : Nat) : Int)) 60 K ((nmb tx L 2 (a + 1) 0).2)) 61 K g) dX8_condition_128 s_61 (by omega) (hg) rfl ?_
        refine e_aloadn (pc := 129) dX8_condition_129 rfl rfl ?_
        refine e_dup (pc := 130) dX8_condition_130 rfl ?_
        refine e_getiv (pc := 131) (v := (K : Int)) dX8_condition_131 fX8_143 s_49 rfl (by decide) (hK) ?_
        refine e_iconst (pc := 134) dX8_condition_134 (by decide) ?_
        refine e_iaddn (pc := 135) dX8_condition_135 (by omega) ?_
        refine e_putI (pc := 136) (mem2 := mset (mset (mset (mset (mset (mset (mset mem 49 15 ((a : Int) + 1)) 59 K (hrT tx L a)) 49 15 (((nmb tx L 2 (a + 1) 0).1 : Nat) : Int)) 49 16 ((a + 1 : Nat) : Int)) 60 K ((nmb tx L 2 (a + 1) 0).2)) 61 K g) 49 17 ((K : Int) + 1)) dX8_condition_136 fX8_143 s_49 rfl (by decide) pw_8_17 rfl ?_
        have zcn : cnR tx L a = none := by unfold cnR; rw [if_neg (by omega), if_pos h8, if_pos zbd]
        have zcf : cnF tx L a = a + 1 := by unfold cnF; rw [if_pos (by omega)]
        exact e_vret (pc := 139) dX8_condition_139 rfl (by rw [← hQ_]; exact ⟨rfl, (((((((Fr.rf.ms rfl).ms rfl).ms rfl).ms rfl).ms rfl).ms rfl).ms rfl), Or.inl ⟨zcn, by rw [zcf]; rfl⟩⟩)
      · subst zme
        refine e_goto (pc := 80) (tgt := 118) dX8_condition_80 rfl ?_
        refine e_iastm (pc := 118) (mem2 := mset (mset (mset (mset mem 49 15 ((a : Int) + 1)) 59 K (hrT tx L a)) 49 15 (((nmb tx L 2 (a + 1) 0).1 : Nat) : Int)) 60 K ((nmb tx L 2 (a + 1) 0).2)) dX8_condition_118 s_60 (by omega) rfl ?_
        refine e_aloadn (pc := 119) dX8_condition_119 rfl rfl ?_
        refine e_getr (pc := 120) (k := 61) dX8_condition_120 fX8_43 s_49 rfl (by decide) ?_
        refine e_aloadn (pc := 123) dX8_condition_123 rfl rfl ?_
        refine e_getiv (pc := 124) (v := (K : Int)) dX8_condition_124 fX8_143 s_49 rfl (by decide) (hK) ?_
        refine e_iloadn (pc := 127) dX8_condition_127 rfl rfl ?_
        refine e_zastm (pc := 128) (mem2 := mset (mset (mset (mset (mset mem 49 15 ((a : Int) + 1)) 59 K (hrT tx L a)) 49 15 (((nmb tx L 2 (a + 1) 0).1 : Nat) : Int)) 60 K ((nmb tx L 2 (a + 1) 0).2)) 61 K g) dX8_condition_128 s_61 (by omega) (hg) rfl ?_
        refine e_aloadn (pc := 129) dX8_condition_129 rfl rfl ?_
        refine e_dup (pc := 130) dX8_condition_130 rfl ?_
        refine e_getiv (pc := 131) (v := (K : Int)) dX8_condition_131 fX8_143 s_49 rfl (by decide) (hK) ?_
        refine e_iconst (pc := 134) dX8_condition_134 (by decide) ?_
        refine e_iaddn (pc := 135) dX8_condition_135 (by omega) ?_
        refine e_putI (pc := 136) (mem2 := mset (mset (mset (mset (mset (mset mem 49 15 ((a : Int) + 1)) 59 K (hrT tx L a)) 49 15 (((nmb tx L 2 (a + 1) 0).1 : Nat) : Int)) 60 K ((nmb tx L 2 (a + 1) 0).2)) 61 K g) 49 17 ((K : Int) + 1)) dX8_condition_136 fX8_143 s_49 rfl (by decide) pw_8_17 rfl ?_
        have zcn : cnR tx L a = some (109, (nmb tx L 2 (a + 1) 0).2, (nmb tx L 2 (a + 1) 0).1) := by unfold cnR; rw [if_neg (by omega), if_pos h8, if_neg (by rw [zbd]; simp)]
        exact e_vret (pc := 139) dX8_condition_139 rfl (by rw [← hQ_]; exact ⟨rfl, ((((((Fr.rf.ms rfl).ms rfl).ms rfl).ms rfl).ms rfl).ms rfl), Or.inr ⟨_, _, _, zcn, ⟨rfl, hF, rfl⟩, by rw [← h8]; rfl, rfl, rfl⟩⟩)
  · skip
    refine e_iloadn (pc := 11) dX8_condition_11 rfl rfl ?_
    refine e_bipush (pc := 12) dX8_condition_12 rfl (by decide) ?_
    refine e_icmp_eq (pc := 14) (tgt := 38) dX8_condition_14 rfl (fun h14 => ?_) (fun h14 => ?_)
    · skip
      refine e_aloadn (pc := 38) dX8_condition_38 rfl rfl ?_
      refine e_dup (pc := 39) dX8_condition_39 rfl ?_
      refine e_getiv (pc := 40) (v := (a : Int)) dX8_condition_40 fX8_133 s_49 rfl (by decide) (hI.2.2.1) ?_
      refine e_iconst (pc := 43) dX8_condition_43 (by decide) ?_
      refine e_iaddn (pc := 44) dX8_condition_44 (by omega) ?_
      refine e_putI (pc := 45) (mem2 := mset mem 49 15 ((a : Int) + 1)) dX8_condition_45 fX8_133 s_49 rfl (by decide) pw_8_15 rfl ?_
      refine e_aloadn (pc := 48) dX8_condition_48 rfl rfl ?_
      refine e_getr (pc := 49) (k := 59) dX8_condition_49 fX8_37 s_49 rfl (by decide) ?_
      refine e_aloadn (pc := 52) dX8_condition_52 rfl rfl ?_
      refine e_getiv (pc := 53) (v := (K : Int)) dX8_condition_53 fX8_143 s_49 rfl (by decide) (hK) ?_
      refine e_iloadn (pc := 56) dX8_condition_56 rfl rfl ?_
      refine e_iastm (pc := 57) (mem2 := mset (mset mem 49 15 ((a : Int) + 1)) 59 K (hrT tx L a)) dX8_condition_57 s_59 (by omega) rfl ?_
      refine e_aloadn (pc := 58) dX8_condition_58 rfl rfl ?_
      refine e_getr (pc := 59) (k := 60) dX8_condition_59 fX8_40 s_49 rfl (by decide) ?_
      refine e_aloadn (pc := 62) dX8_condition_62 rfl rfl ?_
      refine e_getiv (pc := 63) (v := (K : Int)) dX8_condition_63 fX8_143 s_49 rfl (by decide) (hK) ?_
      refine e_iloadn (pc := 66) dX8_condition_66 rfl rfl ?_
      refine e_bipush (pc := 67) dX8_condition_67 rfl (by decide) ?_
      refine e_icmp_ne (pc := 69) (tgt := 83) dX8_condition_69 rfl (fun h69 => ?_) (fun h69 => ?_)
      · skip
        refine e_iloadn (pc := 83) dX8_condition_83 rfl rfl ?_
        refine e_bipush (pc := 84) dX8_condition_84 rfl (by decide) ?_
        refine e_icmp_ne (pc := 86) (tgt := 100) dX8_condition_86 rfl (fun h86 => ?_) (fun h86 => ?_)
        · skip
          exfalso; omega
        · skip
          refine e_aloadn (pc := 89) dX8_condition_89 rfl rfl ?_
          refine e_iconst (pc := 90) dX8_condition_90 (by decide) ?_
          refine e_iconst (pc := 91) dX8_condition_91 (by decide) ?_
          refine e_bipush (pc := 92) dX8_condition_92 rfl (by decide) ?_
          have zaL : a < L := hr_lt (tx := tx) (by omega)
          have zT : TxM tx (mset (mset mem 49 15 ((a : Int) + 1)) 59 K (hrT tx L a)) L (a + 1) := ⟨hI.1, hI.2.1, rfl, zaL, hI.2.2.2.2.1, hI.2.2.2.2.2⟩
          refine e_callV (pc := 94) (as := [(0, 1), (0, 1), (0, 8)]) (st := [(0, (K : Int)), (2, 60)]) (m_number G (mset (mset mem 49 15 ((a : Int) + 1)) 59 K (hrT tx L a)) tx L (a + 1) 1 1 8 (by decide) zT) dX8_condition_94 lX8_condition_146 rfl s_49 cn_8 rfl rfl (fun r_ zm1 hq_ => ?_)
          obtain ⟨zr_, zor⟩ := hq_
          subst zr_
          refine Ev.to (st' := [(0, (nmb tx L 1 (a + 1) 0).2), (0, (K : Int)), (2, 60)]) ?_ rfl rfl rfl
          rcases zor with ⟨zbd, zme⟩ | ⟨zbd, zme⟩
          · subst zme
            refine e_goto (pc := 97) (tgt := 118) dX8_condition_97 rfl ?_
            refine e_iastm (pc := 118) (mem2 := mset (mset (mset (mset (mset mem 49 15 ((a : Int) + 1)) 59 K (hrT tx L a)) 49 15 (((nmb tx L 1 (a + 1) 0).1 : Nat) : Int)) 49 16 ((a + 1 : Nat) : Int)) 60 K ((nmb tx L 1 (a + 1) 0).2)) dX8_condition_118 s_60 (by omega) rfl ?_
            refine e_aloadn (pc := 119) dX8_condition_119 rfl rfl ?_
            refine e_getr (pc := 120) (k := 61) dX8_condition_120 fX8_43 s_49 rfl (by decide) ?_
            refine e_aloadn (pc := 123) dX8_condition_123 rfl rfl ?_
            refine e_getiv (pc := 124) (v := (K : Int)) dX8_condition_124 fX8_143 s_49 rfl (by decide) (hK) ?_
            refine e_iloadn (pc := 127) dX8_condition_127 rfl rfl ?_
            refine e_zastm (pc := 128) (mem2 := mset (mset (mset (mset (mset (mset mem 49 15 ((a : Int) + 1)) 59 K (hrT tx L a)) 49 15 (((nmb tx L 1 (a + 1) 0).1 : Nat) : Int)) 49 16 ((a + 1 : Nat) : Int)) 60 K ((nmb tx L 1 (a + 1) 0).2)) 61 K g) dX8_condition_128 s_61 (by omega) (hg) rfl ?_
            refine e_aloadn (pc := 129) dX8_condition_129 rfl rfl ?_
            refine e_dup (pc := 130) dX8_condition_130 rfl ?_
            refine e_getiv (pc := 131) (v := (K : Int)) dX8_condition_131 fX8_143 s_49 rfl (by decide) (hK) ?_
            refine e_iconst (pc := 134) dX8_condition_134 (by decide) ?_
            refine e_iaddn (pc := 135) dX8_condition_135 (by omega) ?_
            refine e_putI (pc := 136) (mem2 := mset (mset (mset (mset (mset (mset (mset mem 49 15 ((a : Int) + 1)) 59 K (hrT tx L a)) 49 15 (((nmb tx L 1 (a + 1) 0).1 : Nat) : Int)) 49 16 ((a + 1 : Nat) : Int)) 60 K ((nmb tx L 1 (a + 1) 0).2)) 61 K g) 49 17 ((K : Int) + 1)) dX8_condition_136 fX8_143 s_49 rfl (by decide) pw_8_17 rfl ?_
            have zcn : cnR tx L a = none := by unfold cnR; rw [if_neg (by omega), if_neg (by omega), if_pos h14, if_pos zbd]
            have zcf : cnF tx L a = a + 1 := by unfold cnF; rw [if_pos (by omega)]
            exact e_vret (pc := 139) dX8_condition_139 rfl (by rw [← hQ_]; exact ⟨rfl, (((((((Fr.rf.ms rfl).ms rfl).ms rfl).ms rfl).ms rfl).ms rfl).ms rfl), Or.inl ⟨zcn, by rw [zcf]; rfl⟩⟩)
          · subst zme
            refine e_goto (pc := 97) (tgt := 118) dX8_condition_97 rfl ?_
            refine e_iastm (pc := 118) (mem2 := mset (mset (mset (mset mem 49 15 ((a : Int) + 1)) 59 K (hrT tx L a)) 49 15 (((nmb tx L 1 (a + 1) 0).1 : Nat) : Int)) 60 K ((nmb tx L 1 (a + 1) 0).2)) dX8_condition_118 s_60 (by omega) rfl ?_
            refine e_aloadn (pc := 119) dX8_condition_119 rfl rfl ?_
            refine e_getr (pc := 120) (k := 61) dX8_condition_120 fX8_43 s_49 rfl (by decide) ?_
            refine e_aloadn (pc := 123) dX8_condition_123 rfl rfl ?_
            refine e_getiv (pc := 124) (v := (K : Int)) dX8_condition_124 fX8_143 s_49 rfl (by decide) (hK) ?_
            refine e_iloadn (pc := 127) dX8_condition_127 rfl rfl ?_
            refine e_zastm (pc := 128) (mem2 := mset (mset (mset (mset (mset mem 49 15 ((a : Int) + 1)) 59 K (hrT tx L a)) 49 15 (((nmb tx L 1 (a + 1) 0).1 : Nat) : Int)) 60 K ((nmb tx L 1 (a + 1) 0).2)) 61 K g) dX8_condition_128 s_61 (by omega) (hg) rfl ?_
            refine e_aloadn (pc := 129) dX8_condition_129 rfl rfl ?_
            refine e_dup (pc := 130) dX8_condition_130 rfl ?_
            refine e_getiv (pc := 131) (v := (K : Int)) dX8_condition_131 fX8_143 s_49 rfl (by decide) (hK) ?_
            refine e_iconst (pc := 134) dX8_condition_134 (by decide) ?_
            refine e_iaddn (pc := 135) dX8_condition_135 (by omega) ?_
            refine e_putI (pc := 136) (mem2 := mset (mset (mset (mset (mset (mset mem 49 15 ((a : Int) + 1)) 59 K (hrT tx L a)) 49 15 (((nmb tx L 1 (a + 1) 0).1 : Nat) : Int)) 60 K ((nmb tx L 1 (a + 1) 0).2)) 61 K g) 49 17 ((K : Int) + 1)) dX8_condition_136 fX8_143 s_49 rfl (by decide) pw_8_17 rfl ?_
            have zcn : cnR tx L a = some (110, (nmb tx L 1 (a + 1) 0).2, (nmb tx L 1 (a + 1) 0).1) := by unfold cnR; rw [if_neg (by omega), if_neg (by omega), if_pos h14, if_neg (by rw [zbd]; simp)]
            exact e_vret (pc := 139) dX8_condition_139 rfl (by rw [← hQ_]; exact ⟨rfl, ((((((Fr.rf.ms rfl).ms rfl).ms rfl).ms rfl).ms rfl).ms rfl), Or.inr ⟨_, _, _, zcn, ⟨rfl, hF, rfl⟩, by rw [← h14]; rfl, rfl, rfl⟩⟩)
      · skip
        exfalso; omega
    · skip
      refine e_iloadn (pc := 17) dX8_condition_17 rfl rfl ?_
      refine e_bipush (pc := 18) dX8_condition_18 rfl (by decide) ?_
      refine e_icmp_eq (pc := 20) (tgt := 38) dX8_condition_20 rfl (fun h20 => ?_) (fun h20 => ?_)
      · skip
        refine e_aloadn (pc := 38) dX8_condition_38 rfl rfl ?_
        refine e_dup (pc := 39) dX8_condition_39 rfl ?_
        refine e_getiv (pc := 40) (v := (a : Int)) dX8_condition_40 fX8_133 s_49 rfl (by decide) (hI.2.2.1) ?_
        refine e_iconst (pc := 43) dX8_condition_43 (by decide) ?_
        refine e_iaddn (pc := 44) dX8_condition_44 (by omega) ?_
        refine e_putI (pc := 45) (mem2 := mset mem 49 15 ((a : Int) + 1)) dX8_condition_45 fX8_133 s_49 rfl (by decide) pw_8_15 rfl ?_
        refine e_aloadn (pc := 48) dX8_condition_48 rfl rfl ?_
        refine e_getr (pc := 49) (k := 59) dX8_condition_49 fX8_37 s_49 rfl (by decide) ?_
        refine e_aloadn (pc := 52) dX8_condition_52 rfl rfl ?_
        refine e_getiv (pc := 53) (v := (K : Int)) dX8_condition_53 fX8_143 s_49 rfl (by decide) (hK) ?_
        refine e_iloadn (pc := 56) dX8_condition_56 rfl rfl ?_
        refine e_iastm (pc := 57) (mem2 := mset (mset mem 49 15 ((a : Int) + 1)) 59 K (hrT tx L a)) dX8_condition_57 s_59 (by omega) rfl ?_
        refine e_aloadn (pc := 58) dX8_condition_58 rfl rfl ?_
        refine e_getr (pc := 59) (k := 60) dX8_condition_59 fX8_40 s_49 rfl (by decide) ?_
        refine e_aloadn (pc := 62) dX8_condition_62 rfl rfl ?_
        refine e_getiv (pc := 63) (v := (K : Int)) dX8_condition_63 fX8_143 s_49 rfl (by decide) (hK) ?_
        refine e_iloadn (pc := 66) dX8_condition_66 rfl rfl ?_
        refine e_bipush (pc := 67) dX8_condition_67 rfl (by decide) ?_
        refine e_icmp_ne (pc := 69) (tgt := 83) dX8_condition_69 rfl (fun h69 => ?_) (fun h69 => ?_)
        · skip
          refine e_iloadn (pc := 83) dX8_condition_83 rfl rfl ?_
          refine e_bipush (pc := 84) dX8_condition_84 rfl (by decide) ?_
          refine e_icmp_ne (pc := 86) (tgt := 100) dX8_condition_86 rfl (fun h86 => ?_) (fun h86 => ?_)
          · skip
            refine e_iloadn (pc := 100) dX8_condition_100 rfl rfl ?_
            refine e_bipush (pc := 101) dX8_condition_101 rfl (by decide) ?_
            refine e_icmp_ne (pc := 103) (tgt := 117) dX8_condition_103 rfl (fun h103 => ?_) (fun h103 => ?_)
            · skip
              exfalso; omega
            · skip
              refine e_aloadn (pc := 106) dX8_condition_106 rfl rfl ?_
              refine e_iconst (pc := 107) dX8_condition_107 (by decide) ?_
              refine e_iconst (pc := 108) dX8_condition_108 (by decide) ?_
              refine e_bipush (pc := 109) dX8_condition_109 rfl (by decide) ?_
              have zaL : a < L := hr_lt (tx := tx) (by omega)
              have zT : TxM tx (mset (mset mem 49 15 ((a : Int) + 1)) 59 K (hrT tx L a)) L (a + 1) := ⟨hI.1, hI.2.1, rfl, zaL, hI.2.2.2.2.1, hI.2.2.2.2.2⟩
              refine e_callV (pc := 111) (as := [(0, 1), (0, 0), (0, 7)]) (st := [(0, (K : Int)), (2, 60)]) (m_number G (mset (mset mem 49 15 ((a : Int) + 1)) 59 K (hrT tx L a)) tx L (a + 1) 1 0 7 (by decide) zT) dX8_condition_111 lX8_condition_146 rfl s_49 cn_8 rfl rfl (fun r_ zm1 hq_ => ?_)
              obtain ⟨zr_, zor⟩ := hq_
              subst zr_
              refine Ev.to (st' := [(0, (nmb tx L 1 (a + 1) 0).2), (0, (K : Int)), (2, 60)]) ?_ rfl rfl rfl
              rcases zor with ⟨zbd, zme⟩ | ⟨zbd, zme⟩
              · subst zme
                refine e_goto (pc := 114) (tgt := 118) dX8_condition_114 rfl ?_
                refine e_iastm (pc := 118) (mem2 := mset (mset (mset (mset (mset mem 49 15 ((a : Int) + 1)) 59 K (hrT tx L a)) 49 15 (((nmb tx L 1 (a + 1) 0).1 : Nat) : Int)) 49 16 ((a + 1 : Nat) : Int)) 60 K ((nmb tx L 1 (a + 1) 0).2)) dX8_condition_118 s_60 (by omega) rfl ?_
                refine e_aloadn (pc := 119) dX8_condition_119 rfl rfl ?_
                refine e_getr (pc := 120) (k := 61) dX8_condition_120 fX8_43 s_49 rfl (by decide) ?_
                refine e_aloadn (pc := 123) dX8_condition_123 rfl rfl ?_
                refine e_getiv (pc := 124) (v := (K : Int)) dX8_condition_124 fX8_143 s_49 rfl (by decide) (hK) ?_
                refine e_iloadn (pc := 127) dX8_condition_127 rfl rfl ?_
                refine e_zastm (pc := 128) (mem2 := mset (mset (mset (mset (mset (mset mem 49 15 ((a : Int) + 1)) 59 K (hrT tx L a)) 49 15 (((nmb tx L 1 (a + 1) 0).1 : Nat) : Int)) 49 16 ((a + 1 : Nat) : Int)) 60 K ((nmb tx L 1 (a + 1) 0).2)) 61 K g) dX8_condition_128 s_61 (by omega) (hg) rfl ?_
                refine e_aloadn (pc := 129) dX8_condition_129 rfl rfl ?_
                refine e_dup (pc := 130) dX8_condition_130 rfl ?_
                refine e_getiv (pc := 131) (v := (K : Int)) dX8_condition_131 fX8_143 s_49 rfl (by decide) (hK) ?_
                refine e_iconst (pc := 134) dX8_condition_134 (by decide) ?_
                refine e_iaddn (pc := 135) dX8_condition_135 (by omega) ?_
                refine e_putI (pc := 136) (mem2 := mset (mset (mset (mset (mset (mset (mset mem 49 15 ((a : Int) + 1)) 59 K (hrT tx L a)) 49 15 (((nmb tx L 1 (a + 1) 0).1 : Nat) : Int)) 49 16 ((a + 1 : Nat) : Int)) 60 K ((nmb tx L 1 (a + 1) 0).2)) 61 K g) 49 17 ((K : Int) + 1)) dX8_condition_136 fX8_143 s_49 rfl (by decide) pw_8_17 rfl ?_
                have zcn : cnR tx L a = none := by unfold cnR; rw [if_neg (by omega), if_neg (by omega), if_neg (by omega), if_pos h20, if_pos zbd]
                have zcf : cnF tx L a = a + 1 := by unfold cnF; rw [if_pos (by omega)]
                exact e_vret (pc := 139) dX8_condition_139 rfl (by rw [← hQ_]; exact ⟨rfl, (((((((Fr.rf.ms rfl).ms rfl).ms rfl).ms rfl).ms rfl).ms rfl).ms rfl), Or.inl ⟨zcn, by rw [zcf]; rfl⟩⟩)
              · subst zme
                refine e_goto (pc := 114) (tgt := 118) dX8_condition_114 rfl ?_
                refine e_iastm (pc := 118) (mem2 := mset (mset (mset (mset mem 49 15 ((a : Int) + 1)) 59 K (hrT tx L a)) 49 15 (((nmb tx L 1 (a + 1) 0).1 : Nat) : Int)) 60 K ((nmb tx L 1 (a + 1) 0).2)) dX8_condition_118 s_60 (by omega) rfl ?_
                refine e_aloadn (pc := 119) dX8_condition_119 rfl rfl ?_
                refine e_getr (pc := 120) (k := 61) dX8_condition_120 fX8_43 s_49 rfl (by decide) ?_
                refine e_aloadn (pc := 123) dX8_condition_123 rfl rfl ?_
                refine e_getiv (pc := 124) (v := (K : Int)) dX8_condition_124 fX8_143 s_49 rfl (by decide) (hK) ?_
                refine e_iloadn (pc := 127) dX8_condition_127 rfl rfl ?_
                refine e_zastm (pc := 128) (mem2 := mset (mset (mset (mset (mset mem 49 15 ((a : Int) + 1)) 59 K (hrT tx L a)) 49 15 (((nmb tx L 1 (a + 1) 0).1 : Nat) : Int)) 60 K ((nmb tx L 1 (a + 1) 0).2)) 61 K g) dX8_condition_128 s_61 (by omega) (hg) rfl ?_
                refine e_aloadn (pc := 129) dX8_condition_129 rfl rfl ?_
                refine e_dup (pc := 130) dX8_condition_130 rfl ?_
                refine e_getiv (pc := 131) (v := (K : Int)) dX8_condition_131 fX8_143 s_49 rfl (by decide) (hK) ?_
                refine e_iconst (pc := 134) dX8_condition_134 (by decide) ?_
                refine e_iaddn (pc := 135) dX8_condition_135 (by omega) ?_
                refine e_putI (pc := 136) (mem2 := mset (mset (mset (mset (mset (mset mem 49 15 ((a : Int) + 1)) 59 K (hrT tx L a)) 49 15 (((nmb tx L 1 (a + 1) 0).1 : Nat) : Int)) 60 K ((nmb tx L 1 (a + 1) 0).2)) 61 K g) 49 17 ((K : Int) + 1)) dX8_condition_136 fX8_143 s_49 rfl (by decide) pw_8_17 rfl ?_
                have zcn : cnR tx L a = some (107, (nmb tx L 1 (a + 1) 0).2, (nmb tx L 1 (a + 1) 0).1) := by unfold cnR; rw [if_neg (by omega), if_neg (by omega), if_neg (by omega), if_pos h20, if_neg (by rw [zbd]; simp)]
                exact e_vret (pc := 139) dX8_condition_139 rfl (by rw [← hQ_]; exact ⟨rfl, ((((((Fr.rf.ms rfl).ms rfl).ms rfl).ms rfl).ms rfl).ms rfl), Or.inr ⟨_, _, _, zcn, ⟨rfl, hF, rfl⟩, by rw [← h20]; rfl, rfl, rfl⟩⟩)
          · skip
            exfalso; omega
        · skip
          exfalso; omega
      · skip
        refine e_iloadn (pc := 23) dX8_condition_23 rfl rfl ?_
        refine e_bipush (pc := 24) dX8_condition_24 rfl (by decide) ?_
        refine e_icmp_eq (pc := 26) (tgt := 38) dX8_condition_26 rfl (fun h26 => ?_) (fun h26 => ?_)
        · skip
          refine e_aloadn (pc := 38) dX8_condition_38 rfl rfl ?_
          refine e_dup (pc := 39) dX8_condition_39 rfl ?_
          refine e_getiv (pc := 40) (v := (a : Int)) dX8_condition_40 fX8_133 s_49 rfl (by decide) (hI.2.2.1) ?_
          refine e_iconst (pc := 43) dX8_condition_43 (by decide) ?_
          refine e_iaddn (pc := 44) dX8_condition_44 (by omega) ?_
          refine e_putI (pc := 45) (mem2 := mset mem 49 15 ((a : Int) + 1)) dX8_condition_45 fX8_133 s_49 rfl (by decide) pw_8_15 rfl ?_
          refine e_aloadn (pc := 48) dX8_condition_48 rfl rfl ?_
          refine e_getr (pc := 49) (k := 59) dX8_condition_49 fX8_37 s_49 rfl (by decide) ?_
          refine e_aloadn (pc := 52) dX8_condition_52 rfl rfl ?_
          refine e_getiv (pc := 53) (v := (K : Int)) dX8_condition_53 fX8_143 s_49 rfl (by decide) (hK) ?_
          refine e_iloadn (pc := 56) dX8_condition_56 rfl rfl ?_
          refine e_iastm (pc := 57) (mem2 := mset (mset mem 49 15 ((a : Int) + 1)) 59 K (hrT tx L a)) dX8_condition_57 s_59 (by omega) rfl ?_
          refine e_aloadn (pc := 58) dX8_condition_58 rfl rfl ?_
          refine e_getr (pc := 59) (k := 60) dX8_condition_59 fX8_40 s_49 rfl (by decide) ?_
          refine e_aloadn (pc := 62) dX8_condition_62 rfl rfl ?_
          refine e_getiv (pc := 63) (v := (K : Int)) dX8_condition_63 fX8_143 s_49 rfl (by decide) (hK) ?_
          refine e_iloadn (pc := 66) dX8_condition_66 rfl rfl ?_
          refine e_bipush (pc := 67) dX8_condition_67 rfl (by decide) ?_
          refine e_icmp_ne (pc := 69) (tgt := 83) dX8_condition_69 rfl (fun h69 => ?_) (fun h69 => ?_)
          · skip
            refine e_iloadn (pc := 83) dX8_condition_83 rfl rfl ?_
            refine e_bipush (pc := 84) dX8_condition_84 rfl (by decide) ?_
            refine e_icmp_ne (pc := 86) (tgt := 100) dX8_condition_86 rfl (fun h86 => ?_) (fun h86 => ?_)
            · skip
              refine e_iloadn (pc := 100) dX8_condition_100 rfl rfl ?_
              refine e_bipush (pc := 101) dX8_condition_101 rfl (by decide) ?_
              refine e_icmp_ne (pc := 103) (tgt := 117) dX8_condition_103 rfl (fun h103 => ?_) (fun h103 => ?_)
              · skip
                refine e_iconst (pc := 117) dX8_condition_117 (by decide) ?_
                refine e_iastm (pc := 118) (mem2 := mset (mset (mset mem 49 15 ((a : Int) + 1)) 59 K (hrT tx L a)) 60 K 0) dX8_condition_118 s_60 (by omega) rfl ?_
                refine e_aloadn (pc := 119) dX8_condition_119 rfl rfl ?_
                refine e_getr (pc := 120) (k := 61) dX8_condition_120 fX8_43 s_49 rfl (by decide) ?_
                refine e_aloadn (pc := 123) dX8_condition_123 rfl rfl ?_
                refine e_getiv (pc := 124) (v := (K : Int)) dX8_condition_124 fX8_143 s_49 rfl (by decide) (hK) ?_
                refine e_iloadn (pc := 127) dX8_condition_127 rfl rfl ?_
                refine e_zastm (pc := 128) (mem2 := mset (mset (mset (mset mem 49 15 ((a : Int) + 1)) 59 K (hrT tx L a)) 60 K 0) 61 K g) dX8_condition_128 s_61 (by omega) (hg) rfl ?_
                refine e_aloadn (pc := 129) dX8_condition_129 rfl rfl ?_
                refine e_dup (pc := 130) dX8_condition_130 rfl ?_
                refine e_getiv (pc := 131) (v := (K : Int)) dX8_condition_131 fX8_143 s_49 rfl (by decide) (hK) ?_
                refine e_iconst (pc := 134) dX8_condition_134 (by decide) ?_
                refine e_iaddn (pc := 135) dX8_condition_135 (by omega) ?_
                refine e_putI (pc := 136) (mem2 := mset (mset (mset (mset (mset mem 49 15 ((a : Int) + 1)) 59 K (hrT tx L a)) 60 K 0) 61 K g) 49 17 ((K : Int) + 1)) dX8_condition_136 fX8_143 s_49 rfl (by decide) pw_8_17 rfl ?_
                have zcn : cnR tx L a = some (116, 0, a + 1) := by unfold cnR; rw [if_pos h26]
                exact e_vret (pc := 139) dX8_condition_139 rfl (by rw [← hQ_]; exact ⟨rfl, (((((Fr.rf.ms rfl).ms rfl).ms rfl).ms rfl).ms rfl), Or.inr ⟨_, _, _, zcn, ⟨rfl, hF, rfl⟩, by rw [← h26]; rfl, rfl, rfl⟩⟩)
              · skip
                exfalso; omega
            · skip
              exfalso; omega
          · skip
            exfalso; omega
        · skip
          refine e_aloadn (pc := 29) dX8_condition_29 rfl rfl ?_
          refine e_aloadn (pc := 30) dX8_condition_30 rfl rfl ?_
          refine e_getiv (pc := 31) (v := (a : Int)) dX8_condition_31 fX8_133 s_49 rfl (by decide) (hI.2.2.1) ?_
          refine e_putI (pc := 34) (mem2 := mset mem 49 16 (a : Int)) dX8_condition_34 fX8_140 s_49 rfl (by decide) pw_8_16 rfl ?_
          have zcn : cnR tx L a = none := by unfold cnR; rw [if_neg (by omega), if_neg (by omega), if_neg (by omega), if_neg (by omega)]
          have zcf : cnF tx L a = a := by unfold cnF; rw [if_neg (by omega)]
          exact e_vret (pc := 37) dX8_condition_37 rfl (by rw [← hQ_]; exact ⟨rfl, (Fr.rf.ms rfl), Or.inl ⟨zcn, by rw [zcf]; rfl⟩⟩)

theorem m_faultNow (G : Gm) (A mem : Mem) (hI : CI A) (hM : MI A mem) : Con G mX8_faultNow [(2, 49)] mem (fun r m' => r = some (0, A 10 1) ∧ MI A m' ∧ m' 49 14 = 1 ∧ Fr scF mem m') := by
  refine Con.of (lo := [(2, 49), (3, 0)]) (by decide +kernel) (Nat.le_of_ble_eq_true rfl) rfl ?_
  generalize hQ_ : (fun r m' => r = some (0, A 10 1) ∧ MI A m' ∧ m' 49 14 = 1 ∧ Fr scF mem m' : Option AV → Mem → Prop) = Q_
  obtain ⟨L, zL1, zL2, zL3, zL4, zL5, zL6⟩ := hI.2.2.2.1
  have zLn : (A 10 0).toNat = L := by omega
  have zMx := hM.2.2.1
  have zMd := hM.2.2.2.2
  refine e_aloadn (pc := 0) dX8_faultNow_0 rfl rfl ?_
  refine e_getiv (pc := 1) (v := (mem 49 14)) dX8_faultNow_1 fX8_129 s_49 rfl (by decide) (rfl) ?_
  refine e_if_eq (pc := 4) (tgt := 12) dX8_faultNow_4 rfl (fun h4 => ?_) (fun h4 => ?_)
  · skip
    refine e_aloadn (pc := 12) dX8_faultNow_12 rfl rfl ?_
    refine e_iconst (pc := 13) dX8_faultNow_13 (by decide) ?_
    refine e_putZ (pc := 14) (mem2 := mset mem 49 14 1) dX8_faultNow_14 fX8_129 s_49 rfl (by decide) pw_8_14 (by decide) rfl ?_
    refine e_aloadn (pc := 17) dX8_faultNow_17 rfl rfl ?_
    refine e_iconst (pc := 18) dX8_faultNow_18 (by decide) ?_
    refine e_putI (pc := 19) (mem2 := mset (mset mem 49 14 1) 49 15 0) dX8_faultNow_19 fX8_133 s_49 rfl (by decide) pw_8_15 rfl ?_
    refine e_aloadn (pc := 22) dX8_faultNow_22 rfl rfl ?_
    refine e_iconst (pc := 23) dX8_faultNow_23 (by decide) ?_
    refine e_putI (pc := 24) (mem2 := mset (mset (mset mem 49 14 1) 49 15 0) 49 16 (-1)) dX8_faultNow_24 fX8_140 s_49 rfl (by decide) pw_8_16 rfl ?_
    refine e_aloadn (pc := 27) dX8_faultNow_27 rfl rfl ?_
    refine e_iconst (pc := 28) dX8_faultNow_28 (by decide) ?_
    refine e_putI (pc := 29) (mem2 := mset (mset (mset (mset mem 49 14 1) 49 15 0) 49 16 (-1)) 49 17 0) dX8_faultNow_29 fX8_143 s_49 rfl (by decide) pw_8_17 rfl ?_
    refine e_aloadn (pc := 32) dX8_faultNow_32 rfl rfl ?_
    refine e_iconst (pc := 33) dX8_faultNow_33 (by decide) ?_
    have zT0 : TxM (A 11) (mset (mset (mset (mset mem 49 14 1) 49 15 0) 49 16 (-1)) 49 17 0) L 0 := ⟨zMx.1.trans zL1, zL2, rfl, Nat.zero_le _, zMx.2, zL3⟩
    refine e_callV (pc := 34) (as := [(0, 1)]) (st := []) (m_condition G (mset (mset (mset (mset mem 49 14 1) 49 15 0) 49 16 (-1)) 49 17 0) (A 11) L 0 0 1 zT0 rfl (by decide) rfl (Or.inr rfl)) dX8_faultNow_34 lX8_faultNow_150 rfl s_49 cn_8 rfl rfl (fun r_ zm1 hq_ => ?_)
    obtain ⟨zr_, zf1, zor1⟩ := hq_
    subst zr_
    have zf2 : Fr scF mem zm1 := (((((Fr.rf (S := scF)).ms rfl).ms rfl).ms rfl).ms rfl).tr (scF12 zf1)
    have z12 : zm1 49 12 = (L : Int) := (zf2 49 12 rfl).trans (zMx.1.trans zL1)
    skip
    refine Ev.to (st' := []) ?_ rfl rfl rfl
    have L37 : ∀ (n_ : Nat) (u : Nat) (zmv : Mem), u = n_ → (Fr scF mem zmv) → ((∃ K a2 : Nat, PJ (A 11) L zmv K a2 ∧ a2 + u = 41) ∨ (zmv 49 16 = prsF (A 11) L 41 0 ∧ prsF (A 11) L 41 0 ≠ -1 ∧ zmv 49 14 = 1)) → Ev G mX8_faultNow Q_ 37 [(2, 49), (3, 0)] [] zmv := by
      intro n_
      induction n_ using Nat.strongRecOn with
      | ind n_ ih37 =>
        intro u zmv hn_ zf zor
        refine e_aloadn (pc := 37) dX8_faultNow_37 rfl rfl ?_
        rcases zor with ⟨K, a2, zP, zu⟩ | ⟨zd1, zd2, zd3⟩
        · skip
          refine e_getiv (pc := 38) (v := (-1)) dX8_faultNow_38 fX8_140 s_49 rfl (by decide) (zP.1.2.2.2.1) ?_
          refine e_iconst (pc := 41) dX8_faultNow_41 (by decide) ?_
          refine e_icmp_ne (pc := 42) (tgt := 112) dX8_faultNow_42 rfl (fun h42 => ?_) (fun h42 => ?_)
          · skip
            exact absurd rfl h42
          · skip
            refine e_aloadn (pc := 45) dX8_faultNow_45 rfl rfl ?_
            refine e_getiv (pc := 46) (v := (a2 : Int)) dX8_faultNow_46 fX8_133 s_49 rfl (by decide) (zP.1.2.2.1) ?_
            refine e_aloadn (pc := 49) dX8_faultNow_49 rfl rfl ?_
            refine e_getiv (pc := 50) (v := (L : Int)) dX8_faultNow_50 fX8_126 s_49 rfl (by decide) (zP.1.1) ?_
            refine e_icmp_ge (pc := 53) (tgt := 112) dX8_faultNow_53 rfl (fun h53 => ?_) (fun h53 => ?_)
            · skip
              refine e_aloadn (pc := 112) dX8_faultNow_112 rfl rfl ?_
              refine e_getiv (pc := 113) (v := (-1)) dX8_faultNow_113 fX8_140 s_49 rfl (by decide) (zP.1.2.2.2.1) ?_
              have zPd := zP.fin (by omega)
              have zmd : MD A zmv := ⟨Or.inr zP.1.2.1, fun _ => by rw [zLn]; exact zPd⟩
              have zr1 : A 10 1 = -1 := zL5.trans (zPd.1.symm.trans zP.1.2.2.2.1)
              exact e_iret (pc := 116) dX8_faultNow_116 rfl (by rw [← hQ_]; exact ⟨by rw [zr1], hM.f zf zmd, zP.1.2.1, zf⟩)
            · skip
              have zal : a2 < L := by omega
              refine e_aloadn (pc := 56) dX8_faultNow_56 rfl rfl ?_
              refine e_callVr (pc := 57) (as := []) (st := []) (m_byteNow G zmv (A 11) L a2 zP.1.1 zL2 zP.1.2.2.1 (fun j hj => (zf 58 j rfl).trans (zMx.2 j hj))) dX8_faultNow_57 lX8_faultNow_136 rfl s_49 cn_8 rfl rfl ?_
              refine e_istoren (pc := 60) (lo' := [(2, 49), (0, hrT (A 11) L a2)]) dX8_faultNow_60 rfl rfl (by decide) rfl ?_
              refine e_iloadn (pc := 61) dX8_faultNow_61 rfl rfl ?_
              refine e_bipush (pc := 62) dX8_faultNow_62 rfl (by decide) ?_
              refine e_icmp_eq (pc := 64) (tgt := 84) dX8_faultNow_64 rfl (fun h64 => ?_) (fun h64 => ?_)
              · skip
                refine e_aloadn (pc := 84) dX8_faultNow_84 rfl rfl ?_
                refine e_dup (pc := 85) dX8_faultNow_85 rfl ?_
                refine e_getiv (pc := 86) (v := (a2 : Int)) dX8_faultNow_86 fX8_133 s_49 rfl (by decide) (zP.1.2.2.1) ?_
                refine e_iconst (pc := 89) dX8_faultNow_89 (by decide) ?_
                refine e_iaddn (pc := 90) dX8_faultNow_90 (by omega) ?_
                refine e_putI (pc := 91) (mem2 := mset zmv 49 15 ((a2 : Int) + 1)) dX8_faultNow_91 fX8_133 s_49 rfl (by decide) pw_8_15 rfl ?_
                refine e_aloadn (pc := 94) dX8_faultNow_94 rfl rfl ?_
                refine e_iloadn (pc := 95) dX8_faultNow_95 rfl rfl ?_
                refine e_bipush (pc := 96) dX8_faultNow_96 rfl (by decide) ?_
                refine e_icmp_ne (pc := 98) (tgt := 105) dX8_faultNow_98 rfl (fun h98 => ?_) (fun h98 => ?_)
                · skip
                  refine e_iconst (pc := 105) dX8_faultNow_105 (by decide) ?_
                  have zT1 : TxM (A 11) (mset zmv 49 15 ((a2 : Int) + 1)) L (a2 + 1) := ⟨zP.1.1, zL2, rfl, by omega, fun j hj => (zf 58 j rfl).trans (zMx.2 j hj), zL3⟩
                  refine e_callV (pc := 106) (as := [(0, 0)]) (st := []) (m_condition G (mset zmv 49 15 ((a2 : Int) + 1)) (A 11) L (a2 + 1) K 0 zT1 zP.1.2.2.2.2 (by have := zP.2.1; omega) zP.1.2.2.2.1 (by decide)) dX8_faultNow_106 lX8_faultNow_150 rfl s_49 cn_8 rfl rfl (fun r_ zm1 hq_ => ?_)
                  obtain ⟨zr_, zf1, zor1⟩ := hq_
                  subst zr_
                  have zf2 : Fr scF mem zm1 := (zf.ms rfl).tr (scF12 zf1)
                  refine Ev.to (st' := []) ?_ rfl rfl rfl
                  refine e_goto (pc := 109) (tgt := 37) dX8_faultNow_109 rfl ?_
                  obtain ⟨zu0, zdec, zor0⟩ : ∃ u' : Nat, u' < n_ ∧ ((∃ K a2 : Nat, PJ (A 11) L zm1 K a2 ∧ a2 + u' = 41) ∨ (zm1 49 16 = prsF (A 11) L 41 0 ∧ prsF (A 11) L 41 0 ≠ -1 ∧ zm1 49 14 = 1)) := by
                    rcases zor1 with ⟨zc1, zc2⟩ | ⟨b, v, a3, zc1, zc2⟩
                    · have zst := zP.stop (by omega) zal zc1
                      exact ⟨0, by omega, Or.inr ⟨zc2.trans zst.symm, by rw [zst]; omega, (zf1 49 14 rfl).trans zP.1.2.1⟩⟩
                    · have zk := zP.next (zn := zm1) ((zf1 49 12 rfl).trans zP.1.1) ((zf1 49 14 rfl).trans zP.1.2.1) (by omega) zal zc1 (by rw [if_neg (by omega)]; exact zc2)
                      have zo := cnR_ok zc1 (by omega)
                      exact ⟨41 - a3, by omega, Or.inl ⟨K + 1, a3, zk, by omega⟩⟩
                  refine Ev.fgt [1] ?_
                  exact Ev.to (ih37 _ (zdec) zu0 zm1 (rfl) (zf2) (zor0)) rfl rfl rfl
                · skip
                  exfalso; omega
              · skip
                refine e_iloadn (pc := 67) dX8_faultNow_67 rfl rfl ?_
                refine e_bipush (pc := 68) dX8_faultNow_68 rfl (by decide) ?_
                refine e_icmp_eq (pc := 70) (tgt := 84) dX8_faultNow_70 rfl (fun h70 => ?_) (fun h70 => ?_)
                · skip
                  refine e_aloadn (pc := 84) dX8_faultNow_84 rfl rfl ?_
                  refine e_dup (pc := 85) dX8_faultNow_85 rfl ?_
                  refine e_getiv (pc := 86) (v := (a2 : Int)) dX8_faultNow_86 fX8_133 s_49 rfl (by decide) (zP.1.2.2.1) ?_
                  refine e_iconst (pc := 89) dX8_faultNow_89 (by decide) ?_
                  refine e_iaddn (pc := 90) dX8_faultNow_90 (by omega) ?_
                  refine e_putI (pc := 91) (mem2 := mset zmv 49 15 ((a2 : Int) + 1)) dX8_faultNow_91 fX8_133 s_49 rfl (by decide) pw_8_15 rfl ?_
                  refine e_aloadn (pc := 94) dX8_faultNow_94 rfl rfl ?_
                  refine e_iloadn (pc := 95) dX8_faultNow_95 rfl rfl ?_
                  refine e_bipush (pc := 96) dX8_faultNow_96 rfl (by decide) ?_
                  refine e_icmp_ne (pc := 98) (tgt := 105) dX8_faultNow_98 rfl (fun h98 => ?_) (fun h98 => ?_)
                  · skip
                    exfalso; omega
                  · skip
                    refine e_iconst (pc := 101) dX8_faultNow_101 (by decide) ?_
                    refine e_goto (pc := 102) (tgt := 106) dX8_faultNow_102 rfl ?_
                    have zT1 : TxM (A 11) (mset zmv 49 15 ((a2 : Int) + 1)) L (a2 + 1) := ⟨zP.1.1, zL2, rfl, by omega, fun j hj => (zf 58 j rfl).trans (zMx.2 j hj), zL3⟩
                    refine e_callV (pc := 106) (as := [(0, 1)]) (st := []) (m_condition G (mset zmv 49 15 ((a2 : Int) + 1)) (A 11) L (a2 + 1) K 1 zT1 zP.1.2.2.2.2 (by have := zP.2.1; omega) zP.1.2.2.2.1 (by decide)) dX8_faultNow_106 lX8_faultNow_150 rfl s_49 cn_8 rfl rfl (fun r_ zm1 hq_ => ?_)
                    obtain ⟨zr_, zf1, zor1⟩ := hq_
                    subst zr_
                    have zf2 : Fr scF mem zm1 := (zf.ms rfl).tr (scF12 zf1)
                    refine Ev.to (st' := []) ?_ rfl rfl rfl
                    refine e_goto (pc := 109) (tgt := 37) dX8_faultNow_109 rfl ?_
                    obtain ⟨zu0, zdec, zor0⟩ : ∃ u' : Nat, u' < n_ ∧ ((∃ K a2 : Nat, PJ (A 11) L zm1 K a2 ∧ a2 + u' = 41) ∨ (zm1 49 16 = prsF (A 11) L 41 0 ∧ prsF (A 11) L 41 0 ≠ -1 ∧ zm1 49 14 = 1)) := by
                      rcases zor1 with ⟨zc1, zc2⟩ | ⟨b, v, a3, zc1, zc2⟩
                      · have zst := zP.stop (by omega) zal zc1
                        exact ⟨0, by omega, Or.inr ⟨zc2.trans zst.symm, by rw [zst]; omega, (zf1 49 14 rfl).trans zP.1.2.1⟩⟩
                      · have zk := zP.next (zn := zm1) ((zf1 49 12 rfl).trans zP.1.1) ((zf1 49 14 rfl).trans zP.1.2.1) (by omega) zal zc1 (by rw [if_pos (by omega)]; exact zc2)
                        have zo := cnR_ok zc1 (by omega)
                        exact ⟨41 - a3, by omega, Or.inl ⟨K + 1, a3, zk, by omega⟩⟩
                    refine Ev.fgt [1] ?_
                    exact Ev.to (ih37 _ (zdec) zu0 zm1 (rfl) (zf2) (zor0)) rfl rfl rfl
                · skip
                  refine e_aloadn (pc := 73) dX8_faultNow_73 rfl rfl ?_
                  refine e_aloadn (pc := 74) dX8_faultNow_74 rfl rfl ?_
                  refine e_getiv (pc := 75) (v := (a2 : Int)) dX8_faultNow_75 fX8_133 s_49 rfl (by decide) (zP.1.2.2.1) ?_
                  refine e_putI (pc := 78) (mem2 := mset zmv 49 16 (a2 : Int)) dX8_faultNow_78 fX8_140 s_49 rfl (by decide) pw_8_16 rfl ?_
                  refine e_goto (pc := 81) (tgt := 109) dX8_faultNow_81 rfl ?_
                  refine e_goto (pc := 109) (tgt := 37) dX8_faultNow_109 rfl ?_
                  have zdec : 0 < n_ := by omega
                  refine Ev.fgt [1] ?_
                  exact Ev.to (ih37 _ (zdec) 0 (mset zmv 49 16 (a2 : Int)) (rfl) (zf.ms rfl) (Or.inr ⟨zP.bad (by omega) zal |>.symm, by rw [zP.bad (by omega) zal]; omega, zP.1.2.1⟩)) rfl rfl rfl
        · skip
          refine e_getiv (pc := 38) (v := (prsF (A 11) L 41 0)) dX8_faultNow_38 fX8_140 s_49 rfl (by decide) (zd1) ?_
          refine e_iconst (pc := 41) dX8_faultNow_41 (by decide) ?_
          refine e_icmp_ne (pc := 42) (tgt := 112) dX8_faultNow_42 rfl (fun h42 => ?_) (fun h42 => ?_)
          · skip
            refine e_aloadn (pc := 112) dX8_faultNow_112 rfl rfl ?_
            refine e_getiv (pc := 113) (v := (prsF (A 11) L 41 0)) dX8_faultNow_113 fX8_140 s_49 rfl (by decide) (zd1) ?_
            have zmd : MD A zmv := ⟨Or.inr zd3, fun _ => by rw [zLn]; exact ⟨zd1, fun q => absurd q zd2⟩⟩
            exact e_iret (pc := 116) dX8_faultNow_116 rfl (by rw [← hQ_]; exact ⟨by rw [zL5], hM.f zf zmd, zd3, zf⟩)
          · skip
            exact absurd h42 zd2
    obtain ⟨zu0, zor0⟩ : ∃ u : Nat, (∃ K a2 : Nat, PJ (A 11) L zm1 K a2 ∧ a2 + u = 41) ∨ (zm1 49 16 = prsF (A 11) L 41 0 ∧ prsF (A 11) L 41 0 ≠ -1 ∧ zm1 49 14 = 1) := by
      rcases zor1 with ⟨zc1, zc2⟩ | ⟨b, v, a2, zc1, zc2⟩
      · exact ⟨0, Or.inr ⟨zc2.trans (prsF_no zc1).symm, by rw [prsF_no zc1]; omega, zf1 49 14 rfl⟩⟩
      · have zk := PJ.first z12 (zf1 49 14 rfl) zL2 zc1 zc2
        exact ⟨41 - a2, Or.inl ⟨1, a2, zk, by have := zk.2.1; omega⟩⟩
    exact Ev.to (L37 _ zu0 zm1 (rfl) (zf2) (zor0)) rfl rfl rfl
  · skip
    refine e_aloadn (pc := 7) dX8_faultNow_7 rfl rfl ?_
    refine e_getiv (pc := 8) (v := mem 49 16) dX8_faultNow_8 fX8_140 s_49 rfl (by decide) rfl ?_
    have zrd : mem 49 14 = 1 := by have := zMd.1; omega
    have zP := (zMd.2 zrd).1
    rw [zLn] at zP
    exact e_iret (pc := 11) dX8_faultNow_11 rfl (by rw [← hQ_]; exact ⟨by rw [zP, zL5], hM, zrd, Fr.rf⟩)
