-- a condition: what it asks at t; what an open alternative asks
def hold (told : Int) (wh : Nat → Int) (t b v : Int) : Prop := if b = 109 then v ≤ t else if b = 116 then told ≤ t else if b = 110 then v ≤ (cnO wh 8 t : Int) else wh v.toNat ≤ t
def OpS (f s n w told : Int) (wh : Nat → Int) (t : Int) : Prop := f ≤ t ∧ (s = 1 → told ≤ t) ∧ n ≤ (cnO wh 8 t : Int) ∧ ∀ c, c < 8 → w.toNat.testBit c = true → wh c ≤ t
def nBad (q : Nat × Int) (a : Nat) (lw hh : Int) : Prop := q.1 = a ∨ q.2 < lw ∨ hh < q.2
def nBadB (q : Nat × Int) (a : Nat) (lw hh : Int) : Bool := decide (q.1 = a ∨ q.2 < lw ∨ hh < q.2)
/-- the condition at place a: letter, number, the place behind it -/
def cnR (tx : Nat → Int) (L a : Nat) : Option (Int × Int × Nat) :=
  if hrT tx L a = 116 then some (116, 0, a + 1)
  else if hrT tx L a = 109 then (if nBadB (nmb tx L 2 (a + 1) 0) (a + 1) 0 59 then none else some (109, (nmb tx L 2 (a + 1) 0).2, (nmb tx L 2 (a + 1) 0).1))
  else if hrT tx L a = 110 then (if nBadB (nmb tx L 1 (a + 1) 0) (a + 1) 1 8 then none else some (110, (nmb tx L 1 (a + 1) 0).2, (nmb tx L 1 (a + 1) 0).1))
  else if hrT tx L a = 107 then (if nBadB (nmb tx L 1 (a + 1) 0) (a + 1) 0 7 then none else some (107, (nmb tx L 1 (a + 1) 0).2, (nmb tx L 1 (a + 1) 0).1))
  else none
/-- its fault, if there is none -/
def cnF (tx : Nat → Int) (L a : Nat) : Nat := if hrT tx L a = 109 ∨ hrT tx L a = 110 ∨ hrT tx L a = 107 then a + 1 else a
theorem nmb_le (tx : Nat → Int) (L : Nat) : ∀ (f a : Nat) (v : Int), a ≤ L → a ≤ (nmb tx L f a v).1 ∧ (nmb tx L f a v).1 ≤ L
  | 0, a, v, h => ⟨Nat.le_refl _, h⟩
  | f + 1, a, v, h => by
    rw [nmb_s]
    split
    · rename_i q
      have h1 : a < L := by
        rcases Nat.lt_or_ge a L with z | z
        · exact z
        · exfalso; unfold hrT at q; rw [if_neg (by omega)] at q; omega
      have := nmb_le tx L f (a + 1) (v * 10 + hrT tx L a - 48) h1
      omega
    · exact ⟨Nat.le_refl _, h⟩
theorem hold_m (told : Int) (wh : Nat → Int) (t v : Int) : hold told wh t 109 v ↔ v ≤ t := by unfold hold; simp
theorem hold_t (told : Int) (wh : Nat → Int) (t v : Int) : hold told wh t 116 v ↔ told ≤ t := by unfold hold; simp
theorem hold_n (told : Int) (wh : Nat → Int) (t v : Int) : hold told wh t 110 v ↔ v ≤ (cnO wh 8 t : Int) := by unfold hold; simp
theorem hold_k (told : Int) (wh : Nat → Int) (t v : Int) : hold told wh t 107 v ↔ wh v.toNat ≤ t := by unfold hold; simp
theorem OpS_from {f s n w told t v : Int} {wh : Nat → Int} : OpS (if f < v then v else f) s n w told wh t ↔ OpS f s n w told wh t ∧ hold told wh t 109 v := by
  rw [hold_m]
  unfold OpS
  constructor
  · rintro ⟨h1, h2⟩
    refine ⟨⟨?_, h2⟩, ?_⟩ <;> (split at h1 <;> omega)
  · rintro ⟨⟨h1, h2⟩, h3⟩
    refine ⟨?_, h2⟩
    split <;> omega
theorem OpS_tell {f s n w told t : Int} {wh : Nat → Int} : OpS f 1 n w told wh t ↔ OpS f s n w told wh t ∧ hold told wh t 116 0 := by
  rw [hold_t]
  unfold OpS
  constructor
  · rintro ⟨h1, h2, h3⟩; exact ⟨⟨h1, fun _ => h2 rfl, h3⟩, h2 rfl⟩
  · rintro ⟨⟨h1, h2, h3⟩, h4⟩; exact ⟨h1, fun _ => h4, h3⟩
theorem OpS_many {f s n w told t v : Int} {wh : Nat → Int} : OpS f s (if n < v then v else n) w told wh t ↔ OpS f s n w told wh t ∧ hold told wh t 110 v := by
  rw [hold_n]
  unfold OpS
  constructor
  · rintro ⟨h1, h2, h3, h4⟩
    refine ⟨⟨h1, h2, ?_, h4⟩, ?_⟩ <;> (split at h3 <;> omega)
  · rintro ⟨⟨h1, h2, h3, h4⟩, h5⟩
    refine ⟨h1, h2, ?_, h4⟩
    split <;> omega
theorem OpS_who {f s n told t : Int} {w v : Nat} {wh : Nat → Int} (hv : v < 8) : OpS f s n ((w ||| 2 ^ v : Nat) : Int) told wh t ↔ OpS f s n (w : Int) told wh t ∧ hold told wh t 107 (v : Int) := by
  rw [hold_k]
  unfold OpS
  constructor
  · rintro ⟨h1, h2, h3, h4⟩
    refine ⟨⟨h1, h2, h3, fun c hc ht => h4 c hc ?_⟩, h4 v hv ?_⟩
    · show (w ||| 2 ^ v).testBit c = true
      rw [Nat.testBit_or, show w.testBit c = true from ht, Bool.true_or]
    · show (w ||| 2 ^ v).testBit v = true
      rw [Nat.testBit_or, Nat.testBit_two_pow_self, Bool.or_true]
  · rintro ⟨⟨h1, h2, h3, h4⟩, h5⟩
    refine ⟨h1, h2, h3, fun c hc ht => ?_⟩
    have ht : (w ||| 2 ^ v).testBit c = true := ht
    rw [Nat.testBit_or] at ht
    by_cases e : c = v
    · rw [e]; exact h5
    · rw [Nat.testBit_two_pow_of_ne (Ne.symm e), Bool.or_false] at ht
      exact h4 c hc ht
def opOk (mem : Mem) : Prop := (0 ≤ mem 10 9 ∧ mem 10 9 ≤ 59) ∧ (mem 10 10 = 0 ∨ mem 10 10 = 1) ∧ (0 ≤ mem 10 11 ∧ mem 10 11 ≤ 8) ∧ (0 ≤ mem 10 12 ∧ mem 10 12 < 256)
def scP (c j : Nat) : Bool := c == 10 && (j == 1 || j == 3 || j == 9 || j == 10 || j == 11 || j == 12)

theorem t_readsCondition (G : Gm) (mem : Mem) (L a : Nat) (hI : TxI mem L a) (hb : ∀ j, j < 40 → 0 ≤ mem 11 j ∧ mem 11 j ≤ 255) (hf : mem 10 1 = -1) (hO : opOk mem) : Con G mX4_readsCondition [(2, 10)] mem (fun r m' => Fr scP mem m' ∧ ((cnR (mem 11) L a = none ∧ r = some (0, 0) ∧ m' 10 1 = ((cnF (mem 11) L a : Nat) : Int)) ∨ ∃ (b v : Int) (a2 : Nat), cnR (mem 11) L a = some (b, v, a2) ∧ r = some (0, 1) ∧ m' 10 1 = -1 ∧ m' 10 3 = (a2 : Int) ∧ a2 ≤ L ∧ opOk m' ∧ ∀ told wh t, OpS (m' 10 9) (m' 10 10) (m' 10 11) (m' 10 12) told wh t ↔ OpS (mem 10 9) (mem 10 10) (mem 10 11) (mem 10 12) told wh t ∧ hold told wh t b v)) := by
  refine Con.of (lo := [(2, 10), (3, 0), (3, 0)]) (by decide +kernel) (Nat.le_of_ble_eq_true rfl) rfl ?_
  generalize hQ_ : (fun r m' => Fr scP mem m' ∧ ((cnR (mem 11) L a = none ∧ r = some (0, 0) ∧ m' 10 1 = ((cnF (mem 11) L a : Nat) : Int)) ∨ ∃ (b v : Int) (a2 : Nat), cnR (mem 11) L a = some (b, v, a2) ∧ r = some (0, 1) ∧ m' 10 1 = -1 ∧ m' 10 3 = (a2 : Int) ∧ a2 ≤ L ∧ opOk m' ∧ ∀ told wh t, OpS (m' 10 9) (m' 10 10) (m' 10 11) (m' 10 12) told wh t ↔ OpS (mem 10 9) (mem 10 10) (mem 10 11) (mem 10 12) told wh t ∧ hold told wh t b v) : Option AV → Mem → Prop) = Q_
  refine e_aloadn (pc := 0) dX4_readsCondition_0 rfl rfl ?_
  refine e_callVr (pc := 1) (as := []) (st := []) (t_here G mem L a hI) dX4_readsCondition_1 lX4_readsCondition_54 rfl s_10 cn_4 rfl rfl ?_
  refine e_istoren (pc := 4) (lo' := [(2, 10), (0, hrT (mem 11) L a), (3, 0)]) dX4_readsCondition_4 rfl rfl (by decide) rfl ?_
  have C39 : (hrT (mem 11) L a = 109 ∨ hrT (mem 11) L a = 110 ∨ hrT (mem 11) L a = 107 ∨ hrT (mem 11) L a = 116) → Ev G mX4_readsCondition Q_ 39 [(2, 10), (0, hrT (mem 11) L a), (3, 0)] [] mem := by
    intro zb4
    have zL := hI.2.1
    have zaL : a < L := by
      rcases Nat.lt_or_ge a L with z | z
      · exact z
      · exfalso
        have zz1 : hrT (mem 11) L a = -1 := by unfold hrT; rw [if_neg (by omega)]
        omega
    refine e_aloadn (pc := 39) dX4_readsCondition_39 rfl rfl ?_
    refine e_dup (pc := 40) dX4_readsCondition_40 rfl ?_
    refine e_getiv (pc := 41) (v := (a : Int)) dX4_readsCondition_41 fX4_35 s_10 rfl (by decide) (hI.2.2.1) ?_
    refine e_iconst (pc := 44) dX4_readsCondition_44 (by decide) ?_
    refine e_iaddn (pc := 45) dX4_readsCondition_45 (by omega) ?_
    refine e_putI (pc := 46) (mem2 := mset mem 10 3 ((a + 1 : Nat) : Int)) dX4_readsCondition_46 fX4_35 s_10 rfl (by decide) pw_4_3 (rfl) ?_
    refine e_iloadn (pc := 49) dX4_readsCondition_49 rfl rfl ?_
    refine e_bipush (pc := 50) dX4_readsCondition_50 rfl (by decide) ?_
    refine e_icmp_ne (pc := 52) (tgt := 63) dX4_readsCondition_52 rfl (fun h52 => ?_) (fun h52 => ?_)
    · skip
      refine e_iloadn (pc := 63) dX4_readsCondition_63 rfl rfl ?_
      refine e_bipush (pc := 64) dX4_readsCondition_64 rfl (by decide) ?_
      refine e_icmp_ne (pc := 66) (tgt := 91) dX4_readsCondition_66 rfl (fun h66 => ?_) (fun h66 => ?_)
      · skip
        refine e_iloadn (pc := 91) dX4_readsCondition_91 rfl rfl ?_
        refine e_bipush (pc := 92) dX4_readsCondition_92 rfl (by decide) ?_
        refine e_icmp_ne (pc := 94) (tgt := 119) dX4_readsCondition_94 rfl (fun h94 => ?_) (fun h94 => ?_)
        · skip
          refine e_aloadn (pc := 119) dX4_readsCondition_119 rfl rfl ?_
          refine e_iconst (pc := 120) dX4_readsCondition_120 (by decide) ?_
          refine e_iconst (pc := 121) dX4_readsCondition_121 (by decide) ?_
          refine e_bipush (pc := 122) dX4_readsCondition_122 rfl (by decide) ?_
          have zT : TxI (mset mem 10 3 ((a + 1 : Nat) : Int)) L (a + 1) := ⟨hI.1, hI.2.1, rfl, zaL⟩
          have zNl := nmb_le (mem 11) L 1 (a + 1) 0 zaL
          have zNum : Con G mX4_number [(2, 10), (0, 1), (0, 0), (0, 7)] (mset mem 10 3 ((a + 1 : Nat) : Int)) (fun r m' => ((nBad (nmb (mem 11) L 1 (a + 1) 0) (a + 1) 0 7 ∧ r = some (0, -1) ∧ m' = mset (mset (mset mem 10 3 ((a + 1 : Nat) : Int)) 10 3 (((nmb (mem 11) L 1 (a + 1) 0).1 : Nat) : Int)) 10 1 ((a + 1 : Nat) : Int)) ∨ (¬ nBad (nmb (mem 11) L 1 (a + 1) 0) (a + 1) 0 7 ∧ r = some (0, (nmb (mem 11) L 1 (a + 1) 0).2) ∧ m' = mset (mset mem 10 3 ((a + 1 : Nat) : Int)) 10 3 (((nmb (mem 11) L 1 (a + 1) 0).1 : Nat) : Int)))) := t_number G (mset mem 10 3 ((a + 1 : Nat) : Int)) L (a + 1) 1 0 7 (by decide) zT hb
          refine e_callV (pc := 124) (as := [(0, 1), (0, 0), (0, 7)]) (st := []) (zNum) dX4_readsCondition_124 lX4_readsCondition_65 rfl s_10 cn_4 rfl rfl (fun r_ zm1 hq_ => ?_)
          obtain ⟨znv, zr_, zor⟩ : ∃ znv : Int, r_ = some (0, znv) ∧ ((nBad (nmb (mem 11) L 1 (a + 1) 0) (a + 1) 0 7 ∧ znv = -1 ∧ zm1 = mset (mset (mset mem 10 3 ((a + 1 : Nat) : Int)) 10 3 (((nmb (mem 11) L 1 (a + 1) 0).1 : Nat) : Int)) 10 1 ((a + 1 : Nat) : Int)) ∨ (¬ nBad (nmb (mem 11) L 1 (a + 1) 0) (a + 1) 0 7 ∧ znv = (nmb (mem 11) L 1 (a + 1) 0).2 ∧ zm1 = mset (mset mem 10 3 ((a + 1 : Nat) : Int)) 10 3 (((nmb (mem 11) L 1 (a + 1) 0).1 : Nat) : Int))) := by
            rcases hq_ with ⟨h1, h2, h3⟩ | ⟨h1, h2, h3⟩
            · exact ⟨_, h2, Or.inl ⟨h1, rfl, h3⟩⟩
            · exact ⟨_, h2, Or.inr ⟨h1, rfl, h3⟩⟩
          subst zr_
          refine Ev.to (st' := [(0, znv)]) ?_ rfl rfl rfl
          rcases zor with ⟨zbad, rfl, rfl⟩ | ⟨zbad, rfl, rfl⟩
          · skip
            refine e_istoren (pc := 127) (lo' := [(2, 10), (0, hrT (mem 11) L a), (0, -1)]) dX4_readsCondition_127 rfl rfl (by decide) rfl ?_
            refine e_aloadn (pc := 128) dX4_readsCondition_128 rfl rfl ?_
            refine e_dup (pc := 129) dX4_readsCondition_129 rfl ?_
            refine e_getiv (pc := 130) (v := mem 10 12) dX4_readsCondition_130 fX4_78 s_10 rfl (by decide) rfl ?_
            refine e_iloadn (pc := 133) dX4_readsCondition_133 rfl rfl ?_
            refine e_iconst (pc := 134) dX4_readsCondition_134 (by decide) ?_
            refine e_icmp_ne (pc := 135) (tgt := 142) dX4_readsCondition_135 rfl (fun h135 => ?_) (fun h135 => ?_)
            · skip
              exfalso; omega
            · skip
              refine e_iconst (pc := 138) dX4_readsCondition_138 (by decide) ?_
              refine e_goto (pc := 139) (tgt := 145) dX4_readsCondition_139 rfl ?_
              refine e_ior (pc := 145) dX4_readsCondition_145 ?_
              rw [show bOr (mem 10 12) 0 = mem 10 12 from by have zz1 := hO.2.2.2; rw [show mem 10 12 = (((mem 10 12).toNat : Nat) : Int) by omega]; exact (bOr_nat (by omega) (by decide)).trans (by rw [Nat.or_zero])]
              refine e_putI (pc := 146) (mem2 := mset (mset (mset (mset mem 10 3 ((a + 1 : Nat) : Int)) 10 3 (((nmb (mem 11) L 1 (a + 1) 0).1 : Nat) : Int)) 10 1 ((a + 1 : Nat) : Int)) 10 12 (mem 10 12)) dX4_readsCondition_146 fX4_78 s_10 rfl (by decide) pw_4_12 rfl ?_
              refine e_aloadn (pc := 149) dX4_readsCondition_149 rfl rfl ?_
              refine e_getiv (pc := 150) (v := ((a + 1 : Nat) : Int)) dX4_readsCondition_150 fX4_38 s_10 rfl (by decide) (rfl) ?_
              refine e_iconst (pc := 153) dX4_readsCondition_153 (by decide) ?_
              refine e_icmp_ne (pc := 154) (tgt := 161) dX4_readsCondition_154 rfl (fun h154 => ?_) (fun h154 => ?_)
              · skip
                refine e_iconst (pc := 161) dX4_readsCondition_161 (by decide) ?_
                have zcn : cnR (mem 11) L a = none := by
                  unfold cnR
                  rw [if_neg (by omega), if_neg (by omega), if_neg (by omega), if_pos (by omega), if_pos (by unfold nBadB; unfold nBad at zbad; simpa using zbad)]
                have zcf : cnF (mem 11) L a = a + 1 := by unfold cnF; rw [if_pos (by omega)]
                exact e_zret (pc := 162) dX4_readsCondition_162 rfl (by decide) (by rw [← hQ_]; exact ⟨((((Fr.rf.ms rfl).ms rfl).ms rfl).ms rfl), Or.inl ⟨zcn, rfl, by rw [zcf]; rfl⟩⟩)
              · skip
                exfalso; omega
          · skip
            unfold nBad at zbad
            have znb : 0 ≤ (nmb (mem 11) L 1 (a + 1) 0).2 ∧ (nmb (mem 11) L 1 (a + 1) 0).2 ≤ 7 := by omega
            refine e_istoren (pc := 127) (lo' := [(2, 10), (0, hrT (mem 11) L a), (0, (nmb (mem 11) L 1 (a + 1) 0).2)]) dX4_readsCondition_127 rfl rfl (by decide) rfl ?_
            refine e_aloadn (pc := 128) dX4_readsCondition_128 rfl rfl ?_
            refine e_dup (pc := 129) dX4_readsCondition_129 rfl ?_
            refine e_getiv (pc := 130) (v := mem 10 12) dX4_readsCondition_130 fX4_78 s_10 rfl (by decide) rfl ?_
            refine e_iloadn (pc := 133) dX4_readsCondition_133 rfl rfl ?_
            refine e_iconst (pc := 134) dX4_readsCondition_134 (by decide) ?_
            refine e_icmp_ne (pc := 135) (tgt := 142) dX4_readsCondition_135 rfl (fun h135 => ?_) (fun h135 => ?_)
            · skip
              refine e_iconst (pc := 142) dX4_readsCondition_142 (by decide) ?_
              refine e_iloadn (pc := 143) dX4_readsCondition_143 rfl rfl ?_
              refine e_ishl (pc := 144) dX4_readsCondition_144 ?_
              rw [show bShl 1 ((nmb (mem 11) L 1 (a + 1) 0).2) = ((2 ^ (nmb (mem 11) L 1 (a + 1) 0).2.toNat : Nat) : Int) from by rw [show (nmb (mem 11) L 1 (a + 1) 0).2 = (((nmb (mem 11) L 1 (a + 1) 0).2.toNat : Nat) : Int) by omega]; exact one_shl (by omega)]
              refine e_ior (pc := 145) dX4_readsCondition_145 ?_
              rw [show bOr (mem 10 12) ((2 ^ (nmb (mem 11) L 1 (a + 1) 0).2.toNat : Nat) : Int) = (((mem 10 12).toNat ||| 2 ^ (nmb (mem 11) L 1 (a + 1) 0).2.toNat : Nat) : Int) from by have zz1 := hO.2.2.2; have zz2 : 2 ^ (nmb (mem 11) L 1 (a + 1) 0).2.toNat ≤ 2 ^ 7 := Nat.pow_le_pow_right (by decide) (by omega); rw [show mem 10 12 = (((mem 10 12).toNat : Nat) : Int) by omega]; exact bOr_nat (by omega) (by omega)]
              refine e_putI (pc := 146) (mem2 := mset (mset (mset mem 10 3 ((a + 1 : Nat) : Int)) 10 3 (((nmb (mem 11) L 1 (a + 1) 0).1 : Nat) : Int)) 10 12 (((mem 10 12).toNat ||| 2 ^ (nmb (mem 11) L 1 (a + 1) 0).2.toNat : Nat) : Int)) dX4_readsCondition_146 fX4_78 s_10 rfl (by decide) pw_4_12 rfl ?_
              refine e_aloadn (pc := 149) dX4_readsCondition_149 rfl rfl ?_
              refine e_getiv (pc := 150) (v := (-1)) dX4_readsCondition_150 fX4_38 s_10 rfl (by decide) (hf) ?_
              refine e_iconst (pc := 153) dX4_readsCondition_153 (by decide) ?_
              refine e_icmp_ne (pc := 154) (tgt := 161) dX4_readsCondition_154 rfl (fun h154 => ?_) (fun h154 => ?_)
              · skip
                exfalso; omega
              · skip
                refine e_iconst (pc := 157) dX4_readsCondition_157 (by decide) ?_
                refine e_goto (pc := 158) (tgt := 162) dX4_readsCondition_158 rfl ?_
                have zcn : cnR (mem 11) L a = some (107, (nmb (mem 11) L 1 (a + 1) 0).2, (nmb (mem 11) L 1 (a + 1) 0).1) := by
                  unfold cnR
                  rw [if_neg (by omega), if_neg (by omega), if_neg (by omega), if_pos (by omega), if_neg (by unfold nBadB; simpa using zbad)]
                have zop : opOk (mset (mset (mset mem 10 3 ((a + 1 : Nat) : Int)) 10 3 (((nmb (mem 11) L 1 (a + 1) 0).1 : Nat) : Int)) 10 12 (((mem 10 12).toNat ||| 2 ^ (nmb (mem 11) L 1 (a + 1) 0).2.toNat : Nat) : Int)) := ⟨hO.1, hO.2.1, hO.2.2.1, by show 0 ≤ (((mem 10 12).toNat ||| 2 ^ (nmb (mem 11) L 1 (a + 1) 0).2.toNat : Nat) : Int) ∧ (((mem 10 12).toNat ||| 2 ^ (nmb (mem 11) L 1 (a + 1) 0).2.toNat : Nat) : Int) < 256; have zz1 := hO.2.2.2; have zz2 : 2 ^ (nmb (mem 11) L 1 (a + 1) 0).2.toNat < 2 ^ 8 := Nat.pow_lt_pow_right (by decide) (by omega); have zz3 : (mem 10 12).toNat ||| 2 ^ (nmb (mem 11) L 1 (a + 1) 0).2.toNat < 2 ^ 8 := Nat.or_lt_two_pow (by omega) zz2; omega⟩
                have zsem : ∀ told wh t, OpS (mem 10 9) (mem 10 10) (mem 10 11) (((mem 10 12).toNat ||| 2 ^ (nmb (mem 11) L 1 (a + 1) 0).2.toNat : Nat) : Int) told wh t ↔ OpS (mem 10 9) (mem 10 10) (mem 10 11) (mem 10 12) told wh t ∧ hold told wh t 107 (nmb (mem 11) L 1 (a + 1) 0).2 := by
                  intro told wh t
                  have zz1 := OpS_who (f := mem 10 9) (s := mem 10 10) (n := mem 10 11) (told := told) (t := t) (wh := wh) (w := (mem 10 12).toNat) (v := (nmb (mem 11) L 1 (a + 1) 0).2.toNat) (by omega)
                  have zz2 := hO.2.2.2
                  rw [Int.toNat_of_nonneg (by omega), Int.toNat_of_nonneg (by omega)] at zz1
                  exact zz1
                exact e_zret (pc := 162) dX4_readsCondition_162 rfl (by decide) (by rw [← hQ_]; exact ⟨(((Fr.rf.ms rfl).ms rfl).ms rfl), Or.inr ⟨107, _, _, zcn, rfl, hf, rfl, zNl.2, zop, zsem⟩⟩)
            · skip
              exfalso; omega
        · skip
          refine e_aloadn (pc := 97) dX4_readsCondition_97 rfl rfl ?_
          refine e_aloadn (pc := 98) dX4_readsCondition_98 rfl rfl ?_
          refine e_getiv (pc := 99) (v := mem 10 11) dX4_readsCondition_99 fX4_75 s_10 rfl (by decide) rfl ?_
          refine e_aloadn (pc := 102) dX4_readsCondition_102 rfl rfl ?_
          refine e_iconst (pc := 103) dX4_readsCondition_103 (by decide) ?_
          refine e_iconst (pc := 104) dX4_readsCondition_104 (by decide) ?_
          refine e_bipush (pc := 105) dX4_readsCondition_105 rfl (by decide) ?_
          have zT : TxI (mset mem 10 3 ((a + 1 : Nat) : Int)) L (a + 1) := ⟨hI.1, hI.2.1, rfl, zaL⟩
          have zNl := nmb_le (mem 11) L 1 (a + 1) 0 zaL
          have zNum : Con G mX4_number [(2, 10), (0, 1), (0, 1), (0, 8)] (mset mem 10 3 ((a + 1 : Nat) : Int)) (fun r m' => ((nBad (nmb (mem 11) L 1 (a + 1) 0) (a + 1) 1 8 ∧ r = some (0, -1) ∧ m' = mset (mset (mset mem 10 3 ((a + 1 : Nat) : Int)) 10 3 (((nmb (mem 11) L 1 (a + 1) 0).1 : Nat) : Int)) 10 1 ((a + 1 : Nat) : Int)) ∨ (¬ nBad (nmb (mem 11) L 1 (a + 1) 0) (a + 1) 1 8 ∧ r = some (0, (nmb (mem 11) L 1 (a + 1) 0).2) ∧ m' = mset (mset mem 10 3 ((a + 1 : Nat) : Int)) 10 3 (((nmb (mem 11) L 1 (a + 1) 0).1 : Nat) : Int)))) := t_number G (mset mem 10 3 ((a + 1 : Nat) : Int)) L (a + 1) 1 1 8 (by decide) zT hb
          refine e_callV (pc := 107) (as := [(0, 1), (0, 1), (0, 8)]) (st := [(0, mem 10 11), (2, 10)]) (zNum) dX4_readsCondition_107 lX4_readsCondition_65 rfl s_10 cn_4 rfl rfl (fun r_ zm1 hq_ => ?_)
          obtain ⟨znv, zr_, zor⟩ : ∃ znv : Int, r_ = some (0, znv) ∧ ((nBad (nmb (mem 11) L 1 (a + 1) 0) (a + 1) 1 8 ∧ znv = -1 ∧ zm1 = mset (mset (mset mem 10 3 ((a + 1 : Nat) : Int)) 10 3 (((nmb (mem 11) L 1 (a + 1) 0).1 : Nat) : Int)) 10 1 ((a + 1 : Nat) : Int)) ∨ (¬ nBad (nmb (mem 11) L 1 (a + 1) 0) (a + 1) 1 8 ∧ znv = (nmb (mem 11) L 1 (a + 1) 0).2 ∧ zm1 = mset (mset mem 10 3 ((a + 1 : Nat) : Int)) 10 3 (((nmb (mem 11) L 1 (a + 1) 0).1 : Nat) : Int))) := by
            rcases hq_ with ⟨h1, h2, h3⟩ | ⟨h1, h2, h3⟩
            · exact ⟨_, h2, Or.inl ⟨h1, rfl, h3⟩⟩
            · exact ⟨_, h2, Or.inr ⟨h1, rfl, h3⟩⟩
          subst zr_
          refine Ev.to (st' := [(0, znv), (0, mem 10 11), (2, 10)]) ?_ rfl rfl rfl
          rcases zor with ⟨zbad, rfl, rfl⟩ | ⟨zbad, rfl, rfl⟩
          · skip
            refine e_max (pc := 110) dX4_readsCondition_110 lX4_max69 (by decide) rfl ?_
            refine e_putI (pc := 113) (mem2 := mset (mset (mset (mset mem 10 3 ((a + 1 : Nat) : Int)) 10 3 (((nmb (mem 11) L 1 (a + 1) 0).1 : Nat) : Int)) 10 1 ((a + 1 : Nat) : Int)) 10 11 (if mem 10 11 < -1 then -1 else mem 10 11)) dX4_readsCondition_113 fX4_75 s_10 rfl (by decide) pw_4_11 rfl ?_
            refine e_goto (pc := 116) (tgt := 149) dX4_readsCondition_116 rfl ?_
            refine e_aloadn (pc := 149) dX4_readsCondition_149 rfl rfl ?_
            refine e_getiv (pc := 150) (v := ((a + 1 : Nat) : Int)) dX4_readsCondition_150 fX4_38 s_10 rfl (by decide) (rfl) ?_
            refine e_iconst (pc := 153) dX4_readsCondition_153 (by decide) ?_
            refine e_icmp_ne (pc := 154) (tgt := 161) dX4_readsCondition_154 rfl (fun h154 => ?_) (fun h154 => ?_)
            · skip
              refine e_iconst (pc := 161) dX4_readsCondition_161 (by decide) ?_
              have zcn : cnR (mem 11) L a = none := by
                unfold cnR
                rw [if_neg (by omega), if_neg (by omega), if_pos (by omega), if_pos (by unfold nBadB; unfold nBad at zbad; simpa using zbad)]
              have zcf : cnF (mem 11) L a = a + 1 := by unfold cnF; rw [if_pos (by omega)]
              exact e_zret (pc := 162) dX4_readsCondition_162 rfl (by decide) (by rw [← hQ_]; exact ⟨((((Fr.rf.ms rfl).ms rfl).ms rfl).ms rfl), Or.inl ⟨zcn, rfl, by rw [zcf]; rfl⟩⟩)
            · skip
              exfalso; omega
          · skip
            unfold nBad at zbad
            have znb : 1 ≤ (nmb (mem 11) L 1 (a + 1) 0).2 ∧ (nmb (mem 11) L 1 (a + 1) 0).2 ≤ 8 := by omega
            refine e_max (pc := 110) dX4_readsCondition_110 lX4_max69 (by decide) rfl ?_
            refine e_putI (pc := 113) (mem2 := mset (mset (mset mem 10 3 ((a + 1 : Nat) : Int)) 10 3 (((nmb (mem 11) L 1 (a + 1) 0).1 : Nat) : Int)) 10 11 (if mem 10 11 < (nmb (mem 11) L 1 (a + 1) 0).2 then (nmb (mem 11) L 1 (a + 1) 0).2 else mem 10 11)) dX4_readsCondition_113 fX4_75 s_10 rfl (by decide) pw_4_11 rfl ?_
            refine e_goto (pc := 116) (tgt := 149) dX4_readsCondition_116 rfl ?_
            refine e_aloadn (pc := 149) dX4_readsCondition_149 rfl rfl ?_
            refine e_getiv (pc := 150) (v := (-1)) dX4_readsCondition_150 fX4_38 s_10 rfl (by decide) (hf) ?_
            refine e_iconst (pc := 153) dX4_readsCondition_153 (by decide) ?_
            refine e_icmp_ne (pc := 154) (tgt := 161) dX4_readsCondition_154 rfl (fun h154 => ?_) (fun h154 => ?_)
            · skip
              exfalso; omega
            · skip
              refine e_iconst (pc := 157) dX4_readsCondition_157 (by decide) ?_
              refine e_goto (pc := 158) (tgt := 162) dX4_readsCondition_158 rfl ?_
              have zcn : cnR (mem 11) L a = some (110, (nmb (mem 11) L 1 (a + 1) 0).2, (nmb (mem 11) L 1 (a + 1) 0).1) := by
                unfold cnR
                rw [if_neg (by omega), if_neg (by omega), if_pos (by omega), if_neg (by unfold nBadB; simpa using zbad)]
              have zop : opOk (mset (mset (mset mem 10 3 ((a + 1 : Nat) : Int)) 10 3 (((nmb (mem 11) L 1 (a + 1) 0).1 : Nat) : Int)) 10 11 (if mem 10 11 < (nmb (mem 11) L 1 (a + 1) 0).2 then (nmb (mem 11) L 1 (a + 1) 0).2 else mem 10 11)) := ⟨hO.1, hO.2.1, by show 0 ≤ (if mem 10 11 < (nmb (mem 11) L 1 (a + 1) 0).2 then (nmb (mem 11) L 1 (a + 1) 0).2 else mem 10 11) ∧ (if mem 10 11 < (nmb (mem 11) L 1 (a + 1) 0).2 then (nmb (mem 11) L 1 (a + 1) 0).2 else mem 10 11) ≤ 8; have zz1 := hO.2.2.1; split <;> omega, hO.2.2.2⟩
              exact e_zret (pc := 162) dX4_readsCondition_162 rfl (by decide) (by rw [← hQ_]; exact ⟨(((Fr.rf.ms rfl).ms rfl).ms rfl), Or.inr ⟨110, _, _, zcn, rfl, hf, rfl, zNl.2, zop, fun told wh t => OpS_many⟩⟩)
      · skip
        refine e_aloadn (pc := 69) dX4_readsCondition_69 rfl rfl ?_
        refine e_aloadn (pc := 70) dX4_readsCondition_70 rfl rfl ?_
        refine e_getiv (pc := 71) (v := mem 10 9) dX4_readsCondition_71 fX4_62 s_10 rfl (by decide) rfl ?_
        refine e_aloadn (pc := 74) dX4_readsCondition_74 rfl rfl ?_
        refine e_iconst (pc := 75) dX4_readsCondition_75 (by decide) ?_
        refine e_iconst (pc := 76) dX4_readsCondition_76 (by decide) ?_
        refine e_bipush (pc := 77) dX4_readsCondition_77 rfl (by decide) ?_
        have zT : TxI (mset mem 10 3 ((a + 1 : Nat) : Int)) L (a + 1) := ⟨hI.1, hI.2.1, rfl, zaL⟩
        have zNl := nmb_le (mem 11) L 2 (a + 1) 0 zaL
        have zNum : Con G mX4_number [(2, 10), (0, 2), (0, 0), (0, 59)] (mset mem 10 3 ((a + 1 : Nat) : Int)) (fun r m' => ((nBad (nmb (mem 11) L 2 (a + 1) 0) (a + 1) 0 59 ∧ r = some (0, -1) ∧ m' = mset (mset (mset mem 10 3 ((a + 1 : Nat) : Int)) 10 3 (((nmb (mem 11) L 2 (a + 1) 0).1 : Nat) : Int)) 10 1 ((a + 1 : Nat) : Int)) ∨ (¬ nBad (nmb (mem 11) L 2 (a + 1) 0) (a + 1) 0 59 ∧ r = some (0, (nmb (mem 11) L 2 (a + 1) 0).2) ∧ m' = mset (mset mem 10 3 ((a + 1 : Nat) : Int)) 10 3 (((nmb (mem 11) L 2 (a + 1) 0).1 : Nat) : Int)))) := t_number G (mset mem 10 3 ((a + 1 : Nat) : Int)) L (a + 1) 2 0 59 (by decide) zT hb
        refine e_callV (pc := 79) (as := [(0, 2), (0, 0), (0, 59)]) (st := [(0, mem 10 9), (2, 10)]) (zNum) dX4_readsCondition_79 lX4_readsCondition_65 rfl s_10 cn_4 rfl rfl (fun r_ zm1 hq_ => ?_)
        obtain ⟨znv, zr_, zor⟩ : ∃ znv : Int, r_ = some (0, znv) ∧ ((nBad (nmb (mem 11) L 2 (a + 1) 0) (a + 1) 0 59 ∧ znv = -1 ∧ zm1 = mset (mset (mset mem 10 3 ((a + 1 : Nat) : Int)) 10 3 (((nmb (mem 11) L 2 (a + 1) 0).1 : Nat) : Int)) 10 1 ((a + 1 : Nat) : Int)) ∨ (¬ nBad (nmb (mem 11) L 2 (a + 1) 0) (a + 1) 0 59 ∧ znv = (nmb (mem 11) L 2 (a + 1) 0).2 ∧ zm1 = mset (mset mem 10 3 ((a + 1 : Nat) : Int)) 10 3 (((nmb (mem 11) L 2 (a + 1) 0).1 : Nat) : Int))) := by
          rcases hq_ with ⟨h1, h2, h3⟩ | ⟨h1, h2, h3⟩
          · exact ⟨_, h2, Or.inl ⟨h1, rfl, h3⟩⟩
          · exact ⟨_, h2, Or.inr ⟨h1, rfl, h3⟩⟩
        subst zr_
        refine Ev.to (st' := [(0, znv), (0, mem 10 9), (2, 10)]) ?_ rfl rfl rfl
        rcases zor with ⟨zbad, rfl, rfl⟩ | ⟨zbad, rfl, rfl⟩
        · skip
          refine e_max (pc := 82) dX4_readsCondition_82 lX4_max69 (by decide) rfl ?_
          refine e_putI (pc := 85) (mem2 := mset (mset (mset (mset mem 10 3 ((a + 1 : Nat) : Int)) 10 3 (((nmb (mem 11) L 2 (a + 1) 0).1 : Nat) : Int)) 10 1 ((a + 1 : Nat) : Int)) 10 9 (if mem 10 9 < -1 then -1 else mem 10 9)) dX4_readsCondition_85 fX4_62 s_10 rfl (by decide) pw_4_9 rfl ?_
          refine e_goto (pc := 88) (tgt := 149) dX4_readsCondition_88 rfl ?_
          refine e_aloadn (pc := 149) dX4_readsCondition_149 rfl rfl ?_
          refine e_getiv (pc := 150) (v := ((a + 1 : Nat) : Int)) dX4_readsCondition_150 fX4_38 s_10 rfl (by decide) (rfl) ?_
          refine e_iconst (pc := 153) dX4_readsCondition_153 (by decide) ?_
          refine e_icmp_ne (pc := 154) (tgt := 161) dX4_readsCondition_154 rfl (fun h154 => ?_) (fun h154 => ?_)
          · skip
            refine e_iconst (pc := 161) dX4_readsCondition_161 (by decide) ?_
            have zcn : cnR (mem 11) L a = none := by
              unfold cnR
              rw [if_neg (by omega), if_pos (by omega), if_pos (by unfold nBadB; unfold nBad at zbad; simpa using zbad)]
            have zcf : cnF (mem 11) L a = a + 1 := by unfold cnF; rw [if_pos (by omega)]
            exact e_zret (pc := 162) dX4_readsCondition_162 rfl (by decide) (by rw [← hQ_]; exact ⟨((((Fr.rf.ms rfl).ms rfl).ms rfl).ms rfl), Or.inl ⟨zcn, rfl, by rw [zcf]; rfl⟩⟩)
          · skip
            exfalso; omega
        · skip
          unfold nBad at zbad
          have znb : 0 ≤ (nmb (mem 11) L 2 (a + 1) 0).2 ∧ (nmb (mem 11) L 2 (a + 1) 0).2 ≤ 59 := by omega
          refine e_max (pc := 82) dX4_readsCondition_82 lX4_max69 (by decide) rfl ?_
          refine e_putI (pc := 85) (mem2 := mset (mset (mset mem 10 3 ((a + 1 : Nat) : Int)) 10 3 (((nmb (mem 11) L 2 (a + 1) 0).1 : Nat) : Int)) 10 9 (if mem 10 9 < (nmb (mem 11) L 2 (a + 1) 0).2 then (nmb (mem 11) L 2 (a + 1) 0).2 else mem 10 9)) dX4_readsCondition_85 fX4_62 s_10 rfl (by decide) pw_4_9 rfl ?_
          refine e_goto (pc := 88) (tgt := 149) dX4_readsCondition_88 rfl ?_
          refine e_aloadn (pc := 149) dX4_readsCondition_149 rfl rfl ?_
          refine e_getiv (pc := 150) (v := (-1)) dX4_readsCondition_150 fX4_38 s_10 rfl (by decide) (hf) ?_
          refine e_iconst (pc := 153) dX4_readsCondition_153 (by decide) ?_
          refine e_icmp_ne (pc := 154) (tgt := 161) dX4_readsCondition_154 rfl (fun h154 => ?_) (fun h154 => ?_)
          · skip
            exfalso; omega
          · skip
            refine e_iconst (pc := 157) dX4_readsCondition_157 (by decide) ?_
            refine e_goto (pc := 158) (tgt := 162) dX4_readsCondition_158 rfl ?_
            have zcn : cnR (mem 11) L a = some (109, (nmb (mem 11) L 2 (a + 1) 0).2, (nmb (mem 11) L 2 (a + 1) 0).1) := by
              unfold cnR
              rw [if_neg (by omega), if_pos (by omega), if_neg (by unfold nBadB; simpa using zbad)]
            have zop : opOk (mset (mset (mset mem 10 3 ((a + 1 : Nat) : Int)) 10 3 (((nmb (mem 11) L 2 (a + 1) 0).1 : Nat) : Int)) 10 9 (if mem 10 9 < (nmb (mem 11) L 2 (a + 1) 0).2 then (nmb (mem 11) L 2 (a + 1) 0).2 else mem 10 9)) := ⟨by show 0 ≤ (if mem 10 9 < (nmb (mem 11) L 2 (a + 1) 0).2 then (nmb (mem 11) L 2 (a + 1) 0).2 else mem 10 9) ∧ (if mem 10 9 < (nmb (mem 11) L 2 (a + 1) 0).2 then (nmb (mem 11) L 2 (a + 1) 0).2 else mem 10 9) ≤ 59; have zz1 := hO.1; split <;> omega, hO.2⟩
            exact e_zret (pc := 162) dX4_readsCondition_162 rfl (by decide) (by rw [← hQ_]; exact ⟨(((Fr.rf.ms rfl).ms rfl).ms rfl), Or.inr ⟨109, _, _, zcn, rfl, hf, rfl, zNl.2, zop, fun told wh t => OpS_from⟩⟩)
    · skip
      refine e_aloadn (pc := 55) dX4_readsCondition_55 rfl rfl ?_
      refine e_iconst (pc := 56) dX4_readsCondition_56 (by decide) ?_
      refine e_putZ (pc := 57) (mem2 := mset (mset mem 10 3 ((a + 1 : Nat) : Int)) 10 10 1) dX4_readsCondition_57 fX4_58 s_10 rfl (by decide) pw_4_10 (by decide) rfl ?_
      refine e_goto (pc := 60) (tgt := 149) dX4_readsCondition_60 rfl ?_
      refine e_aloadn (pc := 149) dX4_readsCondition_149 rfl rfl ?_
      refine e_getiv (pc := 150) (v := (-1)) dX4_readsCondition_150 fX4_38 s_10 rfl (by decide) (hf) ?_
      refine e_iconst (pc := 153) dX4_readsCondition_153 (by decide) ?_
      refine e_icmp_ne (pc := 154) (tgt := 161) dX4_readsCondition_154 rfl (fun h154 => ?_) (fun h154 => ?_)
      · skip
        exfalso; omega
      · skip
        refine e_iconst (pc := 157) dX4_readsCondition_157 (by decide) ?_
        refine e_goto (pc := 158) (tgt := 162) dX4_readsCondition_158 rfl ?_
        have zcn : cnR (mem 11) L a = some (116, 0, a + 1) := by
          unfold cnR
          rw [if_pos (by omega)]
        have zop : opOk (mset (mset mem 10 3 ((a + 1 : Nat) : Int)) 10 10 1) := ⟨hO.1, Or.inr rfl, hO.2.2.1, hO.2.2.2⟩
        exact e_zret (pc := 162) dX4_readsCondition_162 rfl (by decide) (by rw [← hQ_]; exact ⟨((Fr.rf.ms rfl).ms rfl), Or.inr ⟨116, 0, a + 1, zcn, rfl, hf, rfl, zaL, zop, fun told wh t => OpS_tell⟩⟩)
  refine e_iloadn (pc := 5) dX4_readsCondition_5 rfl rfl ?_
  refine e_bipush (pc := 6) dX4_readsCondition_6 rfl (by decide) ?_
  refine e_icmp_eq (pc := 8) (tgt := 39) dX4_readsCondition_8 rfl (fun h8 => ?_) (fun h8 => ?_)
  · skip
    exact Ev.to (C39  (by omega)) rfl rfl rfl
  · skip
    refine e_iloadn (pc := 11) dX4_readsCondition_11 rfl rfl ?_
    refine e_bipush (pc := 12) dX4_readsCondition_12 rfl (by decide) ?_
    refine e_icmp_eq (pc := 14) (tgt := 39) dX4_readsCondition_14 rfl (fun h14 => ?_) (fun h14 => ?_)
    · skip
      exact Ev.to (C39  (by omega)) rfl rfl rfl
    · skip
      refine e_iloadn (pc := 17) dX4_readsCondition_17 rfl rfl ?_
      refine e_bipush (pc := 18) dX4_readsCondition_18 rfl (by decide) ?_
      refine e_icmp_eq (pc := 20) (tgt := 39) dX4_readsCondition_20 rfl (fun h20 => ?_) (fun h20 => ?_)
      · skip
        exact Ev.to (C39  (by omega)) rfl rfl rfl
      · skip
        refine e_iloadn (pc := 23) dX4_readsCondition_23 rfl rfl ?_
        refine e_bipush (pc := 24) dX4_readsCondition_24 rfl (by decide) ?_
        refine e_icmp_eq (pc := 26) (tgt := 39) dX4_readsCondition_26 rfl (fun h26 => ?_) (fun h26 => ?_)
        · skip
          exact Ev.to (C39  (by omega)) rfl rfl rfl
        · skip
          refine e_aloadn (pc := 29) dX4_readsCondition_29 rfl rfl ?_
          refine e_aloadn (pc := 30) dX4_readsCondition_30 rfl rfl ?_
          refine e_getiv (pc := 31) (v := (a : Int)) dX4_readsCondition_31 fX4_35 s_10 rfl (by decide) (hI.2.2.1) ?_
          refine e_putI (pc := 34) (mem2 := mset mem 10 1 (a : Int)) dX4_readsCondition_34 fX4_38 s_10 rfl (by decide) pw_4_1 rfl ?_
          refine e_iconst (pc := 37) dX4_readsCondition_37 (by decide) ?_
          have zcn : cnR (mem 11) L a = none := by
            unfold cnR
            rw [if_neg (by omega), if_neg (by omega), if_neg (by omega), if_neg (by omega)]
          have zcf : cnF (mem 11) L a = a := by unfold cnF; rw [if_neg (by omega)]
          exact e_zret (pc := 38) dX4_readsCondition_38 rfl (by decide) (by rw [← hQ_]; exact ⟨(Fr.rf.ms rfl), Or.inl ⟨zcn, rfl, by rw [zcf]; rfl⟩⟩)
