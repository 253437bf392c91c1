-- THE RULE as the class keeps it: alternative i is so at t
def altOk (mem : Mem) (told : Int) (there : Nat) (ord wh : Nat → Int) (i : Nat) (t : Int) : Prop := mem 12 i ≤ t ∧ (mem 13 i = 1 → told ≤ t) ∧ mem 14 i ≤ (cnO ord there t : Int) ∧ ∀ c, c < 8 → (mem 15 i).toNat.testBit c = true → wh c ≤ t
def RuOk (mem : Mem) : Prop := (0 ≤ mem 10 4 ∧ mem 10 4 ≤ 20) ∧ ∀ i, i < 20 → (0 ≤ mem 12 i ∧ mem 12 i ≤ 59) ∧ (mem 13 i = 0 ∨ mem 13 i = 1) ∧ (0 ≤ mem 14 i ∧ mem 14 i ≤ 8) ∧ (0 ≤ mem 15 i ∧ mem 15 i < 256)
theorem ushr1 {n : Nat} (h : n < 2 ^ 31) : bUshr (n : Int) 1 = ((n / 2 : Nat) : Int) := by
  unfold bUshr
  rw [ofInt_nat, show Int32.ofInt 1 = nI 1 from rfl, pk_ushrN (by omega) (nI 1) 1 (by decide), nI_toInt (by omega)]
theorem and1 {n : Nat} (h : n < 2 ^ 31) : bAnd (n : Int) 1 = ((n % 2 : Nat) : Int) := by
  rw [show (1 : Int) = ((1 : Nat) : Int) from rfl, bAnd_nat h, Nat.and_one_is_mod]
theorem a_t0 {f told tl : Int} (h : tl = 0) (t : Int) : f ≤ t ↔ f ≤ t ∧ (tl = 1 → told ≤ t) := by omega
theorem a_t1 {f told tl : Int} (h : told ≤ f) (t : Int) : f ≤ t ↔ f ≤ t ∧ (tl = 1 → told ≤ t) := by omega
theorem a_t2 {f told tl : Int} (h : f < told) (h1 : tl = 1) (t : Int) : told ≤ t ↔ f ≤ t ∧ (tl = 1 → told ≤ t) := by omega
theorem b_0 {m many t : Int} {n : Nat} {A B : Prop} (h : many - 1 < 0) (h1 : m ≤ t ↔ A ∧ B) : m ≤ t ↔ A ∧ B ∧ many ≤ (n : Int) := by
  rw [h1]; exact ⟨fun q => ⟨q.1, q.2, by omega⟩, fun q => ⟨q.1, q.2.1⟩⟩
theorem b_1 {m o many t : Int} {n : Nat} {A B : Prop} (h0 : 0 ≤ many - 1) (h : o ≤ m) (h8 : o ≤ t ↔ (many - 1).toNat < n) (h1 : m ≤ t ↔ A ∧ B) : m ≤ t ↔ A ∧ B ∧ many ≤ (n : Int) := by
  rw [h1]
  exact ⟨fun q => ⟨q.1, q.2, by have := h8.mp (Int.le_trans h (h1.mpr q)); omega⟩, fun q => ⟨q.1, q.2.1⟩⟩
theorem b_2 {m o many t : Int} {n : Nat} {A B : Prop} (h0 : 0 ≤ many - 1) (h : m < o) (h8 : o ≤ t ↔ (many - 1).toNat < n) (h1 : m ≤ t ↔ A ∧ B) : o ≤ t ↔ A ∧ B ∧ many ≤ (n : Int) := by
  constructor
  · intro q
    have q1 := h1.mp (by omega)
    exact ⟨q1.1, q1.2, by have := h8.mp q; omega⟩
  · intro q
    exact h8.mpr (by omega)
theorem c_f {k : Nat} {m3 m2 t : Int} {w : Nat} {wh : Nat → Int} (h : w / 2 ^ k % 2 = 0) (h3 : m3 ≤ t ↔ m2 ≤ t ∧ ∀ c, c < k → w.testBit c = true → wh c ≤ t) : m3 ≤ t ↔ m2 ≤ t ∧ ∀ c, c < k + 1 → w.testBit c = true → wh c ≤ t := by
  rw [h3]
  refine ⟨fun q => ⟨q.1, fun c hc ht => ?_⟩, fun q => ⟨q.1, fun c hc => q.2 c (by omega)⟩⟩
  rcases Nat.lt_or_ge c k with z | z
  · exact q.2 c z ht
  · rw [show c = k by omega, Nat.testBit_eq_decide_div_mod_eq, h] at ht; simp at ht
theorem c_1 {k : Nat} {m3 m2 t : Int} {w : Nat} {wh : Nat → Int} (h : wh k ≤ m3) (h3 : m3 ≤ t ↔ m2 ≤ t ∧ ∀ c, c < k → w.testBit c = true → wh c ≤ t) : m3 ≤ t ↔ m2 ≤ t ∧ ∀ c, c < k + 1 → w.testBit c = true → wh c ≤ t := by
  constructor
  · intro q
    refine ⟨(h3.mp q).1, fun c hc ht => ?_⟩
    rcases Nat.lt_or_ge c k with z | z
    · exact (h3.mp q).2 c z ht
    · rw [show c = k by omega]; omega
  · intro q; exact h3.mpr ⟨q.1, fun c hc => q.2 c (by omega)⟩
theorem c_2 {k : Nat} {m3 m2 t : Int} {w : Nat} {wh : Nat → Int} (hb : ¬ w / 2 ^ k % 2 = 0) (h : m3 < wh k) (h3 : m3 ≤ t ↔ m2 ≤ t ∧ ∀ c, c < k → w.testBit c = true → wh c ≤ t) : wh k ≤ t ↔ m2 ≤ t ∧ ∀ c, c < k + 1 → w.testBit c = true → wh c ≤ t := by
  constructor
  · intro q
    have q3 := h3.mp (by omega)
    refine ⟨q3.1, fun c hc ht => ?_⟩
    rcases Nat.lt_or_ge c k with z | z
    · exact q3.2 c z ht
    · rw [show c = k by omega]; exact q
  · intro q
    exact q.2 k (by omega) (by rw [Nat.testBit_eq_decide_div_mod_eq]; exact decide_eq_true (by have := Nat.mod_lt (w / 2 ^ k) (show 0 < 2 by decide); omega))
theorem al_min {first m3 : Int} {i : Nat} {P : Nat → Int → Prop} (hm : ∀ t, m3 ≤ t ↔ P i t) (hF : ∀ t, 0 ≤ t → t < 60 → (first ≤ t ↔ ∃ j, j < i ∧ P j t)) (h : m3 < first) : ∀ t, 0 ≤ t → t < 60 → (m3 ≤ t ↔ ∃ j, j < i + 1 ∧ P j t) := by
  intro t h0 h1
  constructor
  · intro q; exact ⟨i, by omega, (hm t).mp q⟩
  · rintro ⟨j, q1, q2⟩
    rcases Nat.lt_or_ge j i with z | z
    · have := (hF t h0 h1).mpr ⟨j, z, q2⟩; omega
    · rw [show j = i by omega] at q2; exact (hm t).mpr q2
theorem al_old {first m3 : Int} {i : Nat} {P : Nat → Int → Prop} (hm : ∀ t, m3 ≤ t ↔ P i t) (hF : ∀ t, 0 ≤ t → t < 60 → (first ≤ t ↔ ∃ j, j < i ∧ P j t)) (h : first ≤ m3) : ∀ t, 0 ≤ t → t < 60 → (first ≤ t ↔ ∃ j, j < i + 1 ∧ P j t) := by
  intro t h0 h1
  constructor
  · intro q; obtain ⟨j, q1, q2⟩ := (hF t h0 h1).mp q; exact ⟨j, by omega, q2⟩
  · rintro ⟨j, q1, q2⟩
    rcases Nat.lt_or_ge j i with z | z
    · exact (hF t h0 h1).mpr ⟨j, z, q2⟩
    · rw [show j = i by omega] at q2; have := (hm t).mpr q2; omega
theorem tb_div (w k c : Nat) : (w / 2 ^ k).testBit c = w.testBit (k + c) := by rw [Nat.testBit_div_two_pow, Nat.add_comm]

theorem t_beginning_16 (G : Gm) (mem : Mem) (told : Int) (there : Nat) (hR : RuOk mem) (ht : 0 ≤ told ∧ told ≤ 59) (hth : there ≤ 8) (hs : Srt (mem 21) there) (hr : ∀ j, j < there → 0 ≤ mem 21 j ∧ mem 21 j < 60) (hwr : ∀ c, c < 8 → 0 ≤ mem 20 c ∧ mem 20 c ≤ 60) : Con G mX4_beginning [(2, 10), (0, told), (2, 21), (0, (there : Int)), (2, 20)] mem (fun r m' => ∃ v : Int, r = some (0, v) ∧ m' = mem ∧ (0 ≤ v ∧ v ≤ 60) ∧ ∀ t, 0 ≤ t → t < 60 → (v ≤ t ↔ ∃ j, j < (mem 10 4).toNat ∧ altOk mem told there (mem 21) (mem 20) j t)) := by
  refine Con.of (lo := [(2, 10), (0, told), (2, 21), (0, (there : Int)), (2, 20), (3, 0), (3, 0), (3, 0), (3, 0), (3, 0), (3, 0)]) (by decide +kernel) (Nat.le_of_ble_eq_true rfl) rfl ?_
  generalize hQ_ : (fun r m' => ∃ v : Int, r = some (0, v) ∧ m' = mem ∧ (0 ≤ v ∧ v ≤ 60) ∧ ∀ t, 0 ≤ t → t < 60 → (v ≤ t ↔ ∃ j, j < (mem 10 4).toNat ∧ altOk mem told there (mem 21) (mem 20) j t) : Option AV → Mem → Prop) = Q_
  refine e_bipush (pc := 0) dX4_beginning_0 rfl (by decide) ?_
  refine e_istore (pc := 2) (lo' := [(2, 10), (0, told), (2, 21), (0, (there : Int)), (2, 20), (0, 60), (3, 0), (3, 0), (3, 0), (3, 0), (3, 0)]) dX4_beginning_2 rfl (by decide) rfl ?_
  refine e_iconst (pc := 4) dX4_beginning_4 (by decide) ?_
  refine e_istore (pc := 5) (lo' := [(2, 10), (0, told), (2, 21), (0, (there : Int)), (2, 20), (0, 60), (0, 0), (3, 0), (3, 0), (3, 0), (3, 0)]) dX4_beginning_5 rfl (by decide) rfl ?_
  have L7 : ∀ (n_ : Nat) (i : Nat) (first : Int), 20 - i = n_ → (i ≤ 20) → ((i : Int) ≤ mem 10 4) → (0 ≤ first ∧ first ≤ 60) → (∀ t, 0 ≤ t → t < 60 → (first ≤ t ↔ ∃ j, j < i ∧ altOk mem told there (mem 21) (mem 20) j t)) → Ev G mX4_beginning Q_ 7 [(2, 10), (0, told), (2, 21), (0, (there : Int)), (2, 20), (0, first), (0, (i : Int)), (3, 0), (3, 0), (3, 0), (3, 0)] [] mem := by
    intro n_
    induction n_ using Nat.strongRecOn with
    | ind n_ ih7 =>
      intro i first hn_ hi hil hf hF
      have hR2 := hR.2 i
      have zzR1 := hR.1
      refine e_iload (pc := 7) dX4_beginning_7 rfl ?_
      refine e_aloadn (pc := 9) dX4_beginning_9 rfl rfl ?_
      refine e_getiv (pc := 10) (v := mem 10 4) dX4_beginning_10 fX4_41 s_10 rfl (by decide) rfl ?_
      refine e_icmp_ge (pc := 13) (tgt := 176) dX4_beginning_13 rfl (fun h13 => ?_) (fun h13 => ?_)
      · skip
        refine e_iload (pc := 176) dX4_beginning_176 rfl ?_
        have hX : ∀ t, 0 ≤ t → t < 60 → (first ≤ t ↔ ∃ j, j < (mem 10 4).toNat ∧ altOk mem told there (mem 21) (mem 20) j t) := by
          have hR1 := hR.1
          rw [show (mem 10 4).toNat = i by omega]
          exact hF
        exact e_iret (pc := 178) dX4_beginning_178 rfl (by rw [← hQ_]; exact ⟨first, rfl, rfl, hf, hX⟩)
      · skip
        refine e_iload (pc := 16) dX4_beginning_16 rfl ?_
        refine e_bipush (pc := 18) dX4_beginning_18 rfl (by decide) ?_
        refine e_icmp_ge (pc := 20) (tgt := 176) dX4_beginning_20 rfl (fun h20 => ?_) (fun h20 => ?_)
        · skip
          exfalso; omega
        · skip
          have zzR := hR2 (by omega)
          refine e_aloadn (pc := 23) dX4_beginning_23 rfl rfl ?_
          refine e_getr (pc := 24) (k := 12) dX4_beginning_24 fX4_15 s_10 rfl (by decide) ?_
          refine e_iload (pc := 27) dX4_beginning_27 rfl ?_
          refine e_ialdv (pc := 29) (v := mem 12 i) dX4_beginning_29 s_12 (by omega) rfl ?_
          refine e_istore (pc := 30) (lo' := [(2, 10), (0, told), (2, 21), (0, (there : Int)), (2, 20), (0, first), (0, (i : Int)), (0, mem 12 i), (3, 0), (3, 0), (3, 0)]) dX4_beginning_30 rfl (by decide) rfl ?_
          have C51 : ∀ (m1 : Int), (0 ≤ m1 ∧ m1 ≤ 60) → (∀ t, m1 ≤ t ↔ mem 12 i ≤ t ∧ (mem 13 i = 1 → told ≤ t)) → Ev G mX4_beginning Q_ 51 [(2, 10), (0, told), (2, 21), (0, (there : Int)), (2, 20), (0, first), (0, (i : Int)), (0, m1), (3, 0), (3, 0), (3, 0)] [] mem := by
            intro m1 h1b h1
            refine e_aloadn (pc := 51) dX4_beginning_51 rfl rfl ?_
            refine e_getr (pc := 52) (k := 14) dX4_beginning_52 fX4_22 s_10 rfl (by decide) ?_
            refine e_iload (pc := 55) dX4_beginning_55 rfl ?_
            refine e_ialdv (pc := 57) (v := mem 14 i) dX4_beginning_57 s_14 (by omega) rfl ?_
            refine e_iconst (pc := 58) dX4_beginning_58 (by decide) ?_
            refine e_isubn (pc := 59) dX4_beginning_59 (by omega) ?_
            refine e_istore (pc := 60) (lo' := [(2, 10), (0, told), (2, 21), (0, (there : Int)), (2, 20), (0, first), (0, (i : Int)), (0, m1), (0, (mem 14 i) - 1), (3, 0), (3, 0)]) dX4_beginning_60 rfl (by decide) rfl ?_
            refine e_iload (pc := 62) dX4_beginning_62 rfl ?_
            refine e_iloadn (pc := 64) dX4_beginning_64 rfl rfl ?_
            refine e_icmp_ge (pc := 65) (tgt := 170) dX4_beginning_65 rfl (fun h65 => ?_) (fun h65 => ?_)
            · skip
              refine e_iinc (pc := 170) (lo' := [(2, 10), (0, told), (2, 21), (0, (there : Int)), (2, 20), (0, first), (0, (i : Int) + 1), (0, m1), (0, (mem 14 i) - 1), (3, 0), (3, 0)]) dX4_beginning_170 rfl (by omega) rfl (by decide) rfl ?_
              refine e_goto (pc := 173) (tgt := 7) dX4_beginning_173 rfl ?_
              have hfb : 0 ≤ first ∧ first ≤ 60 := hf
              have hFn : ∀ t, 0 ≤ t → t < 60 → (first ≤ t ↔ ∃ j, j < i + 1 ∧ altOk mem told there (mem 21) (mem 20) j t) := by
                intro t h0 h1
                rw [hF t h0 h1]
                constructor
                · rintro ⟨j, q, q2⟩; exact ⟨j, by omega, q2⟩
                · rintro ⟨j, q, q2⟩
                  rcases Nat.lt_or_ge j i with z | z
                  · exact ⟨j, z, q2⟩
                  · exfalso
                    rw [show j = i by omega] at q2
                    have h3 := q2.2.2.1
                    have h4 : cnO (mem 21) there t ≤ there := cnt_le _ _
                    omega
              refine Ev.fgt [7, 8] ?_
              exact Ev.to (ih7 _ (by omega) (i + 1) first (rfl) (by omega) (by omega) (hfb) (hFn)) rfl rfl rfl
            · skip
              refine e_iload (pc := 68) dX4_beginning_68 rfl ?_
              refine e_aloadn (pc := 70) dX4_beginning_70 rfl rfl ?_
              refine e_alen (pc := 71) dX4_beginning_71 s_21 (by decide) (by decide) ?_
              refine e_icmp_lt (pc := 72) (tgt := 78) dX4_beginning_72 rfl (fun h72 => ?_) (fun h72 => ?_)
              · skip
                have C98 : ∀ (m2 : Int), (0 ≤ m2 ∧ m2 ≤ 60) → (∀ t, m2 ≤ t ↔ mem 12 i ≤ t ∧ (mem 13 i = 1 → told ≤ t) ∧ mem 14 i ≤ (cnO (mem 21) there t : Int)) → Ev G mX4_beginning Q_ 98 [(2, 10), (0, told), (2, 21), (0, (there : Int)), (2, 20), (0, first), (0, (i : Int)), (0, m2), (0, mem 14 i - 1), (3, 0), (3, 0)] [] mem := by
                  intro m2 h2b h2
                  refine e_aloadn (pc := 98) dX4_beginning_98 rfl rfl ?_
                  refine e_getr (pc := 99) (k := 15) dX4_beginning_99 fX4_25 s_10 rfl (by decide) ?_
                  refine e_iload (pc := 102) dX4_beginning_102 rfl ?_
                  refine e_ialdv (pc := 104) (v := mem 15 i) dX4_beginning_104 s_15 (by omega) rfl ?_
                  refine e_istore (pc := 105) (lo' := [(2, 10), (0, told), (2, 21), (0, (there : Int)), (2, 20), (0, first), (0, (i : Int)), (0, m2), (0, mem 14 i - 1), (0, mem 15 i), (3, 0)]) dX4_beginning_105 rfl (by decide) rfl ?_
                  refine e_iconst (pc := 107) dX4_beginning_107 (by decide) ?_
                  refine e_istore (pc := 108) (lo' := [(2, 10), (0, told), (2, 21), (0, (there : Int)), (2, 20), (0, first), (0, (i : Int)), (0, m2), (0, mem 14 i - 1), (0, mem 15 i), (0, 0)]) dX4_beginning_108 rfl (by decide) rfl ?_
                  have L110 : ∀ (n_ : Nat) (k : Nat) (m3 : Int), 8 - k = n_ → (k ≤ 8) → (0 ≤ m3 ∧ m3 ≤ 60) → (∀ t, m3 ≤ t ↔ m2 ≤ t ∧ ∀ c, c < k → (mem 15 i).toNat.testBit c = true → mem 20 c ≤ t) → Ev G mX4_beginning Q_ 110 [(2, 10), (0, told), (2, 21), (0, (there : Int)), (2, 20), (0, first), (0, (i : Int)), (0, m3), (0, mem 14 i - 1), (0, (((mem 15 i).toNat / 2 ^ k : Nat) : Int)), (0, (k : Int))] [] mem := by
                    intro n_
                    induction n_ using Nat.strongRecOn with
                    | ind n_ ih110 =>
                      intro k m3 hn_ hk hmb h3
                      have hwk := hwr k
                      have hlt : (mem 15 i).toNat / 2 ^ k ≤ (mem 15 i).toNat := Nat.div_le_self _ _
                      refine e_iload (pc := 110) dX4_beginning_110 rfl ?_
                      refine e_if_eq (pc := 112) (tgt := 159) dX4_beginning_112 rfl (fun h112 => ?_) (fun h112 => ?_)
                      · skip
                        have zzm : ∀ t, m3 ≤ t ↔ altOk mem told there (mem 21) (mem 20) i t := by
                          intro t
                          rw [h3 t, h2 t]
                          unfold altOk
                          constructor
                          · rintro ⟨⟨a1, a2, a3⟩, a4⟩
                            refine ⟨a1, a2, a3, fun c hc ht => a4 c ?_ ht⟩
                            rcases Nat.lt_or_ge c k with z | z
                            · exact z
                            · exfalso
                              have e0 : (mem 15 i).toNat / 2 ^ k = 0 := by omega
                              have e1 := tb_div (mem 15 i).toNat k (c - k)
                              rw [e0, show k + (c - k) = c by omega, ht] at e1
                              simp at e1
                          · rintro ⟨a1, a2, a3, a4⟩
                            exact ⟨⟨a1, a2, a3⟩, fun c hc ht => a4 c (by omega) ht⟩
                        refine e_iload (pc := 159) dX4_beginning_159 rfl ?_
                        refine e_iload (pc := 161) dX4_beginning_161 rfl ?_
                        refine e_icmp_ge (pc := 163) (tgt := 170) dX4_beginning_163 rfl (fun h163 => ?_) (fun h163 => ?_)
                        · skip
                          refine e_iinc (pc := 170) (lo' := [(2, 10), (0, told), (2, 21), (0, (there : Int)), (2, 20), (0, first), (0, (i : Int) + 1), (0, m3), (0, mem 14 i - 1), (0, (((mem 15 i).toNat / 2 ^ k : Nat) : Int)), (0, (k : Int))]) dX4_beginning_170 rfl (by omega) rfl (by decide) rfl ?_
                          refine e_goto (pc := 173) (tgt := 7) dX4_beginning_173 rfl ?_
                          have hfb : 0 ≤ first ∧ first ≤ 60 := by omega
                          have hFn := al_old zzm hF h163
                          refine Ev.fgt [7, 8, 9, 10] ?_
                          exact Ev.to (ih7 _ (by omega) (i + 1) first (rfl) (by omega) (by omega) (hfb) (hFn)) rfl rfl rfl
                        · skip
                          refine e_iload (pc := 166) dX4_beginning_166 rfl ?_
                          refine e_istore (pc := 168) (lo' := [(2, 10), (0, told), (2, 21), (0, (there : Int)), (2, 20), (0, m3), (0, (i : Int)), (0, m3), (0, mem 14 i - 1), (0, (((mem 15 i).toNat / 2 ^ k : Nat) : Int)), (0, (k : Int))]) dX4_beginning_168 rfl (by decide) rfl ?_
                          refine e_iinc (pc := 170) (lo' := [(2, 10), (0, told), (2, 21), (0, (there : Int)), (2, 20), (0, m3), (0, (i : Int) + 1), (0, m3), (0, mem 14 i - 1), (0, (((mem 15 i).toNat / 2 ^ k : Nat) : Int)), (0, (k : Int))]) dX4_beginning_170 rfl (by omega) rfl (by decide) rfl ?_
                          refine e_goto (pc := 173) (tgt := 7) dX4_beginning_173 rfl ?_
                          have hfb : 0 ≤ m3 ∧ m3 ≤ 60 := by omega
                          have hFn := al_min zzm hF h163
                          refine Ev.fgt [7, 8, 9, 10] ?_
                          exact Ev.to (ih7 _ (by omega) (i + 1) m3 (rfl) (by omega) (by omega) (hfb) (hFn)) rfl rfl rfl
                      · skip
                        refine e_iload (pc := 115) dX4_beginning_115 rfl ?_
                        refine e_aload (pc := 117) dX4_beginning_117 rfl ?_
                        refine e_alen (pc := 119) dX4_beginning_119 s_20 (by decide) (by decide) ?_
                        refine e_icmp_ge (pc := 120) (tgt := 159) dX4_beginning_120 rfl (fun h120 => ?_) (fun h120 => ?_)
                        · skip
                          have zzm : ∀ t, m3 ≤ t ↔ altOk mem told there (mem 21) (mem 20) i t := by
                            intro t
                            rw [h3 t, h2 t]
                            unfold altOk
                            constructor
                            · rintro ⟨⟨a1, a2, a3⟩, a4⟩
                              refine ⟨a1, a2, a3, fun c hc ht => a4 c ?_ ht⟩
                              omega
                            · rintro ⟨a1, a2, a3, a4⟩
                              exact ⟨⟨a1, a2, a3⟩, fun c hc ht => a4 c (by omega) ht⟩
                          refine e_iload (pc := 159) dX4_beginning_159 rfl ?_
                          refine e_iload (pc := 161) dX4_beginning_161 rfl ?_
                          refine e_icmp_ge (pc := 163) (tgt := 170) dX4_beginning_163 rfl (fun h163 => ?_) (fun h163 => ?_)
                          · skip
                            refine e_iinc (pc := 170) (lo' := [(2, 10), (0, told), (2, 21), (0, (there : Int)), (2, 20), (0, first), (0, (i : Int) + 1), (0, m3), (0, mem 14 i - 1), (0, (((mem 15 i).toNat / 2 ^ k : Nat) : Int)), (0, (k : Int))]) dX4_beginning_170 rfl (by omega) rfl (by decide) rfl ?_
                            refine e_goto (pc := 173) (tgt := 7) dX4_beginning_173 rfl ?_
                            have hfb : 0 ≤ first ∧ first ≤ 60 := by omega
                            have hFn := al_old zzm hF h163
                            refine Ev.fgt [7, 8, 9, 10] ?_
                            exact Ev.to (ih7 _ (by omega) (i + 1) first (rfl) (by omega) (by omega) (hfb) (hFn)) rfl rfl rfl
                          · skip
                            refine e_iload (pc := 166) dX4_beginning_166 rfl ?_
                            refine e_istore (pc := 168) (lo' := [(2, 10), (0, told), (2, 21), (0, (there : Int)), (2, 20), (0, m3), (0, (i : Int)), (0, m3), (0, mem 14 i - 1), (0, (((mem 15 i).toNat / 2 ^ k : Nat) : Int)), (0, (k : Int))]) dX4_beginning_168 rfl (by decide) rfl ?_
                            refine e_iinc (pc := 170) (lo' := [(2, 10), (0, told), (2, 21), (0, (there : Int)), (2, 20), (0, m3), (0, (i : Int) + 1), (0, m3), (0, mem 14 i - 1), (0, (((mem 15 i).toNat / 2 ^ k : Nat) : Int)), (0, (k : Int))]) dX4_beginning_170 rfl (by omega) rfl (by decide) rfl ?_
                            refine e_goto (pc := 173) (tgt := 7) dX4_beginning_173 rfl ?_
                            have hfb : 0 ≤ m3 ∧ m3 ≤ 60 := by omega
                            have hFn := al_min zzm hF h163
                            refine Ev.fgt [7, 8, 9, 10] ?_
                            exact Ev.to (ih7 _ (by omega) (i + 1) m3 (rfl) (by omega) (by omega) (hfb) (hFn)) rfl rfl rfl
                        · skip
                          refine e_iload (pc := 123) dX4_beginning_123 rfl ?_
                          refine e_iconst (pc := 125) dX4_beginning_125 (by decide) ?_
                          refine e_iand (pc := 126) dX4_beginning_126 ?_
                          rw [show bAnd (((mem 15 i).toNat / 2 ^ k : Nat) : Int) 1 = (((mem 15 i).toNat / 2 ^ k % 2 : Nat) : Int) from and1 (by omega)]
                          refine e_if_eq (pc := 127) (tgt := 147) dX4_beginning_127 rfl (fun h127 => ?_) (fun h127 => ?_)
                          · skip
                            refine e_iload (pc := 147) dX4_beginning_147 rfl ?_
                            refine e_iconst (pc := 149) dX4_beginning_149 (by decide) ?_
                            refine e_iushr (pc := 150) dX4_beginning_150 ?_
                            rw [show bUshr (((mem 15 i).toNat / 2 ^ k : Nat) : Int) 1 = (((mem 15 i).toNat / 2 ^ k / 2 : Nat) : Int) from ushr1 (by omega)]
                            refine e_istore (pc := 151) (lo' := [(2, 10), (0, told), (2, 21), (0, (there : Int)), (2, 20), (0, first), (0, (i : Int)), (0, m3), (0, mem 14 i - 1), (0, (((mem 15 i).toNat / 2 ^ k / 2 : Nat) : Int)), (0, (k : Int))]) dX4_beginning_151 rfl (by decide) rfl ?_
                            refine e_iinc (pc := 153) (lo' := [(2, 10), (0, told), (2, 21), (0, (there : Int)), (2, 20), (0, first), (0, (i : Int)), (0, m3), (0, mem 14 i - 1), (0, (((mem 15 i).toNat / 2 ^ k / 2 : Nat) : Int)), (0, (k : Int) + 1)]) dX4_beginning_153 rfl (by omega) rfl (by decide) rfl ?_
                            refine e_goto (pc := 156) (tgt := 110) dX4_beginning_156 rfl ?_
                            have h3n := fun t => c_f (wh := mem 20) (w := (mem 15 i).toNat) (by omega : (mem 15 i).toNat / 2 ^ k % 2 = 0) (h3 t)
                            exact Ev.to (ih110 _ (by omega) (k + 1) m3 (rfl) (by omega) (by omega) (h3n)) (by rw [show (mem 15 i).toNat / 2 ^ (k + 1) = (mem 15 i).toNat / 2 ^ k / 2 from by rw [Nat.pow_succ, Nat.div_div_eq_div_mul]]; rfl) rfl rfl
                          · skip
                            refine e_aload (pc := 130) dX4_beginning_130 rfl ?_
                            refine e_iload (pc := 132) dX4_beginning_132 rfl ?_
                            refine e_ialdv (pc := 134) (v := mem 20 k) dX4_beginning_134 s_20 (by omega) rfl ?_
                            refine e_iload (pc := 135) dX4_beginning_135 rfl ?_
                            refine e_icmp_le (pc := 137) (tgt := 147) dX4_beginning_137 rfl (fun h137 => ?_) (fun h137 => ?_)
                            · skip
                              refine e_iload (pc := 147) dX4_beginning_147 rfl ?_
                              refine e_iconst (pc := 149) dX4_beginning_149 (by decide) ?_
                              refine e_iushr (pc := 150) dX4_beginning_150 ?_
                              rw [show bUshr (((mem 15 i).toNat / 2 ^ k : Nat) : Int) 1 = (((mem 15 i).toNat / 2 ^ k / 2 : Nat) : Int) from ushr1 (by omega)]
                              refine e_istore (pc := 151) (lo' := [(2, 10), (0, told), (2, 21), (0, (there : Int)), (2, 20), (0, first), (0, (i : Int)), (0, m3), (0, mem 14 i - 1), (0, (((mem 15 i).toNat / 2 ^ k / 2 : Nat) : Int)), (0, (k : Int))]) dX4_beginning_151 rfl (by decide) rfl ?_
                              refine e_iinc (pc := 153) (lo' := [(2, 10), (0, told), (2, 21), (0, (there : Int)), (2, 20), (0, first), (0, (i : Int)), (0, m3), (0, mem 14 i - 1), (0, (((mem 15 i).toNat / 2 ^ k / 2 : Nat) : Int)), (0, (k : Int) + 1)]) dX4_beginning_153 rfl (by omega) rfl (by decide) rfl ?_
                              refine e_goto (pc := 156) (tgt := 110) dX4_beginning_156 rfl ?_
                              have h3n := fun t => c_1 (wh := mem 20) (w := (mem 15 i).toNat) h137 (h3 t)
                              exact Ev.to (ih110 _ (by omega) (k + 1) m3 (rfl) (by omega) (by omega) (h3n)) (by rw [show (mem 15 i).toNat / 2 ^ (k + 1) = (mem 15 i).toNat / 2 ^ k / 2 from by rw [Nat.pow_succ, Nat.div_div_eq_div_mul]]; rfl) rfl rfl
                            · skip
                              refine e_aload (pc := 140) dX4_beginning_140 rfl ?_
                              refine e_iload (pc := 142) dX4_beginning_142 rfl ?_
                              refine e_ialdv (pc := 144) (v := mem 20 k) dX4_beginning_144 s_20 (by omega) rfl ?_
                              refine e_istore (pc := 145) (lo' := [(2, 10), (0, told), (2, 21), (0, (there : Int)), (2, 20), (0, first), (0, (i : Int)), (0, mem 20 k), (0, mem 14 i - 1), (0, (((mem 15 i).toNat / 2 ^ k : Nat) : Int)), (0, (k : Int))]) dX4_beginning_145 rfl (by decide) rfl ?_
                              refine e_iload (pc := 147) dX4_beginning_147 rfl ?_
                              refine e_iconst (pc := 149) dX4_beginning_149 (by decide) ?_
                              refine e_iushr (pc := 150) dX4_beginning_150 ?_
                              rw [show bUshr (((mem 15 i).toNat / 2 ^ k : Nat) : Int) 1 = (((mem 15 i).toNat / 2 ^ k / 2 : Nat) : Int) from ushr1 (by omega)]
                              refine e_istore (pc := 151) (lo' := [(2, 10), (0, told), (2, 21), (0, (there : Int)), (2, 20), (0, first), (0, (i : Int)), (0, mem 20 k), (0, mem 14 i - 1), (0, (((mem 15 i).toNat / 2 ^ k / 2 : Nat) : Int)), (0, (k : Int))]) dX4_beginning_151 rfl (by decide) rfl ?_
                              refine e_iinc (pc := 153) (lo' := [(2, 10), (0, told), (2, 21), (0, (there : Int)), (2, 20), (0, first), (0, (i : Int)), (0, mem 20 k), (0, mem 14 i - 1), (0, (((mem 15 i).toNat / 2 ^ k / 2 : Nat) : Int)), (0, (k : Int) + 1)]) dX4_beginning_153 rfl (by omega) rfl (by decide) rfl ?_
                              refine e_goto (pc := 156) (tgt := 110) dX4_beginning_156 rfl ?_
                              have h3n := fun t => c_2 (wh := mem 20) (w := (mem 15 i).toNat) (by omega) h137 (h3 t)
                              exact Ev.to (ih110 _ (by omega) (k + 1) (mem 20 k) (rfl) (by omega) (by omega) (h3n)) (by rw [show (mem 15 i).toNat / 2 ^ (k + 1) = (mem 15 i).toNat / 2 ^ k / 2 from by rw [Nat.pow_succ, Nat.div_div_eq_div_mul]]; rfl) rfl rfl
                  exact Ev.to (L110 _ 0 m2 (rfl) (by omega) (h2b) (fun t => ⟨fun q => ⟨q, fun c hc => by omega⟩, fun q => q.1⟩)) (by rw [Nat.pow_zero, Nat.div_one, Int.toNat_of_nonneg (by omega)]; rfl) rfl rfl
                refine e_iload (pc := 78) dX4_beginning_78 rfl ?_
                refine e_if_lt (pc := 80) (tgt := 98) dX4_beginning_80 rfl (fun h80 => ?_) (fun h80 => ?_)
                · skip
                  exact Ev.to (C98 m1 (h1b) (fun t => b_0 h80 (h1 t))) rfl rfl rfl
                · skip
                  refine e_aloadn (pc := 83) dX4_beginning_83 rfl rfl ?_
                  refine e_iload (pc := 84) dX4_beginning_84 rfl ?_
                  refine e_ialdv (pc := 86) (v := (mem 21 (mem 14 i - 1).toNat)) dX4_beginning_86 s_21 (by omega) (rfl) ?_
                  refine e_iload (pc := 87) dX4_beginning_87 rfl ?_
                  refine e_icmp_le (pc := 89) (tgt := 98) dX4_beginning_89 rfl (fun h89 => ?_) (fun h89 => ?_)
                  · skip
                    exact Ev.to (C98 m1 (h1b) (fun t => b_1 h80 h89 (srt_cnt hs (by omega) t) (h1 t))) rfl rfl rfl
                  · skip
                    refine e_aloadn (pc := 92) dX4_beginning_92 rfl rfl ?_
                    refine e_iload (pc := 93) dX4_beginning_93 rfl ?_
                    refine e_ialdv (pc := 95) (v := (mem 21 (mem 14 i - 1).toNat)) dX4_beginning_95 s_21 (by omega) (rfl) ?_
                    refine e_istore (pc := 96) (lo' := [(2, 10), (0, told), (2, 21), (0, (there : Int)), (2, 20), (0, first), (0, (i : Int)), (0, (mem 21 (mem 14 i - 1).toNat)), (0, (mem 14 i) - 1), (3, 0), (3, 0)]) dX4_beginning_96 rfl (by decide) rfl ?_
                    exact Ev.to (C98 (mem 21 (mem 14 i - 1).toNat) (by have zz8 := hr (mem 14 i - 1).toNat (by omega); omega) (fun t => b_2 h80 h89 (srt_cnt hs (by omega) t) (h1 t))) rfl rfl rfl
              · skip
                exfalso; omega
          refine e_aloadn (pc := 32) dX4_beginning_32 rfl rfl ?_
          refine e_getr (pc := 33) (k := 13) dX4_beginning_33 fX4_18 s_10 rfl (by decide) ?_
          refine e_iload (pc := 36) dX4_beginning_36 rfl ?_
          refine e_zaldv (pc := 38) (v := mem 13 i) dX4_beginning_38 s_13 (by omega) rfl ?_
          refine e_if_eq (pc := 39) (tgt := 51) dX4_beginning_39 rfl (fun h39 => ?_) (fun h39 => ?_)
          · skip
            exact Ev.to (C51 (mem 12 i) (by omega) (a_t0 h39)) rfl rfl rfl
          · skip
            refine e_iloadn (pc := 42) dX4_beginning_42 rfl rfl ?_
            refine e_iload (pc := 43) dX4_beginning_43 rfl ?_
            refine e_icmp_le (pc := 45) (tgt := 51) dX4_beginning_45 rfl (fun h45 => ?_) (fun h45 => ?_)
            · skip
              exact Ev.to (C51 (mem 12 i) (by omega) (a_t1 h45)) rfl rfl rfl
            · skip
              refine e_iloadn (pc := 48) dX4_beginning_48 rfl rfl ?_
              refine e_istore (pc := 49) (lo' := [(2, 10), (0, told), (2, 21), (0, (there : Int)), (2, 20), (0, first), (0, (i : Int)), (0, told), (3, 0), (3, 0), (3, 0)]) dX4_beginning_49 rfl (by decide) rfl ?_
              exact Ev.to (C51 told (by omega) (a_t2 h45 (by omega))) rfl rfl rfl
  exact Ev.to (L7 _ 0 60 (rfl) (by omega) (by have zz8 := hR.1; omega) (by omega) (fun t h0 h1 => ⟨fun q => by omega, fun ⟨j, q, _⟩ => by omega⟩)) rfl rfl rfl

theorem t_beginning_25 (G : Gm) (mem : Mem) (told : Int) (there : Nat) (hR : RuOk mem) (ht : 0 ≤ told ∧ told ≤ 59) (hth : there ≤ 8) (hs : Srt (mem 30) there) (hr : ∀ j, j < there → 0 ≤ mem 30 j ∧ mem 30 j < 60) (hwr : ∀ c, c < 8 → 0 ≤ mem 29 c ∧ mem 29 c ≤ 60) : Con G mX4_beginning [(2, 10), (0, told), (2, 30), (0, (there : Int)), (2, 29)] mem (fun r m' => ∃ v : Int, r = some (0, v) ∧ m' = mem ∧ (0 ≤ v ∧ v ≤ 60) ∧ ∀ t, 0 ≤ t → t < 60 → (v ≤ t ↔ ∃ j, j < (mem 10 4).toNat ∧ altOk mem told there (mem 30) (mem 29) j t)) := by
  refine Con.of (lo := [(2, 10), (0, told), (2, 30), (0, (there : Int)), (2, 29), (3, 0), (3, 0), (3, 0), (3, 0), (3, 0), (3, 0)]) (by decide +kernel) (Nat.le_of_ble_eq_true rfl) rfl ?_
  generalize hQ_ : (fun r m' => ∃ v : Int, r = some (0, v) ∧ m' = mem ∧ (0 ≤ v ∧ v ≤ 60) ∧ ∀ t, 0 ≤ t → t < 60 → (v ≤ t ↔ ∃ j, j < (mem 10 4).toNat ∧ altOk mem told there (mem 30) (mem 29) j t) : Option AV → Mem → Prop) = Q_
  refine e_bipush (pc := 0) dX4_beginning_0 rfl (by decide) ?_
  refine e_istore (pc := 2) (lo' := [(2, 10), (0, told), (2, 30), (0, (there : Int)), (2, 29), (0, 60), (3, 0), (3, 0), (3, 0), (3, 0), (3, 0)]) dX4_beginning_2 rfl (by decide) rfl ?_
  refine e_iconst (pc := 4) dX4_beginning_4 (by decide) ?_
  refine e_istore (pc := 5) (lo' := [(2, 10), (0, told), (2, 30), (0, (there : Int)), (2, 29), (0, 60), (0, 0), (3, 0), (3, 0), (3, 0), (3, 0)]) dX4_beginning_5 rfl (by decide) rfl ?_
  have L7 : ∀ (n_ : Nat) (i : Nat) (first : Int), 20 - i = n_ → (i ≤ 20) → ((i : Int) ≤ mem 10 4) → (0 ≤ first ∧ first ≤ 60) → (∀ t, 0 ≤ t → t < 60 → (first ≤ t ↔ ∃ j, j < i ∧ altOk mem told there (mem 30) (mem 29) j t)) → Ev G mX4_beginning Q_ 7 [(2, 10), (0, told), (2, 30), (0, (there : Int)), (2, 29), (0, first), (0, (i : Int)), (3, 0), (3, 0), (3, 0), (3, 0)] [] mem := by
    intro n_
    induction n_ using Nat.strongRecOn with
    | ind n_ ih7 =>
      intro i first hn_ hi hil hf hF
      have hR2 := hR.2 i
      have zzR1 := hR.1
      refine e_iload (pc := 7) dX4_beginning_7 rfl ?_
      refine e_aloadn (pc := 9) dX4_beginning_9 rfl rfl ?_
      refine e_getiv (pc := 10) (v := mem 10 4) dX4_beginning_10 fX4_41 s_10 rfl (by decide) rfl ?_
      refine e_icmp_ge (pc := 13) (tgt := 176) dX4_beginning_13 rfl (fun h13 => ?_) (fun h13 => ?_)
      · skip
        refine e_iload (pc := 176) dX4_beginning_176 rfl ?_
        have hX : ∀ t, 0 ≤ t → t < 60 → (first ≤ t ↔ ∃ j, j < (mem 10 4).toNat ∧ altOk mem told there (mem 30) (mem 29) j t) := by
          have hR1 := hR.1
          rw [show (mem 10 4).toNat = i by omega]
          exact hF
        exact e_iret (pc := 178) dX4_beginning_178 rfl (by rw [← hQ_]; exact ⟨first, rfl, rfl, hf, hX⟩)
      · skip
        refine e_iload (pc := 16) dX4_beginning_16 rfl ?_
        refine e_bipush (pc := 18) dX4_beginning_18 rfl (by decide) ?_
        refine e_icmp_ge (pc := 20) (tgt := 176) dX4_beginning_20 rfl (fun h20 => ?_) (fun h20 => ?_)
        · skip
          exfalso; omega
        · skip
          have zzR := hR2 (by omega)
          refine e_aloadn (pc := 23) dX4_beginning_23 rfl rfl ?_
          refine e_getr (pc := 24) (k := 12) dX4_beginning_24 fX4_15 s_10 rfl (by decide) ?_
          refine e_iload (pc := 27) dX4_beginning_27 rfl ?_
          refine e_ialdv (pc := 29) (v := mem 12 i) dX4_beginning_29 s_12 (by omega) rfl ?_
          refine e_istore (pc := 30) (lo' := [(2, 10), (0, told), (2, 30), (0, (there : Int)), (2, 29), (0, first), (0, (i : Int)), (0, mem 12 i), (3, 0), (3, 0), (3, 0)]) dX4_beginning_30 rfl (by decide) rfl ?_
          have C51 : ∀ (m1 : Int), (0 ≤ m1 ∧ m1 ≤ 60) → (∀ t, m1 ≤ t ↔ mem 12 i ≤ t ∧ (mem 13 i = 1 → told ≤ t)) → Ev G mX4_beginning Q_ 51 [(2, 10), (0, told), (2, 30), (0, (there : Int)), (2, 29), (0, first), (0, (i : Int)), (0, m1), (3, 0), (3, 0), (3, 0)] [] mem := by
            intro m1 h1b h1
            refine e_aloadn (pc := 51) dX4_beginning_51 rfl rfl ?_
            refine e_getr (pc := 52) (k := 14) dX4_beginning_52 fX4_22 s_10 rfl (by decide) ?_
            refine e_iload (pc := 55) dX4_beginning_55 rfl ?_
            refine e_ialdv (pc := 57) (v := mem 14 i) dX4_beginning_57 s_14 (by omega) rfl ?_
            refine e_iconst (pc := 58) dX4_beginning_58 (by decide) ?_
            refine e_isubn (pc := 59) dX4_beginning_59 (by omega) ?_
            refine e_istore (pc := 60) (lo' := [(2, 10), (0, told), (2, 30), (0, (there : Int)), (2, 29), (0, first), (0, (i : Int)), (0, m1), (0, (mem 14 i) - 1), (3, 0), (3, 0)]) dX4_beginning_60 rfl (by decide) rfl ?_
            refine e_iload (pc := 62) dX4_beginning_62 rfl ?_
            refine e_iloadn (pc := 64) dX4_beginning_64 rfl rfl ?_
            refine e_icmp_ge (pc := 65) (tgt := 170) dX4_beginning_65 rfl (fun h65 => ?_) (fun h65 => ?_)
            · skip
              refine e_iinc (pc := 170) (lo' := [(2, 10), (0, told), (2, 30), (0, (there : Int)), (2, 29), (0, first), (0, (i : Int) + 1), (0, m1), (0, (mem 14 i) - 1), (3, 0), (3, 0)]) dX4_beginning_170 rfl (by omega) rfl (by decide) rfl ?_
              refine e_goto (pc := 173) (tgt := 7) dX4_beginning_173 rfl ?_
              have hfb : 0 ≤ first ∧ first ≤ 60 := hf
              have hFn : ∀ t, 0 ≤ t → t < 60 → (first ≤ t ↔ ∃ j, j < i + 1 ∧ altOk mem told there (mem 30) (mem 29) j t) := by
                intro t h0 h1
                rw [hF t h0 h1]
                constructor
                · rintro ⟨j, q, q2⟩; exact ⟨j, by omega, q2⟩
                · rintro ⟨j, q, q2⟩
                  rcases Nat.lt_or_ge j i with z | z
                  · exact ⟨j, z, q2⟩
                  · exfalso
                    rw [show j = i by omega] at q2
                    have h3 := q2.2.2.1
                    have h4 : cnO (mem 30) there t ≤ there := cnt_le _ _
                    omega
              refine Ev.fgt [7, 8] ?_
              exact Ev.to (ih7 _ (by omega) (i + 1) first (rfl) (by omega) (by omega) (hfb) (hFn)) rfl rfl rfl
            · skip
              refine e_iload (pc := 68) dX4_beginning_68 rfl ?_
              refine e_aloadn (pc := 70) dX4_beginning_70 rfl rfl ?_
              refine e_alen (pc := 71) dX4_beginning_71 s_30 (by decide) (by decide) ?_
              refine e_icmp_lt (pc := 72) (tgt := 78) dX4_beginning_72 rfl (fun h72 => ?_) (fun h72 => ?_)
              · skip
                have C98 : ∀ (m2 : Int), (0 ≤ m2 ∧ m2 ≤ 60) → (∀ t, m2 ≤ t ↔ mem 12 i ≤ t ∧ (mem 13 i = 1 → told ≤ t) ∧ mem 14 i ≤ (cnO (mem 30) there t : Int)) → Ev G mX4_beginning Q_ 98 [(2, 10), (0, told), (2, 30), (0, (there : Int)), (2, 29), (0, first), (0, (i : Int)), (0, m2), (0, mem 14 i - 1), (3, 0), (3, 0)] [] mem := by
                  intro m2 h2b h2
                  refine e_aloadn (pc := 98) dX4_beginning_98 rfl rfl ?_
                  refine e_getr (pc := 99) (k := 15) dX4_beginning_99 fX4_25 s_10 rfl (by decide) ?_
                  refine e_iload (pc := 102) dX4_beginning_102 rfl ?_
                  refine e_ialdv (pc := 104) (v := mem 15 i) dX4_beginning_104 s_15 (by omega) rfl ?_
                  refine e_istore (pc := 105) (lo' := [(2, 10), (0, told), (2, 30), (0, (there : Int)), (2, 29), (0, first), (0, (i : Int)), (0, m2), (0, mem 14 i - 1), (0, mem 15 i), (3, 0)]) dX4_beginning_105 rfl (by decide) rfl ?_
                  refine e_iconst (pc := 107) dX4_beginning_107 (by decide) ?_
                  refine e_istore (pc := 108) (lo' := [(2, 10), (0, told), (2, 30), (0, (there : Int)), (2, 29), (0, first), (0, (i : Int)), (0, m2), (0, mem 14 i - 1), (0, mem 15 i), (0, 0)]) dX4_beginning_108 rfl (by decide) rfl ?_
                  have L110 : ∀ (n_ : Nat) (k : Nat) (m3 : Int), 8 - k = n_ → (k ≤ 8) → (0 ≤ m3 ∧ m3 ≤ 60) → (∀ t, m3 ≤ t ↔ m2 ≤ t ∧ ∀ c, c < k → (mem 15 i).toNat.testBit c = true → mem 29 c ≤ t) → Ev G mX4_beginning Q_ 110 [(2, 10), (0, told), (2, 30), (0, (there : Int)), (2, 29), (0, first), (0, (i : Int)), (0, m3), (0, mem 14 i - 1), (0, (((mem 15 i).toNat / 2 ^ k : Nat) : Int)), (0, (k : Int))] [] mem := by
                    intro n_
                    induction n_ using Nat.strongRecOn with
                    | ind n_ ih110 =>
                      intro k m3 hn_ hk hmb h3
                      have hwk := hwr k
                      have hlt : (mem 15 i).toNat / 2 ^ k ≤ (mem 15 i).toNat := Nat.div_le_self _ _
                      refine e_iload (pc := 110) dX4_beginning_110 rfl ?_
                      refine e_if_eq (pc := 112) (tgt := 159) dX4_beginning_112 rfl (fun h112 => ?_) (fun h112 => ?_)
                      · skip
                        have zzm : ∀ t, m3 ≤ t ↔ altOk mem told there (mem 30) (mem 29) i t := by
                          intro t
                          rw [h3 t, h2 t]
                          unfold altOk
                          constructor
                          · rintro ⟨⟨a1, a2, a3⟩, a4⟩
                            refine ⟨a1, a2, a3, fun c hc ht => a4 c ?_ ht⟩
                            rcases Nat.lt_or_ge c k with z | z
                            · exact z
                            · exfalso
                              have e0 : (mem 15 i).toNat / 2 ^ k = 0 := by omega
                              have e1 := tb_div (mem 15 i).toNat k (c - k)
                              rw [e0, show k + (c - k) = c by omega, ht] at e1
                              simp at e1
                          · rintro ⟨a1, a2, a3, a4⟩
                            exact ⟨⟨a1, a2, a3⟩, fun c hc ht => a4 c (by omega) ht⟩
                        refine e_iload (pc := 159) dX4_beginning_159 rfl ?_
                        refine e_iload (pc := 161) dX4_beginning_161 rfl ?_
                        refine e_icmp_ge (pc := 163) (tgt := 170) dX4_beginning_163 rfl (fun h163 => ?_) (fun h163 => ?_)
                        · skip
                          refine e_iinc (pc := 170) (lo' := [(2, 10), (0, told), (2, 30), (0, (there : Int)), (2, 29), (0, first), (0, (i : Int) + 1), (0, m3), (0, mem 14 i - 1), (0, (((mem 15 i).toNat / 2 ^ k : Nat) : Int)), (0, (k : Int))]) dX4_beginning_170 rfl (by omega) rfl (by decide) rfl ?_
                          refine e_goto (pc := 173) (tgt := 7) dX4_beginning_173 rfl ?_
                          have hfb : 0 ≤ first ∧ first ≤ 60 := by omega
                          have hFn := al_old zzm hF h163
                          refine Ev.fgt [7, 8, 9, 10] ?_
                          exact Ev.to (ih7 _ (by omega) (i + 1) first (rfl) (by omega) (by omega) (hfb) (hFn)) rfl rfl rfl
                        · skip
                          refine e_iload (pc := 166) dX4_beginning_166 rfl ?_
                          refine e_istore (pc := 168) (lo' := [(2, 10), (0, told), (2, 30), (0, (there : Int)), (2, 29), (0, m3), (0, (i : Int)), (0, m3), (0, mem 14 i - 1), (0, (((mem 15 i).toNat / 2 ^ k : Nat) : Int)), (0, (k : Int))]) dX4_beginning_168 rfl (by decide) rfl ?_
                          refine e_iinc (pc := 170) (lo' := [(2, 10), (0, told), (2, 30), (0, (there : Int)), (2, 29), (0, m3), (0, (i : Int) + 1), (0, m3), (0, mem 14 i - 1), (0, (((mem 15 i).toNat / 2 ^ k : Nat) : Int)), (0, (k : Int))]) dX4_beginning_170 rfl (by omega) rfl (by decide) rfl ?_
                          refine e_goto (pc := 173) (tgt := 7) dX4_beginning_173 rfl ?_
                          have hfb : 0 ≤ m3 ∧ m3 ≤ 60 := by omega
                          have hFn := al_min zzm hF h163
                          refine Ev.fgt [7, 8, 9, 10] ?_
                          exact Ev.to (ih7 _ (by omega) (i + 1) m3 (rfl) (by omega) (by omega) (hfb) (hFn)) rfl rfl rfl
                      · skip
                        refine e_iload (pc := 115) dX4_beginning_115 rfl ?_
                        refine e_aload (pc := 117) dX4_beginning_117 rfl ?_
                        refine e_alen (pc := 119) dX4_beginning_119 s_29 (by decide) (by decide) ?_
                        refine e_icmp_ge (pc := 120) (tgt := 159) dX4_beginning_120 rfl (fun h120 => ?_) (fun h120 => ?_)
                        · skip
                          have zzm : ∀ t, m3 ≤ t ↔ altOk mem told there (mem 30) (mem 29) i t := by
                            intro t
                            rw [h3 t, h2 t]
                            unfold altOk
                            constructor
                            · rintro ⟨⟨a1, a2, a3⟩, a4⟩
                              refine ⟨a1, a2, a3, fun c hc ht => a4 c ?_ ht⟩
                              omega
                            · rintro ⟨a1, a2, a3, a4⟩
                              exact ⟨⟨a1, a2, a3⟩, fun c hc ht => a4 c (by omega) ht⟩
                          refine e_iload (pc := 159) dX4_beginning_159 rfl ?_
                          refine e_iload (pc := 161) dX4_beginning_161 rfl ?_
                          refine e_icmp_ge (pc := 163) (tgt := 170) dX4_beginning_163 rfl (fun h163 => ?_) (fun h163 => ?_)
                          · skip
                            refine e_iinc (pc := 170) (lo' := [(2, 10), (0, told), (2, 30), (0, (there : Int)), (2, 29), (0, first), (0, (i : Int) + 1), (0, m3), (0, mem 14 i - 1), (0, (((mem 15 i).toNat / 2 ^ k : Nat) : Int)), (0, (k : Int))]) dX4_beginning_170 rfl (by omega) rfl (by decide) rfl ?_
                            refine e_goto (pc := 173) (tgt := 7) dX4_beginning_173 rfl ?_
                            have hfb : 0 ≤ first ∧ first ≤ 60 := by omega
                            have hFn := al_old zzm hF h163
                            refine Ev.fgt [7, 8, 9, 10] ?_
                            exact Ev.to (ih7 _ (by omega) (i + 1) first (rfl) (by omega) (by omega) (hfb) (hFn)) rfl rfl rfl
                          · skip
                            refine e_iload (pc := 166) dX4_beginning_166 rfl ?_
                            refine e_istore (pc := 168) (lo' := [(2, 10), (0, told), (2, 30), (0, (there : Int)), (2, 29), (0, m3), (0, (i : Int)), (0, m3), (0, mem 14 i - 1), (0, (((mem 15 i).toNat / 2 ^ k : Nat) : Int)), (0, (k : Int))]) dX4_beginning_168 rfl (by decide) rfl ?_
                            refine e_iinc (pc := 170) (lo' := [(2, 10), (0, told), (2, 30), (0, (there : Int)), (2, 29), (0, m3), (0, (i : Int) + 1), (0, m3), (0, mem 14 i - 1), (0, (((mem 15 i).toNat / 2 ^ k : Nat) : Int)), (0, (k : Int))]) dX4_beginning_170 rfl (by omega) rfl (by decide) rfl ?_
                            refine e_goto (pc := 173) (tgt := 7) dX4_beginning_173 rfl ?_
                            have hfb : 0 ≤ m3 ∧ m3 ≤ 60 := by omega
                            have hFn := al_min zzm hF h163
                            refine Ev.fgt [7, 8, 9, 10] ?_
                            exact Ev.to (ih7 _ (by omega) (i + 1) m3 (rfl) (by omega) (by omega) (hfb) (hFn)) rfl rfl rfl
                        · skip
                          refine e_iload (pc := 123) dX4_beginning_123 rfl ?_
                          refine e_iconst (pc := 125) dX4_beginning_125 (by decide) ?_
                          refine e_iand (pc := 126) dX4_beginning_126 ?_
                          rw [show bAnd (((mem 15 i).toNat / 2 ^ k : Nat) : Int) 1 = (((mem 15 i).toNat / 2 ^ k % 2 : Nat) : Int) from and1 (by omega)]
                          refine e_if_eq (pc := 127) (tgt := 147) dX4_beginning_127 rfl (fun h127 => ?_) (fun h127 => ?_)
                          · skip
                            refine e_iload (pc := 147) dX4_beginning_147 rfl ?_
                            refine e_iconst (pc := 149) dX4_beginning_149 (by decide) ?_
                            refine e_iushr (pc := 150) dX4_beginning_150 ?_
                            rw [show bUshr (((mem 15 i).toNat / 2 ^ k : Nat) : Int) 1 = (((mem 15 i).toNat / 2 ^ k / 2 : Nat) : Int) from ushr1 (by omega)]
                            refine e_istore (pc := 151) (lo' := [(2, 10), (0, told), (2, 30), (0, (there : Int)), (2, 29), (0, first), (0, (i : Int)), (0, m3), (0, mem 14 i - 1), (0, (((mem 15 i).toNat / 2 ^ k / 2 : Nat) : Int)), (0, (k : Int))]) dX4_beginning_151 rfl (by decide) rfl ?_
                            refine e_iinc (pc := 153) (lo' := [(2, 10), (0, told), (2, 30), (0, (there : Int)), (2, 29), (0, first), (0, (i : Int)), (0, m3), (0, mem 14 i - 1), (0, (((mem 15 i).toNat / 2 ^ k / 2 : Nat) : Int)), (0, (k : Int) + 1)]) dX4_beginning_153 rfl (by omega) rfl (by decide) rfl ?_
                            refine e_goto (pc := 156) (tgt := 110) dX4_beginning_156 rfl ?_
                            have h3n := fun t => c_f (wh := mem 29) (w := (mem 15 i).toNat) (by omega : (mem 15 i).toNat / 2 ^ k % 2 = 0) (h3 t)
                            exact Ev.to (ih110 _ (by omega) (k + 1) m3 (rfl) (by omega) (by omega) (h3n)) (by rw [show (mem 15 i).toNat / 2 ^ (k + 1) = (mem 15 i).toNat / 2 ^ k / 2 from by rw [Nat.pow_succ, Nat.div_div_eq_div_mul]]; rfl) rfl rfl
                          · skip
                            refine e_aload (pc := 130) dX4_beginning_130 rfl ?_
                            refine e_iload (pc := 132) dX4_beginning_132 rfl ?_
                            refine e_ialdv (pc := 134) (v := mem 29 k) dX4_beginning_134 s_29 (by omega) rfl ?_
                            refine e_iload (pc := 135) dX4_beginning_135 rfl ?_
                            refine e_icmp_le (pc := 137) (tgt := 147) dX4_beginning_137 rfl (fun h137 => ?_) (fun h137 => ?_)
                            · skip
                              refine e_iload (pc := 147) dX4_beginning_147 rfl ?_
                              refine e_iconst (pc := 149) dX4_beginning_149 (by decide) ?_
                              refine e_iushr (pc := 150) dX4_beginning_150 ?_
                              rw [show bUshr (((mem 15 i).toNat / 2 ^ k : Nat) : Int) 1 = (((mem 15 i).toNat / 2 ^ k / 2 : Nat) : Int) from ushr1 (by omega)]
                              refine e_istore (pc := 151) (lo' := [(2, 10), (0, told), (2, 30), (0, (there : Int)), (2, 29), (0, first), (0, (i : Int)), (0, m3), (0, mem 14 i - 1), (0, (((mem 15 i).toNat / 2 ^ k / 2 : Nat) : Int)), (0, (k : Int))]) dX4_beginning_151 rfl (by decide) rfl ?_
                              refine e_iinc (pc := 153) (lo' := [(2, 10), (0, told), (2, 30), (0, (there : Int)), (2, 29), (0, first), (0, (i : Int)), (0, m3), (0, mem 14 i - 1), (0, (((mem 15 i).toNat / 2 ^ k / 2 : Nat) : Int)), (0, (k : Int) + 1)]) dX4_beginning_153 rfl (by omega) rfl (by decide) rfl ?_
                              refine e_goto (pc := 156) (tgt := 110) dX4_beginning_156 rfl ?_
                              have h3n := fun t => c_1 (wh := mem 29) (w := (mem 15 i).toNat) h137 (h3 t)
                              exact Ev.to (ih110 _ (by omega) (k + 1) m3 (rfl) (by omega) (by omega) (h3n)) (by rw [show (mem 15 i).toNat / 2 ^ (k + 1) = (mem 15 i).toNat / 2 ^ k / 2 from by rw [Nat.pow_succ, Nat.div_div_eq_div_mul]]; rfl) rfl rfl
                            · skip
                              refine e_aload (pc := 140) dX4_beginning_140 rfl ?_
                              refine e_iload (pc := 142) dX4_beginning_142 rfl ?_
                              refine e_ialdv (pc := 144) (v := mem 29 k) dX4_beginning_144 s_29 (by omega) rfl ?_
                              refine e_istore (pc := 145) (lo' := [(2, 10), (0, told), (2, 30), (0, (there : Int)), (2, 29), (0, first), (0, (i : Int)), (0, mem 29 k), (0, mem 14 i - 1), (0, (((mem 15 i).toNat / 2 ^ k : Nat) : Int)), (0, (k : Int))]) dX4_beginning_145 rfl (by decide) rfl ?_
                              refine e_iload (pc := 147) dX4_beginning_147 rfl ?_
                              refine e_iconst (pc := 149) dX4_beginning_149 (by decide) ?_
                              refine e_iushr (pc := 150) dX4_beginning_150 ?_
                              rw [show bUshr (((mem 15 i).toNat / 2 ^ k : Nat) : Int) 1 = (((mem 15 i).toNat / 2 ^ k / 2 : Nat) : Int) from ushr1 (by omega)]
                              refine e_istore (pc := 151) (lo' := [(2, 10), (0, told), (2, 30), (0, (there : Int)), (2, 29), (0, first), (0, (i : Int)), (0, mem 29 k), (0, mem 14 i - 1), (0, (((mem 15 i).toNat / 2 ^ k / 2 : Nat) : Int)), (0, (k : Int))]) dX4_beginning_151 rfl (by decide) rfl ?_
                              refine e_iinc (pc := 153) (lo' := [(2, 10), (0, told), (2, 30), (0, (there : Int)), (2, 29), (0, first), (0, (i : Int)), (0, mem 29 k), (0, mem 14 i - 1), (0, (((mem 15 i).toNat / 2 ^ k / 2 : Nat) : Int)), (0, (k : Int) + 1)]) dX4_beginning_153 rfl (by omega) rfl (by decide) rfl ?_
                              refine e_goto (pc := 156) (tgt := 110) dX4_beginning_156 rfl ?_
                              have h3n := fun t => c_2 (wh := mem 29) (w := (mem 15 i).toNat) (by omega) h137 (h3 t)
                              exact Ev.to (ih110 _ (by omega) (k + 1) (mem 29 k) (rfl) (by omega) (by omega) (h3n)) (by rw [show (mem 15 i).toNat / 2 ^ (k + 1) = (mem 15 i).toNat / 2 ^ k / 2 from by rw [Nat.pow_succ, Nat.div_div_eq_div_mul]]; rfl) rfl rfl
                  exact Ev.to (L110 _ 0 m2 (rfl) (by omega) (h2b) (fun t => ⟨fun q => ⟨q, fun c hc => by omega⟩, fun q => q.1⟩)) (by rw [Nat.pow_zero, Nat.div_one, Int.toNat_of_nonneg (by omega)]; rfl) rfl rfl
                refine e_iload (pc := 78) dX4_beginning_78 rfl ?_
                refine e_if_lt (pc := 80) (tgt := 98) dX4_beginning_80 rfl (fun h80 => ?_) (fun h80 => ?_)
                · skip
                  exact Ev.to (C98 m1 (h1b) (fun t => b_0 h80 (h1 t))) rfl rfl rfl
                · skip
                  refine e_aloadn (pc := 83) dX4_beginning_83 rfl rfl ?_
                  refine e_iload (pc := 84) dX4_beginning_84 rfl ?_
                  refine e_ialdv (pc := 86) (v := (mem 30 (mem 14 i - 1).toNat)) dX4_beginning_86 s_30 (by omega) (rfl) ?_
                  refine e_iload (pc := 87) dX4_beginning_87 rfl ?_
                  refine e_icmp_le (pc := 89) (tgt := 98) dX4_beginning_89 rfl (fun h89 => ?_) (fun h89 => ?_)
                  · skip
                    exact Ev.to (C98 m1 (h1b) (fun t => b_1 h80 h89 (srt_cnt hs (by omega) t) (h1 t))) rfl rfl rfl
                  · skip
                    refine e_aloadn (pc := 92) dX4_beginning_92 rfl rfl ?_
                    refine e_iload (pc := 93) dX4_beginning_93 rfl ?_
                    refine e_ialdv (pc := 95) (v := (mem 30 (mem 14 i - 1).toNat)) dX4_beginning_95 s_30 (by omega) (rfl) ?_
                    refine e_istore (pc := 96) (lo' := [(2, 10), (0, told), (2, 30), (0, (there : Int)), (2, 29), (0, first), (0, (i : Int)), (0, (mem 30 (mem 14 i - 1).toNat)), (0, (mem 14 i) - 1), (3, 0), (3, 0)]) dX4_beginning_96 rfl (by decide) rfl ?_
                    exact Ev.to (C98 (mem 30 (mem 14 i - 1).toNat) (by have zz8 := hr (mem 14 i - 1).toNat (by omega); omega) (fun t => b_2 h80 h89 (srt_cnt hs (by omega) t) (h1 t))) rfl rfl rfl
              · skip
                exfalso; omega
          refine e_aloadn (pc := 32) dX4_beginning_32 rfl rfl ?_
          refine e_getr (pc := 33) (k := 13) dX4_beginning_33 fX4_18 s_10 rfl (by decide) ?_
          refine e_iload (pc := 36) dX4_beginning_36 rfl ?_
          refine e_zaldv (pc := 38) (v := mem 13 i) dX4_beginning_38 s_13 (by omega) rfl ?_
          refine e_if_eq (pc := 39) (tgt := 51) dX4_beginning_39 rfl (fun h39 => ?_) (fun h39 => ?_)
          · skip
            exact Ev.to (C51 (mem 12 i) (by omega) (a_t0 h39)) rfl rfl rfl
          · skip
            refine e_iloadn (pc := 42) dX4_beginning_42 rfl rfl ?_
            refine e_iload (pc := 43) dX4_beginning_43 rfl ?_
            refine e_icmp_le (pc := 45) (tgt := 51) dX4_beginning_45 rfl (fun h45 => ?_) (fun h45 => ?_)
            · skip
              exact Ev.to (C51 (mem 12 i) (by omega) (a_t1 h45)) rfl rfl rfl
            · skip
              refine e_iloadn (pc := 48) dX4_beginning_48 rfl rfl ?_
              refine e_istore (pc := 49) (lo' := [(2, 10), (0, told), (2, 30), (0, (there : Int)), (2, 29), (0, first), (0, (i : Int)), (0, told), (3, 0), (3, 0), (3, 0)]) dX4_beginning_49 rfl (by decide) rfl ?_
              exact Ev.to (C51 told (by omega) (a_t2 h45 (by omega))) rfl rfl rfl
  exact Ev.to (L7 _ 0 60 (rfl) (by omega) (by have zz8 := hR.1; omega) (by omega) (fun t h0 h1 => ⟨fun q => by omega, fun ⟨j, q, _⟩ => by omega⟩)) rfl rfl rfl
