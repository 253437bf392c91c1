/-- the model's evening -/
def ME (A zm : Mem) (tm kd am : Nat → Int) (late aw : Int) : Prop := (zm 49 22 = tm 0 ∧ zm 49 23 = tm 1 ∧ zm 49 24 = tm 2) ∧ (zm 49 26 = aw ∧ zm 49 27 = late ∧ 0 ≤ zm 49 25 ∧ zm 49 25 < 256) ∧ (∀ c, c < 8 → (bt (zm 49 25) c = 1 → A 18 c = 0) ∧ kd c = if bt (zm 49 25) c = 1 then 1 else A 18 c) ∧ (∀ c, c < 8 → kd c = 0 → zm 62 c = am c) ∧ EvR tm kd am late aw (A 2) (A 3)
theorem ME.mv {A zm zn : Mem} {tm kd am : Nat → Int} {late aw : Int} (h : ME A zm tm kd am late aw) (e : ∀ j, 22 ≤ j → j ≤ 27 → zn 49 j = zm 49 j) (e2 : zn 62 = zm 62) : ME A zn tm kd am late aw := by
  unfold ME; rw [e 22 (by omega) (by omega), e 23 (by omega) (by omega), e 24 (by omega) (by omega), e 25 (by omega) (by omega), e 26 (by omega) (by omega), e 27 (by omega) (by omega), e2]; exact h
theorem ME.kd {A zm : Mem} {tm kd am : Nat → Int} {late aw : Int} (h : ME A zm tm kd am late aw) {c : Nat} (hc : c < 8) : (kd c = 2 ↔ A 18 c = 2) ∧ (kd c = -1 ↔ A 18 c = -1) ∧ (kd c = 0 ↔ A 18 c = 0 ∧ bt (zm 49 25) c = 0) ∧ (kd c = 1 ↔ A 18 c = 1 ∨ bt (zm 49 25) c = 1) := by
  obtain ⟨h1, h2⟩ := h.2.2.1 c hc
  have h3 := bt_01 (zm 49 25) c
  rw [h2]
  by_cases q : bt (zm 49 25) c = 1
  · rw [if_pos q]; have := h1 q; omega
  · rw [if_neg q]; omega
abbrev smE (A : Mem) (tm kd am : Nat → Int) (late aw : Int) : Nat → Nat → Int := sim (fmR kd am (tm 0) late aw (A 9)) (isK kd aw (-1)) (A 2) (A 3)
section SME
variable {A : Mem} {tm kd am : Nat → Int} {late aw : Int}
theorem fmE_bd (hC : CoOk A) (hE : EvR tm kd am late aw (A 2) (A 3)) {c : Nat} (hc : c < 8) : 0 ≤ fmR kd am (tm 0) late aw (A 9) c ∧ fmR kd am (tm 0) late aw (A 9) c ≤ 60 := by
  unfold fmR
  split
  · exact firmV_bd (hE.2 c hc).2.1.1 hE.1.1.1 (by have := (hC c hc).2.2.2.2.1; omega)
  · omega
theorem lagE (hE : EvR tm kd am late aw (A 2) (A 3)) {c : Nat} (hc : c < 8) (hk : isK kd aw (-1) c = true) : 1 ≤ A 2 c := by
  unfold isK at hk
  simp at hk
  exact ((hE.2 c hc).2.2 hk.1).1
theorem smE_wh (hC : CoOk A) (hE : EvR tm kd am late aw (A 2) (A 3)) {c : Nat} (hc : c < 8) : smE A tm kd am late aw 60 c = whT A tm kd am late aw c :=
  comeF_eq (sim_come (fun _ hc _ => fmE_bd hC hE hc) (fun _ hc hk => lagE hE hc hk)) (fun _ hc hk => lagE hE hc hk) c hc
theorem smE_bd (hC : CoOk A) (hE : EvR tm kd am late aw (A 2) (A 3)) (T : Nat) {c : Nat} (hc : c < 8) : 0 ≤ smE A tm kd am late aw T c ∧ smE A tm kd am late aw T c ≤ 60 := sim_bd (fun _ hc _ => fmE_bd hC hE hc) (fun _ hc hk => lagE hE hc hk) hc
theorem cm0 {k : Nat} {v x : Int} (hC : CoOk A) (hE : EvR tm kd am late aw (A 2) (A 3)) (hk8 : k < 8) (hk : kd k ≠ -1) (hv : v = if kd k = 2 ∨ bt aw k = 1 then 60 else if kd k = 1 then tm 0 else am k) (hx : x = if v < 60 ∧ bt late k = 1 then A 9 k else 0) : (if 60 < v + x then 60 else v + x) = smE A tm kd am late aw 0 k := by
  have hd := (hC k hk8).2.2.2.2.1
  have hr := (hE.2 k hk8).1
  have ha := (hE.2 k hk8).2.1
  have ht := hE.1.1
  have hb := bt_01 aw k
  have hl := bt_01 late k
  show _ = if isK kd aw (-1) k then 60 else fmR kd am (tm 0) late aw (A 9) k
  have ek : isK kd aw (-1) k = decide (kd k = 2 ∧ bt aw k = 0) := by
    unfold isK
    have : (k : Int) ≠ -1 := by omega
    simp [this]
  have ef : isF kd aw (-1) k = decide (kd k ≠ 2 ∧ bt aw k = 0) := by
    unfold isF
    have : (k : Int) ≠ -1 := by omega
    simp [this, hk]
  rw [ek]
  unfold fmR firmV
  rw [ef]
  simp only [decide_eq_true_eq]
  clear ek ef
  (repeat' split at hv) <;> (repeat' split at hx) <;> (repeat' split) <;> omega
/-- how many are there by minute T, but for one who isn't -/
theorem smE_cn (hE : EvR tm kd am late aw (A 2) (A 3)) {T k n : Nat} (hT : T < 60) (hk : k < n) (hn : n ≤ 8) (hno : ∀ c, c < 8 → n ≤ c → kd c = -1) (h60 : smE A tm kd am late aw T k = 60) {row : Nat → Int} (h1 : ∀ o, o < k → row o = smE A tm kd am late aw (T + 1) o) (h2 : ∀ o, k ≤ o → o < n → row o = smE A tm kd am late aw T o) : cnt (fun o => decide (o ≠ k ∧ row o ≤ (T : Int))) n = cnO (smE A tm kd am late aw T) 8 T := by
  have e1 : cnt (fun o => decide (o ≠ k ∧ row o ≤ (T : Int))) n = cnt (fun o => decide (smE A tm kd am late aw T o ≤ (T : Int))) n := by
    refine cnt_congr (fun o ho => ?_)
    by_cases q : o = k
    · subst q; rw [h60]; simp; omega
    · rcases Nat.lt_or_ge o k with z | z
      · rw [h1 o z]
        have : smE A tm kd am late aw (T + 1) o ≤ (T : Int) ↔ smE A tm kd am late aw T o ≤ (T : Int) := by
          show sim _ _ _ _ (T + 1) o ≤ (T : Int) ↔ sim _ _ _ _ T o ≤ (T : Int)
          rw [sim_s]
          split
          · rename_i hh
            have := lagE hE (c := o) (by omega) hh.1
            omega
          · exact Iff.rfl
        simp [q, this]
      · rw [h2 o z ho]; simp [q]
  rw [e1]
  unfold cnO
  obtain ⟨r, hr⟩ : ∃ r, 8 = n + r := ⟨8 - n, by omega⟩
  rw [hr, cnt_split, cnt_none (n := r)]
  · rfl
  · intro j hj
    have hm := hno (n + j) (by omega) (by omega)
    have hKf : isK kd aw (-1) (n + j) = false := by unfold isK; rw [hm]; simp
    have : smE A tm kd am late aw T (n + j) = 60 := by
      show sim _ _ _ _ T (n + j) = 60
      rw [sim_own hKf]
      unfold fmR
      rw [if_neg (by unfold isF; rw [hm]; simp)]
    rw [this]; simp; omega
theorem smE_next {T k : Nat} {b : Int} (hk : isK kd aw (-1) k = true) (h60 : smE A tm kd am late aw T k = 60) (hb : b = (cnO (smE A tm kd am late aw T) 8 T : Int)) : smE A tm kd am late aw (T + 1) k = if A 3 k ≤ b ∧ (T : Int) + A 2 k < 60 then (T : Int) + A 2 k else 60 := by
  show sim _ _ _ _ (T + 1) k = _
  rw [sim_s, hb]
  by_cases q : A 3 k ≤ (cnO (smE A tm kd am late aw T) 8 T : Int) ∧ (T : Int) + A 2 k < 60
  · rw [if_pos q, if_pos ⟨hk, h60, q.2, q.1⟩]
  · rw [if_neg q, if_neg (fun z => q ⟨z.2.2.2, z.2.2.1⟩)]; exact h60
theorem smE_keep {T k : Nat} (h : isK kd aw (-1) k = false ∨ smE A tm kd am late aw T k ≠ 60) : smE A tm kd am late aw (T + 1) k = smE A tm kd am late aw T k := by
  show sim _ _ _ _ (T + 1) k = _
  rw [sim_s, if_neg]
  rintro ⟨z1, z2, _⟩
  rcases h with q | q
  · rw [q] at z1; cases z1
  · exact q z2
end SME
def anyK (K : Nat → Bool) : Nat → Bool
  | 0 => false
  | k + 1 => anyK K k || K k
theorem anyK_f {K : Nat → Bool} : ∀ {n : Nat}, anyK K n = false → ∀ c, c < n → K c = false
  | 0, _, c, hc => by omega
  | n + 1, h, c, hc => by
    have h' : (anyK K n || K n) = false := h
    rw [Bool.or_eq_false_iff] at h'
    by_cases q : c = n
    · rw [q]; exact h'.2
    · exact anyK_f h'.1 c (by omega)
theorem mix_lt {f g : Nat → Int} {k j : Nat} (h : j < k) : mix f g k j = f j := if_pos h
theorem mix_ge {f g : Nat → Int} {k j : Nat} (h : k ≤ j) : mix f g k j = g j := if_neg (by omega)
theorem mix_mix {f h g : Nat → Int} {n : Nat} : mix f (mix h g n) n = mix f g n := by
  funext j
  unfold mix
  by_cases q : j < n
  · rw [if_pos q, if_pos q]
  · rw [if_neg q, if_neg q, if_neg q]
theorem mix_same {f g : Nat → Int} {k : Nat} (h : g k = f k) : mix f g k = mix f g (k + 1) := by
  rw [← mix_s]
  funext j
  unfold uset
  by_cases q : j = k
  · rw [if_pos q, q, mix_ge (Nat.le_refl _), h]
  · rw [if_neg q]

def scA (c j : Nat) : Bool := c == 63

theorem m_comesAll (G : Gm) (A mem : Mem) (tm kd am : Nat → Int) (late aw : Int) (hI : CI A) (hM : MI A mem) (hE : ME A mem tm kd am late aw) : Con G mX8_comesAll [(2, 49)] mem (fun r m' => r = none ∧ Fr scA mem m' ∧ ∀ c, c < 8 → A 18 c ≠ -1 → m' 63 c = whT A tm kd am late aw c) := by
  refine Con.of (lo := [(2, 49), (3, 0), (3, 0), (3, 0), (3, 0), (3, 0)]) (by decide +kernel) (Nat.le_of_ble_eq_true rfl) rfl ?_
  generalize hQ_ : (fun r m' => r = none ∧ Fr scA mem m' ∧ ∀ c, c < 8 → A 18 c ≠ -1 → m' 63 c = whT A tm kd am late aw c : Option AV → Mem → Prop) = Q_
  obtain ⟨n, zn1, zn2, zn9⟩ := hI.2.2.2.2.1
  have zn3 := hM.1.1.trans zn1
  have zno : ∀ c, c < 8 → n ≤ c → kd c = -1 := fun c hc hq => (hE.kd hc).2.1.mpr ((zn9 c hc).1.mpr hq)
  clear zn9
  have zev := hE.2.2.2.2
  have zek : ∀ c, isK kd aw (-1) c = decide (kd c = 2 ∧ bt aw c = 0) := fun c => by
    unfold isK
    have : (c : Int) ≠ -1 := by omega
    simp [this]
  refine e_iconst (pc := 0) dX8_comesAll_0 (by decide) ?_
  refine e_istoren (pc := 1) (lo' := [(2, 49), (0, 0), (3, 0), (3, 0), (3, 0), (3, 0)]) dX8_comesAll_1 rfl rfl (by decide) rfl ?_
  refine e_iconst (pc := 2) dX8_comesAll_2 (by decide) ?_
  refine e_istoren (pc := 3) (lo' := [(2, 49), (0, 0), (0, 0), (3, 0), (3, 0), (3, 0)]) dX8_comesAll_3 rfl rfl (by decide) rfl ?_
  have L4 : ∀ (n_ : Nat) (k : Nat), 8 - k = n_ → (k ≤ n) → Ev G mX8_comesAll Q_ 4 [(2, 49), (0, (if anyK (isK kd aw (-1)) k then 1 else 0)), (0, (k : Int)), (3, 0), (3, 0), (3, 0)] [] (rset mem 63 (mix (smE A tm kd am late aw 0) (mem 63) k)) := by
    intro n_
    induction n_ using Nat.strongRecOn with
    | ind n_ ih4 =>
      intro k hn_ zk
      refine e_iloadn (pc := 4) dX8_comesAll_4 rfl rfl ?_
      refine e_aloadn (pc := 5) dX8_comesAll_5 rfl rfl ?_
      refine e_getiv (pc := 6) (v := (n : Int)) dX8_comesAll_6 fX8_99 s_49 rfl (by decide) (zn3) ?_
      refine e_icmp_ge (pc := 9) (tgt := 164) dX8_comesAll_9 rfl (fun h9 => ?_) (fun h9 => ?_)
      · skip
        have zke : k = n := by omega
        rw [zke]
        refine e_iconst (pc := 164) dX8_comesAll_164 (by decide) ?_
        refine e_istoren (pc := 165) (lo' := [(2, 49), (0, (if anyK (isK kd aw (-1)) n then 1 else 0)), (0, 0), (3, 0), (3, 0), (3, 0)]) dX8_comesAll_165 rfl rfl (by decide) rfl ?_
        have L166 : ∀ (n_ : Nat) (T : Nat), 60 - T = n_ → (T ≤ 60) → Ev G mX8_comesAll Q_ 166 [(2, 49), (0, (if anyK (isK kd aw (-1)) n then 1 else 0)), (0, (T : Int)), (3, 0), (3, 0), (3, 0)] [] (rset mem 63 (mix (smE A tm kd am late aw T) (mem 63) n)) := by
          intro n_
          induction n_ using Nat.strongRecOn with
          | ind n_ ih166 =>
            intro T hn_ zT
            refine e_iloadn (pc := 166) dX8_comesAll_166 rfl rfl ?_
            refine e_bipush (pc := 167) dX8_comesAll_167 rfl (by decide) ?_
            refine e_icmp_ge (pc := 169) (tgt := 308) dX8_comesAll_169 rfl (fun h169 => ?_) (fun h169 => ?_)
            · skip
              have zfin : ∀ c, c < 8 → A 18 c ≠ -1 → (rset mem 63 (mix (smE A tm kd am late aw T) (mem 63) n)) 63 c = whT A tm kd am late aw c := fun c hc hq => by
                have zc := (hI.cm zn1 hc).mp hq
                show (mix (smE A tm kd am late aw T) (mem 63) n) c = _
                rw [mix_lt zc, show T = 60 by omega]; exact smE_wh hI.1 zev hc
              exact e_vret (pc := 308) dX8_comesAll_308 rfl (by rw [← hQ_]; exact ⟨rfl, Fr.rf.rs (fun _ => rfl), zfin⟩)
            · skip
              refine e_iloadn (pc := 172) dX8_comesAll_172 rfl rfl ?_
              refine e_if_eq (pc := 173) (tgt := 308) dX8_comesAll_173 rfl (fun h173 => ?_) (fun h173 => ?_)
              · skip
                have zfl : anyK (isK kd aw (-1)) n = false := by cases zq : anyK (isK kd aw (-1)) n with
                  | false => rfl
                  | true => rw [zq] at h173; exact absurd h173 (by decide)
                have zfin : ∀ c, c < 8 → A 18 c ≠ -1 → (rset mem 63 (mix (smE A tm kd am late aw T) (mem 63) n)) 63 c = whT A tm kd am late aw c := fun c hc hq => by
                  have zc := (hI.cm zn1 hc).mp hq
                  have zkf := anyK_f zfl c zc
                  show (mix (smE A tm kd am late aw T) (mem 63) n) c = _
                  rw [mix_lt zc, ← smE_wh hI.1 zev hc]
                  show sim _ _ _ _ T c = sim _ _ _ _ 60 c
                  rw [sim_own zkf, sim_own zkf]
                exact e_vret (pc := 308) dX8_comesAll_308 rfl (by rw [← hQ_]; exact ⟨rfl, Fr.rf.rs (fun _ => rfl), zfin⟩)
              · skip
                refine e_iconst (pc := 176) dX8_comesAll_176 (by decide) ?_
                refine e_istoren (pc := 177) (lo' := [(2, 49), (0, (if anyK (isK kd aw (-1)) n then 1 else 0)), (0, (T : Int)), (0, 0), (3, 0), (3, 0)]) dX8_comesAll_177 rfl rfl (by decide) rfl ?_
                have L178 : ∀ (n_ : Nat) (k : Nat), 8 - k = n_ → (k ≤ n) → Ev G mX8_comesAll Q_ 178 [(2, 49), (0, (if anyK (isK kd aw (-1)) n then 1 else 0)), (0, (T : Int)), (0, (k : Int)), (3, 0), (3, 0)] [] (rset mem 63 (mix (smE A tm kd am late aw (T + 1)) (mix (smE A tm kd am late aw T) (mem 63) n) k)) := by
                  intro n_
                  induction n_ using Nat.strongRecOn with
                  | ind n_ ih178 =>
                    intro k hn_ zk
                    refine e_iloadn (pc := 178) dX8_comesAll_178 rfl rfl ?_
                    refine e_aloadn (pc := 179) dX8_comesAll_179 rfl rfl ?_
                    refine e_getiv (pc := 180) (v := (n : Int)) dX8_comesAll_180 fX8_99 s_49 rfl (by decide) (zn3) ?_
                    refine e_icmp_ge (pc := 183) (tgt := 302) dX8_comesAll_183 rfl (fun h183 => ?_) (fun h183 => ?_)
                    · skip
                      have zke : k = n := by omega
                      have zmm : rset mem 63 (mix (smE A tm kd am late aw (T + 1)) (mix (smE A tm kd am late aw T) (mem 63) n) k) = rset mem 63 (mix (smE A tm kd am late aw (T + 1)) (mem 63) n) := by rw [zke, mix_mix]
                      refine e_iinc (pc := 302) (lo' := [(2, 49), (0, (if anyK (isK kd aw (-1)) n then 1 else 0)), (0, (T : Int) + 1), (0, (k : Int)), (3, 0), (3, 0)]) dX8_comesAll_302 rfl (by omega) rfl (by decide) rfl ?_
                      refine e_goto (pc := 305) (tgt := 166) dX8_comesAll_305 rfl ?_
                      refine Ev.fgt [3] ?_
                      exact Ev.to (ih166 _ (by omega) (T + 1) (rfl) (by omega)) rfl rfl (zmm)
                    · skip
                      have zk8 : k < 8 := by omega
                      have zck := (hI.cm zn1 zk8).mpr (by omega)
                      obtain ⟨⟨zq0, zq1, zq2⟩, zq3, zq4, zq5, zq6, zq7⟩ := hM.1.2 k zk8 zck
                      obtain ⟨zkd1, zkd2, zkd3, zkd4⟩ := hE.kd zk8
                      have zaw := zev.1.2.2.2.2
                      refine e_aloadn (pc := 186) dX8_comesAll_186 rfl rfl ?_
                      refine e_iloadn (pc := 187) dX8_comesAll_187 rfl rfl ?_
                      refine e_callVr (pc := 188) (as := [(0, (k : Int))]) (st := []) (v := (0, if A 18 k = 2 ∧ bt aw k = 0 then 1 else 0)) (m_looks G A (rset mem 63 (mix (smE A tm kd am late aw (T + 1)) (mix (smE A tm kd am late aw T) (mem 63) n) k)) k aw zk8 zck (hM.v ((Fr.rf (S := scV)).rs (fun _ => rfl))) hE.2.1.1 zaw) dX8_comesAll_188 lX8_comesAll_175 rfl s_49 cn_8 rfl rfl ?_
                      by_cases zlk0 : A 18 k = 2 ∧ bt aw k = 0
                      · rw [if_pos zlk0]
                        have zlk : kd k = 2 ∧ bt aw k = 0 := ⟨zkd1.mpr zlk0.1, zlk0.2⟩
                        refine e_if_eq (pc := 191) (tgt := 296) dX8_comesAll_191 rfl (fun h191 => ?_) (fun h191 => ?_)
                        · skip
                          exact absurd h191 (by decide)
                        · skip
                          refine e_aloadn (pc := 194) dX8_comesAll_194 rfl rfl ?_
                          refine e_getr (pc := 195) (k := 63) dX8_comesAll_195 fX8_50 s_49 rfl (by decide) ?_
                          refine e_iloadn (pc := 198) dX8_comesAll_198 rfl rfl ?_
                          refine e_ialdv (pc := 199) (v := (smE A tm kd am late aw T k)) dX8_comesAll_199 s_63 (by omega) (by show (mix (smE A tm kd am late aw (T + 1)) (mix (smE A tm kd am late aw T) (mem 63) n) k) k = _; rw [mix_ge (Nat.le_refl _), mix_lt (by omega)]) ?_
                          refine e_bipush (pc := 200) dX8_comesAll_200 rfl (by decide) ?_
                          refine e_icmp_ne (pc := 202) (tgt := 296) dX8_comesAll_202 rfl (fun h202 => ?_) (fun h202 => ?_)
                          · skip
                            refine e_iinc (pc := 296) (lo' := [(2, 49), (0, (if anyK (isK kd aw (-1)) n then 1 else 0)), (0, (T : Int)), (0, (k : Int) + 1), (3, 0), (3, 0)]) dX8_comesAll_296 rfl (by omega) rfl (by decide) rfl ?_
                            refine e_goto (pc := 299) (tgt := 178) dX8_comesAll_299 rfl ?_
                            exact Ev.to (ih178 _ (by omega) (k + 1) (rfl) (by omega)) rfl rfl (by rw [mix_same (k := k) (by rw [mix_lt (by omega)]; exact (smE_keep (Or.inr h202)).symm)])
                          · skip
                            obtain ⟨zla, zse⟩ := zq2 zlk0.1
                            have zlr := (hI.1 k zk8).2.2.2.2.2.1
                            have zlp := lagE zev zk8 (by rw [zek]; exact decide_eq_true zlk)
                            refine e_iconst (pc := 205) dX8_comesAll_205 (by decide) ?_
                            refine e_istore (pc := 206) (lo' := [(2, 49), (0, (if anyK (isK kd aw (-1)) n then 1 else 0)), (0, (T : Int)), (0, (k : Int)), (0, 0), (3, 0)]) dX8_comesAll_206 rfl (by decide) rfl ?_
                            refine e_iconst (pc := 208) dX8_comesAll_208 (by decide) ?_
                            refine e_istore (pc := 209) (lo' := [(2, 49), (0, (if anyK (isK kd aw (-1)) n then 1 else 0)), (0, (T : Int)), (0, (k : Int)), (0, 0), (0, 0)]) dX8_comesAll_209 rfl (by decide) rfl ?_
                            have L211 : ∀ (n_ : Nat) (j : Nat), 8 - j = n_ → (j ≤ n) → Ev G mX8_comesAll Q_ 211 [(2, 49), (0, (if anyK (isK kd aw (-1)) n then 1 else 0)), (0, (T : Int)), (0, (k : Int)), (0, ((cnt (fun o => decide (o ≠ k ∧ (mix (smE A tm kd am late aw (T + 1)) (mix (smE A tm kd am late aw T) (mem 63) n) k) o ≤ (T : Int))) j : Nat) : Int)), (0, (j : Int))] [] (rset mem 63 (mix (smE A tm kd am late aw (T + 1)) (mix (smE A tm kd am late aw T) (mem 63) n) k)) := by
                              intro n_
                              induction n_ using Nat.strongRecOn with
                              | ind n_ ih211 =>
                                intro j hn_ zj
                                have zcl := cnt_le (fun o => decide (o ≠ k ∧ (mix (smE A tm kd am late aw (T + 1)) (mix (smE A tm kd am late aw T) (mem 63) n) k) o ≤ (T : Int))) j
                                refine e_iload (pc := 211) dX8_comesAll_211 rfl ?_
                                refine e_aloadn (pc := 213) dX8_comesAll_213 rfl rfl ?_
                                refine e_getiv (pc := 214) (v := (n : Int)) dX8_comesAll_214 fX8_99 s_49 rfl (by decide) (zn3) ?_
                                refine e_icmp_ge (pc := 217) (tgt := 253) dX8_comesAll_217 rfl (fun h217 => ?_) (fun h217 => ?_)
                                · skip
                                  have zjn : j = n := by omega
                                  rw [zjn]
                                  have zcnt := smE_cn (k := k) (row := (mix (smE A tm kd am late aw (T + 1)) (mix (smE A tm kd am late aw T) (mem 63) n) k)) zev (by omega) (by omega) zn2 zno h202 (fun o ho => mix_lt ho) (fun o ho ho2 => by rw [mix_ge ho, mix_lt ho2])
                                  have znx := smE_next (T := T) (k := k) (by rw [zek]; exact decide_eq_true zlk) h202 rfl
                                  rw [zcnt]
                                  refine e_aloadn (pc := 253) dX8_comesAll_253 rfl rfl ?_
                                  refine e_getr (pc := 254) (k := 63) dX8_comesAll_254 fX8_50 s_49 rfl (by decide) ?_
                                  refine e_iloadn (pc := 257) dX8_comesAll_257 rfl rfl ?_
                                  refine e_iload (pc := 258) dX8_comesAll_258 rfl ?_
                                  refine e_aloadn (pc := 260) dX8_comesAll_260 rfl rfl ?_
                                  refine e_getr (pc := 261) (k := 52) dX8_comesAll_261 fX8_16 s_49 rfl (by decide) ?_
                                  refine e_iloadn (pc := 264) dX8_comesAll_264 rfl rfl ?_
                                  refine e_ialdv (pc := 265) (v := (A 3 k)) dX8_comesAll_265 s_52 (by omega) (zse) ?_
                                  refine e_icmp_lt (pc := 266) (tgt := 293) dX8_comesAll_266 rfl (fun h266 => ?_) (fun h266 => ?_)
                                  · skip
                                    refine e_bipush (pc := 293) dX8_comesAll_293 rfl (by decide) ?_
                                    refine e_iastm (pc := 295) (mem2 := rset mem 63 (mix (smE A tm kd am late aw (T + 1)) (mix (smE A tm kd am late aw T) (mem 63) n) (k + 1))) dX8_comesAll_295 s_63 (by omega) (by rw [← mix_s, show 60 = smE A tm kd am late aw (T + 1) k from by rw [znx, if_neg (by omega)]]; exact mset_rset _ _ _ _ _) ?_
                                    refine e_iinc (pc := 296) (lo' := [(2, 49), (0, (if anyK (isK kd aw (-1)) n then 1 else 0)), (0, (T : Int)), (0, (k : Int) + 1), (0, ((cnO (smE A tm kd am late aw T) 8 (T : Int) : Nat) : Int)), (0, (n : Int))]) dX8_comesAll_296 rfl (by omega) rfl (by decide) rfl ?_
                                    refine e_goto (pc := 299) (tgt := 178) dX8_comesAll_299 rfl ?_
                                    refine Ev.fgt [4, 5] ?_
                                    exact Ev.to (ih178 _ (by omega) (k + 1) (rfl) (by omega)) rfl rfl rfl
                                  · skip
                                    refine e_iloadn (pc := 269) dX8_comesAll_269 rfl rfl ?_
                                    refine e_aloadn (pc := 270) dX8_comesAll_270 rfl rfl ?_
                                    refine e_getr (pc := 271) (k := 51) dX8_comesAll_271 fX8_13 s_49 rfl (by decide) ?_
                                    refine e_iloadn (pc := 274) dX8_comesAll_274 rfl rfl ?_
                                    refine e_ialdv (pc := 275) (v := (A 2 k)) dX8_comesAll_275 s_51 (by omega) (zla) ?_
                                    refine e_iaddn (pc := 276) dX8_comesAll_276 (by omega) ?_
                                    refine e_bipush (pc := 277) dX8_comesAll_277 rfl (by decide) ?_
                                    refine e_icmp_ge (pc := 279) (tgt := 293) dX8_comesAll_279 rfl (fun h279 => ?_) (fun h279 => ?_)
                                    · skip
                                      refine e_bipush (pc := 293) dX8_comesAll_293 rfl (by decide) ?_
                                      refine e_iastm (pc := 295) (mem2 := rset mem 63 (mix (smE A tm kd am late aw (T + 1)) (mix (smE A tm kd am late aw T) (mem 63) n) (k + 1))) dX8_comesAll_295 s_63 (by omega) (by rw [← mix_s, show 60 = smE A tm kd am late aw (T + 1) k from by rw [znx, if_neg (by omega)]]; exact mset_rset _ _ _ _ _) ?_
                                      refine e_iinc (pc := 296) (lo' := [(2, 49), (0, (if anyK (isK kd aw (-1)) n then 1 else 0)), (0, (T : Int)), (0, (k : Int) + 1), (0, ((cnO (smE A tm kd am late aw T) 8 (T : Int) : Nat) : Int)), (0, (n : Int))]) dX8_comesAll_296 rfl (by omega) rfl (by decide) rfl ?_
                                      refine e_goto (pc := 299) (tgt := 178) dX8_comesAll_299 rfl ?_
                                      refine Ev.fgt [4, 5] ?_
                                      exact Ev.to (ih178 _ (by omega) (k + 1) (rfl) (by omega)) rfl rfl rfl
                                    · skip
                                      refine e_iloadn (pc := 282) dX8_comesAll_282 rfl rfl ?_
                                      refine e_aloadn (pc := 283) dX8_comesAll_283 rfl rfl ?_
                                      refine e_getr (pc := 284) (k := 51) dX8_comesAll_284 fX8_13 s_49 rfl (by decide) ?_
                                      refine e_iloadn (pc := 287) dX8_comesAll_287 rfl rfl ?_
                                      refine e_ialdv (pc := 288) (v := (A 2 k)) dX8_comesAll_288 s_51 (by omega) (zla) ?_
                                      refine e_iaddn (pc := 289) dX8_comesAll_289 (by omega) ?_
                                      refine e_goto (pc := 290) (tgt := 295) dX8_comesAll_290 rfl ?_
                                      refine e_iastm (pc := 295) (mem2 := rset mem 63 (mix (smE A tm kd am late aw (T + 1)) (mix (smE A tm kd am late aw T) (mem 63) n) (k + 1))) dX8_comesAll_295 s_63 (by omega) (by rw [← mix_s, show (T : Int) + (A 2 k) = smE A tm kd am late aw (T + 1) k from by rw [znx, if_pos ⟨by omega, by omega⟩]]; exact mset_rset _ _ _ _ _) ?_
                                      refine e_iinc (pc := 296) (lo' := [(2, 49), (0, (if anyK (isK kd aw (-1)) n then 1 else 0)), (0, (T : Int)), (0, (k : Int) + 1), (0, ((cnO (smE A tm kd am late aw T) 8 (T : Int) : Nat) : Int)), (0, (n : Int))]) dX8_comesAll_296 rfl (by omega) rfl (by decide) rfl ?_
                                      refine e_goto (pc := 299) (tgt := 178) dX8_comesAll_299 rfl ?_
                                      refine Ev.fgt [4, 5] ?_
                                      exact Ev.to (ih178 _ (by omega) (k + 1) (rfl) (by omega)) rfl rfl rfl
                                · skip
                                  refine e_iload (pc := 220) dX8_comesAll_220 rfl ?_
                                  refine e_iload (pc := 222) dX8_comesAll_222 rfl ?_
                                  refine e_iloadn (pc := 224) dX8_comesAll_224 rfl rfl ?_
                                  refine e_icmp_eq (pc := 225) (tgt := 243) dX8_comesAll_225 rfl (fun h225 => ?_) (fun h225 => ?_)
                                  · skip
                                    refine e_iconst (pc := 243) dX8_comesAll_243 (by decide) ?_
                                    refine e_iaddn (pc := 244) dX8_comesAll_244 (by omega) ?_
                                    refine e_istore (pc := 245) (lo' := [(2, 49), (0, (if anyK (isK kd aw (-1)) n then 1 else 0)), (0, (T : Int)), (0, (k : Int)), (0, ((cnt (fun o => decide (o ≠ k ∧ (mix (smE A tm kd am late aw (T + 1)) (mix (smE A tm kd am late aw T) (mem 63) n) k) o ≤ (T : Int))) j : Nat) : Int) + 0), (0, (j : Int))]) dX8_comesAll_245 rfl (by decide) rfl ?_
                                    refine e_iinc (pc := 247) (lo' := [(2, 49), (0, (if anyK (isK kd aw (-1)) n then 1 else 0)), (0, (T : Int)), (0, (k : Int)), (0, ((cnt (fun o => decide (o ≠ k ∧ (mix (smE A tm kd am late aw (T + 1)) (mix (smE A tm kd am late aw T) (mem 63) n) k) o ≤ (T : Int))) j : Nat) : Int) + 0), (0, (j : Int) + 1)]) dX8_comesAll_247 rfl (by omega) rfl (by decide) rfl ?_
                                    refine e_goto (pc := 250) (tgt := 211) dX8_comesAll_250 rfl ?_
                                    have zcs : ((cnt (fun o => decide (o ≠ k ∧ (mix (smE A tm kd am late aw (T + 1)) (mix (smE A tm kd am late aw T) (mem 63) n) k) o ≤ (T : Int))) (j + 1) : Nat) : Int) = ((cnt (fun o => decide (o ≠ k ∧ (mix (smE A tm kd am late aw (T + 1)) (mix (smE A tm kd am late aw T) (mem 63) n) k) o ≤ (T : Int))) j : Nat) : Int) + 0 := by
                                      rw [cnt_s]
                                      show (((_ : Nat) + (if decide (j ≠ k ∧ (mix (smE A tm kd am late aw (T + 1)) (mix (smE A tm kd am late aw T) (mem 63) n) k) j ≤ (T : Int)) = true then 1 else 0) : Nat) : Int) = _
                                      rw [if_neg (by simp only [decide_eq_true_eq]; omega)]; rfl
                                    exact Ev.to (ih211 _ (by omega) (j + 1) (rfl) (by omega)) (by rw [zcs]; rfl) rfl rfl
                                  · skip
                                    refine e_aloadn (pc := 228) dX8_comesAll_228 rfl rfl ?_
                                    refine e_getr (pc := 229) (k := 63) dX8_comesAll_229 fX8_50 s_49 rfl (by decide) ?_
                                    refine e_iload (pc := 232) dX8_comesAll_232 rfl ?_
                                    refine e_ialdv (pc := 234) (v := ((mix (smE A tm kd am late aw (T + 1)) (mix (smE A tm kd am late aw T) (mem 63) n) k) j)) dX8_comesAll_234 s_63 (by omega) (rfl) ?_
                                    refine e_iloadn (pc := 235) dX8_comesAll_235 rfl rfl ?_
                                    refine e_icmp_gt (pc := 236) (tgt := 243) dX8_comesAll_236 rfl (fun h236 => ?_) (fun h236 => ?_)
                                    · skip
                                      refine e_iconst (pc := 243) dX8_comesAll_243 (by decide) ?_
                                      refine e_iaddn (pc := 244) dX8_comesAll_244 (by omega) ?_
                                      refine e_istore (pc := 245) (lo' := [(2, 49), (0, (if anyK (isK kd aw (-1)) n then 1 else 0)), (0, (T : Int)), (0, (k : Int)), (0, ((cnt (fun o => decide (o ≠ k ∧ (mix (smE A tm kd am late aw (T + 1)) (mix (smE A tm kd am late aw T) (mem 63) n) k) o ≤ (T : Int))) j : Nat) : Int) + 0), (0, (j : Int))]) dX8_comesAll_245 rfl (by decide) rfl ?_
                                      refine e_iinc (pc := 247) (lo' := [(2, 49), (0, (if anyK (isK kd aw (-1)) n then 1 else 0)), (0, (T : Int)), (0, (k : Int)), (0, ((cnt (fun o => decide (o ≠ k ∧ (mix (smE A tm kd am late aw (T + 1)) (mix (smE A tm kd am late aw T) (mem 63) n) k) o ≤ (T : Int))) j : Nat) : Int) + 0), (0, (j : Int) + 1)]) dX8_comesAll_247 rfl (by omega) rfl (by decide) rfl ?_
                                      refine e_goto (pc := 250) (tgt := 211) dX8_comesAll_250 rfl ?_
                                      have zcs : ((cnt (fun o => decide (o ≠ k ∧ (mix (smE A tm kd am late aw (T + 1)) (mix (smE A tm kd am late aw T) (mem 63) n) k) o ≤ (T : Int))) (j + 1) : Nat) : Int) = ((cnt (fun o => decide (o ≠ k ∧ (mix (smE A tm kd am late aw (T + 1)) (mix (smE A tm kd am late aw T) (mem 63) n) k) o ≤ (T : Int))) j : Nat) : Int) + 0 := by
                                        rw [cnt_s]
                                        show (((_ : Nat) + (if decide (j ≠ k ∧ (mix (smE A tm kd am late aw (T + 1)) (mix (smE A tm kd am late aw T) (mem 63) n) k) j ≤ (T : Int)) = true then 1 else 0) : Nat) : Int) = _
                                        rw [if_neg (by simp only [decide_eq_true_eq]; omega)]; rfl
                                      exact Ev.to (ih211 _ (by omega) (j + 1) (rfl) (by omega)) (by rw [zcs]; rfl) rfl rfl
                                    · skip
                                      refine e_iconst (pc := 239) dX8_comesAll_239 (by decide) ?_
                                      refine e_goto (pc := 240) (tgt := 244) dX8_comesAll_240 rfl ?_
                                      refine e_iaddn (pc := 244) dX8_comesAll_244 (by omega) ?_
                                      refine e_istore (pc := 245) (lo' := [(2, 49), (0, (if anyK (isK kd aw (-1)) n then 1 else 0)), (0, (T : Int)), (0, (k : Int)), (0, ((cnt (fun o => decide (o ≠ k ∧ (mix (smE A tm kd am late aw (T + 1)) (mix (smE A tm kd am late aw T) (mem 63) n) k) o ≤ (T : Int))) j : Nat) : Int) + 1), (0, (j : Int))]) dX8_comesAll_245 rfl (by decide) rfl ?_
                                      refine e_iinc (pc := 247) (lo' := [(2, 49), (0, (if anyK (isK kd aw (-1)) n then 1 else 0)), (0, (T : Int)), (0, (k : Int)), (0, ((cnt (fun o => decide (o ≠ k ∧ (mix (smE A tm kd am late aw (T + 1)) (mix (smE A tm kd am late aw T) (mem 63) n) k) o ≤ (T : Int))) j : Nat) : Int) + 1), (0, (j : Int) + 1)]) dX8_comesAll_247 rfl (by omega) rfl (by decide) rfl ?_
                                      refine e_goto (pc := 250) (tgt := 211) dX8_comesAll_250 rfl ?_
                                      have zcs : ((cnt (fun o => decide (o ≠ k ∧ (mix (smE A tm kd am late aw (T + 1)) (mix (smE A tm kd am late aw T) (mem 63) n) k) o ≤ (T : Int))) (j + 1) : Nat) : Int) = ((cnt (fun o => decide (o ≠ k ∧ (mix (smE A tm kd am late aw (T + 1)) (mix (smE A tm kd am late aw T) (mem 63) n) k) o ≤ (T : Int))) j : Nat) : Int) + 1 := by
                                        rw [cnt_s]
                                        show (((_ : Nat) + (if decide (j ≠ k ∧ (mix (smE A tm kd am late aw (T + 1)) (mix (smE A tm kd am late aw T) (mem 63) n) k) j ≤ (T : Int)) = true then 1 else 0) : Nat) : Int) = _
                                        rw [if_pos (decide_eq_true ⟨by omega, h236⟩)]; rfl
                                      exact Ev.to (ih211 _ (by omega) (j + 1) (rfl) (by omega)) (by rw [zcs]; rfl) rfl rfl
                            exact Ev.to (L211 _ 0 (rfl) (by omega)) rfl rfl rfl
                      · rw [if_neg zlk0]
                        have zlk : ¬ (kd k = 2 ∧ bt aw k = 0) := fun q => zlk0 ⟨zkd1.mp q.1, q.2⟩
                        refine e_if_eq (pc := 191) (tgt := 296) dX8_comesAll_191 rfl (fun h191 => ?_) (fun h191 => ?_)
                        · skip
                          refine e_iinc (pc := 296) (lo' := [(2, 49), (0, (if anyK (isK kd aw (-1)) n then 1 else 0)), (0, (T : Int)), (0, (k : Int) + 1), (3, 0), (3, 0)]) dX8_comesAll_296 rfl (by omega) rfl (by decide) rfl ?_
                          refine e_goto (pc := 299) (tgt := 178) dX8_comesAll_299 rfl ?_
                          exact Ev.to (ih178 _ (by omega) (k + 1) (rfl) (by omega)) rfl rfl (by rw [mix_same (k := k) (by rw [mix_lt (by omega)]; exact (smE_keep (Or.inl (by rw [zek]; exact decide_eq_false zlk))).symm)])
                        · skip
                          exact absurd h191 (by decide)
                exact Ev.to (L178 _ 0 (rfl) (by omega)) rfl rfl (by rw [mix_0])
        exact Ev.to (L166 _ 0 (rfl) (by omega)) rfl rfl rfl
      · skip
        have zk8 : k < 8 := by omega
        have zck := (hI.cm zn1 zk8).mpr (by omega)
        obtain ⟨⟨zq0, zq1, zq2⟩, zq3, zq4, zq5, zq6, zq7⟩ := hM.1.2 k zk8 zck
        obtain ⟨zkd1, zkd2, zkd3, zkd4⟩ := hE.kd zk8
        have zkr := (zev.2 k zk8).1
        have zam := (zev.2 k zk8).2.1
        have ztm := zev.1.1
        have zlt := zev.1.2.2.2.1
        have zaw := zev.1.2.2.2.2
        have zdl := (hI.1 k zk8).2.2.2.2.1
        have zgb := hE.2.1.2.2
        have zb1 := bt_01 (mem 49 25) k
        have zb2 := bt_01 aw k
        have zb3 := bt_01 late k
        have C39 : ∀ (zg : Int), (zg = if kd k = 1 then 1 else 0) → Ev G mX8_comesAll Q_ 39 [(2, 49), (0, (if anyK (isK kd aw (-1)) k then 1 else 0)), (0, (k : Int)), (3, 0), (3, 0), (3, 0)] [(0, zg)] (rset mem 63 (mix (smE A tm kd am late aw 0) (mem 63) k)) := by
          intro zg zgi
          refine e_istoren (pc := 39) (lo' := [(2, 49), (0, (if anyK (isK kd aw (-1)) k then 1 else 0)), (0, (k : Int)), (0, zg), (3, 0), (3, 0)]) dX8_comesAll_39 rfl rfl (by decide) rfl ?_
          have C84 : ∀ (zv : Int), (zv = if kd k = 2 ∨ bt aw k = 1 then 60 else if kd k = 1 then tm 0 else am k) → Ev G mX8_comesAll Q_ 84 [(2, 49), (0, (if anyK (isK kd aw (-1)) k then 1 else 0)), (0, (k : Int)), (3, 0), (3, 0), (3, 0)] [(0, zv)] (rset mem 63 (mix (smE A tm kd am late aw 0) (mem 63) k)) := by
            intro zv zvi
            have C140 : Ev G mX8_comesAll Q_ 140 [(2, 49), (0, (if anyK (isK kd aw (-1)) k then 1 else 0)), (0, (k : Int)), (3, 0), (3, 0), (3, 0)] [] (rset mem 63 (mix (smE A tm kd am late aw 0) (mem 63) (k + 1))) := by
              refine e_iloadn (pc := 140) dX8_comesAll_140 rfl rfl ?_
              refine e_if_ne (pc := 141) (tgt := 152) dX8_comesAll_141 rfl (fun h141 => ?_) (fun h141 => ?_)
              · skip
                have zfl : anyK (isK kd aw (-1)) k = true := by cases zq : anyK (isK kd aw (-1)) k with
                  | true => rfl
                  | false => rw [zq] at h141; exact absurd rfl h141
                refine e_iconst (pc := 152) dX8_comesAll_152 (by decide) ?_
                refine e_goto (pc := 153) (tgt := 157) dX8_comesAll_153 rfl ?_
                refine e_istoren (pc := 157) (lo' := [(2, 49), (0, 1), (0, (k : Int)), (3, 0), (3, 0), (3, 0)]) dX8_comesAll_157 rfl rfl (by decide) rfl ?_
                refine e_iinc (pc := 158) (lo' := [(2, 49), (0, 1), (0, (k : Int) + 1), (3, 0), (3, 0), (3, 0)]) dX8_comesAll_158 rfl (by omega) rfl (by decide) rfl ?_
                refine e_goto (pc := 161) (tgt := 4) dX8_comesAll_161 rfl ?_
                have zak : anyK (isK kd aw (-1)) (k + 1) = true := by
                  show (anyK (isK kd aw (-1)) k || isK kd aw (-1) k) = _
                  first | (rw [show anyK (isK kd aw (-1)) k = true from zfl]; rfl) | (rw [zek, decide_eq_true zlk, Bool.or_true])
                exact Ev.to (ih4 _ (by omega) (k + 1) (rfl) (by omega)) (by rw [show anyK (isK kd aw (-1)) (k + 1) = true from zak]; rfl) rfl rfl
              · skip
                have zfl : anyK (isK kd aw (-1)) k = false := by cases zq : anyK (isK kd aw (-1)) k with
                  | false => rfl
                  | true => rw [zq] at h141; exact absurd h141 (by decide)
                refine e_aloadn (pc := 144) dX8_comesAll_144 rfl rfl ?_
                refine e_iloadn (pc := 145) dX8_comesAll_145 rfl rfl ?_
                refine e_callVr (pc := 146) (as := [(0, (k : Int))]) (st := []) (v := (0, if A 18 k = 2 ∧ bt aw k = 0 then 1 else 0)) (m_looks G A (rset mem 63 (mix (smE A tm kd am late aw 0) (mem 63) (k + 1))) k aw zk8 zck (hM.v ((Fr.rf (S := scV)).rs (fun _ => rfl))) hE.2.1.1 zaw) dX8_comesAll_146 lX8_comesAll_175 rfl s_49 cn_8 rfl rfl ?_
                by_cases zlk0 : A 18 k = 2 ∧ bt aw k = 0
                · rw [if_pos zlk0]
                  have zlk : kd k = 2 ∧ bt aw k = 0 := ⟨zkd1.mpr zlk0.1, zlk0.2⟩
                  refine e_if_eq (pc := 149) (tgt := 156) dX8_comesAll_149 rfl (fun h149 => ?_) (fun h149 => ?_)
                  · skip
                    exact absurd h149 (by decide)
                  · skip
                    refine e_iconst (pc := 152) dX8_comesAll_152 (by decide) ?_
                    refine e_goto (pc := 153) (tgt := 157) dX8_comesAll_153 rfl ?_
                    refine e_istoren (pc := 157) (lo' := [(2, 49), (0, 1), (0, (k : Int)), (3, 0), (3, 0), (3, 0)]) dX8_comesAll_157 rfl rfl (by decide) rfl ?_
                    refine e_iinc (pc := 158) (lo' := [(2, 49), (0, 1), (0, (k : Int) + 1), (3, 0), (3, 0), (3, 0)]) dX8_comesAll_158 rfl (by omega) rfl (by decide) rfl ?_
                    refine e_goto (pc := 161) (tgt := 4) dX8_comesAll_161 rfl ?_
                    have zak : anyK (isK kd aw (-1)) (k + 1) = true := by
                      show (anyK (isK kd aw (-1)) k || isK kd aw (-1) k) = _
                      first | (rw [show anyK (isK kd aw (-1)) k = true from zfl]; rfl) | (rw [zek, decide_eq_true zlk, Bool.or_true])
                    exact Ev.to (ih4 _ (by omega) (k + 1) (rfl) (by omega)) (by rw [show anyK (isK kd aw (-1)) (k + 1) = true from zak]; rfl) rfl rfl
                · rw [if_neg zlk0]
                  have zlk : ¬ (kd k = 2 ∧ bt aw k = 0) := fun q => zlk0 ⟨zkd1.mp q.1, q.2⟩
                  refine e_if_eq (pc := 149) (tgt := 156) dX8_comesAll_149 rfl (fun h149 => ?_) (fun h149 => ?_)
                  · skip
                    refine e_iconst (pc := 156) dX8_comesAll_156 (by decide) ?_
                    refine e_istoren (pc := 157) (lo' := [(2, 49), (0, 0), (0, (k : Int)), (3, 0), (3, 0), (3, 0)]) dX8_comesAll_157 rfl rfl (by decide) rfl ?_
                    refine e_iinc (pc := 158) (lo' := [(2, 49), (0, 0), (0, (k : Int) + 1), (3, 0), (3, 0), (3, 0)]) dX8_comesAll_158 rfl (by omega) rfl (by decide) rfl ?_
                    refine e_goto (pc := 161) (tgt := 4) dX8_comesAll_161 rfl ?_
                    have zak : anyK (isK kd aw (-1)) (k + 1) = false := by
                      show (anyK (isK kd aw (-1)) k || isK kd aw (-1) k) = _
                      rw [zek, decide_eq_false zlk, Bool.or_false]; exact zfl
                    exact Ev.to (ih4 _ (by omega) (k + 1) (rfl) (by omega)) (by rw [show anyK (isK kd aw (-1)) (k + 1) = false from zak]; rfl) rfl rfl
                  · skip
                    exact absurd h149 (by decide)
            refine e_istore (pc := 84) (lo' := [(2, 49), (0, (if anyK (isK kd aw (-1)) k then 1 else 0)), (0, (k : Int)), (3, 0), (0, zv), (3, 0)]) dX8_comesAll_84 rfl (by decide) rfl ?_
            have zvb : 0 ≤ zv ∧ zv ≤ 60 := by rw [zvi]; (repeat' split) <;> omega
            refine e_iload (pc := 86) dX8_comesAll_86 rfl ?_
            refine e_iload (pc := 88) dX8_comesAll_88 rfl ?_
            refine e_bipush (pc := 90) dX8_comesAll_90 rfl (by decide) ?_
            refine e_icmp_ge (pc := 92) (tgt := 116) dX8_comesAll_92 rfl (fun h92 => ?_) (fun h92 => ?_)
            · skip
              refine e_iconst (pc := 116) dX8_comesAll_116 (by decide) ?_
              have zx : 0 = if zv < 60 ∧ bt late k = 1 then A 9 k else 0 := by rw [if_neg (by omega)]
              refine e_iaddn (pc := 117) dX8_comesAll_117 (by omega) ?_
              refine e_istore (pc := 118) (lo' := [(2, 49), (0, (if anyK (isK kd aw (-1)) k then 1 else 0)), (0, (k : Int)), (3, 0), (0, zv + 0), (3, 0)]) dX8_comesAll_118 rfl (by decide) rfl ?_
              refine e_aloadn (pc := 120) dX8_comesAll_120 rfl rfl ?_
              refine e_getr (pc := 121) (k := 63) dX8_comesAll_121 fX8_50 s_49 rfl (by decide) ?_
              refine e_iloadn (pc := 124) dX8_comesAll_124 rfl rfl ?_
              refine e_iload (pc := 125) dX8_comesAll_125 rfl ?_
              refine e_bipush (pc := 127) dX8_comesAll_127 rfl (by decide) ?_
              refine e_icmp_le (pc := 129) (tgt := 137) dX8_comesAll_129 rfl (fun h129 => ?_) (fun h129 => ?_)
              · skip
                refine e_iload (pc := 137) dX8_comesAll_137 rfl ?_
                refine e_iastm (pc := 139) (mem2 := rset mem 63 (mix (smE A tm kd am late aw 0) (mem 63) (k + 1))) dX8_comesAll_139 s_63 (by omega) (by rw [← mix_s, show zv + 0 = smE A tm kd am late aw 0 k from by have z9 := cm0 hI.1 zev zk8 (by omega) zvi zx; rw [if_neg (by omega)] at z9; exact z9]; exact mset_rset _ _ _ _ _) ?_
                refine Ev.fgt [4] ?_
                exact Ev.to (C140  ) rfl rfl rfl
              · skip
                refine e_bipush (pc := 132) dX8_comesAll_132 rfl (by decide) ?_
                refine e_goto (pc := 134) (tgt := 139) dX8_comesAll_134 rfl ?_
                refine e_iastm (pc := 139) (mem2 := rset mem 63 (mix (smE A tm kd am late aw 0) (mem 63) (k + 1))) dX8_comesAll_139 s_63 (by omega) (by rw [← mix_s, show 60 = smE A tm kd am late aw 0 k from by have z9 := cm0 hI.1 zev zk8 (by omega) zvi zx; rw [if_pos (by omega)] at z9; exact z9]; exact mset_rset _ _ _ _ _) ?_
                refine Ev.fgt [4] ?_
                exact Ev.to (C140  ) rfl rfl rfl
            · skip
              refine e_aloadn (pc := 95) dX8_comesAll_95 rfl rfl ?_
              refine e_getiv (pc := 96) (v := late) dX8_comesAll_96 fX8_172 s_49 rfl (by decide) (hE.2.1.2.1) ?_
              refine e_iloadn (pc := 99) dX8_comesAll_99 rfl rfl ?_
              refine e_ishr (pc := 100) dX8_comesAll_100 ?_
              refine e_iconst (pc := 101) dX8_comesAll_101 (by decide) ?_
              refine e_iand (pc := 102) dX8_comesAll_102 ?_
              rw [show bAnd (bShr late (k : Int)) 1 = bt late k from bt_eq (by omega) (by omega) (by omega)]
              refine e_iconst (pc := 103) dX8_comesAll_103 (by decide) ?_
              refine e_icmp_ne (pc := 104) (tgt := 116) dX8_comesAll_104 rfl (fun h104 => ?_) (fun h104 => ?_)
              · skip
                refine e_iconst (pc := 116) dX8_comesAll_116 (by decide) ?_
                have zx : 0 = if zv < 60 ∧ bt late k = 1 then A 9 k else 0 := by rw [if_neg (by omega)]
                refine e_iaddn (pc := 117) dX8_comesAll_117 (by omega) ?_
                refine e_istore (pc := 118) (lo' := [(2, 49), (0, (if anyK (isK kd aw (-1)) k then 1 else 0)), (0, (k : Int)), (3, 0), (0, zv + 0), (3, 0)]) dX8_comesAll_118 rfl (by decide) rfl ?_
                refine e_aloadn (pc := 120) dX8_comesAll_120 rfl rfl ?_
                refine e_getr (pc := 121) (k := 63) dX8_comesAll_121 fX8_50 s_49 rfl (by decide) ?_
                refine e_iloadn (pc := 124) dX8_comesAll_124 rfl rfl ?_
                refine e_iload (pc := 125) dX8_comesAll_125 rfl ?_
                refine e_bipush (pc := 127) dX8_comesAll_127 rfl (by decide) ?_
                refine e_icmp_le (pc := 129) (tgt := 137) dX8_comesAll_129 rfl (fun h129 => ?_) (fun h129 => ?_)
                · skip
                  refine e_iload (pc := 137) dX8_comesAll_137 rfl ?_
                  refine e_iastm (pc := 139) (mem2 := rset mem 63 (mix (smE A tm kd am late aw 0) (mem 63) (k + 1))) dX8_comesAll_139 s_63 (by omega) (by rw [← mix_s, show zv + 0 = smE A tm kd am late aw 0 k from by have z9 := cm0 hI.1 zev zk8 (by omega) zvi zx; rw [if_neg (by omega)] at z9; exact z9]; exact mset_rset _ _ _ _ _) ?_
                  refine Ev.fgt [4] ?_
                  exact Ev.to (C140  ) rfl rfl rfl
                · skip
                  refine e_bipush (pc := 132) dX8_comesAll_132 rfl (by decide) ?_
                  refine e_goto (pc := 134) (tgt := 139) dX8_comesAll_134 rfl ?_
                  refine e_iastm (pc := 139) (mem2 := rset mem 63 (mix (smE A tm kd am late aw 0) (mem 63) (k + 1))) dX8_comesAll_139 s_63 (by omega) (by rw [← mix_s, show 60 = smE A tm kd am late aw 0 k from by have z9 := cm0 hI.1 zev zk8 (by omega) zvi zx; rw [if_pos (by omega)] at z9; exact z9]; exact mset_rset _ _ _ _ _) ?_
                  refine Ev.fgt [4] ?_
                  exact Ev.to (C140  ) rfl rfl rfl
              · skip
                refine e_aloadn (pc := 107) dX8_comesAll_107 rfl rfl ?_
                refine e_getr (pc := 108) (k := 57) dX8_comesAll_108 fX8_31 s_49 rfl (by decide) ?_
                refine e_iloadn (pc := 111) dX8_comesAll_111 rfl rfl ?_
                refine e_ialdv (pc := 112) (v := (A 9 k)) dX8_comesAll_112 s_57 (by omega) (zq7) ?_
                refine e_goto (pc := 113) (tgt := 117) dX8_comesAll_113 rfl ?_
                have zx : (A 9 k) = if zv < 60 ∧ bt late k = 1 then A 9 k else 0 := by rw [if_pos (by omega)]
                refine e_iaddn (pc := 117) dX8_comesAll_117 (by omega) ?_
                refine e_istore (pc := 118) (lo' := [(2, 49), (0, (if anyK (isK kd aw (-1)) k then 1 else 0)), (0, (k : Int)), (3, 0), (0, zv + (A 9 k)), (3, 0)]) dX8_comesAll_118 rfl (by decide) rfl ?_
                refine e_aloadn (pc := 120) dX8_comesAll_120 rfl rfl ?_
                refine e_getr (pc := 121) (k := 63) dX8_comesAll_121 fX8_50 s_49 rfl (by decide) ?_
                refine e_iloadn (pc := 124) dX8_comesAll_124 rfl rfl ?_
                refine e_iload (pc := 125) dX8_comesAll_125 rfl ?_
                refine e_bipush (pc := 127) dX8_comesAll_127 rfl (by decide) ?_
                refine e_icmp_le (pc := 129) (tgt := 137) dX8_comesAll_129 rfl (fun h129 => ?_) (fun h129 => ?_)
                · skip
                  refine e_iload (pc := 137) dX8_comesAll_137 rfl ?_
                  refine e_iastm (pc := 139) (mem2 := rset mem 63 (mix (smE A tm kd am late aw 0) (mem 63) (k + 1))) dX8_comesAll_139 s_63 (by omega) (by rw [← mix_s, show zv + (A 9 k) = smE A tm kd am late aw 0 k from by have z9 := cm0 hI.1 zev zk8 (by omega) zvi zx; rw [if_neg (by omega)] at z9; exact z9]; exact mset_rset _ _ _ _ _) ?_
                  refine Ev.fgt [4] ?_
                  exact Ev.to (C140  ) rfl rfl rfl
                · skip
                  refine e_bipush (pc := 132) dX8_comesAll_132 rfl (by decide) ?_
                  refine e_goto (pc := 134) (tgt := 139) dX8_comesAll_134 rfl ?_
                  refine e_iastm (pc := 139) (mem2 := rset mem 63 (mix (smE A tm kd am late aw 0) (mem 63) (k + 1))) dX8_comesAll_139 s_63 (by omega) (by rw [← mix_s, show 60 = smE A tm kd am late aw 0 k from by have z9 := cm0 hI.1 zev zk8 (by omega) zvi zx; rw [if_pos (by omega)] at z9; exact z9]; exact mset_rset _ _ _ _ _) ?_
                  refine Ev.fgt [4] ?_
                  exact Ev.to (C140  ) rfl rfl rfl
          refine e_aloadn (pc := 40) dX8_comesAll_40 rfl rfl ?_
          refine e_getr (pc := 41) (k := 50) dX8_comesAll_41 fX8_7 s_49 rfl (by decide) ?_
          refine e_iloadn (pc := 44) dX8_comesAll_44 rfl rfl ?_
          refine e_ialdv (pc := 45) (v := (A 18 k)) dX8_comesAll_45 s_50 (by omega) (zq0) ?_
          refine e_iconst (pc := 46) dX8_comesAll_46 (by decide) ?_
          refine e_icmp_eq (pc := 47) (tgt := 62) dX8_comesAll_47 rfl (fun h47 => ?_) (fun h47 => ?_)
          · skip
            refine e_bipush (pc := 62) dX8_comesAll_62 rfl (by decide) ?_
            refine e_goto (pc := 64) (tgt := 84) dX8_comesAll_64 rfl ?_
            refine Ev.fgt [3] ?_
            exact Ev.to (C84 60 (by rw [if_pos (by omega)])) rfl rfl rfl
          · skip
            refine e_aloadn (pc := 50) dX8_comesAll_50 rfl rfl ?_
            refine e_getiv (pc := 51) (v := aw) dX8_comesAll_51 fX8_169 s_49 rfl (by decide) (hE.2.1.1) ?_
            refine e_iloadn (pc := 54) dX8_comesAll_54 rfl rfl ?_
            refine e_ishr (pc := 55) dX8_comesAll_55 ?_
            refine e_iconst (pc := 56) dX8_comesAll_56 (by decide) ?_
            refine e_iand (pc := 57) dX8_comesAll_57 ?_
            rw [show bAnd (bShr aw (k : Int)) 1 = bt aw k from bt_eq (by omega) (by omega) (by omega)]
            refine e_iconst (pc := 58) dX8_comesAll_58 (by decide) ?_
            refine e_icmp_ne (pc := 59) (tgt := 67) dX8_comesAll_59 rfl (fun h59 => ?_) (fun h59 => ?_)
            · skip
              refine e_iloadn (pc := 67) dX8_comesAll_67 rfl rfl ?_
              refine e_if_eq (pc := 68) (tgt := 78) dX8_comesAll_68 rfl (fun h68 => ?_) (fun h68 => ?_)
              · skip
                have zg1 : ¬ kd k = 1 := fun q => by rw [zgi, if_pos q] at h68; omega
                refine e_aloadn (pc := 78) dX8_comesAll_78 rfl rfl ?_
                refine e_getr (pc := 79) (k := 62) dX8_comesAll_79 fX8_47 s_49 rfl (by decide) ?_
                refine e_iloadn (pc := 82) dX8_comesAll_82 rfl rfl ?_
                refine e_ialdv (pc := 83) (v := (am k)) dX8_comesAll_83 s_62 (by omega) (hE.2.2.2.1 k zk8 (by omega)) ?_
                refine Ev.fgt [3] ?_
                exact Ev.to (C84 (am k) (by rw [if_neg (by omega), if_neg zg1])) rfl rfl rfl
              · skip
                have zg1 : kd k = 1 := Classical.byContradiction (fun q => h68 (by rw [zgi, if_neg q]))
                refine e_aloadn (pc := 71) dX8_comesAll_71 rfl rfl ?_
                refine e_getiv (pc := 72) (v := (tm 0)) dX8_comesAll_72 fX8_157 s_49 rfl (by decide) (hE.1.1) ?_
                refine e_goto (pc := 75) (tgt := 84) dX8_comesAll_75 rfl ?_
                refine Ev.fgt [3] ?_
                exact Ev.to (C84 (tm 0) (by rw [if_neg (by omega), if_pos zg1])) rfl rfl rfl
            · skip
              refine e_bipush (pc := 62) dX8_comesAll_62 rfl (by decide) ?_
              refine e_goto (pc := 64) (tgt := 84) dX8_comesAll_64 rfl ?_
              refine Ev.fgt [3] ?_
              exact Ev.to (C84 60 (by rw [if_pos (by omega)])) rfl rfl rfl
        refine e_aloadn (pc := 12) dX8_comesAll_12 rfl rfl ?_
        refine e_getr (pc := 13) (k := 50) dX8_comesAll_13 fX8_7 s_49 rfl (by decide) ?_
        refine e_iloadn (pc := 16) dX8_comesAll_16 rfl rfl ?_
        refine e_ialdv (pc := 17) (v := (A 18 k)) dX8_comesAll_17 s_50 (by omega) (zq0) ?_
        refine e_iconst (pc := 18) dX8_comesAll_18 (by decide) ?_
        refine e_icmp_eq (pc := 19) (tgt := 34) dX8_comesAll_19 rfl (fun h19 => ?_) (fun h19 => ?_)
        · skip
          refine e_iconst (pc := 34) dX8_comesAll_34 (by decide) ?_
          refine e_goto (pc := 35) (tgt := 39) dX8_comesAll_35 rfl ?_
          exact Ev.to (C39 1 (by rw [if_pos (by omega)])) rfl rfl rfl
        · skip
          refine e_aloadn (pc := 22) dX8_comesAll_22 rfl rfl ?_
          refine e_getiv (pc := 23) (v := (mem 49 25)) dX8_comesAll_23 fX8_166 s_49 rfl (by decide) (rfl) ?_
          refine e_iloadn (pc := 26) dX8_comesAll_26 rfl rfl ?_
          refine e_ishr (pc := 27) dX8_comesAll_27 ?_
          refine e_iconst (pc := 28) dX8_comesAll_28 (by decide) ?_
          refine e_iand (pc := 29) dX8_comesAll_29 ?_
          rw [show bAnd (bShr (mem 49 25) (k : Int)) 1 = bt (mem 49 25) k from bt_eq (by omega) (by omega) (by omega)]
          refine e_iconst (pc := 30) dX8_comesAll_30 (by decide) ?_
          refine e_icmp_ne (pc := 31) (tgt := 38) dX8_comesAll_31 rfl (fun h31 => ?_) (fun h31 => ?_)
          · skip
            refine e_iconst (pc := 38) dX8_comesAll_38 (by decide) ?_
            exact Ev.to (C39 0 (by rw [if_neg (by omega)])) rfl rfl rfl
          · skip
            refine e_iconst (pc := 34) dX8_comesAll_34 (by decide) ?_
            refine e_goto (pc := 35) (tgt := 39) dX8_comesAll_35 rfl ?_
            exact Ev.to (C39 1 (by rw [if_pos (by omega)])) rfl rfl rfl
  exact Ev.to (L4 _ 0 (rfl) (by omega)) rfl rfl (by rw [mix_0, rset_self])
