theorem ins_ok2 {f : Nat → Int} {n p : Nat} {x : Int} (hs : Srt f n) (hp : p ≤ n) (h1 : ∀ j, j < p → f j ≤ x) (h2 : ∀ j, p ≤ j → j < n → x < f j) : Srt (ins f n p x) (n + 1) ∧ ∀ t, cnO (ins f n p x) (n + 1) t = cnO f n t + if x ≤ t then 1 else 0 := by
  have v1 : ∀ j, j < p → ins f n p x j = f j := fun j hj => by
    unfold ins; rw [uset_ne _ _ (by omega)]; unfold shf; rw [if_neg (by omega)]
  have v2 : ins f n p x p = x := by unfold ins; rw [uset_eq]
  have v3 : ∀ j, p < j → j ≤ n → ins f n p x j = f (j - 1) := fun j hj hj2 => by
    unfold ins; rw [uset_ne _ _ (by omega)]; unfold shf; rw [if_pos ⟨hj, hj2⟩]
  refine ⟨?_, ?_⟩
  · intro i j hij hj
    rcases Nat.lt_trichotomy j p with q | q | q
    · rw [v1 i (by omega), v1 j q]; exact hs i j hij (by omega)
    · subst q; rw [v1 i hij, v2]; exact h1 i hij
    · rw [v3 j q (by omega)]
      rcases Nat.lt_trichotomy i p with r | r | r
      · rw [v1 i r]
        rcases Nat.lt_or_ge i (j - 1) with z | z
        · exact hs i (j - 1) z (by omega)
        · rw [show i = j - 1 by omega]; exact Int.le_refl _
      · subst r; rw [v2]; have := h2 (j - 1) (by omega) (by omega); omega
      · rw [v3 i r (by omega)]; exact hs (i - 1) (j - 1) (by omega) (by omega)
  · intro t
    unfold cnO
    obtain ⟨r, rfl⟩ : ∃ r, n = p + r := ⟨n - p, by omega⟩
    rw [show p + r + 1 = p + (1 + r) by omega, cnt_split, cnt_split, cnt_split (fun j => decide (f j ≤ t)) p r]
    have e1 : cnt (fun j => decide (ins f (p + r) p x j ≤ t)) p = cnt (fun j => decide (f j ≤ t)) p := cnt_congr (fun j hj => by rw [v1 j hj])
    have e2 : cnt (fun k => decide (ins f (p + r) p x (p + k) ≤ t)) 1 = if x ≤ t then 1 else 0 := by simp [cnt, v2]
    have e3 : cnt (fun k => decide (ins f (p + r) p x (p + (1 + k)) ≤ t)) r = cnt (fun k => decide (f (p + k) ≤ t)) r := cnt_congr (fun k hk => by rw [v3 _ (by omega) (by omega), show p + (1 + k) - 1 = p + k by omega])
    rw [e1, e2, e3]; omega
theorem ins_bd {f : Nat → Int} {n p : Nat} {x : Int} (hp : p ≤ n) (hr : ∀ j, j < n → 0 ≤ f j ∧ f j ≤ 60) (hx : 0 ≤ x ∧ x ≤ 60) : ∀ j, j < n + 1 → 0 ≤ ins f n p x j ∧ ins f n p x j ≤ 60 := fun j hj => by
  unfold ins uset
  by_cases q : j = p
  · rw [if_pos q]; exact hx
  · rw [if_neg q]
    unfold shf
    by_cases z : p < j ∧ j ≤ n
    · rw [if_pos z]; exact hr (j - 1) (by omega)
    · rw [if_neg z]; exact hr j (by omega)
theorem cnO_s (f : Nat → Int) (k : Nat) (t : Int) : cnO f (k + 1) t = cnO f k t + if f k ≤ t then 1 else 0 := by
  unfold cnO
  rw [cnt_s]
  by_cases q : f k ≤ t
  · rw [if_pos q, if_pos (decide_eq_true q)]
  · rw [if_neg q, if_neg (by simpa using q)]
/-- conditions reckoned up to k -/
def BI (le nu be : Nat → Int) (told : Int) (wh : Nat → Int) (K k : Nat) (la bg : Int) : Prop := (0 ≤ la ∧ la ≤ 60) ∧ (0 ≤ bg ∧ bg ≤ 60) ∧ ∀ t, 0 ≤ t → t < 60 → ((0 < k → (la ≤ t ↔ (csP le nu be told wh t k).2)) ∧ (bg ≤ t ↔ (csP le nu be told wh t k).1 ∨ (0 < k ∧ (k = K ∨ be k = 1) ∧ (csP le nu be told wh t k).2)))
theorem BI.step {le nu be : Nat → Int} {told : Int} {wh : Nat → Int} {K k : Nat} {la bg x la' bg' : Int} (h : BI le nu be told wh K k la bg) (hk : k < K) (h0 : be 0 = 1) (hx : 0 ≤ x ∧ x ≤ 60) (hxt : ∀ t, 0 ≤ t → t < 60 → (x ≤ t ↔ hold told wh t (le k) (nu k))) (hla : la' = if be k = 1 ∨ la < x then x else la) (hbg : bg' = if (k + 1 = K ∨ be (k + 1) = 1) ∧ la' < bg then la' else bg) : BI le nu be told wh K (k + 1) la' bg' := by
  obtain ⟨b1, b2, b3⟩ := h
  have hlb : 0 ≤ la' ∧ la' ≤ 60 := by rw [hla]; split <;> omega
  refine ⟨hlb, by rw [hbg]; split <;> omega, fun t t0 t1 => ?_⟩
  obtain ⟨c1, c2⟩ := b3 t t0 t1
  have hx1 := hxt t t0 t1
  rw [csP_s]
  have key : la' ≤ t ↔ (if be k = 1 then ((csP le nu be told wh t k).1 ∨ (0 < k ∧ (csP le nu be told wh t k).2), hold told wh t (le k) (nu k)) else ((csP le nu be told wh t k).1, (csP le nu be told wh t k).2 ∧ hold told wh t (le k) (nu k))).2 := by
    by_cases q : be k = 1
    · rw [if_pos q, hla, if_pos (Or.inl q)]; exact hx1
    · have hk0 : 0 < k := by
        rcases Nat.eq_zero_or_pos k with z | z
        · rw [z] at q; exact absurd h0 q
        · exact z
      rw [if_neg q]
      show _ ↔ (csP le nu be told wh t k).2 ∧ hold told wh t (le k) (nu k)
      rw [← c1 hk0, ← hx1, hla]
      by_cases z : la < x
      · rw [if_pos (Or.inr z)]; omega
      · rw [if_neg (by omega)]; omega
  have key2 : bg ≤ t ↔ (if be k = 1 then ((csP le nu be told wh t k).1 ∨ (0 < k ∧ (csP le nu be told wh t k).2), hold told wh t (le k) (nu k)) else ((csP le nu be told wh t k).1, (csP le nu be told wh t k).2 ∧ hold told wh t (le k) (nu k))).1 := by
    rw [c2]
    by_cases q : be k = 1
    · rw [if_pos q]
      show _ ↔ _ ∨ _
      constructor
      · rintro (z | ⟨z1, _, z2⟩)
        · exact Or.inl z
        · exact Or.inr ⟨z1, z2⟩
      · rintro (z | ⟨z1, z2⟩)
        · exact Or.inl z
        · exact Or.inr ⟨z1, Or.inr q, z2⟩
    · rw [if_neg q]
      constructor
      · rintro (z | ⟨_, z1 | z1, _⟩)
        · exact z
        · omega
        · exact absurd z1 q
      · exact fun z => Or.inl z
  refine ⟨fun _ => key, ?_⟩
  rw [← key, ← key2, hbg]
  by_cases q : k + 1 = K ∨ be (k + 1) = 1
  · by_cases z : la' < bg
    · rw [if_pos ⟨q, z⟩]
      constructor
      · exact fun y => Or.inr ⟨by omega, q, y⟩
      · rintro (y | ⟨_, _, y⟩) <;> omega
    · rw [if_neg (fun y => z y.2)]
      constructor
      · exact fun y => Or.inl y
      · rintro (y | ⟨_, _, y⟩) <;> omega
  · rw [if_neg (fun y => q y.1)]
    constructor
    · exact fun y => Or.inl y
    · rintro (y | ⟨_, y, _⟩)
      · exact y
      · exact absurd y q
theorem BI.zero (le nu be : Nat → Int) (told : Int) (wh : Nat → Int) (K : Nat) : BI le nu be told wh K 0 0 60 := by
  refine ⟨by omega, by omega, fun t t0 t1 => ⟨fun h => absurd h (by decide), ?_⟩⟩
  constructor
  · intro h; omega
  · rintro (h | ⟨h, _⟩)
    · exact h.elim
    · exact absurd h (by decide)
theorem wh_no {A : Mem} {tm kd am : Nat → Int} {late aw : Int} (hC : CoOk A) (hE : EvR tm kd am late aw (A 2) (A 3)) {c : Nat} (hc : c < 8) (hk : kd c = -1) : whT A tm kd am late aw c = 60 := by
  rw [← smE_wh hC hE hc]
  show sim _ _ _ _ 60 c = 60
  rw [sim_own (by unfold isK; rw [hk]; simp)]
  unfold fmR
  rw [if_neg (by unfold isF; rw [hk]; simp)]
theorem cnO_n8 {wh row : Nat → Int} {n : Nat} (hn : n ≤ 8) (h1 : ∀ c, c < n → row c = wh c) (h2 : ∀ c, c < 8 → n ≤ c → wh c = 60) {t : Int} (ht : t < 60) : cnO row n t = cnO wh 8 t := by
  rw [cnO_congr (g := row) (f := wh) h1]
  unfold cnO
  obtain ⟨r, hr⟩ : ∃ r, 8 = n + r := ⟨8 - n, by omega⟩
  rw [hr, cnt_split, cnt_none (n := r)]
  · rfl
  · intro j hj
    rw [h2 (n + j) (by omega) (by omega)]; simp; omega
def scN2 (c j : Nat) : Bool := c == 64 || (c == 49 && j == 30)

theorem m_beginsNow (G : Gm) (A mem : Mem) (tm kd am : Nat → Int) (late aw : Int) (hI : CI A) (hM : MI A mem) (hE : ME A mem tm kd am late aw) (hW : ∀ c, c < 8 → A 18 c ≠ -1 → mem 63 c = whT A tm kd am late aw c) (hRd : mem 49 14 = 1) (hF : A 10 1 = -1) : Con G mX8_beginsNow [(2, 49)] mem (fun r m' => r = none ∧ Fr scN2 mem m' ∧ m' 49 30 = stT A tm kd am late aw) := by
  refine Con.of (lo := [(2, 49), (3, 0), (3, 0), (3, 0), (3, 0), (3, 0)]) (by decide +kernel) (Nat.le_of_ble_eq_true rfl) rfl ?_
  generalize hQ_ : (fun r m' => r = none ∧ Fr scN2 mem m' ∧ m' 49 30 = stT A tm kd am late aw : Option AV → Mem → Prop) = Q_
  obtain ⟨n, zn1, zn2, zn9⟩ := hI.2.2.2.2.1
  have zn3 := hM.1.1.trans zn1
  have zev := hE.2.2.2.2
  have zwb := whT_bd hI.1 zev
  have zwn : ∀ c, c < 8 → n ≤ c → whT A tm kd am late aw c = 60 := fun c hc hq => wh_no hI.1 zev hc ((hE.kd hc).2.1.mpr ((zn9 c hc).1.mpr hq))
  clear zn9
  have zwr : ∀ c, c < n → mem 63 c = whT A tm kd am late aw c := fun c hc => hW c (by omega) ((hI.cm zn1 (by omega)).mpr hc)
  obtain ⟨L, zL1, zL2, zL3, zL4, zL5, zL6⟩ := hI.2.2.2.1
  have zLn : (A 10 0).toNat = L := by omega
  obtain ⟨zp1, zp2⟩ := hM.2.2.2.2.2 hRd
  rw [zLn] at zp1 zp2
  rw [zL5] at hF
  obtain ⟨K, zK1, zK2, zK3, zK4, zK5, zK6⟩ := zp2 hF
  refine e_iconst (pc := 0) dX8_beginsNow_0 (by decide) ?_
  refine e_istoren (pc := 1) (lo' := [(2, 49), (0, 0), (3, 0), (3, 0), (3, 0), (3, 0)]) dX8_beginsNow_1 rfl rfl (by decide) rfl ?_
  have L2 : ∀ (n_ : Nat) (k : Nat) (f : Nat → Int), 8 - k = n_ → (k ≤ n) → (Srt f k) → (∀ t, cnO f k t = cnO (mem 63) k t) → (∀ j, j < k → 0 ≤ f j ∧ f j ≤ 60) → Ev G mX8_beginsNow Q_ 2 [(2, 49), (0, (k : Int)), (3, 0), (3, 0), (3, 0), (3, 0)] [] (rset mem 64 f) := by
    intro n_
    induction n_ using Nat.strongRecOn with
    | ind n_ ih2 =>
      intro k f hn_ zk zs zc zr
      refine e_iloadn (pc := 2) dX8_beginsNow_2 rfl rfl ?_
      refine e_aloadn (pc := 3) dX8_beginsNow_3 rfl rfl ?_
      refine e_getiv (pc := 4) (v := (n : Int)) dX8_beginsNow_4 fX8_99 s_49 rfl (by decide) (zn3) ?_
      refine e_icmp_ge (pc := 7) (tgt := 71) dX8_beginsNow_7 rfl (fun h7 => ?_) (fun h7 => ?_)
      · skip
        have zkn : k = n := by omega
        rw [zkn] at zs zc zr
        have zcn : ∀ t, t < 60 → cnO f n t = cnO (whT A tm kd am late aw) 8 t := fun t ht => (zc t).trans (cnO_n8 zn2 zwr zwn ht)
        refine e_aloadn (pc := 71) dX8_beginsNow_71 rfl rfl ?_
        refine e_bipush (pc := 72) dX8_beginsNow_72 rfl (by decide) ?_
        refine e_putI (pc := 74) (mem2 := mset (rset mem 64 f) 49 30 60) dX8_beginsNow_74 fX8_178 s_49 rfl (by decide) pw_8_30 rfl ?_
        refine e_iconst (pc := 77) dX8_beginsNow_77 (by decide) ?_
        refine e_istoren (pc := 78) (lo' := [(2, 49), (0, 0), (3, 0), (3, 0), (3, 0), (3, 0)]) dX8_beginsNow_78 rfl rfl (by decide) rfl ?_
        refine e_iconst (pc := 79) dX8_beginsNow_79 (by decide) ?_
        refine e_istoren (pc := 80) (lo' := [(2, 49), (0, 0), (0, 0), (3, 0), (3, 0), (3, 0)]) dX8_beginsNow_80 rfl rfl (by decide) rfl ?_
        have L81 : ∀ (n_ : Nat) (q : Nat) (la : Int) (bg : Int), 40 - q = n_ → (q ≤ K) → (BI (mem 59) (mem 60) (mem 61) (tm 0) (whT A tm kd am late aw) K q la bg) → Ev G mX8_beginsNow Q_ 81 [(2, 49), (0, la), (0, (q : Int)), (3, 0), (3, 0), (3, 0)] [] (mset (rset mem 64 f) 49 30 bg) := by
          intro n_
          induction n_ using Nat.strongRecOn with
          | ind n_ ih81 =>
            intro q la bg hn_ zq zB
            refine e_iloadn (pc := 81) dX8_beginsNow_81 rfl rfl ?_
            refine e_aloadn (pc := 82) dX8_beginsNow_82 rfl rfl ?_
            refine e_getiv (pc := 83) (v := (K : Int)) dX8_beginsNow_83 fX8_143 s_49 rfl (by decide) (zK1) ?_
            refine e_icmp_ge (pc := 86) (tgt := 266) dX8_beginsNow_86 rfl (fun h86 => ?_) (fun h86 => ?_)
            · skip
              have zqe : q = K := by omega
              rw [zqe] at zB
              have zst : bg = stT A tm kd am late aw := by
                refine (begF_eq ⟨zB.2.1, fun t h0 h1 => ?_⟩).symm
                show bg ≤ t ↔ RB A (tm 0) (whT A tm kd am late aw) t
                rw [(zB.2.2 t h0 h1).2, zL6 (tm 0) (whT A tm kd am late aw) t h0, zK6 (tm 0) (whT A tm kd am late aw) t h0]
                constructor
                · rintro (z | ⟨_, _, z⟩)
                  · exact Or.inl z
                  · exact Or.inr z
                · rintro (z | z)
                  · exact Or.inl z
                  · exact Or.inr ⟨by omega, Or.inl rfl, z⟩
              exact e_vret (pc := 266) dX8_beginsNow_266 rfl (by rw [← hQ_]; exact ⟨rfl, (Fr.rf.rs (fun _ => rfl)).ms rfl, zst⟩)
            · skip
              have zqK : q < K := by omega
              obtain ⟨zbq, zcd⟩ := zK5 q zqK
              unfold cdOk at zcd
              have C183 : ∀ (zw : Int), ((0 ≤ zw ∧ zw ≤ 60) ∧ ∀ t, 0 ≤ t → t < 60 → (zw ≤ t ↔ hold (tm 0) (whT A tm kd am late aw) t (mem 59 q) (mem 60 q))) → Ev G mX8_beginsNow Q_ 183 [(2, 49), (0, la), (0, (q : Int)), (3, 0), (3, 0), (3, 0)] [(0, zw)] (mset (rset mem 64 f) 49 30 bg) := by
                intro zw zxw
                refine e_istore (pc := 183) (lo' := [(2, 49), (0, la), (0, (q : Int)), (3, 0), (0, zw), (3, 0)]) dX8_beginsNow_183 rfl (by decide) rfl ?_
                have C206 : ∀ (zl : Int), (zl = if mem 61 q = 1 ∨ la < zw then zw else la) → Ev G mX8_beginsNow Q_ 206 [(2, 49), (0, la), (0, (q : Int)), (3, 0), (0, zw), (3, 0)] [(0, zl)] (mset (rset mem 64 f) 49 30 bg) := by
                  intro zl zli
                  refine e_istoren (pc := 206) (lo' := [(2, 49), (0, zl), (0, (q : Int)), (3, 0), (0, zw), (3, 0)]) dX8_beginsNow_206 rfl rfl (by decide) rfl ?_
                  have C233 : ∀ (ze : Int), (ze = if q + 1 = K ∨ mem 61 (q + 1) = 1 then 1 else 0) → Ev G mX8_beginsNow Q_ 233 [(2, 49), (0, zl), (0, (q : Int)), (3, 0), (3, 0), (3, 0)] [(0, ze)] (mset (rset mem 64 f) 49 30 bg) := by
                    intro ze zei
                    refine e_istore (pc := 233) (lo' := [(2, 49), (0, zl), (0, (q : Int)), (3, 0), (3, 0), (0, ze)]) dX8_beginsNow_233 rfl (by decide) rfl ?_
                    refine e_aloadn (pc := 235) dX8_beginsNow_235 rfl rfl ?_
                    refine e_iload (pc := 236) dX8_beginsNow_236 rfl ?_
                    refine e_if_eq (pc := 238) (tgt := 253) dX8_beginsNow_238 rfl (fun h238 => ?_) (fun h238 => ?_)
                    · skip
                      refine e_aloadn (pc := 253) dX8_beginsNow_253 rfl rfl ?_
                      refine e_getiv (pc := 254) (v := bg) dX8_beginsNow_254 fX8_178 s_49 rfl (by decide) (rfl) ?_
                      refine e_putI (pc := 257) (mem2 := mset (mset (rset mem 64 f) 49 30 bg) 49 30 bg) dX8_beginsNow_257 fX8_178 s_49 rfl (by decide) pw_8_30 rfl ?_
                      refine e_iinc (pc := 260) (lo' := [(2, 49), (0, zl), (0, (q : Int) + 1), (3, 0), (3, 0), (0, ze)]) dX8_beginsNow_260 rfl (by omega) rfl (by decide) rfl ?_
                      refine e_goto (pc := 263) (tgt := 81) dX8_beginsNow_263 rfl ?_
                      refine Ev.fgt [5] ?_
                      exact Ev.to (ih81 _ (by omega) (q + 1) zl bg (rfl) (by omega) (zB.step zqK zK4 zxw.1 zxw.2 zli (by rw [if_neg (fun z => by rw [if_pos z.1] at zei; omega)]))) rfl rfl (by rw [mset_mset])
                    · skip
                      have zen : q + 1 = K ∨ mem 61 (q + 1) = 1 := Classical.byContradiction (fun z => h238 (by rw [zei, if_neg z]))
                      refine e_iloadn (pc := 241) dX8_beginsNow_241 rfl rfl ?_
                      refine e_aloadn (pc := 242) dX8_beginsNow_242 rfl rfl ?_
                      refine e_getiv (pc := 243) (v := bg) dX8_beginsNow_243 fX8_178 s_49 rfl (by decide) (rfl) ?_
                      refine e_icmp_ge (pc := 246) (tgt := 253) dX8_beginsNow_246 rfl (fun h246 => ?_) (fun h246 => ?_)
                      · skip
                        refine e_aloadn (pc := 253) dX8_beginsNow_253 rfl rfl ?_
                        refine e_getiv (pc := 254) (v := bg) dX8_beginsNow_254 fX8_178 s_49 rfl (by decide) (rfl) ?_
                        refine e_putI (pc := 257) (mem2 := mset (mset (rset mem 64 f) 49 30 bg) 49 30 bg) dX8_beginsNow_257 fX8_178 s_49 rfl (by decide) pw_8_30 rfl ?_
                        refine e_iinc (pc := 260) (lo' := [(2, 49), (0, zl), (0, (q : Int) + 1), (3, 0), (3, 0), (0, ze)]) dX8_beginsNow_260 rfl (by omega) rfl (by decide) rfl ?_
                        refine e_goto (pc := 263) (tgt := 81) dX8_beginsNow_263 rfl ?_
                        refine Ev.fgt [5] ?_
                        exact Ev.to (ih81 _ (by omega) (q + 1) zl bg (rfl) (by omega) (zB.step zqK zK4 zxw.1 zxw.2 zli (by rw [if_neg (fun z => by omega)]))) rfl rfl (by rw [mset_mset])
                      · skip
                        refine e_iloadn (pc := 249) dX8_beginsNow_249 rfl rfl ?_
                        refine e_goto (pc := 250) (tgt := 257) dX8_beginsNow_250 rfl ?_
                        refine e_putI (pc := 257) (mem2 := mset (mset (rset mem 64 f) 49 30 bg) 49 30 zl) dX8_beginsNow_257 fX8_178 s_49 rfl (by decide) pw_8_30 rfl ?_
                        refine e_iinc (pc := 260) (lo' := [(2, 49), (0, zl), (0, (q : Int) + 1), (3, 0), (3, 0), (0, ze)]) dX8_beginsNow_260 rfl (by omega) rfl (by decide) rfl ?_
                        refine e_goto (pc := 263) (tgt := 81) dX8_beginsNow_263 rfl ?_
                        refine Ev.fgt [5] ?_
                        exact Ev.to (ih81 _ (by omega) (q + 1) zl zl (rfl) (by omega) (zB.step zqK zK4 zxw.1 zxw.2 zli (by rw [if_pos ⟨zen, h246⟩]))) rfl rfl (mset_mset _ _ _ _ _)
                  refine e_iloadn (pc := 207) dX8_beginsNow_207 rfl rfl ?_
                  refine e_aloadn (pc := 208) dX8_beginsNow_208 rfl rfl ?_
                  refine e_getiv (pc := 209) (v := (K : Int)) dX8_beginsNow_209 fX8_143 s_49 rfl (by decide) (zK1) ?_
                  refine e_iconst (pc := 212) dX8_beginsNow_212 (by decide) ?_
                  refine e_isubn (pc := 213) dX8_beginsNow_213 (by omega) ?_
                  refine e_icmp_eq (pc := 214) (tgt := 228) dX8_beginsNow_214 rfl (fun h214 => ?_) (fun h214 => ?_)
                  · skip
                    refine e_iconst (pc := 228) dX8_beginsNow_228 (by decide) ?_
                    refine e_goto (pc := 229) (tgt := 233) dX8_beginsNow_229 rfl ?_
                    refine Ev.fgt [4] ?_
                    exact Ev.to (C233 1 (by rw [if_pos (by omega)])) rfl rfl rfl
                  · skip
                    have zbn := (zK5 (q + 1) (by omega)).1
                    refine e_aloadn (pc := 217) dX8_beginsNow_217 rfl rfl ?_
                    refine e_getr (pc := 218) (k := 61) dX8_beginsNow_218 fX8_43 s_49 rfl (by decide) ?_
                    refine e_iloadn (pc := 221) dX8_beginsNow_221 rfl rfl ?_
                    refine e_iconst (pc := 222) dX8_beginsNow_222 (by decide) ?_
                    refine e_iaddn (pc := 223) dX8_beginsNow_223 (by omega) ?_
                    refine e_zaldv (pc := 224) (v := (mem 61 (q + 1))) dX8_beginsNow_224 s_61 (by omega) (by rw [show ((q : Int) + 1).toNat = q + 1 by omega]; rfl) ?_
                    refine e_if_eq (pc := 225) (tgt := 232) dX8_beginsNow_225 rfl (fun h225 => ?_) (fun h225 => ?_)
                    · skip
                      refine e_iconst (pc := 232) dX8_beginsNow_232 (by decide) ?_
                      refine Ev.fgt [4] ?_
                      exact Ev.to (C233 0 (by rw [if_neg (by omega)])) rfl rfl rfl
                    · skip
                      refine e_iconst (pc := 228) dX8_beginsNow_228 (by decide) ?_
                      refine e_goto (pc := 229) (tgt := 233) dX8_beginsNow_229 rfl ?_
                      refine Ev.fgt [4] ?_
                      exact Ev.to (C233 1 (by rw [if_pos (by omega)])) rfl rfl rfl
                refine e_aloadn (pc := 185) dX8_beginsNow_185 rfl rfl ?_
                refine e_getr (pc := 186) (k := 61) dX8_beginsNow_186 fX8_43 s_49 rfl (by decide) ?_
                refine e_iloadn (pc := 189) dX8_beginsNow_189 rfl rfl ?_
                refine e_zaldv (pc := 190) (v := (mem 61 q)) dX8_beginsNow_190 s_61 (by omega) (rfl) ?_
                refine e_if_ne (pc := 191) (tgt := 200) dX8_beginsNow_191 rfl (fun h191 => ?_) (fun h191 => ?_)
                · skip
                  refine e_iload (pc := 200) dX8_beginsNow_200 rfl ?_
                  refine e_goto (pc := 202) (tgt := 206) dX8_beginsNow_202 rfl ?_
                  exact Ev.to (C206 zw (by rw [if_pos (by omega)])) rfl rfl rfl
                · skip
                  refine e_iload (pc := 194) dX8_beginsNow_194 rfl ?_
                  refine e_iloadn (pc := 196) dX8_beginsNow_196 rfl rfl ?_
                  refine e_icmp_le (pc := 197) (tgt := 205) dX8_beginsNow_197 rfl (fun h197 => ?_) (fun h197 => ?_)
                  · skip
                    refine e_iloadn (pc := 205) dX8_beginsNow_205 rfl rfl ?_
                    exact Ev.to (C206 la (by rw [if_neg (by omega)])) rfl rfl rfl
                  · skip
                    refine e_iload (pc := 200) dX8_beginsNow_200 rfl ?_
                    refine e_goto (pc := 202) (tgt := 206) dX8_beginsNow_202 rfl ?_
                    exact Ev.to (C206 zw (by rw [if_pos (by omega)])) rfl rfl rfl
              refine e_aloadn (pc := 89) dX8_beginsNow_89 rfl rfl ?_
              refine e_getr (pc := 90) (k := 60) dX8_beginsNow_90 fX8_40 s_49 rfl (by decide) ?_
              refine e_iloadn (pc := 93) dX8_beginsNow_93 rfl rfl ?_
              refine e_ialdv (pc := 94) (v := (mem 60 q)) dX8_beginsNow_94 s_60 (by omega) (rfl) ?_
              refine e_istoren (pc := 95) (lo' := [(2, 49), (0, la), (0, (q : Int)), (0, (mem 60 q)), (3, 0), (3, 0)]) dX8_beginsNow_95 rfl rfl (by decide) rfl ?_
              refine e_aloadn (pc := 96) dX8_beginsNow_96 rfl rfl ?_
              refine e_getr (pc := 97) (k := 59) dX8_beginsNow_97 fX8_37 s_49 rfl (by decide) ?_
              refine e_iloadn (pc := 100) dX8_beginsNow_100 rfl rfl ?_
              refine e_ialdv (pc := 101) (v := (mem 59 q)) dX8_beginsNow_101 s_59 (by omega) (rfl) ?_
              refine e_bipush (pc := 102) dX8_beginsNow_102 rfl (by decide) ?_
              refine e_icmp_ne (pc := 104) (tgt := 111) dX8_beginsNow_104 rfl (fun h104 => ?_) (fun h104 => ?_)
              · skip
                refine e_aloadn (pc := 111) dX8_beginsNow_111 rfl rfl ?_
                refine e_getr (pc := 112) (k := 59) dX8_beginsNow_112 fX8_37 s_49 rfl (by decide) ?_
                refine e_iloadn (pc := 115) dX8_beginsNow_115 rfl rfl ?_
                refine e_ialdv (pc := 116) (v := (mem 59 q)) dX8_beginsNow_116 s_59 (by omega) (rfl) ?_
                refine e_bipush (pc := 117) dX8_beginsNow_117 rfl (by decide) ?_
                refine e_icmp_ne (pc := 119) (tgt := 129) dX8_beginsNow_119 rfl (fun h119 => ?_) (fun h119 => ?_)
                · skip
                  refine e_aloadn (pc := 129) dX8_beginsNow_129 rfl rfl ?_
                  refine e_getr (pc := 130) (k := 59) dX8_beginsNow_130 fX8_37 s_49 rfl (by decide) ?_
                  refine e_iloadn (pc := 133) dX8_beginsNow_133 rfl rfl ?_
                  refine e_ialdv (pc := 134) (v := (mem 59 q)) dX8_beginsNow_134 s_59 (by omega) (rfl) ?_
                  refine e_bipush (pc := 135) dX8_beginsNow_135 rfl (by decide) ?_
                  refine e_icmp_ne (pc := 137) (tgt := 164) dX8_beginsNow_137 rfl (fun h137 => ?_) (fun h137 => ?_)
                  · skip
                    have z107 : mem 59 q = 107 := by omega
                    refine e_iloadn (pc := 164) dX8_beginsNow_164 rfl rfl ?_
                    refine e_aloadn (pc := 165) dX8_beginsNow_165 rfl rfl ?_
                    refine e_getiv (pc := 166) (v := (n : Int)) dX8_beginsNow_166 fX8_99 s_49 rfl (by decide) (zn3) ?_
                    refine e_icmp_ge (pc := 169) (tgt := 181) dX8_beginsNow_169 rfl (fun h169 => ?_) (fun h169 => ?_)
                    · skip
                      refine e_bipush (pc := 181) dX8_beginsNow_181 rfl (by decide) ?_
                      refine Ev.fgt [3] ?_
                      exact Ev.to (C183 60 (⟨by omega, fun t _ _ => by rw [z107, hold_k, zwn _ (by omega) (by omega)]⟩)) rfl rfl rfl
                    · skip
                      refine e_aloadn (pc := 172) dX8_beginsNow_172 rfl rfl ?_
                      refine e_getr (pc := 173) (k := 63) dX8_beginsNow_173 fX8_50 s_49 rfl (by decide) ?_
                      refine e_iloadn (pc := 176) dX8_beginsNow_176 rfl rfl ?_
                      refine e_ialdv (pc := 177) (v := (whT A tm kd am late aw (mem 60 q).toNat)) dX8_beginsNow_177 s_63 (by omega) (by show mem 63 (mem 60 q).toNat = _; exact zwr _ (by omega)) ?_
                      refine e_goto (pc := 178) (tgt := 183) dX8_beginsNow_178 rfl ?_
                      refine Ev.fgt [3] ?_
                      exact Ev.to (C183 (whT A tm kd am late aw (mem 60 q).toNat) (⟨zwb _ (by omega), fun t _ _ => by rw [z107]; exact (hold_k _ _ _ _).symm⟩)) rfl rfl rfl
                  · skip
                    refine e_iloadn (pc := 140) dX8_beginsNow_140 rfl rfl ?_
                    refine e_aloadn (pc := 141) dX8_beginsNow_141 rfl rfl ?_
                    refine e_getiv (pc := 142) (v := (n : Int)) dX8_beginsNow_142 fX8_99 s_49 rfl (by decide) (zn3) ?_
                    refine e_icmp_gt (pc := 145) (tgt := 159) dX8_beginsNow_145 rfl (fun h145 => ?_) (fun h145 => ?_)
                    · skip
                      refine e_bipush (pc := 159) dX8_beginsNow_159 rfl (by decide) ?_
                      refine e_goto (pc := 161) (tgt := 183) dX8_beginsNow_161 rfl ?_
                      refine Ev.fgt [3] ?_
                      exact Ev.to (C183 60 (⟨by omega, fun t _ h1 => by rw [h137, hold_n, ← zcn t h1]; have z9 : cnO f n t ≤ n := cnt_le _ _; omega⟩)) rfl rfl rfl
                    · skip
                      refine e_aloadn (pc := 148) dX8_beginsNow_148 rfl rfl ?_
                      refine e_getr (pc := 149) (k := 64) dX8_beginsNow_149 fX8_53 s_49 rfl (by decide) ?_
                      refine e_iloadn (pc := 152) dX8_beginsNow_152 rfl rfl ?_
                      refine e_iconst (pc := 153) dX8_beginsNow_153 (by decide) ?_
                      refine e_isubn (pc := 154) dX8_beginsNow_154 (by omega) ?_
                      refine e_ialdv (pc := 155) (v := (f (mem 60 q - 1).toNat)) dX8_beginsNow_155 s_64 (by omega) (rfl) ?_
                      refine e_goto (pc := 156) (tgt := 183) dX8_beginsNow_156 rfl ?_
                      refine Ev.fgt [3] ?_
                      exact Ev.to (C183 (f (mem 60 q - 1).toNat) (⟨zr _ (by omega), fun t _ h1 => by rw [h137, hold_n, srt_cnt zs (by omega), zcn t h1]; omega⟩)) rfl rfl rfl
                · skip
                  refine e_aloadn (pc := 122) dX8_beginsNow_122 rfl rfl ?_
                  refine e_getiv (pc := 123) (v := (tm 0)) dX8_beginsNow_123 fX8_157 s_49 rfl (by decide) (hE.1.1) ?_
                  refine e_goto (pc := 126) (tgt := 183) dX8_beginsNow_126 rfl ?_
                  refine Ev.fgt [3] ?_
                  exact Ev.to (C183 (tm 0) (⟨by have := zev.1.1; omega, fun t _ _ => by rw [h119]; exact (hold_t _ _ _ _).symm⟩)) rfl rfl rfl
              · skip
                refine e_iloadn (pc := 107) dX8_beginsNow_107 rfl rfl ?_
                refine e_goto (pc := 108) (tgt := 183) dX8_beginsNow_108 rfl ?_
                refine Ev.fgt [3] ?_
                exact Ev.to (C183 (mem 60 q) (⟨by omega, fun t _ _ => by rw [h104]; exact (hold_m _ _ _ _).symm⟩)) rfl rfl rfl
        exact Ev.to (L81 _ 0 0 60 (rfl) (by omega) (BI.zero _ _ _ _ _ _)) rfl rfl rfl
      · skip
        have zx : 0 ≤ mem 63 k ∧ mem 63 k ≤ 60 := by rw [zwr k (by omega)]; exact zwb k (by omega)
        refine e_iloadn (pc := 10) dX8_beginsNow_10 rfl rfl ?_
        refine e_istoren (pc := 11) (lo' := [(2, 49), (0, (k : Int)), (0, (k : Int)), (3, 0), (3, 0), (3, 0)]) dX8_beginsNow_11 rfl rfl (by decide) rfl ?_
        have L12 : ∀ (n_ : Nat) (p : Nat), p = n_ → (p ≤ k) → (∀ j, p ≤ j → j < k → mem 63 k < f j) → Ev G mX8_beginsNow Q_ 12 [(2, 49), (0, (k : Int)), (0, (p : Int)), (3, 0), (3, 0), (3, 0)] [] (rset mem 64 (shf f k p)) := by
          intro n_
          induction n_ using Nat.strongRecOn with
          | ind n_ ih12 =>
            intro p hn_ zp zh
            refine e_iloadn (pc := 12) dX8_beginsNow_12 rfl rfl ?_
            refine e_if_le (pc := 13) (tgt := 53) dX8_beginsNow_13 rfl (fun h13 => ?_) (fun h13 => ?_)
            · skip
              have zlt : ∀ j, j < p → f j ≤ mem 63 k := fun j hj => by omega
              have zi := ins_ok2 (f := f) (n := k) (p := p) (x := mem 63 k) zs zp zlt zh
              refine e_aloadn (pc := 53) dX8_beginsNow_53 rfl rfl ?_
              refine e_getr (pc := 54) (k := 64) dX8_beginsNow_54 fX8_53 s_49 rfl (by decide) ?_
              refine e_iloadn (pc := 57) dX8_beginsNow_57 rfl rfl ?_
              refine e_aloadn (pc := 58) dX8_beginsNow_58 rfl rfl ?_
              refine e_getr (pc := 59) (k := 63) dX8_beginsNow_59 fX8_50 s_49 rfl (by decide) ?_
              refine e_iloadn (pc := 62) dX8_beginsNow_62 rfl rfl ?_
              refine e_ialdv (pc := 63) (v := (mem 63 k)) dX8_beginsNow_63 s_63 (by omega) (rfl) ?_
              refine e_iastm (pc := 64) (mem2 := mset (rset mem 64 (shf f k p)) 64 p (mem 63 k)) dX8_beginsNow_64 s_64 (by omega) rfl ?_
              refine e_iinc (pc := 65) (lo' := [(2, 49), (0, (k : Int) + 1), (0, (p : Int)), (3, 0), (3, 0), (3, 0)]) dX8_beginsNow_65 rfl (by omega) rfl (by decide) rfl ?_
              refine e_goto (pc := 68) (tgt := 2) dX8_beginsNow_68 rfl ?_
              refine Ev.fgt [2] ?_
              exact Ev.to (ih2 _ (by omega) (k + 1) (ins f k p (mem 63 k)) (rfl) (by omega) (zi.1) (fun t => by rw [zi.2 t, zc t, cnO_s]) (ins_bd zp zr zx)) rfl rfl (mset_rset _ _ _ _ _)
            · skip
              refine e_aloadn (pc := 16) dX8_beginsNow_16 rfl rfl ?_
              refine e_getr (pc := 17) (k := 64) dX8_beginsNow_17 fX8_53 s_49 rfl (by decide) ?_
              refine e_iloadn (pc := 20) dX8_beginsNow_20 rfl rfl ?_
              refine e_iconst (pc := 21) dX8_beginsNow_21 (by decide) ?_
              refine e_isubn (pc := 22) dX8_beginsNow_22 (by omega) ?_
              refine e_ialdv (pc := 23) (v := (f (p - 1))) dX8_beginsNow_23 s_64 (by omega) (by rw [show ((p : Int) - 1).toNat = p - 1 by omega]; show shf f k p (p - 1) = _; unfold shf; rw [if_neg (by omega)]) ?_
              refine e_aloadn (pc := 24) dX8_beginsNow_24 rfl rfl ?_
              refine e_getr (pc := 25) (k := 63) dX8_beginsNow_25 fX8_50 s_49 rfl (by decide) ?_
              refine e_iloadn (pc := 28) dX8_beginsNow_28 rfl rfl ?_
              refine e_ialdv (pc := 29) (v := (mem 63 k)) dX8_beginsNow_29 s_63 (by omega) (rfl) ?_
              refine e_icmp_le (pc := 30) (tgt := 53) dX8_beginsNow_30 rfl (fun h30 => ?_) (fun h30 => ?_)
              · skip
                have zlt : ∀ j, j < p → f j ≤ mem 63 k := fun j hj => by
                  rcases (show j = p - 1 ∨ j < p - 1 by omega) with z | z
                  · rw [z]; exact h30
                  · have := zs j (p - 1) z (by omega)
                    omega
                have zi := ins_ok2 (f := f) (n := k) (p := p) (x := mem 63 k) zs zp zlt zh
                refine e_aloadn (pc := 53) dX8_beginsNow_53 rfl rfl ?_
                refine e_getr (pc := 54) (k := 64) dX8_beginsNow_54 fX8_53 s_49 rfl (by decide) ?_
                refine e_iloadn (pc := 57) dX8_beginsNow_57 rfl rfl ?_
                refine e_aloadn (pc := 58) dX8_beginsNow_58 rfl rfl ?_
                refine e_getr (pc := 59) (k := 63) dX8_beginsNow_59 fX8_50 s_49 rfl (by decide) ?_
                refine e_iloadn (pc := 62) dX8_beginsNow_62 rfl rfl ?_
                refine e_ialdv (pc := 63) (v := (mem 63 k)) dX8_beginsNow_63 s_63 (by omega) (rfl) ?_
                refine e_iastm (pc := 64) (mem2 := mset (rset mem 64 (shf f k p)) 64 p (mem 63 k)) dX8_beginsNow_64 s_64 (by omega) rfl ?_
                refine e_iinc (pc := 65) (lo' := [(2, 49), (0, (k : Int) + 1), (0, (p : Int)), (3, 0), (3, 0), (3, 0)]) dX8_beginsNow_65 rfl (by omega) rfl (by decide) rfl ?_
                refine e_goto (pc := 68) (tgt := 2) dX8_beginsNow_68 rfl ?_
                refine Ev.fgt [2] ?_
                exact Ev.to (ih2 _ (by omega) (k + 1) (ins f k p (mem 63 k)) (rfl) (by omega) (zi.1) (fun t => by rw [zi.2 t, zc t, cnO_s]) (ins_bd zp zr zx)) rfl rfl (mset_rset _ _ _ _ _)
              · skip
                refine e_aloadn (pc := 33) dX8_beginsNow_33 rfl rfl ?_
                refine e_getr (pc := 34) (k := 64) dX8_beginsNow_34 fX8_53 s_49 rfl (by decide) ?_
                refine e_iloadn (pc := 37) dX8_beginsNow_37 rfl rfl ?_
                refine e_aloadn (pc := 38) dX8_beginsNow_38 rfl rfl ?_
                refine e_getr (pc := 39) (k := 64) dX8_beginsNow_39 fX8_53 s_49 rfl (by decide) ?_
                refine e_iloadn (pc := 42) dX8_beginsNow_42 rfl rfl ?_
                refine e_iconst (pc := 43) dX8_beginsNow_43 (by decide) ?_
                refine e_isubn (pc := 44) dX8_beginsNow_44 (by omega) ?_
                refine e_ialdv (pc := 45) (v := (f (p - 1))) dX8_beginsNow_45 s_64 (by omega) (by rw [show ((p : Int) - 1).toNat = p - 1 by omega]; show shf f k p (p - 1) = _; unfold shf; rw [if_neg (by omega)]) ?_
                refine e_iastm (pc := 46) (mem2 := mset (rset mem 64 (shf f k p)) 64 p (f (p - 1))) dX8_beginsNow_46 s_64 (by omega) rfl ?_
                refine e_iinc (pc := 47) (lo' := [(2, 49), (0, (k : Int)), (0, (p : Int) + (-1)), (3, 0), (3, 0), (3, 0)]) dX8_beginsNow_47 rfl (by omega) rfl (by decide) rfl ?_
                refine e_goto (pc := 50) (tgt := 12) dX8_beginsNow_50 rfl ?_
                have zme : mset (rset mem 64 (shf f k p)) 64 p (f (p - 1)) = rset mem 64 (shf f k (p - 1)) := by
                  have z1 := shf_s f k (p - 1) (by omega)
                  rw [show p - 1 + 1 = p by omega] at z1
                  rw [mset_rset, z1]
                have zh2 : ∀ j, p - 1 ≤ j → j < k → mem 63 k < f j := fun j h1 h2 => by
                  rcases (show j = p - 1 ∨ p ≤ j by omega) with z | z
                  · rw [z]; omega
                  · exact zh j z h2
                exact Ev.to (ih12 _ (by omega) (p - 1) (rfl) (by omega) (zh2)) (by rw [show (p : Int) + (-1) = ((p - 1 : Nat) : Int) by omega]) rfl (zme)
        exact Ev.to (L12 _ k (rfl) (Nat.le_refl _) (fun j h1 h2 => by omega)) rfl rfl (by rw [shf_n])
  exact Ev.to (L2 _ 0 (mem 64) (rfl) (by omega) (fun i j h1 h2 => by omega) (fun t => rfl) (fun j hj => by omega)) rfl rfl (by rw [rset_self])

def scO (c j : Nat) : Bool := c == 63 || c == 64 || c == 59 || c == 60 || c == 61 || (c == 49 && ((decide (14 ≤ j) && decide (j ≤ 17)) || j == 30))
theorem scAO {a b : Mem} (zf : Fr scA a b) : Fr scO a b := zf.mono (fun c j q => by unfold scO at q; unfold scA; simp at q ⊢; omega)
theorem scFO {a b : Mem} (zf : Fr scF a b) : Fr scO a b := zf.mono (fun c j q => by unfold scO at q; unfold scF; simp at q ⊢; omega)
theorem scNO {a b : Mem} (zf : Fr scN2 a b) : Fr scO a b := zf.mono (fun c j q => by unfold scO at q; unfold scN2; simp at q ⊢; omega)
theorem scAV {a b : Mem} (zf : Fr scA a b) : Fr scV a b := zf.mono (fun c j q => by unfold scV at q; unfold scA; simp at q ⊢; omega)
theorem scNV {a b : Mem} (zf : Fr scN2 a b) : Fr scV a b := zf.mono (fun c j q => by unfold scV at q; unfold scN2; simp at q ⊢; omega)
theorem ME.o {A zm zn : Mem} {tm kd am : Nat → Int} {late aw : Int} (h : ME A zm tm kd am late aw) (zf : Fr scO zm zn) : ME A zn tm kd am late aw := h.mv (fun j h1 h2 => zf 49 j (by unfold scO; simp; omega)) (funext (fun j => zf 62 j rfl))
/-- behind goes: when it begins, who comes when -/
def GO (A zm : Mem) (tm kd am : Nat → Int) (late aw : Int) : Prop := zm 49 30 = stT A tm kd am late aw ∧ ∀ c, c < 8 → A 18 c ≠ -1 → zm 63 c = whT A tm kd am late aw c

theorem m_goes (G : Gm) (A mem : Mem) (tm kd am : Nat → Int) (late aw : Int) (hI : CI A) (hM : MI A mem) (hE : ME A mem tm kd am late aw) : Con G mX8_goes [(2, 49)] mem (fun r m' => r = none ∧ MI A m' ∧ Fr scO mem m' ∧ GO A m' tm kd am late aw) := by
  refine Con.of (lo := [(2, 49)]) (by decide +kernel) (Nat.le_of_ble_eq_true rfl) rfl ?_
  generalize hQ_ : (fun r m' => r = none ∧ MI A m' ∧ Fr scO mem m' ∧ GO A m' tm kd am late aw : Option AV → Mem → Prop) = Q_
  refine e_aloadn (pc := 0) dX8_goes_0 rfl rfl ?_
  refine e_callV (pc := 1) (as := []) (st := []) (m_comesAll G A mem tm kd am late aw hI hM hE) dX8_goes_1 lX8_goes_181 rfl s_49 cn_8 rfl rfl (fun r_ zm1 hq_ => ?_)
  obtain ⟨zr_, zf1, zw1⟩ := hq_
  subst zr_
  have zM1 := hM.v (scAV zf1)
  have zE1 := hE.o (scAO zf1)
  refine Ev.to (st' := []) ?_ rfl rfl rfl
  refine e_aloadn (pc := 4) dX8_goes_4 rfl rfl ?_
  refine e_callV (pc := 5) (as := []) (st := []) (m_faultNow G A zm1 hI zM1) dX8_goes_5 lX8_goes_154 rfl s_49 cn_8 rfl rfl (fun r_ zm2 hq_ => ?_)
  obtain ⟨zr_, zM2, zrd, zf2⟩ := hq_
  subst zr_
  have zE2 := zE1.o (scFO zf2)
  have zw2 : ∀ c, c < 8 → A 18 c ≠ -1 → zm2 63 c = whT A tm kd am late aw c := fun c hc hq => (zf2 63 c rfl).trans (zw1 c hc hq)
  have zf3 : Fr scO mem zm2 := (scAO zf1).tr (scFO zf2)
  refine Ev.to (st' := [(0, A 10 1)]) ?_ rfl rfl rfl
  refine e_iconst (pc := 8) dX8_goes_8 (by decide) ?_
  refine e_icmp_ne (pc := 9) (tgt := 19) dX8_goes_9 rfl (fun h9 => ?_) (fun h9 => ?_)
  · skip
    refine e_aloadn (pc := 19) dX8_goes_19 rfl rfl ?_
    refine e_bipush (pc := 20) dX8_goes_20 rfl (by decide) ?_
    refine e_putI (pc := 22) (mem2 := mset zm2 49 30 60) dX8_goes_22 fX8_178 s_49 rfl (by decide) pw_8_30 rfl ?_
    have zst : stT A tm kd am late aw = 60 := by
      obtain ⟨L, zL1, zL2, zL3, zL4, zL5, zL6⟩ := hI.2.2.2.1
      refine begF_eq ⟨by omega, fun t h0 h1 => ?_⟩
      rw [zL6 (tm 0) _ t h0]
      constructor
      · intro z; omega
      · intro z
        exact absurd z (prs_fault 41 0 False True (by rw [← zL5]; exact h9))
    exact e_vret (pc := 25) dX8_goes_25 rfl (by rw [← hQ_]; exact ⟨rfl, zM2.v ((Fr.rf (S := scV)).ms rfl), zf3.ms rfl, zst.symm, zw2⟩)
  · skip
    refine e_aloadn (pc := 12) dX8_goes_12 rfl rfl ?_
    refine e_callV (pc := 13) (as := []) (st := []) (m_beginsNow G A zm2 tm kd am late aw hI zM2 zE2 zw2 zrd h9) dX8_goes_13 lX8_goes_184 rfl s_49 cn_8 rfl rfl (fun r_ zm3 hq_ => ?_)
    obtain ⟨zr_, zf4, zst⟩ := hq_
    subst zr_
    refine Ev.to (st' := []) ?_ rfl rfl rfl
    refine e_goto (pc := 16) (tgt := 25) dX8_goes_16 rfl ?_
    exact e_vret (pc := 25) dX8_goes_25 rfl (by rw [← hQ_]; exact ⟨rfl, zM2.v (scNV zf4), zf3.tr (scNO zf4), zst, fun c hc hq => (zf4 63 c rfl).trans (zw2 c hc hq)⟩)
