theorem frQ_rows {A B : Mem} (zf : Fr scQ A B) : B 17 = A 17 ∧ B 18 = A 18 ∧ B 19 = A 19 := ⟨funext (fun j => zf 17 j rfl), funext (fun j => zf 18 j rfl), funext (fun j => zf 19 j rfl)⟩
theorem tsQ {A B C : Mem} (hI : CI A) (zf : Fr scQ A B) (h : Becomes B C) : TS A (A 17) (A 18) C ∧ E8 (A 19) (C 28) := by
  obtain ⟨e1, e2, e3⟩ := frQ_rows zf
  have q := h.ts (hI.fr zf).2.1
  have q2 := h.am
  rw [e1, e2] at q
  rw [e3] at q2
  exact ⟨⟨zf.tr q.1, q.2⟩, q2⟩
theorem TS.tm {A zm : Mem} {tm kd : Nat → Int} (h : TS A tm kd zm) {k : Nat} {v : Int} (hk : k < 3) (hv : 0 ≤ v ∧ v ≤ if k = 0 then 59 else 99) : TS A (uset tm k v) kd (mset zm 26 k v) := by
  obtain ⟨h1, h2, h3, h4, h5⟩ := h
  have e : ∀ j, j < 3 → uset tm k v j = (mset zm 26 k v) 26 j := fun j hj => by
    rw [mset_row]; unfold uset
    by_cases q : j = k
    · rw [if_pos q, if_pos q]
    · rw [if_neg q, if_neg q]
      rcases (show j = 0 ∨ j = 1 ∨ j = 2 by omega) with rfl | rfl | rfl
      · exact h2.1
      · exact h2.2.1
      · exact h2.2.2
  refine ⟨h1.ms (by rfl), ⟨e 0 (by omega), e 1 (by omega), e 2 (by omega)⟩, h3, h4, ?_⟩
  have h6 : EvR (uset (zm 26) k v) (zm 27) (zm 28) (zm 25 4) (zm 25 5) (zm 2) (zm 3) := by
    refine ⟨?_, h5.2⟩
    obtain ⟨a1, a2, a3, a4, a5⟩ := h5.1
    unfold uset
    rcases (show k = 0 ∨ k = 1 ∨ k = 2 by omega) with rfl | rfl | rfl
    · exact ⟨by simpa using hv, a2, a3, a4, a5⟩
    · exact ⟨a1, by simpa using hv, a3, a4, a5⟩
    · exact ⟨a1, a2, by simpa using hv, a4, a5⟩
  unfold EvOk25
  rw [mset_row]
  exact h6
theorem mpR_8 {kd kd' : Nat → Int} {b : Int} (h : E8 kd kd') : E8 (mpR kd b 8) (mpR kd' b 8) := fun c hc => by
  unfold mpR
  by_cases q : c < 8 ∧ bt b c = 1
  · rw [if_pos q, if_pos q]
  · rw [if_neg q, if_neg q]; exact h c hc
theorem TS.mp {A zm : Mem} {tm kd : Nat → Int} (h : TS A tm kd zm) (b : Int) : TS A tm (mpR kd b 8) (rset zm 27 (mpR (zm 27) b 8)) := by
  obtain ⟨h1, h2, h3, h4, h5⟩ := h
  refine ⟨h1.rs (fun _ => rfl), h2, mpR_8 h3, h4, ?_⟩
  show EvR (zm 26) (mpR (zm 27) b 8) (zm 28) (zm 25 4) (zm 25 5) (zm 2) (zm 3)
  refine ⟨h5.1, fun c hc => ?_⟩
  have a := h5.2 c hc
  unfold mpR
  by_cases q : c < 8 ∧ bt b c = 1
  · rw [if_pos q]; exact ⟨by omega, a.2.1, fun z => by omega⟩
  · rw [if_neg q]; exact a
theorem stT_bd (A : Mem) (tm kd am : Nat → Int) (late aw : Int) : 0 ≤ stT A tm kd am late aw ∧ stT A tm kd am late aw ≤ 60 := begF_is.1
theorem t_reckAw (G : Gm) (A zm : Mem) (tm kd : Nat → Int) (aw : Int) (hw : 0 ≤ aw ∧ aw < 256) (hI : CI A) (hT : TS A tm kd zm) : Con G mX1_reckon [(2, 25)] (mset zm 25 5 aw) (fun r m' => r = some (0, stT A tm kd (zm 28) 0 aw) ∧ Fr scQ A m') := by
  have hS : SE A (mset zm 25 5 aw) := hT.se.tr (SE.of (S := fun c j => c == 25 && j == 5) ((Fr.rf).ms rfl) (fun c j h => by simp; omega))
  have hE : EvOk25 (mset zm 25 5 aw) := by
    show EvR (zm 26) (zm 27) (zm 28) (zm 25 4) aw (zm 2) (zm 3)
    exact ⟨⟨hT.2.2.2.2.1.1, hT.2.2.2.2.1.2.1, hT.2.2.2.2.1.2.2.1, hT.2.2.2.2.1.2.2.2.1, hw⟩, hT.2.2.2.2.2⟩
  refine (t_reckon_25 G _ (hS.co hI.1) hE (hS.ru hI.ru)).mono (fun r m' h => ?_)
  obtain ⟨h1, _, h3, _⟩ := h
  refine ⟨?_, (hT.1.ms (by rfl)).tr (scGQ25 h3)⟩
  rw [h1]
  have e := stT_cg (late := 0) (aw := aw) hS hT.2.1.1 hT.2.2.1 (EP.rf (a := zm 28))
  rw [← e]
  show some (0, stF (mset zm 25 5 aw) (zm 27) (zm 28) (zm 26 0) (zm 25 4) aw _ _ _) = _
  rw [hT.2.2.2.1.1]; rfl
theorem fromK_t {p : Nat → Bool} {N k : Nat} (h : p k = true) (hk : k < N) : fromK p (N - k) k = (k : Int) := by
  rw [show N - k = (N - k - 1) + 1 by omega]
  show (if p k then (k : Int) else _) = _
  rw [if_pos h]
theorem fromK_f {p : Nat → Bool} {N k : Nat} (h : p k = false) (hk : k < N) : fromK p (N - k) k = fromK p (N - (k + 1)) (k + 1) := by
  rw [show N - k = (N - (k + 1)) + 1 by omega]
  show (if p k then (k : Int) else _) = _
  rw [if_neg (by rw [h]; simp)]
theorem fromK_e {p : Nat → Bool} {N k : Nat} (hk : N ≤ k) : fromK p (N - k) k = -1 := by
  rw [show N - k = 0 by omega]; rfl
-- moved
noncomputable def mvSt (A : Mem) (k : Nat) : Int := match cliA A (uset (A 17) 0 (k : Int)) (A 18) false with
  | some x => stT A (uset (A 17) 0 (k : Int)) (A 18) x 0 0
  | none => 60
def amV (x : Int) : Int := if 0 ≤ x then x else -x
theorem abs_v {x : Int} (h : -60 ≤ x ∧ x ≤ 60) : (if 0 ≤ x then x else w32 (0 - x)) = amV x := by
  unfold amV
  by_cases q : 0 ≤ x
  · rw [if_pos q, if_pos q]
  · rw [if_neg q, if_neg q, w32_id (by constructor <;> omega)]; omega
noncomputable def mvF (A : Mem) (wish : Int) (k : Nat) : Int := amV (mvSt A k - wish)
def mvS (f : Nat → Int) : Nat → Int × Int
  | 0 => (0, 61)
  | k + 1 => if f k < (mvS f k).2 then ((k : Int), f k) else mvS f k
theorem mvS_t {f : Nat → Int} {k : Nat} (h : f k < (mvS f k).2) : mvS f (k + 1) = ((k : Int), f k) := by
  show (if f k < (mvS f k).2 then ((k : Int), f k) else mvS f k) = _
  rw [if_pos h]
theorem mvS_f {f : Nat → Int} {k : Nat} (h : ¬ f k < (mvS f k).2) : mvS f (k + 1) = mvS f k := by
  show (if f k < (mvS f k).2 then ((k : Int), f k) else mvS f k) = _
  rw [if_neg h]
noncomputable def an_moved (A : Mem) (wish : Int) : Int := if 0 ≤ wish ∧ wish < 60 then (mvS (mvF A wish) 60).1 else -2
noncomputable def lsP (A : Mem) (food : Bool) (k : Nat) : Bool := inT A (uset (A 17) (if food then 2 else 1) (k : Int)) (A 18)
noncomputable def an_least (A : Mem) (food : Bool) : Int := fromK (lsP A food) 41 0
noncomputable def kyP (A : Mem) (c : Nat) : Bool := decide (60 ≤ stT A (A 17) (A 18) (A 19) 0 ((2 ^ c : Nat) : Int))
noncomputable def an_keys (A : Mem) (wh : Int) : Int := if wh = 0 ∨ wh = 1 then (if 60 ≤ stA0 A then 0 else if wh = 0 then ((bitsTo (kyP A) 8 : Nat) : Int) else ((bitsTo (fun c => decide (whA0 A c = stA0 A)) 8 : Nat) : Int)) else -2
def plB (A : Mem) : Int := ((bitsTo (fun c => decide (A 18 c = 0)) 8 : Nat) : Int)
noncomputable def guP (A : Mem) (m b : Nat) : Bool := decide (cnt (fun j => b.testBit j) 8 = m ∧ bAnd (b : Int) (bXor (plB A) (-1)) = 0) && inT A (A 17) (mpR (A 18) (b : Int) 8)
def gq (p : Nat → Nat → Bool) : Nat → Nat → Int
  | 0, _ => -1
  | n + 1, m => if fromK (p m) 256 0 = -1 then gq p n (m + 1) else fromK (p m) 256 0
theorem gq_hit {p : Nat → Nat → Bool} {N m : Nat} {v : Int} (hm : m < N) (h : fromK (p m) 256 0 = v) (hv : v ≠ -1) : gq p (N - m) m = v := by
  rw [show N - m = (N - m - 1) + 1 by omega]
  show (if fromK (p m) 256 0 = -1 then _ else fromK (p m) 256 0) = _
  rw [h, if_neg hv]
theorem gq_next {p : Nat → Nat → Bool} {N m : Nat} (hm : m < N) (h : fromK (p m) 256 0 = -1) : gq p (N - m) m = gq p (N - (m + 1)) (m + 1) := by
  rw [show N - m = (N - (m + 1)) + 1 by omega]
  show (if fromK (p m) 256 0 = -1 then _ else fromK (p m) 256 0) = _
  rw [if_pos h]
theorem gq_e {p : Nat → Nat → Bool} {N m : Nat} (hk : N ≤ m) : gq p (N - m) m = -1 := by
  rw [show N - m = 0 by omega]; rfl
noncomputable def an_guests (A : Mem) : Int := gq (guP A) 4 0

theorem c_moved (G : Gm) (mem : Mem) (wish : Int) (hI : CI mem) : Con G mX7_moved [(2, 0), (0, wish)] mem (fun r m' => r = some (0, an_moved mem wish) ∧ Fr scQ mem m') := by
  refine Con.of (lo := [(2, 0), (0, wish), (3, 0), (3, 0), (3, 0), (3, 0), (3, 0)]) (by decide +kernel) (Nat.le_of_ble_eq_true rfl) rfl ?_
  generalize hQ_ : (fun r m' => r = some (0, an_moved mem wish) ∧ Fr scQ mem m' : Option AV → Mem → Prop) = Q_
  refine e_iloadn (pc := 0) dX7_moved_0 rfl rfl ?_
  refine e_if_lt (pc := 1) (tgt := 10) dX7_moved_1 rfl (fun h1 => ?_) (fun h1 => ?_)
  · skip
    refine e_bipush (pc := 10) dX7_moved_10 rfl (by decide) ?_
    have zan : an_moved mem wish = -2 := by unfold an_moved; rw [if_neg (by omega)]
    exact e_iret (pc := 12) dX7_moved_12 rfl (by rw [← hQ_]; exact ⟨by rw [zan], Fr.rf⟩)
  · skip
    refine e_iloadn (pc := 4) dX7_moved_4 rfl rfl ?_
    refine e_bipush (pc := 5) dX7_moved_5 rfl (by decide) ?_
    refine e_icmp_lt (pc := 7) (tgt := 13) dX7_moved_7 rfl (fun h7 => ?_) (fun h7 => ?_)
    · skip
      refine e_iconst (pc := 13) dX7_moved_13 (by decide) ?_
      refine e_istoren (pc := 14) (lo' := [(2, 0), (0, wish), (0, 0), (3, 0), (3, 0), (3, 0), (3, 0)]) dX7_moved_14 rfl rfl (by decide) rfl ?_
      refine e_bipush (pc := 15) dX7_moved_15 rfl (by decide) ?_
      refine e_istoren (pc := 17) (lo' := [(2, 0), (0, wish), (0, 0), (0, 61), (3, 0), (3, 0), (3, 0)]) dX7_moved_17 rfl rfl (by decide) rfl ?_
      refine e_iconst (pc := 18) dX7_moved_18 (by decide) ?_
      refine e_istore (pc := 19) (lo' := [(2, 0), (0, wish), (0, 0), (0, 61), (0, 0), (3, 0), (3, 0)]) dX7_moved_19 rfl (by decide) rfl ?_
      have L21 : ∀ (n_ : Nat) (k : Nat) (zmv : Mem), 60 - k = n_ → (k ≤ 60) → (Fr scQ mem zmv) → Ev G mX7_moved Q_ 21 [(2, 0), (0, wish), (0, (mvS (mvF mem wish) k).1), (0, (mvS (mvF mem wish) k).2), (0, (k : Int)), (3, 0), (3, 0)] [] zmv := by
        intro n_
        induction n_ using Nat.strongRecOn with
        | ind n_ ih21 =>
          intro k zmv hn_ zk zf
          refine e_iload (pc := 21) dX7_moved_21 rfl ?_
          refine e_bipush (pc := 23) dX7_moved_23 rfl (by decide) ?_
          refine e_icmp_ge (pc := 25) (tgt := 102) dX7_moved_25 rfl (fun h25 => ?_) (fun h25 => ?_)
          · skip
            refine e_iloadn (pc := 102) dX7_moved_102 rfl rfl ?_
            have zke : k = 60 := by omega
            subst zke
            have zan : an_moved mem wish = (mvS (mvF mem wish) 60).1 := by unfold an_moved; rw [if_pos (by omega)]
            exact e_iret (pc := 103) dX7_moved_103 rfl (by rw [← hQ_]; exact ⟨by rw [zan], zf⟩)
          · skip
            refine e_aloadn (pc := 28) dX7_moved_28 rfl rfl ?_
            refine e_getr (pc := 29) (k := 25) dX7_moved_29 fX7_32 s_0 rfl (by decide) ?_
            refine e_aloadn (pc := 32) dX7_moved_32 rfl rfl ?_
            refine e_getr (pc := 33) (k := 16) dX7_moved_33 fX7_28 s_0 rfl (by decide) ?_
            refine e_callV (pc := 36) (as := [(2, 16)]) (st := []) (t_becomes G zmv) dX7_moved_36 lX7_moved_163 rfl s_25 cn_1 rfl rfl (fun r_ zm1 hq_ => ?_)
            obtain ⟨zr_, zB⟩ := hq_
            subst zr_
            obtain ⟨zT0, z28⟩ := tsQ hI zf zB
            refine Ev.to (st' := []) ?_ rfl rfl rfl
            refine e_aloadn (pc := 39) dX7_moved_39 rfl rfl ?_
            refine e_getr (pc := 40) (k := 25) dX7_moved_40 fX7_32 s_0 rfl (by decide) ?_
            refine e_getr (pc := 43) (k := 26) dX7_moved_43 fX7_127 s_25 rfl (by decide) ?_
            refine e_iconst (pc := 46) dX7_moved_46 (by decide) ?_
            refine e_iload (pc := 47) dX7_moved_47 rfl ?_
            refine e_iastm (pc := 49) (mem2 := mset zm1 26 0 (k : Int)) dX7_moved_49 s_26 (by omega) rfl ?_
            refine e_aloadn (pc := 50) dX7_moved_50 rfl rfl ?_
            refine e_getr (pc := 51) (k := 25) dX7_moved_51 fX7_32 s_0 rfl (by decide) ?_
            refine e_iconst (pc := 54) dX7_moved_54 (by decide) ?_
            have zT1 := zT0.tm (k := 0) (v := (k : Int)) (by omega) (by rw [if_pos rfl]; omega)
            refine e_callV (pc := 55) (as := [(0, 0)]) (st := []) (t_climbsT G mem _ _ (mem 18) false 0 rfl hI zT1) dX7_moved_55 lX7_moved_166 rfl s_25 cn_1 rfl rfl (fun r_ zm2 hq_ => ?_)
            obtain ⟨zv, zr_, zT, zor⟩ := hq_
            subst zr_
            refine Ev.to (st' := [(0, zv)]) ?_ rfl rfl rfl
            rcases zor with ⟨rfl, zcl⟩ | ⟨rfl, x, zcl, zxe⟩
            · skip
              refine e_if_eq (pc := 58) (tgt := 71) dX7_moved_58 rfl (fun h58 => ?_) (fun h58 => ?_)
              · skip
                refine e_bipush (pc := 71) dX7_moved_71 rfl (by decide) ?_
                refine e_istore (pc := 73) (lo' := [(2, 0), (0, wish), (0, (mvS (mvF mem wish) k).1), (0, (mvS (mvF mem wish) k).2), (0, (k : Int)), (0, 60), (3, 0)]) dX7_moved_73 rfl (by decide) rfl ?_
                refine e_iload (pc := 75) dX7_moved_75 rfl ?_
                refine e_iloadn (pc := 77) dX7_moved_77 rfl rfl ?_
                refine e_isubn (pc := 78) dX7_moved_78 (by omega) ?_
                refine e_abs (pc := 79) dX7_moved_79 lX7_abs203 (by decide) rfl ?_
                rw [show (if 0 ≤ 60 - wish then 60 - wish else w32 (0 - (60 - wish))) = mvF mem wish k from by rw [abs_v (by omega)]; unfold mvF mvSt; rw [zcl]]
                refine e_istore (pc := 82) (lo' := [(2, 0), (0, wish), (0, (mvS (mvF mem wish) k).1), (0, (mvS (mvF mem wish) k).2), (0, (k : Int)), (0, 60), (0, mvF mem wish k)]) dX7_moved_82 rfl (by decide) rfl ?_
                refine e_iload (pc := 84) dX7_moved_84 rfl ?_
                refine e_iloadn (pc := 86) dX7_moved_86 rfl rfl ?_
                refine e_icmp_ge (pc := 87) (tgt := 96) dX7_moved_87 rfl (fun h87 => ?_) (fun h87 => ?_)
                · skip
                  refine e_iinc (pc := 96) (lo' := [(2, 0), (0, wish), (0, (mvS (mvF mem wish) k).1), (0, (mvS (mvF mem wish) k).2), (0, (k : Int) + 1), (0, 60), (0, mvF mem wish k)]) dX7_moved_96 rfl (by omega) rfl (by decide) rfl ?_
                  refine e_goto (pc := 99) (tgt := 21) dX7_moved_99 rfl ?_
                  have zfn := zT.1
                  refine Ev.fgt [5, 6] ?_
                  exact Ev.to (ih21 _ (by omega) (k + 1) zm2 (rfl) (by omega) (zfn)) (by rw [mvS_f (by omega)]; rfl) rfl rfl
                · skip
                  refine e_iload (pc := 90) dX7_moved_90 rfl ?_
                  refine e_istoren (pc := 92) (lo' := [(2, 0), (0, wish), (0, (mvS (mvF mem wish) k).1), (0, mvF mem wish k), (0, (k : Int)), (0, 60), (0, mvF mem wish k)]) dX7_moved_92 rfl rfl (by decide) rfl ?_
                  refine e_iload (pc := 93) dX7_moved_93 rfl ?_
                  refine e_istoren (pc := 95) (lo' := [(2, 0), (0, wish), (0, (k : Int)), (0, mvF mem wish k), (0, (k : Int)), (0, 60), (0, mvF mem wish k)]) dX7_moved_95 rfl rfl (by decide) rfl ?_
                  refine e_iinc (pc := 96) (lo' := [(2, 0), (0, wish), (0, (k : Int)), (0, mvF mem wish k), (0, (k : Int) + 1), (0, 60), (0, mvF mem wish k)]) dX7_moved_96 rfl (by omega) rfl (by decide) rfl ?_
                  refine e_goto (pc := 99) (tgt := 21) dX7_moved_99 rfl ?_
                  have zfn := zT.1
                  refine Ev.fgt [5, 6] ?_
                  exact Ev.to (ih21 _ (by omega) (k + 1) zm2 (rfl) (by omega) (zfn)) (by rw [mvS_t (by omega)]; rfl) rfl rfl
              · skip
                exact absurd h58 (by decide)
            · skip
              refine e_if_eq (pc := 58) (tgt := 71) dX7_moved_58 rfl (fun h58 => ?_) (fun h58 => ?_)
              · skip
                exact absurd h58 (by decide)
              · skip
                refine e_aloadn (pc := 61) dX7_moved_61 rfl rfl ?_
                refine e_getr (pc := 62) (k := 25) dX7_moved_62 fX7_32 s_0 rfl (by decide) ?_
                refine e_callV (pc := 65) (as := []) (st := []) (t_reckT G mem zm2 (uset (mem 17) 0 (k : Int)) (mem 18) hI zT) dX7_moved_65 lX7_moved_142 rfl s_25 cn_1 rfl rfl (fun r_ zm3 hq_ => ?_)
                rw [stT_ep zxe] at hq_
                obtain ⟨zr_, zT3, zf3⟩ := hq_
                subst zr_
                have zsb := stT_bd mem (uset (mem 17) 0 (k : Int)) (mem 18) x 0 0
                refine Ev.to (st' := [(0, stT mem (uset (mem 17) 0 (k : Int)) (mem 18) x 0 0)]) ?_ rfl rfl rfl
                refine e_goto (pc := 68) (tgt := 73) dX7_moved_68 rfl ?_
                refine e_istore (pc := 73) (lo' := [(2, 0), (0, wish), (0, (mvS (mvF mem wish) k).1), (0, (mvS (mvF mem wish) k).2), (0, (k : Int)), (0, stT mem (uset (mem 17) 0 (k : Int)) (mem 18) x 0 0), (3, 0)]) dX7_moved_73 rfl (by decide) rfl ?_
                refine e_iload (pc := 75) dX7_moved_75 rfl ?_
                refine e_iloadn (pc := 77) dX7_moved_77 rfl rfl ?_
                refine e_isubn (pc := 78) dX7_moved_78 (by omega) ?_
                refine e_abs (pc := 79) dX7_moved_79 lX7_abs203 (by decide) rfl ?_
                rw [show (if 0 ≤ (stT mem (uset (mem 17) 0 (k : Int)) (mem 18) x 0 0) - wish then (stT mem (uset (mem 17) 0 (k : Int)) (mem 18) x 0 0) - wish else w32 (0 - ((stT mem (uset (mem 17) 0 (k : Int)) (mem 18) x 0 0) - wish))) = mvF mem wish k from by rw [abs_v (by omega)]; unfold mvF mvSt; rw [zcl]]
                refine e_istore (pc := 82) (lo' := [(2, 0), (0, wish), (0, (mvS (mvF mem wish) k).1), (0, (mvS (mvF mem wish) k).2), (0, (k : Int)), (0, stT mem (uset (mem 17) 0 (k : Int)) (mem 18) x 0 0), (0, mvF mem wish k)]) dX7_moved_82 rfl (by decide) rfl ?_
                refine e_iload (pc := 84) dX7_moved_84 rfl ?_
                refine e_iloadn (pc := 86) dX7_moved_86 rfl rfl ?_
                refine e_icmp_ge (pc := 87) (tgt := 96) dX7_moved_87 rfl (fun h87 => ?_) (fun h87 => ?_)
                · skip
                  refine e_iinc (pc := 96) (lo' := [(2, 0), (0, wish), (0, (mvS (mvF mem wish) k).1), (0, (mvS (mvF mem wish) k).2), (0, (k : Int) + 1), (0, stT mem (uset (mem 17) 0 (k : Int)) (mem 18) x 0 0), (0, mvF mem wish k)]) dX7_moved_96 rfl (by omega) rfl (by decide) rfl ?_
                  refine e_goto (pc := 99) (tgt := 21) dX7_moved_99 rfl ?_
                  have zfn := zT3.1
                  refine Ev.fgt [5, 6] ?_
                  exact Ev.to (ih21 _ (by omega) (k + 1) zm3 (rfl) (by omega) (zfn)) (by rw [mvS_f (by omega)]; rfl) rfl rfl
                · skip
                  refine e_iload (pc := 90) dX7_moved_90 rfl ?_
                  refine e_istoren (pc := 92) (lo' := [(2, 0), (0, wish), (0, (mvS (mvF mem wish) k).1), (0, mvF mem wish k), (0, (k : Int)), (0, stT mem (uset (mem 17) 0 (k : Int)) (mem 18) x 0 0), (0, mvF mem wish k)]) dX7_moved_92 rfl rfl (by decide) rfl ?_
                  refine e_iload (pc := 93) dX7_moved_93 rfl ?_
                  refine e_istoren (pc := 95) (lo' := [(2, 0), (0, wish), (0, (k : Int)), (0, mvF mem wish k), (0, (k : Int)), (0, stT mem (uset (mem 17) 0 (k : Int)) (mem 18) x 0 0), (0, mvF mem wish k)]) dX7_moved_95 rfl rfl (by decide) rfl ?_
                  refine e_iinc (pc := 96) (lo' := [(2, 0), (0, wish), (0, (k : Int)), (0, mvF mem wish k), (0, (k : Int) + 1), (0, stT mem (uset (mem 17) 0 (k : Int)) (mem 18) x 0 0), (0, mvF mem wish k)]) dX7_moved_96 rfl (by omega) rfl (by decide) rfl ?_
                  refine e_goto (pc := 99) (tgt := 21) dX7_moved_99 rfl ?_
                  have zfn := zT3.1
                  refine Ev.fgt [5, 6] ?_
                  exact Ev.to (ih21 _ (by omega) (k + 1) zm3 (rfl) (by omega) (zfn)) (by rw [mvS_t (by omega)]; rfl) rfl rfl
      exact Ev.to (L21 _ 0 mem (rfl) (by omega) (Fr.rf)) rfl rfl rfl
    · skip
      refine e_bipush (pc := 10) dX7_moved_10 rfl (by decide) ?_
      have zan : an_moved mem wish = -2 := by unfold an_moved; rw [if_neg (by omega)]
      exact e_iret (pc := 12) dX7_moved_12 rfl (by rw [← hQ_]; exact ⟨by rw [zan], Fr.rf⟩)

theorem c_least (G : Gm) (mem : Mem) (food : Bool) (hI : CI mem) : Con G mX7_least [(2, 0), (0, (if food then 1 else 0))] mem (fun r m' => r = some (0, an_least mem food) ∧ Fr scQ mem m') := by
  refine Con.of (lo := [(2, 0), (0, (if food then 1 else 0)), (3, 0)]) (by decide +kernel) (Nat.le_of_ble_eq_true rfl) rfl ?_
  generalize hQ_ : (fun r m' => r = some (0, an_least mem food) ∧ Fr scQ mem m' : Option AV → Mem → Prop) = Q_
  refine e_iconst (pc := 0) dX7_least_0 (by decide) ?_
  refine e_istoren (pc := 1) (lo' := [(2, 0), (0, (if food then 1 else 0)), (0, 0)]) dX7_least_1 rfl rfl (by decide) rfl ?_
  have L2 : ∀ (n_ : Nat) (k : Nat) (zmv : Mem), 41 - k = n_ → (k ≤ 41) → (Fr scQ mem zmv) → (an_least mem food = fromK (lsP mem food) (41 - k) k) → Ev G mX7_least Q_ 2 [(2, 0), (0, (if food then 1 else 0)), (0, (k : Int))] [] zmv := by
    intro n_
    induction n_ using Nat.strongRecOn with
    | ind n_ ih2 =>
      intro k zmv hn_ zk zf zan
      refine e_iloadn (pc := 2) dX7_least_2 rfl rfl ?_
      refine e_bipush (pc := 3) dX7_least_3 rfl (by decide) ?_
      refine e_icmp_gt (pc := 5) (tgt := 52) dX7_least_5 rfl (fun h5 => ?_) (fun h5 => ?_)
      · skip
        refine e_iconst (pc := 52) dX7_least_52 (by decide) ?_
        rw [fromK_e (by omega)] at zan
        exact e_iret (pc := 53) dX7_least_53 rfl (by rw [← hQ_]; exact ⟨by rw [zan], zf⟩)
      · skip
        refine e_aloadn (pc := 8) dX7_least_8 rfl rfl ?_
        refine e_getr (pc := 9) (k := 25) dX7_least_9 fX7_32 s_0 rfl (by decide) ?_
        refine e_aloadn (pc := 12) dX7_least_12 rfl rfl ?_
        refine e_getr (pc := 13) (k := 16) dX7_least_13 fX7_28 s_0 rfl (by decide) ?_
        refine e_callV (pc := 16) (as := [(2, 16)]) (st := []) (t_becomes G zmv) dX7_least_16 lX7_least_163 rfl s_25 cn_1 rfl rfl (fun r_ zm1 hq_ => ?_)
        obtain ⟨zr_, zB⟩ := hq_
        subst zr_
        obtain ⟨zT0, z28⟩ := tsQ hI zf zB
        refine Ev.to (st' := []) ?_ rfl rfl rfl
        refine e_aloadn (pc := 19) dX7_least_19 rfl rfl ?_
        refine e_getr (pc := 20) (k := 25) dX7_least_20 fX7_32 s_0 rfl (by decide) ?_
        refine e_getr (pc := 23) (k := 26) dX7_least_23 fX7_127 s_25 rfl (by decide) ?_
        refine e_iloadn (pc := 26) dX7_least_26 rfl rfl ?_
        refine e_if_eq (pc := 27) (tgt := 34) dX7_least_27 rfl (fun h27 => ?_) (fun h27 => ?_)
        · skip
          have zfo : food = false := by cases food with
            | false => rfl
            | true => exact absurd h27 (by decide)
          refine e_iconst (pc := 34) dX7_least_34 (by decide) ?_
          refine e_iloadn (pc := 35) dX7_least_35 rfl rfl ?_
          refine e_iastm (pc := 36) (mem2 := mset zm1 26 1 (k : Int)) dX7_least_36 s_26 (by omega) rfl ?_
          refine e_aloadn (pc := 37) dX7_least_37 rfl rfl ?_
          have zT1 := zT0.tm (k := 1) (v := (k : Int)) (by omega) (by rw [if_neg (by omega)]; omega)
          have zls : inT mem (uset (mem 17) 1 (k : Int)) (mem 18) = lsP mem food k := by unfold lsP; rw [zfo]; rfl
          refine e_callV (pc := 38) (as := []) (st := []) (t_inTime G mem _ _ (mem 18) hI zT1) dX7_least_38 lX7_least_208 rfl s_0 cn_7 rfl rfl (fun r_ zm2 hq_ => ?_)
          rw [zls] at hq_
          obtain ⟨zr_, zf2⟩ := hq_
          subst zr_
          refine Ev.to (st' := [(0, if lsP mem food k = true then 1 else 0)]) ?_ rfl rfl rfl
          refine e_if_eq (pc := 41) (tgt := 46) dX7_least_41 rfl (fun h41 => ?_) (fun h41 => ?_)
          · skip
            refine e_iinc (pc := 46) (lo' := [(2, 0), (0, (if food then 1 else 0)), (0, (k : Int) + 1)]) dX7_least_46 rfl (by omega) rfl (by decide) rfl ?_
            refine e_goto (pc := 49) (tgt := 2) dX7_least_49 rfl ?_
            have zin : lsP mem food k = false := by cases zq : lsP mem food k with
              | false => rfl
              | true => rw [if_pos zq] at h41; omega
            exact Ev.to (ih2 _ (by omega) (k + 1) zm2 (rfl) (by omega) (zf2) (zan.trans (fromK_f zin (by omega)))) rfl rfl rfl
          · skip
            refine e_iloadn (pc := 44) dX7_least_44 rfl rfl ?_
            have zin : lsP mem food k = true := by cases zq : lsP mem food k with
              | true => rfl
              | false => rw [if_neg (by rw [zq]; simp)] at h41; omega
            rw [fromK_t zin (by omega)] at zan
            exact e_iret (pc := 45) dX7_least_45 rfl (by rw [← hQ_]; exact ⟨by rw [zan], zf2⟩)
        · skip
          have zfo : food = true := by cases food with
            | true => rfl
            | false => exact absurd rfl h27
          refine e_iconst (pc := 30) dX7_least_30 (by decide) ?_
          refine e_goto (pc := 31) (tgt := 35) dX7_least_31 rfl ?_
          refine e_iloadn (pc := 35) dX7_least_35 rfl rfl ?_
          refine e_iastm (pc := 36) (mem2 := mset zm1 26 2 (k : Int)) dX7_least_36 s_26 (by omega) rfl ?_
          refine e_aloadn (pc := 37) dX7_least_37 rfl rfl ?_
          have zT1 := zT0.tm (k := 2) (v := (k : Int)) (by omega) (by rw [if_neg (by omega)]; omega)
          have zls : inT mem (uset (mem 17) 2 (k : Int)) (mem 18) = lsP mem food k := by unfold lsP; rw [zfo]; rfl
          refine e_callV (pc := 38) (as := []) (st := []) (t_inTime G mem _ _ (mem 18) hI zT1) dX7_least_38 lX7_least_208 rfl s_0 cn_7 rfl rfl (fun r_ zm2 hq_ => ?_)
          rw [zls] at hq_
          obtain ⟨zr_, zf2⟩ := hq_
          subst zr_
          refine Ev.to (st' := [(0, if lsP mem food k = true then 1 else 0)]) ?_ rfl rfl rfl
          refine e_if_eq (pc := 41) (tgt := 46) dX7_least_41 rfl (fun h41 => ?_) (fun h41 => ?_)
          · skip
            refine e_iinc (pc := 46) (lo' := [(2, 0), (0, (if food then 1 else 0)), (0, (k : Int) + 1)]) dX7_least_46 rfl (by omega) rfl (by decide) rfl ?_
            refine e_goto (pc := 49) (tgt := 2) dX7_least_49 rfl ?_
            have zin : lsP mem food k = false := by cases zq : lsP mem food k with
              | false => rfl
              | true => rw [if_pos zq] at h41; omega
            exact Ev.to (ih2 _ (by omega) (k + 1) zm2 (rfl) (by omega) (zf2) (zan.trans (fromK_f zin (by omega)))) rfl rfl rfl
          · skip
            refine e_iloadn (pc := 44) dX7_least_44 rfl rfl ?_
            have zin : lsP mem food k = true := by cases zq : lsP mem food k with
              | true => rfl
              | false => rw [if_neg (by rw [zq]; simp)] at h41; omega
            rw [fromK_t zin (by omega)] at zan
            exact e_iret (pc := 45) dX7_least_45 rfl (by rw [← hQ_]; exact ⟨by rw [zan], zf2⟩)
  exact Ev.to (L2 _ 0 mem (rfl) (by omega) (Fr.rf) (rfl)) rfl rfl rfl

theorem t_keyBits (G : Gm) (mem : Mem) (hI : CI mem) : Con G mX7_keyBits [(2, 0)] mem (fun r m' => r = some (0, ((bitsTo (kyP mem) 8 : Nat) : Int)) ∧ Fr scQ mem m') := by
  refine Con.of (lo := [(2, 0), (3, 0), (3, 0)]) (by decide +kernel) (Nat.le_of_ble_eq_true rfl) rfl ?_
  generalize hQ_ : (fun r m' => r = some (0, ((bitsTo (kyP mem) 8 : Nat) : Int)) ∧ Fr scQ mem m' : Option AV → Mem → Prop) = Q_
  refine e_iconst (pc := 0) dX7_keyBits_0 (by decide) ?_
  refine e_istoren (pc := 1) (lo' := [(2, 0), (0, 0), (3, 0)]) dX7_keyBits_1 rfl rfl (by decide) rfl ?_
  refine e_iconst (pc := 2) dX7_keyBits_2 (by decide) ?_
  refine e_istoren (pc := 3) (lo' := [(2, 0), (0, 0), (0, 0)]) dX7_keyBits_3 rfl rfl (by decide) rfl ?_
  have L4 : ∀ (n_ : Nat) (k : Nat) (zmv : Mem), 8 - k = n_ → (k ≤ 8) → (Fr scQ mem zmv) → Ev G mX7_keyBits Q_ 4 [(2, 0), (0, ((bitsTo (kyP mem) k : Nat) : Int)), (0, (k : Int))] [] zmv := by
    intro n_
    induction n_ using Nat.strongRecOn with
    | ind n_ ih4 =>
      intro k zmv hn_ zk zf
      have hb := bitsTo_lt (kyP mem) k
      have hb2 : 2 ^ k ≤ 2 ^ 8 := Nat.pow_le_pow_right (by decide) zk
      refine e_iloadn (pc := 4) dX7_keyBits_4 rfl rfl ?_
      refine e_bipush (pc := 5) dX7_keyBits_5 rfl (by decide) ?_
      refine e_icmp_ge (pc := 7) (tgt := 55) dX7_keyBits_7 rfl (fun h7 => ?_) (fun h7 => ?_)
      · skip
        refine e_iloadn (pc := 55) dX7_keyBits_55 rfl rfl ?_
        have zke : k = 8 := by omega
        subst zke
        exact e_iret (pc := 56) dX7_keyBits_56 rfl (by rw [← hQ_]; exact ⟨rfl, zf⟩)
      · skip
        refine e_aloadn (pc := 10) dX7_keyBits_10 rfl rfl ?_
        refine e_getr (pc := 11) (k := 25) dX7_keyBits_11 fX7_32 s_0 rfl (by decide) ?_
        refine e_aloadn (pc := 14) dX7_keyBits_14 rfl rfl ?_
        refine e_getr (pc := 15) (k := 16) dX7_keyBits_15 fX7_28 s_0 rfl (by decide) ?_
        refine e_callV (pc := 18) (as := [(2, 16)]) (st := []) (t_becomes G zmv) dX7_keyBits_18 lX7_keyBits_163 rfl s_25 cn_1 rfl rfl (fun r_ zm1 hq_ => ?_)
        obtain ⟨zr_, zB⟩ := hq_
        subst zr_
        obtain ⟨zT0, z28⟩ := tsQ hI zf zB
        refine Ev.to (st' := []) ?_ rfl rfl rfl
        refine e_aloadn (pc := 21) dX7_keyBits_21 rfl rfl ?_
        refine e_getr (pc := 22) (k := 25) dX7_keyBits_22 fX7_32 s_0 rfl (by decide) ?_
        refine e_iconst (pc := 25) dX7_keyBits_25 (by decide) ?_
        refine e_iloadn (pc := 26) dX7_keyBits_26 rfl rfl ?_
        refine e_ishl (pc := 27) dX7_keyBits_27 ?_
        rw [show bShl 1 (k : Int) = ((2 ^ k : Nat) : Int) from one_shl (by omega)]
        refine e_putI (pc := 28) (mem2 := mset zm1 25 5 ((2 ^ k : Nat) : Int)) dX7_keyBits_28 fX7_312 s_25 rfl (by decide) pw_1_5 rfl ?_
        refine e_aloadn (pc := 31) dX7_keyBits_31 rfl rfl ?_
        refine e_getr (pc := 32) (k := 25) dX7_keyBits_32 fX7_32 s_0 rfl (by decide) ?_
        have hb3 : 2 ^ k < 2 ^ 8 := Nat.pow_lt_pow_right (by decide) (by omega)
        refine e_callV (pc := 35) (as := []) (st := []) (t_reckAw G mem zm1 (mem 17) (mem 18) ((2 ^ k : Nat) : Int) (by omega) hI zT0) dX7_keyBits_35 lX7_keyBits_142 rfl s_25 cn_1 rfl rfl (fun r_ zm2 hq_ => ?_)
        rw [stT_ep z28.ep] at hq_
        obtain ⟨zr_, zf2⟩ := hq_
        subst zr_
        refine Ev.to (st' := [(0, stT mem (mem 17) (mem 18) (mem 19) 0 ((2 ^ k : Nat) : Int))]) ?_ rfl rfl rfl
        refine e_bipush (pc := 38) dX7_keyBits_38 rfl (by decide) ?_
        refine e_icmp_lt (pc := 40) (tgt := 49) dX7_keyBits_40 rfl (fun h40 => ?_) (fun h40 => ?_)
        · skip
          refine e_iinc (pc := 49) (lo' := [(2, 0), (0, ((bitsTo (kyP mem) k : Nat) : Int)), (0, (k : Int) + 1)]) dX7_keyBits_49 rfl (by omega) rfl (by decide) rfl ?_
          refine e_goto (pc := 52) (tgt := 4) dX7_keyBits_52 rfl ?_
          exact Ev.to (ih4 _ (by omega) (k + 1) zm2 (rfl) (by omega) (zf2)) (by rw [show bitsTo (kyP mem) (k + 1) = bitsTo (kyP mem) k from (by show (if kyP mem k = true then _ else _) = _; rw [if_neg (by unfold kyP; simpa using h40)])]; rfl) rfl rfl
        · skip
          refine e_iloadn (pc := 43) dX7_keyBits_43 rfl rfl ?_
          refine e_iconst (pc := 44) dX7_keyBits_44 (by decide) ?_
          refine e_iloadn (pc := 45) dX7_keyBits_45 rfl rfl ?_
          refine e_ishl (pc := 46) dX7_keyBits_46 ?_
          rw [show bShl 1 (k : Int) = ((2 ^ k : Nat) : Int) from one_shl (by omega)]
          refine e_ior (pc := 47) dX7_keyBits_47 ?_
          rw [show bOr ((bitsTo (kyP mem) k : Nat) : Int) ((2 ^ k : Nat) : Int) = ((bitsTo (kyP mem) k ||| 2 ^ k : Nat) : Int) from bOr_nat (by omega) (by omega)]
          refine e_istoren (pc := 48) (lo' := [(2, 0), (0, ((bitsTo (kyP mem) k ||| 2 ^ k : Nat) : Int)), (0, (k : Int))]) dX7_keyBits_48 rfl rfl (by decide) rfl ?_
          refine e_iinc (pc := 49) (lo' := [(2, 0), (0, ((bitsTo (kyP mem) k ||| 2 ^ k : Nat) : Int)), (0, (k : Int) + 1)]) dX7_keyBits_49 rfl (by omega) rfl (by decide) rfl ?_
          refine e_goto (pc := 52) (tgt := 4) dX7_keyBits_52 rfl ?_
          exact Ev.to (ih4 _ (by omega) (k + 1) zm2 (rfl) (by omega) (zf2)) (by rw [show bitsTo (kyP mem) (k + 1) = bitsTo (kyP mem) k ||| 2 ^ k from (by show (if kyP mem k = true then _ else _) = _; rw [if_pos (by unfold kyP; simpa using h40)])]; rfl) rfl rfl
  exact Ev.to (L4 _ 0 mem (rfl) (by omega) (Fr.rf)) rfl rfl rfl

theorem kyP_mv {A B : Mem} (zf : Fr scQ A B) : kyP B = kyP A := by
  obtain ⟨e1, e2, e3⟩ := frQ_rows zf
  funext c
  unfold kyP
  rw [stT_cg (SE.q zf) (by rw [e1]) (by rw [e2]; exact E8.rf) (by rw [e3]; exact EP.rf)]

theorem c_keys (G : Gm) (mem : Mem) (wh : Int) (hI : CI mem) : Con G mX7_keys [(2, 0), (0, wh)] mem (fun r m' => r = some (0, an_keys mem wh) ∧ Fr scQ mem m') := by
  refine Con.of (lo := [(2, 0), (0, wh), (3, 0)]) (by decide +kernel) (Nat.le_of_ble_eq_true rfl) rfl ?_
  generalize hQ_ : (fun r m' => r = some (0, an_keys mem wh) ∧ Fr scQ mem m' : Option AV → Mem → Prop) = Q_
  refine e_iloadn (pc := 0) dX7_keys_0 rfl rfl ?_
  refine e_if_eq (pc := 1) (tgt := 12) dX7_keys_1 rfl (fun h1 => ?_) (fun h1 => ?_)
  · skip
    refine e_aloadn (pc := 12) dX7_keys_12 rfl rfl ?_
    refine e_getr (pc := 13) (k := 16) dX7_keys_13 fX7_28 s_0 rfl (by decide) ?_
    refine e_callV (pc := 16) (as := []) (st := []) (t_reckN G mem hI) dX7_keys_16 lX7_keys_142 rfl s_16 cn_1 rfl rfl (fun r_ zm1 hq_ => ?_)
    obtain ⟨zr_, zsb, zf, zw⟩ := hq_
    subst zr_
    refine Ev.to (st' := [(0, stA0 mem)]) ?_ rfl rfl rfl
    refine e_istoren (pc := 19) (lo' := [(2, 0), (0, wh), (0, stA0 mem)]) dX7_keys_19 rfl rfl (by decide) rfl ?_
    refine e_iloadn (pc := 20) dX7_keys_20 rfl rfl ?_
    refine e_bipush (pc := 21) dX7_keys_21 rfl (by decide) ?_
    refine e_icmp_lt (pc := 23) (tgt := 28) dX7_keys_23 rfl (fun h23 => ?_) (fun h23 => ?_)
    · skip
      refine e_iloadn (pc := 28) dX7_keys_28 rfl rfl ?_
      refine e_if_ne (pc := 29) (tgt := 39) dX7_keys_29 rfl (fun h29 => ?_) (fun h29 => ?_)
      · skip
        refine e_aloadn (pc := 39) dX7_keys_39 rfl rfl ?_
        refine e_getr (pc := 40) (k := 16) dX7_keys_40 fX7_28 s_0 rfl (by decide) ?_
        refine e_iloadn (pc := 43) dX7_keys_43 rfl rfl ?_
        refine e_callV (pc := 44) (as := [(0, stA0 mem)]) (st := []) (t_comingAt_16 G zm1 (stA0 mem)) dX7_keys_44 lX7_keys_215 rfl s_16 cn_1 rfl rfl (fun r_ zm2 hq_ => ?_)
        rw [bitsTo_congr (q := fun c => decide (whA0 mem c = stA0 mem)) (fun j hj => by show decide (zm1 20 j = _) = _; rw [zw j hj])] at hq_
        obtain ⟨zr_, rfl⟩ := hq_
        subst zr_
        refine Ev.to (st' := [(0, ((bitsTo (fun c => decide (whA0 mem c = stA0 mem)) 8 : Nat) : Int))]) ?_ rfl rfl rfl
        have zan : an_keys mem wh = ((bitsTo (fun c => decide (whA0 mem c = stA0 mem)) 8 : Nat) : Int) := by first | (exfalso; omega) | (unfold an_keys; (repeat (first | rw [if_pos (by omega)] | rw [if_neg (by omega)])) <;> rfl)
        exact e_iret (pc := 47) dX7_keys_47 rfl (by rw [← hQ_]; exact ⟨by rw [zan], scGQ16 zf⟩)
      · skip
        refine e_aloadn (pc := 32) dX7_keys_32 rfl rfl ?_
        refine e_callV (pc := 33) (as := []) (st := []) (t_keyBits G zm1 (hI.fr (scGQ16 zf))) dX7_keys_33 lX7_keys_212 rfl s_0 cn_7 rfl rfl (fun r_ zm2 hq_ => ?_)
        rw [kyP_mv (scGQ16 zf)] at hq_
        obtain ⟨zr_, zf2⟩ := hq_
        subst zr_
        refine Ev.to (st' := [(0, ((bitsTo (kyP mem) 8 : Nat) : Int))]) ?_ rfl rfl rfl
        refine e_goto (pc := 36) (tgt := 47) dX7_keys_36 rfl ?_
        have zan : an_keys mem wh = ((bitsTo (kyP mem) 8 : Nat) : Int) := by first | (exfalso; omega) | (unfold an_keys; (repeat (first | rw [if_pos (by omega)] | rw [if_neg (by omega)])) <;> rfl)
        exact e_iret (pc := 47) dX7_keys_47 rfl (by rw [← hQ_]; exact ⟨by rw [zan], (scGQ16 zf).tr zf2⟩)
    · skip
      refine e_iconst (pc := 26) dX7_keys_26 (by decide) ?_
      have zan : an_keys mem wh = 0 := by first | (exfalso; omega) | (unfold an_keys; (repeat (first | rw [if_pos (by omega)] | rw [if_neg (by omega)])) <;> rfl)
      exact e_iret (pc := 27) dX7_keys_27 rfl (by rw [← hQ_]; exact ⟨by rw [zan], scGQ16 zf⟩)
  · skip
    refine e_iloadn (pc := 4) dX7_keys_4 rfl rfl ?_
    refine e_iconst (pc := 5) dX7_keys_5 (by decide) ?_
    refine e_icmp_eq (pc := 6) (tgt := 12) dX7_keys_6 rfl (fun h6 => ?_) (fun h6 => ?_)
    · skip
      refine e_aloadn (pc := 12) dX7_keys_12 rfl rfl ?_
      refine e_getr (pc := 13) (k := 16) dX7_keys_13 fX7_28 s_0 rfl (by decide) ?_
      refine e_callV (pc := 16) (as := []) (st := []) (t_reckN G mem hI) dX7_keys_16 lX7_keys_142 rfl s_16 cn_1 rfl rfl (fun r_ zm1 hq_ => ?_)
      obtain ⟨zr_, zsb, zf, zw⟩ := hq_
      subst zr_
      refine Ev.to (st' := [(0, stA0 mem)]) ?_ rfl rfl rfl
      refine e_istoren (pc := 19) (lo' := [(2, 0), (0, wh), (0, stA0 mem)]) dX7_keys_19 rfl rfl (by decide) rfl ?_
      refine e_iloadn (pc := 20) dX7_keys_20 rfl rfl ?_
      refine e_bipush (pc := 21) dX7_keys_21 rfl (by decide) ?_
      refine e_icmp_lt (pc := 23) (tgt := 28) dX7_keys_23 rfl (fun h23 => ?_) (fun h23 => ?_)
      · skip
        refine e_iloadn (pc := 28) dX7_keys_28 rfl rfl ?_
        refine e_if_ne (pc := 29) (tgt := 39) dX7_keys_29 rfl (fun h29 => ?_) (fun h29 => ?_)
        · skip
          refine e_aloadn (pc := 39) dX7_keys_39 rfl rfl ?_
          refine e_getr (pc := 40) (k := 16) dX7_keys_40 fX7_28 s_0 rfl (by decide) ?_
          refine e_iloadn (pc := 43) dX7_keys_43 rfl rfl ?_
          refine e_callV (pc := 44) (as := [(0, stA0 mem)]) (st := []) (t_comingAt_16 G zm1 (stA0 mem)) dX7_keys_44 lX7_keys_215 rfl s_16 cn_1 rfl rfl (fun r_ zm2 hq_ => ?_)
          rw [bitsTo_congr (q := fun c => decide (whA0 mem c = stA0 mem)) (fun j hj => by show decide (zm1 20 j = _) = _; rw [zw j hj])] at hq_
          obtain ⟨zr_, rfl⟩ := hq_
          subst zr_
          refine Ev.to (st' := [(0, ((bitsTo (fun c => decide (whA0 mem c = stA0 mem)) 8 : Nat) : Int))]) ?_ rfl rfl rfl
          have zan : an_keys mem wh = ((bitsTo (fun c => decide (whA0 mem c = stA0 mem)) 8 : Nat) : Int) := by first | (exfalso; omega) | (unfold an_keys; (repeat (first | rw [if_pos (by omega)] | rw [if_neg (by omega)])) <;> rfl)
          exact e_iret (pc := 47) dX7_keys_47 rfl (by rw [← hQ_]; exact ⟨by rw [zan], scGQ16 zf⟩)
        · skip
          refine e_aloadn (pc := 32) dX7_keys_32 rfl rfl ?_
          refine e_callV (pc := 33) (as := []) (st := []) (t_keyBits G zm1 (hI.fr (scGQ16 zf))) dX7_keys_33 lX7_keys_212 rfl s_0 cn_7 rfl rfl (fun r_ zm2 hq_ => ?_)
          rw [kyP_mv (scGQ16 zf)] at hq_
          obtain ⟨zr_, zf2⟩ := hq_
          subst zr_
          refine Ev.to (st' := [(0, ((bitsTo (kyP mem) 8 : Nat) : Int))]) ?_ rfl rfl rfl
          refine e_goto (pc := 36) (tgt := 47) dX7_keys_36 rfl ?_
          have zan : an_keys mem wh = ((bitsTo (kyP mem) 8 : Nat) : Int) := by first | (exfalso; omega) | (unfold an_keys; (repeat (first | rw [if_pos (by omega)] | rw [if_neg (by omega)])) <;> rfl)
          exact e_iret (pc := 47) dX7_keys_47 rfl (by rw [← hQ_]; exact ⟨by rw [zan], (scGQ16 zf).tr zf2⟩)
      · skip
        refine e_iconst (pc := 26) dX7_keys_26 (by decide) ?_
        have zan : an_keys mem wh = 0 := by first | (exfalso; omega) | (unfold an_keys; (repeat (first | rw [if_pos (by omega)] | rw [if_neg (by omega)])) <;> rfl)
        exact e_iret (pc := 27) dX7_keys_27 rfl (by rw [← hQ_]; exact ⟨by rw [zan], scGQ16 zf⟩)
    · skip
      refine e_bipush (pc := 9) dX7_keys_9 rfl (by decide) ?_
      have zan : an_keys mem wh = -2 := by first | (exfalso; omega) | (unfold an_keys; (repeat (first | rw [if_pos (by omega)] | rw [if_neg (by omega)])) <;> rfl)
      exact e_iret (pc := 11) dX7_keys_11 rfl (by rw [← hQ_]; exact ⟨by rw [zan], Fr.rf⟩)

theorem c_guests (G : Gm) (mem : Mem) (hI : CI mem) : Con G mX7_guests [(2, 0)] mem (fun r m' => r = some (0, an_guests mem) ∧ Fr scQ mem m') := by
  refine Con.of (lo := [(2, 0), (3, 0), (3, 0), (3, 0)]) (by decide +kernel) (Nat.le_of_ble_eq_true rfl) rfl ?_
  generalize hQ_ : (fun r m' => r = some (0, an_guests mem) ∧ Fr scQ mem m' : Option AV → Mem → Prop) = Q_
  refine e_aloadn (pc := 0) dX7_guests_0 rfl rfl ?_
  refine e_getr (pc := 1) (k := 16) dX7_guests_1 fX7_28 s_0 rfl (by decide) ?_
  refine e_callVr (pc := 4) (as := []) (st := []) (t_plainBits_16 G mem) dX7_guests_4 lX7_guests_173 rfl s_16 cn_1 rfl rfl ?_
  refine e_istoren (pc := 7) (lo' := [(2, 0), (0, plB mem), (3, 0), (3, 0)]) dX7_guests_7 rfl rfl (by decide) rfl ?_
  refine e_iconst (pc := 8) dX7_guests_8 (by decide) ?_
  refine e_istoren (pc := 9) (lo' := [(2, 0), (0, plB mem), (0, 0), (3, 0)]) dX7_guests_9 rfl rfl (by decide) rfl ?_
  have L10 : ∀ (n_ : Nat) (m : Nat) (zmv : Mem), 4 - m = n_ → (m ≤ 4) → (Fr scQ mem zmv) → (an_guests mem = gq (guP mem) (4 - m) m) → Ev G mX7_guests Q_ 10 [(2, 0), (0, plB mem), (0, (m : Int)), (3, 0)] [] zmv := by
    intro n_
    induction n_ using Nat.strongRecOn with
    | ind n_ ih10 =>
      intro m zmv hn_ zm zf zan
      refine e_iloadn (pc := 10) dX7_guests_10 rfl rfl ?_
      refine e_iconst (pc := 11) dX7_guests_11 (by decide) ?_
      refine e_icmp_gt (pc := 12) (tgt := 83) dX7_guests_12 rfl (fun h12 => ?_) (fun h12 => ?_)
      · skip
        refine e_iconst (pc := 83) dX7_guests_83 (by decide) ?_
        rw [gq_e (by omega)] at zan
        exact e_iret (pc := 84) dX7_guests_84 rfl (by rw [← hQ_]; exact ⟨by rw [zan], zf⟩)
      · skip
        refine e_iconst (pc := 15) dX7_guests_15 (by decide) ?_
        refine e_istoren (pc := 16) (lo' := [(2, 0), (0, plB mem), (0, (m : Int)), (0, 0)]) dX7_guests_16 rfl rfl (by decide) rfl ?_
        have L17 : ∀ (n_ : Nat) (b : Nat) (zmw : Mem), 256 - b = n_ → (b ≤ 256) → (Fr scQ mem zmw) → (fromK (guP mem m) 256 0 = fromK (guP mem m) (256 - b) b) → Ev G mX7_guests Q_ 17 [(2, 0), (0, plB mem), (0, (m : Int)), (0, (b : Int))] [] zmw := by
          intro n_
          induction n_ using Nat.strongRecOn with
          | ind n_ ih17 =>
            intro b zmw hn_ zb zf zfk
            refine e_iloadn (pc := 17) dX7_guests_17 rfl rfl ?_
            refine e_sipush (pc := 18) dX7_guests_18 rfl (by decide) ?_
            refine e_icmp_ge (pc := 21) (tgt := 77) dX7_guests_21 rfl (fun h21 => ?_) (fun h21 => ?_)
            · skip
              refine e_iinc (pc := 77) (lo' := [(2, 0), (0, plB mem), (0, (m : Int) + 1), (0, (b : Int))]) dX7_guests_77 rfl (by omega) rfl (by decide) rfl ?_
              refine e_goto (pc := 80) (tgt := 10) dX7_guests_80 rfl ?_
              refine Ev.fgt [3] ?_
              exact Ev.to (ih10 _ (by omega) (m + 1) zmw (rfl) (by omega) (zf) (zan.trans (gq_next (by omega) (zfk.trans (fromK_e (by omega)))))) rfl rfl rfl
            · skip
              refine e_iloadn (pc := 24) dX7_guests_24 rfl rfl ?_
              refine e_callSr (pc := 25) (as := [(0, (b : Int))]) (st := []) (t_bitCount G zmw b (by omega)) dX7_guests_25 lX7_guests_176 rfl rfl rfl ?_
              refine e_iloadn (pc := 28) dX7_guests_28 rfl rfl ?_
              refine e_icmp_ne (pc := 29) (tgt := 71) dX7_guests_29 rfl (fun h29 => ?_) (fun h29 => ?_)
              · skip
                refine e_iinc (pc := 71) (lo' := [(2, 0), (0, plB mem), (0, (m : Int)), (0, (b : Int) + 1)]) dX7_guests_71 rfl (by omega) rfl (by decide) rfl ?_
                refine e_goto (pc := 74) (tgt := 17) dX7_guests_74 rfl ?_
                have zp : guP mem m b = false := by unfold guP; rw [decide_eq_false (fun q => h29 (by have := q.1; omega))]; rfl
                exact Ev.to (ih17 _ (by omega) (b + 1) zmw (rfl) (by omega) (zf) (zfk.trans (fromK_f zp (by omega)))) rfl rfl rfl
              · skip
                refine e_iloadn (pc := 32) dX7_guests_32 rfl rfl ?_
                refine e_iloadn (pc := 33) dX7_guests_33 rfl rfl ?_
                refine e_iconst (pc := 34) dX7_guests_34 (by decide) ?_
                refine e_ixor (pc := 35) dX7_guests_35 ?_
                refine e_iand (pc := 36) dX7_guests_36 ?_
                refine e_if_eq (pc := 37) (tgt := 43) dX7_guests_37 rfl (fun h37 => ?_) (fun h37 => ?_)
                · skip
                  refine e_aloadn (pc := 43) dX7_guests_43 rfl rfl ?_
                  refine e_getr (pc := 44) (k := 25) dX7_guests_44 fX7_32 s_0 rfl (by decide) ?_
                  refine e_aloadn (pc := 47) dX7_guests_47 rfl rfl ?_
                  refine e_getr (pc := 48) (k := 16) dX7_guests_48 fX7_28 s_0 rfl (by decide) ?_
                  refine e_callV (pc := 51) (as := [(2, 16)]) (st := []) (t_becomes G zmw) dX7_guests_51 lX7_guests_163 rfl s_25 cn_1 rfl rfl (fun r_ zm1 hq_ => ?_)
                  obtain ⟨zr_, zB⟩ := hq_
                  subst zr_
                  obtain ⟨zT0, z28⟩ := tsQ hI zf zB
                  refine Ev.to (st' := []) ?_ rfl rfl rfl
                  refine e_aloadn (pc := 54) dX7_guests_54 rfl rfl ?_
                  refine e_getr (pc := 55) (k := 25) dX7_guests_55 fX7_32 s_0 rfl (by decide) ?_
                  refine e_iloadn (pc := 58) dX7_guests_58 rfl rfl ?_
                  refine e_callVv (pc := 59) (as := [(0, (b : Int))]) (st := []) (t_makePunctual_25 G zm1 (b : Int) (by omega)) dX7_guests_59 lX7_guests_218 rfl s_25 cn_1 rfl rfl ?_
                  refine e_aloadn (pc := 62) dX7_guests_62 rfl rfl ?_
                  refine e_callV (pc := 63) (as := []) (st := []) (t_inTime G mem _ (mem 17) _ hI (zT0.mp (b : Int))) dX7_guests_63 lX7_guests_208 rfl s_0 cn_7 rfl rfl (fun r_ zm2 hq_ => ?_)
                  obtain ⟨zr_, zf2⟩ := hq_
                  subst zr_
                  refine Ev.to (st' := [(0, if inT mem (mem 17) (mpR (mem 18) (b : Int) 8) = true then 1 else 0)]) ?_ rfl rfl rfl
                  refine e_if_eq (pc := 66) (tgt := 71) dX7_guests_66 rfl (fun h66 => ?_) (fun h66 => ?_)
                  · skip
                    refine e_iinc (pc := 71) (lo' := [(2, 0), (0, plB mem), (0, (m : Int)), (0, (b : Int) + 1)]) dX7_guests_71 rfl (by omega) rfl (by decide) rfl ?_
                    refine e_goto (pc := 74) (tgt := 17) dX7_guests_74 rfl ?_
                    have zin : ¬ inT mem (mem 17) (mpR (mem 18) (b : Int) 8) = true := fun q => by rw [if_pos q] at h66; omega
                    have zp : guP mem m b = false := by unfold guP; rw [Bool.eq_false_iff.mpr zin, Bool.and_false]
                    exact Ev.to (ih17 _ (by omega) (b + 1) zm2 (rfl) (by omega) (zf2) (zfk.trans (fromK_f zp (by omega)))) rfl rfl rfl
                  · skip
                    refine e_iloadn (pc := 69) dX7_guests_69 rfl rfl ?_
                    have zin : inT mem (mem 17) (mpR (mem 18) (b : Int) 8) = true := by cases zq : inT mem (mem 17) (mpR (mem 18) (b : Int) 8) with
                      | true => rfl
                      | false => rw [if_neg (by rw [zq]; simp)] at h66; omega
                    have zp : guP mem m b = true := by unfold guP; rw [zin, decide_eq_true (show cnt (fun j => b.testBit j) 8 = m ∧ bAnd (b : Int) (bXor (plB mem) (-1)) = 0 from ⟨by omega, h37⟩)]; rfl
                    rw [gq_hit (by omega) (zfk.trans (fromK_t zp (by omega))) (by omega)] at zan
                    exact e_iret (pc := 70) dX7_guests_70 rfl (by rw [← hQ_]; exact ⟨by rw [zan], zf2⟩)
                · skip
                  refine e_goto (pc := 40) (tgt := 71) dX7_guests_40 rfl ?_
                  refine e_iinc (pc := 71) (lo' := [(2, 0), (0, plB mem), (0, (m : Int)), (0, (b : Int) + 1)]) dX7_guests_71 rfl (by omega) rfl (by decide) rfl ?_
                  refine e_goto (pc := 74) (tgt := 17) dX7_guests_74 rfl ?_
                  have zp : guP mem m b = false := by unfold guP; rw [decide_eq_false (fun q => h37 q.2)]; rfl
                  exact Ev.to (ih17 _ (by omega) (b + 1) zmw (rfl) (by omega) (zf) (zfk.trans (fromK_f zp (by omega)))) rfl rfl rfl
        exact Ev.to (L17 _ 0 zmv (rfl) (by omega) (zf) (rfl)) rfl rfl rfl
  exact Ev.to (L10 _ 0 mem (rfl) (by omega) (Fr.rf) (rfl)) rfl rfl rfl
