-- CLIMBING, on rows of aims; bf: the best of one by the aims of all
def cl0 (kd am : Nat → Int) (dv : Int) (k : Nat) : Nat → Int := fun j => if j < k ∧ kd j = 0 then dv else am j
theorem cl0_0 (kd am : Nat → Int) (dv : Int) : cl0 kd am dv 0 = am := by funext j; unfold cl0; rw [if_neg (by omega)]
theorem cl0_t {kd am : Nat → Int} {dv : Int} {k : Nat} (h : kd k = 0) : uset (cl0 kd am dv k) k dv = cl0 kd am dv (k + 1) := by
  funext j; unfold uset cl0
  by_cases e : j = k
  · subst e; rw [if_pos rfl, if_pos ⟨by omega, h⟩]
  · rw [if_neg e]
    by_cases h2 : j < k ∧ kd j = 0
    · rw [if_pos h2, if_pos ⟨by omega, h2.2⟩]
    · rw [if_neg h2, if_neg (fun q => h2 ⟨by omega, q.2⟩)]
theorem cl0_f {kd am : Nat → Int} {dv : Int} {k : Nat} (h : ¬ kd k = 0) : cl0 kd am dv k = cl0 kd am dv (k + 1) := by
  funext j; unfold cl0
  by_cases h2 : j < k ∧ kd j = 0
  · rw [if_pos h2, if_pos ⟨by omega, h2.2⟩]
  · rw [if_neg h2, if_neg]
    rintro ⟨q1, q2⟩
    rcases Nat.lt_or_ge j k with z | z
    · exact h2 ⟨z, q2⟩
    · rw [show j = k by omega] at q2; exact h q2
def rndTo (bf : (Nat → Int) → Nat → Nat) (kd : Nat → Int) (am : Nat → Int) : Nat → Bool × (Nat → Int)
  | 0 => (false, am)
  | k + 1 => if kd k = 0 then ((rndTo bf kd am k).1 || decide (((bf (rndTo bf kd am k).2 k : Nat) : Int) ≠ (rndTo bf kd am k).2 k), uset (rndTo bf kd am k).2 k ((bf (rndTo bf kd am k).2 k : Nat) : Int)) else rndTo bf kd am k
theorem rndTo_s (bf : (Nat → Int) → Nat → Nat) (kd am : Nat → Int) (k : Nat) : rndTo bf kd am (k + 1) = if kd k = 0 then ((rndTo bf kd am k).1 || decide (((bf (rndTo bf kd am k).2 k : Nat) : Int) ≠ (rndTo bf kd am k).2 k), uset (rndTo bf kd am k).2 k ((bf (rndTo bf kd am k).2 k : Nat) : Int)) else rndTo bf kd am k := rfl
def clm (bf : (Nat → Int) → Nat → Nat) (kd : Nat → Int) : Nat → (Nat → Int) → Option (Nat → Int)
  | 0, _ => none
  | n + 1, am => if (rndTo bf kd am 8).1 = true then clm bf kd n (rndTo bf kd am 8).2 else some (rndTo bf kd am 8).2
def scC (c j : Nat) : Bool := scG 25 c j || c == 28
noncomputable def bfA (mem : Mem) (down : Bool) (am : Nat → Int) (c : Nat) : Nat := bestN (prA mem (mem 26) (mem 27) am (mem 25 4) (mem 25 5) c) down
theorem bO1 (b : Bool) : bOr (if b then 1 else 0) 1 = 1 := by cases b <;> decide
theorem bO0 (b : Bool) : bOr (if b then 1 else 0) 0 = if b then 1 else 0 := by cases b <;> decide
theorem EvC {mem zm : Mem} (zf : Fr scC mem zm) (h : EvOk25 mem) (hr : ∀ c, c < 8 → 0 ≤ zm 28 c ∧ zm 28 c ≤ 60) : EvOk25 zm := by
  unfold EvOk25 at *
  rw [show zm 26 = mem 26 from funext (fun j => zf 26 j rfl), show zm 27 = mem 27 from funext (fun j => zf 27 j rfl), show zm 25 4 = mem 25 4 from zf 25 4 rfl, show zm 25 5 = mem 25 5 from zf 25 5 rfl, show zm 2 = mem 2 from funext (fun j => zf 2 j rfl), show zm 3 = mem 3 from funext (fun j => zf 3 j rfl)]
  obtain ⟨h1, h2⟩ := h
  exact ⟨h1, fun c hc => ⟨(h2 c hc).1, hr c hc, (h2 c hc).2.2⟩⟩
theorem prC {mem zm : Mem} (zf : Fr scC mem zm) : prF25 zm = prA mem (mem 26) (mem 27) (zm 28) (mem 25 4) (mem 25 5) := prF_rows25 (funext (fun j => zf 26 j rfl)) (funext (fun j => zf 27 j rfl)) rfl (zf 25 4 rfl) (zf 25 5 rfl) (funext (fun j => zf 2 j rfl)) (funext (fun j => zf 3 j rfl)) (funext (fun j => zf 5 j rfl)) (funext (fun j => zf 6 j rfl)) (funext (fun j => zf 7 j rfl)) (funext (fun j => zf 9 j rfl)) (funext (fun j => zf 12 j rfl)) (funext (fun j => zf 13 j rfl)) (funext (fun j => zf 14 j rfl)) (funext (fun j => zf 15 j rfl)) (zf 10 4 rfl)
theorem RuC {S : Nat → Nat → Bool} {mem zm : Mem} (zf : Fr S mem zm) (hR : RuOk mem) (hS : ∀ j, S 10 4 = false ∧ S 12 j = false ∧ S 13 j = false ∧ S 14 j = false ∧ S 15 j = false := by intro j; exact ⟨rfl, rfl, rfl, rfl, rfl⟩) : RuOk zm := RuOk.mv (zf 10 4 (hS 0).1) (funext (fun j => zf 12 j (hS j).2.1)) (funext (fun j => zf 13 j (hS j).2.2.1)) (funext (fun j => zf 14 j (hS j).2.2.2.1)) (funext (fun j => zf 15 j (hS j).2.2.2.2)) hR
theorem scGC {mem zm : Mem} (zf : Fr (scG 25) mem zm) : Fr scC mem zm := zf.mono (fun c j q => by unfold scC at q; simp at q; exact q.1)

theorem t_climbs (G : Gm) (mem : Mem) (down : Bool) (hC : CoOk mem) (hE : EvOk25 mem) (hR : RuOk mem) (hl : mem 25 4 = 0) (ha : mem 25 5 = 0) : Con G mX1_climbs [(2, 25), (0, (if down then 1 else 0))] mem (fun r m' => r = some (0, if (clm (bfA mem down) (mem 27) 20 (cl0 (mem 27) (mem 28) (if down then 60 else 0) 8)).isSome then 1 else 0) ∧ Fr scC mem m' ∧ (∀ c, c < 8 → 0 ≤ m' 28 c ∧ m' 28 c ≤ 60) ∧ ∀ am, clm (bfA mem down) (mem 27) 20 (cl0 (mem 27) (mem 28) (if down then 60 else 0) 8) = some am → m' 28 = am) := by
  refine Con.of (lo := [(2, 25), (0, (if down then 1 else 0)), (3, 0), (3, 0), (3, 0), (3, 0)]) (by decide +kernel) (Nat.le_of_ble_eq_true rfl) rfl ?_
  generalize hQ_ : (fun r m' => r = some (0, if (clm (bfA mem down) (mem 27) 20 (cl0 (mem 27) (mem 28) (if down then 60 else 0) 8)).isSome then 1 else 0) ∧ Fr scC mem m' ∧ (∀ c, c < 8 → 0 ≤ m' 28 c ∧ m' 28 c ≤ 60) ∧ ∀ am, clm (bfA mem down) (mem 27) 20 (cl0 (mem 27) (mem 28) (if down then 60 else 0) 8) = some am → m' 28 = am : Option AV → Mem → Prop) = Q_
  refine e_iconst (pc := 0) dX1_climbs_0 (by decide) ?_
  refine e_istoren (pc := 1) (lo' := [(2, 25), (0, (if down then 1 else 0)), (0, 0), (3, 0), (3, 0), (3, 0)]) dX1_climbs_1 rfl rfl (by decide) rfl ?_
  have L2 : ∀ (n_ : Nat) (k : Nat), 8 - k = n_ → (k ≤ 8) → Ev G mX1_climbs Q_ 2 [(2, 25), (0, (if down then 1 else 0)), (0, (k : Int)), (3, 0), (3, 0), (3, 0)] [] (rset mem 28 (cl0 (mem 27) (mem 28) (if down then 60 else 0) k)) := by
    intro n_
    induction n_ using Nat.strongRecOn with
    | ind n_ ih2 =>
      intro k hn_ zk
      refine e_iloadn (pc := 2) dX1_climbs_2 rfl rfl ?_
      refine e_bipush (pc := 3) dX1_climbs_3 rfl (by decide) ?_
      refine e_icmp_ge (pc := 5) (tgt := 39) dX1_climbs_5 rfl (fun h5 => ?_) (fun h5 => ?_)
      · skip
        refine e_iconst (pc := 39) dX1_climbs_39 (by decide) ?_
        refine e_istoren (pc := 40) (lo' := [(2, 25), (0, (if down then 1 else 0)), (0, 1), (3, 0), (3, 0), (3, 0)]) dX1_climbs_40 rfl rfl (by decide) rfl ?_
        refine e_iconst (pc := 41) dX1_climbs_41 (by decide) ?_
        refine e_istoren (pc := 42) (lo' := [(2, 25), (0, (if down then 1 else 0)), (0, 1), (0, 0), (3, 0), (3, 0)]) dX1_climbs_42 rfl rfl (by decide) rfl ?_
        have L43 : ∀ (n_ : Nat) (rd : Nat) (ch : Bool) (zmv : Mem), 20 - rd = n_ → (rd ≤ 20) → (Fr scC mem zmv) → (∀ c, c < 8 → 0 ≤ zmv 28 c ∧ zmv 28 c ≤ 60) → (clm (bfA mem down) (mem 27) 20 (cl0 (mem 27) (mem 28) (if down then 60 else 0) 8) = if ch then clm (bfA mem down) (mem 27) (20 - rd) (zmv 28) else some (zmv 28)) → Ev G mX1_climbs Q_ 43 [(2, 25), (0, (if down then 1 else 0)), (0, (if ch then 1 else 0)), (0, (rd : Int)), (3, 0), (3, 0)] [] zmv := by
          intro n_
          induction n_ using Nat.strongRecOn with
          | ind n_ ih43 =>
            intro rd ch zmv hn_ zrd zf zrg zcl
            refine e_iloadn (pc := 43) dX1_climbs_43 rfl rfl ?_
            refine e_bipush (pc := 44) dX1_climbs_44 rfl (by decide) ?_
            refine e_icmp_ge (pc := 46) (tgt := 128) dX1_climbs_46 rfl (fun h46 => ?_) (fun h46 => ?_)
            · skip
              refine e_iloadn (pc := 128) dX1_climbs_128 rfl rfl ?_
              refine e_if_ne (pc := 129) (tgt := 136) dX1_climbs_129 rfl (fun h129 => ?_) (fun h129 => ?_)
              · skip
                refine e_iconst (pc := 136) dX1_climbs_136 (by decide) ?_
                have zfin : (if (clm (bfA mem down) (mem 27) 20 (cl0 (mem 27) (mem 28) (if down then 60 else 0) 8)).isSome then (1 : Int) else 0) = 0 ∧ ∀ am, clm (bfA mem down) (mem 27) 20 (cl0 (mem 27) (mem 28) (if down then 60 else 0) 8) = some am → zmv 28 = am := by
                  have zch : ch = true := by cases ch <;> simp_all
                  rw [zcl, zch]
                  have z20 : rd = 20 := by first | omega | (exfalso; simp_all)
                  subst z20
                  exact ⟨rfl, fun am h => by cases h⟩
                exact e_zret (pc := 137) dX1_climbs_137 rfl (by decide) (by rw [← hQ_]; exact ⟨by rw [zfin.1], zf, zrg, zfin.2⟩)
              · skip
                refine e_iconst (pc := 132) dX1_climbs_132 (by decide) ?_
                refine e_goto (pc := 133) (tgt := 137) dX1_climbs_133 rfl ?_
                have zfin : (if (clm (bfA mem down) (mem 27) 20 (cl0 (mem 27) (mem 28) (if down then 60 else 0) 8)).isSome then (1 : Int) else 0) = 1 ∧ ∀ am, clm (bfA mem down) (mem 27) 20 (cl0 (mem 27) (mem 28) (if down then 60 else 0) 8) = some am → zmv 28 = am := by
                  have zch : ch = false := by cases ch <;> simp_all
                  rw [zcl, zch]
                  exact ⟨rfl, fun am h => by cases h; rfl⟩
                exact e_zret (pc := 137) dX1_climbs_137 rfl (by decide) (by rw [← hQ_]; exact ⟨by rw [zfin.1], zf, zrg, zfin.2⟩)
            · skip
              refine e_iloadn (pc := 49) dX1_climbs_49 rfl rfl ?_
              refine e_if_eq (pc := 50) (tgt := 128) dX1_climbs_50 rfl (fun h50 => ?_) (fun h50 => ?_)
              · skip
                refine e_iloadn (pc := 128) dX1_climbs_128 rfl rfl ?_
                refine e_if_ne (pc := 129) (tgt := 136) dX1_climbs_129 rfl (fun h129 => ?_) (fun h129 => ?_)
                · skip
                  refine e_iconst (pc := 136) dX1_climbs_136 (by decide) ?_
                  have zfin : (if (clm (bfA mem down) (mem 27) 20 (cl0 (mem 27) (mem 28) (if down then 60 else 0) 8)).isSome then (1 : Int) else 0) = 0 ∧ ∀ am, clm (bfA mem down) (mem 27) 20 (cl0 (mem 27) (mem 28) (if down then 60 else 0) 8) = some am → zmv 28 = am := by
                    have zch : ch = true := by cases ch <;> simp_all
                    rw [zcl, zch]
                    have z20 : rd = 20 := by first | omega | (exfalso; simp_all)
                    subst z20
                    exact ⟨rfl, fun am h => by cases h⟩
                  exact e_zret (pc := 137) dX1_climbs_137 rfl (by decide) (by rw [← hQ_]; exact ⟨by rw [zfin.1], zf, zrg, zfin.2⟩)
                · skip
                  refine e_iconst (pc := 132) dX1_climbs_132 (by decide) ?_
                  refine e_goto (pc := 133) (tgt := 137) dX1_climbs_133 rfl ?_
                  have zfin : (if (clm (bfA mem down) (mem 27) 20 (cl0 (mem 27) (mem 28) (if down then 60 else 0) 8)).isSome then (1 : Int) else 0) = 1 ∧ ∀ am, clm (bfA mem down) (mem 27) 20 (cl0 (mem 27) (mem 28) (if down then 60 else 0) 8) = some am → zmv 28 = am := by
                    have zch : ch = false := by cases ch <;> simp_all
                    rw [zcl, zch]
                    exact ⟨rfl, fun am h => by cases h; rfl⟩
                  exact e_zret (pc := 137) dX1_climbs_137 rfl (by decide) (by rw [← hQ_]; exact ⟨by rw [zfin.1], zf, zrg, zfin.2⟩)
              · skip
                have zch : ch = true := by cases ch <;> simp_all
                refine e_iconst (pc := 53) dX1_climbs_53 (by decide) ?_
                refine e_istoren (pc := 54) (lo' := [(2, 25), (0, (if down then 1 else 0)), (0, 0), (0, (rd : Int)), (3, 0), (3, 0)]) dX1_climbs_54 rfl rfl (by decide) rfl ?_
                refine e_iconst (pc := 55) dX1_climbs_55 (by decide) ?_
                refine e_istore (pc := 56) (lo' := [(2, 25), (0, (if down then 1 else 0)), (0, 0), (0, (rd : Int)), (0, 0), (3, 0)]) dX1_climbs_56 rfl (by decide) rfl ?_
                have L58 : ∀ (n_ : Nat) (k : Nat) (ch2 : Bool) (zmu : Mem), 8 - k = n_ → (k ≤ 8) → (Fr scC mem zmu) → (∀ c, c < 8 → 0 ≤ zmu 28 c ∧ zmu 28 c ≤ 60) → (rndTo (bfA mem down) (mem 27) (zmv 28) k = (ch2, zmu 28)) → Ev G mX1_climbs Q_ 58 [(2, 25), (0, (if down then 1 else 0)), (0, (if ch2 then 1 else 0)), (0, (rd : Int)), (0, (k : Int)), (3, 0)] [] zmu := by
                  intro n_
                  induction n_ using Nat.strongRecOn with
                  | ind n_ ih58 =>
                    intro k ch2 zmu hn_ zk zg zrg2 zrn
                    refine e_iload (pc := 58) dX1_climbs_58 rfl ?_
                    refine e_bipush (pc := 60) dX1_climbs_60 rfl (by decide) ?_
                    refine e_icmp_ge (pc := 62) (tgt := 122) dX1_climbs_62 rfl (fun h62 => ?_) (fun h62 => ?_)
                    · skip
                      refine e_iinc (pc := 122) (lo' := [(2, 25), (0, (if down then 1 else 0)), (0, (if ch2 then 1 else 0)), (0, (rd : Int) + 1), (0, (k : Int)), (3, 0)]) dX1_climbs_122 rfl (by omega) rfl (by decide) rfl ?_
                      refine e_goto (pc := 125) (tgt := 43) dX1_climbs_125 rfl ?_
                      have zk8 : k = 8 := by omega
                      subst zk8
                      have zcl2 : clm (bfA mem down) (mem 27) 20 (cl0 (mem 27) (mem 28) (if down then 60 else 0) 8) = if ch2 then clm (bfA mem down) (mem 27) (20 - (rd + 1)) (zmu 28) else some (zmu 28) := by
                        rw [zcl, if_pos zch, show 20 - rd = (20 - (rd + 1)) + 1 by omega]
                        show (if (rndTo _ _ _ 8).1 = true then _ else _) = _
                        rw [zrn]
                      refine Ev.fgt [4] ?_
                      exact Ev.to (ih43 _ (by omega) (rd + 1) ch2 zmu (rfl) (by omega) (zg) (zrg2) (zcl2)) rfl rfl rfl
                    · skip
                      refine e_aloadn (pc := 65) dX1_climbs_65 rfl rfl ?_
                      refine e_getr (pc := 66) (k := 27) dX1_climbs_66 fX1_18 s_25 rfl (by decide) ?_
                      refine e_iload (pc := 69) dX1_climbs_69 rfl ?_
                      refine e_ialdv (pc := 71) (v := mem 27 k) dX1_climbs_71 s_27 (by omega) (zg 27 k rfl) ?_
                      refine e_if_eq (pc := 72) (tgt := 78) dX1_climbs_72 rfl (fun h72 => ?_) (fun h72 => ?_)
                      · skip
                        refine e_aloadn (pc := 78) dX1_climbs_78 rfl rfl ?_
                        refine e_iload (pc := 79) dX1_climbs_79 rfl ?_
                        refine e_iloadn (pc := 81) dX1_climbs_81 rfl rfl ?_
                        have zC := CoOk.mv zg hC
                        have zE := EvC zg hE zrg2
                        have zR := RuC zg hR
                        have zk0 : zmu 27 k = 0 := (zg 27 k rfl).trans h72
                        have zpm := prC zg
                        refine e_callV (pc := 82) (as := [(0, (k : Int)), (0, (if down then 1 else 0))]) (st := []) (t_bestN_25 G zmu k down (if down then 1 else 0) rfl zC zE zR (by omega) zk0 ((zg 25 4 rfl).trans hl) ((zg 25 5 rfl).trans ha)) dX1_climbs_82 lX1_climbs_114 rfl s_25 cn_1 rfl rfl (fun r_ zm1 hq_ => ?_)
                        rw [zpm] at hq_
                        obtain ⟨zr_, zG⟩ := hq_
                        subst zr_
                        refine Ev.to (st' := [(0, ((bfA mem down (zmu 28) k : Nat) : Int))]) ?_ rfl rfl rfl
                        refine e_istore (pc := 85) (lo' := [(2, 25), (0, (if down then 1 else 0)), (0, (if ch2 then 1 else 0)), (0, (rd : Int)), (0, (k : Int)), (0, ((bfA mem down (zmu 28) k : Nat) : Int))]) dX1_climbs_85 rfl (by decide) rfl ?_
                        refine e_iloadn (pc := 87) dX1_climbs_87 rfl rfl ?_
                        refine e_iload (pc := 88) dX1_climbs_88 rfl ?_
                        refine e_aloadn (pc := 90) dX1_climbs_90 rfl rfl ?_
                        refine e_getr (pc := 91) (k := 28) dX1_climbs_91 fX1_21 s_25 rfl (by decide) ?_
                        refine e_iload (pc := 94) dX1_climbs_94 rfl ?_
                        refine e_ialdv (pc := 96) (v := (zmu 28 k)) dX1_climbs_96 s_28 (by omega) (zG.1 28 k rfl) ?_
                        refine e_icmp_eq (pc := 97) (tgt := 104) dX1_climbs_97 rfl (fun h97 => ?_) (fun h97 => ?_)
                        · skip
                          refine e_iconst (pc := 104) dX1_climbs_104 (by decide) ?_
                          refine e_ior (pc := 105) dX1_climbs_105 ?_
                          rw [show bOr (if ch2 then 1 else 0) 0 = (if ch2 then 1 else 0) from bO0 ch2]
                          refine e_istoren (pc := 106) (lo' := [(2, 25), (0, (if down then 1 else 0)), (0, (if ch2 then 1 else 0)), (0, (rd : Int)), (0, (k : Int)), (0, ((bfA mem down (zmu 28) k : Nat) : Int))]) dX1_climbs_106 rfl rfl (by decide) rfl ?_
                          refine e_aloadn (pc := 107) dX1_climbs_107 rfl rfl ?_
                          refine e_getr (pc := 108) (k := 28) dX1_climbs_108 fX1_21 s_25 rfl (by decide) ?_
                          refine e_iload (pc := 111) dX1_climbs_111 rfl ?_
                          refine e_iload (pc := 113) dX1_climbs_113 rfl ?_
                          refine e_iastm (pc := 115) (mem2 := mset zm1 28 k ((bfA mem down (zmu 28) k : Nat) : Int)) dX1_climbs_115 s_28 (by omega) rfl ?_
                          refine e_iinc (pc := 116) (lo' := [(2, 25), (0, (if down then 1 else 0)), (0, (if ch2 then 1 else 0)), (0, (rd : Int)), (0, (k : Int) + 1), (0, ((bfA mem down (zmu 28) k : Nat) : Int))]) dX1_climbs_116 rfl (by omega) rfl (by decide) rfl ?_
                          refine e_goto (pc := 119) (tgt := 58) dX1_climbs_119 rfl ?_
                          have z28 : zm1 28 = zmu 28 := funext (fun j => zG.1 28 j rfl)
                          have zbl := bestN_le (prA mem (mem 26) (mem 27) (zmu 28) (mem 25 4) (mem 25 5) k) down
                          have zrg3 : ∀ c, c < 8 → 0 ≤ (mset zm1 28 k ((bfA mem down (zmu 28) k : Nat) : Int)) 28 c ∧ (mset zm1 28 k ((bfA mem down (zmu 28) k : Nat) : Int)) 28 c ≤ 60 := by
                            intro c hc
                            rw [mset_row, z28]
                            have z1 := zrg2 c hc
                            unfold uset bfA
                            split <;> omega
                          have zrn3 : rndTo (bfA mem down) (mem 27) (zmv 28) (k + 1) = (ch2, (mset zm1 28 k ((bfA mem down (zmu 28) k : Nat) : Int)) 28) := by
                            rw [rndTo_s, if_pos h72, zrn, mset_row, z28]
                            show (ch2 || decide (((bfA mem down (zmu 28) k : Nat) : Int) ≠ zmu 28 k), _) = _
                            rw [show decide (((bfA mem down (zmu 28) k : Nat) : Int) ≠ zmu 28 k) = false from by simpa using h97]; simp
                          refine Ev.fgt [5] ?_
                          exact Ev.to (ih58 _ (by omega) (k + 1) ch2 (mset zm1 28 k ((bfA mem down (zmu 28) k : Nat) : Int)) (rfl) (by omega) (zg.tr ((scGC zG.1).ms rfl)) (zrg3) (zrn3)) rfl rfl rfl
                        · skip
                          refine e_iconst (pc := 100) dX1_climbs_100 (by decide) ?_
                          refine e_goto (pc := 101) (tgt := 105) dX1_climbs_101 rfl ?_
                          refine e_ior (pc := 105) dX1_climbs_105 ?_
                          rw [show bOr (if ch2 then 1 else 0) 1 = 1 from bO1 ch2]
                          refine e_istoren (pc := 106) (lo' := [(2, 25), (0, (if down then 1 else 0)), (0, 1), (0, (rd : Int)), (0, (k : Int)), (0, ((bfA mem down (zmu 28) k : Nat) : Int))]) dX1_climbs_106 rfl rfl (by decide) rfl ?_
                          refine e_aloadn (pc := 107) dX1_climbs_107 rfl rfl ?_
                          refine e_getr (pc := 108) (k := 28) dX1_climbs_108 fX1_21 s_25 rfl (by decide) ?_
                          refine e_iload (pc := 111) dX1_climbs_111 rfl ?_
                          refine e_iload (pc := 113) dX1_climbs_113 rfl ?_
                          refine e_iastm (pc := 115) (mem2 := mset zm1 28 k ((bfA mem down (zmu 28) k : Nat) : Int)) dX1_climbs_115 s_28 (by omega) rfl ?_
                          refine e_iinc (pc := 116) (lo' := [(2, 25), (0, (if down then 1 else 0)), (0, 1), (0, (rd : Int)), (0, (k : Int) + 1), (0, ((bfA mem down (zmu 28) k : Nat) : Int))]) dX1_climbs_116 rfl (by omega) rfl (by decide) rfl ?_
                          refine e_goto (pc := 119) (tgt := 58) dX1_climbs_119 rfl ?_
                          have z28 : zm1 28 = zmu 28 := funext (fun j => zG.1 28 j rfl)
                          have zbl := bestN_le (prA mem (mem 26) (mem 27) (zmu 28) (mem 25 4) (mem 25 5) k) down
                          have zrg3 : ∀ c, c < 8 → 0 ≤ (mset zm1 28 k ((bfA mem down (zmu 28) k : Nat) : Int)) 28 c ∧ (mset zm1 28 k ((bfA mem down (zmu 28) k : Nat) : Int)) 28 c ≤ 60 := by
                            intro c hc
                            rw [mset_row, z28]
                            have z1 := zrg2 c hc
                            unfold uset bfA
                            split <;> omega
                          have zrn3 : rndTo (bfA mem down) (mem 27) (zmv 28) (k + 1) = (true, (mset zm1 28 k ((bfA mem down (zmu 28) k : Nat) : Int)) 28) := by
                            rw [rndTo_s, if_pos h72, zrn, mset_row, z28]
                            show (ch2 || decide (((bfA mem down (zmu 28) k : Nat) : Int) ≠ zmu 28 k), _) = _
                            rw [show decide (((bfA mem down (zmu 28) k : Nat) : Int) ≠ zmu 28 k) = true from by simpa using h97]; simp
                          refine Ev.fgt [5] ?_
                          exact Ev.to (ih58 _ (by omega) (k + 1) true (mset zm1 28 k ((bfA mem down (zmu 28) k : Nat) : Int)) (rfl) (by omega) (zg.tr ((scGC zG.1).ms rfl)) (zrg3) (zrn3)) rfl rfl rfl
                      · skip
                        refine e_goto (pc := 75) (tgt := 116) dX1_climbs_75 rfl ?_
                        refine e_iinc (pc := 116) (lo' := [(2, 25), (0, (if down then 1 else 0)), (0, (if ch2 then 1 else 0)), (0, (rd : Int)), (0, (k : Int) + 1), (3, 0)]) dX1_climbs_116 rfl (by omega) rfl (by decide) rfl ?_
                        refine e_goto (pc := 119) (tgt := 58) dX1_climbs_119 rfl ?_
                        exact Ev.to (ih58 _ (by omega) (k + 1) ch2 zmu (rfl) (by omega) (zg) (zrg2) (by rw [rndTo_s, if_neg h72]; exact zrn)) rfl rfl rfl
                exact Ev.to (L58 _ 0 false zmv (rfl) (by omega) (zf) (zrg) (rfl)) rfl rfl rfl
        have zrg0 : ∀ c, c < 8 → 0 ≤ (rset mem 28 (cl0 (mem 27) (mem 28) (if down then 60 else 0) 8)) 28 c ∧ (rset mem 28 (cl0 (mem 27) (mem 28) (if down then 60 else 0) 8)) 28 c ≤ 60 := by
          intro c hc
          show 0 ≤ cl0 (mem 27) (mem 28) (if down then 60 else 0) 8 c ∧ cl0 (mem 27) (mem 28) (if down then 60 else 0) 8 c ≤ 60
          have := (hE.2 c hc).2.1
          unfold cl0
          split
          · cases down <;> decide
          · exact this
        exact Ev.to (L43 _ 0 true (rset mem 28 (cl0 (mem 27) (mem 28) (if down then 60 else 0) 8)) (rfl) (by omega) ((Fr.rf (S := scC)).rs (fun _ => rfl)) (zrg0) (rfl)) rfl rfl (by rw [show k = 8 by omega])
      · skip
        refine e_aloadn (pc := 8) dX1_climbs_8 rfl rfl ?_
        refine e_getr (pc := 9) (k := 27) dX1_climbs_9 fX1_18 s_25 rfl (by decide) ?_
        refine e_iloadn (pc := 12) dX1_climbs_12 rfl rfl ?_
        refine e_ialdv (pc := 13) (v := mem 27 k) dX1_climbs_13 s_27 (by omega) rfl ?_
        refine e_if_ne (pc := 14) (tgt := 33) dX1_climbs_14 rfl (fun h14 => ?_) (fun h14 => ?_)
        · skip
          refine e_iinc (pc := 33) (lo' := [(2, 25), (0, (if down then 1 else 0)), (0, (k : Int) + 1), (3, 0), (3, 0), (3, 0)]) dX1_climbs_33 rfl (by omega) rfl (by decide) rfl ?_
          refine e_goto (pc := 36) (tgt := 2) dX1_climbs_36 rfl ?_
          exact Ev.to (ih2 _ (by omega) (k + 1) (rfl) (by omega)) rfl rfl (by rw [cl0_f h14])
        · skip
          refine e_aloadn (pc := 17) dX1_climbs_17 rfl rfl ?_
          refine e_getr (pc := 18) (k := 28) dX1_climbs_18 fX1_21 s_25 rfl (by decide) ?_
          refine e_iloadn (pc := 21) dX1_climbs_21 rfl rfl ?_
          refine e_iloadn (pc := 22) dX1_climbs_22 rfl rfl ?_
          refine e_if_eq (pc := 23) (tgt := 31) dX1_climbs_23 rfl (fun h23 => ?_) (fun h23 => ?_)
          · skip
            refine e_iconst (pc := 31) dX1_climbs_31 (by decide) ?_
            refine e_iastm (pc := 32) (mem2 := rset mem 28 (cl0 (mem 27) (mem 28) (if down then 60 else 0) (k + 1))) dX1_climbs_32 s_28 (by omega) (by rw [mset_rset, Int.toNat_natCast, ← cl0_t (kd := mem 27) h14]; congr 2; cases down <;> simp_all) ?_
            refine e_iinc (pc := 33) (lo' := [(2, 25), (0, (if down then 1 else 0)), (0, (k : Int) + 1), (3, 0), (3, 0), (3, 0)]) dX1_climbs_33 rfl (by omega) rfl (by decide) rfl ?_
            refine e_goto (pc := 36) (tgt := 2) dX1_climbs_36 rfl ?_
            exact Ev.to (ih2 _ (by omega) (k + 1) (rfl) (by omega)) rfl rfl rfl
          · skip
            refine e_bipush (pc := 26) dX1_climbs_26 rfl (by decide) ?_
            refine e_goto (pc := 28) (tgt := 32) dX1_climbs_28 rfl ?_
            refine e_iastm (pc := 32) (mem2 := rset mem 28 (cl0 (mem 27) (mem 28) (if down then 60 else 0) (k + 1))) dX1_climbs_32 s_28 (by omega) (by rw [mset_rset, Int.toNat_natCast, ← cl0_t (kd := mem 27) h14]; congr 2; cases down <;> simp_all) ?_
            refine e_iinc (pc := 33) (lo' := [(2, 25), (0, (if down then 1 else 0)), (0, (k : Int) + 1), (3, 0), (3, 0), (3, 0)]) dX1_climbs_33 rfl (by omega) rfl (by decide) rfl ?_
            refine e_goto (pc := 36) (tgt := 2) dX1_climbs_36 rfl ?_
            exact Ev.to (ih2 _ (by omega) (k + 1) (rfl) (by omega)) rfl rfl rfl
  exact Ev.to (L2 _ 0 (rfl) (by omega)) rfl rfl (by rw [cl0_0, rset_self])
