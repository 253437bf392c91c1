section MMore
variable {G : Gm} {M : Mt} {Q : Option AV → Mem → Prop} {pc : Nat} {lo st : List AV} {mem : Mem}
theorem e_min {ix : Nat} {a b : Int} (hd : decode M.2.1 pc = .ok (.invokestatic ix, 3)) (hm : MLm M.1.cls ix Lib.Math.min.name Lib.Math.min.code 2) (h1 : 1 ≤ M.2.2.2.2.1) (h2 : Nat.ble ((st.map cv_cat).sum + 13) M.2.2.2.2.2 = true) (kk : Ev G M Q (pc + 3) lo ((0, if b < a then b else a) :: st) mem) : Ev G M Q pc lo ((0, b) :: (0, a) :: st) mem := by
  intro p e s m args below meth c' H locs ls C hW hS hT hL hst
  obtain ⟨hb, ha, hst⟩ := st2 hst
  have hb' := okv0' hb
  have ha' := okv0' ha
  have hk := kk p e s m args below meth c' H locs ls C hW hS hT hL (stp (by split <;> assumption) hst)
  have hts := C.2.2.2.2.2.1
  refine va_mmin C.1 C.2.1 (C.2.2.2.1.trans hL.1.symm) C.2.2.2.2.1 (hts _ (List.mem_cons_of_mem _ hm.1)) (hts _ (List.mem_cons_of_mem _ hm.2.1)) (hts _ (List.mem_cons_of_mem _ hm.2.2.1)) (hts _ (List.mem_cons_of_mem _ hm.2.2.2)) h1 (by rw [cats]; exact Nat.le_of_ble_eq_true h2) (Nat.le_refl _) (Nat.le_refl _) hd ?_
  have e9 : (if Int32.ofInt b < Int32.ofInt a then Int32.ofInt b else Int32.ofInt a) = Int32.ofInt (if b < a then b else a) := by
    by_cases h : b < a
    · rw [if_pos ((i32_lt hb' ha').mpr h), if_pos h]
    · rw [if_neg (fun q => h ((i32_lt hb' ha').mp q)), if_neg h]
  show W _ _ _ _ _ _ _ _ _ _ _ _ _ _ _ (F0 m (pc + 3) ls (.int (if Int32.ofInt b < Int32.ofInt a then Int32.ofInt b else Int32.ofInt a) :: _))
  rw [e9]; exact hk
theorem e_abs {ix : Nat} {a : Int} (hd : decode M.2.1 pc = .ok (.invokestatic ix, 3)) (hm : MLm M.1.cls ix Lib.Math.abs.name Lib.Math.abs.code 1) (h1 : 1 ≤ M.2.2.2.2.1) (h2 : Nat.ble ((st.map cv_cat).sum + 13) M.2.2.2.2.2 = true) (kk : Ev G M Q (pc + 3) lo ((0, if 0 ≤ a then a else w32 (0 - a)) :: st) mem) : Ev G M Q pc lo ((0, a) :: st) mem := by
  intro p e s m args below meth c' H locs ls C hW hS hT hL hst
  obtain ⟨ha, hst⟩ := st1 hst
  have ha' := okv0' ha
  have hk := kk p e s m args below meth c' H locs ls C hW hS hT hL (stp (by split; · exact ha
                                                                            · exact okv0 (w32_ok _)) hst)
  have hts := C.2.2.2.2.2.1
  refine va_mabs C.1 C.2.1 (C.2.2.2.1.trans hL.1.symm) C.2.2.2.2.1 (hts _ (List.mem_cons_of_mem _ hm.1)) (hts _ (List.mem_cons_of_mem _ hm.2.1)) (hts _ (List.mem_cons_of_mem _ hm.2.2.1)) (hts _ (List.mem_cons_of_mem _ hm.2.2.2)) h1 (by rw [cats]; exact Nat.le_of_ble_eq_true h2) (Nat.le_refl _) (Nat.le_refl _) hd ?_
  have e3 : (0 ≤ Int32.ofInt a) ↔ 0 ≤ a := i32_le (a := 0) (by decide) ha'
  have hk : W p G.1 e (rmM M) s m args below meth c' H locs 0 0 (MQ below (Qc G Q) args s 0 0 (AA G)) (F0 m (pc + 3) ls (.int (Int32.ofInt (if 0 ≤ a then a else w32 (0 - a))) :: st.map (cv G.ad))) := hk
  by_cases h : 0 ≤ a
  · rw [if_pos h] at hk
    rw [if_pos (e3.mpr h)]; exact hk
  · rw [if_neg h, i32_w, Int32.ofInt_sub] at hk
    rw [if_neg (fun q => h (e3.mp q))]; exact hk
/-- System.arraycopy between two int rows -/
theorem e_copy {ix a b n0 n1 b0 b1 : Nat} {sp dp n : Int} (hd : decode M.2.1 pc = .ok (.invokestatic ix, 3)) (hm : Cond.methodLink M.1.cls ix arraycopyName ∈ wtb ∧ Cond.native arraycopyName ∈ wtb ∧ Cond.static arraycopyName ∈ wtb ∧ Cond.initialized "java/lang/System" ∈ wtb) (h1 : 1 ≤ M.2.2.2.2.1) (h2 : Nat.ble ((st.map cv_cat).sum + 18) M.2.2.2.2.2 = true)
    (ha : shp a = .inr (0, n0, b0)) (hb : shp b = .inr (0, n1, b1)) (hp : 0 < n0 ∧ 0 < n1) (hs : 0 ≤ sp ∧ 0 ≤ dp ∧ 0 ≤ n ∧ sp + n ≤ n0 ∧ dp + n ≤ n1) (kk : Ev G M Q (pc + 3) lo st (rset mem b (cpy (mem a) (mem b) sp.toNat dp.toNat n.toNat))) : Ev G M Q pc lo ((0, n) :: (0, dp) :: (2, (b : Int)) :: (0, sp) :: (2, (a : Int)) :: st) mem := by
  intro p e s m args below meth c' H locs ls C hW hS hT hL hst
  have on := okv0' (st1 hst).1
  have od := okv0' (st1 (st1 hst).2).1
  have os := okv0' (st1 (st3 hst).2.2.2).1
  have hst5 := (st2 (st3 hst).2.2.2).2.2
  have hga := ws_get (ad := G.ad) (cA := G.cA) (mem := mem) (shp_ltA ha hp.1)
  have hgb := ws_get (ad := G.ad) (cA := G.cA) (mem := mem) (shp_ltA hb hp.2)
  rw [ceE_arr ha] at hga
  rw [ceE_arr hb] at hgb
  have hts := C.2.2.2.2.2.1
  have z0 : okI 0 := by decide
  refine va_copyi C.1 C.2.1 (C.2.2.2.1.trans hL.1.symm) C.2.2.2.2.1 (hts _ (List.mem_cons_of_mem _ hm.1)) (hts _ (List.mem_cons_of_mem _ hm.2.1)) (hts _ (List.mem_cons_of_mem _ hm.2.2.1)) (hts _ (List.mem_cons_of_mem _ hm.2.2.2)) hW.2.1 hW.1 hW.2.2.1 hS a b 0 0 hga hgb tys0 tys0 rfl (fun q => ?_) (fun q => ?_) (fun q => ?_) ?_ ?_ (fun i hi => rfl) h1 ?_ hd (fun H1 locs1 hP1 hD1 hS1 => ?_)
  · rw [show (0 : Int32) = Int32.ofInt 0 from rfl, i32_lt os z0] at q; omega
  · rw [show (0 : Int32) = Int32.ofInt 0 from rfl, i32_lt od z0] at q; omega
  · rw [show (0 : Int32) = Int32.ofInt 0 from rfl, i32_lt on z0] at q; omega
  · rw [i32_clamp os hs.1, i32_clamp on hs.2.2.1]; omega
  · rw [i32_clamp od hs.2.1, i32_clamp on hs.2.2.1]; omega
  · rw [cats]; exact Nat.le_of_ble_eq_true h2
  · rw [i32_clamp os hs.1, i32_clamp od hs.2.1, i32_clamp on hs.2.2.1, ws_set (r := cpy (mem a) (mem b) sp.toNat dp.toNat n.toNat) (by
      rw [ceE_arr hb]
      show Sum.inl (_, n1, Sum.inl _) = Sum.inl (_, n1, Sum.inl _)
      congr 4
      funext j
      unfold cpy va_cpy
      split <;> rfl)] at hP1 hD1
    refine kk p e s m args below meth c' H1 locs1 ls C ⟨hP1, hW.2.1, hD1, okm_rset hW.2.2.2 ?_⟩ hS1 hT hL hst5
    intro j
    rw [hb]
    show okI _
    unfold cpy
    split
    · exact okm_arr hW.2.2.2 ha (by decide)
    · exact okm_arr hW.2.2.2 hb (by decide)
end MMore
