theorem t_settleA_16 (G : Gm) (mem : Mem) (n : Nat) (F K : Nat → Bool) (fm w0 : Nat → Int) (hfn : mem 16 11 = (n : Int)) (hnl : mem 16 13 = ((cnt K 8 : Nat) : Int)) (hG : GI (mem 22) (mem 23) w0 n F K fm 8) (hFK : ∀ c, c < 8 → K c = true → F c = false) (hKr : ∀ c, c < 8 → K c = true → (1 ≤ mem 2 c ∧ mem 2 c ≤ 30) ∧ (1 ≤ mem 3 c ∧ mem 3 c ≤ 7)) (hwr : ∀ c, c < 8 → 0 ≤ mem 20 c ∧ mem 20 c ≤ 60) (hR : RuOk mem) (ht : 0 ≤ mem 17 0 ∧ mem 17 0 ≤ 59) (hw : ∀ c, c < 8 → K c = false → mem 20 c = if F c then fm c else 60) : Con G mX1_settle [(2, 16), (0, -1), (0, 60)] mem (fun r m' => ∃ v : Int, r = some (0, v) ∧ Fr (scL 16) mem m' ∧ (0 ≤ v ∧ v ≤ 60) ∧ (∀ t, 0 ≤ t → t < 60 → (v ≤ t ↔ RB mem (mem 17 0) (m' 20) t)) ∧ IsCome (fun c => if F c then fm c else 60) K (mem 2) (mem 3) (m' 20)) := by
  refine Con.of (lo := [(2, 16), (0, -1), (0, 60)]) (by decide +kernel) (Nat.le_of_ble_eq_true rfl) rfl ?_
  generalize hQ_ : (fun r m' => ∃ v : Int, r = some (0, v) ∧ Fr (scL 16) mem m' ∧ (0 ≤ v ∧ v ≤ 60) ∧ (∀ t, 0 ≤ t → t < 60 → (v ≤ t ↔ RB mem (mem 17 0) (m' 20) t)) ∧ IsCome (fun c => if F c then fm c else 60) K (mem 2) (mem 3) (m' 20) : Option AV → Mem → Prop) = Q_
  obtain ⟨zi1, zi2, zi3, zi4, zi5, zi6⟩ := hG
  have zzcp : ∀ j, j < n → cpy (mem 22) (mem 21) 0 0 8 j = mem 22 j := by
    intro j hj
    unfold cpy
    rw [if_pos ⟨by omega, by omega⟩]
    congr 1; omega
  have zzS : Srt (cpy (mem 22) (mem 21) 0 0 8) n := zi2.congr zzcp
  have zzR : ∀ j, j < n → 0 ≤ cpy (mem 22) (mem 21) 0 0 8 j ∧ cpy (mem 22) (mem 21) 0 0 8 j < 60 := fun j hj => by rw [zzcp j hj]; exact zi3 j hj
  have zzC : ∀ t, t < 60 → cnO (cpy (mem 22) (mem 21) 0 0 8) n t = cnt (fun c => F c && decide (fm c ≤ t)) 8 := fun t ht => by rw [cnO_congr zzcp]; exact zi4 t ht
  
  have C45 : ∀ (zn1 : Nat) (zmv : Mem), (zmv 16 9 = (zn1 : Int)) → (zn1 ≤ 8) → (Fr (scL 16) mem zmv) → (Srt (zmv 21) zn1) → (∀ j, j < zn1 → 0 ≤ zmv 21 j ∧ zmv 21 j < 60) → (∀ t, t < 60 → cnO (zmv 21) zn1 t = cnO (fun c => if K c then 60 else zmv 20 c) 8 t) → (∀ c, c < 8 → K c = false → zmv 20 c = (fun c => if F c then fm c else 60) c) → (∀ c, c < 8 → 0 ≤ zmv 20 c ∧ zmv 20 c ≤ 60) → Ev G mX1_settle Q_ 45 [(2, 16), (0, -1), (0, 60)] [] zmv := by
    intro zn1 zmv zzt zzn zzg zzs zzr zzc zzw zzv
    refine e_aloadn (pc := 45) dX1_settle_45 rfl rfl ?_
    refine e_getiv (pc := 46) (v := ((cnt K 8 : Nat) : Int)) dX1_settle_46 fX1_79 s_16 rfl (by decide) ((zzg 16 13 rfl).trans hnl) ?_
    refine e_if_le (pc := 49) (tgt := 56) dX1_settle_49 rfl (fun h49 => ?_) (fun h49 => ?_)
    · skip
      have zzh4 : zmv 10 4 = mem 10 4 := zzg 10 4 rfl
      have zzh12 : zmv 12 = mem 12 := funext (fun j => zzg 12 j rfl)
      have zzh13 : zmv 13 = mem 13 := funext (fun j => zzg 13 j rfl)
      have zzh14 : zmv 14 = mem 14 := funext (fun j => zzg 14 j rfl)
      have zzh15 : zmv 15 = mem 15 := funext (fun j => zzg 15 j rfl)
      have zzK0 : ∀ c, c < 8 → K c = false := fun c hc => cnt_zero (p := K) (n := 8) (by omega) c hc
      have zzcn : ∀ t, t < 60 → cnO (zmv 21) zn1 t = cnO (zmv 20) 8 t := fun t ht => (zzc t ht).trans (cnO_congr (fun c hc => by rw [zzK0 c hc]; rfl)).symm
      have zzI2 : IsCome (fun c => if F c then fm c else 60) K (mem 2) (mem 3) (zmv 20) := IsCome_firm zzK0 (fun c hc => zzw c hc (zzK0 c hc)) zzv
      refine e_aloadn (pc := 56) dX1_settle_56 rfl rfl ?_
      refine e_getr (pc := 57) (k := 10) dX1_settle_57 fX1_43 s_16 rfl (by decide) ?_
      refine e_aloadn (pc := 60) dX1_settle_60 rfl rfl ?_
      refine e_getr (pc := 61) (k := 17) dX1_settle_61 fX1_13 s_16 rfl (by decide) ?_
      refine e_iconst (pc := 64) dX1_settle_64 (by decide) ?_
      refine e_ialdv (pc := 65) (v := mem 17 0) dX1_settle_65 s_17 (by omega) (zzg 17 0 rfl) ?_
      refine e_aloadn (pc := 66) dX1_settle_66 rfl rfl ?_
      refine e_getr (pc := 67) (k := 21) dX1_settle_67 fX1_27 s_16 rfl (by decide) ?_
      refine e_aloadn (pc := 70) dX1_settle_70 rfl rfl ?_
      refine e_getiv (pc := 71) (v := (zn1 : Int)) dX1_settle_71 fX1_76 s_16 rfl (by decide) (zzt) ?_
      refine e_aloadn (pc := 74) dX1_settle_74 rfl rfl ?_
      refine e_getr (pc := 75) (k := 20) dX1_settle_75 fX1_24 s_16 rfl (by decide) ?_
      refine e_callV (pc := 78) (as := [(0, mem 17 0), (2, 21), (0, (zn1 : Int)), (2, 20)]) (st := []) (t_beginning_16 G zmv (mem 17 0) zn1 (RuOk.mv zzh4 zzh12 zzh13 zzh14 zzh15 hR) ht zzn zzs zzr (fun c hc => (zzI2 c hc).1)) dX1_settle_78 lX1_settle_101 rfl s_10 cn_4 rfl rfl (fun r_ zm3 hq_ => ?_)
      obtain ⟨zv, zzr_, zze_, zzvb, zzvt⟩ := hq_
      subst zzr_
      rw [zze_]
      refine Ev.to (st' := [(0, zv)]) ?_ rfl rfl rfl
      have zzfin : ∀ t, 0 ≤ t → t < 60 → (zv ≤ t ↔ RB mem (mem 17 0) (zmv 20) t) := fun t h0 h1 => (zzvt t h0 h1).trans (RB_of zzh4 zzh12 zzh13 zzh14 zzh15 (zzcn t h1))
      have zzI3 : IsCome (fun c => if F c then fm c else 60) K (mem 2) (mem 3) (zmv 20) := zzI2
      exact e_iret (pc := 81) dX1_settle_81 rfl (by rw [← hQ_]; exact ⟨zv, rfl, zzg, zzvb, zzfin, zzI3⟩)
    · skip
      refine e_aloadn (pc := 52) dX1_settle_52 rfl rfl ?_
      obtain ⟨zzL1, zzL2⟩ := LkOk_of (isL := K) (A := mem 23) (lag := mem 2) (seen := mem 3) zi5 hKr
      have zzq2 : zmv 2 = mem 2 := funext (fun j => zzg 2 j rfl)
      have zzq3 : zmv 3 = mem 3 := funext (fun j => zzg 3 j rfl)
      refine e_callV (pc := 53) (as := []) (st := []) (t_callLookers_16 G zmv zn1 (cnt K 8) (fun j => (mem 23 j).toNat) K zzt zzn zzs zzr ((zzg 16 13 rfl).trans hnl) (fun j hj => (zzg 23 j rfl).trans (zzL2 j hj)) (by rw [zzq2, zzq3]; exact zzL1) zzv zzc) dX1_settle_53 lX1_settle_98 rfl s_16 cn_1 rfl rfl (fun r_ zm2 hq_ => ?_)
      rw [zzq2, zzq3] at hq_
      obtain ⟨zzr_, zzf2, zn2, zzt2, zzn2, zzs2, zzr2, zzc2, zzI2⟩ := hq_
      subst zzr_
      have zzg2 := zzg.tr zzf2
      refine Ev.to (st' := []) ?_ rfl rfl rfl
      have zzh4 : zm2 10 4 = mem 10 4 := zzg2 10 4 rfl
      have zzh12 : zm2 12 = mem 12 := funext (fun j => zzg2 12 j rfl)
      have zzh13 : zm2 13 = mem 13 := funext (fun j => zzg2 13 j rfl)
      have zzh14 : zm2 14 = mem 14 := funext (fun j => zzg2 14 j rfl)
      have zzh15 : zm2 15 = mem 15 := funext (fun j => zzg2 15 j rfl)
      have zzcn := zzc2
      refine e_aloadn (pc := 56) dX1_settle_56 rfl rfl ?_
      refine e_getr (pc := 57) (k := 10) dX1_settle_57 fX1_43 s_16 rfl (by decide) ?_
      refine e_aloadn (pc := 60) dX1_settle_60 rfl rfl ?_
      refine e_getr (pc := 61) (k := 17) dX1_settle_61 fX1_13 s_16 rfl (by decide) ?_
      refine e_iconst (pc := 64) dX1_settle_64 (by decide) ?_
      refine e_ialdv (pc := 65) (v := mem 17 0) dX1_settle_65 s_17 (by omega) (zzg2 17 0 rfl) ?_
      refine e_aloadn (pc := 66) dX1_settle_66 rfl rfl ?_
      refine e_getr (pc := 67) (k := 21) dX1_settle_67 fX1_27 s_16 rfl (by decide) ?_
      refine e_aloadn (pc := 70) dX1_settle_70 rfl rfl ?_
      refine e_getiv (pc := 71) (v := (zn2 : Int)) dX1_settle_71 fX1_76 s_16 rfl (by decide) (zzt2) ?_
      refine e_aloadn (pc := 74) dX1_settle_74 rfl rfl ?_
      refine e_getr (pc := 75) (k := 20) dX1_settle_75 fX1_24 s_16 rfl (by decide) ?_
      refine e_callV (pc := 78) (as := [(0, mem 17 0), (2, 21), (0, (zn2 : Int)), (2, 20)]) (st := []) (t_beginning_16 G zm2 (mem 17 0) zn2 (RuOk.mv zzh4 zzh12 zzh13 zzh14 zzh15 hR) ht zzn2 zzs2 zzr2 (fun c hc => (zzI2 c hc).1)) dX1_settle_78 lX1_settle_101 rfl s_10 cn_4 rfl rfl (fun r_ zm3 hq_ => ?_)
      obtain ⟨zv, zzr_, zze_, zzvb, zzvt⟩ := hq_
      subst zzr_
      rw [zze_]
      refine Ev.to (st' := [(0, zv)]) ?_ rfl rfl rfl
      have zzfin : ∀ t, 0 ≤ t → t < 60 → (zv ≤ t ↔ RB mem (mem 17 0) (zm2 20) t) := fun t h0 h1 => (zzvt t h0 h1).trans (RB_of zzh4 zzh12 zzh13 zzh14 zzh15 (zzcn t h1))
      have zzI3 : IsCome (fun c => if F c then fm c else 60) K (mem 2) (mem 3) (zm2 20) := IsCome.congr zzI2 (fun c hc hk => zzw c hc hk)
      exact e_iret (pc := 81) dX1_settle_81 rfl (by rw [← hQ_]; exact ⟨zv, rfl, zzg2, zzvb, zzfin, zzI3⟩)
  refine e_aloadn (pc := 0) dX1_settle_0 rfl rfl ?_
  refine e_getr (pc := 1) (k := 22) dX1_settle_1 fX1_30 s_16 rfl (by decide) ?_
  refine e_iconst (pc := 4) dX1_settle_4 (by decide) ?_
  refine e_aloadn (pc := 5) dX1_settle_5 rfl rfl ?_
  refine e_getr (pc := 6) (k := 21) dX1_settle_6 fX1_27 s_16 rfl (by decide) ?_
  refine e_iconst (pc := 9) dX1_settle_9 (by decide) ?_
  refine e_bipush (pc := 10) dX1_settle_10 rfl (by decide) ?_
  refine e_copy (pc := 12) dX1_settle_12 lX1_cp47 (by decide) rfl s_22 s_21 (by decide) (by decide) ?_
  refine e_aloadn (pc := 15) dX1_settle_15 rfl rfl ?_
  refine e_aloadn (pc := 16) dX1_settle_16 rfl rfl ?_
  refine e_getiv (pc := 17) (v := (n : Int)) dX1_settle_17 fX1_89 s_16 rfl (by decide) (hfn) ?_
  refine e_putI (pc := 20) (mem2 := mset (rset mem 21 (cpy (mem 22) (mem 21) 0 0 8)) 16 9 (n : Int)) dX1_settle_20 fX1_76 s_16 rfl (by decide) pw_1_9 rfl ?_
  refine e_iloadn (pc := 23) dX1_settle_23 rfl rfl ?_
  refine e_if_lt (pc := 24) (tgt := 45) dX1_settle_24 rfl (fun h24 => ?_) (fun h24 => ?_)
  · skip
    exact Ev.to (C45 n (mset (rset mem 21 (cpy (mem 22) (mem 21) 0 0 8)) 16 9 (n : Int)) (rfl) (zi1) (((Fr.rf.rs (fun _ => rfl)).ms rfl)) (zzS) (zzR) (fun t ht => (zzC t ht).trans (st_cnt hFK (fun c hc hk => hw c hc hk) ht)) (fun c hc hk => hw c hc hk) (hwr)) rfl rfl rfl
  · skip
    exfalso; omega

theorem t_settleB_16 (G : Gm) (mem : Mem) (n : Nat) (F K : Nat → Bool) (fm w0 : Nat → Int) (hfn : mem 16 11 = (n : Int)) (hnl : mem 16 13 = ((cnt K 8 : Nat) : Int)) (hG : GI (mem 22) (mem 23) w0 n F K fm 8) (hFK : ∀ c, c < 8 → K c = true → F c = false) (hKr : ∀ c, c < 8 → K c = true → (1 ≤ mem 2 c ∧ mem 2 c ≤ 30) ∧ (1 ≤ mem 3 c ∧ mem 3 c ≤ 7)) (hwr : ∀ c, c < 8 → 0 ≤ mem 20 c ∧ mem 20 c ≤ 60) (hR : RuOk mem) (ht : 0 ≤ mem 17 0 ∧ mem 17 0 ≤ 59) (o : Nat) (x : Int) (ho : o < 8) (hx : 0 ≤ x ∧ x ≤ 60) (hFo : F o = false) (hKo : K o = false) (hw : ∀ c, c < 8 → K c = false → c ≠ o → mem 20 c = if F c then fm c else 60) : Con G mX1_settle [(2, 16), (0, (o : Int)), (0, x)] mem (fun r m' => ∃ v : Int, r = some (0, v) ∧ Fr (scL 16) mem m' ∧ (0 ≤ v ∧ v ≤ 60) ∧ (∀ t, 0 ≤ t → t < 60 → (v ≤ t ↔ RB mem (mem 17 0) (m' 20) t)) ∧ IsCome (fun c => if c = o then x else if F c then fm c else 60) K (mem 2) (mem 3) (m' 20)) := by
  refine Con.of (lo := [(2, 16), (0, (o : Int)), (0, x)]) (by decide +kernel) (Nat.le_of_ble_eq_true rfl) rfl ?_
  generalize hQ_ : (fun r m' => ∃ v : Int, r = some (0, v) ∧ Fr (scL 16) mem m' ∧ (0 ≤ v ∧ v ≤ 60) ∧ (∀ t, 0 ≤ t → t < 60 → (v ≤ t ↔ RB mem (mem 17 0) (m' 20) t)) ∧ IsCome (fun c => if c = o then x else if F c then fm c else 60) K (mem 2) (mem 3) (m' 20) : Option AV → Mem → Prop) = Q_
  obtain ⟨zi1, zi2, zi3, zi4, zi5, zi6⟩ := hG
  have zzcp : ∀ j, j < n → cpy (mem 22) (mem 21) 0 0 8 j = mem 22 j := by
    intro j hj
    unfold cpy
    rw [if_pos ⟨by omega, by omega⟩]
    congr 1; omega
  have zzS : Srt (cpy (mem 22) (mem 21) 0 0 8) n := zi2.congr zzcp
  have zzR : ∀ j, j < n → 0 ≤ cpy (mem 22) (mem 21) 0 0 8 j ∧ cpy (mem 22) (mem 21) 0 0 8 j < 60 := fun j hj => by rw [zzcp j hj]; exact zi3 j hj
  have zzC : ∀ t, t < 60 → cnO (cpy (mem 22) (mem 21) 0 0 8) n t = cnt (fun c => F c && decide (fm c ≤ t)) 8 := fun t ht => by rw [cnO_congr zzcp]; exact zi4 t ht
  
  have C45 : ∀ (zn1 : Nat) (zmv : Mem), (zmv 16 9 = (zn1 : Int)) → (zn1 ≤ 8) → (Fr (scL 16) mem zmv) → (Srt (zmv 21) zn1) → (∀ j, j < zn1 → 0 ≤ zmv 21 j ∧ zmv 21 j < 60) → (∀ t, t < 60 → cnO (zmv 21) zn1 t = cnO (fun c => if K c then 60 else zmv 20 c) 8 t) → (∀ c, c < 8 → K c = false → zmv 20 c = (fun c => if c = o then x else if F c then fm c else 60) c) → (∀ c, c < 8 → 0 ≤ zmv 20 c ∧ zmv 20 c ≤ 60) → Ev G mX1_settle Q_ 45 [(2, 16), (0, (o : Int)), (0, x)] [] zmv := by
    intro zn1 zmv zzt zzn zzg zzs zzr zzc zzw zzv
    refine e_aloadn (pc := 45) dX1_settle_45 rfl rfl ?_
    refine e_getiv (pc := 46) (v := ((cnt K 8 : Nat) : Int)) dX1_settle_46 fX1_79 s_16 rfl (by decide) ((zzg 16 13 rfl).trans hnl) ?_
    refine e_if_le (pc := 49) (tgt := 56) dX1_settle_49 rfl (fun h49 => ?_) (fun h49 => ?_)
    · skip
      have zzh4 : zmv 10 4 = mem 10 4 := zzg 10 4 rfl
      have zzh12 : zmv 12 = mem 12 := funext (fun j => zzg 12 j rfl)
      have zzh13 : zmv 13 = mem 13 := funext (fun j => zzg 13 j rfl)
      have zzh14 : zmv 14 = mem 14 := funext (fun j => zzg 14 j rfl)
      have zzh15 : zmv 15 = mem 15 := funext (fun j => zzg 15 j rfl)
      have zzK0 : ∀ c, c < 8 → K c = false := fun c hc => cnt_zero (p := K) (n := 8) (by omega) c hc
      have zzcn : ∀ t, t < 60 → cnO (zmv 21) zn1 t = cnO (zmv 20) 8 t := fun t ht => (zzc t ht).trans (cnO_congr (fun c hc => by rw [zzK0 c hc]; rfl)).symm
      have zzI2 : IsCome (fun c => if c = o then x else if F c then fm c else 60) K (mem 2) (mem 3) (zmv 20) := IsCome_firm zzK0 (fun c hc => zzw c hc (zzK0 c hc)) zzv
      refine e_aloadn (pc := 56) dX1_settle_56 rfl rfl ?_
      refine e_getr (pc := 57) (k := 10) dX1_settle_57 fX1_43 s_16 rfl (by decide) ?_
      refine e_aloadn (pc := 60) dX1_settle_60 rfl rfl ?_
      refine e_getr (pc := 61) (k := 17) dX1_settle_61 fX1_13 s_16 rfl (by decide) ?_
      refine e_iconst (pc := 64) dX1_settle_64 (by decide) ?_
      refine e_ialdv (pc := 65) (v := mem 17 0) dX1_settle_65 s_17 (by omega) (zzg 17 0 rfl) ?_
      refine e_aloadn (pc := 66) dX1_settle_66 rfl rfl ?_
      refine e_getr (pc := 67) (k := 21) dX1_settle_67 fX1_27 s_16 rfl (by decide) ?_
      refine e_aloadn (pc := 70) dX1_settle_70 rfl rfl ?_
      refine e_getiv (pc := 71) (v := (zn1 : Int)) dX1_settle_71 fX1_76 s_16 rfl (by decide) (zzt) ?_
      refine e_aloadn (pc := 74) dX1_settle_74 rfl rfl ?_
      refine e_getr (pc := 75) (k := 20) dX1_settle_75 fX1_24 s_16 rfl (by decide) ?_
      refine e_callV (pc := 78) (as := [(0, mem 17 0), (2, 21), (0, (zn1 : Int)), (2, 20)]) (st := []) (t_beginning_16 G zmv (mem 17 0) zn1 (RuOk.mv zzh4 zzh12 zzh13 zzh14 zzh15 hR) ht zzn zzs zzr (fun c hc => (zzI2 c hc).1)) dX1_settle_78 lX1_settle_101 rfl s_10 cn_4 rfl rfl (fun r_ zm3 hq_ => ?_)
      obtain ⟨zv, zzr_, zze_, zzvb, zzvt⟩ := hq_
      subst zzr_
      rw [zze_]
      refine Ev.to (st' := [(0, zv)]) ?_ rfl rfl rfl
      have zzfin : ∀ t, 0 ≤ t → t < 60 → (zv ≤ t ↔ RB mem (mem 17 0) (zmv 20) t) := fun t h0 h1 => (zzvt t h0 h1).trans (RB_of zzh4 zzh12 zzh13 zzh14 zzh15 (zzcn t h1))
      have zzI3 : IsCome (fun c => if c = o then x else if F c then fm c else 60) K (mem 2) (mem 3) (zmv 20) := zzI2
      exact e_iret (pc := 81) dX1_settle_81 rfl (by rw [← hQ_]; exact ⟨zv, rfl, zzg, zzvb, zzfin, zzI3⟩)
    · skip
      refine e_aloadn (pc := 52) dX1_settle_52 rfl rfl ?_
      obtain ⟨zzL1, zzL2⟩ := LkOk_of (isL := K) (A := mem 23) (lag := mem 2) (seen := mem 3) zi5 hKr
      have zzq2 : zmv 2 = mem 2 := funext (fun j => zzg 2 j rfl)
      have zzq3 : zmv 3 = mem 3 := funext (fun j => zzg 3 j rfl)
      refine e_callV (pc := 53) (as := []) (st := []) (t_callLookers_16 G zmv zn1 (cnt K 8) (fun j => (mem 23 j).toNat) K zzt zzn zzs zzr ((zzg 16 13 rfl).trans hnl) (fun j hj => (zzg 23 j rfl).trans (zzL2 j hj)) (by rw [zzq2, zzq3]; exact zzL1) zzv zzc) dX1_settle_53 lX1_settle_98 rfl s_16 cn_1 rfl rfl (fun r_ zm2 hq_ => ?_)
      rw [zzq2, zzq3] at hq_
      obtain ⟨zzr_, zzf2, zn2, zzt2, zzn2, zzs2, zzr2, zzc2, zzI2⟩ := hq_
      subst zzr_
      have zzg2 := zzg.tr zzf2
      refine Ev.to (st' := []) ?_ rfl rfl rfl
      have zzh4 : zm2 10 4 = mem 10 4 := zzg2 10 4 rfl
      have zzh12 : zm2 12 = mem 12 := funext (fun j => zzg2 12 j rfl)
      have zzh13 : zm2 13 = mem 13 := funext (fun j => zzg2 13 j rfl)
      have zzh14 : zm2 14 = mem 14 := funext (fun j => zzg2 14 j rfl)
      have zzh15 : zm2 15 = mem 15 := funext (fun j => zzg2 15 j rfl)
      have zzcn := zzc2
      refine e_aloadn (pc := 56) dX1_settle_56 rfl rfl ?_
      refine e_getr (pc := 57) (k := 10) dX1_settle_57 fX1_43 s_16 rfl (by decide) ?_
      refine e_aloadn (pc := 60) dX1_settle_60 rfl rfl ?_
      refine e_getr (pc := 61) (k := 17) dX1_settle_61 fX1_13 s_16 rfl (by decide) ?_
      refine e_iconst (pc := 64) dX1_settle_64 (by decide) ?_
      refine e_ialdv (pc := 65) (v := mem 17 0) dX1_settle_65 s_17 (by omega) (zzg2 17 0 rfl) ?_
      refine e_aloadn (pc := 66) dX1_settle_66 rfl rfl ?_
      refine e_getr (pc := 67) (k := 21) dX1_settle_67 fX1_27 s_16 rfl (by decide) ?_
      refine e_aloadn (pc := 70) dX1_settle_70 rfl rfl ?_
      refine e_getiv (pc := 71) (v := (zn2 : Int)) dX1_settle_71 fX1_76 s_16 rfl (by decide) (zzt2) ?_
      refine e_aloadn (pc := 74) dX1_settle_74 rfl rfl ?_
      refine e_getr (pc := 75) (k := 20) dX1_settle_75 fX1_24 s_16 rfl (by decide) ?_
      refine e_callV (pc := 78) (as := [(0, mem 17 0), (2, 21), (0, (zn2 : Int)), (2, 20)]) (st := []) (t_beginning_16 G zm2 (mem 17 0) zn2 (RuOk.mv zzh4 zzh12 zzh13 zzh14 zzh15 hR) ht zzn2 zzs2 zzr2 (fun c hc => (zzI2 c hc).1)) dX1_settle_78 lX1_settle_101 rfl s_10 cn_4 rfl rfl (fun r_ zm3 hq_ => ?_)
      obtain ⟨zv, zzr_, zze_, zzvb, zzvt⟩ := hq_
      subst zzr_
      rw [zze_]
      refine Ev.to (st' := [(0, zv)]) ?_ rfl rfl rfl
      have zzfin : ∀ t, 0 ≤ t → t < 60 → (zv ≤ t ↔ RB mem (mem 17 0) (zm2 20) t) := fun t h0 h1 => (zzvt t h0 h1).trans (RB_of zzh4 zzh12 zzh13 zzh14 zzh15 (zzcn t h1))
      have zzI3 : IsCome (fun c => if c = o then x else if F c then fm c else 60) K (mem 2) (mem 3) (zm2 20) := IsCome.congr zzI2 (fun c hc hk => zzw c hc hk)
      exact e_iret (pc := 81) dX1_settle_81 rfl (by rw [← hQ_]; exact ⟨zv, rfl, zzg2, zzvb, zzfin, zzI3⟩)
  refine e_aloadn (pc := 0) dX1_settle_0 rfl rfl ?_
  refine e_getr (pc := 1) (k := 22) dX1_settle_1 fX1_30 s_16 rfl (by decide) ?_
  refine e_iconst (pc := 4) dX1_settle_4 (by decide) ?_
  refine e_aloadn (pc := 5) dX1_settle_5 rfl rfl ?_
  refine e_getr (pc := 6) (k := 21) dX1_settle_6 fX1_27 s_16 rfl (by decide) ?_
  refine e_iconst (pc := 9) dX1_settle_9 (by decide) ?_
  refine e_bipush (pc := 10) dX1_settle_10 rfl (by decide) ?_
  refine e_copy (pc := 12) dX1_settle_12 lX1_cp47 (by decide) rfl s_22 s_21 (by decide) (by decide) ?_
  refine e_aloadn (pc := 15) dX1_settle_15 rfl rfl ?_
  refine e_aloadn (pc := 16) dX1_settle_16 rfl rfl ?_
  refine e_getiv (pc := 17) (v := (n : Int)) dX1_settle_17 fX1_89 s_16 rfl (by decide) (hfn) ?_
  refine e_putI (pc := 20) (mem2 := mset (rset mem 21 (cpy (mem 22) (mem 21) 0 0 8)) 16 9 (n : Int)) dX1_settle_20 fX1_76 s_16 rfl (by decide) pw_1_9 rfl ?_
  refine e_iloadn (pc := 23) dX1_settle_23 rfl rfl ?_
  refine e_if_lt (pc := 24) (tgt := 45) dX1_settle_24 rfl (fun h24 => ?_) (fun h24 => ?_)
  · skip
    exfalso; omega
  · skip
    refine e_iloadn (pc := 27) dX1_settle_27 rfl rfl ?_
    refine e_bipush (pc := 28) dX1_settle_28 rfl (by decide) ?_
    refine e_icmp_ge (pc := 30) (tgt := 45) dX1_settle_30 rfl (fun h30 => ?_) (fun h30 => ?_)
    · skip
      exfalso; omega
    · skip
      refine e_aloadn (pc := 33) dX1_settle_33 rfl rfl ?_
      refine e_getr (pc := 34) (k := 20) dX1_settle_34 fX1_24 s_16 rfl (by decide) ?_
      refine e_iloadn (pc := 37) dX1_settle_37 rfl rfl ?_
      refine e_iloadn (pc := 38) dX1_settle_38 rfl rfl ?_
      refine e_iastm (pc := 39) (mem2 := mset (mset (rset mem 21 (cpy (mem 22) (mem 21) 0 0 8)) 16 9 (n : Int)) 20 o x) dX1_settle_39 s_20 (by omega) rfl ?_
      refine e_aloadn (pc := 40) dX1_settle_40 rfl rfl ?_
      refine e_iloadn (pc := 41) dX1_settle_41 rfl rfl ?_
      refine e_callV (pc := 42) (as := [(0, x)]) (st := []) (t_enter_16 G (mset (mset (rset mem 21 (cpy (mem 22) (mem 21) 0 0 8)) 16 9 (n : Int)) 20 o x) n x rfl (by omega) (fun _ => st_roomB ho hFo zzR zzC) zi1 zzS zzR) dX1_settle_42 lX1_settle_86 rfl s_16 cn_1 rfl rfl (fun r_ m_ hq_ => ?_)
      obtain ⟨zzr_, zzx0, zzx1⟩ := hq_
      subst zzr_
      refine Ev.to (st' := []) ?_ rfl rfl rfl
      have zzu : ∀ c, c < 8 → K c = false → uset (mem 20) o x c = (if c = o then x else if F c then fm c else 60) := by
        intro c hc hk
        unfold uset
        by_cases q : c = o
        · rw [if_pos q, if_pos q]
        · rw [if_neg q, if_neg q]; exact hw c hc hk q
      have zzv : ∀ c, c < 8 → 0 ≤ uset (mem 20) o x c ∧ uset (mem 20) o x c ≤ 60 := by
        intro c hc
        unfold uset
        split
        · omega
        · exact hwr c hc
      by_cases zz60 : 60 ≤ x
      · have zzx := zzx0 zz60
        subst zzx
        exact Ev.to (C45 n (mset (mset (rset mem 21 (cpy (mem 22) (mem 21) 0 0 8)) 16 9 (n : Int)) 20 o x) rfl zi1 (((Fr.rf.rs (fun _ => rfl)).ms rfl).ms rfl) zzS zzR (fun t ht => (zzC t ht).trans (by have zz9 := st_cntB (x := x) ho hFo hKo hFK hw ht; rw [if_neg (by omega)] at zz9; exact zz9)) zzu zzv) rfl rfl rfl
      · obtain ⟨f, rfl, zzIns⟩ := zzx1 (by omega)
        exact Ev.to (C45 (n + 1) (mset (rset (mset (mset (rset mem 21 (cpy (mem 22) (mem 21) 0 0 8)) 16 9 (n : Int)) 20 o x) 21 f) 16 9 ((n : Int) + 1)) rfl (st_roomB ho hFo zzR zzC) (((((Fr.rf.rs (fun _ => rfl)).ms rfl).ms rfl).rs (fun _ => rfl)).ms rfl) zzIns.1 zzIns.2.1 (fun t ht => (zzIns.2.2.1 t).trans (Eq.trans (congrArg (fun q => q + if x ≤ t then 1 else 0) (zzC t ht)) (st_cntB (x := x) ho hFo hKo hFK hw ht))) zzu zzv) rfl rfl rfl

theorem t_settleA_25 (G : Gm) (mem : Mem) (n : Nat) (F K : Nat → Bool) (fm w0 : Nat → Int) (hfn : mem 25 11 = (n : Int)) (hnl : mem 25 13 = ((cnt K 8 : Nat) : Int)) (hG : GI (mem 31) (mem 32) w0 n F K fm 8) (hFK : ∀ c, c < 8 → K c = true → F c = false) (hKr : ∀ c, c < 8 → K c = true → (1 ≤ mem 2 c ∧ mem 2 c ≤ 30) ∧ (1 ≤ mem 3 c ∧ mem 3 c ≤ 7)) (hwr : ∀ c, c < 8 → 0 ≤ mem 29 c ∧ mem 29 c ≤ 60) (hR : RuOk mem) (ht : 0 ≤ mem 26 0 ∧ mem 26 0 ≤ 59) (hw : ∀ c, c < 8 → K c = false → mem 29 c = if F c then fm c else 60) : Con G mX1_settle [(2, 25), (0, -1), (0, 60)] mem (fun r m' => ∃ v : Int, r = some (0, v) ∧ Fr (scL 25) mem m' ∧ (0 ≤ v ∧ v ≤ 60) ∧ (∀ t, 0 ≤ t → t < 60 → (v ≤ t ↔ RB mem (mem 26 0) (m' 29) t)) ∧ IsCome (fun c => if F c then fm c else 60) K (mem 2) (mem 3) (m' 29)) := by
  refine Con.of (lo := [(2, 25), (0, -1), (0, 60)]) (by decide +kernel) (Nat.le_of_ble_eq_true rfl) rfl ?_
  generalize hQ_ : (fun r m' => ∃ v : Int, r = some (0, v) ∧ Fr (scL 25) mem m' ∧ (0 ≤ v ∧ v ≤ 60) ∧ (∀ t, 0 ≤ t → t < 60 → (v ≤ t ↔ RB mem (mem 26 0) (m' 29) t)) ∧ IsCome (fun c => if F c then fm c else 60) K (mem 2) (mem 3) (m' 29) : Option AV → Mem → Prop) = Q_
  obtain ⟨zi1, zi2, zi3, zi4, zi5, zi6⟩ := hG
  have zzcp : ∀ j, j < n → cpy (mem 31) (mem 30) 0 0 8 j = mem 31 j := by
    intro j hj
    unfold cpy
    rw [if_pos ⟨by omega, by omega⟩]
    congr 1; omega
  have zzS : Srt (cpy (mem 31) (mem 30) 0 0 8) n := zi2.congr zzcp
  have zzR : ∀ j, j < n → 0 ≤ cpy (mem 31) (mem 30) 0 0 8 j ∧ cpy (mem 31) (mem 30) 0 0 8 j < 60 := fun j hj => by rw [zzcp j hj]; exact zi3 j hj
  have zzC : ∀ t, t < 60 → cnO (cpy (mem 31) (mem 30) 0 0 8) n t = cnt (fun c => F c && decide (fm c ≤ t)) 8 := fun t ht => by rw [cnO_congr zzcp]; exact zi4 t ht
  
  have C45 : ∀ (zn1 : Nat) (zmv : Mem), (zmv 25 9 = (zn1 : Int)) → (zn1 ≤ 8) → (Fr (scL 25) mem zmv) → (Srt (zmv 30) zn1) → (∀ j, j < zn1 → 0 ≤ zmv 30 j ∧ zmv 30 j < 60) → (∀ t, t < 60 → cnO (zmv 30) zn1 t = cnO (fun c => if K c then 60 else zmv 29 c) 8 t) → (∀ c, c < 8 → K c = false → zmv 29 c = (fun c => if F c then fm c else 60) c) → (∀ c, c < 8 → 0 ≤ zmv 29 c ∧ zmv 29 c ≤ 60) → Ev G mX1_settle Q_ 45 [(2, 25), (0, -1), (0, 60)] [] zmv := by
    intro zn1 zmv zzt zzn zzg zzs zzr zzc zzw zzv
    refine e_aloadn (pc := 45) dX1_settle_45 rfl rfl ?_
    refine e_getiv (pc := 46) (v := ((cnt K 8 : Nat) : Int)) dX1_settle_46 fX1_79 s_25 rfl (by decide) ((zzg 25 13 rfl).trans hnl) ?_
    refine e_if_le (pc := 49) (tgt := 56) dX1_settle_49 rfl (fun h49 => ?_) (fun h49 => ?_)
    · skip
      have zzh4 : zmv 10 4 = mem 10 4 := zzg 10 4 rfl
      have zzh12 : zmv 12 = mem 12 := funext (fun j => zzg 12 j rfl)
      have zzh13 : zmv 13 = mem 13 := funext (fun j => zzg 13 j rfl)
      have zzh14 : zmv 14 = mem 14 := funext (fun j => zzg 14 j rfl)
      have zzh15 : zmv 15 = mem 15 := funext (fun j => zzg 15 j rfl)
      have zzK0 : ∀ c, c < 8 → K c = false := fun c hc => cnt_zero (p := K) (n := 8) (by omega) c hc
      have zzcn : ∀ t, t < 60 → cnO (zmv 30) zn1 t = cnO (zmv 29) 8 t := fun t ht => (zzc t ht).trans (cnO_congr (fun c hc => by rw [zzK0 c hc]; rfl)).symm
      have zzI2 : IsCome (fun c => if F c then fm c else 60) K (mem 2) (mem 3) (zmv 29) := IsCome_firm zzK0 (fun c hc => zzw c hc (zzK0 c hc)) zzv
      refine e_aloadn (pc := 56) dX1_settle_56 rfl rfl ?_
      refine e_getr (pc := 57) (k := 10) dX1_settle_57 fX1_43 s_25 rfl (by decide) ?_
      refine e_aloadn (pc := 60) dX1_settle_60 rfl rfl ?_
      refine e_getr (pc := 61) (k := 26) dX1_settle_61 fX1_13 s_25 rfl (by decide) ?_
      refine e_iconst (pc := 64) dX1_settle_64 (by decide) ?_
      refine e_ialdv (pc := 65) (v := mem 26 0) dX1_settle_65 s_26 (by omega) (zzg 26 0 rfl) ?_
      refine e_aloadn (pc := 66) dX1_settle_66 rfl rfl ?_
      refine e_getr (pc := 67) (k := 30) dX1_settle_67 fX1_27 s_25 rfl (by decide) ?_
      refine e_aloadn (pc := 70) dX1_settle_70 rfl rfl ?_
      refine e_getiv (pc := 71) (v := (zn1 : Int)) dX1_settle_71 fX1_76 s_25 rfl (by decide) (zzt) ?_
      refine e_aloadn (pc := 74) dX1_settle_74 rfl rfl ?_
      refine e_getr (pc := 75) (k := 29) dX1_settle_75 fX1_24 s_25 rfl (by decide) ?_
      refine e_callV (pc := 78) (as := [(0, mem 26 0), (2, 30), (0, (zn1 : Int)), (2, 29)]) (st := []) (t_beginning_25 G zmv (mem 26 0) zn1 (RuOk.mv zzh4 zzh12 zzh13 zzh14 zzh15 hR) ht zzn zzs zzr (fun c hc => (zzI2 c hc).1)) dX1_settle_78 lX1_settle_101 rfl s_10 cn_4 rfl rfl (fun r_ zm3 hq_ => ?_)
      obtain ⟨zv, zzr_, zze_, zzvb, zzvt⟩ := hq_
      subst zzr_
      rw [zze_]
      refine Ev.to (st' := [(0, zv)]) ?_ rfl rfl rfl
      have zzfin : ∀ t, 0 ≤ t → t < 60 → (zv ≤ t ↔ RB mem (mem 26 0) (zmv 29) t) := fun t h0 h1 => (zzvt t h0 h1).trans (RB_of zzh4 zzh12 zzh13 zzh14 zzh15 (zzcn t h1))
      have zzI3 : IsCome (fun c => if F c then fm c else 60) K (mem 2) (mem 3) (zmv 29) := zzI2
      exact e_iret (pc := 81) dX1_settle_81 rfl (by rw [← hQ_]; exact ⟨zv, rfl, zzg, zzvb, zzfin, zzI3⟩)
    · skip
      refine e_aloadn (pc := 52) dX1_settle_52 rfl rfl ?_
      obtain ⟨zzL1, zzL2⟩ := LkOk_of (isL := K) (A := mem 32) (lag := mem 2) (seen := mem 3) zi5 hKr
      have zzq2 : zmv 2 = mem 2 := funext (fun j => zzg 2 j rfl)
      have zzq3 : zmv 3 = mem 3 := funext (fun j => zzg 3 j rfl)
      refine e_callV (pc := 53) (as := []) (st := []) (t_callLookers_25 G zmv zn1 (cnt K 8) (fun j => (mem 32 j).toNat) K zzt zzn zzs zzr ((zzg 25 13 rfl).trans hnl) (fun j hj => (zzg 32 j rfl).trans (zzL2 j hj)) (by rw [zzq2, zzq3]; exact zzL1) zzv zzc) dX1_settle_53 lX1_settle_98 rfl s_25 cn_1 rfl rfl (fun r_ zm2 hq_ => ?_)
      rw [zzq2, zzq3] at hq_
      obtain ⟨zzr_, zzf2, zn2, zzt2, zzn2, zzs2, zzr2, zzc2, zzI2⟩ := hq_
      subst zzr_
      have zzg2 := zzg.tr zzf2
      refine Ev.to (st' := []) ?_ rfl rfl rfl
      have zzh4 : zm2 10 4 = mem 10 4 := zzg2 10 4 rfl
      have zzh12 : zm2 12 = mem 12 := funext (fun j => zzg2 12 j rfl)
      have zzh13 : zm2 13 = mem 13 := funext (fun j => zzg2 13 j rfl)
      have zzh14 : zm2 14 = mem 14 := funext (fun j => zzg2 14 j rfl)
      have zzh15 : zm2 15 = mem 15 := funext (fun j => zzg2 15 j rfl)
      have zzcn := zzc2
      refine e_aloadn (pc := 56) dX1_settle_56 rfl rfl ?_
      refine e_getr (pc := 57) (k := 10) dX1_settle_57 fX1_43 s_25 rfl (by decide) ?_
      refine e_aloadn (pc := 60) dX1_settle_60 rfl rfl ?_
      refine e_getr (pc := 61) (k := 26) dX1_settle_61 fX1_13 s_25 rfl (by decide) ?_
      refine e_iconst (pc := 64) dX1_settle_64 (by decide) ?_
      refine e_ialdv (pc := 65) (v := mem 26 0) dX1_settle_65 s_26 (by omega) (zzg2 26 0 rfl) ?_
      refine e_aloadn (pc := 66) dX1_settle_66 rfl rfl ?_
      refine e_getr (pc := 67) (k := 30) dX1_settle_67 fX1_27 s_25 rfl (by decide) ?_
      refine e_aloadn (pc := 70) dX1_settle_70 rfl rfl ?_
      refine e_getiv (pc := 71) (v := (zn2 : Int)) dX1_settle_71 fX1_76 s_25 rfl (by decide) (zzt2) ?_
      refine e_aloadn (pc := 74) dX1_settle_74 rfl rfl ?_
      refine e_getr (pc := 75) (k := 29) dX1_settle_75 fX1_24 s_25 rfl (by decide) ?_
      refine e_callV (pc := 78) (as := [(0, mem 26 0), (2, 30), (0, (zn2 : Int)), (2, 29)]) (st := []) (t_beginning_25 G zm2 (mem 26 0) zn2 (RuOk.mv zzh4 zzh12 zzh13 zzh14 zzh15 hR) ht zzn2 zzs2 zzr2 (fun c hc => (zzI2 c hc).1)) dX1_settle_78 lX1_settle_101 rfl s_10 cn_4 rfl rfl (fun r_ zm3 hq_ => ?_)
      obtain ⟨zv, zzr_, zze_, zzvb, zzvt⟩ := hq_
      subst zzr_
      rw [zze_]
      refine Ev.to (st' := [(0, zv)]) ?_ rfl rfl rfl
      have zzfin : ∀ t, 0 ≤ t → t < 60 → (zv ≤ t ↔ RB mem (mem 26 0) (zm2 29) t) := fun t h0 h1 => (zzvt t h0 h1).trans (RB_of zzh4 zzh12 zzh13 zzh14 zzh15 (zzcn t h1))
      have zzI3 : IsCome (fun c => if F c then fm c else 60) K (mem 2) (mem 3) (zm2 29) := IsCome.congr zzI2 (fun c hc hk => zzw c hc hk)
      exact e_iret (pc := 81) dX1_settle_81 rfl (by rw [← hQ_]; exact ⟨zv, rfl, zzg2, zzvb, zzfin, zzI3⟩)
  refine e_aloadn (pc := 0) dX1_settle_0 rfl rfl ?_
  refine e_getr (pc := 1) (k := 31) dX1_settle_1 fX1_30 s_25 rfl (by decide) ?_
  refine e_iconst (pc := 4) dX1_settle_4 (by decide) ?_
  refine e_aloadn (pc := 5) dX1_settle_5 rfl rfl ?_
  refine e_getr (pc := 6) (k := 30) dX1_settle_6 fX1_27 s_25 rfl (by decide) ?_
  refine e_iconst (pc := 9) dX1_settle_9 (by decide) ?_
  refine e_bipush (pc := 10) dX1_settle_10 rfl (by decide) ?_
  refine e_copy (pc := 12) dX1_settle_12 lX1_cp47 (by decide) rfl s_31 s_30 (by decide) (by decide) ?_
  refine e_aloadn (pc := 15) dX1_settle_15 rfl rfl ?_
  refine e_aloadn (pc := 16) dX1_settle_16 rfl rfl ?_
  refine e_getiv (pc := 17) (v := (n : Int)) dX1_settle_17 fX1_89 s_25 rfl (by decide) (hfn) ?_
  refine e_putI (pc := 20) (mem2 := mset (rset mem 30 (cpy (mem 31) (mem 30) 0 0 8)) 25 9 (n : Int)) dX1_settle_20 fX1_76 s_25 rfl (by decide) pw_1_9 rfl ?_
  refine e_iloadn (pc := 23) dX1_settle_23 rfl rfl ?_
  refine e_if_lt (pc := 24) (tgt := 45) dX1_settle_24 rfl (fun h24 => ?_) (fun h24 => ?_)
  · skip
    exact Ev.to (C45 n (mset (rset mem 30 (cpy (mem 31) (mem 30) 0 0 8)) 25 9 (n : Int)) (rfl) (zi1) (((Fr.rf.rs (fun _ => rfl)).ms rfl)) (zzS) (zzR) (fun t ht => (zzC t ht).trans (st_cnt hFK (fun c hc hk => hw c hc hk) ht)) (fun c hc hk => hw c hc hk) (hwr)) rfl rfl rfl
  · skip
    exfalso; omega

theorem t_settleB_25 (G : Gm) (mem : Mem) (n : Nat) (F K : Nat → Bool) (fm w0 : Nat → Int) (hfn : mem 25 11 = (n : Int)) (hnl : mem 25 13 = ((cnt K 8 : Nat) : Int)) (hG : GI (mem 31) (mem 32) w0 n F K fm 8) (hFK : ∀ c, c < 8 → K c = true → F c = false) (hKr : ∀ c, c < 8 → K c = true → (1 ≤ mem 2 c ∧ mem 2 c ≤ 30) ∧ (1 ≤ mem 3 c ∧ mem 3 c ≤ 7)) (hwr : ∀ c, c < 8 → 0 ≤ mem 29 c ∧ mem 29 c ≤ 60) (hR : RuOk mem) (ht : 0 ≤ mem 26 0 ∧ mem 26 0 ≤ 59) (o : Nat) (x : Int) (ho : o < 8) (hx : 0 ≤ x ∧ x ≤ 60) (hFo : F o = false) (hKo : K o = false) (hw : ∀ c, c < 8 → K c = false → c ≠ o → mem 29 c = if F c then fm c else 60) : Con G mX1_settle [(2, 25), (0, (o : Int)), (0, x)] mem (fun r m' => ∃ v : Int, r = some (0, v) ∧ Fr (scL 25) mem m' ∧ (0 ≤ v ∧ v ≤ 60) ∧ (∀ t, 0 ≤ t → t < 60 → (v ≤ t ↔ RB mem (mem 26 0) (m' 29) t)) ∧ IsCome (fun c => if c = o then x else if F c then fm c else 60) K (mem 2) (mem 3) (m' 29)) := by
  refine Con.of (lo := [(2, 25), (0, (o : Int)), (0, x)]) (by decide +kernel) (Nat.le_of_ble_eq_true rfl) rfl ?_
  generalize hQ_ : (fun r m' => ∃ v : Int, r = some (0, v) ∧ Fr (scL 25) mem m' ∧ (0 ≤ v ∧ v ≤ 60) ∧ (∀ t, 0 ≤ t → t < 60 → (v ≤ t ↔ RB mem (mem 26 0) (m' 29) t)) ∧ IsCome (fun c => if c = o then x else if F c then fm c else 60) K (mem 2) (mem 3) (m' 29) : Option AV → Mem → Prop) = Q_
  obtain ⟨zi1, zi2, zi3, zi4, zi5, zi6⟩ := hG
  have zzcp : ∀ j, j < n → cpy (mem 31) (mem 30) 0 0 8 j = mem 31 j := by
    intro j hj
    unfold cpy
    rw [if_pos ⟨by omega, by omega⟩]
    congr 1; omega
  have zzS : Srt (cpy (mem 31) (mem 30) 0 0 8) n := zi2.congr zzcp
  have zzR : ∀ j, j < n → 0 ≤ cpy (mem 31) (mem 30) 0 0 8 j ∧ cpy (mem 31) (mem 30) 0 0 8 j < 60 := fun j hj => by rw [zzcp j hj]; exact zi3 j hj
  have zzC : ∀ t, t < 60 → cnO (cpy (mem 31) (mem 30) 0 0 8) n t = cnt (fun c => F c && decide (fm c ≤ t)) 8 := fun t ht => by rw [cnO_congr zzcp]; exact zi4 t ht
  
  have C45 : ∀ (zn1 : Nat) (zmv : Mem), (zmv 25 9 = (zn1 : Int)) → (zn1 ≤ 8) → (Fr (scL 25) mem zmv) → (Srt (zmv 30) zn1) → (∀ j, j < zn1 → 0 ≤ zmv 30 j ∧ zmv 30 j < 60) → (∀ t, t < 60 → cnO (zmv 30) zn1 t = cnO (fun c => if K c then 60 else zmv 29 c) 8 t) → (∀ c, c < 8 → K c = false → zmv 29 c = (fun c => if c = o then x else if F c then fm c else 60) c) → (∀ c, c < 8 → 0 ≤ zmv 29 c ∧ zmv 29 c ≤ 60) → Ev G mX1_settle Q_ 45 [(2, 25), (0, (o : Int)), (0, x)] [] zmv := by
    intro zn1 zmv zzt zzn zzg zzs zzr zzc zzw zzv
    refine e_aloadn (pc := 45) dX1_settle_45 rfl rfl ?_
    refine e_getiv (pc := 46) (v := ((cnt K 8 : Nat) : Int)) dX1_settle_46 fX1_79 s_25 rfl (by decide) ((zzg 25 13 rfl).trans hnl) ?_
    refine e_if_le (pc := 49) (tgt := 56) dX1_settle_49 rfl (fun h49 => ?_) (fun h49 => ?_)
    · skip
      have zzh4 : zmv 10 4 = mem 10 4 := zzg 10 4 rfl
      have zzh12 : zmv 12 = mem 12 := funext (fun j => zzg 12 j rfl)
      have zzh13 : zmv 13 = mem 13 := funext (fun j => zzg 13 j rfl)
      have zzh14 : zmv 14 = mem 14 := funext (fun j => zzg 14 j rfl)
      have zzh15 : zmv 15 = mem 15 := funext (fun j => zzg 15 j rfl)
      have zzK0 : ∀ c, c < 8 → K c = false := fun c hc => cnt_zero (p := K) (n := 8) (by omega) c hc
      have zzcn : ∀ t, t < 60 → cnO (zmv 30) zn1 t = cnO (zmv 29) 8 t := fun t ht => (zzc t ht).trans (cnO_congr (fun c hc => by rw [zzK0 c hc]; rfl)).symm
      have zzI2 : IsCome (fun c => if c = o then x else if F c then fm c else 60) K (mem 2) (mem 3) (zmv 29) := IsCome_firm zzK0 (fun c hc => zzw c hc (zzK0 c hc)) zzv
      refine e_aloadn (pc := 56) dX1_settle_56 rfl rfl ?_
      refine e_getr (pc := 57) (k := 10) dX1_settle_57 fX1_43 s_25 rfl (by decide) ?_
      refine e_aloadn (pc := 60) dX1_settle_60 rfl rfl ?_
      refine e_getr (pc := 61) (k := 26) dX1_settle_61 fX1_13 s_25 rfl (by decide) ?_
      refine e_iconst (pc := 64) dX1_settle_64 (by decide) ?_
      refine e_ialdv (pc := 65) (v := mem 26 0) dX1_settle_65 s_26 (by omega) (zzg 26 0 rfl) ?_
      refine e_aloadn (pc := 66) dX1_settle_66 rfl rfl ?_
      refine e_getr (pc := 67) (k := 30) dX1_settle_67 fX1_27 s_25 rfl (by decide) ?_
      refine e_aloadn (pc := 70) dX1_settle_70 rfl rfl ?_
      refine e_getiv (pc := 71) (v := (zn1 : Int)) dX1_settle_71 fX1_76 s_25 rfl (by decide) (zzt) ?_
      refine e_aloadn (pc := 74) dX1_settle_74 rfl rfl ?_
      refine e_getr (pc := 75) (k := 29) dX1_settle_75 fX1_24 s_25 rfl (by decide) ?_
      refine e_callV (pc := 78) (as := [(0, mem 26 0), (2, 30), (0, (zn1 : Int)), (2, 29)]) (st := []) (t_beginning_25 G zmv (mem 26 0) zn1 (RuOk.mv zzh4 zzh12 zzh13 zzh14 zzh15 hR) ht zzn zzs zzr (fun c hc => (zzI2 c hc).1)) dX1_settle_78 lX1_settle_101 rfl s_10 cn_4 rfl rfl (fun r_ zm3 hq_ => ?_)
      obtain ⟨zv, zzr_, zze_, zzvb, zzvt⟩ := hq_
      subst zzr_
      rw [zze_]
      refine Ev.to (st' := [(0, zv)]) ?_ rfl rfl rfl
      have zzfin : ∀ t, 0 ≤ t → t < 60 → (zv ≤ t ↔ RB mem (mem 26 0) (zmv 29) t) := fun t h0 h1 => (zzvt t h0 h1).trans (RB_of zzh4 zzh12 zzh13 zzh14 zzh15 (zzcn t h1))
      have zzI3 : IsCome (fun c => if c = o then x else if F c then fm c else 60) K (mem 2) (mem 3) (zmv 29) := zzI2
      exact e_iret (pc := 81) dX1_settle_81 rfl (by rw [← hQ_]; exact ⟨zv, rfl, zzg, zzvb, zzfin, zzI3⟩)
    · skip
      refine e_aloadn (pc := 52) dX1_settle_52 rfl rfl ?_
      obtain ⟨zzL1, zzL2⟩ := LkOk_of (isL := K) (A := mem 32) (lag := mem 2) (seen := mem 3) zi5 hKr
      have zzq2 : zmv 2 = mem 2 := funext (fun j => zzg 2 j rfl)
      have zzq3 : zmv 3 = mem 3 := funext (fun j => zzg 3 j rfl)
      refine e_callV (pc := 53) (as := []) (st := []) (t_callLookers_25 G zmv zn1 (cnt K 8) (fun j => (mem 32 j).toNat) K zzt zzn zzs zzr ((zzg 25 13 rfl).trans hnl) (fun j hj => (zzg 32 j rfl).trans (zzL2 j hj)) (by rw [zzq2, zzq3]; exact zzL1) zzv zzc) dX1_settle_53 lX1_settle_98 rfl s_25 cn_1 rfl rfl (fun r_ zm2 hq_ => ?_)
      rw [zzq2, zzq3] at hq_
      obtain ⟨zzr_, zzf2, zn2, zzt2, zzn2, zzs2, zzr2, zzc2, zzI2⟩ := hq_
      subst zzr_
      have zzg2 := zzg.tr zzf2
      refine Ev.to (st' := []) ?_ rfl rfl rfl
      have zzh4 : zm2 10 4 = mem 10 4 := zzg2 10 4 rfl
      have zzh12 : zm2 12 = mem 12 := funext (fun j => zzg2 12 j rfl)
      have zzh13 : zm2 13 = mem 13 := funext (fun j => zzg2 13 j rfl)
      have zzh14 : zm2 14 = mem 14 := funext (fun j => zzg2 14 j rfl)
      have zzh15 : zm2 15 = mem 15 := funext (fun j => zzg2 15 j rfl)
      have zzcn := zzc2
      refine e_aloadn (pc := 56) dX1_settle_56 rfl rfl ?_
      refine e_getr (pc := 57) (k := 10) dX1_settle_57 fX1_43 s_25 rfl (by decide) ?_
      refine e_aloadn (pc := 60) dX1_settle_60 rfl rfl ?_
      refine e_getr (pc := 61) (k := 26) dX1_settle_61 fX1_13 s_25 rfl (by decide) ?_
      refine e_iconst (pc := 64) dX1_settle_64 (by decide) ?_
      refine e_ialdv (pc := 65) (v := mem 26 0) dX1_settle_65 s_26 (by omega) (zzg2 26 0 rfl) ?_
      refine e_aloadn (pc := 66) dX1_settle_66 rfl rfl ?_
      refine e_getr (pc := 67) (k := 30) dX1_settle_67 fX1_27 s_25 rfl (by decide) ?_
      refine e_aloadn (pc := 70) dX1_settle_70 rfl rfl ?_
      refine e_getiv (pc := 71) (v := (zn2 : Int)) dX1_settle_71 fX1_76 s_25 rfl (by decide) (zzt2) ?_
      refine e_aloadn (pc := 74) dX1_settle_74 rfl rfl ?_
      refine e_getr (pc := 75) (k := 29) dX1_settle_75 fX1_24 s_25 rfl (by decide) ?_
      refine e_callV (pc := 78) (as := [(0, mem 26 0), (2, 30), (0, (zn2 : Int)), (2, 29)]) (st := []) (t_beginning_25 G zm2 (mem 26 0) zn2 (RuOk.mv zzh4 zzh12 zzh13 zzh14 zzh15 hR) ht zzn2 zzs2 zzr2 (fun c hc => (zzI2 c hc).1)) dX1_settle_78 lX1_settle_101 rfl s_10 cn_4 rfl rfl (fun r_ zm3 hq_ => ?_)
      obtain ⟨zv, zzr_, zze_, zzvb, zzvt⟩ := hq_
      subst zzr_
      rw [zze_]
      refine Ev.to (st' := [(0, zv)]) ?_ rfl rfl rfl
      have zzfin : ∀ t, 0 ≤ t → t < 60 → (zv ≤ t ↔ RB mem (mem 26 0) (zm2 29) t) := fun t h0 h1 => (zzvt t h0 h1).trans (RB_of zzh4 zzh12 zzh13 zzh14 zzh15 (zzcn t h1))
      have zzI3 : IsCome (fun c => if c = o then x else if F c then fm c else 60) K (mem 2) (mem 3) (zm2 29) := IsCome.congr zzI2 (fun c hc hk => zzw c hc hk)
      exact e_iret (pc := 81) dX1_settle_81 rfl (by rw [← hQ_]; exact ⟨zv, rfl, zzg2, zzvb, zzfin, zzI3⟩)
  refine e_aloadn (pc := 0) dX1_settle_0 rfl rfl ?_
  refine e_getr (pc := 1) (k := 31) dX1_settle_1 fX1_30 s_25 rfl (by decide) ?_
  refine e_iconst (pc := 4) dX1_settle_4 (by decide) ?_
  refine e_aloadn (pc := 5) dX1_settle_5 rfl rfl ?_
  refine e_getr (pc := 6) (k := 30) dX1_settle_6 fX1_27 s_25 rfl (by decide) ?_
  refine e_iconst (pc := 9) dX1_settle_9 (by decide) ?_
  refine e_bipush (pc := 10) dX1_settle_10 rfl (by decide) ?_
  refine e_copy (pc := 12) dX1_settle_12 lX1_cp47 (by decide) rfl s_31 s_30 (by decide) (by decide) ?_
  refine e_aloadn (pc := 15) dX1_settle_15 rfl rfl ?_
  refine e_aloadn (pc := 16) dX1_settle_16 rfl rfl ?_
  refine e_getiv (pc := 17) (v := (n : Int)) dX1_settle_17 fX1_89 s_25 rfl (by decide) (hfn) ?_
  refine e_putI (pc := 20) (mem2 := mset (rset mem 30 (cpy (mem 31) (mem 30) 0 0 8)) 25 9 (n : Int)) dX1_settle_20 fX1_76 s_25 rfl (by decide) pw_1_9 rfl ?_
  refine e_iloadn (pc := 23) dX1_settle_23 rfl rfl ?_
  refine e_if_lt (pc := 24) (tgt := 45) dX1_settle_24 rfl (fun h24 => ?_) (fun h24 => ?_)
  · skip
    exfalso; omega
  · skip
    refine e_iloadn (pc := 27) dX1_settle_27 rfl rfl ?_
    refine e_bipush (pc := 28) dX1_settle_28 rfl (by decide) ?_
    refine e_icmp_ge (pc := 30) (tgt := 45) dX1_settle_30 rfl (fun h30 => ?_) (fun h30 => ?_)
    · skip
      exfalso; omega
    · skip
      refine e_aloadn (pc := 33) dX1_settle_33 rfl rfl ?_
      refine e_getr (pc := 34) (k := 29) dX1_settle_34 fX1_24 s_25 rfl (by decide) ?_
      refine e_iloadn (pc := 37) dX1_settle_37 rfl rfl ?_
      refine e_iloadn (pc := 38) dX1_settle_38 rfl rfl ?_
      refine e_iastm (pc := 39) (mem2 := mset (mset (rset mem 30 (cpy (mem 31) (mem 30) 0 0 8)) 25 9 (n : Int)) 29 o x) dX1_settle_39 s_29 (by omega) rfl ?_
      refine e_aloadn (pc := 40) dX1_settle_40 rfl rfl ?_
      refine e_iloadn (pc := 41) dX1_settle_41 rfl rfl ?_
      refine e_callV (pc := 42) (as := [(0, x)]) (st := []) (t_enter_25 G (mset (mset (rset mem 30 (cpy (mem 31) (mem 30) 0 0 8)) 25 9 (n : Int)) 29 o x) n x rfl (by omega) (fun _ => st_roomB ho hFo zzR zzC) zi1 zzS zzR) dX1_settle_42 lX1_settle_86 rfl s_25 cn_1 rfl rfl (fun r_ m_ hq_ => ?_)
      obtain ⟨zzr_, zzx0, zzx1⟩ := hq_
      subst zzr_
      refine Ev.to (st' := []) ?_ rfl rfl rfl
      have zzu : ∀ c, c < 8 → K c = false → uset (mem 29) o x c = (if c = o then x else if F c then fm c else 60) := by
        intro c hc hk
        unfold uset
        by_cases q : c = o
        · rw [if_pos q, if_pos q]
        · rw [if_neg q, if_neg q]; exact hw c hc hk q
      have zzv : ∀ c, c < 8 → 0 ≤ uset (mem 29) o x c ∧ uset (mem 29) o x c ≤ 60 := by
        intro c hc
        unfold uset
        split
        · omega
        · exact hwr c hc
      by_cases zz60 : 60 ≤ x
      · have zzx := zzx0 zz60
        subst zzx
        exact Ev.to (C45 n (mset (mset (rset mem 30 (cpy (mem 31) (mem 30) 0 0 8)) 25 9 (n : Int)) 29 o x) rfl zi1 (((Fr.rf.rs (fun _ => rfl)).ms rfl).ms rfl) zzS zzR (fun t ht => (zzC t ht).trans (by have zz9 := st_cntB (x := x) ho hFo hKo hFK hw ht; rw [if_neg (by omega)] at zz9; exact zz9)) zzu zzv) rfl rfl rfl
      · obtain ⟨f, rfl, zzIns⟩ := zzx1 (by omega)
        exact Ev.to (C45 (n + 1) (mset (rset (mset (mset (rset mem 30 (cpy (mem 31) (mem 30) 0 0 8)) 25 9 (n : Int)) 29 o x) 30 f) 25 9 ((n : Int) + 1)) rfl (st_roomB ho hFo zzR zzC) (((((Fr.rf.rs (fun _ => rfl)).ms rfl).ms rfl).rs (fun _ => rfl)).ms rfl) zzIns.1 zzIns.2.1 (fun t ht => (zzIns.2.2.1 t).trans (Eq.trans (congrArg (fun q => q + if x ≤ t then 1 else 0) (zzC t ht)) (st_cntB (x := x) ho hFo hKo hFK hw ht))) zzu zzv) rfl rfl rfl
