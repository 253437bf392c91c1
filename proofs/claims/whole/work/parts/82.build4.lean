theorem olX7 : Cond.methodLink RX7 3 Lib.objectInit ∈ wtb := wt (by decide +kernel) (by decide +kernel)
theorem cnX7_9 : Cond.classLink RX7 9 RX0 ∈ wtb := wt (by decide +kernel) (by decide +kernel)
theorem ci_X0 : Cond.instantiable RX0 4 ∈ wtb := wt (by decide +kernel) (by decide +kernel)
theorem cz_X0 : Cond.initialized RX0 ∈ wtb := wt (by decide +kernel) (by decide +kernel)
theorem dv_X0_1 : ∀ (ad : Nat → Nat) (j : Nat), j < 4 → defaultValue (tyOf 0 j) = vp_V (((shp 1).elim (fun q => q.2) (fun _ => [])).zipIdx.map (fun q => fvB ad (fun _ => 0) q.2 q.1)) j := by
  intro ad j hj
  match j, hj with
  | 0, _ => rfl
  | 1, _ => rfl
  | 2, _ => rfl
  | 3, _ => rfl
  | k + 4, hj => exact absurd hj (by omega)
theorem bi_X0 : Cond.initialized yX0_init.cls ∈ wtb := wt (List.mem_of_getElem? (i := 56) (by decide +kernel)) rfl
theorem bc_X0 : Cond.code yX0_init cX0_init 3 none ∈ wtb := wt (List.mem_of_getElem? (i := 79) (by decide +kernel)) rfl
theorem bm_X0 : Cond.instanceMethod yX0_init ∈ wtb := wt (List.mem_of_getElem? (i := 78) (by decide +kernel)) rfl
theorem bl_11 : Cond.methodLink RX7 11 yX0_init ∈ wtb := wt (List.mem_of_getElem? (i := 77) (by decide +kernel)) rfl
theorem ffX7_12 : FLF RX7 12 7 0 := ⟨_, rfl, by decide, wt (List.mem_of_getElem? (i := 300) (by decide +kernel)) rfl, rfl, rfl, rfl, fun _ => ⟨rfl, rfl⟩⟩
theorem cnX7_16 : Cond.classLink RX7 16 RX4 ∈ wtb := wt (by decide +kernel) (by decide +kernel)
theorem ci_X4 : Cond.instantiable RX4 13 ∈ wtb := wt (by decide +kernel) (by decide +kernel)
theorem cz_X4 : Cond.initialized RX4 ∈ wtb := wt (by decide +kernel) (by decide +kernel)
theorem dv_X4_10 : ∀ (ad : Nat → Nat) (j : Nat), j < 13 → defaultValue (tyOf 4 j) = vp_V (((shp 10).elim (fun q => q.2) (fun _ => [])).zipIdx.map (fun q => fvB ad (fun _ => 0) q.2 q.1)) j := by
  intro ad j hj
  match j, hj with
  | 0, _ => rfl
  | 1, _ => rfl
  | 2, _ => rfl
  | 3, _ => rfl
  | 4, _ => rfl
  | 5, _ => rfl
  | 6, _ => rfl
  | 7, _ => rfl
  | 8, _ => rfl
  | 9, _ => rfl
  | 10, _ => rfl
  | 11, _ => rfl
  | 12, _ => rfl
  | k + 13, hj => exact absurd hj (by omega)
theorem bi_X4 : Cond.initialized yX4_init.cls ∈ wtb := wt (List.mem_of_getElem? (i := 57) (by decide +kernel)) rfl
theorem bc_X4 : Cond.code yX4_init cX4_init 1 none ∈ wtb := wt (List.mem_of_getElem? (i := 110) (by decide +kernel)) rfl
theorem bm_X4 : Cond.instanceMethod yX4_init ∈ wtb := wt (List.mem_of_getElem? (i := 109) (by decide +kernel)) rfl
theorem ffX7_19 : FLF RX7 19 7 1 := ⟨_, rfl, by decide, wt (List.mem_of_getElem? (i := 301) (by decide +kernel)) rfl, rfl, rfl, rfl, fun _ => ⟨rfl, rfl⟩⟩
theorem cnX7_23 : Cond.classLink RX7 23 RX1 ∈ wtb := wt (by decide +kernel) (by decide +kernel)
theorem ci_X1 : Cond.instantiable RX1 15 ∈ wtb := wt (by decide +kernel) (by decide +kernel)
theorem cz_X1 : Cond.initialized RX1 ∈ wtb := wt (by decide +kernel) (by decide +kernel)
theorem dv_X1_16 : ∀ (ad : Nat → Nat) (j : Nat), j < 15 → defaultValue (tyOf 1 j) = vp_V (((shp 16).elim (fun q => q.2) (fun _ => [])).zipIdx.map (fun q => fvB ad (fun _ => 0) q.2 q.1)) j := by
  intro ad j hj
  match j, hj with
  | 0, _ => rfl
  | 1, _ => rfl
  | 2, _ => rfl
  | 3, _ => rfl
  | 4, _ => rfl
  | 5, _ => rfl
  | 6, _ => rfl
  | 7, _ => rfl
  | 8, _ => rfl
  | 9, _ => rfl
  | 10, _ => rfl
  | 11, _ => rfl
  | 12, _ => rfl
  | 13, _ => rfl
  | 14, _ => rfl
  | k + 15, hj => exact absurd hj (by omega)
theorem bi_X1 : Cond.initialized yX1_init.cls ∈ wtb := wt (List.mem_of_getElem? (i := 58) (by decide +kernel)) rfl
theorem bc_X1 : Cond.code yX1_init cX1_init 4 none ∈ wtb := wt (List.mem_of_getElem? (i := 159) (by decide +kernel)) rfl
theorem bm_X1 : Cond.instanceMethod yX1_init ∈ wtb := wt (List.mem_of_getElem? (i := 158) (by decide +kernel)) rfl
theorem bl_25 : Cond.methodLink RX7 25 yX1_init ∈ wtb := wt (List.mem_of_getElem? (i := 157) (by decide +kernel)) rfl
theorem ffX7_28 : FLF RX7 28 7 2 := ⟨_, rfl, by decide, wt (List.mem_of_getElem? (i := 302) (by decide +kernel)) rfl, rfl, rfl, rfl, fun _ => ⟨rfl, rfl⟩⟩
theorem dv_X1_25 : ∀ (ad : Nat → Nat) (j : Nat), j < 15 → defaultValue (tyOf 1 j) = vp_V (((shp 25).elim (fun q => q.2) (fun _ => [])).zipIdx.map (fun q => fvB ad (fun _ => 0) q.2 q.1)) j := by
  intro ad j hj
  match j, hj with
  | 0, _ => rfl
  | 1, _ => rfl
  | 2, _ => rfl
  | 3, _ => rfl
  | 4, _ => rfl
  | 5, _ => rfl
  | 6, _ => rfl
  | 7, _ => rfl
  | 8, _ => rfl
  | 9, _ => rfl
  | 10, _ => rfl
  | 11, _ => rfl
  | 12, _ => rfl
  | 13, _ => rfl
  | 14, _ => rfl
  | k + 15, hj => exact absurd hj (by omega)
theorem ffX7_32 : FLF RX7 32 7 3 := ⟨_, rfl, by decide, wt (List.mem_of_getElem? (i := 303) (by decide +kernel)) rfl, rfl, rfl, rfl, fun _ => ⟨rfl, rfl⟩⟩
theorem cnX7_35 : Cond.classLink RX7 35 RX2 ∈ wtb := wt (by decide +kernel) (by decide +kernel)
theorem ci_X2 : Cond.instantiable RX2 4 ∈ wtb := wt (by decide +kernel) (by decide +kernel)
theorem cz_X2 : Cond.initialized RX2 ∈ wtb := wt (by decide +kernel) (by decide +kernel)
theorem dv_X2_34 : ∀ (ad : Nat → Nat) (j : Nat), j < 4 → defaultValue (tyOf 2 j) = vp_V (((shp 34).elim (fun q => q.2) (fun _ => [])).zipIdx.map (fun q => fvB ad (fun _ => 0) q.2 q.1)) j := by
  intro ad j hj
  match j, hj with
  | 0, _ => rfl
  | 1, _ => rfl
  | 2, _ => rfl
  | 3, _ => rfl
  | k + 4, hj => exact absurd hj (by omega)
theorem bi_X2 : Cond.initialized yX2_init.cls ∈ wtb := wt (List.mem_of_getElem? (i := 59) (by decide +kernel)) rfl
theorem bc_X2 : Cond.code yX2_init cX2_init 2 none ∈ wtb := wt (List.mem_of_getElem? (i := 222) (by decide +kernel)) rfl
theorem bm_X2 : Cond.instanceMethod yX2_init ∈ wtb := wt (List.mem_of_getElem? (i := 221) (by decide +kernel)) rfl
theorem bl_37 : Cond.methodLink RX7 37 yX2_init ∈ wtb := wt (List.mem_of_getElem? (i := 220) (by decide +kernel)) rfl
theorem ffX7_40 : FLF RX7 40 7 4 := ⟨_, rfl, by decide, wt (List.mem_of_getElem? (i := 304) (by decide +kernel)) rfl, rfl, rfl, rfl, fun _ => ⟨rfl, rfl⟩⟩
theorem cnX7_44 : Cond.classLink RX7 44 RX6 ∈ wtb := wt (by decide +kernel) (by decide +kernel)
theorem ci_X6 : Cond.instantiable RX6 5 ∈ wtb := wt (by decide +kernel) (by decide +kernel)
theorem cz_X6 : Cond.initialized RX6 ∈ wtb := wt (by decide +kernel) (by decide +kernel)
theorem dv_X6_37 : ∀ (ad : Nat → Nat) (j : Nat), j < 5 → defaultValue (tyOf 6 j) = vp_V (((shp 37).elim (fun q => q.2) (fun _ => [])).zipIdx.map (fun q => fvB ad (fun _ => 0) q.2 q.1)) j := by
  intro ad j hj
  match j, hj with
  | 0, _ => rfl
  | 1, _ => rfl
  | 2, _ => rfl
  | 3, _ => rfl
  | 4, _ => rfl
  | k + 5, hj => exact absurd hj (by omega)
theorem bi_X6 : Cond.initialized yX6_init.cls ∈ wtb := wt (List.mem_of_getElem? (i := 60) (by decide +kernel)) rfl
theorem bc_X6 : Cond.code yX6_init cX6_init 2 none ∈ wtb := wt (List.mem_of_getElem? (i := 241) (by decide +kernel)) rfl
theorem bm_X6 : Cond.instanceMethod yX6_init ∈ wtb := wt (List.mem_of_getElem? (i := 240) (by decide +kernel)) rfl
theorem bl_46 : Cond.methodLink RX7 46 yX6_init ∈ wtb := wt (List.mem_of_getElem? (i := 239) (by decide +kernel)) rfl
theorem ffX7_47 : FLF RX7 47 7 5 := ⟨_, rfl, by decide, wt (List.mem_of_getElem? (i := 305) (by decide +kernel)) rfl, rfl, rfl, rfl, fun _ => ⟨rfl, rfl⟩⟩
theorem cnX7_51 : Cond.classLink RX7 51 RX3 ∈ wtb := wt (by decide +kernel) (by decide +kernel)
theorem ci_X3 : Cond.instantiable RX3 2 ∈ wtb := wt (by decide +kernel) (by decide +kernel)
theorem cz_X3 : Cond.initialized RX3 ∈ wtb := wt (by decide +kernel) (by decide +kernel)
theorem dv_X3_40 : ∀ (ad : Nat → Nat) (j : Nat), j < 2 → defaultValue (tyOf 3 j) = vp_V (((shp 40).elim (fun q => q.2) (fun _ => [])).zipIdx.map (fun q => fvB ad (fun _ => 0) q.2 q.1)) j := by
  intro ad j hj
  match j, hj with
  | 0, _ => rfl
  | 1, _ => rfl
  | k + 2, hj => exact absurd hj (by omega)
theorem bi_X3 : Cond.initialized yX3_init.cls ∈ wtb := wt (List.mem_of_getElem? (i := 61) (by decide +kernel)) rfl
theorem bc_X3 : Cond.code yX3_init cX3_init 3 none ∈ wtb := wt (List.mem_of_getElem? (i := 267) (by decide +kernel)) rfl
theorem bm_X3 : Cond.instanceMethod yX3_init ∈ wtb := wt (List.mem_of_getElem? (i := 266) (by decide +kernel)) rfl
theorem bl_53 : Cond.methodLink RX7 53 yX3_init ∈ wtb := wt (List.mem_of_getElem? (i := 265) (by decide +kernel)) rfl
theorem ffX7_56 : FLF RX7 56 7 6 := ⟨_, rfl, by decide, wt (List.mem_of_getElem? (i := 306) (by decide +kernel)) rfl, rfl, rfl, rfl, fun _ => ⟨rfl, rfl⟩⟩
theorem cnX7_60 : Cond.classLink RX7 60 RX5 ∈ wtb := wt (by decide +kernel) (by decide +kernel)
theorem ci_X5 : Cond.instantiable RX5 4 ∈ wtb := wt (by decide +kernel) (by decide +kernel)
theorem cz_X5 : Cond.initialized RX5 ∈ wtb := wt (by decide +kernel) (by decide +kernel)
theorem dv_X5_41 : ∀ (ad : Nat → Nat) (j : Nat), j < 4 → defaultValue (tyOf 5 j) = vp_V (((shp 41).elim (fun q => q.2) (fun _ => [])).zipIdx.map (fun q => fvB ad (fun _ => 0) q.2 q.1)) j := by
  intro ad j hj
  match j, hj with
  | 0, _ => rfl
  | 1, _ => rfl
  | 2, _ => rfl
  | 3, _ => rfl
  | k + 4, hj => exact absurd hj (by omega)
theorem bi_X5 : Cond.initialized yX5_init.cls ∈ wtb := wt (List.mem_of_getElem? (i := 62) (by decide +kernel)) rfl
theorem bc_X5 : Cond.code yX5_init cX5_init 2 none ∈ wtb := wt (List.mem_of_getElem? (i := 280) (by decide +kernel)) rfl
theorem bm_X5 : Cond.instanceMethod yX5_init ∈ wtb := wt (List.mem_of_getElem? (i := 279) (by decide +kernel)) rfl
theorem bl_62 : Cond.methodLink RX7 62 yX5_init ∈ wtb := wt (List.mem_of_getElem? (i := 278) (by decide +kernel)) rfl
theorem ffX7_63 : FLF RX7 63 7 7 := ⟨_, rfl, by decide, wt (List.mem_of_getElem? (i := 307) (by decide +kernel)) rfl, rfl, rfl, rfl, fun _ => ⟨rfl, rfl⟩⟩
def nb_hall (mem : Mem) : Mem := mset (nb_sheets (mset (nb_roads (mset (nb_weeks (mset (nb_grid (mset (nb_trial (mset (nb_now (mset (nb_rule (mset (nb_company (mem)) 0 0 1)) 0 1 1)) 0 2 1)) 0 3 1)) 0 4 1)) 0 5 1)) 0 6 1)) 0 7 1
theorem kb_hall (G : Gm) (B : Nat) (mem : Mem) : ConB (G, B, mX7_init, 49, 48, 772, fun m2 => m2 = nb_hall mem) [(2, 0)] 1 mem := by
  refine ConB.of (lo := [(2, 0)]) rfl rfl (Nat.le_of_ble_eq_true rfl) rfl ?_
  refine b_aloadn (pc := 0) dX7_init_0 rfl rfl ?_
  refine b_obj (pc := 1) (c := 0) dX7_init_1 olX7 ow_inst ow_code (Nat.le_of_ble_eq_true rfl) (Nat.le_of_ble_eq_true rfl) ?_
  show Bv _ _ _ _ 4 [(2, 0)] [] _
  refine b_aloadn (pc := 4) dX7_init_4 rfl rfl ?_
  refine b_new (pc := 5) (n := 1) (ci := 0) (N := 4) (zC := RX0) (zT := TX0) dX7_init_5 rfl rfl cnX7_9 ci_X0 cz_X0 (dv_X0_1 _) (by decide) (Nat.le_of_ble_eq_true rfl) (Nat.le_of_ble_eq_true rfl) ?_
  show Bv _ _ _ _ 8 [(2, 0)] [(2, 1), (2, 0)] _
  refine b_dup (pc := 8) dX7_init_8 rfl ?_
  refine b_call (pc := 9) (c := 1) (as := []) (k := 0) (kb_company G B _) dX7_init_9 ⟨bl_11, bi_X0, bc_X0, by decide +kernel, (Nat.le_of_ble_eq_true rfl), (Nat.le_of_ble_eq_true rfl), by decide +kernel, rfl, bm_X0, rfl⟩ rfl rfl rfl (by decide) rfl (Nat.le_of_ble_eq_true rfl) (Nat.le_of_ble_eq_true rfl) (fun m2 zm => ?_)
  rw [zm]
  clear zm m2
  show Bv _ _ _ _ 12 [(2, 0)] [(2, 1), (2, 0)] _
  refine b_putr (pc := 12) (c := 0) (k := 1) dX7_init_12 ffX7_12 rfl rfl (by decide) (by decide) ?_
  show Bv _ _ _ _ 15 [(2, 0)] [] _
  refine b_aloadn (pc := 15) dX7_init_15 rfl rfl ?_
  refine b_new (pc := 16) (n := 10) (ci := 4) (N := 13) (zC := RX4) (zT := TX4) dX7_init_16 rfl rfl cnX7_16 ci_X4 cz_X4 (dv_X4_10 _) (by decide) (Nat.le_of_ble_eq_true rfl) (Nat.le_of_ble_eq_true rfl) ?_
  show Bv _ _ _ _ 19 [(2, 0)] [(2, 10), (2, 0)] _
  refine b_dup (pc := 19) dX7_init_19 rfl ?_
  refine b_callN (pc := 20) (c := 10) (kb_rule G B _) rfl dX7_init_20 bc_X4 bi_X4 bm_X4 (Nat.le_of_ble_eq_true rfl) (Nat.le_of_ble_eq_true rfl) rfl rfl (by decide) rfl (Nat.le_of_ble_eq_true rfl) (Nat.le_of_ble_eq_true rfl) (fun m2 zm => ?_)
  rw [zm]
  clear zm m2
  show Bv _ _ _ _ 23 [(2, 0)] [(2, 10), (2, 0)] _
  refine b_putr (pc := 23) (c := 0) (k := 10) dX7_init_23 ffX7_19 rfl rfl (by decide) (by decide) ?_
  show Bv _ _ _ _ 26 [(2, 0)] [] _
  refine b_aloadn (pc := 26) dX7_init_26 rfl rfl ?_
  refine b_new (pc := 27) (n := 16) (ci := 1) (N := 15) (zC := RX1) (zT := TX1) dX7_init_27 rfl rfl cnX7_23 ci_X1 cz_X1 (dv_X1_16 _) (by decide) (Nat.le_of_ble_eq_true rfl) (Nat.le_of_ble_eq_true rfl) ?_
  show Bv _ _ _ _ 30 [(2, 0)] [(2, 16), (2, 0)] _
  refine b_dup (pc := 30) dX7_init_30 rfl ?_
  refine b_aloadn (pc := 31) dX7_init_31 rfl rfl ?_
  refine b_getr (pc := 32) (c := 0) (j := 0) (k := 1) dX7_init_32 fX7_12 rfl rfl (by decide) (by decide) rfl ?_
  show Bv _ _ _ _ 35 [(2, 0)] [(2, 1), (2, 16), (2, 16), (2, 0)] _
  refine b_aloadn (pc := 35) dX7_init_35 rfl rfl ?_
  refine b_getr (pc := 36) (c := 0) (j := 1) (k := 10) dX7_init_36 fX7_19 rfl rfl (by decide) (by decide) rfl ?_
  show Bv _ _ _ _ 39 [(2, 0)] [(2, 10), (2, 1), (2, 16), (2, 16), (2, 0)] _
  refine b_call (pc := 39) (c := 16) (as := [(2, 1), (2, 10)]) (k := 2) (kb_now G B _) dX7_init_39 ⟨bl_25, bi_X1, bc_X1, by decide +kernel, (Nat.le_of_ble_eq_true rfl), (Nat.le_of_ble_eq_true rfl), by decide +kernel, rfl, bm_X1, rfl⟩ rfl rfl rfl (by decide) rfl (Nat.le_of_ble_eq_true rfl) (Nat.le_of_ble_eq_true rfl) (fun m2 zm => ?_)
  rw [zm]
  clear zm m2
  show Bv _ _ _ _ 42 [(2, 0)] [(2, 16), (2, 0)] _
  refine b_putr (pc := 42) (c := 0) (k := 16) dX7_init_42 ffX7_28 rfl rfl (by decide) (by decide) ?_
  show Bv _ _ _ _ 45 [(2, 0)] [] _
  refine b_aloadn (pc := 45) dX7_init_45 rfl rfl ?_
  refine b_new (pc := 46) (n := 25) (ci := 1) (N := 15) (zC := RX1) (zT := TX1) dX7_init_46 rfl rfl cnX7_23 ci_X1 cz_X1 (dv_X1_25 _) (by decide) (Nat.le_of_ble_eq_true rfl) (Nat.le_of_ble_eq_true rfl) ?_
  show Bv _ _ _ _ 49 [(2, 0)] [(2, 25), (2, 0)] _
  refine b_dup (pc := 49) dX7_init_49 rfl ?_
  refine b_aloadn (pc := 50) dX7_init_50 rfl rfl ?_
  refine b_getr (pc := 51) (c := 0) (j := 0) (k := 1) dX7_init_51 fX7_12 rfl rfl (by decide) (by decide) rfl ?_
  show Bv _ _ _ _ 54 [(2, 0)] [(2, 1), (2, 25), (2, 25), (2, 0)] _
  refine b_aloadn (pc := 54) dX7_init_54 rfl rfl ?_
  refine b_getr (pc := 55) (c := 0) (j := 1) (k := 10) dX7_init_55 fX7_19 rfl rfl (by decide) (by decide) rfl ?_
  show Bv _ _ _ _ 58 [(2, 0)] [(2, 10), (2, 1), (2, 25), (2, 25), (2, 0)] _
  refine b_call (pc := 58) (c := 25) (as := [(2, 1), (2, 10)]) (k := 2) (kb_trial G B _) dX7_init_58 ⟨bl_25, bi_X1, bc_X1, by decide +kernel, (Nat.le_of_ble_eq_true rfl), (Nat.le_of_ble_eq_true rfl), by decide +kernel, rfl, bm_X1, rfl⟩ rfl rfl rfl (by decide) rfl (Nat.le_of_ble_eq_true rfl) (Nat.le_of_ble_eq_true rfl) (fun m2 zm => ?_)
  rw [zm]
  clear zm m2
  show Bv _ _ _ _ 61 [(2, 0)] [(2, 25), (2, 0)] _
  refine b_putr (pc := 61) (c := 0) (k := 25) dX7_init_61 ffX7_32 rfl rfl (by decide) (by decide) ?_
  show Bv _ _ _ _ 64 [(2, 0)] [] _
  refine b_aloadn (pc := 64) dX7_init_64 rfl rfl ?_
  refine b_new (pc := 65) (n := 34) (ci := 2) (N := 4) (zC := RX2) (zT := TX2) dX7_init_65 rfl rfl cnX7_35 ci_X2 cz_X2 (dv_X2_34 _) (by decide) (Nat.le_of_ble_eq_true rfl) (Nat.le_of_ble_eq_true rfl) ?_
  show Bv _ _ _ _ 68 [(2, 0)] [(2, 34), (2, 0)] _
  refine b_dup (pc := 68) dX7_init_68 rfl ?_
  refine b_aloadn (pc := 69) dX7_init_69 rfl rfl ?_
  refine b_getr (pc := 70) (c := 0) (j := 3) (k := 25) dX7_init_70 fX7_32 rfl rfl (by decide) (by decide) rfl ?_
  show Bv _ _ _ _ 73 [(2, 0)] [(2, 25), (2, 34), (2, 34), (2, 0)] _
  refine b_call (pc := 73) (c := 34) (as := [(2, 25)]) (k := 1) (kb_grid G B _) dX7_init_73 ⟨bl_37, bi_X2, bc_X2, by decide +kernel, (Nat.le_of_ble_eq_true rfl), (Nat.le_of_ble_eq_true rfl), by decide +kernel, rfl, bm_X2, rfl⟩ rfl rfl rfl (by decide) rfl (Nat.le_of_ble_eq_true rfl) (Nat.le_of_ble_eq_true rfl) (fun m2 zm => ?_)
  rw [zm]
  clear zm m2
  show Bv _ _ _ _ 76 [(2, 0)] [(2, 34), (2, 0)] _
  refine b_putr (pc := 76) (c := 0) (k := 34) dX7_init_76 ffX7_40 rfl rfl (by decide) (by decide) ?_
  show Bv _ _ _ _ 79 [(2, 0)] [] _
  refine b_aloadn (pc := 79) dX7_init_79 rfl rfl ?_
  refine b_new (pc := 80) (n := 37) (ci := 6) (N := 5) (zC := RX6) (zT := TX6) dX7_init_80 rfl rfl cnX7_44 ci_X6 cz_X6 (dv_X6_37 _) (by decide) (Nat.le_of_ble_eq_true rfl) (Nat.le_of_ble_eq_true rfl) ?_
  show Bv _ _ _ _ 83 [(2, 0)] [(2, 37), (2, 0)] _
  refine b_dup (pc := 83) dX7_init_83 rfl ?_
  refine b_aloadn (pc := 84) dX7_init_84 rfl rfl ?_
  refine b_getr (pc := 85) (c := 0) (j := 3) (k := 25) dX7_init_85 fX7_32 rfl rfl (by decide) (by decide) rfl ?_
  show Bv _ _ _ _ 88 [(2, 0)] [(2, 25), (2, 37), (2, 37), (2, 0)] _
  refine b_call (pc := 88) (c := 37) (as := [(2, 25)]) (k := 1) (kb_weeks G B _) dX7_init_88 ⟨bl_46, bi_X6, bc_X6, by decide +kernel, (Nat.le_of_ble_eq_true rfl), (Nat.le_of_ble_eq_true rfl), by decide +kernel, rfl, bm_X6, rfl⟩ rfl rfl rfl (by decide) rfl (Nat.le_of_ble_eq_true rfl) (Nat.le_of_ble_eq_true rfl) (fun m2 zm => ?_)
  rw [zm]
  clear zm m2
  show Bv _ _ _ _ 91 [(2, 0)] [(2, 37), (2, 0)] _
  refine b_putr (pc := 91) (c := 0) (k := 37) dX7_init_91 ffX7_47 rfl rfl (by decide) (by decide) ?_
  show Bv _ _ _ _ 94 [(2, 0)] [] _
  refine b_aloadn (pc := 94) dX7_init_94 rfl rfl ?_
  refine b_new (pc := 95) (n := 40) (ci := 3) (N := 2) (zC := RX3) (zT := TX3) dX7_init_95 rfl rfl cnX7_51 ci_X3 cz_X3 (dv_X3_40 _) (by decide) (Nat.le_of_ble_eq_true rfl) (Nat.le_of_ble_eq_true rfl) ?_
  show Bv _ _ _ _ 98 [(2, 0)] [(2, 40), (2, 0)] _
  refine b_dup (pc := 98) dX7_init_98 rfl ?_
  refine b_aloadn (pc := 99) dX7_init_99 rfl rfl ?_
  refine b_getr (pc := 100) (c := 0) (j := 0) (k := 1) dX7_init_100 fX7_12 rfl rfl (by decide) (by decide) rfl ?_
  show Bv _ _ _ _ 103 [(2, 0)] [(2, 1), (2, 40), (2, 40), (2, 0)] _
  refine b_aloadn (pc := 103) dX7_init_103 rfl rfl ?_
  refine b_getr (pc := 104) (c := 0) (j := 3) (k := 25) dX7_init_104 fX7_32 rfl rfl (by decide) (by decide) rfl ?_
  show Bv _ _ _ _ 107 [(2, 0)] [(2, 25), (2, 1), (2, 40), (2, 40), (2, 0)] _
  refine b_call (pc := 107) (c := 40) (as := [(2, 1), (2, 25)]) (k := 2) (kb_roads G B _) dX7_init_107 ⟨bl_53, bi_X3, bc_X3, by decide +kernel, (Nat.le_of_ble_eq_true rfl), (Nat.le_of_ble_eq_true rfl), by decide +kernel, rfl, bm_X3, rfl⟩ rfl rfl rfl (by decide) rfl (Nat.le_of_ble_eq_true rfl) (Nat.le_of_ble_eq_true rfl) (fun m2 zm => ?_)
  rw [zm]
  clear zm m2
  show Bv _ _ _ _ 110 [(2, 0)] [(2, 40), (2, 0)] _
  refine b_putr (pc := 110) (c := 0) (k := 40) dX7_init_110 ffX7_56 rfl rfl (by decide) (by decide) ?_
  show Bv _ _ _ _ 113 [(2, 0)] [] _
  refine b_aloadn (pc := 113) dX7_init_113 rfl rfl ?_
  refine b_new (pc := 114) (n := 41) (ci := 5) (N := 4) (zC := RX5) (zT := TX5) dX7_init_114 rfl rfl cnX7_60 ci_X5 cz_X5 (dv_X5_41 _) (by decide) (Nat.le_of_ble_eq_true rfl) (Nat.le_of_ble_eq_true rfl) ?_
  show Bv _ _ _ _ 117 [(2, 0)] [(2, 41), (2, 0)] _
  refine b_dup (pc := 117) dX7_init_117 rfl ?_
  refine b_call (pc := 118) (c := 41) (as := []) (k := 0) (kb_sheets G B _) dX7_init_118 ⟨bl_62, bi_X5, bc_X5, by decide +kernel, (Nat.le_of_ble_eq_true rfl), (Nat.le_of_ble_eq_true rfl), by decide +kernel, rfl, bm_X5, rfl⟩ rfl rfl rfl (by decide) rfl (Nat.le_of_ble_eq_true rfl) (Nat.le_of_ble_eq_true rfl) (fun m2 zm => ?_)
  rw [zm]
  clear zm m2
  show Bv _ _ _ _ 121 [(2, 0)] [(2, 41), (2, 0)] _
  refine b_putr (pc := 121) (c := 0) (k := 41) dX7_init_121 ffX7_63 rfl rfl (by decide) (by decide) ?_
  show Bv _ _ _ _ 124 [(2, 0)] [] _
  exact b_ret (pc := 124) dX7_init_124 rfl rfl rfl rfl rfl
