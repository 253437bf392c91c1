-- words of the tables
theorem aw_int : Cond.arrayClass .int ∈ wtb := wt (by decide +kernel) (by decide +kernel)
theorem aw_bool : Cond.arrayClass .boolean ∈ wtb := wt (by decide +kernel) (by decide +kernel)
theorem aw_long : Cond.arrayClass .long ∈ wtb := wt (by decide +kernel) (by decide +kernel)
theorem ow_inst : Cond.instanceMethod Lib.objectInit ∈ wtb := wt (by decide +kernel) (by decide +kernel)
theorem ow_code : Cond.code Lib.objectInit ⟨#[0xb1]⟩ 1 none ∈ wtb := wt (by decide +kernel) (by decide +kernel)
theorem olX4 : Cond.methodLink RX4 3 Lib.objectInit ∈ wtb := wt (by decide +kernel) (by decide +kernel)
theorem ffX4_9 : FLF RX4 9 4 2 := ⟨_, rfl, by decide, wt (List.mem_of_getElem? (i := 116) (by decide +kernel)) rfl, rfl, rfl, rfl, fun _ => ⟨rfl, rfl⟩⟩
theorem ffX4_15 : FLF RX4 15 4 5 := ⟨_, rfl, by decide, wt (List.mem_of_getElem? (i := 119) (by decide +kernel)) rfl, rfl, rfl, rfl, fun _ => ⟨rfl, rfl⟩⟩
theorem ffX4_18 : FLF RX4 18 4 6 := ⟨_, rfl, by decide, wt (List.mem_of_getElem? (i := 120) (by decide +kernel)) rfl, rfl, rfl, rfl, fun _ => ⟨rfl, rfl⟩⟩
theorem ffX4_22 : FLF RX4 22 4 7 := ⟨_, rfl, by decide, wt (List.mem_of_getElem? (i := 121) (by decide +kernel)) rfl, rfl, rfl, rfl, fun _ => ⟨rfl, rfl⟩⟩
theorem ffX4_25 : FLF RX4 25 4 8 := ⟨_, rfl, by decide, wt (List.mem_of_getElem? (i := 122) (by decide +kernel)) rfl, rfl, rfl, rfl, fun _ => ⟨rfl, rfl⟩⟩
def nb_rule (mem : Mem) : Mem := mset (mset (mset (mset (mset (mem) 10 2 1) 10 5 1) 10 6 1) 10 7 1) 10 8 1
theorem kb_rule (G : Gm) (B : Nat) (mem : Mem) : ConB (G, B, mX4_init, 16, 5, 120, fun m2 => m2 = nb_rule mem) [(2, 10)] 11 mem := by
  refine ConB.of (lo := [(2, 10)]) rfl rfl (Nat.le_of_ble_eq_true rfl) rfl ?_
  refine b_aloadn (pc := 0) dX4_init_0 rfl rfl ?_
  refine b_obj (pc := 1) (c := 10) dX4_init_1 olX4 ow_inst ow_code (Nat.le_of_ble_eq_true rfl) (Nat.le_of_ble_eq_true rfl) ?_
  show Bv _ _ _ _ 4 [(2, 10)] [] _
  refine b_aloadn (pc := 4) dX4_init_4 rfl rfl ?_
  refine b_bipush (pc := 5) dX4_init_5 rfl (by decide) ?_
  refine b_newa (pc := 7) (n := 11) (t := 0) (L := 40) (b := 0) dX4_init_7 rfl (by decide) rfl aw_int (fun _ => rfl) (fun _ _ zh => zh) (by decide) (by decide) (Nat.le_of_ble_eq_true rfl) (Nat.le_of_ble_eq_true rfl) ?_
  show Bv _ _ _ _ 9 [(2, 10)] [(2, 11), (2, 10)] _
  refine b_putr (pc := 9) (c := 10) (k := 11) dX4_init_9 ffX4_9 rfl rfl (by decide) (by decide) ?_
  show Bv _ _ _ _ 12 [(2, 10)] [] _
  refine b_aloadn (pc := 12) dX4_init_12 rfl rfl ?_
  refine b_bipush (pc := 13) dX4_init_13 rfl (by decide) ?_
  refine b_newa (pc := 15) (n := 12) (t := 0) (L := 20) (b := 0) dX4_init_15 rfl (by decide) rfl aw_int (fun _ => rfl) (fun _ _ zh => zh) (by decide) (by decide) (Nat.le_of_ble_eq_true rfl) (Nat.le_of_ble_eq_true rfl) ?_
  show Bv _ _ _ _ 17 [(2, 10)] [(2, 12), (2, 10)] _
  refine b_putr (pc := 17) (c := 10) (k := 12) dX4_init_17 ffX4_15 rfl rfl (by decide) (by decide) ?_
  show Bv _ _ _ _ 20 [(2, 10)] [] _
  refine b_aloadn (pc := 20) dX4_init_20 rfl rfl ?_
  refine b_bipush (pc := 21) dX4_init_21 rfl (by decide) ?_
  refine b_newa (pc := 23) (n := 13) (t := 1) (L := 20) (b := 0) dX4_init_23 rfl (by decide) rfl aw_bool (fun _ => rfl) (fun _ _ zh => zh) (by decide) (by decide) (Nat.le_of_ble_eq_true rfl) (Nat.le_of_ble_eq_true rfl) ?_
  show Bv _ _ _ _ 25 [(2, 10)] [(2, 13), (2, 10)] _
  refine b_putr (pc := 25) (c := 10) (k := 13) dX4_init_25 ffX4_18 rfl rfl (by decide) (by decide) ?_
  show Bv _ _ _ _ 28 [(2, 10)] [] _
  refine b_aloadn (pc := 28) dX4_init_28 rfl rfl ?_
  refine b_bipush (pc := 29) dX4_init_29 rfl (by decide) ?_
  refine b_newa (pc := 31) (n := 14) (t := 0) (L := 20) (b := 0) dX4_init_31 rfl (by decide) rfl aw_int (fun _ => rfl) (fun _ _ zh => zh) (by decide) (by decide) (Nat.le_of_ble_eq_true rfl) (Nat.le_of_ble_eq_true rfl) ?_
  show Bv _ _ _ _ 33 [(2, 10)] [(2, 14), (2, 10)] _
  refine b_putr (pc := 33) (c := 10) (k := 14) dX4_init_33 ffX4_22 rfl rfl (by decide) (by decide) ?_
  show Bv _ _ _ _ 36 [(2, 10)] [] _
  refine b_aloadn (pc := 36) dX4_init_36 rfl rfl ?_
  refine b_bipush (pc := 37) dX4_init_37 rfl (by decide) ?_
  refine b_newa (pc := 39) (n := 15) (t := 0) (L := 20) (b := 0) dX4_init_39 rfl (by decide) rfl aw_int (fun _ => rfl) (fun _ _ zh => zh) (by decide) (by decide) (Nat.le_of_ble_eq_true rfl) (Nat.le_of_ble_eq_true rfl) ?_
  show Bv _ _ _ _ 41 [(2, 10)] [(2, 15), (2, 10)] _
  refine b_putr (pc := 41) (c := 10) (k := 15) dX4_init_41 ffX4_25 rfl rfl (by decide) (by decide) ?_
  show Bv _ _ _ _ 44 [(2, 10)] [] _
  exact b_ret (pc := 44) dX4_init_44 rfl rfl rfl rfl rfl
theorem olX2 : Cond.methodLink RX2 3 Lib.objectInit ∈ wtb := wt (by decide +kernel) (by decide +kernel)
theorem ffX2_9 : FLF RX2 9 2 1 := ⟨_, rfl, by decide, wt (List.mem_of_getElem? (i := 225) (by decide +kernel)) rfl, rfl, rfl, rfl, fun _ => ⟨rfl, rfl⟩⟩
theorem ffX2_15 : FLF RX2 15 2 3 := ⟨_, rfl, by decide, wt (List.mem_of_getElem? (i := 227) (by decide +kernel)) rfl, rfl, rfl, rfl, fun _ => ⟨rfl, rfl⟩⟩
theorem ffX2_18 : FLF RX2 18 2 0 := ⟨_, rfl, by decide, wt (List.mem_of_getElem? (i := 224) (by decide +kernel)) rfl, rfl, rfl, rfl, fun _ => ⟨rfl, rfl⟩⟩
def nb_grid (mem : Mem) : Mem := mset (mset (mset (mem) 34 1 1) 34 3 1) 34 0 1
theorem kb_grid (G : Gm) (B : Nat) (mem : Mem) : ConB (G, B, mX2_init, 37, 2, 21, fun m2 => m2 = nb_grid mem) [(2, 34), (2, 25)] 35 mem := by
  refine ConB.of (lo := [(2, 34), (2, 25)]) rfl rfl (Nat.le_of_ble_eq_true rfl) rfl ?_
  refine b_aloadn (pc := 0) dX2_init_0 rfl rfl ?_
  refine b_obj (pc := 1) (c := 34) dX2_init_1 olX2 ow_inst ow_code (Nat.le_of_ble_eq_true rfl) (Nat.le_of_ble_eq_true rfl) ?_
  show Bv _ _ _ _ 4 [(2, 34), (2, 25)] [] _
  refine b_aloadn (pc := 4) dX2_init_4 rfl rfl ?_
  refine b_bipush (pc := 5) dX2_init_5 rfl (by decide) ?_
  refine b_newa (pc := 7) (n := 35) (t := 0) (L := 13) (b := 0) dX2_init_7 rfl (by decide) rfl aw_int (fun _ => rfl) (fun _ _ zh => zh) (by decide) (by decide) (Nat.le_of_ble_eq_true rfl) (Nat.le_of_ble_eq_true rfl) ?_
  show Bv _ _ _ _ 9 [(2, 34), (2, 25)] [(2, 35), (2, 34)] _
  refine b_putr (pc := 9) (c := 34) (k := 35) dX2_init_9 ffX2_9 rfl rfl (by decide) (by decide) ?_
  show Bv _ _ _ _ 12 [(2, 34), (2, 25)] [] _
  refine b_aloadn (pc := 12) dX2_init_12 rfl rfl ?_
  refine b_bipush (pc := 13) dX2_init_13 rfl (by decide) ?_
  refine b_newa (pc := 15) (n := 36) (t := 0) (L := 8) (b := 0) dX2_init_15 rfl (by decide) rfl aw_int (fun _ => rfl) (fun _ _ zh => zh) (by decide) (by decide) (Nat.le_of_ble_eq_true rfl) (Nat.le_of_ble_eq_true rfl) ?_
  show Bv _ _ _ _ 17 [(2, 34), (2, 25)] [(2, 36), (2, 34)] _
  refine b_putr (pc := 17) (c := 34) (k := 36) dX2_init_17 ffX2_15 rfl rfl (by decide) (by decide) ?_
  show Bv _ _ _ _ 20 [(2, 34), (2, 25)] [] _
  refine b_aloadn (pc := 20) dX2_init_20 rfl rfl ?_
  refine b_aloadn (pc := 21) dX2_init_21 rfl rfl ?_
  refine b_putr (pc := 22) (c := 34) (k := 25) dX2_init_22 ffX2_18 rfl rfl (by decide) (by decide) ?_
  show Bv _ _ _ _ 25 [(2, 34), (2, 25)] [] _
  exact b_ret (pc := 25) dX2_init_25 rfl rfl rfl rfl rfl
theorem olX6 : Cond.methodLink RX6 3 Lib.objectInit ∈ wtb := wt (by decide +kernel) (by decide +kernel)
theorem ffX6_9 : FLF RX6 9 6 0 := ⟨_, rfl, by decide, wt (List.mem_of_getElem? (i := 243) (by decide +kernel)) rfl, rfl, rfl, rfl, fun _ => ⟨rfl, rfl⟩⟩
theorem ffX6_15 : FLF RX6 15 6 4 := ⟨_, rfl, by decide, wt (List.mem_of_getElem? (i := 250) (by decide +kernel)) rfl, rfl, rfl, rfl, fun _ => ⟨rfl, rfl⟩⟩
theorem ffX6_19 : FLF RX6 19 6 3 := ⟨_, rfl, by decide, wt (List.mem_of_getElem? (i := 249) (by decide +kernel)) rfl, rfl, rfl, rfl, fun _ => ⟨rfl, rfl⟩⟩
def nb_weeks (mem : Mem) : Mem := mset (mset (mset (mem) 37 0 1) 37 4 1) 37 3 1
theorem kb_weeks (G : Gm) (B : Nat) (mem : Mem) : ConB (G, B, mX6_init, 40, 2, 122, fun m2 => m2 = nb_weeks mem) [(2, 37), (2, 25)] 38 mem := by
  refine ConB.of (lo := [(2, 37), (2, 25)]) rfl rfl (Nat.le_of_ble_eq_true rfl) rfl ?_
  refine b_aloadn (pc := 0) dX6_init_0 rfl rfl ?_
  refine b_obj (pc := 1) (c := 37) dX6_init_1 olX6 ow_inst ow_code (Nat.le_of_ble_eq_true rfl) (Nat.le_of_ble_eq_true rfl) ?_
  show Bv _ _ _ _ 4 [(2, 37), (2, 25)] [] _
  refine b_aloadn (pc := 4) dX6_init_4 rfl rfl ?_
  refine b_bipush (pc := 5) dX6_init_5 rfl (by decide) ?_
  refine b_newa (pc := 7) (n := 38) (t := 0) (L := 61) (b := 0) dX6_init_7 rfl (by decide) rfl aw_int (fun _ => rfl) (fun _ _ zh => zh) (by decide) (by decide) (Nat.le_of_ble_eq_true rfl) (Nat.le_of_ble_eq_true rfl) ?_
  show Bv _ _ _ _ 9 [(2, 37), (2, 25)] [(2, 38), (2, 37)] _
  refine b_putr (pc := 9) (c := 37) (k := 38) dX6_init_9 ffX6_9 rfl rfl (by decide) (by decide) ?_
  show Bv _ _ _ _ 12 [(2, 37), (2, 25)] [] _
  refine b_aloadn (pc := 12) dX6_init_12 rfl rfl ?_
  refine b_bipush (pc := 13) dX6_init_13 rfl (by decide) ?_
  refine b_newa (pc := 15) (n := 39) (t := 2) (L := 61) (b := 0) dX6_init_15 rfl (by decide) rfl aw_long (fun _ => rfl) (fun _ _ zh => zh) (by decide) (by decide) (Nat.le_of_ble_eq_true rfl) (Nat.le_of_ble_eq_true rfl) ?_
  show Bv _ _ _ _ 17 [(2, 37), (2, 25)] [(2, 39), (2, 37)] _
  refine b_putr (pc := 17) (c := 37) (k := 39) dX6_init_17 ffX6_15 rfl rfl (by decide) (by decide) ?_
  show Bv _ _ _ _ 20 [(2, 37), (2, 25)] [] _
  refine b_aloadn (pc := 20) dX6_init_20 rfl rfl ?_
  refine b_aloadn (pc := 21) dX6_init_21 rfl rfl ?_
  refine b_putr (pc := 22) (c := 37) (k := 25) dX6_init_22 ffX6_19 rfl rfl (by decide) (by decide) ?_
  show Bv _ _ _ _ 25 [(2, 37), (2, 25)] [] _
  exact b_ret (pc := 25) dX6_init_25 rfl rfl rfl rfl rfl
theorem olX3 : Cond.methodLink RX3 3 Lib.objectInit ∈ wtb := wt (by decide +kernel) (by decide +kernel)
theorem ffX3_9 : FLF RX3 9 3 0 := ⟨_, rfl, by decide, wt (List.mem_of_getElem? (i := 269) (by decide +kernel)) rfl, rfl, rfl, rfl, fun _ => ⟨rfl, rfl⟩⟩
theorem ffX3_15 : FLF RX3 15 3 1 := ⟨_, rfl, by decide, wt (List.mem_of_getElem? (i := 270) (by decide +kernel)) rfl, rfl, rfl, rfl, fun _ => ⟨rfl, rfl⟩⟩
def nb_roads (mem : Mem) : Mem := mset (mset (mem) 40 0 1) 40 1 1
theorem kb_roads (G : Gm) (B : Nat) (mem : Mem) : ConB (G, B, mX3_init, 41, 0, 0, fun m2 => m2 = nb_roads mem) [(2, 40), (2, 1), (2, 25)] 41 mem := by
  refine ConB.of (lo := [(2, 40), (2, 1), (2, 25)]) rfl rfl (Nat.le_of_ble_eq_true rfl) rfl ?_
  refine b_aloadn (pc := 0) dX3_init_0 rfl rfl ?_
  refine b_obj (pc := 1) (c := 40) dX3_init_1 olX3 ow_inst ow_code (Nat.le_of_ble_eq_true rfl) (Nat.le_of_ble_eq_true rfl) ?_
  show Bv _ _ _ _ 4 [(2, 40), (2, 1), (2, 25)] [] _
  refine b_aloadn (pc := 4) dX3_init_4 rfl rfl ?_
  refine b_aloadn (pc := 5) dX3_init_5 rfl rfl ?_
  refine b_putr (pc := 6) (c := 40) (k := 1) dX3_init_6 ffX3_9 rfl rfl (by decide) (by decide) ?_
  show Bv _ _ _ _ 9 [(2, 40), (2, 1), (2, 25)] [] _
  refine b_aloadn (pc := 9) dX3_init_9 rfl rfl ?_
  refine b_aloadn (pc := 10) dX3_init_10 rfl rfl ?_
  refine b_putr (pc := 11) (c := 40) (k := 25) dX3_init_11 ffX3_15 rfl rfl (by decide) (by decide) ?_
  show Bv _ _ _ _ 14 [(2, 40), (2, 1), (2, 25)] [] _
  exact b_ret (pc := 14) dX3_init_14 rfl rfl rfl rfl rfl
theorem olX5 : Cond.methodLink RX5 3 Lib.objectInit ∈ wtb := wt (by decide +kernel) (by decide +kernel)
theorem cmX5_9 : Cond.classLink RX5 9 ("[" ++ (FieldType.array .int).toString) ∈ wtb := wt (by decide +kernel) (by decide +kernel)
theorem ffX5_11 : FLF RX5 11 5 0 := ⟨_, rfl, by decide, wt (List.mem_of_getElem? (i := 283) (by decide +kernel)) rfl, rfl, rfl, rfl, fun _ => ⟨rfl, rfl⟩⟩
theorem ffX5_16 : FLF RX5 16 5 1 := ⟨_, rfl, by decide, wt (List.mem_of_getElem? (i := 285) (by decide +kernel)) rfl, rfl, rfl, rfl, fun _ => ⟨rfl, rfl⟩⟩
theorem ffX5_20 : FLF RX5 20 5 2 := ⟨_, rfl, by decide, wt (List.mem_of_getElem? (i := 287) (by decide +kernel)) rfl, rfl, rfl, rfl, fun _ => ⟨rfl, rfl⟩⟩
def nb_sheets (mem : Mem) : Mem := mset (mset (mset (mset (mset (mset (mset (mem) 41 0 1) 41 1 1) 41 2 1) 47 ((0 : Int).toNat) (-1)) 47 ((1 : Int).toNat) (-1)) 47 ((2 : Int).toNat) (-1)) 47 ((3 : Int).toNat) (-1)
theorem kb_sheets (G : Gm) (B : Nat) (mem : Mem) : ConB (G, B, mX5_init, 49, 7, 268, fun m2 => m2 = nb_sheets mem) [(2, 41)] 42 mem := by
  refine ConB.of (lo := [(2, 41), (3, 0)]) rfl rfl (Nat.le_of_ble_eq_true rfl) rfl ?_
  refine b_aloadn (pc := 0) dX5_init_0 rfl rfl ?_
  refine b_obj (pc := 1) (c := 41) dX5_init_1 olX5 ow_inst ow_code (Nat.le_of_ble_eq_true rfl) (Nat.le_of_ble_eq_true rfl) ?_
  show Bv _ _ _ _ 4 [(2, 41), (3, 0)] [] _
  refine b_aloadn (pc := 4) dX5_init_4 rfl rfl ?_
  refine b_iconst (pc := 5) dX5_init_5 (by decide) ?_
  refine b_bipush (pc := 6) dX5_init_6 rfl (by decide) ?_
  refine b_mna (pc := 8) (n := 42) (R := 4) (L := 64) dX5_init_8 rfl (by decide) (by decide) cmX5_9 aw_int (by decide) (by decide) (Nat.le_of_ble_eq_true rfl) (Nat.le_of_ble_eq_true rfl) ?_
  show Bv _ _ _ _ 12 [(2, 41), (3, 0)] [(2, 42), (2, 41)] _
  refine b_putr (pc := 12) (c := 41) (k := 42) dX5_init_12 ffX5_11 rfl rfl (by decide) (by decide) ?_
  show Bv _ _ _ _ 15 [(2, 41), (3, 0)] [] _
  refine b_aloadn (pc := 15) dX5_init_15 rfl rfl ?_
  refine b_iconst (pc := 16) dX5_init_16 (by decide) ?_
  refine b_newa (pc := 17) (n := 47) (t := 0) (L := 4) (b := 0) dX5_init_17 rfl (by decide) rfl aw_int (fun _ => rfl) (fun _ _ zh => zh) (by decide) (by decide) (Nat.le_of_ble_eq_true rfl) (Nat.le_of_ble_eq_true rfl) ?_
  show Bv _ _ _ _ 19 [(2, 41), (3, 0)] [(2, 47), (2, 41)] _
  refine b_putr (pc := 19) (c := 41) (k := 47) dX5_init_19 ffX5_16 rfl rfl (by decide) (by decide) ?_
  show Bv _ _ _ _ 22 [(2, 41), (3, 0)] [] _
  refine b_aloadn (pc := 22) dX5_init_22 rfl rfl ?_
  refine b_iconst (pc := 23) dX5_init_23 (by decide) ?_
  refine b_newa (pc := 24) (n := 48) (t := 0) (L := 4) (b := 0) dX5_init_24 rfl (by decide) rfl aw_int (fun _ => rfl) (fun _ _ zh => zh) (by decide) (by decide) (Nat.le_of_ble_eq_true rfl) (Nat.le_of_ble_eq_true rfl) ?_
  show Bv _ _ _ _ 26 [(2, 41), (3, 0)] [(2, 48), (2, 41)] _
  refine b_putr (pc := 26) (c := 41) (k := 48) dX5_init_26 ffX5_20 rfl rfl (by decide) (by decide) ?_
  show Bv _ _ _ _ 29 [(2, 41), (3, 0)] [] _
  refine b_iconst (pc := 29) dX5_init_29 (by decide) ?_
  refine b_istoren (pc := 30) (lo' := [(2, 41), (0, 0)]) dX5_init_30 rfl rfl (Nat.le_of_ble_eq_true rfl) rfl ?_
  refine b_iloadn (pc := 31) dX5_init_31 rfl rfl ?_
  refine b_iconst (pc := 32) dX5_init_32 (by decide) ?_
  refine b_icmp_ge (pc := 33) (tgt := 49) dX5_init_33 rfl (fun zh => absurd zh (by decide)) (fun _ => ?_)
  refine b_aloadn (pc := 36) dX5_init_36 rfl rfl ?_
  refine b_getr (pc := 37) (c := 41) (j := 1) (k := 47) dX5_init_37 fX5_16 rfl rfl (by decide) (by decide) (rfl) ?_
  show Bv _ _ _ _ 40 [(2, 41), (0, 0)] [(2, 47)] _
  refine b_iloadn (pc := 40) dX5_init_40 rfl rfl ?_
  refine b_iconst (pc := 41) dX5_init_41 (by decide) ?_
  refine b_iast (pc := 42) (c := 47) (L := 4) (b := 0) dX5_init_42 rfl (by decide) (by decide) ?_
  show Bv _ _ _ _ 43 [(2, 41), (0, 0)] [] _
  refine b_iinc (pc := 43) (lo' := [(2, 41), (0, 1)]) dX5_init_43 rfl (by decide) rfl (Nat.le_of_ble_eq_true rfl) rfl ?_
  refine b_goto (pc := 46) (tgt := 31) dX5_init_46 rfl ?_
  refine b_iloadn (pc := 31) dX5_init_31 rfl rfl ?_
  refine b_iconst (pc := 32) dX5_init_32 (by decide) ?_
  refine b_icmp_ge (pc := 33) (tgt := 49) dX5_init_33 rfl (fun zh => absurd zh (by decide)) (fun _ => ?_)
  refine b_aloadn (pc := 36) dX5_init_36 rfl rfl ?_
  refine b_getr (pc := 37) (c := 41) (j := 1) (k := 47) dX5_init_37 fX5_16 rfl rfl (by decide) (by decide) (rfl) ?_
  show Bv _ _ _ _ 40 [(2, 41), (0, 1)] [(2, 47)] _
  refine b_iloadn (pc := 40) dX5_init_40 rfl rfl ?_
  refine b_iconst (pc := 41) dX5_init_41 (by decide) ?_
  refine b_iast (pc := 42) (c := 47) (L := 4) (b := 0) dX5_init_42 rfl (by decide) (by decide) ?_
  show Bv _ _ _ _ 43 [(2, 41), (0, 1)] [] _
  refine b_iinc (pc := 43) (lo' := [(2, 41), (0, 2)]) dX5_init_43 rfl (by decide) rfl (Nat.le_of_ble_eq_true rfl) rfl ?_
  refine b_goto (pc := 46) (tgt := 31) dX5_init_46 rfl ?_
  refine b_iloadn (pc := 31) dX5_init_31 rfl rfl ?_
  refine b_iconst (pc := 32) dX5_init_32 (by decide) ?_
  refine b_icmp_ge (pc := 33) (tgt := 49) dX5_init_33 rfl (fun zh => absurd zh (by decide)) (fun _ => ?_)
  refine b_aloadn (pc := 36) dX5_init_36 rfl rfl ?_
  refine b_getr (pc := 37) (c := 41) (j := 1) (k := 47) dX5_init_37 fX5_16 rfl rfl (by decide) (by decide) (rfl) ?_
  show Bv _ _ _ _ 40 [(2, 41), (0, 2)] [(2, 47)] _
  refine b_iloadn (pc := 40) dX5_init_40 rfl rfl ?_
  refine b_iconst (pc := 41) dX5_init_41 (by decide) ?_
  refine b_iast (pc := 42) (c := 47) (L := 4) (b := 0) dX5_init_42 rfl (by decide) (by decide) ?_
  show Bv _ _ _ _ 43 [(2, 41), (0, 2)] [] _
  refine b_iinc (pc := 43) (lo' := [(2, 41), (0, 3)]) dX5_init_43 rfl (by decide) rfl (Nat.le_of_ble_eq_true rfl) rfl ?_
  refine b_goto (pc := 46) (tgt := 31) dX5_init_46 rfl ?_
  refine b_iloadn (pc := 31) dX5_init_31 rfl rfl ?_
  refine b_iconst (pc := 32) dX5_init_32 (by decide) ?_
  refine b_icmp_ge (pc := 33) (tgt := 49) dX5_init_33 rfl (fun zh => absurd zh (by decide)) (fun _ => ?_)
  refine b_aloadn (pc := 36) dX5_init_36 rfl rfl ?_
  refine b_getr (pc := 37) (c := 41) (j := 1) (k := 47) dX5_init_37 fX5_16 rfl rfl (by decide) (by decide) (rfl) ?_
  show Bv _ _ _ _ 40 [(2, 41), (0, 3)] [(2, 47)] _
  refine b_iloadn (pc := 40) dX5_init_40 rfl rfl ?_
  refine b_iconst (pc := 41) dX5_init_41 (by decide) ?_
  refine b_iast (pc := 42) (c := 47) (L := 4) (b := 0) dX5_init_42 rfl (by decide) (by decide) ?_
  show Bv _ _ _ _ 43 [(2, 41), (0, 3)] [] _
  refine b_iinc (pc := 43) (lo' := [(2, 41), (0, 4)]) dX5_init_43 rfl (by decide) rfl (Nat.le_of_ble_eq_true rfl) rfl ?_
  refine b_goto (pc := 46) (tgt := 31) dX5_init_46 rfl ?_
  refine b_iloadn (pc := 31) dX5_init_31 rfl rfl ?_
  refine b_iconst (pc := 32) dX5_init_32 (by decide) ?_
  refine b_icmp_ge (pc := 33) (tgt := 49) dX5_init_33 rfl (fun _ => ?_) (fun zh => absurd zh (by decide))
  exact b_ret (pc := 49) dX5_init_49 rfl rfl rfl rfl rfl
theorem olX1 : Cond.methodLink RX1 3 Lib.objectInit ∈ wtb := wt (by decide +kernel) (by decide +kernel)
theorem ffX1_13 : FLF RX1 13 1 0 := ⟨_, rfl, by decide, wt (List.mem_of_getElem? (i := 163) (by decide +kernel)) rfl, rfl, rfl, rfl, fun _ => ⟨rfl, rfl⟩⟩
theorem ffX1_18 : FLF RX1 18 1 1 := ⟨_, rfl, by decide, wt (List.mem_of_getElem? (i := 165) (by decide +kernel)) rfl, rfl, rfl, rfl, fun _ => ⟨rfl, rfl⟩⟩
theorem ffX1_21 : FLF RX1 21 1 2 := ⟨_, rfl, by decide, wt (List.mem_of_getElem? (i := 168) (by decide +kernel)) rfl, rfl, rfl, rfl, fun _ => ⟨rfl, rfl⟩⟩
theorem ffX1_24 : FLF RX1 24 1 3 := ⟨_, rfl, by decide, wt (List.mem_of_getElem? (i := 171) (by decide +kernel)) rfl, rfl, rfl, rfl, fun _ => ⟨rfl, rfl⟩⟩
theorem ffX1_27 : FLF RX1 27 1 8 := ⟨_, rfl, by decide, wt (List.mem_of_getElem? (i := 180) (by decide +kernel)) rfl, rfl, rfl, rfl, fun _ => ⟨rfl, rfl⟩⟩
theorem ffX1_30 : FLF RX1 30 1 10 := ⟨_, rfl, by decide, wt (List.mem_of_getElem? (i := 182) (by decide +kernel)) rfl, rfl, rfl, rfl, fun _ => ⟨rfl, rfl⟩⟩
theorem ffX1_33 : FLF RX1 33 1 12 := ⟨_, rfl, by decide, wt (List.mem_of_getElem? (i := 184) (by decide +kernel)) rfl, rfl, rfl, rfl, fun _ => ⟨rfl, rfl⟩⟩
theorem ffX1_36 : FLF RX1 36 1 14 := ⟨_, rfl, by decide, wt (List.mem_of_getElem? (i := 186) (by decide +kernel)) rfl, rfl, rfl, rfl, fun _ => ⟨rfl, rfl⟩⟩
theorem ffX1_39 : FLF RX1 39 1 6 := ⟨_, rfl, by decide, wt (List.mem_of_getElem? (i := 178) (by decide +kernel)) rfl, rfl, rfl, rfl, fun _ => ⟨rfl, rfl⟩⟩
theorem ffX1_43 : FLF RX1 43 1 7 := ⟨_, rfl, by decide, wt (List.mem_of_getElem? (i := 179) (by decide +kernel)) rfl, rfl, rfl, rfl, fun _ => ⟨rfl, rfl⟩⟩
def nb_now (mem : Mem) : Mem := mset (mset (mset (mset (mset (mset (mset (mset (mset (mset (mset (mset (mset (mset (mset (mset (mset (mset (mset (mset (mset (mset (mset (mset (mset (mset (mem) 16 0 1) 16 1 1) 16 2 1) 16 3 1) 16 8 1) 16 10 1) 16 12 1) 16 14 1) 16 6 1) 16 7 1) 18 ((0 : Int).toNat) (-1)) 20 ((0 : Int).toNat) 60) 18 ((1 : Int).toNat) (-1)) 20 ((1 : Int).toNat) 60) 18 ((2 : Int).toNat) (-1)) 20 ((2 : Int).toNat) 60) 18 ((3 : Int).toNat) (-1)) 20 ((3 : Int).toNat) 60) 18 ((4 : Int).toNat) (-1)) 20 ((4 : Int).toNat) 60) 18 ((5 : Int).toNat) (-1)) 20 ((5 : Int).toNat) 60) 18 ((6 : Int).toNat) (-1)) 20 ((6 : Int).toNat) 60) 18 ((7 : Int).toNat) (-1)) 20 ((7 : Int).toNat) 60
theorem kb_now (G : Gm) (B : Nat) (mem : Mem) : ConB (G, B, mX1_init, 25, 8, 59, fun m2 => m2 = nb_now mem) [(2, 16), (2, 1), (2, 10)] 17 mem := by
  refine ConB.of (lo := [(2, 16), (2, 1), (2, 10), (3, 0)]) rfl rfl (Nat.le_of_ble_eq_true rfl) rfl ?_
  refine b_aloadn (pc := 0) dX1_init_0 rfl rfl ?_
  refine b_obj (pc := 1) (c := 16) dX1_init_1 olX1 ow_inst ow_code (Nat.le_of_ble_eq_true rfl) (Nat.le_of_ble_eq_true rfl) ?_
  show Bv _ _ _ _ 4 [(2, 16), (2, 1), (2, 10), (3, 0)] [] _
  refine b_aloadn (pc := 4) dX1_init_4 rfl rfl ?_
  refine b_gets3 (pc := 5) rfl dX1_init_5 ?_
  show Bv _ _ _ _ 8 [(2, 16), (2, 1), (2, 10), (3, 0)] [(2, 81), (2, 16)] _
  refine b_salen (pc := 8) (k := 3) dX1_init_8 (by decide) ?_
  show Bv _ _ _ _ 9 [(2, 16), (2, 1), (2, 10), (3, 0)] [(0, 3), (2, 16)] _
  refine b_newa (pc := 9) (n := 17) (t := 0) (L := 3) (b := 0) dX1_init_9 rfl (by decide) rfl aw_int (fun _ => rfl) (fun _ _ zh => zh) (by decide) (by decide) (Nat.le_of_ble_eq_true rfl) (Nat.le_of_ble_eq_true rfl) ?_
  show Bv _ _ _ _ 11 [(2, 16), (2, 1), (2, 10), (3, 0)] [(2, 17), (2, 16)] _
  refine b_putr (pc := 11) (c := 16) (k := 17) dX1_init_11 ffX1_13 rfl rfl (by decide) (by decide) ?_
  show Bv _ _ _ _ 14 [(2, 16), (2, 1), (2, 10), (3, 0)] [] _
  refine b_aloadn (pc := 14) dX1_init_14 rfl rfl ?_
  refine b_bipush (pc := 15) dX1_init_15 rfl (by decide) ?_
  refine b_newa (pc := 17) (n := 18) (t := 0) (L := 8) (b := 0) dX1_init_17 rfl (by decide) rfl aw_int (fun _ => rfl) (fun _ _ zh => zh) (by decide) (by decide) (Nat.le_of_ble_eq_true rfl) (Nat.le_of_ble_eq_true rfl) ?_
  show Bv _ _ _ _ 19 [(2, 16), (2, 1), (2, 10), (3, 0)] [(2, 18), (2, 16)] _
  refine b_putr (pc := 19) (c := 16) (k := 18) dX1_init_19 ffX1_18 rfl rfl (by decide) (by decide) ?_
  show Bv _ _ _ _ 22 [(2, 16), (2, 1), (2, 10), (3, 0)] [] _
  refine b_aloadn (pc := 22) dX1_init_22 rfl rfl ?_
  refine b_bipush (pc := 23) dX1_init_23 rfl (by decide) ?_
  refine b_newa (pc := 25) (n := 19) (t := 0) (L := 8) (b := 0) dX1_init_25 rfl (by decide) rfl aw_int (fun _ => rfl) (fun _ _ zh => zh) (by decide) (by decide) (Nat.le_of_ble_eq_true rfl) (Nat.le_of_ble_eq_true rfl) ?_
  show Bv _ _ _ _ 27 [(2, 16), (2, 1), (2, 10), (3, 0)] [(2, 19), (2, 16)] _
  refine b_putr (pc := 27) (c := 16) (k := 19) dX1_init_27 ffX1_21 rfl rfl (by decide) (by decide) ?_
  show Bv _ _ _ _ 30 [(2, 16), (2, 1), (2, 10), (3, 0)] [] _
  refine b_aloadn (pc := 30) dX1_init_30 rfl rfl ?_
  refine b_bipush (pc := 31) dX1_init_31 rfl (by decide) ?_
  refine b_newa (pc := 33) (n := 20) (t := 0) (L := 8) (b := 0) dX1_init_33 rfl (by decide) rfl aw_int (fun _ => rfl) (fun _ _ zh => zh) (by decide) (by decide) (Nat.le_of_ble_eq_true rfl) (Nat.le_of_ble_eq_true rfl) ?_
  show Bv _ _ _ _ 35 [(2, 16), (2, 1), (2, 10), (3, 0)] [(2, 20), (2, 16)] _
  refine b_putr (pc := 35) (c := 16) (k := 20) dX1_init_35 ffX1_24 rfl rfl (by decide) (by decide) ?_
  show Bv _ _ _ _ 38 [(2, 16), (2, 1), (2, 10), (3, 0)] [] _
  refine b_aloadn (pc := 38) dX1_init_38 rfl rfl ?_
  refine b_bipush (pc := 39) dX1_init_39 rfl (by decide) ?_
  refine b_newa (pc := 41) (n := 21) (t := 0) (L := 8) (b := 0) dX1_init_41 rfl (by decide) rfl aw_int (fun _ => rfl) (fun _ _ zh => zh) (by decide) (by decide) (Nat.le_of_ble_eq_true rfl) (Nat.le_of_ble_eq_true rfl) ?_
  show Bv _ _ _ _ 43 [(2, 16), (2, 1), (2, 10), (3, 0)] [(2, 21), (2, 16)] _
  refine b_putr (pc := 43) (c := 16) (k := 21) dX1_init_43 ffX1_27 rfl rfl (by decide) (by decide) ?_
  show Bv _ _ _ _ 46 [(2, 16), (2, 1), (2, 10), (3, 0)] [] _
  refine b_aloadn (pc := 46) dX1_init_46 rfl rfl ?_
  refine b_bipush (pc := 47) dX1_init_47 rfl (by decide) ?_
  refine b_newa (pc := 49) (n := 22) (t := 0) (L := 8) (b := 0) dX1_init_49 rfl (by decide) rfl aw_int (fun _ => rfl) (fun _ _ zh => zh) (by decide) (by decide) (Nat.le_of_ble_eq_true rfl) (Nat.le_of_ble_eq_true rfl) ?_
  show Bv _ _ _ _ 51 [(2, 16), (2, 1), (2, 10), (3, 0)] [(2, 22), (2, 16)] _
  refine b_putr (pc := 51) (c := 16) (k := 22) dX1_init_51 ffX1_30 rfl rfl (by decide) (by decide) ?_
  show Bv _ _ _ _ 54 [(2, 16), (2, 1), (2, 10), (3, 0)] [] _
  refine b_aloadn (pc := 54) dX1_init_54 rfl rfl ?_
  refine b_bipush (pc := 55) dX1_init_55 rfl (by decide) ?_
  refine b_newa (pc := 57) (n := 23) (t := 0) (L := 8) (b := 0) dX1_init_57 rfl (by decide) rfl aw_int (fun _ => rfl) (fun _ _ zh => zh) (by decide) (by decide) (Nat.le_of_ble_eq_true rfl) (Nat.le_of_ble_eq_true rfl) ?_
  show Bv _ _ _ _ 59 [(2, 16), (2, 1), (2, 10), (3, 0)] [(2, 23), (2, 16)] _
  refine b_putr (pc := 59) (c := 16) (k := 23) dX1_init_59 ffX1_33 rfl rfl (by decide) (by decide) ?_
  show Bv _ _ _ _ 62 [(2, 16), (2, 1), (2, 10), (3, 0)] [] _
  refine b_aloadn (pc := 62) dX1_init_62 rfl rfl ?_
  refine b_bipush (pc := 63) dX1_init_63 rfl (by decide) ?_
  refine b_newa (pc := 65) (n := 24) (t := 0) (L := 8) (b := 0) dX1_init_65 rfl (by decide) rfl aw_int (fun _ => rfl) (fun _ _ zh => zh) (by decide) (by decide) (Nat.le_of_ble_eq_true rfl) (Nat.le_of_ble_eq_true rfl) ?_
  show Bv _ _ _ _ 67 [(2, 16), (2, 1), (2, 10), (3, 0)] [(2, 24), (2, 16)] _
  refine b_putr (pc := 67) (c := 16) (k := 24) dX1_init_67 ffX1_36 rfl rfl (by decide) (by decide) ?_
  show Bv _ _ _ _ 70 [(2, 16), (2, 1), (2, 10), (3, 0)] [] _
  refine b_aloadn (pc := 70) dX1_init_70 rfl rfl ?_
  refine b_aloadn (pc := 71) dX1_init_71 rfl rfl ?_
  refine b_putr (pc := 72) (c := 16) (k := 1) dX1_init_72 ffX1_39 rfl rfl (by decide) (by decide) ?_
  show Bv _ _ _ _ 75 [(2, 16), (2, 1), (2, 10), (3, 0)] [] _
  refine b_aloadn (pc := 75) dX1_init_75 rfl rfl ?_
  refine b_aloadn (pc := 76) dX1_init_76 rfl rfl ?_
  refine b_putr (pc := 77) (c := 16) (k := 10) dX1_init_77 ffX1_43 rfl rfl (by decide) (by decide) ?_
  show Bv _ _ _ _ 80 [(2, 16), (2, 1), (2, 10), (3, 0)] [] _
  refine b_iconst (pc := 80) dX1_init_80 (by decide) ?_
  refine b_istoren (pc := 81) (lo' := [(2, 16), (2, 1), (2, 10), (0, 0)]) dX1_init_81 rfl rfl (Nat.le_of_ble_eq_true rfl) rfl ?_
  refine b_iloadn (pc := 82) dX1_init_82 rfl rfl ?_
  refine b_bipush (pc := 83) dX1_init_83 rfl (by decide) ?_
  refine b_icmp_ge (pc := 85) (tgt := 109) dX1_init_85 rfl (fun zh => absurd zh (by decide)) (fun _ => ?_)
  refine b_aloadn (pc := 88) dX1_init_88 rfl rfl ?_
  refine b_getr (pc := 89) (c := 16) (j := 1) (k := 18) dX1_init_89 fX1_18 rfl rfl (by decide) (by decide) (rfl) ?_
  show Bv _ _ _ _ 92 [(2, 16), (2, 1), (2, 10), (0, 0)] [(2, 18)] _
  refine b_iloadn (pc := 92) dX1_init_92 rfl rfl ?_
  refine b_iconst (pc := 93) dX1_init_93 (by decide) ?_
  refine b_iast (pc := 94) (c := 18) (L := 8) (b := 0) dX1_init_94 rfl (by decide) (by decide) ?_
  show Bv _ _ _ _ 95 [(2, 16), (2, 1), (2, 10), (0, 0)] [] _
  refine b_aloadn (pc := 95) dX1_init_95 rfl rfl ?_
  refine b_getr (pc := 96) (c := 16) (j := 3) (k := 20) dX1_init_96 fX1_24 rfl rfl (by decide) (by decide) (rfl) ?_
  show Bv _ _ _ _ 99 [(2, 16), (2, 1), (2, 10), (0, 0)] [(2, 20)] _
  refine b_iloadn (pc := 99) dX1_init_99 rfl rfl ?_
  refine b_bipush (pc := 100) dX1_init_100 rfl (by decide) ?_
  refine b_iast (pc := 102) (c := 20) (L := 8) (b := 0) dX1_init_102 rfl (by decide) (by decide) ?_
  show Bv _ _ _ _ 103 [(2, 16), (2, 1), (2, 10), (0, 0)] [] _
  refine b_iinc (pc := 103) (lo' := [(2, 16), (2, 1), (2, 10), (0, 1)]) dX1_init_103 rfl (by decide) rfl (Nat.le_of_ble_eq_true rfl) rfl ?_
  refine b_goto (pc := 106) (tgt := 82) dX1_init_106 rfl ?_
  refine b_iloadn (pc := 82) dX1_init_82 rfl rfl ?_
  refine b_bipush (pc := 83) dX1_init_83 rfl (by decide) ?_
  refine b_icmp_ge (pc := 85) (tgt := 109) dX1_init_85 rfl (fun zh => absurd zh (by decide)) (fun _ => ?_)
  refine b_aloadn (pc := 88) dX1_init_88 rfl rfl ?_
  refine b_getr (pc := 89) (c := 16) (j := 1) (k := 18) dX1_init_89 fX1_18 rfl rfl (by decide) (by decide) (rfl) ?_
  show Bv _ _ _ _ 92 [(2, 16), (2, 1), (2, 10), (0, 1)] [(2, 18)] _
  refine b_iloadn (pc := 92) dX1_init_92 rfl rfl ?_
  refine b_iconst (pc := 93) dX1_init_93 (by decide) ?_
  refine b_iast (pc := 94) (c := 18) (L := 8) (b := 0) dX1_init_94 rfl (by decide) (by decide) ?_
  show Bv _ _ _ _ 95 [(2, 16), (2, 1), (2, 10), (0, 1)] [] _
  refine b_aloadn (pc := 95) dX1_init_95 rfl rfl ?_
  refine b_getr (pc := 96) (c := 16) (j := 3) (k := 20) dX1_init_96 fX1_24 rfl rfl (by decide) (by decide) (rfl) ?_
  show Bv _ _ _ _ 99 [(2, 16), (2, 1), (2, 10), (0, 1)] [(2, 20)] _
  refine b_iloadn (pc := 99) dX1_init_99 rfl rfl ?_
  refine b_bipush (pc := 100) dX1_init_100 rfl (by decide) ?_
  refine b_iast (pc := 102) (c := 20) (L := 8) (b := 0) dX1_init_102 rfl (by decide) (by decide) ?_
  show Bv _ _ _ _ 103 [(2, 16), (2, 1), (2, 10), (0, 1)] [] _
  refine b_iinc (pc := 103) (lo' := [(2, 16), (2, 1), (2, 10), (0, 2)]) dX1_init_103 rfl (by decide) rfl (Nat.le_of_ble_eq_true rfl) rfl ?_
  refine b_goto (pc := 106) (tgt := 82) dX1_init_106 rfl ?_
  refine b_iloadn (pc := 82) dX1_init_82 rfl rfl ?_
  refine b_bipush (pc := 83) dX1_init_83 rfl (by decide) ?_
  refine b_icmp_ge (pc := 85) (tgt := 109) dX1_init_85 rfl (fun zh => absurd zh (by decide)) (fun _ => ?_)
  refine b_aloadn (pc := 88) dX1_init_88 rfl rfl ?_
  refine b_getr (pc := 89) (c := 16) (j := 1) (k := 18) dX1_init_89 fX1_18 rfl rfl (by decide) (by decide) (rfl) ?_
  show Bv _ _ _ _ 92 [(2, 16), (2, 1), (2, 10), (0, 2)] [(2, 18)] _
  refine b_iloadn (pc := 92) dX1_init_92 rfl rfl ?_
  refine b_iconst (pc := 93) dX1_init_93 (by decide) ?_
  refine b_iast (pc := 94) (c := 18) (L := 8) (b := 0) dX1_init_94 rfl (by decide) (by decide) ?_
  show Bv _ _ _ _ 95 [(2, 16), (2, 1), (2, 10), (0, 2)] [] _
  refine b_aloadn (pc := 95) dX1_init_95 rfl rfl ?_
  refine b_getr (pc := 96) (c := 16) (j := 3) (k := 20) dX1_init_96 fX1_24 rfl rfl (by decide) (by decide) (rfl) ?_
  show Bv _ _ _ _ 99 [(2, 16), (2, 1), (2, 10), (0, 2)] [(2, 20)] _
  refine b_iloadn (pc := 99) dX1_init_99 rfl rfl ?_
  refine b_bipush (pc := 100) dX1_init_100 rfl (by decide) ?_
  refine b_iast (pc := 102) (c := 20) (L := 8) (b := 0) dX1_init_102 rfl (by decide) (by decide) ?_
  show Bv _ _ _ _ 103 [(2, 16), (2, 1), (2, 10), (0, 2)] [] _
  refine b_iinc (pc := 103) (lo' := [(2, 16), (2, 1), (2, 10), (0, 3)]) dX1_init_103 rfl (by decide) rfl (Nat.le_of_ble_eq_true rfl) rfl ?_
  refine b_goto (pc := 106) (tgt := 82) dX1_init_106 rfl ?_
  refine b_iloadn (pc := 82) dX1_init_82 rfl rfl ?_
  refine b_bipush (pc := 83) dX1_init_83 rfl (by decide) ?_
  refine b_icmp_ge (pc := 85) (tgt := 109) dX1_init_85 rfl (fun zh => absurd zh (by decide)) (fun _ => ?_)
  refine b_aloadn (pc := 88) dX1_init_88 rfl rfl ?_
  refine b_getr (pc := 89) (c := 16) (j := 1) (k := 18) dX1_init_89 fX1_18 rfl rfl (by decide) (by decide) (rfl) ?_
  show Bv _ _ _ _ 92 [(2, 16), (2, 1), (2, 10), (0, 3)] [(2, 18)] _
  refine b_iloadn (pc := 92) dX1_init_92 rfl rfl ?_
  refine b_iconst (pc := 93) dX1_init_93 (by decide) ?_
  refine b_iast (pc := 94) (c := 18) (L := 8) (b := 0) dX1_init_94 rfl (by decide) (by decide) ?_
  show Bv _ _ _ _ 95 [(2, 16), (2, 1), (2, 10), (0, 3)] [] _
  refine b_aloadn (pc := 95) dX1_init_95 rfl rfl ?_
  refine b_getr (pc := 96) (c := 16) (j := 3) (k := 20) dX1_init_96 fX1_24 rfl rfl (by decide) (by decide) (rfl) ?_
  show Bv _ _ _ _ 99 [(2, 16), (2, 1), (2, 10), (0, 3)] [(2, 20)] _
  refine b_iloadn (pc := 99) dX1_init_99 rfl rfl ?_
  refine b_bipush (pc := 100) dX1_init_100 rfl (by decide) ?_
  refine b_iast (pc := 102) (c := 20) (L := 8) (b := 0) dX1_init_102 rfl (by decide) (by decide) ?_
  show Bv _ _ _ _ 103 [(2, 16), (2, 1), (2, 10), (0, 3)] [] _
  refine b_iinc (pc := 103) (lo' := [(2, 16), (2, 1), (2, 10), (0, 4)]) dX1_init_103 rfl (by decide) rfl (Nat.le_of_ble_eq_true rfl) rfl ?_
  refine b_goto (pc := 106) (tgt := 82) dX1_init_106 rfl ?_
  refine b_iloadn (pc := 82) dX1_init_82 rfl rfl ?_
  refine b_bipush (pc := 83) dX1_init_83 rfl (by decide) ?_
  refine b_icmp_ge (pc := 85) (tgt := 109) dX1_init_85 rfl (fun zh => absurd zh (by decide)) (fun _ => ?_)
  refine b_aloadn (pc := 88) dX1_init_88 rfl rfl ?_
  refine b_getr (pc := 89) (c := 16) (j := 1) (k := 18) dX1_init_89 fX1_18 rfl rfl (by decide) (by decide) (rfl) ?_
  show Bv _ _ _ _ 92 [(2, 16), (2, 1), (2, 10), (0, 4)] [(2, 18)] _
  refine b_iloadn (pc := 92) dX1_init_92 rfl rfl ?_
  refine b_iconst (pc := 93) dX1_init_93 (by decide) ?_
  refine b_iast (pc := 94) (c := 18) (L := 8) (b := 0) dX1_init_94 rfl (by decide) (by decide) ?_
  show Bv _ _ _ _ 95 [(2, 16), (2, 1), (2, 10), (0, 4)] [] _
  refine b_aloadn (pc := 95) dX1_init_95 rfl rfl ?_
  refine b_getr (pc := 96) (c := 16) (j := 3) (k := 20) dX1_init_96 fX1_24 rfl rfl (by decide) (by decide) (rfl) ?_
  show Bv _ _ _ _ 99 [(2, 16), (2, 1), (2, 10), (0, 4)] [(2, 20)] _
  refine b_iloadn (pc := 99) dX1_init_99 rfl rfl ?_
  refine b_bipush (pc := 100) dX1_init_100 rfl (by decide) ?_
  refine b_iast (pc := 102) (c := 20) (L := 8) (b := 0) dX1_init_102 rfl (by decide) (by decide) ?_
  show Bv _ _ _ _ 103 [(2, 16), (2, 1), (2, 10), (0, 4)] [] _
  refine b_iinc (pc := 103) (lo' := [(2, 16), (2, 1), (2, 10), (0, 5)]) dX1_init_103 rfl (by decide) rfl (Nat.le_of_ble_eq_true rfl) rfl ?_
  refine b_goto (pc := 106) (tgt := 82) dX1_init_106 rfl ?_
  refine b_iloadn (pc := 82) dX1_init_82 rfl rfl ?_
  refine b_bipush (pc := 83) dX1_init_83 rfl (by decide) ?_
  refine b_icmp_ge (pc := 85) (tgt := 109) dX1_init_85 rfl (fun zh => absurd zh (by decide)) (fun _ => ?_)
  refine b_aloadn (pc := 88) dX1_init_88 rfl rfl ?_
  refine b_getr (pc := 89) (c := 16) (j := 1) (k := 18) dX1_init_89 fX1_18 rfl rfl (by decide) (by decide) (rfl) ?_
  show Bv _ _ _ _ 92 [(2, 16), (2, 1), (2, 10), (0, 5)] [(2, 18)] _
  refine b_iloadn (pc := 92) dX1_init_92 rfl rfl ?_
  refine b_iconst (pc := 93) dX1_init_93 (by decide) ?_
  refine b_iast (pc := 94) (c := 18) (L := 8) (b := 0) dX1_init_94 rfl (by decide) (by decide) ?_
  show Bv _ _ _ _ 95 [(2, 16), (2, 1), (2, 10), (0, 5)] [] _
  refine b_aloadn (pc := 95) dX1_init_95 rfl rfl ?_
  refine b_getr (pc := 96) (c := 16) (j := 3) (k := 20) dX1_init_96 fX1_24 rfl rfl (by decide) (by decide) (rfl) ?_
  show Bv _ _ _ _ 99 [(2, 16), (2, 1), (2, 10), (0, 5)] [(2, 20)] _
  refine b_iloadn (pc := 99) dX1_init_99 rfl rfl ?_
  refine b_bipush (pc := 100) dX1_init_100 rfl (by decide) ?_
  refine b_iast (pc := 102) (c := 20) (L := 8) (b := 0) dX1_init_102 rfl (by decide) (by decide) ?_
  show Bv _ _ _ _ 103 [(2, 16), (2, 1), (2, 10), (0, 5)] [] _
  refine b_iinc (pc := 103) (lo' := [(2, 16), (2, 1), (2, 10), (0, 6)]) dX1_init_103 rfl (by decide) rfl (Nat.le_of_ble_eq_true rfl) rfl ?_
  refine b_goto (pc := 106) (tgt := 82) dX1_init_106 rfl ?_
  refine b_iloadn (pc := 82) dX1_init_82 rfl rfl ?_
  refine b_bipush (pc := 83) dX1_init_83 rfl (by decide) ?_
  refine b_icmp_ge (pc := 85) (tgt := 109) dX1_init_85 rfl (fun zh => absurd zh (by decide)) (fun _ => ?_)
  refine b_aloadn (pc := 88) dX1_init_88 rfl rfl ?_
  refine b_getr (pc := 89) (c := 16) (j := 1) (k := 18) dX1_init_89 fX1_18 rfl rfl (by decide) (by decide) (rfl) ?_
  show Bv _ _ _ _ 92 [(2, 16), (2, 1), (2, 10), (0, 6)] [(2, 18)] _
  refine b_iloadn (pc := 92) dX1_init_92 rfl rfl ?_
  refine b_iconst (pc := 93) dX1_init_93 (by decide) ?_
  refine b_iast (pc := 94) (c := 18) (L := 8) (b := 0) dX1_init_94 rfl (by decide) (by decide) ?_
  show Bv _ _ _ _ 95 [(2, 16), (2, 1), (2, 10), (0, 6)] [] _
  refine b_aloadn (pc := 95) dX1_init_95 rfl rfl ?_
  refine b_getr (pc := 96) (c := 16) (j := 3) (k := 20) dX1_init_96 fX1_24 rfl rfl (by decide) (by decide) (rfl) ?_
  show Bv _ _ _ _ 99 [(2, 16), (2, 1), (2, 10), (0, 6)] [(2, 20)] _
  refine b_iloadn (pc := 99) dX1_init_99 rfl rfl ?_
  refine b_bipush (pc := 100) dX1_init_100 rfl (by decide) ?_
  refine b_iast (pc := 102) (c := 20) (L := 8) (b := 0) dX1_init_102 rfl (by decide) (by decide) ?_
  show Bv _ _ _ _ 103 [(2, 16), (2, 1), (2, 10), (0, 6)] [] _
  refine b_iinc (pc := 103) (lo' := [(2, 16), (2, 1), (2, 10), (0, 7)]) dX1_init_103 rfl (by decide) rfl (Nat.le_of_ble_eq_true rfl) rfl ?_
  refine b_goto (pc := 106) (tgt := 82) dX1_init_106 rfl ?_
  refine b_iloadn (pc := 82) dX1_init_82 rfl rfl ?_
  refine b_bipush (pc := 83) dX1_init_83 rfl (by decide) ?_
  refine b_icmp_ge (pc := 85) (tgt := 109) dX1_init_85 rfl (fun zh => absurd zh (by decide)) (fun _ => ?_)
  refine b_aloadn (pc := 88) dX1_init_88 rfl rfl ?_
  refine b_getr (pc := 89) (c := 16) (j := 1) (k := 18) dX1_init_89 fX1_18 rfl rfl (by decide) (by decide) (rfl) ?_
  show Bv _ _ _ _ 92 [(2, 16), (2, 1), (2, 10), (0, 7)] [(2, 18)] _
  refine b_iloadn (pc := 92) dX1_init_92 rfl rfl ?_
  refine b_iconst (pc := 93) dX1_init_93 (by decide) ?_
  refine b_iast (pc := 94) (c := 18) (L := 8) (b := 0) dX1_init_94 rfl (by decide) (by decide) ?_
  show Bv _ _ _ _ 95 [(2, 16), (2, 1), (2, 10), (0, 7)] [] _
  refine b_aloadn (pc := 95) dX1_init_95 rfl rfl ?_
  refine b_getr (pc := 96) (c := 16) (j := 3) (k := 20) dX1_init_96 fX1_24 rfl rfl (by decide) (by decide) (rfl) ?_
  show Bv _ _ _ _ 99 [(2, 16), (2, 1), (2, 10), (0, 7)] [(2, 20)] _
  refine b_iloadn (pc := 99) dX1_init_99 rfl rfl ?_
  refine b_bipush (pc := 100) dX1_init_100 rfl (by decide) ?_
  refine b_iast (pc := 102) (c := 20) (L := 8) (b := 0) dX1_init_102 rfl (by decide) (by decide) ?_
  show Bv _ _ _ _ 103 [(2, 16), (2, 1), (2, 10), (0, 7)] [] _
  refine b_iinc (pc := 103) (lo' := [(2, 16), (2, 1), (2, 10), (0, 8)]) dX1_init_103 rfl (by decide) rfl (Nat.le_of_ble_eq_true rfl) rfl ?_
  refine b_goto (pc := 106) (tgt := 82) dX1_init_106 rfl ?_
  refine b_iloadn (pc := 82) dX1_init_82 rfl rfl ?_
  refine b_bipush (pc := 83) dX1_init_83 rfl (by decide) ?_
  refine b_icmp_ge (pc := 85) (tgt := 109) dX1_init_85 rfl (fun _ => ?_) (fun zh => absurd zh (by decide))
  exact b_ret (pc := 109) dX1_init_109 rfl rfl rfl rfl rfl
def nb_trial (mem : Mem) : Mem := mset (mset (mset (mset (mset (mset (mset (mset (mset (mset (mset (mset (mset (mset (mset (mset (mset (mset (mset (mset (mset (mset (mset (mset (mset (mset (mem) 25 0 1) 25 1 1) 25 2 1) 25 3 1) 25 8 1) 25 10 1) 25 12 1) 25 14 1) 25 6 1) 25 7 1) 27 ((0 : Int).toNat) (-1)) 29 ((0 : Int).toNat) 60) 27 ((1 : Int).toNat) (-1)) 29 ((1 : Int).toNat) 60) 27 ((2 : Int).toNat) (-1)) 29 ((2 : Int).toNat) 60) 27 ((3 : Int).toNat) (-1)) 29 ((3 : Int).toNat) 60) 27 ((4 : Int).toNat) (-1)) 29 ((4 : Int).toNat) 60) 27 ((5 : Int).toNat) (-1)) 29 ((5 : Int).toNat) 60) 27 ((6 : Int).toNat) (-1)) 29 ((6 : Int).toNat) 60) 27 ((7 : Int).toNat) (-1)) 29 ((7 : Int).toNat) 60
theorem kb_trial (G : Gm) (B : Nat) (mem : Mem) : ConB (G, B, mX1_init, 34, 8, 59, fun m2 => m2 = nb_trial mem) [(2, 25), (2, 1), (2, 10)] 26 mem := by
  refine ConB.of (lo := [(2, 25), (2, 1), (2, 10), (3, 0)]) rfl rfl (Nat.le_of_ble_eq_true rfl) rfl ?_
  refine b_aloadn (pc := 0) dX1_init_0 rfl rfl ?_
  refine b_obj (pc := 1) (c := 25) dX1_init_1 olX1 ow_inst ow_code (Nat.le_of_ble_eq_true rfl) (Nat.le_of_ble_eq_true rfl) ?_
  show Bv _ _ _ _ 4 [(2, 25), (2, 1), (2, 10), (3, 0)] [] _
  refine b_aloadn (pc := 4) dX1_init_4 rfl rfl ?_
  refine b_gets3 (pc := 5) rfl dX1_init_5 ?_
  show Bv _ _ _ _ 8 [(2, 25), (2, 1), (2, 10), (3, 0)] [(2, 81), (2, 25)] _
  refine b_salen (pc := 8) (k := 3) dX1_init_8 (by decide) ?_
  show Bv _ _ _ _ 9 [(2, 25), (2, 1), (2, 10), (3, 0)] [(0, 3), (2, 25)] _
  refine b_newa (pc := 9) (n := 26) (t := 0) (L := 3) (b := 0) dX1_init_9 rfl (by decide) rfl aw_int (fun _ => rfl) (fun _ _ zh => zh) (by decide) (by decide) (Nat.le_of_ble_eq_true rfl) (Nat.le_of_ble_eq_true rfl) ?_
  show Bv _ _ _ _ 11 [(2, 25), (2, 1), (2, 10), (3, 0)] [(2, 26), (2, 25)] _
  refine b_putr (pc := 11) (c := 25) (k := 26) dX1_init_11 ffX1_13 rfl rfl (by decide) (by decide) ?_
  show Bv _ _ _ _ 14 [(2, 25), (2, 1), (2, 10), (3, 0)] [] _
  refine b_aloadn (pc := 14) dX1_init_14 rfl rfl ?_
  refine b_bipush (pc := 15) dX1_init_15 rfl (by decide) ?_
  refine b_newa (pc := 17) (n := 27) (t := 0) (L := 8) (b := 0) dX1_init_17 rfl (by decide) rfl aw_int (fun _ => rfl) (fun _ _ zh => zh) (by decide) (by decide) (Nat.le_of_ble_eq_true rfl) (Nat.le_of_ble_eq_true rfl) ?_
  show Bv _ _ _ _ 19 [(2, 25), (2, 1), (2, 10), (3, 0)] [(2, 27), (2, 25)] _
  refine b_putr (pc := 19) (c := 25) (k := 27) dX1_init_19 ffX1_18 rfl rfl (by decide) (by decide) ?_
  show Bv _ _ _ _ 22 [(2, 25), (2, 1), (2, 10), (3, 0)] [] _
  refine b_aloadn (pc := 22) dX1_init_22 rfl rfl ?_
  refine b_bipush (pc := 23) dX1_init_23 rfl (by decide) ?_
  refine b_newa (pc := 25) (n := 28) (t := 0) (L := 8) (b := 0) dX1_init_25 rfl (by decide) rfl aw_int (fun _ => rfl) (fun _ _ zh => zh) (by decide) (by decide) (Nat.le_of_ble_eq_true rfl) (Nat.le_of_ble_eq_true rfl) ?_
  show Bv _ _ _ _ 27 [(2, 25), (2, 1), (2, 10), (3, 0)] [(2, 28), (2, 25)] _
  refine b_putr (pc := 27) (c := 25) (k := 28) dX1_init_27 ffX1_21 rfl rfl (by decide) (by decide) ?_
  show Bv _ _ _ _ 30 [(2, 25), (2, 1), (2, 10), (3, 0)] [] _
  refine b_aloadn (pc := 30) dX1_init_30 rfl rfl ?_
  refine b_bipush (pc := 31) dX1_init_31 rfl (by decide) ?_
  refine b_newa (pc := 33) (n := 29) (t := 0) (L := 8) (b := 0) dX1_init_33 rfl (by decide) rfl aw_int (fun _ => rfl) (fun _ _ zh => zh) (by decide) (by decide) (Nat.le_of_ble_eq_true rfl) (Nat.le_of_ble_eq_true rfl) ?_
  show Bv _ _ _ _ 35 [(2, 25), (2, 1), (2, 10), (3, 0)] [(2, 29), (2, 25)] _
  refine b_putr (pc := 35) (c := 25) (k := 29) dX1_init_35 ffX1_24 rfl rfl (by decide) (by decide) ?_
  show Bv _ _ _ _ 38 [(2, 25), (2, 1), (2, 10), (3, 0)] [] _
  refine b_aloadn (pc := 38) dX1_init_38 rfl rfl ?_
  refine b_bipush (pc := 39) dX1_init_39 rfl (by decide) ?_
  refine b_newa (pc := 41) (n := 30) (t := 0) (L := 8) (b := 0) dX1_init_41 rfl (by decide) rfl aw_int (fun _ => rfl) (fun _ _ zh => zh) (by decide) (by decide) (Nat.le_of_ble_eq_true rfl) (Nat.le_of_ble_eq_true rfl) ?_
  show Bv _ _ _ _ 43 [(2, 25), (2, 1), (2, 10), (3, 0)] [(2, 30), (2, 25)] _
  refine b_putr (pc := 43) (c := 25) (k := 30) dX1_init_43 ffX1_27 rfl rfl (by decide) (by decide) ?_
  show Bv _ _ _ _ 46 [(2, 25), (2, 1), (2, 10), (3, 0)] [] _
  refine b_aloadn (pc := 46) dX1_init_46 rfl rfl ?_
  refine b_bipush (pc := 47) dX1_init_47 rfl (by decide) ?_
  refine b_newa (pc := 49) (n := 31) (t := 0) (L := 8) (b := 0) dX1_init_49 rfl (by decide) rfl aw_int (fun _ => rfl) (fun _ _ zh => zh) (by decide) (by decide) (Nat.le_of_ble_eq_true rfl) (Nat.le_of_ble_eq_true rfl) ?_
  show Bv _ _ _ _ 51 [(2, 25), (2, 1), (2, 10), (3, 0)] [(2, 31), (2, 25)] _
  refine b_putr (pc := 51) (c := 25) (k := 31) dX1_init_51 ffX1_30 rfl rfl (by decide) (by decide) ?_
  show Bv _ _ _ _ 54 [(2, 25), (2, 1), (2, 10), (3, 0)] [] _
  refine b_aloadn (pc := 54) dX1_init_54 rfl rfl ?_
  refine b_bipush (pc := 55) dX1_init_55 rfl (by decide) ?_
  refine b_newa (pc := 57) (n := 32) (t := 0) (L := 8) (b := 0) dX1_init_57 rfl (by decide) rfl aw_int (fun _ => rfl) (fun _ _ zh => zh) (by decide) (by decide) (Nat.le_of_ble_eq_true rfl) (Nat.le_of_ble_eq_true rfl) ?_
  show Bv _ _ _ _ 59 [(2, 25), (2, 1), (2, 10), (3, 0)] [(2, 32), (2, 25)] _
  refine b_putr (pc := 59) (c := 25) (k := 32) dX1_init_59 ffX1_33 rfl rfl (by decide) (by decide) ?_
  show Bv _ _ _ _ 62 [(2, 25), (2, 1), (2, 10), (3, 0)] [] _
  refine b_aloadn (pc := 62) dX1_init_62 rfl rfl ?_
  refine b_bipush (pc := 63) dX1_init_63 rfl (by decide) ?_
  refine b_newa (pc := 65) (n := 33) (t := 0) (L := 8) (b := 0) dX1_init_65 rfl (by decide) rfl aw_int (fun _ => rfl) (fun _ _ zh => zh) (by decide) (by decide) (Nat.le_of_ble_eq_true rfl) (Nat.le_of_ble_eq_true rfl) ?_
  show Bv _ _ _ _ 67 [(2, 25), (2, 1), (2, 10), (3, 0)] [(2, 33), (2, 25)] _
  refine b_putr (pc := 67) (c := 25) (k := 33) dX1_init_67 ffX1_36 rfl rfl (by decide) (by decide) ?_
  show Bv _ _ _ _ 70 [(2, 25), (2, 1), (2, 10), (3, 0)] [] _
  refine b_aloadn (pc := 70) dX1_init_70 rfl rfl ?_
  refine b_aloadn (pc := 71) dX1_init_71 rfl rfl ?_
  refine b_putr (pc := 72) (c := 25) (k := 1) dX1_init_72 ffX1_39 rfl rfl (by decide) (by decide) ?_
  show Bv _ _ _ _ 75 [(2, 25), (2, 1), (2, 10), (3, 0)] [] _
  refine b_aloadn (pc := 75) dX1_init_75 rfl rfl ?_
  refine b_aloadn (pc := 76) dX1_init_76 rfl rfl ?_
  refine b_putr (pc := 77) (c := 25) (k := 10) dX1_init_77 ffX1_43 rfl rfl (by decide) (by decide) ?_
  show Bv _ _ _ _ 80 [(2, 25), (2, 1), (2, 10), (3, 0)] [] _
  refine b_iconst (pc := 80) dX1_init_80 (by decide) ?_
  refine b_istoren (pc := 81) (lo' := [(2, 25), (2, 1), (2, 10), (0, 0)]) dX1_init_81 rfl rfl (Nat.le_of_ble_eq_true rfl) rfl ?_
  refine b_iloadn (pc := 82) dX1_init_82 rfl rfl ?_
  refine b_bipush (pc := 83) dX1_init_83 rfl (by decide) ?_
  refine b_icmp_ge (pc := 85) (tgt := 109) dX1_init_85 rfl (fun zh => absurd zh (by decide)) (fun _ => ?_)
  refine b_aloadn (pc := 88) dX1_init_88 rfl rfl ?_
  refine b_getr (pc := 89) (c := 25) (j := 1) (k := 27) dX1_init_89 fX1_18 rfl rfl (by decide) (by decide) (rfl) ?_
  show Bv _ _ _ _ 92 [(2, 25), (2, 1), (2, 10), (0, 0)] [(2, 27)] _
  refine b_iloadn (pc := 92) dX1_init_92 rfl rfl ?_
  refine b_iconst (pc := 93) dX1_init_93 (by decide) ?_
  refine b_iast (pc := 94) (c := 27) (L := 8) (b := 0) dX1_init_94 rfl (by decide) (by decide) ?_
  show Bv _ _ _ _ 95 [(2, 25), (2, 1), (2, 10), (0, 0)] [] _
  refine b_aloadn (pc := 95) dX1_init_95 rfl rfl ?_
  refine b_getr (pc := 96) (c := 25) (j := 3) (k := 29) dX1_init_96 fX1_24 rfl rfl (by decide) (by decide) (rfl) ?_
  show Bv _ _ _ _ 99 [(2, 25), (2, 1), (2, 10), (0, 0)] [(2, 29)] _
  refine b_iloadn (pc := 99) dX1_init_99 rfl rfl ?_
  refine b_bipush (pc := 100) dX1_init_100 rfl (by decide) ?_
  refine b_iast (pc := 102) (c := 29) (L := 8) (b := 0) dX1_init_102 rfl (by decide) (by decide) ?_
  show Bv _ _ _ _ 103 [(2, 25), (2, 1), (2, 10), (0, 0)] [] _
  refine b_iinc (pc := 103) (lo' := [(2, 25), (2, 1), (2, 10), (0, 1)]) dX1_init_103 rfl (by decide) rfl (Nat.le_of_ble_eq_true rfl) rfl ?_
  refine b_goto (pc := 106) (tgt := 82) dX1_init_106 rfl ?_
  refine b_iloadn (pc := 82) dX1_init_82 rfl rfl ?_
  refine b_bipush (pc := 83) dX1_init_83 rfl (by decide) ?_
  refine b_icmp_ge (pc := 85) (tgt := 109) dX1_init_85 rfl (fun zh => absurd zh (by decide)) (fun _ => ?_)
  refine b_aloadn (pc := 88) dX1_init_88 rfl rfl ?_
  refine b_getr (pc := 89) (c := 25) (j := 1) (k := 27) dX1_init_89 fX1_18 rfl rfl (by decide) (by decide) (rfl) ?_
  show Bv _ _ _ _ 92 [(2, 25), (2, 1), (2, 10), (0, 1)] [(2, 27)] _
  refine b_iloadn (pc := 92) dX1_init_92 rfl rfl ?_
  refine b_iconst (pc := 93) dX1_init_93 (by decide) ?_
  refine b_iast (pc := 94) (c := 27) (L := 8) (b := 0) dX1_init_94 rfl (by decide) (by decide) ?_
  show Bv _ _ _ _ 95 [(2, 25), (2, 1), (2, 10), (0, 1)] [] _
  refine b_aloadn (pc := 95) dX1_init_95 rfl rfl ?_
  refine b_getr (pc := 96) (c := 25) (j := 3) (k := 29) dX1_init_96 fX1_24 rfl rfl (by decide) (by decide) (rfl) ?_
  show Bv _ _ _ _ 99 [(2, 25), (2, 1), (2, 10), (0, 1)] [(2, 29)] _
  refine b_iloadn (pc := 99) dX1_init_99 rfl rfl ?_
  refine b_bipush (pc := 100) dX1_init_100 rfl (by decide) ?_
  refine b_iast (pc := 102) (c := 29) (L := 8) (b := 0) dX1_init_102 rfl (by decide) (by decide) ?_
  show Bv _ _ _ _ 103 [(2, 25), (2, 1), (2, 10), (0, 1)] [] _
  refine b_iinc (pc := 103) (lo' := [(2, 25), (2, 1), (2, 10), (0, 2)]) dX1_init_103 rfl (by decide) rfl (Nat.le_of_ble_eq_true rfl) rfl ?_
  refine b_goto (pc := 106) (tgt := 82) dX1_init_106 rfl ?_
  refine b_iloadn (pc := 82) dX1_init_82 rfl rfl ?_
  refine b_bipush (pc := 83) dX1_init_83 rfl (by decide) ?_
  refine b_icmp_ge (pc := 85) (tgt := 109) dX1_init_85 rfl (fun zh => absurd zh (by decide)) (fun _ => ?_)
  refine b_aloadn (pc := 88) dX1_init_88 rfl rfl ?_
  refine b_getr (pc := 89) (c := 25) (j := 1) (k := 27) dX1_init_89 fX1_18 rfl rfl (by decide) (by decide) (rfl) ?_
  show Bv _ _ _ _ 92 [(2, 25), (2, 1), (2, 10), (0, 2)] [(2, 27)] _
  refine b_iloadn (pc := 92) dX1_init_92 rfl rfl ?_
  refine b_iconst (pc := 93) dX1_init_93 (by decide) ?_
  refine b_iast (pc := 94) (c := 27) (L := 8) (b := 0) dX1_init_94 rfl (by decide) (by decide) ?_
  show Bv _ _ _ _ 95 [(2, 25), (2, 1), (2, 10), (0, 2)] [] _
  refine b_aloadn (pc := 95) dX1_init_95 rfl rfl ?_
  refine b_getr (pc := 96) (c := 25) (j := 3) (k := 29) dX1_init_96 fX1_24 rfl rfl (by decide) (by decide) (rfl) ?_
  show Bv _ _ _ _ 99 [(2, 25), (2, 1), (2, 10), (0, 2)] [(2, 29)] _
  refine b_iloadn (pc := 99) dX1_init_99 rfl rfl ?_
  refine b_bipush (pc := 100) dX1_init_100 rfl (by decide) ?_
  refine b_iast (pc := 102) (c := 29) (L := 8) (b := 0) dX1_init_102 rfl (by decide) (by decide) ?_
  show Bv _ _ _ _ 103 [(2, 25), (2, 1), (2, 10), (0, 2)] [] _
  refine b_iinc (pc := 103) (lo' := [(2, 25), (2, 1), (2, 10), (0, 3)]) dX1_init_103 rfl (by decide) rfl (Nat.le_of_ble_eq_true rfl) rfl ?_
  refine b_goto (pc := 106) (tgt := 82) dX1_init_106 rfl ?_
  refine b_iloadn (pc := 82) dX1_init_82 rfl rfl ?_
  refine b_bipush (pc := 83) dX1_init_83 rfl (by decide) ?_
  refine b_icmp_ge (pc := 85) (tgt := 109) dX1_init_85 rfl (fun zh => absurd zh (by decide)) (fun _ => ?_)
  refine b_aloadn (pc := 88) dX1_init_88 rfl rfl ?_
  refine b_getr (pc := 89) (c := 25) (j := 1) (k := 27) dX1_init_89 fX1_18 rfl rfl (by decide) (by decide) (rfl) ?_
  show Bv _ _ _ _ 92 [(2, 25), (2, 1), (2, 10), (0, 3)] [(2, 27)] _
  refine b_iloadn (pc := 92) dX1_init_92 rfl rfl ?_
  refine b_iconst (pc := 93) dX1_init_93 (by decide) ?_
  refine b_iast (pc := 94) (c := 27) (L := 8) (b := 0) dX1_init_94 rfl (by decide) (by decide) ?_
  show Bv _ _ _ _ 95 [(2, 25), (2, 1), (2, 10), (0, 3)] [] _
  refine b_aloadn (pc := 95) dX1_init_95 rfl rfl ?_
  refine b_getr (pc := 96) (c := 25) (j := 3) (k := 29) dX1_init_96 fX1_24 rfl rfl (by decide) (by decide) (rfl) ?_
  show Bv _ _ _ _ 99 [(2, 25), (2, 1), (2, 10), (0, 3)] [(2, 29)] _
  refine b_iloadn (pc := 99) dX1_init_99 rfl rfl ?_
  refine b_bipush (pc := 100) dX1_init_100 rfl (by decide) ?_
  refine b_iast (pc := 102) (c := 29) (L := 8) (b := 0) dX1_init_102 rfl (by decide) (by decide) ?_
  show Bv _ _ _ _ 103 [(2, 25), (2, 1), (2, 10), (0, 3)] [] _
  refine b_iinc (pc := 103) (lo' := [(2, 25), (2, 1), (2, 10), (0, 4)]) dX1_init_103 rfl (by decide) rfl (Nat.le_of_ble_eq_true rfl) rfl ?_
  refine b_goto (pc := 106) (tgt := 82) dX1_init_106 rfl ?_
  refine b_iloadn (pc := 82) dX1_init_82 rfl rfl ?_
  refine b_bipush (pc := 83) dX1_init_83 rfl (by decide) ?_
  refine b_icmp_ge (pc := 85) (tgt := 109) dX1_init_85 rfl (fun zh => absurd zh (by decide)) (fun _ => ?_)
  refine b_aloadn (pc := 88) dX1_init_88 rfl rfl ?_
  refine b_getr (pc := 89) (c := 25) (j := 1) (k := 27) dX1_init_89 fX1_18 rfl rfl (by decide) (by decide) (rfl) ?_
  show Bv _ _ _ _ 92 [(2, 25), (2, 1), (2, 10), (0, 4)] [(2, 27)] _
  refine b_iloadn (pc := 92) dX1_init_92 rfl rfl ?_
  refine b_iconst (pc := 93) dX1_init_93 (by decide) ?_
  refine b_iast (pc := 94) (c := 27) (L := 8) (b := 0) dX1_init_94 rfl (by decide) (by decide) ?_
  show Bv _ _ _ _ 95 [(2, 25), (2, 1), (2, 10), (0, 4)] [] _
  refine b_aloadn (pc := 95) dX1_init_95 rfl rfl ?_
  refine b_getr (pc := 96) (c := 25) (j := 3) (k := 29) dX1_init_96 fX1_24 rfl rfl (by decide) (by decide) (rfl) ?_
  show Bv _ _ _ _ 99 [(2, 25), (2, 1), (2, 10), (0, 4)] [(2, 29)] _
  refine b_iloadn (pc := 99) dX1_init_99 rfl rfl ?_
  refine b_bipush (pc := 100) dX1_init_100 rfl (by decide) ?_
  refine b_iast (pc := 102) (c := 29) (L := 8) (b := 0) dX1_init_102 rfl (by decide) (by decide) ?_
  show Bv _ _ _ _ 103 [(2, 25), (2, 1), (2, 10), (0, 4)] [] _
  refine b_iinc (pc := 103) (lo' := [(2, 25), (2, 1), (2, 10), (0, 5)]) dX1_init_103 rfl (by decide) rfl (Nat.le_of_ble_eq_true rfl) rfl ?_
  refine b_goto (pc := 106) (tgt := 82) dX1_init_106 rfl ?_
  refine b_iloadn (pc := 82) dX1_init_82 rfl rfl ?_
  refine b_bipush (pc := 83) dX1_init_83 rfl (by decide) ?_
  refine b_icmp_ge (pc := 85) (tgt := 109) dX1_init_85 rfl (fun zh => absurd zh (by decide)) (fun _ => ?_)
  refine b_aloadn (pc := 88) dX1_init_88 rfl rfl ?_
  refine b_getr (pc := 89) (c := 25) (j := 1) (k := 27) dX1_init_89 fX1_18 rfl rfl (by decide) (by decide) (rfl) ?_
  show Bv _ _ _ _ 92 [(2, 25), (2, 1), (2, 10), (0, 5)] [(2, 27)] _
  refine b_iloadn (pc := 92) dX1_init_92 rfl rfl ?_
  refine b_iconst (pc := 93) dX1_init_93 (by decide) ?_
  refine b_iast (pc := 94) (c := 27) (L := 8) (b := 0) dX1_init_94 rfl (by decide) (by decide) ?_
  show Bv _ _ _ _ 95 [(2, 25), (2, 1), (2, 10), (0, 5)] [] _
  refine b_aloadn (pc := 95) dX1_init_95 rfl rfl ?_
  refine b_getr (pc := 96) (c := 25) (j := 3) (k := 29) dX1_init_96 fX1_24 rfl rfl (by decide) (by decide) (rfl) ?_
  show Bv _ _ _ _ 99 [(2, 25), (2, 1), (2, 10), (0, 5)] [(2, 29)] _
  refine b_iloadn (pc := 99) dX1_init_99 rfl rfl ?_
  refine b_bipush (pc := 100) dX1_init_100 rfl (by decide) ?_
  refine b_iast (pc := 102) (c := 29) (L := 8) (b := 0) dX1_init_102 rfl (by decide) (by decide) ?_
  show Bv _ _ _ _ 103 [(2, 25), (2, 1), (2, 10), (0, 5)] [] _
  refine b_iinc (pc := 103) (lo' := [(2, 25), (2, 1), (2, 10), (0, 6)]) dX1_init_103 rfl (by decide) rfl (Nat.le_of_ble_eq_true rfl) rfl ?_
  refine b_goto (pc := 106) (tgt := 82) dX1_init_106 rfl ?_
  refine b_iloadn (pc := 82) dX1_init_82 rfl rfl ?_
  refine b_bipush (pc := 83) dX1_init_83 rfl (by decide) ?_
  refine b_icmp_ge (pc := 85) (tgt := 109) dX1_init_85 rfl (fun zh => absurd zh (by decide)) (fun _ => ?_)
  refine b_aloadn (pc := 88) dX1_init_88 rfl rfl ?_
  refine b_getr (pc := 89) (c := 25) (j := 1) (k := 27) dX1_init_89 fX1_18 rfl rfl (by decide) (by decide) (rfl) ?_
  show Bv _ _ _ _ 92 [(2, 25), (2, 1), (2, 10), (0, 6)] [(2, 27)] _
  refine b_iloadn (pc := 92) dX1_init_92 rfl rfl ?_
  refine b_iconst (pc := 93) dX1_init_93 (by decide) ?_
  refine b_iast (pc := 94) (c := 27) (L := 8) (b := 0) dX1_init_94 rfl (by decide) (by decide) ?_
  show Bv _ _ _ _ 95 [(2, 25), (2, 1), (2, 10), (0, 6)] [] _
  refine b_aloadn (pc := 95) dX1_init_95 rfl rfl ?_
  refine b_getr (pc := 96) (c := 25) (j := 3) (k := 29) dX1_init_96 fX1_24 rfl rfl (by decide) (by decide) (rfl) ?_
  show Bv _ _ _ _ 99 [(2, 25), (2, 1), (2, 10), (0, 6)] [(2, 29)] _
  refine b_iloadn (pc := 99) dX1_init_99 rfl rfl ?_
  refine b_bipush (pc := 100) dX1_init_100 rfl (by decide) ?_
  refine b_iast (pc := 102) (c := 29) (L := 8) (b := 0) dX1_init_102 rfl (by decide) (by decide) ?_
  show Bv _ _ _ _ 103 [(2, 25), (2, 1), (2, 10), (0, 6)] [] _
  refine b_iinc (pc := 103) (lo' := [(2, 25), (2, 1), (2, 10), (0, 7)]) dX1_init_103 rfl (by decide) rfl (Nat.le_of_ble_eq_true rfl) rfl ?_
  refine b_goto (pc := 106) (tgt := 82) dX1_init_106 rfl ?_
  refine b_iloadn (pc := 82) dX1_init_82 rfl rfl ?_
  refine b_bipush (pc := 83) dX1_init_83 rfl (by decide) ?_
  refine b_icmp_ge (pc := 85) (tgt := 109) dX1_init_85 rfl (fun zh => absurd zh (by decide)) (fun _ => ?_)
  refine b_aloadn (pc := 88) dX1_init_88 rfl rfl ?_
  refine b_getr (pc := 89) (c := 25) (j := 1) (k := 27) dX1_init_89 fX1_18 rfl rfl (by decide) (by decide) (rfl) ?_
  show Bv _ _ _ _ 92 [(2, 25), (2, 1), (2, 10), (0, 7)] [(2, 27)] _
  refine b_iloadn (pc := 92) dX1_init_92 rfl rfl ?_
  refine b_iconst (pc := 93) dX1_init_93 (by decide) ?_
  refine b_iast (pc := 94) (c := 27) (L := 8) (b := 0) dX1_init_94 rfl (by decide) (by decide) ?_
  show Bv _ _ _ _ 95 [(2, 25), (2, 1), (2, 10), (0, 7)] [] _
  refine b_aloadn (pc := 95) dX1_init_95 rfl rfl ?_
  refine b_getr (pc := 96) (c := 25) (j := 3) (k := 29) dX1_init_96 fX1_24 rfl rfl (by decide) (by decide) (rfl) ?_
  show Bv _ _ _ _ 99 [(2, 25), (2, 1), (2, 10), (0, 7)] [(2, 29)] _
  refine b_iloadn (pc := 99) dX1_init_99 rfl rfl ?_
  refine b_bipush (pc := 100) dX1_init_100 rfl (by decide) ?_
  refine b_iast (pc := 102) (c := 29) (L := 8) (b := 0) dX1_init_102 rfl (by decide) (by decide) ?_
  show Bv _ _ _ _ 103 [(2, 25), (2, 1), (2, 10), (0, 7)] [] _
  refine b_iinc (pc := 103) (lo' := [(2, 25), (2, 1), (2, 10), (0, 8)]) dX1_init_103 rfl (by decide) rfl (Nat.le_of_ble_eq_true rfl) rfl ?_
  refine b_goto (pc := 106) (tgt := 82) dX1_init_106 rfl ?_
  refine b_iloadn (pc := 82) dX1_init_82 rfl rfl ?_
  refine b_bipush (pc := 83) dX1_init_83 rfl (by decide) ?_
  refine b_icmp_ge (pc := 85) (tgt := 109) dX1_init_85 rfl (fun _ => ?_) (fun zh => absurd zh (by decide))
  exact b_ret (pc := 109) dX1_init_109 rfl rfl rfl rfl rfl
theorem olX8 : Cond.methodLink RX8 1 Lib.objectInit ∈ wtb := wt (by decide +kernel) (by decide +kernel)
theorem ffX8_7 : FLF RX8 7 8 1 := ⟨_, rfl, by decide, wt (List.mem_of_getElem? (i := 743) (by decide +kernel)) rfl, rfl, rfl, rfl, fun _ => ⟨rfl, rfl⟩⟩
theorem ffX8_13 : FLF RX8 13 8 2 := ⟨_, rfl, by decide, wt (List.mem_of_getElem? (i := 744) (by decide +kernel)) rfl, rfl, rfl, rfl, fun _ => ⟨rfl, rfl⟩⟩
theorem ffX8_16 : FLF RX8 16 8 3 := ⟨_, rfl, by decide, wt (List.mem_of_getElem? (i := 745) (by decide +kernel)) rfl, rfl, rfl, rfl, fun _ => ⟨rfl, rfl⟩⟩
theorem ffX8_19 : FLF RX8 19 8 4 := ⟨_, rfl, by decide, wt (List.mem_of_getElem? (i := 746) (by decide +kernel)) rfl, rfl, rfl, rfl, fun _ => ⟨rfl, rfl⟩⟩
theorem ffX8_22 : FLF RX8 22 8 5 := ⟨_, rfl, by decide, wt (List.mem_of_getElem? (i := 747) (by decide +kernel)) rfl, rfl, rfl, rfl, fun _ => ⟨rfl, rfl⟩⟩
theorem ffX8_25 : FLF RX8 25 8 6 := ⟨_, rfl, by decide, wt (List.mem_of_getElem? (i := 748) (by decide +kernel)) rfl, rfl, rfl, rfl, fun _ => ⟨rfl, rfl⟩⟩
theorem ffX8_28 : FLF RX8 28 8 7 := ⟨_, rfl, by decide, wt (List.mem_of_getElem? (i := 749) (by decide +kernel)) rfl, rfl, rfl, rfl, fun _ => ⟨rfl, rfl⟩⟩
theorem ffX8_31 : FLF RX8 31 8 8 := ⟨_, rfl, by decide, wt (List.mem_of_getElem? (i := 750) (by decide +kernel)) rfl, rfl, rfl, rfl, fun _ => ⟨rfl, rfl⟩⟩
theorem ffX8_34 : FLF RX8 34 8 13 := ⟨_, rfl, by decide, wt (List.mem_of_getElem? (i := 755) (by decide +kernel)) rfl, rfl, rfl, rfl, fun _ => ⟨rfl, rfl⟩⟩
theorem ffX8_37 : FLF RX8 37 8 18 := ⟨_, rfl, by decide, wt (List.mem_of_getElem? (i := 760) (by decide +kernel)) rfl, rfl, rfl, rfl, fun _ => ⟨rfl, rfl⟩⟩
theorem ffX8_40 : FLF RX8 40 8 19 := ⟨_, rfl, by decide, wt (List.mem_of_getElem? (i := 761) (by decide +kernel)) rfl, rfl, rfl, rfl, fun _ => ⟨rfl, rfl⟩⟩
theorem ffX8_43 : FLF RX8 43 8 20 := ⟨_, rfl, by decide, wt (List.mem_of_getElem? (i := 762) (by decide +kernel)) rfl, rfl, rfl, rfl, fun _ => ⟨rfl, rfl⟩⟩
theorem ffX8_47 : FLF RX8 47 8 21 := ⟨_, rfl, by decide, wt (List.mem_of_getElem? (i := 763) (by decide +kernel)) rfl, rfl, rfl, rfl, fun _ => ⟨rfl, rfl⟩⟩
theorem ffX8_50 : FLF RX8 50 8 28 := ⟨_, rfl, by decide, wt (List.mem_of_getElem? (i := 770) (by decide +kernel)) rfl, rfl, rfl, rfl, fun _ => ⟨rfl, rfl⟩⟩
theorem ffX8_53 : FLF RX8 53 8 29 := ⟨_, rfl, by decide, wt (List.mem_of_getElem? (i := 771) (by decide +kernel)) rfl, rfl, rfl, rfl, fun _ => ⟨rfl, rfl⟩⟩
theorem ffX8_56 : FLF RX8 56 8 32 := ⟨_, rfl, by decide, wt (List.mem_of_getElem? (i := 774) (by decide +kernel)) rfl, rfl, rfl, rfl, fun _ => ⟨rfl, rfl⟩⟩
theorem ffX8_59 : FLF RX8 59 8 33 := ⟨_, rfl, by decide, wt (List.mem_of_getElem? (i := 775) (by decide +kernel)) rfl, rfl, rfl, rfl, fun _ => ⟨rfl, rfl⟩⟩
theorem ffX8_62 : FLF RX8 62 8 34 := ⟨_, rfl, by decide, wt (List.mem_of_getElem? (i := 776) (by decide +kernel)) rfl, rfl, rfl, rfl, fun _ => ⟨rfl, rfl⟩⟩
theorem ffX8_65 : FLF RX8 65 8 37 := ⟨_, rfl, by decide, wt (List.mem_of_getElem? (i := 779) (by decide +kernel)) rfl, rfl, rfl, rfl, fun _ => ⟨rfl, rfl⟩⟩
theorem ffX8_68 : FLF RX8 68 8 39 := ⟨_, rfl, by decide, wt (List.mem_of_getElem? (i := 781) (by decide +kernel)) rfl, rfl, rfl, rfl, fun _ => ⟨rfl, rfl⟩⟩
theorem ffX8_71 : FLF RX8 71 8 40 := ⟨_, rfl, by decide, wt (List.mem_of_getElem? (i := 782) (by decide +kernel)) rfl, rfl, rfl, rfl, fun _ => ⟨rfl, rfl⟩⟩
theorem ffX8_74 : FLF RX8 74 8 41 := ⟨_, rfl, by decide, wt (List.mem_of_getElem? (i := 783) (by decide +kernel)) rfl, rfl, rfl, rfl, fun _ => ⟨rfl, rfl⟩⟩
theorem ffX8_77 : FLF RX8 77 8 43 := ⟨_, rfl, by decide, wt (List.mem_of_getElem? (i := 785) (by decide +kernel)) rfl, rfl, rfl, rfl, fun _ => ⟨rfl, rfl⟩⟩
theorem ffX8_80 : FLF RX8 80 8 44 := ⟨_, rfl, by decide, wt (List.mem_of_getElem? (i := 786) (by decide +kernel)) rfl, rfl, rfl, rfl, fun _ => ⟨rfl, rfl⟩⟩
theorem ffX8_83 : FLF RX8 83 8 45 := ⟨_, rfl, by decide, wt (List.mem_of_getElem? (i := 787) (by decide +kernel)) rfl, rfl, rfl, rfl, fun _ => ⟨rfl, rfl⟩⟩
theorem ffX8_86 : FLF RX8 86 8 46 := ⟨_, rfl, by decide, wt (List.mem_of_getElem? (i := 788) (by decide +kernel)) rfl, rfl, rfl, rfl, fun _ => ⟨rfl, rfl⟩⟩
theorem ffX8_89 : FLF RX8 89 8 47 := ⟨_, rfl, by decide, wt (List.mem_of_getElem? (i := 789) (by decide +kernel)) rfl, rfl, rfl, rfl, fun _ => ⟨rfl, rfl⟩⟩
theorem ffX8_92 : FLF RX8 92 8 48 := ⟨_, rfl, by decide, wt (List.mem_of_getElem? (i := 790) (by decide +kernel)) rfl, rfl, rfl, rfl, fun _ => ⟨rfl, rfl⟩⟩
def nb_model (mem : Mem) : Mem := mset (mset (mset (mset (mset (mset (mset (mset (mset (mset (mset (mset (mset (mset (mset (mset (mset (mset (mset (mset (mset (mset (mset (mset (mset (mset (mset (mset (mem) 49 1 1) 49 2 1) 49 3 1) 49 4 1) 49 5 1) 49 6 1) 49 7 1) 49 8 1) 49 13 1) 49 18 1) 49 19 1) 49 20 1) 49 21 1) 49 28 1) 49 29 1) 49 32 1) 49 33 1) 49 34 1) 49 37 1) 49 39 1) 49 40 1) 49 41 1) 49 43 1) 49 44 1) 49 45 1) 49 46 1) 49 47 1) 49 48 1
theorem kb_model (G : Gm) (B : Nat) (mem : Mem) : ConB (G, B, mX8_init, 78, 28, 9944, fun m2 => m2 = nb_model mem) [(2, 49)] 50 mem := by
  refine ConB.of (lo := [(2, 49)]) rfl rfl (Nat.le_of_ble_eq_true rfl) rfl ?_
  refine b_aloadn (pc := 0) dX8_init_0 rfl rfl ?_
  refine b_obj (pc := 1) (c := 49) dX8_init_1 olX8 ow_inst ow_code (Nat.le_of_ble_eq_true rfl) (Nat.le_of_ble_eq_true rfl) ?_
  show Bv _ _ _ _ 4 [(2, 49)] [] _
  refine b_aloadn (pc := 4) dX8_init_4 rfl rfl ?_
  refine b_bipush (pc := 5) dX8_init_5 rfl (by decide) ?_
  refine b_newa (pc := 7) (n := 50) (t := 0) (L := 8) (b := 0) dX8_init_7 rfl (by decide) rfl aw_int (fun _ => rfl) (fun _ _ zh => zh) (by decide) (by decide) (Nat.le_of_ble_eq_true rfl) (Nat.le_of_ble_eq_true rfl) ?_
  show Bv _ _ _ _ 9 [(2, 49)] [(2, 50), (2, 49)] _
  refine b_putr (pc := 9) (c := 49) (k := 50) dX8_init_9 ffX8_7 rfl rfl (by decide) (by decide) ?_
  show Bv _ _ _ _ 12 [(2, 49)] [] _
  refine b_aloadn (pc := 12) dX8_init_12 rfl rfl ?_
  refine b_bipush (pc := 13) dX8_init_13 rfl (by decide) ?_
  refine b_newa (pc := 15) (n := 51) (t := 0) (L := 8) (b := 0) dX8_init_15 rfl (by decide) rfl aw_int (fun _ => rfl) (fun _ _ zh => zh) (by decide) (by decide) (Nat.le_of_ble_eq_true rfl) (Nat.le_of_ble_eq_true rfl) ?_
  show Bv _ _ _ _ 17 [(2, 49)] [(2, 51), (2, 49)] _
  refine b_putr (pc := 17) (c := 49) (k := 51) dX8_init_17 ffX8_13 rfl rfl (by decide) (by decide) ?_
  show Bv _ _ _ _ 20 [(2, 49)] [] _
  refine b_aloadn (pc := 20) dX8_init_20 rfl rfl ?_
  refine b_bipush (pc := 21) dX8_init_21 rfl (by decide) ?_
  refine b_newa (pc := 23) (n := 52) (t := 0) (L := 8) (b := 0) dX8_init_23 rfl (by decide) rfl aw_int (fun _ => rfl) (fun _ _ zh => zh) (by decide) (by decide) (Nat.le_of_ble_eq_true rfl) (Nat.le_of_ble_eq_true rfl) ?_
  show Bv _ _ _ _ 25 [(2, 49)] [(2, 52), (2, 49)] _
  refine b_putr (pc := 25) (c := 49) (k := 52) dX8_init_25 ffX8_16 rfl rfl (by decide) (by decide) ?_
  show Bv _ _ _ _ 28 [(2, 49)] [] _
  refine b_aloadn (pc := 28) dX8_init_28 rfl rfl ?_
  refine b_bipush (pc := 29) dX8_init_29 rfl (by decide) ?_
  refine b_newa (pc := 31) (n := 53) (t := 0) (L := 8) (b := 0) dX8_init_31 rfl (by decide) rfl aw_int (fun _ => rfl) (fun _ _ zh => zh) (by decide) (by decide) (Nat.le_of_ble_eq_true rfl) (Nat.le_of_ble_eq_true rfl) ?_
  show Bv _ _ _ _ 33 [(2, 49)] [(2, 53), (2, 49)] _
  refine b_putr (pc := 33) (c := 49) (k := 53) dX8_init_33 ffX8_19 rfl rfl (by decide) (by decide) ?_
  show Bv _ _ _ _ 36 [(2, 49)] [] _
  refine b_aloadn (pc := 36) dX8_init_36 rfl rfl ?_
  refine b_bipush (pc := 37) dX8_init_37 rfl (by decide) ?_
  refine b_newa (pc := 39) (n := 54) (t := 0) (L := 8) (b := 0) dX8_init_39 rfl (by decide) rfl aw_int (fun _ => rfl) (fun _ _ zh => zh) (by decide) (by decide) (Nat.le_of_ble_eq_true rfl) (Nat.le_of_ble_eq_true rfl) ?_
  show Bv _ _ _ _ 41 [(2, 49)] [(2, 54), (2, 49)] _
  refine b_putr (pc := 41) (c := 49) (k := 54) dX8_init_41 ffX8_22 rfl rfl (by decide) (by decide) ?_
  show Bv _ _ _ _ 44 [(2, 49)] [] _
  refine b_aloadn (pc := 44) dX8_init_44 rfl rfl ?_
  refine b_bipush (pc := 45) dX8_init_45 rfl (by decide) ?_
  refine b_newa (pc := 47) (n := 55) (t := 0) (L := 8) (b := 0) dX8_init_47 rfl (by decide) rfl aw_int (fun _ => rfl) (fun _ _ zh => zh) (by decide) (by decide) (Nat.le_of_ble_eq_true rfl) (Nat.le_of_ble_eq_true rfl) ?_
  show Bv _ _ _ _ 49 [(2, 49)] [(2, 55), (2, 49)] _
  refine b_putr (pc := 49) (c := 49) (k := 55) dX8_init_49 ffX8_25 rfl rfl (by decide) (by decide) ?_
  show Bv _ _ _ _ 52 [(2, 49)] [] _
  refine b_aloadn (pc := 52) dX8_init_52 rfl rfl ?_
  refine b_bipush (pc := 53) dX8_init_53 rfl (by decide) ?_
  refine b_newa (pc := 55) (n := 56) (t := 0) (L := 8) (b := 0) dX8_init_55 rfl (by decide) rfl aw_int (fun _ => rfl) (fun _ _ zh => zh) (by decide) (by decide) (Nat.le_of_ble_eq_true rfl) (Nat.le_of_ble_eq_true rfl) ?_
  show Bv _ _ _ _ 57 [(2, 49)] [(2, 56), (2, 49)] _
  refine b_putr (pc := 57) (c := 49) (k := 56) dX8_init_57 ffX8_28 rfl rfl (by decide) (by decide) ?_
  show Bv _ _ _ _ 60 [(2, 49)] [] _
  refine b_aloadn (pc := 60) dX8_init_60 rfl rfl ?_
  refine b_bipush (pc := 61) dX8_init_61 rfl (by decide) ?_
  refine b_newa (pc := 63) (n := 57) (t := 0) (L := 8) (b := 0) dX8_init_63 rfl (by decide) rfl aw_int (fun _ => rfl) (fun _ _ zh => zh) (by decide) (by decide) (Nat.le_of_ble_eq_true rfl) (Nat.le_of_ble_eq_true rfl) ?_
  show Bv _ _ _ _ 65 [(2, 49)] [(2, 57), (2, 49)] _
  refine b_putr (pc := 65) (c := 49) (k := 57) dX8_init_65 ffX8_31 rfl rfl (by decide) (by decide) ?_
  show Bv _ _ _ _ 68 [(2, 49)] [] _
  refine b_aloadn (pc := 68) dX8_init_68 rfl rfl ?_
  refine b_bipush (pc := 69) dX8_init_69 rfl (by decide) ?_
  refine b_newa (pc := 71) (n := 58) (t := 0) (L := 40) (b := 0) dX8_init_71 rfl (by decide) rfl aw_int (fun _ => rfl) (fun _ _ zh => zh) (by decide) (by decide) (Nat.le_of_ble_eq_true rfl) (Nat.le_of_ble_eq_true rfl) ?_
  show Bv _ _ _ _ 73 [(2, 49)] [(2, 58), (2, 49)] _
  refine b_putr (pc := 73) (c := 49) (k := 58) dX8_init_73 ffX8_34 rfl rfl (by decide) (by decide) ?_
  show Bv _ _ _ _ 76 [(2, 49)] [] _
  refine b_aloadn (pc := 76) dX8_init_76 rfl rfl ?_
  refine b_bipush (pc := 77) dX8_init_77 rfl (by decide) ?_
  refine b_newa (pc := 79) (n := 59) (t := 0) (L := 40) (b := 0) dX8_init_79 rfl (by decide) rfl aw_int (fun _ => rfl) (fun _ _ zh => zh) (by decide) (by decide) (Nat.le_of_ble_eq_true rfl) (Nat.le_of_ble_eq_true rfl) ?_
  show Bv _ _ _ _ 81 [(2, 49)] [(2, 59), (2, 49)] _
  refine b_putr (pc := 81) (c := 49) (k := 59) dX8_init_81 ffX8_37 rfl rfl (by decide) (by decide) ?_
  show Bv _ _ _ _ 84 [(2, 49)] [] _
  refine b_aloadn (pc := 84) dX8_init_84 rfl rfl ?_
  refine b_bipush (pc := 85) dX8_init_85 rfl (by decide) ?_
  refine b_newa (pc := 87) (n := 60) (t := 0) (L := 40) (b := 0) dX8_init_87 rfl (by decide) rfl aw_int (fun _ => rfl) (fun _ _ zh => zh) (by decide) (by decide) (Nat.le_of_ble_eq_true rfl) (Nat.le_of_ble_eq_true rfl) ?_
  show Bv _ _ _ _ 89 [(2, 49)] [(2, 60), (2, 49)] _
  refine b_putr (pc := 89) (c := 49) (k := 60) dX8_init_89 ffX8_40 rfl rfl (by decide) (by decide) ?_
  show Bv _ _ _ _ 92 [(2, 49)] [] _
  refine b_aloadn (pc := 92) dX8_init_92 rfl rfl ?_
  refine b_bipush (pc := 93) dX8_init_93 rfl (by decide) ?_
  refine b_newa (pc := 95) (n := 61) (t := 1) (L := 40) (b := 0) dX8_init_95 rfl (by decide) rfl aw_bool (fun _ => rfl) (fun _ _ zh => zh) (by decide) (by decide) (Nat.le_of_ble_eq_true rfl) (Nat.le_of_ble_eq_true rfl) ?_
  show Bv _ _ _ _ 97 [(2, 49)] [(2, 61), (2, 49)] _
  refine b_putr (pc := 97) (c := 49) (k := 61) dX8_init_97 ffX8_43 rfl rfl (by decide) (by decide) ?_
  show Bv _ _ _ _ 100 [(2, 49)] [] _
  refine b_aloadn (pc := 100) dX8_init_100 rfl rfl ?_
  refine b_bipush (pc := 101) dX8_init_101 rfl (by decide) ?_
  refine b_newa (pc := 103) (n := 62) (t := 0) (L := 8) (b := 0) dX8_init_103 rfl (by decide) rfl aw_int (fun _ => rfl) (fun _ _ zh => zh) (by decide) (by decide) (Nat.le_of_ble_eq_true rfl) (Nat.le_of_ble_eq_true rfl) ?_
  show Bv _ _ _ _ 105 [(2, 49)] [(2, 62), (2, 49)] _
  refine b_putr (pc := 105) (c := 49) (k := 62) dX8_init_105 ffX8_47 rfl rfl (by decide) (by decide) ?_
  show Bv _ _ _ _ 108 [(2, 49)] [] _
  refine b_aloadn (pc := 108) dX8_init_108 rfl rfl ?_
  refine b_bipush (pc := 109) dX8_init_109 rfl (by decide) ?_
  refine b_newa (pc := 111) (n := 63) (t := 0) (L := 8) (b := 0) dX8_init_111 rfl (by decide) rfl aw_int (fun _ => rfl) (fun _ _ zh => zh) (by decide) (by decide) (Nat.le_of_ble_eq_true rfl) (Nat.le_of_ble_eq_true rfl) ?_
  show Bv _ _ _ _ 113 [(2, 49)] [(2, 63), (2, 49)] _
  refine b_putr (pc := 113) (c := 49) (k := 63) dX8_init_113 ffX8_50 rfl rfl (by decide) (by decide) ?_
  show Bv _ _ _ _ 116 [(2, 49)] [] _
  refine b_aloadn (pc := 116) dX8_init_116 rfl rfl ?_
  refine b_bipush (pc := 117) dX8_init_117 rfl (by decide) ?_
  refine b_newa (pc := 119) (n := 64) (t := 0) (L := 8) (b := 0) dX8_init_119 rfl (by decide) rfl aw_int (fun _ => rfl) (fun _ _ zh => zh) (by decide) (by decide) (Nat.le_of_ble_eq_true rfl) (Nat.le_of_ble_eq_true rfl) ?_
  show Bv _ _ _ _ 121 [(2, 49)] [(2, 64), (2, 49)] _
  refine b_putr (pc := 121) (c := 49) (k := 64) dX8_init_121 ffX8_53 rfl rfl (by decide) (by decide) ?_
  show Bv _ _ _ _ 124 [(2, 49)] [] _
  refine b_aloadn (pc := 124) dX8_init_124 rfl rfl ?_
  refine b_bipush (pc := 125) dX8_init_125 rfl (by decide) ?_
  refine b_newa (pc := 127) (n := 65) (t := 0) (L := 8) (b := 0) dX8_init_127 rfl (by decide) rfl aw_int (fun _ => rfl) (fun _ _ zh => zh) (by decide) (by decide) (Nat.le_of_ble_eq_true rfl) (Nat.le_of_ble_eq_true rfl) ?_
  show Bv _ _ _ _ 129 [(2, 49)] [(2, 65), (2, 49)] _
  refine b_putr (pc := 129) (c := 49) (k := 65) dX8_init_129 ffX8_56 rfl rfl (by decide) (by decide) ?_
  show Bv _ _ _ _ 132 [(2, 49)] [] _
  refine b_aloadn (pc := 132) dX8_init_132 rfl rfl ?_
  refine b_sipush (pc := 133) dX8_init_133 rfl (by decide) ?_
  refine b_newa (pc := 136) (n := 66) (t := 0) (L := 6591) (b := 0) dX8_init_136 rfl (by decide) rfl aw_int (fun _ => rfl) (fun _ _ zh => zh) (by decide) (by decide) (Nat.le_of_ble_eq_true rfl) (Nat.le_of_ble_eq_true rfl) ?_
  show Bv _ _ _ _ 138 [(2, 49)] [(2, 66), (2, 49)] _
  refine b_putr (pc := 138) (c := 49) (k := 66) dX8_init_138 ffX8_59 rfl rfl (by decide) (by decide) ?_
  show Bv _ _ _ _ 141 [(2, 49)] [] _
  refine b_aloadn (pc := 141) dX8_init_141 rfl rfl ?_
  refine b_sipush (pc := 142) dX8_init_142 rfl (by decide) ?_
  refine b_newa (pc := 145) (n := 67) (t := 0) (L := 2197) (b := 0) dX8_init_145 rfl (by decide) rfl aw_int (fun _ => rfl) (fun _ _ zh => zh) (by decide) (by decide) (Nat.le_of_ble_eq_true rfl) (Nat.le_of_ble_eq_true rfl) ?_
  show Bv _ _ _ _ 147 [(2, 49)] [(2, 67), (2, 49)] _
  refine b_putr (pc := 147) (c := 49) (k := 67) dX8_init_147 ffX8_62 rfl rfl (by decide) (by decide) ?_
  show Bv _ _ _ _ 150 [(2, 49)] [] _
  refine b_aloadn (pc := 150) dX8_init_150 rfl rfl ?_
  refine b_iconst (pc := 151) dX8_init_151 (by decide) ?_
  refine b_newa (pc := 152) (n := 68) (t := 0) (L := 3) (b := 0) dX8_init_152 rfl (by decide) rfl aw_int (fun _ => rfl) (fun _ _ zh => zh) (by decide) (by decide) (Nat.le_of_ble_eq_true rfl) (Nat.le_of_ble_eq_true rfl) ?_
  show Bv _ _ _ _ 154 [(2, 49)] [(2, 68), (2, 49)] _
  refine b_putr (pc := 154) (c := 49) (k := 68) dX8_init_154 ffX8_65 rfl rfl (by decide) (by decide) ?_
  show Bv _ _ _ _ 157 [(2, 49)] [] _
  refine b_aloadn (pc := 157) dX8_init_157 rfl rfl ?_
  refine b_sipush (pc := 158) dX8_init_158 rfl (by decide) ?_
  refine b_newa (pc := 161) (n := 69) (t := 0) (L := 488) (b := 0) dX8_init_161 rfl (by decide) rfl aw_int (fun _ => rfl) (fun _ _ zh => zh) (by decide) (by decide) (Nat.le_of_ble_eq_true rfl) (Nat.le_of_ble_eq_true rfl) ?_
  show Bv _ _ _ _ 163 [(2, 49)] [(2, 69), (2, 49)] _
  refine b_putr (pc := 163) (c := 49) (k := 69) dX8_init_163 ffX8_68 rfl rfl (by decide) (by decide) ?_
  show Bv _ _ _ _ 166 [(2, 49)] [] _
  refine b_aloadn (pc := 166) dX8_init_166 rfl rfl ?_
  refine b_bipush (pc := 167) dX8_init_167 rfl (by decide) ?_
  refine b_newa (pc := 169) (n := 70) (t := 0) (L := 61) (b := 0) dX8_init_169 rfl (by decide) rfl aw_int (fun _ => rfl) (fun _ _ zh => zh) (by decide) (by decide) (Nat.le_of_ble_eq_true rfl) (Nat.le_of_ble_eq_true rfl) ?_
  show Bv _ _ _ _ 171 [(2, 49)] [(2, 70), (2, 49)] _
  refine b_putr (pc := 171) (c := 49) (k := 70) dX8_init_171 ffX8_71 rfl rfl (by decide) (by decide) ?_
  show Bv _ _ _ _ 174 [(2, 49)] [] _
  refine b_aloadn (pc := 174) dX8_init_174 rfl rfl ?_
  refine b_bipush (pc := 175) dX8_init_175 rfl (by decide) ?_
  refine b_newa (pc := 177) (n := 71) (t := 0) (L := 8) (b := 0) dX8_init_177 rfl (by decide) rfl aw_int (fun _ => rfl) (fun _ _ zh => zh) (by decide) (by decide) (Nat.le_of_ble_eq_true rfl) (Nat.le_of_ble_eq_true rfl) ?_
  show Bv _ _ _ _ 179 [(2, 49)] [(2, 71), (2, 49)] _
  refine b_putr (pc := 179) (c := 49) (k := 71) dX8_init_179 ffX8_74 rfl rfl (by decide) (by decide) ?_
  show Bv _ _ _ _ 182 [(2, 49)] [] _
  refine b_aloadn (pc := 182) dX8_init_182 rfl rfl ?_
  refine b_bipush (pc := 183) dX8_init_183 rfl (by decide) ?_
  refine b_newa (pc := 185) (n := 72) (t := 0) (L := 8) (b := 0) dX8_init_185 rfl (by decide) rfl aw_int (fun _ => rfl) (fun _ _ zh => zh) (by decide) (by decide) (Nat.le_of_ble_eq_true rfl) (Nat.le_of_ble_eq_true rfl) ?_
  show Bv _ _ _ _ 187 [(2, 49)] [(2, 72), (2, 49)] _
  refine b_putr (pc := 187) (c := 49) (k := 72) dX8_init_187 ffX8_77 rfl rfl (by decide) (by decide) ?_
  show Bv _ _ _ _ 190 [(2, 49)] [] _
  refine b_aloadn (pc := 190) dX8_init_190 rfl rfl ?_
  refine b_iconst (pc := 191) dX8_init_191 (by decide) ?_
  refine b_newa (pc := 192) (n := 73) (t := 1) (L := 4) (b := 0) dX8_init_192 rfl (by decide) rfl aw_bool (fun _ => rfl) (fun _ _ zh => zh) (by decide) (by decide) (Nat.le_of_ble_eq_true rfl) (Nat.le_of_ble_eq_true rfl) ?_
  show Bv _ _ _ _ 194 [(2, 49)] [(2, 73), (2, 49)] _
  refine b_putr (pc := 194) (c := 49) (k := 73) dX8_init_194 ffX8_80 rfl rfl (by decide) (by decide) ?_
  show Bv _ _ _ _ 197 [(2, 49)] [] _
  refine b_aloadn (pc := 197) dX8_init_197 rfl rfl ?_
  refine b_iconst (pc := 198) dX8_init_198 (by decide) ?_
  refine b_newa (pc := 199) (n := 74) (t := 0) (L := 4) (b := 0) dX8_init_199 rfl (by decide) rfl aw_int (fun _ => rfl) (fun _ _ zh => zh) (by decide) (by decide) (Nat.le_of_ble_eq_true rfl) (Nat.le_of_ble_eq_true rfl) ?_
  show Bv _ _ _ _ 201 [(2, 49)] [(2, 74), (2, 49)] _
  refine b_putr (pc := 201) (c := 49) (k := 74) dX8_init_201 ffX8_83 rfl rfl (by decide) (by decide) ?_
  show Bv _ _ _ _ 204 [(2, 49)] [] _
  refine b_aloadn (pc := 204) dX8_init_204 rfl rfl ?_
  refine b_iconst (pc := 205) dX8_init_205 (by decide) ?_
  refine b_newa (pc := 206) (n := 75) (t := 0) (L := 4) (b := 0) dX8_init_206 rfl (by decide) rfl aw_int (fun _ => rfl) (fun _ _ zh => zh) (by decide) (by decide) (Nat.le_of_ble_eq_true rfl) (Nat.le_of_ble_eq_true rfl) ?_
  show Bv _ _ _ _ 208 [(2, 49)] [(2, 75), (2, 49)] _
  refine b_putr (pc := 208) (c := 49) (k := 75) dX8_init_208 ffX8_86 rfl rfl (by decide) (by decide) ?_
  show Bv _ _ _ _ 211 [(2, 49)] [] _
  refine b_aloadn (pc := 211) dX8_init_211 rfl rfl ?_
  refine b_sipush (pc := 212) dX8_init_212 rfl (by decide) ?_
  refine b_newa (pc := 215) (n := 76) (t := 0) (L := 256) (b := 0) dX8_init_215 rfl (by decide) rfl aw_int (fun _ => rfl) (fun _ _ zh => zh) (by decide) (by decide) (Nat.le_of_ble_eq_true rfl) (Nat.le_of_ble_eq_true rfl) ?_
  show Bv _ _ _ _ 217 [(2, 49)] [(2, 76), (2, 49)] _
  refine b_putr (pc := 217) (c := 49) (k := 76) dX8_init_217 ffX8_89 rfl rfl (by decide) (by decide) ?_
  show Bv _ _ _ _ 220 [(2, 49)] [] _
  refine b_aloadn (pc := 220) dX8_init_220 rfl rfl ?_
  refine b_bipush (pc := 221) dX8_init_221 rfl (by decide) ?_
  refine b_newa (pc := 223) (n := 77) (t := 0) (L := 64) (b := 0) dX8_init_223 rfl (by decide) rfl aw_int (fun _ => rfl) (fun _ _ zh => zh) (by decide) (by decide) (Nat.le_of_ble_eq_true rfl) (Nat.le_of_ble_eq_true rfl) ?_
  show Bv _ _ _ _ 225 [(2, 49)] [(2, 77), (2, 49)] _
  refine b_putr (pc := 225) (c := 49) (k := 77) dX8_init_225 ffX8_92 rfl rfl (by decide) (by decide) ?_
  show Bv _ _ _ _ 228 [(2, 49)] [] _
  exact b_ret (pc := 228) dX8_init_228 rfl rfl rfl rfl rfl
theorem olX0 : Cond.methodLink RX0 3 Lib.objectInit ∈ wtb := wt (by decide +kernel) (by decide +kernel)
theorem ffX0_9 : FLF RX0 9 0 1 := ⟨_, rfl, by decide, wt (List.mem_of_getElem? (i := 86) (by decide +kernel)) rfl, rfl, rfl, rfl, fun _ => ⟨rfl, rfl⟩⟩
theorem ffX0_15 : FLF RX0 15 0 2 := ⟨_, rfl, by decide, wt (List.mem_of_getElem? (i := 89) (by decide +kernel)) rfl, rfl, rfl, rfl, fun _ => ⟨rfl, rfl⟩⟩
theorem cmX0_21 : Cond.classLink RX0 21 ("[" ++ (FieldType.array .int).toString) ∈ wtb := wt (by decide +kernel) (by decide +kernel)
theorem ffX0_23 : FLF RX0 23 0 3 := ⟨_, rfl, by decide, wt (List.mem_of_getElem? (i := 92) (by decide +kernel)) rfl, rfl, rfl, rfl, fun _ => ⟨rfl, rfl⟩⟩
def nb_company (mem : Mem) : Mem := mset (mset (mset (mset (mset (mset (mset (mset (mset (mset (mset (mset (mset (mset (mset (mset (mset (mset (mset (mset (mset (mset (mset (mset (mset (mset (mset (mset (mset (mset (mset (mset (mset (mset (mset (mset (mset (mset (mset (mset (mset (mset (mset (mem) 1 1 1) 1 2 1) 1 3 1) 5 ((0 : Int).toNat) 1) 5 ((1 : Int).toNat) 1) 5 ((2 : Int).toNat) 1) 5 ((3 : Int).toNat) 1) 5 ((4 : Int).toNat) 1) 5 ((5 : Int).toNat) 1) 5 ((6 : Int).toNat) 1) 5 ((7 : Int).toNat) 1) 6 ((0 : Int).toNat) 1) 6 ((1 : Int).toNat) 1) 6 ((2 : Int).toNat) 1) 6 ((3 : Int).toNat) 1) 6 ((4 : Int).toNat) 1) 6 ((5 : Int).toNat) 1) 6 ((6 : Int).toNat) 1) 6 ((7 : Int).toNat) 1) 7 ((0 : Int).toNat) 100) 7 ((1 : Int).toNat) 100) 7 ((2 : Int).toNat) 100) 7 ((3 : Int).toNat) 100) 7 ((4 : Int).toNat) 100) 7 ((5 : Int).toNat) 100) 7 ((6 : Int).toNat) 100) 7 ((7 : Int).toNat) 100) 8 ((0 : Int).toNat) 0) 8 ((1 : Int).toNat) 0) 8 ((2 : Int).toNat) 0) 8 ((3 : Int).toNat) 0) 8 ((4 : Int).toNat) 0) 8 ((5 : Int).toNat) 0) 8 ((6 : Int).toNat) 0) 8 ((7 : Int).toNat) 0) 9 ((0 : Int).toNat) 5) 9 ((1 : Int).toNat) 5) 9 ((2 : Int).toNat) 5) 9 ((3 : Int).toNat) 5) 9 ((4 : Int).toNat) 5) 9 ((5 : Int).toNat) 5) 9 ((6 : Int).toNat) 5) 9 ((7 : Int).toNat) 5
theorem kb_company (G : Gm) (B : Nat) (mem : Mem) : ConB (G, B, mX0_init, 10, 8, 61, fun m2 => m2 = nb_company mem) [(2, 1)] 2 mem := by
  refine ConB.of (lo := [(2, 1), (3, 0), (3, 0)]) rfl rfl (Nat.le_of_ble_eq_true rfl) rfl ?_
  refine b_aloadn (pc := 0) dX0_init_0 rfl rfl ?_
  refine b_obj (pc := 1) (c := 1) dX0_init_1 olX0 ow_inst ow_code (Nat.le_of_ble_eq_true rfl) (Nat.le_of_ble_eq_true rfl) ?_
  show Bv _ _ _ _ 4 [(2, 1), (3, 0), (3, 0)] [] _
  refine b_aloadn (pc := 4) dX0_init_4 rfl rfl ?_
  refine b_bipush (pc := 5) dX0_init_5 rfl (by decide) ?_
  refine b_newa (pc := 7) (n := 2) (t := 0) (L := 8) (b := 0) dX0_init_7 rfl (by decide) rfl aw_int (fun _ => rfl) (fun _ _ zh => zh) (by decide) (by decide) (Nat.le_of_ble_eq_true rfl) (Nat.le_of_ble_eq_true rfl) ?_
  show Bv _ _ _ _ 9 [(2, 1), (3, 0), (3, 0)] [(2, 2), (2, 1)] _
  refine b_putr (pc := 9) (c := 1) (k := 2) dX0_init_9 ffX0_9 rfl rfl (by decide) (by decide) ?_
  show Bv _ _ _ _ 12 [(2, 1), (3, 0), (3, 0)] [] _
  refine b_aloadn (pc := 12) dX0_init_12 rfl rfl ?_
  refine b_bipush (pc := 13) dX0_init_13 rfl (by decide) ?_
  refine b_newa (pc := 15) (n := 3) (t := 0) (L := 8) (b := 0) dX0_init_15 rfl (by decide) rfl aw_int (fun _ => rfl) (fun _ _ zh => zh) (by decide) (by decide) (Nat.le_of_ble_eq_true rfl) (Nat.le_of_ble_eq_true rfl) ?_
  show Bv _ _ _ _ 17 [(2, 1), (3, 0), (3, 0)] [(2, 3), (2, 1)] _
  refine b_putr (pc := 17) (c := 1) (k := 3) dX0_init_17 ffX0_15 rfl rfl (by decide) (by decide) ?_
  show Bv _ _ _ _ 20 [(2, 1), (3, 0), (3, 0)] [] _
  refine b_aloadn (pc := 20) dX0_init_20 rfl rfl ?_
  refine b_gets0 (pc := 21) rfl dX0_init_21 ?_
  show Bv _ _ _ _ 24 [(2, 1), (3, 0), (3, 0)] [(2, 78), (2, 1)] _
  refine b_salen (pc := 24) (k := 0) dX0_init_24 (by decide) ?_
  show Bv _ _ _ _ 25 [(2, 1), (3, 0), (3, 0)] [(0, 5), (2, 1)] _
  refine b_bipush (pc := 25) dX0_init_25 rfl (by decide) ?_
  refine b_mna (pc := 27) (n := 4) (R := 5) (L := 8) dX0_init_27 rfl (by decide) (by decide) cmX0_21 aw_int (by decide) (by decide) (Nat.le_of_ble_eq_true rfl) (Nat.le_of_ble_eq_true rfl) ?_
  show Bv _ _ _ _ 31 [(2, 1), (3, 0), (3, 0)] [(2, 4), (2, 1)] _
  refine b_putr (pc := 31) (c := 1) (k := 4) dX0_init_31 ffX0_23 rfl rfl (by decide) (by decide) ?_
  show Bv _ _ _ _ 34 [(2, 1), (3, 0), (3, 0)] [] _
  refine b_iconst (pc := 34) dX0_init_34 (by decide) ?_
  refine b_istoren (pc := 35) (lo' := [(2, 1), (0, 0), (3, 0)]) dX0_init_35 rfl rfl (Nat.le_of_ble_eq_true rfl) rfl ?_
  refine b_iloadn (pc := 36) dX0_init_36 rfl rfl ?_
  refine b_gets0 (pc := 37) rfl dX0_init_37 ?_
  show Bv _ _ _ _ 40 [(2, 1), (0, 0), (3, 0)] [(2, 78), (0, 0)] _
  refine b_salen (pc := 40) (k := 0) dX0_init_40 (by decide) ?_
  show Bv _ _ _ _ 41 [(2, 1), (0, 0), (3, 0)] [(0, 5), (0, 0)] _
  refine b_icmp_ge (pc := 41) (tgt := 77) dX0_init_41 rfl (fun zh => absurd zh (by decide)) (fun _ => ?_)
  refine b_iconst (pc := 44) dX0_init_44 (by decide) ?_
  refine b_istoren (pc := 45) (lo' := [(2, 1), (0, 0), (0, 0)]) dX0_init_45 rfl rfl (Nat.le_of_ble_eq_true rfl) rfl ?_
  refine b_iloadn (pc := 46) dX0_init_46 rfl rfl ?_
  refine b_bipush (pc := 47) dX0_init_47 rfl (by decide) ?_
  refine b_icmp_ge (pc := 49) (tgt := 71) dX0_init_49 rfl (fun zh => absurd zh (by decide)) (fun _ => ?_)
  refine b_aloadn (pc := 52) dX0_init_52 rfl rfl ?_
  refine b_getr (pc := 53) (c := 1) (j := 3) (k := 4) dX0_init_53 fX0_23 rfl rfl (by decide) (by decide) (rfl) ?_
  show Bv _ _ _ _ 56 [(2, 1), (0, 0), (0, 0)] [(2, 4)] _
  refine b_iloadn (pc := 56) dX0_init_56 rfl rfl ?_
  refine b_aald (pc := 57) (c := 4) (L := 5) (b := 5) dX0_init_57 rfl (by decide) (by decide) ?_
  show Bv _ _ _ _ 58 [(2, 1), (0, 0), (0, 0)] [(2, 5)] _
  refine b_iloadn (pc := 58) dX0_init_58 rfl rfl ?_
  refine b_gets0 (pc := 59) rfl dX0_init_59 ?_
  show Bv _ _ _ _ 62 [(2, 1), (0, 0), (0, 0)] [(2, 78), (0, 0), (2, 5)] _
  refine b_iloadn (pc := 62) dX0_init_62 rfl rfl ?_
  refine b_siald (pc := 63) (k := 0) (i := 0) dX0_init_63 (by decide) (by decide) (by decide) ?_
  show Bv _ _ _ _ 64 [(2, 1), (0, 0), (0, 0)] [(0, 1), (0, 0), (2, 5)] _
  refine b_iast (pc := 64) (c := 5) (L := 8) (b := 0) dX0_init_64 rfl (by decide) (by decide) ?_
  show Bv _ _ _ _ 65 [(2, 1), (0, 0), (0, 0)] [] _
  refine b_iinc (pc := 65) (lo' := [(2, 1), (0, 0), (0, 1)]) dX0_init_65 rfl (by decide) rfl (Nat.le_of_ble_eq_true rfl) rfl ?_
  refine b_goto (pc := 68) (tgt := 46) dX0_init_68 rfl ?_
  refine b_iloadn (pc := 46) dX0_init_46 rfl rfl ?_
  refine b_bipush (pc := 47) dX0_init_47 rfl (by decide) ?_
  refine b_icmp_ge (pc := 49) (tgt := 71) dX0_init_49 rfl (fun zh => absurd zh (by decide)) (fun _ => ?_)
  refine b_aloadn (pc := 52) dX0_init_52 rfl rfl ?_
  refine b_getr (pc := 53) (c := 1) (j := 3) (k := 4) dX0_init_53 fX0_23 rfl rfl (by decide) (by decide) (rfl) ?_
  show Bv _ _ _ _ 56 [(2, 1), (0, 0), (0, 1)] [(2, 4)] _
  refine b_iloadn (pc := 56) dX0_init_56 rfl rfl ?_
  refine b_aald (pc := 57) (c := 4) (L := 5) (b := 5) dX0_init_57 rfl (by decide) (by decide) ?_
  show Bv _ _ _ _ 58 [(2, 1), (0, 0), (0, 1)] [(2, 5)] _
  refine b_iloadn (pc := 58) dX0_init_58 rfl rfl ?_
  refine b_gets0 (pc := 59) rfl dX0_init_59 ?_
  show Bv _ _ _ _ 62 [(2, 1), (0, 0), (0, 1)] [(2, 78), (0, 1), (2, 5)] _
  refine b_iloadn (pc := 62) dX0_init_62 rfl rfl ?_
  refine b_siald (pc := 63) (k := 0) (i := 0) dX0_init_63 (by decide) (by decide) (by decide) ?_
  show Bv _ _ _ _ 64 [(2, 1), (0, 0), (0, 1)] [(0, 1), (0, 1), (2, 5)] _
  refine b_iast (pc := 64) (c := 5) (L := 8) (b := 0) dX0_init_64 rfl (by decide) (by decide) ?_
  show Bv _ _ _ _ 65 [(2, 1), (0, 0), (0, 1)] [] _
  refine b_iinc (pc := 65) (lo' := [(2, 1), (0, 0), (0, 2)]) dX0_init_65 rfl (by decide) rfl (Nat.le_of_ble_eq_true rfl) rfl ?_
  refine b_goto (pc := 68) (tgt := 46) dX0_init_68 rfl ?_
  refine b_iloadn (pc := 46) dX0_init_46 rfl rfl ?_
  refine b_bipush (pc := 47) dX0_init_47 rfl (by decide) ?_
  refine b_icmp_ge (pc := 49) (tgt := 71) dX0_init_49 rfl (fun zh => absurd zh (by decide)) (fun _ => ?_)
  refine b_aloadn (pc := 52) dX0_init_52 rfl rfl ?_
  refine b_getr (pc := 53) (c := 1) (j := 3) (k := 4) dX0_init_53 fX0_23 rfl rfl (by decide) (by decide) (rfl) ?_
  show Bv _ _ _ _ 56 [(2, 1), (0, 0), (0, 2)] [(2, 4)] _
  refine b_iloadn (pc := 56) dX0_init_56 rfl rfl ?_
  refine b_aald (pc := 57) (c := 4) (L := 5) (b := 5) dX0_init_57 rfl (by decide) (by decide) ?_
  show Bv _ _ _ _ 58 [(2, 1), (0, 0), (0, 2)] [(2, 5)] _
  refine b_iloadn (pc := 58) dX0_init_58 rfl rfl ?_
  refine b_gets0 (pc := 59) rfl dX0_init_59 ?_
  show Bv _ _ _ _ 62 [(2, 1), (0, 0), (0, 2)] [(2, 78), (0, 2), (2, 5)] _
  refine b_iloadn (pc := 62) dX0_init_62 rfl rfl ?_
  refine b_siald (pc := 63) (k := 0) (i := 0) dX0_init_63 (by decide) (by decide) (by decide) ?_
  show Bv _ _ _ _ 64 [(2, 1), (0, 0), (0, 2)] [(0, 1), (0, 2), (2, 5)] _
  refine b_iast (pc := 64) (c := 5) (L := 8) (b := 0) dX0_init_64 rfl (by decide) (by decide) ?_
  show Bv _ _ _ _ 65 [(2, 1), (0, 0), (0, 2)] [] _
  refine b_iinc (pc := 65) (lo' := [(2, 1), (0, 0), (0, 3)]) dX0_init_65 rfl (by decide) rfl (Nat.le_of_ble_eq_true rfl) rfl ?_
  refine b_goto (pc := 68) (tgt := 46) dX0_init_68 rfl ?_
  refine b_iloadn (pc := 46) dX0_init_46 rfl rfl ?_
  refine b_bipush (pc := 47) dX0_init_47 rfl (by decide) ?_
  refine b_icmp_ge (pc := 49) (tgt := 71) dX0_init_49 rfl (fun zh => absurd zh (by decide)) (fun _ => ?_)
  refine b_aloadn (pc := 52) dX0_init_52 rfl rfl ?_
  refine b_getr (pc := 53) (c := 1) (j := 3) (k := 4) dX0_init_53 fX0_23 rfl rfl (by decide) (by decide) (rfl) ?_
  show Bv _ _ _ _ 56 [(2, 1), (0, 0), (0, 3)] [(2, 4)] _
  refine b_iloadn (pc := 56) dX0_init_56 rfl rfl ?_
  refine b_aald (pc := 57) (c := 4) (L := 5) (b := 5) dX0_init_57 rfl (by decide) (by decide) ?_
  show Bv _ _ _ _ 58 [(2, 1), (0, 0), (0, 3)] [(2, 5)] _
  refine b_iloadn (pc := 58) dX0_init_58 rfl rfl ?_
  refine b_gets0 (pc := 59) rfl dX0_init_59 ?_
  show Bv _ _ _ _ 62 [(2, 1), (0, 0), (0, 3)] [(2, 78), (0, 3), (2, 5)] _
  refine b_iloadn (pc := 62) dX0_init_62 rfl rfl ?_
  refine b_siald (pc := 63) (k := 0) (i := 0) dX0_init_63 (by decide) (by decide) (by decide) ?_
  show Bv _ _ _ _ 64 [(2, 1), (0, 0), (0, 3)] [(0, 1), (0, 3), (2, 5)] _
  refine b_iast (pc := 64) (c := 5) (L := 8) (b := 0) dX0_init_64 rfl (by decide) (by decide) ?_
  show Bv _ _ _ _ 65 [(2, 1), (0, 0), (0, 3)] [] _
  refine b_iinc (pc := 65) (lo' := [(2, 1), (0, 0), (0, 4)]) dX0_init_65 rfl (by decide) rfl (Nat.le_of_ble_eq_true rfl) rfl ?_
  refine b_goto (pc := 68) (tgt := 46) dX0_init_68 rfl ?_
  refine b_iloadn (pc := 46) dX0_init_46 rfl rfl ?_
  refine b_bipush (pc := 47) dX0_init_47 rfl (by decide) ?_
  refine b_icmp_ge (pc := 49) (tgt := 71) dX0_init_49 rfl (fun zh => absurd zh (by decide)) (fun _ => ?_)
  refine b_aloadn (pc := 52) dX0_init_52 rfl rfl ?_
  refine b_getr (pc := 53) (c := 1) (j := 3) (k := 4) dX0_init_53 fX0_23 rfl rfl (by decide) (by decide) (rfl) ?_
  show Bv _ _ _ _ 56 [(2, 1), (0, 0), (0, 4)] [(2, 4)] _
  refine b_iloadn (pc := 56) dX0_init_56 rfl rfl ?_
  refine b_aald (pc := 57) (c := 4) (L := 5) (b := 5) dX0_init_57 rfl (by decide) (by decide) ?_
  show Bv _ _ _ _ 58 [(2, 1), (0, 0), (0, 4)] [(2, 5)] _
  refine b_iloadn (pc := 58) dX0_init_58 rfl rfl ?_
  refine b_gets0 (pc := 59) rfl dX0_init_59 ?_
  show Bv _ _ _ _ 62 [(2, 1), (0, 0), (0, 4)] [(2, 78), (0, 4), (2, 5)] _
  refine b_iloadn (pc := 62) dX0_init_62 rfl rfl ?_
  refine b_siald (pc := 63) (k := 0) (i := 0) dX0_init_63 (by decide) (by decide) (by decide) ?_
  show Bv _ _ _ _ 64 [(2, 1), (0, 0), (0, 4)] [(0, 1), (0, 4), (2, 5)] _
  refine b_iast (pc := 64) (c := 5) (L := 8) (b := 0) dX0_init_64 rfl (by decide) (by decide) ?_
  show Bv _ _ _ _ 65 [(2, 1), (0, 0), (0, 4)] [] _
  refine b_iinc (pc := 65) (lo' := [(2, 1), (0, 0), (0, 5)]) dX0_init_65 rfl (by decide) rfl (Nat.le_of_ble_eq_true rfl) rfl ?_
  refine b_goto (pc := 68) (tgt := 46) dX0_init_68 rfl ?_
  refine b_iloadn (pc := 46) dX0_init_46 rfl rfl ?_
  refine b_bipush (pc := 47) dX0_init_47 rfl (by decide) ?_
  refine b_icmp_ge (pc := 49) (tgt := 71) dX0_init_49 rfl (fun zh => absurd zh (by decide)) (fun _ => ?_)
  refine b_aloadn (pc := 52) dX0_init_52 rfl rfl ?_
  refine b_getr (pc := 53) (c := 1) (j := 3) (k := 4) dX0_init_53 fX0_23 rfl rfl (by decide) (by decide) (rfl) ?_
  show Bv _ _ _ _ 56 [(2, 1), (0, 0), (0, 5)] [(2, 4)] _
  refine b_iloadn (pc := 56) dX0_init_56 rfl rfl ?_
  refine b_aald (pc := 57) (c := 4) (L := 5) (b := 5) dX0_init_57 rfl (by decide) (by decide) ?_
  show Bv _ _ _ _ 58 [(2, 1), (0, 0), (0, 5)] [(2, 5)] _
  refine b_iloadn (pc := 58) dX0_init_58 rfl rfl ?_
  refine b_gets0 (pc := 59) rfl dX0_init_59 ?_
  show Bv _ _ _ _ 62 [(2, 1), (0, 0), (0, 5)] [(2, 78), (0, 5), (2, 5)] _
  refine b_iloadn (pc := 62) dX0_init_62 rfl rfl ?_
  refine b_siald (pc := 63) (k := 0) (i := 0) dX0_init_63 (by decide) (by decide) (by decide) ?_
  show Bv _ _ _ _ 64 [(2, 1), (0, 0), (0, 5)] [(0, 1), (0, 5), (2, 5)] _
  refine b_iast (pc := 64) (c := 5) (L := 8) (b := 0) dX0_init_64 rfl (by decide) (by decide) ?_
  show Bv _ _ _ _ 65 [(2, 1), (0, 0), (0, 5)] [] _
  refine b_iinc (pc := 65) (lo' := [(2, 1), (0, 0), (0, 6)]) dX0_init_65 rfl (by decide) rfl (Nat.le_of_ble_eq_true rfl) rfl ?_
  refine b_goto (pc := 68) (tgt := 46) dX0_init_68 rfl ?_
  refine b_iloadn (pc := 46) dX0_init_46 rfl rfl ?_
  refine b_bipush (pc := 47) dX0_init_47 rfl (by decide) ?_
  refine b_icmp_ge (pc := 49) (tgt := 71) dX0_init_49 rfl (fun zh => absurd zh (by decide)) (fun _ => ?_)
  refine b_aloadn (pc := 52) dX0_init_52 rfl rfl ?_
  refine b_getr (pc := 53) (c := 1) (j := 3) (k := 4) dX0_init_53 fX0_23 rfl rfl (by decide) (by decide) (rfl) ?_
  show Bv _ _ _ _ 56 [(2, 1), (0, 0), (0, 6)] [(2, 4)] _
  refine b_iloadn (pc := 56) dX0_init_56 rfl rfl ?_
  refine b_aald (pc := 57) (c := 4) (L := 5) (b := 5) dX0_init_57 rfl (by decide) (by decide) ?_
  show Bv _ _ _ _ 58 [(2, 1), (0, 0), (0, 6)] [(2, 5)] _
  refine b_iloadn (pc := 58) dX0_init_58 rfl rfl ?_
  refine b_gets0 (pc := 59) rfl dX0_init_59 ?_
  show Bv _ _ _ _ 62 [(2, 1), (0, 0), (0, 6)] [(2, 78), (0, 6), (2, 5)] _
  refine b_iloadn (pc := 62) dX0_init_62 rfl rfl ?_
  refine b_siald (pc := 63) (k := 0) (i := 0) dX0_init_63 (by decide) (by decide) (by decide) ?_
  show Bv _ _ _ _ 64 [(2, 1), (0, 0), (0, 6)] [(0, 1), (0, 6), (2, 5)] _
  refine b_iast (pc := 64) (c := 5) (L := 8) (b := 0) dX0_init_64 rfl (by decide) (by decide) ?_
  show Bv _ _ _ _ 65 [(2, 1), (0, 0), (0, 6)] [] _
  refine b_iinc (pc := 65) (lo' := [(2, 1), (0, 0), (0, 7)]) dX0_init_65 rfl (by decide) rfl (Nat.le_of_ble_eq_true rfl) rfl ?_
  refine b_goto (pc := 68) (tgt := 46) dX0_init_68 rfl ?_
  refine b_iloadn (pc := 46) dX0_init_46 rfl rfl ?_
  refine b_bipush (pc := 47) dX0_init_47 rfl (by decide) ?_
  refine b_icmp_ge (pc := 49) (tgt := 71) dX0_init_49 rfl (fun zh => absurd zh (by decide)) (fun _ => ?_)
  refine b_aloadn (pc := 52) dX0_init_52 rfl rfl ?_
  refine b_getr (pc := 53) (c := 1) (j := 3) (k := 4) dX0_init_53 fX0_23 rfl rfl (by decide) (by decide) (rfl) ?_
  show Bv _ _ _ _ 56 [(2, 1), (0, 0), (0, 7)] [(2, 4)] _
  refine b_iloadn (pc := 56) dX0_init_56 rfl rfl ?_
  refine b_aald (pc := 57) (c := 4) (L := 5) (b := 5) dX0_init_57 rfl (by decide) (by decide) ?_
  show Bv _ _ _ _ 58 [(2, 1), (0, 0), (0, 7)] [(2, 5)] _
  refine b_iloadn (pc := 58) dX0_init_58 rfl rfl ?_
  refine b_gets0 (pc := 59) rfl dX0_init_59 ?_
  show Bv _ _ _ _ 62 [(2, 1), (0, 0), (0, 7)] [(2, 78), (0, 7), (2, 5)] _
  refine b_iloadn (pc := 62) dX0_init_62 rfl rfl ?_
  refine b_siald (pc := 63) (k := 0) (i := 0) dX0_init_63 (by decide) (by decide) (by decide) ?_
  show Bv _ _ _ _ 64 [(2, 1), (0, 0), (0, 7)] [(0, 1), (0, 7), (2, 5)] _
  refine b_iast (pc := 64) (c := 5) (L := 8) (b := 0) dX0_init_64 rfl (by decide) (by decide) ?_
  show Bv _ _ _ _ 65 [(2, 1), (0, 0), (0, 7)] [] _
  refine b_iinc (pc := 65) (lo' := [(2, 1), (0, 0), (0, 8)]) dX0_init_65 rfl (by decide) rfl (Nat.le_of_ble_eq_true rfl) rfl ?_
  refine b_goto (pc := 68) (tgt := 46) dX0_init_68 rfl ?_
  refine b_iloadn (pc := 46) dX0_init_46 rfl rfl ?_
  refine b_bipush (pc := 47) dX0_init_47 rfl (by decide) ?_
  refine b_icmp_ge (pc := 49) (tgt := 71) dX0_init_49 rfl (fun _ => ?_) (fun zh => absurd zh (by decide))
  refine b_iinc (pc := 71) (lo' := [(2, 1), (0, 1), (0, 8)]) dX0_init_71 rfl (by decide) rfl (Nat.le_of_ble_eq_true rfl) rfl ?_
  refine b_goto (pc := 74) (tgt := 36) dX0_init_74 rfl ?_
  refine b_iloadn (pc := 36) dX0_init_36 rfl rfl ?_
  refine b_gets0 (pc := 37) rfl dX0_init_37 ?_
  show Bv _ _ _ _ 40 [(2, 1), (0, 1), (0, 8)] [(2, 78), (0, 1)] _
  refine b_salen (pc := 40) (k := 0) dX0_init_40 (by decide) ?_
  show Bv _ _ _ _ 41 [(2, 1), (0, 1), (0, 8)] [(0, 5), (0, 1)] _
  refine b_icmp_ge (pc := 41) (tgt := 77) dX0_init_41 rfl (fun zh => absurd zh (by decide)) (fun _ => ?_)
  refine b_iconst (pc := 44) dX0_init_44 (by decide) ?_
  refine b_istoren (pc := 45) (lo' := [(2, 1), (0, 1), (0, 0)]) dX0_init_45 rfl rfl (Nat.le_of_ble_eq_true rfl) rfl ?_
  refine b_iloadn (pc := 46) dX0_init_46 rfl rfl ?_
  refine b_bipush (pc := 47) dX0_init_47 rfl (by decide) ?_
  refine b_icmp_ge (pc := 49) (tgt := 71) dX0_init_49 rfl (fun zh => absurd zh (by decide)) (fun _ => ?_)
  refine b_aloadn (pc := 52) dX0_init_52 rfl rfl ?_
  refine b_getr (pc := 53) (c := 1) (j := 3) (k := 4) dX0_init_53 fX0_23 rfl rfl (by decide) (by decide) (rfl) ?_
  show Bv _ _ _ _ 56 [(2, 1), (0, 1), (0, 0)] [(2, 4)] _
  refine b_iloadn (pc := 56) dX0_init_56 rfl rfl ?_
  refine b_aald (pc := 57) (c := 4) (L := 5) (b := 5) dX0_init_57 rfl (by decide) (by decide) ?_
  show Bv _ _ _ _ 58 [(2, 1), (0, 1), (0, 0)] [(2, 6)] _
  refine b_iloadn (pc := 58) dX0_init_58 rfl rfl ?_
  refine b_gets0 (pc := 59) rfl dX0_init_59 ?_
  show Bv _ _ _ _ 62 [(2, 1), (0, 1), (0, 0)] [(2, 78), (0, 0), (2, 6)] _
  refine b_iloadn (pc := 62) dX0_init_62 rfl rfl ?_
  refine b_siald (pc := 63) (k := 0) (i := 1) dX0_init_63 (by decide) (by decide) (by decide) ?_
  show Bv _ _ _ _ 64 [(2, 1), (0, 1), (0, 0)] [(0, 1), (0, 0), (2, 6)] _
  refine b_iast (pc := 64) (c := 6) (L := 8) (b := 0) dX0_init_64 rfl (by decide) (by decide) ?_
  show Bv _ _ _ _ 65 [(2, 1), (0, 1), (0, 0)] [] _
  refine b_iinc (pc := 65) (lo' := [(2, 1), (0, 1), (0, 1)]) dX0_init_65 rfl (by decide) rfl (Nat.le_of_ble_eq_true rfl) rfl ?_
  refine b_goto (pc := 68) (tgt := 46) dX0_init_68 rfl ?_
  refine b_iloadn (pc := 46) dX0_init_46 rfl rfl ?_
  refine b_bipush (pc := 47) dX0_init_47 rfl (by decide) ?_
  refine b_icmp_ge (pc := 49) (tgt := 71) dX0_init_49 rfl (fun zh => absurd zh (by decide)) (fun _ => ?_)
  refine b_aloadn (pc := 52) dX0_init_52 rfl rfl ?_
  refine b_getr (pc := 53) (c := 1) (j := 3) (k := 4) dX0_init_53 fX0_23 rfl rfl (by decide) (by decide) (rfl) ?_
  show Bv _ _ _ _ 56 [(2, 1), (0, 1), (0, 1)] [(2, 4)] _
  refine b_iloadn (pc := 56) dX0_init_56 rfl rfl ?_
  refine b_aald (pc := 57) (c := 4) (L := 5) (b := 5) dX0_init_57 rfl (by decide) (by decide) ?_
  show Bv _ _ _ _ 58 [(2, 1), (0, 1), (0, 1)] [(2, 6)] _
  refine b_iloadn (pc := 58) dX0_init_58 rfl rfl ?_
  refine b_gets0 (pc := 59) rfl dX0_init_59 ?_
  show Bv _ _ _ _ 62 [(2, 1), (0, 1), (0, 1)] [(2, 78), (0, 1), (2, 6)] _
  refine b_iloadn (pc := 62) dX0_init_62 rfl rfl ?_
  refine b_siald (pc := 63) (k := 0) (i := 1) dX0_init_63 (by decide) (by decide) (by decide) ?_
  show Bv _ _ _ _ 64 [(2, 1), (0, 1), (0, 1)] [(0, 1), (0, 1), (2, 6)] _
  refine b_iast (pc := 64) (c := 6) (L := 8) (b := 0) dX0_init_64 rfl (by decide) (by decide) ?_
  show Bv _ _ _ _ 65 [(2, 1), (0, 1), (0, 1)] [] _
  refine b_iinc (pc := 65) (lo' := [(2, 1), (0, 1), (0, 2)]) dX0_init_65 rfl (by decide) rfl (Nat.le_of_ble_eq_true rfl) rfl ?_
  refine b_goto (pc := 68) (tgt := 46) dX0_init_68 rfl ?_
  refine b_iloadn (pc := 46) dX0_init_46 rfl rfl ?_
  refine b_bipush (pc := 47) dX0_init_47 rfl (by decide) ?_
  refine b_icmp_ge (pc := 49) (tgt := 71) dX0_init_49 rfl (fun zh => absurd zh (by decide)) (fun _ => ?_)
  refine b_aloadn (pc := 52) dX0_init_52 rfl rfl ?_
  refine b_getr (pc := 53) (c := 1) (j := 3) (k := 4) dX0_init_53 fX0_23 rfl rfl (by decide) (by decide) (rfl) ?_
  show Bv _ _ _ _ 56 [(2, 1), (0, 1), (0, 2)] [(2, 4)] _
  refine b_iloadn (pc := 56) dX0_init_56 rfl rfl ?_
  refine b_aald (pc := 57) (c := 4) (L := 5) (b := 5) dX0_init_57 rfl (by decide) (by decide) ?_
  show Bv _ _ _ _ 58 [(2, 1), (0, 1), (0, 2)] [(2, 6)] _
  refine b_iloadn (pc := 58) dX0_init_58 rfl rfl ?_
  refine b_gets0 (pc := 59) rfl dX0_init_59 ?_
  show Bv _ _ _ _ 62 [(2, 1), (0, 1), (0, 2)] [(2, 78), (0, 2), (2, 6)] _
  refine b_iloadn (pc := 62) dX0_init_62 rfl rfl ?_
  refine b_siald (pc := 63) (k := 0) (i := 1) dX0_init_63 (by decide) (by decide) (by decide) ?_
  show Bv _ _ _ _ 64 [(2, 1), (0, 1), (0, 2)] [(0, 1), (0, 2), (2, 6)] _
  refine b_iast (pc := 64) (c := 6) (L := 8) (b := 0) dX0_init_64 rfl (by decide) (by decide) ?_
  show Bv _ _ _ _ 65 [(2, 1), (0, 1), (0, 2)] [] _
  refine b_iinc (pc := 65) (lo' := [(2, 1), (0, 1), (0, 3)]) dX0_init_65 rfl (by decide) rfl (Nat.le_of_ble_eq_true rfl) rfl ?_
  refine b_goto (pc := 68) (tgt := 46) dX0_init_68 rfl ?_
  refine b_iloadn (pc := 46) dX0_init_46 rfl rfl ?_
  refine b_bipush (pc := 47) dX0_init_47 rfl (by decide) ?_
  refine b_icmp_ge (pc := 49) (tgt := 71) dX0_init_49 rfl (fun zh => absurd zh (by decide)) (fun _ => ?_)
  refine b_aloadn (pc := 52) dX0_init_52 rfl rfl ?_
  refine b_getr (pc := 53) (c := 1) (j := 3) (k := 4) dX0_init_53 fX0_23 rfl rfl (by decide) (by decide) (rfl) ?_
  show Bv _ _ _ _ 56 [(2, 1), (0, 1), (0, 3)] [(2, 4)] _
  refine b_iloadn (pc := 56) dX0_init_56 rfl rfl ?_
  refine b_aald (pc := 57) (c := 4) (L := 5) (b := 5) dX0_init_57 rfl (by decide) (by decide) ?_
  show Bv _ _ _ _ 58 [(2, 1), (0, 1), (0, 3)] [(2, 6)] _
  refine b_iloadn (pc := 58) dX0_init_58 rfl rfl ?_
  refine b_gets0 (pc := 59) rfl dX0_init_59 ?_
  show Bv _ _ _ _ 62 [(2, 1), (0, 1), (0, 3)] [(2, 78), (0, 3), (2, 6)] _
  refine b_iloadn (pc := 62) dX0_init_62 rfl rfl ?_
  refine b_siald (pc := 63) (k := 0) (i := 1) dX0_init_63 (by decide) (by decide) (by decide) ?_
  show Bv _ _ _ _ 64 [(2, 1), (0, 1), (0, 3)] [(0, 1), (0, 3), (2, 6)] _
  refine b_iast (pc := 64) (c := 6) (L := 8) (b := 0) dX0_init_64 rfl (by decide) (by decide) ?_
  show Bv _ _ _ _ 65 [(2, 1), (0, 1), (0, 3)] [] _
  refine b_iinc (pc := 65) (lo' := [(2, 1), (0, 1), (0, 4)]) dX0_init_65 rfl (by decide) rfl (Nat.le_of_ble_eq_true rfl) rfl ?_
  refine b_goto (pc := 68) (tgt := 46) dX0_init_68 rfl ?_
  refine b_iloadn (pc := 46) dX0_init_46 rfl rfl ?_
  refine b_bipush (pc := 47) dX0_init_47 rfl (by decide) ?_
  refine b_icmp_ge (pc := 49) (tgt := 71) dX0_init_49 rfl (fun zh => absurd zh (by decide)) (fun _ => ?_)
  refine b_aloadn (pc := 52) dX0_init_52 rfl rfl ?_
  refine b_getr (pc := 53) (c := 1) (j := 3) (k := 4) dX0_init_53 fX0_23 rfl rfl (by decide) (by decide) (rfl) ?_
  show Bv _ _ _ _ 56 [(2, 1), (0, 1), (0, 4)] [(2, 4)] _
  refine b_iloadn (pc := 56) dX0_init_56 rfl rfl ?_
  refine b_aald (pc := 57) (c := 4) (L := 5) (b := 5) dX0_init_57 rfl (by decide) (by decide) ?_
  show Bv _ _ _ _ 58 [(2, 1), (0, 1), (0, 4)] [(2, 6)] _
  refine b_iloadn (pc := 58) dX0_init_58 rfl rfl ?_
  refine b_gets0 (pc := 59) rfl dX0_init_59 ?_
  show Bv _ _ _ _ 62 [(2, 1), (0, 1), (0, 4)] [(2, 78), (0, 4), (2, 6)] _
  refine b_iloadn (pc := 62) dX0_init_62 rfl rfl ?_
  refine b_siald (pc := 63) (k := 0) (i := 1) dX0_init_63 (by decide) (by decide) (by decide) ?_
  show Bv _ _ _ _ 64 [(2, 1), (0, 1), (0, 4)] [(0, 1), (0, 4), (2, 6)] _
  refine b_iast (pc := 64) (c := 6) (L := 8) (b := 0) dX0_init_64 rfl (by decide) (by decide) ?_
  show Bv _ _ _ _ 65 [(2, 1), (0, 1), (0, 4)] [] _
  refine b_iinc (pc := 65) (lo' := [(2, 1), (0, 1), (0, 5)]) dX0_init_65 rfl (by decide) rfl (Nat.le_of_ble_eq_true rfl) rfl ?_
  refine b_goto (pc := 68) (tgt := 46) dX0_init_68 rfl ?_
  refine b_iloadn (pc := 46) dX0_init_46 rfl rfl ?_
  refine b_bipush (pc := 47) dX0_init_47 rfl (by decide) ?_
  refine b_icmp_ge (pc := 49) (tgt := 71) dX0_init_49 rfl (fun zh => absurd zh (by decide)) (fun _ => ?_)
  refine b_aloadn (pc := 52) dX0_init_52 rfl rfl ?_
  refine b_getr (pc := 53) (c := 1) (j := 3) (k := 4) dX0_init_53 fX0_23 rfl rfl (by decide) (by decide) (rfl) ?_
  show Bv _ _ _ _ 56 [(2, 1), (0, 1), (0, 5)] [(2, 4)] _
  refine b_iloadn (pc := 56) dX0_init_56 rfl rfl ?_
  refine b_aald (pc := 57) (c := 4) (L := 5) (b := 5) dX0_init_57 rfl (by decide) (by decide) ?_
  show Bv _ _ _ _ 58 [(2, 1), (0, 1), (0, 5)] [(2, 6)] _
  refine b_iloadn (pc := 58) dX0_init_58 rfl rfl ?_
  refine b_gets0 (pc := 59) rfl dX0_init_59 ?_
  show Bv _ _ _ _ 62 [(2, 1), (0, 1), (0, 5)] [(2, 78), (0, 5), (2, 6)] _
  refine b_iloadn (pc := 62) dX0_init_62 rfl rfl ?_
  refine b_siald (pc := 63) (k := 0) (i := 1) dX0_init_63 (by decide) (by decide) (by decide) ?_
  show Bv _ _ _ _ 64 [(2, 1), (0, 1), (0, 5)] [(0, 1), (0, 5), (2, 6)] _
  refine b_iast (pc := 64) (c := 6) (L := 8) (b := 0) dX0_init_64 rfl (by decide) (by decide) ?_
  show Bv _ _ _ _ 65 [(2, 1), (0, 1), (0, 5)] [] _
  refine b_iinc (pc := 65) (lo' := [(2, 1), (0, 1), (0, 6)]) dX0_init_65 rfl (by decide) rfl (Nat.le_of_ble_eq_true rfl) rfl ?_
  refine b_goto (pc := 68) (tgt := 46) dX0_init_68 rfl ?_
  refine b_iloadn (pc := 46) dX0_init_46 rfl rfl ?_
  refine b_bipush (pc := 47) dX0_init_47 rfl (by decide) ?_
  refine b_icmp_ge (pc := 49) (tgt := 71) dX0_init_49 rfl (fun zh => absurd zh (by decide)) (fun _ => ?_)
  refine b_aloadn (pc := 52) dX0_init_52 rfl rfl ?_
  refine b_getr (pc := 53) (c := 1) (j := 3) (k := 4) dX0_init_53 fX0_23 rfl rfl (by decide) (by decide) (rfl) ?_
  show Bv _ _ _ _ 56 [(2, 1), (0, 1), (0, 6)] [(2, 4)] _
  refine b_iloadn (pc := 56) dX0_init_56 rfl rfl ?_
  refine b_aald (pc := 57) (c := 4) (L := 5) (b := 5) dX0_init_57 rfl (by decide) (by decide) ?_
  show Bv _ _ _ _ 58 [(2, 1), (0, 1), (0, 6)] [(2, 6)] _
  refine b_iloadn (pc := 58) dX0_init_58 rfl rfl ?_
  refine b_gets0 (pc := 59) rfl dX0_init_59 ?_
  show Bv _ _ _ _ 62 [(2, 1), (0, 1), (0, 6)] [(2, 78), (0, 6), (2, 6)] _
  refine b_iloadn (pc := 62) dX0_init_62 rfl rfl ?_
  refine b_siald (pc := 63) (k := 0) (i := 1) dX0_init_63 (by decide) (by decide) (by decide) ?_
  show Bv _ _ _ _ 64 [(2, 1), (0, 1), (0, 6)] [(0, 1), (0, 6), (2, 6)] _
  refine b_iast (pc := 64) (c := 6) (L := 8) (b := 0) dX0_init_64 rfl (by decide) (by decide) ?_
  show Bv _ _ _ _ 65 [(2, 1), (0, 1), (0, 6)] [] _
  refine b_iinc (pc := 65) (lo' := [(2, 1), (0, 1), (0, 7)]) dX0_init_65 rfl (by decide) rfl (Nat.le_of_ble_eq_true rfl) rfl ?_
  refine b_goto (pc := 68) (tgt := 46) dX0_init_68 rfl ?_
  refine b_iloadn (pc := 46) dX0_init_46 rfl rfl ?_
  refine b_bipush (pc := 47) dX0_init_47 rfl (by decide) ?_
  refine b_icmp_ge (pc := 49) (tgt := 71) dX0_init_49 rfl (fun zh => absurd zh (by decide)) (fun _ => ?_)
  refine b_aloadn (pc := 52) dX0_init_52 rfl rfl ?_
  refine b_getr (pc := 53) (c := 1) (j := 3) (k := 4) dX0_init_53 fX0_23 rfl rfl (by decide) (by decide) (rfl) ?_
  show Bv _ _ _ _ 56 [(2, 1), (0, 1), (0, 7)] [(2, 4)] _
  refine b_iloadn (pc := 56) dX0_init_56 rfl rfl ?_
  refine b_aald (pc := 57) (c := 4) (L := 5) (b := 5) dX0_init_57 rfl (by decide) (by decide) ?_
  show Bv _ _ _ _ 58 [(2, 1), (0, 1), (0, 7)] [(2, 6)] _
  refine b_iloadn (pc := 58) dX0_init_58 rfl rfl ?_
  refine b_gets0 (pc := 59) rfl dX0_init_59 ?_
  show Bv _ _ _ _ 62 [(2, 1), (0, 1), (0, 7)] [(2, 78), (0, 7), (2, 6)] _
  refine b_iloadn (pc := 62) dX0_init_62 rfl rfl ?_
  refine b_siald (pc := 63) (k := 0) (i := 1) dX0_init_63 (by decide) (by decide) (by decide) ?_
  show Bv _ _ _ _ 64 [(2, 1), (0, 1), (0, 7)] [(0, 1), (0, 7), (2, 6)] _
  refine b_iast (pc := 64) (c := 6) (L := 8) (b := 0) dX0_init_64 rfl (by decide) (by decide) ?_
  show Bv _ _ _ _ 65 [(2, 1), (0, 1), (0, 7)] [] _
  refine b_iinc (pc := 65) (lo' := [(2, 1), (0, 1), (0, 8)]) dX0_init_65 rfl (by decide) rfl (Nat.le_of_ble_eq_true rfl) rfl ?_
  refine b_goto (pc := 68) (tgt := 46) dX0_init_68 rfl ?_
  refine b_iloadn (pc := 46) dX0_init_46 rfl rfl ?_
  refine b_bipush (pc := 47) dX0_init_47 rfl (by decide) ?_
  refine b_icmp_ge (pc := 49) (tgt := 71) dX0_init_49 rfl (fun _ => ?_) (fun zh => absurd zh (by decide))
  refine b_iinc (pc := 71) (lo' := [(2, 1), (0, 2), (0, 8)]) dX0_init_71 rfl (by decide) rfl (Nat.le_of_ble_eq_true rfl) rfl ?_
  refine b_goto (pc := 74) (tgt := 36) dX0_init_74 rfl ?_
  refine b_iloadn (pc := 36) dX0_init_36 rfl rfl ?_
  refine b_gets0 (pc := 37) rfl dX0_init_37 ?_
  show Bv _ _ _ _ 40 [(2, 1), (0, 2), (0, 8)] [(2, 78), (0, 2)] _
  refine b_salen (pc := 40) (k := 0) dX0_init_40 (by decide) ?_
  show Bv _ _ _ _ 41 [(2, 1), (0, 2), (0, 8)] [(0, 5), (0, 2)] _
  refine b_icmp_ge (pc := 41) (tgt := 77) dX0_init_41 rfl (fun zh => absurd zh (by decide)) (fun _ => ?_)
  refine b_iconst (pc := 44) dX0_init_44 (by decide) ?_
  refine b_istoren (pc := 45) (lo' := [(2, 1), (0, 2), (0, 0)]) dX0_init_45 rfl rfl (Nat.le_of_ble_eq_true rfl) rfl ?_
  refine b_iloadn (pc := 46) dX0_init_46 rfl rfl ?_
  refine b_bipush (pc := 47) dX0_init_47 rfl (by decide) ?_
  refine b_icmp_ge (pc := 49) (tgt := 71) dX0_init_49 rfl (fun zh => absurd zh (by decide)) (fun _ => ?_)
  refine b_aloadn (pc := 52) dX0_init_52 rfl rfl ?_
  refine b_getr (pc := 53) (c := 1) (j := 3) (k := 4) dX0_init_53 fX0_23 rfl rfl (by decide) (by decide) (rfl) ?_
  show Bv _ _ _ _ 56 [(2, 1), (0, 2), (0, 0)] [(2, 4)] _
  refine b_iloadn (pc := 56) dX0_init_56 rfl rfl ?_
  refine b_aald (pc := 57) (c := 4) (L := 5) (b := 5) dX0_init_57 rfl (by decide) (by decide) ?_
  show Bv _ _ _ _ 58 [(2, 1), (0, 2), (0, 0)] [(2, 7)] _
  refine b_iloadn (pc := 58) dX0_init_58 rfl rfl ?_
  refine b_gets0 (pc := 59) rfl dX0_init_59 ?_
  show Bv _ _ _ _ 62 [(2, 1), (0, 2), (0, 0)] [(2, 78), (0, 0), (2, 7)] _
  refine b_iloadn (pc := 62) dX0_init_62 rfl rfl ?_
  refine b_siald (pc := 63) (k := 0) (i := 2) dX0_init_63 (by decide) (by decide) (by decide) ?_
  show Bv _ _ _ _ 64 [(2, 1), (0, 2), (0, 0)] [(0, 100), (0, 0), (2, 7)] _
  refine b_iast (pc := 64) (c := 7) (L := 8) (b := 0) dX0_init_64 rfl (by decide) (by decide) ?_
  show Bv _ _ _ _ 65 [(2, 1), (0, 2), (0, 0)] [] _
  refine b_iinc (pc := 65) (lo' := [(2, 1), (0, 2), (0, 1)]) dX0_init_65 rfl (by decide) rfl (Nat.le_of_ble_eq_true rfl) rfl ?_
  refine b_goto (pc := 68) (tgt := 46) dX0_init_68 rfl ?_
  refine b_iloadn (pc := 46) dX0_init_46 rfl rfl ?_
  refine b_bipush (pc := 47) dX0_init_47 rfl (by decide) ?_
  refine b_icmp_ge (pc := 49) (tgt := 71) dX0_init_49 rfl (fun zh => absurd zh (by decide)) (fun _ => ?_)
  refine b_aloadn (pc := 52) dX0_init_52 rfl rfl ?_
  refine b_getr (pc := 53) (c := 1) (j := 3) (k := 4) dX0_init_53 fX0_23 rfl rfl (by decide) (by decide) (rfl) ?_
  show Bv _ _ _ _ 56 [(2, 1), (0, 2), (0, 1)] [(2, 4)] _
  refine b_iloadn (pc := 56) dX0_init_56 rfl rfl ?_
  refine b_aald (pc := 57) (c := 4) (L := 5) (b := 5) dX0_init_57 rfl (by decide) (by decide) ?_
  show Bv _ _ _ _ 58 [(2, 1), (0, 2), (0, 1)] [(2, 7)] _
  refine b_iloadn (pc := 58) dX0_init_58 rfl rfl ?_
  refine b_gets0 (pc := 59) rfl dX0_init_59 ?_
  show Bv _ _ _ _ 62 [(2, 1), (0, 2), (0, 1)] [(2, 78), (0, 1), (2, 7)] _
  refine b_iloadn (pc := 62) dX0_init_62 rfl rfl ?_
  refine b_siald (pc := 63) (k := 0) (i := 2) dX0_init_63 (by decide) (by decide) (by decide) ?_
  show Bv _ _ _ _ 64 [(2, 1), (0, 2), (0, 1)] [(0, 100), (0, 1), (2, 7)] _
  refine b_iast (pc := 64) (c := 7) (L := 8) (b := 0) dX0_init_64 rfl (by decide) (by decide) ?_
  show Bv _ _ _ _ 65 [(2, 1), (0, 2), (0, 1)] [] _
  refine b_iinc (pc := 65) (lo' := [(2, 1), (0, 2), (0, 2)]) dX0_init_65 rfl (by decide) rfl (Nat.le_of_ble_eq_true rfl) rfl ?_
  refine b_goto (pc := 68) (tgt := 46) dX0_init_68 rfl ?_
  refine b_iloadn (pc := 46) dX0_init_46 rfl rfl ?_
  refine b_bipush (pc := 47) dX0_init_47 rfl (by decide) ?_
  refine b_icmp_ge (pc := 49) (tgt := 71) dX0_init_49 rfl (fun zh => absurd zh (by decide)) (fun _ => ?_)
  refine b_aloadn (pc := 52) dX0_init_52 rfl rfl ?_
  refine b_getr (pc := 53) (c := 1) (j := 3) (k := 4) dX0_init_53 fX0_23 rfl rfl (by decide) (by decide) (rfl) ?_
  show Bv _ _ _ _ 56 [(2, 1), (0, 2), (0, 2)] [(2, 4)] _
  refine b_iloadn (pc := 56) dX0_init_56 rfl rfl ?_
  refine b_aald (pc := 57) (c := 4) (L := 5) (b := 5) dX0_init_57 rfl (by decide) (by decide) ?_
  show Bv _ _ _ _ 58 [(2, 1), (0, 2), (0, 2)] [(2, 7)] _
  refine b_iloadn (pc := 58) dX0_init_58 rfl rfl ?_
  refine b_gets0 (pc := 59) rfl dX0_init_59 ?_
  show Bv _ _ _ _ 62 [(2, 1), (0, 2), (0, 2)] [(2, 78), (0, 2), (2, 7)] _
  refine b_iloadn (pc := 62) dX0_init_62 rfl rfl ?_
  refine b_siald (pc := 63) (k := 0) (i := 2) dX0_init_63 (by decide) (by decide) (by decide) ?_
  show Bv _ _ _ _ 64 [(2, 1), (0, 2), (0, 2)] [(0, 100), (0, 2), (2, 7)] _
  refine b_iast (pc := 64) (c := 7) (L := 8) (b := 0) dX0_init_64 rfl (by decide) (by decide) ?_
  show Bv _ _ _ _ 65 [(2, 1), (0, 2), (0, 2)] [] _
  refine b_iinc (pc := 65) (lo' := [(2, 1), (0, 2), (0, 3)]) dX0_init_65 rfl (by decide) rfl (Nat.le_of_ble_eq_true rfl) rfl ?_
  refine b_goto (pc := 68) (tgt := 46) dX0_init_68 rfl ?_
  refine b_iloadn (pc := 46) dX0_init_46 rfl rfl ?_
  refine b_bipush (pc := 47) dX0_init_47 rfl (by decide) ?_
  refine b_icmp_ge (pc := 49) (tgt := 71) dX0_init_49 rfl (fun zh => absurd zh (by decide)) (fun _ => ?_)
  refine b_aloadn (pc := 52) dX0_init_52 rfl rfl ?_
  refine b_getr (pc := 53) (c := 1) (j := 3) (k := 4) dX0_init_53 fX0_23 rfl rfl (by decide) (by decide) (rfl) ?_
  show Bv _ _ _ _ 56 [(2, 1), (0, 2), (0, 3)] [(2, 4)] _
  refine b_iloadn (pc := 56) dX0_init_56 rfl rfl ?_
  refine b_aald (pc := 57) (c := 4) (L := 5) (b := 5) dX0_init_57 rfl (by decide) (by decide) ?_
  show Bv _ _ _ _ 58 [(2, 1), (0, 2), (0, 3)] [(2, 7)] _
  refine b_iloadn (pc := 58) dX0_init_58 rfl rfl ?_
  refine b_gets0 (pc := 59) rfl dX0_init_59 ?_
  show Bv _ _ _ _ 62 [(2, 1), (0, 2), (0, 3)] [(2, 78), (0, 3), (2, 7)] _
  refine b_iloadn (pc := 62) dX0_init_62 rfl rfl ?_
  refine b_siald (pc := 63) (k := 0) (i := 2) dX0_init_63 (by decide) (by decide) (by decide) ?_
  show Bv _ _ _ _ 64 [(2, 1), (0, 2), (0, 3)] [(0, 100), (0, 3), (2, 7)] _
  refine b_iast (pc := 64) (c := 7) (L := 8) (b := 0) dX0_init_64 rfl (by decide) (by decide) ?_
  show Bv _ _ _ _ 65 [(2, 1), (0, 2), (0, 3)] [] _
  refine b_iinc (pc := 65) (lo' := [(2, 1), (0, 2), (0, 4)]) dX0_init_65 rfl (by decide) rfl (Nat.le_of_ble_eq_true rfl) rfl ?_
  refine b_goto (pc := 68) (tgt := 46) dX0_init_68 rfl ?_
  refine b_iloadn (pc := 46) dX0_init_46 rfl rfl ?_
  refine b_bipush (pc := 47) dX0_init_47 rfl (by decide) ?_
  refine b_icmp_ge (pc := 49) (tgt := 71) dX0_init_49 rfl (fun zh => absurd zh (by decide)) (fun _ => ?_)
  refine b_aloadn (pc := 52) dX0_init_52 rfl rfl ?_
  refine b_getr (pc := 53) (c := 1) (j := 3) (k := 4) dX0_init_53 fX0_23 rfl rfl (by decide) (by decide) (rfl) ?_
  show Bv _ _ _ _ 56 [(2, 1), (0, 2), (0, 4)] [(2, 4)] _
  refine b_iloadn (pc := 56) dX0_init_56 rfl rfl ?_
  refine b_aald (pc := 57) (c := 4) (L := 5) (b := 5) dX0_init_57 rfl (by decide) (by decide) ?_
  show Bv _ _ _ _ 58 [(2, 1), (0, 2), (0, 4)] [(2, 7)] _
  refine b_iloadn (pc := 58) dX0_init_58 rfl rfl ?_
  refine b_gets0 (pc := 59) rfl dX0_init_59 ?_
  show Bv _ _ _ _ 62 [(2, 1), (0, 2), (0, 4)] [(2, 78), (0, 4), (2, 7)] _
  refine b_iloadn (pc := 62) dX0_init_62 rfl rfl ?_
  refine b_siald (pc := 63) (k := 0) (i := 2) dX0_init_63 (by decide) (by decide) (by decide) ?_
  show Bv _ _ _ _ 64 [(2, 1), (0, 2), (0, 4)] [(0, 100), (0, 4), (2, 7)] _
  refine b_iast (pc := 64) (c := 7) (L := 8) (b := 0) dX0_init_64 rfl (by decide) (by decide) ?_
  show Bv _ _ _ _ 65 [(2, 1), (0, 2), (0, 4)] [] _
  refine b_iinc (pc := 65) (lo' := [(2, 1), (0, 2), (0, 5)]) dX0_init_65 rfl (by decide) rfl (Nat.le_of_ble_eq_true rfl) rfl ?_
  refine b_goto (pc := 68) (tgt := 46) dX0_init_68 rfl ?_
  refine b_iloadn (pc := 46) dX0_init_46 rfl rfl ?_
  refine b_bipush (pc := 47) dX0_init_47 rfl (by decide) ?_
  refine b_icmp_ge (pc := 49) (tgt := 71) dX0_init_49 rfl (fun zh => absurd zh (by decide)) (fun _ => ?_)
  refine b_aloadn (pc := 52) dX0_init_52 rfl rfl ?_
  refine b_getr (pc := 53) (c := 1) (j := 3) (k := 4) dX0_init_53 fX0_23 rfl rfl (by decide) (by decide) (rfl) ?_
  show Bv _ _ _ _ 56 [(2, 1), (0, 2), (0, 5)] [(2, 4)] _
  refine b_iloadn (pc := 56) dX0_init_56 rfl rfl ?_
  refine b_aald (pc := 57) (c := 4) (L := 5) (b := 5) dX0_init_57 rfl (by decide) (by decide) ?_
  show Bv _ _ _ _ 58 [(2, 1), (0, 2), (0, 5)] [(2, 7)] _
  refine b_iloadn (pc := 58) dX0_init_58 rfl rfl ?_
  refine b_gets0 (pc := 59) rfl dX0_init_59 ?_
  show Bv _ _ _ _ 62 [(2, 1), (0, 2), (0, 5)] [(2, 78), (0, 5), (2, 7)] _
  refine b_iloadn (pc := 62) dX0_init_62 rfl rfl ?_
  refine b_siald (pc := 63) (k := 0) (i := 2) dX0_init_63 (by decide) (by decide) (by decide) ?_
  show Bv _ _ _ _ 64 [(2, 1), (0, 2), (0, 5)] [(0, 100), (0, 5), (2, 7)] _
  refine b_iast (pc := 64) (c := 7) (L := 8) (b := 0) dX0_init_64 rfl (by decide) (by decide) ?_
  show Bv _ _ _ _ 65 [(2, 1), (0, 2), (0, 5)] [] _
  refine b_iinc (pc := 65) (lo' := [(2, 1), (0, 2), (0, 6)]) dX0_init_65 rfl (by decide) rfl (Nat.le_of_ble_eq_true rfl) rfl ?_
  refine b_goto (pc := 68) (tgt := 46) dX0_init_68 rfl ?_
  refine b_iloadn (pc := 46) dX0_init_46 rfl rfl ?_
  refine b_bipush (pc := 47) dX0_init_47 rfl (by decide) ?_
  refine b_icmp_ge (pc := 49) (tgt := 71) dX0_init_49 rfl (fun zh => absurd zh (by decide)) (fun _ => ?_)
  refine b_aloadn (pc := 52) dX0_init_52 rfl rfl ?_
  refine b_getr (pc := 53) (c := 1) (j := 3) (k := 4) dX0_init_53 fX0_23 rfl rfl (by decide) (by decide) (rfl) ?_
  show Bv _ _ _ _ 56 [(2, 1), (0, 2), (0, 6)] [(2, 4)] _
  refine b_iloadn (pc := 56) dX0_init_56 rfl rfl ?_
  refine b_aald (pc := 57) (c := 4) (L := 5) (b := 5) dX0_init_57 rfl (by decide) (by decide) ?_
  show Bv _ _ _ _ 58 [(2, 1), (0, 2), (0, 6)] [(2, 7)] _
  refine b_iloadn (pc := 58) dX0_init_58 rfl rfl ?_
  refine b_gets0 (pc := 59) rfl dX0_init_59 ?_
  show Bv _ _ _ _ 62 [(2, 1), (0, 2), (0, 6)] [(2, 78), (0, 6), (2, 7)] _
  refine b_iloadn (pc := 62) dX0_init_62 rfl rfl ?_
  refine b_siald (pc := 63) (k := 0) (i := 2) dX0_init_63 (by decide) (by decide) (by decide) ?_
  show Bv _ _ _ _ 64 [(2, 1), (0, 2), (0, 6)] [(0, 100), (0, 6), (2, 7)] _
  refine b_iast (pc := 64) (c := 7) (L := 8) (b := 0) dX0_init_64 rfl (by decide) (by decide) ?_
  show Bv _ _ _ _ 65 [(2, 1), (0, 2), (0, 6)] [] _
  refine b_iinc (pc := 65) (lo' := [(2, 1), (0, 2), (0, 7)]) dX0_init_65 rfl (by decide) rfl (Nat.le_of_ble_eq_true rfl) rfl ?_
  refine b_goto (pc := 68) (tgt := 46) dX0_init_68 rfl ?_
  refine b_iloadn (pc := 46) dX0_init_46 rfl rfl ?_
  refine b_bipush (pc := 47) dX0_init_47 rfl (by decide) ?_
  refine b_icmp_ge (pc := 49) (tgt := 71) dX0_init_49 rfl (fun zh => absurd zh (by decide)) (fun _ => ?_)
  refine b_aloadn (pc := 52) dX0_init_52 rfl rfl ?_
  refine b_getr (pc := 53) (c := 1) (j := 3) (k := 4) dX0_init_53 fX0_23 rfl rfl (by decide) (by decide) (rfl) ?_
  show Bv _ _ _ _ 56 [(2, 1), (0, 2), (0, 7)] [(2, 4)] _
  refine b_iloadn (pc := 56) dX0_init_56 rfl rfl ?_
  refine b_aald (pc := 57) (c := 4) (L := 5) (b := 5) dX0_init_57 rfl (by decide) (by decide) ?_
  show Bv _ _ _ _ 58 [(2, 1), (0, 2), (0, 7)] [(2, 7)] _
  refine b_iloadn (pc := 58) dX0_init_58 rfl rfl ?_
  refine b_gets0 (pc := 59) rfl dX0_init_59 ?_
  show Bv _ _ _ _ 62 [(2, 1), (0, 2), (0, 7)] [(2, 78), (0, 7), (2, 7)] _
  refine b_iloadn (pc := 62) dX0_init_62 rfl rfl ?_
  refine b_siald (pc := 63) (k := 0) (i := 2) dX0_init_63 (by decide) (by decide) (by decide) ?_
  show Bv _ _ _ _ 64 [(2, 1), (0, 2), (0, 7)] [(0, 100), (0, 7), (2, 7)] _
  refine b_iast (pc := 64) (c := 7) (L := 8) (b := 0) dX0_init_64 rfl (by decide) (by decide) ?_
  show Bv _ _ _ _ 65 [(2, 1), (0, 2), (0, 7)] [] _
  refine b_iinc (pc := 65) (lo' := [(2, 1), (0, 2), (0, 8)]) dX0_init_65 rfl (by decide) rfl (Nat.le_of_ble_eq_true rfl) rfl ?_
  refine b_goto (pc := 68) (tgt := 46) dX0_init_68 rfl ?_
  refine b_iloadn (pc := 46) dX0_init_46 rfl rfl ?_
  refine b_bipush (pc := 47) dX0_init_47 rfl (by decide) ?_
  refine b_icmp_ge (pc := 49) (tgt := 71) dX0_init_49 rfl (fun _ => ?_) (fun zh => absurd zh (by decide))
  refine b_iinc (pc := 71) (lo' := [(2, 1), (0, 3), (0, 8)]) dX0_init_71 rfl (by decide) rfl (Nat.le_of_ble_eq_true rfl) rfl ?_
  refine b_goto (pc := 74) (tgt := 36) dX0_init_74 rfl ?_
  refine b_iloadn (pc := 36) dX0_init_36 rfl rfl ?_
  refine b_gets0 (pc := 37) rfl dX0_init_37 ?_
  show Bv _ _ _ _ 40 [(2, 1), (0, 3), (0, 8)] [(2, 78), (0, 3)] _
  refine b_salen (pc := 40) (k := 0) dX0_init_40 (by decide) ?_
  show Bv _ _ _ _ 41 [(2, 1), (0, 3), (0, 8)] [(0, 5), (0, 3)] _
  refine b_icmp_ge (pc := 41) (tgt := 77) dX0_init_41 rfl (fun zh => absurd zh (by decide)) (fun _ => ?_)
  refine b_iconst (pc := 44) dX0_init_44 (by decide) ?_
  refine b_istoren (pc := 45) (lo' := [(2, 1), (0, 3), (0, 0)]) dX0_init_45 rfl rfl (Nat.le_of_ble_eq_true rfl) rfl ?_
  refine b_iloadn (pc := 46) dX0_init_46 rfl rfl ?_
  refine b_bipush (pc := 47) dX0_init_47 rfl (by decide) ?_
  refine b_icmp_ge (pc := 49) (tgt := 71) dX0_init_49 rfl (fun zh => absurd zh (by decide)) (fun _ => ?_)
  refine b_aloadn (pc := 52) dX0_init_52 rfl rfl ?_
  refine b_getr (pc := 53) (c := 1) (j := 3) (k := 4) dX0_init_53 fX0_23 rfl rfl (by decide) (by decide) (rfl) ?_
  show Bv _ _ _ _ 56 [(2, 1), (0, 3), (0, 0)] [(2, 4)] _
  refine b_iloadn (pc := 56) dX0_init_56 rfl rfl ?_
  refine b_aald (pc := 57) (c := 4) (L := 5) (b := 5) dX0_init_57 rfl (by decide) (by decide) ?_
  show Bv _ _ _ _ 58 [(2, 1), (0, 3), (0, 0)] [(2, 8)] _
  refine b_iloadn (pc := 58) dX0_init_58 rfl rfl ?_
  refine b_gets0 (pc := 59) rfl dX0_init_59 ?_
  show Bv _ _ _ _ 62 [(2, 1), (0, 3), (0, 0)] [(2, 78), (0, 0), (2, 8)] _
  refine b_iloadn (pc := 62) dX0_init_62 rfl rfl ?_
  refine b_siald (pc := 63) (k := 0) (i := 3) dX0_init_63 (by decide) (by decide) (by decide) ?_
  show Bv _ _ _ _ 64 [(2, 1), (0, 3), (0, 0)] [(0, 0), (0, 0), (2, 8)] _
  refine b_iast (pc := 64) (c := 8) (L := 8) (b := 0) dX0_init_64 rfl (by decide) (by decide) ?_
  show Bv _ _ _ _ 65 [(2, 1), (0, 3), (0, 0)] [] _
  refine b_iinc (pc := 65) (lo' := [(2, 1), (0, 3), (0, 1)]) dX0_init_65 rfl (by decide) rfl (Nat.le_of_ble_eq_true rfl) rfl ?_
  refine b_goto (pc := 68) (tgt := 46) dX0_init_68 rfl ?_
  refine b_iloadn (pc := 46) dX0_init_46 rfl rfl ?_
  refine b_bipush (pc := 47) dX0_init_47 rfl (by decide) ?_
  refine b_icmp_ge (pc := 49) (tgt := 71) dX0_init_49 rfl (fun zh => absurd zh (by decide)) (fun _ => ?_)
  refine b_aloadn (pc := 52) dX0_init_52 rfl rfl ?_
  refine b_getr (pc := 53) (c := 1) (j := 3) (k := 4) dX0_init_53 fX0_23 rfl rfl (by decide) (by decide) (rfl) ?_
  show Bv _ _ _ _ 56 [(2, 1), (0, 3), (0, 1)] [(2, 4)] _
  refine b_iloadn (pc := 56) dX0_init_56 rfl rfl ?_
  refine b_aald (pc := 57) (c := 4) (L := 5) (b := 5) dX0_init_57 rfl (by decide) (by decide) ?_
  show Bv _ _ _ _ 58 [(2, 1), (0, 3), (0, 1)] [(2, 8)] _
  refine b_iloadn (pc := 58) dX0_init_58 rfl rfl ?_
  refine b_gets0 (pc := 59) rfl dX0_init_59 ?_
  show Bv _ _ _ _ 62 [(2, 1), (0, 3), (0, 1)] [(2, 78), (0, 1), (2, 8)] _
  refine b_iloadn (pc := 62) dX0_init_62 rfl rfl ?_
  refine b_siald (pc := 63) (k := 0) (i := 3) dX0_init_63 (by decide) (by decide) (by decide) ?_
  show Bv _ _ _ _ 64 [(2, 1), (0, 3), (0, 1)] [(0, 0), (0, 1), (2, 8)] _
  refine b_iast (pc := 64) (c := 8) (L := 8) (b := 0) dX0_init_64 rfl (by decide) (by decide) ?_
  show Bv _ _ _ _ 65 [(2, 1), (0, 3), (0, 1)] [] _
  refine b_iinc (pc := 65) (lo' := [(2, 1), (0, 3), (0, 2)]) dX0_init_65 rfl (by decide) rfl (Nat.le_of_ble_eq_true rfl) rfl ?_
  refine b_goto (pc := 68) (tgt := 46) dX0_init_68 rfl ?_
  refine b_iloadn (pc := 46) dX0_init_46 rfl rfl ?_
  refine b_bipush (pc := 47) dX0_init_47 rfl (by decide) ?_
  refine b_icmp_ge (pc := 49) (tgt := 71) dX0_init_49 rfl (fun zh => absurd zh (by decide)) (fun _ => ?_)
  refine b_aloadn (pc := 52) dX0_init_52 rfl rfl ?_
  refine b_getr (pc := 53) (c := 1) (j := 3) (k := 4) dX0_init_53 fX0_23 rfl rfl (by decide) (by decide) (rfl) ?_
  show Bv _ _ _ _ 56 [(2, 1), (0, 3), (0, 2)] [(2, 4)] _
  refine b_iloadn (pc := 56) dX0_init_56 rfl rfl ?_
  refine b_aald (pc := 57) (c := 4) (L := 5) (b := 5) dX0_init_57 rfl (by decide) (by decide) ?_
  show Bv _ _ _ _ 58 [(2, 1), (0, 3), (0, 2)] [(2, 8)] _
  refine b_iloadn (pc := 58) dX0_init_58 rfl rfl ?_
  refine b_gets0 (pc := 59) rfl dX0_init_59 ?_
  show Bv _ _ _ _ 62 [(2, 1), (0, 3), (0, 2)] [(2, 78), (0, 2), (2, 8)] _
  refine b_iloadn (pc := 62) dX0_init_62 rfl rfl ?_
  refine b_siald (pc := 63) (k := 0) (i := 3) dX0_init_63 (by decide) (by decide) (by decide) ?_
  show Bv _ _ _ _ 64 [(2, 1), (0, 3), (0, 2)] [(0, 0), (0, 2), (2, 8)] _
  refine b_iast (pc := 64) (c := 8) (L := 8) (b := 0) dX0_init_64 rfl (by decide) (by decide) ?_
  show Bv _ _ _ _ 65 [(2, 1), (0, 3), (0, 2)] [] _
  refine b_iinc (pc := 65) (lo' := [(2, 1), (0, 3), (0, 3)]) dX0_init_65 rfl (by decide) rfl (Nat.le_of_ble_eq_true rfl) rfl ?_
  refine b_goto (pc := 68) (tgt := 46) dX0_init_68 rfl ?_
  refine b_iloadn (pc := 46) dX0_init_46 rfl rfl ?_
  refine b_bipush (pc := 47) dX0_init_47 rfl (by decide) ?_
  refine b_icmp_ge (pc := 49) (tgt := 71) dX0_init_49 rfl (fun zh => absurd zh (by decide)) (fun _ => ?_)
  refine b_aloadn (pc := 52) dX0_init_52 rfl rfl ?_
  refine b_getr (pc := 53) (c := 1) (j := 3) (k := 4) dX0_init_53 fX0_23 rfl rfl (by decide) (by decide) (rfl) ?_
  show Bv _ _ _ _ 56 [(2, 1), (0, 3), (0, 3)] [(2, 4)] _
  refine b_iloadn (pc := 56) dX0_init_56 rfl rfl ?_
  refine b_aald (pc := 57) (c := 4) (L := 5) (b := 5) dX0_init_57 rfl (by decide) (by decide) ?_
  show Bv _ _ _ _ 58 [(2, 1), (0, 3), (0, 3)] [(2, 8)] _
  refine b_iloadn (pc := 58) dX0_init_58 rfl rfl ?_
  refine b_gets0 (pc := 59) rfl dX0_init_59 ?_
  show Bv _ _ _ _ 62 [(2, 1), (0, 3), (0, 3)] [(2, 78), (0, 3), (2, 8)] _
  refine b_iloadn (pc := 62) dX0_init_62 rfl rfl ?_
  refine b_siald (pc := 63) (k := 0) (i := 3) dX0_init_63 (by decide) (by decide) (by decide) ?_
  show Bv _ _ _ _ 64 [(2, 1), (0, 3), (0, 3)] [(0, 0), (0, 3), (2, 8)] _
  refine b_iast (pc := 64) (c := 8) (L := 8) (b := 0) dX0_init_64 rfl (by decide) (by decide) ?_
  show Bv _ _ _ _ 65 [(2, 1), (0, 3), (0, 3)] [] _
  refine b_iinc (pc := 65) (lo' := [(2, 1), (0, 3), (0, 4)]) dX0_init_65 rfl (by decide) rfl (Nat.le_of_ble_eq_true rfl) rfl ?_
  refine b_goto (pc := 68) (tgt := 46) dX0_init_68 rfl ?_
  refine b_iloadn (pc := 46) dX0_init_46 rfl rfl ?_
  refine b_bipush (pc := 47) dX0_init_47 rfl (by decide) ?_
  refine b_icmp_ge (pc := 49) (tgt := 71) dX0_init_49 rfl (fun zh => absurd zh (by decide)) (fun _ => ?_)
  refine b_aloadn (pc := 52) dX0_init_52 rfl rfl ?_
  refine b_getr (pc := 53) (c := 1) (j := 3) (k := 4) dX0_init_53 fX0_23 rfl rfl (by decide) (by decide) (rfl) ?_
  show Bv _ _ _ _ 56 [(2, 1), (0, 3), (0, 4)] [(2, 4)] _
  refine b_iloadn (pc := 56) dX0_init_56 rfl rfl ?_
  refine b_aald (pc := 57) (c := 4) (L := 5) (b := 5) dX0_init_57 rfl (by decide) (by decide) ?_
  show Bv _ _ _ _ 58 [(2, 1), (0, 3), (0, 4)] [(2, 8)] _
  refine b_iloadn (pc := 58) dX0_init_58 rfl rfl ?_
  refine b_gets0 (pc := 59) rfl dX0_init_59 ?_
  show Bv _ _ _ _ 62 [(2, 1), (0, 3), (0, 4)] [(2, 78), (0, 4), (2, 8)] _
  refine b_iloadn (pc := 62) dX0_init_62 rfl rfl ?_
  refine b_siald (pc := 63) (k := 0) (i := 3) dX0_init_63 (by decide) (by decide) (by decide) ?_
  show Bv _ _ _ _ 64 [(2, 1), (0, 3), (0, 4)] [(0, 0), (0, 4), (2, 8)] _
  refine b_iast (pc := 64) (c := 8) (L := 8) (b := 0) dX0_init_64 rfl (by decide) (by decide) ?_
  show Bv _ _ _ _ 65 [(2, 1), (0, 3), (0, 4)] [] _
  refine b_iinc (pc := 65) (lo' := [(2, 1), (0, 3), (0, 5)]) dX0_init_65 rfl (by decide) rfl (Nat.le_of_ble_eq_true rfl) rfl ?_
  refine b_goto (pc := 68) (tgt := 46) dX0_init_68 rfl ?_
  refine b_iloadn (pc := 46) dX0_init_46 rfl rfl ?_
  refine b_bipush (pc := 47) dX0_init_47 rfl (by decide) ?_
  refine b_icmp_ge (pc := 49) (tgt := 71) dX0_init_49 rfl (fun zh => absurd zh (by decide)) (fun _ => ?_)
  refine b_aloadn (pc := 52) dX0_init_52 rfl rfl ?_
  refine b_getr (pc := 53) (c := 1) (j := 3) (k := 4) dX0_init_53 fX0_23 rfl rfl (by decide) (by decide) (rfl) ?_
  show Bv _ _ _ _ 56 [(2, 1), (0, 3), (0, 5)] [(2, 4)] _
  refine b_iloadn (pc := 56) dX0_init_56 rfl rfl ?_
  refine b_aald (pc := 57) (c := 4) (L := 5) (b := 5) dX0_init_57 rfl (by decide) (by decide) ?_
  show Bv _ _ _ _ 58 [(2, 1), (0, 3), (0, 5)] [(2, 8)] _
  refine b_iloadn (pc := 58) dX0_init_58 rfl rfl ?_
  refine b_gets0 (pc := 59) rfl dX0_init_59 ?_
  show Bv _ _ _ _ 62 [(2, 1), (0, 3), (0, 5)] [(2, 78), (0, 5), (2, 8)] _
  refine b_iloadn (pc := 62) dX0_init_62 rfl rfl ?_
  refine b_siald (pc := 63) (k := 0) (i := 3) dX0_init_63 (by decide) (by decide) (by decide) ?_
  show Bv _ _ _ _ 64 [(2, 1), (0, 3), (0, 5)] [(0, 0), (0, 5), (2, 8)] _
  refine b_iast (pc := 64) (c := 8) (L := 8) (b := 0) dX0_init_64 rfl (by decide) (by decide) ?_
  show Bv _ _ _ _ 65 [(2, 1), (0, 3), (0, 5)] [] _
  refine b_iinc (pc := 65) (lo' := [(2, 1), (0, 3), (0, 6)]) dX0_init_65 rfl (by decide) rfl (Nat.le_of_ble_eq_true rfl) rfl ?_
  refine b_goto (pc := 68) (tgt := 46) dX0_init_68 rfl ?_
  refine b_iloadn (pc := 46) dX0_init_46 rfl rfl ?_
  refine b_bipush (pc := 47) dX0_init_47 rfl (by decide) ?_
  refine b_icmp_ge (pc := 49) (tgt := 71) dX0_init_49 rfl (fun zh => absurd zh (by decide)) (fun _ => ?_)
  refine b_aloadn (pc := 52) dX0_init_52 rfl rfl ?_
  refine b_getr (pc := 53) (c := 1) (j := 3) (k := 4) dX0_init_53 fX0_23 rfl rfl (by decide) (by decide) (rfl) ?_
  show Bv _ _ _ _ 56 [(2, 1), (0, 3), (0, 6)] [(2, 4)] _
  refine b_iloadn (pc := 56) dX0_init_56 rfl rfl ?_
  refine b_aald (pc := 57) (c := 4) (L := 5) (b := 5) dX0_init_57 rfl (by decide) (by decide) ?_
  show Bv _ _ _ _ 58 [(2, 1), (0, 3), (0, 6)] [(2, 8)] _
  refine b_iloadn (pc := 58) dX0_init_58 rfl rfl ?_
  refine b_gets0 (pc := 59) rfl dX0_init_59 ?_
  show Bv _ _ _ _ 62 [(2, 1), (0, 3), (0, 6)] [(2, 78), (0, 6), (2, 8)] _
  refine b_iloadn (pc := 62) dX0_init_62 rfl rfl ?_
  refine b_siald (pc := 63) (k := 0) (i := 3) dX0_init_63 (by decide) (by decide) (by decide) ?_
  show Bv _ _ _ _ 64 [(2, 1), (0, 3), (0, 6)] [(0, 0), (0, 6), (2, 8)] _
  refine b_iast (pc := 64) (c := 8) (L := 8) (b := 0) dX0_init_64 rfl (by decide) (by decide) ?_
  show Bv _ _ _ _ 65 [(2, 1), (0, 3), (0, 6)] [] _
  refine b_iinc (pc := 65) (lo' := [(2, 1), (0, 3), (0, 7)]) dX0_init_65 rfl (by decide) rfl (Nat.le_of_ble_eq_true rfl) rfl ?_
  refine b_goto (pc := 68) (tgt := 46) dX0_init_68 rfl ?_
  refine b_iloadn (pc := 46) dX0_init_46 rfl rfl ?_
  refine b_bipush (pc := 47) dX0_init_47 rfl (by decide) ?_
  refine b_icmp_ge (pc := 49) (tgt := 71) dX0_init_49 rfl (fun zh => absurd zh (by decide)) (fun _ => ?_)
  refine b_aloadn (pc := 52) dX0_init_52 rfl rfl ?_
  refine b_getr (pc := 53) (c := 1) (j := 3) (k := 4) dX0_init_53 fX0_23 rfl rfl (by decide) (by decide) (rfl) ?_
  show Bv _ _ _ _ 56 [(2, 1), (0, 3), (0, 7)] [(2, 4)] _
  refine b_iloadn (pc := 56) dX0_init_56 rfl rfl ?_
  refine b_aald (pc := 57) (c := 4) (L := 5) (b := 5) dX0_init_57 rfl (by decide) (by decide) ?_
  show Bv _ _ _ _ 58 [(2, 1), (0, 3), (0, 7)] [(2, 8)] _
  refine b_iloadn (pc := 58) dX0_init_58 rfl rfl ?_
  refine b_gets0 (pc := 59) rfl dX0_init_59 ?_
  show Bv _ _ _ _ 62 [(2, 1), (0, 3), (0, 7)] [(2, 78), (0, 7), (2, 8)] _
  refine b_iloadn (pc := 62) dX0_init_62 rfl rfl ?_
  refine b_siald (pc := 63) (k := 0) (i := 3) dX0_init_63 (by decide) (by decide) (by decide) ?_
  show Bv _ _ _ _ 64 [(2, 1), (0, 3), (0, 7)] [(0, 0), (0, 7), (2, 8)] _
  refine b_iast (pc := 64) (c := 8) (L := 8) (b := 0) dX0_init_64 rfl (by decide) (by decide) ?_
  show Bv _ _ _ _ 65 [(2, 1), (0, 3), (0, 7)] [] _
  refine b_iinc (pc := 65) (lo' := [(2, 1), (0, 3), (0, 8)]) dX0_init_65 rfl (by decide) rfl (Nat.le_of_ble_eq_true rfl) rfl ?_
  refine b_goto (pc := 68) (tgt := 46) dX0_init_68 rfl ?_
  refine b_iloadn (pc := 46) dX0_init_46 rfl rfl ?_
  refine b_bipush (pc := 47) dX0_init_47 rfl (by decide) ?_
  refine b_icmp_ge (pc := 49) (tgt := 71) dX0_init_49 rfl (fun _ => ?_) (fun zh => absurd zh (by decide))
  refine b_iinc (pc := 71) (lo' := [(2, 1), (0, 4), (0, 8)]) dX0_init_71 rfl (by decide) rfl (Nat.le_of_ble_eq_true rfl) rfl ?_
  refine b_goto (pc := 74) (tgt := 36) dX0_init_74 rfl ?_
  refine b_iloadn (pc := 36) dX0_init_36 rfl rfl ?_
  refine b_gets0 (pc := 37) rfl dX0_init_37 ?_
  show Bv _ _ _ _ 40 [(2, 1), (0, 4), (0, 8)] [(2, 78), (0, 4)] _
  refine b_salen (pc := 40) (k := 0) dX0_init_40 (by decide) ?_
  show Bv _ _ _ _ 41 [(2, 1), (0, 4), (0, 8)] [(0, 5), (0, 4)] _
  refine b_icmp_ge (pc := 41) (tgt := 77) dX0_init_41 rfl (fun zh => absurd zh (by decide)) (fun _ => ?_)
  refine b_iconst (pc := 44) dX0_init_44 (by decide) ?_
  refine b_istoren (pc := 45) (lo' := [(2, 1), (0, 4), (0, 0)]) dX0_init_45 rfl rfl (Nat.le_of_ble_eq_true rfl) rfl ?_
  refine b_iloadn (pc := 46) dX0_init_46 rfl rfl ?_
  refine b_bipush (pc := 47) dX0_init_47 rfl (by decide) ?_
  refine b_icmp_ge (pc := 49) (tgt := 71) dX0_init_49 rfl (fun zh => absurd zh (by decide)) (fun _ => ?_)
  refine b_aloadn (pc := 52) dX0_init_52 rfl rfl ?_
  refine b_getr (pc := 53) (c := 1) (j := 3) (k := 4) dX0_init_53 fX0_23 rfl rfl (by decide) (by decide) (rfl) ?_
  show Bv _ _ _ _ 56 [(2, 1), (0, 4), (0, 0)] [(2, 4)] _
  refine b_iloadn (pc := 56) dX0_init_56 rfl rfl ?_
  refine b_aald (pc := 57) (c := 4) (L := 5) (b := 5) dX0_init_57 rfl (by decide) (by decide) ?_
  show Bv _ _ _ _ 58 [(2, 1), (0, 4), (0, 0)] [(2, 9)] _
  refine b_iloadn (pc := 58) dX0_init_58 rfl rfl ?_
  refine b_gets0 (pc := 59) rfl dX0_init_59 ?_
  show Bv _ _ _ _ 62 [(2, 1), (0, 4), (0, 0)] [(2, 78), (0, 0), (2, 9)] _
  refine b_iloadn (pc := 62) dX0_init_62 rfl rfl ?_
  refine b_siald (pc := 63) (k := 0) (i := 4) dX0_init_63 (by decide) (by decide) (by decide) ?_
  show Bv _ _ _ _ 64 [(2, 1), (0, 4), (0, 0)] [(0, 5), (0, 0), (2, 9)] _
  refine b_iast (pc := 64) (c := 9) (L := 8) (b := 0) dX0_init_64 rfl (by decide) (by decide) ?_
  show Bv _ _ _ _ 65 [(2, 1), (0, 4), (0, 0)] [] _
  refine b_iinc (pc := 65) (lo' := [(2, 1), (0, 4), (0, 1)]) dX0_init_65 rfl (by decide) rfl (Nat.le_of_ble_eq_true rfl) rfl ?_
  refine b_goto (pc := 68) (tgt := 46) dX0_init_68 rfl ?_
  refine b_iloadn (pc := 46) dX0_init_46 rfl rfl ?_
  refine b_bipush (pc := 47) dX0_init_47 rfl (by decide) ?_
  refine b_icmp_ge (pc := 49) (tgt := 71) dX0_init_49 rfl (fun zh => absurd zh (by decide)) (fun _ => ?_)
  refine b_aloadn (pc := 52) dX0_init_52 rfl rfl ?_
  refine b_getr (pc := 53) (c := 1) (j := 3) (k := 4) dX0_init_53 fX0_23 rfl rfl (by decide) (by decide) (rfl) ?_
  show Bv _ _ _ _ 56 [(2, 1), (0, 4), (0, 1)] [(2, 4)] _
  refine b_iloadn (pc := 56) dX0_init_56 rfl rfl ?_
  refine b_aald (pc := 57) (c := 4) (L := 5) (b := 5) dX0_init_57 rfl (by decide) (by decide) ?_
  show Bv _ _ _ _ 58 [(2, 1), (0, 4), (0, 1)] [(2, 9)] _
  refine b_iloadn (pc := 58) dX0_init_58 rfl rfl ?_
  refine b_gets0 (pc := 59) rfl dX0_init_59 ?_
  show Bv _ _ _ _ 62 [(2, 1), (0, 4), (0, 1)] [(2, 78), (0, 1), (2, 9)] _
  refine b_iloadn (pc := 62) dX0_init_62 rfl rfl ?_
  refine b_siald (pc := 63) (k := 0) (i := 4) dX0_init_63 (by decide) (by decide) (by decide) ?_
  show Bv _ _ _ _ 64 [(2, 1), (0, 4), (0, 1)] [(0, 5), (0, 1), (2, 9)] _
  refine b_iast (pc := 64) (c := 9) (L := 8) (b := 0) dX0_init_64 rfl (by decide) (by decide) ?_
  show Bv _ _ _ _ 65 [(2, 1), (0, 4), (0, 1)] [] _
  refine b_iinc (pc := 65) (lo' := [(2, 1), (0, 4), (0, 2)]) dX0_init_65 rfl (by decide) rfl (Nat.le_of_ble_eq_true rfl) rfl ?_
  refine b_goto (pc := 68) (tgt := 46) dX0_init_68 rfl ?_
  refine b_iloadn (pc := 46) dX0_init_46 rfl rfl ?_
  refine b_bipush (pc := 47) dX0_init_47 rfl (by decide) ?_
  refine b_icmp_ge (pc := 49) (tgt := 71) dX0_init_49 rfl (fun zh => absurd zh (by decide)) (fun _ => ?_)
  refine b_aloadn (pc := 52) dX0_init_52 rfl rfl ?_
  refine b_getr (pc := 53) (c := 1) (j := 3) (k := 4) dX0_init_53 fX0_23 rfl rfl (by decide) (by decide) (rfl) ?_
  show Bv _ _ _ _ 56 [(2, 1), (0, 4), (0, 2)] [(2, 4)] _
  refine b_iloadn (pc := 56) dX0_init_56 rfl rfl ?_
  refine b_aald (pc := 57) (c := 4) (L := 5) (b := 5) dX0_init_57 rfl (by decide) (by decide) ?_
  show Bv _ _ _ _ 58 [(2, 1), (0, 4), (0, 2)] [(2, 9)] _
  refine b_iloadn (pc := 58) dX0_init_58 rfl rfl ?_
  refine b_gets0 (pc := 59) rfl dX0_init_59 ?_
  show Bv _ _ _ _ 62 [(2, 1), (0, 4), (0, 2)] [(2, 78), (0, 2), (2, 9)] _
  refine b_iloadn (pc := 62) dX0_init_62 rfl rfl ?_
  refine b_siald (pc := 63) (k := 0) (i := 4) dX0_init_63 (by decide) (by decide) (by decide) ?_
  show Bv _ _ _ _ 64 [(2, 1), (0, 4), (0, 2)] [(0, 5), (0, 2), (2, 9)] _
  refine b_iast (pc := 64) (c := 9) (L := 8) (b := 0) dX0_init_64 rfl (by decide) (by decide) ?_
  show Bv _ _ _ _ 65 [(2, 1), (0, 4), (0, 2)] [] _
  refine b_iinc (pc := 65) (lo' := [(2, 1), (0, 4), (0, 3)]) dX0_init_65 rfl (by decide) rfl (Nat.le_of_ble_eq_true rfl) rfl ?_
  refine b_goto (pc := 68) (tgt := 46) dX0_init_68 rfl ?_
  refine b_iloadn (pc := 46) dX0_init_46 rfl rfl ?_
  refine b_bipush (pc := 47) dX0_init_47 rfl (by decide) ?_
  refine b_icmp_ge (pc := 49) (tgt := 71) dX0_init_49 rfl (fun zh => absurd zh (by decide)) (fun _ => ?_)
  refine b_aloadn (pc := 52) dX0_init_52 rfl rfl ?_
  refine b_getr (pc := 53) (c := 1) (j := 3) (k := 4) dX0_init_53 fX0_23 rfl rfl (by decide) (by decide) (rfl) ?_
  show Bv _ _ _ _ 56 [(2, 1), (0, 4), (0, 3)] [(2, 4)] _
  refine b_iloadn (pc := 56) dX0_init_56 rfl rfl ?_
  refine b_aald (pc := 57) (c := 4) (L := 5) (b := 5) dX0_init_57 rfl (by decide) (by decide) ?_
  show Bv _ _ _ _ 58 [(2, 1), (0, 4), (0, 3)] [(2, 9)] _
  refine b_iloadn (pc := 58) dX0_init_58 rfl rfl ?_
  refine b_gets0 (pc := 59) rfl dX0_init_59 ?_
  show Bv _ _ _ _ 62 [(2, 1), (0, 4), (0, 3)] [(2, 78), (0, 3), (2, 9)] _
  refine b_iloadn (pc := 62) dX0_init_62 rfl rfl ?_
  refine b_siald (pc := 63) (k := 0) (i := 4) dX0_init_63 (by decide) (by decide) (by decide) ?_
  show Bv _ _ _ _ 64 [(2, 1), (0, 4), (0, 3)] [(0, 5), (0, 3), (2, 9)] _
  refine b_iast (pc := 64) (c := 9) (L := 8) (b := 0) dX0_init_64 rfl (by decide) (by decide) ?_
  show Bv _ _ _ _ 65 [(2, 1), (0, 4), (0, 3)] [] _
  refine b_iinc (pc := 65) (lo' := [(2, 1), (0, 4), (0, 4)]) dX0_init_65 rfl (by decide) rfl (Nat.le_of_ble_eq_true rfl) rfl ?_
  refine b_goto (pc := 68) (tgt := 46) dX0_init_68 rfl ?_
  refine b_iloadn (pc := 46) dX0_init_46 rfl rfl ?_
  refine b_bipush (pc := 47) dX0_init_47 rfl (by decide) ?_
  refine b_icmp_ge (pc := 49) (tgt := 71) dX0_init_49 rfl (fun zh => absurd zh (by decide)) (fun _ => ?_)
  refine b_aloadn (pc := 52) dX0_init_52 rfl rfl ?_
  refine b_getr (pc := 53) (c := 1) (j := 3) (k := 4) dX0_init_53 fX0_23 rfl rfl (by decide) (by decide) (rfl) ?_
  show Bv _ _ _ _ 56 [(2, 1), (0, 4), (0, 4)] [(2, 4)] _
  refine b_iloadn (pc := 56) dX0_init_56 rfl rfl ?_
  refine b_aald (pc := 57) (c := 4) (L := 5) (b := 5) dX0_init_57 rfl (by decide) (by decide) ?_
  show Bv _ _ _ _ 58 [(2, 1), (0, 4), (0, 4)] [(2, 9)] _
  refine b_iloadn (pc := 58) dX0_init_58 rfl rfl ?_
  refine b_gets0 (pc := 59) rfl dX0_init_59 ?_
  show Bv _ _ _ _ 62 [(2, 1), (0, 4), (0, 4)] [(2, 78), (0, 4), (2, 9)] _
  refine b_iloadn (pc := 62) dX0_init_62 rfl rfl ?_
  refine b_siald (pc := 63) (k := 0) (i := 4) dX0_init_63 (by decide) (by decide) (by decide) ?_
  show Bv _ _ _ _ 64 [(2, 1), (0, 4), (0, 4)] [(0, 5), (0, 4), (2, 9)] _
  refine b_iast (pc := 64) (c := 9) (L := 8) (b := 0) dX0_init_64 rfl (by decide) (by decide) ?_
  show Bv _ _ _ _ 65 [(2, 1), (0, 4), (0, 4)] [] _
  refine b_iinc (pc := 65) (lo' := [(2, 1), (0, 4), (0, 5)]) dX0_init_65 rfl (by decide) rfl (Nat.le_of_ble_eq_true rfl) rfl ?_
  refine b_goto (pc := 68) (tgt := 46) dX0_init_68 rfl ?_
  refine b_iloadn (pc := 46) dX0_init_46 rfl rfl ?_
  refine b_bipush (pc := 47) dX0_init_47 rfl (by decide) ?_
  refine b_icmp_ge (pc := 49) (tgt := 71) dX0_init_49 rfl (fun zh => absurd zh (by decide)) (fun _ => ?_)
  refine b_aloadn (pc := 52) dX0_init_52 rfl rfl ?_
  refine b_getr (pc := 53) (c := 1) (j := 3) (k := 4) dX0_init_53 fX0_23 rfl rfl (by decide) (by decide) (rfl) ?_
  show Bv _ _ _ _ 56 [(2, 1), (0, 4), (0, 5)] [(2, 4)] _
  refine b_iloadn (pc := 56) dX0_init_56 rfl rfl ?_
  refine b_aald (pc := 57) (c := 4) (L := 5) (b := 5) dX0_init_57 rfl (by decide) (by decide) ?_
  show Bv _ _ _ _ 58 [(2, 1), (0, 4), (0, 5)] [(2, 9)] _
  refine b_iloadn (pc := 58) dX0_init_58 rfl rfl ?_
  refine b_gets0 (pc := 59) rfl dX0_init_59 ?_
  show Bv _ _ _ _ 62 [(2, 1), (0, 4), (0, 5)] [(2, 78), (0, 5), (2, 9)] _
  refine b_iloadn (pc := 62) dX0_init_62 rfl rfl ?_
  refine b_siald (pc := 63) (k := 0) (i := 4) dX0_init_63 (by decide) (by decide) (by decide) ?_
  show Bv _ _ _ _ 64 [(2, 1), (0, 4), (0, 5)] [(0, 5), (0, 5), (2, 9)] _
  refine b_iast (pc := 64) (c := 9) (L := 8) (b := 0) dX0_init_64 rfl (by decide) (by decide) ?_
  show Bv _ _ _ _ 65 [(2, 1), (0, 4), (0, 5)] [] _
  refine b_iinc (pc := 65) (lo' := [(2, 1), (0, 4), (0, 6)]) dX0_init_65 rfl (by decide) rfl (Nat.le_of_ble_eq_true rfl) rfl ?_
  refine b_goto (pc := 68) (tgt := 46) dX0_init_68 rfl ?_
  refine b_iloadn (pc := 46) dX0_init_46 rfl rfl ?_
  refine b_bipush (pc := 47) dX0_init_47 rfl (by decide) ?_
  refine b_icmp_ge (pc := 49) (tgt := 71) dX0_init_49 rfl (fun zh => absurd zh (by decide)) (fun _ => ?_)
  refine b_aloadn (pc := 52) dX0_init_52 rfl rfl ?_
  refine b_getr (pc := 53) (c := 1) (j := 3) (k := 4) dX0_init_53 fX0_23 rfl rfl (by decide) (by decide) (rfl) ?_
  show Bv _ _ _ _ 56 [(2, 1), (0, 4), (0, 6)] [(2, 4)] _
  refine b_iloadn (pc := 56) dX0_init_56 rfl rfl ?_
  refine b_aald (pc := 57) (c := 4) (L := 5) (b := 5) dX0_init_57 rfl (by decide) (by decide) ?_
  show Bv _ _ _ _ 58 [(2, 1), (0, 4), (0, 6)] [(2, 9)] _
  refine b_iloadn (pc := 58) dX0_init_58 rfl rfl ?_
  refine b_gets0 (pc := 59) rfl dX0_init_59 ?_
  show Bv _ _ _ _ 62 [(2, 1), (0, 4), (0, 6)] [(2, 78), (0, 6), (2, 9)] _
  refine b_iloadn (pc := 62) dX0_init_62 rfl rfl ?_
  refine b_siald (pc := 63) (k := 0) (i := 4) dX0_init_63 (by decide) (by decide) (by decide) ?_
  show Bv _ _ _ _ 64 [(2, 1), (0, 4), (0, 6)] [(0, 5), (0, 6), (2, 9)] _
  refine b_iast (pc := 64) (c := 9) (L := 8) (b := 0) dX0_init_64 rfl (by decide) (by decide) ?_
  show Bv _ _ _ _ 65 [(2, 1), (0, 4), (0, 6)] [] _
  refine b_iinc (pc := 65) (lo' := [(2, 1), (0, 4), (0, 7)]) dX0_init_65 rfl (by decide) rfl (Nat.le_of_ble_eq_true rfl) rfl ?_
  refine b_goto (pc := 68) (tgt := 46) dX0_init_68 rfl ?_
  refine b_iloadn (pc := 46) dX0_init_46 rfl rfl ?_
  refine b_bipush (pc := 47) dX0_init_47 rfl (by decide) ?_
  refine b_icmp_ge (pc := 49) (tgt := 71) dX0_init_49 rfl (fun zh => absurd zh (by decide)) (fun _ => ?_)
  refine b_aloadn (pc := 52) dX0_init_52 rfl rfl ?_
  refine b_getr (pc := 53) (c := 1) (j := 3) (k := 4) dX0_init_53 fX0_23 rfl rfl (by decide) (by decide) (rfl) ?_
  show Bv _ _ _ _ 56 [(2, 1), (0, 4), (0, 7)] [(2, 4)] _
  refine b_iloadn (pc := 56) dX0_init_56 rfl rfl ?_
  refine b_aald (pc := 57) (c := 4) (L := 5) (b := 5) dX0_init_57 rfl (by decide) (by decide) ?_
  show Bv _ _ _ _ 58 [(2, 1), (0, 4), (0, 7)] [(2, 9)] _
  refine b_iloadn (pc := 58) dX0_init_58 rfl rfl ?_
  refine b_gets0 (pc := 59) rfl dX0_init_59 ?_
  show Bv _ _ _ _ 62 [(2, 1), (0, 4), (0, 7)] [(2, 78), (0, 7), (2, 9)] _
  refine b_iloadn (pc := 62) dX0_init_62 rfl rfl ?_
  refine b_siald (pc := 63) (k := 0) (i := 4) dX0_init_63 (by decide) (by decide) (by decide) ?_
  show Bv _ _ _ _ 64 [(2, 1), (0, 4), (0, 7)] [(0, 5), (0, 7), (2, 9)] _
  refine b_iast (pc := 64) (c := 9) (L := 8) (b := 0) dX0_init_64 rfl (by decide) (by decide) ?_
  show Bv _ _ _ _ 65 [(2, 1), (0, 4), (0, 7)] [] _
  refine b_iinc (pc := 65) (lo' := [(2, 1), (0, 4), (0, 8)]) dX0_init_65 rfl (by decide) rfl (Nat.le_of_ble_eq_true rfl) rfl ?_
  refine b_goto (pc := 68) (tgt := 46) dX0_init_68 rfl ?_
  refine b_iloadn (pc := 46) dX0_init_46 rfl rfl ?_
  refine b_bipush (pc := 47) dX0_init_47 rfl (by decide) ?_
  refine b_icmp_ge (pc := 49) (tgt := 71) dX0_init_49 rfl (fun _ => ?_) (fun zh => absurd zh (by decide))
  refine b_iinc (pc := 71) (lo' := [(2, 1), (0, 5), (0, 8)]) dX0_init_71 rfl (by decide) rfl (Nat.le_of_ble_eq_true rfl) rfl ?_
  refine b_goto (pc := 74) (tgt := 36) dX0_init_74 rfl ?_
  refine b_iloadn (pc := 36) dX0_init_36 rfl rfl ?_
  refine b_gets0 (pc := 37) rfl dX0_init_37 ?_
  show Bv _ _ _ _ 40 [(2, 1), (0, 5), (0, 8)] [(2, 78), (0, 5)] _
  refine b_salen (pc := 40) (k := 0) dX0_init_40 (by decide) ?_
  show Bv _ _ _ _ 41 [(2, 1), (0, 5), (0, 8)] [(0, 5), (0, 5)] _
  refine b_icmp_ge (pc := 41) (tgt := 77) dX0_init_41 rfl (fun _ => ?_) (fun zh => absurd zh (by decide))
  exact b_ret (pc := 77) dX0_init_77 rfl rfl rfl rfl rfl
