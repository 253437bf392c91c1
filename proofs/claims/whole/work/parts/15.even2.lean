-- what the evening and the company hold
def CoOk (mem : Mem) : Prop := ∀ c, c < 8 → (0 ≤ mem 5 c ∧ mem 5 c ≤ 99) ∧ (0 ≤ mem 6 c ∧ mem 6 c ≤ 99) ∧ (0 ≤ mem 7 c ∧ mem 7 c ≤ 999) ∧ (0 ≤ mem 8 c ∧ mem 8 c ≤ 15) ∧ (1 ≤ mem 9 c ∧ mem 9 c ≤ 30) ∧ (0 ≤ mem 2 c ∧ mem 2 c ≤ 30) ∧ (0 ≤ mem 3 c ∧ mem 3 c ≤ 7)
def EvR (tm kd am : Nat → Int) (lt aw : Int) (lag seen : Nat → Int) : Prop := ((0 ≤ tm 0 ∧ tm 0 ≤ 59) ∧ (0 ≤ tm 1 ∧ tm 1 ≤ 99) ∧ (0 ≤ tm 2 ∧ tm 2 ≤ 99) ∧ (0 ≤ lt ∧ lt < 256) ∧ (0 ≤ aw ∧ aw < 256)) ∧ ∀ c, c < 8 → (-1 ≤ kd c ∧ kd c ≤ 2) ∧ (0 ≤ am c ∧ am c ≤ 60) ∧ (kd c = 2 → 1 ≤ lag c ∧ 1 ≤ seen c)
def EvOk16 (mem : Mem) : Prop := EvR (mem 17) (mem 18) (mem 19) (mem 16 4) (mem 16 5) (mem 2) (mem 3)
def EvOk25 (mem : Mem) : Prop := EvR (mem 26) (mem 27) (mem 28) (mem 25 4) (mem 25 5) (mem 2) (mem 3)
def firmV (kind aim : Nat → Int) (told late : Int) (dl : Nat → Int) (c : Nat) : Int :=
  if (if kind c = 0 then aim c else told) + (if bt late c = 1 then dl c else 0) < 60 then (if kind c = 0 then aim c else told) + (if bt late c = 1 then dl c else 0) else 60
def priceV (wait late miss : Nat → Int) (told fine food : Int) (c : Nat) (minute start : Int) : Int :=
  if 60 ≤ minute then miss c else (if start < minute then late c * (minute - start) else wait c * (start - minute) - (if start < 60 then food else 0)) + (if told < minute then fine else 0)
theorem mulI {a b : Int} (ha : 0 ≤ a ∧ a ≤ 99) (hb : 0 ≤ b ∧ b ≤ 60) : 0 ≤ a * b ∧ a * b ≤ 5940 := by
  constructor
  · exact Int.mul_nonneg ha.1 hb.1
  · have h1 := Int.mul_le_mul_of_nonneg_right ha.2 hb.1
    omega

theorem t_firmMinute_16 (G : Gm) (mem : Mem) (c : Nat) (hc : c < 8) (hC : CoOk mem) (hE : EvOk16 mem) : Con G mX1_firmMinute [(2, 16), (0, (c : Int))] mem (fun r m' => r = some (0, firmV (mem 18) (mem 19) (mem 17 0) (mem 16 4) (mem 9) c) ∧ m' = mem) := by
  refine Con.of (lo := [(2, 16), (0, (c : Int)), (3, 0)]) (by decide +kernel) (Nat.le_of_ble_eq_true rfl) rfl ?_
  generalize hQ_ : (fun r m' => r = some (0, firmV (mem 18) (mem 19) (mem 17 0) (mem 16 4) (mem 9) c) ∧ m' = mem : Option AV → Mem → Prop) = Q_
  unfold EvOk16 EvR at hE
  obtain ⟨⟨htold, hfine, hfood, hlate, haway⟩, hev⟩ := hE
  obtain ⟨hk, ha, hl⟩ := hev c hc
  obtain ⟨_, _, _, _, hd, _, _⟩ := hC c hc
  have hbt := bt_01 (mem 16 4) c
  refine e_aloadn (pc := 0) dX1_firmMinute_0 rfl rfl ?_
  refine e_getr (pc := 1) (k := 18) dX1_firmMinute_1 fX1_18 s_16 rfl (by decide) ?_
  refine e_iloadn (pc := 4) dX1_firmMinute_4 rfl rfl ?_
  refine e_ialdv (pc := 5) (v := mem 18 c) dX1_firmMinute_5 s_18 (by omega) rfl ?_
  refine e_if_ne (pc := 6) (tgt := 18) dX1_firmMinute_6 rfl (fun h6 => ?_) (fun h6 => ?_)
  · skip
    refine e_aloadn (pc := 18) dX1_firmMinute_18 rfl rfl ?_
    refine e_getr (pc := 19) (k := 17) dX1_firmMinute_19 fX1_13 s_16 rfl (by decide) ?_
    refine e_iconst (pc := 22) dX1_firmMinute_22 (by decide) ?_
    refine e_ialdv (pc := 23) (v := mem 17 0) dX1_firmMinute_23 s_17 (by omega) rfl ?_
    refine e_istoren (pc := 24) (lo' := [(2, 16), (0, (c : Int)), (0, mem 17 0)]) dX1_firmMinute_24 rfl rfl (by decide) rfl ?_
    refine e_aloadn (pc := 25) dX1_firmMinute_25 rfl rfl ?_
    refine e_getiv (pc := 26) (v := mem 16 4) dX1_firmMinute_26 fX1_53 s_16 rfl (by decide) rfl ?_
    refine e_iloadn (pc := 29) dX1_firmMinute_29 rfl rfl ?_
    refine e_ishr (pc := 30) dX1_firmMinute_30 ?_
    refine e_iconst (pc := 31) dX1_firmMinute_31 (by decide) ?_
    refine e_iand (pc := 32) dX1_firmMinute_32 ?_
    rw [show bAnd (bShr (mem 16 4) (c : Int)) 1 = bt (mem 16 4) c from bt_eq hlate.1 (by omega) (by omega)]
    refine e_if_eq (pc := 33) (tgt := 50) dX1_firmMinute_33 rfl (fun h33 => ?_) (fun h33 => ?_)
    · skip
      refine e_iloadn (pc := 50) dX1_firmMinute_50 rfl rfl ?_
      refine e_bipush (pc := 51) dX1_firmMinute_51 rfl (by decide) ?_
      refine e_icmp_ge (pc := 53) (tgt := 60) dX1_firmMinute_53 rfl (fun h53 => ?_) (fun h53 => ?_)
      · skip
        refine e_bipush (pc := 60) dX1_firmMinute_60 rfl (by decide) ?_
        have hr : firmV (mem 18) (mem 19) (mem 17 0) (mem 16 4) (mem 9) c = 60 := by
          unfold firmV
          (repeat' split) <;> omega
        exact e_iret (pc := 62) dX1_firmMinute_62 rfl (by rw [← hQ_, hr]; exact ⟨rfl, rfl⟩)
      · skip
        refine e_iloadn (pc := 56) dX1_firmMinute_56 rfl rfl ?_
        refine e_goto (pc := 57) (tgt := 62) dX1_firmMinute_57 rfl ?_
        have hr : firmV (mem 18) (mem 19) (mem 17 0) (mem 16 4) (mem 9) c = mem 17 0 := by
          unfold firmV
          (repeat' split) <;> omega
        exact e_iret (pc := 62) dX1_firmMinute_62 rfl (by rw [← hQ_, hr]; exact ⟨rfl, rfl⟩)
    · skip
      refine e_iloadn (pc := 36) dX1_firmMinute_36 rfl rfl ?_
      refine e_aloadn (pc := 37) dX1_firmMinute_37 rfl rfl ?_
      refine e_getr (pc := 38) (k := 1) dX1_firmMinute_38 fX1_39 s_16 rfl (by decide) ?_
      refine e_getr (pc := 41) (k := 4) dX1_firmMinute_41 fX1_92 s_1 rfl (by decide) ?_
      refine e_iconst (pc := 44) dX1_firmMinute_44 (by decide) ?_
      refine e_aald (pc := 45) dX1_firmMinute_45 s_4 (by omega) ?_
      refine Ev.to (st' := [(2, 9), (0, mem 17 0)]) ?_ rfl rfl rfl
      refine e_iloadn (pc := 46) dX1_firmMinute_46 rfl rfl ?_
      refine e_ialdv (pc := 47) (v := mem 9 c) dX1_firmMinute_47 s_9 (by omega) rfl ?_
      refine e_iaddn (pc := 48) dX1_firmMinute_48 (by omega) ?_
      refine e_istoren (pc := 49) (lo' := [(2, 16), (0, (c : Int)), (0, (mem 17 0) + (mem 9 c))]) dX1_firmMinute_49 rfl rfl (by decide) rfl ?_
      refine e_iloadn (pc := 50) dX1_firmMinute_50 rfl rfl ?_
      refine e_bipush (pc := 51) dX1_firmMinute_51 rfl (by decide) ?_
      refine e_icmp_ge (pc := 53) (tgt := 60) dX1_firmMinute_53 rfl (fun h53 => ?_) (fun h53 => ?_)
      · skip
        refine e_bipush (pc := 60) dX1_firmMinute_60 rfl (by decide) ?_
        have hr : firmV (mem 18) (mem 19) (mem 17 0) (mem 16 4) (mem 9) c = 60 := by
          unfold firmV
          (repeat' split) <;> omega
        exact e_iret (pc := 62) dX1_firmMinute_62 rfl (by rw [← hQ_, hr]; exact ⟨rfl, rfl⟩)
      · skip
        refine e_iloadn (pc := 56) dX1_firmMinute_56 rfl rfl ?_
        refine e_goto (pc := 57) (tgt := 62) dX1_firmMinute_57 rfl ?_
        have hr : firmV (mem 18) (mem 19) (mem 17 0) (mem 16 4) (mem 9) c = (mem 17 0) + (mem 9 c) := by
          unfold firmV
          (repeat' split) <;> omega
        exact e_iret (pc := 62) dX1_firmMinute_62 rfl (by rw [← hQ_, hr]; exact ⟨rfl, rfl⟩)
  · skip
    refine e_aloadn (pc := 9) dX1_firmMinute_9 rfl rfl ?_
    refine e_getr (pc := 10) (k := 19) dX1_firmMinute_10 fX1_21 s_16 rfl (by decide) ?_
    refine e_iloadn (pc := 13) dX1_firmMinute_13 rfl rfl ?_
    refine e_ialdv (pc := 14) (v := mem 19 c) dX1_firmMinute_14 s_19 (by omega) rfl ?_
    refine e_goto (pc := 15) (tgt := 24) dX1_firmMinute_15 rfl ?_
    refine e_istoren (pc := 24) (lo' := [(2, 16), (0, (c : Int)), (0, mem 19 c)]) dX1_firmMinute_24 rfl rfl (by decide) rfl ?_
    refine e_aloadn (pc := 25) dX1_firmMinute_25 rfl rfl ?_
    refine e_getiv (pc := 26) (v := mem 16 4) dX1_firmMinute_26 fX1_53 s_16 rfl (by decide) rfl ?_
    refine e_iloadn (pc := 29) dX1_firmMinute_29 rfl rfl ?_
    refine e_ishr (pc := 30) dX1_firmMinute_30 ?_
    refine e_iconst (pc := 31) dX1_firmMinute_31 (by decide) ?_
    refine e_iand (pc := 32) dX1_firmMinute_32 ?_
    rw [show bAnd (bShr (mem 16 4) (c : Int)) 1 = bt (mem 16 4) c from bt_eq hlate.1 (by omega) (by omega)]
    refine e_if_eq (pc := 33) (tgt := 50) dX1_firmMinute_33 rfl (fun h33 => ?_) (fun h33 => ?_)
    · skip
      refine e_iloadn (pc := 50) dX1_firmMinute_50 rfl rfl ?_
      refine e_bipush (pc := 51) dX1_firmMinute_51 rfl (by decide) ?_
      refine e_icmp_ge (pc := 53) (tgt := 60) dX1_firmMinute_53 rfl (fun h53 => ?_) (fun h53 => ?_)
      · skip
        refine e_bipush (pc := 60) dX1_firmMinute_60 rfl (by decide) ?_
        have hr : firmV (mem 18) (mem 19) (mem 17 0) (mem 16 4) (mem 9) c = 60 := by
          unfold firmV
          (repeat' split) <;> omega
        exact e_iret (pc := 62) dX1_firmMinute_62 rfl (by rw [← hQ_, hr]; exact ⟨rfl, rfl⟩)
      · skip
        refine e_iloadn (pc := 56) dX1_firmMinute_56 rfl rfl ?_
        refine e_goto (pc := 57) (tgt := 62) dX1_firmMinute_57 rfl ?_
        have hr : firmV (mem 18) (mem 19) (mem 17 0) (mem 16 4) (mem 9) c = mem 19 c := by
          unfold firmV
          (repeat' split) <;> omega
        exact e_iret (pc := 62) dX1_firmMinute_62 rfl (by rw [← hQ_, hr]; exact ⟨rfl, rfl⟩)
    · skip
      refine e_iloadn (pc := 36) dX1_firmMinute_36 rfl rfl ?_
      refine e_aloadn (pc := 37) dX1_firmMinute_37 rfl rfl ?_
      refine e_getr (pc := 38) (k := 1) dX1_firmMinute_38 fX1_39 s_16 rfl (by decide) ?_
      refine e_getr (pc := 41) (k := 4) dX1_firmMinute_41 fX1_92 s_1 rfl (by decide) ?_
      refine e_iconst (pc := 44) dX1_firmMinute_44 (by decide) ?_
      refine e_aald (pc := 45) dX1_firmMinute_45 s_4 (by omega) ?_
      refine Ev.to (st' := [(2, 9), (0, mem 19 c)]) ?_ rfl rfl rfl
      refine e_iloadn (pc := 46) dX1_firmMinute_46 rfl rfl ?_
      refine e_ialdv (pc := 47) (v := mem 9 c) dX1_firmMinute_47 s_9 (by omega) rfl ?_
      refine e_iaddn (pc := 48) dX1_firmMinute_48 (by omega) ?_
      refine e_istoren (pc := 49) (lo' := [(2, 16), (0, (c : Int)), (0, (mem 19 c) + (mem 9 c))]) dX1_firmMinute_49 rfl rfl (by decide) rfl ?_
      refine e_iloadn (pc := 50) dX1_firmMinute_50 rfl rfl ?_
      refine e_bipush (pc := 51) dX1_firmMinute_51 rfl (by decide) ?_
      refine e_icmp_ge (pc := 53) (tgt := 60) dX1_firmMinute_53 rfl (fun h53 => ?_) (fun h53 => ?_)
      · skip
        refine e_bipush (pc := 60) dX1_firmMinute_60 rfl (by decide) ?_
        have hr : firmV (mem 18) (mem 19) (mem 17 0) (mem 16 4) (mem 9) c = 60 := by
          unfold firmV
          (repeat' split) <;> omega
        exact e_iret (pc := 62) dX1_firmMinute_62 rfl (by rw [← hQ_, hr]; exact ⟨rfl, rfl⟩)
      · skip
        refine e_iloadn (pc := 56) dX1_firmMinute_56 rfl rfl ?_
        refine e_goto (pc := 57) (tgt := 62) dX1_firmMinute_57 rfl ?_
        have hr : firmV (mem 18) (mem 19) (mem 17 0) (mem 16 4) (mem 9) c = (mem 19 c) + (mem 9 c) := by
          unfold firmV
          (repeat' split) <;> omega
        exact e_iret (pc := 62) dX1_firmMinute_62 rfl (by rw [← hQ_, hr]; exact ⟨rfl, rfl⟩)

theorem t_price_16 (G : Gm) (mem : Mem) (c : Nat) (minute start : Int) (hc : c < 8) (hm0 : 0 ≤ minute ∧ minute ≤ 60) (hs0 : 0 ≤ start ∧ start ≤ 60) (hC : CoOk mem) (hE : EvOk16 mem) : Con G mX1_price [(2, 16), (0, (c : Int)), (0, minute), (0, start)] mem (fun r m' => r = some (0, priceV (mem 5) (mem 6) (mem 7) (mem 17 0) (mem 17 1) (mem 17 2) c minute start) ∧ m' = mem) := by
  refine Con.of (lo := [(2, 16), (0, (c : Int)), (0, minute), (0, start), (3, 0)]) (by decide +kernel) (Nat.le_of_ble_eq_true rfl) rfl ?_
  generalize hQ_ : (fun r m' => r = some (0, priceV (mem 5) (mem 6) (mem 7) (mem 17 0) (mem 17 1) (mem 17 2) c minute start) ∧ m' = mem : Option AV → Mem → Prop) = Q_
  unfold EvOk16 EvR at hE
  obtain ⟨⟨htold, hfine, hfood, hlate, haway⟩, hev⟩ := hE
  obtain ⟨hw, hl, hm, _, _, _, _⟩ := hC c hc
  refine e_iloadn (pc := 0) dX1_price_0 rfl rfl ?_
  refine e_bipush (pc := 1) dX1_price_1 rfl (by decide) ?_
  refine e_icmp_lt (pc := 3) (tgt := 18) dX1_price_3 rfl (fun h3 => ?_) (fun h3 => ?_)
  · skip
    refine e_iloadn (pc := 18) dX1_price_18 rfl rfl ?_
    refine e_iloadn (pc := 19) dX1_price_19 rfl rfl ?_
    refine e_icmp_le (pc := 20) (tgt := 43) dX1_price_20 rfl (fun h20 => ?_) (fun h20 => ?_)
    · skip
      refine e_aloadn (pc := 43) dX1_price_43 rfl rfl ?_
      refine e_getr (pc := 44) (k := 1) dX1_price_44 fX1_39 s_16 rfl (by decide) ?_
      refine e_getr (pc := 47) (k := 4) dX1_price_47 fX1_92 s_1 rfl (by decide) ?_
      refine e_iconst (pc := 50) dX1_price_50 (by decide) ?_
      refine e_aald (pc := 51) dX1_price_51 s_4 (by omega) ?_
      refine Ev.to (st' := [(2, 5)]) ?_ rfl rfl rfl
      refine e_iloadn (pc := 52) dX1_price_52 rfl rfl ?_
      refine e_ialdv (pc := 53) (v := mem 5 c) dX1_price_53 s_5 (by omega) rfl ?_
      refine e_iloadn (pc := 54) dX1_price_54 rfl rfl ?_
      refine e_iloadn (pc := 55) dX1_price_55 rfl rfl ?_
      refine e_isubn (pc := 56) dX1_price_56 (by omega) ?_
      have hp := mulI hw (b := start - minute) (by omega)
      refine e_imuln (pc := 57) dX1_price_57 (by omega) ?_
      refine e_iloadn (pc := 58) dX1_price_58 rfl rfl ?_
      refine e_bipush (pc := 59) dX1_price_59 rfl (by decide) ?_
      refine e_icmp_ge (pc := 61) (tgt := 73) dX1_price_61 rfl (fun h61 => ?_) (fun h61 => ?_)
      · skip
        refine e_iconst (pc := 73) dX1_price_73 (by decide) ?_
        refine e_isubn (pc := 74) dX1_price_74 (by omega) ?_
        refine e_istore (pc := 75) (lo' := [(2, 16), (0, (c : Int)), (0, minute), (0, start), (0, ((mem 5 c) * (start - minute)) - 0)]) dX1_price_75 rfl (by decide) rfl ?_
        refine e_iloadn (pc := 77) dX1_price_77 rfl rfl ?_
        refine e_aloadn (pc := 78) dX1_price_78 rfl rfl ?_
        refine e_getr (pc := 79) (k := 17) dX1_price_79 fX1_13 s_16 rfl (by decide) ?_
        refine e_iconst (pc := 82) dX1_price_82 (by decide) ?_
        refine e_ialdv (pc := 83) (v := mem 17 0) dX1_price_83 s_17 (by omega) rfl ?_
        refine e_icmp_le (pc := 84) (tgt := 99) dX1_price_84 rfl (fun h84 => ?_) (fun h84 => ?_)
        · skip
          refine e_iload (pc := 99) dX1_price_99 rfl ?_
          have hr : priceV (mem 5) (mem 6) (mem 7) (mem 17 0) (mem 17 1) (mem 17 2) c minute start = ((mem 5 c) * (start - minute)) - 0 := by
            unfold priceV
            (repeat' split) <;> omega
          exact e_iret (pc := 101) dX1_price_101 rfl (by rw [← hQ_, hr]; exact ⟨rfl, rfl⟩)
        · skip
          refine e_iload (pc := 87) dX1_price_87 rfl ?_
          refine e_aloadn (pc := 89) dX1_price_89 rfl rfl ?_
          refine e_getr (pc := 90) (k := 17) dX1_price_90 fX1_13 s_16 rfl (by decide) ?_
          refine e_iconst (pc := 93) dX1_price_93 (by decide) ?_
          refine e_ialdv (pc := 94) (v := mem 17 1) dX1_price_94 s_17 (by omega) rfl ?_
          refine e_iaddn (pc := 95) dX1_price_95 (by omega) ?_
          refine e_goto (pc := 96) (tgt := 101) dX1_price_96 rfl ?_
          have hr : priceV (mem 5) (mem 6) (mem 7) (mem 17 0) (mem 17 1) (mem 17 2) c minute start = (((mem 5 c) * (start - minute)) - 0) + (mem 17 1) := by
            unfold priceV
            (repeat' split) <;> omega
          exact e_iret (pc := 101) dX1_price_101 rfl (by rw [← hQ_, hr]; exact ⟨rfl, rfl⟩)
      · skip
        refine e_aloadn (pc := 64) dX1_price_64 rfl rfl ?_
        refine e_getr (pc := 65) (k := 17) dX1_price_65 fX1_13 s_16 rfl (by decide) ?_
        refine e_iconst (pc := 68) dX1_price_68 (by decide) ?_
        refine e_ialdv (pc := 69) (v := mem 17 2) dX1_price_69 s_17 (by omega) rfl ?_
        refine e_goto (pc := 70) (tgt := 74) dX1_price_70 rfl ?_
        refine e_isubn (pc := 74) dX1_price_74 (by omega) ?_
        refine e_istore (pc := 75) (lo' := [(2, 16), (0, (c : Int)), (0, minute), (0, start), (0, ((mem 5 c) * (start - minute)) - (mem 17 2))]) dX1_price_75 rfl (by decide) rfl ?_
        refine e_iloadn (pc := 77) dX1_price_77 rfl rfl ?_
        refine e_aloadn (pc := 78) dX1_price_78 rfl rfl ?_
        refine e_getr (pc := 79) (k := 17) dX1_price_79 fX1_13 s_16 rfl (by decide) ?_
        refine e_iconst (pc := 82) dX1_price_82 (by decide) ?_
        refine e_ialdv (pc := 83) (v := mem 17 0) dX1_price_83 s_17 (by omega) rfl ?_
        refine e_icmp_le (pc := 84) (tgt := 99) dX1_price_84 rfl (fun h84 => ?_) (fun h84 => ?_)
        · skip
          refine e_iload (pc := 99) dX1_price_99 rfl ?_
          have hr : priceV (mem 5) (mem 6) (mem 7) (mem 17 0) (mem 17 1) (mem 17 2) c minute start = ((mem 5 c) * (start - minute)) - (mem 17 2) := by
            unfold priceV
            (repeat' split) <;> omega
          exact e_iret (pc := 101) dX1_price_101 rfl (by rw [← hQ_, hr]; exact ⟨rfl, rfl⟩)
        · skip
          refine e_iload (pc := 87) dX1_price_87 rfl ?_
          refine e_aloadn (pc := 89) dX1_price_89 rfl rfl ?_
          refine e_getr (pc := 90) (k := 17) dX1_price_90 fX1_13 s_16 rfl (by decide) ?_
          refine e_iconst (pc := 93) dX1_price_93 (by decide) ?_
          refine e_ialdv (pc := 94) (v := mem 17 1) dX1_price_94 s_17 (by omega) rfl ?_
          refine e_iaddn (pc := 95) dX1_price_95 (by omega) ?_
          refine e_goto (pc := 96) (tgt := 101) dX1_price_96 rfl ?_
          have hr : priceV (mem 5) (mem 6) (mem 7) (mem 17 0) (mem 17 1) (mem 17 2) c minute start = (((mem 5 c) * (start - minute)) - (mem 17 2)) + (mem 17 1) := by
            unfold priceV
            (repeat' split) <;> omega
          exact e_iret (pc := 101) dX1_price_101 rfl (by rw [← hQ_, hr]; exact ⟨rfl, rfl⟩)
    · skip
      refine e_aloadn (pc := 23) dX1_price_23 rfl rfl ?_
      refine e_getr (pc := 24) (k := 1) dX1_price_24 fX1_39 s_16 rfl (by decide) ?_
      refine e_getr (pc := 27) (k := 4) dX1_price_27 fX1_92 s_1 rfl (by decide) ?_
      refine e_iconst (pc := 30) dX1_price_30 (by decide) ?_
      refine e_aald (pc := 31) dX1_price_31 s_4 (by omega) ?_
      refine Ev.to (st' := [(2, 6)]) ?_ rfl rfl rfl
      refine e_iloadn (pc := 32) dX1_price_32 rfl rfl ?_
      refine e_ialdv (pc := 33) (v := mem 6 c) dX1_price_33 s_6 (by omega) rfl ?_
      refine e_iloadn (pc := 34) dX1_price_34 rfl rfl ?_
      refine e_iloadn (pc := 35) dX1_price_35 rfl rfl ?_
      refine e_isubn (pc := 36) dX1_price_36 (by omega) ?_
      have hp := mulI hl (b := minute - start) (by omega)
      refine e_imuln (pc := 37) dX1_price_37 (by omega) ?_
      refine e_istore (pc := 38) (lo' := [(2, 16), (0, (c : Int)), (0, minute), (0, start), (0, (mem 6 c) * (minute - start))]) dX1_price_38 rfl (by decide) rfl ?_
      refine e_goto (pc := 40) (tgt := 77) dX1_price_40 rfl ?_
      refine e_iloadn (pc := 77) dX1_price_77 rfl rfl ?_
      refine e_aloadn (pc := 78) dX1_price_78 rfl rfl ?_
      refine e_getr (pc := 79) (k := 17) dX1_price_79 fX1_13 s_16 rfl (by decide) ?_
      refine e_iconst (pc := 82) dX1_price_82 (by decide) ?_
      refine e_ialdv (pc := 83) (v := mem 17 0) dX1_price_83 s_17 (by omega) rfl ?_
      refine e_icmp_le (pc := 84) (tgt := 99) dX1_price_84 rfl (fun h84 => ?_) (fun h84 => ?_)
      · skip
        refine e_iload (pc := 99) dX1_price_99 rfl ?_
        have hr : priceV (mem 5) (mem 6) (mem 7) (mem 17 0) (mem 17 1) (mem 17 2) c minute start = (mem 6 c) * (minute - start) := by
          unfold priceV
          (repeat' split) <;> omega
        exact e_iret (pc := 101) dX1_price_101 rfl (by rw [← hQ_, hr]; exact ⟨rfl, rfl⟩)
      · skip
        refine e_iload (pc := 87) dX1_price_87 rfl ?_
        refine e_aloadn (pc := 89) dX1_price_89 rfl rfl ?_
        refine e_getr (pc := 90) (k := 17) dX1_price_90 fX1_13 s_16 rfl (by decide) ?_
        refine e_iconst (pc := 93) dX1_price_93 (by decide) ?_
        refine e_ialdv (pc := 94) (v := mem 17 1) dX1_price_94 s_17 (by omega) rfl ?_
        refine e_iaddn (pc := 95) dX1_price_95 (by omega) ?_
        refine e_goto (pc := 96) (tgt := 101) dX1_price_96 rfl ?_
        have hr : priceV (mem 5) (mem 6) (mem 7) (mem 17 0) (mem 17 1) (mem 17 2) c minute start = ((mem 6 c) * (minute - start)) + (mem 17 1) := by
          unfold priceV
          (repeat' split) <;> omega
        exact e_iret (pc := 101) dX1_price_101 rfl (by rw [← hQ_, hr]; exact ⟨rfl, rfl⟩)
  · skip
    refine e_aloadn (pc := 6) dX1_price_6 rfl rfl ?_
    refine e_getr (pc := 7) (k := 1) dX1_price_7 fX1_39 s_16 rfl (by decide) ?_
    refine e_getr (pc := 10) (k := 4) dX1_price_10 fX1_92 s_1 rfl (by decide) ?_
    refine e_iconst (pc := 13) dX1_price_13 (by decide) ?_
    refine e_aald (pc := 14) dX1_price_14 s_4 (by omega) ?_
    refine Ev.to (st' := [(2, 7)]) ?_ rfl rfl rfl
    refine e_iloadn (pc := 15) dX1_price_15 rfl rfl ?_
    refine e_ialdv (pc := 16) (v := mem 7 c) dX1_price_16 s_7 (by omega) rfl ?_
    have hr : priceV (mem 5) (mem 6) (mem 7) (mem 17 0) (mem 17 1) (mem 17 2) c minute start = mem 7 c := by
      unfold priceV
      (repeat' split) <;> omega
    exact e_iret (pc := 17) dX1_price_17 rfl (by rw [← hQ_, hr]; exact ⟨rfl, rfl⟩)

theorem t_firmMinute_25 (G : Gm) (mem : Mem) (c : Nat) (hc : c < 8) (hC : CoOk mem) (hE : EvOk25 mem) : Con G mX1_firmMinute [(2, 25), (0, (c : Int))] mem (fun r m' => r = some (0, firmV (mem 27) (mem 28) (mem 26 0) (mem 25 4) (mem 9) c) ∧ m' = mem) := by
  refine Con.of (lo := [(2, 25), (0, (c : Int)), (3, 0)]) (by decide +kernel) (Nat.le_of_ble_eq_true rfl) rfl ?_
  generalize hQ_ : (fun r m' => r = some (0, firmV (mem 27) (mem 28) (mem 26 0) (mem 25 4) (mem 9) c) ∧ m' = mem : Option AV → Mem → Prop) = Q_
  unfold EvOk25 EvR at hE
  obtain ⟨⟨htold, hfine, hfood, hlate, haway⟩, hev⟩ := hE
  obtain ⟨hk, ha, hl⟩ := hev c hc
  obtain ⟨_, _, _, _, hd, _, _⟩ := hC c hc
  have hbt := bt_01 (mem 25 4) c
  refine e_aloadn (pc := 0) dX1_firmMinute_0 rfl rfl ?_
  refine e_getr (pc := 1) (k := 27) dX1_firmMinute_1 fX1_18 s_25 rfl (by decide) ?_
  refine e_iloadn (pc := 4) dX1_firmMinute_4 rfl rfl ?_
  refine e_ialdv (pc := 5) (v := mem 27 c) dX1_firmMinute_5 s_27 (by omega) rfl ?_
  refine e_if_ne (pc := 6) (tgt := 18) dX1_firmMinute_6 rfl (fun h6 => ?_) (fun h6 => ?_)
  · skip
    refine e_aloadn (pc := 18) dX1_firmMinute_18 rfl rfl ?_
    refine e_getr (pc := 19) (k := 26) dX1_firmMinute_19 fX1_13 s_25 rfl (by decide) ?_
    refine e_iconst (pc := 22) dX1_firmMinute_22 (by decide) ?_
    refine e_ialdv (pc := 23) (v := mem 26 0) dX1_firmMinute_23 s_26 (by omega) rfl ?_
    refine e_istoren (pc := 24) (lo' := [(2, 25), (0, (c : Int)), (0, mem 26 0)]) dX1_firmMinute_24 rfl rfl (by decide) rfl ?_
    refine e_aloadn (pc := 25) dX1_firmMinute_25 rfl rfl ?_
    refine e_getiv (pc := 26) (v := mem 25 4) dX1_firmMinute_26 fX1_53 s_25 rfl (by decide) rfl ?_
    refine e_iloadn (pc := 29) dX1_firmMinute_29 rfl rfl ?_
    refine e_ishr (pc := 30) dX1_firmMinute_30 ?_
    refine e_iconst (pc := 31) dX1_firmMinute_31 (by decide) ?_
    refine e_iand (pc := 32) dX1_firmMinute_32 ?_
    rw [show bAnd (bShr (mem 25 4) (c : Int)) 1 = bt (mem 25 4) c from bt_eq hlate.1 (by omega) (by omega)]
    refine e_if_eq (pc := 33) (tgt := 50) dX1_firmMinute_33 rfl (fun h33 => ?_) (fun h33 => ?_)
    · skip
      refine e_iloadn (pc := 50) dX1_firmMinute_50 rfl rfl ?_
      refine e_bipush (pc := 51) dX1_firmMinute_51 rfl (by decide) ?_
      refine e_icmp_ge (pc := 53) (tgt := 60) dX1_firmMinute_53 rfl (fun h53 => ?_) (fun h53 => ?_)
      · skip
        refine e_bipush (pc := 60) dX1_firmMinute_60 rfl (by decide) ?_
        have hr : firmV (mem 27) (mem 28) (mem 26 0) (mem 25 4) (mem 9) c = 60 := by
          unfold firmV
          (repeat' split) <;> omega
        exact e_iret (pc := 62) dX1_firmMinute_62 rfl (by rw [← hQ_, hr]; exact ⟨rfl, rfl⟩)
      · skip
        refine e_iloadn (pc := 56) dX1_firmMinute_56 rfl rfl ?_
        refine e_goto (pc := 57) (tgt := 62) dX1_firmMinute_57 rfl ?_
        have hr : firmV (mem 27) (mem 28) (mem 26 0) (mem 25 4) (mem 9) c = mem 26 0 := by
          unfold firmV
          (repeat' split) <;> omega
        exact e_iret (pc := 62) dX1_firmMinute_62 rfl (by rw [← hQ_, hr]; exact ⟨rfl, rfl⟩)
    · skip
      refine e_iloadn (pc := 36) dX1_firmMinute_36 rfl rfl ?_
      refine e_aloadn (pc := 37) dX1_firmMinute_37 rfl rfl ?_
      refine e_getr (pc := 38) (k := 1) dX1_firmMinute_38 fX1_39 s_25 rfl (by decide) ?_
      refine e_getr (pc := 41) (k := 4) dX1_firmMinute_41 fX1_92 s_1 rfl (by decide) ?_
      refine e_iconst (pc := 44) dX1_firmMinute_44 (by decide) ?_
      refine e_aald (pc := 45) dX1_firmMinute_45 s_4 (by omega) ?_
      refine Ev.to (st' := [(2, 9), (0, mem 26 0)]) ?_ rfl rfl rfl
      refine e_iloadn (pc := 46) dX1_firmMinute_46 rfl rfl ?_
      refine e_ialdv (pc := 47) (v := mem 9 c) dX1_firmMinute_47 s_9 (by omega) rfl ?_
      refine e_iaddn (pc := 48) dX1_firmMinute_48 (by omega) ?_
      refine e_istoren (pc := 49) (lo' := [(2, 25), (0, (c : Int)), (0, (mem 26 0) + (mem 9 c))]) dX1_firmMinute_49 rfl rfl (by decide) rfl ?_
      refine e_iloadn (pc := 50) dX1_firmMinute_50 rfl rfl ?_
      refine e_bipush (pc := 51) dX1_firmMinute_51 rfl (by decide) ?_
      refine e_icmp_ge (pc := 53) (tgt := 60) dX1_firmMinute_53 rfl (fun h53 => ?_) (fun h53 => ?_)
      · skip
        refine e_bipush (pc := 60) dX1_firmMinute_60 rfl (by decide) ?_
        have hr : firmV (mem 27) (mem 28) (mem 26 0) (mem 25 4) (mem 9) c = 60 := by
          unfold firmV
          (repeat' split) <;> omega
        exact e_iret (pc := 62) dX1_firmMinute_62 rfl (by rw [← hQ_, hr]; exact ⟨rfl, rfl⟩)
      · skip
        refine e_iloadn (pc := 56) dX1_firmMinute_56 rfl rfl ?_
        refine e_goto (pc := 57) (tgt := 62) dX1_firmMinute_57 rfl ?_
        have hr : firmV (mem 27) (mem 28) (mem 26 0) (mem 25 4) (mem 9) c = (mem 26 0) + (mem 9 c) := by
          unfold firmV
          (repeat' split) <;> omega
        exact e_iret (pc := 62) dX1_firmMinute_62 rfl (by rw [← hQ_, hr]; exact ⟨rfl, rfl⟩)
  · skip
    refine e_aloadn (pc := 9) dX1_firmMinute_9 rfl rfl ?_
    refine e_getr (pc := 10) (k := 28) dX1_firmMinute_10 fX1_21 s_25 rfl (by decide) ?_
    refine e_iloadn (pc := 13) dX1_firmMinute_13 rfl rfl ?_
    refine e_ialdv (pc := 14) (v := mem 28 c) dX1_firmMinute_14 s_28 (by omega) rfl ?_
    refine e_goto (pc := 15) (tgt := 24) dX1_firmMinute_15 rfl ?_
    refine e_istoren (pc := 24) (lo' := [(2, 25), (0, (c : Int)), (0, mem 28 c)]) dX1_firmMinute_24 rfl rfl (by decide) rfl ?_
    refine e_aloadn (pc := 25) dX1_firmMinute_25 rfl rfl ?_
    refine e_getiv (pc := 26) (v := mem 25 4) dX1_firmMinute_26 fX1_53 s_25 rfl (by decide) rfl ?_
    refine e_iloadn (pc := 29) dX1_firmMinute_29 rfl rfl ?_
    refine e_ishr (pc := 30) dX1_firmMinute_30 ?_
    refine e_iconst (pc := 31) dX1_firmMinute_31 (by decide) ?_
    refine e_iand (pc := 32) dX1_firmMinute_32 ?_
    rw [show bAnd (bShr (mem 25 4) (c : Int)) 1 = bt (mem 25 4) c from bt_eq hlate.1 (by omega) (by omega)]
    refine e_if_eq (pc := 33) (tgt := 50) dX1_firmMinute_33 rfl (fun h33 => ?_) (fun h33 => ?_)
    · skip
      refine e_iloadn (pc := 50) dX1_firmMinute_50 rfl rfl ?_
      refine e_bipush (pc := 51) dX1_firmMinute_51 rfl (by decide) ?_
      refine e_icmp_ge (pc := 53) (tgt := 60) dX1_firmMinute_53 rfl (fun h53 => ?_) (fun h53 => ?_)
      · skip
        refine e_bipush (pc := 60) dX1_firmMinute_60 rfl (by decide) ?_
        have hr : firmV (mem 27) (mem 28) (mem 26 0) (mem 25 4) (mem 9) c = 60 := by
          unfold firmV
          (repeat' split) <;> omega
        exact e_iret (pc := 62) dX1_firmMinute_62 rfl (by rw [← hQ_, hr]; exact ⟨rfl, rfl⟩)
      · skip
        refine e_iloadn (pc := 56) dX1_firmMinute_56 rfl rfl ?_
        refine e_goto (pc := 57) (tgt := 62) dX1_firmMinute_57 rfl ?_
        have hr : firmV (mem 27) (mem 28) (mem 26 0) (mem 25 4) (mem 9) c = mem 28 c := by
          unfold firmV
          (repeat' split) <;> omega
        exact e_iret (pc := 62) dX1_firmMinute_62 rfl (by rw [← hQ_, hr]; exact ⟨rfl, rfl⟩)
    · skip
      refine e_iloadn (pc := 36) dX1_firmMinute_36 rfl rfl ?_
      refine e_aloadn (pc := 37) dX1_firmMinute_37 rfl rfl ?_
      refine e_getr (pc := 38) (k := 1) dX1_firmMinute_38 fX1_39 s_25 rfl (by decide) ?_
      refine e_getr (pc := 41) (k := 4) dX1_firmMinute_41 fX1_92 s_1 rfl (by decide) ?_
      refine e_iconst (pc := 44) dX1_firmMinute_44 (by decide) ?_
      refine e_aald (pc := 45) dX1_firmMinute_45 s_4 (by omega) ?_
      refine Ev.to (st' := [(2, 9), (0, mem 28 c)]) ?_ rfl rfl rfl
      refine e_iloadn (pc := 46) dX1_firmMinute_46 rfl rfl ?_
      refine e_ialdv (pc := 47) (v := mem 9 c) dX1_firmMinute_47 s_9 (by omega) rfl ?_
      refine e_iaddn (pc := 48) dX1_firmMinute_48 (by omega) ?_
      refine e_istoren (pc := 49) (lo' := [(2, 25), (0, (c : Int)), (0, (mem 28 c) + (mem 9 c))]) dX1_firmMinute_49 rfl rfl (by decide) rfl ?_
      refine e_iloadn (pc := 50) dX1_firmMinute_50 rfl rfl ?_
      refine e_bipush (pc := 51) dX1_firmMinute_51 rfl (by decide) ?_
      refine e_icmp_ge (pc := 53) (tgt := 60) dX1_firmMinute_53 rfl (fun h53 => ?_) (fun h53 => ?_)
      · skip
        refine e_bipush (pc := 60) dX1_firmMinute_60 rfl (by decide) ?_
        have hr : firmV (mem 27) (mem 28) (mem 26 0) (mem 25 4) (mem 9) c = 60 := by
          unfold firmV
          (repeat' split) <;> omega
        exact e_iret (pc := 62) dX1_firmMinute_62 rfl (by rw [← hQ_, hr]; exact ⟨rfl, rfl⟩)
      · skip
        refine e_iloadn (pc := 56) dX1_firmMinute_56 rfl rfl ?_
        refine e_goto (pc := 57) (tgt := 62) dX1_firmMinute_57 rfl ?_
        have hr : firmV (mem 27) (mem 28) (mem 26 0) (mem 25 4) (mem 9) c = (mem 28 c) + (mem 9 c) := by
          unfold firmV
          (repeat' split) <;> omega
        exact e_iret (pc := 62) dX1_firmMinute_62 rfl (by rw [← hQ_, hr]; exact ⟨rfl, rfl⟩)

theorem t_price_25 (G : Gm) (mem : Mem) (c : Nat) (minute start : Int) (hc : c < 8) (hm0 : 0 ≤ minute ∧ minute ≤ 60) (hs0 : 0 ≤ start ∧ start ≤ 60) (hC : CoOk mem) (hE : EvOk25 mem) : Con G mX1_price [(2, 25), (0, (c : Int)), (0, minute), (0, start)] mem (fun r m' => r = some (0, priceV (mem 5) (mem 6) (mem 7) (mem 26 0) (mem 26 1) (mem 26 2) c minute start) ∧ m' = mem) := by
  refine Con.of (lo := [(2, 25), (0, (c : Int)), (0, minute), (0, start), (3, 0)]) (by decide +kernel) (Nat.le_of_ble_eq_true rfl) rfl ?_
  generalize hQ_ : (fun r m' => r = some (0, priceV (mem 5) (mem 6) (mem 7) (mem 26 0) (mem 26 1) (mem 26 2) c minute start) ∧ m' = mem : Option AV → Mem → Prop) = Q_
  unfold EvOk25 EvR at hE
  obtain ⟨⟨htold, hfine, hfood, hlate, haway⟩, hev⟩ := hE
  obtain ⟨hw, hl, hm, _, _, _, _⟩ := hC c hc
  refine e_iloadn (pc := 0) dX1_price_0 rfl rfl ?_
  refine e_bipush (pc := 1) dX1_price_1 rfl (by decide) ?_
  refine e_icmp_lt (pc := 3) (tgt := 18) dX1_price_3 rfl (fun h3 => ?_) (fun h3 => ?_)
  · skip
    refine e_iloadn (pc := 18) dX1_price_18 rfl rfl ?_
    refine e_iloadn (pc := 19) dX1_price_19 rfl rfl ?_
    refine e_icmp_le (pc := 20) (tgt := 43) dX1_price_20 rfl (fun h20 => ?_) (fun h20 => ?_)
    · skip
      refine e_aloadn (pc := 43) dX1_price_43 rfl rfl ?_
      refine e_getr (pc := 44) (k := 1) dX1_price_44 fX1_39 s_25 rfl (by decide) ?_
      refine e_getr (pc := 47) (k := 4) dX1_price_47 fX1_92 s_1 rfl (by decide) ?_
      refine e_iconst (pc := 50) dX1_price_50 (by decide) ?_
      refine e_aald (pc := 51) dX1_price_51 s_4 (by omega) ?_
      refine Ev.to (st' := [(2, 5)]) ?_ rfl rfl rfl
      refine e_iloadn (pc := 52) dX1_price_52 rfl rfl ?_
      refine e_ialdv (pc := 53) (v := mem 5 c) dX1_price_53 s_5 (by omega) rfl ?_
      refine e_iloadn (pc := 54) dX1_price_54 rfl rfl ?_
      refine e_iloadn (pc := 55) dX1_price_55 rfl rfl ?_
      refine e_isubn (pc := 56) dX1_price_56 (by omega) ?_
      have hp := mulI hw (b := start - minute) (by omega)
      refine e_imuln (pc := 57) dX1_price_57 (by omega) ?_
      refine e_iloadn (pc := 58) dX1_price_58 rfl rfl ?_
      refine e_bipush (pc := 59) dX1_price_59 rfl (by decide) ?_
      refine e_icmp_ge (pc := 61) (tgt := 73) dX1_price_61 rfl (fun h61 => ?_) (fun h61 => ?_)
      · skip
        refine e_iconst (pc := 73) dX1_price_73 (by decide) ?_
        refine e_isubn (pc := 74) dX1_price_74 (by omega) ?_
        refine e_istore (pc := 75) (lo' := [(2, 25), (0, (c : Int)), (0, minute), (0, start), (0, ((mem 5 c) * (start - minute)) - 0)]) dX1_price_75 rfl (by decide) rfl ?_
        refine e_iloadn (pc := 77) dX1_price_77 rfl rfl ?_
        refine e_aloadn (pc := 78) dX1_price_78 rfl rfl ?_
        refine e_getr (pc := 79) (k := 26) dX1_price_79 fX1_13 s_25 rfl (by decide) ?_
        refine e_iconst (pc := 82) dX1_price_82 (by decide) ?_
        refine e_ialdv (pc := 83) (v := mem 26 0) dX1_price_83 s_26 (by omega) rfl ?_
        refine e_icmp_le (pc := 84) (tgt := 99) dX1_price_84 rfl (fun h84 => ?_) (fun h84 => ?_)
        · skip
          refine e_iload (pc := 99) dX1_price_99 rfl ?_
          have hr : priceV (mem 5) (mem 6) (mem 7) (mem 26 0) (mem 26 1) (mem 26 2) c minute start = ((mem 5 c) * (start - minute)) - 0 := by
            unfold priceV
            (repeat' split) <;> omega
          exact e_iret (pc := 101) dX1_price_101 rfl (by rw [← hQ_, hr]; exact ⟨rfl, rfl⟩)
        · skip
          refine e_iload (pc := 87) dX1_price_87 rfl ?_
          refine e_aloadn (pc := 89) dX1_price_89 rfl rfl ?_
          refine e_getr (pc := 90) (k := 26) dX1_price_90 fX1_13 s_25 rfl (by decide) ?_
          refine e_iconst (pc := 93) dX1_price_93 (by decide) ?_
          refine e_ialdv (pc := 94) (v := mem 26 1) dX1_price_94 s_26 (by omega) rfl ?_
          refine e_iaddn (pc := 95) dX1_price_95 (by omega) ?_
          refine e_goto (pc := 96) (tgt := 101) dX1_price_96 rfl ?_
          have hr : priceV (mem 5) (mem 6) (mem 7) (mem 26 0) (mem 26 1) (mem 26 2) c minute start = (((mem 5 c) * (start - minute)) - 0) + (mem 26 1) := by
            unfold priceV
            (repeat' split) <;> omega
          exact e_iret (pc := 101) dX1_price_101 rfl (by rw [← hQ_, hr]; exact ⟨rfl, rfl⟩)
      · skip
        refine e_aloadn (pc := 64) dX1_price_64 rfl rfl ?_
        refine e_getr (pc := 65) (k := 26) dX1_price_65 fX1_13 s_25 rfl (by decide) ?_
        refine e_iconst (pc := 68) dX1_price_68 (by decide) ?_
        refine e_ialdv (pc := 69) (v := mem 26 2) dX1_price_69 s_26 (by omega) rfl ?_
        refine e_goto (pc := 70) (tgt := 74) dX1_price_70 rfl ?_
        refine e_isubn (pc := 74) dX1_price_74 (by omega) ?_
        refine e_istore (pc := 75) (lo' := [(2, 25), (0, (c : Int)), (0, minute), (0, start), (0, ((mem 5 c) * (start - minute)) - (mem 26 2))]) dX1_price_75 rfl (by decide) rfl ?_
        refine e_iloadn (pc := 77) dX1_price_77 rfl rfl ?_
        refine e_aloadn (pc := 78) dX1_price_78 rfl rfl ?_
        refine e_getr (pc := 79) (k := 26) dX1_price_79 fX1_13 s_25 rfl (by decide) ?_
        refine e_iconst (pc := 82) dX1_price_82 (by decide) ?_
        refine e_ialdv (pc := 83) (v := mem 26 0) dX1_price_83 s_26 (by omega) rfl ?_
        refine e_icmp_le (pc := 84) (tgt := 99) dX1_price_84 rfl (fun h84 => ?_) (fun h84 => ?_)
        · skip
          refine e_iload (pc := 99) dX1_price_99 rfl ?_
          have hr : priceV (mem 5) (mem 6) (mem 7) (mem 26 0) (mem 26 1) (mem 26 2) c minute start = ((mem 5 c) * (start - minute)) - (mem 26 2) := by
            unfold priceV
            (repeat' split) <;> omega
          exact e_iret (pc := 101) dX1_price_101 rfl (by rw [← hQ_, hr]; exact ⟨rfl, rfl⟩)
        · skip
          refine e_iload (pc := 87) dX1_price_87 rfl ?_
          refine e_aloadn (pc := 89) dX1_price_89 rfl rfl ?_
          refine e_getr (pc := 90) (k := 26) dX1_price_90 fX1_13 s_25 rfl (by decide) ?_
          refine e_iconst (pc := 93) dX1_price_93 (by decide) ?_
          refine e_ialdv (pc := 94) (v := mem 26 1) dX1_price_94 s_26 (by omega) rfl ?_
          refine e_iaddn (pc := 95) dX1_price_95 (by omega) ?_
          refine e_goto (pc := 96) (tgt := 101) dX1_price_96 rfl ?_
          have hr : priceV (mem 5) (mem 6) (mem 7) (mem 26 0) (mem 26 1) (mem 26 2) c minute start = (((mem 5 c) * (start - minute)) - (mem 26 2)) + (mem 26 1) := by
            unfold priceV
            (repeat' split) <;> omega
          exact e_iret (pc := 101) dX1_price_101 rfl (by rw [← hQ_, hr]; exact ⟨rfl, rfl⟩)
    · skip
      refine e_aloadn (pc := 23) dX1_price_23 rfl rfl ?_
      refine e_getr (pc := 24) (k := 1) dX1_price_24 fX1_39 s_25 rfl (by decide) ?_
      refine e_getr (pc := 27) (k := 4) dX1_price_27 fX1_92 s_1 rfl (by decide) ?_
      refine e_iconst (pc := 30) dX1_price_30 (by decide) ?_
      refine e_aald (pc := 31) dX1_price_31 s_4 (by omega) ?_
      refine Ev.to (st' := [(2, 6)]) ?_ rfl rfl rfl
      refine e_iloadn (pc := 32) dX1_price_32 rfl rfl ?_
      refine e_ialdv (pc := 33) (v := mem 6 c) dX1_price_33 s_6 (by omega) rfl ?_
      refine e_iloadn (pc := 34) dX1_price_34 rfl rfl ?_
      refine e_iloadn (pc := 35) dX1_price_35 rfl rfl ?_
      refine e_isubn (pc := 36) dX1_price_36 (by omega) ?_
      have hp := mulI hl (b := minute - start) (by omega)
      refine e_imuln (pc := 37) dX1_price_37 (by omega) ?_
      refine e_istore (pc := 38) (lo' := [(2, 25), (0, (c : Int)), (0, minute), (0, start), (0, (mem 6 c) * (minute - start))]) dX1_price_38 rfl (by decide) rfl ?_
      refine e_goto (pc := 40) (tgt := 77) dX1_price_40 rfl ?_
      refine e_iloadn (pc := 77) dX1_price_77 rfl rfl ?_
      refine e_aloadn (pc := 78) dX1_price_78 rfl rfl ?_
      refine e_getr (pc := 79) (k := 26) dX1_price_79 fX1_13 s_25 rfl (by decide) ?_
      refine e_iconst (pc := 82) dX1_price_82 (by decide) ?_
      refine e_ialdv (pc := 83) (v := mem 26 0) dX1_price_83 s_26 (by omega) rfl ?_
      refine e_icmp_le (pc := 84) (tgt := 99) dX1_price_84 rfl (fun h84 => ?_) (fun h84 => ?_)
      · skip
        refine e_iload (pc := 99) dX1_price_99 rfl ?_
        have hr : priceV (mem 5) (mem 6) (mem 7) (mem 26 0) (mem 26 1) (mem 26 2) c minute start = (mem 6 c) * (minute - start) := by
          unfold priceV
          (repeat' split) <;> omega
        exact e_iret (pc := 101) dX1_price_101 rfl (by rw [← hQ_, hr]; exact ⟨rfl, rfl⟩)
      · skip
        refine e_iload (pc := 87) dX1_price_87 rfl ?_
        refine e_aloadn (pc := 89) dX1_price_89 rfl rfl ?_
        refine e_getr (pc := 90) (k := 26) dX1_price_90 fX1_13 s_25 rfl (by decide) ?_
        refine e_iconst (pc := 93) dX1_price_93 (by decide) ?_
        refine e_ialdv (pc := 94) (v := mem 26 1) dX1_price_94 s_26 (by omega) rfl ?_
        refine e_iaddn (pc := 95) dX1_price_95 (by omega) ?_
        refine e_goto (pc := 96) (tgt := 101) dX1_price_96 rfl ?_
        have hr : priceV (mem 5) (mem 6) (mem 7) (mem 26 0) (mem 26 1) (mem 26 2) c minute start = ((mem 6 c) * (minute - start)) + (mem 26 1) := by
          unfold priceV
          (repeat' split) <;> omega
        exact e_iret (pc := 101) dX1_price_101 rfl (by rw [← hQ_, hr]; exact ⟨rfl, rfl⟩)
  · skip
    refine e_aloadn (pc := 6) dX1_price_6 rfl rfl ?_
    refine e_getr (pc := 7) (k := 1) dX1_price_7 fX1_39 s_25 rfl (by decide) ?_
    refine e_getr (pc := 10) (k := 4) dX1_price_10 fX1_92 s_1 rfl (by decide) ?_
    refine e_iconst (pc := 13) dX1_price_13 (by decide) ?_
    refine e_aald (pc := 14) dX1_price_14 s_4 (by omega) ?_
    refine Ev.to (st' := [(2, 7)]) ?_ rfl rfl rfl
    refine e_iloadn (pc := 15) dX1_price_15 rfl rfl ?_
    refine e_ialdv (pc := 16) (v := mem 7 c) dX1_price_16 s_7 (by omega) rfl ?_
    have hr : priceV (mem 5) (mem 6) (mem 7) (mem 26 0) (mem 26 1) (mem 26 2) c minute start = mem 7 c := by
      unfold priceV
      (repeat' split) <;> omega
    exact e_iret (pc := 17) dX1_price_17 rfl (by rw [← hQ_, hr]; exact ⟨rfl, rfl⟩)

theorem t_plainBits_16 (G : Gm) (mem : Mem) : Con G mX1_plainBits [(2, 16)] mem (fun r m' => r = some (0, ((bitsTo (fun c => decide (mem 18 c = 0)) 8 : Nat) : Int)) ∧ m' = mem) := by
  refine Con.of (lo := [(2, 16), (3, 0), (3, 0)]) (by decide +kernel) (Nat.le_of_ble_eq_true rfl) rfl ?_
  generalize hQ_ : (fun r m' => r = some (0, ((bitsTo (fun c => decide (mem 18 c = 0)) 8 : Nat) : Int)) ∧ m' = mem : Option AV → Mem → Prop) = Q_
  refine e_iconst (pc := 0) dX1_plainBits_0 (by decide) ?_
  refine e_istoren (pc := 1) (lo' := [(2, 16), (0, 0), (3, 0)]) dX1_plainBits_1 rfl rfl (by decide) rfl ?_
  refine e_iconst (pc := 2) dX1_plainBits_2 (by decide) ?_
  refine e_istoren (pc := 3) (lo' := [(2, 16), (0, 0), (0, 0)]) dX1_plainBits_3 rfl rfl (by decide) rfl ?_
  have L4 : ∀ (n_ : Nat) (k : Nat), 8 - k = n_ → (k ≤ 8) → Ev G mX1_plainBits Q_ 4 [(2, 16), (0, ((bitsTo (fun c => decide (mem 18 c = 0)) k : Nat) : Int)), (0, (k : Int))] [] mem := by
    intro n_
    induction n_ using Nat.strongRecOn with
    | ind n_ ih4 =>
      intro k hn_ hk
      have hb := bitsTo_lt (fun c => decide (mem 18 c = 0)) k
      have hb2 : 2 ^ k ≤ 2 ^ 8 := Nat.pow_le_pow_right (by decide) hk
      refine e_iloadn (pc := 4) dX1_plainBits_4 rfl rfl ?_
      refine e_bipush (pc := 5) dX1_plainBits_5 rfl (by decide) ?_
      refine e_icmp_ge (pc := 7) (tgt := 31) dX1_plainBits_7 rfl (fun h7 => ?_) (fun h7 => ?_)
      · skip
        refine e_iloadn (pc := 31) dX1_plainBits_31 rfl rfl ?_
        exact e_iret (pc := 32) dX1_plainBits_32 rfl (by rw [← hQ_, show k = 8 by omega]; exact ⟨rfl, rfl⟩)
      · skip
        refine e_aloadn (pc := 10) dX1_plainBits_10 rfl rfl ?_
        refine e_getr (pc := 11) (k := 18) dX1_plainBits_11 fX1_18 s_16 rfl (by decide) ?_
        refine e_iloadn (pc := 14) dX1_plainBits_14 rfl rfl ?_
        refine e_ialdv (pc := 15) (v := mem 18 k) dX1_plainBits_15 s_18 (by omega) rfl ?_
        refine e_if_ne (pc := 16) (tgt := 25) dX1_plainBits_16 rfl (fun h16 => ?_) (fun h16 => ?_)
        · skip
          refine e_iinc (pc := 25) (lo' := [(2, 16), (0, ((bitsTo (fun c => decide (mem 18 c = 0)) k : Nat) : Int)), (0, (k : Int) + 1)]) dX1_plainBits_25 rfl (by omega) rfl (by decide) rfl ?_
          refine e_goto (pc := 28) (tgt := 4) dX1_plainBits_28 rfl ?_
          exact Ev.to (ih4 _ (by omega) (k + 1) (rfl) (by omega)) ((by rw [show bitsTo (fun c => decide (mem 18 c = 0)) (k + 1) = bitsTo (fun c => decide (mem 18 c = 0)) k from (by show (if decide (mem 18 k = 0) = true then _ else _) = _; rw [if_neg (by simpa using h16)])]; rfl)) rfl rfl
        · skip
          refine e_iloadn (pc := 19) dX1_plainBits_19 rfl rfl ?_
          refine e_iconst (pc := 20) dX1_plainBits_20 (by decide) ?_
          refine e_iloadn (pc := 21) dX1_plainBits_21 rfl rfl ?_
          refine e_ishl (pc := 22) dX1_plainBits_22 ?_
          rw [show bShl 1 (k : Int) = ((2 ^ k : Nat) : Int) from one_shl (by omega)]
          refine e_ior (pc := 23) dX1_plainBits_23 ?_
          rw [show bOr ((bitsTo (fun c => decide (mem 18 c = 0)) k : Nat) : Int) ((2 ^ k : Nat) : Int) = ((bitsTo (fun c => decide (mem 18 c = 0)) k ||| 2 ^ k : Nat) : Int) from bOr_nat (by omega) (by omega)]
          refine e_istoren (pc := 24) (lo' := [(2, 16), (0, ((bitsTo (fun c => decide (mem 18 c = 0)) k ||| 2 ^ k : Nat) : Int)), (0, (k : Int))]) dX1_plainBits_24 rfl rfl (by decide) rfl ?_
          refine e_iinc (pc := 25) (lo' := [(2, 16), (0, ((bitsTo (fun c => decide (mem 18 c = 0)) k ||| 2 ^ k : Nat) : Int)), (0, (k : Int) + 1)]) dX1_plainBits_25 rfl (by omega) rfl (by decide) rfl ?_
          refine e_goto (pc := 28) (tgt := 4) dX1_plainBits_28 rfl ?_
          exact Ev.to (ih4 _ (by omega) (k + 1) (rfl) (by omega)) ((by rw [show bitsTo (fun c => decide (mem 18 c = 0)) (k + 1) = bitsTo (fun c => decide (mem 18 c = 0)) k ||| 2 ^ k from (by show (if decide (mem 18 k = 0) = true then _ else _) = _; rw [if_pos (by simpa using h16)])]; rfl)) rfl rfl
  exact Ev.to (L4 _ 0 (rfl) (by omega)) rfl rfl rfl

theorem t_comingAt_16 (G : Gm) (mem : Mem) (x : Int) : Con G mX1_comingAt [(2, 16), (0, x)] mem (fun r m' => r = some (0, ((bitsTo (fun c => decide (mem 20 c = x)) 8 : Nat) : Int)) ∧ m' = mem) := by
  refine Con.of (lo := [(2, 16), (0, x), (3, 0), (3, 0)]) (by decide +kernel) (Nat.le_of_ble_eq_true rfl) rfl ?_
  generalize hQ_ : (fun r m' => r = some (0, ((bitsTo (fun c => decide (mem 20 c = x)) 8 : Nat) : Int)) ∧ m' = mem : Option AV → Mem → Prop) = Q_
  refine e_iconst (pc := 0) dX1_comingAt_0 (by decide) ?_
  refine e_istoren (pc := 1) (lo' := [(2, 16), (0, x), (0, 0), (3, 0)]) dX1_comingAt_1 rfl rfl (by decide) rfl ?_
  refine e_iconst (pc := 2) dX1_comingAt_2 (by decide) ?_
  refine e_istoren (pc := 3) (lo' := [(2, 16), (0, x), (0, 0), (0, 0)]) dX1_comingAt_3 rfl rfl (by decide) rfl ?_
  have L4 : ∀ (n_ : Nat) (k : Nat), 8 - k = n_ → (k ≤ 8) → Ev G mX1_comingAt Q_ 4 [(2, 16), (0, x), (0, ((bitsTo (fun c => decide (mem 20 c = x)) k : Nat) : Int)), (0, (k : Int))] [] mem := by
    intro n_
    induction n_ using Nat.strongRecOn with
    | ind n_ ih4 =>
      intro k hn_ hk
      have hb := bitsTo_lt (fun c => decide (mem 20 c = x)) k
      have hb2 : 2 ^ k ≤ 2 ^ 8 := Nat.pow_le_pow_right (by decide) hk
      refine e_iloadn (pc := 4) dX1_comingAt_4 rfl rfl ?_
      refine e_bipush (pc := 5) dX1_comingAt_5 rfl (by decide) ?_
      refine e_icmp_ge (pc := 7) (tgt := 32) dX1_comingAt_7 rfl (fun h7 => ?_) (fun h7 => ?_)
      · skip
        refine e_iloadn (pc := 32) dX1_comingAt_32 rfl rfl ?_
        exact e_iret (pc := 33) dX1_comingAt_33 rfl (by rw [← hQ_, show k = 8 by omega]; exact ⟨rfl, rfl⟩)
      · skip
        refine e_aloadn (pc := 10) dX1_comingAt_10 rfl rfl ?_
        refine e_getr (pc := 11) (k := 20) dX1_comingAt_11 fX1_24 s_16 rfl (by decide) ?_
        refine e_iloadn (pc := 14) dX1_comingAt_14 rfl rfl ?_
        refine e_ialdv (pc := 15) (v := mem 20 k) dX1_comingAt_15 s_20 (by omega) rfl ?_
        refine e_iloadn (pc := 16) dX1_comingAt_16 rfl rfl ?_
        refine e_icmp_ne (pc := 17) (tgt := 26) dX1_comingAt_17 rfl (fun h17 => ?_) (fun h17 => ?_)
        · skip
          refine e_iinc (pc := 26) (lo' := [(2, 16), (0, x), (0, ((bitsTo (fun c => decide (mem 20 c = x)) k : Nat) : Int)), (0, (k : Int) + 1)]) dX1_comingAt_26 rfl (by omega) rfl (by decide) rfl ?_
          refine e_goto (pc := 29) (tgt := 4) dX1_comingAt_29 rfl ?_
          exact Ev.to (ih4 _ (by omega) (k + 1) (rfl) (by omega)) ((by rw [show bitsTo (fun c => decide (mem 20 c = x)) (k + 1) = bitsTo (fun c => decide (mem 20 c = x)) k from (by show (if decide (mem 20 k = x) = true then _ else _) = _; rw [if_neg (by simpa using h17)])]; rfl)) rfl rfl
        · skip
          refine e_iloadn (pc := 20) dX1_comingAt_20 rfl rfl ?_
          refine e_iconst (pc := 21) dX1_comingAt_21 (by decide) ?_
          refine e_iloadn (pc := 22) dX1_comingAt_22 rfl rfl ?_
          refine e_ishl (pc := 23) dX1_comingAt_23 ?_
          rw [show bShl 1 (k : Int) = ((2 ^ k : Nat) : Int) from one_shl (by omega)]
          refine e_ior (pc := 24) dX1_comingAt_24 ?_
          rw [show bOr ((bitsTo (fun c => decide (mem 20 c = x)) k : Nat) : Int) ((2 ^ k : Nat) : Int) = ((bitsTo (fun c => decide (mem 20 c = x)) k ||| 2 ^ k : Nat) : Int) from bOr_nat (by omega) (by omega)]
          refine e_istoren (pc := 25) (lo' := [(2, 16), (0, x), (0, ((bitsTo (fun c => decide (mem 20 c = x)) k ||| 2 ^ k : Nat) : Int)), (0, (k : Int))]) dX1_comingAt_25 rfl rfl (by decide) rfl ?_
          refine e_iinc (pc := 26) (lo' := [(2, 16), (0, x), (0, ((bitsTo (fun c => decide (mem 20 c = x)) k ||| 2 ^ k : Nat) : Int)), (0, (k : Int) + 1)]) dX1_comingAt_26 rfl (by omega) rfl (by decide) rfl ?_
          refine e_goto (pc := 29) (tgt := 4) dX1_comingAt_29 rfl ?_
          exact Ev.to (ih4 _ (by omega) (k + 1) (rfl) (by omega)) ((by rw [show bitsTo (fun c => decide (mem 20 c = x)) (k + 1) = bitsTo (fun c => decide (mem 20 c = x)) k ||| 2 ^ k from (by show (if decide (mem 20 k = x) = true then _ else _) = _; rw [if_pos (by simpa using h17)])]; rfl)) rfl rfl
  exact Ev.to (L4 _ 0 (rfl) (by omega)) rfl rfl rfl

theorem t_aimsTogether_16 (G : Gm) (mem : Mem) (ha : ∀ c, c < 8 → 0 ≤ mem 19 c ∧ mem 19 c ≤ 60) : Con G mX1_aimsTogether [(2, 16)] mem (fun r m' => r = some (0, sumTo (fun c => if mem 18 c = 0 then mem 19 c else 0) 8) ∧ m' = mem) := by
  refine Con.of (lo := [(2, 16), (3, 0), (3, 0)]) (by decide +kernel) (Nat.le_of_ble_eq_true rfl) rfl ?_
  generalize hQ_ : (fun r m' => r = some (0, sumTo (fun c => if mem 18 c = 0 then mem 19 c else 0) 8) ∧ m' = mem : Option AV → Mem → Prop) = Q_
  refine e_iconst (pc := 0) dX1_aimsTogether_0 (by decide) ?_
  refine e_istoren (pc := 1) (lo' := [(2, 16), (0, 0), (3, 0)]) dX1_aimsTogether_1 rfl rfl (by decide) rfl ?_
  refine e_iconst (pc := 2) dX1_aimsTogether_2 (by decide) ?_
  refine e_istoren (pc := 3) (lo' := [(2, 16), (0, 0), (0, 0)]) dX1_aimsTogether_3 rfl rfl (by decide) rfl ?_
  have L4 : ∀ (n_ : Nat) (k : Nat), 8 - k = n_ → (k ≤ 8) → Ev G mX1_aimsTogether Q_ 4 [(2, 16), (0, sumTo (fun c => if mem 18 c = 0 then mem 19 c else 0) k), (0, (k : Int))] [] mem := by
    intro n_
    induction n_ using Nat.strongRecOn with
    | ind n_ ih4 =>
      intro k hn_ hk
      have hb := sumTo_bd (f := (fun c => if mem 18 c = 0 then mem 19 c else 0)) (a := 0) (b := 60) (n := k) (fun j hj => by have := ha j (by omega); show 0 ≤ (if mem 18 j = 0 then mem 19 j else 0) ∧ (if mem 18 j = 0 then mem 19 j else 0) ≤ 60; split <;> omega)
      have hb2 := ha k
      refine e_iloadn (pc := 4) dX1_aimsTogether_4 rfl rfl ?_
      refine e_bipush (pc := 5) dX1_aimsTogether_5 rfl (by decide) ?_
      refine e_icmp_ge (pc := 7) (tgt := 34) dX1_aimsTogether_7 rfl (fun h7 => ?_) (fun h7 => ?_)
      · skip
        refine e_iloadn (pc := 34) dX1_aimsTogether_34 rfl rfl ?_
        exact e_iret (pc := 35) dX1_aimsTogether_35 rfl (by rw [← hQ_, show k = 8 by omega]; exact ⟨rfl, rfl⟩)
      · skip
        refine e_aloadn (pc := 10) dX1_aimsTogether_10 rfl rfl ?_
        refine e_getr (pc := 11) (k := 18) dX1_aimsTogether_11 fX1_18 s_16 rfl (by decide) ?_
        refine e_iloadn (pc := 14) dX1_aimsTogether_14 rfl rfl ?_
        refine e_ialdv (pc := 15) (v := mem 18 k) dX1_aimsTogether_15 s_18 (by omega) rfl ?_
        refine e_if_ne (pc := 16) (tgt := 28) dX1_aimsTogether_16 rfl (fun h16 => ?_) (fun h16 => ?_)
        · skip
          refine e_iinc (pc := 28) (lo' := [(2, 16), (0, sumTo (fun c => if mem 18 c = 0 then mem 19 c else 0) k), (0, (k : Int) + 1)]) dX1_aimsTogether_28 rfl (by omega) rfl (by decide) rfl ?_
          refine e_goto (pc := 31) (tgt := 4) dX1_aimsTogether_31 rfl ?_
          exact Ev.to (ih4 _ (by omega) (k + 1) (rfl) (by omega)) ((by rw [show sumTo (fun c => if mem 18 c = 0 then mem 19 c else 0) (k + 1) = sumTo (fun c => if mem 18 c = 0 then mem 19 c else 0) k from (by show _ + (if mem 18 k = 0 then _ else _) = _; rw [if_neg (by omega), Int.add_zero])]; rfl)) rfl rfl
        · skip
          refine e_iloadn (pc := 19) dX1_aimsTogether_19 rfl rfl ?_
          refine e_aloadn (pc := 20) dX1_aimsTogether_20 rfl rfl ?_
          refine e_getr (pc := 21) (k := 19) dX1_aimsTogether_21 fX1_21 s_16 rfl (by decide) ?_
          refine e_iloadn (pc := 24) dX1_aimsTogether_24 rfl rfl ?_
          refine e_ialdv (pc := 25) (v := mem 19 k) dX1_aimsTogether_25 s_19 (by omega) rfl ?_
          refine e_iaddn (pc := 26) dX1_aimsTogether_26 (by omega) ?_
          refine e_istoren (pc := 27) (lo' := [(2, 16), (0, (sumTo (fun c => if mem 18 c = 0 then mem 19 c else 0) k) + (mem 19 k)), (0, (k : Int))]) dX1_aimsTogether_27 rfl rfl (by decide) rfl ?_
          refine e_iinc (pc := 28) (lo' := [(2, 16), (0, (sumTo (fun c => if mem 18 c = 0 then mem 19 c else 0) k) + (mem 19 k)), (0, (k : Int) + 1)]) dX1_aimsTogether_28 rfl (by omega) rfl (by decide) rfl ?_
          refine e_goto (pc := 31) (tgt := 4) dX1_aimsTogether_31 rfl ?_
          exact Ev.to (ih4 _ (by omega) (k + 1) (rfl) (by omega)) ((by rw [show sumTo (fun c => if mem 18 c = 0 then mem 19 c else 0) (k + 1) = sumTo (fun c => if mem 18 c = 0 then mem 19 c else 0) k + mem 19 k from (by show _ + (if mem 18 k = 0 then _ else _) = _; rw [if_pos (by omega)])]; rfl)) rfl rfl
  exact Ev.to (L4 _ 0 (rfl) (by omega)) rfl rfl rfl

def mpR (kd : Nat → Int) (b : Int) (k : Nat) : Nat → Int := fun j => if j < k ∧ bt b j = 1 then 1 else kd j
theorem mpR_0 (kd : Nat → Int) (b : Int) : mpR kd b 0 = kd := by funext j; unfold mpR; rw [if_neg (by omega)]
theorem mpR_t {kd : Nat → Int} {b : Int} {k : Nat} (h : bt b k = 1) : uset (mpR kd b k) k 1 = mpR kd b (k + 1) := by
  funext j; unfold uset mpR
  by_cases e : j = k
  · subst e; rw [if_pos rfl, if_pos ⟨by omega, h⟩]
  · rw [if_neg e]
    by_cases h2 : j < k ∧ bt b j = 1
    · rw [if_pos h2, if_pos ⟨by omega, h2.2⟩]
    · rw [if_neg h2, if_neg (fun q => h2 ⟨by omega, q.2⟩)]
theorem mpR_f {kd : Nat → Int} {b : Int} {k : Nat} (h : bt b k = 0) : mpR kd b k = mpR kd b (k + 1) := by
  funext j; unfold mpR
  by_cases h2 : j < k ∧ bt b j = 1
  · rw [if_pos h2, if_pos ⟨by omega, h2.2⟩]
  · rw [if_neg h2, if_neg]
    rintro ⟨q1, q2⟩
    rcases Nat.lt_or_ge j k with z | z
    · exact h2 ⟨z, q2⟩
    · rw [show j = k by omega, h] at q2; cases q2

theorem t_makePunctual_25 (G : Gm) (mem : Mem) (b : Int) (hb : 0 ≤ b ∧ b < 256) : Con G mX1_makePunctual [(2, 25), (0, b)] mem (fun r m' => r = none ∧ m' = rset mem 27 (mpR (mem 27) b 8)) := by
  refine Con.of (lo := [(2, 25), (0, b), (3, 0)]) (by decide +kernel) (Nat.le_of_ble_eq_true rfl) rfl ?_
  generalize hQ_ : (fun r m' => r = none ∧ m' = rset mem 27 (mpR (mem 27) b 8) : Option AV → Mem → Prop) = Q_
  refine e_iconst (pc := 0) dX1_makePunctual_0 (by decide) ?_
  refine e_istoren (pc := 1) (lo' := [(2, 25), (0, b), (0, 0)]) dX1_makePunctual_1 rfl rfl (by decide) rfl ?_
  have L2 : ∀ (n_ : Nat) (k : Nat), 8 - k = n_ → (k ≤ 8) → Ev G mX1_makePunctual Q_ 2 [(2, 25), (0, b), (0, (k : Int))] [] (rset mem 27 (mpR (mem 27) b k)) := by
    intro n_
    induction n_ using Nat.strongRecOn with
    | ind n_ ih2 =>
      intro k hn_ hk
      refine e_iloadn (pc := 2) dX1_makePunctual_2 rfl rfl ?_
      refine e_bipush (pc := 3) dX1_makePunctual_3 rfl (by decide) ?_
      refine e_icmp_ge (pc := 5) (tgt := 29) dX1_makePunctual_5 rfl (fun h5 => ?_) (fun h5 => ?_)
      · skip
        exact e_vret (pc := 29) dX1_makePunctual_29 rfl (by rw [← hQ_, show k = 8 by omega]; exact ⟨rfl, rfl⟩)
      · skip
        refine e_iloadn (pc := 8) dX1_makePunctual_8 rfl rfl ?_
        refine e_iloadn (pc := 9) dX1_makePunctual_9 rfl rfl ?_
        refine e_ishr (pc := 10) dX1_makePunctual_10 ?_
        refine e_iconst (pc := 11) dX1_makePunctual_11 (by decide) ?_
        refine e_iand (pc := 12) dX1_makePunctual_12 ?_
        rw [show bAnd (bShr b (k : Int)) 1 = bt b k from bt_eq hb.1 (by omega) (by omega)]
        refine e_if_eq (pc := 13) (tgt := 23) dX1_makePunctual_13 rfl (fun h13 => ?_) (fun h13 => ?_)
        · skip
          refine e_iinc (pc := 23) (lo' := [(2, 25), (0, b), (0, (k : Int) + 1)]) dX1_makePunctual_23 rfl (by omega) rfl (by decide) rfl ?_
          refine e_goto (pc := 26) (tgt := 2) dX1_makePunctual_26 rfl ?_
          exact Ev.to (ih2 _ (by omega) (k + 1) (rfl) (by omega)) rfl rfl (by rw [mpR_f h13])
        · skip
          refine e_aloadn (pc := 16) dX1_makePunctual_16 rfl rfl ?_
          refine e_getr (pc := 17) (k := 27) dX1_makePunctual_17 fX1_18 s_25 rfl (by decide) ?_
          refine e_iloadn (pc := 20) dX1_makePunctual_20 rfl rfl ?_
          refine e_iconst (pc := 21) dX1_makePunctual_21 (by decide) ?_
          refine e_iastm (pc := 22) (mem2 := rset mem 27 (mpR (mem 27) b (k + 1))) dX1_makePunctual_22 s_27 (by omega) (by rw [mset_rset, Int.toNat_natCast, mpR_t (by have := bt_01 b k; omega)]) ?_
          refine e_iinc (pc := 23) (lo' := [(2, 25), (0, b), (0, (k : Int) + 1)]) dX1_makePunctual_23 rfl (by omega) rfl (by decide) rfl ?_
          refine e_goto (pc := 26) (tgt := 2) dX1_makePunctual_26 rfl ?_
          exact Ev.to (ih2 _ (by omega) (k + 1) (rfl) (by omega)) rfl rfl rfl
  exact Ev.to (L2 _ 0 (rfl) (by omega)) rfl rfl (by rw [mpR_0, rset_self])

def scB (c j : Nat) : Bool := c == 26 || c == 27 || c == 28 || (c == 25 && (j == 4 || j == 5))
def Becomes (mem m' : Mem) : Prop := Fr scB mem m' ∧ (∀ j, j < 3 → m' 26 j = mem 17 j) ∧ (∀ j, j < 8 → m' 27 j = mem 18 j) ∧ (∀ j, j < 8 → m' 28 j = mem 19 j) ∧ m' 25 4 = 0 ∧ m' 25 5 = 0

theorem t_becomes (G : Gm) (mem : Mem) : Con G mX1_becomes [(2, 25), (2, 16)] mem (fun r m' => r = none ∧ Becomes mem m') := by
  refine Con.of (lo := [(2, 25), (2, 16)]) (by decide +kernel) (Nat.le_of_ble_eq_true rfl) rfl ?_
  generalize hQ_ : (fun r m' => r = none ∧ Becomes mem m' : Option AV → Mem → Prop) = Q_
  refine e_aloadn (pc := 0) dX1_becomes_0 rfl rfl ?_
  refine e_getr (pc := 1) (k := 17) dX1_becomes_1 fX1_13 s_16 rfl (by decide) ?_
  refine e_iconst (pc := 4) dX1_becomes_4 (by decide) ?_
  refine e_aloadn (pc := 5) dX1_becomes_5 rfl rfl ?_
  refine e_getr (pc := 6) (k := 26) dX1_becomes_6 fX1_13 s_25 rfl (by decide) ?_
  refine e_iconst (pc := 9) dX1_becomes_9 (by decide) ?_
  refine e_getsN (pc := 10) rfl dX1_becomes_10 ?_
  refine e_salen (pc := 13) (k := 3) dX1_becomes_13 (by decide) ?_
  refine e_copy (pc := 14) dX1_becomes_14 lX1_cp47 (by decide) rfl s_17 s_26 (by decide) (by decide) ?_
  refine e_aloadn (pc := 17) dX1_becomes_17 rfl rfl ?_
  refine e_getr (pc := 18) (k := 18) dX1_becomes_18 fX1_18 s_16 rfl (by decide) ?_
  refine e_iconst (pc := 21) dX1_becomes_21 (by decide) ?_
  refine e_aloadn (pc := 22) dX1_becomes_22 rfl rfl ?_
  refine e_getr (pc := 23) (k := 27) dX1_becomes_23 fX1_18 s_25 rfl (by decide) ?_
  refine e_iconst (pc := 26) dX1_becomes_26 (by decide) ?_
  refine e_bipush (pc := 27) dX1_becomes_27 rfl (by decide) ?_
  refine e_copy (pc := 29) dX1_becomes_29 lX1_cp47 (by decide) rfl s_18 s_27 (by decide) (by decide) ?_
  refine e_aloadn (pc := 32) dX1_becomes_32 rfl rfl ?_
  refine e_getr (pc := 33) (k := 19) dX1_becomes_33 fX1_21 s_16 rfl (by decide) ?_
  refine e_iconst (pc := 36) dX1_becomes_36 (by decide) ?_
  refine e_aloadn (pc := 37) dX1_becomes_37 rfl rfl ?_
  refine e_getr (pc := 38) (k := 28) dX1_becomes_38 fX1_21 s_25 rfl (by decide) ?_
  refine e_iconst (pc := 41) dX1_becomes_41 (by decide) ?_
  refine e_bipush (pc := 42) dX1_becomes_42 rfl (by decide) ?_
  refine e_copy (pc := 44) dX1_becomes_44 lX1_cp47 (by decide) rfl s_19 s_28 (by decide) (by decide) ?_
  refine e_aloadn (pc := 47) dX1_becomes_47 rfl rfl ?_
  refine e_iconst (pc := 48) dX1_becomes_48 (by decide) ?_
  refine e_putI (pc := 49) (mem2 := mset (rset (rset (rset mem 26 (cpy (mem 17) (mem 26) 0 0 3)) 27 (cpy ((rset mem 26 (cpy (mem 17) (mem 26) 0 0 3)) 18) ((rset mem 26 (cpy (mem 17) (mem 26) 0 0 3)) 27) 0 0 8)) 28 (cpy ((rset (rset mem 26 (cpy (mem 17) (mem 26) 0 0 3)) 27 (cpy ((rset mem 26 (cpy (mem 17) (mem 26) 0 0 3)) 18) ((rset mem 26 (cpy (mem 17) (mem 26) 0 0 3)) 27) 0 0 8)) 19) ((rset (rset mem 26 (cpy (mem 17) (mem 26) 0 0 3)) 27 (cpy ((rset mem 26 (cpy (mem 17) (mem 26) 0 0 3)) 18) ((rset mem 26 (cpy (mem 17) (mem 26) 0 0 3)) 27) 0 0 8)) 28) 0 0 8)) 25 4 0) dX1_becomes_49 fX1_53 s_25 rfl (by decide) pw_1_4 rfl ?_
  refine e_aloadn (pc := 52) dX1_becomes_52 rfl rfl ?_
  refine e_iconst (pc := 53) dX1_becomes_53 (by decide) ?_
  refine e_putI (pc := 54) (mem2 := mset (mset (rset (rset (rset mem 26 (cpy (mem 17) (mem 26) 0 0 3)) 27 (cpy ((rset mem 26 (cpy (mem 17) (mem 26) 0 0 3)) 18) ((rset mem 26 (cpy (mem 17) (mem 26) 0 0 3)) 27) 0 0 8)) 28 (cpy ((rset (rset mem 26 (cpy (mem 17) (mem 26) 0 0 3)) 27 (cpy ((rset mem 26 (cpy (mem 17) (mem 26) 0 0 3)) 18) ((rset mem 26 (cpy (mem 17) (mem 26) 0 0 3)) 27) 0 0 8)) 19) ((rset (rset mem 26 (cpy (mem 17) (mem 26) 0 0 3)) 27 (cpy ((rset mem 26 (cpy (mem 17) (mem 26) 0 0 3)) 18) ((rset mem 26 (cpy (mem 17) (mem 26) 0 0 3)) 27) 0 0 8)) 28) 0 0 8)) 25 4 0) 25 5 0) dX1_becomes_54 fX1_57 s_25 rfl (by decide) pw_1_5 rfl ?_
  refine e_vret (pc := 57) dX1_becomes_57 rfl ?_
  rw [← hQ_]
  refine ⟨rfl, (((((Fr.rf.rs (fun _ => rfl)).rs (fun _ => rfl)).rs (fun _ => rfl)).ms rfl).ms rfl), fun j hj => ?_, fun j hj => ?_, fun j hj => ?_, rfl, rfl⟩
  · show cpy (mem 17) (mem 26) 0 0 3 j = mem 17 j
    unfold cpy
    rw [if_pos ⟨by omega, by omega⟩]
    congr 1; omega
  · show cpy (mem 18) (mem 27) 0 0 8 j = mem 18 j
    unfold cpy
    rw [if_pos ⟨by omega, by omega⟩]
    congr 1; omega
  · show cpy (mem 19) (mem 28) 0 0 8 j = mem 19 j
    unfold cpy
    rw [if_pos ⟨by omega, by omega⟩]
    congr 1; omega
