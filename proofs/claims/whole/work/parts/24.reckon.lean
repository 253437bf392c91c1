theorem kr_16 {mem : Mem} (hC : CoOk mem) (hE : EvOk16 mem) (op : Int) : ∀ c, c < 8 → isK (mem 18) (mem 16 5) op c = true → (1 ≤ mem 2 c ∧ mem 2 c ≤ 30) ∧ (1 ≤ mem 3 c ∧ mem 3 c ≤ 7) := by
  intro c hc hk
  unfold isK at hk
  have h1 : mem 18 c = 2 := by simp at hk; exact hk.1
  have h2 := (hE.2 c hc).2.2 h1
  have h3 := hC c hc
  omega
theorem fb_16 {mem : Mem} (hC : CoOk mem) (hE : EvOk16 mem) : ∀ c, c < 8 → 0 ≤ firmV (mem 18) (mem 19) (mem 17 0) (mem 16 4) (mem 9) c ∧ firmV (mem 18) (mem 19) (mem 17 0) (mem 16 4) (mem 9) c ≤ 60 := by
  intro c hc
  have h1 := hE.2 c hc
  have h2 := hE.1.1
  have h3 := hC c hc
  exact firmV_bd (by omega) (by omega) (by omega)
/-- gathered with o open, since the memory mem -/
def GS16 (mem zm : Mem) (o : Nat) : Prop := Fr (scG 16) mem zm ∧ (∀ c, c < 8 → 0 ≤ zm 20 c ∧ zm 20 c ≤ 60) ∧ ∃ (n : Nat) (w0 : Nat → Int), zm 16 11 = (n : Int) ∧ zm 16 13 = ((cnt (isK (mem 18) (mem 16 5) (o : Int)) 8 : Nat) : Int) ∧ GI (zm 22) (zm 23) w0 n (isF (mem 18) (mem 16 5) (o : Int)) (isK (mem 18) (mem 16 5) (o : Int)) (firmV (mem 18) (mem 19) (mem 17 0) (mem 16 4) (mem 9)) 8 ∧ ∀ c, c < 8 → isK (mem 18) (mem 16 5) (o : Int) c = false → c ≠ o → zm 20 c = if isF (mem 18) (mem 16 5) (o : Int) c then firmV (mem 18) (mem 19) (mem 17 0) (mem 16 4) (mem 9) c else 60

theorem t_gatherG_16 (G : Gm) (mem : Mem) (o : Nat) (hC : CoOk mem) (hE : EvOk16 mem) : Con G mX1_gather [(2, 16), (0, (o : Int))] mem (fun r m' => r = none ∧ GS16 mem m' o) := by
  refine (t_gather_16 G mem (o : Int) hC hE).mono (fun r m' h => ?_)
  obtain ⟨hr, h1, n, h2, h3, h4⟩ := h
  have h5 := h4.2.2.2.2.2
  refine ⟨hr, h1, fun c hc => ?_, n, m' 20, h2, h3, h4, fun c hc _ _ => h5 c hc⟩
  have h6 := fb_16 hC hE c hc
  rw [h5 c hc]
  split <;> omega

theorem t_settleG_16 (G : Gm) (mem zm : Mem) (o : Nat) (x : Int) (hC : CoOk mem) (hE : EvOk16 mem) (hR : RuOk mem) (ho : o < 8) (hx : 0 ≤ x ∧ x ≤ 60) (hk : mem 18 o = 0) (hl : bt (mem 16 4) o = 0) (ha : bt (mem 16 5) o = 0) (hG : GS16 mem zm o) : Con G mX1_settle [(2, 16), (0, (o : Int)), (0, x)] zm (fun r m' => r = some (0, stF mem (mem 18) (uset (mem 19) o x) (mem 17 0) (mem 16 4) (mem 16 5) (mem 9) (mem 2) (mem 3)) ∧ (0 ≤ stF mem (mem 18) (uset (mem 19) o x) (mem 17 0) (mem 16 4) (mem 16 5) (mem 9) (mem 2) (mem 3) ∧ stF mem (mem 18) (uset (mem 19) o x) (mem 17 0) (mem 16 4) (mem 16 5) (mem 9) (mem 2) (mem 3) ≤ 60) ∧ GS16 mem m' o ∧ ∀ c, c < 8 → m' 20 c = whF (mem 18) (uset (mem 19) o x) (mem 17 0) (mem 16 4) (mem 16 5) (mem 9) (mem 2) (mem 3) c) := by
  obtain ⟨zf, zw, n, w0, h11, h13, hGI, hwn⟩ := hG
  have zq17 : zm 17 = mem 17 := funext (fun j => zf 17 j rfl)
  have zq18 : zm 18 = mem 18 := funext (fun j => zf 18 j rfl)
  have zq19 : zm 19 = mem 19 := funext (fun j => zf 19 j rfl)
  have zq2 : zm 2 = mem 2 := funext (fun j => zf 2 j rfl)
  have zq3 : zm 3 = mem 3 := funext (fun j => zf 3 j rfl)
  have zq5 : zm 5 = mem 5 := funext (fun j => zf 5 j rfl)
  have zq6 : zm 6 = mem 6 := funext (fun j => zf 6 j rfl)
  have zq7 : zm 7 = mem 7 := funext (fun j => zf 7 j rfl)
  have zq9 : zm 9 = mem 9 := funext (fun j => zf 9 j rfl)
  have zq12 : zm 12 = mem 12 := funext (fun j => zf 12 j rfl)
  have zq13 : zm 13 = mem 13 := funext (fun j => zf 13 j rfl)
  have zq14 : zm 14 = mem 14 := funext (fun j => zf 14 j rfl)
  have zq15 : zm 15 = mem 15 := funext (fun j => zf 15 j rfl)
  have zql : zm 16 4 = mem 16 4 := zf 16 4 rfl
  have zqa : zm 16 5 = mem 16 5 := zf 16 5 rfl
  have zqr : zm 10 4 = mem 10 4 := zf 10 4 rfl
  have hKo : isK (mem 18) (mem 16 5) (o : Int) o = false := by unfold isK; simp [hk]
  have hFo : isF (mem 18) (mem 16 5) (o : Int) o = false := by unfold isF; simp
  have hkr := kr_16 hC hE (o : Int)
  have zKo := isK_op (kd := mem 18) (aw := mem 16 5) (o := o) (by rw [hk]; decide)
  refine (t_settleB_16 G zm n (isF (mem 18) (mem 16 5) (o : Int)) (isK (mem 18) (mem 16 5) (o : Int)) (firmV (mem 18) (mem 19) (mem 17 0) (mem 16 4) (mem 9)) w0 h11 h13 hGI (fun c _ h => isFK h) (by rw [zq2, zq3]; exact hkr) zw (RuOk.mv zqr zq12 zq13 zq14 zq15 hR) (by rw [zq17]; exact hE.1.1) o x ho hx hFo hKo hwn).mono (fun r m' h => ?_)
  obtain ⟨v, hr, hf2, hvb, hvt, hcm⟩ := h
  rw [zq2, zq3] at hcm
  rw [zq17] at hvt
  have hcm2 := hcm.congr (fm' := fmR (mem 18) (uset (mem 19) o x) (mem 17 0) (mem 16 4) (mem 16 5) (mem 9)) (fun c hc _ => fmR_open hk ha hl hx.2)
  obtain ⟨e1, e2⟩ := stF_of (mem := mem) (v := v) (kd := mem 18) (am := uset (mem 19) o x) (told := mem 17 0) (late := mem 16 4) (aw := mem 16 5) (dl := mem 9) hcm2 ⟨hvb, fun t h0 h1 => (hvt t h0 h1).trans (RB_mv zqr zq12 zq13 zq14 zq15)⟩ (fun c hc => zKo c) (fun c _ _ => rfl) (fun c hc h => (hkr c hc (by rw [zKo c]; exact h)).1.1)
  have zf2 : Fr (scG 16) mem m' := zf.tr (hf2.mono (fun c j q => by unfold scL; unfold scG at q; simp at q ⊢; omega))
  refine ⟨by rw [hr, e1], by rw [← e1]; exact hvb, ⟨zf2, fun c hc => (hcm c hc).1, n, w0, (hf2 16 11 rfl).trans h11, (hf2 16 13 rfl).trans h13, ?_, fun c hc hkc hne => ?_⟩, e2⟩
  · rw [show m' 22 = zm 22 from funext (fun j => hf2 22 j rfl), show m' 23 = zm 23 from funext (fun j => hf2 23 j rfl)]; exact hGI
  · have h9 := fb_16 hC hE c hc
    have h8 := hcm.own hc hkc (by show 0 ≤ (if c = o then x else _) ∧ (if c = o then x else _) ≤ 60; rw [if_neg hne]; split <;> omega)
    rw [h8]
    show (if c = o then x else _) = _
    rw [if_neg hne]

theorem t_reckon_16 (G : Gm) (mem : Mem) (hC : CoOk mem) (hE : EvOk16 mem) (hR : RuOk mem) : Con G mX1_reckon [(2, 16)] mem (fun r m' => r = some (0, stF mem (mem 18) (mem 19) (mem 17 0) (mem 16 4) (mem 16 5) (mem 9) (mem 2) (mem 3)) ∧ (0 ≤ stF mem (mem 18) (mem 19) (mem 17 0) (mem 16 4) (mem 16 5) (mem 9) (mem 2) (mem 3) ∧ stF mem (mem 18) (mem 19) (mem 17 0) (mem 16 4) (mem 16 5) (mem 9) (mem 2) (mem 3) ≤ 60) ∧ Fr (scG 16) mem m' ∧ ∀ c, c < 8 → m' 20 c = whF (mem 18) (mem 19) (mem 17 0) (mem 16 4) (mem 16 5) (mem 9) (mem 2) (mem 3) c) := by
  refine Con.of (lo := [(2, 16)]) (by decide +kernel) (Nat.le_of_ble_eq_true rfl) rfl ?_
  generalize hQ_ : (fun r m' => r = some (0, stF mem (mem 18) (mem 19) (mem 17 0) (mem 16 4) (mem 16 5) (mem 9) (mem 2) (mem 3)) ∧ (0 ≤ stF mem (mem 18) (mem 19) (mem 17 0) (mem 16 4) (mem 16 5) (mem 9) (mem 2) (mem 3) ∧ stF mem (mem 18) (mem 19) (mem 17 0) (mem 16 4) (mem 16 5) (mem 9) (mem 2) (mem 3) ≤ 60) ∧ Fr (scG 16) mem m' ∧ ∀ c, c < 8 → m' 20 c = whF (mem 18) (mem 19) (mem 17 0) (mem 16 4) (mem 16 5) (mem 9) (mem 2) (mem 3) c : Option AV → Mem → Prop) = Q_
  refine e_aloadn (pc := 0) dX1_reckon_0 rfl rfl ?_
  refine e_iconst (pc := 1) dX1_reckon_1 (by decide) ?_
  refine e_callV (pc := 2) (as := [(0, -1)]) (st := []) (t_gather_16 G mem (-1) hC hE) dX1_reckon_2 lX1_reckon_60 rfl s_16 cn_1 rfl rfl (fun r_ zm hq_ => ?_)
  obtain ⟨zr_, zf, n, h11, h13, hGI⟩ := hq_
  subst zr_
  refine Ev.to (st' := []) ?_ rfl rfl rfl
  refine e_aloadn (pc := 5) dX1_reckon_5 rfl rfl ?_
  refine e_iconst (pc := 6) dX1_reckon_6 (by decide) ?_
  refine e_bipush (pc := 7) dX1_reckon_7 rfl (by decide) ?_
  have zq17 : zm 17 = mem 17 := funext (fun j => zf 17 j rfl)
  have zq18 : zm 18 = mem 18 := funext (fun j => zf 18 j rfl)
  have zq19 : zm 19 = mem 19 := funext (fun j => zf 19 j rfl)
  have zq2 : zm 2 = mem 2 := funext (fun j => zf 2 j rfl)
  have zq3 : zm 3 = mem 3 := funext (fun j => zf 3 j rfl)
  have zq5 : zm 5 = mem 5 := funext (fun j => zf 5 j rfl)
  have zq6 : zm 6 = mem 6 := funext (fun j => zf 6 j rfl)
  have zq7 : zm 7 = mem 7 := funext (fun j => zf 7 j rfl)
  have zq9 : zm 9 = mem 9 := funext (fun j => zf 9 j rfl)
  have zq12 : zm 12 = mem 12 := funext (fun j => zf 12 j rfl)
  have zq13 : zm 13 = mem 13 := funext (fun j => zf 13 j rfl)
  have zq14 : zm 14 = mem 14 := funext (fun j => zf 14 j rfl)
  have zq15 : zm 15 = mem 15 := funext (fun j => zf 15 j rfl)
  have zql : zm 16 4 = mem 16 4 := zf 16 4 rfl
  have zqa : zm 16 5 = mem 16 5 := zf 16 5 rfl
  have zqr : zm 10 4 = mem 10 4 := zf 10 4 rfl
  have hkr := kr_16 hC hE (-1)
  have hwn := hGI.2.2.2.2.2
  have zfb := fb_16 hC hE
  refine e_callV (pc := 9) (as := [(0, -1), (0, 60)]) (st := []) (t_settleA_16 G zm n (isF (mem 18) (mem 16 5) (-1)) (isK (mem 18) (mem 16 5) (-1)) (firmV (mem 18) (mem 19) (mem 17 0) (mem 16 4) (mem 9)) (zm 20) h11 h13 hGI (fun c _ h => isFK h) (by rw [zq2, zq3]; exact hkr) (fun c hc => by rw [hwn c hc]; have := zfb c hc; split <;> omega) (RuOk.mv zqr zq12 zq13 zq14 zq15 hR) (by rw [zq17]; exact hE.1.1) (fun c hc _ => hwn c hc)) dX1_reckon_9 lX1_reckon_64 rfl s_16 cn_1 rfl rfl (fun r_ zm2 hq_ => ?_)
  obtain ⟨zv, zr_, hf2, hvb, hvt, hcm⟩ := hq_
  subst zr_
  rw [zq2, zq3] at hcm
  rw [zq17] at hvt
  refine Ev.to (st' := [(0, zv)]) ?_ rfl rfl rfl
  obtain ⟨e1, e2⟩ := stF_of (mem := mem) (v := zv) (kd := mem 18) (am := mem 19) (told := mem 17 0) (late := mem 16 4) (aw := mem 16 5) (dl := mem 9) hcm ⟨hvb, fun t h0 h1 => (hvt t h0 h1).trans (RB_mv zqr zq12 zq13 zq14 zq15)⟩ (fun c hc => rfl) (fun c _ _ => rfl) (fun c hc h => (hkr c hc h).1.1)
  have zf2 : Fr (scG 16) mem zm2 := zf.tr (hf2.mono (fun c j q => by unfold scL; unfold scG at q; simp at q ⊢; omega))
  exact e_iret (pc := 12) dX1_reckon_12 rfl (by rw [← hQ_]; exact ⟨by rw [e1], by rw [← e1]; exact hvb, zf2, e2⟩)

theorem kr_25 {mem : Mem} (hC : CoOk mem) (hE : EvOk25 mem) (op : Int) : ∀ c, c < 8 → isK (mem 27) (mem 25 5) op c = true → (1 ≤ mem 2 c ∧ mem 2 c ≤ 30) ∧ (1 ≤ mem 3 c ∧ mem 3 c ≤ 7) := by
  intro c hc hk
  unfold isK at hk
  have h1 : mem 27 c = 2 := by simp at hk; exact hk.1
  have h2 := (hE.2 c hc).2.2 h1
  have h3 := hC c hc
  omega
theorem fb_25 {mem : Mem} (hC : CoOk mem) (hE : EvOk25 mem) : ∀ c, c < 8 → 0 ≤ firmV (mem 27) (mem 28) (mem 26 0) (mem 25 4) (mem 9) c ∧ firmV (mem 27) (mem 28) (mem 26 0) (mem 25 4) (mem 9) c ≤ 60 := by
  intro c hc
  have h1 := hE.2 c hc
  have h2 := hE.1.1
  have h3 := hC c hc
  exact firmV_bd (by omega) (by omega) (by omega)
/-- gathered with o open, since the memory mem -/
def GS25 (mem zm : Mem) (o : Nat) : Prop := Fr (scG 25) mem zm ∧ (∀ c, c < 8 → 0 ≤ zm 29 c ∧ zm 29 c ≤ 60) ∧ ∃ (n : Nat) (w0 : Nat → Int), zm 25 11 = (n : Int) ∧ zm 25 13 = ((cnt (isK (mem 27) (mem 25 5) (o : Int)) 8 : Nat) : Int) ∧ GI (zm 31) (zm 32) w0 n (isF (mem 27) (mem 25 5) (o : Int)) (isK (mem 27) (mem 25 5) (o : Int)) (firmV (mem 27) (mem 28) (mem 26 0) (mem 25 4) (mem 9)) 8 ∧ ∀ c, c < 8 → isK (mem 27) (mem 25 5) (o : Int) c = false → c ≠ o → zm 29 c = if isF (mem 27) (mem 25 5) (o : Int) c then firmV (mem 27) (mem 28) (mem 26 0) (mem 25 4) (mem 9) c else 60

theorem t_gatherG_25 (G : Gm) (mem : Mem) (o : Nat) (hC : CoOk mem) (hE : EvOk25 mem) : Con G mX1_gather [(2, 25), (0, (o : Int))] mem (fun r m' => r = none ∧ GS25 mem m' o) := by
  refine (t_gather_25 G mem (o : Int) hC hE).mono (fun r m' h => ?_)
  obtain ⟨hr, h1, n, h2, h3, h4⟩ := h
  have h5 := h4.2.2.2.2.2
  refine ⟨hr, h1, fun c hc => ?_, n, m' 29, h2, h3, h4, fun c hc _ _ => h5 c hc⟩
  have h6 := fb_25 hC hE c hc
  rw [h5 c hc]
  split <;> omega

theorem t_settleG_25 (G : Gm) (mem zm : Mem) (o : Nat) (x : Int) (hC : CoOk mem) (hE : EvOk25 mem) (hR : RuOk mem) (ho : o < 8) (hx : 0 ≤ x ∧ x ≤ 60) (hk : mem 27 o = 0) (hl : bt (mem 25 4) o = 0) (ha : bt (mem 25 5) o = 0) (hG : GS25 mem zm o) : Con G mX1_settle [(2, 25), (0, (o : Int)), (0, x)] zm (fun r m' => r = some (0, stF mem (mem 27) (uset (mem 28) o x) (mem 26 0) (mem 25 4) (mem 25 5) (mem 9) (mem 2) (mem 3)) ∧ (0 ≤ stF mem (mem 27) (uset (mem 28) o x) (mem 26 0) (mem 25 4) (mem 25 5) (mem 9) (mem 2) (mem 3) ∧ stF mem (mem 27) (uset (mem 28) o x) (mem 26 0) (mem 25 4) (mem 25 5) (mem 9) (mem 2) (mem 3) ≤ 60) ∧ GS25 mem m' o ∧ ∀ c, c < 8 → m' 29 c = whF (mem 27) (uset (mem 28) o x) (mem 26 0) (mem 25 4) (mem 25 5) (mem 9) (mem 2) (mem 3) c) := by
  obtain ⟨zf, zw, n, w0, h11, h13, hGI, hwn⟩ := hG
  have zq26 : zm 26 = mem 26 := funext (fun j => zf 26 j rfl)
  have zq27 : zm 27 = mem 27 := funext (fun j => zf 27 j rfl)
  have zq28 : zm 28 = mem 28 := funext (fun j => zf 28 j rfl)
  have zq2 : zm 2 = mem 2 := funext (fun j => zf 2 j rfl)
  have zq3 : zm 3 = mem 3 := funext (fun j => zf 3 j rfl)
  have zq5 : zm 5 = mem 5 := funext (fun j => zf 5 j rfl)
  have zq6 : zm 6 = mem 6 := funext (fun j => zf 6 j rfl)
  have zq7 : zm 7 = mem 7 := funext (fun j => zf 7 j rfl)
  have zq9 : zm 9 = mem 9 := funext (fun j => zf 9 j rfl)
  have zq12 : zm 12 = mem 12 := funext (fun j => zf 12 j rfl)
  have zq13 : zm 13 = mem 13 := funext (fun j => zf 13 j rfl)
  have zq14 : zm 14 = mem 14 := funext (fun j => zf 14 j rfl)
  have zq15 : zm 15 = mem 15 := funext (fun j => zf 15 j rfl)
  have zql : zm 25 4 = mem 25 4 := zf 25 4 rfl
  have zqa : zm 25 5 = mem 25 5 := zf 25 5 rfl
  have zqr : zm 10 4 = mem 10 4 := zf 10 4 rfl
  have hKo : isK (mem 27) (mem 25 5) (o : Int) o = false := by unfold isK; simp [hk]
  have hFo : isF (mem 27) (mem 25 5) (o : Int) o = false := by unfold isF; simp
  have hkr := kr_25 hC hE (o : Int)
  have zKo := isK_op (kd := mem 27) (aw := mem 25 5) (o := o) (by rw [hk]; decide)
  refine (t_settleB_25 G zm n (isF (mem 27) (mem 25 5) (o : Int)) (isK (mem 27) (mem 25 5) (o : Int)) (firmV (mem 27) (mem 28) (mem 26 0) (mem 25 4) (mem 9)) w0 h11 h13 hGI (fun c _ h => isFK h) (by rw [zq2, zq3]; exact hkr) zw (RuOk.mv zqr zq12 zq13 zq14 zq15 hR) (by rw [zq26]; exact hE.1.1) o x ho hx hFo hKo hwn).mono (fun r m' h => ?_)
  obtain ⟨v, hr, hf2, hvb, hvt, hcm⟩ := h
  rw [zq2, zq3] at hcm
  rw [zq26] at hvt
  have hcm2 := hcm.congr (fm' := fmR (mem 27) (uset (mem 28) o x) (mem 26 0) (mem 25 4) (mem 25 5) (mem 9)) (fun c hc _ => fmR_open hk ha hl hx.2)
  obtain ⟨e1, e2⟩ := stF_of (mem := mem) (v := v) (kd := mem 27) (am := uset (mem 28) o x) (told := mem 26 0) (late := mem 25 4) (aw := mem 25 5) (dl := mem 9) hcm2 ⟨hvb, fun t h0 h1 => (hvt t h0 h1).trans (RB_mv zqr zq12 zq13 zq14 zq15)⟩ (fun c hc => zKo c) (fun c _ _ => rfl) (fun c hc h => (hkr c hc (by rw [zKo c]; exact h)).1.1)
  have zf2 : Fr (scG 25) mem m' := zf.tr (hf2.mono (fun c j q => by unfold scL; unfold scG at q; simp at q ⊢; omega))
  refine ⟨by rw [hr, e1], by rw [← e1]; exact hvb, ⟨zf2, fun c hc => (hcm c hc).1, n, w0, (hf2 25 11 rfl).trans h11, (hf2 25 13 rfl).trans h13, ?_, fun c hc hkc hne => ?_⟩, e2⟩
  · rw [show m' 31 = zm 31 from funext (fun j => hf2 31 j rfl), show m' 32 = zm 32 from funext (fun j => hf2 32 j rfl)]; exact hGI
  · have h9 := fb_25 hC hE c hc
    have h8 := hcm.own hc hkc (by show 0 ≤ (if c = o then x else _) ∧ (if c = o then x else _) ≤ 60; rw [if_neg hne]; split <;> omega)
    rw [h8]
    show (if c = o then x else _) = _
    rw [if_neg hne]

theorem t_reckon_25 (G : Gm) (mem : Mem) (hC : CoOk mem) (hE : EvOk25 mem) (hR : RuOk mem) : Con G mX1_reckon [(2, 25)] mem (fun r m' => r = some (0, stF mem (mem 27) (mem 28) (mem 26 0) (mem 25 4) (mem 25 5) (mem 9) (mem 2) (mem 3)) ∧ (0 ≤ stF mem (mem 27) (mem 28) (mem 26 0) (mem 25 4) (mem 25 5) (mem 9) (mem 2) (mem 3) ∧ stF mem (mem 27) (mem 28) (mem 26 0) (mem 25 4) (mem 25 5) (mem 9) (mem 2) (mem 3) ≤ 60) ∧ Fr (scG 25) mem m' ∧ ∀ c, c < 8 → m' 29 c = whF (mem 27) (mem 28) (mem 26 0) (mem 25 4) (mem 25 5) (mem 9) (mem 2) (mem 3) c) := by
  refine Con.of (lo := [(2, 25)]) (by decide +kernel) (Nat.le_of_ble_eq_true rfl) rfl ?_
  generalize hQ_ : (fun r m' => r = some (0, stF mem (mem 27) (mem 28) (mem 26 0) (mem 25 4) (mem 25 5) (mem 9) (mem 2) (mem 3)) ∧ (0 ≤ stF mem (mem 27) (mem 28) (mem 26 0) (mem 25 4) (mem 25 5) (mem 9) (mem 2) (mem 3) ∧ stF mem (mem 27) (mem 28) (mem 26 0) (mem 25 4) (mem 25 5) (mem 9) (mem 2) (mem 3) ≤ 60) ∧ Fr (scG 25) mem m' ∧ ∀ c, c < 8 → m' 29 c = whF (mem 27) (mem 28) (mem 26 0) (mem 25 4) (mem 25 5) (mem 9) (mem 2) (mem 3) c : Option AV → Mem → Prop) = Q_
  refine e_aloadn (pc := 0) dX1_reckon_0 rfl rfl ?_
  refine e_iconst (pc := 1) dX1_reckon_1 (by decide) ?_
  refine e_callV (pc := 2) (as := [(0, -1)]) (st := []) (t_gather_25 G mem (-1) hC hE) dX1_reckon_2 lX1_reckon_60 rfl s_25 cn_1 rfl rfl (fun r_ zm hq_ => ?_)
  obtain ⟨zr_, zf, n, h11, h13, hGI⟩ := hq_
  subst zr_
  refine Ev.to (st' := []) ?_ rfl rfl rfl
  refine e_aloadn (pc := 5) dX1_reckon_5 rfl rfl ?_
  refine e_iconst (pc := 6) dX1_reckon_6 (by decide) ?_
  refine e_bipush (pc := 7) dX1_reckon_7 rfl (by decide) ?_
  have zq26 : zm 26 = mem 26 := funext (fun j => zf 26 j rfl)
  have zq27 : zm 27 = mem 27 := funext (fun j => zf 27 j rfl)
  have zq28 : zm 28 = mem 28 := funext (fun j => zf 28 j rfl)
  have zq2 : zm 2 = mem 2 := funext (fun j => zf 2 j rfl)
  have zq3 : zm 3 = mem 3 := funext (fun j => zf 3 j rfl)
  have zq5 : zm 5 = mem 5 := funext (fun j => zf 5 j rfl)
  have zq6 : zm 6 = mem 6 := funext (fun j => zf 6 j rfl)
  have zq7 : zm 7 = mem 7 := funext (fun j => zf 7 j rfl)
  have zq9 : zm 9 = mem 9 := funext (fun j => zf 9 j rfl)
  have zq12 : zm 12 = mem 12 := funext (fun j => zf 12 j rfl)
  have zq13 : zm 13 = mem 13 := funext (fun j => zf 13 j rfl)
  have zq14 : zm 14 = mem 14 := funext (fun j => zf 14 j rfl)
  have zq15 : zm 15 = mem 15 := funext (fun j => zf 15 j rfl)
  have zql : zm 25 4 = mem 25 4 := zf 25 4 rfl
  have zqa : zm 25 5 = mem 25 5 := zf 25 5 rfl
  have zqr : zm 10 4 = mem 10 4 := zf 10 4 rfl
  have hkr := kr_25 hC hE (-1)
  have hwn := hGI.2.2.2.2.2
  have zfb := fb_25 hC hE
  refine e_callV (pc := 9) (as := [(0, -1), (0, 60)]) (st := []) (t_settleA_25 G zm n (isF (mem 27) (mem 25 5) (-1)) (isK (mem 27) (mem 25 5) (-1)) (firmV (mem 27) (mem 28) (mem 26 0) (mem 25 4) (mem 9)) (zm 29) h11 h13 hGI (fun c _ h => isFK h) (by rw [zq2, zq3]; exact hkr) (fun c hc => by rw [hwn c hc]; have := zfb c hc; split <;> omega) (RuOk.mv zqr zq12 zq13 zq14 zq15 hR) (by rw [zq26]; exact hE.1.1) (fun c hc _ => hwn c hc)) dX1_reckon_9 lX1_reckon_64 rfl s_25 cn_1 rfl rfl (fun r_ zm2 hq_ => ?_)
  obtain ⟨zv, zr_, hf2, hvb, hvt, hcm⟩ := hq_
  subst zr_
  rw [zq2, zq3] at hcm
  rw [zq26] at hvt
  refine Ev.to (st' := [(0, zv)]) ?_ rfl rfl rfl
  obtain ⟨e1, e2⟩ := stF_of (mem := mem) (v := zv) (kd := mem 27) (am := mem 28) (told := mem 26 0) (late := mem 25 4) (aw := mem 25 5) (dl := mem 9) hcm ⟨hvb, fun t h0 h1 => (hvt t h0 h1).trans (RB_mv zqr zq12 zq13 zq14 zq15)⟩ (fun c hc => rfl) (fun c _ _ => rfl) (fun c hc h => (hkr c hc h).1.1)
  have zf2 : Fr (scG 25) mem zm2 := zf.tr (hf2.mono (fun c j q => by unfold scL; unfold scG at q; simp at q ⊢; omega))
  exact e_iret (pc := 12) dX1_reckon_12 rfl (by rw [← hQ_]; exact ⟨by rw [e1], by rw [← e1]; exact hvb, zf2, e2⟩)
