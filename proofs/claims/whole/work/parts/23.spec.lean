-- WHAT IT IS: arrivals and beginning as functions
def IsBeg (P : Int → Prop) (v : Int) : Prop := (0 ≤ v ∧ v ≤ 60) ∧ ∀ t, 0 ≤ t → t < 60 → (v ≤ t ↔ P t)
theorem IsBeg.one {P : Int → Prop} {v v' : Int} (h : IsBeg P v) (h' : IsBeg P v') : v = v' := by
  have a1 := h.1
  have a2 := h'.1
  rcases Int.lt_trichotomy v v' with q | q | q
  · have := (h'.2 v h.1.1 (by omega)).mpr ((h.2 v h.1.1 (by omega)).mp (Int.le_refl _)); omega
  · exact q
  · have := (h.2 v' h'.1.1 (by omega)).mpr ((h'.2 v' h'.1.1 (by omega)).mp (Int.le_refl _)); omega
theorem IsBeg.congr {P P' : Int → Prop} {v : Int} (h : IsBeg P v) (e : ∀ t, 0 ≤ t → t < 60 → (P t ↔ P' t)) : IsBeg P' v := ⟨h.1, fun t h0 h1 => (h.2 t h0 h1).trans (e t h0 h1)⟩
noncomputable def begF (P : Int → Prop) : Int := Classical.epsilon (fun v => IsBeg P v)
theorem begF_eq {P : Int → Prop} {v : Int} (h : IsBeg P v) : begF P = v := (Classical.epsilon_spec (p := fun v => IsBeg P v) ⟨v, h⟩).one h
noncomputable def comeF (fm : Nat → Int) (K : Nat → Bool) (lag seen : Nat → Int) : Nat → Int := Classical.epsilon (fun wh => IsCome fm K lag seen wh)
theorem comeF_is {fm : Nat → Int} {K : Nat → Bool} {lag seen wh : Nat → Int} (h : IsCome fm K lag seen wh) : IsCome fm K lag seen (comeF fm K lag seen) := Classical.epsilon_spec (p := fun wh => IsCome fm K lag seen wh) ⟨wh, h⟩
theorem comeF_eq {fm : Nat → Int} {K : Nat → Bool} {lag seen wh : Nat → Int} (h : IsCome fm K lag seen wh) (hl : ∀ c, c < 8 → K c = true → 1 ≤ lag c) : ∀ c, c < 8 → wh c = comeF fm K lag seen c := h.one (comeF_is h) hl
theorem RB_congr {mem : Mem} {told : Int} {wh wh' : Nat → Int} {t : Int} (e : ∀ c, c < 8 → (wh c ≤ t ↔ wh' c ≤ t)) : RB mem told wh t ↔ RB mem told wh' t := by
  unfold RB
  have e1 : cnO wh 8 t = cnO wh' 8 t := cnt_congr (fun c hc => by simp [e c hc])
  rw [e1]
  constructor
  · rintro ⟨j, h1, h2, h3, h4, h5⟩; exact ⟨j, h1, h2, h3, h4, fun c hc ht => (e c hc).mp (h5 c hc ht)⟩
  · rintro ⟨j, h1, h2, h3, h4, h5⟩; exact ⟨j, h1, h2, h3, h4, fun c hc ht => (e c hc).mpr (h5 c hc ht)⟩
/-- minutes of those who look at nobody; who looks -/
def fmR (kd am : Nat → Int) (told late aw : Int) (dl : Nat → Int) (c : Nat) : Int := if isF kd aw (-1) c then firmV kd am told late dl c else 60
noncomputable def whF (kd am : Nat → Int) (told late aw : Int) (dl lag seen : Nat → Int) : Nat → Int := comeF (fmR kd am told late aw dl) (isK kd aw (-1)) lag seen
noncomputable def stF (mem : Mem) (kd am : Nat → Int) (told late aw : Int) (dl lag seen : Nat → Int) : Int := begF (RB mem told (whF kd am told late aw dl lag seen))
/-- what was reckoned is what it is -/
theorem stF_of {mem : Mem} {kd am : Nat → Int} {told late aw : Int} {dl lag seen wh : Nat → Int} {v : Int} {fm : Nat → Int} {K : Nat → Bool} (hc : IsCome fm K lag seen wh) (hv : (0 ≤ v ∧ v ≤ 60) ∧ ∀ t, 0 ≤ t → t < 60 → (v ≤ t ↔ RB mem told wh t)) (hK : ∀ c, c < 8 → K c = isK kd aw (-1) c) (hf : ∀ c, c < 8 → K c = false → fm c = fmR kd am told late aw dl c) (hl : ∀ c, c < 8 → isK kd aw (-1) c = true → 1 ≤ lag c) :
    v = stF mem kd am told late aw dl lag seen ∧ ∀ c, c < 8 → wh c = whF kd am told late aw dl lag seen c := by
  have hc2 : IsCome (fmR kd am told late aw dl) (isK kd aw (-1)) lag seen wh := by
    intro c h8
    refine ⟨(hc c h8).1, fun t h0 h1 => ?_⟩
    rw [(hc c h8).2 t h0 h1, hK c h8]
    cases hk : isK kd aw (-1) c with
    | true => simp
    | false => rw [hf c h8 (by rw [hK c h8]; exact hk)]
  have e := comeF_eq hc2 hl
  refine ⟨(begF_eq (IsBeg.congr hv (fun t _ _ => RB_congr (fun c h8 => by rw [e c h8]; exact Iff.rfl)))).symm, e⟩
theorem isK_op {kd : Nat → Int} {aw : Int} {o : Nat} (hk : kd o ≠ 2) (c : Nat) : isK kd aw (o : Int) c = isK kd aw (-1) c := by
  unfold isK
  by_cases e : c = o
  · subst e; simp [hk]
  · have e1 : (c : Int) ≠ (o : Int) := by omega
    have e2 : (c : Int) ≠ -1 := by omega
    simp [e1, e2]
theorem isF_op {kd : Nat → Int} {aw : Int} {o c : Nat} (e : c ≠ o) : isF kd aw (o : Int) c = isF kd aw (-1) c := by
  unfold isF
  have e1 : (c : Int) ≠ (o : Int) := by omega
  have e2 : (c : Int) ≠ -1 := by omega
  simp [e1, e2]
theorem isFK {kd : Nat → Int} {aw op : Int} {c : Nat} (h : isK kd aw op c = true) : isF kd aw op c = false := by
  unfold isK at h; unfold isF; simp at h ⊢; omega
theorem bt_0 (c : Nat) : bt 0 c = 0 := by unfold bt; simp
/-- a plain comer's aim changed: the open one's minute -/
theorem fmR_open {kd am : Nat → Int} {told aw : Int} {late : Int} {dl : Nat → Int} {o c : Nat} {x : Int} (hk : kd o = 0) (ha : bt aw o = 0) (hl : bt late o = 0) (hx : x ≤ 60) : (if c = o then x else if isF kd aw (o : Int) c then firmV kd am told late dl c else 60) = fmR kd (uset am o x) told late aw dl c := by
  unfold fmR
  by_cases e : c = o
  · subst e
    have h1 : isF kd aw (-1) c = true := by unfold isF; simp [hk, ha]
    rw [if_pos rfl, if_pos h1]
    unfold firmV
    rw [if_pos hk, uset_eq, hl]
    simp
    omega
  · rw [if_neg e, isF_op e]
    have : firmV kd (uset am o x) told late dl c = firmV kd am told late dl c := by unfold firmV; rw [uset_ne _ _ e]
    rw [this]
theorem RB_mv {mem mv : Mem} {told : Int} {wh : Nat → Int} {t : Int} (h4 : mv 10 4 = mem 10 4) (h12 : mv 12 = mem 12) (h13 : mv 13 = mem 13) (h14 : mv 14 = mem 14) (h15 : mv 15 = mem 15) : RB mv told wh t ↔ RB mem told wh t := by
  unfold RB
  rw [h4, h12, h13, h14, h15]
/-- who looks at nobody comes at its own minute -/
theorem IsCome.own {fm lag seen wh : Nat → Int} {K : Nat → Bool} (h : IsCome fm K lag seen wh) {c : Nat} (hc : c < 8) (hk : K c = false) (hf : 0 ≤ fm c ∧ fm c ≤ 60) : wh c = fm c := by
  obtain ⟨h1, h2⟩ := h c hc
  have key : ∀ t, 0 ≤ t → t < 60 → (wh c ≤ t ↔ fm c ≤ t) := fun t h0 h3 => by rw [h2 t h0 h3, hk]; simp
  rcases Int.lt_trichotomy (wh c) (fm c) with q | q | q
  · have := (key (wh c) (by omega) (by omega)).mp (Int.le_refl _); omega
  · exact q
  · have := (key (fm c) (by omega) (by omega)).mpr (Int.le_refl _); omega
