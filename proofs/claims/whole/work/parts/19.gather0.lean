theorem cnt_kth {p : Nat → Bool} : ∀ {n j : Nat}, j < cnt p n → ∃ c, c < n ∧ p c = true ∧ cnt p c = j
  | 0, j, h => by simp [cnt] at h
  | n + 1, j, h => by
    rcases Nat.lt_or_ge j (cnt p n) with q | q
    · obtain ⟨c, h1, h2, h3⟩ := cnt_kth q; exact ⟨c, by omega, h2, h3⟩
    · unfold cnt at h
      by_cases hp : p n = true
      · rw [if_pos hp] at h; exact ⟨n, by omega, hp, by omega⟩
      · rw [if_neg hp] at h; omega
theorem cnt_lt_of {p : Nat → Bool} {c n : Nat} (hc : c < n) (hp : p c = true) : cnt p c < cnt p n := by
  obtain ⟨r, rfl⟩ : ∃ r, n = (c + 1) + r := ⟨n - (c + 1), by omega⟩
  rw [cnt_split]
  have : cnt p (c + 1) = cnt p c + 1 := by show cnt p c + (if p c then 1 else 0) = _; rw [if_pos hp]
  omega
theorem cnt_inj {p : Nat → Bool} {a b : Nat} (ha : p a = true) (hb : p b = true) (h : cnt p a = cnt p b) : a = b := by
  rcases Nat.lt_trichotomy a b with q | q | q
  · have := cnt_lt_of q ha; omega
  · exact q
  · have := cnt_lt_of q hb; omega
theorem Srt.congr {f g : Nat → Int} {n : Nat} (h : Srt f n) (e : ∀ j, j < n → g j = f j) : Srt g n := fun i j hij hj => by rw [e i (by omega), e j hj]; exact h i j hij hj
theorem cnO_congr {f g : Nat → Int} {n : Nat} {t : Int} (e : ∀ j, j < n → g j = f j) : cnO g n t = cnO f n t := cnt_congr (fun j hj => by rw [e j hj])
theorem LkOk_of {isL : Nat → Bool} {A lag seen : Nat → Int} (h : ∀ c, c < 8 → isL c = true → A (cnt isL c) = (c : Int)) (hr : ∀ c, c < 8 → isL c = true → (1 ≤ lag c ∧ lag c ≤ 30) ∧ (1 ≤ seen c ∧ seen c ≤ 7)) :
    LkOk (cnt isL 8) (fun j => (A j).toNat) isL lag seen ∧ ∀ j, j < cnt isL 8 → A j = ((A j).toNat : Int) := by
  have key : ∀ j, j < cnt isL 8 → ∃ c, c < 8 ∧ isL c = true ∧ cnt isL c = j ∧ A j = (c : Int) := by
    intro j hj
    obtain ⟨c, h1, h2, h3⟩ := cnt_kth hj
    exact ⟨c, h1, h2, h3, by rw [← h3]; exact h c h1 h2⟩
  refine ⟨⟨cnt_le _ _, fun j hj => ?_, fun i j hi hj e => ?_, fun c hc => ⟨fun q => ?_, ?_⟩⟩, fun j hj => ?_⟩
  · obtain ⟨c, h1, h2, h3, h4⟩ := key j hj
    have e : (A j).toNat = c := by rw [h4]; rfl
    show (A j).toNat < 8 ∧ (1 ≤ lag (A j).toNat ∧ lag (A j).toNat ≤ 30) ∧ (1 ≤ seen (A j).toNat ∧ seen (A j).toNat ≤ 7)
    rw [e]
    exact ⟨h1, hr c h1 h2⟩
  · obtain ⟨c, h1, h2, h3, h4⟩ := key i hi
    obtain ⟨c', h1', h2', h3', h4'⟩ := key j hj
    have e2 : (A i).toNat = (A j).toNat := e
    rw [h4, h4'] at e2
    have e3 : c = c' := e2
    rw [← h3, ← h3', e3]
  · exact ⟨cnt isL c, cnt_lt_of hc q, by show (A (cnt isL c)).toNat = c; rw [h c hc q]; rfl⟩
  · rintro ⟨j, hj, e⟩
    obtain ⟨c', h1, h2, h3, h4⟩ := key j hj
    have e2 : (A j).toNat = c := e
    rw [h4] at e2
    have e3 : c' = c := e2
    rw [← e3]; exact h2
  · obtain ⟨c, h1, h2, h3, h4⟩ := key j hj
    rw [h4]; rfl
theorem firmV_bd {kind aim : Nat → Int} {told late : Int} {dl : Nat → Int} {c : Nat} (ha : 0 ≤ aim c) (ht : 0 ≤ told) (hd : 0 ≤ dl c) : 0 ≤ firmV kind aim told late dl c ∧ firmV kind aim told late dl c ≤ 60 := by
  unfold firmV
  (repeat' split) <;> omega
/-- who comes at a minute of its own (but for the open one); who looks -/
def isF (kd : Nat → Int) (aw op : Int) (c : Nat) : Bool := decide (kd c ≠ -1 ∧ kd c ≠ 2 ∧ bt aw c = 0 ∧ (c : Int) ≠ op)
def isK (kd : Nat → Int) (aw op : Int) (c : Nat) : Bool := decide (kd c = 2 ∧ bt aw c = 0 ∧ (c : Int) ≠ op)
/-- what gather() leaves: the first k comers -/
def GI (od lkA wn : Nat → Int) (n : Nat) (F K : Nat → Bool) (fm : Nat → Int) (k : Nat) : Prop :=
  n ≤ k ∧ Srt od n ∧ (∀ j, j < n → 0 ≤ od j ∧ od j < 60) ∧ (∀ t, t < 60 → cnO od n t = cnt (fun c => F c && decide (fm c ≤ t)) k) ∧ (∀ c, c < k → K c = true → lkA (cnt K c) = (c : Int)) ∧ ∀ c, c < k → wn c = if F c then fm c else 60
theorem cnt_s (p : Nat → Bool) (k : Nat) : cnt p (k + 1) = cnt p k + if p k then 1 else 0 := rfl
section GI
variable {od lkA wn : Nat → Int} {n k : Nat} {F K : Nat → Bool} {fm : Nat → Int}
theorem GI.none (h : GI od lkA wn n F K fm k) (hF : F k = false) (hK : K k = false) : GI od lkA (uset wn k 60) n F K fm (k + 1) := by
  obtain ⟨h1, h2, h3, h4, h5, h6⟩ := h
  refine ⟨by omega, h2, h3, fun t ht => ?_, fun c hc hk => ?_, fun c hc => ?_⟩
  · rw [h4 t ht, cnt_s]; simp [hF]
  · rcases Nat.lt_or_ge c k with q | q
    · exact h5 c q hk
    · rw [show c = k by omega, hK] at hk; cases hk
  · unfold uset
    by_cases e : c = k
    · rw [if_pos e, e, hF]; rfl
    · rw [if_neg e]; exact h6 c (by omega)
theorem GI.look (h : GI od lkA wn n F K fm k) (hF : F k = false) (hK : K k = true) : GI od (uset lkA (cnt K k) (k : Int)) (uset wn k 60) n F K fm (k + 1) := by
  obtain ⟨h1, h2, h3, h4, h5, h6⟩ := h
  refine ⟨by omega, h2, h3, fun t ht => ?_, fun c hc hk => ?_, fun c hc => ?_⟩
  · rw [h4 t ht, cnt_s]; simp [hF]
  · rcases Nat.lt_or_ge c k with q | q
    · rw [uset_ne _ _ (Nat.ne_of_lt (cnt_lt_of q hk))]; exact h5 c q hk
    · rw [show c = k by omega, uset_eq]
  · unfold uset
    by_cases e : c = k
    · rw [if_pos e, e, hF]; rfl
    · rw [if_neg e]; exact h6 c (by omega)
theorem GI.wnk (h : GI od lkA wn n F K fm k) (hF : F k = true) (hK : K k = false) (n' : Nat) (od' : Nat → Int) (hn' : n' ≤ k + 1) (hs : Srt od' n') (hr : ∀ j, j < n' → 0 ≤ od' j ∧ od' j < 60) (hc : ∀ t, t < 60 → cnO od' n' t = cnO od n t + if fm k ≤ t then 1 else 0) : GI od' lkA (uset (uset wn k 60) k (fm k)) n' F K fm (k + 1) := by
  obtain ⟨h1, h2, h3, h4, h5, h6⟩ := h
  refine ⟨hn', hs, hr, fun t ht => ?_, fun c hc hk => ?_, fun c hc => ?_⟩
  · rw [hc t ht, h4 t ht, cnt_s]; simp [hF]
  · rcases Nat.lt_or_ge c k with q | q
    · exact h5 c q hk
    · rw [show c = k by omega, hK] at hk; cases hk
  · unfold uset
    by_cases e : c = k
    · rw [if_pos e, e, hF]; rfl
    · rw [if_neg e, if_neg e]; exact h6 c (by omega)
end GI
