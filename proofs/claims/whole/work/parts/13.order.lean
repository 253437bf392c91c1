-- frames: memory but for the places of S is as it was
def Fr (S : Nat → Nat → Bool) (mem mu : Mem) : Prop := ∀ c j, S c j = false → mu c j = mem c j
theorem Fr.rf {S : Nat → Nat → Bool} {mem : Mem} : Fr S mem mem := fun _ _ _ => rfl
theorem Fr.ms {S : Nat → Nat → Bool} {mem mu : Mem} (h : Fr S mem mu) {c j : Nat} {v : Int} (hs : S c j = true) : Fr S mem (mset mu c j v) := by
  intro c' j' h'
  rw [← h c' j' h']
  simp only [mset, rset, uset]
  split
  · rename_i e; subst e
    show (if j' = j then v else mu c' j') = mu c' j'
    split
    · rename_i e; subst e; rw [hs] at h'; cases h'
    · rfl
  · rfl
theorem Fr.rs {S : Nat → Nat → Bool} {mem mu : Mem} (h : Fr S mem mu) {c : Nat} {f : Nat → Int} (hs : ∀ j, S c j = true) : Fr S mem (rset mu c f) := by
  intro c' j' h'
  rw [← h c' j' h']
  simp only [rset]
  split
  · rename_i e; subst e; rw [hs] at h'; cases h'
  · rfl
theorem Fr.tr {S : Nat → Nat → Bool} {mem mu nu : Mem} (h : Fr S mem mu) (h2 : Fr S mu nu) : Fr S mem nu := fun c j hs => (h2 c j hs).trans (h c j hs)
theorem Fr.mono {S S' : Nat → Nat → Bool} {mem mu : Mem} (h : Fr S mem mu) (hs : ∀ c j, S' c j = false → S c j = false) : Fr S' mem mu := fun c j q => h c j (hs c j q)
-- counting
def cnt (p : Nat → Bool) : Nat → Nat
  | 0 => 0
  | n + 1 => cnt p n + if p n then 1 else 0
theorem cnt_congr {p q : Nat → Bool} : ∀ {n : Nat}, (∀ j, j < n → p j = q j) → cnt p n = cnt q n
  | 0, _ => rfl
  | n + 1, h => by unfold cnt; rw [cnt_congr (fun j hj => h j (by omega)), h n (by omega)]
theorem cnt_le (p : Nat → Bool) : ∀ n, cnt p n ≤ n
  | 0 => Nat.le_refl _
  | n + 1 => by
    have := cnt_le p n
    unfold cnt
    split <;> omega
theorem cnt_mono {p q : Nat → Bool} : ∀ {n : Nat}, (∀ j, j < n → p j = true → q j = true) → cnt p n ≤ cnt q n
  | 0, _ => Nat.le_refl _
  | n + 1, h => by
    have h1 := cnt_mono (n := n) (fun j hj => h j (by omega))
    have h2 := h n (by omega)
    unfold cnt
    by_cases hp : p n = true
    · rw [if_pos hp, if_pos (h2 hp)]; omega
    · rw [if_neg hp]; split <;> omega
theorem cnt_split (p : Nat → Bool) (m : Nat) : ∀ n, cnt p (m + n) = cnt p m + cnt (fun k => p (m + k)) n
  | 0 => rfl
  | n + 1 => by
    have ih := cnt_split p m n
    show cnt p (m + n) + (if p (m + n) then 1 else 0) = cnt p m + (cnt (fun k => p (m + k)) n + if p (m + n) then 1 else 0)
    omega
theorem cnt_all {p : Nat → Bool} : ∀ {n : Nat}, (∀ j, j < n → p j = true) → cnt p n = n
  | 0, _ => rfl
  | n + 1, h => by unfold cnt; rw [cnt_all (fun j hj => h j (by omega)), h n (by omega)]; rfl
theorem cnt_none {p : Nat → Bool} : ∀ {n : Nat}, (∀ j, j < n → p j = false) → cnt p n = 0
  | 0, _ => rfl
  | n + 1, h => by unfold cnt; rw [cnt_none (fun j hj => h j (by omega)), h n (by omega)]; rfl
theorem cnt_one {p q : Nat → Bool} {k n : Nat} (hk : k < n) (h : ∀ j, j < n → j ≠ k → p j = q j) (hp : p k = false) : cnt q n = cnt p n + if q k then 1 else 0 := by
  obtain ⟨r, rfl⟩ : ∃ r, n = k + (1 + r) := ⟨n - k - 1, by omega⟩
  rw [cnt_split, cnt_split, cnt_split, cnt_split]
  have e1 : cnt q k = cnt p k := cnt_congr (fun j hj => (h j (by omega) (by omega)).symm)
  have e2 : cnt (fun j => q (k + (1 + j))) r = cnt (fun j => p (k + (1 + j))) r := cnt_congr (fun j hj => (h _ (by omega) (by omega)).symm)
  have e3 : cnt (fun j => p (k + j)) 1 = 0 := by simp [cnt, hp]
  have e4 : cnt (fun j => q (k + j)) 1 = if q k then 1 else 0 := by simp [cnt]
  rw [e1, e2, e3, e4]
  omega
-- ordered rows
def Srt (f : Nat → Int) (n : Nat) : Prop := ∀ i j, i < j → j < n → f i ≤ f j
/-- how many of the first n are at most t -/
def cnO (f : Nat → Int) (n : Nat) (t : Int) : Nat := cnt (fun j => decide (f j ≤ t)) n
theorem srt_cnt {f : Nat → Int} {n j : Nat} (h : Srt f n) (hj : j < n) (t : Int) : f j ≤ t ↔ j < cnO f n t := by
  unfold cnO
  constructor
  · intro ht
    obtain ⟨r, rfl⟩ : ∃ r, n = (j + 1) + r := ⟨n - (j + 1), by omega⟩
    rw [cnt_split, cnt_all (n := j + 1)]
    · omega
    · intro i hi
      rcases Nat.lt_or_ge i j with q | q
      · have := h i j q hj
        simp; omega
      · rw [show i = j by omega]; simpa using ht
  · intro hc
    rcases Int.lt_or_le t (f j) with q | q
    · exfalso
      obtain ⟨r, rfl⟩ : ∃ r, n = j + r := ⟨n - j, by omega⟩
      rw [cnt_split, cnt_none (n := r)] at hc
      · have := cnt_le (fun i => decide (f i ≤ t)) j
        omega
      · intro i hi
        rcases Nat.eq_zero_or_pos i with e | e
        · subst e; simpa using q
        · have := h j (j + i) (by omega) (by omega)
          simp; omega
    · exact q
/-- the places behind p moved by one -/
def shf (f : Nat → Int) (n p : Nat) : Nat → Int := fun j => if p < j ∧ j ≤ n then f (j - 1) else f j
theorem shf_n (f : Nat → Int) (n : Nat) : shf f n n = f := by
  funext j; unfold shf; rw [if_neg (by omega)]
theorem shf_s (f : Nat → Int) (n p : Nat) (hp : p < n) : uset (shf f n (p + 1)) (p + 1) (f p) = shf f n p := by
  funext j
  unfold uset shf
  by_cases e : j = p + 1
  · subst e
    rw [if_pos rfl, if_pos (by omega)]
    rfl
  · rw [if_neg e]
    by_cases h : p < j ∧ j ≤ n
    · rw [if_pos h, if_pos (by omega)]
    · rw [if_neg h, if_neg (by omega)]
/-- x put in at place p -/
def ins (f : Nat → Int) (n p : Nat) (x : Int) : Nat → Int := uset (shf f n p) p x
def Ins (f g : Nat → Int) (n : Nat) (x : Int) : Prop := Srt g (n + 1) ∧ (∀ j, j < n + 1 → 0 ≤ g j ∧ g j < 60) ∧ (∀ t, cnO g (n + 1) t = cnO f n t + if x ≤ t then 1 else 0) ∧ ∀ j, j < n → f j ≤ x → g j = f j
theorem ins_ok {f : Nat → Int} {n p : Nat} {x : Int} (hs : Srt f n) (hr : ∀ j, j < n → 0 ≤ f j ∧ f j < 60) (hx : 0 ≤ x ∧ x < 60) (hp : p ≤ n) (h1 : ∀ j, j < p → f j ≤ x) (h2 : ∀ j, p ≤ j → j < n → x < f j) : Ins f (ins f n p x) n x := by
  have v1 : ∀ j, j < p → ins f n p x j = f j := fun j hj => by
    unfold ins; rw [uset_ne _ _ (by omega)]; unfold shf; rw [if_neg (by omega)]
  have v2 : ins f n p x p = x := by unfold ins; rw [uset_eq]
  have v3 : ∀ j, p < j → j ≤ n → ins f n p x j = f (j - 1) := fun j hj hj2 => by
    unfold ins; rw [uset_ne _ _ (by omega)]; unfold shf; rw [if_pos ⟨hj, hj2⟩]
  refine ⟨?_, ?_, ?_, ?_⟩
  · intro i j hij hj
    rcases Nat.lt_trichotomy j p with q | q | q
    · rw [v1 i (by omega), v1 j q]; exact hs i j hij (by omega)
    · subst q; rw [v1 i hij, v2]; exact h1 i hij
    · rw [v3 j q (by omega)]
      rcases Nat.lt_trichotomy i p with r | r | r
      · rw [v1 i r]; 
        rcases Nat.lt_or_ge i (j - 1) with z | z
        · exact hs i (j - 1) z (by omega)
        · rw [show i = j - 1 by omega]; exact Int.le_refl _
      · subst r; rw [v2]; have := h2 (j - 1) (by omega) (by omega); omega
      · rw [v3 i r (by omega)]; exact hs (i - 1) (j - 1) (by omega) (by omega)
  · intro j hj
    rcases Nat.lt_trichotomy j p with q | q | q
    · rw [v1 j q]; exact hr j (by omega)
    · subst q; rw [v2]; exact hx
    · rw [v3 j q (by omega)]; exact hr (j - 1) (by omega)
  · intro t
    unfold cnO
    obtain ⟨r, rfl⟩ : ∃ r, n = p + r := ⟨n - p, by omega⟩
    rw [show p + r + 1 = p + (1 + r) by omega, cnt_split, cnt_split, cnt_split (fun j => decide (f j ≤ t)) p r]
    have e1 : cnt (fun j => decide (ins f (p + r) p x j ≤ t)) p = cnt (fun j => decide (f j ≤ t)) p := cnt_congr (fun j hj => by rw [v1 j hj])
    have e2 : cnt (fun k => decide (ins f (p + r) p x (p + k) ≤ t)) 1 = if x ≤ t then 1 else 0 := by simp [cnt, v2]
    have e3 : cnt (fun k => decide (ins f (p + r) p x (p + (1 + k)) ≤ t)) r = cnt (fun k => decide (f (p + k) ≤ t)) r := cnt_congr (fun k hk => by rw [v3 _ (by omega) (by omega), show p + (1 + k) - 1 = p + k by omega])
    rw [e1, e2, e3]; omega
  · intro j hj hfx
    rcases Nat.lt_or_ge j p with q | q
    · exact v1 j q
    · have := h2 j q hj; omega
