-- WHAT HOLDS BETWEEN TWO CALLS
def Jn (m : Mem) : Prop := CI m ∧ MI m m
theorem CI.eq {A B : Mem} (e : ∀ c, c < 49 → B c = A c) (h : CI A) : CI B := by
  obtain ⟨h1, h2, h3, h4, h5, h6⟩ := h
  refine ⟨?_, ?_, ?_, TxOk.mv (by rw [e 10 (by omega)]) (by rw [e 10 (by omega)]) (by rw [e 10 (by omega)]) (e 11 (by omega)) (e 12 (by omega)) (e 13 (by omega)) (e 14 (by omega)) (e 15 (by omega)) h4, ?_, ?_⟩
  · unfold CoOk; rw [e 2 (by omega), e 3 (by omega), e 5 (by omega), e 6 (by omega), e 7 (by omega), e 8 (by omega), e 9 (by omega)]; exact h1
  · unfold EvOk16; rw [e 2 (by omega), e 3 (by omega), e 17 (by omega), e 18 (by omega), e 19 (by omega), e 16 (by omega)]; exact h2
  · rw [e 16 (by omega)]; exact h3
  · unfold NmOk; rw [e 1 (by omega), e 18 (by omega), e 5 (by omega), e 6 (by omega), e 7 (by omega), e 8 (by omega), e 9 (by omega)]; exact h5
  · unfold ShOk; rw [e 47 (by omega), e 48 (by omega)]; exact h6
theorem scZ_row {m1 m2 : Mem} (h : Fr scZ m1 m2) {c : Nat} (hc : c < 49) : m2 c = m1 c := funext (fun j => h c j (by unfold scZ; simp; omega))
theorem scQ_hi {A m1 : Mem} (h : Fr scQ A m1) {c : Nat} (hc : 49 ≤ c) : m1 c = A c := funext (fun j => h c j (by unfold scQ; simp; omega))
theorem jn_gen {A1 m1 m2 : Mem} (hC : CI A1) (h1 : Fr scQ A1 m1) (h2 : Fr scZ m1 m2) (hM : MI A1 m2) : Jn m2 :=
  ⟨CI.eq (fun c hc => scZ_row h2 hc) (hC.fr h1), hM.st (fun c hc h3 h4 => (scZ_row h2 hc).trans (rQ h1 c h3 h4))⟩
theorem jn_query {mem m1 m2 : Mem} (hJ : Jn mem) (h1 : Fr scQ mem m1) (h2 : Fr scZ m1 m2) (hM : MI mem m2) : Jn m2 := jn_gen hJ.1 h1 h2 hM
theorem Jn.at {mem m1 : Mem} (hJ : Jn mem) (h : ∀ c, 49 ≤ c → m1 c = mem c) : MI mem m1 := hJ.2.own h
theorem Jn.atQ {mem m1 : Mem} (hJ : Jn mem) (h : Fr scQ mem m1) : MI mem m1 := hJ.at (fun c hc => scQ_hi h hc)
section CIU
variable {A : Mem}
theorem CI.sheets {B : Mem} (h : CI A) (e : ∀ c, c < 41 → B c = A c) (hS : ShOk B) : CI B := by
  obtain ⟨h1, h2, h3, h4, h5, h6⟩ := h
  refine ⟨?_, ?_, ?_, TxOk.mv (by rw [e 10 (by omega)]) (by rw [e 10 (by omega)]) (by rw [e 10 (by omega)]) (e 11 (by omega)) (e 12 (by omega)) (e 13 (by omega)) (e 14 (by omega)) (e 15 (by omega)) h4, ?_, hS⟩
  · unfold CoOk; rw [e 2 (by omega), e 3 (by omega), e 5 (by omega), e 6 (by omega), e 7 (by omega), e 8 (by omega), e 9 (by omega)]; exact h1
  · unfold EvOk16; rw [e 2 (by omega), e 3 (by omega), e 17 (by omega), e 18 (by omega), e 19 (by omega), e 16 (by omega)]; exact h2
  · rw [e 16 (by omega)]; exact h3
  · unfold NmOk; rw [e 1 (by omega), e 18 (by omega), e 5 (by omega), e 6 (by omega), e 7 (by omega), e 8 (by omega), e 9 (by omega)]; exact h5
theorem CI.meet (h : CI A) (f : Int) : CI (mset A 41 3 f) := h.sheets (fun c hc => mset_nc _ _ _ _ (by omega)) h.2.2.2.2.2
theorem CI.item (h : CI A) {s : Nat} (hs : s < 4) (f : Nat → Int) : CI (rset A (43 + s) f) := h.sheets (fun c hc => rset_ne _ _ _ (by omega)) (by
  unfold ShOk
  rw [rset_ne _ _ _ (show (47 : Nat) ≠ 43 + s by omega), rset_ne _ _ _ (show (48 : Nat) ≠ 43 + s by omega)]
  exact h.2.2.2.2.2)
theorem ci_get (h : CI A) (s f i : Int) : CI (nx_get A s f i) := by
  unfold nx_get
  split
  · exact h.meet _
  · exact h
theorem ci_put (h : CI A) (s f i v : Int) : CI (nx_put A s f i v) := by
  unfold nx_put
  split
  · rename_i q
    split
    · exact h.item (s := s.toNat) (by omega) (uset (A (43 + s.toNat)) i.toNat (lw5 f v))
    · exact h.meet _
  · exact h
theorem ci_copy (h : CI A) (s i t j n : Int) : CI (nx_copy A s i t j n) := by
  unfold nx_copy
  split
  · rename_i q
    split
    · exact h.meet _
    · split
      · exact h.meet _
      · split
        · exact h.meet _
        · exact h.item (s := t.toNat) (by omega) _
  · exact h
theorem ci_write (h : CI A) (s : Int) : CI (nx_write A s) := by
  unfold nx_write
  split
  · rename_i q
    split
    · exact h.meet _
    · exact h.item (s := s.toNat) (by omega) _
  · exact h
theorem sh_us {f : Nat → Int} {s s' : Nat} {v a b : Int} (h : a ≤ f s' ∧ f s' ≤ b) (hv : a ≤ v ∧ v ≤ b) : a ≤ uset f s v s' ∧ uset f s v s' ≤ b := by
  unfold uset
  split
  · exact hv
  · exact h
theorem ci_lose (h : CI A) (s : Int) : CI (nx_lose A s) := by
  unfold nx_lose
  split
  · split
    · exact h.meet _
    · refine h.sheets (fun c hc => by rw [mset_nc _ _ _ _ (by omega), mset_nc _ _ _ _ (by omega)]) (fun s' hs' => ?_)
      have := h.2.2.2.2.2 s' hs'
      show (-1 ≤ uset (A 47) s.toNat (-1) s' ∧ uset (A 47) s.toNat (-1) s' ≤ 2) ∧ (0 ≤ uset (A 48) s.toNat 0 s' ∧ uset (A 48) s.toNat 0 s' ≤ 64)
      exact ⟨sh_us this.1 (by omega), sh_us this.2 (by omega)⟩
  · exact h
theorem ci_sheet (h : CI A) (s f n : Int) : CI (nx_sheet A s f n) := by
  unfold nx_sheet
  split
  · rename_i q
    split
    · exact h.meet _
    · refine CI.item (A := mset (mset A 47 s.toNat f) 48 s.toNat n) ?_ (s := s.toNat) (by omega) _
      refine h.sheets (fun c hc => by rw [mset_nc _ _ _ _ (by omega), mset_nc _ _ _ _ (by omega)]) (fun s' hs' => ?_)
      have := h.2.2.2.2.2 s' hs'
      show (-1 ≤ uset (A 47) s.toNat f s' ∧ uset (A 47) s.toNat f s' ≤ 2) ∧ (0 ≤ uset (A 48) s.toNat n s' ∧ uset (A 48) s.toNat n s' ≤ 64)
      exact ⟨sh_us this.1 (by omega), sh_us this.2 (by omega)⟩
  · exact h
theorem CI.aims (h : CI A) {f : Nat → Int} (hf : ∀ c, c < 8 → 0 ≤ f c ∧ f c ≤ 60) : CI (rset A 19 f) := by
  obtain ⟨h1, h2, h3, h4, h5, h6⟩ := h
  refine ⟨h1, ⟨h2.1, fun c hc => ?_⟩, h3, TxOk.mv rfl rfl rfl rfl rfl rfl rfl rfl h4, h5, h6⟩
  have := h2.2 c hc
  exact ⟨this.1, hf c hc, this.2.2⟩
theorem ci_aim (h : CI A) (comer minute : Int) : CI (nx_aim A comer minute) := by
  unfold nx_aim
  split
  · rename_i q
    exact h.aims (f := uset (A 19) comer.toNat minute) (fun c hc => sh_us (h.2.1.2 c hc).2.1 q.2)
  · exact h
theorem rdA_bd {kd it : Nat → Int} {sz : Int} {am : Nat → Int} (h : ∀ c, c < 8 → 0 ≤ am c ∧ am c ≤ 60) : ∀ k : Nat, ∀ c, c < 8 → 0 ≤ (rdA kd it sz am k).2.2 c ∧ (rdA kd it sz am k).2.2 c ≤ 60
  | 0 => h
  | k + 1 => fun c hc => by
    have ih := rdA_bd (kd := kd) (it := it) (sz := sz) h k c hc
    rw [rdA_s]
    split
    · split
      · exact ih
      · rename_i z
        exact sh_us ih (by omega)
    · exact ih
theorem ci_read (h : CI A) (s : Int) : CI (nx_read A s) := by
  unfold nx_read
  split
  · split
    · exact h.meet _
    · exact h.aims (rdA_bd (fun c hc => (h.2.1.2 c hc).2.1) 8)
  · exact h
theorem ci_set (h : CI A) (wh v : Int) : CI (nx_set A wh v) := by
  unfold nx_set
  split
  · rename_i q
    obtain ⟨h1, h2, h3, h4, h5, h6⟩ := h
    refine ⟨h1, ?_, h3, TxOk.mv rfl rfl rfl rfl rfl rfl rfl rfl h4, h5, h6⟩
    show EvR (uset (A 17) wh.toNat v) (A 18) (A 19) (A 16 4) (A 16 5) (A 2) (A 3)
    refine ⟨?_, h2.2⟩
    obtain ⟨a1, a2, a3, a4, a5⟩ := h2.1
    unfold uset
    rcases (show wh = 0 ∨ wh = 1 ∨ wh = 2 by omega) with rfl | rfl | rfl
    · exact ⟨by show 0 ≤ v ∧ v ≤ 59; omega, a2, a3, a4, a5⟩
    · exact ⟨a1, by show 0 ≤ v ∧ v ≤ 99; omega, a3, a4, a5⟩
    · exact ⟨a1, a2, by show 0 ≤ v ∧ v ≤ 99; omega, a4, a5⟩
  · exact h
theorem CI.txt {B : Mem} (h : CI A) (hB : Fr scT A B) (hT : TxOk B) : CI B := by
  have r : ∀ c, c < 10 ∨ 15 < c → B c = A c := fun c hc => funext (fun j => hB c j (by unfold scT scJ; simp; omega))
  obtain ⟨h1, h2, h3, h4, h5, h6⟩ := h
  refine ⟨?_, ?_, ?_, hT, ?_, ?_⟩
  · unfold CoOk; rw [r 2 (by omega), r 3 (by omega), r 5 (by omega), r 6 (by omega), r 7 (by omega), r 8 (by omega), r 9 (by omega)]; exact h1
  · unfold EvOk16; rw [r 2 (by omega), r 3 (by omega), r 17 (by omega), r 18 (by omega), r 19 (by omega), r 16 (by omega)]; exact h2
  · rw [r 16 (by omega)]; exact h3
  · unfold NmOk; rw [r 1 (by omega), r 18 (by omega), r 5 (by omega), r 6 (by omega), r 7 (by omega), r 8 (by omega), r 9 (by omega)]; exact h5
  · unfold ShOk; rw [r 47 (by omega), r 48 (by omega)]; exact h6
theorem ci_type {B : Mem} (h : CI A) {b : Int} (hT : TyR A B b) : CI B := by
  unfold TyR at hT
  split at hT
  · exact h.txt hT.1 hT.2.2.2
  · rw [hT]; exact h
/-- a row of what is minded is changed at one place -/
theorem ci_cost (h : CI A) (comer wh v : Int) : CI (nx_cost A comer wh v) := by
  unfold nx_cost
  split
  · rename_i q
    obtain ⟨⟨q1, q2, q3⟩, q4⟩ := q
    obtain ⟨h1, h2, h3, h4, h5, h6⟩ := h
    obtain ⟨n, n1, n2, n3⟩ := h5
    have hcn : comer.toNat < n := by have := (n3 comer.toNat (by omega)).1; omega
    rcases (show wh = 0 ∨ wh = 1 ∨ wh = 2 ∨ wh = 3 ∨ wh = 4 by omega) with rfl | rfl | rfl | rfl | rfl
    · refine ⟨fun c hc => ?_, h2, h3, TxOk.mv rfl rfl rfl rfl rfl rfl rfl rfl h4, ⟨n, n1, n2, fun c hc => ⟨(n3 c hc).1, fun z => ?_, (n3 c hc).2.2⟩⟩, h6⟩
      · obtain ⟨a1, a2⟩ := h1 c hc
        exact ⟨sh_us a1 (by omega), a2⟩
      · obtain ⟨b1, b2⟩ := (n3 c hc).2.1 z
        exact ⟨(uset_ne _ _ (by omega)).trans b1, b2⟩
    · refine ⟨fun c hc => ?_, h2, h3, TxOk.mv rfl rfl rfl rfl rfl rfl rfl rfl h4, ⟨n, n1, n2, fun c hc => ⟨(n3 c hc).1, fun z => ?_, (n3 c hc).2.2⟩⟩, h6⟩
      · obtain ⟨a1, a2, a3⟩ := h1 c hc
        exact ⟨a1, sh_us a2 (by omega), a3⟩
      · obtain ⟨b1, b2, b3⟩ := (n3 c hc).2.1 z
        exact ⟨b1, (uset_ne _ _ (by omega)).trans b2, b3⟩
    · refine ⟨fun c hc => ?_, h2, h3, TxOk.mv rfl rfl rfl rfl rfl rfl rfl rfl h4, ⟨n, n1, n2, fun c hc => ⟨(n3 c hc).1, fun z => ?_, (n3 c hc).2.2⟩⟩, h6⟩
      · obtain ⟨a1, a2, a3, a4⟩ := h1 c hc
        exact ⟨a1, a2, sh_us a3 (by omega), a4⟩
      · obtain ⟨b1, b2, b3, b4⟩ := (n3 c hc).2.1 z
        exact ⟨b1, b2, (uset_ne _ _ (by omega)).trans b3, b4⟩
    · refine ⟨fun c hc => ?_, h2, h3, TxOk.mv rfl rfl rfl rfl rfl rfl rfl rfl h4, ⟨n, n1, n2, fun c hc => ⟨(n3 c hc).1, fun z => ?_, fun z => ?_⟩⟩, h6⟩
      · obtain ⟨a1, a2, a3, a4, a5⟩ := h1 c hc
        exact ⟨a1, a2, a3, sh_us a4 (by omega), a5⟩
      · obtain ⟨b1, b2, b3, b4, b5⟩ := (n3 c hc).2.1 z
        exact ⟨b1, b2, b3, (uset_ne _ _ (by omega)).trans b4, b5⟩
      · have z2 : A 18 c = 2 := z
        have hne : c ≠ comer.toNat := fun y => by rw [y] at z2; omega
        exact (uset_ne _ _ hne).trans ((n3 c hc).2.2 z)
    · refine ⟨fun c hc => ?_, h2, h3, TxOk.mv rfl rfl rfl rfl rfl rfl rfl rfl h4, ⟨n, n1, n2, fun c hc => ⟨(n3 c hc).1, fun z => ?_, (n3 c hc).2.2⟩⟩, h6⟩
      · obtain ⟨a1, a2, a3, a4, a5, a6⟩ := h1 c hc
        exact ⟨a1, a2, a3, a4, sh_us a5 (by omega), a6⟩
      · obtain ⟨b1, b2, b3, b4, b5⟩ := (n3 c hc).2.1 z
        exact ⟨b1, b2, b3, b4, (uset_ne _ _ (by omega)).trans b5⟩
  · exact h
theorem ci_comer (h : CI A) (kind a b : Int) : CI (nx_comer A kind a b) := by
  unfold nx_comer
  split
  · rename_i q
    obtain ⟨q1, q2, q3⟩ := q
    obtain ⟨h1, h2, h3, h4, h5, h6⟩ := h
    obtain ⟨n, n1, n2, n3⟩ := h5
    have hn : (A 1 0).toNat = n := by omega
    rw [n1] at q2 q3 ⊢
    rw [Int.toNat_natCast]
    have hlag : 0 ≤ (if kind = 2 then a else 0) ∧ (if kind = 2 then a else 0) ≤ 30 := by split <;> omega
    have hsee : 0 ≤ (if kind = 2 then b else 0) ∧ (if kind = 2 then b else 0) ≤ 7 := by split <;> omega
    have haim : 0 ≤ (if kind = 0 then a else 0) ∧ (if kind = 0 then a else 0) ≤ 60 := by split <;> omega
    refine ⟨fun c hc => ?_, ⟨h2.1, fun c hc => ?_⟩, h3, TxOk.mv rfl rfl rfl rfl rfl rfl rfl rfl h4, ⟨n + 1, rfl, by omega, fun c hc => ?_⟩, h6⟩
    · obtain ⟨a1, a2, a3, a4, a5, a6, a7⟩ := h1 c hc
      exact ⟨a1, a2, a3, a4, a5, sh_us a6 hlag, sh_us a7 hsee⟩
    · obtain ⟨a1, a2, a3⟩ := h2.2 c hc
      refine ⟨sh_us a1 (by omega), sh_us a2 haim, fun z => ?_⟩
      show 1 ≤ uset (A 2) n (if kind = 2 then a else 0) c ∧ 1 ≤ uset (A 3) n (if kind = 2 then b else 0) c
      have z2 : uset (A 18) n kind c = 2 := z
      by_cases y : c = n
      · rw [y, uset_eq] at z2
        rw [y, uset_eq, uset_eq, if_pos z2, if_pos z2]
        omega
      · rw [uset_ne _ _ y] at z2
        rw [uset_ne _ _ y, uset_ne _ _ y]
        exact a3 z2
    · obtain ⟨b1, b2, b3⟩ := n3 c hc
      refine ⟨?_, fun z => b2 (by omega), fun z => ?_⟩
      · show uset (A 18) n kind c = -1 ↔ n + 1 ≤ c
        by_cases y : c = n
        · rw [y, uset_eq]; omega
        · rw [uset_ne _ _ y]; omega
      · have z2 : uset (A 18) n kind c = 2 := z
        by_cases y : c = n
        · exact (b2 (by omega)).2.2.2.1
        · rw [uset_ne _ _ y] at z2
          exact b3 z2
  · exact h
end CIU
