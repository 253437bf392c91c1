-- the static rows at the start
theorem st_of {args : Array Value} {s : State} {A : Nat → Prop} (nmS : String) (vs : List Int) (hl : (Cond.laysStatic "HallMinutes" nmS "[I").before args s = true) (hini : (Cond.initialized "HallMinutes").before args s = true) (harr : (Cond.arrayOf (.static "HallMinutes" nmS "[I") .int).before args s = true) (hlen : (Cond.eq (.length (.static "HallMinutes" nmS "[I")) (.int (Int32.ofNat vs.length))).before args s = true)
    (hel : ∀ j, j < vs.length → (Cond.eq (.elem (.static "HallMinutes" nmS "[I") (.int (Int32.ofNat j))) (.int (Int32.ofInt (vs.getD j 0)))).before args s = true) (hA : ∀ a : Nat, a < s.heap.size → ¬ A a) (hN : vs.length < 2 ^ 31) : ∃ t : Nat, va_Z "HallMinutes" nmS "[I" (.ref t) A s s.heap ∧ va_T .int t vs.length (fun j => .int (Int32.ofInt (vs.getD j 0))) A s s.heap := by
  obtain ⟨t, ht, hT⟩ := va_Tof (f := fun j => .int (Int32.ofInt (vs.getD j 0))) (A := A) hN harr (va_eqt hlen) (fun j hj => va_eqt (hel j hj)) hA
  exact ⟨t, va_Zref hl hini ht hA, hT⟩
theorem st_all {s : State} {b : Nat} {A : Nat → Prop} (hts : ∀ w ∈ lw_tbl, w.before #[Value.ref b] s = true) (hgv : (Jvm.Cond.and given_1 narrow_1).before #[Value.ref b] s = true) (hA : ∀ a : Nat, a < s.heap.size → ¬ A a) : ∀ k, k < 4 → ∃ t : Nat, va_Z "HallMinutes" (stN k) "[I" (.ref t) A s s.heap ∧ va_T .int t (stV k).length (fun j => .int (Int32.ofInt ((stV k).getD j 0))) A s s.heap := by
  have hs := flat_of_before _ hgv
  intro k hk
  match k, hk with
  | 0, _ =>
    refine st_of "COST_AT_FIRST" [1, 1, 100, 0, 5] (hts _ (by decide +kernel)) (hts _ (by decide +kernel)) (hs _ (by decide +kernel)) (hs _ (by decide +kernel)) (fun j hj => ?_) hA (by decide)
    match j, hj with
    | 0, _ => exact hs _ (by decide +kernel)
    | 1, _ => exact hs _ (by decide +kernel)
    | 2, _ => exact hs _ (by decide +kernel)
    | 3, _ => exact hs _ (by decide +kernel)
    | 4, _ => exact hs _ (by decide +kernel)
  | 1, _ =>
    refine st_of "COST_LEAST" [0, 0, 0, 0, 1] (hts _ (by decide +kernel)) (hts _ (by decide +kernel)) (hs _ (by decide +kernel)) (hs _ (by decide +kernel)) (fun j hj => ?_) hA (by decide)
    match j, hj with
    | 0, _ => exact hs _ (by decide +kernel)
    | 1, _ => exact hs _ (by decide +kernel)
    | 2, _ => exact hs _ (by decide +kernel)
    | 3, _ => exact hs _ (by decide +kernel)
    | 4, _ => exact hs _ (by decide +kernel)
  | 2, _ =>
    refine st_of "COST_MOST" [99, 99, 999, 15, 30] (hts _ (by decide +kernel)) (hts _ (by decide +kernel)) (hs _ (by decide +kernel)) (hs _ (by decide +kernel)) (fun j hj => ?_) hA (by decide)
    match j, hj with
    | 0, _ => exact hs _ (by decide +kernel)
    | 1, _ => exact hs _ (by decide +kernel)
    | 2, _ => exact hs _ (by decide +kernel)
    | 3, _ => exact hs _ (by decide +kernel)
    | 4, _ => exact hs _ (by decide +kernel)
  | 3, _ =>
    refine st_of "TERM_MOST" [59, 99, 99] (hts _ (by decide +kernel)) (hts _ (by decide +kernel)) (hs _ (by decide +kernel)) (hs _ (by decide +kernel)) (fun j hj => ?_) hA (by decide)
    match j, hj with
    | 0, _ => exact hs _ (by decide +kernel)
    | 1, _ => exact hs _ (by decide +kernel)
    | 2, _ => exact hs _ (by decide +kernel)
