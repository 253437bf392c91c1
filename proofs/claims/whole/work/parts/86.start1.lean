-- the classes and the array classes at the start
theorem ci_X7 : Cond.instantiable RX7 8 ∈ wtb := wt (by decide +kernel) (by decide +kernel)
theorem ci_X8 : Cond.instantiable RX8 50 ∈ wtb := wt (by decide +kernel) (by decide +kernel)
theorem kn_one {s : State} {args : Array Value} (hts : ∀ w ∈ lw_tbl, w.before args s = true) (c : Nat) : ∃ x : ClassId × (Nat → Nat), ∀ q, classes[c]? = some q → u_Kn s q.1 q.2.1 q.2.2 x.1 x.2 := by
  cases hq : classes[c]? with
  | none => exact ⟨(0, fun _ => 0), fun q h => by cases h⟩
  | some q =>
    have hin := (cls_in c q hq).1
    have hi : (Cond.instantiable q.1 q.2.2).before args s = true := by
      match c, hq with
      | 0, hq => cases hq; exact hts _ (wtb_in ci_X0)
      | 1, hq => cases hq; exact hts _ (wtb_in ci_X1)
      | 2, hq => cases hq; exact hts _ (wtb_in ci_X2)
      | 3, hq => cases hq; exact hts _ (wtb_in ci_X3)
      | 4, hq => cases hq; exact hts _ (wtb_in ci_X4)
      | 5, hq => cases hq; exact hts _ (wtb_in ci_X5)
      | 6, hq => cases hq; exact hts _ (wtb_in ci_X6)
      | 7, hq => cases hq; exact hts _ (wtb_in ci_X7)
      | 8, hq => cases hq; exact hts _ (wtb_in ci_X8)
      | k + 9, hq => simp [classes] at hq
    obtain ⟨cC, iS, hk⟩ := u_known (C := q.1) (T := q.2.1) (N := q.2.2) (fun w h => hts w h) (fun w h => wtb_in (hin w h)) hi
    exact ⟨(cC, iS), fun q2 h => by cases h; exact hk⟩
theorem ar_one {s : State} {args : Array Value} {ty : FieldType} (h : (Cond.arrayClass ty).before args s = true) (hra : ∀ cA : ClassId, s.vm.findClass ("[" ++ ty.toString) = some cA → va_RA s cA ty) : ∃ cA : ClassId, ArrOfT s cA ty ∧ va_RA s cA ty := by
  obtain ⟨c, k, comp, h1, h2, h3⟩ := Cond.arrayClass_spec h
  exact ⟨c, fun n z => ⟨fun k h => (by cases h), k, h2, comp, h3⟩, hra c h1⟩
theorem ar_two {s : State} {args : Array Value} (h : (Cond.arrayOver (.array .int)).before args s = true) : ∃ cA : ClassId, ArrOfT s cA (.array .int) ∧ va_RA s cA (.array .int) := by
  obtain ⟨comp, c, k, h1, h2, h3, h4, h5⟩ := arrayOverA_spec h
  exact ⟨c, fun n z => ⟨fun k h => (by cases h), k, h3, comp, h4⟩, h5⟩
