-- the world's numbers, before the first cell
theorem start_G (l : Launch) {p : Program} {s : State} {m : MethodId} {meth : Method} {c : Code} {b L : Nat} {xs : Nat → Int32} (C0 : lw_At p s m meth c b L xs) : ∃ G : Gm, G.1 = l ∧ (∀ k, k < NC → G.ad k = s.heap.size + k) ∧ G.ad (NC + 4) = b ∧ va_K G.2.1 classes (tysG G) s ∧ StB G s s.heap := by
  obtain ⟨hx, hb, hr, hml, hown, hts, hX, hbl, hlocks, hgv⟩ := C0
  have hA : ∀ a : Nat, a < s.heap.size → ¬ (fun q : Nat => s.heap.size ≤ q) a := fun a h => Nat.not_le.mpr h
  have hst := st_all (A := fun q : Nat => s.heap.size ≤ q) hts hgv hA
  obtain ⟨t0, z0, y0⟩ := hst 0 (by decide)
  obtain ⟨t1, z1, y1⟩ := hst 1 (by decide)
  obtain ⟨t2, z2, y2⟩ := hst 2 (by decide)
  obtain ⟨t3, z3, y3⟩ := hst 3 (by decide)
  obtain ⟨a0, p0⟩ := ar_one (ty := .int) (hts _ (wtb_in aw_int)) (fun _ h => h)
  obtain ⟨a1, p1⟩ := ar_one (ty := .boolean) (hts _ (wtb_in aw_bool)) (fun _ h => h)
  obtain ⟨a2, p2⟩ := ar_one (ty := .long) (hts _ (wtb_in aw_long)) (fun _ h => h)
  have hov : (Cond.arrayOver (.array .int)).before #[Value.ref b] s = true := hts _ (by decide +kernel)
  obtain ⟨a3, p3⟩ := ar_two hov
  have hkn := kn_one hts
  have hnw2 : va_Nw nw2 s := va_Nw.of rfl (hts nw2 (by decide +kernel))
  have hnw1 : va_Nw nw1 s := va_Nw.of rfl (hts nw1 (by decide +kernel))
  have hnw3 : va_Nw nw3 s := va_Nw.of rfl (hts nw3 (by decide +kernel))
  refine ⟨(l, (fun k => (Classical.choose (hkn k)).1, fun k => (Classical.choose (hkn k)).2), (fun k => if k < 78 then s.heap.size + k else if k = 78 then t0 else if k = 79 then t1 else if k = 80 then t2 else if k = 81 then t3 else b), (fun k => if k = 0 then a0 else if k = 1 then a1 else if k = 2 then a2 else a3)), rfl, fun k hk => if_pos hk, rfl, ⟨fun k q hq => Classical.choose_spec (hkn k) q hq, ?_⟩, ⟨hnw1, ?_⟩, hnw2, hnw3, over_moved (Vm.Alike.refl _) hov⟩
  · intro k q hq
    match k, hq with
    | 0, hq => cases hq; exact p0
    | 1, hq => cases hq; exact p1
    | 2, hq => cases hq; exact p2
    | 3, hq => cases hq; exact p3
    | k + 4, hq => simp [tysG] at hq
  · intro k hk
    have hAA : ∀ (G : Gm), (∀ k, k < NC → G.ad k = s.heap.size + k) → ∀ q, AA G q → s.heap.size ≤ q := fun G hG q ⟨k, h1, h2⟩ => by rw [← h2, hG k h1]; omega
    match k, hk with
    | 0, _ => exact ⟨z0.narrow (hAA _ (fun k hk => if_pos hk)), y0.narrow (hAA _ (fun k hk => if_pos hk))⟩
    | 1, _ => exact ⟨z1.narrow (hAA _ (fun k hk => if_pos hk)), y1.narrow (hAA _ (fun k hk => if_pos hk))⟩
    | 2, _ => exact ⟨z2.narrow (hAA _ (fun k hk => if_pos hk)), y2.narrow (hAA _ (fun k hk => if_pos hk))⟩
    | 3, _ => exact ⟨z3.narrow (hAA _ (fun k hk => if_pos hk)), y3.narrow (hAA _ (fun k hk => if_pos hk))⟩
