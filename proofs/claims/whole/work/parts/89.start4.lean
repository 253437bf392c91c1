-- from the entry to the loop
theorem dv_X7_0 : ∀ (ad : Nat → Nat) (j : Nat), j < 8 → defaultValue (tyOf 7 j) = vp_V (((shp 0).elim (fun q => q.2) (fun _ => [])).zipIdx.map (fun q => fvB ad (fun _ => 0) q.2 q.1)) j := by
  intro ad j hj
  match j, hj with
  | 0, _ => rfl
  | 1, _ => rfl
  | 2, _ => rfl
  | 3, _ => rfl
  | 4, _ => rfl
  | 5, _ => rfl
  | 6, _ => rfl
  | 7, _ => rfl
  | k + 8, hj => exact absurd hj (by omega)
theorem dv_X8_49 : ∀ (ad : Nat → Nat) (j : Nat), j < 50 → defaultValue (tyOf 8 j) = vp_V (((shp 49).elim (fun q => q.2) (fun _ => [])).zipIdx.map (fun q => fvB ad (fun _ => 0) q.2 q.1)) j := by
  intro ad j hj
  match j, hj with
  | 0, _ => rfl
  | 1, _ => rfl
  | 2, _ => rfl
  | 3, _ => rfl
  | 4, _ => rfl
  | 5, _ => rfl
  | 6, _ => rfl
  | 7, _ => rfl
  | 8, _ => rfl
  | 9, _ => rfl
  | 10, _ => rfl
  | 11, _ => rfl
  | 12, _ => rfl
  | 13, _ => rfl
  | 14, _ => rfl
  | 15, _ => rfl
  | 16, _ => rfl
  | 17, _ => rfl
  | 18, _ => rfl
  | 19, _ => rfl
  | 20, _ => rfl
  | 21, _ => rfl
  | 22, _ => rfl
  | 23, _ => rfl
  | 24, _ => rfl
  | 25, _ => rfl
  | 26, _ => rfl
  | 27, _ => rfl
  | 28, _ => rfl
  | 29, _ => rfl
  | 30, _ => rfl
  | 31, _ => rfl
  | 32, _ => rfl
  | 33, _ => rfl
  | 34, _ => rfl
  | 35, _ => rfl
  | 36, _ => rfl
  | 37, _ => rfl
  | 38, _ => rfl
  | 39, _ => rfl
  | 40, _ => rfl
  | 41, _ => rfl
  | 42, _ => rfl
  | 43, _ => rfl
  | 44, _ => rfl
  | 45, _ => rfl
  | 46, _ => rfl
  | 47, _ => rfl
  | 48, _ => rfl
  | 49, _ => rfl
  | k + 50, hj => exact absurd hj (by omega)
theorem lcn_7 : Cond.classLink R_law 7 RX7 ∈ lw_tbl := by decide +kernel
theorem lcn_10 : Cond.classLink R_law 10 RX8 ∈ lw_tbl := by decide +kernel
theorem lci_9 : Cond.methodLink R_law 9 mX7_init.1 ∈ lw_tbl := List.mem_of_getElem? (i := 69) (by decide +kernel)
theorem lci_12 : Cond.methodLink R_law 12 mX8_init.1 ∈ lw_tbl := List.mem_of_getElem? (i := 738) (by decide +kernel)
theorem cz_X7 : Cond.initialized RX7 ∈ wtb := wt (by decide +kernel) (by decide +kernel)
theorem cz_X8 : Cond.initialized RX8 ∈ wtb := wt (by decide +kernel) (by decide +kernel)
theorem bc_X7 : Cond.code mX7_init.1 mX7_init.2.1 mX7_init.2.2.1 mX7_init.2.2.2.1 ∈ wtb := wt (List.mem_of_getElem? (i := 71) (by decide +kernel)) rfl
theorem bc_X8 : Cond.code mX8_init.1 mX8_init.2.1 mX8_init.2.2.1 mX8_init.2.2.2.1 ∈ wtb := wt (List.mem_of_getElem? (i := 740) (by decide +kernel)) rfl
theorem bm_X7 : Cond.instanceMethod mX7_init.1 ∈ wtb := wt (List.mem_of_getElem? (i := 70) (by decide +kernel)) rfl
theorem bm_X8 : Cond.instanceMethod mX8_init.1 ∈ wtb := wt (List.mem_of_getElem? (i := 739) (by decide +kernel)) rfl
theorem bi_X7 : Cond.initialized mX7_init.1.cls ∈ wtb := wt (List.mem_of_getElem? (i := 55) (by decide +kernel)) rfl
theorem bi_X8 : Cond.initialized mX8_init.1.cls ∈ wtb := wt (List.mem_of_getElem? (i := 63) (by decide +kernel)) rfl
theorem ent_lh (G : Gm) {as lo : List AV} {n : Nat} (hok : ∀ v ∈ as, okv v) (hn : (exLo as).length ≤ n) (hlo : entLo as n = lo) : Lh G n lo (lg_sl (as.map (cv G.ad)) ++ List.replicate (n - (lg_sl (as.map (cv G.ad))).length) Slot.unset).toArray := by
  have hlen := exLo_len G.ad as
  have hl := lv_entry (as.map (cv G.ad)) (n := n) (by rw [hlen]; exact hn)
  generalize (lg_sl (as.map (cv G.ad)) ++ List.replicate (n - (lg_sl (as.map (cv G.ad))).length) Slot.unset).toArray = ls at hl ⊢
  refine ⟨hl.1, hl.2.1, ?_, ?_⟩
  · rw [← hlo]; unfold entLo
    rw [List.length_append, List.length_replicate]; omega
  · intro i v hi h3
    rw [← hlo] at hi
    unfold entLo at hi
    rcases Nat.lt_or_ge i (exLo as).length with q | q
    · rw [List.getElem?_append_left q] at hi
      obtain ⟨r1, r2⟩ := exLo_mem G.ad as 0 i v hi h3
      have := hl.2.2 _ r2
      rw [Nat.zero_add] at this
      exact ⟨hok v r1, this⟩
    · rw [List.getElem?_append_right q] at hi
      have := List.getElem?_replicate (n := n - (exLo as).length) (a := ((3, 0) : AV)) (i := i - (exLo as).length)
      rw [this] at hi
      split at hi
      · cases hi; exact absurd rfl h3
      · cases hi
theorem okm_Z : okm memZ := by
  intro c j
  show (shp c).elim (fun _ => okI 0) (fun q => if q.1 = 2 then okL 0 else okI 0)
  rcases shp c with q | q
  · exact (by decide : okI 0)
  · show if q.1 = 2 then okL 0 else okI 0
    split
    · exact (by decide : okL 0)
    · exact (by decide : okI 0)
theorem law_all {X : LX} (zC : X.ok) (hB : StB X.G X.s X.s.heap) : EB X 0 0 0 [(2, 82), (3, 0), (3, 0), (3, 0)] [] memZ := by
  refine lb_new (pc := 0) (n := 0) (ix := 7) (ci := 7) (N := 8) (zc := RX7) (zT := TX7) zC dL_law_0 rfl rfl lcn_7 ci_X7 cz_X7 (dv_X7_0 _) (by decide) (by decide) ?_
  refine lb_dup (pc := 3) zC dL_law_3 rfl ?_
  refine lb_call (pc := 4) (c := 0) (n := 1) zC hB (kb_hall X.G X.s.heap.size memZ) dL_law_4 lci_9 bi_X7 bc_X7 (by decide +kernel) (by decide) (by decide +kernel) rfl bm_X7 rfl rfl rfl rfl (by decide) (by decide) (fun m2 zm => ?_)
  rw [zm]
  clear zm m2
  refine lb_astoren (pc := 7) zC dL_law_7 rfl rfl (by decide) rfl ?_
  refine lb_new (pc := 8) (n := 49) (ix := 10) (ci := 8) (N := 50) (zc := RX8) (zT := TX8) zC dL_law_8 rfl rfl lcn_10 ci_X8 cz_X8 (dv_X8_49 _) (by decide) (by decide) ?_
  refine lb_dup (pc := 11) zC dL_law_11 rfl ?_
  refine lb_call (pc := 12) (c := 49) (n := 50) zC hB (kb_model X.G X.s.heap.size (nb_hall memZ)) dL_law_12 lci_12 bi_X8 bc_X8 (by decide +kernel) (by decide) (by decide +kernel) rfl bm_X8 rfl rfl rfl rfl (by decide) (by decide) (fun m2 zm => ?_)
  rw [zm]
  clear zm m2
  refine lb_astoren (pc := 15) zC dL_law_15 rfl rfl (by decide) rfl ?_
  refine lb_end ?_ (by decide)
  refine l_iconst (pc := 16) zC dL_law_16 (by decide) ?_
  refine l_istoren (pc := 17) zC dL_law_17 rfl rfl (by decide) rfl ?_
  exact l_loop zC (X.L + 1) 0 mem0 (by omega) (by decide) (by decide) jn0
/-- YOUR PART: from the entry, for every script of at most 3072 ints, the law comes to its end with true -/
theorem whole_start {p : Program} {e : Env} {s : State} {m : MethodId} {below : List Frame} {meth : Method} {c : Code} (l : Launch) {b L : Nat} {xs : Nat → Int32} (hL : L ≤ 3072) (C0 : lw_At p s m meth c b L xs) : W p l e room_1 s m #[Value.ref b] below meth c s.heap [] 0 0 (lw_Z below #[Value.ref b] s) (entryFrame m ([Value.ref b] : List Value).toArray 4) := by
  obtain ⟨G, hGl, hGa, hGb, hK, hB⟩ := start_G l C0
  subst hGl
  have zC : LX.ok (G, p, e, s, m, below, meth, c, b, L, xs) := ⟨C0, hB.1, fun q ⟨k, h1, h2⟩ => by
    show s.heap.size ≤ q
    rw [← h2, hGa k h1]; omega, hGb, hL⟩
  have hl : Lh G 4 [(2, 82), (3, 0), (3, 0), (3, 0)] _ := ent_lh G (as := [(2, 82)]) (n := 4) (fun v hv => by
    rcases List.mem_cons.mp hv with rfl | h
    · exact okv2
    · cases h) (by decide) rfl
  have e1 : [((2, 82) : AV)].map (cv G.ad) = [Value.ref b] := by
    show [cv G.ad (2, 82)] = _
    rw [show cv G.ad (2, 82) = Value.ref b from l_scr zC]
  rw [e1] at hl
  rw [lg_entry_eq]
  exact law_all zC hB s.heap [] _ ⟨fun k q hq => absurd (wsB_inv hq).1 (Nat.not_lt_zero _), hK, okm_Z, hGa, Nat.zero_le _, fun _ _ => rfl⟩ va_S.rf hl (fun v hv => by cases hv)
