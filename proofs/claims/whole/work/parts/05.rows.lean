section MRows
variable {G : Gm} {M : Mt} {Q : Option AV → Mem → Prop} {pc : Nat} {lo st : List AV} {mem : Mem}
theorem st1 {v : AV} (h : ∀ x ∈ v :: st, okv x) : okv v ∧ ∀ x ∈ st, okv x := List.forall_mem_cons.mp h
theorem st2 {v u : AV} (h : ∀ x ∈ v :: u :: st, okv x) : okv v ∧ okv u ∧ ∀ x ∈ st, okv x := ⟨(List.forall_mem_cons.mp h).1, List.forall_mem_cons.mp (List.forall_mem_cons.mp h).2⟩
theorem st3 {v u t : AV} (h : ∀ x ∈ v :: u :: t :: st, okv x) : okv v ∧ okv u ∧ okv t ∧ ∀ x ∈ st, okv x := ⟨(st2 h).1, (st2 h).2.1, List.forall_mem_cons.mp (st2 h).2.2⟩
theorem stp {v : AV} (h : okv v) (h2 : ∀ x ∈ st, okv x) : ∀ x ∈ v :: st, okv x := List.forall_mem_cons.mpr ⟨h, h2⟩
theorem e_iconst {n : Int} (hd : decode M.2.1 pc = .ok (.iconst n, 1)) (hn : okI n) (k : Ev G M Q (pc + 1) lo ((0, n) :: st) mem) : Ev G M Q pc lo st mem := by
  intro p e s m args below meth c H locs ls C hW hS hT hL hst
  exact lv_iconst C.1 C.2.1 hd rfl (k p e s m args below meth c H locs ls C hW hS hT hL (stp (okv0 hn) hst))
theorem e_bipush {n : Int} (hd : decode M.2.1 pc = .ok (.bipush n, 2)) (hv : (Int8.ofInt n).toInt32 = Int32.ofInt n) (hn : okI n) (k : Ev G M Q (pc + 2) lo ((0, n) :: st) mem) : Ev G M Q pc lo st mem := by
  intro p e s m args below meth c H locs ls C hW hS hT hL hst
  exact lv_bipush C.1 C.2.1 hd hv (k p e s m args below meth c H locs ls C hW hS hT hL (stp (okv0 hn) hst))
theorem e_sipush {n : Int} (hd : decode M.2.1 pc = .ok (.sipush n, 3)) (hv : (Int16.ofInt n).toInt32 = Int32.ofInt n) (hn : okI n) (k : Ev G M Q (pc + 3) lo ((0, n) :: st) mem) : Ev G M Q pc lo st mem := by
  intro p e s m args below meth c H locs ls C hW hS hT hL hst
  exact lv_sipush C.1 C.2.1 hd hv (k p e s m args below meth c H locs ls C hW hS hT hL (stp (okv0 hn) hst))
theorem e_lconst {n : Fin 2} {z : Int} (hd : decode M.2.1 pc = .ok (.lconst n, 1)) (hv : Int64.ofNat (n : Nat) = Int64.ofInt z) (hn : okL z) (k : Ev G M Q (pc + 1) lo ((1, z) :: st) mem) : Ev G M Q pc lo st mem := by
  intro p e s m args below meth c H locs ls C hW hS hT hL hst
  exact lv_lconst C.1 C.2.1 hd hv (k p e s m args below meth c H locs ls C hW hS hT hL (stp (okv1 hn) hst))
theorem e_ldc {ix : Nat} {z : Int} (hd : decode M.2.1 pc = .ok (.ldc ix, 2)) (hc : Cond.constant M.1.cls ix (Int32.ofInt z) ∈ wtb) (hn : okI z) (k : Ev G M Q (pc + 2) lo ((0, z) :: st) mem) : Ev G M Q pc lo st mem := by
  intro p e s m args below meth c H locs ls C hW hS hT hL hst
  exact lv_ldc C.1 C.2.1 C.2.2.2.2.1 (C.2.2.2.2.2.1 _ (List.mem_cons_of_mem _ hc)) hd (k p e s m args below meth c H locs ls C hW hS hT hL (stp (okv0 hn) hst))
theorem e_ldcw {ix : Nat} {z : Int} (hd : decode M.2.1 pc = .ok (.ldc_w ix, 3)) (hc : Cond.constant M.1.cls ix (Int32.ofInt z) ∈ wtb) (hn : okI z) (k : Ev G M Q (pc + 3) lo ((0, z) :: st) mem) : Ev G M Q pc lo st mem := by
  intro p e s m args below meth c H locs ls C hW hS hT hL hst
  exact lv_ldcw C.1 C.2.1 C.2.2.2.2.1 (C.2.2.2.2.2.1 _ (List.mem_cons_of_mem _ hc)) hd (k p e s m args below meth c H locs ls C hW hS hT hL (stp (okv0 hn) hst))
theorem e_ldc2 {ix : Nat} {z : Int} (hd : decode M.2.1 pc = .ok (.ldc2_w ix, 3)) (hc : Cond.constantLong M.1.cls ix (Int64.ofInt z) ∈ wtb) (hn : okL z) (k : Ev G M Q (pc + 3) lo ((1, z) :: st) mem) : Ev G M Q pc lo st mem := by
  intro p e s m args below meth c H locs ls C hW hS hT hL hst
  exact lv_ldc2 C.1 C.2.1 C.2.2.2.2.1 (C.2.2.2.2.2.1 _ (List.mem_cons_of_mem _ hc)) hd (k p e s m args below meth c H locs ls C hW hS hT hL (stp (okv1 hn) hst))
theorem e_iloadn {kf : Fin 4} {i : Nat} {z : Int} (hd : decode M.2.1 pc = .ok (.iload_n kf, 1)) (hi : (kf : Nat) = i) (hl : lo[i]? = some (0, z)) (k : Ev G M Q (pc + 1) lo ((0, z) :: st) mem) : Ev G M Q pc lo st mem := by
  intro p e s m args below meth c H locs ls C hW hS hT hL hst
  have h9 := hL.2.2.2 i _ hl (by simp)
  exact lv_iload_n C.1 C.2.1 hd hi h9.2 (k p e s m args below meth c H locs ls C hW hS hT hL (stp h9.1 hst))
theorem e_iload {i : Nat} {z : Int} (hd : decode M.2.1 pc = .ok (.iload i, 2)) (hl : lo[i]? = some (0, z)) (k : Ev G M Q (pc + 2) lo ((0, z) :: st) mem) : Ev G M Q pc lo st mem := by
  intro p e s m args below meth c H locs ls C hW hS hT hL hst
  have h9 := hL.2.2.2 i _ hl (by simp)
  exact lv_iload C.1 C.2.1 hd h9.2 (k p e s m args below meth c H locs ls C hW hS hT hL (stp h9.1 hst))
theorem e_lloadn {kf : Fin 4} {i : Nat} {z : Int} (hd : decode M.2.1 pc = .ok (.lload_n kf, 1)) (hi : (kf : Nat) = i) (hl : lo[i]? = some (1, z)) (k : Ev G M Q (pc + 1) lo ((1, z) :: st) mem) : Ev G M Q pc lo st mem := by
  intro p e s m args below meth c H locs ls C hW hS hT hL hst
  have h9 := hL.2.2.2 i _ hl (by simp)
  exact lv_lload_n C.1 C.2.1 hd hi h9.2 (k p e s m args below meth c H locs ls C hW hS hT hL (stp h9.1 hst))
theorem e_lload {i : Nat} {z : Int} (hd : decode M.2.1 pc = .ok (.lload i, 2)) (hl : lo[i]? = some (1, z)) (k : Ev G M Q (pc + 2) lo ((1, z) :: st) mem) : Ev G M Q pc lo st mem := by
  intro p e s m args below meth c H locs ls C hW hS hT hL hst
  have h9 := hL.2.2.2 i _ hl (by simp)
  exact lv_lload C.1 C.2.1 hd h9.2 (k p e s m args below meth c H locs ls C hW hS hT hL (stp h9.1 hst))
theorem e_aloadn {kf : Fin 4} {i : Nat} {z : Int} (hd : decode M.2.1 pc = .ok (.aload_n kf, 1)) (hi : (kf : Nat) = i) (hl : lo[i]? = some (2, z)) (k : Ev G M Q (pc + 1) lo ((2, z) :: st) mem) : Ev G M Q pc lo st mem := by
  intro p e s m args below meth c H locs ls C hW hS hT hL hst
  have h9 := hL.2.2.2 i _ hl (by simp)
  exact lv_aload_n C.1 C.2.1 hd hi h9.2 (k p e s m args below meth c H locs ls C hW hS hT hL (stp h9.1 hst))
theorem e_aload {i : Nat} {z : Int} (hd : decode M.2.1 pc = .ok (.aload i, 2)) (hl : lo[i]? = some (2, z)) (k : Ev G M Q (pc + 2) lo ((2, z) :: st) mem) : Ev G M Q pc lo st mem := by
  intro p e s m args below meth c H locs ls C hW hS hT hL hst
  have h9 := hL.2.2.2 i _ hl (by simp)
  exact lv_aload C.1 C.2.1 hd h9.2 (k p e s m args below meth c H locs ls C hW hS hT hL (stp h9.1 hst))
/-- no long lies just below place i -/
def nlb (lo : List AV) (i : Nat) : Bool := i == 0 || (lo.getD (i - 1) (3, 0)).1 != 1
def lvOf (ad : Nat → Nat) (lo : List AV) : List (Nat × Value) := (lo.zipIdx.filter (fun q => q.1.1 != 3)).map (fun q => (q.2, cv ad q.1))
theorem lvOf_mem {ad : Nat → Nat} {i : Nat} {v : AV} (h : lo[i]? = some v) (h3 : v.1 ≠ 3) : (i, cv ad v) ∈ lvOf ad lo := by
  unfold lvOf
  refine List.mem_map.mpr ⟨(v, i), List.mem_filter.mpr ⟨?_, by simpa using h3⟩, rfl⟩
  exact List.mk_mem_zipIdx_iff_getElem?.mpr h
theorem lvOf_has {n : Nat} {ls : Array Slot} (h : Lh G n lo ls) : lv_has ls n (lvOf G.ad lo) := by
  refine ⟨h.1, h.2.1, fun q hq => ?_⟩
  obtain ⟨x, hx, rfl⟩ := List.mem_map.mp hq
  obtain ⟨hx1, hx2⟩ := List.mem_filter.mp hx
  exact (h.2.2.2 x.2 x.1 (List.mk_mem_zipIdx_iff_getElem?.mp hx1) (by simpa using hx2)).2
theorem Lh_set1 {n i : Nat} {ls ls' : Array Slot} {v : AV} (h : Lh G n lo ls) (hv : okv v) (hn : nlb lo i = true)
    (h' : lv_has ls' n ((i, cv G.ad v) :: (lvOf G.ad lo).filter (fun q => !(q.1 == i) && !(q.1 + 1 == i && q.2.category == 2)))) : Lh G n (lo.set i v) ls' := by
  refine ⟨h'.1, h'.2.1, by rw [List.length_set]; exact h.2.2.1, fun j u hj h3 => ?_⟩
  rw [List.getElem?_set] at hj
  by_cases hij : i = j
  · subst hij
    rw [if_pos rfl] at hj
    split at hj
    · cases hj
      exact ⟨hv, h'.2.2 _ List.mem_cons_self⟩
    · cases hj
  · rw [if_neg hij] at hj
    refine ⟨(h.2.2.2 j u hj h3).1, h'.2.2 (j, cv G.ad u) (List.mem_cons_of_mem _ (List.mem_filter.mpr ⟨lvOf_mem hj h3, ?_⟩))⟩
    have e1 : (j == i) = false := by simpa using fun q => hij q.symm
    rw [e1]
    by_cases e2 : j + 1 = i
    · subst e2
      have : u.1 ≠ 1 := by
        simp [nlb, hj] at hn
        exact hn
      have e3 : ((cv G.ad u).category == 2) = false := by
        rw [cv_category]
        obtain ⟨t, z⟩ := u
        match t, this with
        | 0, _ => rfl
        | t + 2, _ => rfl
      simp [e3]
    · have : (j + 1 == i) = false := by simpa using e2
      simp [this]
theorem Lh_set2 {n i : Nat} {ls ls' : Array Slot} {v : AV} (h : Lh G n lo ls) (hv : okv v) (hn : nlb lo i = true)
    (h' : lv_has ls' n ((i, cv G.ad v) :: (lvOf G.ad lo).filter (fun q => !(q.1 == i) && (!(q.1 == i + 1) && !(q.1 + 1 == i && q.2.category == 2))))) : Lh G n ((lo.set i v).set (i + 1) (3, 0)) ls' := by
  refine ⟨h'.1, h'.2.1, by rw [List.length_set, List.length_set]; exact h.2.2.1, fun j u hj h3 => ?_⟩
  rw [List.getElem?_set] at hj
  by_cases hij1 : i + 1 = j
  · rw [if_pos hij1] at hj
    split at hj
    · cases hj
      exact absurd rfl h3
    · cases hj
  rw [if_neg hij1, List.getElem?_set] at hj
  by_cases hij : i = j
  · subst hij
    rw [if_pos rfl] at hj
    split at hj
    · cases hj
      exact ⟨hv, h'.2.2 _ List.mem_cons_self⟩
    · cases hj
  · rw [if_neg hij] at hj
    refine ⟨(h.2.2.2 j u hj h3).1, h'.2.2 (j, cv G.ad u) (List.mem_cons_of_mem _ (List.mem_filter.mpr ⟨lvOf_mem hj h3, ?_⟩))⟩
    have e1 : (j == i) = false := by simpa using fun q => hij q.symm
    have e0 : (j == i + 1) = false := by simpa using fun q => hij1 q.symm
    rw [e1, e0]
    by_cases e2 : j + 1 = i
    · subst e2
      have : u.1 ≠ 1 := by
        simp [nlb, hj] at hn
        exact hn
      have e3 : ((cv G.ad u).category == 2) = false := by
        rw [cv_category]
        obtain ⟨t, z⟩ := u
        match t, this with
        | 0, _ => rfl
        | t + 2, _ => rfl
      simp [e3]
    · have : (j + 1 == i) = false := by simpa using e2
      simp [this]
theorem e_istoren {kf : Fin 4} {i : Nat} {z : Int} {lo' : List AV} (hd : decode M.2.1 pc = .ok (.istore_n kf, 1)) (hi : (kf : Nat) = i) (hs : lo.set i (0, z) = lo') (hm : i < M.2.2.1) (hn : nlb lo i = true) (k : Ev G M Q (pc + 1) lo' st mem) : Ev G M Q pc lo ((0, z) :: st) mem := by
  intro p e s m args below meth c H locs ls C hW hS hT hL hst
  obtain ⟨hv, hst⟩ := st1 hst
  subst hs
  exact lv_istore_n C.1 C.2.1 hd hi (lvOf_has hL) hm rfl (fun ls2 h2 => k p e s m args below meth c H locs ls2 C hW hS hT (Lh_set1 (v := (0, z)) hL hv hn h2) hst)
theorem e_istore {i : Nat} {z : Int} {lo' : List AV} (hd : decode M.2.1 pc = .ok (.istore i, 2)) (hs : lo.set i (0, z) = lo') (hm : i < M.2.2.1) (hn : nlb lo i = true) (k : Ev G M Q (pc + 2) lo' st mem) : Ev G M Q pc lo ((0, z) :: st) mem := by
  intro p e s m args below meth c H locs ls C hW hS hT hL hst
  obtain ⟨hv, hst⟩ := st1 hst
  subst hs
  exact lv_istore C.1 C.2.1 hd (lvOf_has hL) hm rfl (fun ls2 h2 => k p e s m args below meth c H locs ls2 C hW hS hT (Lh_set1 (v := (0, z)) hL hv hn h2) hst)
theorem e_astoren {kf : Fin 4} {i : Nat} {z : Int} {lo' : List AV} (hd : decode M.2.1 pc = .ok (.astore_n kf, 1)) (hi : (kf : Nat) = i) (hs : lo.set i (2, z) = lo') (hm : i < M.2.2.1) (hn : nlb lo i = true) (k : Ev G M Q (pc + 1) lo' st mem) : Ev G M Q pc lo ((2, z) :: st) mem := by
  intro p e s m args below meth c H locs ls C hW hS hT hL hst
  obtain ⟨hv, hst⟩ := st1 hst
  subst hs
  exact lv_astore_n C.1 C.2.1 hd hi (lvOf_has hL) hm rfl (fun ls2 h2 => k p e s m args below meth c H locs ls2 C hW hS hT (Lh_set1 (v := (2, z)) hL hv hn h2) hst)
theorem e_astore {i : Nat} {z : Int} {lo' : List AV} (hd : decode M.2.1 pc = .ok (.astore i, 2)) (hs : lo.set i (2, z) = lo') (hm : i < M.2.2.1) (hn : nlb lo i = true) (k : Ev G M Q (pc + 2) lo' st mem) : Ev G M Q pc lo ((2, z) :: st) mem := by
  intro p e s m args below meth c H locs ls C hW hS hT hL hst
  obtain ⟨hv, hst⟩ := st1 hst
  subst hs
  exact lv_astore C.1 C.2.1 hd (lvOf_has hL) hm rfl (fun ls2 h2 => k p e s m args below meth c H locs ls2 C hW hS hT (Lh_set1 (v := (2, z)) hL hv hn h2) hst)
theorem e_lstoren {kf : Fin 4} {i : Nat} {z : Int} {lo' : List AV} (hd : decode M.2.1 pc = .ok (.lstore_n kf, 1)) (hi : (kf : Nat) = i) (hs : (lo.set i (1, z)).set (i + 1) (3, 0) = lo') (hm : i + 1 < M.2.2.1) (hn : nlb lo i = true) (k : Ev G M Q (pc + 1) lo' st mem) : Ev G M Q pc lo ((1, z) :: st) mem := by
  intro p e s m args below meth c H locs ls C hW hS hT hL hst
  obtain ⟨hv, hst⟩ := st1 hst
  subst hs
  exact lv_lstore_n C.1 C.2.1 hd hi (lvOf_has hL) hm rfl (fun ls2 h2 => k p e s m args below meth c H locs ls2 C hW hS hT (Lh_set2 (v := (1, z)) hL hv hn h2) hst)
theorem e_lstore {i : Nat} {z : Int} {lo' : List AV} (hd : decode M.2.1 pc = .ok (.lstore i, 2)) (hs : (lo.set i (1, z)).set (i + 1) (3, 0) = lo') (hm : i + 1 < M.2.2.1) (hn : nlb lo i = true) (k : Ev G M Q (pc + 2) lo' st mem) : Ev G M Q pc lo ((1, z) :: st) mem := by
  intro p e s m args below meth c H locs ls C hW hS hT hL hst
  obtain ⟨hv, hst⟩ := st1 hst
  subst hs
  exact lv_lstore C.1 C.2.1 hd (lvOf_has hL) hm rfl (fun ls2 h2 => k p e s m args below meth c H locs ls2 C hW hS hT (Lh_set2 (v := (1, z)) hL hv hn h2) hst)
theorem lv_iincA {p : Program} {l : Launch} {e : Env} {R : Room} {s : State} {m : MethodId} {args : Array Value} {below : List Frame} {meth : Method} {c : Code} {H : Heap} {locs : List Loc} {cells slots : Nat} {Q : State → Prop} {cc : ByteArray} {pc : Nat} {ls : Array Slot} {rest : List Value} (hexec : p.tables.exec = Jvm.exec) (hb : c.code = cc) {i nL : Nat} {n : Int} {x v : Int32} {lv : List (Nat × Value)} (hdg : decode cc pc = .ok (.iinc i n, 3)) (h : lv_has ls nL lv) (hk : (i, Value.int x) ∈ lv) (hv : x + Int32.ofInt n = v) (hn : i < nL)
    (kk : ∀ ls' : Array Slot, lv_has ls' nL ((i, Value.int v) :: lv.filter (fun q => !(q.1 == i) && !(q.1 + 1 == i && q.2.category == 2))) → W p l e R s m args below meth c H locs cells slots Q (F0 m (pc + 3) ls' rest)) : W p l e R s m args below meth c H locs cells slots Q (F0 m pc ls rest) := by
  obtain ⟨k, hk⟩ := List.getElem?_of_mem hk
  exact lv_iinc hexec hb hdg h hk hv hn rfl kk
theorem e_iinc {i : Nat} {n z : Int} {lo' : List AV} (hd : decode M.2.1 pc = .ok (.iinc i n, 3)) (hl : lo[i]? = some (0, z)) (ho : okI (z + n)) (hs : lo.set i (0, z + n) = lo') (hm : i < M.2.2.1) (hn : nlb lo i = true) (k : Ev G M Q (pc + 3) lo' st mem) : Ev G M Q pc lo st mem := by
  intro p e s m args below meth c H locs ls C hW hS hT hL hst
  subst hs
  refine lv_iincA C.1 C.2.1 hd (lvOf_has hL) (lvOf_mem hl (by simp)) (v := Int32.ofInt (z + n)) (by rw [Int32.ofInt_add]) hm (fun ls2 h2 => k p e s m args below meth c H locs ls2 C hW hS hT (Lh_set1 (v := (0, z + n)) hL (okv0 ho) hn h2) hst)
theorem e_iadd {a b : Int} (hd : decode M.2.1 pc = .ok (.iadd, 1)) (k : Ev G M Q (pc + 1) lo ((0, w32 (a + b)) :: st) mem) : Ev G M Q pc lo ((0, b) :: (0, a) :: st) mem := by
  intro p e s m args below meth c H locs ls C hW hS hT hL hst
  obtain ⟨hb, ha, hst⟩ := st2 hst
  have hk := k p e s m args below meth c H locs ls C hW hS hT hL (stp (okv0 (w32_ok _)) hst)
  refine lv_iadd C.1 C.2.1 hd ?_
  have e9 : Int32.ofInt (a + b) = Int32.ofInt a + Int32.ofInt b := Int32.ofInt_add a b
  rw [List.map_cons] at hk
  rw [show cv G.ad (0, w32 (a + b)) = .int (Int32.ofInt (a + b)) from by show Value.int _ = _; rw [i32_w]] at hk
  rw [e9] at hk
  exact hk
theorem e_iaddn {a b : Int} (hd : decode M.2.1 pc = .ok (.iadd, 1)) (ho : okI (a + b)) (k : Ev G M Q (pc + 1) lo ((0, a + b) :: st) mem) : Ev G M Q pc lo ((0, b) :: (0, a) :: st) mem := by
  intro p e s m args below meth c H locs ls C hW hS hT hL hst
  have k2 := k
  rw [show a + b = w32 (a + b) from (w32_id ho).symm] at k2
  exact e_iadd hd k2 p e s m args below meth c H locs ls C hW hS hT hL hst
theorem e_isub {a b : Int} (hd : decode M.2.1 pc = .ok (.isub, 1)) (k : Ev G M Q (pc + 1) lo ((0, w32 (a - b)) :: st) mem) : Ev G M Q pc lo ((0, b) :: (0, a) :: st) mem := by
  intro p e s m args below meth c H locs ls C hW hS hT hL hst
  obtain ⟨hb, ha, hst⟩ := st2 hst
  have hk := k p e s m args below meth c H locs ls C hW hS hT hL (stp (okv0 (w32_ok _)) hst)
  refine lv_isub C.1 C.2.1 hd ?_
  have e9 : Int32.ofInt (a - b) = Int32.ofInt a - Int32.ofInt b := Int32.ofInt_sub a b
  rw [List.map_cons] at hk
  rw [show cv G.ad (0, w32 (a - b)) = .int (Int32.ofInt (a - b)) from by show Value.int _ = _; rw [i32_w]] at hk
  rw [e9] at hk
  exact hk
theorem e_isubn {a b : Int} (hd : decode M.2.1 pc = .ok (.isub, 1)) (ho : okI (a - b)) (k : Ev G M Q (pc + 1) lo ((0, a - b) :: st) mem) : Ev G M Q pc lo ((0, b) :: (0, a) :: st) mem := by
  intro p e s m args below meth c H locs ls C hW hS hT hL hst
  have k2 := k
  rw [show a - b = w32 (a - b) from (w32_id ho).symm] at k2
  exact e_isub hd k2 p e s m args below meth c H locs ls C hW hS hT hL hst
theorem e_imul {a b : Int} (hd : decode M.2.1 pc = .ok (.imul, 1)) (k : Ev G M Q (pc + 1) lo ((0, w32 (a * b)) :: st) mem) : Ev G M Q pc lo ((0, b) :: (0, a) :: st) mem := by
  intro p e s m args below meth c H locs ls C hW hS hT hL hst
  obtain ⟨hb, ha, hst⟩ := st2 hst
  have hk := k p e s m args below meth c H locs ls C hW hS hT hL (stp (okv0 (w32_ok _)) hst)
  refine lv_imul C.1 C.2.1 hd ?_
  have e9 : Int32.ofInt (a * b) = Int32.ofInt a * Int32.ofInt b := Int32.ofInt_mul a b
  rw [List.map_cons] at hk
  rw [show cv G.ad (0, w32 (a * b)) = .int (Int32.ofInt (a * b)) from by show Value.int _ = _; rw [i32_w]] at hk
  rw [e9] at hk
  exact hk
theorem e_imuln {a b : Int} (hd : decode M.2.1 pc = .ok (.imul, 1)) (ho : okI (a * b)) (k : Ev G M Q (pc + 1) lo ((0, a * b) :: st) mem) : Ev G M Q pc lo ((0, b) :: (0, a) :: st) mem := by
  intro p e s m args below meth c H locs ls C hW hS hT hL hst
  have k2 := k
  rw [show a * b = w32 (a * b) from (w32_id ho).symm] at k2
  exact e_imul hd k2 p e s m args below meth c H locs ls C hW hS hT hL hst
theorem e_ladd {a b : Int} (hd : decode M.2.1 pc = .ok (.ladd, 1)) (k : Ev G M Q (pc + 1) lo ((1, w64 (a + b)) :: st) mem) : Ev G M Q pc lo ((1, b) :: (1, a) :: st) mem := by
  intro p e s m args below meth c H locs ls C hW hS hT hL hst
  obtain ⟨hb, ha, hst⟩ := st2 hst
  have hk := k p e s m args below meth c H locs ls C hW hS hT hL (stp (okv1 (w64_ok _)) hst)
  refine lv_ladd C.1 C.2.1 hd ?_
  have e9 : Int64.ofInt (a + b) = Int64.ofInt a + Int64.ofInt b := Int64.ofInt_add a b
  rw [List.map_cons] at hk
  rw [show cv G.ad (1, w64 (a + b)) = .long (Int64.ofInt (a + b)) from by show Value.long _ = _; rw [i64_w]] at hk
  rw [e9] at hk
  exact hk
theorem e_laddn {a b : Int} (hd : decode M.2.1 pc = .ok (.ladd, 1)) (ho : okL (a + b)) (k : Ev G M Q (pc + 1) lo ((1, a + b) :: st) mem) : Ev G M Q pc lo ((1, b) :: (1, a) :: st) mem := by
  intro p e s m args below meth c H locs ls C hW hS hT hL hst
  have k2 := k
  rw [show a + b = w64 (a + b) from (w64_id ho).symm] at k2
  exact e_ladd hd k2 p e s m args below meth c H locs ls C hW hS hT hL hst
theorem e_lmul {a b : Int} (hd : decode M.2.1 pc = .ok (.lmul, 1)) (k : Ev G M Q (pc + 1) lo ((1, w64 (a * b)) :: st) mem) : Ev G M Q pc lo ((1, b) :: (1, a) :: st) mem := by
  intro p e s m args below meth c H locs ls C hW hS hT hL hst
  obtain ⟨hb, ha, hst⟩ := st2 hst
  have hk := k p e s m args below meth c H locs ls C hW hS hT hL (stp (okv1 (w64_ok _)) hst)
  refine lv_lmul C.1 C.2.1 hd ?_
  have e9 : Int64.ofInt (a * b) = Int64.ofInt a * Int64.ofInt b := Int64.ofInt_mul a b
  rw [List.map_cons] at hk
  rw [show cv G.ad (1, w64 (a * b)) = .long (Int64.ofInt (a * b)) from by show Value.long _ = _; rw [i64_w]] at hk
  rw [e9] at hk
  exact hk
theorem e_lmuln {a b : Int} (hd : decode M.2.1 pc = .ok (.lmul, 1)) (ho : okL (a * b)) (k : Ev G M Q (pc + 1) lo ((1, a * b) :: st) mem) : Ev G M Q pc lo ((1, b) :: (1, a) :: st) mem := by
  intro p e s m args below meth c H locs ls C hW hS hT hL hst
  have k2 := k
  rw [show a * b = w64 (a * b) from (w64_id ho).symm] at k2
  exact e_lmul hd k2 p e s m args below meth c H locs ls C hW hS hT hL hst
def bAnd (a b : Int) : Int := (Int32.ofInt a &&& Int32.ofInt b).toInt
def bOr (a b : Int) : Int := (Int32.ofInt a ||| Int32.ofInt b).toInt
def bXor (a b : Int) : Int := (Int32.ofInt a ^^^ Int32.ofInt b).toInt
def bShl (a b : Int) : Int := (Int32.ofInt a <<< (Int32.ofInt b &&& 31)).toInt
def bShr (a b : Int) : Int := (Int32.ofInt a >>> (Int32.ofInt b &&& 31)).toInt
def bUshr (a b : Int) : Int := ((Int32.ofInt a).toUInt32 >>> ((Int32.ofInt b).toUInt32 &&& Int32.toUInt32 31)).toInt32.toInt
def bDiv (a b : Int) : Int := (Int32.ofInt a / Int32.ofInt b).toInt
def bRem (a b : Int) : Int := (Int32.ofInt a - Int32.ofInt a / Int32.ofInt b * Int32.ofInt b).toInt
def lDiv (a b : Int) : Int := (Int64.ofInt a / Int64.ofInt b).toInt
def lRem (a b : Int) : Int := (Int64.ofInt a - Int64.ofInt a / Int64.ofInt b * Int64.ofInt b).toInt
def lOr (a b : Int) : Int := (Int64.ofInt a ||| Int64.ofInt b).toInt
def lShl (a b : Int) : Int := (Int64.ofInt a <<< ((Int32.ofInt b).toInt64 &&& 63)).toInt
def i8 (a : Int) : Int := (Int32.ofInt a).toInt8.toInt32.toInt
def i16 (a : Int) : Int := (Int32.ofInt a).toInt16.toInt32.toInt
theorem cvI (ad : Nat → Nat) (x : Int32) : cv ad (0, x.toInt) = .int x := by show Value.int _ = _; rw [i32_back]
theorem cvL (ad : Nat → Nat) (x : Int64) : cv ad (1, x.toInt) = .long x := by show Value.long _ = _; rw [i64_back]
theorem e_iand {a b : Int} (hd : decode M.2.1 pc = .ok (.iand, 1)) (k : Ev G M Q (pc + 1) lo ((0, bAnd a b) :: st) mem) : Ev G M Q pc lo ((0, b) :: (0, a) :: st) mem := by
  intro p e s m args below meth c H locs ls C hW hS hT hL hst
  obtain ⟨hb, ha, hst⟩ := st2 hst
  have hk := k p e s m args below meth c H locs ls C hW hS hT hL (stp (okv0 (okI_of _)) hst)
  rw [List.map_cons] at hk
  unfold bAnd at hk
  rw [cvI] at hk
  exact lv_iand C.1 C.2.1 hd hk
theorem e_ior {a b : Int} (hd : decode M.2.1 pc = .ok (.ior, 1)) (k : Ev G M Q (pc + 1) lo ((0, bOr a b) :: st) mem) : Ev G M Q pc lo ((0, b) :: (0, a) :: st) mem := by
  intro p e s m args below meth c H locs ls C hW hS hT hL hst
  obtain ⟨hb, ha, hst⟩ := st2 hst
  have hk := k p e s m args below meth c H locs ls C hW hS hT hL (stp (okv0 (okI_of _)) hst)
  rw [List.map_cons] at hk
  unfold bOr at hk
  rw [cvI] at hk
  exact lv_ior C.1 C.2.1 hd hk
theorem e_ixor {a b : Int} (hd : decode M.2.1 pc = .ok (.ixor, 1)) (k : Ev G M Q (pc + 1) lo ((0, bXor a b) :: st) mem) : Ev G M Q pc lo ((0, b) :: (0, a) :: st) mem := by
  intro p e s m args below meth c H locs ls C hW hS hT hL hst
  obtain ⟨hb, ha, hst⟩ := st2 hst
  have hk := k p e s m args below meth c H locs ls C hW hS hT hL (stp (okv0 (okI_of _)) hst)
  rw [List.map_cons] at hk
  unfold bXor at hk
  rw [cvI] at hk
  exact lv_ixor C.1 C.2.1 hd hk
theorem e_ishl {a b : Int} (hd : decode M.2.1 pc = .ok (.ishl, 1)) (k : Ev G M Q (pc + 1) lo ((0, bShl a b) :: st) mem) : Ev G M Q pc lo ((0, b) :: (0, a) :: st) mem := by
  intro p e s m args below meth c H locs ls C hW hS hT hL hst
  obtain ⟨hb, ha, hst⟩ := st2 hst
  have hk := k p e s m args below meth c H locs ls C hW hS hT hL (stp (okv0 (okI_of _)) hst)
  rw [List.map_cons] at hk
  unfold bShl at hk
  rw [cvI] at hk
  exact lv_ishl C.1 C.2.1 hd hk
theorem e_ishr {a b : Int} (hd : decode M.2.1 pc = .ok (.ishr, 1)) (k : Ev G M Q (pc + 1) lo ((0, bShr a b) :: st) mem) : Ev G M Q pc lo ((0, b) :: (0, a) :: st) mem := by
  intro p e s m args below meth c H locs ls C hW hS hT hL hst
  obtain ⟨hb, ha, hst⟩ := st2 hst
  have hk := k p e s m args below meth c H locs ls C hW hS hT hL (stp (okv0 (okI_of _)) hst)
  rw [List.map_cons] at hk
  unfold bShr at hk
  rw [cvI] at hk
  exact lv_ishr C.1 C.2.1 hd hk
theorem e_iushr {a b : Int} (hd : decode M.2.1 pc = .ok (.iushr, 1)) (k : Ev G M Q (pc + 1) lo ((0, bUshr a b) :: st) mem) : Ev G M Q pc lo ((0, b) :: (0, a) :: st) mem := by
  intro p e s m args below meth c H locs ls C hW hS hT hL hst
  obtain ⟨hb, ha, hst⟩ := st2 hst
  have hk := k p e s m args below meth c H locs ls C hW hS hT hL (stp (okv0 (okI_of _)) hst)
  rw [List.map_cons] at hk
  unfold bUshr at hk
  rw [cvI] at hk
  exact lv_iushr C.1 C.2.1 hd rfl hk
theorem e_idiv {a b : Int} (hd : decode M.2.1 pc = .ok (.idiv, 1)) (hne : b ≠ 0) (k : Ev G M Q (pc + 1) lo ((0, bDiv a b) :: st) mem) : Ev G M Q pc lo ((0, b) :: (0, a) :: st) mem := by
  intro p e s m args below meth c H locs ls C hW hS hT hL hst
  obtain ⟨hb, ha, hst⟩ := st2 hst
  have hk := k p e s m args below meth c H locs ls C hW hS hT hL (stp (okv0 (okI_of _)) hst)
  rw [List.map_cons] at hk
  unfold bDiv at hk
  rw [cvI] at hk
  exact lv_idiv C.1 C.2.1 hd (fun h => hne ((i32_eq (okv0' hb) (by decide)).mp h)) hk
theorem e_irem {a b : Int} (hd : decode M.2.1 pc = .ok (.irem, 1)) (hne : b ≠ 0) (k : Ev G M Q (pc + 1) lo ((0, bRem a b) :: st) mem) : Ev G M Q pc lo ((0, b) :: (0, a) :: st) mem := by
  intro p e s m args below meth c H locs ls C hW hS hT hL hst
  obtain ⟨hb, ha, hst⟩ := st2 hst
  have hk := k p e s m args below meth c H locs ls C hW hS hT hL (stp (okv0 (okI_of _)) hst)
  rw [List.map_cons] at hk
  unfold bRem at hk
  rw [cvI] at hk
  exact lv_irem C.1 C.2.1 hd (fun h => hne ((i32_eq (okv0' hb) (by decide)).mp h)) hk
theorem i64_eq {a b : Int} (ha : okL a) (hb : okL b) : Int64.ofInt a = Int64.ofInt b ↔ a = b := by
  constructor
  · intro h; rw [← i64_toInt ha, ← i64_toInt hb, h]
  · intro h; rw [h]
theorem e_ldiv {a b : Int} (hd : decode M.2.1 pc = .ok (.ldiv, 1)) (hne : b ≠ 0) (k : Ev G M Q (pc + 1) lo ((1, lDiv a b) :: st) mem) : Ev G M Q pc lo ((1, b) :: (1, a) :: st) mem := by
  intro p e s m args below meth c H locs ls C hW hS hT hL hst
  obtain ⟨hb, ha, hst⟩ := st2 hst
  have hk := k p e s m args below meth c H locs ls C hW hS hT hL (stp (okv1 (okL_of _)) hst)
  rw [List.map_cons] at hk
  unfold lDiv at hk
  rw [cvL] at hk
  exact lv_ldiv C.1 C.2.1 hd (fun h => hne ((i64_eq (okv1' hb) (by decide)).mp h)) hk
theorem e_lrem {a b : Int} (hd : decode M.2.1 pc = .ok (.lrem, 1)) (hne : b ≠ 0) (k : Ev G M Q (pc + 1) lo ((1, lRem a b) :: st) mem) : Ev G M Q pc lo ((1, b) :: (1, a) :: st) mem := by
  intro p e s m args below meth c H locs ls C hW hS hT hL hst
  obtain ⟨hb, ha, hst⟩ := st2 hst
  have hk := k p e s m args below meth c H locs ls C hW hS hT hL (stp (okv1 (okL_of _)) hst)
  rw [List.map_cons] at hk
  unfold lRem at hk
  rw [cvL] at hk
  exact lv_lrem C.1 C.2.1 hd (fun h => hne ((i64_eq (okv1' hb) (by decide)).mp h)) hk
theorem e_lor {a b : Int} (hd : decode M.2.1 pc = .ok (.lor, 1)) (k : Ev G M Q (pc + 1) lo ((1, lOr a b) :: st) mem) : Ev G M Q pc lo ((1, b) :: (1, a) :: st) mem := by
  intro p e s m args below meth c H locs ls C hW hS hT hL hst
  obtain ⟨hb, ha, hst⟩ := st2 hst
  have hk := k p e s m args below meth c H locs ls C hW hS hT hL (stp (okv1 (okL_of _)) hst)
  rw [List.map_cons] at hk
  unfold lOr at hk
  rw [cvL] at hk
  exact lv_lor C.1 C.2.1 hd hk
theorem e_lshl {a b : Int} (hd : decode M.2.1 pc = .ok (.lshl, 1)) (k : Ev G M Q (pc + 1) lo ((1, lShl a b) :: st) mem) : Ev G M Q pc lo ((0, b) :: (1, a) :: st) mem := by
  intro p e s m args below meth c H locs ls C hW hS hT hL hst
  obtain ⟨hb, ha, hst⟩ := st2 hst
  have hk := k p e s m args below meth c H locs ls C hW hS hT hL (stp (okv1 (okL_of _)) hst)
  rw [List.map_cons] at hk
  unfold lShl at hk
  rw [cvL] at hk
  exact lv_lshl C.1 C.2.1 hd rfl hk
theorem e_ineg {a : Int} (hd : decode M.2.1 pc = .ok (.ineg, 1)) (k : Ev G M Q (pc + 1) lo ((0, w32 (-a)) :: st) mem) : Ev G M Q pc lo ((0, a) :: st) mem := by
  intro p e s m args below meth c H locs ls C hW hS hT hL hst
  obtain ⟨ha, hst⟩ := st1 hst
  have hk := k p e s m args below meth c H locs ls C hW hS hT hL (stp (okv0 (w32_ok _)) hst)
  rw [List.map_cons, show cv G.ad (0, w32 (-a)) = .int (-(Int32.ofInt a)) from by show Value.int _ = _; rw [i32_w, Int32.ofInt_neg]] at hk
  exact lv_ineg C.1 C.2.1 hd hk
theorem e_lneg {a : Int} (hd : decode M.2.1 pc = .ok (.lneg, 1)) (k : Ev G M Q (pc + 1) lo ((1, w64 (-a)) :: st) mem) : Ev G M Q pc lo ((1, a) :: st) mem := by
  intro p e s m args below meth c H locs ls C hW hS hT hL hst
  obtain ⟨ha, hst⟩ := st1 hst
  have hk := k p e s m args below meth c H locs ls C hW hS hT hL (stp (okv1 (w64_ok _)) hst)
  rw [List.map_cons, show cv G.ad (1, w64 (-a)) = .long (-(Int64.ofInt a)) from by show Value.long _ = _; rw [i64_w, Int64.ofInt_neg]] at hk
  exact lv_lneg C.1 C.2.1 hd hk
theorem e_i2l {a : Int} (hd : decode M.2.1 pc = .ok (.i2l, 1)) (k : Ev G M Q (pc + 1) lo ((1, a) :: st) mem) : Ev G M Q pc lo ((0, a) :: st) mem := by
  intro p e s m args below meth c H locs ls C hW hS hT hL hst
  obtain ⟨ha, hst⟩ := st1 hst
  have ho := okv0' ha
  refine lv_i2l C.1 C.2.1 hd ?_ (k p e s m args below meth c H locs ls C hW hS hT hL (stp (okv1 (by omega)) hst))
  apply Int64.toInt_inj.mp
  rw [Int32.toInt_toInt64, i32_toInt ho, i64_toInt (by omega)]
theorem e_i2b {a : Int} (hd : decode M.2.1 pc = .ok (.i2b, 1)) (k : Ev G M Q (pc + 1) lo ((0, i8 a) :: st) mem) : Ev G M Q pc lo ((0, a) :: st) mem := by
  intro p e s m args below meth c H locs ls C hW hS hT hL hst
  obtain ⟨ha, hst⟩ := st1 hst
  have hk := k p e s m args below meth c H locs ls C hW hS hT hL (stp (okv0 (okI_of _)) hst)
  rw [List.map_cons] at hk
  unfold i8 at hk
  rw [cvI] at hk
  exact lv_i2b C.1 C.2.1 hd rfl hk
theorem e_i2s {a : Int} (hd : decode M.2.1 pc = .ok (.i2s, 1)) (k : Ev G M Q (pc + 1) lo ((0, i16 a) :: st) mem) : Ev G M Q pc lo ((0, a) :: st) mem := by
  intro p e s m args below meth c H locs ls C hW hS hT hL hst
  obtain ⟨ha, hst⟩ := st1 hst
  have hk := k p e s m args below meth c H locs ls C hW hS hT hL (stp (okv0 (okI_of _)) hst)
  rw [List.map_cons] at hk
  unfold i16 at hk
  rw [cvI] at hk
  exact lv_i2s C.1 C.2.1 hd rfl hk
def lCmp (a b : Int) : Int := if a > b then 1 else if a = b then 0 else -1
theorem lCmp_ok (a b : Int) : okI (lCmp a b) := by
  unfold lCmp
  split
  · decide
  · split <;> decide
theorem e_lcmp {a b : Int} (hd : decode M.2.1 pc = .ok (.lcmp, 1)) (k : Ev G M Q (pc + 1) lo ((0, lCmp a b) :: st) mem) : Ev G M Q pc lo ((1, b) :: (1, a) :: st) mem := by
  intro p e s m args below meth c H locs ls C hW hS hT hL hst
  obtain ⟨hb, ha, hst⟩ := st2 hst
  have ha := okv1' ha
  have hb := okv1' hb
  have hk := k p e s m args below meth c H locs ls C hW hS hT hL (stp (okv0 (lCmp_ok a b)) hst)
  rw [List.map_cons] at hk
  refine W.lcmp C.1 C.2.1 hd ?_
  rw [show Value.int (lg_cmp (Int64.ofInt a) (Int64.ofInt b)) = cv G.ad (0, lCmp a b) from ?_]
  · exact hk
  · show _ = Value.int _
    unfold lg_cmp lCmp
    have e1 : (Int64.ofInt a > Int64.ofInt b) ↔ a > b := by show Int64.ofInt b < Int64.ofInt a ↔ b < a; rw [Int64.lt_iff_toInt_lt, i64_toInt ha, i64_toInt hb]
    have e2 : (Int64.ofInt a = Int64.ofInt b) ↔ a = b := i64_eq ha hb
    by_cases h1 : a > b
    · rw [if_pos (e1.mpr h1), if_pos h1]; rfl
    · rw [if_neg (fun q => h1 (e1.mp q)), if_neg h1]
      by_cases h2 : a = b
      · rw [if_pos (e2.mpr h2), if_pos h2]; rfl
      · rw [if_neg (fun q => h2 (e2.mp q)), if_neg h2]; rfl
theorem e_dup {v : AV} (hd : decode M.2.1 pc = .ok (.dup, 1)) (hc : cv_cat v = 1) (k : Ev G M Q (pc + 1) lo (v :: v :: st) mem) : Ev G M Q pc lo (v :: st) mem := by
  intro p e s m args below meth c H locs ls C hW hS hT hL hst
  exact lv_dup C.1 C.2.1 hd ((cv_category _ _).trans hc) (k p e s m args below meth c H locs ls C hW hS hT hL (stp (st1 hst).1 hst))
theorem e_pop {v : AV} (hd : decode M.2.1 pc = .ok (.pop, 1)) (hc : cv_cat v = 1) (k : Ev G M Q (pc + 1) lo st mem) : Ev G M Q pc lo (v :: st) mem := by
  intro p e s m args below meth c H locs ls C hW hS hT hL hst
  exact lv_pop C.1 C.2.1 hd ((cv_category _ _).trans hc) (k p e s m args below meth c H locs ls C hW hS hT hL (st1 hst).2)
theorem e_goto {off : Int} {tgt : Nat} (hd : decode M.2.1 pc = .ok (.goto off, 3)) (ht : (pc : Int) + off = (tgt : Int)) (k : Ev G M Q tgt lo st mem) : Ev G M Q pc lo st mem := by
  intro p e s m args below meth c H locs ls C hW hS hT hL hst
  exact lv_goto C.1 C.2.1 hd ht (k p e s m args below meth c H locs ls C hW hS hT hL hst)
theorem e_icmp_eq {a b : Int} {off : Int} {tgt : Nat} (hd : decode M.2.1 pc = .ok (.if_icmp .eq off, 3)) (ht : (pc : Int) + off = (tgt : Int)) (kt : a = b → Ev G M Q tgt lo st mem) (kf : ¬ a = b → Ev G M Q (pc + 3) lo st mem) : Ev G M Q pc lo ((0, b) :: (0, a) :: st) mem := by
  intro p e s m args below meth c H locs ls C hW hS hT hL hst
  obtain ⟨hb, ha, hst⟩ := st2 hst
  have hb := okv0' hb
  have ha := okv0' ha
  refine lv_icmp_eq C.1 C.2.1 hd ht (fun q => kt (by simp only [i32_eq ha hb, i32_lt ha hb, i32_le ha hb, i32_lt hb ha, i32_le hb ha, ne_eq, ge_iff_le, gt_iff_lt] at q; omega) p e s m args below meth c H locs ls C hW hS hT hL hst) (fun q => kf (by simp only [i32_eq ha hb, i32_lt ha hb, i32_le ha hb, i32_lt hb ha, i32_le hb ha, ne_eq, ge_iff_le, gt_iff_lt] at q; omega) p e s m args below meth c H locs ls C hW hS hT hL hst)
theorem e_if_eq {a : Int} {off : Int} {tgt : Nat} (hd : decode M.2.1 pc = .ok (.ifCond .eq off, 3)) (ht : (pc : Int) + off = (tgt : Int)) (kt : a = 0 → Ev G M Q tgt lo st mem) (kf : ¬ a = 0 → Ev G M Q (pc + 3) lo st mem) : Ev G M Q pc lo ((0, a) :: st) mem := by
  intro p e s m args below meth c H locs ls C hW hS hT hL hst
  obtain ⟨ha, hst⟩ := st1 hst
  have ha := okv0' ha
  have hb : okI 0 := by decide
  refine lv_if_eq C.1 C.2.1 hd ht (fun q => kt (by rw [show (0 : Int32) = Int32.ofInt 0 from rfl] at q; simp only [i32_eq ha hb, i32_lt ha hb, i32_le ha hb, i32_lt hb ha, i32_le hb ha, ne_eq, ge_iff_le, gt_iff_lt] at q; omega) p e s m args below meth c H locs ls C hW hS hT hL hst) (fun q => kf (by rw [show (0 : Int32) = Int32.ofInt 0 from rfl] at q; simp only [i32_eq ha hb, i32_lt ha hb, i32_le ha hb, i32_lt hb ha, i32_le hb ha, ne_eq, ge_iff_le, gt_iff_lt] at q; omega) p e s m args below meth c H locs ls C hW hS hT hL hst)
theorem e_icmp_ne {a b : Int} {off : Int} {tgt : Nat} (hd : decode M.2.1 pc = .ok (.if_icmp .ne off, 3)) (ht : (pc : Int) + off = (tgt : Int)) (kt : ¬ a = b → Ev G M Q tgt lo st mem) (kf : a = b → Ev G M Q (pc + 3) lo st mem) : Ev G M Q pc lo ((0, b) :: (0, a) :: st) mem := by
  intro p e s m args below meth c H locs ls C hW hS hT hL hst
  obtain ⟨hb, ha, hst⟩ := st2 hst
  have hb := okv0' hb
  have ha := okv0' ha
  refine lv_icmp_ne C.1 C.2.1 hd ht (fun q => kt (by simp only [i32_eq ha hb, i32_lt ha hb, i32_le ha hb, i32_lt hb ha, i32_le hb ha, ne_eq, ge_iff_le, gt_iff_lt] at q; omega) p e s m args below meth c H locs ls C hW hS hT hL hst) (fun q => kf (by simp only [i32_eq ha hb, i32_lt ha hb, i32_le ha hb, i32_lt hb ha, i32_le hb ha, ne_eq, ge_iff_le, gt_iff_lt] at q; omega) p e s m args below meth c H locs ls C hW hS hT hL hst)
theorem e_if_ne {a : Int} {off : Int} {tgt : Nat} (hd : decode M.2.1 pc = .ok (.ifCond .ne off, 3)) (ht : (pc : Int) + off = (tgt : Int)) (kt : ¬ a = 0 → Ev G M Q tgt lo st mem) (kf : a = 0 → Ev G M Q (pc + 3) lo st mem) : Ev G M Q pc lo ((0, a) :: st) mem := by
  intro p e s m args below meth c H locs ls C hW hS hT hL hst
  obtain ⟨ha, hst⟩ := st1 hst
  have ha := okv0' ha
  have hb : okI 0 := by decide
  refine lv_if_ne C.1 C.2.1 hd ht (fun q => kt (by rw [show (0 : Int32) = Int32.ofInt 0 from rfl] at q; simp only [i32_eq ha hb, i32_lt ha hb, i32_le ha hb, i32_lt hb ha, i32_le hb ha, ne_eq, ge_iff_le, gt_iff_lt] at q; omega) p e s m args below meth c H locs ls C hW hS hT hL hst) (fun q => kf (by rw [show (0 : Int32) = Int32.ofInt 0 from rfl] at q; simp only [i32_eq ha hb, i32_lt ha hb, i32_le ha hb, i32_lt hb ha, i32_le hb ha, ne_eq, ge_iff_le, gt_iff_lt] at q; omega) p e s m args below meth c H locs ls C hW hS hT hL hst)
theorem e_icmp_lt {a b : Int} {off : Int} {tgt : Nat} (hd : decode M.2.1 pc = .ok (.if_icmp .lt off, 3)) (ht : (pc : Int) + off = (tgt : Int)) (kt : a < b → Ev G M Q tgt lo st mem) (kf : b ≤ a → Ev G M Q (pc + 3) lo st mem) : Ev G M Q pc lo ((0, b) :: (0, a) :: st) mem := by
  intro p e s m args below meth c H locs ls C hW hS hT hL hst
  obtain ⟨hb, ha, hst⟩ := st2 hst
  have hb := okv0' hb
  have ha := okv0' ha
  refine lv_icmp_lt C.1 C.2.1 hd ht (fun q => kt (by simp only [i32_eq ha hb, i32_lt ha hb, i32_le ha hb, i32_lt hb ha, i32_le hb ha, ne_eq, ge_iff_le, gt_iff_lt] at q; omega) p e s m args below meth c H locs ls C hW hS hT hL hst) (fun q => kf (by simp only [i32_eq ha hb, i32_lt ha hb, i32_le ha hb, i32_lt hb ha, i32_le hb ha, ne_eq, ge_iff_le, gt_iff_lt] at q; omega) p e s m args below meth c H locs ls C hW hS hT hL hst)
theorem e_if_lt {a : Int} {off : Int} {tgt : Nat} (hd : decode M.2.1 pc = .ok (.ifCond .lt off, 3)) (ht : (pc : Int) + off = (tgt : Int)) (kt : a < 0 → Ev G M Q tgt lo st mem) (kf : 0 ≤ a → Ev G M Q (pc + 3) lo st mem) : Ev G M Q pc lo ((0, a) :: st) mem := by
  intro p e s m args below meth c H locs ls C hW hS hT hL hst
  obtain ⟨ha, hst⟩ := st1 hst
  have ha := okv0' ha
  have hb : okI 0 := by decide
  refine lv_if_lt C.1 C.2.1 hd ht (fun q => kt (by rw [show (0 : Int32) = Int32.ofInt 0 from rfl] at q; simp only [i32_eq ha hb, i32_lt ha hb, i32_le ha hb, i32_lt hb ha, i32_le hb ha, ne_eq, ge_iff_le, gt_iff_lt] at q; omega) p e s m args below meth c H locs ls C hW hS hT hL hst) (fun q => kf (by rw [show (0 : Int32) = Int32.ofInt 0 from rfl] at q; simp only [i32_eq ha hb, i32_lt ha hb, i32_le ha hb, i32_lt hb ha, i32_le hb ha, ne_eq, ge_iff_le, gt_iff_lt] at q; omega) p e s m args below meth c H locs ls C hW hS hT hL hst)
theorem e_icmp_ge {a b : Int} {off : Int} {tgt : Nat} (hd : decode M.2.1 pc = .ok (.if_icmp .ge off, 3)) (ht : (pc : Int) + off = (tgt : Int)) (kt : b ≤ a → Ev G M Q tgt lo st mem) (kf : a < b → Ev G M Q (pc + 3) lo st mem) : Ev G M Q pc lo ((0, b) :: (0, a) :: st) mem := by
  intro p e s m args below meth c H locs ls C hW hS hT hL hst
  obtain ⟨hb, ha, hst⟩ := st2 hst
  have hb := okv0' hb
  have ha := okv0' ha
  refine lv_icmp_ge C.1 C.2.1 hd ht (fun q => kt (by simp only [i32_eq ha hb, i32_lt ha hb, i32_le ha hb, i32_lt hb ha, i32_le hb ha, ne_eq, ge_iff_le, gt_iff_lt] at q; omega) p e s m args below meth c H locs ls C hW hS hT hL hst) (fun q => kf (by simp only [i32_eq ha hb, i32_lt ha hb, i32_le ha hb, i32_lt hb ha, i32_le hb ha, ne_eq, ge_iff_le, gt_iff_lt] at q; omega) p e s m args below meth c H locs ls C hW hS hT hL hst)
theorem e_if_ge {a : Int} {off : Int} {tgt : Nat} (hd : decode M.2.1 pc = .ok (.ifCond .ge off, 3)) (ht : (pc : Int) + off = (tgt : Int)) (kt : 0 ≤ a → Ev G M Q tgt lo st mem) (kf : a < 0 → Ev G M Q (pc + 3) lo st mem) : Ev G M Q pc lo ((0, a) :: st) mem := by
  intro p e s m args below meth c H locs ls C hW hS hT hL hst
  obtain ⟨ha, hst⟩ := st1 hst
  have ha := okv0' ha
  have hb : okI 0 := by decide
  refine lv_if_ge C.1 C.2.1 hd ht (fun q => kt (by rw [show (0 : Int32) = Int32.ofInt 0 from rfl] at q; simp only [i32_eq ha hb, i32_lt ha hb, i32_le ha hb, i32_lt hb ha, i32_le hb ha, ne_eq, ge_iff_le, gt_iff_lt] at q; omega) p e s m args below meth c H locs ls C hW hS hT hL hst) (fun q => kf (by rw [show (0 : Int32) = Int32.ofInt 0 from rfl] at q; simp only [i32_eq ha hb, i32_lt ha hb, i32_le ha hb, i32_lt hb ha, i32_le hb ha, ne_eq, ge_iff_le, gt_iff_lt] at q; omega) p e s m args below meth c H locs ls C hW hS hT hL hst)
theorem e_icmp_gt {a b : Int} {off : Int} {tgt : Nat} (hd : decode M.2.1 pc = .ok (.if_icmp .gt off, 3)) (ht : (pc : Int) + off = (tgt : Int)) (kt : b < a → Ev G M Q tgt lo st mem) (kf : a ≤ b → Ev G M Q (pc + 3) lo st mem) : Ev G M Q pc lo ((0, b) :: (0, a) :: st) mem := by
  intro p e s m args below meth c H locs ls C hW hS hT hL hst
  obtain ⟨hb, ha, hst⟩ := st2 hst
  have hb := okv0' hb
  have ha := okv0' ha
  refine lv_icmp_gt C.1 C.2.1 hd ht (fun q => kt (by simp only [i32_eq ha hb, i32_lt ha hb, i32_le ha hb, i32_lt hb ha, i32_le hb ha, ne_eq, ge_iff_le, gt_iff_lt] at q; omega) p e s m args below meth c H locs ls C hW hS hT hL hst) (fun q => kf (by simp only [i32_eq ha hb, i32_lt ha hb, i32_le ha hb, i32_lt hb ha, i32_le hb ha, ne_eq, ge_iff_le, gt_iff_lt] at q; omega) p e s m args below meth c H locs ls C hW hS hT hL hst)
theorem e_if_gt {a : Int} {off : Int} {tgt : Nat} (hd : decode M.2.1 pc = .ok (.ifCond .gt off, 3)) (ht : (pc : Int) + off = (tgt : Int)) (kt : 0 < a → Ev G M Q tgt lo st mem) (kf : a ≤ 0 → Ev G M Q (pc + 3) lo st mem) : Ev G M Q pc lo ((0, a) :: st) mem := by
  intro p e s m args below meth c H locs ls C hW hS hT hL hst
  obtain ⟨ha, hst⟩ := st1 hst
  have ha := okv0' ha
  have hb : okI 0 := by decide
  refine lv_if_gt C.1 C.2.1 hd ht (fun q => kt (by rw [show (0 : Int32) = Int32.ofInt 0 from rfl] at q; simp only [i32_eq ha hb, i32_lt ha hb, i32_le ha hb, i32_lt hb ha, i32_le hb ha, ne_eq, ge_iff_le, gt_iff_lt] at q; omega) p e s m args below meth c H locs ls C hW hS hT hL hst) (fun q => kf (by rw [show (0 : Int32) = Int32.ofInt 0 from rfl] at q; simp only [i32_eq ha hb, i32_lt ha hb, i32_le ha hb, i32_lt hb ha, i32_le hb ha, ne_eq, ge_iff_le, gt_iff_lt] at q; omega) p e s m args below meth c H locs ls C hW hS hT hL hst)
theorem e_icmp_le {a b : Int} {off : Int} {tgt : Nat} (hd : decode M.2.1 pc = .ok (.if_icmp .le off, 3)) (ht : (pc : Int) + off = (tgt : Int)) (kt : a ≤ b → Ev G M Q tgt lo st mem) (kf : b < a → Ev G M Q (pc + 3) lo st mem) : Ev G M Q pc lo ((0, b) :: (0, a) :: st) mem := by
  intro p e s m args below meth c H locs ls C hW hS hT hL hst
  obtain ⟨hb, ha, hst⟩ := st2 hst
  have hb := okv0' hb
  have ha := okv0' ha
  refine lv_icmp_le C.1 C.2.1 hd ht (fun q => kt (by simp only [i32_eq ha hb, i32_lt ha hb, i32_le ha hb, i32_lt hb ha, i32_le hb ha, ne_eq, ge_iff_le, gt_iff_lt] at q; omega) p e s m args below meth c H locs ls C hW hS hT hL hst) (fun q => kf (by simp only [i32_eq ha hb, i32_lt ha hb, i32_le ha hb, i32_lt hb ha, i32_le hb ha, ne_eq, ge_iff_le, gt_iff_lt] at q; omega) p e s m args below meth c H locs ls C hW hS hT hL hst)
theorem e_if_le {a : Int} {off : Int} {tgt : Nat} (hd : decode M.2.1 pc = .ok (.ifCond .le off, 3)) (ht : (pc : Int) + off = (tgt : Int)) (kt : a ≤ 0 → Ev G M Q tgt lo st mem) (kf : 0 < a → Ev G M Q (pc + 3) lo st mem) : Ev G M Q pc lo ((0, a) :: st) mem := by
  intro p e s m args below meth c H locs ls C hW hS hT hL hst
  obtain ⟨ha, hst⟩ := st1 hst
  have ha := okv0' ha
  have hb : okI 0 := by decide
  refine lv_if_le C.1 C.2.1 hd ht (fun q => kt (by rw [show (0 : Int32) = Int32.ofInt 0 from rfl] at q; simp only [i32_eq ha hb, i32_lt ha hb, i32_le ha hb, i32_lt hb ha, i32_le hb ha, ne_eq, ge_iff_le, gt_iff_lt] at q; omega) p e s m args below meth c H locs ls C hW hS hT hL hst) (fun q => kf (by rw [show (0 : Int32) = Int32.ofInt 0 from rfl] at q; simp only [i32_eq ha hb, i32_lt ha hb, i32_le ha hb, i32_lt hb ha, i32_le hb ha, ne_eq, ge_iff_le, gt_iff_lt] at q; omega) p e s m args below meth c H locs ls C hW hS hT hL hst)
theorem e_tableOut {dflt l0 h0 : Int} {offs : Array Int} {len : Nat} {a : Int} {tgt : Nat} (hd : decode M.2.1 pc = .ok (.tableswitch dflt l0 h0 offs, len)) (h : a < l0 ∨ h0 < a) (ht : (pc : Int) + dflt = (tgt : Int)) (k : Ev G M Q tgt lo st mem) : Ev G M Q pc lo ((0, a) :: st) mem := by
  intro p e s m args below meth c H locs ls C hW hS hT hL hst
  obtain ⟨ha, hst⟩ := st1 hst
  exact lv_tableOut C.1 C.2.1 hd (by rw [i32_toInt (okv0' ha)]; exact h) ht (k p e s m args below meth c H locs ls C hW hS hT hL hst)
theorem e_tableIn {dflt l0 h0 : Int} {offs : Array Int} {len : Nat} {a : Int} {off : Int} {tgt : Nat} (hd : decode M.2.1 pc = .ok (.tableswitch dflt l0 h0 offs, len)) (h : l0 ≤ a ∧ a ≤ h0) (ho : offs[(a - l0).toNat]? = some off) (ht : (pc : Int) + off = (tgt : Int)) (k : Ev G M Q tgt lo st mem) : Ev G M Q pc lo ((0, a) :: st) mem := by
  intro p e s m args below meth c H locs ls C hW hS hT hL hst
  obtain ⟨ha, hst⟩ := st1 hst
  have e9 := i32_toInt (okv0' ha)
  exact lv_tableIn C.1 C.2.1 hd (by rw [e9]; omega) (by rw [e9]; omega) (by rw [e9]; exact ho) ht (k p e s m args below meth c H locs ls C hW hS hT hL hst)
end MRows
