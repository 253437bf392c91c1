section MHeap
variable {G : Gm} {M : Mt} {Q : Option AV → Mem → Prop} {pc : Nat} {lo st : List AV} {mem : Mem}
/-- by the link own/ix the field j of the class number ci is meant -/
def FL (own : String) (ix ci j : Nat) : Prop := ∃ q : vw_C, classes[ci]? = some q ∧ j < q.2.2 ∧ Cond.fieldLink own ix q.1 (q.2.1 j).2.1 (q.2.1 j).2.2.1 ∈ wtb ∧ (q.2.1 j).1 = q.1
theorem ceE_obj {ad : Nat → Nat} {cA : Nat → ClassId} {c ci : Nat} {ks : List Int} {r : Nat → Int} (hs : shp c = .inl (ci, ks)) : ceE ad cA c r = .inr (ci, ks.zipIdx.map (fun q => fv ad r q.2 q.1)) := by
  unfold ceE; rw [hs]
theorem ceE_arr {ad : Nat → Nat} {cA : Nat → ClassId} {c t n b : Nat} {r : Nat → Int} (hs : shp c = .inr (t, n, b)) : ceE ad cA c r = .inl (cA t, n, arE ad t n b r) := by
  unfold ceE; rw [hs]
theorem fv_at {ad : Nat → Nat} {ks : List Int} {r : Nat → Int} {j : Nat} {k : Int} (hk : ks[j]? = some k) : (ks.zipIdx.map (fun q => fv ad r q.2 q.1))[j]? = some (fv ad r j k) := by
  rw [List.getElem?_map, List.getElem?_zipIdx, hk]; simp
theorem fv_set {ad : Nat → Nat} {ks : List Int} {r : Nat → Int} {j : Nat} {k v : Int} (hk : ks[j]? = some k) (hn : k < 0) : (ks.zipIdx.map (fun q => fv ad r q.2 q.1)).set j (.int (Int32.ofInt v)) = ks.zipIdx.map (fun q => fv ad (uset r j v) q.2 q.1) := by
  apply List.ext_getElem?
  intro i
  rw [List.getElem?_set]
  by_cases hi : j = i
  · subst hi
    have hl : j < ks.length := (List.getElem?_eq_some_iff.mp hk).1
    rw [if_pos rfl, fv_at hk]
    simp [hl, fv, hn, uset]
  · rw [if_neg hi, List.getElem?_map, List.getElem?_map, List.getElem?_zipIdx]
    cases h : ks[i]? with
    | none => rfl
    | some x => simp [fv, uset, Ne.symm hi]
theorem shp_lt {c : Nat} {x : Nat × List Int} (h : shp c = .inl x) : c < NC := by
  rcases Nat.lt_or_ge c NC with q | q
  · exact q
  · unfold shp at h
    rw [List.getD_eq_getElem?_getD, List.getElem?_eq_none (show shl.length ≤ c from q)] at h
    cases h
theorem okm_geti {c ci j : Nat} {ks : List Int} (h : okm mem) (hs : shp c = .inl (ci, ks)) : okI (mem c j) := by
  have := h c j
  rw [hs] at this
  exact this
theorem okm_arr {c t n b j : Nat} (h : okm mem) (hs : shp c = .inr (t, n, b)) (ht : t ≠ 2) : okI (mem c j) := by
  have := h c j
  rw [hs] at this
  simpa [ht] using this
theorem okm_arrL {c n b j : Nat} (h : okm mem) (hs : shp c = .inr (2, n, b)) : okL (mem c j) := by
  have := h c j
  rw [hs] at this
  simpa using this
theorem okm_rset {c : Nat} {r : Nat → Int} (h : okm mem) (hr : okr c r) : okm (rset mem c r) := by
  intro c'
  by_cases e : c' = c
  · subst e; rw [rset_eq]; exact hr
  · rw [rset_ne _ _ _ e]; exact h c'
theorem okr_uset {c j : Nat} {r : Nat → Int} {v : Int} (h : okr c r) (hv : (shp c).elim (fun _ => okI v) (fun q => if q.1 = 2 then okL v else okI v)) : okr c (uset r j v) := by
  intro j'
  unfold uset
  by_cases e : j' = j
  · rw [if_pos e]; exact hv
  · rw [if_neg e]; exact h j'
theorem ad_inj (hD : va_D (AA G) (wsOf G.ad G.cA mem)) {a b : Nat} (ha : a < NC) (hb : b < NC) (h : G.ad a = G.ad b) : a = b := hD.1 a b _ _ (ws_get ha) (ws_get hb) h
/-- an int or boolean field is read -/
theorem e_geti {ix c ci j : Nat} {ks : List Int} {k : Int} (hd : decode M.2.1 pc = .ok (.getfield ix, 3)) (hf : FL M.1.cls ix ci j) (hs : shp c = .inl (ci, ks)) (hk : ks[j]? = some k) (hn : k < 0) (kk : Ev G M Q (pc + 3) lo ((0, mem c j) :: st) mem) : Ev G M Q pc lo ((2, (c : Int)) :: st) mem := by
  intro p e s m args below meth c' H locs ls C hW hS hT hL hst
  obtain ⟨q, hq, hj, hl, ho⟩ := hf
  have hc := shp_lt hs
  have hg := ws_get (ad := G.ad) (cA := G.cA) (mem := mem) hc
  rw [ceE_obj hs] at hg
  refine va_get (v := .int (Int32.ofInt (mem c j))) (own := M.1.cls) C.1 C.2.1 (Ts := wds M) C.2.2.2.2.2.1 (fun w h => List.mem_cons_of_mem _ ((cls_in ci q hq).1 w h)) C.2.2.2.2.1 hW.2.1 hW.1 c hg hq j hj (C.2.2.2.2.2.1 _ (List.mem_cons_of_mem _ hl)) (fun x hx => by rw [ho] at hx; exact hx) ?_ hd ?_
  · rw [fv_at hk]; simp [fv, hn]
  · exact kk p e s m args below meth c' H locs ls C hW hS hT hL (stp (okv0 (okm_geti hW.2.2.2 hs)) (st1 hst).2)
/-- a reference is read: the world's own -/
theorem e_getr {ix c ci j : Nat} {ks : List Int} {k : Int} (hd : decode M.2.1 pc = .ok (.getfield ix, 3)) (hf : FL M.1.cls ix ci j) (hs : shp c = .inl (ci, ks)) (hk : ks[j]? = some k) (hn : ¬ k < 0) (kk : Ev G M Q (pc + 3) lo ((2, k) :: st) mem) : Ev G M Q pc lo ((2, (c : Int)) :: st) mem := by
  intro p e s m args below meth c' H locs ls C hW hS hT hL hst
  obtain ⟨q, hq, hj, hl, ho⟩ := hf
  have hc := shp_lt hs
  have hg := ws_get (ad := G.ad) (cA := G.cA) (mem := mem) hc
  rw [ceE_obj hs] at hg
  refine va_get (v := .ref (G.ad k.toNat)) (own := M.1.cls) C.1 C.2.1 (Ts := wds M) C.2.2.2.2.2.1 (fun w h => List.mem_cons_of_mem _ ((cls_in ci q hq).1 w h)) C.2.2.2.2.1 hW.2.1 hW.1 c hg hq j hj (C.2.2.2.2.2.1 _ (List.mem_cons_of_mem _ hl)) (fun x hx => by rw [ho] at hx; exact hx) ?_ hd ?_
  · rw [fv_at hk]; simp [fv, hn]
  · exact kk p e s m args below meth c' H locs ls C hW hS hT hL (stp okv2 (st1 hst).2)
/-- an int field is written (k = -1), or a boolean one (k = -2) -/
theorem e_puti {ix c ci j : Nat} {ks : List Int} {k v : Int} (hd : decode M.2.1 pc = .ok (.putfield ix, 3)) (hf : FL M.1.cls ix ci j) (hs : shp c = .inl (ci, ks)) (hk : ks[j]? = some k) (hn : k < 0)
    (hm : ∀ q : vw_C, classes[ci]? = some q → (q.2.1 j).2.2.2 = false ∧ (tyOf ci j = .int ∨ (tyOf ci j = .boolean ∧ (v = 0 ∨ v = 1)))) (kk : Ev G M Q (pc + 3) lo st (mset mem c j v)) : Ev G M Q pc lo ((0, v) :: (2, (c : Int)) :: st) mem := by
  intro p e s m args below meth c' H locs ls C hW hS hT hL hst
  obtain ⟨q, hq, hj, hl, ho⟩ := hf
  have hc := shp_lt hs
  have hg := ws_get (ad := G.ad) (cA := G.cA) (mem := mem) hc
  rw [ceE_obj hs] at hg
  obtain ⟨hm1, hm2⟩ := hm q hq
  have hfit : narrow (tyOf ci j) (.int (Int32.ofInt v)) = .int (Int32.ofInt v) ∧ fits (tyOf ci j) (.int (Int32.ofInt v)) = true := by
    rcases hm2 with h | ⟨h, rfl | rfl⟩ <;> rw [h]
    · exact ⟨rfl, rfl⟩
    · exact ⟨rfl, rfl⟩
    · exact ⟨rfl, rfl⟩
  refine va_put (v := .int (Int32.ofInt v)) (own := M.1.cls) C.1 C.2.1 (Ts := wds M) C.2.2.2.2.2.1 (fun w h => List.mem_cons_of_mem _ ((cls_in ci q hq).1 w h)) (tyOf ci) (cls_in ci q hq).2.1 (cls_in ci q hq).2.2 C.2.2.2.2.1 hW.2.1 hW.1 hW.2.2.1 hS c hg hq j hj (C.2.2.2.2.2.1 _ (List.mem_cons_of_mem _ hl)) (fun x hx => by rw [ho] at hx; exact hx) hm1 ((cls_in ci q hq).2.1 j hj) hfit.1 hfit.2 ?_ hd (fun H1 locs1 hP1 hD1 hS1 => ?_)
  · rw [List.length_map, List.length_zipIdx]; exact (List.getElem?_eq_some_iff.mp hk).1
  · rw [fv_set hk hn, ws_set (r := uset (mem c) j v) (ceE_obj hs)] at hP1 hD1
    refine kk p e s m args below meth c' H1 locs1 ls C ⟨hP1, hW.2.1, hD1, okm_rset hW.2.2.2 (okr_uset (hW.2.2.2 c) ?_)⟩ hS1 hT hL (st2 hst).2.2
    rw [hs]; exact okv0' (st1 hst).1
theorem tys0 : (tysG G)[0]? = some (G.cA 0, .int) := rfl
theorem tys1 : (tysG G)[1]? = some (G.cA 1, .boolean) := rfl
theorem tys2 : (tysG G)[2]? = some (G.cA 2, .long) := rfl
theorem tys3 : (tysG G)[3]? = some (G.cA 3, .array .int) := rfl
theorem shp_ltA {c t n b : Nat} (h : shp c = .inr (t, n, b)) (hn : 0 < n) : c < NC := by
  rcases Nat.lt_or_ge c NC with q | q
  · exact q
  · unfold shp at h
    rw [List.getD_eq_getElem?_getD, List.getElem?_eq_none (show shl.length ≤ c from q)] at h
    simp at h
    omega
theorem e_iald {c n b : Nat} {i : Int} (hd : decode M.2.1 pc = .ok (.iaload, 1)) (hs : shp c = .inr (0, n, b)) (hi : 0 ≤ i ∧ i < n) (kk : Ev G M Q (pc + 1) lo ((0, mem c i.toNat) :: st) mem) : Ev G M Q pc lo ((0, i) :: (2, (c : Int)) :: st) mem := by
  intro p e s m args below meth c' H locs ls C hW hS hT hL hst
  have hc := shp_ltA hs (by omega)
  have hg := ws_get (ad := G.ad) (cA := G.cA) (mem := mem) hc
  rw [ceE_arr hs] at hg
  have ho := okv0' (st1 hst).1
  refine va_iald C.1 C.2.1 hW.2.1 hW.1 c 0 hg tys0 (i32_in ho hi.1 hi.2) hd ?_
  rw [i32_clamp ho hi.1]
  exact kk p e s m args below meth c' H locs ls C hW hS hT hL (stp (okv0 (okm_arr hW.2.2.2 hs (by decide))) (st2 hst).2.2)
theorem e_zald {c n b : Nat} {i : Int} (hd : decode M.2.1 pc = .ok (.baload, 1)) (hs : shp c = .inr (1, n, b)) (hi : 0 ≤ i ∧ i < n) (kk : Ev G M Q (pc + 1) lo ((0, mem c i.toNat) :: st) mem) : Ev G M Q pc lo ((0, i) :: (2, (c : Int)) :: st) mem := by
  intro p e s m args below meth c' H locs ls C hW hS hT hL hst
  have hc := shp_ltA hs (by omega)
  have hg := ws_get (ad := G.ad) (cA := G.cA) (mem := mem) hc
  rw [ceE_arr hs] at hg
  have ho := okv0' (st1 hst).1
  refine va_zald C.1 C.2.1 hW.2.1 hW.1 c 1 hg tys1 (i32_in ho hi.1 hi.2) hd ?_
  rw [i32_clamp ho hi.1]
  exact kk p e s m args below meth c' H locs ls C hW hS hT hL (stp (okv0 (okm_arr hW.2.2.2 hs (by decide))) (st2 hst).2.2)
theorem e_lald {c n b : Nat} {i : Int} (hd : decode M.2.1 pc = .ok (.laload, 1)) (hs : shp c = .inr (2, n, b)) (hi : 0 ≤ i ∧ i < n) (kk : Ev G M Q (pc + 1) lo ((1, mem c i.toNat) :: st) mem) : Ev G M Q pc lo ((0, i) :: (2, (c : Int)) :: st) mem := by
  intro p e s m args below meth c' H locs ls C hW hS hT hL hst
  have hc := shp_ltA hs (by omega)
  have hg := ws_get (ad := G.ad) (cA := G.cA) (mem := mem) hc
  rw [ceE_arr hs] at hg
  have ho := okv0' (st1 hst).1
  refine va_lald C.1 C.2.1 hW.2.1 hW.1 c 2 hg tys2 (i32_in ho hi.1 hi.2) hd ?_
  rw [i32_clamp ho hi.1]
  exact kk p e s m args below meth c' H locs ls C hW hS hT hL (stp (okv1 (okm_arrL hW.2.2.2 hs)) (st2 hst).2.2)
/-- a row of an array of rows -/
theorem e_aald {c n b : Nat} {i : Int} (hd : decode M.2.1 pc = .ok (.aaload, 1)) (hs : shp c = .inr (3, n, b)) (hi : 0 ≤ i ∧ i < n) (kk : Ev G M Q (pc + 1) lo ((2, (b : Int) + i) :: st) mem) : Ev G M Q pc lo ((0, i) :: (2, (c : Int)) :: st) mem := by
  intro p e s m args below meth c' H locs ls C hW hS hT hL hst
  have hc := shp_ltA hs (by omega)
  have hg := ws_get (ad := G.ad) (cA := G.cA) (mem := mem) hc
  rw [ceE_arr hs] at hg
  have ho := okv0' (st1 hst).1
  have hin := i32_in ho hi.1 hi.2
  have hlt : (Int32.ofInt i).toNatClampNeg < n := Nat.not_le.mp fun q => hin (Or.inr q)
  refine W.aald (v := .ref (G.ad ((b : Int) + i).toNat)) (ty := .array .int) C.1 C.2.1 (hW.1 c _ hg) ((hW.2.1.2 3 _ tys3).1 n (fun j => va_rf (if j < n then some (G.ad (b + j)) else none))) rfl (fun q => by cases q) (by show ¬ (_ ∨ (arrV _ _ _).slots.size ≤ _); rw [arrV_size]; exact hin) ?_ rfl rfl hd (kk p e s m args below meth c' H locs ls C hW hS hT hL (stp okv2 (st2 hst).2.2))
  show (arrV _ _ _).slots[_]? = _
  rw [arrV_read _ _ hlt]
  show some (va_rf (if _ < n then _ else _)) = _
  rw [if_pos hlt, i32_clamp ho hi.1, show ((b : Int) + i).toNat = b + i.toNat by omega]
  rfl
theorem e_iast {c n b : Nat} {i v : Int} (hd : decode M.2.1 pc = .ok (.iastore, 1)) (hs : shp c = .inr (0, n, b)) (hi : 0 ≤ i ∧ i < n) (kk : Ev G M Q (pc + 1) lo st (mset mem c i.toNat v)) : Ev G M Q pc lo ((0, v) :: (0, i) :: (2, (c : Int)) :: st) mem := by
  intro p e s m args below meth c' H locs ls C hW hS hT hL hst
  have hc := shp_ltA hs (by omega)
  have hg := ws_get (ad := G.ad) (cA := G.cA) (mem := mem) hc
  rw [ceE_arr hs] at hg
  have ho := okv0' (st2 hst).2.1
  refine va_iast C.1 C.2.1 hW.2.1 hW.1 hW.2.2.1 hS c 0 hg tys0 (i32_in ho hi.1 hi.2) hd (fun H1 locs1 hP1 hD1 hS1 => ?_)
  rw [i32_clamp ho hi.1, ws_set (r := uset (mem c) i.toNat v) (by
    rw [ceE_arr hs]
    show Sum.inl (_, n, Sum.inl _) = Sum.inl (_, n, Sum.inl _)
    congr 4
    funext j
    unfold uset upd
    split <;> rfl)] at hP1 hD1
  refine kk p e s m args below meth c' H1 locs1 ls C ⟨hP1, hW.2.1, hD1, okm_rset hW.2.2.2 (okr_uset (hW.2.2.2 c) ?_)⟩ hS1 hT hL (st3 hst).2.2.2
  rw [hs]; exact okv0' (st1 hst).1
theorem e_zast {c n b : Nat} {i v : Int} (hd : decode M.2.1 pc = .ok (.bastore, 1)) (hs : shp c = .inr (1, n, b)) (hi : 0 ≤ i ∧ i < n) (hv : v = 0 ∨ v = 1) (kk : Ev G M Q (pc + 1) lo st (mset mem c i.toNat v)) : Ev G M Q pc lo ((0, v) :: (0, i) :: (2, (c : Int)) :: st) mem := by
  intro p e s m args below meth c' H locs ls C hW hS hT hL hst
  have hc := shp_ltA hs (by omega)
  have hg := ws_get (ad := G.ad) (cA := G.cA) (mem := mem) hc
  rw [ceE_arr hs] at hg
  have ho := okv0' (st2 hst).2.1
  refine va_zast C.1 C.2.1 hW.2.1 hW.1 hW.2.2.1 hS c 1 hg tys1 (i32_in ho hi.1 hi.2) hd (fun H1 locs1 hP1 hD1 hS1 => ?_)
  have hnar : vp_nar .boolean (Int32.ofInt v) = Int32.ofInt v := by rcases hv with rfl | rfl <;> rfl
  rw [hnar, i32_clamp ho hi.1, ws_set (r := uset (mem c) i.toNat v) (by
    rw [ceE_arr hs]
    show Sum.inl (_, n, Sum.inl _) = Sum.inl (_, n, Sum.inl _)
    congr 4
    funext j
    unfold uset upd
    split <;> rfl)] at hP1 hD1
  refine kk p e s m args below meth c' H1 locs1 ls C ⟨hP1, hW.2.1, hD1, okm_rset hW.2.2.2 (okr_uset (hW.2.2.2 c) ?_)⟩ hS1 hT hL (st3 hst).2.2.2
  rw [hs]; exact okv0' (st1 hst).1
theorem e_last {c n b : Nat} {i v : Int} (hd : decode M.2.1 pc = .ok (.lastore, 1)) (hs : shp c = .inr (2, n, b)) (hi : 0 ≤ i ∧ i < n) (kk : Ev G M Q (pc + 1) lo st (mset mem c i.toNat v)) : Ev G M Q pc lo ((1, v) :: (0, i) :: (2, (c : Int)) :: st) mem := by
  intro p e s m args below meth c' H locs ls C hW hS hT hL hst
  have hc := shp_ltA hs (by omega)
  have hg := ws_get (ad := G.ad) (cA := G.cA) (mem := mem) hc
  rw [ceE_arr hs] at hg
  have ho := okv0' (st2 hst).2.1
  refine va_last C.1 C.2.1 hW.2.1 hW.1 hW.2.2.1 hS c 2 hg tys2 (i32_in ho hi.1 hi.2) hd (fun H1 locs1 hP1 hD1 hS1 => ?_)
  rw [i32_clamp ho hi.1, ws_set (r := uset (mem c) i.toNat v) (by
    rw [ceE_arr hs]
    show Sum.inl (_, n, Sum.inr (Sum.inl _)) = Sum.inl (_, n, Sum.inr (Sum.inl _))
    congr 5
    funext j
    unfold uset vp_updL
    split <;> rfl)] at hP1 hD1
  refine kk p e s m args below meth c' H1 locs1 ls C ⟨hP1, hW.2.1, hD1, okm_rset hW.2.2.2 (okr_uset (hW.2.2.2 c) ?_)⟩ hS1 hT hL (st3 hst).2.2.2
  rw [hs]; exact okv1' (st1 hst).1
theorem e_alen {c t n b : Nat} (hd : decode M.2.1 pc = .ok (.arraylength, 1)) (hs : shp c = .inr (t, n, b)) (ht : t < 4) (hn : 0 < n ∧ n < 2147483648) (kk : Ev G M Q (pc + 1) lo ((0, (n : Int)) :: st) mem) : Ev G M Q pc lo ((2, (c : Int)) :: st) mem := by
  intro p e s m args below meth c' H locs ls C hW hS hT hL hst
  have hc := shp_ltA hs hn.1
  have hg := ws_get (ad := G.ad) (cA := G.cA) (mem := mem) hc
  rw [ceE_arr hs] at hg
  have hk := kk p e s m args below meth c' H locs ls C hW hS hT hL (stp (okv0 (by omega)) (st1 hst).2)
  have hv : Int32.ofNat n = Int32.ofInt (n : Int) := rfl
  match t, ht with
  | 0, _ => exact va_alen C.1 C.2.1 hW.2.1 hW.1 c 0 hg tys0 hv hd hk
  | 1, _ => exact va_alen C.1 C.2.1 hW.2.1 hW.1 c 1 hg tys1 hv hd hk
  | 2, _ => exact va_alen C.1 C.2.1 hW.2.1 hW.1 c 2 hg tys2 hv hd hk
  | 3, _ => exact va_alen C.1 C.2.1 hW.2.1 hW.1 c 3 hg tys3 hv hd hk
/-- the static rows -/
theorem e_gets {ix k : Nat} (hd : decode M.2.1 pc = .ok (.getstatic ix, 3)) (hk : k < 4) (hl : Cond.fieldLink M.1.cls ix "HallMinutes" (stN k) "[I" ∈ wtb) (kk : Ev G M Q (pc + 3) lo ((2, ((NC + k : Nat) : Int)) :: st) mem) : Ev G M Q pc lo st mem := by
  intro p e s m args below meth c' H locs ls C hW hS hT hL hst
  exact va_gets C.1 C.2.1 (hT.2 k hk).1 hS C.2.2.2.2.1 (C.2.2.2.2.2.1 _ (List.mem_cons_of_mem _ hl)) (fun x h => h) hd (kk p e s m args below meth c' H locs ls C hW hS hT hL (stp okv2 hst))
theorem e_getsN (hc : M.1.cls = "HallMinutes$Evening") (hd : decode M.2.1 pc = .ok (.getstatic 9, 3)) (kk : Ev G M Q (pc + 3) lo ((2, ((NC + 3 : Nat) : Int)) :: st) mem) : Ev G M Q pc lo st mem := by
  intro p e s m args below meth c' H locs ls C hW hS hT hL hst
  exact va_getsN C.1 C.2.1 (hT.2 3 (by decide)).1 hS (by rw [← hc]; exact C.2.2.2.2.1) (va_Nw.use rfl hT.1) (fun x h => h) hd (kk p e s m args below meth c' H locs ls C hW hS hT hL (stp okv2 hst))
theorem e_siald {k : Nat} {i : Int} (hd : decode M.2.1 pc = .ok (.iaload, 1)) (hk : k < 4) (hi : 0 ≤ i ∧ i < (stV k).length) (hv : okI ((stV k).getD i.toNat 0)) (kk : Ev G M Q (pc + 1) lo ((0, (stV k).getD i.toNat 0) :: st) mem) : Ev G M Q pc lo ((0, i) :: (2, ((NC + k : Nat) : Int)) :: st) mem := by
  intro p e s m args below meth c' H locs ls C hW hS hT hL hst
  have ho := okv0' (st1 hst).1
  refine va_ti C.1 C.2.1 (hT.2 k hk).2 hS (i32_in ho hi.1 hi.2) (v := .int (Int32.ofInt ((stV k).getD i.toNat 0))) (by rw [i32_clamp ho hi.1]) hd ?_
  exact kk p e s m args below meth c' H locs ls C hW hS hT hL (stp (okv0 hv) (st2 hst).2.2)
theorem e_salen {k : Nat} (hd : decode M.2.1 pc = .ok (.arraylength, 1)) (hk : k < 4) (kk : Ev G M Q (pc + 1) lo ((0, ((stV k).length : Int)) :: st) mem) : Ev G M Q pc lo ((2, ((NC + k : Nat) : Int)) :: st) mem := by
  intro p e s m args below meth c' H locs ls C hW hS hT hL hst
  have h9 : (stV k).length < 6 := by
    match k, hk with
    | 0, _ => decide
    | 1, _ => decide
    | 2, _ => decide
    | 3, _ => decide
  exact va_tlen C.1 C.2.1 (hT.2 k hk).2 hS rfl hd (kk p e s m args below meth c' H locs ls C hW hS hT hL (stp (okv0 (by omega)) (st1 hst).2))
-- System.arraycopy between int rows
def cpy (f g : Nat → Int) (sp dp n : Nat) : Nat → Int := fun j => if dp ≤ j ∧ j < dp + n then f (sp + (j - dp)) else g j
end MHeap
