-- THE BUILDER MACHINE: the first n cells of the world lie from the address B on; a reference field is null while its place in memory is 0
abbrev BX : Type := Gm × Nat × Mt × Nat × Nat × Nat × (Mem → Prop)
abbrev BX.G (Y : BX) : Gm := Y.1
abbrev BX.B (Y : BX) : Nat := Y.2.1
abbrev BX.M (Y : BX) : Mt := Y.2.2.1
abbrev BX.N (Y : BX) : Nat := Y.2.2.2.1
abbrev BX.mc (Y : BX) : Nat := Y.2.2.2.2.1
abbrev BX.ms (Y : BX) : Nat := Y.2.2.2.2.2.1
abbrev BX.Q (Y : BX) : Mem → Prop := Y.2.2.2.2.2.2
abbrev nw2 : Cond := .fieldLinkNest "HallMinutes$Company" 18 "HallMinutes" "COST_AT_FIRST" "[I" "HallMinutes"
abbrev nw3 : Cond := .methodLinkNest "HallMinutes" 18 yX4_init "HallMinutes"
def StB (G : Gm) (U : State) (H : Heap) : Prop := Sta G U H ∧ va_Nw nw2 U ∧ va_Nw nw3 U ∧ (Cond.arrayOver (.array .int)).before #[] U = true
theorem StB.moved {G : Gm} {U V : State} {H : Heap} (h : StB G U H) (hW : U.WarmedH V.vm) : StB G V H := ⟨h.1.moved hW, va_Nw.warmF hW h.2.1, va_Nw.warmM hW h.2.2.1, over_moved hW.alike h.2.2.2⟩
theorem StB.same {G : Gm} {U V : State} {H : Heap} (h : StB G U H) (hW : U.vm = V.vm) : StB G V H := ⟨h.1.same hW, va_tabs rfl hW h.2.1, va_tabs rfl hW h.2.2.1, over_moved (by rw [hW]; exact Vm.Alike.refl _) h.2.2.2⟩
theorem StB.kept {G : Gm} {U : State} {H H1 : Heap} (h : StB G U H) (hq : ∀ a : Nat, a < H.size → ¬ AA G a → H1[a]? = H[a]?) : StB G U H1 := ⟨h.1.kept hq, h.2⟩
def fvB (ad : Nat → Nat) (r : Nat → Int) (j : Nat) (k : Int) : Value := if k < 0 then .int (Int32.ofInt (r j)) else if r j = 1 then .ref (ad k.toNat) else .null
def ceB (ad : Nat → Nat) (cA : Nat → ClassId) (c : Nat) (r : Nat → Int) : va_E := match shp c with
  | .inl (ci, ks) => .inr (ci, ks.zipIdx.map (fun q => fvB ad r q.2 q.1))
  | .inr (t, n, b) => .inl (cA t, n, arE ad t n b r)
def wsB (ad : Nat → Nat) (cA : Nat → ClassId) (n : Nat) (mem : Mem) : va_W := (List.range n).map (fun c => (ad c, ceB ad cA c (mem c)))
theorem wsB_get {ad : Nat → Nat} {cA : Nat → ClassId} {n : Nat} {mem : Mem} {c : Nat} (h : c < n) : (wsB ad cA n mem)[c]? = some (ad c, ceB ad cA c (mem c)) := by
  unfold wsB
  rw [List.getElem?_map, List.getElem?_range h]; rfl
theorem wsB_inv {ad : Nat → Nat} {cA : Nat → ClassId} {n : Nat} {mem : Mem} {c : Nat} {q : Nat × va_E} (h : (wsB ad cA n mem)[c]? = some q) : c < n ∧ q = (ad c, ceB ad cA c (mem c)) := by
  have hl : c < (wsB ad cA n mem).length := (List.getElem?_eq_some_iff.mp h).1
  have hc : c < n := by unfold wsB at hl; rw [List.length_map, List.length_range] at hl; exact hl
  rw [wsB_get hc] at h
  exact ⟨hc, (Option.some.inj h).symm⟩
theorem wsB_set {ad : Nat → Nat} {cA : Nat → ClassId} {n : Nat} {mem : Mem} {c : Nat} {r : Nat → Int} {E : va_E} (hE : ceB ad cA c r = E) : (wsB ad cA n mem).set c (ad c, E) = wsB ad cA n (rset mem c r) := by
  apply List.ext_getElem?
  intro i
  unfold wsB
  rw [List.getElem?_set]
  by_cases hi : c = i
  · subst hi
    rw [if_pos rfl, List.length_map, List.length_range]
    by_cases hc : c < n
    · rw [if_pos hc, List.getElem?_map, List.getElem?_range hc]
      simp [rset_eq, hE]
    · rw [if_neg hc, List.getElem?_map, List.getElem?_eq_none (by simpa using hc)]; rfl
  · rw [if_neg hi, List.getElem?_map, List.getElem?_map]
    by_cases hc : i < n
    · rw [List.getElem?_range hc]
      simp [rset_ne mem c r (Ne.symm hi)]
    · rw [List.getElem?_eq_none (by simpa using hc)]; rfl
theorem ceB_obj {ad : Nat → Nat} {cA : Nat → ClassId} {c ci : Nat} {ks : List Int} {r : Nat → Int} (hs : shp c = .inl (ci, ks)) : ceB ad cA c r = .inr (ci, ks.zipIdx.map (fun q => fvB ad r q.2 q.1)) := by
  unfold ceB; rw [hs]
theorem ceB_arr {ad : Nat → Nat} {cA : Nat → ClassId} {c t n b : Nat} {r : Nat → Int} (hs : shp c = .inr (t, n, b)) : ceB ad cA c r = .inl (cA t, n, arE ad t n b r) := by
  unfold ceB; rw [hs]
theorem fvB_at {ad : Nat → Nat} {ks : List Int} {r : Nat → Int} {j : Nat} {k : Int} (hk : ks[j]? = some k) : (ks.zipIdx.map (fun q => fvB ad r q.2 q.1))[j]? = some (fvB ad r j k) := by
  rw [List.getElem?_map, List.getElem?_zipIdx, hk]; simp
theorem fvB_set {ad : Nat → Nat} {ks : List Int} {r : Nat → Int} {j : Nat} {k : Int} (hk : ks[j]? = some k) (hn : ¬ k < 0) : (ks.zipIdx.map (fun q => fvB ad r q.2 q.1)).set j (.ref (ad k.toNat)) = ks.zipIdx.map (fun q => fvB ad (uset r j 1) q.2 q.1) := by
  apply List.ext_getElem?
  intro i
  rw [List.getElem?_set]
  by_cases hi : j = i
  · subst hi
    have hl : j < ks.length := (List.getElem?_eq_some_iff.mp hk).1
    rw [if_pos rfl, fvB_at hk]
    simp [hl, fvB, hn, uset]
  · rw [if_neg hi, List.getElem?_map, List.getElem?_map, List.getElem?_zipIdx]
    cases h : ks[i]? with
    | none => rfl
    | some x => simp [fvB, uset, Ne.symm hi]
def Wb (G : Gm) (B n : Nat) (mem : Mem) (U : State) (H : Heap) : Prop := va_P G.2.1 classes (wsB G.ad G.cA n mem) H ∧ va_K G.2.1 classes (tysG G) U ∧ okm mem ∧ (∀ k, k < NC → G.ad k = B + k) ∧ n ≤ NC ∧ (∀ c, n ≤ c → mem c = fun _ => 0)
theorem Wb.moved {G : Gm} {B n : Nat} {mem : Mem} {U V : State} {H : Heap} (h : Wb G B n mem U H) (hvm : U.vm.Alike V.vm) : Wb G B n mem V H := ⟨h.1, va_K.moved hvm h.2.1, h.2.2⟩
theorem Wb.D {G : Gm} {B n : Nat} {mem : Mem} {U : State} {H : Heap} (h : Wb G B n mem U H) : va_D (AA G) (wsB G.ad G.cA n mem) := by
  obtain ⟨-, -, -, ha, hn, -⟩ := h
  refine ⟨fun i j p q hi hj hpq => ?_, fun k q hk => ?_⟩
  · obtain ⟨h1, zp⟩ := wsB_inv hi
    obtain ⟨h2, zq⟩ := wsB_inv hj
    rw [zp, zq] at hpq
    have h3 : G.ad i = G.ad j := hpq
    rw [ha i (by omega), ha j (by omega)] at h3
    omega
  · obtain ⟨h1, zq⟩ := wsB_inv hk
    rw [zq]
    exact ⟨k, by omega, rfl⟩
theorem Wb.low {G : Gm} {B n : Nat} {mem : Mem} {U : State} {H : Heap} (h : Wb G B n mem U H) (h1 : 1 ≤ n) : B + n ≤ H.size := by
  have h2 := (h.1 (n - 1) _ (wsB_get (by omega))).lt
  have h3 : G.ad (n - 1) < H.size := h2
  rw [h.2.2.2.1 (n - 1) (by have := h.2.2.2.2.1; omega)] at h3
  omega
def QcB (Y : BX) : Array Value → State → Outcome → State → Prop := fun _ st oc t => (∃ mem' : Mem, oc = .returned none ∧ Y.Q mem' ∧ Wb Y.G Y.B Y.N mem' t t.heap) ∧ va_F (AA Y.G) st t
def rmB (Y : BX) : Room := { frames := Y.M.2.2.2.2.1, cells := Y.mc, slots := Y.ms, locals := Y.M.2.2.2.2.2 }
def ConB (Y : BX) (as : List AV) (n : Nat) (mem : Mem) : Prop :=
  (∀ v ∈ as, okv v) → Met Y.G.1 Y.M.1 (wds Y.M) (rmB Y) (va_Pc (as.map (cv Y.G.ad)) (fun U => (Wb Y.G Y.B n mem U U.heap ∧ U.heap.size = Y.B + n) ∧ StB Y.G U U.heap)) (QcB Y) Y.mc Y.ms (AA Y.G)
def Bv (Y : BX) (n cs sl pc : Nat) (lo st : List AV) (mem : Mem) : Prop :=
  ∀ (p : Program) (e : Env) (s : State) (m : MethodId) (args : Array Value) (below : List Frame) (meth : Method) (c : Code) (H : Heap) (locs : List Loc) (ls : Array Slot),
    Cx Y.M p s m args meth c → (meth.name = "<init>" ∧ s.heap.size + cs = Y.B + n) → Wb Y.G Y.B n mem s H → va_S (AA Y.G) s.heap H locs → StB Y.G s s.heap → Lh Y.G Y.M.2.2.1 lo ls → (∀ v ∈ st, okv v) →
    W p Y.G.1 e (rmB Y) s m args below meth c H locs cs sl (MQ below (QcB Y) args s Y.mc Y.ms (AA Y.G)) (F0 m pc ls (st.map (cv Y.G.ad)))
section BRows
variable {Y : BX} {n cs sl pc : Nat} {lo st : List AV} {mem : Mem}
theorem b_iconst {nv : Int} (hd : decode Y.M.2.1 pc = .ok (.iconst nv, 1)) (hn : okI nv) (k : Bv Y n cs sl (pc + 1) lo ((0, nv) :: st) mem) : Bv Y n cs sl pc lo st mem := by
  intro p e s m args below meth c H locs ls C hI hW hS hT hL hst
  exact lv_iconst C.1 C.2.1 hd rfl (k p e s m args below meth c H locs ls C hI hW hS hT hL (stp (okv0 hn) hst))
theorem b_bipush {nv : Int} (hd : decode Y.M.2.1 pc = .ok (.bipush nv, 2)) (hv : (Int8.ofInt nv).toInt32 = Int32.ofInt nv) (hn : okI nv) (k : Bv Y n cs sl (pc + 2) lo ((0, nv) :: st) mem) : Bv Y n cs sl pc lo st mem := by
  intro p e s m args below meth c H locs ls C hI hW hS hT hL hst
  exact lv_bipush C.1 C.2.1 hd hv (k p e s m args below meth c H locs ls C hI hW hS hT hL (stp (okv0 hn) hst))
theorem b_sipush {nv : Int} (hd : decode Y.M.2.1 pc = .ok (.sipush nv, 3)) (hv : (Int16.ofInt nv).toInt32 = Int32.ofInt nv) (hn : okI nv) (k : Bv Y n cs sl (pc + 3) lo ((0, nv) :: st) mem) : Bv Y n cs sl pc lo st mem := by
  intro p e s m args below meth c H locs ls C hI hW hS hT hL hst
  exact lv_sipush C.1 C.2.1 hd hv (k p e s m args below meth c H locs ls C hI hW hS hT hL (stp (okv0 hn) hst))
theorem b_iloadn {kf : Fin 4} {i : Nat} {z : Int} (hd : decode Y.M.2.1 pc = .ok (.iload_n kf, 1)) (hi : (kf : Nat) = i) (hl : lo[i]? = some (0, z)) (k : Bv Y n cs sl (pc + 1) lo ((0, z) :: st) mem) : Bv Y n cs sl pc lo st mem := by
  intro p e s m args below meth c H locs ls C hI hW hS hT hL hst
  have h9 := hL.2.2.2 i _ hl (by simp)
  exact lv_iload_n C.1 C.2.1 hd hi h9.2 (k p e s m args below meth c H locs ls C hI hW hS hT hL (stp h9.1 hst))
theorem b_aloadn {kf : Fin 4} {i : Nat} {z : Int} (hd : decode Y.M.2.1 pc = .ok (.aload_n kf, 1)) (hi : (kf : Nat) = i) (hl : lo[i]? = some (2, z)) (k : Bv Y n cs sl (pc + 1) lo ((2, z) :: st) mem) : Bv Y n cs sl pc lo st mem := by
  intro p e s m args below meth c H locs ls C hI hW hS hT hL hst
  have h9 := hL.2.2.2 i _ hl (by simp)
  exact lv_aload_n C.1 C.2.1 hd hi h9.2 (k p e s m args below meth c H locs ls C hI hW hS hT hL (stp h9.1 hst))
theorem b_istoren {kf : Fin 4} {i : Nat} {z : Int} {lo' : List AV} (hd : decode Y.M.2.1 pc = .ok (.istore_n kf, 1)) (hi : (kf : Nat) = i) (hs : lo.set i (0, z) = lo') (hm : i < Y.M.2.2.1) (hn : nlb lo i = true) (k : Bv Y n cs sl (pc + 1) lo' st mem) : Bv Y n cs sl pc lo ((0, z) :: st) mem := by
  intro p e s m args below meth c H locs ls C hI hW hS hT hL hst
  obtain ⟨hv, hst⟩ := st1 hst
  subst hs
  exact lv_istore_n C.1 C.2.1 hd hi (lvOf_has hL) hm rfl (fun ls2 h2 => k p e s m args below meth c H locs ls2 C hI hW hS hT (Lh_set1 (v := (0, z)) hL hv hn h2) hst)
theorem b_iinc {i : Nat} {nv z : Int} {lo' : List AV} (hd : decode Y.M.2.1 pc = .ok (.iinc i nv, 3)) (hl : lo[i]? = some (0, z)) (ho : okI (z + nv)) (hs : lo.set i (0, z + nv) = lo') (hm : i < Y.M.2.2.1) (hn : nlb lo i = true) (k : Bv Y n cs sl (pc + 3) lo' st mem) : Bv Y n cs sl pc lo st mem := by
  intro p e s m args below meth c H locs ls C hI hW hS hT hL hst
  subst hs
  refine lv_iincA C.1 C.2.1 hd (lvOf_has hL) (lvOf_mem hl (by simp)) (v := Int32.ofInt (z + nv)) (by rw [Int32.ofInt_add]) hm (fun ls2 h2 => k p e s m args below meth c H locs ls2 C hI hW hS hT (Lh_set1 (v := (0, z + nv)) hL (okv0 ho) hn h2) hst)
theorem b_goto {off : Int} {tgt : Nat} (hd : decode Y.M.2.1 pc = .ok (.goto off, 3)) (ht : (pc : Int) + off = (tgt : Int)) (k : Bv Y n cs sl tgt lo st mem) : Bv Y n cs sl pc lo st mem := by
  intro p e s m args below meth c H locs ls C hI hW hS hT hL hst
  exact lv_goto C.1 C.2.1 hd ht (k p e s m args below meth c H locs ls C hI hW hS hT hL hst)
theorem b_icmp_ge {a b : Int} {off : Int} {tgt : Nat} (hd : decode Y.M.2.1 pc = .ok (.if_icmp .ge off, 3)) (ht : (pc : Int) + off = (tgt : Int)) (kt : b ≤ a → Bv Y n cs sl tgt lo st mem) (kf : a < b → Bv Y n cs sl (pc + 3) lo st mem) : Bv Y n cs sl pc lo ((0, b) :: (0, a) :: st) mem := by
  intro p e s m args below meth c H locs ls C hI hW hS hT hL hst
  obtain ⟨hb, ha, hst⟩ := st2 hst
  have hb := okv0' hb
  have ha := okv0' ha
  refine lv_icmp_ge C.1 C.2.1 hd ht (fun q => kt (by simp only [i32_eq ha hb, i32_lt ha hb, i32_le ha hb, i32_lt hb ha, i32_le hb ha, ne_eq, ge_iff_le, gt_iff_lt] at q; omega) p e s m args below meth c H locs ls C hI hW hS hT hL hst) (fun q => kf (by simp only [i32_eq ha hb, i32_lt ha hb, i32_le ha hb, i32_lt hb ha, i32_le hb ha, ne_eq, ge_iff_le, gt_iff_lt] at q; omega) p e s m args below meth c H locs ls C hI hW hS hT hL hst)
theorem b_dup {v : AV} (hd : decode Y.M.2.1 pc = .ok (.dup, 1)) (hv : cv_cat v = 1) (k : Bv Y n cs sl (pc + 1) lo (v :: v :: st) mem) : Bv Y n cs sl pc lo (v :: st) mem := by
  intro p e s m args below meth c H locs ls C hI hW hS hT hL hst
  exact lv_dup C.1 C.2.1 hd (by rw [cv_category]; exact hv) (k p e s m args below meth c H locs ls C hI hW hS hT hL (stp (st1 hst).1 hst))
/-- what the count of cells says of the heap's size -/
theorem W_sz {p : Program} {l : Launch} {e : Env} {R : Room} {s : State} {m : MethodId} {args : Array Value} {below : List Frame} {meth : Method} {c : Code} {H : Heap} {locs : List Loc} {cells slots : Nat} {Q : State → Prop} {g : JFrame} (k : H.size ≤ s.heap.size + cells → W p l e R s m args below meth c H locs cells slots Q g) : W p l e R s m args below meth c H locs cells slots Q g := fun T hT X => k (by rw [← hT]; exact X.heapSize) T hT X
-- static rows
theorem b_gets0 (hc : Y.M.1.cls = "HallMinutes$Company") (hd : decode Y.M.2.1 pc = .ok (.getstatic 18, 3)) (kk : Bv Y n cs sl (pc + 3) lo ((2, ((NC + 0 : Nat) : Int)) :: st) mem) : Bv Y n cs sl pc lo st mem := by
  intro p e s m args below meth c' H locs ls C hI hW hS hT hL hst
  exact va_getsN C.1 C.2.1 (hT.1.2 0 (by decide)).1 hS (by rw [← hc]; exact C.2.2.2.2.1) (va_Nw.use rfl hT.2.1) (fun x h => h) hd (kk p e s m args below meth c' H locs ls C hI hW hS hT hL (stp okv2 hst))
theorem b_gets3 (hc : Y.M.1.cls = "HallMinutes$Evening") (hd : decode Y.M.2.1 pc = .ok (.getstatic 9, 3)) (kk : Bv Y n cs sl (pc + 3) lo ((2, ((NC + 3 : Nat) : Int)) :: st) mem) : Bv Y n cs sl pc lo st mem := by
  intro p e s m args below meth c' H locs ls C hI hW hS hT hL hst
  exact va_getsN C.1 C.2.1 (hT.1.2 3 (by decide)).1 hS (by rw [← hc]; exact C.2.2.2.2.1) (va_Nw.use rfl hT.1.1) (fun x h => h) hd (kk p e s m args below meth c' H locs ls C hI hW hS hT hL (stp okv2 hst))
theorem b_siald {k : Nat} {i : Int} (hd : decode Y.M.2.1 pc = .ok (.iaload, 1)) (hk : k < 4) (hi : 0 ≤ i ∧ i < (stV k).length) (hv : okI ((stV k).getD i.toNat 0)) (kk : Bv Y n cs sl (pc + 1) lo ((0, (stV k).getD i.toNat 0) :: st) mem) : Bv Y n cs sl pc lo ((0, i) :: (2, ((NC + k : Nat) : Int)) :: st) mem := by
  intro p e s m args below meth c' H locs ls C hI hW hS hT hL hst
  have ho := okv0' (st1 hst).1
  refine va_ti C.1 C.2.1 (hT.1.2 k hk).2 hS (i32_in ho hi.1 hi.2) (v := .int (Int32.ofInt ((stV k).getD i.toNat 0))) (by rw [i32_clamp ho hi.1]) hd ?_
  exact kk p e s m args below meth c' H locs ls C hI hW hS hT hL (stp (okv0 hv) (st2 hst).2.2)
theorem b_salen {k : Nat} (hd : decode Y.M.2.1 pc = .ok (.arraylength, 1)) (hk : k < 4) (kk : Bv Y n cs sl (pc + 1) lo ((0, ((stV k).length : Int)) :: st) mem) : Bv Y n cs sl pc lo ((2, ((NC + k : Nat) : Int)) :: st) mem := by
  intro p e s m args below meth c' H locs ls C hI hW hS hT hL hst
  have h9 : (stV k).length < 6 := by
    match k, hk with
    | 0, _ => decide
    | 1, _ => decide
    | 2, _ => decide
    | 3, _ => decide
  exact va_tlen C.1 C.2.1 (hT.1.2 k hk).2 hS rfl hd (kk p e s m args below meth c' H locs ls C hI hW hS hT hL (stp (okv0 (by omega)) (st1 hst).2))
-- fields and rows of the cells that lie there
theorem b_getr {ix c ci j : Nat} {ks : List Int} {k : Int} (hd : decode Y.M.2.1 pc = .ok (.getfield ix, 3)) (hf : FL Y.M.1.cls ix ci j) (hs : shp c = .inl (ci, ks)) (hk : ks[j]? = some k) (hn : ¬ k < 0) (hc : c < n) (hv : mem c j = 1) (kk : Bv Y n cs sl (pc + 3) lo ((2, k) :: st) mem) : Bv Y n cs sl pc lo ((2, (c : Int)) :: st) mem := by
  intro p e s m args below meth c' H locs ls C hI hW hS hT hL hst
  obtain ⟨q, hq, hj, hl, ho⟩ := hf
  have hg := wsB_get (ad := Y.G.ad) (cA := Y.G.cA) (mem := mem) hc
  rw [ceB_obj hs] at hg
  refine va_get (v := .ref (Y.G.ad k.toNat)) (own := Y.M.1.cls) C.1 C.2.1 (Ts := wds Y.M) C.2.2.2.2.2.1 (fun w h => List.mem_cons_of_mem _ ((cls_in ci q hq).1 w h)) C.2.2.2.2.1 hW.2.1 hW.1 c hg hq j hj (C.2.2.2.2.2.1 _ (List.mem_cons_of_mem _ hl)) (fun x hx => by rw [ho] at hx; exact hx) ?_ hd ?_
  · rw [fvB_at hk]; simp [fvB, hn, hv]
  · exact kk p e s m args below meth c' H locs ls C hI hW hS hT hL (stp okv2 (st1 hst).2)
/-- by the link own/ix a final reference field j of the own class ci is meant -/
def FLF (own : String) (ix ci j : Nat) : Prop := ∃ q : vw_C, classes[ci]? = some q ∧ j < q.2.2 ∧ Cond.fieldLink own ix q.1 (q.2.1 j).2.1 (q.2.1 j).2.2.1 ∈ wtb ∧ (q.2.1 j).1 = q.1 ∧ q.1 = own ∧ (q.2.1 j).2.2.2 = true ∧ ∀ a : Nat, narrow (tyOf ci j) (.ref a) = .ref a ∧ fits (tyOf ci j) (.ref a) = true
theorem okm_flag {c j ci : Nat} {ks : List Int} (h : okm mem) (hs : shp c = .inl (ci, ks)) : okm (mset mem c j 1) := okm_rset h (okr_uset (h c) (by rw [hs]; show okI 1; decide))
theorem b_putr {ix c ci j : Nat} {ks : List Int} {k : Int} (hd : decode Y.M.2.1 pc = .ok (.putfield ix, 3)) (hf : FLF Y.M.1.cls ix ci j) (hs : shp c = .inl (ci, ks)) (hk : ks[j]? = some k) (hn : ¬ k < 0) (hc : c < n) (kk : Bv Y n cs sl (pc + 3) lo st (mset mem c j 1)) : Bv Y n cs sl pc lo ((2, k) :: (2, (c : Int)) :: st) mem := by
  intro p e s m args below meth c' H locs ls C hI hW hS hT hL hst
  obtain ⟨q, hq, hj, hl, ho, hown, hfin, hnr⟩ := hf
  have hg := wsB_get (ad := Y.G.ad) (cA := Y.G.cA) (mem := mem) hc
  rw [ceB_obj hs] at hg
  have hD := hW.D
  refine va_putF (v := .ref (Y.G.ad k.toNat)) (own := Y.M.1.cls) (ty := tyOf ci j) C.1 C.2.1 (Ts := wds Y.M) C.2.2.2.2.2.1 (fun w h => List.mem_cons_of_mem _ ((cls_in ci q hq).1 w h)) (tyOf ci) (cls_in ci q hq).2.1 (cls_in ci q hq).2.2 C.2.2.2.2.1 hW.2.1 hW.1 hD hS c hg hq j hj (C.2.2.2.2.2.1 _ (List.mem_cons_of_mem _ hl)) (fun x hx => by rw [ho] at hx; exact hx) hfin hI.1 (ho.trans hown) ((cls_in ci q hq).2.1 j hj) (hnr _).1 (hnr _).2 ?_ hd (fun H1 locs1 hP1 hD1 hS1 => ?_)
  · rw [List.length_map, List.length_zipIdx]; exact (List.getElem?_eq_some_iff.mp hk).1
  · rw [fvB_set hk hn, wsB_set (r := uset (mem c) j 1) (ceB_obj hs)] at hP1
    refine kk p e s m args below meth c' H1 locs1 ls C hI ⟨hP1, hW.2.1, okm_flag hW.2.2.1 hs, hW.2.2.2.1, hW.2.2.2.2.1, fun c2 h2 => ?_⟩ hS1 hT hL (st2 hst).2.2
    rw [mset_nc _ _ _ _ (by omega)]
    exact hW.2.2.2.2.2 c2 h2
theorem b_iast {c L b : Nat} {i v : Int} (hd : decode Y.M.2.1 pc = .ok (.iastore, 1)) (hs : shp c = .inr (0, L, b)) (hi : 0 ≤ i ∧ i < L) (hc : c < n) (kk : Bv Y n cs sl (pc + 1) lo st (mset mem c i.toNat v)) : Bv Y n cs sl pc lo ((0, v) :: (0, i) :: (2, (c : Int)) :: st) mem := by
  intro p e s m args below meth c' H locs ls C hI hW hS hT hL hst
  have hg := wsB_get (ad := Y.G.ad) (cA := Y.G.cA) (mem := mem) hc
  rw [ceB_arr hs] at hg
  have hD := hW.D
  have ho := okv0' (st2 hst).2.1
  refine va_iast C.1 C.2.1 hW.2.1 hW.1 hD hS c 0 hg tys0 (i32_in ho hi.1 hi.2) hd (fun H1 locs1 hP1 hD1 hS1 => ?_)
  rw [i32_clamp ho hi.1, wsB_set (r := uset (mem c) i.toNat v) (by
    rw [ceB_arr hs]
    show Sum.inl (_, L, Sum.inl _) = Sum.inl (_, L, Sum.inl _)
    congr 4
    funext j
    unfold uset upd
    split <;> rfl)] at hP1
  refine kk p e s m args below meth c' H1 locs1 ls C hI ⟨hP1, hW.2.1, okm_rset hW.2.2.1 (okr_uset (hW.2.2.1 c) ?_), hW.2.2.2.1, hW.2.2.2.2.1, fun c2 h2 => ?_⟩ hS1 hT hL (st3 hst).2.2.2
  · rw [hs]; exact okv0' (st1 hst).1
  · rw [mset_nc _ _ _ _ (by omega)]
    exact hW.2.2.2.2.2 c2 h2
theorem b_aald {c L b : Nat} {i : Int} (hd : decode Y.M.2.1 pc = .ok (.aaload, 1)) (hs : shp c = .inr (3, L, b)) (hi : 0 ≤ i ∧ i < L) (hc : c < n) (kk : Bv Y n cs sl (pc + 1) lo ((2, (b : Int) + i) :: st) mem) : Bv Y n cs sl pc lo ((0, i) :: (2, (c : Int)) :: st) mem := by
  intro p e s m args below meth c' H locs ls C hI hW hS hT hL hst
  have hg := wsB_get (ad := Y.G.ad) (cA := Y.G.cA) (mem := mem) hc
  rw [ceB_arr hs] at hg
  have ho := okv0' (st1 hst).1
  have hin := i32_in ho hi.1 hi.2
  have hlt : (Int32.ofInt i).toNatClampNeg < L := Nat.not_le.mp fun q => hin (Or.inr q)
  refine W.aald (v := .ref (Y.G.ad ((b : Int) + i).toNat)) (ty := .array .int) C.1 C.2.1 (hW.1 c _ hg) ((hW.2.1.2 3 _ tys3).1 L (fun j => va_rf (if j < L then some (Y.G.ad (b + j)) else none))) rfl (fun q => by cases q) (by show ¬ (_ ∨ (arrV _ _ _).slots.size ≤ _); rw [arrV_size]; exact hin) ?_ rfl rfl hd (kk p e s m args below meth c' H locs ls C hI hW hS hT hL (stp okv2 (st2 hst).2.2))
  show (arrV _ _ _).slots[_]? = _
  rw [arrV_read _ _ hlt]
  show some (va_rf (if _ < L then _ else _)) = _
  rw [if_pos hlt, i32_clamp ho hi.1, show ((b : Int) + i).toNat = b + i.toNat by omega]
  rfl
end BRows
