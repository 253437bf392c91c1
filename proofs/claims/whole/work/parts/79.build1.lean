section BAlloc
variable {Y : BX} {n cs sl pc : Nat} {lo st : List AV} {mem : Mem}
theorem Wb.grow {G : Gm} {B n n2 : Nat} {mem : Mem} {U : State} {H H1 : Heap} (h : Wb G B n mem U H) (hn : n2 ≤ NC) (hc : ∀ k, n ≤ k → k < n2 → va_at G.2.1 classes (G.ad k, ceB G.ad G.cA k (fun _ => 0)) H1) (hk : ∀ q : Nat, q < B + n → H1[q]? = H[q]?) (hle : n ≤ n2) : Wb G B n2 mem U H1 := by
  obtain ⟨h1, h2, h3, h4, h5, h6⟩ := h
  refine ⟨fun k q hq => ?_, h2, h3, h4, hn, fun c hc2 => h6 c (by omega)⟩
  obtain ⟨hk2, zq⟩ := wsB_inv hq
  rw [zq]
  by_cases hkn : k < n
  · refine (h1 k _ (wsB_get hkn)).kept ?_
    show H1[G.ad k]? = H[G.ad k]?
    rw [h4 k (by omega)]
    exact hk _ (by omega)
  · rw [h6 k (by omega)]
    exact hc k (by omega) hk2
theorem va_S.grew {A : Nat → Prop} {H0 H H1 : Heap} {locs : List Loc} (h : va_S A H0 H locs) (hz : H.size ≤ H1.size) (hk : ∀ q : Nat, q < H.size → H1[q]? = H[q]?) : va_S A H0 H1 locs := ⟨Nat.le_trans h.1 hz, fun q h1 h2 => (hk q (Nat.lt_of_lt_of_le h1 h.1)).trans (h.2.1 q h1 h2), h.2.2⟩
theorem b_newa {aty : ArrayType} {t L b : Nat} (hd : decode Y.M.2.1 pc = .ok (.newarray aty, 2)) (hs : shp n = .inr (t, L, b)) (h0 : 0 < L ∧ L < 100000) (ht : (tysG Y.G)[t]? = some (Y.G.cA t, newarray.typeOf aty)) (hw : Cond.arrayClass (newarray.typeOf aty) ∈ wtb)
    (hcell : ∀ cA : ClassId, vp_cell cA (L, arE Y.G.ad t L b (fun _ => 0)) = arrV cA L (fun _ => defaultValue (newarray.typeOf aty))) (hra : ∀ (U : State) (cA : ClassId), va_RA U cA (newarray.typeOf aty) → U.vm.findClass ("[" ++ (newarray.typeOf aty).toString) = some cA) (hby : L * componentBytes (newarray.typeOf aty) ≤ 536870912)
    (h1 : 1 ≤ n) (hc : cs + 1 ≤ Y.mc) (hsl : sl + L ≤ Y.ms) (kk : Bv Y (n + 1) (cs + 1) (sl + L) (pc + 2) lo ((2, (n : Int)) :: st) mem) : Bv Y n cs sl pc lo ((0, (L : Int)) :: st) mem := by
  intro p e s m args below meth c' H locs ls C hI hW hS hT hL hst
  refine W_sz (fun hz => ?_)
  have hlow := hW.low h1
  have hI2 := hI.2
  have hH : H.size = Y.B + n := by omega
  have hn : n < NC := shp_ltA hs h0.1
  have hok : okI (L : Int) := by constructor <;> omega
  refine va_newaK C.1 C.2.1 (C.2.2.2.2.2.1 _ (List.mem_cons_of_mem _ hw)) (g := F0 m pc ls (((0, (L : Int)) :: st).map (cv Y.G.ad))) rfl hd (n := Int32.ofInt (L : Int)) (N := L) (rest := st.map (cv Y.G.ad)) rfl ?_ ?_ hby hc hsl hH (fun H' cA e1 z1 o1 hAr hNm => ?_)
  · intro h9
    have := (i32_lt (b := 0) hok (by constructor <;> omega)).mp h9
    omega
  · rw [i32_clamp hok (by omega)]; rfl
  · have hcA : Y.G.cA t = cA := Option.some.inj ((hra s _ (hW.2.1.2 t _ ht).2).symm.trans hNm)
    have ha := hW.2.2.2.1 n hn
    have hk := kk p e s m args below meth c' H' locs ls C ⟨hI.1, by omega⟩ (hW.grow (by omega) (fun k q1 q2 => by
      have zk : k = n := by omega
      rw [zk, ceB_arr hs]
      show H'[Y.G.ad n]? = some (vp_cell (Y.G.cA t) _)
      rw [hcell, ha, hcA]; exact e1) (fun q hq => o1 q hq) (by omega)) (hS.grew (by omega) (fun q hq => o1 q (by omega))) hT hL (stp okv2 (st1 hst).2)
    have e9 : cv Y.G.ad (2, (n : Int)) = .ref (Y.B + n) := by
      show Value.ref (Y.G.ad n) = _
      rw [ha]
    rw [List.map_cons, e9] at hk
    exact hk
theorem b_new {ix ci N : Nat} {ks : List Int} {zC : String} {zT : u_T} (hd : decode Y.M.2.1 pc = .ok (.new ix, 3)) (hs : shp n = .inl (ci, ks)) (hq : classes[ci]? = some (zC, zT, N)) (hcl : Cond.classLink Y.M.1.cls ix zC ∈ wtb) (hin : Cond.instantiable zC N ∈ wtb) (hini : Cond.initialized zC ∈ wtb) (hfs : ∀ j, j < N → defaultValue (tyOf ci j) = vp_V (ks.zipIdx.map (fun q => fvB Y.G.ad (fun _ => 0) q.2 q.1)) j)
    (h1 : 1 ≤ n) (hc : cs + 1 ≤ Y.mc) (hsl : sl + N ≤ Y.ms) (kk : Bv Y (n + 1) (cs + 1) (sl + N) (pc + 3) lo ((2, (n : Int)) :: st) mem) : Bv Y n cs sl pc lo st mem := by
  intro p e s m args below meth c' H locs ls C hI hW hS hT hL hst
  refine W_sz (fun hz => ?_)
  have hlow := hW.low h1
  have hI2 := hI.2
  have hH : H.size = Y.B + n := by omega
  have hn : n < NC := shp_lt hs
  have hts := C.2.2.2.2.2.1
  have hKn := hW.2.1.1 ci _ hq
  refine W.newcK C.1 C.2.1 C.2.2.2.2.1 (hts _ (List.mem_cons_of_mem _ hcl)) (hts _ (List.mem_cons_of_mem _ hin)) (hts _ (List.mem_cons_of_mem _ hini)) (g := F0 m pc ls (st.map (cv Y.G.ad))) rfl hd hc hsl hKn.2.1 hH (fun H1 kC hkC e1 z1 o1 => ?_)
  have ha := hW.2.2.2.1 n hn
  have hk := kk p e s m args below meth c' H1 locs ls C ⟨hI.1, by omega⟩ (hW.grow (by omega) (fun k q1 q2 => by
    have zk : k = n := by omega
    rw [zk, ceB_obj hs, ha]
    exact ⟨_, hq, (u_born (tyOf ci) hts (fun w h => List.mem_cons_of_mem _ ((cls_in ci _ hq).1 w h)) hKn hkC e1 (cls_in ci _ hq).2.1).to hfs⟩) (fun q hq => o1 q hq) (by omega)) (hS.grew (by omega) (fun q hq => o1 q (by omega))) hT hL (stp okv2 hst)
  have e9 : cv Y.G.ad (2, (n : Int)) = .ref (Y.B + n) := by
    show Value.ref (Y.G.ad n) = _
    rw [ha]
  rw [List.map_cons, e9] at hk
  exact hk
theorem b_obj {ix c : Nat} (hd : decode Y.M.2.1 pc = .ok (.invokespecial ix, 3)) (hl : Cond.methodLink Y.M.1.cls ix Lib.objectInit ∈ wtb) (hi : Cond.instanceMethod Lib.objectInit ∈ wtb) (hcode : Cond.code Lib.objectInit ⟨#[0xb1]⟩ 1 none ∈ wtb) (h1 : 1 ≤ Y.M.2.2.2.2.1) (h2 : 12 ≤ Y.M.2.2.2.2.2) (kk : Bv Y n cs sl (pc + 3) lo [] mem) : Bv Y n cs sl pc lo [(2, (c : Int))] mem := by
  intro p e s m args below meth c' H locs ls C hI hW hS hT hL hst
  have hts := C.2.2.2.2.2.1
  have hk := kk p e s m args below meth c' H locs ls C hI hW hS hT hL (fun v hv => by cases hv)
  exact W.objInit (rest := []) C.1 C.2.1 C.2.2.2.2.1 (hts _ (List.mem_cons_of_mem _ hl)) (hts _ (List.mem_cons_of_mem _ hi)) (hts _ (List.mem_cons_of_mem _ hcode)) (g := F0 m pc ls [cv Y.G.ad (2, (c : Int))]) rfl (by rw [C.2.2.2.1]; exact hL.1) rfl hd h1 (by show 0 + 12 ≤ _; exact h2) hk
theorem b_ret (hd : decode Y.M.2.1 pc = .ok (.return_, 1)) (hr : Y.M.2.2.2.1 = none) (hn : n = Y.N) (h1 : cs = Y.mc) (h2 : sl = Y.ms) (hq : Y.Q mem) : Bv Y n cs sl pc lo [] mem := by
  intro p e s m args below meth c' H locs ls C hI hW hS hT hL hst
  have hlocks := C.2.2.2.2.2.2
  rw [h1, h2]
  exact W.vret C.1 C.2.1 (C.2.2.1.trans hr) (fun t ht hWm => ⟨⟨mem, rfl, hq, by rw [ht, ← hn]; exact hW.moved hWm.alike⟩, hS.F ht⟩) hS.2.2 hd
theorem ConB.of {as lo : List AV} (hy : plainName Y.M.1.cls = true) (hnm : Y.M.1.name = "<init>") (hn : (exLo as).length ≤ Y.M.2.2.1) (hlo : entLo as Y.M.2.2.1 = lo) (k : Bv Y n 0 0 0 lo [] mem) : ConB Y as n mem := by
  intro hok
  refine Met.ofW (cc := Y.M.2.1) (maxL := Y.M.2.2.1) (ret := Y.M.2.2.2.1) hy rfl ?_
  intro p e s m args below meth c s₁ B hml hv
  obtain ⟨rfl, ⟨hW, hsz⟩, hT⟩ := hv
  have hlen := exLo_len Y.G.ad as
  have hl := lv_entry (as.map (cv Y.G.ad)) (n := Y.M.2.2.1) (by rw [hlen]; exact hn)
  have hin : meth.name = "<init>" := (name_of_methodNamed B.named B.method).1.trans hnm
  rw [lg_entry_eq]
  generalize (lg_sl (as.map (cv Y.G.ad)) ++ List.replicate (Y.M.2.2.1 - (lg_sl (as.map (cv Y.G.ad))).length) Slot.unset).toArray = ls at hl ⊢
  refine k p e s m _ below meth c s.heap [] ls ⟨B.exec, B.bytes, B.returns, hml, findClass_of_methodNamed B.named, atoms_spec (ws := wds Y.M) B.pre, B.notSynchronized⟩ ⟨hin, by omega⟩ hW va_S.rf hT ⟨hl.1, hl.2.1, ?_, ?_⟩ (fun v hv => by cases hv)
  · rw [← hlo]; unfold entLo
    rw [List.length_append, List.length_replicate]; omega
  · intro i v hi h3
    rw [← hlo] at hi
    unfold entLo at hi
    rcases Nat.lt_or_ge i (exLo as).length with q | q
    · rw [List.getElem?_append_left q] at hi
      obtain ⟨r1, r2⟩ := exLo_mem Y.G.ad as 0 i v hi h3
      have := hl.2.2 _ r2
      rw [Nat.zero_add] at this
      exact ⟨hok v r1, this⟩
    · rw [List.getElem?_append_right q] at hi
      have := List.getElem?_replicate (n := Y.M.2.2.1 - (exLo as).length) (a := ((3, 0) : AV)) (i := i - (exLo as).length)
      rw [this] at hi
      split at hi
      · cases hi; exact absurd rfl h3
      · cases hi
theorem pcB_blind {as : List AV} {G : Gm} {B : Nat} : FrameBlind (va_Pc (as.map (cv G.ad)) (fun U => (Wb G B n mem U U.heap ∧ U.heap.size = B + n) ∧ StB G U U.heap)) := by
  intro a U g mk ⟨h1, ⟨h2, h4⟩, h3⟩
  exact ⟨h1, ⟨h2.moved (V := U.calling g mk a) (Vm.Alike.refl U.vm), h4⟩, h3.same (V := U.calling g mk a) rfl⟩
/-- the words of a call of the constructor M2 -/
def MLI (own : String) (ix : Nat) (Y : BX) (M2 : Mt) (k : Nat) : Prop := Cond.methodLink own ix M2.1 ∈ wtb ∧ Cond.initialized M2.1.cls ∈ wtb ∧ Cond.code M2.1 M2.2.1 M2.2.2.1 M2.2.2.2.1 ∈ wtb ∧ (M2.1.cls ≠ "java/lang/invoke/MethodHandle" ∧ M2.1.cls ≠ "java/lang/invoke/VarHandle") ∧ M2.2.2.2.2.1 + 1 ≤ Y.M.2.2.2.2.1 ∧ 8 + (M2.2.2.1 + 11) + M2.2.2.2.2.2 ≤ Y.M.2.2.2.2.2 ∧ (parseMethodDescriptor M2.1.desc).map (fun d => d.parameters.length) = some k ∧ M2.1.name = "<init>" ∧ Cond.instanceMethod M2.1 ∈ wtb ∧ M2.2.2.2.1 = none
theorem wds_good {M M2 : Mt} (h3 : Cond.code M2.1 M2.2.1 M2.2.2.1 M2.2.2.2.1 ∈ wtb) : GoodIn (wds M) (wds M2) := by
  intro w hw
  have hw2 : w ∈ wtb := by
    rcases List.mem_cons.mp hw with rfl | q
    · exact h3
    · exact q
  exact ⟨List.mem_cons_of_mem _ hw2, good_of_word (tbl_good hw2)⟩
theorem b_after {M2 : Mt} {N2 mc2 ms2 : Nat} {Q2 : Mem → Prop} {st0 : List Value} {p : Program} {e : Env} {s : State} {m : MethodId} {args : Array Value} {below : List Frame} {meth : Method} {c : Code} {H : Heap} {locs : List Loc} {ls : Array Slot} {a : Array Value}
    (C : Cx Y.M p s m args meth c) (hI : meth.name = "<init>" ∧ s.heap.size + cs = Y.B + n) (hW : Wb Y.G Y.B n mem s H) (hS : va_S (AA Y.G) s.heap H locs) (hT : StB Y.G s s.heap) (hL : Lh Y.G Y.M.2.2.1 lo ls) (hst : ∀ v ∈ st, okv v) (hN : N2 = n + mc2)
    (hr : va_Run p Y.G.1 e (rmB Y) s m args below meth c H locs cs sl mc2 ms2 (F0 m pc ls st0) (st.map (cv Y.G.ad)) (QcB (Y.G, Y.B, M2, N2, mc2, ms2, Q2) a) (AA Y.G))
    (kk : ∀ mem' : Mem, Q2 mem' → Bv Y N2 (cs + mc2) (sl + ms2) (pc + 3) lo st mem') : W p Y.G.1 e (rmB Y) s m args below meth c H locs cs sl (MQ below (QcB Y) args s Y.mc Y.ms (AA Y.G)) (F0 m pc ls st0) := by
  intro T hTT X
  obtain ⟨v, st₀, t, T', L, h0, X', hLo, e1, e2, ⟨⟨mem', hv, hq, hWd⟩, hz, hk⟩, go⟩ := hr T hTT X
  cases hv
  rw [h0] at hz hk
  have hI2 := hI.2
  have hk2 := kk mem' hq p e s m args below meth c T'.heap (locs ++ L) ls C ⟨hI.1, by omega⟩ ⟨by rw [e1]; exact hWd.1, hW.2.1, hWd.2.2⟩
    ⟨Nat.le_trans hS.1 (by rw [e1]; exact hz), fun q h1 h2 => by rw [e1, hk q (Nat.lt_of_lt_of_le h1 hS.1) h2]; exact hS.2.1 q h1 h2, fun q hq => by
      rcases List.mem_append.mp hq with h | h
      · exact hS.2.2 q h
      · exact hLo q h⟩ hT hL hst
  obtain ⟨t2, a1, b1⟩ := hk2 T' rfl X'
  exact ⟨t2, go t2 a1, b1⟩
theorem b_call {M2 : Mt} {N2 mc2 ms2 ix c k : Nat} {Q2 : Mem → Prop} {as st0 : List AV} (hC : ConB (Y.G, Y.B, M2, N2, mc2, ms2, Q2) ((2, (c : Int)) :: as) n mem) (hd : decode Y.M.2.1 pc = .ok (.invokespecial ix, 3)) (hm : MLI Y.M.1.cls ix Y M2 k) (hn : as.length = k) (h0 : as.reverse ++ (2, (c : Int)) :: st = st0) (hc : Nat.ble (st.map cv_cat).sum 8 = true) (h1 : 1 ≤ n) (hN : N2 = n + mc2) (hcs : cs + mc2 ≤ Y.mc) (hss : sl + ms2 ≤ Y.ms)
    (kk : ∀ mem' : Mem, Q2 mem' → Bv Y N2 (cs + mc2) (sl + ms2) (pc + 3) lo st mem') : Bv Y n cs sl pc lo st0 mem := by
  subst h0
  intro p e s m args below meth c' H locs ls C hI hW hS hT hL hst
  have hst' : ∀ v ∈ st, okv v := fun v hv => hst v (List.mem_append_right _ (List.mem_cons_of_mem _ hv))
  have hokA : ∀ v ∈ (2, (c : Int)) :: as, okv v := fun v hv => by
    rcases List.mem_cons.mp hv with rfl | h
    · exact okv2
    · exact hst v (List.mem_append_left _ (List.mem_reverse.mpr h))
  refine W_sz (fun hz => ?_)
  have hlow := hW.low h1
  have hI2 := hI.2
  have hH : H.size = Y.B + n := by omega
  refine b_after (M2 := M2) (a := (Value.ref (Y.G.ad c) :: as.map (cv Y.G.ad)).toArray) C hI hW hS hT hL hst' hN ?_ kk
  obtain ⟨m1, m2, m3, m4, m5, m6, m7, m8, m9, m10⟩ := hm
  have hts := C.2.2.2.2.2.1
  refine va_runI (As := as.map (cv Y.G.ad)) (b := Y.G.ad c) (bytes := M2.2.1) (maxL := M2.2.2.1) (n := k) ⟨C.1, C.2.1, C.2.2.2.1, C.2.2.2.2.1, hts⟩ (hC hokA) ⟨callB_of (Ts := wds Y.M) k hts (wds_good m3) (by rw [← m10]; rfl) rfl rfl (hts _ (List.mem_cons_of_mem _ m2)) (hts _ (List.mem_cons_of_mem _ m1)) ⟨m4.1, m4.2, m7⟩ ⟨m5, m6⟩, m8, hts _ (List.mem_cons_of_mem _ m9)⟩ ⟨pcB_blind, ?_⟩ rfl (by rw [List.length_map]; exact hn) hL.1 ?_ (lv_room (by rw [cats]; exact Nat.le_of_ble_eq_true hc)) hd ⟨hcs, hss⟩
  · intro U hU hWm
    exact ⟨rfl, ⟨by rw [hU]; exact hW.moved hWm.alike, by rw [hU]; exact hH⟩, by rw [hU]; exact (hT.kept hS.2.1).moved hWm⟩
  · show (List.map (cv Y.G.ad) (as.reverse ++ (2, (c : Int)) :: st)) = _
    rw [List.map_append, List.map_reverse]; rfl
end BAlloc
