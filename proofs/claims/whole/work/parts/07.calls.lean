theorem tbl_good {w : Cond} (h : w ∈ wtb) : goodWord w = true := (List.mem_filter.mp h).2
section MCalls
variable {G : Gm} {M : Mt} {Q : Option AV → Mem → Prop} {pc : Nat} {lo st : List AV} {mem : Mem}
theorem Wd.moved {U V : State} {H : Heap} (h : Wd G mem U H) (hvm : U.vm.Alike V.vm) : Wd G mem V H := ⟨h.1, va_K.moved hvm h.2.1, h.2.2.1, h.2.2.2⟩
theorem Sta.moved {U V : State} {H : Heap} (h : Sta G U H) (hW : U.WarmedH V.vm) : Sta G V H := ⟨va_Nw.warmF hW h.1, fun k hk => ⟨(h.2 k hk).1.moved hW.alike, (h.2 k hk).2.moved hW.alike⟩⟩
theorem Sta.same {U V : State} {H : Heap} (h : Sta G U H) (hW : U.vm = V.vm) : Sta G V H := ⟨va_tabs rfl hW h.1, fun k hk => ⟨(h.2 k hk).1.moved (by rw [hW]; exact Vm.Alike.refl _), (h.2 k hk).2.moved (by rw [hW]; exact Vm.Alike.refl _)⟩⟩
theorem Sta.kept {U : State} {H H1 : Heap} (h : Sta G U H) (hq : ∀ a : Nat, a < H.size → ¬ AA G a → H1[a]? = H[a]?) : Sta G U H1 := ⟨h.1, fun k hk => ⟨(h.2 k hk).1.kept hq, (h.2 k hk).2.kept hq⟩⟩
-- returns
theorem e_iret {z : Int} (hd : decode M.2.1 pc = .ok (.ireturn, 1)) (hr : M.2.2.2.1 = some .int) (hq : Q (some (0, z)) mem) : Ev G M Q pc lo [(0, z)] mem := by
  intro p e s m args below meth c H locs ls C hW hS hT hL hst
  have hlocks := C.2.2.2.2.2.2
  exact W.iret (v := Int32.ofInt z) C.1 C.2.1 (C.2.2.1.trans hr) (fun t ht hWm => ⟨⟨some (0, z), mem, rfl, fun v hv => by cases hv; exact (st1 hst).1, hq, by rw [ht]; exact hW.moved hWm.alike⟩, hS.F ht⟩) hS.2.2 hd
theorem e_zret {z : Int} (hd : decode M.2.1 pc = .ok (.ireturn, 1)) (hr : M.2.2.2.1 = some .boolean) (hz : z = 0 ∨ z = 1) (hq : Q (some (0, z)) mem) : Ev G M Q pc lo [(0, z)] mem := by
  intro p e s m args below meth c H locs ls C hW hS hT hL hst
  have hlocks := C.2.2.2.2.2.2
  exact W.zret (v := Int32.ofInt z) C.1 C.2.1 (C.2.2.1.trans hr) (by rcases hz with rfl | rfl <;> rfl) (fun t ht hWm => ⟨⟨some (0, z), mem, rfl, fun v hv => by cases hv; exact (st1 hst).1, hq, by rw [ht]; exact hW.moved hWm.alike⟩, hS.F ht⟩) hS.2.2 hd
theorem e_lret {z : Int} (hd : decode M.2.1 pc = .ok (.lreturn, 1)) (hr : M.2.2.2.1 = some .long) (hq : Q (some (1, z)) mem) : Ev G M Q pc lo [(1, z)] mem := by
  intro p e s m args below meth c H locs ls C hW hS hT hL hst
  have hlocks := C.2.2.2.2.2.2
  exact W.lret (v := Int64.ofInt z) C.1 C.2.1 (C.2.2.1.trans hr) (fun t ht hWm => ⟨⟨some (1, z), mem, rfl, fun v hv => by cases hv; exact (st1 hst).1, hq, by rw [ht]; exact hW.moved hWm.alike⟩, hS.F ht⟩) hS.2.2 hd
theorem e_vret (hd : decode M.2.1 pc = .ok (.return_, 1)) (hr : M.2.2.2.1 = none) (hq : Q none mem) : Ev G M Q pc lo [] mem := by
  intro p e s m args below meth c H locs ls C hW hS hT hL hst
  have hlocks := C.2.2.2.2.2.2
  exact W.vret C.1 C.2.1 (C.2.2.1.trans hr) (fun t ht hWm => ⟨⟨none, mem, rfl, (fun v hv => by cases hv), hq, by rw [ht]; exact hW.moved hWm.alike⟩, hS.F ht⟩) hS.2.2 hd
-- a method's entry
def exLo (as : List AV) : List AV := as.flatMap (fun v => if v.1 = 1 then [v, (3, 0)] else [v])
def entLo (as : List AV) (n : Nat) : List AV := exLo as ++ List.replicate (n - (exLo as).length) (3, 0)
theorem exLo_len (ad : Nat → Nat) : ∀ as : List AV, (lg_sl (as.map (cv ad))).length = (exLo as).length
  | [] => rfl
  | v :: as => by
    have ih := exLo_len ad as
    unfold lg_sl exLo at *
    rw [List.map_cons, List.flatMap_cons, List.flatMap_cons, List.length_append, List.length_append, ih, cv_category]
    obtain ⟨t, z⟩ := v
    match t with
    | 0 => rfl
    | 1 => rfl
    | t + 2 => rfl
theorem exLo_mem (ad : Nat → Nat) : ∀ (as : List AV) (k i : Nat) (v : AV), (exLo as)[i]? = some v → v.1 ≠ 3 → v ∈ as ∧ (k + i, cv ad v) ∈ lv_args k (as.map (cv ad))
  | [], k, i, v, h, h3 => by simp [exLo] at h
  | u :: as, k, i, v, h, h3 => by
    have he : exLo (u :: as) = (if u.1 = 1 then [u, (3, 0)] else [u]) ++ exLo as := rfl
    rw [he] at h
    rw [List.map_cons]
    unfold lv_args
    rw [cv_category]
    by_cases hu : u.1 = 1
    · rw [if_pos hu] at h
      have hc : cv_cat u = 2 := by obtain ⟨t, z⟩ := u; cases hu; rfl
      rw [hc, if_pos rfl]
      match i, h with
      | 0, h => cases h; exact ⟨List.mem_cons_self, List.mem_cons_self⟩
      | 1, h => cases h; exact absurd rfl h3
      | i + 2, h =>
        have h' : (exLo as)[i]? = some v := h
        obtain ⟨r1, r2⟩ := exLo_mem ad as (k + 2) i v h' h3
        exact ⟨List.mem_cons_of_mem _ r1, List.mem_cons_of_mem _ (by rw [show k + (i + 2) = k + 2 + i by omega]; exact r2)⟩
    · rw [if_neg hu] at h
      have hc : cv_cat u = 1 := by
        unfold cv_cat
        obtain ⟨t, z⟩ := u
        match t, hu with
        | 0, _ => rfl
        | t + 2, _ => rfl
      rw [hc, if_neg (by decide)]
      match i, h with
      | 0, h => cases h; exact ⟨List.mem_cons_self, List.mem_cons_self⟩
      | i + 1, h =>
        have h' : (exLo as)[i]? = some v := h
        obtain ⟨r1, r2⟩ := exLo_mem ad as (k + 1) i v h' h3
        exact ⟨List.mem_cons_of_mem _ r1, List.mem_cons_of_mem _ (by rw [show k + (i + 1) = k + 1 + i by omega]; exact r2)⟩
theorem Con.of {as : List AV} {lo : List AV} (hy : plainName M.1.cls = true) (hn : (exLo as).length ≤ M.2.2.1) (hlo : entLo as M.2.2.1 = lo) (k : Ev G M Q 0 lo [] mem) : Con G M as mem Q := by
  intro hok
  refine Met.ofW (cc := M.2.1) (maxL := M.2.2.1) (ret := M.2.2.2.1) hy rfl ?_
  intro p e s m args below meth c s₁ B hml hv
  obtain ⟨rfl, hW, hT⟩ := hv
  have hlen := exLo_len G.ad as
  have hl := lv_entry (as.map (cv G.ad)) (n := M.2.2.1) (by rw [hlen]; exact hn)
  rw [lg_entry_eq]
  generalize (lg_sl (as.map (cv G.ad)) ++ List.replicate (M.2.2.1 - (lg_sl (as.map (cv G.ad))).length) Slot.unset).toArray = ls at hl ⊢
  refine k p e s m _ below meth c s.heap [] ls ⟨B.exec, B.bytes, B.returns, hml, findClass_of_methodNamed B.named, atoms_spec (ws := wds M) B.pre, B.notSynchronized⟩ hW va_S.rf hT ⟨hl.1, hl.2.1, ?_, ?_⟩ (fun v hv => by cases hv)
  · rw [← hlo]; unfold entLo
    rw [List.length_append, List.length_replicate]; omega
  · intro i v hi h3
    rw [← hlo] at hi
    unfold entLo at hi
    rcases Nat.lt_or_ge i (exLo as).length with q | q
    · rw [List.getElem?_append_left q] at hi
      obtain ⟨r1, r2⟩ := exLo_mem G.ad as 0 i v hi h3
      have := hl.2.2 _ r2
      rw [Nat.zero_add] at this
      exact ⟨hok v r1, this⟩
    · rw [List.getElem?_append_right q] at hi
      have := List.getElem?_replicate (n := M.2.2.1 - (exLo as).length) (a := ((3, 0) : AV)) (i := i - (exLo as).length)
      rw [this] at hi
      split at hi
      · cases hi; exact absurd rfl h3
      · cases hi
-- calls
/-- the words of a call of M2 by the link own/ix -/
def MLb (own : String) (ix : Nat) (M M2 : Mt) : Prop := Cond.methodLink own ix M2.1 ∈ wtb ∧ Cond.initialized M2.1.cls ∈ wtb ∧ Cond.code M2.1 M2.2.1 M2.2.2.1 M2.2.2.2.1 ∈ wtb ∧ (M2.1.cls ≠ "java/lang/invoke/MethodHandle" ∧ M2.1.cls ≠ "java/lang/invoke/VarHandle") ∧ M2.2.2.2.2.1 + 1 ≤ M.2.2.2.2.1 ∧ 8 + (M2.2.2.1 + 11) + M2.2.2.2.2.2 ≤ M.2.2.2.2.2
def MLV (own : String) (ix : Nat) (M M2 : Mt) (n : Nat) : Prop := MLb own ix M M2 ∧ (parseMethodDescriptor M2.1.desc).map (fun d => d.parameters.length) = some n ∧ Cond.instanceMethod M2.1 ∈ wtb ∧ Cond.selects M2.1.cls M2.1 M2.1 ∈ wtb
def MLS (own : String) (ix : Nat) (M M2 : Mt) (n : Nat) : Prop := MLb own ix M M2 ∧ (parseMethodDescriptor M2.1.desc).map (fun d => d.parameters.length) = some n ∧ Cond.static M2.1 ∈ wtb
theorem callB_ml {M2 : Mt} {ix n : Nat} {s : State} {args : Array Value} (ht : ∀ w ∈ wds M, w.before args s = true) (h : MLb M.1.cls ix M M2) (hp : (parseMethodDescriptor M2.1.desc).map (fun d => d.parameters.length) = some n) : CallB (rmM M) s args M.1.cls ix M2.1 M2.2.1 M2.2.2.1 M2.2.2.2.1 (wds M2) (rmM M2) 0 0 n := by
  obtain ⟨h1, h2, h3, h4, h5, h6⟩ := h
  refine callB_of (Ts := wds M) n ht ?_ rfl rfl rfl (ht _ (List.mem_cons_of_mem _ h2)) (ht _ (List.mem_cons_of_mem _ h1)) ⟨h4.1, h4.2, hp⟩ ⟨h5, h6⟩
  intro w hw
  have hw2 : w ∈ wtb := by
    rcases List.mem_cons.mp hw with rfl | q
    · exact h3
    · exact q
  exact ⟨List.mem_cons_of_mem _ hw2, good_of_word (tbl_good hw2)⟩
theorem pc_blind {as : List AV} : FrameBlind (va_Pc (as.map (cv G.ad)) (fun U => Wd G mem U U.heap ∧ Sta G U U.heap)) := by
  intro a U g mk ⟨h1, h2, h3⟩
  exact ⟨h1, h2.moved (V := U.calling g mk a) (Vm.Alike.refl U.vm), h3.same (V := U.calling g mk a) rfl⟩
theorem e_after {Q2 : Option AV → Mem → Prop} {st0 : List Value} {p : Program} {e : Env} {s : State} {m : MethodId} {args : Array Value} {below : List Frame} {meth : Method} {c : Code} {H : Heap} {locs : List Loc} {ls : Array Slot} {a : Array Value}
    (C : Cx M p s m args meth c) (hW : Wd G mem s H) (hS : va_S (AA G) s.heap H locs) (hT : Sta G s s.heap) (hL : Lh G M.2.2.1 lo ls) (hst : ∀ v ∈ st, okv v)
    (hr : va_Run p G.1 e (rmM M) s m args below meth c H locs 0 0 0 0 (F0 m pc ls st0) (st.map (cv G.ad)) (Qc G Q2 a) (AA G))
    (kk : ∀ (r : Option AV) (mem' : Mem), Q2 r mem' → Ev G M Q (pc + 3) lo (r.toList ++ st) mem') : W p G.1 e (rmM M) s m args below meth c H locs 0 0 (MQ below (Qc G Q) args s 0 0 (AA G)) (F0 m pc ls st0) := by
  intro T hTT X
  obtain ⟨v, st₀, t, T', L, h0, X', hLo, e1, e2, ⟨⟨r, mem', hv, hok, hq, hWd⟩, hz, hk⟩, go⟩ := hr T hTT X
  cases hv
  rw [h0] at hz hk
  have hk2 := kk r mem' hq p e s m args below meth c T'.heap (locs ++ L) ls C ⟨by rw [e1]; exact hWd.1, hW.2.1, hWd.2.2.1, hWd.2.2.2⟩
    ⟨Nat.le_trans hS.1 (by rw [e1]; exact hz), fun q h1 h2 => by rw [e1, hk q (Nat.lt_of_lt_of_le h1 hS.1) h2]; exact hS.2.1 q h1 h2, fun q hq => by
      rcases List.mem_append.mp hq with h | h
      · exact hS.2.2 q h
      · exact hLo q h⟩ hT hL (fun x hx => by
      rcases List.mem_append.mp hx with h | h
      · exact hok x (by simpa using h)
      · exact hst x h)
  obtain ⟨t2, a1, b1⟩ := hk2 T' rfl X'
  refine ⟨t2, go t2 ?_, b1⟩
  have e9 : (r.toList ++ st).map (cv G.ad) = (r.map (cv G.ad)).toList ++ st.map (cv G.ad) := by cases r <;> rfl
  rw [e9] at a1
  exact a1
theorem cats (ad : Nat → Nat) : ∀ st : List AV, ((st.map (cv ad)).map fun v => v.category).sum = (st.map cv_cat).sum
  | [] => rfl
  | v :: st => by rw [List.map_cons, List.map_cons, List.map_cons, List.sum_cons, List.sum_cons, cats ad st, cv_category]
theorem e_callV {M2 : Mt} {Q2 : Option AV → Mem → Prop} {ix c ci n : Nat} {ks : List Int} {as st0 : List AV} (hC : Con G M2 ((2, (c : Int)) :: as) mem Q2) (hd : decode M.2.1 pc = .ok (.invokevirtual ix, 3)) (hm : MLV M.1.cls ix M M2 n) (hn : as.length = n) (hs : shp c = .inl (ci, ks)) (hq : (classes[ci]?).map (fun q => q.1) = some M2.1.cls) (h0 : as.reverse ++ (2, (c : Int)) :: st = st0) (hc : Nat.ble (st.map cv_cat).sum 8 = true)
    (kk : ∀ (r : Option AV) (mem' : Mem), Q2 r mem' → Ev G M Q (pc + 3) lo (r.toList ++ st) mem') : Ev G M Q pc lo st0 mem := by
  subst h0
  intro p e s m args below meth c' H locs ls C hW hS hT hL hst
  have hst' : ∀ v ∈ st, okv v := fun v hv => hst v (List.mem_append_right _ (List.mem_cons_of_mem _ hv))
  have hokA : ∀ v ∈ (2, (c : Int)) :: as, okv v := fun v hv => by
    rcases List.mem_cons.mp hv with rfl | h
    · exact okv2
    · exact hst v (List.mem_append_left _ (List.mem_reverse.mpr h))
  refine e_after (a := (Value.ref (G.ad c) :: as.map (cv G.ad)).toArray) C hW hS hT hL hst' ?_ kk
  have hcb := shp_lt hs
  have hg := ws_get (ad := G.ad) (cA := G.cA) (mem := mem) hcb
  rw [ceE_obj hs] at hg
  obtain ⟨q, hq1, hq2⟩ : ∃ q, classes[ci]? = some q ∧ q.1 = M2.1.cls := by
    cases h9 : classes[ci]? with
    | none => rw [h9] at hq; cases hq
    | some q => rw [h9] at hq; exact ⟨q, rfl, Option.some.inj hq⟩
  obtain ⟨hm1, hm2, hm3, hm4⟩ := hm
  refine va_runV (C := M2.1.cls) (As := as.map (cv G.ad)) (b := G.ad c) ⟨C.1, C.2.1, C.2.2.2.1, C.2.2.2.2.1, C.2.2.2.2.2.1⟩ (hC hokA) ⟨callB_ml C.2.2.2.2.2.1 hm1 hm2, C.2.2.2.2.2.1 _ (List.mem_cons_of_mem _ hm3), C.2.2.2.2.2.1 _ (List.mem_cons_of_mem _ hm4)⟩ ⟨pc_blind, ?_, ?_⟩ rfl (by rw [List.length_map]; exact hn) hL.1 ?_ (lv_room (by rw [cats]; exact Nat.le_of_ble_eq_true hc)) hd ⟨Nat.le_refl _, Nat.le_refl _⟩
  · rw [← hq2]; exact va_recv hW.2.1 hW.1 hq1 hg
  · intro U hU hWm
    exact ⟨rfl, by rw [hU]; exact hW.moved hWm.alike, by rw [hU]; exact (hT.kept hS.2.1).moved hWm⟩
  · show (List.map (cv G.ad) (as.reverse ++ (2, (c : Int)) :: st)) = _
    rw [List.map_append, List.map_reverse]; rfl
theorem e_callS {M2 : Mt} {Q2 : Option AV → Mem → Prop} {ix n : Nat} {as st0 : List AV} (hC : Con G M2 as mem Q2) (hd : decode M.2.1 pc = .ok (.invokestatic ix, 3)) (hm : MLS M.1.cls ix M M2 n) (hn : as.length = n) (h0 : as.reverse ++ st = st0) (hc : Nat.ble (st.map cv_cat).sum 8 = true)
    (kk : ∀ (r : Option AV) (mem' : Mem), Q2 r mem' → Ev G M Q (pc + 3) lo (r.toList ++ st) mem') : Ev G M Q pc lo st0 mem := by
  subst h0
  intro p e s m args below meth c' H locs ls C hW hS hT hL hst
  have hst' : ∀ v ∈ st, okv v := fun v hv => hst v (List.mem_append_right _ hv)
  have hokA : ∀ v ∈ as, okv v := fun v hv => hst v (List.mem_append_left _ (List.mem_reverse.mpr hv))
  refine e_after (a := (as.map (cv G.ad)).toArray) C hW hS hT hL hst' ?_ kk
  obtain ⟨hm1, hm2, hm3⟩ := hm
  refine va_runS (As := as.map (cv G.ad)) ⟨C.1, C.2.1, C.2.2.2.1, C.2.2.2.2.1, C.2.2.2.2.2.1⟩ (hC hokA) ⟨callB_ml C.2.2.2.2.2.1 hm1 hm2, C.2.2.2.2.2.1 _ (List.mem_cons_of_mem _ hm3)⟩ ⟨pc_blind, ?_⟩ rfl (by rw [List.length_map]; exact hn) hL.1 ?_ (lv_room (by rw [cats]; exact Nat.le_of_ble_eq_true hc)) hd ⟨Nat.le_refl _, Nat.le_refl _⟩
  · intro U hU hWm
    exact ⟨rfl, by rw [hU]; exact hW.moved hWm.alike, by rw [hU]; exact (hT.kept hS.2.1).moved hWm⟩
  · show (List.map (cv G.ad) (as.reverse ++ st)) = _
    rw [List.map_append, List.map_reverse]
-- Math.max, min, abs
def MLm (own : String) (ix : Nat) (y : MethodName) (cc : ByteArray) (n : Nat) : Prop := Cond.methodLink own ix y ∈ wtb ∧ Cond.static y ∈ wtb ∧ Cond.initialized "java/lang/Math" ∈ wtb ∧ Cond.code y cc n (some .int) ∈ wtb
theorem e_max {ix : Nat} {a b : Int} (hd : decode M.2.1 pc = .ok (.invokestatic ix, 3)) (hm : MLm M.1.cls ix Lib.Math.max.name Lib.Math.max.code 2) (h1 : 1 ≤ M.2.2.2.2.1) (h2 : Nat.ble ((st.map cv_cat).sum + 13) M.2.2.2.2.2 = true) (kk : Ev G M Q (pc + 3) lo ((0, if a < b then b else a) :: st) mem) : Ev G M Q pc lo ((0, b) :: (0, a) :: st) mem := by
  intro p e s m args below meth c' H locs ls C hW hS hT hL hst
  obtain ⟨hb, ha, hst⟩ := st2 hst
  have hb' := okv0' hb
  have ha' := okv0' ha
  have hk := kk p e s m args below meth c' H locs ls C hW hS hT hL (stp (by split <;> assumption) hst)
  have hts := C.2.2.2.2.2.1
  refine va_mmax C.1 C.2.1 (C.2.2.2.1.trans hL.1.symm) C.2.2.2.2.1 (hts _ (List.mem_cons_of_mem _ hm.1)) (hts _ (List.mem_cons_of_mem _ hm.2.1)) (hts _ (List.mem_cons_of_mem _ hm.2.2.1)) (hts _ (List.mem_cons_of_mem _ hm.2.2.2)) h1 (by rw [cats]; exact Nat.le_of_ble_eq_true h2) (Nat.le_refl _) (Nat.le_refl _) hd ?_
  have e9 : (if Int32.ofInt a < Int32.ofInt b then Int32.ofInt b else Int32.ofInt a) = Int32.ofInt (if a < b then b else a) := by
    by_cases h : a < b
    · rw [if_pos ((i32_lt ha' hb').mpr h), if_pos h]
    · rw [if_neg (fun q => h ((i32_lt ha' hb').mp q)), if_neg h]
  show W _ _ _ _ _ _ _ _ _ _ _ _ _ _ _ (F0 m (pc + 3) ls (.int (if Int32.ofInt a < Int32.ofInt b then Int32.ofInt b else Int32.ofInt a) :: _))
  rw [e9]; exact hk
end MCalls
