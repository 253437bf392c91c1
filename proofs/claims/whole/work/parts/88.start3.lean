-- the law from its entry to its loop: while the world is built
def EB (X : LX) (n sl pc : Nat) (lo st : List AV) (mem : Mem) : Prop :=
  ∀ (H : Heap) (locs : List Loc) (ls : Array Slot), Wb X.G X.s.heap.size n mem X.s H → va_S (fun q => X.s.heap.size ≤ q) X.s.heap H locs → Lh X.G 4 lo ls → (∀ v ∈ st, okv v) →
    W X.p X.G.1 X.e room_1 X.s X.m #[Value.ref X.b] X.below X.meth X.c H locs n sl (lw_Z X.below #[Value.ref X.b] X.s) (F0 X.m pc ls (st.map (cv X.G.ad)))
section LBuild
variable {X : LX} {n sl pc : Nat} {lo st : List AV} {mem : Mem}
theorem lb_low {G : Gm} {U : State} {H : Heap} {A : Nat → Prop} {H0 : Heap} {locs : List Loc} (hW : Wb G H0.size n mem U H) (hS : va_S A H0 H locs) : H0.size + n ≤ H.size := by
  rcases Nat.eq_zero_or_pos n with h | h
  · rw [h]; exact hS.1
  · exact hW.low h
theorem lb_dup {v : AV} (zC : X.ok) (hd : decode code pc = .ok (.dup, 1)) (hv : cv_cat v = 1) (k : EB X n sl (pc + 1) lo (v :: v :: st) mem) : EB X n sl pc lo (v :: st) mem := by
  intro H locs ls hW hS hL hst
  exact lv_dup zC.1.1 zC.1.2.1 hd (by rw [cv_category]; exact hv) (k H locs ls hW hS hL (stp (st1 hst).1 hst))
theorem lb_astoren {kf : Fin 4} {i : Nat} {z : Int} {lo' : List AV} (zC : X.ok) (hd : decode code pc = .ok (.astore_n kf, 1)) (hi : (kf : Nat) = i) (hs : lo.set i (2, z) = lo') (hm : i < 4) (hn : nlb lo i = true) (k : EB X n sl (pc + 1) lo' st mem) : EB X n sl pc lo ((2, z) :: st) mem := by
  intro H locs ls hW hS hL hst
  obtain ⟨hv, hst⟩ := st1 hst
  subst hs
  exact lv_astore_n zC.1.1 zC.1.2.1 hd hi (lvOf_has hL) hm rfl (fun ls2 h2 => k H locs ls2 hW hS (Lh_set1 (v := (2, z)) hL hv hn h2) hst)
theorem lb_new {ix ci N : Nat} {ks : List Int} {zc : String} {zT : u_T} (zC : X.ok) (hd : decode code pc = .ok (.new ix, 3)) (hs : shp n = .inl (ci, ks)) (hq : classes[ci]? = some (zc, zT, N)) (hcl : Cond.classLink R_law ix zc ∈ lw_tbl) (hin : Cond.instantiable zc N ∈ wtb) (hini : Cond.initialized zc ∈ wtb) (hfs : ∀ j, j < N → defaultValue (tyOf ci j) = vp_V (ks.zipIdx.map (fun q => fvB X.G.ad (fun _ => 0) q.2 q.1)) j)
    (hc : n + 1 ≤ 600000) (hsl : sl + N ≤ 7302250) (kk : EB X (n + 1) (sl + N) (pc + 3) lo ((2, (n : Int)) :: st) mem) : EB X n sl pc lo st mem := by
  intro H locs ls hW hS hL hst
  refine W_sz (fun hz => ?_)
  have hlow := lb_low hW hS
  have hH : H.size = X.s.heap.size + n := by omega
  have hn : n < NC := shp_lt hs
  have hts := zC.1.2.2.2.2.2.1
  have hKn := hW.2.1.1 ci _ hq
  refine W.newcK zC.1.1 zC.1.2.1 zC.1.2.2.2.2.1 (hts _ hcl) (hts _ (wtb_in hin)) (hts _ (wtb_in hini)) (g := F0 X.m pc ls (st.map (cv X.G.ad))) rfl hd hc hsl hKn.2.1 hH (fun H1 kC hkC e1 z1 o1 => ?_)
  have ha := hW.2.2.2.1 n hn
  have hk := kk H1 locs ls (hW.grow (by omega) (fun k q1 q2 => by
    have zk : k = n := by omega
    rw [zk, ceB_obj hs, ha]
    exact ⟨_, hq, (u_born (tyOf ci) hts (fun w h => wtb_in ((cls_in ci _ hq).1 w h)) hKn hkC e1 (cls_in ci _ hq).2.1).to hfs⟩) (fun q hq => o1 q hq) (by omega)) (hS.grew (by omega) (fun q hq => o1 q (by omega))) hL (stp okv2 hst)
  have e9 : cv X.G.ad (2, (n : Int)) = .ref (X.s.heap.size + n) := by
    show Value.ref (X.G.ad n) = _
    rw [ha]
  rw [List.map_cons, e9] at hk
  exact hk
theorem lb_call {M2 : Mt} {N2 mc2 ms2 ix c : Nat} {Q2 : Mem → Prop} {st0 : List AV} (zC : X.ok) (hB : StB X.G X.s X.s.heap) (hC : ConB (X.G, X.s.heap.size, M2, N2, mc2, ms2, Q2) [(2, (c : Int))] n mem) (hd : decode code pc = .ok (.invokespecial ix, 3)) (hl : Cond.methodLink R_law ix M2.1 ∈ lw_tbl) (hi : Cond.initialized M2.1.cls ∈ wtb) (hcd : Cond.code M2.1 M2.2.1 M2.2.2.1 M2.2.2.2.1 ∈ wtb) (hpl : M2.1.cls ≠ "java/lang/invoke/MethodHandle" ∧ M2.1.cls ≠ "java/lang/invoke/VarHandle") (hf : M2.2.2.2.2.1 + 1 ≤ 11 ∧ 8 + (M2.2.2.1 + 11) + M2.2.2.2.2.2 ≤ 416) (hpd : (parseMethodDescriptor M2.1.desc).map (fun d => d.parameters.length) = some 0) (hnm : M2.1.name = "<init>") (him : Cond.instanceMethod M2.1 ∈ wtb) (hrt : M2.2.2.2.1 = none) (h0 : (2, (c : Int)) :: st = st0) (hc : Nat.ble (st.map cv_cat).sum 8 = true) (hN : N2 = n + mc2) (hcs : n + mc2 ≤ 600000) (hss : sl + ms2 ≤ 7302250)
    (kk : ∀ mem' : Mem, Q2 mem' → EB X N2 (sl + ms2) (pc + 3) lo st mem') : EB X n sl pc lo st0 mem := by
  subst h0
  intro H locs ls hW hS hL hst
  have hst' : ∀ v ∈ st, okv v := fun v hv => hst v (List.mem_cons_of_mem _ hv)
  have hokA : ∀ v ∈ [((2, (c : Int)) : AV)], okv v := fun v hv => by
    rcases List.mem_cons.mp hv with rfl | h
    · exact okv2
    · cases h
  refine W_sz (fun hz => ?_)
  have hlow := lb_low hW hS
  have hH : H.size = X.s.heap.size + n := by omega
  have hts := zC.1.2.2.2.2.2.1
  have hG : GoodIn lw_tbl (wds M2) := by
    intro w hw
    have hw2 : w ∈ wtb := by
      rcases List.mem_cons.mp hw with rfl | q
      · exact hcd
      · exact q
    exact ⟨wtb_in hw2, good_of_word (tbl_good hw2)⟩
  have hr : va_Run X.p X.G.1 X.e room_1 X.s X.m #[Value.ref X.b] X.below X.meth X.c H locs n sl mc2 ms2 (F0 X.m pc ls (((2, (c : Int)) :: st).map (cv X.G.ad))) (st.map (cv X.G.ad)) (QcB (X.G, X.s.heap.size, M2, N2, mc2, ms2, Q2) [Value.ref (X.G.ad c)].toArray) (AA X.G) := by
    refine va_runI (As := []) (b := X.G.ad c) (bytes := M2.2.1) (maxL := M2.2.2.1) (n := 0) (Ts := lw_tbl) ⟨zC.1.1, zC.1.2.1, zC.1.2.2.2.1, zC.1.2.2.2.2.1, hts⟩ (hC hokA) ⟨callB_of (Ts := lw_tbl) 0 hts hG (by rw [← hrt]; rfl) rfl rfl (hts _ (wtb_in hi)) (hts _ hl) ⟨hpl.1, hpl.2, hpd⟩ hf, hnm, hts _ (wtb_in him)⟩ ⟨pcB_blind, ?_⟩ rfl rfl hL.1 rfl (lv_room (by rw [cats]; exact Nat.le_of_ble_eq_true hc)) hd ⟨hcs, hss⟩
    intro U hU hWm
    exact ⟨rfl, ⟨by rw [hU]; exact hW.moved hWm.alike, by rw [hU]; exact hH⟩, by rw [hU]; exact (hB.kept (fun q h1 h2 => hS.2.1 q h1 (Nat.not_le.mpr h1))).moved hWm⟩
  intro T hTT zX
  obtain ⟨v, st₀, t, T', L, z0, zX', hLo, e1, e2, ⟨⟨mem', hv, hq, hWd⟩, hz2, hk⟩, go⟩ := hr T hTT zX
  cases hv
  rw [z0] at hz2 hk
  rw [← hN] at zX'
  have hk2 := kk mem' hq T'.heap (locs ++ L) ls ⟨by rw [e1]; exact hWd.1, hW.2.1, hWd.2.2⟩
    ⟨Nat.le_trans hS.1 (by rw [e1]; exact hz2), fun q h1 h2 => by rw [e1, hk q (Nat.lt_of_lt_of_le h1 hS.1) (fun h3 => h2 (zC.2.2.1 q h3))]; exact hS.2.1 q h1 h2, fun q hq => by
      rcases List.mem_append.mp hq with h | h
      · exact hS.2.2 q h
      · exact zC.2.2.1 _ (hLo q h)⟩ hL hst'
  obtain ⟨t2, a1, b1⟩ := hk2 T' rfl zX'
  exact ⟨t2, go t2 a1, b1⟩
theorem lb_end (h : EL X pc lo st mem0) (h2 : sl ≤ 7302250) : EB X 78 sl pc lo st mem0 := by
  intro H locs ls hW hS hL hst
  exact W.widen (k := 600000) (n := 7302250) (by decide) h2 (h H locs ls (wb_wd hW) hS hL hst)
end LBuild
