/-! THE CLAIM OUT OF ONE WALK OF THE LAW'S BODY. Your part is whole_start (and what it stands on); all else here is the same for every law, but numbers. -/
def R_law : String := "HallMinutesLaw"
def lw_P (b : Addr) (xs : List Int32) (args : Array Value) (s : State) : Prop := args = #[.ref b] ∧ s.IntsAt b xs ∧ xs.length ≤ 3072 ∧ (Jvm.Cond.and given_1 narrow_1).before args s = true
def lw_Q (_ : Array Value) (s : State) (o : Outcome) (t : State) : Prop := o = .returned (some (.int 1)) ∧ Framed s o t [] 600000 7302250
def lw_Z (below : List Frame) (a : Array Value) (s : State) : State → Prop := fun t => ∃ o, t.status = .running ∧ Ended t below o ∧ lw_Q a s o t
/-- the law's own end, with 1 on the stack, nothing written that was there before, its room as the claim has it -/
theorem lw_ret {p : Program} {l : Launch} {e : Env} {s : State} {m : MethodId} {below : List Frame} {meth : Method} {c : Code} {b : Nat} (hx : p.tables.exec = Jvm.exec) (hb : c.code = code) (hr : meth.sig.returnType = ret) (hlocks : meth.locks = false) {pc : Nat} {H : Heap} {ls : Array Slot} (hdg : decode code pc = .ok (.ireturn, 1)) : W p l e room_1 s m #[Value.ref b] below meth c H [] 600000 7302250 (lw_Z below #[Value.ref b] s) (F0 m pc ls [.int 1]) := by
  intro T hT X
  obtain ⟨fs, hret, hrun, hended, hW, hframe⟩ := X.leave (v := some (.int 1)) (hlocks := hlocks) (fun h => by rw [hr] at h; cases h)
  have hmeth' : T.vm.method? m = some meth := X.method'
  refine ⟨T.setFrames fs, ?_, .returned (some (.int 1)), hrun, hended, rfl, ⟨_, rfl⟩, hW, hframe⟩
  jvm_step X.here [X.here.top, hx, hb, hdg, hmeth', hr, ret, narrow_b1]
  (try refine ⟨rfl, ?_⟩); (try refine ⟨rfl, ?_⟩)
  first | (intro acts; rw [hret _ acts rfl rfl rfl]) | rw [hret _ _ rfl rfl rfl]
  exact Steps.refl _
/-- what holds at the law's entry: the machine, the code, the tables' words (any of lw_tbl by 'hts w (by decide +kernel)'), the script of L ints xs at the cell b, what the Statement gives of the start (any of its parts by flat_of_before) -/
def lw_At (p : Program) (s : State) (m : MethodId) (meth : Method) (c : Code) (b L : Nat) (xs : Nat → Int32) : Prop :=
  p.tables.exec = Jvm.exec ∧ c.code = code ∧ meth.sig.returnType = ret ∧ c.maxLocals = 4 ∧ s.vm.findClass R_law = some m.cls ∧ (∀ w ∈ lw_tbl, w.before #[Value.ref b] s = true) ∧ va_X b L xs s s.heap ∧ b < s.heap.size ∧ meth.locks = false ∧ (Jvm.Cond.and given_1 narrow_1).before #[Value.ref b] s = true
-- the machine at the law's level: what stands still (X), and the frames from which the law ends with true
abbrev LX : Type := Gm × Program × Env × State × MethodId × List Frame × Method × Code × Nat × Nat × (Nat → Int32)
abbrev LX.G (X : LX) : Gm := X.1
abbrev LX.p (X : LX) : Program := X.2.1
abbrev LX.e (X : LX) : Env := X.2.2.1
abbrev LX.s (X : LX) : State := X.2.2.2.1
abbrev LX.m (X : LX) : MethodId := X.2.2.2.2.1
abbrev LX.below (X : LX) : List Frame := X.2.2.2.2.2.1
abbrev LX.meth (X : LX) : Method := X.2.2.2.2.2.2.1
abbrev LX.c (X : LX) : Code := X.2.2.2.2.2.2.2.1
abbrev LX.b (X : LX) : Nat := X.2.2.2.2.2.2.2.2.1
abbrev LX.L (X : LX) : Nat := X.2.2.2.2.2.2.2.2.2.1
abbrev LX.xs (X : LX) : Nat → Int32 := X.2.2.2.2.2.2.2.2.2.2
def LX.ok (X : LX) : Prop := lw_At X.p X.s X.m X.meth X.c X.b X.L X.xs ∧ Sta X.G X.s X.s.heap ∧ (∀ q, AA X.G q → X.s.heap.size ≤ q) ∧ X.G.ad (NC + 4) = X.b ∧ X.L ≤ 3072
def EL (X : LX) (pc : Nat) (lo st : List AV) (mem : Mem) : Prop :=
  ∀ (H : Heap) (locs : List Loc) (ls : Array Slot), Wd X.G mem X.s H → va_S (fun q => X.s.heap.size ≤ q) X.s.heap H locs → Lh X.G 4 lo ls → (∀ v ∈ st, okv v) →
    W X.p X.G.1 X.e room_1 X.s X.m #[Value.ref X.b] X.below X.meth X.c H locs 600000 7302250 (lw_Z X.below #[Value.ref X.b] X.s) (F0 X.m pc ls (st.map (cv X.G.ad)))
section LRows
variable {X : LX} {pc : Nat} {lo st : List AV} {mem : Mem}
theorem l_iconst (zC : X.ok) {n : Int} (hd : decode code pc = .ok (.iconst n, 1)) (hn : okI n) (k : EL X (pc + 1) lo ((0, n) :: st) mem) : EL X pc lo st mem := by
  intro H locs ls hW hS hL hst
  exact lv_iconst zC.1.1 zC.1.2.1 hd rfl (k H locs ls hW hS hL (stp (okv0 hn) hst))
theorem l_bipush (zC : X.ok) {n : Int} (hd : decode code pc = .ok (.bipush n, 2)) (hv : (Int8.ofInt n).toInt32 = Int32.ofInt n) (hn : okI n) (k : EL X (pc + 2) lo ((0, n) :: st) mem) : EL X pc lo st mem := by
  intro H locs ls hW hS hL hst
  exact lv_bipush zC.1.1 zC.1.2.1 hd hv (k H locs ls hW hS hL (stp (okv0 hn) hst))
theorem l_iloadn (zC : X.ok) {kf : Fin 4} {i : Nat} {z : Int} (hd : decode code pc = .ok (.iload_n kf, 1)) (hi : (kf : Nat) = i) (hl : lo[i]? = some (0, z)) (k : EL X (pc + 1) lo ((0, z) :: st) mem) : EL X pc lo st mem := by
  intro H locs ls hW hS hL hst
  have h9 := hL.2.2.2 i _ hl (by simp)
  exact lv_iload_n zC.1.1 zC.1.2.1 hd hi h9.2 (k H locs ls hW hS hL (stp h9.1 hst))
theorem l_aloadn (zC : X.ok) {kf : Fin 4} {i : Nat} {z : Int} (hd : decode code pc = .ok (.aload_n kf, 1)) (hi : (kf : Nat) = i) (hl : lo[i]? = some (2, z)) (k : EL X (pc + 1) lo ((2, z) :: st) mem) : EL X pc lo st mem := by
  intro H locs ls hW hS hL hst
  have h9 := hL.2.2.2 i _ hl (by simp)
  exact lv_aload_n zC.1.1 zC.1.2.1 hd hi h9.2 (k H locs ls hW hS hL (stp h9.1 hst))
theorem l_istoren (zC : X.ok) {kf : Fin 4} {i : Nat} {z : Int} {lo' : List AV} (hd : decode code pc = .ok (.istore_n kf, 1)) (hi : (kf : Nat) = i) (hs : lo.set i (0, z) = lo') (hm : i < 4) (hn : nlb lo i = true) (k : EL X (pc + 1) lo' st mem) : EL X pc lo ((0, z) :: st) mem := by
  intro H locs ls hW hS hL hst
  obtain ⟨hv, hst⟩ := st1 hst
  subst hs
  exact lv_istore_n zC.1.1 zC.1.2.1 hd hi (lvOf_has hL) hm rfl (fun ls2 h2 => k H locs ls2 hW hS (Lh_set1 (v := (0, z)) hL hv hn h2) hst)
theorem l_astoren (zC : X.ok) {kf : Fin 4} {i : Nat} {z : Int} {lo' : List AV} (hd : decode code pc = .ok (.astore_n kf, 1)) (hi : (kf : Nat) = i) (hs : lo.set i (2, z) = lo') (hm : i < 4) (hn : nlb lo i = true) (k : EL X (pc + 1) lo' st mem) : EL X pc lo ((2, z) :: st) mem := by
  intro H locs ls hW hS hL hst
  obtain ⟨hv, hst⟩ := st1 hst
  subst hs
  exact lv_astore_n zC.1.1 zC.1.2.1 hd hi (lvOf_has hL) hm rfl (fun ls2 h2 => k H locs ls2 hW hS (Lh_set1 (v := (2, z)) hL hv hn h2) hst)
theorem l_iinc (zC : X.ok) {i : Nat} {n z : Int} {lo' : List AV} (hd : decode code pc = .ok (.iinc i n, 3)) (hl : lo[i]? = some (0, z)) (ho : okI (z + n)) (hs : lo.set i (0, z + n) = lo') (hm : i < 4) (hn : nlb lo i = true) (k : EL X (pc + 3) lo' st mem) : EL X pc lo st mem := by
  intro H locs ls hW hS hL hst
  subst hs
  refine lv_iincA zC.1.1 zC.1.2.1 hd (lvOf_has hL) (lvOf_mem hl (by simp)) (v := Int32.ofInt (z + n)) (by rw [Int32.ofInt_add]) hm (fun ls2 h2 => k H locs ls2 hW hS (Lh_set1 (v := (0, z + n)) hL (okv0 ho) hn h2) hst)
theorem l_iadd (zC : X.ok) {a b : Int} (hd : decode code pc = .ok (.iadd, 1)) (k : EL X (pc + 1) lo ((0, w32 (a + b)) :: st) mem) : EL X pc lo ((0, b) :: (0, a) :: st) mem := by
  intro H locs ls hW hS hL hst
  obtain ⟨hb, ha, hst⟩ := st2 hst
  have hk := k H locs ls hW hS hL (stp (okv0 (w32_ok _)) hst)
  refine lv_iadd zC.1.1 zC.1.2.1 hd ?_
  have e9 : Int32.ofInt (a + b) = Int32.ofInt a + Int32.ofInt b := Int32.ofInt_add a b
  rw [List.map_cons] at hk
  rw [show cv X.G.ad (0, w32 (a + b)) = .int (Int32.ofInt (a + b)) from by show Value.int _ = _; rw [i32_w]] at hk
  rw [e9] at hk
  exact hk
theorem l_iaddn (zC : X.ok) {a b : Int} (hd : decode code pc = .ok (.iadd, 1)) (ho : okI (a + b)) (k : EL X (pc + 1) lo ((0, a + b) :: st) mem) : EL X pc lo ((0, b) :: (0, a) :: st) mem := by
  intro H locs ls hW hS hL hst
  have k2 := k
  rw [show a + b = w32 (a + b) from (w32_id ho).symm] at k2
  exact l_iadd zC hd k2 H locs ls hW hS hL hst
theorem l_isub (zC : X.ok) {a b : Int} (hd : decode code pc = .ok (.isub, 1)) (k : EL X (pc + 1) lo ((0, w32 (a - b)) :: st) mem) : EL X pc lo ((0, b) :: (0, a) :: st) mem := by
  intro H locs ls hW hS hL hst
  obtain ⟨hb, ha, hst⟩ := st2 hst
  have hk := k H locs ls hW hS hL (stp (okv0 (w32_ok _)) hst)
  refine lv_isub zC.1.1 zC.1.2.1 hd ?_
  have e9 : Int32.ofInt (a - b) = Int32.ofInt a - Int32.ofInt b := Int32.ofInt_sub a b
  rw [List.map_cons] at hk
  rw [show cv X.G.ad (0, w32 (a - b)) = .int (Int32.ofInt (a - b)) from by show Value.int _ = _; rw [i32_w]] at hk
  rw [e9] at hk
  exact hk
theorem l_isubn (zC : X.ok) {a b : Int} (hd : decode code pc = .ok (.isub, 1)) (ho : okI (a - b)) (k : EL X (pc + 1) lo ((0, a - b) :: st) mem) : EL X pc lo ((0, b) :: (0, a) :: st) mem := by
  intro H locs ls hW hS hL hst
  have k2 := k
  rw [show a - b = w32 (a - b) from (w32_id ho).symm] at k2
  exact l_isub zC hd k2 H locs ls hW hS hL hst
theorem l_iand (zC : X.ok) {a b : Int} (hd : decode code pc = .ok (.iand, 1)) (k : EL X (pc + 1) lo ((0, bAnd a b) :: st) mem) : EL X pc lo ((0, b) :: (0, a) :: st) mem := by
  intro H locs ls hW hS hL hst
  obtain ⟨hb, ha, hst⟩ := st2 hst
  have hk := k H locs ls hW hS hL (stp (okv0 (okI_of _)) hst)
  rw [List.map_cons] at hk
  unfold bAnd at hk
  rw [cvI] at hk
  exact lv_iand zC.1.1 zC.1.2.1 hd hk
theorem l_lcmp (zC : X.ok) {a b : Int} (hd : decode code pc = .ok (.lcmp, 1)) (k : EL X (pc + 1) lo ((0, lCmp a b) :: st) mem) : EL X pc lo ((1, b) :: (1, a) :: st) mem := by
  intro H locs ls hW hS hL hst
  obtain ⟨hb, ha, hst⟩ := st2 hst
  have ha := okv1' ha
  have hb := okv1' hb
  have hk := k H locs ls hW hS hL (stp (okv0 (lCmp_ok a b)) hst)
  rw [List.map_cons] at hk
  refine W.lcmp zC.1.1 zC.1.2.1 hd ?_
  rw [show Value.int (lg_cmp (Int64.ofInt a) (Int64.ofInt b)) = cv X.G.ad (0, lCmp a b) from ?_]
  · exact hk
  · show _ = Value.int _
    unfold lg_cmp lCmp
    have e1 : (Int64.ofInt a > Int64.ofInt b) ↔ a > b := by show Int64.ofInt b < Int64.ofInt a ↔ b < a; rw [Int64.lt_iff_toInt_lt, i64_toInt ha, i64_toInt hb]
    have e2 : (Int64.ofInt a = Int64.ofInt b) ↔ a = b := i64_eq ha hb
    by_cases h1 : a > b
    · rw [if_pos (e1.mpr h1), if_pos h1]; rfl
    · rw [if_neg (fun q => h1 (e1.mp q)), if_neg h1]
      by_cases h2 : a = b
      · rw [if_pos (e2.mpr h2), if_pos h2]; rfl
      · rw [if_neg (fun q => h2 (e2.mp q)), if_neg h2]; rfl
theorem l_goto (zC : X.ok) {off : Int} {tgt : Nat} (hd : decode code pc = .ok (.goto off, 3)) (ht : (pc : Int) + off = (tgt : Int)) (k : EL X tgt lo st mem) : EL X pc lo st mem := by
  intro H locs ls hW hS hL hst
  exact lv_goto zC.1.1 zC.1.2.1 hd ht (k H locs ls hW hS hL hst)
theorem l_icmp_eq (zC : X.ok) {a b : Int} {off : Int} {tgt : Nat} (hd : decode code pc = .ok (.if_icmp .eq off, 3)) (ht : (pc : Int) + off = (tgt : Int)) (kt : a = b → EL X tgt lo st mem) (kf : ¬ a = b → EL X (pc + 3) lo st mem) : EL X pc lo ((0, b) :: (0, a) :: st) mem := by
  intro H locs ls hW hS hL hst
  obtain ⟨hb, ha, hst⟩ := st2 hst
  have hb := okv0' hb
  have ha := okv0' ha
  refine lv_icmp_eq zC.1.1 zC.1.2.1 hd ht (fun q => kt (by simp only [i32_eq ha hb, i32_lt ha hb, i32_le ha hb, i32_lt hb ha, i32_le hb ha, ne_eq, ge_iff_le, gt_iff_lt] at q; omega) H locs ls hW hS hL hst) (fun q => kf (by simp only [i32_eq ha hb, i32_lt ha hb, i32_le ha hb, i32_lt hb ha, i32_le hb ha, ne_eq, ge_iff_le, gt_iff_lt] at q; omega) H locs ls hW hS hL hst)
theorem l_if_eq (zC : X.ok) {a : Int} {off : Int} {tgt : Nat} (hd : decode code pc = .ok (.ifCond .eq off, 3)) (ht : (pc : Int) + off = (tgt : Int)) (kt : a = 0 → EL X tgt lo st mem) (kf : ¬ a = 0 → EL X (pc + 3) lo st mem) : EL X pc lo ((0, a) :: st) mem := by
  intro H locs ls hW hS hL hst
  obtain ⟨ha, hst⟩ := st1 hst
  have ha := okv0' ha
  have hb : okI 0 := by decide
  refine lv_if_eq zC.1.1 zC.1.2.1 hd ht (fun q => kt (by rw [show (0 : Int32) = Int32.ofInt 0 from rfl] at q; simp only [i32_eq ha hb, i32_lt ha hb, i32_le ha hb, i32_lt hb ha, i32_le hb ha, ne_eq, ge_iff_le, gt_iff_lt] at q; omega) H locs ls hW hS hL hst) (fun q => kf (by rw [show (0 : Int32) = Int32.ofInt 0 from rfl] at q; simp only [i32_eq ha hb, i32_lt ha hb, i32_le ha hb, i32_lt hb ha, i32_le hb ha, ne_eq, ge_iff_le, gt_iff_lt] at q; omega) H locs ls hW hS hL hst)
theorem l_icmp_gt (zC : X.ok) {a b : Int} {off : Int} {tgt : Nat} (hd : decode code pc = .ok (.if_icmp .gt off, 3)) (ht : (pc : Int) + off = (tgt : Int)) (kt : b < a → EL X tgt lo st mem) (kf : a ≤ b → EL X (pc + 3) lo st mem) : EL X pc lo ((0, b) :: (0, a) :: st) mem := by
  intro H locs ls hW hS hL hst
  obtain ⟨hb, ha, hst⟩ := st2 hst
  have hb := okv0' hb
  have ha := okv0' ha
  refine lv_icmp_gt zC.1.1 zC.1.2.1 hd ht (fun q => kt (by simp only [i32_eq ha hb, i32_lt ha hb, i32_le ha hb, i32_lt hb ha, i32_le hb ha, ne_eq, ge_iff_le, gt_iff_lt] at q; omega) H locs ls hW hS hL hst) (fun q => kf (by simp only [i32_eq ha hb, i32_lt ha hb, i32_le ha hb, i32_lt hb ha, i32_le hb ha, ne_eq, ge_iff_le, gt_iff_lt] at q; omega) H locs ls hW hS hL hst)
theorem l_tableOut (zC : X.ok) {dflt l0 h0 : Int} {offs : Array Int} {len : Nat} {a : Int} {tgt : Nat} (hd : decode code pc = .ok (.tableswitch dflt l0 h0 offs, len)) (h : a < l0 ∨ h0 < a) (ht : (pc : Int) + dflt = (tgt : Int)) (k : EL X tgt lo st mem) : EL X pc lo ((0, a) :: st) mem := by
  intro H locs ls hW hS hL hst
  obtain ⟨ha, hst⟩ := st1 hst
  exact lv_tableOut zC.1.1 zC.1.2.1 hd (by rw [i32_toInt (okv0' ha)]; exact h) ht (k H locs ls hW hS hL hst)
theorem l_tableIn (zC : X.ok) {dflt l0 h0 : Int} {offs : Array Int} {len : Nat} {a : Int} {off : Int} {tgt : Nat} (hd : decode code pc = .ok (.tableswitch dflt l0 h0 offs, len)) (h : l0 ≤ a ∧ a ≤ h0) (ho : offs[(a - l0).toNat]? = some off) (ht : (pc : Int) + off = (tgt : Int)) (k : EL X tgt lo st mem) : EL X pc lo ((0, a) :: st) mem := by
  intro H locs ls hW hS hL hst
  obtain ⟨ha, hst⟩ := st1 hst
  have e9 := i32_toInt (okv0' ha)
  exact lv_tableIn zC.1.1 zC.1.2.1 hd (by rw [e9]; omega) (by rw [e9]; omega) (by rw [e9]; exact ho) ht (k H locs ls hW hS hL hst)
def lwS (X : LX) (a : Int) : Int := (X.xs a.toNat).toInt
theorem lwS_ok (X : LX) (a : Int) : okI (lwS X a) := okI_of _
theorem l_scr (zC : X.ok) : cv X.G.ad (2, (82 : Int)) = Value.ref X.b := by
  show Value.ref (X.G.ad (NC + 4)) = _
  rw [zC.2.2.2.1]
theorem l_slen (zC : X.ok) (hd : decode code pc = .ok (.arraylength, 1)) (k : EL X (pc + 1) lo ((0, (X.L : Int)) :: st) mem) : EL X pc lo ((2, (82 : Int)) :: st) mem := by
  intro H locs ls hW hS hL hst
  have hz := zC.2.2.2.2
  have hk := k H locs ls hW hS hL (stp (okv0 (by constructor <;> omega)) (st1 hst).2)
  rw [List.map_cons, l_scr zC]
  refine va_slen zC.1.1 zC.1.2.1 zC.1.2.2.2.2.2.2.1 zC.1.2.2.2.2.2.2.2.1 (Nat.not_le.mpr zC.1.2.2.2.2.2.2.2.1) hS hd ?_
  exact hk
theorem l_sld (zC : X.ok) {a : Int} (hd : decode code pc = .ok (.iaload, 1)) (ha : 0 ≤ a ∧ a < (X.L : Int)) (k : EL X (pc + 1) lo ((0, lwS X a) :: st) mem) : EL X pc lo ((0, a) :: (2, (82 : Int)) :: st) mem := by
  intro H locs ls hW hS hL hst
  have hz := zC.2.2.2.2
  have hi : okI a := okv0' (st1 hst).1
  have hk := k H locs ls hW hS hL (stp (okv0 (lwS_ok X a)) (st2 hst).2.2)
  rw [List.map_cons, List.map_cons, l_scr zC]
  have e9 : cv X.G.ad (0, lwS X a) = .int (X.xs (Int32.ofInt a).toNatClampNeg) := by
    show Value.int (Int32.ofInt (X.xs a.toNat).toInt) = _
    rw [i32_back, i32_clamp hi ha.1]
  rw [List.map_cons, e9] at hk
  exact va_sld zC.1.1 zC.1.2.1 zC.1.2.2.2.2.2.2.1 zC.1.2.2.2.2.2.2.2.1 (Nat.not_le.mpr zC.1.2.2.2.2.2.2.2.1) hS (i32_in hi ha.1 ha.2) hd hk
theorem l_ret (zC : X.ok) (hd : decode code pc = .ok (.ireturn, 1)) : EL X pc lo [(0, 1)] mem := by
  intro H locs ls hW hS hL hst
  refine va_forget (fun q hq => hS.2.2 q hq) ?_
  exact lw_ret zC.1.1 zC.1.2.1 zC.1.2.2.1 zC.1.2.2.2.2.2.2.2.2.1 hd
def MLL (ix : Nat) (M2 : Mt) (n : Nat) : Prop := Cond.methodLink R_law ix M2.1 ∈ lw_tbl ∧ Cond.initialized M2.1.cls ∈ wtb ∧ Cond.code M2.1 M2.2.1 M2.2.2.1 M2.2.2.2.1 ∈ wtb ∧ (M2.1.cls ≠ "java/lang/invoke/MethodHandle" ∧ M2.1.cls ≠ "java/lang/invoke/VarHandle") ∧ M2.2.2.2.2.1 + 1 ≤ 11 ∧ 8 + (M2.2.2.1 + 11) + M2.2.2.2.2.2 ≤ 416 ∧ (parseMethodDescriptor M2.1.desc).map (fun d => d.parameters.length) = some n ∧ Cond.instanceMethod M2.1 ∈ wtb ∧ Cond.selects M2.1.cls M2.1 M2.1 ∈ wtb
theorem wtb_in {w : Cond} (h : w ∈ wtb) : w ∈ lw_tbl := (List.mem_filter.mp h).1
theorem callB_ll {M2 : Mt} {ix n : Nat} {s : State} {args : Array Value} (ht : ∀ w ∈ lw_tbl, w.before args s = true) (h : MLL ix M2 n) : CallB room_1 s args R_law ix M2.1 M2.2.1 M2.2.2.1 M2.2.2.2.1 (wds M2) (rmM M2) 0 0 n := by
  obtain ⟨h1, h2, h3, h4, h5, h6, hp, -, -⟩ := h
  refine callB_of (Ts := lw_tbl) n ht ?_ rfl rfl rfl (ht _ (wtb_in h2)) (ht _ h1) ⟨h4.1, h4.2, hp⟩ ⟨h5, h6⟩
  intro w hw
  have hw2 : w ∈ wtb := by
    rcases List.mem_cons.mp hw with rfl | q
    · exact h3
    · exact q
  exact ⟨wtb_in hw2, good_of_word (tbl_good hw2)⟩
theorem l_callV {M2 : Mt} {Q2 : Option AV → Mem → Prop} {ix zc zci n : Nat} {ks : List Int} {as st0 : List AV} (zC : X.ok) (hC : Con X.G M2 ((2, (zc : Int)) :: as) mem Q2) (hd : decode code pc = .ok (.invokevirtual ix, 3)) (hm : MLL ix M2 n) (hn : as.length = n) (hs : shp zc = .inl (zci, ks)) (hq : (classes[zci]?).map (fun q => q.1) = some M2.1.cls) (h0 : as.reverse ++ (2, (zc : Int)) :: st = st0) (hc : Nat.ble (st.map cv_cat).sum 8 = true)
    (kk : ∀ (r : Option AV) (mem' : Mem), Q2 r mem' → EL X (pc + 3) lo (r.toList ++ st) mem') : EL X pc lo st0 mem := by
  subst h0
  intro H locs ls hW hS hL hst
  have hst' : ∀ v ∈ st, okv v := fun v hv => hst v (List.mem_append_right _ (List.mem_cons_of_mem _ hv))
  have hokA : ∀ v ∈ (2, (zc : Int)) :: as, okv v := fun v hv => by
    rcases List.mem_cons.mp hv with rfl | h
    · exact okv2
    · exact hst v (List.mem_append_left _ (List.mem_reverse.mpr h))
  have hcb := shp_lt hs
  have hg := ws_get (ad := X.G.ad) (cA := X.G.cA) (mem := mem) hcb
  rw [ceE_obj hs] at hg
  obtain ⟨q, hq1, hq2⟩ : ∃ q, classes[zci]? = some q ∧ q.1 = M2.1.cls := by
    cases h9 : classes[zci]? with
    | none => rw [h9] at hq; cases hq
    | some q => rw [h9] at hq; exact ⟨q, rfl, Option.some.inj hq⟩
  have hts := zC.1.2.2.2.2.2.1
  have hr : va_Run X.p X.G.1 X.e room_1 X.s X.m #[Value.ref X.b] X.below X.meth X.c H locs 600000 7302250 0 0 (F0 X.m pc ls ((as.reverse ++ (2, (zc : Int)) :: st).map (cv X.G.ad))) (st.map (cv X.G.ad)) (Qc X.G Q2 (Value.ref (X.G.ad zc) :: as.map (cv X.G.ad)).toArray) (AA X.G) := by
    refine va_runV (C := M2.1.cls) (As := as.map (cv X.G.ad)) (b := X.G.ad zc) (Ts := lw_tbl) ⟨zC.1.1, zC.1.2.1, zC.1.2.2.2.1, zC.1.2.2.2.2.1, hts⟩ (hC hokA) ⟨callB_ll hts hm, hts _ (wtb_in hm.2.2.2.2.2.2.2.1), hts _ (wtb_in hm.2.2.2.2.2.2.2.2)⟩ ⟨pc_blind, ?_, ?_⟩ rfl (by rw [List.length_map]; exact hn) hL.1 ?_ (lv_room (by rw [cats]; exact Nat.le_of_ble_eq_true hc)) hd ⟨Nat.le_refl _, Nat.le_refl _⟩
    · rw [← hq2]; exact va_recv hW.2.1 hW.1 hq1 hg
    · intro U hU hWm
      exact ⟨rfl, by rw [hU]; exact hW.moved hWm.alike, by rw [hU]; exact (zC.2.1.kept (fun q h1 h2 => hS.2.1 q h1 (Nat.not_le.mpr h1))).moved hWm⟩
    · show (List.map (cv X.G.ad) (as.reverse ++ (2, (zc : Int)) :: st)) = _
      rw [List.map_append, List.map_reverse]; rfl
  intro T hTT zX
  obtain ⟨v, st₀, t, T', L, z0, zX', hLo, e1, e2, ⟨⟨r, mem', hv, hok, hq, hWd⟩, hz, hk⟩, go⟩ := hr T hTT zX
  cases hv
  rw [z0] at hz hk
  have hk2 := kk r mem' hq T'.heap (locs ++ L) ls ⟨by rw [e1]; exact hWd.1, hW.2.1, hWd.2.2.1, hWd.2.2.2⟩
    ⟨Nat.le_trans hS.1 (by rw [e1]; exact hz), fun q h1 h2 => by rw [e1, hk q (Nat.lt_of_lt_of_le h1 hS.1) (fun h3 => h2 (zC.2.2.1 q h3))]; exact hS.2.1 q h1 h2, fun q hq => by
      rcases List.mem_append.mp hq with h | h
      · exact hS.2.2 q h
      · exact zC.2.2.1 _ (hLo q h)⟩ hL (fun x hx => by
      rcases List.mem_append.mp hx with h | h
      · exact hok x (by simpa using h)
      · exact hst' x h)
  obtain ⟨t2, a1, b1⟩ := hk2 T' rfl zX'
  refine ⟨t2, go t2 ?_, b1⟩
  have e9 : (r.toList ++ st).map (cv X.G.ad) = (r.map (cv X.G.ad)).toList ++ st.map (cv X.G.ad) := by cases r <;> rfl
  rw [e9] at a1
  exact a1
end LRows
