-- THE ABSTRACT MACHINE: values are (tag, integer): 0 int, 1 long, 2 reference to a cell of the world, 3 nothing known; memory: cell, slot -> integer
abbrev AV : Type := Nat × Int
abbrev Mem : Type := Nat → Nat → Int
abbrev okI (z : Int) : Prop := -2147483648 ≤ z ∧ z ≤ 2147483647
abbrev okL (z : Int) : Prop := -9223372036854775808 ≤ z ∧ z ≤ 9223372036854775807
def w32 (z : Int) : Int := (Int32.ofInt z).toInt
def w64 (z : Int) : Int := (Int64.ofInt z).toInt
theorem okI_of (x : Int32) : okI x.toInt := by
  have h1 := Int32.le_toInt x; have h2 := Int32.toInt_lt x
  constructor <;> omega
theorem okL_of (x : Int64) : okL x.toInt := by
  have h1 := Int64.le_toInt x; have h2 := Int64.toInt_lt x
  constructor <;> omega
theorem i32_toInt {z : Int} (h : okI z) : (Int32.ofInt z).toInt = z := Int32.toInt_ofInt_of_le (by omega) (by omega)
theorem i64_toInt {z : Int} (h : okL z) : (Int64.ofInt z).toInt = z := Int64.toInt_ofInt_of_le (by omega) (by omega)
theorem w32_ok (z : Int) : okI (w32 z) := okI_of _
theorem w64_ok (z : Int) : okL (w64 z) := okL_of _
theorem w32_id {z : Int} (h : okI z) : w32 z = z := i32_toInt h
theorem w64_id {z : Int} (h : okL z) : w64 z = z := i64_toInt h
theorem i32_w (z : Int) : Int32.ofInt (w32 z) = Int32.ofInt z := by unfold w32; exact Int32.ofInt_toInt _
theorem i64_w (z : Int) : Int64.ofInt (w64 z) = Int64.ofInt z := by unfold w64; exact Int64.ofInt_toInt _
theorem i32_back (x : Int32) : Int32.ofInt x.toInt = x := Int32.ofInt_toInt _
theorem i64_back (x : Int64) : Int64.ofInt x.toInt = x := Int64.ofInt_toInt _
theorem i32_eq {a b : Int} (ha : okI a) (hb : okI b) : Int32.ofInt a = Int32.ofInt b ↔ a = b := by
  constructor
  · intro h; rw [← i32_toInt ha, ← i32_toInt hb, h]
  · intro h; rw [h]
theorem i32_lt {a b : Int} (ha : okI a) (hb : okI b) : Int32.ofInt a < Int32.ofInt b ↔ a < b := by
  rw [Int32.lt_iff_toInt_lt, i32_toInt ha, i32_toInt hb]
theorem i32_le {a b : Int} (ha : okI a) (hb : okI b) : Int32.ofInt a ≤ Int32.ofInt b ↔ a ≤ b := by
  rw [Int32.le_iff_toInt_le, i32_toInt ha, i32_toInt hb]
theorem i32_clamp {a : Int} (ha : okI a) (h0 : 0 ≤ a) : (Int32.ofInt a).toNatClampNeg = a.toNat := by
  show (Int32.ofInt a).toInt.toNat = a.toNat
  rw [i32_toInt ha]
theorem i32_in {a : Int} {n : Nat} (ha : okI a) (h0 : 0 ≤ a) (hn : a < n) : vp_in (Int32.ofInt a) n := by
  rw [vp_in_iff, i32_toInt ha]; exact ⟨h0, hn⟩
def okv (v : AV) : Prop := (v.1 = 0 → okI v.2) ∧ (v.1 = 1 → okL v.2)
def cv (ad : Nat → Nat) (v : AV) : Value := match v.1 with
  | 0 => .int (Int32.ofInt v.2)
  | 1 => .long (Int64.ofInt v.2)
  | _ => .ref (ad v.2.toNat)
theorem okv0 {z : Int} (h : okI z) : okv (0, z) := ⟨fun _ => h, (fun h => by cases h)⟩
theorem okv1 {z : Int} (h : okL z) : okv (1, z) := ⟨(fun h => by cases h), fun _ => h⟩
theorem okv2 {z : Int} : okv (2, z) := ⟨(fun h => by cases h), (fun h => by cases h)⟩
theorem okv0' {z : Int} (h : okv (0, z)) : okI z := h.1 rfl
theorem okv1' {z : Int} (h : okv (1, z)) : okL z := h.2 rfl
def cv_cat (v : AV) : Nat := match v.1 with
  | 1 => 2
  | _ => 1
theorem cv_category (ad : Nat → Nat) (v : AV) : (cv ad v).category = cv_cat v := by
  unfold cv cv_cat
  obtain ⟨t, z⟩ := v
  match t with
  | 0 => rfl
  | 1 => rfl
  | t + 2 => rfl
-- one row of memory changed; one slot changed
def rset (mem : Mem) (c : Nat) (r : Nat → Int) : Mem := fun c' => if c' = c then r else mem c'
def uset (f : Nat → Int) (j : Nat) (v : Int) : Nat → Int := fun j' => if j' = j then v else f j'
def mset (mem : Mem) (c j : Nat) (v : Int) : Mem := rset mem c (uset (mem c) j v)
theorem rset_eq (mem : Mem) (c : Nat) (r : Nat → Int) : rset mem c r c = r := if_pos rfl
theorem rset_ne (mem : Mem) (c : Nat) (r : Nat → Int) {c' : Nat} (h : c' ≠ c) : rset mem c r c' = mem c' := if_neg h
-- a field's value, a cell's entry
def fv (ad : Nat → Nat) (r : Nat → Int) (j : Nat) (k : Int) : Value := if k < 0 then .int (Int32.ofInt (r j)) else .ref (ad k.toNat)
def arE (ad : Nat → Nat) (t n b : Nat) (r : Nat → Int) : (Nat → Int32) ⊕ (Nat → Int64) ⊕ (Nat → UInt32) ⊕ (Nat → UInt64) ⊕ (Nat → Option Nat) := match t with
  | 2 => .inr (.inl (fun j => Int64.ofInt (r j)))
  | 3 => .inr (.inr (.inr (.inr (fun j => if j < n then some (ad (b + j)) else none))))
  | _ => .inl (fun j => Int32.ofInt (r j))
def ceE (ad : Nat → Nat) (cA : Nat → ClassId) (c : Nat) (r : Nat → Int) : va_E := match shp c with
  | .inl (ci, ks) => .inr (ci, ks.zipIdx.map (fun q => fv ad r q.2 q.1))
  | .inr (t, n, b) => .inl (cA t, n, arE ad t n b r)
def wsOf (ad : Nat → Nat) (cA : Nat → ClassId) (mem : Mem) : va_W := (List.range NC).map (fun c => (ad c, ceE ad cA c (mem c)))
theorem ws_get {ad : Nat → Nat} {cA : Nat → ClassId} {mem : Mem} {c : Nat} (h : c < NC) : (wsOf ad cA mem)[c]? = some (ad c, ceE ad cA c (mem c)) := by
  unfold wsOf
  rw [List.getElem?_map, List.getElem?_range h]; rfl
theorem ws_set {ad : Nat → Nat} {cA : Nat → ClassId} {mem : Mem} {c : Nat} {r : Nat → Int} {E : va_E} (hE : ceE ad cA c r = E) : (wsOf ad cA mem).set c (ad c, E) = wsOf ad cA (rset mem c r) := by
  apply List.ext_getElem?
  intro i
  unfold wsOf
  rw [List.getElem?_set]
  by_cases hi : c = i
  · subst hi
    rw [if_pos rfl, List.length_map, List.length_range]
    by_cases hc : c < NC
    · rw [if_pos hc, List.getElem?_map, List.getElem?_range hc]
      simp [rset_eq, hE]
    · rw [if_neg hc, List.getElem?_map, List.getElem?_eq_none (by simpa using hc)]; rfl
  · rw [if_neg hi, List.getElem?_map, List.getElem?_map]
    by_cases hc : i < NC
    · rw [List.getElem?_range hc]
      simp [rset_ne mem c r (Ne.symm hi)]
    · rw [List.getElem?_eq_none (by simpa using hc)]; rfl
-- the launch, the classes' numbers, the cells' addresses, the array classes
abbrev Gm : Type := Launch × va_G × (Nat → Nat) × (Nat → ClassId)
abbrev Gm.ad (G : Gm) : Nat → Nat := G.2.2.1
abbrev Gm.cA (G : Gm) : Nat → ClassId := G.2.2.2
-- a method: name, code, locals, answer, frames and locals' words below it
abbrev Mt : Type := MethodName × ByteArray × Nat × Option FieldType × Nat × Nat
def wds (M : Mt) : List Cond := Cond.code M.1 M.2.1 M.2.2.1 M.2.2.2.1 :: wtb
def rmM (M : Mt) : Room := { frames := M.2.2.2.2.1, cells := 0, slots := 0, locals := M.2.2.2.2.2 }
def tysG (G : Gm) : List (ClassId × FieldType) := [(G.cA 0, .int), (G.cA 1, .boolean), (G.cA 2, .long), (G.cA 3, .array .int)]
def AA (G : Gm) : Nat → Prop := fun q => ∃ k, k < NC ∧ G.ad k = q
def okr (c : Nat) (r : Nat → Int) : Prop := ∀ j, (shp c).elim (fun _ => okI (r j)) (fun q => if q.1 = 2 then okL (r j) else okI (r j))
def okm (mem : Mem) : Prop := ∀ c, okr c (mem c)
def Wd (G : Gm) (mem : Mem) (U : State) (H : Heap) : Prop := va_P G.2.1 classes (wsOf G.ad G.cA mem) H ∧ va_K G.2.1 classes (tysG G) U ∧ va_D (AA G) (wsOf G.ad G.cA mem) ∧ okm mem
-- the static rows: COST_AT_FIRST, COST_LEAST, COST_MOST, TERM_MOST
def stN (k : Nat) : String := match k with
  | 0 => "COST_AT_FIRST"
  | 1 => "COST_LEAST"
  | 2 => "COST_MOST"
  | _ => "TERM_MOST"
def stV (k : Nat) : List Int := match k with
  | 0 => [1, 1, 100, 0, 5]
  | 1 => [0, 0, 0, 0, 1]
  | 2 => [99, 99, 999, 15, 30]
  | _ => [59, 99, 99]
/-- a nested class's link to the outer class's static row -/
abbrev nw1 : Cond := .fieldLinkNest "HallMinutes$Evening" 9 "HallMinutes" "TERM_MOST" "[I" "HallMinutes"
def Sta (G : Gm) (U : State) (H : Heap) : Prop := va_Nw nw1 U ∧ ∀ k, k < 4 → va_Z "HallMinutes" (stN k) "[I" (.ref (G.ad (NC + k))) (AA G) U H ∧ va_T .int (G.ad (NC + k)) (stV k).length (fun j => .int (Int32.ofInt ((stV k).getD j 0))) (AA G) U H
def Qc (G : Gm) (Q : Option AV → Mem → Prop) : Array Value → State → Outcome → State → Prop := fun _ st oc t => (∃ (r : Option AV) (mem' : Mem), oc = .returned (r.map (cv G.ad)) ∧ (∀ v, r = some v → okv v) ∧ Q r mem' ∧ Wd G mem' t t.heap) ∧ va_F (AA G) st t
def Con (G : Gm) (M : Mt) (as : List AV) (mem : Mem) (Q : Option AV → Mem → Prop) : Prop :=
  (∀ v ∈ as, okv v) → Met G.1 M.1 (wds M) (rmM M) (va_Pc (as.map (cv G.ad)) (fun U => Wd G mem U U.heap ∧ Sta G U U.heap)) (Qc G Q) 0 0 (AA G)
def Lh (G : Gm) (n : Nat) (lo : List AV) (ls : Array Slot) : Prop := ls.size = n ∧ lv_wf ls ∧ lo.length = n ∧ ∀ (i : Nat) (v : AV), lo[i]? = some v → v.1 ≠ 3 → okv v ∧ ls[i]? = some (.val (cv G.ad v))
def Cx (M : Mt) (p : Program) (s : State) (m : MethodId) (args : Array Value) (meth : Method) (c : Code) : Prop :=
  p.tables.exec = Jvm.exec ∧ c.code = M.2.1 ∧ meth.sig.returnType = M.2.2.2.1 ∧ c.maxLocals = M.2.2.1 ∧ s.vm.findClass M.1.cls = some m.cls ∧ (∀ w ∈ wds M, w.before args s = true) ∧ meth.locks = false
def Ev (G : Gm) (M : Mt) (Q : Option AV → Mem → Prop) (pc : Nat) (lo st : List AV) (mem : Mem) : Prop :=
  ∀ (p : Program) (e : Env) (s : State) (m : MethodId) (args : Array Value) (below : List Frame) (meth : Method) (c : Code) (H : Heap) (locs : List Loc) (ls : Array Slot),
    Cx M p s m args meth c → Wd G mem s H → va_S (AA G) s.heap H locs → Sta G s s.heap → Lh G M.2.2.1 lo ls → (∀ v ∈ st, okv v) →
    W p G.1 e (rmM M) s m args below meth c H locs 0 0 (MQ below (Qc G Q) args s 0 0 (AA G)) (F0 m pc ls (st.map (cv G.ad)))
