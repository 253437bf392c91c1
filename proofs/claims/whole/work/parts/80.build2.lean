theorem arrV_like (cA : ClassId) (R : Nat) (f g : Nat → Value) (h : ∀ j, j < R → f j = g j) : arrV cA R f = arrV cA R g := by
  unfold arrV
  have e : (fun j : Fin R => f j.val) = (fun j : Fin R => g j.val) := funext (fun j => h j.val j.isLt)
  rw [e]
theorem outer_at (cA : ClassId) (R h0 i : Nat) : Jvm.Free.Multi.outerC cA R h0 i = arrV cA R (fun j => if j < i then .ref (h0 + 1 + j) else .null) := by
  induction i with
  | zero =>
    refine Eq.trans (arrV_new cA R .null) (arrV_like cA R _ _ (fun j _ => ?_))
    rw [if_neg (by omega)]
  | succ i ih =>
    show (Jvm.Free.Multi.outerC cA R h0 i).setSlot i (.ref (h0 + 1 + i)) = _
    rw [ih, arrV_store]
    refine arrV_like cA R _ _ (fun j _ => ?_)
    unfold updV
    by_cases hj : j = i
    · rw [if_pos hj, if_pos (by omega), hj]
    · rw [if_neg hj]
      show (if j < i then Value.ref (h0 + 1 + j) else Value.null) = _
      by_cases h2 : j < i
      · rw [if_pos h2, if_pos (by omega)]
      · rw [if_neg h2, if_neg (by omega)]
theorem outer_arr (cA : ClassId) (R h0 : Nat) (f : Nat → Value) (hf : ∀ j, j < R → f j = .ref (h0 + 1 + j)) : Jvm.Free.Multi.outerC cA R h0 R = arrV cA R f := by
  rw [outer_at]
  refine arrV_like cA R _ _ (fun j hj => ?_)
  rw [if_pos hj, hf j hj]
theorem plain4 : yX4_init.cls ≠ "java/lang/invoke/MethodHandle" ∧ yX4_init.cls ≠ "java/lang/invoke/VarHandle" ∧ (parseMethodDescriptor yX4_init.desc).map (fun d => d.parameters.length) = some 0 := ⟨by decide +kernel, by decide +kernel, by decide +kernel⟩
section BMulti
variable {Y : BX} {n cs sl pc : Nat} {lo st : List AV} {mem : Mem}
theorem b_mna {ix R L : Nat} (hd : decode Y.M.2.1 pc = .ok (.multianewarray ix 2, 4)) (hs : shp n = .inr (3, R, n + 1)) (hs2 : ∀ j, j < R → shp (n + 1 + j) = .inr (0, L, 0)) (h0 : 0 < R ∧ R < 1000 ∧ 0 < L ∧ L < 1000) (hl : Cond.classLink Y.M.1.cls ix ("[" ++ (FieldType.array .int).toString) ∈ wtb) (hw : Cond.arrayClass .int ∈ wtb) (h1 : 1 ≤ n) (hn : n + 1 + R ≤ NC) (hc : cs + (1 + R) ≤ Y.mc) (hsl : sl + (R + R * L) ≤ Y.ms)
    (kk : Bv Y (n + 1 + R) (cs + 1 + R) (sl + R + R * L) (pc + 4) lo ((2, (n : Int)) :: st) mem) : Bv Y n cs sl pc lo ((0, (L : Int)) :: (0, (R : Int)) :: st) mem := by
  intro p e s m args below meth c' H locs ls C hI hW hS hT hL hst
  refine W_sz (fun hz => ?_)
  have hlow := hW.low h1
  have hI2 := hI.2
  have hH : H.size = Y.B + n := by omega
  have hokR : okI (R : Int) := by constructor <;> omega
  have hokL : okI (L : Int) := by constructor <;> omega
  have eR : (Int32.ofInt (R : Int)).toNatClampNeg = R := by rw [i32_clamp hokR (by omega)]; rfl
  have eL : (Int32.ofInt (L : Int)).toNatClampNeg = L := by rw [i32_clamp hokL (by omega)]; rfl
  have hnR : ¬ Int32.ofInt (R : Int) < 0 := fun h9 => by
    have := (i32_lt (b := 0) hokR (by constructor <;> omega)).mp h9
    omega
  have hnL : ¬ Int32.ofInt (L : Int) < 0 := fun h9 => by
    have := (i32_lt (b := 0) hokL (by constructor <;> omega)).mp h9
    omega
  have hts := C.2.2.2.2.2.1
  intro T hTT X
  obtain ⟨vm₁, cA, comp, hWm, hfA, hfC, hO, hIn, X1, step⟩ := X.multianewarray2F C.1 (own := Y.M.1.cls) (index := ix) (ty := .int) C.2.2.2.2.1 (hts _ (List.mem_cons_of_mem _ hl)) (over_moved (Vm.Alike.refl _) hT.2.2.2) (hts _ (List.mem_cons_of_mem _ hw)) (g := F0 m pc ls (((0, (L : Int)) :: (0, (R : Int)) :: st).map (cv Y.G.ad))) rfl (by rw [C.2.1]; exact hd) (n := Int32.ofInt (R : Int)) (k := Int32.ofInt (L : Int)) (rest := st.map (cv Y.G.ad)) rfl hnR hnL (by rw [eR]; omega) (by rw [eL]; show L * 4 ≤ _; omega) (by rw [eL]; omega) rfl rfl (by rw [eR]; exact hc) (by rw [eR, eL]; exact hsl)
  rw [eR, eL] at X1 step
  obtain ⟨f1, f2, f3, f4⟩ := Jvm.Free.Multi.fill_facts (T.setVm vm₁) cA comp R L (defaultValue .int) R
  have hin := Jvm.Free.Multi.fill_inner (T.setVm vm₁) cA comp R L (defaultValue .int) R
  have hold : ∀ q : Nat, q < Y.B + n → (Jvm.Free.Multi.fill (T.setVm vm₁) cA comp R L (defaultValue .int) R).heap[q]? = H[q]? := fun q hq => by
    rw [Jvm.Free.Multi.fill_old (T.setVm vm₁) cA comp R L (defaultValue .int) (by show q < T.heap.size; rw [hTT, hH]; exact hq) R]
    show T.heap[q]? = _
    rw [hTT]
  have hsz : (T.setVm vm₁).heap.size = Y.B + n := by show T.heap.size = _; rw [hTT, hH]
  rw [hsz] at f1 f2 hin
  have hc3 : Y.G.cA 3 = cA := Option.some.inj (Eq.trans (Eq.symm (hW.2.1.2 3 _ tys3).2) hfA)
  have hc0 : Y.G.cA 0 = comp := Option.some.inj (Eq.trans (Eq.symm (hW.2.1.2 0 _ tys0).2) hfC)
  have ha := hW.2.2.2.1
  obtain ⟨t, a1, b1⟩ := kk p e s m args below meth c' _ locs ls C ⟨hI.1, by omega⟩ (hW.grow (H1 := (Jvm.Free.Multi.fill (T.setVm vm₁) cA comp R L (defaultValue .int) R).heap) hn (fun k q1 q2 => by
    by_cases hkn : k = n
    · rw [hkn, ceB_arr hs]
      show _ = some (vp_cell (Y.G.cA 3) (R, Sum.inr (Sum.inr (Sum.inr (Sum.inr _)))))
      rw [ha n (by omega), f2, vp_cell_q, hc3, outer_arr cA R (Y.B + n) _ (fun j hj => ?_)]
      show va_rf (if j < R then some (Y.G.ad (n + 1 + j)) else none) = _
      rw [if_pos hj, ha (n + 1 + j) (by omega)]
      show Value.ref (Y.B + (n + 1 + j)) = Value.ref (Y.B + n + 1 + j)
      rw [show Y.B + (n + 1 + j) = Y.B + n + 1 + j by omega]
    · obtain ⟨j, hj⟩ : ∃ j, k = n + 1 + j := ⟨k - (n + 1), by omega⟩
      rw [hj, ceB_arr (hs2 j (by omega)), ha (n + 1 + j) (by omega)]
      show _ = some (vp_cell (Y.G.cA 0) (L, Sum.inl _))
      rw [show Y.B + (n + 1 + j) = Y.B + n + 1 + j by omega, hin j (by omega), vp_cell_i, hc0]
      exact congrArg some (arrV_new comp L (.int 0))) hold (by omega)) (hS.grew (by rw [f1]; omega) (fun q hq => hold q (by omega))) hT hL (stp okv2 (st2 hst).2.2) _ rfl X1
  refine ⟨t, step t ?_, b1⟩
  have e9 : cv Y.G.ad (2, (n : Int)) = .ref T.heap.size := by
    show Value.ref (Y.G.ad n) = _
    rw [ha n (by omega), hTT, hH]
  rw [List.map_cons, e9] at a1
  exact a1
theorem b_callN {N2 mc2 ms2 c : Nat} {Q2 : Mem → Prop} {st0 : List AV} (hC : ConB (Y.G, Y.B, mX4_init, N2, mc2, ms2, Q2) [(2, (c : Int))] n mem) (hY : Y.M.1.cls = "HallMinutes") (hd : decode Y.M.2.1 pc = .ok (.invokespecial 18, 3)) (hcd : Cond.code yX4_init cX4_init 1 none ∈ wtb) (hni : Cond.initialized "HallMinutes$Rule" ∈ wtb) (him : Cond.instanceMethod yX4_init ∈ wtb) (hf1 : 2 ≤ Y.M.2.2.2.2.1) (hf2 : 40 ≤ Y.M.2.2.2.2.2) (h0 : (2, (c : Int)) :: st = st0) (hc : Nat.ble (st.map cv_cat).sum 8 = true) (h1 : 1 ≤ n) (hN : N2 = n + mc2) (hcs : cs + mc2 ≤ Y.mc) (hss : sl + ms2 ≤ Y.ms)
    (kk : ∀ mem' : Mem, Q2 mem' → Bv Y N2 (cs + mc2) (sl + ms2) (pc + 3) lo st mem') : Bv Y n cs sl pc lo st0 mem := by
  subst h0
  intro p e s m args below meth c' H locs ls C hI hW hS hT hL hst
  have hst' : ∀ v ∈ st, okv v := fun v hv => hst v (List.mem_cons_of_mem _ hv)
  have hokA : ∀ v ∈ [((2, (c : Int)) : AV)], okv v := fun v hv => by
    rcases List.mem_cons.mp hv with rfl | h
    · exact okv2
    · cases h
  refine W_sz (fun hz => ?_)
  have hlow := hW.low h1
  have hI2 := hI.2
  have hH : H.size = Y.B + n := by omega
  refine b_after (M2 := mX4_init) (a := [Value.ref (Y.G.ad c)].toArray) C hI hW hS hT hL hst' hN ?_ kk
  have hts := C.2.2.2.2.2.1
  have hown : s.vm.findClass "HallMinutes" = some m.cls := by rw [← hY]; exact C.2.2.2.2.1
  refine va_runIN (As := []) (b := Y.G.ad c) (bytes := cX4_init) (maxL := 1) (n := 0) (host := "HallMinutes") (own := "HallMinutes") (Ts := wds Y.M) ⟨C.1, C.2.1, C.2.2.2.1, hown, hts⟩ (hC hokA) ⟨va_cnB 0 hts (wds_good hcd) rfl rfl rfl hT.2.2.1 (hts _ (List.mem_cons_of_mem _ hni)) plain4 ⟨hf1, hf2⟩, rfl, hts _ (List.mem_cons_of_mem _ him)⟩ ⟨pcB_blind, ?_⟩ rfl rfl hL.1 rfl (lv_room (by rw [cats]; exact Nat.le_of_ble_eq_true hc)) hd ⟨hcs, hss⟩
  intro U hU hWm
  exact ⟨rfl, ⟨by rw [hU]; exact hW.moved hWm.alike, by rw [hU]; exact hH⟩, by rw [hU]; exact (hT.kept hS.2.1).moved hWm⟩
end BMulti
