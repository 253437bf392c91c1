section MKit
variable {G : Gm} {M : Mt} {Q : Option AV → Mem → Prop} {pc : Nat} {lo st : List AV} {mem : Mem}
theorem Ev.to {lo' st' : List AV} {mem' : Mem} (h : Ev G M Q pc lo' st' mem') (hl : lo = lo') (hs : st = st') (hm : mem = mem') : Ev G M Q pc lo st mem := by subst hl; subst hs; subst hm; exact h
def setU (lo : List AV) (ks : List Nat) : List AV := ks.foldl (fun l k => l.set k (3, 0)) lo
theorem setU_get (ks : List Nat) : ∀ (lo : List AV) (i : Nat) (v : AV), (setU lo ks)[i]? = some v → v.1 ≠ 3 → lo[i]? = some v := by
  induction ks with
  | nil => intro lo i v h _; exact h
  | cons k ks ih =>
    intro lo i v h h3
    have h2 := ih (lo.set k (3, 0)) i v h h3
    rw [List.getElem?_set] at h2
    split at h2
    · split at h2
      · cases h2; exact absurd rfl h3
      · cases h2
    · exact h2
theorem setU_len (ks : List Nat) : ∀ lo : List AV, (setU lo ks).length = lo.length := by
  induction ks with
  | nil => intro lo; rfl
  | cons k ks ih => intro lo; exact (ih _).trans (List.length_set)
/-- some locals are forgotten -/
theorem Ev.fgt (ks : List Nat) (h : Ev G M Q pc (setU lo ks) st mem) : Ev G M Q pc lo st mem := by
  intro p e s m args below meth c H locs ls C hW hS hT hL hst
  exact h p e s m args below meth c H locs ls C hW hS hT ⟨hL.1, hL.2.1, by rw [setU_len]; exact hL.2.2.1, fun i v hi h3 => hL.2.2.2 i v (setU_get ks lo i v hi h3) h3⟩ hst
theorem Con.mono {as : List AV} {Q' : Option AV → Mem → Prop} (h : Con G M as mem Q) (hq : ∀ r m', Q r m' → Q' r m') : Con G M as mem Q' := by
  intro hok p e ha hc hk s m args below hf happ hP hK
  obtain ⟨t, o, h1, h2, h3, h4, h5⟩ := h hok p e ha hc hk s m args below hf happ hP hK
  obtain ⟨⟨r, mem', a1, a2, a3, a4⟩, a5⟩ := h4
  exact ⟨t, o, h1, h2, h3, ⟨⟨r, mem', a1, a2, hq _ _ a3, a4⟩, a5⟩, h5⟩
theorem e_callVr {M2 : Mt} {v : AV} {mem2 : Mem} {ix c ci n : Nat} {ks : List Int} {as st0 : List AV} (hC : Con G M2 ((2, (c : Int)) :: as) mem (fun r m' => r = some v ∧ m' = mem2)) (hd : decode M.2.1 pc = .ok (.invokevirtual ix, 3)) (hm : MLV M.1.cls ix M M2 n) (hn : as.length = n) (hs : shp c = .inl (ci, ks)) (hq : (classes[ci]?).map (fun q => q.1) = some M2.1.cls) (h0 : as.reverse ++ (2, (c : Int)) :: st = st0) (hc : Nat.ble (st.map cv_cat).sum 8 = true)
    (kk : Ev G M Q (pc + 3) lo (v :: st) mem2) : Ev G M Q pc lo st0 mem := e_callV hC hd hm hn hs hq h0 hc (fun r m' h => by obtain ⟨rfl, rfl⟩ := h; exact kk)
theorem e_callVv {M2 : Mt} {mem2 : Mem} {ix c ci n : Nat} {ks : List Int} {as st0 : List AV} (hC : Con G M2 ((2, (c : Int)) :: as) mem (fun r m' => r = none ∧ m' = mem2)) (hd : decode M.2.1 pc = .ok (.invokevirtual ix, 3)) (hm : MLV M.1.cls ix M M2 n) (hn : as.length = n) (hs : shp c = .inl (ci, ks)) (hq : (classes[ci]?).map (fun q => q.1) = some M2.1.cls) (h0 : as.reverse ++ (2, (c : Int)) :: st = st0) (hc : Nat.ble (st.map cv_cat).sum 8 = true)
    (kk : Ev G M Q (pc + 3) lo st mem2) : Ev G M Q pc lo st0 mem := e_callV hC hd hm hn hs hq h0 hc (fun r m' h => by obtain ⟨rfl, rfl⟩ := h; exact kk)
theorem e_callSr {M2 : Mt} {v : AV} {mem2 : Mem} {ix n : Nat} {as st0 : List AV} (hC : Con G M2 as mem (fun r m' => r = some v ∧ m' = mem2)) (hd : decode M.2.1 pc = .ok (.invokestatic ix, 3)) (hm : MLS M.1.cls ix M M2 n) (hn : as.length = n) (h0 : as.reverse ++ st = st0) (hc : Nat.ble (st.map cv_cat).sum 8 = true)
    (kk : Ev G M Q (pc + 3) lo (v :: st) mem2) : Ev G M Q pc lo st0 mem := e_callS hC hd hm hn h0 hc (fun r m' h => by obtain ⟨rfl, rfl⟩ := h; exact kk)
theorem e_ialdv {c n b : Nat} {i v : Int} (hd : decode M.2.1 pc = .ok (.iaload, 1)) (hs : shp c = .inr (0, n, b)) (hi : 0 ≤ i ∧ i < n) (hv : mem c i.toNat = v) (kk : Ev G M Q (pc + 1) lo ((0, v) :: st) mem) : Ev G M Q pc lo ((0, i) :: (2, (c : Int)) :: st) mem := by subst hv; exact e_iald hd hs hi kk
theorem e_zaldv {c n b : Nat} {i v : Int} (hd : decode M.2.1 pc = .ok (.baload, 1)) (hs : shp c = .inr (1, n, b)) (hi : 0 ≤ i ∧ i < n) (hv : mem c i.toNat = v) (kk : Ev G M Q (pc + 1) lo ((0, v) :: st) mem) : Ev G M Q pc lo ((0, i) :: (2, (c : Int)) :: st) mem := by subst hv; exact e_zald hd hs hi kk
theorem e_laldv {c n b : Nat} {i v : Int} (hd : decode M.2.1 pc = .ok (.laload, 1)) (hs : shp c = .inr (2, n, b)) (hi : 0 ≤ i ∧ i < n) (hv : mem c i.toNat = v) (kk : Ev G M Q (pc + 1) lo ((1, v) :: st) mem) : Ev G M Q pc lo ((0, i) :: (2, (c : Int)) :: st) mem := by subst hv; exact e_lald hd hs hi kk
theorem e_getiv {ix c ci j : Nat} {ks : List Int} {k v : Int} (hd : decode M.2.1 pc = .ok (.getfield ix, 3)) (hf : FL M.1.cls ix ci j) (hs : shp c = .inl (ci, ks)) (hk : ks[j]? = some k) (hn : k < 0) (hv : mem c j = v) (kk : Ev G M Q (pc + 3) lo ((0, v) :: st) mem) : Ev G M Q pc lo ((2, (c : Int)) :: st) mem := by subst hv; exact e_geti hd hf hs hk hn kk
/-- a field that may be written: class, place, whether boolean -/
def PW (ci j : Nat) (z : Bool) : Prop := ∀ q : vw_C, classes[ci]? = some q → (q.2.1 j).2.2.2 = false ∧ (if z then tyOf ci j = .boolean else tyOf ci j = .int)
theorem e_putI {ix c ci j : Nat} {ks : List Int} {k v : Int} {mem2 : Mem} (hd : decode M.2.1 pc = .ok (.putfield ix, 3)) (hf : FL M.1.cls ix ci j) (hs : shp c = .inl (ci, ks)) (hk : ks[j]? = some k) (hn : k < 0) (hm : PW ci j false) (h2 : mset mem c j v = mem2) (kk : Ev G M Q (pc + 3) lo st mem2) : Ev G M Q pc lo ((0, v) :: (2, (c : Int)) :: st) mem := by
  subst h2
  exact e_puti hd hf hs hk hn (fun q hq => ⟨(hm q hq).1, Or.inl (hm q hq).2⟩) kk
theorem e_putZ {ix c ci j : Nat} {ks : List Int} {k v : Int} {mem2 : Mem} (hd : decode M.2.1 pc = .ok (.putfield ix, 3)) (hf : FL M.1.cls ix ci j) (hs : shp c = .inl (ci, ks)) (hk : ks[j]? = some k) (hn : k < 0) (hm : PW ci j true) (hz : v = 0 ∨ v = 1) (h2 : mset mem c j v = mem2) (kk : Ev G M Q (pc + 3) lo st mem2) : Ev G M Q pc lo ((0, v) :: (2, (c : Int)) :: st) mem := by
  subst h2
  exact e_puti hd hf hs hk hn (fun q hq => ⟨(hm q hq).1, Or.inr ⟨(hm q hq).2, hz⟩⟩) kk
theorem e_iastm {c n b : Nat} {i v : Int} {mem2 : Mem} (hd : decode M.2.1 pc = .ok (.iastore, 1)) (hs : shp c = .inr (0, n, b)) (hi : 0 ≤ i ∧ i < n) (h2 : mset mem c i.toNat v = mem2) (kk : Ev G M Q (pc + 1) lo st mem2) : Ev G M Q pc lo ((0, v) :: (0, i) :: (2, (c : Int)) :: st) mem := by subst h2; exact e_iast hd hs hi kk
theorem e_zastm {c n b : Nat} {i v : Int} {mem2 : Mem} (hd : decode M.2.1 pc = .ok (.bastore, 1)) (hs : shp c = .inr (1, n, b)) (hi : 0 ≤ i ∧ i < n) (hz : v = 0 ∨ v = 1) (h2 : mset mem c i.toNat v = mem2) (kk : Ev G M Q (pc + 1) lo st mem2) : Ev G M Q pc lo ((0, v) :: (0, i) :: (2, (c : Int)) :: st) mem := by subst h2; exact e_zast hd hs hi hz kk
theorem e_lastm {c n b : Nat} {i v : Int} {mem2 : Mem} (hd : decode M.2.1 pc = .ok (.lastore, 1)) (hs : shp c = .inr (2, n, b)) (hi : 0 ≤ i ∧ i < n) (h2 : mset mem c i.toNat v = mem2) (kk : Ev G M Q (pc + 1) lo st mem2) : Ev G M Q pc lo ((1, v) :: (0, i) :: (2, (c : Int)) :: st) mem := by subst h2; exact e_last hd hs hi kk
/-- an answer given by its value -/
theorem e_irv {z z' : Int} (hd : decode M.2.1 pc = .ok (.ireturn, 1)) (hr : M.2.2.2.1 = some .int) (hq : Q (some (0, z)) mem) (hz : z' = z) : Ev G M Q pc lo [(0, z')] mem := by subst hz; exact e_iret hd hr hq
end MKit
theorem s_0 : shp 0 = .inl (7, [1, 10, 16, 25, 34, 37, 40, 41]) := rfl
theorem s_1 : shp 1 = .inl (0, [-1, 2, 3, 4]) := rfl
theorem s_2 : shp 2 = .inr (0, 8, 0) := rfl
theorem s_3 : shp 3 = .inr (0, 8, 0) := rfl
theorem s_4 : shp 4 = .inr (3, 5, 5) := rfl
theorem s_5 : shp 5 = .inr (0, 8, 0) := rfl
theorem s_6 : shp 6 = .inr (0, 8, 0) := rfl
theorem s_7 : shp 7 = .inr (0, 8, 0) := rfl
theorem s_8 : shp 8 = .inr (0, 8, 0) := rfl
theorem s_9 : shp 9 = .inr (0, 8, 0) := rfl
theorem s_10 : shp 10 = .inl (4, [-1, -1, 11, -1, -1, 12, 13, 14, 15, -1, -2, -1, -1]) := rfl
theorem s_11 : shp 11 = .inr (0, 40, 0) := rfl
theorem s_12 : shp 12 = .inr (0, 20, 0) := rfl
theorem s_13 : shp 13 = .inr (1, 20, 0) := rfl
theorem s_14 : shp 14 = .inr (0, 20, 0) := rfl
theorem s_15 : shp 15 = .inr (0, 20, 0) := rfl
theorem s_16 : shp 16 = .inl (1, [17, 18, 19, 20, -1, -1, 1, 10, 21, -1, 22, -1, 23, -1, 24]) := rfl
theorem s_17 : shp 17 = .inr (0, 3, 0) := rfl
theorem s_18 : shp 18 = .inr (0, 8, 0) := rfl
theorem s_19 : shp 19 = .inr (0, 8, 0) := rfl
theorem s_20 : shp 20 = .inr (0, 8, 0) := rfl
theorem s_21 : shp 21 = .inr (0, 8, 0) := rfl
theorem s_22 : shp 22 = .inr (0, 8, 0) := rfl
theorem s_23 : shp 23 = .inr (0, 8, 0) := rfl
theorem s_24 : shp 24 = .inr (0, 8, 0) := rfl
theorem s_25 : shp 25 = .inl (1, [26, 27, 28, 29, -1, -1, 1, 10, 30, -1, 31, -1, 32, -1, 33]) := rfl
theorem s_26 : shp 26 = .inr (0, 3, 0) := rfl
theorem s_27 : shp 27 = .inr (0, 8, 0) := rfl
theorem s_28 : shp 28 = .inr (0, 8, 0) := rfl
theorem s_29 : shp 29 = .inr (0, 8, 0) := rfl
theorem s_30 : shp 30 = .inr (0, 8, 0) := rfl
theorem s_31 : shp 31 = .inr (0, 8, 0) := rfl
theorem s_32 : shp 32 = .inr (0, 8, 0) := rfl
theorem s_33 : shp 33 = .inr (0, 8, 0) := rfl
theorem s_34 : shp 34 = .inl (2, [25, 35, -1, 36]) := rfl
theorem s_35 : shp 35 = .inr (0, 13, 0) := rfl
theorem s_36 : shp 36 = .inr (0, 8, 0) := rfl
theorem s_37 : shp 37 = .inl (6, [38, -1, -1, 25, 39]) := rfl
theorem s_38 : shp 38 = .inr (0, 61, 0) := rfl
theorem s_39 : shp 39 = .inr (2, 61, 0) := rfl
theorem s_40 : shp 40 = .inl (3, [1, 25]) := rfl
theorem s_41 : shp 41 = .inl (5, [42, 47, 48, -1]) := rfl
theorem s_42 : shp 42 = .inr (3, 4, 43) := rfl
theorem s_43 : shp 43 = .inr (0, 64, 0) := rfl
theorem s_44 : shp 44 = .inr (0, 64, 0) := rfl
theorem s_45 : shp 45 = .inr (0, 64, 0) := rfl
theorem s_46 : shp 46 = .inr (0, 64, 0) := rfl
theorem s_47 : shp 47 = .inr (0, 4, 0) := rfl
theorem s_48 : shp 48 = .inr (0, 4, 0) := rfl
theorem s_49 : shp 49 = .inl (8, [-1, 50, 51, 52, 53, 54, 55, 56, 57, -1, -1, -1, -1, 58, -2, -1, -1, -1, 59, 60, 61, 62, -1, -1, -1, -1, -1, -1, 63, 64, -1, -1, 65, 66, 67, -1, -1, 68, -1, 69, 70, 71, -1, 72, 73, 74, 75, 76, 77, -1]) := rfl
theorem s_50 : shp 50 = .inr (0, 8, 0) := rfl
theorem s_51 : shp 51 = .inr (0, 8, 0) := rfl
theorem s_52 : shp 52 = .inr (0, 8, 0) := rfl
theorem s_53 : shp 53 = .inr (0, 8, 0) := rfl
theorem s_54 : shp 54 = .inr (0, 8, 0) := rfl
theorem s_55 : shp 55 = .inr (0, 8, 0) := rfl
theorem s_56 : shp 56 = .inr (0, 8, 0) := rfl
theorem s_57 : shp 57 = .inr (0, 8, 0) := rfl
theorem s_58 : shp 58 = .inr (0, 40, 0) := rfl
theorem s_59 : shp 59 = .inr (0, 40, 0) := rfl
theorem s_60 : shp 60 = .inr (0, 40, 0) := rfl
theorem s_61 : shp 61 = .inr (1, 40, 0) := rfl
theorem s_62 : shp 62 = .inr (0, 8, 0) := rfl
theorem s_63 : shp 63 = .inr (0, 8, 0) := rfl
theorem s_64 : shp 64 = .inr (0, 8, 0) := rfl
theorem s_65 : shp 65 = .inr (0, 8, 0) := rfl
theorem s_66 : shp 66 = .inr (0, 6591, 0) := rfl
theorem s_67 : shp 67 = .inr (0, 2197, 0) := rfl
theorem s_68 : shp 68 = .inr (0, 3, 0) := rfl
theorem s_69 : shp 69 = .inr (0, 488, 0) := rfl
theorem s_70 : shp 70 = .inr (0, 61, 0) := rfl
theorem s_71 : shp 71 = .inr (0, 8, 0) := rfl
theorem s_72 : shp 72 = .inr (0, 8, 0) := rfl
theorem s_73 : shp 73 = .inr (1, 4, 0) := rfl
theorem s_74 : shp 74 = .inr (0, 4, 0) := rfl
theorem s_75 : shp 75 = .inr (0, 4, 0) := rfl
theorem s_76 : shp 76 = .inr (0, 256, 0) := rfl
theorem s_77 : shp 77 = .inr (0, 64, 0) := rfl
theorem pw_0_0 : PW 0 0 false := fun q h => by cases h; exact ⟨rfl, rfl⟩
theorem pw_1_4 : PW 1 4 false := fun q h => by cases h; exact ⟨rfl, rfl⟩
theorem pw_1_5 : PW 1 5 false := fun q h => by cases h; exact ⟨rfl, rfl⟩
theorem pw_1_9 : PW 1 9 false := fun q h => by cases h; exact ⟨rfl, rfl⟩
theorem pw_1_11 : PW 1 11 false := fun q h => by cases h; exact ⟨rfl, rfl⟩
theorem pw_1_13 : PW 1 13 false := fun q h => by cases h; exact ⟨rfl, rfl⟩
theorem pw_2_2 : PW 2 2 false := fun q h => by cases h; exact ⟨rfl, rfl⟩
theorem pw_4_0 : PW 4 0 false := fun q h => by cases h; exact ⟨rfl, rfl⟩
theorem pw_4_1 : PW 4 1 false := fun q h => by cases h; exact ⟨rfl, rfl⟩
theorem pw_4_3 : PW 4 3 false := fun q h => by cases h; exact ⟨rfl, rfl⟩
theorem pw_4_4 : PW 4 4 false := fun q h => by cases h; exact ⟨rfl, rfl⟩
theorem pw_4_9 : PW 4 9 false := fun q h => by cases h; exact ⟨rfl, rfl⟩
theorem pw_4_10 : PW 4 10 true := fun q h => by cases h; exact ⟨rfl, rfl⟩
theorem pw_4_11 : PW 4 11 false := fun q h => by cases h; exact ⟨rfl, rfl⟩
theorem pw_4_12 : PW 4 12 false := fun q h => by cases h; exact ⟨rfl, rfl⟩
theorem pw_5_3 : PW 5 3 false := fun q h => by cases h; exact ⟨rfl, rfl⟩
theorem pw_6_1 : PW 6 1 false := fun q h => by cases h; exact ⟨rfl, rfl⟩
theorem pw_6_2 : PW 6 2 false := fun q h => by cases h; exact ⟨rfl, rfl⟩
theorem pw_8_0 : PW 8 0 false := fun q h => by cases h; exact ⟨rfl, rfl⟩
theorem pw_8_9 : PW 8 9 false := fun q h => by cases h; exact ⟨rfl, rfl⟩
theorem pw_8_10 : PW 8 10 false := fun q h => by cases h; exact ⟨rfl, rfl⟩
theorem pw_8_11 : PW 8 11 false := fun q h => by cases h; exact ⟨rfl, rfl⟩
theorem pw_8_12 : PW 8 12 false := fun q h => by cases h; exact ⟨rfl, rfl⟩
theorem pw_8_14 : PW 8 14 true := fun q h => by cases h; exact ⟨rfl, rfl⟩
theorem pw_8_15 : PW 8 15 false := fun q h => by cases h; exact ⟨rfl, rfl⟩
theorem pw_8_16 : PW 8 16 false := fun q h => by cases h; exact ⟨rfl, rfl⟩
theorem pw_8_17 : PW 8 17 false := fun q h => by cases h; exact ⟨rfl, rfl⟩
theorem pw_8_22 : PW 8 22 false := fun q h => by cases h; exact ⟨rfl, rfl⟩
theorem pw_8_23 : PW 8 23 false := fun q h => by cases h; exact ⟨rfl, rfl⟩
theorem pw_8_24 : PW 8 24 false := fun q h => by cases h; exact ⟨rfl, rfl⟩
theorem pw_8_25 : PW 8 25 false := fun q h => by cases h; exact ⟨rfl, rfl⟩
theorem pw_8_26 : PW 8 26 false := fun q h => by cases h; exact ⟨rfl, rfl⟩
theorem pw_8_27 : PW 8 27 false := fun q h => by cases h; exact ⟨rfl, rfl⟩
theorem pw_8_30 : PW 8 30 false := fun q h => by cases h; exact ⟨rfl, rfl⟩
theorem pw_8_31 : PW 8 31 false := fun q h => by cases h; exact ⟨rfl, rfl⟩
theorem pw_8_35 : PW 8 35 false := fun q h => by cases h; exact ⟨rfl, rfl⟩
theorem pw_8_36 : PW 8 36 false := fun q h => by cases h; exact ⟨rfl, rfl⟩
theorem pw_8_38 : PW 8 38 false := fun q h => by cases h; exact ⟨rfl, rfl⟩
theorem pw_8_42 : PW 8 42 false := fun q h => by cases h; exact ⟨rfl, rfl⟩
theorem pw_8_49 : PW 8 49 false := fun q h => by cases h; exact ⟨rfl, rfl⟩
theorem cn_0 : (classes[0]?).map (fun q => q.1) = some RX0 := rfl
theorem cn_1 : (classes[1]?).map (fun q => q.1) = some RX1 := rfl
theorem cn_2 : (classes[2]?).map (fun q => q.1) = some RX2 := rfl
theorem cn_3 : (classes[3]?).map (fun q => q.1) = some RX3 := rfl
theorem cn_4 : (classes[4]?).map (fun q => q.1) = some RX4 := rfl
theorem cn_5 : (classes[5]?).map (fun q => q.1) = some RX5 := rfl
theorem cn_6 : (classes[6]?).map (fun q => q.1) = some RX6 := rfl
theorem cn_7 : (classes[7]?).map (fun q => q.1) = some RX7 := rfl
theorem cn_8 : (classes[8]?).map (fun q => q.1) = some RX8 := rfl
