def E3 (a b : Nat → Int) : Prop := a 0 = b 0 ∧ a 1 = b 1 ∧ a 2 = b 2
def EP (kd a b : Nat → Int) : Prop := ∀ c, c < 8 → kd c = 0 → a c = b c
theorem E3.rf {a : Nat → Int} : E3 a a := ⟨rfl, rfl, rfl⟩
theorem E8.ep {kd a b : Nat → Int} (h : E8 a b) : EP kd a b := fun c hc _ => h c hc
theorem EP.rf {kd a : Nat → Int} : EP kd a a := fun _ _ _ => rfl
theorem EP.sy {kd a b : Nat → Int} (h : EP kd a b) : EP kd b a := fun c hc hk => (h c hc hk).symm
theorem EP.tr {kd a b d : Nat → Int} (h : EP kd a b) (h2 : EP kd b d) : EP kd a d := fun c hc hk => (h c hc hk).trans (h2 c hc hk)
theorem EP.us {kd a b : Nat → Int} (h : EP kd a b) (o : Nat) (x : Int) : EP kd (uset a o x) (uset b o x) := fun c hc hk => by
  unfold uset
  split
  · rfl
  · exact h c hc hk
theorem EP.kd {kd kd' a b : Nat → Int} (e : E8 kd kd') (h : EP kd a b) : EP kd' a b := fun c hc hk => h c hc ((e c hc).trans hk)
theorem comeF_cg {fm fm' : Nat → Int} {K K' : Nat → Bool} {lag seen : Nat → Int} (hf : E8 fm fm') (hK : ∀ c, c < 8 → K c = K' c) : comeF fm K lag seen = comeF fm' K' lag seen := by
  unfold comeF
  congr 1
  funext wh
  apply propext
  constructor
  · intro q c hc
    rw [← hf c hc, ← hK c hc]; exact q c hc
  · intro q c hc
    rw [hf c hc, hK c hc]; exact q c hc
theorem isK_cg {kd kd' : Nat → Int} (hk : E8 kd kd') (aw op : Int) {c : Nat} (hc : c < 8) : isK kd aw op c = isK kd' aw op c := by unfold isK; rw [hk c hc]
theorem fmR_cg {kd kd' am am' : Nat → Int} (hk : E8 kd kd') (ha : EP kd am am') (told late aw : Int) (dl : Nat → Int) : E8 (fmR kd am told late aw dl) (fmR kd' am' told late aw dl) := fun c hc => by
  unfold fmR isF firmV
  rw [← hk c hc]
  by_cases q : kd c = 0
  · rw [ha c hc q]
  · rw [if_neg q, if_neg q]
theorem whF_cg {kd kd' am am' : Nat → Int} (hk : E8 kd kd') (ha : EP kd am am') (told late aw : Int) (dl lag seen : Nat → Int) : whF kd am told late aw dl lag seen = whF kd' am' told late aw dl lag seen := comeF_cg (fmR_cg hk ha told late aw dl) (fun _ hc => isK_cg hk aw (-1) hc)
def SE (A B : Mem) : Prop := (B 10 4 = A 10 4 ∧ B 12 = A 12 ∧ B 13 = A 13 ∧ B 14 = A 14 ∧ B 15 = A 15) ∧ B 5 = A 5 ∧ B 6 = A 6 ∧ B 7 = A 7 ∧ B 8 = A 8 ∧ B 9 = A 9 ∧ B 2 = A 2 ∧ B 3 = A 3
theorem SE.rf {A : Mem} : SE A A := ⟨⟨rfl, rfl, rfl, rfl, rfl⟩, rfl, rfl, rfl, rfl, rfl, rfl, rfl⟩
theorem SE.of {S : Nat → Nat → Bool} {A B : Mem} (zf : Fr S A B) (h : ∀ c j, c < 16 → S c j = false) : SE A B :=
  ⟨⟨zf 10 4 (h 10 4 (by omega)), funext (fun j => zf 12 j (h 12 j (by omega))), funext (fun j => zf 13 j (h 13 j (by omega))), funext (fun j => zf 14 j (h 14 j (by omega))), funext (fun j => zf 15 j (h 15 j (by omega)))⟩, funext (fun j => zf 5 j (h 5 j (by omega))), funext (fun j => zf 6 j (h 6 j (by omega))), funext (fun j => zf 7 j (h 7 j (by omega))), funext (fun j => zf 8 j (h 8 j (by omega))), funext (fun j => zf 9 j (h 9 j (by omega))), funext (fun j => zf 2 j (h 2 j (by omega))), funext (fun j => zf 3 j (h 3 j (by omega)))⟩
theorem SE.q {A B : Mem} (zf : Fr scQ A B) : SE A B := SE.of zf (fun c j h => by unfold scQ; simp; omega)
theorem SE.tr {A B C : Mem} (h : SE A B) (h2 : SE B C) : SE A C := by
  obtain ⟨⟨a1, a2, a3, a4, a5⟩, a6, a7, a8, a9, a10, a11, a12⟩ := h
  obtain ⟨⟨b1, b2, b3, b4, b5⟩, b6, b7, b8, b9, b10, b11, b12⟩ := h2
  exact ⟨⟨b1.trans a1, b2.trans a2, b3.trans a3, b4.trans a4, b5.trans a5⟩, b6.trans a6, b7.trans a7, b8.trans a8, b9.trans a9, b10.trans a10, b11.trans a11, b12.trans a12⟩
theorem SE.co {A B : Mem} (h : SE A B) (hC : CoOk A) : CoOk B := by
  obtain ⟨_, a6, a7, a8, a9, a10, a11, a12⟩ := h
  unfold CoOk; rw [a6, a7, a8, a9, a10, a11, a12]; exact hC
theorem SE.ru {A B : Mem} (h : SE A B) (hR : RuOk A) : RuOk B := RuOk.mv h.1.1 h.1.2.1 h.1.2.2.1 h.1.2.2.2.1 h.1.2.2.2.2 hR
noncomputable def stT (A : Mem) (tm kd am : Nat → Int) (late aw : Int) : Int := stF A kd am (tm 0) late aw (A 9) (A 2) (A 3)
noncomputable def whT (A : Mem) (tm kd am : Nat → Int) (late aw : Int) : Nat → Int := whF kd am (tm 0) late aw (A 9) (A 2) (A 3)
section CG
variable {A B : Mem} {tm tm' kd kd' am am' : Nat → Int} {late aw : Int}
theorem whT_cg (hS : SE A B) (ht : tm 0 = tm' 0) (hk : E8 kd kd') (ha : EP kd am am') : whT B tm' kd' am' late aw = whT A tm kd am late aw := by
  unfold whT
  rw [← ht, hS.2.2.2.2.2.1, hS.2.2.2.2.2.2.1, hS.2.2.2.2.2.2.2]
  exact (whF_cg hk ha _ _ _ _ _ _).symm
theorem stT_cg (hS : SE A B) (ht : tm 0 = tm' 0) (hk : E8 kd kd') (ha : EP kd am am') : stT B tm' kd' am' late aw = stT A tm kd am late aw := by
  have hw := whT_cg (late := late) (aw := aw) hS ht hk ha
  unfold whT at hw
  unfold stT stF
  rw [hw, ← ht]
  congr 1
  funext t
  exact propext (RB_mv hS.1.1 hS.1.2.1 hS.1.2.2.1 hS.1.2.2.2.1 hS.1.2.2.2.2)
theorem prA_st (A : Mem) (tm kd am : Nat → Int) (late aw : Int) (o j : Nat) : prA A tm kd am late aw o j = priceV (A 5) (A 6) (A 7) (tm 0) (tm 1) (tm 2) o (j : Int) (stT A tm kd (uset am o (j : Int)) late aw) := rfl
theorem prA_cg (hS : SE A B) (ht : E3 tm tm') (hk : E8 kd kd') (ha : EP kd am am') : prA B tm' kd' am' late aw = prA A tm kd am late aw := by
  funext o j
  rw [prA_st, prA_st, stT_cg hS ht.1 hk (ha.us o _), hS.2.1, hS.2.2.1, hS.2.2.2.1, ht.1, ht.2.1, ht.2.2]
noncomputable def bfT (A : Mem) (tm kd : Nat → Int) (late aw : Int) (down : Bool) (am : Nat → Int) (c : Nat) : Nat := bestN (prA A tm kd am late aw c) down
theorem bfT_cg {down : Bool} (hS : SE A B) (ht : E3 tm tm') (hk : E8 kd kd') (ha : EP kd am am') : bfT B tm' kd' late aw down am' = bfT A tm kd late aw down am := by
  funext c
  unfold bfT
  rw [prA_cg hS ht hk ha]
theorem togA_cg (hS : SE A B) (ht : E3 tm tm') (hk : E8 kd kd') (ha : EP kd am am') : togA B tm' kd' am' late aw = togA A tm kd am late aw := by
  have h1 := stT_cg (late := late) (aw := aw) hS ht.1 hk ha
  have h2 := whT_cg (late := late) (aw := aw) hS ht.1 hk ha
  unfold stT at h1
  unfold whT at h2
  unfold togA
  rw [h1, h2, hS.2.1, hS.2.2.1, hS.2.2.2.1, ht.1, ht.2.1, ht.2.2]
  exact sumTo_congr (fun c hc => by rw [hk c hc])
theorem rnd_cg {bf bf' : (Nat → Int) → Nat → Nat} (hb : ∀ a b, EP kd a b → bf a = bf' b) (hk : E8 kd kd') (h : EP kd am am') : ∀ k : Nat, k ≤ 8 → (rndTo bf kd am k).1 = (rndTo bf' kd' am' k).1 ∧ EP kd (rndTo bf kd am k).2 (rndTo bf' kd' am' k).2
  | 0, _ => ⟨rfl, h⟩
  | k + 1, hk8 => by
    have ih := rnd_cg hb hk h k (by omega)
    have e := hb _ _ ih.2
    rw [rndTo_s, rndTo_s, ← hk k (by omega)]
    by_cases q : kd k = 0
    · rw [if_pos q, if_pos q, ← e, ← ih.2 k (by omega) q, ← ih.1]
      exact ⟨rfl, ih.2.us k _⟩
    · rw [if_neg q, if_neg q]; exact ih
theorem clm_cg {bf bf' : (Nat → Int) → Nat → Nat} (hb : ∀ a b, EP kd a b → bf a = bf' b) (hk : E8 kd kd') : ∀ (n : Nat) (am am' : Nat → Int), EP kd am am' → (clm bf kd n am = none ∧ clm bf' kd' n am' = none) ∨ ∃ x y, clm bf kd n am = some x ∧ clm bf' kd' n am' = some y ∧ EP kd x y
  | 0, _, _, _ => Or.inl ⟨rfl, rfl⟩
  | n + 1, am, am', h => by
    have e := rnd_cg hb hk h 8 (Nat.le_refl _)
    unfold clm
    rw [← e.1]
    by_cases q : (rndTo bf kd am 8).1 = true
    · rw [if_pos q, if_pos q]; exact clm_cg hb hk n _ _ e.2
    · rw [if_neg q, if_neg q]; exact Or.inr ⟨_, _, rfl, rfl, e.2⟩
/-- where climbing comes to rest -/
noncomputable def cliA (A : Mem) (tm kd : Nat → Int) (down : Bool) : Option (Nat → Int) := clm (bfT A tm kd 0 0 down) kd 20 (fun _ => if down then 60 else 0)
theorem cli_cg {down : Bool} (hS : SE A B) (ht : E3 tm tm') (hk : E8 kd kd') (ha : EP kd (fun _ => if down then 60 else 0) am') : (cliA A tm kd down = none ∧ clm (bfT B tm' kd' 0 0 down) kd' 20 am' = none) ∨ ∃ x y, cliA A tm kd down = some x ∧ clm (bfT B tm' kd' 0 0 down) kd' 20 am' = some y ∧ EP kd x y :=
  clm_cg (fun a b h => (bfT_cg hS ht hk h).symm) hk 20 _ _ ha
theorem cl0_ep {dv : Int} (hk : E8 kd kd') : EP kd (fun _ => dv) (cl0 kd' am dv 8) := fun c hc h => by
  unfold cl0; rw [if_pos ⟨hc, (hk c hc).symm.trans h⟩]
/-- the aims of week w -/
noncomputable def wkT (A : Mem) (tm kd am : Nat → Int) : Nat → Nat → Int
  | 0 => am
  | w + 1 => nxA (bfT A tm kd 0 0 false) kd (wkT A tm kd am w)
theorem nxA_ep {bf bf' : (Nat → Int) → Nat → Nat} (hb : bf am = bf' am') (hk : E8 kd kd') : EP kd (nxA bf kd am) (nxA bf' kd' am') := fun c hc h => by
  unfold nxA; rw [if_pos ⟨hc, h⟩, if_pos ⟨hc, (hk c hc).symm.trans h⟩, hb]
theorem wkT_ep (hS : SE A B) (ht : E3 tm tm') (hk : E8 kd kd') (ha : EP kd am am') : ∀ w, EP kd (wkT A tm kd am w) (wkT B tm' kd' am' w)
  | 0 => ha
  | w + 1 => nxA_ep (bfT_cg hS ht hk (wkT_ep hS ht hk ha w)).symm hk
theorem wkT_np {c : Nat} (h : ¬ kd c = 0) : ∀ w, wkT A tm kd am w c = am c
  | 0 => rfl
  | w + 1 => by
    show nxA _ _ _ c = _
    unfold nxA
    rw [if_neg (fun q => h q.2)]; exact wkT_np h w
theorem wkT_8 {f g : Nat} : E8 (wkT A tm kd am f) (wkT A tm kd am g) ↔ EP kd (wkT A tm kd am f) (wkT A tm kd am g) := by
  constructor
  · exact fun h => h.ep
  · intro h c hc
    by_cases q : kd c = 0
    · exact h c hc q
    · rw [wkT_np q, wkT_np q]
theorem wkT_e8 (hS : SE A B) (ht : E3 tm tm') (hk : E8 kd kd') (ha : E8 am am') (w : Nat) : E8 (wkT A tm kd am w) (wkT B tm' kd' am' w) := fun c hc => by
  by_cases q : kd c = 0
  · exact wkT_ep hS ht hk ha.ep w c hc q
  · rw [wkT_np q, wkT_np (fun z => q ((hk c hc).trans z))]; exact ha c hc
theorem wkT_bd (h : ∀ c, c < 8 → 0 ≤ am c ∧ am c ≤ 60) : ∀ w : Nat, ∀ c, c < 8 → 0 ≤ wkT A tm kd am w c ∧ wkT A tm kd am w c ≤ 60
  | 0 => h
  | w + 1 => fun c hc => by
    have ih := wkT_bd h w c hc
    show 0 ≤ nxA _ _ _ c ∧ nxA _ _ _ c ≤ 60
    unfold nxA
    have := bestN_le (prA A tm kd (wkT A tm kd am w) 0 0 c) false
    split
    · unfold bfT; omega
    · exact ih
end CG
theorem wkA_T {mem : Mem} {am : Nat → Int} (hl : mem 25 4 = 0) (ha : mem 25 5 = 0) : ∀ w, wkA mem am w = wkT mem (mem 26) (mem 27) am w
  | 0 => rfl
  | w + 1 => by
    show nxA (bfA mem false) (mem 27) (wkA mem am w) = nxA _ _ (wkT mem (mem 26) (mem 27) am w)
    rw [wkA_T hl ha w]
    have : bfA mem false = bfT mem (mem 26) (mem 27) 0 0 false := by
      funext a c; unfold bfA bfT; rw [hl, ha]
    rw [this]
theorem NoRep.cg {X Y : Nat → Nat → Int} {N : Nat} (e : ∀ f g, E8 (X f) (X g) ↔ E8 (Y f) (Y g)) (h : NoRep X N) : NoRep Y N := fun g hg f hf q => h g hg f hf ((e f g).2 q)
theorem RepAt.cg {X Y : Nat → Nat → Int} {N f g : Nat} (e : ∀ f g, E8 (X f) (X g) ↔ E8 (Y f) (Y g)) (h : RepAt X N f g) : RepAt Y N f g := ⟨h.1, h.2.1, (e f g).1 h.2.2.1, h.2.2.2.1.cg e, fun f' hf q => h.2.2.2.2 f' hf ((e f' g).2 q)⟩
def RoundIs (X : Nat → Nat → Int) (what v : Int) : Prop := (NoRep X 61 ∧ v = -1) ∨ ∃ f g : Nat, RepAt X 61 f g ∧ v = if what = 0 then (f : Int) else (g : Int) - (f : Int)
theorem RepAt.one {X : Nat → Nat → Int} {N f g f' g' : Nat} (h : RepAt X N f g) (h' : RepAt X N f' g') : f = f' ∧ g = g' := by
  have hg : g = g' := by
    rcases Nat.lt_trichotomy g g' with q | q | q
    · exact absurd h.2.2.1 (h'.2.2.2.1 g q f h.1)
    · exact q
    · exact absurd h'.2.2.1 (h.2.2.2.1 g' q f' h'.1)
  subst hg
  refine ⟨?_, rfl⟩
  rcases Nat.lt_trichotomy f f' with q | q | q
  · exact absurd h.2.2.1 (h'.2.2.2.2 f q)
  · exact q
  · exact absurd h'.2.2.1 (h.2.2.2.2 f' q)
theorem RoundIs.one {X : Nat → Nat → Int} {what v v' : Int} (h : RoundIs X what v) (h' : RoundIs X what v') : v = v' := by
  rcases h with ⟨h1, rfl⟩ | ⟨f, g, h1, rfl⟩ <;> rcases h' with ⟨h2, rfl⟩ | ⟨f', g', h2, rfl⟩
  · rfl
  · exact absurd h2.2.2.1 (h1 g' h2.2.1 f' h2.1)
  · exact absurd h1.2.2.1 (h2 g h1.2.1 f h1.1)
  · obtain ⟨rfl, rfl⟩ := h1.one h2; rfl
noncomputable def roundF (X : Nat → Nat → Int) (what : Int) : Int := Classical.epsilon (fun v => RoundIs X what v)
theorem roundF_eq {X : Nat → Nat → Int} {what v : Int} (h : RoundIs X what v) : roundF X what = v := (Classical.epsilon_spec (p := fun v => RoundIs X what v) ⟨v, h⟩).one h
theorem RoundIs.cg {X Y : Nat → Nat → Int} {what v : Int} (e : ∀ f g, E8 (X f) (X g) ↔ E8 (Y f) (Y g)) (h : RoundIs X what v) : RoundIs Y what v := by
  rcases h with ⟨h1, h2⟩ | ⟨f, g, h1, h2⟩
  · exact Or.inl ⟨h1.cg e, h2⟩
  · exact Or.inr ⟨f, g, h1.cg e, h2⟩
theorem Becomes.se {A B : Mem} (h : Becomes A B) : SE A B := SE.of h.1 (fun c j q => by unfold scB; simp; omega)
theorem Becomes.e3 {A B : Mem} (h : Becomes A B) : E3 (A 17) (B 26) := ⟨(h.2.1 0 (by omega)).symm, (h.2.1 1 (by omega)).symm, (h.2.1 2 (by omega)).symm⟩
theorem Becomes.kd {A B : Mem} (h : Becomes A B) : E8 (A 18) (B 27) := fun c hc => (h.2.2.1 c hc).symm
theorem Becomes.am {A B : Mem} (h : Becomes A B) : E8 (A 19) (B 28) := fun c hc => (h.2.2.2.1 c hc).symm
theorem EvR.cg {tm tm' kd kd' am am' lag seen : Nat → Int} {lt aw lt' aw' : Int} (h : EvR tm kd am lt aw lag seen) (ht : E3 tm tm') (hk : E8 kd kd') (ha : E8 am am') (hl : lt' = 0) (hw : aw' = 0) : EvR tm' kd' am' lt' aw' lag seen := by
  refine ⟨?_, fun c hc => ?_⟩
  · rw [← ht.1, ← ht.2.1, ← ht.2.2, hl, hw]; exact ⟨h.1.1, h.1.2.1, h.1.2.2.1, by omega, by omega⟩
  · rw [← hk c hc, ← ha c hc]; exact h.2 c hc
theorem Becomes.ev {A B : Mem} (h : Becomes A B) (hE : EvOk16 A) : EvOk25 B := by
  have e := h.se
  unfold EvOk25
  rw [e.2.2.2.2.2.2.1, e.2.2.2.2.2.2.2]
  exact EvR.cg hE h.e3 h.kd h.am h.2.2.2.2.1 h.2.2.2.2.2
