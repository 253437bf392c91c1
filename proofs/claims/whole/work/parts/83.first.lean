-- the first memory: behind both constructors
def memZ : Mem := fun _ _ => 0
def mem0 : Mem := nb_model (nb_hall memZ)
theorem mem0_flags : (List.range 78).all (fun c => match shp c with
  | .inl (_, ks) => ks.zipIdx.all (fun q => decide (q.1 < 0) || decide (mem0 c q.2 = 1))
  | .inr _ => true) = true := by decide +kernel
theorem ceB_mem0 (ad : Nat → Nat) (cA : Nat → ClassId) {c : Nat} (hc : c < 78) : ceB ad cA c (mem0 c) = ceE ad cA c (mem0 c) := by
  have h := List.all_eq_true.mp mem0_flags c (List.mem_range.mpr hc)
  cases hs : shp c with
  | inr q =>
    obtain ⟨t, n, b⟩ := q
    rw [ceB_arr hs, ceE_arr hs]
  | inl q =>
    obtain ⟨ci, ks⟩ := q
    rw [ceB_obj hs, ceE_obj hs]
    rw [hs] at h
    have h2 := List.all_eq_true.mp h
    congr 2
    refine List.map_congr_left (fun q hq => ?_)
    have h3 := h2 q hq
    unfold fvB fv
    by_cases hn : q.1 < 0
    · rw [if_pos hn, if_pos hn]
    · rw [if_neg hn, if_neg hn]
      simp [hn] at h3
      rw [if_pos h3]
theorem wb_wd {G : Gm} {B : Nat} {U : State} {H : Heap} (h : Wb G B 78 mem0 U H) : Wd G mem0 U H := by
  have e : wsB G.ad G.cA 78 mem0 = wsOf G.ad G.cA mem0 := by
    unfold wsB wsOf
    refine List.map_congr_left (fun c hc => ?_)
    rw [ceB_mem0 G.ad G.cA (List.mem_range.mp hc)]
  have hD := h.D
  obtain ⟨h1, h2, h3, -, -, -⟩ := h
  rw [e] at h1 hD
  exact ⟨h1, h2, hD, h3⟩
