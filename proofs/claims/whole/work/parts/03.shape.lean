-- the classes of the world, its cells (objects: class, slots: -1 an int, -2 a boolean, k a reference to cell k; arrays: kind 0 int, 1 boolean, 2 long, 3 rows; length; first row)
def wtb : List Cond := lw_tbl.filter goodWord
theorem wt {w : Cond} (h : w ∈ lw_tbl) (g : goodWord w = true) : w ∈ wtb := List.mem_filter.mpr ⟨h, g⟩
abbrev classes : List vw_C := [(RX0, TX0, 4), (RX1, TX1, 15), (RX2, TX2, 4), (RX3, TX3, 2), (RX4, TX4, 13), (RX5, TX5, 4), (RX6, TX6, 5), (RX7, TX7, 8), (RX8, TX8, 50)]
def NC : Nat := 78
def shl : List ((Nat × List Int) ⊕ (Nat × Nat × Nat)) := [.inl (7, [1, 10, 16, 25, 34, 37, 40, 41]), .inl (0, [-1, 2, 3, 4]), .inr (0, 8, 0), .inr (0, 8, 0), .inr (3, 5, 5), .inr (0, 8, 0), .inr (0, 8, 0), .inr (0, 8, 0), .inr (0, 8, 0), .inr (0, 8, 0), .inl (4, [-1, -1, 11, -1, -1, 12, 13, 14, 15, -1, -2, -1, -1]), .inr (0, 40, 0), .inr (0, 20, 0), .inr (1, 20, 0), .inr (0, 20, 0), .inr (0, 20, 0), .inl (1, [17, 18, 19, 20, -1, -1, 1, 10, 21, -1, 22, -1, 23, -1, 24]), .inr (0, 3, 0), .inr (0, 8, 0), .inr (0, 8, 0), .inr (0, 8, 0), .inr (0, 8, 0), .inr (0, 8, 0), .inr (0, 8, 0), .inr (0, 8, 0), .inl (1, [26, 27, 28, 29, -1, -1, 1, 10, 30, -1, 31, -1, 32, -1, 33]), .inr (0, 3, 0), .inr (0, 8, 0), .inr (0, 8, 0), .inr (0, 8, 0), .inr (0, 8, 0), .inr (0, 8, 0), .inr (0, 8, 0), .inr (0, 8, 0), .inl (2, [25, 35, -1, 36]), .inr (0, 13, 0), .inr (0, 8, 0), .inl (6, [38, -1, -1, 25, 39]), .inr (0, 61, 0), .inr (2, 61, 0), .inl (3, [1, 25]), .inl (5, [42, 47, 48, -1]), .inr (3, 4, 43), .inr (0, 64, 0), .inr (0, 64, 0), .inr (0, 64, 0), .inr (0, 64, 0), .inr (0, 4, 0), .inr (0, 4, 0), .inl (8, [-1, 50, 51, 52, 53, 54, 55, 56, 57, -1, -1, -1, -1, 58, -2, -1, -1, -1, 59, 60, 61, 62, -1, -1, -1, -1, -1, -1, 63, 64, -1, -1, 65, 66, 67, -1, -1, 68, -1, 69, 70, 71, -1, 72, 73, 74, 75, 76, 77, -1]), .inr (0, 8, 0), .inr (0, 8, 0), .inr (0, 8, 0), .inr (0, 8, 0), .inr (0, 8, 0), .inr (0, 8, 0), .inr (0, 8, 0), .inr (0, 8, 0), .inr (0, 40, 0), .inr (0, 40, 0), .inr (0, 40, 0), .inr (1, 40, 0), .inr (0, 8, 0), .inr (0, 8, 0), .inr (0, 8, 0), .inr (0, 8, 0), .inr (0, 6591, 0), .inr (0, 2197, 0), .inr (0, 3, 0), .inr (0, 488, 0), .inr (0, 61, 0), .inr (0, 8, 0), .inr (0, 8, 0), .inr (1, 4, 0), .inr (0, 4, 0), .inr (0, 4, 0), .inr (0, 256, 0), .inr (0, 64, 0)]
def shp (c : Nat) : (Nat × List Int) ⊕ (Nat × Nat × Nat) := shl.getD c (.inr (0, 0, 0))
theorem inTX0 : ∀ w ∈ u_ws RX0 TX0 4, w ∈ lw_tbl ∧ goodWord w = true := by decide +kernel
theorem inTX1 : ∀ w ∈ u_ws RX1 TX1 15, w ∈ lw_tbl ∧ goodWord w = true := by decide +kernel
theorem inTX2 : ∀ w ∈ u_ws RX2 TX2 4, w ∈ lw_tbl ∧ goodWord w = true := by decide +kernel
theorem inTX3 : ∀ w ∈ u_ws RX3 TX3 2, w ∈ lw_tbl ∧ goodWord w = true := by decide +kernel
theorem inTX4 : ∀ w ∈ u_ws RX4 TX4 13, w ∈ lw_tbl ∧ goodWord w = true := by decide +kernel
theorem inTX5 : ∀ w ∈ u_ws RX5 TX5 4, w ∈ lw_tbl ∧ goodWord w = true := by decide +kernel
theorem inTX6 : ∀ w ∈ u_ws RX6 TX6 5, w ∈ lw_tbl ∧ goodWord w = true := by decide +kernel
theorem inTX7 : ∀ w ∈ u_ws RX7 TX7 8, w ∈ lw_tbl ∧ goodWord w = true := by decide +kernel
theorem inTX8 : ∀ w ∈ u_ws RX8 TX8 50, w ∈ lw_tbl ∧ goodWord w = true := by decide +kernel
def tyOf (ci : Nat) : Nat → FieldType := match ci with
  | 0 => tyX0
  | 1 => tyX1
  | 2 => tyX2
  | 3 => tyX3
  | 4 => tyX4
  | 5 => tyX5
  | 6 => tyX6
  | 7 => tyX7
  | _ => tyX8
theorem cls_in (ci : Nat) (q : vw_C) (h : classes[ci]? = some q) : (∀ w ∈ u_ws q.1 q.2.1 q.2.2, w ∈ wtb) ∧ (∀ k, k < q.2.2 → parseFieldDescriptor (q.2.1 k).2.2.1 = some (tyOf ci k)) ∧ (∀ a, a < q.2.2 → ∀ b, b < q.2.2 → a ≠ b → (q.2.1 a).2.1 ≠ (q.2.1 b).2.1) := by
  match ci, h with
  | 0, h => cases h; exact ⟨fun w h => wt (inTX0 w h).1 (inTX0 w h).2, tyX0_ok, nmX0⟩
  | 1, h => cases h; exact ⟨fun w h => wt (inTX1 w h).1 (inTX1 w h).2, tyX1_ok, nmX1⟩
  | 2, h => cases h; exact ⟨fun w h => wt (inTX2 w h).1 (inTX2 w h).2, tyX2_ok, nmX2⟩
  | 3, h => cases h; exact ⟨fun w h => wt (inTX3 w h).1 (inTX3 w h).2, tyX3_ok, nmX3⟩
  | 4, h => cases h; exact ⟨fun w h => wt (inTX4 w h).1 (inTX4 w h).2, tyX4_ok, nmX4⟩
  | 5, h => cases h; exact ⟨fun w h => wt (inTX5 w h).1 (inTX5 w h).2, tyX5_ok, nmX5⟩
  | 6, h => cases h; exact ⟨fun w h => wt (inTX6 w h).1 (inTX6 w h).2, tyX6_ok, nmX6⟩
  | 7, h => cases h; exact ⟨fun w h => wt (inTX7 w h).1 (inTX7 w h).2, tyX7_ok, nmX7⟩
  | 8, h => cases h; exact ⟨fun w h => wt (inTX8 w h).1 (inTX8 w h).2, tyX8_ok, nmX8⟩
  | k + 9, h => simp [classes] at h
