/-! the three that read and write the arrays -/
theorem i32_40 {a : Int32} (h0 : ¬ a < 0) (h1 : ¬ (40 : Int32) ≤ a) : ∃ i : Nat, i < 40 ∧ a = nI i := by
  rcases pk_ix a (n := 40) (by decide) with h | h | h
  · exact absurd h h0
  · exact absurd h h1
  · exact h
theorem i32_13 {a : Int32} (h0 : ¬ a < 0) (h1 : ¬ (13 : Int32) ≤ a) : ∃ i : Nat, i < 13 ∧ a = nI i := by
  rcases pk_ix a (n := 13) (by decide) with h | h | h
  · exact absurd h h0
  · exact absurd h h1
  · exact h
theorem cl_nI {i : Nat} (h : i < 1000000) : (nI i).toNatClampNeg = i := nI_clamp (by omega)
theorem inB_nI {i n : Nat} (h : i < n) (hn : n < 1000000) : inB (nI i) n := inB_iff.mpr (vp_in_nI h (by omega))
theorem ix_mul (i j : Nat) : nI i * 13 + nI j = nI (i * 13 + j) := by
  have h : (13 : Int32) = nI 13 := rfl
  rw [h, pk_mul, nI_add]
/-- a cell by its sector and place -/
def at13 (c : Nat → Int32) (i j : Nat) : Int32 := c (i * 13 + j)
def inSec (a : Int32) : Prop := ¬ a < 0 ∧ ¬ (40 : Int32) ≤ a
abbrev cok (d : DS) (a b : Int32) : Prop := ¬ a < 0 ∧ ¬ (40 : Int32) ≤ a ∧ ¬ b < 0 ∧ ¬ (13 : Int32) ≤ b ∧ dUnr d a.toNatClampNeg = 0
def xCell (d : DS) (a b : Int32) : Int32 := if cok d a b then dCells d (a.toNatClampNeg * 13 + b.toNatClampNeg) else -1
def xSetCell (d : DS) (a b v : Int32) : DS := if cok d a b then dSCells d (upd (dCells d) (a.toNatClampNeg * 13 + b.toNatClampNeg) v) else d
def xRead (d : DS) (a : Int32) : Int32 := if ¬ a < 0 ∧ ¬ (40 : Int32) ≤ a ∧ dUnr d a.toNatClampNeg = 0 then 1 else 0
abbrev x_Disk_isReadable (d : DS) (a : Int32) : Int32 × Unit := (xRead d a, ())
abbrev x_Disk_cell (d : DS) (a b : Int32) : Int32 × Unit := (xCell d a b, ())
abbrev x_Disk_setCell (d : DS) (a b v : Int32) : Unit × DS := ((), xSetCell d a b v)
theorem n_Disk_isReadable (d : DS) (a : Int32) : f_Disk_isReadable d a = some (x_Disk_isReadable d a) := by
  unfold f_Disk_isReadable B_Disk_isReadable_23 x_Disk_isReadable xRead
  by_cases h1 : a < 0
  · rw [if_pos h1, if_neg (fun q => q.1 h1)]
  · rw [if_neg h1]
    by_cases h2 : (40 : Int32) ≤ a
    · rw [if_pos h2, if_neg (fun q => q.2.1 h2)]
    · rw [if_neg h2]
      obtain ⟨i, hi, rfl⟩ := i32_40 h1 h2
      rw [if_pos (inB_nI hi (by decide))]
      by_cases h3 : dUnr d (nI i).toNatClampNeg = 0
      · rw [if_neg (fun q => q h3), if_pos ⟨h1, h2, h3⟩]
      · rw [if_pos h3, if_neg (fun q => h3 q.2.2)]
theorem n_Disk_cell (d : DS) (a b : Int32) : f_Disk_cell d a b = some (x_Disk_cell d a b) := by
  unfold f_Disk_cell B_Disk_cell_24 B_Disk_cell_25 B_Disk_cell_53 x_Disk_cell xCell
  by_cases h1 : a < 0
  · rw [if_pos h1, if_pos rfl, if_neg (fun q => q.1 h1)]
  · rw [if_neg h1]
    by_cases h2 : (40 : Int32) ≤ a
    · rw [if_pos h2, if_pos rfl, if_neg (fun q => q.2.1 h2)]
    · rw [if_neg h2]
      by_cases h3 : b < 0
      · rw [if_pos h3, if_pos rfl, if_neg (fun q => q.2.2.1 h3)]
      · rw [if_neg h3]
        by_cases h4 : (13 : Int32) ≤ b
        · rw [if_pos h4, if_pos rfl, if_neg (fun q => q.2.2.2.1 h4)]
        · rw [if_neg h4, if_neg (by decide)]
          obtain ⟨i, hi, rfl⟩ := i32_40 h1 h2
          obtain ⟨j, hj, rfl⟩ := i32_13 h3 h4
          rw [if_pos (inB_nI hi (by decide)), ix_mul, if_pos (inB_nI (n := 520) (by omega) (by decide))]
          by_cases h5 : dUnr d (nI i).toNatClampNeg = 0
          · rw [if_neg (fun q => q h5), if_pos ⟨h1, h2, h3, h4, h5⟩, cl_nI (by omega), cl_nI (by omega), cl_nI (by omega)]
          · rw [if_pos h5, if_neg (fun q => h5 q.2.2.2.2)]
theorem n_Disk_setCell (d : DS) (a b v : Int32) : f_Disk_setCell d a b v = some (x_Disk_setCell d a b v) := by
  unfold f_Disk_setCell B_Disk_setCell_24 B_Disk_setCell_25 x_Disk_setCell xSetCell
  by_cases h1 : a < 0
  · rw [if_pos h1, if_pos rfl, if_neg (fun q => q.1 h1)]
  · rw [if_neg h1]
    by_cases h2 : (40 : Int32) ≤ a
    · rw [if_pos h2, if_pos rfl, if_neg (fun q => q.2.1 h2)]
    · rw [if_neg h2]
      by_cases h3 : b < 0
      · rw [if_pos h3, if_pos rfl, if_neg (fun q => q.2.2.1 h3)]
      · rw [if_neg h3]
        by_cases h4 : (13 : Int32) ≤ b
        · rw [if_pos h4, if_pos rfl, if_neg (fun q => q.2.2.2.1 h4)]
        · rw [if_neg h4, if_neg (by decide)]
          obtain ⟨i, hi, rfl⟩ := i32_40 h1 h2
          obtain ⟨j, hj, rfl⟩ := i32_13 h3 h4
          rw [if_pos (inB_nI hi (by decide)), ix_mul, if_pos (inB_nI (n := 520) (by omega) (by decide))]
          by_cases h5 : dUnr d (nI i).toNatClampNeg = 0
          · rw [if_neg (fun q => q h5), if_pos ⟨h1, h2, h3, h4, h5⟩, cl_nI (by omega), cl_nI (by omega), cl_nI (by omega)]
          · rw [if_pos h5, if_neg (fun q => h5 q.2.2.2.2)]
theorem c_Disk_isReadable {sc : Nat × (Nat → Int32)} {e0 : mn_E} {tl : List mn_E} (d : DS) (x1 : Int32) : Ev sc 0 0 0 0 M_Disk_isReadable 0 [(0, .ref 1), (1, .int x1)] [] (e0 :: (HD d tl)) (some (.inl (some (.int (xRead d x1))), (e0 :: (HD d tl)))) := by
  have h := e_f_Disk_isReadable (sc := sc) (e0 := e0) (tl := tl) d x1
  rw [mapR_some (n_Disk_isReadable d x1)] at h
  exact h
theorem c_Disk_cell {sc : Nat × (Nat → Int32)} {e0 : mn_E} {tl : List mn_E} (d : DS) (x1 : Int32) (x2 : Int32) : Ev sc 0 0 0 0 M_Disk_cell 0 [(0, .ref 1), (1, .int x1), (2, .int x2)] [] (e0 :: (HD d tl)) (some (.inl (some (.int (xCell d x1 x2))), (e0 :: (HD d tl)))) := by
  have h := e_f_Disk_cell (sc := sc) (e0 := e0) (tl := tl) d x1 x2
  rw [mapR_some (n_Disk_cell d x1 x2)] at h
  exact h
theorem c_Disk_setCell {sc : Nat × (Nat → Int32)} {e0 : mn_E} {tl : List mn_E} (d : DS) (x1 : Int32) (x2 : Int32) (x3 : Int32) : Ev sc 0 0 0 0 M_Disk_setCell 0 [(0, .ref 1), (1, .int x1), (2, .int x2), (3, .int x3)] [] (e0 :: (HD d tl)) (some (.inl (none), (e0 :: (HD (xSetCell d x1 x2 x3) tl)))) := by
  have h := e_f_Disk_setCell (sc := sc) (e0 := e0) (tl := tl) d x1 x2 x3
  rw [mapR_some (n_Disk_setCell d x1 x2 x3)] at h
  exact h
