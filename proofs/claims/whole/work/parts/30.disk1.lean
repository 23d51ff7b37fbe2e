def B_Disk_isReadable_23   (d : DS) : Option (Int32 × Unit) :=
  some (0, ())
theorem e_B_Disk_isReadable_23 {sc : Nat × (Nat → Int32)} {e0 : mn_E} {tl : List mn_E}    (d : DS) : Ev sc 0 0 0 0 M_Disk_isReadable 23 [] [] (e0 :: (HD d tl)) (mapR ouI (fun z => (e0 :: (HD d tl))) (B_Disk_isReadable_23 d)) := by
  unfold B_Disk_isReadable_23
  refine ev_iconst (v := 0) d_Disk_isReadable_23 rfl ?_
  exact ev_zret (ty := .boolean) rfl rfl d_Disk_isReadable_24
def f_Disk_isReadable   (d : DS) (x1 : Int32) : Option (Int32 × Unit) :=
  if x1 < 0 then (B_Disk_isReadable_23   d) else (if 40 ≤ x1 then (B_Disk_isReadable_23   d) else (if inB x1 40 then (if ¬ (dUnr d x1.toNatClampNeg) = 0 then (B_Disk_isReadable_23   d) else (some (1, ()))) else none))
theorem e_f_Disk_isReadable {sc : Nat × (Nat → Int32)} {e0 : mn_E} {tl : List mn_E}    (d : DS) (x1 : Int32) : Ev sc 0 0 0 0 M_Disk_isReadable 0 [(0, .ref 1), (1, .int x1)] [] (e0 :: (HD d tl)) (mapR ouI (fun z => (e0 :: (HD d tl))) (f_Disk_isReadable d x1)) := by
  unfold f_Disk_isReadable
  refine ev_iload_n d_Disk_isReadable_0 rfl rfl ?_
  refine ev_if_lt (tgt := 23) d_Disk_isReadable_1 rfl (fun h1 => ?_) (fun h1 => ?_)
  · rw [if_pos h1]
    exact ev_pick [] rfl (e_B_Disk_isReadable_23     d)
  · rw [if_neg h1]
    refine ev_iload_n d_Disk_isReadable_4 rfl rfl ?_
    refine ev_bipush (v := 40) d_Disk_isReadable_5 rfl ?_
    refine ev_icmp_ge (tgt := 23) d_Disk_isReadable_7 rfl (fun h2 => ?_) (fun h2 => ?_)
    · rw [if_pos h2]
      exact ev_pick [] rfl (e_B_Disk_isReadable_23     d)
    · rw [if_neg h2]
      refine ev_aload_n d_Disk_isReadable_10 rfl rfl ?_
      refine ev_get (v := .ref 4) gi_Disk (ci := 1) rfl rfl 2 (by decide) gw_134 rfl d_Disk_isReadable_11 ?_
      refine ev_iload_n d_Disk_isReadable_14 rfl rfl ?_
      refine ev_inB (fun h3 => ?_)
      refine ev_zaload rfl (inB_of h3) d_Disk_isReadable_15 ?_
      refine ev_if_ne (tgt := 23) d_Disk_isReadable_16 rfl (fun h4 => ?_) (fun h4 => ?_)
      · rw [if_pos h4]
        exact ev_pick [] rfl (e_B_Disk_isReadable_23     d)
      · rw [if_neg h4]
        refine ev_iconst (v := 1) d_Disk_isReadable_19 rfl ?_
        refine ev_goto (tgt := 24) d_Disk_isReadable_20 rfl ?_
        exact ev_zret (ty := .boolean) rfl rfl d_Disk_isReadable_24
def B_Disk_cell_53   (d : DS) : Option (Int32 × Unit) :=
  some ((-1), ())
theorem e_B_Disk_cell_53 {sc : Nat × (Nat → Int32)} {e0 : mn_E} {tl : List mn_E}    (d : DS) : Ev sc 0 0 0 0 M_Disk_cell 53 [] [] (e0 :: (HD d tl)) (mapR ouI (fun z => (e0 :: (HD d tl))) (B_Disk_cell_53 d)) := by
  unfold B_Disk_cell_53
  refine ev_iconst (v := -1) d_Disk_cell_53 rfl ?_
  exact ev_zret (ty := .int) rfl rfl d_Disk_cell_54
def B_Disk_cell_25   (d : DS) (x1 : Int32) (x2 : Int32) (t0 : Int32) : Option (Int32 × Unit) :=
  if t0 = 0 then (B_Disk_cell_53   d) else (if inB x1 40 then (if ¬ (dUnr d x1.toNatClampNeg) = 0 then (B_Disk_cell_53   d) else (if inB ((x1 * 13) + x2) 520 then (some ((dCells d ((x1 * 13) + x2).toNatClampNeg), ())) else none)) else none)
theorem e_B_Disk_cell_25 {sc : Nat × (Nat → Int32)} {e0 : mn_E} {tl : List mn_E}    (d : DS) (x1 : Int32) (x2 : Int32) (t0 : Int32) : Ev sc 0 0 0 0 M_Disk_cell 25 [(0, .ref 1), (1, .int x1), (2, .int x2)] [.int t0] (e0 :: (HD d tl)) (mapR ouI (fun z => (e0 :: (HD d tl))) (B_Disk_cell_25 d x1 x2 t0)) := by
  unfold B_Disk_cell_25
  refine ev_istore_n d_Disk_cell_25 rfl (by decide) rfl ?_
  refine ev_iload_n d_Disk_cell_26 rfl rfl ?_
  refine ev_if_eq (tgt := 53) d_Disk_cell_27 rfl (fun h1 => ?_) (fun h1 => ?_)
  · rw [if_pos h1]
    exact ev_pick [] rfl (e_B_Disk_cell_53     d)
  · rw [if_neg h1]
    refine ev_aload_n d_Disk_cell_30 rfl rfl ?_
    refine ev_get (v := .ref 4) gi_Disk (ci := 1) rfl rfl 2 (by decide) gw_134 rfl d_Disk_cell_31 ?_
    refine ev_iload_n d_Disk_cell_34 rfl rfl ?_
    refine ev_inB (fun h2 => ?_)
    refine ev_zaload rfl (inB_of h2) d_Disk_cell_35 ?_
    refine ev_if_ne (tgt := 53) d_Disk_cell_36 rfl (fun h3 => ?_) (fun h3 => ?_)
    · rw [if_pos h3]
      exact ev_pick [] rfl (e_B_Disk_cell_53     d)
    · rw [if_neg h3]
      refine ev_aload_n d_Disk_cell_39 rfl rfl ?_
      refine ev_get (v := .ref 2) gi_Disk (ci := 1) rfl rfl 0 (by decide) gw_132 rfl d_Disk_cell_40 ?_
      refine ev_iload_n d_Disk_cell_43 rfl rfl ?_
      refine ev_bipush (v := 13) d_Disk_cell_44 rfl ?_
      refine ev_imul d_Disk_cell_46 ?_
      refine ev_iload_n d_Disk_cell_47 rfl rfl ?_
      refine ev_iadd d_Disk_cell_48 ?_
      refine ev_inB (fun h4 => ?_)
      refine ev_iaload rfl (inB_of h4) d_Disk_cell_49 ?_
      refine ev_goto (tgt := 54) d_Disk_cell_50 rfl ?_
      exact ev_zret (ty := .int) rfl rfl d_Disk_cell_54
def B_Disk_cell_24   (d : DS) (x1 : Int32) (x2 : Int32) : Option (Int32 × Unit) :=
  B_Disk_cell_25   d x1 x2 0
theorem e_B_Disk_cell_24 {sc : Nat × (Nat → Int32)} {e0 : mn_E} {tl : List mn_E}    (d : DS) (x1 : Int32) (x2 : Int32) : Ev sc 0 0 0 0 M_Disk_cell 24 [(0, .ref 1), (1, .int x1), (2, .int x2)] [] (e0 :: (HD d tl)) (mapR ouI (fun z => (e0 :: (HD d tl))) (B_Disk_cell_24 d x1 x2)) := by
  unfold B_Disk_cell_24
  refine ev_iconst (v := 0) d_Disk_cell_24 rfl ?_
  exact ev_pick [0, 1, 2] rfl (e_B_Disk_cell_25     d x1 x2 0)
def f_Disk_cell   (d : DS) (x1 : Int32) (x2 : Int32) : Option (Int32 × Unit) :=
  if x1 < 0 then (B_Disk_cell_24   d x1 x2) else (if 40 ≤ x1 then (B_Disk_cell_24   d x1 x2) else (if x2 < 0 then (B_Disk_cell_24   d x1 x2) else (if 13 ≤ x2 then (B_Disk_cell_24   d x1 x2) else (B_Disk_cell_25   d x1 x2 1))))
theorem e_f_Disk_cell {sc : Nat × (Nat → Int32)} {e0 : mn_E} {tl : List mn_E}    (d : DS) (x1 : Int32) (x2 : Int32) : Ev sc 0 0 0 0 M_Disk_cell 0 [(0, .ref 1), (1, .int x1), (2, .int x2)] [] (e0 :: (HD d tl)) (mapR ouI (fun z => (e0 :: (HD d tl))) (f_Disk_cell d x1 x2)) := by
  unfold f_Disk_cell
  refine ev_iload_n d_Disk_cell_0 rfl rfl ?_
  refine ev_if_lt (tgt := 24) d_Disk_cell_1 rfl (fun h1 => ?_) (fun h1 => ?_)
  · rw [if_pos h1]
    exact ev_pick [0, 1, 2] rfl (e_B_Disk_cell_24     d x1 x2)
  · rw [if_neg h1]
    refine ev_iload_n d_Disk_cell_4 rfl rfl ?_
    refine ev_bipush (v := 40) d_Disk_cell_5 rfl ?_
    refine ev_icmp_ge (tgt := 24) d_Disk_cell_7 rfl (fun h2 => ?_) (fun h2 => ?_)
    · rw [if_pos h2]
      exact ev_pick [0, 1, 2] rfl (e_B_Disk_cell_24     d x1 x2)
    · rw [if_neg h2]
      refine ev_iload_n d_Disk_cell_10 rfl rfl ?_
      refine ev_if_lt (tgt := 24) d_Disk_cell_11 rfl (fun h3 => ?_) (fun h3 => ?_)
      · rw [if_pos h3]
        exact ev_pick [0, 1, 2] rfl (e_B_Disk_cell_24     d x1 x2)
      · rw [if_neg h3]
        refine ev_iload_n d_Disk_cell_14 rfl rfl ?_
        refine ev_bipush (v := 13) d_Disk_cell_15 rfl ?_
        refine ev_icmp_ge (tgt := 24) d_Disk_cell_17 rfl (fun h4 => ?_) (fun h4 => ?_)
        · rw [if_pos h4]
          exact ev_pick [0, 1, 2] rfl (e_B_Disk_cell_24     d x1 x2)
        · rw [if_neg h4]
          refine ev_iconst (v := 1) d_Disk_cell_20 rfl ?_
          refine ev_goto (tgt := 25) d_Disk_cell_21 rfl ?_
          exact ev_pick [0, 1, 2] rfl (e_B_Disk_cell_25     d x1 x2 1)
def B_Disk_setCell_25   (d : DS) (x1 : Int32) (x2 : Int32) (x3 : Int32) (t0 : Int32) : Option (Unit × DS) :=
  if t0 = 0 then (some ((), d)) else (if inB x1 40 then (if ¬ (dUnr d x1.toNatClampNeg) = 0 then (some ((), d)) else (if inB ((x1 * 13) + x2) 520 then (some ((), (dSCells d (upd (dCells d) ((x1 * 13) + x2).toNatClampNeg x3)))) else none)) else none)
theorem e_B_Disk_setCell_25 {sc : Nat × (Nat → Int32)} {e0 : mn_E} {tl : List mn_E}    (d : DS) (x1 : Int32) (x2 : Int32) (x3 : Int32) (t0 : Int32) : Ev sc 0 0 0 0 M_Disk_setCell 25 [(0, .ref 1), (1, .int x1), (2, .int x2), (3, .int x3)] [.int t0] (e0 :: (HD d tl)) (mapR ouV (fun z => (e0 :: (HD z tl))) (B_Disk_setCell_25 d x1 x2 x3 t0)) := by
  unfold B_Disk_setCell_25
  refine ev_istore d_Disk_setCell_25 (by decide) rfl ?_
  refine ev_iload d_Disk_setCell_27 rfl ?_
  refine ev_if_eq (tgt := 53) d_Disk_setCell_29 rfl (fun h1 => ?_) (fun h1 => ?_)
  · rw [if_pos h1]
    exact ev_vret rfl d_Disk_setCell_53
  · rw [if_neg h1]
    refine ev_aload_n d_Disk_setCell_32 rfl rfl ?_
    refine ev_get (v := .ref 4) gi_Disk (ci := 1) rfl rfl 2 (by decide) gw_134 rfl d_Disk_setCell_33 ?_
    refine ev_iload_n d_Disk_setCell_36 rfl rfl ?_
    refine ev_inB (fun h2 => ?_)
    refine ev_zaload rfl (inB_of h2) d_Disk_setCell_37 ?_
    refine ev_if_ne (tgt := 53) d_Disk_setCell_38 rfl (fun h3 => ?_) (fun h3 => ?_)
    · rw [if_pos h3]
      exact ev_vret rfl d_Disk_setCell_53
    · rw [if_neg h3]
      refine ev_aload_n d_Disk_setCell_41 rfl rfl ?_
      refine ev_get (v := .ref 2) gi_Disk (ci := 1) rfl rfl 0 (by decide) gw_132 rfl d_Disk_setCell_42 ?_
      refine ev_iload_n d_Disk_setCell_45 rfl rfl ?_
      refine ev_bipush (v := 13) d_Disk_setCell_46 rfl ?_
      refine ev_imul d_Disk_setCell_48 ?_
      refine ev_iload_n d_Disk_setCell_49 rfl rfl ?_
      refine ev_iadd d_Disk_setCell_50 ?_
      refine ev_iload_n d_Disk_setCell_51 rfl rfl ?_
      refine ev_inB (fun h4 => ?_)
      refine ev_iastore (h2 := (e0 :: (HD (dSCells d (upd (dCells d) ((x1 * 13) + x2).toNatClampNeg x3)) tl))) rfl (inB_of h4) rfl d_Disk_setCell_52 ?_
      exact ev_vret rfl d_Disk_setCell_53
def B_Disk_setCell_24   (d : DS) (x1 : Int32) (x2 : Int32) (x3 : Int32) : Option (Unit × DS) :=
  B_Disk_setCell_25   d x1 x2 x3 0
theorem e_B_Disk_setCell_24 {sc : Nat × (Nat → Int32)} {e0 : mn_E} {tl : List mn_E}    (d : DS) (x1 : Int32) (x2 : Int32) (x3 : Int32) : Ev sc 0 0 0 0 M_Disk_setCell 24 [(0, .ref 1), (1, .int x1), (2, .int x2), (3, .int x3)] [] (e0 :: (HD d tl)) (mapR ouV (fun z => (e0 :: (HD z tl))) (B_Disk_setCell_24 d x1 x2 x3)) := by
  unfold B_Disk_setCell_24
  refine ev_iconst (v := 0) d_Disk_setCell_24 rfl ?_
  exact ev_pick [0, 1, 2, 3] rfl (e_B_Disk_setCell_25     d x1 x2 x3 0)
def f_Disk_setCell   (d : DS) (x1 : Int32) (x2 : Int32) (x3 : Int32) : Option (Unit × DS) :=
  if x1 < 0 then (B_Disk_setCell_24   d x1 x2 x3) else (if 40 ≤ x1 then (B_Disk_setCell_24   d x1 x2 x3) else (if x2 < 0 then (B_Disk_setCell_24   d x1 x2 x3) else (if 13 ≤ x2 then (B_Disk_setCell_24   d x1 x2 x3) else (B_Disk_setCell_25   d x1 x2 x3 1))))
theorem e_f_Disk_setCell {sc : Nat × (Nat → Int32)} {e0 : mn_E} {tl : List mn_E}    (d : DS) (x1 : Int32) (x2 : Int32) (x3 : Int32) : Ev sc 0 0 0 0 M_Disk_setCell 0 [(0, .ref 1), (1, .int x1), (2, .int x2), (3, .int x3)] [] (e0 :: (HD d tl)) (mapR ouV (fun z => (e0 :: (HD z tl))) (f_Disk_setCell d x1 x2 x3)) := by
  unfold f_Disk_setCell
  refine ev_iload_n d_Disk_setCell_0 rfl rfl ?_
  refine ev_if_lt (tgt := 24) d_Disk_setCell_1 rfl (fun h1 => ?_) (fun h1 => ?_)
  · rw [if_pos h1]
    exact ev_pick [0, 1, 2, 3] rfl (e_B_Disk_setCell_24     d x1 x2 x3)
  · rw [if_neg h1]
    refine ev_iload_n d_Disk_setCell_4 rfl rfl ?_
    refine ev_bipush (v := 40) d_Disk_setCell_5 rfl ?_
    refine ev_icmp_ge (tgt := 24) d_Disk_setCell_7 rfl (fun h2 => ?_) (fun h2 => ?_)
    · rw [if_pos h2]
      exact ev_pick [0, 1, 2, 3] rfl (e_B_Disk_setCell_24     d x1 x2 x3)
    · rw [if_neg h2]
      refine ev_iload_n d_Disk_setCell_10 rfl rfl ?_
      refine ev_if_lt (tgt := 24) d_Disk_setCell_11 rfl (fun h3 => ?_) (fun h3 => ?_)
      · rw [if_pos h3]
        exact ev_pick [0, 1, 2, 3] rfl (e_B_Disk_setCell_24     d x1 x2 x3)
      · rw [if_neg h3]
        refine ev_iload_n d_Disk_setCell_14 rfl rfl ?_
        refine ev_bipush (v := 13) d_Disk_setCell_15 rfl ?_
        refine ev_icmp_ge (tgt := 24) d_Disk_setCell_17 rfl (fun h4 => ?_) (fun h4 => ?_)
        · rw [if_pos h4]
          exact ev_pick [0, 1, 2, 3] rfl (e_B_Disk_setCell_24     d x1 x2 x3)
        · rw [if_neg h4]
          refine ev_iconst (v := 1) d_Disk_setCell_20 rfl ?_
          refine ev_goto (tgt := 25) d_Disk_setCell_21 rfl ?_
          exact ev_pick [0, 1, 2, 3] rfl (e_B_Disk_setCell_25     d x1 x2 x3 1)
