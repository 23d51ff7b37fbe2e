theorem tw_of {l : List Cond} (h : l.all (fun a => (decide (a ∈ lw_tbl) && gd_okw a) || decide (a ∈ mn_hw)) = true) : ∀ a ∈ l, a ∈ gd_tb ∨ a ∈ mn_hw := by
  intro a ha
  have h1 := List.all_eq_true.mp h a ha
  rw [Bool.or_eq_true, Bool.and_eq_true, decide_eq_true_eq, decide_eq_true_eq] at h1
  rcases h1 with h1 | h1
  · exact Or.inl (List.mem_filter.mpr h1)
  · exact Or.inr h1
theorem tw_Disk_82 : ∀ a ∈ Bundle.ownAtoms0 "LabelledVolume$Disk" 82 (gd_ex 1) gd_up, a ∈ gd_tb ∨ a ∈ mn_hw := tw_of (by decide +kernel)
def f_Disk_isFree   (d : DS) (x1 : Int32) : (Int32 × Unit) :=
  if ¬ (xCell d x1 0) = 0 then ((0, ())) else ((1, ()))
theorem e_f_Disk_isFree {sc : Nat × (Nat → Int32)} {e0 : mn_E} {tl : List mn_E}    (d : DS) (x1 : Int32) : Ev sc 1 15 0 0 M_Disk_isFree 0 [(0, .ref 1), (1, .int x1)] [] (e0 :: (HD d tl)) (mapT ouI (fun z => (e0 :: (HD d tl))) (f_Disk_isFree d x1)) := by
  unfold f_Disk_isFree
  refine ev_aload_n d_Disk_isFree_0 rfl rfl ?_
  refine ev_iload_n d_Disk_isFree_1 rfl rfl ?_
  refine ev_iconst (v := 0) d_Disk_isFree_2 rfl ?_
  refine ev_callr (Mc := M_Disk_cell) (v := some (.int (xCell d x1 0))) (h1 := (e0 :: (HD d tl))) (k2 := 0) (n2 := 0) (inv_V (q := 1) (av := [.int x1, .int 0]) (rest := []) rfl (ci := 1) rfl d_Disk_isFree_3 gw_197 gw_198 gw_199 mw_Disk_cell nh_Disk_cell pn_Disk_cell rfl) d_Disk_isFree_3 pl_Disk_cell (Nat.le_of_ble_eq_true rfl) (Nat.le_of_ble_eq_true rfl) (Nat.le_of_ble_eq_true rfl) rfl rfl (c_Disk_cell (e0 := e0) (tl := tl)  d x1 0) (Or.inl (len1 (lenHD rfl))) ?_
  refine ev_if_ne (tgt := 13) d_Disk_isFree_6 rfl (fun h1 => ?_) (fun h1 => ?_)
  · rw [if_pos h1]
    refine ev_iconst (v := 0) d_Disk_isFree_13 rfl ?_
    exact ev_zret (ty := .boolean) rfl rfl d_Disk_isFree_14
  · rw [if_neg h1]
    refine ev_iconst (v := 1) d_Disk_isFree_9 rfl ?_
    refine ev_goto (tgt := 14) d_Disk_isFree_10 rfl ?_
    exact ev_zret (ty := .boolean) rfl rfl d_Disk_isFree_14
def f_Disk_isInUse   (d : DS) (x1 : Int32) : (Int32 × Unit) :=
  if (xCell d x1 0) ≤ 0 then ((0, ())) else ((1, ()))
theorem e_f_Disk_isInUse {sc : Nat × (Nat → Int32)} {e0 : mn_E} {tl : List mn_E}    (d : DS) (x1 : Int32) : Ev sc 1 15 0 0 M_Disk_isInUse 0 [(0, .ref 1), (1, .int x1)] [] (e0 :: (HD d tl)) (mapT ouI (fun z => (e0 :: (HD d tl))) (f_Disk_isInUse d x1)) := by
  unfold f_Disk_isInUse
  refine ev_aload_n d_Disk_isInUse_0 rfl rfl ?_
  refine ev_iload_n d_Disk_isInUse_1 rfl rfl ?_
  refine ev_iconst (v := 0) d_Disk_isInUse_2 rfl ?_
  refine ev_callr (Mc := M_Disk_cell) (v := some (.int (xCell d x1 0))) (h1 := (e0 :: (HD d tl))) (k2 := 0) (n2 := 0) (inv_V (q := 1) (av := [.int x1, .int 0]) (rest := []) rfl (ci := 1) rfl d_Disk_isInUse_3 gw_197 gw_198 gw_199 mw_Disk_cell nh_Disk_cell pn_Disk_cell rfl) d_Disk_isInUse_3 pl_Disk_cell (Nat.le_of_ble_eq_true rfl) (Nat.le_of_ble_eq_true rfl) (Nat.le_of_ble_eq_true rfl) rfl rfl (c_Disk_cell (e0 := e0) (tl := tl)  d x1 0) (Or.inl (len1 (lenHD rfl))) ?_
  refine ev_if_le (tgt := 13) d_Disk_isInUse_6 rfl (fun h1 => ?_) (fun h1 => ?_)
  · rw [if_pos h1]
    refine ev_iconst (v := 0) d_Disk_isInUse_13 rfl ?_
    exact ev_zret (ty := .boolean) rfl rfl d_Disk_isInUse_14
  · rw [if_neg h1]
    refine ev_iconst (v := 1) d_Disk_isInUse_9 rfl ?_
    refine ev_goto (tgt := 14) d_Disk_isInUse_10 rfl ?_
    exact ev_zret (ty := .boolean) rfl rfl d_Disk_isInUse_14
def f_Disk_byteAt   (d : DS) (x1 : Int32) (x2 : Int32) : (Int32 × Unit) :=
  ((xCell d x1 (5 + x2)), ())
theorem e_f_Disk_byteAt {sc : Nat × (Nat → Int32)} {e0 : mn_E} {tl : List mn_E}    (d : DS) (x1 : Int32) (x2 : Int32) : Ev sc 1 15 0 0 M_Disk_byteAt 0 [(0, .ref 1), (1, .int x1), (2, .int x2)] [] (e0 :: (HD d tl)) (mapT ouI (fun z => (e0 :: (HD d tl))) (f_Disk_byteAt d x1 x2)) := by
  unfold f_Disk_byteAt
  refine ev_aload_n d_Disk_byteAt_0 rfl rfl ?_
  refine ev_iload_n d_Disk_byteAt_1 rfl rfl ?_
  refine ev_iconst (v := 5) d_Disk_byteAt_2 rfl ?_
  refine ev_iload_n d_Disk_byteAt_3 rfl rfl ?_
  refine ev_iadd d_Disk_byteAt_4 ?_
  refine ev_callr (Mc := M_Disk_cell) (v := some (.int (xCell d x1 (5 + x2)))) (h1 := (e0 :: (HD d tl))) (k2 := 0) (n2 := 0) (inv_V (q := 1) (av := [.int x1, .int (5 + x2)]) (rest := []) rfl (ci := 1) rfl d_Disk_byteAt_5 gw_197 gw_198 gw_199 mw_Disk_cell nh_Disk_cell pn_Disk_cell rfl) d_Disk_byteAt_5 pl_Disk_cell (Nat.le_of_ble_eq_true rfl) (Nat.le_of_ble_eq_true rfl) (Nat.le_of_ble_eq_true rfl) rfl rfl (c_Disk_cell (e0 := e0) (tl := tl)  d x1 (5 + x2)) (Or.inl (len1 (lenHD rfl))) ?_
  exact ev_zret (ty := .int) rfl rfl d_Disk_byteAt_8
def B_Disk_setByte_13   (d : DS) : (Unit × DS) :=
  ((), d)
theorem e_B_Disk_setByte_13 {sc : Nat × (Nat → Int32)} {e0 : mn_E} {tl : List mn_E}    (d : DS) : Ev sc 1 16 0 0 M_Disk_setByte 13 [] [] (e0 :: (HD d tl)) (mapT ouV (fun z => (e0 :: (HD z tl))) (B_Disk_setByte_13 d)) := by
  unfold B_Disk_setByte_13
  exact ev_vret rfl d_Disk_setByte_13
def f_Disk_setByte   (d : DS) (x1 : Int32) (x2 : Int32) (x3 : Int32) : (Unit × DS) :=
  B_Disk_setByte_13   (xSetCell d x1 (5 + x2) (x3 &&& 255))
theorem e_f_Disk_setByte {sc : Nat × (Nat → Int32)} {e0 : mn_E} {tl : List mn_E}    (d : DS) (x1 : Int32) (x2 : Int32) (x3 : Int32) : Ev sc 1 16 0 0 M_Disk_setByte 0 [(0, .ref 1), (1, .int x1), (2, .int x2), (3, .int x3)] [] (e0 :: (HD d tl)) (mapT ouV (fun z => (e0 :: (HD z tl))) (f_Disk_setByte d x1 x2 x3)) := by
  unfold f_Disk_setByte
  refine ev_aload_n d_Disk_setByte_0 rfl rfl ?_
  refine ev_iload_n d_Disk_setByte_1 rfl rfl ?_
  refine ev_iconst (v := 5) d_Disk_setByte_2 rfl ?_
  refine ev_iload_n d_Disk_setByte_3 rfl rfl ?_
  refine ev_iadd d_Disk_setByte_4 ?_
  refine ev_iload_n d_Disk_setByte_5 rfl rfl ?_
  refine ev_sipush (v := 255) d_Disk_setByte_6 rfl ?_
  refine ev_iand d_Disk_setByte_9 ?_
  refine ev_callr (Mc := M_Disk_setCell) (v := none) (h1 := (e0 :: (HD (xSetCell d x1 (5 + x2) (x3 &&& 255)) tl))) (k2 := 0) (n2 := 0) (inv_V (q := 1) (av := [.int x1, .int (5 + x2), .int (x3 &&& 255)]) (rest := []) rfl (ci := 1) rfl d_Disk_setByte_10 gw_177 gw_178 gw_179 mw_Disk_setCell nh_Disk_setCell pn_Disk_setCell rfl) d_Disk_setByte_10 pl_Disk_setCell (Nat.le_of_ble_eq_true rfl) (Nat.le_of_ble_eq_true rfl) (Nat.le_of_ble_eq_true rfl) rfl rfl (c_Disk_setCell (e0 := e0) (tl := tl)  d x1 (5 + x2) (x3 &&& 255)) (Or.inl (len1 (lenHD rfl))) ?_
  exact ev_pick [] rfl (e_B_Disk_setByte_13     (xSetCell d x1 (5 + x2) (x3 &&& 255)))
def f_Disk_nameAt   (d : DS) (x1 : Int32) (x2 : Int32) : (Int32 × Unit) :=
  ((((xCell d x1 (5 + x2)) * 256) + (xCell d x1 ((5 + x2) + 1))), ())
theorem e_f_Disk_nameAt {sc : Nat × (Nat → Int32)} {e0 : mn_E} {tl : List mn_E}    (d : DS) (x1 : Int32) (x2 : Int32) : Ev sc 1 16 0 0 M_Disk_nameAt 0 [(0, .ref 1), (1, .int x1), (2, .int x2)] [] (e0 :: (HD d tl)) (mapT ouI (fun z => (e0 :: (HD d tl))) (f_Disk_nameAt d x1 x2)) := by
  unfold f_Disk_nameAt
  refine ev_aload_n d_Disk_nameAt_0 rfl rfl ?_
  refine ev_iload_n d_Disk_nameAt_1 rfl rfl ?_
  refine ev_iconst (v := 5) d_Disk_nameAt_2 rfl ?_
  refine ev_iload_n d_Disk_nameAt_3 rfl rfl ?_
  refine ev_iadd d_Disk_nameAt_4 ?_
  refine ev_callr (Mc := M_Disk_cell) (v := some (.int (xCell d x1 (5 + x2)))) (h1 := (e0 :: (HD d tl))) (k2 := 0) (n2 := 0) (inv_V (q := 1) (av := [.int x1, .int (5 + x2)]) (rest := []) rfl (ci := 1) rfl d_Disk_nameAt_5 gw_197 gw_198 gw_199 mw_Disk_cell nh_Disk_cell pn_Disk_cell rfl) d_Disk_nameAt_5 pl_Disk_cell (Nat.le_of_ble_eq_true rfl) (Nat.le_of_ble_eq_true rfl) (Nat.le_of_ble_eq_true rfl) rfl rfl (c_Disk_cell (e0 := e0) (tl := tl)  d x1 (5 + x2)) (Or.inl (len1 (lenHD rfl))) ?_
  refine ev_sipush (v := 256) d_Disk_nameAt_8 rfl ?_
  refine ev_imul d_Disk_nameAt_11 ?_
  refine ev_aload_n d_Disk_nameAt_12 rfl rfl ?_
  refine ev_iload_n d_Disk_nameAt_13 rfl rfl ?_
  refine ev_iconst (v := 5) d_Disk_nameAt_14 rfl ?_
  refine ev_iload_n d_Disk_nameAt_15 rfl rfl ?_
  refine ev_iadd d_Disk_nameAt_16 ?_
  refine ev_iconst (v := 1) d_Disk_nameAt_17 rfl ?_
  refine ev_iadd d_Disk_nameAt_18 ?_
  refine ev_callr (Mc := M_Disk_cell) (v := some (.int (xCell d x1 ((5 + x2) + 1)))) (h1 := (e0 :: (HD d tl))) (k2 := 0) (n2 := 0) (inv_V (q := 1) (av := [.int x1, .int ((5 + x2) + 1)]) (rest := [.int ((xCell d x1 (5 + x2)) * 256)]) rfl (ci := 1) rfl d_Disk_nameAt_19 gw_197 gw_198 gw_199 mw_Disk_cell nh_Disk_cell pn_Disk_cell rfl) d_Disk_nameAt_19 pl_Disk_cell (Nat.le_of_ble_eq_true rfl) (Nat.le_of_ble_eq_true rfl) (Nat.le_of_ble_eq_true rfl) rfl rfl (c_Disk_cell (e0 := e0) (tl := tl)  d x1 ((5 + x2) + 1)) (Or.inl (len1 (lenHD rfl))) ?_
  refine ev_iadd d_Disk_nameAt_22 ?_
  exact ev_zret (ty := .int) rfl rfl d_Disk_nameAt_23
def B_Disk_setName_31   (d : DS) : (Unit × DS) :=
  ((), d)
theorem e_B_Disk_setName_31 {sc : Nat × (Nat → Int32)} {e0 : mn_E} {tl : List mn_E}    (d : DS) : Ev sc 1 16 0 0 M_Disk_setName 31 [] [] (e0 :: (HD d tl)) (mapT ouV (fun z => (e0 :: (HD z tl))) (B_Disk_setName_31 d)) := by
  unfold B_Disk_setName_31
  exact ev_vret rfl d_Disk_setName_31
def B_Disk_setName_16   (d : DS) (x1 : Int32) (x2 : Int32) (x3 : Int32) : (Unit × DS) :=
  B_Disk_setName_31   (xSetCell d x1 ((5 + x2) + 1) (x3 &&& 255))
theorem e_B_Disk_setName_16 {sc : Nat × (Nat → Int32)} {e0 : mn_E} {tl : List mn_E}    (d : DS) (x1 : Int32) (x2 : Int32) (x3 : Int32) : Ev sc 1 16 0 0 M_Disk_setName 16 [(0, .ref 1), (1, .int x1), (2, .int x2), (3, .int x3)] [] (e0 :: (HD d tl)) (mapT ouV (fun z => (e0 :: (HD z tl))) (B_Disk_setName_16 d x1 x2 x3)) := by
  unfold B_Disk_setName_16
  refine ev_aload_n d_Disk_setName_16 rfl rfl ?_
  refine ev_iload_n d_Disk_setName_17 rfl rfl ?_
  refine ev_iconst (v := 5) d_Disk_setName_18 rfl ?_
  refine ev_iload_n d_Disk_setName_19 rfl rfl ?_
  refine ev_iadd d_Disk_setName_20 ?_
  refine ev_iconst (v := 1) d_Disk_setName_21 rfl ?_
  refine ev_iadd d_Disk_setName_22 ?_
  refine ev_iload_n d_Disk_setName_23 rfl rfl ?_
  refine ev_sipush (v := 255) d_Disk_setName_24 rfl ?_
  refine ev_iand d_Disk_setName_27 ?_
  refine ev_callr (Mc := M_Disk_setCell) (v := none) (h1 := (e0 :: (HD (xSetCell d x1 ((5 + x2) + 1) (x3 &&& 255)) tl))) (k2 := 0) (n2 := 0) (inv_V (q := 1) (av := [.int x1, .int ((5 + x2) + 1), .int (x3 &&& 255)]) (rest := []) rfl (ci := 1) rfl d_Disk_setName_28 gw_177 gw_178 gw_179 mw_Disk_setCell nh_Disk_setCell pn_Disk_setCell rfl) d_Disk_setName_28 pl_Disk_setCell (Nat.le_of_ble_eq_true rfl) (Nat.le_of_ble_eq_true rfl) (Nat.le_of_ble_eq_true rfl) rfl rfl (c_Disk_setCell (e0 := e0) (tl := tl)  d x1 ((5 + x2) + 1) (x3 &&& 255)) (Or.inl (len1 (lenHD rfl))) ?_
  exact ev_pick [] rfl (e_B_Disk_setName_31     (xSetCell d x1 ((5 + x2) + 1) (x3 &&& 255)))
def f_Disk_setName   (d : DS) (x1 : Int32) (x2 : Int32) (x3 : Int32) : (Unit × DS) :=
  B_Disk_setName_16   (xSetCell d x1 (5 + x2) ((x3 >>> (8 &&& 31)) &&& 255)) x1 x2 x3
theorem e_f_Disk_setName {sc : Nat × (Nat → Int32)} {e0 : mn_E} {tl : List mn_E}    (d : DS) (x1 : Int32) (x2 : Int32) (x3 : Int32) : Ev sc 1 16 0 0 M_Disk_setName 0 [(0, .ref 1), (1, .int x1), (2, .int x2), (3, .int x3)] [] (e0 :: (HD d tl)) (mapT ouV (fun z => (e0 :: (HD z tl))) (f_Disk_setName d x1 x2 x3)) := by
  unfold f_Disk_setName
  refine ev_aload_n d_Disk_setName_0 rfl rfl ?_
  refine ev_iload_n d_Disk_setName_1 rfl rfl ?_
  refine ev_iconst (v := 5) d_Disk_setName_2 rfl ?_
  refine ev_iload_n d_Disk_setName_3 rfl rfl ?_
  refine ev_iadd d_Disk_setName_4 ?_
  refine ev_iload_n d_Disk_setName_5 rfl rfl ?_
  refine ev_bipush (v := 8) d_Disk_setName_6 rfl ?_
  refine ev_ishr d_Disk_setName_8 ?_
  refine ev_sipush (v := 255) d_Disk_setName_9 rfl ?_
  refine ev_iand d_Disk_setName_12 ?_
  refine ev_callr (Mc := M_Disk_setCell) (v := none) (h1 := (e0 :: (HD (xSetCell d x1 (5 + x2) ((x3 >>> (8 &&& 31)) &&& 255)) tl))) (k2 := 0) (n2 := 0) (inv_V (q := 1) (av := [.int x1, .int (5 + x2), .int ((x3 >>> (8 &&& 31)) &&& 255)]) (rest := []) rfl (ci := 1) rfl d_Disk_setName_13 gw_177 gw_178 gw_179 mw_Disk_setCell nh_Disk_setCell pn_Disk_setCell rfl) d_Disk_setName_13 pl_Disk_setCell (Nat.le_of_ble_eq_true rfl) (Nat.le_of_ble_eq_true rfl) (Nat.le_of_ble_eq_true rfl) rfl rfl (c_Disk_setCell (e0 := e0) (tl := tl)  d x1 (5 + x2) ((x3 >>> (8 &&& 31)) &&& 255)) (Or.inl (len1 (lenHD rfl))) ?_
  exact ev_pick [0, 1, 2, 3] rfl (e_B_Disk_setName_16     (xSetCell d x1 (5 + x2) ((x3 >>> (8 &&& 31)) &&& 255)) x1 x2 x3)
def B_Disk_looksLike_42   (d : DS) (x4 : Int32) (t1 : Int32) (t2 : Int32) : (Int32 × DS) :=
  ((vp_nar .boolean x4), (dSMis d (t1 + t2)))
theorem e_B_Disk_looksLike_42 {sc : Nat × (Nat → Int32)} {e0 : mn_E} {tl : List mn_E}    (d : DS) (x4 : Int32) (t1 : Int32) (t2 : Int32) : Ev sc 1 15 0 0 M_Disk_looksLike 42 [(4, .int x4)] [.int t2, .int t1, .ref 1] (e0 :: (HD d tl)) (mapT ouI (fun z => (e0 :: (HD z tl))) (B_Disk_looksLike_42 d x4 t1 t2)) := by
  unfold B_Disk_looksLike_42
  refine ev_iadd d_Disk_looksLike_42 ?_
  refine ev_put (h2 := (e0 :: (HD (dSMis d (t1 + t2)) tl))) gi_Disk ft_Disk fo_Disk fn_Disk (ci := 1) rfl rfl 3 (by decide) gw_135 rfl rfl (fun _ => rfl) (fun _ => rfl) (Nat.le_of_ble_eq_true rfl) rfl d_Disk_looksLike_43 ?_
  refine ev_iload d_Disk_looksLike_46 rfl ?_
  exact ev_zretN rfl d_Disk_looksLike_48
def B_Disk_looksLike_25   (d : DS) (t0 : Int32) : (Int32 × DS) :=
  if t0 = 0 then (B_Disk_looksLike_42   d t0 (dMis d) 1) else (B_Disk_looksLike_42   d t0 (dMis d) 0)
theorem e_B_Disk_looksLike_25 {sc : Nat × (Nat → Int32)} {e0 : mn_E} {tl : List mn_E}    (d : DS) (t0 : Int32) : Ev sc 1 15 0 0 M_Disk_looksLike 25 [(0, .ref 1)] [.int t0] (e0 :: (HD d tl)) (mapT ouI (fun z => (e0 :: (HD z tl))) (B_Disk_looksLike_25 d t0)) := by
  unfold B_Disk_looksLike_25
  refine ev_istore d_Disk_looksLike_25 (by decide) rfl ?_
  refine ev_aload_n d_Disk_looksLike_27 rfl rfl ?_
  refine ev_dup d_Disk_looksLike_28 rfl ?_
  refine ev_get (v := .int (dMis d)) gi_Disk (ci := 1) rfl rfl 3 (by decide) gw_135 rfl d_Disk_looksLike_29 ?_
  refine ev_iload d_Disk_looksLike_32 rfl ?_
  refine ev_if_eq (tgt := 41) d_Disk_looksLike_34 rfl (fun h1 => ?_) (fun h1 => ?_)
  · rw [if_pos h1]
    refine ev_iconst (v := 1) d_Disk_looksLike_41 rfl ?_
    exact ev_pick [0] rfl (e_B_Disk_looksLike_42     d t0 (dMis d) 1)
  · rw [if_neg h1]
    refine ev_iconst (v := 0) d_Disk_looksLike_37 rfl ?_
    refine ev_goto (tgt := 42) d_Disk_looksLike_38 rfl ?_
    exact ev_pick [0] rfl (e_B_Disk_looksLike_42     d t0 (dMis d) 0)
def B_Disk_looksLike_24   (d : DS) : (Int32 × DS) :=
  B_Disk_looksLike_25   d 0
theorem e_B_Disk_looksLike_24 {sc : Nat × (Nat → Int32)} {e0 : mn_E} {tl : List mn_E}    (d : DS) : Ev sc 1 15 0 0 M_Disk_looksLike 24 [(0, .ref 1)] [] (e0 :: (HD d tl)) (mapT ouI (fun z => (e0 :: (HD z tl))) (B_Disk_looksLike_24 d)) := by
  unfold B_Disk_looksLike_24
  refine ev_iconst (v := 0) d_Disk_looksLike_24 rfl ?_
  exact ev_pick [0] rfl (e_B_Disk_looksLike_25     d 0)
def f_Disk_looksLike   (d : DS) (x1 : Int32) (x2 : Int32) (x3 : Int32) : (Int32 × DS) :=
  if ¬ (xCell d x1 0) = x2 then (B_Disk_looksLike_24   d) else (if ¬ (xCell d x1 1) = x3 then (B_Disk_looksLike_24   d) else (B_Disk_looksLike_25   d 1))
theorem e_f_Disk_looksLike {sc : Nat × (Nat → Int32)} {e0 : mn_E} {tl : List mn_E}    (d : DS) (x1 : Int32) (x2 : Int32) (x3 : Int32) : Ev sc 1 15 0 0 M_Disk_looksLike 0 [(0, .ref 1), (1, .int x1), (2, .int x2), (3, .int x3)] [] (e0 :: (HD d tl)) (mapT ouI (fun z => (e0 :: (HD z tl))) (f_Disk_looksLike d x1 x2 x3)) := by
  unfold f_Disk_looksLike
  refine ev_aload_n d_Disk_looksLike_0 rfl rfl ?_
  refine ev_iload_n d_Disk_looksLike_1 rfl rfl ?_
  refine ev_iconst (v := 0) d_Disk_looksLike_2 rfl ?_
  refine ev_callr (Mc := M_Disk_cell) (v := some (.int (xCell d x1 0))) (h1 := (e0 :: (HD d tl))) (k2 := 0) (n2 := 0) (inv_V (q := 1) (av := [.int x1, .int 0]) (rest := []) rfl (ci := 1) rfl d_Disk_looksLike_3 gw_197 gw_198 gw_199 mw_Disk_cell nh_Disk_cell pn_Disk_cell rfl) d_Disk_looksLike_3 pl_Disk_cell (Nat.le_of_ble_eq_true rfl) (Nat.le_of_ble_eq_true rfl) (Nat.le_of_ble_eq_true rfl) rfl rfl (c_Disk_cell (e0 := e0) (tl := tl)  d x1 0) (Or.inl (len1 (lenHD rfl))) ?_
  refine ev_iload_n d_Disk_looksLike_6 rfl rfl ?_
  refine ev_icmp_ne (tgt := 24) d_Disk_looksLike_7 rfl (fun h1 => ?_) (fun h1 => ?_)
  · rw [if_pos h1]
    exact ev_pick [0] rfl (e_B_Disk_looksLike_24     d)
  · rw [if_neg h1]
    refine ev_aload_n d_Disk_looksLike_10 rfl rfl ?_
    refine ev_iload_n d_Disk_looksLike_11 rfl rfl ?_
    refine ev_iconst (v := 1) d_Disk_looksLike_12 rfl ?_
    refine ev_callr (Mc := M_Disk_cell) (v := some (.int (xCell d x1 1))) (h1 := (e0 :: (HD d tl))) (k2 := 0) (n2 := 0) (inv_V (q := 1) (av := [.int x1, .int 1]) (rest := []) rfl (ci := 1) rfl d_Disk_looksLike_13 gw_197 gw_198 gw_199 mw_Disk_cell nh_Disk_cell pn_Disk_cell rfl) d_Disk_looksLike_13 pl_Disk_cell (Nat.le_of_ble_eq_true rfl) (Nat.le_of_ble_eq_true rfl) (Nat.le_of_ble_eq_true rfl) rfl rfl (c_Disk_cell (e0 := e0) (tl := tl)  d x1 1) (Or.inl (len1 (lenHD rfl))) ?_
    refine ev_iload_n d_Disk_looksLike_16 rfl rfl ?_
    refine ev_icmp_ne (tgt := 24) d_Disk_looksLike_17 rfl (fun h2 => ?_) (fun h2 => ?_)
    · rw [if_pos h2]
      exact ev_pick [0] rfl (e_B_Disk_looksLike_24     d)
    · rw [if_neg h2]
      refine ev_iconst (v := 1) d_Disk_looksLike_20 rfl ?_
      refine ev_goto (tgt := 25) d_Disk_looksLike_21 rfl ?_
      exact ev_pick [0] rfl (e_B_Disk_looksLike_25     d 1)
def B_Disk_isDirectory_27   (d : DS) : (Int32 × Unit) :=
  (1, ())
theorem e_B_Disk_isDirectory_27 {sc : Nat × (Nat → Int32)} {e0 : mn_E} {tl : List mn_E}    (d : DS) : Ev sc 2 29 0 0 M_Disk_isDirectory 27 [] [] (e0 :: (HD d tl)) (mapT ouI (fun z => (e0 :: (HD d tl))) (B_Disk_isDirectory_27 d)) := by
  unfold B_Disk_isDirectory_27
  refine ev_iconst (v := 1) d_Disk_isDirectory_27 rfl ?_
  refine ev_goto (tgt := 32) d_Disk_isDirectory_28 rfl ?_
  exact ev_zret (ty := .boolean) rfl rfl d_Disk_isDirectory_32
def B_Disk_isDirectory_31   (d : DS) : (Int32 × Unit) :=
  (0, ())
theorem e_B_Disk_isDirectory_31 {sc : Nat × (Nat → Int32)} {e0 : mn_E} {tl : List mn_E}    (d : DS) : Ev sc 2 29 0 0 M_Disk_isDirectory 31 [] [] (e0 :: (HD d tl)) (mapT ouI (fun z => (e0 :: (HD d tl))) (B_Disk_isDirectory_31 d)) := by
  unfold B_Disk_isDirectory_31
  refine ev_iconst (v := 0) d_Disk_isDirectory_31 rfl ?_
  exact ev_zret (ty := .boolean) rfl rfl d_Disk_isDirectory_32
def f_Disk_isDirectory   (d : DS) (x1 : Int32) : (Int32 × Unit) :=
  if (xCell d x1 0) = 1 then (B_Disk_isDirectory_27   d) else (if (xCell d x1 0) < 3 then (B_Disk_isDirectory_31   d) else (if ¬ ((f_Disk_byteAt d x1 2).1) = 1 then (B_Disk_isDirectory_31   d) else (B_Disk_isDirectory_27   d)))
theorem e_f_Disk_isDirectory {sc : Nat × (Nat → Int32)} {e0 : mn_E} {tl : List mn_E}    (d : DS) (x1 : Int32) : Ev sc 2 29 0 0 M_Disk_isDirectory 0 [(0, .ref 1), (1, .int x1)] [] (e0 :: (HD d tl)) (mapT ouI (fun z => (e0 :: (HD d tl))) (f_Disk_isDirectory d x1)) := by
  unfold f_Disk_isDirectory
  refine ev_aload_n d_Disk_isDirectory_0 rfl rfl ?_
  refine ev_iload_n d_Disk_isDirectory_1 rfl rfl ?_
  refine ev_iconst (v := 0) d_Disk_isDirectory_2 rfl ?_
  refine ev_callr (Mc := M_Disk_cell) (v := some (.int (xCell d x1 0))) (h1 := (e0 :: (HD d tl))) (k2 := 0) (n2 := 0) (inv_V (q := 1) (av := [.int x1, .int 0]) (rest := []) rfl (ci := 1) rfl d_Disk_isDirectory_3 gw_197 gw_198 gw_199 mw_Disk_cell nh_Disk_cell pn_Disk_cell rfl) d_Disk_isDirectory_3 pl_Disk_cell (Nat.le_of_ble_eq_true rfl) (Nat.le_of_ble_eq_true rfl) (Nat.le_of_ble_eq_true rfl) rfl rfl (c_Disk_cell (e0 := e0) (tl := tl)  d x1 0) (Or.inl (len1 (lenHD rfl))) ?_
  refine ev_istore_n d_Disk_isDirectory_6 rfl (by decide) rfl ?_
  refine ev_iload_n d_Disk_isDirectory_7 rfl rfl ?_
  refine ev_iconst (v := 1) d_Disk_isDirectory_8 rfl ?_
  refine ev_icmp_eq (tgt := 27) d_Disk_isDirectory_9 rfl (fun h1 => ?_) (fun h1 => ?_)
  · rw [if_pos h1]
    exact ev_pick [] rfl (e_B_Disk_isDirectory_27     d)
  · rw [if_neg h1]
    refine ev_iload_n d_Disk_isDirectory_12 rfl rfl ?_
    refine ev_iconst (v := 3) d_Disk_isDirectory_13 rfl ?_
    refine ev_icmp_lt (tgt := 31) d_Disk_isDirectory_14 rfl (fun h2 => ?_) (fun h2 => ?_)
    · rw [if_pos h2]
      exact ev_pick [] rfl (e_B_Disk_isDirectory_31     d)
    · rw [if_neg h2]
      refine ev_aload_n d_Disk_isDirectory_17 rfl rfl ?_
      refine ev_iload_n d_Disk_isDirectory_18 rfl rfl ?_
      refine ev_iconst (v := 2) d_Disk_isDirectory_19 rfl ?_
      refine ev_callr (Mc := M_Disk_byteAt) (v := some (.int ((f_Disk_byteAt d x1 2).1))) (h1 := (e0 :: (HD d tl))) (k2 := 0) (n2 := 0) (inv_V (q := 1) (av := [.int x1, .int 2]) (rest := []) rfl (ci := 1) rfl d_Disk_isDirectory_20 gw_435 gw_412 gw_413 mw_Disk_byteAt nh_Disk_byteAt pn_Disk_byteAt rfl) d_Disk_isDirectory_20 pl_Disk_byteAt (Nat.le_of_ble_eq_true rfl) (Nat.le_of_ble_eq_true rfl) (Nat.le_of_ble_eq_true rfl) rfl rfl (e_f_Disk_byteAt (e0 := e0) (tl := tl)  d x1 2) (Or.inl (len1 (lenHD rfl))) ?_
      refine ev_iconst (v := 1) d_Disk_isDirectory_23 rfl ?_
      refine ev_icmp_ne (tgt := 31) d_Disk_isDirectory_24 rfl (fun h3 => ?_) (fun h3 => ?_)
      · rw [if_pos h3]
        exact ev_pick [] rfl (e_B_Disk_isDirectory_31     d)
      · rw [if_neg h3]
        exact ev_pick [] rfl (e_B_Disk_isDirectory_27     d)
def f_Disk_lengthUpTo   (d : DS) (x1 : Int32) : (Int32 × Unit) :=
  if ¬ (xCell d x1 1) = 0 then ((((8 * ((xCell d x1 1) - 1)) + (xCell d x1 2)), ())) else ((0, ()))
theorem e_f_Disk_lengthUpTo {sc : Nat × (Nat → Int32)} {e0 : mn_E} {tl : List mn_E}    (d : DS) (x1 : Int32) : Ev sc 1 16 0 0 M_Disk_lengthUpTo 0 [(0, .ref 1), (1, .int x1)] [] (e0 :: (HD d tl)) (mapT ouI (fun z => (e0 :: (HD d tl))) (f_Disk_lengthUpTo d x1)) := by
  unfold f_Disk_lengthUpTo
  refine ev_aload_n d_Disk_lengthUpTo_0 rfl rfl ?_
  refine ev_iload_n d_Disk_lengthUpTo_1 rfl rfl ?_
  refine ev_iconst (v := 1) d_Disk_lengthUpTo_2 rfl ?_
  refine ev_callr (Mc := M_Disk_cell) (v := some (.int (xCell d x1 1))) (h1 := (e0 :: (HD d tl))) (k2 := 0) (n2 := 0) (inv_V (q := 1) (av := [.int x1, .int 1]) (rest := []) rfl (ci := 1) rfl d_Disk_lengthUpTo_3 gw_197 gw_198 gw_199 mw_Disk_cell nh_Disk_cell pn_Disk_cell rfl) d_Disk_lengthUpTo_3 pl_Disk_cell (Nat.le_of_ble_eq_true rfl) (Nat.le_of_ble_eq_true rfl) (Nat.le_of_ble_eq_true rfl) rfl rfl (c_Disk_cell (e0 := e0) (tl := tl)  d x1 1) (Or.inl (len1 (lenHD rfl))) ?_
  refine ev_istore_n d_Disk_lengthUpTo_6 rfl (by decide) rfl ?_
  refine ev_iload_n d_Disk_lengthUpTo_7 rfl rfl ?_
  refine ev_if_ne (tgt := 15) d_Disk_lengthUpTo_8 rfl (fun h1 => ?_) (fun h1 => ?_)
  · rw [if_pos h1]
    refine ev_bipush (v := 8) d_Disk_lengthUpTo_15 rfl ?_
    refine ev_iload_n d_Disk_lengthUpTo_17 rfl rfl ?_
    refine ev_iconst (v := 1) d_Disk_lengthUpTo_18 rfl ?_
    refine ev_isub d_Disk_lengthUpTo_19 ?_
    refine ev_imul d_Disk_lengthUpTo_20 ?_
    refine ev_aload_n d_Disk_lengthUpTo_21 rfl rfl ?_
    refine ev_iload_n d_Disk_lengthUpTo_22 rfl rfl ?_
    refine ev_iconst (v := 2) d_Disk_lengthUpTo_23 rfl ?_
    refine ev_callr (Mc := M_Disk_cell) (v := some (.int (xCell d x1 2))) (h1 := (e0 :: (HD d tl))) (k2 := 0) (n2 := 0) (inv_V (q := 1) (av := [.int x1, .int 2]) (rest := [.int (8 * ((xCell d x1 1) - 1))]) rfl (ci := 1) rfl d_Disk_lengthUpTo_24 gw_197 gw_198 gw_199 mw_Disk_cell nh_Disk_cell pn_Disk_cell rfl) d_Disk_lengthUpTo_24 pl_Disk_cell (Nat.le_of_ble_eq_true rfl) (Nat.le_of_ble_eq_true rfl) (Nat.le_of_ble_eq_true rfl) rfl rfl (c_Disk_cell (e0 := e0) (tl := tl)  d x1 2) (Or.inl (len1 (lenHD rfl))) ?_
    refine ev_iadd d_Disk_lengthUpTo_27 ?_
    exact ev_zret (ty := .int) rfl rfl d_Disk_lengthUpTo_28
  · rw [if_neg h1]
    refine ev_iconst (v := 0) d_Disk_lengthUpTo_11 rfl ?_
    refine ev_goto (tgt := 28) d_Disk_lengthUpTo_12 rfl ?_
    exact ev_zret (ty := .int) rfl rfl d_Disk_lengthUpTo_28
def f_Disk_entriesIn   (d : DS) (x1 : Int32) : (Int32 × Unit) :=
  if ¬ (xCell d x1 1) = 0 then ((((xCell d x1 2) / 4), ())) else ((0, ()))
theorem e_f_Disk_entriesIn {sc : Nat × (Nat → Int32)} {e0 : mn_E} {tl : List mn_E}    (d : DS) (x1 : Int32) : Ev sc 1 15 0 0 M_Disk_entriesIn 0 [(0, .ref 1), (1, .int x1)] [] (e0 :: (HD d tl)) (mapT ouI (fun z => (e0 :: (HD d tl))) (f_Disk_entriesIn d x1)) := by
  unfold f_Disk_entriesIn
  refine ev_aload_n d_Disk_entriesIn_0 rfl rfl ?_
  refine ev_iload_n d_Disk_entriesIn_1 rfl rfl ?_
  refine ev_iconst (v := 1) d_Disk_entriesIn_2 rfl ?_
  refine ev_callr (Mc := M_Disk_cell) (v := some (.int (xCell d x1 1))) (h1 := (e0 :: (HD d tl))) (k2 := 0) (n2 := 0) (inv_V (q := 1) (av := [.int x1, .int 1]) (rest := []) rfl (ci := 1) rfl d_Disk_entriesIn_3 gw_197 gw_198 gw_199 mw_Disk_cell nh_Disk_cell pn_Disk_cell rfl) d_Disk_entriesIn_3 pl_Disk_cell (Nat.le_of_ble_eq_true rfl) (Nat.le_of_ble_eq_true rfl) (Nat.le_of_ble_eq_true rfl) rfl rfl (c_Disk_cell (e0 := e0) (tl := tl)  d x1 1) (Or.inl (len1 (lenHD rfl))) ?_
  refine ev_if_ne (tgt := 13) d_Disk_entriesIn_6 rfl (fun h1 => ?_) (fun h1 => ?_)
  · rw [if_pos h1]
    refine ev_aload_n d_Disk_entriesIn_13 rfl rfl ?_
    refine ev_iload_n d_Disk_entriesIn_14 rfl rfl ?_
    refine ev_iconst (v := 2) d_Disk_entriesIn_15 rfl ?_
    refine ev_callr (Mc := M_Disk_cell) (v := some (.int (xCell d x1 2))) (h1 := (e0 :: (HD d tl))) (k2 := 0) (n2 := 0) (inv_V (q := 1) (av := [.int x1, .int 2]) (rest := []) rfl (ci := 1) rfl d_Disk_entriesIn_16 gw_197 gw_198 gw_199 mw_Disk_cell nh_Disk_cell pn_Disk_cell rfl) d_Disk_entriesIn_16 pl_Disk_cell (Nat.le_of_ble_eq_true rfl) (Nat.le_of_ble_eq_true rfl) (Nat.le_of_ble_eq_true rfl) rfl rfl (c_Disk_cell (e0 := e0) (tl := tl)  d x1 2) (Or.inl (len1 (lenHD rfl))) ?_
    refine ev_iconst (v := 4) d_Disk_entriesIn_19 rfl ?_
    refine ev_idiv d_Disk_entriesIn_20 (by decide) ?_
    exact ev_zret (ty := .int) rfl rfl d_Disk_entriesIn_21
  · rw [if_neg h1]
    refine ev_iconst (v := 0) d_Disk_entriesIn_9 rfl ?_
    refine ev_goto (tgt := 21) d_Disk_entriesIn_10 rfl ?_
    exact ev_zret (ty := .int) rfl rfl d_Disk_entriesIn_21
def B_Disk_takesEntryBehind_23   (d : DS) : (Int32 × Unit) :=
  (0, ())
theorem e_B_Disk_takesEntryBehind_23 {sc : Nat × (Nat → Int32)} {e0 : mn_E} {tl : List mn_E}    (d : DS) : Ev sc 1 15 0 0 M_Disk_takesEntryBehind 23 [] [] (e0 :: (HD d tl)) (mapT ouI (fun z => (e0 :: (HD d tl))) (B_Disk_takesEntryBehind_23 d)) := by
  unfold B_Disk_takesEntryBehind_23
  refine ev_iconst (v := 0) d_Disk_takesEntryBehind_23 rfl ?_
  exact ev_zret (ty := .boolean) rfl rfl d_Disk_takesEntryBehind_24
def f_Disk_takesEntryBehind   (d : DS) (x1 : Int32) : (Int32 × Unit) :=
  if (xCell d x1 1) ≤ 0 then (B_Disk_takesEntryBehind_23   d) else (if 4 < (xCell d x1 2) then (B_Disk_takesEntryBehind_23   d) else ((1, ())))
theorem e_f_Disk_takesEntryBehind {sc : Nat × (Nat → Int32)} {e0 : mn_E} {tl : List mn_E}    (d : DS) (x1 : Int32) : Ev sc 1 15 0 0 M_Disk_takesEntryBehind 0 [(0, .ref 1), (1, .int x1)] [] (e0 :: (HD d tl)) (mapT ouI (fun z => (e0 :: (HD d tl))) (f_Disk_takesEntryBehind d x1)) := by
  unfold f_Disk_takesEntryBehind
  refine ev_aload_n d_Disk_takesEntryBehind_0 rfl rfl ?_
  refine ev_iload_n d_Disk_takesEntryBehind_1 rfl rfl ?_
  refine ev_iconst (v := 1) d_Disk_takesEntryBehind_2 rfl ?_
  refine ev_callr (Mc := M_Disk_cell) (v := some (.int (xCell d x1 1))) (h1 := (e0 :: (HD d tl))) (k2 := 0) (n2 := 0) (inv_V (q := 1) (av := [.int x1, .int 1]) (rest := []) rfl (ci := 1) rfl d_Disk_takesEntryBehind_3 gw_197 gw_198 gw_199 mw_Disk_cell nh_Disk_cell pn_Disk_cell rfl) d_Disk_takesEntryBehind_3 pl_Disk_cell (Nat.le_of_ble_eq_true rfl) (Nat.le_of_ble_eq_true rfl) (Nat.le_of_ble_eq_true rfl) rfl rfl (c_Disk_cell (e0 := e0) (tl := tl)  d x1 1) (Or.inl (len1 (lenHD rfl))) ?_
  refine ev_if_le (tgt := 23) d_Disk_takesEntryBehind_6 rfl (fun h1 => ?_) (fun h1 => ?_)
  · rw [if_pos h1]
    exact ev_pick [] rfl (e_B_Disk_takesEntryBehind_23     d)
  · rw [if_neg h1]
    refine ev_aload_n d_Disk_takesEntryBehind_9 rfl rfl ?_
    refine ev_iload_n d_Disk_takesEntryBehind_10 rfl rfl ?_
    refine ev_iconst (v := 2) d_Disk_takesEntryBehind_11 rfl ?_
    refine ev_callr (Mc := M_Disk_cell) (v := some (.int (xCell d x1 2))) (h1 := (e0 :: (HD d tl))) (k2 := 0) (n2 := 0) (inv_V (q := 1) (av := [.int x1, .int 2]) (rest := []) rfl (ci := 1) rfl d_Disk_takesEntryBehind_12 gw_197 gw_198 gw_199 mw_Disk_cell nh_Disk_cell pn_Disk_cell rfl) d_Disk_takesEntryBehind_12 pl_Disk_cell (Nat.le_of_ble_eq_true rfl) (Nat.le_of_ble_eq_true rfl) (Nat.le_of_ble_eq_true rfl) rfl rfl (c_Disk_cell (e0 := e0) (tl := tl)  d x1 2) (Or.inl (len1 (lenHD rfl))) ?_
    refine ev_iconst (v := 4) d_Disk_takesEntryBehind_15 rfl ?_
    refine ev_icmp_gt (tgt := 23) d_Disk_takesEntryBehind_16 rfl (fun h2 => ?_) (fun h2 => ?_)
    · rw [if_pos h2]
      exact ev_pick [] rfl (e_B_Disk_takesEntryBehind_23     d)
    · rw [if_neg h2]
      refine ev_iconst (v := 1) d_Disk_takesEntryBehind_19 rfl ?_
      refine ev_goto (tgt := 24) d_Disk_takesEntryBehind_20 rfl ?_
      exact ev_zret (ty := .boolean) rfl rfl d_Disk_takesEntryBehind_24
def f_Disk_countMiss   (d : DS) : (Unit × DS) :=
  ((), (dSMis d ((dMis d) + 1)))
theorem e_f_Disk_countMiss {sc : Nat × (Nat → Int32)} {e0 : mn_E} {tl : List mn_E}    (d : DS) : Ev sc 0 0 0 0 M_Disk_countMiss 0 [(0, .ref 1)] [] (e0 :: (HD d tl)) (mapT ouV (fun z => (e0 :: (HD z tl))) (f_Disk_countMiss d)) := by
  unfold f_Disk_countMiss
  refine ev_aload_n d_Disk_countMiss_0 rfl rfl ?_
  refine ev_dup d_Disk_countMiss_1 rfl ?_
  refine ev_get (v := .int (dMis d)) gi_Disk (ci := 1) rfl rfl 3 (by decide) gw_135 rfl d_Disk_countMiss_2 ?_
  refine ev_iconst (v := 1) d_Disk_countMiss_5 rfl ?_
  refine ev_iadd d_Disk_countMiss_6 ?_
  refine ev_put (h2 := (e0 :: (HD (dSMis d ((dMis d) + 1)) tl))) gi_Disk ft_Disk fo_Disk fn_Disk (ci := 1) rfl rfl 3 (by decide) gw_135 rfl rfl (fun _ => rfl) (fun _ => rfl) (Nat.le_of_ble_eq_true rfl) rfl d_Disk_countMiss_7 ?_
  exact ev_vret rfl d_Disk_countMiss_10
def f_Disk_missesCounted   (d : DS) : (Int32 × Unit) :=
  ((dMis d), ())
theorem e_f_Disk_missesCounted {sc : Nat × (Nat → Int32)} {e0 : mn_E} {tl : List mn_E}    (d : DS) : Ev sc 0 0 0 0 M_Disk_missesCounted 0 [(0, .ref 1)] [] (e0 :: (HD d tl)) (mapT ouI (fun z => (e0 :: (HD d tl))) (f_Disk_missesCounted d)) := by
  unfold f_Disk_missesCounted
  refine ev_aload_n d_Disk_missesCounted_0 rfl rfl ?_
  refine ev_get (v := .int (dMis d)) gi_Disk (ci := 1) rfl rfl 3 (by decide) gw_135 rfl d_Disk_missesCounted_1 ?_
  exact ev_zret (ty := .int) rfl rfl d_Disk_missesCounted_4
def f_Disk_writesCounted   (d : DS) : (Int32 × Unit) :=
  ((dWri d), ())
theorem e_f_Disk_writesCounted {sc : Nat × (Nat → Int32)} {e0 : mn_E} {tl : List mn_E}    (d : DS) : Ev sc 0 0 0 0 M_Disk_writesCounted 0 [(0, .ref 1)] [] (e0 :: (HD d tl)) (mapT ouI (fun z => (e0 :: (HD d tl))) (f_Disk_writesCounted d)) := by
  unfold f_Disk_writesCounted
  refine ev_aload_n d_Disk_writesCounted_0 rfl rfl ?_
  refine ev_get (v := .int (dWri d)) gi_Disk (ci := 1) rfl rfl 4 (by decide) gw_136 rfl d_Disk_writesCounted_1 ?_
  exact ev_zret (ty := .int) rfl rfl d_Disk_writesCounted_4
def f_Disk_hasPower   (d : DS) : (Int32 × Unit) :=
  ((vp_nar .boolean (dPow d)), ())
theorem e_f_Disk_hasPower {sc : Nat × (Nat → Int32)} {e0 : mn_E} {tl : List mn_E}    (d : DS) : Ev sc 0 0 0 0 M_Disk_hasPower 0 [(0, .ref 1)] [] (e0 :: (HD d tl)) (mapT ouI (fun z => (e0 :: (HD d tl))) (f_Disk_hasPower d)) := by
  unfold f_Disk_hasPower
  refine ev_aload_n d_Disk_hasPower_0 rfl rfl ?_
  refine ev_get (v := .int (dPow d)) gi_Disk (ci := 1) rfl rfl 6 (by decide) gw_138 rfl d_Disk_hasPower_1 ?_
  exact ev_zretN rfl d_Disk_hasPower_4
def f_Disk_limitWrites   (d : DS) (x1 : Int32) : (Unit × DS) :=
  ((), (dSChg d x1))
theorem e_f_Disk_limitWrites {sc : Nat × (Nat → Int32)} {e0 : mn_E} {tl : List mn_E}    (d : DS) (x1 : Int32) : Ev sc 0 0 0 0 M_Disk_limitWrites 0 [(0, .ref 1), (1, .int x1)] [] (e0 :: (HD d tl)) (mapT ouV (fun z => (e0 :: (HD z tl))) (f_Disk_limitWrites d x1)) := by
  unfold f_Disk_limitWrites
  refine ev_aload_n d_Disk_limitWrites_0 rfl rfl ?_
  refine ev_iload_n d_Disk_limitWrites_1 rfl rfl ?_
  refine ev_put (h2 := (e0 :: (HD (dSChg d x1) tl))) gi_Disk ft_Disk fo_Disk fn_Disk (ci := 1) rfl rfl 5 (by decide) gw_137 rfl rfl (fun _ => rfl) (fun _ => rfl) (Nat.le_of_ble_eq_true rfl) rfl d_Disk_limitWrites_2 ?_
  exact ev_vret rfl d_Disk_limitWrites_5
def f_Disk_restorePower   (d : DS) : (Unit × DS) :=
  ((), (dSChg (dSPow d 1) (-1)))
theorem e_f_Disk_restorePower {sc : Nat × (Nat → Int32)} {e0 : mn_E} {tl : List mn_E}    (d : DS) : Ev sc 0 0 0 0 M_Disk_restorePower 0 [(0, .ref 1)] [] (e0 :: (HD d tl)) (mapT ouV (fun z => (e0 :: (HD z tl))) (f_Disk_restorePower d)) := by
  unfold f_Disk_restorePower
  refine ev_aload_n d_Disk_restorePower_0 rfl rfl ?_
  refine ev_iconst (v := 1) d_Disk_restorePower_1 rfl ?_
  refine ev_put (h2 := (e0 :: (HD (dSPow d 1) tl))) gi_Disk ft_Disk fo_Disk fn_Disk (ci := 1) rfl rfl 6 (by decide) gw_138 rfl rfl (fun _ => rfl) (fun _ => rfl) (Nat.le_of_ble_eq_true rfl) rfl d_Disk_restorePower_2 ?_
  refine ev_aload_n d_Disk_restorePower_5 rfl rfl ?_
  refine ev_iconst (v := -1) d_Disk_restorePower_6 rfl ?_
  refine ev_put (h2 := (e0 :: (HD (dSChg (dSPow d 1) (-1)) tl))) gi_Disk ft_Disk fo_Disk fn_Disk (ci := 1) rfl rfl 5 (by decide) gw_137 rfl rfl (fun _ => rfl) (fun _ => rfl) (Nat.le_of_ble_eq_true rfl) rfl d_Disk_restorePower_7 ?_
  exact ev_vret rfl d_Disk_restorePower_10
def B_Disk_spendWrite_37   (d : DS) : ((Nat ⊕ Unit) × DS) :=
  (.inr (), (dSWri d ((dWri d) + 1)))
theorem e_B_Disk_spendWrite_37 {sc : Nat × (Nat → Int32)} {e0 : mn_E} {tl : List mn_E}    (d : DS) : Ev sc 6 81 0 0 M_Disk_spendWrite 37 [(0, .ref 1)] [] (e0 :: (HD d tl)) (mapT ouVT (fun z => (e0 :: (HD z tl))) (B_Disk_spendWrite_37 d)) := by
  unfold B_Disk_spendWrite_37
  refine ev_aload_n d_Disk_spendWrite_37 rfl rfl ?_
  refine ev_dup d_Disk_spendWrite_38 rfl ?_
  refine ev_get (v := .int (dWri d)) gi_Disk (ci := 1) rfl rfl 4 (by decide) gw_136 rfl d_Disk_spendWrite_39 ?_
  refine ev_iconst (v := 1) d_Disk_spendWrite_42 rfl ?_
  refine ev_iadd d_Disk_spendWrite_43 ?_
  refine ev_put (h2 := (e0 :: (HD (dSWri d ((dWri d) + 1)) tl))) gi_Disk ft_Disk fo_Disk fn_Disk (ci := 1) rfl rfl 4 (by decide) gw_136 rfl rfl (fun _ => rfl) (fun _ => rfl) (Nat.le_of_ble_eq_true rfl) rfl d_Disk_spendWrite_44 ?_
  exact ev_vret rfl d_Disk_spendWrite_47
def f_Disk_spendWrite   (d : DS) : ((Nat ⊕ Unit) × DS) :=
  if ¬ (dChg d) = 0 then (if (dChg d) ≤ 0 then (B_Disk_spendWrite_37   d) else (B_Disk_spendWrite_37   (dSChg d ((dChg d) - 1)))) else ((.inl 1, (dSPow d 0)))
theorem e_f_Disk_spendWrite {sc : Nat × (Nat → Int32)} {e0 : mn_E} {tl : List mn_E}    (d : DS) : Ev sc 6 81 0 0 M_Disk_spendWrite 0 [(0, .ref 1)] [] (e0 :: (HD d tl)) (mapT ouVT (fun z => (e0 :: (HD z tl))) (f_Disk_spendWrite d)) := by
  unfold f_Disk_spendWrite
  refine ev_aload_n d_Disk_spendWrite_0 rfl rfl ?_
  refine ev_get (v := .int (dChg d)) gi_Disk (ci := 1) rfl rfl 5 (by decide) gw_137 rfl d_Disk_spendWrite_1 ?_
  refine ev_if_ne (tgt := 20) d_Disk_spendWrite_4 rfl (fun h1 => ?_) (fun h1 => ?_)
  · rw [if_pos h1]
    refine ev_aload_n d_Disk_spendWrite_20 rfl rfl ?_
    refine ev_get (v := .int (dChg d)) gi_Disk (ci := 1) rfl rfl 5 (by decide) gw_137 rfl d_Disk_spendWrite_21 ?_
    refine ev_if_le (tgt := 37) d_Disk_spendWrite_24 rfl (fun h2 => ?_) (fun h2 => ?_)
    · rw [if_pos h2]
      exact ev_pick [0] rfl (e_B_Disk_spendWrite_37     d)
    · rw [if_neg h2]
      refine ev_aload_n d_Disk_spendWrite_27 rfl rfl ?_
      refine ev_dup d_Disk_spendWrite_28 rfl ?_
      refine ev_get (v := .int (dChg d)) gi_Disk (ci := 1) rfl rfl 5 (by decide) gw_137 rfl d_Disk_spendWrite_29 ?_
      refine ev_iconst (v := 1) d_Disk_spendWrite_32 rfl ?_
      refine ev_isub d_Disk_spendWrite_33 ?_
      refine ev_put (h2 := (e0 :: (HD (dSChg d ((dChg d) - 1)) tl))) gi_Disk ft_Disk fo_Disk fn_Disk (ci := 1) rfl rfl 5 (by decide) gw_137 rfl rfl (fun _ => rfl) (fun _ => rfl) (Nat.le_of_ble_eq_true rfl) rfl d_Disk_spendWrite_34 ?_
      exact ev_pick [0] rfl (e_B_Disk_spendWrite_37     (dSChg d ((dChg d) - 1)))
  · rw [if_neg h1]
    refine ev_aload_n d_Disk_spendWrite_7 rfl rfl ?_
    refine ev_iconst (v := 0) d_Disk_spendWrite_8 rfl ?_
    refine ev_put (h2 := (e0 :: (HD (dSPow d 0) tl))) gi_Disk ft_Disk fo_Disk fn_Disk (ci := 1) rfl rfl 6 (by decide) gw_138 rfl rfl (fun _ => rfl) (fun _ => rfl) (Nat.le_of_ble_eq_true rfl) rfl d_Disk_spendWrite_9 ?_
    exact ev_throw (x := 1) (names := gd_up) d_Disk_spendWrite_12 d_Disk_spendWrite_15 d_Disk_spendWrite_16 d_Disk_spendWrite_19 gw_794 gw_581 gw_112 tw_Disk_82 (by decide +kernel) (by decide +kernel) rfl (by decide) (Nat.le_of_ble_eq_true rfl)
def f_Disk_keepEarlier   (d : DS) : (Unit × DS) :=
  ((), (dSEarl d (va_cpy (dCells d) (dEarl d) (0 : Int32).toNatClampNeg (0 : Int32).toNatClampNeg (520 : Int32).toNatClampNeg)))
theorem e_f_Disk_keepEarlier {sc : Nat × (Nat → Int32)} {e0 : mn_E} {tl : List mn_E}    (d : DS) : Ev sc 1 60 0 0 M_Disk_keepEarlier 0 [(0, .ref 1)] [] (e0 :: (HD d tl)) (mapT ouV (fun z => (e0 :: (HD z tl))) (f_Disk_keepEarlier d)) := by
  unfold f_Disk_keepEarlier
  refine ev_aload_n d_Disk_keepEarlier_0 rfl rfl ?_
  refine ev_get (v := .ref 2) gi_Disk (ci := 1) rfl rfl 0 (by decide) gw_132 rfl d_Disk_keepEarlier_1 ?_
  refine ev_iconst (v := 0) d_Disk_keepEarlier_4 rfl ?_
  refine ev_aload_n d_Disk_keepEarlier_5 rfl rfl ?_
  refine ev_get (v := .ref 3) gi_Disk (ci := 1) rfl rfl 1 (by decide) gw_133 rfl d_Disk_keepEarlier_6 ?_
  refine ev_iconst (v := 0) d_Disk_keepEarlier_9 rfl ?_
  refine ev_sipush (v := 520) d_Disk_keepEarlier_10 rfl ?_
  refine ev_copyi (h2 := (e0 :: (HD (dSEarl d (va_cpy (dCells d) (dEarl d) (0 : Int32).toNatClampNeg (0 : Int32).toNatClampNeg (520 : Int32).toNatClampNeg)) tl))) gw_334 gw_336 gw_335 gw_117 rfl rfl (by decide) (by decide) (by decide) (by decide) (by decide) rfl (by decide) (Nat.le_of_ble_eq_true rfl) d_Disk_keepEarlier_13 ?_
  exact ev_vret rfl d_Disk_keepEarlier_16
def f_Disk_makeUnreadable   (d : DS) (x1 : Int32) : Option (Unit × DS) :=
  if (xRead d x1) = 0 then (some ((), d)) else (if inB x1 40 then (some ((), (dSUnr d (upd (dUnr d) x1.toNatClampNeg (vp_nar .boolean 1))))) else none)
theorem e_f_Disk_makeUnreadable {sc : Nat × (Nat → Int32)} {e0 : mn_E} {tl : List mn_E}    (d : DS) (x1 : Int32) : Ev sc 1 13 0 0 M_Disk_makeUnreadable 0 [(0, .ref 1), (1, .int x1)] [] (e0 :: (HD d tl)) (mapR ouV (fun z => (e0 :: (HD z tl))) (f_Disk_makeUnreadable d x1)) := by
  unfold f_Disk_makeUnreadable
  refine ev_aload_n d_Disk_makeUnreadable_0 rfl rfl ?_
  refine ev_iload_n d_Disk_makeUnreadable_1 rfl rfl ?_
  refine ev_callr (Mc := M_Disk_isReadable) (v := some (.int (xRead d x1))) (h1 := (e0 :: (HD d tl))) (k2 := 0) (n2 := 0) (inv_V (q := 1) (av := [.int x1]) (rest := []) rfl (ci := 1) rfl d_Disk_makeUnreadable_2 gw_517 gw_510 gw_511 mw_Disk_isReadable nh_Disk_isReadable pn_Disk_isReadable rfl) d_Disk_makeUnreadable_2 pl_Disk_isReadable (Nat.le_of_ble_eq_true rfl) (Nat.le_of_ble_eq_true rfl) (Nat.le_of_ble_eq_true rfl) rfl rfl (c_Disk_isReadable (e0 := e0) (tl := tl)  d x1) (Or.inl (len1 (lenHD rfl))) ?_
  refine ev_if_eq (tgt := 15) d_Disk_makeUnreadable_5 rfl (fun h1 => ?_) (fun h1 => ?_)
  · rw [if_pos h1]
    exact ev_vret rfl d_Disk_makeUnreadable_15
  · rw [if_neg h1]
    refine ev_aload_n d_Disk_makeUnreadable_8 rfl rfl ?_
    refine ev_get (v := .ref 4) gi_Disk (ci := 1) rfl rfl 2 (by decide) gw_134 rfl d_Disk_makeUnreadable_9 ?_
    refine ev_iload_n d_Disk_makeUnreadable_12 rfl rfl ?_
    refine ev_iconst (v := 1) d_Disk_makeUnreadable_13 rfl ?_
    refine ev_inB (fun h2 => ?_)
    refine ev_zastore (h2 := (e0 :: (HD (dSUnr d (upd (dUnr d) x1.toNatClampNeg (vp_nar .boolean 1))) tl))) rfl (inB_of h2) rfl d_Disk_makeUnreadable_14 ?_
    exact ev_vret rfl d_Disk_makeUnreadable_15
def B_Disk_search_30  (r2 : DS → Int32 → Int32 → Int32 → Option (Int32 × Unit)) (d : DS) (x1 : Int32) (x2 : Int32) (x3 : Int32) : Option (Int32 × Unit) :=
  r2 d x1 x2 (x3 + 1)
theorem e_B_Disk_search_30 {sc : Nat × (Nat → Int32)} {e0 : mn_E} {tl : List mn_E}  (r2 : DS → Int32 → Int32 → Int32 → Option (Int32 × Unit)) (hr2 : ∀ (d : DS) (x1 : Int32) (x2 : Int32) (x3 : Int32), Ev sc 1 15 0 0 M_Disk_search 2 [(0, .ref 1), (1, .int x1), (2, .int x2), (3, .int x3)] [] (e0 :: (HD d tl)) (mapR ouI (fun z => (e0 :: (HD d tl))) (r2 d x1 x2 x3))) (d : DS) (x1 : Int32) (x2 : Int32) (x3 : Int32) : Ev sc 1 15 0 0 M_Disk_search 30 [(0, .ref 1), (1, .int x1), (2, .int x2), (3, .int x3)] [] (e0 :: (HD d tl)) (mapR ouI (fun z => (e0 :: (HD d tl))) (B_Disk_search_30 r2 d x1 x2 x3)) := by
  unfold B_Disk_search_30
  refine ev_iinc (v := (x3 + 1)) d_Disk_search_30 rfl rfl (by decide) rfl ?_
  refine ev_goto (tgt := 2) d_Disk_search_33 rfl ?_
  exact ev_pick [1, 2, 3, 0] rfl (hr2 d x1 x2 (x3 + 1))
def L_Disk_search_2   : Nat → DS → Int32 → Int32 → Int32 → Option (Int32 × Unit)
  | 0, _, _, _, _ => none
  | n + 1, d, x1, x2, x3 =>
  if 40 ≤ x3 then (some ((-1), ())) else (if ¬ (xCell d x3 0) = x1 then (B_Disk_search_30  (L_Disk_search_2 n) d x1 x2 x3) else (if ¬ (xCell d x3 1) = x2 then (B_Disk_search_30  (L_Disk_search_2 n) d x1 x2 x3) else (some (x3, ()))))
theorem e_L_Disk_search_2 {sc : Nat × (Nat → Int32)} {e0 : mn_E} {tl : List mn_E}    : ∀ (n : Nat) (d : DS) (x1 : Int32) (x2 : Int32) (x3 : Int32), Ev sc 1 15 0 0 M_Disk_search 2 [(0, .ref 1), (1, .int x1), (2, .int x2), (3, .int x3)] [] (e0 :: (HD d tl)) (mapR ouI (fun z => (e0 :: (HD d tl))) (L_Disk_search_2   n d x1 x2 x3)) := by
  intro n
  induction n with
  | zero => intro d x1 x2 x3; exact ev_none
  | succ n ih =>
    intro d x1 x2 x3
    rw [L_Disk_search_2]
    refine ev_iload_n d_Disk_search_2 rfl rfl ?_
    refine ev_bipush (v := 40) d_Disk_search_3 rfl ?_
    refine ev_icmp_ge (tgt := 36) d_Disk_search_5 rfl (fun h1 => ?_) (fun h1 => ?_)
    · rw [if_pos h1]
      refine ev_iconst (v := -1) d_Disk_search_36 rfl ?_
      exact ev_zret (ty := .int) rfl rfl d_Disk_search_37
    · rw [if_neg h1]
      refine ev_aload_n d_Disk_search_8 rfl rfl ?_
      refine ev_iload_n d_Disk_search_9 rfl rfl ?_
      refine ev_iconst (v := 0) d_Disk_search_10 rfl ?_
      refine ev_callr (Mc := M_Disk_cell) (v := some (.int (xCell d x3 0))) (h1 := (e0 :: (HD d tl))) (k2 := 0) (n2 := 0) (inv_V (q := 1) (av := [.int x3, .int 0]) (rest := []) rfl (ci := 1) rfl d_Disk_search_11 gw_197 gw_198 gw_199 mw_Disk_cell nh_Disk_cell pn_Disk_cell rfl) d_Disk_search_11 pl_Disk_cell (Nat.le_of_ble_eq_true rfl) (Nat.le_of_ble_eq_true rfl) (Nat.le_of_ble_eq_true rfl) rfl rfl (c_Disk_cell (e0 := e0) (tl := tl)  d x3 0) (Or.inl (len1 (lenHD rfl))) ?_
      refine ev_iload_n d_Disk_search_14 rfl rfl ?_
      refine ev_icmp_ne (tgt := 30) d_Disk_search_15 rfl (fun h2 => ?_) (fun h2 => ?_)
      · rw [if_pos h2]
        exact ev_pick [0, 1, 2, 3] rfl (e_B_Disk_search_30   (L_Disk_search_2 n) ih d x1 x2 x3)
      · rw [if_neg h2]
        refine ev_aload_n d_Disk_search_18 rfl rfl ?_
        refine ev_iload_n d_Disk_search_19 rfl rfl ?_
        refine ev_iconst (v := 1) d_Disk_search_20 rfl ?_
        refine ev_callr (Mc := M_Disk_cell) (v := some (.int (xCell d x3 1))) (h1 := (e0 :: (HD d tl))) (k2 := 0) (n2 := 0) (inv_V (q := 1) (av := [.int x3, .int 1]) (rest := []) rfl (ci := 1) rfl d_Disk_search_21 gw_197 gw_198 gw_199 mw_Disk_cell nh_Disk_cell pn_Disk_cell rfl) d_Disk_search_21 pl_Disk_cell (Nat.le_of_ble_eq_true rfl) (Nat.le_of_ble_eq_true rfl) (Nat.le_of_ble_eq_true rfl) rfl rfl (c_Disk_cell (e0 := e0) (tl := tl)  d x3 1) (Or.inl (len1 (lenHD rfl))) ?_
        refine ev_iload_n d_Disk_search_24 rfl rfl ?_
        refine ev_icmp_ne (tgt := 30) d_Disk_search_25 rfl (fun h3 => ?_) (fun h3 => ?_)
        · rw [if_pos h3]
          exact ev_pick [0, 1, 2, 3] rfl (e_B_Disk_search_30   (L_Disk_search_2 n) ih d x1 x2 x3)
        · rw [if_neg h3]
          refine ev_iload_n d_Disk_search_28 rfl rfl ?_
          exact ev_zret (ty := .int) rfl rfl d_Disk_search_29
def f_Disk_search   (d : DS) (x1 : Int32) (x2 : Int32) : Option (Int32 × Unit) :=
  L_Disk_search_2   100 d x1 x2 0
theorem e_f_Disk_search {sc : Nat × (Nat → Int32)} {e0 : mn_E} {tl : List mn_E}    (d : DS) (x1 : Int32) (x2 : Int32) : Ev sc 1 15 0 0 M_Disk_search 0 [(0, .ref 1), (1, .int x1), (2, .int x2)] [] (e0 :: (HD d tl)) (mapR ouI (fun z => (e0 :: (HD d tl))) (f_Disk_search d x1 x2)) := by
  unfold f_Disk_search
  refine ev_iconst (v := 0) d_Disk_search_0 rfl ?_
  refine ev_istore_n d_Disk_search_1 rfl (by decide) rfl ?_
  exact ev_pick [1, 2, 3, 0] rfl (e_L_Disk_search_2     100 d x1 x2 0)
def L_Disk_lowestFree_2   : Nat → DS → Int32 → Option (Int32 × Unit)
  | 0, _, _ => none
  | n + 1, d, x1 =>
  if 40 ≤ x1 then (some ((-1), ())) else (if ((f_Disk_isFree d x1).1) = 0 then ((L_Disk_lowestFree_2 n) d (x1 + 1)) else (some (x1, ())))
theorem e_L_Disk_lowestFree_2 {sc : Nat × (Nat → Int32)} {e0 : mn_E} {tl : List mn_E}    : ∀ (n : Nat) (d : DS) (x1 : Int32), Ev sc 2 28 0 0 M_Disk_lowestFree 2 [(0, .ref 1), (1, .int x1)] [] (e0 :: (HD d tl)) (mapR ouI (fun z => (e0 :: (HD d tl))) (L_Disk_lowestFree_2   n d x1)) := by
  intro n
  induction n with
  | zero => intro d x1; exact ev_none
  | succ n ih =>
    intro d x1
    rw [L_Disk_lowestFree_2]
    refine ev_iload_n d_Disk_lowestFree_2 rfl rfl ?_
    refine ev_bipush (v := 40) d_Disk_lowestFree_3 rfl ?_
    refine ev_icmp_ge (tgt := 24) d_Disk_lowestFree_5 rfl (fun h1 => ?_) (fun h1 => ?_)
    · rw [if_pos h1]
      refine ev_iconst (v := -1) d_Disk_lowestFree_24 rfl ?_
      exact ev_zret (ty := .int) rfl rfl d_Disk_lowestFree_25
    · rw [if_neg h1]
      refine ev_aload_n d_Disk_lowestFree_8 rfl rfl ?_
      refine ev_iload_n d_Disk_lowestFree_9 rfl rfl ?_
      refine ev_callr (Mc := M_Disk_isFree) (v := some (.int ((f_Disk_isFree d x1).1))) (h1 := (e0 :: (HD d tl))) (k2 := 0) (n2 := 0) (inv_V (q := 1) (av := [.int x1]) (rest := []) rfl (ci := 1) rfl d_Disk_lowestFree_10 gw_205 gw_206 gw_207 mw_Disk_isFree nh_Disk_isFree pn_Disk_isFree rfl) d_Disk_lowestFree_10 pl_Disk_isFree (Nat.le_of_ble_eq_true rfl) (Nat.le_of_ble_eq_true rfl) (Nat.le_of_ble_eq_true rfl) rfl rfl (e_f_Disk_isFree (e0 := e0) (tl := tl)  d x1) (Or.inl (len1 (lenHD rfl))) ?_
      refine ev_if_eq (tgt := 18) d_Disk_lowestFree_13 rfl (fun h2 => ?_) (fun h2 => ?_)
      · rw [if_pos h2]
        refine ev_iinc (v := (x1 + 1)) d_Disk_lowestFree_18 rfl rfl (by decide) rfl ?_
        refine ev_goto (tgt := 2) d_Disk_lowestFree_21 rfl ?_
        exact ev_pick [1, 0] rfl (ih d (x1 + 1))
      · rw [if_neg h2]
        refine ev_iload_n d_Disk_lowestFree_16 rfl rfl ?_
        exact ev_zret (ty := .int) rfl rfl d_Disk_lowestFree_17
def f_Disk_lowestFree   (d : DS) : Option (Int32 × Unit) :=
  L_Disk_lowestFree_2   100 d 0
theorem e_f_Disk_lowestFree {sc : Nat × (Nat → Int32)} {e0 : mn_E} {tl : List mn_E}    (d : DS) : Ev sc 2 28 0 0 M_Disk_lowestFree 0 [(0, .ref 1)] [] (e0 :: (HD d tl)) (mapR ouI (fun z => (e0 :: (HD d tl))) (f_Disk_lowestFree d)) := by
  unfold f_Disk_lowestFree
  refine ev_iconst (v := 0) d_Disk_lowestFree_0 rfl ?_
  refine ev_istore_n d_Disk_lowestFree_1 rfl (by decide) rfl ?_
  exact ev_pick [1, 0] rfl (e_L_Disk_lowestFree_2     100 d 0)
def B_Disk_lowestUnsaidSerial_59   (d : DS) (x3 : Int32) : Option (Int32 × Unit) :=
  some (x3, ())
theorem e_B_Disk_lowestUnsaidSerial_59 {sc : Nat × (Nat → Int32)} {e0 : mn_E} {tl : List mn_E}    (d : DS) (x3 : Int32) : Ev sc 2 28 0 0 M_Disk_lowestUnsaidSerial 59 [(3, .int x3)] [] (e0 :: (HD d tl)) (mapR ouI (fun z => (e0 :: (HD d tl))) (B_Disk_lowestUnsaidSerial_59 d x3)) := by
  unfold B_Disk_lowestUnsaidSerial_59
  refine ev_iload_n d_Disk_lowestUnsaidSerial_59 rfl rfl ?_
  exact ev_zret (ty := .int) rfl rfl d_Disk_lowestUnsaidSerial_60
def L_Disk_lowestUnsaidSerial_37   : Nat → DS → Int64 → Int32 → Option (Int32 × Unit)
  | 0, _, _, _ => none
  | n + 1, d, x1, x3 =>
  if 60 ≤ x3 then (B_Disk_lowestUnsaidSerial_59   d x3) else (if ¬ (lg_cmp ((x1 >>> (x3.toInt64 &&& 63)) &&& 1) 1) = 0 then (B_Disk_lowestUnsaidSerial_59   d x3) else ((L_Disk_lowestUnsaidSerial_37 n) d x1 (x3 + 1)))
theorem e_L_Disk_lowestUnsaidSerial_37 {sc : Nat × (Nat → Int32)} {e0 : mn_E} {tl : List mn_E}    : ∀ (n : Nat) (d : DS) (x1 : Int64) (x3 : Int32), Ev sc 2 28 0 0 M_Disk_lowestUnsaidSerial 37 [(1, .long x1), (3, .int x3)] [] (e0 :: (HD d tl)) (mapR ouI (fun z => (e0 :: (HD d tl))) (L_Disk_lowestUnsaidSerial_37   n d x1 x3)) := by
  intro n
  induction n with
  | zero => intro d x1 x3; exact ev_none
  | succ n ih =>
    intro d x1 x3
    rw [L_Disk_lowestUnsaidSerial_37]
    refine ev_iload_n d_Disk_lowestUnsaidSerial_37 rfl rfl ?_
    refine ev_bipush (v := 60) d_Disk_lowestUnsaidSerial_38 rfl ?_
    refine ev_icmp_ge (tgt := 59) d_Disk_lowestUnsaidSerial_40 rfl (fun h1 => ?_) (fun h1 => ?_)
    · rw [if_pos h1]
      exact ev_pick [1] rfl (e_B_Disk_lowestUnsaidSerial_59     d x3)
    · rw [if_neg h1]
      refine ev_lload_n d_Disk_lowestUnsaidSerial_43 rfl rfl ?_
      refine ev_iload_n d_Disk_lowestUnsaidSerial_44 rfl rfl ?_
      refine ev_lshr d_Disk_lowestUnsaidSerial_45 ?_
      refine ev_lconst (v := 1) d_Disk_lowestUnsaidSerial_46 rfl ?_
      refine ev_land d_Disk_lowestUnsaidSerial_47 ?_
      refine ev_lconst (v := 1) d_Disk_lowestUnsaidSerial_48 rfl ?_
      refine ev_lcmp d_Disk_lowestUnsaidSerial_49 ?_
      refine ev_if_ne (tgt := 59) d_Disk_lowestUnsaidSerial_50 rfl (fun h2 => ?_) (fun h2 => ?_)
      · rw [if_pos h2]
        exact ev_pick [1] rfl (e_B_Disk_lowestUnsaidSerial_59     d x3)
      · rw [if_neg h2]
        refine ev_iinc (v := (x3 + 1)) d_Disk_lowestUnsaidSerial_53 rfl rfl (by decide) rfl ?_
        refine ev_goto (tgt := 37) d_Disk_lowestUnsaidSerial_56 rfl ?_
        exact ev_pick [1, 0] rfl (ih d x1 (x3 + 1))
def B_Disk_lowestUnsaidSerial_29  (r4 : DS → Int64 → Int32 → Option (Int32 × Unit)) (d : DS) (x1 : Int64) (x3 : Int32) : Option (Int32 × Unit) :=
  r4 d x1 (x3 + 1)
theorem e_B_Disk_lowestUnsaidSerial_29 {sc : Nat × (Nat → Int32)} {e0 : mn_E} {tl : List mn_E}  (r4 : DS → Int64 → Int32 → Option (Int32 × Unit)) (hr4 : ∀ (d : DS) (x1 : Int64) (x3 : Int32), Ev sc 2 28 0 0 M_Disk_lowestUnsaidSerial 4 [(0, .ref 1), (1, .long x1), (3, .int x3)] [] (e0 :: (HD d tl)) (mapR ouI (fun z => (e0 :: (HD d tl))) (r4 d x1 x3))) (d : DS) (x1 : Int64) (x3 : Int32) : Ev sc 2 28 0 0 M_Disk_lowestUnsaidSerial 29 [(0, .ref 1), (1, .long x1), (3, .int x3)] [] (e0 :: (HD d tl)) (mapR ouI (fun z => (e0 :: (HD d tl))) (B_Disk_lowestUnsaidSerial_29 r4 d x1 x3)) := by
  unfold B_Disk_lowestUnsaidSerial_29
  refine ev_iinc (v := (x3 + 1)) d_Disk_lowestUnsaidSerial_29 rfl rfl (by decide) rfl ?_
  refine ev_goto (tgt := 4) d_Disk_lowestUnsaidSerial_32 rfl ?_
  exact ev_pick [1, 2, 0] rfl (hr4 d x1 (x3 + 1))
def L_Disk_lowestUnsaidSerial_4   : Nat → DS → Int64 → Int32 → Option (Int32 × Unit)
  | 0, _, _, _ => none
  | n + 1, d, x1, x3 =>
  if 40 ≤ x3 then (L_Disk_lowestUnsaidSerial_37   100 d x1 3) else (if ((f_Disk_isInUse d x3).1) = 0 then (B_Disk_lowestUnsaidSerial_29  (L_Disk_lowestUnsaidSerial_4 n) d x1 x3) else (B_Disk_lowestUnsaidSerial_29  (L_Disk_lowestUnsaidSerial_4 n) d (x1 ||| (1 <<< ((xCell d x3 0).toInt64 &&& 63))) x3))
theorem e_L_Disk_lowestUnsaidSerial_4 {sc : Nat × (Nat → Int32)} {e0 : mn_E} {tl : List mn_E}    : ∀ (n : Nat) (d : DS) (x1 : Int64) (x3 : Int32), Ev sc 2 28 0 0 M_Disk_lowestUnsaidSerial 4 [(0, .ref 1), (1, .long x1), (3, .int x3)] [] (e0 :: (HD d tl)) (mapR ouI (fun z => (e0 :: (HD d tl))) (L_Disk_lowestUnsaidSerial_4   n d x1 x3)) := by
  intro n
  induction n with
  | zero => intro d x1 x3; exact ev_none
  | succ n ih =>
    intro d x1 x3
    rw [L_Disk_lowestUnsaidSerial_4]
    refine ev_iload_n d_Disk_lowestUnsaidSerial_4 rfl rfl ?_
    refine ev_bipush (v := 40) d_Disk_lowestUnsaidSerial_5 rfl ?_
    refine ev_icmp_ge (tgt := 35) d_Disk_lowestUnsaidSerial_7 rfl (fun h1 => ?_) (fun h1 => ?_)
    · rw [if_pos h1]
      refine ev_iconst (v := 3) d_Disk_lowestUnsaidSerial_35 rfl ?_
      refine ev_istore_n d_Disk_lowestUnsaidSerial_36 rfl (by decide) rfl ?_
      exact ev_pick [2, 0] rfl (e_L_Disk_lowestUnsaidSerial_37     100 d x1 3)
    · rw [if_neg h1]
      refine ev_aload_n d_Disk_lowestUnsaidSerial_10 rfl rfl ?_
      refine ev_iload_n d_Disk_lowestUnsaidSerial_11 rfl rfl ?_
      refine ev_callr (Mc := M_Disk_isInUse) (v := some (.int ((f_Disk_isInUse d x3).1))) (h1 := (e0 :: (HD d tl))) (k2 := 0) (n2 := 0) (inv_V (q := 1) (av := [.int x3]) (rest := []) rfl (ci := 1) rfl d_Disk_lowestUnsaidSerial_12 gw_785 gw_355 gw_356 mw_Disk_isInUse nh_Disk_isInUse pn_Disk_isInUse rfl) d_Disk_lowestUnsaidSerial_12 pl_Disk_isInUse (Nat.le_of_ble_eq_true rfl) (Nat.le_of_ble_eq_true rfl) (Nat.le_of_ble_eq_true rfl) rfl rfl (e_f_Disk_isInUse (e0 := e0) (tl := tl)  d x3) (Or.inl (len1 (lenHD rfl))) ?_
      refine ev_if_eq (tgt := 29) d_Disk_lowestUnsaidSerial_15 rfl (fun h2 => ?_) (fun h2 => ?_)
      · rw [if_pos h2]
        exact ev_pick [0, 1, 2] rfl (e_B_Disk_lowestUnsaidSerial_29   (L_Disk_lowestUnsaidSerial_4 n) ih d x1 x3)
      · rw [if_neg h2]
        refine ev_lload_n d_Disk_lowestUnsaidSerial_18 rfl rfl ?_
        refine ev_lconst (v := 1) d_Disk_lowestUnsaidSerial_19 rfl ?_
        refine ev_aload_n d_Disk_lowestUnsaidSerial_20 rfl rfl ?_
        refine ev_iload_n d_Disk_lowestUnsaidSerial_21 rfl rfl ?_
        refine ev_iconst (v := 0) d_Disk_lowestUnsaidSerial_22 rfl ?_
        refine ev_callr (Mc := M_Disk_cell) (v := some (.int (xCell d x3 0))) (h1 := (e0 :: (HD d tl))) (k2 := 0) (n2 := 0) (inv_V (q := 1) (av := [.int x3, .int 0]) (rest := [.long 1, .long x1]) rfl (ci := 1) rfl d_Disk_lowestUnsaidSerial_23 gw_197 gw_198 gw_199 mw_Disk_cell nh_Disk_cell pn_Disk_cell rfl) d_Disk_lowestUnsaidSerial_23 pl_Disk_cell (Nat.le_of_ble_eq_true rfl) (Nat.le_of_ble_eq_true rfl) (Nat.le_of_ble_eq_true rfl) rfl rfl (c_Disk_cell (e0 := e0) (tl := tl)  d x3 0) (Or.inl (len1 (lenHD rfl))) ?_
        refine ev_lshl d_Disk_lowestUnsaidSerial_26 ?_
        refine ev_lor d_Disk_lowestUnsaidSerial_27 ?_
        refine ev_lstore_n d_Disk_lowestUnsaidSerial_28 rfl (by decide) rfl ?_
        exact ev_pick [1, 0, 2] rfl (e_B_Disk_lowestUnsaidSerial_29   (L_Disk_lowestUnsaidSerial_4 n) ih d (x1 ||| (1 <<< ((xCell d x3 0).toInt64 &&& 63))) x3)
def f_Disk_lowestUnsaidSerial   (d : DS) : Option (Int32 × Unit) :=
  L_Disk_lowestUnsaidSerial_4   100 d 0 0
theorem e_f_Disk_lowestUnsaidSerial {sc : Nat × (Nat → Int32)} {e0 : mn_E} {tl : List mn_E}    (d : DS) : Ev sc 2 28 0 0 M_Disk_lowestUnsaidSerial 0 [(0, .ref 1)] [] (e0 :: (HD d tl)) (mapR ouI (fun z => (e0 :: (HD d tl))) (f_Disk_lowestUnsaidSerial d)) := by
  unfold f_Disk_lowestUnsaidSerial
  refine ev_lconst (v := 0) d_Disk_lowestUnsaidSerial_0 rfl ?_
  refine ev_lstore_n d_Disk_lowestUnsaidSerial_1 rfl (by decide) rfl ?_
  refine ev_iconst (v := 0) d_Disk_lowestUnsaidSerial_2 rfl ?_
  refine ev_istore_n d_Disk_lowestUnsaidSerial_3 rfl (by decide) rfl ?_
  exact ev_pick [2, 1, 0] rfl (e_L_Disk_lowestUnsaidSerial_4     100 d 0 0)
def B_Disk_erase_35   (d : DS) : Option (Unit × DS) :=
  some ((), d)
theorem e_B_Disk_erase_35 {sc : Nat × (Nat → Int32)} {e0 : mn_E} {tl : List mn_E}    (d : DS) : Ev sc 1 16 0 0 M_Disk_erase 35 [] [] (e0 :: (HD d tl)) (mapR ouV (fun z => (e0 :: (HD z tl))) (B_Disk_erase_35 d)) := by
  unfold B_Disk_erase_35
  exact ev_vret rfl d_Disk_erase_35
def B_Disk_erase_28   (d : DS) (x1 : Int32) : Option (Unit × DS) :=
  B_Disk_erase_35   (xSetCell d x1 4 (-1))
theorem e_B_Disk_erase_28 {sc : Nat × (Nat → Int32)} {e0 : mn_E} {tl : List mn_E}    (d : DS) (x1 : Int32) : Ev sc 1 16 0 0 M_Disk_erase 28 [(0, .ref 1), (1, .int x1)] [] (e0 :: (HD d tl)) (mapR ouV (fun z => (e0 :: (HD z tl))) (B_Disk_erase_28 d x1)) := by
  unfold B_Disk_erase_28
  refine ev_aload_n d_Disk_erase_28 rfl rfl ?_
  refine ev_iload_n d_Disk_erase_29 rfl rfl ?_
  refine ev_iconst (v := 4) d_Disk_erase_30 rfl ?_
  refine ev_iconst (v := -1) d_Disk_erase_31 rfl ?_
  refine ev_callr (Mc := M_Disk_setCell) (v := none) (h1 := (e0 :: (HD (xSetCell d x1 4 (-1)) tl))) (k2 := 0) (n2 := 0) (inv_V (q := 1) (av := [.int x1, .int 4, .int (-1)]) (rest := []) rfl (ci := 1) rfl d_Disk_erase_32 gw_177 gw_178 gw_179 mw_Disk_setCell nh_Disk_setCell pn_Disk_setCell rfl) d_Disk_erase_32 pl_Disk_setCell (Nat.le_of_ble_eq_true rfl) (Nat.le_of_ble_eq_true rfl) (Nat.le_of_ble_eq_true rfl) rfl rfl (c_Disk_setCell (e0 := e0) (tl := tl)  d x1 4 (-1)) (Or.inl (len1 (lenHD rfl))) ?_
  exact ev_pick [] rfl (e_B_Disk_erase_35     (xSetCell d x1 4 (-1)))
def B_Disk_erase_15  (r2 : DS → Int32 → Int32 → Option (Unit × DS)) (d : DS) (x1 : Int32) (x2 : Int32) : Option (Unit × DS) :=
  r2 d x1 (x2 + 1)
theorem e_B_Disk_erase_15 {sc : Nat × (Nat → Int32)} {e0 : mn_E} {tl : List mn_E}  (r2 : DS → Int32 → Int32 → Option (Unit × DS)) (hr2 : ∀ (d : DS) (x1 : Int32) (x2 : Int32), Ev sc 1 16 0 0 M_Disk_erase 2 [(0, .ref 1), (1, .int x1), (2, .int x2)] [] (e0 :: (HD d tl)) (mapR ouV (fun z => (e0 :: (HD z tl))) (r2 d x1 x2))) (d : DS) (x1 : Int32) (x2 : Int32) : Ev sc 1 16 0 0 M_Disk_erase 15 [(0, .ref 1), (1, .int x1), (2, .int x2)] [] (e0 :: (HD d tl)) (mapR ouV (fun z => (e0 :: (HD z tl))) (B_Disk_erase_15 r2 d x1 x2)) := by
  unfold B_Disk_erase_15
  refine ev_iinc (v := (x2 + 1)) d_Disk_erase_15 rfl rfl (by decide) rfl ?_
  refine ev_goto (tgt := 2) d_Disk_erase_18 rfl ?_
  exact ev_pick [1, 2, 0] rfl (hr2 d x1 (x2 + 1))
def L_Disk_erase_2   : Nat → DS → Int32 → Int32 → Option (Unit × DS)
  | 0, _, _, _ => none
  | n + 1, d, x1, x2 =>
  if 13 ≤ x2 then (B_Disk_erase_28   (xSetCell d x1 3 (-1)) x1) else (B_Disk_erase_15  (L_Disk_erase_2 n) (xSetCell d x1 x2 0) x1 x2)
theorem e_L_Disk_erase_2 {sc : Nat × (Nat → Int32)} {e0 : mn_E} {tl : List mn_E}    : ∀ (n : Nat) (d : DS) (x1 : Int32) (x2 : Int32), Ev sc 1 16 0 0 M_Disk_erase 2 [(0, .ref 1), (1, .int x1), (2, .int x2)] [] (e0 :: (HD d tl)) (mapR ouV (fun z => (e0 :: (HD z tl))) (L_Disk_erase_2   n d x1 x2)) := by
  intro n
  induction n with
  | zero => intro d x1 x2; exact ev_none
  | succ n ih =>
    intro d x1 x2
    rw [L_Disk_erase_2]
    refine ev_iload_n d_Disk_erase_2 rfl rfl ?_
    refine ev_bipush (v := 13) d_Disk_erase_3 rfl ?_
    refine ev_icmp_ge (tgt := 21) d_Disk_erase_5 rfl (fun h1 => ?_) (fun h1 => ?_)
    · rw [if_pos h1]
      refine ev_aload_n d_Disk_erase_21 rfl rfl ?_
      refine ev_iload_n d_Disk_erase_22 rfl rfl ?_
      refine ev_iconst (v := 3) d_Disk_erase_23 rfl ?_
      refine ev_iconst (v := -1) d_Disk_erase_24 rfl ?_
      refine ev_callr (Mc := M_Disk_setCell) (v := none) (h1 := (e0 :: (HD (xSetCell d x1 3 (-1)) tl))) (k2 := 0) (n2 := 0) (inv_V (q := 1) (av := [.int x1, .int 3, .int (-1)]) (rest := []) rfl (ci := 1) rfl d_Disk_erase_25 gw_177 gw_178 gw_179 mw_Disk_setCell nh_Disk_setCell pn_Disk_setCell rfl) d_Disk_erase_25 pl_Disk_setCell (Nat.le_of_ble_eq_true rfl) (Nat.le_of_ble_eq_true rfl) (Nat.le_of_ble_eq_true rfl) rfl rfl (c_Disk_setCell (e0 := e0) (tl := tl)  d x1 3 (-1)) (Or.inl (len1 (lenHD rfl))) ?_
      exact ev_pick [0, 1] rfl (e_B_Disk_erase_28     (xSetCell d x1 3 (-1)) x1)
    · rw [if_neg h1]
      refine ev_aload_n d_Disk_erase_8 rfl rfl ?_
      refine ev_iload_n d_Disk_erase_9 rfl rfl ?_
      refine ev_iload_n d_Disk_erase_10 rfl rfl ?_
      refine ev_iconst (v := 0) d_Disk_erase_11 rfl ?_
      refine ev_callr (Mc := M_Disk_setCell) (v := none) (h1 := (e0 :: (HD (xSetCell d x1 x2 0) tl))) (k2 := 0) (n2 := 0) (inv_V (q := 1) (av := [.int x1, .int x2, .int 0]) (rest := []) rfl (ci := 1) rfl d_Disk_erase_12 gw_177 gw_178 gw_179 mw_Disk_setCell nh_Disk_setCell pn_Disk_setCell rfl) d_Disk_erase_12 pl_Disk_setCell (Nat.le_of_ble_eq_true rfl) (Nat.le_of_ble_eq_true rfl) (Nat.le_of_ble_eq_true rfl) rfl rfl (c_Disk_setCell (e0 := e0) (tl := tl)  d x1 x2 0) (Or.inl (len1 (lenHD rfl))) ?_
      exact ev_pick [0, 1, 2] rfl (e_B_Disk_erase_15   (L_Disk_erase_2 n) ih (xSetCell d x1 x2 0) x1 x2)
def f_Disk_erase   (d : DS) (x1 : Int32) : Option (Unit × DS) :=
  L_Disk_erase_2   100 d x1 0
theorem e_f_Disk_erase {sc : Nat × (Nat → Int32)} {e0 : mn_E} {tl : List mn_E}    (d : DS) (x1 : Int32) : Ev sc 1 16 0 0 M_Disk_erase 0 [(0, .ref 1), (1, .int x1)] [] (e0 :: (HD d tl)) (mapR ouV (fun z => (e0 :: (HD z tl))) (f_Disk_erase d x1)) := by
  unfold f_Disk_erase
  refine ev_iconst (v := 0) d_Disk_erase_0 rfl ?_
  refine ev_istore_n d_Disk_erase_1 rfl (by decide) rfl ?_
  exact ev_pick [1, 2, 0] rfl (e_L_Disk_erase_2     100 d x1 0)
def B_Disk_makeHole_16  (r2 : DS → Int32 → Int32 → Int32 → Option (Unit × DS)) (d : DS) (x1 : Int32) (x2 : Int32) (x3 : Int32) : Option (Unit × DS) :=
  r2 d x1 x2 (x3 + 1)
theorem e_B_Disk_makeHole_16 {sc : Nat × (Nat → Int32)} {e0 : mn_E} {tl : List mn_E}  (r2 : DS → Int32 → Int32 → Int32 → Option (Unit × DS)) (hr2 : ∀ (d : DS) (x1 : Int32) (x2 : Int32) (x3 : Int32), Ev sc 2 31 0 0 M_Disk_makeHole 2 [(0, .ref 1), (1, .int x1), (2, .int x2), (3, .int x3)] [] (e0 :: (HD d tl)) (mapR ouV (fun z => (e0 :: (HD z tl))) (r2 d x1 x2 x3))) (d : DS) (x1 : Int32) (x2 : Int32) (x3 : Int32) : Ev sc 2 31 0 0 M_Disk_makeHole 16 [(0, .ref 1), (1, .int x1), (2, .int x2), (3, .int x3)] [] (e0 :: (HD d tl)) (mapR ouV (fun z => (e0 :: (HD z tl))) (B_Disk_makeHole_16 r2 d x1 x2 x3)) := by
  unfold B_Disk_makeHole_16
  refine ev_iinc (v := (x3 + 1)) d_Disk_makeHole_16 rfl rfl (by decide) rfl ?_
  refine ev_goto (tgt := 2) d_Disk_makeHole_19 rfl ?_
  exact ev_pick [1, 2, 3, 0] rfl (hr2 d x1 x2 (x3 + 1))
def L_Disk_makeHole_2   : Nat → DS → Int32 → Int32 → Int32 → Option (Unit × DS)
  | 0, _, _, _, _ => none
  | n + 1, d, x1, x2, x3 =>
  if 4 ≤ x3 then (some ((), d)) else (B_Disk_makeHole_16  (L_Disk_makeHole_2 n) ((f_Disk_setByte d x1 (x2 + x3) 0).2) x1 x2 x3)
theorem e_L_Disk_makeHole_2 {sc : Nat × (Nat → Int32)} {e0 : mn_E} {tl : List mn_E}    : ∀ (n : Nat) (d : DS) (x1 : Int32) (x2 : Int32) (x3 : Int32), Ev sc 2 31 0 0 M_Disk_makeHole 2 [(0, .ref 1), (1, .int x1), (2, .int x2), (3, .int x3)] [] (e0 :: (HD d tl)) (mapR ouV (fun z => (e0 :: (HD z tl))) (L_Disk_makeHole_2   n d x1 x2 x3)) := by
  intro n
  induction n with
  | zero => intro d x1 x2 x3; exact ev_none
  | succ n ih =>
    intro d x1 x2 x3
    rw [L_Disk_makeHole_2]
    refine ev_iload_n d_Disk_makeHole_2 rfl rfl ?_
    refine ev_iconst (v := 4) d_Disk_makeHole_3 rfl ?_
    refine ev_icmp_ge (tgt := 22) d_Disk_makeHole_4 rfl (fun h1 => ?_) (fun h1 => ?_)
    · rw [if_pos h1]
      exact ev_vret rfl d_Disk_makeHole_22
    · rw [if_neg h1]
      refine ev_aload_n d_Disk_makeHole_7 rfl rfl ?_
      refine ev_iload_n d_Disk_makeHole_8 rfl rfl ?_
      refine ev_iload_n d_Disk_makeHole_9 rfl rfl ?_
      refine ev_iload_n d_Disk_makeHole_10 rfl rfl ?_
      refine ev_iadd d_Disk_makeHole_11 ?_
      refine ev_iconst (v := 0) d_Disk_makeHole_12 rfl ?_
      refine ev_callr (Mc := M_Disk_setByte) (v := none) (h1 := (e0 :: (HD ((f_Disk_setByte d x1 (x2 + x3) 0).2) tl))) (k2 := 0) (n2 := 0) (inv_V (q := 1) (av := [.int x1, .int (x2 + x3), .int 0]) (rest := []) rfl (ci := 1) rfl d_Disk_makeHole_13 gw_189 gw_190 gw_191 mw_Disk_setByte nh_Disk_setByte pn_Disk_setByte rfl) d_Disk_makeHole_13 pl_Disk_setByte (Nat.le_of_ble_eq_true rfl) (Nat.le_of_ble_eq_true rfl) (Nat.le_of_ble_eq_true rfl) rfl rfl (e_f_Disk_setByte (e0 := e0) (tl := tl)  d x1 (x2 + x3) 0) (Or.inl (len1 (lenHD rfl))) ?_
      exact ev_pick [0, 1, 2, 3] rfl (e_B_Disk_makeHole_16   (L_Disk_makeHole_2 n) ih ((f_Disk_setByte d x1 (x2 + x3) 0).2) x1 x2 x3)
def f_Disk_makeHole   (d : DS) (x1 : Int32) (x2 : Int32) : Option (Unit × DS) :=
  L_Disk_makeHole_2   100 d x1 x2 0
theorem e_f_Disk_makeHole {sc : Nat × (Nat → Int32)} {e0 : mn_E} {tl : List mn_E}    (d : DS) (x1 : Int32) (x2 : Int32) : Ev sc 2 31 0 0 M_Disk_makeHole 0 [(0, .ref 1), (1, .int x1), (2, .int x2)] [] (e0 :: (HD d tl)) (mapR ouV (fun z => (e0 :: (HD z tl))) (f_Disk_makeHole d x1 x2)) := by
  unfold f_Disk_makeHole
  refine ev_iconst (v := 0) d_Disk_makeHole_0 rfl ?_
  refine ev_istore_n d_Disk_makeHole_1 rfl (by decide) rfl ?_
  exact ev_pick [1, 2, 3, 0] rfl (e_L_Disk_makeHole_2     100 d x1 x2 0)
def B_Disk_copySector_20  (r2 : DS → Int32 → Int32 → Int32 → Option (Unit × DS)) (d : DS) (x1 : Int32) (x2 : Int32) (x3 : Int32) : Option (Unit × DS) :=
  r2 d x1 x2 (x3 + 1)
theorem e_B_Disk_copySector_20 {sc : Nat × (Nat → Int32)} {e0 : mn_E} {tl : List mn_E}  (r2 : DS → Int32 → Int32 → Int32 → Option (Unit × DS)) (hr2 : ∀ (d : DS) (x1 : Int32) (x2 : Int32) (x3 : Int32), Ev sc 1 18 0 0 M_Disk_copySector 2 [(0, .ref 1), (1, .int x1), (2, .int x2), (3, .int x3)] [] (e0 :: (HD d tl)) (mapR ouV (fun z => (e0 :: (HD z tl))) (r2 d x1 x2 x3))) (d : DS) (x1 : Int32) (x2 : Int32) (x3 : Int32) : Ev sc 1 18 0 0 M_Disk_copySector 20 [(0, .ref 1), (1, .int x1), (2, .int x2), (3, .int x3)] [] (e0 :: (HD d tl)) (mapR ouV (fun z => (e0 :: (HD z tl))) (B_Disk_copySector_20 r2 d x1 x2 x3)) := by
  unfold B_Disk_copySector_20
  refine ev_iinc (v := (x3 + 1)) d_Disk_copySector_20 rfl rfl (by decide) rfl ?_
  refine ev_goto (tgt := 2) d_Disk_copySector_23 rfl ?_
  exact ev_pick [1, 2, 3, 0] rfl (hr2 d x1 x2 (x3 + 1))
def L_Disk_copySector_2   : Nat → DS → Int32 → Int32 → Int32 → Option (Unit × DS)
  | 0, _, _, _, _ => none
  | n + 1, d, x1, x2, x3 =>
  if 13 ≤ x3 then (some ((), d)) else (B_Disk_copySector_20  (L_Disk_copySector_2 n) (xSetCell d x2 x3 (xCell d x1 x3)) x1 x2 x3)
theorem e_L_Disk_copySector_2 {sc : Nat × (Nat → Int32)} {e0 : mn_E} {tl : List mn_E}    : ∀ (n : Nat) (d : DS) (x1 : Int32) (x2 : Int32) (x3 : Int32), Ev sc 1 18 0 0 M_Disk_copySector 2 [(0, .ref 1), (1, .int x1), (2, .int x2), (3, .int x3)] [] (e0 :: (HD d tl)) (mapR ouV (fun z => (e0 :: (HD z tl))) (L_Disk_copySector_2   n d x1 x2 x3)) := by
  intro n
  induction n with
  | zero => intro d x1 x2 x3; exact ev_none
  | succ n ih =>
    intro d x1 x2 x3
    rw [L_Disk_copySector_2]
    refine ev_iload_n d_Disk_copySector_2 rfl rfl ?_
    refine ev_bipush (v := 13) d_Disk_copySector_3 rfl ?_
    refine ev_icmp_ge (tgt := 26) d_Disk_copySector_5 rfl (fun h1 => ?_) (fun h1 => ?_)
    · rw [if_pos h1]
      exact ev_vret rfl d_Disk_copySector_26
    · rw [if_neg h1]
      refine ev_aload_n d_Disk_copySector_8 rfl rfl ?_
      refine ev_iload_n d_Disk_copySector_9 rfl rfl ?_
      refine ev_iload_n d_Disk_copySector_10 rfl rfl ?_
      refine ev_aload_n d_Disk_copySector_11 rfl rfl ?_
      refine ev_iload_n d_Disk_copySector_12 rfl rfl ?_
      refine ev_iload_n d_Disk_copySector_13 rfl rfl ?_
      refine ev_callr (Mc := M_Disk_cell) (v := some (.int (xCell d x1 x3))) (h1 := (e0 :: (HD d tl))) (k2 := 0) (n2 := 0) (inv_V (q := 1) (av := [.int x1, .int x3]) (rest := [.int x3, .int x2, .ref 1]) rfl (ci := 1) rfl d_Disk_copySector_14 gw_197 gw_198 gw_199 mw_Disk_cell nh_Disk_cell pn_Disk_cell rfl) d_Disk_copySector_14 pl_Disk_cell (Nat.le_of_ble_eq_true rfl) (Nat.le_of_ble_eq_true rfl) (Nat.le_of_ble_eq_true rfl) rfl rfl (c_Disk_cell (e0 := e0) (tl := tl)  d x1 x3) (Or.inl (len1 (lenHD rfl))) ?_
      refine ev_callr (Mc := M_Disk_setCell) (v := none) (h1 := (e0 :: (HD (xSetCell d x2 x3 (xCell d x1 x3)) tl))) (k2 := 0) (n2 := 0) (inv_V (q := 1) (av := [.int x2, .int x3, .int (xCell d x1 x3)]) (rest := []) rfl (ci := 1) rfl d_Disk_copySector_17 gw_177 gw_178 gw_179 mw_Disk_setCell nh_Disk_setCell pn_Disk_setCell rfl) d_Disk_copySector_17 pl_Disk_setCell (Nat.le_of_ble_eq_true rfl) (Nat.le_of_ble_eq_true rfl) (Nat.le_of_ble_eq_true rfl) rfl rfl (c_Disk_setCell (e0 := e0) (tl := tl)  d x2 x3 (xCell d x1 x3)) (Or.inl (len1 (lenHD rfl))) ?_
      exact ev_pick [0, 1, 2, 3] rfl (e_B_Disk_copySector_20   (L_Disk_copySector_2 n) ih (xSetCell d x2 x3 (xCell d x1 x3)) x1 x2 x3)
def f_Disk_copySector   (d : DS) (x1 : Int32) (x2 : Int32) : Option (Unit × DS) :=
  L_Disk_copySector_2   100 d x1 x2 0
theorem e_f_Disk_copySector {sc : Nat × (Nat → Int32)} {e0 : mn_E} {tl : List mn_E}    (d : DS) (x1 : Int32) (x2 : Int32) : Ev sc 1 18 0 0 M_Disk_copySector 0 [(0, .ref 1), (1, .int x1), (2, .int x2)] [] (e0 :: (HD d tl)) (mapR ouV (fun z => (e0 :: (HD z tl))) (f_Disk_copySector d x1 x2)) := by
  unfold f_Disk_copySector
  refine ev_iconst (v := 0) d_Disk_copySector_0 rfl ?_
  refine ev_istore_n d_Disk_copySector_1 rfl (by decide) rfl ?_
  exact ev_pick [1, 2, 3, 0] rfl (e_L_Disk_copySector_2     100 d x1 x2 0)
def B_Disk_countFree_24  (r4 : DS → Int32 → Int32 → Option (Int32 × Unit)) (d : DS) (x2 : Int32) (t0 : Int32) (t1 : Int32) : Option (Int32 × Unit) :=
  r4 d (t0 + t1) (x2 + 1)
theorem e_B_Disk_countFree_24 {sc : Nat × (Nat → Int32)} {e0 : mn_E} {tl : List mn_E}  (r4 : DS → Int32 → Int32 → Option (Int32 × Unit)) (hr4 : ∀ (d : DS) (x1 : Int32) (x2 : Int32), Ev sc 2 29 0 0 M_Disk_countFree 4 [(0, .ref 1), (1, .int x1), (2, .int x2)] [] (e0 :: (HD d tl)) (mapR ouI (fun z => (e0 :: (HD d tl))) (r4 d x1 x2))) (d : DS) (x2 : Int32) (t0 : Int32) (t1 : Int32) : Ev sc 2 29 0 0 M_Disk_countFree 24 [(0, .ref 1), (2, .int x2)] [.int t1, .int t0] (e0 :: (HD d tl)) (mapR ouI (fun z => (e0 :: (HD d tl))) (B_Disk_countFree_24 r4 d x2 t0 t1)) := by
  unfold B_Disk_countFree_24
  refine ev_iadd d_Disk_countFree_24 ?_
  refine ev_istore_n d_Disk_countFree_25 rfl (by decide) rfl ?_
  refine ev_iinc (v := (x2 + 1)) d_Disk_countFree_26 rfl rfl (by decide) rfl ?_
  refine ev_goto (tgt := 4) d_Disk_countFree_29 rfl ?_
  exact ev_pick [2, 1, 0] rfl (hr4 d (t0 + t1) (x2 + 1))
def L_Disk_countFree_4   : Nat → DS → Int32 → Int32 → Option (Int32 × Unit)
  | 0, _, _, _ => none
  | n + 1, d, x1, x2 =>
  if 40 ≤ x2 then (some (x1, ())) else (if ((f_Disk_isFree d x2).1) = 0 then (B_Disk_countFree_24  (L_Disk_countFree_4 n) d x2 x1 0) else (B_Disk_countFree_24  (L_Disk_countFree_4 n) d x2 x1 1))
theorem e_L_Disk_countFree_4 {sc : Nat × (Nat → Int32)} {e0 : mn_E} {tl : List mn_E}    : ∀ (n : Nat) (d : DS) (x1 : Int32) (x2 : Int32), Ev sc 2 29 0 0 M_Disk_countFree 4 [(0, .ref 1), (1, .int x1), (2, .int x2)] [] (e0 :: (HD d tl)) (mapR ouI (fun z => (e0 :: (HD d tl))) (L_Disk_countFree_4   n d x1 x2)) := by
  intro n
  induction n with
  | zero => intro d x1 x2; exact ev_none
  | succ n ih =>
    intro d x1 x2
    rw [L_Disk_countFree_4]
    refine ev_iload_n d_Disk_countFree_4 rfl rfl ?_
    refine ev_bipush (v := 40) d_Disk_countFree_5 rfl ?_
    refine ev_icmp_ge (tgt := 32) d_Disk_countFree_7 rfl (fun h1 => ?_) (fun h1 => ?_)
    · rw [if_pos h1]
      refine ev_iload_n d_Disk_countFree_32 rfl rfl ?_
      exact ev_zret (ty := .int) rfl rfl d_Disk_countFree_33
    · rw [if_neg h1]
      refine ev_iload_n d_Disk_countFree_10 rfl rfl ?_
      refine ev_aload_n d_Disk_countFree_11 rfl rfl ?_
      refine ev_iload_n d_Disk_countFree_12 rfl rfl ?_
      refine ev_callr (Mc := M_Disk_isFree) (v := some (.int ((f_Disk_isFree d x2).1))) (h1 := (e0 :: (HD d tl))) (k2 := 0) (n2 := 0) (inv_V (q := 1) (av := [.int x2]) (rest := [.int x1]) rfl (ci := 1) rfl d_Disk_countFree_13 gw_205 gw_206 gw_207 mw_Disk_isFree nh_Disk_isFree pn_Disk_isFree rfl) d_Disk_countFree_13 pl_Disk_isFree (Nat.le_of_ble_eq_true rfl) (Nat.le_of_ble_eq_true rfl) (Nat.le_of_ble_eq_true rfl) rfl rfl (e_f_Disk_isFree (e0 := e0) (tl := tl)  d x2) (Or.inl (len1 (lenHD rfl))) ?_
      refine ev_if_eq (tgt := 23) d_Disk_countFree_16 rfl (fun h2 => ?_) (fun h2 => ?_)
      · rw [if_pos h2]
        refine ev_iconst (v := 0) d_Disk_countFree_23 rfl ?_
        exact ev_pick [0, 2] rfl (e_B_Disk_countFree_24   (L_Disk_countFree_4 n) ih d x2 x1 0)
      · rw [if_neg h2]
        refine ev_iconst (v := 1) d_Disk_countFree_19 rfl ?_
        refine ev_goto (tgt := 24) d_Disk_countFree_20 rfl ?_
        exact ev_pick [0, 2] rfl (e_B_Disk_countFree_24   (L_Disk_countFree_4 n) ih d x2 x1 1)
def f_Disk_countFree   (d : DS) : Option (Int32 × Unit) :=
  L_Disk_countFree_4   100 d 0 0
theorem e_f_Disk_countFree {sc : Nat × (Nat → Int32)} {e0 : mn_E} {tl : List mn_E}    (d : DS) : Ev sc 2 29 0 0 M_Disk_countFree 0 [(0, .ref 1)] [] (e0 :: (HD d tl)) (mapR ouI (fun z => (e0 :: (HD d tl))) (f_Disk_countFree d)) := by
  unfold f_Disk_countFree
  refine ev_iconst (v := 0) d_Disk_countFree_0 rfl ?_
  refine ev_istore_n d_Disk_countFree_1 rfl (by decide) rfl ?_
  refine ev_iconst (v := 0) d_Disk_countFree_2 rfl ?_
  refine ev_istore_n d_Disk_countFree_3 rfl (by decide) rfl ?_
  exact ev_pick [2, 1, 0] rfl (e_L_Disk_countFree_4     100 d 0 0)
def B_Disk_countUnreadable_25  (r4 : DS → Int32 → Int32 → Option (Int32 × Unit)) (d : DS) (x2 : Int32) (t0 : Int32) (t1 : Int32) : Option (Int32 × Unit) :=
  r4 d (t0 + t1) (x2 + 1)
theorem e_B_Disk_countUnreadable_25 {sc : Nat × (Nat → Int32)} {e0 : mn_E} {tl : List mn_E}  (r4 : DS → Int32 → Int32 → Option (Int32 × Unit)) (hr4 : ∀ (d : DS) (x1 : Int32) (x2 : Int32), Ev sc 0 0 0 0 M_Disk_countUnreadable 4 [(0, .ref 1), (1, .int x1), (2, .int x2)] [] (e0 :: (HD d tl)) (mapR ouI (fun z => (e0 :: (HD d tl))) (r4 d x1 x2))) (d : DS) (x2 : Int32) (t0 : Int32) (t1 : Int32) : Ev sc 0 0 0 0 M_Disk_countUnreadable 25 [(0, .ref 1), (2, .int x2)] [.int t1, .int t0] (e0 :: (HD d tl)) (mapR ouI (fun z => (e0 :: (HD d tl))) (B_Disk_countUnreadable_25 r4 d x2 t0 t1)) := by
  unfold B_Disk_countUnreadable_25
  refine ev_iadd d_Disk_countUnreadable_25 ?_
  refine ev_istore_n d_Disk_countUnreadable_26 rfl (by decide) rfl ?_
  refine ev_iinc (v := (x2 + 1)) d_Disk_countUnreadable_27 rfl rfl (by decide) rfl ?_
  refine ev_goto (tgt := 4) d_Disk_countUnreadable_30 rfl ?_
  exact ev_pick [2, 1, 0] rfl (hr4 d (t0 + t1) (x2 + 1))
def L_Disk_countUnreadable_4   : Nat → DS → Int32 → Int32 → Option (Int32 × Unit)
  | 0, _, _, _ => none
  | n + 1, d, x1, x2 =>
  if 40 ≤ x2 then (some (x1, ())) else (if inB x2 40 then (if (dUnr d x2.toNatClampNeg) = 0 then (B_Disk_countUnreadable_25  (L_Disk_countUnreadable_4 n) d x2 x1 0) else (B_Disk_countUnreadable_25  (L_Disk_countUnreadable_4 n) d x2 x1 1)) else none)
theorem e_L_Disk_countUnreadable_4 {sc : Nat × (Nat → Int32)} {e0 : mn_E} {tl : List mn_E}    : ∀ (n : Nat) (d : DS) (x1 : Int32) (x2 : Int32), Ev sc 0 0 0 0 M_Disk_countUnreadable 4 [(0, .ref 1), (1, .int x1), (2, .int x2)] [] (e0 :: (HD d tl)) (mapR ouI (fun z => (e0 :: (HD d tl))) (L_Disk_countUnreadable_4   n d x1 x2)) := by
  intro n
  induction n with
  | zero => intro d x1 x2; exact ev_none
  | succ n ih =>
    intro d x1 x2
    rw [L_Disk_countUnreadable_4]
    refine ev_iload_n d_Disk_countUnreadable_4 rfl rfl ?_
    refine ev_bipush (v := 40) d_Disk_countUnreadable_5 rfl ?_
    refine ev_icmp_ge (tgt := 33) d_Disk_countUnreadable_7 rfl (fun h1 => ?_) (fun h1 => ?_)
    · rw [if_pos h1]
      refine ev_iload_n d_Disk_countUnreadable_33 rfl rfl ?_
      exact ev_zret (ty := .int) rfl rfl d_Disk_countUnreadable_34
    · rw [if_neg h1]
      refine ev_iload_n d_Disk_countUnreadable_10 rfl rfl ?_
      refine ev_aload_n d_Disk_countUnreadable_11 rfl rfl ?_
      refine ev_get (v := .ref 4) gi_Disk (ci := 1) rfl rfl 2 (by decide) gw_134 rfl d_Disk_countUnreadable_12 ?_
      refine ev_iload_n d_Disk_countUnreadable_15 rfl rfl ?_
      refine ev_inB (fun h2 => ?_)
      refine ev_zaload rfl (inB_of h2) d_Disk_countUnreadable_16 ?_
      refine ev_if_eq (tgt := 24) d_Disk_countUnreadable_17 rfl (fun h3 => ?_) (fun h3 => ?_)
      · rw [if_pos h3]
        refine ev_iconst (v := 0) d_Disk_countUnreadable_24 rfl ?_
        exact ev_pick [0, 2] rfl (e_B_Disk_countUnreadable_25   (L_Disk_countUnreadable_4 n) ih d x2 x1 0)
      · rw [if_neg h3]
        refine ev_iconst (v := 1) d_Disk_countUnreadable_20 rfl ?_
        refine ev_goto (tgt := 25) d_Disk_countUnreadable_21 rfl ?_
        exact ev_pick [0, 2] rfl (e_B_Disk_countUnreadable_25   (L_Disk_countUnreadable_4 n) ih d x2 x1 1)
def f_Disk_countUnreadable   (d : DS) : Option (Int32 × Unit) :=
  L_Disk_countUnreadable_4   100 d 0 0
theorem e_f_Disk_countUnreadable {sc : Nat × (Nat → Int32)} {e0 : mn_E} {tl : List mn_E}    (d : DS) : Ev sc 0 0 0 0 M_Disk_countUnreadable 0 [(0, .ref 1)] [] (e0 :: (HD d tl)) (mapR ouI (fun z => (e0 :: (HD d tl))) (f_Disk_countUnreadable d)) := by
  unfold f_Disk_countUnreadable
  refine ev_iconst (v := 0) d_Disk_countUnreadable_0 rfl ?_
  refine ev_istore_n d_Disk_countUnreadable_1 rfl (by decide) rfl ?_
  refine ev_iconst (v := 0) d_Disk_countUnreadable_2 rfl ?_
  refine ev_istore_n d_Disk_countUnreadable_3 rfl (by decide) rfl ?_
  exact ev_pick [2, 1, 0] rfl (e_L_Disk_countUnreadable_4     100 d 0 0)
def L_Disk_hasChanged_2   : Nat → DS → Int32 → Int32 → Option (Int32 × Unit)
  | 0, _, _, _ => none
  | n + 1, d, x1, x2 =>
  if 13 ≤ x2 then (some (0, ())) else (if inB ((x1 * 13) + x2) 520 then (if inB ((x1 * 13) + x2) 520 then (if (dCells d ((x1 * 13) + x2).toNatClampNeg) = (dEarl d ((x1 * 13) + x2).toNatClampNeg) then ((L_Disk_hasChanged_2 n) d x1 (x2 + 1)) else (some (1, ()))) else none) else none)
theorem e_L_Disk_hasChanged_2 {sc : Nat × (Nat → Int32)} {e0 : mn_E} {tl : List mn_E}    : ∀ (n : Nat) (d : DS) (x1 : Int32) (x2 : Int32), Ev sc 0 0 0 0 M_Disk_hasChanged 2 [(0, .ref 1), (1, .int x1), (2, .int x2)] [] (e0 :: (HD d tl)) (mapR ouI (fun z => (e0 :: (HD d tl))) (L_Disk_hasChanged_2   n d x1 x2)) := by
  intro n
  induction n with
  | zero => intro d x1 x2; exact ev_none
  | succ n ih =>
    intro d x1 x2
    rw [L_Disk_hasChanged_2]
    refine ev_iload_n d_Disk_hasChanged_2 rfl rfl ?_
    refine ev_bipush (v := 13) d_Disk_hasChanged_3 rfl ?_
    refine ev_icmp_ge (tgt := 41) d_Disk_hasChanged_5 rfl (fun h1 => ?_) (fun h1 => ?_)
    · rw [if_pos h1]
      refine ev_iconst (v := 0) d_Disk_hasChanged_41 rfl ?_
      exact ev_zret (ty := .boolean) rfl rfl d_Disk_hasChanged_42
    · rw [if_neg h1]
      refine ev_aload_n d_Disk_hasChanged_8 rfl rfl ?_
      refine ev_get (v := .ref 2) gi_Disk (ci := 1) rfl rfl 0 (by decide) gw_132 rfl d_Disk_hasChanged_9 ?_
      refine ev_iload_n d_Disk_hasChanged_12 rfl rfl ?_
      refine ev_bipush (v := 13) d_Disk_hasChanged_13 rfl ?_
      refine ev_imul d_Disk_hasChanged_15 ?_
      refine ev_iload_n d_Disk_hasChanged_16 rfl rfl ?_
      refine ev_iadd d_Disk_hasChanged_17 ?_
      refine ev_inB (fun h2 => ?_)
      refine ev_iaload rfl (inB_of h2) d_Disk_hasChanged_18 ?_
      refine ev_aload_n d_Disk_hasChanged_19 rfl rfl ?_
      refine ev_get (v := .ref 3) gi_Disk (ci := 1) rfl rfl 1 (by decide) gw_133 rfl d_Disk_hasChanged_20 ?_
      refine ev_iload_n d_Disk_hasChanged_23 rfl rfl ?_
      refine ev_bipush (v := 13) d_Disk_hasChanged_24 rfl ?_
      refine ev_imul d_Disk_hasChanged_26 ?_
      refine ev_iload_n d_Disk_hasChanged_27 rfl rfl ?_
      refine ev_iadd d_Disk_hasChanged_28 ?_
      refine ev_inB (fun h3 => ?_)
      refine ev_iaload rfl (inB_of h3) d_Disk_hasChanged_29 ?_
      refine ev_icmp_eq (tgt := 35) d_Disk_hasChanged_30 rfl (fun h4 => ?_) (fun h4 => ?_)
      · rw [if_pos h4]
        refine ev_iinc (v := (x2 + 1)) d_Disk_hasChanged_35 rfl rfl (by decide) rfl ?_
        refine ev_goto (tgt := 2) d_Disk_hasChanged_38 rfl ?_
        exact ev_pick [1, 2, 0] rfl (ih d x1 (x2 + 1))
      · rw [if_neg h4]
        refine ev_iconst (v := 1) d_Disk_hasChanged_33 rfl ?_
        exact ev_zret (ty := .boolean) rfl rfl d_Disk_hasChanged_34
def f_Disk_hasChanged   (d : DS) (x1 : Int32) : Option (Int32 × Unit) :=
  L_Disk_hasChanged_2   100 d x1 0
theorem e_f_Disk_hasChanged {sc : Nat × (Nat → Int32)} {e0 : mn_E} {tl : List mn_E}    (d : DS) (x1 : Int32) : Ev sc 0 0 0 0 M_Disk_hasChanged 0 [(0, .ref 1), (1, .int x1)] [] (e0 :: (HD d tl)) (mapR ouI (fun z => (e0 :: (HD d tl))) (f_Disk_hasChanged d x1)) := by
  unfold f_Disk_hasChanged
  refine ev_iconst (v := 0) d_Disk_hasChanged_0 rfl ?_
  refine ev_istore_n d_Disk_hasChanged_1 rfl (by decide) rfl ?_
  exact ev_pick [1, 2, 0] rfl (e_L_Disk_hasChanged_2     100 d x1 0)
def B_Disk_endFileAt_56  (r41 : DS → Int32 → Int32 → Option (Unit × DS)) (d : DS) (x1 : Int32) (x5 : Int32) : Option (Unit × DS) :=
  r41 d x1 (x5 + 1)
theorem e_B_Disk_endFileAt_56 {sc : Nat × (Nat → Int32)} {e0 : mn_E} {tl : List mn_E}  (r41 : DS → Int32 → Int32 → Option (Unit × DS)) (hr41 : ∀ (d : DS) (x1 : Int32) (x5 : Int32), Ev sc 2 31 0 0 M_Disk_endFileAt 41 [(0, .ref 1), (1, .int x1), (5, .int x5)] [] (e0 :: (HD d tl)) (mapR ouV (fun z => (e0 :: (HD z tl))) (r41 d x1 x5))) (d : DS) (x1 : Int32) (x5 : Int32) : Ev sc 2 31 0 0 M_Disk_endFileAt 56 [(0, .ref 1), (1, .int x1), (5, .int x5)] [] (e0 :: (HD d tl)) (mapR ouV (fun z => (e0 :: (HD z tl))) (B_Disk_endFileAt_56 r41 d x1 x5)) := by
  unfold B_Disk_endFileAt_56
  refine ev_iinc (v := (x5 + 1)) d_Disk_endFileAt_56 rfl rfl (by decide) rfl ?_
  refine ev_goto (tgt := 41) d_Disk_endFileAt_59 rfl ?_
  exact ev_pick [1, 2, 0] rfl (hr41 d x1 (x5 + 1))
def L_Disk_endFileAt_41   : Nat → DS → Int32 → Int32 → Option (Unit × DS)
  | 0, _, _, _ => none
  | n + 1, d, x1, x5 =>
  if 8 ≤ x5 then (some ((), d)) else (B_Disk_endFileAt_56  (L_Disk_endFileAt_41 n) ((f_Disk_setByte d x1 x5 0).2) x1 x5)
theorem e_L_Disk_endFileAt_41 {sc : Nat × (Nat → Int32)} {e0 : mn_E} {tl : List mn_E}    : ∀ (n : Nat) (d : DS) (x1 : Int32) (x5 : Int32), Ev sc 2 31 0 0 M_Disk_endFileAt 41 [(0, .ref 1), (1, .int x1), (5, .int x5)] [] (e0 :: (HD d tl)) (mapR ouV (fun z => (e0 :: (HD z tl))) (L_Disk_endFileAt_41   n d x1 x5)) := by
  intro n
  induction n with
  | zero => intro d x1 x5; exact ev_none
  | succ n ih =>
    intro d x1 x5
    rw [L_Disk_endFileAt_41]
    refine ev_iload d_Disk_endFileAt_41 rfl ?_
    refine ev_bipush (v := 8) d_Disk_endFileAt_43 rfl ?_
    refine ev_icmp_ge (tgt := 62) d_Disk_endFileAt_45 rfl (fun h1 => ?_) (fun h1 => ?_)
    · rw [if_pos h1]
      exact ev_vret rfl d_Disk_endFileAt_62
    · rw [if_neg h1]
      refine ev_aload_n d_Disk_endFileAt_48 rfl rfl ?_
      refine ev_iload_n d_Disk_endFileAt_49 rfl rfl ?_
      refine ev_iload d_Disk_endFileAt_50 rfl ?_
      refine ev_iconst (v := 0) d_Disk_endFileAt_52 rfl ?_
      refine ev_callr (Mc := M_Disk_setByte) (v := none) (h1 := (e0 :: (HD ((f_Disk_setByte d x1 x5 0).2) tl))) (k2 := 0) (n2 := 0) (inv_V (q := 1) (av := [.int x1, .int x5, .int 0]) (rest := []) rfl (ci := 1) rfl d_Disk_endFileAt_53 gw_189 gw_190 gw_191 mw_Disk_setByte nh_Disk_setByte pn_Disk_setByte rfl) d_Disk_endFileAt_53 pl_Disk_setByte (Nat.le_of_ble_eq_true rfl) (Nat.le_of_ble_eq_true rfl) (Nat.le_of_ble_eq_true rfl) rfl rfl (e_f_Disk_setByte (e0 := e0) (tl := tl)  d x1 x5 0) (Or.inl (len1 (lenHD rfl))) ?_
      exact ev_pick [0, 1, 2] rfl (e_B_Disk_endFileAt_56   (L_Disk_endFileAt_41 n) ih ((f_Disk_setByte d x1 x5 0).2) x1 x5)
def B_Disk_endFileAt_37   (d : DS) (x1 : Int32) (x4 : Int32) : Option (Unit × DS) :=
  L_Disk_endFileAt_41   100 d x1 x4
theorem e_B_Disk_endFileAt_37 {sc : Nat × (Nat → Int32)} {e0 : mn_E} {tl : List mn_E}    (d : DS) (x1 : Int32) (x4 : Int32) : Ev sc 2 31 0 0 M_Disk_endFileAt 37 [(0, .ref 1), (1, .int x1), (4, .int x4)] [] (e0 :: (HD d tl)) (mapR ouV (fun z => (e0 :: (HD z tl))) (B_Disk_endFileAt_37 d x1 x4)) := by
  unfold B_Disk_endFileAt_37
  refine ev_iload d_Disk_endFileAt_37 rfl ?_
  refine ev_istore d_Disk_endFileAt_39 (by decide) rfl ?_
  exact ev_pick [1, 2, 0] rfl (e_L_Disk_endFileAt_41     100 d x1 x4)
def B_Disk_endFileAt_7   (d : DS) (x1 : Int32) (x2 : Int32) : Option (Unit × DS) :=
  if ¬ (xCell d x1 1) = 0 then (B_Disk_endFileAt_37   (xSetCell d x1 2 (x2 - (8 * ((xCell d x1 1) - 1)))) x1 (x2 - (8 * ((xCell d x1 1) - 1)))) else (some ((), d))
theorem e_B_Disk_endFileAt_7 {sc : Nat × (Nat → Int32)} {e0 : mn_E} {tl : List mn_E}    (d : DS) (x1 : Int32) (x2 : Int32) : Ev sc 2 31 0 0 M_Disk_endFileAt 7 [(0, .ref 1), (1, .int x1), (2, .int x2)] [] (e0 :: (HD d tl)) (mapR ouV (fun z => (e0 :: (HD z tl))) (B_Disk_endFileAt_7 d x1 x2)) := by
  unfold B_Disk_endFileAt_7
  refine ev_aload_n d_Disk_endFileAt_7 rfl rfl ?_
  refine ev_iload_n d_Disk_endFileAt_8 rfl rfl ?_
  refine ev_iconst (v := 1) d_Disk_endFileAt_9 rfl ?_
  refine ev_callr (Mc := M_Disk_cell) (v := some (.int (xCell d x1 1))) (h1 := (e0 :: (HD d tl))) (k2 := 0) (n2 := 0) (inv_V (q := 1) (av := [.int x1, .int 1]) (rest := []) rfl (ci := 1) rfl d_Disk_endFileAt_10 gw_197 gw_198 gw_199 mw_Disk_cell nh_Disk_cell pn_Disk_cell rfl) d_Disk_endFileAt_10 pl_Disk_cell (Nat.le_of_ble_eq_true rfl) (Nat.le_of_ble_eq_true rfl) (Nat.le_of_ble_eq_true rfl) rfl rfl (c_Disk_cell (e0 := e0) (tl := tl)  d x1 1) (Or.inl (len1 (lenHD rfl))) ?_
  refine ev_istore_n d_Disk_endFileAt_13 rfl (by decide) rfl ?_
  refine ev_iload_n d_Disk_endFileAt_14 rfl rfl ?_
  refine ev_if_ne (tgt := 19) d_Disk_endFileAt_15 rfl (fun h1 => ?_) (fun h1 => ?_)
  · rw [if_pos h1]
    refine ev_iload_n d_Disk_endFileAt_19 rfl rfl ?_
    refine ev_bipush (v := 8) d_Disk_endFileAt_20 rfl ?_
    refine ev_iload_n d_Disk_endFileAt_22 rfl rfl ?_
    refine ev_iconst (v := 1) d_Disk_endFileAt_23 rfl ?_
    refine ev_isub d_Disk_endFileAt_24 ?_
    refine ev_imul d_Disk_endFileAt_25 ?_
    refine ev_isub d_Disk_endFileAt_26 ?_
    refine ev_istore d_Disk_endFileAt_27 (by decide) rfl ?_
    refine ev_aload_n d_Disk_endFileAt_29 rfl rfl ?_
    refine ev_iload_n d_Disk_endFileAt_30 rfl rfl ?_
    refine ev_iconst (v := 2) d_Disk_endFileAt_31 rfl ?_
    refine ev_iload d_Disk_endFileAt_32 rfl ?_
    refine ev_callr (Mc := M_Disk_setCell) (v := none) (h1 := (e0 :: (HD (xSetCell d x1 2 (x2 - (8 * ((xCell d x1 1) - 1)))) tl))) (k2 := 0) (n2 := 0) (inv_V (q := 1) (av := [.int x1, .int 2, .int (x2 - (8 * ((xCell d x1 1) - 1)))]) (rest := []) rfl (ci := 1) rfl d_Disk_endFileAt_34 gw_177 gw_178 gw_179 mw_Disk_setCell nh_Disk_setCell pn_Disk_setCell rfl) d_Disk_endFileAt_34 pl_Disk_setCell (Nat.le_of_ble_eq_true rfl) (Nat.le_of_ble_eq_true rfl) (Nat.le_of_ble_eq_true rfl) rfl rfl (c_Disk_setCell (e0 := e0) (tl := tl)  d x1 2 (x2 - (8 * ((xCell d x1 1) - 1)))) (Or.inl (len1 (lenHD rfl))) ?_
    exact ev_pick [2, 3, 0] rfl (e_B_Disk_endFileAt_37     (xSetCell d x1 2 (x2 - (8 * ((xCell d x1 1) - 1)))) x1 (x2 - (8 * ((xCell d x1 1) - 1))))
  · rw [if_neg h1]
    exact ev_vret rfl d_Disk_endFileAt_18
def f_Disk_endFileAt   (d : DS) (x1 : Int32) (x2 : Int32) : Option (Unit × DS) :=
  B_Disk_endFileAt_7   (xSetCell d x1 3 (-1)) x1 x2
theorem e_f_Disk_endFileAt {sc : Nat × (Nat → Int32)} {e0 : mn_E} {tl : List mn_E}    (d : DS) (x1 : Int32) (x2 : Int32) : Ev sc 2 31 0 0 M_Disk_endFileAt 0 [(0, .ref 1), (1, .int x1), (2, .int x2)] [] (e0 :: (HD d tl)) (mapR ouV (fun z => (e0 :: (HD z tl))) (f_Disk_endFileAt d x1 x2)) := by
  unfold f_Disk_endFileAt
  refine ev_aload_n d_Disk_endFileAt_0 rfl rfl ?_
  refine ev_iload_n d_Disk_endFileAt_1 rfl rfl ?_
  refine ev_iconst (v := 3) d_Disk_endFileAt_2 rfl ?_
  refine ev_iconst (v := -1) d_Disk_endFileAt_3 rfl ?_
  refine ev_callr (Mc := M_Disk_setCell) (v := none) (h1 := (e0 :: (HD (xSetCell d x1 3 (-1)) tl))) (k2 := 0) (n2 := 0) (inv_V (q := 1) (av := [.int x1, .int 3, .int (-1)]) (rest := []) rfl (ci := 1) rfl d_Disk_endFileAt_4 gw_177 gw_178 gw_179 mw_Disk_setCell nh_Disk_setCell pn_Disk_setCell rfl) d_Disk_endFileAt_4 pl_Disk_setCell (Nat.le_of_ble_eq_true rfl) (Nat.le_of_ble_eq_true rfl) (Nat.le_of_ble_eq_true rfl) rfl rfl (c_Disk_setCell (e0 := e0) (tl := tl)  d x1 3 (-1)) (Or.inl (len1 (lenHD rfl))) ?_
  exact ev_pick [0, 1, 2] rfl (e_B_Disk_endFileAt_7     (xSetCell d x1 3 (-1)) x1 x2)
def B_Disk_setMapBits_57  (r2 : DS → Int32 → Int32 → Option (Unit × DS)) (d : DS) (x1 : Int32) (x2 : Int32) : Option (Unit × DS) :=
  r2 d x1 (x2 + 1)
theorem e_B_Disk_setMapBits_57 {sc : Nat × (Nat → Int32)} {e0 : mn_E} {tl : List mn_E}  (r2 : DS → Int32 → Int32 → Option (Unit × DS)) (hr2 : ∀ (d : DS) (x1 : Int32) (x2 : Int32), Ev sc 2 31 0 0 M_Disk_setMapBits 2 [(0, .ref 1), (1, .int x1), (2, .int x2)] [] (e0 :: (HD d tl)) (mapR ouV (fun z => (e0 :: (HD z tl))) (r2 d x1 x2))) (d : DS) (x1 : Int32) (x2 : Int32) : Ev sc 2 31 0 0 M_Disk_setMapBits 57 [(0, .ref 1), (1, .int x1), (2, .int x2)] [] (e0 :: (HD d tl)) (mapR ouV (fun z => (e0 :: (HD z tl))) (B_Disk_setMapBits_57 r2 d x1 x2)) := by
  unfold B_Disk_setMapBits_57
  refine ev_iinc (v := (x2 + 1)) d_Disk_setMapBits_57 rfl rfl (by decide) rfl ?_
  refine ev_goto (tgt := 2) d_Disk_setMapBits_60 rfl ?_
  exact ev_pick [1, 2, 0] rfl (hr2 d x1 (x2 + 1))
def B_Disk_setMapBits_42  (r2 : DS → Int32 → Int32 → Option (Unit × DS)) (r12 : DS → Int32 → Int32 → Int32 → Int32 → Option (Unit × DS)) (d : DS) (x1 : Int32) (x2 : Int32) (x4 : Int32) (t0 : Int32) (t1 : Int32) : Option (Unit × DS) :=
  r12 d x1 x2 (t0 ||| t1) (x4 + 1)
theorem e_B_Disk_setMapBits_42 {sc : Nat × (Nat → Int32)} {e0 : mn_E} {tl : List mn_E}  (r2 : DS → Int32 → Int32 → Option (Unit × DS)) (r12 : DS → Int32 → Int32 → Int32 → Int32 → Option (Unit × DS)) (hr2 : ∀ (d : DS) (x1 : Int32) (x2 : Int32), Ev sc 2 31 0 0 M_Disk_setMapBits 2 [(0, .ref 1), (1, .int x1), (2, .int x2)] [] (e0 :: (HD d tl)) (mapR ouV (fun z => (e0 :: (HD z tl))) (r2 d x1 x2))) (hr12 : ∀ (d : DS) (x1 : Int32) (x2 : Int32) (x3 : Int32) (x4 : Int32), Ev sc 2 31 0 0 M_Disk_setMapBits 12 [(0, .ref 1), (1, .int x1), (2, .int x2), (3, .int x3), (4, .int x4)] [] (e0 :: (HD d tl)) (mapR ouV (fun z => (e0 :: (HD z tl))) (r12 d x1 x2 x3 x4))) (d : DS) (x1 : Int32) (x2 : Int32) (x4 : Int32) (t0 : Int32) (t1 : Int32) : Ev sc 2 31 0 0 M_Disk_setMapBits 42 [(0, .ref 1), (1, .int x1), (2, .int x2), (4, .int x4)] [.int t1, .int t0] (e0 :: (HD d tl)) (mapR ouV (fun z => (e0 :: (HD z tl))) (B_Disk_setMapBits_42 r2 r12 d x1 x2 x4 t0 t1)) := by
  unfold B_Disk_setMapBits_42
  refine ev_ior d_Disk_setMapBits_42 ?_
  refine ev_istore_n d_Disk_setMapBits_43 rfl (by decide) rfl ?_
  refine ev_iinc (v := (x4 + 1)) d_Disk_setMapBits_44 rfl rfl (by decide) rfl ?_
  refine ev_goto (tgt := 12) d_Disk_setMapBits_47 rfl ?_
  exact ev_pick [2, 3, 4, 1, 0] rfl (hr12 d x1 x2 (t0 ||| t1) (x4 + 1))
def L_Disk_setMapBits_12  (r2 : DS → Int32 → Int32 → Option (Unit × DS)) : Nat → DS → Int32 → Int32 → Int32 → Int32 → Option (Unit × DS)
  | 0, _, _, _, _, _ => none
  | n + 1, d, x1, x2, x3, x4 =>
  if 8 ≤ x4 then (B_Disk_setMapBits_57  r2 ((f_Disk_setByte d x1 x2 x3).2) x1 x2) else (if ((f_Disk_isFree d ((8 * x2) + x4)).1) = 0 then (B_Disk_setMapBits_42  r2 (L_Disk_setMapBits_12 r2 n) d x1 x2 x4 x3 0) else (B_Disk_setMapBits_42  r2 (L_Disk_setMapBits_12 r2 n) d x1 x2 x4 x3 (1 <<< (x4 &&& 31))))
theorem e_L_Disk_setMapBits_12 {sc : Nat × (Nat → Int32)} {e0 : mn_E} {tl : List mn_E}  (r2 : DS → Int32 → Int32 → Option (Unit × DS)) (hr2 : ∀ (d : DS) (x1 : Int32) (x2 : Int32), Ev sc 2 31 0 0 M_Disk_setMapBits 2 [(0, .ref 1), (1, .int x1), (2, .int x2)] [] (e0 :: (HD d tl)) (mapR ouV (fun z => (e0 :: (HD z tl))) (r2 d x1 x2))) : ∀ (n : Nat) (d : DS) (x1 : Int32) (x2 : Int32) (x3 : Int32) (x4 : Int32), Ev sc 2 31 0 0 M_Disk_setMapBits 12 [(0, .ref 1), (1, .int x1), (2, .int x2), (3, .int x3), (4, .int x4)] [] (e0 :: (HD d tl)) (mapR ouV (fun z => (e0 :: (HD z tl))) (L_Disk_setMapBits_12  r2 n d x1 x2 x3 x4)) := by
  intro n
  induction n with
  | zero => intro d x1 x2 x3 x4; exact ev_none
  | succ n ih =>
    intro d x1 x2 x3 x4
    rw [L_Disk_setMapBits_12]
    refine ev_iload d_Disk_setMapBits_12 rfl ?_
    refine ev_bipush (v := 8) d_Disk_setMapBits_14 rfl ?_
    refine ev_icmp_ge (tgt := 50) d_Disk_setMapBits_16 rfl (fun h1 => ?_) (fun h1 => ?_)
    · rw [if_pos h1]
      refine ev_aload_n d_Disk_setMapBits_50 rfl rfl ?_
      refine ev_iload_n d_Disk_setMapBits_51 rfl rfl ?_
      refine ev_iload_n d_Disk_setMapBits_52 rfl rfl ?_
      refine ev_iload_n d_Disk_setMapBits_53 rfl rfl ?_
      refine ev_callr (Mc := M_Disk_setByte) (v := none) (h1 := (e0 :: (HD ((f_Disk_setByte d x1 x2 x3).2) tl))) (k2 := 0) (n2 := 0) (inv_V (q := 1) (av := [.int x1, .int x2, .int x3]) (rest := []) rfl (ci := 1) rfl d_Disk_setMapBits_54 gw_189 gw_190 gw_191 mw_Disk_setByte nh_Disk_setByte pn_Disk_setByte rfl) d_Disk_setMapBits_54 pl_Disk_setByte (Nat.le_of_ble_eq_true rfl) (Nat.le_of_ble_eq_true rfl) (Nat.le_of_ble_eq_true rfl) rfl rfl (e_f_Disk_setByte (e0 := e0) (tl := tl)  d x1 x2 x3) (Or.inl (len1 (lenHD rfl))) ?_
      exact ev_pick [0, 1, 2] rfl (e_B_Disk_setMapBits_57   r2 hr2 ((f_Disk_setByte d x1 x2 x3).2) x1 x2)
    · rw [if_neg h1]
      refine ev_iload_n d_Disk_setMapBits_19 rfl rfl ?_
      refine ev_aload_n d_Disk_setMapBits_20 rfl rfl ?_
      refine ev_bipush (v := 8) d_Disk_setMapBits_21 rfl ?_
      refine ev_iload_n d_Disk_setMapBits_23 rfl rfl ?_
      refine ev_imul d_Disk_setMapBits_24 ?_
      refine ev_iload d_Disk_setMapBits_25 rfl ?_
      refine ev_iadd d_Disk_setMapBits_27 ?_
      refine ev_callr (Mc := M_Disk_isFree) (v := some (.int ((f_Disk_isFree d ((8 * x2) + x4)).1))) (h1 := (e0 :: (HD d tl))) (k2 := 0) (n2 := 0) (inv_V (q := 1) (av := [.int ((8 * x2) + x4)]) (rest := [.int x3]) rfl (ci := 1) rfl d_Disk_setMapBits_28 gw_205 gw_206 gw_207 mw_Disk_isFree nh_Disk_isFree pn_Disk_isFree rfl) d_Disk_setMapBits_28 pl_Disk_isFree (Nat.le_of_ble_eq_true rfl) (Nat.le_of_ble_eq_true rfl) (Nat.le_of_ble_eq_true rfl) rfl rfl (e_f_Disk_isFree (e0 := e0) (tl := tl)  d ((8 * x2) + x4)) (Or.inl (len1 (lenHD rfl))) ?_
      refine ev_if_eq (tgt := 41) d_Disk_setMapBits_31 rfl (fun h2 => ?_) (fun h2 => ?_)
      · rw [if_pos h2]
        refine ev_iconst (v := 0) d_Disk_setMapBits_41 rfl ?_
        exact ev_pick [0, 1, 2, 4] rfl (e_B_Disk_setMapBits_42   r2 (L_Disk_setMapBits_12 r2 n) hr2 ih d x1 x2 x4 x3 0)
      · rw [if_neg h2]
        refine ev_iconst (v := 1) d_Disk_setMapBits_34 rfl ?_
        refine ev_iload d_Disk_setMapBits_35 rfl ?_
        refine ev_ishl d_Disk_setMapBits_37 ?_
        refine ev_goto (tgt := 42) d_Disk_setMapBits_38 rfl ?_
        exact ev_pick [0, 1, 2, 4] rfl (e_B_Disk_setMapBits_42   r2 (L_Disk_setMapBits_12 r2 n) hr2 ih d x1 x2 x4 x3 (1 <<< (x4 &&& 31)))
def L_Disk_setMapBits_2   : Nat → DS → Int32 → Int32 → Option (Unit × DS)
  | 0, _, _, _ => none
  | n + 1, d, x1, x2 =>
  if 5 ≤ x2 then (some ((), d)) else (L_Disk_setMapBits_12  (L_Disk_setMapBits_2 n) 100 d x1 x2 0 0)
theorem e_L_Disk_setMapBits_2 {sc : Nat × (Nat → Int32)} {e0 : mn_E} {tl : List mn_E}    : ∀ (n : Nat) (d : DS) (x1 : Int32) (x2 : Int32), Ev sc 2 31 0 0 M_Disk_setMapBits 2 [(0, .ref 1), (1, .int x1), (2, .int x2)] [] (e0 :: (HD d tl)) (mapR ouV (fun z => (e0 :: (HD z tl))) (L_Disk_setMapBits_2   n d x1 x2)) := by
  intro n
  induction n with
  | zero => intro d x1 x2; exact ev_none
  | succ n ih =>
    intro d x1 x2
    rw [L_Disk_setMapBits_2]
    refine ev_iload_n d_Disk_setMapBits_2 rfl rfl ?_
    refine ev_iconst (v := 5) d_Disk_setMapBits_3 rfl ?_
    refine ev_icmp_ge (tgt := 63) d_Disk_setMapBits_4 rfl (fun h1 => ?_) (fun h1 => ?_)
    · rw [if_pos h1]
      exact ev_vret rfl d_Disk_setMapBits_63
    · rw [if_neg h1]
      refine ev_iconst (v := 0) d_Disk_setMapBits_7 rfl ?_
      refine ev_istore_n d_Disk_setMapBits_8 rfl (by decide) rfl ?_
      refine ev_iconst (v := 0) d_Disk_setMapBits_9 rfl ?_
      refine ev_istore d_Disk_setMapBits_10 (by decide) rfl ?_
      exact ev_pick [2, 3, 4, 1, 0] rfl (e_L_Disk_setMapBits_12   (L_Disk_setMapBits_2 n) ih 100 d x1 x2 0 0)
def f_Disk_setMapBits   (d : DS) (x1 : Int32) : Option (Unit × DS) :=
  L_Disk_setMapBits_2   100 d x1 0
theorem e_f_Disk_setMapBits {sc : Nat × (Nat → Int32)} {e0 : mn_E} {tl : List mn_E}    (d : DS) (x1 : Int32) : Ev sc 2 31 0 0 M_Disk_setMapBits 0 [(0, .ref 1), (1, .int x1)] [] (e0 :: (HD d tl)) (mapR ouV (fun z => (e0 :: (HD z tl))) (f_Disk_setMapBits d x1)) := by
  unfold f_Disk_setMapBits
  refine ev_iconst (v := 0) d_Disk_setMapBits_0 rfl ?_
  refine ev_istore_n d_Disk_setMapBits_1 rfl (by decide) rfl ?_
  exact ev_pick [1, 2, 0] rfl (e_L_Disk_setMapBits_2     100 d x1 0)
