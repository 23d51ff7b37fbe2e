def B_Disk_makeLeader_42   (d : DS) : (Unit × DS) :=
  ((), d)
theorem e_B_Disk_makeLeader_42 {sc : Nat × (Nat → Int32)} {e0 : mn_E} {tl : List mn_E}    (d : DS) : Ev sc 2 31 0 0 M_Disk_makeLeader 42 [] [] (e0 :: (HD d tl)) (mapT ouV (fun z => (e0 :: (HD z tl))) (B_Disk_makeLeader_42 d)) := by
  unfold B_Disk_makeLeader_42
  exact ev_vret rfl d_Disk_makeLeader_42
def B_Disk_makeLeader_35   (d : DS) (x1 : Int32) : (Unit × DS) :=
  B_Disk_makeLeader_42   ((f_Disk_setByte d x1 3 x1).2)
theorem e_B_Disk_makeLeader_35 {sc : Nat × (Nat → Int32)} {e0 : mn_E} {tl : List mn_E}    (d : DS) (x1 : Int32) : Ev sc 2 31 0 0 M_Disk_makeLeader 35 [(0, .ref 1), (1, .int x1)] [] (e0 :: (HD d tl)) (mapT ouV (fun z => (e0 :: (HD z tl))) (B_Disk_makeLeader_35 d x1)) := by
  unfold B_Disk_makeLeader_35
  refine ev_aload_n d_Disk_makeLeader_35 rfl rfl ?_
  refine ev_iload_n d_Disk_makeLeader_36 rfl rfl ?_
  refine ev_iconst (v := 3) d_Disk_makeLeader_37 rfl ?_
  refine ev_iload_n d_Disk_makeLeader_38 rfl rfl ?_
  refine ev_callr (Mc := M_Disk_setByte) (v := none) (h1 := (e0 :: (HD ((f_Disk_setByte d x1 3 x1).2) tl))) (k2 := 0) (n2 := 0) (inv_V (q := 1) (av := [.int x1, .int 3, .int x1]) (rest := []) rfl (ci := 1) rfl d_Disk_makeLeader_39 gw_189 gw_190 gw_191 mw_Disk_setByte nh_Disk_setByte pn_Disk_setByte rfl) d_Disk_makeLeader_39 pl_Disk_setByte (Nat.le_of_ble_eq_true rfl) (Nat.le_of_ble_eq_true rfl) (Nat.le_of_ble_eq_true rfl) rfl rfl (e_f_Disk_setByte (e0 := e0) (tl := tl)  d x1 3 x1) (Or.inl (len1 (lenHD rfl))) ?_
  exact ev_pick [] rfl (e_B_Disk_makeLeader_42     ((f_Disk_setByte d x1 3 x1).2))
def B_Disk_makeLeader_27   (d : DS) (x1 : Int32) (x4 : Int32) : (Unit × DS) :=
  B_Disk_makeLeader_35   ((f_Disk_setByte d x1 2 x4).2) x1
theorem e_B_Disk_makeLeader_27 {sc : Nat × (Nat → Int32)} {e0 : mn_E} {tl : List mn_E}    (d : DS) (x1 : Int32) (x4 : Int32) : Ev sc 2 31 0 0 M_Disk_makeLeader 27 [(0, .ref 1), (1, .int x1), (4, .int x4)] [] (e0 :: (HD d tl)) (mapT ouV (fun z => (e0 :: (HD z tl))) (B_Disk_makeLeader_27 d x1 x4)) := by
  unfold B_Disk_makeLeader_27
  refine ev_aload_n d_Disk_makeLeader_27 rfl rfl ?_
  refine ev_iload_n d_Disk_makeLeader_28 rfl rfl ?_
  refine ev_iconst (v := 2) d_Disk_makeLeader_29 rfl ?_
  refine ev_iload d_Disk_makeLeader_30 rfl ?_
  refine ev_callr (Mc := M_Disk_setByte) (v := none) (h1 := (e0 :: (HD ((f_Disk_setByte d x1 2 x4).2) tl))) (k2 := 0) (n2 := 0) (inv_V (q := 1) (av := [.int x1, .int 2, .int x4]) (rest := []) rfl (ci := 1) rfl d_Disk_makeLeader_32 gw_189 gw_190 gw_191 mw_Disk_setByte nh_Disk_setByte pn_Disk_setByte rfl) d_Disk_makeLeader_32 pl_Disk_setByte (Nat.le_of_ble_eq_true rfl) (Nat.le_of_ble_eq_true rfl) (Nat.le_of_ble_eq_true rfl) rfl rfl (e_f_Disk_setByte (e0 := e0) (tl := tl)  d x1 2 x4) (Or.inl (len1 (lenHD rfl))) ?_
  exact ev_pick [0, 1] rfl (e_B_Disk_makeLeader_35     ((f_Disk_setByte d x1 2 x4).2) x1)
def B_Disk_makeLeader_20   (d : DS) (x1 : Int32) (x3 : Int32) (x4 : Int32) : (Unit × DS) :=
  B_Disk_makeLeader_27   ((f_Disk_setName d x1 0 x3).2) x1 x4
theorem e_B_Disk_makeLeader_20 {sc : Nat × (Nat → Int32)} {e0 : mn_E} {tl : List mn_E}    (d : DS) (x1 : Int32) (x3 : Int32) (x4 : Int32) : Ev sc 2 31 0 0 M_Disk_makeLeader 20 [(0, .ref 1), (1, .int x1), (3, .int x3), (4, .int x4)] [] (e0 :: (HD d tl)) (mapT ouV (fun z => (e0 :: (HD z tl))) (B_Disk_makeLeader_20 d x1 x3 x4)) := by
  unfold B_Disk_makeLeader_20
  refine ev_aload_n d_Disk_makeLeader_20 rfl rfl ?_
  refine ev_iload_n d_Disk_makeLeader_21 rfl rfl ?_
  refine ev_iconst (v := 0) d_Disk_makeLeader_22 rfl ?_
  refine ev_iload_n d_Disk_makeLeader_23 rfl rfl ?_
  refine ev_callr (Mc := M_Disk_setName) (v := none) (h1 := (e0 :: (HD ((f_Disk_setName d x1 0 x3).2) tl))) (k2 := 0) (n2 := 0) (inv_V (q := 1) (av := [.int x1, .int 0, .int x3]) (rest := []) rfl (ci := 1) rfl d_Disk_makeLeader_24 gw_185 gw_186 gw_187 mw_Disk_setName nh_Disk_setName pn_Disk_setName rfl) d_Disk_makeLeader_24 pl_Disk_setName (Nat.le_of_ble_eq_true rfl) (Nat.le_of_ble_eq_true rfl) (Nat.le_of_ble_eq_true rfl) rfl rfl (e_f_Disk_setName (e0 := e0) (tl := tl)  d x1 0 x3) (Or.inl (len1 (lenHD rfl))) ?_
  exact ev_pick [0, 1, 3] rfl (e_B_Disk_makeLeader_27     ((f_Disk_setName d x1 0 x3).2) x1 x4)
def B_Disk_makeLeader_12   (d : DS) (x1 : Int32) (x3 : Int32) (x4 : Int32) : (Unit × DS) :=
  B_Disk_makeLeader_20   (xSetCell d x1 2 8) x1 x3 x4
theorem e_B_Disk_makeLeader_12 {sc : Nat × (Nat → Int32)} {e0 : mn_E} {tl : List mn_E}    (d : DS) (x1 : Int32) (x3 : Int32) (x4 : Int32) : Ev sc 2 31 0 0 M_Disk_makeLeader 12 [(0, .ref 1), (1, .int x1), (3, .int x3), (4, .int x4)] [] (e0 :: (HD d tl)) (mapT ouV (fun z => (e0 :: (HD z tl))) (B_Disk_makeLeader_12 d x1 x3 x4)) := by
  unfold B_Disk_makeLeader_12
  refine ev_aload_n d_Disk_makeLeader_12 rfl rfl ?_
  refine ev_iload_n d_Disk_makeLeader_13 rfl rfl ?_
  refine ev_iconst (v := 2) d_Disk_makeLeader_14 rfl ?_
  refine ev_bipush (v := 8) d_Disk_makeLeader_15 rfl ?_
  refine ev_callr (Mc := M_Disk_setCell) (v := none) (h1 := (e0 :: (HD (xSetCell d x1 2 8) tl))) (k2 := 0) (n2 := 0) (inv_V (q := 1) (av := [.int x1, .int 2, .int 8]) (rest := []) rfl (ci := 1) rfl d_Disk_makeLeader_17 gw_177 gw_178 gw_179 mw_Disk_setCell nh_Disk_setCell pn_Disk_setCell rfl) d_Disk_makeLeader_17 pl_Disk_setCell (Nat.le_of_ble_eq_true rfl) (Nat.le_of_ble_eq_true rfl) (Nat.le_of_ble_eq_true rfl) rfl rfl (c_Disk_setCell (e0 := e0) (tl := tl)  d x1 2 8) (Or.inl (len1 (lenHD rfl))) ?_
  exact ev_pick [0, 1, 2, 3] rfl (e_B_Disk_makeLeader_20     (xSetCell d x1 2 8) x1 x3 x4)
def B_Disk_makeLeader_5   (d : DS) (x1 : Int32) (x2 : Int32) (x3 : Int32) (x4 : Int32) : (Unit × DS) :=
  B_Disk_makeLeader_12   (xSetCell d x1 0 x2) x1 x3 x4
theorem e_B_Disk_makeLeader_5 {sc : Nat × (Nat → Int32)} {e0 : mn_E} {tl : List mn_E}    (d : DS) (x1 : Int32) (x2 : Int32) (x3 : Int32) (x4 : Int32) : Ev sc 2 31 0 0 M_Disk_makeLeader 5 [(0, .ref 1), (1, .int x1), (2, .int x2), (3, .int x3), (4, .int x4)] [] (e0 :: (HD d tl)) (mapT ouV (fun z => (e0 :: (HD z tl))) (B_Disk_makeLeader_5 d x1 x2 x3 x4)) := by
  unfold B_Disk_makeLeader_5
  refine ev_aload_n d_Disk_makeLeader_5 rfl rfl ?_
  refine ev_iload_n d_Disk_makeLeader_6 rfl rfl ?_
  refine ev_iconst (v := 0) d_Disk_makeLeader_7 rfl ?_
  refine ev_iload_n d_Disk_makeLeader_8 rfl rfl ?_
  refine ev_callr (Mc := M_Disk_setCell) (v := none) (h1 := (e0 :: (HD (xSetCell d x1 0 x2) tl))) (k2 := 0) (n2 := 0) (inv_V (q := 1) (av := [.int x1, .int 0, .int x2]) (rest := []) rfl (ci := 1) rfl d_Disk_makeLeader_9 gw_177 gw_178 gw_179 mw_Disk_setCell nh_Disk_setCell pn_Disk_setCell rfl) d_Disk_makeLeader_9 pl_Disk_setCell (Nat.le_of_ble_eq_true rfl) (Nat.le_of_ble_eq_true rfl) (Nat.le_of_ble_eq_true rfl) rfl rfl (c_Disk_setCell (e0 := e0) (tl := tl)  d x1 0 x2) (Or.inl (len1 (lenHD rfl))) ?_
  exact ev_pick [0, 1, 3, 4] rfl (e_B_Disk_makeLeader_12     (xSetCell d x1 0 x2) x1 x3 x4)
def f_Disk_makeLeader   (d : DS) (x1 : Int32) (x2 : Int32) (x3 : Int32) (x4 : Int32) : (Unit × DS) :=
  B_Disk_makeLeader_5   (xErase d x1) x1 x2 x3 x4
theorem e_f_Disk_makeLeader {sc : Nat × (Nat → Int32)} {e0 : mn_E} {tl : List mn_E}    (d : DS) (x1 : Int32) (x2 : Int32) (x3 : Int32) (x4 : Int32) : Ev sc 2 31 0 0 M_Disk_makeLeader 0 [(0, .ref 1), (1, .int x1), (2, .int x2), (3, .int x3), (4, .int x4)] [] (e0 :: (HD d tl)) (mapT ouV (fun z => (e0 :: (HD z tl))) (f_Disk_makeLeader d x1 x2 x3 x4)) := by
  unfold f_Disk_makeLeader
  refine ev_aload_n d_Disk_makeLeader_0 rfl rfl ?_
  refine ev_iload_n d_Disk_makeLeader_1 rfl rfl ?_
  refine ev_callr (Mc := M_Disk_erase) (v := none) (h1 := (e0 :: (HD (xErase d x1) tl))) (k2 := 0) (n2 := 0) (inv_V (q := 1) (av := [.int x1]) (rest := []) rfl (ci := 1) rfl d_Disk_makeLeader_2 gw_173 gw_174 gw_175 mw_Disk_erase nh_Disk_erase pn_Disk_erase rfl) d_Disk_makeLeader_2 pl_Disk_erase (Nat.le_of_ble_eq_true rfl) (Nat.le_of_ble_eq_true rfl) (Nat.le_of_ble_eq_true rfl) rfl rfl (c_Disk_erase (e0 := e0) (tl := tl)  d x1) (Or.inl (len1 (lenHD rfl))) ?_
  exact ev_pick [0, 1, 2, 3, 4] rfl (e_B_Disk_makeLeader_5     (xErase d x1) x1 x2 x3 x4)
def B_Disk_makePageBehind_45   (d : DS) : (Unit × DS) :=
  ((), d)
theorem e_B_Disk_makePageBehind_45 {sc : Nat × (Nat → Int32)} {e0 : mn_E} {tl : List mn_E}    (d : DS) : Ev sc 2 30 0 0 M_Disk_makePageBehind 45 [] [] (e0 :: (HD d tl)) (mapT ouV (fun z => (e0 :: (HD z tl))) (B_Disk_makePageBehind_45 d)) := by
  unfold B_Disk_makePageBehind_45
  exact ev_vret rfl d_Disk_makePageBehind_45
def B_Disk_makePageBehind_38   (d : DS) (x1 : Int32) (x2 : Int32) : (Unit × DS) :=
  B_Disk_makePageBehind_45   (xSetCell d x2 4 x1)
theorem e_B_Disk_makePageBehind_38 {sc : Nat × (Nat → Int32)} {e0 : mn_E} {tl : List mn_E}    (d : DS) (x1 : Int32) (x2 : Int32) : Ev sc 2 30 0 0 M_Disk_makePageBehind 38 [(0, .ref 1), (1, .int x1), (2, .int x2)] [] (e0 :: (HD d tl)) (mapT ouV (fun z => (e0 :: (HD z tl))) (B_Disk_makePageBehind_38 d x1 x2)) := by
  unfold B_Disk_makePageBehind_38
  refine ev_aload_n d_Disk_makePageBehind_38 rfl rfl ?_
  refine ev_iload_n d_Disk_makePageBehind_39 rfl rfl ?_
  refine ev_iconst (v := 4) d_Disk_makePageBehind_40 rfl ?_
  refine ev_iload_n d_Disk_makePageBehind_41 rfl rfl ?_
  refine ev_callr (Mc := M_Disk_setCell) (v := none) (h1 := (e0 :: (HD (xSetCell d x2 4 x1) tl))) (k2 := 0) (n2 := 0) (inv_V (q := 1) (av := [.int x2, .int 4, .int x1]) (rest := []) rfl (ci := 1) rfl d_Disk_makePageBehind_42 gw_177 gw_178 gw_179 mw_Disk_setCell nh_Disk_setCell pn_Disk_setCell rfl) d_Disk_makePageBehind_42 pl_Disk_setCell (Nat.le_of_ble_eq_true rfl) (Nat.le_of_ble_eq_true rfl) (Nat.le_of_ble_eq_true rfl) rfl rfl (c_Disk_setCell (e0 := e0) (tl := tl)  d x2 4 x1) (Or.inl (len1 (lenHD rfl))) ?_
  exact ev_pick [] rfl (e_B_Disk_makePageBehind_45     (xSetCell d x2 4 x1))
def B_Disk_makePageBehind_31   (d : DS) (x1 : Int32) (x2 : Int32) (x3 : Int32) : (Unit × DS) :=
  B_Disk_makePageBehind_38   (xSetCell d x2 2 x3) x1 x2
theorem e_B_Disk_makePageBehind_31 {sc : Nat × (Nat → Int32)} {e0 : mn_E} {tl : List mn_E}    (d : DS) (x1 : Int32) (x2 : Int32) (x3 : Int32) : Ev sc 2 30 0 0 M_Disk_makePageBehind 31 [(0, .ref 1), (1, .int x1), (2, .int x2), (3, .int x3)] [] (e0 :: (HD d tl)) (mapT ouV (fun z => (e0 :: (HD z tl))) (B_Disk_makePageBehind_31 d x1 x2 x3)) := by
  unfold B_Disk_makePageBehind_31
  refine ev_aload_n d_Disk_makePageBehind_31 rfl rfl ?_
  refine ev_iload_n d_Disk_makePageBehind_32 rfl rfl ?_
  refine ev_iconst (v := 2) d_Disk_makePageBehind_33 rfl ?_
  refine ev_iload_n d_Disk_makePageBehind_34 rfl rfl ?_
  refine ev_callr (Mc := M_Disk_setCell) (v := none) (h1 := (e0 :: (HD (xSetCell d x2 2 x3) tl))) (k2 := 0) (n2 := 0) (inv_V (q := 1) (av := [.int x2, .int 2, .int x3]) (rest := []) rfl (ci := 1) rfl d_Disk_makePageBehind_35 gw_177 gw_178 gw_179 mw_Disk_setCell nh_Disk_setCell pn_Disk_setCell rfl) d_Disk_makePageBehind_35 pl_Disk_setCell (Nat.le_of_ble_eq_true rfl) (Nat.le_of_ble_eq_true rfl) (Nat.le_of_ble_eq_true rfl) rfl rfl (c_Disk_setCell (e0 := e0) (tl := tl)  d x2 2 x3) (Or.inl (len1 (lenHD rfl))) ?_
  exact ev_pick [0, 1, 2] rfl (e_B_Disk_makePageBehind_38     (xSetCell d x2 2 x3) x1 x2)
def B_Disk_makePageBehind_17   (d : DS) (x1 : Int32) (x2 : Int32) (x3 : Int32) : (Unit × DS) :=
  B_Disk_makePageBehind_31   (xSetCell d x2 1 ((xCell d x1 1) + 1)) x1 x2 x3
theorem e_B_Disk_makePageBehind_17 {sc : Nat × (Nat → Int32)} {e0 : mn_E} {tl : List mn_E}    (d : DS) (x1 : Int32) (x2 : Int32) (x3 : Int32) : Ev sc 2 30 0 0 M_Disk_makePageBehind 17 [(0, .ref 1), (1, .int x1), (2, .int x2), (3, .int x3)] [] (e0 :: (HD d tl)) (mapT ouV (fun z => (e0 :: (HD z tl))) (B_Disk_makePageBehind_17 d x1 x2 x3)) := by
  unfold B_Disk_makePageBehind_17
  refine ev_aload_n d_Disk_makePageBehind_17 rfl rfl ?_
  refine ev_iload_n d_Disk_makePageBehind_18 rfl rfl ?_
  refine ev_iconst (v := 1) d_Disk_makePageBehind_19 rfl ?_
  refine ev_aload_n d_Disk_makePageBehind_20 rfl rfl ?_
  refine ev_iload_n d_Disk_makePageBehind_21 rfl rfl ?_
  refine ev_iconst (v := 1) d_Disk_makePageBehind_22 rfl ?_
  refine ev_callr (Mc := M_Disk_cell) (v := some (.int (xCell d x1 1))) (h1 := (e0 :: (HD d tl))) (k2 := 0) (n2 := 0) (inv_V (q := 1) (av := [.int x1, .int 1]) (rest := [.int 1, .int x2, .ref 1]) rfl (ci := 1) rfl d_Disk_makePageBehind_23 gw_197 gw_198 gw_199 mw_Disk_cell nh_Disk_cell pn_Disk_cell rfl) d_Disk_makePageBehind_23 pl_Disk_cell (Nat.le_of_ble_eq_true rfl) (Nat.le_of_ble_eq_true rfl) (Nat.le_of_ble_eq_true rfl) rfl rfl (c_Disk_cell (e0 := e0) (tl := tl)  d x1 1) (Or.inl (len1 (lenHD rfl))) ?_
  refine ev_iconst (v := 1) d_Disk_makePageBehind_26 rfl ?_
  refine ev_iadd d_Disk_makePageBehind_27 ?_
  refine ev_callr (Mc := M_Disk_setCell) (v := none) (h1 := (e0 :: (HD (xSetCell d x2 1 ((xCell d x1 1) + 1)) tl))) (k2 := 0) (n2 := 0) (inv_V (q := 1) (av := [.int x2, .int 1, .int ((xCell d x1 1) + 1)]) (rest := []) rfl (ci := 1) rfl d_Disk_makePageBehind_28 gw_177 gw_178 gw_179 mw_Disk_setCell nh_Disk_setCell pn_Disk_setCell rfl) d_Disk_makePageBehind_28 pl_Disk_setCell (Nat.le_of_ble_eq_true rfl) (Nat.le_of_ble_eq_true rfl) (Nat.le_of_ble_eq_true rfl) rfl rfl (c_Disk_setCell (e0 := e0) (tl := tl)  d x2 1 ((xCell d x1 1) + 1)) (Or.inl (len1 (lenHD rfl))) ?_
  exact ev_pick [0, 1, 2, 3] rfl (e_B_Disk_makePageBehind_31     (xSetCell d x2 1 ((xCell d x1 1) + 1)) x1 x2 x3)
def B_Disk_makePageBehind_5   (d : DS) (x1 : Int32) (x2 : Int32) (x3 : Int32) : (Unit × DS) :=
  B_Disk_makePageBehind_17   (xSetCell d x2 0 (xCell d x1 0)) x1 x2 x3
theorem e_B_Disk_makePageBehind_5 {sc : Nat × (Nat → Int32)} {e0 : mn_E} {tl : List mn_E}    (d : DS) (x1 : Int32) (x2 : Int32) (x3 : Int32) : Ev sc 2 30 0 0 M_Disk_makePageBehind 5 [(0, .ref 1), (1, .int x1), (2, .int x2), (3, .int x3)] [] (e0 :: (HD d tl)) (mapT ouV (fun z => (e0 :: (HD z tl))) (B_Disk_makePageBehind_5 d x1 x2 x3)) := by
  unfold B_Disk_makePageBehind_5
  refine ev_aload_n d_Disk_makePageBehind_5 rfl rfl ?_
  refine ev_iload_n d_Disk_makePageBehind_6 rfl rfl ?_
  refine ev_iconst (v := 0) d_Disk_makePageBehind_7 rfl ?_
  refine ev_aload_n d_Disk_makePageBehind_8 rfl rfl ?_
  refine ev_iload_n d_Disk_makePageBehind_9 rfl rfl ?_
  refine ev_iconst (v := 0) d_Disk_makePageBehind_10 rfl ?_
  refine ev_callr (Mc := M_Disk_cell) (v := some (.int (xCell d x1 0))) (h1 := (e0 :: (HD d tl))) (k2 := 0) (n2 := 0) (inv_V (q := 1) (av := [.int x1, .int 0]) (rest := [.int 0, .int x2, .ref 1]) rfl (ci := 1) rfl d_Disk_makePageBehind_11 gw_197 gw_198 gw_199 mw_Disk_cell nh_Disk_cell pn_Disk_cell rfl) d_Disk_makePageBehind_11 pl_Disk_cell (Nat.le_of_ble_eq_true rfl) (Nat.le_of_ble_eq_true rfl) (Nat.le_of_ble_eq_true rfl) rfl rfl (c_Disk_cell (e0 := e0) (tl := tl)  d x1 0) (Or.inl (len1 (lenHD rfl))) ?_
  refine ev_callr (Mc := M_Disk_setCell) (v := none) (h1 := (e0 :: (HD (xSetCell d x2 0 (xCell d x1 0)) tl))) (k2 := 0) (n2 := 0) (inv_V (q := 1) (av := [.int x2, .int 0, .int (xCell d x1 0)]) (rest := []) rfl (ci := 1) rfl d_Disk_makePageBehind_14 gw_177 gw_178 gw_179 mw_Disk_setCell nh_Disk_setCell pn_Disk_setCell rfl) d_Disk_makePageBehind_14 pl_Disk_setCell (Nat.le_of_ble_eq_true rfl) (Nat.le_of_ble_eq_true rfl) (Nat.le_of_ble_eq_true rfl) rfl rfl (c_Disk_setCell (e0 := e0) (tl := tl)  d x2 0 (xCell d x1 0)) (Or.inl (len1 (lenHD rfl))) ?_
  exact ev_pick [0, 1, 2, 3] rfl (e_B_Disk_makePageBehind_17     (xSetCell d x2 0 (xCell d x1 0)) x1 x2 x3)
def f_Disk_makePageBehind   (d : DS) (x1 : Int32) (x2 : Int32) (x3 : Int32) : (Unit × DS) :=
  B_Disk_makePageBehind_5   (xErase d x2) x1 x2 x3
theorem e_f_Disk_makePageBehind {sc : Nat × (Nat → Int32)} {e0 : mn_E} {tl : List mn_E}    (d : DS) (x1 : Int32) (x2 : Int32) (x3 : Int32) : Ev sc 2 30 0 0 M_Disk_makePageBehind 0 [(0, .ref 1), (1, .int x1), (2, .int x2), (3, .int x3)] [] (e0 :: (HD d tl)) (mapT ouV (fun z => (e0 :: (HD z tl))) (f_Disk_makePageBehind d x1 x2 x3)) := by
  unfold f_Disk_makePageBehind
  refine ev_aload_n d_Disk_makePageBehind_0 rfl rfl ?_
  refine ev_iload_n d_Disk_makePageBehind_1 rfl rfl ?_
  refine ev_callr (Mc := M_Disk_erase) (v := none) (h1 := (e0 :: (HD (xErase d x2) tl))) (k2 := 0) (n2 := 0) (inv_V (q := 1) (av := [.int x2]) (rest := []) rfl (ci := 1) rfl d_Disk_makePageBehind_2 gw_173 gw_174 gw_175 mw_Disk_erase nh_Disk_erase pn_Disk_erase rfl) d_Disk_makePageBehind_2 pl_Disk_erase (Nat.le_of_ble_eq_true rfl) (Nat.le_of_ble_eq_true rfl) (Nat.le_of_ble_eq_true rfl) rfl rfl (c_Disk_erase (e0 := e0) (tl := tl)  d x2) (Or.inl (len1 (lenHD rfl))) ?_
  exact ev_pick [0, 1, 2, 3] rfl (e_B_Disk_makePageBehind_5     (xErase d x2) x1 x2 x3)
def B_Disk_putEntry_35   (d : DS) : (Unit × DS) :=
  ((), d)
theorem e_B_Disk_putEntry_35 {sc : Nat × (Nat → Int32)} {e0 : mn_E} {tl : List mn_E}    (d : DS) : Ev sc 2 33 0 0 M_Disk_putEntry 35 [] [] (e0 :: (HD d tl)) (mapT ouV (fun z => (e0 :: (HD z tl))) (B_Disk_putEntry_35 d)) := by
  unfold B_Disk_putEntry_35
  exact ev_vret rfl d_Disk_putEntry_35
def B_Disk_putEntry_26   (d : DS) (x1 : Int32) (x2 : Int32) (x3 : Int32) : (Unit × DS) :=
  B_Disk_putEntry_35   ((f_Disk_setByte d x1 (x2 + 3) x3).2)
theorem e_B_Disk_putEntry_26 {sc : Nat × (Nat → Int32)} {e0 : mn_E} {tl : List mn_E}    (d : DS) (x1 : Int32) (x2 : Int32) (x3 : Int32) : Ev sc 2 33 0 0 M_Disk_putEntry 26 [(0, .ref 1), (1, .int x1), (2, .int x2), (3, .int x3)] [] (e0 :: (HD d tl)) (mapT ouV (fun z => (e0 :: (HD z tl))) (B_Disk_putEntry_26 d x1 x2 x3)) := by
  unfold B_Disk_putEntry_26
  refine ev_aload_n d_Disk_putEntry_26 rfl rfl ?_
  refine ev_iload_n d_Disk_putEntry_27 rfl rfl ?_
  refine ev_iload_n d_Disk_putEntry_28 rfl rfl ?_
  refine ev_iconst (v := 3) d_Disk_putEntry_29 rfl ?_
  refine ev_iadd d_Disk_putEntry_30 ?_
  refine ev_iload_n d_Disk_putEntry_31 rfl rfl ?_
  refine ev_callr (Mc := M_Disk_setByte) (v := none) (h1 := (e0 :: (HD ((f_Disk_setByte d x1 (x2 + 3) x3).2) tl))) (k2 := 0) (n2 := 0) (inv_V (q := 1) (av := [.int x1, .int (x2 + 3), .int x3]) (rest := []) rfl (ci := 1) rfl d_Disk_putEntry_32 gw_189 gw_190 gw_191 mw_Disk_setByte nh_Disk_setByte pn_Disk_setByte rfl) d_Disk_putEntry_32 pl_Disk_setByte (Nat.le_of_ble_eq_true rfl) (Nat.le_of_ble_eq_true rfl) (Nat.le_of_ble_eq_true rfl) rfl rfl (e_f_Disk_setByte (e0 := e0) (tl := tl)  d x1 (x2 + 3) x3) (Or.inl (len1 (lenHD rfl))) ?_
  exact ev_pick [] rfl (e_B_Disk_putEntry_35     ((f_Disk_setByte d x1 (x2 + 3) x3).2))
def B_Disk_putEntry_12   (d : DS) (x1 : Int32) (x2 : Int32) (x3 : Int32) : (Unit × DS) :=
  B_Disk_putEntry_26   ((f_Disk_setByte d x1 (x2 + 2) (xCell d x3 0)).2) x1 x2 x3
theorem e_B_Disk_putEntry_12 {sc : Nat × (Nat → Int32)} {e0 : mn_E} {tl : List mn_E}    (d : DS) (x1 : Int32) (x2 : Int32) (x3 : Int32) : Ev sc 2 33 0 0 M_Disk_putEntry 12 [(0, .ref 1), (1, .int x1), (2, .int x2), (3, .int x3)] [] (e0 :: (HD d tl)) (mapT ouV (fun z => (e0 :: (HD z tl))) (B_Disk_putEntry_12 d x1 x2 x3)) := by
  unfold B_Disk_putEntry_12
  refine ev_aload_n d_Disk_putEntry_12 rfl rfl ?_
  refine ev_iload_n d_Disk_putEntry_13 rfl rfl ?_
  refine ev_iload_n d_Disk_putEntry_14 rfl rfl ?_
  refine ev_iconst (v := 2) d_Disk_putEntry_15 rfl ?_
  refine ev_iadd d_Disk_putEntry_16 ?_
  refine ev_aload_n d_Disk_putEntry_17 rfl rfl ?_
  refine ev_iload_n d_Disk_putEntry_18 rfl rfl ?_
  refine ev_iconst (v := 0) d_Disk_putEntry_19 rfl ?_
  refine ev_callr (Mc := M_Disk_cell) (v := some (.int (xCell d x3 0))) (h1 := (e0 :: (HD d tl))) (k2 := 0) (n2 := 0) (inv_V (q := 1) (av := [.int x3, .int 0]) (rest := [.int (x2 + 2), .int x1, .ref 1]) rfl (ci := 1) rfl d_Disk_putEntry_20 gw_197 gw_198 gw_199 mw_Disk_cell nh_Disk_cell pn_Disk_cell rfl) d_Disk_putEntry_20 pl_Disk_cell (Nat.le_of_ble_eq_true rfl) (Nat.le_of_ble_eq_true rfl) (Nat.le_of_ble_eq_true rfl) rfl rfl (c_Disk_cell (e0 := e0) (tl := tl)  d x3 0) (Or.inl (len1 (lenHD rfl))) ?_
  refine ev_callr (Mc := M_Disk_setByte) (v := none) (h1 := (e0 :: (HD ((f_Disk_setByte d x1 (x2 + 2) (xCell d x3 0)).2) tl))) (k2 := 0) (n2 := 0) (inv_V (q := 1) (av := [.int x1, .int (x2 + 2), .int (xCell d x3 0)]) (rest := []) rfl (ci := 1) rfl d_Disk_putEntry_23 gw_189 gw_190 gw_191 mw_Disk_setByte nh_Disk_setByte pn_Disk_setByte rfl) d_Disk_putEntry_23 pl_Disk_setByte (Nat.le_of_ble_eq_true rfl) (Nat.le_of_ble_eq_true rfl) (Nat.le_of_ble_eq_true rfl) rfl rfl (e_f_Disk_setByte (e0 := e0) (tl := tl)  d x1 (x2 + 2) (xCell d x3 0)) (Or.inl (len1 (lenHD rfl))) ?_
  exact ev_pick [0, 1, 2, 3] rfl (e_B_Disk_putEntry_26     ((f_Disk_setByte d x1 (x2 + 2) (xCell d x3 0)).2) x1 x2 x3)
def f_Disk_putEntry   (d : DS) (x1 : Int32) (x2 : Int32) (x3 : Int32) : (Unit × DS) :=
  B_Disk_putEntry_12   ((f_Disk_setName d x1 x2 ((f_Disk_nameAt d x3 0).1)).2) x1 x2 x3
theorem e_f_Disk_putEntry {sc : Nat × (Nat → Int32)} {e0 : mn_E} {tl : List mn_E}    (d : DS) (x1 : Int32) (x2 : Int32) (x3 : Int32) : Ev sc 2 33 0 0 M_Disk_putEntry 0 [(0, .ref 1), (1, .int x1), (2, .int x2), (3, .int x3)] [] (e0 :: (HD d tl)) (mapT ouV (fun z => (e0 :: (HD z tl))) (f_Disk_putEntry d x1 x2 x3)) := by
  unfold f_Disk_putEntry
  refine ev_aload_n d_Disk_putEntry_0 rfl rfl ?_
  refine ev_iload_n d_Disk_putEntry_1 rfl rfl ?_
  refine ev_iload_n d_Disk_putEntry_2 rfl rfl ?_
  refine ev_aload_n d_Disk_putEntry_3 rfl rfl ?_
  refine ev_iload_n d_Disk_putEntry_4 rfl rfl ?_
  refine ev_iconst (v := 0) d_Disk_putEntry_5 rfl ?_
  refine ev_callr (Mc := M_Disk_nameAt) (v := some (.int ((f_Disk_nameAt d x3 0).1))) (h1 := (e0 :: (HD d tl))) (k2 := 0) (n2 := 0) (inv_V (q := 1) (av := [.int x3, .int 0]) (rest := [.int x2, .int x1, .ref 1]) rfl (ci := 1) rfl d_Disk_putEntry_6 gw_473 gw_420 gw_421 mw_Disk_nameAt nh_Disk_nameAt pn_Disk_nameAt rfl) d_Disk_putEntry_6 pl_Disk_nameAt (Nat.le_of_ble_eq_true rfl) (Nat.le_of_ble_eq_true rfl) (Nat.le_of_ble_eq_true rfl) rfl rfl (e_f_Disk_nameAt (e0 := e0) (tl := tl)  d x3 0) (Or.inl (len1 (lenHD rfl))) ?_
  refine ev_callr (Mc := M_Disk_setName) (v := none) (h1 := (e0 :: (HD ((f_Disk_setName d x1 x2 ((f_Disk_nameAt d x3 0).1)).2) tl))) (k2 := 0) (n2 := 0) (inv_V (q := 1) (av := [.int x1, .int x2, .int ((f_Disk_nameAt d x3 0).1)]) (rest := []) rfl (ci := 1) rfl d_Disk_putEntry_9 gw_185 gw_186 gw_187 mw_Disk_setName nh_Disk_setName pn_Disk_setName rfl) d_Disk_putEntry_9 pl_Disk_setName (Nat.le_of_ble_eq_true rfl) (Nat.le_of_ble_eq_true rfl) (Nat.le_of_ble_eq_true rfl) rfl rfl (e_f_Disk_setName (e0 := e0) (tl := tl)  d x1 x2 ((f_Disk_nameAt d x3 0).1)) (Or.inl (len1 (lenHD rfl))) ?_
  exact ev_pick [0, 1, 2, 3] rfl (e_B_Disk_putEntry_12     ((f_Disk_setName d x1 x2 ((f_Disk_nameAt d x3 0).1)).2) x1 x2 x3)
def B_Disk_countChanged_24  (r4 : DS → Int32 → Int32 → Option (Int32 × DS)) (d : DS) (x2 : Int32) (t0 : Int32) (t1 : Int32) : Option (Int32 × DS) :=
  r4 d (t0 + t1) (x2 + 1)
theorem e_B_Disk_countChanged_24 {sc : Nat × (Nat → Int32)} {e0 : mn_E} {tl : List mn_E}  (r4 : DS → Int32 → Int32 → Option (Int32 × DS)) (hr4 : ∀ (d : DS) (x1 : Int32) (x2 : Int32), Ev sc 1 15 0 0 M_Disk_countChanged 4 [(0, .ref 1), (1, .int x1), (2, .int x2)] [] (e0 :: (HD d tl)) (mapR ouI (fun z => (e0 :: (HD z tl))) (r4 d x1 x2))) (d : DS) (x2 : Int32) (t0 : Int32) (t1 : Int32) : Ev sc 1 15 0 0 M_Disk_countChanged 24 [(0, .ref 1), (2, .int x2)] [.int t1, .int t0] (e0 :: (HD d tl)) (mapR ouI (fun z => (e0 :: (HD z tl))) (B_Disk_countChanged_24 r4 d x2 t0 t1)) := by
  unfold B_Disk_countChanged_24
  refine ev_iadd d_Disk_countChanged_24 ?_
  refine ev_istore_n d_Disk_countChanged_25 rfl (by decide) rfl ?_
  refine ev_iinc (v := (x2 + 1)) d_Disk_countChanged_26 rfl rfl (by decide) rfl ?_
  refine ev_goto (tgt := 4) d_Disk_countChanged_29 rfl ?_
  exact ev_pick [2, 1, 0] rfl (hr4 d (t0 + t1) (x2 + 1))
def B_Disk_countChanged_16  (r4 : DS → Int32 → Int32 → Option (Int32 × DS)) (d : DS) (x2 : Int32) (t0 : Int32) (t1 : Int32) : Option (Int32 × DS) :=
  if t1 = 0 then (B_Disk_countChanged_24  r4 d x2 t0 0) else (B_Disk_countChanged_24  r4 d x2 t0 1)
theorem e_B_Disk_countChanged_16 {sc : Nat × (Nat → Int32)} {e0 : mn_E} {tl : List mn_E}  (r4 : DS → Int32 → Int32 → Option (Int32 × DS)) (hr4 : ∀ (d : DS) (x1 : Int32) (x2 : Int32), Ev sc 1 15 0 0 M_Disk_countChanged 4 [(0, .ref 1), (1, .int x1), (2, .int x2)] [] (e0 :: (HD d tl)) (mapR ouI (fun z => (e0 :: (HD z tl))) (r4 d x1 x2))) (d : DS) (x2 : Int32) (t0 : Int32) (t1 : Int32) : Ev sc 1 15 0 0 M_Disk_countChanged 16 [(0, .ref 1), (2, .int x2)] [.int t1, .int t0] (e0 :: (HD d tl)) (mapR ouI (fun z => (e0 :: (HD z tl))) (B_Disk_countChanged_16 r4 d x2 t0 t1)) := by
  unfold B_Disk_countChanged_16
  refine ev_if_eq (tgt := 23) d_Disk_countChanged_16 rfl (fun h1 => ?_) (fun h1 => ?_)
  · rw [if_pos h1]
    refine ev_iconst (v := 0) d_Disk_countChanged_23 rfl ?_
    exact ev_pick [0, 1] rfl (e_B_Disk_countChanged_24   r4 hr4 d x2 t0 0)
  · rw [if_neg h1]
    refine ev_iconst (v := 1) d_Disk_countChanged_19 rfl ?_
    refine ev_goto (tgt := 24) d_Disk_countChanged_20 rfl ?_
    exact ev_pick [0, 1] rfl (e_B_Disk_countChanged_24   r4 hr4 d x2 t0 1)
def L_Disk_countChanged_4   : Nat → DS → Int32 → Int32 → Option (Int32 × DS)
  | 0, _, _, _ => none
  | n + 1, d, x1, x2 =>
  if 40 ≤ x2 then (some (x1, (dSWri d ((dWri d) + x1)))) else (bnd (f_Disk_hasChanged d x2) (fun q => B_Disk_countChanged_16  (L_Disk_countChanged_4 n) d x2 x1 q.1))
theorem e_L_Disk_countChanged_4 {sc : Nat × (Nat → Int32)} {e0 : mn_E} {tl : List mn_E}    : ∀ (n : Nat) (d : DS) (x1 : Int32) (x2 : Int32), Ev sc 1 15 0 0 M_Disk_countChanged 4 [(0, .ref 1), (1, .int x1), (2, .int x2)] [] (e0 :: (HD d tl)) (mapR ouI (fun z => (e0 :: (HD z tl))) (L_Disk_countChanged_4   n d x1 x2)) := by
  intro n
  induction n with
  | zero => intro d x1 x2; exact ev_none
  | succ n ih =>
    intro d x1 x2
    rw [L_Disk_countChanged_4]
    refine ev_iload_n d_Disk_countChanged_4 rfl rfl ?_
    refine ev_bipush (v := 40) d_Disk_countChanged_5 rfl ?_
    refine ev_icmp_ge (tgt := 32) d_Disk_countChanged_7 rfl (fun h1 => ?_) (fun h1 => ?_)
    · rw [if_pos h1]
      refine ev_aload_n d_Disk_countChanged_32 rfl rfl ?_
      refine ev_dup d_Disk_countChanged_33 rfl ?_
      refine ev_get (v := .int (dWri d)) gi_Disk (ci := 1) rfl rfl 4 (by decide) gw_136 rfl d_Disk_countChanged_34 ?_
      refine ev_iload_n d_Disk_countChanged_37 rfl rfl ?_
      refine ev_iadd d_Disk_countChanged_38 ?_
      refine ev_put (h2 := (e0 :: (HD (dSWri d ((dWri d) + x1)) tl))) gi_Disk ft_Disk fo_Disk fn_Disk (ci := 1) rfl rfl 4 (by decide) gw_136 rfl rfl (fun _ => rfl) (fun _ => rfl) (Nat.le_of_ble_eq_true rfl) rfl d_Disk_countChanged_39 ?_
      refine ev_iload_n d_Disk_countChanged_42 rfl rfl ?_
      exact ev_zret (ty := .int) rfl rfl d_Disk_countChanged_43
    · rw [if_neg h1]
      refine ev_iload_n d_Disk_countChanged_10 rfl rfl ?_
      refine ev_aload_n d_Disk_countChanged_11 rfl rfl ?_
      refine ev_iload_n d_Disk_countChanged_12 rfl rfl ?_
      refine ev_callB (rc := (f_Disk_hasChanged d x2)) (ou := ouI) (Hs := (fun z => (e0 :: (HD d tl)))) (inv_V (q := 1) (av := [.int x2]) (rest := [.int x1]) rfl (ci := 1) rfl d_Disk_countChanged_13 gw_491 gw_493 gw_25 mw_Disk_hasChanged nh_Disk_hasChanged pn_Disk_hasChanged rfl) d_Disk_countChanged_13 pl_Disk_hasChanged (Nat.le_of_ble_eq_true rfl) (Nat.le_of_ble_eq_true rfl) (Nat.le_of_ble_eq_true rfl) (e_f_Disk_hasChanged (e0 := e0) (tl := tl)  d x2) (fun _ => (len1 (lenHD rfl))) (fun v z h2 => ⟨_, rfl, ?_⟩)
      exact ev_pick [0, 2] rfl (e_B_Disk_countChanged_16   (L_Disk_countChanged_4 n) ih d x2 x1 v)
def f_Disk_countChanged   (d : DS) : Option (Int32 × DS) :=
  L_Disk_countChanged_4   100 d 0 0
theorem e_f_Disk_countChanged {sc : Nat × (Nat → Int32)} {e0 : mn_E} {tl : List mn_E}    (d : DS) : Ev sc 1 15 0 0 M_Disk_countChanged 0 [(0, .ref 1)] [] (e0 :: (HD d tl)) (mapR ouI (fun z => (e0 :: (HD z tl))) (f_Disk_countChanged d)) := by
  unfold f_Disk_countChanged
  refine ev_iconst (v := 0) d_Disk_countChanged_0 rfl ?_
  refine ev_istore_n d_Disk_countChanged_1 rfl (by decide) rfl ?_
  refine ev_iconst (v := 0) d_Disk_countChanged_2 rfl ?_
  refine ev_istore_n d_Disk_countChanged_3 rfl (by decide) rfl ?_
  exact ev_pick [2, 1, 0] rfl (e_L_Disk_countChanged_4     100 d 0 0)
def B_Disk_format_61   (d : DS) : Option (Unit × DS) :=
  some ((), d)
theorem e_B_Disk_format_61 {sc : Nat × (Nat → Int32)} {e0 : mn_E} {tl : List mn_E}    (d : DS) : Ev sc 3 47 0 0 M_Disk_format 61 [] [] (e0 :: (HD d tl)) (mapR ouV (fun z => (e0 :: (HD z tl))) (B_Disk_format_61 d)) := by
  unfold B_Disk_format_61
  exact ev_vret rfl d_Disk_format_61
def B_Disk_format_56   (d : DS) : Option (Unit × DS) :=
  B_Disk_format_61   (xMapBits d 2)
theorem e_B_Disk_format_56 {sc : Nat × (Nat → Int32)} {e0 : mn_E} {tl : List mn_E}    (d : DS) : Ev sc 3 47 0 0 M_Disk_format 56 [(0, .ref 1)] [] (e0 :: (HD d tl)) (mapR ouV (fun z => (e0 :: (HD z tl))) (B_Disk_format_56 d)) := by
  unfold B_Disk_format_56
  refine ev_aload_n d_Disk_format_56 rfl rfl ?_
  refine ev_iconst (v := 2) d_Disk_format_57 rfl ?_
  refine ev_callr (Mc := M_Disk_setMapBits) (v := none) (h1 := (e0 :: (HD (xMapBits d 2) tl))) (k2 := 0) (n2 := 0) (inv_V (q := 1) (av := [.int 2]) (rest := []) rfl (ci := 1) rfl d_Disk_format_58 gw_201 gw_202 gw_203 mw_Disk_setMapBits nh_Disk_setMapBits pn_Disk_setMapBits rfl) d_Disk_format_58 pl_Disk_setMapBits (Nat.le_of_ble_eq_true rfl) (Nat.le_of_ble_eq_true rfl) (Nat.le_of_ble_eq_true rfl) rfl rfl (c_Disk_setMapBits (e0 := e0) (tl := tl)  d 2) (Or.inl (len1 (lenHD rfl))) ?_
  exact ev_pick [] rfl (e_B_Disk_format_61     (xMapBits d 2))
def B_Disk_format_49   (d : DS) : Option (Unit × DS) :=
  B_Disk_format_56   ((f_Disk_setByte d 1 3 2).2)
theorem e_B_Disk_format_49 {sc : Nat × (Nat → Int32)} {e0 : mn_E} {tl : List mn_E}    (d : DS) : Ev sc 3 47 0 0 M_Disk_format 49 [(0, .ref 1)] [] (e0 :: (HD d tl)) (mapR ouV (fun z => (e0 :: (HD z tl))) (B_Disk_format_49 d)) := by
  unfold B_Disk_format_49
  refine ev_aload_n d_Disk_format_49 rfl rfl ?_
  refine ev_iconst (v := 1) d_Disk_format_50 rfl ?_
  refine ev_iconst (v := 3) d_Disk_format_51 rfl ?_
  refine ev_iconst (v := 2) d_Disk_format_52 rfl ?_
  refine ev_callr (Mc := M_Disk_setByte) (v := none) (h1 := (e0 :: (HD ((f_Disk_setByte d 1 3 2).2) tl))) (k2 := 0) (n2 := 0) (inv_V (q := 1) (av := [.int 1, .int 3, .int 2]) (rest := []) rfl (ci := 1) rfl d_Disk_format_53 gw_189 gw_190 gw_191 mw_Disk_setByte nh_Disk_setByte pn_Disk_setByte rfl) d_Disk_format_53 pl_Disk_setByte (Nat.le_of_ble_eq_true rfl) (Nat.le_of_ble_eq_true rfl) (Nat.le_of_ble_eq_true rfl) rfl rfl (e_f_Disk_setByte (e0 := e0) (tl := tl)  d 1 3 2) (Or.inl (len1 (lenHD rfl))) ?_
  exact ev_pick [0] rfl (e_B_Disk_format_56     ((f_Disk_setByte d 1 3 2).2))
def B_Disk_format_42   (d : DS) : Option (Unit × DS) :=
  B_Disk_format_49   (xSetCell d 1 3 2)
theorem e_B_Disk_format_42 {sc : Nat × (Nat → Int32)} {e0 : mn_E} {tl : List mn_E}    (d : DS) : Ev sc 3 47 0 0 M_Disk_format 42 [(0, .ref 1)] [] (e0 :: (HD d tl)) (mapR ouV (fun z => (e0 :: (HD z tl))) (B_Disk_format_42 d)) := by
  unfold B_Disk_format_42
  refine ev_aload_n d_Disk_format_42 rfl rfl ?_
  refine ev_iconst (v := 1) d_Disk_format_43 rfl ?_
  refine ev_iconst (v := 3) d_Disk_format_44 rfl ?_
  refine ev_iconst (v := 2) d_Disk_format_45 rfl ?_
  refine ev_callr (Mc := M_Disk_setCell) (v := none) (h1 := (e0 :: (HD (xSetCell d 1 3 2) tl))) (k2 := 0) (n2 := 0) (inv_V (q := 1) (av := [.int 1, .int 3, .int 2]) (rest := []) rfl (ci := 1) rfl d_Disk_format_46 gw_177 gw_178 gw_179 mw_Disk_setCell nh_Disk_setCell pn_Disk_setCell rfl) d_Disk_format_46 pl_Disk_setCell (Nat.le_of_ble_eq_true rfl) (Nat.le_of_ble_eq_true rfl) (Nat.le_of_ble_eq_true rfl) rfl rfl (c_Disk_setCell (e0 := e0) (tl := tl)  d 1 3 2) (Or.inl (len1 (lenHD rfl))) ?_
  exact ev_pick [0] rfl (e_B_Disk_format_49     (xSetCell d 1 3 2))
def B_Disk_format_35   (d : DS) : Option (Unit × DS) :=
  B_Disk_format_42   ((f_Disk_makePageBehind d 1 2 5).2)
theorem e_B_Disk_format_35 {sc : Nat × (Nat → Int32)} {e0 : mn_E} {tl : List mn_E}    (d : DS) : Ev sc 3 47 0 0 M_Disk_format 35 [(0, .ref 1)] [] (e0 :: (HD d tl)) (mapR ouV (fun z => (e0 :: (HD z tl))) (B_Disk_format_35 d)) := by
  unfold B_Disk_format_35
  refine ev_aload_n d_Disk_format_35 rfl rfl ?_
  refine ev_iconst (v := 1) d_Disk_format_36 rfl ?_
  refine ev_iconst (v := 2) d_Disk_format_37 rfl ?_
  refine ev_iconst (v := 5) d_Disk_format_38 rfl ?_
  refine ev_callr (Mc := M_Disk_makePageBehind) (v := none) (h1 := (e0 :: (HD ((f_Disk_makePageBehind d 1 2 5).2) tl))) (k2 := 0) (n2 := 0) (inv_V (q := 1) (av := [.int 1, .int 2, .int 5]) (rest := []) rfl (ci := 1) rfl d_Disk_format_39 gw_193 gw_194 gw_195 mw_Disk_makePageBehind nh_Disk_makePageBehind pn_Disk_makePageBehind rfl) d_Disk_format_39 pl_Disk_makePageBehind (Nat.le_of_ble_eq_true rfl) (Nat.le_of_ble_eq_true rfl) (Nat.le_of_ble_eq_true rfl) rfl rfl (e_f_Disk_makePageBehind (e0 := e0) (tl := tl)  d 1 2 5) (Or.inl (len1 (lenHD rfl))) ?_
  exact ev_pick [0] rfl (e_B_Disk_format_42     ((f_Disk_makePageBehind d 1 2 5).2))
def B_Disk_format_27   (d : DS) : Option (Unit × DS) :=
  B_Disk_format_35   ((f_Disk_makeLeader d 1 2 0 0).2)
theorem e_B_Disk_format_27 {sc : Nat × (Nat → Int32)} {e0 : mn_E} {tl : List mn_E}    (d : DS) : Ev sc 3 47 0 0 M_Disk_format 27 [(0, .ref 1)] [] (e0 :: (HD d tl)) (mapR ouV (fun z => (e0 :: (HD z tl))) (B_Disk_format_27 d)) := by
  unfold B_Disk_format_27
  refine ev_aload_n d_Disk_format_27 rfl rfl ?_
  refine ev_iconst (v := 1) d_Disk_format_28 rfl ?_
  refine ev_iconst (v := 2) d_Disk_format_29 rfl ?_
  refine ev_iconst (v := 0) d_Disk_format_30 rfl ?_
  refine ev_iconst (v := 0) d_Disk_format_31 rfl ?_
  refine ev_callr (Mc := M_Disk_makeLeader) (v := none) (h1 := (e0 :: (HD ((f_Disk_makeLeader d 1 2 0 0).2) tl))) (k2 := 0) (n2 := 0) (inv_V (q := 1) (av := [.int 1, .int 2, .int 0, .int 0]) (rest := []) rfl (ci := 1) rfl d_Disk_format_32 gw_181 gw_182 gw_183 mw_Disk_makeLeader nh_Disk_makeLeader pn_Disk_makeLeader rfl) d_Disk_format_32 pl_Disk_makeLeader (Nat.le_of_ble_eq_true rfl) (Nat.le_of_ble_eq_true rfl) (Nat.le_of_ble_eq_true rfl) rfl rfl (e_f_Disk_makeLeader (e0 := e0) (tl := tl)  d 1 2 0 0) (Or.inl (len1 (lenHD rfl))) ?_
  exact ev_pick [0] rfl (e_B_Disk_format_35     ((f_Disk_makeLeader d 1 2 0 0).2))
def B_Disk_format_13  (r2 : DS → Int32 → Option (Unit × DS)) (d : DS) (x1 : Int32) : Option (Unit × DS) :=
  r2 d (x1 + 1)
theorem e_B_Disk_format_13 {sc : Nat × (Nat → Int32)} {e0 : mn_E} {tl : List mn_E}  (r2 : DS → Int32 → Option (Unit × DS)) (hr2 : ∀ (d : DS) (x1 : Int32), Ev sc 3 47 0 0 M_Disk_format 2 [(0, .ref 1), (1, .int x1)] [] (e0 :: (HD d tl)) (mapR ouV (fun z => (e0 :: (HD z tl))) (r2 d x1))) (d : DS) (x1 : Int32) : Ev sc 3 47 0 0 M_Disk_format 13 [(0, .ref 1), (1, .int x1)] [] (e0 :: (HD d tl)) (mapR ouV (fun z => (e0 :: (HD z tl))) (B_Disk_format_13 r2 d x1)) := by
  unfold B_Disk_format_13
  refine ev_iinc (v := (x1 + 1)) d_Disk_format_13 rfl rfl (by decide) rfl ?_
  refine ev_goto (tgt := 2) d_Disk_format_16 rfl ?_
  exact ev_pick [1, 0] rfl (hr2 d (x1 + 1))
def L_Disk_format_2   : Nat → DS → Int32 → Option (Unit × DS)
  | 0, _, _ => none
  | n + 1, d, x1 =>
  if 40 ≤ x1 then (B_Disk_format_27   ((f_Disk_makeLeader d 0 1 0 1).2)) else (B_Disk_format_13  (L_Disk_format_2 n) (xErase d x1) x1)
theorem e_L_Disk_format_2 {sc : Nat × (Nat → Int32)} {e0 : mn_E} {tl : List mn_E}    : ∀ (n : Nat) (d : DS) (x1 : Int32), Ev sc 3 47 0 0 M_Disk_format 2 [(0, .ref 1), (1, .int x1)] [] (e0 :: (HD d tl)) (mapR ouV (fun z => (e0 :: (HD z tl))) (L_Disk_format_2   n d x1)) := by
  intro n
  induction n with
  | zero => intro d x1; exact ev_none
  | succ n ih =>
    intro d x1
    rw [L_Disk_format_2]
    refine ev_iload_n d_Disk_format_2 rfl rfl ?_
    refine ev_bipush (v := 40) d_Disk_format_3 rfl ?_
    refine ev_icmp_ge (tgt := 19) d_Disk_format_5 rfl (fun h1 => ?_) (fun h1 => ?_)
    · rw [if_pos h1]
      refine ev_aload_n d_Disk_format_19 rfl rfl ?_
      refine ev_iconst (v := 0) d_Disk_format_20 rfl ?_
      refine ev_iconst (v := 1) d_Disk_format_21 rfl ?_
      refine ev_iconst (v := 0) d_Disk_format_22 rfl ?_
      refine ev_iconst (v := 1) d_Disk_format_23 rfl ?_
      refine ev_callr (Mc := M_Disk_makeLeader) (v := none) (h1 := (e0 :: (HD ((f_Disk_makeLeader d 0 1 0 1).2) tl))) (k2 := 0) (n2 := 0) (inv_V (q := 1) (av := [.int 0, .int 1, .int 0, .int 1]) (rest := []) rfl (ci := 1) rfl d_Disk_format_24 gw_181 gw_182 gw_183 mw_Disk_makeLeader nh_Disk_makeLeader pn_Disk_makeLeader rfl) d_Disk_format_24 pl_Disk_makeLeader (Nat.le_of_ble_eq_true rfl) (Nat.le_of_ble_eq_true rfl) (Nat.le_of_ble_eq_true rfl) rfl rfl (e_f_Disk_makeLeader (e0 := e0) (tl := tl)  d 0 1 0 1) (Or.inl (len1 (lenHD rfl))) ?_
      exact ev_pick [0] rfl (e_B_Disk_format_27     ((f_Disk_makeLeader d 0 1 0 1).2))
    · rw [if_neg h1]
      refine ev_aload_n d_Disk_format_8 rfl rfl ?_
      refine ev_iload_n d_Disk_format_9 rfl rfl ?_
      refine ev_callr (Mc := M_Disk_erase) (v := none) (h1 := (e0 :: (HD (xErase d x1) tl))) (k2 := 0) (n2 := 0) (inv_V (q := 1) (av := [.int x1]) (rest := []) rfl (ci := 1) rfl d_Disk_format_10 gw_173 gw_174 gw_175 mw_Disk_erase nh_Disk_erase pn_Disk_erase rfl) d_Disk_format_10 pl_Disk_erase (Nat.le_of_ble_eq_true rfl) (Nat.le_of_ble_eq_true rfl) (Nat.le_of_ble_eq_true rfl) rfl rfl (c_Disk_erase (e0 := e0) (tl := tl)  d x1) (Or.inl (len1 (lenHD rfl))) ?_
      exact ev_pick [0, 1] rfl (e_B_Disk_format_13   (L_Disk_format_2 n) ih (xErase d x1) x1)
def f_Disk_format   (d : DS) : Option (Unit × DS) :=
  L_Disk_format_2   100 d 0
theorem e_f_Disk_format {sc : Nat × (Nat → Int32)} {e0 : mn_E} {tl : List mn_E}    (d : DS) : Ev sc 3 47 0 0 M_Disk_format 0 [(0, .ref 1)] [] (e0 :: (HD d tl)) (mapR ouV (fun z => (e0 :: (HD z tl))) (f_Disk_format d)) := by
  unfold f_Disk_format
  refine ev_iconst (v := 0) d_Disk_format_0 rfl ?_
  refine ev_istore_n d_Disk_format_1 rfl (by decide) rfl ?_
  exact ev_pick [1, 0] rfl (e_L_Disk_format_2     100 d 0)
