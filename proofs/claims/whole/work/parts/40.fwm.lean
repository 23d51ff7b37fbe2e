def B_Finder_leaderOf_11   (d : DS) (f : FS) : Option (Int32 × (DS × FS)) :=
  some ((-1), (d, f))
theorem e_B_Finder_leaderOf_11 {sc : Nat × (Nat → Int32)} {e0 : mn_E} {tl : List mn_E}    (d : DS) (f : FS) : Ev sc 2 32 0 0 M_Finder_leaderOf 11 [] [] (e0 :: (HD d (HF f tl))) (mapR ouI (fun z => (e0 :: (HD z.1 (HF z.2 tl)))) (B_Finder_leaderOf_11 d f)) := by
  unfold B_Finder_leaderOf_11
  refine ev_iconst (v := -1) d_Finder_leaderOf_11 rfl ?_
  exact ev_zret (ty := .int) rfl rfl d_Finder_leaderOf_12
def B_Finder_leaderOf_40   (d : DS) (f : FS) (x1 : Int32) : Option (Int32 × (DS × FS)) :=
  if inB x1 61 then (if inB x1 61 then (some ((fRem (fSRem f (upd (fRem f) x1.toNatClampNeg (xSearch d x1 0))) x1.toNatClampNeg), (d, (fSRem f (upd (fRem f) x1.toNatClampNeg (xSearch d x1 0)))))) else none) else none
theorem e_B_Finder_leaderOf_40 {sc : Nat × (Nat → Int32)} {e0 : mn_E} {tl : List mn_E}    (d : DS) (f : FS) (x1 : Int32) : Ev sc 2 32 0 0 M_Finder_leaderOf 40 [(0, .ref 5), (1, .int x1)] [] (e0 :: (HD d (HF f tl))) (mapR ouI (fun z => (e0 :: (HD z.1 (HF z.2 tl)))) (B_Finder_leaderOf_40 d f x1)) := by
  unfold B_Finder_leaderOf_40
  refine ev_aload_n d_Finder_leaderOf_40 rfl rfl ?_
  refine ev_get (v := .ref 6) gi_Finder (ci := 2) rfl rfl 1 (by decide) gw_163 rfl d_Finder_leaderOf_41 ?_
  refine ev_iload_n d_Finder_leaderOf_44 rfl rfl ?_
  refine ev_aload_n d_Finder_leaderOf_45 rfl rfl ?_
  refine ev_get (v := .ref 1) gi_Finder (ci := 2) rfl rfl 0 (by decide) gw_162 rfl d_Finder_leaderOf_46 ?_
  refine ev_iload_n d_Finder_leaderOf_49 rfl rfl ?_
  refine ev_iconst (v := 0) d_Finder_leaderOf_50 rfl ?_
  refine ev_callr (Mc := M_Disk_search) (v := some (.int (xSearch d x1 0))) (h1 := (e0 :: (HD d (HF f tl)))) (k2 := 0) (n2 := 0) (inv_V (q := 1) (av := [.int x1, .int 0]) (rest := [.int x1, .ref 6]) rfl (ci := 1) rfl d_Finder_leaderOf_51 gw_661 gw_350 gw_351 mw_Disk_search nh_Disk_search pn_Disk_search rfl) d_Finder_leaderOf_51 pl_Disk_search (Nat.le_of_ble_eq_true rfl) (Nat.le_of_ble_eq_true rfl) (Nat.le_of_ble_eq_true rfl) rfl rfl (c_Disk_search (e0 := e0) (tl := (HF f tl))  d x1 0) (Or.inl (len1 (lenHD (lenHF rfl)))) ?_
  refine ev_inB (fun h1 => ?_)
  refine ev_iastore (h2 := (e0 :: (HD d (HF (fSRem f (upd (fRem f) x1.toNatClampNeg (xSearch d x1 0))) tl)))) rfl (inB_of h1) rfl d_Finder_leaderOf_54 ?_
  refine ev_aload_n d_Finder_leaderOf_55 rfl rfl ?_
  refine ev_get (v := .ref 6) gi_Finder (ci := 2) rfl rfl 1 (by decide) gw_163 rfl d_Finder_leaderOf_56 ?_
  refine ev_iload_n d_Finder_leaderOf_59 rfl rfl ?_
  refine ev_inB (fun h2 => ?_)
  refine ev_iaload rfl (inB_of h2) d_Finder_leaderOf_60 ?_
  exact ev_zret (ty := .int) rfl rfl d_Finder_leaderOf_61
def B_Finder_leaderOf_35   (d : DS) (f : FS) (x1 : Int32) (x2 : Int32) (t0 : Int32) : Option (Int32 × (DS × FS)) :=
  if t0 = 0 then (B_Finder_leaderOf_40   d f x1) else (some (x2, (d, f)))
theorem e_B_Finder_leaderOf_35 {sc : Nat × (Nat → Int32)} {e0 : mn_E} {tl : List mn_E}    (d : DS) (f : FS) (x1 : Int32) (x2 : Int32) (t0 : Int32) : Ev sc 2 32 0 0 M_Finder_leaderOf 35 [(0, .ref 5), (1, .int x1), (2, .int x2)] [.int t0] (e0 :: (HD d (HF f tl))) (mapR ouI (fun z => (e0 :: (HD z.1 (HF z.2 tl)))) (B_Finder_leaderOf_35 d f x1 x2 t0)) := by
  unfold B_Finder_leaderOf_35
  refine ev_if_eq (tgt := 40) d_Finder_leaderOf_35 rfl (fun h1 => ?_) (fun h1 => ?_)
  · rw [if_pos h1]
    exact ev_pick [0, 1] rfl (e_B_Finder_leaderOf_40     d f x1)
  · rw [if_neg h1]
    refine ev_iload_n d_Finder_leaderOf_38 rfl rfl ?_
    exact ev_zret (ty := .int) rfl rfl d_Finder_leaderOf_39
def f_Finder_leaderOf   (d : DS) (f : FS) (x1 : Int32) : Option (Int32 × (DS × FS)) :=
  if x1 < 1 then (B_Finder_leaderOf_11   d f) else (if x1 ≤ 60 then (if inB x1 61 then (if (fRem f x1.toNatClampNeg) = (-1) then (B_Finder_leaderOf_40   d f x1) else (B_Finder_leaderOf_35   ((f_Disk_looksLike d (fRem f x1.toNatClampNeg) x1 0).2) f x1 (fRem f x1.toNatClampNeg) ((f_Disk_looksLike d (fRem f x1.toNatClampNeg) x1 0).1))) else none) else (B_Finder_leaderOf_11   d f))
theorem e_f_Finder_leaderOf {sc : Nat × (Nat → Int32)} {e0 : mn_E} {tl : List mn_E}    (d : DS) (f : FS) (x1 : Int32) : Ev sc 2 32 0 0 M_Finder_leaderOf 0 [(0, .ref 5), (1, .int x1)] [] (e0 :: (HD d (HF f tl))) (mapR ouI (fun z => (e0 :: (HD z.1 (HF z.2 tl)))) (f_Finder_leaderOf d f x1)) := by
  unfold f_Finder_leaderOf
  refine ev_iload_n d_Finder_leaderOf_0 rfl rfl ?_
  refine ev_iconst (v := 1) d_Finder_leaderOf_1 rfl ?_
  refine ev_icmp_lt (tgt := 11) d_Finder_leaderOf_2 rfl (fun h1 => ?_) (fun h1 => ?_)
  · rw [if_pos h1]
    exact ev_pick [] rfl (e_B_Finder_leaderOf_11     d f)
  · rw [if_neg h1]
    refine ev_iload_n d_Finder_leaderOf_5 rfl rfl ?_
    refine ev_bipush (v := 60) d_Finder_leaderOf_6 rfl ?_
    refine ev_icmp_le (tgt := 13) d_Finder_leaderOf_8 rfl (fun h2 => ?_) (fun h2 => ?_)
    · rw [if_pos h2]
      refine ev_aload_n d_Finder_leaderOf_13 rfl rfl ?_
      refine ev_get (v := .ref 6) gi_Finder (ci := 2) rfl rfl 1 (by decide) gw_163 rfl d_Finder_leaderOf_14 ?_
      refine ev_iload_n d_Finder_leaderOf_17 rfl rfl ?_
      refine ev_inB (fun h3 => ?_)
      refine ev_iaload rfl (inB_of h3) d_Finder_leaderOf_18 ?_
      refine ev_istore_n d_Finder_leaderOf_19 rfl (by decide) rfl ?_
      refine ev_iload_n d_Finder_leaderOf_20 rfl rfl ?_
      refine ev_iconst (v := -1) d_Finder_leaderOf_21 rfl ?_
      refine ev_icmp_eq (tgt := 40) d_Finder_leaderOf_22 rfl (fun h4 => ?_) (fun h4 => ?_)
      · rw [if_pos h4]
        exact ev_pick [1, 2] rfl (e_B_Finder_leaderOf_40     d f x1)
      · rw [if_neg h4]
        refine ev_aload_n d_Finder_leaderOf_25 rfl rfl ?_
        refine ev_get (v := .ref 1) gi_Finder (ci := 2) rfl rfl 0 (by decide) gw_162 rfl d_Finder_leaderOf_26 ?_
        refine ev_iload_n d_Finder_leaderOf_29 rfl rfl ?_
        refine ev_iload_n d_Finder_leaderOf_30 rfl rfl ?_
        refine ev_iconst (v := 0) d_Finder_leaderOf_31 rfl ?_
        refine ev_callr (Mc := M_Disk_looksLike) (v := some (.int ((f_Disk_looksLike d (fRem f x1.toNatClampNeg) x1 0).1))) (h1 := (e0 :: (HD ((f_Disk_looksLike d (fRem f x1.toNatClampNeg) x1 0).2) (HF f tl)))) (k2 := 0) (n2 := 0) (inv_V (q := 1) (av := [.int (fRem f x1.toNatClampNeg), .int x1, .int 0]) (rest := []) rfl (ci := 1) rfl d_Finder_leaderOf_32 gw_657 gw_658 gw_659 mw_Disk_looksLike nh_Disk_looksLike pn_Disk_looksLike rfl) d_Finder_leaderOf_32 pl_Disk_looksLike (Nat.le_of_ble_eq_true rfl) (Nat.le_of_ble_eq_true rfl) (Nat.le_of_ble_eq_true rfl) rfl rfl (e_f_Disk_looksLike (e0 := e0) (tl := (HF f tl))  d (fRem f x1.toNatClampNeg) x1 0) (Or.inl (len1 (lenHD (lenHF rfl)))) ?_
        exact ev_pick [1, 2, 0] rfl (e_B_Finder_leaderOf_35     ((f_Disk_looksLike d (fRem f x1.toNatClampNeg) x1 0).2) f x1 (fRem f x1.toNatClampNeg) ((f_Disk_looksLike d (fRem f x1.toNatClampNeg) x1 0).1))
    · rw [if_neg h2]
      exact ev_pick [] rfl (e_B_Finder_leaderOf_11     d f)
def f_Walk_start   (d : DS) (f : FS) (w : WS) (x1 : Int32) : (Unit × WS) :=
  ((), (wSHSl (wSHSe (wSSlo (wSSec w x1) (-1)) (-1)) (-1)))
theorem e_f_Walk_start {sc : Nat × (Nat → Int32)} {e0 : mn_E} {tl : List mn_E}    (d : DS) (f : FS) (w : WS) (x1 : Int32) : Ev sc 0 0 0 0 M_Walk_start 0 [(0, .ref 7), (1, .int x1)] [] (e0 :: (HD d (HF f (HW w tl)))) (mapT ouV (fun z => (e0 :: (HD d (HF f (HW z tl))))) (f_Walk_start d f w x1)) := by
  unfold f_Walk_start
  refine ev_aload_n d_Walk_start_0 rfl rfl ?_
  refine ev_iload_n d_Walk_start_1 rfl rfl ?_
  refine ev_put (h2 := (e0 :: (HD d (HF f (HW (wSSec w x1) tl))))) gi_Walk ft_Walk fo_Walk fn_Walk (ci := 3) rfl rfl 2 (by decide) gw_217 rfl rfl (fun _ => rfl) (fun _ => rfl) (Nat.le_of_ble_eq_true rfl) rfl d_Walk_start_2 ?_
  refine ev_aload_n d_Walk_start_5 rfl rfl ?_
  refine ev_iconst (v := -1) d_Walk_start_6 rfl ?_
  refine ev_put (h2 := (e0 :: (HD d (HF f (HW (wSSlo (wSSec w x1) (-1)) tl))))) gi_Walk ft_Walk fo_Walk fn_Walk (ci := 3) rfl rfl 3 (by decide) gw_218 rfl rfl (fun _ => rfl) (fun _ => rfl) (Nat.le_of_ble_eq_true rfl) rfl d_Walk_start_7 ?_
  refine ev_aload_n d_Walk_start_10 rfl rfl ?_
  refine ev_iconst (v := -1) d_Walk_start_11 rfl ?_
  refine ev_put (h2 := (e0 :: (HD d (HF f (HW (wSHSe (wSSlo (wSSec w x1) (-1)) (-1)) tl))))) gi_Walk ft_Walk fo_Walk fn_Walk (ci := 3) rfl rfl 4 (by decide) gw_219 rfl rfl (fun _ => rfl) (fun _ => rfl) (Nat.le_of_ble_eq_true rfl) rfl d_Walk_start_12 ?_
  refine ev_aload_n d_Walk_start_15 rfl rfl ?_
  refine ev_iconst (v := -1) d_Walk_start_16 rfl ?_
  refine ev_put (h2 := (e0 :: (HD d (HF f (HW (wSHSl (wSHSe (wSSlo (wSSec w x1) (-1)) (-1)) (-1)) tl))))) gi_Walk ft_Walk fo_Walk fn_Walk (ci := 3) rfl rfl 5 (by decide) gw_220 rfl rfl (fun _ => rfl) (fun _ => rfl) (Nat.le_of_ble_eq_true rfl) rfl d_Walk_start_17 ?_
  exact ev_vret rfl d_Walk_start_20
def B_Finder_follow_69   (d : DS) (f : FS) (x3 : Int32) (x4 : Int32) : (Int32 × DS) :=
  ((xSearch d x3 x4), d)
theorem e_B_Finder_follow_69 {sc : Nat × (Nat → Int32)} {e0 : mn_E} {tl : List mn_E}    (d : DS) (f : FS) (x3 : Int32) (x4 : Int32) : Ev sc 2 31 0 0 M_Finder_follow 69 [(0, .ref 5), (3, .int x3), (4, .int x4)] [] (e0 :: (HD d (HF f tl))) (mapT ouI (fun z => (e0 :: (HD z (HF f tl)))) (B_Finder_follow_69 d f x3 x4)) := by
  unfold B_Finder_follow_69
  refine ev_aload_n d_Finder_follow_69 rfl rfl ?_
  refine ev_get (v := .ref 1) gi_Finder (ci := 2) rfl rfl 0 (by decide) gw_162 rfl d_Finder_follow_70 ?_
  refine ev_iload_n d_Finder_follow_73 rfl rfl ?_
  refine ev_iload d_Finder_follow_74 rfl ?_
  refine ev_callr (Mc := M_Disk_search) (v := some (.int (xSearch d x3 x4))) (h1 := (e0 :: (HD d (HF f tl)))) (k2 := 0) (n2 := 0) (inv_V (q := 1) (av := [.int x3, .int x4]) (rest := []) rfl (ci := 1) rfl d_Finder_follow_76 gw_661 gw_350 gw_351 mw_Disk_search nh_Disk_search pn_Disk_search rfl) d_Finder_follow_76 pl_Disk_search (Nat.le_of_ble_eq_true rfl) (Nat.le_of_ble_eq_true rfl) (Nat.le_of_ble_eq_true rfl) rfl rfl (c_Disk_search (e0 := e0) (tl := (HF f tl))  d x3 x4) (Or.inl (len1 (lenHD (lenHF rfl)))) ?_
  exact ev_zret (ty := .int) rfl rfl d_Finder_follow_79
def B_Finder_follow_61   (d : DS) (f : FS) (x3 : Int32) (x4 : Int32) (x5 : Int32) (t0 : Int32) : (Int32 × DS) :=
  if t0 = 0 then (B_Finder_follow_69   d f x3 x4) else ((x5, d))
theorem e_B_Finder_follow_61 {sc : Nat × (Nat → Int32)} {e0 : mn_E} {tl : List mn_E}    (d : DS) (f : FS) (x3 : Int32) (x4 : Int32) (x5 : Int32) (t0 : Int32) : Ev sc 2 31 0 0 M_Finder_follow 61 [(0, .ref 5), (3, .int x3), (4, .int x4), (5, .int x5)] [.int t0] (e0 :: (HD d (HF f tl))) (mapT ouI (fun z => (e0 :: (HD z (HF f tl)))) (B_Finder_follow_61 d f x3 x4 x5 t0)) := by
  unfold B_Finder_follow_61
  refine ev_if_eq (tgt := 69) d_Finder_follow_61 rfl (fun h1 => ?_) (fun h1 => ?_)
  · rw [if_pos h1]
    exact ev_pick [0, 1, 2] rfl (e_B_Finder_follow_69     d f x3 x4)
  · rw [if_neg h1]
    refine ev_iload d_Finder_follow_64 rfl ?_
    refine ev_goto (tgt := 79) d_Finder_follow_66 rfl ?_
    exact ev_zret (ty := .int) rfl rfl d_Finder_follow_79
def B_Finder_follow_29   (d : DS) (f : FS) (x1 : Int32) (x2 : Int32) (x3 : Int32) (t0 : Int32) (t1 : Int32) : (Int32 × DS) :=
  if (xCell d x1 x2) = (-1) then (B_Finder_follow_69   d f x3 (t0 + t1)) else (B_Finder_follow_61   ((f_Disk_looksLike d (xCell d x1 x2) x3 (t0 + t1)).2) f x3 (t0 + t1) (xCell d x1 x2) ((f_Disk_looksLike d (xCell d x1 x2) x3 (t0 + t1)).1))
theorem e_B_Finder_follow_29 {sc : Nat × (Nat → Int32)} {e0 : mn_E} {tl : List mn_E}    (d : DS) (f : FS) (x1 : Int32) (x2 : Int32) (x3 : Int32) (t0 : Int32) (t1 : Int32) : Ev sc 2 31 0 0 M_Finder_follow 29 [(0, .ref 5), (1, .int x1), (2, .int x2), (3, .int x3)] [.int t1, .int t0] (e0 :: (HD d (HF f tl))) (mapT ouI (fun z => (e0 :: (HD z (HF f tl)))) (B_Finder_follow_29 d f x1 x2 x3 t0 t1)) := by
  unfold B_Finder_follow_29
  refine ev_iadd d_Finder_follow_29 ?_
  refine ev_istore d_Finder_follow_30 (by decide) rfl ?_
  refine ev_aload_n d_Finder_follow_32 rfl rfl ?_
  refine ev_get (v := .ref 1) gi_Finder (ci := 2) rfl rfl 0 (by decide) gw_162 rfl d_Finder_follow_33 ?_
  refine ev_iload_n d_Finder_follow_36 rfl rfl ?_
  refine ev_iload_n d_Finder_follow_37 rfl rfl ?_
  refine ev_callr (Mc := M_Disk_cell) (v := some (.int (xCell d x1 x2))) (h1 := (e0 :: (HD d (HF f tl)))) (k2 := 0) (n2 := 0) (inv_V (q := 1) (av := [.int x1, .int x2]) (rest := []) rfl (ci := 1) rfl d_Finder_follow_38 gw_711 gw_198 gw_199 mw_Disk_cell nh_Disk_cell pn_Disk_cell rfl) d_Finder_follow_38 pl_Disk_cell (Nat.le_of_ble_eq_true rfl) (Nat.le_of_ble_eq_true rfl) (Nat.le_of_ble_eq_true rfl) rfl rfl (c_Disk_cell (e0 := e0) (tl := (HF f tl))  d x1 x2) (Or.inl (len1 (lenHD (lenHF rfl)))) ?_
  refine ev_istore d_Finder_follow_41 (by decide) rfl ?_
  refine ev_iload d_Finder_follow_43 rfl ?_
  refine ev_iconst (v := -1) d_Finder_follow_45 rfl ?_
  refine ev_icmp_eq (tgt := 69) d_Finder_follow_46 rfl (fun h1 => ?_) (fun h1 => ?_)
  · rw [if_pos h1]
    exact ev_pick [2, 5, 1] rfl (e_B_Finder_follow_69     d f x3 (t0 + t1))
  · rw [if_neg h1]
    refine ev_aload_n d_Finder_follow_49 rfl rfl ?_
    refine ev_get (v := .ref 1) gi_Finder (ci := 2) rfl rfl 0 (by decide) gw_162 rfl d_Finder_follow_50 ?_
    refine ev_iload d_Finder_follow_53 rfl ?_
    refine ev_iload_n d_Finder_follow_55 rfl rfl ?_
    refine ev_iload d_Finder_follow_56 rfl ?_
    refine ev_callr (Mc := M_Disk_looksLike) (v := some (.int ((f_Disk_looksLike d (xCell d x1 x2) x3 (t0 + t1)).1))) (h1 := (e0 :: (HD ((f_Disk_looksLike d (xCell d x1 x2) x3 (t0 + t1)).2) (HF f tl)))) (k2 := 0) (n2 := 0) (inv_V (q := 1) (av := [.int (xCell d x1 x2), .int x3, .int (t0 + t1)]) (rest := []) rfl (ci := 1) rfl d_Finder_follow_58 gw_657 gw_658 gw_659 mw_Disk_looksLike nh_Disk_looksLike pn_Disk_looksLike rfl) d_Finder_follow_58 pl_Disk_looksLike (Nat.le_of_ble_eq_true rfl) (Nat.le_of_ble_eq_true rfl) (Nat.le_of_ble_eq_true rfl) rfl rfl (e_f_Disk_looksLike (e0 := e0) (tl := (HF f tl))  d (xCell d x1 x2) x3 (t0 + t1)) (Or.inl (len1 (lenHD (lenHF rfl)))) ?_
    exact ev_pick [2, 5, 1, 0] rfl (e_B_Finder_follow_61     ((f_Disk_looksLike d (xCell d x1 x2) x3 (t0 + t1)).2) f x3 (t0 + t1) (xCell d x1 x2) ((f_Disk_looksLike d (xCell d x1 x2) x3 (t0 + t1)).1))
def f_Finder_follow   (d : DS) (f : FS) (x1 : Int32) (x2 : Int32) : (Int32 × DS) :=
  if ¬ x2 = 3 then (B_Finder_follow_29   d f x1 x2 (xCell d x1 0) (xCell d x1 1) (-1)) else (B_Finder_follow_29   d f x1 x2 (xCell d x1 0) (xCell d x1 1) 1)
theorem e_f_Finder_follow {sc : Nat × (Nat → Int32)} {e0 : mn_E} {tl : List mn_E}    (d : DS) (f : FS) (x1 : Int32) (x2 : Int32) : Ev sc 2 31 0 0 M_Finder_follow 0 [(0, .ref 5), (1, .int x1), (2, .int x2)] [] (e0 :: (HD d (HF f tl))) (mapT ouI (fun z => (e0 :: (HD z (HF f tl)))) (f_Finder_follow d f x1 x2)) := by
  unfold f_Finder_follow
  refine ev_aload_n d_Finder_follow_0 rfl rfl ?_
  refine ev_get (v := .ref 1) gi_Finder (ci := 2) rfl rfl 0 (by decide) gw_162 rfl d_Finder_follow_1 ?_
  refine ev_iload_n d_Finder_follow_4 rfl rfl ?_
  refine ev_iconst (v := 0) d_Finder_follow_5 rfl ?_
  refine ev_callr (Mc := M_Disk_cell) (v := some (.int (xCell d x1 0))) (h1 := (e0 :: (HD d (HF f tl)))) (k2 := 0) (n2 := 0) (inv_V (q := 1) (av := [.int x1, .int 0]) (rest := []) rfl (ci := 1) rfl d_Finder_follow_6 gw_711 gw_198 gw_199 mw_Disk_cell nh_Disk_cell pn_Disk_cell rfl) d_Finder_follow_6 pl_Disk_cell (Nat.le_of_ble_eq_true rfl) (Nat.le_of_ble_eq_true rfl) (Nat.le_of_ble_eq_true rfl) rfl rfl (c_Disk_cell (e0 := e0) (tl := (HF f tl))  d x1 0) (Or.inl (len1 (lenHD (lenHF rfl)))) ?_
  refine ev_istore_n d_Finder_follow_9 rfl (by decide) rfl ?_
  refine ev_aload_n d_Finder_follow_10 rfl rfl ?_
  refine ev_get (v := .ref 1) gi_Finder (ci := 2) rfl rfl 0 (by decide) gw_162 rfl d_Finder_follow_11 ?_
  refine ev_iload_n d_Finder_follow_14 rfl rfl ?_
  refine ev_iconst (v := 1) d_Finder_follow_15 rfl ?_
  refine ev_callr (Mc := M_Disk_cell) (v := some (.int (xCell d x1 1))) (h1 := (e0 :: (HD d (HF f tl)))) (k2 := 0) (n2 := 0) (inv_V (q := 1) (av := [.int x1, .int 1]) (rest := []) rfl (ci := 1) rfl d_Finder_follow_16 gw_711 gw_198 gw_199 mw_Disk_cell nh_Disk_cell pn_Disk_cell rfl) d_Finder_follow_16 pl_Disk_cell (Nat.le_of_ble_eq_true rfl) (Nat.le_of_ble_eq_true rfl) (Nat.le_of_ble_eq_true rfl) rfl rfl (c_Disk_cell (e0 := e0) (tl := (HF f tl))  d x1 1) (Or.inl (len1 (lenHD (lenHF rfl)))) ?_
  refine ev_iload_n d_Finder_follow_19 rfl rfl ?_
  refine ev_iconst (v := 3) d_Finder_follow_20 rfl ?_
  refine ev_icmp_ne (tgt := 28) d_Finder_follow_21 rfl (fun h1 => ?_) (fun h1 => ?_)
  · rw [if_pos h1]
    refine ev_iconst (v := -1) d_Finder_follow_28 rfl ?_
    exact ev_pick [1, 2, 3, 0] rfl (e_B_Finder_follow_29     d f x1 x2 (xCell d x1 0) (xCell d x1 1) (-1))
  · rw [if_neg h1]
    refine ev_iconst (v := 1) d_Finder_follow_24 rfl ?_
    refine ev_goto (tgt := 29) d_Finder_follow_25 rfl ?_
    exact ev_pick [1, 2, 3, 0] rfl (e_B_Finder_follow_29     d f x1 x2 (xCell d x1 0) (xCell d x1 1) 1)
def f_LV_unbroken   (x0 : Int32) : ((Nat ⊕ Int32) × Unit) :=
  if ¬ x0 = (-1) then ((.inr x0, ())) else ((.inl 4, ()))
theorem e_f_LV_unbroken {sc : Nat × (Nat → Int32)} {hh : List mn_E}    (x0 : Int32) : Ev sc 6 81 0 0 M_LV_unbroken 0 [(0, .int x0)] [] hh (mapT ouIT (fun z => hh) (f_LV_unbroken x0)) := by
  unfold f_LV_unbroken
  refine ev_iload_n d_LV_unbroken_0 rfl rfl ?_
  refine ev_iconst (v := -1) d_LV_unbroken_1 rfl ?_
  refine ev_icmp_ne (tgt := 13) d_LV_unbroken_2 rfl (fun h1 => ?_) (fun h1 => ?_)
  · rw [if_pos h1]
    refine ev_iload_n d_LV_unbroken_13 rfl rfl ?_
    exact ev_zret (ty := .int) rfl rfl d_LV_unbroken_14
  · rw [if_neg h1]
    exact ev_throw (x := 4) (names := gd_up) d_LV_unbroken_5 d_LV_unbroken_8 d_LV_unbroken_9 d_LV_unbroken_12 gw_715 gw_716 gw_115 tw_LV_71 (by decide +kernel) (by decide +kernel) rfl (by decide) (Nat.le_of_ble_eq_true rfl)
def B_Walk_step_84   (d : DS) (f : FS) (w : WS) : Option ((Nat ⊕ Int32) × (DS × WS)) :=
  some (.inr 1, (d, w))
theorem e_B_Walk_step_84 {sc : Nat × (Nat → Int32)} {e0 : mn_E} {tl : List mn_E}    (d : DS) (f : FS) (w : WS) : Ev sc 7 94 0 0 M_Walk_step 84 [] [] (e0 :: (HD d (HF f (HW w tl)))) (mapR ouIT (fun z => (e0 :: (HD z.1 (HF f (HW z.2 tl))))) (B_Walk_step_84 d f w)) := by
  unfold B_Walk_step_84
  refine ev_iconst (v := 1) d_Walk_step_84 rfl ?_
  exact ev_zret (ty := .boolean) rfl rfl d_Walk_step_85
def B_Walk_step_70  (r12 : DS → FS → WS → Int32 → Option ((Nat ⊕ Int32) × (DS × WS))) (d : DS) (f : FS) (w : WS) (x1 : Int32) (t1 : Int32) : Option ((Nat ⊕ Int32) × (DS × WS)) :=
  r12 d f (wSSlo (wSSec w t1) 0) (x1 + 1)
theorem e_B_Walk_step_70 {sc : Nat × (Nat → Int32)} {e0 : mn_E} {tl : List mn_E}  (r12 : DS → FS → WS → Int32 → Option ((Nat ⊕ Int32) × (DS × WS))) (hr12 : ∀ (d : DS) (f : FS) (w : WS) (x1 : Int32), Ev sc 7 94 0 0 M_Walk_step 12 [(0, .ref 7), (1, .int x1)] [] (e0 :: (HD d (HF f (HW w tl)))) (mapR ouIT (fun z => (e0 :: (HD z.1 (HF f (HW z.2 tl))))) (r12 d f w x1))) (d : DS) (f : FS) (w : WS) (x1 : Int32) (t1 : Int32) : Ev sc 7 94 0 0 M_Walk_step 70 [(0, .ref 7), (1, .int x1)] [.int t1, .ref 7] (e0 :: (HD d (HF f (HW w tl)))) (mapR ouIT (fun z => (e0 :: (HD z.1 (HF f (HW z.2 tl))))) (B_Walk_step_70 r12 d f w x1 t1)) := by
  unfold B_Walk_step_70
  refine ev_put (h2 := (e0 :: (HD d (HF f (HW (wSSec w t1) tl))))) gi_Walk ft_Walk fo_Walk fn_Walk (ci := 3) rfl rfl 2 (by decide) gw_217 rfl rfl (fun _ => rfl) (fun _ => rfl) (Nat.le_of_ble_eq_true rfl) rfl d_Walk_step_70 ?_
  refine ev_aload_n d_Walk_step_73 rfl rfl ?_
  refine ev_iconst (v := 0) d_Walk_step_74 rfl ?_
  refine ev_put (h2 := (e0 :: (HD d (HF f (HW (wSSlo (wSSec w t1) 0) tl))))) gi_Walk ft_Walk fo_Walk fn_Walk (ci := 3) rfl rfl 3 (by decide) gw_218 rfl rfl (fun _ => rfl) (fun _ => rfl) (Nat.le_of_ble_eq_true rfl) rfl d_Walk_step_75 ?_
  refine ev_iinc (v := (x1 + 1)) d_Walk_step_78 rfl rfl (by decide) rfl ?_
  refine ev_goto (tgt := 12) d_Walk_step_81 rfl ?_
  exact ev_pick [1, 0] rfl (hr12 d f (wSSlo (wSSec w t1) 0) (x1 + 1))
def B_Walk_step_67  (r12 : DS → FS → WS → Int32 → Option ((Nat ⊕ Int32) × (DS × WS))) (d : DS) (f : FS) (w : WS) (x1 : Int32) (t1 : Int32) : Option ((Nat ⊕ Int32) × (DS × WS)) :=
  thM (f_LV_unbroken t1) (fun x z => some (.inl x, (d, w))) (fun v z => B_Walk_step_70  r12 d f w x1 v)
theorem e_B_Walk_step_67 {sc : Nat × (Nat → Int32)} {e0 : mn_E} {tl : List mn_E}  (r12 : DS → FS → WS → Int32 → Option ((Nat ⊕ Int32) × (DS × WS))) (hr12 : ∀ (d : DS) (f : FS) (w : WS) (x1 : Int32), Ev sc 7 94 0 0 M_Walk_step 12 [(0, .ref 7), (1, .int x1)] [] (e0 :: (HD d (HF f (HW w tl)))) (mapR ouIT (fun z => (e0 :: (HD z.1 (HF f (HW z.2 tl))))) (r12 d f w x1))) (d : DS) (f : FS) (w : WS) (x1 : Int32) (t1 : Int32) : Ev sc 7 94 0 0 M_Walk_step 67 [(0, .ref 7), (1, .int x1)] [.int t1, .ref 7] (e0 :: (HD d (HF f (HW w tl)))) (mapR ouIT (fun z => (e0 :: (HD z.1 (HF f (HW z.2 tl))))) (B_Walk_step_67 r12 d f w x1 t1)) := by
  unfold B_Walk_step_67
  refine ev_callT (q := (f_LV_unbroken t1)) (ou := ouI) (Hs := (fun z => (e0 :: (HD d (HF f (HW w tl)))))) (inv_SN (av := [.int t1]) (rest := [.ref 7]) d_Walk_step_67 gw_712 gw_713 gw_102 mw_LV_unbroken nh_LV_unbroken pn_LV_unbroken rfl) d_Walk_step_67 pl_LV_unbroken (Nat.le_of_ble_eq_true rfl) (Nat.le_of_ble_eq_true rfl) (Nat.le_of_ble_eq_true rfl) (e_f_LV_unbroken (hh := (e0 :: (HD d (HF f (HW w tl)))))   t1) (fun _ => (len1 (lenHD (lenHF (lenHW rfl))))) rfl (fun x z h1 => ?_) (fun v z h1 => ⟨_, rfl, ?_⟩)
  · rw [h1]; rfl
  · rw [h1]
    exact ev_pick [0, 1] rfl (e_B_Walk_step_70   r12 hr12 d f w x1 v)
def L_Walk_step_12   : Nat → DS → FS → WS → Int32 → Option ((Nat ⊕ Int32) × (DS × WS))
  | 0, _, _, _, _ => none
  | n + 1, d, f, w, x1 =>
  if 40 ≤ x1 then (B_Walk_step_84   d f w) else (if (wSlo w) < ((f_Disk_entriesIn d (wSec w)).1) then (B_Walk_step_84   d f w) else (if ¬ (xCell d (wSec w) 3) = (-1) then (B_Walk_step_67  (L_Walk_step_12 n) ((f_Finder_follow d f (wSec w) 3).2) f w x1 ((f_Finder_follow d f (wSec w) 3).1)) else (some (.inr 0, (d, w)))))
theorem e_L_Walk_step_12 {sc : Nat × (Nat → Int32)} {e0 : mn_E} {tl : List mn_E}    : ∀ (n : Nat) (d : DS) (f : FS) (w : WS) (x1 : Int32), Ev sc 7 94 0 0 M_Walk_step 12 [(0, .ref 7), (1, .int x1)] [] (e0 :: (HD d (HF f (HW w tl)))) (mapR ouIT (fun z => (e0 :: (HD z.1 (HF f (HW z.2 tl))))) (L_Walk_step_12   n d f w x1)) := by
  intro n
  induction n with
  | zero => intro d f w x1; exact ev_none
  | succ n ih =>
    intro d f w x1
    rw [L_Walk_step_12]
    refine ev_iload_n d_Walk_step_12 rfl rfl ?_
    refine ev_bipush (v := 40) d_Walk_step_13 rfl ?_
    refine ev_icmp_ge (tgt := 84) d_Walk_step_15 rfl (fun h1 => ?_) (fun h1 => ?_)
    · rw [if_pos h1]
      exact ev_pick [] rfl (e_B_Walk_step_84     d f w)
    · rw [if_neg h1]
      refine ev_aload_n d_Walk_step_18 rfl rfl ?_
      refine ev_get (v := .int (wSlo w)) gi_Walk (ci := 3) rfl rfl 3 (by decide) gw_218 rfl d_Walk_step_19 ?_
      refine ev_aload_n d_Walk_step_22 rfl rfl ?_
      refine ev_get (v := .ref 1) gi_Walk (ci := 3) rfl rfl 0 (by decide) gw_215 rfl d_Walk_step_23 ?_
      refine ev_aload_n d_Walk_step_26 rfl rfl ?_
      refine ev_get (v := .int (wSec w)) gi_Walk (ci := 3) rfl rfl 2 (by decide) gw_217 rfl d_Walk_step_27 ?_
      refine ev_callr (Mc := M_Disk_entriesIn) (v := some (.int ((f_Disk_entriesIn d (wSec w)).1))) (h1 := (e0 :: (HD d (HF f (HW w tl))))) (k2 := 0) (n2 := 0) (inv_V (q := 1) (av := [.int (wSec w)]) (rest := [.int (wSlo w)]) rfl (ci := 1) rfl d_Walk_step_30 gw_705 gw_400 gw_401 mw_Disk_entriesIn nh_Disk_entriesIn pn_Disk_entriesIn rfl) d_Walk_step_30 pl_Disk_entriesIn (Nat.le_of_ble_eq_true rfl) (Nat.le_of_ble_eq_true rfl) (Nat.le_of_ble_eq_true rfl) rfl rfl (e_f_Disk_entriesIn (e0 := e0) (tl := (HF f (HW w tl)))  d (wSec w)) (Or.inl (len1 (lenHD (lenHF (lenHW rfl))))) ?_
      refine ev_icmp_lt (tgt := 84) d_Walk_step_33 rfl (fun h2 => ?_) (fun h2 => ?_)
      · rw [if_pos h2]
        exact ev_pick [] rfl (e_B_Walk_step_84     d f w)
      · rw [if_neg h2]
        refine ev_aload_n d_Walk_step_36 rfl rfl ?_
        refine ev_get (v := .ref 1) gi_Walk (ci := 3) rfl rfl 0 (by decide) gw_215 rfl d_Walk_step_37 ?_
        refine ev_aload_n d_Walk_step_40 rfl rfl ?_
        refine ev_get (v := .int (wSec w)) gi_Walk (ci := 3) rfl rfl 2 (by decide) gw_217 rfl d_Walk_step_41 ?_
        refine ev_iconst (v := 3) d_Walk_step_44 rfl ?_
        refine ev_callr (Mc := M_Disk_cell) (v := some (.int (xCell d (wSec w) 3))) (h1 := (e0 :: (HD d (HF f (HW w tl))))) (k2 := 0) (n2 := 0) (inv_V (q := 1) (av := [.int (wSec w), .int 3]) (rest := []) rfl (ci := 1) rfl d_Walk_step_45 gw_706 gw_198 gw_199 mw_Disk_cell nh_Disk_cell pn_Disk_cell rfl) d_Walk_step_45 pl_Disk_cell (Nat.le_of_ble_eq_true rfl) (Nat.le_of_ble_eq_true rfl) (Nat.le_of_ble_eq_true rfl) rfl rfl (c_Disk_cell (e0 := e0) (tl := (HF f (HW w tl)))  d (wSec w) 3) (Or.inl (len1 (lenHD (lenHF (lenHW rfl))))) ?_
        refine ev_iconst (v := -1) d_Walk_step_48 rfl ?_
        refine ev_icmp_ne (tgt := 54) d_Walk_step_49 rfl (fun h3 => ?_) (fun h3 => ?_)
        · rw [if_pos h3]
          refine ev_aload_n d_Walk_step_54 rfl rfl ?_
          refine ev_aload_n d_Walk_step_55 rfl rfl ?_
          refine ev_get (v := .ref 5) gi_Walk (ci := 3) rfl rfl 1 (by decide) gw_216 rfl d_Walk_step_56 ?_
          refine ev_aload_n d_Walk_step_59 rfl rfl ?_
          refine ev_get (v := .int (wSec w)) gi_Walk (ci := 3) rfl rfl 2 (by decide) gw_217 rfl d_Walk_step_60 ?_
          refine ev_iconst (v := 3) d_Walk_step_63 rfl ?_
          refine ev_callr (Mc := M_Finder_follow) (v := some (.int ((f_Finder_follow d f (wSec w) 3).1))) (h1 := (e0 :: (HD ((f_Finder_follow d f (wSec w) 3).2) (HF f (HW w tl))))) (k2 := 0) (n2 := 0) (inv_V (q := 5) (av := [.int (wSec w), .int 3]) (rest := [.ref 7]) rfl (ci := 2) rfl d_Walk_step_64 gw_707 gw_708 gw_709 mw_Finder_follow nh_Finder_follow pn_Finder_follow rfl) d_Walk_step_64 pl_Finder_follow (Nat.le_of_ble_eq_true rfl) (Nat.le_of_ble_eq_true rfl) (Nat.le_of_ble_eq_true rfl) rfl rfl (e_f_Finder_follow (e0 := e0) (tl := (HW w tl))  d f (wSec w) 3) (Or.inl (len1 (lenHD (lenHF (lenHW rfl))))) ?_
          exact ev_pick [0, 1] rfl (e_B_Walk_step_67   (L_Walk_step_12 n) ih ((f_Finder_follow d f (wSec w) 3).2) f w x1 ((f_Finder_follow d f (wSec w) 3).1))
        · rw [if_neg h3]
          refine ev_iconst (v := 0) d_Walk_step_52 rfl ?_
          exact ev_zret (ty := .boolean) rfl rfl d_Walk_step_53
def f_Walk_step   (d : DS) (f : FS) (w : WS) : Option ((Nat ⊕ Int32) × (DS × WS)) :=
  L_Walk_step_12   100 d f (wSSlo w ((wSlo w) + 1)) 0
theorem e_f_Walk_step {sc : Nat × (Nat → Int32)} {e0 : mn_E} {tl : List mn_E}    (d : DS) (f : FS) (w : WS) : Ev sc 7 94 0 0 M_Walk_step 0 [(0, .ref 7)] [] (e0 :: (HD d (HF f (HW w tl)))) (mapR ouIT (fun z => (e0 :: (HD z.1 (HF f (HW z.2 tl))))) (f_Walk_step d f w)) := by
  unfold f_Walk_step
  refine ev_aload_n d_Walk_step_0 rfl rfl ?_
  refine ev_dup d_Walk_step_1 rfl ?_
  refine ev_get (v := .int (wSlo w)) gi_Walk (ci := 3) rfl rfl 3 (by decide) gw_218 rfl d_Walk_step_2 ?_
  refine ev_iconst (v := 1) d_Walk_step_5 rfl ?_
  refine ev_iadd d_Walk_step_6 ?_
  refine ev_put (h2 := (e0 :: (HD d (HF f (HW (wSSlo w ((wSlo w) + 1)) tl))))) gi_Walk ft_Walk fo_Walk fn_Walk (ci := 3) rfl rfl 3 (by decide) gw_218 rfl rfl (fun _ => rfl) (fun _ => rfl) (Nat.le_of_ble_eq_true rfl) rfl d_Walk_step_7 ?_
  refine ev_iconst (v := 0) d_Walk_step_10 rfl ?_
  refine ev_istore_n d_Walk_step_11 rfl (by decide) rfl ?_
  exact ev_pick [1, 0] rfl (e_L_Walk_step_12     100 d f (wSSlo w ((wSlo w) + 1)) 0)
def f_Walk_offsetHere   (d : DS) (f : FS) (w : WS) : (Int32 × Unit) :=
  (((wSlo w) * 4), ())
theorem e_f_Walk_offsetHere {sc : Nat × (Nat → Int32)} {e0 : mn_E} {tl : List mn_E}    (d : DS) (f : FS) (w : WS) : Ev sc 0 0 0 0 M_Walk_offsetHere 0 [(0, .ref 7)] [] (e0 :: (HD d (HF f (HW w tl)))) (mapT ouI (fun z => (e0 :: (HD d (HF f (HW w tl))))) (f_Walk_offsetHere d f w)) := by
  unfold f_Walk_offsetHere
  refine ev_aload_n d_Walk_offsetHere_0 rfl rfl ?_
  refine ev_get (v := .int (wSlo w)) gi_Walk (ci := 3) rfl rfl 3 (by decide) gw_218 rfl d_Walk_offsetHere_1 ?_
  refine ev_iconst (v := 4) d_Walk_offsetHere_4 rfl ?_
  refine ev_imul d_Walk_offsetHere_5 ?_
  exact ev_zret (ty := .int) rfl rfl d_Walk_offsetHere_6
def f_Walk_serialHere   (d : DS) (f : FS) (w : WS) : (Int32 × Unit) :=
  ((f_Disk_byteAt d (wSec w) (((f_Walk_offsetHere d f w).1) + 2)).1, ())
theorem e_f_Walk_serialHere {sc : Nat × (Nat → Int32)} {e0 : mn_E} {tl : List mn_E}    (d : DS) (f : FS) (w : WS) : Ev sc 2 29 0 0 M_Walk_serialHere 0 [(0, .ref 7)] [] (e0 :: (HD d (HF f (HW w tl)))) (mapT ouI (fun z => (e0 :: (HD d (HF f (HW w tl))))) (f_Walk_serialHere d f w)) := by
  unfold f_Walk_serialHere
  refine ev_aload_n d_Walk_serialHere_0 rfl rfl ?_
  refine ev_get (v := .ref 1) gi_Walk (ci := 3) rfl rfl 0 (by decide) gw_215 rfl d_Walk_serialHere_1 ?_
  refine ev_aload_n d_Walk_serialHere_4 rfl rfl ?_
  refine ev_get (v := .int (wSec w)) gi_Walk (ci := 3) rfl rfl 2 (by decide) gw_217 rfl d_Walk_serialHere_5 ?_
  refine ev_aload_n d_Walk_serialHere_8 rfl rfl ?_
  refine ev_callr (Mc := M_Walk_offsetHere) (v := some (.int ((f_Walk_offsetHere d f w).1))) (h1 := (e0 :: (HD d (HF f (HW w tl))))) (k2 := 0) (n2 := 0) (inv_V (q := 7) (av := []) (rest := [.int (wSec w), .ref 1]) rfl (ci := 3) rfl d_Walk_serialHere_9 gw_734 gw_735 gw_736 mw_Walk_offsetHere nh_Walk_offsetHere pn_Walk_offsetHere rfl) d_Walk_serialHere_9 pl_Walk_offsetHere (Nat.le_of_ble_eq_true rfl) (Nat.le_of_ble_eq_true rfl) (Nat.le_of_ble_eq_true rfl) rfl rfl (e_f_Walk_offsetHere (e0 := e0) (tl := tl)  d f w ) (Or.inl (len1 (lenHD (lenHF (lenHW rfl))))) ?_
  refine ev_iconst (v := 2) d_Walk_serialHere_12 rfl ?_
  refine ev_iadd d_Walk_serialHere_13 ?_
  refine ev_callr (Mc := M_Disk_byteAt) (v := some (.int ((f_Disk_byteAt d (wSec w) (((f_Walk_offsetHere d f w).1) + 2)).1))) (h1 := (e0 :: (HD d (HF f (HW w tl))))) (k2 := 0) (n2 := 0) (inv_V (q := 1) (av := [.int (wSec w), .int (((f_Walk_offsetHere d f w).1) + 2)]) (rest := []) rfl (ci := 1) rfl d_Walk_serialHere_14 gw_738 gw_412 gw_413 mw_Disk_byteAt nh_Disk_byteAt pn_Disk_byteAt rfl) d_Walk_serialHere_14 pl_Disk_byteAt (Nat.le_of_ble_eq_true rfl) (Nat.le_of_ble_eq_true rfl) (Nat.le_of_ble_eq_true rfl) rfl rfl (e_f_Disk_byteAt (e0 := e0) (tl := (HF f (HW w tl)))  d (wSec w) (((f_Walk_offsetHere d f w).1) + 2)) (Or.inl (len1 (lenHD (lenHF (lenHW rfl))))) ?_
  exact ev_zret (ty := .int) rfl rfl d_Walk_serialHere_17
def f_Walk_keepFirstHole   (d : DS) (f : FS) (w : WS) : (Unit × WS) :=
  if ¬ (wHSe w) = (-1) then (((), w)) else (((), (wSHSl (wSHSe w (wSec w)) (wSlo (wSHSe w (wSec w))))))
theorem e_f_Walk_keepFirstHole {sc : Nat × (Nat → Int32)} {e0 : mn_E} {tl : List mn_E}    (d : DS) (f : FS) (w : WS) : Ev sc 0 0 0 0 M_Walk_keepFirstHole 0 [(0, .ref 7)] [] (e0 :: (HD d (HF f (HW w tl)))) (mapT ouV (fun z => (e0 :: (HD d (HF f (HW z tl))))) (f_Walk_keepFirstHole d f w)) := by
  unfold f_Walk_keepFirstHole
  refine ev_aload_n d_Walk_keepFirstHole_0 rfl rfl ?_
  refine ev_get (v := .int (wHSe w)) gi_Walk (ci := 3) rfl rfl 4 (by decide) gw_219 rfl d_Walk_keepFirstHole_1 ?_
  refine ev_iconst (v := -1) d_Walk_keepFirstHole_4 rfl ?_
  refine ev_icmp_ne (tgt := 24) d_Walk_keepFirstHole_5 rfl (fun h1 => ?_) (fun h1 => ?_)
  · rw [if_pos h1]
    exact ev_vret rfl d_Walk_keepFirstHole_24
  · rw [if_neg h1]
    refine ev_aload_n d_Walk_keepFirstHole_8 rfl rfl ?_
    refine ev_aload_n d_Walk_keepFirstHole_9 rfl rfl ?_
    refine ev_get (v := .int (wSec w)) gi_Walk (ci := 3) rfl rfl 2 (by decide) gw_217 rfl d_Walk_keepFirstHole_10 ?_
    refine ev_put (h2 := (e0 :: (HD d (HF f (HW (wSHSe w (wSec w)) tl))))) gi_Walk ft_Walk fo_Walk fn_Walk (ci := 3) rfl rfl 4 (by decide) gw_219 rfl rfl (fun _ => rfl) (fun _ => rfl) (Nat.le_of_ble_eq_true rfl) rfl d_Walk_keepFirstHole_13 ?_
    refine ev_aload_n d_Walk_keepFirstHole_16 rfl rfl ?_
    refine ev_aload_n d_Walk_keepFirstHole_17 rfl rfl ?_
    refine ev_get (v := .int (wSlo (wSHSe w (wSec w)))) gi_Walk (ci := 3) rfl rfl 3 (by decide) gw_218 rfl d_Walk_keepFirstHole_18 ?_
    refine ev_put (h2 := (e0 :: (HD d (HF f (HW (wSHSl (wSHSe w (wSec w)) (wSlo (wSHSe w (wSec w)))) tl))))) gi_Walk ft_Walk fo_Walk fn_Walk (ci := 3) rfl rfl 5 (by decide) gw_220 rfl rfl (fun _ => rfl) (fun _ => rfl) (Nat.le_of_ble_eq_true rfl) rfl d_Walk_keepFirstHole_21 ?_
    exact ev_vret rfl d_Walk_keepFirstHole_24
def B_Walk_seekName_61   (d : DS) (f : FS) (w : WS) : Option ((Nat ⊕ Int32) × (DS × WS)) :=
  some (.inr 0, (d, w))
theorem e_B_Walk_seekName_61 {sc : Nat × (Nat → Int32)} {e0 : mn_E} {tl : List mn_E}    (d : DS) (f : FS) (w : WS) : Ev sc 8 107 0 0 M_Walk_seekName 61 [] [] (e0 :: (HD d (HF f (HW w tl)))) (mapR ouIT (fun z => (e0 :: (HD z.1 (HF f (HW z.2 tl))))) (B_Walk_seekName_61 d f w)) := by
  unfold B_Walk_seekName_61
  refine ev_iconst (v := 0) d_Walk_seekName_61 rfl ?_
  exact ev_zret (ty := .boolean) rfl rfl d_Walk_seekName_62
def B_Walk_seekName_55  (r7 : DS → FS → WS → Int32 → Int32 → Option ((Nat ⊕ Int32) × (DS × WS))) (d : DS) (f : FS) (w : WS) (x2 : Int32) (x3 : Int32) : Option ((Nat ⊕ Int32) × (DS × WS)) :=
  r7 d f w x2 (x3 + 1)
theorem e_B_Walk_seekName_55 {sc : Nat × (Nat → Int32)} {e0 : mn_E} {tl : List mn_E}  (r7 : DS → FS → WS → Int32 → Int32 → Option ((Nat ⊕ Int32) × (DS × WS))) (hr7 : ∀ (d : DS) (f : FS) (w : WS) (x2 : Int32) (x3 : Int32), Ev sc 8 107 0 0 M_Walk_seekName 7 [(0, .ref 7), (2, .int x2), (3, .int x3)] [] (e0 :: (HD d (HF f (HW w tl)))) (mapR ouIT (fun z => (e0 :: (HD z.1 (HF f (HW z.2 tl))))) (r7 d f w x2 x3))) (d : DS) (f : FS) (w : WS) (x2 : Int32) (x3 : Int32) : Ev sc 8 107 0 0 M_Walk_seekName 55 [(0, .ref 7), (2, .int x2), (3, .int x3)] [] (e0 :: (HD d (HF f (HW w tl)))) (mapR ouIT (fun z => (e0 :: (HD z.1 (HF f (HW z.2 tl))))) (B_Walk_seekName_55 r7 d f w x2 x3)) := by
  unfold B_Walk_seekName_55
  refine ev_iinc (v := (x3 + 1)) d_Walk_seekName_55 rfl rfl (by decide) rfl ?_
  refine ev_goto (tgt := 7) d_Walk_seekName_58 rfl ?_
  exact ev_pick [1, 2, 0] rfl (hr7 d f w x2 (x3 + 1))
def B_Walk_seekName_31  (r7 : DS → FS → WS → Int32 → Int32 → Option ((Nat ⊕ Int32) × (DS × WS))) (d : DS) (f : FS) (w : WS) (x2 : Int32) (x3 : Int32) : Option ((Nat ⊕ Int32) × (DS × WS)) :=
  B_Walk_seekName_55  r7 d f w x2 x3
theorem e_B_Walk_seekName_31 {sc : Nat × (Nat → Int32)} {e0 : mn_E} {tl : List mn_E}  (r7 : DS → FS → WS → Int32 → Int32 → Option ((Nat ⊕ Int32) × (DS × WS))) (hr7 : ∀ (d : DS) (f : FS) (w : WS) (x2 : Int32) (x3 : Int32), Ev sc 8 107 0 0 M_Walk_seekName 7 [(0, .ref 7), (2, .int x2), (3, .int x3)] [] (e0 :: (HD d (HF f (HW w tl)))) (mapR ouIT (fun z => (e0 :: (HD z.1 (HF f (HW z.2 tl))))) (r7 d f w x2 x3))) (d : DS) (f : FS) (w : WS) (x2 : Int32) (x3 : Int32) : Ev sc 8 107 0 0 M_Walk_seekName 31 [(0, .ref 7), (2, .int x2), (3, .int x3)] [] (e0 :: (HD d (HF f (HW w tl)))) (mapR ouIT (fun z => (e0 :: (HD z.1 (HF f (HW z.2 tl))))) (B_Walk_seekName_31 r7 d f w x2 x3)) := by
  unfold B_Walk_seekName_31
  refine ev_goto (tgt := 55) d_Walk_seekName_31 rfl ?_
  exact ev_pick [0, 1, 2] rfl (e_B_Walk_seekName_55   r7 hr7 d f w x2 x3)
def B_Walk_seekName_17  (r7 : DS → FS → WS → Int32 → Int32 → Option ((Nat ⊕ Int32) × (DS × WS))) (d : DS) (f : FS) (w : WS) (x2 : Int32) (x3 : Int32) (t0 : Int32) : Option ((Nat ⊕ Int32) × (DS × WS)) :=
  if t0 = 0 then (B_Walk_seekName_61   d f w) else (if ¬ ((f_Walk_serialHere d f w).1) = 0 then (if ¬ ((f_Disk_nameAt d (wSec w) ((f_Walk_offsetHere d f w).1)).1) = x2 then (B_Walk_seekName_55  r7 d f w x2 x3) else (some (.inr 1, (d, w)))) else (B_Walk_seekName_31  r7 d f ((f_Walk_keepFirstHole d f w).2) x2 x3))
theorem e_B_Walk_seekName_17 {sc : Nat × (Nat → Int32)} {e0 : mn_E} {tl : List mn_E}  (r7 : DS → FS → WS → Int32 → Int32 → Option ((Nat ⊕ Int32) × (DS × WS))) (hr7 : ∀ (d : DS) (f : FS) (w : WS) (x2 : Int32) (x3 : Int32), Ev sc 8 107 0 0 M_Walk_seekName 7 [(0, .ref 7), (2, .int x2), (3, .int x3)] [] (e0 :: (HD d (HF f (HW w tl)))) (mapR ouIT (fun z => (e0 :: (HD z.1 (HF f (HW z.2 tl))))) (r7 d f w x2 x3))) (d : DS) (f : FS) (w : WS) (x2 : Int32) (x3 : Int32) (t0 : Int32) : Ev sc 8 107 0 0 M_Walk_seekName 17 [(0, .ref 7), (2, .int x2), (3, .int x3)] [.int t0] (e0 :: (HD d (HF f (HW w tl)))) (mapR ouIT (fun z => (e0 :: (HD z.1 (HF f (HW z.2 tl))))) (B_Walk_seekName_17 r7 d f w x2 x3 t0)) := by
  unfold B_Walk_seekName_17
  refine ev_if_eq (tgt := 61) d_Walk_seekName_17 rfl (fun h1 => ?_) (fun h1 => ?_)
  · rw [if_pos h1]
    exact ev_pick [] rfl (e_B_Walk_seekName_61     d f w)
  · rw [if_neg h1]
    refine ev_aload_n d_Walk_seekName_20 rfl rfl ?_
    refine ev_callr (Mc := M_Walk_serialHere) (v := some (.int ((f_Walk_serialHere d f w).1))) (h1 := (e0 :: (HD d (HF f (HW w tl))))) (k2 := 0) (n2 := 0) (inv_V (q := 7) (av := []) (rest := []) rfl (ci := 3) rfl d_Walk_seekName_21 gw_730 gw_731 gw_732 mw_Walk_serialHere nh_Walk_serialHere pn_Walk_serialHere rfl) d_Walk_seekName_21 pl_Walk_serialHere (Nat.le_of_ble_eq_true rfl) (Nat.le_of_ble_eq_true rfl) (Nat.le_of_ble_eq_true rfl) rfl rfl (e_f_Walk_serialHere (e0 := e0) (tl := tl)  d f w ) (Or.inl (len1 (lenHD (lenHF (lenHW rfl))))) ?_
    refine ev_if_ne (tgt := 34) d_Walk_seekName_24 rfl (fun h2 => ?_) (fun h2 => ?_)
    · rw [if_pos h2]
      refine ev_aload_n d_Walk_seekName_34 rfl rfl ?_
      refine ev_get (v := .ref 1) gi_Walk (ci := 3) rfl rfl 0 (by decide) gw_215 rfl d_Walk_seekName_35 ?_
      refine ev_aload_n d_Walk_seekName_38 rfl rfl ?_
      refine ev_get (v := .int (wSec w)) gi_Walk (ci := 3) rfl rfl 2 (by decide) gw_217 rfl d_Walk_seekName_39 ?_
      refine ev_aload_n d_Walk_seekName_42 rfl rfl ?_
      refine ev_callr (Mc := M_Walk_offsetHere) (v := some (.int ((f_Walk_offsetHere d f w).1))) (h1 := (e0 :: (HD d (HF f (HW w tl))))) (k2 := 0) (n2 := 0) (inv_V (q := 7) (av := []) (rest := [.int (wSec w), .ref 1]) rfl (ci := 3) rfl d_Walk_seekName_43 gw_734 gw_735 gw_736 mw_Walk_offsetHere nh_Walk_offsetHere pn_Walk_offsetHere rfl) d_Walk_seekName_43 pl_Walk_offsetHere (Nat.le_of_ble_eq_true rfl) (Nat.le_of_ble_eq_true rfl) (Nat.le_of_ble_eq_true rfl) rfl rfl (e_f_Walk_offsetHere (e0 := e0) (tl := tl)  d f w ) (Or.inl (len1 (lenHD (lenHF (lenHW rfl))))) ?_
      refine ev_callr (Mc := M_Disk_nameAt) (v := some (.int ((f_Disk_nameAt d (wSec w) ((f_Walk_offsetHere d f w).1)).1))) (h1 := (e0 :: (HD d (HF f (HW w tl))))) (k2 := 0) (n2 := 0) (inv_V (q := 1) (av := [.int (wSec w), .int ((f_Walk_offsetHere d f w).1)]) (rest := []) rfl (ci := 1) rfl d_Walk_seekName_46 gw_743 gw_420 gw_421 mw_Disk_nameAt nh_Disk_nameAt pn_Disk_nameAt rfl) d_Walk_seekName_46 pl_Disk_nameAt (Nat.le_of_ble_eq_true rfl) (Nat.le_of_ble_eq_true rfl) (Nat.le_of_ble_eq_true rfl) rfl rfl (e_f_Disk_nameAt (e0 := e0) (tl := (HF f (HW w tl)))  d (wSec w) ((f_Walk_offsetHere d f w).1)) (Or.inl (len1 (lenHD (lenHF (lenHW rfl))))) ?_
      refine ev_iload_n d_Walk_seekName_49 rfl rfl ?_
      refine ev_icmp_ne (tgt := 55) d_Walk_seekName_50 rfl (fun h3 => ?_) (fun h3 => ?_)
      · rw [if_pos h3]
        exact ev_pick [0, 1, 2] rfl (e_B_Walk_seekName_55   r7 hr7 d f w x2 x3)
      · rw [if_neg h3]
        refine ev_iconst (v := 1) d_Walk_seekName_53 rfl ?_
        exact ev_zret (ty := .boolean) rfl rfl d_Walk_seekName_54
    · rw [if_neg h2]
      refine ev_aload_n d_Walk_seekName_27 rfl rfl ?_
      refine ev_callr (Mc := M_Walk_keepFirstHole) (v := none) (h1 := (e0 :: (HD d (HF f (HW ((f_Walk_keepFirstHole d f w).2) tl))))) (k2 := 0) (n2 := 0) (inv_V (q := 7) (av := []) (rest := []) rfl (ci := 3) rfl d_Walk_seekName_28 gw_739 gw_741 gw_32 mw_Walk_keepFirstHole nh_Walk_keepFirstHole pn_Walk_keepFirstHole rfl) d_Walk_seekName_28 pl_Walk_keepFirstHole (Nat.le_of_ble_eq_true rfl) (Nat.le_of_ble_eq_true rfl) (Nat.le_of_ble_eq_true rfl) rfl rfl (e_f_Walk_keepFirstHole (e0 := e0) (tl := tl)  d f w ) (Or.inl (len1 (lenHD (lenHF (lenHW rfl))))) ?_
      exact ev_pick [0, 1, 2] rfl (e_B_Walk_seekName_31   r7 hr7 d f ((f_Walk_keepFirstHole d f w).2) x2 x3)
def L_Walk_seekName_7   : Nat → DS → FS → WS → Int32 → Int32 → Option ((Nat ⊕ Int32) × (DS × WS))
  | 0, _, _, _, _, _ => none
  | n + 1, d, f, w, x2, x3 =>
  if 80 ≤ x3 then (B_Walk_seekName_61   d f w) else (bnd (f_Walk_step d f w) (fun q => thM q (fun x z => some (.inl x, (z.1, z.2))) (fun v z => B_Walk_seekName_17  (L_Walk_seekName_7 n) z.1 f z.2 x2 x3 v)))
theorem e_L_Walk_seekName_7 {sc : Nat × (Nat → Int32)} {e0 : mn_E} {tl : List mn_E}    : ∀ (n : Nat) (d : DS) (f : FS) (w : WS) (x2 : Int32) (x3 : Int32), Ev sc 8 107 0 0 M_Walk_seekName 7 [(0, .ref 7), (2, .int x2), (3, .int x3)] [] (e0 :: (HD d (HF f (HW w tl)))) (mapR ouIT (fun z => (e0 :: (HD z.1 (HF f (HW z.2 tl))))) (L_Walk_seekName_7   n d f w x2 x3)) := by
  intro n
  induction n with
  | zero => intro d f w x2 x3; exact ev_none
  | succ n ih =>
    intro d f w x2 x3
    rw [L_Walk_seekName_7]
    refine ev_iload_n d_Walk_seekName_7 rfl rfl ?_
    refine ev_bipush (v := 80) d_Walk_seekName_8 rfl ?_
    refine ev_icmp_ge (tgt := 61) d_Walk_seekName_10 rfl (fun h1 => ?_) (fun h1 => ?_)
    · rw [if_pos h1]
      exact ev_pick [] rfl (e_B_Walk_seekName_61     d f w)
    · rw [if_neg h1]
      refine ev_aload_n d_Walk_seekName_13 rfl rfl ?_
      refine ev_callBT (rc := (f_Walk_step d f w)) (ou := ouI) (Hs := (fun z => (e0 :: (HD z.1 (HF f (HW z.2 tl)))))) (inv_V (q := 7) (av := []) (rest := []) rfl (ci := 3) rfl d_Walk_seekName_14 gw_701 gw_703 gw_31 mw_Walk_step nh_Walk_step pn_Walk_step rfl) d_Walk_seekName_14 pl_Walk_step (Nat.le_of_ble_eq_true rfl) (Nat.le_of_ble_eq_true rfl) (Nat.le_of_ble_eq_true rfl) (e_f_Walk_step (e0 := e0) (tl := tl)  d f w ) (fun _ => (len1 (lenHD (lenHF (lenHW rfl))))) rfl (fun x z h2 => ?_) (fun v z h2 => ⟨_, rfl, ?_⟩)
      · rfl
      · exact ev_pick [0, 1, 2] rfl (e_B_Walk_seekName_17   (L_Walk_seekName_7 n) ih z.1 f z.2 x2 x3 v)
def B_Walk_seekName_5   (d : DS) (f : FS) (w : WS) (x2 : Int32) : Option ((Nat ⊕ Int32) × (DS × WS)) :=
  L_Walk_seekName_7   100 d f w x2 0
theorem e_B_Walk_seekName_5 {sc : Nat × (Nat → Int32)} {e0 : mn_E} {tl : List mn_E}    (d : DS) (f : FS) (w : WS) (x2 : Int32) : Ev sc 8 107 0 0 M_Walk_seekName 5 [(0, .ref 7), (2, .int x2)] [] (e0 :: (HD d (HF f (HW w tl)))) (mapR ouIT (fun z => (e0 :: (HD z.1 (HF f (HW z.2 tl))))) (B_Walk_seekName_5 d f w x2)) := by
  unfold B_Walk_seekName_5
  refine ev_iconst (v := 0) d_Walk_seekName_5 rfl ?_
  refine ev_istore_n d_Walk_seekName_6 rfl (by decide) rfl ?_
  exact ev_pick [1, 2, 0] rfl (e_L_Walk_seekName_7     100 d f w x2 0)
def f_Walk_seekName   (d : DS) (f : FS) (w : WS) (x1 : Int32) (x2 : Int32) : Option ((Nat ⊕ Int32) × (DS × WS)) :=
  B_Walk_seekName_5   d f ((f_Walk_start d f w x1).2) x2
theorem e_f_Walk_seekName {sc : Nat × (Nat → Int32)} {e0 : mn_E} {tl : List mn_E}    (d : DS) (f : FS) (w : WS) (x1 : Int32) (x2 : Int32) : Ev sc 8 107 0 0 M_Walk_seekName 0 [(0, .ref 7), (1, .int x1), (2, .int x2)] [] (e0 :: (HD d (HF f (HW w tl)))) (mapR ouIT (fun z => (e0 :: (HD z.1 (HF f (HW z.2 tl))))) (f_Walk_seekName d f w x1 x2)) := by
  unfold f_Walk_seekName
  refine ev_aload_n d_Walk_seekName_0 rfl rfl ?_
  refine ev_iload_n d_Walk_seekName_1 rfl rfl ?_
  refine ev_callr (Mc := M_Walk_start) (v := none) (h1 := (e0 :: (HD d (HF f (HW ((f_Walk_start d f w x1).2) tl))))) (k2 := 0) (n2 := 0) (inv_V (q := 7) (av := [.int x1]) (rest := []) rfl (ci := 3) rfl d_Walk_seekName_2 gw_697 gw_699 gw_30 mw_Walk_start nh_Walk_start pn_Walk_start rfl) d_Walk_seekName_2 pl_Walk_start (Nat.le_of_ble_eq_true rfl) (Nat.le_of_ble_eq_true rfl) (Nat.le_of_ble_eq_true rfl) rfl rfl (e_f_Walk_start (e0 := e0) (tl := tl)  d f w x1) (Or.inl (len1 (lenHD (lenHF (lenHW rfl))))) ?_
  exact ev_pick [0, 2] rfl (e_B_Walk_seekName_5     d f ((f_Walk_start d f w x1).2) x2)
def f_Walk_foundHole   (d : DS) (f : FS) (w : WS) : (Int32 × Unit) :=
  if (wHSe w) = (-1) then ((0, ())) else ((1, ()))
theorem e_f_Walk_foundHole {sc : Nat × (Nat → Int32)} {e0 : mn_E} {tl : List mn_E}    (d : DS) (f : FS) (w : WS) : Ev sc 0 0 0 0 M_Walk_foundHole 0 [(0, .ref 7)] [] (e0 :: (HD d (HF f (HW w tl)))) (mapT ouI (fun z => (e0 :: (HD d (HF f (HW w tl))))) (f_Walk_foundHole d f w)) := by
  unfold f_Walk_foundHole
  refine ev_aload_n d_Walk_foundHole_0 rfl rfl ?_
  refine ev_get (v := .int (wHSe w)) gi_Walk (ci := 3) rfl rfl 4 (by decide) gw_219 rfl d_Walk_foundHole_1 ?_
  refine ev_iconst (v := -1) d_Walk_foundHole_4 rfl ?_
  refine ev_icmp_eq (tgt := 12) d_Walk_foundHole_5 rfl (fun h1 => ?_) (fun h1 => ?_)
  · rw [if_pos h1]
    refine ev_iconst (v := 0) d_Walk_foundHole_12 rfl ?_
    exact ev_zret (ty := .boolean) rfl rfl d_Walk_foundHole_13
  · rw [if_neg h1]
    refine ev_iconst (v := 1) d_Walk_foundHole_8 rfl ?_
    refine ev_goto (tgt := 13) d_Walk_foundHole_9 rfl ?_
    exact ev_zret (ty := .boolean) rfl rfl d_Walk_foundHole_13
def B_Walk_needsPage_25   (d : DS) (f : FS) (w : WS) : (Int32 × Unit) :=
  (0, ())
theorem e_B_Walk_needsPage_25 {sc : Nat × (Nat → Int32)} {e0 : mn_E} {tl : List mn_E}    (d : DS) (f : FS) (w : WS) : Ev sc 2 28 0 0 M_Walk_needsPage 25 [] [] (e0 :: (HD d (HF f (HW w tl)))) (mapT ouI (fun z => (e0 :: (HD d (HF f (HW w tl))))) (B_Walk_needsPage_25 d f w)) := by
  unfold B_Walk_needsPage_25
  refine ev_iconst (v := 0) d_Walk_needsPage_25 rfl ?_
  exact ev_zret (ty := .boolean) rfl rfl d_Walk_needsPage_26
def f_Walk_needsPage   (d : DS) (f : FS) (w : WS) : (Int32 × Unit) :=
  if ¬ ((f_Walk_foundHole d f w).1) = 0 then (B_Walk_needsPage_25   d f w) else (if ¬ ((f_Disk_takesEntryBehind d (wSec w)).1) = 0 then (B_Walk_needsPage_25   d f w) else ((1, ())))
theorem e_f_Walk_needsPage {sc : Nat × (Nat → Int32)} {e0 : mn_E} {tl : List mn_E}    (d : DS) (f : FS) (w : WS) : Ev sc 2 28 0 0 M_Walk_needsPage 0 [(0, .ref 7)] [] (e0 :: (HD d (HF f (HW w tl)))) (mapT ouI (fun z => (e0 :: (HD d (HF f (HW w tl))))) (f_Walk_needsPage d f w)) := by
  unfold f_Walk_needsPage
  refine ev_aload_n d_Walk_needsPage_0 rfl rfl ?_
  refine ev_callr (Mc := M_Walk_foundHole) (v := some (.int ((f_Walk_foundHole d f w).1))) (h1 := (e0 :: (HD d (HF f (HW w tl))))) (k2 := 0) (n2 := 0) (inv_V (q := 7) (av := []) (rest := []) rfl (ci := 3) rfl d_Walk_needsPage_1 gw_748 gw_749 gw_750 mw_Walk_foundHole nh_Walk_foundHole pn_Walk_foundHole rfl) d_Walk_needsPage_1 pl_Walk_foundHole (Nat.le_of_ble_eq_true rfl) (Nat.le_of_ble_eq_true rfl) (Nat.le_of_ble_eq_true rfl) rfl rfl (e_f_Walk_foundHole (e0 := e0) (tl := tl)  d f w ) (Or.inl (len1 (lenHD (lenHF (lenHW rfl))))) ?_
  refine ev_if_ne (tgt := 25) d_Walk_needsPage_4 rfl (fun h1 => ?_) (fun h1 => ?_)
  · rw [if_pos h1]
    exact ev_pick [] rfl (e_B_Walk_needsPage_25     d f w)
  · rw [if_neg h1]
    refine ev_aload_n d_Walk_needsPage_7 rfl rfl ?_
    refine ev_get (v := .ref 1) gi_Walk (ci := 3) rfl rfl 0 (by decide) gw_215 rfl d_Walk_needsPage_8 ?_
    refine ev_aload_n d_Walk_needsPage_11 rfl rfl ?_
    refine ev_get (v := .int (wSec w)) gi_Walk (ci := 3) rfl rfl 2 (by decide) gw_217 rfl d_Walk_needsPage_12 ?_
    refine ev_callr (Mc := M_Disk_takesEntryBehind) (v := some (.int ((f_Disk_takesEntryBehind d (wSec w)).1))) (h1 := (e0 :: (HD d (HF f (HW w tl))))) (k2 := 0) (n2 := 0) (inv_V (q := 1) (av := [.int (wSec w)]) (rest := []) rfl (ci := 1) rfl d_Walk_needsPage_15 gw_752 gw_465 gw_466 mw_Disk_takesEntryBehind nh_Disk_takesEntryBehind pn_Disk_takesEntryBehind rfl) d_Walk_needsPage_15 pl_Disk_takesEntryBehind (Nat.le_of_ble_eq_true rfl) (Nat.le_of_ble_eq_true rfl) (Nat.le_of_ble_eq_true rfl) rfl rfl (e_f_Disk_takesEntryBehind (e0 := e0) (tl := (HF f (HW w tl)))  d (wSec w)) (Or.inl (len1 (lenHD (lenHF (lenHW rfl))))) ?_
    refine ev_if_ne (tgt := 25) d_Walk_needsPage_18 rfl (fun h2 => ?_) (fun h2 => ?_)
    · rw [if_pos h2]
      exact ev_pick [] rfl (e_B_Walk_needsPage_25     d f w)
    · rw [if_neg h2]
      refine ev_iconst (v := 1) d_Walk_needsPage_21 rfl ?_
      refine ev_goto (tgt := 26) d_Walk_needsPage_22 rfl ?_
      exact ev_zret (ty := .boolean) rfl rfl d_Walk_needsPage_26
def B_Map_find_28   (d : DS) (f : FS) (w : WS) (m : MS) (t1 : Int32) : Option (Unit × (DS × FS × MS)) :=
  some ((), (d, f, (mSFre (mSTak (mSSnd (mSFir (mSPag m t1) (-1)) (-1)) 0) 0)))
theorem e_B_Map_find_28 {sc : Nat × (Nat → Int32)} {e0 : mn_E} {tl : List mn_E}    (d : DS) (f : FS) (w : WS) (m : MS) (t1 : Int32) : Ev sc 3 49 0 0 M_Map_find 28 [(0, .ref 8)] [.int t1, .ref 8] (e0 :: (HD d (HF f (HW w (HM m tl))))) (mapR ouV (fun z => (e0 :: (HD z.1 (HF z.2.1 (HW w (HM z.2.2 tl)))))) (B_Map_find_28 d f w m t1)) := by
  unfold B_Map_find_28
  refine ev_put (h2 := (e0 :: (HD d (HF f (HW w (HM (mSPag m t1) tl)))))) gi_Map ft_Map fo_Map fn_Map (ci := 4) rfl rfl 2 (by decide) gw_242 rfl rfl (fun _ => rfl) (fun _ => rfl) (Nat.le_of_ble_eq_true rfl) rfl d_Map_find_28 ?_
  refine ev_aload_n d_Map_find_31 rfl rfl ?_
  refine ev_iconst (v := -1) d_Map_find_32 rfl ?_
  refine ev_put (h2 := (e0 :: (HD d (HF f (HW w (HM (mSFir (mSPag m t1) (-1)) tl)))))) gi_Map ft_Map fo_Map fn_Map (ci := 4) rfl rfl 3 (by decide) gw_243 rfl rfl (fun _ => rfl) (fun _ => rfl) (Nat.le_of_ble_eq_true rfl) rfl d_Map_find_33 ?_
  refine ev_aload_n d_Map_find_36 rfl rfl ?_
  refine ev_iconst (v := -1) d_Map_find_37 rfl ?_
  refine ev_put (h2 := (e0 :: (HD d (HF f (HW w (HM (mSSnd (mSFir (mSPag m t1) (-1)) (-1)) tl)))))) gi_Map ft_Map fo_Map fn_Map (ci := 4) rfl rfl 4 (by decide) gw_244 rfl rfl (fun _ => rfl) (fun _ => rfl) (Nat.le_of_ble_eq_true rfl) rfl d_Map_find_38 ?_
  refine ev_aload_n d_Map_find_41 rfl rfl ?_
  refine ev_lconst (v := 0) d_Map_find_42 rfl ?_
  refine ev_put (h2 := (e0 :: (HD d (HF f (HW w (HM (mSTak (mSSnd (mSFir (mSPag m t1) (-1)) (-1)) 0) tl)))))) gi_Map ft_Map fo_Map fn_Map (ci := 4) rfl rfl 5 (by decide) gw_245 rfl rfl (fun _ => rfl) (fun _ => rfl) (Nat.le_of_ble_eq_true rfl) rfl d_Map_find_43 ?_
  refine ev_aload_n d_Map_find_46 rfl rfl ?_
  refine ev_lconst (v := 0) d_Map_find_47 rfl ?_
  refine ev_put (h2 := (e0 :: (HD d (HF f (HW w (HM (mSFre (mSTak (mSSnd (mSFir (mSPag m t1) (-1)) (-1)) 0) 0) tl)))))) gi_Map ft_Map fo_Map fn_Map (ci := 4) rfl rfl 6 (by decide) gw_246 rfl rfl (fun _ => rfl) (fun _ => rfl) (Nat.le_of_ble_eq_true rfl) rfl d_Map_find_48 ?_
  exact ev_vret rfl d_Map_find_51
def B_Map_find_8   (d : DS) (f : FS) (w : WS) (m : MS) (t0 : Int32) : Option (Unit × (DS × FS × MS)) :=
  if ¬ t0 = (-1) then (B_Map_find_28   ((f_Finder_follow d f t0 3).2) f w m ((f_Finder_follow d f t0 3).1)) else (B_Map_find_28   d f w m (-1))
theorem e_B_Map_find_8 {sc : Nat × (Nat → Int32)} {e0 : mn_E} {tl : List mn_E}    (d : DS) (f : FS) (w : WS) (m : MS) (t0 : Int32) : Ev sc 3 49 0 0 M_Map_find 8 [(0, .ref 8)] [.int t0] (e0 :: (HD d (HF f (HW w (HM m tl))))) (mapR ouV (fun z => (e0 :: (HD z.1 (HF z.2.1 (HW w (HM z.2.2 tl)))))) (B_Map_find_8 d f w m t0)) := by
  unfold B_Map_find_8
  refine ev_istore_n d_Map_find_8 rfl (by decide) rfl ?_
  refine ev_aload_n d_Map_find_9 rfl rfl ?_
  refine ev_iload_n d_Map_find_10 rfl rfl ?_
  refine ev_iconst (v := -1) d_Map_find_11 rfl ?_
  refine ev_icmp_ne (tgt := 19) d_Map_find_12 rfl (fun h1 => ?_) (fun h1 => ?_)
  · rw [if_pos h1]
    refine ev_aload_n d_Map_find_19 rfl rfl ?_
    refine ev_get (v := .ref 5) gi_Map (ci := 4) rfl rfl 1 (by decide) gw_241 rfl d_Map_find_20 ?_
    refine ev_iload_n d_Map_find_23 rfl rfl ?_
    refine ev_iconst (v := 3) d_Map_find_24 rfl ?_
    refine ev_callr (Mc := M_Finder_follow) (v := some (.int ((f_Finder_follow d f t0 3).1))) (h1 := (e0 :: (HD ((f_Finder_follow d f t0 3).2) (HF f (HW w (HM m tl)))))) (k2 := 0) (n2 := 0) (inv_V (q := 5) (av := [.int t0, .int 3]) (rest := [.ref 8]) rfl (ci := 2) rfl d_Map_find_25 gw_762 gw_708 gw_709 mw_Finder_follow nh_Finder_follow pn_Finder_follow rfl) d_Map_find_25 pl_Finder_follow (Nat.le_of_ble_eq_true rfl) (Nat.le_of_ble_eq_true rfl) (Nat.le_of_ble_eq_true rfl) rfl rfl (e_f_Finder_follow (e0 := e0) (tl := (HW w (HM m tl)))  d f t0 3) (Or.inl (len1 (lenHD (lenHF (lenHW (lenHM rfl)))))) ?_
    exact ev_pick [1] rfl (e_B_Map_find_28     ((f_Finder_follow d f t0 3).2) f w m ((f_Finder_follow d f t0 3).1))
  · rw [if_neg h1]
    refine ev_iconst (v := -1) d_Map_find_15 rfl ?_
    refine ev_goto (tgt := 28) d_Map_find_16 rfl ?_
    exact ev_pick [1] rfl (e_B_Map_find_28     d f w m (-1))
def f_Map_find   (d : DS) (f : FS) (w : WS) (m : MS) : Option (Unit × (DS × FS × MS)) :=
  bnd (f_Finder_leaderOf d f 2) (fun q => B_Map_find_8   q.2.1 q.2.2 w m q.1)
theorem e_f_Map_find {sc : Nat × (Nat → Int32)} {e0 : mn_E} {tl : List mn_E}    (d : DS) (f : FS) (w : WS) (m : MS) : Ev sc 3 49 0 0 M_Map_find 0 [(0, .ref 8)] [] (e0 :: (HD d (HF f (HW w (HM m tl))))) (mapR ouV (fun z => (e0 :: (HD z.1 (HF z.2.1 (HW w (HM z.2.2 tl)))))) (f_Map_find d f w m)) := by
  unfold f_Map_find
  refine ev_aload_n d_Map_find_0 rfl rfl ?_
  refine ev_get (v := .ref 5) gi_Map (ci := 4) rfl rfl 1 (by decide) gw_241 rfl d_Map_find_1 ?_
  refine ev_iconst (v := 2) d_Map_find_4 rfl ?_
  refine ev_callB (rc := (f_Finder_leaderOf d f 2)) (ou := ouI) (Hs := (fun z => (e0 :: (HD z.1 (HF z.2 (HW w (HM m tl))))))) (inv_V (q := 5) (av := [.int 2]) (rest := []) rfl (ci := 2) rfl d_Map_find_5 gw_761 gw_654 gw_655 mw_Finder_leaderOf nh_Finder_leaderOf pn_Finder_leaderOf rfl) d_Map_find_5 pl_Finder_leaderOf (Nat.le_of_ble_eq_true rfl) (Nat.le_of_ble_eq_true rfl) (Nat.le_of_ble_eq_true rfl) (e_f_Finder_leaderOf (e0 := e0) (tl := (HW w (HM m tl)))  d f 2) (fun _ => (len1 (lenHD (lenHF (lenHW (lenHM rfl)))))) (fun v z h1 => ⟨_, rfl, ?_⟩)
  exact ev_pick [0] rfl (e_B_Map_find_8     z.1 z.2 w m v)
def f_Map_countTaken   (d : DS) (f : FS) (w : WS) (m : MS) : (Int32 × Unit) :=
  if ¬ (mFir m) = (-1) then (if ¬ (mSnd m) = (-1) then ((2, ())) else ((1, ()))) else ((0, ()))
theorem e_f_Map_countTaken {sc : Nat × (Nat → Int32)} {e0 : mn_E} {tl : List mn_E}    (d : DS) (f : FS) (w : WS) (m : MS) : Ev sc 0 0 0 0 M_Map_countTaken 0 [(0, .ref 8)] [] (e0 :: (HD d (HF f (HW w (HM m tl))))) (mapT ouI (fun z => (e0 :: (HD d (HF f (HW w (HM m tl)))))) (f_Map_countTaken d f w m)) := by
  unfold f_Map_countTaken
  refine ev_aload_n d_Map_countTaken_0 rfl rfl ?_
  refine ev_get (v := .int (mFir m)) gi_Map (ci := 4) rfl rfl 3 (by decide) gw_243 rfl d_Map_countTaken_1 ?_
  refine ev_iconst (v := -1) d_Map_countTaken_4 rfl ?_
  refine ev_icmp_ne (tgt := 12) d_Map_countTaken_5 rfl (fun h1 => ?_) (fun h1 => ?_)
  · rw [if_pos h1]
    refine ev_aload_n d_Map_countTaken_12 rfl rfl ?_
    refine ev_get (v := .int (mSnd m)) gi_Map (ci := 4) rfl rfl 4 (by decide) gw_244 rfl d_Map_countTaken_13 ?_
    refine ev_iconst (v := -1) d_Map_countTaken_16 rfl ?_
    refine ev_icmp_ne (tgt := 24) d_Map_countTaken_17 rfl (fun h2 => ?_) (fun h2 => ?_)
    · rw [if_pos h2]
      refine ev_iconst (v := 2) d_Map_countTaken_24 rfl ?_
      exact ev_zret (ty := .int) rfl rfl d_Map_countTaken_25
    · rw [if_neg h2]
      refine ev_iconst (v := 1) d_Map_countTaken_20 rfl ?_
      refine ev_goto (tgt := 25) d_Map_countTaken_21 rfl ?_
      exact ev_zret (ty := .int) rfl rfl d_Map_countTaken_25
  · rw [if_neg h1]
    refine ev_iconst (v := 0) d_Map_countTaken_8 rfl ?_
    refine ev_goto (tgt := 25) d_Map_countTaken_9 rfl ?_
    exact ev_zret (ty := .int) rfl rfl d_Map_countTaken_25
def B_Map_hintsFree_38   (d : DS) (f : FS) (w : WS) (m : MS) : (Int32 × Unit) :=
  (0, ())
theorem e_B_Map_hintsFree_38 {sc : Nat × (Nat → Int32)} {e0 : mn_E} {tl : List mn_E}    (d : DS) (f : FS) (w : WS) (m : MS) : Ev sc 2 29 0 0 M_Map_hintsFree 38 [] [] (e0 :: (HD d (HF f (HW w (HM m tl))))) (mapT ouI (fun z => (e0 :: (HD d (HF f (HW w (HM m tl)))))) (B_Map_hintsFree_38 d f w m)) := by
  unfold B_Map_hintsFree_38
  refine ev_iconst (v := 0) d_Map_hintsFree_38 rfl ?_
  exact ev_zret (ty := .boolean) rfl rfl d_Map_hintsFree_39
def f_Map_hintsFree   (d : DS) (f : FS) (w : WS) (m : MS) (x1 : Int32) : (Int32 × Unit) :=
  if (mPag m) = (-1) then (B_Map_hintsFree_38   d f w m) else (if ¬ ((((f_Disk_byteAt d (mPag m) (x1 / 8)).1) >>> ((x1 - x1 / 8 * 8) &&& 31)) &&& 1) = 1 then (B_Map_hintsFree_38   d f w m) else ((1, ())))
theorem e_f_Map_hintsFree {sc : Nat × (Nat → Int32)} {e0 : mn_E} {tl : List mn_E}    (d : DS) (f : FS) (w : WS) (m : MS) (x1 : Int32) : Ev sc 2 29 0 0 M_Map_hintsFree 0 [(0, .ref 8), (1, .int x1)] [] (e0 :: (HD d (HF f (HW w (HM m tl))))) (mapT ouI (fun z => (e0 :: (HD d (HF f (HW w (HM m tl)))))) (f_Map_hintsFree d f w m x1)) := by
  unfold f_Map_hintsFree
  refine ev_aload_n d_Map_hintsFree_0 rfl rfl ?_
  refine ev_get (v := .int (mPag m)) gi_Map (ci := 4) rfl rfl 2 (by decide) gw_242 rfl d_Map_hintsFree_1 ?_
  refine ev_iconst (v := -1) d_Map_hintsFree_4 rfl ?_
  refine ev_icmp_eq (tgt := 38) d_Map_hintsFree_5 rfl (fun h1 => ?_) (fun h1 => ?_)
  · rw [if_pos h1]
    exact ev_pick [] rfl (e_B_Map_hintsFree_38     d f w m)
  · rw [if_neg h1]
    refine ev_aload_n d_Map_hintsFree_8 rfl rfl ?_
    refine ev_get (v := .ref 1) gi_Map (ci := 4) rfl rfl 0 (by decide) gw_240 rfl d_Map_hintsFree_9 ?_
    refine ev_aload_n d_Map_hintsFree_12 rfl rfl ?_
    refine ev_get (v := .int (mPag m)) gi_Map (ci := 4) rfl rfl 2 (by decide) gw_242 rfl d_Map_hintsFree_13 ?_
    refine ev_iload_n d_Map_hintsFree_16 rfl rfl ?_
    refine ev_bipush (v := 8) d_Map_hintsFree_17 rfl ?_
    refine ev_idiv d_Map_hintsFree_19 (by decide) ?_
    refine ev_callr (Mc := M_Disk_byteAt) (v := some (.int ((f_Disk_byteAt d (mPag m) (x1 / 8)).1))) (h1 := (e0 :: (HD d (HF f (HW w (HM m tl)))))) (k2 := 0) (n2 := 0) (inv_V (q := 1) (av := [.int (mPag m), .int (x1 / 8)]) (rest := []) rfl (ci := 1) rfl d_Map_hintsFree_20 gw_771 gw_412 gw_413 mw_Disk_byteAt nh_Disk_byteAt pn_Disk_byteAt rfl) d_Map_hintsFree_20 pl_Disk_byteAt (Nat.le_of_ble_eq_true rfl) (Nat.le_of_ble_eq_true rfl) (Nat.le_of_ble_eq_true rfl) rfl rfl (e_f_Disk_byteAt (e0 := e0) (tl := (HF f (HW w (HM m tl))))  d (mPag m) (x1 / 8)) (Or.inl (len1 (lenHD (lenHF (lenHW (lenHM rfl)))))) ?_
    refine ev_iload_n d_Map_hintsFree_23 rfl rfl ?_
    refine ev_bipush (v := 8) d_Map_hintsFree_24 rfl ?_
    refine ev_irem d_Map_hintsFree_26 (by decide) ?_
    refine ev_ishr d_Map_hintsFree_27 ?_
    refine ev_iconst (v := 1) d_Map_hintsFree_28 rfl ?_
    refine ev_iand d_Map_hintsFree_29 ?_
    refine ev_iconst (v := 1) d_Map_hintsFree_30 rfl ?_
    refine ev_icmp_ne (tgt := 38) d_Map_hintsFree_31 rfl (fun h2 => ?_) (fun h2 => ?_)
    · rw [if_pos h2]
      exact ev_pick [] rfl (e_B_Map_hintsFree_38     d f w m)
    · rw [if_neg h2]
      refine ev_iconst (v := 1) d_Map_hintsFree_34 rfl ?_
      refine ev_goto (tgt := 39) d_Map_hintsFree_35 rfl ?_
      exact ev_zret (ty := .boolean) rfl rfl d_Map_hintsFree_39
def B_Map_takeOrMiss_30   (d : DS) (f : FS) (w : WS) (m : MS) : (Unit × (DS × MS)) :=
  ((), (d, m))
theorem e_B_Map_takeOrMiss_30 {sc : Nat × (Nat → Int32)} {e0 : mn_E} {tl : List mn_E}    (d : DS) (f : FS) (w : WS) (m : MS) : Ev sc 2 28 0 0 M_Map_takeOrMiss 30 [] [] (e0 :: (HD d (HF f (HW w (HM m tl))))) (mapT ouV (fun z => (e0 :: (HD z.1 (HF f (HW w (HM z.2 tl)))))) (B_Map_takeOrMiss_30 d f w m)) := by
  unfold B_Map_takeOrMiss_30
  refine ev_goto (tgt := 54) d_Map_takeOrMiss_30 rfl ?_
  exact ev_vret rfl d_Map_takeOrMiss_54
def f_Map_takeOrMiss   (d : DS) (f : FS) (w : WS) (m : MS) (x1 : Int32) : (Unit × (DS × MS)) :=
  if ¬ ((f_Disk_isFree d x1).1) = 0 then (if ¬ (mFir (mSTak m ((mTak m) ||| (1 <<< (x1.toInt64 &&& 63))))) = (-1) then (((), (d, (mSSnd (mSTak m ((mTak m) ||| (1 <<< (x1.toInt64 &&& 63)))) x1)))) else (((), (d, (mSFir (mSTak m ((mTak m) ||| (1 <<< (x1.toInt64 &&& 63)))) x1))))) else (B_Map_takeOrMiss_30   ((f_Disk_countMiss d).2) f w (mSTak m ((mTak m) ||| (1 <<< (x1.toInt64 &&& 63)))))
theorem e_f_Map_takeOrMiss {sc : Nat × (Nat → Int32)} {e0 : mn_E} {tl : List mn_E}    (d : DS) (f : FS) (w : WS) (m : MS) (x1 : Int32) : Ev sc 2 28 0 0 M_Map_takeOrMiss 0 [(0, .ref 8), (1, .int x1)] [] (e0 :: (HD d (HF f (HW w (HM m tl))))) (mapT ouV (fun z => (e0 :: (HD z.1 (HF f (HW w (HM z.2 tl)))))) (f_Map_takeOrMiss d f w m x1)) := by
  unfold f_Map_takeOrMiss
  refine ev_aload_n d_Map_takeOrMiss_0 rfl rfl ?_
  refine ev_dup d_Map_takeOrMiss_1 rfl ?_
  refine ev_get (v := .long (mTak m)) gi_Map (ci := 4) rfl rfl 5 (by decide) gw_245 rfl d_Map_takeOrMiss_2 ?_
  refine ev_lconst (v := 1) d_Map_takeOrMiss_5 rfl ?_
  refine ev_iload_n d_Map_takeOrMiss_6 rfl rfl ?_
  refine ev_lshl d_Map_takeOrMiss_7 ?_
  refine ev_lor d_Map_takeOrMiss_8 ?_
  refine ev_put (h2 := (e0 :: (HD d (HF f (HW w (HM (mSTak m ((mTak m) ||| (1 <<< (x1.toInt64 &&& 63)))) tl)))))) gi_Map ft_Map fo_Map fn_Map (ci := 4) rfl rfl 5 (by decide) gw_245 rfl rfl (fun _ => rfl) (fun _ => rfl) (Nat.le_of_ble_eq_true rfl) rfl d_Map_takeOrMiss_9 ?_
  refine ev_aload_n d_Map_takeOrMiss_12 rfl rfl ?_
  refine ev_get (v := .ref 1) gi_Map (ci := 4) rfl rfl 0 (by decide) gw_240 rfl d_Map_takeOrMiss_13 ?_
  refine ev_iload_n d_Map_takeOrMiss_16 rfl rfl ?_
  refine ev_callr (Mc := M_Disk_isFree) (v := some (.int ((f_Disk_isFree d x1).1))) (h1 := (e0 :: (HD d (HF f (HW w (HM (mSTak m ((mTak m) ||| (1 <<< (x1.toInt64 &&& 63)))) tl)))))) (k2 := 0) (n2 := 0) (inv_V (q := 1) (av := [.int x1]) (rest := []) rfl (ci := 1) rfl d_Map_takeOrMiss_17 gw_776 gw_206 gw_207 mw_Disk_isFree nh_Disk_isFree pn_Disk_isFree rfl) d_Map_takeOrMiss_17 pl_Disk_isFree (Nat.le_of_ble_eq_true rfl) (Nat.le_of_ble_eq_true rfl) (Nat.le_of_ble_eq_true rfl) rfl rfl (e_f_Disk_isFree (e0 := e0) (tl := (HF f (HW w (HM (mSTak m ((mTak m) ||| (1 <<< (x1.toInt64 &&& 63)))) tl))))  d x1) (Or.inl (len1 (lenHD (lenHF (lenHW (lenHM rfl)))))) ?_
  refine ev_if_ne (tgt := 33) d_Map_takeOrMiss_20 rfl (fun h1 => ?_) (fun h1 => ?_)
  · rw [if_pos h1]
    refine ev_aload_n d_Map_takeOrMiss_33 rfl rfl ?_
    refine ev_get (v := .int (mFir (mSTak m ((mTak m) ||| (1 <<< (x1.toInt64 &&& 63)))))) gi_Map (ci := 4) rfl rfl 3 (by decide) gw_243 rfl d_Map_takeOrMiss_34 ?_
    refine ev_iconst (v := -1) d_Map_takeOrMiss_37 rfl ?_
    refine ev_icmp_ne (tgt := 49) d_Map_takeOrMiss_38 rfl (fun h2 => ?_) (fun h2 => ?_)
    · rw [if_pos h2]
      refine ev_aload_n d_Map_takeOrMiss_49 rfl rfl ?_
      refine ev_iload_n d_Map_takeOrMiss_50 rfl rfl ?_
      refine ev_put (h2 := (e0 :: (HD d (HF f (HW w (HM (mSSnd (mSTak m ((mTak m) ||| (1 <<< (x1.toInt64 &&& 63)))) x1) tl)))))) gi_Map ft_Map fo_Map fn_Map (ci := 4) rfl rfl 4 (by decide) gw_244 rfl rfl (fun _ => rfl) (fun _ => rfl) (Nat.le_of_ble_eq_true rfl) rfl d_Map_takeOrMiss_51 ?_
      exact ev_vret rfl d_Map_takeOrMiss_54
    · rw [if_neg h2]
      refine ev_aload_n d_Map_takeOrMiss_41 rfl rfl ?_
      refine ev_iload_n d_Map_takeOrMiss_42 rfl rfl ?_
      refine ev_put (h2 := (e0 :: (HD d (HF f (HW w (HM (mSFir (mSTak m ((mTak m) ||| (1 <<< (x1.toInt64 &&& 63)))) x1) tl)))))) gi_Map ft_Map fo_Map fn_Map (ci := 4) rfl rfl 3 (by decide) gw_243 rfl rfl (fun _ => rfl) (fun _ => rfl) (Nat.le_of_ble_eq_true rfl) rfl d_Map_takeOrMiss_43 ?_
      refine ev_goto (tgt := 54) d_Map_takeOrMiss_46 rfl ?_
      exact ev_vret rfl d_Map_takeOrMiss_54
  · rw [if_neg h1]
    refine ev_aload_n d_Map_takeOrMiss_23 rfl rfl ?_
    refine ev_get (v := .ref 1) gi_Map (ci := 4) rfl rfl 0 (by decide) gw_240 rfl d_Map_takeOrMiss_24 ?_
    refine ev_callr (Mc := M_Disk_countMiss) (v := none) (h1 := (e0 :: (HD ((f_Disk_countMiss d).2) (HF f (HW w (HM (mSTak m ((mTak m) ||| (1 <<< (x1.toInt64 &&& 63)))) tl)))))) (k2 := 0) (n2 := 0) (inv_V (q := 1) (av := []) (rest := []) rfl (ci := 1) rfl d_Map_takeOrMiss_27 gw_777 gw_778 gw_779 mw_Disk_countMiss nh_Disk_countMiss pn_Disk_countMiss rfl) d_Map_takeOrMiss_27 pl_Disk_countMiss (Nat.le_of_ble_eq_true rfl) (Nat.le_of_ble_eq_true rfl) (Nat.le_of_ble_eq_true rfl) rfl rfl (e_f_Disk_countMiss (e0 := e0) (tl := (HF f (HW w (HM (mSTak m ((mTak m) ||| (1 <<< (x1.toInt64 &&& 63)))) tl))))  d ) (Or.inl (len1 (lenHD (lenHF (lenHW (lenHM rfl)))))) ?_
    exact ev_pick [] rfl (e_B_Map_takeOrMiss_30     ((f_Disk_countMiss d).2) f w (mSTak m ((mTak m) ||| (1 <<< (x1.toInt64 &&& 63)))))
def B_Map_take_85   (d : DS) (f : FS) (w : WS) (m : MS) (x1 : Int32) : Option (Int32 × (DS × FS × MS)) :=
  if ¬ ((f_Map_countTaken d f w m).1) = x1 then (some (0, (d, f, m))) else (some (1, (d, f, m)))
theorem e_B_Map_take_85 {sc : Nat × (Nat → Int32)} {e0 : mn_E} {tl : List mn_E}    (d : DS) (f : FS) (w : WS) (m : MS) (x1 : Int32) : Ev sc 4 62 0 0 M_Map_take 85 [(0, .ref 8), (1, .int x1)] [] (e0 :: (HD d (HF f (HW w (HM m tl))))) (mapR ouI (fun z => (e0 :: (HD z.1 (HF z.2.1 (HW w (HM z.2.2 tl)))))) (B_Map_take_85 d f w m x1)) := by
  unfold B_Map_take_85
  refine ev_aload_n d_Map_take_85 rfl rfl ?_
  refine ev_callr (Mc := M_Map_countTaken) (v := some (.int ((f_Map_countTaken d f w m).1))) (h1 := (e0 :: (HD d (HF f (HW w (HM m tl)))))) (k2 := 0) (n2 := 0) (inv_V (q := 8) (av := []) (rest := []) rfl (ci := 4) rfl d_Map_take_86 gw_763 gw_765 gw_33 mw_Map_countTaken nh_Map_countTaken pn_Map_countTaken rfl) d_Map_take_86 pl_Map_countTaken (Nat.le_of_ble_eq_true rfl) (Nat.le_of_ble_eq_true rfl) (Nat.le_of_ble_eq_true rfl) rfl rfl (e_f_Map_countTaken (e0 := e0) (tl := tl)  d f w m ) (Or.inl (len1 (lenHD (lenHF (lenHW (lenHM rfl)))))) ?_
  refine ev_iload_n d_Map_take_89 rfl rfl ?_
  refine ev_icmp_ne (tgt := 97) d_Map_take_90 rfl (fun h1 => ?_) (fun h1 => ?_)
  · rw [if_pos h1]
    refine ev_iconst (v := 0) d_Map_take_97 rfl ?_
    exact ev_zret (ty := .boolean) rfl rfl d_Map_take_98
  · rw [if_neg h1]
    refine ev_iconst (v := 1) d_Map_take_93 rfl ?_
    refine ev_goto (tgt := 98) d_Map_take_94 rfl ?_
    exact ev_zret (ty := .boolean) rfl rfl d_Map_take_98
def B_Map_take_79  (r41 : DS → FS → WS → MS → Int32 → Int32 → Option (Int32 × (DS × FS × MS))) (d : DS) (f : FS) (w : WS) (m : MS) (x1 : Int32) (x2 : Int32) : Option (Int32 × (DS × FS × MS)) :=
  r41 d f w m x1 (x2 + 1)
theorem e_B_Map_take_79 {sc : Nat × (Nat → Int32)} {e0 : mn_E} {tl : List mn_E}  (r41 : DS → FS → WS → MS → Int32 → Int32 → Option (Int32 × (DS × FS × MS))) (hr41 : ∀ (d : DS) (f : FS) (w : WS) (m : MS) (x1 : Int32) (x2 : Int32), Ev sc 4 62 0 0 M_Map_take 41 [(0, .ref 8), (1, .int x1), (2, .int x2)] [] (e0 :: (HD d (HF f (HW w (HM m tl))))) (mapR ouI (fun z => (e0 :: (HD z.1 (HF z.2.1 (HW w (HM z.2.2 tl)))))) (r41 d f w m x1 x2))) (d : DS) (f : FS) (w : WS) (m : MS) (x1 : Int32) (x2 : Int32) : Ev sc 4 62 0 0 M_Map_take 79 [(0, .ref 8), (1, .int x1), (2, .int x2)] [] (e0 :: (HD d (HF f (HW w (HM m tl))))) (mapR ouI (fun z => (e0 :: (HD z.1 (HF z.2.1 (HW w (HM z.2.2 tl)))))) (B_Map_take_79 r41 d f w m x1 x2)) := by
  unfold B_Map_take_79
  refine ev_iinc (v := (x2 + 1)) d_Map_take_79 rfl rfl (by decide) rfl ?_
  refine ev_goto (tgt := 41) d_Map_take_82 rfl ?_
  exact ev_pick [1, 2, 0] rfl (hr41 d f w m x1 (x2 + 1))
def L_Map_take_41   : Nat → DS → FS → WS → MS → Int32 → Int32 → Option (Int32 × (DS × FS × MS))
  | 0, _, _, _, _, _, _ => none
  | n + 1, d, f, w, m, x1, x2 =>
  if 40 ≤ x2 then (B_Map_take_85   d f w m x1) else (if x1 ≤ ((f_Map_countTaken d f w m).1) then (B_Map_take_85   d f w m x1) else (if ((f_Disk_isFree d x2).1) = 0 then (B_Map_take_79  (L_Map_take_41 n) d f w m x1 x2) else (if x2 = (mFir m) then (B_Map_take_79  (L_Map_take_41 n) d f w m x1 x2) else (B_Map_take_79  (L_Map_take_41 n) (((f_Map_takeOrMiss d f w m x2).2).1) f w (((f_Map_takeOrMiss d f w m x2).2).2) x1 x2))))
theorem e_L_Map_take_41 {sc : Nat × (Nat → Int32)} {e0 : mn_E} {tl : List mn_E}    : ∀ (n : Nat) (d : DS) (f : FS) (w : WS) (m : MS) (x1 : Int32) (x2 : Int32), Ev sc 4 62 0 0 M_Map_take 41 [(0, .ref 8), (1, .int x1), (2, .int x2)] [] (e0 :: (HD d (HF f (HW w (HM m tl))))) (mapR ouI (fun z => (e0 :: (HD z.1 (HF z.2.1 (HW w (HM z.2.2 tl)))))) (L_Map_take_41   n d f w m x1 x2)) := by
  intro n
  induction n with
  | zero => intro d f w m x1 x2; exact ev_none
  | succ n ih =>
    intro d f w m x1 x2
    rw [L_Map_take_41]
    refine ev_iload_n d_Map_take_41 rfl rfl ?_
    refine ev_bipush (v := 40) d_Map_take_42 rfl ?_
    refine ev_icmp_ge (tgt := 85) d_Map_take_44 rfl (fun h1 => ?_) (fun h1 => ?_)
    · rw [if_pos h1]
      exact ev_pick [0, 1] rfl (e_B_Map_take_85     d f w m x1)
    · rw [if_neg h1]
      refine ev_aload_n d_Map_take_47 rfl rfl ?_
      refine ev_callr (Mc := M_Map_countTaken) (v := some (.int ((f_Map_countTaken d f w m).1))) (h1 := (e0 :: (HD d (HF f (HW w (HM m tl)))))) (k2 := 0) (n2 := 0) (inv_V (q := 8) (av := []) (rest := []) rfl (ci := 4) rfl d_Map_take_48 gw_763 gw_765 gw_33 mw_Map_countTaken nh_Map_countTaken pn_Map_countTaken rfl) d_Map_take_48 pl_Map_countTaken (Nat.le_of_ble_eq_true rfl) (Nat.le_of_ble_eq_true rfl) (Nat.le_of_ble_eq_true rfl) rfl rfl (e_f_Map_countTaken (e0 := e0) (tl := tl)  d f w m ) (Or.inl (len1 (lenHD (lenHF (lenHW (lenHM rfl)))))) ?_
      refine ev_iload_n d_Map_take_51 rfl rfl ?_
      refine ev_icmp_ge (tgt := 85) d_Map_take_52 rfl (fun h2 => ?_) (fun h2 => ?_)
      · rw [if_pos h2]
        exact ev_pick [0, 1] rfl (e_B_Map_take_85     d f w m x1)
      · rw [if_neg h2]
        refine ev_aload_n d_Map_take_55 rfl rfl ?_
        refine ev_get (v := .ref 1) gi_Map (ci := 4) rfl rfl 0 (by decide) gw_240 rfl d_Map_take_56 ?_
        refine ev_iload_n d_Map_take_59 rfl rfl ?_
        refine ev_callr (Mc := M_Disk_isFree) (v := some (.int ((f_Disk_isFree d x2).1))) (h1 := (e0 :: (HD d (HF f (HW w (HM m tl)))))) (k2 := 0) (n2 := 0) (inv_V (q := 1) (av := [.int x2]) (rest := []) rfl (ci := 1) rfl d_Map_take_60 gw_776 gw_206 gw_207 mw_Disk_isFree nh_Disk_isFree pn_Disk_isFree rfl) d_Map_take_60 pl_Disk_isFree (Nat.le_of_ble_eq_true rfl) (Nat.le_of_ble_eq_true rfl) (Nat.le_of_ble_eq_true rfl) rfl rfl (e_f_Disk_isFree (e0 := e0) (tl := (HF f (HW w (HM m tl))))  d x2) (Or.inl (len1 (lenHD (lenHF (lenHW (lenHM rfl)))))) ?_
        refine ev_if_eq (tgt := 79) d_Map_take_63 rfl (fun h3 => ?_) (fun h3 => ?_)
        · rw [if_pos h3]
          exact ev_pick [0, 1, 2] rfl (e_B_Map_take_79   (L_Map_take_41 n) ih d f w m x1 x2)
        · rw [if_neg h3]
          refine ev_iload_n d_Map_take_66 rfl rfl ?_
          refine ev_aload_n d_Map_take_67 rfl rfl ?_
          refine ev_get (v := .int (mFir m)) gi_Map (ci := 4) rfl rfl 3 (by decide) gw_243 rfl d_Map_take_68 ?_
          refine ev_icmp_eq (tgt := 79) d_Map_take_71 rfl (fun h4 => ?_) (fun h4 => ?_)
          · rw [if_pos h4]
            exact ev_pick [0, 1, 2] rfl (e_B_Map_take_79   (L_Map_take_41 n) ih d f w m x1 x2)
          · rw [if_neg h4]
            refine ev_aload_n d_Map_take_74 rfl rfl ?_
            refine ev_iload_n d_Map_take_75 rfl rfl ?_
            refine ev_callr (Mc := M_Map_takeOrMiss) (v := none) (h1 := (e0 :: (HD (((f_Map_takeOrMiss d f w m x2).2).1) (HF f (HW w (HM (((f_Map_takeOrMiss d f w m x2).2).2) tl)))))) (k2 := 0) (n2 := 0) (inv_V (q := 8) (av := [.int x2]) (rest := []) rfl (ci := 4) rfl d_Map_take_76 gw_772 gw_774 gw_35 mw_Map_takeOrMiss nh_Map_takeOrMiss pn_Map_takeOrMiss rfl) d_Map_take_76 pl_Map_takeOrMiss (Nat.le_of_ble_eq_true rfl) (Nat.le_of_ble_eq_true rfl) (Nat.le_of_ble_eq_true rfl) rfl rfl (e_f_Map_takeOrMiss (e0 := e0) (tl := tl)  d f w m x2) (Or.inl (len1 (lenHD (lenHF (lenHW (lenHM rfl)))))) ?_
            exact ev_pick [0, 1, 2] rfl (e_B_Map_take_79   (L_Map_take_41 n) ih (((f_Map_takeOrMiss d f w m x2).2).1) f w (((f_Map_takeOrMiss d f w m x2).2).2) x1 x2)
def B_Map_take_39   (d : DS) (f : FS) (w : WS) (m : MS) (x1 : Int32) : Option (Int32 × (DS × FS × MS)) :=
  L_Map_take_41   100 d f w m x1 0
theorem e_B_Map_take_39 {sc : Nat × (Nat → Int32)} {e0 : mn_E} {tl : List mn_E}    (d : DS) (f : FS) (w : WS) (m : MS) (x1 : Int32) : Ev sc 4 62 0 0 M_Map_take 39 [(0, .ref 8), (1, .int x1)] [] (e0 :: (HD d (HF f (HW w (HM m tl))))) (mapR ouI (fun z => (e0 :: (HD z.1 (HF z.2.1 (HW w (HM z.2.2 tl)))))) (B_Map_take_39 d f w m x1)) := by
  unfold B_Map_take_39
  refine ev_iconst (v := 0) d_Map_take_39 rfl ?_
  refine ev_istore_n d_Map_take_40 rfl (by decide) rfl ?_
  exact ev_pick [1, 2, 0] rfl (e_L_Map_take_41     100 d f w m x1 0)
def B_Map_take_33  (r6 : DS → FS → WS → MS → Int32 → Int32 → Option (Int32 × (DS × FS × MS))) (d : DS) (f : FS) (w : WS) (m : MS) (x1 : Int32) (x2 : Int32) : Option (Int32 × (DS × FS × MS)) :=
  r6 d f w m x1 (x2 + 1)
theorem e_B_Map_take_33 {sc : Nat × (Nat → Int32)} {e0 : mn_E} {tl : List mn_E}  (r6 : DS → FS → WS → MS → Int32 → Int32 → Option (Int32 × (DS × FS × MS))) (hr6 : ∀ (d : DS) (f : FS) (w : WS) (m : MS) (x1 : Int32) (x2 : Int32), Ev sc 4 62 0 0 M_Map_take 6 [(0, .ref 8), (1, .int x1), (2, .int x2)] [] (e0 :: (HD d (HF f (HW w (HM m tl))))) (mapR ouI (fun z => (e0 :: (HD z.1 (HF z.2.1 (HW w (HM z.2.2 tl)))))) (r6 d f w m x1 x2))) (d : DS) (f : FS) (w : WS) (m : MS) (x1 : Int32) (x2 : Int32) : Ev sc 4 62 0 0 M_Map_take 33 [(0, .ref 8), (1, .int x1), (2, .int x2)] [] (e0 :: (HD d (HF f (HW w (HM m tl))))) (mapR ouI (fun z => (e0 :: (HD z.1 (HF z.2.1 (HW w (HM z.2.2 tl)))))) (B_Map_take_33 r6 d f w m x1 x2)) := by
  unfold B_Map_take_33
  refine ev_iinc (v := (x2 + 1)) d_Map_take_33 rfl rfl (by decide) rfl ?_
  refine ev_goto (tgt := 6) d_Map_take_36 rfl ?_
  exact ev_pick [1, 2, 0] rfl (hr6 d f w m x1 (x2 + 1))
def L_Map_take_6   : Nat → DS → FS → WS → MS → Int32 → Int32 → Option (Int32 × (DS × FS × MS))
  | 0, _, _, _, _, _, _ => none
  | n + 1, d, f, w, m, x1, x2 =>
  if 40 ≤ x2 then (B_Map_take_39   d f w m x1) else (if x1 ≤ ((f_Map_countTaken d f w m).1) then (B_Map_take_39   d f w m x1) else (if ((f_Map_hintsFree d f w m x2).1) = 0 then (B_Map_take_33  (L_Map_take_6 n) d f w m x1 x2) else (B_Map_take_33  (L_Map_take_6 n) (((f_Map_takeOrMiss d f w m x2).2).1) f w (((f_Map_takeOrMiss d f w m x2).2).2) x1 x2)))
theorem e_L_Map_take_6 {sc : Nat × (Nat → Int32)} {e0 : mn_E} {tl : List mn_E}    : ∀ (n : Nat) (d : DS) (f : FS) (w : WS) (m : MS) (x1 : Int32) (x2 : Int32), Ev sc 4 62 0 0 M_Map_take 6 [(0, .ref 8), (1, .int x1), (2, .int x2)] [] (e0 :: (HD d (HF f (HW w (HM m tl))))) (mapR ouI (fun z => (e0 :: (HD z.1 (HF z.2.1 (HW w (HM z.2.2 tl)))))) (L_Map_take_6   n d f w m x1 x2)) := by
  intro n
  induction n with
  | zero => intro d f w m x1 x2; exact ev_none
  | succ n ih =>
    intro d f w m x1 x2
    rw [L_Map_take_6]
    refine ev_iload_n d_Map_take_6 rfl rfl ?_
    refine ev_bipush (v := 40) d_Map_take_7 rfl ?_
    refine ev_icmp_ge (tgt := 39) d_Map_take_9 rfl (fun h1 => ?_) (fun h1 => ?_)
    · rw [if_pos h1]
      exact ev_pick [0, 1] rfl (e_B_Map_take_39     d f w m x1)
    · rw [if_neg h1]
      refine ev_aload_n d_Map_take_12 rfl rfl ?_
      refine ev_callr (Mc := M_Map_countTaken) (v := some (.int ((f_Map_countTaken d f w m).1))) (h1 := (e0 :: (HD d (HF f (HW w (HM m tl)))))) (k2 := 0) (n2 := 0) (inv_V (q := 8) (av := []) (rest := []) rfl (ci := 4) rfl d_Map_take_13 gw_763 gw_765 gw_33 mw_Map_countTaken nh_Map_countTaken pn_Map_countTaken rfl) d_Map_take_13 pl_Map_countTaken (Nat.le_of_ble_eq_true rfl) (Nat.le_of_ble_eq_true rfl) (Nat.le_of_ble_eq_true rfl) rfl rfl (e_f_Map_countTaken (e0 := e0) (tl := tl)  d f w m ) (Or.inl (len1 (lenHD (lenHF (lenHW (lenHM rfl)))))) ?_
      refine ev_iload_n d_Map_take_16 rfl rfl ?_
      refine ev_icmp_ge (tgt := 39) d_Map_take_17 rfl (fun h2 => ?_) (fun h2 => ?_)
      · rw [if_pos h2]
        exact ev_pick [0, 1] rfl (e_B_Map_take_39     d f w m x1)
      · rw [if_neg h2]
        refine ev_aload_n d_Map_take_20 rfl rfl ?_
        refine ev_iload_n d_Map_take_21 rfl rfl ?_
        refine ev_callr (Mc := M_Map_hintsFree) (v := some (.int ((f_Map_hintsFree d f w m x2).1))) (h1 := (e0 :: (HD d (HF f (HW w (HM m tl)))))) (k2 := 0) (n2 := 0) (inv_V (q := 8) (av := [.int x2]) (rest := []) rfl (ci := 4) rfl d_Map_take_22 gw_767 gw_769 gw_34 mw_Map_hintsFree nh_Map_hintsFree pn_Map_hintsFree rfl) d_Map_take_22 pl_Map_hintsFree (Nat.le_of_ble_eq_true rfl) (Nat.le_of_ble_eq_true rfl) (Nat.le_of_ble_eq_true rfl) rfl rfl (e_f_Map_hintsFree (e0 := e0) (tl := tl)  d f w m x2) (Or.inl (len1 (lenHD (lenHF (lenHW (lenHM rfl)))))) ?_
        refine ev_if_eq (tgt := 33) d_Map_take_25 rfl (fun h3 => ?_) (fun h3 => ?_)
        · rw [if_pos h3]
          exact ev_pick [0, 1, 2] rfl (e_B_Map_take_33   (L_Map_take_6 n) ih d f w m x1 x2)
        · rw [if_neg h3]
          refine ev_aload_n d_Map_take_28 rfl rfl ?_
          refine ev_iload_n d_Map_take_29 rfl rfl ?_
          refine ev_callr (Mc := M_Map_takeOrMiss) (v := none) (h1 := (e0 :: (HD (((f_Map_takeOrMiss d f w m x2).2).1) (HF f (HW w (HM (((f_Map_takeOrMiss d f w m x2).2).2) tl)))))) (k2 := 0) (n2 := 0) (inv_V (q := 8) (av := [.int x2]) (rest := []) rfl (ci := 4) rfl d_Map_take_30 gw_772 gw_774 gw_35 mw_Map_takeOrMiss nh_Map_takeOrMiss pn_Map_takeOrMiss rfl) d_Map_take_30 pl_Map_takeOrMiss (Nat.le_of_ble_eq_true rfl) (Nat.le_of_ble_eq_true rfl) (Nat.le_of_ble_eq_true rfl) rfl rfl (e_f_Map_takeOrMiss (e0 := e0) (tl := tl)  d f w m x2) (Or.inl (len1 (lenHD (lenHF (lenHW (lenHM rfl)))))) ?_
          exact ev_pick [0, 1, 2] rfl (e_B_Map_take_33   (L_Map_take_6 n) ih (((f_Map_takeOrMiss d f w m x2).2).1) f w (((f_Map_takeOrMiss d f w m x2).2).2) x1 x2)
def B_Map_take_4   (d : DS) (f : FS) (w : WS) (m : MS) (x1 : Int32) : Option (Int32 × (DS × FS × MS)) :=
  L_Map_take_6   100 d f w m x1 0
theorem e_B_Map_take_4 {sc : Nat × (Nat → Int32)} {e0 : mn_E} {tl : List mn_E}    (d : DS) (f : FS) (w : WS) (m : MS) (x1 : Int32) : Ev sc 4 62 0 0 M_Map_take 4 [(0, .ref 8), (1, .int x1)] [] (e0 :: (HD d (HF f (HW w (HM m tl))))) (mapR ouI (fun z => (e0 :: (HD z.1 (HF z.2.1 (HW w (HM z.2.2 tl)))))) (B_Map_take_4 d f w m x1)) := by
  unfold B_Map_take_4
  refine ev_iconst (v := 0) d_Map_take_4 rfl ?_
  refine ev_istore_n d_Map_take_5 rfl (by decide) rfl ?_
  exact ev_pick [1, 2, 0] rfl (e_L_Map_take_6     100 d f w m x1 0)
def f_Map_take   (d : DS) (f : FS) (w : WS) (m : MS) (x1 : Int32) : Option (Int32 × (DS × FS × MS)) :=
  bnd (f_Map_find d f w m) (fun q => B_Map_take_4   q.2.1 q.2.2.1 w q.2.2.2 x1)
theorem e_f_Map_take {sc : Nat × (Nat → Int32)} {e0 : mn_E} {tl : List mn_E}    (d : DS) (f : FS) (w : WS) (m : MS) (x1 : Int32) : Ev sc 4 62 0 0 M_Map_take 0 [(0, .ref 8), (1, .int x1)] [] (e0 :: (HD d (HF f (HW w (HM m tl))))) (mapR ouI (fun z => (e0 :: (HD z.1 (HF z.2.1 (HW w (HM z.2.2 tl)))))) (f_Map_take d f w m x1)) := by
  unfold f_Map_take
  refine ev_aload_n d_Map_take_0 rfl rfl ?_
  refine ev_callB (rc := (f_Map_find d f w m)) (ou := ouV) (Hs := (fun z => (e0 :: (HD z.1 (HF z.2.1 (HW w (HM z.2.2 tl))))))) (inv_V (q := 8) (av := []) (rest := []) rfl (ci := 4) rfl d_Map_take_1 gw_757 gw_758 gw_759 mw_Map_find nh_Map_find pn_Map_find rfl) d_Map_take_1 pl_Map_find (Nat.le_of_ble_eq_true rfl) (Nat.le_of_ble_eq_true rfl) (Nat.le_of_ble_eq_true rfl) (e_f_Map_find (e0 := e0) (tl := tl)  d f w m ) (fun _ => (len1 (lenHD (lenHF (lenHW (lenHM rfl)))))) (fun v z h1 => ⟨_, rfl, ?_⟩)
  exact ev_pick [0, 1] rfl (e_B_Map_take_4     z.1 z.2.1 w z.2.2 x1)
def f_Map_firstTaken   (d : DS) (f : FS) (w : WS) (m : MS) : (Int32 × Unit) :=
  ((mFir m), ())
theorem e_f_Map_firstTaken {sc : Nat × (Nat → Int32)} {e0 : mn_E} {tl : List mn_E}    (d : DS) (f : FS) (w : WS) (m : MS) : Ev sc 0 0 0 0 M_Map_firstTaken 0 [(0, .ref 8)] [] (e0 :: (HD d (HF f (HW w (HM m tl))))) (mapT ouI (fun z => (e0 :: (HD d (HF f (HW w (HM m tl)))))) (f_Map_firstTaken d f w m)) := by
  unfold f_Map_firstTaken
  refine ev_aload_n d_Map_firstTaken_0 rfl rfl ?_
  refine ev_get (v := .int (mFir m)) gi_Map (ci := 4) rfl rfl 3 (by decide) gw_243 rfl d_Map_firstTaken_1 ?_
  exact ev_zret (ty := .int) rfl rfl d_Map_firstTaken_4
def f_Walk_sectorHere   (d : DS) (f : FS) (w : WS) : (Int32 × Unit) :=
  ((wSec w), ())
theorem e_f_Walk_sectorHere {sc : Nat × (Nat → Int32)} {e0 : mn_E} {tl : List mn_E}    (d : DS) (f : FS) (w : WS) : Ev sc 0 0 0 0 M_Walk_sectorHere 0 [(0, .ref 7)] [] (e0 :: (HD d (HF f (HW w tl)))) (mapT ouI (fun z => (e0 :: (HD d (HF f (HW w tl))))) (f_Walk_sectorHere d f w)) := by
  unfold f_Walk_sectorHere
  refine ev_aload_n d_Walk_sectorHere_0 rfl rfl ?_
  refine ev_get (v := .int (wSec w)) gi_Walk (ci := 3) rfl rfl 2 (by decide) gw_217 rfl d_Walk_sectorHere_1 ?_
  exact ev_zret (ty := .int) rfl rfl d_Walk_sectorHere_4
def f_Walk_holeSector   (d : DS) (f : FS) (w : WS) : (Int32 × Unit) :=
  ((wHSe w), ())
theorem e_f_Walk_holeSector {sc : Nat × (Nat → Int32)} {e0 : mn_E} {tl : List mn_E}    (d : DS) (f : FS) (w : WS) : Ev sc 0 0 0 0 M_Walk_holeSector 0 [(0, .ref 7)] [] (e0 :: (HD d (HF f (HW w tl)))) (mapT ouI (fun z => (e0 :: (HD d (HF f (HW w tl))))) (f_Walk_holeSector d f w)) := by
  unfold f_Walk_holeSector
  refine ev_aload_n d_Walk_holeSector_0 rfl rfl ?_
  refine ev_get (v := .int (wHSe w)) gi_Walk (ci := 3) rfl rfl 4 (by decide) gw_219 rfl d_Walk_holeSector_1 ?_
  exact ev_zret (ty := .int) rfl rfl d_Walk_holeSector_4
def f_Walk_holeOffset   (d : DS) (f : FS) (w : WS) : (Int32 × Unit) :=
  (((wHSl w) * 4), ())
theorem e_f_Walk_holeOffset {sc : Nat × (Nat → Int32)} {e0 : mn_E} {tl : List mn_E}    (d : DS) (f : FS) (w : WS) : Ev sc 0 0 0 0 M_Walk_holeOffset 0 [(0, .ref 7)] [] (e0 :: (HD d (HF f (HW w tl)))) (mapT ouI (fun z => (e0 :: (HD d (HF f (HW w tl))))) (f_Walk_holeOffset d f w)) := by
  unfold f_Walk_holeOffset
  refine ev_aload_n d_Walk_holeOffset_0 rfl rfl ?_
  refine ev_get (v := .int (wHSl w)) gi_Walk (ci := 3) rfl rfl 5 (by decide) gw_220 rfl d_Walk_holeOffset_1 ?_
  refine ev_iconst (v := 4) d_Walk_holeOffset_4 rfl ?_
  refine ev_imul d_Walk_holeOffset_5 ?_
  exact ev_zret (ty := .int) rfl rfl d_Walk_holeOffset_6
def f_Map_secondTaken   (d : DS) (f : FS) (w : WS) (m : MS) : (Int32 × Unit) :=
  ((mSnd m), ())
theorem e_f_Map_secondTaken {sc : Nat × (Nat → Int32)} {e0 : mn_E} {tl : List mn_E}    (d : DS) (f : FS) (w : WS) (m : MS) : Ev sc 0 0 0 0 M_Map_secondTaken 0 [(0, .ref 8)] [] (e0 :: (HD d (HF f (HW w (HM m tl))))) (mapT ouI (fun z => (e0 :: (HD d (HF f (HW w (HM m tl)))))) (f_Map_secondTaken d f w m)) := by
  unfold f_Map_secondTaken
  refine ev_aload_n d_Map_secondTaken_0 rfl rfl ?_
  refine ev_get (v := .int (mSnd m)) gi_Map (ci := 4) rfl rfl 4 (by decide) gw_244 rfl d_Map_secondTaken_1 ?_
  exact ev_zret (ty := .int) rfl rfl d_Map_secondTaken_4
def f_Map_updatedByte   (d : DS) (f : FS) (w : WS) (m : MS) (x1 : Int32) : (Int32 × Unit) :=
  ((((((f_Disk_byteAt d (mPag m) x1).1).toInt64) ||| (((mFre m) >>> ((8 * x1).toInt64 &&& 63)) &&& 255)) &&& ((((mTak m) >>> ((8 * x1).toInt64 &&& 63)) &&& 255) ^^^ (-1))).toInt32, ())
theorem e_f_Map_updatedByte {sc : Nat × (Nat → Int32)} {e0 : mn_E} {tl : List mn_E}    (d : DS) (f : FS) (w : WS) (m : MS) (x1 : Int32) : Ev sc 2 29 0 0 M_Map_updatedByte 0 [(0, .ref 8), (1, .int x1)] [] (e0 :: (HD d (HF f (HW w (HM m tl))))) (mapT ouI (fun z => (e0 :: (HD d (HF f (HW w (HM m tl)))))) (f_Map_updatedByte d f w m x1)) := by
  unfold f_Map_updatedByte
  refine ev_aload_n d_Map_updatedByte_0 rfl rfl ?_
  refine ev_get (v := .long (mFre m)) gi_Map (ci := 4) rfl rfl 6 (by decide) gw_246 rfl d_Map_updatedByte_1 ?_
  refine ev_bipush (v := 8) d_Map_updatedByte_4 rfl ?_
  refine ev_iload_n d_Map_updatedByte_6 rfl rfl ?_
  refine ev_imul d_Map_updatedByte_7 ?_
  refine ev_lshr d_Map_updatedByte_8 ?_
  refine ev_ldc2 (v := 255) gw_841 d_Map_updatedByte_9 ?_
  refine ev_land d_Map_updatedByte_12 ?_
  refine ev_lstore_n d_Map_updatedByte_13 rfl (by decide) rfl ?_
  refine ev_aload_n d_Map_updatedByte_14 rfl rfl ?_
  refine ev_get (v := .long (mTak m)) gi_Map (ci := 4) rfl rfl 5 (by decide) gw_245 rfl d_Map_updatedByte_15 ?_
  refine ev_bipush (v := 8) d_Map_updatedByte_18 rfl ?_
  refine ev_iload_n d_Map_updatedByte_20 rfl rfl ?_
  refine ev_imul d_Map_updatedByte_21 ?_
  refine ev_lshr d_Map_updatedByte_22 ?_
  refine ev_ldc2 (v := 255) gw_841 d_Map_updatedByte_23 ?_
  refine ev_land d_Map_updatedByte_26 ?_
  refine ev_lstore d_Map_updatedByte_27 (by decide) rfl ?_
  refine ev_aload_n d_Map_updatedByte_29 rfl rfl ?_
  refine ev_get (v := .ref 1) gi_Map (ci := 4) rfl rfl 0 (by decide) gw_240 rfl d_Map_updatedByte_30 ?_
  refine ev_aload_n d_Map_updatedByte_33 rfl rfl ?_
  refine ev_get (v := .int (mPag m)) gi_Map (ci := 4) rfl rfl 2 (by decide) gw_242 rfl d_Map_updatedByte_34 ?_
  refine ev_iload_n d_Map_updatedByte_37 rfl rfl ?_
  refine ev_callr (Mc := M_Disk_byteAt) (v := some (.int ((f_Disk_byteAt d (mPag m) x1).1))) (h1 := (e0 :: (HD d (HF f (HW w (HM m tl)))))) (k2 := 0) (n2 := 0) (inv_V (q := 1) (av := [.int (mPag m), .int x1]) (rest := []) rfl (ci := 1) rfl d_Map_updatedByte_38 gw_771 gw_412 gw_413 mw_Disk_byteAt nh_Disk_byteAt pn_Disk_byteAt rfl) d_Map_updatedByte_38 pl_Disk_byteAt (Nat.le_of_ble_eq_true rfl) (Nat.le_of_ble_eq_true rfl) (Nat.le_of_ble_eq_true rfl) rfl rfl (e_f_Disk_byteAt (e0 := e0) (tl := (HF f (HW w (HM m tl))))  d (mPag m) x1) (Or.inl (len1 (lenHD (lenHF (lenHW (lenHM rfl)))))) ?_
  refine ev_i2l d_Map_updatedByte_41 ?_
  refine ev_lload_n d_Map_updatedByte_42 rfl rfl ?_
  refine ev_lor d_Map_updatedByte_43 ?_
  refine ev_lload d_Map_updatedByte_44 rfl ?_
  refine ev_ldc2 (v := (-1)) gw_842 d_Map_updatedByte_46 ?_
  refine ev_lxor d_Map_updatedByte_49 ?_
  refine ev_land d_Map_updatedByte_50 ?_
  refine ev_l2i d_Map_updatedByte_51 ?_
  exact ev_zret (ty := .int) rfl rfl d_Map_updatedByte_52
def L_Map_wouldChange_2   : Nat → DS → FS → WS → MS → Int32 → Option (Int32 × Unit)
  | 0, _, _, _, _, _ => none
  | n + 1, d, f, w, m, x1 =>
  if 5 ≤ x1 then (some (0, ())) else (if ((f_Map_updatedByte d f w m x1).1) = ((f_Disk_byteAt d (mPag m) x1).1) then ((L_Map_wouldChange_2 n) d f w m (x1 + 1)) else (some (1, ())))
theorem e_L_Map_wouldChange_2 {sc : Nat × (Nat → Int32)} {e0 : mn_E} {tl : List mn_E}    : ∀ (n : Nat) (d : DS) (f : FS) (w : WS) (m : MS) (x1 : Int32), Ev sc 3 46 0 0 M_Map_wouldChange 2 [(0, .ref 8), (1, .int x1)] [] (e0 :: (HD d (HF f (HW w (HM m tl))))) (mapR ouI (fun z => (e0 :: (HD d (HF f (HW w (HM m tl)))))) (L_Map_wouldChange_2   n d f w m x1)) := by
  intro n
  induction n with
  | zero => intro d f w m x1; exact ev_none
  | succ n ih =>
    intro d f w m x1
    rw [L_Map_wouldChange_2]
    refine ev_iload_n d_Map_wouldChange_2 rfl rfl ?_
    refine ev_iconst (v := 5) d_Map_wouldChange_3 rfl ?_
    refine ev_icmp_ge (tgt := 35) d_Map_wouldChange_4 rfl (fun h1 => ?_) (fun h1 => ?_)
    · rw [if_pos h1]
      refine ev_iconst (v := 0) d_Map_wouldChange_35 rfl ?_
      exact ev_zret (ty := .boolean) rfl rfl d_Map_wouldChange_36
    · rw [if_neg h1]
      refine ev_aload_n d_Map_wouldChange_7 rfl rfl ?_
      refine ev_iload_n d_Map_wouldChange_8 rfl rfl ?_
      refine ev_callr (Mc := M_Map_updatedByte) (v := some (.int ((f_Map_updatedByte d f w m x1).1))) (h1 := (e0 :: (HD d (HF f (HW w (HM m tl)))))) (k2 := 0) (n2 := 0) (inv_V (q := 8) (av := [.int x1]) (rest := []) rfl (ci := 4) rfl d_Map_wouldChange_9 gw_837 gw_839 gw_40 mw_Map_updatedByte nh_Map_updatedByte pn_Map_updatedByte rfl) d_Map_wouldChange_9 pl_Map_updatedByte (Nat.le_of_ble_eq_true rfl) (Nat.le_of_ble_eq_true rfl) (Nat.le_of_ble_eq_true rfl) rfl rfl (e_f_Map_updatedByte (e0 := e0) (tl := tl)  d f w m x1) (Or.inl (len1 (lenHD (lenHF (lenHW (lenHM rfl)))))) ?_
      refine ev_aload_n d_Map_wouldChange_12 rfl rfl ?_
      refine ev_get (v := .ref 1) gi_Map (ci := 4) rfl rfl 0 (by decide) gw_240 rfl d_Map_wouldChange_13 ?_
      refine ev_aload_n d_Map_wouldChange_16 rfl rfl ?_
      refine ev_get (v := .int (mPag m)) gi_Map (ci := 4) rfl rfl 2 (by decide) gw_242 rfl d_Map_wouldChange_17 ?_
      refine ev_iload_n d_Map_wouldChange_20 rfl rfl ?_
      refine ev_callr (Mc := M_Disk_byteAt) (v := some (.int ((f_Disk_byteAt d (mPag m) x1).1))) (h1 := (e0 :: (HD d (HF f (HW w (HM m tl)))))) (k2 := 0) (n2 := 0) (inv_V (q := 1) (av := [.int (mPag m), .int x1]) (rest := [.int ((f_Map_updatedByte d f w m x1).1)]) rfl (ci := 1) rfl d_Map_wouldChange_21 gw_771 gw_412 gw_413 mw_Disk_byteAt nh_Disk_byteAt pn_Disk_byteAt rfl) d_Map_wouldChange_21 pl_Disk_byteAt (Nat.le_of_ble_eq_true rfl) (Nat.le_of_ble_eq_true rfl) (Nat.le_of_ble_eq_true rfl) rfl rfl (e_f_Disk_byteAt (e0 := e0) (tl := (HF f (HW w (HM m tl))))  d (mPag m) x1) (Or.inl (len1 (lenHD (lenHF (lenHW (lenHM rfl)))))) ?_
      refine ev_icmp_eq (tgt := 29) d_Map_wouldChange_24 rfl (fun h2 => ?_) (fun h2 => ?_)
      · rw [if_pos h2]
        refine ev_iinc (v := (x1 + 1)) d_Map_wouldChange_29 rfl rfl (by decide) rfl ?_
        refine ev_goto (tgt := 2) d_Map_wouldChange_32 rfl ?_
        exact ev_pick [1, 0] rfl (ih d f w m (x1 + 1))
      · rw [if_neg h2]
        refine ev_iconst (v := 1) d_Map_wouldChange_27 rfl ?_
        exact ev_zret (ty := .boolean) rfl rfl d_Map_wouldChange_28
def f_Map_wouldChange   (d : DS) (f : FS) (w : WS) (m : MS) : Option (Int32 × Unit) :=
  L_Map_wouldChange_2   100 d f w m 0
theorem e_f_Map_wouldChange {sc : Nat × (Nat → Int32)} {e0 : mn_E} {tl : List mn_E}    (d : DS) (f : FS) (w : WS) (m : MS) : Ev sc 3 46 0 0 M_Map_wouldChange 0 [(0, .ref 8)] [] (e0 :: (HD d (HF f (HW w (HM m tl))))) (mapR ouI (fun z => (e0 :: (HD d (HF f (HW w (HM m tl)))))) (f_Map_wouldChange d f w m)) := by
  unfold f_Map_wouldChange
  refine ev_iconst (v := 0) d_Map_wouldChange_0 rfl ?_
  refine ev_istore_n d_Map_wouldChange_1 rfl (by decide) rfl ?_
  exact ev_pick [1, 0] rfl (e_L_Map_wouldChange_2     100 d f w m 0)
def B_Map_update_47  (r25 : DS → FS → WS → MS → Int32 → Option ((Nat ⊕ Unit) × DS)) (d : DS) (f : FS) (w : WS) (m : MS) (x1 : Int32) : Option ((Nat ⊕ Unit) × DS) :=
  r25 d f w m (x1 + 1)
theorem e_B_Map_update_47 {sc : Nat × (Nat → Int32)} {e0 : mn_E} {tl : List mn_E}  (r25 : DS → FS → WS → MS → Int32 → Option ((Nat ⊕ Unit) × DS)) (hr25 : ∀ (d : DS) (f : FS) (w : WS) (m : MS) (x1 : Int32), Ev sc 7 93 0 0 M_Map_update 25 [(0, .ref 8), (1, .int x1)] [] (e0 :: (HD d (HF f (HW w (HM m tl))))) (mapR ouVT (fun z => (e0 :: (HD z (HF f (HW w (HM m tl)))))) (r25 d f w m x1))) (d : DS) (f : FS) (w : WS) (m : MS) (x1 : Int32) : Ev sc 7 93 0 0 M_Map_update 47 [(0, .ref 8), (1, .int x1)] [] (e0 :: (HD d (HF f (HW w (HM m tl))))) (mapR ouVT (fun z => (e0 :: (HD z (HF f (HW w (HM m tl)))))) (B_Map_update_47 r25 d f w m x1)) := by
  unfold B_Map_update_47
  refine ev_iinc (v := (x1 + 1)) d_Map_update_47 rfl rfl (by decide) rfl ?_
  refine ev_goto (tgt := 25) d_Map_update_50 rfl ?_
  exact ev_pick [1, 0] rfl (hr25 d f w m (x1 + 1))
def L_Map_update_25   : Nat → DS → FS → WS → MS → Int32 → Option ((Nat ⊕ Unit) × DS)
  | 0, _, _, _, _, _ => none
  | n + 1, d, f, w, m, x1 =>
  if 5 ≤ x1 then (some (.inr (), d)) else (B_Map_update_47  (L_Map_update_25 n) ((f_Disk_setByte d (mPag m) x1 ((f_Map_updatedByte d f w m x1).1)).2) f w m x1)
theorem e_L_Map_update_25 {sc : Nat × (Nat → Int32)} {e0 : mn_E} {tl : List mn_E}    : ∀ (n : Nat) (d : DS) (f : FS) (w : WS) (m : MS) (x1 : Int32), Ev sc 7 93 0 0 M_Map_update 25 [(0, .ref 8), (1, .int x1)] [] (e0 :: (HD d (HF f (HW w (HM m tl))))) (mapR ouVT (fun z => (e0 :: (HD z (HF f (HW w (HM m tl)))))) (L_Map_update_25   n d f w m x1)) := by
  intro n
  induction n with
  | zero => intro d f w m x1; exact ev_none
  | succ n ih =>
    intro d f w m x1
    rw [L_Map_update_25]
    refine ev_iload_n d_Map_update_25 rfl rfl ?_
    refine ev_iconst (v := 5) d_Map_update_26 rfl ?_
    refine ev_icmp_ge (tgt := 53) d_Map_update_27 rfl (fun h1 => ?_) (fun h1 => ?_)
    · rw [if_pos h1]
      exact ev_vret rfl d_Map_update_53
    · rw [if_neg h1]
      refine ev_aload_n d_Map_update_30 rfl rfl ?_
      refine ev_get (v := .ref 1) gi_Map (ci := 4) rfl rfl 0 (by decide) gw_240 rfl d_Map_update_31 ?_
      refine ev_aload_n d_Map_update_34 rfl rfl ?_
      refine ev_get (v := .int (mPag m)) gi_Map (ci := 4) rfl rfl 2 (by decide) gw_242 rfl d_Map_update_35 ?_
      refine ev_iload_n d_Map_update_38 rfl rfl ?_
      refine ev_aload_n d_Map_update_39 rfl rfl ?_
      refine ev_iload_n d_Map_update_40 rfl rfl ?_
      refine ev_callr (Mc := M_Map_updatedByte) (v := some (.int ((f_Map_updatedByte d f w m x1).1))) (h1 := (e0 :: (HD d (HF f (HW w (HM m tl)))))) (k2 := 0) (n2 := 0) (inv_V (q := 8) (av := [.int x1]) (rest := [.int x1, .int (mPag m), .ref 1]) rfl (ci := 4) rfl d_Map_update_41 gw_837 gw_839 gw_40 mw_Map_updatedByte nh_Map_updatedByte pn_Map_updatedByte rfl) d_Map_update_41 pl_Map_updatedByte (Nat.le_of_ble_eq_true rfl) (Nat.le_of_ble_eq_true rfl) (Nat.le_of_ble_eq_true rfl) rfl rfl (e_f_Map_updatedByte (e0 := e0) (tl := tl)  d f w m x1) (Or.inl (len1 (lenHD (lenHF (lenHW (lenHM rfl)))))) ?_
      refine ev_callr (Mc := M_Disk_setByte) (v := none) (h1 := (e0 :: (HD ((f_Disk_setByte d (mPag m) x1 ((f_Map_updatedByte d f w m x1).1)).2) (HF f (HW w (HM m tl)))))) (k2 := 0) (n2 := 0) (inv_V (q := 1) (av := [.int (mPag m), .int x1, .int ((f_Map_updatedByte d f w m x1).1)]) (rest := []) rfl (ci := 1) rfl d_Map_update_44 gw_844 gw_190 gw_191 mw_Disk_setByte nh_Disk_setByte pn_Disk_setByte rfl) d_Map_update_44 pl_Disk_setByte (Nat.le_of_ble_eq_true rfl) (Nat.le_of_ble_eq_true rfl) (Nat.le_of_ble_eq_true rfl) rfl rfl (e_f_Disk_setByte (e0 := e0) (tl := (HF f (HW w (HM m tl))))  d (mPag m) x1 ((f_Map_updatedByte d f w m x1).1)) (Or.inl (len1 (lenHD (lenHF (lenHW (lenHM rfl)))))) ?_
      exact ev_pick [0, 1] rfl (e_B_Map_update_47   (L_Map_update_25 n) ih ((f_Disk_setByte d (mPag m) x1 ((f_Map_updatedByte d f w m x1).1)).2) f w m x1)
def B_Map_update_23   (d : DS) (f : FS) (w : WS) (m : MS) : Option ((Nat ⊕ Unit) × DS) :=
  L_Map_update_25   100 d f w m 0
theorem e_B_Map_update_23 {sc : Nat × (Nat → Int32)} {e0 : mn_E} {tl : List mn_E}    (d : DS) (f : FS) (w : WS) (m : MS) : Ev sc 7 93 0 0 M_Map_update 23 [(0, .ref 8)] [] (e0 :: (HD d (HF f (HW w (HM m tl))))) (mapR ouVT (fun z => (e0 :: (HD z (HF f (HW w (HM m tl)))))) (B_Map_update_23 d f w m)) := by
  unfold B_Map_update_23
  refine ev_iconst (v := 0) d_Map_update_23 rfl ?_
  refine ev_istore_n d_Map_update_24 rfl (by decide) rfl ?_
  exact ev_pick [1, 0] rfl (e_L_Map_update_25     100 d f w m 0)
def B_Map_update_12   (d : DS) (f : FS) (w : WS) (m : MS) (t0 : Int32) : Option ((Nat ⊕ Unit) × DS) :=
  if ¬ t0 = 0 then (thM (f_Disk_spendWrite d) (fun x z => some (.inl x, z)) (fun v z => B_Map_update_23   z f w m)) else (some (.inr (), d))
theorem e_B_Map_update_12 {sc : Nat × (Nat → Int32)} {e0 : mn_E} {tl : List mn_E}    (d : DS) (f : FS) (w : WS) (m : MS) (t0 : Int32) : Ev sc 7 93 0 0 M_Map_update 12 [(0, .ref 8)] [.int t0] (e0 :: (HD d (HF f (HW w (HM m tl))))) (mapR ouVT (fun z => (e0 :: (HD z (HF f (HW w (HM m tl)))))) (B_Map_update_12 d f w m t0)) := by
  unfold B_Map_update_12
  refine ev_if_ne (tgt := 16) d_Map_update_12 rfl (fun h1 => ?_) (fun h1 => ?_)
  · rw [if_pos h1]
    refine ev_aload_n d_Map_update_16 rfl rfl ?_
    refine ev_get (v := .ref 1) gi_Map (ci := 4) rfl rfl 0 (by decide) gw_240 rfl d_Map_update_17 ?_
    refine ev_callT (q := (f_Disk_spendWrite d)) (ou := ouV) (Hs := (fun z => (e0 :: (HD z (HF f (HW w (HM m tl))))))) (inv_V (q := 1) (av := []) (rest := []) rfl (ci := 1) rfl d_Map_update_20 gw_843 gw_791 gw_792 mw_Disk_spendWrite nh_Disk_spendWrite pn_Disk_spendWrite rfl) d_Map_update_20 pl_Disk_spendWrite (Nat.le_of_ble_eq_true rfl) (Nat.le_of_ble_eq_true rfl) (Nat.le_of_ble_eq_true rfl) (e_f_Disk_spendWrite (e0 := e0) (tl := (HF f (HW w (HM m tl))))  d ) (fun _ => (len1 (lenHD (lenHF (lenHW (lenHM rfl)))))) rfl (fun x z h2 => ?_) (fun v z h2 => ⟨_, rfl, ?_⟩)
    · rw [h2]; rfl
    · rw [h2]
      exact ev_pick [0] rfl (e_B_Map_update_23     z f w m)
  · rw [if_neg h1]
    exact ev_vret rfl d_Map_update_15
def f_Map_update   (d : DS) (f : FS) (w : WS) (m : MS) : Option ((Nat ⊕ Unit) × DS) :=
  if (mPag m) = (-1) then (some (.inr (), d)) else (bnd (f_Map_wouldChange d f w m) (fun q => B_Map_update_12   d f w m q.1))
theorem e_f_Map_update {sc : Nat × (Nat → Int32)} {e0 : mn_E} {tl : List mn_E}    (d : DS) (f : FS) (w : WS) (m : MS) : Ev sc 7 93 0 0 M_Map_update 0 [(0, .ref 8)] [] (e0 :: (HD d (HF f (HW w (HM m tl))))) (mapR ouVT (fun z => (e0 :: (HD z (HF f (HW w (HM m tl)))))) (f_Map_update d f w m)) := by
  unfold f_Map_update
  refine ev_aload_n d_Map_update_0 rfl rfl ?_
  refine ev_get (v := .int (mPag m)) gi_Map (ci := 4) rfl rfl 2 (by decide) gw_242 rfl d_Map_update_1 ?_
  refine ev_iconst (v := -1) d_Map_update_4 rfl ?_
  refine ev_icmp_eq (tgt := 15) d_Map_update_5 rfl (fun h1 => ?_) (fun h1 => ?_)
  · rw [if_pos h1]
    exact ev_vret rfl d_Map_update_15
  · rw [if_neg h1]
    refine ev_aload_n d_Map_update_8 rfl rfl ?_
    refine ev_callB (rc := (f_Map_wouldChange d f w m)) (ou := ouI) (Hs := (fun z => (e0 :: (HD d (HF f (HW w (HM m tl))))))) (inv_V (q := 8) (av := []) (rest := []) rfl (ci := 4) rfl d_Map_update_9 gw_833 gw_835 gw_39 mw_Map_wouldChange nh_Map_wouldChange pn_Map_wouldChange rfl) d_Map_update_9 pl_Map_wouldChange (Nat.le_of_ble_eq_true rfl) (Nat.le_of_ble_eq_true rfl) (Nat.le_of_ble_eq_true rfl) (e_f_Map_wouldChange (e0 := e0) (tl := tl)  d f w m ) (fun _ => (len1 (lenHD (lenHF (lenHW (lenHM rfl)))))) (fun v z h2 => ⟨_, rfl, ?_⟩)
    exact ev_pick [0] rfl (e_B_Map_update_12     d f w m v)
def f_Finder_remember   (d : DS) (f : FS) (x1 : Int32) (x2 : Int32) : Option (Unit × FS) :=
  if x1 < 1 then (some ((), f)) else (if 60 < x1 then (some ((), f)) else (if inB x1 61 then (some ((), (fSRem f (upd (fRem f) x1.toNatClampNeg x2)))) else none))
theorem e_f_Finder_remember {sc : Nat × (Nat → Int32)} {e0 : mn_E} {tl : List mn_E}    (d : DS) (f : FS) (x1 : Int32) (x2 : Int32) : Ev sc 0 0 0 0 M_Finder_remember 0 [(0, .ref 5), (1, .int x1), (2, .int x2)] [] (e0 :: (HD d (HF f tl))) (mapR ouV (fun z => (e0 :: (HD d (HF z tl)))) (f_Finder_remember d f x1 x2)) := by
  unfold f_Finder_remember
  refine ev_iload_n d_Finder_remember_0 rfl rfl ?_
  refine ev_iconst (v := 1) d_Finder_remember_1 rfl ?_
  refine ev_icmp_lt (tgt := 18) d_Finder_remember_2 rfl (fun h1 => ?_) (fun h1 => ?_)
  · rw [if_pos h1]
    exact ev_vret rfl d_Finder_remember_18
  · rw [if_neg h1]
    refine ev_iload_n d_Finder_remember_5 rfl rfl ?_
    refine ev_bipush (v := 60) d_Finder_remember_6 rfl ?_
    refine ev_icmp_gt (tgt := 18) d_Finder_remember_8 rfl (fun h2 => ?_) (fun h2 => ?_)
    · rw [if_pos h2]
      exact ev_vret rfl d_Finder_remember_18
    · rw [if_neg h2]
      refine ev_aload_n d_Finder_remember_11 rfl rfl ?_
      refine ev_get (v := .ref 6) gi_Finder (ci := 2) rfl rfl 1 (by decide) gw_163 rfl d_Finder_remember_12 ?_
      refine ev_iload_n d_Finder_remember_15 rfl rfl ?_
      refine ev_iload_n d_Finder_remember_16 rfl rfl ?_
      refine ev_inB (fun h3 => ?_)
      refine ev_iastore (h2 := (e0 :: (HD d (HF (fSRem f (upd (fRem f) x1.toNatClampNeg x2)) tl)))) rfl (inB_of h3) rfl d_Finder_remember_17 ?_
      exact ev_vret rfl d_Finder_remember_18
def B_Finder_lastOf_96   (d : DS) (f : FS) (x3 : Int32) : Option (Int32 × DS) :=
  some (x3, d)
theorem e_B_Finder_lastOf_96 {sc : Nat × (Nat → Int32)} {e0 : mn_E} {tl : List mn_E}    (d : DS) (f : FS) (x3 : Int32) : Ev sc 3 48 0 0 M_Finder_lastOf 96 [(3, .int x3)] [] (e0 :: (HD d (HF f tl))) (mapR ouI (fun z => (e0 :: (HD z (HF f tl)))) (B_Finder_lastOf_96 d f x3)) := by
  unfold B_Finder_lastOf_96
  refine ev_iload_n d_Finder_lastOf_96 rfl rfl ?_
  exact ev_zret (ty := .int) rfl rfl d_Finder_lastOf_97
def B_Finder_lastOf_89  (r58 : DS → FS → Int32 → Int32 → Option (Int32 × DS)) (d : DS) (f : FS) (x4 : Int32) (t0 : Int32) : Option (Int32 × DS) :=
  r58 d f t0 (x4 + 1)
theorem e_B_Finder_lastOf_89 {sc : Nat × (Nat → Int32)} {e0 : mn_E} {tl : List mn_E}  (r58 : DS → FS → Int32 → Int32 → Option (Int32 × DS)) (hr58 : ∀ (d : DS) (f : FS) (x3 : Int32) (x4 : Int32), Ev sc 3 48 0 0 M_Finder_lastOf 58 [(0, .ref 5), (3, .int x3), (4, .int x4)] [] (e0 :: (HD d (HF f tl))) (mapR ouI (fun z => (e0 :: (HD z (HF f tl)))) (r58 d f x3 x4))) (d : DS) (f : FS) (x4 : Int32) (t0 : Int32) : Ev sc 3 48 0 0 M_Finder_lastOf 89 [(0, .ref 5), (4, .int x4)] [.int t0] (e0 :: (HD d (HF f tl))) (mapR ouI (fun z => (e0 :: (HD z (HF f tl)))) (B_Finder_lastOf_89 r58 d f x4 t0)) := by
  unfold B_Finder_lastOf_89
  refine ev_istore_n d_Finder_lastOf_89 rfl (by decide) rfl ?_
  refine ev_iinc (v := (x4 + 1)) d_Finder_lastOf_90 rfl rfl (by decide) rfl ?_
  refine ev_goto (tgt := 58) d_Finder_lastOf_93 rfl ?_
  exact ev_pick [2, 1, 0] rfl (hr58 d f t0 (x4 + 1))
def L_Finder_lastOf_58   : Nat → DS → FS → Int32 → Int32 → Option (Int32 × DS)
  | 0, _, _, _, _ => none
  | n + 1, d, f, x3, x4 =>
  if 40 ≤ x4 then (B_Finder_lastOf_96   d f x3) else (if x3 = (-1) then (B_Finder_lastOf_96   d f x3) else (if (xCell d x3 3) = (-1) then (B_Finder_lastOf_96   d f x3) else (B_Finder_lastOf_89  (L_Finder_lastOf_58 n) ((f_Finder_follow d f x3 3).2) f x4 ((f_Finder_follow d f x3 3).1))))
theorem e_L_Finder_lastOf_58 {sc : Nat × (Nat → Int32)} {e0 : mn_E} {tl : List mn_E}    : ∀ (n : Nat) (d : DS) (f : FS) (x3 : Int32) (x4 : Int32), Ev sc 3 48 0 0 M_Finder_lastOf 58 [(0, .ref 5), (3, .int x3), (4, .int x4)] [] (e0 :: (HD d (HF f tl))) (mapR ouI (fun z => (e0 :: (HD z (HF f tl)))) (L_Finder_lastOf_58   n d f x3 x4)) := by
  intro n
  induction n with
  | zero => intro d f x3 x4; exact ev_none
  | succ n ih =>
    intro d f x3 x4
    rw [L_Finder_lastOf_58]
    refine ev_iload d_Finder_lastOf_58 rfl ?_
    refine ev_bipush (v := 40) d_Finder_lastOf_60 rfl ?_
    refine ev_icmp_ge (tgt := 96) d_Finder_lastOf_62 rfl (fun h1 => ?_) (fun h1 => ?_)
    · rw [if_pos h1]
      exact ev_pick [1] rfl (e_B_Finder_lastOf_96     d f x3)
    · rw [if_neg h1]
      refine ev_iload_n d_Finder_lastOf_65 rfl rfl ?_
      refine ev_iconst (v := -1) d_Finder_lastOf_66 rfl ?_
      refine ev_icmp_eq (tgt := 96) d_Finder_lastOf_67 rfl (fun h2 => ?_) (fun h2 => ?_)
      · rw [if_pos h2]
        exact ev_pick [1] rfl (e_B_Finder_lastOf_96     d f x3)
      · rw [if_neg h2]
        refine ev_aload_n d_Finder_lastOf_70 rfl rfl ?_
        refine ev_get (v := .ref 1) gi_Finder (ci := 2) rfl rfl 0 (by decide) gw_162 rfl d_Finder_lastOf_71 ?_
        refine ev_iload_n d_Finder_lastOf_74 rfl rfl ?_
        refine ev_iconst (v := 3) d_Finder_lastOf_75 rfl ?_
        refine ev_callr (Mc := M_Disk_cell) (v := some (.int (xCell d x3 3))) (h1 := (e0 :: (HD d (HF f tl)))) (k2 := 0) (n2 := 0) (inv_V (q := 1) (av := [.int x3, .int 3]) (rest := []) rfl (ci := 1) rfl d_Finder_lastOf_76 gw_711 gw_198 gw_199 mw_Disk_cell nh_Disk_cell pn_Disk_cell rfl) d_Finder_lastOf_76 pl_Disk_cell (Nat.le_of_ble_eq_true rfl) (Nat.le_of_ble_eq_true rfl) (Nat.le_of_ble_eq_true rfl) rfl rfl (c_Disk_cell (e0 := e0) (tl := (HF f tl))  d x3 3) (Or.inl (len1 (lenHD (lenHF rfl)))) ?_
        refine ev_iconst (v := -1) d_Finder_lastOf_79 rfl ?_
        refine ev_icmp_eq (tgt := 96) d_Finder_lastOf_80 rfl (fun h3 => ?_) (fun h3 => ?_)
        · rw [if_pos h3]
          exact ev_pick [1] rfl (e_B_Finder_lastOf_96     d f x3)
        · rw [if_neg h3]
          refine ev_aload_n d_Finder_lastOf_83 rfl rfl ?_
          refine ev_iload_n d_Finder_lastOf_84 rfl rfl ?_
          refine ev_iconst (v := 3) d_Finder_lastOf_85 rfl ?_
          refine ev_callr (Mc := M_Finder_follow) (v := some (.int ((f_Finder_follow d f x3 3).1))) (h1 := (e0 :: (HD ((f_Finder_follow d f x3 3).2) (HF f tl)))) (k2 := 0) (n2 := 0) (inv_V (q := 5) (av := [.int x3, .int 3]) (rest := []) rfl (ci := 2) rfl d_Finder_lastOf_86 gw_874 gw_708 gw_709 mw_Finder_follow nh_Finder_follow pn_Finder_follow rfl) d_Finder_lastOf_86 pl_Finder_follow (Nat.le_of_ble_eq_true rfl) (Nat.le_of_ble_eq_true rfl) (Nat.le_of_ble_eq_true rfl) rfl rfl (e_f_Finder_follow (e0 := e0) (tl := tl)  d f x3 3) (Or.inl (len1 (lenHD (lenHF rfl)))) ?_
          exact ev_pick [0, 2] rfl (e_B_Finder_lastOf_89   (L_Finder_lastOf_58 n) ih ((f_Finder_follow d f x3 3).2) f x4 ((f_Finder_follow d f x3 3).1))
def B_Finder_lastOf_53   (d : DS) (f : FS) (x1 : Int32) : Option (Int32 × DS) :=
  L_Finder_lastOf_58   100 d f x1 0
theorem e_B_Finder_lastOf_53 {sc : Nat × (Nat → Int32)} {e0 : mn_E} {tl : List mn_E}    (d : DS) (f : FS) (x1 : Int32) : Ev sc 3 48 0 0 M_Finder_lastOf 53 [(0, .ref 5), (1, .int x1)] [] (e0 :: (HD d (HF f tl))) (mapR ouI (fun z => (e0 :: (HD z (HF f tl)))) (B_Finder_lastOf_53 d f x1)) := by
  unfold B_Finder_lastOf_53
  refine ev_iload_n d_Finder_lastOf_53 rfl rfl ?_
  refine ev_istore_n d_Finder_lastOf_54 rfl (by decide) rfl ?_
  refine ev_iconst (v := 0) d_Finder_lastOf_55 rfl ?_
  refine ev_istore d_Finder_lastOf_56 (by decide) rfl ?_
  exact ev_pick [2, 1, 0] rfl (e_L_Finder_lastOf_58     100 d f x1 0)
def B_Finder_lastOf_46   (d : DS) (f : FS) (x1 : Int32) : Option (Int32 × DS) :=
  B_Finder_lastOf_53   ((f_Disk_countMiss d).2) f x1
theorem e_B_Finder_lastOf_46 {sc : Nat × (Nat → Int32)} {e0 : mn_E} {tl : List mn_E}    (d : DS) (f : FS) (x1 : Int32) : Ev sc 3 48 0 0 M_Finder_lastOf 46 [(0, .ref 5), (1, .int x1)] [] (e0 :: (HD d (HF f tl))) (mapR ouI (fun z => (e0 :: (HD z (HF f tl)))) (B_Finder_lastOf_46 d f x1)) := by
  unfold B_Finder_lastOf_46
  refine ev_aload_n d_Finder_lastOf_46 rfl rfl ?_
  refine ev_get (v := .ref 1) gi_Finder (ci := 2) rfl rfl 0 (by decide) gw_162 rfl d_Finder_lastOf_47 ?_
  refine ev_callr (Mc := M_Disk_countMiss) (v := none) (h1 := (e0 :: (HD ((f_Disk_countMiss d).2) (HF f tl)))) (k2 := 0) (n2 := 0) (inv_V (q := 1) (av := []) (rest := []) rfl (ci := 1) rfl d_Finder_lastOf_50 gw_873 gw_778 gw_779 mw_Disk_countMiss nh_Disk_countMiss pn_Disk_countMiss rfl) d_Finder_lastOf_50 pl_Disk_countMiss (Nat.le_of_ble_eq_true rfl) (Nat.le_of_ble_eq_true rfl) (Nat.le_of_ble_eq_true rfl) rfl rfl (e_f_Disk_countMiss (e0 := e0) (tl := (HF f tl))  d ) (Or.inl (len1 (lenHD (lenHF rfl)))) ?_
  exact ev_pick [0, 1] rfl (e_B_Finder_lastOf_53     ((f_Disk_countMiss d).2) f x1)
def f_Finder_lastOf   (d : DS) (f : FS) (x1 : Int32) : Option (Int32 × DS) :=
  if ¬ (xCell d ((f_Disk_byteAt d x1 3).1) 0) = (xCell d x1 0) then (B_Finder_lastOf_46   d f x1) else (if ¬ (xCell d ((f_Disk_byteAt d x1 3).1) 3) = (-1) then (B_Finder_lastOf_46   d f x1) else (some ((f_Disk_byteAt d x1 3).1, d)))
theorem e_f_Finder_lastOf {sc : Nat × (Nat → Int32)} {e0 : mn_E} {tl : List mn_E}    (d : DS) (f : FS) (x1 : Int32) : Ev sc 3 48 0 0 M_Finder_lastOf 0 [(0, .ref 5), (1, .int x1)] [] (e0 :: (HD d (HF f tl))) (mapR ouI (fun z => (e0 :: (HD z (HF f tl)))) (f_Finder_lastOf d f x1)) := by
  unfold f_Finder_lastOf
  refine ev_aload_n d_Finder_lastOf_0 rfl rfl ?_
  refine ev_get (v := .ref 1) gi_Finder (ci := 2) rfl rfl 0 (by decide) gw_162 rfl d_Finder_lastOf_1 ?_
  refine ev_iload_n d_Finder_lastOf_4 rfl rfl ?_
  refine ev_iconst (v := 3) d_Finder_lastOf_5 rfl ?_
  refine ev_callr (Mc := M_Disk_byteAt) (v := some (.int ((f_Disk_byteAt d x1 3).1))) (h1 := (e0 :: (HD d (HF f tl)))) (k2 := 0) (n2 := 0) (inv_V (q := 1) (av := [.int x1, .int 3]) (rest := []) rfl (ci := 1) rfl d_Finder_lastOf_6 gw_872 gw_412 gw_413 mw_Disk_byteAt nh_Disk_byteAt pn_Disk_byteAt rfl) d_Finder_lastOf_6 pl_Disk_byteAt (Nat.le_of_ble_eq_true rfl) (Nat.le_of_ble_eq_true rfl) (Nat.le_of_ble_eq_true rfl) rfl rfl (e_f_Disk_byteAt (e0 := e0) (tl := (HF f tl))  d x1 3) (Or.inl (len1 (lenHD (lenHF rfl)))) ?_
  refine ev_istore_n d_Finder_lastOf_9 rfl (by decide) rfl ?_
  refine ev_aload_n d_Finder_lastOf_10 rfl rfl ?_
  refine ev_get (v := .ref 1) gi_Finder (ci := 2) rfl rfl 0 (by decide) gw_162 rfl d_Finder_lastOf_11 ?_
  refine ev_iload_n d_Finder_lastOf_14 rfl rfl ?_
  refine ev_iconst (v := 0) d_Finder_lastOf_15 rfl ?_
  refine ev_callr (Mc := M_Disk_cell) (v := some (.int (xCell d ((f_Disk_byteAt d x1 3).1) 0))) (h1 := (e0 :: (HD d (HF f tl)))) (k2 := 0) (n2 := 0) (inv_V (q := 1) (av := [.int ((f_Disk_byteAt d x1 3).1), .int 0]) (rest := []) rfl (ci := 1) rfl d_Finder_lastOf_16 gw_711 gw_198 gw_199 mw_Disk_cell nh_Disk_cell pn_Disk_cell rfl) d_Finder_lastOf_16 pl_Disk_cell (Nat.le_of_ble_eq_true rfl) (Nat.le_of_ble_eq_true rfl) (Nat.le_of_ble_eq_true rfl) rfl rfl (c_Disk_cell (e0 := e0) (tl := (HF f tl))  d ((f_Disk_byteAt d x1 3).1) 0) (Or.inl (len1 (lenHD (lenHF rfl)))) ?_
  refine ev_aload_n d_Finder_lastOf_19 rfl rfl ?_
  refine ev_get (v := .ref 1) gi_Finder (ci := 2) rfl rfl 0 (by decide) gw_162 rfl d_Finder_lastOf_20 ?_
  refine ev_iload_n d_Finder_lastOf_23 rfl rfl ?_
  refine ev_iconst (v := 0) d_Finder_lastOf_24 rfl ?_
  refine ev_callr (Mc := M_Disk_cell) (v := some (.int (xCell d x1 0))) (h1 := (e0 :: (HD d (HF f tl)))) (k2 := 0) (n2 := 0) (inv_V (q := 1) (av := [.int x1, .int 0]) (rest := [.int (xCell d ((f_Disk_byteAt d x1 3).1) 0)]) rfl (ci := 1) rfl d_Finder_lastOf_25 gw_711 gw_198 gw_199 mw_Disk_cell nh_Disk_cell pn_Disk_cell rfl) d_Finder_lastOf_25 pl_Disk_cell (Nat.le_of_ble_eq_true rfl) (Nat.le_of_ble_eq_true rfl) (Nat.le_of_ble_eq_true rfl) rfl rfl (c_Disk_cell (e0 := e0) (tl := (HF f tl))  d x1 0) (Or.inl (len1 (lenHD (lenHF rfl)))) ?_
  refine ev_icmp_ne (tgt := 46) d_Finder_lastOf_28 rfl (fun h1 => ?_) (fun h1 => ?_)
  · rw [if_pos h1]
    exact ev_pick [1, 2] rfl (e_B_Finder_lastOf_46     d f x1)
  · rw [if_neg h1]
    refine ev_aload_n d_Finder_lastOf_31 rfl rfl ?_
    refine ev_get (v := .ref 1) gi_Finder (ci := 2) rfl rfl 0 (by decide) gw_162 rfl d_Finder_lastOf_32 ?_
    refine ev_iload_n d_Finder_lastOf_35 rfl rfl ?_
    refine ev_iconst (v := 3) d_Finder_lastOf_36 rfl ?_
    refine ev_callr (Mc := M_Disk_cell) (v := some (.int (xCell d ((f_Disk_byteAt d x1 3).1) 3))) (h1 := (e0 :: (HD d (HF f tl)))) (k2 := 0) (n2 := 0) (inv_V (q := 1) (av := [.int ((f_Disk_byteAt d x1 3).1), .int 3]) (rest := []) rfl (ci := 1) rfl d_Finder_lastOf_37 gw_711 gw_198 gw_199 mw_Disk_cell nh_Disk_cell pn_Disk_cell rfl) d_Finder_lastOf_37 pl_Disk_cell (Nat.le_of_ble_eq_true rfl) (Nat.le_of_ble_eq_true rfl) (Nat.le_of_ble_eq_true rfl) rfl rfl (c_Disk_cell (e0 := e0) (tl := (HF f tl))  d ((f_Disk_byteAt d x1 3).1) 3) (Or.inl (len1 (lenHD (lenHF rfl)))) ?_
    refine ev_iconst (v := -1) d_Finder_lastOf_40 rfl ?_
    refine ev_icmp_ne (tgt := 46) d_Finder_lastOf_41 rfl (fun h2 => ?_) (fun h2 => ?_)
    · rw [if_pos h2]
      exact ev_pick [1, 2] rfl (e_B_Finder_lastOf_46     d f x1)
    · rw [if_neg h2]
      refine ev_iload_n d_Finder_lastOf_44 rfl rfl ?_
      exact ev_zret (ty := .int) rfl rfl d_Finder_lastOf_45
def B_Finder_pageOf_55   (d : DS) (f : FS) (x4 : Int32) : Option (Int32 × DS) :=
  some (x4, d)
theorem e_B_Finder_pageOf_55 {sc : Nat × (Nat → Int32)} {e0 : mn_E} {tl : List mn_E}    (d : DS) (f : FS) (x4 : Int32) : Ev sc 3 48 0 0 M_Finder_pageOf 55 [(4, .int x4)] [] (e0 :: (HD d (HF f tl))) (mapR ouI (fun z => (e0 :: (HD z (HF f tl)))) (B_Finder_pageOf_55 d f x4)) := by
  unfold B_Finder_pageOf_55
  refine ev_iload d_Finder_pageOf_55 rfl ?_
  exact ev_zret (ty := .int) rfl rfl d_Finder_pageOf_57
def B_Finder_pageOf_47  (r21 : DS → FS → Int32 → Int32 → Int32 → Option (Int32 × DS)) (d : DS) (f : FS) (x3 : Int32) (x5 : Int32) (t0 : Int32) : Option (Int32 × DS) :=
  r21 d f x3 t0 (x5 + 1)
theorem e_B_Finder_pageOf_47 {sc : Nat × (Nat → Int32)} {e0 : mn_E} {tl : List mn_E}  (r21 : DS → FS → Int32 → Int32 → Int32 → Option (Int32 × DS)) (hr21 : ∀ (d : DS) (f : FS) (x3 : Int32) (x4 : Int32) (x5 : Int32), Ev sc 3 48 0 0 M_Finder_pageOf 21 [(0, .ref 5), (3, .int x3), (4, .int x4), (5, .int x5)] [] (e0 :: (HD d (HF f tl))) (mapR ouI (fun z => (e0 :: (HD z (HF f tl)))) (r21 d f x3 x4 x5))) (d : DS) (f : FS) (x3 : Int32) (x5 : Int32) (t0 : Int32) : Ev sc 3 48 0 0 M_Finder_pageOf 47 [(0, .ref 5), (3, .int x3), (5, .int x5)] [.int t0] (e0 :: (HD d (HF f tl))) (mapR ouI (fun z => (e0 :: (HD z (HF f tl)))) (B_Finder_pageOf_47 r21 d f x3 x5 t0)) := by
  unfold B_Finder_pageOf_47
  refine ev_istore d_Finder_pageOf_47 (by decide) rfl ?_
  refine ev_iinc (v := (x5 + 1)) d_Finder_pageOf_49 rfl rfl (by decide) rfl ?_
  refine ev_goto (tgt := 21) d_Finder_pageOf_52 rfl ?_
  exact ev_pick [2, 3, 1, 0] rfl (hr21 d f x3 t0 (x5 + 1))
def L_Finder_pageOf_21   : Nat → DS → FS → Int32 → Int32 → Int32 → Option (Int32 × DS)
  | 0, _, _, _, _, _ => none
  | n + 1, d, f, x3, x4, x5 =>
  if x3 ≤ x5 then (B_Finder_pageOf_55   d f x4) else (if 40 ≤ x5 then (B_Finder_pageOf_55   d f x4) else (if x4 = (-1) then (B_Finder_pageOf_55   d f x4) else (B_Finder_pageOf_47  (L_Finder_pageOf_21 n) ((f_Finder_follow d f x4 3).2) f x3 x5 ((f_Finder_follow d f x4 3).1))))
theorem e_L_Finder_pageOf_21 {sc : Nat × (Nat → Int32)} {e0 : mn_E} {tl : List mn_E}    : ∀ (n : Nat) (d : DS) (f : FS) (x3 : Int32) (x4 : Int32) (x5 : Int32), Ev sc 3 48 0 0 M_Finder_pageOf 21 [(0, .ref 5), (3, .int x3), (4, .int x4), (5, .int x5)] [] (e0 :: (HD d (HF f tl))) (mapR ouI (fun z => (e0 :: (HD z (HF f tl)))) (L_Finder_pageOf_21   n d f x3 x4 x5)) := by
  intro n
  induction n with
  | zero => intro d f x3 x4 x5; exact ev_none
  | succ n ih =>
    intro d f x3 x4 x5
    rw [L_Finder_pageOf_21]
    refine ev_iload d_Finder_pageOf_21 rfl ?_
    refine ev_iload_n d_Finder_pageOf_23 rfl rfl ?_
    refine ev_icmp_ge (tgt := 55) d_Finder_pageOf_24 rfl (fun h1 => ?_) (fun h1 => ?_)
    · rw [if_pos h1]
      exact ev_pick [2] rfl (e_B_Finder_pageOf_55     d f x4)
    · rw [if_neg h1]
      refine ev_iload d_Finder_pageOf_27 rfl ?_
      refine ev_bipush (v := 40) d_Finder_pageOf_29 rfl ?_
      refine ev_icmp_ge (tgt := 55) d_Finder_pageOf_31 rfl (fun h2 => ?_) (fun h2 => ?_)
      · rw [if_pos h2]
        exact ev_pick [2] rfl (e_B_Finder_pageOf_55     d f x4)
      · rw [if_neg h2]
        refine ev_iload d_Finder_pageOf_34 rfl ?_
        refine ev_iconst (v := -1) d_Finder_pageOf_36 rfl ?_
        refine ev_icmp_eq (tgt := 55) d_Finder_pageOf_37 rfl (fun h3 => ?_) (fun h3 => ?_)
        · rw [if_pos h3]
          exact ev_pick [2] rfl (e_B_Finder_pageOf_55     d f x4)
        · rw [if_neg h3]
          refine ev_aload_n d_Finder_pageOf_40 rfl rfl ?_
          refine ev_iload d_Finder_pageOf_41 rfl ?_
          refine ev_iconst (v := 3) d_Finder_pageOf_43 rfl ?_
          refine ev_callr (Mc := M_Finder_follow) (v := some (.int ((f_Finder_follow d f x4 3).1))) (h1 := (e0 :: (HD ((f_Finder_follow d f x4 3).2) (HF f tl)))) (k2 := 0) (n2 := 0) (inv_V (q := 5) (av := [.int x4, .int 3]) (rest := []) rfl (ci := 2) rfl d_Finder_pageOf_44 gw_874 gw_708 gw_709 mw_Finder_follow nh_Finder_follow pn_Finder_follow rfl) d_Finder_pageOf_44 pl_Finder_follow (Nat.le_of_ble_eq_true rfl) (Nat.le_of_ble_eq_true rfl) (Nat.le_of_ble_eq_true rfl) rfl rfl (e_f_Finder_follow (e0 := e0) (tl := tl)  d f x4 3) (Or.inl (len1 (lenHD (lenHF rfl)))) ?_
          exact ev_pick [0, 1, 3] rfl (e_B_Finder_pageOf_47   (L_Finder_pageOf_21 n) ih ((f_Finder_follow d f x4 3).2) f x3 x5 ((f_Finder_follow d f x4 3).1))
def f_Finder_pageOf   (d : DS) (f : FS) (x1 : Int32) (x2 : Int32) (x3 : Int32) : Option (Int32 × DS) :=
  if ¬ (xCell d x2 1) = x3 then (L_Finder_pageOf_21   100 d f x3 x1 0) else (some (x2, d))
theorem e_f_Finder_pageOf {sc : Nat × (Nat → Int32)} {e0 : mn_E} {tl : List mn_E}    (d : DS) (f : FS) (x1 : Int32) (x2 : Int32) (x3 : Int32) : Ev sc 3 48 0 0 M_Finder_pageOf 0 [(0, .ref 5), (1, .int x1), (2, .int x2), (3, .int x3)] [] (e0 :: (HD d (HF f tl))) (mapR ouI (fun z => (e0 :: (HD z (HF f tl)))) (f_Finder_pageOf d f x1 x2 x3)) := by
  unfold f_Finder_pageOf
  refine ev_aload_n d_Finder_pageOf_0 rfl rfl ?_
  refine ev_get (v := .ref 1) gi_Finder (ci := 2) rfl rfl 0 (by decide) gw_162 rfl d_Finder_pageOf_1 ?_
  refine ev_iload_n d_Finder_pageOf_4 rfl rfl ?_
  refine ev_iconst (v := 1) d_Finder_pageOf_5 rfl ?_
  refine ev_callr (Mc := M_Disk_cell) (v := some (.int (xCell d x2 1))) (h1 := (e0 :: (HD d (HF f tl)))) (k2 := 0) (n2 := 0) (inv_V (q := 1) (av := [.int x2, .int 1]) (rest := []) rfl (ci := 1) rfl d_Finder_pageOf_6 gw_711 gw_198 gw_199 mw_Disk_cell nh_Disk_cell pn_Disk_cell rfl) d_Finder_pageOf_6 pl_Disk_cell (Nat.le_of_ble_eq_true rfl) (Nat.le_of_ble_eq_true rfl) (Nat.le_of_ble_eq_true rfl) rfl rfl (c_Disk_cell (e0 := e0) (tl := (HF f tl))  d x2 1) (Or.inl (len1 (lenHD (lenHF rfl)))) ?_
  refine ev_iload_n d_Finder_pageOf_9 rfl rfl ?_
  refine ev_icmp_ne (tgt := 15) d_Finder_pageOf_10 rfl (fun h1 => ?_) (fun h1 => ?_)
  · rw [if_pos h1]
    refine ev_iload_n d_Finder_pageOf_15 rfl rfl ?_
    refine ev_istore d_Finder_pageOf_16 (by decide) rfl ?_
    refine ev_iconst (v := 0) d_Finder_pageOf_18 rfl ?_
    refine ev_istore d_Finder_pageOf_19 (by decide) rfl ?_
    exact ev_pick [2, 5, 1, 0] rfl (e_L_Finder_pageOf_21     100 d f x3 x1 0)
  · rw [if_neg h1]
    refine ev_iload_n d_Finder_pageOf_13 rfl rfl ?_
    exact ev_zret (ty := .int) rfl rfl d_Finder_pageOf_14
def B_Map_release_15   (d : DS) (f : FS) (w : WS) (m : MS) (x1 : Int32) : ((Nat ⊕ Unit) × (DS × MS)) :=
  (.inr (), (d, (mSFre m ((mFre m) ||| (1 <<< (x1.toInt64 &&& 63))))))
theorem e_B_Map_release_15 {sc : Nat × (Nat → Int32)} {e0 : mn_E} {tl : List mn_E}    (d : DS) (f : FS) (w : WS) (m : MS) (x1 : Int32) : Ev sc 7 93 0 0 M_Map_release 15 [(0, .ref 8), (1, .int x1)] [] (e0 :: (HD d (HF f (HW w (HM m tl))))) (mapT ouVT (fun z => (e0 :: (HD z.1 (HF f (HW w (HM z.2 tl)))))) (B_Map_release_15 d f w m x1)) := by
  unfold B_Map_release_15
  refine ev_aload_n d_Map_release_15 rfl rfl ?_
  refine ev_dup d_Map_release_16 rfl ?_
  refine ev_get (v := .long (mFre m)) gi_Map (ci := 4) rfl rfl 6 (by decide) gw_246 rfl d_Map_release_17 ?_
  refine ev_lconst (v := 1) d_Map_release_20 rfl ?_
  refine ev_iload_n d_Map_release_21 rfl rfl ?_
  refine ev_lshl d_Map_release_22 ?_
  refine ev_lor d_Map_release_23 ?_
  refine ev_put (h2 := (e0 :: (HD d (HF f (HW w (HM (mSFre m ((mFre m) ||| (1 <<< (x1.toInt64 &&& 63)))) tl)))))) gi_Map ft_Map fo_Map fn_Map (ci := 4) rfl rfl 6 (by decide) gw_246 rfl rfl (fun _ => rfl) (fun _ => rfl) (Nat.le_of_ble_eq_true rfl) rfl d_Map_release_24 ?_
  exact ev_vret rfl d_Map_release_27
def B_Map_release_7   (d : DS) (f : FS) (w : WS) (m : MS) (x1 : Int32) : ((Nat ⊕ Unit) × (DS × MS)) :=
  B_Map_release_15   (xErase d x1) f w m x1
theorem e_B_Map_release_7 {sc : Nat × (Nat → Int32)} {e0 : mn_E} {tl : List mn_E}    (d : DS) (f : FS) (w : WS) (m : MS) (x1 : Int32) : Ev sc 7 93 0 0 M_Map_release 7 [(0, .ref 8), (1, .int x1)] [] (e0 :: (HD d (HF f (HW w (HM m tl))))) (mapT ouVT (fun z => (e0 :: (HD z.1 (HF f (HW w (HM z.2 tl)))))) (B_Map_release_7 d f w m x1)) := by
  unfold B_Map_release_7
  refine ev_aload_n d_Map_release_7 rfl rfl ?_
  refine ev_get (v := .ref 1) gi_Map (ci := 4) rfl rfl 0 (by decide) gw_240 rfl d_Map_release_8 ?_
  refine ev_iload_n d_Map_release_11 rfl rfl ?_
  refine ev_callr (Mc := M_Disk_erase) (v := none) (h1 := (e0 :: (HD (xErase d x1) (HF f (HW w (HM m tl)))))) (k2 := 0) (n2 := 0) (inv_V (q := 1) (av := [.int x1]) (rest := []) rfl (ci := 1) rfl d_Map_release_12 gw_943 gw_174 gw_175 mw_Disk_erase nh_Disk_erase pn_Disk_erase rfl) d_Map_release_12 pl_Disk_erase (Nat.le_of_ble_eq_true rfl) (Nat.le_of_ble_eq_true rfl) (Nat.le_of_ble_eq_true rfl) rfl rfl (c_Disk_erase (e0 := e0) (tl := (HF f (HW w (HM m tl))))  d x1) (Or.inl (len1 (lenHD (lenHF (lenHW (lenHM rfl)))))) ?_
  exact ev_pick [0, 1] rfl (e_B_Map_release_15     (xErase d x1) f w m x1)
def f_Map_release   (d : DS) (f : FS) (w : WS) (m : MS) (x1 : Int32) : ((Nat ⊕ Unit) × (DS × MS)) :=
  thM (f_Disk_spendWrite d) (fun x z => (.inl x, (z, m))) (fun v z => B_Map_release_7   z f w m x1)
theorem e_f_Map_release {sc : Nat × (Nat → Int32)} {e0 : mn_E} {tl : List mn_E}    (d : DS) (f : FS) (w : WS) (m : MS) (x1 : Int32) : Ev sc 7 93 0 0 M_Map_release 0 [(0, .ref 8), (1, .int x1)] [] (e0 :: (HD d (HF f (HW w (HM m tl))))) (mapT ouVT (fun z => (e0 :: (HD z.1 (HF f (HW w (HM z.2 tl)))))) (f_Map_release d f w m x1)) := by
  unfold f_Map_release
  refine ev_aload_n d_Map_release_0 rfl rfl ?_
  refine ev_get (v := .ref 1) gi_Map (ci := 4) rfl rfl 0 (by decide) gw_240 rfl d_Map_release_1 ?_
  refine ev_callT (q := (f_Disk_spendWrite d)) (ou := ouV) (Hs := (fun z => (e0 :: (HD z (HF f (HW w (HM m tl))))))) (inv_V (q := 1) (av := []) (rest := []) rfl (ci := 1) rfl d_Map_release_4 gw_843 gw_791 gw_792 mw_Disk_spendWrite nh_Disk_spendWrite pn_Disk_spendWrite rfl) d_Map_release_4 pl_Disk_spendWrite (Nat.le_of_ble_eq_true rfl) (Nat.le_of_ble_eq_true rfl) (Nat.le_of_ble_eq_true rfl) (e_f_Disk_spendWrite (e0 := e0) (tl := (HF f (HW w (HM m tl))))  d ) (fun _ => (len1 (lenHD (lenHF (lenHW (lenHM rfl)))))) rfl (fun x z h1 => ?_) (fun v z h1 => ⟨_, rfl, ?_⟩)
  · rw [h1]; rfl
  · rw [h1]
    exact ev_pick [0, 1] rfl (e_B_Map_release_7     z f w m x1)
def B_Walk_seekUsed_35   (d : DS) (f : FS) (w : WS) : Option ((Nat ⊕ Int32) × (DS × WS)) :=
  some (.inr 0, (d, w))
theorem e_B_Walk_seekUsed_35 {sc : Nat × (Nat → Int32)} {e0 : mn_E} {tl : List mn_E}    (d : DS) (f : FS) (w : WS) : Ev sc 8 107 0 0 M_Walk_seekUsed 35 [] [] (e0 :: (HD d (HF f (HW w tl)))) (mapR ouIT (fun z => (e0 :: (HD z.1 (HF f (HW z.2 tl))))) (B_Walk_seekUsed_35 d f w)) := by
  unfold B_Walk_seekUsed_35
  refine ev_iconst (v := 0) d_Walk_seekUsed_35 rfl ?_
  exact ev_zret (ty := .boolean) rfl rfl d_Walk_seekUsed_36
def B_Walk_seekUsed_17  (r7 : DS → FS → WS → Int32 → Option ((Nat ⊕ Int32) × (DS × WS))) (d : DS) (f : FS) (w : WS) (x2 : Int32) (t0 : Int32) : Option ((Nat ⊕ Int32) × (DS × WS)) :=
  if t0 = 0 then (B_Walk_seekUsed_35   d f w) else (if ((f_Walk_serialHere d f w).1) = 0 then (r7 d f w (x2 + 1)) else (some (.inr 1, (d, w))))
theorem e_B_Walk_seekUsed_17 {sc : Nat × (Nat → Int32)} {e0 : mn_E} {tl : List mn_E}  (r7 : DS → FS → WS → Int32 → Option ((Nat ⊕ Int32) × (DS × WS))) (hr7 : ∀ (d : DS) (f : FS) (w : WS) (x2 : Int32), Ev sc 8 107 0 0 M_Walk_seekUsed 7 [(0, .ref 7), (2, .int x2)] [] (e0 :: (HD d (HF f (HW w tl)))) (mapR ouIT (fun z => (e0 :: (HD z.1 (HF f (HW z.2 tl))))) (r7 d f w x2))) (d : DS) (f : FS) (w : WS) (x2 : Int32) (t0 : Int32) : Ev sc 8 107 0 0 M_Walk_seekUsed 17 [(0, .ref 7), (2, .int x2)] [.int t0] (e0 :: (HD d (HF f (HW w tl)))) (mapR ouIT (fun z => (e0 :: (HD z.1 (HF f (HW z.2 tl))))) (B_Walk_seekUsed_17 r7 d f w x2 t0)) := by
  unfold B_Walk_seekUsed_17
  refine ev_if_eq (tgt := 35) d_Walk_seekUsed_17 rfl (fun h1 => ?_) (fun h1 => ?_)
  · rw [if_pos h1]
    exact ev_pick [] rfl (e_B_Walk_seekUsed_35     d f w)
  · rw [if_neg h1]
    refine ev_aload_n d_Walk_seekUsed_20 rfl rfl ?_
    refine ev_callr (Mc := M_Walk_serialHere) (v := some (.int ((f_Walk_serialHere d f w).1))) (h1 := (e0 :: (HD d (HF f (HW w tl))))) (k2 := 0) (n2 := 0) (inv_V (q := 7) (av := []) (rest := []) rfl (ci := 3) rfl d_Walk_seekUsed_21 gw_730 gw_731 gw_732 mw_Walk_serialHere nh_Walk_serialHere pn_Walk_serialHere rfl) d_Walk_seekUsed_21 pl_Walk_serialHere (Nat.le_of_ble_eq_true rfl) (Nat.le_of_ble_eq_true rfl) (Nat.le_of_ble_eq_true rfl) rfl rfl (e_f_Walk_serialHere (e0 := e0) (tl := tl)  d f w ) (Or.inl (len1 (lenHD (lenHF (lenHW rfl))))) ?_
    refine ev_if_eq (tgt := 29) d_Walk_seekUsed_24 rfl (fun h2 => ?_) (fun h2 => ?_)
    · rw [if_pos h2]
      refine ev_iinc (v := (x2 + 1)) d_Walk_seekUsed_29 rfl rfl (by decide) rfl ?_
      refine ev_goto (tgt := 7) d_Walk_seekUsed_32 rfl ?_
      exact ev_pick [1, 0] rfl (hr7 d f w (x2 + 1))
    · rw [if_neg h2]
      refine ev_iconst (v := 1) d_Walk_seekUsed_27 rfl ?_
      exact ev_zret (ty := .boolean) rfl rfl d_Walk_seekUsed_28
def L_Walk_seekUsed_7   : Nat → DS → FS → WS → Int32 → Option ((Nat ⊕ Int32) × (DS × WS))
  | 0, _, _, _, _ => none
  | n + 1, d, f, w, x2 =>
  if 80 ≤ x2 then (B_Walk_seekUsed_35   d f w) else (bnd (f_Walk_step d f w) (fun q => thM q (fun x z => some (.inl x, (z.1, z.2))) (fun v z => B_Walk_seekUsed_17  (L_Walk_seekUsed_7 n) z.1 f z.2 x2 v)))
theorem e_L_Walk_seekUsed_7 {sc : Nat × (Nat → Int32)} {e0 : mn_E} {tl : List mn_E}    : ∀ (n : Nat) (d : DS) (f : FS) (w : WS) (x2 : Int32), Ev sc 8 107 0 0 M_Walk_seekUsed 7 [(0, .ref 7), (2, .int x2)] [] (e0 :: (HD d (HF f (HW w tl)))) (mapR ouIT (fun z => (e0 :: (HD z.1 (HF f (HW z.2 tl))))) (L_Walk_seekUsed_7   n d f w x2)) := by
  intro n
  induction n with
  | zero => intro d f w x2; exact ev_none
  | succ n ih =>
    intro d f w x2
    rw [L_Walk_seekUsed_7]
    refine ev_iload_n d_Walk_seekUsed_7 rfl rfl ?_
    refine ev_bipush (v := 80) d_Walk_seekUsed_8 rfl ?_
    refine ev_icmp_ge (tgt := 35) d_Walk_seekUsed_10 rfl (fun h1 => ?_) (fun h1 => ?_)
    · rw [if_pos h1]
      exact ev_pick [] rfl (e_B_Walk_seekUsed_35     d f w)
    · rw [if_neg h1]
      refine ev_aload_n d_Walk_seekUsed_13 rfl rfl ?_
      refine ev_callBT (rc := (f_Walk_step d f w)) (ou := ouI) (Hs := (fun z => (e0 :: (HD z.1 (HF f (HW z.2 tl)))))) (inv_V (q := 7) (av := []) (rest := []) rfl (ci := 3) rfl d_Walk_seekUsed_14 gw_701 gw_703 gw_31 mw_Walk_step nh_Walk_step pn_Walk_step rfl) d_Walk_seekUsed_14 pl_Walk_step (Nat.le_of_ble_eq_true rfl) (Nat.le_of_ble_eq_true rfl) (Nat.le_of_ble_eq_true rfl) (e_f_Walk_step (e0 := e0) (tl := tl)  d f w ) (fun _ => (len1 (lenHD (lenHF (lenHW rfl))))) rfl (fun x z h2 => ?_) (fun v z h2 => ⟨_, rfl, ?_⟩)
      · rfl
      · exact ev_pick [0, 1] rfl (e_B_Walk_seekUsed_17   (L_Walk_seekUsed_7 n) ih z.1 f z.2 x2 v)
def B_Walk_seekUsed_5   (d : DS) (f : FS) (w : WS) : Option ((Nat ⊕ Int32) × (DS × WS)) :=
  L_Walk_seekUsed_7   100 d f w 0
theorem e_B_Walk_seekUsed_5 {sc : Nat × (Nat → Int32)} {e0 : mn_E} {tl : List mn_E}    (d : DS) (f : FS) (w : WS) : Ev sc 8 107 0 0 M_Walk_seekUsed 5 [(0, .ref 7)] [] (e0 :: (HD d (HF f (HW w tl)))) (mapR ouIT (fun z => (e0 :: (HD z.1 (HF f (HW z.2 tl))))) (B_Walk_seekUsed_5 d f w)) := by
  unfold B_Walk_seekUsed_5
  refine ev_iconst (v := 0) d_Walk_seekUsed_5 rfl ?_
  refine ev_istore_n d_Walk_seekUsed_6 rfl (by decide) rfl ?_
  exact ev_pick [1, 0] rfl (e_L_Walk_seekUsed_7     100 d f w 0)
def f_Walk_seekUsed   (d : DS) (f : FS) (w : WS) (x1 : Int32) : Option ((Nat ⊕ Int32) × (DS × WS)) :=
  B_Walk_seekUsed_5   d f ((f_Walk_start d f w x1).2)
theorem e_f_Walk_seekUsed {sc : Nat × (Nat → Int32)} {e0 : mn_E} {tl : List mn_E}    (d : DS) (f : FS) (w : WS) (x1 : Int32) : Ev sc 8 107 0 0 M_Walk_seekUsed 0 [(0, .ref 7), (1, .int x1)] [] (e0 :: (HD d (HF f (HW w tl)))) (mapR ouIT (fun z => (e0 :: (HD z.1 (HF f (HW z.2 tl))))) (f_Walk_seekUsed d f w x1)) := by
  unfold f_Walk_seekUsed
  refine ev_aload_n d_Walk_seekUsed_0 rfl rfl ?_
  refine ev_iload_n d_Walk_seekUsed_1 rfl rfl ?_
  refine ev_callr (Mc := M_Walk_start) (v := none) (h1 := (e0 :: (HD d (HF f (HW ((f_Walk_start d f w x1).2) tl))))) (k2 := 0) (n2 := 0) (inv_V (q := 7) (av := [.int x1]) (rest := []) rfl (ci := 3) rfl d_Walk_seekUsed_2 gw_697 gw_699 gw_30 mw_Walk_start nh_Walk_start pn_Walk_start rfl) d_Walk_seekUsed_2 pl_Walk_start (Nat.le_of_ble_eq_true rfl) (Nat.le_of_ble_eq_true rfl) (Nat.le_of_ble_eq_true rfl) rfl rfl (e_f_Walk_start (e0 := e0) (tl := tl)  d f w x1) (Or.inl (len1 (lenHD (lenHF (lenHW rfl))))) ?_
  exact ev_pick [0] rfl (e_B_Walk_seekUsed_5     d f ((f_Walk_start d f w x1).2))
def B_Finder_forget_6   (d : DS) (f : FS) : Option (Unit × FS) :=
  some ((), f)
theorem e_B_Finder_forget_6 {sc : Nat × (Nat → Int32)} {e0 : mn_E} {tl : List mn_E}    (d : DS) (f : FS) : Ev sc 1 14 0 0 M_Finder_forget 6 [] [] (e0 :: (HD d (HF f tl))) (mapR ouV (fun z => (e0 :: (HD d (HF z tl)))) (B_Finder_forget_6 d f)) := by
  unfold B_Finder_forget_6
  exact ev_vret rfl d_Finder_forget_6
def f_Finder_forget   (d : DS) (f : FS) (x1 : Int32) : Option (Unit × FS) :=
  bnd (f_Finder_remember d f x1 (-1)) (fun q => B_Finder_forget_6   d q.2)
theorem e_f_Finder_forget {sc : Nat × (Nat → Int32)} {e0 : mn_E} {tl : List mn_E}    (d : DS) (f : FS) (x1 : Int32) : Ev sc 1 14 0 0 M_Finder_forget 0 [(0, .ref 5), (1, .int x1)] [] (e0 :: (HD d (HF f tl))) (mapR ouV (fun z => (e0 :: (HD d (HF z tl)))) (f_Finder_forget d f x1)) := by
  unfold f_Finder_forget
  refine ev_aload_n d_Finder_forget_0 rfl rfl ?_
  refine ev_iload_n d_Finder_forget_1 rfl rfl ?_
  refine ev_iconst (v := -1) d_Finder_forget_2 rfl ?_
  refine ev_callB (rc := (f_Finder_remember d f x1 (-1))) (ou := ouV) (Hs := (fun z => (e0 :: (HD d (HF z tl))))) (inv_V (q := 5) (av := [.int x1, .int (-1)]) (rest := []) rfl (ci := 2) rfl d_Finder_forget_3 gw_322 gw_323 gw_324 mw_Finder_remember nh_Finder_remember pn_Finder_remember rfl) d_Finder_forget_3 pl_Finder_remember (Nat.le_of_ble_eq_true rfl) (Nat.le_of_ble_eq_true rfl) (Nat.le_of_ble_eq_true rfl) (e_f_Finder_remember (e0 := e0) (tl := tl)  d f x1 (-1)) (fun _ => (len1 (lenHD (lenHF rfl)))) (fun v z h1 => ⟨_, rfl, ?_⟩)
  exact ev_pick [] rfl (e_B_Finder_forget_6     d z)
def B_Walk_seekIndex_33   (d : DS) (f : FS) (w : WS) : Option ((Nat ⊕ Int32) × (DS × WS)) :=
  some (.inr 0, (d, w))
theorem e_B_Walk_seekIndex_33 {sc : Nat × (Nat → Int32)} {e0 : mn_E} {tl : List mn_E}    (d : DS) (f : FS) (w : WS) : Ev sc 8 107 0 0 M_Walk_seekIndex 33 [] [] (e0 :: (HD d (HF f (HW w tl)))) (mapR ouIT (fun z => (e0 :: (HD z.1 (HF f (HW z.2 tl))))) (B_Walk_seekIndex_33 d f w)) := by
  unfold B_Walk_seekIndex_33
  refine ev_iconst (v := 0) d_Walk_seekIndex_33 rfl ?_
  exact ev_zret (ty := .boolean) rfl rfl d_Walk_seekIndex_34
def B_Walk_seekIndex_17  (r7 : DS → FS → WS → Int32 → Int32 → Option ((Nat ⊕ Int32) × (DS × WS))) (d : DS) (f : FS) (w : WS) (x2 : Int32) (x3 : Int32) (t0 : Int32) : Option ((Nat ⊕ Int32) × (DS × WS)) :=
  if t0 = 0 then (B_Walk_seekIndex_33   d f w) else (if ¬ x3 = x2 then (r7 d f w x2 (x3 + 1)) else (some (.inr 1, (d, w))))
theorem e_B_Walk_seekIndex_17 {sc : Nat × (Nat → Int32)} {e0 : mn_E} {tl : List mn_E}  (r7 : DS → FS → WS → Int32 → Int32 → Option ((Nat ⊕ Int32) × (DS × WS))) (hr7 : ∀ (d : DS) (f : FS) (w : WS) (x2 : Int32) (x3 : Int32), Ev sc 8 107 0 0 M_Walk_seekIndex 7 [(0, .ref 7), (2, .int x2), (3, .int x3)] [] (e0 :: (HD d (HF f (HW w tl)))) (mapR ouIT (fun z => (e0 :: (HD z.1 (HF f (HW z.2 tl))))) (r7 d f w x2 x3))) (d : DS) (f : FS) (w : WS) (x2 : Int32) (x3 : Int32) (t0 : Int32) : Ev sc 8 107 0 0 M_Walk_seekIndex 17 [(0, .ref 7), (2, .int x2), (3, .int x3)] [.int t0] (e0 :: (HD d (HF f (HW w tl)))) (mapR ouIT (fun z => (e0 :: (HD z.1 (HF f (HW z.2 tl))))) (B_Walk_seekIndex_17 r7 d f w x2 x3 t0)) := by
  unfold B_Walk_seekIndex_17
  refine ev_if_eq (tgt := 33) d_Walk_seekIndex_17 rfl (fun h1 => ?_) (fun h1 => ?_)
  · rw [if_pos h1]
    exact ev_pick [] rfl (e_B_Walk_seekIndex_33     d f w)
  · rw [if_neg h1]
    refine ev_iload_n d_Walk_seekIndex_20 rfl rfl ?_
    refine ev_iload_n d_Walk_seekIndex_21 rfl rfl ?_
    refine ev_icmp_ne (tgt := 27) d_Walk_seekIndex_22 rfl (fun h2 => ?_) (fun h2 => ?_)
    · rw [if_pos h2]
      refine ev_iinc (v := (x3 + 1)) d_Walk_seekIndex_27 rfl rfl (by decide) rfl ?_
      refine ev_goto (tgt := 7) d_Walk_seekIndex_30 rfl ?_
      exact ev_pick [1, 2, 0] rfl (hr7 d f w x2 (x3 + 1))
    · rw [if_neg h2]
      refine ev_iconst (v := 1) d_Walk_seekIndex_25 rfl ?_
      exact ev_zret (ty := .boolean) rfl rfl d_Walk_seekIndex_26
def L_Walk_seekIndex_7   : Nat → DS → FS → WS → Int32 → Int32 → Option ((Nat ⊕ Int32) × (DS × WS))
  | 0, _, _, _, _, _ => none
  | n + 1, d, f, w, x2, x3 =>
  if 80 ≤ x3 then (B_Walk_seekIndex_33   d f w) else (bnd (f_Walk_step d f w) (fun q => thM q (fun x z => some (.inl x, (z.1, z.2))) (fun v z => B_Walk_seekIndex_17  (L_Walk_seekIndex_7 n) z.1 f z.2 x2 x3 v)))
theorem e_L_Walk_seekIndex_7 {sc : Nat × (Nat → Int32)} {e0 : mn_E} {tl : List mn_E}    : ∀ (n : Nat) (d : DS) (f : FS) (w : WS) (x2 : Int32) (x3 : Int32), Ev sc 8 107 0 0 M_Walk_seekIndex 7 [(0, .ref 7), (2, .int x2), (3, .int x3)] [] (e0 :: (HD d (HF f (HW w tl)))) (mapR ouIT (fun z => (e0 :: (HD z.1 (HF f (HW z.2 tl))))) (L_Walk_seekIndex_7   n d f w x2 x3)) := by
  intro n
  induction n with
  | zero => intro d f w x2 x3; exact ev_none
  | succ n ih =>
    intro d f w x2 x3
    rw [L_Walk_seekIndex_7]
    refine ev_iload_n d_Walk_seekIndex_7 rfl rfl ?_
    refine ev_bipush (v := 80) d_Walk_seekIndex_8 rfl ?_
    refine ev_icmp_ge (tgt := 33) d_Walk_seekIndex_10 rfl (fun h1 => ?_) (fun h1 => ?_)
    · rw [if_pos h1]
      exact ev_pick [] rfl (e_B_Walk_seekIndex_33     d f w)
    · rw [if_neg h1]
      refine ev_aload_n d_Walk_seekIndex_13 rfl rfl ?_
      refine ev_callBT (rc := (f_Walk_step d f w)) (ou := ouI) (Hs := (fun z => (e0 :: (HD z.1 (HF f (HW z.2 tl)))))) (inv_V (q := 7) (av := []) (rest := []) rfl (ci := 3) rfl d_Walk_seekIndex_14 gw_701 gw_703 gw_31 mw_Walk_step nh_Walk_step pn_Walk_step rfl) d_Walk_seekIndex_14 pl_Walk_step (Nat.le_of_ble_eq_true rfl) (Nat.le_of_ble_eq_true rfl) (Nat.le_of_ble_eq_true rfl) (e_f_Walk_step (e0 := e0) (tl := tl)  d f w ) (fun _ => (len1 (lenHD (lenHF (lenHW rfl))))) rfl (fun x z h2 => ?_) (fun v z h2 => ⟨_, rfl, ?_⟩)
      · rfl
      · exact ev_pick [0, 1, 2] rfl (e_B_Walk_seekIndex_17   (L_Walk_seekIndex_7 n) ih z.1 f z.2 x2 x3 v)
def B_Walk_seekIndex_5   (d : DS) (f : FS) (w : WS) (x2 : Int32) : Option ((Nat ⊕ Int32) × (DS × WS)) :=
  L_Walk_seekIndex_7   100 d f w x2 0
theorem e_B_Walk_seekIndex_5 {sc : Nat × (Nat → Int32)} {e0 : mn_E} {tl : List mn_E}    (d : DS) (f : FS) (w : WS) (x2 : Int32) : Ev sc 8 107 0 0 M_Walk_seekIndex 5 [(0, .ref 7), (2, .int x2)] [] (e0 :: (HD d (HF f (HW w tl)))) (mapR ouIT (fun z => (e0 :: (HD z.1 (HF f (HW z.2 tl))))) (B_Walk_seekIndex_5 d f w x2)) := by
  unfold B_Walk_seekIndex_5
  refine ev_iconst (v := 0) d_Walk_seekIndex_5 rfl ?_
  refine ev_istore_n d_Walk_seekIndex_6 rfl (by decide) rfl ?_
  exact ev_pick [1, 2, 0] rfl (e_L_Walk_seekIndex_7     100 d f w x2 0)
def f_Walk_seekIndex   (d : DS) (f : FS) (w : WS) (x1 : Int32) (x2 : Int32) : Option ((Nat ⊕ Int32) × (DS × WS)) :=
  B_Walk_seekIndex_5   d f ((f_Walk_start d f w x1).2) x2
theorem e_f_Walk_seekIndex {sc : Nat × (Nat → Int32)} {e0 : mn_E} {tl : List mn_E}    (d : DS) (f : FS) (w : WS) (x1 : Int32) (x2 : Int32) : Ev sc 8 107 0 0 M_Walk_seekIndex 0 [(0, .ref 7), (1, .int x1), (2, .int x2)] [] (e0 :: (HD d (HF f (HW w tl)))) (mapR ouIT (fun z => (e0 :: (HD z.1 (HF f (HW z.2 tl))))) (f_Walk_seekIndex d f w x1 x2)) := by
  unfold f_Walk_seekIndex
  refine ev_aload_n d_Walk_seekIndex_0 rfl rfl ?_
  refine ev_iload_n d_Walk_seekIndex_1 rfl rfl ?_
  refine ev_callr (Mc := M_Walk_start) (v := none) (h1 := (e0 :: (HD d (HF f (HW ((f_Walk_start d f w x1).2) tl))))) (k2 := 0) (n2 := 0) (inv_V (q := 7) (av := [.int x1]) (rest := []) rfl (ci := 3) rfl d_Walk_seekIndex_2 gw_697 gw_699 gw_30 mw_Walk_start nh_Walk_start pn_Walk_start rfl) d_Walk_seekIndex_2 pl_Walk_start (Nat.le_of_ble_eq_true rfl) (Nat.le_of_ble_eq_true rfl) (Nat.le_of_ble_eq_true rfl) rfl rfl (e_f_Walk_start (e0 := e0) (tl := tl)  d f w x1) (Or.inl (len1 (lenHD (lenHF (lenHW rfl))))) ?_
  exact ev_pick [0, 2] rfl (e_B_Walk_seekIndex_5     d f ((f_Walk_start d f w x1).2) x2)
def B_Finder_forgetAll_13  (r2 : DS → FS → Int32 → Option (Unit × FS)) (d : DS) (f : FS) (x1 : Int32) : Option (Unit × FS) :=
  r2 d f (x1 + 1)
theorem e_B_Finder_forgetAll_13 {sc : Nat × (Nat → Int32)} {e0 : mn_E} {tl : List mn_E}  (r2 : DS → FS → Int32 → Option (Unit × FS)) (hr2 : ∀ (d : DS) (f : FS) (x1 : Int32), Ev sc 2 27 0 0 M_Finder_forgetAll 2 [(0, .ref 5), (1, .int x1)] [] (e0 :: (HD d (HF f tl))) (mapR ouV (fun z => (e0 :: (HD d (HF z tl)))) (r2 d f x1))) (d : DS) (f : FS) (x1 : Int32) : Ev sc 2 27 0 0 M_Finder_forgetAll 13 [(0, .ref 5), (1, .int x1)] [] (e0 :: (HD d (HF f tl))) (mapR ouV (fun z => (e0 :: (HD d (HF z tl)))) (B_Finder_forgetAll_13 r2 d f x1)) := by
  unfold B_Finder_forgetAll_13
  refine ev_iinc (v := (x1 + 1)) d_Finder_forgetAll_13 rfl rfl (by decide) rfl ?_
  refine ev_goto (tgt := 2) d_Finder_forgetAll_16 rfl ?_
  exact ev_pick [1, 0] rfl (hr2 d f (x1 + 1))
def L_Finder_forgetAll_2   : Nat → DS → FS → Int32 → Option (Unit × FS)
  | 0, _, _, _ => none
  | n + 1, d, f, x1 =>
  if 60 < x1 then (some ((), f)) else (bnd (f_Finder_forget d f x1) (fun q => B_Finder_forgetAll_13  (L_Finder_forgetAll_2 n) d q.2 x1))
theorem e_L_Finder_forgetAll_2 {sc : Nat × (Nat → Int32)} {e0 : mn_E} {tl : List mn_E}    : ∀ (n : Nat) (d : DS) (f : FS) (x1 : Int32), Ev sc 2 27 0 0 M_Finder_forgetAll 2 [(0, .ref 5), (1, .int x1)] [] (e0 :: (HD d (HF f tl))) (mapR ouV (fun z => (e0 :: (HD d (HF z tl)))) (L_Finder_forgetAll_2   n d f x1)) := by
  intro n
  induction n with
  | zero => intro d f x1; exact ev_none
  | succ n ih =>
    intro d f x1
    rw [L_Finder_forgetAll_2]
    refine ev_iload_n d_Finder_forgetAll_2 rfl rfl ?_
    refine ev_bipush (v := 60) d_Finder_forgetAll_3 rfl ?_
    refine ev_icmp_gt (tgt := 19) d_Finder_forgetAll_5 rfl (fun h1 => ?_) (fun h1 => ?_)
    · rw [if_pos h1]
      exact ev_vret rfl d_Finder_forgetAll_19
    · rw [if_neg h1]
      refine ev_aload_n d_Finder_forgetAll_8 rfl rfl ?_
      refine ev_iload_n d_Finder_forgetAll_9 rfl rfl ?_
      refine ev_callB (rc := (f_Finder_forget d f x1)) (ou := ouV) (Hs := (fun z => (e0 :: (HD d (HF z tl))))) (inv_V (q := 5) (av := [.int x1]) (rest := []) rfl (ci := 2) rfl d_Finder_forgetAll_10 gw_318 gw_319 gw_320 mw_Finder_forget nh_Finder_forget pn_Finder_forget rfl) d_Finder_forgetAll_10 pl_Finder_forget (Nat.le_of_ble_eq_true rfl) (Nat.le_of_ble_eq_true rfl) (Nat.le_of_ble_eq_true rfl) (e_f_Finder_forget (e0 := e0) (tl := tl)  d f x1) (fun _ => (len1 (lenHD (lenHF rfl)))) (fun v z h2 => ⟨_, rfl, ?_⟩)
      exact ev_pick [0, 1] rfl (e_B_Finder_forgetAll_13   (L_Finder_forgetAll_2 n) ih d z x1)
def f_Finder_forgetAll   (d : DS) (f : FS) : Option (Unit × FS) :=
  L_Finder_forgetAll_2   100 d f 1
theorem e_f_Finder_forgetAll {sc : Nat × (Nat → Int32)} {e0 : mn_E} {tl : List mn_E}    (d : DS) (f : FS) : Ev sc 2 27 0 0 M_Finder_forgetAll 0 [(0, .ref 5)] [] (e0 :: (HD d (HF f tl))) (mapR ouV (fun z => (e0 :: (HD d (HF z tl)))) (f_Finder_forgetAll d f)) := by
  unfold f_Finder_forgetAll
  refine ev_iconst (v := 1) d_Finder_forgetAll_0 rfl ?_
  refine ev_istore_n d_Finder_forgetAll_1 rfl (by decide) rfl ?_
  exact ev_pick [1, 0] rfl (e_L_Finder_forgetAll_2     100 d f 1)
