def f_LV_requirePower   (d : DS) (f : FS) (w : WS) (m : MS) (s : SS) (g : GS) : ((Nat ⊕ Unit) × Unit) :=
  if ¬ ((f_Disk_hasPower d).1) = 0 then ((.inr (), ())) else ((.inl 1, ()))
theorem e_f_LV_requirePower {sc : Nat × (Nat → Int32)} {tl : List mn_E}    (d : DS) (f : FS) (w : WS) (m : MS) (s : SS) (g : GS) : Ev sc 6 81 0 0 M_LV_requirePower 0 [(0, .ref 0)] [] (eLV :: (HD d (HF f (HW w (HM m (HS s (HG g tl))))))) (mapT ouVT (fun z => (eLV :: (HD d (HF f (HW w (HM m (HS s (HG g tl)))))))) (f_LV_requirePower d f w m s g)) := by
  unfold f_LV_requirePower
  refine ev_aload_n d_LV_requirePower_0 rfl rfl ?_
  refine ev_get (v := .ref 1) gi_LV (ci := 0) rfl rfl 0 (by decide) gw_287 rfl d_LV_requirePower_1 ?_
  refine ev_callr (Mc := M_Disk_hasPower) (v := some (.int ((f_Disk_hasPower d).1))) (h1 := (eLV :: (HD d (HF f (HW w (HM m (HS s (HG g tl)))))))) (k2 := 0) (n2 := 0) (inv_V (q := 1) (av := []) (rest := []) rfl (ci := 1) rfl d_LV_requirePower_4 gw_557 gw_558 gw_559 mw_Disk_hasPower nh_Disk_hasPower pn_Disk_hasPower rfl) d_LV_requirePower_4 pl_Disk_hasPower (Nat.le_of_ble_eq_true rfl) (Nat.le_of_ble_eq_true rfl) (Nat.le_of_ble_eq_true rfl) rfl rfl (e_f_Disk_hasPower (e0 := eLV) (tl := (HF f (HW w (HM m (HS s (HG g tl))))))  d ) (Or.inl (len1 (lenHD (lenHF (lenHW (lenHM (lenHS (lenHG rfl)))))))) ?_
  refine ev_if_ne (tgt := 18) d_LV_requirePower_7 rfl (fun h1 => ?_) (fun h1 => ?_)
  · rw [if_pos h1]
    exact ev_vret rfl d_LV_requirePower_18
  · rw [if_neg h1]
    exact ev_throw (x := 1) (names := gd_up) d_LV_requirePower_10 d_LV_requirePower_13 d_LV_requirePower_14 d_LV_requirePower_17 gw_580 gw_581 gw_112 tw_LV_236 (by decide +kernel) (by decide +kernel) rfl (by decide) (Nat.le_of_ble_eq_true rfl)
def B_LV_requireLeader_8   (d : DS) (f : FS) (w : WS) (m : MS) (s : SS) (g : GS) (t0 : Int32) : Option ((Nat ⊕ Int32) × (DS × FS)) :=
  if ¬ t0 = (-1) then (some (.inr t0, (d, f))) else (some (.inl 2, (d, f)))
theorem e_B_LV_requireLeader_8 {sc : Nat × (Nat → Int32)} {tl : List mn_E}    (d : DS) (f : FS) (w : WS) (m : MS) (s : SS) (g : GS) (t0 : Int32) : Ev sc 6 81 0 0 M_LV_requireLeader 8 [] [.int t0] (eLV :: (HD d (HF f (HW w (HM m (HS s (HG g tl))))))) (mapR ouIT (fun z => (eLV :: (HD z.1 (HF z.2 (HW w (HM m (HS s (HG g tl)))))))) (B_LV_requireLeader_8 d f w m s g t0)) := by
  unfold B_LV_requireLeader_8
  refine ev_istore_n d_LV_requireLeader_8 rfl (by decide) rfl ?_
  refine ev_iload_n d_LV_requireLeader_9 rfl rfl ?_
  refine ev_iconst (v := -1) d_LV_requireLeader_10 rfl ?_
  refine ev_icmp_ne (tgt := 22) d_LV_requireLeader_11 rfl (fun h1 => ?_) (fun h1 => ?_)
  · rw [if_pos h1]
    refine ev_iload_n d_LV_requireLeader_22 rfl rfl ?_
    exact ev_zret (ty := .int) rfl rfl d_LV_requireLeader_23
  · rw [if_neg h1]
    exact ev_throw (x := 2) (names := gd_up) d_LV_requireLeader_14 d_LV_requireLeader_17 d_LV_requireLeader_18 d_LV_requireLeader_21 gw_662 gw_663 gw_113 tw_LV_185 (by decide +kernel) (by decide +kernel) rfl (by decide) (Nat.le_of_ble_eq_true rfl)
def f_LV_requireLeader   (d : DS) (f : FS) (w : WS) (m : MS) (s : SS) (g : GS) (x1 : Int32) : Option ((Nat ⊕ Int32) × (DS × FS)) :=
  bnd (f_Finder_leaderOf d f x1) (fun q => B_LV_requireLeader_8   q.2.1 q.2.2 w m s g q.1)
theorem e_f_LV_requireLeader {sc : Nat × (Nat → Int32)} {tl : List mn_E}    (d : DS) (f : FS) (w : WS) (m : MS) (s : SS) (g : GS) (x1 : Int32) : Ev sc 6 81 0 0 M_LV_requireLeader 0 [(0, .ref 0), (1, .int x1)] [] (eLV :: (HD d (HF f (HW w (HM m (HS s (HG g tl))))))) (mapR ouIT (fun z => (eLV :: (HD z.1 (HF z.2 (HW w (HM m (HS s (HG g tl)))))))) (f_LV_requireLeader d f w m s g x1)) := by
  unfold f_LV_requireLeader
  refine ev_aload_n d_LV_requireLeader_0 rfl rfl ?_
  refine ev_get (v := .ref 5) gi_LV (ci := 0) rfl rfl 1 (by decide) gw_288 rfl d_LV_requireLeader_1 ?_
  refine ev_iload_n d_LV_requireLeader_4 rfl rfl ?_
  refine ev_callB (rc := (f_Finder_leaderOf d f x1)) (ou := ouI) (Hs := (fun z => (eLV :: (HD z.1 (HF z.2 (HW w (HM m (HS s (HG g tl))))))))) (inv_V (q := 5) (av := [.int x1]) (rest := []) rfl (ci := 2) rfl d_LV_requireLeader_5 gw_653 gw_654 gw_655 mw_Finder_leaderOf nh_Finder_leaderOf pn_Finder_leaderOf rfl) d_LV_requireLeader_5 pl_Finder_leaderOf (Nat.le_of_ble_eq_true rfl) (Nat.le_of_ble_eq_true rfl) (Nat.le_of_ble_eq_true rfl) (e_f_Finder_leaderOf (e0 := eLV) (tl := (HW w (HM m (HS s (HG g tl)))))  d f x1) (fun _ => (len1 (lenHD (lenHF (lenHW (lenHM (lenHS (lenHG rfl)))))))) (fun v z h1 => ⟨_, rfl, ?_⟩)
  exact ev_pick [] rfl (e_B_LV_requireLeader_8     z.1 z.2 w m s g v)
def B_LV_requireDirectory_5   (d : DS) (f : FS) (w : WS) (m : MS) (s : SS) (g : GS) (t0 : Int32) : Option ((Nat ⊕ Int32) × (DS × FS)) :=
  if ¬ ((f_Disk_isDirectory d t0).1) = 0 then (some (.inr t0, (d, f))) else (some (.inl 3, (d, f)))
theorem e_B_LV_requireDirectory_5 {sc : Nat × (Nat → Int32)} {tl : List mn_E}    (d : DS) (f : FS) (w : WS) (m : MS) (s : SS) (g : GS) (t0 : Int32) : Ev sc 7 95 0 0 M_LV_requireDirectory 5 [(0, .ref 0)] [.int t0] (eLV :: (HD d (HF f (HW w (HM m (HS s (HG g tl))))))) (mapR ouIT (fun z => (eLV :: (HD z.1 (HF z.2 (HW w (HM m (HS s (HG g tl)))))))) (B_LV_requireDirectory_5 d f w m s g t0)) := by
  unfold B_LV_requireDirectory_5
  refine ev_istore_n d_LV_requireDirectory_5 rfl (by decide) rfl ?_
  refine ev_aload_n d_LV_requireDirectory_6 rfl rfl ?_
  refine ev_get (v := .ref 1) gi_LV (ci := 0) rfl rfl 0 (by decide) gw_287 rfl d_LV_requireDirectory_7 ?_
  refine ev_iload_n d_LV_requireDirectory_10 rfl rfl ?_
  refine ev_callr (Mc := M_Disk_isDirectory) (v := some (.int ((f_Disk_isDirectory d t0).1))) (h1 := (eLV :: (HD d (HF f (HW w (HM m (HS s (HG g tl)))))))) (k2 := 0) (n2 := 0) (inv_V (q := 1) (av := [.int t0]) (rest := []) rfl (ci := 1) rfl d_LV_requireDirectory_11 gw_677 gw_432 gw_433 mw_Disk_isDirectory nh_Disk_isDirectory pn_Disk_isDirectory rfl) d_LV_requireDirectory_11 pl_Disk_isDirectory (Nat.le_of_ble_eq_true rfl) (Nat.le_of_ble_eq_true rfl) (Nat.le_of_ble_eq_true rfl) rfl rfl (e_f_Disk_isDirectory (e0 := eLV) (tl := (HF f (HW w (HM m (HS s (HG g tl))))))  d t0) (Or.inl (len1 (lenHD (lenHF (lenHW (lenHM (lenHS (lenHG rfl)))))))) ?_
  refine ev_if_ne (tgt := 25) d_LV_requireDirectory_14 rfl (fun h1 => ?_) (fun h1 => ?_)
  · rw [if_pos h1]
    refine ev_iload_n d_LV_requireDirectory_25 rfl rfl ?_
    exact ev_zret (ty := .int) rfl rfl d_LV_requireDirectory_26
  · rw [if_neg h1]
    exact ev_throw (x := 3) (names := gd_up) d_LV_requireDirectory_17 d_LV_requireDirectory_20 d_LV_requireDirectory_21 d_LV_requireDirectory_24 gw_678 gw_679 gw_114 tw_LV_64 (by decide +kernel) (by decide +kernel) rfl (by decide) (Nat.le_of_ble_eq_true rfl)
def f_LV_requireDirectory   (d : DS) (f : FS) (w : WS) (m : MS) (s : SS) (g : GS) (x1 : Int32) : Option ((Nat ⊕ Int32) × (DS × FS)) :=
  bnd (f_LV_requireLeader d f w m s g x1) (fun q => thM q (fun x z => some (.inl x, (z.1, z.2))) (fun v z => B_LV_requireDirectory_5   z.1 z.2 w m s g v))
theorem e_f_LV_requireDirectory {sc : Nat × (Nat → Int32)} {tl : List mn_E}    (d : DS) (f : FS) (w : WS) (m : MS) (s : SS) (g : GS) (x1 : Int32) : Ev sc 7 95 0 0 M_LV_requireDirectory 0 [(0, .ref 0), (1, .int x1)] [] (eLV :: (HD d (HF f (HW w (HM m (HS s (HG g tl))))))) (mapR ouIT (fun z => (eLV :: (HD z.1 (HF z.2 (HW w (HM m (HS s (HG g tl)))))))) (f_LV_requireDirectory d f w m s g x1)) := by
  unfold f_LV_requireDirectory
  refine ev_aload_n d_LV_requireDirectory_0 rfl rfl ?_
  refine ev_iload_n d_LV_requireDirectory_1 rfl rfl ?_
  refine ev_callBT (rc := (f_LV_requireLeader d f w m s g x1)) (ou := ouI) (Hs := (fun z => (eLV :: (HD z.1 (HF z.2 (HW w (HM m (HS s (HG g tl))))))))) (inv_V (q := 0) (av := [.int x1]) (rest := []) rfl (ci := 0) rfl d_LV_requireDirectory_2 gw_649 gw_651 gw_29 mw_LV_requireLeader nh_LV_requireLeader pn_LV_requireLeader rfl) d_LV_requireDirectory_2 pl_LV_requireLeader (Nat.le_of_ble_eq_true rfl) (Nat.le_of_ble_eq_true rfl) (Nat.le_of_ble_eq_true rfl) (e_f_LV_requireLeader (tl := tl)  d f w m s g x1) (fun _ => (len1 (lenHD (lenHF (lenHW (lenHM (lenHS (lenHG rfl)))))))) rfl (fun x z h1 => ?_) (fun v z h1 => ⟨_, rfl, ?_⟩)
  · rfl
  · exact ev_pick [0] rfl (e_B_LV_requireDirectory_5     z.1 z.2 w m s g v)
def B_LV_writeHint_22   (d : DS) (f : FS) (w : WS) (m : MS) (s : SS) (g : GS) : ((Nat ⊕ Unit) × DS) :=
  (.inr (), d)
theorem e_B_LV_writeHint_22 {sc : Nat × (Nat → Int32)} {tl : List mn_E}    (d : DS) (f : FS) (w : WS) (m : MS) (s : SS) (g : GS) : Ev sc 7 93 0 0 M_LV_writeHint 22 [] [] (eLV :: (HD d (HF f (HW w (HM m (HS s (HG g tl))))))) (mapT ouVT (fun z => (eLV :: (HD z (HF f (HW w (HM m (HS s (HG g tl)))))))) (B_LV_writeHint_22 d f w m s g)) := by
  unfold B_LV_writeHint_22
  exact ev_vret rfl d_LV_writeHint_22
def B_LV_writeHint_12   (d : DS) (f : FS) (w : WS) (m : MS) (s : SS) (g : GS) (x1 : Int32) (x3 : Int32) : ((Nat ⊕ Unit) × DS) :=
  B_LV_writeHint_22   ((f_Disk_setByte d x1 3 x3).2) f w m s g
theorem e_B_LV_writeHint_12 {sc : Nat × (Nat → Int32)} {tl : List mn_E}    (d : DS) (f : FS) (w : WS) (m : MS) (s : SS) (g : GS) (x1 : Int32) (x3 : Int32) : Ev sc 7 93 0 0 M_LV_writeHint 12 [(0, .ref 0), (1, .int x1), (3, .int x3)] [] (eLV :: (HD d (HF f (HW w (HM m (HS s (HG g tl))))))) (mapT ouVT (fun z => (eLV :: (HD z (HF f (HW w (HM m (HS s (HG g tl)))))))) (B_LV_writeHint_12 d f w m s g x1 x3)) := by
  unfold B_LV_writeHint_12
  refine ev_aload_n d_LV_writeHint_12 rfl rfl ?_
  refine ev_get (v := .ref 1) gi_LV (ci := 0) rfl rfl 0 (by decide) gw_287 rfl d_LV_writeHint_13 ?_
  refine ev_iload_n d_LV_writeHint_16 rfl rfl ?_
  refine ev_iconst (v := 3) d_LV_writeHint_17 rfl ?_
  refine ev_iload_n d_LV_writeHint_18 rfl rfl ?_
  refine ev_callr (Mc := M_Disk_setByte) (v := none) (h1 := (eLV :: (HD ((f_Disk_setByte d x1 3 x3).2) (HF f (HW w (HM m (HS s (HG g tl)))))))) (k2 := 0) (n2 := 0) (inv_V (q := 1) (av := [.int x1, .int 3, .int x3]) (rest := []) rfl (ci := 1) rfl d_LV_writeHint_19 gw_504 gw_190 gw_191 mw_Disk_setByte nh_Disk_setByte pn_Disk_setByte rfl) d_LV_writeHint_19 pl_Disk_setByte (Nat.le_of_ble_eq_true rfl) (Nat.le_of_ble_eq_true rfl) (Nat.le_of_ble_eq_true rfl) rfl rfl (e_f_Disk_setByte (e0 := eLV) (tl := (HF f (HW w (HM m (HS s (HG g tl))))))  d x1 3 x3) (Or.inl (len1 (lenHD (lenHF (lenHW (lenHM (lenHS (lenHG rfl)))))))) ?_
  exact ev_pick [] rfl (e_B_LV_writeHint_22     ((f_Disk_setByte d x1 3 x3).2) f w m s g)
def f_LV_writeHint   (d : DS) (f : FS) (w : WS) (m : MS) (s : SS) (g : GS) (x1 : Int32) (x2 : Int32) (x3 : Int32) : ((Nat ⊕ Unit) × DS) :=
  if x2 = x1 then (B_LV_writeHint_12   d f w m s g x1 x3) else (thM (f_Disk_spendWrite d) (fun x z => (.inl x, z)) (fun v z => B_LV_writeHint_12   z f w m s g x1 x3))
theorem e_f_LV_writeHint {sc : Nat × (Nat → Int32)} {tl : List mn_E}    (d : DS) (f : FS) (w : WS) (m : MS) (s : SS) (g : GS) (x1 : Int32) (x2 : Int32) (x3 : Int32) : Ev sc 7 93 0 0 M_LV_writeHint 0 [(0, .ref 0), (1, .int x1), (2, .int x2), (3, .int x3)] [] (eLV :: (HD d (HF f (HW w (HM m (HS s (HG g tl))))))) (mapT ouVT (fun z => (eLV :: (HD z (HF f (HW w (HM m (HS s (HG g tl)))))))) (f_LV_writeHint d f w m s g x1 x2 x3)) := by
  unfold f_LV_writeHint
  refine ev_iload_n d_LV_writeHint_0 rfl rfl ?_
  refine ev_iload_n d_LV_writeHint_1 rfl rfl ?_
  refine ev_icmp_eq (tgt := 12) d_LV_writeHint_2 rfl (fun h1 => ?_) (fun h1 => ?_)
  · rw [if_pos h1]
    exact ev_pick [0, 1, 3] rfl (e_B_LV_writeHint_12     d f w m s g x1 x3)
  · rw [if_neg h1]
    refine ev_aload_n d_LV_writeHint_5 rfl rfl ?_
    refine ev_get (v := .ref 1) gi_LV (ci := 0) rfl rfl 0 (by decide) gw_287 rfl d_LV_writeHint_6 ?_
    refine ev_callT (q := (f_Disk_spendWrite d)) (ou := ouV) (Hs := (fun z => (eLV :: (HD z (HF f (HW w (HM m (HS s (HG g tl))))))))) (inv_V (q := 1) (av := []) (rest := []) rfl (ci := 1) rfl d_LV_writeHint_9 gw_790 gw_791 gw_792 mw_Disk_spendWrite nh_Disk_spendWrite pn_Disk_spendWrite rfl) d_LV_writeHint_9 pl_Disk_spendWrite (Nat.le_of_ble_eq_true rfl) (Nat.le_of_ble_eq_true rfl) (Nat.le_of_ble_eq_true rfl) (e_f_Disk_spendWrite (e0 := eLV) (tl := (HF f (HW w (HM m (HS s (HG g tl))))))  d ) (fun _ => (len1 (lenHD (lenHF (lenHW (lenHM (lenHS (lenHG rfl)))))))) rfl (fun x z h2 => ?_) (fun v z h2 => ⟨_, rfl, ?_⟩)
    · rw [h2]; rfl
    · rw [h2]
      exact ev_pick [0, 1, 3] rfl (e_B_LV_writeHint_12     z f w m s g x1 x3)
def B_LV_linkBehind_24   (d : DS) (f : FS) (w : WS) (m : MS) (s : SS) (g : GS) : ((Nat ⊕ Unit) × DS) :=
  (.inr (), d)
theorem e_B_LV_linkBehind_24 {sc : Nat × (Nat → Int32)} {tl : List mn_E}    (d : DS) (f : FS) (w : WS) (m : MS) (s : SS) (g : GS) : Ev sc 8 108 0 0 M_LV_linkBehind 24 [] [] (eLV :: (HD d (HF f (HW w (HM m (HS s (HG g tl))))))) (mapT ouVT (fun z => (eLV :: (HD z (HF f (HW w (HM m (HS s (HG g tl)))))))) (B_LV_linkBehind_24 d f w m s g)) := by
  unfold B_LV_linkBehind_24
  exact ev_vret rfl d_LV_linkBehind_24
def B_LV_linkBehind_17   (d : DS) (f : FS) (w : WS) (m : MS) (s : SS) (g : GS) (x1 : Int32) (x2 : Int32) (x3 : Int32) : ((Nat ⊕ Unit) × DS) :=
  thM (f_LV_writeHint d f w m s g x1 x2 x3) (fun x z => (.inl x, z)) (fun v z => B_LV_linkBehind_24   z f w m s g)
theorem e_B_LV_linkBehind_17 {sc : Nat × (Nat → Int32)} {tl : List mn_E}    (d : DS) (f : FS) (w : WS) (m : MS) (s : SS) (g : GS) (x1 : Int32) (x2 : Int32) (x3 : Int32) : Ev sc 8 108 0 0 M_LV_linkBehind 17 [(0, .ref 0), (1, .int x1), (2, .int x2), (3, .int x3)] [] (eLV :: (HD d (HF f (HW w (HM m (HS s (HG g tl))))))) (mapT ouVT (fun z => (eLV :: (HD z (HF f (HW w (HM m (HS s (HG g tl)))))))) (B_LV_linkBehind_17 d f w m s g x1 x2 x3)) := by
  unfold B_LV_linkBehind_17
  refine ev_aload_n d_LV_linkBehind_17 rfl rfl ?_
  refine ev_iload_n d_LV_linkBehind_18 rfl rfl ?_
  refine ev_iload_n d_LV_linkBehind_19 rfl rfl ?_
  refine ev_iload_n d_LV_linkBehind_20 rfl rfl ?_
  refine ev_callT (q := (f_LV_writeHint d f w m s g x1 x2 x3)) (ou := ouV) (Hs := (fun z => (eLV :: (HD z (HF f (HW w (HM m (HS s (HG g tl))))))))) (inv_V (q := 0) (av := [.int x1, .int x2, .int x3]) (rest := []) rfl (ci := 0) rfl d_LV_linkBehind_21 gw_825 gw_827 gw_38 mw_LV_writeHint nh_LV_writeHint pn_LV_writeHint rfl) d_LV_linkBehind_21 pl_LV_writeHint (Nat.le_of_ble_eq_true rfl) (Nat.le_of_ble_eq_true rfl) (Nat.le_of_ble_eq_true rfl) (e_f_LV_writeHint (tl := tl)  d f w m s g x1 x2 x3) (fun _ => (len1 (lenHD (lenHF (lenHW (lenHM (lenHS (lenHG rfl)))))))) rfl (fun x z h1 => ?_) (fun v z h1 => ⟨_, rfl, ?_⟩)
  · rw [h1]; rfl
  · rw [h1]
    exact ev_pick [] rfl (e_B_LV_linkBehind_24     z f w m s g)
def B_LV_linkBehind_7   (d : DS) (f : FS) (w : WS) (m : MS) (s : SS) (g : GS) (x1 : Int32) (x2 : Int32) (x3 : Int32) : ((Nat ⊕ Unit) × DS) :=
  B_LV_linkBehind_17   (xSetCell d x2 3 x3) f w m s g x1 x2 x3
theorem e_B_LV_linkBehind_7 {sc : Nat × (Nat → Int32)} {tl : List mn_E}    (d : DS) (f : FS) (w : WS) (m : MS) (s : SS) (g : GS) (x1 : Int32) (x2 : Int32) (x3 : Int32) : Ev sc 8 108 0 0 M_LV_linkBehind 7 [(0, .ref 0), (1, .int x1), (2, .int x2), (3, .int x3)] [] (eLV :: (HD d (HF f (HW w (HM m (HS s (HG g tl))))))) (mapT ouVT (fun z => (eLV :: (HD z (HF f (HW w (HM m (HS s (HG g tl)))))))) (B_LV_linkBehind_7 d f w m s g x1 x2 x3)) := by
  unfold B_LV_linkBehind_7
  refine ev_aload_n d_LV_linkBehind_7 rfl rfl ?_
  refine ev_get (v := .ref 1) gi_LV (ci := 0) rfl rfl 0 (by decide) gw_287 rfl d_LV_linkBehind_8 ?_
  refine ev_iload_n d_LV_linkBehind_11 rfl rfl ?_
  refine ev_iconst (v := 3) d_LV_linkBehind_12 rfl ?_
  refine ev_iload_n d_LV_linkBehind_13 rfl rfl ?_
  refine ev_callr (Mc := M_Disk_setCell) (v := none) (h1 := (eLV :: (HD (xSetCell d x2 3 x3) (HF f (HW w (HM m (HS s (HG g tl)))))))) (k2 := 0) (n2 := 0) (inv_V (q := 1) (av := [.int x2, .int 3, .int x3]) (rest := []) rfl (ci := 1) rfl d_LV_linkBehind_14 gw_815 gw_178 gw_179 mw_Disk_setCell nh_Disk_setCell pn_Disk_setCell rfl) d_LV_linkBehind_14 pl_Disk_setCell (Nat.le_of_ble_eq_true rfl) (Nat.le_of_ble_eq_true rfl) (Nat.le_of_ble_eq_true rfl) rfl rfl (c_Disk_setCell (e0 := eLV) (tl := (HF f (HW w (HM m (HS s (HG g tl))))))  d x2 3 x3) (Or.inl (len1 (lenHD (lenHF (lenHW (lenHM (lenHS (lenHG rfl)))))))) ?_
  exact ev_pick [0, 1, 2, 3] rfl (e_B_LV_linkBehind_17     (xSetCell d x2 3 x3) f w m s g x1 x2 x3)
def f_LV_linkBehind   (d : DS) (f : FS) (w : WS) (m : MS) (s : SS) (g : GS) (x1 : Int32) (x2 : Int32) (x3 : Int32) : ((Nat ⊕ Unit) × DS) :=
  thM (f_Disk_spendWrite d) (fun x z => (.inl x, z)) (fun v z => B_LV_linkBehind_7   z f w m s g x1 x2 x3)
theorem e_f_LV_linkBehind {sc : Nat × (Nat → Int32)} {tl : List mn_E}    (d : DS) (f : FS) (w : WS) (m : MS) (s : SS) (g : GS) (x1 : Int32) (x2 : Int32) (x3 : Int32) : Ev sc 8 108 0 0 M_LV_linkBehind 0 [(0, .ref 0), (1, .int x1), (2, .int x2), (3, .int x3)] [] (eLV :: (HD d (HF f (HW w (HM m (HS s (HG g tl))))))) (mapT ouVT (fun z => (eLV :: (HD z (HF f (HW w (HM m (HS s (HG g tl)))))))) (f_LV_linkBehind d f w m s g x1 x2 x3)) := by
  unfold f_LV_linkBehind
  refine ev_aload_n d_LV_linkBehind_0 rfl rfl ?_
  refine ev_get (v := .ref 1) gi_LV (ci := 0) rfl rfl 0 (by decide) gw_287 rfl d_LV_linkBehind_1 ?_
  refine ev_callT (q := (f_Disk_spendWrite d)) (ou := ouV) (Hs := (fun z => (eLV :: (HD z (HF f (HW w (HM m (HS s (HG g tl))))))))) (inv_V (q := 1) (av := []) (rest := []) rfl (ci := 1) rfl d_LV_linkBehind_4 gw_790 gw_791 gw_792 mw_Disk_spendWrite nh_Disk_spendWrite pn_Disk_spendWrite rfl) d_LV_linkBehind_4 pl_Disk_spendWrite (Nat.le_of_ble_eq_true rfl) (Nat.le_of_ble_eq_true rfl) (Nat.le_of_ble_eq_true rfl) (e_f_Disk_spendWrite (e0 := eLV) (tl := (HF f (HW w (HM m (HS s (HG g tl))))))  d ) (fun _ => (len1 (lenHD (lenHF (lenHW (lenHM (lenHS (lenHG rfl)))))))) rfl (fun x z h1 => ?_) (fun v z h1 => ⟨_, rfl, ?_⟩)
  · rw [h1]; rfl
  · rw [h1]
    exact ev_pick [0, 1, 2, 3] rfl (e_B_LV_linkBehind_7     z f w m s g x1 x2 x3)
def B_LV_enterEntry_123   (d : DS) (f : FS) (w : WS) (m : MS) (s : SS) (g : GS) : ((Nat ⊕ Unit) × DS) :=
  (.inr (), d)
theorem e_B_LV_enterEntry_123 {sc : Nat × (Nat → Int32)} {tl : List mn_E}    (d : DS) (f : FS) (w : WS) (m : MS) (s : SS) (g : GS) : Ev sc 9 123 0 0 M_LV_enterEntry 123 [] [] (eLV :: (HD d (HF f (HW w (HM m (HS s (HG g tl))))))) (mapT ouVT (fun z => (eLV :: (HD z (HF f (HW w (HM m (HS s (HG g tl)))))))) (B_LV_enterEntry_123 d f w m s g)) := by
  unfold B_LV_enterEntry_123
  exact ev_vret rfl d_LV_enterEntry_123
def B_LV_enterEntry_47   (d : DS) (f : FS) (w : WS) (m : MS) (s : SS) (g : GS) : ((Nat ⊕ Unit) × DS) :=
  B_LV_enterEntry_123   d f w m s g
theorem e_B_LV_enterEntry_47 {sc : Nat × (Nat → Int32)} {tl : List mn_E}    (d : DS) (f : FS) (w : WS) (m : MS) (s : SS) (g : GS) : Ev sc 9 123 0 0 M_LV_enterEntry 47 [] [] (eLV :: (HD d (HF f (HW w (HM m (HS s (HG g tl))))))) (mapT ouVT (fun z => (eLV :: (HD z (HF f (HW w (HM m (HS s (HG g tl)))))))) (B_LV_enterEntry_47 d f w m s g)) := by
  unfold B_LV_enterEntry_47
  refine ev_goto (tgt := 123) d_LV_enterEntry_47 rfl ?_
  exact ev_pick [] rfl (e_B_LV_enterEntry_123     d f w m s g)
def B_LV_enterEntry_81   (d : DS) (f : FS) (w : WS) (m : MS) (s : SS) (g : GS) : ((Nat ⊕ Unit) × DS) :=
  B_LV_enterEntry_123   d f w m s g
theorem e_B_LV_enterEntry_81 {sc : Nat × (Nat → Int32)} {tl : List mn_E}    (d : DS) (f : FS) (w : WS) (m : MS) (s : SS) (g : GS) : Ev sc 9 123 0 0 M_LV_enterEntry 81 [] [] (eLV :: (HD d (HF f (HW w (HM m (HS s (HG g tl))))))) (mapT ouVT (fun z => (eLV :: (HD z (HF f (HW w (HM m (HS s (HG g tl)))))))) (B_LV_enterEntry_81 d f w m s g)) := by
  unfold B_LV_enterEntry_81
  refine ev_goto (tgt := 123) d_LV_enterEntry_81 rfl ?_
  exact ev_pick [] rfl (e_B_LV_enterEntry_123     d f w m s g)
def B_LV_enterEntry_70   (d : DS) (f : FS) (w : WS) (m : MS) (s : SS) (g : GS) (x3 : Int32) : ((Nat ⊕ Unit) × DS) :=
  B_LV_enterEntry_81   (xSetCell d x3 2 8) f w m s g
theorem e_B_LV_enterEntry_70 {sc : Nat × (Nat → Int32)} {tl : List mn_E}    (d : DS) (f : FS) (w : WS) (m : MS) (s : SS) (g : GS) (x3 : Int32) : Ev sc 9 123 0 0 M_LV_enterEntry 70 [(0, .ref 0), (3, .int x3)] [] (eLV :: (HD d (HF f (HW w (HM m (HS s (HG g tl))))))) (mapT ouVT (fun z => (eLV :: (HD z (HF f (HW w (HM m (HS s (HG g tl)))))))) (B_LV_enterEntry_70 d f w m s g x3)) := by
  unfold B_LV_enterEntry_70
  refine ev_aload_n d_LV_enterEntry_70 rfl rfl ?_
  refine ev_get (v := .ref 1) gi_LV (ci := 0) rfl rfl 0 (by decide) gw_287 rfl d_LV_enterEntry_71 ?_
  refine ev_iload_n d_LV_enterEntry_74 rfl rfl ?_
  refine ev_iconst (v := 2) d_LV_enterEntry_75 rfl ?_
  refine ev_bipush (v := 8) d_LV_enterEntry_76 rfl ?_
  refine ev_callr (Mc := M_Disk_setCell) (v := none) (h1 := (eLV :: (HD (xSetCell d x3 2 8) (HF f (HW w (HM m (HS s (HG g tl)))))))) (k2 := 0) (n2 := 0) (inv_V (q := 1) (av := [.int x3, .int 2, .int 8]) (rest := []) rfl (ci := 1) rfl d_LV_enterEntry_78 gw_815 gw_178 gw_179 mw_Disk_setCell nh_Disk_setCell pn_Disk_setCell rfl) d_LV_enterEntry_78 pl_Disk_setCell (Nat.le_of_ble_eq_true rfl) (Nat.le_of_ble_eq_true rfl) (Nat.le_of_ble_eq_true rfl) rfl rfl (c_Disk_setCell (e0 := eLV) (tl := (HF f (HW w (HM m (HS s (HG g tl))))))  d x3 2 8) (Or.inl (len1 (lenHD (lenHF (lenHW (lenHM (lenHS (lenHG rfl)))))))) ?_
  exact ev_pick [] rfl (e_B_LV_enterEntry_81     (xSetCell d x3 2 8) f w m s g)
def B_LV_enterEntry_115   (d : DS) (f : FS) (w : WS) (m : MS) (s : SS) (g : GS) (x1 : Int32) (x3 : Int32) (x4 : Int32) : ((Nat ⊕ Unit) × DS) :=
  thM (f_LV_linkBehind d f w m s g x1 x3 x4) (fun x z => (.inl x, z)) (fun v z => B_LV_enterEntry_123   z f w m s g)
theorem e_B_LV_enterEntry_115 {sc : Nat × (Nat → Int32)} {tl : List mn_E}    (d : DS) (f : FS) (w : WS) (m : MS) (s : SS) (g : GS) (x1 : Int32) (x3 : Int32) (x4 : Int32) : Ev sc 9 123 0 0 M_LV_enterEntry 115 [(0, .ref 0), (1, .int x1), (3, .int x3), (4, .int x4)] [] (eLV :: (HD d (HF f (HW w (HM m (HS s (HG g tl))))))) (mapT ouVT (fun z => (eLV :: (HD z (HF f (HW w (HM m (HS s (HG g tl)))))))) (B_LV_enterEntry_115 d f w m s g x1 x3 x4)) := by
  unfold B_LV_enterEntry_115
  refine ev_aload_n d_LV_enterEntry_115 rfl rfl ?_
  refine ev_iload_n d_LV_enterEntry_116 rfl rfl ?_
  refine ev_iload_n d_LV_enterEntry_117 rfl rfl ?_
  refine ev_iload d_LV_enterEntry_118 rfl ?_
  refine ev_callT (q := (f_LV_linkBehind d f w m s g x1 x3 x4)) (ou := ouV) (Hs := (fun z => (eLV :: (HD z (HF f (HW w (HM m (HS s (HG g tl))))))))) (inv_V (q := 0) (av := [.int x1, .int x3, .int x4]) (rest := []) rfl (ci := 0) rfl d_LV_enterEntry_120 gw_821 gw_823 gw_37 mw_LV_linkBehind nh_LV_linkBehind pn_LV_linkBehind rfl) d_LV_enterEntry_120 pl_LV_linkBehind (Nat.le_of_ble_eq_true rfl) (Nat.le_of_ble_eq_true rfl) (Nat.le_of_ble_eq_true rfl) (e_f_LV_linkBehind (tl := tl)  d f w m s g x1 x3 x4) (fun _ => (len1 (lenHD (lenHF (lenHW (lenHM (lenHS (lenHG rfl)))))))) rfl (fun x z h1 => ?_) (fun v z h1 => ⟨_, rfl, ?_⟩)
  · rw [h1]; rfl
  · rw [h1]
    exact ev_pick [] rfl (e_B_LV_enterEntry_123     z f w m s g)
def B_LV_enterEntry_104   (d : DS) (f : FS) (w : WS) (m : MS) (s : SS) (g : GS) (x1 : Int32) (x2 : Int32) (x3 : Int32) (x4 : Int32) : ((Nat ⊕ Unit) × DS) :=
  B_LV_enterEntry_115   ((f_Disk_putEntry d x4 0 x2).2) f w m s g x1 x3 x4
theorem e_B_LV_enterEntry_104 {sc : Nat × (Nat → Int32)} {tl : List mn_E}    (d : DS) (f : FS) (w : WS) (m : MS) (s : SS) (g : GS) (x1 : Int32) (x2 : Int32) (x3 : Int32) (x4 : Int32) : Ev sc 9 123 0 0 M_LV_enterEntry 104 [(0, .ref 0), (1, .int x1), (2, .int x2), (3, .int x3), (4, .int x4)] [] (eLV :: (HD d (HF f (HW w (HM m (HS s (HG g tl))))))) (mapT ouVT (fun z => (eLV :: (HD z (HF f (HW w (HM m (HS s (HG g tl)))))))) (B_LV_enterEntry_104 d f w m s g x1 x2 x3 x4)) := by
  unfold B_LV_enterEntry_104
  refine ev_aload_n d_LV_enterEntry_104 rfl rfl ?_
  refine ev_get (v := .ref 1) gi_LV (ci := 0) rfl rfl 0 (by decide) gw_287 rfl d_LV_enterEntry_105 ?_
  refine ev_iload d_LV_enterEntry_108 rfl ?_
  refine ev_iconst (v := 0) d_LV_enterEntry_110 rfl ?_
  refine ev_iload_n d_LV_enterEntry_111 rfl rfl ?_
  refine ev_callr (Mc := M_Disk_putEntry) (v := none) (h1 := (eLV :: (HD ((f_Disk_putEntry d x4 0 x2).2) (HF f (HW w (HM m (HS s (HG g tl)))))))) (k2 := 0) (n2 := 0) (inv_V (q := 1) (av := [.int x4, .int 0, .int x2]) (rest := []) rfl (ci := 1) rfl d_LV_enterEntry_112 gw_814 gw_470 gw_471 mw_Disk_putEntry nh_Disk_putEntry pn_Disk_putEntry rfl) d_LV_enterEntry_112 pl_Disk_putEntry (Nat.le_of_ble_eq_true rfl) (Nat.le_of_ble_eq_true rfl) (Nat.le_of_ble_eq_true rfl) rfl rfl (e_f_Disk_putEntry (e0 := eLV) (tl := (HF f (HW w (HM m (HS s (HG g tl))))))  d x4 0 x2) (Or.inl (len1 (lenHD (lenHF (lenHW (lenHM (lenHS (lenHG rfl)))))))) ?_
  exact ev_pick [0, 1, 3, 4] rfl (e_B_LV_enterEntry_115     ((f_Disk_putEntry d x4 0 x2).2) f w m s g x1 x3 x4)
def B_LV_enterEntry_15   (d : DS) (f : FS) (w : WS) (m : MS) (s : SS) (g : GS) (x1 : Int32) (x2 : Int32) (x3 : Int32) : ((Nat ⊕ Unit) × DS) :=
  if ((f_Walk_foundHole d f w).1) = 0 then (if ¬ ((f_Walk_needsPage d f w).1) = 0 then (B_LV_enterEntry_104   ((f_Disk_makePageBehind d x3 ((f_Map_secondTaken d f w m).1) 4).2) f w m s g x1 x2 x3 ((f_Map_secondTaken d f w m).1)) else (B_LV_enterEntry_70   ((f_Disk_putEntry d x3 4 x2).2) f w m s g x3)) else (B_LV_enterEntry_47   ((f_Disk_putEntry d ((f_Walk_holeSector d f w).1) ((f_Walk_holeOffset d f w).1) x2).2) f w m s g)
theorem e_B_LV_enterEntry_15 {sc : Nat × (Nat → Int32)} {tl : List mn_E}    (d : DS) (f : FS) (w : WS) (m : MS) (s : SS) (g : GS) (x1 : Int32) (x2 : Int32) (x3 : Int32) : Ev sc 9 123 0 0 M_LV_enterEntry 15 [(0, .ref 0), (1, .int x1), (2, .int x2), (3, .int x3)] [] (eLV :: (HD d (HF f (HW w (HM m (HS s (HG g tl))))))) (mapT ouVT (fun z => (eLV :: (HD z (HF f (HW w (HM m (HS s (HG g tl)))))))) (B_LV_enterEntry_15 d f w m s g x1 x2 x3)) := by
  unfold B_LV_enterEntry_15
  refine ev_aload_n d_LV_enterEntry_15 rfl rfl ?_
  refine ev_get (v := .ref 7) gi_LV (ci := 0) rfl rfl 2 (by decide) gw_289 rfl d_LV_enterEntry_16 ?_
  refine ev_callr (Mc := M_Walk_foundHole) (v := some (.int ((f_Walk_foundHole d f w).1))) (h1 := (eLV :: (HD d (HF f (HW w (HM m (HS s (HG g tl)))))))) (k2 := 0) (n2 := 0) (inv_V (q := 7) (av := []) (rest := []) rfl (ci := 3) rfl d_LV_enterEntry_19 gw_805 gw_749 gw_750 mw_Walk_foundHole nh_Walk_foundHole pn_Walk_foundHole rfl) d_LV_enterEntry_19 pl_Walk_foundHole (Nat.le_of_ble_eq_true rfl) (Nat.le_of_ble_eq_true rfl) (Nat.le_of_ble_eq_true rfl) rfl rfl (e_f_Walk_foundHole (e0 := eLV) (tl := (HM m (HS s (HG g tl))))  d f w ) (Or.inl (len1 (lenHD (lenHF (lenHW (lenHM (lenHS (lenHG rfl)))))))) ?_
  refine ev_if_eq (tgt := 50) d_LV_enterEntry_22 rfl (fun h1 => ?_) (fun h1 => ?_)
  · rw [if_pos h1]
    refine ev_aload_n d_LV_enterEntry_50 rfl rfl ?_
    refine ev_get (v := .ref 7) gi_LV (ci := 0) rfl rfl 2 (by decide) gw_289 rfl d_LV_enterEntry_51 ?_
    refine ev_callr (Mc := M_Walk_needsPage) (v := some (.int ((f_Walk_needsPage d f w).1))) (h1 := (eLV :: (HD d (HF f (HW w (HM m (HS s (HG g tl)))))))) (k2 := 0) (n2 := 0) (inv_V (q := 7) (av := []) (rest := []) rfl (ci := 3) rfl d_LV_enterEntry_54 gw_744 gw_745 gw_746 mw_Walk_needsPage nh_Walk_needsPage pn_Walk_needsPage rfl) d_LV_enterEntry_54 pl_Walk_needsPage (Nat.le_of_ble_eq_true rfl) (Nat.le_of_ble_eq_true rfl) (Nat.le_of_ble_eq_true rfl) rfl rfl (e_f_Walk_needsPage (e0 := eLV) (tl := (HM m (HS s (HG g tl))))  d f w ) (Or.inl (len1 (lenHD (lenHF (lenHW (lenHM (lenHS (lenHG rfl)))))))) ?_
    refine ev_if_ne (tgt := 84) d_LV_enterEntry_57 rfl (fun h2 => ?_) (fun h2 => ?_)
    · rw [if_pos h2]
      refine ev_aload_n d_LV_enterEntry_84 rfl rfl ?_
      refine ev_get (v := .ref 8) gi_LV (ci := 0) rfl rfl 3 (by decide) gw_290 rfl d_LV_enterEntry_85 ?_
      refine ev_callr (Mc := M_Map_secondTaken) (v := some (.int ((f_Map_secondTaken d f w m).1))) (h1 := (eLV :: (HD d (HF f (HW w (HM m (HS s (HG g tl)))))))) (k2 := 0) (n2 := 0) (inv_V (q := 8) (av := []) (rest := []) rfl (ci := 4) rfl d_LV_enterEntry_88 gw_816 gw_817 gw_818 mw_Map_secondTaken nh_Map_secondTaken pn_Map_secondTaken rfl) d_LV_enterEntry_88 pl_Map_secondTaken (Nat.le_of_ble_eq_true rfl) (Nat.le_of_ble_eq_true rfl) (Nat.le_of_ble_eq_true rfl) rfl rfl (e_f_Map_secondTaken (e0 := eLV) (tl := (HS s (HG g tl)))  d f w m ) (Or.inl (len1 (lenHD (lenHF (lenHW (lenHM (lenHS (lenHG rfl)))))))) ?_
      refine ev_istore d_LV_enterEntry_91 (by decide) rfl ?_
      refine ev_aload_n d_LV_enterEntry_93 rfl rfl ?_
      refine ev_get (v := .ref 1) gi_LV (ci := 0) rfl rfl 0 (by decide) gw_287 rfl d_LV_enterEntry_94 ?_
      refine ev_iload_n d_LV_enterEntry_97 rfl rfl ?_
      refine ev_iload d_LV_enterEntry_98 rfl ?_
      refine ev_iconst (v := 4) d_LV_enterEntry_100 rfl ?_
      refine ev_callr (Mc := M_Disk_makePageBehind) (v := none) (h1 := (eLV :: (HD ((f_Disk_makePageBehind d x3 ((f_Map_secondTaken d f w m).1) 4).2) (HF f (HW w (HM m (HS s (HG g tl)))))))) (k2 := 0) (n2 := 0) (inv_V (q := 1) (av := [.int x3, .int ((f_Map_secondTaken d f w m).1), .int 4]) (rest := []) rfl (ci := 1) rfl d_LV_enterEntry_101 gw_820 gw_194 gw_195 mw_Disk_makePageBehind nh_Disk_makePageBehind pn_Disk_makePageBehind rfl) d_LV_enterEntry_101 pl_Disk_makePageBehind (Nat.le_of_ble_eq_true rfl) (Nat.le_of_ble_eq_true rfl) (Nat.le_of_ble_eq_true rfl) rfl rfl (e_f_Disk_makePageBehind (e0 := eLV) (tl := (HF f (HW w (HM m (HS s (HG g tl))))))  d x3 ((f_Map_secondTaken d f w m).1) 4) (Or.inl (len1 (lenHD (lenHF (lenHW (lenHM (lenHS (lenHG rfl)))))))) ?_
      exact ev_pick [1, 2, 3, 4, 0] rfl (e_B_LV_enterEntry_104     ((f_Disk_makePageBehind d x3 ((f_Map_secondTaken d f w m).1) 4).2) f w m s g x1 x2 x3 ((f_Map_secondTaken d f w m).1))
    · rw [if_neg h2]
      refine ev_aload_n d_LV_enterEntry_60 rfl rfl ?_
      refine ev_get (v := .ref 1) gi_LV (ci := 0) rfl rfl 0 (by decide) gw_287 rfl d_LV_enterEntry_61 ?_
      refine ev_iload_n d_LV_enterEntry_64 rfl rfl ?_
      refine ev_iconst (v := 4) d_LV_enterEntry_65 rfl ?_
      refine ev_iload_n d_LV_enterEntry_66 rfl rfl ?_
      refine ev_callr (Mc := M_Disk_putEntry) (v := none) (h1 := (eLV :: (HD ((f_Disk_putEntry d x3 4 x2).2) (HF f (HW w (HM m (HS s (HG g tl)))))))) (k2 := 0) (n2 := 0) (inv_V (q := 1) (av := [.int x3, .int 4, .int x2]) (rest := []) rfl (ci := 1) rfl d_LV_enterEntry_67 gw_814 gw_470 gw_471 mw_Disk_putEntry nh_Disk_putEntry pn_Disk_putEntry rfl) d_LV_enterEntry_67 pl_Disk_putEntry (Nat.le_of_ble_eq_true rfl) (Nat.le_of_ble_eq_true rfl) (Nat.le_of_ble_eq_true rfl) rfl rfl (e_f_Disk_putEntry (e0 := eLV) (tl := (HF f (HW w (HM m (HS s (HG g tl))))))  d x3 4 x2) (Or.inl (len1 (lenHD (lenHF (lenHW (lenHM (lenHS (lenHG rfl)))))))) ?_
      exact ev_pick [0, 3] rfl (e_B_LV_enterEntry_70     ((f_Disk_putEntry d x3 4 x2).2) f w m s g x3)
  · rw [if_neg h1]
    refine ev_aload_n d_LV_enterEntry_25 rfl rfl ?_
    refine ev_get (v := .ref 1) gi_LV (ci := 0) rfl rfl 0 (by decide) gw_287 rfl d_LV_enterEntry_26 ?_
    refine ev_aload_n d_LV_enterEntry_29 rfl rfl ?_
    refine ev_get (v := .ref 7) gi_LV (ci := 0) rfl rfl 2 (by decide) gw_289 rfl d_LV_enterEntry_30 ?_
    refine ev_callr (Mc := M_Walk_holeSector) (v := some (.int ((f_Walk_holeSector d f w).1))) (h1 := (eLV :: (HD d (HF f (HW w (HM m (HS s (HG g tl)))))))) (k2 := 0) (n2 := 0) (inv_V (q := 7) (av := []) (rest := [.ref 1]) rfl (ci := 3) rfl d_LV_enterEntry_33 gw_806 gw_807 gw_808 mw_Walk_holeSector nh_Walk_holeSector pn_Walk_holeSector rfl) d_LV_enterEntry_33 pl_Walk_holeSector (Nat.le_of_ble_eq_true rfl) (Nat.le_of_ble_eq_true rfl) (Nat.le_of_ble_eq_true rfl) rfl rfl (e_f_Walk_holeSector (e0 := eLV) (tl := (HM m (HS s (HG g tl))))  d f w ) (Or.inl (len1 (lenHD (lenHF (lenHW (lenHM (lenHS (lenHG rfl)))))))) ?_
    refine ev_aload_n d_LV_enterEntry_36 rfl rfl ?_
    refine ev_get (v := .ref 7) gi_LV (ci := 0) rfl rfl 2 (by decide) gw_289 rfl d_LV_enterEntry_37 ?_
    refine ev_callr (Mc := M_Walk_holeOffset) (v := some (.int ((f_Walk_holeOffset d f w).1))) (h1 := (eLV :: (HD d (HF f (HW w (HM m (HS s (HG g tl)))))))) (k2 := 0) (n2 := 0) (inv_V (q := 7) (av := []) (rest := [.int ((f_Walk_holeSector d f w).1), .ref 1]) rfl (ci := 3) rfl d_LV_enterEntry_40 gw_810 gw_811 gw_812 mw_Walk_holeOffset nh_Walk_holeOffset pn_Walk_holeOffset rfl) d_LV_enterEntry_40 pl_Walk_holeOffset (Nat.le_of_ble_eq_true rfl) (Nat.le_of_ble_eq_true rfl) (Nat.le_of_ble_eq_true rfl) rfl rfl (e_f_Walk_holeOffset (e0 := eLV) (tl := (HM m (HS s (HG g tl))))  d f w ) (Or.inl (len1 (lenHD (lenHF (lenHW (lenHM (lenHS (lenHG rfl)))))))) ?_
    refine ev_iload_n d_LV_enterEntry_43 rfl rfl ?_
    refine ev_callr (Mc := M_Disk_putEntry) (v := none) (h1 := (eLV :: (HD ((f_Disk_putEntry d ((f_Walk_holeSector d f w).1) ((f_Walk_holeOffset d f w).1) x2).2) (HF f (HW w (HM m (HS s (HG g tl)))))))) (k2 := 0) (n2 := 0) (inv_V (q := 1) (av := [.int ((f_Walk_holeSector d f w).1), .int ((f_Walk_holeOffset d f w).1), .int x2]) (rest := []) rfl (ci := 1) rfl d_LV_enterEntry_44 gw_814 gw_470 gw_471 mw_Disk_putEntry nh_Disk_putEntry pn_Disk_putEntry rfl) d_LV_enterEntry_44 pl_Disk_putEntry (Nat.le_of_ble_eq_true rfl) (Nat.le_of_ble_eq_true rfl) (Nat.le_of_ble_eq_true rfl) rfl rfl (e_f_Disk_putEntry (e0 := eLV) (tl := (HF f (HW w (HM m (HS s (HG g tl))))))  d ((f_Walk_holeSector d f w).1) ((f_Walk_holeOffset d f w).1) x2) (Or.inl (len1 (lenHD (lenHF (lenHW (lenHM (lenHS (lenHG rfl)))))))) ?_
    exact ev_pick [] rfl (e_B_LV_enterEntry_47     ((f_Disk_putEntry d ((f_Walk_holeSector d f w).1) ((f_Walk_holeOffset d f w).1) x2).2) f w m s g)
def f_LV_enterEntry   (d : DS) (f : FS) (w : WS) (m : MS) (s : SS) (g : GS) (x1 : Int32) (x2 : Int32) : ((Nat ⊕ Unit) × DS) :=
  thM (f_Disk_spendWrite d) (fun x z => (.inl x, z)) (fun v z => B_LV_enterEntry_15   z f w m s g x1 x2 ((f_Walk_sectorHere d f w).1))
theorem e_f_LV_enterEntry {sc : Nat × (Nat → Int32)} {tl : List mn_E}    (d : DS) (f : FS) (w : WS) (m : MS) (s : SS) (g : GS) (x1 : Int32) (x2 : Int32) : Ev sc 9 123 0 0 M_LV_enterEntry 0 [(0, .ref 0), (1, .int x1), (2, .int x2)] [] (eLV :: (HD d (HF f (HW w (HM m (HS s (HG g tl))))))) (mapT ouVT (fun z => (eLV :: (HD z (HF f (HW w (HM m (HS s (HG g tl)))))))) (f_LV_enterEntry d f w m s g x1 x2)) := by
  unfold f_LV_enterEntry
  refine ev_aload_n d_LV_enterEntry_0 rfl rfl ?_
  refine ev_get (v := .ref 7) gi_LV (ci := 0) rfl rfl 2 (by decide) gw_289 rfl d_LV_enterEntry_1 ?_
  refine ev_callr (Mc := M_Walk_sectorHere) (v := some (.int ((f_Walk_sectorHere d f w).1))) (h1 := (eLV :: (HD d (HF f (HW w (HM m (HS s (HG g tl)))))))) (k2 := 0) (n2 := 0) (inv_V (q := 7) (av := []) (rest := []) rfl (ci := 3) rfl d_LV_enterEntry_4 gw_801 gw_802 gw_803 mw_Walk_sectorHere nh_Walk_sectorHere pn_Walk_sectorHere rfl) d_LV_enterEntry_4 pl_Walk_sectorHere (Nat.le_of_ble_eq_true rfl) (Nat.le_of_ble_eq_true rfl) (Nat.le_of_ble_eq_true rfl) rfl rfl (e_f_Walk_sectorHere (e0 := eLV) (tl := (HM m (HS s (HG g tl))))  d f w ) (Or.inl (len1 (lenHD (lenHF (lenHW (lenHM (lenHS (lenHG rfl)))))))) ?_
  refine ev_istore_n d_LV_enterEntry_7 rfl (by decide) rfl ?_
  refine ev_aload_n d_LV_enterEntry_8 rfl rfl ?_
  refine ev_get (v := .ref 1) gi_LV (ci := 0) rfl rfl 0 (by decide) gw_287 rfl d_LV_enterEntry_9 ?_
  refine ev_callT (q := (f_Disk_spendWrite d)) (ou := ouV) (Hs := (fun z => (eLV :: (HD z (HF f (HW w (HM m (HS s (HG g tl))))))))) (inv_V (q := 1) (av := []) (rest := []) rfl (ci := 1) rfl d_LV_enterEntry_12 gw_790 gw_791 gw_792 mw_Disk_spendWrite nh_Disk_spendWrite pn_Disk_spendWrite rfl) d_LV_enterEntry_12 pl_Disk_spendWrite (Nat.le_of_ble_eq_true rfl) (Nat.le_of_ble_eq_true rfl) (Nat.le_of_ble_eq_true rfl) (e_f_Disk_spendWrite (e0 := eLV) (tl := (HF f (HW w (HM m (HS s (HG g tl))))))  d ) (fun _ => (len1 (lenHD (lenHF (lenHW (lenHM (lenHS (lenHG rfl)))))))) rfl (fun x z h1 => ?_) (fun v z h1 => ⟨_, rfl, ?_⟩)
  · rw [h1]; rfl
  · rw [h1]
    exact ev_pick [1, 2, 3, 0] rfl (e_B_LV_enterEntry_15     z f w m s g x1 x2 ((f_Walk_sectorHere d f w).1))
def B_LV_create_23   (d : DS) (f : FS) (w : WS) (m : MS) (s : SS) (g : GS) : Option ((Nat ⊕ Int32) × (DS × FS × WS × MS)) :=
  some (.inl 3, (d, f, w, m))
theorem e_B_LV_create_23 {sc : Nat × (Nat → Int32)} {tl : List mn_E}    (d : DS) (f : FS) (w : WS) (m : MS) (s : SS) (g : GS) : Ev sc 10 139 0 0 M_LV_create 23 [] [] (eLV :: (HD d (HF f (HW w (HM m (HS s (HG g tl))))))) (mapR ouIT (fun z => (eLV :: (HD z.1 (HF z.2.1 (HW z.2.2.1 (HM z.2.2.2 (HS s (HG g tl)))))))) (B_LV_create_23 d f w m s g)) := by
  unfold B_LV_create_23
  exact ev_throw (x := 3) (names := gd_up) d_LV_create_23 d_LV_create_26 d_LV_create_27 d_LV_create_30 gw_678 gw_679 gw_114 tw_LV_64 (by decide +kernel) (by decide +kernel) rfl (by decide) (Nat.le_of_ble_eq_true rfl)
def B_LV_create_157   (d : DS) (f : FS) (w : WS) (m : MS) (s : SS) (g : GS) (x5 : Int32) : Option ((Nat ⊕ Int32) × (DS × FS × WS × MS)) :=
  some (.inr x5, (d, f, w, m))
theorem e_B_LV_create_157 {sc : Nat × (Nat → Int32)} {tl : List mn_E}    (d : DS) (f : FS) (w : WS) (m : MS) (s : SS) (g : GS) (x5 : Int32) : Ev sc 10 139 0 0 M_LV_create 157 [(5, .int x5)] [] (eLV :: (HD d (HF f (HW w (HM m (HS s (HG g tl))))))) (mapR ouIT (fun z => (eLV :: (HD z.1 (HF z.2.1 (HW z.2.2.1 (HM z.2.2.2 (HS s (HG g tl)))))))) (B_LV_create_157 d f w m s g x5)) := by
  unfold B_LV_create_157
  refine ev_iload d_LV_create_157 rfl ?_
  exact ev_zret (ty := .int) rfl rfl d_LV_create_159
def B_LV_create_146   (d : DS) (f : FS) (w : WS) (m : MS) (s : SS) (g : GS) (x5 : Int32) (x6 : Int32) : Option ((Nat ⊕ Int32) × (DS × FS × WS × MS)) :=
  bnd (f_Finder_remember d f x5 x6) (fun q => B_LV_create_157   d q.2 w m s g x5)
theorem e_B_LV_create_146 {sc : Nat × (Nat → Int32)} {tl : List mn_E}    (d : DS) (f : FS) (w : WS) (m : MS) (s : SS) (g : GS) (x5 : Int32) (x6 : Int32) : Ev sc 10 139 0 0 M_LV_create 146 [(0, .ref 0), (5, .int x5), (6, .int x6)] [] (eLV :: (HD d (HF f (HW w (HM m (HS s (HG g tl))))))) (mapR ouIT (fun z => (eLV :: (HD z.1 (HF z.2.1 (HW z.2.2.1 (HM z.2.2.2 (HS s (HG g tl)))))))) (B_LV_create_146 d f w m s g x5 x6)) := by
  unfold B_LV_create_146
  refine ev_aload_n d_LV_create_146 rfl rfl ?_
  refine ev_get (v := .ref 5) gi_LV (ci := 0) rfl rfl 1 (by decide) gw_288 rfl d_LV_create_147 ?_
  refine ev_iload d_LV_create_150 rfl ?_
  refine ev_iload d_LV_create_152 rfl ?_
  refine ev_callB (rc := (f_Finder_remember d f x5 x6)) (ou := ouV) (Hs := (fun z => (eLV :: (HD d (HF z (HW w (HM m (HS s (HG g tl))))))))) (inv_V (q := 5) (av := [.int x5, .int x6]) (rest := []) rfl (ci := 2) rfl d_LV_create_154 gw_845 gw_323 gw_324 mw_Finder_remember nh_Finder_remember pn_Finder_remember rfl) d_LV_create_154 pl_Finder_remember (Nat.le_of_ble_eq_true rfl) (Nat.le_of_ble_eq_true rfl) (Nat.le_of_ble_eq_true rfl) (e_f_Finder_remember (e0 := eLV) (tl := (HW w (HM m (HS s (HG g tl)))))  d f x5 x6) (fun _ => (len1 (lenHD (lenHF (lenHW (lenHM (lenHS (lenHG rfl)))))))) (fun v z h1 => ⟨_, rfl, ?_⟩)
  exact ev_pick [1] rfl (e_B_LV_create_157     d z w m s g x5)
def B_LV_create_139   (d : DS) (f : FS) (w : WS) (m : MS) (s : SS) (g : GS) (x5 : Int32) (x6 : Int32) : Option ((Nat ⊕ Int32) × (DS × FS × WS × MS)) :=
  bnd (f_Map_update d f w m) (fun q => thM q (fun x z => some (.inl x, (z, f, w, m))) (fun v z => B_LV_create_146   z f w m s g x5 x6))
theorem e_B_LV_create_139 {sc : Nat × (Nat → Int32)} {tl : List mn_E}    (d : DS) (f : FS) (w : WS) (m : MS) (s : SS) (g : GS) (x5 : Int32) (x6 : Int32) : Ev sc 10 139 0 0 M_LV_create 139 [(0, .ref 0), (5, .int x5), (6, .int x6)] [] (eLV :: (HD d (HF f (HW w (HM m (HS s (HG g tl))))))) (mapR ouIT (fun z => (eLV :: (HD z.1 (HF z.2.1 (HW z.2.2.1 (HM z.2.2.2 (HS s (HG g tl)))))))) (B_LV_create_139 d f w m s g x5 x6)) := by
  unfold B_LV_create_139
  refine ev_aload_n d_LV_create_139 rfl rfl ?_
  refine ev_get (v := .ref 8) gi_LV (ci := 0) rfl rfl 3 (by decide) gw_290 rfl d_LV_create_140 ?_
  refine ev_callBT (rc := (f_Map_update d f w m)) (ou := ouV) (Hs := (fun z => (eLV :: (HD z (HF f (HW w (HM m (HS s (HG g tl))))))))) (inv_V (q := 8) (av := []) (rest := []) rfl (ci := 4) rfl d_LV_create_143 gw_829 gw_830 gw_831 mw_Map_update nh_Map_update pn_Map_update rfl) d_LV_create_143 pl_Map_update (Nat.le_of_ble_eq_true rfl) (Nat.le_of_ble_eq_true rfl) (Nat.le_of_ble_eq_true rfl) (e_f_Map_update (e0 := eLV) (tl := (HS s (HG g tl)))  d f w m ) (fun _ => (len1 (lenHD (lenHF (lenHW (lenHM (lenHS (lenHG rfl)))))))) rfl (fun x z h1 => ?_) (fun v z h1 => ⟨_, rfl, ?_⟩)
  · rfl
  · exact ev_pick [0, 1, 2] rfl (e_B_LV_create_146     z f w m s g x5 x6)
def B_LV_create_131   (d : DS) (f : FS) (w : WS) (m : MS) (s : SS) (g : GS) (x4 : Int32) (x5 : Int32) (x6 : Int32) : Option ((Nat ⊕ Int32) × (DS × FS × WS × MS)) :=
  thM (f_LV_enterEntry d f w m s g x4 x6) (fun x z => some (.inl x, (z, f, w, m))) (fun v z => B_LV_create_139   z f w m s g x5 x6)
theorem e_B_LV_create_131 {sc : Nat × (Nat → Int32)} {tl : List mn_E}    (d : DS) (f : FS) (w : WS) (m : MS) (s : SS) (g : GS) (x4 : Int32) (x5 : Int32) (x6 : Int32) : Ev sc 10 139 0 0 M_LV_create 131 [(0, .ref 0), (4, .int x4), (5, .int x5), (6, .int x6)] [] (eLV :: (HD d (HF f (HW w (HM m (HS s (HG g tl))))))) (mapR ouIT (fun z => (eLV :: (HD z.1 (HF z.2.1 (HW z.2.2.1 (HM z.2.2.2 (HS s (HG g tl)))))))) (B_LV_create_131 d f w m s g x4 x5 x6)) := by
  unfold B_LV_create_131
  refine ev_aload_n d_LV_create_131 rfl rfl ?_
  refine ev_iload d_LV_create_132 rfl ?_
  refine ev_iload d_LV_create_134 rfl ?_
  refine ev_callT (q := (f_LV_enterEntry d f w m s g x4 x6)) (ou := ouV) (Hs := (fun z => (eLV :: (HD z (HF f (HW w (HM m (HS s (HG g tl))))))))) (inv_V (q := 0) (av := [.int x4, .int x6]) (rest := []) rfl (ci := 0) rfl d_LV_create_136 gw_797 gw_799 gw_36 mw_LV_enterEntry nh_LV_enterEntry pn_LV_enterEntry rfl) d_LV_create_136 pl_LV_enterEntry (Nat.le_of_ble_eq_true rfl) (Nat.le_of_ble_eq_true rfl) (Nat.le_of_ble_eq_true rfl) (e_f_LV_enterEntry (tl := tl)  d f w m s g x4 x6) (fun _ => (len1 (lenHD (lenHF (lenHW (lenHM (lenHS (lenHG rfl)))))))) rfl (fun x z h1 => ?_) (fun v z h1 => ⟨_, rfl, ?_⟩)
  · rw [h1]; rfl
  · rw [h1]
    exact ev_pick [0, 2, 3] rfl (e_B_LV_create_139     z f w m s g x5 x6)
def B_LV_create_128   (d : DS) (f : FS) (w : WS) (m : MS) (s : SS) (g : GS) (x4 : Int32) (x5 : Int32) (x6 : Int32) (t1 : Int32) (t2 : Int32) (t3 : Int32) (t4 : Int32) : Option ((Nat ⊕ Int32) × (DS × FS × WS × MS)) :=
  B_LV_create_131   ((f_Disk_makeLeader d t1 t2 t3 t4).2) f w m s g x4 x5 x6
theorem e_B_LV_create_128 {sc : Nat × (Nat → Int32)} {tl : List mn_E}    (d : DS) (f : FS) (w : WS) (m : MS) (s : SS) (g : GS) (x4 : Int32) (x5 : Int32) (x6 : Int32) (t1 : Int32) (t2 : Int32) (t3 : Int32) (t4 : Int32) : Ev sc 10 139 0 0 M_LV_create 128 [(0, .ref 0), (4, .int x4), (5, .int x5), (6, .int x6)] [.int t4, .int t3, .int t2, .int t1, .ref 1] (eLV :: (HD d (HF f (HW w (HM m (HS s (HG g tl))))))) (mapR ouIT (fun z => (eLV :: (HD z.1 (HF z.2.1 (HW z.2.2.1 (HM z.2.2.2 (HS s (HG g tl)))))))) (B_LV_create_128 d f w m s g x4 x5 x6 t1 t2 t3 t4)) := by
  unfold B_LV_create_128
  refine ev_callr (Mc := M_Disk_makeLeader) (v := none) (h1 := (eLV :: (HD ((f_Disk_makeLeader d t1 t2 t3 t4).2) (HF f (HW w (HM m (HS s (HG g tl)))))))) (k2 := 0) (n2 := 0) (inv_V (q := 1) (av := [.int t1, .int t2, .int t3, .int t4]) (rest := []) rfl (ci := 1) rfl d_LV_create_128 gw_796 gw_182 gw_183 mw_Disk_makeLeader nh_Disk_makeLeader pn_Disk_makeLeader rfl) d_LV_create_128 pl_Disk_makeLeader (Nat.le_of_ble_eq_true rfl) (Nat.le_of_ble_eq_true rfl) (Nat.le_of_ble_eq_true rfl) rfl rfl (e_f_Disk_makeLeader (e0 := eLV) (tl := (HF f (HW w (HM m (HS s (HG g tl))))))  d t1 t2 t3 t4) (Or.inl (len1 (lenHD (lenHF (lenHW (lenHM (lenHS (lenHG rfl)))))))) ?_
  exact ev_pick [0, 1, 2, 3] rfl (e_B_LV_create_131     ((f_Disk_makeLeader d t1 t2 t3 t4).2) f w m s g x4 x5 x6)
def B_LV_create_110   (d : DS) (f : FS) (w : WS) (m : MS) (s : SS) (g : GS) (x2 : Int32) (x3 : Int32) (x4 : Int32) (x5 : Int32) (x6 : Int32) : Option ((Nat ⊕ Int32) × (DS × FS × WS × MS)) :=
  if x3 = 0 then (B_LV_create_128   d f w m s g x4 x5 x6 x6 x5 x2 0) else (B_LV_create_128   d f w m s g x4 x5 x6 x6 x5 x2 1)
theorem e_B_LV_create_110 {sc : Nat × (Nat → Int32)} {tl : List mn_E}    (d : DS) (f : FS) (w : WS) (m : MS) (s : SS) (g : GS) (x2 : Int32) (x3 : Int32) (x4 : Int32) (x5 : Int32) (x6 : Int32) : Ev sc 10 139 0 0 M_LV_create 110 [(0, .ref 0), (2, .int x2), (3, .int x3), (4, .int x4), (5, .int x5), (6, .int x6)] [] (eLV :: (HD d (HF f (HW w (HM m (HS s (HG g tl))))))) (mapR ouIT (fun z => (eLV :: (HD z.1 (HF z.2.1 (HW z.2.2.1 (HM z.2.2.2 (HS s (HG g tl)))))))) (B_LV_create_110 d f w m s g x2 x3 x4 x5 x6)) := by
  unfold B_LV_create_110
  refine ev_aload_n d_LV_create_110 rfl rfl ?_
  refine ev_get (v := .ref 1) gi_LV (ci := 0) rfl rfl 0 (by decide) gw_287 rfl d_LV_create_111 ?_
  refine ev_iload d_LV_create_114 rfl ?_
  refine ev_iload d_LV_create_116 rfl ?_
  refine ev_iload_n d_LV_create_118 rfl rfl ?_
  refine ev_iload_n d_LV_create_119 rfl rfl ?_
  refine ev_if_eq (tgt := 127) d_LV_create_120 rfl (fun h1 => ?_) (fun h1 => ?_)
  · rw [if_pos h1]
    refine ev_iconst (v := 0) d_LV_create_127 rfl ?_
    exact ev_pick [0, 3, 4, 5] rfl (e_B_LV_create_128     d f w m s g x4 x5 x6 x6 x5 x2 0)
  · rw [if_neg h1]
    refine ev_iconst (v := 1) d_LV_create_123 rfl ?_
    refine ev_goto (tgt := 128) d_LV_create_124 rfl ?_
    exact ev_pick [0, 3, 4, 5] rfl (e_B_LV_create_128     d f w m s g x4 x5 x6 x6 x5 x2 1)
def B_LV_create_74   (d : DS) (f : FS) (w : WS) (m : MS) (s : SS) (g : GS) (x2 : Int32) (x3 : Int32) (x4 : Int32) (t0 : Int32) : Option ((Nat ⊕ Int32) × (DS × FS × WS × MS)) :=
  if ¬ t0 = 0 then (thM (f_Disk_spendWrite d) (fun x z => some (.inl x, (z, f, w, m))) (fun v z => B_LV_create_110   z f w m s g x2 x3 x4 (xLowSer d) ((f_Map_firstTaken d f w m).1))) else (some (.inl 4, (d, f, w, m)))
theorem e_B_LV_create_74 {sc : Nat × (Nat → Int32)} {tl : List mn_E}    (d : DS) (f : FS) (w : WS) (m : MS) (s : SS) (g : GS) (x2 : Int32) (x3 : Int32) (x4 : Int32) (t0 : Int32) : Ev sc 10 139 0 0 M_LV_create 74 [(0, .ref 0), (2, .int x2), (3, .int x3), (4, .int x4)] [.int t0] (eLV :: (HD d (HF f (HW w (HM m (HS s (HG g tl))))))) (mapR ouIT (fun z => (eLV :: (HD z.1 (HF z.2.1 (HW z.2.2.1 (HM z.2.2.2 (HS s (HG g tl)))))))) (B_LV_create_74 d f w m s g x2 x3 x4 t0)) := by
  unfold B_LV_create_74
  refine ev_if_ne (tgt := 85) d_LV_create_74 rfl (fun h1 => ?_) (fun h1 => ?_)
  · rw [if_pos h1]
    refine ev_aload_n d_LV_create_85 rfl rfl ?_
    refine ev_get (v := .ref 1) gi_LV (ci := 0) rfl rfl 0 (by decide) gw_287 rfl d_LV_create_86 ?_
    refine ev_callr (Mc := M_Disk_lowestUnsaidSerial) (v := some (.int (xLowSer d))) (h1 := (eLV :: (HD d (HF f (HW w (HM m (HS s (HG g tl)))))))) (k2 := 0) (n2 := 0) (inv_V (q := 1) (av := []) (rest := []) rfl (ci := 1) rfl d_LV_create_89 gw_781 gw_782 gw_783 mw_Disk_lowestUnsaidSerial nh_Disk_lowestUnsaidSerial pn_Disk_lowestUnsaidSerial rfl) d_LV_create_89 pl_Disk_lowestUnsaidSerial (Nat.le_of_ble_eq_true rfl) (Nat.le_of_ble_eq_true rfl) (Nat.le_of_ble_eq_true rfl) rfl rfl (c_Disk_lowestUnsaidSerial (e0 := eLV) (tl := (HF f (HW w (HM m (HS s (HG g tl))))))  d ) (Or.inl (len1 (lenHD (lenHF (lenHW (lenHM (lenHS (lenHG rfl)))))))) ?_
    refine ev_istore d_LV_create_92 (by decide) rfl ?_
    refine ev_aload_n d_LV_create_94 rfl rfl ?_
    refine ev_get (v := .ref 8) gi_LV (ci := 0) rfl rfl 3 (by decide) gw_290 rfl d_LV_create_95 ?_
    refine ev_callr (Mc := M_Map_firstTaken) (v := some (.int ((f_Map_firstTaken d f w m).1))) (h1 := (eLV :: (HD d (HF f (HW w (HM m (HS s (HG g tl)))))))) (k2 := 0) (n2 := 0) (inv_V (q := 8) (av := []) (rest := []) rfl (ci := 4) rfl d_LV_create_98 gw_786 gw_787 gw_788 mw_Map_firstTaken nh_Map_firstTaken pn_Map_firstTaken rfl) d_LV_create_98 pl_Map_firstTaken (Nat.le_of_ble_eq_true rfl) (Nat.le_of_ble_eq_true rfl) (Nat.le_of_ble_eq_true rfl) rfl rfl (e_f_Map_firstTaken (e0 := eLV) (tl := (HS s (HG g tl)))  d f w m ) (Or.inl (len1 (lenHD (lenHF (lenHW (lenHM (lenHS (lenHG rfl)))))))) ?_
    refine ev_istore d_LV_create_101 (by decide) rfl ?_
    refine ev_aload_n d_LV_create_103 rfl rfl ?_
    refine ev_get (v := .ref 1) gi_LV (ci := 0) rfl rfl 0 (by decide) gw_287 rfl d_LV_create_104 ?_
    refine ev_callT (q := (f_Disk_spendWrite d)) (ou := ouV) (Hs := (fun z => (eLV :: (HD z (HF f (HW w (HM m (HS s (HG g tl))))))))) (inv_V (q := 1) (av := []) (rest := []) rfl (ci := 1) rfl d_LV_create_107 gw_790 gw_791 gw_792 mw_Disk_spendWrite nh_Disk_spendWrite pn_Disk_spendWrite rfl) d_LV_create_107 pl_Disk_spendWrite (Nat.le_of_ble_eq_true rfl) (Nat.le_of_ble_eq_true rfl) (Nat.le_of_ble_eq_true rfl) (e_f_Disk_spendWrite (e0 := eLV) (tl := (HF f (HW w (HM m (HS s (HG g tl))))))  d ) (fun _ => (len1 (lenHD (lenHF (lenHW (lenHM (lenHS (lenHG rfl)))))))) rfl (fun x z h2 => ?_) (fun v z h2 => ⟨_, rfl, ?_⟩)
    · rw [h2]; rfl
    · rw [h2]
      exact ev_pick [2, 3, 4, 5, 1, 0] rfl (e_B_LV_create_110     z f w m s g x2 x3 x4 (xLowSer d) ((f_Map_firstTaken d f w m).1))
  · rw [if_neg h1]
    exact ev_throw (x := 4) (names := gd_up) d_LV_create_77 d_LV_create_80 d_LV_create_81 d_LV_create_84 gw_715 gw_716 gw_115 tw_LV_71 (by decide +kernel) (by decide +kernel) rfl (by decide) (Nat.le_of_ble_eq_true rfl)
def B_LV_create_71   (d : DS) (f : FS) (w : WS) (m : MS) (s : SS) (g : GS) (x2 : Int32) (x3 : Int32) (x4 : Int32) (t1 : Int32) : Option ((Nat ⊕ Int32) × (DS × FS × WS × MS)) :=
  bnd (f_Map_take d f w m t1) (fun q => B_LV_create_74   q.2.1 q.2.2.1 w q.2.2.2 s g x2 x3 x4 q.1)
theorem e_B_LV_create_71 {sc : Nat × (Nat → Int32)} {tl : List mn_E}    (d : DS) (f : FS) (w : WS) (m : MS) (s : SS) (g : GS) (x2 : Int32) (x3 : Int32) (x4 : Int32) (t1 : Int32) : Ev sc 10 139 0 0 M_LV_create 71 [(0, .ref 0), (2, .int x2), (3, .int x3), (4, .int x4)] [.int t1, .ref 8] (eLV :: (HD d (HF f (HW w (HM m (HS s (HG g tl))))))) (mapR ouIT (fun z => (eLV :: (HD z.1 (HF z.2.1 (HW z.2.2.1 (HM z.2.2.2 (HS s (HG g tl)))))))) (B_LV_create_71 d f w m s g x2 x3 x4 t1)) := by
  unfold B_LV_create_71
  refine ev_callB (rc := (f_Map_take d f w m t1)) (ou := ouI) (Hs := (fun z => (eLV :: (HD z.1 (HF z.2.1 (HW w (HM z.2.2 (HS s (HG g tl))))))))) (inv_V (q := 8) (av := [.int t1]) (rest := []) rfl (ci := 4) rfl d_LV_create_71 gw_753 gw_754 gw_755 mw_Map_take nh_Map_take pn_Map_take rfl) d_LV_create_71 pl_Map_take (Nat.le_of_ble_eq_true rfl) (Nat.le_of_ble_eq_true rfl) (Nat.le_of_ble_eq_true rfl) (e_f_Map_take (e0 := eLV) (tl := (HS s (HG g tl)))  d f w m t1) (fun _ => (len1 (lenHD (lenHF (lenHW (lenHM (lenHS (lenHG rfl)))))))) (fun v z h1 => ⟨_, rfl, ?_⟩)
  exact ev_pick [0, 1, 2, 3] rfl (e_B_LV_create_74     z.1 z.2.1 w z.2.2 s g x2 x3 x4 v)
def B_LV_create_41   (d : DS) (f : FS) (w : WS) (m : MS) (s : SS) (g : GS) (x2 : Int32) (x3 : Int32) (x4 : Int32) (t0 : Int32) : Option ((Nat ⊕ Int32) × (DS × FS × WS × MS)) :=
  if t0 = 0 then (if ((f_Walk_needsPage d f w).1) = 0 then (B_LV_create_71   d f w m s g x2 x3 x4 1) else (B_LV_create_71   d f w m s g x2 x3 x4 2)) else (some (.inl 4, (d, f, w, m)))
theorem e_B_LV_create_41 {sc : Nat × (Nat → Int32)} {tl : List mn_E}    (d : DS) (f : FS) (w : WS) (m : MS) (s : SS) (g : GS) (x2 : Int32) (x3 : Int32) (x4 : Int32) (t0 : Int32) : Ev sc 10 139 0 0 M_LV_create 41 [(0, .ref 0), (2, .int x2), (3, .int x3), (4, .int x4)] [.int t0] (eLV :: (HD d (HF f (HW w (HM m (HS s (HG g tl))))))) (mapR ouIT (fun z => (eLV :: (HD z.1 (HF z.2.1 (HW z.2.2.1 (HM z.2.2.2 (HS s (HG g tl)))))))) (B_LV_create_41 d f w m s g x2 x3 x4 t0)) := by
  unfold B_LV_create_41
  refine ev_if_eq (tgt := 52) d_LV_create_41 rfl (fun h1 => ?_) (fun h1 => ?_)
  · rw [if_pos h1]
    refine ev_aload_n d_LV_create_52 rfl rfl ?_
    refine ev_get (v := .ref 8) gi_LV (ci := 0) rfl rfl 3 (by decide) gw_290 rfl d_LV_create_53 ?_
    refine ev_aload_n d_LV_create_56 rfl rfl ?_
    refine ev_get (v := .ref 7) gi_LV (ci := 0) rfl rfl 2 (by decide) gw_289 rfl d_LV_create_57 ?_
    refine ev_callr (Mc := M_Walk_needsPage) (v := some (.int ((f_Walk_needsPage d f w).1))) (h1 := (eLV :: (HD d (HF f (HW w (HM m (HS s (HG g tl)))))))) (k2 := 0) (n2 := 0) (inv_V (q := 7) (av := []) (rest := [.ref 8]) rfl (ci := 3) rfl d_LV_create_60 gw_744 gw_745 gw_746 mw_Walk_needsPage nh_Walk_needsPage pn_Walk_needsPage rfl) d_LV_create_60 pl_Walk_needsPage (Nat.le_of_ble_eq_true rfl) (Nat.le_of_ble_eq_true rfl) (Nat.le_of_ble_eq_true rfl) rfl rfl (e_f_Walk_needsPage (e0 := eLV) (tl := (HM m (HS s (HG g tl))))  d f w ) (Or.inl (len1 (lenHD (lenHF (lenHW (lenHM (lenHS (lenHG rfl)))))))) ?_
    refine ev_if_eq (tgt := 70) d_LV_create_63 rfl (fun h2 => ?_) (fun h2 => ?_)
    · rw [if_pos h2]
      refine ev_iconst (v := 1) d_LV_create_70 rfl ?_
      exact ev_pick [0, 1, 2, 3] rfl (e_B_LV_create_71     d f w m s g x2 x3 x4 1)
    · rw [if_neg h2]
      refine ev_iconst (v := 2) d_LV_create_66 rfl ?_
      refine ev_goto (tgt := 71) d_LV_create_67 rfl ?_
      exact ev_pick [0, 1, 2, 3] rfl (e_B_LV_create_71     d f w m s g x2 x3 x4 2)
  · rw [if_neg h1]
    exact ev_throw (x := 4) (names := gd_up) d_LV_create_44 d_LV_create_47 d_LV_create_48 d_LV_create_51 gw_715 gw_716 gw_115 tw_LV_71 (by decide +kernel) (by decide +kernel) rfl (by decide) (Nat.le_of_ble_eq_true rfl)
def B_LV_create_9   (d : DS) (f : FS) (w : WS) (m : MS) (s : SS) (g : GS) (x2 : Int32) (x3 : Int32) (t0 : Int32) : Option ((Nat ⊕ Int32) × (DS × FS × WS × MS)) :=
  if x2 < 1 then (B_LV_create_23   d f w m s g) else (if x2 ≤ 9999 then (bnd (f_Walk_seekName d f w t0 x2) (fun q => thM q (fun x z => some (.inl x, (z.1, f, z.2, m))) (fun v z => B_LV_create_41   z.1 f z.2 m s g x2 x3 t0 v))) else (B_LV_create_23   d f w m s g))
theorem e_B_LV_create_9 {sc : Nat × (Nat → Int32)} {tl : List mn_E}    (d : DS) (f : FS) (w : WS) (m : MS) (s : SS) (g : GS) (x2 : Int32) (x3 : Int32) (t0 : Int32) : Ev sc 10 139 0 0 M_LV_create 9 [(0, .ref 0), (2, .int x2), (3, .int x3)] [.int t0] (eLV :: (HD d (HF f (HW w (HM m (HS s (HG g tl))))))) (mapR ouIT (fun z => (eLV :: (HD z.1 (HF z.2.1 (HW z.2.2.1 (HM z.2.2.2 (HS s (HG g tl)))))))) (B_LV_create_9 d f w m s g x2 x3 t0)) := by
  unfold B_LV_create_9
  refine ev_istore d_LV_create_9 (by decide) rfl ?_
  refine ev_iload_n d_LV_create_11 rfl rfl ?_
  refine ev_iconst (v := 1) d_LV_create_12 rfl ?_
  refine ev_icmp_lt (tgt := 23) d_LV_create_13 rfl (fun h1 => ?_) (fun h1 => ?_)
  · rw [if_pos h1]
    exact ev_pick [] rfl (e_B_LV_create_23     d f w m s g)
  · rw [if_neg h1]
    refine ev_iload_n d_LV_create_16 rfl rfl ?_
    refine ev_sipush (v := 9999) d_LV_create_17 rfl ?_
    refine ev_icmp_le (tgt := 31) d_LV_create_20 rfl (fun h2 => ?_) (fun h2 => ?_)
    · rw [if_pos h2]
      refine ev_aload_n d_LV_create_31 rfl rfl ?_
      refine ev_get (v := .ref 7) gi_LV (ci := 0) rfl rfl 2 (by decide) gw_289 rfl d_LV_create_32 ?_
      refine ev_iload d_LV_create_35 rfl ?_
      refine ev_iload_n d_LV_create_37 rfl rfl ?_
      refine ev_callBT (rc := (f_Walk_seekName d f w t0 x2)) (ou := ouI) (Hs := (fun z => (eLV :: (HD z.1 (HF f (HW z.2 (HM m (HS s (HG g tl))))))))) (inv_V (q := 7) (av := [.int t0, .int x2]) (rest := []) rfl (ci := 3) rfl d_LV_create_38 gw_693 gw_694 gw_695 mw_Walk_seekName nh_Walk_seekName pn_Walk_seekName rfl) d_LV_create_38 pl_Walk_seekName (Nat.le_of_ble_eq_true rfl) (Nat.le_of_ble_eq_true rfl) (Nat.le_of_ble_eq_true rfl) (e_f_Walk_seekName (e0 := eLV) (tl := (HM m (HS s (HG g tl))))  d f w t0 x2) (fun _ => (len1 (lenHD (lenHF (lenHW (lenHM (lenHS (lenHG rfl)))))))) rfl (fun x z h3 => ?_) (fun v z h3 => ⟨_, rfl, ?_⟩)
      · rfl
      · exact ev_pick [1, 2, 3, 0] rfl (e_B_LV_create_41     z.1 f z.2 m s g x2 x3 t0 v)
    · rw [if_neg h2]
      exact ev_pick [] rfl (e_B_LV_create_23     d f w m s g)
def B_LV_create_4   (d : DS) (f : FS) (w : WS) (m : MS) (s : SS) (g : GS) (x1 : Int32) (x2 : Int32) (x3 : Int32) : Option ((Nat ⊕ Int32) × (DS × FS × WS × MS)) :=
  bnd (f_LV_requireDirectory d f w m s g x1) (fun q => thM q (fun x z => some (.inl x, (z.1, z.2, w, m))) (fun v z => B_LV_create_9   z.1 z.2 w m s g x2 x3 v))
theorem e_B_LV_create_4 {sc : Nat × (Nat → Int32)} {tl : List mn_E}    (d : DS) (f : FS) (w : WS) (m : MS) (s : SS) (g : GS) (x1 : Int32) (x2 : Int32) (x3 : Int32) : Ev sc 10 139 0 0 M_LV_create 4 [(0, .ref 0), (1, .int x1), (2, .int x2), (3, .int x3)] [] (eLV :: (HD d (HF f (HW w (HM m (HS s (HG g tl))))))) (mapR ouIT (fun z => (eLV :: (HD z.1 (HF z.2.1 (HW z.2.2.1 (HM z.2.2.2 (HS s (HG g tl)))))))) (B_LV_create_4 d f w m s g x1 x2 x3)) := by
  unfold B_LV_create_4
  refine ev_aload_n d_LV_create_4 rfl rfl ?_
  refine ev_iload_n d_LV_create_5 rfl rfl ?_
  refine ev_callBT (rc := (f_LV_requireDirectory d f w m s g x1)) (ou := ouI) (Hs := (fun z => (eLV :: (HD z.1 (HF z.2 (HW w (HM m (HS s (HG g tl))))))))) (inv_V (q := 0) (av := [.int x1]) (rest := []) rfl (ci := 0) rfl d_LV_create_6 gw_645 gw_647 gw_28 mw_LV_requireDirectory nh_LV_requireDirectory pn_LV_requireDirectory rfl) d_LV_create_6 pl_LV_requireDirectory (Nat.le_of_ble_eq_true rfl) (Nat.le_of_ble_eq_true rfl) (Nat.le_of_ble_eq_true rfl) (e_f_LV_requireDirectory (tl := tl)  d f w m s g x1) (fun _ => (len1 (lenHD (lenHF (lenHW (lenHM (lenHS (lenHG rfl)))))))) rfl (fun x z h1 => ?_) (fun v z h1 => ⟨_, rfl, ?_⟩)
  · rfl
  · exact ev_pick [0, 2, 3] rfl (e_B_LV_create_9     z.1 z.2 w m s g x2 x3 v)
def f_LV_create   (d : DS) (f : FS) (w : WS) (m : MS) (s : SS) (g : GS) (x1 : Int32) (x2 : Int32) (x3 : Int32) : Option ((Nat ⊕ Int32) × (DS × FS × WS × MS)) :=
  thM (f_LV_requirePower d f w m s g) (fun x z => some (.inl x, (d, f, w, m))) (fun v z => B_LV_create_4   d f w m s g x1 x2 x3)
theorem e_f_LV_create {sc : Nat × (Nat → Int32)} {tl : List mn_E}    (d : DS) (f : FS) (w : WS) (m : MS) (s : SS) (g : GS) (x1 : Int32) (x2 : Int32) (x3 : Int32) : Ev sc 10 139 0 0 M_LV_create 0 [(0, .ref 0), (1, .int x1), (2, .int x2), (3, .int x3)] [] (eLV :: (HD d (HF f (HW w (HM m (HS s (HG g tl))))))) (mapR ouIT (fun z => (eLV :: (HD z.1 (HF z.2.1 (HW z.2.2.1 (HM z.2.2.2 (HS s (HG g tl)))))))) (f_LV_create d f w m s g x1 x2 x3)) := by
  unfold f_LV_create
  refine ev_aload_n d_LV_create_0 rfl rfl ?_
  refine ev_callT (q := (f_LV_requirePower d f w m s g)) (ou := ouV) (Hs := (fun z => (eLV :: (HD d (HF f (HW w (HM m (HS s (HG g tl))))))))) (inv_V (q := 0) (av := []) (rest := []) rfl (ci := 0) rfl d_LV_create_1 gw_576 gw_578 gw_26 mw_LV_requirePower nh_LV_requirePower pn_LV_requirePower rfl) d_LV_create_1 pl_LV_requirePower (Nat.le_of_ble_eq_true rfl) (Nat.le_of_ble_eq_true rfl) (Nat.le_of_ble_eq_true rfl) (e_f_LV_requirePower (tl := tl)  d f w m s g ) (fun _ => (len1 (lenHD (lenHF (lenHW (lenHM (lenHS (lenHG rfl)))))))) rfl (fun x z h1 => ?_) (fun v z h1 => ⟨_, rfl, ?_⟩)
  · rw [h1]; rfl
  · rw [h1]
    exact ev_pick [0, 1, 2, 3] rfl (e_B_LV_create_4     d f w m s g x1 x2 x3)
def B_LV_leaderOfEntry_48   (d : DS) (f : FS) (w : WS) (m : MS) (s : SS) (g : GS) : Option ((Nat ⊕ Int32) × (DS × FS × WS)) :=
  some (.inl 2, (d, f, w))
theorem e_B_LV_leaderOfEntry_48 {sc : Nat × (Nat → Int32)} {tl : List mn_E}    (d : DS) (f : FS) (w : WS) (m : MS) (s : SS) (g : GS) : Ev sc 9 122 0 0 M_LV_leaderOfEntry 48 [] [] (eLV :: (HD d (HF f (HW w (HM m (HS s (HG g tl))))))) (mapR ouIT (fun z => (eLV :: (HD z.1 (HF z.2.1 (HW z.2.2 (HM m (HS s (HG g tl)))))))) (B_LV_leaderOfEntry_48 d f w m s g)) := by
  unfold B_LV_leaderOfEntry_48
  exact ev_throw (x := 2) (names := gd_up) d_LV_leaderOfEntry_48 d_LV_leaderOfEntry_51 d_LV_leaderOfEntry_52 d_LV_leaderOfEntry_55 gw_662 gw_663 gw_113 tw_LV_185 (by decide +kernel) (by decide +kernel) rfl (by decide) (Nat.le_of_ble_eq_true rfl)
def B_LV_leaderOfEntry_107   (d : DS) (f : FS) (w : WS) (m : MS) (s : SS) (g : GS) (x5 : Int32) : Option ((Nat ⊕ Int32) × (DS × FS × WS)) :=
  some (.inr x5, (d, f, w))
theorem e_B_LV_leaderOfEntry_107 {sc : Nat × (Nat → Int32)} {tl : List mn_E}    (d : DS) (f : FS) (w : WS) (m : MS) (s : SS) (g : GS) (x5 : Int32) : Ev sc 9 122 0 0 M_LV_leaderOfEntry 107 [(5, .int x5)] [] (eLV :: (HD d (HF f (HW w (HM m (HS s (HG g tl))))))) (mapR ouIT (fun z => (eLV :: (HD z.1 (HF z.2.1 (HW z.2.2 (HM m (HS s (HG g tl)))))))) (B_LV_leaderOfEntry_107 d f w m s g x5)) := by
  unfold B_LV_leaderOfEntry_107
  refine ev_iload d_LV_leaderOfEntry_107 rfl ?_
  exact ev_zret (ty := .int) rfl rfl d_LV_leaderOfEntry_109
def B_LV_leaderOfEntry_116   (d : DS) (f : FS) (w : WS) (m : MS) (s : SS) (g : GS) (t0 : Int32) : Option ((Nat ⊕ Int32) × (DS × FS × WS)) :=
  some (.inr t0, (d, f, w))
theorem e_B_LV_leaderOfEntry_116 {sc : Nat × (Nat → Int32)} {tl : List mn_E}    (d : DS) (f : FS) (w : WS) (m : MS) (s : SS) (g : GS) (t0 : Int32) : Ev sc 9 122 0 0 M_LV_leaderOfEntry 116 [] [.int t0] (eLV :: (HD d (HF f (HW w (HM m (HS s (HG g tl))))))) (mapR ouIT (fun z => (eLV :: (HD z.1 (HF z.2.1 (HW z.2.2 (HM m (HS s (HG g tl)))))))) (B_LV_leaderOfEntry_116 d f w m s g t0)) := by
  unfold B_LV_leaderOfEntry_116
  exact ev_zret (ty := .int) rfl rfl d_LV_leaderOfEntry_116
def B_LV_leaderOfEntry_93   (d : DS) (f : FS) (w : WS) (m : MS) (s : SS) (g : GS) (x4 : Int32) (x5 : Int32) (t0 : Int32) : Option ((Nat ⊕ Int32) × (DS × FS × WS)) :=
  if t0 = 0 then (bnd (f_LV_requireLeader d f w m s g x4) (fun q => thM q (fun x z => some (.inl x, (z.1, z.2, w))) (fun v z => B_LV_leaderOfEntry_116   z.1 z.2 w m s g v))) else (bnd (f_Finder_remember d f x4 x5) (fun q => B_LV_leaderOfEntry_107   d q.2 w m s g x5))
theorem e_B_LV_leaderOfEntry_93 {sc : Nat × (Nat → Int32)} {tl : List mn_E}    (d : DS) (f : FS) (w : WS) (m : MS) (s : SS) (g : GS) (x4 : Int32) (x5 : Int32) (t0 : Int32) : Ev sc 9 122 0 0 M_LV_leaderOfEntry 93 [(0, .ref 0), (4, .int x4), (5, .int x5)] [.int t0] (eLV :: (HD d (HF f (HW w (HM m (HS s (HG g tl))))))) (mapR ouIT (fun z => (eLV :: (HD z.1 (HF z.2.1 (HW z.2.2 (HM m (HS s (HG g tl)))))))) (B_LV_leaderOfEntry_93 d f w m s g x4 x5 t0)) := by
  unfold B_LV_leaderOfEntry_93
  refine ev_if_eq (tgt := 110) d_LV_leaderOfEntry_93 rfl (fun h1 => ?_) (fun h1 => ?_)
  · rw [if_pos h1]
    refine ev_aload_n d_LV_leaderOfEntry_110 rfl rfl ?_
    refine ev_iload d_LV_leaderOfEntry_111 rfl ?_
    refine ev_callBT (rc := (f_LV_requireLeader d f w m s g x4)) (ou := ouI) (Hs := (fun z => (eLV :: (HD z.1 (HF z.2 (HW w (HM m (HS s (HG g tl))))))))) (inv_V (q := 0) (av := [.int x4]) (rest := []) rfl (ci := 0) rfl d_LV_leaderOfEntry_113 gw_649 gw_651 gw_29 mw_LV_requireLeader nh_LV_requireLeader pn_LV_requireLeader rfl) d_LV_leaderOfEntry_113 pl_LV_requireLeader (Nat.le_of_ble_eq_true rfl) (Nat.le_of_ble_eq_true rfl) (Nat.le_of_ble_eq_true rfl) (e_f_LV_requireLeader (tl := tl)  d f w m s g x4) (fun _ => (len1 (lenHD (lenHF (lenHW (lenHM (lenHS (lenHG rfl)))))))) rfl (fun x z h2 => ?_) (fun v z h2 => ⟨_, rfl, ?_⟩)
    · rfl
    · exact ev_pick [] rfl (e_B_LV_leaderOfEntry_116     z.1 z.2 w m s g v)
  · rw [if_neg h1]
    refine ev_aload_n d_LV_leaderOfEntry_96 rfl rfl ?_
    refine ev_get (v := .ref 5) gi_LV (ci := 0) rfl rfl 1 (by decide) gw_288 rfl d_LV_leaderOfEntry_97 ?_
    refine ev_iload d_LV_leaderOfEntry_100 rfl ?_
    refine ev_iload d_LV_leaderOfEntry_102 rfl ?_
    refine ev_callB (rc := (f_Finder_remember d f x4 x5)) (ou := ouV) (Hs := (fun z => (eLV :: (HD d (HF z (HW w (HM m (HS s (HG g tl))))))))) (inv_V (q := 5) (av := [.int x4, .int x5]) (rest := []) rfl (ci := 2) rfl d_LV_leaderOfEntry_104 gw_845 gw_323 gw_324 mw_Finder_remember nh_Finder_remember pn_Finder_remember rfl) d_LV_leaderOfEntry_104 pl_Finder_remember (Nat.le_of_ble_eq_true rfl) (Nat.le_of_ble_eq_true rfl) (Nat.le_of_ble_eq_true rfl) (e_f_Finder_remember (e0 := eLV) (tl := (HW w (HM m (HS s (HG g tl)))))  d f x4 x5) (fun _ => (len1 (lenHD (lenHF (lenHW (lenHM (lenHS (lenHG rfl)))))))) (fun v z h3 => ⟨_, rfl, ?_⟩)
    exact ev_pick [2] rfl (e_B_LV_leaderOfEntry_107     d z w m s g x5)
def B_LV_leaderOfEntry_15   (d : DS) (f : FS) (w : WS) (m : MS) (s : SS) (g : GS) (t0 : Int32) : Option ((Nat ⊕ Int32) × (DS × FS × WS)) :=
  if ¬ t0 = 0 then (if ((f_Walk_serialHere d f w).1) < 3 then (B_LV_leaderOfEntry_48   d f w m s g) else (if ((f_Walk_serialHere d f w).1) ≤ 60 then (B_LV_leaderOfEntry_93   ((f_Disk_looksLike d ((f_Disk_byteAt d ((f_Walk_sectorHere d f w).1) (((f_Walk_offsetHere d f w).1) + 3)).1) ((f_Walk_serialHere d f w).1) 0).2) f w m s g ((f_Walk_serialHere d f w).1) ((f_Disk_byteAt d ((f_Walk_sectorHere d f w).1) (((f_Walk_offsetHere d f w).1) + 3)).1) ((f_Disk_looksLike d ((f_Disk_byteAt d ((f_Walk_sectorHere d f w).1) (((f_Walk_offsetHere d f w).1) + 3)).1) ((f_Walk_serialHere d f w).1) 0).1)) else (B_LV_leaderOfEntry_48   d f w m s g))) else (some (.inl 2, (d, f, w)))
theorem e_B_LV_leaderOfEntry_15 {sc : Nat × (Nat → Int32)} {tl : List mn_E}    (d : DS) (f : FS) (w : WS) (m : MS) (s : SS) (g : GS) (t0 : Int32) : Ev sc 9 122 0 0 M_LV_leaderOfEntry 15 [(0, .ref 0)] [.int t0] (eLV :: (HD d (HF f (HW w (HM m (HS s (HG g tl))))))) (mapR ouIT (fun z => (eLV :: (HD z.1 (HF z.2.1 (HW z.2.2 (HM m (HS s (HG g tl)))))))) (B_LV_leaderOfEntry_15 d f w m s g t0)) := by
  unfold B_LV_leaderOfEntry_15
  refine ev_if_ne (tgt := 26) d_LV_leaderOfEntry_15 rfl (fun h1 => ?_) (fun h1 => ?_)
  · rw [if_pos h1]
    refine ev_aload_n d_LV_leaderOfEntry_26 rfl rfl ?_
    refine ev_get (v := .ref 7) gi_LV (ci := 0) rfl rfl 2 (by decide) gw_289 rfl d_LV_leaderOfEntry_27 ?_
    refine ev_callr (Mc := M_Walk_serialHere) (v := some (.int ((f_Walk_serialHere d f w).1))) (h1 := (eLV :: (HD d (HF f (HW w (HM m (HS s (HG g tl)))))))) (k2 := 0) (n2 := 0) (inv_V (q := 7) (av := []) (rest := []) rfl (ci := 3) rfl d_LV_leaderOfEntry_30 gw_857 gw_731 gw_732 mw_Walk_serialHere nh_Walk_serialHere pn_Walk_serialHere rfl) d_LV_leaderOfEntry_30 pl_Walk_serialHere (Nat.le_of_ble_eq_true rfl) (Nat.le_of_ble_eq_true rfl) (Nat.le_of_ble_eq_true rfl) rfl rfl (e_f_Walk_serialHere (e0 := eLV) (tl := (HM m (HS s (HG g tl))))  d f w ) (Or.inl (len1 (lenHD (lenHF (lenHW (lenHM (lenHS (lenHG rfl)))))))) ?_
    refine ev_istore d_LV_leaderOfEntry_33 (by decide) rfl ?_
    refine ev_iload d_LV_leaderOfEntry_35 rfl ?_
    refine ev_iconst (v := 3) d_LV_leaderOfEntry_37 rfl ?_
    refine ev_icmp_lt (tgt := 48) d_LV_leaderOfEntry_38 rfl (fun h2 => ?_) (fun h2 => ?_)
    · rw [if_pos h2]
      exact ev_pick [] rfl (e_B_LV_leaderOfEntry_48     d f w m s g)
    · rw [if_neg h2]
      refine ev_iload d_LV_leaderOfEntry_41 rfl ?_
      refine ev_bipush (v := 60) d_LV_leaderOfEntry_43 rfl ?_
      refine ev_icmp_le (tgt := 56) d_LV_leaderOfEntry_45 rfl (fun h3 => ?_) (fun h3 => ?_)
      · rw [if_pos h3]
        refine ev_aload_n d_LV_leaderOfEntry_56 rfl rfl ?_
        refine ev_get (v := .ref 1) gi_LV (ci := 0) rfl rfl 0 (by decide) gw_287 rfl d_LV_leaderOfEntry_57 ?_
        refine ev_aload_n d_LV_leaderOfEntry_60 rfl rfl ?_
        refine ev_get (v := .ref 7) gi_LV (ci := 0) rfl rfl 2 (by decide) gw_289 rfl d_LV_leaderOfEntry_61 ?_
        refine ev_callr (Mc := M_Walk_sectorHere) (v := some (.int ((f_Walk_sectorHere d f w).1))) (h1 := (eLV :: (HD d (HF f (HW w (HM m (HS s (HG g tl)))))))) (k2 := 0) (n2 := 0) (inv_V (q := 7) (av := []) (rest := [.ref 1]) rfl (ci := 3) rfl d_LV_leaderOfEntry_64 gw_801 gw_802 gw_803 mw_Walk_sectorHere nh_Walk_sectorHere pn_Walk_sectorHere rfl) d_LV_leaderOfEntry_64 pl_Walk_sectorHere (Nat.le_of_ble_eq_true rfl) (Nat.le_of_ble_eq_true rfl) (Nat.le_of_ble_eq_true rfl) rfl rfl (e_f_Walk_sectorHere (e0 := eLV) (tl := (HM m (HS s (HG g tl))))  d f w ) (Or.inl (len1 (lenHD (lenHF (lenHW (lenHM (lenHS (lenHG rfl)))))))) ?_
        refine ev_aload_n d_LV_leaderOfEntry_67 rfl rfl ?_
        refine ev_get (v := .ref 7) gi_LV (ci := 0) rfl rfl 2 (by decide) gw_289 rfl d_LV_leaderOfEntry_68 ?_
        refine ev_callr (Mc := M_Walk_offsetHere) (v := some (.int ((f_Walk_offsetHere d f w).1))) (h1 := (eLV :: (HD d (HF f (HW w (HM m (HS s (HG g tl)))))))) (k2 := 0) (n2 := 0) (inv_V (q := 7) (av := []) (rest := [.int ((f_Walk_sectorHere d f w).1), .ref 1]) rfl (ci := 3) rfl d_LV_leaderOfEntry_71 gw_858 gw_735 gw_736 mw_Walk_offsetHere nh_Walk_offsetHere pn_Walk_offsetHere rfl) d_LV_leaderOfEntry_71 pl_Walk_offsetHere (Nat.le_of_ble_eq_true rfl) (Nat.le_of_ble_eq_true rfl) (Nat.le_of_ble_eq_true rfl) rfl rfl (e_f_Walk_offsetHere (e0 := eLV) (tl := (HM m (HS s (HG g tl))))  d f w ) (Or.inl (len1 (lenHD (lenHF (lenHW (lenHM (lenHS (lenHG rfl)))))))) ?_
        refine ev_iconst (v := 3) d_LV_leaderOfEntry_74 rfl ?_
        refine ev_iadd d_LV_leaderOfEntry_75 ?_
        refine ev_callr (Mc := M_Disk_byteAt) (v := some (.int ((f_Disk_byteAt d ((f_Walk_sectorHere d f w).1) (((f_Walk_offsetHere d f w).1) + 3)).1))) (h1 := (eLV :: (HD d (HF f (HW w (HM m (HS s (HG g tl)))))))) (k2 := 0) (n2 := 0) (inv_V (q := 1) (av := [.int ((f_Walk_sectorHere d f w).1), .int (((f_Walk_offsetHere d f w).1) + 3)]) (rest := []) rfl (ci := 1) rfl d_LV_leaderOfEntry_76 gw_536 gw_412 gw_413 mw_Disk_byteAt nh_Disk_byteAt pn_Disk_byteAt rfl) d_LV_leaderOfEntry_76 pl_Disk_byteAt (Nat.le_of_ble_eq_true rfl) (Nat.le_of_ble_eq_true rfl) (Nat.le_of_ble_eq_true rfl) rfl rfl (e_f_Disk_byteAt (e0 := eLV) (tl := (HF f (HW w (HM m (HS s (HG g tl))))))  d ((f_Walk_sectorHere d f w).1) (((f_Walk_offsetHere d f w).1) + 3)) (Or.inl (len1 (lenHD (lenHF (lenHW (lenHM (lenHS (lenHG rfl)))))))) ?_
        refine ev_istore d_LV_leaderOfEntry_79 (by decide) rfl ?_
        refine ev_aload_n d_LV_leaderOfEntry_81 rfl rfl ?_
        refine ev_get (v := .ref 1) gi_LV (ci := 0) rfl rfl 0 (by decide) gw_287 rfl d_LV_leaderOfEntry_82 ?_
        refine ev_iload d_LV_leaderOfEntry_85 rfl ?_
        refine ev_iload d_LV_leaderOfEntry_87 rfl ?_
        refine ev_iconst (v := 0) d_LV_leaderOfEntry_89 rfl ?_
        refine ev_callr (Mc := M_Disk_looksLike) (v := some (.int ((f_Disk_looksLike d ((f_Disk_byteAt d ((f_Walk_sectorHere d f w).1) (((f_Walk_offsetHere d f w).1) + 3)).1) ((f_Walk_serialHere d f w).1) 0).1))) (h1 := (eLV :: (HD ((f_Disk_looksLike d ((f_Disk_byteAt d ((f_Walk_sectorHere d f w).1) (((f_Walk_offsetHere d f w).1) + 3)).1) ((f_Walk_serialHere d f w).1) 0).2) (HF f (HW w (HM m (HS s (HG g tl)))))))) (k2 := 0) (n2 := 0) (inv_V (q := 1) (av := [.int ((f_Disk_byteAt d ((f_Walk_sectorHere d f w).1) (((f_Walk_offsetHere d f w).1) + 3)).1), .int ((f_Walk_serialHere d f w).1), .int 0]) (rest := []) rfl (ci := 1) rfl d_LV_leaderOfEntry_90 gw_859 gw_658 gw_659 mw_Disk_looksLike nh_Disk_looksLike pn_Disk_looksLike rfl) d_LV_leaderOfEntry_90 pl_Disk_looksLike (Nat.le_of_ble_eq_true rfl) (Nat.le_of_ble_eq_true rfl) (Nat.le_of_ble_eq_true rfl) rfl rfl (e_f_Disk_looksLike (e0 := eLV) (tl := (HF f (HW w (HM m (HS s (HG g tl))))))  d ((f_Disk_byteAt d ((f_Walk_sectorHere d f w).1) (((f_Walk_offsetHere d f w).1) + 3)).1) ((f_Walk_serialHere d f w).1) 0) (Or.inl (len1 (lenHD (lenHF (lenHW (lenHM (lenHS (lenHG rfl)))))))) ?_
        exact ev_pick [2, 1, 0] rfl (e_B_LV_leaderOfEntry_93     ((f_Disk_looksLike d ((f_Disk_byteAt d ((f_Walk_sectorHere d f w).1) (((f_Walk_offsetHere d f w).1) + 3)).1) ((f_Walk_serialHere d f w).1) 0).2) f w m s g ((f_Walk_serialHere d f w).1) ((f_Disk_byteAt d ((f_Walk_sectorHere d f w).1) (((f_Walk_offsetHere d f w).1) + 3)).1) ((f_Disk_looksLike d ((f_Disk_byteAt d ((f_Walk_sectorHere d f w).1) (((f_Walk_offsetHere d f w).1) + 3)).1) ((f_Walk_serialHere d f w).1) 0).1))
      · rw [if_neg h3]
        exact ev_pick [] rfl (e_B_LV_leaderOfEntry_48     d f w m s g)
  · rw [if_neg h1]
    exact ev_throw (x := 2) (names := gd_up) d_LV_leaderOfEntry_18 d_LV_leaderOfEntry_21 d_LV_leaderOfEntry_22 d_LV_leaderOfEntry_25 gw_662 gw_663 gw_113 tw_LV_185 (by decide +kernel) (by decide +kernel) rfl (by decide) (Nat.le_of_ble_eq_true rfl)
def B_LV_leaderOfEntry_5   (d : DS) (f : FS) (w : WS) (m : MS) (s : SS) (g : GS) (x2 : Int32) (t0 : Int32) : Option ((Nat ⊕ Int32) × (DS × FS × WS)) :=
  bnd (f_Walk_seekName d f w t0 x2) (fun q => thM q (fun x z => some (.inl x, (z.1, f, z.2))) (fun v z => B_LV_leaderOfEntry_15   z.1 f z.2 m s g v))
theorem e_B_LV_leaderOfEntry_5 {sc : Nat × (Nat → Int32)} {tl : List mn_E}    (d : DS) (f : FS) (w : WS) (m : MS) (s : SS) (g : GS) (x2 : Int32) (t0 : Int32) : Ev sc 9 122 0 0 M_LV_leaderOfEntry 5 [(0, .ref 0), (2, .int x2)] [.int t0] (eLV :: (HD d (HF f (HW w (HM m (HS s (HG g tl))))))) (mapR ouIT (fun z => (eLV :: (HD z.1 (HF z.2.1 (HW z.2.2 (HM m (HS s (HG g tl)))))))) (B_LV_leaderOfEntry_5 d f w m s g x2 t0)) := by
  unfold B_LV_leaderOfEntry_5
  refine ev_istore_n d_LV_leaderOfEntry_5 rfl (by decide) rfl ?_
  refine ev_aload_n d_LV_leaderOfEntry_6 rfl rfl ?_
  refine ev_get (v := .ref 7) gi_LV (ci := 0) rfl rfl 2 (by decide) gw_289 rfl d_LV_leaderOfEntry_7 ?_
  refine ev_iload_n d_LV_leaderOfEntry_10 rfl rfl ?_
  refine ev_iload_n d_LV_leaderOfEntry_11 rfl rfl ?_
  refine ev_callBT (rc := (f_Walk_seekName d f w t0 x2)) (ou := ouI) (Hs := (fun z => (eLV :: (HD z.1 (HF f (HW z.2 (HM m (HS s (HG g tl))))))))) (inv_V (q := 7) (av := [.int t0, .int x2]) (rest := []) rfl (ci := 3) rfl d_LV_leaderOfEntry_12 gw_693 gw_694 gw_695 mw_Walk_seekName nh_Walk_seekName pn_Walk_seekName rfl) d_LV_leaderOfEntry_12 pl_Walk_seekName (Nat.le_of_ble_eq_true rfl) (Nat.le_of_ble_eq_true rfl) (Nat.le_of_ble_eq_true rfl) (e_f_Walk_seekName (e0 := eLV) (tl := (HM m (HS s (HG g tl))))  d f w t0 x2) (fun _ => (len1 (lenHD (lenHF (lenHW (lenHM (lenHS (lenHG rfl)))))))) rfl (fun x z h1 => ?_) (fun v z h1 => ⟨_, rfl, ?_⟩)
  · rfl
  · exact ev_pick [1] rfl (e_B_LV_leaderOfEntry_15     z.1 f z.2 m s g v)
def f_LV_leaderOfEntry   (d : DS) (f : FS) (w : WS) (m : MS) (s : SS) (g : GS) (x1 : Int32) (x2 : Int32) : Option ((Nat ⊕ Int32) × (DS × FS × WS)) :=
  bnd (f_LV_requireDirectory d f w m s g x1) (fun q => thM q (fun x z => some (.inl x, (z.1, z.2, w))) (fun v z => B_LV_leaderOfEntry_5   z.1 z.2 w m s g x2 v))
theorem e_f_LV_leaderOfEntry {sc : Nat × (Nat → Int32)} {tl : List mn_E}    (d : DS) (f : FS) (w : WS) (m : MS) (s : SS) (g : GS) (x1 : Int32) (x2 : Int32) : Ev sc 9 122 0 0 M_LV_leaderOfEntry 0 [(0, .ref 0), (1, .int x1), (2, .int x2)] [] (eLV :: (HD d (HF f (HW w (HM m (HS s (HG g tl))))))) (mapR ouIT (fun z => (eLV :: (HD z.1 (HF z.2.1 (HW z.2.2 (HM m (HS s (HG g tl)))))))) (f_LV_leaderOfEntry d f w m s g x1 x2)) := by
  unfold f_LV_leaderOfEntry
  refine ev_aload_n d_LV_leaderOfEntry_0 rfl rfl ?_
  refine ev_iload_n d_LV_leaderOfEntry_1 rfl rfl ?_
  refine ev_callBT (rc := (f_LV_requireDirectory d f w m s g x1)) (ou := ouI) (Hs := (fun z => (eLV :: (HD z.1 (HF z.2 (HW w (HM m (HS s (HG g tl))))))))) (inv_V (q := 0) (av := [.int x1]) (rest := []) rfl (ci := 0) rfl d_LV_leaderOfEntry_2 gw_645 gw_647 gw_28 mw_LV_requireDirectory nh_LV_requireDirectory pn_LV_requireDirectory rfl) d_LV_leaderOfEntry_2 pl_LV_requireDirectory (Nat.le_of_ble_eq_true rfl) (Nat.le_of_ble_eq_true rfl) (Nat.le_of_ble_eq_true rfl) (e_f_LV_requireDirectory (tl := tl)  d f w m s g x1) (fun _ => (len1 (lenHD (lenHF (lenHW (lenHM (lenHS (lenHG rfl)))))))) rfl (fun x z h1 => ?_) (fun v z h1 => ⟨_, rfl, ?_⟩)
  · rfl
  · exact ev_pick [0, 2] rfl (e_B_LV_leaderOfEntry_5     z.1 z.2 w m s g x2 v)
def B_LV_open_14   (d : DS) (f : FS) (w : WS) (m : MS) (s : SS) (g : GS) (t1 : Int32) : Option ((Nat ⊕ Int32) × (DS × FS × WS)) :=
  some (.inr (xCell d t1 0), (d, f, w))
theorem e_B_LV_open_14 {sc : Nat × (Nat → Int32)} {tl : List mn_E}    (d : DS) (f : FS) (w : WS) (m : MS) (s : SS) (g : GS) (t1 : Int32) : Ev sc 10 140 0 0 M_LV_open 14 [] [.int t1, .ref 1] (eLV :: (HD d (HF f (HW w (HM m (HS s (HG g tl))))))) (mapR ouIT (fun z => (eLV :: (HD z.1 (HF z.2.1 (HW z.2.2 (HM m (HS s (HG g tl)))))))) (B_LV_open_14 d f w m s g t1)) := by
  unfold B_LV_open_14
  refine ev_iconst (v := 0) d_LV_open_14 rfl ?_
  refine ev_callr (Mc := M_Disk_cell) (v := some (.int (xCell d t1 0))) (h1 := (eLV :: (HD d (HF f (HW w (HM m (HS s (HG g tl)))))))) (k2 := 0) (n2 := 0) (inv_V (q := 1) (av := [.int t1, .int 0]) (rest := []) rfl (ci := 1) rfl d_LV_open_15 gw_531 gw_198 gw_199 mw_Disk_cell nh_Disk_cell pn_Disk_cell rfl) d_LV_open_15 pl_Disk_cell (Nat.le_of_ble_eq_true rfl) (Nat.le_of_ble_eq_true rfl) (Nat.le_of_ble_eq_true rfl) rfl rfl (c_Disk_cell (e0 := eLV) (tl := (HF f (HW w (HM m (HS s (HG g tl))))))  d t1 0) (Or.inl (len1 (lenHD (lenHF (lenHW (lenHM (lenHS (lenHG rfl)))))))) ?_
  exact ev_zret (ty := .int) rfl rfl d_LV_open_18
def B_LV_open_4   (d : DS) (f : FS) (w : WS) (m : MS) (s : SS) (g : GS) (x1 : Int32) (x2 : Int32) : Option ((Nat ⊕ Int32) × (DS × FS × WS)) :=
  bnd (f_LV_leaderOfEntry d f w m s g x1 x2) (fun q => thM q (fun x z => some (.inl x, (z.1, z.2.1, z.2.2))) (fun v z => B_LV_open_14   z.1 z.2.1 z.2.2 m s g v))
theorem e_B_LV_open_4 {sc : Nat × (Nat → Int32)} {tl : List mn_E}    (d : DS) (f : FS) (w : WS) (m : MS) (s : SS) (g : GS) (x1 : Int32) (x2 : Int32) : Ev sc 10 140 0 0 M_LV_open 4 [(0, .ref 0), (1, .int x1), (2, .int x2)] [] (eLV :: (HD d (HF f (HW w (HM m (HS s (HG g tl))))))) (mapR ouIT (fun z => (eLV :: (HD z.1 (HF z.2.1 (HW z.2.2 (HM m (HS s (HG g tl)))))))) (B_LV_open_4 d f w m s g x1 x2)) := by
  unfold B_LV_open_4
  refine ev_aload_n d_LV_open_4 rfl rfl ?_
  refine ev_get (v := .ref 1) gi_LV (ci := 0) rfl rfl 0 (by decide) gw_287 rfl d_LV_open_5 ?_
  refine ev_aload_n d_LV_open_8 rfl rfl ?_
  refine ev_iload_n d_LV_open_9 rfl rfl ?_
  refine ev_iload_n d_LV_open_10 rfl rfl ?_
  refine ev_callBT (rc := (f_LV_leaderOfEntry d f w m s g x1 x2)) (ou := ouI) (Hs := (fun z => (eLV :: (HD z.1 (HF z.2.1 (HW z.2.2 (HM m (HS s (HG g tl))))))))) (inv_V (q := 0) (av := [.int x1, .int x2]) (rest := [.ref 1]) rfl (ci := 0) rfl d_LV_open_11 gw_853 gw_855 gw_41 mw_LV_leaderOfEntry nh_LV_leaderOfEntry pn_LV_leaderOfEntry rfl) d_LV_open_11 pl_LV_leaderOfEntry (Nat.le_of_ble_eq_true rfl) (Nat.le_of_ble_eq_true rfl) (Nat.le_of_ble_eq_true rfl) (e_f_LV_leaderOfEntry (tl := tl)  d f w m s g x1 x2) (fun _ => (len1 (lenHD (lenHF (lenHW (lenHM (lenHS (lenHG rfl)))))))) rfl (fun x z h1 => ?_) (fun v z h1 => ⟨_, rfl, ?_⟩)
  · rfl
  · exact ev_pick [] rfl (e_B_LV_open_14     z.1 z.2.1 z.2.2 m s g v)
def f_LV_open   (d : DS) (f : FS) (w : WS) (m : MS) (s : SS) (g : GS) (x1 : Int32) (x2 : Int32) : Option ((Nat ⊕ Int32) × (DS × FS × WS)) :=
  thM (f_LV_requirePower d f w m s g) (fun x z => some (.inl x, (d, f, w))) (fun v z => B_LV_open_4   d f w m s g x1 x2)
theorem e_f_LV_open {sc : Nat × (Nat → Int32)} {tl : List mn_E}    (d : DS) (f : FS) (w : WS) (m : MS) (s : SS) (g : GS) (x1 : Int32) (x2 : Int32) : Ev sc 10 140 0 0 M_LV_open 0 [(0, .ref 0), (1, .int x1), (2, .int x2)] [] (eLV :: (HD d (HF f (HW w (HM m (HS s (HG g tl))))))) (mapR ouIT (fun z => (eLV :: (HD z.1 (HF z.2.1 (HW z.2.2 (HM m (HS s (HG g tl)))))))) (f_LV_open d f w m s g x1 x2)) := by
  unfold f_LV_open
  refine ev_aload_n d_LV_open_0 rfl rfl ?_
  refine ev_callT (q := (f_LV_requirePower d f w m s g)) (ou := ouV) (Hs := (fun z => (eLV :: (HD d (HF f (HW w (HM m (HS s (HG g tl))))))))) (inv_V (q := 0) (av := []) (rest := []) rfl (ci := 0) rfl d_LV_open_1 gw_576 gw_578 gw_26 mw_LV_requirePower nh_LV_requirePower pn_LV_requirePower rfl) d_LV_open_1 pl_LV_requirePower (Nat.le_of_ble_eq_true rfl) (Nat.le_of_ble_eq_true rfl) (Nat.le_of_ble_eq_true rfl) (e_f_LV_requirePower (tl := tl)  d f w m s g ) (fun _ => (len1 (lenHD (lenHF (lenHW (lenHM (lenHS (lenHG rfl)))))))) rfl (fun x z h1 => ?_) (fun v z h1 => ⟨_, rfl, ?_⟩)
  · rw [h1]; rfl
  · rw [h1]
    exact ev_pick [0, 1, 2] rfl (e_B_LV_open_4     d f w m s g x1 x2)
def B_LV_read_40   (d : DS) (f : FS) (w : WS) (m : MS) (s : SS) (g : GS) : Option ((Nat ⊕ Int32) × (DS × FS)) :=
  some (.inl 5, (d, f))
theorem e_B_LV_read_40 {sc : Nat × (Nat → Int32)} {tl : List mn_E}    (d : DS) (f : FS) (w : WS) (m : MS) (s : SS) (g : GS) : Ev sc 7 95 0 0 M_LV_read 40 [] [] (eLV :: (HD d (HF f (HW w (HM m (HS s (HG g tl))))))) (mapR ouIT (fun z => (eLV :: (HD z.1 (HF z.2 (HW w (HM m (HS s (HG g tl)))))))) (B_LV_read_40 d f w m s g)) := by
  unfold B_LV_read_40
  exact ev_throw (x := 5) (names := gd_up) d_LV_read_40 d_LV_read_43 d_LV_read_44 d_LV_read_47 gw_880 gw_881 gw_116 tw_LV_125 (by decide +kernel) (by decide +kernel) rfl (by decide) (Nat.le_of_ble_eq_true rfl)
def B_LV_read_71   (d : DS) (f : FS) (w : WS) (m : MS) (s : SS) (g : GS) (x2 : Int32) (t1 : Int32) : Option ((Nat ⊕ Int32) × (DS × FS)) :=
  some (.inr ((f_Disk_byteAt d t1 (x2 - x2 / 8 * 8)).1), (d, f))
theorem e_B_LV_read_71 {sc : Nat × (Nat → Int32)} {tl : List mn_E}    (d : DS) (f : FS) (w : WS) (m : MS) (s : SS) (g : GS) (x2 : Int32) (t1 : Int32) : Ev sc 7 95 0 0 M_LV_read 71 [(2, .int x2)] [.int t1, .ref 1] (eLV :: (HD d (HF f (HW w (HM m (HS s (HG g tl))))))) (mapR ouIT (fun z => (eLV :: (HD z.1 (HF z.2 (HW w (HM m (HS s (HG g tl)))))))) (B_LV_read_71 d f w m s g x2 t1)) := by
  unfold B_LV_read_71
  refine ev_iload_n d_LV_read_71 rfl rfl ?_
  refine ev_bipush (v := 8) d_LV_read_72 rfl ?_
  refine ev_irem d_LV_read_74 (by decide) ?_
  refine ev_callr (Mc := M_Disk_byteAt) (v := some (.int ((f_Disk_byteAt d t1 (x2 - x2 / 8 * 8)).1))) (h1 := (eLV :: (HD d (HF f (HW w (HM m (HS s (HG g tl)))))))) (k2 := 0) (n2 := 0) (inv_V (q := 1) (av := [.int t1, .int (x2 - x2 / 8 * 8)]) (rest := []) rfl (ci := 1) rfl d_LV_read_75 gw_536 gw_412 gw_413 mw_Disk_byteAt nh_Disk_byteAt pn_Disk_byteAt rfl) d_LV_read_75 pl_Disk_byteAt (Nat.le_of_ble_eq_true rfl) (Nat.le_of_ble_eq_true rfl) (Nat.le_of_ble_eq_true rfl) rfl rfl (e_f_Disk_byteAt (e0 := eLV) (tl := (HF f (HW w (HM m (HS s (HG g tl))))))  d t1 (x2 - x2 / 8 * 8)) (Or.inl (len1 (lenHD (lenHF (lenHW (lenHM (lenHS (lenHG rfl)))))))) ?_
  exact ev_zret (ty := .int) rfl rfl d_LV_read_78
def B_LV_read_68   (d : DS) (f : FS) (w : WS) (m : MS) (s : SS) (g : GS) (x2 : Int32) (t1 : Int32) : Option ((Nat ⊕ Int32) × (DS × FS)) :=
  thM (f_LV_unbroken t1) (fun x z => some (.inl x, (d, f))) (fun v z => B_LV_read_71   d f w m s g x2 v)
theorem e_B_LV_read_68 {sc : Nat × (Nat → Int32)} {tl : List mn_E}    (d : DS) (f : FS) (w : WS) (m : MS) (s : SS) (g : GS) (x2 : Int32) (t1 : Int32) : Ev sc 7 95 0 0 M_LV_read 68 [(2, .int x2)] [.int t1, .ref 1] (eLV :: (HD d (HF f (HW w (HM m (HS s (HG g tl))))))) (mapR ouIT (fun z => (eLV :: (HD z.1 (HF z.2 (HW w (HM m (HS s (HG g tl)))))))) (B_LV_read_68 d f w m s g x2 t1)) := by
  unfold B_LV_read_68
  refine ev_callT (q := (f_LV_unbroken t1)) (ou := ouI) (Hs := (fun z => (eLV :: (HD d (HF f (HW w (HM m (HS s (HG g tl))))))))) (inv_S (av := [.int t1]) (rest := [.ref 1]) d_LV_read_68 gw_875 gw_713 gw_102 mw_LV_unbroken nh_LV_unbroken pn_LV_unbroken rfl) d_LV_read_68 pl_LV_unbroken (Nat.le_of_ble_eq_true rfl) (Nat.le_of_ble_eq_true rfl) (Nat.le_of_ble_eq_true rfl) (e_f_LV_unbroken (hh := (eLV :: (HD d (HF f (HW w (HM m (HS s (HG g tl))))))))   t1) (fun _ => (len1 (lenHD (lenHF (lenHW (lenHM (lenHS (lenHG rfl)))))))) rfl (fun x z h1 => ?_) (fun v z h1 => ⟨_, rfl, ?_⟩)
  · rw [h1]; rfl
  · rw [h1]
    exact ev_pick [0] rfl (e_B_LV_read_71     d f w m s g x2 v)
def B_LV_read_21   (d : DS) (f : FS) (w : WS) (m : MS) (s : SS) (g : GS) (x2 : Int32) (x3 : Int32) (t0 : Int32) : Option ((Nat ⊕ Int32) × (DS × FS)) :=
  if x2 < 0 then (B_LV_read_40   d f w m s g) else (if x2 < ((f_Disk_lengthUpTo d t0).1) then (bnd (f_Finder_pageOf d f x3 t0 ((x2 / 8) + 1)) (fun q => B_LV_read_68   q.2 f w m s g x2 q.1)) else (B_LV_read_40   d f w m s g))
theorem e_B_LV_read_21 {sc : Nat × (Nat → Int32)} {tl : List mn_E}    (d : DS) (f : FS) (w : WS) (m : MS) (s : SS) (g : GS) (x2 : Int32) (x3 : Int32) (t0 : Int32) : Ev sc 7 95 0 0 M_LV_read 21 [(0, .ref 0), (2, .int x2), (3, .int x3)] [.int t0] (eLV :: (HD d (HF f (HW w (HM m (HS s (HG g tl))))))) (mapR ouIT (fun z => (eLV :: (HD z.1 (HF z.2 (HW w (HM m (HS s (HG g tl)))))))) (B_LV_read_21 d f w m s g x2 x3 t0)) := by
  unfold B_LV_read_21
  refine ev_istore d_LV_read_21 (by decide) rfl ?_
  refine ev_iload_n d_LV_read_23 rfl rfl ?_
  refine ev_if_lt (tgt := 40) d_LV_read_24 rfl (fun h1 => ?_) (fun h1 => ?_)
  · rw [if_pos h1]
    exact ev_pick [] rfl (e_B_LV_read_40     d f w m s g)
  · rw [if_neg h1]
    refine ev_iload_n d_LV_read_27 rfl rfl ?_
    refine ev_aload_n d_LV_read_28 rfl rfl ?_
    refine ev_get (v := .ref 1) gi_LV (ci := 0) rfl rfl 0 (by decide) gw_287 rfl d_LV_read_29 ?_
    refine ev_iload d_LV_read_32 rfl ?_
    refine ev_callr (Mc := M_Disk_lengthUpTo) (v := some (.int ((f_Disk_lengthUpTo d t0).1))) (h1 := (eLV :: (HD d (HF f (HW w (HM m (HS s (HG g tl)))))))) (k2 := 0) (n2 := 0) (inv_V (q := 1) (av := [.int t0]) (rest := [.int x2]) rfl (ci := 1) rfl d_LV_read_34 gw_876 gw_877 gw_878 mw_Disk_lengthUpTo nh_Disk_lengthUpTo pn_Disk_lengthUpTo rfl) d_LV_read_34 pl_Disk_lengthUpTo (Nat.le_of_ble_eq_true rfl) (Nat.le_of_ble_eq_true rfl) (Nat.le_of_ble_eq_true rfl) rfl rfl (e_f_Disk_lengthUpTo (e0 := eLV) (tl := (HF f (HW w (HM m (HS s (HG g tl))))))  d t0) (Or.inl (len1 (lenHD (lenHF (lenHW (lenHM (lenHS (lenHG rfl)))))))) ?_
    refine ev_icmp_lt (tgt := 48) d_LV_read_37 rfl (fun h2 => ?_) (fun h2 => ?_)
    · rw [if_pos h2]
      refine ev_aload_n d_LV_read_48 rfl rfl ?_
      refine ev_get (v := .ref 1) gi_LV (ci := 0) rfl rfl 0 (by decide) gw_287 rfl d_LV_read_49 ?_
      refine ev_aload_n d_LV_read_52 rfl rfl ?_
      refine ev_get (v := .ref 5) gi_LV (ci := 0) rfl rfl 1 (by decide) gw_288 rfl d_LV_read_53 ?_
      refine ev_iload_n d_LV_read_56 rfl rfl ?_
      refine ev_iload d_LV_read_57 rfl ?_
      refine ev_iload_n d_LV_read_59 rfl rfl ?_
      refine ev_bipush (v := 8) d_LV_read_60 rfl ?_
      refine ev_idiv d_LV_read_62 (by decide) ?_
      refine ev_iconst (v := 1) d_LV_read_63 rfl ?_
      refine ev_iadd d_LV_read_64 ?_
      refine ev_callB (rc := (f_Finder_pageOf d f x3 t0 ((x2 / 8) + 1))) (ou := ouI) (Hs := (fun z => (eLV :: (HD z (HF f (HW w (HM m (HS s (HG g tl))))))))) (inv_V (q := 5) (av := [.int x3, .int t0, .int ((x2 / 8) + 1)]) (rest := [.ref 1]) rfl (ci := 2) rfl d_LV_read_65 gw_895 gw_896 gw_897 mw_Finder_pageOf nh_Finder_pageOf pn_Finder_pageOf rfl) d_LV_read_65 pl_Finder_pageOf (Nat.le_of_ble_eq_true rfl) (Nat.le_of_ble_eq_true rfl) (Nat.le_of_ble_eq_true rfl) (e_f_Finder_pageOf (e0 := eLV) (tl := (HW w (HM m (HS s (HG g tl)))))  d f x3 t0 ((x2 / 8) + 1)) (fun _ => (len1 (lenHD (lenHF (lenHW (lenHM (lenHS (lenHG rfl)))))))) (fun v z h3 => ⟨_, rfl, ?_⟩)
      exact ev_pick [2] rfl (e_B_LV_read_68     z f w m s g x2 v)
    · rw [if_neg h2]
      exact ev_pick [] rfl (e_B_LV_read_40     d f w m s g)
def B_LV_read_18   (d : DS) (f : FS) (w : WS) (m : MS) (s : SS) (g : GS) (x2 : Int32) (x3 : Int32) (t0 : Int32) : Option ((Nat ⊕ Int32) × (DS × FS)) :=
  thM (f_LV_unbroken t0) (fun x z => some (.inl x, (d, f))) (fun v z => B_LV_read_21   d f w m s g x2 x3 v)
theorem e_B_LV_read_18 {sc : Nat × (Nat → Int32)} {tl : List mn_E}    (d : DS) (f : FS) (w : WS) (m : MS) (s : SS) (g : GS) (x2 : Int32) (x3 : Int32) (t0 : Int32) : Ev sc 7 95 0 0 M_LV_read 18 [(0, .ref 0), (2, .int x2), (3, .int x3)] [.int t0] (eLV :: (HD d (HF f (HW w (HM m (HS s (HG g tl))))))) (mapR ouIT (fun z => (eLV :: (HD z.1 (HF z.2 (HW w (HM m (HS s (HG g tl)))))))) (B_LV_read_18 d f w m s g x2 x3 t0)) := by
  unfold B_LV_read_18
  refine ev_callT (q := (f_LV_unbroken t0)) (ou := ouI) (Hs := (fun z => (eLV :: (HD d (HF f (HW w (HM m (HS s (HG g tl))))))))) (inv_S (av := [.int t0]) (rest := []) d_LV_read_18 gw_875 gw_713 gw_102 mw_LV_unbroken nh_LV_unbroken pn_LV_unbroken rfl) d_LV_read_18 pl_LV_unbroken (Nat.le_of_ble_eq_true rfl) (Nat.le_of_ble_eq_true rfl) (Nat.le_of_ble_eq_true rfl) (e_f_LV_unbroken (hh := (eLV :: (HD d (HF f (HW w (HM m (HS s (HG g tl))))))))   t0) (fun _ => (len1 (lenHD (lenHF (lenHW (lenHM (lenHS (lenHG rfl)))))))) rfl (fun x z h1 => ?_) (fun v z h1 => ⟨_, rfl, ?_⟩)
  · rw [h1]; rfl
  · rw [h1]
    exact ev_pick [0, 1, 2] rfl (e_B_LV_read_21     d f w m s g x2 x3 v)
def B_LV_read_9   (d : DS) (f : FS) (w : WS) (m : MS) (s : SS) (g : GS) (x2 : Int32) (t0 : Int32) : Option ((Nat ⊕ Int32) × (DS × FS)) :=
  bnd (f_Finder_lastOf d f t0) (fun q => B_LV_read_18   q.2 f w m s g x2 t0 q.1)
theorem e_B_LV_read_9 {sc : Nat × (Nat → Int32)} {tl : List mn_E}    (d : DS) (f : FS) (w : WS) (m : MS) (s : SS) (g : GS) (x2 : Int32) (t0 : Int32) : Ev sc 7 95 0 0 M_LV_read 9 [(0, .ref 0), (2, .int x2)] [.int t0] (eLV :: (HD d (HF f (HW w (HM m (HS s (HG g tl))))))) (mapR ouIT (fun z => (eLV :: (HD z.1 (HF z.2 (HW w (HM m (HS s (HG g tl)))))))) (B_LV_read_9 d f w m s g x2 t0)) := by
  unfold B_LV_read_9
  refine ev_istore_n d_LV_read_9 rfl (by decide) rfl ?_
  refine ev_aload_n d_LV_read_10 rfl rfl ?_
  refine ev_get (v := .ref 5) gi_LV (ci := 0) rfl rfl 1 (by decide) gw_288 rfl d_LV_read_11 ?_
  refine ev_iload_n d_LV_read_14 rfl rfl ?_
  refine ev_callB (rc := (f_Finder_lastOf d f t0)) (ou := ouI) (Hs := (fun z => (eLV :: (HD z (HF f (HW w (HM m (HS s (HG g tl))))))))) (inv_V (q := 5) (av := [.int t0]) (rest := []) rfl (ci := 2) rfl d_LV_read_15 gw_868 gw_869 gw_870 mw_Finder_lastOf nh_Finder_lastOf pn_Finder_lastOf rfl) d_LV_read_15 pl_Finder_lastOf (Nat.le_of_ble_eq_true rfl) (Nat.le_of_ble_eq_true rfl) (Nat.le_of_ble_eq_true rfl) (e_f_Finder_lastOf (e0 := eLV) (tl := (HW w (HM m (HS s (HG g tl)))))  d f t0) (fun _ => (len1 (lenHD (lenHF (lenHW (lenHM (lenHS (lenHG rfl)))))))) (fun v z h1 => ⟨_, rfl, ?_⟩)
  exact ev_pick [1, 2, 0] rfl (e_B_LV_read_18     z f w m s g x2 t0 v)
def B_LV_read_4   (d : DS) (f : FS) (w : WS) (m : MS) (s : SS) (g : GS) (x1 : Int32) (x2 : Int32) : Option ((Nat ⊕ Int32) × (DS × FS)) :=
  bnd (f_LV_requireLeader d f w m s g x1) (fun q => thM q (fun x z => some (.inl x, (z.1, z.2))) (fun v z => B_LV_read_9   z.1 z.2 w m s g x2 v))
theorem e_B_LV_read_4 {sc : Nat × (Nat → Int32)} {tl : List mn_E}    (d : DS) (f : FS) (w : WS) (m : MS) (s : SS) (g : GS) (x1 : Int32) (x2 : Int32) : Ev sc 7 95 0 0 M_LV_read 4 [(0, .ref 0), (1, .int x1), (2, .int x2)] [] (eLV :: (HD d (HF f (HW w (HM m (HS s (HG g tl))))))) (mapR ouIT (fun z => (eLV :: (HD z.1 (HF z.2 (HW w (HM m (HS s (HG g tl)))))))) (B_LV_read_4 d f w m s g x1 x2)) := by
  unfold B_LV_read_4
  refine ev_aload_n d_LV_read_4 rfl rfl ?_
  refine ev_iload_n d_LV_read_5 rfl rfl ?_
  refine ev_callBT (rc := (f_LV_requireLeader d f w m s g x1)) (ou := ouI) (Hs := (fun z => (eLV :: (HD z.1 (HF z.2 (HW w (HM m (HS s (HG g tl))))))))) (inv_V (q := 0) (av := [.int x1]) (rest := []) rfl (ci := 0) rfl d_LV_read_6 gw_649 gw_651 gw_29 mw_LV_requireLeader nh_LV_requireLeader pn_LV_requireLeader rfl) d_LV_read_6 pl_LV_requireLeader (Nat.le_of_ble_eq_true rfl) (Nat.le_of_ble_eq_true rfl) (Nat.le_of_ble_eq_true rfl) (e_f_LV_requireLeader (tl := tl)  d f w m s g x1) (fun _ => (len1 (lenHD (lenHF (lenHW (lenHM (lenHS (lenHG rfl)))))))) rfl (fun x z h1 => ?_) (fun v z h1 => ⟨_, rfl, ?_⟩)
  · rfl
  · exact ev_pick [0, 2] rfl (e_B_LV_read_9     z.1 z.2 w m s g x2 v)
def f_LV_read   (d : DS) (f : FS) (w : WS) (m : MS) (s : SS) (g : GS) (x1 : Int32) (x2 : Int32) : Option ((Nat ⊕ Int32) × (DS × FS)) :=
  thM (f_LV_requirePower d f w m s g) (fun x z => some (.inl x, (d, f))) (fun v z => B_LV_read_4   d f w m s g x1 x2)
theorem e_f_LV_read {sc : Nat × (Nat → Int32)} {tl : List mn_E}    (d : DS) (f : FS) (w : WS) (m : MS) (s : SS) (g : GS) (x1 : Int32) (x2 : Int32) : Ev sc 7 95 0 0 M_LV_read 0 [(0, .ref 0), (1, .int x1), (2, .int x2)] [] (eLV :: (HD d (HF f (HW w (HM m (HS s (HG g tl))))))) (mapR ouIT (fun z => (eLV :: (HD z.1 (HF z.2 (HW w (HM m (HS s (HG g tl)))))))) (f_LV_read d f w m s g x1 x2)) := by
  unfold f_LV_read
  refine ev_aload_n d_LV_read_0 rfl rfl ?_
  refine ev_callT (q := (f_LV_requirePower d f w m s g)) (ou := ouV) (Hs := (fun z => (eLV :: (HD d (HF f (HW w (HM m (HS s (HG g tl))))))))) (inv_V (q := 0) (av := []) (rest := []) rfl (ci := 0) rfl d_LV_read_1 gw_576 gw_578 gw_26 mw_LV_requirePower nh_LV_requirePower pn_LV_requirePower rfl) d_LV_read_1 pl_LV_requirePower (Nat.le_of_ble_eq_true rfl) (Nat.le_of_ble_eq_true rfl) (Nat.le_of_ble_eq_true rfl) (e_f_LV_requirePower (tl := tl)  d f w m s g ) (fun _ => (len1 (lenHD (lenHF (lenHW (lenHM (lenHS (lenHG rfl)))))))) rfl (fun x z h1 => ?_) (fun v z h1 => ⟨_, rfl, ?_⟩)
  · rw [h1]; rfl
  · rw [h1]
    exact ev_pick [0, 1, 2] rfl (e_B_LV_read_4     d f w m s g x1 x2)
def B_LV_requirePlainFile_22   (d : DS) (f : FS) (w : WS) (m : MS) (s : SS) (g : GS) : Option ((Nat ⊕ Int32) × (DS × FS)) :=
  some (.inl 3, (d, f))
theorem e_B_LV_requirePlainFile_22 {sc : Nat × (Nat → Int32)} {tl : List mn_E}    (d : DS) (f : FS) (w : WS) (m : MS) (s : SS) (g : GS) : Ev sc 7 95 0 0 M_LV_requirePlainFile 22 [] [] (eLV :: (HD d (HF f (HW w (HM m (HS s (HG g tl))))))) (mapR ouIT (fun z => (eLV :: (HD z.1 (HF z.2 (HW w (HM m (HS s (HG g tl)))))))) (B_LV_requirePlainFile_22 d f w m s g)) := by
  unfold B_LV_requirePlainFile_22
  exact ev_throw (x := 3) (names := gd_up) d_LV_requirePlainFile_22 d_LV_requirePlainFile_25 d_LV_requirePlainFile_26 d_LV_requirePlainFile_29 gw_678 gw_679 gw_114 tw_LV_64 (by decide +kernel) (by decide +kernel) rfl (by decide) (Nat.le_of_ble_eq_true rfl)
def B_LV_requirePlainFile_5   (d : DS) (f : FS) (w : WS) (m : MS) (s : SS) (g : GS) (x1 : Int32) (t0 : Int32) : Option ((Nat ⊕ Int32) × (DS × FS)) :=
  if x1 = 2 then (B_LV_requirePlainFile_22   d f w m s g) else (if ((f_Disk_isDirectory d t0).1) = 0 then (some (.inr t0, (d, f))) else (B_LV_requirePlainFile_22   d f w m s g))
theorem e_B_LV_requirePlainFile_5 {sc : Nat × (Nat → Int32)} {tl : List mn_E}    (d : DS) (f : FS) (w : WS) (m : MS) (s : SS) (g : GS) (x1 : Int32) (t0 : Int32) : Ev sc 7 95 0 0 M_LV_requirePlainFile 5 [(0, .ref 0), (1, .int x1)] [.int t0] (eLV :: (HD d (HF f (HW w (HM m (HS s (HG g tl))))))) (mapR ouIT (fun z => (eLV :: (HD z.1 (HF z.2 (HW w (HM m (HS s (HG g tl)))))))) (B_LV_requirePlainFile_5 d f w m s g x1 t0)) := by
  unfold B_LV_requirePlainFile_5
  refine ev_istore_n d_LV_requirePlainFile_5 rfl (by decide) rfl ?_
  refine ev_iload_n d_LV_requirePlainFile_6 rfl rfl ?_
  refine ev_iconst (v := 2) d_LV_requirePlainFile_7 rfl ?_
  refine ev_icmp_eq (tgt := 22) d_LV_requirePlainFile_8 rfl (fun h1 => ?_) (fun h1 => ?_)
  · rw [if_pos h1]
    exact ev_pick [] rfl (e_B_LV_requirePlainFile_22     d f w m s g)
  · rw [if_neg h1]
    refine ev_aload_n d_LV_requirePlainFile_11 rfl rfl ?_
    refine ev_get (v := .ref 1) gi_LV (ci := 0) rfl rfl 0 (by decide) gw_287 rfl d_LV_requirePlainFile_12 ?_
    refine ev_iload_n d_LV_requirePlainFile_15 rfl rfl ?_
    refine ev_callr (Mc := M_Disk_isDirectory) (v := some (.int ((f_Disk_isDirectory d t0).1))) (h1 := (eLV :: (HD d (HF f (HW w (HM m (HS s (HG g tl)))))))) (k2 := 0) (n2 := 0) (inv_V (q := 1) (av := [.int t0]) (rest := []) rfl (ci := 1) rfl d_LV_requirePlainFile_16 gw_677 gw_432 gw_433 mw_Disk_isDirectory nh_Disk_isDirectory pn_Disk_isDirectory rfl) d_LV_requirePlainFile_16 pl_Disk_isDirectory (Nat.le_of_ble_eq_true rfl) (Nat.le_of_ble_eq_true rfl) (Nat.le_of_ble_eq_true rfl) rfl rfl (e_f_Disk_isDirectory (e0 := eLV) (tl := (HF f (HW w (HM m (HS s (HG g tl))))))  d t0) (Or.inl (len1 (lenHD (lenHF (lenHW (lenHM (lenHS (lenHG rfl)))))))) ?_
    refine ev_if_eq (tgt := 30) d_LV_requirePlainFile_19 rfl (fun h2 => ?_) (fun h2 => ?_)
    · rw [if_pos h2]
      refine ev_iload_n d_LV_requirePlainFile_30 rfl rfl ?_
      exact ev_zret (ty := .int) rfl rfl d_LV_requirePlainFile_31
    · rw [if_neg h2]
      exact ev_pick [] rfl (e_B_LV_requirePlainFile_22     d f w m s g)
def f_LV_requirePlainFile   (d : DS) (f : FS) (w : WS) (m : MS) (s : SS) (g : GS) (x1 : Int32) : Option ((Nat ⊕ Int32) × (DS × FS)) :=
  bnd (f_LV_requireLeader d f w m s g x1) (fun q => thM q (fun x z => some (.inl x, (z.1, z.2))) (fun v z => B_LV_requirePlainFile_5   z.1 z.2 w m s g x1 v))
theorem e_f_LV_requirePlainFile {sc : Nat × (Nat → Int32)} {tl : List mn_E}    (d : DS) (f : FS) (w : WS) (m : MS) (s : SS) (g : GS) (x1 : Int32) : Ev sc 7 95 0 0 M_LV_requirePlainFile 0 [(0, .ref 0), (1, .int x1)] [] (eLV :: (HD d (HF f (HW w (HM m (HS s (HG g tl))))))) (mapR ouIT (fun z => (eLV :: (HD z.1 (HF z.2 (HW w (HM m (HS s (HG g tl)))))))) (f_LV_requirePlainFile d f w m s g x1)) := by
  unfold f_LV_requirePlainFile
  refine ev_aload_n d_LV_requirePlainFile_0 rfl rfl ?_
  refine ev_iload_n d_LV_requirePlainFile_1 rfl rfl ?_
  refine ev_callBT (rc := (f_LV_requireLeader d f w m s g x1)) (ou := ouI) (Hs := (fun z => (eLV :: (HD z.1 (HF z.2 (HW w (HM m (HS s (HG g tl))))))))) (inv_V (q := 0) (av := [.int x1]) (rest := []) rfl (ci := 0) rfl d_LV_requirePlainFile_2 gw_649 gw_651 gw_29 mw_LV_requireLeader nh_LV_requireLeader pn_LV_requireLeader rfl) d_LV_requirePlainFile_2 pl_LV_requireLeader (Nat.le_of_ble_eq_true rfl) (Nat.le_of_ble_eq_true rfl) (Nat.le_of_ble_eq_true rfl) (e_f_LV_requireLeader (tl := tl)  d f w m s g x1) (fun _ => (len1 (lenHD (lenHF (lenHW (lenHM (lenHS (lenHG rfl)))))))) rfl (fun x z h1 => ?_) (fun v z h1 => ⟨_, rfl, ?_⟩)
  · rfl
  · exact ev_pick [0, 1] rfl (e_B_LV_requirePlainFile_5     z.1 z.2 w m s g x1 v)
def B_LV_appendByte_61   (d : DS) (f : FS) (w : WS) (m : MS) (s : SS) (g : GS) : Option ((Nat ⊕ Unit) × (DS × FS × MS)) :=
  some (.inr (), (d, f, m))
theorem e_B_LV_appendByte_61 {sc : Nat × (Nat → Int32)} {tl : List mn_E}    (d : DS) (f : FS) (w : WS) (m : MS) (s : SS) (g : GS) : Ev sc 9 123 0 0 M_LV_appendByte 61 [] [] (eLV :: (HD d (HF f (HW w (HM m (HS s (HG g tl))))))) (mapR ouVT (fun z => (eLV :: (HD z.1 (HF z.2.1 (HW w (HM z.2.2 (HS s (HG g tl)))))))) (B_LV_appendByte_61 d f w m s g)) := by
  unfold B_LV_appendByte_61
  exact ev_vret rfl d_LV_appendByte_61
def B_LV_appendByte_48   (d : DS) (f : FS) (w : WS) (m : MS) (s : SS) (g : GS) (x2 : Int32) (x4 : Int32) : Option ((Nat ⊕ Unit) × (DS × FS × MS)) :=
  B_LV_appendByte_61   (xSetCell d x2 2 (x4 + 1)) f w m s g
theorem e_B_LV_appendByte_48 {sc : Nat × (Nat → Int32)} {tl : List mn_E}    (d : DS) (f : FS) (w : WS) (m : MS) (s : SS) (g : GS) (x2 : Int32) (x4 : Int32) : Ev sc 9 123 0 0 M_LV_appendByte 48 [(0, .ref 0), (2, .int x2), (4, .int x4)] [] (eLV :: (HD d (HF f (HW w (HM m (HS s (HG g tl))))))) (mapR ouVT (fun z => (eLV :: (HD z.1 (HF z.2.1 (HW w (HM z.2.2 (HS s (HG g tl)))))))) (B_LV_appendByte_48 d f w m s g x2 x4)) := by
  unfold B_LV_appendByte_48
  refine ev_aload_n d_LV_appendByte_48 rfl rfl ?_
  refine ev_get (v := .ref 1) gi_LV (ci := 0) rfl rfl 0 (by decide) gw_287 rfl d_LV_appendByte_49 ?_
  refine ev_iload_n d_LV_appendByte_52 rfl rfl ?_
  refine ev_iconst (v := 2) d_LV_appendByte_53 rfl ?_
  refine ev_iload d_LV_appendByte_54 rfl ?_
  refine ev_iconst (v := 1) d_LV_appendByte_56 rfl ?_
  refine ev_iadd d_LV_appendByte_57 ?_
  refine ev_callr (Mc := M_Disk_setCell) (v := none) (h1 := (eLV :: (HD (xSetCell d x2 2 (x4 + 1)) (HF f (HW w (HM m (HS s (HG g tl)))))))) (k2 := 0) (n2 := 0) (inv_V (q := 1) (av := [.int x2, .int 2, .int (x4 + 1)]) (rest := []) rfl (ci := 1) rfl d_LV_appendByte_58 gw_815 gw_178 gw_179 mw_Disk_setCell nh_Disk_setCell pn_Disk_setCell rfl) d_LV_appendByte_58 pl_Disk_setCell (Nat.le_of_ble_eq_true rfl) (Nat.le_of_ble_eq_true rfl) (Nat.le_of_ble_eq_true rfl) rfl rfl (c_Disk_setCell (e0 := eLV) (tl := (HF f (HW w (HM m (HS s (HG g tl))))))  d x2 2 (x4 + 1)) (Or.inl (len1 (lenHD (lenHF (lenHW (lenHM (lenHS (lenHG rfl)))))))) ?_
  exact ev_pick [] rfl (e_B_LV_appendByte_61     (xSetCell d x2 2 (x4 + 1)) f w m s g)
def B_LV_appendByte_37   (d : DS) (f : FS) (w : WS) (m : MS) (s : SS) (g : GS) (x2 : Int32) (x3 : Int32) (x4 : Int32) : Option ((Nat ⊕ Unit) × (DS × FS × MS)) :=
  B_LV_appendByte_48   ((f_Disk_setByte d x2 x4 x3).2) f w m s g x2 x4
theorem e_B_LV_appendByte_37 {sc : Nat × (Nat → Int32)} {tl : List mn_E}    (d : DS) (f : FS) (w : WS) (m : MS) (s : SS) (g : GS) (x2 : Int32) (x3 : Int32) (x4 : Int32) : Ev sc 9 123 0 0 M_LV_appendByte 37 [(0, .ref 0), (2, .int x2), (3, .int x3), (4, .int x4)] [] (eLV :: (HD d (HF f (HW w (HM m (HS s (HG g tl))))))) (mapR ouVT (fun z => (eLV :: (HD z.1 (HF z.2.1 (HW w (HM z.2.2 (HS s (HG g tl)))))))) (B_LV_appendByte_37 d f w m s g x2 x3 x4)) := by
  unfold B_LV_appendByte_37
  refine ev_aload_n d_LV_appendByte_37 rfl rfl ?_
  refine ev_get (v := .ref 1) gi_LV (ci := 0) rfl rfl 0 (by decide) gw_287 rfl d_LV_appendByte_38 ?_
  refine ev_iload_n d_LV_appendByte_41 rfl rfl ?_
  refine ev_iload d_LV_appendByte_42 rfl ?_
  refine ev_iload_n d_LV_appendByte_44 rfl rfl ?_
  refine ev_callr (Mc := M_Disk_setByte) (v := none) (h1 := (eLV :: (HD ((f_Disk_setByte d x2 x4 x3).2) (HF f (HW w (HM m (HS s (HG g tl)))))))) (k2 := 0) (n2 := 0) (inv_V (q := 1) (av := [.int x2, .int x4, .int x3]) (rest := []) rfl (ci := 1) rfl d_LV_appendByte_45 gw_504 gw_190 gw_191 mw_Disk_setByte nh_Disk_setByte pn_Disk_setByte rfl) d_LV_appendByte_45 pl_Disk_setByte (Nat.le_of_ble_eq_true rfl) (Nat.le_of_ble_eq_true rfl) (Nat.le_of_ble_eq_true rfl) rfl rfl (e_f_Disk_setByte (e0 := eLV) (tl := (HF f (HW w (HM m (HS s (HG g tl))))))  d x2 x4 x3) (Or.inl (len1 (lenHD (lenHF (lenHW (lenHM (lenHS (lenHG rfl)))))))) ?_
  exact ev_pick [0, 1, 3] rfl (e_B_LV_appendByte_48     ((f_Disk_setByte d x2 x4 x3).2) f w m s g x2 x4)
def B_LV_appendByte_134   (d : DS) (f : FS) (w : WS) (m : MS) (s : SS) (g : GS) : Option ((Nat ⊕ Unit) × (DS × FS × MS)) :=
  some (.inr (), (d, f, m))
theorem e_B_LV_appendByte_134 {sc : Nat × (Nat → Int32)} {tl : List mn_E}    (d : DS) (f : FS) (w : WS) (m : MS) (s : SS) (g : GS) : Ev sc 9 123 0 0 M_LV_appendByte 134 [] [] (eLV :: (HD d (HF f (HW w (HM m (HS s (HG g tl))))))) (mapR ouVT (fun z => (eLV :: (HD z.1 (HF z.2.1 (HW w (HM z.2.2 (HS s (HG g tl)))))))) (B_LV_appendByte_134 d f w m s g)) := by
  unfold B_LV_appendByte_134
  exact ev_vret rfl d_LV_appendByte_134
def B_LV_appendByte_127   (d : DS) (f : FS) (w : WS) (m : MS) (s : SS) (g : GS) : Option ((Nat ⊕ Unit) × (DS × FS × MS)) :=
  bnd (f_Map_update d f w m) (fun q => thM q (fun x z => some (.inl x, (z, f, m))) (fun v z => B_LV_appendByte_134   z f w m s g))
theorem e_B_LV_appendByte_127 {sc : Nat × (Nat → Int32)} {tl : List mn_E}    (d : DS) (f : FS) (w : WS) (m : MS) (s : SS) (g : GS) : Ev sc 9 123 0 0 M_LV_appendByte 127 [(0, .ref 0)] [] (eLV :: (HD d (HF f (HW w (HM m (HS s (HG g tl))))))) (mapR ouVT (fun z => (eLV :: (HD z.1 (HF z.2.1 (HW w (HM z.2.2 (HS s (HG g tl)))))))) (B_LV_appendByte_127 d f w m s g)) := by
  unfold B_LV_appendByte_127
  refine ev_aload_n d_LV_appendByte_127 rfl rfl ?_
  refine ev_get (v := .ref 8) gi_LV (ci := 0) rfl rfl 3 (by decide) gw_290 rfl d_LV_appendByte_128 ?_
  refine ev_callBT (rc := (f_Map_update d f w m)) (ou := ouV) (Hs := (fun z => (eLV :: (HD z (HF f (HW w (HM m (HS s (HG g tl))))))))) (inv_V (q := 8) (av := []) (rest := []) rfl (ci := 4) rfl d_LV_appendByte_131 gw_829 gw_830 gw_831 mw_Map_update nh_Map_update pn_Map_update rfl) d_LV_appendByte_131 pl_Map_update (Nat.le_of_ble_eq_true rfl) (Nat.le_of_ble_eq_true rfl) (Nat.le_of_ble_eq_true rfl) (e_f_Map_update (e0 := eLV) (tl := (HS s (HG g tl)))  d f w m ) (fun _ => (len1 (lenHD (lenHF (lenHW (lenHM (lenHS (lenHG rfl)))))))) rfl (fun x z h1 => ?_) (fun v z h1 => ⟨_, rfl, ?_⟩)
  · rfl
  · exact ev_pick [] rfl (e_B_LV_appendByte_134     z f w m s g)
def B_LV_appendByte_119   (d : DS) (f : FS) (w : WS) (m : MS) (s : SS) (g : GS) (x1 : Int32) (x2 : Int32) (x5 : Int32) : Option ((Nat ⊕ Unit) × (DS × FS × MS)) :=
  thM (f_LV_linkBehind d f w m s g x1 x2 x5) (fun x z => some (.inl x, (z, f, m))) (fun v z => B_LV_appendByte_127   z f w m s g)
theorem e_B_LV_appendByte_119 {sc : Nat × (Nat → Int32)} {tl : List mn_E}    (d : DS) (f : FS) (w : WS) (m : MS) (s : SS) (g : GS) (x1 : Int32) (x2 : Int32) (x5 : Int32) : Ev sc 9 123 0 0 M_LV_appendByte 119 [(0, .ref 0), (1, .int x1), (2, .int x2), (5, .int x5)] [] (eLV :: (HD d (HF f (HW w (HM m (HS s (HG g tl))))))) (mapR ouVT (fun z => (eLV :: (HD z.1 (HF z.2.1 (HW w (HM z.2.2 (HS s (HG g tl)))))))) (B_LV_appendByte_119 d f w m s g x1 x2 x5)) := by
  unfold B_LV_appendByte_119
  refine ev_aload_n d_LV_appendByte_119 rfl rfl ?_
  refine ev_iload_n d_LV_appendByte_120 rfl rfl ?_
  refine ev_iload_n d_LV_appendByte_121 rfl rfl ?_
  refine ev_iload d_LV_appendByte_122 rfl ?_
  refine ev_callT (q := (f_LV_linkBehind d f w m s g x1 x2 x5)) (ou := ouV) (Hs := (fun z => (eLV :: (HD z (HF f (HW w (HM m (HS s (HG g tl))))))))) (inv_V (q := 0) (av := [.int x1, .int x2, .int x5]) (rest := []) rfl (ci := 0) rfl d_LV_appendByte_124 gw_821 gw_823 gw_37 mw_LV_linkBehind nh_LV_linkBehind pn_LV_linkBehind rfl) d_LV_appendByte_124 pl_LV_linkBehind (Nat.le_of_ble_eq_true rfl) (Nat.le_of_ble_eq_true rfl) (Nat.le_of_ble_eq_true rfl) (e_f_LV_linkBehind (tl := tl)  d f w m s g x1 x2 x5) (fun _ => (len1 (lenHD (lenHF (lenHW (lenHM (lenHS (lenHG rfl)))))))) rfl (fun x z h1 => ?_) (fun v z h1 => ⟨_, rfl, ?_⟩)
  · rw [h1]; rfl
  · rw [h1]
    exact ev_pick [0] rfl (e_B_LV_appendByte_127     z f w m s g)
def B_LV_appendByte_108   (d : DS) (f : FS) (w : WS) (m : MS) (s : SS) (g : GS) (x1 : Int32) (x2 : Int32) (x3 : Int32) (x5 : Int32) : Option ((Nat ⊕ Unit) × (DS × FS × MS)) :=
  B_LV_appendByte_119   ((f_Disk_setByte d x5 0 x3).2) f w m s g x1 x2 x5
theorem e_B_LV_appendByte_108 {sc : Nat × (Nat → Int32)} {tl : List mn_E}    (d : DS) (f : FS) (w : WS) (m : MS) (s : SS) (g : GS) (x1 : Int32) (x2 : Int32) (x3 : Int32) (x5 : Int32) : Ev sc 9 123 0 0 M_LV_appendByte 108 [(0, .ref 0), (1, .int x1), (2, .int x2), (3, .int x3), (5, .int x5)] [] (eLV :: (HD d (HF f (HW w (HM m (HS s (HG g tl))))))) (mapR ouVT (fun z => (eLV :: (HD z.1 (HF z.2.1 (HW w (HM z.2.2 (HS s (HG g tl)))))))) (B_LV_appendByte_108 d f w m s g x1 x2 x3 x5)) := by
  unfold B_LV_appendByte_108
  refine ev_aload_n d_LV_appendByte_108 rfl rfl ?_
  refine ev_get (v := .ref 1) gi_LV (ci := 0) rfl rfl 0 (by decide) gw_287 rfl d_LV_appendByte_109 ?_
  refine ev_iload d_LV_appendByte_112 rfl ?_
  refine ev_iconst (v := 0) d_LV_appendByte_114 rfl ?_
  refine ev_iload_n d_LV_appendByte_115 rfl rfl ?_
  refine ev_callr (Mc := M_Disk_setByte) (v := none) (h1 := (eLV :: (HD ((f_Disk_setByte d x5 0 x3).2) (HF f (HW w (HM m (HS s (HG g tl)))))))) (k2 := 0) (n2 := 0) (inv_V (q := 1) (av := [.int x5, .int 0, .int x3]) (rest := []) rfl (ci := 1) rfl d_LV_appendByte_116 gw_504 gw_190 gw_191 mw_Disk_setByte nh_Disk_setByte pn_Disk_setByte rfl) d_LV_appendByte_116 pl_Disk_setByte (Nat.le_of_ble_eq_true rfl) (Nat.le_of_ble_eq_true rfl) (Nat.le_of_ble_eq_true rfl) rfl rfl (e_f_Disk_setByte (e0 := eLV) (tl := (HF f (HW w (HM m (HS s (HG g tl))))))  d x5 0 x3) (Or.inl (len1 (lenHD (lenHF (lenHW (lenHM (lenHS (lenHG rfl)))))))) ?_
  exact ev_pick [0, 1, 2, 4] rfl (e_B_LV_appendByte_119     ((f_Disk_setByte d x5 0 x3).2) f w m s g x1 x2 x5)
def B_LV_appendByte_97   (d : DS) (f : FS) (w : WS) (m : MS) (s : SS) (g : GS) (x1 : Int32) (x2 : Int32) (x3 : Int32) (x5 : Int32) : Option ((Nat ⊕ Unit) × (DS × FS × MS)) :=
  B_LV_appendByte_108   ((f_Disk_makePageBehind d x2 x5 1).2) f w m s g x1 x2 x3 x5
theorem e_B_LV_appendByte_97 {sc : Nat × (Nat → Int32)} {tl : List mn_E}    (d : DS) (f : FS) (w : WS) (m : MS) (s : SS) (g : GS) (x1 : Int32) (x2 : Int32) (x3 : Int32) (x5 : Int32) : Ev sc 9 123 0 0 M_LV_appendByte 97 [(0, .ref 0), (1, .int x1), (2, .int x2), (3, .int x3), (5, .int x5)] [] (eLV :: (HD d (HF f (HW w (HM m (HS s (HG g tl))))))) (mapR ouVT (fun z => (eLV :: (HD z.1 (HF z.2.1 (HW w (HM z.2.2 (HS s (HG g tl)))))))) (B_LV_appendByte_97 d f w m s g x1 x2 x3 x5)) := by
  unfold B_LV_appendByte_97
  refine ev_aload_n d_LV_appendByte_97 rfl rfl ?_
  refine ev_get (v := .ref 1) gi_LV (ci := 0) rfl rfl 0 (by decide) gw_287 rfl d_LV_appendByte_98 ?_
  refine ev_iload_n d_LV_appendByte_101 rfl rfl ?_
  refine ev_iload d_LV_appendByte_102 rfl ?_
  refine ev_iconst (v := 1) d_LV_appendByte_104 rfl ?_
  refine ev_callr (Mc := M_Disk_makePageBehind) (v := none) (h1 := (eLV :: (HD ((f_Disk_makePageBehind d x2 x5 1).2) (HF f (HW w (HM m (HS s (HG g tl)))))))) (k2 := 0) (n2 := 0) (inv_V (q := 1) (av := [.int x2, .int x5, .int 1]) (rest := []) rfl (ci := 1) rfl d_LV_appendByte_105 gw_820 gw_194 gw_195 mw_Disk_makePageBehind nh_Disk_makePageBehind pn_Disk_makePageBehind rfl) d_LV_appendByte_105 pl_Disk_makePageBehind (Nat.le_of_ble_eq_true rfl) (Nat.le_of_ble_eq_true rfl) (Nat.le_of_ble_eq_true rfl) rfl rfl (e_f_Disk_makePageBehind (e0 := eLV) (tl := (HF f (HW w (HM m (HS s (HG g tl))))))  d x2 x5 1) (Or.inl (len1 (lenHD (lenHF (lenHW (lenHM (lenHS (lenHG rfl)))))))) ?_
  exact ev_pick [0, 1, 2, 3, 4] rfl (e_B_LV_appendByte_108     ((f_Disk_makePageBehind d x2 x5 1).2) f w m s g x1 x2 x3 x5)
def B_LV_appendByte_70   (d : DS) (f : FS) (w : WS) (m : MS) (s : SS) (g : GS) (x1 : Int32) (x2 : Int32) (x3 : Int32) (t0 : Int32) : Option ((Nat ⊕ Unit) × (DS × FS × MS)) :=
  if ¬ t0 = 0 then (thM (f_Disk_spendWrite d) (fun x z => some (.inl x, (z, f, m))) (fun v z => B_LV_appendByte_97   z f w m s g x1 x2 x3 ((f_Map_firstTaken d f w m).1))) else (some (.inl 4, (d, f, m)))
theorem e_B_LV_appendByte_70 {sc : Nat × (Nat → Int32)} {tl : List mn_E}    (d : DS) (f : FS) (w : WS) (m : MS) (s : SS) (g : GS) (x1 : Int32) (x2 : Int32) (x3 : Int32) (t0 : Int32) : Ev sc 9 123 0 0 M_LV_appendByte 70 [(0, .ref 0), (1, .int x1), (2, .int x2), (3, .int x3)] [.int t0] (eLV :: (HD d (HF f (HW w (HM m (HS s (HG g tl))))))) (mapR ouVT (fun z => (eLV :: (HD z.1 (HF z.2.1 (HW w (HM z.2.2 (HS s (HG g tl)))))))) (B_LV_appendByte_70 d f w m s g x1 x2 x3 t0)) := by
  unfold B_LV_appendByte_70
  refine ev_if_ne (tgt := 81) d_LV_appendByte_70 rfl (fun h1 => ?_) (fun h1 => ?_)
  · rw [if_pos h1]
    refine ev_aload_n d_LV_appendByte_81 rfl rfl ?_
    refine ev_get (v := .ref 8) gi_LV (ci := 0) rfl rfl 3 (by decide) gw_290 rfl d_LV_appendByte_82 ?_
    refine ev_callr (Mc := M_Map_firstTaken) (v := some (.int ((f_Map_firstTaken d f w m).1))) (h1 := (eLV :: (HD d (HF f (HW w (HM m (HS s (HG g tl)))))))) (k2 := 0) (n2 := 0) (inv_V (q := 8) (av := []) (rest := []) rfl (ci := 4) rfl d_LV_appendByte_85 gw_786 gw_787 gw_788 mw_Map_firstTaken nh_Map_firstTaken pn_Map_firstTaken rfl) d_LV_appendByte_85 pl_Map_firstTaken (Nat.le_of_ble_eq_true rfl) (Nat.le_of_ble_eq_true rfl) (Nat.le_of_ble_eq_true rfl) rfl rfl (e_f_Map_firstTaken (e0 := eLV) (tl := (HS s (HG g tl)))  d f w m ) (Or.inl (len1 (lenHD (lenHF (lenHW (lenHM (lenHS (lenHG rfl)))))))) ?_
    refine ev_istore d_LV_appendByte_88 (by decide) rfl ?_
    refine ev_aload_n d_LV_appendByte_90 rfl rfl ?_
    refine ev_get (v := .ref 1) gi_LV (ci := 0) rfl rfl 0 (by decide) gw_287 rfl d_LV_appendByte_91 ?_
    refine ev_callT (q := (f_Disk_spendWrite d)) (ou := ouV) (Hs := (fun z => (eLV :: (HD z (HF f (HW w (HM m (HS s (HG g tl))))))))) (inv_V (q := 1) (av := []) (rest := []) rfl (ci := 1) rfl d_LV_appendByte_94 gw_790 gw_791 gw_792 mw_Disk_spendWrite nh_Disk_spendWrite pn_Disk_spendWrite rfl) d_LV_appendByte_94 pl_Disk_spendWrite (Nat.le_of_ble_eq_true rfl) (Nat.le_of_ble_eq_true rfl) (Nat.le_of_ble_eq_true rfl) (e_f_Disk_spendWrite (e0 := eLV) (tl := (HF f (HW w (HM m (HS s (HG g tl))))))  d ) (fun _ => (len1 (lenHD (lenHF (lenHW (lenHM (lenHS (lenHG rfl)))))))) rfl (fun x z h2 => ?_) (fun v z h2 => ⟨_, rfl, ?_⟩)
    · rw [h2]; rfl
    · rw [h2]
      exact ev_pick [1, 2, 3, 4, 0] rfl (e_B_LV_appendByte_97     z f w m s g x1 x2 x3 ((f_Map_firstTaken d f w m).1))
  · rw [if_neg h1]
    exact ev_throw (x := 4) (names := gd_up) d_LV_appendByte_73 d_LV_appendByte_76 d_LV_appendByte_77 d_LV_appendByte_80 gw_715 gw_716 gw_115 tw_LV_71 (by decide +kernel) (by decide +kernel) rfl (by decide) (Nat.le_of_ble_eq_true rfl)
def B_LV_appendByte_62   (d : DS) (f : FS) (w : WS) (m : MS) (s : SS) (g : GS) (x1 : Int32) (x2 : Int32) (x3 : Int32) : Option ((Nat ⊕ Unit) × (DS × FS × MS)) :=
  bnd (f_Map_take d f w m 1) (fun q => B_LV_appendByte_70   q.2.1 q.2.2.1 w q.2.2.2 s g x1 x2 x3 q.1)
theorem e_B_LV_appendByte_62 {sc : Nat × (Nat → Int32)} {tl : List mn_E}    (d : DS) (f : FS) (w : WS) (m : MS) (s : SS) (g : GS) (x1 : Int32) (x2 : Int32) (x3 : Int32) : Ev sc 9 123 0 0 M_LV_appendByte 62 [(0, .ref 0), (1, .int x1), (2, .int x2), (3, .int x3)] [] (eLV :: (HD d (HF f (HW w (HM m (HS s (HG g tl))))))) (mapR ouVT (fun z => (eLV :: (HD z.1 (HF z.2.1 (HW w (HM z.2.2 (HS s (HG g tl)))))))) (B_LV_appendByte_62 d f w m s g x1 x2 x3)) := by
  unfold B_LV_appendByte_62
  refine ev_aload_n d_LV_appendByte_62 rfl rfl ?_
  refine ev_get (v := .ref 8) gi_LV (ci := 0) rfl rfl 3 (by decide) gw_290 rfl d_LV_appendByte_63 ?_
  refine ev_iconst (v := 1) d_LV_appendByte_66 rfl ?_
  refine ev_callB (rc := (f_Map_take d f w m 1)) (ou := ouI) (Hs := (fun z => (eLV :: (HD z.1 (HF z.2.1 (HW w (HM z.2.2 (HS s (HG g tl))))))))) (inv_V (q := 8) (av := [.int 1]) (rest := []) rfl (ci := 4) rfl d_LV_appendByte_67 gw_753 gw_754 gw_755 mw_Map_take nh_Map_take pn_Map_take rfl) d_LV_appendByte_67 pl_Map_take (Nat.le_of_ble_eq_true rfl) (Nat.le_of_ble_eq_true rfl) (Nat.le_of_ble_eq_true rfl) (e_f_Map_take (e0 := eLV) (tl := (HS s (HG g tl)))  d f w m 1) (fun _ => (len1 (lenHD (lenHF (lenHW (lenHM (lenHS (lenHG rfl)))))))) (fun v z h1 => ⟨_, rfl, ?_⟩)
  exact ev_pick [0, 1, 2, 3] rfl (e_B_LV_appendByte_70     z.1 z.2.1 w z.2.2 s g x1 x2 x3 v)
def f_LV_appendByte   (d : DS) (f : FS) (w : WS) (m : MS) (s : SS) (g : GS) (x1 : Int32) (x2 : Int32) (x3 : Int32) : Option ((Nat ⊕ Unit) × (DS × FS × MS)) :=
  if (xCell d x2 1) ≤ 0 then (B_LV_appendByte_62   d f w m s g x1 x2 x3) else (if 8 ≤ (xCell d x2 2) then (B_LV_appendByte_62   d f w m s g x1 x2 x3) else (thM (f_Disk_spendWrite d) (fun x z => some (.inl x, (z, f, m))) (fun v z => B_LV_appendByte_37   z f w m s g x2 x3 (xCell d x2 2))))
theorem e_f_LV_appendByte {sc : Nat × (Nat → Int32)} {tl : List mn_E}    (d : DS) (f : FS) (w : WS) (m : MS) (s : SS) (g : GS) (x1 : Int32) (x2 : Int32) (x3 : Int32) : Ev sc 9 123 0 0 M_LV_appendByte 0 [(0, .ref 0), (1, .int x1), (2, .int x2), (3, .int x3)] [] (eLV :: (HD d (HF f (HW w (HM m (HS s (HG g tl))))))) (mapR ouVT (fun z => (eLV :: (HD z.1 (HF z.2.1 (HW w (HM z.2.2 (HS s (HG g tl)))))))) (f_LV_appendByte d f w m s g x1 x2 x3)) := by
  unfold f_LV_appendByte
  refine ev_aload_n d_LV_appendByte_0 rfl rfl ?_
  refine ev_get (v := .ref 1) gi_LV (ci := 0) rfl rfl 0 (by decide) gw_287 rfl d_LV_appendByte_1 ?_
  refine ev_iload_n d_LV_appendByte_4 rfl rfl ?_
  refine ev_iconst (v := 2) d_LV_appendByte_5 rfl ?_
  refine ev_callr (Mc := M_Disk_cell) (v := some (.int (xCell d x2 2))) (h1 := (eLV :: (HD d (HF f (HW w (HM m (HS s (HG g tl)))))))) (k2 := 0) (n2 := 0) (inv_V (q := 1) (av := [.int x2, .int 2]) (rest := []) rfl (ci := 1) rfl d_LV_appendByte_6 gw_531 gw_198 gw_199 mw_Disk_cell nh_Disk_cell pn_Disk_cell rfl) d_LV_appendByte_6 pl_Disk_cell (Nat.le_of_ble_eq_true rfl) (Nat.le_of_ble_eq_true rfl) (Nat.le_of_ble_eq_true rfl) rfl rfl (c_Disk_cell (e0 := eLV) (tl := (HF f (HW w (HM m (HS s (HG g tl))))))  d x2 2) (Or.inl (len1 (lenHD (lenHF (lenHW (lenHM (lenHS (lenHG rfl)))))))) ?_
  refine ev_istore d_LV_appendByte_9 (by decide) rfl ?_
  refine ev_aload_n d_LV_appendByte_11 rfl rfl ?_
  refine ev_get (v := .ref 1) gi_LV (ci := 0) rfl rfl 0 (by decide) gw_287 rfl d_LV_appendByte_12 ?_
  refine ev_iload_n d_LV_appendByte_15 rfl rfl ?_
  refine ev_iconst (v := 1) d_LV_appendByte_16 rfl ?_
  refine ev_callr (Mc := M_Disk_cell) (v := some (.int (xCell d x2 1))) (h1 := (eLV :: (HD d (HF f (HW w (HM m (HS s (HG g tl)))))))) (k2 := 0) (n2 := 0) (inv_V (q := 1) (av := [.int x2, .int 1]) (rest := []) rfl (ci := 1) rfl d_LV_appendByte_17 gw_531 gw_198 gw_199 mw_Disk_cell nh_Disk_cell pn_Disk_cell rfl) d_LV_appendByte_17 pl_Disk_cell (Nat.le_of_ble_eq_true rfl) (Nat.le_of_ble_eq_true rfl) (Nat.le_of_ble_eq_true rfl) rfl rfl (c_Disk_cell (e0 := eLV) (tl := (HF f (HW w (HM m (HS s (HG g tl))))))  d x2 1) (Or.inl (len1 (lenHD (lenHF (lenHW (lenHM (lenHS (lenHG rfl)))))))) ?_
  refine ev_if_le (tgt := 62) d_LV_appendByte_20 rfl (fun h1 => ?_) (fun h1 => ?_)
  · rw [if_pos h1]
    exact ev_pick [1, 2, 3, 4] rfl (e_B_LV_appendByte_62     d f w m s g x1 x2 x3)
  · rw [if_neg h1]
    refine ev_iload d_LV_appendByte_23 rfl ?_
    refine ev_bipush (v := 8) d_LV_appendByte_25 rfl ?_
    refine ev_icmp_ge (tgt := 62) d_LV_appendByte_27 rfl (fun h2 => ?_) (fun h2 => ?_)
    · rw [if_pos h2]
      exact ev_pick [1, 2, 3, 4] rfl (e_B_LV_appendByte_62     d f w m s g x1 x2 x3)
    · rw [if_neg h2]
      refine ev_aload_n d_LV_appendByte_30 rfl rfl ?_
      refine ev_get (v := .ref 1) gi_LV (ci := 0) rfl rfl 0 (by decide) gw_287 rfl d_LV_appendByte_31 ?_
      refine ev_callT (q := (f_Disk_spendWrite d)) (ou := ouV) (Hs := (fun z => (eLV :: (HD z (HF f (HW w (HM m (HS s (HG g tl))))))))) (inv_V (q := 1) (av := []) (rest := []) rfl (ci := 1) rfl d_LV_appendByte_34 gw_790 gw_791 gw_792 mw_Disk_spendWrite nh_Disk_spendWrite pn_Disk_spendWrite rfl) d_LV_appendByte_34 pl_Disk_spendWrite (Nat.le_of_ble_eq_true rfl) (Nat.le_of_ble_eq_true rfl) (Nat.le_of_ble_eq_true rfl) (e_f_Disk_spendWrite (e0 := eLV) (tl := (HF f (HW w (HM m (HS s (HG g tl))))))  d ) (fun _ => (len1 (lenHD (lenHF (lenHW (lenHM (lenHS (lenHG rfl)))))))) rfl (fun x z h3 => ?_) (fun v z h3 => ⟨_, rfl, ?_⟩)
      · rw [h3]; rfl
      · rw [h3]
        exact ev_pick [1, 3, 4, 0] rfl (e_B_LV_appendByte_37     z f w m s g x2 x3 (xCell d x2 2))
def B_LV_write_46   (d : DS) (f : FS) (w : WS) (m : MS) (s : SS) (g : GS) : Option ((Nat ⊕ Unit) × (DS × FS × MS)) :=
  some (.inl 5, (d, f, m))
theorem e_B_LV_write_46 {sc : Nat × (Nat → Int32)} {tl : List mn_E}    (d : DS) (f : FS) (w : WS) (m : MS) (s : SS) (g : GS) : Ev sc 10 140 0 0 M_LV_write 46 [] [] (eLV :: (HD d (HF f (HW w (HM m (HS s (HG g tl))))))) (mapR ouVT (fun z => (eLV :: (HD z.1 (HF z.2.1 (HW w (HM z.2.2 (HS s (HG g tl)))))))) (B_LV_write_46 d f w m s g)) := by
  unfold B_LV_write_46
  exact ev_throw (x := 5) (names := gd_up) d_LV_write_46 d_LV_write_49 d_LV_write_50 d_LV_write_53 gw_880 gw_881 gw_116 tw_LV_125 (by decide +kernel) (by decide +kernel) rfl (by decide) (Nat.le_of_ble_eq_true rfl)
def B_LV_write_69   (d : DS) (f : FS) (w : WS) (m : MS) (s : SS) (g : GS) : Option ((Nat ⊕ Unit) × (DS × FS × MS)) :=
  some (.inr (), (d, f, m))
theorem e_B_LV_write_69 {sc : Nat × (Nat → Int32)} {tl : List mn_E}    (d : DS) (f : FS) (w : WS) (m : MS) (s : SS) (g : GS) : Ev sc 10 140 0 0 M_LV_write 69 [] [] (eLV :: (HD d (HF f (HW w (HM m (HS s (HG g tl))))))) (mapR ouVT (fun z => (eLV :: (HD z.1 (HF z.2.1 (HW w (HM z.2.2 (HS s (HG g tl)))))))) (B_LV_write_69 d f w m s g)) := by
  unfold B_LV_write_69
  exact ev_vret rfl d_LV_write_69
def B_LV_write_113   (d : DS) (f : FS) (w : WS) (m : MS) (s : SS) (g : GS) : Option ((Nat ⊕ Unit) × (DS × FS × MS)) :=
  some (.inr (), (d, f, m))
theorem e_B_LV_write_113 {sc : Nat × (Nat → Int32)} {tl : List mn_E}    (d : DS) (f : FS) (w : WS) (m : MS) (s : SS) (g : GS) : Ev sc 10 140 0 0 M_LV_write 113 [] [] (eLV :: (HD d (HF f (HW w (HM m (HS s (HG g tl))))))) (mapR ouVT (fun z => (eLV :: (HD z.1 (HF z.2.1 (HW w (HM z.2.2 (HS s (HG g tl)))))))) (B_LV_write_113 d f w m s g)) := by
  unfold B_LV_write_113
  exact ev_vret rfl d_LV_write_113
def B_LV_write_99   (d : DS) (f : FS) (w : WS) (m : MS) (s : SS) (g : GS) (x2 : Int32) (x3 : Int32) (x7 : Int32) : Option ((Nat ⊕ Unit) × (DS × FS × MS)) :=
  B_LV_write_113   ((f_Disk_setByte d x7 (x2 - x2 / 8 * 8) x3).2) f w m s g
theorem e_B_LV_write_99 {sc : Nat × (Nat → Int32)} {tl : List mn_E}    (d : DS) (f : FS) (w : WS) (m : MS) (s : SS) (g : GS) (x2 : Int32) (x3 : Int32) (x7 : Int32) : Ev sc 10 140 0 0 M_LV_write 99 [(0, .ref 0), (2, .int x2), (3, .int x3), (7, .int x7)] [] (eLV :: (HD d (HF f (HW w (HM m (HS s (HG g tl))))))) (mapR ouVT (fun z => (eLV :: (HD z.1 (HF z.2.1 (HW w (HM z.2.2 (HS s (HG g tl)))))))) (B_LV_write_99 d f w m s g x2 x3 x7)) := by
  unfold B_LV_write_99
  refine ev_aload_n d_LV_write_99 rfl rfl ?_
  refine ev_get (v := .ref 1) gi_LV (ci := 0) rfl rfl 0 (by decide) gw_287 rfl d_LV_write_100 ?_
  refine ev_iload d_LV_write_103 rfl ?_
  refine ev_iload_n d_LV_write_105 rfl rfl ?_
  refine ev_bipush (v := 8) d_LV_write_106 rfl ?_
  refine ev_irem d_LV_write_108 (by decide) ?_
  refine ev_iload_n d_LV_write_109 rfl rfl ?_
  refine ev_callr (Mc := M_Disk_setByte) (v := none) (h1 := (eLV :: (HD ((f_Disk_setByte d x7 (x2 - x2 / 8 * 8) x3).2) (HF f (HW w (HM m (HS s (HG g tl)))))))) (k2 := 0) (n2 := 0) (inv_V (q := 1) (av := [.int x7, .int (x2 - x2 / 8 * 8), .int x3]) (rest := []) rfl (ci := 1) rfl d_LV_write_110 gw_504 gw_190 gw_191 mw_Disk_setByte nh_Disk_setByte pn_Disk_setByte rfl) d_LV_write_110 pl_Disk_setByte (Nat.le_of_ble_eq_true rfl) (Nat.le_of_ble_eq_true rfl) (Nat.le_of_ble_eq_true rfl) rfl rfl (e_f_Disk_setByte (e0 := eLV) (tl := (HF f (HW w (HM m (HS s (HG g tl))))))  d x7 (x2 - x2 / 8 * 8) x3) (Or.inl (len1 (lenHD (lenHF (lenHW (lenHM (lenHS (lenHG rfl)))))))) ?_
  exact ev_pick [] rfl (e_B_LV_write_113     ((f_Disk_setByte d x7 (x2 - x2 / 8 * 8) x3).2) f w m s g)
def B_LV_write_90   (d : DS) (f : FS) (w : WS) (m : MS) (s : SS) (g : GS) (x2 : Int32) (x3 : Int32) (t0 : Int32) : Option ((Nat ⊕ Unit) × (DS × FS × MS)) :=
  thM (f_Disk_spendWrite d) (fun x z => some (.inl x, (z, f, m))) (fun v z => B_LV_write_99   z f w m s g x2 x3 t0)
theorem e_B_LV_write_90 {sc : Nat × (Nat → Int32)} {tl : List mn_E}    (d : DS) (f : FS) (w : WS) (m : MS) (s : SS) (g : GS) (x2 : Int32) (x3 : Int32) (t0 : Int32) : Ev sc 10 140 0 0 M_LV_write 90 [(0, .ref 0), (2, .int x2), (3, .int x3)] [.int t0] (eLV :: (HD d (HF f (HW w (HM m (HS s (HG g tl))))))) (mapR ouVT (fun z => (eLV :: (HD z.1 (HF z.2.1 (HW w (HM z.2.2 (HS s (HG g tl)))))))) (B_LV_write_90 d f w m s g x2 x3 t0)) := by
  unfold B_LV_write_90
  refine ev_istore d_LV_write_90 (by decide) rfl ?_
  refine ev_aload_n d_LV_write_92 rfl rfl ?_
  refine ev_get (v := .ref 1) gi_LV (ci := 0) rfl rfl 0 (by decide) gw_287 rfl d_LV_write_93 ?_
  refine ev_callT (q := (f_Disk_spendWrite d)) (ou := ouV) (Hs := (fun z => (eLV :: (HD z (HF f (HW w (HM m (HS s (HG g tl))))))))) (inv_V (q := 1) (av := []) (rest := []) rfl (ci := 1) rfl d_LV_write_96 gw_790 gw_791 gw_792 mw_Disk_spendWrite nh_Disk_spendWrite pn_Disk_spendWrite rfl) d_LV_write_96 pl_Disk_spendWrite (Nat.le_of_ble_eq_true rfl) (Nat.le_of_ble_eq_true rfl) (Nat.le_of_ble_eq_true rfl) (e_f_Disk_spendWrite (e0 := eLV) (tl := (HF f (HW w (HM m (HS s (HG g tl))))))  d ) (fun _ => (len1 (lenHD (lenHF (lenHW (lenHM (lenHS (lenHG rfl)))))))) rfl (fun x z h1 => ?_) (fun v z h1 => ⟨_, rfl, ?_⟩)
  · rw [h1]; rfl
  · rw [h1]
    exact ev_pick [1, 2, 3, 0] rfl (e_B_LV_write_99     z f w m s g x2 x3 t0)
def B_LV_write_87   (d : DS) (f : FS) (w : WS) (m : MS) (s : SS) (g : GS) (x2 : Int32) (x3 : Int32) (t0 : Int32) : Option ((Nat ⊕ Unit) × (DS × FS × MS)) :=
  thM (f_LV_unbroken t0) (fun x z => some (.inl x, (d, f, m))) (fun v z => B_LV_write_90   d f w m s g x2 x3 v)
theorem e_B_LV_write_87 {sc : Nat × (Nat → Int32)} {tl : List mn_E}    (d : DS) (f : FS) (w : WS) (m : MS) (s : SS) (g : GS) (x2 : Int32) (x3 : Int32) (t0 : Int32) : Ev sc 10 140 0 0 M_LV_write 87 [(0, .ref 0), (2, .int x2), (3, .int x3)] [.int t0] (eLV :: (HD d (HF f (HW w (HM m (HS s (HG g tl))))))) (mapR ouVT (fun z => (eLV :: (HD z.1 (HF z.2.1 (HW w (HM z.2.2 (HS s (HG g tl)))))))) (B_LV_write_87 d f w m s g x2 x3 t0)) := by
  unfold B_LV_write_87
  refine ev_callT (q := (f_LV_unbroken t0)) (ou := ouI) (Hs := (fun z => (eLV :: (HD d (HF f (HW w (HM m (HS s (HG g tl))))))))) (inv_S (av := [.int t0]) (rest := []) d_LV_write_87 gw_875 gw_713 gw_102 mw_LV_unbroken nh_LV_unbroken pn_LV_unbroken rfl) d_LV_write_87 pl_LV_unbroken (Nat.le_of_ble_eq_true rfl) (Nat.le_of_ble_eq_true rfl) (Nat.le_of_ble_eq_true rfl) (e_f_LV_unbroken (hh := (eLV :: (HD d (HF f (HW w (HM m (HS s (HG g tl))))))))   t0) (fun _ => (len1 (lenHD (lenHF (lenHW (lenHM (lenHS (lenHG rfl)))))))) rfl (fun x z h1 => ?_) (fun v z h1 => ⟨_, rfl, ?_⟩)
  · rw [h1]; rfl
  · rw [h1]
    exact ev_pick [0, 1, 2] rfl (e_B_LV_write_90     d f w m s g x2 x3 v)
def B_LV_write_23   (d : DS) (f : FS) (w : WS) (m : MS) (s : SS) (g : GS) (x2 : Int32) (x3 : Int32) (x4 : Int32) (t0 : Int32) : Option ((Nat ⊕ Unit) × (DS × FS × MS)) :=
  if x2 < 0 then (B_LV_write_46   d f w m s g) else (if x2 ≤ ((f_Disk_lengthUpTo d t0).1) then (if ¬ x2 = ((f_Disk_lengthUpTo d t0).1) then (bnd (f_Finder_pageOf d f x4 t0 ((x2 / 8) + 1)) (fun q => B_LV_write_87   q.2 f w m s g x2 x3 q.1)) else (bnd (f_LV_appendByte d f w m s g x4 t0 x3) (fun q => thM q (fun x z => some (.inl x, (z.1, z.2.1, z.2.2))) (fun v z => B_LV_write_69   z.1 z.2.1 w z.2.2 s g)))) else (B_LV_write_46   d f w m s g))
theorem e_B_LV_write_23 {sc : Nat × (Nat → Int32)} {tl : List mn_E}    (d : DS) (f : FS) (w : WS) (m : MS) (s : SS) (g : GS) (x2 : Int32) (x3 : Int32) (x4 : Int32) (t0 : Int32) : Ev sc 10 140 0 0 M_LV_write 23 [(0, .ref 0), (2, .int x2), (3, .int x3), (4, .int x4)] [.int t0] (eLV :: (HD d (HF f (HW w (HM m (HS s (HG g tl))))))) (mapR ouVT (fun z => (eLV :: (HD z.1 (HF z.2.1 (HW w (HM z.2.2 (HS s (HG g tl)))))))) (B_LV_write_23 d f w m s g x2 x3 x4 t0)) := by
  unfold B_LV_write_23
  refine ev_istore d_LV_write_23 (by decide) rfl ?_
  refine ev_aload_n d_LV_write_25 rfl rfl ?_
  refine ev_get (v := .ref 1) gi_LV (ci := 0) rfl rfl 0 (by decide) gw_287 rfl d_LV_write_26 ?_
  refine ev_iload d_LV_write_29 rfl ?_
  refine ev_callr (Mc := M_Disk_lengthUpTo) (v := some (.int ((f_Disk_lengthUpTo d t0).1))) (h1 := (eLV :: (HD d (HF f (HW w (HM m (HS s (HG g tl)))))))) (k2 := 0) (n2 := 0) (inv_V (q := 1) (av := [.int t0]) (rest := []) rfl (ci := 1) rfl d_LV_write_31 gw_876 gw_877 gw_878 mw_Disk_lengthUpTo nh_Disk_lengthUpTo pn_Disk_lengthUpTo rfl) d_LV_write_31 pl_Disk_lengthUpTo (Nat.le_of_ble_eq_true rfl) (Nat.le_of_ble_eq_true rfl) (Nat.le_of_ble_eq_true rfl) rfl rfl (e_f_Disk_lengthUpTo (e0 := eLV) (tl := (HF f (HW w (HM m (HS s (HG g tl))))))  d t0) (Or.inl (len1 (lenHD (lenHF (lenHW (lenHM (lenHS (lenHG rfl)))))))) ?_
  refine ev_istore d_LV_write_34 (by decide) rfl ?_
  refine ev_iload_n d_LV_write_36 rfl rfl ?_
  refine ev_if_lt (tgt := 46) d_LV_write_37 rfl (fun h1 => ?_) (fun h1 => ?_)
  · rw [if_pos h1]
    exact ev_pick [] rfl (e_B_LV_write_46     d f w m s g)
  · rw [if_neg h1]
    refine ev_iload_n d_LV_write_40 rfl rfl ?_
    refine ev_iload d_LV_write_41 rfl ?_
    refine ev_icmp_le (tgt := 54) d_LV_write_43 rfl (fun h2 => ?_) (fun h2 => ?_)
    · rw [if_pos h2]
      refine ev_iload_n d_LV_write_54 rfl rfl ?_
      refine ev_iload d_LV_write_55 rfl ?_
      refine ev_icmp_ne (tgt := 70) d_LV_write_57 rfl (fun h3 => ?_) (fun h3 => ?_)
      · rw [if_pos h3]
        refine ev_aload_n d_LV_write_70 rfl rfl ?_
        refine ev_get (v := .ref 5) gi_LV (ci := 0) rfl rfl 1 (by decide) gw_288 rfl d_LV_write_71 ?_
        refine ev_iload d_LV_write_74 rfl ?_
        refine ev_iload d_LV_write_76 rfl ?_
        refine ev_iload_n d_LV_write_78 rfl rfl ?_
        refine ev_bipush (v := 8) d_LV_write_79 rfl ?_
        refine ev_idiv d_LV_write_81 (by decide) ?_
        refine ev_iconst (v := 1) d_LV_write_82 rfl ?_
        refine ev_iadd d_LV_write_83 ?_
        refine ev_callB (rc := (f_Finder_pageOf d f x4 t0 ((x2 / 8) + 1))) (ou := ouI) (Hs := (fun z => (eLV :: (HD z (HF f (HW w (HM m (HS s (HG g tl))))))))) (inv_V (q := 5) (av := [.int x4, .int t0, .int ((x2 / 8) + 1)]) (rest := []) rfl (ci := 2) rfl d_LV_write_84 gw_895 gw_896 gw_897 mw_Finder_pageOf nh_Finder_pageOf pn_Finder_pageOf rfl) d_LV_write_84 pl_Finder_pageOf (Nat.le_of_ble_eq_true rfl) (Nat.le_of_ble_eq_true rfl) (Nat.le_of_ble_eq_true rfl) (e_f_Finder_pageOf (e0 := eLV) (tl := (HW w (HM m (HS s (HG g tl)))))  d f x4 t0 ((x2 / 8) + 1)) (fun _ => (len1 (lenHD (lenHF (lenHW (lenHM (lenHS (lenHG rfl)))))))) (fun v z h4 => ⟨_, rfl, ?_⟩)
        exact ev_pick [2, 3, 4] rfl (e_B_LV_write_87     z f w m s g x2 x3 v)
      · rw [if_neg h3]
        refine ev_aload_n d_LV_write_60 rfl rfl ?_
        refine ev_iload d_LV_write_61 rfl ?_
        refine ev_iload d_LV_write_63 rfl ?_
        refine ev_iload_n d_LV_write_65 rfl rfl ?_
        refine ev_callBT (rc := (f_LV_appendByte d f w m s g x4 t0 x3)) (ou := ouV) (Hs := (fun z => (eLV :: (HD z.1 (HF z.2.1 (HW w (HM z.2.2 (HS s (HG g tl))))))))) (inv_V (q := 0) (av := [.int x4, .int t0, .int x3]) (rest := []) rfl (ci := 0) rfl d_LV_write_66 gw_910 gw_912 gw_43 mw_LV_appendByte nh_LV_appendByte pn_LV_appendByte rfl) d_LV_write_66 pl_LV_appendByte (Nat.le_of_ble_eq_true rfl) (Nat.le_of_ble_eq_true rfl) (Nat.le_of_ble_eq_true rfl) (e_f_LV_appendByte (tl := tl)  d f w m s g x4 t0 x3) (fun _ => (len1 (lenHD (lenHF (lenHW (lenHM (lenHS (lenHG rfl)))))))) rfl (fun x z h5 => ?_) (fun v z h5 => ⟨_, rfl, ?_⟩)
        · rfl
        · exact ev_pick [] rfl (e_B_LV_write_69     z.1 z.2.1 w z.2.2 s g)
    · rw [if_neg h2]
      exact ev_pick [] rfl (e_B_LV_write_46     d f w m s g)
def B_LV_write_20   (d : DS) (f : FS) (w : WS) (m : MS) (s : SS) (g : GS) (x2 : Int32) (x3 : Int32) (x4 : Int32) (t0 : Int32) : Option ((Nat ⊕ Unit) × (DS × FS × MS)) :=
  thM (f_LV_unbroken t0) (fun x z => some (.inl x, (d, f, m))) (fun v z => B_LV_write_23   d f w m s g x2 x3 x4 v)
theorem e_B_LV_write_20 {sc : Nat × (Nat → Int32)} {tl : List mn_E}    (d : DS) (f : FS) (w : WS) (m : MS) (s : SS) (g : GS) (x2 : Int32) (x3 : Int32) (x4 : Int32) (t0 : Int32) : Ev sc 10 140 0 0 M_LV_write 20 [(0, .ref 0), (2, .int x2), (3, .int x3), (4, .int x4)] [.int t0] (eLV :: (HD d (HF f (HW w (HM m (HS s (HG g tl))))))) (mapR ouVT (fun z => (eLV :: (HD z.1 (HF z.2.1 (HW w (HM z.2.2 (HS s (HG g tl)))))))) (B_LV_write_20 d f w m s g x2 x3 x4 t0)) := by
  unfold B_LV_write_20
  refine ev_callT (q := (f_LV_unbroken t0)) (ou := ouI) (Hs := (fun z => (eLV :: (HD d (HF f (HW w (HM m (HS s (HG g tl))))))))) (inv_S (av := [.int t0]) (rest := []) d_LV_write_20 gw_875 gw_713 gw_102 mw_LV_unbroken nh_LV_unbroken pn_LV_unbroken rfl) d_LV_write_20 pl_LV_unbroken (Nat.le_of_ble_eq_true rfl) (Nat.le_of_ble_eq_true rfl) (Nat.le_of_ble_eq_true rfl) (e_f_LV_unbroken (hh := (eLV :: (HD d (HF f (HW w (HM m (HS s (HG g tl))))))))   t0) (fun _ => (len1 (lenHD (lenHF (lenHW (lenHM (lenHS (lenHG rfl)))))))) rfl (fun x z h1 => ?_) (fun v z h1 => ⟨_, rfl, ?_⟩)
  · rw [h1]; rfl
  · rw [h1]
    exact ev_pick [0, 1, 2, 3] rfl (e_B_LV_write_23     d f w m s g x2 x3 x4 v)
def B_LV_write_9   (d : DS) (f : FS) (w : WS) (m : MS) (s : SS) (g : GS) (x2 : Int32) (x3 : Int32) (t0 : Int32) : Option ((Nat ⊕ Unit) × (DS × FS × MS)) :=
  bnd (f_Finder_lastOf d f t0) (fun q => B_LV_write_20   q.2 f w m s g x2 x3 t0 q.1)
theorem e_B_LV_write_9 {sc : Nat × (Nat → Int32)} {tl : List mn_E}    (d : DS) (f : FS) (w : WS) (m : MS) (s : SS) (g : GS) (x2 : Int32) (x3 : Int32) (t0 : Int32) : Ev sc 10 140 0 0 M_LV_write 9 [(0, .ref 0), (2, .int x2), (3, .int x3)] [.int t0] (eLV :: (HD d (HF f (HW w (HM m (HS s (HG g tl))))))) (mapR ouVT (fun z => (eLV :: (HD z.1 (HF z.2.1 (HW w (HM z.2.2 (HS s (HG g tl)))))))) (B_LV_write_9 d f w m s g x2 x3 t0)) := by
  unfold B_LV_write_9
  refine ev_istore d_LV_write_9 (by decide) rfl ?_
  refine ev_aload_n d_LV_write_11 rfl rfl ?_
  refine ev_get (v := .ref 5) gi_LV (ci := 0) rfl rfl 1 (by decide) gw_288 rfl d_LV_write_12 ?_
  refine ev_iload d_LV_write_15 rfl ?_
  refine ev_callB (rc := (f_Finder_lastOf d f t0)) (ou := ouI) (Hs := (fun z => (eLV :: (HD z (HF f (HW w (HM m (HS s (HG g tl))))))))) (inv_V (q := 5) (av := [.int t0]) (rest := []) rfl (ci := 2) rfl d_LV_write_17 gw_868 gw_869 gw_870 mw_Finder_lastOf nh_Finder_lastOf pn_Finder_lastOf rfl) d_LV_write_17 pl_Finder_lastOf (Nat.le_of_ble_eq_true rfl) (Nat.le_of_ble_eq_true rfl) (Nat.le_of_ble_eq_true rfl) (e_f_Finder_lastOf (e0 := eLV) (tl := (HW w (HM m (HS s (HG g tl)))))  d f t0) (fun _ => (len1 (lenHD (lenHF (lenHW (lenHM (lenHS (lenHG rfl)))))))) (fun v z h1 => ⟨_, rfl, ?_⟩)
  exact ev_pick [1, 2, 3, 0] rfl (e_B_LV_write_20     z f w m s g x2 x3 t0 v)
def B_LV_write_4   (d : DS) (f : FS) (w : WS) (m : MS) (s : SS) (g : GS) (x1 : Int32) (x2 : Int32) (x3 : Int32) : Option ((Nat ⊕ Unit) × (DS × FS × MS)) :=
  bnd (f_LV_requirePlainFile d f w m s g x1) (fun q => thM q (fun x z => some (.inl x, (z.1, z.2, m))) (fun v z => B_LV_write_9   z.1 z.2 w m s g x2 x3 v))
theorem e_B_LV_write_4 {sc : Nat × (Nat → Int32)} {tl : List mn_E}    (d : DS) (f : FS) (w : WS) (m : MS) (s : SS) (g : GS) (x1 : Int32) (x2 : Int32) (x3 : Int32) : Ev sc 10 140 0 0 M_LV_write 4 [(0, .ref 0), (1, .int x1), (2, .int x2), (3, .int x3)] [] (eLV :: (HD d (HF f (HW w (HM m (HS s (HG g tl))))))) (mapR ouVT (fun z => (eLV :: (HD z.1 (HF z.2.1 (HW w (HM z.2.2 (HS s (HG g tl)))))))) (B_LV_write_4 d f w m s g x1 x2 x3)) := by
  unfold B_LV_write_4
  refine ev_aload_n d_LV_write_4 rfl rfl ?_
  refine ev_iload_n d_LV_write_5 rfl rfl ?_
  refine ev_callBT (rc := (f_LV_requirePlainFile d f w m s g x1)) (ou := ouI) (Hs := (fun z => (eLV :: (HD z.1 (HF z.2 (HW w (HM m (HS s (HG g tl))))))))) (inv_V (q := 0) (av := [.int x1]) (rest := []) rfl (ci := 0) rfl d_LV_write_6 gw_906 gw_908 gw_42 mw_LV_requirePlainFile nh_LV_requirePlainFile pn_LV_requirePlainFile rfl) d_LV_write_6 pl_LV_requirePlainFile (Nat.le_of_ble_eq_true rfl) (Nat.le_of_ble_eq_true rfl) (Nat.le_of_ble_eq_true rfl) (e_f_LV_requirePlainFile (tl := tl)  d f w m s g x1) (fun _ => (len1 (lenHD (lenHF (lenHW (lenHM (lenHS (lenHG rfl)))))))) rfl (fun x z h1 => ?_) (fun v z h1 => ⟨_, rfl, ?_⟩)
  · rfl
  · exact ev_pick [0, 2, 3] rfl (e_B_LV_write_9     z.1 z.2 w m s g x2 x3 v)
def f_LV_write   (d : DS) (f : FS) (w : WS) (m : MS) (s : SS) (g : GS) (x1 : Int32) (x2 : Int32) (x3 : Int32) : Option ((Nat ⊕ Unit) × (DS × FS × MS)) :=
  thM (f_LV_requirePower d f w m s g) (fun x z => some (.inl x, (d, f, m))) (fun v z => B_LV_write_4   d f w m s g x1 x2 x3)
theorem e_f_LV_write {sc : Nat × (Nat → Int32)} {tl : List mn_E}    (d : DS) (f : FS) (w : WS) (m : MS) (s : SS) (g : GS) (x1 : Int32) (x2 : Int32) (x3 : Int32) : Ev sc 10 140 0 0 M_LV_write 0 [(0, .ref 0), (1, .int x1), (2, .int x2), (3, .int x3)] [] (eLV :: (HD d (HF f (HW w (HM m (HS s (HG g tl))))))) (mapR ouVT (fun z => (eLV :: (HD z.1 (HF z.2.1 (HW w (HM z.2.2 (HS s (HG g tl)))))))) (f_LV_write d f w m s g x1 x2 x3)) := by
  unfold f_LV_write
  refine ev_aload_n d_LV_write_0 rfl rfl ?_
  refine ev_callT (q := (f_LV_requirePower d f w m s g)) (ou := ouV) (Hs := (fun z => (eLV :: (HD d (HF f (HW w (HM m (HS s (HG g tl))))))))) (inv_V (q := 0) (av := []) (rest := []) rfl (ci := 0) rfl d_LV_write_1 gw_576 gw_578 gw_26 mw_LV_requirePower nh_LV_requirePower pn_LV_requirePower rfl) d_LV_write_1 pl_LV_requirePower (Nat.le_of_ble_eq_true rfl) (Nat.le_of_ble_eq_true rfl) (Nat.le_of_ble_eq_true rfl) (e_f_LV_requirePower (tl := tl)  d f w m s g ) (fun _ => (len1 (lenHD (lenHF (lenHW (lenHM (lenHS (lenHG rfl)))))))) rfl (fun x z h1 => ?_) (fun v z h1 => ⟨_, rfl, ?_⟩)
  · rw [h1]; rfl
  · rw [h1]
    exact ev_pick [0, 1, 2, 3] rfl (e_B_LV_write_4     d f w m s g x1 x2 x3)
def B_LV_gatherPages_66   (d : DS) (f : FS) (w : WS) (m : MS) (s : SS) (g : GS) (x3 : Int32) : Option ((Nat ⊕ Int32) × (DS × GS)) :=
  some (.inr x3, (d, g))
theorem e_B_LV_gatherPages_66 {sc : Nat × (Nat → Int32)} {tl : List mn_E}    (d : DS) (f : FS) (w : WS) (m : MS) (s : SS) (g : GS) (x3 : Int32) : Ev sc 7 93 0 0 M_LV_gatherPages 66 [(3, .int x3)] [] (eLV :: (HD d (HF f (HW w (HM m (HS s (HG g tl))))))) (mapR ouIT (fun z => (eLV :: (HD z.1 (HF f (HW w (HM m (HS s (HG z.2 tl)))))))) (B_LV_gatherPages_66 d f w m s g x3)) := by
  unfold B_LV_gatherPages_66
  refine ev_iload_n d_LV_gatherPages_66 rfl rfl ?_
  exact ev_zret (ty := .int) rfl rfl d_LV_gatherPages_67
def B_LV_gatherPages_60  (r16 : DS → FS → WS → MS → SS → GS → Int32 → Int32 → Int32 → Int32 → Option ((Nat ⊕ Int32) × (DS × GS))) (d : DS) (f : FS) (w : WS) (m : MS) (s : SS) (g : GS) (x2 : Int32) (x3 : Int32) (x4 : Int32) (x5 : Int32) : Option ((Nat ⊕ Int32) × (DS × GS)) :=
  r16 d f w m s g x2 x3 x4 (x5 + (-1))
theorem e_B_LV_gatherPages_60 {sc : Nat × (Nat → Int32)} {tl : List mn_E}  (r16 : DS → FS → WS → MS → SS → GS → Int32 → Int32 → Int32 → Int32 → Option ((Nat ⊕ Int32) × (DS × GS))) (hr16 : ∀ (d : DS) (f : FS) (w : WS) (m : MS) (s : SS) (g : GS) (x2 : Int32) (x3 : Int32) (x4 : Int32) (x5 : Int32), Ev sc 7 93 0 0 M_LV_gatherPages 16 [(0, .ref 0), (2, .int x2), (3, .int x3), (4, .int x4), (5, .int x5)] [] (eLV :: (HD d (HF f (HW w (HM m (HS s (HG g tl))))))) (mapR ouIT (fun z => (eLV :: (HD z.1 (HF f (HW w (HM m (HS s (HG z.2 tl)))))))) (r16 d f w m s g x2 x3 x4 x5))) (d : DS) (f : FS) (w : WS) (m : MS) (s : SS) (g : GS) (x2 : Int32) (x3 : Int32) (x4 : Int32) (x5 : Int32) : Ev sc 7 93 0 0 M_LV_gatherPages 60 [(0, .ref 0), (2, .int x2), (3, .int x3), (4, .int x4), (5, .int x5)] [] (eLV :: (HD d (HF f (HW w (HM m (HS s (HG g tl))))))) (mapR ouIT (fun z => (eLV :: (HD z.1 (HF f (HW w (HM m (HS s (HG z.2 tl)))))))) (B_LV_gatherPages_60 r16 d f w m s g x2 x3 x4 x5)) := by
  unfold B_LV_gatherPages_60
  refine ev_iinc (v := (x5 + (-1))) d_LV_gatherPages_60 rfl rfl (by decide) rfl ?_
  refine ev_goto (tgt := 16) d_LV_gatherPages_63 rfl ?_
  exact ev_pick [1, 2, 3, 4, 0] rfl (hr16 d f w m s g x2 x3 x4 (x5 + (-1)))
def B_LV_gatherPages_58  (r16 : DS → FS → WS → MS → SS → GS → Int32 → Int32 → Int32 → Int32 → Option ((Nat ⊕ Int32) × (DS × GS))) (d : DS) (f : FS) (w : WS) (m : MS) (s : SS) (g : GS) (x2 : Int32) (x3 : Int32) (x5 : Int32) (t0 : Int32) : Option ((Nat ⊕ Int32) × (DS × GS)) :=
  B_LV_gatherPages_60  r16 d f w m s g x2 x3 t0 x5
theorem e_B_LV_gatherPages_58 {sc : Nat × (Nat → Int32)} {tl : List mn_E}  (r16 : DS → FS → WS → MS → SS → GS → Int32 → Int32 → Int32 → Int32 → Option ((Nat ⊕ Int32) × (DS × GS))) (hr16 : ∀ (d : DS) (f : FS) (w : WS) (m : MS) (s : SS) (g : GS) (x2 : Int32) (x3 : Int32) (x4 : Int32) (x5 : Int32), Ev sc 7 93 0 0 M_LV_gatherPages 16 [(0, .ref 0), (2, .int x2), (3, .int x3), (4, .int x4), (5, .int x5)] [] (eLV :: (HD d (HF f (HW w (HM m (HS s (HG g tl))))))) (mapR ouIT (fun z => (eLV :: (HD z.1 (HF f (HW w (HM m (HS s (HG z.2 tl)))))))) (r16 d f w m s g x2 x3 x4 x5))) (d : DS) (f : FS) (w : WS) (m : MS) (s : SS) (g : GS) (x2 : Int32) (x3 : Int32) (x5 : Int32) (t0 : Int32) : Ev sc 7 93 0 0 M_LV_gatherPages 58 [(0, .ref 0), (2, .int x2), (3, .int x3), (5, .int x5)] [.int t0] (eLV :: (HD d (HF f (HW w (HM m (HS s (HG g tl))))))) (mapR ouIT (fun z => (eLV :: (HD z.1 (HF f (HW w (HM m (HS s (HG z.2 tl)))))))) (B_LV_gatherPages_58 r16 d f w m s g x2 x3 x5 t0)) := by
  unfold B_LV_gatherPages_58
  refine ev_istore d_LV_gatherPages_58 (by decide) rfl ?_
  exact ev_pick [1, 2, 3, 0, 4] rfl (e_B_LV_gatherPages_60   r16 hr16 d f w m s g x2 x3 t0 x5)
def B_LV_gatherPages_55  (r16 : DS → FS → WS → MS → SS → GS → Int32 → Int32 → Int32 → Int32 → Option ((Nat ⊕ Int32) × (DS × GS))) (d : DS) (f : FS) (w : WS) (m : MS) (s : SS) (g : GS) (x2 : Int32) (x3 : Int32) (x5 : Int32) (t0 : Int32) : Option ((Nat ⊕ Int32) × (DS × GS)) :=
  thM (f_LV_unbroken t0) (fun x z => some (.inl x, (d, g))) (fun v z => B_LV_gatherPages_58  r16 d f w m s g x2 x3 x5 v)
theorem e_B_LV_gatherPages_55 {sc : Nat × (Nat → Int32)} {tl : List mn_E}  (r16 : DS → FS → WS → MS → SS → GS → Int32 → Int32 → Int32 → Int32 → Option ((Nat ⊕ Int32) × (DS × GS))) (hr16 : ∀ (d : DS) (f : FS) (w : WS) (m : MS) (s : SS) (g : GS) (x2 : Int32) (x3 : Int32) (x4 : Int32) (x5 : Int32), Ev sc 7 93 0 0 M_LV_gatherPages 16 [(0, .ref 0), (2, .int x2), (3, .int x3), (4, .int x4), (5, .int x5)] [] (eLV :: (HD d (HF f (HW w (HM m (HS s (HG g tl))))))) (mapR ouIT (fun z => (eLV :: (HD z.1 (HF f (HW w (HM m (HS s (HG z.2 tl)))))))) (r16 d f w m s g x2 x3 x4 x5))) (d : DS) (f : FS) (w : WS) (m : MS) (s : SS) (g : GS) (x2 : Int32) (x3 : Int32) (x5 : Int32) (t0 : Int32) : Ev sc 7 93 0 0 M_LV_gatherPages 55 [(0, .ref 0), (2, .int x2), (3, .int x3), (5, .int x5)] [.int t0] (eLV :: (HD d (HF f (HW w (HM m (HS s (HG g tl))))))) (mapR ouIT (fun z => (eLV :: (HD z.1 (HF f (HW w (HM m (HS s (HG z.2 tl)))))))) (B_LV_gatherPages_55 r16 d f w m s g x2 x3 x5 t0)) := by
  unfold B_LV_gatherPages_55
  refine ev_callT (q := (f_LV_unbroken t0)) (ou := ouI) (Hs := (fun z => (eLV :: (HD d (HF f (HW w (HM m (HS s (HG g tl))))))))) (inv_S (av := [.int t0]) (rest := []) d_LV_gatherPages_55 gw_875 gw_713 gw_102 mw_LV_unbroken nh_LV_unbroken pn_LV_unbroken rfl) d_LV_gatherPages_55 pl_LV_unbroken (Nat.le_of_ble_eq_true rfl) (Nat.le_of_ble_eq_true rfl) (Nat.le_of_ble_eq_true rfl) (e_f_LV_unbroken (hh := (eLV :: (HD d (HF f (HW w (HM m (HS s (HG g tl))))))))   t0) (fun _ => (len1 (lenHD (lenHF (lenHW (lenHM (lenHS (lenHG rfl)))))))) rfl (fun x z h1 => ?_) (fun v z h1 => ⟨_, rfl, ?_⟩)
  · rw [h1]; rfl
  · rw [h1]
    exact ev_pick [0, 1, 2, 3] rfl (e_B_LV_gatherPages_58   r16 hr16 d f w m s g x2 x3 x5 v)
def L_LV_gatherPages_16   : Nat → DS → FS → WS → MS → SS → GS → Int32 → Int32 → Int32 → Int32 → Option ((Nat ⊕ Int32) × (DS × GS))
  | 0, _, _, _, _, _, _, _, _, _, _ => none
  | n + 1, d, f, w, m, s, g, x2, x3, x4, x5 =>
  if x5 < x2 then (B_LV_gatherPages_66   d f w m s g x3) else (if 40 ≤ x3 then (B_LV_gatherPages_66   d f w m s g x3) else (if inB x3 40 then (if x5 ≤ x2 then (B_LV_gatherPages_60  (L_LV_gatherPages_16 n) d f w m s (gSGat g (upd (gGat g) x3.toNatClampNeg x4)) x2 (x3 + 1) x4 x5) else (B_LV_gatherPages_55  (L_LV_gatherPages_16 n) ((f_Finder_follow d f x4 4).2) f w m s (gSGat g (upd (gGat g) x3.toNatClampNeg x4)) x2 (x3 + 1) x5 ((f_Finder_follow d f x4 4).1))) else none))
theorem e_L_LV_gatherPages_16 {sc : Nat × (Nat → Int32)} {tl : List mn_E}    : ∀ (n : Nat) (d : DS) (f : FS) (w : WS) (m : MS) (s : SS) (g : GS) (x2 : Int32) (x3 : Int32) (x4 : Int32) (x5 : Int32), Ev sc 7 93 0 0 M_LV_gatherPages 16 [(0, .ref 0), (2, .int x2), (3, .int x3), (4, .int x4), (5, .int x5)] [] (eLV :: (HD d (HF f (HW w (HM m (HS s (HG g tl))))))) (mapR ouIT (fun z => (eLV :: (HD z.1 (HF f (HW w (HM m (HS s (HG z.2 tl)))))))) (L_LV_gatherPages_16   n d f w m s g x2 x3 x4 x5)) := by
  intro n
  induction n with
  | zero => intro d f w m s g x2 x3 x4 x5; exact ev_none
  | succ n ih =>
    intro d f w m s g x2 x3 x4 x5
    rw [L_LV_gatherPages_16]
    refine ev_iload d_LV_gatherPages_16 rfl ?_
    refine ev_iload_n d_LV_gatherPages_18 rfl rfl ?_
    refine ev_icmp_lt (tgt := 66) d_LV_gatherPages_19 rfl (fun h1 => ?_) (fun h1 => ?_)
    · rw [if_pos h1]
      exact ev_pick [2] rfl (e_B_LV_gatherPages_66     d f w m s g x3)
    · rw [if_neg h1]
      refine ev_iload_n d_LV_gatherPages_22 rfl rfl ?_
      refine ev_bipush (v := 40) d_LV_gatherPages_23 rfl ?_
      refine ev_icmp_ge (tgt := 66) d_LV_gatherPages_25 rfl (fun h2 => ?_) (fun h2 => ?_)
      · rw [if_pos h2]
        exact ev_pick [2] rfl (e_B_LV_gatherPages_66     d f w m s g x3)
      · rw [if_neg h2]
        refine ev_aload_n d_LV_gatherPages_28 rfl rfl ?_
        refine ev_get (v := .ref 11) gi_LV (ci := 0) rfl rfl 5 (by decide) gw_292 rfl d_LV_gatherPages_29 ?_
        refine ev_iload_n d_LV_gatherPages_32 rfl rfl ?_
        refine ev_iload d_LV_gatherPages_33 rfl ?_
        refine ev_inB (fun h3 => ?_)
        refine ev_iastore (h2 := (eLV :: (HD d (HF f (HW w (HM m (HS s (HG (gSGat g (upd (gGat g) x3.toNatClampNeg x4)) tl)))))))) rfl (inB_of h3) rfl d_LV_gatherPages_35 ?_
        refine ev_iinc (v := (x3 + 1)) d_LV_gatherPages_36 rfl rfl (by decide) rfl ?_
        refine ev_iload d_LV_gatherPages_39 rfl ?_
        refine ev_iload_n d_LV_gatherPages_41 rfl rfl ?_
        refine ev_icmp_le (tgt := 60) d_LV_gatherPages_42 rfl (fun h4 => ?_) (fun h4 => ?_)
        · rw [if_pos h4]
          exact ev_pick [1, 2, 0, 3, 4] rfl (e_B_LV_gatherPages_60   (L_LV_gatherPages_16 n) ih d f w m s (gSGat g (upd (gGat g) x3.toNatClampNeg x4)) x2 (x3 + 1) x4 x5)
        · rw [if_neg h4]
          refine ev_aload_n d_LV_gatherPages_45 rfl rfl ?_
          refine ev_get (v := .ref 5) gi_LV (ci := 0) rfl rfl 1 (by decide) gw_288 rfl d_LV_gatherPages_46 ?_
          refine ev_iload d_LV_gatherPages_49 rfl ?_
          refine ev_iconst (v := 4) d_LV_gatherPages_51 rfl ?_
          refine ev_callr (Mc := M_Finder_follow) (v := some (.int ((f_Finder_follow d f x4 4).1))) (h1 := (eLV :: (HD ((f_Finder_follow d f x4 4).2) (HF f (HW w (HM m (HS s (HG (gSGat g (upd (gGat g) x3.toNatClampNeg x4)) tl)))))))) (k2 := 0) (n2 := 0) (inv_V (q := 5) (av := [.int x4, .int 4]) (rest := []) rfl (ci := 2) rfl d_LV_gatherPages_52 gw_929 gw_708 gw_709 mw_Finder_follow nh_Finder_follow pn_Finder_follow rfl) d_LV_gatherPages_52 pl_Finder_follow (Nat.le_of_ble_eq_true rfl) (Nat.le_of_ble_eq_true rfl) (Nat.le_of_ble_eq_true rfl) rfl rfl (e_f_Finder_follow (e0 := eLV) (tl := (HW w (HM m (HS s (HG (gSGat g (upd (gGat g) x3.toNatClampNeg x4)) tl)))))  d f x4 4) (Or.inl (len1 (lenHD (lenHF (lenHW (lenHM (lenHS (lenHG rfl)))))))) ?_
          exact ev_pick [1, 2, 0, 4] rfl (e_B_LV_gatherPages_55   (L_LV_gatherPages_16 n) ih ((f_Finder_follow d f x4 4).2) f w m s (gSGat g (upd (gGat g) x3.toNatClampNeg x4)) x2 (x3 + 1) x5 ((f_Finder_follow d f x4 4).1))
def f_LV_gatherPages   (d : DS) (f : FS) (w : WS) (m : MS) (s : SS) (g : GS) (x1 : Int32) (x2 : Int32) : Option ((Nat ⊕ Int32) × (DS × GS)) :=
  L_LV_gatherPages_16   100 d f w m s g x2 0 x1 (xCell d x1 1)
theorem e_f_LV_gatherPages {sc : Nat × (Nat → Int32)} {tl : List mn_E}    (d : DS) (f : FS) (w : WS) (m : MS) (s : SS) (g : GS) (x1 : Int32) (x2 : Int32) : Ev sc 7 93 0 0 M_LV_gatherPages 0 [(0, .ref 0), (1, .int x1), (2, .int x2)] [] (eLV :: (HD d (HF f (HW w (HM m (HS s (HG g tl))))))) (mapR ouIT (fun z => (eLV :: (HD z.1 (HF f (HW w (HM m (HS s (HG z.2 tl)))))))) (f_LV_gatherPages d f w m s g x1 x2)) := by
  unfold f_LV_gatherPages
  refine ev_iconst (v := 0) d_LV_gatherPages_0 rfl ?_
  refine ev_istore_n d_LV_gatherPages_1 rfl (by decide) rfl ?_
  refine ev_iload_n d_LV_gatherPages_2 rfl rfl ?_
  refine ev_istore d_LV_gatherPages_3 (by decide) rfl ?_
  refine ev_aload_n d_LV_gatherPages_5 rfl rfl ?_
  refine ev_get (v := .ref 1) gi_LV (ci := 0) rfl rfl 0 (by decide) gw_287 rfl d_LV_gatherPages_6 ?_
  refine ev_iload_n d_LV_gatherPages_9 rfl rfl ?_
  refine ev_iconst (v := 1) d_LV_gatherPages_10 rfl ?_
  refine ev_callr (Mc := M_Disk_cell) (v := some (.int (xCell d x1 1))) (h1 := (eLV :: (HD d (HF f (HW w (HM m (HS s (HG g tl)))))))) (k2 := 0) (n2 := 0) (inv_V (q := 1) (av := [.int x1, .int 1]) (rest := []) rfl (ci := 1) rfl d_LV_gatherPages_11 gw_531 gw_198 gw_199 mw_Disk_cell nh_Disk_cell pn_Disk_cell rfl) d_LV_gatherPages_11 pl_Disk_cell (Nat.le_of_ble_eq_true rfl) (Nat.le_of_ble_eq_true rfl) (Nat.le_of_ble_eq_true rfl) rfl rfl (c_Disk_cell (e0 := eLV) (tl := (HF f (HW w (HM m (HS s (HG g tl))))))  d x1 1) (Or.inl (len1 (lenHD (lenHF (lenHW (lenHM (lenHS (lenHG rfl)))))))) ?_
  refine ev_istore d_LV_gatherPages_14 (by decide) rfl ?_
  exact ev_pick [3, 5, 2, 1, 0] rfl (e_L_LV_gatherPages_16     100 d f w m s g x2 0 x1 (xCell d x1 1))
def B_LV_gatheredPage_19   (d : DS) (f : FS) (w : WS) (m : MS) (s : SS) (g : GS) : Option (Int32 × Unit) :=
  some ((-1), ())
theorem e_B_LV_gatheredPage_19 {sc : Nat × (Nat → Int32)} {tl : List mn_E}    (d : DS) (f : FS) (w : WS) (m : MS) (s : SS) (g : GS) : Ev sc 0 0 0 0 M_LV_gatheredPage 19 [] [] (eLV :: (HD d (HF f (HW w (HM m (HS s (HG g tl))))))) (mapR ouI (fun z => (eLV :: (HD d (HF f (HW w (HM m (HS s (HG g tl)))))))) (B_LV_gatheredPage_19 d f w m s g)) := by
  unfold B_LV_gatheredPage_19
  refine ev_iconst (v := -1) d_LV_gatheredPage_19 rfl ?_
  exact ev_zret (ty := .int) rfl rfl d_LV_gatheredPage_20
def f_LV_gatheredPage   (d : DS) (f : FS) (w : WS) (m : MS) (s : SS) (g : GS) (x1 : Int32) : Option (Int32 × Unit) :=
  if x1 < 0 then (B_LV_gatheredPage_19   d f w m s g) else (if 40 ≤ x1 then (B_LV_gatheredPage_19   d f w m s g) else (if inB x1 40 then (some ((gGat g x1.toNatClampNeg), ())) else none))
theorem e_f_LV_gatheredPage {sc : Nat × (Nat → Int32)} {tl : List mn_E}    (d : DS) (f : FS) (w : WS) (m : MS) (s : SS) (g : GS) (x1 : Int32) : Ev sc 0 0 0 0 M_LV_gatheredPage 0 [(0, .ref 0), (1, .int x1)] [] (eLV :: (HD d (HF f (HW w (HM m (HS s (HG g tl))))))) (mapR ouI (fun z => (eLV :: (HD d (HF f (HW w (HM m (HS s (HG g tl)))))))) (f_LV_gatheredPage d f w m s g x1)) := by
  unfold f_LV_gatheredPage
  refine ev_iload_n d_LV_gatheredPage_0 rfl rfl ?_
  refine ev_if_lt (tgt := 19) d_LV_gatheredPage_1 rfl (fun h1 => ?_) (fun h1 => ?_)
  · rw [if_pos h1]
    exact ev_pick [] rfl (e_B_LV_gatheredPage_19     d f w m s g)
  · rw [if_neg h1]
    refine ev_iload_n d_LV_gatheredPage_4 rfl rfl ?_
    refine ev_bipush (v := 40) d_LV_gatheredPage_5 rfl ?_
    refine ev_icmp_ge (tgt := 19) d_LV_gatheredPage_7 rfl (fun h2 => ?_) (fun h2 => ?_)
    · rw [if_pos h2]
      exact ev_pick [] rfl (e_B_LV_gatheredPage_19     d f w m s g)
    · rw [if_neg h2]
      refine ev_aload_n d_LV_gatheredPage_10 rfl rfl ?_
      refine ev_get (v := .ref 11) gi_LV (ci := 0) rfl rfl 5 (by decide) gw_292 rfl d_LV_gatheredPage_11 ?_
      refine ev_iload_n d_LV_gatheredPage_14 rfl rfl ?_
      refine ev_inB (fun h3 => ?_)
      refine ev_iaload rfl (inB_of h3) d_LV_gatheredPage_15 ?_
      refine ev_goto (tgt := 20) d_LV_gatheredPage_16 rfl ?_
      exact ev_zret (ty := .int) rfl rfl d_LV_gatheredPage_20
def B_LV_freeGathered_19  (r2 : DS → FS → WS → MS → SS → GS → Int32 → Int32 → Option ((Nat ⊕ Unit) × (DS × MS))) (d : DS) (f : FS) (w : WS) (m : MS) (s : SS) (g : GS) (x1 : Int32) (x2 : Int32) : Option ((Nat ⊕ Unit) × (DS × MS)) :=
  r2 d f w m s g x1 (x2 + 1)
theorem e_B_LV_freeGathered_19 {sc : Nat × (Nat → Int32)} {tl : List mn_E}  (r2 : DS → FS → WS → MS → SS → GS → Int32 → Int32 → Option ((Nat ⊕ Unit) × (DS × MS))) (hr2 : ∀ (d : DS) (f : FS) (w : WS) (m : MS) (s : SS) (g : GS) (x1 : Int32) (x2 : Int32), Ev sc 8 106 0 0 M_LV_freeGathered 2 [(0, .ref 0), (1, .int x1), (2, .int x2)] [] (eLV :: (HD d (HF f (HW w (HM m (HS s (HG g tl))))))) (mapR ouVT (fun z => (eLV :: (HD z.1 (HF f (HW w (HM z.2 (HS s (HG g tl)))))))) (r2 d f w m s g x1 x2))) (d : DS) (f : FS) (w : WS) (m : MS) (s : SS) (g : GS) (x1 : Int32) (x2 : Int32) : Ev sc 8 106 0 0 M_LV_freeGathered 19 [(0, .ref 0), (1, .int x1), (2, .int x2)] [] (eLV :: (HD d (HF f (HW w (HM m (HS s (HG g tl))))))) (mapR ouVT (fun z => (eLV :: (HD z.1 (HF f (HW w (HM z.2 (HS s (HG g tl)))))))) (B_LV_freeGathered_19 r2 d f w m s g x1 x2)) := by
  unfold B_LV_freeGathered_19
  refine ev_iinc (v := (x2 + 1)) d_LV_freeGathered_19 rfl rfl (by decide) rfl ?_
  refine ev_goto (tgt := 2) d_LV_freeGathered_22 rfl ?_
  exact ev_pick [1, 2, 0] rfl (hr2 d f w m s g x1 (x2 + 1))
def B_LV_freeGathered_16  (r2 : DS → FS → WS → MS → SS → GS → Int32 → Int32 → Option ((Nat ⊕ Unit) × (DS × MS))) (d : DS) (f : FS) (w : WS) (m : MS) (s : SS) (g : GS) (x1 : Int32) (x2 : Int32) (t1 : Int32) : Option ((Nat ⊕ Unit) × (DS × MS)) :=
  thM (f_Map_release d f w m t1) (fun x z => some (.inl x, (z.1, z.2))) (fun v z => B_LV_freeGathered_19  r2 z.1 f w z.2 s g x1 x2)
theorem e_B_LV_freeGathered_16 {sc : Nat × (Nat → Int32)} {tl : List mn_E}  (r2 : DS → FS → WS → MS → SS → GS → Int32 → Int32 → Option ((Nat ⊕ Unit) × (DS × MS))) (hr2 : ∀ (d : DS) (f : FS) (w : WS) (m : MS) (s : SS) (g : GS) (x1 : Int32) (x2 : Int32), Ev sc 8 106 0 0 M_LV_freeGathered 2 [(0, .ref 0), (1, .int x1), (2, .int x2)] [] (eLV :: (HD d (HF f (HW w (HM m (HS s (HG g tl))))))) (mapR ouVT (fun z => (eLV :: (HD z.1 (HF f (HW w (HM z.2 (HS s (HG g tl)))))))) (r2 d f w m s g x1 x2))) (d : DS) (f : FS) (w : WS) (m : MS) (s : SS) (g : GS) (x1 : Int32) (x2 : Int32) (t1 : Int32) : Ev sc 8 106 0 0 M_LV_freeGathered 16 [(0, .ref 0), (1, .int x1), (2, .int x2)] [.int t1, .ref 8] (eLV :: (HD d (HF f (HW w (HM m (HS s (HG g tl))))))) (mapR ouVT (fun z => (eLV :: (HD z.1 (HF f (HW w (HM z.2 (HS s (HG g tl)))))))) (B_LV_freeGathered_16 r2 d f w m s g x1 x2 t1)) := by
  unfold B_LV_freeGathered_16
  refine ev_callT (q := (f_Map_release d f w m t1)) (ou := ouV) (Hs := (fun z => (eLV :: (HD z.1 (HF f (HW w (HM z.2 (HS s (HG g tl))))))))) (inv_V (q := 8) (av := [.int t1]) (rest := []) rfl (ci := 4) rfl d_LV_freeGathered_16 gw_939 gw_940 gw_941 mw_Map_release nh_Map_release pn_Map_release rfl) d_LV_freeGathered_16 pl_Map_release (Nat.le_of_ble_eq_true rfl) (Nat.le_of_ble_eq_true rfl) (Nat.le_of_ble_eq_true rfl) (e_f_Map_release (e0 := eLV) (tl := (HS s (HG g tl)))  d f w m t1) (fun _ => (len1 (lenHD (lenHF (lenHW (lenHM (lenHS (lenHG rfl)))))))) rfl (fun x z h1 => ?_) (fun v z h1 => ⟨_, rfl, ?_⟩)
  · rw [h1]; rfl
  · rw [h1]
    exact ev_pick [0, 1, 2] rfl (e_B_LV_freeGathered_19   r2 hr2 z.1 f w z.2 s g x1 x2)
def L_LV_freeGathered_2   : Nat → DS → FS → WS → MS → SS → GS → Int32 → Int32 → Option ((Nat ⊕ Unit) × (DS × MS))
  | 0, _, _, _, _, _, _, _, _ => none
  | n + 1, d, f, w, m, s, g, x1, x2 =>
  if x1 ≤ x2 then (some (.inr (), (d, m))) else (bnd (f_LV_gatheredPage d f w m s g x2) (fun q => B_LV_freeGathered_16  (L_LV_freeGathered_2 n) d f w m s g x1 x2 q.1))
theorem e_L_LV_freeGathered_2 {sc : Nat × (Nat → Int32)} {tl : List mn_E}    : ∀ (n : Nat) (d : DS) (f : FS) (w : WS) (m : MS) (s : SS) (g : GS) (x1 : Int32) (x2 : Int32), Ev sc 8 106 0 0 M_LV_freeGathered 2 [(0, .ref 0), (1, .int x1), (2, .int x2)] [] (eLV :: (HD d (HF f (HW w (HM m (HS s (HG g tl))))))) (mapR ouVT (fun z => (eLV :: (HD z.1 (HF f (HW w (HM z.2 (HS s (HG g tl)))))))) (L_LV_freeGathered_2   n d f w m s g x1 x2)) := by
  intro n
  induction n with
  | zero => intro d f w m s g x1 x2; exact ev_none
  | succ n ih =>
    intro d f w m s g x1 x2
    rw [L_LV_freeGathered_2]
    refine ev_iload_n d_LV_freeGathered_2 rfl rfl ?_
    refine ev_iload_n d_LV_freeGathered_3 rfl rfl ?_
    refine ev_icmp_ge (tgt := 25) d_LV_freeGathered_4 rfl (fun h1 => ?_) (fun h1 => ?_)
    · rw [if_pos h1]
      exact ev_vret rfl d_LV_freeGathered_25
    · rw [if_neg h1]
      refine ev_aload_n d_LV_freeGathered_7 rfl rfl ?_
      refine ev_get (v := .ref 8) gi_LV (ci := 0) rfl rfl 3 (by decide) gw_290 rfl d_LV_freeGathered_8 ?_
      refine ev_aload_n d_LV_freeGathered_11 rfl rfl ?_
      refine ev_iload_n d_LV_freeGathered_12 rfl rfl ?_
      refine ev_callB (rc := (f_LV_gatheredPage d f w m s g x2)) (ou := ouI) (Hs := (fun z => (eLV :: (HD d (HF f (HW w (HM m (HS s (HG g tl))))))))) (inv_V (q := 0) (av := [.int x2]) (rest := [.ref 8]) rfl (ci := 0) rfl d_LV_freeGathered_13 gw_930 gw_932 gw_46 mw_LV_gatheredPage nh_LV_gatheredPage pn_LV_gatheredPage rfl) d_LV_freeGathered_13 pl_LV_gatheredPage (Nat.le_of_ble_eq_true rfl) (Nat.le_of_ble_eq_true rfl) (Nat.le_of_ble_eq_true rfl) (e_f_LV_gatheredPage (tl := tl)  d f w m s g x2) (fun _ => (len1 (lenHD (lenHF (lenHW (lenHM (lenHS (lenHG rfl)))))))) (fun v z h2 => ⟨_, rfl, ?_⟩)
      exact ev_pick [0, 1, 2] rfl (e_B_LV_freeGathered_16   (L_LV_freeGathered_2 n) ih d f w m s g x1 x2 v)
def f_LV_freeGathered   (d : DS) (f : FS) (w : WS) (m : MS) (s : SS) (g : GS) (x1 : Int32) : Option ((Nat ⊕ Unit) × (DS × MS)) :=
  L_LV_freeGathered_2   100 d f w m s g x1 0
theorem e_f_LV_freeGathered {sc : Nat × (Nat → Int32)} {tl : List mn_E}    (d : DS) (f : FS) (w : WS) (m : MS) (s : SS) (g : GS) (x1 : Int32) : Ev sc 8 106 0 0 M_LV_freeGathered 0 [(0, .ref 0), (1, .int x1)] [] (eLV :: (HD d (HF f (HW w (HM m (HS s (HG g tl))))))) (mapR ouVT (fun z => (eLV :: (HD z.1 (HF f (HW w (HM z.2 (HS s (HG g tl)))))))) (f_LV_freeGathered d f w m s g x1)) := by
  unfold f_LV_freeGathered
  refine ev_iconst (v := 0) d_LV_freeGathered_0 rfl ?_
  refine ev_istore_n d_LV_freeGathered_1 rfl (by decide) rfl ?_
  exact ev_pick [1, 2, 0] rfl (e_L_LV_freeGathered_2     100 d f w m s g x1 0)
def B_LV_dropPages_65   (d : DS) (f : FS) (w : WS) (m : MS) (s : SS) (g : GS) : Option ((Nat ⊕ Unit) × (DS × FS × MS × GS)) :=
  some (.inr (), (d, f, m, g))
theorem e_B_LV_dropPages_65 {sc : Nat × (Nat → Int32)} {tl : List mn_E}    (d : DS) (f : FS) (w : WS) (m : MS) (s : SS) (g : GS) : Ev sc 9 120 0 0 M_LV_dropPages 65 [] [] (eLV :: (HD d (HF f (HW w (HM m (HS s (HG g tl))))))) (mapR ouVT (fun z => (eLV :: (HD z.1 (HF z.2.1 (HW w (HM z.2.2.1 (HS s (HG z.2.2.2 tl)))))))) (B_LV_dropPages_65 d f w m s g)) := by
  unfold B_LV_dropPages_65
  exact ev_vret rfl d_LV_dropPages_65
def B_LV_dropPages_58   (d : DS) (f : FS) (w : WS) (m : MS) (s : SS) (g : GS) : Option ((Nat ⊕ Unit) × (DS × FS × MS × GS)) :=
  bnd (f_Map_update d f w m) (fun q => thM q (fun x z => some (.inl x, (z, f, m, g))) (fun v z => B_LV_dropPages_65   z f w m s g))
theorem e_B_LV_dropPages_58 {sc : Nat × (Nat → Int32)} {tl : List mn_E}    (d : DS) (f : FS) (w : WS) (m : MS) (s : SS) (g : GS) : Ev sc 9 120 0 0 M_LV_dropPages 58 [(0, .ref 0)] [] (eLV :: (HD d (HF f (HW w (HM m (HS s (HG g tl))))))) (mapR ouVT (fun z => (eLV :: (HD z.1 (HF z.2.1 (HW w (HM z.2.2.1 (HS s (HG z.2.2.2 tl)))))))) (B_LV_dropPages_58 d f w m s g)) := by
  unfold B_LV_dropPages_58
  refine ev_aload_n d_LV_dropPages_58 rfl rfl ?_
  refine ev_get (v := .ref 8) gi_LV (ci := 0) rfl rfl 3 (by decide) gw_290 rfl d_LV_dropPages_59 ?_
  refine ev_callBT (rc := (f_Map_update d f w m)) (ou := ouV) (Hs := (fun z => (eLV :: (HD z (HF f (HW w (HM m (HS s (HG g tl))))))))) (inv_V (q := 8) (av := []) (rest := []) rfl (ci := 4) rfl d_LV_dropPages_62 gw_829 gw_830 gw_831 mw_Map_update nh_Map_update pn_Map_update rfl) d_LV_dropPages_62 pl_Map_update (Nat.le_of_ble_eq_true rfl) (Nat.le_of_ble_eq_true rfl) (Nat.le_of_ble_eq_true rfl) (e_f_Map_update (e0 := eLV) (tl := (HS s (HG g tl)))  d f w m ) (fun _ => (len1 (lenHD (lenHF (lenHW (lenHM (lenHS (lenHG rfl)))))))) rfl (fun x z h1 => ?_) (fun v z h1 => ⟨_, rfl, ?_⟩)
  · rfl
  · exact ev_pick [] rfl (e_B_LV_dropPages_65     z f w m s g)
def B_LV_dropPages_49   (d : DS) (f : FS) (w : WS) (m : MS) (s : SS) (g : GS) (x1 : Int32) (x6 : Int32) : Option ((Nat ⊕ Unit) × (DS × FS × MS × GS)) :=
  thM (f_LV_writeHint d f w m s g x1 x6 x6) (fun x z => some (.inl x, (z, f, m, g))) (fun v z => B_LV_dropPages_58   z f w m s g)
theorem e_B_LV_dropPages_49 {sc : Nat × (Nat → Int32)} {tl : List mn_E}    (d : DS) (f : FS) (w : WS) (m : MS) (s : SS) (g : GS) (x1 : Int32) (x6 : Int32) : Ev sc 9 120 0 0 M_LV_dropPages 49 [(0, .ref 0), (1, .int x1), (6, .int x6)] [] (eLV :: (HD d (HF f (HW w (HM m (HS s (HG g tl))))))) (mapR ouVT (fun z => (eLV :: (HD z.1 (HF z.2.1 (HW w (HM z.2.2.1 (HS s (HG z.2.2.2 tl)))))))) (B_LV_dropPages_49 d f w m s g x1 x6)) := by
  unfold B_LV_dropPages_49
  refine ev_aload_n d_LV_dropPages_49 rfl rfl ?_
  refine ev_iload_n d_LV_dropPages_50 rfl rfl ?_
  refine ev_iload d_LV_dropPages_51 rfl ?_
  refine ev_iload d_LV_dropPages_53 rfl ?_
  refine ev_callT (q := (f_LV_writeHint d f w m s g x1 x6 x6)) (ou := ouV) (Hs := (fun z => (eLV :: (HD z (HF f (HW w (HM m (HS s (HG g tl))))))))) (inv_V (q := 0) (av := [.int x1, .int x6, .int x6]) (rest := []) rfl (ci := 0) rfl d_LV_dropPages_55 gw_825 gw_827 gw_38 mw_LV_writeHint nh_LV_writeHint pn_LV_writeHint rfl) d_LV_dropPages_55 pl_LV_writeHint (Nat.le_of_ble_eq_true rfl) (Nat.le_of_ble_eq_true rfl) (Nat.le_of_ble_eq_true rfl) (e_f_LV_writeHint (tl := tl)  d f w m s g x1 x6 x6) (fun _ => (len1 (lenHD (lenHF (lenHW (lenHM (lenHS (lenHG rfl)))))))) rfl (fun x z h1 => ?_) (fun v z h1 => ⟨_, rfl, ?_⟩)
  · rw [h1]; rfl
  · rw [h1]
    exact ev_pick [0] rfl (e_B_LV_dropPages_58     z f w m s g)
def B_LV_dropPages_39   (d : DS) (f : FS) (w : WS) (m : MS) (s : SS) (g : GS) (x1 : Int32) (x3 : Int32) (x6 : Int32) : Option ((Nat ⊕ Unit) × (DS × FS × MS × GS)) :=
  bnd (f_Disk_endFileAt d x6 x3) (fun q => B_LV_dropPages_49   q.2 f w m s g x1 x6)
theorem e_B_LV_dropPages_39 {sc : Nat × (Nat → Int32)} {tl : List mn_E}    (d : DS) (f : FS) (w : WS) (m : MS) (s : SS) (g : GS) (x1 : Int32) (x3 : Int32) (x6 : Int32) : Ev sc 9 120 0 0 M_LV_dropPages 39 [(0, .ref 0), (1, .int x1), (3, .int x3), (6, .int x6)] [] (eLV :: (HD d (HF f (HW w (HM m (HS s (HG g tl))))))) (mapR ouVT (fun z => (eLV :: (HD z.1 (HF z.2.1 (HW w (HM z.2.2.1 (HS s (HG z.2.2.2 tl)))))))) (B_LV_dropPages_39 d f w m s g x1 x3 x6)) := by
  unfold B_LV_dropPages_39
  refine ev_aload_n d_LV_dropPages_39 rfl rfl ?_
  refine ev_get (v := .ref 1) gi_LV (ci := 0) rfl rfl 0 (by decide) gw_287 rfl d_LV_dropPages_40 ?_
  refine ev_iload d_LV_dropPages_43 rfl ?_
  refine ev_iload_n d_LV_dropPages_45 rfl rfl ?_
  refine ev_callB (rc := (f_Disk_endFileAt d x6 x3)) (ou := ouV) (Hs := (fun z => (eLV :: (HD z (HF f (HW w (HM m (HS s (HG g tl))))))))) (inv_V (q := 1) (av := [.int x6, .int x3]) (rest := []) rfl (ci := 1) rfl d_LV_dropPages_46 gw_944 gw_945 gw_946 mw_Disk_endFileAt nh_Disk_endFileAt pn_Disk_endFileAt rfl) d_LV_dropPages_46 pl_Disk_endFileAt (Nat.le_of_ble_eq_true rfl) (Nat.le_of_ble_eq_true rfl) (Nat.le_of_ble_eq_true rfl) (e_f_Disk_endFileAt (e0 := eLV) (tl := (HF f (HW w (HM m (HS s (HG g tl))))))  d x6 x3) (fun _ => (len1 (lenHD (lenHF (lenHW (lenHM (lenHS (lenHG rfl)))))))) (fun v z h1 => ⟨_, rfl, ?_⟩)
  exact ev_pick [0, 1, 3] rfl (e_B_LV_dropPages_49     z f w m s g x1 x6)
def B_LV_dropPages_32   (d : DS) (f : FS) (w : WS) (m : MS) (s : SS) (g : GS) (x1 : Int32) (x3 : Int32) (x6 : Int32) : Option ((Nat ⊕ Unit) × (DS × FS × MS × GS)) :=
  thM (f_Disk_spendWrite d) (fun x z => some (.inl x, (z, f, m, g))) (fun v z => B_LV_dropPages_39   z f w m s g x1 x3 x6)
theorem e_B_LV_dropPages_32 {sc : Nat × (Nat → Int32)} {tl : List mn_E}    (d : DS) (f : FS) (w : WS) (m : MS) (s : SS) (g : GS) (x1 : Int32) (x3 : Int32) (x6 : Int32) : Ev sc 9 120 0 0 M_LV_dropPages 32 [(0, .ref 0), (1, .int x1), (3, .int x3), (6, .int x6)] [] (eLV :: (HD d (HF f (HW w (HM m (HS s (HG g tl))))))) (mapR ouVT (fun z => (eLV :: (HD z.1 (HF z.2.1 (HW w (HM z.2.2.1 (HS s (HG z.2.2.2 tl)))))))) (B_LV_dropPages_32 d f w m s g x1 x3 x6)) := by
  unfold B_LV_dropPages_32
  refine ev_aload_n d_LV_dropPages_32 rfl rfl ?_
  refine ev_get (v := .ref 1) gi_LV (ci := 0) rfl rfl 0 (by decide) gw_287 rfl d_LV_dropPages_33 ?_
  refine ev_callT (q := (f_Disk_spendWrite d)) (ou := ouV) (Hs := (fun z => (eLV :: (HD z (HF f (HW w (HM m (HS s (HG g tl))))))))) (inv_V (q := 1) (av := []) (rest := []) rfl (ci := 1) rfl d_LV_dropPages_36 gw_790 gw_791 gw_792 mw_Disk_spendWrite nh_Disk_spendWrite pn_Disk_spendWrite rfl) d_LV_dropPages_36 pl_Disk_spendWrite (Nat.le_of_ble_eq_true rfl) (Nat.le_of_ble_eq_true rfl) (Nat.le_of_ble_eq_true rfl) (e_f_Disk_spendWrite (e0 := eLV) (tl := (HF f (HW w (HM m (HS s (HG g tl))))))  d ) (fun _ => (len1 (lenHD (lenHF (lenHW (lenHM (lenHS (lenHG rfl)))))))) rfl (fun x z h1 => ?_) (fun v z h1 => ⟨_, rfl, ?_⟩)
  · rw [h1]; rfl
  · rw [h1]
    exact ev_pick [0, 1, 2, 3] rfl (e_B_LV_dropPages_39     z f w m s g x1 x3 x6)
def B_LV_dropPages_26   (d : DS) (f : FS) (w : WS) (m : MS) (s : SS) (g : GS) (x1 : Int32) (x3 : Int32) (x5 : Int32) (x6 : Int32) : Option ((Nat ⊕ Unit) × (DS × FS × MS × GS)) :=
  bnd (f_LV_freeGathered d f w m s g x5) (fun q => thM q (fun x z => some (.inl x, (z.1, f, z.2, g))) (fun v z => B_LV_dropPages_32   z.1 f w z.2 s g x1 x3 x6))
theorem e_B_LV_dropPages_26 {sc : Nat × (Nat → Int32)} {tl : List mn_E}    (d : DS) (f : FS) (w : WS) (m : MS) (s : SS) (g : GS) (x1 : Int32) (x3 : Int32) (x5 : Int32) (x6 : Int32) : Ev sc 9 120 0 0 M_LV_dropPages 26 [(0, .ref 0), (1, .int x1), (3, .int x3), (5, .int x5), (6, .int x6)] [] (eLV :: (HD d (HF f (HW w (HM m (HS s (HG g tl))))))) (mapR ouVT (fun z => (eLV :: (HD z.1 (HF z.2.1 (HW w (HM z.2.2.1 (HS s (HG z.2.2.2 tl)))))))) (B_LV_dropPages_26 d f w m s g x1 x3 x5 x6)) := by
  unfold B_LV_dropPages_26
  refine ev_aload_n d_LV_dropPages_26 rfl rfl ?_
  refine ev_iload d_LV_dropPages_27 rfl ?_
  refine ev_callBT (rc := (f_LV_freeGathered d f w m s g x5)) (ou := ouV) (Hs := (fun z => (eLV :: (HD z.1 (HF f (HW w (HM z.2 (HS s (HG g tl))))))))) (inv_V (q := 0) (av := [.int x5]) (rest := []) rfl (ci := 0) rfl d_LV_dropPages_29 gw_935 gw_937 gw_47 mw_LV_freeGathered nh_LV_freeGathered pn_LV_freeGathered rfl) d_LV_dropPages_29 pl_LV_freeGathered (Nat.le_of_ble_eq_true rfl) (Nat.le_of_ble_eq_true rfl) (Nat.le_of_ble_eq_true rfl) (e_f_LV_freeGathered (tl := tl)  d f w m s g x5) (fun _ => (len1 (lenHD (lenHF (lenHW (lenHM (lenHS (lenHG rfl)))))))) rfl (fun x z h1 => ?_) (fun v z h1 => ⟨_, rfl, ?_⟩)
  · rfl
  · exact ev_pick [0, 1, 2, 4] rfl (e_B_LV_dropPages_32     z.1 f w z.2 s g x1 x3 x6)
def B_LV_dropPages_17   (d : DS) (f : FS) (w : WS) (m : MS) (s : SS) (g : GS) (x1 : Int32) (x3 : Int32) (x5 : Int32) (t0 : Int32) : Option ((Nat ⊕ Unit) × (DS × FS × MS × GS)) :=
  bnd (f_Map_find d f w m) (fun q => B_LV_dropPages_26   q.2.1 q.2.2.1 w q.2.2.2 s g x1 x3 x5 t0)
theorem e_B_LV_dropPages_17 {sc : Nat × (Nat → Int32)} {tl : List mn_E}    (d : DS) (f : FS) (w : WS) (m : MS) (s : SS) (g : GS) (x1 : Int32) (x3 : Int32) (x5 : Int32) (t0 : Int32) : Ev sc 9 120 0 0 M_LV_dropPages 17 [(0, .ref 0), (1, .int x1), (3, .int x3), (5, .int x5)] [.int t0] (eLV :: (HD d (HF f (HW w (HM m (HS s (HG g tl))))))) (mapR ouVT (fun z => (eLV :: (HD z.1 (HF z.2.1 (HW w (HM z.2.2.1 (HS s (HG z.2.2.2 tl)))))))) (B_LV_dropPages_17 d f w m s g x1 x3 x5 t0)) := by
  unfold B_LV_dropPages_17
  refine ev_istore d_LV_dropPages_17 (by decide) rfl ?_
  refine ev_aload_n d_LV_dropPages_19 rfl rfl ?_
  refine ev_get (v := .ref 8) gi_LV (ci := 0) rfl rfl 3 (by decide) gw_290 rfl d_LV_dropPages_20 ?_
  refine ev_callB (rc := (f_Map_find d f w m)) (ou := ouV) (Hs := (fun z => (eLV :: (HD z.1 (HF z.2.1 (HW w (HM z.2.2 (HS s (HG g tl))))))))) (inv_V (q := 8) (av := []) (rest := []) rfl (ci := 4) rfl d_LV_dropPages_23 gw_934 gw_758 gw_759 mw_Map_find nh_Map_find pn_Map_find rfl) d_LV_dropPages_23 pl_Map_find (Nat.le_of_ble_eq_true rfl) (Nat.le_of_ble_eq_true rfl) (Nat.le_of_ble_eq_true rfl) (e_f_Map_find (e0 := eLV) (tl := (HS s (HG g tl)))  d f w m ) (fun _ => (len1 (lenHD (lenHF (lenHW (lenHM (lenHS (lenHG rfl)))))))) (fun v z h1 => ⟨_, rfl, ?_⟩)
  exact ev_pick [1, 2, 3, 4, 0] rfl (e_B_LV_dropPages_26     z.1 z.2.1 w z.2.2 s g x1 x3 x5 t0)
def B_LV_dropPages_7   (d : DS) (f : FS) (w : WS) (m : MS) (s : SS) (g : GS) (x1 : Int32) (x3 : Int32) (t0 : Int32) : Option ((Nat ⊕ Unit) × (DS × FS × MS × GS)) :=
  bnd (f_LV_gatheredPage d f w m s g (t0 - 1)) (fun q => B_LV_dropPages_17   d f w m s g x1 x3 (t0 - 1) q.1)
theorem e_B_LV_dropPages_7 {sc : Nat × (Nat → Int32)} {tl : List mn_E}    (d : DS) (f : FS) (w : WS) (m : MS) (s : SS) (g : GS) (x1 : Int32) (x3 : Int32) (t0 : Int32) : Ev sc 9 120 0 0 M_LV_dropPages 7 [(0, .ref 0), (1, .int x1), (3, .int x3)] [.int t0] (eLV :: (HD d (HF f (HW w (HM m (HS s (HG g tl))))))) (mapR ouVT (fun z => (eLV :: (HD z.1 (HF z.2.1 (HW w (HM z.2.2.1 (HS s (HG z.2.2.2 tl)))))))) (B_LV_dropPages_7 d f w m s g x1 x3 t0)) := by
  unfold B_LV_dropPages_7
  refine ev_iconst (v := 1) d_LV_dropPages_7 rfl ?_
  refine ev_isub d_LV_dropPages_8 ?_
  refine ev_istore d_LV_dropPages_9 (by decide) rfl ?_
  refine ev_aload_n d_LV_dropPages_11 rfl rfl ?_
  refine ev_iload d_LV_dropPages_12 rfl ?_
  refine ev_callB (rc := (f_LV_gatheredPage d f w m s g (t0 - 1))) (ou := ouI) (Hs := (fun z => (eLV :: (HD d (HF f (HW w (HM m (HS s (HG g tl))))))))) (inv_V (q := 0) (av := [.int (t0 - 1)]) (rest := []) rfl (ci := 0) rfl d_LV_dropPages_14 gw_930 gw_932 gw_46 mw_LV_gatheredPage nh_LV_gatheredPage pn_LV_gatheredPage rfl) d_LV_dropPages_14 pl_LV_gatheredPage (Nat.le_of_ble_eq_true rfl) (Nat.le_of_ble_eq_true rfl) (Nat.le_of_ble_eq_true rfl) (e_f_LV_gatheredPage (tl := tl)  d f w m s g (t0 - 1)) (fun _ => (len1 (lenHD (lenHF (lenHW (lenHM (lenHS (lenHG rfl)))))))) (fun v z h1 => ⟨_, rfl, ?_⟩)
  exact ev_pick [1, 2, 3, 0] rfl (e_B_LV_dropPages_17     d f w m s g x1 x3 (t0 - 1) v)
def f_LV_dropPages   (d : DS) (f : FS) (w : WS) (m : MS) (s : SS) (g : GS) (x1 : Int32) (x2 : Int32) (x3 : Int32) (x4 : Int32) : Option ((Nat ⊕ Unit) × (DS × FS × MS × GS)) :=
  bnd (f_LV_gatherPages d f w m s g x2 x4) (fun q => thM q (fun x z => some (.inl x, (z.1, f, m, z.2))) (fun v z => B_LV_dropPages_7   z.1 f w m s z.2 x1 x3 v))
theorem e_f_LV_dropPages {sc : Nat × (Nat → Int32)} {tl : List mn_E}    (d : DS) (f : FS) (w : WS) (m : MS) (s : SS) (g : GS) (x1 : Int32) (x2 : Int32) (x3 : Int32) (x4 : Int32) : Ev sc 9 120 0 0 M_LV_dropPages 0 [(0, .ref 0), (1, .int x1), (2, .int x2), (3, .int x3), (4, .int x4)] [] (eLV :: (HD d (HF f (HW w (HM m (HS s (HG g tl))))))) (mapR ouVT (fun z => (eLV :: (HD z.1 (HF z.2.1 (HW w (HM z.2.2.1 (HS s (HG z.2.2.2 tl)))))))) (f_LV_dropPages d f w m s g x1 x2 x3 x4)) := by
  unfold f_LV_dropPages
  refine ev_aload_n d_LV_dropPages_0 rfl rfl ?_
  refine ev_iload_n d_LV_dropPages_1 rfl rfl ?_
  refine ev_iload d_LV_dropPages_2 rfl ?_
  refine ev_callBT (rc := (f_LV_gatherPages d f w m s g x2 x4)) (ou := ouI) (Hs := (fun z => (eLV :: (HD z.1 (HF f (HW w (HM m (HS s (HG z.2 tl))))))))) (inv_V (q := 0) (av := [.int x2, .int x4]) (rest := []) rfl (ci := 0) rfl d_LV_dropPages_4 gw_925 gw_927 gw_45 mw_LV_gatherPages nh_LV_gatherPages pn_LV_gatherPages rfl) d_LV_dropPages_4 pl_LV_gatherPages (Nat.le_of_ble_eq_true rfl) (Nat.le_of_ble_eq_true rfl) (Nat.le_of_ble_eq_true rfl) (e_f_LV_gatherPages (tl := tl)  d f w m s g x2 x4) (fun _ => (len1 (lenHD (lenHF (lenHW (lenHM (lenHS (lenHG rfl)))))))) rfl (fun x z h1 => ?_) (fun v z h1 => ⟨_, rfl, ?_⟩)
  · rfl
  · exact ev_pick [0, 1, 3] rfl (e_B_LV_dropPages_7     z.1 f w m s z.2 x1 x3 v)
def B_LV_shorten_44   (d : DS) (f : FS) (w : WS) (m : MS) (s : SS) (g : GS) : Option ((Nat ⊕ Unit) × (DS × FS × MS × GS)) :=
  some (.inl 5, (d, f, m, g))
theorem e_B_LV_shorten_44 {sc : Nat × (Nat → Int32)} {tl : List mn_E}    (d : DS) (f : FS) (w : WS) (m : MS) (s : SS) (g : GS) : Ev sc 10 138 0 0 M_LV_shorten 44 [] [] (eLV :: (HD d (HF f (HW w (HM m (HS s (HG g tl))))))) (mapR ouVT (fun z => (eLV :: (HD z.1 (HF z.2.1 (HW w (HM z.2.2.1 (HS s (HG z.2.2.2 tl)))))))) (B_LV_shorten_44 d f w m s g)) := by
  unfold B_LV_shorten_44
  exact ev_throw (x := 5) (names := gd_up) d_LV_shorten_44 d_LV_shorten_47 d_LV_shorten_48 d_LV_shorten_51 gw_880 gw_881 gw_116 tw_LV_125 (by decide +kernel) (by decide +kernel) rfl (by decide) (Nat.le_of_ble_eq_true rfl)
def B_LV_shorten_95   (d : DS) (f : FS) (w : WS) (m : MS) (s : SS) (g : GS) : Option ((Nat ⊕ Unit) × (DS × FS × MS × GS)) :=
  some (.inr (), (d, f, m, g))
theorem e_B_LV_shorten_95 {sc : Nat × (Nat → Int32)} {tl : List mn_E}    (d : DS) (f : FS) (w : WS) (m : MS) (s : SS) (g : GS) : Ev sc 10 138 0 0 M_LV_shorten 95 [] [] (eLV :: (HD d (HF f (HW w (HM m (HS s (HG g tl))))))) (mapR ouVT (fun z => (eLV :: (HD z.1 (HF z.2.1 (HW w (HM z.2.2.1 (HS s (HG z.2.2.2 tl)))))))) (B_LV_shorten_95 d f w m s g)) := by
  unfold B_LV_shorten_95
  exact ev_vret rfl d_LV_shorten_95
def B_LV_shorten_113   (d : DS) (f : FS) (w : WS) (m : MS) (s : SS) (g : GS) : Option ((Nat ⊕ Unit) × (DS × FS × MS × GS)) :=
  some (.inr (), (d, f, m, g))
theorem e_B_LV_shorten_113 {sc : Nat × (Nat → Int32)} {tl : List mn_E}    (d : DS) (f : FS) (w : WS) (m : MS) (s : SS) (g : GS) : Ev sc 10 138 0 0 M_LV_shorten 113 [] [] (eLV :: (HD d (HF f (HW w (HM m (HS s (HG g tl))))))) (mapR ouVT (fun z => (eLV :: (HD z.1 (HF z.2.1 (HW w (HM z.2.2.1 (HS s (HG z.2.2.2 tl)))))))) (B_LV_shorten_113 d f w m s g)) := by
  unfold B_LV_shorten_113
  exact ev_vret rfl d_LV_shorten_113
def B_LV_shorten_103   (d : DS) (f : FS) (w : WS) (m : MS) (s : SS) (g : GS) (x2 : Int32) (x4 : Int32) : Option ((Nat ⊕ Unit) × (DS × FS × MS × GS)) :=
  bnd (f_Disk_endFileAt d x4 x2) (fun q => B_LV_shorten_113   q.2 f w m s g)
theorem e_B_LV_shorten_103 {sc : Nat × (Nat → Int32)} {tl : List mn_E}    (d : DS) (f : FS) (w : WS) (m : MS) (s : SS) (g : GS) (x2 : Int32) (x4 : Int32) : Ev sc 10 138 0 0 M_LV_shorten 103 [(0, .ref 0), (2, .int x2), (4, .int x4)] [] (eLV :: (HD d (HF f (HW w (HM m (HS s (HG g tl))))))) (mapR ouVT (fun z => (eLV :: (HD z.1 (HF z.2.1 (HW w (HM z.2.2.1 (HS s (HG z.2.2.2 tl)))))))) (B_LV_shorten_103 d f w m s g x2 x4)) := by
  unfold B_LV_shorten_103
  refine ev_aload_n d_LV_shorten_103 rfl rfl ?_
  refine ev_get (v := .ref 1) gi_LV (ci := 0) rfl rfl 0 (by decide) gw_287 rfl d_LV_shorten_104 ?_
  refine ev_iload d_LV_shorten_107 rfl ?_
  refine ev_iload_n d_LV_shorten_109 rfl rfl ?_
  refine ev_callB (rc := (f_Disk_endFileAt d x4 x2)) (ou := ouV) (Hs := (fun z => (eLV :: (HD z (HF f (HW w (HM m (HS s (HG g tl))))))))) (inv_V (q := 1) (av := [.int x4, .int x2]) (rest := []) rfl (ci := 1) rfl d_LV_shorten_110 gw_944 gw_945 gw_946 mw_Disk_endFileAt nh_Disk_endFileAt pn_Disk_endFileAt rfl) d_LV_shorten_110 pl_Disk_endFileAt (Nat.le_of_ble_eq_true rfl) (Nat.le_of_ble_eq_true rfl) (Nat.le_of_ble_eq_true rfl) (e_f_Disk_endFileAt (e0 := eLV) (tl := (HF f (HW w (HM m (HS s (HG g tl))))))  d x4 x2) (fun _ => (len1 (lenHD (lenHF (lenHW (lenHM (lenHS (lenHG rfl)))))))) (fun v z h1 => ⟨_, rfl, ?_⟩)
  exact ev_pick [] rfl (e_B_LV_shorten_113     z f w m s g)
def B_LV_shorten_21   (d : DS) (f : FS) (w : WS) (m : MS) (s : SS) (g : GS) (x2 : Int32) (x3 : Int32) (t0 : Int32) : Option ((Nat ⊕ Unit) × (DS × FS × MS × GS)) :=
  if x2 < 0 then (B_LV_shorten_44   d f w m s g) else (if x2 ≤ ((f_Disk_lengthUpTo d t0).1) then (if ¬ x2 = ((f_Disk_lengthUpTo d t0).1) then (if (xCell d t0 1) ≤ (((x2 + 8) - 1) / 8) then (thM (f_Disk_spendWrite d) (fun x z => some (.inl x, (z, f, m, g))) (fun v z => B_LV_shorten_103   z f w m s g x2 t0)) else (bnd (f_LV_dropPages d f w m s g x3 t0 x2 (((x2 + 8) - 1) / 8)) (fun q => thM q (fun x z => some (.inl x, (z.1, z.2.1, z.2.2.1, z.2.2.2))) (fun v z => B_LV_shorten_95   z.1 z.2.1 w z.2.2.1 s z.2.2.2)))) else (some (.inr (), (d, f, m, g)))) else (B_LV_shorten_44   d f w m s g))
theorem e_B_LV_shorten_21 {sc : Nat × (Nat → Int32)} {tl : List mn_E}    (d : DS) (f : FS) (w : WS) (m : MS) (s : SS) (g : GS) (x2 : Int32) (x3 : Int32) (t0 : Int32) : Ev sc 10 138 0 0 M_LV_shorten 21 [(0, .ref 0), (2, .int x2), (3, .int x3)] [.int t0] (eLV :: (HD d (HF f (HW w (HM m (HS s (HG g tl))))))) (mapR ouVT (fun z => (eLV :: (HD z.1 (HF z.2.1 (HW w (HM z.2.2.1 (HS s (HG z.2.2.2 tl)))))))) (B_LV_shorten_21 d f w m s g x2 x3 t0)) := by
  unfold B_LV_shorten_21
  refine ev_istore d_LV_shorten_21 (by decide) rfl ?_
  refine ev_aload_n d_LV_shorten_23 rfl rfl ?_
  refine ev_get (v := .ref 1) gi_LV (ci := 0) rfl rfl 0 (by decide) gw_287 rfl d_LV_shorten_24 ?_
  refine ev_iload d_LV_shorten_27 rfl ?_
  refine ev_callr (Mc := M_Disk_lengthUpTo) (v := some (.int ((f_Disk_lengthUpTo d t0).1))) (h1 := (eLV :: (HD d (HF f (HW w (HM m (HS s (HG g tl)))))))) (k2 := 0) (n2 := 0) (inv_V (q := 1) (av := [.int t0]) (rest := []) rfl (ci := 1) rfl d_LV_shorten_29 gw_876 gw_877 gw_878 mw_Disk_lengthUpTo nh_Disk_lengthUpTo pn_Disk_lengthUpTo rfl) d_LV_shorten_29 pl_Disk_lengthUpTo (Nat.le_of_ble_eq_true rfl) (Nat.le_of_ble_eq_true rfl) (Nat.le_of_ble_eq_true rfl) rfl rfl (e_f_Disk_lengthUpTo (e0 := eLV) (tl := (HF f (HW w (HM m (HS s (HG g tl))))))  d t0) (Or.inl (len1 (lenHD (lenHF (lenHW (lenHM (lenHS (lenHG rfl)))))))) ?_
  refine ev_istore d_LV_shorten_32 (by decide) rfl ?_
  refine ev_iload_n d_LV_shorten_34 rfl rfl ?_
  refine ev_if_lt (tgt := 44) d_LV_shorten_35 rfl (fun h1 => ?_) (fun h1 => ?_)
  · rw [if_pos h1]
    exact ev_pick [] rfl (e_B_LV_shorten_44     d f w m s g)
  · rw [if_neg h1]
    refine ev_iload_n d_LV_shorten_38 rfl rfl ?_
    refine ev_iload d_LV_shorten_39 rfl ?_
    refine ev_icmp_le (tgt := 52) d_LV_shorten_41 rfl (fun h2 => ?_) (fun h2 => ?_)
    · rw [if_pos h2]
      refine ev_iload_n d_LV_shorten_52 rfl rfl ?_
      refine ev_iload d_LV_shorten_53 rfl ?_
      refine ev_icmp_ne (tgt := 59) d_LV_shorten_55 rfl (fun h3 => ?_) (fun h3 => ?_)
      · rw [if_pos h3]
        refine ev_iload_n d_LV_shorten_59 rfl rfl ?_
        refine ev_bipush (v := 8) d_LV_shorten_60 rfl ?_
        refine ev_iadd d_LV_shorten_62 ?_
        refine ev_iconst (v := 1) d_LV_shorten_63 rfl ?_
        refine ev_isub d_LV_shorten_64 ?_
        refine ev_bipush (v := 8) d_LV_shorten_65 rfl ?_
        refine ev_idiv d_LV_shorten_67 (by decide) ?_
        refine ev_istore d_LV_shorten_68 (by decide) rfl ?_
        refine ev_aload_n d_LV_shorten_70 rfl rfl ?_
        refine ev_get (v := .ref 1) gi_LV (ci := 0) rfl rfl 0 (by decide) gw_287 rfl d_LV_shorten_71 ?_
        refine ev_iload d_LV_shorten_74 rfl ?_
        refine ev_iconst (v := 1) d_LV_shorten_76 rfl ?_
        refine ev_callr (Mc := M_Disk_cell) (v := some (.int (xCell d t0 1))) (h1 := (eLV :: (HD d (HF f (HW w (HM m (HS s (HG g tl)))))))) (k2 := 0) (n2 := 0) (inv_V (q := 1) (av := [.int t0, .int 1]) (rest := []) rfl (ci := 1) rfl d_LV_shorten_77 gw_531 gw_198 gw_199 mw_Disk_cell nh_Disk_cell pn_Disk_cell rfl) d_LV_shorten_77 pl_Disk_cell (Nat.le_of_ble_eq_true rfl) (Nat.le_of_ble_eq_true rfl) (Nat.le_of_ble_eq_true rfl) rfl rfl (c_Disk_cell (e0 := eLV) (tl := (HF f (HW w (HM m (HS s (HG g tl))))))  d t0 1) (Or.inl (len1 (lenHD (lenHF (lenHW (lenHM (lenHS (lenHG rfl)))))))) ?_
        refine ev_iload d_LV_shorten_80 rfl ?_
        refine ev_icmp_le (tgt := 96) d_LV_shorten_82 rfl (fun h4 => ?_) (fun h4 => ?_)
        · rw [if_pos h4]
          refine ev_aload_n d_LV_shorten_96 rfl rfl ?_
          refine ev_get (v := .ref 1) gi_LV (ci := 0) rfl rfl 0 (by decide) gw_287 rfl d_LV_shorten_97 ?_
          refine ev_callT (q := (f_Disk_spendWrite d)) (ou := ouV) (Hs := (fun z => (eLV :: (HD z (HF f (HW w (HM m (HS s (HG g tl))))))))) (inv_V (q := 1) (av := []) (rest := []) rfl (ci := 1) rfl d_LV_shorten_100 gw_790 gw_791 gw_792 mw_Disk_spendWrite nh_Disk_spendWrite pn_Disk_spendWrite rfl) d_LV_shorten_100 pl_Disk_spendWrite (Nat.le_of_ble_eq_true rfl) (Nat.le_of_ble_eq_true rfl) (Nat.le_of_ble_eq_true rfl) (e_f_Disk_spendWrite (e0 := eLV) (tl := (HF f (HW w (HM m (HS s (HG g tl))))))  d ) (fun _ => (len1 (lenHD (lenHF (lenHW (lenHM (lenHS (lenHG rfl)))))))) rfl (fun x z h5 => ?_) (fun v z h5 => ⟨_, rfl, ?_⟩)
          · rw [h5]; rfl
          · rw [h5]
            exact ev_pick [3, 4, 2] rfl (e_B_LV_shorten_103     z f w m s g x2 t0)
        · rw [if_neg h4]
          refine ev_aload_n d_LV_shorten_85 rfl rfl ?_
          refine ev_iload_n d_LV_shorten_86 rfl rfl ?_
          refine ev_iload d_LV_shorten_87 rfl ?_
          refine ev_iload_n d_LV_shorten_89 rfl rfl ?_
          refine ev_iload d_LV_shorten_90 rfl ?_
          refine ev_callBT (rc := (f_LV_dropPages d f w m s g x3 t0 x2 (((x2 + 8) - 1) / 8))) (ou := ouV) (Hs := (fun z => (eLV :: (HD z.1 (HF z.2.1 (HW w (HM z.2.2.1 (HS s (HG z.2.2.2 tl))))))))) (inv_V (q := 0) (av := [.int x3, .int t0, .int x2, .int (((x2 + 8) - 1) / 8)]) (rest := []) rfl (ci := 0) rfl d_LV_shorten_92 gw_921 gw_923 gw_44 mw_LV_dropPages nh_LV_dropPages pn_LV_dropPages rfl) d_LV_shorten_92 pl_LV_dropPages (Nat.le_of_ble_eq_true rfl) (Nat.le_of_ble_eq_true rfl) (Nat.le_of_ble_eq_true rfl) (e_f_LV_dropPages (tl := tl)  d f w m s g x3 t0 x2 (((x2 + 8) - 1) / 8)) (fun _ => (len1 (lenHD (lenHF (lenHW (lenHM (lenHS (lenHG rfl)))))))) rfl (fun x z h6 => ?_) (fun v z h6 => ⟨_, rfl, ?_⟩)
          · rfl
          · exact ev_pick [] rfl (e_B_LV_shorten_95     z.1 z.2.1 w z.2.2.1 s z.2.2.2)
      · rw [if_neg h3]
        exact ev_vret rfl d_LV_shorten_58
    · rw [if_neg h2]
      exact ev_pick [] rfl (e_B_LV_shorten_44     d f w m s g)
def B_LV_shorten_18   (d : DS) (f : FS) (w : WS) (m : MS) (s : SS) (g : GS) (x2 : Int32) (x3 : Int32) (t0 : Int32) : Option ((Nat ⊕ Unit) × (DS × FS × MS × GS)) :=
  thM (f_LV_unbroken t0) (fun x z => some (.inl x, (d, f, m, g))) (fun v z => B_LV_shorten_21   d f w m s g x2 x3 v)
theorem e_B_LV_shorten_18 {sc : Nat × (Nat → Int32)} {tl : List mn_E}    (d : DS) (f : FS) (w : WS) (m : MS) (s : SS) (g : GS) (x2 : Int32) (x3 : Int32) (t0 : Int32) : Ev sc 10 138 0 0 M_LV_shorten 18 [(0, .ref 0), (2, .int x2), (3, .int x3)] [.int t0] (eLV :: (HD d (HF f (HW w (HM m (HS s (HG g tl))))))) (mapR ouVT (fun z => (eLV :: (HD z.1 (HF z.2.1 (HW w (HM z.2.2.1 (HS s (HG z.2.2.2 tl)))))))) (B_LV_shorten_18 d f w m s g x2 x3 t0)) := by
  unfold B_LV_shorten_18
  refine ev_callT (q := (f_LV_unbroken t0)) (ou := ouI) (Hs := (fun z => (eLV :: (HD d (HF f (HW w (HM m (HS s (HG g tl))))))))) (inv_S (av := [.int t0]) (rest := []) d_LV_shorten_18 gw_875 gw_713 gw_102 mw_LV_unbroken nh_LV_unbroken pn_LV_unbroken rfl) d_LV_shorten_18 pl_LV_unbroken (Nat.le_of_ble_eq_true rfl) (Nat.le_of_ble_eq_true rfl) (Nat.le_of_ble_eq_true rfl) (e_f_LV_unbroken (hh := (eLV :: (HD d (HF f (HW w (HM m (HS s (HG g tl))))))))   t0) (fun _ => (len1 (lenHD (lenHF (lenHW (lenHM (lenHS (lenHG rfl)))))))) rfl (fun x z h1 => ?_) (fun v z h1 => ⟨_, rfl, ?_⟩)
  · rw [h1]; rfl
  · rw [h1]
    exact ev_pick [0, 1, 2] rfl (e_B_LV_shorten_21     d f w m s g x2 x3 v)
def B_LV_shorten_9   (d : DS) (f : FS) (w : WS) (m : MS) (s : SS) (g : GS) (x2 : Int32) (t0 : Int32) : Option ((Nat ⊕ Unit) × (DS × FS × MS × GS)) :=
  bnd (f_Finder_lastOf d f t0) (fun q => B_LV_shorten_18   q.2 f w m s g x2 t0 q.1)
theorem e_B_LV_shorten_9 {sc : Nat × (Nat → Int32)} {tl : List mn_E}    (d : DS) (f : FS) (w : WS) (m : MS) (s : SS) (g : GS) (x2 : Int32) (t0 : Int32) : Ev sc 10 138 0 0 M_LV_shorten 9 [(0, .ref 0), (2, .int x2)] [.int t0] (eLV :: (HD d (HF f (HW w (HM m (HS s (HG g tl))))))) (mapR ouVT (fun z => (eLV :: (HD z.1 (HF z.2.1 (HW w (HM z.2.2.1 (HS s (HG z.2.2.2 tl)))))))) (B_LV_shorten_9 d f w m s g x2 t0)) := by
  unfold B_LV_shorten_9
  refine ev_istore_n d_LV_shorten_9 rfl (by decide) rfl ?_
  refine ev_aload_n d_LV_shorten_10 rfl rfl ?_
  refine ev_get (v := .ref 5) gi_LV (ci := 0) rfl rfl 1 (by decide) gw_288 rfl d_LV_shorten_11 ?_
  refine ev_iload_n d_LV_shorten_14 rfl rfl ?_
  refine ev_callB (rc := (f_Finder_lastOf d f t0)) (ou := ouI) (Hs := (fun z => (eLV :: (HD z (HF f (HW w (HM m (HS s (HG g tl))))))))) (inv_V (q := 5) (av := [.int t0]) (rest := []) rfl (ci := 2) rfl d_LV_shorten_15 gw_868 gw_869 gw_870 mw_Finder_lastOf nh_Finder_lastOf pn_Finder_lastOf rfl) d_LV_shorten_15 pl_Finder_lastOf (Nat.le_of_ble_eq_true rfl) (Nat.le_of_ble_eq_true rfl) (Nat.le_of_ble_eq_true rfl) (e_f_Finder_lastOf (e0 := eLV) (tl := (HW w (HM m (HS s (HG g tl)))))  d f t0) (fun _ => (len1 (lenHD (lenHF (lenHW (lenHM (lenHS (lenHG rfl)))))))) (fun v z h1 => ⟨_, rfl, ?_⟩)
  exact ev_pick [1, 2, 0] rfl (e_B_LV_shorten_18     z f w m s g x2 t0 v)
def B_LV_shorten_4   (d : DS) (f : FS) (w : WS) (m : MS) (s : SS) (g : GS) (x1 : Int32) (x2 : Int32) : Option ((Nat ⊕ Unit) × (DS × FS × MS × GS)) :=
  bnd (f_LV_requirePlainFile d f w m s g x1) (fun q => thM q (fun x z => some (.inl x, (z.1, z.2, m, g))) (fun v z => B_LV_shorten_9   z.1 z.2 w m s g x2 v))
theorem e_B_LV_shorten_4 {sc : Nat × (Nat → Int32)} {tl : List mn_E}    (d : DS) (f : FS) (w : WS) (m : MS) (s : SS) (g : GS) (x1 : Int32) (x2 : Int32) : Ev sc 10 138 0 0 M_LV_shorten 4 [(0, .ref 0), (1, .int x1), (2, .int x2)] [] (eLV :: (HD d (HF f (HW w (HM m (HS s (HG g tl))))))) (mapR ouVT (fun z => (eLV :: (HD z.1 (HF z.2.1 (HW w (HM z.2.2.1 (HS s (HG z.2.2.2 tl)))))))) (B_LV_shorten_4 d f w m s g x1 x2)) := by
  unfold B_LV_shorten_4
  refine ev_aload_n d_LV_shorten_4 rfl rfl ?_
  refine ev_iload_n d_LV_shorten_5 rfl rfl ?_
  refine ev_callBT (rc := (f_LV_requirePlainFile d f w m s g x1)) (ou := ouI) (Hs := (fun z => (eLV :: (HD z.1 (HF z.2 (HW w (HM m (HS s (HG g tl))))))))) (inv_V (q := 0) (av := [.int x1]) (rest := []) rfl (ci := 0) rfl d_LV_shorten_6 gw_906 gw_908 gw_42 mw_LV_requirePlainFile nh_LV_requirePlainFile pn_LV_requirePlainFile rfl) d_LV_shorten_6 pl_LV_requirePlainFile (Nat.le_of_ble_eq_true rfl) (Nat.le_of_ble_eq_true rfl) (Nat.le_of_ble_eq_true rfl) (e_f_LV_requirePlainFile (tl := tl)  d f w m s g x1) (fun _ => (len1 (lenHD (lenHF (lenHW (lenHM (lenHS (lenHG rfl)))))))) rfl (fun x z h1 => ?_) (fun v z h1 => ⟨_, rfl, ?_⟩)
  · rfl
  · exact ev_pick [0, 2] rfl (e_B_LV_shorten_9     z.1 z.2 w m s g x2 v)
def f_LV_shorten   (d : DS) (f : FS) (w : WS) (m : MS) (s : SS) (g : GS) (x1 : Int32) (x2 : Int32) : Option ((Nat ⊕ Unit) × (DS × FS × MS × GS)) :=
  thM (f_LV_requirePower d f w m s g) (fun x z => some (.inl x, (d, f, m, g))) (fun v z => B_LV_shorten_4   d f w m s g x1 x2)
theorem e_f_LV_shorten {sc : Nat × (Nat → Int32)} {tl : List mn_E}    (d : DS) (f : FS) (w : WS) (m : MS) (s : SS) (g : GS) (x1 : Int32) (x2 : Int32) : Ev sc 10 138 0 0 M_LV_shorten 0 [(0, .ref 0), (1, .int x1), (2, .int x2)] [] (eLV :: (HD d (HF f (HW w (HM m (HS s (HG g tl))))))) (mapR ouVT (fun z => (eLV :: (HD z.1 (HF z.2.1 (HW w (HM z.2.2.1 (HS s (HG z.2.2.2 tl)))))))) (f_LV_shorten d f w m s g x1 x2)) := by
  unfold f_LV_shorten
  refine ev_aload_n d_LV_shorten_0 rfl rfl ?_
  refine ev_callT (q := (f_LV_requirePower d f w m s g)) (ou := ouV) (Hs := (fun z => (eLV :: (HD d (HF f (HW w (HM m (HS s (HG g tl))))))))) (inv_V (q := 0) (av := []) (rest := []) rfl (ci := 0) rfl d_LV_shorten_1 gw_576 gw_578 gw_26 mw_LV_requirePower nh_LV_requirePower pn_LV_requirePower rfl) d_LV_shorten_1 pl_LV_requirePower (Nat.le_of_ble_eq_true rfl) (Nat.le_of_ble_eq_true rfl) (Nat.le_of_ble_eq_true rfl) (e_f_LV_requirePower (tl := tl)  d f w m s g ) (fun _ => (len1 (lenHD (lenHF (lenHW (lenHM (lenHS (lenHG rfl)))))))) rfl (fun x z h1 => ?_) (fun v z h1 => ⟨_, rfl, ?_⟩)
  · rw [h1]; rfl
  · rw [h1]
    exact ev_pick [0, 1, 2] rfl (e_B_LV_shorten_4     d f w m s g x1 x2)
def B_LV_remove_143   (d : DS) (f : FS) (w : WS) (m : MS) (s : SS) (g : GS) (x6 : Int32) : Option ((Nat ⊕ Int32) × (DS × FS × WS × MS × GS)) :=
  some (.inr (x6 + 1), (d, f, w, m, g))
theorem e_B_LV_remove_143 {sc : Nat × (Nat → Int32)} {tl : List mn_E}    (d : DS) (f : FS) (w : WS) (m : MS) (s : SS) (g : GS) (x6 : Int32) : Ev sc 10 139 0 0 M_LV_remove 143 [(6, .int x6)] [] (eLV :: (HD d (HF f (HW w (HM m (HS s (HG g tl))))))) (mapR ouIT (fun z => (eLV :: (HD z.1 (HF z.2.1 (HW z.2.2.1 (HM z.2.2.2.1 (HS s (HG z.2.2.2.2 tl)))))))) (B_LV_remove_143 d f w m s g x6)) := by
  unfold B_LV_remove_143
  refine ev_iload d_LV_remove_143 rfl ?_
  refine ev_iconst (v := 1) d_LV_remove_145 rfl ?_
  refine ev_iadd d_LV_remove_146 ?_
  exact ev_zret (ty := .int) rfl rfl d_LV_remove_147
def B_LV_remove_134   (d : DS) (f : FS) (w : WS) (m : MS) (s : SS) (g : GS) (x6 : Int32) (x7 : Int32) : Option ((Nat ⊕ Int32) × (DS × FS × WS × MS × GS)) :=
  bnd (f_Finder_forget d f x7) (fun q => B_LV_remove_143   d q.2 w m s g x6)
theorem e_B_LV_remove_134 {sc : Nat × (Nat → Int32)} {tl : List mn_E}    (d : DS) (f : FS) (w : WS) (m : MS) (s : SS) (g : GS) (x6 : Int32) (x7 : Int32) : Ev sc 10 139 0 0 M_LV_remove 134 [(0, .ref 0), (6, .int x6), (7, .int x7)] [] (eLV :: (HD d (HF f (HW w (HM m (HS s (HG g tl))))))) (mapR ouIT (fun z => (eLV :: (HD z.1 (HF z.2.1 (HW z.2.2.1 (HM z.2.2.2.1 (HS s (HG z.2.2.2.2 tl)))))))) (B_LV_remove_134 d f w m s g x6 x7)) := by
  unfold B_LV_remove_134
  refine ev_aload_n d_LV_remove_134 rfl rfl ?_
  refine ev_get (v := .ref 5) gi_LV (ci := 0) rfl rfl 1 (by decide) gw_288 rfl d_LV_remove_135 ?_
  refine ev_iload d_LV_remove_138 rfl ?_
  refine ev_callB (rc := (f_Finder_forget d f x7)) (ou := ouV) (Hs := (fun z => (eLV :: (HD d (HF z (HW w (HM m (HS s (HG g tl))))))))) (inv_V (q := 5) (av := [.int x7]) (rest := []) rfl (ci := 2) rfl d_LV_remove_140 gw_960 gw_319 gw_320 mw_Finder_forget nh_Finder_forget pn_Finder_forget rfl) d_LV_remove_140 pl_Finder_forget (Nat.le_of_ble_eq_true rfl) (Nat.le_of_ble_eq_true rfl) (Nat.le_of_ble_eq_true rfl) (e_f_Finder_forget (e0 := eLV) (tl := (HW w (HM m (HS s (HG g tl)))))  d f x7) (fun _ => (len1 (lenHD (lenHF (lenHW (lenHM (lenHS (lenHG rfl)))))))) (fun v z h1 => ⟨_, rfl, ?_⟩)
  exact ev_pick [1] rfl (e_B_LV_remove_143     d z w m s g x6)
def B_LV_remove_127   (d : DS) (f : FS) (w : WS) (m : MS) (s : SS) (g : GS) (x6 : Int32) (x7 : Int32) : Option ((Nat ⊕ Int32) × (DS × FS × WS × MS × GS)) :=
  bnd (f_Map_update d f w m) (fun q => thM q (fun x z => some (.inl x, (z, f, w, m, g))) (fun v z => B_LV_remove_134   z f w m s g x6 x7))
theorem e_B_LV_remove_127 {sc : Nat × (Nat → Int32)} {tl : List mn_E}    (d : DS) (f : FS) (w : WS) (m : MS) (s : SS) (g : GS) (x6 : Int32) (x7 : Int32) : Ev sc 10 139 0 0 M_LV_remove 127 [(0, .ref 0), (6, .int x6), (7, .int x7)] [] (eLV :: (HD d (HF f (HW w (HM m (HS s (HG g tl))))))) (mapR ouIT (fun z => (eLV :: (HD z.1 (HF z.2.1 (HW z.2.2.1 (HM z.2.2.2.1 (HS s (HG z.2.2.2.2 tl)))))))) (B_LV_remove_127 d f w m s g x6 x7)) := by
  unfold B_LV_remove_127
  refine ev_aload_n d_LV_remove_127 rfl rfl ?_
  refine ev_get (v := .ref 8) gi_LV (ci := 0) rfl rfl 3 (by decide) gw_290 rfl d_LV_remove_128 ?_
  refine ev_callBT (rc := (f_Map_update d f w m)) (ou := ouV) (Hs := (fun z => (eLV :: (HD z (HF f (HW w (HM m (HS s (HG g tl))))))))) (inv_V (q := 8) (av := []) (rest := []) rfl (ci := 4) rfl d_LV_remove_131 gw_829 gw_830 gw_831 mw_Map_update nh_Map_update pn_Map_update rfl) d_LV_remove_131 pl_Map_update (Nat.le_of_ble_eq_true rfl) (Nat.le_of_ble_eq_true rfl) (Nat.le_of_ble_eq_true rfl) (e_f_Map_update (e0 := eLV) (tl := (HS s (HG g tl)))  d f w m ) (fun _ => (len1 (lenHD (lenHF (lenHW (lenHM (lenHS (lenHG rfl)))))))) rfl (fun x z h1 => ?_) (fun v z h1 => ⟨_, rfl, ?_⟩)
  · rfl
  · exact ev_pick [0, 1, 2] rfl (e_B_LV_remove_134     z f w m s g x6 x7)
def B_LV_remove_119   (d : DS) (f : FS) (w : WS) (m : MS) (s : SS) (g : GS) (x3 : Int32) (x6 : Int32) (x7 : Int32) : Option ((Nat ⊕ Int32) × (DS × FS × WS × MS × GS)) :=
  thM (f_Map_release d f w m x3) (fun x z => some (.inl x, (z.1, f, w, z.2, g))) (fun v z => B_LV_remove_127   z.1 f w z.2 s g x6 x7)
theorem e_B_LV_remove_119 {sc : Nat × (Nat → Int32)} {tl : List mn_E}    (d : DS) (f : FS) (w : WS) (m : MS) (s : SS) (g : GS) (x3 : Int32) (x6 : Int32) (x7 : Int32) : Ev sc 10 139 0 0 M_LV_remove 119 [(0, .ref 0), (3, .int x3), (6, .int x6), (7, .int x7)] [] (eLV :: (HD d (HF f (HW w (HM m (HS s (HG g tl))))))) (mapR ouIT (fun z => (eLV :: (HD z.1 (HF z.2.1 (HW z.2.2.1 (HM z.2.2.2.1 (HS s (HG z.2.2.2.2 tl)))))))) (B_LV_remove_119 d f w m s g x3 x6 x7)) := by
  unfold B_LV_remove_119
  refine ev_aload_n d_LV_remove_119 rfl rfl ?_
  refine ev_get (v := .ref 8) gi_LV (ci := 0) rfl rfl 3 (by decide) gw_290 rfl d_LV_remove_120 ?_
  refine ev_iload_n d_LV_remove_123 rfl rfl ?_
  refine ev_callT (q := (f_Map_release d f w m x3)) (ou := ouV) (Hs := (fun z => (eLV :: (HD z.1 (HF f (HW w (HM z.2 (HS s (HG g tl))))))))) (inv_V (q := 8) (av := [.int x3]) (rest := []) rfl (ci := 4) rfl d_LV_remove_124 gw_939 gw_940 gw_941 mw_Map_release nh_Map_release pn_Map_release rfl) d_LV_remove_124 pl_Map_release (Nat.le_of_ble_eq_true rfl) (Nat.le_of_ble_eq_true rfl) (Nat.le_of_ble_eq_true rfl) (e_f_Map_release (e0 := eLV) (tl := (HS s (HG g tl)))  d f w m x3) (fun _ => (len1 (lenHD (lenHF (lenHW (lenHM (lenHS (lenHG rfl)))))))) rfl (fun x z h1 => ?_) (fun v z h1 => ⟨_, rfl, ?_⟩)
  · rw [h1]; rfl
  · rw [h1]
    exact ev_pick [0, 2, 3] rfl (e_B_LV_remove_127     z.1 f w z.2 s g x6 x7)
def B_LV_remove_102   (d : DS) (f : FS) (w : WS) (m : MS) (s : SS) (g : GS) (x3 : Int32) (x6 : Int32) : Option ((Nat ⊕ Int32) × (DS × FS × WS × MS × GS)) :=
  bnd (f_LV_freeGathered d f w m s g x6) (fun q => thM q (fun x z => some (.inl x, (z.1, f, w, z.2, g))) (fun v z => B_LV_remove_119   z.1 f w z.2 s g x3 x6 (xCell d x3 0)))
theorem e_B_LV_remove_102 {sc : Nat × (Nat → Int32)} {tl : List mn_E}    (d : DS) (f : FS) (w : WS) (m : MS) (s : SS) (g : GS) (x3 : Int32) (x6 : Int32) : Ev sc 10 139 0 0 M_LV_remove 102 [(0, .ref 0), (3, .int x3), (6, .int x6)] [] (eLV :: (HD d (HF f (HW w (HM m (HS s (HG g tl))))))) (mapR ouIT (fun z => (eLV :: (HD z.1 (HF z.2.1 (HW z.2.2.1 (HM z.2.2.2.1 (HS s (HG z.2.2.2.2 tl)))))))) (B_LV_remove_102 d f w m s g x3 x6)) := by
  unfold B_LV_remove_102
  refine ev_aload_n d_LV_remove_102 rfl rfl ?_
  refine ev_get (v := .ref 1) gi_LV (ci := 0) rfl rfl 0 (by decide) gw_287 rfl d_LV_remove_103 ?_
  refine ev_iload_n d_LV_remove_106 rfl rfl ?_
  refine ev_iconst (v := 0) d_LV_remove_107 rfl ?_
  refine ev_callr (Mc := M_Disk_cell) (v := some (.int (xCell d x3 0))) (h1 := (eLV :: (HD d (HF f (HW w (HM m (HS s (HG g tl)))))))) (k2 := 0) (n2 := 0) (inv_V (q := 1) (av := [.int x3, .int 0]) (rest := []) rfl (ci := 1) rfl d_LV_remove_108 gw_531 gw_198 gw_199 mw_Disk_cell nh_Disk_cell pn_Disk_cell rfl) d_LV_remove_108 pl_Disk_cell (Nat.le_of_ble_eq_true rfl) (Nat.le_of_ble_eq_true rfl) (Nat.le_of_ble_eq_true rfl) rfl rfl (c_Disk_cell (e0 := eLV) (tl := (HF f (HW w (HM m (HS s (HG g tl))))))  d x3 0) (Or.inl (len1 (lenHD (lenHF (lenHW (lenHM (lenHS (lenHG rfl)))))))) ?_
  refine ev_istore d_LV_remove_111 (by decide) rfl ?_
  refine ev_aload_n d_LV_remove_113 rfl rfl ?_
  refine ev_iload d_LV_remove_114 rfl ?_
  refine ev_callBT (rc := (f_LV_freeGathered d f w m s g x6)) (ou := ouV) (Hs := (fun z => (eLV :: (HD z.1 (HF f (HW w (HM z.2 (HS s (HG g tl))))))))) (inv_V (q := 0) (av := [.int x6]) (rest := []) rfl (ci := 0) rfl d_LV_remove_116 gw_935 gw_937 gw_47 mw_LV_freeGathered nh_LV_freeGathered pn_LV_freeGathered rfl) d_LV_remove_116 pl_LV_freeGathered (Nat.le_of_ble_eq_true rfl) (Nat.le_of_ble_eq_true rfl) (Nat.le_of_ble_eq_true rfl) (e_f_LV_freeGathered (tl := tl)  d f w m s g x6) (fun _ => (len1 (lenHD (lenHF (lenHW (lenHM (lenHS (lenHG rfl)))))))) rfl (fun x z h1 => ?_) (fun v z h1 => ⟨_, rfl, ?_⟩)
  · rfl
  · exact ev_pick [1, 2, 3, 0] rfl (e_B_LV_remove_119     z.1 f w z.2 s g x3 x6 (xCell d x3 0))
def B_LV_remove_91   (d : DS) (f : FS) (w : WS) (m : MS) (s : SS) (g : GS) (x3 : Int32) (x4 : Int32) (x5 : Int32) (x6 : Int32) : Option ((Nat ⊕ Int32) × (DS × FS × WS × MS × GS)) :=
  B_LV_remove_102   (xHole d x4 x5) f w m s g x3 x6
theorem e_B_LV_remove_91 {sc : Nat × (Nat → Int32)} {tl : List mn_E}    (d : DS) (f : FS) (w : WS) (m : MS) (s : SS) (g : GS) (x3 : Int32) (x4 : Int32) (x5 : Int32) (x6 : Int32) : Ev sc 10 139 0 0 M_LV_remove 91 [(0, .ref 0), (3, .int x3), (4, .int x4), (5, .int x5), (6, .int x6)] [] (eLV :: (HD d (HF f (HW w (HM m (HS s (HG g tl))))))) (mapR ouIT (fun z => (eLV :: (HD z.1 (HF z.2.1 (HW z.2.2.1 (HM z.2.2.2.1 (HS s (HG z.2.2.2.2 tl)))))))) (B_LV_remove_91 d f w m s g x3 x4 x5 x6)) := by
  unfold B_LV_remove_91
  refine ev_aload_n d_LV_remove_91 rfl rfl ?_
  refine ev_get (v := .ref 1) gi_LV (ci := 0) rfl rfl 0 (by decide) gw_287 rfl d_LV_remove_92 ?_
  refine ev_iload d_LV_remove_95 rfl ?_
  refine ev_iload d_LV_remove_97 rfl ?_
  refine ev_callr (Mc := M_Disk_makeHole) (v := none) (h1 := (eLV :: (HD (xHole d x4 x5) (HF f (HW w (HM m (HS s (HG g tl)))))))) (k2 := 0) (n2 := 0) (inv_V (q := 1) (av := [.int x4, .int x5]) (rest := []) rfl (ci := 1) rfl d_LV_remove_99 gw_959 gw_428 gw_429 mw_Disk_makeHole nh_Disk_makeHole pn_Disk_makeHole rfl) d_LV_remove_99 pl_Disk_makeHole (Nat.le_of_ble_eq_true rfl) (Nat.le_of_ble_eq_true rfl) (Nat.le_of_ble_eq_true rfl) rfl rfl (c_Disk_makeHole (e0 := eLV) (tl := (HF f (HW w (HM m (HS s (HG g tl))))))  d x4 x5) (Or.inl (len1 (lenHD (lenHF (lenHW (lenHM (lenHS (lenHG rfl)))))))) ?_
  exact ev_pick [0, 1, 4] rfl (e_B_LV_remove_102     (xHole d x4 x5) f w m s g x3 x6)
def B_LV_remove_84   (d : DS) (f : FS) (w : WS) (m : MS) (s : SS) (g : GS) (x3 : Int32) (x4 : Int32) (x5 : Int32) (x6 : Int32) : Option ((Nat ⊕ Int32) × (DS × FS × WS × MS × GS)) :=
  thM (f_Disk_spendWrite d) (fun x z => some (.inl x, (z, f, w, m, g))) (fun v z => B_LV_remove_91   z f w m s g x3 x4 x5 x6)
theorem e_B_LV_remove_84 {sc : Nat × (Nat → Int32)} {tl : List mn_E}    (d : DS) (f : FS) (w : WS) (m : MS) (s : SS) (g : GS) (x3 : Int32) (x4 : Int32) (x5 : Int32) (x6 : Int32) : Ev sc 10 139 0 0 M_LV_remove 84 [(0, .ref 0), (3, .int x3), (4, .int x4), (5, .int x5), (6, .int x6)] [] (eLV :: (HD d (HF f (HW w (HM m (HS s (HG g tl))))))) (mapR ouIT (fun z => (eLV :: (HD z.1 (HF z.2.1 (HW z.2.2.1 (HM z.2.2.2.1 (HS s (HG z.2.2.2.2 tl)))))))) (B_LV_remove_84 d f w m s g x3 x4 x5 x6)) := by
  unfold B_LV_remove_84
  refine ev_aload_n d_LV_remove_84 rfl rfl ?_
  refine ev_get (v := .ref 1) gi_LV (ci := 0) rfl rfl 0 (by decide) gw_287 rfl d_LV_remove_85 ?_
  refine ev_callT (q := (f_Disk_spendWrite d)) (ou := ouV) (Hs := (fun z => (eLV :: (HD z (HF f (HW w (HM m (HS s (HG g tl))))))))) (inv_V (q := 1) (av := []) (rest := []) rfl (ci := 1) rfl d_LV_remove_88 gw_790 gw_791 gw_792 mw_Disk_spendWrite nh_Disk_spendWrite pn_Disk_spendWrite rfl) d_LV_remove_88 pl_Disk_spendWrite (Nat.le_of_ble_eq_true rfl) (Nat.le_of_ble_eq_true rfl) (Nat.le_of_ble_eq_true rfl) (e_f_Disk_spendWrite (e0 := eLV) (tl := (HF f (HW w (HM m (HS s (HG g tl))))))  d ) (fun _ => (len1 (lenHD (lenHF (lenHW (lenHM (lenHS (lenHG rfl)))))))) rfl (fun x z h1 => ?_) (fun v z h1 => ⟨_, rfl, ?_⟩)
  · rw [h1]; rfl
  · rw [h1]
    exact ev_pick [0, 1, 2, 3, 4] rfl (e_B_LV_remove_91     z f w m s g x3 x4 x5 x6)
def B_LV_remove_75   (d : DS) (f : FS) (w : WS) (m : MS) (s : SS) (g : GS) (x3 : Int32) (x4 : Int32) (x5 : Int32) (t0 : Int32) : Option ((Nat ⊕ Int32) × (DS × FS × WS × MS × GS)) :=
  bnd (f_Map_find d f w m) (fun q => B_LV_remove_84   q.2.1 q.2.2.1 w q.2.2.2 s g x3 x4 x5 t0)
theorem e_B_LV_remove_75 {sc : Nat × (Nat → Int32)} {tl : List mn_E}    (d : DS) (f : FS) (w : WS) (m : MS) (s : SS) (g : GS) (x3 : Int32) (x4 : Int32) (x5 : Int32) (t0 : Int32) : Ev sc 10 139 0 0 M_LV_remove 75 [(0, .ref 0), (3, .int x3), (4, .int x4), (5, .int x5)] [.int t0] (eLV :: (HD d (HF f (HW w (HM m (HS s (HG g tl))))))) (mapR ouIT (fun z => (eLV :: (HD z.1 (HF z.2.1 (HW z.2.2.1 (HM z.2.2.2.1 (HS s (HG z.2.2.2.2 tl)))))))) (B_LV_remove_75 d f w m s g x3 x4 x5 t0)) := by
  unfold B_LV_remove_75
  refine ev_istore d_LV_remove_75 (by decide) rfl ?_
  refine ev_aload_n d_LV_remove_77 rfl rfl ?_
  refine ev_get (v := .ref 8) gi_LV (ci := 0) rfl rfl 3 (by decide) gw_290 rfl d_LV_remove_78 ?_
  refine ev_callB (rc := (f_Map_find d f w m)) (ou := ouV) (Hs := (fun z => (eLV :: (HD z.1 (HF z.2.1 (HW w (HM z.2.2 (HS s (HG g tl))))))))) (inv_V (q := 8) (av := []) (rest := []) rfl (ci := 4) rfl d_LV_remove_81 gw_934 gw_758 gw_759 mw_Map_find nh_Map_find pn_Map_find rfl) d_LV_remove_81 pl_Map_find (Nat.le_of_ble_eq_true rfl) (Nat.le_of_ble_eq_true rfl) (Nat.le_of_ble_eq_true rfl) (e_f_Map_find (e0 := eLV) (tl := (HS s (HG g tl)))  d f w m ) (fun _ => (len1 (lenHD (lenHF (lenHW (lenHM (lenHS (lenHG rfl)))))))) (fun v z h1 => ⟨_, rfl, ?_⟩)
  exact ev_pick [1, 2, 3, 4, 0] rfl (e_B_LV_remove_84     z.1 z.2.1 w z.2.2 s g x3 x4 x5 t0)
def B_LV_remove_71   (d : DS) (f : FS) (w : WS) (m : MS) (s : SS) (g : GS) (x3 : Int32) (x4 : Int32) (x5 : Int32) (t1 : Int32) : Option ((Nat ⊕ Int32) × (DS × FS × WS × MS × GS)) :=
  bnd (f_LV_gatherPages d f w m s g t1 1) (fun q => thM q (fun x z => some (.inl x, (z.1, f, w, m, z.2))) (fun v z => B_LV_remove_75   z.1 f w m s z.2 x3 x4 x5 v))
theorem e_B_LV_remove_71 {sc : Nat × (Nat → Int32)} {tl : List mn_E}    (d : DS) (f : FS) (w : WS) (m : MS) (s : SS) (g : GS) (x3 : Int32) (x4 : Int32) (x5 : Int32) (t1 : Int32) : Ev sc 10 139 0 0 M_LV_remove 71 [(0, .ref 0), (3, .int x3), (4, .int x4), (5, .int x5)] [.int t1, .ref 0] (eLV :: (HD d (HF f (HW w (HM m (HS s (HG g tl))))))) (mapR ouIT (fun z => (eLV :: (HD z.1 (HF z.2.1 (HW z.2.2.1 (HM z.2.2.2.1 (HS s (HG z.2.2.2.2 tl)))))))) (B_LV_remove_71 d f w m s g x3 x4 x5 t1)) := by
  unfold B_LV_remove_71
  refine ev_iconst (v := 1) d_LV_remove_71 rfl ?_
  refine ev_callBT (rc := (f_LV_gatherPages d f w m s g t1 1)) (ou := ouI) (Hs := (fun z => (eLV :: (HD z.1 (HF f (HW w (HM m (HS s (HG z.2 tl))))))))) (inv_V (q := 0) (av := [.int t1, .int 1]) (rest := []) rfl (ci := 0) rfl d_LV_remove_72 gw_925 gw_927 gw_45 mw_LV_gatherPages nh_LV_gatherPages pn_LV_gatherPages rfl) d_LV_remove_72 pl_LV_gatherPages (Nat.le_of_ble_eq_true rfl) (Nat.le_of_ble_eq_true rfl) (Nat.le_of_ble_eq_true rfl) (e_f_LV_gatherPages (tl := tl)  d f w m s g t1 1) (fun _ => (len1 (lenHD (lenHF (lenHW (lenHM (lenHS (lenHG rfl)))))))) rfl (fun x z h1 => ?_) (fun v z h1 => ⟨_, rfl, ?_⟩)
  · rfl
  · exact ev_pick [0, 1, 2, 3] rfl (e_B_LV_remove_75     z.1 f w m s z.2 x3 x4 x5 v)
def B_LV_remove_68   (d : DS) (f : FS) (w : WS) (m : MS) (s : SS) (g : GS) (x3 : Int32) (x4 : Int32) (x5 : Int32) (t1 : Int32) : Option ((Nat ⊕ Int32) × (DS × FS × WS × MS × GS)) :=
  thM (f_LV_unbroken t1) (fun x z => some (.inl x, (d, f, w, m, g))) (fun v z => B_LV_remove_71   d f w m s g x3 x4 x5 v)
theorem e_B_LV_remove_68 {sc : Nat × (Nat → Int32)} {tl : List mn_E}    (d : DS) (f : FS) (w : WS) (m : MS) (s : SS) (g : GS) (x3 : Int32) (x4 : Int32) (x5 : Int32) (t1 : Int32) : Ev sc 10 139 0 0 M_LV_remove 68 [(0, .ref 0), (3, .int x3), (4, .int x4), (5, .int x5)] [.int t1, .ref 0] (eLV :: (HD d (HF f (HW w (HM m (HS s (HG g tl))))))) (mapR ouIT (fun z => (eLV :: (HD z.1 (HF z.2.1 (HW z.2.2.1 (HM z.2.2.2.1 (HS s (HG z.2.2.2.2 tl)))))))) (B_LV_remove_68 d f w m s g x3 x4 x5 t1)) := by
  unfold B_LV_remove_68
  refine ev_callT (q := (f_LV_unbroken t1)) (ou := ouI) (Hs := (fun z => (eLV :: (HD d (HF f (HW w (HM m (HS s (HG g tl))))))))) (inv_S (av := [.int t1]) (rest := [.ref 0]) d_LV_remove_68 gw_875 gw_713 gw_102 mw_LV_unbroken nh_LV_unbroken pn_LV_unbroken rfl) d_LV_remove_68 pl_LV_unbroken (Nat.le_of_ble_eq_true rfl) (Nat.le_of_ble_eq_true rfl) (Nat.le_of_ble_eq_true rfl) (e_f_LV_unbroken (hh := (eLV :: (HD d (HF f (HW w (HM m (HS s (HG g tl))))))))   t1) (fun _ => (len1 (lenHD (lenHF (lenHW (lenHM (lenHS (lenHG rfl)))))))) rfl (fun x z h1 => ?_) (fun v z h1 => ⟨_, rfl, ?_⟩)
  · rw [h1]; rfl
  · rw [h1]
    exact ev_pick [0, 1, 2, 3] rfl (e_B_LV_remove_71     d f w m s g x3 x4 x5 v)
def B_LV_remove_59   (d : DS) (f : FS) (w : WS) (m : MS) (s : SS) (g : GS) (x3 : Int32) (x4 : Int32) (x5 : Int32) : Option ((Nat ⊕ Int32) × (DS × FS × WS × MS × GS)) :=
  bnd (f_Finder_lastOf d f x3) (fun q => B_LV_remove_68   q.2 f w m s g x3 x4 x5 q.1)
theorem e_B_LV_remove_59 {sc : Nat × (Nat → Int32)} {tl : List mn_E}    (d : DS) (f : FS) (w : WS) (m : MS) (s : SS) (g : GS) (x3 : Int32) (x4 : Int32) (x5 : Int32) : Ev sc 10 139 0 0 M_LV_remove 59 [(0, .ref 0), (3, .int x3), (4, .int x4), (5, .int x5)] [] (eLV :: (HD d (HF f (HW w (HM m (HS s (HG g tl))))))) (mapR ouIT (fun z => (eLV :: (HD z.1 (HF z.2.1 (HW z.2.2.1 (HM z.2.2.2.1 (HS s (HG z.2.2.2.2 tl)))))))) (B_LV_remove_59 d f w m s g x3 x4 x5)) := by
  unfold B_LV_remove_59
  refine ev_aload_n d_LV_remove_59 rfl rfl ?_
  refine ev_aload_n d_LV_remove_60 rfl rfl ?_
  refine ev_get (v := .ref 5) gi_LV (ci := 0) rfl rfl 1 (by decide) gw_288 rfl d_LV_remove_61 ?_
  refine ev_iload_n d_LV_remove_64 rfl rfl ?_
  refine ev_callB (rc := (f_Finder_lastOf d f x3)) (ou := ouI) (Hs := (fun z => (eLV :: (HD z (HF f (HW w (HM m (HS s (HG g tl))))))))) (inv_V (q := 5) (av := [.int x3]) (rest := [.ref 0]) rfl (ci := 2) rfl d_LV_remove_65 gw_868 gw_869 gw_870 mw_Finder_lastOf nh_Finder_lastOf pn_Finder_lastOf rfl) d_LV_remove_65 pl_Finder_lastOf (Nat.le_of_ble_eq_true rfl) (Nat.le_of_ble_eq_true rfl) (Nat.le_of_ble_eq_true rfl) (e_f_Finder_lastOf (e0 := eLV) (tl := (HW w (HM m (HS s (HG g tl)))))  d f x3) (fun _ => (len1 (lenHD (lenHF (lenHW (lenHM (lenHS (lenHG rfl)))))))) (fun v z h1 => ⟨_, rfl, ?_⟩)
  exact ev_pick [0, 1, 2, 3] rfl (e_B_LV_remove_68     z f w m s g x3 x4 x5 v)
def B_LV_remove_48   (d : DS) (f : FS) (w : WS) (m : MS) (s : SS) (g : GS) (x3 : Int32) (x4 : Int32) (x5 : Int32) (t0 : Int32) : Option ((Nat ⊕ Int32) × (DS × FS × WS × MS × GS)) :=
  if t0 = 0 then (B_LV_remove_59   d f w m s g x3 x4 x5) else (some (.inl 4, (d, f, w, m, g)))
theorem e_B_LV_remove_48 {sc : Nat × (Nat → Int32)} {tl : List mn_E}    (d : DS) (f : FS) (w : WS) (m : MS) (s : SS) (g : GS) (x3 : Int32) (x4 : Int32) (x5 : Int32) (t0 : Int32) : Ev sc 10 139 0 0 M_LV_remove 48 [(0, .ref 0), (3, .int x3), (4, .int x4), (5, .int x5)] [.int t0] (eLV :: (HD d (HF f (HW w (HM m (HS s (HG g tl))))))) (mapR ouIT (fun z => (eLV :: (HD z.1 (HF z.2.1 (HW z.2.2.1 (HM z.2.2.2.1 (HS s (HG z.2.2.2.2 tl)))))))) (B_LV_remove_48 d f w m s g x3 x4 x5 t0)) := by
  unfold B_LV_remove_48
  refine ev_if_eq (tgt := 59) d_LV_remove_48 rfl (fun h1 => ?_) (fun h1 => ?_)
  · rw [if_pos h1]
    exact ev_pick [0, 1, 2, 3] rfl (e_B_LV_remove_59     d f w m s g x3 x4 x5)
  · rw [if_neg h1]
    exact ev_throw (x := 4) (names := gd_up) d_LV_remove_51 d_LV_remove_54 d_LV_remove_55 d_LV_remove_58 gw_715 gw_716 gw_115 tw_LV_71 (by decide +kernel) (by decide +kernel) rfl (by decide) (Nat.le_of_ble_eq_true rfl)
def B_LV_remove_10   (d : DS) (f : FS) (w : WS) (m : MS) (s : SS) (g : GS) (t0 : Int32) : Option ((Nat ⊕ Int32) × (DS × FS × WS × MS × GS)) :=
  if ((f_Disk_isDirectory d t0).1) = 0 then (B_LV_remove_59   d f w m s g t0 ((f_Walk_sectorHere d f w).1) ((f_Walk_offsetHere d f w).1)) else (bnd (f_Walk_seekUsed d f w t0) (fun q => thM q (fun x z => some (.inl x, (z.1, f, z.2, m, g))) (fun v z => B_LV_remove_48   z.1 f z.2 m s g t0 ((f_Walk_sectorHere d f w).1) ((f_Walk_offsetHere d f w).1) v)))
theorem e_B_LV_remove_10 {sc : Nat × (Nat → Int32)} {tl : List mn_E}    (d : DS) (f : FS) (w : WS) (m : MS) (s : SS) (g : GS) (t0 : Int32) : Ev sc 10 139 0 0 M_LV_remove 10 [(0, .ref 0)] [.int t0] (eLV :: (HD d (HF f (HW w (HM m (HS s (HG g tl))))))) (mapR ouIT (fun z => (eLV :: (HD z.1 (HF z.2.1 (HW z.2.2.1 (HM z.2.2.2.1 (HS s (HG z.2.2.2.2 tl)))))))) (B_LV_remove_10 d f w m s g t0)) := by
  unfold B_LV_remove_10
  refine ev_istore_n d_LV_remove_10 rfl (by decide) rfl ?_
  refine ev_aload_n d_LV_remove_11 rfl rfl ?_
  refine ev_get (v := .ref 7) gi_LV (ci := 0) rfl rfl 2 (by decide) gw_289 rfl d_LV_remove_12 ?_
  refine ev_callr (Mc := M_Walk_sectorHere) (v := some (.int ((f_Walk_sectorHere d f w).1))) (h1 := (eLV :: (HD d (HF f (HW w (HM m (HS s (HG g tl)))))))) (k2 := 0) (n2 := 0) (inv_V (q := 7) (av := []) (rest := []) rfl (ci := 3) rfl d_LV_remove_15 gw_801 gw_802 gw_803 mw_Walk_sectorHere nh_Walk_sectorHere pn_Walk_sectorHere rfl) d_LV_remove_15 pl_Walk_sectorHere (Nat.le_of_ble_eq_true rfl) (Nat.le_of_ble_eq_true rfl) (Nat.le_of_ble_eq_true rfl) rfl rfl (e_f_Walk_sectorHere (e0 := eLV) (tl := (HM m (HS s (HG g tl))))  d f w ) (Or.inl (len1 (lenHD (lenHF (lenHW (lenHM (lenHS (lenHG rfl)))))))) ?_
  refine ev_istore d_LV_remove_18 (by decide) rfl ?_
  refine ev_aload_n d_LV_remove_20 rfl rfl ?_
  refine ev_get (v := .ref 7) gi_LV (ci := 0) rfl rfl 2 (by decide) gw_289 rfl d_LV_remove_21 ?_
  refine ev_callr (Mc := M_Walk_offsetHere) (v := some (.int ((f_Walk_offsetHere d f w).1))) (h1 := (eLV :: (HD d (HF f (HW w (HM m (HS s (HG g tl)))))))) (k2 := 0) (n2 := 0) (inv_V (q := 7) (av := []) (rest := []) rfl (ci := 3) rfl d_LV_remove_24 gw_858 gw_735 gw_736 mw_Walk_offsetHere nh_Walk_offsetHere pn_Walk_offsetHere rfl) d_LV_remove_24 pl_Walk_offsetHere (Nat.le_of_ble_eq_true rfl) (Nat.le_of_ble_eq_true rfl) (Nat.le_of_ble_eq_true rfl) rfl rfl (e_f_Walk_offsetHere (e0 := eLV) (tl := (HM m (HS s (HG g tl))))  d f w ) (Or.inl (len1 (lenHD (lenHF (lenHW (lenHM (lenHS (lenHG rfl)))))))) ?_
  refine ev_istore d_LV_remove_27 (by decide) rfl ?_
  refine ev_aload_n d_LV_remove_29 rfl rfl ?_
  refine ev_get (v := .ref 1) gi_LV (ci := 0) rfl rfl 0 (by decide) gw_287 rfl d_LV_remove_30 ?_
  refine ev_iload_n d_LV_remove_33 rfl rfl ?_
  refine ev_callr (Mc := M_Disk_isDirectory) (v := some (.int ((f_Disk_isDirectory d t0).1))) (h1 := (eLV :: (HD d (HF f (HW w (HM m (HS s (HG g tl)))))))) (k2 := 0) (n2 := 0) (inv_V (q := 1) (av := [.int t0]) (rest := []) rfl (ci := 1) rfl d_LV_remove_34 gw_677 gw_432 gw_433 mw_Disk_isDirectory nh_Disk_isDirectory pn_Disk_isDirectory rfl) d_LV_remove_34 pl_Disk_isDirectory (Nat.le_of_ble_eq_true rfl) (Nat.le_of_ble_eq_true rfl) (Nat.le_of_ble_eq_true rfl) rfl rfl (e_f_Disk_isDirectory (e0 := eLV) (tl := (HF f (HW w (HM m (HS s (HG g tl))))))  d t0) (Or.inl (len1 (lenHD (lenHF (lenHW (lenHM (lenHS (lenHG rfl)))))))) ?_
  refine ev_if_eq (tgt := 59) d_LV_remove_37 rfl (fun h1 => ?_) (fun h1 => ?_)
  · rw [if_pos h1]
    exact ev_pick [3, 2, 1, 0] rfl (e_B_LV_remove_59     d f w m s g t0 ((f_Walk_sectorHere d f w).1) ((f_Walk_offsetHere d f w).1))
  · rw [if_neg h1]
    refine ev_aload_n d_LV_remove_40 rfl rfl ?_
    refine ev_get (v := .ref 7) gi_LV (ci := 0) rfl rfl 2 (by decide) gw_289 rfl d_LV_remove_41 ?_
    refine ev_iload_n d_LV_remove_44 rfl rfl ?_
    refine ev_callBT (rc := (f_Walk_seekUsed d f w t0)) (ou := ouI) (Hs := (fun z => (eLV :: (HD z.1 (HF f (HW z.2 (HM m (HS s (HG g tl))))))))) (inv_V (q := 7) (av := [.int t0]) (rest := []) rfl (ci := 3) rfl d_LV_remove_45 gw_955 gw_956 gw_957 mw_Walk_seekUsed nh_Walk_seekUsed pn_Walk_seekUsed rfl) d_LV_remove_45 pl_Walk_seekUsed (Nat.le_of_ble_eq_true rfl) (Nat.le_of_ble_eq_true rfl) (Nat.le_of_ble_eq_true rfl) (e_f_Walk_seekUsed (e0 := eLV) (tl := (HM m (HS s (HG g tl))))  d f w t0) (fun _ => (len1 (lenHD (lenHF (lenHW (lenHM (lenHS (lenHG rfl)))))))) rfl (fun x z h2 => ?_) (fun v z h2 => ⟨_, rfl, ?_⟩)
    · rfl
    · exact ev_pick [3, 2, 1, 0] rfl (e_B_LV_remove_48     z.1 f z.2 m s g t0 ((f_Walk_sectorHere d f w).1) ((f_Walk_offsetHere d f w).1) v)
def B_LV_remove_4   (d : DS) (f : FS) (w : WS) (m : MS) (s : SS) (g : GS) (x1 : Int32) (x2 : Int32) : Option ((Nat ⊕ Int32) × (DS × FS × WS × MS × GS)) :=
  bnd (f_LV_leaderOfEntry d f w m s g x1 x2) (fun q => thM q (fun x z => some (.inl x, (z.1, z.2.1, z.2.2, m, g))) (fun v z => B_LV_remove_10   z.1 z.2.1 z.2.2 m s g v))
theorem e_B_LV_remove_4 {sc : Nat × (Nat → Int32)} {tl : List mn_E}    (d : DS) (f : FS) (w : WS) (m : MS) (s : SS) (g : GS) (x1 : Int32) (x2 : Int32) : Ev sc 10 139 0 0 M_LV_remove 4 [(0, .ref 0), (1, .int x1), (2, .int x2)] [] (eLV :: (HD d (HF f (HW w (HM m (HS s (HG g tl))))))) (mapR ouIT (fun z => (eLV :: (HD z.1 (HF z.2.1 (HW z.2.2.1 (HM z.2.2.2.1 (HS s (HG z.2.2.2.2 tl)))))))) (B_LV_remove_4 d f w m s g x1 x2)) := by
  unfold B_LV_remove_4
  refine ev_aload_n d_LV_remove_4 rfl rfl ?_
  refine ev_iload_n d_LV_remove_5 rfl rfl ?_
  refine ev_iload_n d_LV_remove_6 rfl rfl ?_
  refine ev_callBT (rc := (f_LV_leaderOfEntry d f w m s g x1 x2)) (ou := ouI) (Hs := (fun z => (eLV :: (HD z.1 (HF z.2.1 (HW z.2.2 (HM m (HS s (HG g tl))))))))) (inv_V (q := 0) (av := [.int x1, .int x2]) (rest := []) rfl (ci := 0) rfl d_LV_remove_7 gw_853 gw_855 gw_41 mw_LV_leaderOfEntry nh_LV_leaderOfEntry pn_LV_leaderOfEntry rfl) d_LV_remove_7 pl_LV_leaderOfEntry (Nat.le_of_ble_eq_true rfl) (Nat.le_of_ble_eq_true rfl) (Nat.le_of_ble_eq_true rfl) (e_f_LV_leaderOfEntry (tl := tl)  d f w m s g x1 x2) (fun _ => (len1 (lenHD (lenHF (lenHW (lenHM (lenHS (lenHG rfl)))))))) rfl (fun x z h1 => ?_) (fun v z h1 => ⟨_, rfl, ?_⟩)
  · rfl
  · exact ev_pick [0] rfl (e_B_LV_remove_10     z.1 z.2.1 z.2.2 m s g v)
def f_LV_remove   (d : DS) (f : FS) (w : WS) (m : MS) (s : SS) (g : GS) (x1 : Int32) (x2 : Int32) : Option ((Nat ⊕ Int32) × (DS × FS × WS × MS × GS)) :=
  thM (f_LV_requirePower d f w m s g) (fun x z => some (.inl x, (d, f, w, m, g))) (fun v z => B_LV_remove_4   d f w m s g x1 x2)
theorem e_f_LV_remove {sc : Nat × (Nat → Int32)} {tl : List mn_E}    (d : DS) (f : FS) (w : WS) (m : MS) (s : SS) (g : GS) (x1 : Int32) (x2 : Int32) : Ev sc 10 139 0 0 M_LV_remove 0 [(0, .ref 0), (1, .int x1), (2, .int x2)] [] (eLV :: (HD d (HF f (HW w (HM m (HS s (HG g tl))))))) (mapR ouIT (fun z => (eLV :: (HD z.1 (HF z.2.1 (HW z.2.2.1 (HM z.2.2.2.1 (HS s (HG z.2.2.2.2 tl)))))))) (f_LV_remove d f w m s g x1 x2)) := by
  unfold f_LV_remove
  refine ev_aload_n d_LV_remove_0 rfl rfl ?_
  refine ev_callT (q := (f_LV_requirePower d f w m s g)) (ou := ouV) (Hs := (fun z => (eLV :: (HD d (HF f (HW w (HM m (HS s (HG g tl))))))))) (inv_V (q := 0) (av := []) (rest := []) rfl (ci := 0) rfl d_LV_remove_1 gw_576 gw_578 gw_26 mw_LV_requirePower nh_LV_requirePower pn_LV_requirePower rfl) d_LV_remove_1 pl_LV_requirePower (Nat.le_of_ble_eq_true rfl) (Nat.le_of_ble_eq_true rfl) (Nat.le_of_ble_eq_true rfl) (e_f_LV_requirePower (tl := tl)  d f w m s g ) (fun _ => (len1 (lenHD (lenHF (lenHW (lenHM (lenHS (lenHG rfl)))))))) rfl (fun x z h1 => ?_) (fun v z h1 => ⟨_, rfl, ?_⟩)
  · rw [h1]; rfl
  · rw [h1]
    exact ev_pick [0, 1, 2] rfl (e_B_LV_remove_4     d f w m s g x1 x2)
def B_LV_length_25   (d : DS) (f : FS) (w : WS) (m : MS) (s : SS) (g : GS) (t1 : Int32) : Option ((Nat ⊕ Int32) × (DS × FS)) :=
  some (.inr ((f_Disk_lengthUpTo d t1).1), (d, f))
theorem e_B_LV_length_25 {sc : Nat × (Nat → Int32)} {tl : List mn_E}    (d : DS) (f : FS) (w : WS) (m : MS) (s : SS) (g : GS) (t1 : Int32) : Ev sc 7 95 0 0 M_LV_length 25 [] [.int t1, .ref 1] (eLV :: (HD d (HF f (HW w (HM m (HS s (HG g tl))))))) (mapR ouIT (fun z => (eLV :: (HD z.1 (HF z.2 (HW w (HM m (HS s (HG g tl)))))))) (B_LV_length_25 d f w m s g t1)) := by
  unfold B_LV_length_25
  refine ev_callr (Mc := M_Disk_lengthUpTo) (v := some (.int ((f_Disk_lengthUpTo d t1).1))) (h1 := (eLV :: (HD d (HF f (HW w (HM m (HS s (HG g tl)))))))) (k2 := 0) (n2 := 0) (inv_V (q := 1) (av := [.int t1]) (rest := []) rfl (ci := 1) rfl d_LV_length_25 gw_876 gw_877 gw_878 mw_Disk_lengthUpTo nh_Disk_lengthUpTo pn_Disk_lengthUpTo rfl) d_LV_length_25 pl_Disk_lengthUpTo (Nat.le_of_ble_eq_true rfl) (Nat.le_of_ble_eq_true rfl) (Nat.le_of_ble_eq_true rfl) rfl rfl (e_f_Disk_lengthUpTo (e0 := eLV) (tl := (HF f (HW w (HM m (HS s (HG g tl))))))  d t1) (Or.inl (len1 (lenHD (lenHF (lenHW (lenHM (lenHS (lenHG rfl)))))))) ?_
  exact ev_zret (ty := .int) rfl rfl d_LV_length_28
def B_LV_length_22   (d : DS) (f : FS) (w : WS) (m : MS) (s : SS) (g : GS) (t1 : Int32) : Option ((Nat ⊕ Int32) × (DS × FS)) :=
  thM (f_LV_unbroken t1) (fun x z => some (.inl x, (d, f))) (fun v z => B_LV_length_25   d f w m s g v)
theorem e_B_LV_length_22 {sc : Nat × (Nat → Int32)} {tl : List mn_E}    (d : DS) (f : FS) (w : WS) (m : MS) (s : SS) (g : GS) (t1 : Int32) : Ev sc 7 95 0 0 M_LV_length 22 [] [.int t1, .ref 1] (eLV :: (HD d (HF f (HW w (HM m (HS s (HG g tl))))))) (mapR ouIT (fun z => (eLV :: (HD z.1 (HF z.2 (HW w (HM m (HS s (HG g tl)))))))) (B_LV_length_22 d f w m s g t1)) := by
  unfold B_LV_length_22
  refine ev_callT (q := (f_LV_unbroken t1)) (ou := ouI) (Hs := (fun z => (eLV :: (HD d (HF f (HW w (HM m (HS s (HG g tl))))))))) (inv_S (av := [.int t1]) (rest := [.ref 1]) d_LV_length_22 gw_875 gw_713 gw_102 mw_LV_unbroken nh_LV_unbroken pn_LV_unbroken rfl) d_LV_length_22 pl_LV_unbroken (Nat.le_of_ble_eq_true rfl) (Nat.le_of_ble_eq_true rfl) (Nat.le_of_ble_eq_true rfl) (e_f_LV_unbroken (hh := (eLV :: (HD d (HF f (HW w (HM m (HS s (HG g tl))))))))   t1) (fun _ => (len1 (lenHD (lenHF (lenHW (lenHM (lenHS (lenHG rfl)))))))) rfl (fun x z h1 => ?_) (fun v z h1 => ⟨_, rfl, ?_⟩)
  · rw [h1]; rfl
  · rw [h1]
    exact ev_pick [] rfl (e_B_LV_length_25     d f w m s g v)
def B_LV_length_9   (d : DS) (f : FS) (w : WS) (m : MS) (s : SS) (g : GS) (t0 : Int32) : Option ((Nat ⊕ Int32) × (DS × FS)) :=
  bnd (f_Finder_lastOf d f t0) (fun q => B_LV_length_22   q.2 f w m s g q.1)
theorem e_B_LV_length_9 {sc : Nat × (Nat → Int32)} {tl : List mn_E}    (d : DS) (f : FS) (w : WS) (m : MS) (s : SS) (g : GS) (t0 : Int32) : Ev sc 7 95 0 0 M_LV_length 9 [(0, .ref 0)] [.int t0] (eLV :: (HD d (HF f (HW w (HM m (HS s (HG g tl))))))) (mapR ouIT (fun z => (eLV :: (HD z.1 (HF z.2 (HW w (HM m (HS s (HG g tl)))))))) (B_LV_length_9 d f w m s g t0)) := by
  unfold B_LV_length_9
  refine ev_istore_n d_LV_length_9 rfl (by decide) rfl ?_
  refine ev_aload_n d_LV_length_10 rfl rfl ?_
  refine ev_get (v := .ref 1) gi_LV (ci := 0) rfl rfl 0 (by decide) gw_287 rfl d_LV_length_11 ?_
  refine ev_aload_n d_LV_length_14 rfl rfl ?_
  refine ev_get (v := .ref 5) gi_LV (ci := 0) rfl rfl 1 (by decide) gw_288 rfl d_LV_length_15 ?_
  refine ev_iload_n d_LV_length_18 rfl rfl ?_
  refine ev_callB (rc := (f_Finder_lastOf d f t0)) (ou := ouI) (Hs := (fun z => (eLV :: (HD z (HF f (HW w (HM m (HS s (HG g tl))))))))) (inv_V (q := 5) (av := [.int t0]) (rest := [.ref 1]) rfl (ci := 2) rfl d_LV_length_19 gw_868 gw_869 gw_870 mw_Finder_lastOf nh_Finder_lastOf pn_Finder_lastOf rfl) d_LV_length_19 pl_Finder_lastOf (Nat.le_of_ble_eq_true rfl) (Nat.le_of_ble_eq_true rfl) (Nat.le_of_ble_eq_true rfl) (e_f_Finder_lastOf (e0 := eLV) (tl := (HW w (HM m (HS s (HG g tl)))))  d f t0) (fun _ => (len1 (lenHD (lenHF (lenHW (lenHM (lenHS (lenHG rfl)))))))) (fun v z h1 => ⟨_, rfl, ?_⟩)
  exact ev_pick [] rfl (e_B_LV_length_22     z f w m s g v)
def B_LV_length_4   (d : DS) (f : FS) (w : WS) (m : MS) (s : SS) (g : GS) (x1 : Int32) : Option ((Nat ⊕ Int32) × (DS × FS)) :=
  bnd (f_LV_requireLeader d f w m s g x1) (fun q => thM q (fun x z => some (.inl x, (z.1, z.2))) (fun v z => B_LV_length_9   z.1 z.2 w m s g v))
theorem e_B_LV_length_4 {sc : Nat × (Nat → Int32)} {tl : List mn_E}    (d : DS) (f : FS) (w : WS) (m : MS) (s : SS) (g : GS) (x1 : Int32) : Ev sc 7 95 0 0 M_LV_length 4 [(0, .ref 0), (1, .int x1)] [] (eLV :: (HD d (HF f (HW w (HM m (HS s (HG g tl))))))) (mapR ouIT (fun z => (eLV :: (HD z.1 (HF z.2 (HW w (HM m (HS s (HG g tl)))))))) (B_LV_length_4 d f w m s g x1)) := by
  unfold B_LV_length_4
  refine ev_aload_n d_LV_length_4 rfl rfl ?_
  refine ev_iload_n d_LV_length_5 rfl rfl ?_
  refine ev_callBT (rc := (f_LV_requireLeader d f w m s g x1)) (ou := ouI) (Hs := (fun z => (eLV :: (HD z.1 (HF z.2 (HW w (HM m (HS s (HG g tl))))))))) (inv_V (q := 0) (av := [.int x1]) (rest := []) rfl (ci := 0) rfl d_LV_length_6 gw_649 gw_651 gw_29 mw_LV_requireLeader nh_LV_requireLeader pn_LV_requireLeader rfl) d_LV_length_6 pl_LV_requireLeader (Nat.le_of_ble_eq_true rfl) (Nat.le_of_ble_eq_true rfl) (Nat.le_of_ble_eq_true rfl) (e_f_LV_requireLeader (tl := tl)  d f w m s g x1) (fun _ => (len1 (lenHD (lenHF (lenHW (lenHM (lenHS (lenHG rfl)))))))) rfl (fun x z h1 => ?_) (fun v z h1 => ⟨_, rfl, ?_⟩)
  · rfl
  · exact ev_pick [0] rfl (e_B_LV_length_9     z.1 z.2 w m s g v)
def f_LV_length   (d : DS) (f : FS) (w : WS) (m : MS) (s : SS) (g : GS) (x1 : Int32) : Option ((Nat ⊕ Int32) × (DS × FS)) :=
  thM (f_LV_requirePower d f w m s g) (fun x z => some (.inl x, (d, f))) (fun v z => B_LV_length_4   d f w m s g x1)
theorem e_f_LV_length {sc : Nat × (Nat → Int32)} {tl : List mn_E}    (d : DS) (f : FS) (w : WS) (m : MS) (s : SS) (g : GS) (x1 : Int32) : Ev sc 7 95 0 0 M_LV_length 0 [(0, .ref 0), (1, .int x1)] [] (eLV :: (HD d (HF f (HW w (HM m (HS s (HG g tl))))))) (mapR ouIT (fun z => (eLV :: (HD z.1 (HF z.2 (HW w (HM m (HS s (HG g tl)))))))) (f_LV_length d f w m s g x1)) := by
  unfold f_LV_length
  refine ev_aload_n d_LV_length_0 rfl rfl ?_
  refine ev_callT (q := (f_LV_requirePower d f w m s g)) (ou := ouV) (Hs := (fun z => (eLV :: (HD d (HF f (HW w (HM m (HS s (HG g tl))))))))) (inv_V (q := 0) (av := []) (rest := []) rfl (ci := 0) rfl d_LV_length_1 gw_576 gw_578 gw_26 mw_LV_requirePower nh_LV_requirePower pn_LV_requirePower rfl) d_LV_length_1 pl_LV_requirePower (Nat.le_of_ble_eq_true rfl) (Nat.le_of_ble_eq_true rfl) (Nat.le_of_ble_eq_true rfl) (e_f_LV_requirePower (tl := tl)  d f w m s g ) (fun _ => (len1 (lenHD (lenHF (lenHW (lenHM (lenHS (lenHG rfl)))))))) rfl (fun x z h1 => ?_) (fun v z h1 => ⟨_, rfl, ?_⟩)
  · rw [h1]; rfl
  · rw [h1]
    exact ev_pick [0, 1] rfl (e_B_LV_length_4     d f w m s g x1)
def B_LV_entry_20   (d : DS) (f : FS) (w : WS) (m : MS) (s : SS) (g : GS) : Option ((Nat ⊕ Int32) × (DS × FS × WS)) :=
  some (.inl 3, (d, f, w))
theorem e_B_LV_entry_20 {sc : Nat × (Nat → Int32)} {tl : List mn_E}    (d : DS) (f : FS) (w : WS) (m : MS) (s : SS) (g : GS) : Ev sc 9 122 0 0 M_LV_entry 20 [] [] (eLV :: (HD d (HF f (HW w (HM m (HS s (HG g tl))))))) (mapR ouIT (fun z => (eLV :: (HD z.1 (HF z.2.1 (HW z.2.2 (HM m (HS s (HG g tl)))))))) (B_LV_entry_20 d f w m s g)) := by
  unfold B_LV_entry_20
  exact ev_throw (x := 3) (names := gd_up) d_LV_entry_20 d_LV_entry_23 d_LV_entry_24 d_LV_entry_27 gw_678 gw_679 gw_114 tw_LV_64 (by decide +kernel) (by decide +kernel) rfl (by decide) (Nat.le_of_ble_eq_true rfl)
def B_LV_entry_45   (d : DS) (f : FS) (w : WS) (m : MS) (s : SS) (g : GS) : Option ((Nat ⊕ Int32) × (DS × FS × WS)) :=
  some (.inl 2, (d, f, w))
theorem e_B_LV_entry_45 {sc : Nat × (Nat → Int32)} {tl : List mn_E}    (d : DS) (f : FS) (w : WS) (m : MS) (s : SS) (g : GS) : Ev sc 9 122 0 0 M_LV_entry 45 [] [] (eLV :: (HD d (HF f (HW w (HM m (HS s (HG g tl))))))) (mapR ouIT (fun z => (eLV :: (HD z.1 (HF z.2.1 (HW z.2.2 (HM m (HS s (HG g tl)))))))) (B_LV_entry_45 d f w m s g)) := by
  unfold B_LV_entry_45
  exact ev_throw (x := 2) (names := gd_up) d_LV_entry_45 d_LV_entry_48 d_LV_entry_49 d_LV_entry_52 gw_662 gw_663 gw_113 tw_LV_185 (by decide +kernel) (by decide +kernel) rfl (by decide) (Nat.le_of_ble_eq_true rfl)
def B_LV_entry_106   (d : DS) (f : FS) (w : WS) (m : MS) (s : SS) (g : GS) (t1 : Int32) (t2 : Int32) (t3 : Int32) : Option ((Nat ⊕ Int32) × (DS × FS × WS)) :=
  some (.inr ((f_Disk_byteAt d t1 (t2 + t3)).1), (d, f, w))
theorem e_B_LV_entry_106 {sc : Nat × (Nat → Int32)} {tl : List mn_E}    (d : DS) (f : FS) (w : WS) (m : MS) (s : SS) (g : GS) (t1 : Int32) (t2 : Int32) (t3 : Int32) : Ev sc 9 122 0 0 M_LV_entry 106 [] [.int t3, .int t2, .int t1, .ref 1] (eLV :: (HD d (HF f (HW w (HM m (HS s (HG g tl))))))) (mapR ouIT (fun z => (eLV :: (HD z.1 (HF z.2.1 (HW z.2.2 (HM m (HS s (HG g tl)))))))) (B_LV_entry_106 d f w m s g t1 t2 t3)) := by
  unfold B_LV_entry_106
  refine ev_iadd d_LV_entry_106 ?_
  refine ev_callr (Mc := M_Disk_byteAt) (v := some (.int ((f_Disk_byteAt d t1 (t2 + t3)).1))) (h1 := (eLV :: (HD d (HF f (HW w (HM m (HS s (HG g tl)))))))) (k2 := 0) (n2 := 0) (inv_V (q := 1) (av := [.int t1, .int (t2 + t3)]) (rest := []) rfl (ci := 1) rfl d_LV_entry_107 gw_536 gw_412 gw_413 mw_Disk_byteAt nh_Disk_byteAt pn_Disk_byteAt rfl) d_LV_entry_107 pl_Disk_byteAt (Nat.le_of_ble_eq_true rfl) (Nat.le_of_ble_eq_true rfl) (Nat.le_of_ble_eq_true rfl) rfl rfl (e_f_Disk_byteAt (e0 := eLV) (tl := (HF f (HW w (HM m (HS s (HG g tl))))))  d t1 (t2 + t3)) (Or.inl (len1 (lenHD (lenHF (lenHW (lenHM (lenHS (lenHG rfl)))))))) ?_
  exact ev_zret (ty := .int) rfl rfl d_LV_entry_110
def B_LV_entry_42   (d : DS) (f : FS) (w : WS) (m : MS) (s : SS) (g : GS) (x3 : Int32) (t0 : Int32) : Option ((Nat ⊕ Int32) × (DS × FS × WS)) :=
  if ¬ t0 = 0 then (if ¬ x3 = 0 then (if ¬ x3 = 1 then (B_LV_entry_106   d f w m s g ((f_Walk_sectorHere d f w).1) ((f_Walk_offsetHere d f w).1) 3) else (B_LV_entry_106   d f w m s g ((f_Walk_sectorHere d f w).1) ((f_Walk_offsetHere d f w).1) 2)) else (some (.inr ((f_Disk_nameAt d ((f_Walk_sectorHere d f w).1) ((f_Walk_offsetHere d f w).1)).1), (d, f, w)))) else (B_LV_entry_45   d f w m s g)
theorem e_B_LV_entry_42 {sc : Nat × (Nat → Int32)} {tl : List mn_E}    (d : DS) (f : FS) (w : WS) (m : MS) (s : SS) (g : GS) (x3 : Int32) (t0 : Int32) : Ev sc 9 122 0 0 M_LV_entry 42 [(0, .ref 0), (3, .int x3)] [.int t0] (eLV :: (HD d (HF f (HW w (HM m (HS s (HG g tl))))))) (mapR ouIT (fun z => (eLV :: (HD z.1 (HF z.2.1 (HW z.2.2 (HM m (HS s (HG g tl)))))))) (B_LV_entry_42 d f w m s g x3 t0)) := by
  unfold B_LV_entry_42
  refine ev_if_ne (tgt := 53) d_LV_entry_42 rfl (fun h1 => ?_) (fun h1 => ?_)
  · rw [if_pos h1]
    refine ev_aload_n d_LV_entry_53 rfl rfl ?_
    refine ev_get (v := .ref 7) gi_LV (ci := 0) rfl rfl 2 (by decide) gw_289 rfl d_LV_entry_54 ?_
    refine ev_callr (Mc := M_Walk_offsetHere) (v := some (.int ((f_Walk_offsetHere d f w).1))) (h1 := (eLV :: (HD d (HF f (HW w (HM m (HS s (HG g tl)))))))) (k2 := 0) (n2 := 0) (inv_V (q := 7) (av := []) (rest := []) rfl (ci := 3) rfl d_LV_entry_57 gw_858 gw_735 gw_736 mw_Walk_offsetHere nh_Walk_offsetHere pn_Walk_offsetHere rfl) d_LV_entry_57 pl_Walk_offsetHere (Nat.le_of_ble_eq_true rfl) (Nat.le_of_ble_eq_true rfl) (Nat.le_of_ble_eq_true rfl) rfl rfl (e_f_Walk_offsetHere (e0 := eLV) (tl := (HM m (HS s (HG g tl))))  d f w ) (Or.inl (len1 (lenHD (lenHF (lenHW (lenHM (lenHS (lenHG rfl)))))))) ?_
    refine ev_istore d_LV_entry_60 (by decide) rfl ?_
    refine ev_iload_n d_LV_entry_62 rfl rfl ?_
    refine ev_if_ne (tgt := 83) d_LV_entry_63 rfl (fun h2 => ?_) (fun h2 => ?_)
    · rw [if_pos h2]
      refine ev_aload_n d_LV_entry_83 rfl rfl ?_
      refine ev_get (v := .ref 1) gi_LV (ci := 0) rfl rfl 0 (by decide) gw_287 rfl d_LV_entry_84 ?_
      refine ev_aload_n d_LV_entry_87 rfl rfl ?_
      refine ev_get (v := .ref 7) gi_LV (ci := 0) rfl rfl 2 (by decide) gw_289 rfl d_LV_entry_88 ?_
      refine ev_callr (Mc := M_Walk_sectorHere) (v := some (.int ((f_Walk_sectorHere d f w).1))) (h1 := (eLV :: (HD d (HF f (HW w (HM m (HS s (HG g tl)))))))) (k2 := 0) (n2 := 0) (inv_V (q := 7) (av := []) (rest := [.ref 1]) rfl (ci := 3) rfl d_LV_entry_91 gw_801 gw_802 gw_803 mw_Walk_sectorHere nh_Walk_sectorHere pn_Walk_sectorHere rfl) d_LV_entry_91 pl_Walk_sectorHere (Nat.le_of_ble_eq_true rfl) (Nat.le_of_ble_eq_true rfl) (Nat.le_of_ble_eq_true rfl) rfl rfl (e_f_Walk_sectorHere (e0 := eLV) (tl := (HM m (HS s (HG g tl))))  d f w ) (Or.inl (len1 (lenHD (lenHF (lenHW (lenHM (lenHS (lenHG rfl)))))))) ?_
      refine ev_iload d_LV_entry_94 rfl ?_
      refine ev_iload_n d_LV_entry_96 rfl rfl ?_
      refine ev_iconst (v := 1) d_LV_entry_97 rfl ?_
      refine ev_icmp_ne (tgt := 105) d_LV_entry_98 rfl (fun h3 => ?_) (fun h3 => ?_)
      · rw [if_pos h3]
        refine ev_iconst (v := 3) d_LV_entry_105 rfl ?_
        exact ev_pick [] rfl (e_B_LV_entry_106     d f w m s g ((f_Walk_sectorHere d f w).1) ((f_Walk_offsetHere d f w).1) 3)
      · rw [if_neg h3]
        refine ev_iconst (v := 2) d_LV_entry_101 rfl ?_
        refine ev_goto (tgt := 106) d_LV_entry_102 rfl ?_
        exact ev_pick [] rfl (e_B_LV_entry_106     d f w m s g ((f_Walk_sectorHere d f w).1) ((f_Walk_offsetHere d f w).1) 2)
    · rw [if_neg h2]
      refine ev_aload_n d_LV_entry_66 rfl rfl ?_
      refine ev_get (v := .ref 1) gi_LV (ci := 0) rfl rfl 0 (by decide) gw_287 rfl d_LV_entry_67 ?_
      refine ev_aload_n d_LV_entry_70 rfl rfl ?_
      refine ev_get (v := .ref 7) gi_LV (ci := 0) rfl rfl 2 (by decide) gw_289 rfl d_LV_entry_71 ?_
      refine ev_callr (Mc := M_Walk_sectorHere) (v := some (.int ((f_Walk_sectorHere d f w).1))) (h1 := (eLV :: (HD d (HF f (HW w (HM m (HS s (HG g tl)))))))) (k2 := 0) (n2 := 0) (inv_V (q := 7) (av := []) (rest := [.ref 1]) rfl (ci := 3) rfl d_LV_entry_74 gw_801 gw_802 gw_803 mw_Walk_sectorHere nh_Walk_sectorHere pn_Walk_sectorHere rfl) d_LV_entry_74 pl_Walk_sectorHere (Nat.le_of_ble_eq_true rfl) (Nat.le_of_ble_eq_true rfl) (Nat.le_of_ble_eq_true rfl) rfl rfl (e_f_Walk_sectorHere (e0 := eLV) (tl := (HM m (HS s (HG g tl))))  d f w ) (Or.inl (len1 (lenHD (lenHF (lenHW (lenHM (lenHS (lenHG rfl)))))))) ?_
      refine ev_iload d_LV_entry_77 rfl ?_
      refine ev_callr (Mc := M_Disk_nameAt) (v := some (.int ((f_Disk_nameAt d ((f_Walk_sectorHere d f w).1) ((f_Walk_offsetHere d f w).1)).1))) (h1 := (eLV :: (HD d (HF f (HW w (HM m (HS s (HG g tl)))))))) (k2 := 0) (n2 := 0) (inv_V (q := 1) (av := [.int ((f_Walk_sectorHere d f w).1), .int ((f_Walk_offsetHere d f w).1)]) (rest := []) rfl (ci := 1) rfl d_LV_entry_79 gw_979 gw_420 gw_421 mw_Disk_nameAt nh_Disk_nameAt pn_Disk_nameAt rfl) d_LV_entry_79 pl_Disk_nameAt (Nat.le_of_ble_eq_true rfl) (Nat.le_of_ble_eq_true rfl) (Nat.le_of_ble_eq_true rfl) rfl rfl (e_f_Disk_nameAt (e0 := eLV) (tl := (HF f (HW w (HM m (HS s (HG g tl))))))  d ((f_Walk_sectorHere d f w).1) ((f_Walk_offsetHere d f w).1)) (Or.inl (len1 (lenHD (lenHF (lenHW (lenHM (lenHS (lenHG rfl)))))))) ?_
      exact ev_zret (ty := .int) rfl rfl d_LV_entry_82
  · rw [if_neg h1]
    exact ev_pick [] rfl (e_B_LV_entry_45     d f w m s g)
def B_LV_entry_9   (d : DS) (f : FS) (w : WS) (m : MS) (s : SS) (g : GS) (x2 : Int32) (x3 : Int32) (t0 : Int32) : Option ((Nat ⊕ Int32) × (DS × FS × WS)) :=
  if x3 < 0 then (B_LV_entry_20   d f w m s g) else (if x3 ≤ 2 then (if x2 < 0 then (B_LV_entry_45   d f w m s g) else (bnd (f_Walk_seekIndex d f w t0 x2) (fun q => thM q (fun x z => some (.inl x, (z.1, f, z.2))) (fun v z => B_LV_entry_42   z.1 f z.2 m s g x3 v)))) else (B_LV_entry_20   d f w m s g))
theorem e_B_LV_entry_9 {sc : Nat × (Nat → Int32)} {tl : List mn_E}    (d : DS) (f : FS) (w : WS) (m : MS) (s : SS) (g : GS) (x2 : Int32) (x3 : Int32) (t0 : Int32) : Ev sc 9 122 0 0 M_LV_entry 9 [(0, .ref 0), (2, .int x2), (3, .int x3)] [.int t0] (eLV :: (HD d (HF f (HW w (HM m (HS s (HG g tl))))))) (mapR ouIT (fun z => (eLV :: (HD z.1 (HF z.2.1 (HW z.2.2 (HM m (HS s (HG g tl)))))))) (B_LV_entry_9 d f w m s g x2 x3 t0)) := by
  unfold B_LV_entry_9
  refine ev_istore d_LV_entry_9 (by decide) rfl ?_
  refine ev_iload_n d_LV_entry_11 rfl rfl ?_
  refine ev_if_lt (tgt := 20) d_LV_entry_12 rfl (fun h1 => ?_) (fun h1 => ?_)
  · rw [if_pos h1]
    exact ev_pick [] rfl (e_B_LV_entry_20     d f w m s g)
  · rw [if_neg h1]
    refine ev_iload_n d_LV_entry_15 rfl rfl ?_
    refine ev_iconst (v := 2) d_LV_entry_16 rfl ?_
    refine ev_icmp_le (tgt := 28) d_LV_entry_17 rfl (fun h2 => ?_) (fun h2 => ?_)
    · rw [if_pos h2]
      refine ev_iload_n d_LV_entry_28 rfl rfl ?_
      refine ev_if_lt (tgt := 45) d_LV_entry_29 rfl (fun h3 => ?_) (fun h3 => ?_)
      · rw [if_pos h3]
        exact ev_pick [] rfl (e_B_LV_entry_45     d f w m s g)
      · rw [if_neg h3]
        refine ev_aload_n d_LV_entry_32 rfl rfl ?_
        refine ev_get (v := .ref 7) gi_LV (ci := 0) rfl rfl 2 (by decide) gw_289 rfl d_LV_entry_33 ?_
        refine ev_iload d_LV_entry_36 rfl ?_
        refine ev_iload_n d_LV_entry_38 rfl rfl ?_
        refine ev_callBT (rc := (f_Walk_seekIndex d f w t0 x2)) (ou := ouI) (Hs := (fun z => (eLV :: (HD z.1 (HF f (HW z.2 (HM m (HS s (HG g tl))))))))) (inv_V (q := 7) (av := [.int t0, .int x2]) (rest := []) rfl (ci := 3) rfl d_LV_entry_39 gw_975 gw_976 gw_977 mw_Walk_seekIndex nh_Walk_seekIndex pn_Walk_seekIndex rfl) d_LV_entry_39 pl_Walk_seekIndex (Nat.le_of_ble_eq_true rfl) (Nat.le_of_ble_eq_true rfl) (Nat.le_of_ble_eq_true rfl) (e_f_Walk_seekIndex (e0 := eLV) (tl := (HM m (HS s (HG g tl))))  d f w t0 x2) (fun _ => (len1 (lenHD (lenHF (lenHW (lenHM (lenHS (lenHG rfl)))))))) rfl (fun x z h4 => ?_) (fun v z h4 => ⟨_, rfl, ?_⟩)
        · rfl
        · exact ev_pick [1, 3] rfl (e_B_LV_entry_42     z.1 f z.2 m s g x3 v)
    · rw [if_neg h2]
      exact ev_pick [] rfl (e_B_LV_entry_20     d f w m s g)
def B_LV_entry_4   (d : DS) (f : FS) (w : WS) (m : MS) (s : SS) (g : GS) (x1 : Int32) (x2 : Int32) (x3 : Int32) : Option ((Nat ⊕ Int32) × (DS × FS × WS)) :=
  bnd (f_LV_requireDirectory d f w m s g x1) (fun q => thM q (fun x z => some (.inl x, (z.1, z.2, w))) (fun v z => B_LV_entry_9   z.1 z.2 w m s g x2 x3 v))
theorem e_B_LV_entry_4 {sc : Nat × (Nat → Int32)} {tl : List mn_E}    (d : DS) (f : FS) (w : WS) (m : MS) (s : SS) (g : GS) (x1 : Int32) (x2 : Int32) (x3 : Int32) : Ev sc 9 122 0 0 M_LV_entry 4 [(0, .ref 0), (1, .int x1), (2, .int x2), (3, .int x3)] [] (eLV :: (HD d (HF f (HW w (HM m (HS s (HG g tl))))))) (mapR ouIT (fun z => (eLV :: (HD z.1 (HF z.2.1 (HW z.2.2 (HM m (HS s (HG g tl)))))))) (B_LV_entry_4 d f w m s g x1 x2 x3)) := by
  unfold B_LV_entry_4
  refine ev_aload_n d_LV_entry_4 rfl rfl ?_
  refine ev_iload_n d_LV_entry_5 rfl rfl ?_
  refine ev_callBT (rc := (f_LV_requireDirectory d f w m s g x1)) (ou := ouI) (Hs := (fun z => (eLV :: (HD z.1 (HF z.2 (HW w (HM m (HS s (HG g tl))))))))) (inv_V (q := 0) (av := [.int x1]) (rest := []) rfl (ci := 0) rfl d_LV_entry_6 gw_645 gw_647 gw_28 mw_LV_requireDirectory nh_LV_requireDirectory pn_LV_requireDirectory rfl) d_LV_entry_6 pl_LV_requireDirectory (Nat.le_of_ble_eq_true rfl) (Nat.le_of_ble_eq_true rfl) (Nat.le_of_ble_eq_true rfl) (e_f_LV_requireDirectory (tl := tl)  d f w m s g x1) (fun _ => (len1 (lenHD (lenHF (lenHW (lenHM (lenHS (lenHG rfl)))))))) rfl (fun x z h1 => ?_) (fun v z h1 => ⟨_, rfl, ?_⟩)
  · rfl
  · exact ev_pick [0, 2, 3] rfl (e_B_LV_entry_9     z.1 z.2 w m s g x2 x3 v)
def f_LV_entry   (d : DS) (f : FS) (w : WS) (m : MS) (s : SS) (g : GS) (x1 : Int32) (x2 : Int32) (x3 : Int32) : Option ((Nat ⊕ Int32) × (DS × FS × WS)) :=
  thM (f_LV_requirePower d f w m s g) (fun x z => some (.inl x, (d, f, w))) (fun v z => B_LV_entry_4   d f w m s g x1 x2 x3)
theorem e_f_LV_entry {sc : Nat × (Nat → Int32)} {tl : List mn_E}    (d : DS) (f : FS) (w : WS) (m : MS) (s : SS) (g : GS) (x1 : Int32) (x2 : Int32) (x3 : Int32) : Ev sc 9 122 0 0 M_LV_entry 0 [(0, .ref 0), (1, .int x1), (2, .int x2), (3, .int x3)] [] (eLV :: (HD d (HF f (HW w (HM m (HS s (HG g tl))))))) (mapR ouIT (fun z => (eLV :: (HD z.1 (HF z.2.1 (HW z.2.2 (HM m (HS s (HG g tl)))))))) (f_LV_entry d f w m s g x1 x2 x3)) := by
  unfold f_LV_entry
  refine ev_aload_n d_LV_entry_0 rfl rfl ?_
  refine ev_callT (q := (f_LV_requirePower d f w m s g)) (ou := ouV) (Hs := (fun z => (eLV :: (HD d (HF f (HW w (HM m (HS s (HG g tl))))))))) (inv_V (q := 0) (av := []) (rest := []) rfl (ci := 0) rfl d_LV_entry_1 gw_576 gw_578 gw_26 mw_LV_requirePower nh_LV_requirePower pn_LV_requirePower rfl) d_LV_entry_1 pl_LV_requirePower (Nat.le_of_ble_eq_true rfl) (Nat.le_of_ble_eq_true rfl) (Nat.le_of_ble_eq_true rfl) (e_f_LV_requirePower (tl := tl)  d f w m s g ) (fun _ => (len1 (lenHD (lenHF (lenHW (lenHM (lenHS (lenHG rfl)))))))) rfl (fun x z h1 => ?_) (fun v z h1 => ⟨_, rfl, ?_⟩)
  · rw [h1]; rfl
  · rw [h1]
    exact ev_pick [0, 1, 2, 3] rfl (e_B_LV_entry_4     d f w m s g x1 x2 x3)
def B_LV_scavenge_29   (d : DS) (f : FS) (w : WS) (m : MS) (s : SS) (g : GS) (t0 : Int32) : Option (Int32 × (DS × FS × SS)) :=
  some (t0, (d, f, s))
theorem e_B_LV_scavenge_29 {sc : Nat × (Nat → Int32)} {tl : List mn_E}    (d : DS) (f : FS) (w : WS) (m : MS) (s : SS) (g : GS) (t0 : Int32) : Ev sc 403 6247 0 0 M_LV_scavenge 29 [] [.int t0] (eLV :: (HD d (HF f (HW w (HM m (HS s (HG g tl))))))) (mapR ouI (fun z => (eLV :: (HD z.1 (HF z.2.1 (HW w (HM m (HS z.2.2 (HG g tl)))))))) (B_LV_scavenge_29 d f w m s g t0)) := by
  unfold B_LV_scavenge_29
  exact ev_zret (ty := .int) rfl rfl d_LV_scavenge_29
def B_LV_scavenge_21   (d : DS) (f : FS) (w : WS) (m : MS) (s : SS) (g : GS) : Option (Int32 × (DS × FS × SS)) :=
  bnd (f_Scav_result d f w m s 0) (fun q => B_LV_scavenge_29   d f w m s g q.1)
theorem e_B_LV_scavenge_21 {sc : Nat × (Nat → Int32)} {tl : List mn_E}    (d : DS) (f : FS) (w : WS) (m : MS) (s : SS) (g : GS) : Ev sc 403 6247 0 0 M_LV_scavenge 21 [(0, .ref 0)] [] (eLV :: (HD d (HF f (HW w (HM m (HS s (HG g tl))))))) (mapR ouI (fun z => (eLV :: (HD z.1 (HF z.2.1 (HW w (HM m (HS z.2.2 (HG g tl)))))))) (B_LV_scavenge_21 d f w m s g)) := by
  unfold B_LV_scavenge_21
  refine ev_aload_n d_LV_scavenge_21 rfl rfl ?_
  refine ev_get (v := .ref 9) gi_LV (ci := 0) rfl rfl 4 (by decide) gw_291 rfl d_LV_scavenge_22 ?_
  refine ev_iconst (v := 0) d_LV_scavenge_25 rfl ?_
  refine ev_callB (rc := (f_Scav_result d f w m s 0)) (ou := ouI) (Hs := (fun z => (eLV :: (HD d (HF f (HW w (HM m (HS s (HG g tl))))))))) (inv_V (q := 9) (av := [.int 0]) (rest := []) rfl (ci := 5) rfl d_LV_scavenge_26 gw_495 gw_496 gw_497 mw_Scav_result nh_Scav_result pn_Scav_result rfl) d_LV_scavenge_26 pl_Scav_result (Nat.le_of_ble_eq_true rfl) (Nat.le_of_ble_eq_true rfl) (Nat.le_of_ble_eq_true rfl) (e_f_Scav_result (e0 := eLV) (tl := (HG g tl))  d f w m s 0) (fun _ => (len1 (lenHD (lenHF (lenHW (lenHM (lenHS (lenHG rfl)))))))) (fun v z h1 => ⟨_, rfl, ?_⟩)
  exact ev_pick [] rfl (e_B_LV_scavenge_29     d f w m s g v)
def B_LV_scavenge_14   (d : DS) (f : FS) (w : WS) (m : MS) (s : SS) (g : GS) : Option (Int32 × (DS × FS × SS)) :=
  bnd (f_Scav_run d f w m s) (fun q => B_LV_scavenge_21   q.2.1 f w m q.2.2 g)
theorem e_B_LV_scavenge_14 {sc : Nat × (Nat → Int32)} {tl : List mn_E}    (d : DS) (f : FS) (w : WS) (m : MS) (s : SS) (g : GS) : Ev sc 403 6247 0 0 M_LV_scavenge 14 [(0, .ref 0)] [] (eLV :: (HD d (HF f (HW w (HM m (HS s (HG g tl))))))) (mapR ouI (fun z => (eLV :: (HD z.1 (HF z.2.1 (HW w (HM m (HS z.2.2 (HG g tl)))))))) (B_LV_scavenge_14 d f w m s g)) := by
  unfold B_LV_scavenge_14
  refine ev_aload_n d_LV_scavenge_14 rfl rfl ?_
  refine ev_get (v := .ref 9) gi_LV (ci := 0) rfl rfl 4 (by decide) gw_291 rfl d_LV_scavenge_15 ?_
  refine ev_callB (rc := (f_Scav_run d f w m s)) (ou := ouV) (Hs := (fun z => (eLV :: (HD z.1 (HF f (HW w (HM m (HS z.2 (HG g tl))))))))) (inv_V (q := 9) (av := []) (rest := []) rfl (ci := 5) rfl d_LV_scavenge_18 gw_326 gw_327 gw_328 mw_Scav_run nh_Scav_run pn_Scav_run rfl) d_LV_scavenge_18 pl_Scav_run (Nat.le_of_ble_eq_true rfl) (Nat.le_of_ble_eq_true rfl) (Nat.le_of_ble_eq_true rfl) (e_f_Scav_run (e0 := eLV) (tl := (HG g tl))  d f w m s ) (fun _ => (len1 (lenHD (lenHF (lenHW (lenHM (lenHS (lenHG rfl)))))))) (fun v z h1 => ⟨_, rfl, ?_⟩)
  exact ev_pick [0] rfl (e_B_LV_scavenge_21     z.1 f w m z.2 g)
def B_LV_scavenge_7   (d : DS) (f : FS) (w : WS) (m : MS) (s : SS) (g : GS) : Option (Int32 × (DS × FS × SS)) :=
  bnd (f_Finder_forgetAll d f) (fun q => B_LV_scavenge_14   d q.2 w m s g)
theorem e_B_LV_scavenge_7 {sc : Nat × (Nat → Int32)} {tl : List mn_E}    (d : DS) (f : FS) (w : WS) (m : MS) (s : SS) (g : GS) : Ev sc 403 6247 0 0 M_LV_scavenge 7 [(0, .ref 0)] [] (eLV :: (HD d (HF f (HW w (HM m (HS s (HG g tl))))))) (mapR ouI (fun z => (eLV :: (HD z.1 (HF z.2.1 (HW w (HM m (HS z.2.2 (HG g tl)))))))) (B_LV_scavenge_7 d f w m s g)) := by
  unfold B_LV_scavenge_7
  refine ev_aload_n d_LV_scavenge_7 rfl rfl ?_
  refine ev_get (v := .ref 5) gi_LV (ci := 0) rfl rfl 1 (by decide) gw_288 rfl d_LV_scavenge_8 ?_
  refine ev_callB (rc := (f_Finder_forgetAll d f)) (ou := ouV) (Hs := (fun z => (eLV :: (HD d (HF z (HW w (HM m (HS s (HG g tl))))))))) (inv_V (q := 5) (av := []) (rest := []) rfl (ci := 2) rfl d_LV_scavenge_11 gw_314 gw_315 gw_316 mw_Finder_forgetAll nh_Finder_forgetAll pn_Finder_forgetAll rfl) d_LV_scavenge_11 pl_Finder_forgetAll (Nat.le_of_ble_eq_true rfl) (Nat.le_of_ble_eq_true rfl) (Nat.le_of_ble_eq_true rfl) (e_f_Finder_forgetAll (e0 := eLV) (tl := (HW w (HM m (HS s (HG g tl)))))  d f ) (fun _ => (len1 (lenHD (lenHF (lenHW (lenHM (lenHS (lenHG rfl)))))))) (fun v z h1 => ⟨_, rfl, ?_⟩)
  exact ev_pick [0] rfl (e_B_LV_scavenge_14     d z w m s g)
def f_LV_scavenge   (d : DS) (f : FS) (w : WS) (m : MS) (s : SS) (g : GS) : Option (Int32 × (DS × FS × SS)) :=
  B_LV_scavenge_7   ((f_Disk_restorePower d).2) f w m s g
theorem e_f_LV_scavenge {sc : Nat × (Nat → Int32)} {tl : List mn_E}    (d : DS) (f : FS) (w : WS) (m : MS) (s : SS) (g : GS) : Ev sc 403 6247 0 0 M_LV_scavenge 0 [(0, .ref 0)] [] (eLV :: (HD d (HF f (HW w (HM m (HS s (HG g tl))))))) (mapR ouI (fun z => (eLV :: (HD z.1 (HF z.2.1 (HW w (HM m (HS z.2.2 (HG g tl)))))))) (f_LV_scavenge d f w m s g)) := by
  unfold f_LV_scavenge
  refine ev_aload_n d_LV_scavenge_0 rfl rfl ?_
  refine ev_get (v := .ref 1) gi_LV (ci := 0) rfl rfl 0 (by decide) gw_287 rfl d_LV_scavenge_1 ?_
  refine ev_callr (Mc := M_Disk_restorePower) (v := none) (h1 := (eLV :: (HD ((f_Disk_restorePower d).2) (HF f (HW w (HM m (HS s (HG g tl)))))))) (k2 := 0) (n2 := 0) (inv_V (q := 1) (av := []) (rest := []) rfl (ci := 1) rfl d_LV_scavenge_4 gw_310 gw_311 gw_312 mw_Disk_restorePower nh_Disk_restorePower pn_Disk_restorePower rfl) d_LV_scavenge_4 pl_Disk_restorePower (Nat.le_of_ble_eq_true rfl) (Nat.le_of_ble_eq_true rfl) (Nat.le_of_ble_eq_true rfl) rfl rfl (e_f_Disk_restorePower (e0 := eLV) (tl := (HF f (HW w (HM m (HS s (HG g tl))))))  d ) (Or.inl (len1 (lenHD (lenHF (lenHW (lenHM (lenHS (lenHG rfl)))))))) ?_
  exact ev_pick [0] rfl (e_B_LV_scavenge_7     ((f_Disk_restorePower d).2) f w m s g)
def B_LV_charge_10   (d : DS) (f : FS) (w : WS) (m : MS) (s : SS) (g : GS) : ((Nat ⊕ Unit) × DS) :=
  (.inl 3, d)
theorem e_B_LV_charge_10 {sc : Nat × (Nat → Int32)} {tl : List mn_E}    (d : DS) (f : FS) (w : WS) (m : MS) (s : SS) (g : GS) : Ev sc 7 93 0 0 M_LV_charge 10 [] [] (eLV :: (HD d (HF f (HW w (HM m (HS s (HG g tl))))))) (mapT ouVT (fun z => (eLV :: (HD z (HF f (HW w (HM m (HS s (HG g tl)))))))) (B_LV_charge_10 d f w m s g)) := by
  unfold B_LV_charge_10
  exact ev_throw (x := 3) (names := gd_up) d_LV_charge_10 d_LV_charge_13 d_LV_charge_14 d_LV_charge_17 gw_678 gw_679 gw_114 tw_LV_64 (by decide +kernel) (by decide +kernel) rfl (by decide) (Nat.le_of_ble_eq_true rfl)
def B_LV_charge_30   (d : DS) (f : FS) (w : WS) (m : MS) (s : SS) (g : GS) : ((Nat ⊕ Unit) × DS) :=
  (.inr (), d)
theorem e_B_LV_charge_30 {sc : Nat × (Nat → Int32)} {tl : List mn_E}    (d : DS) (f : FS) (w : WS) (m : MS) (s : SS) (g : GS) : Ev sc 7 93 0 0 M_LV_charge 30 [] [] (eLV :: (HD d (HF f (HW w (HM m (HS s (HG g tl))))))) (mapT ouVT (fun z => (eLV :: (HD z (HF f (HW w (HM m (HS s (HG g tl)))))))) (B_LV_charge_30 d f w m s g)) := by
  unfold B_LV_charge_30
  exact ev_vret rfl d_LV_charge_30
def B_LV_charge_22   (d : DS) (f : FS) (w : WS) (m : MS) (s : SS) (g : GS) (x1 : Int32) : ((Nat ⊕ Unit) × DS) :=
  B_LV_charge_30   ((f_Disk_limitWrites d x1).2) f w m s g
theorem e_B_LV_charge_22 {sc : Nat × (Nat → Int32)} {tl : List mn_E}    (d : DS) (f : FS) (w : WS) (m : MS) (s : SS) (g : GS) (x1 : Int32) : Ev sc 7 93 0 0 M_LV_charge 22 [(0, .ref 0), (1, .int x1)] [] (eLV :: (HD d (HF f (HW w (HM m (HS s (HG g tl))))))) (mapT ouVT (fun z => (eLV :: (HD z (HF f (HW w (HM m (HS s (HG g tl)))))))) (B_LV_charge_22 d f w m s g x1)) := by
  unfold B_LV_charge_22
  refine ev_aload_n d_LV_charge_22 rfl rfl ?_
  refine ev_get (v := .ref 1) gi_LV (ci := 0) rfl rfl 0 (by decide) gw_287 rfl d_LV_charge_23 ?_
  refine ev_iload_n d_LV_charge_26 rfl rfl ?_
  refine ev_callr (Mc := M_Disk_limitWrites) (v := none) (h1 := (eLV :: (HD ((f_Disk_limitWrites d x1).2) (HF f (HW w (HM m (HS s (HG g tl)))))))) (k2 := 0) (n2 := 0) (inv_V (q := 1) (av := [.int x1]) (rest := []) rfl (ci := 1) rfl d_LV_charge_27 gw_987 gw_988 gw_989 mw_Disk_limitWrites nh_Disk_limitWrites pn_Disk_limitWrites rfl) d_LV_charge_27 pl_Disk_limitWrites (Nat.le_of_ble_eq_true rfl) (Nat.le_of_ble_eq_true rfl) (Nat.le_of_ble_eq_true rfl) rfl rfl (e_f_Disk_limitWrites (e0 := eLV) (tl := (HF f (HW w (HM m (HS s (HG g tl))))))  d x1) (Or.inl (len1 (lenHD (lenHF (lenHW (lenHM (lenHS (lenHG rfl)))))))) ?_
  exact ev_pick [] rfl (e_B_LV_charge_30     ((f_Disk_limitWrites d x1).2) f w m s g)
def f_LV_charge   (d : DS) (f : FS) (w : WS) (m : MS) (s : SS) (g : GS) (x1 : Int32) : ((Nat ⊕ Unit) × DS) :=
  if x1 < 0 then (B_LV_charge_10   d f w m s g) else (if x1 ≤ 99 then (thM (f_LV_requirePower d f w m s g) (fun x z => (.inl x, d)) (fun v z => B_LV_charge_22   d f w m s g x1)) else (B_LV_charge_10   d f w m s g))
theorem e_f_LV_charge {sc : Nat × (Nat → Int32)} {tl : List mn_E}    (d : DS) (f : FS) (w : WS) (m : MS) (s : SS) (g : GS) (x1 : Int32) : Ev sc 7 93 0 0 M_LV_charge 0 [(0, .ref 0), (1, .int x1)] [] (eLV :: (HD d (HF f (HW w (HM m (HS s (HG g tl))))))) (mapT ouVT (fun z => (eLV :: (HD z (HF f (HW w (HM m (HS s (HG g tl)))))))) (f_LV_charge d f w m s g x1)) := by
  unfold f_LV_charge
  refine ev_iload_n d_LV_charge_0 rfl rfl ?_
  refine ev_if_lt (tgt := 10) d_LV_charge_1 rfl (fun h1 => ?_) (fun h1 => ?_)
  · rw [if_pos h1]
    exact ev_pick [] rfl (e_B_LV_charge_10     d f w m s g)
  · rw [if_neg h1]
    refine ev_iload_n d_LV_charge_4 rfl rfl ?_
    refine ev_bipush (v := 99) d_LV_charge_5 rfl ?_
    refine ev_icmp_le (tgt := 18) d_LV_charge_7 rfl (fun h2 => ?_) (fun h2 => ?_)
    · rw [if_pos h2]
      refine ev_aload_n d_LV_charge_18 rfl rfl ?_
      refine ev_callT (q := (f_LV_requirePower d f w m s g)) (ou := ouV) (Hs := (fun z => (eLV :: (HD d (HF f (HW w (HM m (HS s (HG g tl))))))))) (inv_V (q := 0) (av := []) (rest := []) rfl (ci := 0) rfl d_LV_charge_19 gw_576 gw_578 gw_26 mw_LV_requirePower nh_LV_requirePower pn_LV_requirePower rfl) d_LV_charge_19 pl_LV_requirePower (Nat.le_of_ble_eq_true rfl) (Nat.le_of_ble_eq_true rfl) (Nat.le_of_ble_eq_true rfl) (e_f_LV_requirePower (tl := tl)  d f w m s g ) (fun _ => (len1 (lenHD (lenHF (lenHW (lenHM (lenHS (lenHG rfl)))))))) rfl (fun x z h3 => ?_) (fun v z h3 => ⟨_, rfl, ?_⟩)
      · rw [h3]; rfl
      · rw [h3]
        exact ev_pick [0, 1] rfl (e_B_LV_charge_22     d f w m s g x1)
    · rw [if_neg h2]
      exact ev_pick [] rfl (e_B_LV_charge_10     d f w m s g)
def B_LV_spoil_21   (d : DS) (f : FS) (w : WS) (m : MS) (s : SS) (g : GS) : (Int32 × DS) :=
  (0, d)
theorem e_B_LV_spoil_21 {sc : Nat × (Nat → Int32)} {tl : List mn_E}    (d : DS) (f : FS) (w : WS) (m : MS) (s : SS) (g : GS) : Ev sc 2 31 0 0 M_LV_spoil 21 [] [] (eLV :: (HD d (HF f (HW w (HM m (HS s (HG g tl))))))) (mapT ouI (fun z => (eLV :: (HD z (HF f (HW w (HM m (HS s (HG g tl)))))))) (B_LV_spoil_21 d f w m s g)) := by
  unfold B_LV_spoil_21
  refine ev_iconst (v := 0) d_LV_spoil_21 rfl ?_
  exact ev_zret (ty := .boolean) rfl rfl d_LV_spoil_22
def B_LV_spoil_33   (d : DS) (f : FS) (w : WS) (m : MS) (s : SS) (g : GS) : (Int32 × DS) :=
  (1, d)
theorem e_B_LV_spoil_33 {sc : Nat × (Nat → Int32)} {tl : List mn_E}    (d : DS) (f : FS) (w : WS) (m : MS) (s : SS) (g : GS) : Ev sc 2 31 0 0 M_LV_spoil 33 [] [] (eLV :: (HD d (HF f (HW w (HM m (HS s (HG g tl))))))) (mapT ouI (fun z => (eLV :: (HD z (HF f (HW w (HM m (HS s (HG g tl)))))))) (B_LV_spoil_33 d f w m s g)) := by
  unfold B_LV_spoil_33
  refine ev_iconst (v := 1) d_LV_spoil_33 rfl ?_
  exact ev_zret (ty := .boolean) rfl rfl d_LV_spoil_34
def f_LV_spoil   (d : DS) (f : FS) (w : WS) (m : MS) (s : SS) (g : GS) (x1 : Int32) (x2 : Int32) (x3 : Int32) : (Int32 × DS) :=
  if x2 < 0 then (B_LV_spoil_21   d f w m s g) else (if 8 ≤ x2 then (B_LV_spoil_21   d f w m s g) else (if ¬ ((f_Disk_isInUse d x1).1) = 0 then (B_LV_spoil_33   ((f_Disk_setByte d x1 x2 x3).2) f w m s g) else (B_LV_spoil_21   d f w m s g)))
theorem e_f_LV_spoil {sc : Nat × (Nat → Int32)} {tl : List mn_E}    (d : DS) (f : FS) (w : WS) (m : MS) (s : SS) (g : GS) (x1 : Int32) (x2 : Int32) (x3 : Int32) : Ev sc 2 31 0 0 M_LV_spoil 0 [(0, .ref 0), (1, .int x1), (2, .int x2), (3, .int x3)] [] (eLV :: (HD d (HF f (HW w (HM m (HS s (HG g tl))))))) (mapT ouI (fun z => (eLV :: (HD z (HF f (HW w (HM m (HS s (HG g tl)))))))) (f_LV_spoil d f w m s g x1 x2 x3)) := by
  unfold f_LV_spoil
  refine ev_iload_n d_LV_spoil_0 rfl rfl ?_
  refine ev_if_lt (tgt := 21) d_LV_spoil_1 rfl (fun h1 => ?_) (fun h1 => ?_)
  · rw [if_pos h1]
    exact ev_pick [] rfl (e_B_LV_spoil_21     d f w m s g)
  · rw [if_neg h1]
    refine ev_iload_n d_LV_spoil_4 rfl rfl ?_
    refine ev_bipush (v := 8) d_LV_spoil_5 rfl ?_
    refine ev_icmp_ge (tgt := 21) d_LV_spoil_7 rfl (fun h2 => ?_) (fun h2 => ?_)
    · rw [if_pos h2]
      exact ev_pick [] rfl (e_B_LV_spoil_21     d f w m s g)
    · rw [if_neg h2]
      refine ev_aload_n d_LV_spoil_10 rfl rfl ?_
      refine ev_get (v := .ref 1) gi_LV (ci := 0) rfl rfl 0 (by decide) gw_287 rfl d_LV_spoil_11 ?_
      refine ev_iload_n d_LV_spoil_14 rfl rfl ?_
      refine ev_callr (Mc := M_Disk_isInUse) (v := some (.int ((f_Disk_isInUse d x1).1))) (h1 := (eLV :: (HD d (HF f (HW w (HM m (HS s (HG g tl)))))))) (k2 := 0) (n2 := 0) (inv_V (q := 1) (av := [.int x1]) (rest := []) rfl (ci := 1) rfl d_LV_spoil_15 gw_503 gw_355 gw_356 mw_Disk_isInUse nh_Disk_isInUse pn_Disk_isInUse rfl) d_LV_spoil_15 pl_Disk_isInUse (Nat.le_of_ble_eq_true rfl) (Nat.le_of_ble_eq_true rfl) (Nat.le_of_ble_eq_true rfl) rfl rfl (e_f_Disk_isInUse (e0 := eLV) (tl := (HF f (HW w (HM m (HS s (HG g tl))))))  d x1) (Or.inl (len1 (lenHD (lenHF (lenHW (lenHM (lenHS (lenHG rfl)))))))) ?_
      refine ev_if_ne (tgt := 23) d_LV_spoil_18 rfl (fun h3 => ?_) (fun h3 => ?_)
      · rw [if_pos h3]
        refine ev_aload_n d_LV_spoil_23 rfl rfl ?_
        refine ev_get (v := .ref 1) gi_LV (ci := 0) rfl rfl 0 (by decide) gw_287 rfl d_LV_spoil_24 ?_
        refine ev_iload_n d_LV_spoil_27 rfl rfl ?_
        refine ev_iload_n d_LV_spoil_28 rfl rfl ?_
        refine ev_iload_n d_LV_spoil_29 rfl rfl ?_
        refine ev_callr (Mc := M_Disk_setByte) (v := none) (h1 := (eLV :: (HD ((f_Disk_setByte d x1 x2 x3).2) (HF f (HW w (HM m (HS s (HG g tl)))))))) (k2 := 0) (n2 := 0) (inv_V (q := 1) (av := [.int x1, .int x2, .int x3]) (rest := []) rfl (ci := 1) rfl d_LV_spoil_30 gw_504 gw_190 gw_191 mw_Disk_setByte nh_Disk_setByte pn_Disk_setByte rfl) d_LV_spoil_30 pl_Disk_setByte (Nat.le_of_ble_eq_true rfl) (Nat.le_of_ble_eq_true rfl) (Nat.le_of_ble_eq_true rfl) rfl rfl (e_f_Disk_setByte (e0 := eLV) (tl := (HF f (HW w (HM m (HS s (HG g tl))))))  d x1 x2 x3) (Or.inl (len1 (lenHD (lenHF (lenHW (lenHM (lenHS (lenHG rfl)))))))) ?_
        exact ev_pick [] rfl (e_B_LV_spoil_33     ((f_Disk_setByte d x1 x2 x3).2) f w m s g)
      · rw [if_neg h3]
        exact ev_pick [] rfl (e_B_LV_spoil_21     d f w m s g)
def B_LV_scratch_21   (d : DS) (f : FS) (w : WS) (m : MS) (s : SS) (g : GS) : (Int32 × DS) :=
  (1, d)
theorem e_B_LV_scratch_21 {sc : Nat × (Nat → Int32)} {tl : List mn_E}    (d : DS) (f : FS) (w : WS) (m : MS) (s : SS) (g : GS) : Ev sc 2 26 0 0 M_LV_scratch 21 [] [] (eLV :: (HD d (HF f (HW w (HM m (HS s (HG g tl))))))) (mapT ouI (fun z => (eLV :: (HD z (HF f (HW w (HM m (HS s (HG g tl)))))))) (B_LV_scratch_21 d f w m s g)) := by
  unfold B_LV_scratch_21
  refine ev_iconst (v := 1) d_LV_scratch_21 rfl ?_
  exact ev_zret (ty := .boolean) rfl rfl d_LV_scratch_22
def f_LV_scratch   (d : DS) (f : FS) (w : WS) (m : MS) (s : SS) (g : GS) (x1 : Int32) : (Int32 × DS) :=
  if ¬ (xRead d x1) = 0 then (B_LV_scratch_21   ((x_Disk_makeUnreadable d x1).2) f w m s g) else ((0, d))
theorem e_f_LV_scratch {sc : Nat × (Nat → Int32)} {tl : List mn_E}    (d : DS) (f : FS) (w : WS) (m : MS) (s : SS) (g : GS) (x1 : Int32) : Ev sc 2 26 0 0 M_LV_scratch 0 [(0, .ref 0), (1, .int x1)] [] (eLV :: (HD d (HF f (HW w (HM m (HS s (HG g tl))))))) (mapT ouI (fun z => (eLV :: (HD z (HF f (HW w (HM m (HS s (HG g tl)))))))) (f_LV_scratch d f w m s g x1)) := by
  unfold f_LV_scratch
  refine ev_aload_n d_LV_scratch_0 rfl rfl ?_
  refine ev_get (v := .ref 1) gi_LV (ci := 0) rfl rfl 0 (by decide) gw_287 rfl d_LV_scratch_1 ?_
  refine ev_iload_n d_LV_scratch_4 rfl rfl ?_
  refine ev_callr (Mc := M_Disk_isReadable) (v := some (.int (xRead d x1))) (h1 := (eLV :: (HD d (HF f (HW w (HM m (HS s (HG g tl)))))))) (k2 := 0) (n2 := 0) (inv_V (q := 1) (av := [.int x1]) (rest := []) rfl (ci := 1) rfl d_LV_scratch_5 gw_509 gw_510 gw_511 mw_Disk_isReadable nh_Disk_isReadable pn_Disk_isReadable rfl) d_LV_scratch_5 pl_Disk_isReadable (Nat.le_of_ble_eq_true rfl) (Nat.le_of_ble_eq_true rfl) (Nat.le_of_ble_eq_true rfl) rfl rfl (c_Disk_isReadable (e0 := eLV) (tl := (HF f (HW w (HM m (HS s (HG g tl))))))  d x1) (Or.inl (len1 (lenHD (lenHF (lenHW (lenHM (lenHS (lenHG rfl)))))))) ?_
  refine ev_if_ne (tgt := 13) d_LV_scratch_8 rfl (fun h1 => ?_) (fun h1 => ?_)
  · rw [if_pos h1]
    refine ev_aload_n d_LV_scratch_13 rfl rfl ?_
    refine ev_get (v := .ref 1) gi_LV (ci := 0) rfl rfl 0 (by decide) gw_287 rfl d_LV_scratch_14 ?_
    refine ev_iload_n d_LV_scratch_17 rfl rfl ?_
    refine ev_callr (Mc := M_Disk_makeUnreadable) (v := none) (h1 := (eLV :: (HD ((x_Disk_makeUnreadable d x1).2) (HF f (HW w (HM m (HS s (HG g tl)))))))) (k2 := 0) (n2 := 0) (inv_V (q := 1) (av := [.int x1]) (rest := []) rfl (ci := 1) rfl d_LV_scratch_18 gw_513 gw_514 gw_515 mw_Disk_makeUnreadable nh_Disk_makeUnreadable pn_Disk_makeUnreadable rfl) d_LV_scratch_18 pl_Disk_makeUnreadable (Nat.le_of_ble_eq_true rfl) (Nat.le_of_ble_eq_true rfl) (Nat.le_of_ble_eq_true rfl) rfl rfl (c_Disk_makeUnreadable (e0 := eLV) (tl := (HF f (HW w (HM m (HS s (HG g tl))))))  d x1) (Or.inl (len1 (lenHD (lenHF (lenHW (lenHM (lenHS (lenHG rfl)))))))) ?_
    exact ev_pick [] rfl (e_B_LV_scratch_21     ((x_Disk_makeUnreadable d x1).2) f w m s g)
  · rw [if_neg h1]
    refine ev_iconst (v := 0) d_LV_scratch_11 rfl ?_
    exact ev_zret (ty := .boolean) rfl rfl d_LV_scratch_12
def B_LV_ghost_22   (d : DS) (f : FS) (w : WS) (m : MS) (s : SS) (g : GS) : (Int32 × DS) :=
  (0, d)
theorem e_B_LV_ghost_22 {sc : Nat × (Nat → Int32)} {tl : List mn_E}    (d : DS) (f : FS) (w : WS) (m : MS) (s : SS) (g : GS) : Ev sc 2 33 0 0 M_LV_ghost 22 [] [] (eLV :: (HD d (HF f (HW w (HM m (HS s (HG g tl))))))) (mapT ouI (fun z => (eLV :: (HD z (HF f (HW w (HM m (HS s (HG g tl)))))))) (B_LV_ghost_22 d f w m s g)) := by
  unfold B_LV_ghost_22
  refine ev_iconst (v := 0) d_LV_ghost_22 rfl ?_
  exact ev_zret (ty := .boolean) rfl rfl d_LV_ghost_23
def B_LV_ghost_33   (d : DS) (f : FS) (w : WS) (m : MS) (s : SS) (g : GS) : (Int32 × DS) :=
  (1, d)
theorem e_B_LV_ghost_33 {sc : Nat × (Nat → Int32)} {tl : List mn_E}    (d : DS) (f : FS) (w : WS) (m : MS) (s : SS) (g : GS) : Ev sc 2 33 0 0 M_LV_ghost 33 [] [] (eLV :: (HD d (HF f (HW w (HM m (HS s (HG g tl))))))) (mapT ouI (fun z => (eLV :: (HD z (HF f (HW w (HM m (HS s (HG g tl)))))))) (B_LV_ghost_33 d f w m s g)) := by
  unfold B_LV_ghost_33
  refine ev_iconst (v := 1) d_LV_ghost_33 rfl ?_
  exact ev_zret (ty := .boolean) rfl rfl d_LV_ghost_34
def f_LV_ghost   (d : DS) (f : FS) (w : WS) (m : MS) (s : SS) (g : GS) (x1 : Int32) (x2 : Int32) : (Int32 × DS) :=
  if ((f_Disk_isInUse d x1).1) = 0 then (B_LV_ghost_22   d f w m s g) else (if ¬ ((f_Disk_isFree d x2).1) = 0 then (B_LV_ghost_33   (xCopy d x1 x2) f w m s g) else (B_LV_ghost_22   d f w m s g))
theorem e_f_LV_ghost {sc : Nat × (Nat → Int32)} {tl : List mn_E}    (d : DS) (f : FS) (w : WS) (m : MS) (s : SS) (g : GS) (x1 : Int32) (x2 : Int32) : Ev sc 2 33 0 0 M_LV_ghost 0 [(0, .ref 0), (1, .int x1), (2, .int x2)] [] (eLV :: (HD d (HF f (HW w (HM m (HS s (HG g tl))))))) (mapT ouI (fun z => (eLV :: (HD z (HF f (HW w (HM m (HS s (HG g tl)))))))) (f_LV_ghost d f w m s g x1 x2)) := by
  unfold f_LV_ghost
  refine ev_aload_n d_LV_ghost_0 rfl rfl ?_
  refine ev_get (v := .ref 1) gi_LV (ci := 0) rfl rfl 0 (by decide) gw_287 rfl d_LV_ghost_1 ?_
  refine ev_iload_n d_LV_ghost_4 rfl rfl ?_
  refine ev_callr (Mc := M_Disk_isInUse) (v := some (.int ((f_Disk_isInUse d x1).1))) (h1 := (eLV :: (HD d (HF f (HW w (HM m (HS s (HG g tl)))))))) (k2 := 0) (n2 := 0) (inv_V (q := 1) (av := [.int x1]) (rest := []) rfl (ci := 1) rfl d_LV_ghost_5 gw_503 gw_355 gw_356 mw_Disk_isInUse nh_Disk_isInUse pn_Disk_isInUse rfl) d_LV_ghost_5 pl_Disk_isInUse (Nat.le_of_ble_eq_true rfl) (Nat.le_of_ble_eq_true rfl) (Nat.le_of_ble_eq_true rfl) rfl rfl (e_f_Disk_isInUse (e0 := eLV) (tl := (HF f (HW w (HM m (HS s (HG g tl))))))  d x1) (Or.inl (len1 (lenHD (lenHF (lenHW (lenHM (lenHS (lenHG rfl)))))))) ?_
  refine ev_if_eq (tgt := 22) d_LV_ghost_8 rfl (fun h1 => ?_) (fun h1 => ?_)
  · rw [if_pos h1]
    exact ev_pick [] rfl (e_B_LV_ghost_22     d f w m s g)
  · rw [if_neg h1]
    refine ev_aload_n d_LV_ghost_11 rfl rfl ?_
    refine ev_get (v := .ref 1) gi_LV (ci := 0) rfl rfl 0 (by decide) gw_287 rfl d_LV_ghost_12 ?_
    refine ev_iload_n d_LV_ghost_15 rfl rfl ?_
    refine ev_callr (Mc := M_Disk_isFree) (v := some (.int ((f_Disk_isFree d x2).1))) (h1 := (eLV :: (HD d (HF f (HW w (HM m (HS s (HG g tl)))))))) (k2 := 0) (n2 := 0) (inv_V (q := 1) (av := [.int x2]) (rest := []) rfl (ci := 1) rfl d_LV_ghost_16 gw_522 gw_206 gw_207 mw_Disk_isFree nh_Disk_isFree pn_Disk_isFree rfl) d_LV_ghost_16 pl_Disk_isFree (Nat.le_of_ble_eq_true rfl) (Nat.le_of_ble_eq_true rfl) (Nat.le_of_ble_eq_true rfl) rfl rfl (e_f_Disk_isFree (e0 := eLV) (tl := (HF f (HW w (HM m (HS s (HG g tl))))))  d x2) (Or.inl (len1 (lenHD (lenHF (lenHW (lenHM (lenHS (lenHG rfl)))))))) ?_
    refine ev_if_ne (tgt := 24) d_LV_ghost_19 rfl (fun h2 => ?_) (fun h2 => ?_)
    · rw [if_pos h2]
      refine ev_aload_n d_LV_ghost_24 rfl rfl ?_
      refine ev_get (v := .ref 1) gi_LV (ci := 0) rfl rfl 0 (by decide) gw_287 rfl d_LV_ghost_25 ?_
      refine ev_iload_n d_LV_ghost_28 rfl rfl ?_
      refine ev_iload_n d_LV_ghost_29 rfl rfl ?_
      refine ev_callr (Mc := M_Disk_copySector) (v := none) (h1 := (eLV :: (HD (xCopy d x1 x2) (HF f (HW w (HM m (HS s (HG g tl)))))))) (k2 := 0) (n2 := 0) (inv_V (q := 1) (av := [.int x1, .int x2]) (rest := []) rfl (ci := 1) rfl d_LV_ghost_30 gw_523 gw_524 gw_525 mw_Disk_copySector nh_Disk_copySector pn_Disk_copySector rfl) d_LV_ghost_30 pl_Disk_copySector (Nat.le_of_ble_eq_true rfl) (Nat.le_of_ble_eq_true rfl) (Nat.le_of_ble_eq_true rfl) rfl rfl (c_Disk_copySector (e0 := eLV) (tl := (HF f (HW w (HM m (HS s (HG g tl))))))  d x1 x2) (Or.inl (len1 (lenHD (lenHF (lenHW (lenHM (lenHS (lenHG rfl)))))))) ?_
      exact ev_pick [] rfl (e_B_LV_ghost_33     (xCopy d x1 x2) f w m s g)
    · rw [if_neg h2]
      exact ev_pick [] rfl (e_B_LV_ghost_22     d f w m s g)
def B_LV_label_9   (d : DS) (f : FS) (w : WS) (m : MS) (s : SS) (g : GS) : (Int32 × Unit) :=
  ((-1), ())
theorem e_B_LV_label_9 {sc : Nat × (Nat → Int32)} {tl : List mn_E}    (d : DS) (f : FS) (w : WS) (m : MS) (s : SS) (g : GS) : Ev sc 1 15 0 0 M_LV_label 9 [] [] (eLV :: (HD d (HF f (HW w (HM m (HS s (HG g tl))))))) (mapT ouI (fun z => (eLV :: (HD d (HF f (HW w (HM m (HS s (HG g tl)))))))) (B_LV_label_9 d f w m s g)) := by
  unfold B_LV_label_9
  refine ev_iconst (v := -1) d_LV_label_9 rfl ?_
  refine ev_goto (tgt := 22) d_LV_label_10 rfl ?_
  exact ev_zret (ty := .int) rfl rfl d_LV_label_22
def f_LV_label   (d : DS) (f : FS) (w : WS) (m : MS) (s : SS) (g : GS) (x1 : Int32) (x2 : Int32) : (Int32 × Unit) :=
  if x2 < 0 then (B_LV_label_9   d f w m s g) else (if x2 < 5 then (((xCell d x1 x2), ())) else (B_LV_label_9   d f w m s g))
theorem e_f_LV_label {sc : Nat × (Nat → Int32)} {tl : List mn_E}    (d : DS) (f : FS) (w : WS) (m : MS) (s : SS) (g : GS) (x1 : Int32) (x2 : Int32) : Ev sc 1 15 0 0 M_LV_label 0 [(0, .ref 0), (1, .int x1), (2, .int x2)] [] (eLV :: (HD d (HF f (HW w (HM m (HS s (HG g tl))))))) (mapT ouI (fun z => (eLV :: (HD d (HF f (HW w (HM m (HS s (HG g tl)))))))) (f_LV_label d f w m s g x1 x2)) := by
  unfold f_LV_label
  refine ev_iload_n d_LV_label_0 rfl rfl ?_
  refine ev_if_lt (tgt := 9) d_LV_label_1 rfl (fun h1 => ?_) (fun h1 => ?_)
  · rw [if_pos h1]
    exact ev_pick [] rfl (e_B_LV_label_9     d f w m s g)
  · rw [if_neg h1]
    refine ev_iload_n d_LV_label_4 rfl rfl ?_
    refine ev_iconst (v := 5) d_LV_label_5 rfl ?_
    refine ev_icmp_lt (tgt := 13) d_LV_label_6 rfl (fun h2 => ?_) (fun h2 => ?_)
    · rw [if_pos h2]
      refine ev_aload_n d_LV_label_13 rfl rfl ?_
      refine ev_get (v := .ref 1) gi_LV (ci := 0) rfl rfl 0 (by decide) gw_287 rfl d_LV_label_14 ?_
      refine ev_iload_n d_LV_label_17 rfl rfl ?_
      refine ev_iload_n d_LV_label_18 rfl rfl ?_
      refine ev_callr (Mc := M_Disk_cell) (v := some (.int (xCell d x1 x2))) (h1 := (eLV :: (HD d (HF f (HW w (HM m (HS s (HG g tl)))))))) (k2 := 0) (n2 := 0) (inv_V (q := 1) (av := [.int x1, .int x2]) (rest := []) rfl (ci := 1) rfl d_LV_label_19 gw_531 gw_198 gw_199 mw_Disk_cell nh_Disk_cell pn_Disk_cell rfl) d_LV_label_19 pl_Disk_cell (Nat.le_of_ble_eq_true rfl) (Nat.le_of_ble_eq_true rfl) (Nat.le_of_ble_eq_true rfl) rfl rfl (c_Disk_cell (e0 := eLV) (tl := (HF f (HW w (HM m (HS s (HG g tl))))))  d x1 x2) (Or.inl (len1 (lenHD (lenHF (lenHW (lenHM (lenHS (lenHG rfl)))))))) ?_
      exact ev_zret (ty := .int) rfl rfl d_LV_label_22
    · rw [if_neg h2]
      exact ev_pick [] rfl (e_B_LV_label_9     d f w m s g)
def B_LV_data_10   (d : DS) (f : FS) (w : WS) (m : MS) (s : SS) (g : GS) : (Int32 × Unit) :=
  ((-1), ())
theorem e_B_LV_data_10 {sc : Nat × (Nat → Int32)} {tl : List mn_E}    (d : DS) (f : FS) (w : WS) (m : MS) (s : SS) (g : GS) : Ev sc 2 29 0 0 M_LV_data 10 [] [] (eLV :: (HD d (HF f (HW w (HM m (HS s (HG g tl))))))) (mapT ouI (fun z => (eLV :: (HD d (HF f (HW w (HM m (HS s (HG g tl)))))))) (B_LV_data_10 d f w m s g)) := by
  unfold B_LV_data_10
  refine ev_iconst (v := -1) d_LV_data_10 rfl ?_
  refine ev_goto (tgt := 23) d_LV_data_11 rfl ?_
  exact ev_zret (ty := .int) rfl rfl d_LV_data_23
def f_LV_data   (d : DS) (f : FS) (w : WS) (m : MS) (s : SS) (g : GS) (x1 : Int32) (x2 : Int32) : (Int32 × Unit) :=
  if x2 < 0 then (B_LV_data_10   d f w m s g) else (if x2 < 8 then (((f_Disk_byteAt d x1 x2).1, ())) else (B_LV_data_10   d f w m s g))
theorem e_f_LV_data {sc : Nat × (Nat → Int32)} {tl : List mn_E}    (d : DS) (f : FS) (w : WS) (m : MS) (s : SS) (g : GS) (x1 : Int32) (x2 : Int32) : Ev sc 2 29 0 0 M_LV_data 0 [(0, .ref 0), (1, .int x1), (2, .int x2)] [] (eLV :: (HD d (HF f (HW w (HM m (HS s (HG g tl))))))) (mapT ouI (fun z => (eLV :: (HD d (HF f (HW w (HM m (HS s (HG g tl)))))))) (f_LV_data d f w m s g x1 x2)) := by
  unfold f_LV_data
  refine ev_iload_n d_LV_data_0 rfl rfl ?_
  refine ev_if_lt (tgt := 10) d_LV_data_1 rfl (fun h1 => ?_) (fun h1 => ?_)
  · rw [if_pos h1]
    exact ev_pick [] rfl (e_B_LV_data_10     d f w m s g)
  · rw [if_neg h1]
    refine ev_iload_n d_LV_data_4 rfl rfl ?_
    refine ev_bipush (v := 8) d_LV_data_5 rfl ?_
    refine ev_icmp_lt (tgt := 14) d_LV_data_7 rfl (fun h2 => ?_) (fun h2 => ?_)
    · rw [if_pos h2]
      refine ev_aload_n d_LV_data_14 rfl rfl ?_
      refine ev_get (v := .ref 1) gi_LV (ci := 0) rfl rfl 0 (by decide) gw_287 rfl d_LV_data_15 ?_
      refine ev_iload_n d_LV_data_18 rfl rfl ?_
      refine ev_iload_n d_LV_data_19 rfl rfl ?_
      refine ev_callr (Mc := M_Disk_byteAt) (v := some (.int ((f_Disk_byteAt d x1 x2).1))) (h1 := (eLV :: (HD d (HF f (HW w (HM m (HS s (HG g tl)))))))) (k2 := 0) (n2 := 0) (inv_V (q := 1) (av := [.int x1, .int x2]) (rest := []) rfl (ci := 1) rfl d_LV_data_20 gw_536 gw_412 gw_413 mw_Disk_byteAt nh_Disk_byteAt pn_Disk_byteAt rfl) d_LV_data_20 pl_Disk_byteAt (Nat.le_of_ble_eq_true rfl) (Nat.le_of_ble_eq_true rfl) (Nat.le_of_ble_eq_true rfl) rfl rfl (e_f_Disk_byteAt (e0 := eLV) (tl := (HF f (HW w (HM m (HS s (HG g tl))))))  d x1 x2) (Or.inl (len1 (lenHD (lenHF (lenHW (lenHM (lenHS (lenHG rfl)))))))) ?_
      exact ev_zret (ty := .int) rfl rfl d_LV_data_23
    · rw [if_neg h2]
      exact ev_pick [] rfl (e_B_LV_data_10     d f w m s g)
def f_LV_state   (d : DS) (f : FS) (w : WS) (m : MS) (s : SS) (g : GS) (x1 : Int32) : (Int32 × Unit) :=
  if x1 = 0 then (((f_Disk_missesCounted d).1, ())) else (if x1 = 1 then (((f_Disk_writesCounted d).1, ())) else (if x1 = 2 then (((x_Disk_countFree d).1, ())) else (if x1 = 3 then (((x_Disk_countUnreadable d).1, ())) else (if x1 = 4 then (if ((f_Disk_hasPower d).1) = 0 then ((0, ())) else ((1, ()))) else (((-1), ()))))))
theorem e_f_LV_state {sc : Nat × (Nat → Int32)} {tl : List mn_E}    (d : DS) (f : FS) (w : WS) (m : MS) (s : SS) (g : GS) (x1 : Int32) : Ev sc 3 43 0 0 M_LV_state 0 [(0, .ref 0), (1, .int x1)] [] (eLV :: (HD d (HF f (HW w (HM m (HS s (HG g tl))))))) (mapT ouI (fun z => (eLV :: (HD d (HF f (HW w (HM m (HS s (HG g tl)))))))) (f_LV_state d f w m s g x1)) := by
  unfold f_LV_state
  refine ev_iload_n d_LV_state_0 rfl rfl ?_
  by_cases h1 : x1 = 0
  · rw [if_pos h1]
    refine ev_tableIn (tgt := 36) d_LV_state_1 (by rw [h1]; decide) (by rw [h1]; decide) (by rw [h1]; rfl) rfl ?_
    refine ev_aload_n d_LV_state_36 rfl rfl ?_
    refine ev_get (v := .ref 1) gi_LV (ci := 0) rfl rfl 0 (by decide) gw_287 rfl d_LV_state_37 ?_
    refine ev_callr (Mc := M_Disk_missesCounted) (v := some (.int ((f_Disk_missesCounted d).1))) (h1 := (eLV :: (HD d (HF f (HW w (HM m (HS s (HG g tl)))))))) (k2 := 0) (n2 := 0) (inv_V (q := 1) (av := []) (rest := []) rfl (ci := 1) rfl d_LV_state_40 gw_541 gw_542 gw_543 mw_Disk_missesCounted nh_Disk_missesCounted pn_Disk_missesCounted rfl) d_LV_state_40 pl_Disk_missesCounted (Nat.le_of_ble_eq_true rfl) (Nat.le_of_ble_eq_true rfl) (Nat.le_of_ble_eq_true rfl) rfl rfl (e_f_Disk_missesCounted (e0 := eLV) (tl := (HF f (HW w (HM m (HS s (HG g tl))))))  d ) (Or.inl (len1 (lenHD (lenHF (lenHW (lenHM (lenHS (lenHG rfl)))))))) ?_
    exact ev_zret (ty := .int) rfl rfl d_LV_state_43
  · rw [if_neg h1]
    by_cases h2 : x1 = 1
    · rw [if_pos h2]
      refine ev_tableIn (tgt := 44) d_LV_state_1 (by rw [h2]; decide) (by rw [h2]; decide) (by rw [h2]; rfl) rfl ?_
      refine ev_aload_n d_LV_state_44 rfl rfl ?_
      refine ev_get (v := .ref 1) gi_LV (ci := 0) rfl rfl 0 (by decide) gw_287 rfl d_LV_state_45 ?_
      refine ev_callr (Mc := M_Disk_writesCounted) (v := some (.int ((f_Disk_writesCounted d).1))) (h1 := (eLV :: (HD d (HF f (HW w (HM m (HS s (HG g tl)))))))) (k2 := 0) (n2 := 0) (inv_V (q := 1) (av := []) (rest := []) rfl (ci := 1) rfl d_LV_state_48 gw_545 gw_546 gw_547 mw_Disk_writesCounted nh_Disk_writesCounted pn_Disk_writesCounted rfl) d_LV_state_48 pl_Disk_writesCounted (Nat.le_of_ble_eq_true rfl) (Nat.le_of_ble_eq_true rfl) (Nat.le_of_ble_eq_true rfl) rfl rfl (e_f_Disk_writesCounted (e0 := eLV) (tl := (HF f (HW w (HM m (HS s (HG g tl))))))  d ) (Or.inl (len1 (lenHD (lenHF (lenHW (lenHM (lenHS (lenHG rfl)))))))) ?_
      exact ev_zret (ty := .int) rfl rfl d_LV_state_51
    · rw [if_neg h2]
      by_cases h3 : x1 = 2
      · rw [if_pos h3]
        refine ev_tableIn (tgt := 52) d_LV_state_1 (by rw [h3]; decide) (by rw [h3]; decide) (by rw [h3]; rfl) rfl ?_
        refine ev_aload_n d_LV_state_52 rfl rfl ?_
        refine ev_get (v := .ref 1) gi_LV (ci := 0) rfl rfl 0 (by decide) gw_287 rfl d_LV_state_53 ?_
        refine ev_callr (Mc := M_Disk_countFree) (v := some (.int ((x_Disk_countFree d).1))) (h1 := (eLV :: (HD d (HF f (HW w (HM m (HS s (HG g tl)))))))) (k2 := 0) (n2 := 0) (inv_V (q := 1) (av := []) (rest := []) rfl (ci := 1) rfl d_LV_state_56 gw_549 gw_550 gw_551 mw_Disk_countFree nh_Disk_countFree pn_Disk_countFree rfl) d_LV_state_56 pl_Disk_countFree (Nat.le_of_ble_eq_true rfl) (Nat.le_of_ble_eq_true rfl) (Nat.le_of_ble_eq_true rfl) rfl rfl (c_Disk_countFree (e0 := eLV) (tl := (HF f (HW w (HM m (HS s (HG g tl))))))  d ) (Or.inl (len1 (lenHD (lenHF (lenHW (lenHM (lenHS (lenHG rfl)))))))) ?_
        exact ev_zret (ty := .int) rfl rfl d_LV_state_59
      · rw [if_neg h3]
        by_cases h4 : x1 = 3
        · rw [if_pos h4]
          refine ev_tableIn (tgt := 60) d_LV_state_1 (by rw [h4]; decide) (by rw [h4]; decide) (by rw [h4]; rfl) rfl ?_
          refine ev_aload_n d_LV_state_60 rfl rfl ?_
          refine ev_get (v := .ref 1) gi_LV (ci := 0) rfl rfl 0 (by decide) gw_287 rfl d_LV_state_61 ?_
          refine ev_callr (Mc := M_Disk_countUnreadable) (v := some (.int ((x_Disk_countUnreadable d).1))) (h1 := (eLV :: (HD d (HF f (HW w (HM m (HS s (HG g tl)))))))) (k2 := 0) (n2 := 0) (inv_V (q := 1) (av := []) (rest := []) rfl (ci := 1) rfl d_LV_state_64 gw_553 gw_554 gw_555 mw_Disk_countUnreadable nh_Disk_countUnreadable pn_Disk_countUnreadable rfl) d_LV_state_64 pl_Disk_countUnreadable (Nat.le_of_ble_eq_true rfl) (Nat.le_of_ble_eq_true rfl) (Nat.le_of_ble_eq_true rfl) rfl rfl (c_Disk_countUnreadable (e0 := eLV) (tl := (HF f (HW w (HM m (HS s (HG g tl))))))  d ) (Or.inl (len1 (lenHD (lenHF (lenHW (lenHM (lenHS (lenHG rfl)))))))) ?_
          exact ev_zret (ty := .int) rfl rfl d_LV_state_67
        · rw [if_neg h4]
          by_cases h5 : x1 = 4
          · rw [if_pos h5]
            refine ev_tableIn (tgt := 68) d_LV_state_1 (by rw [h5]; decide) (by rw [h5]; decide) (by rw [h5]; rfl) rfl ?_
            refine ev_aload_n d_LV_state_68 rfl rfl ?_
            refine ev_get (v := .ref 1) gi_LV (ci := 0) rfl rfl 0 (by decide) gw_287 rfl d_LV_state_69 ?_
            refine ev_callr (Mc := M_Disk_hasPower) (v := some (.int ((f_Disk_hasPower d).1))) (h1 := (eLV :: (HD d (HF f (HW w (HM m (HS s (HG g tl)))))))) (k2 := 0) (n2 := 0) (inv_V (q := 1) (av := []) (rest := []) rfl (ci := 1) rfl d_LV_state_72 gw_557 gw_558 gw_559 mw_Disk_hasPower nh_Disk_hasPower pn_Disk_hasPower rfl) d_LV_state_72 pl_Disk_hasPower (Nat.le_of_ble_eq_true rfl) (Nat.le_of_ble_eq_true rfl) (Nat.le_of_ble_eq_true rfl) rfl rfl (e_f_Disk_hasPower (e0 := eLV) (tl := (HF f (HW w (HM m (HS s (HG g tl))))))  d ) (Or.inl (len1 (lenHD (lenHF (lenHW (lenHM (lenHS (lenHG rfl)))))))) ?_
            refine ev_if_eq (tgt := 82) d_LV_state_75 rfl (fun h6 => ?_) (fun h6 => ?_)
            · rw [if_pos h6]
              refine ev_iconst (v := 0) d_LV_state_82 rfl ?_
              exact ev_zret (ty := .int) rfl rfl d_LV_state_83
            · rw [if_neg h6]
              refine ev_iconst (v := 1) d_LV_state_78 rfl ?_
              refine ev_goto (tgt := 83) d_LV_state_79 rfl ?_
              exact ev_zret (ty := .int) rfl rfl d_LV_state_83
          · rw [if_neg h5]
            refine ev_tableOut (tgt := 84) d_LV_state_1 (tb_out5 h1 h2 h3 h4 h5) rfl ?_
            refine ev_iconst (v := -1) d_LV_state_84 rfl ?_
            exact ev_zret (ty := .int) rfl rfl d_LV_state_85
def B_LV_report_8   (d : DS) (f : FS) (w : WS) (m : MS) (s : SS) (g : GS) (t0 : Int32) : Option (Int32 × Unit) :=
  some (t0, ())
theorem e_B_LV_report_8 {sc : Nat × (Nat → Int32)} {tl : List mn_E}    (d : DS) (f : FS) (w : WS) (m : MS) (s : SS) (g : GS) (t0 : Int32) : Ev sc 1 13 0 0 M_LV_report 8 [] [.int t0] (eLV :: (HD d (HF f (HW w (HM m (HS s (HG g tl))))))) (mapR ouI (fun z => (eLV :: (HD d (HF f (HW w (HM m (HS s (HG g tl)))))))) (B_LV_report_8 d f w m s g t0)) := by
  unfold B_LV_report_8
  exact ev_zret (ty := .int) rfl rfl d_LV_report_8
def f_LV_report   (d : DS) (f : FS) (w : WS) (m : MS) (s : SS) (g : GS) (x1 : Int32) : Option (Int32 × Unit) :=
  bnd (f_Scav_result d f w m s x1) (fun q => B_LV_report_8   d f w m s g q.1)
theorem e_f_LV_report {sc : Nat × (Nat → Int32)} {tl : List mn_E}    (d : DS) (f : FS) (w : WS) (m : MS) (s : SS) (g : GS) (x1 : Int32) : Ev sc 1 13 0 0 M_LV_report 0 [(0, .ref 0), (1, .int x1)] [] (eLV :: (HD d (HF f (HW w (HM m (HS s (HG g tl))))))) (mapR ouI (fun z => (eLV :: (HD d (HF f (HW w (HM m (HS s (HG g tl)))))))) (f_LV_report d f w m s g x1)) := by
  unfold f_LV_report
  refine ev_aload_n d_LV_report_0 rfl rfl ?_
  refine ev_get (v := .ref 9) gi_LV (ci := 0) rfl rfl 4 (by decide) gw_291 rfl d_LV_report_1 ?_
  refine ev_iload_n d_LV_report_4 rfl rfl ?_
  refine ev_callB (rc := (f_Scav_result d f w m s x1)) (ou := ouI) (Hs := (fun z => (eLV :: (HD d (HF f (HW w (HM m (HS s (HG g tl))))))))) (inv_V (q := 9) (av := [.int x1]) (rest := []) rfl (ci := 5) rfl d_LV_report_5 gw_495 gw_496 gw_497 mw_Scav_result nh_Scav_result pn_Scav_result rfl) d_LV_report_5 pl_Scav_result (Nat.le_of_ble_eq_true rfl) (Nat.le_of_ble_eq_true rfl) (Nat.le_of_ble_eq_true rfl) (e_f_Scav_result (e0 := eLV) (tl := (HG g tl))  d f w m s x1) (fun _ => (len1 (lenHD (lenHF (lenHW (lenHM (lenHS (lenHG rfl)))))))) (fun v z h1 => ⟨_, rfl, ?_⟩)
  exact ev_pick [] rfl (e_B_LV_report_8     d f w m s g v)
