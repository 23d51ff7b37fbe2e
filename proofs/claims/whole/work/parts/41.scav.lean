def B_Scav_isThere_28   (d : DS) (f : FS) (w : WS) (m : MS) (s : SS) : (Int32 × Unit) :=
  (0, ())
theorem e_B_Scav_isThere_28 {sc : Nat × (Nat → Int32)} {e0 : mn_E} {tl : List mn_E}    (d : DS) (f : FS) (w : WS) (m : MS) (s : SS) : Ev sc 2 30 0 0 M_Scav_isThere 28 [] [] (e0 :: (HD d (HF f (HW w (HM m (HS s tl)))))) (mapT ouI (fun z => (e0 :: (HD d (HF f (HW w (HM m (HS s tl))))))) (B_Scav_isThere_28 d f w m s)) := by
  unfold B_Scav_isThere_28
  refine ev_iconst (v := 0) d_Scav_isThere_28 rfl ?_
  exact ev_zret (ty := .boolean) rfl rfl d_Scav_isThere_29
def f_Scav_isThere   (d : DS) (f : FS) (w : WS) (m : MS) (s : SS) (x1 : Int32) : (Int32 × Unit) :=
  if x1 < 1 then (B_Scav_isThere_28   d f w m s) else (if 60 < x1 then (B_Scav_isThere_28   d f w m s) else (if (xSearch d x1 0) = (-1) then (B_Scav_isThere_28   d f w m s) else ((1, ()))))
theorem e_f_Scav_isThere {sc : Nat × (Nat → Int32)} {e0 : mn_E} {tl : List mn_E}    (d : DS) (f : FS) (w : WS) (m : MS) (s : SS) (x1 : Int32) : Ev sc 2 30 0 0 M_Scav_isThere 0 [(0, .ref 9), (1, .int x1)] [] (e0 :: (HD d (HF f (HW w (HM m (HS s tl)))))) (mapT ouI (fun z => (e0 :: (HD d (HF f (HW w (HM m (HS s tl))))))) (f_Scav_isThere d f w m s x1)) := by
  unfold f_Scav_isThere
  refine ev_iload_n d_Scav_isThere_0 rfl rfl ?_
  refine ev_iconst (v := 1) d_Scav_isThere_1 rfl ?_
  refine ev_icmp_lt (tgt := 28) d_Scav_isThere_2 rfl (fun h1 => ?_) (fun h1 => ?_)
  · rw [if_pos h1]
    exact ev_pick [] rfl (e_B_Scav_isThere_28     d f w m s)
  · rw [if_neg h1]
    refine ev_iload_n d_Scav_isThere_5 rfl rfl ?_
    refine ev_bipush (v := 60) d_Scav_isThere_6 rfl ?_
    refine ev_icmp_gt (tgt := 28) d_Scav_isThere_8 rfl (fun h2 => ?_) (fun h2 => ?_)
    · rw [if_pos h2]
      exact ev_pick [] rfl (e_B_Scav_isThere_28     d f w m s)
    · rw [if_neg h2]
      refine ev_aload_n d_Scav_isThere_11 rfl rfl ?_
      refine ev_get (v := .ref 1) gi_Scav (ci := 5) rfl rfl 0 (by decide) gw_268 rfl d_Scav_isThere_12 ?_
      refine ev_iload_n d_Scav_isThere_15 rfl rfl ?_
      refine ev_iconst (v := 0) d_Scav_isThere_16 rfl ?_
      refine ev_callr (Mc := M_Disk_search) (v := some (.int (xSearch d x1 0))) (h1 := (e0 :: (HD d (HF f (HW w (HM m (HS s tl))))))) (k2 := 0) (n2 := 0) (inv_V (q := 1) (av := [.int x1, .int 0]) (rest := []) rfl (ci := 1) rfl d_Scav_isThere_17 gw_349 gw_350 gw_351 mw_Disk_search nh_Disk_search pn_Disk_search rfl) d_Scav_isThere_17 pl_Disk_search (Nat.le_of_ble_eq_true rfl) (Nat.le_of_ble_eq_true rfl) (Nat.le_of_ble_eq_true rfl) rfl rfl (c_Disk_search (e0 := e0) (tl := (HF f (HW w (HM m (HS s tl)))))  d x1 0) (Or.inl (len1 (lenHD (lenHF (lenHW (lenHM (lenHS rfl))))))) ?_
      refine ev_iconst (v := -1) d_Scav_isThere_20 rfl ?_
      refine ev_icmp_eq (tgt := 28) d_Scav_isThere_21 rfl (fun h3 => ?_) (fun h3 => ?_)
      · rw [if_pos h3]
        exact ev_pick [] rfl (e_B_Scav_isThere_28     d f w m s)
      · rw [if_neg h3]
        refine ev_iconst (v := 1) d_Scav_isThere_24 rfl ?_
        refine ev_goto (tgt := 29) d_Scav_isThere_25 rfl ?_
        exact ev_zret (ty := .boolean) rfl rfl d_Scav_isThere_29
def B_Scav_keptOf_86  (r30 : DS → FS → WS → MS → SS → Int32 → Int64 → Int32 → Int32 → Option (Int64 × Unit)) (d : DS) (f : FS) (w : WS) (m : MS) (s : SS) (x1 : Int32) (x2 : Int64) (x4 : Int32) (x5 : Int32) : Option (Int64 × Unit) :=
  r30 d f w m s x1 x2 x4 (x5 + 1)
theorem e_B_Scav_keptOf_86 {sc : Nat × (Nat → Int32)} {e0 : mn_E} {tl : List mn_E}  (r30 : DS → FS → WS → MS → SS → Int32 → Int64 → Int32 → Int32 → Option (Int64 × Unit)) (hr30 : ∀ (d : DS) (f : FS) (w : WS) (m : MS) (s : SS) (x1 : Int32) (x2 : Int64) (x4 : Int32) (x5 : Int32), Ev sc 3 43 0 0 M_Scav_keptOf 30 [(0, .ref 9), (1, .int x1), (2, .long x2), (4, .int x4), (5, .int x5)] [] (e0 :: (HD d (HF f (HW w (HM m (HS s tl)))))) (mapR ouJ (fun z => (e0 :: (HD d (HF f (HW w (HM m (HS s tl))))))) (r30 d f w m s x1 x2 x4 x5))) (d : DS) (f : FS) (w : WS) (m : MS) (s : SS) (x1 : Int32) (x2 : Int64) (x4 : Int32) (x5 : Int32) : Ev sc 3 43 0 0 M_Scav_keptOf 86 [(0, .ref 9), (1, .int x1), (2, .long x2), (4, .int x4), (5, .int x5)] [] (e0 :: (HD d (HF f (HW w (HM m (HS s tl)))))) (mapR ouJ (fun z => (e0 :: (HD d (HF f (HW w (HM m (HS s tl))))))) (B_Scav_keptOf_86 r30 d f w m s x1 x2 x4 x5)) := by
  unfold B_Scav_keptOf_86
  refine ev_iinc (v := (x5 + 1)) d_Scav_keptOf_86 rfl rfl (by decide) rfl ?_
  refine ev_goto (tgt := 30) d_Scav_keptOf_89 rfl ?_
  exact ev_pick [1, 2, 3, 4, 0] rfl (hr30 d f w m s x1 x2 x4 (x5 + 1))
def L_Scav_keptOf_30   : Nat → DS → FS → WS → MS → SS → Int32 → Int64 → Int32 → Int32 → Option (Int64 × Unit)
  | 0, _, _, _, _, _, _, _, _, _ => none
  | n + 1, d, f, w, m, s, x1, x2, x4, x5 =>
  if x4 < x5 then (some (x2, ())) else (if ¬ (xSearch d x1 x5) = (-1) then (if x5 ≤ 0 then (B_Scav_keptOf_86  (L_Scav_keptOf_30 n) d f w m s x1 (x2 ||| (1 <<< ((xSearch d x1 x5).toInt64 &&& 63))) x4 x5) else (if 8 ≤ (xCell d (xSearch d x1 x5) 2) then (B_Scav_keptOf_86  (L_Scav_keptOf_30 n) d f w m s x1 (x2 ||| (1 <<< ((xSearch d x1 x5).toInt64 &&& 63))) x4 x5) else (some ((x2 ||| (1 <<< ((xSearch d x1 x5).toInt64 &&& 63))), ())))) else (some (x2, ())))
theorem e_L_Scav_keptOf_30 {sc : Nat × (Nat → Int32)} {e0 : mn_E} {tl : List mn_E}    : ∀ (n : Nat) (d : DS) (f : FS) (w : WS) (m : MS) (s : SS) (x1 : Int32) (x2 : Int64) (x4 : Int32) (x5 : Int32), Ev sc 3 43 0 0 M_Scav_keptOf 30 [(0, .ref 9), (1, .int x1), (2, .long x2), (4, .int x4), (5, .int x5)] [] (e0 :: (HD d (HF f (HW w (HM m (HS s tl)))))) (mapR ouJ (fun z => (e0 :: (HD d (HF f (HW w (HM m (HS s tl))))))) (L_Scav_keptOf_30   n d f w m s x1 x2 x4 x5)) := by
  intro n
  induction n with
  | zero => intro d f w m s x1 x2 x4 x5; exact ev_none
  | succ n ih =>
    intro d f w m s x1 x2 x4 x5
    rw [L_Scav_keptOf_30]
    refine ev_iload d_Scav_keptOf_30 rfl ?_
    refine ev_iload d_Scav_keptOf_32 rfl ?_
    refine ev_icmp_gt (tgt := 92) d_Scav_keptOf_34 rfl (fun h1 => ?_) (fun h1 => ?_)
    · rw [if_pos h1]
      refine ev_lload_n d_Scav_keptOf_92 rfl rfl ?_
      exact ev_lret rfl d_Scav_keptOf_93
    · rw [if_neg h1]
      refine ev_aload_n d_Scav_keptOf_37 rfl rfl ?_
      refine ev_get (v := .ref 1) gi_Scav (ci := 5) rfl rfl 0 (by decide) gw_268 rfl d_Scav_keptOf_38 ?_
      refine ev_iload_n d_Scav_keptOf_41 rfl rfl ?_
      refine ev_iload d_Scav_keptOf_42 rfl ?_
      refine ev_callr (Mc := M_Disk_search) (v := some (.int (xSearch d x1 x5))) (h1 := (e0 :: (HD d (HF f (HW w (HM m (HS s tl))))))) (k2 := 0) (n2 := 0) (inv_V (q := 1) (av := [.int x1, .int x5]) (rest := []) rfl (ci := 1) rfl d_Scav_keptOf_44 gw_349 gw_350 gw_351 mw_Disk_search nh_Disk_search pn_Disk_search rfl) d_Scav_keptOf_44 pl_Disk_search (Nat.le_of_ble_eq_true rfl) (Nat.le_of_ble_eq_true rfl) (Nat.le_of_ble_eq_true rfl) rfl rfl (c_Disk_search (e0 := e0) (tl := (HF f (HW w (HM m (HS s tl)))))  d x1 x5) (Or.inl (len1 (lenHD (lenHF (lenHW (lenHM (lenHS rfl))))))) ?_
      refine ev_istore d_Scav_keptOf_47 (by decide) rfl ?_
      refine ev_iload d_Scav_keptOf_49 rfl ?_
      refine ev_iconst (v := -1) d_Scav_keptOf_51 rfl ?_
      refine ev_icmp_ne (tgt := 57) d_Scav_keptOf_52 rfl (fun h2 => ?_) (fun h2 => ?_)
      · rw [if_pos h2]
        refine ev_lload_n d_Scav_keptOf_57 rfl rfl ?_
        refine ev_lconst (v := 1) d_Scav_keptOf_58 rfl ?_
        refine ev_iload d_Scav_keptOf_59 rfl ?_
        refine ev_lshl d_Scav_keptOf_61 ?_
        refine ev_lor d_Scav_keptOf_62 ?_
        refine ev_lstore_n d_Scav_keptOf_63 rfl (by decide) rfl ?_
        refine ev_iload d_Scav_keptOf_64 rfl ?_
        refine ev_if_le (tgt := 86) d_Scav_keptOf_66 rfl (fun h3 => ?_) (fun h3 => ?_)
        · rw [if_pos h3]
          exact ev_pick [2, 3, 0, 4, 5] rfl (e_B_Scav_keptOf_86   (L_Scav_keptOf_30 n) ih d f w m s x1 (x2 ||| (1 <<< ((xSearch d x1 x5).toInt64 &&& 63))) x4 x5)
        · rw [if_neg h3]
          refine ev_aload_n d_Scav_keptOf_69 rfl rfl ?_
          refine ev_get (v := .ref 1) gi_Scav (ci := 5) rfl rfl 0 (by decide) gw_268 rfl d_Scav_keptOf_70 ?_
          refine ev_iload d_Scav_keptOf_73 rfl ?_
          refine ev_iconst (v := 2) d_Scav_keptOf_75 rfl ?_
          refine ev_callr (Mc := M_Disk_cell) (v := some (.int (xCell d (xSearch d x1 x5) 2))) (h1 := (e0 :: (HD d (HF f (HW w (HM m (HS s tl))))))) (k2 := 0) (n2 := 0) (inv_V (q := 1) (av := [.int (xSearch d x1 x5), .int 2]) (rest := []) rfl (ci := 1) rfl d_Scav_keptOf_76 gw_353 gw_198 gw_199 mw_Disk_cell nh_Disk_cell pn_Disk_cell rfl) d_Scav_keptOf_76 pl_Disk_cell (Nat.le_of_ble_eq_true rfl) (Nat.le_of_ble_eq_true rfl) (Nat.le_of_ble_eq_true rfl) rfl rfl (c_Disk_cell (e0 := e0) (tl := (HF f (HW w (HM m (HS s tl)))))  d (xSearch d x1 x5) 2) (Or.inl (len1 (lenHD (lenHF (lenHW (lenHM (lenHS rfl))))))) ?_
          refine ev_bipush (v := 8) d_Scav_keptOf_79 rfl ?_
          refine ev_icmp_ge (tgt := 86) d_Scav_keptOf_81 rfl (fun h4 => ?_) (fun h4 => ?_)
          · rw [if_pos h4]
            exact ev_pick [2, 3, 0, 4, 5] rfl (e_B_Scav_keptOf_86   (L_Scav_keptOf_30 n) ih d f w m s x1 (x2 ||| (1 <<< ((xSearch d x1 x5).toInt64 &&& 63))) x4 x5)
          · rw [if_neg h4]
            refine ev_lload_n d_Scav_keptOf_84 rfl rfl ?_
            exact ev_lret rfl d_Scav_keptOf_85
      · rw [if_neg h2]
        refine ev_lload_n d_Scav_keptOf_55 rfl rfl ?_
        exact ev_lret rfl d_Scav_keptOf_56
def B_Scav_keptOf_28   (d : DS) (f : FS) (w : WS) (m : MS) (s : SS) (x1 : Int32) (x2 : Int64) (x4 : Int32) (t0 : Int32) : Option (Int64 × Unit) :=
  L_Scav_keptOf_30   100 d f w m s x1 x2 x4 t0
theorem e_B_Scav_keptOf_28 {sc : Nat × (Nat → Int32)} {e0 : mn_E} {tl : List mn_E}    (d : DS) (f : FS) (w : WS) (m : MS) (s : SS) (x1 : Int32) (x2 : Int64) (x4 : Int32) (t0 : Int32) : Ev sc 3 43 0 0 M_Scav_keptOf 28 [(0, .ref 9), (1, .int x1), (2, .long x2), (4, .int x4)] [.int t0] (e0 :: (HD d (HF f (HW w (HM m (HS s tl)))))) (mapR ouJ (fun z => (e0 :: (HD d (HF f (HW w (HM m (HS s tl))))))) (B_Scav_keptOf_28 d f w m s x1 x2 x4 t0)) := by
  unfold B_Scav_keptOf_28
  refine ev_istore d_Scav_keptOf_28 (by decide) rfl ?_
  exact ev_pick [1, 2, 3, 4, 0] rfl (e_L_Scav_keptOf_30     100 d f w m s x1 x2 x4 t0)
def B_Scav_keptOf_13   (d : DS) (f : FS) (w : WS) (m : MS) (s : SS) (x1 : Int32) (x2 : Int64) (t0 : Int32) : Option (Int64 × Unit) :=
  if ((f_Scav_isThere d f w m s x1).1) = 0 then (B_Scav_keptOf_28   d f w m s x1 x2 t0 1) else (B_Scav_keptOf_28   d f w m s x1 x2 t0 0)
theorem e_B_Scav_keptOf_13 {sc : Nat × (Nat → Int32)} {e0 : mn_E} {tl : List mn_E}    (d : DS) (f : FS) (w : WS) (m : MS) (s : SS) (x1 : Int32) (x2 : Int64) (t0 : Int32) : Ev sc 3 43 0 0 M_Scav_keptOf 13 [(0, .ref 9), (1, .int x1), (2, .long x2)] [.int t0] (e0 :: (HD d (HF f (HW w (HM m (HS s tl)))))) (mapR ouJ (fun z => (e0 :: (HD d (HF f (HW w (HM m (HS s tl))))))) (B_Scav_keptOf_13 d f w m s x1 x2 t0)) := by
  unfold B_Scav_keptOf_13
  refine ev_istore d_Scav_keptOf_13 (by decide) rfl ?_
  refine ev_aload_n d_Scav_keptOf_15 rfl rfl ?_
  refine ev_iload_n d_Scav_keptOf_16 rfl rfl ?_
  refine ev_callr (Mc := M_Scav_isThere) (v := some (.int ((f_Scav_isThere d f w m s x1).1))) (h1 := (e0 :: (HD d (HF f (HW w (HM m (HS s tl))))))) (k2 := 0) (n2 := 0) (inv_V (q := 9) (av := [.int x1]) (rest := []) rfl (ci := 5) rfl d_Scav_keptOf_17 gw_345 gw_347 gw_2 mw_Scav_isThere nh_Scav_isThere pn_Scav_isThere rfl) d_Scav_keptOf_17 pl_Scav_isThere (Nat.le_of_ble_eq_true rfl) (Nat.le_of_ble_eq_true rfl) (Nat.le_of_ble_eq_true rfl) rfl rfl (e_f_Scav_isThere (e0 := e0) (tl := tl)  d f w m s x1) (Or.inl (len1 (lenHD (lenHF (lenHW (lenHM (lenHS rfl))))))) ?_
  refine ev_if_eq (tgt := 27) d_Scav_keptOf_20 rfl (fun h1 => ?_) (fun h1 => ?_)
  · rw [if_pos h1]
    refine ev_iconst (v := 1) d_Scav_keptOf_27 rfl ?_
    exact ev_pick [1, 2, 3, 0] rfl (e_B_Scav_keptOf_28     d f w m s x1 x2 t0 1)
  · rw [if_neg h1]
    refine ev_iconst (v := 0) d_Scav_keptOf_23 rfl ?_
    refine ev_goto (tgt := 28) d_Scav_keptOf_24 rfl ?_
    exact ev_pick [1, 2, 3, 0] rfl (e_B_Scav_keptOf_28     d f w m s x1 x2 t0 0)
def f_Scav_keptOf   (d : DS) (f : FS) (w : WS) (m : MS) (s : SS) (x1 : Int32) : Option (Int64 × Unit) :=
  if ¬ x1 = 2 then (B_Scav_keptOf_13   d f w m s x1 0 40) else (B_Scav_keptOf_13   d f w m s x1 0 1)
theorem e_f_Scav_keptOf {sc : Nat × (Nat → Int32)} {e0 : mn_E} {tl : List mn_E}    (d : DS) (f : FS) (w : WS) (m : MS) (s : SS) (x1 : Int32) : Ev sc 3 43 0 0 M_Scav_keptOf 0 [(0, .ref 9), (1, .int x1)] [] (e0 :: (HD d (HF f (HW w (HM m (HS s tl)))))) (mapR ouJ (fun z => (e0 :: (HD d (HF f (HW w (HM m (HS s tl))))))) (f_Scav_keptOf d f w m s x1)) := by
  unfold f_Scav_keptOf
  refine ev_lconst (v := 0) d_Scav_keptOf_0 rfl ?_
  refine ev_lstore_n d_Scav_keptOf_1 rfl (by decide) rfl ?_
  refine ev_iload_n d_Scav_keptOf_2 rfl rfl ?_
  refine ev_iconst (v := 2) d_Scav_keptOf_3 rfl ?_
  refine ev_icmp_ne (tgt := 11) d_Scav_keptOf_4 rfl (fun h1 => ?_) (fun h1 => ?_)
  · rw [if_pos h1]
    refine ev_bipush (v := 40) d_Scav_keptOf_11 rfl ?_
    exact ev_pick [1, 2, 0] rfl (e_B_Scav_keptOf_13     d f w m s x1 0 40)
  · rw [if_neg h1]
    refine ev_iconst (v := 1) d_Scav_keptOf_7 rfl ?_
    refine ev_goto (tgt := 13) d_Scav_keptOf_8 rfl ?_
    exact ev_pick [1, 2, 0] rfl (e_B_Scav_keptOf_13     d f w m s x1 0 1)
def B_Scav_lose_8   (d : DS) (f : FS) (w : WS) (m : MS) (s : SS) : (Unit × (DS × SS)) :=
  ((), (d, (sSLos s ((sLos s) + 1))))
theorem e_B_Scav_lose_8 {sc : Nat × (Nat → Int32)} {e0 : mn_E} {tl : List mn_E}    (d : DS) (f : FS) (w : WS) (m : MS) (s : SS) : Ev sc 2 30 0 0 M_Scav_lose 8 [(0, .ref 9)] [] (e0 :: (HD d (HF f (HW w (HM m (HS s tl)))))) (mapT ouV (fun z => (e0 :: (HD z.1 (HF f (HW w (HM m (HS z.2 tl))))))) (B_Scav_lose_8 d f w m s)) := by
  unfold B_Scav_lose_8
  refine ev_aload_n d_Scav_lose_8 rfl rfl ?_
  refine ev_dup d_Scav_lose_9 rfl ?_
  refine ev_get (v := .int (sLos s)) gi_Scav (ci := 5) rfl rfl 2 (by decide) gw_270 rfl d_Scav_lose_10 ?_
  refine ev_iconst (v := 1) d_Scav_lose_13 rfl ?_
  refine ev_iadd d_Scav_lose_14 ?_
  refine ev_put (h2 := (e0 :: (HD d (HF f (HW w (HM m (HS (sSLos s ((sLos s) + 1)) tl))))))) gi_Scav ft_Scav fo_Scav fn_Scav (ci := 5) rfl rfl 2 (by decide) gw_270 rfl rfl (fun _ => rfl) (fun _ => rfl) (Nat.le_of_ble_eq_true rfl) rfl d_Scav_lose_15 ?_
  exact ev_vret rfl d_Scav_lose_18
def f_Scav_lose   (d : DS) (f : FS) (w : WS) (m : MS) (s : SS) (x1 : Int32) : (Unit × (DS × SS)) :=
  B_Scav_lose_8   (xErase d x1) f w m s
theorem e_f_Scav_lose {sc : Nat × (Nat → Int32)} {e0 : mn_E} {tl : List mn_E}    (d : DS) (f : FS) (w : WS) (m : MS) (s : SS) (x1 : Int32) : Ev sc 2 30 0 0 M_Scav_lose 0 [(0, .ref 9), (1, .int x1)] [] (e0 :: (HD d (HF f (HW w (HM m (HS s tl)))))) (mapT ouV (fun z => (e0 :: (HD z.1 (HF f (HW w (HM m (HS z.2 tl))))))) (f_Scav_lose d f w m s x1)) := by
  unfold f_Scav_lose
  refine ev_aload_n d_Scav_lose_0 rfl rfl ?_
  refine ev_get (v := .ref 1) gi_Scav (ci := 5) rfl rfl 0 (by decide) gw_268 rfl d_Scav_lose_1 ?_
  refine ev_iload_n d_Scav_lose_4 rfl rfl ?_
  refine ev_callr (Mc := M_Disk_erase) (v := none) (h1 := (e0 :: (HD (xErase d x1) (HF f (HW w (HM m (HS s tl))))))) (k2 := 0) (n2 := 0) (inv_V (q := 1) (av := [.int x1]) (rest := []) rfl (ci := 1) rfl d_Scav_lose_5 gw_362 gw_174 gw_175 mw_Disk_erase nh_Disk_erase pn_Disk_erase rfl) d_Scav_lose_5 pl_Disk_erase (Nat.le_of_ble_eq_true rfl) (Nat.le_of_ble_eq_true rfl) (Nat.le_of_ble_eq_true rfl) rfl rfl (c_Disk_erase (e0 := e0) (tl := (HF f (HW w (HM m (HS s tl)))))  d x1) (Or.inl (len1 (lenHD (lenHF (lenHW (lenHM (lenHS rfl))))))) ?_
  exact ev_pick [0] rfl (e_B_Scav_lose_8     (xErase d x1) f w m s)
def B_Scav_loseUnkept_58  (r26 : DS → FS → WS → MS → SS → Int64 → Int32 → Option (Unit × (DS × SS))) (d : DS) (f : FS) (w : WS) (m : MS) (s : SS) (x1 : Int64) (x3 : Int32) : Option (Unit × (DS × SS)) :=
  r26 d f w m s x1 (x3 + 1)
theorem e_B_Scav_loseUnkept_58 {sc : Nat × (Nat → Int32)} {e0 : mn_E} {tl : List mn_E}  (r26 : DS → FS → WS → MS → SS → Int64 → Int32 → Option (Unit × (DS × SS))) (hr26 : ∀ (d : DS) (f : FS) (w : WS) (m : MS) (s : SS) (x1 : Int64) (x3 : Int32), Ev sc 4 63 0 0 M_Scav_loseUnkept 26 [(0, .ref 9), (1, .long x1), (3, .int x3)] [] (e0 :: (HD d (HF f (HW w (HM m (HS s tl)))))) (mapR ouV (fun z => (e0 :: (HD z.1 (HF f (HW w (HM m (HS z.2 tl))))))) (r26 d f w m s x1 x3))) (d : DS) (f : FS) (w : WS) (m : MS) (s : SS) (x1 : Int64) (x3 : Int32) : Ev sc 4 63 0 0 M_Scav_loseUnkept 58 [(0, .ref 9), (1, .long x1), (3, .int x3)] [] (e0 :: (HD d (HF f (HW w (HM m (HS s tl)))))) (mapR ouV (fun z => (e0 :: (HD z.1 (HF f (HW w (HM m (HS z.2 tl))))))) (B_Scav_loseUnkept_58 r26 d f w m s x1 x3)) := by
  unfold B_Scav_loseUnkept_58
  refine ev_iinc (v := (x3 + 1)) d_Scav_loseUnkept_58 rfl rfl (by decide) rfl ?_
  refine ev_goto (tgt := 26) d_Scav_loseUnkept_61 rfl ?_
  exact ev_pick [1, 2, 0] rfl (hr26 d f w m s x1 (x3 + 1))
def L_Scav_loseUnkept_26   : Nat → DS → FS → WS → MS → SS → Int64 → Int32 → Option (Unit × (DS × SS))
  | 0, _, _, _, _, _, _, _ => none
  | n + 1, d, f, w, m, s, x1, x3 =>
  if 40 ≤ x3 then (some ((), (d, s))) else (if ((f_Disk_isInUse d x3).1) = 0 then (B_Scav_loseUnkept_58  (L_Scav_loseUnkept_26 n) d f w m s x1 x3) else (if ¬ (lg_cmp ((x1 >>> (x3.toInt64 &&& 63)) &&& 1) 0) = 0 then (B_Scav_loseUnkept_58  (L_Scav_loseUnkept_26 n) d f w m s x1 x3) else (B_Scav_loseUnkept_58  (L_Scav_loseUnkept_26 n) (((f_Scav_lose d f w m s x3).2).1) f w m (((f_Scav_lose d f w m s x3).2).2) x1 x3)))
theorem e_L_Scav_loseUnkept_26 {sc : Nat × (Nat → Int32)} {e0 : mn_E} {tl : List mn_E}    : ∀ (n : Nat) (d : DS) (f : FS) (w : WS) (m : MS) (s : SS) (x1 : Int64) (x3 : Int32), Ev sc 4 63 0 0 M_Scav_loseUnkept 26 [(0, .ref 9), (1, .long x1), (3, .int x3)] [] (e0 :: (HD d (HF f (HW w (HM m (HS s tl)))))) (mapR ouV (fun z => (e0 :: (HD z.1 (HF f (HW w (HM m (HS z.2 tl))))))) (L_Scav_loseUnkept_26   n d f w m s x1 x3)) := by
  intro n
  induction n with
  | zero => intro d f w m s x1 x3; exact ev_none
  | succ n ih =>
    intro d f w m s x1 x3
    rw [L_Scav_loseUnkept_26]
    refine ev_iload_n d_Scav_loseUnkept_26 rfl rfl ?_
    refine ev_bipush (v := 40) d_Scav_loseUnkept_27 rfl ?_
    refine ev_icmp_ge (tgt := 64) d_Scav_loseUnkept_29 rfl (fun h1 => ?_) (fun h1 => ?_)
    · rw [if_pos h1]
      exact ev_vret rfl d_Scav_loseUnkept_64
    · rw [if_neg h1]
      refine ev_aload_n d_Scav_loseUnkept_32 rfl rfl ?_
      refine ev_get (v := .ref 1) gi_Scav (ci := 5) rfl rfl 0 (by decide) gw_268 rfl d_Scav_loseUnkept_33 ?_
      refine ev_iload_n d_Scav_loseUnkept_36 rfl rfl ?_
      refine ev_callr (Mc := M_Disk_isInUse) (v := some (.int ((f_Disk_isInUse d x3).1))) (h1 := (e0 :: (HD d (HF f (HW w (HM m (HS s tl))))))) (k2 := 0) (n2 := 0) (inv_V (q := 1) (av := [.int x3]) (rest := []) rfl (ci := 1) rfl d_Scav_loseUnkept_37 gw_354 gw_355 gw_356 mw_Disk_isInUse nh_Disk_isInUse pn_Disk_isInUse rfl) d_Scav_loseUnkept_37 pl_Disk_isInUse (Nat.le_of_ble_eq_true rfl) (Nat.le_of_ble_eq_true rfl) (Nat.le_of_ble_eq_true rfl) rfl rfl (e_f_Disk_isInUse (e0 := e0) (tl := (HF f (HW w (HM m (HS s tl)))))  d x3) (Or.inl (len1 (lenHD (lenHF (lenHW (lenHM (lenHS rfl))))))) ?_
      refine ev_if_eq (tgt := 58) d_Scav_loseUnkept_40 rfl (fun h2 => ?_) (fun h2 => ?_)
      · rw [if_pos h2]
        exact ev_pick [0, 1, 2] rfl (e_B_Scav_loseUnkept_58   (L_Scav_loseUnkept_26 n) ih d f w m s x1 x3)
      · rw [if_neg h2]
        refine ev_lload_n d_Scav_loseUnkept_43 rfl rfl ?_
        refine ev_iload_n d_Scav_loseUnkept_44 rfl rfl ?_
        refine ev_lshr d_Scav_loseUnkept_45 ?_
        refine ev_lconst (v := 1) d_Scav_loseUnkept_46 rfl ?_
        refine ev_land d_Scav_loseUnkept_47 ?_
        refine ev_lconst (v := 0) d_Scav_loseUnkept_48 rfl ?_
        refine ev_lcmp d_Scav_loseUnkept_49 ?_
        refine ev_if_ne (tgt := 58) d_Scav_loseUnkept_50 rfl (fun h3 => ?_) (fun h3 => ?_)
        · rw [if_pos h3]
          exact ev_pick [0, 1, 2] rfl (e_B_Scav_loseUnkept_58   (L_Scav_loseUnkept_26 n) ih d f w m s x1 x3)
        · rw [if_neg h3]
          refine ev_aload_n d_Scav_loseUnkept_53 rfl rfl ?_
          refine ev_iload_n d_Scav_loseUnkept_54 rfl rfl ?_
          refine ev_callr (Mc := M_Scav_lose) (v := none) (h1 := (e0 :: (HD (((f_Scav_lose d f w m s x3).2).1) (HF f (HW w (HM m (HS (((f_Scav_lose d f w m s x3).2).2) tl))))))) (k2 := 0) (n2 := 0) (inv_V (q := 9) (av := [.int x3]) (rest := []) rfl (ci := 5) rfl d_Scav_loseUnkept_55 gw_358 gw_360 gw_3 mw_Scav_lose nh_Scav_lose pn_Scav_lose rfl) d_Scav_loseUnkept_55 pl_Scav_lose (Nat.le_of_ble_eq_true rfl) (Nat.le_of_ble_eq_true rfl) (Nat.le_of_ble_eq_true rfl) rfl rfl (e_f_Scav_lose (e0 := e0) (tl := tl)  d f w m s x3) (Or.inl (len1 (lenHD (lenHF (lenHW (lenHM (lenHS rfl))))))) ?_
          exact ev_pick [0, 1, 2] rfl (e_B_Scav_loseUnkept_58   (L_Scav_loseUnkept_26 n) ih (((f_Scav_lose d f w m s x3).2).1) f w m (((f_Scav_lose d f w m s x3).2).2) x1 x3)
def B_Scav_loseUnkept_16  (r4 : DS → FS → WS → MS → SS → Int64 → Int32 → Option (Unit × (DS × SS))) (d : DS) (f : FS) (w : WS) (m : MS) (s : SS) (x3 : Int32) (t0 : Int64) (t1 : Int64) : Option (Unit × (DS × SS)) :=
  r4 d f w m s (t0 ||| t1) (x3 + 1)
theorem e_B_Scav_loseUnkept_16 {sc : Nat × (Nat → Int32)} {e0 : mn_E} {tl : List mn_E}  (r4 : DS → FS → WS → MS → SS → Int64 → Int32 → Option (Unit × (DS × SS))) (hr4 : ∀ (d : DS) (f : FS) (w : WS) (m : MS) (s : SS) (x1 : Int64) (x3 : Int32), Ev sc 4 63 0 0 M_Scav_loseUnkept 4 [(0, .ref 9), (1, .long x1), (3, .int x3)] [] (e0 :: (HD d (HF f (HW w (HM m (HS s tl)))))) (mapR ouV (fun z => (e0 :: (HD z.1 (HF f (HW w (HM m (HS z.2 tl))))))) (r4 d f w m s x1 x3))) (d : DS) (f : FS) (w : WS) (m : MS) (s : SS) (x3 : Int32) (t0 : Int64) (t1 : Int64) : Ev sc 4 63 0 0 M_Scav_loseUnkept 16 [(0, .ref 9), (3, .int x3)] [.long t1, .long t0] (e0 :: (HD d (HF f (HW w (HM m (HS s tl)))))) (mapR ouV (fun z => (e0 :: (HD z.1 (HF f (HW w (HM m (HS z.2 tl))))))) (B_Scav_loseUnkept_16 r4 d f w m s x3 t0 t1)) := by
  unfold B_Scav_loseUnkept_16
  refine ev_lor d_Scav_loseUnkept_16 ?_
  refine ev_lstore_n d_Scav_loseUnkept_17 rfl (by decide) rfl ?_
  refine ev_iinc (v := (x3 + 1)) d_Scav_loseUnkept_18 rfl rfl (by decide) rfl ?_
  refine ev_goto (tgt := 4) d_Scav_loseUnkept_21 rfl ?_
  exact ev_pick [2, 1, 0] rfl (hr4 d f w m s (t0 ||| t1) (x3 + 1))
def L_Scav_loseUnkept_4   : Nat → DS → FS → WS → MS → SS → Int64 → Int32 → Option (Unit × (DS × SS))
  | 0, _, _, _, _, _, _, _ => none
  | n + 1, d, f, w, m, s, x1, x3 =>
  if 60 < x3 then (L_Scav_loseUnkept_26   100 d f w m s x1 0) else (bnd (f_Scav_keptOf d f w m s x3) (fun q => B_Scav_loseUnkept_16  (L_Scav_loseUnkept_4 n) d f w m s x3 x1 q.1))
theorem e_L_Scav_loseUnkept_4 {sc : Nat × (Nat → Int32)} {e0 : mn_E} {tl : List mn_E}    : ∀ (n : Nat) (d : DS) (f : FS) (w : WS) (m : MS) (s : SS) (x1 : Int64) (x3 : Int32), Ev sc 4 63 0 0 M_Scav_loseUnkept 4 [(0, .ref 9), (1, .long x1), (3, .int x3)] [] (e0 :: (HD d (HF f (HW w (HM m (HS s tl)))))) (mapR ouV (fun z => (e0 :: (HD z.1 (HF f (HW w (HM m (HS z.2 tl))))))) (L_Scav_loseUnkept_4   n d f w m s x1 x3)) := by
  intro n
  induction n with
  | zero => intro d f w m s x1 x3; exact ev_none
  | succ n ih =>
    intro d f w m s x1 x3
    rw [L_Scav_loseUnkept_4]
    refine ev_iload_n d_Scav_loseUnkept_4 rfl rfl ?_
    refine ev_bipush (v := 60) d_Scav_loseUnkept_5 rfl ?_
    refine ev_icmp_gt (tgt := 24) d_Scav_loseUnkept_7 rfl (fun h1 => ?_) (fun h1 => ?_)
    · rw [if_pos h1]
      refine ev_iconst (v := 0) d_Scav_loseUnkept_24 rfl ?_
      refine ev_istore_n d_Scav_loseUnkept_25 rfl (by decide) rfl ?_
      exact ev_pick [1, 2, 0] rfl (e_L_Scav_loseUnkept_26     100 d f w m s x1 0)
    · rw [if_neg h1]
      refine ev_lload_n d_Scav_loseUnkept_10 rfl rfl ?_
      refine ev_aload_n d_Scav_loseUnkept_11 rfl rfl ?_
      refine ev_iload_n d_Scav_loseUnkept_12 rfl rfl ?_
      refine ev_callB (rc := (f_Scav_keptOf d f w m s x3)) (ou := ouJ) (Hs := (fun z => (e0 :: (HD d (HF f (HW w (HM m (HS s tl)))))))) (inv_V (q := 9) (av := [.int x3]) (rest := [.long x1]) rfl (ci := 5) rfl d_Scav_loseUnkept_13 gw_341 gw_343 gw_1 mw_Scav_keptOf nh_Scav_keptOf pn_Scav_keptOf rfl) d_Scav_loseUnkept_13 pl_Scav_keptOf (Nat.le_of_ble_eq_true rfl) (Nat.le_of_ble_eq_true rfl) (Nat.le_of_ble_eq_true rfl) (e_f_Scav_keptOf (e0 := e0) (tl := tl)  d f w m s x3) (fun _ => (len1 (lenHD (lenHF (lenHW (lenHM (lenHS rfl))))))) (fun v z h2 => ⟨_, rfl, ?_⟩)
      exact ev_pick [0, 2] rfl (e_B_Scav_loseUnkept_16   (L_Scav_loseUnkept_4 n) ih d f w m s x3 x1 v)
def f_Scav_loseUnkept   (d : DS) (f : FS) (w : WS) (m : MS) (s : SS) : Option (Unit × (DS × SS)) :=
  L_Scav_loseUnkept_4   100 d f w m s 0 1
theorem e_f_Scav_loseUnkept {sc : Nat × (Nat → Int32)} {e0 : mn_E} {tl : List mn_E}    (d : DS) (f : FS) (w : WS) (m : MS) (s : SS) : Ev sc 4 63 0 0 M_Scav_loseUnkept 0 [(0, .ref 9)] [] (e0 :: (HD d (HF f (HW w (HM m (HS s tl)))))) (mapR ouV (fun z => (e0 :: (HD z.1 (HF f (HW w (HM m (HS z.2 tl))))))) (f_Scav_loseUnkept d f w m s)) := by
  unfold f_Scav_loseUnkept
  refine ev_lconst (v := 0) d_Scav_loseUnkept_0 rfl ?_
  refine ev_lstore_n d_Scav_loseUnkept_1 rfl (by decide) rfl ?_
  refine ev_iconst (v := 1) d_Scav_loseUnkept_2 rfl ?_
  refine ev_istore_n d_Scav_loseUnkept_3 rfl (by decide) rfl ?_
  exact ev_pick [2, 1, 0] rfl (e_L_Scav_loseUnkept_4     100 d f w m s 0 1)
def B_Scav_makeLeader_29   (d : DS) (f : FS) (w : WS) (m : MS) (s : SS) : (Int32 × (DS × SS)) :=
  (1, (d, (sSMad s ((sMad s) + 1))))
theorem e_B_Scav_makeLeader_29 {sc : Nat × (Nat → Int32)} {e0 : mn_E} {tl : List mn_E}    (d : DS) (f : FS) (w : WS) (m : MS) (s : SS) : Ev sc 3 47 0 0 M_Scav_makeLeader 29 [(0, .ref 9)] [] (e0 :: (HD d (HF f (HW w (HM m (HS s tl)))))) (mapT ouI (fun z => (e0 :: (HD z.1 (HF f (HW w (HM m (HS z.2 tl))))))) (B_Scav_makeLeader_29 d f w m s)) := by
  unfold B_Scav_makeLeader_29
  refine ev_aload_n d_Scav_makeLeader_29 rfl rfl ?_
  refine ev_dup d_Scav_makeLeader_30 rfl ?_
  refine ev_get (v := .int (sMad s)) gi_Scav (ci := 5) rfl rfl 3 (by decide) gw_271 rfl d_Scav_makeLeader_31 ?_
  refine ev_iconst (v := 1) d_Scav_makeLeader_34 rfl ?_
  refine ev_iadd d_Scav_makeLeader_35 ?_
  refine ev_put (h2 := (e0 :: (HD d (HF f (HW w (HM m (HS (sSMad s ((sMad s) + 1)) tl))))))) gi_Scav ft_Scav fo_Scav fn_Scav (ci := 5) rfl rfl 3 (by decide) gw_271 rfl rfl (fun _ => rfl) (fun _ => rfl) (Nat.le_of_ble_eq_true rfl) rfl d_Scav_makeLeader_36 ?_
  refine ev_iconst (v := 1) d_Scav_makeLeader_39 rfl ?_
  exact ev_zret (ty := .boolean) rfl rfl d_Scav_makeLeader_40
def f_Scav_makeLeader   (d : DS) (f : FS) (w : WS) (m : MS) (s : SS) (x1 : Int32) (x2 : Int32) (x3 : Int32) : (Int32 × (DS × SS)) :=
  if ¬ (xLowFree d) = (-1) then (B_Scav_makeLeader_29   ((f_Disk_makeLeader d (xLowFree d) x1 x2 x3).2) f w m s) else ((0, (d, s)))
theorem e_f_Scav_makeLeader {sc : Nat × (Nat → Int32)} {e0 : mn_E} {tl : List mn_E}    (d : DS) (f : FS) (w : WS) (m : MS) (s : SS) (x1 : Int32) (x2 : Int32) (x3 : Int32) : Ev sc 3 47 0 0 M_Scav_makeLeader 0 [(0, .ref 9), (1, .int x1), (2, .int x2), (3, .int x3)] [] (e0 :: (HD d (HF f (HW w (HM m (HS s tl)))))) (mapT ouI (fun z => (e0 :: (HD z.1 (HF f (HW w (HM m (HS z.2 tl))))))) (f_Scav_makeLeader d f w m s x1 x2 x3)) := by
  unfold f_Scav_makeLeader
  refine ev_aload_n d_Scav_makeLeader_0 rfl rfl ?_
  refine ev_get (v := .ref 1) gi_Scav (ci := 5) rfl rfl 0 (by decide) gw_268 rfl d_Scav_makeLeader_1 ?_
  refine ev_callr (Mc := M_Disk_lowestFree) (v := some (.int (xLowFree d))) (h1 := (e0 :: (HD d (HF f (HW w (HM m (HS s tl))))))) (k2 := 0) (n2 := 0) (inv_V (q := 1) (av := []) (rest := []) rfl (ci := 1) rfl d_Scav_makeLeader_4 gw_371 gw_372 gw_373 mw_Disk_lowestFree nh_Disk_lowestFree pn_Disk_lowestFree rfl) d_Scav_makeLeader_4 pl_Disk_lowestFree (Nat.le_of_ble_eq_true rfl) (Nat.le_of_ble_eq_true rfl) (Nat.le_of_ble_eq_true rfl) rfl rfl (c_Disk_lowestFree (e0 := e0) (tl := (HF f (HW w (HM m (HS s tl)))))  d ) (Or.inl (len1 (lenHD (lenHF (lenHW (lenHM (lenHS rfl))))))) ?_
  refine ev_istore d_Scav_makeLeader_7 (by decide) rfl ?_
  refine ev_iload d_Scav_makeLeader_9 rfl ?_
  refine ev_iconst (v := -1) d_Scav_makeLeader_11 rfl ?_
  refine ev_icmp_ne (tgt := 17) d_Scav_makeLeader_12 rfl (fun h1 => ?_) (fun h1 => ?_)
  · rw [if_pos h1]
    refine ev_aload_n d_Scav_makeLeader_17 rfl rfl ?_
    refine ev_get (v := .ref 1) gi_Scav (ci := 5) rfl rfl 0 (by decide) gw_268 rfl d_Scav_makeLeader_18 ?_
    refine ev_iload d_Scav_makeLeader_21 rfl ?_
    refine ev_iload_n d_Scav_makeLeader_23 rfl rfl ?_
    refine ev_iload_n d_Scav_makeLeader_24 rfl rfl ?_
    refine ev_iload_n d_Scav_makeLeader_25 rfl rfl ?_
    refine ev_callr (Mc := M_Disk_makeLeader) (v := none) (h1 := (e0 :: (HD ((f_Disk_makeLeader d (xLowFree d) x1 x2 x3).2) (HF f (HW w (HM m (HS s tl))))))) (k2 := 0) (n2 := 0) (inv_V (q := 1) (av := [.int (xLowFree d), .int x1, .int x2, .int x3]) (rest := []) rfl (ci := 1) rfl d_Scav_makeLeader_26 gw_375 gw_182 gw_183 mw_Disk_makeLeader nh_Disk_makeLeader pn_Disk_makeLeader rfl) d_Scav_makeLeader_26 pl_Disk_makeLeader (Nat.le_of_ble_eq_true rfl) (Nat.le_of_ble_eq_true rfl) (Nat.le_of_ble_eq_true rfl) rfl rfl (e_f_Disk_makeLeader (e0 := e0) (tl := (HF f (HW w (HM m (HS s tl)))))  d (xLowFree d) x1 x2 x3) (Or.inl (len1 (lenHD (lenHF (lenHW (lenHM (lenHS rfl))))))) ?_
    exact ev_pick [1] rfl (e_B_Scav_makeLeader_29     ((f_Disk_makeLeader d (xLowFree d) x1 x2 x3).2) f w m s)
  · rw [if_neg h1]
    refine ev_iconst (v := 0) d_Scav_makeLeader_15 rfl ?_
    exact ev_zret (ty := .boolean) rfl rfl d_Scav_makeLeader_16
def B_Scav_losePages_26  (r2 : DS → FS → WS → MS → SS → Int32 → Int32 → Option (Unit × (DS × SS))) (d : DS) (f : FS) (w : WS) (m : MS) (s : SS) (x1 : Int32) (x2 : Int32) : Option (Unit × (DS × SS)) :=
  r2 d f w m s x1 (x2 + 1)
theorem e_B_Scav_losePages_26 {sc : Nat × (Nat → Int32)} {e0 : mn_E} {tl : List mn_E}  (r2 : DS → FS → WS → MS → SS → Int32 → Int32 → Option (Unit × (DS × SS))) (hr2 : ∀ (d : DS) (f : FS) (w : WS) (m : MS) (s : SS) (x1 : Int32) (x2 : Int32), Ev sc 3 43 0 0 M_Scav_losePages 2 [(0, .ref 9), (1, .int x1), (2, .int x2)] [] (e0 :: (HD d (HF f (HW w (HM m (HS s tl)))))) (mapR ouV (fun z => (e0 :: (HD z.1 (HF f (HW w (HM m (HS z.2 tl))))))) (r2 d f w m s x1 x2))) (d : DS) (f : FS) (w : WS) (m : MS) (s : SS) (x1 : Int32) (x2 : Int32) : Ev sc 3 43 0 0 M_Scav_losePages 26 [(0, .ref 9), (1, .int x1), (2, .int x2)] [] (e0 :: (HD d (HF f (HW w (HM m (HS s tl)))))) (mapR ouV (fun z => (e0 :: (HD z.1 (HF f (HW w (HM m (HS z.2 tl))))))) (B_Scav_losePages_26 r2 d f w m s x1 x2)) := by
  unfold B_Scav_losePages_26
  refine ev_iinc (v := (x2 + 1)) d_Scav_losePages_26 rfl rfl (by decide) rfl ?_
  refine ev_goto (tgt := 2) d_Scav_losePages_29 rfl ?_
  exact ev_pick [1, 2, 0] rfl (hr2 d f w m s x1 (x2 + 1))
def L_Scav_losePages_2   : Nat → DS → FS → WS → MS → SS → Int32 → Int32 → Option (Unit × (DS × SS))
  | 0, _, _, _, _, _, _, _ => none
  | n + 1, d, f, w, m, s, x1, x2 =>
  if 40 ≤ x2 then (some ((), (d, s))) else (if ¬ (xCell d x2 0) = x1 then (B_Scav_losePages_26  (L_Scav_losePages_2 n) d f w m s x1 x2) else (B_Scav_losePages_26  (L_Scav_losePages_2 n) (((f_Scav_lose d f w m s x2).2).1) f w m (((f_Scav_lose d f w m s x2).2).2) x1 x2))
theorem e_L_Scav_losePages_2 {sc : Nat × (Nat → Int32)} {e0 : mn_E} {tl : List mn_E}    : ∀ (n : Nat) (d : DS) (f : FS) (w : WS) (m : MS) (s : SS) (x1 : Int32) (x2 : Int32), Ev sc 3 43 0 0 M_Scav_losePages 2 [(0, .ref 9), (1, .int x1), (2, .int x2)] [] (e0 :: (HD d (HF f (HW w (HM m (HS s tl)))))) (mapR ouV (fun z => (e0 :: (HD z.1 (HF f (HW w (HM m (HS z.2 tl))))))) (L_Scav_losePages_2   n d f w m s x1 x2)) := by
  intro n
  induction n with
  | zero => intro d f w m s x1 x2; exact ev_none
  | succ n ih =>
    intro d f w m s x1 x2
    rw [L_Scav_losePages_2]
    refine ev_iload_n d_Scav_losePages_2 rfl rfl ?_
    refine ev_bipush (v := 40) d_Scav_losePages_3 rfl ?_
    refine ev_icmp_ge (tgt := 32) d_Scav_losePages_5 rfl (fun h1 => ?_) (fun h1 => ?_)
    · rw [if_pos h1]
      exact ev_vret rfl d_Scav_losePages_32
    · rw [if_neg h1]
      refine ev_aload_n d_Scav_losePages_8 rfl rfl ?_
      refine ev_get (v := .ref 1) gi_Scav (ci := 5) rfl rfl 0 (by decide) gw_268 rfl d_Scav_losePages_9 ?_
      refine ev_iload_n d_Scav_losePages_12 rfl rfl ?_
      refine ev_iconst (v := 0) d_Scav_losePages_13 rfl ?_
      refine ev_callr (Mc := M_Disk_cell) (v := some (.int (xCell d x2 0))) (h1 := (e0 :: (HD d (HF f (HW w (HM m (HS s tl))))))) (k2 := 0) (n2 := 0) (inv_V (q := 1) (av := [.int x2, .int 0]) (rest := []) rfl (ci := 1) rfl d_Scav_losePages_14 gw_353 gw_198 gw_199 mw_Disk_cell nh_Disk_cell pn_Disk_cell rfl) d_Scav_losePages_14 pl_Disk_cell (Nat.le_of_ble_eq_true rfl) (Nat.le_of_ble_eq_true rfl) (Nat.le_of_ble_eq_true rfl) rfl rfl (c_Disk_cell (e0 := e0) (tl := (HF f (HW w (HM m (HS s tl)))))  d x2 0) (Or.inl (len1 (lenHD (lenHF (lenHW (lenHM (lenHS rfl))))))) ?_
      refine ev_iload_n d_Scav_losePages_17 rfl rfl ?_
      refine ev_icmp_ne (tgt := 26) d_Scav_losePages_18 rfl (fun h2 => ?_) (fun h2 => ?_)
      · rw [if_pos h2]
        exact ev_pick [0, 1, 2] rfl (e_B_Scav_losePages_26   (L_Scav_losePages_2 n) ih d f w m s x1 x2)
      · rw [if_neg h2]
        refine ev_aload_n d_Scav_losePages_21 rfl rfl ?_
        refine ev_iload_n d_Scav_losePages_22 rfl rfl ?_
        refine ev_callr (Mc := M_Scav_lose) (v := none) (h1 := (e0 :: (HD (((f_Scav_lose d f w m s x2).2).1) (HF f (HW w (HM m (HS (((f_Scav_lose d f w m s x2).2).2) tl))))))) (k2 := 0) (n2 := 0) (inv_V (q := 9) (av := [.int x2]) (rest := []) rfl (ci := 5) rfl d_Scav_losePages_23 gw_358 gw_360 gw_3 mw_Scav_lose nh_Scav_lose pn_Scav_lose rfl) d_Scav_losePages_23 pl_Scav_lose (Nat.le_of_ble_eq_true rfl) (Nat.le_of_ble_eq_true rfl) (Nat.le_of_ble_eq_true rfl) rfl rfl (e_f_Scav_lose (e0 := e0) (tl := tl)  d f w m s x2) (Or.inl (len1 (lenHD (lenHF (lenHW (lenHM (lenHS rfl))))))) ?_
        exact ev_pick [0, 1, 2] rfl (e_B_Scav_losePages_26   (L_Scav_losePages_2 n) ih (((f_Scav_lose d f w m s x2).2).1) f w m (((f_Scav_lose d f w m s x2).2).2) x1 x2)
def f_Scav_losePages   (d : DS) (f : FS) (w : WS) (m : MS) (s : SS) (x1 : Int32) : Option (Unit × (DS × SS)) :=
  L_Scav_losePages_2   100 d f w m s x1 0
theorem e_f_Scav_losePages {sc : Nat × (Nat → Int32)} {e0 : mn_E} {tl : List mn_E}    (d : DS) (f : FS) (w : WS) (m : MS) (s : SS) (x1 : Int32) : Ev sc 3 43 0 0 M_Scav_losePages 0 [(0, .ref 9), (1, .int x1)] [] (e0 :: (HD d (HF f (HW w (HM m (HS s tl)))))) (mapR ouV (fun z => (e0 :: (HD z.1 (HF f (HW w (HM m (HS z.2 tl))))))) (f_Scav_losePages d f w m s x1)) := by
  unfold f_Scav_losePages
  refine ev_iconst (v := 0) d_Scav_losePages_0 rfl ?_
  refine ev_istore_n d_Scav_losePages_1 rfl (by decide) rfl ?_
  exact ev_pick [1, 2, 0] rfl (e_L_Scav_losePages_2     100 d f w m s x1 0)
def B_Scav_provideLeader_61   (d : DS) (f : FS) (w : WS) (m : MS) (s : SS) : Option (Unit × (DS × SS)) :=
  some ((), (d, s))
theorem e_B_Scav_provideLeader_61 {sc : Nat × (Nat → Int32)} {e0 : mn_E} {tl : List mn_E}    (d : DS) (f : FS) (w : WS) (m : MS) (s : SS) : Ev sc 4 63 0 0 M_Scav_provideLeader 61 [] [] (e0 :: (HD d (HF f (HW w (HM m (HS s tl)))))) (mapR ouV (fun z => (e0 :: (HD z.1 (HF f (HW w (HM m (HS z.2 tl))))))) (B_Scav_provideLeader_61 d f w m s)) := by
  unfold B_Scav_provideLeader_61
  exact ev_vret rfl d_Scav_provideLeader_61
def B_Scav_provideLeader_51   (d : DS) (f : FS) (w : WS) (m : MS) (s : SS) (x2 : Int32) (x3 : Int32) : Option (Unit × (DS × SS)) :=
  B_Scav_provideLeader_61   ((f_Disk_setByte d x3 2 x2).2) f w m s
theorem e_B_Scav_provideLeader_51 {sc : Nat × (Nat → Int32)} {e0 : mn_E} {tl : List mn_E}    (d : DS) (f : FS) (w : WS) (m : MS) (s : SS) (x2 : Int32) (x3 : Int32) : Ev sc 4 63 0 0 M_Scav_provideLeader 51 [(0, .ref 9), (2, .int x2), (3, .int x3)] [] (e0 :: (HD d (HF f (HW w (HM m (HS s tl)))))) (mapR ouV (fun z => (e0 :: (HD z.1 (HF f (HW w (HM m (HS z.2 tl))))))) (B_Scav_provideLeader_51 d f w m s x2 x3)) := by
  unfold B_Scav_provideLeader_51
  refine ev_aload_n d_Scav_provideLeader_51 rfl rfl ?_
  refine ev_get (v := .ref 1) gi_Scav (ci := 5) rfl rfl 0 (by decide) gw_268 rfl d_Scav_provideLeader_52 ?_
  refine ev_iload_n d_Scav_provideLeader_55 rfl rfl ?_
  refine ev_iconst (v := 2) d_Scav_provideLeader_56 rfl ?_
  refine ev_iload_n d_Scav_provideLeader_57 rfl rfl ?_
  refine ev_callr (Mc := M_Disk_setByte) (v := none) (h1 := (e0 :: (HD ((f_Disk_setByte d x3 2 x2).2) (HF f (HW w (HM m (HS s tl))))))) (k2 := 0) (n2 := 0) (inv_V (q := 1) (av := [.int x3, .int 2, .int x2]) (rest := []) rfl (ci := 1) rfl d_Scav_provideLeader_58 gw_385 gw_190 gw_191 mw_Disk_setByte nh_Disk_setByte pn_Disk_setByte rfl) d_Scav_provideLeader_58 pl_Disk_setByte (Nat.le_of_ble_eq_true rfl) (Nat.le_of_ble_eq_true rfl) (Nat.le_of_ble_eq_true rfl) rfl rfl (e_f_Disk_setByte (e0 := e0) (tl := (HF f (HW w (HM m (HS s tl)))))  d x3 2 x2) (Or.inl (len1 (lenHD (lenHF (lenHW (lenHM (lenHS rfl))))))) ?_
  exact ev_pick [] rfl (e_B_Scav_provideLeader_61     ((f_Disk_setByte d x3 2 x2).2) f w m s)
def B_Scav_provideLeader_31   (d : DS) (f : FS) (w : WS) (m : MS) (s : SS) (x1 : Int32) (x2 : Int32) : Option (Unit × (DS × SS)) :=
  B_Scav_provideLeader_51   ((f_Disk_setName d (xSearch d x1 0) 0 0).2) f w m s x2 (xSearch d x1 0)
theorem e_B_Scav_provideLeader_31 {sc : Nat × (Nat → Int32)} {e0 : mn_E} {tl : List mn_E}    (d : DS) (f : FS) (w : WS) (m : MS) (s : SS) (x1 : Int32) (x2 : Int32) : Ev sc 4 63 0 0 M_Scav_provideLeader 31 [(0, .ref 9), (1, .int x1), (2, .int x2)] [] (e0 :: (HD d (HF f (HW w (HM m (HS s tl)))))) (mapR ouV (fun z => (e0 :: (HD z.1 (HF f (HW w (HM m (HS z.2 tl))))))) (B_Scav_provideLeader_31 d f w m s x1 x2)) := by
  unfold B_Scav_provideLeader_31
  refine ev_aload_n d_Scav_provideLeader_31 rfl rfl ?_
  refine ev_get (v := .ref 1) gi_Scav (ci := 5) rfl rfl 0 (by decide) gw_268 rfl d_Scav_provideLeader_32 ?_
  refine ev_iload_n d_Scav_provideLeader_35 rfl rfl ?_
  refine ev_iconst (v := 0) d_Scav_provideLeader_36 rfl ?_
  refine ev_callr (Mc := M_Disk_search) (v := some (.int (xSearch d x1 0))) (h1 := (e0 :: (HD d (HF f (HW w (HM m (HS s tl))))))) (k2 := 0) (n2 := 0) (inv_V (q := 1) (av := [.int x1, .int 0]) (rest := []) rfl (ci := 1) rfl d_Scav_provideLeader_37 gw_349 gw_350 gw_351 mw_Disk_search nh_Disk_search pn_Disk_search rfl) d_Scav_provideLeader_37 pl_Disk_search (Nat.le_of_ble_eq_true rfl) (Nat.le_of_ble_eq_true rfl) (Nat.le_of_ble_eq_true rfl) rfl rfl (c_Disk_search (e0 := e0) (tl := (HF f (HW w (HM m (HS s tl)))))  d x1 0) (Or.inl (len1 (lenHD (lenHF (lenHW (lenHM (lenHS rfl))))))) ?_
  refine ev_istore_n d_Scav_provideLeader_40 rfl (by decide) rfl ?_
  refine ev_aload_n d_Scav_provideLeader_41 rfl rfl ?_
  refine ev_get (v := .ref 1) gi_Scav (ci := 5) rfl rfl 0 (by decide) gw_268 rfl d_Scav_provideLeader_42 ?_
  refine ev_iload_n d_Scav_provideLeader_45 rfl rfl ?_
  refine ev_iconst (v := 0) d_Scav_provideLeader_46 rfl ?_
  refine ev_iconst (v := 0) d_Scav_provideLeader_47 rfl ?_
  refine ev_callr (Mc := M_Disk_setName) (v := none) (h1 := (e0 :: (HD ((f_Disk_setName d (xSearch d x1 0) 0 0).2) (HF f (HW w (HM m (HS s tl))))))) (k2 := 0) (n2 := 0) (inv_V (q := 1) (av := [.int (xSearch d x1 0), .int 0, .int 0]) (rest := []) rfl (ci := 1) rfl d_Scav_provideLeader_48 gw_384 gw_186 gw_187 mw_Disk_setName nh_Disk_setName pn_Disk_setName rfl) d_Scav_provideLeader_48 pl_Disk_setName (Nat.le_of_ble_eq_true rfl) (Nat.le_of_ble_eq_true rfl) (Nat.le_of_ble_eq_true rfl) rfl rfl (e_f_Disk_setName (e0 := e0) (tl := (HF f (HW w (HM m (HS s tl)))))  d (xSearch d x1 0) 0 0) (Or.inl (len1 (lenHD (lenHF (lenHW (lenHM (lenHS rfl))))))) ?_
  exact ev_pick [1, 3, 0] rfl (e_B_Scav_provideLeader_51     ((f_Disk_setName d (xSearch d x1 0) 0 0).2) f w m s x2 (xSearch d x1 0))
def B_Scav_provideLeader_30   (d : DS) (f : FS) (w : WS) (m : MS) (s : SS) (x1 : Int32) (x2 : Int32) (t0 : Int32) : Option (Unit × (DS × SS)) :=
  B_Scav_provideLeader_31   d f w m s x1 x2
theorem e_B_Scav_provideLeader_30 {sc : Nat × (Nat → Int32)} {e0 : mn_E} {tl : List mn_E}    (d : DS) (f : FS) (w : WS) (m : MS) (s : SS) (x1 : Int32) (x2 : Int32) (t0 : Int32) : Ev sc 4 63 0 0 M_Scav_provideLeader 30 [(0, .ref 9), (1, .int x1), (2, .int x2)] [.int t0] (e0 :: (HD d (HF f (HW w (HM m (HS s tl)))))) (mapR ouV (fun z => (e0 :: (HD z.1 (HF f (HW w (HM m (HS z.2 tl))))))) (B_Scav_provideLeader_30 d f w m s x1 x2 t0)) := by
  unfold B_Scav_provideLeader_30
  refine ev_pop d_Scav_provideLeader_30 rfl ?_
  exact ev_pick [0, 1, 2] rfl (e_B_Scav_provideLeader_31     d f w m s x1 x2)
def B_Scav_provideLeader_23   (d : DS) (f : FS) (w : WS) (m : MS) (s : SS) (x1 : Int32) (x2 : Int32) : Option (Unit × (DS × SS)) :=
  B_Scav_provideLeader_30   (((f_Scav_makeLeader d f w m s x1 0 x2).2).1) f w m (((f_Scav_makeLeader d f w m s x1 0 x2).2).2) x1 x2 ((f_Scav_makeLeader d f w m s x1 0 x2).1)
theorem e_B_Scav_provideLeader_23 {sc : Nat × (Nat → Int32)} {e0 : mn_E} {tl : List mn_E}    (d : DS) (f : FS) (w : WS) (m : MS) (s : SS) (x1 : Int32) (x2 : Int32) : Ev sc 4 63 0 0 M_Scav_provideLeader 23 [(0, .ref 9), (1, .int x1), (2, .int x2)] [] (e0 :: (HD d (HF f (HW w (HM m (HS s tl)))))) (mapR ouV (fun z => (e0 :: (HD z.1 (HF f (HW w (HM m (HS z.2 tl))))))) (B_Scav_provideLeader_23 d f w m s x1 x2)) := by
  unfold B_Scav_provideLeader_23
  refine ev_aload_n d_Scav_provideLeader_23 rfl rfl ?_
  refine ev_iload_n d_Scav_provideLeader_24 rfl rfl ?_
  refine ev_iconst (v := 0) d_Scav_provideLeader_25 rfl ?_
  refine ev_iload_n d_Scav_provideLeader_26 rfl rfl ?_
  refine ev_callr (Mc := M_Scav_makeLeader) (v := some (.int ((f_Scav_makeLeader d f w m s x1 0 x2).1))) (h1 := (e0 :: (HD (((f_Scav_makeLeader d f w m s x1 0 x2).2).1) (HF f (HW w (HM m (HS (((f_Scav_makeLeader d f w m s x1 0 x2).2).2) tl))))))) (k2 := 0) (n2 := 0) (inv_V (q := 9) (av := [.int x1, .int 0, .int x2]) (rest := []) rfl (ci := 5) rfl d_Scav_provideLeader_27 gw_367 gw_369 gw_5 mw_Scav_makeLeader nh_Scav_makeLeader pn_Scav_makeLeader rfl) d_Scav_provideLeader_27 pl_Scav_makeLeader (Nat.le_of_ble_eq_true rfl) (Nat.le_of_ble_eq_true rfl) (Nat.le_of_ble_eq_true rfl) rfl rfl (e_f_Scav_makeLeader (e0 := e0) (tl := tl)  d f w m s x1 0 x2) (Or.inl (len1 (lenHD (lenHF (lenHW (lenHM (lenHS rfl))))))) ?_
  exact ev_pick [0, 1, 2] rfl (e_B_Scav_provideLeader_30     (((f_Scav_makeLeader d f w m s x1 0 x2).2).1) f w m (((f_Scav_makeLeader d f w m s x1 0 x2).2).2) x1 x2 ((f_Scav_makeLeader d f w m s x1 0 x2).1))
def B_Scav_provideLeader_15   (d : DS) (f : FS) (w : WS) (m : MS) (s : SS) (x1 : Int32) (x2 : Int32) (t0 : Int32) : Option (Unit × (DS × SS)) :=
  if ¬ t0 = 0 then (B_Scav_provideLeader_31   d f w m s x1 x2) else (bnd (f_Scav_losePages d f w m s x1) (fun q => B_Scav_provideLeader_23   q.2.1 f w m q.2.2 x1 x2))
theorem e_B_Scav_provideLeader_15 {sc : Nat × (Nat → Int32)} {e0 : mn_E} {tl : List mn_E}    (d : DS) (f : FS) (w : WS) (m : MS) (s : SS) (x1 : Int32) (x2 : Int32) (t0 : Int32) : Ev sc 4 63 0 0 M_Scav_provideLeader 15 [(0, .ref 9), (1, .int x1), (2, .int x2)] [.int t0] (e0 :: (HD d (HF f (HW w (HM m (HS s tl)))))) (mapR ouV (fun z => (e0 :: (HD z.1 (HF f (HW w (HM m (HS z.2 tl))))))) (B_Scav_provideLeader_15 d f w m s x1 x2 t0)) := by
  unfold B_Scav_provideLeader_15
  refine ev_if_ne (tgt := 31) d_Scav_provideLeader_15 rfl (fun h1 => ?_) (fun h1 => ?_)
  · rw [if_pos h1]
    exact ev_pick [0, 1, 2] rfl (e_B_Scav_provideLeader_31     d f w m s x1 x2)
  · rw [if_neg h1]
    refine ev_aload_n d_Scav_provideLeader_18 rfl rfl ?_
    refine ev_iload_n d_Scav_provideLeader_19 rfl rfl ?_
    refine ev_callB (rc := (f_Scav_losePages d f w m s x1)) (ou := ouV) (Hs := (fun z => (e0 :: (HD z.1 (HF f (HW w (HM m (HS z.2 tl)))))))) (inv_V (q := 9) (av := [.int x1]) (rest := []) rfl (ci := 5) rfl d_Scav_provideLeader_20 gw_376 gw_378 gw_6 mw_Scav_losePages nh_Scav_losePages pn_Scav_losePages rfl) d_Scav_provideLeader_20 pl_Scav_losePages (Nat.le_of_ble_eq_true rfl) (Nat.le_of_ble_eq_true rfl) (Nat.le_of_ble_eq_true rfl) (e_f_Scav_losePages (e0 := e0) (tl := tl)  d f w m s x1) (fun _ => (len1 (lenHD (lenHF (lenHW (lenHM (lenHS rfl))))))) (fun v z h2 => ⟨_, rfl, ?_⟩)
    exact ev_pick [0, 1, 2] rfl (e_B_Scav_provideLeader_23     z.1 f w m z.2 x1 x2)
def f_Scav_provideLeader   (d : DS) (f : FS) (w : WS) (m : MS) (s : SS) (x1 : Int32) (x2 : Int32) : Option (Unit × (DS × SS)) :=
  if ¬ ((f_Scav_isThere d f w m s x1).1) = 0 then (B_Scav_provideLeader_31   d f w m s x1 x2) else (B_Scav_provideLeader_15   (((f_Scav_makeLeader d f w m s x1 0 x2).2).1) f w m (((f_Scav_makeLeader d f w m s x1 0 x2).2).2) x1 x2 ((f_Scav_makeLeader d f w m s x1 0 x2).1))
theorem e_f_Scav_provideLeader {sc : Nat × (Nat → Int32)} {e0 : mn_E} {tl : List mn_E}    (d : DS) (f : FS) (w : WS) (m : MS) (s : SS) (x1 : Int32) (x2 : Int32) : Ev sc 4 63 0 0 M_Scav_provideLeader 0 [(0, .ref 9), (1, .int x1), (2, .int x2)] [] (e0 :: (HD d (HF f (HW w (HM m (HS s tl)))))) (mapR ouV (fun z => (e0 :: (HD z.1 (HF f (HW w (HM m (HS z.2 tl))))))) (f_Scav_provideLeader d f w m s x1 x2)) := by
  unfold f_Scav_provideLeader
  refine ev_aload_n d_Scav_provideLeader_0 rfl rfl ?_
  refine ev_iload_n d_Scav_provideLeader_1 rfl rfl ?_
  refine ev_callr (Mc := M_Scav_isThere) (v := some (.int ((f_Scav_isThere d f w m s x1).1))) (h1 := (e0 :: (HD d (HF f (HW w (HM m (HS s tl))))))) (k2 := 0) (n2 := 0) (inv_V (q := 9) (av := [.int x1]) (rest := []) rfl (ci := 5) rfl d_Scav_provideLeader_2 gw_345 gw_347 gw_2 mw_Scav_isThere nh_Scav_isThere pn_Scav_isThere rfl) d_Scav_provideLeader_2 pl_Scav_isThere (Nat.le_of_ble_eq_true rfl) (Nat.le_of_ble_eq_true rfl) (Nat.le_of_ble_eq_true rfl) rfl rfl (e_f_Scav_isThere (e0 := e0) (tl := tl)  d f w m s x1) (Or.inl (len1 (lenHD (lenHF (lenHW (lenHM (lenHS rfl))))))) ?_
  refine ev_if_ne (tgt := 31) d_Scav_provideLeader_5 rfl (fun h1 => ?_) (fun h1 => ?_)
  · rw [if_pos h1]
    exact ev_pick [0, 1, 2] rfl (e_B_Scav_provideLeader_31     d f w m s x1 x2)
  · rw [if_neg h1]
    refine ev_aload_n d_Scav_provideLeader_8 rfl rfl ?_
    refine ev_iload_n d_Scav_provideLeader_9 rfl rfl ?_
    refine ev_iconst (v := 0) d_Scav_provideLeader_10 rfl ?_
    refine ev_iload_n d_Scav_provideLeader_11 rfl rfl ?_
    refine ev_callr (Mc := M_Scav_makeLeader) (v := some (.int ((f_Scav_makeLeader d f w m s x1 0 x2).1))) (h1 := (e0 :: (HD (((f_Scav_makeLeader d f w m s x1 0 x2).2).1) (HF f (HW w (HM m (HS (((f_Scav_makeLeader d f w m s x1 0 x2).2).2) tl))))))) (k2 := 0) (n2 := 0) (inv_V (q := 9) (av := [.int x1, .int 0, .int x2]) (rest := []) rfl (ci := 5) rfl d_Scav_provideLeader_12 gw_367 gw_369 gw_5 mw_Scav_makeLeader nh_Scav_makeLeader pn_Scav_makeLeader rfl) d_Scav_provideLeader_12 pl_Scav_makeLeader (Nat.le_of_ble_eq_true rfl) (Nat.le_of_ble_eq_true rfl) (Nat.le_of_ble_eq_true rfl) rfl rfl (e_f_Scav_makeLeader (e0 := e0) (tl := tl)  d f w m s x1 0 x2) (Or.inl (len1 (lenHD (lenHF (lenHW (lenHM (lenHS rfl))))))) ?_
    exact ev_pick [0, 1, 2] rfl (e_B_Scav_provideLeader_15     (((f_Scav_makeLeader d f w m s x1 0 x2).2).1) f w m (((f_Scav_makeLeader d f w m s x1 0 x2).2).2) x1 x2 ((f_Scav_makeLeader d f w m s x1 0 x2).1))
def B_Scav_makeMapPage_51   (d : DS) (f : FS) (w : WS) (m : MS) (s : SS) : (Unit × DS) :=
  ((), d)
theorem e_B_Scav_makeMapPage_51 {sc : Nat × (Nat → Int32)} {e0 : mn_E} {tl : List mn_E}    (d : DS) (f : FS) (w : WS) (m : MS) (s : SS) : Ev sc 3 45 0 0 M_Scav_makeMapPage 51 [] [] (e0 :: (HD d (HF f (HW w (HM m (HS s tl)))))) (mapT ouV (fun z => (e0 :: (HD z (HF f (HW w (HM m (HS s tl))))))) (B_Scav_makeMapPage_51 d f w m s)) := by
  unfold B_Scav_makeMapPage_51
  exact ev_vret rfl d_Scav_makeMapPage_51
def f_Scav_makeMapPage   (d : DS) (f : FS) (w : WS) (m : MS) (s : SS) : (Unit × DS) :=
  if (xSearch d 2 0) = (-1) then (B_Scav_makeMapPage_51   d f w m s) else (if (xLowFree d) = (-1) then (B_Scav_makeMapPage_51   d f w m s) else (if ¬ (xSearch d 2 1) = (-1) then (B_Scav_makeMapPage_51   d f w m s) else (B_Scav_makeMapPage_51   ((f_Disk_makePageBehind d (xSearch d 2 0) (xLowFree d) 5).2) f w m s)))
theorem e_f_Scav_makeMapPage {sc : Nat × (Nat → Int32)} {e0 : mn_E} {tl : List mn_E}    (d : DS) (f : FS) (w : WS) (m : MS) (s : SS) : Ev sc 3 45 0 0 M_Scav_makeMapPage 0 [(0, .ref 9)] [] (e0 :: (HD d (HF f (HW w (HM m (HS s tl)))))) (mapT ouV (fun z => (e0 :: (HD z (HF f (HW w (HM m (HS s tl))))))) (f_Scav_makeMapPage d f w m s)) := by
  unfold f_Scav_makeMapPage
  refine ev_aload_n d_Scav_makeMapPage_0 rfl rfl ?_
  refine ev_get (v := .ref 1) gi_Scav (ci := 5) rfl rfl 0 (by decide) gw_268 rfl d_Scav_makeMapPage_1 ?_
  refine ev_iconst (v := 2) d_Scav_makeMapPage_4 rfl ?_
  refine ev_iconst (v := 0) d_Scav_makeMapPage_5 rfl ?_
  refine ev_callr (Mc := M_Disk_search) (v := some (.int (xSearch d 2 0))) (h1 := (e0 :: (HD d (HF f (HW w (HM m (HS s tl))))))) (k2 := 0) (n2 := 0) (inv_V (q := 1) (av := [.int 2, .int 0]) (rest := []) rfl (ci := 1) rfl d_Scav_makeMapPage_6 gw_349 gw_350 gw_351 mw_Disk_search nh_Disk_search pn_Disk_search rfl) d_Scav_makeMapPage_6 pl_Disk_search (Nat.le_of_ble_eq_true rfl) (Nat.le_of_ble_eq_true rfl) (Nat.le_of_ble_eq_true rfl) rfl rfl (c_Disk_search (e0 := e0) (tl := (HF f (HW w (HM m (HS s tl)))))  d 2 0) (Or.inl (len1 (lenHD (lenHF (lenHW (lenHM (lenHS rfl))))))) ?_
  refine ev_istore_n d_Scav_makeMapPage_9 rfl (by decide) rfl ?_
  refine ev_aload_n d_Scav_makeMapPage_10 rfl rfl ?_
  refine ev_get (v := .ref 1) gi_Scav (ci := 5) rfl rfl 0 (by decide) gw_268 rfl d_Scav_makeMapPage_11 ?_
  refine ev_callr (Mc := M_Disk_lowestFree) (v := some (.int (xLowFree d))) (h1 := (e0 :: (HD d (HF f (HW w (HM m (HS s tl))))))) (k2 := 0) (n2 := 0) (inv_V (q := 1) (av := []) (rest := []) rfl (ci := 1) rfl d_Scav_makeMapPage_14 gw_371 gw_372 gw_373 mw_Disk_lowestFree nh_Disk_lowestFree pn_Disk_lowestFree rfl) d_Scav_makeMapPage_14 pl_Disk_lowestFree (Nat.le_of_ble_eq_true rfl) (Nat.le_of_ble_eq_true rfl) (Nat.le_of_ble_eq_true rfl) rfl rfl (c_Disk_lowestFree (e0 := e0) (tl := (HF f (HW w (HM m (HS s tl)))))  d ) (Or.inl (len1 (lenHD (lenHF (lenHW (lenHM (lenHS rfl))))))) ?_
  refine ev_istore_n d_Scav_makeMapPage_17 rfl (by decide) rfl ?_
  refine ev_iload_n d_Scav_makeMapPage_18 rfl rfl ?_
  refine ev_iconst (v := -1) d_Scav_makeMapPage_19 rfl ?_
  refine ev_icmp_eq (tgt := 51) d_Scav_makeMapPage_20 rfl (fun h1 => ?_) (fun h1 => ?_)
  · rw [if_pos h1]
    exact ev_pick [] rfl (e_B_Scav_makeMapPage_51     d f w m s)
  · rw [if_neg h1]
    refine ev_iload_n d_Scav_makeMapPage_23 rfl rfl ?_
    refine ev_iconst (v := -1) d_Scav_makeMapPage_24 rfl ?_
    refine ev_icmp_eq (tgt := 51) d_Scav_makeMapPage_25 rfl (fun h2 => ?_) (fun h2 => ?_)
    · rw [if_pos h2]
      exact ev_pick [] rfl (e_B_Scav_makeMapPage_51     d f w m s)
    · rw [if_neg h2]
      refine ev_aload_n d_Scav_makeMapPage_28 rfl rfl ?_
      refine ev_get (v := .ref 1) gi_Scav (ci := 5) rfl rfl 0 (by decide) gw_268 rfl d_Scav_makeMapPage_29 ?_
      refine ev_iconst (v := 2) d_Scav_makeMapPage_32 rfl ?_
      refine ev_iconst (v := 1) d_Scav_makeMapPage_33 rfl ?_
      refine ev_callr (Mc := M_Disk_search) (v := some (.int (xSearch d 2 1))) (h1 := (e0 :: (HD d (HF f (HW w (HM m (HS s tl))))))) (k2 := 0) (n2 := 0) (inv_V (q := 1) (av := [.int 2, .int 1]) (rest := []) rfl (ci := 1) rfl d_Scav_makeMapPage_34 gw_349 gw_350 gw_351 mw_Disk_search nh_Disk_search pn_Disk_search rfl) d_Scav_makeMapPage_34 pl_Disk_search (Nat.le_of_ble_eq_true rfl) (Nat.le_of_ble_eq_true rfl) (Nat.le_of_ble_eq_true rfl) rfl rfl (c_Disk_search (e0 := e0) (tl := (HF f (HW w (HM m (HS s tl)))))  d 2 1) (Or.inl (len1 (lenHD (lenHF (lenHW (lenHM (lenHS rfl))))))) ?_
      refine ev_iconst (v := -1) d_Scav_makeMapPage_37 rfl ?_
      refine ev_icmp_ne (tgt := 51) d_Scav_makeMapPage_38 rfl (fun h3 => ?_) (fun h3 => ?_)
      · rw [if_pos h3]
        exact ev_pick [] rfl (e_B_Scav_makeMapPage_51     d f w m s)
      · rw [if_neg h3]
        refine ev_aload_n d_Scav_makeMapPage_41 rfl rfl ?_
        refine ev_get (v := .ref 1) gi_Scav (ci := 5) rfl rfl 0 (by decide) gw_268 rfl d_Scav_makeMapPage_42 ?_
        refine ev_iload_n d_Scav_makeMapPage_45 rfl rfl ?_
        refine ev_iload_n d_Scav_makeMapPage_46 rfl rfl ?_
        refine ev_iconst (v := 5) d_Scav_makeMapPage_47 rfl ?_
        refine ev_callr (Mc := M_Disk_makePageBehind) (v := none) (h1 := (e0 :: (HD ((f_Disk_makePageBehind d (xSearch d 2 0) (xLowFree d) 5).2) (HF f (HW w (HM m (HS s tl))))))) (k2 := 0) (n2 := 0) (inv_V (q := 1) (av := [.int (xSearch d 2 0), .int (xLowFree d), .int 5]) (rest := []) rfl (ci := 1) rfl d_Scav_makeMapPage_48 gw_390 gw_194 gw_195 mw_Disk_makePageBehind nh_Disk_makePageBehind pn_Disk_makePageBehind rfl) d_Scav_makeMapPage_48 pl_Disk_makePageBehind (Nat.le_of_ble_eq_true rfl) (Nat.le_of_ble_eq_true rfl) (Nat.le_of_ble_eq_true rfl) rfl rfl (e_f_Disk_makePageBehind (e0 := e0) (tl := (HF f (HW w (HM m (HS s tl)))))  d (xSearch d 2 0) (xLowFree d) 5) (Or.inl (len1 (lenHD (lenHF (lenHW (lenHM (lenHS rfl))))))) ?_
        exact ev_pick [] rfl (e_B_Scav_makeMapPage_51     ((f_Disk_makePageBehind d (xSearch d 2 0) (xLowFree d) 5).2) f w m s)
def B_Scav_makeLeaders_80   (d : DS) (f : FS) (w : WS) (m : MS) (s : SS) : Option (Unit × (DS × SS)) :=
  some ((), (d, s))
theorem e_B_Scav_makeLeaders_80 {sc : Nat × (Nat → Int32)} {e0 : mn_E} {tl : List mn_E}    (d : DS) (f : FS) (w : WS) (m : MS) (s : SS) : Ev sc 5 78 0 0 M_Scav_makeLeaders 80 [] [] (e0 :: (HD d (HF f (HW w (HM m (HS s tl)))))) (mapR ouV (fun z => (e0 :: (HD z.1 (HF f (HW w (HM m (HS z.2 tl))))))) (B_Scav_makeLeaders_80 d f w m s)) := by
  unfold B_Scav_makeLeaders_80
  exact ev_vret rfl d_Scav_makeLeaders_80
def B_Scav_makeLeaders_76   (d : DS) (f : FS) (w : WS) (m : MS) (s : SS) : Option (Unit × (DS × SS)) :=
  B_Scav_makeLeaders_80   ((f_Scav_makeMapPage d f w m s).2) f w m s
theorem e_B_Scav_makeLeaders_76 {sc : Nat × (Nat → Int32)} {e0 : mn_E} {tl : List mn_E}    (d : DS) (f : FS) (w : WS) (m : MS) (s : SS) : Ev sc 5 78 0 0 M_Scav_makeLeaders 76 [(0, .ref 9)] [] (e0 :: (HD d (HF f (HW w (HM m (HS s tl)))))) (mapR ouV (fun z => (e0 :: (HD z.1 (HF f (HW w (HM m (HS z.2 tl))))))) (B_Scav_makeLeaders_76 d f w m s)) := by
  unfold B_Scav_makeLeaders_76
  refine ev_aload_n d_Scav_makeLeaders_76 rfl rfl ?_
  refine ev_callr (Mc := M_Scav_makeMapPage) (v := none) (h1 := (e0 :: (HD ((f_Scav_makeMapPage d f w m s).2) (HF f (HW w (HM m (HS s tl))))))) (k2 := 0) (n2 := 0) (inv_V (q := 9) (av := []) (rest := []) rfl (ci := 5) rfl d_Scav_makeLeaders_77 gw_386 gw_388 gw_8 mw_Scav_makeMapPage nh_Scav_makeMapPage pn_Scav_makeMapPage rfl) d_Scav_makeLeaders_77 pl_Scav_makeMapPage (Nat.le_of_ble_eq_true rfl) (Nat.le_of_ble_eq_true rfl) (Nat.le_of_ble_eq_true rfl) rfl rfl (e_f_Scav_makeMapPage (e0 := e0) (tl := tl)  d f w m s ) (Or.inl (len1 (lenHD (lenHF (lenHW (lenHM (lenHS rfl))))))) ?_
  exact ev_pick [] rfl (e_B_Scav_makeLeaders_80     ((f_Scav_makeMapPage d f w m s).2) f w m s)
def B_Scav_makeLeaders_70   (d : DS) (f : FS) (w : WS) (m : MS) (s : SS) : Option (Unit × (DS × SS)) :=
  bnd (f_Scav_provideLeader d f w m s 2 0) (fun q => B_Scav_makeLeaders_76   q.2.1 f w m q.2.2)
theorem e_B_Scav_makeLeaders_70 {sc : Nat × (Nat → Int32)} {e0 : mn_E} {tl : List mn_E}    (d : DS) (f : FS) (w : WS) (m : MS) (s : SS) : Ev sc 5 78 0 0 M_Scav_makeLeaders 70 [(0, .ref 9)] [] (e0 :: (HD d (HF f (HW w (HM m (HS s tl)))))) (mapR ouV (fun z => (e0 :: (HD z.1 (HF f (HW w (HM m (HS z.2 tl))))))) (B_Scav_makeLeaders_70 d f w m s)) := by
  unfold B_Scav_makeLeaders_70
  refine ev_aload_n d_Scav_makeLeaders_70 rfl rfl ?_
  refine ev_iconst (v := 2) d_Scav_makeLeaders_71 rfl ?_
  refine ev_iconst (v := 0) d_Scav_makeLeaders_72 rfl ?_
  refine ev_callB (rc := (f_Scav_provideLeader d f w m s 2 0)) (ou := ouV) (Hs := (fun z => (e0 :: (HD z.1 (HF f (HW w (HM m (HS z.2 tl)))))))) (inv_V (q := 9) (av := [.int 2, .int 0]) (rest := []) rfl (ci := 5) rfl d_Scav_makeLeaders_73 gw_380 gw_382 gw_7 mw_Scav_provideLeader nh_Scav_provideLeader pn_Scav_provideLeader rfl) d_Scav_makeLeaders_73 pl_Scav_provideLeader (Nat.le_of_ble_eq_true rfl) (Nat.le_of_ble_eq_true rfl) (Nat.le_of_ble_eq_true rfl) (e_f_Scav_provideLeader (e0 := e0) (tl := tl)  d f w m s 2 0) (fun _ => (len1 (lenHD (lenHF (lenHW (lenHM (lenHS rfl))))))) (fun v z h1 => ⟨_, rfl, ?_⟩)
  exact ev_pick [0] rfl (e_B_Scav_makeLeaders_76     z.1 f w m z.2)
def B_Scav_makeLeaders_58  (r2 : DS → FS → WS → MS → SS → Int32 → Option (Unit × (DS × SS))) (d : DS) (f : FS) (w : WS) (m : MS) (s : SS) (x1 : Int32) : Option (Unit × (DS × SS)) :=
  r2 d f w m s (x1 + 1)
theorem e_B_Scav_makeLeaders_58 {sc : Nat × (Nat → Int32)} {e0 : mn_E} {tl : List mn_E}  (r2 : DS → FS → WS → MS → SS → Int32 → Option (Unit × (DS × SS))) (hr2 : ∀ (d : DS) (f : FS) (w : WS) (m : MS) (s : SS) (x1 : Int32), Ev sc 5 78 0 0 M_Scav_makeLeaders 2 [(0, .ref 9), (1, .int x1)] [] (e0 :: (HD d (HF f (HW w (HM m (HS s tl)))))) (mapR ouV (fun z => (e0 :: (HD z.1 (HF f (HW w (HM m (HS z.2 tl))))))) (r2 d f w m s x1))) (d : DS) (f : FS) (w : WS) (m : MS) (s : SS) (x1 : Int32) : Ev sc 5 78 0 0 M_Scav_makeLeaders 58 [(0, .ref 9), (1, .int x1)] [] (e0 :: (HD d (HF f (HW w (HM m (HS s tl)))))) (mapR ouV (fun z => (e0 :: (HD z.1 (HF f (HW w (HM m (HS z.2 tl))))))) (B_Scav_makeLeaders_58 r2 d f w m s x1)) := by
  unfold B_Scav_makeLeaders_58
  refine ev_iinc (v := (x1 + 1)) d_Scav_makeLeaders_58 rfl rfl (by decide) rfl ?_
  refine ev_goto (tgt := 2) d_Scav_makeLeaders_61 rfl ?_
  exact ev_pick [1, 0] rfl (hr2 d f w m s (x1 + 1))
def B_Scav_makeLeaders_50  (r2 : DS → FS → WS → MS → SS → Int32 → Option (Unit × (DS × SS))) (d : DS) (f : FS) (w : WS) (m : MS) (s : SS) (x1 : Int32) (t0 : Int32) : Option (Unit × (DS × SS)) :=
  if ¬ t0 = 0 then (B_Scav_makeLeaders_58  r2 d f w m s x1) else (bnd (f_Scav_losePages d f w m s x1) (fun q => B_Scav_makeLeaders_58  r2 q.2.1 f w m q.2.2 x1))
theorem e_B_Scav_makeLeaders_50 {sc : Nat × (Nat → Int32)} {e0 : mn_E} {tl : List mn_E}  (r2 : DS → FS → WS → MS → SS → Int32 → Option (Unit × (DS × SS))) (hr2 : ∀ (d : DS) (f : FS) (w : WS) (m : MS) (s : SS) (x1 : Int32), Ev sc 5 78 0 0 M_Scav_makeLeaders 2 [(0, .ref 9), (1, .int x1)] [] (e0 :: (HD d (HF f (HW w (HM m (HS s tl)))))) (mapR ouV (fun z => (e0 :: (HD z.1 (HF f (HW w (HM m (HS z.2 tl))))))) (r2 d f w m s x1))) (d : DS) (f : FS) (w : WS) (m : MS) (s : SS) (x1 : Int32) (t0 : Int32) : Ev sc 5 78 0 0 M_Scav_makeLeaders 50 [(0, .ref 9), (1, .int x1)] [.int t0] (e0 :: (HD d (HF f (HW w (HM m (HS s tl)))))) (mapR ouV (fun z => (e0 :: (HD z.1 (HF f (HW w (HM m (HS z.2 tl))))))) (B_Scav_makeLeaders_50 r2 d f w m s x1 t0)) := by
  unfold B_Scav_makeLeaders_50
  refine ev_if_ne (tgt := 58) d_Scav_makeLeaders_50 rfl (fun h1 => ?_) (fun h1 => ?_)
  · rw [if_pos h1]
    exact ev_pick [0, 1] rfl (e_B_Scav_makeLeaders_58   r2 hr2 d f w m s x1)
  · rw [if_neg h1]
    refine ev_aload_n d_Scav_makeLeaders_53 rfl rfl ?_
    refine ev_iload_n d_Scav_makeLeaders_54 rfl rfl ?_
    refine ev_callB (rc := (f_Scav_losePages d f w m s x1)) (ou := ouV) (Hs := (fun z => (e0 :: (HD z.1 (HF f (HW w (HM m (HS z.2 tl)))))))) (inv_V (q := 9) (av := [.int x1]) (rest := []) rfl (ci := 5) rfl d_Scav_makeLeaders_55 gw_376 gw_378 gw_6 mw_Scav_losePages nh_Scav_losePages pn_Scav_losePages rfl) d_Scav_makeLeaders_55 pl_Scav_losePages (Nat.le_of_ble_eq_true rfl) (Nat.le_of_ble_eq_true rfl) (Nat.le_of_ble_eq_true rfl) (e_f_Scav_losePages (e0 := e0) (tl := tl)  d f w m s x1) (fun _ => (len1 (lenHD (lenHF (lenHW (lenHM (lenHS rfl))))))) (fun v z h2 => ⟨_, rfl, ?_⟩)
    exact ev_pick [0, 1] rfl (e_B_Scav_makeLeaders_58   r2 hr2 z.1 f w m z.2 x1)
def B_Scav_makeLeaders_34  (r2 : DS → FS → WS → MS → SS → Int32 → Option (Unit × (DS × SS))) (d : DS) (f : FS) (w : WS) (m : MS) (s : SS) (x1 : Int32) (t0 : Int32) : Option (Unit × (DS × SS)) :=
  if t0 = 0 then (B_Scav_makeLeaders_58  r2 d f w m s x1) else (B_Scav_makeLeaders_50  r2 (((f_Scav_makeLeader d f w m s x1 (10000 + x1) 0).2).1) f w m (((f_Scav_makeLeader d f w m s x1 (10000 + x1) 0).2).2) x1 ((f_Scav_makeLeader d f w m s x1 (10000 + x1) 0).1))
theorem e_B_Scav_makeLeaders_34 {sc : Nat × (Nat → Int32)} {e0 : mn_E} {tl : List mn_E}  (r2 : DS → FS → WS → MS → SS → Int32 → Option (Unit × (DS × SS))) (hr2 : ∀ (d : DS) (f : FS) (w : WS) (m : MS) (s : SS) (x1 : Int32), Ev sc 5 78 0 0 M_Scav_makeLeaders 2 [(0, .ref 9), (1, .int x1)] [] (e0 :: (HD d (HF f (HW w (HM m (HS s tl)))))) (mapR ouV (fun z => (e0 :: (HD z.1 (HF f (HW w (HM m (HS z.2 tl))))))) (r2 d f w m s x1))) (d : DS) (f : FS) (w : WS) (m : MS) (s : SS) (x1 : Int32) (t0 : Int32) : Ev sc 5 78 0 0 M_Scav_makeLeaders 34 [(0, .ref 9), (1, .int x1)] [.int t0] (e0 :: (HD d (HF f (HW w (HM m (HS s tl)))))) (mapR ouV (fun z => (e0 :: (HD z.1 (HF f (HW w (HM m (HS z.2 tl))))))) (B_Scav_makeLeaders_34 r2 d f w m s x1 t0)) := by
  unfold B_Scav_makeLeaders_34
  refine ev_istore_n d_Scav_makeLeaders_34 rfl (by decide) rfl ?_
  refine ev_iload_n d_Scav_makeLeaders_35 rfl rfl ?_
  refine ev_if_eq (tgt := 58) d_Scav_makeLeaders_36 rfl (fun h1 => ?_) (fun h1 => ?_)
  · rw [if_pos h1]
    exact ev_pick [1, 2] rfl (e_B_Scav_makeLeaders_58   r2 hr2 d f w m s x1)
  · rw [if_neg h1]
    refine ev_aload_n d_Scav_makeLeaders_39 rfl rfl ?_
    refine ev_iload_n d_Scav_makeLeaders_40 rfl rfl ?_
    refine ev_sipush (v := 10000) d_Scav_makeLeaders_41 rfl ?_
    refine ev_iload_n d_Scav_makeLeaders_44 rfl rfl ?_
    refine ev_iadd d_Scav_makeLeaders_45 ?_
    refine ev_iconst (v := 0) d_Scav_makeLeaders_46 rfl ?_
    refine ev_callr (Mc := M_Scav_makeLeader) (v := some (.int ((f_Scav_makeLeader d f w m s x1 (10000 + x1) 0).1))) (h1 := (e0 :: (HD (((f_Scav_makeLeader d f w m s x1 (10000 + x1) 0).2).1) (HF f (HW w (HM m (HS (((f_Scav_makeLeader d f w m s x1 (10000 + x1) 0).2).2) tl))))))) (k2 := 0) (n2 := 0) (inv_V (q := 9) (av := [.int x1, .int (10000 + x1), .int 0]) (rest := []) rfl (ci := 5) rfl d_Scav_makeLeaders_47 gw_367 gw_369 gw_5 mw_Scav_makeLeader nh_Scav_makeLeader pn_Scav_makeLeader rfl) d_Scav_makeLeaders_47 pl_Scav_makeLeader (Nat.le_of_ble_eq_true rfl) (Nat.le_of_ble_eq_true rfl) (Nat.le_of_ble_eq_true rfl) rfl rfl (e_f_Scav_makeLeader (e0 := e0) (tl := tl)  d f w m s x1 (10000 + x1) 0) (Or.inl (len1 (lenHD (lenHF (lenHW (lenHM (lenHS rfl))))))) ?_
    exact ev_pick [1, 2] rfl (e_B_Scav_makeLeaders_50   r2 hr2 (((f_Scav_makeLeader d f w m s x1 (10000 + x1) 0).2).1) f w m (((f_Scav_makeLeader d f w m s x1 (10000 + x1) 0).2).2) x1 ((f_Scav_makeLeader d f w m s x1 (10000 + x1) 0).1))
def B_Scav_makeLeaders_33  (r2 : DS → FS → WS → MS → SS → Int32 → Option (Unit × (DS × SS))) (d : DS) (f : FS) (w : WS) (m : MS) (s : SS) (x1 : Int32) : Option (Unit × (DS × SS)) :=
  B_Scav_makeLeaders_34  r2 d f w m s x1 0
theorem e_B_Scav_makeLeaders_33 {sc : Nat × (Nat → Int32)} {e0 : mn_E} {tl : List mn_E}  (r2 : DS → FS → WS → MS → SS → Int32 → Option (Unit × (DS × SS))) (hr2 : ∀ (d : DS) (f : FS) (w : WS) (m : MS) (s : SS) (x1 : Int32), Ev sc 5 78 0 0 M_Scav_makeLeaders 2 [(0, .ref 9), (1, .int x1)] [] (e0 :: (HD d (HF f (HW w (HM m (HS s tl)))))) (mapR ouV (fun z => (e0 :: (HD z.1 (HF f (HW w (HM m (HS z.2 tl))))))) (r2 d f w m s x1))) (d : DS) (f : FS) (w : WS) (m : MS) (s : SS) (x1 : Int32) : Ev sc 5 78 0 0 M_Scav_makeLeaders 33 [(0, .ref 9), (1, .int x1)] [] (e0 :: (HD d (HF f (HW w (HM m (HS s tl)))))) (mapR ouV (fun z => (e0 :: (HD z.1 (HF f (HW w (HM m (HS z.2 tl))))))) (B_Scav_makeLeaders_33 r2 d f w m s x1)) := by
  unfold B_Scav_makeLeaders_33
  refine ev_iconst (v := 0) d_Scav_makeLeaders_33 rfl ?_
  exact ev_pick [0, 1] rfl (e_B_Scav_makeLeaders_34   r2 hr2 d f w m s x1 0)
def L_Scav_makeLeaders_2   : Nat → DS → FS → WS → MS → SS → Int32 → Option (Unit × (DS × SS))
  | 0, _, _, _, _, _, _ => none
  | n + 1, d, f, w, m, s, x1 =>
  if 60 < x1 then (bnd (f_Scav_provideLeader d f w m s 1 1) (fun q => B_Scav_makeLeaders_70   q.2.1 f w m q.2.2)) else (if ¬ ((f_Scav_isThere d f w m s x1).1) = 0 then (B_Scav_makeLeaders_33  (L_Scav_makeLeaders_2 n) d f w m s x1) else (if (xSearch d x1 1) = (-1) then (B_Scav_makeLeaders_33  (L_Scav_makeLeaders_2 n) d f w m s x1) else (B_Scav_makeLeaders_34  (L_Scav_makeLeaders_2 n) d f w m s x1 1)))
theorem e_L_Scav_makeLeaders_2 {sc : Nat × (Nat → Int32)} {e0 : mn_E} {tl : List mn_E}    : ∀ (n : Nat) (d : DS) (f : FS) (w : WS) (m : MS) (s : SS) (x1 : Int32), Ev sc 5 78 0 0 M_Scav_makeLeaders 2 [(0, .ref 9), (1, .int x1)] [] (e0 :: (HD d (HF f (HW w (HM m (HS s tl)))))) (mapR ouV (fun z => (e0 :: (HD z.1 (HF f (HW w (HM m (HS z.2 tl))))))) (L_Scav_makeLeaders_2   n d f w m s x1)) := by
  intro n
  induction n with
  | zero => intro d f w m s x1; exact ev_none
  | succ n ih =>
    intro d f w m s x1
    rw [L_Scav_makeLeaders_2]
    refine ev_iload_n d_Scav_makeLeaders_2 rfl rfl ?_
    refine ev_bipush (v := 60) d_Scav_makeLeaders_3 rfl ?_
    refine ev_icmp_gt (tgt := 64) d_Scav_makeLeaders_5 rfl (fun h1 => ?_) (fun h1 => ?_)
    · rw [if_pos h1]
      refine ev_aload_n d_Scav_makeLeaders_64 rfl rfl ?_
      refine ev_iconst (v := 1) d_Scav_makeLeaders_65 rfl ?_
      refine ev_iconst (v := 1) d_Scav_makeLeaders_66 rfl ?_
      refine ev_callB (rc := (f_Scav_provideLeader d f w m s 1 1)) (ou := ouV) (Hs := (fun z => (e0 :: (HD z.1 (HF f (HW w (HM m (HS z.2 tl)))))))) (inv_V (q := 9) (av := [.int 1, .int 1]) (rest := []) rfl (ci := 5) rfl d_Scav_makeLeaders_67 gw_380 gw_382 gw_7 mw_Scav_provideLeader nh_Scav_provideLeader pn_Scav_provideLeader rfl) d_Scav_makeLeaders_67 pl_Scav_provideLeader (Nat.le_of_ble_eq_true rfl) (Nat.le_of_ble_eq_true rfl) (Nat.le_of_ble_eq_true rfl) (e_f_Scav_provideLeader (e0 := e0) (tl := tl)  d f w m s 1 1) (fun _ => (len1 (lenHD (lenHF (lenHW (lenHM (lenHS rfl))))))) (fun v z h2 => ⟨_, rfl, ?_⟩)
      exact ev_pick [0] rfl (e_B_Scav_makeLeaders_70     z.1 f w m z.2)
    · rw [if_neg h1]
      refine ev_aload_n d_Scav_makeLeaders_8 rfl rfl ?_
      refine ev_iload_n d_Scav_makeLeaders_9 rfl rfl ?_
      refine ev_callr (Mc := M_Scav_isThere) (v := some (.int ((f_Scav_isThere d f w m s x1).1))) (h1 := (e0 :: (HD d (HF f (HW w (HM m (HS s tl))))))) (k2 := 0) (n2 := 0) (inv_V (q := 9) (av := [.int x1]) (rest := []) rfl (ci := 5) rfl d_Scav_makeLeaders_10 gw_345 gw_347 gw_2 mw_Scav_isThere nh_Scav_isThere pn_Scav_isThere rfl) d_Scav_makeLeaders_10 pl_Scav_isThere (Nat.le_of_ble_eq_true rfl) (Nat.le_of_ble_eq_true rfl) (Nat.le_of_ble_eq_true rfl) rfl rfl (e_f_Scav_isThere (e0 := e0) (tl := tl)  d f w m s x1) (Or.inl (len1 (lenHD (lenHF (lenHW (lenHM (lenHS rfl))))))) ?_
      refine ev_if_ne (tgt := 33) d_Scav_makeLeaders_13 rfl (fun h3 => ?_) (fun h3 => ?_)
      · rw [if_pos h3]
        exact ev_pick [0, 1] rfl (e_B_Scav_makeLeaders_33   (L_Scav_makeLeaders_2 n) ih d f w m s x1)
      · rw [if_neg h3]
        refine ev_aload_n d_Scav_makeLeaders_16 rfl rfl ?_
        refine ev_get (v := .ref 1) gi_Scav (ci := 5) rfl rfl 0 (by decide) gw_268 rfl d_Scav_makeLeaders_17 ?_
        refine ev_iload_n d_Scav_makeLeaders_20 rfl rfl ?_
        refine ev_iconst (v := 1) d_Scav_makeLeaders_21 rfl ?_
        refine ev_callr (Mc := M_Disk_search) (v := some (.int (xSearch d x1 1))) (h1 := (e0 :: (HD d (HF f (HW w (HM m (HS s tl))))))) (k2 := 0) (n2 := 0) (inv_V (q := 1) (av := [.int x1, .int 1]) (rest := []) rfl (ci := 1) rfl d_Scav_makeLeaders_22 gw_349 gw_350 gw_351 mw_Disk_search nh_Disk_search pn_Disk_search rfl) d_Scav_makeLeaders_22 pl_Disk_search (Nat.le_of_ble_eq_true rfl) (Nat.le_of_ble_eq_true rfl) (Nat.le_of_ble_eq_true rfl) rfl rfl (c_Disk_search (e0 := e0) (tl := (HF f (HW w (HM m (HS s tl)))))  d x1 1) (Or.inl (len1 (lenHD (lenHF (lenHW (lenHM (lenHS rfl))))))) ?_
        refine ev_iconst (v := -1) d_Scav_makeLeaders_25 rfl ?_
        refine ev_icmp_eq (tgt := 33) d_Scav_makeLeaders_26 rfl (fun h4 => ?_) (fun h4 => ?_)
        · rw [if_pos h4]
          exact ev_pick [0, 1] rfl (e_B_Scav_makeLeaders_33   (L_Scav_makeLeaders_2 n) ih d f w m s x1)
        · rw [if_neg h4]
          refine ev_iconst (v := 1) d_Scav_makeLeaders_29 rfl ?_
          refine ev_goto (tgt := 34) d_Scav_makeLeaders_30 rfl ?_
          exact ev_pick [0, 1] rfl (e_B_Scav_makeLeaders_34   (L_Scav_makeLeaders_2 n) ih d f w m s x1 1)
def f_Scav_makeLeaders   (d : DS) (f : FS) (w : WS) (m : MS) (s : SS) : Option (Unit × (DS × SS)) :=
  L_Scav_makeLeaders_2   100 d f w m s 3
theorem e_f_Scav_makeLeaders {sc : Nat × (Nat → Int32)} {e0 : mn_E} {tl : List mn_E}    (d : DS) (f : FS) (w : WS) (m : MS) (s : SS) : Ev sc 5 78 0 0 M_Scav_makeLeaders 0 [(0, .ref 9)] [] (e0 :: (HD d (HF f (HW w (HM m (HS s tl)))))) (mapR ouV (fun z => (e0 :: (HD z.1 (HF f (HW w (HM m (HS z.2 tl))))))) (f_Scav_makeLeaders d f w m s)) := by
  unfold f_Scav_makeLeaders
  refine ev_iconst (v := 3) d_Scav_makeLeaders_0 rfl ?_
  refine ev_istore_n d_Scav_makeLeaders_1 rfl (by decide) rfl ?_
  exact ev_pick [1, 0] rfl (e_L_Scav_makeLeaders_2     100 d f w m s 3)
def B_Scav_entryPlace_46   (d : DS) (f : FS) (w : WS) (m : MS) (s : SS) : (Int32 × Unit) :=
  ((-1), ())
theorem e_B_Scav_entryPlace_46 {sc : Nat × (Nat → Int32)} {e0 : mn_E} {tl : List mn_E}    (d : DS) (f : FS) (w : WS) (m : MS) (s : SS) : Ev sc 2 30 0 0 M_Scav_entryPlace 46 [] [] (e0 :: (HD d (HF f (HW w (HM m (HS s tl)))))) (mapT ouI (fun z => (e0 :: (HD d (HF f (HW w (HM m (HS s tl))))))) (B_Scav_entryPlace_46 d f w m s)) := by
  unfold B_Scav_entryPlace_46
  refine ev_iconst (v := -1) d_Scav_entryPlace_46 rfl ?_
  exact ev_zret (ty := .int) rfl rfl d_Scav_entryPlace_47
def f_Scav_entryPlace   (d : DS) (f : FS) (w : WS) (m : MS) (s : SS) (x1 : Int32) (x2 : Int32) : (Int32 × Unit) :=
  if (xSearch d x1 ((x2 / 2) + 1)) = (-1) then (B_Scav_entryPlace_46   d f w m s) else (if ((f_Disk_entriesIn d (xSearch d x1 ((x2 / 2) + 1))).1) ≤ (x2 - x2 / 2 * 2) then (B_Scav_entryPlace_46   d f w m s) else (((((xSearch d x1 ((x2 / 2) + 1)) * 8) + ((x2 - x2 / 2 * 2) * 4)), ())))
theorem e_f_Scav_entryPlace {sc : Nat × (Nat → Int32)} {e0 : mn_E} {tl : List mn_E}    (d : DS) (f : FS) (w : WS) (m : MS) (s : SS) (x1 : Int32) (x2 : Int32) : Ev sc 2 30 0 0 M_Scav_entryPlace 0 [(0, .ref 9), (1, .int x1), (2, .int x2)] [] (e0 :: (HD d (HF f (HW w (HM m (HS s tl)))))) (mapT ouI (fun z => (e0 :: (HD d (HF f (HW w (HM m (HS s tl))))))) (f_Scav_entryPlace d f w m s x1 x2)) := by
  unfold f_Scav_entryPlace
  refine ev_aload_n d_Scav_entryPlace_0 rfl rfl ?_
  refine ev_get (v := .ref 1) gi_Scav (ci := 5) rfl rfl 0 (by decide) gw_268 rfl d_Scav_entryPlace_1 ?_
  refine ev_iload_n d_Scav_entryPlace_4 rfl rfl ?_
  refine ev_iload_n d_Scav_entryPlace_5 rfl rfl ?_
  refine ev_iconst (v := 2) d_Scav_entryPlace_6 rfl ?_
  refine ev_idiv d_Scav_entryPlace_7 (by decide) ?_
  refine ev_iconst (v := 1) d_Scav_entryPlace_8 rfl ?_
  refine ev_iadd d_Scav_entryPlace_9 ?_
  refine ev_callr (Mc := M_Disk_search) (v := some (.int (xSearch d x1 ((x2 / 2) + 1)))) (h1 := (e0 :: (HD d (HF f (HW w (HM m (HS s tl))))))) (k2 := 0) (n2 := 0) (inv_V (q := 1) (av := [.int x1, .int ((x2 / 2) + 1)]) (rest := []) rfl (ci := 1) rfl d_Scav_entryPlace_10 gw_349 gw_350 gw_351 mw_Disk_search nh_Disk_search pn_Disk_search rfl) d_Scav_entryPlace_10 pl_Disk_search (Nat.le_of_ble_eq_true rfl) (Nat.le_of_ble_eq_true rfl) (Nat.le_of_ble_eq_true rfl) rfl rfl (c_Disk_search (e0 := e0) (tl := (HF f (HW w (HM m (HS s tl)))))  d x1 ((x2 / 2) + 1)) (Or.inl (len1 (lenHD (lenHF (lenHW (lenHM (lenHS rfl))))))) ?_
  refine ev_istore_n d_Scav_entryPlace_13 rfl (by decide) rfl ?_
  refine ev_iload_n d_Scav_entryPlace_14 rfl rfl ?_
  refine ev_iconst (v := -1) d_Scav_entryPlace_15 rfl ?_
  refine ev_icmp_eq (tgt := 46) d_Scav_entryPlace_16 rfl (fun h1 => ?_) (fun h1 => ?_)
  · rw [if_pos h1]
    exact ev_pick [] rfl (e_B_Scav_entryPlace_46     d f w m s)
  · rw [if_neg h1]
    refine ev_iload_n d_Scav_entryPlace_19 rfl rfl ?_
    refine ev_iconst (v := 2) d_Scav_entryPlace_20 rfl ?_
    refine ev_irem d_Scav_entryPlace_21 (by decide) ?_
    refine ev_aload_n d_Scav_entryPlace_22 rfl rfl ?_
    refine ev_get (v := .ref 1) gi_Scav (ci := 5) rfl rfl 0 (by decide) gw_268 rfl d_Scav_entryPlace_23 ?_
    refine ev_iload_n d_Scav_entryPlace_26 rfl rfl ?_
    refine ev_callr (Mc := M_Disk_entriesIn) (v := some (.int ((f_Disk_entriesIn d (xSearch d x1 ((x2 / 2) + 1))).1))) (h1 := (e0 :: (HD d (HF f (HW w (HM m (HS s tl))))))) (k2 := 0) (n2 := 0) (inv_V (q := 1) (av := [.int (xSearch d x1 ((x2 / 2) + 1))]) (rest := [.int (x2 - x2 / 2 * 2)]) rfl (ci := 1) rfl d_Scav_entryPlace_27 gw_399 gw_400 gw_401 mw_Disk_entriesIn nh_Disk_entriesIn pn_Disk_entriesIn rfl) d_Scav_entryPlace_27 pl_Disk_entriesIn (Nat.le_of_ble_eq_true rfl) (Nat.le_of_ble_eq_true rfl) (Nat.le_of_ble_eq_true rfl) rfl rfl (e_f_Disk_entriesIn (e0 := e0) (tl := (HF f (HW w (HM m (HS s tl)))))  d (xSearch d x1 ((x2 / 2) + 1))) (Or.inl (len1 (lenHD (lenHF (lenHW (lenHM (lenHS rfl))))))) ?_
    refine ev_icmp_ge (tgt := 46) d_Scav_entryPlace_30 rfl (fun h2 => ?_) (fun h2 => ?_)
    · rw [if_pos h2]
      exact ev_pick [] rfl (e_B_Scav_entryPlace_46     d f w m s)
    · rw [if_neg h2]
      refine ev_iload_n d_Scav_entryPlace_33 rfl rfl ?_
      refine ev_bipush (v := 8) d_Scav_entryPlace_34 rfl ?_
      refine ev_imul d_Scav_entryPlace_36 ?_
      refine ev_iload_n d_Scav_entryPlace_37 rfl rfl ?_
      refine ev_iconst (v := 2) d_Scav_entryPlace_38 rfl ?_
      refine ev_irem d_Scav_entryPlace_39 (by decide) ?_
      refine ev_iconst (v := 4) d_Scav_entryPlace_40 rfl ?_
      refine ev_imul d_Scav_entryPlace_41 ?_
      refine ev_iadd d_Scav_entryPlace_42 ?_
      refine ev_goto (tgt := 47) d_Scav_entryPlace_43 rfl ?_
      exact ev_zret (ty := .int) rfl rfl d_Scav_entryPlace_47
def f_Scav_serialAt   (d : DS) (f : FS) (w : WS) (m : MS) (s : SS) (x1 : Int32) : (Int32 × Unit) :=
  ((f_Disk_byteAt d (x1 / 8) ((x1 - x1 / 8 * 8) + 2)).1, ())
theorem e_f_Scav_serialAt {sc : Nat × (Nat → Int32)} {e0 : mn_E} {tl : List mn_E}    (d : DS) (f : FS) (w : WS) (m : MS) (s : SS) (x1 : Int32) : Ev sc 2 29 0 0 M_Scav_serialAt 0 [(0, .ref 9), (1, .int x1)] [] (e0 :: (HD d (HF f (HW w (HM m (HS s tl)))))) (mapT ouI (fun z => (e0 :: (HD d (HF f (HW w (HM m (HS s tl))))))) (f_Scav_serialAt d f w m s x1)) := by
  unfold f_Scav_serialAt
  refine ev_aload_n d_Scav_serialAt_0 rfl rfl ?_
  refine ev_get (v := .ref 1) gi_Scav (ci := 5) rfl rfl 0 (by decide) gw_268 rfl d_Scav_serialAt_1 ?_
  refine ev_iload_n d_Scav_serialAt_4 rfl rfl ?_
  refine ev_bipush (v := 8) d_Scav_serialAt_5 rfl ?_
  refine ev_idiv d_Scav_serialAt_7 (by decide) ?_
  refine ev_iload_n d_Scav_serialAt_8 rfl rfl ?_
  refine ev_bipush (v := 8) d_Scav_serialAt_9 rfl ?_
  refine ev_irem d_Scav_serialAt_11 (by decide) ?_
  refine ev_iconst (v := 2) d_Scav_serialAt_12 rfl ?_
  refine ev_iadd d_Scav_serialAt_13 ?_
  refine ev_callr (Mc := M_Disk_byteAt) (v := some (.int ((f_Disk_byteAt d (x1 / 8) ((x1 - x1 / 8 * 8) + 2)).1))) (h1 := (e0 :: (HD d (HF f (HW w (HM m (HS s tl))))))) (k2 := 0) (n2 := 0) (inv_V (q := 1) (av := [.int (x1 / 8), .int ((x1 - x1 / 8 * 8) + 2)]) (rest := []) rfl (ci := 1) rfl d_Scav_serialAt_14 gw_411 gw_412 gw_413 mw_Disk_byteAt nh_Disk_byteAt pn_Disk_byteAt rfl) d_Scav_serialAt_14 pl_Disk_byteAt (Nat.le_of_ble_eq_true rfl) (Nat.le_of_ble_eq_true rfl) (Nat.le_of_ble_eq_true rfl) rfl rfl (e_f_Disk_byteAt (e0 := e0) (tl := (HF f (HW w (HM m (HS s tl)))))  d (x1 / 8) ((x1 - x1 / 8 * 8) + 2)) (Or.inl (len1 (lenHD (lenHF (lenHW (lenHM (lenHS rfl))))))) ?_
  exact ev_zret (ty := .int) rfl rfl d_Scav_serialAt_17
def f_Scav_isReached   (d : DS) (f : FS) (w : WS) (m : MS) (s : SS) (x1 : Int32) : (Int32 × Unit) :=
  if ¬ (lg_cmp (((sRea s) >>> (x1.toInt64 &&& 63)) &&& 1) 1) = 0 then ((0, ())) else ((1, ()))
theorem e_f_Scav_isReached {sc : Nat × (Nat → Int32)} {e0 : mn_E} {tl : List mn_E}    (d : DS) (f : FS) (w : WS) (m : MS) (s : SS) (x1 : Int32) : Ev sc 0 0 0 0 M_Scav_isReached 0 [(0, .ref 9), (1, .int x1)] [] (e0 :: (HD d (HF f (HW w (HM m (HS s tl)))))) (mapT ouI (fun z => (e0 :: (HD d (HF f (HW w (HM m (HS s tl))))))) (f_Scav_isReached d f w m s x1)) := by
  unfold f_Scav_isReached
  refine ev_aload_n d_Scav_isReached_0 rfl rfl ?_
  refine ev_get (v := .long (sRea s)) gi_Scav (ci := 5) rfl rfl 5 (by decide) gw_273 rfl d_Scav_isReached_1 ?_
  refine ev_iload_n d_Scav_isReached_4 rfl rfl ?_
  refine ev_lshr d_Scav_isReached_5 ?_
  refine ev_lconst (v := 1) d_Scav_isReached_6 rfl ?_
  refine ev_land d_Scav_isReached_7 ?_
  refine ev_lconst (v := 1) d_Scav_isReached_8 rfl ?_
  refine ev_lcmp d_Scav_isReached_9 ?_
  refine ev_if_ne (tgt := 17) d_Scav_isReached_10 rfl (fun h1 => ?_) (fun h1 => ?_)
  · rw [if_pos h1]
    refine ev_iconst (v := 0) d_Scav_isReached_17 rfl ?_
    exact ev_zret (ty := .boolean) rfl rfl d_Scav_isReached_18
  · rw [if_neg h1]
    refine ev_iconst (v := 1) d_Scav_isReached_13 rfl ?_
    refine ev_goto (tgt := 18) d_Scav_isReached_14 rfl ?_
    exact ev_zret (ty := .boolean) rfl rfl d_Scav_isReached_18
def f_Scav_nameAt   (d : DS) (f : FS) (w : WS) (m : MS) (s : SS) (x1 : Int32) : (Int32 × Unit) :=
  ((f_Disk_nameAt d (x1 / 8) (x1 - x1 / 8 * 8)).1, ())
theorem e_f_Scav_nameAt {sc : Nat × (Nat → Int32)} {e0 : mn_E} {tl : List mn_E}    (d : DS) (f : FS) (w : WS) (m : MS) (s : SS) (x1 : Int32) : Ev sc 2 30 0 0 M_Scav_nameAt 0 [(0, .ref 9), (1, .int x1)] [] (e0 :: (HD d (HF f (HW w (HM m (HS s tl)))))) (mapT ouI (fun z => (e0 :: (HD d (HF f (HW w (HM m (HS s tl))))))) (f_Scav_nameAt d f w m s x1)) := by
  unfold f_Scav_nameAt
  refine ev_aload_n d_Scav_nameAt_0 rfl rfl ?_
  refine ev_get (v := .ref 1) gi_Scav (ci := 5) rfl rfl 0 (by decide) gw_268 rfl d_Scav_nameAt_1 ?_
  refine ev_iload_n d_Scav_nameAt_4 rfl rfl ?_
  refine ev_bipush (v := 8) d_Scav_nameAt_5 rfl ?_
  refine ev_idiv d_Scav_nameAt_7 (by decide) ?_
  refine ev_iload_n d_Scav_nameAt_8 rfl rfl ?_
  refine ev_bipush (v := 8) d_Scav_nameAt_9 rfl ?_
  refine ev_irem d_Scav_nameAt_11 (by decide) ?_
  refine ev_callr (Mc := M_Disk_nameAt) (v := some (.int ((f_Disk_nameAt d (x1 / 8) (x1 - x1 / 8 * 8)).1))) (h1 := (e0 :: (HD d (HF f (HW w (HM m (HS s tl))))))) (k2 := 0) (n2 := 0) (inv_V (q := 1) (av := [.int (x1 / 8), .int (x1 - x1 / 8 * 8)]) (rest := []) rfl (ci := 1) rfl d_Scav_nameAt_12 gw_419 gw_420 gw_421 mw_Disk_nameAt nh_Disk_nameAt pn_Disk_nameAt rfl) d_Scav_nameAt_12 pl_Disk_nameAt (Nat.le_of_ble_eq_true rfl) (Nat.le_of_ble_eq_true rfl) (Nat.le_of_ble_eq_true rfl) rfl rfl (e_f_Disk_nameAt (e0 := e0) (tl := (HF f (HW w (HM m (HS s tl)))))  d (x1 / 8) (x1 - x1 / 8 * 8)) (Or.inl (len1 (lenHD (lenHF (lenHW (lenHM (lenHS rfl))))))) ?_
  exact ev_zret (ty := .int) rfl rfl d_Scav_nameAt_15
def B_Scav_settleEntry_79 (rW : DS → FS → WS → MS → SS → Int32 → Int32 → Option (Unit × (DS × SS)))  (d : DS) (f : FS) (w : WS) (m : MS) (s : SS) : Option (Unit × (DS × SS)) :=
  some ((), (d, s))
theorem e_B_Scav_settleEntry_79 {sc : Nat × (Nat → Int32)} {e0 : mn_E} {tl : List mn_E} {dd ww : Nat} (rW : DS → FS → WS → MS → SS → Int32 → Int32 → Option (Unit × (DS × SS))) (hrW : ∀ (d : DS) (f : FS) (w : WS) (m : MS) (s : SS) (x1 : Int32) (x2 : Int32), Ev sc dd ww 0 0 M_Scav_walkDirectory 0 [(0, .ref 9), (1, .int x1), (2, .int x2)] [] (e0 :: (HD d (HF f (HW w (HM m (HS s tl)))))) (mapR ouV (fun z => (e0 :: (HD z.1 (HF f (HW w (HM m (HS z.2 tl))))))) (rW d f w m s x1 x2)))   (d : DS) (f : FS) (w : WS) (m : MS) (s : SS) : Ev sc (dd + 3) (ww + 46) 0 0 M_Scav_settleEntry 79 [] [] (e0 :: (HD d (HF f (HW w (HM m (HS s tl)))))) (mapR ouV (fun z => (e0 :: (HD z.1 (HF f (HW w (HM m (HS z.2 tl))))))) (B_Scav_settleEntry_79 rW d f w m s)) := by
  unfold B_Scav_settleEntry_79
  exact ev_vret rfl d_Scav_settleEntry_79
def B_Scav_settleEntry_64 (rW : DS → FS → WS → MS → SS → Int32 → Int32 → Option (Unit × (DS × SS)))  (d : DS) (f : FS) (w : WS) (m : MS) (s : SS) (x1 : Int32) : Option (Unit × (DS × SS)) :=
  B_Scav_settleEntry_79 rW  (xHole d (x1 / 8) (x1 - x1 / 8 * 8)) f w m s
theorem e_B_Scav_settleEntry_64 {sc : Nat × (Nat → Int32)} {e0 : mn_E} {tl : List mn_E} {dd ww : Nat} (rW : DS → FS → WS → MS → SS → Int32 → Int32 → Option (Unit × (DS × SS))) (hrW : ∀ (d : DS) (f : FS) (w : WS) (m : MS) (s : SS) (x1 : Int32) (x2 : Int32), Ev sc dd ww 0 0 M_Scav_walkDirectory 0 [(0, .ref 9), (1, .int x1), (2, .int x2)] [] (e0 :: (HD d (HF f (HW w (HM m (HS s tl)))))) (mapR ouV (fun z => (e0 :: (HD z.1 (HF f (HW w (HM m (HS z.2 tl))))))) (rW d f w m s x1 x2)))   (d : DS) (f : FS) (w : WS) (m : MS) (s : SS) (x1 : Int32) : Ev sc (dd + 3) (ww + 46) 0 0 M_Scav_settleEntry 64 [(0, .ref 9), (1, .int x1)] [] (e0 :: (HD d (HF f (HW w (HM m (HS s tl)))))) (mapR ouV (fun z => (e0 :: (HD z.1 (HF f (HW w (HM m (HS z.2 tl))))))) (B_Scav_settleEntry_64 rW d f w m s x1)) := by
  unfold B_Scav_settleEntry_64
  refine ev_aload_n d_Scav_settleEntry_64 rfl rfl ?_
  refine ev_get (v := .ref 1) gi_Scav (ci := 5) rfl rfl 0 (by decide) gw_268 rfl d_Scav_settleEntry_65 ?_
  refine ev_iload_n d_Scav_settleEntry_68 rfl rfl ?_
  refine ev_bipush (v := 8) d_Scav_settleEntry_69 rfl ?_
  refine ev_idiv d_Scav_settleEntry_71 (by decide) ?_
  refine ev_iload_n d_Scav_settleEntry_72 rfl rfl ?_
  refine ev_bipush (v := 8) d_Scav_settleEntry_73 rfl ?_
  refine ev_irem d_Scav_settleEntry_75 (by decide) ?_
  refine ev_callr (Mc := M_Disk_makeHole) (v := none) (h1 := (e0 :: (HD (xHole d (x1 / 8) (x1 - x1 / 8 * 8)) (HF f (HW w (HM m (HS s tl))))))) (k2 := 0) (n2 := 0) (inv_V (q := 1) (av := [.int (x1 / 8), .int (x1 - x1 / 8 * 8)]) (rest := []) rfl (ci := 1) rfl d_Scav_settleEntry_76 gw_427 gw_428 gw_429 mw_Disk_makeHole nh_Disk_makeHole pn_Disk_makeHole rfl) d_Scav_settleEntry_76 pl_Disk_makeHole (Nat.le_of_ble_eq_true rfl) (by omega) (by simp [Value.category]; try omega) rfl rfl (c_Disk_makeHole (e0 := e0) (tl := (HF f (HW w (HM m (HS s tl)))))  d (x1 / 8) (x1 - x1 / 8 * 8)) (Or.inl (len1 (lenHD (lenHF (lenHW (lenHM (lenHS rfl))))))) ?_
  exact ev_pick [] rfl (e_B_Scav_settleEntry_79 rW hrW   (xHole d (x1 / 8) (x1 - x1 / 8 * 8)) f w m s)
def B_Scav_settleEntry_131 (rW : DS → FS → WS → MS → SS → Int32 → Int32 → Option (Unit × (DS × SS)))  (d : DS) (f : FS) (w : WS) (m : MS) (s : SS) : Option (Unit × (DS × SS)) :=
  some ((), (d, s))
theorem e_B_Scav_settleEntry_131 {sc : Nat × (Nat → Int32)} {e0 : mn_E} {tl : List mn_E} {dd ww : Nat} (rW : DS → FS → WS → MS → SS → Int32 → Int32 → Option (Unit × (DS × SS))) (hrW : ∀ (d : DS) (f : FS) (w : WS) (m : MS) (s : SS) (x1 : Int32) (x2 : Int32), Ev sc dd ww 0 0 M_Scav_walkDirectory 0 [(0, .ref 9), (1, .int x1), (2, .int x2)] [] (e0 :: (HD d (HF f (HW w (HM m (HS s tl)))))) (mapR ouV (fun z => (e0 :: (HD z.1 (HF f (HW w (HM m (HS z.2 tl))))))) (rW d f w m s x1 x2)))   (d : DS) (f : FS) (w : WS) (m : MS) (s : SS) : Ev sc (dd + 3) (ww + 46) 0 0 M_Scav_settleEntry 131 [] [] (e0 :: (HD d (HF f (HW w (HM m (HS s tl)))))) (mapR ouV (fun z => (e0 :: (HD z.1 (HF f (HW w (HM m (HS z.2 tl))))))) (B_Scav_settleEntry_131 rW d f w m s)) := by
  unfold B_Scav_settleEntry_131
  exact ev_vret rfl d_Scav_settleEntry_131
def B_Scav_settleEntry_99 (rW : DS → FS → WS → MS → SS → Int32 → Int32 → Option (Unit × (DS × SS)))  (d : DS) (f : FS) (w : WS) (m : MS) (s : SS) (x2 : Int32) (x3 : Int32) (x4 : Int32) : Option (Unit × (DS × SS)) :=
  if ((f_Disk_isDirectory d x4).1) = 0 then (B_Scav_settleEntry_131 rW  d f w m (sSRea s ((sRea s) ||| (1 <<< (x3.toInt64 &&& 63))))) else (bnd (rW d f w m (sSRea s ((sRea s) ||| (1 <<< (x3.toInt64 &&& 63)))) x3 (x2 + 1)) (fun q => B_Scav_settleEntry_131 rW  q.2.1 f w m q.2.2))
theorem e_B_Scav_settleEntry_99 {sc : Nat × (Nat → Int32)} {e0 : mn_E} {tl : List mn_E} {dd ww : Nat} (rW : DS → FS → WS → MS → SS → Int32 → Int32 → Option (Unit × (DS × SS))) (hrW : ∀ (d : DS) (f : FS) (w : WS) (m : MS) (s : SS) (x1 : Int32) (x2 : Int32), Ev sc dd ww 0 0 M_Scav_walkDirectory 0 [(0, .ref 9), (1, .int x1), (2, .int x2)] [] (e0 :: (HD d (HF f (HW w (HM m (HS s tl)))))) (mapR ouV (fun z => (e0 :: (HD z.1 (HF f (HW w (HM m (HS z.2 tl))))))) (rW d f w m s x1 x2)))   (d : DS) (f : FS) (w : WS) (m : MS) (s : SS) (x2 : Int32) (x3 : Int32) (x4 : Int32) : Ev sc (dd + 3) (ww + 46) 0 0 M_Scav_settleEntry 99 [(0, .ref 9), (2, .int x2), (3, .int x3), (4, .int x4)] [] (e0 :: (HD d (HF f (HW w (HM m (HS s tl)))))) (mapR ouV (fun z => (e0 :: (HD z.1 (HF f (HW w (HM m (HS z.2 tl))))))) (B_Scav_settleEntry_99 rW d f w m s x2 x3 x4)) := by
  unfold B_Scav_settleEntry_99
  refine ev_aload_n d_Scav_settleEntry_99 rfl rfl ?_
  refine ev_dup d_Scav_settleEntry_100 rfl ?_
  refine ev_get (v := .long (sRea s)) gi_Scav (ci := 5) rfl rfl 5 (by decide) gw_273 rfl d_Scav_settleEntry_101 ?_
  refine ev_lconst (v := 1) d_Scav_settleEntry_104 rfl ?_
  refine ev_iload_n d_Scav_settleEntry_105 rfl rfl ?_
  refine ev_lshl d_Scav_settleEntry_106 ?_
  refine ev_lor d_Scav_settleEntry_107 ?_
  refine ev_put (h2 := (e0 :: (HD d (HF f (HW w (HM m (HS (sSRea s ((sRea s) ||| (1 <<< (x3.toInt64 &&& 63)))) tl))))))) gi_Scav ft_Scav fo_Scav fn_Scav (ci := 5) rfl rfl 5 (by decide) gw_273 rfl rfl (fun _ => rfl) (fun _ => rfl) (Nat.le_of_ble_eq_true rfl) rfl d_Scav_settleEntry_108 ?_
  refine ev_aload_n d_Scav_settleEntry_111 rfl rfl ?_
  refine ev_get (v := .ref 1) gi_Scav (ci := 5) rfl rfl 0 (by decide) gw_268 rfl d_Scav_settleEntry_112 ?_
  refine ev_iload d_Scav_settleEntry_115 rfl ?_
  refine ev_callr (Mc := M_Disk_isDirectory) (v := some (.int ((f_Disk_isDirectory d x4).1))) (h1 := (e0 :: (HD d (HF f (HW w (HM m (HS (sSRea s ((sRea s) ||| (1 <<< (x3.toInt64 &&& 63)))) tl))))))) (k2 := 0) (n2 := 0) (inv_V (q := 1) (av := [.int x4]) (rest := []) rfl (ci := 1) rfl d_Scav_settleEntry_117 gw_431 gw_432 gw_433 mw_Disk_isDirectory nh_Disk_isDirectory pn_Disk_isDirectory rfl) d_Scav_settleEntry_117 pl_Disk_isDirectory (Nat.le_of_ble_eq_true rfl) (by omega) (by simp [Value.category]; try omega) rfl rfl (e_f_Disk_isDirectory (e0 := e0) (tl := (HF f (HW w (HM m (HS (sSRea s ((sRea s) ||| (1 <<< (x3.toInt64 &&& 63)))) tl)))))  d x4) (Or.inl (len1 (lenHD (lenHF (lenHW (lenHM (lenHS rfl))))))) ?_
  refine ev_if_eq (tgt := 131) d_Scav_settleEntry_120 rfl (fun h1 => ?_) (fun h1 => ?_)
  · rw [if_pos h1]
    exact ev_pick [] rfl (e_B_Scav_settleEntry_131 rW hrW   d f w m (sSRea s ((sRea s) ||| (1 <<< (x3.toInt64 &&& 63)))))
  · rw [if_neg h1]
    refine ev_aload_n d_Scav_settleEntry_123 rfl rfl ?_
    refine ev_iload_n d_Scav_settleEntry_124 rfl rfl ?_
    refine ev_iload_n d_Scav_settleEntry_125 rfl rfl ?_
    refine ev_iconst (v := 1) d_Scav_settleEntry_126 rfl ?_
    refine ev_iadd d_Scav_settleEntry_127 ?_
    refine ev_callB (rc := (rW d f w m (sSRea s ((sRea s) ||| (1 <<< (x3.toInt64 &&& 63)))) x3 (x2 + 1))) (ou := ouV) (Hs := (fun z => (e0 :: (HD z.1 (HF f (HW w (HM m (HS z.2 tl)))))))) (inv_V (q := 9) (av := [.int x3, .int (x2 + 1)]) (rest := []) rfl (ci := 5) rfl d_Scav_settleEntry_128 gw_391 gw_393 gw_9 mw_Scav_walkDirectory nh_Scav_walkDirectory pn_Scav_walkDirectory rfl) d_Scav_settleEntry_128 pl_Scav_walkDirectory (Nat.le_of_ble_eq_true rfl) (by omega) (by simp [Value.category]; try omega) (hrW   d f w m (sSRea s ((sRea s) ||| (1 <<< (x3.toInt64 &&& 63)))) x3 (x2 + 1)) (fun _ => (len1 (lenHD (lenHF (lenHW (lenHM (lenHS rfl))))))) (fun v z h2 => ⟨_, rfl, ?_⟩)
    exact ev_pick [] rfl (e_B_Scav_settleEntry_131 rW hrW   z.1 f w m z.2)
def B_Scav_settleEntry_30 (rW : DS → FS → WS → MS → SS → Int32 → Int32 → Option (Unit × (DS × SS)))  (d : DS) (f : FS) (w : WS) (m : MS) (s : SS) (x1 : Int32) (x2 : Int32) (x3 : Int32) (t0 : Int32) : Option (Unit × (DS × SS)) :=
  if t0 = (-1) then (B_Scav_settleEntry_64 rW  d f w m s x1) else (if ¬ ((f_Scav_isReached d f w m s x3).1) = 0 then (B_Scav_settleEntry_64 rW  d f w m s x1) else (if ((f_Disk_nameAt d t0 0).1) = ((f_Scav_nameAt d f w m s x1).1) then (B_Scav_settleEntry_99 rW  ((f_Disk_setByte d (x1 / 8) ((x1 - x1 / 8 * 8) + 3) t0).2) f w m s x2 x3 t0) else (B_Scav_settleEntry_64 rW  d f w m s x1)))
theorem e_B_Scav_settleEntry_30 {sc : Nat × (Nat → Int32)} {e0 : mn_E} {tl : List mn_E} {dd ww : Nat} (rW : DS → FS → WS → MS → SS → Int32 → Int32 → Option (Unit × (DS × SS))) (hrW : ∀ (d : DS) (f : FS) (w : WS) (m : MS) (s : SS) (x1 : Int32) (x2 : Int32), Ev sc dd ww 0 0 M_Scav_walkDirectory 0 [(0, .ref 9), (1, .int x1), (2, .int x2)] [] (e0 :: (HD d (HF f (HW w (HM m (HS s tl)))))) (mapR ouV (fun z => (e0 :: (HD z.1 (HF f (HW w (HM m (HS z.2 tl))))))) (rW d f w m s x1 x2)))   (d : DS) (f : FS) (w : WS) (m : MS) (s : SS) (x1 : Int32) (x2 : Int32) (x3 : Int32) (t0 : Int32) : Ev sc (dd + 3) (ww + 46) 0 0 M_Scav_settleEntry 30 [(0, .ref 9), (1, .int x1), (2, .int x2), (3, .int x3)] [.int t0] (e0 :: (HD d (HF f (HW w (HM m (HS s tl)))))) (mapR ouV (fun z => (e0 :: (HD z.1 (HF f (HW w (HM m (HS z.2 tl))))))) (B_Scav_settleEntry_30 rW d f w m s x1 x2 x3 t0)) := by
  unfold B_Scav_settleEntry_30
  refine ev_istore d_Scav_settleEntry_30 (by decide) rfl ?_
  refine ev_iload d_Scav_settleEntry_32 rfl ?_
  refine ev_iconst (v := -1) d_Scav_settleEntry_34 rfl ?_
  refine ev_icmp_eq (tgt := 64) d_Scav_settleEntry_35 rfl (fun h1 => ?_) (fun h1 => ?_)
  · rw [if_pos h1]
    exact ev_pick [1, 2] rfl (e_B_Scav_settleEntry_64 rW hrW   d f w m s x1)
  · rw [if_neg h1]
    refine ev_aload_n d_Scav_settleEntry_38 rfl rfl ?_
    refine ev_iload_n d_Scav_settleEntry_39 rfl rfl ?_
    refine ev_callr (Mc := M_Scav_isReached) (v := some (.int ((f_Scav_isReached d f w m s x3).1))) (h1 := (e0 :: (HD d (HF f (HW w (HM m (HS s tl))))))) (k2 := 0) (n2 := 0) (inv_V (q := 9) (av := [.int x3]) (rest := []) rfl (ci := 5) rfl d_Scav_settleEntry_40 gw_415 gw_417 gw_13 mw_Scav_isReached nh_Scav_isReached pn_Scav_isReached rfl) d_Scav_settleEntry_40 pl_Scav_isReached (Nat.le_of_ble_eq_true rfl) (by omega) (by simp [Value.category]; try omega) rfl rfl (e_f_Scav_isReached (e0 := e0) (tl := tl)  d f w m s x3) (Or.inl (len1 (lenHD (lenHF (lenHW (lenHM (lenHS rfl))))))) ?_
    refine ev_if_ne (tgt := 64) d_Scav_settleEntry_43 rfl (fun h2 => ?_) (fun h2 => ?_)
    · rw [if_pos h2]
      exact ev_pick [1, 2] rfl (e_B_Scav_settleEntry_64 rW hrW   d f w m s x1)
    · rw [if_neg h2]
      refine ev_aload_n d_Scav_settleEntry_46 rfl rfl ?_
      refine ev_get (v := .ref 1) gi_Scav (ci := 5) rfl rfl 0 (by decide) gw_268 rfl d_Scav_settleEntry_47 ?_
      refine ev_iload d_Scav_settleEntry_50 rfl ?_
      refine ev_iconst (v := 0) d_Scav_settleEntry_52 rfl ?_
      refine ev_callr (Mc := M_Disk_nameAt) (v := some (.int ((f_Disk_nameAt d t0 0).1))) (h1 := (e0 :: (HD d (HF f (HW w (HM m (HS s tl))))))) (k2 := 0) (n2 := 0) (inv_V (q := 1) (av := [.int t0, .int 0]) (rest := []) rfl (ci := 1) rfl d_Scav_settleEntry_53 gw_419 gw_420 gw_421 mw_Disk_nameAt nh_Disk_nameAt pn_Disk_nameAt rfl) d_Scav_settleEntry_53 pl_Disk_nameAt (Nat.le_of_ble_eq_true rfl) (by omega) (by simp [Value.category]; try omega) rfl rfl (e_f_Disk_nameAt (e0 := e0) (tl := (HF f (HW w (HM m (HS s tl)))))  d t0 0) (Or.inl (len1 (lenHD (lenHF (lenHW (lenHM (lenHS rfl))))))) ?_
      refine ev_aload_n d_Scav_settleEntry_56 rfl rfl ?_
      refine ev_iload_n d_Scav_settleEntry_57 rfl rfl ?_
      refine ev_callr (Mc := M_Scav_nameAt) (v := some (.int ((f_Scav_nameAt d f w m s x1).1))) (h1 := (e0 :: (HD d (HF f (HW w (HM m (HS s tl))))))) (k2 := 0) (n2 := 0) (inv_V (q := 9) (av := [.int x1]) (rest := [.int ((f_Disk_nameAt d t0 0).1)]) rfl (ci := 5) rfl d_Scav_settleEntry_58 gw_423 gw_425 gw_14 mw_Scav_nameAt nh_Scav_nameAt pn_Scav_nameAt rfl) d_Scav_settleEntry_58 pl_Scav_nameAt (Nat.le_of_ble_eq_true rfl) (by omega) (by simp [Value.category]; try omega) rfl rfl (e_f_Scav_nameAt (e0 := e0) (tl := tl)  d f w m s x1) (Or.inl (len1 (lenHD (lenHF (lenHW (lenHM (lenHS rfl))))))) ?_
      refine ev_icmp_eq (tgt := 80) d_Scav_settleEntry_61 rfl (fun h3 => ?_) (fun h3 => ?_)
      · rw [if_pos h3]
        refine ev_aload_n d_Scav_settleEntry_80 rfl rfl ?_
        refine ev_get (v := .ref 1) gi_Scav (ci := 5) rfl rfl 0 (by decide) gw_268 rfl d_Scav_settleEntry_81 ?_
        refine ev_iload_n d_Scav_settleEntry_84 rfl rfl ?_
        refine ev_bipush (v := 8) d_Scav_settleEntry_85 rfl ?_
        refine ev_idiv d_Scav_settleEntry_87 (by decide) ?_
        refine ev_iload_n d_Scav_settleEntry_88 rfl rfl ?_
        refine ev_bipush (v := 8) d_Scav_settleEntry_89 rfl ?_
        refine ev_irem d_Scav_settleEntry_91 (by decide) ?_
        refine ev_iconst (v := 3) d_Scav_settleEntry_92 rfl ?_
        refine ev_iadd d_Scav_settleEntry_93 ?_
        refine ev_iload d_Scav_settleEntry_94 rfl ?_
        refine ev_callr (Mc := M_Disk_setByte) (v := none) (h1 := (e0 :: (HD ((f_Disk_setByte d (x1 / 8) ((x1 - x1 / 8 * 8) + 3) t0).2) (HF f (HW w (HM m (HS s tl))))))) (k2 := 0) (n2 := 0) (inv_V (q := 1) (av := [.int (x1 / 8), .int ((x1 - x1 / 8 * 8) + 3), .int t0]) (rest := []) rfl (ci := 1) rfl d_Scav_settleEntry_96 gw_385 gw_190 gw_191 mw_Disk_setByte nh_Disk_setByte pn_Disk_setByte rfl) d_Scav_settleEntry_96 pl_Disk_setByte (Nat.le_of_ble_eq_true rfl) (by omega) (by simp [Value.category]; try omega) rfl rfl (e_f_Disk_setByte (e0 := e0) (tl := (HF f (HW w (HM m (HS s tl)))))  d (x1 / 8) ((x1 - x1 / 8 * 8) + 3) t0) (Or.inl (len1 (lenHD (lenHF (lenHW (lenHM (lenHS rfl))))))) ?_
        exact ev_pick [1, 3, 4, 0] rfl (e_B_Scav_settleEntry_99 rW hrW   ((f_Disk_setByte d (x1 / 8) ((x1 - x1 / 8 * 8) + 3) t0).2) f w m s x2 x3 t0)
      · rw [if_neg h3]
        exact ev_pick [1, 2] rfl (e_B_Scav_settleEntry_64 rW hrW   d f w m s x1)
def B_Scav_settleEntry_17 (rW : DS → FS → WS → MS → SS → Int32 → Int32 → Option (Unit × (DS × SS)))  (d : DS) (f : FS) (w : WS) (m : MS) (s : SS) (x1 : Int32) (x2 : Int32) (x3 : Int32) : Option (Unit × (DS × SS)) :=
  B_Scav_settleEntry_30 rW  d f w m s x1 x2 x3 (-1)
theorem e_B_Scav_settleEntry_17 {sc : Nat × (Nat → Int32)} {e0 : mn_E} {tl : List mn_E} {dd ww : Nat} (rW : DS → FS → WS → MS → SS → Int32 → Int32 → Option (Unit × (DS × SS))) (hrW : ∀ (d : DS) (f : FS) (w : WS) (m : MS) (s : SS) (x1 : Int32) (x2 : Int32), Ev sc dd ww 0 0 M_Scav_walkDirectory 0 [(0, .ref 9), (1, .int x1), (2, .int x2)] [] (e0 :: (HD d (HF f (HW w (HM m (HS s tl)))))) (mapR ouV (fun z => (e0 :: (HD z.1 (HF f (HW w (HM m (HS z.2 tl))))))) (rW d f w m s x1 x2)))   (d : DS) (f : FS) (w : WS) (m : MS) (s : SS) (x1 : Int32) (x2 : Int32) (x3 : Int32) : Ev sc (dd + 3) (ww + 46) 0 0 M_Scav_settleEntry 17 [(0, .ref 9), (1, .int x1), (2, .int x2), (3, .int x3)] [] (e0 :: (HD d (HF f (HW w (HM m (HS s tl)))))) (mapR ouV (fun z => (e0 :: (HD z.1 (HF f (HW w (HM m (HS z.2 tl))))))) (B_Scav_settleEntry_17 rW d f w m s x1 x2 x3)) := by
  unfold B_Scav_settleEntry_17
  refine ev_iconst (v := -1) d_Scav_settleEntry_17 rfl ?_
  refine ev_goto (tgt := 30) d_Scav_settleEntry_18 rfl ?_
  exact ev_pick [0, 1, 2, 3] rfl (e_B_Scav_settleEntry_30 rW hrW   d f w m s x1 x2 x3 (-1))
def f_Scav_settleEntry (rW : DS → FS → WS → MS → SS → Int32 → Int32 → Option (Unit × (DS × SS)))  (d : DS) (f : FS) (w : WS) (m : MS) (s : SS) (x1 : Int32) (x2 : Int32) : Option (Unit × (DS × SS)) :=
  if ((f_Scav_serialAt d f w m s x1).1) < 3 then (B_Scav_settleEntry_17 rW  d f w m s x1 x2 ((f_Scav_serialAt d f w m s x1).1)) else (if ((f_Scav_serialAt d f w m s x1).1) ≤ 60 then (B_Scav_settleEntry_30 rW  d f w m s x1 x2 ((f_Scav_serialAt d f w m s x1).1) (xSearch d ((f_Scav_serialAt d f w m s x1).1) 0)) else (B_Scav_settleEntry_17 rW  d f w m s x1 x2 ((f_Scav_serialAt d f w m s x1).1)))
theorem e_f_Scav_settleEntry {sc : Nat × (Nat → Int32)} {e0 : mn_E} {tl : List mn_E} {dd ww : Nat} (rW : DS → FS → WS → MS → SS → Int32 → Int32 → Option (Unit × (DS × SS))) (hrW : ∀ (d : DS) (f : FS) (w : WS) (m : MS) (s : SS) (x1 : Int32) (x2 : Int32), Ev sc dd ww 0 0 M_Scav_walkDirectory 0 [(0, .ref 9), (1, .int x1), (2, .int x2)] [] (e0 :: (HD d (HF f (HW w (HM m (HS s tl)))))) (mapR ouV (fun z => (e0 :: (HD z.1 (HF f (HW w (HM m (HS z.2 tl))))))) (rW d f w m s x1 x2)))   (d : DS) (f : FS) (w : WS) (m : MS) (s : SS) (x1 : Int32) (x2 : Int32) : Ev sc (dd + 3) (ww + 46) 0 0 M_Scav_settleEntry 0 [(0, .ref 9), (1, .int x1), (2, .int x2)] [] (e0 :: (HD d (HF f (HW w (HM m (HS s tl)))))) (mapR ouV (fun z => (e0 :: (HD z.1 (HF f (HW w (HM m (HS z.2 tl))))))) (f_Scav_settleEntry rW d f w m s x1 x2)) := by
  unfold f_Scav_settleEntry
  refine ev_aload_n d_Scav_settleEntry_0 rfl rfl ?_
  refine ev_iload_n d_Scav_settleEntry_1 rfl rfl ?_
  refine ev_callr (Mc := M_Scav_serialAt) (v := some (.int ((f_Scav_serialAt d f w m s x1).1))) (h1 := (e0 :: (HD d (HF f (HW w (HM m (HS s tl))))))) (k2 := 0) (n2 := 0) (inv_V (q := 9) (av := [.int x1]) (rest := []) rfl (ci := 5) rfl d_Scav_settleEntry_2 gw_407 gw_409 gw_12 mw_Scav_serialAt nh_Scav_serialAt pn_Scav_serialAt rfl) d_Scav_settleEntry_2 pl_Scav_serialAt (Nat.le_of_ble_eq_true rfl) (by omega) (by simp [Value.category]; try omega) rfl rfl (e_f_Scav_serialAt (e0 := e0) (tl := tl)  d f w m s x1) (Or.inl (len1 (lenHD (lenHF (lenHW (lenHM (lenHS rfl))))))) ?_
  refine ev_istore_n d_Scav_settleEntry_5 rfl (by decide) rfl ?_
  refine ev_iload_n d_Scav_settleEntry_6 rfl rfl ?_
  refine ev_iconst (v := 3) d_Scav_settleEntry_7 rfl ?_
  refine ev_icmp_lt (tgt := 17) d_Scav_settleEntry_8 rfl (fun h1 => ?_) (fun h1 => ?_)
  · rw [if_pos h1]
    exact ev_pick [1, 2, 3, 0] rfl (e_B_Scav_settleEntry_17 rW hrW   d f w m s x1 x2 ((f_Scav_serialAt d f w m s x1).1))
  · rw [if_neg h1]
    refine ev_iload_n d_Scav_settleEntry_11 rfl rfl ?_
    refine ev_bipush (v := 60) d_Scav_settleEntry_12 rfl ?_
    refine ev_icmp_le (tgt := 21) d_Scav_settleEntry_14 rfl (fun h2 => ?_) (fun h2 => ?_)
    · rw [if_pos h2]
      refine ev_aload_n d_Scav_settleEntry_21 rfl rfl ?_
      refine ev_get (v := .ref 1) gi_Scav (ci := 5) rfl rfl 0 (by decide) gw_268 rfl d_Scav_settleEntry_22 ?_
      refine ev_iload_n d_Scav_settleEntry_25 rfl rfl ?_
      refine ev_iconst (v := 0) d_Scav_settleEntry_26 rfl ?_
      refine ev_callr (Mc := M_Disk_search) (v := some (.int (xSearch d ((f_Scav_serialAt d f w m s x1).1) 0))) (h1 := (e0 :: (HD d (HF f (HW w (HM m (HS s tl))))))) (k2 := 0) (n2 := 0) (inv_V (q := 1) (av := [.int ((f_Scav_serialAt d f w m s x1).1), .int 0]) (rest := []) rfl (ci := 1) rfl d_Scav_settleEntry_27 gw_349 gw_350 gw_351 mw_Disk_search nh_Disk_search pn_Disk_search rfl) d_Scav_settleEntry_27 pl_Disk_search (Nat.le_of_ble_eq_true rfl) (by omega) (by simp [Value.category]; try omega) rfl rfl (c_Disk_search (e0 := e0) (tl := (HF f (HW w (HM m (HS s tl)))))  d ((f_Scav_serialAt d f w m s x1).1) 0) (Or.inl (len1 (lenHD (lenHF (lenHW (lenHM (lenHS rfl))))))) ?_
      exact ev_pick [1, 2, 3, 0] rfl (e_B_Scav_settleEntry_30 rW hrW   d f w m s x1 x2 ((f_Scav_serialAt d f w m s x1).1) (xSearch d ((f_Scav_serialAt d f w m s x1).1) 0))
    · rw [if_neg h2]
      exact ev_pick [1, 2, 3, 0] rfl (e_B_Scav_settleEntry_17 rW hrW   d f w m s x1 x2 ((f_Scav_serialAt d f w m s x1).1))
def B_Scav_walkDirectory_37 (rW : DS → FS → WS → MS → SS → Int32 → Int32 → Option (Unit × (DS × SS))) (r9 : DS → FS → WS → MS → SS → Int32 → Int32 → Int32 → Option (Unit × (DS × SS))) (d : DS) (f : FS) (w : WS) (m : MS) (s : SS) (x1 : Int32) (x2 : Int32) (x3 : Int32) : Option (Unit × (DS × SS)) :=
  r9 d f w m s x1 x2 (x3 + 1)
theorem e_B_Scav_walkDirectory_37 {sc : Nat × (Nat → Int32)} {e0 : mn_E} {tl : List mn_E} {dd ww : Nat} (rW : DS → FS → WS → MS → SS → Int32 → Int32 → Option (Unit × (DS × SS))) (hrW : ∀ (d : DS) (f : FS) (w : WS) (m : MS) (s : SS) (x1 : Int32) (x2 : Int32), Ev sc dd ww 0 0 M_Scav_walkDirectory 0 [(0, .ref 9), (1, .int x1), (2, .int x2)] [] (e0 :: (HD d (HF f (HW w (HM m (HS s tl)))))) (mapR ouV (fun z => (e0 :: (HD z.1 (HF f (HW w (HM m (HS z.2 tl))))))) (rW d f w m s x1 x2))) (r9 : DS → FS → WS → MS → SS → Int32 → Int32 → Int32 → Option (Unit × (DS × SS))) (hr9 : ∀ (d : DS) (f : FS) (w : WS) (m : MS) (s : SS) (x1 : Int32) (x2 : Int32) (x3 : Int32), Ev sc (dd + 4) (ww + 62) 0 0 M_Scav_walkDirectory 9 [(0, .ref 9), (1, .int x1), (2, .int x2), (3, .int x3)] [] (e0 :: (HD d (HF f (HW w (HM m (HS s tl)))))) (mapR ouV (fun z => (e0 :: (HD z.1 (HF f (HW w (HM m (HS z.2 tl))))))) (r9 d f w m s x1 x2 x3))) (d : DS) (f : FS) (w : WS) (m : MS) (s : SS) (x1 : Int32) (x2 : Int32) (x3 : Int32) : Ev sc (dd + 4) (ww + 62) 0 0 M_Scav_walkDirectory 37 [(0, .ref 9), (1, .int x1), (2, .int x2), (3, .int x3)] [] (e0 :: (HD d (HF f (HW w (HM m (HS s tl)))))) (mapR ouV (fun z => (e0 :: (HD z.1 (HF f (HW w (HM m (HS z.2 tl))))))) (B_Scav_walkDirectory_37 rW r9 d f w m s x1 x2 x3)) := by
  unfold B_Scav_walkDirectory_37
  refine ev_iinc (v := (x3 + 1)) d_Scav_walkDirectory_37 rfl rfl (by decide) rfl ?_
  refine ev_goto (tgt := 9) d_Scav_walkDirectory_40 rfl ?_
  exact ev_pick [1, 2, 3, 0] rfl (hr9 d f w m s x1 x2 (x3 + 1))
def L_Scav_walkDirectory_9 (rW : DS → FS → WS → MS → SS → Int32 → Int32 → Option (Unit × (DS × SS)))  : Nat → DS → FS → WS → MS → SS → Int32 → Int32 → Int32 → Option (Unit × (DS × SS))
  | 0, _, _, _, _, _, _, _, _ => none
  | n + 1, d, f, w, m, s, x1, x2, x3 =>
  if 80 ≤ x3 then (some ((), (d, s))) else (if ¬ ((f_Scav_entryPlace d f w m s x1 x3).1) = (-1) then (bnd (f_Scav_settleEntry rW d f w m s ((f_Scav_entryPlace d f w m s x1 x3).1) x2) (fun q => B_Scav_walkDirectory_37 rW (L_Scav_walkDirectory_9 rW n) q.2.1 f w m q.2.2 x1 x2 x3)) else (some ((), (d, s))))
theorem e_L_Scav_walkDirectory_9 {sc : Nat × (Nat → Int32)} {e0 : mn_E} {tl : List mn_E} {dd ww : Nat} (rW : DS → FS → WS → MS → SS → Int32 → Int32 → Option (Unit × (DS × SS))) (hrW : ∀ (d : DS) (f : FS) (w : WS) (m : MS) (s : SS) (x1 : Int32) (x2 : Int32), Ev sc dd ww 0 0 M_Scav_walkDirectory 0 [(0, .ref 9), (1, .int x1), (2, .int x2)] [] (e0 :: (HD d (HF f (HW w (HM m (HS s tl)))))) (mapR ouV (fun z => (e0 :: (HD z.1 (HF f (HW w (HM m (HS z.2 tl))))))) (rW d f w m s x1 x2)))   : ∀ (n : Nat) (d : DS) (f : FS) (w : WS) (m : MS) (s : SS) (x1 : Int32) (x2 : Int32) (x3 : Int32), Ev sc (dd + 4) (ww + 62) 0 0 M_Scav_walkDirectory 9 [(0, .ref 9), (1, .int x1), (2, .int x2), (3, .int x3)] [] (e0 :: (HD d (HF f (HW w (HM m (HS s tl)))))) (mapR ouV (fun z => (e0 :: (HD z.1 (HF f (HW w (HM m (HS z.2 tl))))))) (L_Scav_walkDirectory_9 rW  n d f w m s x1 x2 x3)) := by
  intro n
  induction n with
  | zero => intro d f w m s x1 x2 x3; exact ev_none
  | succ n ih =>
    intro d f w m s x1 x2 x3
    rw [L_Scav_walkDirectory_9]
    refine ev_iload_n d_Scav_walkDirectory_9 rfl rfl ?_
    refine ev_bipush (v := 80) d_Scav_walkDirectory_10 rfl ?_
    refine ev_icmp_ge (tgt := 43) d_Scav_walkDirectory_12 rfl (fun h1 => ?_) (fun h1 => ?_)
    · rw [if_pos h1]
      exact ev_vret rfl d_Scav_walkDirectory_43
    · rw [if_neg h1]
      refine ev_aload_n d_Scav_walkDirectory_15 rfl rfl ?_
      refine ev_iload_n d_Scav_walkDirectory_16 rfl rfl ?_
      refine ev_iload_n d_Scav_walkDirectory_17 rfl rfl ?_
      refine ev_callr (Mc := M_Scav_entryPlace) (v := some (.int ((f_Scav_entryPlace d f w m s x1 x3).1))) (h1 := (e0 :: (HD d (HF f (HW w (HM m (HS s tl))))))) (k2 := 0) (n2 := 0) (inv_V (q := 9) (av := [.int x1, .int x3]) (rest := []) rfl (ci := 5) rfl d_Scav_walkDirectory_18 gw_395 gw_397 gw_10 mw_Scav_entryPlace nh_Scav_entryPlace pn_Scav_entryPlace rfl) d_Scav_walkDirectory_18 pl_Scav_entryPlace (Nat.le_of_ble_eq_true rfl) (by omega) (by simp [Value.category]; try omega) rfl rfl (e_f_Scav_entryPlace (e0 := e0) (tl := tl)  d f w m s x1 x3) (Or.inl (len1 (lenHD (lenHF (lenHW (lenHM (lenHS rfl))))))) ?_
      refine ev_istore d_Scav_walkDirectory_21 (by decide) rfl ?_
      refine ev_iload d_Scav_walkDirectory_23 rfl ?_
      refine ev_iconst (v := -1) d_Scav_walkDirectory_25 rfl ?_
      refine ev_icmp_ne (tgt := 30) d_Scav_walkDirectory_26 rfl (fun h2 => ?_) (fun h2 => ?_)
      · rw [if_pos h2]
        refine ev_aload_n d_Scav_walkDirectory_30 rfl rfl ?_
        refine ev_iload d_Scav_walkDirectory_31 rfl ?_
        refine ev_iload_n d_Scav_walkDirectory_33 rfl rfl ?_
        refine ev_callB (rc := (f_Scav_settleEntry rW d f w m s ((f_Scav_entryPlace d f w m s x1 x3).1) x2)) (ou := ouV) (Hs := (fun z => (e0 :: (HD z.1 (HF f (HW w (HM m (HS z.2 tl)))))))) (inv_V (q := 9) (av := [.int ((f_Scav_entryPlace d f w m s x1 x3).1), .int x2]) (rest := []) rfl (ci := 5) rfl d_Scav_walkDirectory_34 gw_403 gw_405 gw_11 mw_Scav_settleEntry nh_Scav_settleEntry pn_Scav_settleEntry rfl) d_Scav_walkDirectory_34 pl_Scav_settleEntry (Nat.le_of_ble_eq_true rfl) (by omega) (by simp [Value.category]; try omega) (e_f_Scav_settleEntry (e0 := e0) (tl := tl) rW hrW d f w m s ((f_Scav_entryPlace d f w m s x1 x3).1) x2) (fun _ => (len1 (lenHD (lenHF (lenHW (lenHM (lenHS rfl))))))) (fun v z h3 => ⟨_, rfl, ?_⟩)
        exact ev_pick [1, 2, 3, 4] rfl (e_B_Scav_walkDirectory_37 rW hrW (L_Scav_walkDirectory_9 rW n) ih z.1 f w m z.2 x1 x2 x3)
      · rw [if_neg h2]
        exact ev_vret rfl d_Scav_walkDirectory_29
def f_Scav_walkDirectory (rW : DS → FS → WS → MS → SS → Int32 → Int32 → Option (Unit × (DS × SS)))  (d : DS) (f : FS) (w : WS) (m : MS) (s : SS) (x1 : Int32) (x2 : Int32) : Option (Unit × (DS × SS)) :=
  if x2 ≤ 20 then (L_Scav_walkDirectory_9 rW  100 d f w m s x1 x2 0) else (some ((), (d, s)))
theorem e_f_Scav_walkDirectory {sc : Nat × (Nat → Int32)} {e0 : mn_E} {tl : List mn_E} {dd ww : Nat} (rW : DS → FS → WS → MS → SS → Int32 → Int32 → Option (Unit × (DS × SS))) (hrW : ∀ (d : DS) (f : FS) (w : WS) (m : MS) (s : SS) (x1 : Int32) (x2 : Int32), Ev sc dd ww 0 0 M_Scav_walkDirectory 0 [(0, .ref 9), (1, .int x1), (2, .int x2)] [] (e0 :: (HD d (HF f (HW w (HM m (HS s tl)))))) (mapR ouV (fun z => (e0 :: (HD z.1 (HF f (HW w (HM m (HS z.2 tl))))))) (rW d f w m s x1 x2)))   (d : DS) (f : FS) (w : WS) (m : MS) (s : SS) (x1 : Int32) (x2 : Int32) : Ev sc (dd + 4) (ww + 62) 0 0 M_Scav_walkDirectory 0 [(0, .ref 9), (1, .int x1), (2, .int x2)] [] (e0 :: (HD d (HF f (HW w (HM m (HS s tl)))))) (mapR ouV (fun z => (e0 :: (HD z.1 (HF f (HW w (HM m (HS z.2 tl))))))) (f_Scav_walkDirectory rW d f w m s x1 x2)) := by
  unfold f_Scav_walkDirectory
  refine ev_iload_n d_Scav_walkDirectory_0 rfl rfl ?_
  refine ev_bipush (v := 20) d_Scav_walkDirectory_1 rfl ?_
  refine ev_icmp_le (tgt := 7) d_Scav_walkDirectory_3 rfl (fun h1 => ?_) (fun h1 => ?_)
  · rw [if_pos h1]
    refine ev_iconst (v := 0) d_Scav_walkDirectory_7 rfl ?_
    refine ev_istore_n d_Scav_walkDirectory_8 rfl (by decide) rfl ?_
    exact ev_pick [1, 2, 3, 0] rfl (e_L_Scav_walkDirectory_9 rW hrW   100 d f w m s x1 x2 0)
  · rw [if_neg h1]
    exact ev_vret rfl d_Scav_walkDirectory_6
def F_Scav_walk : Nat → DS → FS → WS → MS → SS → Int32 → Int32 → Option (Unit × (DS × SS))
  | 0, _, _, _, _, _, _, _ => none
  | n + 1, d, f, w, m, s, x1, x2 => f_Scav_walkDirectory (F_Scav_walk n) d f w m s x1 x2
theorem e_F_Scav_walk {sc : Nat × (Nat → Int32)} {e0 : mn_E} {tl : List mn_E} : ∀ (n : Nat) (d : DS) (f : FS) (w : WS) (m : MS) (s : SS) (x1 : Int32) (x2 : Int32), Ev sc (4 * n) (62 * n) 0 0 M_Scav_walkDirectory 0 [(0, .ref 9), (1, .int x1), (2, .int x2)] [] (e0 :: (HD d (HF f (HW w (HM m (HS s tl)))))) (mapR ouV (fun z => (e0 :: (HD z.1 (HF f (HW w (HM m (HS z.2 tl))))))) (F_Scav_walk n d f w m s x1 x2)) := by
  intro n
  induction n with
  | zero => intro d f w m s x1 x2; exact ev_none
  | succ n ih =>
    intro d f w m s x1 x2
    exact ev_widen (by omega) (by omega) (Nat.le_refl _) (Nat.le_refl _) (e_f_Scav_walkDirectory (F_Scav_walk n) ih d f w m s x1 x2)

def B_Scav_hasEntry_49  (r3 : DS → FS → WS → MS → SS → Int32 → Int32 → Int32 → Int32 → Option (Int32 × Unit)) (d : DS) (f : FS) (w : WS) (m : MS) (s : SS) (x1 : Int32) (x2 : Int32) (x3 : Int32) (x4 : Int32) : Option (Int32 × Unit) :=
  r3 d f w m s x1 x2 x3 (x4 + 1)
theorem e_B_Scav_hasEntry_49 {sc : Nat × (Nat → Int32)} {e0 : mn_E} {tl : List mn_E}  (r3 : DS → FS → WS → MS → SS → Int32 → Int32 → Int32 → Int32 → Option (Int32 × Unit)) (hr3 : ∀ (d : DS) (f : FS) (w : WS) (m : MS) (s : SS) (x1 : Int32) (x2 : Int32) (x3 : Int32) (x4 : Int32), Ev sc 3 45 0 0 M_Scav_hasEntry 3 [(0, .ref 9), (1, .int x1), (2, .int x2), (3, .int x3), (4, .int x4)] [] (e0 :: (HD d (HF f (HW w (HM m (HS s tl)))))) (mapR ouI (fun z => (e0 :: (HD d (HF f (HW w (HM m (HS s tl))))))) (r3 d f w m s x1 x2 x3 x4))) (d : DS) (f : FS) (w : WS) (m : MS) (s : SS) (x1 : Int32) (x2 : Int32) (x3 : Int32) (x4 : Int32) : Ev sc 3 45 0 0 M_Scav_hasEntry 49 [(0, .ref 9), (1, .int x1), (2, .int x2), (3, .int x3), (4, .int x4)] [] (e0 :: (HD d (HF f (HW w (HM m (HS s tl)))))) (mapR ouI (fun z => (e0 :: (HD d (HF f (HW w (HM m (HS s tl))))))) (B_Scav_hasEntry_49 r3 d f w m s x1 x2 x3 x4)) := by
  unfold B_Scav_hasEntry_49
  refine ev_iinc (v := (x4 + 1)) d_Scav_hasEntry_49 rfl rfl (by decide) rfl ?_
  refine ev_goto (tgt := 3) d_Scav_hasEntry_52 rfl ?_
  exact ev_pick [1, 2, 3, 4, 0] rfl (hr3 d f w m s x1 x2 x3 (x4 + 1))
def L_Scav_hasEntry_3   : Nat → DS → FS → WS → MS → SS → Int32 → Int32 → Int32 → Int32 → Option (Int32 × Unit)
  | 0, _, _, _, _, _, _, _, _, _ => none
  | n + 1, d, f, w, m, s, x1, x2, x3, x4 =>
  if 80 ≤ x4 then (some (0, ())) else (if ¬ ((f_Scav_entryPlace d f w m s x1 x4).1) = (-1) then (if ¬ ((f_Scav_serialAt d f w m s ((f_Scav_entryPlace d f w m s x1 x4).1)).1) = x2 then (B_Scav_hasEntry_49  (L_Scav_hasEntry_3 n) d f w m s x1 x2 x3 x4) else (if ¬ ((f_Scav_nameAt d f w m s ((f_Scav_entryPlace d f w m s x1 x4).1)).1) = x3 then (B_Scav_hasEntry_49  (L_Scav_hasEntry_3 n) d f w m s x1 x2 x3 x4) else (some (1, ())))) else (some (0, ())))
theorem e_L_Scav_hasEntry_3 {sc : Nat × (Nat → Int32)} {e0 : mn_E} {tl : List mn_E}    : ∀ (n : Nat) (d : DS) (f : FS) (w : WS) (m : MS) (s : SS) (x1 : Int32) (x2 : Int32) (x3 : Int32) (x4 : Int32), Ev sc 3 45 0 0 M_Scav_hasEntry 3 [(0, .ref 9), (1, .int x1), (2, .int x2), (3, .int x3), (4, .int x4)] [] (e0 :: (HD d (HF f (HW w (HM m (HS s tl)))))) (mapR ouI (fun z => (e0 :: (HD d (HF f (HW w (HM m (HS s tl))))))) (L_Scav_hasEntry_3   n d f w m s x1 x2 x3 x4)) := by
  intro n
  induction n with
  | zero => intro d f w m s x1 x2 x3 x4; exact ev_none
  | succ n ih =>
    intro d f w m s x1 x2 x3 x4
    rw [L_Scav_hasEntry_3]
    refine ev_iload d_Scav_hasEntry_3 rfl ?_
    refine ev_bipush (v := 80) d_Scav_hasEntry_5 rfl ?_
    refine ev_icmp_ge (tgt := 55) d_Scav_hasEntry_7 rfl (fun h1 => ?_) (fun h1 => ?_)
    · rw [if_pos h1]
      refine ev_iconst (v := 0) d_Scav_hasEntry_55 rfl ?_
      exact ev_zret (ty := .boolean) rfl rfl d_Scav_hasEntry_56
    · rw [if_neg h1]
      refine ev_aload_n d_Scav_hasEntry_10 rfl rfl ?_
      refine ev_iload_n d_Scav_hasEntry_11 rfl rfl ?_
      refine ev_iload d_Scav_hasEntry_12 rfl ?_
      refine ev_callr (Mc := M_Scav_entryPlace) (v := some (.int ((f_Scav_entryPlace d f w m s x1 x4).1))) (h1 := (e0 :: (HD d (HF f (HW w (HM m (HS s tl))))))) (k2 := 0) (n2 := 0) (inv_V (q := 9) (av := [.int x1, .int x4]) (rest := []) rfl (ci := 5) rfl d_Scav_hasEntry_14 gw_395 gw_397 gw_10 mw_Scav_entryPlace nh_Scav_entryPlace pn_Scav_entryPlace rfl) d_Scav_hasEntry_14 pl_Scav_entryPlace (Nat.le_of_ble_eq_true rfl) (Nat.le_of_ble_eq_true rfl) (Nat.le_of_ble_eq_true rfl) rfl rfl (e_f_Scav_entryPlace (e0 := e0) (tl := tl)  d f w m s x1 x4) (Or.inl (len1 (lenHD (lenHF (lenHW (lenHM (lenHS rfl))))))) ?_
      refine ev_istore d_Scav_hasEntry_17 (by decide) rfl ?_
      refine ev_iload d_Scav_hasEntry_19 rfl ?_
      refine ev_iconst (v := -1) d_Scav_hasEntry_21 rfl ?_
      refine ev_icmp_ne (tgt := 27) d_Scav_hasEntry_22 rfl (fun h2 => ?_) (fun h2 => ?_)
      · rw [if_pos h2]
        refine ev_aload_n d_Scav_hasEntry_27 rfl rfl ?_
        refine ev_iload d_Scav_hasEntry_28 rfl ?_
        refine ev_callr (Mc := M_Scav_serialAt) (v := some (.int ((f_Scav_serialAt d f w m s ((f_Scav_entryPlace d f w m s x1 x4).1)).1))) (h1 := (e0 :: (HD d (HF f (HW w (HM m (HS s tl))))))) (k2 := 0) (n2 := 0) (inv_V (q := 9) (av := [.int ((f_Scav_entryPlace d f w m s x1 x4).1)]) (rest := []) rfl (ci := 5) rfl d_Scav_hasEntry_30 gw_407 gw_409 gw_12 mw_Scav_serialAt nh_Scav_serialAt pn_Scav_serialAt rfl) d_Scav_hasEntry_30 pl_Scav_serialAt (Nat.le_of_ble_eq_true rfl) (Nat.le_of_ble_eq_true rfl) (Nat.le_of_ble_eq_true rfl) rfl rfl (e_f_Scav_serialAt (e0 := e0) (tl := tl)  d f w m s ((f_Scav_entryPlace d f w m s x1 x4).1)) (Or.inl (len1 (lenHD (lenHF (lenHW (lenHM (lenHS rfl))))))) ?_
        refine ev_iload_n d_Scav_hasEntry_33 rfl rfl ?_
        refine ev_icmp_ne (tgt := 49) d_Scav_hasEntry_34 rfl (fun h3 => ?_) (fun h3 => ?_)
        · rw [if_pos h3]
          exact ev_pick [1, 2, 3, 4, 5] rfl (e_B_Scav_hasEntry_49   (L_Scav_hasEntry_3 n) ih d f w m s x1 x2 x3 x4)
        · rw [if_neg h3]
          refine ev_aload_n d_Scav_hasEntry_37 rfl rfl ?_
          refine ev_iload d_Scav_hasEntry_38 rfl ?_
          refine ev_callr (Mc := M_Scav_nameAt) (v := some (.int ((f_Scav_nameAt d f w m s ((f_Scav_entryPlace d f w m s x1 x4).1)).1))) (h1 := (e0 :: (HD d (HF f (HW w (HM m (HS s tl))))))) (k2 := 0) (n2 := 0) (inv_V (q := 9) (av := [.int ((f_Scav_entryPlace d f w m s x1 x4).1)]) (rest := []) rfl (ci := 5) rfl d_Scav_hasEntry_40 gw_423 gw_425 gw_14 mw_Scav_nameAt nh_Scav_nameAt pn_Scav_nameAt rfl) d_Scav_hasEntry_40 pl_Scav_nameAt (Nat.le_of_ble_eq_true rfl) (Nat.le_of_ble_eq_true rfl) (Nat.le_of_ble_eq_true rfl) rfl rfl (e_f_Scav_nameAt (e0 := e0) (tl := tl)  d f w m s ((f_Scav_entryPlace d f w m s x1 x4).1)) (Or.inl (len1 (lenHD (lenHF (lenHW (lenHM (lenHS rfl))))))) ?_
          refine ev_iload_n d_Scav_hasEntry_43 rfl rfl ?_
          refine ev_icmp_ne (tgt := 49) d_Scav_hasEntry_44 rfl (fun h4 => ?_) (fun h4 => ?_)
          · rw [if_pos h4]
            exact ev_pick [1, 2, 3, 4, 5] rfl (e_B_Scav_hasEntry_49   (L_Scav_hasEntry_3 n) ih d f w m s x1 x2 x3 x4)
          · rw [if_neg h4]
            refine ev_iconst (v := 1) d_Scav_hasEntry_47 rfl ?_
            exact ev_zret (ty := .boolean) rfl rfl d_Scav_hasEntry_48
      · rw [if_neg h2]
        refine ev_iconst (v := 0) d_Scav_hasEntry_25 rfl ?_
        exact ev_zret (ty := .boolean) rfl rfl d_Scav_hasEntry_26
def f_Scav_hasEntry   (d : DS) (f : FS) (w : WS) (m : MS) (s : SS) (x1 : Int32) (x2 : Int32) (x3 : Int32) : Option (Int32 × Unit) :=
  L_Scav_hasEntry_3   100 d f w m s x1 x2 x3 0
theorem e_f_Scav_hasEntry {sc : Nat × (Nat → Int32)} {e0 : mn_E} {tl : List mn_E}    (d : DS) (f : FS) (w : WS) (m : MS) (s : SS) (x1 : Int32) (x2 : Int32) (x3 : Int32) : Ev sc 3 45 0 0 M_Scav_hasEntry 0 [(0, .ref 9), (1, .int x1), (2, .int x2), (3, .int x3)] [] (e0 :: (HD d (HF f (HW w (HM m (HS s tl)))))) (mapR ouI (fun z => (e0 :: (HD d (HF f (HW w (HM m (HS s tl))))))) (f_Scav_hasEntry d f w m s x1 x2 x3)) := by
  unfold f_Scav_hasEntry
  refine ev_iconst (v := 0) d_Scav_hasEntry_0 rfl ?_
  refine ev_istore d_Scav_hasEntry_1 (by decide) rfl ?_
  exact ev_pick [1, 2, 3, 4, 0] rfl (e_L_Scav_hasEntry_3     100 d f w m s x1 x2 x3 0)
def B_Scav_isListed_82  (r20 : DS → FS → WS → MS → SS → Int32 → Int32 → Int32 → Option (Int32 × Unit)) (d : DS) (f : FS) (w : WS) (m : MS) (s : SS) (x1 : Int32) (x2 : Int32) (x3 : Int32) : Option (Int32 × Unit) :=
  r20 d f w m s x1 x2 (x3 + 1)
theorem e_B_Scav_isListed_82 {sc : Nat × (Nat → Int32)} {e0 : mn_E} {tl : List mn_E}  (r20 : DS → FS → WS → MS → SS → Int32 → Int32 → Int32 → Option (Int32 × Unit)) (hr20 : ∀ (d : DS) (f : FS) (w : WS) (m : MS) (s : SS) (x1 : Int32) (x2 : Int32) (x3 : Int32), Ev sc 4 62 0 0 M_Scav_isListed 20 [(0, .ref 9), (1, .int x1), (2, .int x2), (3, .int x3)] [] (e0 :: (HD d (HF f (HW w (HM m (HS s tl)))))) (mapR ouI (fun z => (e0 :: (HD d (HF f (HW w (HM m (HS s tl))))))) (r20 d f w m s x1 x2 x3))) (d : DS) (f : FS) (w : WS) (m : MS) (s : SS) (x1 : Int32) (x2 : Int32) (x3 : Int32) : Ev sc 4 62 0 0 M_Scav_isListed 82 [(0, .ref 9), (1, .int x1), (2, .int x2), (3, .int x3)] [] (e0 :: (HD d (HF f (HW w (HM m (HS s tl)))))) (mapR ouI (fun z => (e0 :: (HD d (HF f (HW w (HM m (HS s tl))))))) (B_Scav_isListed_82 r20 d f w m s x1 x2 x3)) := by
  unfold B_Scav_isListed_82
  refine ev_iinc (v := (x3 + 1)) d_Scav_isListed_82 rfl rfl (by decide) rfl ?_
  refine ev_goto (tgt := 20) d_Scav_isListed_85 rfl ?_
  exact ev_pick [1, 2, 3, 0] rfl (hr20 d f w m s x1 x2 (x3 + 1))
def B_Scav_isListed_77  (r20 : DS → FS → WS → MS → SS → Int32 → Int32 → Int32 → Option (Int32 × Unit)) (d : DS) (f : FS) (w : WS) (m : MS) (s : SS) (x1 : Int32) (x2 : Int32) (x3 : Int32) (t0 : Int32) : Option (Int32 × Unit) :=
  if t0 = 0 then (B_Scav_isListed_82  r20 d f w m s x1 x2 x3) else (some (1, ()))
theorem e_B_Scav_isListed_77 {sc : Nat × (Nat → Int32)} {e0 : mn_E} {tl : List mn_E}  (r20 : DS → FS → WS → MS → SS → Int32 → Int32 → Int32 → Option (Int32 × Unit)) (hr20 : ∀ (d : DS) (f : FS) (w : WS) (m : MS) (s : SS) (x1 : Int32) (x2 : Int32) (x3 : Int32), Ev sc 4 62 0 0 M_Scav_isListed 20 [(0, .ref 9), (1, .int x1), (2, .int x2), (3, .int x3)] [] (e0 :: (HD d (HF f (HW w (HM m (HS s tl)))))) (mapR ouI (fun z => (e0 :: (HD d (HF f (HW w (HM m (HS s tl))))))) (r20 d f w m s x1 x2 x3))) (d : DS) (f : FS) (w : WS) (m : MS) (s : SS) (x1 : Int32) (x2 : Int32) (x3 : Int32) (t0 : Int32) : Ev sc 4 62 0 0 M_Scav_isListed 77 [(0, .ref 9), (1, .int x1), (2, .int x2), (3, .int x3)] [.int t0] (e0 :: (HD d (HF f (HW w (HM m (HS s tl)))))) (mapR ouI (fun z => (e0 :: (HD d (HF f (HW w (HM m (HS s tl))))))) (B_Scav_isListed_77 r20 d f w m s x1 x2 x3 t0)) := by
  unfold B_Scav_isListed_77
  refine ev_if_eq (tgt := 82) d_Scav_isListed_77 rfl (fun h1 => ?_) (fun h1 => ?_)
  · rw [if_pos h1]
    exact ev_pick [0, 1, 2, 3] rfl (e_B_Scav_isListed_82   r20 hr20 d f w m s x1 x2 x3)
  · rw [if_neg h1]
    refine ev_iconst (v := 1) d_Scav_isListed_80 rfl ?_
    exact ev_zret (ty := .boolean) rfl rfl d_Scav_isListed_81
def B_Scav_isListed_63  (r20 : DS → FS → WS → MS → SS → Int32 → Int32 → Int32 → Option (Int32 × Unit)) (d : DS) (f : FS) (w : WS) (m : MS) (s : SS) (x1 : Int32) (x2 : Int32) (x3 : Int32) (t0 : Int32) : Option (Int32 × Unit) :=
  if t0 = 0 then (B_Scav_isListed_82  r20 d f w m s x1 x2 x3) else (bnd (f_Scav_hasEntry d f w m s x3 x1 x2) (fun q => B_Scav_isListed_77  r20 d f w m s x1 x2 x3 q.1))
theorem e_B_Scav_isListed_63 {sc : Nat × (Nat → Int32)} {e0 : mn_E} {tl : List mn_E}  (r20 : DS → FS → WS → MS → SS → Int32 → Int32 → Int32 → Option (Int32 × Unit)) (hr20 : ∀ (d : DS) (f : FS) (w : WS) (m : MS) (s : SS) (x1 : Int32) (x2 : Int32) (x3 : Int32), Ev sc 4 62 0 0 M_Scav_isListed 20 [(0, .ref 9), (1, .int x1), (2, .int x2), (3, .int x3)] [] (e0 :: (HD d (HF f (HW w (HM m (HS s tl)))))) (mapR ouI (fun z => (e0 :: (HD d (HF f (HW w (HM m (HS s tl))))))) (r20 d f w m s x1 x2 x3))) (d : DS) (f : FS) (w : WS) (m : MS) (s : SS) (x1 : Int32) (x2 : Int32) (x3 : Int32) (t0 : Int32) : Ev sc 4 62 0 0 M_Scav_isListed 63 [(0, .ref 9), (1, .int x1), (2, .int x2), (3, .int x3)] [.int t0] (e0 :: (HD d (HF f (HW w (HM m (HS s tl)))))) (mapR ouI (fun z => (e0 :: (HD d (HF f (HW w (HM m (HS s tl))))))) (B_Scav_isListed_63 r20 d f w m s x1 x2 x3 t0)) := by
  unfold B_Scav_isListed_63
  refine ev_istore d_Scav_isListed_63 (by decide) rfl ?_
  refine ev_iload d_Scav_isListed_65 rfl ?_
  refine ev_if_eq (tgt := 82) d_Scav_isListed_67 rfl (fun h1 => ?_) (fun h1 => ?_)
  · rw [if_pos h1]
    exact ev_pick [1, 2, 3, 4] rfl (e_B_Scav_isListed_82   r20 hr20 d f w m s x1 x2 x3)
  · rw [if_neg h1]
    refine ev_aload_n d_Scav_isListed_70 rfl rfl ?_
    refine ev_iload_n d_Scav_isListed_71 rfl rfl ?_
    refine ev_iload_n d_Scav_isListed_72 rfl rfl ?_
    refine ev_iload_n d_Scav_isListed_73 rfl rfl ?_
    refine ev_callB (rc := (f_Scav_hasEntry d f w m s x3 x1 x2)) (ou := ouI) (Hs := (fun z => (e0 :: (HD d (HF f (HW w (HM m (HS s tl)))))))) (inv_V (q := 9) (av := [.int x3, .int x1, .int x2]) (rest := []) rfl (ci := 5) rfl d_Scav_isListed_74 gw_444 gw_446 gw_17 mw_Scav_hasEntry nh_Scav_hasEntry pn_Scav_hasEntry rfl) d_Scav_isListed_74 pl_Scav_hasEntry (Nat.le_of_ble_eq_true rfl) (Nat.le_of_ble_eq_true rfl) (Nat.le_of_ble_eq_true rfl) (e_f_Scav_hasEntry (e0 := e0) (tl := tl)  d f w m s x3 x1 x2) (fun _ => (len1 (lenHD (lenHF (lenHW (lenHM (lenHS rfl))))))) (fun v z h2 => ⟨_, rfl, ?_⟩)
    exact ev_pick [1, 2, 3, 4] rfl (e_B_Scav_isListed_77   r20 hr20 d f w m s x1 x2 x3 v)
def B_Scav_isListed_62  (r20 : DS → FS → WS → MS → SS → Int32 → Int32 → Int32 → Option (Int32 × Unit)) (d : DS) (f : FS) (w : WS) (m : MS) (s : SS) (x1 : Int32) (x2 : Int32) (x3 : Int32) : Option (Int32 × Unit) :=
  B_Scav_isListed_63  r20 d f w m s x1 x2 x3 0
theorem e_B_Scav_isListed_62 {sc : Nat × (Nat → Int32)} {e0 : mn_E} {tl : List mn_E}  (r20 : DS → FS → WS → MS → SS → Int32 → Int32 → Int32 → Option (Int32 × Unit)) (hr20 : ∀ (d : DS) (f : FS) (w : WS) (m : MS) (s : SS) (x1 : Int32) (x2 : Int32) (x3 : Int32), Ev sc 4 62 0 0 M_Scav_isListed 20 [(0, .ref 9), (1, .int x1), (2, .int x2), (3, .int x3)] [] (e0 :: (HD d (HF f (HW w (HM m (HS s tl)))))) (mapR ouI (fun z => (e0 :: (HD d (HF f (HW w (HM m (HS s tl))))))) (r20 d f w m s x1 x2 x3))) (d : DS) (f : FS) (w : WS) (m : MS) (s : SS) (x1 : Int32) (x2 : Int32) (x3 : Int32) : Ev sc 4 62 0 0 M_Scav_isListed 62 [(0, .ref 9), (1, .int x1), (2, .int x2), (3, .int x3)] [] (e0 :: (HD d (HF f (HW w (HM m (HS s tl)))))) (mapR ouI (fun z => (e0 :: (HD d (HF f (HW w (HM m (HS s tl))))))) (B_Scav_isListed_62 r20 d f w m s x1 x2 x3)) := by
  unfold B_Scav_isListed_62
  refine ev_iconst (v := 0) d_Scav_isListed_62 rfl ?_
  exact ev_pick [0, 1, 2, 3] rfl (e_B_Scav_isListed_63   r20 hr20 d f w m s x1 x2 x3 0)
def L_Scav_isListed_20   : Nat → DS → FS → WS → MS → SS → Int32 → Int32 → Int32 → Option (Int32 × Unit)
  | 0, _, _, _, _, _, _, _, _ => none
  | n + 1, d, f, w, m, s, x1, x2, x3 =>
  if 60 < x3 then (some (0, ())) else (if x3 = x1 then (B_Scav_isListed_62  (L_Scav_isListed_20 n) d f w m s x1 x2 x3) else (if ¬ ((f_Scav_isReached d f w m s x3).1) = 0 then (B_Scav_isListed_62  (L_Scav_isListed_20 n) d f w m s x1 x2 x3) else (if ((f_Disk_isDirectory d (xSearch d x3 0)).1) = 0 then (B_Scav_isListed_62  (L_Scav_isListed_20 n) d f w m s x1 x2 x3) else (B_Scav_isListed_63  (L_Scav_isListed_20 n) d f w m s x1 x2 x3 1))))
theorem e_L_Scav_isListed_20 {sc : Nat × (Nat → Int32)} {e0 : mn_E} {tl : List mn_E}    : ∀ (n : Nat) (d : DS) (f : FS) (w : WS) (m : MS) (s : SS) (x1 : Int32) (x2 : Int32) (x3 : Int32), Ev sc 4 62 0 0 M_Scav_isListed 20 [(0, .ref 9), (1, .int x1), (2, .int x2), (3, .int x3)] [] (e0 :: (HD d (HF f (HW w (HM m (HS s tl)))))) (mapR ouI (fun z => (e0 :: (HD d (HF f (HW w (HM m (HS s tl))))))) (L_Scav_isListed_20   n d f w m s x1 x2 x3)) := by
  intro n
  induction n with
  | zero => intro d f w m s x1 x2 x3; exact ev_none
  | succ n ih =>
    intro d f w m s x1 x2 x3
    rw [L_Scav_isListed_20]
    refine ev_iload_n d_Scav_isListed_20 rfl rfl ?_
    refine ev_bipush (v := 60) d_Scav_isListed_21 rfl ?_
    refine ev_icmp_gt (tgt := 88) d_Scav_isListed_23 rfl (fun h1 => ?_) (fun h1 => ?_)
    · rw [if_pos h1]
      refine ev_iconst (v := 0) d_Scav_isListed_88 rfl ?_
      exact ev_zret (ty := .boolean) rfl rfl d_Scav_isListed_89
    · rw [if_neg h1]
      refine ev_iload_n d_Scav_isListed_26 rfl rfl ?_
      refine ev_iload_n d_Scav_isListed_27 rfl rfl ?_
      refine ev_icmp_eq (tgt := 62) d_Scav_isListed_28 rfl (fun h2 => ?_) (fun h2 => ?_)
      · rw [if_pos h2]
        exact ev_pick [0, 1, 2, 3] rfl (e_B_Scav_isListed_62   (L_Scav_isListed_20 n) ih d f w m s x1 x2 x3)
      · rw [if_neg h2]
        refine ev_aload_n d_Scav_isListed_31 rfl rfl ?_
        refine ev_iload_n d_Scav_isListed_32 rfl rfl ?_
        refine ev_callr (Mc := M_Scav_isReached) (v := some (.int ((f_Scav_isReached d f w m s x3).1))) (h1 := (e0 :: (HD d (HF f (HW w (HM m (HS s tl))))))) (k2 := 0) (n2 := 0) (inv_V (q := 9) (av := [.int x3]) (rest := []) rfl (ci := 5) rfl d_Scav_isListed_33 gw_415 gw_417 gw_13 mw_Scav_isReached nh_Scav_isReached pn_Scav_isReached rfl) d_Scav_isListed_33 pl_Scav_isReached (Nat.le_of_ble_eq_true rfl) (Nat.le_of_ble_eq_true rfl) (Nat.le_of_ble_eq_true rfl) rfl rfl (e_f_Scav_isReached (e0 := e0) (tl := tl)  d f w m s x3) (Or.inl (len1 (lenHD (lenHF (lenHW (lenHM (lenHS rfl))))))) ?_
        refine ev_if_ne (tgt := 62) d_Scav_isListed_36 rfl (fun h3 => ?_) (fun h3 => ?_)
        · rw [if_pos h3]
          exact ev_pick [0, 1, 2, 3] rfl (e_B_Scav_isListed_62   (L_Scav_isListed_20 n) ih d f w m s x1 x2 x3)
        · rw [if_neg h3]
          refine ev_aload_n d_Scav_isListed_39 rfl rfl ?_
          refine ev_get (v := .ref 1) gi_Scav (ci := 5) rfl rfl 0 (by decide) gw_268 rfl d_Scav_isListed_40 ?_
          refine ev_aload_n d_Scav_isListed_43 rfl rfl ?_
          refine ev_get (v := .ref 1) gi_Scav (ci := 5) rfl rfl 0 (by decide) gw_268 rfl d_Scav_isListed_44 ?_
          refine ev_iload_n d_Scav_isListed_47 rfl rfl ?_
          refine ev_iconst (v := 0) d_Scav_isListed_48 rfl ?_
          refine ev_callr (Mc := M_Disk_search) (v := some (.int (xSearch d x3 0))) (h1 := (e0 :: (HD d (HF f (HW w (HM m (HS s tl))))))) (k2 := 0) (n2 := 0) (inv_V (q := 1) (av := [.int x3, .int 0]) (rest := [.ref 1]) rfl (ci := 1) rfl d_Scav_isListed_49 gw_349 gw_350 gw_351 mw_Disk_search nh_Disk_search pn_Disk_search rfl) d_Scav_isListed_49 pl_Disk_search (Nat.le_of_ble_eq_true rfl) (Nat.le_of_ble_eq_true rfl) (Nat.le_of_ble_eq_true rfl) rfl rfl (c_Disk_search (e0 := e0) (tl := (HF f (HW w (HM m (HS s tl)))))  d x3 0) (Or.inl (len1 (lenHD (lenHF (lenHW (lenHM (lenHS rfl))))))) ?_
          refine ev_callr (Mc := M_Disk_isDirectory) (v := some (.int ((f_Disk_isDirectory d (xSearch d x3 0)).1))) (h1 := (e0 :: (HD d (HF f (HW w (HM m (HS s tl))))))) (k2 := 0) (n2 := 0) (inv_V (q := 1) (av := [.int (xSearch d x3 0)]) (rest := []) rfl (ci := 1) rfl d_Scav_isListed_52 gw_431 gw_432 gw_433 mw_Disk_isDirectory nh_Disk_isDirectory pn_Disk_isDirectory rfl) d_Scav_isListed_52 pl_Disk_isDirectory (Nat.le_of_ble_eq_true rfl) (Nat.le_of_ble_eq_true rfl) (Nat.le_of_ble_eq_true rfl) rfl rfl (e_f_Disk_isDirectory (e0 := e0) (tl := (HF f (HW w (HM m (HS s tl)))))  d (xSearch d x3 0)) (Or.inl (len1 (lenHD (lenHF (lenHW (lenHM (lenHS rfl))))))) ?_
          refine ev_if_eq (tgt := 62) d_Scav_isListed_55 rfl (fun h4 => ?_) (fun h4 => ?_)
          · rw [if_pos h4]
            exact ev_pick [0, 1, 2, 3] rfl (e_B_Scav_isListed_62   (L_Scav_isListed_20 n) ih d f w m s x1 x2 x3)
          · rw [if_neg h4]
            refine ev_iconst (v := 1) d_Scav_isListed_58 rfl ?_
            refine ev_goto (tgt := 63) d_Scav_isListed_59 rfl ?_
            exact ev_pick [0, 1, 2, 3] rfl (e_B_Scav_isListed_63   (L_Scav_isListed_20 n) ih d f w m s x1 x2 x3 1)
def f_Scav_isListed   (d : DS) (f : FS) (w : WS) (m : MS) (s : SS) (x1 : Int32) : Option (Int32 × Unit) :=
  L_Scav_isListed_20   100 d f w m s x1 ((f_Disk_nameAt d (xSearch d x1 0) 0).1) 3
theorem e_f_Scav_isListed {sc : Nat × (Nat → Int32)} {e0 : mn_E} {tl : List mn_E}    (d : DS) (f : FS) (w : WS) (m : MS) (s : SS) (x1 : Int32) : Ev sc 4 62 0 0 M_Scav_isListed 0 [(0, .ref 9), (1, .int x1)] [] (e0 :: (HD d (HF f (HW w (HM m (HS s tl)))))) (mapR ouI (fun z => (e0 :: (HD d (HF f (HW w (HM m (HS s tl))))))) (f_Scav_isListed d f w m s x1)) := by
  unfold f_Scav_isListed
  refine ev_aload_n d_Scav_isListed_0 rfl rfl ?_
  refine ev_get (v := .ref 1) gi_Scav (ci := 5) rfl rfl 0 (by decide) gw_268 rfl d_Scav_isListed_1 ?_
  refine ev_aload_n d_Scav_isListed_4 rfl rfl ?_
  refine ev_get (v := .ref 1) gi_Scav (ci := 5) rfl rfl 0 (by decide) gw_268 rfl d_Scav_isListed_5 ?_
  refine ev_iload_n d_Scav_isListed_8 rfl rfl ?_
  refine ev_iconst (v := 0) d_Scav_isListed_9 rfl ?_
  refine ev_callr (Mc := M_Disk_search) (v := some (.int (xSearch d x1 0))) (h1 := (e0 :: (HD d (HF f (HW w (HM m (HS s tl))))))) (k2 := 0) (n2 := 0) (inv_V (q := 1) (av := [.int x1, .int 0]) (rest := [.ref 1]) rfl (ci := 1) rfl d_Scav_isListed_10 gw_349 gw_350 gw_351 mw_Disk_search nh_Disk_search pn_Disk_search rfl) d_Scav_isListed_10 pl_Disk_search (Nat.le_of_ble_eq_true rfl) (Nat.le_of_ble_eq_true rfl) (Nat.le_of_ble_eq_true rfl) rfl rfl (c_Disk_search (e0 := e0) (tl := (HF f (HW w (HM m (HS s tl)))))  d x1 0) (Or.inl (len1 (lenHD (lenHF (lenHW (lenHM (lenHS rfl))))))) ?_
  refine ev_iconst (v := 0) d_Scav_isListed_13 rfl ?_
  refine ev_callr (Mc := M_Disk_nameAt) (v := some (.int ((f_Disk_nameAt d (xSearch d x1 0) 0).1))) (h1 := (e0 :: (HD d (HF f (HW w (HM m (HS s tl))))))) (k2 := 0) (n2 := 0) (inv_V (q := 1) (av := [.int (xSearch d x1 0), .int 0]) (rest := []) rfl (ci := 1) rfl d_Scav_isListed_14 gw_419 gw_420 gw_421 mw_Disk_nameAt nh_Disk_nameAt pn_Disk_nameAt rfl) d_Scav_isListed_14 pl_Disk_nameAt (Nat.le_of_ble_eq_true rfl) (Nat.le_of_ble_eq_true rfl) (Nat.le_of_ble_eq_true rfl) rfl rfl (e_f_Disk_nameAt (e0 := e0) (tl := (HF f (HW w (HM m (HS s tl)))))  d (xSearch d x1 0) 0) (Or.inl (len1 (lenHD (lenHF (lenHW (lenHM (lenHS rfl))))))) ?_
  refine ev_istore_n d_Scav_isListed_17 rfl (by decide) rfl ?_
  refine ev_iconst (v := 3) d_Scav_isListed_18 rfl ?_
  refine ev_istore_n d_Scav_isListed_19 rfl (by decide) rfl ?_
  exact ev_pick [2, 3, 1, 0] rfl (e_L_Scav_isListed_20     100 d f w m s x1 ((f_Disk_nameAt d (xSearch d x1 0) 0).1) 3)
def B_Scav_nextToAdopt_50  (r4 : DS → FS → WS → MS → SS → Int32 → Int32 → Option (Int32 × Unit)) (d : DS) (f : FS) (w : WS) (m : MS) (s : SS) (x1 : Int32) (x2 : Int32) : Option (Int32 × Unit) :=
  r4 d f w m s x1 (x2 + 1)
theorem e_B_Scav_nextToAdopt_50 {sc : Nat × (Nat → Int32)} {e0 : mn_E} {tl : List mn_E}  (r4 : DS → FS → WS → MS → SS → Int32 → Int32 → Option (Int32 × Unit)) (hr4 : ∀ (d : DS) (f : FS) (w : WS) (m : MS) (s : SS) (x1 : Int32) (x2 : Int32), Ev sc 5 78 0 0 M_Scav_nextToAdopt 4 [(0, .ref 9), (1, .int x1), (2, .int x2)] [] (e0 :: (HD d (HF f (HW w (HM m (HS s tl)))))) (mapR ouI (fun z => (e0 :: (HD d (HF f (HW w (HM m (HS s tl))))))) (r4 d f w m s x1 x2))) (d : DS) (f : FS) (w : WS) (m : MS) (s : SS) (x1 : Int32) (x2 : Int32) : Ev sc 5 78 0 0 M_Scav_nextToAdopt 50 [(0, .ref 9), (1, .int x1), (2, .int x2)] [] (e0 :: (HD d (HF f (HW w (HM m (HS s tl)))))) (mapR ouI (fun z => (e0 :: (HD d (HF f (HW w (HM m (HS s tl))))))) (B_Scav_nextToAdopt_50 r4 d f w m s x1 x2)) := by
  unfold B_Scav_nextToAdopt_50
  refine ev_iinc (v := (x2 + 1)) d_Scav_nextToAdopt_50 rfl rfl (by decide) rfl ?_
  refine ev_goto (tgt := 4) d_Scav_nextToAdopt_53 rfl ?_
  exact ev_pick [1, 2, 0] rfl (hr4 d f w m s x1 (x2 + 1))
def B_Scav_nextToAdopt_49  (r4 : DS → FS → WS → MS → SS → Int32 → Int32 → Option (Int32 × Unit)) (d : DS) (f : FS) (w : WS) (m : MS) (s : SS) (x2 : Int32) (t0 : Int32) : Option (Int32 × Unit) :=
  B_Scav_nextToAdopt_50  r4 d f w m s t0 x2
theorem e_B_Scav_nextToAdopt_49 {sc : Nat × (Nat → Int32)} {e0 : mn_E} {tl : List mn_E}  (r4 : DS → FS → WS → MS → SS → Int32 → Int32 → Option (Int32 × Unit)) (hr4 : ∀ (d : DS) (f : FS) (w : WS) (m : MS) (s : SS) (x1 : Int32) (x2 : Int32), Ev sc 5 78 0 0 M_Scav_nextToAdopt 4 [(0, .ref 9), (1, .int x1), (2, .int x2)] [] (e0 :: (HD d (HF f (HW w (HM m (HS s tl)))))) (mapR ouI (fun z => (e0 :: (HD d (HF f (HW w (HM m (HS s tl))))))) (r4 d f w m s x1 x2))) (d : DS) (f : FS) (w : WS) (m : MS) (s : SS) (x2 : Int32) (t0 : Int32) : Ev sc 5 78 0 0 M_Scav_nextToAdopt 49 [(0, .ref 9), (2, .int x2)] [.int t0] (e0 :: (HD d (HF f (HW w (HM m (HS s tl)))))) (mapR ouI (fun z => (e0 :: (HD d (HF f (HW w (HM m (HS s tl))))))) (B_Scav_nextToAdopt_49 r4 d f w m s x2 t0)) := by
  unfold B_Scav_nextToAdopt_49
  refine ev_istore_n d_Scav_nextToAdopt_49 rfl (by decide) rfl ?_
  exact ev_pick [1, 0, 2] rfl (e_B_Scav_nextToAdopt_50   r4 hr4 d f w m s t0 x2)
def B_Scav_nextToAdopt_34  (r4 : DS → FS → WS → MS → SS → Int32 → Int32 → Option (Int32 × Unit)) (d : DS) (f : FS) (w : WS) (m : MS) (s : SS) (x1 : Int32) (x2 : Int32) (t0 : Int32) : Option (Int32 × Unit) :=
  if ¬ t0 = 0 then (if ¬ x1 = (-1) then (B_Scav_nextToAdopt_49  r4 d f w m s x2 x1) else (B_Scav_nextToAdopt_49  r4 d f w m s x2 x2)) else (some (x2, ()))
theorem e_B_Scav_nextToAdopt_34 {sc : Nat × (Nat → Int32)} {e0 : mn_E} {tl : List mn_E}  (r4 : DS → FS → WS → MS → SS → Int32 → Int32 → Option (Int32 × Unit)) (hr4 : ∀ (d : DS) (f : FS) (w : WS) (m : MS) (s : SS) (x1 : Int32) (x2 : Int32), Ev sc 5 78 0 0 M_Scav_nextToAdopt 4 [(0, .ref 9), (1, .int x1), (2, .int x2)] [] (e0 :: (HD d (HF f (HW w (HM m (HS s tl)))))) (mapR ouI (fun z => (e0 :: (HD d (HF f (HW w (HM m (HS s tl))))))) (r4 d f w m s x1 x2))) (d : DS) (f : FS) (w : WS) (m : MS) (s : SS) (x1 : Int32) (x2 : Int32) (t0 : Int32) : Ev sc 5 78 0 0 M_Scav_nextToAdopt 34 [(0, .ref 9), (1, .int x1), (2, .int x2)] [.int t0] (e0 :: (HD d (HF f (HW w (HM m (HS s tl)))))) (mapR ouI (fun z => (e0 :: (HD d (HF f (HW w (HM m (HS s tl))))))) (B_Scav_nextToAdopt_34 r4 d f w m s x1 x2 t0)) := by
  unfold B_Scav_nextToAdopt_34
  refine ev_if_ne (tgt := 39) d_Scav_nextToAdopt_34 rfl (fun h1 => ?_) (fun h1 => ?_)
  · rw [if_pos h1]
    refine ev_iload_n d_Scav_nextToAdopt_39 rfl rfl ?_
    refine ev_iconst (v := -1) d_Scav_nextToAdopt_40 rfl ?_
    refine ev_icmp_ne (tgt := 48) d_Scav_nextToAdopt_41 rfl (fun h2 => ?_) (fun h2 => ?_)
    · rw [if_pos h2]
      refine ev_iload_n d_Scav_nextToAdopt_48 rfl rfl ?_
      exact ev_pick [0, 2] rfl (e_B_Scav_nextToAdopt_49   r4 hr4 d f w m s x2 x1)
    · rw [if_neg h2]
      refine ev_iload_n d_Scav_nextToAdopt_44 rfl rfl ?_
      refine ev_goto (tgt := 49) d_Scav_nextToAdopt_45 rfl ?_
      exact ev_pick [0, 2] rfl (e_B_Scav_nextToAdopt_49   r4 hr4 d f w m s x2 x2)
  · rw [if_neg h1]
    refine ev_iload_n d_Scav_nextToAdopt_37 rfl rfl ?_
    exact ev_zret (ty := .int) rfl rfl d_Scav_nextToAdopt_38
def L_Scav_nextToAdopt_4   : Nat → DS → FS → WS → MS → SS → Int32 → Int32 → Option (Int32 × Unit)
  | 0, _, _, _, _, _, _, _ => none
  | n + 1, d, f, w, m, s, x1, x2 =>
  if 60 < x2 then (some (x1, ())) else (if ¬ ((f_Scav_isReached d f w m s x2).1) = 0 then (B_Scav_nextToAdopt_50  (L_Scav_nextToAdopt_4 n) d f w m s x1 x2) else (if ¬ ((f_Scav_isThere d f w m s x2).1) = 0 then (bnd (f_Scav_isListed d f w m s x2) (fun q => B_Scav_nextToAdopt_34  (L_Scav_nextToAdopt_4 n) d f w m s x1 x2 q.1)) else (B_Scav_nextToAdopt_50  (L_Scav_nextToAdopt_4 n) d f w m s x1 x2)))
theorem e_L_Scav_nextToAdopt_4 {sc : Nat × (Nat → Int32)} {e0 : mn_E} {tl : List mn_E}    : ∀ (n : Nat) (d : DS) (f : FS) (w : WS) (m : MS) (s : SS) (x1 : Int32) (x2 : Int32), Ev sc 5 78 0 0 M_Scav_nextToAdopt 4 [(0, .ref 9), (1, .int x1), (2, .int x2)] [] (e0 :: (HD d (HF f (HW w (HM m (HS s tl)))))) (mapR ouI (fun z => (e0 :: (HD d (HF f (HW w (HM m (HS s tl))))))) (L_Scav_nextToAdopt_4   n d f w m s x1 x2)) := by
  intro n
  induction n with
  | zero => intro d f w m s x1 x2; exact ev_none
  | succ n ih =>
    intro d f w m s x1 x2
    rw [L_Scav_nextToAdopt_4]
    refine ev_iload_n d_Scav_nextToAdopt_4 rfl rfl ?_
    refine ev_bipush (v := 60) d_Scav_nextToAdopt_5 rfl ?_
    refine ev_icmp_gt (tgt := 56) d_Scav_nextToAdopt_7 rfl (fun h1 => ?_) (fun h1 => ?_)
    · rw [if_pos h1]
      refine ev_iload_n d_Scav_nextToAdopt_56 rfl rfl ?_
      exact ev_zret (ty := .int) rfl rfl d_Scav_nextToAdopt_57
    · rw [if_neg h1]
      refine ev_aload_n d_Scav_nextToAdopt_10 rfl rfl ?_
      refine ev_iload_n d_Scav_nextToAdopt_11 rfl rfl ?_
      refine ev_callr (Mc := M_Scav_isReached) (v := some (.int ((f_Scav_isReached d f w m s x2).1))) (h1 := (e0 :: (HD d (HF f (HW w (HM m (HS s tl))))))) (k2 := 0) (n2 := 0) (inv_V (q := 9) (av := [.int x2]) (rest := []) rfl (ci := 5) rfl d_Scav_nextToAdopt_12 gw_415 gw_417 gw_13 mw_Scav_isReached nh_Scav_isReached pn_Scav_isReached rfl) d_Scav_nextToAdopt_12 pl_Scav_isReached (Nat.le_of_ble_eq_true rfl) (Nat.le_of_ble_eq_true rfl) (Nat.le_of_ble_eq_true rfl) rfl rfl (e_f_Scav_isReached (e0 := e0) (tl := tl)  d f w m s x2) (Or.inl (len1 (lenHD (lenHF (lenHW (lenHM (lenHS rfl))))))) ?_
      refine ev_if_ne (tgt := 50) d_Scav_nextToAdopt_15 rfl (fun h2 => ?_) (fun h2 => ?_)
      · rw [if_pos h2]
        exact ev_pick [0, 1, 2] rfl (e_B_Scav_nextToAdopt_50   (L_Scav_nextToAdopt_4 n) ih d f w m s x1 x2)
      · rw [if_neg h2]
        refine ev_aload_n d_Scav_nextToAdopt_18 rfl rfl ?_
        refine ev_iload_n d_Scav_nextToAdopt_19 rfl rfl ?_
        refine ev_callr (Mc := M_Scav_isThere) (v := some (.int ((f_Scav_isThere d f w m s x2).1))) (h1 := (e0 :: (HD d (HF f (HW w (HM m (HS s tl))))))) (k2 := 0) (n2 := 0) (inv_V (q := 9) (av := [.int x2]) (rest := []) rfl (ci := 5) rfl d_Scav_nextToAdopt_20 gw_345 gw_347 gw_2 mw_Scav_isThere nh_Scav_isThere pn_Scav_isThere rfl) d_Scav_nextToAdopt_20 pl_Scav_isThere (Nat.le_of_ble_eq_true rfl) (Nat.le_of_ble_eq_true rfl) (Nat.le_of_ble_eq_true rfl) rfl rfl (e_f_Scav_isThere (e0 := e0) (tl := tl)  d f w m s x2) (Or.inl (len1 (lenHD (lenHF (lenHW (lenHM (lenHS rfl))))))) ?_
        refine ev_if_ne (tgt := 29) d_Scav_nextToAdopt_23 rfl (fun h3 => ?_) (fun h3 => ?_)
        · rw [if_pos h3]
          refine ev_aload_n d_Scav_nextToAdopt_29 rfl rfl ?_
          refine ev_iload_n d_Scav_nextToAdopt_30 rfl rfl ?_
          refine ev_callB (rc := (f_Scav_isListed d f w m s x2)) (ou := ouI) (Hs := (fun z => (e0 :: (HD d (HF f (HW w (HM m (HS s tl)))))))) (inv_V (q := 9) (av := [.int x2]) (rest := []) rfl (ci := 5) rfl d_Scav_nextToAdopt_31 gw_440 gw_442 gw_16 mw_Scav_isListed nh_Scav_isListed pn_Scav_isListed rfl) d_Scav_nextToAdopt_31 pl_Scav_isListed (Nat.le_of_ble_eq_true rfl) (Nat.le_of_ble_eq_true rfl) (Nat.le_of_ble_eq_true rfl) (e_f_Scav_isListed (e0 := e0) (tl := tl)  d f w m s x2) (fun _ => (len1 (lenHD (lenHF (lenHW (lenHM (lenHS rfl))))))) (fun v z h4 => ⟨_, rfl, ?_⟩)
          exact ev_pick [0, 1, 2] rfl (e_B_Scav_nextToAdopt_34   (L_Scav_nextToAdopt_4 n) ih d f w m s x1 x2 v)
        · rw [if_neg h3]
          refine ev_goto (tgt := 50) d_Scav_nextToAdopt_26 rfl ?_
          exact ev_pick [0, 1, 2] rfl (e_B_Scav_nextToAdopt_50   (L_Scav_nextToAdopt_4 n) ih d f w m s x1 x2)
def f_Scav_nextToAdopt   (d : DS) (f : FS) (w : WS) (m : MS) (s : SS) : Option (Int32 × Unit) :=
  L_Scav_nextToAdopt_4   100 d f w m s (-1) 3
theorem e_f_Scav_nextToAdopt {sc : Nat × (Nat → Int32)} {e0 : mn_E} {tl : List mn_E}    (d : DS) (f : FS) (w : WS) (m : MS) (s : SS) : Ev sc 5 78 0 0 M_Scav_nextToAdopt 0 [(0, .ref 9)] [] (e0 :: (HD d (HF f (HW w (HM m (HS s tl)))))) (mapR ouI (fun z => (e0 :: (HD d (HF f (HW w (HM m (HS s tl))))))) (f_Scav_nextToAdopt d f w m s)) := by
  unfold f_Scav_nextToAdopt
  refine ev_iconst (v := -1) d_Scav_nextToAdopt_0 rfl ?_
  refine ev_istore_n d_Scav_nextToAdopt_1 rfl (by decide) rfl ?_
  refine ev_iconst (v := 3) d_Scav_nextToAdopt_2 rfl ?_
  refine ev_istore_n d_Scav_nextToAdopt_3 rfl (by decide) rfl ?_
  exact ev_pick [2, 1, 0] rfl (e_L_Scav_nextToAdopt_4     100 d f w m s (-1) 3)
def L_Scav_rootHasName_2   : Nat → DS → FS → WS → MS → SS → Int32 → Int32 → Option (Int32 × Unit)
  | 0, _, _, _, _, _, _, _ => none
  | n + 1, d, f, w, m, s, x1, x2 =>
  if 80 ≤ x2 then (some (0, ())) else (if ¬ ((f_Scav_entryPlace d f w m s 1 x2).1) = (-1) then (if ¬ ((f_Scav_nameAt d f w m s ((f_Scav_entryPlace d f w m s 1 x2).1)).1) = x1 then ((L_Scav_rootHasName_2 n) d f w m s x1 (x2 + 1)) else (some (1, ()))) else (some (0, ())))
theorem e_L_Scav_rootHasName_2 {sc : Nat × (Nat → Int32)} {e0 : mn_E} {tl : List mn_E}    : ∀ (n : Nat) (d : DS) (f : FS) (w : WS) (m : MS) (s : SS) (x1 : Int32) (x2 : Int32), Ev sc 3 45 0 0 M_Scav_rootHasName 2 [(0, .ref 9), (1, .int x1), (2, .int x2)] [] (e0 :: (HD d (HF f (HW w (HM m (HS s tl)))))) (mapR ouI (fun z => (e0 :: (HD d (HF f (HW w (HM m (HS s tl))))))) (L_Scav_rootHasName_2   n d f w m s x1 x2)) := by
  intro n
  induction n with
  | zero => intro d f w m s x1 x2; exact ev_none
  | succ n ih =>
    intro d f w m s x1 x2
    rw [L_Scav_rootHasName_2]
    refine ev_iload_n d_Scav_rootHasName_2 rfl rfl ?_
    refine ev_bipush (v := 80) d_Scav_rootHasName_3 rfl ?_
    refine ev_icmp_ge (tgt := 39) d_Scav_rootHasName_5 rfl (fun h1 => ?_) (fun h1 => ?_)
    · rw [if_pos h1]
      refine ev_iconst (v := 0) d_Scav_rootHasName_39 rfl ?_
      exact ev_zret (ty := .boolean) rfl rfl d_Scav_rootHasName_40
    · rw [if_neg h1]
      refine ev_aload_n d_Scav_rootHasName_8 rfl rfl ?_
      refine ev_iconst (v := 1) d_Scav_rootHasName_9 rfl ?_
      refine ev_iload_n d_Scav_rootHasName_10 rfl rfl ?_
      refine ev_callr (Mc := M_Scav_entryPlace) (v := some (.int ((f_Scav_entryPlace d f w m s 1 x2).1))) (h1 := (e0 :: (HD d (HF f (HW w (HM m (HS s tl))))))) (k2 := 0) (n2 := 0) (inv_V (q := 9) (av := [.int 1, .int x2]) (rest := []) rfl (ci := 5) rfl d_Scav_rootHasName_11 gw_395 gw_397 gw_10 mw_Scav_entryPlace nh_Scav_entryPlace pn_Scav_entryPlace rfl) d_Scav_rootHasName_11 pl_Scav_entryPlace (Nat.le_of_ble_eq_true rfl) (Nat.le_of_ble_eq_true rfl) (Nat.le_of_ble_eq_true rfl) rfl rfl (e_f_Scav_entryPlace (e0 := e0) (tl := tl)  d f w m s 1 x2) (Or.inl (len1 (lenHD (lenHF (lenHW (lenHM (lenHS rfl))))))) ?_
      refine ev_istore_n d_Scav_rootHasName_14 rfl (by decide) rfl ?_
      refine ev_iload_n d_Scav_rootHasName_15 rfl rfl ?_
      refine ev_iconst (v := -1) d_Scav_rootHasName_16 rfl ?_
      refine ev_icmp_ne (tgt := 22) d_Scav_rootHasName_17 rfl (fun h2 => ?_) (fun h2 => ?_)
      · rw [if_pos h2]
        refine ev_aload_n d_Scav_rootHasName_22 rfl rfl ?_
        refine ev_iload_n d_Scav_rootHasName_23 rfl rfl ?_
        refine ev_callr (Mc := M_Scav_nameAt) (v := some (.int ((f_Scav_nameAt d f w m s ((f_Scav_entryPlace d f w m s 1 x2).1)).1))) (h1 := (e0 :: (HD d (HF f (HW w (HM m (HS s tl))))))) (k2 := 0) (n2 := 0) (inv_V (q := 9) (av := [.int ((f_Scav_entryPlace d f w m s 1 x2).1)]) (rest := []) rfl (ci := 5) rfl d_Scav_rootHasName_24 gw_423 gw_425 gw_14 mw_Scav_nameAt nh_Scav_nameAt pn_Scav_nameAt rfl) d_Scav_rootHasName_24 pl_Scav_nameAt (Nat.le_of_ble_eq_true rfl) (Nat.le_of_ble_eq_true rfl) (Nat.le_of_ble_eq_true rfl) rfl rfl (e_f_Scav_nameAt (e0 := e0) (tl := tl)  d f w m s ((f_Scav_entryPlace d f w m s 1 x2).1)) (Or.inl (len1 (lenHD (lenHF (lenHW (lenHM (lenHS rfl))))))) ?_
        refine ev_iload_n d_Scav_rootHasName_27 rfl rfl ?_
        refine ev_icmp_ne (tgt := 33) d_Scav_rootHasName_28 rfl (fun h3 => ?_) (fun h3 => ?_)
        · rw [if_pos h3]
          refine ev_iinc (v := (x2 + 1)) d_Scav_rootHasName_33 rfl rfl (by decide) rfl ?_
          refine ev_goto (tgt := 2) d_Scav_rootHasName_36 rfl ?_
          exact ev_pick [2, 3, 0] rfl (ih d f w m s x1 (x2 + 1))
        · rw [if_neg h3]
          refine ev_iconst (v := 1) d_Scav_rootHasName_31 rfl ?_
          exact ev_zret (ty := .boolean) rfl rfl d_Scav_rootHasName_32
      · rw [if_neg h2]
        refine ev_iconst (v := 0) d_Scav_rootHasName_20 rfl ?_
        exact ev_zret (ty := .boolean) rfl rfl d_Scav_rootHasName_21
def f_Scav_rootHasName   (d : DS) (f : FS) (w : WS) (m : MS) (s : SS) (x1 : Int32) : Option (Int32 × Unit) :=
  L_Scav_rootHasName_2   100 d f w m s x1 0
theorem e_f_Scav_rootHasName {sc : Nat × (Nat → Int32)} {e0 : mn_E} {tl : List mn_E}    (d : DS) (f : FS) (w : WS) (m : MS) (s : SS) (x1 : Int32) : Ev sc 3 45 0 0 M_Scav_rootHasName 0 [(0, .ref 9), (1, .int x1)] [] (e0 :: (HD d (HF f (HW w (HM m (HS s tl)))))) (mapR ouI (fun z => (e0 :: (HD d (HF f (HW w (HM m (HS s tl))))))) (f_Scav_rootHasName d f w m s x1)) := by
  unfold f_Scav_rootHasName
  refine ev_iconst (v := 0) d_Scav_rootHasName_0 rfl ?_
  refine ev_istore_n d_Scav_rootHasName_1 rfl (by decide) rfl ?_
  exact ev_pick [1, 2, 0] rfl (e_L_Scav_rootHasName_2     100 d f w m s x1 0)
def L_Scav_lastKept_12   : Nat → DS → FS → WS → MS → SS → Int32 → Int32 → Int32 → Option (Int32 × Unit)
  | 0, _, _, _, _, _, _, _, _ => none
  | n + 1, d, f, w, m, s, x1, x2, x3 =>
  if 40 ≤ x3 then (some (x2, ())) else (if ¬ (xSearch d x1 x3) = (-1) then ((L_Scav_lastKept_12 n) d f w m s x1 (xSearch d x1 x3) (x3 + 1)) else (some (x2, ())))
theorem e_L_Scav_lastKept_12 {sc : Nat × (Nat → Int32)} {e0 : mn_E} {tl : List mn_E}    : ∀ (n : Nat) (d : DS) (f : FS) (w : WS) (m : MS) (s : SS) (x1 : Int32) (x2 : Int32) (x3 : Int32), Ev sc 2 30 0 0 M_Scav_lastKept 12 [(0, .ref 9), (1, .int x1), (2, .int x2), (3, .int x3)] [] (e0 :: (HD d (HF f (HW w (HM m (HS s tl)))))) (mapR ouI (fun z => (e0 :: (HD d (HF f (HW w (HM m (HS s tl))))))) (L_Scav_lastKept_12   n d f w m s x1 x2 x3)) := by
  intro n
  induction n with
  | zero => intro d f w m s x1 x2 x3; exact ev_none
  | succ n ih =>
    intro d f w m s x1 x2 x3
    rw [L_Scav_lastKept_12]
    refine ev_iload_n d_Scav_lastKept_12 rfl rfl ?_
    refine ev_bipush (v := 40) d_Scav_lastKept_13 rfl ?_
    refine ev_icmp_ge (tgt := 46) d_Scav_lastKept_15 rfl (fun h1 => ?_) (fun h1 => ?_)
    · rw [if_pos h1]
      refine ev_iload_n d_Scav_lastKept_46 rfl rfl ?_
      exact ev_zret (ty := .int) rfl rfl d_Scav_lastKept_47
    · rw [if_neg h1]
      refine ev_aload_n d_Scav_lastKept_18 rfl rfl ?_
      refine ev_get (v := .ref 1) gi_Scav (ci := 5) rfl rfl 0 (by decide) gw_268 rfl d_Scav_lastKept_19 ?_
      refine ev_iload_n d_Scav_lastKept_22 rfl rfl ?_
      refine ev_iload_n d_Scav_lastKept_23 rfl rfl ?_
      refine ev_callr (Mc := M_Disk_search) (v := some (.int (xSearch d x1 x3))) (h1 := (e0 :: (HD d (HF f (HW w (HM m (HS s tl))))))) (k2 := 0) (n2 := 0) (inv_V (q := 1) (av := [.int x1, .int x3]) (rest := []) rfl (ci := 1) rfl d_Scav_lastKept_24 gw_349 gw_350 gw_351 mw_Disk_search nh_Disk_search pn_Disk_search rfl) d_Scav_lastKept_24 pl_Disk_search (Nat.le_of_ble_eq_true rfl) (Nat.le_of_ble_eq_true rfl) (Nat.le_of_ble_eq_true rfl) rfl rfl (c_Disk_search (e0 := e0) (tl := (HF f (HW w (HM m (HS s tl)))))  d x1 x3) (Or.inl (len1 (lenHD (lenHF (lenHW (lenHM (lenHS rfl))))))) ?_
      refine ev_istore d_Scav_lastKept_27 (by decide) rfl ?_
      refine ev_iload d_Scav_lastKept_29 rfl ?_
      refine ev_iconst (v := -1) d_Scav_lastKept_31 rfl ?_
      refine ev_icmp_ne (tgt := 37) d_Scav_lastKept_32 rfl (fun h2 => ?_) (fun h2 => ?_)
      · rw [if_pos h2]
        refine ev_iload d_Scav_lastKept_37 rfl ?_
        refine ev_istore_n d_Scav_lastKept_39 rfl (by decide) rfl ?_
        refine ev_iinc (v := (x3 + 1)) d_Scav_lastKept_40 rfl rfl (by decide) rfl ?_
        refine ev_goto (tgt := 12) d_Scav_lastKept_43 rfl ?_
        exact ev_pick [3, 4, 1, 0] rfl (ih d f w m s x1 (xSearch d x1 x3) (x3 + 1))
      · rw [if_neg h2]
        refine ev_iload_n d_Scav_lastKept_35 rfl rfl ?_
        exact ev_zret (ty := .int) rfl rfl d_Scav_lastKept_36
def f_Scav_lastKept   (d : DS) (f : FS) (w : WS) (m : MS) (s : SS) (x1 : Int32) : Option (Int32 × Unit) :=
  L_Scav_lastKept_12   100 d f w m s x1 (xSearch d x1 0) 1
theorem e_f_Scav_lastKept {sc : Nat × (Nat → Int32)} {e0 : mn_E} {tl : List mn_E}    (d : DS) (f : FS) (w : WS) (m : MS) (s : SS) (x1 : Int32) : Ev sc 2 30 0 0 M_Scav_lastKept 0 [(0, .ref 9), (1, .int x1)] [] (e0 :: (HD d (HF f (HW w (HM m (HS s tl)))))) (mapR ouI (fun z => (e0 :: (HD d (HF f (HW w (HM m (HS s tl))))))) (f_Scav_lastKept d f w m s x1)) := by
  unfold f_Scav_lastKept
  refine ev_aload_n d_Scav_lastKept_0 rfl rfl ?_
  refine ev_get (v := .ref 1) gi_Scav (ci := 5) rfl rfl 0 (by decide) gw_268 rfl d_Scav_lastKept_1 ?_
  refine ev_iload_n d_Scav_lastKept_4 rfl rfl ?_
  refine ev_iconst (v := 0) d_Scav_lastKept_5 rfl ?_
  refine ev_callr (Mc := M_Disk_search) (v := some (.int (xSearch d x1 0))) (h1 := (e0 :: (HD d (HF f (HW w (HM m (HS s tl))))))) (k2 := 0) (n2 := 0) (inv_V (q := 1) (av := [.int x1, .int 0]) (rest := []) rfl (ci := 1) rfl d_Scav_lastKept_6 gw_349 gw_350 gw_351 mw_Disk_search nh_Disk_search pn_Disk_search rfl) d_Scav_lastKept_6 pl_Disk_search (Nat.le_of_ble_eq_true rfl) (Nat.le_of_ble_eq_true rfl) (Nat.le_of_ble_eq_true rfl) rfl rfl (c_Disk_search (e0 := e0) (tl := (HF f (HW w (HM m (HS s tl)))))  d x1 0) (Or.inl (len1 (lenHD (lenHF (lenHW (lenHM (lenHS rfl))))))) ?_
  refine ev_istore_n d_Scav_lastKept_9 rfl (by decide) rfl ?_
  refine ev_iconst (v := 1) d_Scav_lastKept_10 rfl ?_
  refine ev_istore_n d_Scav_lastKept_11 rfl (by decide) rfl ?_
  exact ev_pick [2, 3, 1, 0] rfl (e_L_Scav_lastKept_12     100 d f w m s x1 (xSearch d x1 0) 1)
def B_Scav_placeInRoot_69   (d : DS) (f : FS) (w : WS) (m : MS) (s : SS) (x1 : Int32) : Option (Int32 × DS) :=
  some (((x1 * 8) + 4), d)
theorem e_B_Scav_placeInRoot_69 {sc : Nat × (Nat → Int32)} {e0 : mn_E} {tl : List mn_E}    (d : DS) (f : FS) (w : WS) (m : MS) (s : SS) (x1 : Int32) : Ev sc 3 46 0 0 M_Scav_placeInRoot 69 [(1, .int x1)] [] (e0 :: (HD d (HF f (HW w (HM m (HS s tl)))))) (mapR ouI (fun z => (e0 :: (HD z (HF f (HW w (HM m (HS s tl))))))) (B_Scav_placeInRoot_69 d f w m s x1)) := by
  unfold B_Scav_placeInRoot_69
  refine ev_iload_n d_Scav_placeInRoot_69 rfl rfl ?_
  refine ev_bipush (v := 8) d_Scav_placeInRoot_70 rfl ?_
  refine ev_imul d_Scav_placeInRoot_72 ?_
  refine ev_iconst (v := 4) d_Scav_placeInRoot_73 rfl ?_
  refine ev_iadd d_Scav_placeInRoot_74 ?_
  exact ev_zret (ty := .int) rfl rfl d_Scav_placeInRoot_75
def B_Scav_placeInRoot_101   (d : DS) (f : FS) (w : WS) (m : MS) (s : SS) (x2 : Int32) : Option (Int32 × DS) :=
  some ((x2 * 8), d)
theorem e_B_Scav_placeInRoot_101 {sc : Nat × (Nat → Int32)} {e0 : mn_E} {tl : List mn_E}    (d : DS) (f : FS) (w : WS) (m : MS) (s : SS) (x2 : Int32) : Ev sc 3 46 0 0 M_Scav_placeInRoot 101 [(2, .int x2)] [] (e0 :: (HD d (HF f (HW w (HM m (HS s tl)))))) (mapR ouI (fun z => (e0 :: (HD z (HF f (HW w (HM m (HS s tl))))))) (B_Scav_placeInRoot_101 d f w m s x2)) := by
  unfold B_Scav_placeInRoot_101
  refine ev_iload_n d_Scav_placeInRoot_101 rfl rfl ?_
  refine ev_bipush (v := 8) d_Scav_placeInRoot_102 rfl ?_
  refine ev_imul d_Scav_placeInRoot_104 ?_
  exact ev_zret (ty := .int) rfl rfl d_Scav_placeInRoot_105
def B_Scav_placeInRoot_46   (d : DS) (f : FS) (w : WS) (m : MS) (s : SS) (t0 : Int32) : Option (Int32 × DS) :=
  if ((f_Disk_takesEntryBehind d t0).1) = 0 then (if ¬ (xLowFree d) = (-1) then (B_Scav_placeInRoot_101   ((f_Disk_makePageBehind d t0 (xLowFree d) 4).2) f w m s (xLowFree d)) else (some ((-1), d))) else (B_Scav_placeInRoot_69   (xSetCell d t0 2 8) f w m s t0)
theorem e_B_Scav_placeInRoot_46 {sc : Nat × (Nat → Int32)} {e0 : mn_E} {tl : List mn_E}    (d : DS) (f : FS) (w : WS) (m : MS) (s : SS) (t0 : Int32) : Ev sc 3 46 0 0 M_Scav_placeInRoot 46 [(0, .ref 9)] [.int t0] (e0 :: (HD d (HF f (HW w (HM m (HS s tl)))))) (mapR ouI (fun z => (e0 :: (HD z (HF f (HW w (HM m (HS s tl))))))) (B_Scav_placeInRoot_46 d f w m s t0)) := by
  unfold B_Scav_placeInRoot_46
  refine ev_istore_n d_Scav_placeInRoot_46 rfl (by decide) rfl ?_
  refine ev_aload_n d_Scav_placeInRoot_47 rfl rfl ?_
  refine ev_get (v := .ref 1) gi_Scav (ci := 5) rfl rfl 0 (by decide) gw_268 rfl d_Scav_placeInRoot_48 ?_
  refine ev_iload_n d_Scav_placeInRoot_51 rfl rfl ?_
  refine ev_callr (Mc := M_Disk_takesEntryBehind) (v := some (.int ((f_Disk_takesEntryBehind d t0).1))) (h1 := (e0 :: (HD d (HF f (HW w (HM m (HS s tl))))))) (k2 := 0) (n2 := 0) (inv_V (q := 1) (av := [.int t0]) (rest := []) rfl (ci := 1) rfl d_Scav_placeInRoot_52 gw_464 gw_465 gw_466 mw_Disk_takesEntryBehind nh_Disk_takesEntryBehind pn_Disk_takesEntryBehind rfl) d_Scav_placeInRoot_52 pl_Disk_takesEntryBehind (Nat.le_of_ble_eq_true rfl) (Nat.le_of_ble_eq_true rfl) (Nat.le_of_ble_eq_true rfl) rfl rfl (e_f_Disk_takesEntryBehind (e0 := e0) (tl := (HF f (HW w (HM m (HS s tl)))))  d t0) (Or.inl (len1 (lenHD (lenHF (lenHW (lenHM (lenHS rfl))))))) ?_
  refine ev_if_eq (tgt := 76) d_Scav_placeInRoot_55 rfl (fun h1 => ?_) (fun h1 => ?_)
  · rw [if_pos h1]
    refine ev_aload_n d_Scav_placeInRoot_76 rfl rfl ?_
    refine ev_get (v := .ref 1) gi_Scav (ci := 5) rfl rfl 0 (by decide) gw_268 rfl d_Scav_placeInRoot_77 ?_
    refine ev_callr (Mc := M_Disk_lowestFree) (v := some (.int (xLowFree d))) (h1 := (e0 :: (HD d (HF f (HW w (HM m (HS s tl))))))) (k2 := 0) (n2 := 0) (inv_V (q := 1) (av := []) (rest := []) rfl (ci := 1) rfl d_Scav_placeInRoot_80 gw_371 gw_372 gw_373 mw_Disk_lowestFree nh_Disk_lowestFree pn_Disk_lowestFree rfl) d_Scav_placeInRoot_80 pl_Disk_lowestFree (Nat.le_of_ble_eq_true rfl) (Nat.le_of_ble_eq_true rfl) (Nat.le_of_ble_eq_true rfl) rfl rfl (c_Disk_lowestFree (e0 := e0) (tl := (HF f (HW w (HM m (HS s tl)))))  d ) (Or.inl (len1 (lenHD (lenHF (lenHW (lenHM (lenHS rfl))))))) ?_
    refine ev_istore_n d_Scav_placeInRoot_83 rfl (by decide) rfl ?_
    refine ev_iload_n d_Scav_placeInRoot_84 rfl rfl ?_
    refine ev_iconst (v := -1) d_Scav_placeInRoot_85 rfl ?_
    refine ev_icmp_ne (tgt := 91) d_Scav_placeInRoot_86 rfl (fun h2 => ?_) (fun h2 => ?_)
    · rw [if_pos h2]
      refine ev_aload_n d_Scav_placeInRoot_91 rfl rfl ?_
      refine ev_get (v := .ref 1) gi_Scav (ci := 5) rfl rfl 0 (by decide) gw_268 rfl d_Scav_placeInRoot_92 ?_
      refine ev_iload_n d_Scav_placeInRoot_95 rfl rfl ?_
      refine ev_iload_n d_Scav_placeInRoot_96 rfl rfl ?_
      refine ev_iconst (v := 4) d_Scav_placeInRoot_97 rfl ?_
      refine ev_callr (Mc := M_Disk_makePageBehind) (v := none) (h1 := (e0 :: (HD ((f_Disk_makePageBehind d t0 (xLowFree d) 4).2) (HF f (HW w (HM m (HS s tl))))))) (k2 := 0) (n2 := 0) (inv_V (q := 1) (av := [.int t0, .int (xLowFree d), .int 4]) (rest := []) rfl (ci := 1) rfl d_Scav_placeInRoot_98 gw_390 gw_194 gw_195 mw_Disk_makePageBehind nh_Disk_makePageBehind pn_Disk_makePageBehind rfl) d_Scav_placeInRoot_98 pl_Disk_makePageBehind (Nat.le_of_ble_eq_true rfl) (Nat.le_of_ble_eq_true rfl) (Nat.le_of_ble_eq_true rfl) rfl rfl (e_f_Disk_makePageBehind (e0 := e0) (tl := (HF f (HW w (HM m (HS s tl)))))  d t0 (xLowFree d) 4) (Or.inl (len1 (lenHD (lenHF (lenHW (lenHM (lenHS rfl))))))) ?_
      exact ev_pick [0] rfl (e_B_Scav_placeInRoot_101     ((f_Disk_makePageBehind d t0 (xLowFree d) 4).2) f w m s (xLowFree d))
    · rw [if_neg h2]
      refine ev_iconst (v := -1) d_Scav_placeInRoot_89 rfl ?_
      exact ev_zret (ty := .int) rfl rfl d_Scav_placeInRoot_90
  · rw [if_neg h1]
    refine ev_aload_n d_Scav_placeInRoot_58 rfl rfl ?_
    refine ev_get (v := .ref 1) gi_Scav (ci := 5) rfl rfl 0 (by decide) gw_268 rfl d_Scav_placeInRoot_59 ?_
    refine ev_iload_n d_Scav_placeInRoot_62 rfl rfl ?_
    refine ev_iconst (v := 2) d_Scav_placeInRoot_63 rfl ?_
    refine ev_bipush (v := 8) d_Scav_placeInRoot_64 rfl ?_
    refine ev_callr (Mc := M_Disk_setCell) (v := none) (h1 := (e0 :: (HD (xSetCell d t0 2 8) (HF f (HW w (HM m (HS s tl))))))) (k2 := 0) (n2 := 0) (inv_V (q := 1) (av := [.int t0, .int 2, .int 8]) (rest := []) rfl (ci := 1) rfl d_Scav_placeInRoot_66 gw_468 gw_178 gw_179 mw_Disk_setCell nh_Disk_setCell pn_Disk_setCell rfl) d_Scav_placeInRoot_66 pl_Disk_setCell (Nat.le_of_ble_eq_true rfl) (Nat.le_of_ble_eq_true rfl) (Nat.le_of_ble_eq_true rfl) rfl rfl (c_Disk_setCell (e0 := e0) (tl := (HF f (HW w (HM m (HS s tl)))))  d t0 2 8) (Or.inl (len1 (lenHD (lenHF (lenHW (lenHM (lenHS rfl))))))) ?_
    exact ev_pick [0] rfl (e_B_Scav_placeInRoot_69     (xSetCell d t0 2 8) f w m s t0)
def B_Scav_placeInRoot_41   (d : DS) (f : FS) (w : WS) (m : MS) (s : SS) : Option (Int32 × DS) :=
  bnd (f_Scav_lastKept d f w m s 1) (fun q => B_Scav_placeInRoot_46   d f w m s q.1)
theorem e_B_Scav_placeInRoot_41 {sc : Nat × (Nat → Int32)} {e0 : mn_E} {tl : List mn_E}    (d : DS) (f : FS) (w : WS) (m : MS) (s : SS) : Ev sc 3 46 0 0 M_Scav_placeInRoot 41 [(0, .ref 9)] [] (e0 :: (HD d (HF f (HW w (HM m (HS s tl)))))) (mapR ouI (fun z => (e0 :: (HD z (HF f (HW w (HM m (HS s tl))))))) (B_Scav_placeInRoot_41 d f w m s)) := by
  unfold B_Scav_placeInRoot_41
  refine ev_aload_n d_Scav_placeInRoot_41 rfl rfl ?_
  refine ev_iconst (v := 1) d_Scav_placeInRoot_42 rfl ?_
  refine ev_callB (rc := (f_Scav_lastKept d f w m s 1)) (ou := ouI) (Hs := (fun z => (e0 :: (HD d (HF f (HW w (HM m (HS s tl)))))))) (inv_V (q := 9) (av := [.int 1]) (rest := []) rfl (ci := 5) rfl d_Scav_placeInRoot_43 gw_460 gw_462 gw_21 mw_Scav_lastKept nh_Scav_lastKept pn_Scav_lastKept rfl) d_Scav_placeInRoot_43 pl_Scav_lastKept (Nat.le_of_ble_eq_true rfl) (Nat.le_of_ble_eq_true rfl) (Nat.le_of_ble_eq_true rfl) (e_f_Scav_lastKept (e0 := e0) (tl := tl)  d f w m s 1) (fun _ => (len1 (lenHD (lenHF (lenHW (lenHM (lenHS rfl))))))) (fun v z h1 => ⟨_, rfl, ?_⟩)
  exact ev_pick [0] rfl (e_B_Scav_placeInRoot_46     d f w m s v)
def L_Scav_placeInRoot_2   : Nat → DS → FS → WS → MS → SS → Int32 → Option (Int32 × DS)
  | 0, _, _, _, _, _, _ => none
  | n + 1, d, f, w, m, s, x1 =>
  if 80 ≤ x1 then (B_Scav_placeInRoot_41   d f w m s) else (if ((f_Scav_entryPlace d f w m s 1 x1).1) = (-1) then (B_Scav_placeInRoot_41   d f w m s) else (if ¬ ((f_Scav_serialAt d f w m s ((f_Scav_entryPlace d f w m s 1 x1).1)).1) = 0 then ((L_Scav_placeInRoot_2 n) d f w m s (x1 + 1)) else (some ((f_Scav_entryPlace d f w m s 1 x1).1, d))))
theorem e_L_Scav_placeInRoot_2 {sc : Nat × (Nat → Int32)} {e0 : mn_E} {tl : List mn_E}    : ∀ (n : Nat) (d : DS) (f : FS) (w : WS) (m : MS) (s : SS) (x1 : Int32), Ev sc 3 46 0 0 M_Scav_placeInRoot 2 [(0, .ref 9), (1, .int x1)] [] (e0 :: (HD d (HF f (HW w (HM m (HS s tl)))))) (mapR ouI (fun z => (e0 :: (HD z (HF f (HW w (HM m (HS s tl))))))) (L_Scav_placeInRoot_2   n d f w m s x1)) := by
  intro n
  induction n with
  | zero => intro d f w m s x1; exact ev_none
  | succ n ih =>
    intro d f w m s x1
    rw [L_Scav_placeInRoot_2]
    refine ev_iload_n d_Scav_placeInRoot_2 rfl rfl ?_
    refine ev_bipush (v := 80) d_Scav_placeInRoot_3 rfl ?_
    refine ev_icmp_ge (tgt := 41) d_Scav_placeInRoot_5 rfl (fun h1 => ?_) (fun h1 => ?_)
    · rw [if_pos h1]
      exact ev_pick [0] rfl (e_B_Scav_placeInRoot_41     d f w m s)
    · rw [if_neg h1]
      refine ev_aload_n d_Scav_placeInRoot_8 rfl rfl ?_
      refine ev_iconst (v := 1) d_Scav_placeInRoot_9 rfl ?_
      refine ev_iload_n d_Scav_placeInRoot_10 rfl rfl ?_
      refine ev_callr (Mc := M_Scav_entryPlace) (v := some (.int ((f_Scav_entryPlace d f w m s 1 x1).1))) (h1 := (e0 :: (HD d (HF f (HW w (HM m (HS s tl))))))) (k2 := 0) (n2 := 0) (inv_V (q := 9) (av := [.int 1, .int x1]) (rest := []) rfl (ci := 5) rfl d_Scav_placeInRoot_11 gw_395 gw_397 gw_10 mw_Scav_entryPlace nh_Scav_entryPlace pn_Scav_entryPlace rfl) d_Scav_placeInRoot_11 pl_Scav_entryPlace (Nat.le_of_ble_eq_true rfl) (Nat.le_of_ble_eq_true rfl) (Nat.le_of_ble_eq_true rfl) rfl rfl (e_f_Scav_entryPlace (e0 := e0) (tl := tl)  d f w m s 1 x1) (Or.inl (len1 (lenHD (lenHF (lenHW (lenHM (lenHS rfl))))))) ?_
      refine ev_iconst (v := -1) d_Scav_placeInRoot_14 rfl ?_
      refine ev_icmp_eq (tgt := 41) d_Scav_placeInRoot_15 rfl (fun h2 => ?_) (fun h2 => ?_)
      · rw [if_pos h2]
        exact ev_pick [0] rfl (e_B_Scav_placeInRoot_41     d f w m s)
      · rw [if_neg h2]
        refine ev_aload_n d_Scav_placeInRoot_18 rfl rfl ?_
        refine ev_iconst (v := 1) d_Scav_placeInRoot_19 rfl ?_
        refine ev_iload_n d_Scav_placeInRoot_20 rfl rfl ?_
        refine ev_callr (Mc := M_Scav_entryPlace) (v := some (.int ((f_Scav_entryPlace d f w m s 1 x1).1))) (h1 := (e0 :: (HD d (HF f (HW w (HM m (HS s tl))))))) (k2 := 0) (n2 := 0) (inv_V (q := 9) (av := [.int 1, .int x1]) (rest := []) rfl (ci := 5) rfl d_Scav_placeInRoot_21 gw_395 gw_397 gw_10 mw_Scav_entryPlace nh_Scav_entryPlace pn_Scav_entryPlace rfl) d_Scav_placeInRoot_21 pl_Scav_entryPlace (Nat.le_of_ble_eq_true rfl) (Nat.le_of_ble_eq_true rfl) (Nat.le_of_ble_eq_true rfl) rfl rfl (e_f_Scav_entryPlace (e0 := e0) (tl := tl)  d f w m s 1 x1) (Or.inl (len1 (lenHD (lenHF (lenHW (lenHM (lenHS rfl))))))) ?_
        refine ev_istore_n d_Scav_placeInRoot_24 rfl (by decide) rfl ?_
        refine ev_aload_n d_Scav_placeInRoot_25 rfl rfl ?_
        refine ev_iload_n d_Scav_placeInRoot_26 rfl rfl ?_
        refine ev_callr (Mc := M_Scav_serialAt) (v := some (.int ((f_Scav_serialAt d f w m s ((f_Scav_entryPlace d f w m s 1 x1).1)).1))) (h1 := (e0 :: (HD d (HF f (HW w (HM m (HS s tl))))))) (k2 := 0) (n2 := 0) (inv_V (q := 9) (av := [.int ((f_Scav_entryPlace d f w m s 1 x1).1)]) (rest := []) rfl (ci := 5) rfl d_Scav_placeInRoot_27 gw_407 gw_409 gw_12 mw_Scav_serialAt nh_Scav_serialAt pn_Scav_serialAt rfl) d_Scav_placeInRoot_27 pl_Scav_serialAt (Nat.le_of_ble_eq_true rfl) (Nat.le_of_ble_eq_true rfl) (Nat.le_of_ble_eq_true rfl) rfl rfl (e_f_Scav_serialAt (e0 := e0) (tl := tl)  d f w m s ((f_Scav_entryPlace d f w m s 1 x1).1)) (Or.inl (len1 (lenHD (lenHF (lenHW (lenHM (lenHS rfl))))))) ?_
        refine ev_if_ne (tgt := 35) d_Scav_placeInRoot_30 rfl (fun h3 => ?_) (fun h3 => ?_)
        · rw [if_pos h3]
          refine ev_iinc (v := (x1 + 1)) d_Scav_placeInRoot_35 rfl rfl (by decide) rfl ?_
          refine ev_goto (tgt := 2) d_Scav_placeInRoot_38 rfl ?_
          exact ev_pick [2, 0] rfl (ih d f w m s (x1 + 1))
        · rw [if_neg h3]
          refine ev_iload_n d_Scav_placeInRoot_33 rfl rfl ?_
          exact ev_zret (ty := .int) rfl rfl d_Scav_placeInRoot_34
def f_Scav_placeInRoot   (d : DS) (f : FS) (w : WS) (m : MS) (s : SS) : Option (Int32 × DS) :=
  L_Scav_placeInRoot_2   100 d f w m s 0
theorem e_f_Scav_placeInRoot {sc : Nat × (Nat → Int32)} {e0 : mn_E} {tl : List mn_E}    (d : DS) (f : FS) (w : WS) (m : MS) (s : SS) : Ev sc 3 46 0 0 M_Scav_placeInRoot 0 [(0, .ref 9)] [] (e0 :: (HD d (HF f (HW w (HM m (HS s tl)))))) (mapR ouI (fun z => (e0 :: (HD z (HF f (HW w (HM m (HS s tl))))))) (f_Scav_placeInRoot d f w m s)) := by
  unfold f_Scav_placeInRoot
  refine ev_iconst (v := 0) d_Scav_placeInRoot_0 rfl ?_
  refine ev_istore_n d_Scav_placeInRoot_1 rfl (by decide) rfl ?_
  exact ev_pick [1, 0] rfl (e_L_Scav_placeInRoot_2     100 d f w m s 0)
def B_Scav_adopt_137   (d : DS) (f : FS) (w : WS) (m : MS) (s : SS) : Option (Int32 × (DS × SS)) :=
  some (1, (d, s))
theorem e_B_Scav_adopt_137 {sc : Nat × (Nat → Int32)} {e0 : mn_E} {tl : List mn_E}    (d : DS) (f : FS) (w : WS) (m : MS) (s : SS) : Ev sc 401 6216 0 0 M_Scav_adopt 137 [] [] (e0 :: (HD d (HF f (HW w (HM m (HS s tl)))))) (mapR ouI (fun z => (e0 :: (HD z.1 (HF f (HW w (HM m (HS z.2 tl))))))) (B_Scav_adopt_137 d f w m s)) := by
  unfold B_Scav_adopt_137
  refine ev_iconst (v := 1) d_Scav_adopt_137 rfl ?_
  exact ev_zret (ty := .boolean) rfl rfl d_Scav_adopt_138
def B_Scav_adopt_98   (d : DS) (f : FS) (w : WS) (m : MS) (s : SS) (x1 : Int32) (x2 : Int32) : Option (Int32 × (DS × SS)) :=
  if ((f_Disk_isDirectory d x2).1) = 0 then (B_Scav_adopt_137   d f w m (sSRea (sSAdo s ((sAdo s) + 1)) ((sRea (sSAdo s ((sAdo s) + 1))) ||| (1 <<< (x1.toInt64 &&& 63))))) else (bnd (F_Scav_walk 100 d f w m (sSRea (sSAdo s ((sAdo s) + 1)) ((sRea (sSAdo s ((sAdo s) + 1))) ||| (1 <<< (x1.toInt64 &&& 63)))) x1 1) (fun q => B_Scav_adopt_137   q.2.1 f w m q.2.2))
theorem e_B_Scav_adopt_98 {sc : Nat × (Nat → Int32)} {e0 : mn_E} {tl : List mn_E}    (d : DS) (f : FS) (w : WS) (m : MS) (s : SS) (x1 : Int32) (x2 : Int32) : Ev sc 401 6216 0 0 M_Scav_adopt 98 [(0, .ref 9), (1, .int x1), (2, .int x2)] [] (e0 :: (HD d (HF f (HW w (HM m (HS s tl)))))) (mapR ouI (fun z => (e0 :: (HD z.1 (HF f (HW w (HM m (HS z.2 tl))))))) (B_Scav_adopt_98 d f w m s x1 x2)) := by
  unfold B_Scav_adopt_98
  refine ev_aload_n d_Scav_adopt_98 rfl rfl ?_
  refine ev_dup d_Scav_adopt_99 rfl ?_
  refine ev_get (v := .int (sAdo s)) gi_Scav (ci := 5) rfl rfl 4 (by decide) gw_272 rfl d_Scav_adopt_100 ?_
  refine ev_iconst (v := 1) d_Scav_adopt_103 rfl ?_
  refine ev_iadd d_Scav_adopt_104 ?_
  refine ev_put (h2 := (e0 :: (HD d (HF f (HW w (HM m (HS (sSAdo s ((sAdo s) + 1)) tl))))))) gi_Scav ft_Scav fo_Scav fn_Scav (ci := 5) rfl rfl 4 (by decide) gw_272 rfl rfl (fun _ => rfl) (fun _ => rfl) (Nat.le_of_ble_eq_true rfl) rfl d_Scav_adopt_105 ?_
  refine ev_aload_n d_Scav_adopt_108 rfl rfl ?_
  refine ev_dup d_Scav_adopt_109 rfl ?_
  refine ev_get (v := .long (sRea (sSAdo s ((sAdo s) + 1)))) gi_Scav (ci := 5) rfl rfl 5 (by decide) gw_273 rfl d_Scav_adopt_110 ?_
  refine ev_lconst (v := 1) d_Scav_adopt_113 rfl ?_
  refine ev_iload_n d_Scav_adopt_114 rfl rfl ?_
  refine ev_lshl d_Scav_adopt_115 ?_
  refine ev_lor d_Scav_adopt_116 ?_
  refine ev_put (h2 := (e0 :: (HD d (HF f (HW w (HM m (HS (sSRea (sSAdo s ((sAdo s) + 1)) ((sRea (sSAdo s ((sAdo s) + 1))) ||| (1 <<< (x1.toInt64 &&& 63)))) tl))))))) gi_Scav ft_Scav fo_Scav fn_Scav (ci := 5) rfl rfl 5 (by decide) gw_273 rfl rfl (fun _ => rfl) (fun _ => rfl) (Nat.le_of_ble_eq_true rfl) rfl d_Scav_adopt_117 ?_
  refine ev_aload_n d_Scav_adopt_120 rfl rfl ?_
  refine ev_get (v := .ref 1) gi_Scav (ci := 5) rfl rfl 0 (by decide) gw_268 rfl d_Scav_adopt_121 ?_
  refine ev_iload_n d_Scav_adopt_124 rfl rfl ?_
  refine ev_callr (Mc := M_Disk_isDirectory) (v := some (.int ((f_Disk_isDirectory d x2).1))) (h1 := (e0 :: (HD d (HF f (HW w (HM m (HS (sSRea (sSAdo s ((sAdo s) + 1)) ((sRea (sSAdo s ((sAdo s) + 1))) ||| (1 <<< (x1.toInt64 &&& 63)))) tl))))))) (k2 := 0) (n2 := 0) (inv_V (q := 1) (av := [.int x2]) (rest := []) rfl (ci := 1) rfl d_Scav_adopt_125 gw_431 gw_432 gw_433 mw_Disk_isDirectory nh_Disk_isDirectory pn_Disk_isDirectory rfl) d_Scav_adopt_125 pl_Disk_isDirectory (Nat.le_of_ble_eq_true rfl) (Nat.le_of_ble_eq_true rfl) (Nat.le_of_ble_eq_true rfl) rfl rfl (e_f_Disk_isDirectory (e0 := e0) (tl := (HF f (HW w (HM m (HS (sSRea (sSAdo s ((sAdo s) + 1)) ((sRea (sSAdo s ((sAdo s) + 1))) ||| (1 <<< (x1.toInt64 &&& 63)))) tl)))))  d x2) (Or.inl (len1 (lenHD (lenHF (lenHW (lenHM (lenHS rfl))))))) ?_
  refine ev_if_eq (tgt := 137) d_Scav_adopt_128 rfl (fun h1 => ?_) (fun h1 => ?_)
  · rw [if_pos h1]
    exact ev_pick [] rfl (e_B_Scav_adopt_137     d f w m (sSRea (sSAdo s ((sAdo s) + 1)) ((sRea (sSAdo s ((sAdo s) + 1))) ||| (1 <<< (x1.toInt64 &&& 63)))))
  · rw [if_neg h1]
    refine ev_aload_n d_Scav_adopt_131 rfl rfl ?_
    refine ev_iload_n d_Scav_adopt_132 rfl rfl ?_
    refine ev_iconst (v := 1) d_Scav_adopt_133 rfl ?_
    refine ev_callB (rc := (F_Scav_walk 100 d f w m (sSRea (sSAdo s ((sAdo s) + 1)) ((sRea (sSAdo s ((sAdo s) + 1))) ||| (1 <<< (x1.toInt64 &&& 63)))) x1 1)) (ou := ouV) (Hs := (fun z => (e0 :: (HD z.1 (HF f (HW w (HM m (HS z.2 tl)))))))) (inv_V (q := 9) (av := [.int x1, .int 1]) (rest := []) rfl (ci := 5) rfl d_Scav_adopt_134 gw_391 gw_393 gw_9 mw_Scav_walkDirectory nh_Scav_walkDirectory pn_Scav_walkDirectory rfl) d_Scav_adopt_134 pl_Scav_walkDirectory (Nat.le_of_ble_eq_true rfl) (Nat.le_of_ble_eq_true rfl) (Nat.le_of_ble_eq_true rfl) (e_F_Scav_walk (e0 := e0) (tl := tl) 100 d f w m (sSRea (sSAdo s ((sAdo s) + 1)) ((sRea (sSAdo s ((sAdo s) + 1))) ||| (1 <<< (x1.toInt64 &&& 63)))) x1 1) (fun _ => (len1 (lenHD (lenHF (lenHW (lenHM (lenHS rfl))))))) (fun v z h2 => ⟨_, rfl, ?_⟩)
    exact ev_pick [] rfl (e_B_Scav_adopt_137     z.1 f w m z.2)
def B_Scav_adopt_80   (d : DS) (f : FS) (w : WS) (m : MS) (s : SS) (x1 : Int32) (x2 : Int32) (x5 : Int32) : Option (Int32 × (DS × SS)) :=
  B_Scav_adopt_98   ((f_Disk_putEntry d (x5 / 8) (x5 - x5 / 8 * 8) x2).2) f w m s x1 x2
theorem e_B_Scav_adopt_80 {sc : Nat × (Nat → Int32)} {e0 : mn_E} {tl : List mn_E}    (d : DS) (f : FS) (w : WS) (m : MS) (s : SS) (x1 : Int32) (x2 : Int32) (x5 : Int32) : Ev sc 401 6216 0 0 M_Scav_adopt 80 [(0, .ref 9), (1, .int x1), (2, .int x2), (5, .int x5)] [] (e0 :: (HD d (HF f (HW w (HM m (HS s tl)))))) (mapR ouI (fun z => (e0 :: (HD z.1 (HF f (HW w (HM m (HS z.2 tl))))))) (B_Scav_adopt_80 d f w m s x1 x2 x5)) := by
  unfold B_Scav_adopt_80
  refine ev_aload_n d_Scav_adopt_80 rfl rfl ?_
  refine ev_get (v := .ref 1) gi_Scav (ci := 5) rfl rfl 0 (by decide) gw_268 rfl d_Scav_adopt_81 ?_
  refine ev_iload d_Scav_adopt_84 rfl ?_
  refine ev_bipush (v := 8) d_Scav_adopt_86 rfl ?_
  refine ev_idiv d_Scav_adopt_88 (by decide) ?_
  refine ev_iload d_Scav_adopt_89 rfl ?_
  refine ev_bipush (v := 8) d_Scav_adopt_91 rfl ?_
  refine ev_irem d_Scav_adopt_93 (by decide) ?_
  refine ev_iload_n d_Scav_adopt_94 rfl rfl ?_
  refine ev_callr (Mc := M_Disk_putEntry) (v := none) (h1 := (e0 :: (HD ((f_Disk_putEntry d (x5 / 8) (x5 - x5 / 8 * 8) x2).2) (HF f (HW w (HM m (HS s tl))))))) (k2 := 0) (n2 := 0) (inv_V (q := 1) (av := [.int (x5 / 8), .int (x5 - x5 / 8 * 8), .int x2]) (rest := []) rfl (ci := 1) rfl d_Scav_adopt_95 gw_469 gw_470 gw_471 mw_Disk_putEntry nh_Disk_putEntry pn_Disk_putEntry rfl) d_Scav_adopt_95 pl_Disk_putEntry (Nat.le_of_ble_eq_true rfl) (Nat.le_of_ble_eq_true rfl) (Nat.le_of_ble_eq_true rfl) rfl rfl (e_f_Disk_putEntry (e0 := e0) (tl := (HF f (HW w (HM m (HS s tl)))))  d (x5 / 8) (x5 - x5 / 8 * 8) x2) (Or.inl (len1 (lenHD (lenHF (lenHW (lenHM (lenHS rfl))))))) ?_
  exact ev_pick [0, 1, 2] rfl (e_B_Scav_adopt_98     ((f_Disk_putEntry d (x5 / 8) (x5 - x5 / 8 * 8) x2).2) f w m s x1 x2)
def B_Scav_adopt_51   (d : DS) (f : FS) (w : WS) (m : MS) (s : SS) (x1 : Int32) (x2 : Int32) (x4 : Int32) (t0 : Int32) : Option (Int32 × (DS × SS)) :=
  if ¬ t0 = (-1) then (if ¬ x4 = 0 then (B_Scav_adopt_80   d f w m s x1 x2 t0) else (B_Scav_adopt_80   ((f_Disk_setName d x2 0 (10000 + x1)).2) f w m s x1 x2 t0)) else (some (0, (d, s)))
theorem e_B_Scav_adopt_51 {sc : Nat × (Nat → Int32)} {e0 : mn_E} {tl : List mn_E}    (d : DS) (f : FS) (w : WS) (m : MS) (s : SS) (x1 : Int32) (x2 : Int32) (x4 : Int32) (t0 : Int32) : Ev sc 401 6216 0 0 M_Scav_adopt 51 [(0, .ref 9), (1, .int x1), (2, .int x2), (4, .int x4)] [.int t0] (e0 :: (HD d (HF f (HW w (HM m (HS s tl)))))) (mapR ouI (fun z => (e0 :: (HD z.1 (HF f (HW w (HM m (HS z.2 tl))))))) (B_Scav_adopt_51 d f w m s x1 x2 x4 t0)) := by
  unfold B_Scav_adopt_51
  refine ev_istore d_Scav_adopt_51 (by decide) rfl ?_
  refine ev_iload d_Scav_adopt_53 rfl ?_
  refine ev_iconst (v := -1) d_Scav_adopt_55 rfl ?_
  refine ev_icmp_ne (tgt := 61) d_Scav_adopt_56 rfl (fun h1 => ?_) (fun h1 => ?_)
  · rw [if_pos h1]
    refine ev_iload d_Scav_adopt_61 rfl ?_
    refine ev_if_ne (tgt := 80) d_Scav_adopt_63 rfl (fun h2 => ?_) (fun h2 => ?_)
    · rw [if_pos h2]
      exact ev_pick [1, 2, 3, 0] rfl (e_B_Scav_adopt_80     d f w m s x1 x2 t0)
    · rw [if_neg h2]
      refine ev_aload_n d_Scav_adopt_66 rfl rfl ?_
      refine ev_get (v := .ref 1) gi_Scav (ci := 5) rfl rfl 0 (by decide) gw_268 rfl d_Scav_adopt_67 ?_
      refine ev_iload_n d_Scav_adopt_70 rfl rfl ?_
      refine ev_iconst (v := 0) d_Scav_adopt_71 rfl ?_
      refine ev_sipush (v := 10000) d_Scav_adopt_72 rfl ?_
      refine ev_iload_n d_Scav_adopt_75 rfl rfl ?_
      refine ev_iadd d_Scav_adopt_76 ?_
      refine ev_callr (Mc := M_Disk_setName) (v := none) (h1 := (e0 :: (HD ((f_Disk_setName d x2 0 (10000 + x1)).2) (HF f (HW w (HM m (HS s tl))))))) (k2 := 0) (n2 := 0) (inv_V (q := 1) (av := [.int x2, .int 0, .int (10000 + x1)]) (rest := []) rfl (ci := 1) rfl d_Scav_adopt_77 gw_384 gw_186 gw_187 mw_Disk_setName nh_Disk_setName pn_Disk_setName rfl) d_Scav_adopt_77 pl_Disk_setName (Nat.le_of_ble_eq_true rfl) (Nat.le_of_ble_eq_true rfl) (Nat.le_of_ble_eq_true rfl) rfl rfl (e_f_Disk_setName (e0 := e0) (tl := (HF f (HW w (HM m (HS s tl)))))  d x2 0 (10000 + x1)) (Or.inl (len1 (lenHD (lenHF (lenHW (lenHM (lenHS rfl))))))) ?_
      exact ev_pick [1, 2, 3, 0] rfl (e_B_Scav_adopt_80     ((f_Disk_setName d x2 0 (10000 + x1)).2) f w m s x1 x2 t0)
  · rw [if_neg h1]
    refine ev_iconst (v := 0) d_Scav_adopt_59 rfl ?_
    exact ev_zret (ty := .boolean) rfl rfl d_Scav_adopt_60
def B_Scav_adopt_45   (d : DS) (f : FS) (w : WS) (m : MS) (s : SS) (x1 : Int32) (x2 : Int32) (t0 : Int32) : Option (Int32 × (DS × SS)) :=
  bnd (f_Scav_placeInRoot d f w m s) (fun q => B_Scav_adopt_51   q.2 f w m s x1 x2 t0 q.1)
theorem e_B_Scav_adopt_45 {sc : Nat × (Nat → Int32)} {e0 : mn_E} {tl : List mn_E}    (d : DS) (f : FS) (w : WS) (m : MS) (s : SS) (x1 : Int32) (x2 : Int32) (t0 : Int32) : Ev sc 401 6216 0 0 M_Scav_adopt 45 [(0, .ref 9), (1, .int x1), (2, .int x2)] [.int t0] (e0 :: (HD d (HF f (HW w (HM m (HS s tl)))))) (mapR ouI (fun z => (e0 :: (HD z.1 (HF f (HW w (HM m (HS z.2 tl))))))) (B_Scav_adopt_45 d f w m s x1 x2 t0)) := by
  unfold B_Scav_adopt_45
  refine ev_istore d_Scav_adopt_45 (by decide) rfl ?_
  refine ev_aload_n d_Scav_adopt_47 rfl rfl ?_
  refine ev_callB (rc := (f_Scav_placeInRoot d f w m s)) (ou := ouI) (Hs := (fun z => (e0 :: (HD z (HF f (HW w (HM m (HS s tl)))))))) (inv_V (q := 9) (av := []) (rest := []) rfl (ci := 5) rfl d_Scav_adopt_48 gw_456 gw_458 gw_20 mw_Scav_placeInRoot nh_Scav_placeInRoot pn_Scav_placeInRoot rfl) d_Scav_adopt_48 pl_Scav_placeInRoot (Nat.le_of_ble_eq_true rfl) (Nat.le_of_ble_eq_true rfl) (Nat.le_of_ble_eq_true rfl) (e_f_Scav_placeInRoot (e0 := e0) (tl := tl)  d f w m s ) (fun _ => (len1 (lenHD (lenHF (lenHW (lenHM (lenHS rfl))))))) (fun v z h1 => ⟨_, rfl, ?_⟩)
  exact ev_pick [1, 2, 3, 0] rfl (e_B_Scav_adopt_51     z f w m s x1 x2 t0 v)
def B_Scav_adopt_44   (d : DS) (f : FS) (w : WS) (m : MS) (s : SS) (x1 : Int32) (x2 : Int32) : Option (Int32 × (DS × SS)) :=
  B_Scav_adopt_45   d f w m s x1 x2 0
theorem e_B_Scav_adopt_44 {sc : Nat × (Nat → Int32)} {e0 : mn_E} {tl : List mn_E}    (d : DS) (f : FS) (w : WS) (m : MS) (s : SS) (x1 : Int32) (x2 : Int32) : Ev sc 401 6216 0 0 M_Scav_adopt 44 [(0, .ref 9), (1, .int x1), (2, .int x2)] [] (e0 :: (HD d (HF f (HW w (HM m (HS s tl)))))) (mapR ouI (fun z => (e0 :: (HD z.1 (HF f (HW w (HM m (HS z.2 tl))))))) (B_Scav_adopt_44 d f w m s x1 x2)) := by
  unfold B_Scav_adopt_44
  refine ev_iconst (v := 0) d_Scav_adopt_44 rfl ?_
  exact ev_pick [0, 1, 2] rfl (e_B_Scav_adopt_45     d f w m s x1 x2 0)
def B_Scav_adopt_37   (d : DS) (f : FS) (w : WS) (m : MS) (s : SS) (x1 : Int32) (x2 : Int32) (t0 : Int32) : Option (Int32 × (DS × SS)) :=
  if ¬ t0 = 0 then (B_Scav_adopt_44   d f w m s x1 x2) else (B_Scav_adopt_45   d f w m s x1 x2 1)
theorem e_B_Scav_adopt_37 {sc : Nat × (Nat → Int32)} {e0 : mn_E} {tl : List mn_E}    (d : DS) (f : FS) (w : WS) (m : MS) (s : SS) (x1 : Int32) (x2 : Int32) (t0 : Int32) : Ev sc 401 6216 0 0 M_Scav_adopt 37 [(0, .ref 9), (1, .int x1), (2, .int x2)] [.int t0] (e0 :: (HD d (HF f (HW w (HM m (HS s tl)))))) (mapR ouI (fun z => (e0 :: (HD z.1 (HF f (HW w (HM m (HS z.2 tl))))))) (B_Scav_adopt_37 d f w m s x1 x2 t0)) := by
  unfold B_Scav_adopt_37
  refine ev_if_ne (tgt := 44) d_Scav_adopt_37 rfl (fun h1 => ?_) (fun h1 => ?_)
  · rw [if_pos h1]
    exact ev_pick [0, 1, 2] rfl (e_B_Scav_adopt_44     d f w m s x1 x2)
  · rw [if_neg h1]
    refine ev_iconst (v := 1) d_Scav_adopt_40 rfl ?_
    refine ev_goto (tgt := 45) d_Scav_adopt_41 rfl ?_
    exact ev_pick [0, 1, 2] rfl (e_B_Scav_adopt_45     d f w m s x1 x2 1)
def f_Scav_adopt   (d : DS) (f : FS) (w : WS) (m : MS) (s : SS) (x1 : Int32) : Option (Int32 × (DS × SS)) :=
  if ((f_Disk_nameAt d (xSearch d x1 0) 0).1) < 1 then (B_Scav_adopt_44   d f w m s x1 (xSearch d x1 0)) else (if 9999 < ((f_Disk_nameAt d (xSearch d x1 0) 0).1) then (B_Scav_adopt_44   d f w m s x1 (xSearch d x1 0)) else (bnd (f_Scav_rootHasName d f w m s ((f_Disk_nameAt d (xSearch d x1 0) 0).1)) (fun q => B_Scav_adopt_37   d f w m s x1 (xSearch d x1 0) q.1)))
theorem e_f_Scav_adopt {sc : Nat × (Nat → Int32)} {e0 : mn_E} {tl : List mn_E}    (d : DS) (f : FS) (w : WS) (m : MS) (s : SS) (x1 : Int32) : Ev sc 401 6216 0 0 M_Scav_adopt 0 [(0, .ref 9), (1, .int x1)] [] (e0 :: (HD d (HF f (HW w (HM m (HS s tl)))))) (mapR ouI (fun z => (e0 :: (HD z.1 (HF f (HW w (HM m (HS z.2 tl))))))) (f_Scav_adopt d f w m s x1)) := by
  unfold f_Scav_adopt
  refine ev_aload_n d_Scav_adopt_0 rfl rfl ?_
  refine ev_get (v := .ref 1) gi_Scav (ci := 5) rfl rfl 0 (by decide) gw_268 rfl d_Scav_adopt_1 ?_
  refine ev_iload_n d_Scav_adopt_4 rfl rfl ?_
  refine ev_iconst (v := 0) d_Scav_adopt_5 rfl ?_
  refine ev_callr (Mc := M_Disk_search) (v := some (.int (xSearch d x1 0))) (h1 := (e0 :: (HD d (HF f (HW w (HM m (HS s tl))))))) (k2 := 0) (n2 := 0) (inv_V (q := 1) (av := [.int x1, .int 0]) (rest := []) rfl (ci := 1) rfl d_Scav_adopt_6 gw_349 gw_350 gw_351 mw_Disk_search nh_Disk_search pn_Disk_search rfl) d_Scav_adopt_6 pl_Disk_search (Nat.le_of_ble_eq_true rfl) (Nat.le_of_ble_eq_true rfl) (Nat.le_of_ble_eq_true rfl) rfl rfl (c_Disk_search (e0 := e0) (tl := (HF f (HW w (HM m (HS s tl)))))  d x1 0) (Or.inl (len1 (lenHD (lenHF (lenHW (lenHM (lenHS rfl))))))) ?_
  refine ev_istore_n d_Scav_adopt_9 rfl (by decide) rfl ?_
  refine ev_aload_n d_Scav_adopt_10 rfl rfl ?_
  refine ev_get (v := .ref 1) gi_Scav (ci := 5) rfl rfl 0 (by decide) gw_268 rfl d_Scav_adopt_11 ?_
  refine ev_iload_n d_Scav_adopt_14 rfl rfl ?_
  refine ev_iconst (v := 0) d_Scav_adopt_15 rfl ?_
  refine ev_callr (Mc := M_Disk_nameAt) (v := some (.int ((f_Disk_nameAt d (xSearch d x1 0) 0).1))) (h1 := (e0 :: (HD d (HF f (HW w (HM m (HS s tl))))))) (k2 := 0) (n2 := 0) (inv_V (q := 1) (av := [.int (xSearch d x1 0), .int 0]) (rest := []) rfl (ci := 1) rfl d_Scav_adopt_16 gw_419 gw_420 gw_421 mw_Disk_nameAt nh_Disk_nameAt pn_Disk_nameAt rfl) d_Scav_adopt_16 pl_Disk_nameAt (Nat.le_of_ble_eq_true rfl) (Nat.le_of_ble_eq_true rfl) (Nat.le_of_ble_eq_true rfl) rfl rfl (e_f_Disk_nameAt (e0 := e0) (tl := (HF f (HW w (HM m (HS s tl)))))  d (xSearch d x1 0) 0) (Or.inl (len1 (lenHD (lenHF (lenHW (lenHM (lenHS rfl))))))) ?_
  refine ev_istore_n d_Scav_adopt_19 rfl (by decide) rfl ?_
  refine ev_iload_n d_Scav_adopt_20 rfl rfl ?_
  refine ev_iconst (v := 1) d_Scav_adopt_21 rfl ?_
  refine ev_icmp_lt (tgt := 44) d_Scav_adopt_22 rfl (fun h1 => ?_) (fun h1 => ?_)
  · rw [if_pos h1]
    exact ev_pick [2, 3, 1] rfl (e_B_Scav_adopt_44     d f w m s x1 (xSearch d x1 0))
  · rw [if_neg h1]
    refine ev_iload_n d_Scav_adopt_25 rfl rfl ?_
    refine ev_sipush (v := 9999) d_Scav_adopt_26 rfl ?_
    refine ev_icmp_gt (tgt := 44) d_Scav_adopt_29 rfl (fun h2 => ?_) (fun h2 => ?_)
    · rw [if_pos h2]
      exact ev_pick [2, 3, 1] rfl (e_B_Scav_adopt_44     d f w m s x1 (xSearch d x1 0))
    · rw [if_neg h2]
      refine ev_aload_n d_Scav_adopt_32 rfl rfl ?_
      refine ev_iload_n d_Scav_adopt_33 rfl rfl ?_
      refine ev_callB (rc := (f_Scav_rootHasName d f w m s ((f_Disk_nameAt d (xSearch d x1 0) 0).1))) (ou := ouI) (Hs := (fun z => (e0 :: (HD d (HF f (HW w (HM m (HS s tl)))))))) (inv_V (q := 9) (av := [.int ((f_Disk_nameAt d (xSearch d x1 0) 0).1)]) (rest := []) rfl (ci := 5) rfl d_Scav_adopt_34 gw_452 gw_454 gw_19 mw_Scav_rootHasName nh_Scav_rootHasName pn_Scav_rootHasName rfl) d_Scav_adopt_34 pl_Scav_rootHasName (Nat.le_of_ble_eq_true rfl) (Nat.le_of_ble_eq_true rfl) (Nat.le_of_ble_eq_true rfl) (e_f_Scav_rootHasName (e0 := e0) (tl := tl)  d f w m s ((f_Disk_nameAt d (xSearch d x1 0) 0).1)) (fun _ => (len1 (lenHD (lenHF (lenHW (lenHM (lenHS rfl))))))) (fun v z h3 => ⟨_, rfl, ?_⟩)
      exact ev_pick [2, 3, 1] rfl (e_B_Scav_adopt_37     d f w m s x1 (xSearch d x1 0) v)
def B_Scav_putLinksRight_90   (d : DS) (f : FS) (w : WS) (m : MS) (s : SS) : Option (Unit × DS) :=
  some ((), d)
theorem e_B_Scav_putLinksRight_90 {sc : Nat × (Nat → Int32)} {e0 : mn_E} {tl : List mn_E}    (d : DS) (f : FS) (w : WS) (m : MS) (s : SS) : Ev sc 2 31 0 0 M_Scav_putLinksRight 90 [] [] (e0 :: (HD d (HF f (HW w (HM m (HS s tl)))))) (mapR ouV (fun z => (e0 :: (HD z (HF f (HW w (HM m (HS s tl))))))) (B_Scav_putLinksRight_90 d f w m s)) := by
  unfold B_Scav_putLinksRight_90
  exact ev_vret rfl d_Scav_putLinksRight_90
def B_Scav_putLinksRight_72   (d : DS) (f : FS) (w : WS) (m : MS) (s : SS) (x1 : Int32) (x2 : Int32) : Option (Unit × DS) :=
  B_Scav_putLinksRight_90   ((f_Disk_setByte d (xSearch d x1 0) 3 x2).2) f w m s
theorem e_B_Scav_putLinksRight_72 {sc : Nat × (Nat → Int32)} {e0 : mn_E} {tl : List mn_E}    (d : DS) (f : FS) (w : WS) (m : MS) (s : SS) (x1 : Int32) (x2 : Int32) : Ev sc 2 31 0 0 M_Scav_putLinksRight 72 [(0, .ref 9), (1, .int x1), (2, .int x2)] [] (e0 :: (HD d (HF f (HW w (HM m (HS s tl)))))) (mapR ouV (fun z => (e0 :: (HD z (HF f (HW w (HM m (HS s tl))))))) (B_Scav_putLinksRight_72 d f w m s x1 x2)) := by
  unfold B_Scav_putLinksRight_72
  refine ev_aload_n d_Scav_putLinksRight_72 rfl rfl ?_
  refine ev_get (v := .ref 1) gi_Scav (ci := 5) rfl rfl 0 (by decide) gw_268 rfl d_Scav_putLinksRight_73 ?_
  refine ev_aload_n d_Scav_putLinksRight_76 rfl rfl ?_
  refine ev_get (v := .ref 1) gi_Scav (ci := 5) rfl rfl 0 (by decide) gw_268 rfl d_Scav_putLinksRight_77 ?_
  refine ev_iload_n d_Scav_putLinksRight_80 rfl rfl ?_
  refine ev_iconst (v := 0) d_Scav_putLinksRight_81 rfl ?_
  refine ev_callr (Mc := M_Disk_search) (v := some (.int (xSearch d x1 0))) (h1 := (e0 :: (HD d (HF f (HW w (HM m (HS s tl))))))) (k2 := 0) (n2 := 0) (inv_V (q := 1) (av := [.int x1, .int 0]) (rest := [.ref 1]) rfl (ci := 1) rfl d_Scav_putLinksRight_82 gw_349 gw_350 gw_351 mw_Disk_search nh_Disk_search pn_Disk_search rfl) d_Scav_putLinksRight_82 pl_Disk_search (Nat.le_of_ble_eq_true rfl) (Nat.le_of_ble_eq_true rfl) (Nat.le_of_ble_eq_true rfl) rfl rfl (c_Disk_search (e0 := e0) (tl := (HF f (HW w (HM m (HS s tl)))))  d x1 0) (Or.inl (len1 (lenHD (lenHF (lenHW (lenHM (lenHS rfl))))))) ?_
  refine ev_iconst (v := 3) d_Scav_putLinksRight_85 rfl ?_
  refine ev_iload_n d_Scav_putLinksRight_86 rfl rfl ?_
  refine ev_callr (Mc := M_Disk_setByte) (v := none) (h1 := (e0 :: (HD ((f_Disk_setByte d (xSearch d x1 0) 3 x2).2) (HF f (HW w (HM m (HS s tl))))))) (k2 := 0) (n2 := 0) (inv_V (q := 1) (av := [.int (xSearch d x1 0), .int 3, .int x2]) (rest := []) rfl (ci := 1) rfl d_Scav_putLinksRight_87 gw_385 gw_190 gw_191 mw_Disk_setByte nh_Disk_setByte pn_Disk_setByte rfl) d_Scav_putLinksRight_87 pl_Disk_setByte (Nat.le_of_ble_eq_true rfl) (Nat.le_of_ble_eq_true rfl) (Nat.le_of_ble_eq_true rfl) rfl rfl (e_f_Disk_setByte (e0 := e0) (tl := (HF f (HW w (HM m (HS s tl)))))  d (xSearch d x1 0) 3 x2) (Or.inl (len1 (lenHD (lenHF (lenHW (lenHM (lenHS rfl))))))) ?_
  exact ev_pick [] rfl (e_B_Scav_putLinksRight_90     ((f_Disk_setByte d (xSearch d x1 0) 3 x2).2) f w m s)
def B_Scav_putLinksRight_63  (r4 : DS → FS → WS → MS → SS → Int32 → Int32 → Int32 → Option (Unit × DS)) (d : DS) (f : FS) (w : WS) (m : MS) (s : SS) (x1 : Int32) (x3 : Int32) (x4 : Int32) : Option (Unit × DS) :=
  r4 d f w m s x1 x4 (x3 + 1)
theorem e_B_Scav_putLinksRight_63 {sc : Nat × (Nat → Int32)} {e0 : mn_E} {tl : List mn_E}  (r4 : DS → FS → WS → MS → SS → Int32 → Int32 → Int32 → Option (Unit × DS)) (hr4 : ∀ (d : DS) (f : FS) (w : WS) (m : MS) (s : SS) (x1 : Int32) (x2 : Int32) (x3 : Int32), Ev sc 2 31 0 0 M_Scav_putLinksRight 4 [(0, .ref 9), (1, .int x1), (2, .int x2), (3, .int x3)] [] (e0 :: (HD d (HF f (HW w (HM m (HS s tl)))))) (mapR ouV (fun z => (e0 :: (HD z (HF f (HW w (HM m (HS s tl))))))) (r4 d f w m s x1 x2 x3))) (d : DS) (f : FS) (w : WS) (m : MS) (s : SS) (x1 : Int32) (x3 : Int32) (x4 : Int32) : Ev sc 2 31 0 0 M_Scav_putLinksRight 63 [(0, .ref 9), (1, .int x1), (3, .int x3), (4, .int x4)] [] (e0 :: (HD d (HF f (HW w (HM m (HS s tl)))))) (mapR ouV (fun z => (e0 :: (HD z (HF f (HW w (HM m (HS s tl))))))) (B_Scav_putLinksRight_63 r4 d f w m s x1 x3 x4)) := by
  unfold B_Scav_putLinksRight_63
  refine ev_iload d_Scav_putLinksRight_63 rfl ?_
  refine ev_istore_n d_Scav_putLinksRight_65 rfl (by decide) rfl ?_
  refine ev_iinc (v := (x3 + 1)) d_Scav_putLinksRight_66 rfl rfl (by decide) rfl ?_
  refine ev_goto (tgt := 4) d_Scav_putLinksRight_69 rfl ?_
  exact ev_pick [2, 3, 1, 0] rfl (hr4 d f w m s x1 x4 (x3 + 1))
def B_Scav_putLinksRight_52  (r4 : DS → FS → WS → MS → SS → Int32 → Int32 → Int32 → Option (Unit × DS)) (d : DS) (f : FS) (w : WS) (m : MS) (s : SS) (x1 : Int32) (x3 : Int32) (x4 : Int32) : Option (Unit × DS) :=
  B_Scav_putLinksRight_63  r4 (xSetCell d x4 3 (-1)) f w m s x1 x3 x4
theorem e_B_Scav_putLinksRight_52 {sc : Nat × (Nat → Int32)} {e0 : mn_E} {tl : List mn_E}  (r4 : DS → FS → WS → MS → SS → Int32 → Int32 → Int32 → Option (Unit × DS)) (hr4 : ∀ (d : DS) (f : FS) (w : WS) (m : MS) (s : SS) (x1 : Int32) (x2 : Int32) (x3 : Int32), Ev sc 2 31 0 0 M_Scav_putLinksRight 4 [(0, .ref 9), (1, .int x1), (2, .int x2), (3, .int x3)] [] (e0 :: (HD d (HF f (HW w (HM m (HS s tl)))))) (mapR ouV (fun z => (e0 :: (HD z (HF f (HW w (HM m (HS s tl))))))) (r4 d f w m s x1 x2 x3))) (d : DS) (f : FS) (w : WS) (m : MS) (s : SS) (x1 : Int32) (x3 : Int32) (x4 : Int32) : Ev sc 2 31 0 0 M_Scav_putLinksRight 52 [(0, .ref 9), (1, .int x1), (3, .int x3), (4, .int x4)] [] (e0 :: (HD d (HF f (HW w (HM m (HS s tl)))))) (mapR ouV (fun z => (e0 :: (HD z (HF f (HW w (HM m (HS s tl))))))) (B_Scav_putLinksRight_52 r4 d f w m s x1 x3 x4)) := by
  unfold B_Scav_putLinksRight_52
  refine ev_aload_n d_Scav_putLinksRight_52 rfl rfl ?_
  refine ev_get (v := .ref 1) gi_Scav (ci := 5) rfl rfl 0 (by decide) gw_268 rfl d_Scav_putLinksRight_53 ?_
  refine ev_iload d_Scav_putLinksRight_56 rfl ?_
  refine ev_iconst (v := 3) d_Scav_putLinksRight_58 rfl ?_
  refine ev_iconst (v := -1) d_Scav_putLinksRight_59 rfl ?_
  refine ev_callr (Mc := M_Disk_setCell) (v := none) (h1 := (e0 :: (HD (xSetCell d x4 3 (-1)) (HF f (HW w (HM m (HS s tl))))))) (k2 := 0) (n2 := 0) (inv_V (q := 1) (av := [.int x4, .int 3, .int (-1)]) (rest := []) rfl (ci := 1) rfl d_Scav_putLinksRight_60 gw_468 gw_178 gw_179 mw_Disk_setCell nh_Disk_setCell pn_Disk_setCell rfl) d_Scav_putLinksRight_60 pl_Disk_setCell (Nat.le_of_ble_eq_true rfl) (Nat.le_of_ble_eq_true rfl) (Nat.le_of_ble_eq_true rfl) rfl rfl (c_Disk_setCell (e0 := e0) (tl := (HF f (HW w (HM m (HS s tl)))))  d x4 3 (-1)) (Or.inl (len1 (lenHD (lenHF (lenHW (lenHM (lenHS rfl))))))) ?_
  exact ev_pick [0, 1, 2, 3] rfl (e_B_Scav_putLinksRight_63   r4 hr4 (xSetCell d x4 3 (-1)) f w m s x1 x3 x4)
def B_Scav_putLinksRight_41  (r4 : DS → FS → WS → MS → SS → Int32 → Int32 → Int32 → Option (Unit × DS)) (d : DS) (f : FS) (w : WS) (m : MS) (s : SS) (x1 : Int32) (x2 : Int32) (x3 : Int32) (x4 : Int32) : Option (Unit × DS) :=
  B_Scav_putLinksRight_52  r4 (xSetCell d x4 4 x2) f w m s x1 x3 x4
theorem e_B_Scav_putLinksRight_41 {sc : Nat × (Nat → Int32)} {e0 : mn_E} {tl : List mn_E}  (r4 : DS → FS → WS → MS → SS → Int32 → Int32 → Int32 → Option (Unit × DS)) (hr4 : ∀ (d : DS) (f : FS) (w : WS) (m : MS) (s : SS) (x1 : Int32) (x2 : Int32) (x3 : Int32), Ev sc 2 31 0 0 M_Scav_putLinksRight 4 [(0, .ref 9), (1, .int x1), (2, .int x2), (3, .int x3)] [] (e0 :: (HD d (HF f (HW w (HM m (HS s tl)))))) (mapR ouV (fun z => (e0 :: (HD z (HF f (HW w (HM m (HS s tl))))))) (r4 d f w m s x1 x2 x3))) (d : DS) (f : FS) (w : WS) (m : MS) (s : SS) (x1 : Int32) (x2 : Int32) (x3 : Int32) (x4 : Int32) : Ev sc 2 31 0 0 M_Scav_putLinksRight 41 [(0, .ref 9), (1, .int x1), (2, .int x2), (3, .int x3), (4, .int x4)] [] (e0 :: (HD d (HF f (HW w (HM m (HS s tl)))))) (mapR ouV (fun z => (e0 :: (HD z (HF f (HW w (HM m (HS s tl))))))) (B_Scav_putLinksRight_41 r4 d f w m s x1 x2 x3 x4)) := by
  unfold B_Scav_putLinksRight_41
  refine ev_aload_n d_Scav_putLinksRight_41 rfl rfl ?_
  refine ev_get (v := .ref 1) gi_Scav (ci := 5) rfl rfl 0 (by decide) gw_268 rfl d_Scav_putLinksRight_42 ?_
  refine ev_iload d_Scav_putLinksRight_45 rfl ?_
  refine ev_iconst (v := 4) d_Scav_putLinksRight_47 rfl ?_
  refine ev_iload_n d_Scav_putLinksRight_48 rfl rfl ?_
  refine ev_callr (Mc := M_Disk_setCell) (v := none) (h1 := (e0 :: (HD (xSetCell d x4 4 x2) (HF f (HW w (HM m (HS s tl))))))) (k2 := 0) (n2 := 0) (inv_V (q := 1) (av := [.int x4, .int 4, .int x2]) (rest := []) rfl (ci := 1) rfl d_Scav_putLinksRight_49 gw_468 gw_178 gw_179 mw_Disk_setCell nh_Disk_setCell pn_Disk_setCell rfl) d_Scav_putLinksRight_49 pl_Disk_setCell (Nat.le_of_ble_eq_true rfl) (Nat.le_of_ble_eq_true rfl) (Nat.le_of_ble_eq_true rfl) rfl rfl (c_Disk_setCell (e0 := e0) (tl := (HF f (HW w (HM m (HS s tl)))))  d x4 4 x2) (Or.inl (len1 (lenHD (lenHF (lenHW (lenHM (lenHS rfl))))))) ?_
  exact ev_pick [0, 1, 3, 4] rfl (e_B_Scav_putLinksRight_52   r4 hr4 (xSetCell d x4 4 x2) f w m s x1 x3 x4)
def L_Scav_putLinksRight_4   : Nat → DS → FS → WS → MS → SS → Int32 → Int32 → Int32 → Option (Unit × DS)
  | 0, _, _, _, _, _, _, _, _ => none
  | n + 1, d, f, w, m, s, x1, x2, x3 =>
  if 40 ≤ x3 then (B_Scav_putLinksRight_72   d f w m s x1 x2) else (if ¬ (xSearch d x1 x3) = (-1) then (B_Scav_putLinksRight_41  (L_Scav_putLinksRight_4 n) (xSetCell d x2 3 (xSearch d x1 x3)) f w m s x1 x2 x3 (xSearch d x1 x3)) else (B_Scav_putLinksRight_72   d f w m s x1 x2))
theorem e_L_Scav_putLinksRight_4 {sc : Nat × (Nat → Int32)} {e0 : mn_E} {tl : List mn_E}    : ∀ (n : Nat) (d : DS) (f : FS) (w : WS) (m : MS) (s : SS) (x1 : Int32) (x2 : Int32) (x3 : Int32), Ev sc 2 31 0 0 M_Scav_putLinksRight 4 [(0, .ref 9), (1, .int x1), (2, .int x2), (3, .int x3)] [] (e0 :: (HD d (HF f (HW w (HM m (HS s tl)))))) (mapR ouV (fun z => (e0 :: (HD z (HF f (HW w (HM m (HS s tl))))))) (L_Scav_putLinksRight_4   n d f w m s x1 x2 x3)) := by
  intro n
  induction n with
  | zero => intro d f w m s x1 x2 x3; exact ev_none
  | succ n ih =>
    intro d f w m s x1 x2 x3
    rw [L_Scav_putLinksRight_4]
    refine ev_iload_n d_Scav_putLinksRight_4 rfl rfl ?_
    refine ev_bipush (v := 40) d_Scav_putLinksRight_5 rfl ?_
    refine ev_icmp_ge (tgt := 72) d_Scav_putLinksRight_7 rfl (fun h1 => ?_) (fun h1 => ?_)
    · rw [if_pos h1]
      exact ev_pick [0, 1, 2] rfl (e_B_Scav_putLinksRight_72     d f w m s x1 x2)
    · rw [if_neg h1]
      refine ev_aload_n d_Scav_putLinksRight_10 rfl rfl ?_
      refine ev_get (v := .ref 1) gi_Scav (ci := 5) rfl rfl 0 (by decide) gw_268 rfl d_Scav_putLinksRight_11 ?_
      refine ev_iload_n d_Scav_putLinksRight_14 rfl rfl ?_
      refine ev_iload_n d_Scav_putLinksRight_15 rfl rfl ?_
      refine ev_callr (Mc := M_Disk_search) (v := some (.int (xSearch d x1 x3))) (h1 := (e0 :: (HD d (HF f (HW w (HM m (HS s tl))))))) (k2 := 0) (n2 := 0) (inv_V (q := 1) (av := [.int x1, .int x3]) (rest := []) rfl (ci := 1) rfl d_Scav_putLinksRight_16 gw_349 gw_350 gw_351 mw_Disk_search nh_Disk_search pn_Disk_search rfl) d_Scav_putLinksRight_16 pl_Disk_search (Nat.le_of_ble_eq_true rfl) (Nat.le_of_ble_eq_true rfl) (Nat.le_of_ble_eq_true rfl) rfl rfl (c_Disk_search (e0 := e0) (tl := (HF f (HW w (HM m (HS s tl)))))  d x1 x3) (Or.inl (len1 (lenHD (lenHF (lenHW (lenHM (lenHS rfl))))))) ?_
      refine ev_istore d_Scav_putLinksRight_19 (by decide) rfl ?_
      refine ev_iload d_Scav_putLinksRight_21 rfl ?_
      refine ev_iconst (v := -1) d_Scav_putLinksRight_23 rfl ?_
      refine ev_icmp_ne (tgt := 30) d_Scav_putLinksRight_24 rfl (fun h2 => ?_) (fun h2 => ?_)
      · rw [if_pos h2]
        refine ev_aload_n d_Scav_putLinksRight_30 rfl rfl ?_
        refine ev_get (v := .ref 1) gi_Scav (ci := 5) rfl rfl 0 (by decide) gw_268 rfl d_Scav_putLinksRight_31 ?_
        refine ev_iload_n d_Scav_putLinksRight_34 rfl rfl ?_
        refine ev_iconst (v := 3) d_Scav_putLinksRight_35 rfl ?_
        refine ev_iload d_Scav_putLinksRight_36 rfl ?_
        refine ev_callr (Mc := M_Disk_setCell) (v := none) (h1 := (e0 :: (HD (xSetCell d x2 3 (xSearch d x1 x3)) (HF f (HW w (HM m (HS s tl))))))) (k2 := 0) (n2 := 0) (inv_V (q := 1) (av := [.int x2, .int 3, .int (xSearch d x1 x3)]) (rest := []) rfl (ci := 1) rfl d_Scav_putLinksRight_38 gw_468 gw_178 gw_179 mw_Disk_setCell nh_Disk_setCell pn_Disk_setCell rfl) d_Scav_putLinksRight_38 pl_Disk_setCell (Nat.le_of_ble_eq_true rfl) (Nat.le_of_ble_eq_true rfl) (Nat.le_of_ble_eq_true rfl) rfl rfl (c_Disk_setCell (e0 := e0) (tl := (HF f (HW w (HM m (HS s tl)))))  d x2 3 (xSearch d x1 x3)) (Or.inl (len1 (lenHD (lenHF (lenHW (lenHM (lenHS rfl))))))) ?_
        exact ev_pick [1, 2, 3, 4, 0] rfl (e_B_Scav_putLinksRight_41   (L_Scav_putLinksRight_4 n) ih (xSetCell d x2 3 (xSearch d x1 x3)) f w m s x1 x2 x3 (xSearch d x1 x3))
      · rw [if_neg h2]
        refine ev_goto (tgt := 72) d_Scav_putLinksRight_27 rfl ?_
        exact ev_pick [1, 2, 3] rfl (e_B_Scav_putLinksRight_72     d f w m s x1 x2)
def f_Scav_putLinksRight   (d : DS) (f : FS) (w : WS) (m : MS) (s : SS) (x1 : Int32) : Option (Unit × DS) :=
  L_Scav_putLinksRight_4   100 d f w m s x1 (-1) 0
theorem e_f_Scav_putLinksRight {sc : Nat × (Nat → Int32)} {e0 : mn_E} {tl : List mn_E}    (d : DS) (f : FS) (w : WS) (m : MS) (s : SS) (x1 : Int32) : Ev sc 2 31 0 0 M_Scav_putLinksRight 0 [(0, .ref 9), (1, .int x1)] [] (e0 :: (HD d (HF f (HW w (HM m (HS s tl)))))) (mapR ouV (fun z => (e0 :: (HD z (HF f (HW w (HM m (HS s tl))))))) (f_Scav_putLinksRight d f w m s x1)) := by
  unfold f_Scav_putLinksRight
  refine ev_iconst (v := -1) d_Scav_putLinksRight_0 rfl ?_
  refine ev_istore_n d_Scav_putLinksRight_1 rfl (by decide) rfl ?_
  refine ev_iconst (v := 0) d_Scav_putLinksRight_2 rfl ?_
  refine ev_istore_n d_Scav_putLinksRight_3 rfl (by decide) rfl ?_
  exact ev_pick [2, 3, 1, 0] rfl (e_L_Scav_putLinksRight_4     100 d f w m s x1 (-1) 0)
def B_Scav_putRight_52   (d : DS) (f : FS) (w : WS) (m : MS) (s : SS) : Option (Unit × DS) :=
  some ((), d)
theorem e_B_Scav_putRight_52 {sc : Nat × (Nat → Int32)} {e0 : mn_E} {tl : List mn_E}    (d : DS) (f : FS) (w : WS) (m : MS) (s : SS) : Ev sc 3 47 0 0 M_Scav_putRight 52 [] [] (e0 :: (HD d (HF f (HW w (HM m (HS s tl)))))) (mapR ouV (fun z => (e0 :: (HD z (HF f (HW w (HM m (HS s tl))))))) (B_Scav_putRight_52 d f w m s)) := by
  unfold B_Scav_putRight_52
  exact ev_vret rfl d_Scav_putRight_52
def B_Scav_putRight_44   (d : DS) (f : FS) (w : WS) (m : MS) (s : SS) (x1 : Int32) : Option (Unit × DS) :=
  B_Scav_putRight_52   (xMapBits d x1) f w m s
theorem e_B_Scav_putRight_44 {sc : Nat × (Nat → Int32)} {e0 : mn_E} {tl : List mn_E}    (d : DS) (f : FS) (w : WS) (m : MS) (s : SS) (x1 : Int32) : Ev sc 3 47 0 0 M_Scav_putRight 44 [(0, .ref 9), (1, .int x1)] [] (e0 :: (HD d (HF f (HW w (HM m (HS s tl)))))) (mapR ouV (fun z => (e0 :: (HD z (HF f (HW w (HM m (HS s tl))))))) (B_Scav_putRight_44 d f w m s x1)) := by
  unfold B_Scav_putRight_44
  refine ev_aload_n d_Scav_putRight_44 rfl rfl ?_
  refine ev_get (v := .ref 1) gi_Scav (ci := 5) rfl rfl 0 (by decide) gw_268 rfl d_Scav_putRight_45 ?_
  refine ev_iload_n d_Scav_putRight_48 rfl rfl ?_
  refine ev_callr (Mc := M_Disk_setMapBits) (v := none) (h1 := (e0 :: (HD (xMapBits d x1) (HF f (HW w (HM m (HS s tl))))))) (k2 := 0) (n2 := 0) (inv_V (q := 1) (av := [.int x1]) (rest := []) rfl (ci := 1) rfl d_Scav_putRight_49 gw_482 gw_202 gw_203 mw_Disk_setMapBits nh_Disk_setMapBits pn_Disk_setMapBits rfl) d_Scav_putRight_49 pl_Disk_setMapBits (Nat.le_of_ble_eq_true rfl) (Nat.le_of_ble_eq_true rfl) (Nat.le_of_ble_eq_true rfl) rfl rfl (c_Disk_setMapBits (e0 := e0) (tl := (HF f (HW w (HM m (HS s tl)))))  d x1) (Or.inl (len1 (lenHD (lenHF (lenHW (lenHM (lenHS rfl))))))) ?_
  exact ev_pick [] rfl (e_B_Scav_putRight_52     (xMapBits d x1) f w m s)
def B_Scav_putRight_13  (r2 : DS → FS → WS → MS → SS → Int32 → Option (Unit × DS)) (d : DS) (f : FS) (w : WS) (m : MS) (s : SS) (x1 : Int32) : Option (Unit × DS) :=
  r2 d f w m s (x1 + 1)
theorem e_B_Scav_putRight_13 {sc : Nat × (Nat → Int32)} {e0 : mn_E} {tl : List mn_E}  (r2 : DS → FS → WS → MS → SS → Int32 → Option (Unit × DS)) (hr2 : ∀ (d : DS) (f : FS) (w : WS) (m : MS) (s : SS) (x1 : Int32), Ev sc 3 47 0 0 M_Scav_putRight 2 [(0, .ref 9), (1, .int x1)] [] (e0 :: (HD d (HF f (HW w (HM m (HS s tl)))))) (mapR ouV (fun z => (e0 :: (HD z (HF f (HW w (HM m (HS s tl))))))) (r2 d f w m s x1))) (d : DS) (f : FS) (w : WS) (m : MS) (s : SS) (x1 : Int32) : Ev sc 3 47 0 0 M_Scav_putRight 13 [(0, .ref 9), (1, .int x1)] [] (e0 :: (HD d (HF f (HW w (HM m (HS s tl)))))) (mapR ouV (fun z => (e0 :: (HD z (HF f (HW w (HM m (HS s tl))))))) (B_Scav_putRight_13 r2 d f w m s x1)) := by
  unfold B_Scav_putRight_13
  refine ev_iinc (v := (x1 + 1)) d_Scav_putRight_13 rfl rfl (by decide) rfl ?_
  refine ev_goto (tgt := 2) d_Scav_putRight_16 rfl ?_
  exact ev_pick [1, 0] rfl (hr2 d f w m s (x1 + 1))
def L_Scav_putRight_2   : Nat → DS → FS → WS → MS → SS → Int32 → Option (Unit × DS)
  | 0, _, _, _, _, _, _ => none
  | n + 1, d, f, w, m, s, x1 =>
  if 60 < x1 then (if (xSearch d 2 1) = (-1) then (B_Scav_putRight_52   d f w m s) else (B_Scav_putRight_44   (xSetCell d (xSearch d 2 1) 2 5) f w m s (xSearch d 2 1))) else (bnd (f_Scav_putLinksRight d f w m s x1) (fun q => B_Scav_putRight_13  (L_Scav_putRight_2 n) q.2 f w m s x1))
theorem e_L_Scav_putRight_2 {sc : Nat × (Nat → Int32)} {e0 : mn_E} {tl : List mn_E}    : ∀ (n : Nat) (d : DS) (f : FS) (w : WS) (m : MS) (s : SS) (x1 : Int32), Ev sc 3 47 0 0 M_Scav_putRight 2 [(0, .ref 9), (1, .int x1)] [] (e0 :: (HD d (HF f (HW w (HM m (HS s tl)))))) (mapR ouV (fun z => (e0 :: (HD z (HF f (HW w (HM m (HS s tl))))))) (L_Scav_putRight_2   n d f w m s x1)) := by
  intro n
  induction n with
  | zero => intro d f w m s x1; exact ev_none
  | succ n ih =>
    intro d f w m s x1
    rw [L_Scav_putRight_2]
    refine ev_iload_n d_Scav_putRight_2 rfl rfl ?_
    refine ev_bipush (v := 60) d_Scav_putRight_3 rfl ?_
    refine ev_icmp_gt (tgt := 19) d_Scav_putRight_5 rfl (fun h1 => ?_) (fun h1 => ?_)
    · rw [if_pos h1]
      refine ev_aload_n d_Scav_putRight_19 rfl rfl ?_
      refine ev_get (v := .ref 1) gi_Scav (ci := 5) rfl rfl 0 (by decide) gw_268 rfl d_Scav_putRight_20 ?_
      refine ev_iconst (v := 2) d_Scav_putRight_23 rfl ?_
      refine ev_iconst (v := 1) d_Scav_putRight_24 rfl ?_
      refine ev_callr (Mc := M_Disk_search) (v := some (.int (xSearch d 2 1))) (h1 := (e0 :: (HD d (HF f (HW w (HM m (HS s tl))))))) (k2 := 0) (n2 := 0) (inv_V (q := 1) (av := [.int 2, .int 1]) (rest := []) rfl (ci := 1) rfl d_Scav_putRight_25 gw_349 gw_350 gw_351 mw_Disk_search nh_Disk_search pn_Disk_search rfl) d_Scav_putRight_25 pl_Disk_search (Nat.le_of_ble_eq_true rfl) (Nat.le_of_ble_eq_true rfl) (Nat.le_of_ble_eq_true rfl) rfl rfl (c_Disk_search (e0 := e0) (tl := (HF f (HW w (HM m (HS s tl)))))  d 2 1) (Or.inl (len1 (lenHD (lenHF (lenHW (lenHM (lenHS rfl))))))) ?_
      refine ev_istore_n d_Scav_putRight_28 rfl (by decide) rfl ?_
      refine ev_iload_n d_Scav_putRight_29 rfl rfl ?_
      refine ev_iconst (v := -1) d_Scav_putRight_30 rfl ?_
      refine ev_icmp_eq (tgt := 52) d_Scav_putRight_31 rfl (fun h2 => ?_) (fun h2 => ?_)
      · rw [if_pos h2]
        exact ev_pick [] rfl (e_B_Scav_putRight_52     d f w m s)
      · rw [if_neg h2]
        refine ev_aload_n d_Scav_putRight_34 rfl rfl ?_
        refine ev_get (v := .ref 1) gi_Scav (ci := 5) rfl rfl 0 (by decide) gw_268 rfl d_Scav_putRight_35 ?_
        refine ev_iload_n d_Scav_putRight_38 rfl rfl ?_
        refine ev_iconst (v := 2) d_Scav_putRight_39 rfl ?_
        refine ev_iconst (v := 5) d_Scav_putRight_40 rfl ?_
        refine ev_callr (Mc := M_Disk_setCell) (v := none) (h1 := (e0 :: (HD (xSetCell d (xSearch d 2 1) 2 5) (HF f (HW w (HM m (HS s tl))))))) (k2 := 0) (n2 := 0) (inv_V (q := 1) (av := [.int (xSearch d 2 1), .int 2, .int 5]) (rest := []) rfl (ci := 1) rfl d_Scav_putRight_41 gw_468 gw_178 gw_179 mw_Disk_setCell nh_Disk_setCell pn_Disk_setCell rfl) d_Scav_putRight_41 pl_Disk_setCell (Nat.le_of_ble_eq_true rfl) (Nat.le_of_ble_eq_true rfl) (Nat.le_of_ble_eq_true rfl) rfl rfl (c_Disk_setCell (e0 := e0) (tl := (HF f (HW w (HM m (HS s tl)))))  d (xSearch d 2 1) 2 5) (Or.inl (len1 (lenHD (lenHF (lenHW (lenHM (lenHS rfl))))))) ?_
        exact ev_pick [1, 0] rfl (e_B_Scav_putRight_44     (xSetCell d (xSearch d 2 1) 2 5) f w m s (xSearch d 2 1))
    · rw [if_neg h1]
      refine ev_aload_n d_Scav_putRight_8 rfl rfl ?_
      refine ev_iload_n d_Scav_putRight_9 rfl rfl ?_
      refine ev_callB (rc := (f_Scav_putLinksRight d f w m s x1)) (ou := ouV) (Hs := (fun z => (e0 :: (HD z (HF f (HW w (HM m (HS s tl)))))))) (inv_V (q := 9) (av := [.int x1]) (rest := []) rfl (ci := 5) rfl d_Scav_putRight_10 gw_478 gw_480 gw_23 mw_Scav_putLinksRight nh_Scav_putLinksRight pn_Scav_putLinksRight rfl) d_Scav_putRight_10 pl_Scav_putLinksRight (Nat.le_of_ble_eq_true rfl) (Nat.le_of_ble_eq_true rfl) (Nat.le_of_ble_eq_true rfl) (e_f_Scav_putLinksRight (e0 := e0) (tl := tl)  d f w m s x1) (fun _ => (len1 (lenHD (lenHF (lenHW (lenHM (lenHS rfl))))))) (fun v z h3 => ⟨_, rfl, ?_⟩)
      exact ev_pick [0, 1] rfl (e_B_Scav_putRight_13   (L_Scav_putRight_2 n) ih z f w m s x1)
def f_Scav_putRight   (d : DS) (f : FS) (w : WS) (m : MS) (s : SS) : Option (Unit × DS) :=
  L_Scav_putRight_2   100 d f w m s 1
theorem e_f_Scav_putRight {sc : Nat × (Nat → Int32)} {e0 : mn_E} {tl : List mn_E}    (d : DS) (f : FS) (w : WS) (m : MS) (s : SS) : Ev sc 3 47 0 0 M_Scav_putRight 0 [(0, .ref 9)] [] (e0 :: (HD d (HF f (HW w (HM m (HS s tl)))))) (mapR ouV (fun z => (e0 :: (HD z (HF f (HW w (HM m (HS s tl))))))) (f_Scav_putRight d f w m s)) := by
  unfold f_Scav_putRight
  refine ev_iconst (v := 1) d_Scav_putRight_0 rfl ?_
  refine ev_istore_n d_Scav_putRight_1 rfl (by decide) rfl ?_
  exact ev_pick [1, 0] rfl (e_L_Scav_putRight_2     100 d f w m s 1)
def B_Scav_countFiles_24  (r4 : DS → FS → WS → MS → SS → Int32 → Int32 → Option (Int32 × Unit)) (d : DS) (f : FS) (w : WS) (m : MS) (s : SS) (x2 : Int32) (t0 : Int32) (t1 : Int32) : Option (Int32 × Unit) :=
  r4 d f w m s (t0 + t1) (x2 + 1)
theorem e_B_Scav_countFiles_24 {sc : Nat × (Nat → Int32)} {e0 : mn_E} {tl : List mn_E}  (r4 : DS → FS → WS → MS → SS → Int32 → Int32 → Option (Int32 × Unit)) (hr4 : ∀ (d : DS) (f : FS) (w : WS) (m : MS) (s : SS) (x1 : Int32) (x2 : Int32), Ev sc 3 44 0 0 M_Scav_countFiles 4 [(0, .ref 9), (1, .int x1), (2, .int x2)] [] (e0 :: (HD d (HF f (HW w (HM m (HS s tl)))))) (mapR ouI (fun z => (e0 :: (HD d (HF f (HW w (HM m (HS s tl))))))) (r4 d f w m s x1 x2))) (d : DS) (f : FS) (w : WS) (m : MS) (s : SS) (x2 : Int32) (t0 : Int32) (t1 : Int32) : Ev sc 3 44 0 0 M_Scav_countFiles 24 [(0, .ref 9), (2, .int x2)] [.int t1, .int t0] (e0 :: (HD d (HF f (HW w (HM m (HS s tl)))))) (mapR ouI (fun z => (e0 :: (HD d (HF f (HW w (HM m (HS s tl))))))) (B_Scav_countFiles_24 r4 d f w m s x2 t0 t1)) := by
  unfold B_Scav_countFiles_24
  refine ev_iadd d_Scav_countFiles_24 ?_
  refine ev_istore_n d_Scav_countFiles_25 rfl (by decide) rfl ?_
  refine ev_iinc (v := (x2 + 1)) d_Scav_countFiles_26 rfl rfl (by decide) rfl ?_
  refine ev_goto (tgt := 4) d_Scav_countFiles_29 rfl ?_
  exact ev_pick [2, 1, 0] rfl (hr4 d f w m s (t0 + t1) (x2 + 1))
def L_Scav_countFiles_4   : Nat → DS → FS → WS → MS → SS → Int32 → Int32 → Option (Int32 × Unit)
  | 0, _, _, _, _, _, _, _ => none
  | n + 1, d, f, w, m, s, x1, x2 =>
  if 60 < x2 then (some (x1, ())) else (if ((f_Scav_isThere d f w m s x2).1) = 0 then (B_Scav_countFiles_24  (L_Scav_countFiles_4 n) d f w m s x2 x1 0) else (B_Scav_countFiles_24  (L_Scav_countFiles_4 n) d f w m s x2 x1 1))
theorem e_L_Scav_countFiles_4 {sc : Nat × (Nat → Int32)} {e0 : mn_E} {tl : List mn_E}    : ∀ (n : Nat) (d : DS) (f : FS) (w : WS) (m : MS) (s : SS) (x1 : Int32) (x2 : Int32), Ev sc 3 44 0 0 M_Scav_countFiles 4 [(0, .ref 9), (1, .int x1), (2, .int x2)] [] (e0 :: (HD d (HF f (HW w (HM m (HS s tl)))))) (mapR ouI (fun z => (e0 :: (HD d (HF f (HW w (HM m (HS s tl))))))) (L_Scav_countFiles_4   n d f w m s x1 x2)) := by
  intro n
  induction n with
  | zero => intro d f w m s x1 x2; exact ev_none
  | succ n ih =>
    intro d f w m s x1 x2
    rw [L_Scav_countFiles_4]
    refine ev_iload_n d_Scav_countFiles_4 rfl rfl ?_
    refine ev_bipush (v := 60) d_Scav_countFiles_5 rfl ?_
    refine ev_icmp_gt (tgt := 32) d_Scav_countFiles_7 rfl (fun h1 => ?_) (fun h1 => ?_)
    · rw [if_pos h1]
      refine ev_iload_n d_Scav_countFiles_32 rfl rfl ?_
      exact ev_zret (ty := .int) rfl rfl d_Scav_countFiles_33
    · rw [if_neg h1]
      refine ev_iload_n d_Scav_countFiles_10 rfl rfl ?_
      refine ev_aload_n d_Scav_countFiles_11 rfl rfl ?_
      refine ev_iload_n d_Scav_countFiles_12 rfl rfl ?_
      refine ev_callr (Mc := M_Scav_isThere) (v := some (.int ((f_Scav_isThere d f w m s x2).1))) (h1 := (e0 :: (HD d (HF f (HW w (HM m (HS s tl))))))) (k2 := 0) (n2 := 0) (inv_V (q := 9) (av := [.int x2]) (rest := [.int x1]) rfl (ci := 5) rfl d_Scav_countFiles_13 gw_345 gw_347 gw_2 mw_Scav_isThere nh_Scav_isThere pn_Scav_isThere rfl) d_Scav_countFiles_13 pl_Scav_isThere (Nat.le_of_ble_eq_true rfl) (Nat.le_of_ble_eq_true rfl) (Nat.le_of_ble_eq_true rfl) rfl rfl (e_f_Scav_isThere (e0 := e0) (tl := tl)  d f w m s x2) (Or.inl (len1 (lenHD (lenHF (lenHW (lenHM (lenHS rfl))))))) ?_
      refine ev_if_eq (tgt := 23) d_Scav_countFiles_16 rfl (fun h2 => ?_) (fun h2 => ?_)
      · rw [if_pos h2]
        refine ev_iconst (v := 0) d_Scav_countFiles_23 rfl ?_
        exact ev_pick [0, 2] rfl (e_B_Scav_countFiles_24   (L_Scav_countFiles_4 n) ih d f w m s x2 x1 0)
      · rw [if_neg h2]
        refine ev_iconst (v := 1) d_Scav_countFiles_19 rfl ?_
        refine ev_goto (tgt := 24) d_Scav_countFiles_20 rfl ?_
        exact ev_pick [0, 2] rfl (e_B_Scav_countFiles_24   (L_Scav_countFiles_4 n) ih d f w m s x2 x1 1)
def f_Scav_countFiles   (d : DS) (f : FS) (w : WS) (m : MS) (s : SS) : Option (Int32 × Unit) :=
  L_Scav_countFiles_4   100 d f w m s 0 1
theorem e_f_Scav_countFiles {sc : Nat × (Nat → Int32)} {e0 : mn_E} {tl : List mn_E}    (d : DS) (f : FS) (w : WS) (m : MS) (s : SS) : Ev sc 3 44 0 0 M_Scav_countFiles 0 [(0, .ref 9)] [] (e0 :: (HD d (HF f (HW w (HM m (HS s tl)))))) (mapR ouI (fun z => (e0 :: (HD d (HF f (HW w (HM m (HS s tl))))))) (f_Scav_countFiles d f w m s)) := by
  unfold f_Scav_countFiles
  refine ev_iconst (v := 0) d_Scav_countFiles_0 rfl ?_
  refine ev_istore_n d_Scav_countFiles_1 rfl (by decide) rfl ?_
  refine ev_iconst (v := 1) d_Scav_countFiles_2 rfl ?_
  refine ev_istore_n d_Scav_countFiles_3 rfl (by decide) rfl ?_
  exact ev_pick [2, 1, 0] rfl (e_L_Scav_countFiles_4     100 d f w m s 0 1)
def B_Scav_run_158   (d : DS) (f : FS) (w : WS) (m : MS) (s : SS) (t1 : Int32) (t2 : Int32) : Option (Unit × (DS × SS)) :=
  if inB t1 5 then (some ((), (d, (sSRes s (upd (sRes s) t1.toNatClampNeg t2))))) else none
theorem e_B_Scav_run_158 {sc : Nat × (Nat → Int32)} {e0 : mn_E} {tl : List mn_E}    (d : DS) (f : FS) (w : WS) (m : MS) (s : SS) (t1 : Int32) (t2 : Int32) : Ev sc 402 6233 0 0 M_Scav_run 158 [] [.int t2, .int t1, .ref 10] (e0 :: (HD d (HF f (HW w (HM m (HS s tl)))))) (mapR ouV (fun z => (e0 :: (HD z.1 (HF f (HW w (HM m (HS z.2 tl))))))) (B_Scav_run_158 d f w m s t1 t2)) := by
  unfold B_Scav_run_158
  refine ev_inB (fun h1 => ?_)
  refine ev_iastore (h2 := (e0 :: (HD d (HF f (HW w (HM m (HS (sSRes s (upd (sRes s) t1.toNatClampNeg t2)) tl))))))) rfl (inB_of h1) rfl d_Scav_run_158 ?_
  exact ev_vret rfl d_Scav_run_159
def B_Scav_run_115   (d : DS) (f : FS) (w : WS) (m : MS) (s : SS) (t1 : Int32) (t2 : Int32) : Option (Unit × (DS × SS)) :=
  if inB t1 5 then (if inB 1 5 then (if inB 2 5 then (if inB 3 5 then (bnd (f_Disk_countChanged d) (fun q => B_Scav_run_158   q.2 f w m (sSRes (sSRes (sSRes (sSRes s (upd (sRes s) t1.toNatClampNeg t2)) (upd (sRes (sSRes s (upd (sRes s) t1.toNatClampNeg t2))) (1 : Int32).toNatClampNeg (sLos (sSRes s (upd (sRes s) t1.toNatClampNeg t2))))) (upd (sRes (sSRes (sSRes s (upd (sRes s) t1.toNatClampNeg t2)) (upd (sRes (sSRes s (upd (sRes s) t1.toNatClampNeg t2))) (1 : Int32).toNatClampNeg (sLos (sSRes s (upd (sRes s) t1.toNatClampNeg t2)))))) (2 : Int32).toNatClampNeg (sMad (sSRes (sSRes s (upd (sRes s) t1.toNatClampNeg t2)) (upd (sRes (sSRes s (upd (sRes s) t1.toNatClampNeg t2))) (1 : Int32).toNatClampNeg (sLos (sSRes s (upd (sRes s) t1.toNatClampNeg t2)))))))) (upd (sRes (sSRes (sSRes (sSRes s (upd (sRes s) t1.toNatClampNeg t2)) (upd (sRes (sSRes s (upd (sRes s) t1.toNatClampNeg t2))) (1 : Int32).toNatClampNeg (sLos (sSRes s (upd (sRes s) t1.toNatClampNeg t2))))) (upd (sRes (sSRes (sSRes s (upd (sRes s) t1.toNatClampNeg t2)) (upd (sRes (sSRes s (upd (sRes s) t1.toNatClampNeg t2))) (1 : Int32).toNatClampNeg (sLos (sSRes s (upd (sRes s) t1.toNatClampNeg t2)))))) (2 : Int32).toNatClampNeg (sMad (sSRes (sSRes s (upd (sRes s) t1.toNatClampNeg t2)) (upd (sRes (sSRes s (upd (sRes s) t1.toNatClampNeg t2))) (1 : Int32).toNatClampNeg (sLos (sSRes s (upd (sRes s) t1.toNatClampNeg t2))))))))) (3 : Int32).toNatClampNeg (sAdo (sSRes (sSRes (sSRes s (upd (sRes s) t1.toNatClampNeg t2)) (upd (sRes (sSRes s (upd (sRes s) t1.toNatClampNeg t2))) (1 : Int32).toNatClampNeg (sLos (sSRes s (upd (sRes s) t1.toNatClampNeg t2))))) (upd (sRes (sSRes (sSRes s (upd (sRes s) t1.toNatClampNeg t2)) (upd (sRes (sSRes s (upd (sRes s) t1.toNatClampNeg t2))) (1 : Int32).toNatClampNeg (sLos (sSRes s (upd (sRes s) t1.toNatClampNeg t2)))))) (2 : Int32).toNatClampNeg (sMad (sSRes (sSRes s (upd (sRes s) t1.toNatClampNeg t2)) (upd (sRes (sSRes s (upd (sRes s) t1.toNatClampNeg t2))) (1 : Int32).toNatClampNeg (sLos (sSRes s (upd (sRes s) t1.toNatClampNeg t2))))))))))) 4 q.1)) else none) else none) else none) else none
theorem e_B_Scav_run_115 {sc : Nat × (Nat → Int32)} {e0 : mn_E} {tl : List mn_E}    (d : DS) (f : FS) (w : WS) (m : MS) (s : SS) (t1 : Int32) (t2 : Int32) : Ev sc 402 6233 0 0 M_Scav_run 115 [(0, .ref 9)] [.int t2, .int t1, .ref 10] (e0 :: (HD d (HF f (HW w (HM m (HS s tl)))))) (mapR ouV (fun z => (e0 :: (HD z.1 (HF f (HW w (HM m (HS z.2 tl))))))) (B_Scav_run_115 d f w m s t1 t2)) := by
  unfold B_Scav_run_115
  refine ev_inB (fun h1 => ?_)
  refine ev_iastore (h2 := (e0 :: (HD d (HF f (HW w (HM m (HS (sSRes s (upd (sRes s) t1.toNatClampNeg t2)) tl))))))) rfl (inB_of h1) rfl d_Scav_run_115 ?_
  refine ev_aload_n d_Scav_run_116 rfl rfl ?_
  refine ev_get (v := .ref 10) gi_Scav (ci := 5) rfl rfl 1 (by decide) gw_269 rfl d_Scav_run_117 ?_
  refine ev_iconst (v := 1) d_Scav_run_120 rfl ?_
  refine ev_aload_n d_Scav_run_121 rfl rfl ?_
  refine ev_get (v := .int (sLos (sSRes s (upd (sRes s) t1.toNatClampNeg t2)))) gi_Scav (ci := 5) rfl rfl 2 (by decide) gw_270 rfl d_Scav_run_122 ?_
  refine ev_inB (fun h2 => ?_)
  refine ev_iastore (h2 := (e0 :: (HD d (HF f (HW w (HM m (HS (sSRes (sSRes s (upd (sRes s) t1.toNatClampNeg t2)) (upd (sRes (sSRes s (upd (sRes s) t1.toNatClampNeg t2))) (1 : Int32).toNatClampNeg (sLos (sSRes s (upd (sRes s) t1.toNatClampNeg t2))))) tl))))))) rfl (inB_of h2) rfl d_Scav_run_125 ?_
  refine ev_aload_n d_Scav_run_126 rfl rfl ?_
  refine ev_get (v := .ref 10) gi_Scav (ci := 5) rfl rfl 1 (by decide) gw_269 rfl d_Scav_run_127 ?_
  refine ev_iconst (v := 2) d_Scav_run_130 rfl ?_
  refine ev_aload_n d_Scav_run_131 rfl rfl ?_
  refine ev_get (v := .int (sMad (sSRes (sSRes s (upd (sRes s) t1.toNatClampNeg t2)) (upd (sRes (sSRes s (upd (sRes s) t1.toNatClampNeg t2))) (1 : Int32).toNatClampNeg (sLos (sSRes s (upd (sRes s) t1.toNatClampNeg t2))))))) gi_Scav (ci := 5) rfl rfl 3 (by decide) gw_271 rfl d_Scav_run_132 ?_
  refine ev_inB (fun h3 => ?_)
  refine ev_iastore (h2 := (e0 :: (HD d (HF f (HW w (HM m (HS (sSRes (sSRes (sSRes s (upd (sRes s) t1.toNatClampNeg t2)) (upd (sRes (sSRes s (upd (sRes s) t1.toNatClampNeg t2))) (1 : Int32).toNatClampNeg (sLos (sSRes s (upd (sRes s) t1.toNatClampNeg t2))))) (upd (sRes (sSRes (sSRes s (upd (sRes s) t1.toNatClampNeg t2)) (upd (sRes (sSRes s (upd (sRes s) t1.toNatClampNeg t2))) (1 : Int32).toNatClampNeg (sLos (sSRes s (upd (sRes s) t1.toNatClampNeg t2)))))) (2 : Int32).toNatClampNeg (sMad (sSRes (sSRes s (upd (sRes s) t1.toNatClampNeg t2)) (upd (sRes (sSRes s (upd (sRes s) t1.toNatClampNeg t2))) (1 : Int32).toNatClampNeg (sLos (sSRes s (upd (sRes s) t1.toNatClampNeg t2)))))))) tl))))))) rfl (inB_of h3) rfl d_Scav_run_135 ?_
  refine ev_aload_n d_Scav_run_136 rfl rfl ?_
  refine ev_get (v := .ref 10) gi_Scav (ci := 5) rfl rfl 1 (by decide) gw_269 rfl d_Scav_run_137 ?_
  refine ev_iconst (v := 3) d_Scav_run_140 rfl ?_
  refine ev_aload_n d_Scav_run_141 rfl rfl ?_
  refine ev_get (v := .int (sAdo (sSRes (sSRes (sSRes s (upd (sRes s) t1.toNatClampNeg t2)) (upd (sRes (sSRes s (upd (sRes s) t1.toNatClampNeg t2))) (1 : Int32).toNatClampNeg (sLos (sSRes s (upd (sRes s) t1.toNatClampNeg t2))))) (upd (sRes (sSRes (sSRes s (upd (sRes s) t1.toNatClampNeg t2)) (upd (sRes (sSRes s (upd (sRes s) t1.toNatClampNeg t2))) (1 : Int32).toNatClampNeg (sLos (sSRes s (upd (sRes s) t1.toNatClampNeg t2)))))) (2 : Int32).toNatClampNeg (sMad (sSRes (sSRes s (upd (sRes s) t1.toNatClampNeg t2)) (upd (sRes (sSRes s (upd (sRes s) t1.toNatClampNeg t2))) (1 : Int32).toNatClampNeg (sLos (sSRes s (upd (sRes s) t1.toNatClampNeg t2)))))))))) gi_Scav (ci := 5) rfl rfl 4 (by decide) gw_272 rfl d_Scav_run_142 ?_
  refine ev_inB (fun h4 => ?_)
  refine ev_iastore (h2 := (e0 :: (HD d (HF f (HW w (HM m (HS (sSRes (sSRes (sSRes (sSRes s (upd (sRes s) t1.toNatClampNeg t2)) (upd (sRes (sSRes s (upd (sRes s) t1.toNatClampNeg t2))) (1 : Int32).toNatClampNeg (sLos (sSRes s (upd (sRes s) t1.toNatClampNeg t2))))) (upd (sRes (sSRes (sSRes s (upd (sRes s) t1.toNatClampNeg t2)) (upd (sRes (sSRes s (upd (sRes s) t1.toNatClampNeg t2))) (1 : Int32).toNatClampNeg (sLos (sSRes s (upd (sRes s) t1.toNatClampNeg t2)))))) (2 : Int32).toNatClampNeg (sMad (sSRes (sSRes s (upd (sRes s) t1.toNatClampNeg t2)) (upd (sRes (sSRes s (upd (sRes s) t1.toNatClampNeg t2))) (1 : Int32).toNatClampNeg (sLos (sSRes s (upd (sRes s) t1.toNatClampNeg t2)))))))) (upd (sRes (sSRes (sSRes (sSRes s (upd (sRes s) t1.toNatClampNeg t2)) (upd (sRes (sSRes s (upd (sRes s) t1.toNatClampNeg t2))) (1 : Int32).toNatClampNeg (sLos (sSRes s (upd (sRes s) t1.toNatClampNeg t2))))) (upd (sRes (sSRes (sSRes s (upd (sRes s) t1.toNatClampNeg t2)) (upd (sRes (sSRes s (upd (sRes s) t1.toNatClampNeg t2))) (1 : Int32).toNatClampNeg (sLos (sSRes s (upd (sRes s) t1.toNatClampNeg t2)))))) (2 : Int32).toNatClampNeg (sMad (sSRes (sSRes s (upd (sRes s) t1.toNatClampNeg t2)) (upd (sRes (sSRes s (upd (sRes s) t1.toNatClampNeg t2))) (1 : Int32).toNatClampNeg (sLos (sSRes s (upd (sRes s) t1.toNatClampNeg t2))))))))) (3 : Int32).toNatClampNeg (sAdo (sSRes (sSRes (sSRes s (upd (sRes s) t1.toNatClampNeg t2)) (upd (sRes (sSRes s (upd (sRes s) t1.toNatClampNeg t2))) (1 : Int32).toNatClampNeg (sLos (sSRes s (upd (sRes s) t1.toNatClampNeg t2))))) (upd (sRes (sSRes (sSRes s (upd (sRes s) t1.toNatClampNeg t2)) (upd (sRes (sSRes s (upd (sRes s) t1.toNatClampNeg t2))) (1 : Int32).toNatClampNeg (sLos (sSRes s (upd (sRes s) t1.toNatClampNeg t2)))))) (2 : Int32).toNatClampNeg (sMad (sSRes (sSRes s (upd (sRes s) t1.toNatClampNeg t2)) (upd (sRes (sSRes s (upd (sRes s) t1.toNatClampNeg t2))) (1 : Int32).toNatClampNeg (sLos (sSRes s (upd (sRes s) t1.toNatClampNeg t2))))))))))) tl))))))) rfl (inB_of h4) rfl d_Scav_run_145 ?_
  refine ev_aload_n d_Scav_run_146 rfl rfl ?_
  refine ev_get (v := .ref 10) gi_Scav (ci := 5) rfl rfl 1 (by decide) gw_269 rfl d_Scav_run_147 ?_
  refine ev_iconst (v := 4) d_Scav_run_150 rfl ?_
  refine ev_aload_n d_Scav_run_151 rfl rfl ?_
  refine ev_get (v := .ref 1) gi_Scav (ci := 5) rfl rfl 0 (by decide) gw_268 rfl d_Scav_run_152 ?_
  refine ev_callB (rc := (f_Disk_countChanged d)) (ou := ouI) (Hs := (fun z => (e0 :: (HD z (HF f (HW w (HM m (HS (sSRes (sSRes (sSRes (sSRes s (upd (sRes s) t1.toNatClampNeg t2)) (upd (sRes (sSRes s (upd (sRes s) t1.toNatClampNeg t2))) (1 : Int32).toNatClampNeg (sLos (sSRes s (upd (sRes s) t1.toNatClampNeg t2))))) (upd (sRes (sSRes (sSRes s (upd (sRes s) t1.toNatClampNeg t2)) (upd (sRes (sSRes s (upd (sRes s) t1.toNatClampNeg t2))) (1 : Int32).toNatClampNeg (sLos (sSRes s (upd (sRes s) t1.toNatClampNeg t2)))))) (2 : Int32).toNatClampNeg (sMad (sSRes (sSRes s (upd (sRes s) t1.toNatClampNeg t2)) (upd (sRes (sSRes s (upd (sRes s) t1.toNatClampNeg t2))) (1 : Int32).toNatClampNeg (sLos (sSRes s (upd (sRes s) t1.toNatClampNeg t2)))))))) (upd (sRes (sSRes (sSRes (sSRes s (upd (sRes s) t1.toNatClampNeg t2)) (upd (sRes (sSRes s (upd (sRes s) t1.toNatClampNeg t2))) (1 : Int32).toNatClampNeg (sLos (sSRes s (upd (sRes s) t1.toNatClampNeg t2))))) (upd (sRes (sSRes (sSRes s (upd (sRes s) t1.toNatClampNeg t2)) (upd (sRes (sSRes s (upd (sRes s) t1.toNatClampNeg t2))) (1 : Int32).toNatClampNeg (sLos (sSRes s (upd (sRes s) t1.toNatClampNeg t2)))))) (2 : Int32).toNatClampNeg (sMad (sSRes (sSRes s (upd (sRes s) t1.toNatClampNeg t2)) (upd (sRes (sSRes s (upd (sRes s) t1.toNatClampNeg t2))) (1 : Int32).toNatClampNeg (sLos (sSRes s (upd (sRes s) t1.toNatClampNeg t2))))))))) (3 : Int32).toNatClampNeg (sAdo (sSRes (sSRes (sSRes s (upd (sRes s) t1.toNatClampNeg t2)) (upd (sRes (sSRes s (upd (sRes s) t1.toNatClampNeg t2))) (1 : Int32).toNatClampNeg (sLos (sSRes s (upd (sRes s) t1.toNatClampNeg t2))))) (upd (sRes (sSRes (sSRes s (upd (sRes s) t1.toNatClampNeg t2)) (upd (sRes (sSRes s (upd (sRes s) t1.toNatClampNeg t2))) (1 : Int32).toNatClampNeg (sLos (sSRes s (upd (sRes s) t1.toNatClampNeg t2)))))) (2 : Int32).toNatClampNeg (sMad (sSRes (sSRes s (upd (sRes s) t1.toNatClampNeg t2)) (upd (sRes (sSRes s (upd (sRes s) t1.toNatClampNeg t2))) (1 : Int32).toNatClampNeg (sLos (sSRes s (upd (sRes s) t1.toNatClampNeg t2))))))))))) tl)))))))) (inv_V (q := 1) (av := []) (rest := [.int 4, .ref 10]) rfl (ci := 1) rfl d_Scav_run_155 gw_487 gw_488 gw_489 mw_Disk_countChanged nh_Disk_countChanged pn_Disk_countChanged rfl) d_Scav_run_155 pl_Disk_countChanged (Nat.le_of_ble_eq_true rfl) (Nat.le_of_ble_eq_true rfl) (Nat.le_of_ble_eq_true rfl) (e_f_Disk_countChanged (e0 := e0) (tl := (HF f (HW w (HM m (HS (sSRes (sSRes (sSRes (sSRes s (upd (sRes s) t1.toNatClampNeg t2)) (upd (sRes (sSRes s (upd (sRes s) t1.toNatClampNeg t2))) (1 : Int32).toNatClampNeg (sLos (sSRes s (upd (sRes s) t1.toNatClampNeg t2))))) (upd (sRes (sSRes (sSRes s (upd (sRes s) t1.toNatClampNeg t2)) (upd (sRes (sSRes s (upd (sRes s) t1.toNatClampNeg t2))) (1 : Int32).toNatClampNeg (sLos (sSRes s (upd (sRes s) t1.toNatClampNeg t2)))))) (2 : Int32).toNatClampNeg (sMad (sSRes (sSRes s (upd (sRes s) t1.toNatClampNeg t2)) (upd (sRes (sSRes s (upd (sRes s) t1.toNatClampNeg t2))) (1 : Int32).toNatClampNeg (sLos (sSRes s (upd (sRes s) t1.toNatClampNeg t2)))))))) (upd (sRes (sSRes (sSRes (sSRes s (upd (sRes s) t1.toNatClampNeg t2)) (upd (sRes (sSRes s (upd (sRes s) t1.toNatClampNeg t2))) (1 : Int32).toNatClampNeg (sLos (sSRes s (upd (sRes s) t1.toNatClampNeg t2))))) (upd (sRes (sSRes (sSRes s (upd (sRes s) t1.toNatClampNeg t2)) (upd (sRes (sSRes s (upd (sRes s) t1.toNatClampNeg t2))) (1 : Int32).toNatClampNeg (sLos (sSRes s (upd (sRes s) t1.toNatClampNeg t2)))))) (2 : Int32).toNatClampNeg (sMad (sSRes (sSRes s (upd (sRes s) t1.toNatClampNeg t2)) (upd (sRes (sSRes s (upd (sRes s) t1.toNatClampNeg t2))) (1 : Int32).toNatClampNeg (sLos (sSRes s (upd (sRes s) t1.toNatClampNeg t2))))))))) (3 : Int32).toNatClampNeg (sAdo (sSRes (sSRes (sSRes s (upd (sRes s) t1.toNatClampNeg t2)) (upd (sRes (sSRes s (upd (sRes s) t1.toNatClampNeg t2))) (1 : Int32).toNatClampNeg (sLos (sSRes s (upd (sRes s) t1.toNatClampNeg t2))))) (upd (sRes (sSRes (sSRes s (upd (sRes s) t1.toNatClampNeg t2)) (upd (sRes (sSRes s (upd (sRes s) t1.toNatClampNeg t2))) (1 : Int32).toNatClampNeg (sLos (sSRes s (upd (sRes s) t1.toNatClampNeg t2)))))) (2 : Int32).toNatClampNeg (sMad (sSRes (sSRes s (upd (sRes s) t1.toNatClampNeg t2)) (upd (sRes (sSRes s (upd (sRes s) t1.toNatClampNeg t2))) (1 : Int32).toNatClampNeg (sLos (sSRes s (upd (sRes s) t1.toNatClampNeg t2))))))))))) tl)))))  d ) (fun _ => (len1 (lenHD (lenHF (lenHW (lenHM (lenHS rfl))))))) (fun v z h5 => ⟨_, rfl, ?_⟩)
  exact ev_pick [] rfl (e_B_Scav_run_158     z f w m (sSRes (sSRes (sSRes (sSRes s (upd (sRes s) t1.toNatClampNeg t2)) (upd (sRes (sSRes s (upd (sRes s) t1.toNatClampNeg t2))) (1 : Int32).toNatClampNeg (sLos (sSRes s (upd (sRes s) t1.toNatClampNeg t2))))) (upd (sRes (sSRes (sSRes s (upd (sRes s) t1.toNatClampNeg t2)) (upd (sRes (sSRes s (upd (sRes s) t1.toNatClampNeg t2))) (1 : Int32).toNatClampNeg (sLos (sSRes s (upd (sRes s) t1.toNatClampNeg t2)))))) (2 : Int32).toNatClampNeg (sMad (sSRes (sSRes s (upd (sRes s) t1.toNatClampNeg t2)) (upd (sRes (sSRes s (upd (sRes s) t1.toNatClampNeg t2))) (1 : Int32).toNatClampNeg (sLos (sSRes s (upd (sRes s) t1.toNatClampNeg t2)))))))) (upd (sRes (sSRes (sSRes (sSRes s (upd (sRes s) t1.toNatClampNeg t2)) (upd (sRes (sSRes s (upd (sRes s) t1.toNatClampNeg t2))) (1 : Int32).toNatClampNeg (sLos (sSRes s (upd (sRes s) t1.toNatClampNeg t2))))) (upd (sRes (sSRes (sSRes s (upd (sRes s) t1.toNatClampNeg t2)) (upd (sRes (sSRes s (upd (sRes s) t1.toNatClampNeg t2))) (1 : Int32).toNatClampNeg (sLos (sSRes s (upd (sRes s) t1.toNatClampNeg t2)))))) (2 : Int32).toNatClampNeg (sMad (sSRes (sSRes s (upd (sRes s) t1.toNatClampNeg t2)) (upd (sRes (sSRes s (upd (sRes s) t1.toNatClampNeg t2))) (1 : Int32).toNatClampNeg (sLos (sSRes s (upd (sRes s) t1.toNatClampNeg t2))))))))) (3 : Int32).toNatClampNeg (sAdo (sSRes (sSRes (sSRes s (upd (sRes s) t1.toNatClampNeg t2)) (upd (sRes (sSRes s (upd (sRes s) t1.toNatClampNeg t2))) (1 : Int32).toNatClampNeg (sLos (sSRes s (upd (sRes s) t1.toNatClampNeg t2))))) (upd (sRes (sSRes (sSRes s (upd (sRes s) t1.toNatClampNeg t2)) (upd (sRes (sSRes s (upd (sRes s) t1.toNatClampNeg t2))) (1 : Int32).toNatClampNeg (sLos (sSRes s (upd (sRes s) t1.toNatClampNeg t2)))))) (2 : Int32).toNatClampNeg (sMad (sSRes (sSRes s (upd (sRes s) t1.toNatClampNeg t2)) (upd (sRes (sSRes s (upd (sRes s) t1.toNatClampNeg t2))) (1 : Int32).toNatClampNeg (sLos (sSRes s (upd (sRes s) t1.toNatClampNeg t2))))))))))) 4 v)
def B_Scav_run_106   (d : DS) (f : FS) (w : WS) (m : MS) (s : SS) : Option (Unit × (DS × SS)) :=
  bnd (f_Scav_countFiles d f w m s) (fun q => B_Scav_run_115   d f w m s 0 q.1)
theorem e_B_Scav_run_106 {sc : Nat × (Nat → Int32)} {e0 : mn_E} {tl : List mn_E}    (d : DS) (f : FS) (w : WS) (m : MS) (s : SS) : Ev sc 402 6233 0 0 M_Scav_run 106 [(0, .ref 9)] [] (e0 :: (HD d (HF f (HW w (HM m (HS s tl)))))) (mapR ouV (fun z => (e0 :: (HD z.1 (HF f (HW w (HM m (HS z.2 tl))))))) (B_Scav_run_106 d f w m s)) := by
  unfold B_Scav_run_106
  refine ev_aload_n d_Scav_run_106 rfl rfl ?_
  refine ev_get (v := .ref 10) gi_Scav (ci := 5) rfl rfl 1 (by decide) gw_269 rfl d_Scav_run_107 ?_
  refine ev_iconst (v := 0) d_Scav_run_110 rfl ?_
  refine ev_aload_n d_Scav_run_111 rfl rfl ?_
  refine ev_callB (rc := (f_Scav_countFiles d f w m s)) (ou := ouI) (Hs := (fun z => (e0 :: (HD d (HF f (HW w (HM m (HS s tl)))))))) (inv_V (q := 9) (av := []) (rest := [.int 0, .ref 10]) rfl (ci := 5) rfl d_Scav_run_112 gw_483 gw_485 gw_24 mw_Scav_countFiles nh_Scav_countFiles pn_Scav_countFiles rfl) d_Scav_run_112 pl_Scav_countFiles (Nat.le_of_ble_eq_true rfl) (Nat.le_of_ble_eq_true rfl) (Nat.le_of_ble_eq_true rfl) (e_f_Scav_countFiles (e0 := e0) (tl := tl)  d f w m s ) (fun _ => (len1 (lenHD (lenHF (lenHW (lenHM (lenHS rfl))))))) (fun v z h1 => ⟨_, rfl, ?_⟩)
  exact ev_pick [0] rfl (e_B_Scav_run_115     d f w m s 0 v)
def B_Scav_run_102   (d : DS) (f : FS) (w : WS) (m : MS) (s : SS) : Option (Unit × (DS × SS)) :=
  bnd (f_Scav_putRight d f w m s) (fun q => B_Scav_run_106   q.2 f w m s)
theorem e_B_Scav_run_102 {sc : Nat × (Nat → Int32)} {e0 : mn_E} {tl : List mn_E}    (d : DS) (f : FS) (w : WS) (m : MS) (s : SS) : Ev sc 402 6233 0 0 M_Scav_run 102 [(0, .ref 9)] [] (e0 :: (HD d (HF f (HW w (HM m (HS s tl)))))) (mapR ouV (fun z => (e0 :: (HD z.1 (HF f (HW w (HM m (HS z.2 tl))))))) (B_Scav_run_102 d f w m s)) := by
  unfold B_Scav_run_102
  refine ev_aload_n d_Scav_run_102 rfl rfl ?_
  refine ev_callB (rc := (f_Scav_putRight d f w m s)) (ou := ouV) (Hs := (fun z => (e0 :: (HD z (HF f (HW w (HM m (HS s tl)))))))) (inv_V (q := 9) (av := []) (rest := []) rfl (ci := 5) rfl d_Scav_run_103 gw_474 gw_476 gw_22 mw_Scav_putRight nh_Scav_putRight pn_Scav_putRight rfl) d_Scav_run_103 pl_Scav_putRight (Nat.le_of_ble_eq_true rfl) (Nat.le_of_ble_eq_true rfl) (Nat.le_of_ble_eq_true rfl) (e_f_Scav_putRight (e0 := e0) (tl := tl)  d f w m s ) (fun _ => (len1 (lenHD (lenHF (lenHW (lenHM (lenHS rfl))))))) (fun v z h1 => ⟨_, rfl, ?_⟩)
  exact ev_pick [0] rfl (e_B_Scav_run_106     z f w m s)
def B_Scav_run_95  (r68 : DS → FS → WS → MS → SS → Int32 → Int32 → Option (Unit × (DS × SS))) (d : DS) (f : FS) (w : WS) (m : MS) (s : SS) (x2 : Int32) (t0 : Int32) : Option (Unit × (DS × SS)) :=
  r68 d f w m s t0 (x2 + 1)
theorem e_B_Scav_run_95 {sc : Nat × (Nat → Int32)} {e0 : mn_E} {tl : List mn_E}  (r68 : DS → FS → WS → MS → SS → Int32 → Int32 → Option (Unit × (DS × SS))) (hr68 : ∀ (d : DS) (f : FS) (w : WS) (m : MS) (s : SS) (x1 : Int32) (x2 : Int32), Ev sc 402 6233 0 0 M_Scav_run 68 [(0, .ref 9), (1, .int x1), (2, .int x2)] [] (e0 :: (HD d (HF f (HW w (HM m (HS s tl)))))) (mapR ouV (fun z => (e0 :: (HD z.1 (HF f (HW w (HM m (HS z.2 tl))))))) (r68 d f w m s x1 x2))) (d : DS) (f : FS) (w : WS) (m : MS) (s : SS) (x2 : Int32) (t0 : Int32) : Ev sc 402 6233 0 0 M_Scav_run 95 [(0, .ref 9), (2, .int x2)] [.int t0] (e0 :: (HD d (HF f (HW w (HM m (HS s tl)))))) (mapR ouV (fun z => (e0 :: (HD z.1 (HF f (HW w (HM m (HS z.2 tl))))))) (B_Scav_run_95 r68 d f w m s x2 t0)) := by
  unfold B_Scav_run_95
  refine ev_istore_n d_Scav_run_95 rfl (by decide) rfl ?_
  refine ev_iinc (v := (x2 + 1)) d_Scav_run_96 rfl rfl (by decide) rfl ?_
  refine ev_goto (tgt := 68) d_Scav_run_99 rfl ?_
  exact ev_pick [2, 1, 0] rfl (hr68 d f w m s t0 (x2 + 1))
def B_Scav_run_91  (r68 : DS → FS → WS → MS → SS → Int32 → Int32 → Option (Unit × (DS × SS))) (d : DS) (f : FS) (w : WS) (m : MS) (s : SS) (x2 : Int32) (t0 : Int32) : Option (Unit × (DS × SS)) :=
  B_Scav_run_95  r68 d f w m s x2 t0
theorem e_B_Scav_run_91 {sc : Nat × (Nat → Int32)} {e0 : mn_E} {tl : List mn_E}  (r68 : DS → FS → WS → MS → SS → Int32 → Int32 → Option (Unit × (DS × SS))) (hr68 : ∀ (d : DS) (f : FS) (w : WS) (m : MS) (s : SS) (x1 : Int32) (x2 : Int32), Ev sc 402 6233 0 0 M_Scav_run 68 [(0, .ref 9), (1, .int x1), (2, .int x2)] [] (e0 :: (HD d (HF f (HW w (HM m (HS s tl)))))) (mapR ouV (fun z => (e0 :: (HD z.1 (HF f (HW w (HM m (HS z.2 tl))))))) (r68 d f w m s x1 x2))) (d : DS) (f : FS) (w : WS) (m : MS) (s : SS) (x2 : Int32) (t0 : Int32) : Ev sc 402 6233 0 0 M_Scav_run 91 [(0, .ref 9), (2, .int x2)] [.int t0] (e0 :: (HD d (HF f (HW w (HM m (HS s tl)))))) (mapR ouV (fun z => (e0 :: (HD z.1 (HF f (HW w (HM m (HS z.2 tl))))))) (B_Scav_run_91 r68 d f w m s x2 t0)) := by
  unfold B_Scav_run_91
  refine ev_goto (tgt := 95) d_Scav_run_91 rfl ?_
  exact ev_pick [0, 1] rfl (e_B_Scav_run_95   r68 hr68 d f w m s x2 t0)
def B_Scav_run_84  (r68 : DS → FS → WS → MS → SS → Int32 → Int32 → Option (Unit × (DS × SS))) (d : DS) (f : FS) (w : WS) (m : MS) (s : SS) (x2 : Int32) (t0 : Int32) : Option (Unit × (DS × SS)) :=
  if t0 = 0 then (B_Scav_run_95  r68 d f w m s x2 (-1)) else (bnd (f_Scav_nextToAdopt d f w m s) (fun q => B_Scav_run_91  r68 d f w m s x2 q.1))
theorem e_B_Scav_run_84 {sc : Nat × (Nat → Int32)} {e0 : mn_E} {tl : List mn_E}  (r68 : DS → FS → WS → MS → SS → Int32 → Int32 → Option (Unit × (DS × SS))) (hr68 : ∀ (d : DS) (f : FS) (w : WS) (m : MS) (s : SS) (x1 : Int32) (x2 : Int32), Ev sc 402 6233 0 0 M_Scav_run 68 [(0, .ref 9), (1, .int x1), (2, .int x2)] [] (e0 :: (HD d (HF f (HW w (HM m (HS s tl)))))) (mapR ouV (fun z => (e0 :: (HD z.1 (HF f (HW w (HM m (HS z.2 tl))))))) (r68 d f w m s x1 x2))) (d : DS) (f : FS) (w : WS) (m : MS) (s : SS) (x2 : Int32) (t0 : Int32) : Ev sc 402 6233 0 0 M_Scav_run 84 [(0, .ref 9), (2, .int x2)] [.int t0] (e0 :: (HD d (HF f (HW w (HM m (HS s tl)))))) (mapR ouV (fun z => (e0 :: (HD z.1 (HF f (HW w (HM m (HS z.2 tl))))))) (B_Scav_run_84 r68 d f w m s x2 t0)) := by
  unfold B_Scav_run_84
  refine ev_if_eq (tgt := 94) d_Scav_run_84 rfl (fun h1 => ?_) (fun h1 => ?_)
  · rw [if_pos h1]
    refine ev_iconst (v := -1) d_Scav_run_94 rfl ?_
    exact ev_pick [0, 1] rfl (e_B_Scav_run_95   r68 hr68 d f w m s x2 (-1))
  · rw [if_neg h1]
    refine ev_aload_n d_Scav_run_87 rfl rfl ?_
    refine ev_callB (rc := (f_Scav_nextToAdopt d f w m s)) (ou := ouI) (Hs := (fun z => (e0 :: (HD d (HF f (HW w (HM m (HS s tl)))))))) (inv_V (q := 9) (av := []) (rest := []) rfl (ci := 5) rfl d_Scav_run_88 gw_436 gw_438 gw_15 mw_Scav_nextToAdopt nh_Scav_nextToAdopt pn_Scav_nextToAdopt rfl) d_Scav_run_88 pl_Scav_nextToAdopt (Nat.le_of_ble_eq_true rfl) (Nat.le_of_ble_eq_true rfl) (Nat.le_of_ble_eq_true rfl) (e_f_Scav_nextToAdopt (e0 := e0) (tl := tl)  d f w m s ) (fun _ => (len1 (lenHD (lenHF (lenHW (lenHM (lenHS rfl))))))) (fun v z h2 => ⟨_, rfl, ?_⟩)
    exact ev_pick [0, 1] rfl (e_B_Scav_run_91   r68 hr68 d f w m s x2 v)
def L_Scav_run_68   : Nat → DS → FS → WS → MS → SS → Int32 → Int32 → Option (Unit × (DS × SS))
  | 0, _, _, _, _, _, _, _ => none
  | n + 1, d, f, w, m, s, x1, x2 =>
  if 60 ≤ x2 then (B_Scav_run_102   d f w m s) else (if x1 = (-1) then (B_Scav_run_102   d f w m s) else (bnd (f_Scav_adopt d f w m s x1) (fun q => B_Scav_run_84  (L_Scav_run_68 n) q.2.1 f w m q.2.2 x2 q.1)))
theorem e_L_Scav_run_68 {sc : Nat × (Nat → Int32)} {e0 : mn_E} {tl : List mn_E}    : ∀ (n : Nat) (d : DS) (f : FS) (w : WS) (m : MS) (s : SS) (x1 : Int32) (x2 : Int32), Ev sc 402 6233 0 0 M_Scav_run 68 [(0, .ref 9), (1, .int x1), (2, .int x2)] [] (e0 :: (HD d (HF f (HW w (HM m (HS s tl)))))) (mapR ouV (fun z => (e0 :: (HD z.1 (HF f (HW w (HM m (HS z.2 tl))))))) (L_Scav_run_68   n d f w m s x1 x2)) := by
  intro n
  induction n with
  | zero => intro d f w m s x1 x2; exact ev_none
  | succ n ih =>
    intro d f w m s x1 x2
    rw [L_Scav_run_68]
    refine ev_iload_n d_Scav_run_68 rfl rfl ?_
    refine ev_bipush (v := 60) d_Scav_run_69 rfl ?_
    refine ev_icmp_ge (tgt := 102) d_Scav_run_71 rfl (fun h1 => ?_) (fun h1 => ?_)
    · rw [if_pos h1]
      exact ev_pick [0] rfl (e_B_Scav_run_102     d f w m s)
    · rw [if_neg h1]
      refine ev_iload_n d_Scav_run_74 rfl rfl ?_
      refine ev_iconst (v := -1) d_Scav_run_75 rfl ?_
      refine ev_icmp_eq (tgt := 102) d_Scav_run_76 rfl (fun h2 => ?_) (fun h2 => ?_)
      · rw [if_pos h2]
        exact ev_pick [0] rfl (e_B_Scav_run_102     d f w m s)
      · rw [if_neg h2]
        refine ev_aload_n d_Scav_run_79 rfl rfl ?_
        refine ev_iload_n d_Scav_run_80 rfl rfl ?_
        refine ev_callB (rc := (f_Scav_adopt d f w m s x1)) (ou := ouI) (Hs := (fun z => (e0 :: (HD z.1 (HF f (HW w (HM m (HS z.2 tl)))))))) (inv_V (q := 9) (av := [.int x1]) (rest := []) rfl (ci := 5) rfl d_Scav_run_81 gw_448 gw_450 gw_18 mw_Scav_adopt nh_Scav_adopt pn_Scav_adopt rfl) d_Scav_run_81 pl_Scav_adopt (Nat.le_of_ble_eq_true rfl) (Nat.le_of_ble_eq_true rfl) (Nat.le_of_ble_eq_true rfl) (e_f_Scav_adopt (e0 := e0) (tl := tl)  d f w m s x1) (fun _ => (len1 (lenHD (lenHF (lenHW (lenHM (lenHS rfl))))))) (fun v z h3 => ⟨_, rfl, ?_⟩)
        exact ev_pick [0, 2] rfl (e_B_Scav_run_84   (L_Scav_run_68 n) ih z.1 f w m z.2 x2 v)
def B_Scav_run_65   (d : DS) (f : FS) (w : WS) (m : MS) (s : SS) (t0 : Int32) : Option (Unit × (DS × SS)) :=
  L_Scav_run_68   100 d f w m s t0 0
theorem e_B_Scav_run_65 {sc : Nat × (Nat → Int32)} {e0 : mn_E} {tl : List mn_E}    (d : DS) (f : FS) (w : WS) (m : MS) (s : SS) (t0 : Int32) : Ev sc 402 6233 0 0 M_Scav_run 65 [(0, .ref 9)] [.int t0] (e0 :: (HD d (HF f (HW w (HM m (HS s tl)))))) (mapR ouV (fun z => (e0 :: (HD z.1 (HF f (HW w (HM m (HS z.2 tl))))))) (B_Scav_run_65 d f w m s t0)) := by
  unfold B_Scav_run_65
  refine ev_istore_n d_Scav_run_65 rfl (by decide) rfl ?_
  refine ev_iconst (v := 0) d_Scav_run_66 rfl ?_
  refine ev_istore_n d_Scav_run_67 rfl (by decide) rfl ?_
  exact ev_pick [2, 1, 0] rfl (e_L_Scav_run_68     100 d f w m s t0 0)
def B_Scav_run_61   (d : DS) (f : FS) (w : WS) (m : MS) (s : SS) (t0 : Int32) : Option (Unit × (DS × SS)) :=
  B_Scav_run_65   d f w m s t0
theorem e_B_Scav_run_61 {sc : Nat × (Nat → Int32)} {e0 : mn_E} {tl : List mn_E}    (d : DS) (f : FS) (w : WS) (m : MS) (s : SS) (t0 : Int32) : Ev sc 402 6233 0 0 M_Scav_run 61 [(0, .ref 9)] [.int t0] (e0 :: (HD d (HF f (HW w (HM m (HS s tl)))))) (mapR ouV (fun z => (e0 :: (HD z.1 (HF f (HW w (HM m (HS z.2 tl))))))) (B_Scav_run_61 d f w m s t0)) := by
  unfold B_Scav_run_61
  refine ev_goto (tgt := 65) d_Scav_run_61 rfl ?_
  exact ev_pick [0] rfl (e_B_Scav_run_65     d f w m s t0)
def B_Scav_run_49   (d : DS) (f : FS) (w : WS) (m : MS) (s : SS) : Option (Unit × (DS × SS)) :=
  if ((f_Scav_isThere d f w m s 1).1) = 0 then (B_Scav_run_65   d f w m s (-1)) else (bnd (f_Scav_nextToAdopt d f w m s) (fun q => B_Scav_run_61   d f w m s q.1))
theorem e_B_Scav_run_49 {sc : Nat × (Nat → Int32)} {e0 : mn_E} {tl : List mn_E}    (d : DS) (f : FS) (w : WS) (m : MS) (s : SS) : Ev sc 402 6233 0 0 M_Scav_run 49 [(0, .ref 9)] [] (e0 :: (HD d (HF f (HW w (HM m (HS s tl)))))) (mapR ouV (fun z => (e0 :: (HD z.1 (HF f (HW w (HM m (HS z.2 tl))))))) (B_Scav_run_49 d f w m s)) := by
  unfold B_Scav_run_49
  refine ev_aload_n d_Scav_run_49 rfl rfl ?_
  refine ev_iconst (v := 1) d_Scav_run_50 rfl ?_
  refine ev_callr (Mc := M_Scav_isThere) (v := some (.int ((f_Scav_isThere d f w m s 1).1))) (h1 := (e0 :: (HD d (HF f (HW w (HM m (HS s tl))))))) (k2 := 0) (n2 := 0) (inv_V (q := 9) (av := [.int 1]) (rest := []) rfl (ci := 5) rfl d_Scav_run_51 gw_345 gw_347 gw_2 mw_Scav_isThere nh_Scav_isThere pn_Scav_isThere rfl) d_Scav_run_51 pl_Scav_isThere (Nat.le_of_ble_eq_true rfl) (Nat.le_of_ble_eq_true rfl) (Nat.le_of_ble_eq_true rfl) rfl rfl (e_f_Scav_isThere (e0 := e0) (tl := tl)  d f w m s 1) (Or.inl (len1 (lenHD (lenHF (lenHW (lenHM (lenHS rfl))))))) ?_
  refine ev_if_eq (tgt := 64) d_Scav_run_54 rfl (fun h1 => ?_) (fun h1 => ?_)
  · rw [if_pos h1]
    refine ev_iconst (v := -1) d_Scav_run_64 rfl ?_
    exact ev_pick [0] rfl (e_B_Scav_run_65     d f w m s (-1))
  · rw [if_neg h1]
    refine ev_aload_n d_Scav_run_57 rfl rfl ?_
    refine ev_callB (rc := (f_Scav_nextToAdopt d f w m s)) (ou := ouI) (Hs := (fun z => (e0 :: (HD d (HF f (HW w (HM m (HS s tl)))))))) (inv_V (q := 9) (av := []) (rest := []) rfl (ci := 5) rfl d_Scav_run_58 gw_436 gw_438 gw_15 mw_Scav_nextToAdopt nh_Scav_nextToAdopt pn_Scav_nextToAdopt rfl) d_Scav_run_58 pl_Scav_nextToAdopt (Nat.le_of_ble_eq_true rfl) (Nat.le_of_ble_eq_true rfl) (Nat.le_of_ble_eq_true rfl) (e_f_Scav_nextToAdopt (e0 := e0) (tl := tl)  d f w m s ) (fun _ => (len1 (lenHD (lenHF (lenHW (lenHM (lenHS rfl))))))) (fun v z h2 => ⟨_, rfl, ?_⟩)
    exact ev_pick [0] rfl (e_B_Scav_run_61     d f w m s v)
def B_Scav_run_35   (d : DS) (f : FS) (w : WS) (m : MS) (s : SS) : Option (Unit × (DS × SS)) :=
  if ((f_Scav_isThere d f w m s 1).1) = 0 then (B_Scav_run_49   d f w m s) else (bnd (F_Scav_walk 100 d f w m s 1 0) (fun q => B_Scav_run_49   q.2.1 f w m q.2.2))
theorem e_B_Scav_run_35 {sc : Nat × (Nat → Int32)} {e0 : mn_E} {tl : List mn_E}    (d : DS) (f : FS) (w : WS) (m : MS) (s : SS) : Ev sc 402 6233 0 0 M_Scav_run 35 [(0, .ref 9)] [] (e0 :: (HD d (HF f (HW w (HM m (HS s tl)))))) (mapR ouV (fun z => (e0 :: (HD z.1 (HF f (HW w (HM m (HS z.2 tl))))))) (B_Scav_run_35 d f w m s)) := by
  unfold B_Scav_run_35
  refine ev_aload_n d_Scav_run_35 rfl rfl ?_
  refine ev_iconst (v := 1) d_Scav_run_36 rfl ?_
  refine ev_callr (Mc := M_Scav_isThere) (v := some (.int ((f_Scav_isThere d f w m s 1).1))) (h1 := (e0 :: (HD d (HF f (HW w (HM m (HS s tl))))))) (k2 := 0) (n2 := 0) (inv_V (q := 9) (av := [.int 1]) (rest := []) rfl (ci := 5) rfl d_Scav_run_37 gw_345 gw_347 gw_2 mw_Scav_isThere nh_Scav_isThere pn_Scav_isThere rfl) d_Scav_run_37 pl_Scav_isThere (Nat.le_of_ble_eq_true rfl) (Nat.le_of_ble_eq_true rfl) (Nat.le_of_ble_eq_true rfl) rfl rfl (e_f_Scav_isThere (e0 := e0) (tl := tl)  d f w m s 1) (Or.inl (len1 (lenHD (lenHF (lenHW (lenHM (lenHS rfl))))))) ?_
  refine ev_if_eq (tgt := 49) d_Scav_run_40 rfl (fun h1 => ?_) (fun h1 => ?_)
  · rw [if_pos h1]
    exact ev_pick [0] rfl (e_B_Scav_run_49     d f w m s)
  · rw [if_neg h1]
    refine ev_aload_n d_Scav_run_43 rfl rfl ?_
    refine ev_iconst (v := 1) d_Scav_run_44 rfl ?_
    refine ev_iconst (v := 0) d_Scav_run_45 rfl ?_
    refine ev_callB (rc := (F_Scav_walk 100 d f w m s 1 0)) (ou := ouV) (Hs := (fun z => (e0 :: (HD z.1 (HF f (HW w (HM m (HS z.2 tl)))))))) (inv_V (q := 9) (av := [.int 1, .int 0]) (rest := []) rfl (ci := 5) rfl d_Scav_run_46 gw_391 gw_393 gw_9 mw_Scav_walkDirectory nh_Scav_walkDirectory pn_Scav_walkDirectory rfl) d_Scav_run_46 pl_Scav_walkDirectory (Nat.le_of_ble_eq_true rfl) (Nat.le_of_ble_eq_true rfl) (Nat.le_of_ble_eq_true rfl) (e_F_Scav_walk (e0 := e0) (tl := tl) 100 d f w m s 1 0) (fun _ => (len1 (lenHD (lenHF (lenHW (lenHM (lenHS rfl))))))) (fun v z h2 => ⟨_, rfl, ?_⟩)
    exact ev_pick [0] rfl (e_B_Scav_run_49     z.1 f w m z.2)
def B_Scav_run_31   (d : DS) (f : FS) (w : WS) (m : MS) (s : SS) : Option (Unit × (DS × SS)) :=
  bnd (f_Scav_makeLeaders d f w m s) (fun q => B_Scav_run_35   q.2.1 f w m q.2.2)
theorem e_B_Scav_run_31 {sc : Nat × (Nat → Int32)} {e0 : mn_E} {tl : List mn_E}    (d : DS) (f : FS) (w : WS) (m : MS) (s : SS) : Ev sc 402 6233 0 0 M_Scav_run 31 [(0, .ref 9)] [] (e0 :: (HD d (HF f (HW w (HM m (HS s tl)))))) (mapR ouV (fun z => (e0 :: (HD z.1 (HF f (HW w (HM m (HS z.2 tl))))))) (B_Scav_run_31 d f w m s)) := by
  unfold B_Scav_run_31
  refine ev_aload_n d_Scav_run_31 rfl rfl ?_
  refine ev_callB (rc := (f_Scav_makeLeaders d f w m s)) (ou := ouV) (Hs := (fun z => (e0 :: (HD z.1 (HF f (HW w (HM m (HS z.2 tl)))))))) (inv_V (q := 9) (av := []) (rest := []) rfl (ci := 5) rfl d_Scav_run_32 gw_363 gw_365 gw_4 mw_Scav_makeLeaders nh_Scav_makeLeaders pn_Scav_makeLeaders rfl) d_Scav_run_32 pl_Scav_makeLeaders (Nat.le_of_ble_eq_true rfl) (Nat.le_of_ble_eq_true rfl) (Nat.le_of_ble_eq_true rfl) (e_f_Scav_makeLeaders (e0 := e0) (tl := tl)  d f w m s ) (fun _ => (len1 (lenHD (lenHF (lenHW (lenHM (lenHS rfl))))))) (fun v z h1 => ⟨_, rfl, ?_⟩)
  exact ev_pick [0] rfl (e_B_Scav_run_35     z.1 f w m z.2)
def B_Scav_run_27   (d : DS) (f : FS) (w : WS) (m : MS) (s : SS) : Option (Unit × (DS × SS)) :=
  bnd (f_Scav_loseUnkept d f w m s) (fun q => B_Scav_run_31   q.2.1 f w m q.2.2)
theorem e_B_Scav_run_27 {sc : Nat × (Nat → Int32)} {e0 : mn_E} {tl : List mn_E}    (d : DS) (f : FS) (w : WS) (m : MS) (s : SS) : Ev sc 402 6233 0 0 M_Scav_run 27 [(0, .ref 9)] [] (e0 :: (HD d (HF f (HW w (HM m (HS s tl)))))) (mapR ouV (fun z => (e0 :: (HD z.1 (HF f (HW w (HM m (HS z.2 tl))))))) (B_Scav_run_27 d f w m s)) := by
  unfold B_Scav_run_27
  refine ev_aload_n d_Scav_run_27 rfl rfl ?_
  refine ev_callB (rc := (f_Scav_loseUnkept d f w m s)) (ou := ouV) (Hs := (fun z => (e0 :: (HD z.1 (HF f (HW w (HM m (HS z.2 tl)))))))) (inv_V (q := 9) (av := []) (rest := []) rfl (ci := 5) rfl d_Scav_run_28 gw_337 gw_339 gw_0 mw_Scav_loseUnkept nh_Scav_loseUnkept pn_Scav_loseUnkept rfl) d_Scav_run_28 pl_Scav_loseUnkept (Nat.le_of_ble_eq_true rfl) (Nat.le_of_ble_eq_true rfl) (Nat.le_of_ble_eq_true rfl) (e_f_Scav_loseUnkept (e0 := e0) (tl := tl)  d f w m s ) (fun _ => (len1 (lenHD (lenHF (lenHW (lenHM (lenHS rfl))))))) (fun v z h1 => ⟨_, rfl, ?_⟩)
  exact ev_pick [0] rfl (e_B_Scav_run_31     z.1 f w m z.2)
def f_Scav_run   (d : DS) (f : FS) (w : WS) (m : MS) (s : SS) : Option (Unit × (DS × SS)) :=
  B_Scav_run_27   ((f_Disk_keepEarlier d).2) f w m (sSRea (sSAdo (sSMad (sSLos s 0) 0) 0) 0)
theorem e_f_Scav_run {sc : Nat × (Nat → Int32)} {e0 : mn_E} {tl : List mn_E}    (d : DS) (f : FS) (w : WS) (m : MS) (s : SS) : Ev sc 402 6233 0 0 M_Scav_run 0 [(0, .ref 9)] [] (e0 :: (HD d (HF f (HW w (HM m (HS s tl)))))) (mapR ouV (fun z => (e0 :: (HD z.1 (HF f (HW w (HM m (HS z.2 tl))))))) (f_Scav_run d f w m s)) := by
  unfold f_Scav_run
  refine ev_aload_n d_Scav_run_0 rfl rfl ?_
  refine ev_iconst (v := 0) d_Scav_run_1 rfl ?_
  refine ev_put (h2 := (e0 :: (HD d (HF f (HW w (HM m (HS (sSLos s 0) tl))))))) gi_Scav ft_Scav fo_Scav fn_Scav (ci := 5) rfl rfl 2 (by decide) gw_270 rfl rfl (fun _ => rfl) (fun _ => rfl) (Nat.le_of_ble_eq_true rfl) rfl d_Scav_run_2 ?_
  refine ev_aload_n d_Scav_run_5 rfl rfl ?_
  refine ev_iconst (v := 0) d_Scav_run_6 rfl ?_
  refine ev_put (h2 := (e0 :: (HD d (HF f (HW w (HM m (HS (sSMad (sSLos s 0) 0) tl))))))) gi_Scav ft_Scav fo_Scav fn_Scav (ci := 5) rfl rfl 3 (by decide) gw_271 rfl rfl (fun _ => rfl) (fun _ => rfl) (Nat.le_of_ble_eq_true rfl) rfl d_Scav_run_7 ?_
  refine ev_aload_n d_Scav_run_10 rfl rfl ?_
  refine ev_iconst (v := 0) d_Scav_run_11 rfl ?_
  refine ev_put (h2 := (e0 :: (HD d (HF f (HW w (HM m (HS (sSAdo (sSMad (sSLos s 0) 0) 0) tl))))))) gi_Scav ft_Scav fo_Scav fn_Scav (ci := 5) rfl rfl 4 (by decide) gw_272 rfl rfl (fun _ => rfl) (fun _ => rfl) (Nat.le_of_ble_eq_true rfl) rfl d_Scav_run_12 ?_
  refine ev_aload_n d_Scav_run_15 rfl rfl ?_
  refine ev_lconst (v := 0) d_Scav_run_16 rfl ?_
  refine ev_put (h2 := (e0 :: (HD d (HF f (HW w (HM m (HS (sSRea (sSAdo (sSMad (sSLos s 0) 0) 0) 0) tl))))))) gi_Scav ft_Scav fo_Scav fn_Scav (ci := 5) rfl rfl 5 (by decide) gw_273 rfl rfl (fun _ => rfl) (fun _ => rfl) (Nat.le_of_ble_eq_true rfl) rfl d_Scav_run_17 ?_
  refine ev_aload_n d_Scav_run_20 rfl rfl ?_
  refine ev_get (v := .ref 1) gi_Scav (ci := 5) rfl rfl 0 (by decide) gw_268 rfl d_Scav_run_21 ?_
  refine ev_callr (Mc := M_Disk_keepEarlier) (v := none) (h1 := (e0 :: (HD ((f_Disk_keepEarlier d).2) (HF f (HW w (HM m (HS (sSRea (sSAdo (sSMad (sSLos s 0) 0) 0) 0) tl))))))) (k2 := 0) (n2 := 0) (inv_V (q := 1) (av := []) (rest := []) rfl (ci := 1) rfl d_Scav_run_24 gw_330 gw_331 gw_332 mw_Disk_keepEarlier nh_Disk_keepEarlier pn_Disk_keepEarlier rfl) d_Scav_run_24 pl_Disk_keepEarlier (Nat.le_of_ble_eq_true rfl) (Nat.le_of_ble_eq_true rfl) (Nat.le_of_ble_eq_true rfl) rfl rfl (e_f_Disk_keepEarlier (e0 := e0) (tl := (HF f (HW w (HM m (HS (sSRea (sSAdo (sSMad (sSLos s 0) 0) 0) 0) tl)))))  d ) (Or.inl (len1 (lenHD (lenHF (lenHW (lenHM (lenHS rfl))))))) ?_
  exact ev_pick [0] rfl (e_B_Scav_run_27     ((f_Disk_keepEarlier d).2) f w m (sSRea (sSAdo (sSMad (sSLos s 0) 0) 0) 0))
def B_Scav_result_18   (d : DS) (f : FS) (w : WS) (m : MS) (s : SS) : Option (Int32 × Unit) :=
  some ((-1), ())
theorem e_B_Scav_result_18 {sc : Nat × (Nat → Int32)} {e0 : mn_E} {tl : List mn_E}    (d : DS) (f : FS) (w : WS) (m : MS) (s : SS) : Ev sc 0 0 0 0 M_Scav_result 18 [] [] (e0 :: (HD d (HF f (HW w (HM m (HS s tl)))))) (mapR ouI (fun z => (e0 :: (HD d (HF f (HW w (HM m (HS s tl))))))) (B_Scav_result_18 d f w m s)) := by
  unfold B_Scav_result_18
  refine ev_iconst (v := -1) d_Scav_result_18 rfl ?_
  exact ev_zret (ty := .int) rfl rfl d_Scav_result_19
def f_Scav_result   (d : DS) (f : FS) (w : WS) (m : MS) (s : SS) (x1 : Int32) : Option (Int32 × Unit) :=
  if x1 < 0 then (B_Scav_result_18   d f w m s) else (if 5 ≤ x1 then (B_Scav_result_18   d f w m s) else (if inB x1 5 then (some ((sRes s x1.toNatClampNeg), ())) else none))
theorem e_f_Scav_result {sc : Nat × (Nat → Int32)} {e0 : mn_E} {tl : List mn_E}    (d : DS) (f : FS) (w : WS) (m : MS) (s : SS) (x1 : Int32) : Ev sc 0 0 0 0 M_Scav_result 0 [(0, .ref 9), (1, .int x1)] [] (e0 :: (HD d (HF f (HW w (HM m (HS s tl)))))) (mapR ouI (fun z => (e0 :: (HD d (HF f (HW w (HM m (HS s tl))))))) (f_Scav_result d f w m s x1)) := by
  unfold f_Scav_result
  refine ev_iload_n d_Scav_result_0 rfl rfl ?_
  refine ev_if_lt (tgt := 18) d_Scav_result_1 rfl (fun h1 => ?_) (fun h1 => ?_)
  · rw [if_pos h1]
    exact ev_pick [] rfl (e_B_Scav_result_18     d f w m s)
  · rw [if_neg h1]
    refine ev_iload_n d_Scav_result_4 rfl rfl ?_
    refine ev_iconst (v := 5) d_Scav_result_5 rfl ?_
    refine ev_icmp_ge (tgt := 18) d_Scav_result_6 rfl (fun h2 => ?_) (fun h2 => ?_)
    · rw [if_pos h2]
      exact ev_pick [] rfl (e_B_Scav_result_18     d f w m s)
    · rw [if_neg h2]
      refine ev_aload_n d_Scav_result_9 rfl rfl ?_
      refine ev_get (v := .ref 10) gi_Scav (ci := 5) rfl rfl 1 (by decide) gw_269 rfl d_Scav_result_10 ?_
      refine ev_iload_n d_Scav_result_13 rfl rfl ?_
      refine ev_inB (fun h3 => ?_)
      refine ev_iaload rfl (inB_of h3) d_Scav_result_14 ?_
      refine ev_goto (tgt := 19) d_Scav_result_15 rfl ?_
      exact ev_zret (ty := .int) rfl rfl d_Scav_result_19
