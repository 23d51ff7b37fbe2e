def f_Mod_thrown   (r : RS) : (Int32 × Unit) :=
  ((rThr r), ())
theorem e_f_Mod_thrown {sc : Nat × (Nat → Int32)} {d : DS} {f : FS} {w : WS} {m : MS} {s : SS} {g : GS} {tl : List mn_E}    (r : RS) : Ev sc 0 0 0 0 M_Mod_thrown 0 [(0, .ref 12)] [] (eLV :: (HD d (HF f (HW w (HM m (HS s (HG g (HR r tl)))))))) (mapT ouI (fun z => (eLV :: (HD d (HF f (HW w (HM m (HS s (HG g (HR r tl))))))))) (f_Mod_thrown r)) := by
  unfold f_Mod_thrown
  refine ev_aload_n d_Mod_thrown_0 rfl rfl ?_
  refine ev_get (v := .int (rThr r)) gi_Mod (ci := 6) rfl rfl 0 (by decide) gw_1001 rfl d_Mod_thrown_1 ?_
  exact ev_zret (ty := .int) rfl rfl d_Mod_thrown_4
def B_Mod_label0_22   (r : RS) : Option (Unit × RS) :=
  some ((), r)
theorem e_B_Mod_label0_22 {sc : Nat × (Nat → Int32)} {d : DS} {f : FS} {w : WS} {m : MS} {s : SS} {g : GS} {tl : List mn_E}    (r : RS) : Ev sc 0 0 0 0 M_Mod_label0 22 [] [] (eLV :: (HD d (HF f (HW w (HM m (HS s (HG g (HR r tl)))))))) (mapR ouV (fun z => (eLV :: (HD d (HF f (HW w (HM m (HS s (HG g (HR z tl))))))))) (B_Mod_label0_22 r)) := by
  unfold B_Mod_label0_22
  exact ev_vret rfl d_Mod_label0_22
def B_Mod_label0_14   (r : RS) (x1 : Int32) (x4 : Int32) : Option (Unit × RS) :=
  if inB x1 40 then (B_Mod_label0_22   (rSUse r (upd (rUse r) x1.toNatClampNeg x4))) else none
theorem e_B_Mod_label0_14 {sc : Nat × (Nat → Int32)} {d : DS} {f : FS} {w : WS} {m : MS} {s : SS} {g : GS} {tl : List mn_E}    (r : RS) (x1 : Int32) (x4 : Int32) : Ev sc 0 0 0 0 M_Mod_label0 14 [(0, .ref 12), (1, .int x1), (4, .int x4)] [] (eLV :: (HD d (HF f (HW w (HM m (HS s (HG g (HR r tl)))))))) (mapR ouV (fun z => (eLV :: (HD d (HF f (HW w (HM m (HS s (HG g (HR z tl))))))))) (B_Mod_label0_14 r x1 x4)) := by
  unfold B_Mod_label0_14
  refine ev_aload_n d_Mod_label0_14 rfl rfl ?_
  refine ev_get (v := .ref 15) gi_Mod (ci := 6) rfl rfl 4 (by decide) gw_1005 rfl d_Mod_label0_15 ?_
  refine ev_iload_n d_Mod_label0_18 rfl rfl ?_
  refine ev_iload d_Mod_label0_19 rfl ?_
  refine ev_inB (fun h1 => ?_)
  refine ev_iastore (h2 := (eLV :: (HD d (HF f (HW w (HM m (HS s (HG g (HR (rSUse r (upd (rUse r) x1.toNatClampNeg x4)) tl))))))))) rfl (inB_of h1) rfl d_Mod_label0_21 ?_
  exact ev_pick [] rfl (e_B_Mod_label0_22     (rSUse r (upd (rUse r) x1.toNatClampNeg x4)))
def B_Mod_label0_7   (r : RS) (x1 : Int32) (x3 : Int32) (x4 : Int32) : Option (Unit × RS) :=
  if inB x1 40 then (B_Mod_label0_14   (rSPag r (upd (rPag r) x1.toNatClampNeg x3)) x1 x4) else none
theorem e_B_Mod_label0_7 {sc : Nat × (Nat → Int32)} {d : DS} {f : FS} {w : WS} {m : MS} {s : SS} {g : GS} {tl : List mn_E}    (r : RS) (x1 : Int32) (x3 : Int32) (x4 : Int32) : Ev sc 0 0 0 0 M_Mod_label0 7 [(0, .ref 12), (1, .int x1), (3, .int x3), (4, .int x4)] [] (eLV :: (HD d (HF f (HW w (HM m (HS s (HG g (HR r tl)))))))) (mapR ouV (fun z => (eLV :: (HD d (HF f (HW w (HM m (HS s (HG g (HR z tl))))))))) (B_Mod_label0_7 r x1 x3 x4)) := by
  unfold B_Mod_label0_7
  refine ev_aload_n d_Mod_label0_7 rfl rfl ?_
  refine ev_get (v := .ref 14) gi_Mod (ci := 6) rfl rfl 3 (by decide) gw_1004 rfl d_Mod_label0_8 ?_
  refine ev_iload_n d_Mod_label0_11 rfl rfl ?_
  refine ev_iload_n d_Mod_label0_12 rfl rfl ?_
  refine ev_inB (fun h1 => ?_)
  refine ev_iastore (h2 := (eLV :: (HD d (HF f (HW w (HM m (HS s (HG g (HR (rSPag r (upd (rPag r) x1.toNatClampNeg x3)) tl))))))))) rfl (inB_of h1) rfl d_Mod_label0_13 ?_
  exact ev_pick [0, 1, 3] rfl (e_B_Mod_label0_14     (rSPag r (upd (rPag r) x1.toNatClampNeg x3)) x1 x4)
def f_Mod_label0   (r : RS) (x1 : Int32) (x2 : Int32) (x3 : Int32) (x4 : Int32) : Option (Unit × RS) :=
  if inB x1 40 then (B_Mod_label0_7   (rSSer r (upd (rSer r) x1.toNatClampNeg x2)) x1 x3 x4) else none
theorem e_f_Mod_label0 {sc : Nat × (Nat → Int32)} {d : DS} {f : FS} {w : WS} {m : MS} {s : SS} {g : GS} {tl : List mn_E}    (r : RS) (x1 : Int32) (x2 : Int32) (x3 : Int32) (x4 : Int32) : Ev sc 0 0 0 0 M_Mod_label0 0 [(0, .ref 12), (1, .int x1), (2, .int x2), (3, .int x3), (4, .int x4)] [] (eLV :: (HD d (HF f (HW w (HM m (HS s (HG g (HR r tl)))))))) (mapR ouV (fun z => (eLV :: (HD d (HF f (HW w (HM m (HS s (HG g (HR z tl))))))))) (f_Mod_label0 r x1 x2 x3 x4)) := by
  unfold f_Mod_label0
  refine ev_aload_n d_Mod_label0_0 rfl rfl ?_
  refine ev_get (v := .ref 13) gi_Mod (ci := 6) rfl rfl 2 (by decide) gw_1003 rfl d_Mod_label0_1 ?_
  refine ev_iload_n d_Mod_label0_4 rfl rfl ?_
  refine ev_iload_n d_Mod_label0_5 rfl rfl ?_
  refine ev_inB (fun h1 => ?_)
  refine ev_iastore (h2 := (eLV :: (HD d (HF f (HW w (HM m (HS s (HG g (HR (rSSer r (upd (rSer r) x1.toNatClampNeg x2)) tl))))))))) rfl (inB_of h1) rfl d_Mod_label0_6 ?_
  exact ev_pick [0, 1, 3, 4] rfl (e_B_Mod_label0_7     (rSSer r (upd (rSer r) x1.toNatClampNeg x2)) x1 x3 x4)
def B_Mod_in_14    : (Int32 × Unit) :=
  (0, ())
theorem e_B_Mod_in_14 {sc : Nat × (Nat → Int32)} {hh : List mn_E}     : Ev sc 0 0 0 0 M_Mod_in 14 [] [] hh (mapT ouI (fun z => hh) (B_Mod_in_14)) := by
  unfold B_Mod_in_14
  refine ev_iconst (v := 0) d_Mod_in_14 rfl ?_
  exact ev_zret (ty := .boolean) rfl rfl d_Mod_in_15
def f_Mod_in   (x0 : Int32) (x1 : Int32) (x2 : Int32) : (Int32 × Unit) :=
  if x0 < x1 then (B_Mod_in_14   ) else (if x2 < x0 then (B_Mod_in_14   ) else ((1, ())))
theorem e_f_Mod_in {sc : Nat × (Nat → Int32)} {hh : List mn_E}    (x0 : Int32) (x1 : Int32) (x2 : Int32) : Ev sc 0 0 0 0 M_Mod_in 0 [(0, .int x0), (1, .int x1), (2, .int x2)] [] hh (mapT ouI (fun z => hh) (f_Mod_in x0 x1 x2)) := by
  unfold f_Mod_in
  refine ev_iload_n d_Mod_in_0 rfl rfl ?_
  refine ev_iload_n d_Mod_in_1 rfl rfl ?_
  refine ev_icmp_lt (tgt := 14) d_Mod_in_2 rfl (fun h1 => ?_) (fun h1 => ?_)
  · rw [if_pos h1]
    exact ev_pick [] rfl (e_B_Mod_in_14     )
  · rw [if_neg h1]
    refine ev_iload_n d_Mod_in_5 rfl rfl ?_
    refine ev_iload_n d_Mod_in_6 rfl rfl ?_
    refine ev_icmp_gt (tgt := 14) d_Mod_in_7 rfl (fun h2 => ?_) (fun h2 => ?_)
    · rw [if_pos h2]
      exact ev_pick [] rfl (e_B_Mod_in_14     )
    · rw [if_neg h2]
      refine ev_iconst (v := 1) d_Mod_in_10 rfl ?_
      refine ev_goto (tgt := 15) d_Mod_in_11 rfl ?_
      exact ev_zret (ty := .boolean) rfl rfl d_Mod_in_15
def B_Mod_isFree_22   (r : RS) : Option (Int32 × Unit) :=
  some (0, ())
theorem e_B_Mod_isFree_22 {sc : Nat × (Nat → Int32)} {d : DS} {f : FS} {w : WS} {m : MS} {s : SS} {g : GS} {tl : List mn_E}    (r : RS) : Ev sc 0 0 0 0 M_Mod_isFree 22 [] [] (eLV :: (HD d (HF f (HW w (HM m (HS s (HG g (HR r tl)))))))) (mapR ouI (fun z => (eLV :: (HD d (HF f (HW w (HM m (HS s (HG g (HR r tl))))))))) (B_Mod_isFree_22 r)) := by
  unfold B_Mod_isFree_22
  refine ev_iconst (v := 0) d_Mod_isFree_22 rfl ?_
  exact ev_zret (ty := .boolean) rfl rfl d_Mod_isFree_23
def f_Mod_isFree   (r : RS) (x1 : Int32) : Option (Int32 × Unit) :=
  if inB x1 40 then (if ¬ (rBad r x1.toNatClampNeg) = 0 then (B_Mod_isFree_22   r) else (if inB x1 40 then (if ¬ (rSer r x1.toNatClampNeg) = 0 then (B_Mod_isFree_22   r) else (some (1, ()))) else none)) else none
theorem e_f_Mod_isFree {sc : Nat × (Nat → Int32)} {d : DS} {f : FS} {w : WS} {m : MS} {s : SS} {g : GS} {tl : List mn_E}    (r : RS) (x1 : Int32) : Ev sc 0 0 0 0 M_Mod_isFree 0 [(0, .ref 12), (1, .int x1)] [] (eLV :: (HD d (HF f (HW w (HM m (HS s (HG g (HR r tl)))))))) (mapR ouI (fun z => (eLV :: (HD d (HF f (HW w (HM m (HS s (HG g (HR r tl))))))))) (f_Mod_isFree r x1)) := by
  unfold f_Mod_isFree
  refine ev_aload_n d_Mod_isFree_0 rfl rfl ?_
  refine ev_get (v := .ref 19) gi_Mod (ci := 6) rfl rfl 8 (by decide) gw_1009 rfl d_Mod_isFree_1 ?_
  refine ev_iload_n d_Mod_isFree_4 rfl rfl ?_
  refine ev_inB (fun h1 => ?_)
  refine ev_zaload rfl (inB_of h1) d_Mod_isFree_5 ?_
  refine ev_if_ne (tgt := 22) d_Mod_isFree_6 rfl (fun h2 => ?_) (fun h2 => ?_)
  · rw [if_pos h2]
    exact ev_pick [] rfl (e_B_Mod_isFree_22     r)
  · rw [if_neg h2]
    refine ev_aload_n d_Mod_isFree_9 rfl rfl ?_
    refine ev_get (v := .ref 13) gi_Mod (ci := 6) rfl rfl 2 (by decide) gw_1003 rfl d_Mod_isFree_10 ?_
    refine ev_iload_n d_Mod_isFree_13 rfl rfl ?_
    refine ev_inB (fun h3 => ?_)
    refine ev_iaload rfl (inB_of h3) d_Mod_isFree_14 ?_
    refine ev_if_ne (tgt := 22) d_Mod_isFree_15 rfl (fun h4 => ?_) (fun h4 => ?_)
    · rw [if_pos h4]
      exact ev_pick [] rfl (e_B_Mod_isFree_22     r)
    · rw [if_neg h4]
      refine ev_iconst (v := 1) d_Mod_isFree_18 rfl ?_
      refine ev_goto (tgt := 23) d_Mod_isFree_19 rfl ?_
      exact ev_zret (ty := .boolean) rfl rfl d_Mod_isFree_23
def B_Mod_says_43   (r : RS) : Option (Int32 × Unit) :=
  some (0, ())
theorem e_B_Mod_says_43 {sc : Nat × (Nat → Int32)} {d : DS} {f : FS} {w : WS} {m : MS} {s : SS} {g : GS} {tl : List mn_E}    (r : RS) : Ev sc 1 14 0 0 M_Mod_says 43 [] [] (eLV :: (HD d (HF f (HW w (HM m (HS s (HG g (HR r tl)))))))) (mapR ouI (fun z => (eLV :: (HD d (HF f (HW w (HM m (HS s (HG g (HR r tl))))))))) (B_Mod_says_43 r)) := by
  unfold B_Mod_says_43
  refine ev_iconst (v := 0) d_Mod_says_43 rfl ?_
  exact ev_zret (ty := .boolean) rfl rfl d_Mod_says_44
def f_Mod_says   (r : RS) (x1 : Int32) (x2 : Int32) (x3 : Int32) : Option (Int32 × Unit) :=
  if ((f_Mod_in x1 0 39).1) = 0 then (B_Mod_says_43   r) else (if inB x1 40 then (if ¬ (rBad r x1.toNatClampNeg) = 0 then (B_Mod_says_43   r) else (if inB x1 40 then (if ¬ (rSer r x1.toNatClampNeg) = x2 then (B_Mod_says_43   r) else (if inB x1 40 then (if ¬ (rPag r x1.toNatClampNeg) = x3 then (B_Mod_says_43   r) else (some (1, ()))) else none)) else none)) else none)
theorem e_f_Mod_says {sc : Nat × (Nat → Int32)} {d : DS} {f : FS} {w : WS} {m : MS} {s : SS} {g : GS} {tl : List mn_E}    (r : RS) (x1 : Int32) (x2 : Int32) (x3 : Int32) : Ev sc 1 14 0 0 M_Mod_says 0 [(0, .ref 12), (1, .int x1), (2, .int x2), (3, .int x3)] [] (eLV :: (HD d (HF f (HW w (HM m (HS s (HG g (HR r tl)))))))) (mapR ouI (fun z => (eLV :: (HD d (HF f (HW w (HM m (HS s (HG g (HR r tl))))))))) (f_Mod_says r x1 x2 x3)) := by
  unfold f_Mod_says
  refine ev_iload_n d_Mod_says_0 rfl rfl ?_
  refine ev_iconst (v := 0) d_Mod_says_1 rfl ?_
  refine ev_bipush (v := 39) d_Mod_says_2 rfl ?_
  refine ev_callr (Mc := M_Mod_in) (v := some (.int ((f_Mod_in x1 0 39).1))) (h1 := (eLV :: (HD d (HF f (HW w (HM m (HS s (HG g (HR r tl))))))))) (k2 := 0) (n2 := 0) (inv_S (av := [.int x1, .int 0, .int 39]) (rest := []) d_Mod_says_4 gw_1108 gw_1109 gw_108 mw_Mod_in nh_Mod_in pn_Mod_in rfl) d_Mod_says_4 pl_Mod_in (Nat.le_of_ble_eq_true rfl) (Nat.le_of_ble_eq_true rfl) (Nat.le_of_ble_eq_true rfl) rfl rfl (e_f_Mod_in (hh := (eLV :: (HD d (HF f (HW w (HM m (HS s (HG g (HR r tl)))))))))   x1 0 39) (Or.inl (len1 (lenHD (lenHF (lenHW (lenHM (lenHS (lenHG (lenHR rfl))))))))) ?_
  refine ev_if_eq (tgt := 43) d_Mod_says_7 rfl (fun h1 => ?_) (fun h1 => ?_)
  · rw [if_pos h1]
    exact ev_pick [] rfl (e_B_Mod_says_43     r)
  · rw [if_neg h1]
    refine ev_aload_n d_Mod_says_10 rfl rfl ?_
    refine ev_get (v := .ref 19) gi_Mod (ci := 6) rfl rfl 8 (by decide) gw_1009 rfl d_Mod_says_11 ?_
    refine ev_iload_n d_Mod_says_14 rfl rfl ?_
    refine ev_inB (fun h2 => ?_)
    refine ev_zaload rfl (inB_of h2) d_Mod_says_15 ?_
    refine ev_if_ne (tgt := 43) d_Mod_says_16 rfl (fun h3 => ?_) (fun h3 => ?_)
    · rw [if_pos h3]
      exact ev_pick [] rfl (e_B_Mod_says_43     r)
    · rw [if_neg h3]
      refine ev_aload_n d_Mod_says_19 rfl rfl ?_
      refine ev_get (v := .ref 13) gi_Mod (ci := 6) rfl rfl 2 (by decide) gw_1003 rfl d_Mod_says_20 ?_
      refine ev_iload_n d_Mod_says_23 rfl rfl ?_
      refine ev_inB (fun h4 => ?_)
      refine ev_iaload rfl (inB_of h4) d_Mod_says_24 ?_
      refine ev_iload_n d_Mod_says_25 rfl rfl ?_
      refine ev_icmp_ne (tgt := 43) d_Mod_says_26 rfl (fun h5 => ?_) (fun h5 => ?_)
      · rw [if_pos h5]
        exact ev_pick [] rfl (e_B_Mod_says_43     r)
      · rw [if_neg h5]
        refine ev_aload_n d_Mod_says_29 rfl rfl ?_
        refine ev_get (v := .ref 14) gi_Mod (ci := 6) rfl rfl 3 (by decide) gw_1004 rfl d_Mod_says_30 ?_
        refine ev_iload_n d_Mod_says_33 rfl rfl ?_
        refine ev_inB (fun h6 => ?_)
        refine ev_iaload rfl (inB_of h6) d_Mod_says_34 ?_
        refine ev_iload_n d_Mod_says_35 rfl rfl ?_
        refine ev_icmp_ne (tgt := 43) d_Mod_says_36 rfl (fun h7 => ?_) (fun h7 => ?_)
        · rw [if_pos h7]
          exact ev_pick [] rfl (e_B_Mod_says_43     r)
        · rw [if_neg h7]
          refine ev_iconst (v := 1) d_Mod_says_39 rfl ?_
          refine ev_goto (tgt := 44) d_Mod_says_40 rfl ?_
          exact ev_zret (ty := .boolean) rfl rfl d_Mod_says_44
def B_Mod_look_31   (r : RS) (x4 : Int32) : Option (Int32 × RS) :=
  some ((vp_nar .boolean x4), r)
theorem e_B_Mod_look_31 {sc : Nat × (Nat → Int32)} {d : DS} {f : FS} {w : WS} {m : MS} {s : SS} {g : GS} {tl : List mn_E}    (r : RS) (x4 : Int32) : Ev sc 2 29 0 0 M_Mod_look 31 [(4, .int x4)] [] (eLV :: (HD d (HF f (HW w (HM m (HS s (HG g (HR r tl)))))))) (mapR ouI (fun z => (eLV :: (HD d (HF f (HW w (HM m (HS s (HG g (HR z tl))))))))) (B_Mod_look_31 r x4)) := by
  unfold B_Mod_look_31
  refine ev_iload d_Mod_look_31 rfl ?_
  exact ev_zretN rfl d_Mod_look_33
def B_Mod_look_28   (r : RS) (x4 : Int32) (t1 : Int32) : Option (Int32 × RS) :=
  B_Mod_look_31   (rSMis r t1) x4
theorem e_B_Mod_look_28 {sc : Nat × (Nat → Int32)} {d : DS} {f : FS} {w : WS} {m : MS} {s : SS} {g : GS} {tl : List mn_E}    (r : RS) (x4 : Int32) (t1 : Int32) : Ev sc 2 29 0 0 M_Mod_look 28 [(4, .int x4)] [.int t1, .ref 12] (eLV :: (HD d (HF f (HW w (HM m (HS s (HG g (HR r tl)))))))) (mapR ouI (fun z => (eLV :: (HD d (HF f (HW w (HM m (HS s (HG g (HR z tl))))))))) (B_Mod_look_28 r x4 t1)) := by
  unfold B_Mod_look_28
  refine ev_put (h2 := (eLV :: (HD d (HF f (HW w (HM m (HS s (HG g (HR (rSMis r t1) tl))))))))) gi_Mod ft_Mod fo_Mod fn_Mod (ci := 6) rfl rfl 10 (by decide) gw_1011 rfl rfl (fun _ => rfl) (fun _ => rfl) (Nat.le_of_ble_eq_true rfl) rfl d_Mod_look_28 ?_
  exact ev_pick [0] rfl (e_B_Mod_look_31     (rSMis r t1) x4)
def B_Mod_look_7   (r : RS) (t0 : Int32) : Option (Int32 × RS) :=
  if t0 = 0 then (B_Mod_look_28   r t0 ((rMis r) + 1)) else (B_Mod_look_28   r t0 (rMis r))
theorem e_B_Mod_look_7 {sc : Nat × (Nat → Int32)} {d : DS} {f : FS} {w : WS} {m : MS} {s : SS} {g : GS} {tl : List mn_E}    (r : RS) (t0 : Int32) : Ev sc 2 29 0 0 M_Mod_look 7 [(0, .ref 12)] [.int t0] (eLV :: (HD d (HF f (HW w (HM m (HS s (HG g (HR r tl)))))))) (mapR ouI (fun z => (eLV :: (HD d (HF f (HW w (HM m (HS s (HG g (HR z tl))))))))) (B_Mod_look_7 r t0)) := by
  unfold B_Mod_look_7
  refine ev_istore d_Mod_look_7 (by decide) rfl ?_
  refine ev_aload_n d_Mod_look_9 rfl rfl ?_
  refine ev_iload d_Mod_look_10 rfl ?_
  refine ev_if_eq (tgt := 22) d_Mod_look_12 rfl (fun h1 => ?_) (fun h1 => ?_)
  · rw [if_pos h1]
    refine ev_aload_n d_Mod_look_22 rfl rfl ?_
    refine ev_get (v := .int (rMis r)) gi_Mod (ci := 6) rfl rfl 10 (by decide) gw_1011 rfl d_Mod_look_23 ?_
    refine ev_iconst (v := 1) d_Mod_look_26 rfl ?_
    refine ev_iadd d_Mod_look_27 ?_
    exact ev_pick [0] rfl (e_B_Mod_look_28     r t0 ((rMis r) + 1))
  · rw [if_neg h1]
    refine ev_aload_n d_Mod_look_15 rfl rfl ?_
    refine ev_get (v := .int (rMis r)) gi_Mod (ci := 6) rfl rfl 10 (by decide) gw_1011 rfl d_Mod_look_16 ?_
    refine ev_goto (tgt := 28) d_Mod_look_19 rfl ?_
    exact ev_pick [0] rfl (e_B_Mod_look_28     r t0 (rMis r))
def f_Mod_look   (r : RS) (x1 : Int32) (x2 : Int32) (x3 : Int32) : Option (Int32 × RS) :=
  bnd (f_Mod_says r x1 x2 x3) (fun q => B_Mod_look_7   r q.1)
theorem e_f_Mod_look {sc : Nat × (Nat → Int32)} {d : DS} {f : FS} {w : WS} {m : MS} {s : SS} {g : GS} {tl : List mn_E}    (r : RS) (x1 : Int32) (x2 : Int32) (x3 : Int32) : Ev sc 2 29 0 0 M_Mod_look 0 [(0, .ref 12), (1, .int x1), (2, .int x2), (3, .int x3)] [] (eLV :: (HD d (HF f (HW w (HM m (HS s (HG g (HR r tl)))))))) (mapR ouI (fun z => (eLV :: (HD d (HF f (HW w (HM m (HS s (HG g (HR z tl))))))))) (f_Mod_look r x1 x2 x3)) := by
  unfold f_Mod_look
  refine ev_aload_n d_Mod_look_0 rfl rfl ?_
  refine ev_iload_n d_Mod_look_1 rfl rfl ?_
  refine ev_iload_n d_Mod_look_2 rfl rfl ?_
  refine ev_iload_n d_Mod_look_3 rfl rfl ?_
  refine ev_callB (rc := (f_Mod_says r x1 x2 x3)) (ou := ouI) (Hs := (fun z => (eLV :: (HD d (HF f (HW w (HM m (HS s (HG g (HR r tl)))))))))) (inv_V (q := 12) (av := [.int x1, .int x2, .int x3]) (rest := []) rfl (ci := 6) rfl d_Mod_look_4 gw_1115 gw_1117 gw_52 mw_Mod_says nh_Mod_says pn_Mod_says rfl) d_Mod_look_4 pl_Mod_says (Nat.le_of_ble_eq_true rfl) (Nat.le_of_ble_eq_true rfl) (Nat.le_of_ble_eq_true rfl) (e_f_Mod_says (tl := tl) (d := d) (f := f) (w := w) (m := m) (s := s) (g := g)  r x1 x2 x3) (fun _ => (len1 (lenHD (lenHF (lenHW (lenHM (lenHS (lenHG (lenHR rfl))))))))) (fun v z h1 => ⟨_, rfl, ?_⟩)
  exact ev_pick [0] rfl (e_B_Mod_look_7     r v)
def B_Mod_search_28  (r6 : RS → Int32 → Int32 → Int32 → Int32 → Option (Int32 × Unit)) (r : RS) (x1 : Int32) (x2 : Int32) (x4 : Int32) (t0 : Int32) : Option (Int32 × Unit) :=
  r6 r x1 x2 t0 (x4 + (-1))
theorem e_B_Mod_search_28 {sc : Nat × (Nat → Int32)} {d : DS} {f : FS} {w : WS} {m : MS} {s : SS} {g : GS} {tl : List mn_E}  (r6 : RS → Int32 → Int32 → Int32 → Int32 → Option (Int32 × Unit)) (hr6 : ∀ (r : RS) (x1 : Int32) (x2 : Int32) (x3 : Int32) (x4 : Int32), Ev sc 2 29 0 0 M_Mod_search 6 [(0, .ref 12), (1, .int x1), (2, .int x2), (3, .int x3), (4, .int x4)] [] (eLV :: (HD d (HF f (HW w (HM m (HS s (HG g (HR r tl)))))))) (mapR ouI (fun z => (eLV :: (HD d (HF f (HW w (HM m (HS s (HG g (HR r tl))))))))) (r6 r x1 x2 x3 x4))) (r : RS) (x1 : Int32) (x2 : Int32) (x4 : Int32) (t0 : Int32) : Ev sc 2 29 0 0 M_Mod_search 28 [(0, .ref 12), (1, .int x1), (2, .int x2), (4, .int x4)] [.int t0] (eLV :: (HD d (HF f (HW w (HM m (HS s (HG g (HR r tl)))))))) (mapR ouI (fun z => (eLV :: (HD d (HF f (HW w (HM m (HS s (HG g (HR r tl))))))))) (B_Mod_search_28 r6 r x1 x2 x4 t0)) := by
  unfold B_Mod_search_28
  refine ev_istore_n d_Mod_search_28 rfl (by decide) rfl ?_
  refine ev_iinc (v := (x4 + (-1))) d_Mod_search_29 rfl rfl (by decide) rfl ?_
  refine ev_goto (tgt := 6) d_Mod_search_32 rfl ?_
  exact ev_pick [2, 3, 4, 1, 0] rfl (hr6 r x1 x2 t0 (x4 + (-1)))
def B_Mod_search_19  (r6 : RS → Int32 → Int32 → Int32 → Int32 → Option (Int32 × Unit)) (r : RS) (x1 : Int32) (x2 : Int32) (x3 : Int32) (x4 : Int32) (t0 : Int32) : Option (Int32 × Unit) :=
  if t0 = 0 then (B_Mod_search_28  r6 r x1 x2 x4 x3) else (B_Mod_search_28  r6 r x1 x2 x4 x4)
theorem e_B_Mod_search_19 {sc : Nat × (Nat → Int32)} {d : DS} {f : FS} {w : WS} {m : MS} {s : SS} {g : GS} {tl : List mn_E}  (r6 : RS → Int32 → Int32 → Int32 → Int32 → Option (Int32 × Unit)) (hr6 : ∀ (r : RS) (x1 : Int32) (x2 : Int32) (x3 : Int32) (x4 : Int32), Ev sc 2 29 0 0 M_Mod_search 6 [(0, .ref 12), (1, .int x1), (2, .int x2), (3, .int x3), (4, .int x4)] [] (eLV :: (HD d (HF f (HW w (HM m (HS s (HG g (HR r tl)))))))) (mapR ouI (fun z => (eLV :: (HD d (HF f (HW w (HM m (HS s (HG g (HR r tl))))))))) (r6 r x1 x2 x3 x4))) (r : RS) (x1 : Int32) (x2 : Int32) (x3 : Int32) (x4 : Int32) (t0 : Int32) : Ev sc 2 29 0 0 M_Mod_search 19 [(0, .ref 12), (1, .int x1), (2, .int x2), (3, .int x3), (4, .int x4)] [.int t0] (eLV :: (HD d (HF f (HW w (HM m (HS s (HG g (HR r tl)))))))) (mapR ouI (fun z => (eLV :: (HD d (HF f (HW w (HM m (HS s (HG g (HR r tl))))))))) (B_Mod_search_19 r6 r x1 x2 x3 x4 t0)) := by
  unfold B_Mod_search_19
  refine ev_if_eq (tgt := 27) d_Mod_search_19 rfl (fun h1 => ?_) (fun h1 => ?_)
  · rw [if_pos h1]
    refine ev_iload_n d_Mod_search_27 rfl rfl ?_
    exact ev_pick [0, 1, 2, 4] rfl (e_B_Mod_search_28   r6 hr6 r x1 x2 x4 x3)
  · rw [if_neg h1]
    refine ev_iload d_Mod_search_22 rfl ?_
    refine ev_goto (tgt := 28) d_Mod_search_24 rfl ?_
    exact ev_pick [0, 1, 2, 4] rfl (e_B_Mod_search_28   r6 hr6 r x1 x2 x4 x4)
def L_Mod_search_6   : Nat → RS → Int32 → Int32 → Int32 → Int32 → Option (Int32 × Unit)
  | 0, _, _, _, _, _ => none
  | n + 1, r, x1, x2, x3, x4 =>
  if x4 < 0 then (some (x3, ())) else (bnd (f_Mod_says r x4 x1 x2) (fun q => B_Mod_search_19  (L_Mod_search_6 n) r x1 x2 x3 x4 q.1))
theorem e_L_Mod_search_6 {sc : Nat × (Nat → Int32)} {d : DS} {f : FS} {w : WS} {m : MS} {s : SS} {g : GS} {tl : List mn_E}    : ∀ (n : Nat) (r : RS) (x1 : Int32) (x2 : Int32) (x3 : Int32) (x4 : Int32), Ev sc 2 29 0 0 M_Mod_search 6 [(0, .ref 12), (1, .int x1), (2, .int x2), (3, .int x3), (4, .int x4)] [] (eLV :: (HD d (HF f (HW w (HM m (HS s (HG g (HR r tl)))))))) (mapR ouI (fun z => (eLV :: (HD d (HF f (HW w (HM m (HS s (HG g (HR r tl))))))))) (L_Mod_search_6   n r x1 x2 x3 x4)) := by
  intro n
  induction n with
  | zero => intro r x1 x2 x3 x4; exact ev_none
  | succ n ih =>
    intro r x1 x2 x3 x4
    rw [L_Mod_search_6]
    refine ev_iload d_Mod_search_6 rfl ?_
    refine ev_if_lt (tgt := 35) d_Mod_search_8 rfl (fun h1 => ?_) (fun h1 => ?_)
    · rw [if_pos h1]
      refine ev_iload_n d_Mod_search_35 rfl rfl ?_
      exact ev_zret (ty := .int) rfl rfl d_Mod_search_36
    · rw [if_neg h1]
      refine ev_aload_n d_Mod_search_11 rfl rfl ?_
      refine ev_iload d_Mod_search_12 rfl ?_
      refine ev_iload_n d_Mod_search_14 rfl rfl ?_
      refine ev_iload_n d_Mod_search_15 rfl rfl ?_
      refine ev_callB (rc := (f_Mod_says r x4 x1 x2)) (ou := ouI) (Hs := (fun z => (eLV :: (HD d (HF f (HW w (HM m (HS s (HG g (HR r tl)))))))))) (inv_V (q := 12) (av := [.int x4, .int x1, .int x2]) (rest := []) rfl (ci := 6) rfl d_Mod_search_16 gw_1115 gw_1117 gw_52 mw_Mod_says nh_Mod_says pn_Mod_says rfl) d_Mod_search_16 pl_Mod_says (Nat.le_of_ble_eq_true rfl) (Nat.le_of_ble_eq_true rfl) (Nat.le_of_ble_eq_true rfl) (e_f_Mod_says (tl := tl) (d := d) (f := f) (w := w) (m := m) (s := s) (g := g)  r x4 x1 x2) (fun _ => (len1 (lenHD (lenHF (lenHW (lenHM (lenHS (lenHG (lenHR rfl))))))))) (fun v z h2 => ⟨_, rfl, ?_⟩)
      exact ev_pick [0, 1, 2, 3, 4] rfl (e_B_Mod_search_19   (L_Mod_search_6 n) ih r x1 x2 x3 x4 v)
def f_Mod_search   (r : RS) (x1 : Int32) (x2 : Int32) : Option (Int32 × Unit) :=
  L_Mod_search_6   1000 r x1 x2 (-1) 39
theorem e_f_Mod_search {sc : Nat × (Nat → Int32)} {d : DS} {f : FS} {w : WS} {m : MS} {s : SS} {g : GS} {tl : List mn_E}    (r : RS) (x1 : Int32) (x2 : Int32) : Ev sc 2 29 0 0 M_Mod_search 0 [(0, .ref 12), (1, .int x1), (2, .int x2)] [] (eLV :: (HD d (HF f (HW w (HM m (HS s (HG g (HR r tl)))))))) (mapR ouI (fun z => (eLV :: (HD d (HF f (HW w (HM m (HS s (HG g (HR r tl))))))))) (f_Mod_search r x1 x2)) := by
  unfold f_Mod_search
  refine ev_iconst (v := -1) d_Mod_search_0 rfl ?_
  refine ev_istore_n d_Mod_search_1 rfl (by decide) rfl ?_
  refine ev_bipush (v := 39) d_Mod_search_2 rfl ?_
  refine ev_istore d_Mod_search_4 (by decide) rfl ?_
  exact ev_pick [2, 3, 4, 1, 0] rfl (e_L_Mod_search_6     1000 r x1 x2 (-1) 39)
def B_Mod_leader_61   (r : RS) (x1 : Int32) : Option (Int32 × RS) :=
  if inB x1 61 then (some (((rKep r x1.toNatClampNeg) - 1), r)) else none
theorem e_B_Mod_leader_61 {sc : Nat × (Nat → Int32)} {d : DS} {f : FS} {w : WS} {m : MS} {s : SS} {g : GS} {tl : List mn_E}    (r : RS) (x1 : Int32) : Ev sc 3 47 0 0 M_Mod_leader 61 [(0, .ref 12), (1, .int x1)] [] (eLV :: (HD d (HF f (HW w (HM m (HS s (HG g (HR r tl)))))))) (mapR ouI (fun z => (eLV :: (HD d (HF f (HW w (HM m (HS s (HG g (HR z tl))))))))) (B_Mod_leader_61 r x1)) := by
  unfold B_Mod_leader_61
  refine ev_aload_n d_Mod_leader_61 rfl rfl ?_
  refine ev_get (v := .ref 20) gi_Mod (ci := 6) rfl rfl 9 (by decide) gw_1010 rfl d_Mod_leader_62 ?_
  refine ev_iload_n d_Mod_leader_65 rfl rfl ?_
  refine ev_inB (fun h1 => ?_)
  refine ev_iaload rfl (inB_of h1) d_Mod_leader_66 ?_
  refine ev_iconst (v := 1) d_Mod_leader_67 rfl ?_
  refine ev_isub d_Mod_leader_68 ?_
  exact ev_zret (ty := .int) rfl rfl d_Mod_leader_69
def B_Mod_leader_58   (r : RS) (x1 : Int32) (t1 : Int32) (t2 : Int32) : Option (Int32 × RS) :=
  if inB t1 61 then (B_Mod_leader_61   (rSKep r (upd (rKep r) t1.toNatClampNeg (t2 + 1))) x1) else none
theorem e_B_Mod_leader_58 {sc : Nat × (Nat → Int32)} {d : DS} {f : FS} {w : WS} {m : MS} {s : SS} {g : GS} {tl : List mn_E}    (r : RS) (x1 : Int32) (t1 : Int32) (t2 : Int32) : Ev sc 3 47 0 0 M_Mod_leader 58 [(0, .ref 12), (1, .int x1)] [.int t2, .int t1, .ref 20] (eLV :: (HD d (HF f (HW w (HM m (HS s (HG g (HR r tl)))))))) (mapR ouI (fun z => (eLV :: (HD d (HF f (HW w (HM m (HS s (HG g (HR z tl))))))))) (B_Mod_leader_58 r x1 t1 t2)) := by
  unfold B_Mod_leader_58
  refine ev_iconst (v := 1) d_Mod_leader_58 rfl ?_
  refine ev_iadd d_Mod_leader_59 ?_
  refine ev_inB (fun h1 => ?_)
  refine ev_iastore (h2 := (eLV :: (HD d (HF f (HW w (HM m (HS s (HG g (HR (rSKep r (upd (rKep r) t1.toNatClampNeg (t2 + 1))) tl))))))))) rfl (inB_of h1) rfl d_Mod_leader_60 ?_
  exact ev_pick [0, 1] rfl (e_B_Mod_leader_61     (rSKep r (upd (rKep r) t1.toNatClampNeg (t2 + 1))) x1)
def B_Mod_leader_47   (r : RS) (x1 : Int32) : Option (Int32 × RS) :=
  bnd (f_Mod_search r x1 0) (fun q => B_Mod_leader_58   r x1 x1 q.1)
theorem e_B_Mod_leader_47 {sc : Nat × (Nat → Int32)} {d : DS} {f : FS} {w : WS} {m : MS} {s : SS} {g : GS} {tl : List mn_E}    (r : RS) (x1 : Int32) : Ev sc 3 47 0 0 M_Mod_leader 47 [(0, .ref 12), (1, .int x1)] [] (eLV :: (HD d (HF f (HW w (HM m (HS s (HG g (HR r tl)))))))) (mapR ouI (fun z => (eLV :: (HD d (HF f (HW w (HM m (HS s (HG g (HR z tl))))))))) (B_Mod_leader_47 r x1)) := by
  unfold B_Mod_leader_47
  refine ev_aload_n d_Mod_leader_47 rfl rfl ?_
  refine ev_get (v := .ref 20) gi_Mod (ci := 6) rfl rfl 9 (by decide) gw_1010 rfl d_Mod_leader_48 ?_
  refine ev_iload_n d_Mod_leader_51 rfl rfl ?_
  refine ev_aload_n d_Mod_leader_52 rfl rfl ?_
  refine ev_iload_n d_Mod_leader_53 rfl rfl ?_
  refine ev_iconst (v := 0) d_Mod_leader_54 rfl ?_
  refine ev_callB (rc := (f_Mod_search r x1 0)) (ou := ouI) (Hs := (fun z => (eLV :: (HD d (HF f (HW w (HM m (HS s (HG g (HR r tl)))))))))) (inv_V (q := 12) (av := [.int x1, .int 0]) (rest := [.int x1, .ref 20]) rfl (ci := 6) rfl d_Mod_leader_55 gw_1119 gw_1121 gw_53 mw_Mod_search nh_Mod_search pn_Mod_search rfl) d_Mod_leader_55 pl_Mod_search (Nat.le_of_ble_eq_true rfl) (Nat.le_of_ble_eq_true rfl) (Nat.le_of_ble_eq_true rfl) (e_f_Mod_search (tl := tl) (d := d) (f := f) (w := w) (m := m) (s := s) (g := g)  r x1 0) (fun _ => (len1 (lenHD (lenHF (lenHW (lenHM (lenHS (lenHG (lenHR rfl))))))))) (fun v z h1 => ⟨_, rfl, ?_⟩)
  exact ev_pick [0, 1] rfl (e_B_Mod_leader_58     r x1 x1 v)
def B_Mod_leader_35   (r : RS) (x1 : Int32) (t0 : Int32) : Option (Int32 × RS) :=
  if t0 = 0 then (B_Mod_leader_47   r x1) else (if inB x1 61 then (some (((rKep r x1.toNatClampNeg) - 1), r)) else none)
theorem e_B_Mod_leader_35 {sc : Nat × (Nat → Int32)} {d : DS} {f : FS} {w : WS} {m : MS} {s : SS} {g : GS} {tl : List mn_E}    (r : RS) (x1 : Int32) (t0 : Int32) : Ev sc 3 47 0 0 M_Mod_leader 35 [(0, .ref 12), (1, .int x1)] [.int t0] (eLV :: (HD d (HF f (HW w (HM m (HS s (HG g (HR r tl)))))))) (mapR ouI (fun z => (eLV :: (HD d (HF f (HW w (HM m (HS s (HG g (HR z tl))))))))) (B_Mod_leader_35 r x1 t0)) := by
  unfold B_Mod_leader_35
  refine ev_if_eq (tgt := 47) d_Mod_leader_35 rfl (fun h1 => ?_) (fun h1 => ?_)
  · rw [if_pos h1]
    exact ev_pick [0, 1] rfl (e_B_Mod_leader_47     r x1)
  · rw [if_neg h1]
    refine ev_aload_n d_Mod_leader_38 rfl rfl ?_
    refine ev_get (v := .ref 20) gi_Mod (ci := 6) rfl rfl 9 (by decide) gw_1010 rfl d_Mod_leader_39 ?_
    refine ev_iload_n d_Mod_leader_42 rfl rfl ?_
    refine ev_inB (fun h2 => ?_)
    refine ev_iaload rfl (inB_of h2) d_Mod_leader_43 ?_
    refine ev_iconst (v := 1) d_Mod_leader_44 rfl ?_
    refine ev_isub d_Mod_leader_45 ?_
    exact ev_zret (ty := .int) rfl rfl d_Mod_leader_46
def f_Mod_leader   (r : RS) (x1 : Int32) : Option (Int32 × RS) :=
  if ¬ ((f_Mod_in x1 1 60).1) = 0 then (if inB x1 61 then (if (rKep r x1.toNatClampNeg) ≤ 0 then (B_Mod_leader_47   r x1) else (if inB x1 61 then (bnd (f_Mod_look r ((rKep r x1.toNatClampNeg) - 1) x1 0) (fun q => B_Mod_leader_35   q.2 x1 q.1)) else none)) else none) else (some ((-1), r))
theorem e_f_Mod_leader {sc : Nat × (Nat → Int32)} {d : DS} {f : FS} {w : WS} {m : MS} {s : SS} {g : GS} {tl : List mn_E}    (r : RS) (x1 : Int32) : Ev sc 3 47 0 0 M_Mod_leader 0 [(0, .ref 12), (1, .int x1)] [] (eLV :: (HD d (HF f (HW w (HM m (HS s (HG g (HR r tl)))))))) (mapR ouI (fun z => (eLV :: (HD d (HF f (HW w (HM m (HS s (HG g (HR z tl))))))))) (f_Mod_leader r x1)) := by
  unfold f_Mod_leader
  refine ev_iload_n d_Mod_leader_0 rfl rfl ?_
  refine ev_iconst (v := 1) d_Mod_leader_1 rfl ?_
  refine ev_bipush (v := 60) d_Mod_leader_2 rfl ?_
  refine ev_callr (Mc := M_Mod_in) (v := some (.int ((f_Mod_in x1 1 60).1))) (h1 := (eLV :: (HD d (HF f (HW w (HM m (HS s (HG g (HR r tl))))))))) (k2 := 0) (n2 := 0) (inv_S (av := [.int x1, .int 1, .int 60]) (rest := []) d_Mod_leader_4 gw_1108 gw_1109 gw_108 mw_Mod_in nh_Mod_in pn_Mod_in rfl) d_Mod_leader_4 pl_Mod_in (Nat.le_of_ble_eq_true rfl) (Nat.le_of_ble_eq_true rfl) (Nat.le_of_ble_eq_true rfl) rfl rfl (e_f_Mod_in (hh := (eLV :: (HD d (HF f (HW w (HM m (HS s (HG g (HR r tl)))))))))   x1 1 60) (Or.inl (len1 (lenHD (lenHF (lenHW (lenHM (lenHS (lenHG (lenHR rfl))))))))) ?_
  refine ev_if_ne (tgt := 12) d_Mod_leader_7 rfl (fun h1 => ?_) (fun h1 => ?_)
  · rw [if_pos h1]
    refine ev_aload_n d_Mod_leader_12 rfl rfl ?_
    refine ev_get (v := .ref 20) gi_Mod (ci := 6) rfl rfl 9 (by decide) gw_1010 rfl d_Mod_leader_13 ?_
    refine ev_iload_n d_Mod_leader_16 rfl rfl ?_
    refine ev_inB (fun h2 => ?_)
    refine ev_iaload rfl (inB_of h2) d_Mod_leader_17 ?_
    refine ev_if_le (tgt := 47) d_Mod_leader_18 rfl (fun h3 => ?_) (fun h3 => ?_)
    · rw [if_pos h3]
      exact ev_pick [0, 1] rfl (e_B_Mod_leader_47     r x1)
    · rw [if_neg h3]
      refine ev_aload_n d_Mod_leader_21 rfl rfl ?_
      refine ev_aload_n d_Mod_leader_22 rfl rfl ?_
      refine ev_get (v := .ref 20) gi_Mod (ci := 6) rfl rfl 9 (by decide) gw_1010 rfl d_Mod_leader_23 ?_
      refine ev_iload_n d_Mod_leader_26 rfl rfl ?_
      refine ev_inB (fun h4 => ?_)
      refine ev_iaload rfl (inB_of h4) d_Mod_leader_27 ?_
      refine ev_iconst (v := 1) d_Mod_leader_28 rfl ?_
      refine ev_isub d_Mod_leader_29 ?_
      refine ev_iload_n d_Mod_leader_30 rfl rfl ?_
      refine ev_iconst (v := 0) d_Mod_leader_31 rfl ?_
      refine ev_callB (rc := (f_Mod_look r ((rKep r x1.toNatClampNeg) - 1) x1 0)) (ou := ouI) (Hs := (fun z => (eLV :: (HD d (HF f (HW w (HM m (HS s (HG g (HR z tl)))))))))) (inv_V (q := 12) (av := [.int ((rKep r x1.toNatClampNeg) - 1), .int x1, .int 0]) (rest := []) rfl (ci := 6) rfl d_Mod_leader_32 gw_1111 gw_1113 gw_51 mw_Mod_look nh_Mod_look pn_Mod_look rfl) d_Mod_leader_32 pl_Mod_look (Nat.le_of_ble_eq_true rfl) (Nat.le_of_ble_eq_true rfl) (Nat.le_of_ble_eq_true rfl) (e_f_Mod_look (tl := tl) (d := d) (f := f) (w := w) (m := m) (s := s) (g := g)  r ((rKep r x1.toNatClampNeg) - 1) x1 0) (fun _ => (len1 (lenHD (lenHF (lenHW (lenHM (lenHS (lenHG (lenHR rfl))))))))) (fun v z h5 => ⟨_, rfl, ?_⟩)
      exact ev_pick [0, 1] rfl (e_B_Mod_leader_35     z x1 v)
  · rw [if_neg h1]
    refine ev_iconst (v := -1) d_Mod_leader_10 rfl ?_
    exact ev_zret (ty := .int) rfl rfl d_Mod_leader_11
def B_Mod_beside_85   (r : RS) (x4 : Int32) : Option (Int32 × RS) :=
  some (x4, r)
theorem e_B_Mod_beside_85 {sc : Nat × (Nat → Int32)} {d : DS} {f : FS} {w : WS} {m : MS} {s : SS} {g : GS} {tl : List mn_E}    (r : RS) (x4 : Int32) : Ev sc 3 45 0 0 M_Mod_beside 85 [(4, .int x4)] [] (eLV :: (HD d (HF f (HW w (HM m (HS s (HG g (HR r tl)))))))) (mapR ouI (fun z => (eLV :: (HD d (HF f (HW w (HM m (HS s (HG g (HR z tl))))))))) (B_Mod_beside_85 r x4)) := by
  unfold B_Mod_beside_85
  refine ev_iload d_Mod_beside_85 rfl ?_
  exact ev_zret (ty := .int) rfl rfl d_Mod_beside_87
def B_Mod_beside_82   (r : RS) (x4 : Int32) (t1 : Int32) : Option (Int32 × RS) :=
  B_Mod_beside_85   (rSFau r t1) x4
theorem e_B_Mod_beside_82 {sc : Nat × (Nat → Int32)} {d : DS} {f : FS} {w : WS} {m : MS} {s : SS} {g : GS} {tl : List mn_E}    (r : RS) (x4 : Int32) (t1 : Int32) : Ev sc 3 45 0 0 M_Mod_beside 82 [(4, .int x4)] [.int t1, .ref 12] (eLV :: (HD d (HF f (HW w (HM m (HS s (HG g (HR r tl)))))))) (mapR ouI (fun z => (eLV :: (HD d (HF f (HW w (HM m (HS s (HG g (HR z tl))))))))) (B_Mod_beside_82 r x4 t1)) := by
  unfold B_Mod_beside_82
  refine ev_put (h2 := (eLV :: (HD d (HF f (HW w (HM m (HS s (HG g (HR (rSFau r t1) tl))))))))) gi_Mod ft_Mod fo_Mod fn_Mod (ci := 6) rfl rfl 1 (by decide) gw_1002 rfl rfl (fun _ => rfl) (fun _ => rfl) (Nat.le_of_ble_eq_true rfl) rfl d_Mod_beside_82 ?_
  exact ev_pick [0] rfl (e_B_Mod_beside_85     (rSFau r t1) x4)
def B_Mod_beside_66   (r : RS) (t0 : Int32) : Option (Int32 × RS) :=
  if 0 ≤ t0 then (B_Mod_beside_82   r t0 (rFau r)) else (B_Mod_beside_82   r t0 4)
theorem e_B_Mod_beside_66 {sc : Nat × (Nat → Int32)} {d : DS} {f : FS} {w : WS} {m : MS} {s : SS} {g : GS} {tl : List mn_E}    (r : RS) (t0 : Int32) : Ev sc 3 45 0 0 M_Mod_beside 66 [(0, .ref 12)] [.int t0] (eLV :: (HD d (HF f (HW w (HM m (HS s (HG g (HR r tl)))))))) (mapR ouI (fun z => (eLV :: (HD d (HF f (HW w (HM m (HS s (HG g (HR z tl))))))))) (B_Mod_beside_66 r t0)) := by
  unfold B_Mod_beside_66
  refine ev_istore d_Mod_beside_66 (by decide) rfl ?_
  refine ev_aload_n d_Mod_beside_68 rfl rfl ?_
  refine ev_iload d_Mod_beside_69 rfl ?_
  refine ev_if_ge (tgt := 78) d_Mod_beside_71 rfl (fun h1 => ?_) (fun h1 => ?_)
  · rw [if_pos h1]
    refine ev_aload_n d_Mod_beside_78 rfl rfl ?_
    refine ev_get (v := .int (rFau r)) gi_Mod (ci := 6) rfl rfl 1 (by decide) gw_1002 rfl d_Mod_beside_79 ?_
    exact ev_pick [0] rfl (e_B_Mod_beside_82     r t0 (rFau r))
  · rw [if_neg h1]
    refine ev_iconst (v := 4) d_Mod_beside_74 rfl ?_
    refine ev_goto (tgt := 82) d_Mod_beside_75 rfl ?_
    exact ev_pick [0] rfl (e_B_Mod_beside_82     r t0 4)
def B_Mod_beside_48   (r : RS) (x1 : Int32) (x2 : Int32) : Option (Int32 × RS) :=
  if inB x1 40 then (if inB x1 40 then (bnd (f_Mod_search r (rSer r x1.toNatClampNeg) ((rPag r x1.toNatClampNeg) + x2)) (fun q => B_Mod_beside_66   r q.1)) else none) else none
theorem e_B_Mod_beside_48 {sc : Nat × (Nat → Int32)} {d : DS} {f : FS} {w : WS} {m : MS} {s : SS} {g : GS} {tl : List mn_E}    (r : RS) (x1 : Int32) (x2 : Int32) : Ev sc 3 45 0 0 M_Mod_beside 48 [(0, .ref 12), (1, .int x1), (2, .int x2)] [] (eLV :: (HD d (HF f (HW w (HM m (HS s (HG g (HR r tl)))))))) (mapR ouI (fun z => (eLV :: (HD d (HF f (HW w (HM m (HS s (HG g (HR z tl))))))))) (B_Mod_beside_48 r x1 x2)) := by
  unfold B_Mod_beside_48
  refine ev_aload_n d_Mod_beside_48 rfl rfl ?_
  refine ev_aload_n d_Mod_beside_49 rfl rfl ?_
  refine ev_get (v := .ref 13) gi_Mod (ci := 6) rfl rfl 2 (by decide) gw_1003 rfl d_Mod_beside_50 ?_
  refine ev_iload_n d_Mod_beside_53 rfl rfl ?_
  refine ev_inB (fun h1 => ?_)
  refine ev_iaload rfl (inB_of h1) d_Mod_beside_54 ?_
  refine ev_aload_n d_Mod_beside_55 rfl rfl ?_
  refine ev_get (v := .ref 14) gi_Mod (ci := 6) rfl rfl 3 (by decide) gw_1004 rfl d_Mod_beside_56 ?_
  refine ev_iload_n d_Mod_beside_59 rfl rfl ?_
  refine ev_inB (fun h2 => ?_)
  refine ev_iaload rfl (inB_of h2) d_Mod_beside_60 ?_
  refine ev_iload_n d_Mod_beside_61 rfl rfl ?_
  refine ev_iadd d_Mod_beside_62 ?_
  refine ev_callB (rc := (f_Mod_search r (rSer r x1.toNatClampNeg) ((rPag r x1.toNatClampNeg) + x2))) (ou := ouI) (Hs := (fun z => (eLV :: (HD d (HF f (HW w (HM m (HS s (HG g (HR r tl)))))))))) (inv_V (q := 12) (av := [.int (rSer r x1.toNatClampNeg), .int ((rPag r x1.toNatClampNeg) + x2)]) (rest := []) rfl (ci := 6) rfl d_Mod_beside_63 gw_1119 gw_1121 gw_53 mw_Mod_search nh_Mod_search pn_Mod_search rfl) d_Mod_beside_63 pl_Mod_search (Nat.le_of_ble_eq_true rfl) (Nat.le_of_ble_eq_true rfl) (Nat.le_of_ble_eq_true rfl) (e_f_Mod_search (tl := tl) (d := d) (f := f) (w := w) (m := m) (s := s) (g := g)  r (rSer r x1.toNatClampNeg) ((rPag r x1.toNatClampNeg) + x2)) (fun _ => (len1 (lenHD (lenHF (lenHW (lenHM (lenHS (lenHG (lenHR rfl))))))))) (fun v z h3 => ⟨_, rfl, ?_⟩)
  exact ev_pick [0] rfl (e_B_Mod_beside_66     r v)
def B_Mod_beside_43   (r : RS) (x1 : Int32) (x2 : Int32) (x3 : Int32) (t0 : Int32) : Option (Int32 × RS) :=
  if t0 = 0 then (B_Mod_beside_48   r x1 x2) else (some (x3, r))
theorem e_B_Mod_beside_43 {sc : Nat × (Nat → Int32)} {d : DS} {f : FS} {w : WS} {m : MS} {s : SS} {g : GS} {tl : List mn_E}    (r : RS) (x1 : Int32) (x2 : Int32) (x3 : Int32) (t0 : Int32) : Ev sc 3 45 0 0 M_Mod_beside 43 [(0, .ref 12), (1, .int x1), (2, .int x2), (3, .int x3)] [.int t0] (eLV :: (HD d (HF f (HW w (HM m (HS s (HG g (HR r tl)))))))) (mapR ouI (fun z => (eLV :: (HD d (HF f (HW w (HM m (HS s (HG g (HR z tl))))))))) (B_Mod_beside_43 r x1 x2 x3 t0)) := by
  unfold B_Mod_beside_43
  refine ev_if_eq (tgt := 48) d_Mod_beside_43 rfl (fun h1 => ?_) (fun h1 => ?_)
  · rw [if_pos h1]
    exact ev_pick [0, 1, 2] rfl (e_B_Mod_beside_48     r x1 x2)
  · rw [if_neg h1]
    refine ev_iload_n d_Mod_beside_46 rfl rfl ?_
    exact ev_zret (ty := .int) rfl rfl d_Mod_beside_47
def B_Mod_beside_19   (r : RS) (x1 : Int32) (x2 : Int32) (t0 : Int32) : Option (Int32 × RS) :=
  if t0 < 0 then (B_Mod_beside_48   r x1 x2) else (if inB x1 40 then (if inB x1 40 then (bnd (f_Mod_look r t0 (rSer r x1.toNatClampNeg) ((rPag r x1.toNatClampNeg) + x2)) (fun q => B_Mod_beside_43   q.2 x1 x2 t0 q.1)) else none) else none)
theorem e_B_Mod_beside_19 {sc : Nat × (Nat → Int32)} {d : DS} {f : FS} {w : WS} {m : MS} {s : SS} {g : GS} {tl : List mn_E}    (r : RS) (x1 : Int32) (x2 : Int32) (t0 : Int32) : Ev sc 3 45 0 0 M_Mod_beside 19 [(0, .ref 12), (1, .int x1), (2, .int x2)] [.int t0] (eLV :: (HD d (HF f (HW w (HM m (HS s (HG g (HR r tl)))))))) (mapR ouI (fun z => (eLV :: (HD d (HF f (HW w (HM m (HS s (HG g (HR z tl))))))))) (B_Mod_beside_19 r x1 x2 t0)) := by
  unfold B_Mod_beside_19
  refine ev_istore_n d_Mod_beside_19 rfl (by decide) rfl ?_
  refine ev_iload_n d_Mod_beside_20 rfl rfl ?_
  refine ev_if_lt (tgt := 48) d_Mod_beside_21 rfl (fun h1 => ?_) (fun h1 => ?_)
  · rw [if_pos h1]
    exact ev_pick [1, 2, 3] rfl (e_B_Mod_beside_48     r x1 x2)
  · rw [if_neg h1]
    refine ev_aload_n d_Mod_beside_24 rfl rfl ?_
    refine ev_iload_n d_Mod_beside_25 rfl rfl ?_
    refine ev_aload_n d_Mod_beside_26 rfl rfl ?_
    refine ev_get (v := .ref 13) gi_Mod (ci := 6) rfl rfl 2 (by decide) gw_1003 rfl d_Mod_beside_27 ?_
    refine ev_iload_n d_Mod_beside_30 rfl rfl ?_
    refine ev_inB (fun h2 => ?_)
    refine ev_iaload rfl (inB_of h2) d_Mod_beside_31 ?_
    refine ev_aload_n d_Mod_beside_32 rfl rfl ?_
    refine ev_get (v := .ref 14) gi_Mod (ci := 6) rfl rfl 3 (by decide) gw_1004 rfl d_Mod_beside_33 ?_
    refine ev_iload_n d_Mod_beside_36 rfl rfl ?_
    refine ev_inB (fun h3 => ?_)
    refine ev_iaload rfl (inB_of h3) d_Mod_beside_37 ?_
    refine ev_iload_n d_Mod_beside_38 rfl rfl ?_
    refine ev_iadd d_Mod_beside_39 ?_
    refine ev_callB (rc := (f_Mod_look r t0 (rSer r x1.toNatClampNeg) ((rPag r x1.toNatClampNeg) + x2))) (ou := ouI) (Hs := (fun z => (eLV :: (HD d (HF f (HW w (HM m (HS s (HG g (HR z tl)))))))))) (inv_V (q := 12) (av := [.int t0, .int (rSer r x1.toNatClampNeg), .int ((rPag r x1.toNatClampNeg) + x2)]) (rest := []) rfl (ci := 6) rfl d_Mod_beside_40 gw_1111 gw_1113 gw_51 mw_Mod_look nh_Mod_look pn_Mod_look rfl) d_Mod_beside_40 pl_Mod_look (Nat.le_of_ble_eq_true rfl) (Nat.le_of_ble_eq_true rfl) (Nat.le_of_ble_eq_true rfl) (e_f_Mod_look (tl := tl) (d := d) (f := f) (w := w) (m := m) (s := s) (g := g)  r t0 (rSer r x1.toNatClampNeg) ((rPag r x1.toNatClampNeg) + x2)) (fun _ => (len1 (lenHD (lenHF (lenHW (lenHM (lenHS (lenHG (lenHR rfl))))))))) (fun v z h4 => ⟨_, rfl, ?_⟩)
    exact ev_pick [1, 2, 3, 0] rfl (e_B_Mod_beside_43     z x1 x2 t0 v)
def f_Mod_beside   (r : RS) (x1 : Int32) (x2 : Int32) : Option (Int32 × RS) :=
  if x2 ≤ 0 then (if inB x1 40 then (B_Mod_beside_19   r x1 x2 (rBef r x1.toNatClampNeg)) else none) else (if inB x1 40 then (B_Mod_beside_19   r x1 x2 (rNex r x1.toNatClampNeg)) else none)
theorem e_f_Mod_beside {sc : Nat × (Nat → Int32)} {d : DS} {f : FS} {w : WS} {m : MS} {s : SS} {g : GS} {tl : List mn_E}    (r : RS) (x1 : Int32) (x2 : Int32) : Ev sc 3 45 0 0 M_Mod_beside 0 [(0, .ref 12), (1, .int x1), (2, .int x2)] [] (eLV :: (HD d (HF f (HW w (HM m (HS s (HG g (HR r tl)))))))) (mapR ouI (fun z => (eLV :: (HD d (HF f (HW w (HM m (HS s (HG g (HR z tl))))))))) (f_Mod_beside r x1 x2)) := by
  unfold f_Mod_beside
  refine ev_iload_n d_Mod_beside_0 rfl rfl ?_
  refine ev_if_le (tgt := 13) d_Mod_beside_1 rfl (fun h1 => ?_) (fun h1 => ?_)
  · rw [if_pos h1]
    refine ev_aload_n d_Mod_beside_13 rfl rfl ?_
    refine ev_get (v := .ref 17) gi_Mod (ci := 6) rfl rfl 6 (by decide) gw_1007 rfl d_Mod_beside_14 ?_
    refine ev_iload_n d_Mod_beside_17 rfl rfl ?_
    refine ev_inB (fun h2 => ?_)
    refine ev_iaload rfl (inB_of h2) d_Mod_beside_18 ?_
    exact ev_pick [0, 1, 2] rfl (e_B_Mod_beside_19     r x1 x2 (rBef r x1.toNatClampNeg))
  · rw [if_neg h1]
    refine ev_aload_n d_Mod_beside_4 rfl rfl ?_
    refine ev_get (v := .ref 16) gi_Mod (ci := 6) rfl rfl 5 (by decide) gw_1006 rfl d_Mod_beside_5 ?_
    refine ev_iload_n d_Mod_beside_8 rfl rfl ?_
    refine ev_inB (fun h3 => ?_)
    refine ev_iaload rfl (inB_of h3) d_Mod_beside_9 ?_
    refine ev_goto (tgt := 19) d_Mod_beside_10 rfl ?_
    exact ev_pick [0, 1, 2] rfl (e_B_Mod_beside_19     r x1 x2 (rNex r x1.toNatClampNeg))
def B_Mod_last_102   (r : RS) (x3 : Int32) : Option (Int32 × RS) :=
  some (x3, r)
theorem e_B_Mod_last_102 {sc : Nat × (Nat → Int32)} {d : DS} {f : FS} {w : WS} {m : MS} {s : SS} {g : GS} {tl : List mn_E}    (r : RS) (x3 : Int32) : Ev sc 4 61 0 0 M_Mod_last 102 [(3, .int x3)] [] (eLV :: (HD d (HF f (HW w (HM m (HS s (HG g (HR r tl)))))))) (mapR ouI (fun z => (eLV :: (HD d (HF f (HW w (HM m (HS s (HG g (HR z tl))))))))) (B_Mod_last_102 r x3)) := by
  unfold B_Mod_last_102
  refine ev_iload_n d_Mod_last_102 rfl rfl ?_
  exact ev_zret (ty := .int) rfl rfl d_Mod_last_103
def B_Mod_last_95  (r69 : RS → Int32 → Int32 → Option (Int32 × RS)) (r : RS) (x4 : Int32) (t0 : Int32) : Option (Int32 × RS) :=
  r69 r t0 (x4 + 1)
theorem e_B_Mod_last_95 {sc : Nat × (Nat → Int32)} {d : DS} {f : FS} {w : WS} {m : MS} {s : SS} {g : GS} {tl : List mn_E}  (r69 : RS → Int32 → Int32 → Option (Int32 × RS)) (hr69 : ∀ (r : RS) (x3 : Int32) (x4 : Int32), Ev sc 4 61 0 0 M_Mod_last 69 [(0, .ref 12), (3, .int x3), (4, .int x4)] [] (eLV :: (HD d (HF f (HW w (HM m (HS s (HG g (HR r tl)))))))) (mapR ouI (fun z => (eLV :: (HD d (HF f (HW w (HM m (HS s (HG g (HR z tl))))))))) (r69 r x3 x4))) (r : RS) (x4 : Int32) (t0 : Int32) : Ev sc 4 61 0 0 M_Mod_last 95 [(0, .ref 12), (4, .int x4)] [.int t0] (eLV :: (HD d (HF f (HW w (HM m (HS s (HG g (HR r tl)))))))) (mapR ouI (fun z => (eLV :: (HD d (HF f (HW w (HM m (HS s (HG g (HR z tl))))))))) (B_Mod_last_95 r69 r x4 t0)) := by
  unfold B_Mod_last_95
  refine ev_istore_n d_Mod_last_95 rfl (by decide) rfl ?_
  refine ev_iinc (v := (x4 + 1)) d_Mod_last_96 rfl rfl (by decide) rfl ?_
  refine ev_goto (tgt := 69) d_Mod_last_99 rfl ?_
  exact ev_pick [2, 1, 0] rfl (hr69 r t0 (x4 + 1))
def L_Mod_last_69   : Nat → RS → Int32 → Int32 → Option (Int32 × RS)
  | 0, _, _, _ => none
  | n + 1, r, x3, x4 =>
  if 50 ≤ x4 then (B_Mod_last_102   r x3) else (if x3 < 0 then (B_Mod_last_102   r x3) else (if inB x3 40 then (if (rNex r x3.toNatClampNeg) < 0 then (B_Mod_last_102   r x3) else (bnd (f_Mod_beside r x3 1) (fun q => B_Mod_last_95  (L_Mod_last_69 n) q.2 x4 q.1))) else none))
theorem e_L_Mod_last_69 {sc : Nat × (Nat → Int32)} {d : DS} {f : FS} {w : WS} {m : MS} {s : SS} {g : GS} {tl : List mn_E}    : ∀ (n : Nat) (r : RS) (x3 : Int32) (x4 : Int32), Ev sc 4 61 0 0 M_Mod_last 69 [(0, .ref 12), (3, .int x3), (4, .int x4)] [] (eLV :: (HD d (HF f (HW w (HM m (HS s (HG g (HR r tl)))))))) (mapR ouI (fun z => (eLV :: (HD d (HF f (HW w (HM m (HS s (HG g (HR z tl))))))))) (L_Mod_last_69   n r x3 x4)) := by
  intro n
  induction n with
  | zero => intro r x3 x4; exact ev_none
  | succ n ih =>
    intro r x3 x4
    rw [L_Mod_last_69]
    refine ev_iload d_Mod_last_69 rfl ?_
    refine ev_bipush (v := 50) d_Mod_last_71 rfl ?_
    refine ev_icmp_ge (tgt := 102) d_Mod_last_73 rfl (fun h1 => ?_) (fun h1 => ?_)
    · rw [if_pos h1]
      exact ev_pick [1] rfl (e_B_Mod_last_102     r x3)
    · rw [if_neg h1]
      refine ev_iload_n d_Mod_last_76 rfl rfl ?_
      refine ev_if_lt (tgt := 102) d_Mod_last_77 rfl (fun h2 => ?_) (fun h2 => ?_)
      · rw [if_pos h2]
        exact ev_pick [1] rfl (e_B_Mod_last_102     r x3)
      · rw [if_neg h2]
        refine ev_aload_n d_Mod_last_80 rfl rfl ?_
        refine ev_get (v := .ref 16) gi_Mod (ci := 6) rfl rfl 5 (by decide) gw_1006 rfl d_Mod_last_81 ?_
        refine ev_iload_n d_Mod_last_84 rfl rfl ?_
        refine ev_inB (fun h3 => ?_)
        refine ev_iaload rfl (inB_of h3) d_Mod_last_85 ?_
        refine ev_if_lt (tgt := 102) d_Mod_last_86 rfl (fun h4 => ?_) (fun h4 => ?_)
        · rw [if_pos h4]
          exact ev_pick [1] rfl (e_B_Mod_last_102     r x3)
        · rw [if_neg h4]
          refine ev_aload_n d_Mod_last_89 rfl rfl ?_
          refine ev_iload_n d_Mod_last_90 rfl rfl ?_
          refine ev_iconst (v := 1) d_Mod_last_91 rfl ?_
          refine ev_callB (rc := (f_Mod_beside r x3 1)) (ou := ouI) (Hs := (fun z => (eLV :: (HD d (HF f (HW w (HM m (HS s (HG g (HR z tl)))))))))) (inv_V (q := 12) (av := [.int x3, .int 1]) (rest := []) rfl (ci := 6) rfl d_Mod_last_92 gw_1135 gw_1137 gw_57 mw_Mod_beside nh_Mod_beside pn_Mod_beside rfl) d_Mod_last_92 pl_Mod_beside (Nat.le_of_ble_eq_true rfl) (Nat.le_of_ble_eq_true rfl) (Nat.le_of_ble_eq_true rfl) (e_f_Mod_beside (tl := tl) (d := d) (f := f) (w := w) (m := m) (s := s) (g := g)  r x3 1) (fun _ => (len1 (lenHD (lenHF (lenHW (lenHM (lenHS (lenHG (lenHR rfl))))))))) (fun v z h5 => ⟨_, rfl, ?_⟩)
          exact ev_pick [0, 2] rfl (e_B_Mod_last_95   (L_Mod_last_69 n) ih z x4 v)
def B_Mod_last_64   (r : RS) (x1 : Int32) : Option (Int32 × RS) :=
  L_Mod_last_69   1000 r x1 0
theorem e_B_Mod_last_64 {sc : Nat × (Nat → Int32)} {d : DS} {f : FS} {w : WS} {m : MS} {s : SS} {g : GS} {tl : List mn_E}    (r : RS) (x1 : Int32) : Ev sc 4 61 0 0 M_Mod_last 64 [(0, .ref 12), (1, .int x1)] [] (eLV :: (HD d (HF f (HW w (HM m (HS s (HG g (HR r tl)))))))) (mapR ouI (fun z => (eLV :: (HD d (HF f (HW w (HM m (HS s (HG g (HR z tl))))))))) (B_Mod_last_64 r x1)) := by
  unfold B_Mod_last_64
  refine ev_iload_n d_Mod_last_64 rfl rfl ?_
  refine ev_istore_n d_Mod_last_65 rfl (by decide) rfl ?_
  refine ev_iconst (v := 0) d_Mod_last_66 rfl ?_
  refine ev_istore d_Mod_last_67 (by decide) rfl ?_
  exact ev_pick [2, 1, 0] rfl (e_L_Mod_last_69     1000 r x1 0)
def B_Mod_last_54   (r : RS) (x1 : Int32) : Option (Int32 × RS) :=
  B_Mod_last_64   (rSMis r ((rMis r) + 1)) x1
theorem e_B_Mod_last_54 {sc : Nat × (Nat → Int32)} {d : DS} {f : FS} {w : WS} {m : MS} {s : SS} {g : GS} {tl : List mn_E}    (r : RS) (x1 : Int32) : Ev sc 4 61 0 0 M_Mod_last 54 [(0, .ref 12), (1, .int x1)] [] (eLV :: (HD d (HF f (HW w (HM m (HS s (HG g (HR r tl)))))))) (mapR ouI (fun z => (eLV :: (HD d (HF f (HW w (HM m (HS s (HG g (HR z tl))))))))) (B_Mod_last_54 r x1)) := by
  unfold B_Mod_last_54
  refine ev_aload_n d_Mod_last_54 rfl rfl ?_
  refine ev_aload_n d_Mod_last_55 rfl rfl ?_
  refine ev_get (v := .int (rMis r)) gi_Mod (ci := 6) rfl rfl 10 (by decide) gw_1011 rfl d_Mod_last_56 ?_
  refine ev_iconst (v := 1) d_Mod_last_59 rfl ?_
  refine ev_iadd d_Mod_last_60 ?_
  refine ev_put (h2 := (eLV :: (HD d (HF f (HW w (HM m (HS s (HG g (HR (rSMis r ((rMis r) + 1)) tl))))))))) gi_Mod ft_Mod fo_Mod fn_Mod (ci := 6) rfl rfl 10 (by decide) gw_1011 rfl rfl (fun _ => rfl) (fun _ => rfl) (Nat.le_of_ble_eq_true rfl) rfl d_Mod_last_61 ?_
  exact ev_pick [0, 1] rfl (e_B_Mod_last_64     (rSMis r ((rMis r) + 1)) x1)
def f_Mod_last   (r : RS) (x1 : Int32) : Option (Int32 × RS) :=
  if inB ((8 * x1) + 3) 320 then (if 40 ≤ (rByt r ((8 * x1) + 3).toNatClampNeg) then (B_Mod_last_54   r x1) else (if inB (rByt r ((8 * x1) + 3).toNatClampNeg) 40 then (if ¬ (rBad r (rByt r ((8 * x1) + 3).toNatClampNeg).toNatClampNeg) = 0 then (B_Mod_last_54   r x1) else (if inB (rByt r ((8 * x1) + 3).toNatClampNeg) 40 then (if inB x1 40 then (if ¬ (rSer r (rByt r ((8 * x1) + 3).toNatClampNeg).toNatClampNeg) = (rSer r x1.toNatClampNeg) then (B_Mod_last_54   r x1) else (if inB (rByt r ((8 * x1) + 3).toNatClampNeg) 40 then (if ¬ (rNex r (rByt r ((8 * x1) + 3).toNatClampNeg).toNatClampNeg) = (-1) then (B_Mod_last_54   r x1) else (some ((rByt r ((8 * x1) + 3).toNatClampNeg), r))) else none)) else none) else none)) else none)) else none
theorem e_f_Mod_last {sc : Nat × (Nat → Int32)} {d : DS} {f : FS} {w : WS} {m : MS} {s : SS} {g : GS} {tl : List mn_E}    (r : RS) (x1 : Int32) : Ev sc 4 61 0 0 M_Mod_last 0 [(0, .ref 12), (1, .int x1)] [] (eLV :: (HD d (HF f (HW w (HM m (HS s (HG g (HR r tl)))))))) (mapR ouI (fun z => (eLV :: (HD d (HF f (HW w (HM m (HS s (HG g (HR z tl))))))))) (f_Mod_last r x1)) := by
  unfold f_Mod_last
  refine ev_aload_n d_Mod_last_0 rfl rfl ?_
  refine ev_get (v := .ref 18) gi_Mod (ci := 6) rfl rfl 7 (by decide) gw_1008 rfl d_Mod_last_1 ?_
  refine ev_bipush (v := 8) d_Mod_last_4 rfl ?_
  refine ev_iload_n d_Mod_last_6 rfl rfl ?_
  refine ev_imul d_Mod_last_7 ?_
  refine ev_iconst (v := 3) d_Mod_last_8 rfl ?_
  refine ev_iadd d_Mod_last_9 ?_
  refine ev_inB (fun h1 => ?_)
  refine ev_iaload rfl (inB_of h1) d_Mod_last_10 ?_
  refine ev_istore_n d_Mod_last_11 rfl (by decide) rfl ?_
  refine ev_iload_n d_Mod_last_12 rfl rfl ?_
  refine ev_bipush (v := 40) d_Mod_last_13 rfl ?_
  refine ev_icmp_ge (tgt := 54) d_Mod_last_15 rfl (fun h2 => ?_) (fun h2 => ?_)
  · rw [if_pos h2]
    exact ev_pick [1, 2] rfl (e_B_Mod_last_54     r x1)
  · rw [if_neg h2]
    refine ev_aload_n d_Mod_last_18 rfl rfl ?_
    refine ev_get (v := .ref 19) gi_Mod (ci := 6) rfl rfl 8 (by decide) gw_1009 rfl d_Mod_last_19 ?_
    refine ev_iload_n d_Mod_last_22 rfl rfl ?_
    refine ev_inB (fun h3 => ?_)
    refine ev_zaload rfl (inB_of h3) d_Mod_last_23 ?_
    refine ev_if_ne (tgt := 54) d_Mod_last_24 rfl (fun h4 => ?_) (fun h4 => ?_)
    · rw [if_pos h4]
      exact ev_pick [1, 2] rfl (e_B_Mod_last_54     r x1)
    · rw [if_neg h4]
      refine ev_aload_n d_Mod_last_27 rfl rfl ?_
      refine ev_get (v := .ref 13) gi_Mod (ci := 6) rfl rfl 2 (by decide) gw_1003 rfl d_Mod_last_28 ?_
      refine ev_iload_n d_Mod_last_31 rfl rfl ?_
      refine ev_inB (fun h5 => ?_)
      refine ev_iaload rfl (inB_of h5) d_Mod_last_32 ?_
      refine ev_aload_n d_Mod_last_33 rfl rfl ?_
      refine ev_get (v := .ref 13) gi_Mod (ci := 6) rfl rfl 2 (by decide) gw_1003 rfl d_Mod_last_34 ?_
      refine ev_iload_n d_Mod_last_37 rfl rfl ?_
      refine ev_inB (fun h6 => ?_)
      refine ev_iaload rfl (inB_of h6) d_Mod_last_38 ?_
      refine ev_icmp_ne (tgt := 54) d_Mod_last_39 rfl (fun h7 => ?_) (fun h7 => ?_)
      · rw [if_pos h7]
        exact ev_pick [1, 2] rfl (e_B_Mod_last_54     r x1)
      · rw [if_neg h7]
        refine ev_aload_n d_Mod_last_42 rfl rfl ?_
        refine ev_get (v := .ref 16) gi_Mod (ci := 6) rfl rfl 5 (by decide) gw_1006 rfl d_Mod_last_43 ?_
        refine ev_iload_n d_Mod_last_46 rfl rfl ?_
        refine ev_inB (fun h8 => ?_)
        refine ev_iaload rfl (inB_of h8) d_Mod_last_47 ?_
        refine ev_iconst (v := -1) d_Mod_last_48 rfl ?_
        refine ev_icmp_ne (tgt := 54) d_Mod_last_49 rfl (fun h9 => ?_) (fun h9 => ?_)
        · rw [if_pos h9]
          exact ev_pick [1, 2] rfl (e_B_Mod_last_54     r x1)
        · rw [if_neg h9]
          refine ev_iload_n d_Mod_last_52 rfl rfl ?_
          exact ev_zret (ty := .int) rfl rfl d_Mod_last_53
def f_Mod_lengthAt   (r : RS) (x1 : Int32) : Option (Int32 × Unit) :=
  if inB x1 40 then (if ¬ (rPag r x1.toNatClampNeg) = 0 then (if inB x1 40 then (if inB x1 40 then (some (((8 * ((rPag r x1.toNatClampNeg) - 1)) + (rUse r x1.toNatClampNeg)), ())) else none) else none) else (some (0, ()))) else none
theorem e_f_Mod_lengthAt {sc : Nat × (Nat → Int32)} {d : DS} {f : FS} {w : WS} {m : MS} {s : SS} {g : GS} {tl : List mn_E}    (r : RS) (x1 : Int32) : Ev sc 0 0 0 0 M_Mod_lengthAt 0 [(0, .ref 12), (1, .int x1)] [] (eLV :: (HD d (HF f (HW w (HM m (HS s (HG g (HR r tl)))))))) (mapR ouI (fun z => (eLV :: (HD d (HF f (HW w (HM m (HS s (HG g (HR r tl))))))))) (f_Mod_lengthAt r x1)) := by
  unfold f_Mod_lengthAt
  refine ev_aload_n d_Mod_lengthAt_0 rfl rfl ?_
  refine ev_get (v := .ref 14) gi_Mod (ci := 6) rfl rfl 3 (by decide) gw_1004 rfl d_Mod_lengthAt_1 ?_
  refine ev_iload_n d_Mod_lengthAt_4 rfl rfl ?_
  refine ev_inB (fun h1 => ?_)
  refine ev_iaload rfl (inB_of h1) d_Mod_lengthAt_5 ?_
  refine ev_if_ne (tgt := 13) d_Mod_lengthAt_6 rfl (fun h2 => ?_) (fun h2 => ?_)
  · rw [if_pos h2]
    refine ev_bipush (v := 8) d_Mod_lengthAt_13 rfl ?_
    refine ev_aload_n d_Mod_lengthAt_15 rfl rfl ?_
    refine ev_get (v := .ref 14) gi_Mod (ci := 6) rfl rfl 3 (by decide) gw_1004 rfl d_Mod_lengthAt_16 ?_
    refine ev_iload_n d_Mod_lengthAt_19 rfl rfl ?_
    refine ev_inB (fun h3 => ?_)
    refine ev_iaload rfl (inB_of h3) d_Mod_lengthAt_20 ?_
    refine ev_iconst (v := 1) d_Mod_lengthAt_21 rfl ?_
    refine ev_isub d_Mod_lengthAt_22 ?_
    refine ev_imul d_Mod_lengthAt_23 ?_
    refine ev_aload_n d_Mod_lengthAt_24 rfl rfl ?_
    refine ev_get (v := .ref 15) gi_Mod (ci := 6) rfl rfl 4 (by decide) gw_1005 rfl d_Mod_lengthAt_25 ?_
    refine ev_iload_n d_Mod_lengthAt_28 rfl rfl ?_
    refine ev_inB (fun h4 => ?_)
    refine ev_iaload rfl (inB_of h4) d_Mod_lengthAt_29 ?_
    refine ev_iadd d_Mod_lengthAt_30 ?_
    exact ev_zret (ty := .int) rfl rfl d_Mod_lengthAt_31
  · rw [if_neg h2]
    refine ev_iconst (v := 0) d_Mod_lengthAt_9 rfl ?_
    refine ev_goto (tgt := 31) d_Mod_lengthAt_10 rfl ?_
    exact ev_zret (ty := .int) rfl rfl d_Mod_lengthAt_31
def B_Mod_pageOf_44   (r : RS) (x4 : Int32) : Option (Int32 × RS) :=
  some (x4, r)
theorem e_B_Mod_pageOf_44 {sc : Nat × (Nat → Int32)} {d : DS} {f : FS} {w : WS} {m : MS} {s : SS} {g : GS} {tl : List mn_E}    (r : RS) (x4 : Int32) : Ev sc 4 61 0 0 M_Mod_pageOf 44 [(4, .int x4)] [] (eLV :: (HD d (HF f (HW w (HM m (HS s (HG g (HR r tl)))))))) (mapR ouI (fun z => (eLV :: (HD d (HF f (HW w (HM m (HS s (HG g (HR z tl))))))))) (B_Mod_pageOf_44 r x4)) := by
  unfold B_Mod_pageOf_44
  refine ev_iload d_Mod_pageOf_44 rfl ?_
  exact ev_zret (ty := .int) rfl rfl d_Mod_pageOf_46
def B_Mod_pageOf_36  (r18 : RS → Int32 → Int32 → Int32 → Option (Int32 × RS)) (r : RS) (x3 : Int32) (x5 : Int32) (t0 : Int32) : Option (Int32 × RS) :=
  r18 r x3 t0 (x5 + 1)
theorem e_B_Mod_pageOf_36 {sc : Nat × (Nat → Int32)} {d : DS} {f : FS} {w : WS} {m : MS} {s : SS} {g : GS} {tl : List mn_E}  (r18 : RS → Int32 → Int32 → Int32 → Option (Int32 × RS)) (hr18 : ∀ (r : RS) (x3 : Int32) (x4 : Int32) (x5 : Int32), Ev sc 4 61 0 0 M_Mod_pageOf 18 [(0, .ref 12), (3, .int x3), (4, .int x4), (5, .int x5)] [] (eLV :: (HD d (HF f (HW w (HM m (HS s (HG g (HR r tl)))))))) (mapR ouI (fun z => (eLV :: (HD d (HF f (HW w (HM m (HS s (HG g (HR z tl))))))))) (r18 r x3 x4 x5))) (r : RS) (x3 : Int32) (x5 : Int32) (t0 : Int32) : Ev sc 4 61 0 0 M_Mod_pageOf 36 [(0, .ref 12), (3, .int x3), (5, .int x5)] [.int t0] (eLV :: (HD d (HF f (HW w (HM m (HS s (HG g (HR r tl)))))))) (mapR ouI (fun z => (eLV :: (HD d (HF f (HW w (HM m (HS s (HG g (HR z tl))))))))) (B_Mod_pageOf_36 r18 r x3 x5 t0)) := by
  unfold B_Mod_pageOf_36
  refine ev_istore d_Mod_pageOf_36 (by decide) rfl ?_
  refine ev_iinc (v := (x5 + 1)) d_Mod_pageOf_38 rfl rfl (by decide) rfl ?_
  refine ev_goto (tgt := 18) d_Mod_pageOf_41 rfl ?_
  exact ev_pick [2, 3, 1, 0] rfl (hr18 r x3 t0 (x5 + 1))
def L_Mod_pageOf_18   : Nat → RS → Int32 → Int32 → Int32 → Option (Int32 × RS)
  | 0, _, _, _, _ => none
  | n + 1, r, x3, x4, x5 =>
  if x3 ≤ x5 then (B_Mod_pageOf_44   r x4) else (if x4 < 0 then (B_Mod_pageOf_44   r x4) else (bnd (f_Mod_beside r x4 1) (fun q => B_Mod_pageOf_36  (L_Mod_pageOf_18 n) q.2 x3 x5 q.1)))
theorem e_L_Mod_pageOf_18 {sc : Nat × (Nat → Int32)} {d : DS} {f : FS} {w : WS} {m : MS} {s : SS} {g : GS} {tl : List mn_E}    : ∀ (n : Nat) (r : RS) (x3 : Int32) (x4 : Int32) (x5 : Int32), Ev sc 4 61 0 0 M_Mod_pageOf 18 [(0, .ref 12), (3, .int x3), (4, .int x4), (5, .int x5)] [] (eLV :: (HD d (HF f (HW w (HM m (HS s (HG g (HR r tl)))))))) (mapR ouI (fun z => (eLV :: (HD d (HF f (HW w (HM m (HS s (HG g (HR z tl))))))))) (L_Mod_pageOf_18   n r x3 x4 x5)) := by
  intro n
  induction n with
  | zero => intro r x3 x4 x5; exact ev_none
  | succ n ih =>
    intro r x3 x4 x5
    rw [L_Mod_pageOf_18]
    refine ev_iload d_Mod_pageOf_18 rfl ?_
    refine ev_iload_n d_Mod_pageOf_20 rfl rfl ?_
    refine ev_icmp_ge (tgt := 44) d_Mod_pageOf_21 rfl (fun h1 => ?_) (fun h1 => ?_)
    · rw [if_pos h1]
      exact ev_pick [2] rfl (e_B_Mod_pageOf_44     r x4)
    · rw [if_neg h1]
      refine ev_iload d_Mod_pageOf_24 rfl ?_
      refine ev_if_lt (tgt := 44) d_Mod_pageOf_26 rfl (fun h2 => ?_) (fun h2 => ?_)
      · rw [if_pos h2]
        exact ev_pick [2] rfl (e_B_Mod_pageOf_44     r x4)
      · rw [if_neg h2]
        refine ev_aload_n d_Mod_pageOf_29 rfl rfl ?_
        refine ev_iload d_Mod_pageOf_30 rfl ?_
        refine ev_iconst (v := 1) d_Mod_pageOf_32 rfl ?_
        refine ev_callB (rc := (f_Mod_beside r x4 1)) (ou := ouI) (Hs := (fun z => (eLV :: (HD d (HF f (HW w (HM m (HS s (HG g (HR z tl)))))))))) (inv_V (q := 12) (av := [.int x4, .int 1]) (rest := []) rfl (ci := 6) rfl d_Mod_pageOf_33 gw_1135 gw_1137 gw_57 mw_Mod_beside nh_Mod_beside pn_Mod_beside rfl) d_Mod_pageOf_33 pl_Mod_beside (Nat.le_of_ble_eq_true rfl) (Nat.le_of_ble_eq_true rfl) (Nat.le_of_ble_eq_true rfl) (e_f_Mod_beside (tl := tl) (d := d) (f := f) (w := w) (m := m) (s := s) (g := g)  r x4 1) (fun _ => (len1 (lenHD (lenHF (lenHW (lenHM (lenHS (lenHG (lenHR rfl))))))))) (fun v z h3 => ⟨_, rfl, ?_⟩)
        exact ev_pick [0, 1, 3] rfl (e_B_Mod_pageOf_36   (L_Mod_pageOf_18 n) ih z x3 x5 v)
def f_Mod_pageOf   (r : RS) (x1 : Int32) (x2 : Int32) (x3 : Int32) : Option (Int32 × RS) :=
  if inB x2 40 then (if ¬ (rPag r x2.toNatClampNeg) = x3 then (L_Mod_pageOf_18   1000 r x3 x1 0) else (some (x2, r))) else none
theorem e_f_Mod_pageOf {sc : Nat × (Nat → Int32)} {d : DS} {f : FS} {w : WS} {m : MS} {s : SS} {g : GS} {tl : List mn_E}    (r : RS) (x1 : Int32) (x2 : Int32) (x3 : Int32) : Ev sc 4 61 0 0 M_Mod_pageOf 0 [(0, .ref 12), (1, .int x1), (2, .int x2), (3, .int x3)] [] (eLV :: (HD d (HF f (HW w (HM m (HS s (HG g (HR r tl)))))))) (mapR ouI (fun z => (eLV :: (HD d (HF f (HW w (HM m (HS s (HG g (HR z tl))))))))) (f_Mod_pageOf r x1 x2 x3)) := by
  unfold f_Mod_pageOf
  refine ev_aload_n d_Mod_pageOf_0 rfl rfl ?_
  refine ev_get (v := .ref 14) gi_Mod (ci := 6) rfl rfl 3 (by decide) gw_1004 rfl d_Mod_pageOf_1 ?_
  refine ev_iload_n d_Mod_pageOf_4 rfl rfl ?_
  refine ev_inB (fun h1 => ?_)
  refine ev_iaload rfl (inB_of h1) d_Mod_pageOf_5 ?_
  refine ev_iload_n d_Mod_pageOf_6 rfl rfl ?_
  refine ev_icmp_ne (tgt := 12) d_Mod_pageOf_7 rfl (fun h2 => ?_) (fun h2 => ?_)
  · rw [if_pos h2]
    refine ev_iload_n d_Mod_pageOf_12 rfl rfl ?_
    refine ev_istore d_Mod_pageOf_13 (by decide) rfl ?_
    refine ev_iconst (v := 0) d_Mod_pageOf_15 rfl ?_
    refine ev_istore d_Mod_pageOf_16 (by decide) rfl ?_
    exact ev_pick [2, 5, 1, 0] rfl (e_L_Mod_pageOf_18     1000 r x3 x1 0)
  · rw [if_neg h2]
    refine ev_iload_n d_Mod_pageOf_10 rfl rfl ?_
    exact ev_zret (ty := .int) rfl rfl d_Mod_pageOf_11
def B_Mod_isDirectory_35   (r : RS) : Option (Int32 × Unit) :=
  some (1, ())
theorem e_B_Mod_isDirectory_35 {sc : Nat × (Nat → Int32)} {d : DS} {f : FS} {w : WS} {m : MS} {s : SS} {g : GS} {tl : List mn_E}    (r : RS) : Ev sc 0 0 0 0 M_Mod_isDirectory 35 [] [] (eLV :: (HD d (HF f (HW w (HM m (HS s (HG g (HR r tl)))))))) (mapR ouI (fun z => (eLV :: (HD d (HF f (HW w (HM m (HS s (HG g (HR r tl))))))))) (B_Mod_isDirectory_35 r)) := by
  unfold B_Mod_isDirectory_35
  refine ev_iconst (v := 1) d_Mod_isDirectory_35 rfl ?_
  refine ev_goto (tgt := 40) d_Mod_isDirectory_36 rfl ?_
  exact ev_zret (ty := .boolean) rfl rfl d_Mod_isDirectory_40
def B_Mod_isDirectory_39   (r : RS) : Option (Int32 × Unit) :=
  some (0, ())
theorem e_B_Mod_isDirectory_39 {sc : Nat × (Nat → Int32)} {d : DS} {f : FS} {w : WS} {m : MS} {s : SS} {g : GS} {tl : List mn_E}    (r : RS) : Ev sc 0 0 0 0 M_Mod_isDirectory 39 [] [] (eLV :: (HD d (HF f (HW w (HM m (HS s (HG g (HR r tl)))))))) (mapR ouI (fun z => (eLV :: (HD d (HF f (HW w (HM m (HS s (HG g (HR r tl))))))))) (B_Mod_isDirectory_39 r)) := by
  unfold B_Mod_isDirectory_39
  refine ev_iconst (v := 0) d_Mod_isDirectory_39 rfl ?_
  exact ev_zret (ty := .boolean) rfl rfl d_Mod_isDirectory_40
def f_Mod_isDirectory   (r : RS) (x1 : Int32) : Option (Int32 × Unit) :=
  if inB x1 40 then (if (rSer r x1.toNatClampNeg) = 1 then (B_Mod_isDirectory_35   r) else (if inB x1 40 then (if (rSer r x1.toNatClampNeg) ≤ 2 then (B_Mod_isDirectory_39   r) else (if inB ((8 * x1) + 2) 320 then (if ¬ (rByt r ((8 * x1) + 2).toNatClampNeg) = 1 then (B_Mod_isDirectory_39   r) else (B_Mod_isDirectory_35   r)) else none)) else none)) else none
theorem e_f_Mod_isDirectory {sc : Nat × (Nat → Int32)} {d : DS} {f : FS} {w : WS} {m : MS} {s : SS} {g : GS} {tl : List mn_E}    (r : RS) (x1 : Int32) : Ev sc 0 0 0 0 M_Mod_isDirectory 0 [(0, .ref 12), (1, .int x1)] [] (eLV :: (HD d (HF f (HW w (HM m (HS s (HG g (HR r tl)))))))) (mapR ouI (fun z => (eLV :: (HD d (HF f (HW w (HM m (HS s (HG g (HR r tl))))))))) (f_Mod_isDirectory r x1)) := by
  unfold f_Mod_isDirectory
  refine ev_aload_n d_Mod_isDirectory_0 rfl rfl ?_
  refine ev_get (v := .ref 13) gi_Mod (ci := 6) rfl rfl 2 (by decide) gw_1003 rfl d_Mod_isDirectory_1 ?_
  refine ev_iload_n d_Mod_isDirectory_4 rfl rfl ?_
  refine ev_inB (fun h1 => ?_)
  refine ev_iaload rfl (inB_of h1) d_Mod_isDirectory_5 ?_
  refine ev_iconst (v := 1) d_Mod_isDirectory_6 rfl ?_
  refine ev_icmp_eq (tgt := 35) d_Mod_isDirectory_7 rfl (fun h2 => ?_) (fun h2 => ?_)
  · rw [if_pos h2]
    exact ev_pick [] rfl (e_B_Mod_isDirectory_35     r)
  · rw [if_neg h2]
    refine ev_aload_n d_Mod_isDirectory_10 rfl rfl ?_
    refine ev_get (v := .ref 13) gi_Mod (ci := 6) rfl rfl 2 (by decide) gw_1003 rfl d_Mod_isDirectory_11 ?_
    refine ev_iload_n d_Mod_isDirectory_14 rfl rfl ?_
    refine ev_inB (fun h3 => ?_)
    refine ev_iaload rfl (inB_of h3) d_Mod_isDirectory_15 ?_
    refine ev_iconst (v := 2) d_Mod_isDirectory_16 rfl ?_
    refine ev_icmp_le (tgt := 39) d_Mod_isDirectory_17 rfl (fun h4 => ?_) (fun h4 => ?_)
    · rw [if_pos h4]
      exact ev_pick [] rfl (e_B_Mod_isDirectory_39     r)
    · rw [if_neg h4]
      refine ev_aload_n d_Mod_isDirectory_20 rfl rfl ?_
      refine ev_get (v := .ref 18) gi_Mod (ci := 6) rfl rfl 7 (by decide) gw_1008 rfl d_Mod_isDirectory_21 ?_
      refine ev_bipush (v := 8) d_Mod_isDirectory_24 rfl ?_
      refine ev_iload_n d_Mod_isDirectory_26 rfl rfl ?_
      refine ev_imul d_Mod_isDirectory_27 ?_
      refine ev_iconst (v := 2) d_Mod_isDirectory_28 rfl ?_
      refine ev_iadd d_Mod_isDirectory_29 ?_
      refine ev_inB (fun h5 => ?_)
      refine ev_iaload rfl (inB_of h5) d_Mod_isDirectory_30 ?_
      refine ev_iconst (v := 1) d_Mod_isDirectory_31 rfl ?_
      refine ev_icmp_ne (tgt := 39) d_Mod_isDirectory_32 rfl (fun h6 => ?_) (fun h6 => ?_)
      · rw [if_pos h6]
        exact ev_pick [] rfl (e_B_Mod_isDirectory_39     r)
      · rw [if_neg h6]
        exact ev_pick [] rfl (e_B_Mod_isDirectory_35     r)
def f_Mod_nameAt   (r : RS) (x1 : Int32) : Option (Int32 × Unit) :=
  if inB x1 320 then (if inB (x1 + 1) 320 then (some (((256 * (rByt r x1.toNatClampNeg)) + (rByt r (x1 + 1).toNatClampNeg)), ())) else none) else none
theorem e_f_Mod_nameAt {sc : Nat × (Nat → Int32)} {d : DS} {f : FS} {w : WS} {m : MS} {s : SS} {g : GS} {tl : List mn_E}    (r : RS) (x1 : Int32) : Ev sc 0 0 0 0 M_Mod_nameAt 0 [(0, .ref 12), (1, .int x1)] [] (eLV :: (HD d (HF f (HW w (HM m (HS s (HG g (HR r tl)))))))) (mapR ouI (fun z => (eLV :: (HD d (HF f (HW w (HM m (HS s (HG g (HR r tl))))))))) (f_Mod_nameAt r x1)) := by
  unfold f_Mod_nameAt
  refine ev_sipush (v := 256) d_Mod_nameAt_0 rfl ?_
  refine ev_aload_n d_Mod_nameAt_3 rfl rfl ?_
  refine ev_get (v := .ref 18) gi_Mod (ci := 6) rfl rfl 7 (by decide) gw_1008 rfl d_Mod_nameAt_4 ?_
  refine ev_iload_n d_Mod_nameAt_7 rfl rfl ?_
  refine ev_inB (fun h1 => ?_)
  refine ev_iaload rfl (inB_of h1) d_Mod_nameAt_8 ?_
  refine ev_imul d_Mod_nameAt_9 ?_
  refine ev_aload_n d_Mod_nameAt_10 rfl rfl ?_
  refine ev_get (v := .ref 18) gi_Mod (ci := 6) rfl rfl 7 (by decide) gw_1008 rfl d_Mod_nameAt_11 ?_
  refine ev_iload_n d_Mod_nameAt_14 rfl rfl ?_
  refine ev_iconst (v := 1) d_Mod_nameAt_15 rfl ?_
  refine ev_iadd d_Mod_nameAt_16 ?_
  refine ev_inB (fun h2 => ?_)
  refine ev_iaload rfl (inB_of h2) d_Mod_nameAt_17 ?_
  refine ev_iadd d_Mod_nameAt_18 ?_
  exact ev_zret (ty := .int) rfl rfl d_Mod_nameAt_19
def B_Mod_go_157   (r : RS) : Option (Int32 × RS) :=
  some (1, r)
theorem e_B_Mod_go_157 {sc : Nat × (Nat → Int32)} {d : DS} {f : FS} {w : WS} {m : MS} {s : SS} {g : GS} {tl : List mn_E}    (r : RS) : Ev sc 4 61 0 0 M_Mod_go 157 [] [] (eLV :: (HD d (HF f (HW w (HM m (HS s (HG g (HR r tl)))))))) (mapR ouI (fun z => (eLV :: (HD d (HF f (HW w (HM m (HS s (HG g (HR z tl))))))))) (B_Mod_go_157 r)) := by
  unfold B_Mod_go_157
  refine ev_iconst (v := 1) d_Mod_go_157 rfl ?_
  exact ev_zret (ty := .boolean) rfl rfl d_Mod_go_158
def B_Mod_go_151   (r : RS) (x7 : Int32) : Option (Int32 × RS) :=
  B_Mod_go_157   (rSFPl r x7)
theorem e_B_Mod_go_151 {sc : Nat × (Nat → Int32)} {d : DS} {f : FS} {w : WS} {m : MS} {s : SS} {g : GS} {tl : List mn_E}    (r : RS) (x7 : Int32) : Ev sc 4 61 0 0 M_Mod_go 151 [(0, .ref 12), (7, .int x7)] [] (eLV :: (HD d (HF f (HW w (HM m (HS s (HG g (HR r tl)))))))) (mapR ouI (fun z => (eLV :: (HD d (HF f (HW w (HM m (HS s (HG g (HR z tl))))))))) (B_Mod_go_151 r x7)) := by
  unfold B_Mod_go_151
  refine ev_aload_n d_Mod_go_151 rfl rfl ?_
  refine ev_iload d_Mod_go_152 rfl ?_
  refine ev_put (h2 := (eLV :: (HD d (HF f (HW w (HM m (HS s (HG g (HR (rSFPl r x7) tl))))))))) gi_Mod ft_Mod fo_Mod fn_Mod (ci := 6) rfl rfl 20 (by decide) gw_1021 rfl rfl (fun _ => rfl) (fun _ => rfl) (Nat.le_of_ble_eq_true rfl) rfl d_Mod_go_154 ?_
  exact ev_pick [] rfl (e_B_Mod_go_157     (rSFPl r x7))
def B_Mod_go_235  (r21 : RS → Int32 → Int32 → Int32 → Int32 → Option (Int32 × RS)) (r : RS) (x2 : Int32) (x3 : Int32) (x4 : Int32) (x5 : Int32) : Option (Int32 × RS) :=
  r21 r x2 x3 x4 (x5 + 1)
theorem e_B_Mod_go_235 {sc : Nat × (Nat → Int32)} {d : DS} {f : FS} {w : WS} {m : MS} {s : SS} {g : GS} {tl : List mn_E}  (r21 : RS → Int32 → Int32 → Int32 → Int32 → Option (Int32 × RS)) (hr21 : ∀ (r : RS) (x2 : Int32) (x3 : Int32) (x4 : Int32) (x5 : Int32), Ev sc 4 61 0 0 M_Mod_go 21 [(0, .ref 12), (2, .int x2), (3, .int x3), (4, .int x4), (5, .int x5)] [] (eLV :: (HD d (HF f (HW w (HM m (HS s (HG g (HR r tl)))))))) (mapR ouI (fun z => (eLV :: (HD d (HF f (HW w (HM m (HS s (HG g (HR z tl))))))))) (r21 r x2 x3 x4 x5))) (r : RS) (x2 : Int32) (x3 : Int32) (x4 : Int32) (x5 : Int32) : Ev sc 4 61 0 0 M_Mod_go 235 [(0, .ref 12), (2, .int x2), (3, .int x3), (4, .int x4), (5, .int x5)] [] (eLV :: (HD d (HF f (HW w (HM m (HS s (HG g (HR r tl)))))))) (mapR ouI (fun z => (eLV :: (HD d (HF f (HW w (HM m (HS s (HG g (HR z tl))))))))) (B_Mod_go_235 r21 r x2 x3 x4 x5)) := by
  unfold B_Mod_go_235
  refine ev_iinc (v := (x5 + 1)) d_Mod_go_235 rfl rfl (by decide) rfl ?_
  refine ev_goto (tgt := 21) d_Mod_go_238 rfl ?_
  exact ev_pick [1, 2, 3, 4, 0] rfl (hr21 r x2 x3 x4 (x5 + 1))
def B_Mod_go_220  (r21 : RS → Int32 → Int32 → Int32 → Int32 → Option (Int32 × RS)) (r : RS) (x2 : Int32) (x3 : Int32) (x4 : Int32) (x5 : Int32) (t0 : Int32) : Option (Int32 × RS) :=
  if 0 ≤ t0 then (B_Mod_go_235  r21 (rSEnd r t0) x2 x3 x4 x5) else (some (0, r))
theorem e_B_Mod_go_220 {sc : Nat × (Nat → Int32)} {d : DS} {f : FS} {w : WS} {m : MS} {s : SS} {g : GS} {tl : List mn_E}  (r21 : RS → Int32 → Int32 → Int32 → Int32 → Option (Int32 × RS)) (hr21 : ∀ (r : RS) (x2 : Int32) (x3 : Int32) (x4 : Int32) (x5 : Int32), Ev sc 4 61 0 0 M_Mod_go 21 [(0, .ref 12), (2, .int x2), (3, .int x3), (4, .int x4), (5, .int x5)] [] (eLV :: (HD d (HF f (HW w (HM m (HS s (HG g (HR r tl)))))))) (mapR ouI (fun z => (eLV :: (HD d (HF f (HW w (HM m (HS s (HG g (HR z tl))))))))) (r21 r x2 x3 x4 x5))) (r : RS) (x2 : Int32) (x3 : Int32) (x4 : Int32) (x5 : Int32) (t0 : Int32) : Ev sc 4 61 0 0 M_Mod_go 220 [(0, .ref 12), (2, .int x2), (3, .int x3), (4, .int x4), (5, .int x5)] [.int t0] (eLV :: (HD d (HF f (HW w (HM m (HS s (HG g (HR r tl)))))))) (mapR ouI (fun z => (eLV :: (HD d (HF f (HW w (HM m (HS s (HG g (HR z tl))))))))) (B_Mod_go_220 r21 r x2 x3 x4 x5 t0)) := by
  unfold B_Mod_go_220
  refine ev_istore d_Mod_go_220 (by decide) rfl ?_
  refine ev_iload d_Mod_go_222 rfl ?_
  refine ev_if_ge (tgt := 229) d_Mod_go_224 rfl (fun h1 => ?_) (fun h1 => ?_)
  · rw [if_pos h1]
    refine ev_aload_n d_Mod_go_229 rfl rfl ?_
    refine ev_iload d_Mod_go_230 rfl ?_
    refine ev_put (h2 := (eLV :: (HD d (HF f (HW w (HM m (HS s (HG g (HR (rSEnd r t0) tl))))))))) gi_Mod ft_Mod fo_Mod fn_Mod (ci := 6) rfl rfl 18 (by decide) gw_1019 rfl rfl (fun _ => rfl) (fun _ => rfl) (Nat.le_of_ble_eq_true rfl) rfl d_Mod_go_232 ?_
    exact ev_pick [1, 2, 3, 4, 5] rfl (e_B_Mod_go_235   r21 hr21 (rSEnd r t0) x2 x3 x4 x5)
  · rw [if_neg h1]
    refine ev_iconst (v := 0) d_Mod_go_227 rfl ?_
    exact ev_zret (ty := .boolean) rfl rfl d_Mod_go_228
def B_Mod_go_197  (r21 : RS → Int32 → Int32 → Int32 → Int32 → Option (Int32 × RS)) (r : RS) (x2 : Int32) (x3 : Int32) (x4 : Int32) (x5 : Int32) : Option (Int32 × RS) :=
  if inB (rEnd r) 40 then (if 0 ≤ (rNex r (rEnd r).toNatClampNeg) then (bnd (f_Mod_beside r (rEnd r) 1) (fun q => B_Mod_go_220  r21 q.2 x2 x3 x4 x5 q.1)) else (some (1, r))) else none
theorem e_B_Mod_go_197 {sc : Nat × (Nat → Int32)} {d : DS} {f : FS} {w : WS} {m : MS} {s : SS} {g : GS} {tl : List mn_E}  (r21 : RS → Int32 → Int32 → Int32 → Int32 → Option (Int32 × RS)) (hr21 : ∀ (r : RS) (x2 : Int32) (x3 : Int32) (x4 : Int32) (x5 : Int32), Ev sc 4 61 0 0 M_Mod_go 21 [(0, .ref 12), (2, .int x2), (3, .int x3), (4, .int x4), (5, .int x5)] [] (eLV :: (HD d (HF f (HW w (HM m (HS s (HG g (HR r tl)))))))) (mapR ouI (fun z => (eLV :: (HD d (HF f (HW w (HM m (HS s (HG g (HR z tl))))))))) (r21 r x2 x3 x4 x5))) (r : RS) (x2 : Int32) (x3 : Int32) (x4 : Int32) (x5 : Int32) : Ev sc 4 61 0 0 M_Mod_go 197 [(0, .ref 12), (2, .int x2), (3, .int x3), (4, .int x4), (5, .int x5)] [] (eLV :: (HD d (HF f (HW w (HM m (HS s (HG g (HR r tl)))))))) (mapR ouI (fun z => (eLV :: (HD d (HF f (HW w (HM m (HS s (HG g (HR z tl))))))))) (B_Mod_go_197 r21 r x2 x3 x4 x5)) := by
  unfold B_Mod_go_197
  refine ev_aload_n d_Mod_go_197 rfl rfl ?_
  refine ev_get (v := .ref 16) gi_Mod (ci := 6) rfl rfl 5 (by decide) gw_1006 rfl d_Mod_go_198 ?_
  refine ev_aload_n d_Mod_go_201 rfl rfl ?_
  refine ev_get (v := .int (rEnd r)) gi_Mod (ci := 6) rfl rfl 18 (by decide) gw_1019 rfl d_Mod_go_202 ?_
  refine ev_inB (fun h1 => ?_)
  refine ev_iaload rfl (inB_of h1) d_Mod_go_205 ?_
  refine ev_if_ge (tgt := 211) d_Mod_go_206 rfl (fun h2 => ?_) (fun h2 => ?_)
  · rw [if_pos h2]
    refine ev_aload_n d_Mod_go_211 rfl rfl ?_
    refine ev_aload_n d_Mod_go_212 rfl rfl ?_
    refine ev_get (v := .int (rEnd r)) gi_Mod (ci := 6) rfl rfl 18 (by decide) gw_1019 rfl d_Mod_go_213 ?_
    refine ev_iconst (v := 1) d_Mod_go_216 rfl ?_
    refine ev_callB (rc := (f_Mod_beside r (rEnd r) 1)) (ou := ouI) (Hs := (fun z => (eLV :: (HD d (HF f (HW w (HM m (HS s (HG g (HR z tl)))))))))) (inv_V (q := 12) (av := [.int (rEnd r), .int 1]) (rest := []) rfl (ci := 6) rfl d_Mod_go_217 gw_1135 gw_1137 gw_57 mw_Mod_beside nh_Mod_beside pn_Mod_beside rfl) d_Mod_go_217 pl_Mod_beside (Nat.le_of_ble_eq_true rfl) (Nat.le_of_ble_eq_true rfl) (Nat.le_of_ble_eq_true rfl) (e_f_Mod_beside (tl := tl) (d := d) (f := f) (w := w) (m := m) (s := s) (g := g)  r (rEnd r) 1) (fun _ => (len1 (lenHD (lenHF (lenHW (lenHM (lenHS (lenHG (lenHR rfl))))))))) (fun v z h3 => ⟨_, rfl, ?_⟩)
    exact ev_pick [0, 1, 2, 3, 4] rfl (e_B_Mod_go_220   r21 hr21 z x2 x3 x4 x5 v)
  · rw [if_neg h2]
    refine ev_iconst (v := 1) d_Mod_go_209 rfl ?_
    exact ev_zret (ty := .boolean) rfl rfl d_Mod_go_210
def B_Mod_go_185  (r21 : RS → Int32 → Int32 → Int32 → Int32 → Option (Int32 × RS)) (r31 : RS → Int32 → Int32 → Int32 → Int32 → Int32 → Option (Int32 × RS)) (r : RS) (x2 : Int32) (x3 : Int32) (x4 : Int32) (x5 : Int32) (x6 : Int32) : Option (Int32 × RS) :=
  r31 r x2 x3 (x4 + 1) x5 (x6 + 1)
theorem e_B_Mod_go_185 {sc : Nat × (Nat → Int32)} {d : DS} {f : FS} {w : WS} {m : MS} {s : SS} {g : GS} {tl : List mn_E}  (r21 : RS → Int32 → Int32 → Int32 → Int32 → Option (Int32 × RS)) (r31 : RS → Int32 → Int32 → Int32 → Int32 → Int32 → Option (Int32 × RS)) (hr21 : ∀ (r : RS) (x2 : Int32) (x3 : Int32) (x4 : Int32) (x5 : Int32), Ev sc 4 61 0 0 M_Mod_go 21 [(0, .ref 12), (2, .int x2), (3, .int x3), (4, .int x4), (5, .int x5)] [] (eLV :: (HD d (HF f (HW w (HM m (HS s (HG g (HR r tl)))))))) (mapR ouI (fun z => (eLV :: (HD d (HF f (HW w (HM m (HS s (HG g (HR z tl))))))))) (r21 r x2 x3 x4 x5))) (hr31 : ∀ (r : RS) (x2 : Int32) (x3 : Int32) (x4 : Int32) (x5 : Int32) (x6 : Int32), Ev sc 4 61 0 0 M_Mod_go 31 [(0, .ref 12), (2, .int x2), (3, .int x3), (4, .int x4), (5, .int x5), (6, .int x6)] [] (eLV :: (HD d (HF f (HW w (HM m (HS s (HG g (HR r tl)))))))) (mapR ouI (fun z => (eLV :: (HD d (HF f (HW w (HM m (HS s (HG g (HR z tl))))))))) (r31 r x2 x3 x4 x5 x6))) (r : RS) (x2 : Int32) (x3 : Int32) (x4 : Int32) (x5 : Int32) (x6 : Int32) : Ev sc 4 61 0 0 M_Mod_go 185 [(0, .ref 12), (2, .int x2), (3, .int x3), (4, .int x4), (5, .int x5), (6, .int x6)] [] (eLV :: (HD d (HF f (HW w (HM m (HS s (HG g (HR r tl)))))))) (mapR ouI (fun z => (eLV :: (HD d (HF f (HW w (HM m (HS s (HG g (HR z tl))))))))) (B_Mod_go_185 r21 r31 r x2 x3 x4 x5 x6)) := by
  unfold B_Mod_go_185
  refine ev_iload d_Mod_go_185 rfl ?_
  refine ev_iconst (v := 1) d_Mod_go_187 rfl ?_
  refine ev_iadd d_Mod_go_188 ?_
  refine ev_istore d_Mod_go_189 (by decide) rfl ?_
  refine ev_iinc (v := (x6 + 1)) d_Mod_go_191 rfl rfl (by decide) rfl ?_
  refine ev_goto (tgt := 31) d_Mod_go_194 rfl ?_
  exact ev_pick [2, 3, 4, 1, 5, 0] rfl (hr31 r x2 x3 (x4 + 1) x5 (x6 + 1))
def B_Mod_go_179  (r21 : RS → Int32 → Int32 → Int32 → Int32 → Option (Int32 × RS)) (r31 : RS → Int32 → Int32 → Int32 → Int32 → Int32 → Option (Int32 × RS)) (r : RS) (x2 : Int32) (x3 : Int32) (x4 : Int32) (x5 : Int32) (x6 : Int32) (x7 : Int32) : Option (Int32 × RS) :=
  B_Mod_go_185  r21 r31 (rSHPl r x7) x2 x3 x4 x5 x6
theorem e_B_Mod_go_179 {sc : Nat × (Nat → Int32)} {d : DS} {f : FS} {w : WS} {m : MS} {s : SS} {g : GS} {tl : List mn_E}  (r21 : RS → Int32 → Int32 → Int32 → Int32 → Option (Int32 × RS)) (r31 : RS → Int32 → Int32 → Int32 → Int32 → Int32 → Option (Int32 × RS)) (hr21 : ∀ (r : RS) (x2 : Int32) (x3 : Int32) (x4 : Int32) (x5 : Int32), Ev sc 4 61 0 0 M_Mod_go 21 [(0, .ref 12), (2, .int x2), (3, .int x3), (4, .int x4), (5, .int x5)] [] (eLV :: (HD d (HF f (HW w (HM m (HS s (HG g (HR r tl)))))))) (mapR ouI (fun z => (eLV :: (HD d (HF f (HW w (HM m (HS s (HG g (HR z tl))))))))) (r21 r x2 x3 x4 x5))) (hr31 : ∀ (r : RS) (x2 : Int32) (x3 : Int32) (x4 : Int32) (x5 : Int32) (x6 : Int32), Ev sc 4 61 0 0 M_Mod_go 31 [(0, .ref 12), (2, .int x2), (3, .int x3), (4, .int x4), (5, .int x5), (6, .int x6)] [] (eLV :: (HD d (HF f (HW w (HM m (HS s (HG g (HR r tl)))))))) (mapR ouI (fun z => (eLV :: (HD d (HF f (HW w (HM m (HS s (HG g (HR z tl))))))))) (r31 r x2 x3 x4 x5 x6))) (r : RS) (x2 : Int32) (x3 : Int32) (x4 : Int32) (x5 : Int32) (x6 : Int32) (x7 : Int32) : Ev sc 4 61 0 0 M_Mod_go 179 [(0, .ref 12), (2, .int x2), (3, .int x3), (4, .int x4), (5, .int x5), (6, .int x6), (7, .int x7)] [] (eLV :: (HD d (HF f (HW w (HM m (HS s (HG g (HR r tl)))))))) (mapR ouI (fun z => (eLV :: (HD d (HF f (HW w (HM m (HS s (HG g (HR z tl))))))))) (B_Mod_go_179 r21 r31 r x2 x3 x4 x5 x6 x7)) := by
  unfold B_Mod_go_179
  refine ev_aload_n d_Mod_go_179 rfl rfl ?_
  refine ev_iload d_Mod_go_180 rfl ?_
  refine ev_put (h2 := (eLV :: (HD d (HF f (HW w (HM m (HS s (HG g (HR (rSHPl r x7) tl))))))))) gi_Mod ft_Mod fo_Mod fn_Mod (ci := 6) rfl rfl 17 (by decide) gw_1018 rfl rfl (fun _ => rfl) (fun _ => rfl) (Nat.le_of_ble_eq_true rfl) rfl d_Mod_go_182 ?_
  exact ev_pick [0, 1, 2, 3, 4, 5] rfl (e_B_Mod_go_185   r21 r31 hr21 hr31 (rSHPl r x7) x2 x3 x4 x5 x6)
def B_Mod_go_136  (r21 : RS → Int32 → Int32 → Int32 → Int32 → Option (Int32 × RS)) (r31 : RS → Int32 → Int32 → Int32 → Int32 → Int32 → Option (Int32 × RS)) (r : RS) (x2 : Int32) (x3 : Int32) (x4 : Int32) (x5 : Int32) (x6 : Int32) (x7 : Int32) (x8 : Int32) (t0 : Int32) : Option (Int32 × RS) :=
  if t0 = 0 then (if x8 = 0 then (B_Mod_go_185  r21 r31 r x2 x3 x4 x5 x6) else (if 0 ≤ (rHAt r) then (B_Mod_go_185  r21 r31 r x2 x3 x4 x5 x6) else (B_Mod_go_179  r21 r31 (rSHAt r (rEnd r)) x2 x3 x4 x5 x6 x7))) else (B_Mod_go_151   (rSFAt r (rEnd r)) x7)
theorem e_B_Mod_go_136 {sc : Nat × (Nat → Int32)} {d : DS} {f : FS} {w : WS} {m : MS} {s : SS} {g : GS} {tl : List mn_E}  (r21 : RS → Int32 → Int32 → Int32 → Int32 → Option (Int32 × RS)) (r31 : RS → Int32 → Int32 → Int32 → Int32 → Int32 → Option (Int32 × RS)) (hr21 : ∀ (r : RS) (x2 : Int32) (x3 : Int32) (x4 : Int32) (x5 : Int32), Ev sc 4 61 0 0 M_Mod_go 21 [(0, .ref 12), (2, .int x2), (3, .int x3), (4, .int x4), (5, .int x5)] [] (eLV :: (HD d (HF f (HW w (HM m (HS s (HG g (HR r tl)))))))) (mapR ouI (fun z => (eLV :: (HD d (HF f (HW w (HM m (HS s (HG g (HR z tl))))))))) (r21 r x2 x3 x4 x5))) (hr31 : ∀ (r : RS) (x2 : Int32) (x3 : Int32) (x4 : Int32) (x5 : Int32) (x6 : Int32), Ev sc 4 61 0 0 M_Mod_go 31 [(0, .ref 12), (2, .int x2), (3, .int x3), (4, .int x4), (5, .int x5), (6, .int x6)] [] (eLV :: (HD d (HF f (HW w (HM m (HS s (HG g (HR r tl)))))))) (mapR ouI (fun z => (eLV :: (HD d (HF f (HW w (HM m (HS s (HG g (HR z tl))))))))) (r31 r x2 x3 x4 x5 x6))) (r : RS) (x2 : Int32) (x3 : Int32) (x4 : Int32) (x5 : Int32) (x6 : Int32) (x7 : Int32) (x8 : Int32) (t0 : Int32) : Ev sc 4 61 0 0 M_Mod_go 136 [(0, .ref 12), (2, .int x2), (3, .int x3), (4, .int x4), (5, .int x5), (6, .int x6), (7, .int x7), (8, .int x8)] [.int t0] (eLV :: (HD d (HF f (HW w (HM m (HS s (HG g (HR r tl)))))))) (mapR ouI (fun z => (eLV :: (HD d (HF f (HW w (HM m (HS s (HG g (HR z tl))))))))) (B_Mod_go_136 r21 r31 r x2 x3 x4 x5 x6 x7 x8 t0)) := by
  unfold B_Mod_go_136
  refine ev_istore d_Mod_go_136 (by decide) rfl ?_
  refine ev_iload d_Mod_go_138 rfl ?_
  refine ev_if_eq (tgt := 159) d_Mod_go_140 rfl (fun h1 => ?_) (fun h1 => ?_)
  · rw [if_pos h1]
    refine ev_iload d_Mod_go_159 rfl ?_
    refine ev_if_eq (tgt := 185) d_Mod_go_161 rfl (fun h2 => ?_) (fun h2 => ?_)
    · rw [if_pos h2]
      exact ev_pick [1, 2, 3, 4, 5, 6] rfl (e_B_Mod_go_185   r21 r31 hr21 hr31 r x2 x3 x4 x5 x6)
    · rw [if_neg h2]
      refine ev_aload_n d_Mod_go_164 rfl rfl ?_
      refine ev_get (v := .int (rHAt r)) gi_Mod (ci := 6) rfl rfl 16 (by decide) gw_1017 rfl d_Mod_go_165 ?_
      refine ev_if_ge (tgt := 185) d_Mod_go_168 rfl (fun h3 => ?_) (fun h3 => ?_)
      · rw [if_pos h3]
        exact ev_pick [1, 2, 3, 4, 5, 6] rfl (e_B_Mod_go_185   r21 r31 hr21 hr31 r x2 x3 x4 x5 x6)
      · rw [if_neg h3]
        refine ev_aload_n d_Mod_go_171 rfl rfl ?_
        refine ev_aload_n d_Mod_go_172 rfl rfl ?_
        refine ev_get (v := .int (rEnd r)) gi_Mod (ci := 6) rfl rfl 18 (by decide) gw_1019 rfl d_Mod_go_173 ?_
        refine ev_put (h2 := (eLV :: (HD d (HF f (HW w (HM m (HS s (HG g (HR (rSHAt r (rEnd r)) tl))))))))) gi_Mod ft_Mod fo_Mod fn_Mod (ci := 6) rfl rfl 16 (by decide) gw_1017 rfl rfl (fun _ => rfl) (fun _ => rfl) (Nat.le_of_ble_eq_true rfl) rfl d_Mod_go_176 ?_
        exact ev_pick [1, 2, 3, 4, 5, 6, 7] rfl (e_B_Mod_go_179   r21 r31 hr21 hr31 (rSHAt r (rEnd r)) x2 x3 x4 x5 x6 x7)
  · rw [if_neg h1]
    refine ev_aload_n d_Mod_go_143 rfl rfl ?_
    refine ev_aload_n d_Mod_go_144 rfl rfl ?_
    refine ev_get (v := .int (rEnd r)) gi_Mod (ci := 6) rfl rfl 18 (by decide) gw_1019 rfl d_Mod_go_145 ?_
    refine ev_put (h2 := (eLV :: (HD d (HF f (HW w (HM m (HS s (HG g (HR (rSFAt r (rEnd r)) tl))))))))) gi_Mod ft_Mod fo_Mod fn_Mod (ci := 6) rfl rfl 19 (by decide) gw_1020 rfl rfl (fun _ => rfl) (fun _ => rfl) (Nat.le_of_ble_eq_true rfl) rfl d_Mod_go_148 ?_
    exact ev_pick [1, 7] rfl (e_B_Mod_go_151     (rSFAt r (rEnd r)) x7)
def B_Mod_go_131  (r21 : RS → Int32 → Int32 → Int32 → Int32 → Option (Int32 × RS)) (r31 : RS → Int32 → Int32 → Int32 → Int32 → Int32 → Option (Int32 × RS)) (r : RS) (x2 : Int32) (x3 : Int32) (x4 : Int32) (x5 : Int32) (x6 : Int32) (x7 : Int32) (x8 : Int32) : Option (Int32 × RS) :=
  B_Mod_go_136  r21 r31 r x2 x3 x4 x5 x6 x7 x8 1
theorem e_B_Mod_go_131 {sc : Nat × (Nat → Int32)} {d : DS} {f : FS} {w : WS} {m : MS} {s : SS} {g : GS} {tl : List mn_E}  (r21 : RS → Int32 → Int32 → Int32 → Int32 → Option (Int32 × RS)) (r31 : RS → Int32 → Int32 → Int32 → Int32 → Int32 → Option (Int32 × RS)) (hr21 : ∀ (r : RS) (x2 : Int32) (x3 : Int32) (x4 : Int32) (x5 : Int32), Ev sc 4 61 0 0 M_Mod_go 21 [(0, .ref 12), (2, .int x2), (3, .int x3), (4, .int x4), (5, .int x5)] [] (eLV :: (HD d (HF f (HW w (HM m (HS s (HG g (HR r tl)))))))) (mapR ouI (fun z => (eLV :: (HD d (HF f (HW w (HM m (HS s (HG g (HR z tl))))))))) (r21 r x2 x3 x4 x5))) (hr31 : ∀ (r : RS) (x2 : Int32) (x3 : Int32) (x4 : Int32) (x5 : Int32) (x6 : Int32), Ev sc 4 61 0 0 M_Mod_go 31 [(0, .ref 12), (2, .int x2), (3, .int x3), (4, .int x4), (5, .int x5), (6, .int x6)] [] (eLV :: (HD d (HF f (HW w (HM m (HS s (HG g (HR r tl)))))))) (mapR ouI (fun z => (eLV :: (HD d (HF f (HW w (HM m (HS s (HG g (HR z tl))))))))) (r31 r x2 x3 x4 x5 x6))) (r : RS) (x2 : Int32) (x3 : Int32) (x4 : Int32) (x5 : Int32) (x6 : Int32) (x7 : Int32) (x8 : Int32) : Ev sc 4 61 0 0 M_Mod_go 131 [(0, .ref 12), (2, .int x2), (3, .int x3), (4, .int x4), (5, .int x5), (6, .int x6), (7, .int x7), (8, .int x8)] [] (eLV :: (HD d (HF f (HW w (HM m (HS s (HG g (HR r tl)))))))) (mapR ouI (fun z => (eLV :: (HD d (HF f (HW w (HM m (HS s (HG g (HR z tl))))))))) (B_Mod_go_131 r21 r31 r x2 x3 x4 x5 x6 x7 x8)) := by
  unfold B_Mod_go_131
  refine ev_iconst (v := 1) d_Mod_go_131 rfl ?_
  refine ev_goto (tgt := 136) d_Mod_go_132 rfl ?_
  exact ev_pick [0, 1, 2, 3, 4, 5, 6, 7] rfl (e_B_Mod_go_136   r21 r31 hr21 hr31 r x2 x3 x4 x5 x6 x7 x8 1)
def B_Mod_go_135  (r21 : RS → Int32 → Int32 → Int32 → Int32 → Option (Int32 × RS)) (r31 : RS → Int32 → Int32 → Int32 → Int32 → Int32 → Option (Int32 × RS)) (r : RS) (x2 : Int32) (x3 : Int32) (x4 : Int32) (x5 : Int32) (x6 : Int32) (x7 : Int32) (x8 : Int32) : Option (Int32 × RS) :=
  B_Mod_go_136  r21 r31 r x2 x3 x4 x5 x6 x7 x8 0
theorem e_B_Mod_go_135 {sc : Nat × (Nat → Int32)} {d : DS} {f : FS} {w : WS} {m : MS} {s : SS} {g : GS} {tl : List mn_E}  (r21 : RS → Int32 → Int32 → Int32 → Int32 → Option (Int32 × RS)) (r31 : RS → Int32 → Int32 → Int32 → Int32 → Int32 → Option (Int32 × RS)) (hr21 : ∀ (r : RS) (x2 : Int32) (x3 : Int32) (x4 : Int32) (x5 : Int32), Ev sc 4 61 0 0 M_Mod_go 21 [(0, .ref 12), (2, .int x2), (3, .int x3), (4, .int x4), (5, .int x5)] [] (eLV :: (HD d (HF f (HW w (HM m (HS s (HG g (HR r tl)))))))) (mapR ouI (fun z => (eLV :: (HD d (HF f (HW w (HM m (HS s (HG g (HR z tl))))))))) (r21 r x2 x3 x4 x5))) (hr31 : ∀ (r : RS) (x2 : Int32) (x3 : Int32) (x4 : Int32) (x5 : Int32) (x6 : Int32), Ev sc 4 61 0 0 M_Mod_go 31 [(0, .ref 12), (2, .int x2), (3, .int x3), (4, .int x4), (5, .int x5), (6, .int x6)] [] (eLV :: (HD d (HF f (HW w (HM m (HS s (HG g (HR r tl)))))))) (mapR ouI (fun z => (eLV :: (HD d (HF f (HW w (HM m (HS s (HG g (HR z tl))))))))) (r31 r x2 x3 x4 x5 x6))) (r : RS) (x2 : Int32) (x3 : Int32) (x4 : Int32) (x5 : Int32) (x6 : Int32) (x7 : Int32) (x8 : Int32) : Ev sc 4 61 0 0 M_Mod_go 135 [(0, .ref 12), (2, .int x2), (3, .int x3), (4, .int x4), (5, .int x5), (6, .int x6), (7, .int x7), (8, .int x8)] [] (eLV :: (HD d (HF f (HW w (HM m (HS s (HG g (HR r tl)))))))) (mapR ouI (fun z => (eLV :: (HD d (HF f (HW w (HM m (HS s (HG g (HR z tl))))))))) (B_Mod_go_135 r21 r31 r x2 x3 x4 x5 x6 x7 x8)) := by
  unfold B_Mod_go_135
  refine ev_iconst (v := 0) d_Mod_go_135 rfl ?_
  exact ev_pick [0, 1, 2, 3, 4, 5, 6, 7] rfl (e_B_Mod_go_136   r21 r31 hr21 hr31 r x2 x3 x4 x5 x6 x7 x8 0)
def B_Mod_go_127  (r21 : RS → Int32 → Int32 → Int32 → Int32 → Option (Int32 × RS)) (r31 : RS → Int32 → Int32 → Int32 → Int32 → Int32 → Option (Int32 × RS)) (r : RS) (x2 : Int32) (x3 : Int32) (x4 : Int32) (x5 : Int32) (x6 : Int32) (x7 : Int32) (x8 : Int32) (t0 : Int32) : Option (Int32 × RS) :=
  if ¬ t0 = x3 then (B_Mod_go_135  r21 r31 r x2 x3 x4 x5 x6 x7 x8) else (B_Mod_go_131  r21 r31 r x2 x3 x4 x5 x6 x7 x8)
theorem e_B_Mod_go_127 {sc : Nat × (Nat → Int32)} {d : DS} {f : FS} {w : WS} {m : MS} {s : SS} {g : GS} {tl : List mn_E}  (r21 : RS → Int32 → Int32 → Int32 → Int32 → Option (Int32 × RS)) (r31 : RS → Int32 → Int32 → Int32 → Int32 → Int32 → Option (Int32 × RS)) (hr21 : ∀ (r : RS) (x2 : Int32) (x3 : Int32) (x4 : Int32) (x5 : Int32), Ev sc 4 61 0 0 M_Mod_go 21 [(0, .ref 12), (2, .int x2), (3, .int x3), (4, .int x4), (5, .int x5)] [] (eLV :: (HD d (HF f (HW w (HM m (HS s (HG g (HR r tl)))))))) (mapR ouI (fun z => (eLV :: (HD d (HF f (HW w (HM m (HS s (HG g (HR z tl))))))))) (r21 r x2 x3 x4 x5))) (hr31 : ∀ (r : RS) (x2 : Int32) (x3 : Int32) (x4 : Int32) (x5 : Int32) (x6 : Int32), Ev sc 4 61 0 0 M_Mod_go 31 [(0, .ref 12), (2, .int x2), (3, .int x3), (4, .int x4), (5, .int x5), (6, .int x6)] [] (eLV :: (HD d (HF f (HW w (HM m (HS s (HG g (HR r tl)))))))) (mapR ouI (fun z => (eLV :: (HD d (HF f (HW w (HM m (HS s (HG g (HR z tl))))))))) (r31 r x2 x3 x4 x5 x6))) (r : RS) (x2 : Int32) (x3 : Int32) (x4 : Int32) (x5 : Int32) (x6 : Int32) (x7 : Int32) (x8 : Int32) (t0 : Int32) : Ev sc 4 61 0 0 M_Mod_go 127 [(0, .ref 12), (2, .int x2), (3, .int x3), (4, .int x4), (5, .int x5), (6, .int x6), (7, .int x7), (8, .int x8)] [.int t0] (eLV :: (HD d (HF f (HW w (HM m (HS s (HG g (HR r tl)))))))) (mapR ouI (fun z => (eLV :: (HD d (HF f (HW w (HM m (HS s (HG g (HR z tl))))))))) (B_Mod_go_127 r21 r31 r x2 x3 x4 x5 x6 x7 x8 t0)) := by
  unfold B_Mod_go_127
  refine ev_iload_n d_Mod_go_127 rfl rfl ?_
  refine ev_icmp_ne (tgt := 135) d_Mod_go_128 rfl (fun h1 => ?_) (fun h1 => ?_)
  · rw [if_pos h1]
    exact ev_pick [0, 1, 2, 3, 4, 5, 6, 7] rfl (e_B_Mod_go_135   r21 r31 hr21 hr31 r x2 x3 x4 x5 x6 x7 x8)
  · rw [if_neg h1]
    exact ev_pick [0, 1, 2, 3, 4, 5, 6, 7] rfl (e_B_Mod_go_131   r21 r31 hr21 hr31 r x2 x3 x4 x5 x6 x7 x8)
def B_Mod_go_90  (r21 : RS → Int32 → Int32 → Int32 → Int32 → Option (Int32 × RS)) (r31 : RS → Int32 → Int32 → Int32 → Int32 → Int32 → Option (Int32 × RS)) (r : RS) (x2 : Int32) (x3 : Int32) (x4 : Int32) (x5 : Int32) (x6 : Int32) (x7 : Int32) (t0 : Int32) : Option (Int32 × RS) :=
  if ¬ x2 = 1 then (if ¬ t0 = 0 then (B_Mod_go_135  r21 r31 r x2 x3 x4 x5 x6 x7 t0) else (if x2 = 2 then (B_Mod_go_131  r21 r31 r x2 x3 x4 x5 x6 x7 t0) else (bnd (f_Mod_nameAt r x7) (fun q => B_Mod_go_127  r21 r31 r x2 x3 x4 x5 x6 x7 t0 q.1)))) else (if ¬ x4 = x3 then (B_Mod_go_136  r21 r31 r x2 x3 x4 x5 x6 x7 t0 0) else (B_Mod_go_136  r21 r31 r x2 x3 x4 x5 x6 x7 t0 1))
theorem e_B_Mod_go_90 {sc : Nat × (Nat → Int32)} {d : DS} {f : FS} {w : WS} {m : MS} {s : SS} {g : GS} {tl : List mn_E}  (r21 : RS → Int32 → Int32 → Int32 → Int32 → Option (Int32 × RS)) (r31 : RS → Int32 → Int32 → Int32 → Int32 → Int32 → Option (Int32 × RS)) (hr21 : ∀ (r : RS) (x2 : Int32) (x3 : Int32) (x4 : Int32) (x5 : Int32), Ev sc 4 61 0 0 M_Mod_go 21 [(0, .ref 12), (2, .int x2), (3, .int x3), (4, .int x4), (5, .int x5)] [] (eLV :: (HD d (HF f (HW w (HM m (HS s (HG g (HR r tl)))))))) (mapR ouI (fun z => (eLV :: (HD d (HF f (HW w (HM m (HS s (HG g (HR z tl))))))))) (r21 r x2 x3 x4 x5))) (hr31 : ∀ (r : RS) (x2 : Int32) (x3 : Int32) (x4 : Int32) (x5 : Int32) (x6 : Int32), Ev sc 4 61 0 0 M_Mod_go 31 [(0, .ref 12), (2, .int x2), (3, .int x3), (4, .int x4), (5, .int x5), (6, .int x6)] [] (eLV :: (HD d (HF f (HW w (HM m (HS s (HG g (HR r tl)))))))) (mapR ouI (fun z => (eLV :: (HD d (HF f (HW w (HM m (HS s (HG g (HR z tl))))))))) (r31 r x2 x3 x4 x5 x6))) (r : RS) (x2 : Int32) (x3 : Int32) (x4 : Int32) (x5 : Int32) (x6 : Int32) (x7 : Int32) (t0 : Int32) : Ev sc 4 61 0 0 M_Mod_go 90 [(0, .ref 12), (2, .int x2), (3, .int x3), (4, .int x4), (5, .int x5), (6, .int x6), (7, .int x7)] [.int t0] (eLV :: (HD d (HF f (HW w (HM m (HS s (HG g (HR r tl)))))))) (mapR ouI (fun z => (eLV :: (HD d (HF f (HW w (HM m (HS s (HG g (HR z tl))))))))) (B_Mod_go_90 r21 r31 r x2 x3 x4 x5 x6 x7 t0)) := by
  unfold B_Mod_go_90
  refine ev_istore d_Mod_go_90 (by decide) rfl ?_
  refine ev_iload_n d_Mod_go_92 rfl rfl ?_
  refine ev_iconst (v := 1) d_Mod_go_93 rfl ?_
  refine ev_icmp_ne (tgt := 111) d_Mod_go_94 rfl (fun h1 => ?_) (fun h1 => ?_)
  · rw [if_pos h1]
    refine ev_iload d_Mod_go_111 rfl ?_
    refine ev_if_ne (tgt := 135) d_Mod_go_113 rfl (fun h2 => ?_) (fun h2 => ?_)
    · rw [if_pos h2]
      exact ev_pick [1, 2, 3, 4, 5, 6, 7, 0] rfl (e_B_Mod_go_135   r21 r31 hr21 hr31 r x2 x3 x4 x5 x6 x7 t0)
    · rw [if_neg h2]
      refine ev_iload_n d_Mod_go_116 rfl rfl ?_
      refine ev_iconst (v := 2) d_Mod_go_117 rfl ?_
      refine ev_icmp_eq (tgt := 131) d_Mod_go_118 rfl (fun h3 => ?_) (fun h3 => ?_)
      · rw [if_pos h3]
        exact ev_pick [1, 2, 3, 4, 5, 6, 7, 0] rfl (e_B_Mod_go_131   r21 r31 hr21 hr31 r x2 x3 x4 x5 x6 x7 t0)
      · rw [if_neg h3]
        refine ev_aload_n d_Mod_go_121 rfl rfl ?_
        refine ev_iload d_Mod_go_122 rfl ?_
        refine ev_callB (rc := (f_Mod_nameAt r x7)) (ou := ouI) (Hs := (fun z => (eLV :: (HD d (HF f (HW w (HM m (HS s (HG g (HR r tl)))))))))) (inv_V (q := 12) (av := [.int x7]) (rest := []) rfl (ci := 6) rfl d_Mod_go_124 gw_1131 gw_1133 gw_56 mw_Mod_nameAt nh_Mod_nameAt pn_Mod_nameAt rfl) d_Mod_go_124 pl_Mod_nameAt (Nat.le_of_ble_eq_true rfl) (Nat.le_of_ble_eq_true rfl) (Nat.le_of_ble_eq_true rfl) (e_f_Mod_nameAt (tl := tl) (d := d) (f := f) (w := w) (m := m) (s := s) (g := g)  r x7) (fun _ => (len1 (lenHD (lenHF (lenHW (lenHM (lenHS (lenHG (lenHR rfl))))))))) (fun v z h4 => ⟨_, rfl, ?_⟩)
        exact ev_pick [1, 2, 3, 4, 5, 6, 7, 0] rfl (e_B_Mod_go_127   r21 r31 hr21 hr31 r x2 x3 x4 x5 x6 x7 t0 v)
  · rw [if_neg h1]
    refine ev_iload d_Mod_go_97 rfl ?_
    refine ev_iload_n d_Mod_go_99 rfl rfl ?_
    refine ev_icmp_ne (tgt := 107) d_Mod_go_100 rfl (fun h5 => ?_) (fun h5 => ?_)
    · rw [if_pos h5]
      refine ev_iconst (v := 0) d_Mod_go_107 rfl ?_
      refine ev_goto (tgt := 136) d_Mod_go_108 rfl ?_
      exact ev_pick [1, 2, 3, 4, 5, 6, 7, 0] rfl (e_B_Mod_go_136   r21 r31 hr21 hr31 r x2 x3 x4 x5 x6 x7 t0 0)
    · rw [if_neg h5]
      refine ev_iconst (v := 1) d_Mod_go_103 rfl ?_
      refine ev_goto (tgt := 136) d_Mod_go_104 rfl ?_
      exact ev_pick [1, 2, 3, 4, 5, 6, 7, 0] rfl (e_B_Mod_go_136   r21 r31 hr21 hr31 r x2 x3 x4 x5 x6 x7 t0 1)
def L_Mod_go_31  (r21 : RS → Int32 → Int32 → Int32 → Int32 → Option (Int32 × RS)) : Nat → RS → Int32 → Int32 → Int32 → Int32 → Int32 → Option (Int32 × RS)
  | 0, _, _, _, _, _, _ => none
  | n + 1, r, x2, x3, x4, x5, x6 =>
  if inB (rEnd r) 40 then (if ((rUse r (rEnd r).toNatClampNeg) / 4) ≤ x6 then (B_Mod_go_197  r21 r x2 x3 x4 x5) else (if inB (rEnd r) 40 then (if (rPag r (rEnd r).toNatClampNeg) ≤ 0 then (B_Mod_go_197  r21 r x2 x3 x4 x5) else (if inB (((8 * (rEnd r)) + (4 * x6)) + 2) 320 then (if ¬ (rByt r (((8 * (rEnd r)) + (4 * x6)) + 2).toNatClampNeg) = 0 then (B_Mod_go_90  r21 (L_Mod_go_31 r21 n) r x2 x3 x4 x5 x6 ((8 * (rEnd r)) + (4 * x6)) 0) else (B_Mod_go_90  r21 (L_Mod_go_31 r21 n) r x2 x3 x4 x5 x6 ((8 * (rEnd r)) + (4 * x6)) 1)) else none)) else none)) else none
theorem e_L_Mod_go_31 {sc : Nat × (Nat → Int32)} {d : DS} {f : FS} {w : WS} {m : MS} {s : SS} {g : GS} {tl : List mn_E}  (r21 : RS → Int32 → Int32 → Int32 → Int32 → Option (Int32 × RS)) (hr21 : ∀ (r : RS) (x2 : Int32) (x3 : Int32) (x4 : Int32) (x5 : Int32), Ev sc 4 61 0 0 M_Mod_go 21 [(0, .ref 12), (2, .int x2), (3, .int x3), (4, .int x4), (5, .int x5)] [] (eLV :: (HD d (HF f (HW w (HM m (HS s (HG g (HR r tl)))))))) (mapR ouI (fun z => (eLV :: (HD d (HF f (HW w (HM m (HS s (HG g (HR z tl))))))))) (r21 r x2 x3 x4 x5))) : ∀ (n : Nat) (r : RS) (x2 : Int32) (x3 : Int32) (x4 : Int32) (x5 : Int32) (x6 : Int32), Ev sc 4 61 0 0 M_Mod_go 31 [(0, .ref 12), (2, .int x2), (3, .int x3), (4, .int x4), (5, .int x5), (6, .int x6)] [] (eLV :: (HD d (HF f (HW w (HM m (HS s (HG g (HR r tl)))))))) (mapR ouI (fun z => (eLV :: (HD d (HF f (HW w (HM m (HS s (HG g (HR z tl))))))))) (L_Mod_go_31  r21 n r x2 x3 x4 x5 x6)) := by
  intro n
  induction n with
  | zero => intro r x2 x3 x4 x5 x6; exact ev_none
  | succ n ih =>
    intro r x2 x3 x4 x5 x6
    rw [L_Mod_go_31]
    refine ev_iload d_Mod_go_31 rfl ?_
    refine ev_aload_n d_Mod_go_33 rfl rfl ?_
    refine ev_get (v := .ref 15) gi_Mod (ci := 6) rfl rfl 4 (by decide) gw_1005 rfl d_Mod_go_34 ?_
    refine ev_aload_n d_Mod_go_37 rfl rfl ?_
    refine ev_get (v := .int (rEnd r)) gi_Mod (ci := 6) rfl rfl 18 (by decide) gw_1019 rfl d_Mod_go_38 ?_
    refine ev_inB (fun h1 => ?_)
    refine ev_iaload rfl (inB_of h1) d_Mod_go_41 ?_
    refine ev_iconst (v := 4) d_Mod_go_42 rfl ?_
    refine ev_idiv d_Mod_go_43 (by decide) ?_
    refine ev_icmp_ge (tgt := 197) d_Mod_go_44 rfl (fun h2 => ?_) (fun h2 => ?_)
    · rw [if_pos h2]
      exact ev_pick [0, 1, 2, 3, 4] rfl (e_B_Mod_go_197   r21 hr21 r x2 x3 x4 x5)
    · rw [if_neg h2]
      refine ev_aload_n d_Mod_go_47 rfl rfl ?_
      refine ev_get (v := .ref 14) gi_Mod (ci := 6) rfl rfl 3 (by decide) gw_1004 rfl d_Mod_go_48 ?_
      refine ev_aload_n d_Mod_go_51 rfl rfl ?_
      refine ev_get (v := .int (rEnd r)) gi_Mod (ci := 6) rfl rfl 18 (by decide) gw_1019 rfl d_Mod_go_52 ?_
      refine ev_inB (fun h3 => ?_)
      refine ev_iaload rfl (inB_of h3) d_Mod_go_55 ?_
      refine ev_if_le (tgt := 197) d_Mod_go_56 rfl (fun h4 => ?_) (fun h4 => ?_)
      · rw [if_pos h4]
        exact ev_pick [0, 1, 2, 3, 4] rfl (e_B_Mod_go_197   r21 hr21 r x2 x3 x4 x5)
      · rw [if_neg h4]
        refine ev_bipush (v := 8) d_Mod_go_59 rfl ?_
        refine ev_aload_n d_Mod_go_61 rfl rfl ?_
        refine ev_get (v := .int (rEnd r)) gi_Mod (ci := 6) rfl rfl 18 (by decide) gw_1019 rfl d_Mod_go_62 ?_
        refine ev_imul d_Mod_go_65 ?_
        refine ev_iconst (v := 4) d_Mod_go_66 rfl ?_
        refine ev_iload d_Mod_go_67 rfl ?_
        refine ev_imul d_Mod_go_69 ?_
        refine ev_iadd d_Mod_go_70 ?_
        refine ev_istore d_Mod_go_71 (by decide) rfl ?_
        refine ev_aload_n d_Mod_go_73 rfl rfl ?_
        refine ev_get (v := .ref 18) gi_Mod (ci := 6) rfl rfl 7 (by decide) gw_1008 rfl d_Mod_go_74 ?_
        refine ev_iload d_Mod_go_77 rfl ?_
        refine ev_iconst (v := 2) d_Mod_go_79 rfl ?_
        refine ev_iadd d_Mod_go_80 ?_
        refine ev_inB (fun h5 => ?_)
        refine ev_iaload rfl (inB_of h5) d_Mod_go_81 ?_
        refine ev_if_ne (tgt := 89) d_Mod_go_82 rfl (fun h6 => ?_) (fun h6 => ?_)
        · rw [if_pos h6]
          refine ev_iconst (v := 0) d_Mod_go_89 rfl ?_
          exact ev_pick [1, 2, 3, 4, 5, 6, 0] rfl (e_B_Mod_go_90   r21 (L_Mod_go_31 r21 n) hr21 ih r x2 x3 x4 x5 x6 ((8 * (rEnd r)) + (4 * x6)) 0)
        · rw [if_neg h6]
          refine ev_iconst (v := 1) d_Mod_go_85 rfl ?_
          refine ev_goto (tgt := 90) d_Mod_go_86 rfl ?_
          exact ev_pick [1, 2, 3, 4, 5, 6, 0] rfl (e_B_Mod_go_90   r21 (L_Mod_go_31 r21 n) hr21 ih r x2 x3 x4 x5 x6 ((8 * (rEnd r)) + (4 * x6)) 1)
def L_Mod_go_21   : Nat → RS → Int32 → Int32 → Int32 → Int32 → Option (Int32 × RS)
  | 0, _, _, _, _, _ => none
  | n + 1, r, x2, x3, x4, x5 =>
  if 50 ≤ x5 then (some (1, r)) else (L_Mod_go_31  (L_Mod_go_21 n) 1000 r x2 x3 x4 x5 0)
theorem e_L_Mod_go_21 {sc : Nat × (Nat → Int32)} {d : DS} {f : FS} {w : WS} {m : MS} {s : SS} {g : GS} {tl : List mn_E}    : ∀ (n : Nat) (r : RS) (x2 : Int32) (x3 : Int32) (x4 : Int32) (x5 : Int32), Ev sc 4 61 0 0 M_Mod_go 21 [(0, .ref 12), (2, .int x2), (3, .int x3), (4, .int x4), (5, .int x5)] [] (eLV :: (HD d (HF f (HW w (HM m (HS s (HG g (HR r tl)))))))) (mapR ouI (fun z => (eLV :: (HD d (HF f (HW w (HM m (HS s (HG g (HR z tl))))))))) (L_Mod_go_21   n r x2 x3 x4 x5)) := by
  intro n
  induction n with
  | zero => intro r x2 x3 x4 x5; exact ev_none
  | succ n ih =>
    intro r x2 x3 x4 x5
    rw [L_Mod_go_21]
    refine ev_iload d_Mod_go_21 rfl ?_
    refine ev_bipush (v := 50) d_Mod_go_23 rfl ?_
    refine ev_icmp_ge (tgt := 241) d_Mod_go_25 rfl (fun h1 => ?_) (fun h1 => ?_)
    · rw [if_pos h1]
      refine ev_iconst (v := 1) d_Mod_go_241 rfl ?_
      exact ev_zret (ty := .boolean) rfl rfl d_Mod_go_242
    · rw [if_neg h1]
      refine ev_iconst (v := 0) d_Mod_go_28 rfl ?_
      refine ev_istore d_Mod_go_29 (by decide) rfl ?_
      exact ev_pick [1, 2, 3, 4, 5, 0] rfl (e_L_Mod_go_31   (L_Mod_go_21 n) ih 1000 r x2 x3 x4 x5 0)
def B_Mod_go_15   (r : RS) (x2 : Int32) (x3 : Int32) : Option (Int32 × RS) :=
  L_Mod_go_21   1000 r x2 x3 0 0
theorem e_B_Mod_go_15 {sc : Nat × (Nat → Int32)} {d : DS} {f : FS} {w : WS} {m : MS} {s : SS} {g : GS} {tl : List mn_E}    (r : RS) (x2 : Int32) (x3 : Int32) : Ev sc 4 61 0 0 M_Mod_go 15 [(0, .ref 12), (2, .int x2), (3, .int x3)] [] (eLV :: (HD d (HF f (HW w (HM m (HS s (HG g (HR r tl)))))))) (mapR ouI (fun z => (eLV :: (HD d (HF f (HW w (HM m (HS s (HG g (HR z tl))))))))) (B_Mod_go_15 r x2 x3)) := by
  unfold B_Mod_go_15
  refine ev_iconst (v := 0) d_Mod_go_15 rfl ?_
  refine ev_istore d_Mod_go_16 (by decide) rfl ?_
  refine ev_iconst (v := 0) d_Mod_go_18 rfl ?_
  refine ev_istore d_Mod_go_19 (by decide) rfl ?_
  exact ev_pick [2, 3, 4, 1, 0] rfl (e_L_Mod_go_21     1000 r x2 x3 0 0)
def B_Mod_go_10   (r : RS) (x1 : Int32) (x2 : Int32) (x3 : Int32) : Option (Int32 × RS) :=
  B_Mod_go_15   (rSEnd r x1) x2 x3
theorem e_B_Mod_go_10 {sc : Nat × (Nat → Int32)} {d : DS} {f : FS} {w : WS} {m : MS} {s : SS} {g : GS} {tl : List mn_E}    (r : RS) (x1 : Int32) (x2 : Int32) (x3 : Int32) : Ev sc 4 61 0 0 M_Mod_go 10 [(0, .ref 12), (1, .int x1), (2, .int x2), (3, .int x3)] [] (eLV :: (HD d (HF f (HW w (HM m (HS s (HG g (HR r tl)))))))) (mapR ouI (fun z => (eLV :: (HD d (HF f (HW w (HM m (HS s (HG g (HR z tl))))))))) (B_Mod_go_10 r x1 x2 x3)) := by
  unfold B_Mod_go_10
  refine ev_aload_n d_Mod_go_10 rfl rfl ?_
  refine ev_iload_n d_Mod_go_11 rfl rfl ?_
  refine ev_put (h2 := (eLV :: (HD d (HF f (HW w (HM m (HS s (HG g (HR (rSEnd r x1) tl))))))))) gi_Mod ft_Mod fo_Mod fn_Mod (ci := 6) rfl rfl 18 (by decide) gw_1019 rfl rfl (fun _ => rfl) (fun _ => rfl) (Nat.le_of_ble_eq_true rfl) rfl d_Mod_go_12 ?_
  exact ev_pick [0, 2, 3] rfl (e_B_Mod_go_15     (rSEnd r x1) x2 x3)
def B_Mod_go_5   (r : RS) (x1 : Int32) (x2 : Int32) (x3 : Int32) : Option (Int32 × RS) :=
  B_Mod_go_10   (rSHAt r (-1)) x1 x2 x3
theorem e_B_Mod_go_5 {sc : Nat × (Nat → Int32)} {d : DS} {f : FS} {w : WS} {m : MS} {s : SS} {g : GS} {tl : List mn_E}    (r : RS) (x1 : Int32) (x2 : Int32) (x3 : Int32) : Ev sc 4 61 0 0 M_Mod_go 5 [(0, .ref 12), (1, .int x1), (2, .int x2), (3, .int x3)] [] (eLV :: (HD d (HF f (HW w (HM m (HS s (HG g (HR r tl)))))))) (mapR ouI (fun z => (eLV :: (HD d (HF f (HW w (HM m (HS s (HG g (HR z tl))))))))) (B_Mod_go_5 r x1 x2 x3)) := by
  unfold B_Mod_go_5
  refine ev_aload_n d_Mod_go_5 rfl rfl ?_
  refine ev_iconst (v := -1) d_Mod_go_6 rfl ?_
  refine ev_put (h2 := (eLV :: (HD d (HF f (HW w (HM m (HS s (HG g (HR (rSHAt r (-1)) tl))))))))) gi_Mod ft_Mod fo_Mod fn_Mod (ci := 6) rfl rfl 16 (by decide) gw_1017 rfl rfl (fun _ => rfl) (fun _ => rfl) (Nat.le_of_ble_eq_true rfl) rfl d_Mod_go_7 ?_
  exact ev_pick [0, 1, 2, 3] rfl (e_B_Mod_go_10     (rSHAt r (-1)) x1 x2 x3)
def f_Mod_go   (r : RS) (x1 : Int32) (x2 : Int32) (x3 : Int32) : Option (Int32 × RS) :=
  B_Mod_go_5   (rSFAt r (-1)) x1 x2 x3
theorem e_f_Mod_go {sc : Nat × (Nat → Int32)} {d : DS} {f : FS} {w : WS} {m : MS} {s : SS} {g : GS} {tl : List mn_E}    (r : RS) (x1 : Int32) (x2 : Int32) (x3 : Int32) : Ev sc 4 61 0 0 M_Mod_go 0 [(0, .ref 12), (1, .int x1), (2, .int x2), (3, .int x3)] [] (eLV :: (HD d (HF f (HW w (HM m (HS s (HG g (HR r tl)))))))) (mapR ouI (fun z => (eLV :: (HD d (HF f (HW w (HM m (HS s (HG g (HR z tl))))))))) (f_Mod_go r x1 x2 x3)) := by
  unfold f_Mod_go
  refine ev_aload_n d_Mod_go_0 rfl rfl ?_
  refine ev_iconst (v := -1) d_Mod_go_1 rfl ?_
  refine ev_put (h2 := (eLV :: (HD d (HF f (HW w (HM m (HS s (HG g (HR (rSFAt r (-1)) tl))))))))) gi_Mod ft_Mod fo_Mod fn_Mod (ci := 6) rfl rfl 19 (by decide) gw_1020 rfl rfl (fun _ => rfl) (fun _ => rfl) (Nat.le_of_ble_eq_true rfl) rfl d_Mod_go_2 ?_
  exact ev_pick [0, 1, 2, 3] rfl (e_B_Mod_go_5     (rSFAt r (-1)) x1 x2 x3)
def B_Mod_writes_26   (r : RS) : (Int32 × RS) :=
  (0, r)
theorem e_B_Mod_writes_26 {sc : Nat × (Nat → Int32)} {d : DS} {f : FS} {w : WS} {m : MS} {s : SS} {g : GS} {tl : List mn_E}    (r : RS) : Ev sc 0 0 0 0 M_Mod_writes 26 [] [] (eLV :: (HD d (HF f (HW w (HM m (HS s (HG g (HR r tl)))))))) (mapT ouI (fun z => (eLV :: (HD d (HF f (HW w (HM m (HS s (HG g (HR z tl))))))))) (B_Mod_writes_26 r)) := by
  unfold B_Mod_writes_26
  refine ev_iconst (v := 0) d_Mod_writes_26 rfl ?_
  exact ev_zret (ty := .boolean) rfl rfl d_Mod_writes_27
def B_Mod_writes_21   (r : RS) : (Int32 × RS) :=
  B_Mod_writes_26   (rSFau r 1)
theorem e_B_Mod_writes_21 {sc : Nat × (Nat → Int32)} {d : DS} {f : FS} {w : WS} {m : MS} {s : SS} {g : GS} {tl : List mn_E}    (r : RS) : Ev sc 0 0 0 0 M_Mod_writes 21 [(0, .ref 12)] [] (eLV :: (HD d (HF f (HW w (HM m (HS s (HG g (HR r tl)))))))) (mapT ouI (fun z => (eLV :: (HD d (HF f (HW w (HM m (HS s (HG g (HR z tl))))))))) (B_Mod_writes_21 r)) := by
  unfold B_Mod_writes_21
  refine ev_aload_n d_Mod_writes_21 rfl rfl ?_
  refine ev_iconst (v := 1) d_Mod_writes_22 rfl ?_
  refine ev_put (h2 := (eLV :: (HD d (HF f (HW w (HM m (HS s (HG g (HR (rSFau r 1) tl))))))))) gi_Mod ft_Mod fo_Mod fn_Mod (ci := 6) rfl rfl 1 (by decide) gw_1002 rfl rfl (fun _ => rfl) (fun _ => rfl) (Nat.le_of_ble_eq_true rfl) rfl d_Mod_writes_23 ?_
  exact ev_pick [] rfl (e_B_Mod_writes_26     (rSFau r 1))
def B_Mod_writes_62   (r : RS) : (Int32 × RS) :=
  (1, r)
theorem e_B_Mod_writes_62 {sc : Nat × (Nat → Int32)} {d : DS} {f : FS} {w : WS} {m : MS} {s : SS} {g : GS} {tl : List mn_E}    (r : RS) : Ev sc 0 0 0 0 M_Mod_writes 62 [] [] (eLV :: (HD d (HF f (HW w (HM m (HS s (HG g (HR r tl)))))))) (mapT ouI (fun z => (eLV :: (HD d (HF f (HW w (HM m (HS s (HG g (HR z tl))))))))) (B_Mod_writes_62 r)) := by
  unfold B_Mod_writes_62
  refine ev_iconst (v := 1) d_Mod_writes_62 rfl ?_
  exact ev_zret (ty := .boolean) rfl rfl d_Mod_writes_63
def B_Mod_writes_52   (r : RS) : (Int32 × RS) :=
  B_Mod_writes_62   (rSWri r ((rWri r) + 1))
theorem e_B_Mod_writes_52 {sc : Nat × (Nat → Int32)} {d : DS} {f : FS} {w : WS} {m : MS} {s : SS} {g : GS} {tl : List mn_E}    (r : RS) : Ev sc 0 0 0 0 M_Mod_writes 52 [(0, .ref 12)] [] (eLV :: (HD d (HF f (HW w (HM m (HS s (HG g (HR r tl)))))))) (mapT ouI (fun z => (eLV :: (HD d (HF f (HW w (HM m (HS s (HG g (HR z tl))))))))) (B_Mod_writes_52 r)) := by
  unfold B_Mod_writes_52
  refine ev_aload_n d_Mod_writes_52 rfl rfl ?_
  refine ev_aload_n d_Mod_writes_53 rfl rfl ?_
  refine ev_get (v := .int (rWri r)) gi_Mod (ci := 6) rfl rfl 11 (by decide) gw_1012 rfl d_Mod_writes_54 ?_
  refine ev_iconst (v := 1) d_Mod_writes_57 rfl ?_
  refine ev_iadd d_Mod_writes_58 ?_
  refine ev_put (h2 := (eLV :: (HD d (HF f (HW w (HM m (HS s (HG g (HR (rSWri r ((rWri r) + 1)) tl))))))))) gi_Mod ft_Mod fo_Mod fn_Mod (ci := 6) rfl rfl 11 (by decide) gw_1012 rfl rfl (fun _ => rfl) (fun _ => rfl) (Nat.le_of_ble_eq_true rfl) rfl d_Mod_writes_59 ?_
  exact ev_pick [] rfl (e_B_Mod_writes_62     (rSWri r ((rWri r) + 1)))
def B_Mod_writes_49   (r : RS) (t1 : Int32) : (Int32 × RS) :=
  B_Mod_writes_52   (rSLef r t1)
theorem e_B_Mod_writes_49 {sc : Nat × (Nat → Int32)} {d : DS} {f : FS} {w : WS} {m : MS} {s : SS} {g : GS} {tl : List mn_E}    (r : RS) (t1 : Int32) : Ev sc 0 0 0 0 M_Mod_writes 49 [(0, .ref 12)] [.int t1, .ref 12] (eLV :: (HD d (HF f (HW w (HM m (HS s (HG g (HR r tl)))))))) (mapT ouI (fun z => (eLV :: (HD d (HF f (HW w (HM m (HS s (HG g (HR z tl))))))))) (B_Mod_writes_49 r t1)) := by
  unfold B_Mod_writes_49
  refine ev_put (h2 := (eLV :: (HD d (HF f (HW w (HM m (HS s (HG g (HR (rSLef r t1) tl))))))))) gi_Mod ft_Mod fo_Mod fn_Mod (ci := 6) rfl rfl 13 (by decide) gw_1014 rfl rfl (fun _ => rfl) (fun _ => rfl) (Nat.le_of_ble_eq_true rfl) rfl d_Mod_writes_49 ?_
  exact ev_pick [0] rfl (e_B_Mod_writes_52     (rSLef r t1))
def f_Mod_writes   (r : RS) : (Int32 × RS) :=
  if (rFau r) ≤ 0 then (if ¬ (rLef r) = 0 then (if (rLef r) ≤ 0 then (B_Mod_writes_49   r (rLef r)) else (B_Mod_writes_49   r ((rLef r) - 1))) else (B_Mod_writes_21   (rSDar r 1))) else ((0, r))
theorem e_f_Mod_writes {sc : Nat × (Nat → Int32)} {d : DS} {f : FS} {w : WS} {m : MS} {s : SS} {g : GS} {tl : List mn_E}    (r : RS) : Ev sc 0 0 0 0 M_Mod_writes 0 [(0, .ref 12)] [] (eLV :: (HD d (HF f (HW w (HM m (HS s (HG g (HR r tl)))))))) (mapT ouI (fun z => (eLV :: (HD d (HF f (HW w (HM m (HS s (HG g (HR z tl))))))))) (f_Mod_writes r)) := by
  unfold f_Mod_writes
  refine ev_aload_n d_Mod_writes_0 rfl rfl ?_
  refine ev_get (v := .int (rFau r)) gi_Mod (ci := 6) rfl rfl 1 (by decide) gw_1002 rfl d_Mod_writes_1 ?_
  refine ev_if_le (tgt := 9) d_Mod_writes_4 rfl (fun h1 => ?_) (fun h1 => ?_)
  · rw [if_pos h1]
    refine ev_aload_n d_Mod_writes_9 rfl rfl ?_
    refine ev_get (v := .int (rLef r)) gi_Mod (ci := 6) rfl rfl 13 (by decide) gw_1014 rfl d_Mod_writes_10 ?_
    refine ev_if_ne (tgt := 28) d_Mod_writes_13 rfl (fun h2 => ?_) (fun h2 => ?_)
    · rw [if_pos h2]
      refine ev_aload_n d_Mod_writes_28 rfl rfl ?_
      refine ev_aload_n d_Mod_writes_29 rfl rfl ?_
      refine ev_get (v := .int (rLef r)) gi_Mod (ci := 6) rfl rfl 13 (by decide) gw_1014 rfl d_Mod_writes_30 ?_
      refine ev_if_le (tgt := 45) d_Mod_writes_33 rfl (fun h3 => ?_) (fun h3 => ?_)
      · rw [if_pos h3]
        refine ev_aload_n d_Mod_writes_45 rfl rfl ?_
        refine ev_get (v := .int (rLef r)) gi_Mod (ci := 6) rfl rfl 13 (by decide) gw_1014 rfl d_Mod_writes_46 ?_
        exact ev_pick [0] rfl (e_B_Mod_writes_49     r (rLef r))
      · rw [if_neg h3]
        refine ev_aload_n d_Mod_writes_36 rfl rfl ?_
        refine ev_get (v := .int (rLef r)) gi_Mod (ci := 6) rfl rfl 13 (by decide) gw_1014 rfl d_Mod_writes_37 ?_
        refine ev_iconst (v := 1) d_Mod_writes_40 rfl ?_
        refine ev_isub d_Mod_writes_41 ?_
        refine ev_goto (tgt := 49) d_Mod_writes_42 rfl ?_
        exact ev_pick [0] rfl (e_B_Mod_writes_49     r ((rLef r) - 1))
    · rw [if_neg h2]
      refine ev_aload_n d_Mod_writes_16 rfl rfl ?_
      refine ev_iconst (v := 1) d_Mod_writes_17 rfl ?_
      refine ev_put (h2 := (eLV :: (HD d (HF f (HW w (HM m (HS s (HG g (HR (rSDar r 1) tl))))))))) gi_Mod ft_Mod fo_Mod fn_Mod (ci := 6) rfl rfl 12 (by decide) gw_1013 rfl rfl (fun _ => rfl) (fun _ => rfl) (Nat.le_of_ble_eq_true rfl) rfl d_Mod_writes_18 ?_
      exact ev_pick [0] rfl (e_B_Mod_writes_21     (rSDar r 1))
  · rw [if_neg h1]
    refine ev_iconst (v := 0) d_Mod_writes_7 rfl ?_
    exact ev_zret (ty := .boolean) rfl rfl d_Mod_writes_8
def B_Mod_empty_42  (r24 : RS → Int32 → Int32 → Option (Unit × RS)) (r : RS) (x1 : Int32) (x2 : Int32) : Option (Unit × RS) :=
  r24 r x1 (x2 + 1)
theorem e_B_Mod_empty_42 {sc : Nat × (Nat → Int32)} {d : DS} {f : FS} {w : WS} {m : MS} {s : SS} {g : GS} {tl : List mn_E}  (r24 : RS → Int32 → Int32 → Option (Unit × RS)) (hr24 : ∀ (r : RS) (x1 : Int32) (x2 : Int32), Ev sc 1 16 0 0 M_Mod_empty 24 [(0, .ref 12), (1, .int x1), (2, .int x2)] [] (eLV :: (HD d (HF f (HW w (HM m (HS s (HG g (HR r tl)))))))) (mapR ouV (fun z => (eLV :: (HD d (HF f (HW w (HM m (HS s (HG g (HR z tl))))))))) (r24 r x1 x2))) (r : RS) (x1 : Int32) (x2 : Int32) : Ev sc 1 16 0 0 M_Mod_empty 42 [(0, .ref 12), (1, .int x1), (2, .int x2)] [] (eLV :: (HD d (HF f (HW w (HM m (HS s (HG g (HR r tl)))))))) (mapR ouV (fun z => (eLV :: (HD d (HF f (HW w (HM m (HS s (HG g (HR z tl))))))))) (B_Mod_empty_42 r24 r x1 x2)) := by
  unfold B_Mod_empty_42
  refine ev_iinc (v := (x2 + 1)) d_Mod_empty_42 rfl rfl (by decide) rfl ?_
  refine ev_goto (tgt := 24) d_Mod_empty_45 rfl ?_
  exact ev_pick [1, 2, 0] rfl (hr24 r x1 (x2 + 1))
def L_Mod_empty_24   : Nat → RS → Int32 → Int32 → Option (Unit × RS)
  | 0, _, _, _ => none
  | n + 1, r, x1, x2 =>
  if 8 ≤ x2 then (some ((), r)) else (if inB ((8 * x1) + x2) 320 then (B_Mod_empty_42  (L_Mod_empty_24 n) (rSByt r (upd (rByt r) ((8 * x1) + x2).toNatClampNeg 0)) x1 x2) else none)
theorem e_L_Mod_empty_24 {sc : Nat × (Nat → Int32)} {d : DS} {f : FS} {w : WS} {m : MS} {s : SS} {g : GS} {tl : List mn_E}    : ∀ (n : Nat) (r : RS) (x1 : Int32) (x2 : Int32), Ev sc 1 16 0 0 M_Mod_empty 24 [(0, .ref 12), (1, .int x1), (2, .int x2)] [] (eLV :: (HD d (HF f (HW w (HM m (HS s (HG g (HR r tl)))))))) (mapR ouV (fun z => (eLV :: (HD d (HF f (HW w (HM m (HS s (HG g (HR z tl))))))))) (L_Mod_empty_24   n r x1 x2)) := by
  intro n
  induction n with
  | zero => intro r x1 x2; exact ev_none
  | succ n ih =>
    intro r x1 x2
    rw [L_Mod_empty_24]
    refine ev_iload_n d_Mod_empty_24 rfl rfl ?_
    refine ev_bipush (v := 8) d_Mod_empty_25 rfl ?_
    refine ev_icmp_ge (tgt := 48) d_Mod_empty_27 rfl (fun h1 => ?_) (fun h1 => ?_)
    · rw [if_pos h1]
      exact ev_vret rfl d_Mod_empty_48
    · rw [if_neg h1]
      refine ev_aload_n d_Mod_empty_30 rfl rfl ?_
      refine ev_get (v := .ref 18) gi_Mod (ci := 6) rfl rfl 7 (by decide) gw_1008 rfl d_Mod_empty_31 ?_
      refine ev_bipush (v := 8) d_Mod_empty_34 rfl ?_
      refine ev_iload_n d_Mod_empty_36 rfl rfl ?_
      refine ev_imul d_Mod_empty_37 ?_
      refine ev_iload_n d_Mod_empty_38 rfl rfl ?_
      refine ev_iadd d_Mod_empty_39 ?_
      refine ev_iconst (v := 0) d_Mod_empty_40 rfl ?_
      refine ev_inB (fun h2 => ?_)
      refine ev_iastore (h2 := (eLV :: (HD d (HF f (HW w (HM m (HS s (HG g (HR (rSByt r (upd (rByt r) ((8 * x1) + x2).toNatClampNeg 0)) tl))))))))) rfl (inB_of h2) rfl d_Mod_empty_41 ?_
      exact ev_pick [0, 1, 2] rfl (e_B_Mod_empty_42   (L_Mod_empty_24 n) ih (rSByt r (upd (rByt r) ((8 * x1) + x2).toNatClampNeg 0)) x1 x2)
def B_Mod_empty_22   (r : RS) (x1 : Int32) : Option (Unit × RS) :=
  L_Mod_empty_24   1000 r x1 0
theorem e_B_Mod_empty_22 {sc : Nat × (Nat → Int32)} {d : DS} {f : FS} {w : WS} {m : MS} {s : SS} {g : GS} {tl : List mn_E}    (r : RS) (x1 : Int32) : Ev sc 1 16 0 0 M_Mod_empty 22 [(0, .ref 12), (1, .int x1)] [] (eLV :: (HD d (HF f (HW w (HM m (HS s (HG g (HR r tl)))))))) (mapR ouV (fun z => (eLV :: (HD d (HF f (HW w (HM m (HS s (HG g (HR z tl))))))))) (B_Mod_empty_22 r x1)) := by
  unfold B_Mod_empty_22
  refine ev_iconst (v := 0) d_Mod_empty_22 rfl ?_
  refine ev_istore_n d_Mod_empty_23 rfl (by decide) rfl ?_
  exact ev_pick [1, 2, 0] rfl (e_L_Mod_empty_24     1000 r x1 0)
def B_Mod_empty_15   (r : RS) (x1 : Int32) : Option (Unit × RS) :=
  if inB x1 40 then (B_Mod_empty_22   (rSBef r (upd (rBef r) x1.toNatClampNeg (-1))) x1) else none
theorem e_B_Mod_empty_15 {sc : Nat × (Nat → Int32)} {d : DS} {f : FS} {w : WS} {m : MS} {s : SS} {g : GS} {tl : List mn_E}    (r : RS) (x1 : Int32) : Ev sc 1 16 0 0 M_Mod_empty 15 [(0, .ref 12), (1, .int x1)] [] (eLV :: (HD d (HF f (HW w (HM m (HS s (HG g (HR r tl)))))))) (mapR ouV (fun z => (eLV :: (HD d (HF f (HW w (HM m (HS s (HG g (HR z tl))))))))) (B_Mod_empty_15 r x1)) := by
  unfold B_Mod_empty_15
  refine ev_aload_n d_Mod_empty_15 rfl rfl ?_
  refine ev_get (v := .ref 17) gi_Mod (ci := 6) rfl rfl 6 (by decide) gw_1007 rfl d_Mod_empty_16 ?_
  refine ev_iload_n d_Mod_empty_19 rfl rfl ?_
  refine ev_iconst (v := -1) d_Mod_empty_20 rfl ?_
  refine ev_inB (fun h1 => ?_)
  refine ev_iastore (h2 := (eLV :: (HD d (HF f (HW w (HM m (HS s (HG g (HR (rSBef r (upd (rBef r) x1.toNatClampNeg (-1))) tl))))))))) rfl (inB_of h1) rfl d_Mod_empty_21 ?_
  exact ev_pick [0, 1] rfl (e_B_Mod_empty_22     (rSBef r (upd (rBef r) x1.toNatClampNeg (-1))) x1)
def B_Mod_empty_8   (r : RS) (x1 : Int32) : Option (Unit × RS) :=
  if inB x1 40 then (B_Mod_empty_15   (rSNex r (upd (rNex r) x1.toNatClampNeg (-1))) x1) else none
theorem e_B_Mod_empty_8 {sc : Nat × (Nat → Int32)} {d : DS} {f : FS} {w : WS} {m : MS} {s : SS} {g : GS} {tl : List mn_E}    (r : RS) (x1 : Int32) : Ev sc 1 16 0 0 M_Mod_empty 8 [(0, .ref 12), (1, .int x1)] [] (eLV :: (HD d (HF f (HW w (HM m (HS s (HG g (HR r tl)))))))) (mapR ouV (fun z => (eLV :: (HD d (HF f (HW w (HM m (HS s (HG g (HR z tl))))))))) (B_Mod_empty_8 r x1)) := by
  unfold B_Mod_empty_8
  refine ev_aload_n d_Mod_empty_8 rfl rfl ?_
  refine ev_get (v := .ref 16) gi_Mod (ci := 6) rfl rfl 5 (by decide) gw_1006 rfl d_Mod_empty_9 ?_
  refine ev_iload_n d_Mod_empty_12 rfl rfl ?_
  refine ev_iconst (v := -1) d_Mod_empty_13 rfl ?_
  refine ev_inB (fun h1 => ?_)
  refine ev_iastore (h2 := (eLV :: (HD d (HF f (HW w (HM m (HS s (HG g (HR (rSNex r (upd (rNex r) x1.toNatClampNeg (-1))) tl))))))))) rfl (inB_of h1) rfl d_Mod_empty_14 ?_
  exact ev_pick [0, 1] rfl (e_B_Mod_empty_15     (rSNex r (upd (rNex r) x1.toNatClampNeg (-1))) x1)
def f_Mod_empty   (r : RS) (x1 : Int32) : Option (Unit × RS) :=
  bnd (f_Mod_label0 r x1 0 0 0) (fun q => B_Mod_empty_8   q.2 x1)
theorem e_f_Mod_empty {sc : Nat × (Nat → Int32)} {d : DS} {f : FS} {w : WS} {m : MS} {s : SS} {g : GS} {tl : List mn_E}    (r : RS) (x1 : Int32) : Ev sc 1 16 0 0 M_Mod_empty 0 [(0, .ref 12), (1, .int x1)] [] (eLV :: (HD d (HF f (HW w (HM m (HS s (HG g (HR r tl)))))))) (mapR ouV (fun z => (eLV :: (HD d (HF f (HW w (HM m (HS s (HG g (HR z tl))))))))) (f_Mod_empty r x1)) := by
  unfold f_Mod_empty
  refine ev_aload_n d_Mod_empty_0 rfl rfl ?_
  refine ev_iload_n d_Mod_empty_1 rfl rfl ?_
  refine ev_iconst (v := 0) d_Mod_empty_2 rfl ?_
  refine ev_iconst (v := 0) d_Mod_empty_3 rfl ?_
  refine ev_iconst (v := 0) d_Mod_empty_4 rfl ?_
  refine ev_callB (rc := (f_Mod_label0 r x1 0 0 0)) (ou := ouV) (Hs := (fun z => (eLV :: (HD d (HF f (HW w (HM m (HS s (HG g (HR z tl)))))))))) (inv_V (q := 12) (av := [.int x1, .int 0, .int 0, .int 0]) (rest := []) rfl (ci := 6) rfl d_Mod_empty_5 gw_997 gw_999 gw_48 mw_Mod_label0 nh_Mod_label0 pn_Mod_label0 rfl) d_Mod_empty_5 pl_Mod_label0 (Nat.le_of_ble_eq_true rfl) (Nat.le_of_ble_eq_true rfl) (Nat.le_of_ble_eq_true rfl) (e_f_Mod_label0 (tl := tl) (d := d) (f := f) (w := w) (m := m) (s := s) (g := g)  r x1 0 0 0) (fun _ => (len1 (lenHD (lenHF (lenHW (lenHM (lenHS (lenHG (lenHR rfl))))))))) (fun v z h1 => ⟨_, rfl, ?_⟩)
  exact ev_pick [0, 1] rfl (e_B_Mod_empty_8     z x1)
def B_Mod_free_19   (r : RS) : Option (Unit × RS) :=
  some ((), r)
theorem e_B_Mod_free_19 {sc : Nat × (Nat → Int32)} {d : DS} {f : FS} {w : WS} {m : MS} {s : SS} {g : GS} {tl : List mn_E}    (r : RS) : Ev sc 2 30 0 0 M_Mod_free 19 [] [] (eLV :: (HD d (HF f (HW w (HM m (HS s (HG g (HR r tl)))))))) (mapR ouV (fun z => (eLV :: (HD d (HF f (HW w (HM m (HS s (HG g (HR z tl))))))))) (B_Mod_free_19 r)) := by
  unfold B_Mod_free_19
  exact ev_vret rfl d_Mod_free_19
def B_Mod_free_12   (r : RS) (x1 : Int32) : Option (Unit × RS) :=
  if inB x1 40 then (B_Mod_free_19   (rSMar r (upd (rMar r) x1.toNatClampNeg 3))) else none
theorem e_B_Mod_free_12 {sc : Nat × (Nat → Int32)} {d : DS} {f : FS} {w : WS} {m : MS} {s : SS} {g : GS} {tl : List mn_E}    (r : RS) (x1 : Int32) : Ev sc 2 30 0 0 M_Mod_free 12 [(0, .ref 12), (1, .int x1)] [] (eLV :: (HD d (HF f (HW w (HM m (HS s (HG g (HR r tl)))))))) (mapR ouV (fun z => (eLV :: (HD d (HF f (HW w (HM m (HS s (HG g (HR z tl))))))))) (B_Mod_free_12 r x1)) := by
  unfold B_Mod_free_12
  refine ev_aload_n d_Mod_free_12 rfl rfl ?_
  refine ev_get (v := .ref 21) gi_Mod (ci := 6) rfl rfl 15 (by decide) gw_1016 rfl d_Mod_free_13 ?_
  refine ev_iload_n d_Mod_free_16 rfl rfl ?_
  refine ev_iconst (v := 3) d_Mod_free_17 rfl ?_
  refine ev_inB (fun h1 => ?_)
  refine ev_iastore (h2 := (eLV :: (HD d (HF f (HW w (HM m (HS s (HG g (HR (rSMar r (upd (rMar r) x1.toNatClampNeg 3)) tl))))))))) rfl (inB_of h1) rfl d_Mod_free_18 ?_
  exact ev_pick [] rfl (e_B_Mod_free_19     (rSMar r (upd (rMar r) x1.toNatClampNeg 3)))
def B_Mod_free_4   (r : RS) (x1 : Int32) (t0 : Int32) : Option (Unit × RS) :=
  if t0 = 0 then (B_Mod_free_19   r) else (bnd (f_Mod_empty r x1) (fun q => B_Mod_free_12   q.2 x1))
theorem e_B_Mod_free_4 {sc : Nat × (Nat → Int32)} {d : DS} {f : FS} {w : WS} {m : MS} {s : SS} {g : GS} {tl : List mn_E}    (r : RS) (x1 : Int32) (t0 : Int32) : Ev sc 2 30 0 0 M_Mod_free 4 [(0, .ref 12), (1, .int x1)] [.int t0] (eLV :: (HD d (HF f (HW w (HM m (HS s (HG g (HR r tl)))))))) (mapR ouV (fun z => (eLV :: (HD d (HF f (HW w (HM m (HS s (HG g (HR z tl))))))))) (B_Mod_free_4 r x1 t0)) := by
  unfold B_Mod_free_4
  refine ev_if_eq (tgt := 19) d_Mod_free_4 rfl (fun h1 => ?_) (fun h1 => ?_)
  · rw [if_pos h1]
    exact ev_pick [] rfl (e_B_Mod_free_19     r)
  · rw [if_neg h1]
    refine ev_aload_n d_Mod_free_7 rfl rfl ?_
    refine ev_iload_n d_Mod_free_8 rfl rfl ?_
    refine ev_callB (rc := (f_Mod_empty r x1)) (ou := ouV) (Hs := (fun z => (eLV :: (HD d (HF f (HW w (HM m (HS s (HG g (HR z tl)))))))))) (inv_V (q := 12) (av := [.int x1]) (rest := []) rfl (ci := 6) rfl d_Mod_free_9 gw_1171 gw_1173 gw_66 mw_Mod_empty nh_Mod_empty pn_Mod_empty rfl) d_Mod_free_9 pl_Mod_empty (Nat.le_of_ble_eq_true rfl) (Nat.le_of_ble_eq_true rfl) (Nat.le_of_ble_eq_true rfl) (e_f_Mod_empty (tl := tl) (d := d) (f := f) (w := w) (m := m) (s := s) (g := g)  r x1) (fun _ => (len1 (lenHD (lenHF (lenHW (lenHM (lenHS (lenHG (lenHR rfl))))))))) (fun v z h2 => ⟨_, rfl, ?_⟩)
    exact ev_pick [0, 1] rfl (e_B_Mod_free_12     z x1)
def f_Mod_free   (r : RS) (x1 : Int32) : Option (Unit × RS) :=
  B_Mod_free_4   ((f_Mod_writes r).2) x1 ((f_Mod_writes r).1)
theorem e_f_Mod_free {sc : Nat × (Nat → Int32)} {d : DS} {f : FS} {w : WS} {m : MS} {s : SS} {g : GS} {tl : List mn_E}    (r : RS) (x1 : Int32) : Ev sc 2 30 0 0 M_Mod_free 0 [(0, .ref 12), (1, .int x1)] [] (eLV :: (HD d (HF f (HW w (HM m (HS s (HG g (HR r tl)))))))) (mapR ouV (fun z => (eLV :: (HD d (HF f (HW w (HM m (HS s (HG g (HR z tl))))))))) (f_Mod_free r x1)) := by
  unfold f_Mod_free
  refine ev_aload_n d_Mod_free_0 rfl rfl ?_
  refine ev_callr (Mc := M_Mod_writes) (v := some (.int ((f_Mod_writes r).1))) (h1 := (eLV :: (HD d (HF f (HW w (HM m (HS s (HG g (HR ((f_Mod_writes r).2) tl))))))))) (k2 := 0) (n2 := 0) (inv_V (q := 12) (av := []) (rest := []) rfl (ci := 6) rfl d_Mod_free_1 gw_1163 gw_1165 gw_64 mw_Mod_writes nh_Mod_writes pn_Mod_writes rfl) d_Mod_free_1 pl_Mod_writes (Nat.le_of_ble_eq_true rfl) (Nat.le_of_ble_eq_true rfl) (Nat.le_of_ble_eq_true rfl) rfl rfl (e_f_Mod_writes (tl := tl) (d := d) (f := f) (w := w) (m := m) (s := s) (g := g)  r ) (Or.inl (len1 (lenHD (lenHF (lenHW (lenHM (lenHS (lenHG (lenHR rfl))))))))) ?_
  exact ev_pick [0, 1] rfl (e_B_Mod_free_4     ((f_Mod_writes r).2) x1 ((f_Mod_writes r).1))
def B_Mod_setEntry_43   (r : RS) : Option (Unit × RS) :=
  some ((), r)
theorem e_B_Mod_setEntry_43 {sc : Nat × (Nat → Int32)} {d : DS} {f : FS} {w : WS} {m : MS} {s : SS} {g : GS} {tl : List mn_E}    (r : RS) : Ev sc 0 0 0 0 M_Mod_setEntry 43 [] [] (eLV :: (HD d (HF f (HW w (HM m (HS s (HG g (HR r tl)))))))) (mapR ouV (fun z => (eLV :: (HD d (HF f (HW w (HM m (HS s (HG g (HR z tl))))))))) (B_Mod_setEntry_43 r)) := by
  unfold B_Mod_setEntry_43
  exact ev_vret rfl d_Mod_setEntry_43
def B_Mod_setEntry_33   (r : RS) (x1 : Int32) (x4 : Int32) : Option (Unit × RS) :=
  if inB (x1 + 3) 320 then (B_Mod_setEntry_43   (rSByt r (upd (rByt r) (x1 + 3).toNatClampNeg x4))) else none
theorem e_B_Mod_setEntry_33 {sc : Nat × (Nat → Int32)} {d : DS} {f : FS} {w : WS} {m : MS} {s : SS} {g : GS} {tl : List mn_E}    (r : RS) (x1 : Int32) (x4 : Int32) : Ev sc 0 0 0 0 M_Mod_setEntry 33 [(0, .ref 12), (1, .int x1), (4, .int x4)] [] (eLV :: (HD d (HF f (HW w (HM m (HS s (HG g (HR r tl)))))))) (mapR ouV (fun z => (eLV :: (HD d (HF f (HW w (HM m (HS s (HG g (HR z tl))))))))) (B_Mod_setEntry_33 r x1 x4)) := by
  unfold B_Mod_setEntry_33
  refine ev_aload_n d_Mod_setEntry_33 rfl rfl ?_
  refine ev_get (v := .ref 18) gi_Mod (ci := 6) rfl rfl 7 (by decide) gw_1008 rfl d_Mod_setEntry_34 ?_
  refine ev_iload_n d_Mod_setEntry_37 rfl rfl ?_
  refine ev_iconst (v := 3) d_Mod_setEntry_38 rfl ?_
  refine ev_iadd d_Mod_setEntry_39 ?_
  refine ev_iload d_Mod_setEntry_40 rfl ?_
  refine ev_inB (fun h1 => ?_)
  refine ev_iastore (h2 := (eLV :: (HD d (HF f (HW w (HM m (HS s (HG g (HR (rSByt r (upd (rByt r) (x1 + 3).toNatClampNeg x4)) tl))))))))) rfl (inB_of h1) rfl d_Mod_setEntry_42 ?_
  exact ev_pick [] rfl (e_B_Mod_setEntry_43     (rSByt r (upd (rByt r) (x1 + 3).toNatClampNeg x4)))
def B_Mod_setEntry_24   (r : RS) (x1 : Int32) (x3 : Int32) (x4 : Int32) : Option (Unit × RS) :=
  if inB (x1 + 2) 320 then (B_Mod_setEntry_33   (rSByt r (upd (rByt r) (x1 + 2).toNatClampNeg x3)) x1 x4) else none
theorem e_B_Mod_setEntry_24 {sc : Nat × (Nat → Int32)} {d : DS} {f : FS} {w : WS} {m : MS} {s : SS} {g : GS} {tl : List mn_E}    (r : RS) (x1 : Int32) (x3 : Int32) (x4 : Int32) : Ev sc 0 0 0 0 M_Mod_setEntry 24 [(0, .ref 12), (1, .int x1), (3, .int x3), (4, .int x4)] [] (eLV :: (HD d (HF f (HW w (HM m (HS s (HG g (HR r tl)))))))) (mapR ouV (fun z => (eLV :: (HD d (HF f (HW w (HM m (HS s (HG g (HR z tl))))))))) (B_Mod_setEntry_24 r x1 x3 x4)) := by
  unfold B_Mod_setEntry_24
  refine ev_aload_n d_Mod_setEntry_24 rfl rfl ?_
  refine ev_get (v := .ref 18) gi_Mod (ci := 6) rfl rfl 7 (by decide) gw_1008 rfl d_Mod_setEntry_25 ?_
  refine ev_iload_n d_Mod_setEntry_28 rfl rfl ?_
  refine ev_iconst (v := 2) d_Mod_setEntry_29 rfl ?_
  refine ev_iadd d_Mod_setEntry_30 ?_
  refine ev_iload_n d_Mod_setEntry_31 rfl rfl ?_
  refine ev_inB (fun h1 => ?_)
  refine ev_iastore (h2 := (eLV :: (HD d (HF f (HW w (HM m (HS s (HG g (HR (rSByt r (upd (rByt r) (x1 + 2).toNatClampNeg x3)) tl))))))))) rfl (inB_of h1) rfl d_Mod_setEntry_32 ?_
  exact ev_pick [0, 1, 3] rfl (e_B_Mod_setEntry_33     (rSByt r (upd (rByt r) (x1 + 2).toNatClampNeg x3)) x1 x4)
def B_Mod_setEntry_11   (r : RS) (x1 : Int32) (x2 : Int32) (x3 : Int32) (x4 : Int32) : Option (Unit × RS) :=
  if inB (x1 + 1) 320 then (B_Mod_setEntry_24   (rSByt r (upd (rByt r) (x1 + 1).toNatClampNeg (x2 - x2 / 256 * 256))) x1 x3 x4) else none
theorem e_B_Mod_setEntry_11 {sc : Nat × (Nat → Int32)} {d : DS} {f : FS} {w : WS} {m : MS} {s : SS} {g : GS} {tl : List mn_E}    (r : RS) (x1 : Int32) (x2 : Int32) (x3 : Int32) (x4 : Int32) : Ev sc 0 0 0 0 M_Mod_setEntry 11 [(0, .ref 12), (1, .int x1), (2, .int x2), (3, .int x3), (4, .int x4)] [] (eLV :: (HD d (HF f (HW w (HM m (HS s (HG g (HR r tl)))))))) (mapR ouV (fun z => (eLV :: (HD d (HF f (HW w (HM m (HS s (HG g (HR z tl))))))))) (B_Mod_setEntry_11 r x1 x2 x3 x4)) := by
  unfold B_Mod_setEntry_11
  refine ev_aload_n d_Mod_setEntry_11 rfl rfl ?_
  refine ev_get (v := .ref 18) gi_Mod (ci := 6) rfl rfl 7 (by decide) gw_1008 rfl d_Mod_setEntry_12 ?_
  refine ev_iload_n d_Mod_setEntry_15 rfl rfl ?_
  refine ev_iconst (v := 1) d_Mod_setEntry_16 rfl ?_
  refine ev_iadd d_Mod_setEntry_17 ?_
  refine ev_iload_n d_Mod_setEntry_18 rfl rfl ?_
  refine ev_sipush (v := 256) d_Mod_setEntry_19 rfl ?_
  refine ev_irem d_Mod_setEntry_22 (by decide) ?_
  refine ev_inB (fun h1 => ?_)
  refine ev_iastore (h2 := (eLV :: (HD d (HF f (HW w (HM m (HS s (HG g (HR (rSByt r (upd (rByt r) (x1 + 1).toNatClampNeg (x2 - x2 / 256 * 256))) tl))))))))) rfl (inB_of h1) rfl d_Mod_setEntry_23 ?_
  exact ev_pick [0, 1, 3, 4] rfl (e_B_Mod_setEntry_24     (rSByt r (upd (rByt r) (x1 + 1).toNatClampNeg (x2 - x2 / 256 * 256))) x1 x3 x4)
def f_Mod_setEntry   (r : RS) (x1 : Int32) (x2 : Int32) (x3 : Int32) (x4 : Int32) : Option (Unit × RS) :=
  if inB x1 320 then (B_Mod_setEntry_11   (rSByt r (upd (rByt r) x1.toNatClampNeg (x2 / 256))) x1 x2 x3 x4) else none
theorem e_f_Mod_setEntry {sc : Nat × (Nat → Int32)} {d : DS} {f : FS} {w : WS} {m : MS} {s : SS} {g : GS} {tl : List mn_E}    (r : RS) (x1 : Int32) (x2 : Int32) (x3 : Int32) (x4 : Int32) : Ev sc 0 0 0 0 M_Mod_setEntry 0 [(0, .ref 12), (1, .int x1), (2, .int x2), (3, .int x3), (4, .int x4)] [] (eLV :: (HD d (HF f (HW w (HM m (HS s (HG g (HR r tl)))))))) (mapR ouV (fun z => (eLV :: (HD d (HF f (HW w (HM m (HS s (HG g (HR z tl))))))))) (f_Mod_setEntry r x1 x2 x3 x4)) := by
  unfold f_Mod_setEntry
  refine ev_aload_n d_Mod_setEntry_0 rfl rfl ?_
  refine ev_get (v := .ref 18) gi_Mod (ci := 6) rfl rfl 7 (by decide) gw_1008 rfl d_Mod_setEntry_1 ?_
  refine ev_iload_n d_Mod_setEntry_4 rfl rfl ?_
  refine ev_iload_n d_Mod_setEntry_5 rfl rfl ?_
  refine ev_sipush (v := 256) d_Mod_setEntry_6 rfl ?_
  refine ev_idiv d_Mod_setEntry_9 (by decide) ?_
  refine ev_inB (fun h1 => ?_)
  refine ev_iastore (h2 := (eLV :: (HD d (HF f (HW w (HM m (HS s (HG g (HR (rSByt r (upd (rByt r) x1.toNatClampNeg (x2 / 256))) tl))))))))) rfl (inB_of h1) rfl d_Mod_setEntry_10 ?_
  exact ev_pick [0, 1, 2, 3, 4] rfl (e_B_Mod_setEntry_11     (rSByt r (upd (rByt r) x1.toNatClampNeg (x2 / 256))) x1 x2 x3 x4)
def B_Mod_findMap_55   (r : RS) : Option (Unit × RS) :=
  some ((), r)
theorem e_B_Mod_findMap_55 {sc : Nat × (Nat → Int32)} {d : DS} {f : FS} {w : WS} {m : MS} {s : SS} {g : GS} {tl : List mn_E}    (r : RS) : Ev sc 4 62 0 0 M_Mod_findMap 55 [] [] (eLV :: (HD d (HF f (HW w (HM m (HS s (HG g (HR r tl)))))))) (mapR ouV (fun z => (eLV :: (HD d (HF f (HW w (HM m (HS s (HG g (HR z tl))))))))) (B_Mod_findMap_55 r)) := by
  unfold B_Mod_findMap_55
  exact ev_vret rfl d_Mod_findMap_55
def B_Mod_findMap_50   (r : RS) (x2 : Int32) : Option (Unit × RS) :=
  B_Mod_findMap_55   (rSFau r x2)
theorem e_B_Mod_findMap_50 {sc : Nat × (Nat → Int32)} {d : DS} {f : FS} {w : WS} {m : MS} {s : SS} {g : GS} {tl : List mn_E}    (r : RS) (x2 : Int32) : Ev sc 4 62 0 0 M_Mod_findMap 50 [(0, .ref 12), (2, .int x2)] [] (eLV :: (HD d (HF f (HW w (HM m (HS s (HG g (HR r tl)))))))) (mapR ouV (fun z => (eLV :: (HD d (HF f (HW w (HM m (HS s (HG g (HR z tl))))))))) (B_Mod_findMap_50 r x2)) := by
  unfold B_Mod_findMap_50
  refine ev_aload_n d_Mod_findMap_50 rfl rfl ?_
  refine ev_iload_n d_Mod_findMap_51 rfl rfl ?_
  refine ev_put (h2 := (eLV :: (HD d (HF f (HW w (HM m (HS s (HG g (HR (rSFau r x2) tl))))))))) gi_Mod ft_Mod fo_Mod fn_Mod (ci := 6) rfl rfl 1 (by decide) gw_1002 rfl rfl (fun _ => rfl) (fun _ => rfl) (Nat.le_of_ble_eq_true rfl) rfl d_Mod_findMap_52 ?_
  exact ev_pick [] rfl (e_B_Mod_findMap_55     (rSFau r x2))
def B_Mod_findMap_47   (r : RS) (x2 : Int32) (t1 : Int32) : Option (Unit × RS) :=
  B_Mod_findMap_50   (rSMap r t1) x2
theorem e_B_Mod_findMap_47 {sc : Nat × (Nat → Int32)} {d : DS} {f : FS} {w : WS} {m : MS} {s : SS} {g : GS} {tl : List mn_E}    (r : RS) (x2 : Int32) (t1 : Int32) : Ev sc 4 62 0 0 M_Mod_findMap 47 [(0, .ref 12), (2, .int x2)] [.int t1, .ref 12] (eLV :: (HD d (HF f (HW w (HM m (HS s (HG g (HR r tl)))))))) (mapR ouV (fun z => (eLV :: (HD d (HF f (HW w (HM m (HS s (HG g (HR z tl))))))))) (B_Mod_findMap_47 r x2 t1)) := by
  unfold B_Mod_findMap_47
  refine ev_put (h2 := (eLV :: (HD d (HF f (HW w (HM m (HS s (HG g (HR (rSMap r t1) tl))))))))) gi_Mod ft_Mod fo_Mod fn_Mod (ci := 6) rfl rfl 14 (by decide) gw_1015 rfl rfl (fun _ => rfl) (fun _ => rfl) (Nat.le_of_ble_eq_true rfl) rfl d_Mod_findMap_47 ?_
  exact ev_pick [0, 1] rfl (e_B_Mod_findMap_50     (rSMap r t1) x2)
def B_Mod_findMap_26   (r : RS) (t0 : Int32) : Option (Unit × RS) :=
  if 0 ≤ t0 then (bnd (f_Mod_beside r t0 1) (fun q => B_Mod_findMap_47   q.2 (rFau r) q.1)) else (B_Mod_findMap_47   r (rFau r) (-1))
theorem e_B_Mod_findMap_26 {sc : Nat × (Nat → Int32)} {d : DS} {f : FS} {w : WS} {m : MS} {s : SS} {g : GS} {tl : List mn_E}    (r : RS) (t0 : Int32) : Ev sc 4 62 0 0 M_Mod_findMap 26 [(0, .ref 12)] [.int t0] (eLV :: (HD d (HF f (HW w (HM m (HS s (HG g (HR r tl)))))))) (mapR ouV (fun z => (eLV :: (HD d (HF f (HW w (HM m (HS s (HG g (HR z tl))))))))) (B_Mod_findMap_26 r t0)) := by
  unfold B_Mod_findMap_26
  refine ev_istore_n d_Mod_findMap_26 rfl (by decide) rfl ?_
  refine ev_aload_n d_Mod_findMap_27 rfl rfl ?_
  refine ev_get (v := .int (rFau r)) gi_Mod (ci := 6) rfl rfl 1 (by decide) gw_1002 rfl d_Mod_findMap_28 ?_
  refine ev_istore_n d_Mod_findMap_31 rfl (by decide) rfl ?_
  refine ev_aload_n d_Mod_findMap_32 rfl rfl ?_
  refine ev_iload_n d_Mod_findMap_33 rfl rfl ?_
  refine ev_if_ge (tgt := 41) d_Mod_findMap_34 rfl (fun h1 => ?_) (fun h1 => ?_)
  · rw [if_pos h1]
    refine ev_aload_n d_Mod_findMap_41 rfl rfl ?_
    refine ev_iload_n d_Mod_findMap_42 rfl rfl ?_
    refine ev_iconst (v := 1) d_Mod_findMap_43 rfl ?_
    refine ev_callB (rc := (f_Mod_beside r t0 1)) (ou := ouI) (Hs := (fun z => (eLV :: (HD d (HF f (HW w (HM m (HS s (HG g (HR z tl)))))))))) (inv_V (q := 12) (av := [.int t0, .int 1]) (rest := [.ref 12]) rfl (ci := 6) rfl d_Mod_findMap_44 gw_1135 gw_1137 gw_57 mw_Mod_beside nh_Mod_beside pn_Mod_beside rfl) d_Mod_findMap_44 pl_Mod_beside (Nat.le_of_ble_eq_true rfl) (Nat.le_of_ble_eq_true rfl) (Nat.le_of_ble_eq_true rfl) (e_f_Mod_beside (tl := tl) (d := d) (f := f) (w := w) (m := m) (s := s) (g := g)  r t0 1) (fun _ => (len1 (lenHD (lenHF (lenHW (lenHM (lenHS (lenHG (lenHR rfl))))))))) (fun v z h2 => ⟨_, rfl, ?_⟩)
    exact ev_pick [2, 0] rfl (e_B_Mod_findMap_47     z (rFau r) v)
  · rw [if_neg h1]
    refine ev_iconst (v := -1) d_Mod_findMap_37 rfl ?_
    refine ev_goto (tgt := 47) d_Mod_findMap_38 rfl ?_
    exact ev_pick [2, 0] rfl (e_B_Mod_findMap_47     r (rFau r) (-1))
def B_Mod_findMap_15  (r2 : RS → Int32 → Option (Unit × RS)) (r : RS) (x1 : Int32) : Option (Unit × RS) :=
  r2 r (x1 + 1)
theorem e_B_Mod_findMap_15 {sc : Nat × (Nat → Int32)} {d : DS} {f : FS} {w : WS} {m : MS} {s : SS} {g : GS} {tl : List mn_E}  (r2 : RS → Int32 → Option (Unit × RS)) (hr2 : ∀ (r : RS) (x1 : Int32), Ev sc 4 62 0 0 M_Mod_findMap 2 [(0, .ref 12), (1, .int x1)] [] (eLV :: (HD d (HF f (HW w (HM m (HS s (HG g (HR r tl)))))))) (mapR ouV (fun z => (eLV :: (HD d (HF f (HW w (HM m (HS s (HG g (HR z tl))))))))) (r2 r x1))) (r : RS) (x1 : Int32) : Ev sc 4 62 0 0 M_Mod_findMap 15 [(0, .ref 12), (1, .int x1)] [] (eLV :: (HD d (HF f (HW w (HM m (HS s (HG g (HR r tl)))))))) (mapR ouV (fun z => (eLV :: (HD d (HF f (HW w (HM m (HS s (HG g (HR z tl))))))))) (B_Mod_findMap_15 r2 r x1)) := by
  unfold B_Mod_findMap_15
  refine ev_iinc (v := (x1 + 1)) d_Mod_findMap_15 rfl rfl (by decide) rfl ?_
  refine ev_goto (tgt := 2) d_Mod_findMap_18 rfl ?_
  exact ev_pick [1, 0] rfl (hr2 r (x1 + 1))
def L_Mod_findMap_2   : Nat → RS → Int32 → Option (Unit × RS)
  | 0, _, _ => none
  | n + 1, r, x1 =>
  if 40 ≤ x1 then (bnd (f_Mod_leader r 2) (fun q => B_Mod_findMap_26   q.2 q.1)) else (if inB x1 40 then (B_Mod_findMap_15  (L_Mod_findMap_2 n) (rSMar r (upd (rMar r) x1.toNatClampNeg 0)) x1) else none)
theorem e_L_Mod_findMap_2 {sc : Nat × (Nat → Int32)} {d : DS} {f : FS} {w : WS} {m : MS} {s : SS} {g : GS} {tl : List mn_E}    : ∀ (n : Nat) (r : RS) (x1 : Int32), Ev sc 4 62 0 0 M_Mod_findMap 2 [(0, .ref 12), (1, .int x1)] [] (eLV :: (HD d (HF f (HW w (HM m (HS s (HG g (HR r tl)))))))) (mapR ouV (fun z => (eLV :: (HD d (HF f (HW w (HM m (HS s (HG g (HR z tl))))))))) (L_Mod_findMap_2   n r x1)) := by
  intro n
  induction n with
  | zero => intro r x1; exact ev_none
  | succ n ih =>
    intro r x1
    rw [L_Mod_findMap_2]
    refine ev_iload_n d_Mod_findMap_2 rfl rfl ?_
    refine ev_bipush (v := 40) d_Mod_findMap_3 rfl ?_
    refine ev_icmp_ge (tgt := 21) d_Mod_findMap_5 rfl (fun h1 => ?_) (fun h1 => ?_)
    · rw [if_pos h1]
      refine ev_aload_n d_Mod_findMap_21 rfl rfl ?_
      refine ev_iconst (v := 2) d_Mod_findMap_22 rfl ?_
      refine ev_callB (rc := (f_Mod_leader r 2)) (ou := ouI) (Hs := (fun z => (eLV :: (HD d (HF f (HW w (HM m (HS s (HG g (HR z tl)))))))))) (inv_V (q := 12) (av := [.int 2]) (rest := []) rfl (ci := 6) rfl d_Mod_findMap_23 gw_1104 gw_1106 gw_50 mw_Mod_leader nh_Mod_leader pn_Mod_leader rfl) d_Mod_findMap_23 pl_Mod_leader (Nat.le_of_ble_eq_true rfl) (Nat.le_of_ble_eq_true rfl) (Nat.le_of_ble_eq_true rfl) (e_f_Mod_leader (tl := tl) (d := d) (f := f) (w := w) (m := m) (s := s) (g := g)  r 2) (fun _ => (len1 (lenHD (lenHF (lenHW (lenHM (lenHS (lenHG (lenHR rfl))))))))) (fun v z h2 => ⟨_, rfl, ?_⟩)
      exact ev_pick [0] rfl (e_B_Mod_findMap_26     z v)
    · rw [if_neg h1]
      refine ev_aload_n d_Mod_findMap_8 rfl rfl ?_
      refine ev_get (v := .ref 21) gi_Mod (ci := 6) rfl rfl 15 (by decide) gw_1016 rfl d_Mod_findMap_9 ?_
      refine ev_iload_n d_Mod_findMap_12 rfl rfl ?_
      refine ev_iconst (v := 0) d_Mod_findMap_13 rfl ?_
      refine ev_inB (fun h3 => ?_)
      refine ev_iastore (h2 := (eLV :: (HD d (HF f (HW w (HM m (HS s (HG g (HR (rSMar r (upd (rMar r) x1.toNatClampNeg 0)) tl))))))))) rfl (inB_of h3) rfl d_Mod_findMap_14 ?_
      exact ev_pick [0, 1] rfl (e_B_Mod_findMap_15   (L_Mod_findMap_2 n) ih (rSMar r (upd (rMar r) x1.toNatClampNeg 0)) x1)
def f_Mod_findMap   (r : RS) : Option (Unit × RS) :=
  L_Mod_findMap_2   1000 r 0
theorem e_f_Mod_findMap {sc : Nat × (Nat → Int32)} {d : DS} {f : FS} {w : WS} {m : MS} {s : SS} {g : GS} {tl : List mn_E}    (r : RS) : Ev sc 4 62 0 0 M_Mod_findMap 0 [(0, .ref 12)] [] (eLV :: (HD d (HF f (HW w (HM m (HS s (HG g (HR r tl)))))))) (mapR ouV (fun z => (eLV :: (HD d (HF f (HW w (HM m (HS s (HG g (HR z tl))))))))) (f_Mod_findMap r)) := by
  unfold f_Mod_findMap
  refine ev_iconst (v := 0) d_Mod_findMap_0 rfl ?_
  refine ev_istore_n d_Mod_findMap_1 rfl (by decide) rfl ?_
  exact ev_pick [1, 0] rfl (e_L_Mod_findMap_2     1000 r 0)
def B_Mod_takes_204   (r : RS) (x1 : Int32) (x2 : Int32) : Option (Int32 × RS) :=
  if ¬ x2 = x1 then (some (0, r)) else (some (1, r))
theorem e_B_Mod_takes_204 {sc : Nat × (Nat → Int32)} {d : DS} {f : FS} {w : WS} {m : MS} {s : SS} {g : GS} {tl : List mn_E}    (r : RS) (x1 : Int32) (x2 : Int32) : Ev sc 5 76 0 0 M_Mod_takes 204 [(1, .int x1), (2, .int x2)] [] (eLV :: (HD d (HF f (HW w (HM m (HS s (HG g (HR r tl)))))))) (mapR ouI (fun z => (eLV :: (HD d (HF f (HW w (HM m (HS s (HG g (HR z tl))))))))) (B_Mod_takes_204 r x1 x2)) := by
  unfold B_Mod_takes_204
  refine ev_iload_n d_Mod_takes_204 rfl rfl ?_
  refine ev_iload_n d_Mod_takes_205 rfl rfl ?_
  refine ev_icmp_ne (tgt := 213) d_Mod_takes_206 rfl (fun h1 => ?_) (fun h1 => ?_)
  · rw [if_pos h1]
    refine ev_iconst (v := 0) d_Mod_takes_213 rfl ?_
    exact ev_zret (ty := .boolean) rfl rfl d_Mod_takes_214
  · rw [if_neg h1]
    refine ev_iconst (v := 1) d_Mod_takes_209 rfl ?_
    refine ev_goto (tgt := 214) d_Mod_takes_210 rfl ?_
    exact ev_zret (ty := .boolean) rfl rfl d_Mod_takes_214
def B_Mod_takes_198  (r156 : RS → Int32 → Int32 → Int32 → Option (Int32 × RS)) (r : RS) (x1 : Int32) (x2 : Int32) (x3 : Int32) : Option (Int32 × RS) :=
  r156 r x1 x2 (x3 + 1)
theorem e_B_Mod_takes_198 {sc : Nat × (Nat → Int32)} {d : DS} {f : FS} {w : WS} {m : MS} {s : SS} {g : GS} {tl : List mn_E}  (r156 : RS → Int32 → Int32 → Int32 → Option (Int32 × RS)) (hr156 : ∀ (r : RS) (x1 : Int32) (x2 : Int32) (x3 : Int32), Ev sc 5 76 0 0 M_Mod_takes 156 [(0, .ref 12), (1, .int x1), (2, .int x2), (3, .int x3)] [] (eLV :: (HD d (HF f (HW w (HM m (HS s (HG g (HR r tl)))))))) (mapR ouI (fun z => (eLV :: (HD d (HF f (HW w (HM m (HS s (HG g (HR z tl))))))))) (r156 r x1 x2 x3))) (r : RS) (x1 : Int32) (x2 : Int32) (x3 : Int32) : Ev sc 5 76 0 0 M_Mod_takes 198 [(0, .ref 12), (1, .int x1), (2, .int x2), (3, .int x3)] [] (eLV :: (HD d (HF f (HW w (HM m (HS s (HG g (HR r tl)))))))) (mapR ouI (fun z => (eLV :: (HD d (HF f (HW w (HM m (HS s (HG g (HR z tl))))))))) (B_Mod_takes_198 r156 r x1 x2 x3)) := by
  unfold B_Mod_takes_198
  refine ev_iinc (v := (x3 + 1)) d_Mod_takes_198 rfl rfl (by decide) rfl ?_
  refine ev_goto (tgt := 156) d_Mod_takes_201 rfl ?_
  exact ev_pick [1, 2, 3, 0] rfl (hr156 r x1 x2 (x3 + 1))
def B_Mod_takes_194  (r156 : RS → Int32 → Int32 → Int32 → Option (Int32 × RS)) (r : RS) (x1 : Int32) (x2 : Int32) (x3 : Int32) : Option (Int32 × RS) :=
  B_Mod_takes_198  r156 r x1 (x2 + 1) x3
theorem e_B_Mod_takes_194 {sc : Nat × (Nat → Int32)} {d : DS} {f : FS} {w : WS} {m : MS} {s : SS} {g : GS} {tl : List mn_E}  (r156 : RS → Int32 → Int32 → Int32 → Option (Int32 × RS)) (hr156 : ∀ (r : RS) (x1 : Int32) (x2 : Int32) (x3 : Int32), Ev sc 5 76 0 0 M_Mod_takes 156 [(0, .ref 12), (1, .int x1), (2, .int x2), (3, .int x3)] [] (eLV :: (HD d (HF f (HW w (HM m (HS s (HG g (HR r tl)))))))) (mapR ouI (fun z => (eLV :: (HD d (HF f (HW w (HM m (HS s (HG g (HR z tl))))))))) (r156 r x1 x2 x3))) (r : RS) (x1 : Int32) (x2 : Int32) (x3 : Int32) : Ev sc 5 76 0 0 M_Mod_takes 194 [(0, .ref 12), (1, .int x1), (2, .int x2), (3, .int x3)] [] (eLV :: (HD d (HF f (HW w (HM m (HS s (HG g (HR r tl)))))))) (mapR ouI (fun z => (eLV :: (HD d (HF f (HW w (HM m (HS s (HG g (HR z tl))))))))) (B_Mod_takes_194 r156 r x1 x2 x3)) := by
  unfold B_Mod_takes_194
  refine ev_iload_n d_Mod_takes_194 rfl rfl ?_
  refine ev_iconst (v := 1) d_Mod_takes_195 rfl ?_
  refine ev_iadd d_Mod_takes_196 ?_
  refine ev_istore_n d_Mod_takes_197 rfl (by decide) rfl ?_
  exact ev_pick [1, 2, 0, 3] rfl (e_B_Mod_takes_198   r156 hr156 r x1 (x2 + 1) x3)
def B_Mod_takes_172  (r156 : RS → Int32 → Int32 → Int32 → Option (Int32 × RS)) (r : RS) (x1 : Int32) (x2 : Int32) (x3 : Int32) (t0 : Int32) : Option (Int32 × RS) :=
  if t0 = 0 then (B_Mod_takes_198  r156 r x1 x2 x3) else (if inB x3 40 then (if 4 ≤ (rMar r x3.toNatClampNeg) then (B_Mod_takes_198  r156 r x1 x2 x3) else (if inB x3 40 then (B_Mod_takes_194  r156 (rSMar r (upd (rMar r) x3.toNatClampNeg (4 + x2))) x1 x2 x3) else none)) else none)
theorem e_B_Mod_takes_172 {sc : Nat × (Nat → Int32)} {d : DS} {f : FS} {w : WS} {m : MS} {s : SS} {g : GS} {tl : List mn_E}  (r156 : RS → Int32 → Int32 → Int32 → Option (Int32 × RS)) (hr156 : ∀ (r : RS) (x1 : Int32) (x2 : Int32) (x3 : Int32), Ev sc 5 76 0 0 M_Mod_takes 156 [(0, .ref 12), (1, .int x1), (2, .int x2), (3, .int x3)] [] (eLV :: (HD d (HF f (HW w (HM m (HS s (HG g (HR r tl)))))))) (mapR ouI (fun z => (eLV :: (HD d (HF f (HW w (HM m (HS s (HG g (HR z tl))))))))) (r156 r x1 x2 x3))) (r : RS) (x1 : Int32) (x2 : Int32) (x3 : Int32) (t0 : Int32) : Ev sc 5 76 0 0 M_Mod_takes 172 [(0, .ref 12), (1, .int x1), (2, .int x2), (3, .int x3)] [.int t0] (eLV :: (HD d (HF f (HW w (HM m (HS s (HG g (HR r tl)))))))) (mapR ouI (fun z => (eLV :: (HD d (HF f (HW w (HM m (HS s (HG g (HR z tl))))))))) (B_Mod_takes_172 r156 r x1 x2 x3 t0)) := by
  unfold B_Mod_takes_172
  refine ev_if_eq (tgt := 198) d_Mod_takes_172 rfl (fun h1 => ?_) (fun h1 => ?_)
  · rw [if_pos h1]
    exact ev_pick [0, 1, 2, 3] rfl (e_B_Mod_takes_198   r156 hr156 r x1 x2 x3)
  · rw [if_neg h1]
    refine ev_aload_n d_Mod_takes_175 rfl rfl ?_
    refine ev_get (v := .ref 21) gi_Mod (ci := 6) rfl rfl 15 (by decide) gw_1016 rfl d_Mod_takes_176 ?_
    refine ev_iload_n d_Mod_takes_179 rfl rfl ?_
    refine ev_inB (fun h2 => ?_)
    refine ev_iaload rfl (inB_of h2) d_Mod_takes_180 ?_
    refine ev_iconst (v := 4) d_Mod_takes_181 rfl ?_
    refine ev_icmp_ge (tgt := 198) d_Mod_takes_182 rfl (fun h3 => ?_) (fun h3 => ?_)
    · rw [if_pos h3]
      exact ev_pick [0, 1, 2, 3] rfl (e_B_Mod_takes_198   r156 hr156 r x1 x2 x3)
    · rw [if_neg h3]
      refine ev_aload_n d_Mod_takes_185 rfl rfl ?_
      refine ev_get (v := .ref 21) gi_Mod (ci := 6) rfl rfl 15 (by decide) gw_1016 rfl d_Mod_takes_186 ?_
      refine ev_iload_n d_Mod_takes_189 rfl rfl ?_
      refine ev_iconst (v := 4) d_Mod_takes_190 rfl ?_
      refine ev_iload_n d_Mod_takes_191 rfl rfl ?_
      refine ev_iadd d_Mod_takes_192 ?_
      refine ev_inB (fun h4 => ?_)
      refine ev_iastore (h2 := (eLV :: (HD d (HF f (HW w (HM m (HS s (HG g (HR (rSMar r (upd (rMar r) x3.toNatClampNeg (4 + x2))) tl))))))))) rfl (inB_of h4) rfl d_Mod_takes_193 ?_
      exact ev_pick [0, 1, 2, 3] rfl (e_B_Mod_takes_194   r156 hr156 (rSMar r (upd (rMar r) x3.toNatClampNeg (4 + x2))) x1 x2 x3)
def L_Mod_takes_156   : Nat → RS → Int32 → Int32 → Int32 → Option (Int32 × RS)
  | 0, _, _, _, _ => none
  | n + 1, r, x1, x2, x3 =>
  if 40 ≤ x3 then (B_Mod_takes_204   r x1 x2) else (if x1 ≤ x2 then (B_Mod_takes_204   r x1 x2) else (bnd (f_Mod_isFree r x3) (fun q => B_Mod_takes_172  (L_Mod_takes_156 n) r x1 x2 x3 q.1)))
theorem e_L_Mod_takes_156 {sc : Nat × (Nat → Int32)} {d : DS} {f : FS} {w : WS} {m : MS} {s : SS} {g : GS} {tl : List mn_E}    : ∀ (n : Nat) (r : RS) (x1 : Int32) (x2 : Int32) (x3 : Int32), Ev sc 5 76 0 0 M_Mod_takes 156 [(0, .ref 12), (1, .int x1), (2, .int x2), (3, .int x3)] [] (eLV :: (HD d (HF f (HW w (HM m (HS s (HG g (HR r tl)))))))) (mapR ouI (fun z => (eLV :: (HD d (HF f (HW w (HM m (HS s (HG g (HR z tl))))))))) (L_Mod_takes_156   n r x1 x2 x3)) := by
  intro n
  induction n with
  | zero => intro r x1 x2 x3; exact ev_none
  | succ n ih =>
    intro r x1 x2 x3
    rw [L_Mod_takes_156]
    refine ev_iload_n d_Mod_takes_156 rfl rfl ?_
    refine ev_bipush (v := 40) d_Mod_takes_157 rfl ?_
    refine ev_icmp_ge (tgt := 204) d_Mod_takes_159 rfl (fun h1 => ?_) (fun h1 => ?_)
    · rw [if_pos h1]
      exact ev_pick [1, 2] rfl (e_B_Mod_takes_204     r x1 x2)
    · rw [if_neg h1]
      refine ev_iload_n d_Mod_takes_162 rfl rfl ?_
      refine ev_iload_n d_Mod_takes_163 rfl rfl ?_
      refine ev_icmp_ge (tgt := 204) d_Mod_takes_164 rfl (fun h2 => ?_) (fun h2 => ?_)
      · rw [if_pos h2]
        exact ev_pick [1, 2] rfl (e_B_Mod_takes_204     r x1 x2)
      · rw [if_neg h2]
        refine ev_aload_n d_Mod_takes_167 rfl rfl ?_
        refine ev_iload_n d_Mod_takes_168 rfl rfl ?_
        refine ev_callB (rc := (f_Mod_isFree r x3)) (ou := ouI) (Hs := (fun z => (eLV :: (HD d (HF f (HW w (HM m (HS s (HG g (HR r tl)))))))))) (inv_V (q := 12) (av := [.int x3]) (rest := []) rfl (ci := 6) rfl d_Mod_takes_169 gw_1151 gw_1153 gw_61 mw_Mod_isFree nh_Mod_isFree pn_Mod_isFree rfl) d_Mod_takes_169 pl_Mod_isFree (Nat.le_of_ble_eq_true rfl) (Nat.le_of_ble_eq_true rfl) (Nat.le_of_ble_eq_true rfl) (e_f_Mod_isFree (tl := tl) (d := d) (f := f) (w := w) (m := m) (s := s) (g := g)  r x3) (fun _ => (len1 (lenHD (lenHF (lenHW (lenHM (lenHS (lenHG (lenHR rfl))))))))) (fun v z h3 => ⟨_, rfl, ?_⟩)
        exact ev_pick [0, 1, 2, 3] rfl (e_B_Mod_takes_172   (L_Mod_takes_156 n) ih r x1 x2 x3 v)
def B_Mod_takes_154   (r : RS) (x1 : Int32) (x2 : Int32) : Option (Int32 × RS) :=
  L_Mod_takes_156   1000 r x1 x2 0
theorem e_B_Mod_takes_154 {sc : Nat × (Nat → Int32)} {d : DS} {f : FS} {w : WS} {m : MS} {s : SS} {g : GS} {tl : List mn_E}    (r : RS) (x1 : Int32) (x2 : Int32) : Ev sc 5 76 0 0 M_Mod_takes 154 [(0, .ref 12), (1, .int x1), (2, .int x2)] [] (eLV :: (HD d (HF f (HW w (HM m (HS s (HG g (HR r tl)))))))) (mapR ouI (fun z => (eLV :: (HD d (HF f (HW w (HM m (HS s (HG g (HR z tl))))))))) (B_Mod_takes_154 r x1 x2)) := by
  unfold B_Mod_takes_154
  refine ev_iconst (v := 0) d_Mod_takes_154 rfl ?_
  refine ev_istore_n d_Mod_takes_155 rfl (by decide) rfl ?_
  exact ev_pick [1, 2, 3, 0] rfl (e_L_Mod_takes_156     1000 r x1 x2 0)
def B_Mod_takes_147  (r8 : RS → Int32 → Int32 → Int32 → Option (Int32 × RS)) (r : RS) (x1 : Int32) (x3 : Int32) (t0 : Int32) : Option (Int32 × RS) :=
  r8 r x1 t0 (x3 + 1)
theorem e_B_Mod_takes_147 {sc : Nat × (Nat → Int32)} {d : DS} {f : FS} {w : WS} {m : MS} {s : SS} {g : GS} {tl : List mn_E}  (r8 : RS → Int32 → Int32 → Int32 → Option (Int32 × RS)) (hr8 : ∀ (r : RS) (x1 : Int32) (x2 : Int32) (x3 : Int32), Ev sc 5 76 0 0 M_Mod_takes 8 [(0, .ref 12), (1, .int x1), (2, .int x2), (3, .int x3)] [] (eLV :: (HD d (HF f (HW w (HM m (HS s (HG g (HR r tl)))))))) (mapR ouI (fun z => (eLV :: (HD d (HF f (HW w (HM m (HS s (HG g (HR z tl))))))))) (r8 r x1 x2 x3))) (r : RS) (x1 : Int32) (x3 : Int32) (t0 : Int32) : Ev sc 5 76 0 0 M_Mod_takes 147 [(0, .ref 12), (1, .int x1), (3, .int x3)] [.int t0] (eLV :: (HD d (HF f (HW w (HM m (HS s (HG g (HR r tl)))))))) (mapR ouI (fun z => (eLV :: (HD d (HF f (HW w (HM m (HS s (HG g (HR z tl))))))))) (B_Mod_takes_147 r8 r x1 x3 t0)) := by
  unfold B_Mod_takes_147
  refine ev_istore_n d_Mod_takes_147 rfl (by decide) rfl ?_
  refine ev_iinc (v := (x3 + 1)) d_Mod_takes_148 rfl rfl (by decide) rfl ?_
  refine ev_goto (tgt := 8) d_Mod_takes_151 rfl ?_
  exact ev_pick [2, 3, 1, 0] rfl (hr8 r x1 t0 (x3 + 1))
def B_Mod_takes_135  (r8 : RS → Int32 → Int32 → Int32 → Option (Int32 × RS)) (r : RS) (x1 : Int32) (x2 : Int32) (x3 : Int32) (x5 : Int32) : Option (Int32 × RS) :=
  if x5 = 0 then (B_Mod_takes_147  r8 r x1 x3 x2) else (B_Mod_takes_147  r8 r x1 x3 (x2 + 1))
theorem e_B_Mod_takes_135 {sc : Nat × (Nat → Int32)} {d : DS} {f : FS} {w : WS} {m : MS} {s : SS} {g : GS} {tl : List mn_E}  (r8 : RS → Int32 → Int32 → Int32 → Option (Int32 × RS)) (hr8 : ∀ (r : RS) (x1 : Int32) (x2 : Int32) (x3 : Int32), Ev sc 5 76 0 0 M_Mod_takes 8 [(0, .ref 12), (1, .int x1), (2, .int x2), (3, .int x3)] [] (eLV :: (HD d (HF f (HW w (HM m (HS s (HG g (HR r tl)))))))) (mapR ouI (fun z => (eLV :: (HD d (HF f (HW w (HM m (HS s (HG g (HR z tl))))))))) (r8 r x1 x2 x3))) (r : RS) (x1 : Int32) (x2 : Int32) (x3 : Int32) (x5 : Int32) : Ev sc 5 76 0 0 M_Mod_takes 135 [(0, .ref 12), (1, .int x1), (2, .int x2), (3, .int x3), (5, .int x5)] [] (eLV :: (HD d (HF f (HW w (HM m (HS s (HG g (HR r tl)))))))) (mapR ouI (fun z => (eLV :: (HD d (HF f (HW w (HM m (HS s (HG g (HR z tl))))))))) (B_Mod_takes_135 r8 r x1 x2 x3 x5)) := by
  unfold B_Mod_takes_135
  refine ev_iload d_Mod_takes_135 rfl ?_
  refine ev_if_eq (tgt := 146) d_Mod_takes_137 rfl (fun h1 => ?_) (fun h1 => ?_)
  · rw [if_pos h1]
    refine ev_iload_n d_Mod_takes_146 rfl rfl ?_
    exact ev_pick [0, 1, 3] rfl (e_B_Mod_takes_147   r8 hr8 r x1 x3 x2)
  · rw [if_neg h1]
    refine ev_iload_n d_Mod_takes_140 rfl rfl ?_
    refine ev_iconst (v := 1) d_Mod_takes_141 rfl ?_
    refine ev_iadd d_Mod_takes_142 ?_
    refine ev_goto (tgt := 147) d_Mod_takes_143 rfl ?_
    exact ev_pick [0, 1, 3] rfl (e_B_Mod_takes_147   r8 hr8 r x1 x3 (x2 + 1))
def B_Mod_takes_134  (r8 : RS → Int32 → Int32 → Int32 → Option (Int32 × RS)) (r : RS) (x1 : Int32) (x2 : Int32) (x3 : Int32) (x5 : Int32) (t1 : Int32) (t2 : Int32) : Option (Int32 × RS) :=
  if inB t1 40 then (B_Mod_takes_135  r8 (rSMar r (upd (rMar r) t1.toNatClampNeg t2)) x1 x2 x3 x5) else none
theorem e_B_Mod_takes_134 {sc : Nat × (Nat → Int32)} {d : DS} {f : FS} {w : WS} {m : MS} {s : SS} {g : GS} {tl : List mn_E}  (r8 : RS → Int32 → Int32 → Int32 → Option (Int32 × RS)) (hr8 : ∀ (r : RS) (x1 : Int32) (x2 : Int32) (x3 : Int32), Ev sc 5 76 0 0 M_Mod_takes 8 [(0, .ref 12), (1, .int x1), (2, .int x2), (3, .int x3)] [] (eLV :: (HD d (HF f (HW w (HM m (HS s (HG g (HR r tl)))))))) (mapR ouI (fun z => (eLV :: (HD d (HF f (HW w (HM m (HS s (HG g (HR z tl))))))))) (r8 r x1 x2 x3))) (r : RS) (x1 : Int32) (x2 : Int32) (x3 : Int32) (x5 : Int32) (t1 : Int32) (t2 : Int32) : Ev sc 5 76 0 0 M_Mod_takes 134 [(0, .ref 12), (1, .int x1), (2, .int x2), (3, .int x3), (5, .int x5)] [.int t2, .int t1, .ref 21] (eLV :: (HD d (HF f (HW w (HM m (HS s (HG g (HR r tl)))))))) (mapR ouI (fun z => (eLV :: (HD d (HF f (HW w (HM m (HS s (HG g (HR z tl))))))))) (B_Mod_takes_134 r8 r x1 x2 x3 x5 t1 t2)) := by
  unfold B_Mod_takes_134
  refine ev_inB (fun h1 => ?_)
  refine ev_iastore (h2 := (eLV :: (HD d (HF f (HW w (HM m (HS s (HG g (HR (rSMar r (upd (rMar r) t1.toNatClampNeg t2)) tl))))))))) rfl (inB_of h1) rfl d_Mod_takes_134 ?_
  exact ev_pick [0, 1, 2, 3, 4] rfl (e_B_Mod_takes_135   r8 hr8 (rSMar r (upd (rMar r) t1.toNatClampNeg t2)) x1 x2 x3 x5)
def B_Mod_takes_108  (r8 : RS → Int32 → Int32 → Int32 → Option (Int32 × RS)) (r : RS) (x1 : Int32) (x2 : Int32) (x3 : Int32) (x4 : Int32) (x5 : Int32) : Option (Int32 × RS) :=
  if x5 = 0 then (if x4 = 0 then (B_Mod_takes_134  r8 r x1 x2 x3 x5 x3 0) else (B_Mod_takes_134  r8 r x1 x2 x3 x5 x3 2)) else (B_Mod_takes_134  r8 r x1 x2 x3 x5 x3 (4 + x2))
theorem e_B_Mod_takes_108 {sc : Nat × (Nat → Int32)} {d : DS} {f : FS} {w : WS} {m : MS} {s : SS} {g : GS} {tl : List mn_E}  (r8 : RS → Int32 → Int32 → Int32 → Option (Int32 × RS)) (hr8 : ∀ (r : RS) (x1 : Int32) (x2 : Int32) (x3 : Int32), Ev sc 5 76 0 0 M_Mod_takes 8 [(0, .ref 12), (1, .int x1), (2, .int x2), (3, .int x3)] [] (eLV :: (HD d (HF f (HW w (HM m (HS s (HG g (HR r tl)))))))) (mapR ouI (fun z => (eLV :: (HD d (HF f (HW w (HM m (HS s (HG g (HR z tl))))))))) (r8 r x1 x2 x3))) (r : RS) (x1 : Int32) (x2 : Int32) (x3 : Int32) (x4 : Int32) (x5 : Int32) : Ev sc 5 76 0 0 M_Mod_takes 108 [(0, .ref 12), (1, .int x1), (2, .int x2), (3, .int x3), (4, .int x4), (5, .int x5)] [] (eLV :: (HD d (HF f (HW w (HM m (HS s (HG g (HR r tl)))))))) (mapR ouI (fun z => (eLV :: (HD d (HF f (HW w (HM m (HS s (HG g (HR z tl))))))))) (B_Mod_takes_108 r8 r x1 x2 x3 x4 x5)) := by
  unfold B_Mod_takes_108
  refine ev_aload_n d_Mod_takes_108 rfl rfl ?_
  refine ev_get (v := .ref 21) gi_Mod (ci := 6) rfl rfl 15 (by decide) gw_1016 rfl d_Mod_takes_109 ?_
  refine ev_iload_n d_Mod_takes_112 rfl rfl ?_
  refine ev_iload d_Mod_takes_113 rfl ?_
  refine ev_if_eq (tgt := 124) d_Mod_takes_115 rfl (fun h1 => ?_) (fun h1 => ?_)
  · rw [if_pos h1]
    refine ev_iload d_Mod_takes_124 rfl ?_
    refine ev_if_eq (tgt := 133) d_Mod_takes_126 rfl (fun h2 => ?_) (fun h2 => ?_)
    · rw [if_pos h2]
      refine ev_iconst (v := 0) d_Mod_takes_133 rfl ?_
      exact ev_pick [0, 1, 2, 3, 5] rfl (e_B_Mod_takes_134   r8 hr8 r x1 x2 x3 x5 x3 0)
    · rw [if_neg h2]
      refine ev_iconst (v := 2) d_Mod_takes_129 rfl ?_
      refine ev_goto (tgt := 134) d_Mod_takes_130 rfl ?_
      exact ev_pick [0, 1, 2, 3, 5] rfl (e_B_Mod_takes_134   r8 hr8 r x1 x2 x3 x5 x3 2)
  · rw [if_neg h1]
    refine ev_iconst (v := 4) d_Mod_takes_118 rfl ?_
    refine ev_iload_n d_Mod_takes_119 rfl rfl ?_
    refine ev_iadd d_Mod_takes_120 ?_
    refine ev_goto (tgt := 134) d_Mod_takes_121 rfl ?_
    exact ev_pick [0, 1, 2, 3, 5] rfl (e_B_Mod_takes_134   r8 hr8 r x1 x2 x3 x5 x3 (4 + x2))
def B_Mod_takes_105  (r8 : RS → Int32 → Int32 → Int32 → Option (Int32 × RS)) (r : RS) (x1 : Int32) (x2 : Int32) (x3 : Int32) (x4 : Int32) (x5 : Int32) (t1 : Int32) : Option (Int32 × RS) :=
  B_Mod_takes_108  r8 (rSMis r t1) x1 x2 x3 x4 x5
theorem e_B_Mod_takes_105 {sc : Nat × (Nat → Int32)} {d : DS} {f : FS} {w : WS} {m : MS} {s : SS} {g : GS} {tl : List mn_E}  (r8 : RS → Int32 → Int32 → Int32 → Option (Int32 × RS)) (hr8 : ∀ (r : RS) (x1 : Int32) (x2 : Int32) (x3 : Int32), Ev sc 5 76 0 0 M_Mod_takes 8 [(0, .ref 12), (1, .int x1), (2, .int x2), (3, .int x3)] [] (eLV :: (HD d (HF f (HW w (HM m (HS s (HG g (HR r tl)))))))) (mapR ouI (fun z => (eLV :: (HD d (HF f (HW w (HM m (HS s (HG g (HR z tl))))))))) (r8 r x1 x2 x3))) (r : RS) (x1 : Int32) (x2 : Int32) (x3 : Int32) (x4 : Int32) (x5 : Int32) (t1 : Int32) : Ev sc 5 76 0 0 M_Mod_takes 105 [(0, .ref 12), (1, .int x1), (2, .int x2), (3, .int x3), (4, .int x4), (5, .int x5)] [.int t1, .ref 12] (eLV :: (HD d (HF f (HW w (HM m (HS s (HG g (HR r tl)))))))) (mapR ouI (fun z => (eLV :: (HD d (HF f (HW w (HM m (HS s (HG g (HR z tl))))))))) (B_Mod_takes_105 r8 r x1 x2 x3 x4 x5 t1)) := by
  unfold B_Mod_takes_105
  refine ev_put (h2 := (eLV :: (HD d (HF f (HW w (HM m (HS s (HG g (HR (rSMis r t1) tl))))))))) gi_Mod ft_Mod fo_Mod fn_Mod (ci := 6) rfl rfl 10 (by decide) gw_1011 rfl rfl (fun _ => rfl) (fun _ => rfl) (Nat.le_of_ble_eq_true rfl) rfl d_Mod_takes_105 ?_
  exact ev_pick [0, 1, 2, 3, 4, 5] rfl (e_B_Mod_takes_108   r8 hr8 (rSMis r t1) x1 x2 x3 x4 x5)
def B_Mod_takes_101  (r8 : RS → Int32 → Int32 → Int32 → Option (Int32 × RS)) (r : RS) (x1 : Int32) (x2 : Int32) (x3 : Int32) (x4 : Int32) (x5 : Int32) : Option (Int32 × RS) :=
  B_Mod_takes_105  r8 r x1 x2 x3 x4 x5 (rMis r)
theorem e_B_Mod_takes_101 {sc : Nat × (Nat → Int32)} {d : DS} {f : FS} {w : WS} {m : MS} {s : SS} {g : GS} {tl : List mn_E}  (r8 : RS → Int32 → Int32 → Int32 → Option (Int32 × RS)) (hr8 : ∀ (r : RS) (x1 : Int32) (x2 : Int32) (x3 : Int32), Ev sc 5 76 0 0 M_Mod_takes 8 [(0, .ref 12), (1, .int x1), (2, .int x2), (3, .int x3)] [] (eLV :: (HD d (HF f (HW w (HM m (HS s (HG g (HR r tl)))))))) (mapR ouI (fun z => (eLV :: (HD d (HF f (HW w (HM m (HS s (HG g (HR z tl))))))))) (r8 r x1 x2 x3))) (r : RS) (x1 : Int32) (x2 : Int32) (x3 : Int32) (x4 : Int32) (x5 : Int32) : Ev sc 5 76 0 0 M_Mod_takes 101 [(0, .ref 12), (1, .int x1), (2, .int x2), (3, .int x3), (4, .int x4), (5, .int x5)] [.ref 12] (eLV :: (HD d (HF f (HW w (HM m (HS s (HG g (HR r tl)))))))) (mapR ouI (fun z => (eLV :: (HD d (HF f (HW w (HM m (HS s (HG g (HR z tl))))))))) (B_Mod_takes_101 r8 r x1 x2 x3 x4 x5)) := by
  unfold B_Mod_takes_101
  refine ev_aload_n d_Mod_takes_101 rfl rfl ?_
  refine ev_get (v := .int (rMis r)) gi_Mod (ci := 6) rfl rfl 10 (by decide) gw_1011 rfl d_Mod_takes_102 ?_
  exact ev_pick [0, 1, 2, 3, 4, 5] rfl (e_B_Mod_takes_105   r8 hr8 r x1 x2 x3 x4 x5 (rMis r))
def B_Mod_takes_79  (r8 : RS → Int32 → Int32 → Int32 → Option (Int32 × RS)) (r : RS) (x1 : Int32) (x2 : Int32) (x3 : Int32) (x4 : Int32) (t0 : Int32) : Option (Int32 × RS) :=
  if x4 = 0 then (B_Mod_takes_101  r8 r x1 x2 x3 x4 t0) else (if ¬ t0 = 0 then (B_Mod_takes_101  r8 r x1 x2 x3 x4 t0) else (B_Mod_takes_105  r8 r x1 x2 x3 x4 t0 ((rMis r) + 1)))
theorem e_B_Mod_takes_79 {sc : Nat × (Nat → Int32)} {d : DS} {f : FS} {w : WS} {m : MS} {s : SS} {g : GS} {tl : List mn_E}  (r8 : RS → Int32 → Int32 → Int32 → Option (Int32 × RS)) (hr8 : ∀ (r : RS) (x1 : Int32) (x2 : Int32) (x3 : Int32), Ev sc 5 76 0 0 M_Mod_takes 8 [(0, .ref 12), (1, .int x1), (2, .int x2), (3, .int x3)] [] (eLV :: (HD d (HF f (HW w (HM m (HS s (HG g (HR r tl)))))))) (mapR ouI (fun z => (eLV :: (HD d (HF f (HW w (HM m (HS s (HG g (HR z tl))))))))) (r8 r x1 x2 x3))) (r : RS) (x1 : Int32) (x2 : Int32) (x3 : Int32) (x4 : Int32) (t0 : Int32) : Ev sc 5 76 0 0 M_Mod_takes 79 [(0, .ref 12), (1, .int x1), (2, .int x2), (3, .int x3), (4, .int x4)] [.int t0] (eLV :: (HD d (HF f (HW w (HM m (HS s (HG g (HR r tl)))))))) (mapR ouI (fun z => (eLV :: (HD d (HF f (HW w (HM m (HS s (HG g (HR z tl))))))))) (B_Mod_takes_79 r8 r x1 x2 x3 x4 t0)) := by
  unfold B_Mod_takes_79
  refine ev_istore d_Mod_takes_79 (by decide) rfl ?_
  refine ev_aload_n d_Mod_takes_81 rfl rfl ?_
  refine ev_iload d_Mod_takes_82 rfl ?_
  refine ev_if_eq (tgt := 101) d_Mod_takes_84 rfl (fun h1 => ?_) (fun h1 => ?_)
  · rw [if_pos h1]
    exact ev_pick [1, 2, 3, 4, 5, 0] rfl (e_B_Mod_takes_101   r8 hr8 r x1 x2 x3 x4 t0)
  · rw [if_neg h1]
    refine ev_iload d_Mod_takes_87 rfl ?_
    refine ev_if_ne (tgt := 101) d_Mod_takes_89 rfl (fun h2 => ?_) (fun h2 => ?_)
    · rw [if_pos h2]
      exact ev_pick [1, 2, 3, 4, 5, 0] rfl (e_B_Mod_takes_101   r8 hr8 r x1 x2 x3 x4 t0)
    · rw [if_neg h2]
      refine ev_aload_n d_Mod_takes_92 rfl rfl ?_
      refine ev_get (v := .int (rMis r)) gi_Mod (ci := 6) rfl rfl 10 (by decide) gw_1011 rfl d_Mod_takes_93 ?_
      refine ev_iconst (v := 1) d_Mod_takes_96 rfl ?_
      refine ev_iadd d_Mod_takes_97 ?_
      refine ev_goto (tgt := 105) d_Mod_takes_98 rfl ?_
      exact ev_pick [1, 2, 3, 4, 5, 0] rfl (e_B_Mod_takes_105   r8 hr8 r x1 x2 x3 x4 t0 ((rMis r) + 1))
def B_Mod_takes_78  (r8 : RS → Int32 → Int32 → Int32 → Option (Int32 × RS)) (r : RS) (x1 : Int32) (x2 : Int32) (x3 : Int32) (x4 : Int32) : Option (Int32 × RS) :=
  B_Mod_takes_79  r8 r x1 x2 x3 x4 0
theorem e_B_Mod_takes_78 {sc : Nat × (Nat → Int32)} {d : DS} {f : FS} {w : WS} {m : MS} {s : SS} {g : GS} {tl : List mn_E}  (r8 : RS → Int32 → Int32 → Int32 → Option (Int32 × RS)) (hr8 : ∀ (r : RS) (x1 : Int32) (x2 : Int32) (x3 : Int32), Ev sc 5 76 0 0 M_Mod_takes 8 [(0, .ref 12), (1, .int x1), (2, .int x2), (3, .int x3)] [] (eLV :: (HD d (HF f (HW w (HM m (HS s (HG g (HR r tl)))))))) (mapR ouI (fun z => (eLV :: (HD d (HF f (HW w (HM m (HS s (HG g (HR z tl))))))))) (r8 r x1 x2 x3))) (r : RS) (x1 : Int32) (x2 : Int32) (x3 : Int32) (x4 : Int32) : Ev sc 5 76 0 0 M_Mod_takes 78 [(0, .ref 12), (1, .int x1), (2, .int x2), (3, .int x3), (4, .int x4)] [] (eLV :: (HD d (HF f (HW w (HM m (HS s (HG g (HR r tl)))))))) (mapR ouI (fun z => (eLV :: (HD d (HF f (HW w (HM m (HS s (HG g (HR z tl))))))))) (B_Mod_takes_78 r8 r x1 x2 x3 x4)) := by
  unfold B_Mod_takes_78
  refine ev_iconst (v := 0) d_Mod_takes_78 rfl ?_
  exact ev_pick [0, 1, 2, 3, 4] rfl (e_B_Mod_takes_79   r8 hr8 r x1 x2 x3 x4 0)
def B_Mod_takes_71  (r8 : RS → Int32 → Int32 → Int32 → Option (Int32 × RS)) (r : RS) (x1 : Int32) (x2 : Int32) (x3 : Int32) (x4 : Int32) (t0 : Int32) : Option (Int32 × RS) :=
  if t0 = 0 then (B_Mod_takes_78  r8 r x1 x2 x3 x4) else (B_Mod_takes_79  r8 r x1 x2 x3 x4 1)
theorem e_B_Mod_takes_71 {sc : Nat × (Nat → Int32)} {d : DS} {f : FS} {w : WS} {m : MS} {s : SS} {g : GS} {tl : List mn_E}  (r8 : RS → Int32 → Int32 → Int32 → Option (Int32 × RS)) (hr8 : ∀ (r : RS) (x1 : Int32) (x2 : Int32) (x3 : Int32), Ev sc 5 76 0 0 M_Mod_takes 8 [(0, .ref 12), (1, .int x1), (2, .int x2), (3, .int x3)] [] (eLV :: (HD d (HF f (HW w (HM m (HS s (HG g (HR r tl)))))))) (mapR ouI (fun z => (eLV :: (HD d (HF f (HW w (HM m (HS s (HG g (HR z tl))))))))) (r8 r x1 x2 x3))) (r : RS) (x1 : Int32) (x2 : Int32) (x3 : Int32) (x4 : Int32) (t0 : Int32) : Ev sc 5 76 0 0 M_Mod_takes 71 [(0, .ref 12), (1, .int x1), (2, .int x2), (3, .int x3), (4, .int x4)] [.int t0] (eLV :: (HD d (HF f (HW w (HM m (HS s (HG g (HR r tl)))))))) (mapR ouI (fun z => (eLV :: (HD d (HF f (HW w (HM m (HS s (HG g (HR z tl))))))))) (B_Mod_takes_71 r8 r x1 x2 x3 x4 t0)) := by
  unfold B_Mod_takes_71
  refine ev_if_eq (tgt := 78) d_Mod_takes_71 rfl (fun h1 => ?_) (fun h1 => ?_)
  · rw [if_pos h1]
    exact ev_pick [0, 1, 2, 3, 4] rfl (e_B_Mod_takes_78   r8 hr8 r x1 x2 x3 x4)
  · rw [if_neg h1]
    refine ev_iconst (v := 1) d_Mod_takes_74 rfl ?_
    refine ev_goto (tgt := 79) d_Mod_takes_75 rfl ?_
    exact ev_pick [0, 1, 2, 3, 4] rfl (e_B_Mod_takes_79   r8 hr8 r x1 x2 x3 x4 1)
def B_Mod_takes_59  (r8 : RS → Int32 → Int32 → Int32 → Option (Int32 × RS)) (r : RS) (x1 : Int32) (x2 : Int32) (x3 : Int32) (t0 : Int32) : Option (Int32 × RS) :=
  if t0 = 0 then (B_Mod_takes_78  r8 r x1 x2 x3 t0) else (bnd (f_Mod_isFree r x3) (fun q => B_Mod_takes_71  r8 r x1 x2 x3 t0 q.1))
theorem e_B_Mod_takes_59 {sc : Nat × (Nat → Int32)} {d : DS} {f : FS} {w : WS} {m : MS} {s : SS} {g : GS} {tl : List mn_E}  (r8 : RS → Int32 → Int32 → Int32 → Option (Int32 × RS)) (hr8 : ∀ (r : RS) (x1 : Int32) (x2 : Int32) (x3 : Int32), Ev sc 5 76 0 0 M_Mod_takes 8 [(0, .ref 12), (1, .int x1), (2, .int x2), (3, .int x3)] [] (eLV :: (HD d (HF f (HW w (HM m (HS s (HG g (HR r tl)))))))) (mapR ouI (fun z => (eLV :: (HD d (HF f (HW w (HM m (HS s (HG g (HR z tl))))))))) (r8 r x1 x2 x3))) (r : RS) (x1 : Int32) (x2 : Int32) (x3 : Int32) (t0 : Int32) : Ev sc 5 76 0 0 M_Mod_takes 59 [(0, .ref 12), (1, .int x1), (2, .int x2), (3, .int x3)] [.int t0] (eLV :: (HD d (HF f (HW w (HM m (HS s (HG g (HR r tl)))))))) (mapR ouI (fun z => (eLV :: (HD d (HF f (HW w (HM m (HS s (HG g (HR z tl))))))))) (B_Mod_takes_59 r8 r x1 x2 x3 t0)) := by
  unfold B_Mod_takes_59
  refine ev_istore d_Mod_takes_59 (by decide) rfl ?_
  refine ev_iload d_Mod_takes_61 rfl ?_
  refine ev_if_eq (tgt := 78) d_Mod_takes_63 rfl (fun h1 => ?_) (fun h1 => ?_)
  · rw [if_pos h1]
    exact ev_pick [1, 2, 3, 4, 0] rfl (e_B_Mod_takes_78   r8 hr8 r x1 x2 x3 t0)
  · rw [if_neg h1]
    refine ev_aload_n d_Mod_takes_66 rfl rfl ?_
    refine ev_iload_n d_Mod_takes_67 rfl rfl ?_
    refine ev_callB (rc := (f_Mod_isFree r x3)) (ou := ouI) (Hs := (fun z => (eLV :: (HD d (HF f (HW w (HM m (HS s (HG g (HR r tl)))))))))) (inv_V (q := 12) (av := [.int x3]) (rest := []) rfl (ci := 6) rfl d_Mod_takes_68 gw_1151 gw_1153 gw_61 mw_Mod_isFree nh_Mod_isFree pn_Mod_isFree rfl) d_Mod_takes_68 pl_Mod_isFree (Nat.le_of_ble_eq_true rfl) (Nat.le_of_ble_eq_true rfl) (Nat.le_of_ble_eq_true rfl) (e_f_Mod_isFree (tl := tl) (d := d) (f := f) (w := w) (m := m) (s := s) (g := g)  r x3) (fun _ => (len1 (lenHD (lenHF (lenHW (lenHM (lenHS (lenHG (lenHR rfl))))))))) (fun v z h2 => ⟨_, rfl, ?_⟩)
    exact ev_pick [1, 2, 3, 4, 0] rfl (e_B_Mod_takes_71   r8 hr8 r x1 x2 x3 t0 v)
def L_Mod_takes_8   : Nat → RS → Int32 → Int32 → Int32 → Option (Int32 × RS)
  | 0, _, _, _, _ => none
  | n + 1, r, x1, x2, x3 =>
  if 40 ≤ x3 then (B_Mod_takes_154   r x1 x2) else (if x1 ≤ x2 then (B_Mod_takes_154   r x1 x2) else (if (rMap r) < 0 then (B_Mod_takes_154   r x1 x2) else (if inB ((8 * (rMap r)) + (x3 / 8)) 320 then (if ¬ (((rByt r ((8 * (rMap r)) + (x3 / 8)).toNatClampNeg) >>> ((x3 - x3 / 8 * 8) &&& 31)) &&& 1) = 1 then (B_Mod_takes_59  (L_Mod_takes_8 n) r x1 x2 x3 0) else (B_Mod_takes_59  (L_Mod_takes_8 n) r x1 x2 x3 1)) else none)))
theorem e_L_Mod_takes_8 {sc : Nat × (Nat → Int32)} {d : DS} {f : FS} {w : WS} {m : MS} {s : SS} {g : GS} {tl : List mn_E}    : ∀ (n : Nat) (r : RS) (x1 : Int32) (x2 : Int32) (x3 : Int32), Ev sc 5 76 0 0 M_Mod_takes 8 [(0, .ref 12), (1, .int x1), (2, .int x2), (3, .int x3)] [] (eLV :: (HD d (HF f (HW w (HM m (HS s (HG g (HR r tl)))))))) (mapR ouI (fun z => (eLV :: (HD d (HF f (HW w (HM m (HS s (HG g (HR z tl))))))))) (L_Mod_takes_8   n r x1 x2 x3)) := by
  intro n
  induction n with
  | zero => intro r x1 x2 x3; exact ev_none
  | succ n ih =>
    intro r x1 x2 x3
    rw [L_Mod_takes_8]
    refine ev_iload_n d_Mod_takes_8 rfl rfl ?_
    refine ev_bipush (v := 40) d_Mod_takes_9 rfl ?_
    refine ev_icmp_ge (tgt := 154) d_Mod_takes_11 rfl (fun h1 => ?_) (fun h1 => ?_)
    · rw [if_pos h1]
      exact ev_pick [0, 1, 2] rfl (e_B_Mod_takes_154     r x1 x2)
    · rw [if_neg h1]
      refine ev_iload_n d_Mod_takes_14 rfl rfl ?_
      refine ev_iload_n d_Mod_takes_15 rfl rfl ?_
      refine ev_icmp_ge (tgt := 154) d_Mod_takes_16 rfl (fun h2 => ?_) (fun h2 => ?_)
      · rw [if_pos h2]
        exact ev_pick [0, 1, 2] rfl (e_B_Mod_takes_154     r x1 x2)
      · rw [if_neg h2]
        refine ev_aload_n d_Mod_takes_19 rfl rfl ?_
        refine ev_get (v := .int (rMap r)) gi_Mod (ci := 6) rfl rfl 14 (by decide) gw_1015 rfl d_Mod_takes_20 ?_
        refine ev_if_lt (tgt := 154) d_Mod_takes_23 rfl (fun h3 => ?_) (fun h3 => ?_)
        · rw [if_pos h3]
          exact ev_pick [0, 1, 2] rfl (e_B_Mod_takes_154     r x1 x2)
        · rw [if_neg h3]
          refine ev_aload_n d_Mod_takes_26 rfl rfl ?_
          refine ev_get (v := .ref 18) gi_Mod (ci := 6) rfl rfl 7 (by decide) gw_1008 rfl d_Mod_takes_27 ?_
          refine ev_bipush (v := 8) d_Mod_takes_30 rfl ?_
          refine ev_aload_n d_Mod_takes_32 rfl rfl ?_
          refine ev_get (v := .int (rMap r)) gi_Mod (ci := 6) rfl rfl 14 (by decide) gw_1015 rfl d_Mod_takes_33 ?_
          refine ev_imul d_Mod_takes_36 ?_
          refine ev_iload_n d_Mod_takes_37 rfl rfl ?_
          refine ev_bipush (v := 8) d_Mod_takes_38 rfl ?_
          refine ev_idiv d_Mod_takes_40 (by decide) ?_
          refine ev_iadd d_Mod_takes_41 ?_
          refine ev_inB (fun h4 => ?_)
          refine ev_iaload rfl (inB_of h4) d_Mod_takes_42 ?_
          refine ev_iload_n d_Mod_takes_43 rfl rfl ?_
          refine ev_bipush (v := 8) d_Mod_takes_44 rfl ?_
          refine ev_irem d_Mod_takes_46 (by decide) ?_
          refine ev_ishr d_Mod_takes_47 ?_
          refine ev_iconst (v := 1) d_Mod_takes_48 rfl ?_
          refine ev_iand d_Mod_takes_49 ?_
          refine ev_iconst (v := 1) d_Mod_takes_50 rfl ?_
          refine ev_icmp_ne (tgt := 58) d_Mod_takes_51 rfl (fun h5 => ?_) (fun h5 => ?_)
          · rw [if_pos h5]
            refine ev_iconst (v := 0) d_Mod_takes_58 rfl ?_
            exact ev_pick [0, 1, 2, 3] rfl (e_B_Mod_takes_59   (L_Mod_takes_8 n) ih r x1 x2 x3 0)
          · rw [if_neg h5]
            refine ev_iconst (v := 1) d_Mod_takes_54 rfl ?_
            refine ev_goto (tgt := 59) d_Mod_takes_55 rfl ?_
            exact ev_pick [0, 1, 2, 3] rfl (e_B_Mod_takes_59   (L_Mod_takes_8 n) ih r x1 x2 x3 1)
def B_Mod_takes_4   (r : RS) (x1 : Int32) : Option (Int32 × RS) :=
  L_Mod_takes_8   1000 r x1 0 0
theorem e_B_Mod_takes_4 {sc : Nat × (Nat → Int32)} {d : DS} {f : FS} {w : WS} {m : MS} {s : SS} {g : GS} {tl : List mn_E}    (r : RS) (x1 : Int32) : Ev sc 5 76 0 0 M_Mod_takes 4 [(0, .ref 12), (1, .int x1)] [] (eLV :: (HD d (HF f (HW w (HM m (HS s (HG g (HR r tl)))))))) (mapR ouI (fun z => (eLV :: (HD d (HF f (HW w (HM m (HS s (HG g (HR z tl))))))))) (B_Mod_takes_4 r x1)) := by
  unfold B_Mod_takes_4
  refine ev_iconst (v := 0) d_Mod_takes_4 rfl ?_
  refine ev_istore_n d_Mod_takes_5 rfl (by decide) rfl ?_
  refine ev_iconst (v := 0) d_Mod_takes_6 rfl ?_
  refine ev_istore_n d_Mod_takes_7 rfl (by decide) rfl ?_
  exact ev_pick [2, 3, 1, 0] rfl (e_L_Mod_takes_8     1000 r x1 0 0)
def f_Mod_takes   (r : RS) (x1 : Int32) : Option (Int32 × RS) :=
  bnd (f_Mod_findMap r) (fun q => B_Mod_takes_4   q.2 x1)
theorem e_f_Mod_takes {sc : Nat × (Nat → Int32)} {d : DS} {f : FS} {w : WS} {m : MS} {s : SS} {g : GS} {tl : List mn_E}    (r : RS) (x1 : Int32) : Ev sc 5 76 0 0 M_Mod_takes 0 [(0, .ref 12), (1, .int x1)] [] (eLV :: (HD d (HF f (HW w (HM m (HS s (HG g (HR r tl)))))))) (mapR ouI (fun z => (eLV :: (HD d (HF f (HW w (HM m (HS s (HG g (HR z tl))))))))) (f_Mod_takes r x1)) := by
  unfold f_Mod_takes
  refine ev_aload_n d_Mod_takes_0 rfl rfl ?_
  refine ev_callB (rc := (f_Mod_findMap r)) (ou := ouV) (Hs := (fun z => (eLV :: (HD d (HF f (HW w (HM m (HS s (HG g (HR z tl)))))))))) (inv_V (q := 12) (av := []) (rest := []) rfl (ci := 6) rfl d_Mod_takes_1 gw_1147 gw_1149 gw_60 mw_Mod_findMap nh_Mod_findMap pn_Mod_findMap rfl) d_Mod_takes_1 pl_Mod_findMap (Nat.le_of_ble_eq_true rfl) (Nat.le_of_ble_eq_true rfl) (Nat.le_of_ble_eq_true rfl) (e_f_Mod_findMap (tl := tl) (d := d) (f := f) (w := w) (m := m) (s := s) (g := g)  r ) (fun _ => (len1 (lenHD (lenHF (lenHW (lenHM (lenHS (lenHG (lenHR rfl))))))))) (fun v z h1 => ⟨_, rfl, ?_⟩)
  exact ev_pick [0, 1] rfl (e_B_Mod_takes_4     z x1)
def B_Mod_taken_27  (r4 : RS → Int32 → Int32 → Int32 → Option (Int32 × Unit)) (r : RS) (x1 : Int32) (x3 : Int32) (t0 : Int32) : Option (Int32 × Unit) :=
  r4 r x1 t0 (x3 + 1)
theorem e_B_Mod_taken_27 {sc : Nat × (Nat → Int32)} {d : DS} {f : FS} {w : WS} {m : MS} {s : SS} {g : GS} {tl : List mn_E}  (r4 : RS → Int32 → Int32 → Int32 → Option (Int32 × Unit)) (hr4 : ∀ (r : RS) (x1 : Int32) (x2 : Int32) (x3 : Int32), Ev sc 0 0 0 0 M_Mod_taken 4 [(0, .ref 12), (1, .int x1), (2, .int x2), (3, .int x3)] [] (eLV :: (HD d (HF f (HW w (HM m (HS s (HG g (HR r tl)))))))) (mapR ouI (fun z => (eLV :: (HD d (HF f (HW w (HM m (HS s (HG g (HR r tl))))))))) (r4 r x1 x2 x3))) (r : RS) (x1 : Int32) (x3 : Int32) (t0 : Int32) : Ev sc 0 0 0 0 M_Mod_taken 27 [(0, .ref 12), (1, .int x1), (3, .int x3)] [.int t0] (eLV :: (HD d (HF f (HW w (HM m (HS s (HG g (HR r tl)))))))) (mapR ouI (fun z => (eLV :: (HD d (HF f (HW w (HM m (HS s (HG g (HR r tl))))))))) (B_Mod_taken_27 r4 r x1 x3 t0)) := by
  unfold B_Mod_taken_27
  refine ev_istore_n d_Mod_taken_27 rfl (by decide) rfl ?_
  refine ev_iinc (v := (x3 + 1)) d_Mod_taken_28 rfl rfl (by decide) rfl ?_
  refine ev_goto (tgt := 4) d_Mod_taken_31 rfl ?_
  exact ev_pick [2, 3, 1, 0] rfl (hr4 r x1 t0 (x3 + 1))
def L_Mod_taken_4   : Nat → RS → Int32 → Int32 → Int32 → Option (Int32 × Unit)
  | 0, _, _, _, _ => none
  | n + 1, r, x1, x2, x3 =>
  if 40 ≤ x3 then (some (x2, ())) else (if inB x3 40 then (if ¬ (rMar r x3.toNatClampNeg) = (4 + x1) then (B_Mod_taken_27  (L_Mod_taken_4 n) r x1 x3 x2) else (B_Mod_taken_27  (L_Mod_taken_4 n) r x1 x3 x3)) else none)
theorem e_L_Mod_taken_4 {sc : Nat × (Nat → Int32)} {d : DS} {f : FS} {w : WS} {m : MS} {s : SS} {g : GS} {tl : List mn_E}    : ∀ (n : Nat) (r : RS) (x1 : Int32) (x2 : Int32) (x3 : Int32), Ev sc 0 0 0 0 M_Mod_taken 4 [(0, .ref 12), (1, .int x1), (2, .int x2), (3, .int x3)] [] (eLV :: (HD d (HF f (HW w (HM m (HS s (HG g (HR r tl)))))))) (mapR ouI (fun z => (eLV :: (HD d (HF f (HW w (HM m (HS s (HG g (HR r tl))))))))) (L_Mod_taken_4   n r x1 x2 x3)) := by
  intro n
  induction n with
  | zero => intro r x1 x2 x3; exact ev_none
  | succ n ih =>
    intro r x1 x2 x3
    rw [L_Mod_taken_4]
    refine ev_iload_n d_Mod_taken_4 rfl rfl ?_
    refine ev_bipush (v := 40) d_Mod_taken_5 rfl ?_
    refine ev_icmp_ge (tgt := 34) d_Mod_taken_7 rfl (fun h1 => ?_) (fun h1 => ?_)
    · rw [if_pos h1]
      refine ev_iload_n d_Mod_taken_34 rfl rfl ?_
      exact ev_zret (ty := .int) rfl rfl d_Mod_taken_35
    · rw [if_neg h1]
      refine ev_aload_n d_Mod_taken_10 rfl rfl ?_
      refine ev_get (v := .ref 21) gi_Mod (ci := 6) rfl rfl 15 (by decide) gw_1016 rfl d_Mod_taken_11 ?_
      refine ev_iload_n d_Mod_taken_14 rfl rfl ?_
      refine ev_inB (fun h2 => ?_)
      refine ev_iaload rfl (inB_of h2) d_Mod_taken_15 ?_
      refine ev_iconst (v := 4) d_Mod_taken_16 rfl ?_
      refine ev_iload_n d_Mod_taken_17 rfl rfl ?_
      refine ev_iadd d_Mod_taken_18 ?_
      refine ev_icmp_ne (tgt := 26) d_Mod_taken_19 rfl (fun h3 => ?_) (fun h3 => ?_)
      · rw [if_pos h3]
        refine ev_iload_n d_Mod_taken_26 rfl rfl ?_
        exact ev_pick [0, 1, 3] rfl (e_B_Mod_taken_27   (L_Mod_taken_4 n) ih r x1 x3 x2)
      · rw [if_neg h3]
        refine ev_iload_n d_Mod_taken_22 rfl rfl ?_
        refine ev_goto (tgt := 27) d_Mod_taken_23 rfl ?_
        exact ev_pick [0, 1, 3] rfl (e_B_Mod_taken_27   (L_Mod_taken_4 n) ih r x1 x3 x3)
def f_Mod_taken   (r : RS) (x1 : Int32) : Option (Int32 × Unit) :=
  L_Mod_taken_4   1000 r x1 (-1) 0
theorem e_f_Mod_taken {sc : Nat × (Nat → Int32)} {d : DS} {f : FS} {w : WS} {m : MS} {s : SS} {g : GS} {tl : List mn_E}    (r : RS) (x1 : Int32) : Ev sc 0 0 0 0 M_Mod_taken 0 [(0, .ref 12), (1, .int x1)] [] (eLV :: (HD d (HF f (HW w (HM m (HS s (HG g (HR r tl)))))))) (mapR ouI (fun z => (eLV :: (HD d (HF f (HW w (HM m (HS s (HG g (HR r tl))))))))) (f_Mod_taken r x1)) := by
  unfold f_Mod_taken
  refine ev_iconst (v := -1) d_Mod_taken_0 rfl ?_
  refine ev_istore_n d_Mod_taken_1 rfl (by decide) rfl ?_
  refine ev_iconst (v := 0) d_Mod_taken_2 rfl ?_
  refine ev_istore_n d_Mod_taken_3 rfl (by decide) rfl ?_
  exact ev_pick [2, 3, 1, 0] rfl (e_L_Mod_taken_4     1000 r x1 (-1) 0)
def B_Mod_putMap_174  (r19 : RS → Int32 → Int32 → Option (Unit × RS)) (r : RS) (x1 : Int32) (x2 : Int32) : Option (Unit × RS) :=
  r19 r x1 (x2 + 1)
theorem e_B_Mod_putMap_174 {sc : Nat × (Nat → Int32)} {d : DS} {f : FS} {w : WS} {m : MS} {s : SS} {g : GS} {tl : List mn_E}  (r19 : RS → Int32 → Int32 → Option (Unit × RS)) (hr19 : ∀ (r : RS) (x1 : Int32) (x2 : Int32), Ev sc 1 12 0 0 M_Mod_putMap 19 [(0, .ref 12), (1, .int x1), (2, .int x2)] [] (eLV :: (HD d (HF f (HW w (HM m (HS s (HG g (HR r tl)))))))) (mapR ouV (fun z => (eLV :: (HD d (HF f (HW w (HM m (HS s (HG g (HR z tl))))))))) (r19 r x1 x2))) (r : RS) (x1 : Int32) (x2 : Int32) : Ev sc 1 12 0 0 M_Mod_putMap 174 [(0, .ref 12), (1, .int x1), (2, .int x2)] [] (eLV :: (HD d (HF f (HW w (HM m (HS s (HG g (HR r tl)))))))) (mapR ouV (fun z => (eLV :: (HD d (HF f (HW w (HM m (HS s (HG g (HR z tl))))))))) (B_Mod_putMap_174 r19 r x1 x2)) := by
  unfold B_Mod_putMap_174
  refine ev_iinc (v := (x2 + 1)) d_Mod_putMap_174 rfl rfl (by decide) rfl ?_
  refine ev_goto (tgt := 19) d_Mod_putMap_177 rfl ?_
  exact ev_pick [1, 2, 0] rfl (hr19 r x1 (x2 + 1))
def B_Mod_putMap_170  (r19 : RS → Int32 → Int32 → Option (Unit × RS)) (r : RS) (x1 : Int32) (x2 : Int32) (t0 : Int32) : Option (Unit × RS) :=
  if ¬ t0 = 0 then (B_Mod_putMap_174  r19 r x1 x2) else (some ((), r))
theorem e_B_Mod_putMap_170 {sc : Nat × (Nat → Int32)} {d : DS} {f : FS} {w : WS} {m : MS} {s : SS} {g : GS} {tl : List mn_E}  (r19 : RS → Int32 → Int32 → Option (Unit × RS)) (hr19 : ∀ (r : RS) (x1 : Int32) (x2 : Int32), Ev sc 1 12 0 0 M_Mod_putMap 19 [(0, .ref 12), (1, .int x1), (2, .int x2)] [] (eLV :: (HD d (HF f (HW w (HM m (HS s (HG g (HR r tl)))))))) (mapR ouV (fun z => (eLV :: (HD d (HF f (HW w (HM m (HS s (HG g (HR z tl))))))))) (r19 r x1 x2))) (r : RS) (x1 : Int32) (x2 : Int32) (t0 : Int32) : Ev sc 1 12 0 0 M_Mod_putMap 170 [(0, .ref 12), (1, .int x1), (2, .int x2)] [.int t0] (eLV :: (HD d (HF f (HW w (HM m (HS s (HG g (HR r tl)))))))) (mapR ouV (fun z => (eLV :: (HD d (HF f (HW w (HM m (HS s (HG g (HR z tl))))))))) (B_Mod_putMap_170 r19 r x1 x2 t0)) := by
  unfold B_Mod_putMap_170
  refine ev_if_ne (tgt := 174) d_Mod_putMap_170 rfl (fun h1 => ?_) (fun h1 => ?_)
  · rw [if_pos h1]
    exact ev_pick [0, 1, 2] rfl (e_B_Mod_putMap_174   r19 hr19 r x1 x2)
  · rw [if_neg h1]
    exact ev_vret rfl d_Mod_putMap_173
def B_Mod_putMap_152  (r19 : RS → Int32 → Int32 → Option (Unit × RS)) (r26 : RS → Int32 → Int32 → Int32 → Option (Unit × RS)) (r : RS) (x1 : Int32) (x2 : Int32) (x3 : Int32) : Option (Unit × RS) :=
  r26 r x1 x2 (x3 + 1)
theorem e_B_Mod_putMap_152 {sc : Nat × (Nat → Int32)} {d : DS} {f : FS} {w : WS} {m : MS} {s : SS} {g : GS} {tl : List mn_E}  (r19 : RS → Int32 → Int32 → Option (Unit × RS)) (r26 : RS → Int32 → Int32 → Int32 → Option (Unit × RS)) (hr19 : ∀ (r : RS) (x1 : Int32) (x2 : Int32), Ev sc 1 12 0 0 M_Mod_putMap 19 [(0, .ref 12), (1, .int x1), (2, .int x2)] [] (eLV :: (HD d (HF f (HW w (HM m (HS s (HG g (HR r tl)))))))) (mapR ouV (fun z => (eLV :: (HD d (HF f (HW w (HM m (HS s (HG g (HR z tl))))))))) (r19 r x1 x2))) (hr26 : ∀ (r : RS) (x1 : Int32) (x2 : Int32) (x3 : Int32), Ev sc 1 12 0 0 M_Mod_putMap 26 [(0, .ref 12), (1, .int x1), (2, .int x2), (3, .int x3)] [] (eLV :: (HD d (HF f (HW w (HM m (HS s (HG g (HR r tl)))))))) (mapR ouV (fun z => (eLV :: (HD d (HF f (HW w (HM m (HS s (HG g (HR z tl))))))))) (r26 r x1 x2 x3))) (r : RS) (x1 : Int32) (x2 : Int32) (x3 : Int32) : Ev sc 1 12 0 0 M_Mod_putMap 152 [(0, .ref 12), (1, .int x1), (2, .int x2), (3, .int x3)] [] (eLV :: (HD d (HF f (HW w (HM m (HS s (HG g (HR r tl)))))))) (mapR ouV (fun z => (eLV :: (HD d (HF f (HW w (HM m (HS s (HG g (HR z tl))))))))) (B_Mod_putMap_152 r19 r26 r x1 x2 x3)) := by
  unfold B_Mod_putMap_152
  refine ev_iinc (v := (x3 + 1)) d_Mod_putMap_152 rfl rfl (by decide) rfl ?_
  refine ev_goto (tgt := 26) d_Mod_putMap_155 rfl ?_
  exact ev_pick [1, 2, 3, 0] rfl (hr26 r x1 x2 (x3 + 1))
def B_Mod_putMap_118  (r19 : RS → Int32 → Int32 → Option (Unit × RS)) (r26 : RS → Int32 → Int32 → Int32 → Option (Unit × RS)) (r : RS) (x2 : Int32) (x3 : Int32) (x4 : Int32) (x5 : Int32) (x6 : Int32) (t0 : Int32) : Option (Unit × RS) :=
  if ¬ x2 = 1 then (B_Mod_putMap_152  r19 r26 r t0 x2 x3) else (if x5 = x6 then (B_Mod_putMap_152  r19 r26 r t0 x2 x3) else (if inB x4 320 then (if inB x4 320 then (B_Mod_putMap_152  r19 r26 (rSByt r (upd (rByt r) x4.toNatClampNeg ((rByt r x4.toNatClampNeg) ^^^ (1 <<< ((x3 - x3 / 8 * 8) &&& 31))))) t0 x2 x3) else none) else none))
theorem e_B_Mod_putMap_118 {sc : Nat × (Nat → Int32)} {d : DS} {f : FS} {w : WS} {m : MS} {s : SS} {g : GS} {tl : List mn_E}  (r19 : RS → Int32 → Int32 → Option (Unit × RS)) (r26 : RS → Int32 → Int32 → Int32 → Option (Unit × RS)) (hr19 : ∀ (r : RS) (x1 : Int32) (x2 : Int32), Ev sc 1 12 0 0 M_Mod_putMap 19 [(0, .ref 12), (1, .int x1), (2, .int x2)] [] (eLV :: (HD d (HF f (HW w (HM m (HS s (HG g (HR r tl)))))))) (mapR ouV (fun z => (eLV :: (HD d (HF f (HW w (HM m (HS s (HG g (HR z tl))))))))) (r19 r x1 x2))) (hr26 : ∀ (r : RS) (x1 : Int32) (x2 : Int32) (x3 : Int32), Ev sc 1 12 0 0 M_Mod_putMap 26 [(0, .ref 12), (1, .int x1), (2, .int x2), (3, .int x3)] [] (eLV :: (HD d (HF f (HW w (HM m (HS s (HG g (HR r tl)))))))) (mapR ouV (fun z => (eLV :: (HD d (HF f (HW w (HM m (HS s (HG g (HR z tl))))))))) (r26 r x1 x2 x3))) (r : RS) (x2 : Int32) (x3 : Int32) (x4 : Int32) (x5 : Int32) (x6 : Int32) (t0 : Int32) : Ev sc 1 12 0 0 M_Mod_putMap 118 [(0, .ref 12), (2, .int x2), (3, .int x3), (4, .int x4), (5, .int x5), (6, .int x6)] [.int t0] (eLV :: (HD d (HF f (HW w (HM m (HS s (HG g (HR r tl)))))))) (mapR ouV (fun z => (eLV :: (HD d (HF f (HW w (HM m (HS s (HG g (HR z tl))))))))) (B_Mod_putMap_118 r19 r26 r x2 x3 x4 x5 x6 t0)) := by
  unfold B_Mod_putMap_118
  refine ev_istore_n d_Mod_putMap_118 rfl (by decide) rfl ?_
  refine ev_iload_n d_Mod_putMap_119 rfl rfl ?_
  refine ev_iconst (v := 1) d_Mod_putMap_120 rfl ?_
  refine ev_icmp_ne (tgt := 152) d_Mod_putMap_121 rfl (fun h1 => ?_) (fun h1 => ?_)
  · rw [if_pos h1]
    exact ev_pick [1, 0, 2, 3] rfl (e_B_Mod_putMap_152   r19 r26 hr19 hr26 r t0 x2 x3)
  · rw [if_neg h1]
    refine ev_iload d_Mod_putMap_124 rfl ?_
    refine ev_iload d_Mod_putMap_126 rfl ?_
    refine ev_icmp_eq (tgt := 152) d_Mod_putMap_128 rfl (fun h2 => ?_) (fun h2 => ?_)
    · rw [if_pos h2]
      exact ev_pick [1, 0, 2, 3] rfl (e_B_Mod_putMap_152   r19 r26 hr19 hr26 r t0 x2 x3)
    · rw [if_neg h2]
      refine ev_aload_n d_Mod_putMap_131 rfl rfl ?_
      refine ev_get (v := .ref 18) gi_Mod (ci := 6) rfl rfl 7 (by decide) gw_1008 rfl d_Mod_putMap_132 ?_
      refine ev_iload d_Mod_putMap_135 rfl ?_
      refine ev_aload_n d_Mod_putMap_137 rfl rfl ?_
      refine ev_get (v := .ref 18) gi_Mod (ci := 6) rfl rfl 7 (by decide) gw_1008 rfl d_Mod_putMap_138 ?_
      refine ev_iload d_Mod_putMap_141 rfl ?_
      refine ev_inB (fun h3 => ?_)
      refine ev_iaload rfl (inB_of h3) d_Mod_putMap_143 ?_
      refine ev_iconst (v := 1) d_Mod_putMap_144 rfl ?_
      refine ev_iload_n d_Mod_putMap_145 rfl rfl ?_
      refine ev_bipush (v := 8) d_Mod_putMap_146 rfl ?_
      refine ev_irem d_Mod_putMap_148 (by decide) ?_
      refine ev_ishl d_Mod_putMap_149 ?_
      refine ev_ixor d_Mod_putMap_150 ?_
      refine ev_inB (fun h4 => ?_)
      refine ev_iastore (h2 := (eLV :: (HD d (HF f (HW w (HM m (HS s (HG g (HR (rSByt r (upd (rByt r) x4.toNatClampNeg ((rByt r x4.toNatClampNeg) ^^^ (1 <<< ((x3 - x3 / 8 * 8) &&& 31))))) tl))))))))) rfl (inB_of h4) rfl d_Mod_putMap_151 ?_
      exact ev_pick [1, 0, 2, 3] rfl (e_B_Mod_putMap_152   r19 r26 hr19 hr26 (rSByt r (upd (rByt r) x4.toNatClampNeg ((rByt r x4.toNatClampNeg) ^^^ (1 <<< ((x3 - x3 / 8 * 8) &&& 31))))) t0 x2 x3)
def B_Mod_putMap_113  (r19 : RS → Int32 → Int32 → Option (Unit × RS)) (r26 : RS → Int32 → Int32 → Int32 → Option (Unit × RS)) (r : RS) (x2 : Int32) (x3 : Int32) (x4 : Int32) (x5 : Int32) (x6 : Int32) : Option (Unit × RS) :=
  B_Mod_putMap_118  r19 r26 r x2 x3 x4 x5 x6 1
theorem e_B_Mod_putMap_113 {sc : Nat × (Nat → Int32)} {d : DS} {f : FS} {w : WS} {m : MS} {s : SS} {g : GS} {tl : List mn_E}  (r19 : RS → Int32 → Int32 → Option (Unit × RS)) (r26 : RS → Int32 → Int32 → Int32 → Option (Unit × RS)) (hr19 : ∀ (r : RS) (x1 : Int32) (x2 : Int32), Ev sc 1 12 0 0 M_Mod_putMap 19 [(0, .ref 12), (1, .int x1), (2, .int x2)] [] (eLV :: (HD d (HF f (HW w (HM m (HS s (HG g (HR r tl)))))))) (mapR ouV (fun z => (eLV :: (HD d (HF f (HW w (HM m (HS s (HG g (HR z tl))))))))) (r19 r x1 x2))) (hr26 : ∀ (r : RS) (x1 : Int32) (x2 : Int32) (x3 : Int32), Ev sc 1 12 0 0 M_Mod_putMap 26 [(0, .ref 12), (1, .int x1), (2, .int x2), (3, .int x3)] [] (eLV :: (HD d (HF f (HW w (HM m (HS s (HG g (HR r tl)))))))) (mapR ouV (fun z => (eLV :: (HD d (HF f (HW w (HM m (HS s (HG g (HR z tl))))))))) (r26 r x1 x2 x3))) (r : RS) (x2 : Int32) (x3 : Int32) (x4 : Int32) (x5 : Int32) (x6 : Int32) : Ev sc 1 12 0 0 M_Mod_putMap 113 [(0, .ref 12), (2, .int x2), (3, .int x3), (4, .int x4), (5, .int x5), (6, .int x6)] [] (eLV :: (HD d (HF f (HW w (HM m (HS s (HG g (HR r tl)))))))) (mapR ouV (fun z => (eLV :: (HD d (HF f (HW w (HM m (HS s (HG g (HR z tl))))))))) (B_Mod_putMap_113 r19 r26 r x2 x3 x4 x5 x6)) := by
  unfold B_Mod_putMap_113
  refine ev_iconst (v := 1) d_Mod_putMap_113 rfl ?_
  refine ev_goto (tgt := 118) d_Mod_putMap_114 rfl ?_
  exact ev_pick [0, 1, 2, 3, 4, 5] rfl (e_B_Mod_putMap_118   r19 r26 hr19 hr26 r x2 x3 x4 x5 x6 1)
def B_Mod_putMap_100  (r19 : RS → Int32 → Int32 → Option (Unit × RS)) (r26 : RS → Int32 → Int32 → Int32 → Option (Unit × RS)) (r : RS) (x1 : Int32) (x2 : Int32) (x3 : Int32) (x4 : Int32) (x5 : Int32) (t0 : Int32) : Option (Unit × RS) :=
  if ¬ x1 = 0 then (B_Mod_putMap_113  r19 r26 r x2 x3 x4 x5 t0) else (if x5 = t0 then (B_Mod_putMap_118  r19 r26 r x2 x3 x4 x5 t0 0) else (B_Mod_putMap_113  r19 r26 r x2 x3 x4 x5 t0))
theorem e_B_Mod_putMap_100 {sc : Nat × (Nat → Int32)} {d : DS} {f : FS} {w : WS} {m : MS} {s : SS} {g : GS} {tl : List mn_E}  (r19 : RS → Int32 → Int32 → Option (Unit × RS)) (r26 : RS → Int32 → Int32 → Int32 → Option (Unit × RS)) (hr19 : ∀ (r : RS) (x1 : Int32) (x2 : Int32), Ev sc 1 12 0 0 M_Mod_putMap 19 [(0, .ref 12), (1, .int x1), (2, .int x2)] [] (eLV :: (HD d (HF f (HW w (HM m (HS s (HG g (HR r tl)))))))) (mapR ouV (fun z => (eLV :: (HD d (HF f (HW w (HM m (HS s (HG g (HR z tl))))))))) (r19 r x1 x2))) (hr26 : ∀ (r : RS) (x1 : Int32) (x2 : Int32) (x3 : Int32), Ev sc 1 12 0 0 M_Mod_putMap 26 [(0, .ref 12), (1, .int x1), (2, .int x2), (3, .int x3)] [] (eLV :: (HD d (HF f (HW w (HM m (HS s (HG g (HR r tl)))))))) (mapR ouV (fun z => (eLV :: (HD d (HF f (HW w (HM m (HS s (HG g (HR z tl))))))))) (r26 r x1 x2 x3))) (r : RS) (x1 : Int32) (x2 : Int32) (x3 : Int32) (x4 : Int32) (x5 : Int32) (t0 : Int32) : Ev sc 1 12 0 0 M_Mod_putMap 100 [(0, .ref 12), (1, .int x1), (2, .int x2), (3, .int x3), (4, .int x4), (5, .int x5)] [.int t0] (eLV :: (HD d (HF f (HW w (HM m (HS s (HG g (HR r tl)))))))) (mapR ouV (fun z => (eLV :: (HD d (HF f (HW w (HM m (HS s (HG g (HR z tl))))))))) (B_Mod_putMap_100 r19 r26 r x1 x2 x3 x4 x5 t0)) := by
  unfold B_Mod_putMap_100
  refine ev_istore d_Mod_putMap_100 (by decide) rfl ?_
  refine ev_iload_n d_Mod_putMap_102 rfl rfl ?_
  refine ev_if_ne (tgt := 113) d_Mod_putMap_103 rfl (fun h1 => ?_) (fun h1 => ?_)
  · rw [if_pos h1]
    exact ev_pick [1, 3, 4, 5, 6, 0] rfl (e_B_Mod_putMap_113   r19 r26 hr19 hr26 r x2 x3 x4 x5 t0)
  · rw [if_neg h1]
    refine ev_iload d_Mod_putMap_106 rfl ?_
    refine ev_iload d_Mod_putMap_108 rfl ?_
    refine ev_icmp_eq (tgt := 117) d_Mod_putMap_110 rfl (fun h2 => ?_) (fun h2 => ?_)
    · rw [if_pos h2]
      refine ev_iconst (v := 0) d_Mod_putMap_117 rfl ?_
      exact ev_pick [1, 3, 4, 5, 6, 0] rfl (e_B_Mod_putMap_118   r19 r26 hr19 hr26 r x2 x3 x4 x5 t0 0)
    · rw [if_neg h2]
      exact ev_pick [1, 3, 4, 5, 6, 0] rfl (e_B_Mod_putMap_113   r19 r26 hr19 hr26 r x2 x3 x4 x5 t0)
def B_Mod_putMap_69  (r19 : RS → Int32 → Int32 → Option (Unit × RS)) (r26 : RS → Int32 → Int32 → Int32 → Option (Unit × RS)) (r : RS) (x1 : Int32) (x2 : Int32) (x3 : Int32) (x4 : Int32) (t0 : Int32) : Option (Unit × RS) :=
  if inB x3 40 then (if ¬ (rMar r x3.toNatClampNeg) = 0 then (if inB x3 40 then (if ¬ (rMar r x3.toNatClampNeg) = 3 then (B_Mod_putMap_100  r19 r26 r x1 x2 x3 x4 t0 0) else (B_Mod_putMap_100  r19 r26 r x1 x2 x3 x4 t0 1)) else none) else (B_Mod_putMap_100  r19 r26 r x1 x2 x3 x4 t0 t0)) else none
theorem e_B_Mod_putMap_69 {sc : Nat × (Nat → Int32)} {d : DS} {f : FS} {w : WS} {m : MS} {s : SS} {g : GS} {tl : List mn_E}  (r19 : RS → Int32 → Int32 → Option (Unit × RS)) (r26 : RS → Int32 → Int32 → Int32 → Option (Unit × RS)) (hr19 : ∀ (r : RS) (x1 : Int32) (x2 : Int32), Ev sc 1 12 0 0 M_Mod_putMap 19 [(0, .ref 12), (1, .int x1), (2, .int x2)] [] (eLV :: (HD d (HF f (HW w (HM m (HS s (HG g (HR r tl)))))))) (mapR ouV (fun z => (eLV :: (HD d (HF f (HW w (HM m (HS s (HG g (HR z tl))))))))) (r19 r x1 x2))) (hr26 : ∀ (r : RS) (x1 : Int32) (x2 : Int32) (x3 : Int32), Ev sc 1 12 0 0 M_Mod_putMap 26 [(0, .ref 12), (1, .int x1), (2, .int x2), (3, .int x3)] [] (eLV :: (HD d (HF f (HW w (HM m (HS s (HG g (HR r tl)))))))) (mapR ouV (fun z => (eLV :: (HD d (HF f (HW w (HM m (HS s (HG g (HR z tl))))))))) (r26 r x1 x2 x3))) (r : RS) (x1 : Int32) (x2 : Int32) (x3 : Int32) (x4 : Int32) (t0 : Int32) : Ev sc 1 12 0 0 M_Mod_putMap 69 [(0, .ref 12), (1, .int x1), (2, .int x2), (3, .int x3), (4, .int x4)] [.int t0] (eLV :: (HD d (HF f (HW w (HM m (HS s (HG g (HR r tl)))))))) (mapR ouV (fun z => (eLV :: (HD d (HF f (HW w (HM m (HS s (HG g (HR z tl))))))))) (B_Mod_putMap_69 r19 r26 r x1 x2 x3 x4 t0)) := by
  unfold B_Mod_putMap_69
  refine ev_istore d_Mod_putMap_69 (by decide) rfl ?_
  refine ev_aload_n d_Mod_putMap_71 rfl rfl ?_
  refine ev_get (v := .ref 21) gi_Mod (ci := 6) rfl rfl 15 (by decide) gw_1016 rfl d_Mod_putMap_72 ?_
  refine ev_iload_n d_Mod_putMap_75 rfl rfl ?_
  refine ev_inB (fun h1 => ?_)
  refine ev_iaload rfl (inB_of h1) d_Mod_putMap_76 ?_
  refine ev_if_ne (tgt := 85) d_Mod_putMap_77 rfl (fun h2 => ?_) (fun h2 => ?_)
  · rw [if_pos h2]
    refine ev_aload_n d_Mod_putMap_85 rfl rfl ?_
    refine ev_get (v := .ref 21) gi_Mod (ci := 6) rfl rfl 15 (by decide) gw_1016 rfl d_Mod_putMap_86 ?_
    refine ev_iload_n d_Mod_putMap_89 rfl rfl ?_
    refine ev_inB (fun h3 => ?_)
    refine ev_iaload rfl (inB_of h3) d_Mod_putMap_90 ?_
    refine ev_iconst (v := 3) d_Mod_putMap_91 rfl ?_
    refine ev_icmp_ne (tgt := 99) d_Mod_putMap_92 rfl (fun h4 => ?_) (fun h4 => ?_)
    · rw [if_pos h4]
      refine ev_iconst (v := 0) d_Mod_putMap_99 rfl ?_
      exact ev_pick [1, 2, 3, 4, 5, 0] rfl (e_B_Mod_putMap_100   r19 r26 hr19 hr26 r x1 x2 x3 x4 t0 0)
    · rw [if_neg h4]
      refine ev_iconst (v := 1) d_Mod_putMap_95 rfl ?_
      refine ev_goto (tgt := 100) d_Mod_putMap_96 rfl ?_
      exact ev_pick [1, 2, 3, 4, 5, 0] rfl (e_B_Mod_putMap_100   r19 r26 hr19 hr26 r x1 x2 x3 x4 t0 1)
  · rw [if_neg h2]
    refine ev_iload d_Mod_putMap_80 rfl ?_
    refine ev_goto (tgt := 100) d_Mod_putMap_82 rfl ?_
    exact ev_pick [1, 2, 3, 4, 5, 0] rfl (e_B_Mod_putMap_100   r19 r26 hr19 hr26 r x1 x2 x3 x4 t0 t0)
def L_Mod_putMap_26  (r19 : RS → Int32 → Int32 → Option (Unit × RS)) : Nat → RS → Int32 → Int32 → Int32 → Option (Unit × RS)
  | 0, _, _, _, _ => none
  | n + 1, r, x1, x2, x3 =>
  if 40 ≤ x3 then (if ¬ x2 = 0 then (B_Mod_putMap_174  r19 r x1 x2) else (if x1 = 0 then (some ((), r)) else (B_Mod_putMap_170  r19 ((f_Mod_writes r).2) x1 x2 ((f_Mod_writes r).1)))) else (if inB ((8 * (rMap r)) + (x3 / 8)) 320 then (if ¬ (((rByt r ((8 * (rMap r)) + (x3 / 8)).toNatClampNeg) >>> ((x3 - x3 / 8 * 8) &&& 31)) &&& 1) = 1 then (B_Mod_putMap_69  r19 (L_Mod_putMap_26 r19 n) r x1 x2 x3 ((8 * (rMap r)) + (x3 / 8)) 0) else (B_Mod_putMap_69  r19 (L_Mod_putMap_26 r19 n) r x1 x2 x3 ((8 * (rMap r)) + (x3 / 8)) 1)) else none)
theorem e_L_Mod_putMap_26 {sc : Nat × (Nat → Int32)} {d : DS} {f : FS} {w : WS} {m : MS} {s : SS} {g : GS} {tl : List mn_E}  (r19 : RS → Int32 → Int32 → Option (Unit × RS)) (hr19 : ∀ (r : RS) (x1 : Int32) (x2 : Int32), Ev sc 1 12 0 0 M_Mod_putMap 19 [(0, .ref 12), (1, .int x1), (2, .int x2)] [] (eLV :: (HD d (HF f (HW w (HM m (HS s (HG g (HR r tl)))))))) (mapR ouV (fun z => (eLV :: (HD d (HF f (HW w (HM m (HS s (HG g (HR z tl))))))))) (r19 r x1 x2))) : ∀ (n : Nat) (r : RS) (x1 : Int32) (x2 : Int32) (x3 : Int32), Ev sc 1 12 0 0 M_Mod_putMap 26 [(0, .ref 12), (1, .int x1), (2, .int x2), (3, .int x3)] [] (eLV :: (HD d (HF f (HW w (HM m (HS s (HG g (HR r tl)))))))) (mapR ouV (fun z => (eLV :: (HD d (HF f (HW w (HM m (HS s (HG g (HR z tl))))))))) (L_Mod_putMap_26  r19 n r x1 x2 x3)) := by
  intro n
  induction n with
  | zero => intro r x1 x2 x3; exact ev_none
  | succ n ih =>
    intro r x1 x2 x3
    rw [L_Mod_putMap_26]
    refine ev_iload_n d_Mod_putMap_26 rfl rfl ?_
    refine ev_bipush (v := 40) d_Mod_putMap_27 rfl ?_
    refine ev_icmp_ge (tgt := 158) d_Mod_putMap_29 rfl (fun h1 => ?_) (fun h1 => ?_)
    · rw [if_pos h1]
      refine ev_iload_n d_Mod_putMap_158 rfl rfl ?_
      refine ev_if_ne (tgt := 174) d_Mod_putMap_159 rfl (fun h2 => ?_) (fun h2 => ?_)
      · rw [if_pos h2]
        exact ev_pick [0, 1, 2] rfl (e_B_Mod_putMap_174   r19 hr19 r x1 x2)
      · rw [if_neg h2]
        refine ev_iload_n d_Mod_putMap_162 rfl rfl ?_
        refine ev_if_eq (tgt := 173) d_Mod_putMap_163 rfl (fun h3 => ?_) (fun h3 => ?_)
        · rw [if_pos h3]
          exact ev_vret rfl d_Mod_putMap_173
        · rw [if_neg h3]
          refine ev_aload_n d_Mod_putMap_166 rfl rfl ?_
          refine ev_callr (Mc := M_Mod_writes) (v := some (.int ((f_Mod_writes r).1))) (h1 := (eLV :: (HD d (HF f (HW w (HM m (HS s (HG g (HR ((f_Mod_writes r).2) tl))))))))) (k2 := 0) (n2 := 0) (inv_V (q := 12) (av := []) (rest := []) rfl (ci := 6) rfl d_Mod_putMap_167 gw_1163 gw_1165 gw_64 mw_Mod_writes nh_Mod_writes pn_Mod_writes rfl) d_Mod_putMap_167 pl_Mod_writes (Nat.le_of_ble_eq_true rfl) (Nat.le_of_ble_eq_true rfl) (Nat.le_of_ble_eq_true rfl) rfl rfl (e_f_Mod_writes (tl := tl) (d := d) (f := f) (w := w) (m := m) (s := s) (g := g)  r ) (Or.inl (len1 (lenHD (lenHF (lenHW (lenHM (lenHS (lenHG (lenHR rfl))))))))) ?_
          exact ev_pick [0, 1, 2] rfl (e_B_Mod_putMap_170   r19 hr19 ((f_Mod_writes r).2) x1 x2 ((f_Mod_writes r).1))
    · rw [if_neg h1]
      refine ev_bipush (v := 8) d_Mod_putMap_32 rfl ?_
      refine ev_aload_n d_Mod_putMap_34 rfl rfl ?_
      refine ev_get (v := .int (rMap r)) gi_Mod (ci := 6) rfl rfl 14 (by decide) gw_1015 rfl d_Mod_putMap_35 ?_
      refine ev_imul d_Mod_putMap_38 ?_
      refine ev_iload_n d_Mod_putMap_39 rfl rfl ?_
      refine ev_bipush (v := 8) d_Mod_putMap_40 rfl ?_
      refine ev_idiv d_Mod_putMap_42 (by decide) ?_
      refine ev_iadd d_Mod_putMap_43 ?_
      refine ev_istore d_Mod_putMap_44 (by decide) rfl ?_
      refine ev_aload_n d_Mod_putMap_46 rfl rfl ?_
      refine ev_get (v := .ref 18) gi_Mod (ci := 6) rfl rfl 7 (by decide) gw_1008 rfl d_Mod_putMap_47 ?_
      refine ev_iload d_Mod_putMap_50 rfl ?_
      refine ev_inB (fun h4 => ?_)
      refine ev_iaload rfl (inB_of h4) d_Mod_putMap_52 ?_
      refine ev_iload_n d_Mod_putMap_53 rfl rfl ?_
      refine ev_bipush (v := 8) d_Mod_putMap_54 rfl ?_
      refine ev_irem d_Mod_putMap_56 (by decide) ?_
      refine ev_ishr d_Mod_putMap_57 ?_
      refine ev_iconst (v := 1) d_Mod_putMap_58 rfl ?_
      refine ev_iand d_Mod_putMap_59 ?_
      refine ev_iconst (v := 1) d_Mod_putMap_60 rfl ?_
      refine ev_icmp_ne (tgt := 68) d_Mod_putMap_61 rfl (fun h5 => ?_) (fun h5 => ?_)
      · rw [if_pos h5]
        refine ev_iconst (v := 0) d_Mod_putMap_68 rfl ?_
        exact ev_pick [1, 2, 3, 4, 0] rfl (e_B_Mod_putMap_69   r19 (L_Mod_putMap_26 r19 n) hr19 ih r x1 x2 x3 ((8 * (rMap r)) + (x3 / 8)) 0)
      · rw [if_neg h5]
        refine ev_iconst (v := 1) d_Mod_putMap_64 rfl ?_
        refine ev_goto (tgt := 69) d_Mod_putMap_65 rfl ?_
        exact ev_pick [1, 2, 3, 4, 0] rfl (e_B_Mod_putMap_69   r19 (L_Mod_putMap_26 r19 n) hr19 ih r x1 x2 x3 ((8 * (rMap r)) + (x3 / 8)) 1)
def L_Mod_putMap_19   : Nat → RS → Int32 → Int32 → Option (Unit × RS)
  | 0, _, _, _ => none
  | n + 1, r, x1, x2 =>
  if 2 ≤ x2 then (some ((), r)) else (L_Mod_putMap_26  (L_Mod_putMap_19 n) 1000 r x1 x2 0)
theorem e_L_Mod_putMap_19 {sc : Nat × (Nat → Int32)} {d : DS} {f : FS} {w : WS} {m : MS} {s : SS} {g : GS} {tl : List mn_E}    : ∀ (n : Nat) (r : RS) (x1 : Int32) (x2 : Int32), Ev sc 1 12 0 0 M_Mod_putMap 19 [(0, .ref 12), (1, .int x1), (2, .int x2)] [] (eLV :: (HD d (HF f (HW w (HM m (HS s (HG g (HR r tl)))))))) (mapR ouV (fun z => (eLV :: (HD d (HF f (HW w (HM m (HS s (HG g (HR z tl))))))))) (L_Mod_putMap_19   n r x1 x2)) := by
  intro n
  induction n with
  | zero => intro r x1 x2; exact ev_none
  | succ n ih =>
    intro r x1 x2
    rw [L_Mod_putMap_19]
    refine ev_iload_n d_Mod_putMap_19 rfl rfl ?_
    refine ev_iconst (v := 2) d_Mod_putMap_20 rfl ?_
    refine ev_icmp_ge (tgt := 180) d_Mod_putMap_21 rfl (fun h1 => ?_) (fun h1 => ?_)
    · rw [if_pos h1]
      exact ev_vret rfl d_Mod_putMap_180
    · rw [if_neg h1]
      refine ev_iconst (v := 0) d_Mod_putMap_24 rfl ?_
      refine ev_istore_n d_Mod_putMap_25 rfl (by decide) rfl ?_
      exact ev_pick [1, 2, 3, 0] rfl (e_L_Mod_putMap_26   (L_Mod_putMap_19 n) ih 1000 r x1 x2 0)
def f_Mod_putMap   (r : RS) : Option (Unit × RS) :=
  if (rMap r) < 0 then (some ((), r)) else (if (rFau r) ≤ 0 then (L_Mod_putMap_19   1000 r 0 0) else (some ((), r)))
theorem e_f_Mod_putMap {sc : Nat × (Nat → Int32)} {d : DS} {f : FS} {w : WS} {m : MS} {s : SS} {g : GS} {tl : List mn_E}    (r : RS) : Ev sc 1 12 0 0 M_Mod_putMap 0 [(0, .ref 12)] [] (eLV :: (HD d (HF f (HW w (HM m (HS s (HG g (HR r tl)))))))) (mapR ouV (fun z => (eLV :: (HD d (HF f (HW w (HM m (HS s (HG g (HR z tl))))))))) (f_Mod_putMap r)) := by
  unfold f_Mod_putMap
  refine ev_aload_n d_Mod_putMap_0 rfl rfl ?_
  refine ev_get (v := .int (rMap r)) gi_Mod (ci := 6) rfl rfl 14 (by decide) gw_1015 rfl d_Mod_putMap_1 ?_
  refine ev_if_lt (tgt := 14) d_Mod_putMap_4 rfl (fun h1 => ?_) (fun h1 => ?_)
  · rw [if_pos h1]
    exact ev_vret rfl d_Mod_putMap_14
  · rw [if_neg h1]
    refine ev_aload_n d_Mod_putMap_7 rfl rfl ?_
    refine ev_get (v := .int (rFau r)) gi_Mod (ci := 6) rfl rfl 1 (by decide) gw_1002 rfl d_Mod_putMap_8 ?_
    refine ev_if_le (tgt := 15) d_Mod_putMap_11 rfl (fun h2 => ?_) (fun h2 => ?_)
    · rw [if_pos h2]
      refine ev_iconst (v := 0) d_Mod_putMap_15 rfl ?_
      refine ev_istore_n d_Mod_putMap_16 rfl (by decide) rfl ?_
      refine ev_iconst (v := 0) d_Mod_putMap_17 rfl ?_
      refine ev_istore_n d_Mod_putMap_18 rfl (by decide) rfl ?_
      exact ev_pick [2, 1, 0] rfl (e_L_Mod_putMap_19     1000 r 0 0)
    · rw [if_neg h2]
      exact ev_vret rfl d_Mod_putMap_14
