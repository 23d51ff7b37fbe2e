def B_Mod_append_132   (r : RS) : Option (Unit × RS) :=
  some ((), r)
theorem e_B_Mod_append_132 {sc : Nat × (Nat → Int32)} {d : DS} {f : FS} {w : WS} {m : MS} {s : SS} {g : GS} {tl : List mn_E}    (r : RS) : Ev sc 2 30 0 0 M_Mod_append 132 [] [] (eLV :: (HD d (HF f (HW w (HM m (HS s (HG g (HR r tl)))))))) (mapR ouV (fun z => (eLV :: (HD d (HF f (HW w (HM m (HS s (HG g (HR z tl))))))))) (B_Mod_append_132 r)) := by
  unfold B_Mod_append_132
  exact ev_vret rfl d_Mod_append_132
def B_Mod_append_117   (r : RS) (x1 : Int32) (x3 : Int32) (t0 : Int32) : Option (Unit × RS) :=
  if t0 = 0 then (B_Mod_append_132   r) else (if inB ((8 * x1) + 3) 320 then (B_Mod_append_132   (rSByt r (upd (rByt r) ((8 * x1) + 3).toNatClampNeg x3))) else none)
theorem e_B_Mod_append_117 {sc : Nat × (Nat → Int32)} {d : DS} {f : FS} {w : WS} {m : MS} {s : SS} {g : GS} {tl : List mn_E}    (r : RS) (x1 : Int32) (x3 : Int32) (t0 : Int32) : Ev sc 2 30 0 0 M_Mod_append 117 [(0, .ref 12), (1, .int x1), (3, .int x3)] [.int t0] (eLV :: (HD d (HF f (HW w (HM m (HS s (HG g (HR r tl)))))))) (mapR ouV (fun z => (eLV :: (HD d (HF f (HW w (HM m (HS s (HG g (HR z tl))))))))) (B_Mod_append_117 r x1 x3 t0)) := by
  unfold B_Mod_append_117
  refine ev_if_eq (tgt := 132) d_Mod_append_117 rfl (fun h1 => ?_) (fun h1 => ?_)
  · rw [if_pos h1]
    exact ev_pick [] rfl (e_B_Mod_append_132     r)
  · rw [if_neg h1]
    refine ev_aload_n d_Mod_append_120 rfl rfl ?_
    refine ev_get (v := .ref 18) gi_Mod (ci := 6) rfl rfl 7 (by decide) gw_1008 rfl d_Mod_append_121 ?_
    refine ev_bipush (v := 8) d_Mod_append_124 rfl ?_
    refine ev_iload_n d_Mod_append_126 rfl rfl ?_
    refine ev_imul d_Mod_append_127 ?_
    refine ev_iconst (v := 3) d_Mod_append_128 rfl ?_
    refine ev_iadd d_Mod_append_129 ?_
    refine ev_iload_n d_Mod_append_130 rfl rfl ?_
    refine ev_inB (fun h2 => ?_)
    refine ev_iastore (h2 := (eLV :: (HD d (HF f (HW w (HM m (HS s (HG g (HR (rSByt r (upd (rByt r) ((8 * x1) + 3).toNatClampNeg x3)) tl))))))))) rfl (inB_of h2) rfl d_Mod_append_131 ?_
    exact ev_pick [] rfl (e_B_Mod_append_132     (rSByt r (upd (rByt r) ((8 * x1) + 3).toNatClampNeg x3)))
def B_Mod_append_108   (r : RS) (x1 : Int32) (x2 : Int32) (x3 : Int32) : Option (Unit × RS) :=
  if x2 = x1 then (B_Mod_append_132   r) else (B_Mod_append_117   ((f_Mod_writes r).2) x1 x3 ((f_Mod_writes r).1))
theorem e_B_Mod_append_108 {sc : Nat × (Nat → Int32)} {d : DS} {f : FS} {w : WS} {m : MS} {s : SS} {g : GS} {tl : List mn_E}    (r : RS) (x1 : Int32) (x2 : Int32) (x3 : Int32) : Ev sc 2 30 0 0 M_Mod_append 108 [(0, .ref 12), (1, .int x1), (2, .int x2), (3, .int x3)] [] (eLV :: (HD d (HF f (HW w (HM m (HS s (HG g (HR r tl)))))))) (mapR ouV (fun z => (eLV :: (HD d (HF f (HW w (HM m (HS s (HG g (HR z tl))))))))) (B_Mod_append_108 r x1 x2 x3)) := by
  unfold B_Mod_append_108
  refine ev_iload_n d_Mod_append_108 rfl rfl ?_
  refine ev_iload_n d_Mod_append_109 rfl rfl ?_
  refine ev_icmp_eq (tgt := 132) d_Mod_append_110 rfl (fun h1 => ?_) (fun h1 => ?_)
  · rw [if_pos h1]
    exact ev_pick [] rfl (e_B_Mod_append_132     r)
  · rw [if_neg h1]
    refine ev_aload_n d_Mod_append_113 rfl rfl ?_
    refine ev_callr (Mc := M_Mod_writes) (v := some (.int ((f_Mod_writes r).1))) (h1 := (eLV :: (HD d (HF f (HW w (HM m (HS s (HG g (HR ((f_Mod_writes r).2) tl))))))))) (k2 := 0) (n2 := 0) (inv_V (q := 12) (av := []) (rest := []) rfl (ci := 6) rfl d_Mod_append_114 gw_1163 gw_1165 gw_64 mw_Mod_writes nh_Mod_writes pn_Mod_writes rfl) d_Mod_append_114 pl_Mod_writes (Nat.le_of_ble_eq_true rfl) (Nat.le_of_ble_eq_true rfl) (Nat.le_of_ble_eq_true rfl) rfl rfl (e_f_Mod_writes (tl := tl) (d := d) (f := f) (w := w) (m := m) (s := s) (g := g)  r ) (Or.inl (len1 (lenHD (lenHF (lenHW (lenHM (lenHS (lenHG (lenHR rfl))))))))) ?_
    exact ev_pick [0, 1, 3] rfl (e_B_Mod_append_117     ((f_Mod_writes r).2) x1 x3 ((f_Mod_writes r).1))
def B_Mod_append_91   (r : RS) (x1 : Int32) (x2 : Int32) (x3 : Int32) : Option (Unit × RS) :=
  if ¬ x2 = x1 then (B_Mod_append_108   r x1 x2 x3) else (if inB ((8 * x1) + 3) 320 then (B_Mod_append_108   (rSByt r (upd (rByt r) ((8 * x1) + 3).toNatClampNeg x3)) x1 x2 x3) else none)
theorem e_B_Mod_append_91 {sc : Nat × (Nat → Int32)} {d : DS} {f : FS} {w : WS} {m : MS} {s : SS} {g : GS} {tl : List mn_E}    (r : RS) (x1 : Int32) (x2 : Int32) (x3 : Int32) : Ev sc 2 30 0 0 M_Mod_append 91 [(0, .ref 12), (1, .int x1), (2, .int x2), (3, .int x3)] [] (eLV :: (HD d (HF f (HW w (HM m (HS s (HG g (HR r tl)))))))) (mapR ouV (fun z => (eLV :: (HD d (HF f (HW w (HM m (HS s (HG g (HR z tl))))))))) (B_Mod_append_91 r x1 x2 x3)) := by
  unfold B_Mod_append_91
  refine ev_iload_n d_Mod_append_91 rfl rfl ?_
  refine ev_iload_n d_Mod_append_92 rfl rfl ?_
  refine ev_icmp_ne (tgt := 108) d_Mod_append_93 rfl (fun h1 => ?_) (fun h1 => ?_)
  · rw [if_pos h1]
    exact ev_pick [0, 1, 2, 3] rfl (e_B_Mod_append_108     r x1 x2 x3)
  · rw [if_neg h1]
    refine ev_aload_n d_Mod_append_96 rfl rfl ?_
    refine ev_get (v := .ref 18) gi_Mod (ci := 6) rfl rfl 7 (by decide) gw_1008 rfl d_Mod_append_97 ?_
    refine ev_bipush (v := 8) d_Mod_append_100 rfl ?_
    refine ev_iload_n d_Mod_append_102 rfl rfl ?_
    refine ev_imul d_Mod_append_103 ?_
    refine ev_iconst (v := 3) d_Mod_append_104 rfl ?_
    refine ev_iadd d_Mod_append_105 ?_
    refine ev_iload_n d_Mod_append_106 rfl rfl ?_
    refine ev_inB (fun h2 => ?_)
    refine ev_iastore (h2 := (eLV :: (HD d (HF f (HW w (HM m (HS s (HG g (HR (rSByt r (upd (rByt r) ((8 * x1) + 3).toNatClampNeg x3)) tl))))))))) rfl (inB_of h2) rfl d_Mod_append_107 ?_
    exact ev_pick [0, 1, 2, 3] rfl (e_B_Mod_append_108     (rSByt r (upd (rByt r) ((8 * x1) + 3).toNatClampNeg x3)) x1 x2 x3)
def B_Mod_append_81   (r : RS) (x1 : Int32) (x2 : Int32) (x3 : Int32) (t0 : Int32) : Option (Unit × RS) :=
  if t0 = 0 then (B_Mod_append_108   r x1 x2 x3) else (if inB x2 40 then (B_Mod_append_91   (rSNex r (upd (rNex r) x2.toNatClampNeg x3)) x1 x2 x3) else none)
theorem e_B_Mod_append_81 {sc : Nat × (Nat → Int32)} {d : DS} {f : FS} {w : WS} {m : MS} {s : SS} {g : GS} {tl : List mn_E}    (r : RS) (x1 : Int32) (x2 : Int32) (x3 : Int32) (t0 : Int32) : Ev sc 2 30 0 0 M_Mod_append 81 [(0, .ref 12), (1, .int x1), (2, .int x2), (3, .int x3)] [.int t0] (eLV :: (HD d (HF f (HW w (HM m (HS s (HG g (HR r tl)))))))) (mapR ouV (fun z => (eLV :: (HD d (HF f (HW w (HM m (HS s (HG g (HR z tl))))))))) (B_Mod_append_81 r x1 x2 x3 t0)) := by
  unfold B_Mod_append_81
  refine ev_if_eq (tgt := 108) d_Mod_append_81 rfl (fun h1 => ?_) (fun h1 => ?_)
  · rw [if_pos h1]
    exact ev_pick [0, 1, 2, 3] rfl (e_B_Mod_append_108     r x1 x2 x3)
  · rw [if_neg h1]
    refine ev_aload_n d_Mod_append_84 rfl rfl ?_
    refine ev_get (v := .ref 16) gi_Mod (ci := 6) rfl rfl 5 (by decide) gw_1006 rfl d_Mod_append_85 ?_
    refine ev_iload_n d_Mod_append_88 rfl rfl ?_
    refine ev_iload_n d_Mod_append_89 rfl rfl ?_
    refine ev_inB (fun h2 => ?_)
    refine ev_iastore (h2 := (eLV :: (HD d (HF f (HW w (HM m (HS s (HG g (HR (rSNex r (upd (rNex r) x2.toNatClampNeg x3)) tl))))))))) rfl (inB_of h2) rfl d_Mod_append_90 ?_
    exact ev_pick [0, 1, 2, 3] rfl (e_B_Mod_append_91     (rSNex r (upd (rNex r) x2.toNatClampNeg x3)) x1 x2 x3)
def B_Mod_append_77   (r : RS) (x1 : Int32) (x2 : Int32) (x3 : Int32) : Option (Unit × RS) :=
  B_Mod_append_81   ((f_Mod_writes r).2) x1 x2 x3 ((f_Mod_writes r).1)
theorem e_B_Mod_append_77 {sc : Nat × (Nat → Int32)} {d : DS} {f : FS} {w : WS} {m : MS} {s : SS} {g : GS} {tl : List mn_E}    (r : RS) (x1 : Int32) (x2 : Int32) (x3 : Int32) : Ev sc 2 30 0 0 M_Mod_append 77 [(0, .ref 12), (1, .int x1), (2, .int x2), (3, .int x3)] [] (eLV :: (HD d (HF f (HW w (HM m (HS s (HG g (HR r tl)))))))) (mapR ouV (fun z => (eLV :: (HD d (HF f (HW w (HM m (HS s (HG g (HR z tl))))))))) (B_Mod_append_77 r x1 x2 x3)) := by
  unfold B_Mod_append_77
  refine ev_aload_n d_Mod_append_77 rfl rfl ?_
  refine ev_callr (Mc := M_Mod_writes) (v := some (.int ((f_Mod_writes r).1))) (h1 := (eLV :: (HD d (HF f (HW w (HM m (HS s (HG g (HR ((f_Mod_writes r).2) tl))))))))) (k2 := 0) (n2 := 0) (inv_V (q := 12) (av := []) (rest := []) rfl (ci := 6) rfl d_Mod_append_78 gw_1163 gw_1165 gw_64 mw_Mod_writes nh_Mod_writes pn_Mod_writes rfl) d_Mod_append_78 pl_Mod_writes (Nat.le_of_ble_eq_true rfl) (Nat.le_of_ble_eq_true rfl) (Nat.le_of_ble_eq_true rfl) rfl rfl (e_f_Mod_writes (tl := tl) (d := d) (f := f) (w := w) (m := m) (s := s) (g := g)  r ) (Or.inl (len1 (lenHD (lenHF (lenHW (lenHM (lenHS (lenHG (lenHR rfl))))))))) ?_
  exact ev_pick [0, 1, 2, 3] rfl (e_B_Mod_append_81     ((f_Mod_writes r).2) x1 x2 x3 ((f_Mod_writes r).1))
def B_Mod_append_57   (r : RS) (x1 : Int32) (x2 : Int32) (x3 : Int32) (x4 : Int32) (x5 : Int32) (x6 : Int32) (x7 : Int32) : Option (Unit × RS) :=
  if ¬ x4 = 4 then (B_Mod_append_77   r x1 x2 x3) else (bnd (f_Mod_setEntry r (8 * x3) x5 x6 x7) (fun q => B_Mod_append_77   q.2 x1 x2 x3))
theorem e_B_Mod_append_57 {sc : Nat × (Nat → Int32)} {d : DS} {f : FS} {w : WS} {m : MS} {s : SS} {g : GS} {tl : List mn_E}    (r : RS) (x1 : Int32) (x2 : Int32) (x3 : Int32) (x4 : Int32) (x5 : Int32) (x6 : Int32) (x7 : Int32) : Ev sc 2 30 0 0 M_Mod_append 57 [(0, .ref 12), (1, .int x1), (2, .int x2), (3, .int x3), (4, .int x4), (5, .int x5), (6, .int x6), (7, .int x7)] [] (eLV :: (HD d (HF f (HW w (HM m (HS s (HG g (HR r tl)))))))) (mapR ouV (fun z => (eLV :: (HD d (HF f (HW w (HM m (HS s (HG g (HR z tl))))))))) (B_Mod_append_57 r x1 x2 x3 x4 x5 x6 x7)) := by
  unfold B_Mod_append_57
  refine ev_iload d_Mod_append_57 rfl ?_
  refine ev_iconst (v := 4) d_Mod_append_59 rfl ?_
  refine ev_icmp_ne (tgt := 77) d_Mod_append_60 rfl (fun h1 => ?_) (fun h1 => ?_)
  · rw [if_pos h1]
    exact ev_pick [0, 1, 2, 3] rfl (e_B_Mod_append_77     r x1 x2 x3)
  · rw [if_neg h1]
    refine ev_aload_n d_Mod_append_63 rfl rfl ?_
    refine ev_bipush (v := 8) d_Mod_append_64 rfl ?_
    refine ev_iload_n d_Mod_append_66 rfl rfl ?_
    refine ev_imul d_Mod_append_67 ?_
    refine ev_iload d_Mod_append_68 rfl ?_
    refine ev_iload d_Mod_append_70 rfl ?_
    refine ev_iload d_Mod_append_72 rfl ?_
    refine ev_callB (rc := (f_Mod_setEntry r (8 * x3) x5 x6 x7)) (ou := ouV) (Hs := (fun z => (eLV :: (HD d (HF f (HW w (HM m (HS s (HG g (HR z tl)))))))))) (inv_V (q := 12) (av := [.int (8 * x3), .int x5, .int x6, .int x7]) (rest := []) rfl (ci := 6) rfl d_Mod_append_74 gw_1175 gw_1177 gw_67 mw_Mod_setEntry nh_Mod_setEntry pn_Mod_setEntry rfl) d_Mod_append_74 pl_Mod_setEntry (Nat.le_of_ble_eq_true rfl) (Nat.le_of_ble_eq_true rfl) (Nat.le_of_ble_eq_true rfl) (e_f_Mod_setEntry (tl := tl) (d := d) (f := f) (w := w) (m := m) (s := s) (g := g)  r (8 * x3) x5 x6 x7) (fun _ => (len1 (lenHD (lenHF (lenHW (lenHM (lenHS (lenHG (lenHR rfl))))))))) (fun v z h2 => ⟨_, rfl, ?_⟩)
    exact ev_pick [0, 1, 2, 3] rfl (e_B_Mod_append_77     z x1 x2 x3)
def B_Mod_append_40   (r : RS) (x1 : Int32) (x2 : Int32) (x3 : Int32) (x4 : Int32) (x5 : Int32) (x6 : Int32) (x7 : Int32) : Option (Unit × RS) :=
  if ¬ x4 = 1 then (B_Mod_append_57   r x1 x2 x3 x4 x5 x6 x7) else (if inB (8 * x3) 320 then (B_Mod_append_57   (rSByt r (upd (rByt r) (8 * x3).toNatClampNeg x5)) x1 x2 x3 x4 x5 x6 x7) else none)
theorem e_B_Mod_append_40 {sc : Nat × (Nat → Int32)} {d : DS} {f : FS} {w : WS} {m : MS} {s : SS} {g : GS} {tl : List mn_E}    (r : RS) (x1 : Int32) (x2 : Int32) (x3 : Int32) (x4 : Int32) (x5 : Int32) (x6 : Int32) (x7 : Int32) : Ev sc 2 30 0 0 M_Mod_append 40 [(0, .ref 12), (1, .int x1), (2, .int x2), (3, .int x3), (4, .int x4), (5, .int x5), (6, .int x6), (7, .int x7)] [] (eLV :: (HD d (HF f (HW w (HM m (HS s (HG g (HR r tl)))))))) (mapR ouV (fun z => (eLV :: (HD d (HF f (HW w (HM m (HS s (HG g (HR z tl))))))))) (B_Mod_append_40 r x1 x2 x3 x4 x5 x6 x7)) := by
  unfold B_Mod_append_40
  refine ev_iload d_Mod_append_40 rfl ?_
  refine ev_iconst (v := 1) d_Mod_append_42 rfl ?_
  refine ev_icmp_ne (tgt := 57) d_Mod_append_43 rfl (fun h1 => ?_) (fun h1 => ?_)
  · rw [if_pos h1]
    exact ev_pick [0, 1, 2, 3, 4, 5, 6, 7] rfl (e_B_Mod_append_57     r x1 x2 x3 x4 x5 x6 x7)
  · rw [if_neg h1]
    refine ev_aload_n d_Mod_append_46 rfl rfl ?_
    refine ev_get (v := .ref 18) gi_Mod (ci := 6) rfl rfl 7 (by decide) gw_1008 rfl d_Mod_append_47 ?_
    refine ev_bipush (v := 8) d_Mod_append_50 rfl ?_
    refine ev_iload_n d_Mod_append_52 rfl rfl ?_
    refine ev_imul d_Mod_append_53 ?_
    refine ev_iload d_Mod_append_54 rfl ?_
    refine ev_inB (fun h2 => ?_)
    refine ev_iastore (h2 := (eLV :: (HD d (HF f (HW w (HM m (HS s (HG g (HR (rSByt r (upd (rByt r) (8 * x3).toNatClampNeg x5)) tl))))))))) rfl (inB_of h2) rfl d_Mod_append_56 ?_
    exact ev_pick [0, 1, 2, 3, 4, 5, 6, 7] rfl (e_B_Mod_append_57     (rSByt r (upd (rByt r) (8 * x3).toNatClampNeg x5)) x1 x2 x3 x4 x5 x6 x7)
def B_Mod_append_33   (r : RS) (x1 : Int32) (x2 : Int32) (x3 : Int32) (x4 : Int32) (x5 : Int32) (x6 : Int32) (x7 : Int32) : Option (Unit × RS) :=
  if inB x3 40 then (B_Mod_append_40   (rSBef r (upd (rBef r) x3.toNatClampNeg x2)) x1 x2 x3 x4 x5 x6 x7) else none
theorem e_B_Mod_append_33 {sc : Nat × (Nat → Int32)} {d : DS} {f : FS} {w : WS} {m : MS} {s : SS} {g : GS} {tl : List mn_E}    (r : RS) (x1 : Int32) (x2 : Int32) (x3 : Int32) (x4 : Int32) (x5 : Int32) (x6 : Int32) (x7 : Int32) : Ev sc 2 30 0 0 M_Mod_append 33 [(0, .ref 12), (1, .int x1), (2, .int x2), (3, .int x3), (4, .int x4), (5, .int x5), (6, .int x6), (7, .int x7)] [] (eLV :: (HD d (HF f (HW w (HM m (HS s (HG g (HR r tl)))))))) (mapR ouV (fun z => (eLV :: (HD d (HF f (HW w (HM m (HS s (HG g (HR z tl))))))))) (B_Mod_append_33 r x1 x2 x3 x4 x5 x6 x7)) := by
  unfold B_Mod_append_33
  refine ev_aload_n d_Mod_append_33 rfl rfl ?_
  refine ev_get (v := .ref 17) gi_Mod (ci := 6) rfl rfl 6 (by decide) gw_1007 rfl d_Mod_append_34 ?_
  refine ev_iload_n d_Mod_append_37 rfl rfl ?_
  refine ev_iload_n d_Mod_append_38 rfl rfl ?_
  refine ev_inB (fun h1 => ?_)
  refine ev_iastore (h2 := (eLV :: (HD d (HF f (HW w (HM m (HS s (HG g (HR (rSBef r (upd (rBef r) x3.toNatClampNeg x2)) tl))))))))) rfl (inB_of h1) rfl d_Mod_append_39 ?_
  exact ev_pick [0, 1, 2, 3, 4, 5, 6, 7] rfl (e_B_Mod_append_40     (rSBef r (upd (rBef r) x3.toNatClampNeg x2)) x1 x2 x3 x4 x5 x6 x7)
def B_Mod_append_12   (r : RS) (x1 : Int32) (x2 : Int32) (x3 : Int32) (x4 : Int32) (x5 : Int32) (x6 : Int32) (x7 : Int32) : Option (Unit × RS) :=
  if inB x1 40 then (if inB x2 40 then (bnd (f_Mod_label0 r x3 (rSer r x1.toNatClampNeg) ((rPag r x2.toNatClampNeg) + 1) x4) (fun q => B_Mod_append_33   q.2 x1 x2 x3 x4 x5 x6 x7)) else none) else none
theorem e_B_Mod_append_12 {sc : Nat × (Nat → Int32)} {d : DS} {f : FS} {w : WS} {m : MS} {s : SS} {g : GS} {tl : List mn_E}    (r : RS) (x1 : Int32) (x2 : Int32) (x3 : Int32) (x4 : Int32) (x5 : Int32) (x6 : Int32) (x7 : Int32) : Ev sc 2 30 0 0 M_Mod_append 12 [(0, .ref 12), (1, .int x1), (2, .int x2), (3, .int x3), (4, .int x4), (5, .int x5), (6, .int x6), (7, .int x7)] [] (eLV :: (HD d (HF f (HW w (HM m (HS s (HG g (HR r tl)))))))) (mapR ouV (fun z => (eLV :: (HD d (HF f (HW w (HM m (HS s (HG g (HR z tl))))))))) (B_Mod_append_12 r x1 x2 x3 x4 x5 x6 x7)) := by
  unfold B_Mod_append_12
  refine ev_aload_n d_Mod_append_12 rfl rfl ?_
  refine ev_iload_n d_Mod_append_13 rfl rfl ?_
  refine ev_aload_n d_Mod_append_14 rfl rfl ?_
  refine ev_get (v := .ref 13) gi_Mod (ci := 6) rfl rfl 2 (by decide) gw_1003 rfl d_Mod_append_15 ?_
  refine ev_iload_n d_Mod_append_18 rfl rfl ?_
  refine ev_inB (fun h1 => ?_)
  refine ev_iaload rfl (inB_of h1) d_Mod_append_19 ?_
  refine ev_aload_n d_Mod_append_20 rfl rfl ?_
  refine ev_get (v := .ref 14) gi_Mod (ci := 6) rfl rfl 3 (by decide) gw_1004 rfl d_Mod_append_21 ?_
  refine ev_iload_n d_Mod_append_24 rfl rfl ?_
  refine ev_inB (fun h2 => ?_)
  refine ev_iaload rfl (inB_of h2) d_Mod_append_25 ?_
  refine ev_iconst (v := 1) d_Mod_append_26 rfl ?_
  refine ev_iadd d_Mod_append_27 ?_
  refine ev_iload d_Mod_append_28 rfl ?_
  refine ev_callB (rc := (f_Mod_label0 r x3 (rSer r x1.toNatClampNeg) ((rPag r x2.toNatClampNeg) + 1) x4)) (ou := ouV) (Hs := (fun z => (eLV :: (HD d (HF f (HW w (HM m (HS s (HG g (HR z tl)))))))))) (inv_V (q := 12) (av := [.int x3, .int (rSer r x1.toNatClampNeg), .int ((rPag r x2.toNatClampNeg) + 1), .int x4]) (rest := []) rfl (ci := 6) rfl d_Mod_append_30 gw_997 gw_999 gw_48 mw_Mod_label0 nh_Mod_label0 pn_Mod_label0 rfl) d_Mod_append_30 pl_Mod_label0 (Nat.le_of_ble_eq_true rfl) (Nat.le_of_ble_eq_true rfl) (Nat.le_of_ble_eq_true rfl) (e_f_Mod_label0 (tl := tl) (d := d) (f := f) (w := w) (m := m) (s := s) (g := g)  r x3 (rSer r x1.toNatClampNeg) ((rPag r x2.toNatClampNeg) + 1) x4) (fun _ => (len1 (lenHD (lenHF (lenHW (lenHM (lenHS (lenHG (lenHR rfl))))))))) (fun v z h3 => ⟨_, rfl, ?_⟩)
  exact ev_pick [0, 1, 2, 3, 4, 5, 6, 7] rfl (e_B_Mod_append_33     z x1 x2 x3 x4 x5 x6 x7)
def B_Mod_append_4   (r : RS) (x1 : Int32) (x2 : Int32) (x3 : Int32) (x4 : Int32) (x5 : Int32) (x6 : Int32) (x7 : Int32) (t0 : Int32) : Option (Unit × RS) :=
  if t0 = 0 then (B_Mod_append_77   r x1 x2 x3) else (bnd (f_Mod_empty r x3) (fun q => B_Mod_append_12   q.2 x1 x2 x3 x4 x5 x6 x7))
theorem e_B_Mod_append_4 {sc : Nat × (Nat → Int32)} {d : DS} {f : FS} {w : WS} {m : MS} {s : SS} {g : GS} {tl : List mn_E}    (r : RS) (x1 : Int32) (x2 : Int32) (x3 : Int32) (x4 : Int32) (x5 : Int32) (x6 : Int32) (x7 : Int32) (t0 : Int32) : Ev sc 2 30 0 0 M_Mod_append 4 [(0, .ref 12), (1, .int x1), (2, .int x2), (3, .int x3), (4, .int x4), (5, .int x5), (6, .int x6), (7, .int x7)] [.int t0] (eLV :: (HD d (HF f (HW w (HM m (HS s (HG g (HR r tl)))))))) (mapR ouV (fun z => (eLV :: (HD d (HF f (HW w (HM m (HS s (HG g (HR z tl))))))))) (B_Mod_append_4 r x1 x2 x3 x4 x5 x6 x7 t0)) := by
  unfold B_Mod_append_4
  refine ev_if_eq (tgt := 77) d_Mod_append_4 rfl (fun h1 => ?_) (fun h1 => ?_)
  · rw [if_pos h1]
    exact ev_pick [0, 1, 2, 3] rfl (e_B_Mod_append_77     r x1 x2 x3)
  · rw [if_neg h1]
    refine ev_aload_n d_Mod_append_7 rfl rfl ?_
    refine ev_iload_n d_Mod_append_8 rfl rfl ?_
    refine ev_callB (rc := (f_Mod_empty r x3)) (ou := ouV) (Hs := (fun z => (eLV :: (HD d (HF f (HW w (HM m (HS s (HG g (HR z tl)))))))))) (inv_V (q := 12) (av := [.int x3]) (rest := []) rfl (ci := 6) rfl d_Mod_append_9 gw_1171 gw_1173 gw_66 mw_Mod_empty nh_Mod_empty pn_Mod_empty rfl) d_Mod_append_9 pl_Mod_empty (Nat.le_of_ble_eq_true rfl) (Nat.le_of_ble_eq_true rfl) (Nat.le_of_ble_eq_true rfl) (e_f_Mod_empty (tl := tl) (d := d) (f := f) (w := w) (m := m) (s := s) (g := g)  r x3) (fun _ => (len1 (lenHD (lenHF (lenHW (lenHM (lenHS (lenHG (lenHR rfl))))))))) (fun v z h2 => ⟨_, rfl, ?_⟩)
    exact ev_pick [0, 1, 2, 3, 4, 5, 6, 7] rfl (e_B_Mod_append_12     z x1 x2 x3 x4 x5 x6 x7)
def f_Mod_append   (r : RS) (x1 : Int32) (x2 : Int32) (x3 : Int32) (x4 : Int32) (x5 : Int32) (x6 : Int32) (x7 : Int32) : Option (Unit × RS) :=
  B_Mod_append_4   ((f_Mod_writes r).2) x1 x2 x3 x4 x5 x6 x7 ((f_Mod_writes r).1)
theorem e_f_Mod_append {sc : Nat × (Nat → Int32)} {d : DS} {f : FS} {w : WS} {m : MS} {s : SS} {g : GS} {tl : List mn_E}    (r : RS) (x1 : Int32) (x2 : Int32) (x3 : Int32) (x4 : Int32) (x5 : Int32) (x6 : Int32) (x7 : Int32) : Ev sc 2 30 0 0 M_Mod_append 0 [(0, .ref 12), (1, .int x1), (2, .int x2), (3, .int x3), (4, .int x4), (5, .int x5), (6, .int x6), (7, .int x7)] [] (eLV :: (HD d (HF f (HW w (HM m (HS s (HG g (HR r tl)))))))) (mapR ouV (fun z => (eLV :: (HD d (HF f (HW w (HM m (HS s (HG g (HR z tl))))))))) (f_Mod_append r x1 x2 x3 x4 x5 x6 x7)) := by
  unfold f_Mod_append
  refine ev_aload_n d_Mod_append_0 rfl rfl ?_
  refine ev_callr (Mc := M_Mod_writes) (v := some (.int ((f_Mod_writes r).1))) (h1 := (eLV :: (HD d (HF f (HW w (HM m (HS s (HG g (HR ((f_Mod_writes r).2) tl))))))))) (k2 := 0) (n2 := 0) (inv_V (q := 12) (av := []) (rest := []) rfl (ci := 6) rfl d_Mod_append_1 gw_1163 gw_1165 gw_64 mw_Mod_writes nh_Mod_writes pn_Mod_writes rfl) d_Mod_append_1 pl_Mod_writes (Nat.le_of_ble_eq_true rfl) (Nat.le_of_ble_eq_true rfl) (Nat.le_of_ble_eq_true rfl) rfl rfl (e_f_Mod_writes (tl := tl) (d := d) (f := f) (w := w) (m := m) (s := s) (g := g)  r ) (Or.inl (len1 (lenHD (lenHF (lenHW (lenHM (lenHS (lenHG (lenHR rfl))))))))) ?_
  exact ev_pick [0, 1, 2, 3, 4, 5, 6, 7] rfl (e_B_Mod_append_4     ((f_Mod_writes r).2) x1 x2 x3 x4 x5 x6 x7 ((f_Mod_writes r).1))
def B_Mod_begin_49   (r : RS) (x2 : Int32) : Option (Int32 × RS) :=
  some (x2, r)
theorem e_B_Mod_begin_49 {sc : Nat × (Nat → Int32)} {d : DS} {f : FS} {w : WS} {m : MS} {s : SS} {g : GS} {tl : List mn_E}    (r : RS) (x2 : Int32) : Ev sc 4 60 0 0 M_Mod_begin 49 [(2, .int x2)] [] (eLV :: (HD d (HF f (HW w (HM m (HS s (HG g (HR r tl)))))))) (mapR ouI (fun z => (eLV :: (HD d (HF f (HW w (HM m (HS s (HG g (HR z tl))))))))) (B_Mod_begin_49 r x2)) := by
  unfold B_Mod_begin_49
  refine ev_iload_n d_Mod_begin_49 rfl rfl ?_
  exact ev_zret (ty := .int) rfl rfl d_Mod_begin_50
def B_Mod_begin_46   (r : RS) (x2 : Int32) (t1 : Int32) : Option (Int32 × RS) :=
  B_Mod_begin_49   (rSFau r t1) x2
theorem e_B_Mod_begin_46 {sc : Nat × (Nat → Int32)} {d : DS} {f : FS} {w : WS} {m : MS} {s : SS} {g : GS} {tl : List mn_E}    (r : RS) (x2 : Int32) (t1 : Int32) : Ev sc 4 60 0 0 M_Mod_begin 46 [(2, .int x2)] [.int t1, .ref 12] (eLV :: (HD d (HF f (HW w (HM m (HS s (HG g (HR r tl)))))))) (mapR ouI (fun z => (eLV :: (HD d (HF f (HW w (HM m (HS s (HG g (HR z tl))))))))) (B_Mod_begin_46 r x2 t1)) := by
  unfold B_Mod_begin_46
  refine ev_put (h2 := (eLV :: (HD d (HF f (HW w (HM m (HS s (HG g (HR (rSFau r t1) tl))))))))) gi_Mod ft_Mod fo_Mod fn_Mod (ci := 6) rfl rfl 1 (by decide) gw_1002 rfl rfl (fun _ => rfl) (fun _ => rfl) (Nat.le_of_ble_eq_true rfl) rfl d_Mod_begin_46 ?_
  exact ev_pick [0] rfl (e_B_Mod_begin_49     (rSFau r t1) x2)
def B_Mod_begin_35   (r : RS) (t0 : Int32) : Option (Int32 × RS) :=
  if 0 ≤ t0 then (B_Mod_begin_46   r t0 0) else (B_Mod_begin_46   r t0 2)
theorem e_B_Mod_begin_35 {sc : Nat × (Nat → Int32)} {d : DS} {f : FS} {w : WS} {m : MS} {s : SS} {g : GS} {tl : List mn_E}    (r : RS) (t0 : Int32) : Ev sc 4 60 0 0 M_Mod_begin 35 [(0, .ref 12)] [.int t0] (eLV :: (HD d (HF f (HW w (HM m (HS s (HG g (HR r tl)))))))) (mapR ouI (fun z => (eLV :: (HD d (HF f (HW w (HM m (HS s (HG g (HR z tl))))))))) (B_Mod_begin_35 r t0)) := by
  unfold B_Mod_begin_35
  refine ev_istore_n d_Mod_begin_35 rfl (by decide) rfl ?_
  refine ev_aload_n d_Mod_begin_36 rfl rfl ?_
  refine ev_iload_n d_Mod_begin_37 rfl rfl ?_
  refine ev_if_ge (tgt := 45) d_Mod_begin_38 rfl (fun h1 => ?_) (fun h1 => ?_)
  · rw [if_pos h1]
    refine ev_iconst (v := 0) d_Mod_begin_45 rfl ?_
    exact ev_pick [0] rfl (e_B_Mod_begin_46     r t0 0)
  · rw [if_neg h1]
    refine ev_iconst (v := 2) d_Mod_begin_41 rfl ?_
    refine ev_goto (tgt := 46) d_Mod_begin_42 rfl ?_
    exact ev_pick [0] rfl (e_B_Mod_begin_46     r t0 2)
def B_Mod_begin_21   (r : RS) (x1 : Int32) : Option (Int32 × RS) :=
  if (rDar r) = 0 then (bnd (f_Mod_leader r x1) (fun q => B_Mod_begin_35   q.2 q.1)) else (some ((-1), r))
theorem e_B_Mod_begin_21 {sc : Nat × (Nat → Int32)} {d : DS} {f : FS} {w : WS} {m : MS} {s : SS} {g : GS} {tl : List mn_E}    (r : RS) (x1 : Int32) : Ev sc 4 60 0 0 M_Mod_begin 21 [(0, .ref 12), (1, .int x1)] [] (eLV :: (HD d (HF f (HW w (HM m (HS s (HG g (HR r tl)))))))) (mapR ouI (fun z => (eLV :: (HD d (HF f (HW w (HM m (HS s (HG g (HR z tl))))))))) (B_Mod_begin_21 r x1)) := by
  unfold B_Mod_begin_21
  refine ev_aload_n d_Mod_begin_21 rfl rfl ?_
  refine ev_get (v := .int (rDar r)) gi_Mod (ci := 6) rfl rfl 12 (by decide) gw_1013 rfl d_Mod_begin_22 ?_
  refine ev_if_eq (tgt := 30) d_Mod_begin_25 rfl (fun h1 => ?_) (fun h1 => ?_)
  · rw [if_pos h1]
    refine ev_aload_n d_Mod_begin_30 rfl rfl ?_
    refine ev_iload_n d_Mod_begin_31 rfl rfl ?_
    refine ev_callB (rc := (f_Mod_leader r x1)) (ou := ouI) (Hs := (fun z => (eLV :: (HD d (HF f (HW w (HM m (HS s (HG g (HR z tl)))))))))) (inv_V (q := 12) (av := [.int x1]) (rest := []) rfl (ci := 6) rfl d_Mod_begin_32 gw_1104 gw_1106 gw_50 mw_Mod_leader nh_Mod_leader pn_Mod_leader rfl) d_Mod_begin_32 pl_Mod_leader (Nat.le_of_ble_eq_true rfl) (Nat.le_of_ble_eq_true rfl) (Nat.le_of_ble_eq_true rfl) (e_f_Mod_leader (tl := tl) (d := d) (f := f) (w := w) (m := m) (s := s) (g := g)  r x1) (fun _ => (len1 (lenHD (lenHF (lenHW (lenHM (lenHS (lenHG (lenHR rfl))))))))) (fun v z h2 => ⟨_, rfl, ?_⟩)
    exact ev_pick [0] rfl (e_B_Mod_begin_35     z v)
  · rw [if_neg h1]
    refine ev_iconst (v := -1) d_Mod_begin_28 rfl ?_
    exact ev_zret (ty := .int) rfl rfl d_Mod_begin_29
def B_Mod_begin_18   (r : RS) (x1 : Int32) (t1 : Int32) : Option (Int32 × RS) :=
  B_Mod_begin_21   (rSFau r t1) x1
theorem e_B_Mod_begin_18 {sc : Nat × (Nat → Int32)} {d : DS} {f : FS} {w : WS} {m : MS} {s : SS} {g : GS} {tl : List mn_E}    (r : RS) (x1 : Int32) (t1 : Int32) : Ev sc 4 60 0 0 M_Mod_begin 18 [(0, .ref 12), (1, .int x1)] [.int t1, .ref 12] (eLV :: (HD d (HF f (HW w (HM m (HS s (HG g (HR r tl)))))))) (mapR ouI (fun z => (eLV :: (HD d (HF f (HW w (HM m (HS s (HG g (HR z tl))))))))) (B_Mod_begin_18 r x1 t1)) := by
  unfold B_Mod_begin_18
  refine ev_put (h2 := (eLV :: (HD d (HF f (HW w (HM m (HS s (HG g (HR (rSFau r t1) tl))))))))) gi_Mod ft_Mod fo_Mod fn_Mod (ci := 6) rfl rfl 1 (by decide) gw_1002 rfl rfl (fun _ => rfl) (fun _ => rfl) (Nat.le_of_ble_eq_true rfl) rfl d_Mod_begin_18 ?_
  exact ev_pick [0, 1] rfl (e_B_Mod_begin_21     (rSFau r t1) x1)
def B_Mod_begin_5   (r : RS) (x1 : Int32) : Option (Int32 × RS) :=
  if (rDar r) = 0 then (B_Mod_begin_18   r x1 0) else (B_Mod_begin_18   r x1 1)
theorem e_B_Mod_begin_5 {sc : Nat × (Nat → Int32)} {d : DS} {f : FS} {w : WS} {m : MS} {s : SS} {g : GS} {tl : List mn_E}    (r : RS) (x1 : Int32) : Ev sc 4 60 0 0 M_Mod_begin 5 [(0, .ref 12), (1, .int x1)] [] (eLV :: (HD d (HF f (HW w (HM m (HS s (HG g (HR r tl)))))))) (mapR ouI (fun z => (eLV :: (HD d (HF f (HW w (HM m (HS s (HG g (HR z tl))))))))) (B_Mod_begin_5 r x1)) := by
  unfold B_Mod_begin_5
  refine ev_aload_n d_Mod_begin_5 rfl rfl ?_
  refine ev_aload_n d_Mod_begin_6 rfl rfl ?_
  refine ev_get (v := .int (rDar r)) gi_Mod (ci := 6) rfl rfl 12 (by decide) gw_1013 rfl d_Mod_begin_7 ?_
  refine ev_if_eq (tgt := 17) d_Mod_begin_10 rfl (fun h1 => ?_) (fun h1 => ?_)
  · rw [if_pos h1]
    refine ev_iconst (v := 0) d_Mod_begin_17 rfl ?_
    exact ev_pick [0, 1] rfl (e_B_Mod_begin_18     r x1 0)
  · rw [if_neg h1]
    refine ev_iconst (v := 1) d_Mod_begin_13 rfl ?_
    refine ev_goto (tgt := 18) d_Mod_begin_14 rfl ?_
    exact ev_pick [0, 1] rfl (e_B_Mod_begin_18     r x1 1)
def f_Mod_begin   (r : RS) (x1 : Int32) : Option (Int32 × RS) :=
  B_Mod_begin_5   (rSThr r 0) x1
theorem e_f_Mod_begin {sc : Nat × (Nat → Int32)} {d : DS} {f : FS} {w : WS} {m : MS} {s : SS} {g : GS} {tl : List mn_E}    (r : RS) (x1 : Int32) : Ev sc 4 60 0 0 M_Mod_begin 0 [(0, .ref 12), (1, .int x1)] [] (eLV :: (HD d (HF f (HW w (HM m (HS s (HG g (HR r tl)))))))) (mapR ouI (fun z => (eLV :: (HD d (HF f (HW w (HM m (HS s (HG g (HR z tl))))))))) (f_Mod_begin r x1)) := by
  unfold f_Mod_begin
  refine ev_aload_n d_Mod_begin_0 rfl rfl ?_
  refine ev_iconst (v := 0) d_Mod_begin_1 rfl ?_
  refine ev_put (h2 := (eLV :: (HD d (HF f (HW w (HM m (HS s (HG g (HR (rSThr r 0) tl))))))))) gi_Mod ft_Mod fo_Mod fn_Mod (ci := 6) rfl rfl 0 (by decide) gw_1001 rfl rfl (fun _ => rfl) (fun _ => rfl) (Nat.le_of_ble_eq_true rfl) rfl d_Mod_begin_2 ?_
  exact ev_pick [0, 1] rfl (e_B_Mod_begin_5     (rSThr r 0) x1)
def B_Mod_ends_67   (r : RS) (x1 : Int32) : (Int32 × RS) :=
  if ¬ (rFau r) = 0 then ((0, r)) else ((x1, r))
theorem e_B_Mod_ends_67 {sc : Nat × (Nat → Int32)} {d : DS} {f : FS} {w : WS} {m : MS} {s : SS} {g : GS} {tl : List mn_E}    (r : RS) (x1 : Int32) : Ev sc 0 0 0 0 M_Mod_ends 67 [(0, .ref 12), (1, .int x1)] [] (eLV :: (HD d (HF f (HW w (HM m (HS s (HG g (HR r tl)))))))) (mapT ouI (fun z => (eLV :: (HD d (HF f (HW w (HM m (HS s (HG g (HR z tl))))))))) (B_Mod_ends_67 r x1)) := by
  unfold B_Mod_ends_67
  refine ev_aload_n d_Mod_ends_67 rfl rfl ?_
  refine ev_get (v := .int (rFau r)) gi_Mod (ci := 6) rfl rfl 1 (by decide) gw_1002 rfl d_Mod_ends_68 ?_
  refine ev_if_ne (tgt := 78) d_Mod_ends_71 rfl (fun h1 => ?_) (fun h1 => ?_)
  · rw [if_pos h1]
    refine ev_iconst (v := 0) d_Mod_ends_78 rfl ?_
    exact ev_zret (ty := .int) rfl rfl d_Mod_ends_79
  · rw [if_neg h1]
    refine ev_iload_n d_Mod_ends_74 rfl rfl ?_
    refine ev_goto (tgt := 79) d_Mod_ends_75 rfl ?_
    exact ev_zret (ty := .int) rfl rfl d_Mod_ends_79
def B_Mod_ends_64   (r : RS) (x1 : Int32) (t1 : Int32) : (Int32 × RS) :=
  B_Mod_ends_67   (rSThr r t1) x1
theorem e_B_Mod_ends_64 {sc : Nat × (Nat → Int32)} {d : DS} {f : FS} {w : WS} {m : MS} {s : SS} {g : GS} {tl : List mn_E}    (r : RS) (x1 : Int32) (t1 : Int32) : Ev sc 0 0 0 0 M_Mod_ends 64 [(0, .ref 12), (1, .int x1)] [.int t1, .ref 12] (eLV :: (HD d (HF f (HW w (HM m (HS s (HG g (HR r tl)))))))) (mapT ouI (fun z => (eLV :: (HD d (HF f (HW w (HM m (HS s (HG g (HR z tl))))))))) (B_Mod_ends_64 r x1 t1)) := by
  unfold B_Mod_ends_64
  refine ev_put (h2 := (eLV :: (HD d (HF f (HW w (HM m (HS s (HG g (HR (rSThr r t1) tl))))))))) gi_Mod ft_Mod fo_Mod fn_Mod (ci := 6) rfl rfl 0 (by decide) gw_1001 rfl rfl (fun _ => rfl) (fun _ => rfl) (Nat.le_of_ble_eq_true rfl) rfl d_Mod_ends_64 ?_
  exact ev_pick [0, 1] rfl (e_B_Mod_ends_67     (rSThr r t1) x1)
def f_Mod_ends   (r : RS) (x1 : Int32) (x2 : Int32) (x3 : Int32) (x4 : Int32) (x5 : Int32) (x6 : Int32) : (Int32 × RS) :=
  if ¬ (rFau r) = 0 then (if ¬ (rFau r) = 1 then (if ¬ (rFau r) = 2 then (if ¬ (rFau r) = 3 then (if ¬ (rFau r) = 4 then (B_Mod_ends_64   r x1 x6) else (B_Mod_ends_64   r x1 x5)) else (B_Mod_ends_64   r x1 x4)) else (B_Mod_ends_64   r x1 x3)) else (B_Mod_ends_64   r x1 x2)) else (B_Mod_ends_64   r x1 0)
theorem e_f_Mod_ends {sc : Nat × (Nat → Int32)} {d : DS} {f : FS} {w : WS} {m : MS} {s : SS} {g : GS} {tl : List mn_E}    (r : RS) (x1 : Int32) (x2 : Int32) (x3 : Int32) (x4 : Int32) (x5 : Int32) (x6 : Int32) : Ev sc 0 0 0 0 M_Mod_ends 0 [(0, .ref 12), (1, .int x1), (2, .int x2), (3, .int x3), (4, .int x4), (5, .int x5), (6, .int x6)] [] (eLV :: (HD d (HF f (HW w (HM m (HS s (HG g (HR r tl)))))))) (mapT ouI (fun z => (eLV :: (HD d (HF f (HW w (HM m (HS s (HG g (HR z tl))))))))) (f_Mod_ends r x1 x2 x3 x4 x5 x6)) := by
  unfold f_Mod_ends
  refine ev_aload_n d_Mod_ends_0 rfl rfl ?_
  refine ev_aload_n d_Mod_ends_1 rfl rfl ?_
  refine ev_get (v := .int (rFau r)) gi_Mod (ci := 6) rfl rfl 1 (by decide) gw_1002 rfl d_Mod_ends_2 ?_
  refine ev_if_ne (tgt := 12) d_Mod_ends_5 rfl (fun h1 => ?_) (fun h1 => ?_)
  · rw [if_pos h1]
    refine ev_aload_n d_Mod_ends_12 rfl rfl ?_
    refine ev_get (v := .int (rFau r)) gi_Mod (ci := 6) rfl rfl 1 (by decide) gw_1002 rfl d_Mod_ends_13 ?_
    refine ev_iconst (v := 1) d_Mod_ends_16 rfl ?_
    refine ev_icmp_ne (tgt := 24) d_Mod_ends_17 rfl (fun h2 => ?_) (fun h2 => ?_)
    · rw [if_pos h2]
      refine ev_aload_n d_Mod_ends_24 rfl rfl ?_
      refine ev_get (v := .int (rFau r)) gi_Mod (ci := 6) rfl rfl 1 (by decide) gw_1002 rfl d_Mod_ends_25 ?_
      refine ev_iconst (v := 2) d_Mod_ends_28 rfl ?_
      refine ev_icmp_ne (tgt := 36) d_Mod_ends_29 rfl (fun h3 => ?_) (fun h3 => ?_)
      · rw [if_pos h3]
        refine ev_aload_n d_Mod_ends_36 rfl rfl ?_
        refine ev_get (v := .int (rFau r)) gi_Mod (ci := 6) rfl rfl 1 (by decide) gw_1002 rfl d_Mod_ends_37 ?_
        refine ev_iconst (v := 3) d_Mod_ends_40 rfl ?_
        refine ev_icmp_ne (tgt := 49) d_Mod_ends_41 rfl (fun h4 => ?_) (fun h4 => ?_)
        · rw [if_pos h4]
          refine ev_aload_n d_Mod_ends_49 rfl rfl ?_
          refine ev_get (v := .int (rFau r)) gi_Mod (ci := 6) rfl rfl 1 (by decide) gw_1002 rfl d_Mod_ends_50 ?_
          refine ev_iconst (v := 4) d_Mod_ends_53 rfl ?_
          refine ev_icmp_ne (tgt := 62) d_Mod_ends_54 rfl (fun h5 => ?_) (fun h5 => ?_)
          · rw [if_pos h5]
            refine ev_iload d_Mod_ends_62 rfl ?_
            exact ev_pick [0, 1] rfl (e_B_Mod_ends_64     r x1 x6)
          · rw [if_neg h5]
            refine ev_iload d_Mod_ends_57 rfl ?_
            refine ev_goto (tgt := 64) d_Mod_ends_59 rfl ?_
            exact ev_pick [0, 1] rfl (e_B_Mod_ends_64     r x1 x5)
        · rw [if_neg h4]
          refine ev_iload d_Mod_ends_44 rfl ?_
          refine ev_goto (tgt := 64) d_Mod_ends_46 rfl ?_
          exact ev_pick [0, 1] rfl (e_B_Mod_ends_64     r x1 x4)
      · rw [if_neg h3]
        refine ev_iload_n d_Mod_ends_32 rfl rfl ?_
        refine ev_goto (tgt := 64) d_Mod_ends_33 rfl ?_
        exact ev_pick [0, 1] rfl (e_B_Mod_ends_64     r x1 x3)
    · rw [if_neg h2]
      refine ev_iload_n d_Mod_ends_20 rfl rfl ?_
      refine ev_goto (tgt := 64) d_Mod_ends_21 rfl ?_
      exact ev_pick [0, 1] rfl (e_B_Mod_ends_64     r x1 x2)
  · rw [if_neg h1]
    refine ev_iconst (v := 0) d_Mod_ends_8 rfl ?_
    refine ev_goto (tgt := 64) d_Mod_ends_9 rfl ?_
    exact ev_pick [0, 1] rfl (e_B_Mod_ends_64     r x1 0)
def B_Mod_lowestSerial_73   (r : RS) (x1 : Int32) : Option (Int32 × Unit) :=
  some (x1, ())
theorem e_B_Mod_lowestSerial_73 {sc : Nat × (Nat → Int32)} {d : DS} {f : FS} {w : WS} {m : MS} {s : SS} {g : GS} {tl : List mn_E}    (r : RS) (x1 : Int32) : Ev sc 0 0 0 0 M_Mod_lowestSerial 73 [(1, .int x1)] [] (eLV :: (HD d (HF f (HW w (HM m (HS s (HG g (HR r tl)))))))) (mapR ouI (fun z => (eLV :: (HD d (HF f (HW w (HM m (HS s (HG g (HR r tl))))))))) (B_Mod_lowestSerial_73 r x1)) := by
  unfold B_Mod_lowestSerial_73
  refine ev_iload_n d_Mod_lowestSerial_73 rfl rfl ?_
  exact ev_zret (ty := .int) rfl rfl d_Mod_lowestSerial_74
def B_Mod_lowestSerial_58  (r6 : RS → Int32 → Int32 → Int32 → Option (Int32 × Unit)) (r21 : RS → Int32 → Int32 → Int32 → Option (Int32 × Unit)) (r : RS) (x3 : Int32) (x4 : Int32) (t0 : Int32) : Option (Int32 × Unit) :=
  r21 r t0 x3 (x4 + 1)
theorem e_B_Mod_lowestSerial_58 {sc : Nat × (Nat → Int32)} {d : DS} {f : FS} {w : WS} {m : MS} {s : SS} {g : GS} {tl : List mn_E}  (r6 : RS → Int32 → Int32 → Int32 → Option (Int32 × Unit)) (r21 : RS → Int32 → Int32 → Int32 → Option (Int32 × Unit)) (hr6 : ∀ (r : RS) (x1 : Int32) (x2 : Int32) (x3 : Int32), Ev sc 0 0 0 0 M_Mod_lowestSerial 6 [(0, .ref 12), (1, .int x1), (2, .int x2), (3, .int x3)] [] (eLV :: (HD d (HF f (HW w (HM m (HS s (HG g (HR r tl)))))))) (mapR ouI (fun z => (eLV :: (HD d (HF f (HW w (HM m (HS s (HG g (HR r tl))))))))) (r6 r x1 x2 x3))) (hr21 : ∀ (r : RS) (x2 : Int32) (x3 : Int32) (x4 : Int32), Ev sc 0 0 0 0 M_Mod_lowestSerial 21 [(0, .ref 12), (2, .int x2), (3, .int x3), (4, .int x4)] [] (eLV :: (HD d (HF f (HW w (HM m (HS s (HG g (HR r tl)))))))) (mapR ouI (fun z => (eLV :: (HD d (HF f (HW w (HM m (HS s (HG g (HR r tl))))))))) (r21 r x2 x3 x4))) (r : RS) (x3 : Int32) (x4 : Int32) (t0 : Int32) : Ev sc 0 0 0 0 M_Mod_lowestSerial 58 [(0, .ref 12), (3, .int x3), (4, .int x4)] [.int t0] (eLV :: (HD d (HF f (HW w (HM m (HS s (HG g (HR r tl)))))))) (mapR ouI (fun z => (eLV :: (HD d (HF f (HW w (HM m (HS s (HG g (HR r tl))))))))) (B_Mod_lowestSerial_58 r6 r21 r x3 x4 t0)) := by
  unfold B_Mod_lowestSerial_58
  refine ev_istore_n d_Mod_lowestSerial_58 rfl (by decide) rfl ?_
  refine ev_iinc (v := (x4 + 1)) d_Mod_lowestSerial_59 rfl rfl (by decide) rfl ?_
  refine ev_goto (tgt := 21) d_Mod_lowestSerial_62 rfl ?_
  exact ev_pick [2, 1, 3, 0] rfl (hr21 r t0 x3 (x4 + 1))
def B_Mod_lowestSerial_53  (r6 : RS → Int32 → Int32 → Int32 → Option (Int32 × Unit)) (r21 : RS → Int32 → Int32 → Int32 → Option (Int32 × Unit)) (r : RS) (x3 : Int32) (x4 : Int32) : Option (Int32 × Unit) :=
  B_Mod_lowestSerial_58  r6 r21 r x3 x4 1
theorem e_B_Mod_lowestSerial_53 {sc : Nat × (Nat → Int32)} {d : DS} {f : FS} {w : WS} {m : MS} {s : SS} {g : GS} {tl : List mn_E}  (r6 : RS → Int32 → Int32 → Int32 → Option (Int32 × Unit)) (r21 : RS → Int32 → Int32 → Int32 → Option (Int32 × Unit)) (hr6 : ∀ (r : RS) (x1 : Int32) (x2 : Int32) (x3 : Int32), Ev sc 0 0 0 0 M_Mod_lowestSerial 6 [(0, .ref 12), (1, .int x1), (2, .int x2), (3, .int x3)] [] (eLV :: (HD d (HF f (HW w (HM m (HS s (HG g (HR r tl)))))))) (mapR ouI (fun z => (eLV :: (HD d (HF f (HW w (HM m (HS s (HG g (HR r tl))))))))) (r6 r x1 x2 x3))) (hr21 : ∀ (r : RS) (x2 : Int32) (x3 : Int32) (x4 : Int32), Ev sc 0 0 0 0 M_Mod_lowestSerial 21 [(0, .ref 12), (2, .int x2), (3, .int x3), (4, .int x4)] [] (eLV :: (HD d (HF f (HW w (HM m (HS s (HG g (HR r tl)))))))) (mapR ouI (fun z => (eLV :: (HD d (HF f (HW w (HM m (HS s (HG g (HR r tl))))))))) (r21 r x2 x3 x4))) (r : RS) (x3 : Int32) (x4 : Int32) : Ev sc 0 0 0 0 M_Mod_lowestSerial 53 [(0, .ref 12), (3, .int x3), (4, .int x4)] [] (eLV :: (HD d (HF f (HW w (HM m (HS s (HG g (HR r tl)))))))) (mapR ouI (fun z => (eLV :: (HD d (HF f (HW w (HM m (HS s (HG g (HR r tl))))))))) (B_Mod_lowestSerial_53 r6 r21 r x3 x4)) := by
  unfold B_Mod_lowestSerial_53
  refine ev_iconst (v := 1) d_Mod_lowestSerial_53 rfl ?_
  refine ev_goto (tgt := 58) d_Mod_lowestSerial_54 rfl ?_
  exact ev_pick [0, 1, 2] rfl (e_B_Mod_lowestSerial_58   r6 r21 hr6 hr21 r x3 x4 1)
def B_Mod_lowestSerial_57  (r6 : RS → Int32 → Int32 → Int32 → Option (Int32 × Unit)) (r21 : RS → Int32 → Int32 → Int32 → Option (Int32 × Unit)) (r : RS) (x3 : Int32) (x4 : Int32) : Option (Int32 × Unit) :=
  B_Mod_lowestSerial_58  r6 r21 r x3 x4 0
theorem e_B_Mod_lowestSerial_57 {sc : Nat × (Nat → Int32)} {d : DS} {f : FS} {w : WS} {m : MS} {s : SS} {g : GS} {tl : List mn_E}  (r6 : RS → Int32 → Int32 → Int32 → Option (Int32 × Unit)) (r21 : RS → Int32 → Int32 → Int32 → Option (Int32 × Unit)) (hr6 : ∀ (r : RS) (x1 : Int32) (x2 : Int32) (x3 : Int32), Ev sc 0 0 0 0 M_Mod_lowestSerial 6 [(0, .ref 12), (1, .int x1), (2, .int x2), (3, .int x3)] [] (eLV :: (HD d (HF f (HW w (HM m (HS s (HG g (HR r tl)))))))) (mapR ouI (fun z => (eLV :: (HD d (HF f (HW w (HM m (HS s (HG g (HR r tl))))))))) (r6 r x1 x2 x3))) (hr21 : ∀ (r : RS) (x2 : Int32) (x3 : Int32) (x4 : Int32), Ev sc 0 0 0 0 M_Mod_lowestSerial 21 [(0, .ref 12), (2, .int x2), (3, .int x3), (4, .int x4)] [] (eLV :: (HD d (HF f (HW w (HM m (HS s (HG g (HR r tl)))))))) (mapR ouI (fun z => (eLV :: (HD d (HF f (HW w (HM m (HS s (HG g (HR r tl))))))))) (r21 r x2 x3 x4))) (r : RS) (x3 : Int32) (x4 : Int32) : Ev sc 0 0 0 0 M_Mod_lowestSerial 57 [(0, .ref 12), (3, .int x3), (4, .int x4)] [] (eLV :: (HD d (HF f (HW w (HM m (HS s (HG g (HR r tl)))))))) (mapR ouI (fun z => (eLV :: (HD d (HF f (HW w (HM m (HS s (HG g (HR r tl))))))))) (B_Mod_lowestSerial_57 r6 r21 r x3 x4)) := by
  unfold B_Mod_lowestSerial_57
  refine ev_iconst (v := 0) d_Mod_lowestSerial_57 rfl ?_
  exact ev_pick [0, 1, 2] rfl (e_B_Mod_lowestSerial_58   r6 r21 hr6 hr21 r x3 x4 0)
def L_Mod_lowestSerial_21  (r6 : RS → Int32 → Int32 → Int32 → Option (Int32 × Unit)) : Nat → RS → Int32 → Int32 → Int32 → Option (Int32 × Unit)
  | 0, _, _, _, _ => none
  | n + 1, r, x2, x3, x4 =>
  if 40 ≤ x4 then (r6 r x3 x2 (x3 + 1)) else (if ¬ x2 = 0 then (B_Mod_lowestSerial_53  r6 (L_Mod_lowestSerial_21 r6 n) r x3 x4) else (if inB x4 40 then (if ¬ (rBad r x4.toNatClampNeg) = 0 then (B_Mod_lowestSerial_57  r6 (L_Mod_lowestSerial_21 r6 n) r x3 x4) else (if inB x4 40 then (if ¬ (rSer r x4.toNatClampNeg) = x3 then (B_Mod_lowestSerial_57  r6 (L_Mod_lowestSerial_21 r6 n) r x3 x4) else (B_Mod_lowestSerial_53  r6 (L_Mod_lowestSerial_21 r6 n) r x3 x4)) else none)) else none))
theorem e_L_Mod_lowestSerial_21 {sc : Nat × (Nat → Int32)} {d : DS} {f : FS} {w : WS} {m : MS} {s : SS} {g : GS} {tl : List mn_E}  (r6 : RS → Int32 → Int32 → Int32 → Option (Int32 × Unit)) (hr6 : ∀ (r : RS) (x1 : Int32) (x2 : Int32) (x3 : Int32), Ev sc 0 0 0 0 M_Mod_lowestSerial 6 [(0, .ref 12), (1, .int x1), (2, .int x2), (3, .int x3)] [] (eLV :: (HD d (HF f (HW w (HM m (HS s (HG g (HR r tl)))))))) (mapR ouI (fun z => (eLV :: (HD d (HF f (HW w (HM m (HS s (HG g (HR r tl))))))))) (r6 r x1 x2 x3))) : ∀ (n : Nat) (r : RS) (x2 : Int32) (x3 : Int32) (x4 : Int32), Ev sc 0 0 0 0 M_Mod_lowestSerial 21 [(0, .ref 12), (2, .int x2), (3, .int x3), (4, .int x4)] [] (eLV :: (HD d (HF f (HW w (HM m (HS s (HG g (HR r tl)))))))) (mapR ouI (fun z => (eLV :: (HD d (HF f (HW w (HM m (HS s (HG g (HR r tl))))))))) (L_Mod_lowestSerial_21  r6 n r x2 x3 x4)) := by
  intro n
  induction n with
  | zero => intro r x2 x3 x4; exact ev_none
  | succ n ih =>
    intro r x2 x3 x4
    rw [L_Mod_lowestSerial_21]
    refine ev_iload d_Mod_lowestSerial_21 rfl ?_
    refine ev_bipush (v := 40) d_Mod_lowestSerial_23 rfl ?_
    refine ev_icmp_ge (tgt := 65) d_Mod_lowestSerial_25 rfl (fun h1 => ?_) (fun h1 => ?_)
    · rw [if_pos h1]
      refine ev_iload_n d_Mod_lowestSerial_65 rfl rfl ?_
      refine ev_istore_n d_Mod_lowestSerial_66 rfl (by decide) rfl ?_
      refine ev_iinc (v := (x3 + 1)) d_Mod_lowestSerial_67 rfl rfl (by decide) rfl ?_
      refine ev_goto (tgt := 6) d_Mod_lowestSerial_70 rfl ?_
      exact ev_pick [2, 1, 3, 0] rfl (hr6 r x3 x2 (x3 + 1))
    · rw [if_neg h1]
      refine ev_iload_n d_Mod_lowestSerial_28 rfl rfl ?_
      refine ev_if_ne (tgt := 53) d_Mod_lowestSerial_29 rfl (fun h2 => ?_) (fun h2 => ?_)
      · rw [if_pos h2]
        exact ev_pick [0, 2, 3] rfl (e_B_Mod_lowestSerial_53   r6 (L_Mod_lowestSerial_21 r6 n) hr6 ih r x3 x4)
      · rw [if_neg h2]
        refine ev_aload_n d_Mod_lowestSerial_32 rfl rfl ?_
        refine ev_get (v := .ref 19) gi_Mod (ci := 6) rfl rfl 8 (by decide) gw_1009 rfl d_Mod_lowestSerial_33 ?_
        refine ev_iload d_Mod_lowestSerial_36 rfl ?_
        refine ev_inB (fun h3 => ?_)
        refine ev_zaload rfl (inB_of h3) d_Mod_lowestSerial_38 ?_
        refine ev_if_ne (tgt := 57) d_Mod_lowestSerial_39 rfl (fun h4 => ?_) (fun h4 => ?_)
        · rw [if_pos h4]
          exact ev_pick [0, 2, 3] rfl (e_B_Mod_lowestSerial_57   r6 (L_Mod_lowestSerial_21 r6 n) hr6 ih r x3 x4)
        · rw [if_neg h4]
          refine ev_aload_n d_Mod_lowestSerial_42 rfl rfl ?_
          refine ev_get (v := .ref 13) gi_Mod (ci := 6) rfl rfl 2 (by decide) gw_1003 rfl d_Mod_lowestSerial_43 ?_
          refine ev_iload d_Mod_lowestSerial_46 rfl ?_
          refine ev_inB (fun h5 => ?_)
          refine ev_iaload rfl (inB_of h5) d_Mod_lowestSerial_48 ?_
          refine ev_iload_n d_Mod_lowestSerial_49 rfl rfl ?_
          refine ev_icmp_ne (tgt := 57) d_Mod_lowestSerial_50 rfl (fun h6 => ?_) (fun h6 => ?_)
          · rw [if_pos h6]
            exact ev_pick [0, 2, 3] rfl (e_B_Mod_lowestSerial_57   r6 (L_Mod_lowestSerial_21 r6 n) hr6 ih r x3 x4)
          · rw [if_neg h6]
            exact ev_pick [0, 2, 3] rfl (e_B_Mod_lowestSerial_53   r6 (L_Mod_lowestSerial_21 r6 n) hr6 ih r x3 x4)
def L_Mod_lowestSerial_6   : Nat → RS → Int32 → Int32 → Int32 → Option (Int32 × Unit)
  | 0, _, _, _, _ => none
  | n + 1, r, x1, x2, x3 =>
  if 61 ≤ x3 then (B_Mod_lowestSerial_73   r x1) else (if x2 = 0 then (B_Mod_lowestSerial_73   r x1) else (L_Mod_lowestSerial_21  (L_Mod_lowestSerial_6 n) 1000 r 0 x3 0))
theorem e_L_Mod_lowestSerial_6 {sc : Nat × (Nat → Int32)} {d : DS} {f : FS} {w : WS} {m : MS} {s : SS} {g : GS} {tl : List mn_E}    : ∀ (n : Nat) (r : RS) (x1 : Int32) (x2 : Int32) (x3 : Int32), Ev sc 0 0 0 0 M_Mod_lowestSerial 6 [(0, .ref 12), (1, .int x1), (2, .int x2), (3, .int x3)] [] (eLV :: (HD d (HF f (HW w (HM m (HS s (HG g (HR r tl)))))))) (mapR ouI (fun z => (eLV :: (HD d (HF f (HW w (HM m (HS s (HG g (HR r tl))))))))) (L_Mod_lowestSerial_6   n r x1 x2 x3)) := by
  intro n
  induction n with
  | zero => intro r x1 x2 x3; exact ev_none
  | succ n ih =>
    intro r x1 x2 x3
    rw [L_Mod_lowestSerial_6]
    refine ev_iload_n d_Mod_lowestSerial_6 rfl rfl ?_
    refine ev_bipush (v := 61) d_Mod_lowestSerial_7 rfl ?_
    refine ev_icmp_ge (tgt := 73) d_Mod_lowestSerial_9 rfl (fun h1 => ?_) (fun h1 => ?_)
    · rw [if_pos h1]
      exact ev_pick [1] rfl (e_B_Mod_lowestSerial_73     r x1)
    · rw [if_neg h1]
      refine ev_iload_n d_Mod_lowestSerial_12 rfl rfl ?_
      refine ev_if_eq (tgt := 73) d_Mod_lowestSerial_13 rfl (fun h2 => ?_) (fun h2 => ?_)
      · rw [if_pos h2]
        exact ev_pick [1] rfl (e_B_Mod_lowestSerial_73     r x1)
      · rw [if_neg h2]
        refine ev_iconst (v := 0) d_Mod_lowestSerial_16 rfl ?_
        refine ev_istore_n d_Mod_lowestSerial_17 rfl (by decide) rfl ?_
        refine ev_iconst (v := 0) d_Mod_lowestSerial_18 rfl ?_
        refine ev_istore d_Mod_lowestSerial_19 (by decide) rfl ?_
        exact ev_pick [2, 1, 4, 0] rfl (e_L_Mod_lowestSerial_21   (L_Mod_lowestSerial_6 n) ih 1000 r 0 x3 0)
def f_Mod_lowestSerial   (r : RS) : Option (Int32 × Unit) :=
  L_Mod_lowestSerial_6   1000 r 3 1 3
theorem e_f_Mod_lowestSerial {sc : Nat × (Nat → Int32)} {d : DS} {f : FS} {w : WS} {m : MS} {s : SS} {g : GS} {tl : List mn_E}    (r : RS) : Ev sc 0 0 0 0 M_Mod_lowestSerial 0 [(0, .ref 12)] [] (eLV :: (HD d (HF f (HW w (HM m (HS s (HG g (HR r tl)))))))) (mapR ouI (fun z => (eLV :: (HD d (HF f (HW w (HM m (HS s (HG g (HR r tl))))))))) (f_Mod_lowestSerial r)) := by
  unfold f_Mod_lowestSerial
  refine ev_iconst (v := 3) d_Mod_lowestSerial_0 rfl ?_
  refine ev_istore_n d_Mod_lowestSerial_1 rfl (by decide) rfl ?_
  refine ev_iconst (v := 1) d_Mod_lowestSerial_2 rfl ?_
  refine ev_istore_n d_Mod_lowestSerial_3 rfl (by decide) rfl ?_
  refine ev_iconst (v := 3) d_Mod_lowestSerial_4 rfl ?_
  refine ev_istore_n d_Mod_lowestSerial_5 rfl (by decide) rfl ?_
  exact ev_pick [3, 2, 1, 0] rfl (e_L_Mod_lowestSerial_6     1000 r 3 1 3)
def B_Mod_makeLeader_69   (r : RS) : Option (Unit × RS) :=
  some ((), r)
theorem e_B_Mod_makeLeader_69 {sc : Nat × (Nat → Int32)} {d : DS} {f : FS} {w : WS} {m : MS} {s : SS} {g : GS} {tl : List mn_E}    (r : RS) : Ev sc 2 30 0 0 M_Mod_makeLeader 69 [] [] (eLV :: (HD d (HF f (HW w (HM m (HS s (HG g (HR r tl)))))))) (mapR ouV (fun z => (eLV :: (HD d (HF f (HW w (HM m (HS s (HG g (HR z tl))))))))) (B_Mod_makeLeader_69 r)) := by
  unfold B_Mod_makeLeader_69
  exact ev_vret rfl d_Mod_makeLeader_69
def B_Mod_makeLeader_57   (r : RS) (x1 : Int32) : Option (Unit × RS) :=
  if inB ((8 * x1) + 3) 320 then (B_Mod_makeLeader_69   (rSByt r (upd (rByt r) ((8 * x1) + 3).toNatClampNeg x1))) else none
theorem e_B_Mod_makeLeader_57 {sc : Nat × (Nat → Int32)} {d : DS} {f : FS} {w : WS} {m : MS} {s : SS} {g : GS} {tl : List mn_E}    (r : RS) (x1 : Int32) : Ev sc 2 30 0 0 M_Mod_makeLeader 57 [(0, .ref 12), (1, .int x1)] [] (eLV :: (HD d (HF f (HW w (HM m (HS s (HG g (HR r tl)))))))) (mapR ouV (fun z => (eLV :: (HD d (HF f (HW w (HM m (HS s (HG g (HR z tl))))))))) (B_Mod_makeLeader_57 r x1)) := by
  unfold B_Mod_makeLeader_57
  refine ev_aload_n d_Mod_makeLeader_57 rfl rfl ?_
  refine ev_get (v := .ref 18) gi_Mod (ci := 6) rfl rfl 7 (by decide) gw_1008 rfl d_Mod_makeLeader_58 ?_
  refine ev_bipush (v := 8) d_Mod_makeLeader_61 rfl ?_
  refine ev_iload_n d_Mod_makeLeader_63 rfl rfl ?_
  refine ev_imul d_Mod_makeLeader_64 ?_
  refine ev_iconst (v := 3) d_Mod_makeLeader_65 rfl ?_
  refine ev_iadd d_Mod_makeLeader_66 ?_
  refine ev_iload_n d_Mod_makeLeader_67 rfl rfl ?_
  refine ev_inB (fun h1 => ?_)
  refine ev_iastore (h2 := (eLV :: (HD d (HF f (HW w (HM m (HS s (HG g (HR (rSByt r (upd (rByt r) ((8 * x1) + 3).toNatClampNeg x1)) tl))))))))) rfl (inB_of h1) rfl d_Mod_makeLeader_68 ?_
  exact ev_pick [] rfl (e_B_Mod_makeLeader_69     (rSByt r (upd (rByt r) ((8 * x1) + 3).toNatClampNeg x1)))
def B_Mod_makeLeader_44   (r : RS) (x1 : Int32) (x4 : Int32) : Option (Unit × RS) :=
  if inB ((8 * x1) + 2) 320 then (B_Mod_makeLeader_57   (rSByt r (upd (rByt r) ((8 * x1) + 2).toNatClampNeg x4)) x1) else none
theorem e_B_Mod_makeLeader_44 {sc : Nat × (Nat → Int32)} {d : DS} {f : FS} {w : WS} {m : MS} {s : SS} {g : GS} {tl : List mn_E}    (r : RS) (x1 : Int32) (x4 : Int32) : Ev sc 2 30 0 0 M_Mod_makeLeader 44 [(0, .ref 12), (1, .int x1), (4, .int x4)] [] (eLV :: (HD d (HF f (HW w (HM m (HS s (HG g (HR r tl)))))))) (mapR ouV (fun z => (eLV :: (HD d (HF f (HW w (HM m (HS s (HG g (HR z tl))))))))) (B_Mod_makeLeader_44 r x1 x4)) := by
  unfold B_Mod_makeLeader_44
  refine ev_aload_n d_Mod_makeLeader_44 rfl rfl ?_
  refine ev_get (v := .ref 18) gi_Mod (ci := 6) rfl rfl 7 (by decide) gw_1008 rfl d_Mod_makeLeader_45 ?_
  refine ev_bipush (v := 8) d_Mod_makeLeader_48 rfl ?_
  refine ev_iload_n d_Mod_makeLeader_50 rfl rfl ?_
  refine ev_imul d_Mod_makeLeader_51 ?_
  refine ev_iconst (v := 2) d_Mod_makeLeader_52 rfl ?_
  refine ev_iadd d_Mod_makeLeader_53 ?_
  refine ev_iload d_Mod_makeLeader_54 rfl ?_
  refine ev_inB (fun h1 => ?_)
  refine ev_iastore (h2 := (eLV :: (HD d (HF f (HW w (HM m (HS s (HG g (HR (rSByt r (upd (rByt r) ((8 * x1) + 2).toNatClampNeg x4)) tl))))))))) rfl (inB_of h1) rfl d_Mod_makeLeader_56 ?_
  exact ev_pick [0, 1] rfl (e_B_Mod_makeLeader_57     (rSByt r (upd (rByt r) ((8 * x1) + 2).toNatClampNeg x4)) x1)
def B_Mod_makeLeader_28   (r : RS) (x1 : Int32) (x3 : Int32) (x4 : Int32) : Option (Unit × RS) :=
  if inB ((8 * x1) + 1) 320 then (B_Mod_makeLeader_44   (rSByt r (upd (rByt r) ((8 * x1) + 1).toNatClampNeg (x3 - x3 / 256 * 256))) x1 x4) else none
theorem e_B_Mod_makeLeader_28 {sc : Nat × (Nat → Int32)} {d : DS} {f : FS} {w : WS} {m : MS} {s : SS} {g : GS} {tl : List mn_E}    (r : RS) (x1 : Int32) (x3 : Int32) (x4 : Int32) : Ev sc 2 30 0 0 M_Mod_makeLeader 28 [(0, .ref 12), (1, .int x1), (3, .int x3), (4, .int x4)] [] (eLV :: (HD d (HF f (HW w (HM m (HS s (HG g (HR r tl)))))))) (mapR ouV (fun z => (eLV :: (HD d (HF f (HW w (HM m (HS s (HG g (HR z tl))))))))) (B_Mod_makeLeader_28 r x1 x3 x4)) := by
  unfold B_Mod_makeLeader_28
  refine ev_aload_n d_Mod_makeLeader_28 rfl rfl ?_
  refine ev_get (v := .ref 18) gi_Mod (ci := 6) rfl rfl 7 (by decide) gw_1008 rfl d_Mod_makeLeader_29 ?_
  refine ev_bipush (v := 8) d_Mod_makeLeader_32 rfl ?_
  refine ev_iload_n d_Mod_makeLeader_34 rfl rfl ?_
  refine ev_imul d_Mod_makeLeader_35 ?_
  refine ev_iconst (v := 1) d_Mod_makeLeader_36 rfl ?_
  refine ev_iadd d_Mod_makeLeader_37 ?_
  refine ev_iload_n d_Mod_makeLeader_38 rfl rfl ?_
  refine ev_sipush (v := 256) d_Mod_makeLeader_39 rfl ?_
  refine ev_irem d_Mod_makeLeader_42 (by decide) ?_
  refine ev_inB (fun h1 => ?_)
  refine ev_iastore (h2 := (eLV :: (HD d (HF f (HW w (HM m (HS s (HG g (HR (rSByt r (upd (rByt r) ((8 * x1) + 1).toNatClampNeg (x3 - x3 / 256 * 256))) tl))))))))) rfl (inB_of h1) rfl d_Mod_makeLeader_43 ?_
  exact ev_pick [0, 1, 3] rfl (e_B_Mod_makeLeader_44     (rSByt r (upd (rByt r) ((8 * x1) + 1).toNatClampNeg (x3 - x3 / 256 * 256))) x1 x4)
def B_Mod_makeLeader_14   (r : RS) (x1 : Int32) (x3 : Int32) (x4 : Int32) : Option (Unit × RS) :=
  if inB (8 * x1) 320 then (B_Mod_makeLeader_28   (rSByt r (upd (rByt r) (8 * x1).toNatClampNeg (x3 / 256))) x1 x3 x4) else none
theorem e_B_Mod_makeLeader_14 {sc : Nat × (Nat → Int32)} {d : DS} {f : FS} {w : WS} {m : MS} {s : SS} {g : GS} {tl : List mn_E}    (r : RS) (x1 : Int32) (x3 : Int32) (x4 : Int32) : Ev sc 2 30 0 0 M_Mod_makeLeader 14 [(0, .ref 12), (1, .int x1), (3, .int x3), (4, .int x4)] [] (eLV :: (HD d (HF f (HW w (HM m (HS s (HG g (HR r tl)))))))) (mapR ouV (fun z => (eLV :: (HD d (HF f (HW w (HM m (HS s (HG g (HR z tl))))))))) (B_Mod_makeLeader_14 r x1 x3 x4)) := by
  unfold B_Mod_makeLeader_14
  refine ev_aload_n d_Mod_makeLeader_14 rfl rfl ?_
  refine ev_get (v := .ref 18) gi_Mod (ci := 6) rfl rfl 7 (by decide) gw_1008 rfl d_Mod_makeLeader_15 ?_
  refine ev_bipush (v := 8) d_Mod_makeLeader_18 rfl ?_
  refine ev_iload_n d_Mod_makeLeader_20 rfl rfl ?_
  refine ev_imul d_Mod_makeLeader_21 ?_
  refine ev_iload_n d_Mod_makeLeader_22 rfl rfl ?_
  refine ev_sipush (v := 256) d_Mod_makeLeader_23 rfl ?_
  refine ev_idiv d_Mod_makeLeader_26 (by decide) ?_
  refine ev_inB (fun h1 => ?_)
  refine ev_iastore (h2 := (eLV :: (HD d (HF f (HW w (HM m (HS s (HG g (HR (rSByt r (upd (rByt r) (8 * x1).toNatClampNeg (x3 / 256))) tl))))))))) rfl (inB_of h1) rfl d_Mod_makeLeader_27 ?_
  exact ev_pick [0, 1, 2, 3] rfl (e_B_Mod_makeLeader_28     (rSByt r (upd (rByt r) (8 * x1).toNatClampNeg (x3 / 256))) x1 x3 x4)
def B_Mod_makeLeader_5   (r : RS) (x1 : Int32) (x2 : Int32) (x3 : Int32) (x4 : Int32) : Option (Unit × RS) :=
  bnd (f_Mod_label0 r x1 x2 0 8) (fun q => B_Mod_makeLeader_14   q.2 x1 x3 x4)
theorem e_B_Mod_makeLeader_5 {sc : Nat × (Nat → Int32)} {d : DS} {f : FS} {w : WS} {m : MS} {s : SS} {g : GS} {tl : List mn_E}    (r : RS) (x1 : Int32) (x2 : Int32) (x3 : Int32) (x4 : Int32) : Ev sc 2 30 0 0 M_Mod_makeLeader 5 [(0, .ref 12), (1, .int x1), (2, .int x2), (3, .int x3), (4, .int x4)] [] (eLV :: (HD d (HF f (HW w (HM m (HS s (HG g (HR r tl)))))))) (mapR ouV (fun z => (eLV :: (HD d (HF f (HW w (HM m (HS s (HG g (HR z tl))))))))) (B_Mod_makeLeader_5 r x1 x2 x3 x4)) := by
  unfold B_Mod_makeLeader_5
  refine ev_aload_n d_Mod_makeLeader_5 rfl rfl ?_
  refine ev_iload_n d_Mod_makeLeader_6 rfl rfl ?_
  refine ev_iload_n d_Mod_makeLeader_7 rfl rfl ?_
  refine ev_iconst (v := 0) d_Mod_makeLeader_8 rfl ?_
  refine ev_bipush (v := 8) d_Mod_makeLeader_9 rfl ?_
  refine ev_callB (rc := (f_Mod_label0 r x1 x2 0 8)) (ou := ouV) (Hs := (fun z => (eLV :: (HD d (HF f (HW w (HM m (HS s (HG g (HR z tl)))))))))) (inv_V (q := 12) (av := [.int x1, .int x2, .int 0, .int 8]) (rest := []) rfl (ci := 6) rfl d_Mod_makeLeader_11 gw_997 gw_999 gw_48 mw_Mod_label0 nh_Mod_label0 pn_Mod_label0 rfl) d_Mod_makeLeader_11 pl_Mod_label0 (Nat.le_of_ble_eq_true rfl) (Nat.le_of_ble_eq_true rfl) (Nat.le_of_ble_eq_true rfl) (e_f_Mod_label0 (tl := tl) (d := d) (f := f) (w := w) (m := m) (s := s) (g := g)  r x1 x2 0 8) (fun _ => (len1 (lenHD (lenHF (lenHW (lenHM (lenHS (lenHG (lenHR rfl))))))))) (fun v z h1 => ⟨_, rfl, ?_⟩)
  exact ev_pick [0, 1, 3, 4] rfl (e_B_Mod_makeLeader_14     z x1 x3 x4)
def f_Mod_makeLeader   (r : RS) (x1 : Int32) (x2 : Int32) (x3 : Int32) (x4 : Int32) : Option (Unit × RS) :=
  bnd (f_Mod_empty r x1) (fun q => B_Mod_makeLeader_5   q.2 x1 x2 x3 x4)
theorem e_f_Mod_makeLeader {sc : Nat × (Nat → Int32)} {d : DS} {f : FS} {w : WS} {m : MS} {s : SS} {g : GS} {tl : List mn_E}    (r : RS) (x1 : Int32) (x2 : Int32) (x3 : Int32) (x4 : Int32) : Ev sc 2 30 0 0 M_Mod_makeLeader 0 [(0, .ref 12), (1, .int x1), (2, .int x2), (3, .int x3), (4, .int x4)] [] (eLV :: (HD d (HF f (HW w (HM m (HS s (HG g (HR r tl)))))))) (mapR ouV (fun z => (eLV :: (HD d (HF f (HW w (HM m (HS s (HG g (HR z tl))))))))) (f_Mod_makeLeader r x1 x2 x3 x4)) := by
  unfold f_Mod_makeLeader
  refine ev_aload_n d_Mod_makeLeader_0 rfl rfl ?_
  refine ev_iload_n d_Mod_makeLeader_1 rfl rfl ?_
  refine ev_callB (rc := (f_Mod_empty r x1)) (ou := ouV) (Hs := (fun z => (eLV :: (HD d (HF f (HW w (HM m (HS s (HG g (HR z tl)))))))))) (inv_V (q := 12) (av := [.int x1]) (rest := []) rfl (ci := 6) rfl d_Mod_makeLeader_2 gw_1171 gw_1173 gw_66 mw_Mod_empty nh_Mod_empty pn_Mod_empty rfl) d_Mod_makeLeader_2 pl_Mod_empty (Nat.le_of_ble_eq_true rfl) (Nat.le_of_ble_eq_true rfl) (Nat.le_of_ble_eq_true rfl) (e_f_Mod_empty (tl := tl) (d := d) (f := f) (w := w) (m := m) (s := s) (g := g)  r x1) (fun _ => (len1 (lenHD (lenHF (lenHW (lenHM (lenHS (lenHG (lenHR rfl))))))))) (fun v z h1 => ⟨_, rfl, ?_⟩)
  exact ev_pick [0, 1, 2, 3, 4] rfl (e_B_Mod_makeLeader_5     z x1 x2 x3 x4)
def B_Mod_created_57   (r : RS) : Option (Int32 × RS) :=
  some (0, r)
theorem e_B_Mod_created_57 {sc : Nat × (Nat → Int32)} {d : DS} {f : FS} {w : WS} {m : MS} {s : SS} {g : GS} {tl : List mn_E}    (r : RS) : Ev sc 6 93 0 0 M_Mod_created 57 [] [] (eLV :: (HD d (HF f (HW w (HM m (HS s (HG g (HR r tl)))))))) (mapR ouI (fun z => (eLV :: (HD d (HF f (HW w (HM m (HS s (HG g (HR z tl))))))))) (B_Mod_created_57 r)) := by
  unfold B_Mod_created_57
  refine ev_iconst (v := 0) d_Mod_created_57 rfl ?_
  exact ev_zret (ty := .int) rfl rfl d_Mod_created_58
def B_Mod_created_213   (r : RS) (x5 : Int32) : Option (Int32 × RS) :=
  some (x5, r)
theorem e_B_Mod_created_213 {sc : Nat × (Nat → Int32)} {d : DS} {f : FS} {w : WS} {m : MS} {s : SS} {g : GS} {tl : List mn_E}    (r : RS) (x5 : Int32) : Ev sc 6 93 0 0 M_Mod_created 213 [(5, .int x5)] [] (eLV :: (HD d (HF f (HW w (HM m (HS s (HG g (HR r tl)))))))) (mapR ouI (fun z => (eLV :: (HD d (HF f (HW w (HM m (HS s (HG g (HR z tl))))))))) (B_Mod_created_213 r x5)) := by
  unfold B_Mod_created_213
  refine ev_iload d_Mod_created_213 rfl ?_
  exact ev_zret (ty := .int) rfl rfl d_Mod_created_215
def B_Mod_created_195   (r : RS) (x5 : Int32) (x6 : Int32) : Option (Int32 × RS) :=
  if ¬ (rFau r) = 0 then (B_Mod_created_213   r x5) else (if inB x5 61 then (B_Mod_created_213   (rSKep r (upd (rKep r) x5.toNatClampNeg (x6 + 1))) x5) else none)
theorem e_B_Mod_created_195 {sc : Nat × (Nat → Int32)} {d : DS} {f : FS} {w : WS} {m : MS} {s : SS} {g : GS} {tl : List mn_E}    (r : RS) (x5 : Int32) (x6 : Int32) : Ev sc 6 93 0 0 M_Mod_created 195 [(0, .ref 12), (5, .int x5), (6, .int x6)] [] (eLV :: (HD d (HF f (HW w (HM m (HS s (HG g (HR r tl)))))))) (mapR ouI (fun z => (eLV :: (HD d (HF f (HW w (HM m (HS s (HG g (HR z tl))))))))) (B_Mod_created_195 r x5 x6)) := by
  unfold B_Mod_created_195
  refine ev_aload_n d_Mod_created_195 rfl rfl ?_
  refine ev_get (v := .int (rFau r)) gi_Mod (ci := 6) rfl rfl 1 (by decide) gw_1002 rfl d_Mod_created_196 ?_
  refine ev_if_ne (tgt := 213) d_Mod_created_199 rfl (fun h1 => ?_) (fun h1 => ?_)
  · rw [if_pos h1]
    exact ev_pick [1] rfl (e_B_Mod_created_213     r x5)
  · rw [if_neg h1]
    refine ev_aload_n d_Mod_created_202 rfl rfl ?_
    refine ev_get (v := .ref 20) gi_Mod (ci := 6) rfl rfl 9 (by decide) gw_1010 rfl d_Mod_created_203 ?_
    refine ev_iload d_Mod_created_206 rfl ?_
    refine ev_iload d_Mod_created_208 rfl ?_
    refine ev_iconst (v := 1) d_Mod_created_210 rfl ?_
    refine ev_iadd d_Mod_created_211 ?_
    refine ev_inB (fun h2 => ?_)
    refine ev_iastore (h2 := (eLV :: (HD d (HF f (HW w (HM m (HS s (HG g (HR (rSKep r (upd (rKep r) x5.toNatClampNeg (x6 + 1))) tl))))))))) rfl (inB_of h2) rfl d_Mod_created_212 ?_
    exact ev_pick [1] rfl (e_B_Mod_created_213     (rSKep r (upd (rKep r) x5.toNatClampNeg (x6 + 1))) x5)
def B_Mod_created_191   (r : RS) (x5 : Int32) (x6 : Int32) : Option (Int32 × RS) :=
  bnd (f_Mod_putMap r) (fun q => B_Mod_created_195   q.2 x5 x6)
theorem e_B_Mod_created_191 {sc : Nat × (Nat → Int32)} {d : DS} {f : FS} {w : WS} {m : MS} {s : SS} {g : GS} {tl : List mn_E}    (r : RS) (x5 : Int32) (x6 : Int32) : Ev sc 6 93 0 0 M_Mod_created 191 [(0, .ref 12), (5, .int x5), (6, .int x6)] [] (eLV :: (HD d (HF f (HW w (HM m (HS s (HG g (HR r tl)))))))) (mapR ouI (fun z => (eLV :: (HD d (HF f (HW w (HM m (HS s (HG g (HR z tl))))))))) (B_Mod_created_191 r x5 x6)) := by
  unfold B_Mod_created_191
  refine ev_aload_n d_Mod_created_191 rfl rfl ?_
  refine ev_callB (rc := (f_Mod_putMap r)) (ou := ouV) (Hs := (fun z => (eLV :: (HD d (HF f (HW w (HM m (HS s (HG g (HR z tl)))))))))) (inv_V (q := 12) (av := []) (rest := []) rfl (ci := 6) rfl d_Mod_created_192 gw_1183 gw_1185 gw_69 mw_Mod_putMap nh_Mod_putMap pn_Mod_putMap rfl) d_Mod_created_192 pl_Mod_putMap (Nat.le_of_ble_eq_true rfl) (Nat.le_of_ble_eq_true rfl) (Nat.le_of_ble_eq_true rfl) (e_f_Mod_putMap (tl := tl) (d := d) (f := f) (w := w) (m := m) (s := s) (g := g)  r ) (fun _ => (len1 (lenHD (lenHF (lenHW (lenHM (lenHS (lenHG (lenHR rfl))))))))) (fun v z h1 => ⟨_, rfl, ?_⟩)
  exact ev_pick [0, 1, 2] rfl (e_B_Mod_created_195     z x5 x6)
def B_Mod_created_124   (r : RS) (x5 : Int32) (x6 : Int32) : Option (Int32 × RS) :=
  B_Mod_created_191   r x5 x6
theorem e_B_Mod_created_124 {sc : Nat × (Nat → Int32)} {d : DS} {f : FS} {w : WS} {m : MS} {s : SS} {g : GS} {tl : List mn_E}    (r : RS) (x5 : Int32) (x6 : Int32) : Ev sc 6 93 0 0 M_Mod_created 124 [(0, .ref 12), (5, .int x5), (6, .int x6)] [] (eLV :: (HD d (HF f (HW w (HM m (HS s (HG g (HR r tl)))))))) (mapR ouI (fun z => (eLV :: (HD d (HF f (HW w (HM m (HS s (HG g (HR z tl))))))))) (B_Mod_created_124 r x5 x6)) := by
  unfold B_Mod_created_124
  refine ev_goto (tgt := 191) d_Mod_created_124 rfl ?_
  exact ev_pick [0, 1, 2] rfl (e_B_Mod_created_191     r x5 x6)
def B_Mod_created_108   (r : RS) (x2 : Int32) (x5 : Int32) (x6 : Int32) (t0 : Int32) : Option (Int32 × RS) :=
  if t0 = 0 then (B_Mod_created_191   r x5 x6) else (bnd (f_Mod_setEntry r (rHPl r) x2 x5 x6) (fun q => B_Mod_created_124   q.2 x5 x6))
theorem e_B_Mod_created_108 {sc : Nat × (Nat → Int32)} {d : DS} {f : FS} {w : WS} {m : MS} {s : SS} {g : GS} {tl : List mn_E}    (r : RS) (x2 : Int32) (x5 : Int32) (x6 : Int32) (t0 : Int32) : Ev sc 6 93 0 0 M_Mod_created 108 [(0, .ref 12), (2, .int x2), (5, .int x5), (6, .int x6)] [.int t0] (eLV :: (HD d (HF f (HW w (HM m (HS s (HG g (HR r tl)))))))) (mapR ouI (fun z => (eLV :: (HD d (HF f (HW w (HM m (HS s (HG g (HR z tl))))))))) (B_Mod_created_108 r x2 x5 x6 t0)) := by
  unfold B_Mod_created_108
  refine ev_if_eq (tgt := 191) d_Mod_created_108 rfl (fun h1 => ?_) (fun h1 => ?_)
  · rw [if_pos h1]
    exact ev_pick [0, 2, 3] rfl (e_B_Mod_created_191     r x5 x6)
  · rw [if_neg h1]
    refine ev_aload_n d_Mod_created_111 rfl rfl ?_
    refine ev_aload_n d_Mod_created_112 rfl rfl ?_
    refine ev_get (v := .int (rHPl r)) gi_Mod (ci := 6) rfl rfl 17 (by decide) gw_1018 rfl d_Mod_created_113 ?_
    refine ev_iload_n d_Mod_created_116 rfl rfl ?_
    refine ev_iload d_Mod_created_117 rfl ?_
    refine ev_iload d_Mod_created_119 rfl ?_
    refine ev_callB (rc := (f_Mod_setEntry r (rHPl r) x2 x5 x6)) (ou := ouV) (Hs := (fun z => (eLV :: (HD d (HF f (HW w (HM m (HS s (HG g (HR z tl)))))))))) (inv_V (q := 12) (av := [.int (rHPl r), .int x2, .int x5, .int x6]) (rest := []) rfl (ci := 6) rfl d_Mod_created_121 gw_1175 gw_1177 gw_67 mw_Mod_setEntry nh_Mod_setEntry pn_Mod_setEntry rfl) d_Mod_created_121 pl_Mod_setEntry (Nat.le_of_ble_eq_true rfl) (Nat.le_of_ble_eq_true rfl) (Nat.le_of_ble_eq_true rfl) (e_f_Mod_setEntry (tl := tl) (d := d) (f := f) (w := w) (m := m) (s := s) (g := g)  r (rHPl r) x2 x5 x6) (fun _ => (len1 (lenHD (lenHF (lenHW (lenHM (lenHS (lenHG (lenHR rfl))))))))) (fun v z h2 => ⟨_, rfl, ?_⟩)
    exact ev_pick [0, 2, 3] rfl (e_B_Mod_created_124     z x5 x6)
def B_Mod_created_168   (r : RS) (x5 : Int32) (x6 : Int32) : Option (Int32 × RS) :=
  B_Mod_created_191   r x5 x6
theorem e_B_Mod_created_168 {sc : Nat × (Nat → Int32)} {d : DS} {f : FS} {w : WS} {m : MS} {s : SS} {g : GS} {tl : List mn_E}    (r : RS) (x5 : Int32) (x6 : Int32) : Ev sc 6 93 0 0 M_Mod_created 168 [(0, .ref 12), (5, .int x5), (6, .int x6)] [] (eLV :: (HD d (HF f (HW w (HM m (HS s (HG g (HR r tl)))))))) (mapR ouI (fun z => (eLV :: (HD d (HF f (HW w (HM m (HS s (HG g (HR z tl))))))))) (B_Mod_created_168 r x5 x6)) := by
  unfold B_Mod_created_168
  refine ev_goto (tgt := 191) d_Mod_created_168 rfl ?_
  exact ev_pick [0, 1, 2] rfl (e_B_Mod_created_191     r x5 x6)
def B_Mod_created_157   (r : RS) (x5 : Int32) (x6 : Int32) : Option (Int32 × RS) :=
  if inB (rEnd r) 40 then (B_Mod_created_168   (rSUse r (upd (rUse r) (rEnd r).toNatClampNeg 8)) x5 x6) else none
theorem e_B_Mod_created_157 {sc : Nat × (Nat → Int32)} {d : DS} {f : FS} {w : WS} {m : MS} {s : SS} {g : GS} {tl : List mn_E}    (r : RS) (x5 : Int32) (x6 : Int32) : Ev sc 6 93 0 0 M_Mod_created 157 [(0, .ref 12), (5, .int x5), (6, .int x6)] [] (eLV :: (HD d (HF f (HW w (HM m (HS s (HG g (HR r tl)))))))) (mapR ouI (fun z => (eLV :: (HD d (HF f (HW w (HM m (HS s (HG g (HR z tl))))))))) (B_Mod_created_157 r x5 x6)) := by
  unfold B_Mod_created_157
  refine ev_aload_n d_Mod_created_157 rfl rfl ?_
  refine ev_get (v := .ref 15) gi_Mod (ci := 6) rfl rfl 4 (by decide) gw_1005 rfl d_Mod_created_158 ?_
  refine ev_aload_n d_Mod_created_161 rfl rfl ?_
  refine ev_get (v := .int (rEnd r)) gi_Mod (ci := 6) rfl rfl 18 (by decide) gw_1019 rfl d_Mod_created_162 ?_
  refine ev_bipush (v := 8) d_Mod_created_165 rfl ?_
  refine ev_inB (fun h1 => ?_)
  refine ev_iastore (h2 := (eLV :: (HD d (HF f (HW w (HM m (HS s (HG g (HR (rSUse r (upd (rUse r) (rEnd r).toNatClampNeg 8)) tl))))))))) rfl (inB_of h1) rfl d_Mod_created_167 ?_
  exact ev_pick [0, 1, 2] rfl (e_B_Mod_created_168     (rSUse r (upd (rUse r) (rEnd r).toNatClampNeg 8)) x5 x6)
def B_Mod_created_136   (r : RS) (x2 : Int32) (x5 : Int32) (x6 : Int32) (t0 : Int32) : Option (Int32 × RS) :=
  if t0 = 0 then (B_Mod_created_191   r x5 x6) else (bnd (f_Mod_setEntry r ((8 * (rEnd r)) + 4) x2 x5 x6) (fun q => B_Mod_created_157   q.2 x5 x6))
theorem e_B_Mod_created_136 {sc : Nat × (Nat → Int32)} {d : DS} {f : FS} {w : WS} {m : MS} {s : SS} {g : GS} {tl : List mn_E}    (r : RS) (x2 : Int32) (x5 : Int32) (x6 : Int32) (t0 : Int32) : Ev sc 6 93 0 0 M_Mod_created 136 [(0, .ref 12), (2, .int x2), (5, .int x5), (6, .int x6)] [.int t0] (eLV :: (HD d (HF f (HW w (HM m (HS s (HG g (HR r tl)))))))) (mapR ouI (fun z => (eLV :: (HD d (HF f (HW w (HM m (HS s (HG g (HR z tl))))))))) (B_Mod_created_136 r x2 x5 x6 t0)) := by
  unfold B_Mod_created_136
  refine ev_if_eq (tgt := 191) d_Mod_created_136 rfl (fun h1 => ?_) (fun h1 => ?_)
  · rw [if_pos h1]
    exact ev_pick [0, 2, 3] rfl (e_B_Mod_created_191     r x5 x6)
  · rw [if_neg h1]
    refine ev_aload_n d_Mod_created_139 rfl rfl ?_
    refine ev_bipush (v := 8) d_Mod_created_140 rfl ?_
    refine ev_aload_n d_Mod_created_142 rfl rfl ?_
    refine ev_get (v := .int (rEnd r)) gi_Mod (ci := 6) rfl rfl 18 (by decide) gw_1019 rfl d_Mod_created_143 ?_
    refine ev_imul d_Mod_created_146 ?_
    refine ev_iconst (v := 4) d_Mod_created_147 rfl ?_
    refine ev_iadd d_Mod_created_148 ?_
    refine ev_iload_n d_Mod_created_149 rfl rfl ?_
    refine ev_iload d_Mod_created_150 rfl ?_
    refine ev_iload d_Mod_created_152 rfl ?_
    refine ev_callB (rc := (f_Mod_setEntry r ((8 * (rEnd r)) + 4) x2 x5 x6)) (ou := ouV) (Hs := (fun z => (eLV :: (HD d (HF f (HW w (HM m (HS s (HG g (HR z tl)))))))))) (inv_V (q := 12) (av := [.int ((8 * (rEnd r)) + 4), .int x2, .int x5, .int x6]) (rest := []) rfl (ci := 6) rfl d_Mod_created_154 gw_1175 gw_1177 gw_67 mw_Mod_setEntry nh_Mod_setEntry pn_Mod_setEntry rfl) d_Mod_created_154 pl_Mod_setEntry (Nat.le_of_ble_eq_true rfl) (Nat.le_of_ble_eq_true rfl) (Nat.le_of_ble_eq_true rfl) (e_f_Mod_setEntry (tl := tl) (d := d) (f := f) (w := w) (m := m) (s := s) (g := g)  r ((8 * (rEnd r)) + 4) x2 x5 x6) (fun _ => (len1 (lenHD (lenHF (lenHW (lenHM (lenHS (lenHG (lenHR rfl))))))))) (fun v z h2 => ⟨_, rfl, ?_⟩)
    exact ev_pick [0, 2, 3] rfl (e_B_Mod_created_157     z x5 x6)
def B_Mod_created_182   (r : RS) (x2 : Int32) (x5 : Int32) (x6 : Int32) (t1 : Int32) (t2 : Int32) (t3 : Int32) : Option (Int32 × RS) :=
  bnd (f_Mod_append r t1 t2 t3 4 x2 x5 x6) (fun q => B_Mod_created_191   q.2 x5 x6)
theorem e_B_Mod_created_182 {sc : Nat × (Nat → Int32)} {d : DS} {f : FS} {w : WS} {m : MS} {s : SS} {g : GS} {tl : List mn_E}    (r : RS) (x2 : Int32) (x5 : Int32) (x6 : Int32) (t1 : Int32) (t2 : Int32) (t3 : Int32) : Ev sc 6 93 0 0 M_Mod_created 182 [(0, .ref 12), (2, .int x2), (5, .int x5), (6, .int x6)] [.int t3, .int t2, .int t1, .ref 12] (eLV :: (HD d (HF f (HW w (HM m (HS s (HG g (HR r tl)))))))) (mapR ouI (fun z => (eLV :: (HD d (HF f (HW w (HM m (HS s (HG g (HR z tl))))))))) (B_Mod_created_182 r x2 x5 x6 t1 t2 t3)) := by
  unfold B_Mod_created_182
  refine ev_iconst (v := 4) d_Mod_created_182 rfl ?_
  refine ev_iload_n d_Mod_created_183 rfl rfl ?_
  refine ev_iload d_Mod_created_184 rfl ?_
  refine ev_iload d_Mod_created_186 rfl ?_
  refine ev_callB (rc := (f_Mod_append r t1 t2 t3 4 x2 x5 x6)) (ou := ouV) (Hs := (fun z => (eLV :: (HD d (HF f (HW w (HM m (HS s (HG g (HR z tl)))))))))) (inv_V (q := 12) (av := [.int t1, .int t2, .int t3, .int 4, .int x2, .int x5, .int x6]) (rest := []) rfl (ci := 6) rfl d_Mod_created_188 gw_1179 gw_1181 gw_68 mw_Mod_append nh_Mod_append pn_Mod_append rfl) d_Mod_created_188 pl_Mod_append (Nat.le_of_ble_eq_true rfl) (Nat.le_of_ble_eq_true rfl) (Nat.le_of_ble_eq_true rfl) (e_f_Mod_append (tl := tl) (d := d) (f := f) (w := w) (m := m) (s := s) (g := g)  r t1 t2 t3 4 x2 x5 x6) (fun _ => (len1 (lenHD (lenHF (lenHW (lenHM (lenHS (lenHG (lenHR rfl))))))))) (fun v z h1 => ⟨_, rfl, ?_⟩)
  exact ev_pick [0, 2, 3] rfl (e_B_Mod_created_191     z x5 x6)
def B_Mod_created_97   (r : RS) (x1 : Int32) (x2 : Int32) (x4 : Int32) (x5 : Int32) (x6 : Int32) : Option (Int32 × RS) :=
  if (rHAt r) < 0 then (if x4 = 0 then (bnd (f_Mod_taken r 1) (fun q => B_Mod_created_182   r x2 x5 x6 x1 (rEnd r) q.1)) else (B_Mod_created_136   ((f_Mod_writes r).2) x2 x5 x6 ((f_Mod_writes r).1))) else (B_Mod_created_108   ((f_Mod_writes r).2) x2 x5 x6 ((f_Mod_writes r).1))
theorem e_B_Mod_created_97 {sc : Nat × (Nat → Int32)} {d : DS} {f : FS} {w : WS} {m : MS} {s : SS} {g : GS} {tl : List mn_E}    (r : RS) (x1 : Int32) (x2 : Int32) (x4 : Int32) (x5 : Int32) (x6 : Int32) : Ev sc 6 93 0 0 M_Mod_created 97 [(0, .ref 12), (1, .int x1), (2, .int x2), (4, .int x4), (5, .int x5), (6, .int x6)] [] (eLV :: (HD d (HF f (HW w (HM m (HS s (HG g (HR r tl)))))))) (mapR ouI (fun z => (eLV :: (HD d (HF f (HW w (HM m (HS s (HG g (HR z tl))))))))) (B_Mod_created_97 r x1 x2 x4 x5 x6)) := by
  unfold B_Mod_created_97
  refine ev_aload_n d_Mod_created_97 rfl rfl ?_
  refine ev_get (v := .int (rHAt r)) gi_Mod (ci := 6) rfl rfl 16 (by decide) gw_1017 rfl d_Mod_created_98 ?_
  refine ev_if_lt (tgt := 127) d_Mod_created_101 rfl (fun h1 => ?_) (fun h1 => ?_)
  · rw [if_pos h1]
    refine ev_iload d_Mod_created_127 rfl ?_
    refine ev_if_eq (tgt := 171) d_Mod_created_129 rfl (fun h2 => ?_) (fun h2 => ?_)
    · rw [if_pos h2]
      refine ev_aload_n d_Mod_created_171 rfl rfl ?_
      refine ev_iload_n d_Mod_created_172 rfl rfl ?_
      refine ev_aload_n d_Mod_created_173 rfl rfl ?_
      refine ev_get (v := .int (rEnd r)) gi_Mod (ci := 6) rfl rfl 18 (by decide) gw_1019 rfl d_Mod_created_174 ?_
      refine ev_aload_n d_Mod_created_177 rfl rfl ?_
      refine ev_iconst (v := 1) d_Mod_created_178 rfl ?_
      refine ev_callB (rc := (f_Mod_taken r 1)) (ou := ouI) (Hs := (fun z => (eLV :: (HD d (HF f (HW w (HM m (HS s (HG g (HR r tl)))))))))) (inv_V (q := 12) (av := [.int 1]) (rest := [.int (rEnd r), .int x1, .ref 12]) rfl (ci := 6) rfl d_Mod_created_179 gw_1159 gw_1161 gw_63 mw_Mod_taken nh_Mod_taken pn_Mod_taken rfl) d_Mod_created_179 pl_Mod_taken (Nat.le_of_ble_eq_true rfl) (Nat.le_of_ble_eq_true rfl) (Nat.le_of_ble_eq_true rfl) (e_f_Mod_taken (tl := tl) (d := d) (f := f) (w := w) (m := m) (s := s) (g := g)  r 1) (fun _ => (len1 (lenHD (lenHF (lenHW (lenHM (lenHS (lenHG (lenHR rfl))))))))) (fun v z h3 => ⟨_, rfl, ?_⟩)
      exact ev_pick [0, 2, 4, 5] rfl (e_B_Mod_created_182     r x2 x5 x6 x1 (rEnd r) v)
    · rw [if_neg h2]
      refine ev_aload_n d_Mod_created_132 rfl rfl ?_
      refine ev_callr (Mc := M_Mod_writes) (v := some (.int ((f_Mod_writes r).1))) (h1 := (eLV :: (HD d (HF f (HW w (HM m (HS s (HG g (HR ((f_Mod_writes r).2) tl))))))))) (k2 := 0) (n2 := 0) (inv_V (q := 12) (av := []) (rest := []) rfl (ci := 6) rfl d_Mod_created_133 gw_1163 gw_1165 gw_64 mw_Mod_writes nh_Mod_writes pn_Mod_writes rfl) d_Mod_created_133 pl_Mod_writes (Nat.le_of_ble_eq_true rfl) (Nat.le_of_ble_eq_true rfl) (Nat.le_of_ble_eq_true rfl) rfl rfl (e_f_Mod_writes (tl := tl) (d := d) (f := f) (w := w) (m := m) (s := s) (g := g)  r ) (Or.inl (len1 (lenHD (lenHF (lenHW (lenHM (lenHS (lenHG (lenHR rfl))))))))) ?_
      exact ev_pick [0, 2, 4, 5] rfl (e_B_Mod_created_136     ((f_Mod_writes r).2) x2 x5 x6 ((f_Mod_writes r).1))
  · rw [if_neg h1]
    refine ev_aload_n d_Mod_created_104 rfl rfl ?_
    refine ev_callr (Mc := M_Mod_writes) (v := some (.int ((f_Mod_writes r).1))) (h1 := (eLV :: (HD d (HF f (HW w (HM m (HS s (HG g (HR ((f_Mod_writes r).2) tl))))))))) (k2 := 0) (n2 := 0) (inv_V (q := 12) (av := []) (rest := []) rfl (ci := 6) rfl d_Mod_created_105 gw_1163 gw_1165 gw_64 mw_Mod_writes nh_Mod_writes pn_Mod_writes rfl) d_Mod_created_105 pl_Mod_writes (Nat.le_of_ble_eq_true rfl) (Nat.le_of_ble_eq_true rfl) (Nat.le_of_ble_eq_true rfl) rfl rfl (e_f_Mod_writes (tl := tl) (d := d) (f := f) (w := w) (m := m) (s := s) (g := g)  r ) (Or.inl (len1 (lenHD (lenHF (lenHW (lenHM (lenHS (lenHG (lenHR rfl))))))))) ?_
    exact ev_pick [0, 2, 4, 5] rfl (e_B_Mod_created_108     ((f_Mod_writes r).2) x2 x5 x6 ((f_Mod_writes r).1))
def B_Mod_created_94   (r : RS) (x1 : Int32) (x2 : Int32) (x4 : Int32) (x5 : Int32) (x6 : Int32) (t1 : Int32) (t2 : Int32) (t3 : Int32) (t4 : Int32) : Option (Int32 × RS) :=
  bnd (f_Mod_makeLeader r t1 t2 t3 t4) (fun q => B_Mod_created_97   q.2 x1 x2 x4 x5 x6)
theorem e_B_Mod_created_94 {sc : Nat × (Nat → Int32)} {d : DS} {f : FS} {w : WS} {m : MS} {s : SS} {g : GS} {tl : List mn_E}    (r : RS) (x1 : Int32) (x2 : Int32) (x4 : Int32) (x5 : Int32) (x6 : Int32) (t1 : Int32) (t2 : Int32) (t3 : Int32) (t4 : Int32) : Ev sc 6 93 0 0 M_Mod_created 94 [(0, .ref 12), (1, .int x1), (2, .int x2), (4, .int x4), (5, .int x5), (6, .int x6)] [.int t4, .int t3, .int t2, .int t1, .ref 12] (eLV :: (HD d (HF f (HW w (HM m (HS s (HG g (HR r tl)))))))) (mapR ouI (fun z => (eLV :: (HD d (HF f (HW w (HM m (HS s (HG g (HR z tl))))))))) (B_Mod_created_94 r x1 x2 x4 x5 x6 t1 t2 t3 t4)) := by
  unfold B_Mod_created_94
  refine ev_callB (rc := (f_Mod_makeLeader r t1 t2 t3 t4)) (ou := ouV) (Hs := (fun z => (eLV :: (HD d (HF f (HW w (HM m (HS s (HG g (HR z tl)))))))))) (inv_V (q := 12) (av := [.int t1, .int t2, .int t3, .int t4]) (rest := []) rfl (ci := 6) rfl d_Mod_created_94 gw_1167 gw_1169 gw_65 mw_Mod_makeLeader nh_Mod_makeLeader pn_Mod_makeLeader rfl) d_Mod_created_94 pl_Mod_makeLeader (Nat.le_of_ble_eq_true rfl) (Nat.le_of_ble_eq_true rfl) (Nat.le_of_ble_eq_true rfl) (e_f_Mod_makeLeader (tl := tl) (d := d) (f := f) (w := w) (m := m) (s := s) (g := g)  r t1 t2 t3 t4) (fun _ => (len1 (lenHD (lenHF (lenHW (lenHM (lenHS (lenHG (lenHR rfl))))))))) (fun v z h1 => ⟨_, rfl, ?_⟩)
  exact ev_pick [0, 1, 2, 3, 4, 5] rfl (e_B_Mod_created_97     z x1 x2 x4 x5 x6)
def B_Mod_created_76   (r : RS) (x1 : Int32) (x2 : Int32) (x3 : Int32) (x4 : Int32) (x5 : Int32) (x6 : Int32) (t0 : Int32) : Option (Int32 × RS) :=
  if t0 = 0 then (B_Mod_created_97   r x1 x2 x4 x5 x6) else (if x3 = 0 then (B_Mod_created_94   r x1 x2 x4 x5 x6 x6 x5 x2 0) else (B_Mod_created_94   r x1 x2 x4 x5 x6 x6 x5 x2 1))
theorem e_B_Mod_created_76 {sc : Nat × (Nat → Int32)} {d : DS} {f : FS} {w : WS} {m : MS} {s : SS} {g : GS} {tl : List mn_E}    (r : RS) (x1 : Int32) (x2 : Int32) (x3 : Int32) (x4 : Int32) (x5 : Int32) (x6 : Int32) (t0 : Int32) : Ev sc 6 93 0 0 M_Mod_created 76 [(0, .ref 12), (1, .int x1), (2, .int x2), (3, .int x3), (4, .int x4), (5, .int x5), (6, .int x6)] [.int t0] (eLV :: (HD d (HF f (HW w (HM m (HS s (HG g (HR r tl)))))))) (mapR ouI (fun z => (eLV :: (HD d (HF f (HW w (HM m (HS s (HG g (HR z tl))))))))) (B_Mod_created_76 r x1 x2 x3 x4 x5 x6 t0)) := by
  unfold B_Mod_created_76
  refine ev_if_eq (tgt := 97) d_Mod_created_76 rfl (fun h1 => ?_) (fun h1 => ?_)
  · rw [if_pos h1]
    exact ev_pick [0, 1, 2, 4, 5, 6] rfl (e_B_Mod_created_97     r x1 x2 x4 x5 x6)
  · rw [if_neg h1]
    refine ev_aload_n d_Mod_created_79 rfl rfl ?_
    refine ev_iload d_Mod_created_80 rfl ?_
    refine ev_iload d_Mod_created_82 rfl ?_
    refine ev_iload_n d_Mod_created_84 rfl rfl ?_
    refine ev_iload_n d_Mod_created_85 rfl rfl ?_
    refine ev_if_eq (tgt := 93) d_Mod_created_86 rfl (fun h2 => ?_) (fun h2 => ?_)
    · rw [if_pos h2]
      refine ev_iconst (v := 0) d_Mod_created_93 rfl ?_
      exact ev_pick [0, 1, 2, 4, 5, 6] rfl (e_B_Mod_created_94     r x1 x2 x4 x5 x6 x6 x5 x2 0)
    · rw [if_neg h2]
      refine ev_iconst (v := 1) d_Mod_created_89 rfl ?_
      refine ev_goto (tgt := 94) d_Mod_created_90 rfl ?_
      exact ev_pick [0, 1, 2, 4, 5, 6] rfl (e_B_Mod_created_94     r x1 x2 x4 x5 x6 x6 x5 x2 1)
def B_Mod_created_70   (r : RS) (x1 : Int32) (x2 : Int32) (x3 : Int32) (x4 : Int32) (x5 : Int32) (t0 : Int32) : Option (Int32 × RS) :=
  B_Mod_created_76   ((f_Mod_writes r).2) x1 x2 x3 x4 x5 t0 ((f_Mod_writes r).1)
theorem e_B_Mod_created_70 {sc : Nat × (Nat → Int32)} {d : DS} {f : FS} {w : WS} {m : MS} {s : SS} {g : GS} {tl : List mn_E}    (r : RS) (x1 : Int32) (x2 : Int32) (x3 : Int32) (x4 : Int32) (x5 : Int32) (t0 : Int32) : Ev sc 6 93 0 0 M_Mod_created 70 [(0, .ref 12), (1, .int x1), (2, .int x2), (3, .int x3), (4, .int x4), (5, .int x5)] [.int t0] (eLV :: (HD d (HF f (HW w (HM m (HS s (HG g (HR r tl)))))))) (mapR ouI (fun z => (eLV :: (HD d (HF f (HW w (HM m (HS s (HG g (HR z tl))))))))) (B_Mod_created_70 r x1 x2 x3 x4 x5 t0)) := by
  unfold B_Mod_created_70
  refine ev_istore d_Mod_created_70 (by decide) rfl ?_
  refine ev_aload_n d_Mod_created_72 rfl rfl ?_
  refine ev_callr (Mc := M_Mod_writes) (v := some (.int ((f_Mod_writes r).1))) (h1 := (eLV :: (HD d (HF f (HW w (HM m (HS s (HG g (HR ((f_Mod_writes r).2) tl))))))))) (k2 := 0) (n2 := 0) (inv_V (q := 12) (av := []) (rest := []) rfl (ci := 6) rfl d_Mod_created_73 gw_1163 gw_1165 gw_64 mw_Mod_writes nh_Mod_writes pn_Mod_writes rfl) d_Mod_created_73 pl_Mod_writes (Nat.le_of_ble_eq_true rfl) (Nat.le_of_ble_eq_true rfl) (Nat.le_of_ble_eq_true rfl) rfl rfl (e_f_Mod_writes (tl := tl) (d := d) (f := f) (w := w) (m := m) (s := s) (g := g)  r ) (Or.inl (len1 (lenHD (lenHF (lenHW (lenHM (lenHS (lenHG (lenHR rfl))))))))) ?_
  exact ev_pick [1, 2, 3, 4, 5, 6, 0] rfl (e_B_Mod_created_76     ((f_Mod_writes r).2) x1 x2 x3 x4 x5 t0 ((f_Mod_writes r).1))
def B_Mod_created_63   (r : RS) (x1 : Int32) (x2 : Int32) (x3 : Int32) (x4 : Int32) (t0 : Int32) : Option (Int32 × RS) :=
  bnd (f_Mod_taken r 0) (fun q => B_Mod_created_70   r x1 x2 x3 x4 t0 q.1)
theorem e_B_Mod_created_63 {sc : Nat × (Nat → Int32)} {d : DS} {f : FS} {w : WS} {m : MS} {s : SS} {g : GS} {tl : List mn_E}    (r : RS) (x1 : Int32) (x2 : Int32) (x3 : Int32) (x4 : Int32) (t0 : Int32) : Ev sc 6 93 0 0 M_Mod_created 63 [(0, .ref 12), (1, .int x1), (2, .int x2), (3, .int x3), (4, .int x4)] [.int t0] (eLV :: (HD d (HF f (HW w (HM m (HS s (HG g (HR r tl)))))))) (mapR ouI (fun z => (eLV :: (HD d (HF f (HW w (HM m (HS s (HG g (HR z tl))))))))) (B_Mod_created_63 r x1 x2 x3 x4 t0)) := by
  unfold B_Mod_created_63
  refine ev_istore d_Mod_created_63 (by decide) rfl ?_
  refine ev_aload_n d_Mod_created_65 rfl rfl ?_
  refine ev_iconst (v := 0) d_Mod_created_66 rfl ?_
  refine ev_callB (rc := (f_Mod_taken r 0)) (ou := ouI) (Hs := (fun z => (eLV :: (HD d (HF f (HW w (HM m (HS s (HG g (HR r tl)))))))))) (inv_V (q := 12) (av := [.int 0]) (rest := []) rfl (ci := 6) rfl d_Mod_created_67 gw_1159 gw_1161 gw_63 mw_Mod_taken nh_Mod_taken pn_Mod_taken rfl) d_Mod_created_67 pl_Mod_taken (Nat.le_of_ble_eq_true rfl) (Nat.le_of_ble_eq_true rfl) (Nat.le_of_ble_eq_true rfl) (e_f_Mod_taken (tl := tl) (d := d) (f := f) (w := w) (m := m) (s := s) (g := g)  r 0) (fun _ => (len1 (lenHD (lenHF (lenHW (lenHM (lenHS (lenHG (lenHR rfl))))))))) (fun v z h1 => ⟨_, rfl, ?_⟩)
  exact ev_pick [1, 2, 3, 4, 5, 0] rfl (e_B_Mod_created_70     r x1 x2 x3 x4 t0 v)
def B_Mod_created_49   (r : RS) (x1 : Int32) (x2 : Int32) (x3 : Int32) (x4 : Int32) (t0 : Int32) : Option (Int32 × RS) :=
  if ¬ t0 = 0 then (bnd (f_Mod_lowestSerial r) (fun q => B_Mod_created_63   r x1 x2 x3 x4 q.1)) else (B_Mod_created_57   (rSFau r 4))
theorem e_B_Mod_created_49 {sc : Nat × (Nat → Int32)} {d : DS} {f : FS} {w : WS} {m : MS} {s : SS} {g : GS} {tl : List mn_E}    (r : RS) (x1 : Int32) (x2 : Int32) (x3 : Int32) (x4 : Int32) (t0 : Int32) : Ev sc 6 93 0 0 M_Mod_created 49 [(0, .ref 12), (1, .int x1), (2, .int x2), (3, .int x3), (4, .int x4)] [.int t0] (eLV :: (HD d (HF f (HW w (HM m (HS s (HG g (HR r tl)))))))) (mapR ouI (fun z => (eLV :: (HD d (HF f (HW w (HM m (HS s (HG g (HR z tl))))))))) (B_Mod_created_49 r x1 x2 x3 x4 t0)) := by
  unfold B_Mod_created_49
  refine ev_if_ne (tgt := 59) d_Mod_created_49 rfl (fun h1 => ?_) (fun h1 => ?_)
  · rw [if_pos h1]
    refine ev_aload_n d_Mod_created_59 rfl rfl ?_
    refine ev_callB (rc := (f_Mod_lowestSerial r)) (ou := ouI) (Hs := (fun z => (eLV :: (HD d (HF f (HW w (HM m (HS s (HG g (HR r tl)))))))))) (inv_V (q := 12) (av := []) (rest := []) rfl (ci := 6) rfl d_Mod_created_60 gw_1155 gw_1157 gw_62 mw_Mod_lowestSerial nh_Mod_lowestSerial pn_Mod_lowestSerial rfl) d_Mod_created_60 pl_Mod_lowestSerial (Nat.le_of_ble_eq_true rfl) (Nat.le_of_ble_eq_true rfl) (Nat.le_of_ble_eq_true rfl) (e_f_Mod_lowestSerial (tl := tl) (d := d) (f := f) (w := w) (m := m) (s := s) (g := g)  r ) (fun _ => (len1 (lenHD (lenHF (lenHW (lenHM (lenHS (lenHG (lenHR rfl))))))))) (fun v z h2 => ⟨_, rfl, ?_⟩)
    exact ev_pick [0, 1, 2, 3, 4] rfl (e_B_Mod_created_63     r x1 x2 x3 x4 v)
  · rw [if_neg h1]
    refine ev_aload_n d_Mod_created_52 rfl rfl ?_
    refine ev_iconst (v := 4) d_Mod_created_53 rfl ?_
    refine ev_put (h2 := (eLV :: (HD d (HF f (HW w (HM m (HS s (HG g (HR (rSFau r 4) tl))))))))) gi_Mod ft_Mod fo_Mod fn_Mod (ci := 6) rfl rfl 1 (by decide) gw_1002 rfl rfl (fun _ => rfl) (fun _ => rfl) (Nat.le_of_ble_eq_true rfl) rfl d_Mod_created_54 ?_
    exact ev_pick [] rfl (e_B_Mod_created_57     (rSFau r 4))
def B_Mod_created_46   (r : RS) (x1 : Int32) (x2 : Int32) (x3 : Int32) (x4 : Int32) (t1 : Int32) : Option (Int32 × RS) :=
  bnd (f_Mod_takes r t1) (fun q => B_Mod_created_49   q.2 x1 x2 x3 x4 q.1)
theorem e_B_Mod_created_46 {sc : Nat × (Nat → Int32)} {d : DS} {f : FS} {w : WS} {m : MS} {s : SS} {g : GS} {tl : List mn_E}    (r : RS) (x1 : Int32) (x2 : Int32) (x3 : Int32) (x4 : Int32) (t1 : Int32) : Ev sc 6 93 0 0 M_Mod_created 46 [(0, .ref 12), (1, .int x1), (2, .int x2), (3, .int x3), (4, .int x4)] [.int t1, .ref 12] (eLV :: (HD d (HF f (HW w (HM m (HS s (HG g (HR r tl)))))))) (mapR ouI (fun z => (eLV :: (HD d (HF f (HW w (HM m (HS s (HG g (HR z tl))))))))) (B_Mod_created_46 r x1 x2 x3 x4 t1)) := by
  unfold B_Mod_created_46
  refine ev_callB (rc := (f_Mod_takes r t1)) (ou := ouI) (Hs := (fun z => (eLV :: (HD d (HF f (HW w (HM m (HS s (HG g (HR z tl)))))))))) (inv_V (q := 12) (av := [.int t1]) (rest := []) rfl (ci := 6) rfl d_Mod_created_46 gw_1143 gw_1145 gw_59 mw_Mod_takes nh_Mod_takes pn_Mod_takes rfl) d_Mod_created_46 pl_Mod_takes (Nat.le_of_ble_eq_true rfl) (Nat.le_of_ble_eq_true rfl) (Nat.le_of_ble_eq_true rfl) (e_f_Mod_takes (tl := tl) (d := d) (f := f) (w := w) (m := m) (s := s) (g := g)  r t1) (fun _ => (len1 (lenHD (lenHF (lenHW (lenHM (lenHS (lenHG (lenHR rfl))))))))) (fun v z h1 => ⟨_, rfl, ?_⟩)
  exact ev_pick [0, 1, 2, 3, 4] rfl (e_B_Mod_created_49     z x1 x2 x3 x4 v)
def B_Mod_created_33   (r : RS) (x1 : Int32) (x2 : Int32) (x3 : Int32) (t0 : Int32) : Option (Int32 × RS) :=
  if t0 = 0 then (B_Mod_created_46   r x1 x2 x3 t0 2) else (B_Mod_created_46   r x1 x2 x3 t0 1)
theorem e_B_Mod_created_33 {sc : Nat × (Nat → Int32)} {d : DS} {f : FS} {w : WS} {m : MS} {s : SS} {g : GS} {tl : List mn_E}    (r : RS) (x1 : Int32) (x2 : Int32) (x3 : Int32) (t0 : Int32) : Ev sc 6 93 0 0 M_Mod_created 33 [(0, .ref 12), (1, .int x1), (2, .int x2), (3, .int x3)] [.int t0] (eLV :: (HD d (HF f (HW w (HM m (HS s (HG g (HR r tl)))))))) (mapR ouI (fun z => (eLV :: (HD d (HF f (HW w (HM m (HS s (HG g (HR z tl))))))))) (B_Mod_created_33 r x1 x2 x3 t0)) := by
  unfold B_Mod_created_33
  refine ev_istore d_Mod_created_33 (by decide) rfl ?_
  refine ev_aload_n d_Mod_created_35 rfl rfl ?_
  refine ev_iload d_Mod_created_36 rfl ?_
  refine ev_if_eq (tgt := 45) d_Mod_created_38 rfl (fun h1 => ?_) (fun h1 => ?_)
  · rw [if_pos h1]
    refine ev_iconst (v := 2) d_Mod_created_45 rfl ?_
    exact ev_pick [1, 2, 3, 4, 0] rfl (e_B_Mod_created_46     r x1 x2 x3 t0 2)
  · rw [if_neg h1]
    refine ev_iconst (v := 1) d_Mod_created_41 rfl ?_
    refine ev_goto (tgt := 46) d_Mod_created_42 rfl ?_
    exact ev_pick [1, 2, 3, 4, 0] rfl (e_B_Mod_created_46     r x1 x2 x3 t0 1)
def B_Mod_created_28   (r : RS) (x1 : Int32) (x2 : Int32) (x3 : Int32) : Option (Int32 × RS) :=
  B_Mod_created_33   r x1 x2 x3 1
theorem e_B_Mod_created_28 {sc : Nat × (Nat → Int32)} {d : DS} {f : FS} {w : WS} {m : MS} {s : SS} {g : GS} {tl : List mn_E}    (r : RS) (x1 : Int32) (x2 : Int32) (x3 : Int32) : Ev sc 6 93 0 0 M_Mod_created 28 [(0, .ref 12), (1, .int x1), (2, .int x2), (3, .int x3)] [] (eLV :: (HD d (HF f (HW w (HM m (HS s (HG g (HR r tl)))))))) (mapR ouI (fun z => (eLV :: (HD d (HF f (HW w (HM m (HS s (HG g (HR z tl))))))))) (B_Mod_created_28 r x1 x2 x3)) := by
  unfold B_Mod_created_28
  refine ev_iconst (v := 1) d_Mod_created_28 rfl ?_
  refine ev_goto (tgt := 33) d_Mod_created_29 rfl ?_
  exact ev_pick [0, 1, 2, 3] rfl (e_B_Mod_created_33     r x1 x2 x3 1)
def B_Mod_created_32   (r : RS) (x1 : Int32) (x2 : Int32) (x3 : Int32) : Option (Int32 × RS) :=
  B_Mod_created_33   r x1 x2 x3 0
theorem e_B_Mod_created_32 {sc : Nat × (Nat → Int32)} {d : DS} {f : FS} {w : WS} {m : MS} {s : SS} {g : GS} {tl : List mn_E}    (r : RS) (x1 : Int32) (x2 : Int32) (x3 : Int32) : Ev sc 6 93 0 0 M_Mod_created 32 [(0, .ref 12), (1, .int x1), (2, .int x2), (3, .int x3)] [] (eLV :: (HD d (HF f (HW w (HM m (HS s (HG g (HR r tl)))))))) (mapR ouI (fun z => (eLV :: (HD d (HF f (HW w (HM m (HS s (HG g (HR z tl))))))))) (B_Mod_created_32 r x1 x2 x3)) := by
  unfold B_Mod_created_32
  refine ev_iconst (v := 0) d_Mod_created_32 rfl ?_
  exact ev_pick [0, 1, 2, 3] rfl (e_B_Mod_created_33     r x1 x2 x3 0)
def f_Mod_created   (r : RS) (x1 : Int32) (x2 : Int32) (x3 : Int32) : Option (Int32 × RS) :=
  if 0 ≤ (rHAt r) then (B_Mod_created_28   r x1 x2 x3) else (if (rEnd r) = x1 then (B_Mod_created_32   r x1 x2 x3) else (if inB (rEnd r) 40 then (if 4 < (rUse r (rEnd r).toNatClampNeg) then (B_Mod_created_32   r x1 x2 x3) else (B_Mod_created_28   r x1 x2 x3)) else none))
theorem e_f_Mod_created {sc : Nat × (Nat → Int32)} {d : DS} {f : FS} {w : WS} {m : MS} {s : SS} {g : GS} {tl : List mn_E}    (r : RS) (x1 : Int32) (x2 : Int32) (x3 : Int32) : Ev sc 6 93 0 0 M_Mod_created 0 [(0, .ref 12), (1, .int x1), (2, .int x2), (3, .int x3)] [] (eLV :: (HD d (HF f (HW w (HM m (HS s (HG g (HR r tl)))))))) (mapR ouI (fun z => (eLV :: (HD d (HF f (HW w (HM m (HS s (HG g (HR z tl))))))))) (f_Mod_created r x1 x2 x3)) := by
  unfold f_Mod_created
  refine ev_aload_n d_Mod_created_0 rfl rfl ?_
  refine ev_get (v := .int (rHAt r)) gi_Mod (ci := 6) rfl rfl 16 (by decide) gw_1017 rfl d_Mod_created_1 ?_
  refine ev_if_ge (tgt := 28) d_Mod_created_4 rfl (fun h1 => ?_) (fun h1 => ?_)
  · rw [if_pos h1]
    exact ev_pick [0, 1, 2, 3] rfl (e_B_Mod_created_28     r x1 x2 x3)
  · rw [if_neg h1]
    refine ev_aload_n d_Mod_created_7 rfl rfl ?_
    refine ev_get (v := .int (rEnd r)) gi_Mod (ci := 6) rfl rfl 18 (by decide) gw_1019 rfl d_Mod_created_8 ?_
    refine ev_iload_n d_Mod_created_11 rfl rfl ?_
    refine ev_icmp_eq (tgt := 32) d_Mod_created_12 rfl (fun h2 => ?_) (fun h2 => ?_)
    · rw [if_pos h2]
      exact ev_pick [0, 1, 2, 3] rfl (e_B_Mod_created_32     r x1 x2 x3)
    · rw [if_neg h2]
      refine ev_aload_n d_Mod_created_15 rfl rfl ?_
      refine ev_get (v := .ref 15) gi_Mod (ci := 6) rfl rfl 4 (by decide) gw_1005 rfl d_Mod_created_16 ?_
      refine ev_aload_n d_Mod_created_19 rfl rfl ?_
      refine ev_get (v := .int (rEnd r)) gi_Mod (ci := 6) rfl rfl 18 (by decide) gw_1019 rfl d_Mod_created_20 ?_
      refine ev_inB (fun h3 => ?_)
      refine ev_iaload rfl (inB_of h3) d_Mod_created_23 ?_
      refine ev_iconst (v := 4) d_Mod_created_24 rfl ?_
      refine ev_icmp_gt (tgt := 32) d_Mod_created_25 rfl (fun h4 => ?_) (fun h4 => ?_)
      · rw [if_pos h4]
        exact ev_pick [0, 1, 2, 3] rfl (e_B_Mod_created_32     r x1 x2 x3)
      · rw [if_neg h4]
        exact ev_pick [0, 1, 2, 3] rfl (e_B_Mod_created_28     r x1 x2 x3)
def B_Mod_create_118   (r : RS) (t0 : Int32) : Option (Int32 × RS) :=
  some (t0, r)
theorem e_B_Mod_create_118 {sc : Nat × (Nat → Int32)} {d : DS} {f : FS} {w : WS} {m : MS} {s : SS} {g : GS} {tl : List mn_E}    (r : RS) (t0 : Int32) : Ev sc 7 111 0 0 M_Mod_create 118 [] [.int t0] (eLV :: (HD d (HF f (HW w (HM m (HS s (HG g (HR r tl)))))))) (mapR ouI (fun z => (eLV :: (HD d (HF f (HW w (HM m (HS s (HG g (HR z tl))))))))) (B_Mod_create_118 r t0)) := by
  unfold B_Mod_create_118
  exact ev_zret (ty := .int) rfl rfl d_Mod_create_118
def B_Mod_create_107   (r : RS) (x5 : Int32) : Option (Int32 × RS) :=
  B_Mod_create_118   ((f_Mod_ends r x5 1 2 3 4 4).2) ((f_Mod_ends r x5 1 2 3 4 4).1)
theorem e_B_Mod_create_107 {sc : Nat × (Nat → Int32)} {d : DS} {f : FS} {w : WS} {m : MS} {s : SS} {g : GS} {tl : List mn_E}    (r : RS) (x5 : Int32) : Ev sc 7 111 0 0 M_Mod_create 107 [(0, .ref 12), (5, .int x5)] [] (eLV :: (HD d (HF f (HW w (HM m (HS s (HG g (HR r tl)))))))) (mapR ouI (fun z => (eLV :: (HD d (HF f (HW w (HM m (HS s (HG g (HR z tl))))))))) (B_Mod_create_107 r x5)) := by
  unfold B_Mod_create_107
  refine ev_aload_n d_Mod_create_107 rfl rfl ?_
  refine ev_iload d_Mod_create_108 rfl ?_
  refine ev_iconst (v := 1) d_Mod_create_110 rfl ?_
  refine ev_iconst (v := 2) d_Mod_create_111 rfl ?_
  refine ev_iconst (v := 3) d_Mod_create_112 rfl ?_
  refine ev_iconst (v := 4) d_Mod_create_113 rfl ?_
  refine ev_iconst (v := 4) d_Mod_create_114 rfl ?_
  refine ev_callr (Mc := M_Mod_ends) (v := some (.int ((f_Mod_ends r x5 1 2 3 4 4).1))) (h1 := (eLV :: (HD d (HF f (HW w (HM m (HS s (HG g (HR ((f_Mod_ends r x5 1 2 3 4 4).2) tl))))))))) (k2 := 0) (n2 := 0) (inv_V (q := 12) (av := [.int x5, .int 1, .int 2, .int 3, .int 4, .int 4]) (rest := []) rfl (ci := 6) rfl d_Mod_create_115 gw_1187 gw_1189 gw_70 mw_Mod_ends nh_Mod_ends pn_Mod_ends rfl) d_Mod_create_115 pl_Mod_ends (Nat.le_of_ble_eq_true rfl) (Nat.le_of_ble_eq_true rfl) (Nat.le_of_ble_eq_true rfl) rfl rfl (e_f_Mod_ends (tl := tl) (d := d) (f := f) (w := w) (m := m) (s := s) (g := g)  r x5 1 2 3 4 4) (Or.inl (len1 (lenHD (lenHF (lenHW (lenHM (lenHS (lenHG (lenHR rfl))))))))) ?_
  exact ev_pick [] rfl (e_B_Mod_create_118     ((f_Mod_ends r x5 1 2 3 4 4).2) ((f_Mod_ends r x5 1 2 3 4 4).1))
def B_Mod_create_105   (r : RS) (t0 : Int32) : Option (Int32 × RS) :=
  B_Mod_create_107   r t0
theorem e_B_Mod_create_105 {sc : Nat × (Nat → Int32)} {d : DS} {f : FS} {w : WS} {m : MS} {s : SS} {g : GS} {tl : List mn_E}    (r : RS) (t0 : Int32) : Ev sc 7 111 0 0 M_Mod_create 105 [(0, .ref 12)] [.int t0] (eLV :: (HD d (HF f (HW w (HM m (HS s (HG g (HR r tl)))))))) (mapR ouI (fun z => (eLV :: (HD d (HF f (HW w (HM m (HS s (HG g (HR z tl))))))))) (B_Mod_create_105 r t0)) := by
  unfold B_Mod_create_105
  refine ev_istore d_Mod_create_105 (by decide) rfl ?_
  exact ev_pick [1, 0] rfl (e_B_Mod_create_107     r t0)
def B_Mod_create_90   (r : RS) (x2 : Int32) (x3 : Int32) (x4 : Int32) (x5 : Int32) : Option (Int32 × RS) :=
  if ¬ (rFau r) = 0 then (B_Mod_create_107   r x5) else (bnd (f_Mod_created r x4 x2 x3) (fun q => B_Mod_create_105   q.2 q.1))
theorem e_B_Mod_create_90 {sc : Nat × (Nat → Int32)} {d : DS} {f : FS} {w : WS} {m : MS} {s : SS} {g : GS} {tl : List mn_E}    (r : RS) (x2 : Int32) (x3 : Int32) (x4 : Int32) (x5 : Int32) : Ev sc 7 111 0 0 M_Mod_create 90 [(0, .ref 12), (2, .int x2), (3, .int x3), (4, .int x4), (5, .int x5)] [] (eLV :: (HD d (HF f (HW w (HM m (HS s (HG g (HR r tl)))))))) (mapR ouI (fun z => (eLV :: (HD d (HF f (HW w (HM m (HS s (HG g (HR z tl))))))))) (B_Mod_create_90 r x2 x3 x4 x5)) := by
  unfold B_Mod_create_90
  refine ev_aload_n d_Mod_create_90 rfl rfl ?_
  refine ev_get (v := .int (rFau r)) gi_Mod (ci := 6) rfl rfl 1 (by decide) gw_1002 rfl d_Mod_create_91 ?_
  refine ev_if_ne (tgt := 107) d_Mod_create_94 rfl (fun h1 => ?_) (fun h1 => ?_)
  · rw [if_pos h1]
    exact ev_pick [0, 4] rfl (e_B_Mod_create_107     r x5)
  · rw [if_neg h1]
    refine ev_aload_n d_Mod_create_97 rfl rfl ?_
    refine ev_iload d_Mod_create_98 rfl ?_
    refine ev_iload_n d_Mod_create_100 rfl rfl ?_
    refine ev_iload_n d_Mod_create_101 rfl rfl ?_
    refine ev_callB (rc := (f_Mod_created r x4 x2 x3)) (ou := ouI) (Hs := (fun z => (eLV :: (HD d (HF f (HW w (HM m (HS s (HG g (HR z tl)))))))))) (inv_V (q := 12) (av := [.int x4, .int x2, .int x3]) (rest := []) rfl (ci := 6) rfl d_Mod_create_102 gw_1139 gw_1141 gw_58 mw_Mod_created nh_Mod_created pn_Mod_created rfl) d_Mod_create_102 pl_Mod_created (Nat.le_of_ble_eq_true rfl) (Nat.le_of_ble_eq_true rfl) (Nat.le_of_ble_eq_true rfl) (e_f_Mod_created (tl := tl) (d := d) (f := f) (w := w) (m := m) (s := s) (g := g)  r x4 x2 x3) (fun _ => (len1 (lenHD (lenHF (lenHW (lenHM (lenHS (lenHG (lenHR rfl))))))))) (fun v z h2 => ⟨_, rfl, ?_⟩)
    exact ev_pick [0] rfl (e_B_Mod_create_105     z v)
def B_Mod_create_87   (r : RS) (x2 : Int32) (x3 : Int32) (x4 : Int32) (x5 : Int32) (t1 : Int32) : Option (Int32 × RS) :=
  B_Mod_create_90   (rSFau r t1) x2 x3 x4 x5
theorem e_B_Mod_create_87 {sc : Nat × (Nat → Int32)} {d : DS} {f : FS} {w : WS} {m : MS} {s : SS} {g : GS} {tl : List mn_E}    (r : RS) (x2 : Int32) (x3 : Int32) (x4 : Int32) (x5 : Int32) (t1 : Int32) : Ev sc 7 111 0 0 M_Mod_create 87 [(0, .ref 12), (2, .int x2), (3, .int x3), (4, .int x4), (5, .int x5)] [.int t1, .ref 12] (eLV :: (HD d (HF f (HW w (HM m (HS s (HG g (HR r tl)))))))) (mapR ouI (fun z => (eLV :: (HD d (HF f (HW w (HM m (HS s (HG g (HR z tl))))))))) (B_Mod_create_87 r x2 x3 x4 x5 t1)) := by
  unfold B_Mod_create_87
  refine ev_put (h2 := (eLV :: (HD d (HF f (HW w (HM m (HS s (HG g (HR (rSFau r t1) tl))))))))) gi_Mod ft_Mod fo_Mod fn_Mod (ci := 6) rfl rfl 1 (by decide) gw_1002 rfl rfl (fun _ => rfl) (fun _ => rfl) (Nat.le_of_ble_eq_true rfl) rfl d_Mod_create_87 ?_
  exact ev_pick [0, 1, 2, 3, 4] rfl (e_B_Mod_create_90     (rSFau r t1) x2 x3 x4 x5)
def B_Mod_create_71   (r : RS) (x2 : Int32) (x3 : Int32) (x4 : Int32) (x5 : Int32) (t0 : Int32) : Option (Int32 × RS) :=
  if t0 = 0 then (B_Mod_create_107   r x5) else (if (rFAt r) < 0 then (B_Mod_create_87   r x2 x3 x4 x5 0) else (B_Mod_create_87   r x2 x3 x4 x5 4))
theorem e_B_Mod_create_71 {sc : Nat × (Nat → Int32)} {d : DS} {f : FS} {w : WS} {m : MS} {s : SS} {g : GS} {tl : List mn_E}    (r : RS) (x2 : Int32) (x3 : Int32) (x4 : Int32) (x5 : Int32) (t0 : Int32) : Ev sc 7 111 0 0 M_Mod_create 71 [(0, .ref 12), (2, .int x2), (3, .int x3), (4, .int x4), (5, .int x5)] [.int t0] (eLV :: (HD d (HF f (HW w (HM m (HS s (HG g (HR r tl)))))))) (mapR ouI (fun z => (eLV :: (HD d (HF f (HW w (HM m (HS s (HG g (HR z tl))))))))) (B_Mod_create_71 r x2 x3 x4 x5 t0)) := by
  unfold B_Mod_create_71
  refine ev_if_eq (tgt := 107) d_Mod_create_71 rfl (fun h1 => ?_) (fun h1 => ?_)
  · rw [if_pos h1]
    exact ev_pick [0, 4] rfl (e_B_Mod_create_107     r x5)
  · rw [if_neg h1]
    refine ev_aload_n d_Mod_create_74 rfl rfl ?_
    refine ev_aload_n d_Mod_create_75 rfl rfl ?_
    refine ev_get (v := .int (rFAt r)) gi_Mod (ci := 6) rfl rfl 19 (by decide) gw_1020 rfl d_Mod_create_76 ?_
    refine ev_if_lt (tgt := 86) d_Mod_create_79 rfl (fun h2 => ?_) (fun h2 => ?_)
    · rw [if_pos h2]
      refine ev_iconst (v := 0) d_Mod_create_86 rfl ?_
      exact ev_pick [0, 1, 2, 3, 4] rfl (e_B_Mod_create_87     r x2 x3 x4 x5 0)
    · rw [if_neg h2]
      refine ev_iconst (v := 4) d_Mod_create_82 rfl ?_
      refine ev_goto (tgt := 87) d_Mod_create_83 rfl ?_
      exact ev_pick [0, 1, 2, 3, 4] rfl (e_B_Mod_create_87     r x2 x3 x4 x5 4)
def B_Mod_create_58   (r : RS) (x2 : Int32) (x3 : Int32) (x4 : Int32) (x5 : Int32) (x6 : Int32) : Option (Int32 × RS) :=
  if x6 = 0 then (B_Mod_create_107   r x5) else (bnd (f_Mod_go r x4 0 x2) (fun q => B_Mod_create_71   q.2 x2 x3 x4 x5 q.1))
theorem e_B_Mod_create_58 {sc : Nat × (Nat → Int32)} {d : DS} {f : FS} {w : WS} {m : MS} {s : SS} {g : GS} {tl : List mn_E}    (r : RS) (x2 : Int32) (x3 : Int32) (x4 : Int32) (x5 : Int32) (x6 : Int32) : Ev sc 7 111 0 0 M_Mod_create 58 [(0, .ref 12), (2, .int x2), (3, .int x3), (4, .int x4), (5, .int x5), (6, .int x6)] [] (eLV :: (HD d (HF f (HW w (HM m (HS s (HG g (HR r tl)))))))) (mapR ouI (fun z => (eLV :: (HD d (HF f (HW w (HM m (HS s (HG g (HR z tl))))))))) (B_Mod_create_58 r x2 x3 x4 x5 x6)) := by
  unfold B_Mod_create_58
  refine ev_iload d_Mod_create_58 rfl ?_
  refine ev_if_eq (tgt := 107) d_Mod_create_60 rfl (fun h1 => ?_) (fun h1 => ?_)
  · rw [if_pos h1]
    exact ev_pick [0, 4] rfl (e_B_Mod_create_107     r x5)
  · rw [if_neg h1]
    refine ev_aload_n d_Mod_create_63 rfl rfl ?_
    refine ev_iload d_Mod_create_64 rfl ?_
    refine ev_iconst (v := 0) d_Mod_create_66 rfl ?_
    refine ev_iload_n d_Mod_create_67 rfl rfl ?_
    refine ev_callB (rc := (f_Mod_go r x4 0 x2)) (ou := ouI) (Hs := (fun z => (eLV :: (HD d (HF f (HW w (HM m (HS s (HG g (HR z tl)))))))))) (inv_V (q := 12) (av := [.int x4, .int 0, .int x2]) (rest := []) rfl (ci := 6) rfl d_Mod_create_68 gw_1127 gw_1129 gw_55 mw_Mod_go nh_Mod_go pn_Mod_go rfl) d_Mod_create_68 pl_Mod_go (Nat.le_of_ble_eq_true rfl) (Nat.le_of_ble_eq_true rfl) (Nat.le_of_ble_eq_true rfl) (e_f_Mod_go (tl := tl) (d := d) (f := f) (w := w) (m := m) (s := s) (g := g)  r x4 0 x2) (fun _ => (len1 (lenHD (lenHF (lenHW (lenHM (lenHS (lenHG (lenHR rfl))))))))) (fun v z h2 => ⟨_, rfl, ?_⟩)
    exact ev_pick [0, 1, 2, 3, 4] rfl (e_B_Mod_create_71     z x2 x3 x4 x5 v)
def B_Mod_create_55   (r : RS) (x2 : Int32) (x3 : Int32) (x4 : Int32) (x5 : Int32) (x6 : Int32) (t1 : Int32) : Option (Int32 × RS) :=
  B_Mod_create_58   (rSFau r t1) x2 x3 x4 x5 x6
theorem e_B_Mod_create_55 {sc : Nat × (Nat → Int32)} {d : DS} {f : FS} {w : WS} {m : MS} {s : SS} {g : GS} {tl : List mn_E}    (r : RS) (x2 : Int32) (x3 : Int32) (x4 : Int32) (x5 : Int32) (x6 : Int32) (t1 : Int32) : Ev sc 7 111 0 0 M_Mod_create 55 [(0, .ref 12), (2, .int x2), (3, .int x3), (4, .int x4), (5, .int x5), (6, .int x6)] [.int t1, .ref 12] (eLV :: (HD d (HF f (HW w (HM m (HS s (HG g (HR r tl)))))))) (mapR ouI (fun z => (eLV :: (HD d (HF f (HW w (HM m (HS s (HG g (HR z tl))))))))) (B_Mod_create_55 r x2 x3 x4 x5 x6 t1)) := by
  unfold B_Mod_create_55
  refine ev_put (h2 := (eLV :: (HD d (HF f (HW w (HM m (HS s (HG g (HR (rSFau r t1) tl))))))))) gi_Mod ft_Mod fo_Mod fn_Mod (ci := 6) rfl rfl 1 (by decide) gw_1002 rfl rfl (fun _ => rfl) (fun _ => rfl) (Nat.le_of_ble_eq_true rfl) rfl d_Mod_create_55 ?_
  exact ev_pick [0, 1, 2, 3, 4, 5] rfl (e_B_Mod_create_58     (rSFau r t1) x2 x3 x4 x5 x6)
def B_Mod_create_42   (r : RS) (x2 : Int32) (x3 : Int32) (x4 : Int32) (x5 : Int32) (t0 : Int32) : Option (Int32 × RS) :=
  if t0 = 0 then (B_Mod_create_55   r x2 x3 x4 x5 t0 3) else (B_Mod_create_55   r x2 x3 x4 x5 t0 0)
theorem e_B_Mod_create_42 {sc : Nat × (Nat → Int32)} {d : DS} {f : FS} {w : WS} {m : MS} {s : SS} {g : GS} {tl : List mn_E}    (r : RS) (x2 : Int32) (x3 : Int32) (x4 : Int32) (x5 : Int32) (t0 : Int32) : Ev sc 7 111 0 0 M_Mod_create 42 [(0, .ref 12), (2, .int x2), (3, .int x3), (4, .int x4), (5, .int x5)] [.int t0] (eLV :: (HD d (HF f (HW w (HM m (HS s (HG g (HR r tl)))))))) (mapR ouI (fun z => (eLV :: (HD d (HF f (HW w (HM m (HS s (HG g (HR z tl))))))))) (B_Mod_create_42 r x2 x3 x4 x5 t0)) := by
  unfold B_Mod_create_42
  refine ev_istore d_Mod_create_42 (by decide) rfl ?_
  refine ev_aload_n d_Mod_create_44 rfl rfl ?_
  refine ev_iload d_Mod_create_45 rfl ?_
  refine ev_if_eq (tgt := 54) d_Mod_create_47 rfl (fun h1 => ?_) (fun h1 => ?_)
  · rw [if_pos h1]
    refine ev_iconst (v := 3) d_Mod_create_54 rfl ?_
    exact ev_pick [1, 2, 3, 4, 5, 0] rfl (e_B_Mod_create_55     r x2 x3 x4 x5 t0 3)
  · rw [if_neg h1]
    refine ev_iconst (v := 0) d_Mod_create_50 rfl ?_
    refine ev_goto (tgt := 55) d_Mod_create_51 rfl ?_
    exact ev_pick [1, 2, 3, 4, 5, 0] rfl (e_B_Mod_create_55     r x2 x3 x4 x5 t0 0)
def B_Mod_create_41   (r : RS) (x2 : Int32) (x3 : Int32) (x4 : Int32) (x5 : Int32) : Option (Int32 × RS) :=
  B_Mod_create_42   r x2 x3 x4 x5 0
theorem e_B_Mod_create_41 {sc : Nat × (Nat → Int32)} {d : DS} {f : FS} {w : WS} {m : MS} {s : SS} {g : GS} {tl : List mn_E}    (r : RS) (x2 : Int32) (x3 : Int32) (x4 : Int32) (x5 : Int32) : Ev sc 7 111 0 0 M_Mod_create 41 [(0, .ref 12), (2, .int x2), (3, .int x3), (4, .int x4), (5, .int x5)] [] (eLV :: (HD d (HF f (HW w (HM m (HS s (HG g (HR r tl)))))))) (mapR ouI (fun z => (eLV :: (HD d (HF f (HW w (HM m (HS s (HG g (HR z tl))))))))) (B_Mod_create_41 r x2 x3 x4 x5)) := by
  unfold B_Mod_create_41
  refine ev_iconst (v := 0) d_Mod_create_41 rfl ?_
  exact ev_pick [0, 1, 2, 3, 4] rfl (e_B_Mod_create_42     r x2 x3 x4 x5 0)
def B_Mod_create_23   (r : RS) (x2 : Int32) (x3 : Int32) (x4 : Int32) (x5 : Int32) (t0 : Int32) : Option (Int32 × RS) :=
  if t0 = 0 then (B_Mod_create_41   r x2 x3 x4 x5) else (if ((f_Mod_in x2 1 9999).1) = 0 then (B_Mod_create_41   r x2 x3 x4 x5) else (B_Mod_create_42   r x2 x3 x4 x5 1))
theorem e_B_Mod_create_23 {sc : Nat × (Nat → Int32)} {d : DS} {f : FS} {w : WS} {m : MS} {s : SS} {g : GS} {tl : List mn_E}    (r : RS) (x2 : Int32) (x3 : Int32) (x4 : Int32) (x5 : Int32) (t0 : Int32) : Ev sc 7 111 0 0 M_Mod_create 23 [(0, .ref 12), (2, .int x2), (3, .int x3), (4, .int x4), (5, .int x5)] [.int t0] (eLV :: (HD d (HF f (HW w (HM m (HS s (HG g (HR r tl)))))))) (mapR ouI (fun z => (eLV :: (HD d (HF f (HW w (HM m (HS s (HG g (HR z tl))))))))) (B_Mod_create_23 r x2 x3 x4 x5 t0)) := by
  unfold B_Mod_create_23
  refine ev_if_eq (tgt := 41) d_Mod_create_23 rfl (fun h1 => ?_) (fun h1 => ?_)
  · rw [if_pos h1]
    exact ev_pick [0, 1, 2, 3, 4] rfl (e_B_Mod_create_41     r x2 x3 x4 x5)
  · rw [if_neg h1]
    refine ev_iload_n d_Mod_create_26 rfl rfl ?_
    refine ev_iconst (v := 1) d_Mod_create_27 rfl ?_
    refine ev_sipush (v := 9999) d_Mod_create_28 rfl ?_
    refine ev_callr (Mc := M_Mod_in) (v := some (.int ((f_Mod_in x2 1 9999).1))) (h1 := (eLV :: (HD d (HF f (HW w (HM m (HS s (HG g (HR r tl))))))))) (k2 := 0) (n2 := 0) (inv_S (av := [.int x2, .int 1, .int 9999]) (rest := []) d_Mod_create_31 gw_1108 gw_1109 gw_108 mw_Mod_in nh_Mod_in pn_Mod_in rfl) d_Mod_create_31 pl_Mod_in (Nat.le_of_ble_eq_true rfl) (Nat.le_of_ble_eq_true rfl) (Nat.le_of_ble_eq_true rfl) rfl rfl (e_f_Mod_in (hh := (eLV :: (HD d (HF f (HW w (HM m (HS s (HG g (HR r tl)))))))))   x2 1 9999) (Or.inl (len1 (lenHD (lenHF (lenHW (lenHM (lenHS (lenHG (lenHR rfl))))))))) ?_
    refine ev_if_eq (tgt := 41) d_Mod_create_34 rfl (fun h2 => ?_) (fun h2 => ?_)
    · rw [if_pos h2]
      exact ev_pick [0, 1, 2, 3, 4] rfl (e_B_Mod_create_41     r x2 x3 x4 x5)
    · rw [if_neg h2]
      refine ev_iconst (v := 1) d_Mod_create_37 rfl ?_
      refine ev_goto (tgt := 42) d_Mod_create_38 rfl ?_
      exact ev_pick [0, 1, 2, 3, 4] rfl (e_B_Mod_create_42     r x2 x3 x4 x5 1)
def B_Mod_create_5   (r : RS) (x2 : Int32) (x3 : Int32) (t0 : Int32) : Option (Int32 × RS) :=
  if ¬ (rFau r) = 0 then (B_Mod_create_107   r 0) else (bnd (f_Mod_isDirectory r t0) (fun q => B_Mod_create_23   r x2 x3 t0 0 q.1))
theorem e_B_Mod_create_5 {sc : Nat × (Nat → Int32)} {d : DS} {f : FS} {w : WS} {m : MS} {s : SS} {g : GS} {tl : List mn_E}    (r : RS) (x2 : Int32) (x3 : Int32) (t0 : Int32) : Ev sc 7 111 0 0 M_Mod_create 5 [(0, .ref 12), (2, .int x2), (3, .int x3)] [.int t0] (eLV :: (HD d (HF f (HW w (HM m (HS s (HG g (HR r tl)))))))) (mapR ouI (fun z => (eLV :: (HD d (HF f (HW w (HM m (HS s (HG g (HR z tl))))))))) (B_Mod_create_5 r x2 x3 t0)) := by
  unfold B_Mod_create_5
  refine ev_istore d_Mod_create_5 (by decide) rfl ?_
  refine ev_iconst (v := 0) d_Mod_create_7 rfl ?_
  refine ev_istore d_Mod_create_8 (by decide) rfl ?_
  refine ev_aload_n d_Mod_create_10 rfl rfl ?_
  refine ev_get (v := .int (rFau r)) gi_Mod (ci := 6) rfl rfl 1 (by decide) gw_1002 rfl d_Mod_create_11 ?_
  refine ev_if_ne (tgt := 107) d_Mod_create_14 rfl (fun h1 => ?_) (fun h1 => ?_)
  · rw [if_pos h1]
    exact ev_pick [2, 0] rfl (e_B_Mod_create_107     r 0)
  · rw [if_neg h1]
    refine ev_aload_n d_Mod_create_17 rfl rfl ?_
    refine ev_iload d_Mod_create_18 rfl ?_
    refine ev_callB (rc := (f_Mod_isDirectory r t0)) (ou := ouI) (Hs := (fun z => (eLV :: (HD d (HF f (HW w (HM m (HS s (HG g (HR r tl)))))))))) (inv_V (q := 12) (av := [.int t0]) (rest := []) rfl (ci := 6) rfl d_Mod_create_20 gw_1123 gw_1125 gw_54 mw_Mod_isDirectory nh_Mod_isDirectory pn_Mod_isDirectory rfl) d_Mod_create_20 pl_Mod_isDirectory (Nat.le_of_ble_eq_true rfl) (Nat.le_of_ble_eq_true rfl) (Nat.le_of_ble_eq_true rfl) (e_f_Mod_isDirectory (tl := tl) (d := d) (f := f) (w := w) (m := m) (s := s) (g := g)  r t0) (fun _ => (len1 (lenHD (lenHF (lenHW (lenHM (lenHS (lenHG (lenHR rfl))))))))) (fun v z h2 => ⟨_, rfl, ?_⟩)
    exact ev_pick [2, 3, 4, 1, 0] rfl (e_B_Mod_create_23     r x2 x3 t0 0 v)
def f_Mod_create   (r : RS) (x1 : Int32) (x2 : Int32) (x3 : Int32) : Option (Int32 × RS) :=
  bnd (f_Mod_begin r x1) (fun q => B_Mod_create_5   q.2 x2 x3 q.1)
theorem e_f_Mod_create {sc : Nat × (Nat → Int32)} {d : DS} {f : FS} {w : WS} {m : MS} {s : SS} {g : GS} {tl : List mn_E}    (r : RS) (x1 : Int32) (x2 : Int32) (x3 : Int32) : Ev sc 7 111 0 0 M_Mod_create 0 [(0, .ref 12), (1, .int x1), (2, .int x2), (3, .int x3)] [] (eLV :: (HD d (HF f (HW w (HM m (HS s (HG g (HR r tl)))))))) (mapR ouI (fun z => (eLV :: (HD d (HF f (HW w (HM m (HS s (HG g (HR z tl))))))))) (f_Mod_create r x1 x2 x3)) := by
  unfold f_Mod_create
  refine ev_aload_n d_Mod_create_0 rfl rfl ?_
  refine ev_iload_n d_Mod_create_1 rfl rfl ?_
  refine ev_callB (rc := (f_Mod_begin r x1)) (ou := ouI) (Hs := (fun z => (eLV :: (HD d (HF f (HW w (HM m (HS s (HG g (HR z tl)))))))))) (inv_V (q := 12) (av := [.int x1]) (rest := []) rfl (ci := 6) rfl d_Mod_create_2 gw_1100 gw_1102 gw_49 mw_Mod_begin nh_Mod_begin pn_Mod_begin rfl) d_Mod_create_2 pl_Mod_begin (Nat.le_of_ble_eq_true rfl) (Nat.le_of_ble_eq_true rfl) (Nat.le_of_ble_eq_true rfl) (e_f_Mod_begin (tl := tl) (d := d) (f := f) (w := w) (m := m) (s := s) (g := g)  r x1) (fun _ => (len1 (lenHD (lenHF (lenHW (lenHM (lenHS (lenHG (lenHR rfl))))))))) (fun v z h1 => ⟨_, rfl, ?_⟩)
  exact ev_pick [0, 2, 3] rfl (e_B_Mod_create_5     z x2 x3 v)
def B_Mod_opened_49   (r : RS) : Option (Int32 × RS) :=
  some ((-1), r)
theorem e_B_Mod_opened_49 {sc : Nat × (Nat → Int32)} {d : DS} {f : FS} {w : WS} {m : MS} {s : SS} {g : GS} {tl : List mn_E}    (r : RS) : Ev sc 5 82 0 0 M_Mod_opened 49 [] [] (eLV :: (HD d (HF f (HW w (HM m (HS s (HG g (HR r tl)))))))) (mapR ouI (fun z => (eLV :: (HD d (HF f (HW w (HM m (HS s (HG g (HR z tl))))))))) (B_Mod_opened_49 r)) := by
  unfold B_Mod_opened_49
  refine ev_iconst (v := -1) d_Mod_opened_49 rfl ?_
  exact ev_zret (ty := .int) rfl rfl d_Mod_opened_50
def B_Mod_opened_91   (r : RS) : Option (Int32 × RS) :=
  some ((-1), r)
theorem e_B_Mod_opened_91 {sc : Nat × (Nat → Int32)} {d : DS} {f : FS} {w : WS} {m : MS} {s : SS} {g : GS} {tl : List mn_E}    (r : RS) : Ev sc 5 82 0 0 M_Mod_opened 91 [] [] (eLV :: (HD d (HF f (HW w (HM m (HS s (HG g (HR r tl)))))))) (mapR ouI (fun z => (eLV :: (HD d (HF f (HW w (HM m (HS s (HG g (HR z tl))))))))) (B_Mod_opened_91 r)) := by
  unfold B_Mod_opened_91
  refine ev_iconst (v := -1) d_Mod_opened_91 rfl ?_
  exact ev_zret (ty := .int) rfl rfl d_Mod_opened_92
def B_Mod_opened_129   (r : RS) (x5 : Int32) : Option (Int32 × RS) :=
  some (x5, r)
theorem e_B_Mod_opened_129 {sc : Nat × (Nat → Int32)} {d : DS} {f : FS} {w : WS} {m : MS} {s : SS} {g : GS} {tl : List mn_E}    (r : RS) (x5 : Int32) : Ev sc 5 82 0 0 M_Mod_opened 129 [(5, .int x5)] [] (eLV :: (HD d (HF f (HW w (HM m (HS s (HG g (HR r tl)))))))) (mapR ouI (fun z => (eLV :: (HD d (HF f (HW w (HM m (HS s (HG g (HR z tl))))))))) (B_Mod_opened_129 r x5)) := by
  unfold B_Mod_opened_129
  refine ev_iload d_Mod_opened_129 rfl ?_
  exact ev_zret (ty := .int) rfl rfl d_Mod_opened_131
def B_Mod_opened_154   (r : RS) (x5 : Int32) : Option (Int32 × RS) :=
  some (x5, r)
theorem e_B_Mod_opened_154 {sc : Nat × (Nat → Int32)} {d : DS} {f : FS} {w : WS} {m : MS} {s : SS} {g : GS} {tl : List mn_E}    (r : RS) (x5 : Int32) : Ev sc 5 82 0 0 M_Mod_opened 154 [(5, .int x5)] [] (eLV :: (HD d (HF f (HW w (HM m (HS s (HG g (HR r tl)))))))) (mapR ouI (fun z => (eLV :: (HD d (HF f (HW w (HM m (HS s (HG g (HR z tl))))))))) (B_Mod_opened_154 r x5)) := by
  unfold B_Mod_opened_154
  refine ev_iload d_Mod_opened_154 rfl ?_
  exact ev_zret (ty := .int) rfl rfl d_Mod_opened_156
def B_Mod_opened_151   (r : RS) (x5 : Int32) (t1 : Int32) : Option (Int32 × RS) :=
  B_Mod_opened_154   (rSFau r t1) x5
theorem e_B_Mod_opened_151 {sc : Nat × (Nat → Int32)} {d : DS} {f : FS} {w : WS} {m : MS} {s : SS} {g : GS} {tl : List mn_E}    (r : RS) (x5 : Int32) (t1 : Int32) : Ev sc 5 82 0 0 M_Mod_opened 151 [(5, .int x5)] [.int t1, .ref 12] (eLV :: (HD d (HF f (HW w (HM m (HS s (HG g (HR r tl)))))))) (mapR ouI (fun z => (eLV :: (HD d (HF f (HW w (HM m (HS s (HG g (HR z tl))))))))) (B_Mod_opened_151 r x5 t1)) := by
  unfold B_Mod_opened_151
  refine ev_put (h2 := (eLV :: (HD d (HF f (HW w (HM m (HS s (HG g (HR (rSFau r t1) tl))))))))) gi_Mod ft_Mod fo_Mod fn_Mod (ci := 6) rfl rfl 1 (by decide) gw_1002 rfl rfl (fun _ => rfl) (fun _ => rfl) (Nat.le_of_ble_eq_true rfl) rfl d_Mod_opened_151 ?_
  exact ev_pick [0] rfl (e_B_Mod_opened_154     (rSFau r t1) x5)
def B_Mod_opened_138   (r : RS) (t0 : Int32) : Option (Int32 × RS) :=
  if 0 ≤ t0 then (B_Mod_opened_151   r t0 0) else (B_Mod_opened_151   r t0 2)
theorem e_B_Mod_opened_138 {sc : Nat × (Nat → Int32)} {d : DS} {f : FS} {w : WS} {m : MS} {s : SS} {g : GS} {tl : List mn_E}    (r : RS) (t0 : Int32) : Ev sc 5 82 0 0 M_Mod_opened 138 [(0, .ref 12)] [.int t0] (eLV :: (HD d (HF f (HW w (HM m (HS s (HG g (HR r tl)))))))) (mapR ouI (fun z => (eLV :: (HD d (HF f (HW w (HM m (HS s (HG g (HR z tl))))))))) (B_Mod_opened_138 r t0)) := by
  unfold B_Mod_opened_138
  refine ev_istore d_Mod_opened_138 (by decide) rfl ?_
  refine ev_aload_n d_Mod_opened_140 rfl rfl ?_
  refine ev_iload d_Mod_opened_141 rfl ?_
  refine ev_if_ge (tgt := 150) d_Mod_opened_143 rfl (fun h1 => ?_) (fun h1 => ?_)
  · rw [if_pos h1]
    refine ev_iconst (v := 0) d_Mod_opened_150 rfl ?_
    exact ev_pick [0] rfl (e_B_Mod_opened_151     r t0 0)
  · rw [if_neg h1]
    refine ev_iconst (v := 2) d_Mod_opened_146 rfl ?_
    refine ev_goto (tgt := 151) d_Mod_opened_147 rfl ?_
    exact ev_pick [0] rfl (e_B_Mod_opened_151     r t0 2)
def B_Mod_opened_115   (r : RS) (x4 : Int32) (x5 : Int32) (t0 : Int32) : Option (Int32 × RS) :=
  if t0 = 0 then (bnd (f_Mod_leader r x4) (fun q => B_Mod_opened_138   q.2 q.1)) else (if inB x4 61 then (B_Mod_opened_129   (rSKep r (upd (rKep r) x4.toNatClampNeg (x5 + 1))) x5) else none)
theorem e_B_Mod_opened_115 {sc : Nat × (Nat → Int32)} {d : DS} {f : FS} {w : WS} {m : MS} {s : SS} {g : GS} {tl : List mn_E}    (r : RS) (x4 : Int32) (x5 : Int32) (t0 : Int32) : Ev sc 5 82 0 0 M_Mod_opened 115 [(0, .ref 12), (4, .int x4), (5, .int x5)] [.int t0] (eLV :: (HD d (HF f (HW w (HM m (HS s (HG g (HR r tl)))))))) (mapR ouI (fun z => (eLV :: (HD d (HF f (HW w (HM m (HS s (HG g (HR z tl))))))))) (B_Mod_opened_115 r x4 x5 t0)) := by
  unfold B_Mod_opened_115
  refine ev_if_eq (tgt := 132) d_Mod_opened_115 rfl (fun h1 => ?_) (fun h1 => ?_)
  · rw [if_pos h1]
    refine ev_aload_n d_Mod_opened_132 rfl rfl ?_
    refine ev_iload d_Mod_opened_133 rfl ?_
    refine ev_callB (rc := (f_Mod_leader r x4)) (ou := ouI) (Hs := (fun z => (eLV :: (HD d (HF f (HW w (HM m (HS s (HG g (HR z tl)))))))))) (inv_V (q := 12) (av := [.int x4]) (rest := []) rfl (ci := 6) rfl d_Mod_opened_135 gw_1104 gw_1106 gw_50 mw_Mod_leader nh_Mod_leader pn_Mod_leader rfl) d_Mod_opened_135 pl_Mod_leader (Nat.le_of_ble_eq_true rfl) (Nat.le_of_ble_eq_true rfl) (Nat.le_of_ble_eq_true rfl) (e_f_Mod_leader (tl := tl) (d := d) (f := f) (w := w) (m := m) (s := s) (g := g)  r x4) (fun _ => (len1 (lenHD (lenHF (lenHW (lenHM (lenHS (lenHG (lenHR rfl))))))))) (fun v z h2 => ⟨_, rfl, ?_⟩)
    exact ev_pick [0] rfl (e_B_Mod_opened_138     z v)
  · rw [if_neg h1]
    refine ev_aload_n d_Mod_opened_118 rfl rfl ?_
    refine ev_get (v := .ref 20) gi_Mod (ci := 6) rfl rfl 9 (by decide) gw_1010 rfl d_Mod_opened_119 ?_
    refine ev_iload d_Mod_opened_122 rfl ?_
    refine ev_iload d_Mod_opened_124 rfl ?_
    refine ev_iconst (v := 1) d_Mod_opened_126 rfl ?_
    refine ev_iadd d_Mod_opened_127 ?_
    refine ev_inB (fun h3 => ?_)
    refine ev_iastore (h2 := (eLV :: (HD d (HF f (HW w (HM m (HS s (HG g (HR (rSKep r (upd (rKep r) x4.toNatClampNeg (x5 + 1))) tl))))))))) rfl (inB_of h3) rfl d_Mod_opened_128 ?_
    exact ev_pick [2] rfl (e_B_Mod_opened_129     (rSKep r (upd (rKep r) x4.toNatClampNeg (x5 + 1))) x5)
def B_Mod_opened_73   (r : RS) (t0 : Int32) : Option (Int32 × RS) :=
  if ¬ ((f_Mod_in t0 3 60).1) = 0 then (if inB ((rFPl r) + 3) 320 then (bnd (f_Mod_look r (rByt r ((rFPl r) + 3).toNatClampNeg) t0 0) (fun q => B_Mod_opened_115   q.2 t0 (rByt r ((rFPl r) + 3).toNatClampNeg) q.1)) else none) else (B_Mod_opened_91   (rSFau r 2))
theorem e_B_Mod_opened_73 {sc : Nat × (Nat → Int32)} {d : DS} {f : FS} {w : WS} {m : MS} {s : SS} {g : GS} {tl : List mn_E}    (r : RS) (t0 : Int32) : Ev sc 5 82 0 0 M_Mod_opened 73 [(0, .ref 12)] [.int t0] (eLV :: (HD d (HF f (HW w (HM m (HS s (HG g (HR r tl)))))))) (mapR ouI (fun z => (eLV :: (HD d (HF f (HW w (HM m (HS s (HG g (HR z tl))))))))) (B_Mod_opened_73 r t0)) := by
  unfold B_Mod_opened_73
  refine ev_istore d_Mod_opened_73 (by decide) rfl ?_
  refine ev_iload d_Mod_opened_75 rfl ?_
  refine ev_iconst (v := 3) d_Mod_opened_77 rfl ?_
  refine ev_bipush (v := 60) d_Mod_opened_78 rfl ?_
  refine ev_callr (Mc := M_Mod_in) (v := some (.int ((f_Mod_in t0 3 60).1))) (h1 := (eLV :: (HD d (HF f (HW w (HM m (HS s (HG g (HR r tl))))))))) (k2 := 0) (n2 := 0) (inv_S (av := [.int t0, .int 3, .int 60]) (rest := []) d_Mod_opened_80 gw_1108 gw_1109 gw_108 mw_Mod_in nh_Mod_in pn_Mod_in rfl) d_Mod_opened_80 pl_Mod_in (Nat.le_of_ble_eq_true rfl) (Nat.le_of_ble_eq_true rfl) (Nat.le_of_ble_eq_true rfl) rfl rfl (e_f_Mod_in (hh := (eLV :: (HD d (HF f (HW w (HM m (HS s (HG g (HR r tl)))))))))   t0 3 60) (Or.inl (len1 (lenHD (lenHF (lenHW (lenHM (lenHS (lenHG (lenHR rfl))))))))) ?_
  refine ev_if_ne (tgt := 93) d_Mod_opened_83 rfl (fun h1 => ?_) (fun h1 => ?_)
  · rw [if_pos h1]
    refine ev_aload_n d_Mod_opened_93 rfl rfl ?_
    refine ev_get (v := .ref 18) gi_Mod (ci := 6) rfl rfl 7 (by decide) gw_1008 rfl d_Mod_opened_94 ?_
    refine ev_aload_n d_Mod_opened_97 rfl rfl ?_
    refine ev_get (v := .int (rFPl r)) gi_Mod (ci := 6) rfl rfl 20 (by decide) gw_1021 rfl d_Mod_opened_98 ?_
    refine ev_iconst (v := 3) d_Mod_opened_101 rfl ?_
    refine ev_iadd d_Mod_opened_102 ?_
    refine ev_inB (fun h2 => ?_)
    refine ev_iaload rfl (inB_of h2) d_Mod_opened_103 ?_
    refine ev_istore d_Mod_opened_104 (by decide) rfl ?_
    refine ev_aload_n d_Mod_opened_106 rfl rfl ?_
    refine ev_iload d_Mod_opened_107 rfl ?_
    refine ev_iload d_Mod_opened_109 rfl ?_
    refine ev_iconst (v := 0) d_Mod_opened_111 rfl ?_
    refine ev_callB (rc := (f_Mod_look r (rByt r ((rFPl r) + 3).toNatClampNeg) t0 0)) (ou := ouI) (Hs := (fun z => (eLV :: (HD d (HF f (HW w (HM m (HS s (HG g (HR z tl)))))))))) (inv_V (q := 12) (av := [.int (rByt r ((rFPl r) + 3).toNatClampNeg), .int t0, .int 0]) (rest := []) rfl (ci := 6) rfl d_Mod_opened_112 gw_1111 gw_1113 gw_51 mw_Mod_look nh_Mod_look pn_Mod_look rfl) d_Mod_opened_112 pl_Mod_look (Nat.le_of_ble_eq_true rfl) (Nat.le_of_ble_eq_true rfl) (Nat.le_of_ble_eq_true rfl) (e_f_Mod_look (tl := tl) (d := d) (f := f) (w := w) (m := m) (s := s) (g := g)  r (rByt r ((rFPl r) + 3).toNatClampNeg) t0 0) (fun _ => (len1 (lenHD (lenHF (lenHW (lenHM (lenHS (lenHG (lenHR rfl))))))))) (fun v z h3 => ⟨_, rfl, ?_⟩)
    exact ev_pick [2, 1, 0] rfl (e_B_Mod_opened_115     z t0 (rByt r ((rFPl r) + 3).toNatClampNeg) v)
  · rw [if_neg h1]
    refine ev_aload_n d_Mod_opened_86 rfl rfl ?_
    refine ev_iconst (v := 2) d_Mod_opened_87 rfl ?_
    refine ev_put (h2 := (eLV :: (HD d (HF f (HW w (HM m (HS s (HG g (HR (rSFau r 2) tl))))))))) gi_Mod ft_Mod fo_Mod fn_Mod (ci := 6) rfl rfl 1 (by decide) gw_1002 rfl rfl (fun _ => rfl) (fun _ => rfl) (Nat.le_of_ble_eq_true rfl) rfl d_Mod_opened_88 ?_
    exact ev_pick [] rfl (e_B_Mod_opened_91     (rSFau r 2))
def B_Mod_opened_46   (r : RS) (t0 : Int32) : Option (Int32 × RS) :=
  if ¬ t0 = 0 then (if (rFAt r) < 0 then (B_Mod_opened_73   r 0) else (if inB ((rFPl r) + 2) 320 then (B_Mod_opened_73   r (rByt r ((rFPl r) + 2).toNatClampNeg)) else none)) else (B_Mod_opened_49   r)
theorem e_B_Mod_opened_46 {sc : Nat × (Nat → Int32)} {d : DS} {f : FS} {w : WS} {m : MS} {s : SS} {g : GS} {tl : List mn_E}    (r : RS) (t0 : Int32) : Ev sc 5 82 0 0 M_Mod_opened 46 [(0, .ref 12)] [.int t0] (eLV :: (HD d (HF f (HW w (HM m (HS s (HG g (HR r tl)))))))) (mapR ouI (fun z => (eLV :: (HD d (HF f (HW w (HM m (HS s (HG g (HR z tl))))))))) (B_Mod_opened_46 r t0)) := by
  unfold B_Mod_opened_46
  refine ev_if_ne (tgt := 51) d_Mod_opened_46 rfl (fun h1 => ?_) (fun h1 => ?_)
  · rw [if_pos h1]
    refine ev_aload_n d_Mod_opened_51 rfl rfl ?_
    refine ev_get (v := .int (rFAt r)) gi_Mod (ci := 6) rfl rfl 19 (by decide) gw_1020 rfl d_Mod_opened_52 ?_
    refine ev_if_lt (tgt := 72) d_Mod_opened_55 rfl (fun h2 => ?_) (fun h2 => ?_)
    · rw [if_pos h2]
      refine ev_iconst (v := 0) d_Mod_opened_72 rfl ?_
      exact ev_pick [0] rfl (e_B_Mod_opened_73     r 0)
    · rw [if_neg h2]
      refine ev_aload_n d_Mod_opened_58 rfl rfl ?_
      refine ev_get (v := .ref 18) gi_Mod (ci := 6) rfl rfl 7 (by decide) gw_1008 rfl d_Mod_opened_59 ?_
      refine ev_aload_n d_Mod_opened_62 rfl rfl ?_
      refine ev_get (v := .int (rFPl r)) gi_Mod (ci := 6) rfl rfl 20 (by decide) gw_1021 rfl d_Mod_opened_63 ?_
      refine ev_iconst (v := 2) d_Mod_opened_66 rfl ?_
      refine ev_iadd d_Mod_opened_67 ?_
      refine ev_inB (fun h3 => ?_)
      refine ev_iaload rfl (inB_of h3) d_Mod_opened_68 ?_
      refine ev_goto (tgt := 73) d_Mod_opened_69 rfl ?_
      exact ev_pick [0] rfl (e_B_Mod_opened_73     r (rByt r ((rFPl r) + 2).toNatClampNeg))
  · rw [if_neg h1]
    exact ev_pick [] rfl (e_B_Mod_opened_49     r)
def B_Mod_opened_32   (r : RS) (x2 : Int32) (x3 : Int32) : Option (Int32 × RS) :=
  if 0 < (rFau r) then (B_Mod_opened_49   r) else (bnd (f_Mod_go r x3 0 x2) (fun q => B_Mod_opened_46   q.2 q.1))
theorem e_B_Mod_opened_32 {sc : Nat × (Nat → Int32)} {d : DS} {f : FS} {w : WS} {m : MS} {s : SS} {g : GS} {tl : List mn_E}    (r : RS) (x2 : Int32) (x3 : Int32) : Ev sc 5 82 0 0 M_Mod_opened 32 [(0, .ref 12), (2, .int x2), (3, .int x3)] [] (eLV :: (HD d (HF f (HW w (HM m (HS s (HG g (HR r tl)))))))) (mapR ouI (fun z => (eLV :: (HD d (HF f (HW w (HM m (HS s (HG g (HR z tl))))))))) (B_Mod_opened_32 r x2 x3)) := by
  unfold B_Mod_opened_32
  refine ev_aload_n d_Mod_opened_32 rfl rfl ?_
  refine ev_get (v := .int (rFau r)) gi_Mod (ci := 6) rfl rfl 1 (by decide) gw_1002 rfl d_Mod_opened_33 ?_
  refine ev_if_gt (tgt := 49) d_Mod_opened_36 rfl (fun h1 => ?_) (fun h1 => ?_)
  · rw [if_pos h1]
    exact ev_pick [] rfl (e_B_Mod_opened_49     r)
  · rw [if_neg h1]
    refine ev_aload_n d_Mod_opened_39 rfl rfl ?_
    refine ev_iload_n d_Mod_opened_40 rfl rfl ?_
    refine ev_iconst (v := 0) d_Mod_opened_41 rfl ?_
    refine ev_iload_n d_Mod_opened_42 rfl rfl ?_
    refine ev_callB (rc := (f_Mod_go r x3 0 x2)) (ou := ouI) (Hs := (fun z => (eLV :: (HD d (HF f (HW w (HM m (HS s (HG g (HR z tl)))))))))) (inv_V (q := 12) (av := [.int x3, .int 0, .int x2]) (rest := []) rfl (ci := 6) rfl d_Mod_opened_43 gw_1127 gw_1129 gw_55 mw_Mod_go nh_Mod_go pn_Mod_go rfl) d_Mod_opened_43 pl_Mod_go (Nat.le_of_ble_eq_true rfl) (Nat.le_of_ble_eq_true rfl) (Nat.le_of_ble_eq_true rfl) (e_f_Mod_go (tl := tl) (d := d) (f := f) (w := w) (m := m) (s := s) (g := g)  r x3 0 x2) (fun _ => (len1 (lenHD (lenHF (lenHW (lenHM (lenHS (lenHG (lenHR rfl))))))))) (fun v z h2 => ⟨_, rfl, ?_⟩)
    exact ev_pick [0] rfl (e_B_Mod_opened_46     z v)
def B_Mod_opened_29   (r : RS) (x2 : Int32) (x3 : Int32) (t1 : Int32) : Option (Int32 × RS) :=
  B_Mod_opened_32   (rSFau r t1) x2 x3
theorem e_B_Mod_opened_29 {sc : Nat × (Nat → Int32)} {d : DS} {f : FS} {w : WS} {m : MS} {s : SS} {g : GS} {tl : List mn_E}    (r : RS) (x2 : Int32) (x3 : Int32) (t1 : Int32) : Ev sc 5 82 0 0 M_Mod_opened 29 [(0, .ref 12), (2, .int x2), (3, .int x3)] [.int t1, .ref 12] (eLV :: (HD d (HF f (HW w (HM m (HS s (HG g (HR r tl)))))))) (mapR ouI (fun z => (eLV :: (HD d (HF f (HW w (HM m (HS s (HG g (HR z tl))))))))) (B_Mod_opened_29 r x2 x3 t1)) := by
  unfold B_Mod_opened_29
  refine ev_put (h2 := (eLV :: (HD d (HF f (HW w (HM m (HS s (HG g (HR (rSFau r t1) tl))))))))) gi_Mod ft_Mod fo_Mod fn_Mod (ci := 6) rfl rfl 1 (by decide) gw_1002 rfl rfl (fun _ => rfl) (fun _ => rfl) (Nat.le_of_ble_eq_true rfl) rfl d_Mod_opened_29 ?_
  exact ev_pick [0, 1, 2] rfl (e_B_Mod_opened_32     (rSFau r t1) x2 x3)
def B_Mod_opened_21   (r : RS) (x2 : Int32) (x3 : Int32) (t1 : Int32) : Option (Int32 × RS) :=
  if t1 = 0 then (B_Mod_opened_29   r x2 x3 3) else (B_Mod_opened_29   r x2 x3 0)
theorem e_B_Mod_opened_21 {sc : Nat × (Nat → Int32)} {d : DS} {f : FS} {w : WS} {m : MS} {s : SS} {g : GS} {tl : List mn_E}    (r : RS) (x2 : Int32) (x3 : Int32) (t1 : Int32) : Ev sc 5 82 0 0 M_Mod_opened 21 [(0, .ref 12), (2, .int x2), (3, .int x3)] [.int t1, .ref 12] (eLV :: (HD d (HF f (HW w (HM m (HS s (HG g (HR r tl)))))))) (mapR ouI (fun z => (eLV :: (HD d (HF f (HW w (HM m (HS s (HG g (HR z tl))))))))) (B_Mod_opened_21 r x2 x3 t1)) := by
  unfold B_Mod_opened_21
  refine ev_if_eq (tgt := 28) d_Mod_opened_21 rfl (fun h1 => ?_) (fun h1 => ?_)
  · rw [if_pos h1]
    refine ev_iconst (v := 3) d_Mod_opened_28 rfl ?_
    exact ev_pick [0, 1, 2] rfl (e_B_Mod_opened_29     r x2 x3 3)
  · rw [if_neg h1]
    refine ev_iconst (v := 0) d_Mod_opened_24 rfl ?_
    refine ev_goto (tgt := 29) d_Mod_opened_25 rfl ?_
    exact ev_pick [0, 1, 2] rfl (e_B_Mod_opened_29     r x2 x3 0)
def B_Mod_opened_5   (r : RS) (x2 : Int32) (t0 : Int32) : Option (Int32 × RS) :=
  if (rFau r) ≤ 0 then (bnd (f_Mod_isDirectory r t0) (fun q => B_Mod_opened_21   r x2 t0 q.1)) else (some ((-1), r))
theorem e_B_Mod_opened_5 {sc : Nat × (Nat → Int32)} {d : DS} {f : FS} {w : WS} {m : MS} {s : SS} {g : GS} {tl : List mn_E}    (r : RS) (x2 : Int32) (t0 : Int32) : Ev sc 5 82 0 0 M_Mod_opened 5 [(0, .ref 12), (2, .int x2)] [.int t0] (eLV :: (HD d (HF f (HW w (HM m (HS s (HG g (HR r tl)))))))) (mapR ouI (fun z => (eLV :: (HD d (HF f (HW w (HM m (HS s (HG g (HR z tl))))))))) (B_Mod_opened_5 r x2 t0)) := by
  unfold B_Mod_opened_5
  refine ev_istore_n d_Mod_opened_5 rfl (by decide) rfl ?_
  refine ev_aload_n d_Mod_opened_6 rfl rfl ?_
  refine ev_get (v := .int (rFau r)) gi_Mod (ci := 6) rfl rfl 1 (by decide) gw_1002 rfl d_Mod_opened_7 ?_
  refine ev_if_le (tgt := 15) d_Mod_opened_10 rfl (fun h1 => ?_) (fun h1 => ?_)
  · rw [if_pos h1]
    refine ev_aload_n d_Mod_opened_15 rfl rfl ?_
    refine ev_aload_n d_Mod_opened_16 rfl rfl ?_
    refine ev_iload_n d_Mod_opened_17 rfl rfl ?_
    refine ev_callB (rc := (f_Mod_isDirectory r t0)) (ou := ouI) (Hs := (fun z => (eLV :: (HD d (HF f (HW w (HM m (HS s (HG g (HR r tl)))))))))) (inv_V (q := 12) (av := [.int t0]) (rest := [.ref 12]) rfl (ci := 6) rfl d_Mod_opened_18 gw_1123 gw_1125 gw_54 mw_Mod_isDirectory nh_Mod_isDirectory pn_Mod_isDirectory rfl) d_Mod_opened_18 pl_Mod_isDirectory (Nat.le_of_ble_eq_true rfl) (Nat.le_of_ble_eq_true rfl) (Nat.le_of_ble_eq_true rfl) (e_f_Mod_isDirectory (tl := tl) (d := d) (f := f) (w := w) (m := m) (s := s) (g := g)  r t0) (fun _ => (len1 (lenHD (lenHF (lenHW (lenHM (lenHS (lenHG (lenHR rfl))))))))) (fun v z h2 => ⟨_, rfl, ?_⟩)
    exact ev_pick [1, 2, 0] rfl (e_B_Mod_opened_21     r x2 t0 v)
  · rw [if_neg h1]
    refine ev_iconst (v := -1) d_Mod_opened_13 rfl ?_
    exact ev_zret (ty := .int) rfl rfl d_Mod_opened_14
def f_Mod_opened   (r : RS) (x1 : Int32) (x2 : Int32) : Option (Int32 × RS) :=
  bnd (f_Mod_begin r x1) (fun q => B_Mod_opened_5   q.2 x2 q.1)
theorem e_f_Mod_opened {sc : Nat × (Nat → Int32)} {d : DS} {f : FS} {w : WS} {m : MS} {s : SS} {g : GS} {tl : List mn_E}    (r : RS) (x1 : Int32) (x2 : Int32) : Ev sc 5 82 0 0 M_Mod_opened 0 [(0, .ref 12), (1, .int x1), (2, .int x2)] [] (eLV :: (HD d (HF f (HW w (HM m (HS s (HG g (HR r tl)))))))) (mapR ouI (fun z => (eLV :: (HD d (HF f (HW w (HM m (HS s (HG g (HR z tl))))))))) (f_Mod_opened r x1 x2)) := by
  unfold f_Mod_opened
  refine ev_aload_n d_Mod_opened_0 rfl rfl ?_
  refine ev_iload_n d_Mod_opened_1 rfl rfl ?_
  refine ev_callB (rc := (f_Mod_begin r x1)) (ou := ouI) (Hs := (fun z => (eLV :: (HD d (HF f (HW w (HM m (HS s (HG g (HR z tl)))))))))) (inv_V (q := 12) (av := [.int x1]) (rest := []) rfl (ci := 6) rfl d_Mod_opened_2 gw_1100 gw_1102 gw_49 mw_Mod_begin nh_Mod_begin pn_Mod_begin rfl) d_Mod_opened_2 pl_Mod_begin (Nat.le_of_ble_eq_true rfl) (Nat.le_of_ble_eq_true rfl) (Nat.le_of_ble_eq_true rfl) (e_f_Mod_begin (tl := tl) (d := d) (f := f) (w := w) (m := m) (s := s) (g := g)  r x1) (fun _ => (len1 (lenHD (lenHF (lenHW (lenHM (lenHS (lenHG (lenHR rfl))))))))) (fun v z h1 => ⟨_, rfl, ?_⟩)
  exact ev_pick [0, 2] rfl (e_B_Mod_opened_5     z x2 v)
def B_Mod_open_30   (r : RS) (t0 : Int32) : Option (Int32 × RS) :=
  some (t0, r)
theorem e_B_Mod_open_30 {sc : Nat × (Nat → Int32)} {d : DS} {f : FS} {w : WS} {m : MS} {s : SS} {g : GS} {tl : List mn_E}    (r : RS) (t0 : Int32) : Ev sc 6 99 0 0 M_Mod_open 30 [] [.int t0] (eLV :: (HD d (HF f (HW w (HM m (HS s (HG g (HR r tl)))))))) (mapR ouI (fun z => (eLV :: (HD d (HF f (HW w (HM m (HS s (HG g (HR z tl))))))))) (B_Mod_open_30 r t0)) := by
  unfold B_Mod_open_30
  exact ev_zret (ty := .int) rfl rfl d_Mod_open_30
def B_Mod_open_22   (r : RS) (t1 : Int32) : Option (Int32 × RS) :=
  B_Mod_open_30   ((f_Mod_ends r t1 1 2 3 4 4).2) ((f_Mod_ends r t1 1 2 3 4 4).1)
theorem e_B_Mod_open_22 {sc : Nat × (Nat → Int32)} {d : DS} {f : FS} {w : WS} {m : MS} {s : SS} {g : GS} {tl : List mn_E}    (r : RS) (t1 : Int32) : Ev sc 6 99 0 0 M_Mod_open 22 [] [.int t1, .ref 12] (eLV :: (HD d (HF f (HW w (HM m (HS s (HG g (HR r tl)))))))) (mapR ouI (fun z => (eLV :: (HD d (HF f (HW w (HM m (HS s (HG g (HR z tl))))))))) (B_Mod_open_22 r t1)) := by
  unfold B_Mod_open_22
  refine ev_iconst (v := 1) d_Mod_open_22 rfl ?_
  refine ev_iconst (v := 2) d_Mod_open_23 rfl ?_
  refine ev_iconst (v := 3) d_Mod_open_24 rfl ?_
  refine ev_iconst (v := 4) d_Mod_open_25 rfl ?_
  refine ev_iconst (v := 4) d_Mod_open_26 rfl ?_
  refine ev_callr (Mc := M_Mod_ends) (v := some (.int ((f_Mod_ends r t1 1 2 3 4 4).1))) (h1 := (eLV :: (HD d (HF f (HW w (HM m (HS s (HG g (HR ((f_Mod_ends r t1 1 2 3 4 4).2) tl))))))))) (k2 := 0) (n2 := 0) (inv_V (q := 12) (av := [.int t1, .int 1, .int 2, .int 3, .int 4, .int 4]) (rest := []) rfl (ci := 6) rfl d_Mod_open_27 gw_1187 gw_1189 gw_70 mw_Mod_ends nh_Mod_ends pn_Mod_ends rfl) d_Mod_open_27 pl_Mod_ends (Nat.le_of_ble_eq_true rfl) (Nat.le_of_ble_eq_true rfl) (Nat.le_of_ble_eq_true rfl) rfl rfl (e_f_Mod_ends (tl := tl) (d := d) (f := f) (w := w) (m := m) (s := s) (g := g)  r t1 1 2 3 4 4) (Or.inl (len1 (lenHD (lenHF (lenHW (lenHM (lenHS (lenHG (lenHR rfl))))))))) ?_
  exact ev_pick [] rfl (e_B_Mod_open_30     ((f_Mod_ends r t1 1 2 3 4 4).2) ((f_Mod_ends r t1 1 2 3 4 4).1))
def B_Mod_open_6   (r : RS) (t0 : Int32) : Option (Int32 × RS) :=
  if 0 ≤ t0 then (if inB t0 40 then (B_Mod_open_22   r (rSer r t0.toNatClampNeg)) else none) else (B_Mod_open_22   r 0)
theorem e_B_Mod_open_6 {sc : Nat × (Nat → Int32)} {d : DS} {f : FS} {w : WS} {m : MS} {s : SS} {g : GS} {tl : List mn_E}    (r : RS) (t0 : Int32) : Ev sc 6 99 0 0 M_Mod_open 6 [(0, .ref 12)] [.int t0] (eLV :: (HD d (HF f (HW w (HM m (HS s (HG g (HR r tl)))))))) (mapR ouI (fun z => (eLV :: (HD d (HF f (HW w (HM m (HS s (HG g (HR z tl))))))))) (B_Mod_open_6 r t0)) := by
  unfold B_Mod_open_6
  refine ev_istore_n d_Mod_open_6 rfl (by decide) rfl ?_
  refine ev_aload_n d_Mod_open_7 rfl rfl ?_
  refine ev_iload_n d_Mod_open_8 rfl rfl ?_
  refine ev_if_ge (tgt := 16) d_Mod_open_9 rfl (fun h1 => ?_) (fun h1 => ?_)
  · rw [if_pos h1]
    refine ev_aload_n d_Mod_open_16 rfl rfl ?_
    refine ev_get (v := .ref 13) gi_Mod (ci := 6) rfl rfl 2 (by decide) gw_1003 rfl d_Mod_open_17 ?_
    refine ev_iload_n d_Mod_open_20 rfl rfl ?_
    refine ev_inB (fun h2 => ?_)
    refine ev_iaload rfl (inB_of h2) d_Mod_open_21 ?_
    exact ev_pick [] rfl (e_B_Mod_open_22     r (rSer r t0.toNatClampNeg))
  · rw [if_neg h1]
    refine ev_iconst (v := 0) d_Mod_open_12 rfl ?_
    refine ev_goto (tgt := 22) d_Mod_open_13 rfl ?_
    exact ev_pick [] rfl (e_B_Mod_open_22     r 0)
def f_Mod_open   (r : RS) (x1 : Int32) (x2 : Int32) : Option (Int32 × RS) :=
  bnd (f_Mod_opened r x1 x2) (fun q => B_Mod_open_6   q.2 q.1)
theorem e_f_Mod_open {sc : Nat × (Nat → Int32)} {d : DS} {f : FS} {w : WS} {m : MS} {s : SS} {g : GS} {tl : List mn_E}    (r : RS) (x1 : Int32) (x2 : Int32) : Ev sc 6 99 0 0 M_Mod_open 0 [(0, .ref 12), (1, .int x1), (2, .int x2)] [] (eLV :: (HD d (HF f (HW w (HM m (HS s (HG g (HR r tl)))))))) (mapR ouI (fun z => (eLV :: (HD d (HF f (HW w (HM m (HS s (HG g (HR z tl))))))))) (f_Mod_open r x1 x2)) := by
  unfold f_Mod_open
  refine ev_aload_n d_Mod_open_0 rfl rfl ?_
  refine ev_iload_n d_Mod_open_1 rfl rfl ?_
  refine ev_iload_n d_Mod_open_2 rfl rfl ?_
  refine ev_callB (rc := (f_Mod_opened r x1 x2)) (ou := ouI) (Hs := (fun z => (eLV :: (HD d (HF f (HW w (HM m (HS s (HG g (HR z tl)))))))))) (inv_V (q := 12) (av := [.int x1, .int x2]) (rest := []) rfl (ci := 6) rfl d_Mod_open_3 gw_1195 gw_1197 gw_71 mw_Mod_opened nh_Mod_opened pn_Mod_opened rfl) d_Mod_open_3 pl_Mod_opened (Nat.le_of_ble_eq_true rfl) (Nat.le_of_ble_eq_true rfl) (Nat.le_of_ble_eq_true rfl) (e_f_Mod_opened (tl := tl) (d := d) (f := f) (w := w) (m := m) (s := s) (g := g)  r x1 x2) (fun _ => (len1 (lenHD (lenHF (lenHW (lenHM (lenHS (lenHG (lenHR rfl))))))))) (fun v z h1 => ⟨_, rfl, ?_⟩)
  exact ev_pick [0] rfl (e_B_Mod_open_6     z v)
def B_Mod_read_120   (r : RS) (t0 : Int32) : Option (Int32 × RS) :=
  some (t0, r)
theorem e_B_Mod_read_120 {sc : Nat × (Nat → Int32)} {d : DS} {f : FS} {w : WS} {m : MS} {s : SS} {g : GS} {tl : List mn_E}    (r : RS) (t0 : Int32) : Ev sc 5 78 0 0 M_Mod_read 120 [] [.int t0] (eLV :: (HD d (HF f (HW w (HM m (HS s (HG g (HR r tl)))))))) (mapR ouI (fun z => (eLV :: (HD d (HF f (HW w (HM m (HS s (HG g (HR z tl))))))))) (B_Mod_read_120 r t0)) := by
  unfold B_Mod_read_120
  exact ev_zret (ty := .int) rfl rfl d_Mod_read_120
def B_Mod_read_109   (r : RS) (x4 : Int32) : Option (Int32 × RS) :=
  B_Mod_read_120   ((f_Mod_ends r x4 1 2 3 3 4).2) ((f_Mod_ends r x4 1 2 3 3 4).1)
theorem e_B_Mod_read_109 {sc : Nat × (Nat → Int32)} {d : DS} {f : FS} {w : WS} {m : MS} {s : SS} {g : GS} {tl : List mn_E}    (r : RS) (x4 : Int32) : Ev sc 5 78 0 0 M_Mod_read 109 [(0, .ref 12), (4, .int x4)] [] (eLV :: (HD d (HF f (HW w (HM m (HS s (HG g (HR r tl)))))))) (mapR ouI (fun z => (eLV :: (HD d (HF f (HW w (HM m (HS s (HG g (HR z tl))))))))) (B_Mod_read_109 r x4)) := by
  unfold B_Mod_read_109
  refine ev_aload_n d_Mod_read_109 rfl rfl ?_
  refine ev_iload d_Mod_read_110 rfl ?_
  refine ev_iconst (v := 1) d_Mod_read_112 rfl ?_
  refine ev_iconst (v := 2) d_Mod_read_113 rfl ?_
  refine ev_iconst (v := 3) d_Mod_read_114 rfl ?_
  refine ev_iconst (v := 3) d_Mod_read_115 rfl ?_
  refine ev_iconst (v := 4) d_Mod_read_116 rfl ?_
  refine ev_callr (Mc := M_Mod_ends) (v := some (.int ((f_Mod_ends r x4 1 2 3 3 4).1))) (h1 := (eLV :: (HD d (HF f (HW w (HM m (HS s (HG g (HR ((f_Mod_ends r x4 1 2 3 3 4).2) tl))))))))) (k2 := 0) (n2 := 0) (inv_V (q := 12) (av := [.int x4, .int 1, .int 2, .int 3, .int 3, .int 4]) (rest := []) rfl (ci := 6) rfl d_Mod_read_117 gw_1187 gw_1189 gw_70 mw_Mod_ends nh_Mod_ends pn_Mod_ends rfl) d_Mod_read_117 pl_Mod_ends (Nat.le_of_ble_eq_true rfl) (Nat.le_of_ble_eq_true rfl) (Nat.le_of_ble_eq_true rfl) rfl rfl (e_f_Mod_ends (tl := tl) (d := d) (f := f) (w := w) (m := m) (s := s) (g := g)  r x4 1 2 3 3 4) (Or.inl (len1 (lenHD (lenHF (lenHW (lenHM (lenHS (lenHG (lenHR rfl))))))))) ?_
  exact ev_pick [] rfl (e_B_Mod_read_120     ((f_Mod_ends r x4 1 2 3 3 4).2) ((f_Mod_ends r x4 1 2 3 3 4).1))
def B_Mod_read_107   (r : RS) (t0 : Int32) : Option (Int32 × RS) :=
  B_Mod_read_109   r t0
theorem e_B_Mod_read_107 {sc : Nat × (Nat → Int32)} {d : DS} {f : FS} {w : WS} {m : MS} {s : SS} {g : GS} {tl : List mn_E}    (r : RS) (t0 : Int32) : Ev sc 5 78 0 0 M_Mod_read 107 [(0, .ref 12)] [.int t0] (eLV :: (HD d (HF f (HW w (HM m (HS s (HG g (HR r tl)))))))) (mapR ouI (fun z => (eLV :: (HD d (HF f (HW w (HM m (HS s (HG g (HR z tl))))))))) (B_Mod_read_107 r t0)) := by
  unfold B_Mod_read_107
  refine ev_istore d_Mod_read_107 (by decide) rfl ?_
  exact ev_pick [1, 0] rfl (e_B_Mod_read_109     r t0)
def B_Mod_read_81   (r : RS) (x2 : Int32) (t0 : Int32) : Option (Int32 × RS) :=
  if 0 ≤ t0 then (if inB ((8 * t0) + (x2 - x2 / 8 * 8)) 320 then (B_Mod_read_107   r (rByt r ((8 * t0) + (x2 - x2 / 8 * 8)).toNatClampNeg)) else none) else (B_Mod_read_107   r 0)
theorem e_B_Mod_read_81 {sc : Nat × (Nat → Int32)} {d : DS} {f : FS} {w : WS} {m : MS} {s : SS} {g : GS} {tl : List mn_E}    (r : RS) (x2 : Int32) (t0 : Int32) : Ev sc 5 78 0 0 M_Mod_read 81 [(0, .ref 12), (2, .int x2)] [.int t0] (eLV :: (HD d (HF f (HW w (HM m (HS s (HG g (HR r tl)))))))) (mapR ouI (fun z => (eLV :: (HD d (HF f (HW w (HM m (HS s (HG g (HR z tl))))))))) (B_Mod_read_81 r x2 t0)) := by
  unfold B_Mod_read_81
  refine ev_istore d_Mod_read_81 (by decide) rfl ?_
  refine ev_iload d_Mod_read_83 rfl ?_
  refine ev_if_ge (tgt := 92) d_Mod_read_85 rfl (fun h1 => ?_) (fun h1 => ?_)
  · rw [if_pos h1]
    refine ev_aload_n d_Mod_read_92 rfl rfl ?_
    refine ev_get (v := .ref 18) gi_Mod (ci := 6) rfl rfl 7 (by decide) gw_1008 rfl d_Mod_read_93 ?_
    refine ev_bipush (v := 8) d_Mod_read_96 rfl ?_
    refine ev_iload d_Mod_read_98 rfl ?_
    refine ev_imul d_Mod_read_100 ?_
    refine ev_iload_n d_Mod_read_101 rfl rfl ?_
    refine ev_bipush (v := 8) d_Mod_read_102 rfl ?_
    refine ev_irem d_Mod_read_104 (by decide) ?_
    refine ev_iadd d_Mod_read_105 ?_
    refine ev_inB (fun h2 => ?_)
    refine ev_iaload rfl (inB_of h2) d_Mod_read_106 ?_
    exact ev_pick [1] rfl (e_B_Mod_read_107     r (rByt r ((8 * t0) + (x2 - x2 / 8 * 8)).toNatClampNeg))
  · rw [if_neg h1]
    refine ev_iconst (v := 0) d_Mod_read_88 rfl ?_
    refine ev_goto (tgt := 107) d_Mod_read_89 rfl ?_
    exact ev_pick [1] rfl (e_B_Mod_read_107     r 0)
def B_Mod_read_77   (r : RS) (x2 : Int32) (t0 : Int32) : Option (Int32 × RS) :=
  B_Mod_read_81   r x2 t0
theorem e_B_Mod_read_77 {sc : Nat × (Nat → Int32)} {d : DS} {f : FS} {w : WS} {m : MS} {s : SS} {g : GS} {tl : List mn_E}    (r : RS) (x2 : Int32) (t0 : Int32) : Ev sc 5 78 0 0 M_Mod_read 77 [(0, .ref 12), (2, .int x2)] [.int t0] (eLV :: (HD d (HF f (HW w (HM m (HS s (HG g (HR r tl)))))))) (mapR ouI (fun z => (eLV :: (HD d (HF f (HW w (HM m (HS s (HG g (HR z tl))))))))) (B_Mod_read_77 r x2 t0)) := by
  unfold B_Mod_read_77
  refine ev_goto (tgt := 81) d_Mod_read_77 rfl ?_
  exact ev_pick [0, 1] rfl (e_B_Mod_read_81     r x2 t0)
def B_Mod_read_57   (r : RS) (x2 : Int32) (x3 : Int32) (x5 : Int32) : Option (Int32 × RS) :=
  if ¬ (rFau r) = 0 then (B_Mod_read_81   r x2 (-1)) else (bnd (f_Mod_pageOf r x3 x5 ((x2 / 8) + 1)) (fun q => B_Mod_read_77   q.2 x2 q.1))
theorem e_B_Mod_read_57 {sc : Nat × (Nat → Int32)} {d : DS} {f : FS} {w : WS} {m : MS} {s : SS} {g : GS} {tl : List mn_E}    (r : RS) (x2 : Int32) (x3 : Int32) (x5 : Int32) : Ev sc 5 78 0 0 M_Mod_read 57 [(0, .ref 12), (2, .int x2), (3, .int x3), (5, .int x5)] [] (eLV :: (HD d (HF f (HW w (HM m (HS s (HG g (HR r tl)))))))) (mapR ouI (fun z => (eLV :: (HD d (HF f (HW w (HM m (HS s (HG g (HR z tl))))))))) (B_Mod_read_57 r x2 x3 x5)) := by
  unfold B_Mod_read_57
  refine ev_aload_n d_Mod_read_57 rfl rfl ?_
  refine ev_get (v := .int (rFau r)) gi_Mod (ci := 6) rfl rfl 1 (by decide) gw_1002 rfl d_Mod_read_58 ?_
  refine ev_if_ne (tgt := 80) d_Mod_read_61 rfl (fun h1 => ?_) (fun h1 => ?_)
  · rw [if_pos h1]
    refine ev_iconst (v := -1) d_Mod_read_80 rfl ?_
    exact ev_pick [0, 1] rfl (e_B_Mod_read_81     r x2 (-1))
  · rw [if_neg h1]
    refine ev_aload_n d_Mod_read_64 rfl rfl ?_
    refine ev_iload_n d_Mod_read_65 rfl rfl ?_
    refine ev_iload d_Mod_read_66 rfl ?_
    refine ev_iload_n d_Mod_read_68 rfl rfl ?_
    refine ev_bipush (v := 8) d_Mod_read_69 rfl ?_
    refine ev_idiv d_Mod_read_71 (by decide) ?_
    refine ev_iconst (v := 1) d_Mod_read_72 rfl ?_
    refine ev_iadd d_Mod_read_73 ?_
    refine ev_callB (rc := (f_Mod_pageOf r x3 x5 ((x2 / 8) + 1))) (ou := ouI) (Hs := (fun z => (eLV :: (HD d (HF f (HW w (HM m (HS s (HG g (HR z tl)))))))))) (inv_V (q := 12) (av := [.int x3, .int x5, .int ((x2 / 8) + 1)]) (rest := []) rfl (ci := 6) rfl d_Mod_read_74 gw_1211 gw_1213 gw_74 mw_Mod_pageOf nh_Mod_pageOf pn_Mod_pageOf rfl) d_Mod_read_74 pl_Mod_pageOf (Nat.le_of_ble_eq_true rfl) (Nat.le_of_ble_eq_true rfl) (Nat.le_of_ble_eq_true rfl) (e_f_Mod_pageOf (tl := tl) (d := d) (f := f) (w := w) (m := m) (s := s) (g := g)  r x3 x5 ((x2 / 8) + 1)) (fun _ => (len1 (lenHD (lenHF (lenHW (lenHM (lenHS (lenHG (lenHR rfl))))))))) (fun v z h2 => ⟨_, rfl, ?_⟩)
    exact ev_pick [0, 1] rfl (e_B_Mod_read_77     z x2 v)
def B_Mod_read_54   (r : RS) (x2 : Int32) (x3 : Int32) (x5 : Int32) (t1 : Int32) : Option (Int32 × RS) :=
  B_Mod_read_57   (rSFau r t1) x2 x3 x5
theorem e_B_Mod_read_54 {sc : Nat × (Nat → Int32)} {d : DS} {f : FS} {w : WS} {m : MS} {s : SS} {g : GS} {tl : List mn_E}    (r : RS) (x2 : Int32) (x3 : Int32) (x5 : Int32) (t1 : Int32) : Ev sc 5 78 0 0 M_Mod_read 54 [(0, .ref 12), (2, .int x2), (3, .int x3), (5, .int x5)] [.int t1, .ref 12] (eLV :: (HD d (HF f (HW w (HM m (HS s (HG g (HR r tl)))))))) (mapR ouI (fun z => (eLV :: (HD d (HF f (HW w (HM m (HS s (HG g (HR z tl))))))))) (B_Mod_read_54 r x2 x3 x5 t1)) := by
  unfold B_Mod_read_54
  refine ev_put (h2 := (eLV :: (HD d (HF f (HW w (HM m (HS s (HG g (HR (rSFau r t1) tl))))))))) gi_Mod ft_Mod fo_Mod fn_Mod (ci := 6) rfl rfl 1 (by decide) gw_1002 rfl rfl (fun _ => rfl) (fun _ => rfl) (Nat.le_of_ble_eq_true rfl) rfl d_Mod_read_54 ?_
  exact ev_pick [0, 1, 2, 3] rfl (e_B_Mod_read_57     (rSFau r t1) x2 x3 x5)
def B_Mod_read_41   (r : RS) (x2 : Int32) (x3 : Int32) (x5 : Int32) (t1 : Int32) (t2 : Int32) (t3 : Int32) : Option (Int32 × RS) :=
  if ((f_Mod_in t1 t2 (t3 - 1)).1) = 0 then (B_Mod_read_54   r x2 x3 x5 5) else (B_Mod_read_54   r x2 x3 x5 0)
theorem e_B_Mod_read_41 {sc : Nat × (Nat → Int32)} {d : DS} {f : FS} {w : WS} {m : MS} {s : SS} {g : GS} {tl : List mn_E}    (r : RS) (x2 : Int32) (x3 : Int32) (x5 : Int32) (t1 : Int32) (t2 : Int32) (t3 : Int32) : Ev sc 5 78 0 0 M_Mod_read 41 [(0, .ref 12), (2, .int x2), (3, .int x3), (5, .int x5)] [.int t3, .int t2, .int t1, .ref 12] (eLV :: (HD d (HF f (HW w (HM m (HS s (HG g (HR r tl)))))))) (mapR ouI (fun z => (eLV :: (HD d (HF f (HW w (HM m (HS s (HG g (HR z tl))))))))) (B_Mod_read_41 r x2 x3 x5 t1 t2 t3)) := by
  unfold B_Mod_read_41
  refine ev_iconst (v := 1) d_Mod_read_41 rfl ?_
  refine ev_isub d_Mod_read_42 ?_
  refine ev_callr (Mc := M_Mod_in) (v := some (.int ((f_Mod_in t1 t2 (t3 - 1)).1))) (h1 := (eLV :: (HD d (HF f (HW w (HM m (HS s (HG g (HR r tl))))))))) (k2 := 0) (n2 := 0) (inv_S (av := [.int t1, .int t2, .int (t3 - 1)]) (rest := [.ref 12]) d_Mod_read_43 gw_1108 gw_1109 gw_108 mw_Mod_in nh_Mod_in pn_Mod_in rfl) d_Mod_read_43 pl_Mod_in (Nat.le_of_ble_eq_true rfl) (Nat.le_of_ble_eq_true rfl) (Nat.le_of_ble_eq_true rfl) rfl rfl (e_f_Mod_in (hh := (eLV :: (HD d (HF f (HW w (HM m (HS s (HG g (HR r tl)))))))))   t1 t2 (t3 - 1)) (Or.inl (len1 (lenHD (lenHF (lenHW (lenHM (lenHS (lenHG (lenHR rfl))))))))) ?_
  refine ev_if_eq (tgt := 53) d_Mod_read_46 rfl (fun h1 => ?_) (fun h1 => ?_)
  · rw [if_pos h1]
    refine ev_iconst (v := 5) d_Mod_read_53 rfl ?_
    exact ev_pick [0, 1, 2, 3] rfl (e_B_Mod_read_54     r x2 x3 x5 5)
  · rw [if_neg h1]
    refine ev_iconst (v := 0) d_Mod_read_49 rfl ?_
    refine ev_goto (tgt := 54) d_Mod_read_50 rfl ?_
    exact ev_pick [0, 1, 2, 3] rfl (e_B_Mod_read_54     r x2 x3 x5 0)
def B_Mod_read_25   (r : RS) (x2 : Int32) (x3 : Int32) (x4 : Int32) (t0 : Int32) : Option (Int32 × RS) :=
  if t0 < 0 then (B_Mod_read_109   r x4) else (bnd (f_Mod_lengthAt r t0) (fun q => B_Mod_read_41   r x2 x3 t0 x2 0 q.1))
theorem e_B_Mod_read_25 {sc : Nat × (Nat → Int32)} {d : DS} {f : FS} {w : WS} {m : MS} {s : SS} {g : GS} {tl : List mn_E}    (r : RS) (x2 : Int32) (x3 : Int32) (x4 : Int32) (t0 : Int32) : Ev sc 5 78 0 0 M_Mod_read 25 [(0, .ref 12), (2, .int x2), (3, .int x3), (4, .int x4)] [.int t0] (eLV :: (HD d (HF f (HW w (HM m (HS s (HG g (HR r tl)))))))) (mapR ouI (fun z => (eLV :: (HD d (HF f (HW w (HM m (HS s (HG g (HR z tl))))))))) (B_Mod_read_25 r x2 x3 x4 t0)) := by
  unfold B_Mod_read_25
  refine ev_istore d_Mod_read_25 (by decide) rfl ?_
  refine ev_iload d_Mod_read_27 rfl ?_
  refine ev_if_lt (tgt := 109) d_Mod_read_29 rfl (fun h1 => ?_) (fun h1 => ?_)
  · rw [if_pos h1]
    exact ev_pick [1, 4] rfl (e_B_Mod_read_109     r x4)
  · rw [if_neg h1]
    refine ev_aload_n d_Mod_read_32 rfl rfl ?_
    refine ev_iload_n d_Mod_read_33 rfl rfl ?_
    refine ev_iconst (v := 0) d_Mod_read_34 rfl ?_
    refine ev_aload_n d_Mod_read_35 rfl rfl ?_
    refine ev_iload d_Mod_read_36 rfl ?_
    refine ev_callB (rc := (f_Mod_lengthAt r t0)) (ou := ouI) (Hs := (fun z => (eLV :: (HD d (HF f (HW w (HM m (HS s (HG g (HR r tl)))))))))) (inv_V (q := 12) (av := [.int t0]) (rest := [.int 0, .int x2, .ref 12]) rfl (ci := 6) rfl d_Mod_read_38 gw_1207 gw_1209 gw_73 mw_Mod_lengthAt nh_Mod_lengthAt pn_Mod_lengthAt rfl) d_Mod_read_38 pl_Mod_lengthAt (Nat.le_of_ble_eq_true rfl) (Nat.le_of_ble_eq_true rfl) (Nat.le_of_ble_eq_true rfl) (e_f_Mod_lengthAt (tl := tl) (d := d) (f := f) (w := w) (m := m) (s := s) (g := g)  r t0) (fun _ => (len1 (lenHD (lenHF (lenHW (lenHM (lenHS (lenHG (lenHR rfl))))))))) (fun v z h2 => ⟨_, rfl, ?_⟩)
    exact ev_pick [1, 2, 3, 0] rfl (e_B_Mod_read_41     r x2 x3 t0 x2 0 v)
def B_Mod_read_21   (r : RS) (x2 : Int32) (x3 : Int32) (x4 : Int32) (t0 : Int32) : Option (Int32 × RS) :=
  B_Mod_read_25   r x2 x3 x4 t0
theorem e_B_Mod_read_21 {sc : Nat × (Nat → Int32)} {d : DS} {f : FS} {w : WS} {m : MS} {s : SS} {g : GS} {tl : List mn_E}    (r : RS) (x2 : Int32) (x3 : Int32) (x4 : Int32) (t0 : Int32) : Ev sc 5 78 0 0 M_Mod_read 21 [(0, .ref 12), (2, .int x2), (3, .int x3), (4, .int x4)] [.int t0] (eLV :: (HD d (HF f (HW w (HM m (HS s (HG g (HR r tl)))))))) (mapR ouI (fun z => (eLV :: (HD d (HF f (HW w (HM m (HS s (HG g (HR z tl))))))))) (B_Mod_read_21 r x2 x3 x4 t0)) := by
  unfold B_Mod_read_21
  refine ev_goto (tgt := 25) d_Mod_read_21 rfl ?_
  exact ev_pick [0, 1, 2, 3] rfl (e_B_Mod_read_25     r x2 x3 x4 t0)
def B_Mod_read_5   (r : RS) (x2 : Int32) (t0 : Int32) : Option (Int32 × RS) :=
  if ¬ (rFau r) = 0 then (B_Mod_read_25   r x2 t0 0 (-1)) else (bnd (f_Mod_last r t0) (fun q => B_Mod_read_21   q.2 x2 t0 0 q.1))
theorem e_B_Mod_read_5 {sc : Nat × (Nat → Int32)} {d : DS} {f : FS} {w : WS} {m : MS} {s : SS} {g : GS} {tl : List mn_E}    (r : RS) (x2 : Int32) (t0 : Int32) : Ev sc 5 78 0 0 M_Mod_read 5 [(0, .ref 12), (2, .int x2)] [.int t0] (eLV :: (HD d (HF f (HW w (HM m (HS s (HG g (HR r tl)))))))) (mapR ouI (fun z => (eLV :: (HD d (HF f (HW w (HM m (HS s (HG g (HR z tl))))))))) (B_Mod_read_5 r x2 t0)) := by
  unfold B_Mod_read_5
  refine ev_istore_n d_Mod_read_5 rfl (by decide) rfl ?_
  refine ev_iconst (v := 0) d_Mod_read_6 rfl ?_
  refine ev_istore d_Mod_read_7 (by decide) rfl ?_
  refine ev_aload_n d_Mod_read_9 rfl rfl ?_
  refine ev_get (v := .int (rFau r)) gi_Mod (ci := 6) rfl rfl 1 (by decide) gw_1002 rfl d_Mod_read_10 ?_
  refine ev_if_ne (tgt := 24) d_Mod_read_13 rfl (fun h1 => ?_) (fun h1 => ?_)
  · rw [if_pos h1]
    refine ev_iconst (v := -1) d_Mod_read_24 rfl ?_
    exact ev_pick [2, 3, 1, 0] rfl (e_B_Mod_read_25     r x2 t0 0 (-1))
  · rw [if_neg h1]
    refine ev_aload_n d_Mod_read_16 rfl rfl ?_
    refine ev_iload_n d_Mod_read_17 rfl rfl ?_
    refine ev_callB (rc := (f_Mod_last r t0)) (ou := ouI) (Hs := (fun z => (eLV :: (HD d (HF f (HW w (HM m (HS s (HG g (HR z tl)))))))))) (inv_V (q := 12) (av := [.int t0]) (rest := []) rfl (ci := 6) rfl d_Mod_read_18 gw_1203 gw_1205 gw_72 mw_Mod_last nh_Mod_last pn_Mod_last rfl) d_Mod_read_18 pl_Mod_last (Nat.le_of_ble_eq_true rfl) (Nat.le_of_ble_eq_true rfl) (Nat.le_of_ble_eq_true rfl) (e_f_Mod_last (tl := tl) (d := d) (f := f) (w := w) (m := m) (s := s) (g := g)  r t0) (fun _ => (len1 (lenHD (lenHF (lenHW (lenHM (lenHS (lenHG (lenHR rfl))))))))) (fun v z h2 => ⟨_, rfl, ?_⟩)
    exact ev_pick [2, 3, 1, 0] rfl (e_B_Mod_read_21     z x2 t0 0 v)
def f_Mod_read   (r : RS) (x1 : Int32) (x2 : Int32) : Option (Int32 × RS) :=
  bnd (f_Mod_begin r x1) (fun q => B_Mod_read_5   q.2 x2 q.1)
theorem e_f_Mod_read {sc : Nat × (Nat → Int32)} {d : DS} {f : FS} {w : WS} {m : MS} {s : SS} {g : GS} {tl : List mn_E}    (r : RS) (x1 : Int32) (x2 : Int32) : Ev sc 5 78 0 0 M_Mod_read 0 [(0, .ref 12), (1, .int x1), (2, .int x2)] [] (eLV :: (HD d (HF f (HW w (HM m (HS s (HG g (HR r tl)))))))) (mapR ouI (fun z => (eLV :: (HD d (HF f (HW w (HM m (HS s (HG g (HR z tl))))))))) (f_Mod_read r x1 x2)) := by
  unfold f_Mod_read
  refine ev_aload_n d_Mod_read_0 rfl rfl ?_
  refine ev_iload_n d_Mod_read_1 rfl rfl ?_
  refine ev_callB (rc := (f_Mod_begin r x1)) (ou := ouI) (Hs := (fun z => (eLV :: (HD d (HF f (HW w (HM m (HS s (HG g (HR z tl)))))))))) (inv_V (q := 12) (av := [.int x1]) (rest := []) rfl (ci := 6) rfl d_Mod_read_2 gw_1100 gw_1102 gw_49 mw_Mod_begin nh_Mod_begin pn_Mod_begin rfl) d_Mod_read_2 pl_Mod_begin (Nat.le_of_ble_eq_true rfl) (Nat.le_of_ble_eq_true rfl) (Nat.le_of_ble_eq_true rfl) (e_f_Mod_begin (tl := tl) (d := d) (f := f) (w := w) (m := m) (s := s) (g := g)  r x1) (fun _ => (len1 (lenHD (lenHF (lenHW (lenHM (lenHS (lenHG (lenHR rfl))))))))) (fun v z h1 => ⟨_, rfl, ?_⟩)
  exact ev_pick [0, 2] rfl (e_B_Mod_read_5     z x2 v)
def B_Mod_putByte_161   (r : RS) : Option (Unit × RS) :=
  some ((), r)
theorem e_B_Mod_putByte_161 {sc : Nat × (Nat → Int32)} {d : DS} {f : FS} {w : WS} {m : MS} {s : SS} {g : GS} {tl : List mn_E}    (r : RS) : Ev sc 6 93 0 0 M_Mod_putByte 161 [] [] (eLV :: (HD d (HF f (HW w (HM m (HS s (HG g (HR r tl)))))))) (mapR ouV (fun z => (eLV :: (HD d (HF f (HW w (HM m (HS s (HG g (HR z tl))))))))) (B_Mod_putByte_161 r)) := by
  unfold B_Mod_putByte_161
  exact ev_vret rfl d_Mod_putByte_161
def B_Mod_putByte_56   (r : RS) : Option (Unit × RS) :=
  B_Mod_putByte_161   r
theorem e_B_Mod_putByte_56 {sc : Nat × (Nat → Int32)} {d : DS} {f : FS} {w : WS} {m : MS} {s : SS} {g : GS} {tl : List mn_E}    (r : RS) : Ev sc 6 93 0 0 M_Mod_putByte 56 [] [] (eLV :: (HD d (HF f (HW w (HM m (HS s (HG g (HR r tl)))))))) (mapR ouV (fun z => (eLV :: (HD d (HF f (HW w (HM m (HS s (HG g (HR z tl))))))))) (B_Mod_putByte_56 r)) := by
  unfold B_Mod_putByte_56
  refine ev_goto (tgt := 161) d_Mod_putByte_56 rfl ?_
  exact ev_pick [] rfl (e_B_Mod_putByte_161     r)
def B_Mod_putByte_32   (r : RS) (x3 : Int32) (x4 : Int32) (x5 : Int32) (t0 : Int32) : Option (Unit × RS) :=
  if t0 = 0 then (B_Mod_putByte_56   r) else (if inB ((8 * x5) + (x3 - x3 / 8 * 8)) 320 then (B_Mod_putByte_56   (rSByt r (upd (rByt r) ((8 * x5) + (x3 - x3 / 8 * 8)).toNatClampNeg (x4 &&& 255)))) else none)
theorem e_B_Mod_putByte_32 {sc : Nat × (Nat → Int32)} {d : DS} {f : FS} {w : WS} {m : MS} {s : SS} {g : GS} {tl : List mn_E}    (r : RS) (x3 : Int32) (x4 : Int32) (x5 : Int32) (t0 : Int32) : Ev sc 6 93 0 0 M_Mod_putByte 32 [(0, .ref 12), (3, .int x3), (4, .int x4), (5, .int x5)] [.int t0] (eLV :: (HD d (HF f (HW w (HM m (HS s (HG g (HR r tl)))))))) (mapR ouV (fun z => (eLV :: (HD d (HF f (HW w (HM m (HS s (HG g (HR z tl))))))))) (B_Mod_putByte_32 r x3 x4 x5 t0)) := by
  unfold B_Mod_putByte_32
  refine ev_if_eq (tgt := 56) d_Mod_putByte_32 rfl (fun h1 => ?_) (fun h1 => ?_)
  · rw [if_pos h1]
    exact ev_pick [] rfl (e_B_Mod_putByte_56     r)
  · rw [if_neg h1]
    refine ev_aload_n d_Mod_putByte_35 rfl rfl ?_
    refine ev_get (v := .ref 18) gi_Mod (ci := 6) rfl rfl 7 (by decide) gw_1008 rfl d_Mod_putByte_36 ?_
    refine ev_bipush (v := 8) d_Mod_putByte_39 rfl ?_
    refine ev_iload d_Mod_putByte_41 rfl ?_
    refine ev_imul d_Mod_putByte_43 ?_
    refine ev_iload_n d_Mod_putByte_44 rfl rfl ?_
    refine ev_bipush (v := 8) d_Mod_putByte_45 rfl ?_
    refine ev_irem d_Mod_putByte_47 (by decide) ?_
    refine ev_iadd d_Mod_putByte_48 ?_
    refine ev_iload d_Mod_putByte_49 rfl ?_
    refine ev_sipush (v := 255) d_Mod_putByte_51 rfl ?_
    refine ev_iand d_Mod_putByte_54 ?_
    refine ev_inB (fun h2 => ?_)
    refine ev_iastore (h2 := (eLV :: (HD d (HF f (HW w (HM m (HS s (HG g (HR (rSByt r (upd (rByt r) ((8 * x5) + (x3 - x3 / 8 * 8)).toNatClampNeg (x4 &&& 255))) tl))))))))) rfl (inB_of h2) rfl d_Mod_putByte_55 ?_
    exact ev_pick [] rfl (e_B_Mod_putByte_56     (rSByt r (upd (rByt r) ((8 * x5) + (x3 - x3 / 8 * 8)).toNatClampNeg (x4 &&& 255))))
def B_Mod_putByte_21   (r : RS) (x3 : Int32) (x4 : Int32) (t0 : Int32) : Option (Unit × RS) :=
  if t0 < 0 then (B_Mod_putByte_56   r) else (B_Mod_putByte_32   ((f_Mod_writes r).2) x3 x4 t0 ((f_Mod_writes r).1))
theorem e_B_Mod_putByte_21 {sc : Nat × (Nat → Int32)} {d : DS} {f : FS} {w : WS} {m : MS} {s : SS} {g : GS} {tl : List mn_E}    (r : RS) (x3 : Int32) (x4 : Int32) (t0 : Int32) : Ev sc 6 93 0 0 M_Mod_putByte 21 [(0, .ref 12), (3, .int x3), (4, .int x4)] [.int t0] (eLV :: (HD d (HF f (HW w (HM m (HS s (HG g (HR r tl)))))))) (mapR ouV (fun z => (eLV :: (HD d (HF f (HW w (HM m (HS s (HG g (HR z tl))))))))) (B_Mod_putByte_21 r x3 x4 t0)) := by
  unfold B_Mod_putByte_21
  refine ev_istore d_Mod_putByte_21 (by decide) rfl ?_
  refine ev_iload d_Mod_putByte_23 rfl ?_
  refine ev_if_lt (tgt := 56) d_Mod_putByte_25 rfl (fun h1 => ?_) (fun h1 => ?_)
  · rw [if_pos h1]
    exact ev_pick [] rfl (e_B_Mod_putByte_56     r)
  · rw [if_neg h1]
    refine ev_aload_n d_Mod_putByte_28 rfl rfl ?_
    refine ev_callr (Mc := M_Mod_writes) (v := some (.int ((f_Mod_writes r).1))) (h1 := (eLV :: (HD d (HF f (HW w (HM m (HS s (HG g (HR ((f_Mod_writes r).2) tl))))))))) (k2 := 0) (n2 := 0) (inv_V (q := 12) (av := []) (rest := []) rfl (ci := 6) rfl d_Mod_putByte_29 gw_1163 gw_1165 gw_64 mw_Mod_writes nh_Mod_writes pn_Mod_writes rfl) d_Mod_putByte_29 pl_Mod_writes (Nat.le_of_ble_eq_true rfl) (Nat.le_of_ble_eq_true rfl) (Nat.le_of_ble_eq_true rfl) rfl rfl (e_f_Mod_writes (tl := tl) (d := d) (f := f) (w := w) (m := m) (s := s) (g := g)  r ) (Or.inl (len1 (lenHD (lenHF (lenHW (lenHM (lenHS (lenHG (lenHR rfl))))))))) ?_
    exact ev_pick [1, 2, 3, 0] rfl (e_B_Mod_putByte_32     ((f_Mod_writes r).2) x3 x4 t0 ((f_Mod_writes r).1))
def B_Mod_putByte_118   (r : RS) : Option (Unit × RS) :=
  B_Mod_putByte_161   r
theorem e_B_Mod_putByte_118 {sc : Nat × (Nat → Int32)} {d : DS} {f : FS} {w : WS} {m : MS} {s : SS} {g : GS} {tl : List mn_E}    (r : RS) : Ev sc 6 93 0 0 M_Mod_putByte 118 [] [] (eLV :: (HD d (HF f (HW w (HM m (HS s (HG g (HR r tl)))))))) (mapR ouV (fun z => (eLV :: (HD d (HF f (HW w (HM m (HS s (HG g (HR z tl))))))))) (B_Mod_putByte_118 r)) := by
  unfold B_Mod_putByte_118
  refine ev_goto (tgt := 161) d_Mod_putByte_118 rfl ?_
  exact ev_pick [] rfl (e_B_Mod_putByte_161     r)
def B_Mod_putByte_104   (r : RS) (x2 : Int32) : Option (Unit × RS) :=
  if inB x2 40 then (if inB x2 40 then (B_Mod_putByte_118   (rSUse r (upd (rUse r) x2.toNatClampNeg ((rUse r x2.toNatClampNeg) + 1)))) else none) else none
theorem e_B_Mod_putByte_104 {sc : Nat × (Nat → Int32)} {d : DS} {f : FS} {w : WS} {m : MS} {s : SS} {g : GS} {tl : List mn_E}    (r : RS) (x2 : Int32) : Ev sc 6 93 0 0 M_Mod_putByte 104 [(0, .ref 12), (2, .int x2)] [] (eLV :: (HD d (HF f (HW w (HM m (HS s (HG g (HR r tl)))))))) (mapR ouV (fun z => (eLV :: (HD d (HF f (HW w (HM m (HS s (HG g (HR z tl))))))))) (B_Mod_putByte_104 r x2)) := by
  unfold B_Mod_putByte_104
  refine ev_aload_n d_Mod_putByte_104 rfl rfl ?_
  refine ev_get (v := .ref 15) gi_Mod (ci := 6) rfl rfl 4 (by decide) gw_1005 rfl d_Mod_putByte_105 ?_
  refine ev_iload_n d_Mod_putByte_108 rfl rfl ?_
  refine ev_aload_n d_Mod_putByte_109 rfl rfl ?_
  refine ev_get (v := .ref 15) gi_Mod (ci := 6) rfl rfl 4 (by decide) gw_1005 rfl d_Mod_putByte_110 ?_
  refine ev_iload_n d_Mod_putByte_113 rfl rfl ?_
  refine ev_inB (fun h1 => ?_)
  refine ev_iaload rfl (inB_of h1) d_Mod_putByte_114 ?_
  refine ev_iconst (v := 1) d_Mod_putByte_115 rfl ?_
  refine ev_iadd d_Mod_putByte_116 ?_
  refine ev_inB (fun h2 => ?_)
  refine ev_iastore (h2 := (eLV :: (HD d (HF f (HW w (HM m (HS s (HG g (HR (rSUse r (upd (rUse r) x2.toNatClampNeg ((rUse r x2.toNatClampNeg) + 1))) tl))))))))) rfl (inB_of h2) rfl d_Mod_putByte_117 ?_
  exact ev_pick [] rfl (e_B_Mod_putByte_118     (rSUse r (upd (rUse r) x2.toNatClampNeg ((rUse r x2.toNatClampNeg) + 1))))
def B_Mod_putByte_79   (r : RS) (x2 : Int32) (x4 : Int32) (t0 : Int32) : Option (Unit × RS) :=
  if t0 = 0 then (B_Mod_putByte_161   r) else (if inB x2 40 then (if inB ((8 * x2) + (rUse r x2.toNatClampNeg)) 320 then (B_Mod_putByte_104   (rSByt r (upd (rByt r) ((8 * x2) + (rUse r x2.toNatClampNeg)).toNatClampNeg (x4 &&& 255))) x2) else none) else none)
theorem e_B_Mod_putByte_79 {sc : Nat × (Nat → Int32)} {d : DS} {f : FS} {w : WS} {m : MS} {s : SS} {g : GS} {tl : List mn_E}    (r : RS) (x2 : Int32) (x4 : Int32) (t0 : Int32) : Ev sc 6 93 0 0 M_Mod_putByte 79 [(0, .ref 12), (2, .int x2), (4, .int x4)] [.int t0] (eLV :: (HD d (HF f (HW w (HM m (HS s (HG g (HR r tl)))))))) (mapR ouV (fun z => (eLV :: (HD d (HF f (HW w (HM m (HS s (HG g (HR z tl))))))))) (B_Mod_putByte_79 r x2 x4 t0)) := by
  unfold B_Mod_putByte_79
  refine ev_if_eq (tgt := 161) d_Mod_putByte_79 rfl (fun h1 => ?_) (fun h1 => ?_)
  · rw [if_pos h1]
    exact ev_pick [] rfl (e_B_Mod_putByte_161     r)
  · rw [if_neg h1]
    refine ev_aload_n d_Mod_putByte_82 rfl rfl ?_
    refine ev_get (v := .ref 18) gi_Mod (ci := 6) rfl rfl 7 (by decide) gw_1008 rfl d_Mod_putByte_83 ?_
    refine ev_bipush (v := 8) d_Mod_putByte_86 rfl ?_
    refine ev_iload_n d_Mod_putByte_88 rfl rfl ?_
    refine ev_imul d_Mod_putByte_89 ?_
    refine ev_aload_n d_Mod_putByte_90 rfl rfl ?_
    refine ev_get (v := .ref 15) gi_Mod (ci := 6) rfl rfl 4 (by decide) gw_1005 rfl d_Mod_putByte_91 ?_
    refine ev_iload_n d_Mod_putByte_94 rfl rfl ?_
    refine ev_inB (fun h2 => ?_)
    refine ev_iaload rfl (inB_of h2) d_Mod_putByte_95 ?_
    refine ev_iadd d_Mod_putByte_96 ?_
    refine ev_iload d_Mod_putByte_97 rfl ?_
    refine ev_sipush (v := 255) d_Mod_putByte_99 rfl ?_
    refine ev_iand d_Mod_putByte_102 ?_
    refine ev_inB (fun h3 => ?_)
    refine ev_iastore (h2 := (eLV :: (HD d (HF f (HW w (HM m (HS s (HG g (HR (rSByt r (upd (rByt r) ((8 * x2) + (rUse r x2.toNatClampNeg)).toNatClampNeg (x4 &&& 255))) tl))))))))) rfl (inB_of h3) rfl d_Mod_putByte_103 ?_
    exact ev_pick [0, 1] rfl (e_B_Mod_putByte_104     (rSByt r (upd (rByt r) ((8 * x2) + (rUse r x2.toNatClampNeg)).toNatClampNeg (x4 &&& 255))) x2)
def B_Mod_putByte_153   (r : RS) : Option (Unit × RS) :=
  B_Mod_putByte_161   r
theorem e_B_Mod_putByte_153 {sc : Nat × (Nat → Int32)} {d : DS} {f : FS} {w : WS} {m : MS} {s : SS} {g : GS} {tl : List mn_E}    (r : RS) : Ev sc 6 93 0 0 M_Mod_putByte 153 [] [] (eLV :: (HD d (HF f (HW w (HM m (HS s (HG g (HR r tl)))))))) (mapR ouV (fun z => (eLV :: (HD d (HF f (HW w (HM m (HS s (HG g (HR z tl))))))))) (B_Mod_putByte_153 r)) := by
  unfold B_Mod_putByte_153
  refine ev_goto (tgt := 161) d_Mod_putByte_153 rfl ?_
  exact ev_pick [] rfl (e_B_Mod_putByte_161     r)
def B_Mod_putByte_149   (r : RS) : Option (Unit × RS) :=
  bnd (f_Mod_putMap r) (fun q => B_Mod_putByte_153   q.2)
theorem e_B_Mod_putByte_149 {sc : Nat × (Nat → Int32)} {d : DS} {f : FS} {w : WS} {m : MS} {s : SS} {g : GS} {tl : List mn_E}    (r : RS) : Ev sc 6 93 0 0 M_Mod_putByte 149 [(0, .ref 12)] [] (eLV :: (HD d (HF f (HW w (HM m (HS s (HG g (HR r tl)))))))) (mapR ouV (fun z => (eLV :: (HD d (HF f (HW w (HM m (HS s (HG g (HR z tl))))))))) (B_Mod_putByte_149 r)) := by
  unfold B_Mod_putByte_149
  refine ev_aload_n d_Mod_putByte_149 rfl rfl ?_
  refine ev_callB (rc := (f_Mod_putMap r)) (ou := ouV) (Hs := (fun z => (eLV :: (HD d (HF f (HW w (HM m (HS s (HG g (HR z tl)))))))))) (inv_V (q := 12) (av := []) (rest := []) rfl (ci := 6) rfl d_Mod_putByte_150 gw_1183 gw_1185 gw_69 mw_Mod_putMap nh_Mod_putMap pn_Mod_putMap rfl) d_Mod_putByte_150 pl_Mod_putMap (Nat.le_of_ble_eq_true rfl) (Nat.le_of_ble_eq_true rfl) (Nat.le_of_ble_eq_true rfl) (e_f_Mod_putMap (tl := tl) (d := d) (f := f) (w := w) (m := m) (s := s) (g := g)  r ) (fun _ => (len1 (lenHD (lenHF (lenHW (lenHM (lenHS (lenHG (lenHR rfl))))))))) (fun v z h1 => ⟨_, rfl, ?_⟩)
  exact ev_pick [] rfl (e_B_Mod_putByte_153     z)
def B_Mod_putByte_137   (r : RS) (x4 : Int32) (t1 : Int32) (t2 : Int32) (t3 : Int32) : Option (Unit × RS) :=
  bnd (f_Mod_append r t1 t2 t3 1 (x4 &&& 255) 0 0) (fun q => B_Mod_putByte_149   q.2)
theorem e_B_Mod_putByte_137 {sc : Nat × (Nat → Int32)} {d : DS} {f : FS} {w : WS} {m : MS} {s : SS} {g : GS} {tl : List mn_E}    (r : RS) (x4 : Int32) (t1 : Int32) (t2 : Int32) (t3 : Int32) : Ev sc 6 93 0 0 M_Mod_putByte 137 [(0, .ref 12), (4, .int x4)] [.int t3, .int t2, .int t1, .ref 12] (eLV :: (HD d (HF f (HW w (HM m (HS s (HG g (HR r tl)))))))) (mapR ouV (fun z => (eLV :: (HD d (HF f (HW w (HM m (HS s (HG g (HR z tl))))))))) (B_Mod_putByte_137 r x4 t1 t2 t3)) := by
  unfold B_Mod_putByte_137
  refine ev_iconst (v := 1) d_Mod_putByte_137 rfl ?_
  refine ev_iload d_Mod_putByte_138 rfl ?_
  refine ev_sipush (v := 255) d_Mod_putByte_140 rfl ?_
  refine ev_iand d_Mod_putByte_143 ?_
  refine ev_iconst (v := 0) d_Mod_putByte_144 rfl ?_
  refine ev_iconst (v := 0) d_Mod_putByte_145 rfl ?_
  refine ev_callB (rc := (f_Mod_append r t1 t2 t3 1 (x4 &&& 255) 0 0)) (ou := ouV) (Hs := (fun z => (eLV :: (HD d (HF f (HW w (HM m (HS s (HG g (HR z tl)))))))))) (inv_V (q := 12) (av := [.int t1, .int t2, .int t3, .int 1, .int (x4 &&& 255), .int 0, .int 0]) (rest := []) rfl (ci := 6) rfl d_Mod_putByte_146 gw_1179 gw_1181 gw_68 mw_Mod_append nh_Mod_append pn_Mod_append rfl) d_Mod_putByte_146 pl_Mod_append (Nat.le_of_ble_eq_true rfl) (Nat.le_of_ble_eq_true rfl) (Nat.le_of_ble_eq_true rfl) (e_f_Mod_append (tl := tl) (d := d) (f := f) (w := w) (m := m) (s := s) (g := g)  r t1 t2 t3 1 (x4 &&& 255) 0 0) (fun _ => (len1 (lenHD (lenHF (lenHW (lenHM (lenHS (lenHG (lenHR rfl))))))))) (fun v z h1 => ⟨_, rfl, ?_⟩)
  exact ev_pick [0] rfl (e_B_Mod_putByte_149     z)
def B_Mod_putByte_126   (r : RS) (x1 : Int32) (x2 : Int32) (x4 : Int32) (t0 : Int32) : Option (Unit × RS) :=
  if t0 = 0 then (B_Mod_putByte_161   (rSFau r 4)) else (bnd (f_Mod_taken r 0) (fun q => B_Mod_putByte_137   r x4 x1 x2 q.1))
theorem e_B_Mod_putByte_126 {sc : Nat × (Nat → Int32)} {d : DS} {f : FS} {w : WS} {m : MS} {s : SS} {g : GS} {tl : List mn_E}    (r : RS) (x1 : Int32) (x2 : Int32) (x4 : Int32) (t0 : Int32) : Ev sc 6 93 0 0 M_Mod_putByte 126 [(0, .ref 12), (1, .int x1), (2, .int x2), (4, .int x4)] [.int t0] (eLV :: (HD d (HF f (HW w (HM m (HS s (HG g (HR r tl)))))))) (mapR ouV (fun z => (eLV :: (HD d (HF f (HW w (HM m (HS s (HG g (HR z tl))))))))) (B_Mod_putByte_126 r x1 x2 x4 t0)) := by
  unfold B_Mod_putByte_126
  refine ev_if_eq (tgt := 156) d_Mod_putByte_126 rfl (fun h1 => ?_) (fun h1 => ?_)
  · rw [if_pos h1]
    refine ev_aload_n d_Mod_putByte_156 rfl rfl ?_
    refine ev_iconst (v := 4) d_Mod_putByte_157 rfl ?_
    refine ev_put (h2 := (eLV :: (HD d (HF f (HW w (HM m (HS s (HG g (HR (rSFau r 4) tl))))))))) gi_Mod ft_Mod fo_Mod fn_Mod (ci := 6) rfl rfl 1 (by decide) gw_1002 rfl rfl (fun _ => rfl) (fun _ => rfl) (Nat.le_of_ble_eq_true rfl) rfl d_Mod_putByte_158 ?_
    exact ev_pick [] rfl (e_B_Mod_putByte_161     (rSFau r 4))
  · rw [if_neg h1]
    refine ev_aload_n d_Mod_putByte_129 rfl rfl ?_
    refine ev_iload_n d_Mod_putByte_130 rfl rfl ?_
    refine ev_iload_n d_Mod_putByte_131 rfl rfl ?_
    refine ev_aload_n d_Mod_putByte_132 rfl rfl ?_
    refine ev_iconst (v := 0) d_Mod_putByte_133 rfl ?_
    refine ev_callB (rc := (f_Mod_taken r 0)) (ou := ouI) (Hs := (fun z => (eLV :: (HD d (HF f (HW w (HM m (HS s (HG g (HR r tl)))))))))) (inv_V (q := 12) (av := [.int 0]) (rest := [.int x2, .int x1, .ref 12]) rfl (ci := 6) rfl d_Mod_putByte_134 gw_1159 gw_1161 gw_63 mw_Mod_taken nh_Mod_taken pn_Mod_taken rfl) d_Mod_putByte_134 pl_Mod_taken (Nat.le_of_ble_eq_true rfl) (Nat.le_of_ble_eq_true rfl) (Nat.le_of_ble_eq_true rfl) (e_f_Mod_taken (tl := tl) (d := d) (f := f) (w := w) (m := m) (s := s) (g := g)  r 0) (fun _ => (len1 (lenHD (lenHF (lenHW (lenHM (lenHS (lenHG (lenHR rfl))))))))) (fun v z h2 => ⟨_, rfl, ?_⟩)
    exact ev_pick [0, 3] rfl (e_B_Mod_putByte_137     r x4 x1 x2 v)
def B_Mod_putByte_121   (r : RS) (x1 : Int32) (x2 : Int32) (x4 : Int32) : Option (Unit × RS) :=
  bnd (f_Mod_takes r 1) (fun q => B_Mod_putByte_126   q.2 x1 x2 x4 q.1)
theorem e_B_Mod_putByte_121 {sc : Nat × (Nat → Int32)} {d : DS} {f : FS} {w : WS} {m : MS} {s : SS} {g : GS} {tl : List mn_E}    (r : RS) (x1 : Int32) (x2 : Int32) (x4 : Int32) : Ev sc 6 93 0 0 M_Mod_putByte 121 [(0, .ref 12), (1, .int x1), (2, .int x2), (4, .int x4)] [] (eLV :: (HD d (HF f (HW w (HM m (HS s (HG g (HR r tl)))))))) (mapR ouV (fun z => (eLV :: (HD d (HF f (HW w (HM m (HS s (HG g (HR z tl))))))))) (B_Mod_putByte_121 r x1 x2 x4)) := by
  unfold B_Mod_putByte_121
  refine ev_aload_n d_Mod_putByte_121 rfl rfl ?_
  refine ev_iconst (v := 1) d_Mod_putByte_122 rfl ?_
  refine ev_callB (rc := (f_Mod_takes r 1)) (ou := ouI) (Hs := (fun z => (eLV :: (HD d (HF f (HW w (HM m (HS s (HG g (HR z tl)))))))))) (inv_V (q := 12) (av := [.int 1]) (rest := []) rfl (ci := 6) rfl d_Mod_putByte_123 gw_1143 gw_1145 gw_59 mw_Mod_takes nh_Mod_takes pn_Mod_takes rfl) d_Mod_putByte_123 pl_Mod_takes (Nat.le_of_ble_eq_true rfl) (Nat.le_of_ble_eq_true rfl) (Nat.le_of_ble_eq_true rfl) (e_f_Mod_takes (tl := tl) (d := d) (f := f) (w := w) (m := m) (s := s) (g := g)  r 1) (fun _ => (len1 (lenHD (lenHF (lenHW (lenHM (lenHS (lenHG (lenHR rfl))))))))) (fun v z h1 => ⟨_, rfl, ?_⟩)
  exact ev_pick [0, 1, 2, 3] rfl (e_B_Mod_putByte_126     z x1 x2 x4 v)
def B_Mod_putByte_6   (r : RS) (x1 : Int32) (x2 : Int32) (x3 : Int32) (x4 : Int32) (t0 : Int32) (t1 : Int32) : Option (Unit × RS) :=
  if t1 ≤ t0 then (if x2 = x1 then (B_Mod_putByte_121   r x1 x2 x4) else (if inB x2 40 then (if 8 ≤ (rUse r x2.toNatClampNeg) then (B_Mod_putByte_121   r x1 x2 x4) else (B_Mod_putByte_79   ((f_Mod_writes r).2) x2 x4 ((f_Mod_writes r).1))) else none)) else (bnd (f_Mod_pageOf r x1 x2 ((x3 / 8) + 1)) (fun q => B_Mod_putByte_21   q.2 x3 x4 q.1))
theorem e_B_Mod_putByte_6 {sc : Nat × (Nat → Int32)} {d : DS} {f : FS} {w : WS} {m : MS} {s : SS} {g : GS} {tl : List mn_E}    (r : RS) (x1 : Int32) (x2 : Int32) (x3 : Int32) (x4 : Int32) (t0 : Int32) (t1 : Int32) : Ev sc 6 93 0 0 M_Mod_putByte 6 [(0, .ref 12), (1, .int x1), (2, .int x2), (3, .int x3), (4, .int x4)] [.int t1, .int t0] (eLV :: (HD d (HF f (HW w (HM m (HS s (HG g (HR r tl)))))))) (mapR ouV (fun z => (eLV :: (HD d (HF f (HW w (HM m (HS s (HG g (HR z tl))))))))) (B_Mod_putByte_6 r x1 x2 x3 x4 t0 t1)) := by
  unfold B_Mod_putByte_6
  refine ev_icmp_ge (tgt := 59) d_Mod_putByte_6 rfl (fun h1 => ?_) (fun h1 => ?_)
  · rw [if_pos h1]
    refine ev_iload_n d_Mod_putByte_59 rfl rfl ?_
    refine ev_iload_n d_Mod_putByte_60 rfl rfl ?_
    refine ev_icmp_eq (tgt := 121) d_Mod_putByte_61 rfl (fun h2 => ?_) (fun h2 => ?_)
    · rw [if_pos h2]
      exact ev_pick [0, 1, 2, 4] rfl (e_B_Mod_putByte_121     r x1 x2 x4)
    · rw [if_neg h2]
      refine ev_aload_n d_Mod_putByte_64 rfl rfl ?_
      refine ev_get (v := .ref 15) gi_Mod (ci := 6) rfl rfl 4 (by decide) gw_1005 rfl d_Mod_putByte_65 ?_
      refine ev_iload_n d_Mod_putByte_68 rfl rfl ?_
      refine ev_inB (fun h3 => ?_)
      refine ev_iaload rfl (inB_of h3) d_Mod_putByte_69 ?_
      refine ev_bipush (v := 8) d_Mod_putByte_70 rfl ?_
      refine ev_icmp_ge (tgt := 121) d_Mod_putByte_72 rfl (fun h4 => ?_) (fun h4 => ?_)
      · rw [if_pos h4]
        exact ev_pick [0, 1, 2, 4] rfl (e_B_Mod_putByte_121     r x1 x2 x4)
      · rw [if_neg h4]
        refine ev_aload_n d_Mod_putByte_75 rfl rfl ?_
        refine ev_callr (Mc := M_Mod_writes) (v := some (.int ((f_Mod_writes r).1))) (h1 := (eLV :: (HD d (HF f (HW w (HM m (HS s (HG g (HR ((f_Mod_writes r).2) tl))))))))) (k2 := 0) (n2 := 0) (inv_V (q := 12) (av := []) (rest := []) rfl (ci := 6) rfl d_Mod_putByte_76 gw_1163 gw_1165 gw_64 mw_Mod_writes nh_Mod_writes pn_Mod_writes rfl) d_Mod_putByte_76 pl_Mod_writes (Nat.le_of_ble_eq_true rfl) (Nat.le_of_ble_eq_true rfl) (Nat.le_of_ble_eq_true rfl) rfl rfl (e_f_Mod_writes (tl := tl) (d := d) (f := f) (w := w) (m := m) (s := s) (g := g)  r ) (Or.inl (len1 (lenHD (lenHF (lenHW (lenHM (lenHS (lenHG (lenHR rfl))))))))) ?_
        exact ev_pick [0, 2, 4] rfl (e_B_Mod_putByte_79     ((f_Mod_writes r).2) x2 x4 ((f_Mod_writes r).1))
  · rw [if_neg h1]
    refine ev_aload_n d_Mod_putByte_9 rfl rfl ?_
    refine ev_iload_n d_Mod_putByte_10 rfl rfl ?_
    refine ev_iload_n d_Mod_putByte_11 rfl rfl ?_
    refine ev_iload_n d_Mod_putByte_12 rfl rfl ?_
    refine ev_bipush (v := 8) d_Mod_putByte_13 rfl ?_
    refine ev_idiv d_Mod_putByte_15 (by decide) ?_
    refine ev_iconst (v := 1) d_Mod_putByte_16 rfl ?_
    refine ev_iadd d_Mod_putByte_17 ?_
    refine ev_callB (rc := (f_Mod_pageOf r x1 x2 ((x3 / 8) + 1))) (ou := ouI) (Hs := (fun z => (eLV :: (HD d (HF f (HW w (HM m (HS s (HG g (HR z tl)))))))))) (inv_V (q := 12) (av := [.int x1, .int x2, .int ((x3 / 8) + 1)]) (rest := []) rfl (ci := 6) rfl d_Mod_putByte_18 gw_1211 gw_1213 gw_74 mw_Mod_pageOf nh_Mod_pageOf pn_Mod_pageOf rfl) d_Mod_putByte_18 pl_Mod_pageOf (Nat.le_of_ble_eq_true rfl) (Nat.le_of_ble_eq_true rfl) (Nat.le_of_ble_eq_true rfl) (e_f_Mod_pageOf (tl := tl) (d := d) (f := f) (w := w) (m := m) (s := s) (g := g)  r x1 x2 ((x3 / 8) + 1)) (fun _ => (len1 (lenHD (lenHF (lenHW (lenHM (lenHS (lenHG (lenHR rfl))))))))) (fun v z h5 => ⟨_, rfl, ?_⟩)
    exact ev_pick [0, 3, 4] rfl (e_B_Mod_putByte_21     z x3 x4 v)
def f_Mod_putByte   (r : RS) (x1 : Int32) (x2 : Int32) (x3 : Int32) (x4 : Int32) : Option (Unit × RS) :=
  bnd (f_Mod_lengthAt r x2) (fun q => B_Mod_putByte_6   r x1 x2 x3 x4 x3 q.1)
theorem e_f_Mod_putByte {sc : Nat × (Nat → Int32)} {d : DS} {f : FS} {w : WS} {m : MS} {s : SS} {g : GS} {tl : List mn_E}    (r : RS) (x1 : Int32) (x2 : Int32) (x3 : Int32) (x4 : Int32) : Ev sc 6 93 0 0 M_Mod_putByte 0 [(0, .ref 12), (1, .int x1), (2, .int x2), (3, .int x3), (4, .int x4)] [] (eLV :: (HD d (HF f (HW w (HM m (HS s (HG g (HR r tl)))))))) (mapR ouV (fun z => (eLV :: (HD d (HF f (HW w (HM m (HS s (HG g (HR z tl))))))))) (f_Mod_putByte r x1 x2 x3 x4)) := by
  unfold f_Mod_putByte
  refine ev_iload_n d_Mod_putByte_0 rfl rfl ?_
  refine ev_aload_n d_Mod_putByte_1 rfl rfl ?_
  refine ev_iload_n d_Mod_putByte_2 rfl rfl ?_
  refine ev_callB (rc := (f_Mod_lengthAt r x2)) (ou := ouI) (Hs := (fun z => (eLV :: (HD d (HF f (HW w (HM m (HS s (HG g (HR r tl)))))))))) (inv_V (q := 12) (av := [.int x2]) (rest := [.int x3]) rfl (ci := 6) rfl d_Mod_putByte_3 gw_1207 gw_1209 gw_73 mw_Mod_lengthAt nh_Mod_lengthAt pn_Mod_lengthAt rfl) d_Mod_putByte_3 pl_Mod_lengthAt (Nat.le_of_ble_eq_true rfl) (Nat.le_of_ble_eq_true rfl) (Nat.le_of_ble_eq_true rfl) (e_f_Mod_lengthAt (tl := tl) (d := d) (f := f) (w := w) (m := m) (s := s) (g := g)  r x2) (fun _ => (len1 (lenHD (lenHF (lenHW (lenHM (lenHS (lenHG (lenHR rfl))))))))) (fun v z h1 => ⟨_, rfl, ?_⟩)
  exact ev_pick [0, 1, 2, 3, 4] rfl (e_B_Mod_putByte_6     r x1 x2 x3 x4 x3 v)
def B_Mod_write_117   (r : RS) (t0 : Int32) : Option (Unit × RS) :=
  some ((), r)
theorem e_B_Mod_write_117 {sc : Nat × (Nat → Int32)} {d : DS} {f : FS} {w : WS} {m : MS} {s : SS} {g : GS} {tl : List mn_E}    (r : RS) (t0 : Int32) : Ev sc 7 110 0 0 M_Mod_write 117 [] [.int t0] (eLV :: (HD d (HF f (HW w (HM m (HS s (HG g (HR r tl)))))))) (mapR ouV (fun z => (eLV :: (HD d (HF f (HW w (HM m (HS s (HG g (HR z tl))))))))) (B_Mod_write_117 r t0)) := by
  unfold B_Mod_write_117
  refine ev_istore d_Mod_write_117 (by decide) rfl ?_
  exact ev_vret rfl d_Mod_write_119
def B_Mod_write_107   (r : RS) : Option (Unit × RS) :=
  B_Mod_write_117   ((f_Mod_ends r 0 1 2 3 4 5).2) ((f_Mod_ends r 0 1 2 3 4 5).1)
theorem e_B_Mod_write_107 {sc : Nat × (Nat → Int32)} {d : DS} {f : FS} {w : WS} {m : MS} {s : SS} {g : GS} {tl : List mn_E}    (r : RS) : Ev sc 7 110 0 0 M_Mod_write 107 [(0, .ref 12)] [] (eLV :: (HD d (HF f (HW w (HM m (HS s (HG g (HR r tl)))))))) (mapR ouV (fun z => (eLV :: (HD d (HF f (HW w (HM m (HS s (HG g (HR z tl))))))))) (B_Mod_write_107 r)) := by
  unfold B_Mod_write_107
  refine ev_aload_n d_Mod_write_107 rfl rfl ?_
  refine ev_iconst (v := 0) d_Mod_write_108 rfl ?_
  refine ev_iconst (v := 1) d_Mod_write_109 rfl ?_
  refine ev_iconst (v := 2) d_Mod_write_110 rfl ?_
  refine ev_iconst (v := 3) d_Mod_write_111 rfl ?_
  refine ev_iconst (v := 4) d_Mod_write_112 rfl ?_
  refine ev_iconst (v := 5) d_Mod_write_113 rfl ?_
  refine ev_callr (Mc := M_Mod_ends) (v := some (.int ((f_Mod_ends r 0 1 2 3 4 5).1))) (h1 := (eLV :: (HD d (HF f (HW w (HM m (HS s (HG g (HR ((f_Mod_ends r 0 1 2 3 4 5).2) tl))))))))) (k2 := 0) (n2 := 0) (inv_V (q := 12) (av := [.int 0, .int 1, .int 2, .int 3, .int 4, .int 5]) (rest := []) rfl (ci := 6) rfl d_Mod_write_114 gw_1187 gw_1189 gw_70 mw_Mod_ends nh_Mod_ends pn_Mod_ends rfl) d_Mod_write_114 pl_Mod_ends (Nat.le_of_ble_eq_true rfl) (Nat.le_of_ble_eq_true rfl) (Nat.le_of_ble_eq_true rfl) rfl rfl (e_f_Mod_ends (tl := tl) (d := d) (f := f) (w := w) (m := m) (s := s) (g := g)  r 0 1 2 3 4 5) (Or.inl (len1 (lenHD (lenHF (lenHW (lenHM (lenHS (lenHG (lenHR rfl))))))))) ?_
  exact ev_pick [] rfl (e_B_Mod_write_117     ((f_Mod_ends r 0 1 2 3 4 5).2) ((f_Mod_ends r 0 1 2 3 4 5).1))
def B_Mod_write_90   (r : RS) (x2 : Int32) (x3 : Int32) (x4 : Int32) (x5 : Int32) : Option (Unit × RS) :=
  if ¬ (rFau r) = 0 then (B_Mod_write_107   r) else (bnd (f_Mod_putByte r x4 x5 x2 x3) (fun q => B_Mod_write_107   q.2))
theorem e_B_Mod_write_90 {sc : Nat × (Nat → Int32)} {d : DS} {f : FS} {w : WS} {m : MS} {s : SS} {g : GS} {tl : List mn_E}    (r : RS) (x2 : Int32) (x3 : Int32) (x4 : Int32) (x5 : Int32) : Ev sc 7 110 0 0 M_Mod_write 90 [(0, .ref 12), (2, .int x2), (3, .int x3), (4, .int x4), (5, .int x5)] [] (eLV :: (HD d (HF f (HW w (HM m (HS s (HG g (HR r tl)))))))) (mapR ouV (fun z => (eLV :: (HD d (HF f (HW w (HM m (HS s (HG g (HR z tl))))))))) (B_Mod_write_90 r x2 x3 x4 x5)) := by
  unfold B_Mod_write_90
  refine ev_aload_n d_Mod_write_90 rfl rfl ?_
  refine ev_get (v := .int (rFau r)) gi_Mod (ci := 6) rfl rfl 1 (by decide) gw_1002 rfl d_Mod_write_91 ?_
  refine ev_if_ne (tgt := 107) d_Mod_write_94 rfl (fun h1 => ?_) (fun h1 => ?_)
  · rw [if_pos h1]
    exact ev_pick [0] rfl (e_B_Mod_write_107     r)
  · rw [if_neg h1]
    refine ev_aload_n d_Mod_write_97 rfl rfl ?_
    refine ev_iload d_Mod_write_98 rfl ?_
    refine ev_iload d_Mod_write_100 rfl ?_
    refine ev_iload_n d_Mod_write_102 rfl rfl ?_
    refine ev_iload_n d_Mod_write_103 rfl rfl ?_
    refine ev_callB (rc := (f_Mod_putByte r x4 x5 x2 x3)) (ou := ouV) (Hs := (fun z => (eLV :: (HD d (HF f (HW w (HM m (HS s (HG g (HR z tl)))))))))) (inv_V (q := 12) (av := [.int x4, .int x5, .int x2, .int x3]) (rest := []) rfl (ci := 6) rfl d_Mod_write_104 gw_1219 gw_1221 gw_75 mw_Mod_putByte nh_Mod_putByte pn_Mod_putByte rfl) d_Mod_write_104 pl_Mod_putByte (Nat.le_of_ble_eq_true rfl) (Nat.le_of_ble_eq_true rfl) (Nat.le_of_ble_eq_true rfl) (e_f_Mod_putByte (tl := tl) (d := d) (f := f) (w := w) (m := m) (s := s) (g := g)  r x4 x5 x2 x3) (fun _ => (len1 (lenHD (lenHF (lenHW (lenHM (lenHS (lenHG (lenHR rfl))))))))) (fun v z h2 => ⟨_, rfl, ?_⟩)
    exact ev_pick [0] rfl (e_B_Mod_write_107     z)
def B_Mod_write_87   (r : RS) (x2 : Int32) (x3 : Int32) (x4 : Int32) (x5 : Int32) (t1 : Int32) : Option (Unit × RS) :=
  B_Mod_write_90   (rSFau r t1) x2 x3 x4 x5
theorem e_B_Mod_write_87 {sc : Nat × (Nat → Int32)} {d : DS} {f : FS} {w : WS} {m : MS} {s : SS} {g : GS} {tl : List mn_E}    (r : RS) (x2 : Int32) (x3 : Int32) (x4 : Int32) (x5 : Int32) (t1 : Int32) : Ev sc 7 110 0 0 M_Mod_write 87 [(0, .ref 12), (2, .int x2), (3, .int x3), (4, .int x4), (5, .int x5)] [.int t1, .ref 12] (eLV :: (HD d (HF f (HW w (HM m (HS s (HG g (HR r tl)))))))) (mapR ouV (fun z => (eLV :: (HD d (HF f (HW w (HM m (HS s (HG g (HR z tl))))))))) (B_Mod_write_87 r x2 x3 x4 x5 t1)) := by
  unfold B_Mod_write_87
  refine ev_put (h2 := (eLV :: (HD d (HF f (HW w (HM m (HS s (HG g (HR (rSFau r t1) tl))))))))) gi_Mod ft_Mod fo_Mod fn_Mod (ci := 6) rfl rfl 1 (by decide) gw_1002 rfl rfl (fun _ => rfl) (fun _ => rfl) (Nat.le_of_ble_eq_true rfl) rfl d_Mod_write_87 ?_
  exact ev_pick [0, 1, 2, 3, 4] rfl (e_B_Mod_write_90     (rSFau r t1) x2 x3 x4 x5)
def B_Mod_write_76   (r : RS) (x2 : Int32) (x3 : Int32) (x4 : Int32) (x5 : Int32) (t1 : Int32) (t2 : Int32) (t3 : Int32) : Option (Unit × RS) :=
  if ((f_Mod_in t1 t2 t3).1) = 0 then (B_Mod_write_87   r x2 x3 x4 x5 5) else (B_Mod_write_87   r x2 x3 x4 x5 0)
theorem e_B_Mod_write_76 {sc : Nat × (Nat → Int32)} {d : DS} {f : FS} {w : WS} {m : MS} {s : SS} {g : GS} {tl : List mn_E}    (r : RS) (x2 : Int32) (x3 : Int32) (x4 : Int32) (x5 : Int32) (t1 : Int32) (t2 : Int32) (t3 : Int32) : Ev sc 7 110 0 0 M_Mod_write 76 [(0, .ref 12), (2, .int x2), (3, .int x3), (4, .int x4), (5, .int x5)] [.int t3, .int t2, .int t1, .ref 12] (eLV :: (HD d (HF f (HW w (HM m (HS s (HG g (HR r tl)))))))) (mapR ouV (fun z => (eLV :: (HD d (HF f (HW w (HM m (HS s (HG g (HR z tl))))))))) (B_Mod_write_76 r x2 x3 x4 x5 t1 t2 t3)) := by
  unfold B_Mod_write_76
  refine ev_callr (Mc := M_Mod_in) (v := some (.int ((f_Mod_in t1 t2 t3).1))) (h1 := (eLV :: (HD d (HF f (HW w (HM m (HS s (HG g (HR r tl))))))))) (k2 := 0) (n2 := 0) (inv_S (av := [.int t1, .int t2, .int t3]) (rest := [.ref 12]) d_Mod_write_76 gw_1108 gw_1109 gw_108 mw_Mod_in nh_Mod_in pn_Mod_in rfl) d_Mod_write_76 pl_Mod_in (Nat.le_of_ble_eq_true rfl) (Nat.le_of_ble_eq_true rfl) (Nat.le_of_ble_eq_true rfl) rfl rfl (e_f_Mod_in (hh := (eLV :: (HD d (HF f (HW w (HM m (HS s (HG g (HR r tl)))))))))   t1 t2 t3) (Or.inl (len1 (lenHD (lenHF (lenHW (lenHM (lenHS (lenHG (lenHR rfl))))))))) ?_
  refine ev_if_eq (tgt := 86) d_Mod_write_79 rfl (fun h1 => ?_) (fun h1 => ?_)
  · rw [if_pos h1]
    refine ev_iconst (v := 5) d_Mod_write_86 rfl ?_
    exact ev_pick [0, 1, 2, 3, 4] rfl (e_B_Mod_write_87     r x2 x3 x4 x5 5)
  · rw [if_neg h1]
    refine ev_iconst (v := 0) d_Mod_write_82 rfl ?_
    refine ev_goto (tgt := 87) d_Mod_write_83 rfl ?_
    exact ev_pick [0, 1, 2, 3, 4] rfl (e_B_Mod_write_87     r x2 x3 x4 x5 0)
def B_Mod_write_60   (r : RS) (x2 : Int32) (x3 : Int32) (x4 : Int32) (t0 : Int32) : Option (Unit × RS) :=
  if t0 < 0 then (B_Mod_write_107   r) else (bnd (f_Mod_lengthAt r t0) (fun q => B_Mod_write_76   r x2 x3 x4 t0 x2 0 q.1))
theorem e_B_Mod_write_60 {sc : Nat × (Nat → Int32)} {d : DS} {f : FS} {w : WS} {m : MS} {s : SS} {g : GS} {tl : List mn_E}    (r : RS) (x2 : Int32) (x3 : Int32) (x4 : Int32) (t0 : Int32) : Ev sc 7 110 0 0 M_Mod_write 60 [(0, .ref 12), (2, .int x2), (3, .int x3), (4, .int x4)] [.int t0] (eLV :: (HD d (HF f (HW w (HM m (HS s (HG g (HR r tl)))))))) (mapR ouV (fun z => (eLV :: (HD d (HF f (HW w (HM m (HS s (HG g (HR z tl))))))))) (B_Mod_write_60 r x2 x3 x4 t0)) := by
  unfold B_Mod_write_60
  refine ev_istore d_Mod_write_60 (by decide) rfl ?_
  refine ev_iload d_Mod_write_62 rfl ?_
  refine ev_if_lt (tgt := 107) d_Mod_write_64 rfl (fun h1 => ?_) (fun h1 => ?_)
  · rw [if_pos h1]
    exact ev_pick [1] rfl (e_B_Mod_write_107     r)
  · rw [if_neg h1]
    refine ev_aload_n d_Mod_write_67 rfl rfl ?_
    refine ev_iload_n d_Mod_write_68 rfl rfl ?_
    refine ev_iconst (v := 0) d_Mod_write_69 rfl ?_
    refine ev_aload_n d_Mod_write_70 rfl rfl ?_
    refine ev_iload d_Mod_write_71 rfl ?_
    refine ev_callB (rc := (f_Mod_lengthAt r t0)) (ou := ouI) (Hs := (fun z => (eLV :: (HD d (HF f (HW w (HM m (HS s (HG g (HR r tl)))))))))) (inv_V (q := 12) (av := [.int t0]) (rest := [.int 0, .int x2, .ref 12]) rfl (ci := 6) rfl d_Mod_write_73 gw_1207 gw_1209 gw_73 mw_Mod_lengthAt nh_Mod_lengthAt pn_Mod_lengthAt rfl) d_Mod_write_73 pl_Mod_lengthAt (Nat.le_of_ble_eq_true rfl) (Nat.le_of_ble_eq_true rfl) (Nat.le_of_ble_eq_true rfl) (e_f_Mod_lengthAt (tl := tl) (d := d) (f := f) (w := w) (m := m) (s := s) (g := g)  r t0) (fun _ => (len1 (lenHD (lenHF (lenHW (lenHM (lenHS (lenHG (lenHR rfl))))))))) (fun v z h2 => ⟨_, rfl, ?_⟩)
    exact ev_pick [1, 2, 3, 4, 0] rfl (e_B_Mod_write_76     r x2 x3 x4 t0 x2 0 v)
def B_Mod_write_56   (r : RS) (x2 : Int32) (x3 : Int32) (x4 : Int32) (t0 : Int32) : Option (Unit × RS) :=
  B_Mod_write_60   r x2 x3 x4 t0
theorem e_B_Mod_write_56 {sc : Nat × (Nat → Int32)} {d : DS} {f : FS} {w : WS} {m : MS} {s : SS} {g : GS} {tl : List mn_E}    (r : RS) (x2 : Int32) (x3 : Int32) (x4 : Int32) (t0 : Int32) : Ev sc 7 110 0 0 M_Mod_write 56 [(0, .ref 12), (2, .int x2), (3, .int x3), (4, .int x4)] [.int t0] (eLV :: (HD d (HF f (HW w (HM m (HS s (HG g (HR r tl)))))))) (mapR ouV (fun z => (eLV :: (HD d (HF f (HW w (HM m (HS s (HG g (HR z tl))))))))) (B_Mod_write_56 r x2 x3 x4 t0)) := by
  unfold B_Mod_write_56
  refine ev_goto (tgt := 60) d_Mod_write_56 rfl ?_
  exact ev_pick [0, 1, 2, 3] rfl (e_B_Mod_write_60     r x2 x3 x4 t0)
def B_Mod_write_43   (r : RS) (x2 : Int32) (x3 : Int32) (x4 : Int32) : Option (Unit × RS) :=
  if ¬ (rFau r) = 0 then (B_Mod_write_60   r x2 x3 x4 (-1)) else (bnd (f_Mod_last r x4) (fun q => B_Mod_write_56   q.2 x2 x3 x4 q.1))
theorem e_B_Mod_write_43 {sc : Nat × (Nat → Int32)} {d : DS} {f : FS} {w : WS} {m : MS} {s : SS} {g : GS} {tl : List mn_E}    (r : RS) (x2 : Int32) (x3 : Int32) (x4 : Int32) : Ev sc 7 110 0 0 M_Mod_write 43 [(0, .ref 12), (2, .int x2), (3, .int x3), (4, .int x4)] [] (eLV :: (HD d (HF f (HW w (HM m (HS s (HG g (HR r tl)))))))) (mapR ouV (fun z => (eLV :: (HD d (HF f (HW w (HM m (HS s (HG g (HR z tl))))))))) (B_Mod_write_43 r x2 x3 x4)) := by
  unfold B_Mod_write_43
  refine ev_aload_n d_Mod_write_43 rfl rfl ?_
  refine ev_get (v := .int (rFau r)) gi_Mod (ci := 6) rfl rfl 1 (by decide) gw_1002 rfl d_Mod_write_44 ?_
  refine ev_if_ne (tgt := 59) d_Mod_write_47 rfl (fun h1 => ?_) (fun h1 => ?_)
  · rw [if_pos h1]
    refine ev_iconst (v := -1) d_Mod_write_59 rfl ?_
    exact ev_pick [0, 1, 2, 3] rfl (e_B_Mod_write_60     r x2 x3 x4 (-1))
  · rw [if_neg h1]
    refine ev_aload_n d_Mod_write_50 rfl rfl ?_
    refine ev_iload d_Mod_write_51 rfl ?_
    refine ev_callB (rc := (f_Mod_last r x4)) (ou := ouI) (Hs := (fun z => (eLV :: (HD d (HF f (HW w (HM m (HS s (HG g (HR z tl)))))))))) (inv_V (q := 12) (av := [.int x4]) (rest := []) rfl (ci := 6) rfl d_Mod_write_53 gw_1203 gw_1205 gw_72 mw_Mod_last nh_Mod_last pn_Mod_last rfl) d_Mod_write_53 pl_Mod_last (Nat.le_of_ble_eq_true rfl) (Nat.le_of_ble_eq_true rfl) (Nat.le_of_ble_eq_true rfl) (e_f_Mod_last (tl := tl) (d := d) (f := f) (w := w) (m := m) (s := s) (g := g)  r x4) (fun _ => (len1 (lenHD (lenHF (lenHW (lenHM (lenHS (lenHG (lenHR rfl))))))))) (fun v z h2 => ⟨_, rfl, ?_⟩)
    exact ev_pick [0, 1, 2, 3] rfl (e_B_Mod_write_56     z x2 x3 x4 v)
def B_Mod_write_40   (r : RS) (x2 : Int32) (x3 : Int32) (x4 : Int32) (t1 : Int32) : Option (Unit × RS) :=
  B_Mod_write_43   (rSFau r t1) x2 x3 x4
theorem e_B_Mod_write_40 {sc : Nat × (Nat → Int32)} {d : DS} {f : FS} {w : WS} {m : MS} {s : SS} {g : GS} {tl : List mn_E}    (r : RS) (x2 : Int32) (x3 : Int32) (x4 : Int32) (t1 : Int32) : Ev sc 7 110 0 0 M_Mod_write 40 [(0, .ref 12), (2, .int x2), (3, .int x3), (4, .int x4)] [.int t1, .ref 12] (eLV :: (HD d (HF f (HW w (HM m (HS s (HG g (HR r tl)))))))) (mapR ouV (fun z => (eLV :: (HD d (HF f (HW w (HM m (HS s (HG g (HR z tl))))))))) (B_Mod_write_40 r x2 x3 x4 t1)) := by
  unfold B_Mod_write_40
  refine ev_put (h2 := (eLV :: (HD d (HF f (HW w (HM m (HS s (HG g (HR (rSFau r t1) tl))))))))) gi_Mod ft_Mod fo_Mod fn_Mod (ci := 6) rfl rfl 1 (by decide) gw_1002 rfl rfl (fun _ => rfl) (fun _ => rfl) (Nat.le_of_ble_eq_true rfl) rfl d_Mod_write_40 ?_
  exact ev_pick [0, 1, 2, 3] rfl (e_B_Mod_write_43     (rSFau r t1) x2 x3 x4)
def B_Mod_write_35   (r : RS) (x2 : Int32) (x3 : Int32) (x4 : Int32) : Option (Unit × RS) :=
  B_Mod_write_40   r x2 x3 x4 3
theorem e_B_Mod_write_35 {sc : Nat × (Nat → Int32)} {d : DS} {f : FS} {w : WS} {m : MS} {s : SS} {g : GS} {tl : List mn_E}    (r : RS) (x2 : Int32) (x3 : Int32) (x4 : Int32) : Ev sc 7 110 0 0 M_Mod_write 35 [(0, .ref 12), (2, .int x2), (3, .int x3), (4, .int x4)] [.ref 12] (eLV :: (HD d (HF f (HW w (HM m (HS s (HG g (HR r tl)))))))) (mapR ouV (fun z => (eLV :: (HD d (HF f (HW w (HM m (HS s (HG g (HR z tl))))))))) (B_Mod_write_35 r x2 x3 x4)) := by
  unfold B_Mod_write_35
  refine ev_iconst (v := 3) d_Mod_write_35 rfl ?_
  refine ev_goto (tgt := 40) d_Mod_write_36 rfl ?_
  exact ev_pick [0, 1, 2, 3] rfl (e_B_Mod_write_40     r x2 x3 x4 3)
def B_Mod_write_32   (r : RS) (x2 : Int32) (x3 : Int32) (x4 : Int32) (t1 : Int32) : Option (Unit × RS) :=
  if t1 = 0 then (B_Mod_write_40   r x2 x3 x4 0) else (B_Mod_write_35   r x2 x3 x4)
theorem e_B_Mod_write_32 {sc : Nat × (Nat → Int32)} {d : DS} {f : FS} {w : WS} {m : MS} {s : SS} {g : GS} {tl : List mn_E}    (r : RS) (x2 : Int32) (x3 : Int32) (x4 : Int32) (t1 : Int32) : Ev sc 7 110 0 0 M_Mod_write 32 [(0, .ref 12), (2, .int x2), (3, .int x3), (4, .int x4)] [.int t1, .ref 12] (eLV :: (HD d (HF f (HW w (HM m (HS s (HG g (HR r tl)))))))) (mapR ouV (fun z => (eLV :: (HD d (HF f (HW w (HM m (HS s (HG g (HR z tl))))))))) (B_Mod_write_32 r x2 x3 x4 t1)) := by
  unfold B_Mod_write_32
  refine ev_if_eq (tgt := 39) d_Mod_write_32 rfl (fun h1 => ?_) (fun h1 => ?_)
  · rw [if_pos h1]
    refine ev_iconst (v := 0) d_Mod_write_39 rfl ?_
    exact ev_pick [0, 1, 2, 3] rfl (e_B_Mod_write_40     r x2 x3 x4 0)
  · rw [if_neg h1]
    exact ev_pick [0, 1, 2, 3] rfl (e_B_Mod_write_35     r x2 x3 x4)
def B_Mod_write_5   (r : RS) (x2 : Int32) (x3 : Int32) (t0 : Int32) : Option (Unit × RS) :=
  if ¬ (rFau r) = 0 then (B_Mod_write_43   r x2 x3 t0) else (if inB t0 40 then (if (rSer r t0.toNatClampNeg) = 2 then (B_Mod_write_35   r x2 x3 t0) else (bnd (f_Mod_isDirectory r t0) (fun q => B_Mod_write_32   r x2 x3 t0 q.1))) else none)
theorem e_B_Mod_write_5 {sc : Nat × (Nat → Int32)} {d : DS} {f : FS} {w : WS} {m : MS} {s : SS} {g : GS} {tl : List mn_E}    (r : RS) (x2 : Int32) (x3 : Int32) (t0 : Int32) : Ev sc 7 110 0 0 M_Mod_write 5 [(0, .ref 12), (2, .int x2), (3, .int x3)] [.int t0] (eLV :: (HD d (HF f (HW w (HM m (HS s (HG g (HR r tl)))))))) (mapR ouV (fun z => (eLV :: (HD d (HF f (HW w (HM m (HS s (HG g (HR z tl))))))))) (B_Mod_write_5 r x2 x3 t0)) := by
  unfold B_Mod_write_5
  refine ev_istore d_Mod_write_5 (by decide) rfl ?_
  refine ev_aload_n d_Mod_write_7 rfl rfl ?_
  refine ev_get (v := .int (rFau r)) gi_Mod (ci := 6) rfl rfl 1 (by decide) gw_1002 rfl d_Mod_write_8 ?_
  refine ev_if_ne (tgt := 43) d_Mod_write_11 rfl (fun h1 => ?_) (fun h1 => ?_)
  · rw [if_pos h1]
    exact ev_pick [1, 2, 3, 0] rfl (e_B_Mod_write_43     r x2 x3 t0)
  · rw [if_neg h1]
    refine ev_aload_n d_Mod_write_14 rfl rfl ?_
    refine ev_aload_n d_Mod_write_15 rfl rfl ?_
    refine ev_get (v := .ref 13) gi_Mod (ci := 6) rfl rfl 2 (by decide) gw_1003 rfl d_Mod_write_16 ?_
    refine ev_iload d_Mod_write_19 rfl ?_
    refine ev_inB (fun h2 => ?_)
    refine ev_iaload rfl (inB_of h2) d_Mod_write_21 ?_
    refine ev_iconst (v := 2) d_Mod_write_22 rfl ?_
    refine ev_icmp_eq (tgt := 35) d_Mod_write_23 rfl (fun h3 => ?_) (fun h3 => ?_)
    · rw [if_pos h3]
      exact ev_pick [1, 2, 3, 0] rfl (e_B_Mod_write_35     r x2 x3 t0)
    · rw [if_neg h3]
      refine ev_aload_n d_Mod_write_26 rfl rfl ?_
      refine ev_iload d_Mod_write_27 rfl ?_
      refine ev_callB (rc := (f_Mod_isDirectory r t0)) (ou := ouI) (Hs := (fun z => (eLV :: (HD d (HF f (HW w (HM m (HS s (HG g (HR r tl)))))))))) (inv_V (q := 12) (av := [.int t0]) (rest := [.ref 12]) rfl (ci := 6) rfl d_Mod_write_29 gw_1123 gw_1125 gw_54 mw_Mod_isDirectory nh_Mod_isDirectory pn_Mod_isDirectory rfl) d_Mod_write_29 pl_Mod_isDirectory (Nat.le_of_ble_eq_true rfl) (Nat.le_of_ble_eq_true rfl) (Nat.le_of_ble_eq_true rfl) (e_f_Mod_isDirectory (tl := tl) (d := d) (f := f) (w := w) (m := m) (s := s) (g := g)  r t0) (fun _ => (len1 (lenHD (lenHF (lenHW (lenHM (lenHS (lenHG (lenHR rfl))))))))) (fun v z h4 => ⟨_, rfl, ?_⟩)
      exact ev_pick [1, 2, 3, 0] rfl (e_B_Mod_write_32     r x2 x3 t0 v)
def f_Mod_write   (r : RS) (x1 : Int32) (x2 : Int32) (x3 : Int32) : Option (Unit × RS) :=
  bnd (f_Mod_begin r x1) (fun q => B_Mod_write_5   q.2 x2 x3 q.1)
theorem e_f_Mod_write {sc : Nat × (Nat → Int32)} {d : DS} {f : FS} {w : WS} {m : MS} {s : SS} {g : GS} {tl : List mn_E}    (r : RS) (x1 : Int32) (x2 : Int32) (x3 : Int32) : Ev sc 7 110 0 0 M_Mod_write 0 [(0, .ref 12), (1, .int x1), (2, .int x2), (3, .int x3)] [] (eLV :: (HD d (HF f (HW w (HM m (HS s (HG g (HR r tl)))))))) (mapR ouV (fun z => (eLV :: (HD d (HF f (HW w (HM m (HS s (HG g (HR z tl))))))))) (f_Mod_write r x1 x2 x3)) := by
  unfold f_Mod_write
  refine ev_aload_n d_Mod_write_0 rfl rfl ?_
  refine ev_iload_n d_Mod_write_1 rfl rfl ?_
  refine ev_callB (rc := (f_Mod_begin r x1)) (ou := ouI) (Hs := (fun z => (eLV :: (HD d (HF f (HW w (HM m (HS s (HG g (HR z tl)))))))))) (inv_V (q := 12) (av := [.int x1]) (rest := []) rfl (ci := 6) rfl d_Mod_write_2 gw_1100 gw_1102 gw_49 mw_Mod_begin nh_Mod_begin pn_Mod_begin rfl) d_Mod_write_2 pl_Mod_begin (Nat.le_of_ble_eq_true rfl) (Nat.le_of_ble_eq_true rfl) (Nat.le_of_ble_eq_true rfl) (e_f_Mod_begin (tl := tl) (d := d) (f := f) (w := w) (m := m) (s := s) (g := g)  r x1) (fun _ => (len1 (lenHD (lenHF (lenHW (lenHM (lenHS (lenHG (lenHR rfl))))))))) (fun v z h1 => ⟨_, rfl, ?_⟩)
  exact ev_pick [0, 2, 3] rfl (e_B_Mod_write_5     z x2 x3 v)
