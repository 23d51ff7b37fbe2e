def B_Mod_crown_47   (r : RS) : Option (Unit × RS) :=
  some ((), r)
theorem e_B_Mod_crown_47 {sc : Nat × (Nat → Int32)} {d : DS} {f : FS} {w : WS} {m : MS} {s : SS} {g : GS} {tl : List mn_E}    (r : RS) : Ev sc 3 46 0 0 M_Mod_crown 47 [] [] (eLV :: (HD d (HF f (HW w (HM m (HS s (HG g (HR r tl)))))))) (mapR ouV (fun z => (eLV :: (HD d (HF f (HW w (HM m (HS s (HG g (HR z tl))))))))) (B_Mod_crown_47 r)) := by
  unfold B_Mod_crown_47
  exact ev_vret rfl d_Mod_crown_47
def B_Mod_crown_33   (r : RS) : Option (Unit × RS) :=
  if inB 2 5 then (if inB 2 5 then (B_Mod_crown_47   (rSRep r (upd (rRep r) (2 : Int32).toNatClampNeg ((rRep r (2 : Int32).toNatClampNeg) + 1)))) else none) else none
theorem e_B_Mod_crown_33 {sc : Nat × (Nat → Int32)} {d : DS} {f : FS} {w : WS} {m : MS} {s : SS} {g : GS} {tl : List mn_E}    (r : RS) : Ev sc 3 46 0 0 M_Mod_crown 33 [(0, .ref 12)] [] (eLV :: (HD d (HF f (HW w (HM m (HS s (HG g (HR r tl)))))))) (mapR ouV (fun z => (eLV :: (HD d (HF f (HW w (HM m (HS s (HG g (HR z tl))))))))) (B_Mod_crown_33 r)) := by
  unfold B_Mod_crown_33
  refine ev_aload_n d_Mod_crown_33 rfl rfl ?_
  refine ev_get (v := .ref 22) gi_Mod (ci := 6) rfl rfl 21 (by decide) gw_1022 rfl d_Mod_crown_34 ?_
  refine ev_iconst (v := 2) d_Mod_crown_37 rfl ?_
  refine ev_aload_n d_Mod_crown_38 rfl rfl ?_
  refine ev_get (v := .ref 22) gi_Mod (ci := 6) rfl rfl 21 (by decide) gw_1022 rfl d_Mod_crown_39 ?_
  refine ev_iconst (v := 2) d_Mod_crown_42 rfl ?_
  refine ev_inB (fun h1 => ?_)
  refine ev_iaload rfl (inB_of h1) d_Mod_crown_43 ?_
  refine ev_iconst (v := 1) d_Mod_crown_44 rfl ?_
  refine ev_iadd d_Mod_crown_45 ?_
  refine ev_inB (fun h2 => ?_)
  refine ev_iastore (h2 := (eLV :: (HD d (HF f (HW w (HM m (HS s (HG g (HR (rSRep r (upd (rRep r) (2 : Int32).toNatClampNeg ((rRep r (2 : Int32).toNatClampNeg) + 1))) tl))))))))) rfl (inB_of h2) rfl d_Mod_crown_46 ?_
  exact ev_pick [] rfl (e_B_Mod_crown_47     (rSRep r (upd (rRep r) (2 : Int32).toNatClampNeg ((rRep r (2 : Int32).toNatClampNeg) + 1))))
def B_Mod_crown_20   (r : RS) (x1 : Int32) (x4 : Int32) : Option (Unit × RS) :=
  if inB (40 * x1) 2440 then (B_Mod_crown_33   (rSTab r (upd (rTab r) (40 * x1).toNatClampNeg (x4 + 1)))) else none
theorem e_B_Mod_crown_20 {sc : Nat × (Nat → Int32)} {d : DS} {f : FS} {w : WS} {m : MS} {s : SS} {g : GS} {tl : List mn_E}    (r : RS) (x1 : Int32) (x4 : Int32) : Ev sc 3 46 0 0 M_Mod_crown 20 [(0, .ref 12), (1, .int x1), (4, .int x4)] [] (eLV :: (HD d (HF f (HW w (HM m (HS s (HG g (HR r tl)))))))) (mapR ouV (fun z => (eLV :: (HD d (HF f (HW w (HM m (HS s (HG g (HR z tl))))))))) (B_Mod_crown_20 r x1 x4)) := by
  unfold B_Mod_crown_20
  refine ev_aload_n d_Mod_crown_20 rfl rfl ?_
  refine ev_get (v := .ref 24) gi_Mod (ci := 6) rfl rfl 24 (by decide) gw_1025 rfl d_Mod_crown_21 ?_
  refine ev_bipush (v := 40) d_Mod_crown_24 rfl ?_
  refine ev_iload_n d_Mod_crown_26 rfl rfl ?_
  refine ev_imul d_Mod_crown_27 ?_
  refine ev_iload d_Mod_crown_28 rfl ?_
  refine ev_iconst (v := 1) d_Mod_crown_30 rfl ?_
  refine ev_iadd d_Mod_crown_31 ?_
  refine ev_inB (fun h1 => ?_)
  refine ev_iastore (h2 := (eLV :: (HD d (HF f (HW w (HM m (HS s (HG g (HR (rSTab r (upd (rTab r) (40 * x1).toNatClampNeg (x4 + 1))) tl))))))))) rfl (inB_of h1) rfl d_Mod_crown_32 ?_
  exact ev_pick [0] rfl (e_B_Mod_crown_33     (rSTab r (upd (rTab r) (40 * x1).toNatClampNeg (x4 + 1))))
def B_Mod_crown_4   (r : RS) (x1 : Int32) (x2 : Int32) (x3 : Int32) (t0 : Int32) : Option (Unit × RS) :=
  if t0 < 0 then (B_Mod_crown_47   r) else (bnd (f_Mod_makeLeader r t0 x1 x2 x3) (fun q => B_Mod_crown_20   q.2 x1 t0))
theorem e_B_Mod_crown_4 {sc : Nat × (Nat → Int32)} {d : DS} {f : FS} {w : WS} {m : MS} {s : SS} {g : GS} {tl : List mn_E}    (r : RS) (x1 : Int32) (x2 : Int32) (x3 : Int32) (t0 : Int32) : Ev sc 3 46 0 0 M_Mod_crown 4 [(0, .ref 12), (1, .int x1), (2, .int x2), (3, .int x3)] [.int t0] (eLV :: (HD d (HF f (HW w (HM m (HS s (HG g (HR r tl)))))))) (mapR ouV (fun z => (eLV :: (HD d (HF f (HW w (HM m (HS s (HG g (HR z tl))))))))) (B_Mod_crown_4 r x1 x2 x3 t0)) := by
  unfold B_Mod_crown_4
  refine ev_istore d_Mod_crown_4 (by decide) rfl ?_
  refine ev_iload d_Mod_crown_6 rfl ?_
  refine ev_if_lt (tgt := 47) d_Mod_crown_8 rfl (fun h1 => ?_) (fun h1 => ?_)
  · rw [if_pos h1]
    exact ev_pick [] rfl (e_B_Mod_crown_47     r)
  · rw [if_neg h1]
    refine ev_aload_n d_Mod_crown_11 rfl rfl ?_
    refine ev_iload d_Mod_crown_12 rfl ?_
    refine ev_iload_n d_Mod_crown_14 rfl rfl ?_
    refine ev_iload_n d_Mod_crown_15 rfl rfl ?_
    refine ev_iload_n d_Mod_crown_16 rfl rfl ?_
    refine ev_callB (rc := (f_Mod_makeLeader r t0 x1 x2 x3)) (ou := ouV) (Hs := (fun z => (eLV :: (HD d (HF f (HW w (HM m (HS s (HG g (HR z tl)))))))))) (inv_V (q := 12) (av := [.int t0, .int x1, .int x2, .int x3]) (rest := []) rfl (ci := 6) rfl d_Mod_crown_17 gw_1167 gw_1169 gw_65 mw_Mod_makeLeader nh_Mod_makeLeader pn_Mod_makeLeader rfl) d_Mod_crown_17 pl_Mod_makeLeader (Nat.le_of_ble_eq_true rfl) (Nat.le_of_ble_eq_true rfl) (Nat.le_of_ble_eq_true rfl) (e_f_Mod_makeLeader (tl := tl) (d := d) (f := f) (w := w) (m := m) (s := s) (g := g)  r t0 x1 x2 x3) (fun _ => (len1 (lenHD (lenHF (lenHW (lenHM (lenHS (lenHG (lenHR rfl))))))))) (fun v z h2 => ⟨_, rfl, ?_⟩)
    exact ev_pick [1, 2, 0] rfl (e_B_Mod_crown_20     z x1 t0)
def f_Mod_crown   (r : RS) (x1 : Int32) (x2 : Int32) (x3 : Int32) : Option (Unit × RS) :=
  bnd (f_Mod_lowestFree r) (fun q => B_Mod_crown_4   r x1 x2 x3 q.1)
theorem e_f_Mod_crown {sc : Nat × (Nat → Int32)} {d : DS} {f : FS} {w : WS} {m : MS} {s : SS} {g : GS} {tl : List mn_E}    (r : RS) (x1 : Int32) (x2 : Int32) (x3 : Int32) : Ev sc 3 46 0 0 M_Mod_crown 0 [(0, .ref 12), (1, .int x1), (2, .int x2), (3, .int x3)] [] (eLV :: (HD d (HF f (HW w (HM m (HS s (HG g (HR r tl)))))))) (mapR ouV (fun z => (eLV :: (HD d (HF f (HW w (HM m (HS s (HG g (HR z tl))))))))) (f_Mod_crown r x1 x2 x3)) := by
  unfold f_Mod_crown
  refine ev_aload_n d_Mod_crown_0 rfl rfl ?_
  refine ev_callB (rc := (f_Mod_lowestFree r)) (ou := ouI) (Hs := (fun z => (eLV :: (HD d (HF f (HW w (HM m (HS s (HG g (HR r tl)))))))))) (inv_V (q := 12) (av := []) (rest := []) rfl (ci := 6) rfl d_Mod_crown_1 gw_1291 gw_1293 gw_88 mw_Mod_lowestFree nh_Mod_lowestFree pn_Mod_lowestFree rfl) d_Mod_crown_1 pl_Mod_lowestFree (Nat.le_of_ble_eq_true rfl) (Nat.le_of_ble_eq_true rfl) (Nat.le_of_ble_eq_true rfl) (e_f_Mod_lowestFree (tl := tl) (d := d) (f := f) (w := w) (m := m) (s := s) (g := g)  r ) (fun _ => (len1 (lenHD (lenHF (lenHW (lenHM (lenHS (lenHG (lenHR rfl))))))))) (fun v z h1 => ⟨_, rfl, ?_⟩)
  exact ev_pick [0, 1, 2, 3] rfl (e_B_Mod_crown_4     r x1 x2 x3 v)
def B_Mod_heads_230  (r162 : RS → Int32 → Option (Unit × RS)) (r : RS) (x2 : Int32) : Option (Unit × RS) :=
  r162 r (x2 + 1)
theorem e_B_Mod_heads_230 {sc : Nat × (Nat → Int32)} {d : DS} {f : FS} {w : WS} {m : MS} {s : SS} {g : GS} {tl : List mn_E}  (r162 : RS → Int32 → Option (Unit × RS)) (hr162 : ∀ (r : RS) (x2 : Int32), Ev sc 4 62 0 0 M_Mod_heads 162 [(0, .ref 12), (2, .int x2)] [] (eLV :: (HD d (HF f (HW w (HM m (HS s (HG g (HR r tl)))))))) (mapR ouV (fun z => (eLV :: (HD d (HF f (HW w (HM m (HS s (HG g (HR z tl))))))))) (r162 r x2))) (r : RS) (x2 : Int32) : Ev sc 4 62 0 0 M_Mod_heads 230 [(0, .ref 12), (2, .int x2)] [] (eLV :: (HD d (HF f (HW w (HM m (HS s (HG g (HR r tl)))))))) (mapR ouV (fun z => (eLV :: (HD d (HF f (HW w (HM m (HS s (HG g (HR z tl))))))))) (B_Mod_heads_230 r162 r x2)) := by
  unfold B_Mod_heads_230
  refine ev_iinc (v := (x2 + 1)) d_Mod_heads_230 rfl rfl (by decide) rfl ?_
  refine ev_goto (tgt := 162) d_Mod_heads_233 rfl ?_
  exact ev_pick [1, 0] rfl (hr162 r (x2 + 1))
def B_Mod_heads_229  (r162 : RS → Int32 → Option (Unit × RS)) (r : RS) (x2 : Int32) (t1 : Int32) (t2 : Int32) : Option (Unit × RS) :=
  if inB t1 320 then (B_Mod_heads_230  r162 (rSByt r (upd (rByt r) t1.toNatClampNeg t2)) x2) else none
theorem e_B_Mod_heads_229 {sc : Nat × (Nat → Int32)} {d : DS} {f : FS} {w : WS} {m : MS} {s : SS} {g : GS} {tl : List mn_E}  (r162 : RS → Int32 → Option (Unit × RS)) (hr162 : ∀ (r : RS) (x2 : Int32), Ev sc 4 62 0 0 M_Mod_heads 162 [(0, .ref 12), (2, .int x2)] [] (eLV :: (HD d (HF f (HW w (HM m (HS s (HG g (HR r tl)))))))) (mapR ouV (fun z => (eLV :: (HD d (HF f (HW w (HM m (HS s (HG g (HR z tl))))))))) (r162 r x2))) (r : RS) (x2 : Int32) (t1 : Int32) (t2 : Int32) : Ev sc 4 62 0 0 M_Mod_heads 229 [(0, .ref 12), (2, .int x2)] [.int t2, .int t1, .ref 18] (eLV :: (HD d (HF f (HW w (HM m (HS s (HG g (HR r tl)))))))) (mapR ouV (fun z => (eLV :: (HD d (HF f (HW w (HM m (HS s (HG g (HR z tl))))))))) (B_Mod_heads_229 r162 r x2 t1 t2)) := by
  unfold B_Mod_heads_229
  refine ev_inB (fun h1 => ?_)
  refine ev_iastore (h2 := (eLV :: (HD d (HF f (HW w (HM m (HS s (HG g (HR (rSByt r (upd (rByt r) t1.toNatClampNeg t2)) tl))))))))) rfl (inB_of h1) rfl d_Mod_heads_229 ?_
  exact ev_pick [0, 1] rfl (e_B_Mod_heads_230   r162 hr162 (rSByt r (upd (rByt r) t1.toNatClampNeg t2)) x2)
def B_Mod_heads_216  (r162 : RS → Int32 → Option (Unit × RS)) (r : RS) (x2 : Int32) (t1 : Int32) (t2 : Int32) : Option (Unit × RS) :=
  if ¬ x2 = 1 then (B_Mod_heads_229  r162 r x2 ((t1 * t2) + 2) 0) else (B_Mod_heads_229  r162 r x2 ((t1 * t2) + 2) 1)
theorem e_B_Mod_heads_216 {sc : Nat × (Nat → Int32)} {d : DS} {f : FS} {w : WS} {m : MS} {s : SS} {g : GS} {tl : List mn_E}  (r162 : RS → Int32 → Option (Unit × RS)) (hr162 : ∀ (r : RS) (x2 : Int32), Ev sc 4 62 0 0 M_Mod_heads 162 [(0, .ref 12), (2, .int x2)] [] (eLV :: (HD d (HF f (HW w (HM m (HS s (HG g (HR r tl)))))))) (mapR ouV (fun z => (eLV :: (HD d (HF f (HW w (HM m (HS s (HG g (HR z tl))))))))) (r162 r x2))) (r : RS) (x2 : Int32) (t1 : Int32) (t2 : Int32) : Ev sc 4 62 0 0 M_Mod_heads 216 [(0, .ref 12), (2, .int x2)] [.int t2, .int t1, .ref 18] (eLV :: (HD d (HF f (HW w (HM m (HS s (HG g (HR r tl)))))))) (mapR ouV (fun z => (eLV :: (HD d (HF f (HW w (HM m (HS s (HG g (HR z tl))))))))) (B_Mod_heads_216 r162 r x2 t1 t2)) := by
  unfold B_Mod_heads_216
  refine ev_imul d_Mod_heads_216 ?_
  refine ev_iconst (v := 2) d_Mod_heads_217 rfl ?_
  refine ev_iadd d_Mod_heads_218 ?_
  refine ev_iload_n d_Mod_heads_219 rfl rfl ?_
  refine ev_iconst (v := 1) d_Mod_heads_220 rfl ?_
  refine ev_icmp_ne (tgt := 228) d_Mod_heads_221 rfl (fun h1 => ?_) (fun h1 => ?_)
  · rw [if_pos h1]
    refine ev_iconst (v := 0) d_Mod_heads_228 rfl ?_
    exact ev_pick [0, 1] rfl (e_B_Mod_heads_229   r162 hr162 r x2 ((t1 * t2) + 2) 0)
  · rw [if_neg h1]
    refine ev_iconst (v := 1) d_Mod_heads_224 rfl ?_
    refine ev_goto (tgt := 229) d_Mod_heads_225 rfl ?_
    exact ev_pick [0, 1] rfl (e_B_Mod_heads_229   r162 hr162 r x2 ((t1 * t2) + 2) 1)
def B_Mod_heads_205  (r162 : RS → Int32 → Option (Unit × RS)) (r : RS) (x2 : Int32) : Option (Unit × RS) :=
  bnd (f_Mod_headOf r x2) (fun q => B_Mod_heads_216  r162 r x2 8 q.1)
theorem e_B_Mod_heads_205 {sc : Nat × (Nat → Int32)} {d : DS} {f : FS} {w : WS} {m : MS} {s : SS} {g : GS} {tl : List mn_E}  (r162 : RS → Int32 → Option (Unit × RS)) (hr162 : ∀ (r : RS) (x2 : Int32), Ev sc 4 62 0 0 M_Mod_heads 162 [(0, .ref 12), (2, .int x2)] [] (eLV :: (HD d (HF f (HW w (HM m (HS s (HG g (HR r tl)))))))) (mapR ouV (fun z => (eLV :: (HD d (HF f (HW w (HM m (HS s (HG g (HR z tl))))))))) (r162 r x2))) (r : RS) (x2 : Int32) : Ev sc 4 62 0 0 M_Mod_heads 205 [(0, .ref 12), (2, .int x2)] [] (eLV :: (HD d (HF f (HW w (HM m (HS s (HG g (HR r tl)))))))) (mapR ouV (fun z => (eLV :: (HD d (HF f (HW w (HM m (HS s (HG g (HR z tl))))))))) (B_Mod_heads_205 r162 r x2)) := by
  unfold B_Mod_heads_205
  refine ev_aload_n d_Mod_heads_205 rfl rfl ?_
  refine ev_get (v := .ref 18) gi_Mod (ci := 6) rfl rfl 7 (by decide) gw_1008 rfl d_Mod_heads_206 ?_
  refine ev_bipush (v := 8) d_Mod_heads_209 rfl ?_
  refine ev_aload_n d_Mod_heads_211 rfl rfl ?_
  refine ev_iload_n d_Mod_heads_212 rfl rfl ?_
  refine ev_callB (rc := (f_Mod_headOf r x2)) (ou := ouI) (Hs := (fun z => (eLV :: (HD d (HF f (HW w (HM m (HS s (HG g (HR r tl)))))))))) (inv_V (q := 12) (av := [.int x2]) (rest := [.int 8, .ref 18]) rfl (ci := 6) rfl d_Mod_heads_213 gw_1283 gw_1285 gw_86 mw_Mod_headOf nh_Mod_headOf pn_Mod_headOf rfl) d_Mod_heads_213 pl_Mod_headOf (Nat.le_of_ble_eq_true rfl) (Nat.le_of_ble_eq_true rfl) (Nat.le_of_ble_eq_true rfl) (e_f_Mod_headOf (tl := tl) (d := d) (f := f) (w := w) (m := m) (s := s) (g := g)  r x2) (fun _ => (len1 (lenHD (lenHF (lenHW (lenHM (lenHS (lenHG (lenHR rfl))))))))) (fun v z h1 => ⟨_, rfl, ?_⟩)
  exact ev_pick [0, 1] rfl (e_B_Mod_heads_216   r162 hr162 r x2 8 v)
def B_Mod_heads_200  (r162 : RS → Int32 → Option (Unit × RS)) (r : RS) (x2 : Int32) (t1 : Int32) (t2 : Int32) : Option (Unit × RS) :=
  if inB ((t1 * t2) + 1) 320 then (B_Mod_heads_205  r162 (rSByt r (upd (rByt r) ((t1 * t2) + 1).toNatClampNeg 0)) x2) else none
theorem e_B_Mod_heads_200 {sc : Nat × (Nat → Int32)} {d : DS} {f : FS} {w : WS} {m : MS} {s : SS} {g : GS} {tl : List mn_E}  (r162 : RS → Int32 → Option (Unit × RS)) (hr162 : ∀ (r : RS) (x2 : Int32), Ev sc 4 62 0 0 M_Mod_heads 162 [(0, .ref 12), (2, .int x2)] [] (eLV :: (HD d (HF f (HW w (HM m (HS s (HG g (HR r tl)))))))) (mapR ouV (fun z => (eLV :: (HD d (HF f (HW w (HM m (HS s (HG g (HR z tl))))))))) (r162 r x2))) (r : RS) (x2 : Int32) (t1 : Int32) (t2 : Int32) : Ev sc 4 62 0 0 M_Mod_heads 200 [(0, .ref 12), (2, .int x2)] [.int t2, .int t1, .ref 18] (eLV :: (HD d (HF f (HW w (HM m (HS s (HG g (HR r tl)))))))) (mapR ouV (fun z => (eLV :: (HD d (HF f (HW w (HM m (HS s (HG g (HR z tl))))))))) (B_Mod_heads_200 r162 r x2 t1 t2)) := by
  unfold B_Mod_heads_200
  refine ev_imul d_Mod_heads_200 ?_
  refine ev_iconst (v := 1) d_Mod_heads_201 rfl ?_
  refine ev_iadd d_Mod_heads_202 ?_
  refine ev_iconst (v := 0) d_Mod_heads_203 rfl ?_
  refine ev_inB (fun h1 => ?_)
  refine ev_iastore (h2 := (eLV :: (HD d (HF f (HW w (HM m (HS s (HG g (HR (rSByt r (upd (rByt r) ((t1 * t2) + 1).toNatClampNeg 0)) tl))))))))) rfl (inB_of h1) rfl d_Mod_heads_204 ?_
  exact ev_pick [0, 1] rfl (e_B_Mod_heads_205   r162 hr162 (rSByt r (upd (rByt r) ((t1 * t2) + 1).toNatClampNeg 0)) x2)
def B_Mod_heads_189  (r162 : RS → Int32 → Option (Unit × RS)) (r : RS) (x2 : Int32) : Option (Unit × RS) :=
  bnd (f_Mod_headOf r x2) (fun q => B_Mod_heads_200  r162 r x2 8 q.1)
theorem e_B_Mod_heads_189 {sc : Nat × (Nat → Int32)} {d : DS} {f : FS} {w : WS} {m : MS} {s : SS} {g : GS} {tl : List mn_E}  (r162 : RS → Int32 → Option (Unit × RS)) (hr162 : ∀ (r : RS) (x2 : Int32), Ev sc 4 62 0 0 M_Mod_heads 162 [(0, .ref 12), (2, .int x2)] [] (eLV :: (HD d (HF f (HW w (HM m (HS s (HG g (HR r tl)))))))) (mapR ouV (fun z => (eLV :: (HD d (HF f (HW w (HM m (HS s (HG g (HR z tl))))))))) (r162 r x2))) (r : RS) (x2 : Int32) : Ev sc 4 62 0 0 M_Mod_heads 189 [(0, .ref 12), (2, .int x2)] [] (eLV :: (HD d (HF f (HW w (HM m (HS s (HG g (HR r tl)))))))) (mapR ouV (fun z => (eLV :: (HD d (HF f (HW w (HM m (HS s (HG g (HR z tl))))))))) (B_Mod_heads_189 r162 r x2)) := by
  unfold B_Mod_heads_189
  refine ev_aload_n d_Mod_heads_189 rfl rfl ?_
  refine ev_get (v := .ref 18) gi_Mod (ci := 6) rfl rfl 7 (by decide) gw_1008 rfl d_Mod_heads_190 ?_
  refine ev_bipush (v := 8) d_Mod_heads_193 rfl ?_
  refine ev_aload_n d_Mod_heads_195 rfl rfl ?_
  refine ev_iload_n d_Mod_heads_196 rfl rfl ?_
  refine ev_callB (rc := (f_Mod_headOf r x2)) (ou := ouI) (Hs := (fun z => (eLV :: (HD d (HF f (HW w (HM m (HS s (HG g (HR r tl)))))))))) (inv_V (q := 12) (av := [.int x2]) (rest := [.int 8, .ref 18]) rfl (ci := 6) rfl d_Mod_heads_197 gw_1283 gw_1285 gw_86 mw_Mod_headOf nh_Mod_headOf pn_Mod_headOf rfl) d_Mod_heads_197 pl_Mod_headOf (Nat.le_of_ble_eq_true rfl) (Nat.le_of_ble_eq_true rfl) (Nat.le_of_ble_eq_true rfl) (e_f_Mod_headOf (tl := tl) (d := d) (f := f) (w := w) (m := m) (s := s) (g := g)  r x2) (fun _ => (len1 (lenHD (lenHF (lenHW (lenHM (lenHS (lenHG (lenHR rfl))))))))) (fun v z h1 => ⟨_, rfl, ?_⟩)
  exact ev_pick [0, 1] rfl (e_B_Mod_heads_200   r162 hr162 r x2 8 v)
def B_Mod_heads_186  (r162 : RS → Int32 → Option (Unit × RS)) (r : RS) (x2 : Int32) (t1 : Int32) (t2 : Int32) : Option (Unit × RS) :=
  if inB (t1 * t2) 320 then (B_Mod_heads_189  r162 (rSByt r (upd (rByt r) (t1 * t2).toNatClampNeg 0)) x2) else none
theorem e_B_Mod_heads_186 {sc : Nat × (Nat → Int32)} {d : DS} {f : FS} {w : WS} {m : MS} {s : SS} {g : GS} {tl : List mn_E}  (r162 : RS → Int32 → Option (Unit × RS)) (hr162 : ∀ (r : RS) (x2 : Int32), Ev sc 4 62 0 0 M_Mod_heads 162 [(0, .ref 12), (2, .int x2)] [] (eLV :: (HD d (HF f (HW w (HM m (HS s (HG g (HR r tl)))))))) (mapR ouV (fun z => (eLV :: (HD d (HF f (HW w (HM m (HS s (HG g (HR z tl))))))))) (r162 r x2))) (r : RS) (x2 : Int32) (t1 : Int32) (t2 : Int32) : Ev sc 4 62 0 0 M_Mod_heads 186 [(0, .ref 12), (2, .int x2)] [.int t2, .int t1, .ref 18] (eLV :: (HD d (HF f (HW w (HM m (HS s (HG g (HR r tl)))))))) (mapR ouV (fun z => (eLV :: (HD d (HF f (HW w (HM m (HS s (HG g (HR z tl))))))))) (B_Mod_heads_186 r162 r x2 t1 t2)) := by
  unfold B_Mod_heads_186
  refine ev_imul d_Mod_heads_186 ?_
  refine ev_iconst (v := 0) d_Mod_heads_187 rfl ?_
  refine ev_inB (fun h1 => ?_)
  refine ev_iastore (h2 := (eLV :: (HD d (HF f (HW w (HM m (HS s (HG g (HR (rSByt r (upd (rByt r) (t1 * t2).toNatClampNeg 0)) tl))))))))) rfl (inB_of h1) rfl d_Mod_heads_188 ?_
  exact ev_pick [0, 1] rfl (e_B_Mod_heads_189   r162 hr162 (rSByt r (upd (rByt r) (t1 * t2).toNatClampNeg 0)) x2)
def B_Mod_heads_172  (r162 : RS → Int32 → Option (Unit × RS)) (r : RS) (x2 : Int32) (t0 : Int32) : Option (Unit × RS) :=
  if t0 < 0 then (B_Mod_heads_230  r162 r x2) else (bnd (f_Mod_headOf r x2) (fun q => B_Mod_heads_186  r162 r x2 8 q.1))
theorem e_B_Mod_heads_172 {sc : Nat × (Nat → Int32)} {d : DS} {f : FS} {w : WS} {m : MS} {s : SS} {g : GS} {tl : List mn_E}  (r162 : RS → Int32 → Option (Unit × RS)) (hr162 : ∀ (r : RS) (x2 : Int32), Ev sc 4 62 0 0 M_Mod_heads 162 [(0, .ref 12), (2, .int x2)] [] (eLV :: (HD d (HF f (HW w (HM m (HS s (HG g (HR r tl)))))))) (mapR ouV (fun z => (eLV :: (HD d (HF f (HW w (HM m (HS s (HG g (HR z tl))))))))) (r162 r x2))) (r : RS) (x2 : Int32) (t0 : Int32) : Ev sc 4 62 0 0 M_Mod_heads 172 [(0, .ref 12), (2, .int x2)] [.int t0] (eLV :: (HD d (HF f (HW w (HM m (HS s (HG g (HR r tl)))))))) (mapR ouV (fun z => (eLV :: (HD d (HF f (HW w (HM m (HS s (HG g (HR z tl))))))))) (B_Mod_heads_172 r162 r x2 t0)) := by
  unfold B_Mod_heads_172
  refine ev_if_lt (tgt := 230) d_Mod_heads_172 rfl (fun h1 => ?_) (fun h1 => ?_)
  · rw [if_pos h1]
    exact ev_pick [0, 1] rfl (e_B_Mod_heads_230   r162 hr162 r x2)
  · rw [if_neg h1]
    refine ev_aload_n d_Mod_heads_175 rfl rfl ?_
    refine ev_get (v := .ref 18) gi_Mod (ci := 6) rfl rfl 7 (by decide) gw_1008 rfl d_Mod_heads_176 ?_
    refine ev_bipush (v := 8) d_Mod_heads_179 rfl ?_
    refine ev_aload_n d_Mod_heads_181 rfl rfl ?_
    refine ev_iload_n d_Mod_heads_182 rfl rfl ?_
    refine ev_callB (rc := (f_Mod_headOf r x2)) (ou := ouI) (Hs := (fun z => (eLV :: (HD d (HF f (HW w (HM m (HS s (HG g (HR r tl)))))))))) (inv_V (q := 12) (av := [.int x2]) (rest := [.int 8, .ref 18]) rfl (ci := 6) rfl d_Mod_heads_183 gw_1283 gw_1285 gw_86 mw_Mod_headOf nh_Mod_headOf pn_Mod_headOf rfl) d_Mod_heads_183 pl_Mod_headOf (Nat.le_of_ble_eq_true rfl) (Nat.le_of_ble_eq_true rfl) (Nat.le_of_ble_eq_true rfl) (e_f_Mod_headOf (tl := tl) (d := d) (f := f) (w := w) (m := m) (s := s) (g := g)  r x2) (fun _ => (len1 (lenHD (lenHF (lenHW (lenHM (lenHS (lenHG (lenHR rfl))))))))) (fun v z h2 => ⟨_, rfl, ?_⟩)
    exact ev_pick [0, 1] rfl (e_B_Mod_heads_186   r162 hr162 r x2 8 v)
def L_Mod_heads_162   : Nat → RS → Int32 → Option (Unit × RS)
  | 0, _, _ => none
  | n + 1, r, x2 =>
  if 3 ≤ x2 then (some ((), r)) else (bnd (f_Mod_headOf r x2) (fun q => B_Mod_heads_172  (L_Mod_heads_162 n) r x2 q.1))
theorem e_L_Mod_heads_162 {sc : Nat × (Nat → Int32)} {d : DS} {f : FS} {w : WS} {m : MS} {s : SS} {g : GS} {tl : List mn_E}    : ∀ (n : Nat) (r : RS) (x2 : Int32), Ev sc 4 62 0 0 M_Mod_heads 162 [(0, .ref 12), (2, .int x2)] [] (eLV :: (HD d (HF f (HW w (HM m (HS s (HG g (HR r tl)))))))) (mapR ouV (fun z => (eLV :: (HD d (HF f (HW w (HM m (HS s (HG g (HR z tl))))))))) (L_Mod_heads_162   n r x2)) := by
  intro n
  induction n with
  | zero => intro r x2; exact ev_none
  | succ n ih =>
    intro r x2
    rw [L_Mod_heads_162]
    refine ev_iload_n d_Mod_heads_162 rfl rfl ?_
    refine ev_iconst (v := 3) d_Mod_heads_163 rfl ?_
    refine ev_icmp_ge (tgt := 236) d_Mod_heads_164 rfl (fun h1 => ?_) (fun h1 => ?_)
    · rw [if_pos h1]
      exact ev_vret rfl d_Mod_heads_236
    · rw [if_neg h1]
      refine ev_aload_n d_Mod_heads_167 rfl rfl ?_
      refine ev_iload_n d_Mod_heads_168 rfl rfl ?_
      refine ev_callB (rc := (f_Mod_headOf r x2)) (ou := ouI) (Hs := (fun z => (eLV :: (HD d (HF f (HW w (HM m (HS s (HG g (HR r tl)))))))))) (inv_V (q := 12) (av := [.int x2]) (rest := []) rfl (ci := 6) rfl d_Mod_heads_169 gw_1283 gw_1285 gw_86 mw_Mod_headOf nh_Mod_headOf pn_Mod_headOf rfl) d_Mod_heads_169 pl_Mod_headOf (Nat.le_of_ble_eq_true rfl) (Nat.le_of_ble_eq_true rfl) (Nat.le_of_ble_eq_true rfl) (e_f_Mod_headOf (tl := tl) (d := d) (f := f) (w := w) (m := m) (s := s) (g := g)  r x2) (fun _ => (len1 (lenHD (lenHF (lenHW (lenHM (lenHS (lenHG (lenHR rfl))))))))) (fun v z h2 => ⟨_, rfl, ?_⟩)
      exact ev_pick [0, 1] rfl (e_B_Mod_heads_172   (L_Mod_heads_162 n) ih r x2 v)
def B_Mod_heads_160   (r : RS) : Option (Unit × RS) :=
  L_Mod_heads_162   1000 r 1
theorem e_B_Mod_heads_160 {sc : Nat × (Nat → Int32)} {d : DS} {f : FS} {w : WS} {m : MS} {s : SS} {g : GS} {tl : List mn_E}    (r : RS) : Ev sc 4 62 0 0 M_Mod_heads 160 [(0, .ref 12)] [] (eLV :: (HD d (HF f (HW w (HM m (HS s (HG g (HR r tl)))))))) (mapR ouV (fun z => (eLV :: (HD d (HF f (HW w (HM m (HS s (HG g (HR z tl))))))))) (B_Mod_heads_160 r)) := by
  unfold B_Mod_heads_160
  refine ev_iconst (v := 1) d_Mod_heads_160 rfl ?_
  refine ev_istore_n d_Mod_heads_161 rfl (by decide) rfl ?_
  exact ev_pick [1, 0] rfl (e_L_Mod_heads_162     1000 r 1)
def B_Mod_heads_153   (r : RS) : Option (Unit × RS) :=
  if inB 2 61 then (B_Mod_heads_160   (rSMan r (upd (rMan r) (2 : Int32).toNatClampNeg 1))) else none
theorem e_B_Mod_heads_153 {sc : Nat × (Nat → Int32)} {d : DS} {f : FS} {w : WS} {m : MS} {s : SS} {g : GS} {tl : List mn_E}    (r : RS) : Ev sc 4 62 0 0 M_Mod_heads 153 [(0, .ref 12)] [] (eLV :: (HD d (HF f (HW w (HM m (HS s (HG g (HR r tl)))))))) (mapR ouV (fun z => (eLV :: (HD d (HF f (HW w (HM m (HS s (HG g (HR z tl))))))))) (B_Mod_heads_153 r)) := by
  unfold B_Mod_heads_153
  refine ev_aload_n d_Mod_heads_153 rfl rfl ?_
  refine ev_get (v := .ref 25) gi_Mod (ci := 6) rfl rfl 25 (by decide) gw_1026 rfl d_Mod_heads_154 ?_
  refine ev_iconst (v := 2) d_Mod_heads_157 rfl ?_
  refine ev_iconst (v := 1) d_Mod_heads_158 rfl ?_
  refine ev_inB (fun h1 => ?_)
  refine ev_iastore (h2 := (eLV :: (HD d (HF f (HW w (HM m (HS s (HG g (HR (rSMan r (upd (rMan r) (2 : Int32).toNatClampNeg 1)) tl))))))))) rfl (inB_of h1) rfl d_Mod_heads_159 ?_
  exact ev_pick [0] rfl (e_B_Mod_heads_160     (rSMan r (upd (rMan r) (2 : Int32).toNatClampNeg 1)))
def B_Mod_heads_143   (r : RS) (x1 : Int32) : Option (Unit × RS) :=
  if inB 81 2440 then (B_Mod_heads_153   (rSTab r (upd (rTab r) (81 : Int32).toNatClampNeg (x1 + 1)))) else none
theorem e_B_Mod_heads_143 {sc : Nat × (Nat → Int32)} {d : DS} {f : FS} {w : WS} {m : MS} {s : SS} {g : GS} {tl : List mn_E}    (r : RS) (x1 : Int32) : Ev sc 4 62 0 0 M_Mod_heads 143 [(0, .ref 12), (1, .int x1)] [] (eLV :: (HD d (HF f (HW w (HM m (HS s (HG g (HR r tl)))))))) (mapR ouV (fun z => (eLV :: (HD d (HF f (HW w (HM m (HS s (HG g (HR z tl))))))))) (B_Mod_heads_143 r x1)) := by
  unfold B_Mod_heads_143
  refine ev_aload_n d_Mod_heads_143 rfl rfl ?_
  refine ev_get (v := .ref 24) gi_Mod (ci := 6) rfl rfl 24 (by decide) gw_1025 rfl d_Mod_heads_144 ?_
  refine ev_bipush (v := 81) d_Mod_heads_147 rfl ?_
  refine ev_iload_n d_Mod_heads_149 rfl rfl ?_
  refine ev_iconst (v := 1) d_Mod_heads_150 rfl ?_
  refine ev_iadd d_Mod_heads_151 ?_
  refine ev_inB (fun h1 => ?_)
  refine ev_iastore (h2 := (eLV :: (HD d (HF f (HW w (HM m (HS s (HG g (HR (rSTab r (upd (rTab r) (81 : Int32).toNatClampNeg (x1 + 1))) tl))))))))) rfl (inB_of h1) rfl d_Mod_heads_152 ?_
  exact ev_pick [0] rfl (e_B_Mod_heads_153     (rSTab r (upd (rTab r) (81 : Int32).toNatClampNeg (x1 + 1))))
def B_Mod_heads_135   (r : RS) (x1 : Int32) : Option (Unit × RS) :=
  bnd (f_Mod_label0 r x1 2 1 5) (fun q => B_Mod_heads_143   q.2 x1)
theorem e_B_Mod_heads_135 {sc : Nat × (Nat → Int32)} {d : DS} {f : FS} {w : WS} {m : MS} {s : SS} {g : GS} {tl : List mn_E}    (r : RS) (x1 : Int32) : Ev sc 4 62 0 0 M_Mod_heads 135 [(0, .ref 12), (1, .int x1)] [] (eLV :: (HD d (HF f (HW w (HM m (HS s (HG g (HR r tl)))))))) (mapR ouV (fun z => (eLV :: (HD d (HF f (HW w (HM m (HS s (HG g (HR z tl))))))))) (B_Mod_heads_135 r x1)) := by
  unfold B_Mod_heads_135
  refine ev_aload_n d_Mod_heads_135 rfl rfl ?_
  refine ev_iload_n d_Mod_heads_136 rfl rfl ?_
  refine ev_iconst (v := 2) d_Mod_heads_137 rfl ?_
  refine ev_iconst (v := 1) d_Mod_heads_138 rfl ?_
  refine ev_iconst (v := 5) d_Mod_heads_139 rfl ?_
  refine ev_callB (rc := (f_Mod_label0 r x1 2 1 5)) (ou := ouV) (Hs := (fun z => (eLV :: (HD d (HF f (HW w (HM m (HS s (HG g (HR z tl)))))))))) (inv_V (q := 12) (av := [.int x1, .int 2, .int 1, .int 5]) (rest := []) rfl (ci := 6) rfl d_Mod_heads_140 gw_997 gw_999 gw_48 mw_Mod_label0 nh_Mod_label0 pn_Mod_label0 rfl) d_Mod_heads_140 pl_Mod_label0 (Nat.le_of_ble_eq_true rfl) (Nat.le_of_ble_eq_true rfl) (Nat.le_of_ble_eq_true rfl) (e_f_Mod_label0 (tl := tl) (d := d) (f := f) (w := w) (m := m) (s := s) (g := g)  r x1 2 1 5) (fun _ => (len1 (lenHD (lenHF (lenHW (lenHM (lenHS (lenHG (lenHR rfl))))))))) (fun v z h1 => ⟨_, rfl, ?_⟩)
  exact ev_pick [0, 1] rfl (e_B_Mod_heads_143     z x1)
def B_Mod_heads_114   (r : RS) (x1 : Int32) (t0 : Int32) : Option (Unit × RS) :=
  if t0 < 0 then (B_Mod_heads_160   r) else (if inB 2 61 then (if ¬ (rMan r (2 : Int32).toNatClampNeg) = 0 then (B_Mod_heads_160   r) else (if x1 < 0 then (B_Mod_heads_160   r) else (bnd (f_Mod_empty r x1) (fun q => B_Mod_heads_135   q.2 x1)))) else none)
theorem e_B_Mod_heads_114 {sc : Nat × (Nat → Int32)} {d : DS} {f : FS} {w : WS} {m : MS} {s : SS} {g : GS} {tl : List mn_E}    (r : RS) (x1 : Int32) (t0 : Int32) : Ev sc 4 62 0 0 M_Mod_heads 114 [(0, .ref 12), (1, .int x1)] [.int t0] (eLV :: (HD d (HF f (HW w (HM m (HS s (HG g (HR r tl)))))))) (mapR ouV (fun z => (eLV :: (HD d (HF f (HW w (HM m (HS s (HG g (HR z tl))))))))) (B_Mod_heads_114 r x1 t0)) := by
  unfold B_Mod_heads_114
  refine ev_if_lt (tgt := 160) d_Mod_heads_114 rfl (fun h1 => ?_) (fun h1 => ?_)
  · rw [if_pos h1]
    exact ev_pick [0] rfl (e_B_Mod_heads_160     r)
  · rw [if_neg h1]
    refine ev_aload_n d_Mod_heads_117 rfl rfl ?_
    refine ev_get (v := .ref 25) gi_Mod (ci := 6) rfl rfl 25 (by decide) gw_1026 rfl d_Mod_heads_118 ?_
    refine ev_iconst (v := 2) d_Mod_heads_121 rfl ?_
    refine ev_inB (fun h2 => ?_)
    refine ev_iaload rfl (inB_of h2) d_Mod_heads_122 ?_
    refine ev_if_ne (tgt := 160) d_Mod_heads_123 rfl (fun h3 => ?_) (fun h3 => ?_)
    · rw [if_pos h3]
      exact ev_pick [0] rfl (e_B_Mod_heads_160     r)
    · rw [if_neg h3]
      refine ev_iload_n d_Mod_heads_126 rfl rfl ?_
      refine ev_if_lt (tgt := 160) d_Mod_heads_127 rfl (fun h4 => ?_) (fun h4 => ?_)
      · rw [if_pos h4]
        exact ev_pick [0] rfl (e_B_Mod_heads_160     r)
      · rw [if_neg h4]
        refine ev_aload_n d_Mod_heads_130 rfl rfl ?_
        refine ev_iload_n d_Mod_heads_131 rfl rfl ?_
        refine ev_callB (rc := (f_Mod_empty r x1)) (ou := ouV) (Hs := (fun z => (eLV :: (HD d (HF f (HW w (HM m (HS s (HG g (HR z tl)))))))))) (inv_V (q := 12) (av := [.int x1]) (rest := []) rfl (ci := 6) rfl d_Mod_heads_132 gw_1171 gw_1173 gw_66 mw_Mod_empty nh_Mod_empty pn_Mod_empty rfl) d_Mod_heads_132 pl_Mod_empty (Nat.le_of_ble_eq_true rfl) (Nat.le_of_ble_eq_true rfl) (Nat.le_of_ble_eq_true rfl) (e_f_Mod_empty (tl := tl) (d := d) (f := f) (w := w) (m := m) (s := s) (g := g)  r x1) (fun _ => (len1 (lenHD (lenHF (lenHW (lenHM (lenHS (lenHG (lenHR rfl))))))))) (fun v z h5 => ⟨_, rfl, ?_⟩)
        exact ev_pick [0, 1] rfl (e_B_Mod_heads_135     z x1)
def B_Mod_heads_108   (r : RS) (t0 : Int32) : Option (Unit × RS) :=
  bnd (f_Mod_headOf r 2) (fun q => B_Mod_heads_114   r t0 q.1)
theorem e_B_Mod_heads_108 {sc : Nat × (Nat → Int32)} {d : DS} {f : FS} {w : WS} {m : MS} {s : SS} {g : GS} {tl : List mn_E}    (r : RS) (t0 : Int32) : Ev sc 4 62 0 0 M_Mod_heads 108 [(0, .ref 12)] [.int t0] (eLV :: (HD d (HF f (HW w (HM m (HS s (HG g (HR r tl)))))))) (mapR ouV (fun z => (eLV :: (HD d (HF f (HW w (HM m (HS s (HG g (HR z tl))))))))) (B_Mod_heads_108 r t0)) := by
  unfold B_Mod_heads_108
  refine ev_istore_n d_Mod_heads_108 rfl (by decide) rfl ?_
  refine ev_aload_n d_Mod_heads_109 rfl rfl ?_
  refine ev_iconst (v := 2) d_Mod_heads_110 rfl ?_
  refine ev_callB (rc := (f_Mod_headOf r 2)) (ou := ouI) (Hs := (fun z => (eLV :: (HD d (HF f (HW w (HM m (HS s (HG g (HR r tl)))))))))) (inv_V (q := 12) (av := [.int 2]) (rest := []) rfl (ci := 6) rfl d_Mod_heads_111 gw_1283 gw_1285 gw_86 mw_Mod_headOf nh_Mod_headOf pn_Mod_headOf rfl) d_Mod_heads_111 pl_Mod_headOf (Nat.le_of_ble_eq_true rfl) (Nat.le_of_ble_eq_true rfl) (Nat.le_of_ble_eq_true rfl) (e_f_Mod_headOf (tl := tl) (d := d) (f := f) (w := w) (m := m) (s := s) (g := g)  r 2) (fun _ => (len1 (lenHD (lenHF (lenHW (lenHM (lenHS (lenHG (lenHR rfl))))))))) (fun v z h1 => ⟨_, rfl, ?_⟩)
  exact ev_pick [1, 0] rfl (e_B_Mod_heads_114     r t0 v)
def B_Mod_heads_98  (r57 : RS → Int32 → Option (Unit × RS)) (r : RS) (x1 : Int32) : Option (Unit × RS) :=
  r57 r (x1 + 1)
theorem e_B_Mod_heads_98 {sc : Nat × (Nat → Int32)} {d : DS} {f : FS} {w : WS} {m : MS} {s : SS} {g : GS} {tl : List mn_E}  (r57 : RS → Int32 → Option (Unit × RS)) (hr57 : ∀ (r : RS) (x1 : Int32), Ev sc 4 62 0 0 M_Mod_heads 57 [(0, .ref 12), (1, .int x1)] [] (eLV :: (HD d (HF f (HW w (HM m (HS s (HG g (HR r tl)))))))) (mapR ouV (fun z => (eLV :: (HD d (HF f (HW w (HM m (HS s (HG g (HR z tl))))))))) (r57 r x1))) (r : RS) (x1 : Int32) : Ev sc 4 62 0 0 M_Mod_heads 98 [(0, .ref 12), (1, .int x1)] [] (eLV :: (HD d (HF f (HW w (HM m (HS s (HG g (HR r tl)))))))) (mapR ouV (fun z => (eLV :: (HD d (HF f (HW w (HM m (HS s (HG g (HR z tl))))))))) (B_Mod_heads_98 r57 r x1)) := by
  unfold B_Mod_heads_98
  refine ev_iinc (v := (x1 + 1)) d_Mod_heads_98 rfl rfl (by decide) rfl ?_
  refine ev_goto (tgt := 57) d_Mod_heads_101 rfl ?_
  exact ev_pick [1, 0] rfl (hr57 r (x1 + 1))
def B_Mod_heads_95  (r57 : RS → Int32 → Option (Unit × RS)) (r : RS) (x1 : Int32) (t1 : Int32) (t2 : Int32) (t3 : Int32) : Option (Unit × RS) :=
  bnd (f_Mod_crown r t1 t2 t3) (fun q => B_Mod_heads_98  r57 q.2 x1)
theorem e_B_Mod_heads_95 {sc : Nat × (Nat → Int32)} {d : DS} {f : FS} {w : WS} {m : MS} {s : SS} {g : GS} {tl : List mn_E}  (r57 : RS → Int32 → Option (Unit × RS)) (hr57 : ∀ (r : RS) (x1 : Int32), Ev sc 4 62 0 0 M_Mod_heads 57 [(0, .ref 12), (1, .int x1)] [] (eLV :: (HD d (HF f (HW w (HM m (HS s (HG g (HR r tl)))))))) (mapR ouV (fun z => (eLV :: (HD d (HF f (HW w (HM m (HS s (HG g (HR z tl))))))))) (r57 r x1))) (r : RS) (x1 : Int32) (t1 : Int32) (t2 : Int32) (t3 : Int32) : Ev sc 4 62 0 0 M_Mod_heads 95 [(0, .ref 12), (1, .int x1)] [.int t3, .int t2, .int t1, .ref 12] (eLV :: (HD d (HF f (HW w (HM m (HS s (HG g (HR r tl)))))))) (mapR ouV (fun z => (eLV :: (HD d (HF f (HW w (HM m (HS s (HG g (HR z tl))))))))) (B_Mod_heads_95 r57 r x1 t1 t2 t3)) := by
  unfold B_Mod_heads_95
  refine ev_callB (rc := (f_Mod_crown r t1 t2 t3)) (ou := ouV) (Hs := (fun z => (eLV :: (HD d (HF f (HW w (HM m (HS s (HG g (HR z tl)))))))))) (inv_V (q := 12) (av := [.int t1, .int t2, .int t3]) (rest := []) rfl (ci := 6) rfl d_Mod_heads_95 gw_1287 gw_1289 gw_87 mw_Mod_crown nh_Mod_crown pn_Mod_crown rfl) d_Mod_heads_95 pl_Mod_crown (Nat.le_of_ble_eq_true rfl) (Nat.le_of_ble_eq_true rfl) (Nat.le_of_ble_eq_true rfl) (e_f_Mod_crown (tl := tl) (d := d) (f := f) (w := w) (m := m) (s := s) (g := g)  r t1 t2 t3) (fun _ => (len1 (lenHD (lenHF (lenHW (lenHM (lenHS (lenHG (lenHR rfl))))))))) (fun v z h1 => ⟨_, rfl, ?_⟩)
  exact ev_pick [0, 1] rfl (e_B_Mod_heads_98   r57 hr57 z x1)
def B_Mod_heads_82  (r57 : RS → Int32 → Option (Unit × RS)) (r : RS) (x1 : Int32) : Option (Unit × RS) :=
  if ¬ x1 = 1 then (B_Mod_heads_95  r57 r x1 x1 0 0) else (B_Mod_heads_95  r57 r x1 x1 0 1)
theorem e_B_Mod_heads_82 {sc : Nat × (Nat → Int32)} {d : DS} {f : FS} {w : WS} {m : MS} {s : SS} {g : GS} {tl : List mn_E}  (r57 : RS → Int32 → Option (Unit × RS)) (hr57 : ∀ (r : RS) (x1 : Int32), Ev sc 4 62 0 0 M_Mod_heads 57 [(0, .ref 12), (1, .int x1)] [] (eLV :: (HD d (HF f (HW w (HM m (HS s (HG g (HR r tl)))))))) (mapR ouV (fun z => (eLV :: (HD d (HF f (HW w (HM m (HS s (HG g (HR z tl))))))))) (r57 r x1))) (r : RS) (x1 : Int32) : Ev sc 4 62 0 0 M_Mod_heads 82 [(0, .ref 12), (1, .int x1)] [] (eLV :: (HD d (HF f (HW w (HM m (HS s (HG g (HR r tl)))))))) (mapR ouV (fun z => (eLV :: (HD d (HF f (HW w (HM m (HS s (HG g (HR z tl))))))))) (B_Mod_heads_82 r57 r x1)) := by
  unfold B_Mod_heads_82
  refine ev_aload_n d_Mod_heads_82 rfl rfl ?_
  refine ev_iload_n d_Mod_heads_83 rfl rfl ?_
  refine ev_iconst (v := 0) d_Mod_heads_84 rfl ?_
  refine ev_iload_n d_Mod_heads_85 rfl rfl ?_
  refine ev_iconst (v := 1) d_Mod_heads_86 rfl ?_
  refine ev_icmp_ne (tgt := 94) d_Mod_heads_87 rfl (fun h1 => ?_) (fun h1 => ?_)
  · rw [if_pos h1]
    refine ev_iconst (v := 0) d_Mod_heads_94 rfl ?_
    exact ev_pick [0, 1] rfl (e_B_Mod_heads_95   r57 hr57 r x1 x1 0 0)
  · rw [if_neg h1]
    refine ev_iconst (v := 1) d_Mod_heads_90 rfl ?_
    refine ev_goto (tgt := 95) d_Mod_heads_91 rfl ?_
    exact ev_pick [0, 1] rfl (e_B_Mod_heads_95   r57 hr57 r x1 x1 0 1)
def B_Mod_heads_74  (r57 : RS → Int32 → Option (Unit × RS)) (r : RS) (x1 : Int32) (t0 : Int32) : Option (Unit × RS) :=
  if 0 ≤ t0 then (B_Mod_heads_82  r57 r x1) else (bnd (f_Mod_losePages r x1) (fun q => B_Mod_heads_82  r57 q.2 x1))
theorem e_B_Mod_heads_74 {sc : Nat × (Nat → Int32)} {d : DS} {f : FS} {w : WS} {m : MS} {s : SS} {g : GS} {tl : List mn_E}  (r57 : RS → Int32 → Option (Unit × RS)) (hr57 : ∀ (r : RS) (x1 : Int32), Ev sc 4 62 0 0 M_Mod_heads 57 [(0, .ref 12), (1, .int x1)] [] (eLV :: (HD d (HF f (HW w (HM m (HS s (HG g (HR r tl)))))))) (mapR ouV (fun z => (eLV :: (HD d (HF f (HW w (HM m (HS s (HG g (HR z tl))))))))) (r57 r x1))) (r : RS) (x1 : Int32) (t0 : Int32) : Ev sc 4 62 0 0 M_Mod_heads 74 [(0, .ref 12), (1, .int x1)] [.int t0] (eLV :: (HD d (HF f (HW w (HM m (HS s (HG g (HR r tl)))))))) (mapR ouV (fun z => (eLV :: (HD d (HF f (HW w (HM m (HS s (HG g (HR z tl))))))))) (B_Mod_heads_74 r57 r x1 t0)) := by
  unfold B_Mod_heads_74
  refine ev_if_ge (tgt := 82) d_Mod_heads_74 rfl (fun h1 => ?_) (fun h1 => ?_)
  · rw [if_pos h1]
    exact ev_pick [0, 1] rfl (e_B_Mod_heads_82   r57 hr57 r x1)
  · rw [if_neg h1]
    refine ev_aload_n d_Mod_heads_77 rfl rfl ?_
    refine ev_iload_n d_Mod_heads_78 rfl rfl ?_
    refine ev_callB (rc := (f_Mod_losePages r x1)) (ou := ouV) (Hs := (fun z => (eLV :: (HD d (HF f (HW w (HM m (HS s (HG g (HR z tl)))))))))) (inv_V (q := 12) (av := [.int x1]) (rest := []) rfl (ci := 6) rfl d_Mod_heads_79 gw_1295 gw_1297 gw_89 mw_Mod_losePages nh_Mod_losePages pn_Mod_losePages rfl) d_Mod_heads_79 pl_Mod_losePages (Nat.le_of_ble_eq_true rfl) (Nat.le_of_ble_eq_true rfl) (Nat.le_of_ble_eq_true rfl) (e_f_Mod_losePages (tl := tl) (d := d) (f := f) (w := w) (m := m) (s := s) (g := g)  r x1) (fun _ => (len1 (lenHD (lenHF (lenHW (lenHM (lenHS (lenHG (lenHR rfl))))))))) (fun v z h2 => ⟨_, rfl, ?_⟩)
    exact ev_pick [0, 1] rfl (e_B_Mod_heads_82   r57 hr57 z x1)
def B_Mod_heads_67  (r57 : RS → Int32 → Option (Unit × RS)) (r : RS) (x1 : Int32) (t0 : Int32) : Option (Unit × RS) :=
  if 0 ≤ t0 then (B_Mod_heads_98  r57 r x1) else (bnd (f_Mod_lowestFree r) (fun q => B_Mod_heads_74  r57 r x1 q.1))
theorem e_B_Mod_heads_67 {sc : Nat × (Nat → Int32)} {d : DS} {f : FS} {w : WS} {m : MS} {s : SS} {g : GS} {tl : List mn_E}  (r57 : RS → Int32 → Option (Unit × RS)) (hr57 : ∀ (r : RS) (x1 : Int32), Ev sc 4 62 0 0 M_Mod_heads 57 [(0, .ref 12), (1, .int x1)] [] (eLV :: (HD d (HF f (HW w (HM m (HS s (HG g (HR r tl)))))))) (mapR ouV (fun z => (eLV :: (HD d (HF f (HW w (HM m (HS s (HG g (HR z tl))))))))) (r57 r x1))) (r : RS) (x1 : Int32) (t0 : Int32) : Ev sc 4 62 0 0 M_Mod_heads 67 [(0, .ref 12), (1, .int x1)] [.int t0] (eLV :: (HD d (HF f (HW w (HM m (HS s (HG g (HR r tl)))))))) (mapR ouV (fun z => (eLV :: (HD d (HF f (HW w (HM m (HS s (HG g (HR z tl))))))))) (B_Mod_heads_67 r57 r x1 t0)) := by
  unfold B_Mod_heads_67
  refine ev_if_ge (tgt := 98) d_Mod_heads_67 rfl (fun h1 => ?_) (fun h1 => ?_)
  · rw [if_pos h1]
    exact ev_pick [0, 1] rfl (e_B_Mod_heads_98   r57 hr57 r x1)
  · rw [if_neg h1]
    refine ev_aload_n d_Mod_heads_70 rfl rfl ?_
    refine ev_callB (rc := (f_Mod_lowestFree r)) (ou := ouI) (Hs := (fun z => (eLV :: (HD d (HF f (HW w (HM m (HS s (HG g (HR r tl)))))))))) (inv_V (q := 12) (av := []) (rest := []) rfl (ci := 6) rfl d_Mod_heads_71 gw_1291 gw_1293 gw_88 mw_Mod_lowestFree nh_Mod_lowestFree pn_Mod_lowestFree rfl) d_Mod_heads_71 pl_Mod_lowestFree (Nat.le_of_ble_eq_true rfl) (Nat.le_of_ble_eq_true rfl) (Nat.le_of_ble_eq_true rfl) (e_f_Mod_lowestFree (tl := tl) (d := d) (f := f) (w := w) (m := m) (s := s) (g := g)  r ) (fun _ => (len1 (lenHD (lenHF (lenHW (lenHM (lenHS (lenHG (lenHR rfl))))))))) (fun v z h2 => ⟨_, rfl, ?_⟩)
    exact ev_pick [0, 1] rfl (e_B_Mod_heads_74   r57 hr57 r x1 v)
def L_Mod_heads_57   : Nat → RS → Int32 → Option (Unit × RS)
  | 0, _, _ => none
  | n + 1, r, x1 =>
  if 3 ≤ x1 then (bnd (f_Mod_lowestFree r) (fun q => B_Mod_heads_108   r q.1)) else (bnd (f_Mod_headOf r x1) (fun q => B_Mod_heads_67  (L_Mod_heads_57 n) r x1 q.1))
theorem e_L_Mod_heads_57 {sc : Nat × (Nat → Int32)} {d : DS} {f : FS} {w : WS} {m : MS} {s : SS} {g : GS} {tl : List mn_E}    : ∀ (n : Nat) (r : RS) (x1 : Int32), Ev sc 4 62 0 0 M_Mod_heads 57 [(0, .ref 12), (1, .int x1)] [] (eLV :: (HD d (HF f (HW w (HM m (HS s (HG g (HR r tl)))))))) (mapR ouV (fun z => (eLV :: (HD d (HF f (HW w (HM m (HS s (HG g (HR z tl))))))))) (L_Mod_heads_57   n r x1)) := by
  intro n
  induction n with
  | zero => intro r x1; exact ev_none
  | succ n ih =>
    intro r x1
    rw [L_Mod_heads_57]
    refine ev_iload_n d_Mod_heads_57 rfl rfl ?_
    refine ev_iconst (v := 3) d_Mod_heads_58 rfl ?_
    refine ev_icmp_ge (tgt := 104) d_Mod_heads_59 rfl (fun h1 => ?_) (fun h1 => ?_)
    · rw [if_pos h1]
      refine ev_aload_n d_Mod_heads_104 rfl rfl ?_
      refine ev_callB (rc := (f_Mod_lowestFree r)) (ou := ouI) (Hs := (fun z => (eLV :: (HD d (HF f (HW w (HM m (HS s (HG g (HR r tl)))))))))) (inv_V (q := 12) (av := []) (rest := []) rfl (ci := 6) rfl d_Mod_heads_105 gw_1291 gw_1293 gw_88 mw_Mod_lowestFree nh_Mod_lowestFree pn_Mod_lowestFree rfl) d_Mod_heads_105 pl_Mod_lowestFree (Nat.le_of_ble_eq_true rfl) (Nat.le_of_ble_eq_true rfl) (Nat.le_of_ble_eq_true rfl) (e_f_Mod_lowestFree (tl := tl) (d := d) (f := f) (w := w) (m := m) (s := s) (g := g)  r ) (fun _ => (len1 (lenHD (lenHF (lenHW (lenHM (lenHS (lenHG (lenHR rfl))))))))) (fun v z h2 => ⟨_, rfl, ?_⟩)
      exact ev_pick [0] rfl (e_B_Mod_heads_108     r v)
    · rw [if_neg h1]
      refine ev_aload_n d_Mod_heads_62 rfl rfl ?_
      refine ev_iload_n d_Mod_heads_63 rfl rfl ?_
      refine ev_callB (rc := (f_Mod_headOf r x1)) (ou := ouI) (Hs := (fun z => (eLV :: (HD d (HF f (HW w (HM m (HS s (HG g (HR r tl)))))))))) (inv_V (q := 12) (av := [.int x1]) (rest := []) rfl (ci := 6) rfl d_Mod_heads_64 gw_1283 gw_1285 gw_86 mw_Mod_headOf nh_Mod_headOf pn_Mod_headOf rfl) d_Mod_heads_64 pl_Mod_headOf (Nat.le_of_ble_eq_true rfl) (Nat.le_of_ble_eq_true rfl) (Nat.le_of_ble_eq_true rfl) (e_f_Mod_headOf (tl := tl) (d := d) (f := f) (w := w) (m := m) (s := s) (g := g)  r x1) (fun _ => (len1 (lenHD (lenHF (lenHW (lenHM (lenHS (lenHG (lenHR rfl))))))))) (fun v z h3 => ⟨_, rfl, ?_⟩)
      exact ev_pick [0, 1] rfl (e_B_Mod_heads_67   (L_Mod_heads_57 n) ih r x1 v)
def B_Mod_heads_49  (r2 : RS → Int32 → Option (Unit × RS)) (r : RS) (x1 : Int32) : Option (Unit × RS) :=
  r2 r (x1 + 1)
theorem e_B_Mod_heads_49 {sc : Nat × (Nat → Int32)} {d : DS} {f : FS} {w : WS} {m : MS} {s : SS} {g : GS} {tl : List mn_E}  (r2 : RS → Int32 → Option (Unit × RS)) (hr2 : ∀ (r : RS) (x1 : Int32), Ev sc 4 62 0 0 M_Mod_heads 2 [(0, .ref 12), (1, .int x1)] [] (eLV :: (HD d (HF f (HW w (HM m (HS s (HG g (HR r tl)))))))) (mapR ouV (fun z => (eLV :: (HD d (HF f (HW w (HM m (HS s (HG g (HR z tl))))))))) (r2 r x1))) (r : RS) (x1 : Int32) : Ev sc 4 62 0 0 M_Mod_heads 49 [(0, .ref 12), (1, .int x1)] [] (eLV :: (HD d (HF f (HW w (HM m (HS s (HG g (HR r tl)))))))) (mapR ouV (fun z => (eLV :: (HD d (HF f (HW w (HM m (HS s (HG g (HR z tl))))))))) (B_Mod_heads_49 r2 r x1)) := by
  unfold B_Mod_heads_49
  refine ev_iinc (v := (x1 + 1)) d_Mod_heads_49 rfl rfl (by decide) rfl ?_
  refine ev_goto (tgt := 2) d_Mod_heads_52 rfl ?_
  exact ev_pick [1, 0] rfl (hr2 r (x1 + 1))
def B_Mod_heads_41  (r2 : RS → Int32 → Option (Unit × RS)) (r : RS) (x1 : Int32) (t0 : Int32) : Option (Unit × RS) :=
  if 0 ≤ t0 then (B_Mod_heads_49  r2 r x1) else (bnd (f_Mod_losePages r x1) (fun q => B_Mod_heads_49  r2 q.2 x1))
theorem e_B_Mod_heads_41 {sc : Nat × (Nat → Int32)} {d : DS} {f : FS} {w : WS} {m : MS} {s : SS} {g : GS} {tl : List mn_E}  (r2 : RS → Int32 → Option (Unit × RS)) (hr2 : ∀ (r : RS) (x1 : Int32), Ev sc 4 62 0 0 M_Mod_heads 2 [(0, .ref 12), (1, .int x1)] [] (eLV :: (HD d (HF f (HW w (HM m (HS s (HG g (HR r tl)))))))) (mapR ouV (fun z => (eLV :: (HD d (HF f (HW w (HM m (HS s (HG g (HR z tl))))))))) (r2 r x1))) (r : RS) (x1 : Int32) (t0 : Int32) : Ev sc 4 62 0 0 M_Mod_heads 41 [(0, .ref 12), (1, .int x1)] [.int t0] (eLV :: (HD d (HF f (HW w (HM m (HS s (HG g (HR r tl)))))))) (mapR ouV (fun z => (eLV :: (HD d (HF f (HW w (HM m (HS s (HG g (HR z tl))))))))) (B_Mod_heads_41 r2 r x1 t0)) := by
  unfold B_Mod_heads_41
  refine ev_if_ge (tgt := 49) d_Mod_heads_41 rfl (fun h1 => ?_) (fun h1 => ?_)
  · rw [if_pos h1]
    exact ev_pick [0, 1] rfl (e_B_Mod_heads_49   r2 hr2 r x1)
  · rw [if_neg h1]
    refine ev_aload_n d_Mod_heads_44 rfl rfl ?_
    refine ev_iload_n d_Mod_heads_45 rfl rfl ?_
    refine ev_callB (rc := (f_Mod_losePages r x1)) (ou := ouV) (Hs := (fun z => (eLV :: (HD d (HF f (HW w (HM m (HS s (HG g (HR z tl)))))))))) (inv_V (q := 12) (av := [.int x1]) (rest := []) rfl (ci := 6) rfl d_Mod_heads_46 gw_1295 gw_1297 gw_89 mw_Mod_losePages nh_Mod_losePages pn_Mod_losePages rfl) d_Mod_heads_46 pl_Mod_losePages (Nat.le_of_ble_eq_true rfl) (Nat.le_of_ble_eq_true rfl) (Nat.le_of_ble_eq_true rfl) (e_f_Mod_losePages (tl := tl) (d := d) (f := f) (w := w) (m := m) (s := s) (g := g)  r x1) (fun _ => (len1 (lenHD (lenHF (lenHW (lenHM (lenHS (lenHG (lenHR rfl))))))))) (fun v z h2 => ⟨_, rfl, ?_⟩)
    exact ev_pick [0, 1] rfl (e_B_Mod_heads_49   r2 hr2 z x1)
def B_Mod_heads_36  (r2 : RS → Int32 → Option (Unit × RS)) (r : RS) (x1 : Int32) : Option (Unit × RS) :=
  bnd (f_Mod_headOf r x1) (fun q => B_Mod_heads_41  r2 r x1 q.1)
theorem e_B_Mod_heads_36 {sc : Nat × (Nat → Int32)} {d : DS} {f : FS} {w : WS} {m : MS} {s : SS} {g : GS} {tl : List mn_E}  (r2 : RS → Int32 → Option (Unit × RS)) (hr2 : ∀ (r : RS) (x1 : Int32), Ev sc 4 62 0 0 M_Mod_heads 2 [(0, .ref 12), (1, .int x1)] [] (eLV :: (HD d (HF f (HW w (HM m (HS s (HG g (HR r tl)))))))) (mapR ouV (fun z => (eLV :: (HD d (HF f (HW w (HM m (HS s (HG g (HR z tl))))))))) (r2 r x1))) (r : RS) (x1 : Int32) : Ev sc 4 62 0 0 M_Mod_heads 36 [(0, .ref 12), (1, .int x1)] [] (eLV :: (HD d (HF f (HW w (HM m (HS s (HG g (HR r tl)))))))) (mapR ouV (fun z => (eLV :: (HD d (HF f (HW w (HM m (HS s (HG g (HR z tl))))))))) (B_Mod_heads_36 r2 r x1)) := by
  unfold B_Mod_heads_36
  refine ev_aload_n d_Mod_heads_36 rfl rfl ?_
  refine ev_iload_n d_Mod_heads_37 rfl rfl ?_
  refine ev_callB (rc := (f_Mod_headOf r x1)) (ou := ouI) (Hs := (fun z => (eLV :: (HD d (HF f (HW w (HM m (HS s (HG g (HR r tl)))))))))) (inv_V (q := 12) (av := [.int x1]) (rest := []) rfl (ci := 6) rfl d_Mod_heads_38 gw_1283 gw_1285 gw_86 mw_Mod_headOf nh_Mod_headOf pn_Mod_headOf rfl) d_Mod_heads_38 pl_Mod_headOf (Nat.le_of_ble_eq_true rfl) (Nat.le_of_ble_eq_true rfl) (Nat.le_of_ble_eq_true rfl) (e_f_Mod_headOf (tl := tl) (d := d) (f := f) (w := w) (m := m) (s := s) (g := g)  r x1) (fun _ => (len1 (lenHD (lenHF (lenHW (lenHM (lenHS (lenHG (lenHR rfl))))))))) (fun v z h1 => ⟨_, rfl, ?_⟩)
  exact ev_pick [0, 1] rfl (e_B_Mod_heads_41   r2 hr2 r x1 v)
def B_Mod_heads_13  (r2 : RS → Int32 → Option (Unit × RS)) (r : RS) (x1 : Int32) (t0 : Int32) : Option (Unit × RS) :=
  if 0 ≤ t0 then (B_Mod_heads_49  r2 r x1) else (if inB x1 61 then (if (rMan r x1.toNatClampNeg) ≤ 0 then (B_Mod_heads_49  r2 r x1) else (bnd (f_Mod_crown r x1 (10000 + x1) 0) (fun q => B_Mod_heads_36  r2 q.2 x1))) else none)
theorem e_B_Mod_heads_13 {sc : Nat × (Nat → Int32)} {d : DS} {f : FS} {w : WS} {m : MS} {s : SS} {g : GS} {tl : List mn_E}  (r2 : RS → Int32 → Option (Unit × RS)) (hr2 : ∀ (r : RS) (x1 : Int32), Ev sc 4 62 0 0 M_Mod_heads 2 [(0, .ref 12), (1, .int x1)] [] (eLV :: (HD d (HF f (HW w (HM m (HS s (HG g (HR r tl)))))))) (mapR ouV (fun z => (eLV :: (HD d (HF f (HW w (HM m (HS s (HG g (HR z tl))))))))) (r2 r x1))) (r : RS) (x1 : Int32) (t0 : Int32) : Ev sc 4 62 0 0 M_Mod_heads 13 [(0, .ref 12), (1, .int x1)] [.int t0] (eLV :: (HD d (HF f (HW w (HM m (HS s (HG g (HR r tl)))))))) (mapR ouV (fun z => (eLV :: (HD d (HF f (HW w (HM m (HS s (HG g (HR z tl))))))))) (B_Mod_heads_13 r2 r x1 t0)) := by
  unfold B_Mod_heads_13
  refine ev_if_ge (tgt := 49) d_Mod_heads_13 rfl (fun h1 => ?_) (fun h1 => ?_)
  · rw [if_pos h1]
    exact ev_pick [0, 1] rfl (e_B_Mod_heads_49   r2 hr2 r x1)
  · rw [if_neg h1]
    refine ev_aload_n d_Mod_heads_16 rfl rfl ?_
    refine ev_get (v := .ref 25) gi_Mod (ci := 6) rfl rfl 25 (by decide) gw_1026 rfl d_Mod_heads_17 ?_
    refine ev_iload_n d_Mod_heads_20 rfl rfl ?_
    refine ev_inB (fun h2 => ?_)
    refine ev_iaload rfl (inB_of h2) d_Mod_heads_21 ?_
    refine ev_if_le (tgt := 49) d_Mod_heads_22 rfl (fun h3 => ?_) (fun h3 => ?_)
    · rw [if_pos h3]
      exact ev_pick [0, 1] rfl (e_B_Mod_heads_49   r2 hr2 r x1)
    · rw [if_neg h3]
      refine ev_aload_n d_Mod_heads_25 rfl rfl ?_
      refine ev_iload_n d_Mod_heads_26 rfl rfl ?_
      refine ev_sipush (v := 10000) d_Mod_heads_27 rfl ?_
      refine ev_iload_n d_Mod_heads_30 rfl rfl ?_
      refine ev_iadd d_Mod_heads_31 ?_
      refine ev_iconst (v := 0) d_Mod_heads_32 rfl ?_
      refine ev_callB (rc := (f_Mod_crown r x1 (10000 + x1) 0)) (ou := ouV) (Hs := (fun z => (eLV :: (HD d (HF f (HW w (HM m (HS s (HG g (HR z tl)))))))))) (inv_V (q := 12) (av := [.int x1, .int (10000 + x1), .int 0]) (rest := []) rfl (ci := 6) rfl d_Mod_heads_33 gw_1287 gw_1289 gw_87 mw_Mod_crown nh_Mod_crown pn_Mod_crown rfl) d_Mod_heads_33 pl_Mod_crown (Nat.le_of_ble_eq_true rfl) (Nat.le_of_ble_eq_true rfl) (Nat.le_of_ble_eq_true rfl) (e_f_Mod_crown (tl := tl) (d := d) (f := f) (w := w) (m := m) (s := s) (g := g)  r x1 (10000 + x1) 0) (fun _ => (len1 (lenHD (lenHF (lenHW (lenHM (lenHS (lenHG (lenHR rfl))))))))) (fun v z h4 => ⟨_, rfl, ?_⟩)
      exact ev_pick [0, 1] rfl (e_B_Mod_heads_36   r2 hr2 z x1)
def L_Mod_heads_2   : Nat → RS → Int32 → Option (Unit × RS)
  | 0, _, _ => none
  | n + 1, r, x1 =>
  if 61 ≤ x1 then (L_Mod_heads_57   1000 r 1) else (bnd (f_Mod_headOf r x1) (fun q => B_Mod_heads_13  (L_Mod_heads_2 n) r x1 q.1))
theorem e_L_Mod_heads_2 {sc : Nat × (Nat → Int32)} {d : DS} {f : FS} {w : WS} {m : MS} {s : SS} {g : GS} {tl : List mn_E}    : ∀ (n : Nat) (r : RS) (x1 : Int32), Ev sc 4 62 0 0 M_Mod_heads 2 [(0, .ref 12), (1, .int x1)] [] (eLV :: (HD d (HF f (HW w (HM m (HS s (HG g (HR r tl)))))))) (mapR ouV (fun z => (eLV :: (HD d (HF f (HW w (HM m (HS s (HG g (HR z tl))))))))) (L_Mod_heads_2   n r x1)) := by
  intro n
  induction n with
  | zero => intro r x1; exact ev_none
  | succ n ih =>
    intro r x1
    rw [L_Mod_heads_2]
    refine ev_iload_n d_Mod_heads_2 rfl rfl ?_
    refine ev_bipush (v := 61) d_Mod_heads_3 rfl ?_
    refine ev_icmp_ge (tgt := 55) d_Mod_heads_5 rfl (fun h1 => ?_) (fun h1 => ?_)
    · rw [if_pos h1]
      refine ev_iconst (v := 1) d_Mod_heads_55 rfl ?_
      refine ev_istore_n d_Mod_heads_56 rfl (by decide) rfl ?_
      exact ev_pick [1, 0] rfl (e_L_Mod_heads_57     1000 r 1)
    · rw [if_neg h1]
      refine ev_aload_n d_Mod_heads_8 rfl rfl ?_
      refine ev_iload_n d_Mod_heads_9 rfl rfl ?_
      refine ev_callB (rc := (f_Mod_headOf r x1)) (ou := ouI) (Hs := (fun z => (eLV :: (HD d (HF f (HW w (HM m (HS s (HG g (HR r tl)))))))))) (inv_V (q := 12) (av := [.int x1]) (rest := []) rfl (ci := 6) rfl d_Mod_heads_10 gw_1283 gw_1285 gw_86 mw_Mod_headOf nh_Mod_headOf pn_Mod_headOf rfl) d_Mod_heads_10 pl_Mod_headOf (Nat.le_of_ble_eq_true rfl) (Nat.le_of_ble_eq_true rfl) (Nat.le_of_ble_eq_true rfl) (e_f_Mod_headOf (tl := tl) (d := d) (f := f) (w := w) (m := m) (s := s) (g := g)  r x1) (fun _ => (len1 (lenHD (lenHF (lenHW (lenHM (lenHS (lenHG (lenHR rfl))))))))) (fun v z h2 => ⟨_, rfl, ?_⟩)
      exact ev_pick [0, 1] rfl (e_B_Mod_heads_13   (L_Mod_heads_2 n) ih r x1 v)
def f_Mod_heads   (r : RS) : Option (Unit × RS) :=
  L_Mod_heads_2   1000 r 3
theorem e_f_Mod_heads {sc : Nat × (Nat → Int32)} {d : DS} {f : FS} {w : WS} {m : MS} {s : SS} {g : GS} {tl : List mn_E}    (r : RS) : Ev sc 4 62 0 0 M_Mod_heads 0 [(0, .ref 12)] [] (eLV :: (HD d (HF f (HW w (HM m (HS s (HG g (HR r tl)))))))) (mapR ouV (fun z => (eLV :: (HD d (HF f (HW w (HM m (HS s (HG g (HR z tl))))))))) (f_Mod_heads r)) := by
  unfold f_Mod_heads
  refine ev_iconst (v := 3) d_Mod_heads_0 rfl ?_
  refine ev_istore_n d_Mod_heads_1 rfl (by decide) rfl ?_
  exact ev_pick [1, 0] rfl (e_L_Mod_heads_2     1000 r 3)
def B_Mod_place_52   (r : RS) (x5 : Int32) (t0 : Int32) (t1 : Int32) : Option (Int32 × Unit) :=
  some (((t0 * t1) + (4 * x5)), ())
theorem e_B_Mod_place_52 {sc : Nat × (Nat → Int32)} {d : DS} {f : FS} {w : WS} {m : MS} {s : SS} {g : GS} {tl : List mn_E}    (r : RS) (x5 : Int32) (t0 : Int32) (t1 : Int32) : Ev sc 1 16 0 0 M_Mod_place 52 [(5, .int x5)] [.int t1, .int t0] (eLV :: (HD d (HF f (HW w (HM m (HS s (HG g (HR r tl)))))))) (mapR ouI (fun z => (eLV :: (HD d (HF f (HW w (HM m (HS s (HG g (HR r tl))))))))) (B_Mod_place_52 r x5 t0 t1)) := by
  unfold B_Mod_place_52
  refine ev_imul d_Mod_place_52 ?_
  refine ev_iconst (v := 4) d_Mod_place_53 rfl ?_
  refine ev_iload d_Mod_place_54 rfl ?_
  refine ev_imul d_Mod_place_56 ?_
  refine ev_iadd d_Mod_place_57 ?_
  exact ev_zret (ty := .int) rfl rfl d_Mod_place_58
def B_Mod_place_32  (r5 : RS → Int32 → Int32 → Int32 → Int32 → Option (Int32 × Unit)) (r19 : RS → Int32 → Int32 → Int32 → Int32 → Int32 → Option (Int32 × Unit)) (r : RS) (x1 : Int32) (x2 : Int32) (x3 : Int32) (x4 : Int32) (x5 : Int32) (t0 : Int32) (t2 : Int32) : Option (Int32 × Unit) :=
  if inB t2 40 then (if ((rUse r t2.toNatClampNeg) / 4) ≤ t0 then (r5 r x1 x2 x3 (x4 + 1)) else (if ¬ x3 = x2 then (r19 r x1 x2 (x3 + 1) x4 (x5 + 1)) else (bnd (f_Mod_pageAt r x1 x4) (fun q => B_Mod_place_52   r x5 8 q.1)))) else none
theorem e_B_Mod_place_32 {sc : Nat × (Nat → Int32)} {d : DS} {f : FS} {w : WS} {m : MS} {s : SS} {g : GS} {tl : List mn_E}  (r5 : RS → Int32 → Int32 → Int32 → Int32 → Option (Int32 × Unit)) (r19 : RS → Int32 → Int32 → Int32 → Int32 → Int32 → Option (Int32 × Unit)) (hr5 : ∀ (r : RS) (x1 : Int32) (x2 : Int32) (x3 : Int32) (x4 : Int32), Ev sc 1 16 0 0 M_Mod_place 5 [(0, .ref 12), (1, .int x1), (2, .int x2), (3, .int x3), (4, .int x4)] [] (eLV :: (HD d (HF f (HW w (HM m (HS s (HG g (HR r tl)))))))) (mapR ouI (fun z => (eLV :: (HD d (HF f (HW w (HM m (HS s (HG g (HR r tl))))))))) (r5 r x1 x2 x3 x4))) (hr19 : ∀ (r : RS) (x1 : Int32) (x2 : Int32) (x3 : Int32) (x4 : Int32) (x5 : Int32), Ev sc 1 16 0 0 M_Mod_place 19 [(0, .ref 12), (1, .int x1), (2, .int x2), (3, .int x3), (4, .int x4), (5, .int x5)] [] (eLV :: (HD d (HF f (HW w (HM m (HS s (HG g (HR r tl)))))))) (mapR ouI (fun z => (eLV :: (HD d (HF f (HW w (HM m (HS s (HG g (HR r tl))))))))) (r19 r x1 x2 x3 x4 x5))) (r : RS) (x1 : Int32) (x2 : Int32) (x3 : Int32) (x4 : Int32) (x5 : Int32) (t0 : Int32) (t2 : Int32) : Ev sc 1 16 0 0 M_Mod_place 32 [(0, .ref 12), (1, .int x1), (2, .int x2), (3, .int x3), (4, .int x4), (5, .int x5)] [.int t2, .ref 15, .int t0] (eLV :: (HD d (HF f (HW w (HM m (HS s (HG g (HR r tl)))))))) (mapR ouI (fun z => (eLV :: (HD d (HF f (HW w (HM m (HS s (HG g (HR r tl))))))))) (B_Mod_place_32 r5 r19 r x1 x2 x3 x4 x5 t0 t2)) := by
  unfold B_Mod_place_32
  refine ev_inB (fun h1 => ?_)
  refine ev_iaload rfl (inB_of h1) d_Mod_place_32 ?_
  refine ev_iconst (v := 4) d_Mod_place_33 rfl ?_
  refine ev_idiv d_Mod_place_34 (by decide) ?_
  refine ev_icmp_ge (tgt := 69) d_Mod_place_35 rfl (fun h2 => ?_) (fun h2 => ?_)
  · rw [if_pos h2]
    refine ev_iinc (v := (x4 + 1)) d_Mod_place_69 rfl rfl (by decide) rfl ?_
    refine ev_goto (tgt := 5) d_Mod_place_72 rfl ?_
    exact ev_pick [1, 2, 3, 4, 0] rfl (hr5 r x1 x2 x3 (x4 + 1))
  · rw [if_neg h2]
    refine ev_iload_n d_Mod_place_38 rfl rfl ?_
    refine ev_iload_n d_Mod_place_39 rfl rfl ?_
    refine ev_icmp_ne (tgt := 59) d_Mod_place_40 rfl (fun h3 => ?_) (fun h3 => ?_)
    · rw [if_pos h3]
      refine ev_iload_n d_Mod_place_59 rfl rfl ?_
      refine ev_iconst (v := 1) d_Mod_place_60 rfl ?_
      refine ev_iadd d_Mod_place_61 ?_
      refine ev_istore_n d_Mod_place_62 rfl (by decide) rfl ?_
      refine ev_iinc (v := (x5 + 1)) d_Mod_place_63 rfl rfl (by decide) rfl ?_
      refine ev_goto (tgt := 19) d_Mod_place_66 rfl ?_
      exact ev_pick [2, 3, 4, 1, 5, 0] rfl (hr19 r x1 x2 (x3 + 1) x4 (x5 + 1))
    · rw [if_neg h3]
      refine ev_bipush (v := 8) d_Mod_place_43 rfl ?_
      refine ev_aload_n d_Mod_place_45 rfl rfl ?_
      refine ev_iload_n d_Mod_place_46 rfl rfl ?_
      refine ev_iload d_Mod_place_47 rfl ?_
      refine ev_callB (rc := (f_Mod_pageAt r x1 x4)) (ou := ouI) (Hs := (fun z => (eLV :: (HD d (HF f (HW w (HM m (HS s (HG g (HR r tl)))))))))) (inv_V (q := 12) (av := [.int x1, .int x4]) (rest := [.int 8]) rfl (ci := 6) rfl d_Mod_place_49 gw_1267 gw_1269 gw_82 mw_Mod_pageAt nh_Mod_pageAt pn_Mod_pageAt rfl) d_Mod_place_49 pl_Mod_pageAt (Nat.le_of_ble_eq_true rfl) (Nat.le_of_ble_eq_true rfl) (Nat.le_of_ble_eq_true rfl) (e_f_Mod_pageAt (tl := tl) (d := d) (f := f) (w := w) (m := m) (s := s) (g := g)  r x1 x4) (fun _ => (len1 (lenHD (lenHF (lenHW (lenHM (lenHS (lenHG (lenHR rfl))))))))) (fun v z h4 => ⟨_, rfl, ?_⟩)
      exact ev_pick [5] rfl (e_B_Mod_place_52     r x5 8 v)
def L_Mod_place_19  (r5 : RS → Int32 → Int32 → Int32 → Int32 → Option (Int32 × Unit)) : Nat → RS → Int32 → Int32 → Int32 → Int32 → Int32 → Option (Int32 × Unit)
  | 0, _, _, _, _, _, _ => none
  | n + 1, r, x1, x2, x3, x4, x5 =>
  bnd (f_Mod_pageAt r x1 x4) (fun q => B_Mod_place_32  r5 (L_Mod_place_19 r5 n) r x1 x2 x3 x4 x5 x5 q.1)
theorem e_L_Mod_place_19 {sc : Nat × (Nat → Int32)} {d : DS} {f : FS} {w : WS} {m : MS} {s : SS} {g : GS} {tl : List mn_E}  (r5 : RS → Int32 → Int32 → Int32 → Int32 → Option (Int32 × Unit)) (hr5 : ∀ (r : RS) (x1 : Int32) (x2 : Int32) (x3 : Int32) (x4 : Int32), Ev sc 1 16 0 0 M_Mod_place 5 [(0, .ref 12), (1, .int x1), (2, .int x2), (3, .int x3), (4, .int x4)] [] (eLV :: (HD d (HF f (HW w (HM m (HS s (HG g (HR r tl)))))))) (mapR ouI (fun z => (eLV :: (HD d (HF f (HW w (HM m (HS s (HG g (HR r tl))))))))) (r5 r x1 x2 x3 x4))) : ∀ (n : Nat) (r : RS) (x1 : Int32) (x2 : Int32) (x3 : Int32) (x4 : Int32) (x5 : Int32), Ev sc 1 16 0 0 M_Mod_place 19 [(0, .ref 12), (1, .int x1), (2, .int x2), (3, .int x3), (4, .int x4), (5, .int x5)] [] (eLV :: (HD d (HF f (HW w (HM m (HS s (HG g (HR r tl)))))))) (mapR ouI (fun z => (eLV :: (HD d (HF f (HW w (HM m (HS s (HG g (HR r tl))))))))) (L_Mod_place_19  r5 n r x1 x2 x3 x4 x5)) := by
  intro n
  induction n with
  | zero => intro r x1 x2 x3 x4 x5; exact ev_none
  | succ n ih =>
    intro r x1 x2 x3 x4 x5
    rw [L_Mod_place_19]
    refine ev_iload d_Mod_place_19 rfl ?_
    refine ev_aload_n d_Mod_place_21 rfl rfl ?_
    refine ev_get (v := .ref 15) gi_Mod (ci := 6) rfl rfl 4 (by decide) gw_1005 rfl d_Mod_place_22 ?_
    refine ev_aload_n d_Mod_place_25 rfl rfl ?_
    refine ev_iload_n d_Mod_place_26 rfl rfl ?_
    refine ev_iload d_Mod_place_27 rfl ?_
    refine ev_callB (rc := (f_Mod_pageAt r x1 x4)) (ou := ouI) (Hs := (fun z => (eLV :: (HD d (HF f (HW w (HM m (HS s (HG g (HR r tl)))))))))) (inv_V (q := 12) (av := [.int x1, .int x4]) (rest := [.ref 15, .int x5]) rfl (ci := 6) rfl d_Mod_place_29 gw_1267 gw_1269 gw_82 mw_Mod_pageAt nh_Mod_pageAt pn_Mod_pageAt rfl) d_Mod_place_29 pl_Mod_pageAt (Nat.le_of_ble_eq_true rfl) (Nat.le_of_ble_eq_true rfl) (Nat.le_of_ble_eq_true rfl) (e_f_Mod_pageAt (tl := tl) (d := d) (f := f) (w := w) (m := m) (s := s) (g := g)  r x1 x4) (fun _ => (len1 (lenHD (lenHF (lenHW (lenHM (lenHS (lenHG (lenHR rfl))))))))) (fun v z h1 => ⟨_, rfl, ?_⟩)
    exact ev_pick [0, 1, 2, 3, 4, 5] rfl (e_B_Mod_place_32   r5 (L_Mod_place_19 r5 n) hr5 ih r x1 x2 x3 x4 x5 x5 v)
def L_Mod_place_5   : Nat → RS → Int32 → Int32 → Int32 → Int32 → Option (Int32 × Unit)
  | 0, _, _, _, _, _ => none
  | n + 1, r, x1, x2, x3, x4 =>
  if inB x1 61 then (if (rMan r x1.toNatClampNeg) < x4 then (some ((-1), ())) else (L_Mod_place_19  (L_Mod_place_5 n) 1000 r x1 x2 x3 x4 0)) else none
theorem e_L_Mod_place_5 {sc : Nat × (Nat → Int32)} {d : DS} {f : FS} {w : WS} {m : MS} {s : SS} {g : GS} {tl : List mn_E}    : ∀ (n : Nat) (r : RS) (x1 : Int32) (x2 : Int32) (x3 : Int32) (x4 : Int32), Ev sc 1 16 0 0 M_Mod_place 5 [(0, .ref 12), (1, .int x1), (2, .int x2), (3, .int x3), (4, .int x4)] [] (eLV :: (HD d (HF f (HW w (HM m (HS s (HG g (HR r tl)))))))) (mapR ouI (fun z => (eLV :: (HD d (HF f (HW w (HM m (HS s (HG g (HR r tl))))))))) (L_Mod_place_5   n r x1 x2 x3 x4)) := by
  intro n
  induction n with
  | zero => intro r x1 x2 x3 x4; exact ev_none
  | succ n ih =>
    intro r x1 x2 x3 x4
    rw [L_Mod_place_5]
    refine ev_iload d_Mod_place_5 rfl ?_
    refine ev_aload_n d_Mod_place_7 rfl rfl ?_
    refine ev_get (v := .ref 25) gi_Mod (ci := 6) rfl rfl 25 (by decide) gw_1026 rfl d_Mod_place_8 ?_
    refine ev_iload_n d_Mod_place_11 rfl rfl ?_
    refine ev_inB (fun h1 => ?_)
    refine ev_iaload rfl (inB_of h1) d_Mod_place_12 ?_
    refine ev_icmp_gt (tgt := 75) d_Mod_place_13 rfl (fun h2 => ?_) (fun h2 => ?_)
    · rw [if_pos h2]
      refine ev_iconst (v := -1) d_Mod_place_75 rfl ?_
      exact ev_zret (ty := .int) rfl rfl d_Mod_place_76
    · rw [if_neg h2]
      refine ev_iconst (v := 0) d_Mod_place_16 rfl ?_
      refine ev_istore d_Mod_place_17 (by decide) rfl ?_
      exact ev_pick [1, 2, 3, 4, 5, 0] rfl (e_L_Mod_place_19   (L_Mod_place_5 n) ih 1000 r x1 x2 x3 x4 0)
def f_Mod_place   (r : RS) (x1 : Int32) (x2 : Int32) : Option (Int32 × Unit) :=
  L_Mod_place_5   1000 r x1 x2 0 1
theorem e_f_Mod_place {sc : Nat × (Nat → Int32)} {d : DS} {f : FS} {w : WS} {m : MS} {s : SS} {g : GS} {tl : List mn_E}    (r : RS) (x1 : Int32) (x2 : Int32) : Ev sc 1 16 0 0 M_Mod_place 0 [(0, .ref 12), (1, .int x1), (2, .int x2)] [] (eLV :: (HD d (HF f (HW w (HM m (HS s (HG g (HR r tl)))))))) (mapR ouI (fun z => (eLV :: (HD d (HF f (HW w (HM m (HS s (HG g (HR r tl))))))))) (f_Mod_place r x1 x2)) := by
  unfold f_Mod_place
  refine ev_iconst (v := 0) d_Mod_place_0 rfl ?_
  refine ev_istore_n d_Mod_place_1 rfl (by decide) rfl ?_
  refine ev_iconst (v := 1) d_Mod_place_2 rfl ?_
  refine ev_istore d_Mod_place_3 (by decide) rfl ?_
  exact ev_pick [2, 3, 4, 1, 0] rfl (e_L_Mod_place_5     1000 r x1 x2 0 1)
def B_Mod_isThere_22   (r : RS) : Option (Int32 × Unit) :=
  some (0, ())
theorem e_B_Mod_isThere_22 {sc : Nat × (Nat → Int32)} {d : DS} {f : FS} {w : WS} {m : MS} {s : SS} {g : GS} {tl : List mn_E}    (r : RS) : Ev sc 1 14 0 0 M_Mod_isThere 22 [] [] (eLV :: (HD d (HF f (HW w (HM m (HS s (HG g (HR r tl)))))))) (mapR ouI (fun z => (eLV :: (HD d (HF f (HW w (HM m (HS s (HG g (HR r tl))))))))) (B_Mod_isThere_22 r)) := by
  unfold B_Mod_isThere_22
  refine ev_iconst (v := 0) d_Mod_isThere_22 rfl ?_
  exact ev_zret (ty := .boolean) rfl rfl d_Mod_isThere_23
def B_Mod_isThere_15   (r : RS) (t0 : Int32) : Option (Int32 × Unit) :=
  if t0 < 0 then (B_Mod_isThere_22   r) else (some (1, ()))
theorem e_B_Mod_isThere_15 {sc : Nat × (Nat → Int32)} {d : DS} {f : FS} {w : WS} {m : MS} {s : SS} {g : GS} {tl : List mn_E}    (r : RS) (t0 : Int32) : Ev sc 1 14 0 0 M_Mod_isThere 15 [] [.int t0] (eLV :: (HD d (HF f (HW w (HM m (HS s (HG g (HR r tl)))))))) (mapR ouI (fun z => (eLV :: (HD d (HF f (HW w (HM m (HS s (HG g (HR r tl))))))))) (B_Mod_isThere_15 r t0)) := by
  unfold B_Mod_isThere_15
  refine ev_if_lt (tgt := 22) d_Mod_isThere_15 rfl (fun h1 => ?_) (fun h1 => ?_)
  · rw [if_pos h1]
    exact ev_pick [] rfl (e_B_Mod_isThere_22     r)
  · rw [if_neg h1]
    refine ev_iconst (v := 1) d_Mod_isThere_18 rfl ?_
    refine ev_goto (tgt := 23) d_Mod_isThere_19 rfl ?_
    exact ev_zret (ty := .boolean) rfl rfl d_Mod_isThere_23
def f_Mod_isThere   (r : RS) (x1 : Int32) : Option (Int32 × Unit) :=
  if ((f_Mod_in x1 1 60).1) = 0 then (B_Mod_isThere_22   r) else (bnd (f_Mod_headOf r x1) (fun q => B_Mod_isThere_15   r q.1))
theorem e_f_Mod_isThere {sc : Nat × (Nat → Int32)} {d : DS} {f : FS} {w : WS} {m : MS} {s : SS} {g : GS} {tl : List mn_E}    (r : RS) (x1 : Int32) : Ev sc 1 14 0 0 M_Mod_isThere 0 [(0, .ref 12), (1, .int x1)] [] (eLV :: (HD d (HF f (HW w (HM m (HS s (HG g (HR r tl)))))))) (mapR ouI (fun z => (eLV :: (HD d (HF f (HW w (HM m (HS s (HG g (HR r tl))))))))) (f_Mod_isThere r x1)) := by
  unfold f_Mod_isThere
  refine ev_iload_n d_Mod_isThere_0 rfl rfl ?_
  refine ev_iconst (v := 1) d_Mod_isThere_1 rfl ?_
  refine ev_bipush (v := 60) d_Mod_isThere_2 rfl ?_
  refine ev_callr (Mc := M_Mod_in) (v := some (.int ((f_Mod_in x1 1 60).1))) (h1 := (eLV :: (HD d (HF f (HW w (HM m (HS s (HG g (HR r tl))))))))) (k2 := 0) (n2 := 0) (inv_S (av := [.int x1, .int 1, .int 60]) (rest := []) d_Mod_isThere_4 gw_1108 gw_1109 gw_108 mw_Mod_in nh_Mod_in pn_Mod_in rfl) d_Mod_isThere_4 pl_Mod_in (Nat.le_of_ble_eq_true rfl) (Nat.le_of_ble_eq_true rfl) (Nat.le_of_ble_eq_true rfl) rfl rfl (e_f_Mod_in (hh := (eLV :: (HD d (HF f (HW w (HM m (HS s (HG g (HR r tl)))))))))   x1 1 60) (Or.inl (len1 (lenHD (lenHF (lenHW (lenHM (lenHS (lenHG (lenHR rfl))))))))) ?_
  refine ev_if_eq (tgt := 22) d_Mod_isThere_7 rfl (fun h1 => ?_) (fun h1 => ?_)
  · rw [if_pos h1]
    exact ev_pick [] rfl (e_B_Mod_isThere_22     r)
  · rw [if_neg h1]
    refine ev_aload_n d_Mod_isThere_10 rfl rfl ?_
    refine ev_iload_n d_Mod_isThere_11 rfl rfl ?_
    refine ev_callB (rc := (f_Mod_headOf r x1)) (ou := ouI) (Hs := (fun z => (eLV :: (HD d (HF f (HW w (HM m (HS s (HG g (HR r tl)))))))))) (inv_V (q := 12) (av := [.int x1]) (rest := []) rfl (ci := 6) rfl d_Mod_isThere_12 gw_1283 gw_1285 gw_86 mw_Mod_headOf nh_Mod_headOf pn_Mod_headOf rfl) d_Mod_isThere_12 pl_Mod_headOf (Nat.le_of_ble_eq_true rfl) (Nat.le_of_ble_eq_true rfl) (Nat.le_of_ble_eq_true rfl) (e_f_Mod_headOf (tl := tl) (d := d) (f := f) (w := w) (m := m) (s := s) (g := g)  r x1) (fun _ => (len1 (lenHD (lenHF (lenHW (lenHM (lenHS (lenHG (lenHR rfl))))))))) (fun v z h2 => ⟨_, rfl, ?_⟩)
    exact ev_pick [] rfl (e_B_Mod_isThere_15     r v)
def B_Mod_walk_226  (r18 : RS → Int32 → Int32 → Option (Unit × RS)) (r : RS) (x2 : Int32) (x3 : Int32) : Option (Unit × RS) :=
  r18 r x2 (x3 + 1)
theorem e_B_Mod_walk_226 {sc : Nat × (Nat → Int32)} {d : DS} {f : FS} {w : WS} {m : MS} {s : SS} {g : GS} {tl : List mn_E}  (r18 : RS → Int32 → Int32 → Option (Unit × RS)) (hr18 : ∀ (r : RS) (x2 : Int32) (x3 : Int32), Ev sc 2 33 0 0 M_Mod_walk 18 [(0, .ref 12), (2, .int x2), (3, .int x3)] [] (eLV :: (HD d (HF f (HW w (HM m (HS s (HG g (HR r tl)))))))) (mapR ouV (fun z => (eLV :: (HD d (HF f (HW w (HM m (HS s (HG g (HR z tl))))))))) (r18 r x2 x3))) (r : RS) (x2 : Int32) (x3 : Int32) : Ev sc 2 33 0 0 M_Mod_walk 226 [(0, .ref 12), (2, .int x2), (3, .int x3)] [] (eLV :: (HD d (HF f (HW w (HM m (HS s (HG g (HR r tl)))))))) (mapR ouV (fun z => (eLV :: (HD d (HF f (HW w (HM m (HS s (HG g (HR z tl))))))))) (B_Mod_walk_226 r18 r x2 x3)) := by
  unfold B_Mod_walk_226
  refine ev_iinc (v := (x3 + 1)) d_Mod_walk_226 rfl rfl (by decide) rfl ?_
  refine ev_goto (tgt := 18) d_Mod_walk_229 rfl ?_
  exact ev_pick [1, 2, 0] rfl (hr18 r x2 (x3 + 1))
def B_Mod_walk_168  (r18 : RS → Int32 → Int32 → Option (Unit × RS)) (r : RS) (x2 : Int32) (x3 : Int32) : Option (Unit × RS) :=
  B_Mod_walk_226  r18 r x2 x3
theorem e_B_Mod_walk_168 {sc : Nat × (Nat → Int32)} {d : DS} {f : FS} {w : WS} {m : MS} {s : SS} {g : GS} {tl : List mn_E}  (r18 : RS → Int32 → Int32 → Option (Unit × RS)) (hr18 : ∀ (r : RS) (x2 : Int32) (x3 : Int32), Ev sc 2 33 0 0 M_Mod_walk 18 [(0, .ref 12), (2, .int x2), (3, .int x3)] [] (eLV :: (HD d (HF f (HW w (HM m (HS s (HG g (HR r tl)))))))) (mapR ouV (fun z => (eLV :: (HD d (HF f (HW w (HM m (HS s (HG g (HR z tl))))))))) (r18 r x2 x3))) (r : RS) (x2 : Int32) (x3 : Int32) : Ev sc 2 33 0 0 M_Mod_walk 168 [(0, .ref 12), (2, .int x2), (3, .int x3)] [] (eLV :: (HD d (HF f (HW w (HM m (HS s (HG g (HR r tl)))))))) (mapR ouV (fun z => (eLV :: (HD d (HF f (HW w (HM m (HS s (HG g (HR z tl))))))))) (B_Mod_walk_168 r18 r x2 x3)) := by
  unfold B_Mod_walk_168
  refine ev_goto (tgt := 226) d_Mod_walk_168 rfl ?_
  exact ev_pick [0, 1, 2] rfl (e_B_Mod_walk_226   r18 hr18 r x2 x3)
def B_Mod_walk_222  (r18 : RS → Int32 → Int32 → Option (Unit × RS)) (r : RS) (x2 : Int32) (x3 : Int32) : Option (Unit × RS) :=
  B_Mod_walk_226  r18 r (x2 + 1) x3
theorem e_B_Mod_walk_222 {sc : Nat × (Nat → Int32)} {d : DS} {f : FS} {w : WS} {m : MS} {s : SS} {g : GS} {tl : List mn_E}  (r18 : RS → Int32 → Int32 → Option (Unit × RS)) (hr18 : ∀ (r : RS) (x2 : Int32) (x3 : Int32), Ev sc 2 33 0 0 M_Mod_walk 18 [(0, .ref 12), (2, .int x2), (3, .int x3)] [] (eLV :: (HD d (HF f (HW w (HM m (HS s (HG g (HR r tl)))))))) (mapR ouV (fun z => (eLV :: (HD d (HF f (HW w (HM m (HS s (HG g (HR z tl))))))))) (r18 r x2 x3))) (r : RS) (x2 : Int32) (x3 : Int32) : Ev sc 2 33 0 0 M_Mod_walk 222 [(0, .ref 12), (2, .int x2), (3, .int x3)] [] (eLV :: (HD d (HF f (HW w (HM m (HS s (HG g (HR r tl)))))))) (mapR ouV (fun z => (eLV :: (HD d (HF f (HW w (HM m (HS s (HG g (HR z tl))))))))) (B_Mod_walk_222 r18 r x2 x3)) := by
  unfold B_Mod_walk_222
  refine ev_iload_n d_Mod_walk_222 rfl rfl ?_
  refine ev_iconst (v := 1) d_Mod_walk_223 rfl ?_
  refine ev_iadd d_Mod_walk_224 ?_
  refine ev_istore_n d_Mod_walk_225 rfl (by decide) rfl ?_
  exact ev_pick [1, 0, 2] rfl (e_B_Mod_walk_226   r18 hr18 r (x2 + 1) x3)
def B_Mod_walk_215  (r18 : RS → Int32 → Int32 → Option (Unit × RS)) (r : RS) (x2 : Int32) (x3 : Int32) : Option (Unit × RS) :=
  if inB x2 61 then (B_Mod_walk_222  r18 (rSRch r (upd (rRch r) x2.toNatClampNeg 0)) x2 x3) else none
theorem e_B_Mod_walk_215 {sc : Nat × (Nat → Int32)} {d : DS} {f : FS} {w : WS} {m : MS} {s : SS} {g : GS} {tl : List mn_E}  (r18 : RS → Int32 → Int32 → Option (Unit × RS)) (hr18 : ∀ (r : RS) (x2 : Int32) (x3 : Int32), Ev sc 2 33 0 0 M_Mod_walk 18 [(0, .ref 12), (2, .int x2), (3, .int x3)] [] (eLV :: (HD d (HF f (HW w (HM m (HS s (HG g (HR r tl)))))))) (mapR ouV (fun z => (eLV :: (HD d (HF f (HW w (HM m (HS s (HG g (HR z tl))))))))) (r18 r x2 x3))) (r : RS) (x2 : Int32) (x3 : Int32) : Ev sc 2 33 0 0 M_Mod_walk 215 [(0, .ref 12), (2, .int x2), (3, .int x3)] [] (eLV :: (HD d (HF f (HW w (HM m (HS s (HG g (HR r tl)))))))) (mapR ouV (fun z => (eLV :: (HD d (HF f (HW w (HM m (HS s (HG g (HR z tl))))))))) (B_Mod_walk_215 r18 r x2 x3)) := by
  unfold B_Mod_walk_215
  refine ev_aload_n d_Mod_walk_215 rfl rfl ?_
  refine ev_get (v := .ref 28) gi_Mod (ci := 6) rfl rfl 28 (by decide) gw_1029 rfl d_Mod_walk_216 ?_
  refine ev_iload_n d_Mod_walk_219 rfl rfl ?_
  refine ev_iconst (v := 0) d_Mod_walk_220 rfl ?_
  refine ev_inB (fun h1 => ?_)
  refine ev_iastore (h2 := (eLV :: (HD d (HF f (HW w (HM m (HS s (HG g (HR (rSRch r (upd (rRch r) x2.toNatClampNeg 0)) tl))))))))) rfl (inB_of h1) (hs_Rch d f w m s g r _ tl) d_Mod_walk_221 ?_
  exact ev_pick [0, 1, 2] rfl (e_B_Mod_walk_222   r18 hr18 (rSRch r (upd (rRch r) x2.toNatClampNeg 0)) x2 x3)
def B_Mod_walk_204  (r18 : RS → Int32 → Int32 → Option (Unit × RS)) (r : RS) (x2 : Int32) (x3 : Int32) (x5 : Int32) (t0 : Int32) : Option (Unit × RS) :=
  if t0 = 0 then (B_Mod_walk_226  r18 r x2 x3) else (if inB x2 61 then (B_Mod_walk_215  r18 (rSWal r (upd (rWal r) x2.toNatClampNeg x5)) x2 x3) else none)
theorem e_B_Mod_walk_204 {sc : Nat × (Nat → Int32)} {d : DS} {f : FS} {w : WS} {m : MS} {s : SS} {g : GS} {tl : List mn_E}  (r18 : RS → Int32 → Int32 → Option (Unit × RS)) (hr18 : ∀ (r : RS) (x2 : Int32) (x3 : Int32), Ev sc 2 33 0 0 M_Mod_walk 18 [(0, .ref 12), (2, .int x2), (3, .int x3)] [] (eLV :: (HD d (HF f (HW w (HM m (HS s (HG g (HR r tl)))))))) (mapR ouV (fun z => (eLV :: (HD d (HF f (HW w (HM m (HS s (HG g (HR z tl))))))))) (r18 r x2 x3))) (r : RS) (x2 : Int32) (x3 : Int32) (x5 : Int32) (t0 : Int32) : Ev sc 2 33 0 0 M_Mod_walk 204 [(0, .ref 12), (2, .int x2), (3, .int x3), (5, .int x5)] [.int t0] (eLV :: (HD d (HF f (HW w (HM m (HS s (HG g (HR r tl)))))))) (mapR ouV (fun z => (eLV :: (HD d (HF f (HW w (HM m (HS s (HG g (HR z tl))))))))) (B_Mod_walk_204 r18 r x2 x3 x5 t0)) := by
  unfold B_Mod_walk_204
  refine ev_if_eq (tgt := 226) d_Mod_walk_204 rfl (fun h1 => ?_) (fun h1 => ?_)
  · rw [if_pos h1]
    exact ev_pick [0, 1, 2] rfl (e_B_Mod_walk_226   r18 hr18 r x2 x3)
  · rw [if_neg h1]
    refine ev_aload_n d_Mod_walk_207 rfl rfl ?_
    refine ev_get (v := .ref 27) gi_Mod (ci := 6) rfl rfl 27 (by decide) gw_1028 rfl d_Mod_walk_208 ?_
    refine ev_iload_n d_Mod_walk_211 rfl rfl ?_
    refine ev_iload d_Mod_walk_212 rfl ?_
    refine ev_inB (fun h2 => ?_)
    refine ev_iastore (h2 := (eLV :: (HD d (HF f (HW w (HM m (HS s (HG g (HR (rSWal r (upd (rWal r) x2.toNatClampNeg x5)) tl))))))))) rfl (inB_of h2) (hs_Wal d f w m s g r _ tl) d_Mod_walk_214 ?_
    exact ev_pick [0, 1, 2] rfl (e_B_Mod_walk_215   r18 hr18 (rSWal r (upd (rWal r) x2.toNatClampNeg x5)) x2 x3)
def B_Mod_walk_201  (r18 : RS → Int32 → Int32 → Option (Unit × RS)) (r : RS) (x2 : Int32) (x3 : Int32) (x5 : Int32) (t1 : Int32) : Option (Unit × RS) :=
  bnd (f_Mod_isDirectory r t1) (fun q => B_Mod_walk_204  r18 r x2 x3 x5 q.1)
theorem e_B_Mod_walk_201 {sc : Nat × (Nat → Int32)} {d : DS} {f : FS} {w : WS} {m : MS} {s : SS} {g : GS} {tl : List mn_E}  (r18 : RS → Int32 → Int32 → Option (Unit × RS)) (hr18 : ∀ (r : RS) (x2 : Int32) (x3 : Int32), Ev sc 2 33 0 0 M_Mod_walk 18 [(0, .ref 12), (2, .int x2), (3, .int x3)] [] (eLV :: (HD d (HF f (HW w (HM m (HS s (HG g (HR r tl)))))))) (mapR ouV (fun z => (eLV :: (HD d (HF f (HW w (HM m (HS s (HG g (HR z tl))))))))) (r18 r x2 x3))) (r : RS) (x2 : Int32) (x3 : Int32) (x5 : Int32) (t1 : Int32) : Ev sc 2 33 0 0 M_Mod_walk 201 [(0, .ref 12), (2, .int x2), (3, .int x3), (5, .int x5)] [.int t1, .ref 12] (eLV :: (HD d (HF f (HW w (HM m (HS s (HG g (HR r tl)))))))) (mapR ouV (fun z => (eLV :: (HD d (HF f (HW w (HM m (HS s (HG g (HR z tl))))))))) (B_Mod_walk_201 r18 r x2 x3 x5 t1)) := by
  unfold B_Mod_walk_201
  refine ev_callB (rc := (f_Mod_isDirectory r t1)) (ou := ouI) (Hs := (fun z => (eLV :: (HD d (HF f (HW w (HM m (HS s (HG g (HR r tl)))))))))) (inv_V (q := 12) (av := [.int t1]) (rest := []) rfl (ci := 6) rfl d_Mod_walk_201 gw_1123 gw_1125 gw_54 mw_Mod_isDirectory nh_Mod_isDirectory pn_Mod_isDirectory rfl) d_Mod_walk_201 pl_Mod_isDirectory (Nat.le_of_ble_eq_true rfl) (Nat.le_of_ble_eq_true rfl) (Nat.le_of_ble_eq_true rfl) (e_f_Mod_isDirectory (tl := tl) (d := d) (f := f) (w := w) (m := m) (s := s) (g := g)  r t1) (fun _ => (len1 (lenHD (lenHF (lenHW (lenHM (lenHS (lenHG (lenHR rfl))))))))) (fun v z h1 => ⟨_, rfl, ?_⟩)
  exact ev_pick [0, 1, 2, 3] rfl (e_B_Mod_walk_204   r18 hr18 r x2 x3 x5 v)
def B_Mod_walk_194  (r18 : RS → Int32 → Int32 → Option (Unit × RS)) (r : RS) (x2 : Int32) (x3 : Int32) (x5 : Int32) : Option (Unit × RS) :=
  bnd (f_Mod_headOf r x5) (fun q => B_Mod_walk_201  r18 r x2 x3 x5 q.1)
theorem e_B_Mod_walk_194 {sc : Nat × (Nat → Int32)} {d : DS} {f : FS} {w : WS} {m : MS} {s : SS} {g : GS} {tl : List mn_E}  (r18 : RS → Int32 → Int32 → Option (Unit × RS)) (hr18 : ∀ (r : RS) (x2 : Int32) (x3 : Int32), Ev sc 2 33 0 0 M_Mod_walk 18 [(0, .ref 12), (2, .int x2), (3, .int x3)] [] (eLV :: (HD d (HF f (HW w (HM m (HS s (HG g (HR r tl)))))))) (mapR ouV (fun z => (eLV :: (HD d (HF f (HW w (HM m (HS s (HG g (HR z tl))))))))) (r18 r x2 x3))) (r : RS) (x2 : Int32) (x3 : Int32) (x5 : Int32) : Ev sc 2 33 0 0 M_Mod_walk 194 [(0, .ref 12), (2, .int x2), (3, .int x3), (5, .int x5)] [] (eLV :: (HD d (HF f (HW w (HM m (HS s (HG g (HR r tl)))))))) (mapR ouV (fun z => (eLV :: (HD d (HF f (HW w (HM m (HS s (HG g (HR z tl))))))))) (B_Mod_walk_194 r18 r x2 x3 x5)) := by
  unfold B_Mod_walk_194
  refine ev_aload_n d_Mod_walk_194 rfl rfl ?_
  refine ev_aload_n d_Mod_walk_195 rfl rfl ?_
  refine ev_iload d_Mod_walk_196 rfl ?_
  refine ev_callB (rc := (f_Mod_headOf r x5)) (ou := ouI) (Hs := (fun z => (eLV :: (HD d (HF f (HW w (HM m (HS s (HG g (HR r tl)))))))))) (inv_V (q := 12) (av := [.int x5]) (rest := [.ref 12]) rfl (ci := 6) rfl d_Mod_walk_198 gw_1283 gw_1285 gw_86 mw_Mod_headOf nh_Mod_headOf pn_Mod_headOf rfl) d_Mod_walk_198 pl_Mod_headOf (Nat.le_of_ble_eq_true rfl) (Nat.le_of_ble_eq_true rfl) (Nat.le_of_ble_eq_true rfl) (e_f_Mod_headOf (tl := tl) (d := d) (f := f) (w := w) (m := m) (s := s) (g := g)  r x5) (fun _ => (len1 (lenHD (lenHF (lenHW (lenHM (lenHS (lenHG (lenHR rfl))))))))) (fun v z h1 => ⟨_, rfl, ?_⟩)
  exact ev_pick [0, 1, 2, 3] rfl (e_B_Mod_walk_201   r18 hr18 r x2 x3 x5 v)
def B_Mod_walk_193  (r18 : RS → Int32 → Int32 → Option (Unit × RS)) (r : RS) (x2 : Int32) (x3 : Int32) (x5 : Int32) (t1 : Int32) (t2 : Int32) : Option (Unit × RS) :=
  if inB t1 320 then (B_Mod_walk_194  r18 (rSByt r (upd (rByt r) t1.toNatClampNeg t2)) x2 x3 x5) else none
theorem e_B_Mod_walk_193 {sc : Nat × (Nat → Int32)} {d : DS} {f : FS} {w : WS} {m : MS} {s : SS} {g : GS} {tl : List mn_E}  (r18 : RS → Int32 → Int32 → Option (Unit × RS)) (hr18 : ∀ (r : RS) (x2 : Int32) (x3 : Int32), Ev sc 2 33 0 0 M_Mod_walk 18 [(0, .ref 12), (2, .int x2), (3, .int x3)] [] (eLV :: (HD d (HF f (HW w (HM m (HS s (HG g (HR r tl)))))))) (mapR ouV (fun z => (eLV :: (HD d (HF f (HW w (HM m (HS s (HG g (HR z tl))))))))) (r18 r x2 x3))) (r : RS) (x2 : Int32) (x3 : Int32) (x5 : Int32) (t1 : Int32) (t2 : Int32) : Ev sc 2 33 0 0 M_Mod_walk 193 [(0, .ref 12), (2, .int x2), (3, .int x3), (5, .int x5)] [.int t2, .int t1, .ref 18] (eLV :: (HD d (HF f (HW w (HM m (HS s (HG g (HR r tl)))))))) (mapR ouV (fun z => (eLV :: (HD d (HF f (HW w (HM m (HS s (HG g (HR z tl))))))))) (B_Mod_walk_193 r18 r x2 x3 x5 t1 t2)) := by
  unfold B_Mod_walk_193
  refine ev_inB (fun h1 => ?_)
  refine ev_iastore (h2 := (eLV :: (HD d (HF f (HW w (HM m (HS s (HG g (HR (rSByt r (upd (rByt r) t1.toNatClampNeg t2)) tl))))))))) rfl (inB_of h1) rfl d_Mod_walk_193 ?_
  exact ev_pick [0, 1, 2, 3] rfl (e_B_Mod_walk_194   r18 hr18 (rSByt r (upd (rByt r) t1.toNatClampNeg t2)) x2 x3 x5)
def B_Mod_walk_179  (r18 : RS → Int32 → Int32 → Option (Unit × RS)) (r : RS) (x2 : Int32) (x3 : Int32) (x4 : Int32) (x5 : Int32) : Option (Unit × RS) :=
  bnd (f_Mod_headOf r x5) (fun q => B_Mod_walk_193  r18 r x2 x3 x5 (x4 + 3) q.1)
theorem e_B_Mod_walk_179 {sc : Nat × (Nat → Int32)} {d : DS} {f : FS} {w : WS} {m : MS} {s : SS} {g : GS} {tl : List mn_E}  (r18 : RS → Int32 → Int32 → Option (Unit × RS)) (hr18 : ∀ (r : RS) (x2 : Int32) (x3 : Int32), Ev sc 2 33 0 0 M_Mod_walk 18 [(0, .ref 12), (2, .int x2), (3, .int x3)] [] (eLV :: (HD d (HF f (HW w (HM m (HS s (HG g (HR r tl)))))))) (mapR ouV (fun z => (eLV :: (HD d (HF f (HW w (HM m (HS s (HG g (HR z tl))))))))) (r18 r x2 x3))) (r : RS) (x2 : Int32) (x3 : Int32) (x4 : Int32) (x5 : Int32) : Ev sc 2 33 0 0 M_Mod_walk 179 [(0, .ref 12), (2, .int x2), (3, .int x3), (4, .int x4), (5, .int x5)] [] (eLV :: (HD d (HF f (HW w (HM m (HS s (HG g (HR r tl)))))))) (mapR ouV (fun z => (eLV :: (HD d (HF f (HW w (HM m (HS s (HG g (HR z tl))))))))) (B_Mod_walk_179 r18 r x2 x3 x4 x5)) := by
  unfold B_Mod_walk_179
  refine ev_aload_n d_Mod_walk_179 rfl rfl ?_
  refine ev_get (v := .ref 18) gi_Mod (ci := 6) rfl rfl 7 (by decide) gw_1008 rfl d_Mod_walk_180 ?_
  refine ev_iload d_Mod_walk_183 rfl ?_
  refine ev_iconst (v := 3) d_Mod_walk_185 rfl ?_
  refine ev_iadd d_Mod_walk_186 ?_
  refine ev_aload_n d_Mod_walk_187 rfl rfl ?_
  refine ev_iload d_Mod_walk_188 rfl ?_
  refine ev_callB (rc := (f_Mod_headOf r x5)) (ou := ouI) (Hs := (fun z => (eLV :: (HD d (HF f (HW w (HM m (HS s (HG g (HR r tl)))))))))) (inv_V (q := 12) (av := [.int x5]) (rest := [.int (x4 + 3), .ref 18]) rfl (ci := 6) rfl d_Mod_walk_190 gw_1283 gw_1285 gw_86 mw_Mod_headOf nh_Mod_headOf pn_Mod_headOf rfl) d_Mod_walk_190 pl_Mod_headOf (Nat.le_of_ble_eq_true rfl) (Nat.le_of_ble_eq_true rfl) (Nat.le_of_ble_eq_true rfl) (e_f_Mod_headOf (tl := tl) (d := d) (f := f) (w := w) (m := m) (s := s) (g := g)  r x5) (fun _ => (len1 (lenHD (lenHF (lenHW (lenHM (lenHS (lenHG (lenHR rfl))))))))) (fun v z h1 => ⟨_, rfl, ?_⟩)
  exact ev_pick [0, 1, 2, 4] rfl (e_B_Mod_walk_193   r18 hr18 r x2 x3 x5 (x4 + 3) v)
def B_Mod_walk_140  (r18 : RS → Int32 → Int32 → Option (Unit × RS)) (r : RS) (x2 : Int32) (x3 : Int32) (x4 : Int32) (x5 : Int32) (t0 : Int32) : Option (Unit × RS) :=
  if 0 ≤ x4 then (if ¬ t0 = 0 then (if inB x5 61 then (B_Mod_walk_179  r18 (rSRea r (upd (rRea r) x5.toNatClampNeg (vp_nar .boolean 1))) x2 x3 x4 x5) else none) else (bnd (f_Mod_setEntry r x4 0 0 0) (fun q => B_Mod_walk_168  r18 q.2 x2 x3))) else (B_Mod_walk_226  r18 r (x2 - 1) x3)
theorem e_B_Mod_walk_140 {sc : Nat × (Nat → Int32)} {d : DS} {f : FS} {w : WS} {m : MS} {s : SS} {g : GS} {tl : List mn_E}  (r18 : RS → Int32 → Int32 → Option (Unit × RS)) (hr18 : ∀ (r : RS) (x2 : Int32) (x3 : Int32), Ev sc 2 33 0 0 M_Mod_walk 18 [(0, .ref 12), (2, .int x2), (3, .int x3)] [] (eLV :: (HD d (HF f (HW w (HM m (HS s (HG g (HR r tl)))))))) (mapR ouV (fun z => (eLV :: (HD d (HF f (HW w (HM m (HS s (HG g (HR z tl))))))))) (r18 r x2 x3))) (r : RS) (x2 : Int32) (x3 : Int32) (x4 : Int32) (x5 : Int32) (t0 : Int32) : Ev sc 2 33 0 0 M_Mod_walk 140 [(0, .ref 12), (2, .int x2), (3, .int x3), (4, .int x4), (5, .int x5)] [.int t0] (eLV :: (HD d (HF f (HW w (HM m (HS s (HG g (HR r tl)))))))) (mapR ouV (fun z => (eLV :: (HD d (HF f (HW w (HM m (HS s (HG g (HR z tl))))))))) (B_Mod_walk_140 r18 r x2 x3 x4 x5 t0)) := by
  unfold B_Mod_walk_140
  refine ev_istore d_Mod_walk_140 (by decide) rfl ?_
  refine ev_iload d_Mod_walk_142 rfl ?_
  refine ev_if_ge (tgt := 154) d_Mod_walk_144 rfl (fun h1 => ?_) (fun h1 => ?_)
  · rw [if_pos h1]
    refine ev_iload d_Mod_walk_154 rfl ?_
    refine ev_if_ne (tgt := 171) d_Mod_walk_156 rfl (fun h2 => ?_) (fun h2 => ?_)
    · rw [if_pos h2]
      refine ev_aload_n d_Mod_walk_171 rfl rfl ?_
      refine ev_get (v := .ref 26) gi_Mod (ci := 6) rfl rfl 26 (by decide) gw_1027 rfl d_Mod_walk_172 ?_
      refine ev_iload d_Mod_walk_175 rfl ?_
      refine ev_iconst (v := 1) d_Mod_walk_177 rfl ?_
      refine ev_inB (fun h3 => ?_)
      refine ev_zastore (h2 := (eLV :: (HD d (HF f (HW w (HM m (HS s (HG g (HR (rSRea r (upd (rRea r) x5.toNatClampNeg (vp_nar .boolean 1))) tl))))))))) rfl (inB_of h3) rfl d_Mod_walk_178 ?_
      exact ev_pick [1, 2, 3, 4, 5] rfl (e_B_Mod_walk_179   r18 hr18 (rSRea r (upd (rRea r) x5.toNatClampNeg (vp_nar .boolean 1))) x2 x3 x4 x5)
    · rw [if_neg h2]
      refine ev_aload_n d_Mod_walk_159 rfl rfl ?_
      refine ev_iload d_Mod_walk_160 rfl ?_
      refine ev_iconst (v := 0) d_Mod_walk_162 rfl ?_
      refine ev_iconst (v := 0) d_Mod_walk_163 rfl ?_
      refine ev_iconst (v := 0) d_Mod_walk_164 rfl ?_
      refine ev_callB (rc := (f_Mod_setEntry r x4 0 0 0)) (ou := ouV) (Hs := (fun z => (eLV :: (HD d (HF f (HW w (HM m (HS s (HG g (HR z tl)))))))))) (inv_V (q := 12) (av := [.int x4, .int 0, .int 0, .int 0]) (rest := []) rfl (ci := 6) rfl d_Mod_walk_165 gw_1175 gw_1177 gw_67 mw_Mod_setEntry nh_Mod_setEntry pn_Mod_setEntry rfl) d_Mod_walk_165 pl_Mod_setEntry (Nat.le_of_ble_eq_true rfl) (Nat.le_of_ble_eq_true rfl) (Nat.le_of_ble_eq_true rfl) (e_f_Mod_setEntry (tl := tl) (d := d) (f := f) (w := w) (m := m) (s := s) (g := g)  r x4 0 0 0) (fun _ => (len1 (lenHD (lenHF (lenHW (lenHM (lenHS (lenHG (lenHR rfl))))))))) (fun v z h4 => ⟨_, rfl, ?_⟩)
      exact ev_pick [1, 2, 3] rfl (e_B_Mod_walk_168   r18 hr18 z x2 x3)
  · rw [if_neg h1]
    refine ev_iload_n d_Mod_walk_147 rfl rfl ?_
    refine ev_iconst (v := 1) d_Mod_walk_148 rfl ?_
    refine ev_isub d_Mod_walk_149 ?_
    refine ev_istore_n d_Mod_walk_150 rfl (by decide) rfl ?_
    refine ev_goto (tgt := 226) d_Mod_walk_151 rfl ?_
    exact ev_pick [2, 0, 3] rfl (e_B_Mod_walk_226   r18 hr18 r (x2 - 1) x3)
def B_Mod_walk_139  (r18 : RS → Int32 → Int32 → Option (Unit × RS)) (r : RS) (x2 : Int32) (x3 : Int32) (x4 : Int32) (x5 : Int32) : Option (Unit × RS) :=
  B_Mod_walk_140  r18 r x2 x3 x4 x5 0
theorem e_B_Mod_walk_139 {sc : Nat × (Nat → Int32)} {d : DS} {f : FS} {w : WS} {m : MS} {s : SS} {g : GS} {tl : List mn_E}  (r18 : RS → Int32 → Int32 → Option (Unit × RS)) (hr18 : ∀ (r : RS) (x2 : Int32) (x3 : Int32), Ev sc 2 33 0 0 M_Mod_walk 18 [(0, .ref 12), (2, .int x2), (3, .int x3)] [] (eLV :: (HD d (HF f (HW w (HM m (HS s (HG g (HR r tl)))))))) (mapR ouV (fun z => (eLV :: (HD d (HF f (HW w (HM m (HS s (HG g (HR z tl))))))))) (r18 r x2 x3))) (r : RS) (x2 : Int32) (x3 : Int32) (x4 : Int32) (x5 : Int32) : Ev sc 2 33 0 0 M_Mod_walk 139 [(0, .ref 12), (2, .int x2), (3, .int x3), (4, .int x4), (5, .int x5)] [] (eLV :: (HD d (HF f (HW w (HM m (HS s (HG g (HR r tl)))))))) (mapR ouV (fun z => (eLV :: (HD d (HF f (HW w (HM m (HS s (HG g (HR z tl))))))))) (B_Mod_walk_139 r18 r x2 x3 x4 x5)) := by
  unfold B_Mod_walk_139
  refine ev_iconst (v := 0) d_Mod_walk_139 rfl ?_
  exact ev_pick [0, 1, 2, 3, 4] rfl (e_B_Mod_walk_140   r18 hr18 r x2 x3 x4 x5 0)
def B_Mod_walk_122  (r18 : RS → Int32 → Int32 → Option (Unit × RS)) (r : RS) (x2 : Int32) (x3 : Int32) (x4 : Int32) (x5 : Int32) (t0 : Int32) (t1 : Int32) : Option (Unit × RS) :=
  if ¬ t0 = t1 then (B_Mod_walk_139  r18 r x2 x3 x4 x5) else (if inB x5 61 then (if ¬ (rRea r x5.toNatClampNeg) = 0 then (B_Mod_walk_139  r18 r x2 x3 x4 x5) else (B_Mod_walk_140  r18 r x2 x3 x4 x5 1)) else none)
theorem e_B_Mod_walk_122 {sc : Nat × (Nat → Int32)} {d : DS} {f : FS} {w : WS} {m : MS} {s : SS} {g : GS} {tl : List mn_E}  (r18 : RS → Int32 → Int32 → Option (Unit × RS)) (hr18 : ∀ (r : RS) (x2 : Int32) (x3 : Int32), Ev sc 2 33 0 0 M_Mod_walk 18 [(0, .ref 12), (2, .int x2), (3, .int x3)] [] (eLV :: (HD d (HF f (HW w (HM m (HS s (HG g (HR r tl)))))))) (mapR ouV (fun z => (eLV :: (HD d (HF f (HW w (HM m (HS s (HG g (HR z tl))))))))) (r18 r x2 x3))) (r : RS) (x2 : Int32) (x3 : Int32) (x4 : Int32) (x5 : Int32) (t0 : Int32) (t1 : Int32) : Ev sc 2 33 0 0 M_Mod_walk 122 [(0, .ref 12), (2, .int x2), (3, .int x3), (4, .int x4), (5, .int x5)] [.int t1, .int t0] (eLV :: (HD d (HF f (HW w (HM m (HS s (HG g (HR r tl)))))))) (mapR ouV (fun z => (eLV :: (HD d (HF f (HW w (HM m (HS s (HG g (HR z tl))))))))) (B_Mod_walk_122 r18 r x2 x3 x4 x5 t0 t1)) := by
  unfold B_Mod_walk_122
  refine ev_icmp_ne (tgt := 139) d_Mod_walk_122 rfl (fun h1 => ?_) (fun h1 => ?_)
  · rw [if_pos h1]
    exact ev_pick [0, 1, 2, 3, 4] rfl (e_B_Mod_walk_139   r18 hr18 r x2 x3 x4 x5)
  · rw [if_neg h1]
    refine ev_aload_n d_Mod_walk_125 rfl rfl ?_
    refine ev_get (v := .ref 26) gi_Mod (ci := 6) rfl rfl 26 (by decide) gw_1027 rfl d_Mod_walk_126 ?_
    refine ev_iload d_Mod_walk_129 rfl ?_
    refine ev_inB (fun h2 => ?_)
    refine ev_zaload rfl (inB_of h2) d_Mod_walk_131 ?_
    refine ev_if_ne (tgt := 139) d_Mod_walk_132 rfl (fun h3 => ?_) (fun h3 => ?_)
    · rw [if_pos h3]
      exact ev_pick [0, 1, 2, 3, 4] rfl (e_B_Mod_walk_139   r18 hr18 r x2 x3 x4 x5)
    · rw [if_neg h3]
      refine ev_iconst (v := 1) d_Mod_walk_135 rfl ?_
      refine ev_goto (tgt := 140) d_Mod_walk_136 rfl ?_
      exact ev_pick [0, 1, 2, 3, 4] rfl (e_B_Mod_walk_140   r18 hr18 r x2 x3 x4 x5 1)
def B_Mod_walk_118  (r18 : RS → Int32 → Int32 → Option (Unit × RS)) (r : RS) (x2 : Int32) (x3 : Int32) (x4 : Int32) (x5 : Int32) (t0 : Int32) (t2 : Int32) (t3 : Int32) : Option (Unit × RS) :=
  bnd (f_Mod_nameAt r (t2 * t3)) (fun q => B_Mod_walk_122  r18 r x2 x3 x4 x5 t0 q.1)
theorem e_B_Mod_walk_118 {sc : Nat × (Nat → Int32)} {d : DS} {f : FS} {w : WS} {m : MS} {s : SS} {g : GS} {tl : List mn_E}  (r18 : RS → Int32 → Int32 → Option (Unit × RS)) (hr18 : ∀ (r : RS) (x2 : Int32) (x3 : Int32), Ev sc 2 33 0 0 M_Mod_walk 18 [(0, .ref 12), (2, .int x2), (3, .int x3)] [] (eLV :: (HD d (HF f (HW w (HM m (HS s (HG g (HR r tl)))))))) (mapR ouV (fun z => (eLV :: (HD d (HF f (HW w (HM m (HS s (HG g (HR z tl))))))))) (r18 r x2 x3))) (r : RS) (x2 : Int32) (x3 : Int32) (x4 : Int32) (x5 : Int32) (t0 : Int32) (t2 : Int32) (t3 : Int32) : Ev sc 2 33 0 0 M_Mod_walk 118 [(0, .ref 12), (2, .int x2), (3, .int x3), (4, .int x4), (5, .int x5)] [.int t3, .int t2, .ref 12, .int t0] (eLV :: (HD d (HF f (HW w (HM m (HS s (HG g (HR r tl)))))))) (mapR ouV (fun z => (eLV :: (HD d (HF f (HW w (HM m (HS s (HG g (HR z tl))))))))) (B_Mod_walk_118 r18 r x2 x3 x4 x5 t0 t2 t3)) := by
  unfold B_Mod_walk_118
  refine ev_imul d_Mod_walk_118 ?_
  refine ev_callB (rc := (f_Mod_nameAt r (t2 * t3))) (ou := ouI) (Hs := (fun z => (eLV :: (HD d (HF f (HW w (HM m (HS s (HG g (HR r tl)))))))))) (inv_V (q := 12) (av := [.int (t2 * t3)]) (rest := [.int t0]) rfl (ci := 6) rfl d_Mod_walk_119 gw_1131 gw_1133 gw_56 mw_Mod_nameAt nh_Mod_nameAt pn_Mod_nameAt rfl) d_Mod_walk_119 pl_Mod_nameAt (Nat.le_of_ble_eq_true rfl) (Nat.le_of_ble_eq_true rfl) (Nat.le_of_ble_eq_true rfl) (e_f_Mod_nameAt (tl := tl) (d := d) (f := f) (w := w) (m := m) (s := s) (g := g)  r (t2 * t3)) (fun _ => (len1 (lenHD (lenHF (lenHW (lenHM (lenHS (lenHG (lenHR rfl))))))))) (fun v z h1 => ⟨_, rfl, ?_⟩)
  exact ev_pick [0, 1, 2, 3, 4] rfl (e_B_Mod_walk_122   r18 hr18 r x2 x3 x4 x5 t0 v)
def B_Mod_walk_109  (r18 : RS → Int32 → Int32 → Option (Unit × RS)) (r : RS) (x2 : Int32) (x3 : Int32) (x4 : Int32) (x5 : Int32) (t0 : Int32) : Option (Unit × RS) :=
  bnd (f_Mod_headOf r x5) (fun q => B_Mod_walk_118  r18 r x2 x3 x4 x5 t0 8 q.1)
theorem e_B_Mod_walk_109 {sc : Nat × (Nat → Int32)} {d : DS} {f : FS} {w : WS} {m : MS} {s : SS} {g : GS} {tl : List mn_E}  (r18 : RS → Int32 → Int32 → Option (Unit × RS)) (hr18 : ∀ (r : RS) (x2 : Int32) (x3 : Int32), Ev sc 2 33 0 0 M_Mod_walk 18 [(0, .ref 12), (2, .int x2), (3, .int x3)] [] (eLV :: (HD d (HF f (HW w (HM m (HS s (HG g (HR r tl)))))))) (mapR ouV (fun z => (eLV :: (HD d (HF f (HW w (HM m (HS s (HG g (HR z tl))))))))) (r18 r x2 x3))) (r : RS) (x2 : Int32) (x3 : Int32) (x4 : Int32) (x5 : Int32) (t0 : Int32) : Ev sc 2 33 0 0 M_Mod_walk 109 [(0, .ref 12), (2, .int x2), (3, .int x3), (4, .int x4), (5, .int x5)] [.int t0] (eLV :: (HD d (HF f (HW w (HM m (HS s (HG g (HR r tl)))))))) (mapR ouV (fun z => (eLV :: (HD d (HF f (HW w (HM m (HS s (HG g (HR z tl))))))))) (B_Mod_walk_109 r18 r x2 x3 x4 x5 t0)) := by
  unfold B_Mod_walk_109
  refine ev_aload_n d_Mod_walk_109 rfl rfl ?_
  refine ev_bipush (v := 8) d_Mod_walk_110 rfl ?_
  refine ev_aload_n d_Mod_walk_112 rfl rfl ?_
  refine ev_iload d_Mod_walk_113 rfl ?_
  refine ev_callB (rc := (f_Mod_headOf r x5)) (ou := ouI) (Hs := (fun z => (eLV :: (HD d (HF f (HW w (HM m (HS s (HG g (HR r tl)))))))))) (inv_V (q := 12) (av := [.int x5]) (rest := [.int 8, .ref 12, .int t0]) rfl (ci := 6) rfl d_Mod_walk_115 gw_1283 gw_1285 gw_86 mw_Mod_headOf nh_Mod_headOf pn_Mod_headOf rfl) d_Mod_walk_115 pl_Mod_headOf (Nat.le_of_ble_eq_true rfl) (Nat.le_of_ble_eq_true rfl) (Nat.le_of_ble_eq_true rfl) (e_f_Mod_headOf (tl := tl) (d := d) (f := f) (w := w) (m := m) (s := s) (g := g)  r x5) (fun _ => (len1 (lenHD (lenHF (lenHW (lenHM (lenHS (lenHG (lenHR rfl))))))))) (fun v z h1 => ⟨_, rfl, ?_⟩)
  exact ev_pick [0, 1, 2, 3, 4] rfl (e_B_Mod_walk_118   r18 hr18 r x2 x3 x4 x5 t0 8 v)
def B_Mod_walk_100  (r18 : RS → Int32 → Int32 → Option (Unit × RS)) (r : RS) (x2 : Int32) (x3 : Int32) (x4 : Int32) (x5 : Int32) (t0 : Int32) : Option (Unit × RS) :=
  if t0 = 0 then (B_Mod_walk_139  r18 r x2 x3 x4 x5) else (bnd (f_Mod_nameAt r x4) (fun q => B_Mod_walk_109  r18 r x2 x3 x4 x5 q.1))
theorem e_B_Mod_walk_100 {sc : Nat × (Nat → Int32)} {d : DS} {f : FS} {w : WS} {m : MS} {s : SS} {g : GS} {tl : List mn_E}  (r18 : RS → Int32 → Int32 → Option (Unit × RS)) (hr18 : ∀ (r : RS) (x2 : Int32) (x3 : Int32), Ev sc 2 33 0 0 M_Mod_walk 18 [(0, .ref 12), (2, .int x2), (3, .int x3)] [] (eLV :: (HD d (HF f (HW w (HM m (HS s (HG g (HR r tl)))))))) (mapR ouV (fun z => (eLV :: (HD d (HF f (HW w (HM m (HS s (HG g (HR z tl))))))))) (r18 r x2 x3))) (r : RS) (x2 : Int32) (x3 : Int32) (x4 : Int32) (x5 : Int32) (t0 : Int32) : Ev sc 2 33 0 0 M_Mod_walk 100 [(0, .ref 12), (2, .int x2), (3, .int x3), (4, .int x4), (5, .int x5)] [.int t0] (eLV :: (HD d (HF f (HW w (HM m (HS s (HG g (HR r tl)))))))) (mapR ouV (fun z => (eLV :: (HD d (HF f (HW w (HM m (HS s (HG g (HR z tl))))))))) (B_Mod_walk_100 r18 r x2 x3 x4 x5 t0)) := by
  unfold B_Mod_walk_100
  refine ev_if_eq (tgt := 139) d_Mod_walk_100 rfl (fun h1 => ?_) (fun h1 => ?_)
  · rw [if_pos h1]
    exact ev_pick [0, 1, 2, 3, 4] rfl (e_B_Mod_walk_139   r18 hr18 r x2 x3 x4 x5)
  · rw [if_neg h1]
    refine ev_aload_n d_Mod_walk_103 rfl rfl ?_
    refine ev_iload d_Mod_walk_104 rfl ?_
    refine ev_callB (rc := (f_Mod_nameAt r x4)) (ou := ouI) (Hs := (fun z => (eLV :: (HD d (HF f (HW w (HM m (HS s (HG g (HR r tl)))))))))) (inv_V (q := 12) (av := [.int x4]) (rest := []) rfl (ci := 6) rfl d_Mod_walk_106 gw_1131 gw_1133 gw_56 mw_Mod_nameAt nh_Mod_nameAt pn_Mod_nameAt rfl) d_Mod_walk_106 pl_Mod_nameAt (Nat.le_of_ble_eq_true rfl) (Nat.le_of_ble_eq_true rfl) (Nat.le_of_ble_eq_true rfl) (e_f_Mod_nameAt (tl := tl) (d := d) (f := f) (w := w) (m := m) (s := s) (g := g)  r x4) (fun _ => (len1 (lenHD (lenHF (lenHW (lenHM (lenHS (lenHG (lenHR rfl))))))))) (fun v z h2 => ⟨_, rfl, ?_⟩)
    exact ev_pick [0, 1, 2, 3, 4] rfl (e_B_Mod_walk_109   r18 hr18 r x2 x3 x4 x5 v)
def B_Mod_walk_86  (r18 : RS → Int32 → Int32 → Option (Unit × RS)) (r : RS) (x2 : Int32) (x3 : Int32) (x4 : Int32) (t0 : Int32) : Option (Unit × RS) :=
  if t0 ≤ 2 then (B_Mod_walk_139  r18 r x2 x3 x4 t0) else (bnd (f_Mod_isThere r t0) (fun q => B_Mod_walk_100  r18 r x2 x3 x4 t0 q.1))
theorem e_B_Mod_walk_86 {sc : Nat × (Nat → Int32)} {d : DS} {f : FS} {w : WS} {m : MS} {s : SS} {g : GS} {tl : List mn_E}  (r18 : RS → Int32 → Int32 → Option (Unit × RS)) (hr18 : ∀ (r : RS) (x2 : Int32) (x3 : Int32), Ev sc 2 33 0 0 M_Mod_walk 18 [(0, .ref 12), (2, .int x2), (3, .int x3)] [] (eLV :: (HD d (HF f (HW w (HM m (HS s (HG g (HR r tl)))))))) (mapR ouV (fun z => (eLV :: (HD d (HF f (HW w (HM m (HS s (HG g (HR z tl))))))))) (r18 r x2 x3))) (r : RS) (x2 : Int32) (x3 : Int32) (x4 : Int32) (t0 : Int32) : Ev sc 2 33 0 0 M_Mod_walk 86 [(0, .ref 12), (2, .int x2), (3, .int x3), (4, .int x4)] [.int t0] (eLV :: (HD d (HF f (HW w (HM m (HS s (HG g (HR r tl)))))))) (mapR ouV (fun z => (eLV :: (HD d (HF f (HW w (HM m (HS s (HG g (HR z tl))))))))) (B_Mod_walk_86 r18 r x2 x3 x4 t0)) := by
  unfold B_Mod_walk_86
  refine ev_istore d_Mod_walk_86 (by decide) rfl ?_
  refine ev_iload d_Mod_walk_88 rfl ?_
  refine ev_iconst (v := 2) d_Mod_walk_90 rfl ?_
  refine ev_icmp_le (tgt := 139) d_Mod_walk_91 rfl (fun h1 => ?_) (fun h1 => ?_)
  · rw [if_pos h1]
    exact ev_pick [1, 2, 3, 4, 0] rfl (e_B_Mod_walk_139   r18 hr18 r x2 x3 x4 t0)
  · rw [if_neg h1]
    refine ev_aload_n d_Mod_walk_94 rfl rfl ?_
    refine ev_iload d_Mod_walk_95 rfl ?_
    refine ev_callB (rc := (f_Mod_isThere r t0)) (ou := ouI) (Hs := (fun z => (eLV :: (HD d (HF f (HW w (HM m (HS s (HG g (HR r tl)))))))))) (inv_V (q := 12) (av := [.int t0]) (rest := []) rfl (ci := 6) rfl d_Mod_walk_97 gw_1299 gw_1301 gw_90 mw_Mod_isThere nh_Mod_isThere pn_Mod_isThere rfl) d_Mod_walk_97 pl_Mod_isThere (Nat.le_of_ble_eq_true rfl) (Nat.le_of_ble_eq_true rfl) (Nat.le_of_ble_eq_true rfl) (e_f_Mod_isThere (tl := tl) (d := d) (f := f) (w := w) (m := m) (s := s) (g := g)  r t0) (fun _ => (len1 (lenHD (lenHF (lenHW (lenHM (lenHS (lenHG (lenHR rfl))))))))) (fun v z h2 => ⟨_, rfl, ?_⟩)
    exact ev_pick [1, 2, 3, 4, 0] rfl (e_B_Mod_walk_100   r18 hr18 r x2 x3 x4 t0 v)
def B_Mod_walk_68  (r18 : RS → Int32 → Int32 → Option (Unit × RS)) (r : RS) (x2 : Int32) (x3 : Int32) (x4 : Int32) : Option (Unit × RS) :=
  if 0 ≤ x4 then (if inB (x4 + 2) 320 then (B_Mod_walk_86  r18 r x2 x3 x4 (rByt r (x4 + 2).toNatClampNeg)) else none) else (B_Mod_walk_86  r18 r x2 x3 x4 0)
theorem e_B_Mod_walk_68 {sc : Nat × (Nat → Int32)} {d : DS} {f : FS} {w : WS} {m : MS} {s : SS} {g : GS} {tl : List mn_E}  (r18 : RS → Int32 → Int32 → Option (Unit × RS)) (hr18 : ∀ (r : RS) (x2 : Int32) (x3 : Int32), Ev sc 2 33 0 0 M_Mod_walk 18 [(0, .ref 12), (2, .int x2), (3, .int x3)] [] (eLV :: (HD d (HF f (HW w (HM m (HS s (HG g (HR r tl)))))))) (mapR ouV (fun z => (eLV :: (HD d (HF f (HW w (HM m (HS s (HG g (HR z tl))))))))) (r18 r x2 x3))) (r : RS) (x2 : Int32) (x3 : Int32) (x4 : Int32) : Ev sc 2 33 0 0 M_Mod_walk 68 [(0, .ref 12), (2, .int x2), (3, .int x3), (4, .int x4)] [] (eLV :: (HD d (HF f (HW w (HM m (HS s (HG g (HR r tl)))))))) (mapR ouV (fun z => (eLV :: (HD d (HF f (HW w (HM m (HS s (HG g (HR z tl))))))))) (B_Mod_walk_68 r18 r x2 x3 x4)) := by
  unfold B_Mod_walk_68
  refine ev_iload d_Mod_walk_68 rfl ?_
  refine ev_if_ge (tgt := 77) d_Mod_walk_70 rfl (fun h1 => ?_) (fun h1 => ?_)
  · rw [if_pos h1]
    refine ev_aload_n d_Mod_walk_77 rfl rfl ?_
    refine ev_get (v := .ref 18) gi_Mod (ci := 6) rfl rfl 7 (by decide) gw_1008 rfl d_Mod_walk_78 ?_
    refine ev_iload d_Mod_walk_81 rfl ?_
    refine ev_iconst (v := 2) d_Mod_walk_83 rfl ?_
    refine ev_iadd d_Mod_walk_84 ?_
    refine ev_inB (fun h2 => ?_)
    refine ev_iaload rfl (inB_of h2) d_Mod_walk_85 ?_
    exact ev_pick [0, 1, 2, 3] rfl (e_B_Mod_walk_86   r18 hr18 r x2 x3 x4 (rByt r (x4 + 2).toNatClampNeg))
  · rw [if_neg h1]
    refine ev_iconst (v := 0) d_Mod_walk_73 rfl ?_
    refine ev_goto (tgt := 86) d_Mod_walk_74 rfl ?_
    exact ev_pick [0, 1, 2, 3] rfl (e_B_Mod_walk_86   r18 hr18 r x2 x3 x4 0)
def B_Mod_walk_48  (r18 : RS → Int32 → Int32 → Option (Unit × RS)) (r : RS) (x2 : Int32) (x3 : Int32) (t0 : Int32) : Option (Unit × RS) :=
  if inB (x2 - 1) 61 then (if inB (x2 - 1) 61 then (B_Mod_walk_68  r18 (rSRch r (upd (rRch r) (x2 - 1).toNatClampNeg ((rRch r (x2 - 1).toNatClampNeg) + 1))) x2 x3 t0) else none) else none
theorem e_B_Mod_walk_48 {sc : Nat × (Nat → Int32)} {d : DS} {f : FS} {w : WS} {m : MS} {s : SS} {g : GS} {tl : List mn_E}  (r18 : RS → Int32 → Int32 → Option (Unit × RS)) (hr18 : ∀ (r : RS) (x2 : Int32) (x3 : Int32), Ev sc 2 33 0 0 M_Mod_walk 18 [(0, .ref 12), (2, .int x2), (3, .int x3)] [] (eLV :: (HD d (HF f (HW w (HM m (HS s (HG g (HR r tl)))))))) (mapR ouV (fun z => (eLV :: (HD d (HF f (HW w (HM m (HS s (HG g (HR z tl))))))))) (r18 r x2 x3))) (r : RS) (x2 : Int32) (x3 : Int32) (t0 : Int32) : Ev sc 2 33 0 0 M_Mod_walk 48 [(0, .ref 12), (2, .int x2), (3, .int x3)] [.int t0] (eLV :: (HD d (HF f (HW w (HM m (HS s (HG g (HR r tl)))))))) (mapR ouV (fun z => (eLV :: (HD d (HF f (HW w (HM m (HS s (HG g (HR z tl))))))))) (B_Mod_walk_48 r18 r x2 x3 t0)) := by
  unfold B_Mod_walk_48
  refine ev_istore d_Mod_walk_48 (by decide) rfl ?_
  refine ev_aload_n d_Mod_walk_50 rfl rfl ?_
  refine ev_get (v := .ref 28) gi_Mod (ci := 6) rfl rfl 28 (by decide) gw_1029 rfl d_Mod_walk_51 ?_
  refine ev_iload_n d_Mod_walk_54 rfl rfl ?_
  refine ev_iconst (v := 1) d_Mod_walk_55 rfl ?_
  refine ev_isub d_Mod_walk_56 ?_
  refine ev_aload_n d_Mod_walk_57 rfl rfl ?_
  refine ev_get (v := .ref 28) gi_Mod (ci := 6) rfl rfl 28 (by decide) gw_1029 rfl d_Mod_walk_58 ?_
  refine ev_iload_n d_Mod_walk_61 rfl rfl ?_
  refine ev_iconst (v := 1) d_Mod_walk_62 rfl ?_
  refine ev_isub d_Mod_walk_63 ?_
  refine ev_inB (fun h1 => ?_)
  refine ev_iaload rfl (inB_of h1) d_Mod_walk_64 ?_
  refine ev_iconst (v := 1) d_Mod_walk_65 rfl ?_
  refine ev_iadd d_Mod_walk_66 ?_
  refine ev_inB (fun h2 => ?_)
  refine ev_iastore (h2 := (eLV :: (HD d (HF f (HW w (HM m (HS s (HG g (HR (rSRch r (upd (rRch r) (x2 - 1).toNatClampNeg ((rRch r (x2 - 1).toNatClampNeg) + 1))) tl))))))))) rfl (inB_of h2) (hs_Rch d f w m s g r _ tl) d_Mod_walk_67 ?_
  exact ev_pick [1, 2, 3, 0] rfl (e_B_Mod_walk_68   r18 hr18 (rSRch r (upd (rRch r) (x2 - 1).toNatClampNeg ((rRch r (x2 - 1).toNatClampNeg) + 1))) x2 x3 t0)
def L_Mod_walk_18   : Nat → RS → Int32 → Int32 → Option (Unit × RS)
  | 0, _, _, _ => none
  | n + 1, r, x2, x3 =>
  if 100000 ≤ x3 then (some ((), r)) else (if x2 ≤ 0 then (some ((), r)) else (if inB (x2 - 1) 61 then (if inB (x2 - 1) 61 then (bnd (f_Mod_place r (rWal r (x2 - 1).toNatClampNeg) (rRch r (x2 - 1).toNatClampNeg)) (fun q => B_Mod_walk_48  (L_Mod_walk_18 n) r x2 x3 q.1)) else none) else none))
theorem e_L_Mod_walk_18 {sc : Nat × (Nat → Int32)} {d : DS} {f : FS} {w : WS} {m : MS} {s : SS} {g : GS} {tl : List mn_E}    : ∀ (n : Nat) (r : RS) (x2 : Int32) (x3 : Int32), Ev sc 2 33 0 0 M_Mod_walk 18 [(0, .ref 12), (2, .int x2), (3, .int x3)] [] (eLV :: (HD d (HF f (HW w (HM m (HS s (HG g (HR r tl)))))))) (mapR ouV (fun z => (eLV :: (HD d (HF f (HW w (HM m (HS s (HG g (HR z tl))))))))) (L_Mod_walk_18   n r x2 x3)) := by
  intro n
  induction n with
  | zero => intro r x2 x3; exact ev_none
  | succ n ih =>
    intro r x2 x3
    rw [L_Mod_walk_18]
    refine ev_iload_n d_Mod_walk_18 rfl rfl ?_
    refine ev_ldc (v := 100000) gw_1307 d_Mod_walk_19 ?_
    refine ev_icmp_ge (tgt := 232) d_Mod_walk_21 rfl (fun h1 => ?_) (fun h1 => ?_)
    · rw [if_pos h1]
      exact ev_vret rfl d_Mod_walk_232
    · rw [if_neg h1]
      refine ev_iload_n d_Mod_walk_24 rfl rfl ?_
      refine ev_if_le (tgt := 232) d_Mod_walk_25 rfl (fun h2 => ?_) (fun h2 => ?_)
      · rw [if_pos h2]
        exact ev_vret rfl d_Mod_walk_232
      · rw [if_neg h2]
        refine ev_aload_n d_Mod_walk_28 rfl rfl ?_
        refine ev_aload_n d_Mod_walk_29 rfl rfl ?_
        refine ev_get (v := .ref 27) gi_Mod (ci := 6) rfl rfl 27 (by decide) gw_1028 rfl d_Mod_walk_30 ?_
        refine ev_iload_n d_Mod_walk_33 rfl rfl ?_
        refine ev_iconst (v := 1) d_Mod_walk_34 rfl ?_
        refine ev_isub d_Mod_walk_35 ?_
        refine ev_inB (fun h3 => ?_)
        refine ev_iaload rfl (inB_of h3) d_Mod_walk_36 ?_
        refine ev_aload_n d_Mod_walk_37 rfl rfl ?_
        refine ev_get (v := .ref 28) gi_Mod (ci := 6) rfl rfl 28 (by decide) gw_1029 rfl d_Mod_walk_38 ?_
        refine ev_iload_n d_Mod_walk_41 rfl rfl ?_
        refine ev_iconst (v := 1) d_Mod_walk_42 rfl ?_
        refine ev_isub d_Mod_walk_43 ?_
        refine ev_inB (fun h4 => ?_)
        refine ev_iaload rfl (inB_of h4) d_Mod_walk_44 ?_
        refine ev_callB (rc := (f_Mod_place r (rWal r (x2 - 1).toNatClampNeg) (rRch r (x2 - 1).toNatClampNeg))) (ou := ouI) (Hs := (fun z => (eLV :: (HD d (HF f (HW w (HM m (HS s (HG g (HR r tl)))))))))) (inv_V (q := 12) (av := [.int (rWal r (x2 - 1).toNatClampNeg), .int (rRch r (x2 - 1).toNatClampNeg)]) (rest := []) rfl (ci := 6) rfl d_Mod_walk_45 gw_1308 gw_1310 gw_92 mw_Mod_place nh_Mod_place pn_Mod_place rfl) d_Mod_walk_45 pl_Mod_place (Nat.le_of_ble_eq_true rfl) (Nat.le_of_ble_eq_true rfl) (Nat.le_of_ble_eq_true rfl) (e_f_Mod_place (tl := tl) (d := d) (f := f) (w := w) (m := m) (s := s) (g := g)  r (rWal r (x2 - 1).toNatClampNeg) (rRch r (x2 - 1).toNatClampNeg)) (fun _ => (len1 (lenHD (lenHF (lenHW (lenHM (lenHS (lenHG (lenHR rfl))))))))) (fun v z h5 => ⟨_, rfl, ?_⟩)
        exact ev_pick [0, 1, 2] rfl (e_B_Mod_walk_48   (L_Mod_walk_18 n) ih r x2 x3 v)
def B_Mod_walk_16   (r : RS) (x2 : Int32) : Option (Unit × RS) :=
  L_Mod_walk_18   20000 r x2 0
theorem e_B_Mod_walk_16 {sc : Nat × (Nat → Int32)} {d : DS} {f : FS} {w : WS} {m : MS} {s : SS} {g : GS} {tl : List mn_E}    (r : RS) (x2 : Int32) : Ev sc 2 33 0 0 M_Mod_walk 16 [(0, .ref 12), (2, .int x2)] [] (eLV :: (HD d (HF f (HW w (HM m (HS s (HG g (HR r tl)))))))) (mapR ouV (fun z => (eLV :: (HD d (HF f (HW w (HM m (HS s (HG g (HR z tl))))))))) (B_Mod_walk_16 r x2)) := by
  unfold B_Mod_walk_16
  refine ev_iconst (v := 0) d_Mod_walk_16 rfl ?_
  refine ev_istore_n d_Mod_walk_17 rfl (by decide) rfl ?_
  exact ev_pick [1, 2, 0] rfl (e_L_Mod_walk_18     20000 r x2 0)
def B_Mod_walk_9   (r : RS) (x2 : Int32) : Option (Unit × RS) :=
  if inB 0 61 then (B_Mod_walk_16   (rSRch r (upd (rRch r) (0 : Int32).toNatClampNeg 0)) x2) else none
theorem e_B_Mod_walk_9 {sc : Nat × (Nat → Int32)} {d : DS} {f : FS} {w : WS} {m : MS} {s : SS} {g : GS} {tl : List mn_E}    (r : RS) (x2 : Int32) : Ev sc 2 33 0 0 M_Mod_walk 9 [(0, .ref 12), (2, .int x2)] [] (eLV :: (HD d (HF f (HW w (HM m (HS s (HG g (HR r tl)))))))) (mapR ouV (fun z => (eLV :: (HD d (HF f (HW w (HM m (HS s (HG g (HR z tl))))))))) (B_Mod_walk_9 r x2)) := by
  unfold B_Mod_walk_9
  refine ev_aload_n d_Mod_walk_9 rfl rfl ?_
  refine ev_get (v := .ref 28) gi_Mod (ci := 6) rfl rfl 28 (by decide) gw_1029 rfl d_Mod_walk_10 ?_
  refine ev_iconst (v := 0) d_Mod_walk_13 rfl ?_
  refine ev_iconst (v := 0) d_Mod_walk_14 rfl ?_
  refine ev_inB (fun h1 => ?_)
  refine ev_iastore (h2 := (eLV :: (HD d (HF f (HW w (HM m (HS s (HG g (HR (rSRch r (upd (rRch r) (0 : Int32).toNatClampNeg 0)) tl))))))))) rfl (inB_of h1) (hs_Rch d f w m s g r _ tl) d_Mod_walk_15 ?_
  exact ev_pick [0, 1] rfl (e_B_Mod_walk_16     (rSRch r (upd (rRch r) (0 : Int32).toNatClampNeg 0)) x2)
def f_Mod_walk   (r : RS) (x1 : Int32) : Option (Unit × RS) :=
  if inB 0 61 then (B_Mod_walk_9   (rSWal r (upd (rWal r) (0 : Int32).toNatClampNeg x1)) 1) else none
theorem e_f_Mod_walk {sc : Nat × (Nat → Int32)} {d : DS} {f : FS} {w : WS} {m : MS} {s : SS} {g : GS} {tl : List mn_E}    (r : RS) (x1 : Int32) : Ev sc 2 33 0 0 M_Mod_walk 0 [(0, .ref 12), (1, .int x1)] [] (eLV :: (HD d (HF f (HW w (HM m (HS s (HG g (HR r tl)))))))) (mapR ouV (fun z => (eLV :: (HD d (HF f (HW w (HM m (HS s (HG g (HR z tl))))))))) (f_Mod_walk r x1)) := by
  unfold f_Mod_walk
  refine ev_iconst (v := 1) d_Mod_walk_0 rfl ?_
  refine ev_istore_n d_Mod_walk_1 rfl (by decide) rfl ?_
  refine ev_aload_n d_Mod_walk_2 rfl rfl ?_
  refine ev_get (v := .ref 27) gi_Mod (ci := 6) rfl rfl 27 (by decide) gw_1028 rfl d_Mod_walk_3 ?_
  refine ev_iconst (v := 0) d_Mod_walk_6 rfl ?_
  refine ev_iload_n d_Mod_walk_7 rfl rfl ?_
  refine ev_inB (fun h1 => ?_)
  refine ev_iastore (h2 := (eLV :: (HD d (HF f (HW w (HM m (HS s (HG g (HR (rSWal r (upd (rWal r) (0 : Int32).toNatClampNeg x1)) tl))))))))) rfl (inB_of h1) (hs_Wal d f w m s g r _ tl) d_Mod_walk_8 ?_
  exact ev_pick [1, 0] rfl (e_B_Mod_walk_9     (rSWal r (upd (rWal r) (0 : Int32).toNatClampNeg x1)) 1)
def B_Mod_isNamed_128  (r4 : RS → Int32 → Int32 → Int32 → Option (Int32 × Unit)) (r : RS) (x1 : Int32) (x2 : Int32) (x3 : Int32) : Option (Int32 × Unit) :=
  r4 r x1 x2 (x3 + 1)
theorem e_B_Mod_isNamed_128 {sc : Nat × (Nat → Int32)} {d : DS} {f : FS} {w : WS} {m : MS} {s : SS} {g : GS} {tl : List mn_E}  (r4 : RS → Int32 → Int32 → Int32 → Option (Int32 × Unit)) (hr4 : ∀ (r : RS) (x1 : Int32) (x2 : Int32) (x3 : Int32), Ev sc 2 33 0 0 M_Mod_isNamed 4 [(0, .ref 12), (1, .int x1), (2, .int x2), (3, .int x3)] [] (eLV :: (HD d (HF f (HW w (HM m (HS s (HG g (HR r tl)))))))) (mapR ouI (fun z => (eLV :: (HD d (HF f (HW w (HM m (HS s (HG g (HR r tl))))))))) (r4 r x1 x2 x3))) (r : RS) (x1 : Int32) (x2 : Int32) (x3 : Int32) : Ev sc 2 33 0 0 M_Mod_isNamed 128 [(0, .ref 12), (1, .int x1), (2, .int x2), (3, .int x3)] [] (eLV :: (HD d (HF f (HW w (HM m (HS s (HG g (HR r tl)))))))) (mapR ouI (fun z => (eLV :: (HD d (HF f (HW w (HM m (HS s (HG g (HR r tl))))))))) (B_Mod_isNamed_128 r4 r x1 x2 x3)) := by
  unfold B_Mod_isNamed_128
  refine ev_iinc (v := (x3 + 1)) d_Mod_isNamed_128 rfl rfl (by decide) rfl ?_
  refine ev_goto (tgt := 4) d_Mod_isNamed_131 rfl ?_
  exact ev_pick [1, 2, 3, 0] rfl (hr4 r x1 x2 (x3 + 1))
def B_Mod_isNamed_121  (r4 : RS → Int32 → Int32 → Int32 → Option (Int32 × Unit)) (r54 : RS → Int32 → Int32 → Int32 → Int32 → Int32 → Option (Int32 × Unit)) (r : RS) (x1 : Int32) (x3 : Int32) (x4 : Int32) (x5 : Int32) (t0 : Int32) : Option (Int32 × Unit) :=
  r54 r x1 t0 x3 x4 (x5 + 1)
theorem e_B_Mod_isNamed_121 {sc : Nat × (Nat → Int32)} {d : DS} {f : FS} {w : WS} {m : MS} {s : SS} {g : GS} {tl : List mn_E}  (r4 : RS → Int32 → Int32 → Int32 → Option (Int32 × Unit)) (r54 : RS → Int32 → Int32 → Int32 → Int32 → Int32 → Option (Int32 × Unit)) (hr4 : ∀ (r : RS) (x1 : Int32) (x2 : Int32) (x3 : Int32), Ev sc 2 33 0 0 M_Mod_isNamed 4 [(0, .ref 12), (1, .int x1), (2, .int x2), (3, .int x3)] [] (eLV :: (HD d (HF f (HW w (HM m (HS s (HG g (HR r tl)))))))) (mapR ouI (fun z => (eLV :: (HD d (HF f (HW w (HM m (HS s (HG g (HR r tl))))))))) (r4 r x1 x2 x3))) (hr54 : ∀ (r : RS) (x1 : Int32) (x2 : Int32) (x3 : Int32) (x4 : Int32) (x5 : Int32), Ev sc 2 33 0 0 M_Mod_isNamed 54 [(0, .ref 12), (1, .int x1), (2, .int x2), (3, .int x3), (4, .int x4), (5, .int x5)] [] (eLV :: (HD d (HF f (HW w (HM m (HS s (HG g (HR r tl)))))))) (mapR ouI (fun z => (eLV :: (HD d (HF f (HW w (HM m (HS s (HG g (HR r tl))))))))) (r54 r x1 x2 x3 x4 x5))) (r : RS) (x1 : Int32) (x3 : Int32) (x4 : Int32) (x5 : Int32) (t0 : Int32) : Ev sc 2 33 0 0 M_Mod_isNamed 121 [(0, .ref 12), (1, .int x1), (3, .int x3), (4, .int x4), (5, .int x5)] [.int t0] (eLV :: (HD d (HF f (HW w (HM m (HS s (HG g (HR r tl)))))))) (mapR ouI (fun z => (eLV :: (HD d (HF f (HW w (HM m (HS s (HG g (HR r tl))))))))) (B_Mod_isNamed_121 r4 r54 r x1 x3 x4 x5 t0)) := by
  unfold B_Mod_isNamed_121
  refine ev_istore_n d_Mod_isNamed_121 rfl (by decide) rfl ?_
  refine ev_iinc (v := (x5 + 1)) d_Mod_isNamed_122 rfl rfl (by decide) rfl ?_
  refine ev_goto (tgt := 54) d_Mod_isNamed_125 rfl ?_
  exact ev_pick [2, 3, 1, 4, 5, 0] rfl (hr54 r x1 t0 x3 x4 (x5 + 1))
def B_Mod_isNamed_120  (r4 : RS → Int32 → Int32 → Int32 → Option (Int32 × Unit)) (r54 : RS → Int32 → Int32 → Int32 → Int32 → Int32 → Option (Int32 × Unit)) (r : RS) (x1 : Int32) (x3 : Int32) (x4 : Int32) (x5 : Int32) : Option (Int32 × Unit) :=
  B_Mod_isNamed_121  r4 r54 r x1 x3 x4 x5 0
theorem e_B_Mod_isNamed_120 {sc : Nat × (Nat → Int32)} {d : DS} {f : FS} {w : WS} {m : MS} {s : SS} {g : GS} {tl : List mn_E}  (r4 : RS → Int32 → Int32 → Int32 → Option (Int32 × Unit)) (r54 : RS → Int32 → Int32 → Int32 → Int32 → Int32 → Option (Int32 × Unit)) (hr4 : ∀ (r : RS) (x1 : Int32) (x2 : Int32) (x3 : Int32), Ev sc 2 33 0 0 M_Mod_isNamed 4 [(0, .ref 12), (1, .int x1), (2, .int x2), (3, .int x3)] [] (eLV :: (HD d (HF f (HW w (HM m (HS s (HG g (HR r tl)))))))) (mapR ouI (fun z => (eLV :: (HD d (HF f (HW w (HM m (HS s (HG g (HR r tl))))))))) (r4 r x1 x2 x3))) (hr54 : ∀ (r : RS) (x1 : Int32) (x2 : Int32) (x3 : Int32) (x4 : Int32) (x5 : Int32), Ev sc 2 33 0 0 M_Mod_isNamed 54 [(0, .ref 12), (1, .int x1), (2, .int x2), (3, .int x3), (4, .int x4), (5, .int x5)] [] (eLV :: (HD d (HF f (HW w (HM m (HS s (HG g (HR r tl)))))))) (mapR ouI (fun z => (eLV :: (HD d (HF f (HW w (HM m (HS s (HG g (HR r tl))))))))) (r54 r x1 x2 x3 x4 x5))) (r : RS) (x1 : Int32) (x3 : Int32) (x4 : Int32) (x5 : Int32) : Ev sc 2 33 0 0 M_Mod_isNamed 120 [(0, .ref 12), (1, .int x1), (3, .int x3), (4, .int x4), (5, .int x5)] [] (eLV :: (HD d (HF f (HW w (HM m (HS s (HG g (HR r tl)))))))) (mapR ouI (fun z => (eLV :: (HD d (HF f (HW w (HM m (HS s (HG g (HR r tl))))))))) (B_Mod_isNamed_120 r4 r54 r x1 x3 x4 x5)) := by
  unfold B_Mod_isNamed_120
  refine ev_iconst (v := 0) d_Mod_isNamed_120 rfl ?_
  exact ev_pick [0, 1, 2, 3, 4] rfl (e_B_Mod_isNamed_121   r4 r54 hr4 hr54 r x1 x3 x4 x5 0)
def B_Mod_isNamed_113  (r4 : RS → Int32 → Int32 → Int32 → Option (Int32 × Unit)) (r54 : RS → Int32 → Int32 → Int32 → Int32 → Int32 → Option (Int32 × Unit)) (r : RS) (x1 : Int32) (x3 : Int32) (x4 : Int32) (x5 : Int32) (t0 : Int32) (t1 : Int32) : Option (Int32 × Unit) :=
  if ¬ t0 = t1 then (B_Mod_isNamed_120  r4 r54 r x1 x3 x4 x5) else (B_Mod_isNamed_121  r4 r54 r x1 x3 x4 x5 1)
theorem e_B_Mod_isNamed_113 {sc : Nat × (Nat → Int32)} {d : DS} {f : FS} {w : WS} {m : MS} {s : SS} {g : GS} {tl : List mn_E}  (r4 : RS → Int32 → Int32 → Int32 → Option (Int32 × Unit)) (r54 : RS → Int32 → Int32 → Int32 → Int32 → Int32 → Option (Int32 × Unit)) (hr4 : ∀ (r : RS) (x1 : Int32) (x2 : Int32) (x3 : Int32), Ev sc 2 33 0 0 M_Mod_isNamed 4 [(0, .ref 12), (1, .int x1), (2, .int x2), (3, .int x3)] [] (eLV :: (HD d (HF f (HW w (HM m (HS s (HG g (HR r tl)))))))) (mapR ouI (fun z => (eLV :: (HD d (HF f (HW w (HM m (HS s (HG g (HR r tl))))))))) (r4 r x1 x2 x3))) (hr54 : ∀ (r : RS) (x1 : Int32) (x2 : Int32) (x3 : Int32) (x4 : Int32) (x5 : Int32), Ev sc 2 33 0 0 M_Mod_isNamed 54 [(0, .ref 12), (1, .int x1), (2, .int x2), (3, .int x3), (4, .int x4), (5, .int x5)] [] (eLV :: (HD d (HF f (HW w (HM m (HS s (HG g (HR r tl)))))))) (mapR ouI (fun z => (eLV :: (HD d (HF f (HW w (HM m (HS s (HG g (HR r tl))))))))) (r54 r x1 x2 x3 x4 x5))) (r : RS) (x1 : Int32) (x3 : Int32) (x4 : Int32) (x5 : Int32) (t0 : Int32) (t1 : Int32) : Ev sc 2 33 0 0 M_Mod_isNamed 113 [(0, .ref 12), (1, .int x1), (3, .int x3), (4, .int x4), (5, .int x5)] [.int t1, .int t0] (eLV :: (HD d (HF f (HW w (HM m (HS s (HG g (HR r tl)))))))) (mapR ouI (fun z => (eLV :: (HD d (HF f (HW w (HM m (HS s (HG g (HR r tl))))))))) (B_Mod_isNamed_113 r4 r54 r x1 x3 x4 x5 t0 t1)) := by
  unfold B_Mod_isNamed_113
  refine ev_icmp_ne (tgt := 120) d_Mod_isNamed_113 rfl (fun h1 => ?_) (fun h1 => ?_)
  · rw [if_pos h1]
    exact ev_pick [0, 1, 2, 3, 4] rfl (e_B_Mod_isNamed_120   r4 r54 hr4 hr54 r x1 x3 x4 x5)
  · rw [if_neg h1]
    refine ev_iconst (v := 1) d_Mod_isNamed_116 rfl ?_
    refine ev_goto (tgt := 121) d_Mod_isNamed_117 rfl ?_
    exact ev_pick [0, 1, 2, 3, 4] rfl (e_B_Mod_isNamed_121   r4 r54 hr4 hr54 r x1 x3 x4 x5 1)
def B_Mod_isNamed_109  (r4 : RS → Int32 → Int32 → Int32 → Option (Int32 × Unit)) (r54 : RS → Int32 → Int32 → Int32 → Int32 → Int32 → Option (Int32 × Unit)) (r : RS) (x1 : Int32) (x3 : Int32) (x4 : Int32) (x5 : Int32) (t0 : Int32) (t2 : Int32) (t3 : Int32) : Option (Int32 × Unit) :=
  bnd (f_Mod_nameAt r (t2 * t3)) (fun q => B_Mod_isNamed_113  r4 r54 r x1 x3 x4 x5 t0 q.1)
theorem e_B_Mod_isNamed_109 {sc : Nat × (Nat → Int32)} {d : DS} {f : FS} {w : WS} {m : MS} {s : SS} {g : GS} {tl : List mn_E}  (r4 : RS → Int32 → Int32 → Int32 → Option (Int32 × Unit)) (r54 : RS → Int32 → Int32 → Int32 → Int32 → Int32 → Option (Int32 × Unit)) (hr4 : ∀ (r : RS) (x1 : Int32) (x2 : Int32) (x3 : Int32), Ev sc 2 33 0 0 M_Mod_isNamed 4 [(0, .ref 12), (1, .int x1), (2, .int x2), (3, .int x3)] [] (eLV :: (HD d (HF f (HW w (HM m (HS s (HG g (HR r tl)))))))) (mapR ouI (fun z => (eLV :: (HD d (HF f (HW w (HM m (HS s (HG g (HR r tl))))))))) (r4 r x1 x2 x3))) (hr54 : ∀ (r : RS) (x1 : Int32) (x2 : Int32) (x3 : Int32) (x4 : Int32) (x5 : Int32), Ev sc 2 33 0 0 M_Mod_isNamed 54 [(0, .ref 12), (1, .int x1), (2, .int x2), (3, .int x3), (4, .int x4), (5, .int x5)] [] (eLV :: (HD d (HF f (HW w (HM m (HS s (HG g (HR r tl)))))))) (mapR ouI (fun z => (eLV :: (HD d (HF f (HW w (HM m (HS s (HG g (HR r tl))))))))) (r54 r x1 x2 x3 x4 x5))) (r : RS) (x1 : Int32) (x3 : Int32) (x4 : Int32) (x5 : Int32) (t0 : Int32) (t2 : Int32) (t3 : Int32) : Ev sc 2 33 0 0 M_Mod_isNamed 109 [(0, .ref 12), (1, .int x1), (3, .int x3), (4, .int x4), (5, .int x5)] [.int t3, .int t2, .ref 12, .int t0] (eLV :: (HD d (HF f (HW w (HM m (HS s (HG g (HR r tl)))))))) (mapR ouI (fun z => (eLV :: (HD d (HF f (HW w (HM m (HS s (HG g (HR r tl))))))))) (B_Mod_isNamed_109 r4 r54 r x1 x3 x4 x5 t0 t2 t3)) := by
  unfold B_Mod_isNamed_109
  refine ev_imul d_Mod_isNamed_109 ?_
  refine ev_callB (rc := (f_Mod_nameAt r (t2 * t3))) (ou := ouI) (Hs := (fun z => (eLV :: (HD d (HF f (HW w (HM m (HS s (HG g (HR r tl)))))))))) (inv_V (q := 12) (av := [.int (t2 * t3)]) (rest := [.int t0]) rfl (ci := 6) rfl d_Mod_isNamed_110 gw_1131 gw_1133 gw_56 mw_Mod_nameAt nh_Mod_nameAt pn_Mod_nameAt rfl) d_Mod_isNamed_110 pl_Mod_nameAt (Nat.le_of_ble_eq_true rfl) (Nat.le_of_ble_eq_true rfl) (Nat.le_of_ble_eq_true rfl) (e_f_Mod_nameAt (tl := tl) (d := d) (f := f) (w := w) (m := m) (s := s) (g := g)  r (t2 * t3)) (fun _ => (len1 (lenHD (lenHF (lenHW (lenHM (lenHS (lenHG (lenHR rfl))))))))) (fun v z h1 => ⟨_, rfl, ?_⟩)
  exact ev_pick [0, 1, 2, 3, 4] rfl (e_B_Mod_isNamed_113   r4 r54 hr4 hr54 r x1 x3 x4 x5 t0 v)
def B_Mod_isNamed_101  (r4 : RS → Int32 → Int32 → Int32 → Option (Int32 × Unit)) (r54 : RS → Int32 → Int32 → Int32 → Int32 → Int32 → Option (Int32 × Unit)) (r : RS) (x1 : Int32) (x3 : Int32) (x4 : Int32) (x5 : Int32) (t0 : Int32) : Option (Int32 × Unit) :=
  bnd (f_Mod_headOf r x1) (fun q => B_Mod_isNamed_109  r4 r54 r x1 x3 x4 x5 t0 8 q.1)
theorem e_B_Mod_isNamed_101 {sc : Nat × (Nat → Int32)} {d : DS} {f : FS} {w : WS} {m : MS} {s : SS} {g : GS} {tl : List mn_E}  (r4 : RS → Int32 → Int32 → Int32 → Option (Int32 × Unit)) (r54 : RS → Int32 → Int32 → Int32 → Int32 → Int32 → Option (Int32 × Unit)) (hr4 : ∀ (r : RS) (x1 : Int32) (x2 : Int32) (x3 : Int32), Ev sc 2 33 0 0 M_Mod_isNamed 4 [(0, .ref 12), (1, .int x1), (2, .int x2), (3, .int x3)] [] (eLV :: (HD d (HF f (HW w (HM m (HS s (HG g (HR r tl)))))))) (mapR ouI (fun z => (eLV :: (HD d (HF f (HW w (HM m (HS s (HG g (HR r tl))))))))) (r4 r x1 x2 x3))) (hr54 : ∀ (r : RS) (x1 : Int32) (x2 : Int32) (x3 : Int32) (x4 : Int32) (x5 : Int32), Ev sc 2 33 0 0 M_Mod_isNamed 54 [(0, .ref 12), (1, .int x1), (2, .int x2), (3, .int x3), (4, .int x4), (5, .int x5)] [] (eLV :: (HD d (HF f (HW w (HM m (HS s (HG g (HR r tl)))))))) (mapR ouI (fun z => (eLV :: (HD d (HF f (HW w (HM m (HS s (HG g (HR r tl))))))))) (r54 r x1 x2 x3 x4 x5))) (r : RS) (x1 : Int32) (x3 : Int32) (x4 : Int32) (x5 : Int32) (t0 : Int32) : Ev sc 2 33 0 0 M_Mod_isNamed 101 [(0, .ref 12), (1, .int x1), (3, .int x3), (4, .int x4), (5, .int x5)] [.int t0] (eLV :: (HD d (HF f (HW w (HM m (HS s (HG g (HR r tl)))))))) (mapR ouI (fun z => (eLV :: (HD d (HF f (HW w (HM m (HS s (HG g (HR r tl))))))))) (B_Mod_isNamed_101 r4 r54 r x1 x3 x4 x5 t0)) := by
  unfold B_Mod_isNamed_101
  refine ev_aload_n d_Mod_isNamed_101 rfl rfl ?_
  refine ev_bipush (v := 8) d_Mod_isNamed_102 rfl ?_
  refine ev_aload_n d_Mod_isNamed_104 rfl rfl ?_
  refine ev_iload_n d_Mod_isNamed_105 rfl rfl ?_
  refine ev_callB (rc := (f_Mod_headOf r x1)) (ou := ouI) (Hs := (fun z => (eLV :: (HD d (HF f (HW w (HM m (HS s (HG g (HR r tl)))))))))) (inv_V (q := 12) (av := [.int x1]) (rest := [.int 8, .ref 12, .int t0]) rfl (ci := 6) rfl d_Mod_isNamed_106 gw_1283 gw_1285 gw_86 mw_Mod_headOf nh_Mod_headOf pn_Mod_headOf rfl) d_Mod_isNamed_106 pl_Mod_headOf (Nat.le_of_ble_eq_true rfl) (Nat.le_of_ble_eq_true rfl) (Nat.le_of_ble_eq_true rfl) (e_f_Mod_headOf (tl := tl) (d := d) (f := f) (w := w) (m := m) (s := s) (g := g)  r x1) (fun _ => (len1 (lenHD (lenHF (lenHW (lenHM (lenHS (lenHG (lenHR rfl))))))))) (fun v z h1 => ⟨_, rfl, ?_⟩)
  exact ev_pick [0, 1, 2, 3, 4] rfl (e_B_Mod_isNamed_109   r4 r54 hr4 hr54 r x1 x3 x4 x5 t0 8 v)
def B_Mod_isNamed_80  (r4 : RS → Int32 → Int32 → Int32 → Option (Int32 × Unit)) (r54 : RS → Int32 → Int32 → Int32 → Int32 → Int32 → Option (Int32 × Unit)) (r : RS) (x1 : Int32) (x3 : Int32) (x4 : Int32) (x5 : Int32) (t0 : Int32) : Option (Int32 × Unit) :=
  if inB (t0 + 2) 320 then (if ¬ (rByt r (t0 + 2).toNatClampNeg) = x1 then (B_Mod_isNamed_120  r4 r54 r x1 x3 x4 x5) else (bnd (f_Mod_nameAt r t0) (fun q => B_Mod_isNamed_101  r4 r54 r x1 x3 x4 x5 q.1))) else none
theorem e_B_Mod_isNamed_80 {sc : Nat × (Nat → Int32)} {d : DS} {f : FS} {w : WS} {m : MS} {s : SS} {g : GS} {tl : List mn_E}  (r4 : RS → Int32 → Int32 → Int32 → Option (Int32 × Unit)) (r54 : RS → Int32 → Int32 → Int32 → Int32 → Int32 → Option (Int32 × Unit)) (hr4 : ∀ (r : RS) (x1 : Int32) (x2 : Int32) (x3 : Int32), Ev sc 2 33 0 0 M_Mod_isNamed 4 [(0, .ref 12), (1, .int x1), (2, .int x2), (3, .int x3)] [] (eLV :: (HD d (HF f (HW w (HM m (HS s (HG g (HR r tl)))))))) (mapR ouI (fun z => (eLV :: (HD d (HF f (HW w (HM m (HS s (HG g (HR r tl))))))))) (r4 r x1 x2 x3))) (hr54 : ∀ (r : RS) (x1 : Int32) (x2 : Int32) (x3 : Int32) (x4 : Int32) (x5 : Int32), Ev sc 2 33 0 0 M_Mod_isNamed 54 [(0, .ref 12), (1, .int x1), (2, .int x2), (3, .int x3), (4, .int x4), (5, .int x5)] [] (eLV :: (HD d (HF f (HW w (HM m (HS s (HG g (HR r tl)))))))) (mapR ouI (fun z => (eLV :: (HD d (HF f (HW w (HM m (HS s (HG g (HR r tl))))))))) (r54 r x1 x2 x3 x4 x5))) (r : RS) (x1 : Int32) (x3 : Int32) (x4 : Int32) (x5 : Int32) (t0 : Int32) : Ev sc 2 33 0 0 M_Mod_isNamed 80 [(0, .ref 12), (1, .int x1), (3, .int x3), (4, .int x4), (5, .int x5)] [.int t0] (eLV :: (HD d (HF f (HW w (HM m (HS s (HG g (HR r tl)))))))) (mapR ouI (fun z => (eLV :: (HD d (HF f (HW w (HM m (HS s (HG g (HR r tl))))))))) (B_Mod_isNamed_80 r4 r54 r x1 x3 x4 x5 t0)) := by
  unfold B_Mod_isNamed_80
  refine ev_istore d_Mod_isNamed_80 (by decide) rfl ?_
  refine ev_aload_n d_Mod_isNamed_82 rfl rfl ?_
  refine ev_get (v := .ref 18) gi_Mod (ci := 6) rfl rfl 7 (by decide) gw_1008 rfl d_Mod_isNamed_83 ?_
  refine ev_iload d_Mod_isNamed_86 rfl ?_
  refine ev_iconst (v := 2) d_Mod_isNamed_88 rfl ?_
  refine ev_iadd d_Mod_isNamed_89 ?_
  refine ev_inB (fun h1 => ?_)
  refine ev_iaload rfl (inB_of h1) d_Mod_isNamed_90 ?_
  refine ev_iload_n d_Mod_isNamed_91 rfl rfl ?_
  refine ev_icmp_ne (tgt := 120) d_Mod_isNamed_92 rfl (fun h2 => ?_) (fun h2 => ?_)
  · rw [if_pos h2]
    exact ev_pick [1, 2, 3, 4, 5] rfl (e_B_Mod_isNamed_120   r4 r54 hr4 hr54 r x1 x3 x4 x5)
  · rw [if_neg h2]
    refine ev_aload_n d_Mod_isNamed_95 rfl rfl ?_
    refine ev_iload d_Mod_isNamed_96 rfl ?_
    refine ev_callB (rc := (f_Mod_nameAt r t0)) (ou := ouI) (Hs := (fun z => (eLV :: (HD d (HF f (HW w (HM m (HS s (HG g (HR r tl)))))))))) (inv_V (q := 12) (av := [.int t0]) (rest := []) rfl (ci := 6) rfl d_Mod_isNamed_98 gw_1131 gw_1133 gw_56 mw_Mod_nameAt nh_Mod_nameAt pn_Mod_nameAt rfl) d_Mod_isNamed_98 pl_Mod_nameAt (Nat.le_of_ble_eq_true rfl) (Nat.le_of_ble_eq_true rfl) (Nat.le_of_ble_eq_true rfl) (e_f_Mod_nameAt (tl := tl) (d := d) (f := f) (w := w) (m := m) (s := s) (g := g)  r t0) (fun _ => (len1 (lenHD (lenHF (lenHW (lenHM (lenHS (lenHG (lenHR rfl))))))))) (fun v z h3 => ⟨_, rfl, ?_⟩)
    exact ev_pick [1, 2, 3, 4, 5] rfl (e_B_Mod_isNamed_101   r4 r54 hr4 hr54 r x1 x3 x4 x5 v)
def B_Mod_isNamed_70  (r4 : RS → Int32 → Int32 → Int32 → Option (Int32 × Unit)) (r54 : RS → Int32 → Int32 → Int32 → Int32 → Int32 → Option (Int32 × Unit)) (r : RS) (x1 : Int32) (x2 : Int32) (x3 : Int32) (x4 : Int32) (x5 : Int32) (t0 : Int32) : Option (Int32 × Unit) :=
  if t0 < 0 then (B_Mod_isNamed_128  r4 r x1 x2 x3) else (bnd (f_Mod_place r x3 x5) (fun q => B_Mod_isNamed_80  r4 r54 r x1 x3 x4 x5 q.1))
theorem e_B_Mod_isNamed_70 {sc : Nat × (Nat → Int32)} {d : DS} {f : FS} {w : WS} {m : MS} {s : SS} {g : GS} {tl : List mn_E}  (r4 : RS → Int32 → Int32 → Int32 → Option (Int32 × Unit)) (r54 : RS → Int32 → Int32 → Int32 → Int32 → Int32 → Option (Int32 × Unit)) (hr4 : ∀ (r : RS) (x1 : Int32) (x2 : Int32) (x3 : Int32), Ev sc 2 33 0 0 M_Mod_isNamed 4 [(0, .ref 12), (1, .int x1), (2, .int x2), (3, .int x3)] [] (eLV :: (HD d (HF f (HW w (HM m (HS s (HG g (HR r tl)))))))) (mapR ouI (fun z => (eLV :: (HD d (HF f (HW w (HM m (HS s (HG g (HR r tl))))))))) (r4 r x1 x2 x3))) (hr54 : ∀ (r : RS) (x1 : Int32) (x2 : Int32) (x3 : Int32) (x4 : Int32) (x5 : Int32), Ev sc 2 33 0 0 M_Mod_isNamed 54 [(0, .ref 12), (1, .int x1), (2, .int x2), (3, .int x3), (4, .int x4), (5, .int x5)] [] (eLV :: (HD d (HF f (HW w (HM m (HS s (HG g (HR r tl)))))))) (mapR ouI (fun z => (eLV :: (HD d (HF f (HW w (HM m (HS s (HG g (HR r tl))))))))) (r54 r x1 x2 x3 x4 x5))) (r : RS) (x1 : Int32) (x2 : Int32) (x3 : Int32) (x4 : Int32) (x5 : Int32) (t0 : Int32) : Ev sc 2 33 0 0 M_Mod_isNamed 70 [(0, .ref 12), (1, .int x1), (2, .int x2), (3, .int x3), (4, .int x4), (5, .int x5)] [.int t0] (eLV :: (HD d (HF f (HW w (HM m (HS s (HG g (HR r tl)))))))) (mapR ouI (fun z => (eLV :: (HD d (HF f (HW w (HM m (HS s (HG g (HR r tl))))))))) (B_Mod_isNamed_70 r4 r54 r x1 x2 x3 x4 x5 t0)) := by
  unfold B_Mod_isNamed_70
  refine ev_if_lt (tgt := 128) d_Mod_isNamed_70 rfl (fun h1 => ?_) (fun h1 => ?_)
  · rw [if_pos h1]
    exact ev_pick [0, 1, 2, 3] rfl (e_B_Mod_isNamed_128   r4 hr4 r x1 x2 x3)
  · rw [if_neg h1]
    refine ev_aload_n d_Mod_isNamed_73 rfl rfl ?_
    refine ev_iload_n d_Mod_isNamed_74 rfl rfl ?_
    refine ev_iload d_Mod_isNamed_75 rfl ?_
    refine ev_callB (rc := (f_Mod_place r x3 x5)) (ou := ouI) (Hs := (fun z => (eLV :: (HD d (HF f (HW w (HM m (HS s (HG g (HR r tl)))))))))) (inv_V (q := 12) (av := [.int x3, .int x5]) (rest := []) rfl (ci := 6) rfl d_Mod_isNamed_77 gw_1308 gw_1310 gw_92 mw_Mod_place nh_Mod_place pn_Mod_place rfl) d_Mod_isNamed_77 pl_Mod_place (Nat.le_of_ble_eq_true rfl) (Nat.le_of_ble_eq_true rfl) (Nat.le_of_ble_eq_true rfl) (e_f_Mod_place (tl := tl) (d := d) (f := f) (w := w) (m := m) (s := s) (g := g)  r x3 x5) (fun _ => (len1 (lenHD (lenHF (lenHW (lenHM (lenHS (lenHG (lenHR rfl))))))))) (fun v z h2 => ⟨_, rfl, ?_⟩)
    exact ev_pick [0, 1, 3, 4, 5] rfl (e_B_Mod_isNamed_80   r4 r54 hr4 hr54 r x1 x3 x4 x5 v)
def L_Mod_isNamed_54  (r4 : RS → Int32 → Int32 → Int32 → Option (Int32 × Unit)) : Nat → RS → Int32 → Int32 → Int32 → Int32 → Int32 → Option (Int32 × Unit)
  | 0, _, _, _, _, _, _ => none
  | n + 1, r, x1, x2, x3, x4, x5 =>
  if x4 = 0 then (B_Mod_isNamed_128  r4 r x1 x2 x3) else (if ¬ x2 = 0 then (B_Mod_isNamed_128  r4 r x1 x2 x3) else (bnd (f_Mod_place r x3 x5) (fun q => B_Mod_isNamed_70  r4 (L_Mod_isNamed_54 r4 n) r x1 x2 x3 x4 x5 q.1)))
theorem e_L_Mod_isNamed_54 {sc : Nat × (Nat → Int32)} {d : DS} {f : FS} {w : WS} {m : MS} {s : SS} {g : GS} {tl : List mn_E}  (r4 : RS → Int32 → Int32 → Int32 → Option (Int32 × Unit)) (hr4 : ∀ (r : RS) (x1 : Int32) (x2 : Int32) (x3 : Int32), Ev sc 2 33 0 0 M_Mod_isNamed 4 [(0, .ref 12), (1, .int x1), (2, .int x2), (3, .int x3)] [] (eLV :: (HD d (HF f (HW w (HM m (HS s (HG g (HR r tl)))))))) (mapR ouI (fun z => (eLV :: (HD d (HF f (HW w (HM m (HS s (HG g (HR r tl))))))))) (r4 r x1 x2 x3))) : ∀ (n : Nat) (r : RS) (x1 : Int32) (x2 : Int32) (x3 : Int32) (x4 : Int32) (x5 : Int32), Ev sc 2 33 0 0 M_Mod_isNamed 54 [(0, .ref 12), (1, .int x1), (2, .int x2), (3, .int x3), (4, .int x4), (5, .int x5)] [] (eLV :: (HD d (HF f (HW w (HM m (HS s (HG g (HR r tl)))))))) (mapR ouI (fun z => (eLV :: (HD d (HF f (HW w (HM m (HS s (HG g (HR r tl))))))))) (L_Mod_isNamed_54  r4 n r x1 x2 x3 x4 x5)) := by
  intro n
  induction n with
  | zero => intro r x1 x2 x3 x4 x5; exact ev_none
  | succ n ih =>
    intro r x1 x2 x3 x4 x5
    rw [L_Mod_isNamed_54]
    refine ev_iload d_Mod_isNamed_54 rfl ?_
    refine ev_if_eq (tgt := 128) d_Mod_isNamed_56 rfl (fun h1 => ?_) (fun h1 => ?_)
    · rw [if_pos h1]
      exact ev_pick [0, 1, 2, 3] rfl (e_B_Mod_isNamed_128   r4 hr4 r x1 x2 x3)
    · rw [if_neg h1]
      refine ev_iload_n d_Mod_isNamed_59 rfl rfl ?_
      refine ev_if_ne (tgt := 128) d_Mod_isNamed_60 rfl (fun h2 => ?_) (fun h2 => ?_)
      · rw [if_pos h2]
        exact ev_pick [0, 1, 2, 3] rfl (e_B_Mod_isNamed_128   r4 hr4 r x1 x2 x3)
      · rw [if_neg h2]
        refine ev_aload_n d_Mod_isNamed_63 rfl rfl ?_
        refine ev_iload_n d_Mod_isNamed_64 rfl rfl ?_
        refine ev_iload d_Mod_isNamed_65 rfl ?_
        refine ev_callB (rc := (f_Mod_place r x3 x5)) (ou := ouI) (Hs := (fun z => (eLV :: (HD d (HF f (HW w (HM m (HS s (HG g (HR r tl)))))))))) (inv_V (q := 12) (av := [.int x3, .int x5]) (rest := []) rfl (ci := 6) rfl d_Mod_isNamed_67 gw_1308 gw_1310 gw_92 mw_Mod_place nh_Mod_place pn_Mod_place rfl) d_Mod_isNamed_67 pl_Mod_place (Nat.le_of_ble_eq_true rfl) (Nat.le_of_ble_eq_true rfl) (Nat.le_of_ble_eq_true rfl) (e_f_Mod_place (tl := tl) (d := d) (f := f) (w := w) (m := m) (s := s) (g := g)  r x3 x5) (fun _ => (len1 (lenHD (lenHF (lenHW (lenHM (lenHS (lenHG (lenHR rfl))))))))) (fun v z h3 => ⟨_, rfl, ?_⟩)
        exact ev_pick [0, 1, 2, 3, 4, 5] rfl (e_B_Mod_isNamed_70   r4 (L_Mod_isNamed_54 r4 n) hr4 ih r x1 x2 x3 x4 x5 v)
def B_Mod_isNamed_49  (r4 : RS → Int32 → Int32 → Int32 → Option (Int32 × Unit)) (r : RS) (x1 : Int32) (x2 : Int32) (x3 : Int32) (t0 : Int32) : Option (Int32 × Unit) :=
  L_Mod_isNamed_54  r4 1000 r x1 x2 x3 t0 0
theorem e_B_Mod_isNamed_49 {sc : Nat × (Nat → Int32)} {d : DS} {f : FS} {w : WS} {m : MS} {s : SS} {g : GS} {tl : List mn_E}  (r4 : RS → Int32 → Int32 → Int32 → Option (Int32 × Unit)) (hr4 : ∀ (r : RS) (x1 : Int32) (x2 : Int32) (x3 : Int32), Ev sc 2 33 0 0 M_Mod_isNamed 4 [(0, .ref 12), (1, .int x1), (2, .int x2), (3, .int x3)] [] (eLV :: (HD d (HF f (HW w (HM m (HS s (HG g (HR r tl)))))))) (mapR ouI (fun z => (eLV :: (HD d (HF f (HW w (HM m (HS s (HG g (HR r tl))))))))) (r4 r x1 x2 x3))) (r : RS) (x1 : Int32) (x2 : Int32) (x3 : Int32) (t0 : Int32) : Ev sc 2 33 0 0 M_Mod_isNamed 49 [(0, .ref 12), (1, .int x1), (2, .int x2), (3, .int x3)] [.int t0] (eLV :: (HD d (HF f (HW w (HM m (HS s (HG g (HR r tl)))))))) (mapR ouI (fun z => (eLV :: (HD d (HF f (HW w (HM m (HS s (HG g (HR r tl))))))))) (B_Mod_isNamed_49 r4 r x1 x2 x3 t0)) := by
  unfold B_Mod_isNamed_49
  refine ev_istore d_Mod_isNamed_49 (by decide) rfl ?_
  refine ev_iconst (v := 0) d_Mod_isNamed_51 rfl ?_
  refine ev_istore d_Mod_isNamed_52 (by decide) rfl ?_
  exact ev_pick [2, 3, 4, 5, 1, 0] rfl (e_L_Mod_isNamed_54   r4 hr4 1000 r x1 x2 x3 t0 0)
def B_Mod_isNamed_48  (r4 : RS → Int32 → Int32 → Int32 → Option (Int32 × Unit)) (r : RS) (x1 : Int32) (x2 : Int32) (x3 : Int32) : Option (Int32 × Unit) :=
  B_Mod_isNamed_49  r4 r x1 x2 x3 0
theorem e_B_Mod_isNamed_48 {sc : Nat × (Nat → Int32)} {d : DS} {f : FS} {w : WS} {m : MS} {s : SS} {g : GS} {tl : List mn_E}  (r4 : RS → Int32 → Int32 → Int32 → Option (Int32 × Unit)) (hr4 : ∀ (r : RS) (x1 : Int32) (x2 : Int32) (x3 : Int32), Ev sc 2 33 0 0 M_Mod_isNamed 4 [(0, .ref 12), (1, .int x1), (2, .int x2), (3, .int x3)] [] (eLV :: (HD d (HF f (HW w (HM m (HS s (HG g (HR r tl)))))))) (mapR ouI (fun z => (eLV :: (HD d (HF f (HW w (HM m (HS s (HG g (HR r tl))))))))) (r4 r x1 x2 x3))) (r : RS) (x1 : Int32) (x2 : Int32) (x3 : Int32) : Ev sc 2 33 0 0 M_Mod_isNamed 48 [(0, .ref 12), (1, .int x1), (2, .int x2), (3, .int x3)] [] (eLV :: (HD d (HF f (HW w (HM m (HS s (HG g (HR r tl)))))))) (mapR ouI (fun z => (eLV :: (HD d (HF f (HW w (HM m (HS s (HG g (HR r tl))))))))) (B_Mod_isNamed_48 r4 r x1 x2 x3)) := by
  unfold B_Mod_isNamed_48
  refine ev_iconst (v := 0) d_Mod_isNamed_48 rfl ?_
  exact ev_pick [0, 1, 2, 3] rfl (e_B_Mod_isNamed_49   r4 hr4 r x1 x2 x3 0)
def B_Mod_isNamed_41  (r4 : RS → Int32 → Int32 → Int32 → Option (Int32 × Unit)) (r : RS) (x1 : Int32) (x2 : Int32) (x3 : Int32) (t0 : Int32) : Option (Int32 × Unit) :=
  if t0 = 0 then (B_Mod_isNamed_48  r4 r x1 x2 x3) else (B_Mod_isNamed_49  r4 r x1 x2 x3 1)
theorem e_B_Mod_isNamed_41 {sc : Nat × (Nat → Int32)} {d : DS} {f : FS} {w : WS} {m : MS} {s : SS} {g : GS} {tl : List mn_E}  (r4 : RS → Int32 → Int32 → Int32 → Option (Int32 × Unit)) (hr4 : ∀ (r : RS) (x1 : Int32) (x2 : Int32) (x3 : Int32), Ev sc 2 33 0 0 M_Mod_isNamed 4 [(0, .ref 12), (1, .int x1), (2, .int x2), (3, .int x3)] [] (eLV :: (HD d (HF f (HW w (HM m (HS s (HG g (HR r tl)))))))) (mapR ouI (fun z => (eLV :: (HD d (HF f (HW w (HM m (HS s (HG g (HR r tl))))))))) (r4 r x1 x2 x3))) (r : RS) (x1 : Int32) (x2 : Int32) (x3 : Int32) (t0 : Int32) : Ev sc 2 33 0 0 M_Mod_isNamed 41 [(0, .ref 12), (1, .int x1), (2, .int x2), (3, .int x3)] [.int t0] (eLV :: (HD d (HF f (HW w (HM m (HS s (HG g (HR r tl)))))))) (mapR ouI (fun z => (eLV :: (HD d (HF f (HW w (HM m (HS s (HG g (HR r tl))))))))) (B_Mod_isNamed_41 r4 r x1 x2 x3 t0)) := by
  unfold B_Mod_isNamed_41
  refine ev_if_eq (tgt := 48) d_Mod_isNamed_41 rfl (fun h1 => ?_) (fun h1 => ?_)
  · rw [if_pos h1]
    exact ev_pick [0, 1, 2, 3] rfl (e_B_Mod_isNamed_48   r4 hr4 r x1 x2 x3)
  · rw [if_neg h1]
    refine ev_iconst (v := 1) d_Mod_isNamed_44 rfl ?_
    refine ev_goto (tgt := 49) d_Mod_isNamed_45 rfl ?_
    exact ev_pick [0, 1, 2, 3] rfl (e_B_Mod_isNamed_49   r4 hr4 r x1 x2 x3 1)
def B_Mod_isNamed_38  (r4 : RS → Int32 → Int32 → Int32 → Option (Int32 × Unit)) (r : RS) (x1 : Int32) (x2 : Int32) (x3 : Int32) (t1 : Int32) : Option (Int32 × Unit) :=
  bnd (f_Mod_isDirectory r t1) (fun q => B_Mod_isNamed_41  r4 r x1 x2 x3 q.1)
theorem e_B_Mod_isNamed_38 {sc : Nat × (Nat → Int32)} {d : DS} {f : FS} {w : WS} {m : MS} {s : SS} {g : GS} {tl : List mn_E}  (r4 : RS → Int32 → Int32 → Int32 → Option (Int32 × Unit)) (hr4 : ∀ (r : RS) (x1 : Int32) (x2 : Int32) (x3 : Int32), Ev sc 2 33 0 0 M_Mod_isNamed 4 [(0, .ref 12), (1, .int x1), (2, .int x2), (3, .int x3)] [] (eLV :: (HD d (HF f (HW w (HM m (HS s (HG g (HR r tl)))))))) (mapR ouI (fun z => (eLV :: (HD d (HF f (HW w (HM m (HS s (HG g (HR r tl))))))))) (r4 r x1 x2 x3))) (r : RS) (x1 : Int32) (x2 : Int32) (x3 : Int32) (t1 : Int32) : Ev sc 2 33 0 0 M_Mod_isNamed 38 [(0, .ref 12), (1, .int x1), (2, .int x2), (3, .int x3)] [.int t1, .ref 12] (eLV :: (HD d (HF f (HW w (HM m (HS s (HG g (HR r tl)))))))) (mapR ouI (fun z => (eLV :: (HD d (HF f (HW w (HM m (HS s (HG g (HR r tl))))))))) (B_Mod_isNamed_38 r4 r x1 x2 x3 t1)) := by
  unfold B_Mod_isNamed_38
  refine ev_callB (rc := (f_Mod_isDirectory r t1)) (ou := ouI) (Hs := (fun z => (eLV :: (HD d (HF f (HW w (HM m (HS s (HG g (HR r tl)))))))))) (inv_V (q := 12) (av := [.int t1]) (rest := []) rfl (ci := 6) rfl d_Mod_isNamed_38 gw_1123 gw_1125 gw_54 mw_Mod_isDirectory nh_Mod_isDirectory pn_Mod_isDirectory rfl) d_Mod_isNamed_38 pl_Mod_isDirectory (Nat.le_of_ble_eq_true rfl) (Nat.le_of_ble_eq_true rfl) (Nat.le_of_ble_eq_true rfl) (e_f_Mod_isDirectory (tl := tl) (d := d) (f := f) (w := w) (m := m) (s := s) (g := g)  r t1) (fun _ => (len1 (lenHD (lenHF (lenHW (lenHM (lenHS (lenHG (lenHR rfl))))))))) (fun v z h1 => ⟨_, rfl, ?_⟩)
  exact ev_pick [0, 1, 2, 3] rfl (e_B_Mod_isNamed_41   r4 hr4 r x1 x2 x3 v)
def B_Mod_isNamed_20  (r4 : RS → Int32 → Int32 → Int32 → Option (Int32 × Unit)) (r : RS) (x1 : Int32) (x2 : Int32) (x3 : Int32) (t0 : Int32) : Option (Int32 × Unit) :=
  if t0 = 0 then (B_Mod_isNamed_48  r4 r x1 x2 x3) else (if inB x3 61 then (if ¬ (rRea r x3.toNatClampNeg) = 0 then (B_Mod_isNamed_48  r4 r x1 x2 x3) else (bnd (f_Mod_headOf r x3) (fun q => B_Mod_isNamed_38  r4 r x1 x2 x3 q.1))) else none)
theorem e_B_Mod_isNamed_20 {sc : Nat × (Nat → Int32)} {d : DS} {f : FS} {w : WS} {m : MS} {s : SS} {g : GS} {tl : List mn_E}  (r4 : RS → Int32 → Int32 → Int32 → Option (Int32 × Unit)) (hr4 : ∀ (r : RS) (x1 : Int32) (x2 : Int32) (x3 : Int32), Ev sc 2 33 0 0 M_Mod_isNamed 4 [(0, .ref 12), (1, .int x1), (2, .int x2), (3, .int x3)] [] (eLV :: (HD d (HF f (HW w (HM m (HS s (HG g (HR r tl)))))))) (mapR ouI (fun z => (eLV :: (HD d (HF f (HW w (HM m (HS s (HG g (HR r tl))))))))) (r4 r x1 x2 x3))) (r : RS) (x1 : Int32) (x2 : Int32) (x3 : Int32) (t0 : Int32) : Ev sc 2 33 0 0 M_Mod_isNamed 20 [(0, .ref 12), (1, .int x1), (2, .int x2), (3, .int x3)] [.int t0] (eLV :: (HD d (HF f (HW w (HM m (HS s (HG g (HR r tl)))))))) (mapR ouI (fun z => (eLV :: (HD d (HF f (HW w (HM m (HS s (HG g (HR r tl))))))))) (B_Mod_isNamed_20 r4 r x1 x2 x3 t0)) := by
  unfold B_Mod_isNamed_20
  refine ev_if_eq (tgt := 48) d_Mod_isNamed_20 rfl (fun h1 => ?_) (fun h1 => ?_)
  · rw [if_pos h1]
    exact ev_pick [0, 1, 2, 3] rfl (e_B_Mod_isNamed_48   r4 hr4 r x1 x2 x3)
  · rw [if_neg h1]
    refine ev_aload_n d_Mod_isNamed_23 rfl rfl ?_
    refine ev_get (v := .ref 26) gi_Mod (ci := 6) rfl rfl 26 (by decide) gw_1027 rfl d_Mod_isNamed_24 ?_
    refine ev_iload_n d_Mod_isNamed_27 rfl rfl ?_
    refine ev_inB (fun h2 => ?_)
    refine ev_zaload rfl (inB_of h2) d_Mod_isNamed_28 ?_
    refine ev_if_ne (tgt := 48) d_Mod_isNamed_29 rfl (fun h3 => ?_) (fun h3 => ?_)
    · rw [if_pos h3]
      exact ev_pick [0, 1, 2, 3] rfl (e_B_Mod_isNamed_48   r4 hr4 r x1 x2 x3)
    · rw [if_neg h3]
      refine ev_aload_n d_Mod_isNamed_32 rfl rfl ?_
      refine ev_aload_n d_Mod_isNamed_33 rfl rfl ?_
      refine ev_iload_n d_Mod_isNamed_34 rfl rfl ?_
      refine ev_callB (rc := (f_Mod_headOf r x3)) (ou := ouI) (Hs := (fun z => (eLV :: (HD d (HF f (HW w (HM m (HS s (HG g (HR r tl)))))))))) (inv_V (q := 12) (av := [.int x3]) (rest := [.ref 12]) rfl (ci := 6) rfl d_Mod_isNamed_35 gw_1283 gw_1285 gw_86 mw_Mod_headOf nh_Mod_headOf pn_Mod_headOf rfl) d_Mod_isNamed_35 pl_Mod_headOf (Nat.le_of_ble_eq_true rfl) (Nat.le_of_ble_eq_true rfl) (Nat.le_of_ble_eq_true rfl) (e_f_Mod_headOf (tl := tl) (d := d) (f := f) (w := w) (m := m) (s := s) (g := g)  r x3) (fun _ => (len1 (lenHD (lenHF (lenHW (lenHM (lenHS (lenHG (lenHR rfl))))))))) (fun v z h4 => ⟨_, rfl, ?_⟩)
      exact ev_pick [0, 1, 2, 3] rfl (e_B_Mod_isNamed_38   r4 hr4 r x1 x2 x3 v)
def L_Mod_isNamed_4   : Nat → RS → Int32 → Int32 → Int32 → Option (Int32 × Unit)
  | 0, _, _, _, _ => none
  | n + 1, r, x1, x2, x3 =>
  if 61 ≤ x3 then (some ((vp_nar .boolean x2), ())) else (if x3 = x1 then (B_Mod_isNamed_48  (L_Mod_isNamed_4 n) r x1 x2 x3) else (bnd (f_Mod_isThere r x3) (fun q => B_Mod_isNamed_20  (L_Mod_isNamed_4 n) r x1 x2 x3 q.1)))
theorem e_L_Mod_isNamed_4 {sc : Nat × (Nat → Int32)} {d : DS} {f : FS} {w : WS} {m : MS} {s : SS} {g : GS} {tl : List mn_E}    : ∀ (n : Nat) (r : RS) (x1 : Int32) (x2 : Int32) (x3 : Int32), Ev sc 2 33 0 0 M_Mod_isNamed 4 [(0, .ref 12), (1, .int x1), (2, .int x2), (3, .int x3)] [] (eLV :: (HD d (HF f (HW w (HM m (HS s (HG g (HR r tl)))))))) (mapR ouI (fun z => (eLV :: (HD d (HF f (HW w (HM m (HS s (HG g (HR r tl))))))))) (L_Mod_isNamed_4   n r x1 x2 x3)) := by
  intro n
  induction n with
  | zero => intro r x1 x2 x3; exact ev_none
  | succ n ih =>
    intro r x1 x2 x3
    rw [L_Mod_isNamed_4]
    refine ev_iload_n d_Mod_isNamed_4 rfl rfl ?_
    refine ev_bipush (v := 61) d_Mod_isNamed_5 rfl ?_
    refine ev_icmp_ge (tgt := 134) d_Mod_isNamed_7 rfl (fun h1 => ?_) (fun h1 => ?_)
    · rw [if_pos h1]
      refine ev_iload_n d_Mod_isNamed_134 rfl rfl ?_
      exact ev_zretN rfl d_Mod_isNamed_135
    · rw [if_neg h1]
      refine ev_iload_n d_Mod_isNamed_10 rfl rfl ?_
      refine ev_iload_n d_Mod_isNamed_11 rfl rfl ?_
      refine ev_icmp_eq (tgt := 48) d_Mod_isNamed_12 rfl (fun h2 => ?_) (fun h2 => ?_)
      · rw [if_pos h2]
        exact ev_pick [0, 1, 2, 3] rfl (e_B_Mod_isNamed_48   (L_Mod_isNamed_4 n) ih r x1 x2 x3)
      · rw [if_neg h2]
        refine ev_aload_n d_Mod_isNamed_15 rfl rfl ?_
        refine ev_iload_n d_Mod_isNamed_16 rfl rfl ?_
        refine ev_callB (rc := (f_Mod_isThere r x3)) (ou := ouI) (Hs := (fun z => (eLV :: (HD d (HF f (HW w (HM m (HS s (HG g (HR r tl)))))))))) (inv_V (q := 12) (av := [.int x3]) (rest := []) rfl (ci := 6) rfl d_Mod_isNamed_17 gw_1299 gw_1301 gw_90 mw_Mod_isThere nh_Mod_isThere pn_Mod_isThere rfl) d_Mod_isNamed_17 pl_Mod_isThere (Nat.le_of_ble_eq_true rfl) (Nat.le_of_ble_eq_true rfl) (Nat.le_of_ble_eq_true rfl) (e_f_Mod_isThere (tl := tl) (d := d) (f := f) (w := w) (m := m) (s := s) (g := g)  r x3) (fun _ => (len1 (lenHD (lenHF (lenHW (lenHM (lenHS (lenHG (lenHR rfl))))))))) (fun v z h3 => ⟨_, rfl, ?_⟩)
        exact ev_pick [0, 1, 2, 3] rfl (e_B_Mod_isNamed_20   (L_Mod_isNamed_4 n) ih r x1 x2 x3 v)
def f_Mod_isNamed   (r : RS) (x1 : Int32) : Option (Int32 × Unit) :=
  L_Mod_isNamed_4   1000 r x1 0 3
theorem e_f_Mod_isNamed {sc : Nat × (Nat → Int32)} {d : DS} {f : FS} {w : WS} {m : MS} {s : SS} {g : GS} {tl : List mn_E}    (r : RS) (x1 : Int32) : Ev sc 2 33 0 0 M_Mod_isNamed 0 [(0, .ref 12), (1, .int x1)] [] (eLV :: (HD d (HF f (HW w (HM m (HS s (HG g (HR r tl)))))))) (mapR ouI (fun z => (eLV :: (HD d (HF f (HW w (HM m (HS s (HG g (HR r tl))))))))) (f_Mod_isNamed r x1)) := by
  unfold f_Mod_isNamed
  refine ev_iconst (v := 0) d_Mod_isNamed_0 rfl ?_
  refine ev_istore_n d_Mod_isNamed_1 rfl (by decide) rfl ?_
  refine ev_iconst (v := 3) d_Mod_isNamed_2 rfl ?_
  refine ev_istore_n d_Mod_isNamed_3 rfl (by decide) rfl ?_
  exact ev_pick [2, 3, 1, 0] rfl (e_L_Mod_isNamed_4     1000 r x1 0 3)
def B_Mod_orphan_79  (r44 : RS → Int32 → Int32 → Int32 → Option (Int32 × Unit)) (r : RS) (x1 : Int32) (x3 : Int32) (t0 : Int32) : Option (Int32 × Unit) :=
  r44 r x1 t0 (x3 + (-1))
theorem e_B_Mod_orphan_79 {sc : Nat × (Nat → Int32)} {d : DS} {f : FS} {w : WS} {m : MS} {s : SS} {g : GS} {tl : List mn_E}  (r44 : RS → Int32 → Int32 → Int32 → Option (Int32 × Unit)) (hr44 : ∀ (r : RS) (x1 : Int32) (x2 : Int32) (x3 : Int32), Ev sc 3 51 0 0 M_Mod_orphan 44 [(0, .ref 12), (1, .int x1), (2, .int x2), (3, .int x3)] [] (eLV :: (HD d (HF f (HW w (HM m (HS s (HG g (HR r tl)))))))) (mapR ouI (fun z => (eLV :: (HD d (HF f (HW w (HM m (HS s (HG g (HR r tl))))))))) (r44 r x1 x2 x3))) (r : RS) (x1 : Int32) (x3 : Int32) (t0 : Int32) : Ev sc 3 51 0 0 M_Mod_orphan 79 [(0, .ref 12), (1, .int x1), (3, .int x3)] [.int t0] (eLV :: (HD d (HF f (HW w (HM m (HS s (HG g (HR r tl)))))))) (mapR ouI (fun z => (eLV :: (HD d (HF f (HW w (HM m (HS s (HG g (HR r tl))))))))) (B_Mod_orphan_79 r44 r x1 x3 t0)) := by
  unfold B_Mod_orphan_79
  refine ev_istore_n d_Mod_orphan_79 rfl (by decide) rfl ?_
  refine ev_iinc (v := (x3 + (-1))) d_Mod_orphan_80 rfl rfl (by decide) rfl ?_
  refine ev_goto (tgt := 44) d_Mod_orphan_83 rfl ?_
  exact ev_pick [2, 3, 1, 0] rfl (hr44 r x1 t0 (x3 + (-1)))
def B_Mod_orphan_78  (r44 : RS → Int32 → Int32 → Int32 → Option (Int32 × Unit)) (r : RS) (x1 : Int32) (x2 : Int32) (x3 : Int32) : Option (Int32 × Unit) :=
  B_Mod_orphan_79  r44 r x1 x3 x2
theorem e_B_Mod_orphan_78 {sc : Nat × (Nat → Int32)} {d : DS} {f : FS} {w : WS} {m : MS} {s : SS} {g : GS} {tl : List mn_E}  (r44 : RS → Int32 → Int32 → Int32 → Option (Int32 × Unit)) (hr44 : ∀ (r : RS) (x1 : Int32) (x2 : Int32) (x3 : Int32), Ev sc 3 51 0 0 M_Mod_orphan 44 [(0, .ref 12), (1, .int x1), (2, .int x2), (3, .int x3)] [] (eLV :: (HD d (HF f (HW w (HM m (HS s (HG g (HR r tl)))))))) (mapR ouI (fun z => (eLV :: (HD d (HF f (HW w (HM m (HS s (HG g (HR r tl))))))))) (r44 r x1 x2 x3))) (r : RS) (x1 : Int32) (x2 : Int32) (x3 : Int32) : Ev sc 3 51 0 0 M_Mod_orphan 78 [(0, .ref 12), (1, .int x1), (2, .int x2), (3, .int x3)] [] (eLV :: (HD d (HF f (HW w (HM m (HS s (HG g (HR r tl)))))))) (mapR ouI (fun z => (eLV :: (HD d (HF f (HW w (HM m (HS s (HG g (HR r tl))))))))) (B_Mod_orphan_78 r44 r x1 x2 x3)) := by
  unfold B_Mod_orphan_78
  refine ev_iload_n d_Mod_orphan_78 rfl rfl ?_
  exact ev_pick [0, 1, 3] rfl (e_B_Mod_orphan_79   r44 hr44 r x1 x3 x2)
def B_Mod_orphan_71  (r44 : RS → Int32 → Int32 → Int32 → Option (Int32 × Unit)) (r : RS) (x1 : Int32) (x2 : Int32) (x3 : Int32) (t0 : Int32) : Option (Int32 × Unit) :=
  if ¬ t0 = 0 then (B_Mod_orphan_78  r44 r x1 x2 x3) else (B_Mod_orphan_79  r44 r x1 x3 x3)
theorem e_B_Mod_orphan_71 {sc : Nat × (Nat → Int32)} {d : DS} {f : FS} {w : WS} {m : MS} {s : SS} {g : GS} {tl : List mn_E}  (r44 : RS → Int32 → Int32 → Int32 → Option (Int32 × Unit)) (hr44 : ∀ (r : RS) (x1 : Int32) (x2 : Int32) (x3 : Int32), Ev sc 3 51 0 0 M_Mod_orphan 44 [(0, .ref 12), (1, .int x1), (2, .int x2), (3, .int x3)] [] (eLV :: (HD d (HF f (HW w (HM m (HS s (HG g (HR r tl)))))))) (mapR ouI (fun z => (eLV :: (HD d (HF f (HW w (HM m (HS s (HG g (HR r tl))))))))) (r44 r x1 x2 x3))) (r : RS) (x1 : Int32) (x2 : Int32) (x3 : Int32) (t0 : Int32) : Ev sc 3 51 0 0 M_Mod_orphan 71 [(0, .ref 12), (1, .int x1), (2, .int x2), (3, .int x3)] [.int t0] (eLV :: (HD d (HF f (HW w (HM m (HS s (HG g (HR r tl)))))))) (mapR ouI (fun z => (eLV :: (HD d (HF f (HW w (HM m (HS s (HG g (HR r tl))))))))) (B_Mod_orphan_71 r44 r x1 x2 x3 t0)) := by
  unfold B_Mod_orphan_71
  refine ev_if_ne (tgt := 78) d_Mod_orphan_71 rfl (fun h1 => ?_) (fun h1 => ?_)
  · rw [if_pos h1]
    exact ev_pick [0, 1, 2, 3] rfl (e_B_Mod_orphan_78   r44 hr44 r x1 x2 x3)
  · rw [if_neg h1]
    refine ev_iload_n d_Mod_orphan_74 rfl rfl ?_
    refine ev_goto (tgt := 79) d_Mod_orphan_75 rfl ?_
    exact ev_pick [0, 1, 3] rfl (e_B_Mod_orphan_79   r44 hr44 r x1 x3 x3)
def B_Mod_orphan_54  (r44 : RS → Int32 → Int32 → Int32 → Option (Int32 × Unit)) (r : RS) (x1 : Int32) (x2 : Int32) (x3 : Int32) (t0 : Int32) : Option (Int32 × Unit) :=
  if t0 = 0 then (B_Mod_orphan_78  r44 r x1 x2 x3) else (if inB x3 61 then (if ¬ (rRea r x3.toNatClampNeg) = 0 then (B_Mod_orphan_78  r44 r x1 x2 x3) else (bnd (f_Mod_isNamed r x3) (fun q => B_Mod_orphan_71  r44 r x1 x2 x3 q.1))) else none)
theorem e_B_Mod_orphan_54 {sc : Nat × (Nat → Int32)} {d : DS} {f : FS} {w : WS} {m : MS} {s : SS} {g : GS} {tl : List mn_E}  (r44 : RS → Int32 → Int32 → Int32 → Option (Int32 × Unit)) (hr44 : ∀ (r : RS) (x1 : Int32) (x2 : Int32) (x3 : Int32), Ev sc 3 51 0 0 M_Mod_orphan 44 [(0, .ref 12), (1, .int x1), (2, .int x2), (3, .int x3)] [] (eLV :: (HD d (HF f (HW w (HM m (HS s (HG g (HR r tl)))))))) (mapR ouI (fun z => (eLV :: (HD d (HF f (HW w (HM m (HS s (HG g (HR r tl))))))))) (r44 r x1 x2 x3))) (r : RS) (x1 : Int32) (x2 : Int32) (x3 : Int32) (t0 : Int32) : Ev sc 3 51 0 0 M_Mod_orphan 54 [(0, .ref 12), (1, .int x1), (2, .int x2), (3, .int x3)] [.int t0] (eLV :: (HD d (HF f (HW w (HM m (HS s (HG g (HR r tl)))))))) (mapR ouI (fun z => (eLV :: (HD d (HF f (HW w (HM m (HS s (HG g (HR r tl))))))))) (B_Mod_orphan_54 r44 r x1 x2 x3 t0)) := by
  unfold B_Mod_orphan_54
  refine ev_if_eq (tgt := 78) d_Mod_orphan_54 rfl (fun h1 => ?_) (fun h1 => ?_)
  · rw [if_pos h1]
    exact ev_pick [0, 1, 2, 3] rfl (e_B_Mod_orphan_78   r44 hr44 r x1 x2 x3)
  · rw [if_neg h1]
    refine ev_aload_n d_Mod_orphan_57 rfl rfl ?_
    refine ev_get (v := .ref 26) gi_Mod (ci := 6) rfl rfl 26 (by decide) gw_1027 rfl d_Mod_orphan_58 ?_
    refine ev_iload_n d_Mod_orphan_61 rfl rfl ?_
    refine ev_inB (fun h2 => ?_)
    refine ev_zaload rfl (inB_of h2) d_Mod_orphan_62 ?_
    refine ev_if_ne (tgt := 78) d_Mod_orphan_63 rfl (fun h3 => ?_) (fun h3 => ?_)
    · rw [if_pos h3]
      exact ev_pick [0, 1, 2, 3] rfl (e_B_Mod_orphan_78   r44 hr44 r x1 x2 x3)
    · rw [if_neg h3]
      refine ev_aload_n d_Mod_orphan_66 rfl rfl ?_
      refine ev_iload_n d_Mod_orphan_67 rfl rfl ?_
      refine ev_callB (rc := (f_Mod_isNamed r x3)) (ou := ouI) (Hs := (fun z => (eLV :: (HD d (HF f (HW w (HM m (HS s (HG g (HR r tl)))))))))) (inv_V (q := 12) (av := [.int x3]) (rest := []) rfl (ci := 6) rfl d_Mod_orphan_68 gw_1320 gw_1322 gw_95 mw_Mod_isNamed nh_Mod_isNamed pn_Mod_isNamed rfl) d_Mod_orphan_68 pl_Mod_isNamed (Nat.le_of_ble_eq_true rfl) (Nat.le_of_ble_eq_true rfl) (Nat.le_of_ble_eq_true rfl) (e_f_Mod_isNamed (tl := tl) (d := d) (f := f) (w := w) (m := m) (s := s) (g := g)  r x3) (fun _ => (len1 (lenHD (lenHF (lenHW (lenHM (lenHS (lenHG (lenHR rfl))))))))) (fun v z h4 => ⟨_, rfl, ?_⟩)
      exact ev_pick [0, 1, 2, 3] rfl (e_B_Mod_orphan_71   r44 hr44 r x1 x2 x3 v)
def L_Mod_orphan_44   : Nat → RS → Int32 → Int32 → Int32 → Option (Int32 × Unit)
  | 0, _, _, _, _ => none
  | n + 1, r, x1, x2, x3 =>
  if x3 ≤ 2 then (if x2 ≤ 0 then (some (x1, ())) else (some (x2, ()))) else (bnd (f_Mod_isThere r x3) (fun q => B_Mod_orphan_54  (L_Mod_orphan_44 n) r x1 x2 x3 q.1))
theorem e_L_Mod_orphan_44 {sc : Nat × (Nat → Int32)} {d : DS} {f : FS} {w : WS} {m : MS} {s : SS} {g : GS} {tl : List mn_E}    : ∀ (n : Nat) (r : RS) (x1 : Int32) (x2 : Int32) (x3 : Int32), Ev sc 3 51 0 0 M_Mod_orphan 44 [(0, .ref 12), (1, .int x1), (2, .int x2), (3, .int x3)] [] (eLV :: (HD d (HF f (HW w (HM m (HS s (HG g (HR r tl)))))))) (mapR ouI (fun z => (eLV :: (HD d (HF f (HW w (HM m (HS s (HG g (HR r tl))))))))) (L_Mod_orphan_44   n r x1 x2 x3)) := by
  intro n
  induction n with
  | zero => intro r x1 x2 x3; exact ev_none
  | succ n ih =>
    intro r x1 x2 x3
    rw [L_Mod_orphan_44]
    refine ev_iload_n d_Mod_orphan_44 rfl rfl ?_
    refine ev_iconst (v := 2) d_Mod_orphan_45 rfl ?_
    refine ev_icmp_le (tgt := 86) d_Mod_orphan_46 rfl (fun h1 => ?_) (fun h1 => ?_)
    · rw [if_pos h1]
      refine ev_iload_n d_Mod_orphan_86 rfl rfl ?_
      refine ev_if_le (tgt := 94) d_Mod_orphan_87 rfl (fun h2 => ?_) (fun h2 => ?_)
      · rw [if_pos h2]
        refine ev_iload_n d_Mod_orphan_94 rfl rfl ?_
        exact ev_zret (ty := .int) rfl rfl d_Mod_orphan_95
      · rw [if_neg h2]
        refine ev_iload_n d_Mod_orphan_90 rfl rfl ?_
        refine ev_goto (tgt := 95) d_Mod_orphan_91 rfl ?_
        exact ev_zret (ty := .int) rfl rfl d_Mod_orphan_95
    · rw [if_neg h1]
      refine ev_aload_n d_Mod_orphan_49 rfl rfl ?_
      refine ev_iload_n d_Mod_orphan_50 rfl rfl ?_
      refine ev_callB (rc := (f_Mod_isThere r x3)) (ou := ouI) (Hs := (fun z => (eLV :: (HD d (HF f (HW w (HM m (HS s (HG g (HR r tl)))))))))) (inv_V (q := 12) (av := [.int x3]) (rest := []) rfl (ci := 6) rfl d_Mod_orphan_51 gw_1299 gw_1301 gw_90 mw_Mod_isThere nh_Mod_isThere pn_Mod_isThere rfl) d_Mod_orphan_51 pl_Mod_isThere (Nat.le_of_ble_eq_true rfl) (Nat.le_of_ble_eq_true rfl) (Nat.le_of_ble_eq_true rfl) (e_f_Mod_isThere (tl := tl) (d := d) (f := f) (w := w) (m := m) (s := s) (g := g)  r x3) (fun _ => (len1 (lenHD (lenHF (lenHW (lenHM (lenHS (lenHG (lenHR rfl))))))))) (fun v z h3 => ⟨_, rfl, ?_⟩)
      exact ev_pick [0, 1, 2, 3] rfl (e_B_Mod_orphan_54   (L_Mod_orphan_44 n) ih r x1 x2 x3 v)
def B_Mod_orphan_32  (r5 : RS → Int32 → Int32 → Option (Int32 × Unit)) (r : RS) (x2 : Int32) (t0 : Int32) : Option (Int32 × Unit) :=
  r5 r t0 (x2 + (-1))
theorem e_B_Mod_orphan_32 {sc : Nat × (Nat → Int32)} {d : DS} {f : FS} {w : WS} {m : MS} {s : SS} {g : GS} {tl : List mn_E}  (r5 : RS → Int32 → Int32 → Option (Int32 × Unit)) (hr5 : ∀ (r : RS) (x1 : Int32) (x2 : Int32), Ev sc 3 51 0 0 M_Mod_orphan 5 [(0, .ref 12), (1, .int x1), (2, .int x2)] [] (eLV :: (HD d (HF f (HW w (HM m (HS s (HG g (HR r tl)))))))) (mapR ouI (fun z => (eLV :: (HD d (HF f (HW w (HM m (HS s (HG g (HR r tl))))))))) (r5 r x1 x2))) (r : RS) (x2 : Int32) (t0 : Int32) : Ev sc 3 51 0 0 M_Mod_orphan 32 [(0, .ref 12), (2, .int x2)] [.int t0] (eLV :: (HD d (HF f (HW w (HM m (HS s (HG g (HR r tl)))))))) (mapR ouI (fun z => (eLV :: (HD d (HF f (HW w (HM m (HS s (HG g (HR r tl))))))))) (B_Mod_orphan_32 r5 r x2 t0)) := by
  unfold B_Mod_orphan_32
  refine ev_istore_n d_Mod_orphan_32 rfl (by decide) rfl ?_
  refine ev_iinc (v := (x2 + (-1))) d_Mod_orphan_33 rfl rfl (by decide) rfl ?_
  refine ev_goto (tgt := 5) d_Mod_orphan_36 rfl ?_
  exact ev_pick [2, 1, 0] rfl (hr5 r t0 (x2 + (-1)))
def B_Mod_orphan_31  (r5 : RS → Int32 → Int32 → Option (Int32 × Unit)) (r : RS) (x1 : Int32) (x2 : Int32) : Option (Int32 × Unit) :=
  B_Mod_orphan_32  r5 r x2 x1
theorem e_B_Mod_orphan_31 {sc : Nat × (Nat → Int32)} {d : DS} {f : FS} {w : WS} {m : MS} {s : SS} {g : GS} {tl : List mn_E}  (r5 : RS → Int32 → Int32 → Option (Int32 × Unit)) (hr5 : ∀ (r : RS) (x1 : Int32) (x2 : Int32), Ev sc 3 51 0 0 M_Mod_orphan 5 [(0, .ref 12), (1, .int x1), (2, .int x2)] [] (eLV :: (HD d (HF f (HW w (HM m (HS s (HG g (HR r tl)))))))) (mapR ouI (fun z => (eLV :: (HD d (HF f (HW w (HM m (HS s (HG g (HR r tl))))))))) (r5 r x1 x2))) (r : RS) (x1 : Int32) (x2 : Int32) : Ev sc 3 51 0 0 M_Mod_orphan 31 [(0, .ref 12), (1, .int x1), (2, .int x2)] [] (eLV :: (HD d (HF f (HW w (HM m (HS s (HG g (HR r tl)))))))) (mapR ouI (fun z => (eLV :: (HD d (HF f (HW w (HM m (HS s (HG g (HR r tl))))))))) (B_Mod_orphan_31 r5 r x1 x2)) := by
  unfold B_Mod_orphan_31
  refine ev_iload_n d_Mod_orphan_31 rfl rfl ?_
  exact ev_pick [0, 2] rfl (e_B_Mod_orphan_32   r5 hr5 r x2 x1)
def B_Mod_orphan_15  (r5 : RS → Int32 → Int32 → Option (Int32 × Unit)) (r : RS) (x1 : Int32) (x2 : Int32) (t0 : Int32) : Option (Int32 × Unit) :=
  if t0 = 0 then (B_Mod_orphan_31  r5 r x1 x2) else (if inB x2 61 then (if ¬ (rRea r x2.toNatClampNeg) = 0 then (B_Mod_orphan_31  r5 r x1 x2) else (B_Mod_orphan_32  r5 r x2 x2)) else none)
theorem e_B_Mod_orphan_15 {sc : Nat × (Nat → Int32)} {d : DS} {f : FS} {w : WS} {m : MS} {s : SS} {g : GS} {tl : List mn_E}  (r5 : RS → Int32 → Int32 → Option (Int32 × Unit)) (hr5 : ∀ (r : RS) (x1 : Int32) (x2 : Int32), Ev sc 3 51 0 0 M_Mod_orphan 5 [(0, .ref 12), (1, .int x1), (2, .int x2)] [] (eLV :: (HD d (HF f (HW w (HM m (HS s (HG g (HR r tl)))))))) (mapR ouI (fun z => (eLV :: (HD d (HF f (HW w (HM m (HS s (HG g (HR r tl))))))))) (r5 r x1 x2))) (r : RS) (x1 : Int32) (x2 : Int32) (t0 : Int32) : Ev sc 3 51 0 0 M_Mod_orphan 15 [(0, .ref 12), (1, .int x1), (2, .int x2)] [.int t0] (eLV :: (HD d (HF f (HW w (HM m (HS s (HG g (HR r tl)))))))) (mapR ouI (fun z => (eLV :: (HD d (HF f (HW w (HM m (HS s (HG g (HR r tl))))))))) (B_Mod_orphan_15 r5 r x1 x2 t0)) := by
  unfold B_Mod_orphan_15
  refine ev_if_eq (tgt := 31) d_Mod_orphan_15 rfl (fun h1 => ?_) (fun h1 => ?_)
  · rw [if_pos h1]
    exact ev_pick [0, 1, 2] rfl (e_B_Mod_orphan_31   r5 hr5 r x1 x2)
  · rw [if_neg h1]
    refine ev_aload_n d_Mod_orphan_18 rfl rfl ?_
    refine ev_get (v := .ref 26) gi_Mod (ci := 6) rfl rfl 26 (by decide) gw_1027 rfl d_Mod_orphan_19 ?_
    refine ev_iload_n d_Mod_orphan_22 rfl rfl ?_
    refine ev_inB (fun h2 => ?_)
    refine ev_zaload rfl (inB_of h2) d_Mod_orphan_23 ?_
    refine ev_if_ne (tgt := 31) d_Mod_orphan_24 rfl (fun h3 => ?_) (fun h3 => ?_)
    · rw [if_pos h3]
      exact ev_pick [0, 1, 2] rfl (e_B_Mod_orphan_31   r5 hr5 r x1 x2)
    · rw [if_neg h3]
      refine ev_iload_n d_Mod_orphan_27 rfl rfl ?_
      refine ev_goto (tgt := 32) d_Mod_orphan_28 rfl ?_
      exact ev_pick [0, 2] rfl (e_B_Mod_orphan_32   r5 hr5 r x2 x2)
def L_Mod_orphan_5   : Nat → RS → Int32 → Int32 → Option (Int32 × Unit)
  | 0, _, _, _ => none
  | n + 1, r, x1, x2 =>
  if x2 ≤ 2 then (L_Mod_orphan_44   1000 r x1 0 60) else (bnd (f_Mod_isThere r x2) (fun q => B_Mod_orphan_15  (L_Mod_orphan_5 n) r x1 x2 q.1))
theorem e_L_Mod_orphan_5 {sc : Nat × (Nat → Int32)} {d : DS} {f : FS} {w : WS} {m : MS} {s : SS} {g : GS} {tl : List mn_E}    : ∀ (n : Nat) (r : RS) (x1 : Int32) (x2 : Int32), Ev sc 3 51 0 0 M_Mod_orphan 5 [(0, .ref 12), (1, .int x1), (2, .int x2)] [] (eLV :: (HD d (HF f (HW w (HM m (HS s (HG g (HR r tl)))))))) (mapR ouI (fun z => (eLV :: (HD d (HF f (HW w (HM m (HS s (HG g (HR r tl))))))))) (L_Mod_orphan_5   n r x1 x2)) := by
  intro n
  induction n with
  | zero => intro r x1 x2; exact ev_none
  | succ n ih =>
    intro r x1 x2
    rw [L_Mod_orphan_5]
    refine ev_iload_n d_Mod_orphan_5 rfl rfl ?_
    refine ev_iconst (v := 2) d_Mod_orphan_6 rfl ?_
    refine ev_icmp_le (tgt := 39) d_Mod_orphan_7 rfl (fun h1 => ?_) (fun h1 => ?_)
    · rw [if_pos h1]
      refine ev_iconst (v := 0) d_Mod_orphan_39 rfl ?_
      refine ev_istore_n d_Mod_orphan_40 rfl (by decide) rfl ?_
      refine ev_bipush (v := 60) d_Mod_orphan_41 rfl ?_
      refine ev_istore_n d_Mod_orphan_43 rfl (by decide) rfl ?_
      exact ev_pick [2, 3, 1, 0] rfl (e_L_Mod_orphan_44     1000 r x1 0 60)
    · rw [if_neg h1]
      refine ev_aload_n d_Mod_orphan_10 rfl rfl ?_
      refine ev_iload_n d_Mod_orphan_11 rfl rfl ?_
      refine ev_callB (rc := (f_Mod_isThere r x2)) (ou := ouI) (Hs := (fun z => (eLV :: (HD d (HF f (HW w (HM m (HS s (HG g (HR r tl)))))))))) (inv_V (q := 12) (av := [.int x2]) (rest := []) rfl (ci := 6) rfl d_Mod_orphan_12 gw_1299 gw_1301 gw_90 mw_Mod_isThere nh_Mod_isThere pn_Mod_isThere rfl) d_Mod_orphan_12 pl_Mod_isThere (Nat.le_of_ble_eq_true rfl) (Nat.le_of_ble_eq_true rfl) (Nat.le_of_ble_eq_true rfl) (e_f_Mod_isThere (tl := tl) (d := d) (f := f) (w := w) (m := m) (s := s) (g := g)  r x2) (fun _ => (len1 (lenHD (lenHF (lenHW (lenHM (lenHS (lenHG (lenHR rfl))))))))) (fun v z h2 => ⟨_, rfl, ?_⟩)
      exact ev_pick [0, 1, 2] rfl (e_B_Mod_orphan_15   (L_Mod_orphan_5 n) ih r x1 x2 v)
def f_Mod_orphan   (r : RS) : Option (Int32 × Unit) :=
  L_Mod_orphan_5   1000 r 0 60
theorem e_f_Mod_orphan {sc : Nat × (Nat → Int32)} {d : DS} {f : FS} {w : WS} {m : MS} {s : SS} {g : GS} {tl : List mn_E}    (r : RS) : Ev sc 3 51 0 0 M_Mod_orphan 0 [(0, .ref 12)] [] (eLV :: (HD d (HF f (HW w (HM m (HS s (HG g (HR r tl)))))))) (mapR ouI (fun z => (eLV :: (HD d (HF f (HW w (HM m (HS s (HG g (HR r tl))))))))) (f_Mod_orphan r)) := by
  unfold f_Mod_orphan
  refine ev_iconst (v := 0) d_Mod_orphan_0 rfl ?_
  refine ev_istore_n d_Mod_orphan_1 rfl (by decide) rfl ?_
  refine ev_bipush (v := 60) d_Mod_orphan_2 rfl ?_
  refine ev_istore_n d_Mod_orphan_4 rfl (by decide) rfl ?_
  exact ev_pick [2, 1, 0] rfl (e_L_Mod_orphan_5     1000 r 0 60)
def B_Mod_room_33   (r : RS) (t0 : Int32) : Option (Int32 × RS) :=
  some (t0, r)
theorem e_B_Mod_room_33 {sc : Nat × (Nat → Int32)} {d : DS} {f : FS} {w : WS} {m : MS} {s : SS} {g : GS} {tl : List mn_E}    (r : RS) (t0 : Int32) : Ev sc 2 34 0 0 M_Mod_room 33 [] [.int t0] (eLV :: (HD d (HF f (HW w (HM m (HS s (HG g (HR r tl)))))))) (mapR ouI (fun z => (eLV :: (HD d (HF f (HW w (HM m (HS s (HG g (HR z tl))))))))) (B_Mod_room_33 r t0)) := by
  unfold B_Mod_room_33
  exact ev_zret (ty := .int) rfl rfl d_Mod_room_33
def B_Mod_room_87   (r : RS) (x1 : Int32) : Option (Int32 × RS) :=
  some (((8 * x1) + 4), r)
theorem e_B_Mod_room_87 {sc : Nat × (Nat → Int32)} {d : DS} {f : FS} {w : WS} {m : MS} {s : SS} {g : GS} {tl : List mn_E}    (r : RS) (x1 : Int32) : Ev sc 2 34 0 0 M_Mod_room 87 [(1, .int x1)] [] (eLV :: (HD d (HF f (HW w (HM m (HS s (HG g (HR r tl)))))))) (mapR ouI (fun z => (eLV :: (HD d (HF f (HW w (HM m (HS s (HG g (HR z tl))))))))) (B_Mod_room_87 r x1)) := by
  unfold B_Mod_room_87
  refine ev_bipush (v := 8) d_Mod_room_87 rfl ?_
  refine ev_iload_n d_Mod_room_89 rfl rfl ?_
  refine ev_imul d_Mod_room_90 ?_
  refine ev_iconst (v := 4) d_Mod_room_91 rfl ?_
  refine ev_iadd d_Mod_room_92 ?_
  exact ev_zret (ty := .int) rfl rfl d_Mod_room_93
def B_Mod_room_154   (r : RS) (x2 : Int32) : Option (Int32 × RS) :=
  some ((8 * x2), r)
theorem e_B_Mod_room_154 {sc : Nat × (Nat → Int32)} {d : DS} {f : FS} {w : WS} {m : MS} {s : SS} {g : GS} {tl : List mn_E}    (r : RS) (x2 : Int32) : Ev sc 2 34 0 0 M_Mod_room 154 [(2, .int x2)] [] (eLV :: (HD d (HF f (HW w (HM m (HS s (HG g (HR r tl)))))))) (mapR ouI (fun z => (eLV :: (HD d (HF f (HW w (HM m (HS s (HG g (HR z tl))))))))) (B_Mod_room_154 r x2)) := by
  unfold B_Mod_room_154
  refine ev_bipush (v := 8) d_Mod_room_154 rfl ?_
  refine ev_iload_n d_Mod_room_156 rfl rfl ?_
  refine ev_imul d_Mod_room_157 ?_
  exact ev_zret (ty := .int) rfl rfl d_Mod_room_158
def B_Mod_room_137   (r : RS) (x2 : Int32) : Option (Int32 × RS) :=
  if inB 1 61 then (if inB (40 + (rMan r (1 : Int32).toNatClampNeg)) 2440 then (B_Mod_room_154   (rSTab r (upd (rTab r) (40 + (rMan r (1 : Int32).toNatClampNeg)).toNatClampNeg (x2 + 1))) x2) else none) else none
theorem e_B_Mod_room_137 {sc : Nat × (Nat → Int32)} {d : DS} {f : FS} {w : WS} {m : MS} {s : SS} {g : GS} {tl : List mn_E}    (r : RS) (x2 : Int32) : Ev sc 2 34 0 0 M_Mod_room 137 [(0, .ref 12), (2, .int x2)] [] (eLV :: (HD d (HF f (HW w (HM m (HS s (HG g (HR r tl)))))))) (mapR ouI (fun z => (eLV :: (HD d (HF f (HW w (HM m (HS s (HG g (HR z tl))))))))) (B_Mod_room_137 r x2)) := by
  unfold B_Mod_room_137
  refine ev_aload_n d_Mod_room_137 rfl rfl ?_
  refine ev_get (v := .ref 24) gi_Mod (ci := 6) rfl rfl 24 (by decide) gw_1025 rfl d_Mod_room_138 ?_
  refine ev_bipush (v := 40) d_Mod_room_141 rfl ?_
  refine ev_aload_n d_Mod_room_143 rfl rfl ?_
  refine ev_get (v := .ref 25) gi_Mod (ci := 6) rfl rfl 25 (by decide) gw_1026 rfl d_Mod_room_144 ?_
  refine ev_iconst (v := 1) d_Mod_room_147 rfl ?_
  refine ev_inB (fun h1 => ?_)
  refine ev_iaload rfl (inB_of h1) d_Mod_room_148 ?_
  refine ev_iadd d_Mod_room_149 ?_
  refine ev_iload_n d_Mod_room_150 rfl rfl ?_
  refine ev_iconst (v := 1) d_Mod_room_151 rfl ?_
  refine ev_iadd d_Mod_room_152 ?_
  refine ev_inB (fun h2 => ?_)
  refine ev_iastore (h2 := (eLV :: (HD d (HF f (HW w (HM m (HS s (HG g (HR (rSTab r (upd (rTab r) (40 + (rMan r (1 : Int32).toNatClampNeg)).toNatClampNeg (x2 + 1))) tl))))))))) rfl (inB_of h2) rfl d_Mod_room_153 ?_
  exact ev_pick [1] rfl (e_B_Mod_room_154     (rSTab r (upd (rTab r) (40 + (rMan r (1 : Int32).toNatClampNeg)).toNatClampNeg (x2 + 1))) x2)
def B_Mod_room_124   (r : RS) (x2 : Int32) : Option (Int32 × RS) :=
  if inB 1 61 then (bnd (f_Mod_label0 r x2 1 (rMan r (1 : Int32).toNatClampNeg) 4) (fun q => B_Mod_room_137   q.2 x2)) else none
theorem e_B_Mod_room_124 {sc : Nat × (Nat → Int32)} {d : DS} {f : FS} {w : WS} {m : MS} {s : SS} {g : GS} {tl : List mn_E}    (r : RS) (x2 : Int32) : Ev sc 2 34 0 0 M_Mod_room 124 [(0, .ref 12), (2, .int x2)] [] (eLV :: (HD d (HF f (HW w (HM m (HS s (HG g (HR r tl)))))))) (mapR ouI (fun z => (eLV :: (HD d (HF f (HW w (HM m (HS s (HG g (HR z tl))))))))) (B_Mod_room_124 r x2)) := by
  unfold B_Mod_room_124
  refine ev_aload_n d_Mod_room_124 rfl rfl ?_
  refine ev_iload_n d_Mod_room_125 rfl rfl ?_
  refine ev_iconst (v := 1) d_Mod_room_126 rfl ?_
  refine ev_aload_n d_Mod_room_127 rfl rfl ?_
  refine ev_get (v := .ref 25) gi_Mod (ci := 6) rfl rfl 25 (by decide) gw_1026 rfl d_Mod_room_128 ?_
  refine ev_iconst (v := 1) d_Mod_room_131 rfl ?_
  refine ev_inB (fun h1 => ?_)
  refine ev_iaload rfl (inB_of h1) d_Mod_room_132 ?_
  refine ev_iconst (v := 4) d_Mod_room_133 rfl ?_
  refine ev_callB (rc := (f_Mod_label0 r x2 1 (rMan r (1 : Int32).toNatClampNeg) 4)) (ou := ouV) (Hs := (fun z => (eLV :: (HD d (HF f (HW w (HM m (HS s (HG g (HR z tl)))))))))) (inv_V (q := 12) (av := [.int x2, .int 1, .int (rMan r (1 : Int32).toNatClampNeg), .int 4]) (rest := []) rfl (ci := 6) rfl d_Mod_room_134 gw_997 gw_999 gw_48 mw_Mod_label0 nh_Mod_label0 pn_Mod_label0 rfl) d_Mod_room_134 pl_Mod_label0 (Nat.le_of_ble_eq_true rfl) (Nat.le_of_ble_eq_true rfl) (Nat.le_of_ble_eq_true rfl) (e_f_Mod_label0 (tl := tl) (d := d) (f := f) (w := w) (m := m) (s := s) (g := g)  r x2 1 (rMan r (1 : Int32).toNatClampNeg) 4) (fun _ => (len1 (lenHD (lenHF (lenHW (lenHM (lenHS (lenHG (lenHR rfl))))))))) (fun v z h2 => ⟨_, rfl, ?_⟩)
  exact ev_pick [0, 1] rfl (e_B_Mod_room_137     z x2)
def B_Mod_room_110   (r : RS) (x2 : Int32) : Option (Int32 × RS) :=
  if inB 1 61 then (if inB 1 61 then (B_Mod_room_124   (rSMan r (upd (rMan r) (1 : Int32).toNatClampNeg ((rMan r (1 : Int32).toNatClampNeg) + 1))) x2) else none) else none
theorem e_B_Mod_room_110 {sc : Nat × (Nat → Int32)} {d : DS} {f : FS} {w : WS} {m : MS} {s : SS} {g : GS} {tl : List mn_E}    (r : RS) (x2 : Int32) : Ev sc 2 34 0 0 M_Mod_room 110 [(0, .ref 12), (2, .int x2)] [] (eLV :: (HD d (HF f (HW w (HM m (HS s (HG g (HR r tl)))))))) (mapR ouI (fun z => (eLV :: (HD d (HF f (HW w (HM m (HS s (HG g (HR z tl))))))))) (B_Mod_room_110 r x2)) := by
  unfold B_Mod_room_110
  refine ev_aload_n d_Mod_room_110 rfl rfl ?_
  refine ev_get (v := .ref 25) gi_Mod (ci := 6) rfl rfl 25 (by decide) gw_1026 rfl d_Mod_room_111 ?_
  refine ev_iconst (v := 1) d_Mod_room_114 rfl ?_
  refine ev_aload_n d_Mod_room_115 rfl rfl ?_
  refine ev_get (v := .ref 25) gi_Mod (ci := 6) rfl rfl 25 (by decide) gw_1026 rfl d_Mod_room_116 ?_
  refine ev_iconst (v := 1) d_Mod_room_119 rfl ?_
  refine ev_inB (fun h1 => ?_)
  refine ev_iaload rfl (inB_of h1) d_Mod_room_120 ?_
  refine ev_iconst (v := 1) d_Mod_room_121 rfl ?_
  refine ev_iadd d_Mod_room_122 ?_
  refine ev_inB (fun h2 => ?_)
  refine ev_iastore (h2 := (eLV :: (HD d (HF f (HW w (HM m (HS s (HG g (HR (rSMan r (upd (rMan r) (1 : Int32).toNatClampNeg ((rMan r (1 : Int32).toNatClampNeg) + 1))) tl))))))))) rfl (inB_of h2) rfl d_Mod_room_123 ?_
  exact ev_pick [0, 1] rfl (e_B_Mod_room_124     (rSMan r (upd (rMan r) (1 : Int32).toNatClampNeg ((rMan r (1 : Int32).toNatClampNeg) + 1))) x2)
def B_Mod_room_98   (r : RS) (t0 : Int32) : Option (Int32 × RS) :=
  if 0 ≤ t0 then (bnd (f_Mod_empty r t0) (fun q => B_Mod_room_110   q.2 t0)) else (some ((-1), r))
theorem e_B_Mod_room_98 {sc : Nat × (Nat → Int32)} {d : DS} {f : FS} {w : WS} {m : MS} {s : SS} {g : GS} {tl : List mn_E}    (r : RS) (t0 : Int32) : Ev sc 2 34 0 0 M_Mod_room 98 [(0, .ref 12)] [.int t0] (eLV :: (HD d (HF f (HW w (HM m (HS s (HG g (HR r tl)))))))) (mapR ouI (fun z => (eLV :: (HD d (HF f (HW w (HM m (HS s (HG g (HR z tl))))))))) (B_Mod_room_98 r t0)) := by
  unfold B_Mod_room_98
  refine ev_istore_n d_Mod_room_98 rfl (by decide) rfl ?_
  refine ev_iload_n d_Mod_room_99 rfl rfl ?_
  refine ev_if_ge (tgt := 105) d_Mod_room_100 rfl (fun h1 => ?_) (fun h1 => ?_)
  · rw [if_pos h1]
    refine ev_aload_n d_Mod_room_105 rfl rfl ?_
    refine ev_iload_n d_Mod_room_106 rfl rfl ?_
    refine ev_callB (rc := (f_Mod_empty r t0)) (ou := ouV) (Hs := (fun z => (eLV :: (HD d (HF f (HW w (HM m (HS s (HG g (HR z tl)))))))))) (inv_V (q := 12) (av := [.int t0]) (rest := []) rfl (ci := 6) rfl d_Mod_room_107 gw_1171 gw_1173 gw_66 mw_Mod_empty nh_Mod_empty pn_Mod_empty rfl) d_Mod_room_107 pl_Mod_empty (Nat.le_of_ble_eq_true rfl) (Nat.le_of_ble_eq_true rfl) (Nat.le_of_ble_eq_true rfl) (e_f_Mod_empty (tl := tl) (d := d) (f := f) (w := w) (m := m) (s := s) (g := g)  r t0) (fun _ => (len1 (lenHD (lenHF (lenHW (lenHM (lenHS (lenHG (lenHR rfl))))))))) (fun v z h2 => ⟨_, rfl, ?_⟩)
    exact ev_pick [1, 0] rfl (e_B_Mod_room_110     z t0)
  · rw [if_neg h1]
    refine ev_iconst (v := -1) d_Mod_room_103 rfl ?_
    exact ev_zret (ty := .int) rfl rfl d_Mod_room_104
def B_Mod_room_94   (r : RS) : Option (Int32 × RS) :=
  bnd (f_Mod_lowestFree r) (fun q => B_Mod_room_98   r q.1)
theorem e_B_Mod_room_94 {sc : Nat × (Nat → Int32)} {d : DS} {f : FS} {w : WS} {m : MS} {s : SS} {g : GS} {tl : List mn_E}    (r : RS) : Ev sc 2 34 0 0 M_Mod_room 94 [(0, .ref 12)] [] (eLV :: (HD d (HF f (HW w (HM m (HS s (HG g (HR r tl)))))))) (mapR ouI (fun z => (eLV :: (HD d (HF f (HW w (HM m (HS s (HG g (HR z tl))))))))) (B_Mod_room_94 r)) := by
  unfold B_Mod_room_94
  refine ev_aload_n d_Mod_room_94 rfl rfl ?_
  refine ev_callB (rc := (f_Mod_lowestFree r)) (ou := ouI) (Hs := (fun z => (eLV :: (HD d (HF f (HW w (HM m (HS s (HG g (HR r tl)))))))))) (inv_V (q := 12) (av := []) (rest := []) rfl (ci := 6) rfl d_Mod_room_95 gw_1291 gw_1293 gw_88 mw_Mod_lowestFree nh_Mod_lowestFree pn_Mod_lowestFree rfl) d_Mod_room_95 pl_Mod_lowestFree (Nat.le_of_ble_eq_true rfl) (Nat.le_of_ble_eq_true rfl) (Nat.le_of_ble_eq_true rfl) (e_f_Mod_lowestFree (tl := tl) (d := d) (f := f) (w := w) (m := m) (s := s) (g := g)  r ) (fun _ => (len1 (lenHD (lenHF (lenHW (lenHM (lenHS (lenHG (lenHR rfl))))))))) (fun v z h1 => ⟨_, rfl, ?_⟩)
  exact ev_pick [0] rfl (e_B_Mod_room_98     r v)
def B_Mod_room_64   (r : RS) (t0 : Int32) : Option (Int32 × RS) :=
  if t0 < 0 then (B_Mod_room_94   r) else (if inB t0 40 then (if 4 < (rUse r t0.toNatClampNeg) then (B_Mod_room_94   r) else (if inB t0 40 then (B_Mod_room_87   (rSUse r (upd (rUse r) t0.toNatClampNeg 8)) t0) else none)) else none)
theorem e_B_Mod_room_64 {sc : Nat × (Nat → Int32)} {d : DS} {f : FS} {w : WS} {m : MS} {s : SS} {g : GS} {tl : List mn_E}    (r : RS) (t0 : Int32) : Ev sc 2 34 0 0 M_Mod_room 64 [(0, .ref 12)] [.int t0] (eLV :: (HD d (HF f (HW w (HM m (HS s (HG g (HR r tl)))))))) (mapR ouI (fun z => (eLV :: (HD d (HF f (HW w (HM m (HS s (HG g (HR z tl))))))))) (B_Mod_room_64 r t0)) := by
  unfold B_Mod_room_64
  refine ev_istore_n d_Mod_room_64 rfl (by decide) rfl ?_
  refine ev_iload_n d_Mod_room_65 rfl rfl ?_
  refine ev_if_lt (tgt := 94) d_Mod_room_66 rfl (fun h1 => ?_) (fun h1 => ?_)
  · rw [if_pos h1]
    exact ev_pick [1] rfl (e_B_Mod_room_94     r)
  · rw [if_neg h1]
    refine ev_aload_n d_Mod_room_69 rfl rfl ?_
    refine ev_get (v := .ref 15) gi_Mod (ci := 6) rfl rfl 4 (by decide) gw_1005 rfl d_Mod_room_70 ?_
    refine ev_iload_n d_Mod_room_73 rfl rfl ?_
    refine ev_inB (fun h2 => ?_)
    refine ev_iaload rfl (inB_of h2) d_Mod_room_74 ?_
    refine ev_iconst (v := 4) d_Mod_room_75 rfl ?_
    refine ev_icmp_gt (tgt := 94) d_Mod_room_76 rfl (fun h3 => ?_) (fun h3 => ?_)
    · rw [if_pos h3]
      exact ev_pick [1] rfl (e_B_Mod_room_94     r)
    · rw [if_neg h3]
      refine ev_aload_n d_Mod_room_79 rfl rfl ?_
      refine ev_get (v := .ref 15) gi_Mod (ci := 6) rfl rfl 4 (by decide) gw_1005 rfl d_Mod_room_80 ?_
      refine ev_iload_n d_Mod_room_83 rfl rfl ?_
      refine ev_bipush (v := 8) d_Mod_room_84 rfl ?_
      refine ev_inB (fun h4 => ?_)
      refine ev_iastore (h2 := (eLV :: (HD d (HF f (HW w (HM m (HS s (HG g (HR (rSUse r (upd (rUse r) t0.toNatClampNeg 8)) tl))))))))) rfl (inB_of h4) rfl d_Mod_room_86 ?_
      exact ev_pick [0] rfl (e_B_Mod_room_87     (rSUse r (upd (rUse r) t0.toNatClampNeg 8)) t0)
def B_Mod_room_60   (r : RS) (t0 : Int32) : Option (Int32 × RS) :=
  B_Mod_room_64   r t0
theorem e_B_Mod_room_60 {sc : Nat × (Nat → Int32)} {d : DS} {f : FS} {w : WS} {m : MS} {s : SS} {g : GS} {tl : List mn_E}    (r : RS) (t0 : Int32) : Ev sc 2 34 0 0 M_Mod_room 60 [(0, .ref 12)] [.int t0] (eLV :: (HD d (HF f (HW w (HM m (HS s (HG g (HR r tl)))))))) (mapR ouI (fun z => (eLV :: (HD d (HF f (HW w (HM m (HS s (HG g (HR z tl))))))))) (B_Mod_room_60 r t0)) := by
  unfold B_Mod_room_60
  refine ev_goto (tgt := 64) d_Mod_room_60 rfl ?_
  exact ev_pick [0] rfl (e_B_Mod_room_64     r t0)
def B_Mod_room_21  (r2 : RS → Int32 → Option (Int32 × RS)) (r : RS) (x1 : Int32) (t1 : Int32) : Option (Int32 × RS) :=
  if inB (t1 + 2) 320 then (if ¬ (rByt r (t1 + 2).toNatClampNeg) = 0 then (r2 r (x1 + 1)) else (bnd (f_Mod_place r 1 x1) (fun q => B_Mod_room_33   r q.1))) else none
theorem e_B_Mod_room_21 {sc : Nat × (Nat → Int32)} {d : DS} {f : FS} {w : WS} {m : MS} {s : SS} {g : GS} {tl : List mn_E}  (r2 : RS → Int32 → Option (Int32 × RS)) (hr2 : ∀ (r : RS) (x1 : Int32), Ev sc 2 34 0 0 M_Mod_room 2 [(0, .ref 12), (1, .int x1)] [] (eLV :: (HD d (HF f (HW w (HM m (HS s (HG g (HR r tl)))))))) (mapR ouI (fun z => (eLV :: (HD d (HF f (HW w (HM m (HS s (HG g (HR z tl))))))))) (r2 r x1))) (r : RS) (x1 : Int32) (t1 : Int32) : Ev sc 2 34 0 0 M_Mod_room 21 [(0, .ref 12), (1, .int x1)] [.int t1, .ref 18] (eLV :: (HD d (HF f (HW w (HM m (HS s (HG g (HR r tl)))))))) (mapR ouI (fun z => (eLV :: (HD d (HF f (HW w (HM m (HS s (HG g (HR z tl))))))))) (B_Mod_room_21 r2 r x1 t1)) := by
  unfold B_Mod_room_21
  refine ev_iconst (v := 2) d_Mod_room_21 rfl ?_
  refine ev_iadd d_Mod_room_22 ?_
  refine ev_inB (fun h1 => ?_)
  refine ev_iaload rfl (inB_of h1) d_Mod_room_23 ?_
  refine ev_if_ne (tgt := 34) d_Mod_room_24 rfl (fun h2 => ?_) (fun h2 => ?_)
  · rw [if_pos h2]
    refine ev_iinc (v := (x1 + 1)) d_Mod_room_34 rfl rfl (by decide) rfl ?_
    refine ev_goto (tgt := 2) d_Mod_room_37 rfl ?_
    exact ev_pick [1, 0] rfl (hr2 r (x1 + 1))
  · rw [if_neg h2]
    refine ev_aload_n d_Mod_room_27 rfl rfl ?_
    refine ev_iconst (v := 1) d_Mod_room_28 rfl ?_
    refine ev_iload_n d_Mod_room_29 rfl rfl ?_
    refine ev_callB (rc := (f_Mod_place r 1 x1)) (ou := ouI) (Hs := (fun z => (eLV :: (HD d (HF f (HW w (HM m (HS s (HG g (HR r tl)))))))))) (inv_V (q := 12) (av := [.int 1, .int x1]) (rest := []) rfl (ci := 6) rfl d_Mod_room_30 gw_1308 gw_1310 gw_92 mw_Mod_place nh_Mod_place pn_Mod_place rfl) d_Mod_room_30 pl_Mod_place (Nat.le_of_ble_eq_true rfl) (Nat.le_of_ble_eq_true rfl) (Nat.le_of_ble_eq_true rfl) (e_f_Mod_place (tl := tl) (d := d) (f := f) (w := w) (m := m) (s := s) (g := g)  r 1 x1) (fun _ => (len1 (lenHD (lenHF (lenHW (lenHM (lenHS (lenHG (lenHR rfl))))))))) (fun v z h3 => ⟨_, rfl, ?_⟩)
    exact ev_pick [] rfl (e_B_Mod_room_33     r v)
def B_Mod_room_8  (r2 : RS → Int32 → Option (Int32 × RS)) (r : RS) (x1 : Int32) (t0 : Int32) : Option (Int32 × RS) :=
  if t0 < 0 then (if inB 1 61 then (if (rMan r (1 : Int32).toNatClampNeg) ≤ 0 then (B_Mod_room_64   r (-1)) else (if inB 1 61 then (bnd (f_Mod_pageAt r 1 (rMan r (1 : Int32).toNatClampNeg)) (fun q => B_Mod_room_60   r q.1)) else none)) else none) else (bnd (f_Mod_place r 1 x1) (fun q => B_Mod_room_21  r2 r x1 q.1))
theorem e_B_Mod_room_8 {sc : Nat × (Nat → Int32)} {d : DS} {f : FS} {w : WS} {m : MS} {s : SS} {g : GS} {tl : List mn_E}  (r2 : RS → Int32 → Option (Int32 × RS)) (hr2 : ∀ (r : RS) (x1 : Int32), Ev sc 2 34 0 0 M_Mod_room 2 [(0, .ref 12), (1, .int x1)] [] (eLV :: (HD d (HF f (HW w (HM m (HS s (HG g (HR r tl)))))))) (mapR ouI (fun z => (eLV :: (HD d (HF f (HW w (HM m (HS s (HG g (HR z tl))))))))) (r2 r x1))) (r : RS) (x1 : Int32) (t0 : Int32) : Ev sc 2 34 0 0 M_Mod_room 8 [(0, .ref 12), (1, .int x1)] [.int t0] (eLV :: (HD d (HF f (HW w (HM m (HS s (HG g (HR r tl)))))))) (mapR ouI (fun z => (eLV :: (HD d (HF f (HW w (HM m (HS s (HG g (HR z tl))))))))) (B_Mod_room_8 r2 r x1 t0)) := by
  unfold B_Mod_room_8
  refine ev_if_lt (tgt := 40) d_Mod_room_8 rfl (fun h1 => ?_) (fun h1 => ?_)
  · rw [if_pos h1]
    refine ev_aload_n d_Mod_room_40 rfl rfl ?_
    refine ev_get (v := .ref 25) gi_Mod (ci := 6) rfl rfl 25 (by decide) gw_1026 rfl d_Mod_room_41 ?_
    refine ev_iconst (v := 1) d_Mod_room_44 rfl ?_
    refine ev_inB (fun h2 => ?_)
    refine ev_iaload rfl (inB_of h2) d_Mod_room_45 ?_
    refine ev_if_le (tgt := 63) d_Mod_room_46 rfl (fun h3 => ?_) (fun h3 => ?_)
    · rw [if_pos h3]
      refine ev_iconst (v := -1) d_Mod_room_63 rfl ?_
      exact ev_pick [0] rfl (e_B_Mod_room_64     r (-1))
    · rw [if_neg h3]
      refine ev_aload_n d_Mod_room_49 rfl rfl ?_
      refine ev_iconst (v := 1) d_Mod_room_50 rfl ?_
      refine ev_aload_n d_Mod_room_51 rfl rfl ?_
      refine ev_get (v := .ref 25) gi_Mod (ci := 6) rfl rfl 25 (by decide) gw_1026 rfl d_Mod_room_52 ?_
      refine ev_iconst (v := 1) d_Mod_room_55 rfl ?_
      refine ev_inB (fun h4 => ?_)
      refine ev_iaload rfl (inB_of h4) d_Mod_room_56 ?_
      refine ev_callB (rc := (f_Mod_pageAt r 1 (rMan r (1 : Int32).toNatClampNeg))) (ou := ouI) (Hs := (fun z => (eLV :: (HD d (HF f (HW w (HM m (HS s (HG g (HR r tl)))))))))) (inv_V (q := 12) (av := [.int 1, .int (rMan r (1 : Int32).toNatClampNeg)]) (rest := []) rfl (ci := 6) rfl d_Mod_room_57 gw_1267 gw_1269 gw_82 mw_Mod_pageAt nh_Mod_pageAt pn_Mod_pageAt rfl) d_Mod_room_57 pl_Mod_pageAt (Nat.le_of_ble_eq_true rfl) (Nat.le_of_ble_eq_true rfl) (Nat.le_of_ble_eq_true rfl) (e_f_Mod_pageAt (tl := tl) (d := d) (f := f) (w := w) (m := m) (s := s) (g := g)  r 1 (rMan r (1 : Int32).toNatClampNeg)) (fun _ => (len1 (lenHD (lenHF (lenHW (lenHM (lenHS (lenHG (lenHR rfl))))))))) (fun v z h5 => ⟨_, rfl, ?_⟩)
      exact ev_pick [0] rfl (e_B_Mod_room_60     r v)
  · rw [if_neg h1]
    refine ev_aload_n d_Mod_room_11 rfl rfl ?_
    refine ev_get (v := .ref 18) gi_Mod (ci := 6) rfl rfl 7 (by decide) gw_1008 rfl d_Mod_room_12 ?_
    refine ev_aload_n d_Mod_room_15 rfl rfl ?_
    refine ev_iconst (v := 1) d_Mod_room_16 rfl ?_
    refine ev_iload_n d_Mod_room_17 rfl rfl ?_
    refine ev_callB (rc := (f_Mod_place r 1 x1)) (ou := ouI) (Hs := (fun z => (eLV :: (HD d (HF f (HW w (HM m (HS s (HG g (HR r tl)))))))))) (inv_V (q := 12) (av := [.int 1, .int x1]) (rest := [.ref 18]) rfl (ci := 6) rfl d_Mod_room_18 gw_1308 gw_1310 gw_92 mw_Mod_place nh_Mod_place pn_Mod_place rfl) d_Mod_room_18 pl_Mod_place (Nat.le_of_ble_eq_true rfl) (Nat.le_of_ble_eq_true rfl) (Nat.le_of_ble_eq_true rfl) (e_f_Mod_place (tl := tl) (d := d) (f := f) (w := w) (m := m) (s := s) (g := g)  r 1 x1) (fun _ => (len1 (lenHD (lenHF (lenHW (lenHM (lenHS (lenHG (lenHR rfl))))))))) (fun v z h6 => ⟨_, rfl, ?_⟩)
    exact ev_pick [0, 1] rfl (e_B_Mod_room_21   r2 hr2 r x1 v)
def L_Mod_room_2   : Nat → RS → Int32 → Option (Int32 × RS)
  | 0, _, _ => none
  | n + 1, r, x1 =>
  bnd (f_Mod_place r 1 x1) (fun q => B_Mod_room_8  (L_Mod_room_2 n) r x1 q.1)
theorem e_L_Mod_room_2 {sc : Nat × (Nat → Int32)} {d : DS} {f : FS} {w : WS} {m : MS} {s : SS} {g : GS} {tl : List mn_E}    : ∀ (n : Nat) (r : RS) (x1 : Int32), Ev sc 2 34 0 0 M_Mod_room 2 [(0, .ref 12), (1, .int x1)] [] (eLV :: (HD d (HF f (HW w (HM m (HS s (HG g (HR r tl)))))))) (mapR ouI (fun z => (eLV :: (HD d (HF f (HW w (HM m (HS s (HG g (HR z tl))))))))) (L_Mod_room_2   n r x1)) := by
  intro n
  induction n with
  | zero => intro r x1; exact ev_none
  | succ n ih =>
    intro r x1
    rw [L_Mod_room_2]
    refine ev_aload_n d_Mod_room_2 rfl rfl ?_
    refine ev_iconst (v := 1) d_Mod_room_3 rfl ?_
    refine ev_iload_n d_Mod_room_4 rfl rfl ?_
    refine ev_callB (rc := (f_Mod_place r 1 x1)) (ou := ouI) (Hs := (fun z => (eLV :: (HD d (HF f (HW w (HM m (HS s (HG g (HR r tl)))))))))) (inv_V (q := 12) (av := [.int 1, .int x1]) (rest := []) rfl (ci := 6) rfl d_Mod_room_5 gw_1308 gw_1310 gw_92 mw_Mod_place nh_Mod_place pn_Mod_place rfl) d_Mod_room_5 pl_Mod_place (Nat.le_of_ble_eq_true rfl) (Nat.le_of_ble_eq_true rfl) (Nat.le_of_ble_eq_true rfl) (e_f_Mod_place (tl := tl) (d := d) (f := f) (w := w) (m := m) (s := s) (g := g)  r 1 x1) (fun _ => (len1 (lenHD (lenHF (lenHW (lenHM (lenHS (lenHG (lenHR rfl))))))))) (fun v z h1 => ⟨_, rfl, ?_⟩)
    exact ev_pick [0, 1] rfl (e_B_Mod_room_8   (L_Mod_room_2 n) ih r x1 v)
def f_Mod_room   (r : RS) : Option (Int32 × RS) :=
  L_Mod_room_2   1000 r 0
theorem e_f_Mod_room {sc : Nat × (Nat → Int32)} {d : DS} {f : FS} {w : WS} {m : MS} {s : SS} {g : GS} {tl : List mn_E}    (r : RS) : Ev sc 2 34 0 0 M_Mod_room 0 [(0, .ref 12)] [] (eLV :: (HD d (HF f (HW w (HM m (HS s (HG g (HR r tl)))))))) (mapR ouI (fun z => (eLV :: (HD d (HF f (HW w (HM m (HS s (HG g (HR z tl))))))))) (f_Mod_room r)) := by
  unfold f_Mod_room
  refine ev_iconst (v := 0) d_Mod_room_0 rfl ?_
  refine ev_istore_n d_Mod_room_1 rfl (by decide) rfl ?_
  exact ev_pick [1, 0] rfl (e_L_Mod_room_2     1000 r 0)
def B_Mod_rootHas_52  (r4 : RS → Int32 → Int32 → Int32 → Option (Int32 × Unit)) (r : RS) (x1 : Int32) (x3 : Int32) (t0 : Int32) : Option (Int32 × Unit) :=
  r4 r x1 t0 (x3 + 1)
theorem e_B_Mod_rootHas_52 {sc : Nat × (Nat → Int32)} {d : DS} {f : FS} {w : WS} {m : MS} {s : SS} {g : GS} {tl : List mn_E}  (r4 : RS → Int32 → Int32 → Int32 → Option (Int32 × Unit)) (hr4 : ∀ (r : RS) (x1 : Int32) (x2 : Int32) (x3 : Int32), Ev sc 2 34 0 0 M_Mod_rootHas 4 [(0, .ref 12), (1, .int x1), (2, .int x2), (3, .int x3)] [] (eLV :: (HD d (HF f (HW w (HM m (HS s (HG g (HR r tl)))))))) (mapR ouI (fun z => (eLV :: (HD d (HF f (HW w (HM m (HS s (HG g (HR r tl))))))))) (r4 r x1 x2 x3))) (r : RS) (x1 : Int32) (x3 : Int32) (t0 : Int32) : Ev sc 2 34 0 0 M_Mod_rootHas 52 [(0, .ref 12), (1, .int x1), (3, .int x3)] [.int t0] (eLV :: (HD d (HF f (HW w (HM m (HS s (HG g (HR r tl)))))))) (mapR ouI (fun z => (eLV :: (HD d (HF f (HW w (HM m (HS s (HG g (HR r tl))))))))) (B_Mod_rootHas_52 r4 r x1 x3 t0)) := by
  unfold B_Mod_rootHas_52
  refine ev_istore_n d_Mod_rootHas_52 rfl (by decide) rfl ?_
  refine ev_iinc (v := (x3 + 1)) d_Mod_rootHas_53 rfl rfl (by decide) rfl ?_
  refine ev_goto (tgt := 4) d_Mod_rootHas_56 rfl ?_
  exact ev_pick [2, 3, 1, 0] rfl (hr4 r x1 t0 (x3 + 1))
def B_Mod_rootHas_47  (r4 : RS → Int32 → Int32 → Int32 → Option (Int32 × Unit)) (r : RS) (x1 : Int32) (x3 : Int32) : Option (Int32 × Unit) :=
  B_Mod_rootHas_52  r4 r x1 x3 1
theorem e_B_Mod_rootHas_47 {sc : Nat × (Nat → Int32)} {d : DS} {f : FS} {w : WS} {m : MS} {s : SS} {g : GS} {tl : List mn_E}  (r4 : RS → Int32 → Int32 → Int32 → Option (Int32 × Unit)) (hr4 : ∀ (r : RS) (x1 : Int32) (x2 : Int32) (x3 : Int32), Ev sc 2 34 0 0 M_Mod_rootHas 4 [(0, .ref 12), (1, .int x1), (2, .int x2), (3, .int x3)] [] (eLV :: (HD d (HF f (HW w (HM m (HS s (HG g (HR r tl)))))))) (mapR ouI (fun z => (eLV :: (HD d (HF f (HW w (HM m (HS s (HG g (HR r tl))))))))) (r4 r x1 x2 x3))) (r : RS) (x1 : Int32) (x3 : Int32) : Ev sc 2 34 0 0 M_Mod_rootHas 47 [(0, .ref 12), (1, .int x1), (3, .int x3)] [] (eLV :: (HD d (HF f (HW w (HM m (HS s (HG g (HR r tl)))))))) (mapR ouI (fun z => (eLV :: (HD d (HF f (HW w (HM m (HS s (HG g (HR r tl))))))))) (B_Mod_rootHas_47 r4 r x1 x3)) := by
  unfold B_Mod_rootHas_47
  refine ev_iconst (v := 1) d_Mod_rootHas_47 rfl ?_
  refine ev_goto (tgt := 52) d_Mod_rootHas_48 rfl ?_
  exact ev_pick [0, 1, 2] rfl (e_B_Mod_rootHas_52   r4 hr4 r x1 x3 1)
def B_Mod_rootHas_51  (r4 : RS → Int32 → Int32 → Int32 → Option (Int32 × Unit)) (r : RS) (x1 : Int32) (x3 : Int32) : Option (Int32 × Unit) :=
  B_Mod_rootHas_52  r4 r x1 x3 0
theorem e_B_Mod_rootHas_51 {sc : Nat × (Nat → Int32)} {d : DS} {f : FS} {w : WS} {m : MS} {s : SS} {g : GS} {tl : List mn_E}  (r4 : RS → Int32 → Int32 → Int32 → Option (Int32 × Unit)) (hr4 : ∀ (r : RS) (x1 : Int32) (x2 : Int32) (x3 : Int32), Ev sc 2 34 0 0 M_Mod_rootHas 4 [(0, .ref 12), (1, .int x1), (2, .int x2), (3, .int x3)] [] (eLV :: (HD d (HF f (HW w (HM m (HS s (HG g (HR r tl)))))))) (mapR ouI (fun z => (eLV :: (HD d (HF f (HW w (HM m (HS s (HG g (HR r tl))))))))) (r4 r x1 x2 x3))) (r : RS) (x1 : Int32) (x3 : Int32) : Ev sc 2 34 0 0 M_Mod_rootHas 51 [(0, .ref 12), (1, .int x1), (3, .int x3)] [] (eLV :: (HD d (HF f (HW w (HM m (HS s (HG g (HR r tl)))))))) (mapR ouI (fun z => (eLV :: (HD d (HF f (HW w (HM m (HS s (HG g (HR r tl))))))))) (B_Mod_rootHas_51 r4 r x1 x3)) := by
  unfold B_Mod_rootHas_51
  refine ev_iconst (v := 0) d_Mod_rootHas_51 rfl ?_
  exact ev_pick [0, 1, 2] rfl (e_B_Mod_rootHas_52   r4 hr4 r x1 x3 0)
def B_Mod_rootHas_43  (r4 : RS → Int32 → Int32 → Int32 → Option (Int32 × Unit)) (r : RS) (x1 : Int32) (x3 : Int32) (t0 : Int32) : Option (Int32 × Unit) :=
  if ¬ t0 = x1 then (B_Mod_rootHas_51  r4 r x1 x3) else (B_Mod_rootHas_47  r4 r x1 x3)
theorem e_B_Mod_rootHas_43 {sc : Nat × (Nat → Int32)} {d : DS} {f : FS} {w : WS} {m : MS} {s : SS} {g : GS} {tl : List mn_E}  (r4 : RS → Int32 → Int32 → Int32 → Option (Int32 × Unit)) (hr4 : ∀ (r : RS) (x1 : Int32) (x2 : Int32) (x3 : Int32), Ev sc 2 34 0 0 M_Mod_rootHas 4 [(0, .ref 12), (1, .int x1), (2, .int x2), (3, .int x3)] [] (eLV :: (HD d (HF f (HW w (HM m (HS s (HG g (HR r tl)))))))) (mapR ouI (fun z => (eLV :: (HD d (HF f (HW w (HM m (HS s (HG g (HR r tl))))))))) (r4 r x1 x2 x3))) (r : RS) (x1 : Int32) (x3 : Int32) (t0 : Int32) : Ev sc 2 34 0 0 M_Mod_rootHas 43 [(0, .ref 12), (1, .int x1), (3, .int x3)] [.int t0] (eLV :: (HD d (HF f (HW w (HM m (HS s (HG g (HR r tl)))))))) (mapR ouI (fun z => (eLV :: (HD d (HF f (HW w (HM m (HS s (HG g (HR r tl))))))))) (B_Mod_rootHas_43 r4 r x1 x3 t0)) := by
  unfold B_Mod_rootHas_43
  refine ev_iload_n d_Mod_rootHas_43 rfl rfl ?_
  refine ev_icmp_ne (tgt := 51) d_Mod_rootHas_44 rfl (fun h1 => ?_) (fun h1 => ?_)
  · rw [if_pos h1]
    exact ev_pick [0, 1, 2] rfl (e_B_Mod_rootHas_51   r4 hr4 r x1 x3)
  · rw [if_neg h1]
    exact ev_pick [0, 1, 2] rfl (e_B_Mod_rootHas_47   r4 hr4 r x1 x3)
def B_Mod_rootHas_40  (r4 : RS → Int32 → Int32 → Int32 → Option (Int32 × Unit)) (r : RS) (x1 : Int32) (x3 : Int32) (t1 : Int32) : Option (Int32 × Unit) :=
  bnd (f_Mod_nameAt r t1) (fun q => B_Mod_rootHas_43  r4 r x1 x3 q.1)
theorem e_B_Mod_rootHas_40 {sc : Nat × (Nat → Int32)} {d : DS} {f : FS} {w : WS} {m : MS} {s : SS} {g : GS} {tl : List mn_E}  (r4 : RS → Int32 → Int32 → Int32 → Option (Int32 × Unit)) (hr4 : ∀ (r : RS) (x1 : Int32) (x2 : Int32) (x3 : Int32), Ev sc 2 34 0 0 M_Mod_rootHas 4 [(0, .ref 12), (1, .int x1), (2, .int x2), (3, .int x3)] [] (eLV :: (HD d (HF f (HW w (HM m (HS s (HG g (HR r tl)))))))) (mapR ouI (fun z => (eLV :: (HD d (HF f (HW w (HM m (HS s (HG g (HR r tl))))))))) (r4 r x1 x2 x3))) (r : RS) (x1 : Int32) (x3 : Int32) (t1 : Int32) : Ev sc 2 34 0 0 M_Mod_rootHas 40 [(0, .ref 12), (1, .int x1), (3, .int x3)] [.int t1, .ref 12] (eLV :: (HD d (HF f (HW w (HM m (HS s (HG g (HR r tl)))))))) (mapR ouI (fun z => (eLV :: (HD d (HF f (HW w (HM m (HS s (HG g (HR r tl))))))))) (B_Mod_rootHas_40 r4 r x1 x3 t1)) := by
  unfold B_Mod_rootHas_40
  refine ev_callB (rc := (f_Mod_nameAt r t1)) (ou := ouI) (Hs := (fun z => (eLV :: (HD d (HF f (HW w (HM m (HS s (HG g (HR r tl)))))))))) (inv_V (q := 12) (av := [.int t1]) (rest := []) rfl (ci := 6) rfl d_Mod_rootHas_40 gw_1131 gw_1133 gw_56 mw_Mod_nameAt nh_Mod_nameAt pn_Mod_nameAt rfl) d_Mod_rootHas_40 pl_Mod_nameAt (Nat.le_of_ble_eq_true rfl) (Nat.le_of_ble_eq_true rfl) (Nat.le_of_ble_eq_true rfl) (e_f_Mod_nameAt (tl := tl) (d := d) (f := f) (w := w) (m := m) (s := s) (g := g)  r t1) (fun _ => (len1 (lenHD (lenHF (lenHW (lenHM (lenHS (lenHG (lenHR rfl))))))))) (fun v z h1 => ⟨_, rfl, ?_⟩)
  exact ev_pick [0, 1, 2] rfl (e_B_Mod_rootHas_43   r4 hr4 r x1 x3 v)
def B_Mod_rootHas_27  (r4 : RS → Int32 → Int32 → Int32 → Option (Int32 × Unit)) (r : RS) (x1 : Int32) (x3 : Int32) (t1 : Int32) : Option (Int32 × Unit) :=
  if inB (t1 + 2) 320 then (if (rByt r (t1 + 2).toNatClampNeg) ≤ 0 then (B_Mod_rootHas_51  r4 r x1 x3) else (bnd (f_Mod_place r 1 x3) (fun q => B_Mod_rootHas_40  r4 r x1 x3 q.1))) else none
theorem e_B_Mod_rootHas_27 {sc : Nat × (Nat → Int32)} {d : DS} {f : FS} {w : WS} {m : MS} {s : SS} {g : GS} {tl : List mn_E}  (r4 : RS → Int32 → Int32 → Int32 → Option (Int32 × Unit)) (hr4 : ∀ (r : RS) (x1 : Int32) (x2 : Int32) (x3 : Int32), Ev sc 2 34 0 0 M_Mod_rootHas 4 [(0, .ref 12), (1, .int x1), (2, .int x2), (3, .int x3)] [] (eLV :: (HD d (HF f (HW w (HM m (HS s (HG g (HR r tl)))))))) (mapR ouI (fun z => (eLV :: (HD d (HF f (HW w (HM m (HS s (HG g (HR r tl))))))))) (r4 r x1 x2 x3))) (r : RS) (x1 : Int32) (x3 : Int32) (t1 : Int32) : Ev sc 2 34 0 0 M_Mod_rootHas 27 [(0, .ref 12), (1, .int x1), (3, .int x3)] [.int t1, .ref 18] (eLV :: (HD d (HF f (HW w (HM m (HS s (HG g (HR r tl)))))))) (mapR ouI (fun z => (eLV :: (HD d (HF f (HW w (HM m (HS s (HG g (HR r tl))))))))) (B_Mod_rootHas_27 r4 r x1 x3 t1)) := by
  unfold B_Mod_rootHas_27
  refine ev_iconst (v := 2) d_Mod_rootHas_27 rfl ?_
  refine ev_iadd d_Mod_rootHas_28 ?_
  refine ev_inB (fun h1 => ?_)
  refine ev_iaload rfl (inB_of h1) d_Mod_rootHas_29 ?_
  refine ev_if_le (tgt := 51) d_Mod_rootHas_30 rfl (fun h2 => ?_) (fun h2 => ?_)
  · rw [if_pos h2]
    exact ev_pick [0, 1, 2] rfl (e_B_Mod_rootHas_51   r4 hr4 r x1 x3)
  · rw [if_neg h2]
    refine ev_aload_n d_Mod_rootHas_33 rfl rfl ?_
    refine ev_aload_n d_Mod_rootHas_34 rfl rfl ?_
    refine ev_iconst (v := 1) d_Mod_rootHas_35 rfl ?_
    refine ev_iload_n d_Mod_rootHas_36 rfl rfl ?_
    refine ev_callB (rc := (f_Mod_place r 1 x3)) (ou := ouI) (Hs := (fun z => (eLV :: (HD d (HF f (HW w (HM m (HS s (HG g (HR r tl)))))))))) (inv_V (q := 12) (av := [.int 1, .int x3]) (rest := [.ref 12]) rfl (ci := 6) rfl d_Mod_rootHas_37 gw_1308 gw_1310 gw_92 mw_Mod_place nh_Mod_place pn_Mod_place rfl) d_Mod_rootHas_37 pl_Mod_place (Nat.le_of_ble_eq_true rfl) (Nat.le_of_ble_eq_true rfl) (Nat.le_of_ble_eq_true rfl) (e_f_Mod_place (tl := tl) (d := d) (f := f) (w := w) (m := m) (s := s) (g := g)  r 1 x3) (fun _ => (len1 (lenHD (lenHF (lenHW (lenHM (lenHS (lenHG (lenHR rfl))))))))) (fun v z h3 => ⟨_, rfl, ?_⟩)
    exact ev_pick [0, 1, 2] rfl (e_B_Mod_rootHas_40   r4 hr4 r x1 x3 v)
def B_Mod_rootHas_10  (r4 : RS → Int32 → Int32 → Int32 → Option (Int32 × Unit)) (r : RS) (x1 : Int32) (x2 : Int32) (x3 : Int32) (t0 : Int32) : Option (Int32 × Unit) :=
  if t0 < 0 then (some ((vp_nar .boolean x2), ())) else (if ¬ x2 = 0 then (B_Mod_rootHas_47  r4 r x1 x3) else (bnd (f_Mod_place r 1 x3) (fun q => B_Mod_rootHas_27  r4 r x1 x3 q.1)))
theorem e_B_Mod_rootHas_10 {sc : Nat × (Nat → Int32)} {d : DS} {f : FS} {w : WS} {m : MS} {s : SS} {g : GS} {tl : List mn_E}  (r4 : RS → Int32 → Int32 → Int32 → Option (Int32 × Unit)) (hr4 : ∀ (r : RS) (x1 : Int32) (x2 : Int32) (x3 : Int32), Ev sc 2 34 0 0 M_Mod_rootHas 4 [(0, .ref 12), (1, .int x1), (2, .int x2), (3, .int x3)] [] (eLV :: (HD d (HF f (HW w (HM m (HS s (HG g (HR r tl)))))))) (mapR ouI (fun z => (eLV :: (HD d (HF f (HW w (HM m (HS s (HG g (HR r tl))))))))) (r4 r x1 x2 x3))) (r : RS) (x1 : Int32) (x2 : Int32) (x3 : Int32) (t0 : Int32) : Ev sc 2 34 0 0 M_Mod_rootHas 10 [(0, .ref 12), (1, .int x1), (2, .int x2), (3, .int x3)] [.int t0] (eLV :: (HD d (HF f (HW w (HM m (HS s (HG g (HR r tl)))))))) (mapR ouI (fun z => (eLV :: (HD d (HF f (HW w (HM m (HS s (HG g (HR r tl))))))))) (B_Mod_rootHas_10 r4 r x1 x2 x3 t0)) := by
  unfold B_Mod_rootHas_10
  refine ev_if_lt (tgt := 59) d_Mod_rootHas_10 rfl (fun h1 => ?_) (fun h1 => ?_)
  · rw [if_pos h1]
    refine ev_iload_n d_Mod_rootHas_59 rfl rfl ?_
    exact ev_zretN rfl d_Mod_rootHas_60
  · rw [if_neg h1]
    refine ev_iload_n d_Mod_rootHas_13 rfl rfl ?_
    refine ev_if_ne (tgt := 47) d_Mod_rootHas_14 rfl (fun h2 => ?_) (fun h2 => ?_)
    · rw [if_pos h2]
      exact ev_pick [0, 1, 3] rfl (e_B_Mod_rootHas_47   r4 hr4 r x1 x3)
    · rw [if_neg h2]
      refine ev_aload_n d_Mod_rootHas_17 rfl rfl ?_
      refine ev_get (v := .ref 18) gi_Mod (ci := 6) rfl rfl 7 (by decide) gw_1008 rfl d_Mod_rootHas_18 ?_
      refine ev_aload_n d_Mod_rootHas_21 rfl rfl ?_
      refine ev_iconst (v := 1) d_Mod_rootHas_22 rfl ?_
      refine ev_iload_n d_Mod_rootHas_23 rfl rfl ?_
      refine ev_callB (rc := (f_Mod_place r 1 x3)) (ou := ouI) (Hs := (fun z => (eLV :: (HD d (HF f (HW w (HM m (HS s (HG g (HR r tl)))))))))) (inv_V (q := 12) (av := [.int 1, .int x3]) (rest := [.ref 18]) rfl (ci := 6) rfl d_Mod_rootHas_24 gw_1308 gw_1310 gw_92 mw_Mod_place nh_Mod_place pn_Mod_place rfl) d_Mod_rootHas_24 pl_Mod_place (Nat.le_of_ble_eq_true rfl) (Nat.le_of_ble_eq_true rfl) (Nat.le_of_ble_eq_true rfl) (e_f_Mod_place (tl := tl) (d := d) (f := f) (w := w) (m := m) (s := s) (g := g)  r 1 x3) (fun _ => (len1 (lenHD (lenHF (lenHW (lenHM (lenHS (lenHG (lenHR rfl))))))))) (fun v z h3 => ⟨_, rfl, ?_⟩)
      exact ev_pick [0, 1, 3] rfl (e_B_Mod_rootHas_27   r4 hr4 r x1 x3 v)
def L_Mod_rootHas_4   : Nat → RS → Int32 → Int32 → Int32 → Option (Int32 × Unit)
  | 0, _, _, _, _ => none
  | n + 1, r, x1, x2, x3 =>
  bnd (f_Mod_place r 1 x3) (fun q => B_Mod_rootHas_10  (L_Mod_rootHas_4 n) r x1 x2 x3 q.1)
theorem e_L_Mod_rootHas_4 {sc : Nat × (Nat → Int32)} {d : DS} {f : FS} {w : WS} {m : MS} {s : SS} {g : GS} {tl : List mn_E}    : ∀ (n : Nat) (r : RS) (x1 : Int32) (x2 : Int32) (x3 : Int32), Ev sc 2 34 0 0 M_Mod_rootHas 4 [(0, .ref 12), (1, .int x1), (2, .int x2), (3, .int x3)] [] (eLV :: (HD d (HF f (HW w (HM m (HS s (HG g (HR r tl)))))))) (mapR ouI (fun z => (eLV :: (HD d (HF f (HW w (HM m (HS s (HG g (HR r tl))))))))) (L_Mod_rootHas_4   n r x1 x2 x3)) := by
  intro n
  induction n with
  | zero => intro r x1 x2 x3; exact ev_none
  | succ n ih =>
    intro r x1 x2 x3
    rw [L_Mod_rootHas_4]
    refine ev_aload_n d_Mod_rootHas_4 rfl rfl ?_
    refine ev_iconst (v := 1) d_Mod_rootHas_5 rfl ?_
    refine ev_iload_n d_Mod_rootHas_6 rfl rfl ?_
    refine ev_callB (rc := (f_Mod_place r 1 x3)) (ou := ouI) (Hs := (fun z => (eLV :: (HD d (HF f (HW w (HM m (HS s (HG g (HR r tl)))))))))) (inv_V (q := 12) (av := [.int 1, .int x3]) (rest := []) rfl (ci := 6) rfl d_Mod_rootHas_7 gw_1308 gw_1310 gw_92 mw_Mod_place nh_Mod_place pn_Mod_place rfl) d_Mod_rootHas_7 pl_Mod_place (Nat.le_of_ble_eq_true rfl) (Nat.le_of_ble_eq_true rfl) (Nat.le_of_ble_eq_true rfl) (e_f_Mod_place (tl := tl) (d := d) (f := f) (w := w) (m := m) (s := s) (g := g)  r 1 x3) (fun _ => (len1 (lenHD (lenHF (lenHW (lenHM (lenHS (lenHG (lenHR rfl))))))))) (fun v z h1 => ⟨_, rfl, ?_⟩)
    exact ev_pick [0, 1, 2, 3] rfl (e_B_Mod_rootHas_10   (L_Mod_rootHas_4 n) ih r x1 x2 x3 v)
def f_Mod_rootHas   (r : RS) (x1 : Int32) : Option (Int32 × Unit) :=
  L_Mod_rootHas_4   1000 r x1 0 0
theorem e_f_Mod_rootHas {sc : Nat × (Nat → Int32)} {d : DS} {f : FS} {w : WS} {m : MS} {s : SS} {g : GS} {tl : List mn_E}    (r : RS) (x1 : Int32) : Ev sc 2 34 0 0 M_Mod_rootHas 0 [(0, .ref 12), (1, .int x1)] [] (eLV :: (HD d (HF f (HW w (HM m (HS s (HG g (HR r tl)))))))) (mapR ouI (fun z => (eLV :: (HD d (HF f (HW w (HM m (HS s (HG g (HR r tl))))))))) (f_Mod_rootHas r x1)) := by
  unfold f_Mod_rootHas
  refine ev_iconst (v := 0) d_Mod_rootHas_0 rfl ?_
  refine ev_istore_n d_Mod_rootHas_1 rfl (by decide) rfl ?_
  refine ev_iconst (v := 0) d_Mod_rootHas_2 rfl ?_
  refine ev_istore_n d_Mod_rootHas_3 rfl (by decide) rfl ?_
  exact ev_pick [2, 3, 1, 0] rfl (e_L_Mod_rootHas_4     1000 r x1 0 0)
