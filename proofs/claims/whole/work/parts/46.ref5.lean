def B_Mod_adopt_211  (r4 : RS → Int32 → Int32 → Option (Unit × RS)) (r : RS) (x1 : Int32) (x2 : Int32) : Option (Unit × RS) :=
  r4 r x1 (x2 + 1)
theorem e_B_Mod_adopt_211 {sc : Nat × (Nat → Int32)} {d : DS} {f : FS} {w : WS} {m : MS} {s : SS} {g : GS} {tl : List mn_E}  (r4 : RS → Int32 → Int32 → Option (Unit × RS)) (hr4 : ∀ (r : RS) (x1 : Int32) (x2 : Int32), Ev sc 4 66 0 0 M_Mod_adopt 4 [(0, .ref 12), (1, .int x1), (2, .int x2)] [] (eLV :: (HD d (HF f (HW w (HM m (HS s (HG g (HR r tl)))))))) (mapR ouV (fun z => (eLV :: (HD d (HF f (HW w (HM m (HS s (HG g (HR z tl))))))))) (r4 r x1 x2))) (r : RS) (x1 : Int32) (x2 : Int32) : Ev sc 4 66 0 0 M_Mod_adopt 211 [(0, .ref 12), (1, .int x1), (2, .int x2)] [] (eLV :: (HD d (HF f (HW w (HM m (HS s (HG g (HR r tl)))))))) (mapR ouV (fun z => (eLV :: (HD d (HF f (HW w (HM m (HS s (HG g (HR z tl))))))))) (B_Mod_adopt_211 r4 r x1 x2)) := by
  unfold B_Mod_adopt_211
  refine ev_iinc (v := (x2 + 1)) d_Mod_adopt_211 rfl rfl (by decide) rfl ?_
  refine ev_goto (tgt := 4) d_Mod_adopt_214 rfl ?_
  exact ev_pick [1, 2, 0] rfl (hr4 r x1 (x2 + 1))
def B_Mod_adopt_203  (r4 : RS → Int32 → Int32 → Option (Unit × RS)) (r : RS) (x1 : Int32) (x2 : Int32) (x3 : Int32) (t0 : Int32) : Option (Unit × RS) :=
  if t0 = 0 then (B_Mod_adopt_211  r4 r x1 x2) else (bnd (f_Mod_walk r x3) (fun q => B_Mod_adopt_211  r4 q.2 x1 x2))
theorem e_B_Mod_adopt_203 {sc : Nat × (Nat → Int32)} {d : DS} {f : FS} {w : WS} {m : MS} {s : SS} {g : GS} {tl : List mn_E}  (r4 : RS → Int32 → Int32 → Option (Unit × RS)) (hr4 : ∀ (r : RS) (x1 : Int32) (x2 : Int32), Ev sc 4 66 0 0 M_Mod_adopt 4 [(0, .ref 12), (1, .int x1), (2, .int x2)] [] (eLV :: (HD d (HF f (HW w (HM m (HS s (HG g (HR r tl)))))))) (mapR ouV (fun z => (eLV :: (HD d (HF f (HW w (HM m (HS s (HG g (HR z tl))))))))) (r4 r x1 x2))) (r : RS) (x1 : Int32) (x2 : Int32) (x3 : Int32) (t0 : Int32) : Ev sc 4 66 0 0 M_Mod_adopt 203 [(0, .ref 12), (1, .int x1), (2, .int x2), (3, .int x3)] [.int t0] (eLV :: (HD d (HF f (HW w (HM m (HS s (HG g (HR r tl)))))))) (mapR ouV (fun z => (eLV :: (HD d (HF f (HW w (HM m (HS s (HG g (HR z tl))))))))) (B_Mod_adopt_203 r4 r x1 x2 x3 t0)) := by
  unfold B_Mod_adopt_203
  refine ev_if_eq (tgt := 211) d_Mod_adopt_203 rfl (fun h1 => ?_) (fun h1 => ?_)
  · rw [if_pos h1]
    exact ev_pick [0, 1, 2] rfl (e_B_Mod_adopt_211   r4 hr4 r x1 x2)
  · rw [if_neg h1]
    refine ev_aload_n d_Mod_adopt_206 rfl rfl ?_
    refine ev_iload_n d_Mod_adopt_207 rfl rfl ?_
    refine ev_callB (rc := (f_Mod_walk r x3)) (ou := ouV) (Hs := (fun z => (eLV :: (HD d (HF f (HW w (HM m (HS s (HG g (HR z tl)))))))))) (inv_V (q := 12) (av := [.int x3]) (rest := []) rfl (ci := 6) rfl d_Mod_adopt_208 gw_1303 gw_1305 gw_91 mw_Mod_walk nh_Mod_walk pn_Mod_walk rfl) d_Mod_adopt_208 pl_Mod_walk (Nat.le_of_ble_eq_true rfl) (Nat.le_of_ble_eq_true rfl) (Nat.le_of_ble_eq_true rfl) (e_f_Mod_walk (tl := tl) (d := d) (f := f) (w := w) (m := m) (s := s) (g := g)  r x3) (fun _ => (len1 (lenHD (lenHF (lenHW (lenHM (lenHS (lenHG (lenHR rfl))))))))) (fun v z h2 => ⟨_, rfl, ?_⟩)
    exact ev_pick [0, 1, 2] rfl (e_B_Mod_adopt_211   r4 hr4 z x1 x2)
def B_Mod_adopt_200  (r4 : RS → Int32 → Int32 → Option (Unit × RS)) (r : RS) (x1 : Int32) (x2 : Int32) (x3 : Int32) (t1 : Int32) : Option (Unit × RS) :=
  bnd (f_Mod_isDirectory r t1) (fun q => B_Mod_adopt_203  r4 r x1 x2 x3 q.1)
theorem e_B_Mod_adopt_200 {sc : Nat × (Nat → Int32)} {d : DS} {f : FS} {w : WS} {m : MS} {s : SS} {g : GS} {tl : List mn_E}  (r4 : RS → Int32 → Int32 → Option (Unit × RS)) (hr4 : ∀ (r : RS) (x1 : Int32) (x2 : Int32), Ev sc 4 66 0 0 M_Mod_adopt 4 [(0, .ref 12), (1, .int x1), (2, .int x2)] [] (eLV :: (HD d (HF f (HW w (HM m (HS s (HG g (HR r tl)))))))) (mapR ouV (fun z => (eLV :: (HD d (HF f (HW w (HM m (HS s (HG g (HR z tl))))))))) (r4 r x1 x2))) (r : RS) (x1 : Int32) (x2 : Int32) (x3 : Int32) (t1 : Int32) : Ev sc 4 66 0 0 M_Mod_adopt 200 [(0, .ref 12), (1, .int x1), (2, .int x2), (3, .int x3)] [.int t1, .ref 12] (eLV :: (HD d (HF f (HW w (HM m (HS s (HG g (HR r tl)))))))) (mapR ouV (fun z => (eLV :: (HD d (HF f (HW w (HM m (HS s (HG g (HR z tl))))))))) (B_Mod_adopt_200 r4 r x1 x2 x3 t1)) := by
  unfold B_Mod_adopt_200
  refine ev_callB (rc := (f_Mod_isDirectory r t1)) (ou := ouI) (Hs := (fun z => (eLV :: (HD d (HF f (HW w (HM m (HS s (HG g (HR r tl)))))))))) (inv_V (q := 12) (av := [.int t1]) (rest := []) rfl (ci := 6) rfl d_Mod_adopt_200 gw_1123 gw_1125 gw_54 mw_Mod_isDirectory nh_Mod_isDirectory pn_Mod_isDirectory rfl) d_Mod_adopt_200 pl_Mod_isDirectory (Nat.le_of_ble_eq_true rfl) (Nat.le_of_ble_eq_true rfl) (Nat.le_of_ble_eq_true rfl) (e_f_Mod_isDirectory (tl := tl) (d := d) (f := f) (w := w) (m := m) (s := s) (g := g)  r t1) (fun _ => (len1 (lenHD (lenHF (lenHW (lenHM (lenHS (lenHG (lenHR rfl))))))))) (fun v z h1 => ⟨_, rfl, ?_⟩)
  exact ev_pick [0, 1, 2, 3] rfl (e_B_Mod_adopt_203   r4 hr4 r x1 x2 x3 v)
def B_Mod_adopt_194  (r4 : RS → Int32 → Int32 → Option (Unit × RS)) (r : RS) (x1 : Int32) (x2 : Int32) (x3 : Int32) : Option (Unit × RS) :=
  bnd (f_Mod_headOf r x3) (fun q => B_Mod_adopt_200  r4 r x1 x2 x3 q.1)
theorem e_B_Mod_adopt_194 {sc : Nat × (Nat → Int32)} {d : DS} {f : FS} {w : WS} {m : MS} {s : SS} {g : GS} {tl : List mn_E}  (r4 : RS → Int32 → Int32 → Option (Unit × RS)) (hr4 : ∀ (r : RS) (x1 : Int32) (x2 : Int32), Ev sc 4 66 0 0 M_Mod_adopt 4 [(0, .ref 12), (1, .int x1), (2, .int x2)] [] (eLV :: (HD d (HF f (HW w (HM m (HS s (HG g (HR r tl)))))))) (mapR ouV (fun z => (eLV :: (HD d (HF f (HW w (HM m (HS s (HG g (HR z tl))))))))) (r4 r x1 x2))) (r : RS) (x1 : Int32) (x2 : Int32) (x3 : Int32) : Ev sc 4 66 0 0 M_Mod_adopt 194 [(0, .ref 12), (1, .int x1), (2, .int x2), (3, .int x3)] [] (eLV :: (HD d (HF f (HW w (HM m (HS s (HG g (HR r tl)))))))) (mapR ouV (fun z => (eLV :: (HD d (HF f (HW w (HM m (HS s (HG g (HR z tl))))))))) (B_Mod_adopt_194 r4 r x1 x2 x3)) := by
  unfold B_Mod_adopt_194
  refine ev_aload_n d_Mod_adopt_194 rfl rfl ?_
  refine ev_aload_n d_Mod_adopt_195 rfl rfl ?_
  refine ev_iload_n d_Mod_adopt_196 rfl rfl ?_
  refine ev_callB (rc := (f_Mod_headOf r x3)) (ou := ouI) (Hs := (fun z => (eLV :: (HD d (HF f (HW w (HM m (HS s (HG g (HR r tl)))))))))) (inv_V (q := 12) (av := [.int x3]) (rest := [.ref 12]) rfl (ci := 6) rfl d_Mod_adopt_197 gw_1283 gw_1285 gw_86 mw_Mod_headOf nh_Mod_headOf pn_Mod_headOf rfl) d_Mod_adopt_197 pl_Mod_headOf (Nat.le_of_ble_eq_true rfl) (Nat.le_of_ble_eq_true rfl) (Nat.le_of_ble_eq_true rfl) (e_f_Mod_headOf (tl := tl) (d := d) (f := f) (w := w) (m := m) (s := s) (g := g)  r x3) (fun _ => (len1 (lenHD (lenHF (lenHW (lenHM (lenHS (lenHG (lenHR rfl))))))))) (fun v z h1 => ⟨_, rfl, ?_⟩)
  exact ev_pick [0, 1, 2, 3] rfl (e_B_Mod_adopt_200   r4 hr4 r x1 x2 x3 v)
def B_Mod_adopt_180  (r4 : RS → Int32 → Int32 → Option (Unit × RS)) (r : RS) (x1 : Int32) (x2 : Int32) (x3 : Int32) : Option (Unit × RS) :=
  if inB 3 5 then (if inB 3 5 then (B_Mod_adopt_194  r4 (rSRep r (upd (rRep r) (3 : Int32).toNatClampNeg ((rRep r (3 : Int32).toNatClampNeg) + 1))) x1 x2 x3) else none) else none
theorem e_B_Mod_adopt_180 {sc : Nat × (Nat → Int32)} {d : DS} {f : FS} {w : WS} {m : MS} {s : SS} {g : GS} {tl : List mn_E}  (r4 : RS → Int32 → Int32 → Option (Unit × RS)) (hr4 : ∀ (r : RS) (x1 : Int32) (x2 : Int32), Ev sc 4 66 0 0 M_Mod_adopt 4 [(0, .ref 12), (1, .int x1), (2, .int x2)] [] (eLV :: (HD d (HF f (HW w (HM m (HS s (HG g (HR r tl)))))))) (mapR ouV (fun z => (eLV :: (HD d (HF f (HW w (HM m (HS s (HG g (HR z tl))))))))) (r4 r x1 x2))) (r : RS) (x1 : Int32) (x2 : Int32) (x3 : Int32) : Ev sc 4 66 0 0 M_Mod_adopt 180 [(0, .ref 12), (1, .int x1), (2, .int x2), (3, .int x3)] [] (eLV :: (HD d (HF f (HW w (HM m (HS s (HG g (HR r tl)))))))) (mapR ouV (fun z => (eLV :: (HD d (HF f (HW w (HM m (HS s (HG g (HR z tl))))))))) (B_Mod_adopt_180 r4 r x1 x2 x3)) := by
  unfold B_Mod_adopt_180
  refine ev_aload_n d_Mod_adopt_180 rfl rfl ?_
  refine ev_get (v := .ref 22) gi_Mod (ci := 6) rfl rfl 21 (by decide) gw_1022 rfl d_Mod_adopt_181 ?_
  refine ev_iconst (v := 3) d_Mod_adopt_184 rfl ?_
  refine ev_aload_n d_Mod_adopt_185 rfl rfl ?_
  refine ev_get (v := .ref 22) gi_Mod (ci := 6) rfl rfl 21 (by decide) gw_1022 rfl d_Mod_adopt_186 ?_
  refine ev_iconst (v := 3) d_Mod_adopt_189 rfl ?_
  refine ev_inB (fun h1 => ?_)
  refine ev_iaload rfl (inB_of h1) d_Mod_adopt_190 ?_
  refine ev_iconst (v := 1) d_Mod_adopt_191 rfl ?_
  refine ev_iadd d_Mod_adopt_192 ?_
  refine ev_inB (fun h2 => ?_)
  refine ev_iastore (h2 := (eLV :: (HD d (HF f (HW w (HM m (HS s (HG g (HR (rSRep r (upd (rRep r) (3 : Int32).toNatClampNeg ((rRep r (3 : Int32).toNatClampNeg) + 1))) tl))))))))) rfl (inB_of h2) rfl d_Mod_adopt_193 ?_
  exact ev_pick [0, 1, 2, 3] rfl (e_B_Mod_adopt_194   r4 hr4 (rSRep r (upd (rRep r) (3 : Int32).toNatClampNeg ((rRep r (3 : Int32).toNatClampNeg) + 1))) x1 x2 x3)
def B_Mod_adopt_173  (r4 : RS → Int32 → Int32 → Option (Unit × RS)) (r : RS) (x1 : Int32) (x2 : Int32) (x3 : Int32) : Option (Unit × RS) :=
  if inB x3 61 then (B_Mod_adopt_180  r4 (rSRea r (upd (rRea r) x3.toNatClampNeg (vp_nar .boolean 1))) x1 x2 x3) else none
theorem e_B_Mod_adopt_173 {sc : Nat × (Nat → Int32)} {d : DS} {f : FS} {w : WS} {m : MS} {s : SS} {g : GS} {tl : List mn_E}  (r4 : RS → Int32 → Int32 → Option (Unit × RS)) (hr4 : ∀ (r : RS) (x1 : Int32) (x2 : Int32), Ev sc 4 66 0 0 M_Mod_adopt 4 [(0, .ref 12), (1, .int x1), (2, .int x2)] [] (eLV :: (HD d (HF f (HW w (HM m (HS s (HG g (HR r tl)))))))) (mapR ouV (fun z => (eLV :: (HD d (HF f (HW w (HM m (HS s (HG g (HR z tl))))))))) (r4 r x1 x2))) (r : RS) (x1 : Int32) (x2 : Int32) (x3 : Int32) : Ev sc 4 66 0 0 M_Mod_adopt 173 [(0, .ref 12), (1, .int x1), (2, .int x2), (3, .int x3)] [] (eLV :: (HD d (HF f (HW w (HM m (HS s (HG g (HR r tl)))))))) (mapR ouV (fun z => (eLV :: (HD d (HF f (HW w (HM m (HS s (HG g (HR z tl))))))))) (B_Mod_adopt_173 r4 r x1 x2 x3)) := by
  unfold B_Mod_adopt_173
  refine ev_aload_n d_Mod_adopt_173 rfl rfl ?_
  refine ev_get (v := .ref 26) gi_Mod (ci := 6) rfl rfl 26 (by decide) gw_1027 rfl d_Mod_adopt_174 ?_
  refine ev_iload_n d_Mod_adopt_177 rfl rfl ?_
  refine ev_iconst (v := 1) d_Mod_adopt_178 rfl ?_
  refine ev_inB (fun h1 => ?_)
  refine ev_zastore (h2 := (eLV :: (HD d (HF f (HW w (HM m (HS s (HG g (HR (rSRea r (upd (rRea r) x3.toNatClampNeg (vp_nar .boolean 1))) tl))))))))) rfl (inB_of h1) rfl d_Mod_adopt_179 ?_
  exact ev_pick [0, 1, 2, 3] rfl (e_B_Mod_adopt_180   r4 hr4 (rSRea r (upd (rRea r) x3.toNatClampNeg (vp_nar .boolean 1))) x1 x2 x3)
def B_Mod_adopt_163  (r4 : RS → Int32 → Int32 → Option (Unit × RS)) (r : RS) (x1 : Int32) (x2 : Int32) (x3 : Int32) (x4 : Int32) (t1 : Int32) (t2 : Int32) : Option (Unit × RS) :=
  if inB ((t1 * t2) + 1) 320 then (B_Mod_adopt_173  r4 (rSByt r (upd (rByt r) ((t1 * t2) + 1).toNatClampNeg (x4 - x4 / 256 * 256))) x1 x2 x3) else none
theorem e_B_Mod_adopt_163 {sc : Nat × (Nat → Int32)} {d : DS} {f : FS} {w : WS} {m : MS} {s : SS} {g : GS} {tl : List mn_E}  (r4 : RS → Int32 → Int32 → Option (Unit × RS)) (hr4 : ∀ (r : RS) (x1 : Int32) (x2 : Int32), Ev sc 4 66 0 0 M_Mod_adopt 4 [(0, .ref 12), (1, .int x1), (2, .int x2)] [] (eLV :: (HD d (HF f (HW w (HM m (HS s (HG g (HR r tl)))))))) (mapR ouV (fun z => (eLV :: (HD d (HF f (HW w (HM m (HS s (HG g (HR z tl))))))))) (r4 r x1 x2))) (r : RS) (x1 : Int32) (x2 : Int32) (x3 : Int32) (x4 : Int32) (t1 : Int32) (t2 : Int32) : Ev sc 4 66 0 0 M_Mod_adopt 163 [(0, .ref 12), (1, .int x1), (2, .int x2), (3, .int x3), (4, .int x4)] [.int t2, .int t1, .ref 18] (eLV :: (HD d (HF f (HW w (HM m (HS s (HG g (HR r tl)))))))) (mapR ouV (fun z => (eLV :: (HD d (HF f (HW w (HM m (HS s (HG g (HR z tl))))))))) (B_Mod_adopt_163 r4 r x1 x2 x3 x4 t1 t2)) := by
  unfold B_Mod_adopt_163
  refine ev_imul d_Mod_adopt_163 ?_
  refine ev_iconst (v := 1) d_Mod_adopt_164 rfl ?_
  refine ev_iadd d_Mod_adopt_165 ?_
  refine ev_iload d_Mod_adopt_166 rfl ?_
  refine ev_sipush (v := 256) d_Mod_adopt_168 rfl ?_
  refine ev_irem d_Mod_adopt_171 (by decide) ?_
  refine ev_inB (fun h1 => ?_)
  refine ev_iastore (h2 := (eLV :: (HD d (HF f (HW w (HM m (HS s (HG g (HR (rSByt r (upd (rByt r) ((t1 * t2) + 1).toNatClampNeg (x4 - x4 / 256 * 256))) tl))))))))) rfl (inB_of h1) rfl d_Mod_adopt_172 ?_
  exact ev_pick [0, 1, 2, 3] rfl (e_B_Mod_adopt_173   r4 hr4 (rSByt r (upd (rByt r) ((t1 * t2) + 1).toNatClampNeg (x4 - x4 / 256 * 256))) x1 x2 x3)
def B_Mod_adopt_152  (r4 : RS → Int32 → Int32 → Option (Unit × RS)) (r : RS) (x1 : Int32) (x2 : Int32) (x3 : Int32) (x4 : Int32) : Option (Unit × RS) :=
  bnd (f_Mod_headOf r x3) (fun q => B_Mod_adopt_163  r4 r x1 x2 x3 x4 8 q.1)
theorem e_B_Mod_adopt_152 {sc : Nat × (Nat → Int32)} {d : DS} {f : FS} {w : WS} {m : MS} {s : SS} {g : GS} {tl : List mn_E}  (r4 : RS → Int32 → Int32 → Option (Unit × RS)) (hr4 : ∀ (r : RS) (x1 : Int32) (x2 : Int32), Ev sc 4 66 0 0 M_Mod_adopt 4 [(0, .ref 12), (1, .int x1), (2, .int x2)] [] (eLV :: (HD d (HF f (HW w (HM m (HS s (HG g (HR r tl)))))))) (mapR ouV (fun z => (eLV :: (HD d (HF f (HW w (HM m (HS s (HG g (HR z tl))))))))) (r4 r x1 x2))) (r : RS) (x1 : Int32) (x2 : Int32) (x3 : Int32) (x4 : Int32) : Ev sc 4 66 0 0 M_Mod_adopt 152 [(0, .ref 12), (1, .int x1), (2, .int x2), (3, .int x3), (4, .int x4)] [] (eLV :: (HD d (HF f (HW w (HM m (HS s (HG g (HR r tl)))))))) (mapR ouV (fun z => (eLV :: (HD d (HF f (HW w (HM m (HS s (HG g (HR z tl))))))))) (B_Mod_adopt_152 r4 r x1 x2 x3 x4)) := by
  unfold B_Mod_adopt_152
  refine ev_aload_n d_Mod_adopt_152 rfl rfl ?_
  refine ev_get (v := .ref 18) gi_Mod (ci := 6) rfl rfl 7 (by decide) gw_1008 rfl d_Mod_adopt_153 ?_
  refine ev_bipush (v := 8) d_Mod_adopt_156 rfl ?_
  refine ev_aload_n d_Mod_adopt_158 rfl rfl ?_
  refine ev_iload_n d_Mod_adopt_159 rfl rfl ?_
  refine ev_callB (rc := (f_Mod_headOf r x3)) (ou := ouI) (Hs := (fun z => (eLV :: (HD d (HF f (HW w (HM m (HS s (HG g (HR r tl)))))))))) (inv_V (q := 12) (av := [.int x3]) (rest := [.int 8, .ref 18]) rfl (ci := 6) rfl d_Mod_adopt_160 gw_1283 gw_1285 gw_86 mw_Mod_headOf nh_Mod_headOf pn_Mod_headOf rfl) d_Mod_adopt_160 pl_Mod_headOf (Nat.le_of_ble_eq_true rfl) (Nat.le_of_ble_eq_true rfl) (Nat.le_of_ble_eq_true rfl) (e_f_Mod_headOf (tl := tl) (d := d) (f := f) (w := w) (m := m) (s := s) (g := g)  r x3) (fun _ => (len1 (lenHD (lenHF (lenHW (lenHM (lenHS (lenHG (lenHR rfl))))))))) (fun v z h1 => ⟨_, rfl, ?_⟩)
  exact ev_pick [0, 1, 2, 3, 4] rfl (e_B_Mod_adopt_163   r4 hr4 r x1 x2 x3 x4 8 v)
def B_Mod_adopt_144  (r4 : RS → Int32 → Int32 → Option (Unit × RS)) (r : RS) (x1 : Int32) (x2 : Int32) (x3 : Int32) (x4 : Int32) (t1 : Int32) (t2 : Int32) : Option (Unit × RS) :=
  if inB (t1 * t2) 320 then (B_Mod_adopt_152  r4 (rSByt r (upd (rByt r) (t1 * t2).toNatClampNeg (x4 / 256))) x1 x2 x3 x4) else none
theorem e_B_Mod_adopt_144 {sc : Nat × (Nat → Int32)} {d : DS} {f : FS} {w : WS} {m : MS} {s : SS} {g : GS} {tl : List mn_E}  (r4 : RS → Int32 → Int32 → Option (Unit × RS)) (hr4 : ∀ (r : RS) (x1 : Int32) (x2 : Int32), Ev sc 4 66 0 0 M_Mod_adopt 4 [(0, .ref 12), (1, .int x1), (2, .int x2)] [] (eLV :: (HD d (HF f (HW w (HM m (HS s (HG g (HR r tl)))))))) (mapR ouV (fun z => (eLV :: (HD d (HF f (HW w (HM m (HS s (HG g (HR z tl))))))))) (r4 r x1 x2))) (r : RS) (x1 : Int32) (x2 : Int32) (x3 : Int32) (x4 : Int32) (t1 : Int32) (t2 : Int32) : Ev sc 4 66 0 0 M_Mod_adopt 144 [(0, .ref 12), (1, .int x1), (2, .int x2), (3, .int x3), (4, .int x4)] [.int t2, .int t1, .ref 18] (eLV :: (HD d (HF f (HW w (HM m (HS s (HG g (HR r tl)))))))) (mapR ouV (fun z => (eLV :: (HD d (HF f (HW w (HM m (HS s (HG g (HR z tl))))))))) (B_Mod_adopt_144 r4 r x1 x2 x3 x4 t1 t2)) := by
  unfold B_Mod_adopt_144
  refine ev_imul d_Mod_adopt_144 ?_
  refine ev_iload d_Mod_adopt_145 rfl ?_
  refine ev_sipush (v := 256) d_Mod_adopt_147 rfl ?_
  refine ev_idiv d_Mod_adopt_150 (by decide) ?_
  refine ev_inB (fun h1 => ?_)
  refine ev_iastore (h2 := (eLV :: (HD d (HF f (HW w (HM m (HS s (HG g (HR (rSByt r (upd (rByt r) (t1 * t2).toNatClampNeg (x4 / 256))) tl))))))))) rfl (inB_of h1) rfl d_Mod_adopt_151 ?_
  exact ev_pick [0, 1, 2, 3, 4] rfl (e_B_Mod_adopt_152   r4 hr4 (rSByt r (upd (rByt r) (t1 * t2).toNatClampNeg (x4 / 256))) x1 x2 x3 x4)
def B_Mod_adopt_133  (r4 : RS → Int32 → Int32 → Option (Unit × RS)) (r : RS) (x1 : Int32) (x2 : Int32) (x3 : Int32) (x4 : Int32) : Option (Unit × RS) :=
  bnd (f_Mod_headOf r x3) (fun q => B_Mod_adopt_144  r4 r x1 x2 x3 x4 8 q.1)
theorem e_B_Mod_adopt_133 {sc : Nat × (Nat → Int32)} {d : DS} {f : FS} {w : WS} {m : MS} {s : SS} {g : GS} {tl : List mn_E}  (r4 : RS → Int32 → Int32 → Option (Unit × RS)) (hr4 : ∀ (r : RS) (x1 : Int32) (x2 : Int32), Ev sc 4 66 0 0 M_Mod_adopt 4 [(0, .ref 12), (1, .int x1), (2, .int x2)] [] (eLV :: (HD d (HF f (HW w (HM m (HS s (HG g (HR r tl)))))))) (mapR ouV (fun z => (eLV :: (HD d (HF f (HW w (HM m (HS s (HG g (HR z tl))))))))) (r4 r x1 x2))) (r : RS) (x1 : Int32) (x2 : Int32) (x3 : Int32) (x4 : Int32) : Ev sc 4 66 0 0 M_Mod_adopt 133 [(0, .ref 12), (1, .int x1), (2, .int x2), (3, .int x3), (4, .int x4)] [] (eLV :: (HD d (HF f (HW w (HM m (HS s (HG g (HR r tl)))))))) (mapR ouV (fun z => (eLV :: (HD d (HF f (HW w (HM m (HS s (HG g (HR z tl))))))))) (B_Mod_adopt_133 r4 r x1 x2 x3 x4)) := by
  unfold B_Mod_adopt_133
  refine ev_aload_n d_Mod_adopt_133 rfl rfl ?_
  refine ev_get (v := .ref 18) gi_Mod (ci := 6) rfl rfl 7 (by decide) gw_1008 rfl d_Mod_adopt_134 ?_
  refine ev_bipush (v := 8) d_Mod_adopt_137 rfl ?_
  refine ev_aload_n d_Mod_adopt_139 rfl rfl ?_
  refine ev_iload_n d_Mod_adopt_140 rfl rfl ?_
  refine ev_callB (rc := (f_Mod_headOf r x3)) (ou := ouI) (Hs := (fun z => (eLV :: (HD d (HF f (HW w (HM m (HS s (HG g (HR r tl)))))))))) (inv_V (q := 12) (av := [.int x3]) (rest := [.int 8, .ref 18]) rfl (ci := 6) rfl d_Mod_adopt_141 gw_1283 gw_1285 gw_86 mw_Mod_headOf nh_Mod_headOf pn_Mod_headOf rfl) d_Mod_adopt_141 pl_Mod_headOf (Nat.le_of_ble_eq_true rfl) (Nat.le_of_ble_eq_true rfl) (Nat.le_of_ble_eq_true rfl) (e_f_Mod_headOf (tl := tl) (d := d) (f := f) (w := w) (m := m) (s := s) (g := g)  r x3) (fun _ => (len1 (lenHD (lenHF (lenHW (lenHM (lenHS (lenHG (lenHR rfl))))))))) (fun v z h1 => ⟨_, rfl, ?_⟩)
  exact ev_pick [0, 1, 2, 3, 4] rfl (e_B_Mod_adopt_144   r4 hr4 r x1 x2 x3 x4 8 v)
def B_Mod_adopt_130  (r4 : RS → Int32 → Int32 → Option (Unit × RS)) (r : RS) (x1 : Int32) (x2 : Int32) (x3 : Int32) (x4 : Int32) (t1 : Int32) (t2 : Int32) (t3 : Int32) (t4 : Int32) : Option (Unit × RS) :=
  bnd (f_Mod_setEntry r t1 t2 t3 t4) (fun q => B_Mod_adopt_133  r4 q.2 x1 x2 x3 x4)
theorem e_B_Mod_adopt_130 {sc : Nat × (Nat → Int32)} {d : DS} {f : FS} {w : WS} {m : MS} {s : SS} {g : GS} {tl : List mn_E}  (r4 : RS → Int32 → Int32 → Option (Unit × RS)) (hr4 : ∀ (r : RS) (x1 : Int32) (x2 : Int32), Ev sc 4 66 0 0 M_Mod_adopt 4 [(0, .ref 12), (1, .int x1), (2, .int x2)] [] (eLV :: (HD d (HF f (HW w (HM m (HS s (HG g (HR r tl)))))))) (mapR ouV (fun z => (eLV :: (HD d (HF f (HW w (HM m (HS s (HG g (HR z tl))))))))) (r4 r x1 x2))) (r : RS) (x1 : Int32) (x2 : Int32) (x3 : Int32) (x4 : Int32) (t1 : Int32) (t2 : Int32) (t3 : Int32) (t4 : Int32) : Ev sc 4 66 0 0 M_Mod_adopt 130 [(0, .ref 12), (1, .int x1), (2, .int x2), (3, .int x3), (4, .int x4)] [.int t4, .int t3, .int t2, .int t1, .ref 12] (eLV :: (HD d (HF f (HW w (HM m (HS s (HG g (HR r tl)))))))) (mapR ouV (fun z => (eLV :: (HD d (HF f (HW w (HM m (HS s (HG g (HR z tl))))))))) (B_Mod_adopt_130 r4 r x1 x2 x3 x4 t1 t2 t3 t4)) := by
  unfold B_Mod_adopt_130
  refine ev_callB (rc := (f_Mod_setEntry r t1 t2 t3 t4)) (ou := ouV) (Hs := (fun z => (eLV :: (HD d (HF f (HW w (HM m (HS s (HG g (HR z tl)))))))))) (inv_V (q := 12) (av := [.int t1, .int t2, .int t3, .int t4]) (rest := []) rfl (ci := 6) rfl d_Mod_adopt_130 gw_1175 gw_1177 gw_67 mw_Mod_setEntry nh_Mod_setEntry pn_Mod_setEntry rfl) d_Mod_adopt_130 pl_Mod_setEntry (Nat.le_of_ble_eq_true rfl) (Nat.le_of_ble_eq_true rfl) (Nat.le_of_ble_eq_true rfl) (e_f_Mod_setEntry (tl := tl) (d := d) (f := f) (w := w) (m := m) (s := s) (g := g)  r t1 t2 t3 t4) (fun _ => (len1 (lenHD (lenHF (lenHW (lenHM (lenHS (lenHG (lenHR rfl))))))))) (fun v z h1 => ⟨_, rfl, ?_⟩)
  exact ev_pick [0, 1, 2, 3, 4] rfl (e_B_Mod_adopt_133   r4 hr4 z x1 x2 x3 x4)
def B_Mod_adopt_117  (r4 : RS → Int32 → Int32 → Option (Unit × RS)) (r : RS) (x1 : Int32) (x2 : Int32) (x3 : Int32) (x6 : Int32) (t0 : Int32) : Option (Unit × RS) :=
  bnd (f_Mod_headOf r x3) (fun q => B_Mod_adopt_130  r4 r x1 x2 x3 t0 x6 t0 x3 q.1)
theorem e_B_Mod_adopt_117 {sc : Nat × (Nat → Int32)} {d : DS} {f : FS} {w : WS} {m : MS} {s : SS} {g : GS} {tl : List mn_E}  (r4 : RS → Int32 → Int32 → Option (Unit × RS)) (hr4 : ∀ (r : RS) (x1 : Int32) (x2 : Int32), Ev sc 4 66 0 0 M_Mod_adopt 4 [(0, .ref 12), (1, .int x1), (2, .int x2)] [] (eLV :: (HD d (HF f (HW w (HM m (HS s (HG g (HR r tl)))))))) (mapR ouV (fun z => (eLV :: (HD d (HF f (HW w (HM m (HS s (HG g (HR z tl))))))))) (r4 r x1 x2))) (r : RS) (x1 : Int32) (x2 : Int32) (x3 : Int32) (x6 : Int32) (t0 : Int32) : Ev sc 4 66 0 0 M_Mod_adopt 117 [(0, .ref 12), (1, .int x1), (2, .int x2), (3, .int x3), (6, .int x6)] [.int t0] (eLV :: (HD d (HF f (HW w (HM m (HS s (HG g (HR r tl)))))))) (mapR ouV (fun z => (eLV :: (HD d (HF f (HW w (HM m (HS s (HG g (HR z tl))))))))) (B_Mod_adopt_117 r4 r x1 x2 x3 x6 t0)) := by
  unfold B_Mod_adopt_117
  refine ev_istore d_Mod_adopt_117 (by decide) rfl ?_
  refine ev_aload_n d_Mod_adopt_119 rfl rfl ?_
  refine ev_iload d_Mod_adopt_120 rfl ?_
  refine ev_iload d_Mod_adopt_122 rfl ?_
  refine ev_iload_n d_Mod_adopt_124 rfl rfl ?_
  refine ev_aload_n d_Mod_adopt_125 rfl rfl ?_
  refine ev_iload_n d_Mod_adopt_126 rfl rfl ?_
  refine ev_callB (rc := (f_Mod_headOf r x3)) (ou := ouI) (Hs := (fun z => (eLV :: (HD d (HF f (HW w (HM m (HS s (HG g (HR r tl)))))))))) (inv_V (q := 12) (av := [.int x3]) (rest := [.int x3, .int t0, .int x6, .ref 12]) rfl (ci := 6) rfl d_Mod_adopt_127 gw_1283 gw_1285 gw_86 mw_Mod_headOf nh_Mod_headOf pn_Mod_headOf rfl) d_Mod_adopt_127 pl_Mod_headOf (Nat.le_of_ble_eq_true rfl) (Nat.le_of_ble_eq_true rfl) (Nat.le_of_ble_eq_true rfl) (e_f_Mod_headOf (tl := tl) (d := d) (f := f) (w := w) (m := m) (s := s) (g := g)  r x3) (fun _ => (len1 (lenHD (lenHF (lenHW (lenHM (lenHS (lenHG (lenHR rfl))))))))) (fun v z h1 => ⟨_, rfl, ?_⟩)
  exact ev_pick [1, 2, 3, 4, 0] rfl (e_B_Mod_adopt_130   r4 hr4 r x1 x2 x3 t0 x6 t0 x3 v)
def B_Mod_adopt_97  (r4 : RS → Int32 → Int32 → Option (Unit × RS)) (r : RS) (x2 : Int32) (x3 : Int32) (x4 : Int32) (x5 : Int32) (x6 : Int32) (t0 : Int32) : Option (Unit × RS) :=
  if t0 = 0 then (B_Mod_adopt_211  r4 r t0 x2) else (if x5 = 0 then (B_Mod_adopt_117  r4 r t0 x2 x3 x6 (10000 + x3)) else (B_Mod_adopt_117  r4 r t0 x2 x3 x6 x4))
theorem e_B_Mod_adopt_97 {sc : Nat × (Nat → Int32)} {d : DS} {f : FS} {w : WS} {m : MS} {s : SS} {g : GS} {tl : List mn_E}  (r4 : RS → Int32 → Int32 → Option (Unit × RS)) (hr4 : ∀ (r : RS) (x1 : Int32) (x2 : Int32), Ev sc 4 66 0 0 M_Mod_adopt 4 [(0, .ref 12), (1, .int x1), (2, .int x2)] [] (eLV :: (HD d (HF f (HW w (HM m (HS s (HG g (HR r tl)))))))) (mapR ouV (fun z => (eLV :: (HD d (HF f (HW w (HM m (HS s (HG g (HR z tl))))))))) (r4 r x1 x2))) (r : RS) (x2 : Int32) (x3 : Int32) (x4 : Int32) (x5 : Int32) (x6 : Int32) (t0 : Int32) : Ev sc 4 66 0 0 M_Mod_adopt 97 [(0, .ref 12), (2, .int x2), (3, .int x3), (4, .int x4), (5, .int x5), (6, .int x6)] [.int t0] (eLV :: (HD d (HF f (HW w (HM m (HS s (HG g (HR r tl)))))))) (mapR ouV (fun z => (eLV :: (HD d (HF f (HW w (HM m (HS s (HG g (HR z tl))))))))) (B_Mod_adopt_97 r4 r x2 x3 x4 x5 x6 t0)) := by
  unfold B_Mod_adopt_97
  refine ev_istore_n d_Mod_adopt_97 rfl (by decide) rfl ?_
  refine ev_iload_n d_Mod_adopt_98 rfl rfl ?_
  refine ev_if_eq (tgt := 211) d_Mod_adopt_99 rfl (fun h1 => ?_) (fun h1 => ?_)
  · rw [if_pos h1]
    exact ev_pick [1, 0, 2] rfl (e_B_Mod_adopt_211   r4 hr4 r t0 x2)
  · rw [if_neg h1]
    refine ev_iload d_Mod_adopt_102 rfl ?_
    refine ev_if_eq (tgt := 112) d_Mod_adopt_104 rfl (fun h2 => ?_) (fun h2 => ?_)
    · rw [if_pos h2]
      refine ev_sipush (v := 10000) d_Mod_adopt_112 rfl ?_
      refine ev_iload_n d_Mod_adopt_115 rfl rfl ?_
      refine ev_iadd d_Mod_adopt_116 ?_
      exact ev_pick [1, 0, 2, 3, 6] rfl (e_B_Mod_adopt_117   r4 hr4 r t0 x2 x3 x6 (10000 + x3))
    · rw [if_neg h2]
      refine ev_iload d_Mod_adopt_107 rfl ?_
      refine ev_goto (tgt := 117) d_Mod_adopt_109 rfl ?_
      exact ev_pick [1, 0, 2, 3, 6] rfl (e_B_Mod_adopt_117   r4 hr4 r t0 x2 x3 x6 x4)
def B_Mod_adopt_85  (r4 : RS → Int32 → Int32 → Option (Unit × RS)) (r : RS) (x2 : Int32) (x3 : Int32) (x4 : Int32) (x5 : Int32) (t0 : Int32) : Option (Unit × RS) :=
  if t0 < 0 then (B_Mod_adopt_97  r4 r x2 x3 x4 x5 t0 0) else (B_Mod_adopt_97  r4 r x2 x3 x4 x5 t0 1)
theorem e_B_Mod_adopt_85 {sc : Nat × (Nat → Int32)} {d : DS} {f : FS} {w : WS} {m : MS} {s : SS} {g : GS} {tl : List mn_E}  (r4 : RS → Int32 → Int32 → Option (Unit × RS)) (hr4 : ∀ (r : RS) (x1 : Int32) (x2 : Int32), Ev sc 4 66 0 0 M_Mod_adopt 4 [(0, .ref 12), (1, .int x1), (2, .int x2)] [] (eLV :: (HD d (HF f (HW w (HM m (HS s (HG g (HR r tl)))))))) (mapR ouV (fun z => (eLV :: (HD d (HF f (HW w (HM m (HS s (HG g (HR z tl))))))))) (r4 r x1 x2))) (r : RS) (x2 : Int32) (x3 : Int32) (x4 : Int32) (x5 : Int32) (t0 : Int32) : Ev sc 4 66 0 0 M_Mod_adopt 85 [(0, .ref 12), (2, .int x2), (3, .int x3), (4, .int x4), (5, .int x5)] [.int t0] (eLV :: (HD d (HF f (HW w (HM m (HS s (HG g (HR r tl)))))))) (mapR ouV (fun z => (eLV :: (HD d (HF f (HW w (HM m (HS s (HG g (HR z tl))))))))) (B_Mod_adopt_85 r4 r x2 x3 x4 x5 t0)) := by
  unfold B_Mod_adopt_85
  refine ev_istore d_Mod_adopt_85 (by decide) rfl ?_
  refine ev_iload d_Mod_adopt_87 rfl ?_
  refine ev_if_lt (tgt := 96) d_Mod_adopt_89 rfl (fun h1 => ?_) (fun h1 => ?_)
  · rw [if_pos h1]
    refine ev_iconst (v := 0) d_Mod_adopt_96 rfl ?_
    exact ev_pick [1, 2, 3, 4, 5, 0] rfl (e_B_Mod_adopt_97   r4 hr4 r x2 x3 x4 x5 t0 0)
  · rw [if_neg h1]
    refine ev_iconst (v := 1) d_Mod_adopt_92 rfl ?_
    refine ev_goto (tgt := 97) d_Mod_adopt_93 rfl ?_
    exact ev_pick [1, 2, 3, 4, 5, 0] rfl (e_B_Mod_adopt_97   r4 hr4 r x2 x3 x4 x5 t0 1)
def B_Mod_adopt_81  (r4 : RS → Int32 → Int32 → Option (Unit × RS)) (r : RS) (x2 : Int32) (x3 : Int32) (x4 : Int32) (x5 : Int32) (t0 : Int32) : Option (Unit × RS) :=
  B_Mod_adopt_85  r4 r x2 x3 x4 x5 t0
theorem e_B_Mod_adopt_81 {sc : Nat × (Nat → Int32)} {d : DS} {f : FS} {w : WS} {m : MS} {s : SS} {g : GS} {tl : List mn_E}  (r4 : RS → Int32 → Int32 → Option (Unit × RS)) (hr4 : ∀ (r : RS) (x1 : Int32) (x2 : Int32), Ev sc 4 66 0 0 M_Mod_adopt 4 [(0, .ref 12), (1, .int x1), (2, .int x2)] [] (eLV :: (HD d (HF f (HW w (HM m (HS s (HG g (HR r tl)))))))) (mapR ouV (fun z => (eLV :: (HD d (HF f (HW w (HM m (HS s (HG g (HR z tl))))))))) (r4 r x1 x2))) (r : RS) (x2 : Int32) (x3 : Int32) (x4 : Int32) (x5 : Int32) (t0 : Int32) : Ev sc 4 66 0 0 M_Mod_adopt 81 [(0, .ref 12), (2, .int x2), (3, .int x3), (4, .int x4), (5, .int x5)] [.int t0] (eLV :: (HD d (HF f (HW w (HM m (HS s (HG g (HR r tl)))))))) (mapR ouV (fun z => (eLV :: (HD d (HF f (HW w (HM m (HS s (HG g (HR z tl))))))))) (B_Mod_adopt_81 r4 r x2 x3 x4 x5 t0)) := by
  unfold B_Mod_adopt_81
  refine ev_goto (tgt := 85) d_Mod_adopt_81 rfl ?_
  exact ev_pick [0, 1, 2, 3, 4] rfl (e_B_Mod_adopt_85   r4 hr4 r x2 x3 x4 x5 t0)
def B_Mod_adopt_71  (r4 : RS → Int32 → Int32 → Option (Unit × RS)) (r : RS) (x2 : Int32) (x3 : Int32) (x4 : Int32) (t0 : Int32) : Option (Unit × RS) :=
  if x3 ≤ 0 then (B_Mod_adopt_85  r4 r x2 x3 x4 t0 (-1)) else (bnd (f_Mod_room r) (fun q => B_Mod_adopt_81  r4 q.2 x2 x3 x4 t0 q.1))
theorem e_B_Mod_adopt_71 {sc : Nat × (Nat → Int32)} {d : DS} {f : FS} {w : WS} {m : MS} {s : SS} {g : GS} {tl : List mn_E}  (r4 : RS → Int32 → Int32 → Option (Unit × RS)) (hr4 : ∀ (r : RS) (x1 : Int32) (x2 : Int32), Ev sc 4 66 0 0 M_Mod_adopt 4 [(0, .ref 12), (1, .int x1), (2, .int x2)] [] (eLV :: (HD d (HF f (HW w (HM m (HS s (HG g (HR r tl)))))))) (mapR ouV (fun z => (eLV :: (HD d (HF f (HW w (HM m (HS s (HG g (HR z tl))))))))) (r4 r x1 x2))) (r : RS) (x2 : Int32) (x3 : Int32) (x4 : Int32) (t0 : Int32) : Ev sc 4 66 0 0 M_Mod_adopt 71 [(0, .ref 12), (2, .int x2), (3, .int x3), (4, .int x4)] [.int t0] (eLV :: (HD d (HF f (HW w (HM m (HS s (HG g (HR r tl)))))))) (mapR ouV (fun z => (eLV :: (HD d (HF f (HW w (HM m (HS s (HG g (HR z tl))))))))) (B_Mod_adopt_71 r4 r x2 x3 x4 t0)) := by
  unfold B_Mod_adopt_71
  refine ev_istore d_Mod_adopt_71 (by decide) rfl ?_
  refine ev_iload_n d_Mod_adopt_73 rfl rfl ?_
  refine ev_if_le (tgt := 84) d_Mod_adopt_74 rfl (fun h1 => ?_) (fun h1 => ?_)
  · rw [if_pos h1]
    refine ev_iconst (v := -1) d_Mod_adopt_84 rfl ?_
    exact ev_pick [1, 2, 3, 4, 0] rfl (e_B_Mod_adopt_85   r4 hr4 r x2 x3 x4 t0 (-1))
  · rw [if_neg h1]
    refine ev_aload_n d_Mod_adopt_77 rfl rfl ?_
    refine ev_callB (rc := (f_Mod_room r)) (ou := ouI) (Hs := (fun z => (eLV :: (HD d (HF f (HW w (HM m (HS s (HG g (HR z tl)))))))))) (inv_V (q := 12) (av := []) (rest := []) rfl (ci := 6) rfl d_Mod_adopt_78 gw_1328 gw_1330 gw_97 mw_Mod_room nh_Mod_room pn_Mod_room rfl) d_Mod_adopt_78 pl_Mod_room (Nat.le_of_ble_eq_true rfl) (Nat.le_of_ble_eq_true rfl) (Nat.le_of_ble_eq_true rfl) (e_f_Mod_room (tl := tl) (d := d) (f := f) (w := w) (m := m) (s := s) (g := g)  r ) (fun _ => (len1 (lenHD (lenHF (lenHW (lenHM (lenHS (lenHG (lenHR rfl))))))))) (fun v z h2 => ⟨_, rfl, ?_⟩)
    exact ev_pick [1, 2, 3, 4, 0] rfl (e_B_Mod_adopt_81   r4 hr4 z x2 x3 x4 t0 v)
def B_Mod_adopt_70  (r4 : RS → Int32 → Int32 → Option (Unit × RS)) (r : RS) (x2 : Int32) (x3 : Int32) (x4 : Int32) : Option (Unit × RS) :=
  B_Mod_adopt_71  r4 r x2 x3 x4 0
theorem e_B_Mod_adopt_70 {sc : Nat × (Nat → Int32)} {d : DS} {f : FS} {w : WS} {m : MS} {s : SS} {g : GS} {tl : List mn_E}  (r4 : RS → Int32 → Int32 → Option (Unit × RS)) (hr4 : ∀ (r : RS) (x1 : Int32) (x2 : Int32), Ev sc 4 66 0 0 M_Mod_adopt 4 [(0, .ref 12), (1, .int x1), (2, .int x2)] [] (eLV :: (HD d (HF f (HW w (HM m (HS s (HG g (HR r tl)))))))) (mapR ouV (fun z => (eLV :: (HD d (HF f (HW w (HM m (HS s (HG g (HR z tl))))))))) (r4 r x1 x2))) (r : RS) (x2 : Int32) (x3 : Int32) (x4 : Int32) : Ev sc 4 66 0 0 M_Mod_adopt 70 [(0, .ref 12), (2, .int x2), (3, .int x3), (4, .int x4)] [] (eLV :: (HD d (HF f (HW w (HM m (HS s (HG g (HR r tl)))))))) (mapR ouV (fun z => (eLV :: (HD d (HF f (HW w (HM m (HS s (HG g (HR z tl))))))))) (B_Mod_adopt_70 r4 r x2 x3 x4)) := by
  unfold B_Mod_adopt_70
  refine ev_iconst (v := 0) d_Mod_adopt_70 rfl ?_
  exact ev_pick [0, 1, 2, 3] rfl (e_B_Mod_adopt_71   r4 hr4 r x2 x3 x4 0)
def B_Mod_adopt_63  (r4 : RS → Int32 → Int32 → Option (Unit × RS)) (r : RS) (x2 : Int32) (x3 : Int32) (x4 : Int32) (t0 : Int32) : Option (Unit × RS) :=
  if ¬ t0 = 0 then (B_Mod_adopt_70  r4 r x2 x3 x4) else (B_Mod_adopt_71  r4 r x2 x3 x4 1)
theorem e_B_Mod_adopt_63 {sc : Nat × (Nat → Int32)} {d : DS} {f : FS} {w : WS} {m : MS} {s : SS} {g : GS} {tl : List mn_E}  (r4 : RS → Int32 → Int32 → Option (Unit × RS)) (hr4 : ∀ (r : RS) (x1 : Int32) (x2 : Int32), Ev sc 4 66 0 0 M_Mod_adopt 4 [(0, .ref 12), (1, .int x1), (2, .int x2)] [] (eLV :: (HD d (HF f (HW w (HM m (HS s (HG g (HR r tl)))))))) (mapR ouV (fun z => (eLV :: (HD d (HF f (HW w (HM m (HS s (HG g (HR z tl))))))))) (r4 r x1 x2))) (r : RS) (x2 : Int32) (x3 : Int32) (x4 : Int32) (t0 : Int32) : Ev sc 4 66 0 0 M_Mod_adopt 63 [(0, .ref 12), (2, .int x2), (3, .int x3), (4, .int x4)] [.int t0] (eLV :: (HD d (HF f (HW w (HM m (HS s (HG g (HR r tl)))))))) (mapR ouV (fun z => (eLV :: (HD d (HF f (HW w (HM m (HS s (HG g (HR z tl))))))))) (B_Mod_adopt_63 r4 r x2 x3 x4 t0)) := by
  unfold B_Mod_adopt_63
  refine ev_if_ne (tgt := 70) d_Mod_adopt_63 rfl (fun h1 => ?_) (fun h1 => ?_)
  · rw [if_pos h1]
    exact ev_pick [0, 1, 2, 3] rfl (e_B_Mod_adopt_70   r4 hr4 r x2 x3 x4)
  · rw [if_neg h1]
    refine ev_iconst (v := 1) d_Mod_adopt_66 rfl ?_
    refine ev_goto (tgt := 71) d_Mod_adopt_67 rfl ?_
    exact ev_pick [0, 1, 2, 3] rfl (e_B_Mod_adopt_71   r4 hr4 r x2 x3 x4 1)
def B_Mod_adopt_39  (r4 : RS → Int32 → Int32 → Option (Unit × RS)) (r : RS) (x2 : Int32) (x3 : Int32) (t0 : Int32) : Option (Unit × RS) :=
  if x3 ≤ 0 then (B_Mod_adopt_70  r4 r x2 x3 t0) else (if ((f_Mod_in t0 1 9999).1) = 0 then (B_Mod_adopt_70  r4 r x2 x3 t0) else (bnd (f_Mod_rootHas r t0) (fun q => B_Mod_adopt_63  r4 r x2 x3 t0 q.1)))
theorem e_B_Mod_adopt_39 {sc : Nat × (Nat → Int32)} {d : DS} {f : FS} {w : WS} {m : MS} {s : SS} {g : GS} {tl : List mn_E}  (r4 : RS → Int32 → Int32 → Option (Unit × RS)) (hr4 : ∀ (r : RS) (x1 : Int32) (x2 : Int32), Ev sc 4 66 0 0 M_Mod_adopt 4 [(0, .ref 12), (1, .int x1), (2, .int x2)] [] (eLV :: (HD d (HF f (HW w (HM m (HS s (HG g (HR r tl)))))))) (mapR ouV (fun z => (eLV :: (HD d (HF f (HW w (HM m (HS s (HG g (HR z tl))))))))) (r4 r x1 x2))) (r : RS) (x2 : Int32) (x3 : Int32) (t0 : Int32) : Ev sc 4 66 0 0 M_Mod_adopt 39 [(0, .ref 12), (2, .int x2), (3, .int x3)] [.int t0] (eLV :: (HD d (HF f (HW w (HM m (HS s (HG g (HR r tl)))))))) (mapR ouV (fun z => (eLV :: (HD d (HF f (HW w (HM m (HS s (HG g (HR z tl))))))))) (B_Mod_adopt_39 r4 r x2 x3 t0)) := by
  unfold B_Mod_adopt_39
  refine ev_istore d_Mod_adopt_39 (by decide) rfl ?_
  refine ev_iload_n d_Mod_adopt_41 rfl rfl ?_
  refine ev_if_le (tgt := 70) d_Mod_adopt_42 rfl (fun h1 => ?_) (fun h1 => ?_)
  · rw [if_pos h1]
    exact ev_pick [1, 2, 3, 0] rfl (e_B_Mod_adopt_70   r4 hr4 r x2 x3 t0)
  · rw [if_neg h1]
    refine ev_iload d_Mod_adopt_45 rfl ?_
    refine ev_iconst (v := 1) d_Mod_adopt_47 rfl ?_
    refine ev_sipush (v := 9999) d_Mod_adopt_48 rfl ?_
    refine ev_callr (Mc := M_Mod_in) (v := some (.int ((f_Mod_in t0 1 9999).1))) (h1 := (eLV :: (HD d (HF f (HW w (HM m (HS s (HG g (HR r tl))))))))) (k2 := 0) (n2 := 0) (inv_S (av := [.int t0, .int 1, .int 9999]) (rest := []) d_Mod_adopt_51 gw_1108 gw_1109 gw_108 mw_Mod_in nh_Mod_in pn_Mod_in rfl) d_Mod_adopt_51 pl_Mod_in (Nat.le_of_ble_eq_true rfl) (Nat.le_of_ble_eq_true rfl) (Nat.le_of_ble_eq_true rfl) rfl rfl (e_f_Mod_in (hh := (eLV :: (HD d (HF f (HW w (HM m (HS s (HG g (HR r tl)))))))))   t0 1 9999) (Or.inl (len1 (lenHD (lenHF (lenHW (lenHM (lenHS (lenHG (lenHR rfl))))))))) ?_
    refine ev_if_eq (tgt := 70) d_Mod_adopt_54 rfl (fun h2 => ?_) (fun h2 => ?_)
    · rw [if_pos h2]
      exact ev_pick [1, 2, 3, 0] rfl (e_B_Mod_adopt_70   r4 hr4 r x2 x3 t0)
    · rw [if_neg h2]
      refine ev_aload_n d_Mod_adopt_57 rfl rfl ?_
      refine ev_iload d_Mod_adopt_58 rfl ?_
      refine ev_callB (rc := (f_Mod_rootHas r t0)) (ou := ouI) (Hs := (fun z => (eLV :: (HD d (HF f (HW w (HM m (HS s (HG g (HR r tl)))))))))) (inv_V (q := 12) (av := [.int t0]) (rest := []) rfl (ci := 6) rfl d_Mod_adopt_60 gw_1324 gw_1326 gw_96 mw_Mod_rootHas nh_Mod_rootHas pn_Mod_rootHas rfl) d_Mod_adopt_60 pl_Mod_rootHas (Nat.le_of_ble_eq_true rfl) (Nat.le_of_ble_eq_true rfl) (Nat.le_of_ble_eq_true rfl) (e_f_Mod_rootHas (tl := tl) (d := d) (f := f) (w := w) (m := m) (s := s) (g := g)  r t0) (fun _ => (len1 (lenHD (lenHF (lenHW (lenHM (lenHS (lenHG (lenHR rfl))))))))) (fun v z h3 => ⟨_, rfl, ?_⟩)
      exact ev_pick [1, 2, 3, 0] rfl (e_B_Mod_adopt_63   r4 hr4 r x2 x3 t0 v)
def B_Mod_adopt_35  (r4 : RS → Int32 → Int32 → Option (Unit × RS)) (r : RS) (x2 : Int32) (x3 : Int32) (t0 : Int32) : Option (Unit × RS) :=
  B_Mod_adopt_39  r4 r x2 x3 t0
theorem e_B_Mod_adopt_35 {sc : Nat × (Nat → Int32)} {d : DS} {f : FS} {w : WS} {m : MS} {s : SS} {g : GS} {tl : List mn_E}  (r4 : RS → Int32 → Int32 → Option (Unit × RS)) (hr4 : ∀ (r : RS) (x1 : Int32) (x2 : Int32), Ev sc 4 66 0 0 M_Mod_adopt 4 [(0, .ref 12), (1, .int x1), (2, .int x2)] [] (eLV :: (HD d (HF f (HW w (HM m (HS s (HG g (HR r tl)))))))) (mapR ouV (fun z => (eLV :: (HD d (HF f (HW w (HM m (HS s (HG g (HR z tl))))))))) (r4 r x1 x2))) (r : RS) (x2 : Int32) (x3 : Int32) (t0 : Int32) : Ev sc 4 66 0 0 M_Mod_adopt 35 [(0, .ref 12), (2, .int x2), (3, .int x3)] [.int t0] (eLV :: (HD d (HF f (HW w (HM m (HS s (HG g (HR r tl)))))))) (mapR ouV (fun z => (eLV :: (HD d (HF f (HW w (HM m (HS s (HG g (HR z tl))))))))) (B_Mod_adopt_35 r4 r x2 x3 t0)) := by
  unfold B_Mod_adopt_35
  refine ev_goto (tgt := 39) d_Mod_adopt_35 rfl ?_
  exact ev_pick [0, 1, 2] rfl (e_B_Mod_adopt_39   r4 hr4 r x2 x3 t0)
def B_Mod_adopt_31  (r4 : RS → Int32 → Int32 → Option (Unit × RS)) (r : RS) (x2 : Int32) (x3 : Int32) (t1 : Int32) (t2 : Int32) : Option (Unit × RS) :=
  bnd (f_Mod_nameAt r (t1 * t2)) (fun q => B_Mod_adopt_35  r4 r x2 x3 q.1)
theorem e_B_Mod_adopt_31 {sc : Nat × (Nat → Int32)} {d : DS} {f : FS} {w : WS} {m : MS} {s : SS} {g : GS} {tl : List mn_E}  (r4 : RS → Int32 → Int32 → Option (Unit × RS)) (hr4 : ∀ (r : RS) (x1 : Int32) (x2 : Int32), Ev sc 4 66 0 0 M_Mod_adopt 4 [(0, .ref 12), (1, .int x1), (2, .int x2)] [] (eLV :: (HD d (HF f (HW w (HM m (HS s (HG g (HR r tl)))))))) (mapR ouV (fun z => (eLV :: (HD d (HF f (HW w (HM m (HS s (HG g (HR z tl))))))))) (r4 r x1 x2))) (r : RS) (x2 : Int32) (x3 : Int32) (t1 : Int32) (t2 : Int32) : Ev sc 4 66 0 0 M_Mod_adopt 31 [(0, .ref 12), (2, .int x2), (3, .int x3)] [.int t2, .int t1, .ref 12] (eLV :: (HD d (HF f (HW w (HM m (HS s (HG g (HR r tl)))))))) (mapR ouV (fun z => (eLV :: (HD d (HF f (HW w (HM m (HS s (HG g (HR z tl))))))))) (B_Mod_adopt_31 r4 r x2 x3 t1 t2)) := by
  unfold B_Mod_adopt_31
  refine ev_imul d_Mod_adopt_31 ?_
  refine ev_callB (rc := (f_Mod_nameAt r (t1 * t2))) (ou := ouI) (Hs := (fun z => (eLV :: (HD d (HF f (HW w (HM m (HS s (HG g (HR r tl)))))))))) (inv_V (q := 12) (av := [.int (t1 * t2)]) (rest := []) rfl (ci := 6) rfl d_Mod_adopt_32 gw_1131 gw_1133 gw_56 mw_Mod_nameAt nh_Mod_nameAt pn_Mod_nameAt rfl) d_Mod_adopt_32 pl_Mod_nameAt (Nat.le_of_ble_eq_true rfl) (Nat.le_of_ble_eq_true rfl) (Nat.le_of_ble_eq_true rfl) (e_f_Mod_nameAt (tl := tl) (d := d) (f := f) (w := w) (m := m) (s := s) (g := g)  r (t1 * t2)) (fun _ => (len1 (lenHD (lenHF (lenHW (lenHM (lenHS (lenHG (lenHR rfl))))))))) (fun v z h1 => ⟨_, rfl, ?_⟩)
  exact ev_pick [0, 1, 2] rfl (e_B_Mod_adopt_35   r4 hr4 r x2 x3 v)
def B_Mod_adopt_18  (r4 : RS → Int32 → Int32 → Option (Unit × RS)) (r : RS) (x2 : Int32) (t0 : Int32) : Option (Unit × RS) :=
  if t0 ≤ 0 then (B_Mod_adopt_39  r4 r x2 t0 0) else (bnd (f_Mod_headOf r t0) (fun q => B_Mod_adopt_31  r4 r x2 t0 8 q.1))
theorem e_B_Mod_adopt_18 {sc : Nat × (Nat → Int32)} {d : DS} {f : FS} {w : WS} {m : MS} {s : SS} {g : GS} {tl : List mn_E}  (r4 : RS → Int32 → Int32 → Option (Unit × RS)) (hr4 : ∀ (r : RS) (x1 : Int32) (x2 : Int32), Ev sc 4 66 0 0 M_Mod_adopt 4 [(0, .ref 12), (1, .int x1), (2, .int x2)] [] (eLV :: (HD d (HF f (HW w (HM m (HS s (HG g (HR r tl)))))))) (mapR ouV (fun z => (eLV :: (HD d (HF f (HW w (HM m (HS s (HG g (HR z tl))))))))) (r4 r x1 x2))) (r : RS) (x2 : Int32) (t0 : Int32) : Ev sc 4 66 0 0 M_Mod_adopt 18 [(0, .ref 12), (2, .int x2)] [.int t0] (eLV :: (HD d (HF f (HW w (HM m (HS s (HG g (HR r tl)))))))) (mapR ouV (fun z => (eLV :: (HD d (HF f (HW w (HM m (HS s (HG g (HR z tl))))))))) (B_Mod_adopt_18 r4 r x2 t0)) := by
  unfold B_Mod_adopt_18
  refine ev_istore_n d_Mod_adopt_18 rfl (by decide) rfl ?_
  refine ev_iload_n d_Mod_adopt_19 rfl rfl ?_
  refine ev_if_le (tgt := 38) d_Mod_adopt_20 rfl (fun h1 => ?_) (fun h1 => ?_)
  · rw [if_pos h1]
    refine ev_iconst (v := 0) d_Mod_adopt_38 rfl ?_
    exact ev_pick [1, 2, 0] rfl (e_B_Mod_adopt_39   r4 hr4 r x2 t0 0)
  · rw [if_neg h1]
    refine ev_aload_n d_Mod_adopt_23 rfl rfl ?_
    refine ev_bipush (v := 8) d_Mod_adopt_24 rfl ?_
    refine ev_aload_n d_Mod_adopt_26 rfl rfl ?_
    refine ev_iload_n d_Mod_adopt_27 rfl rfl ?_
    refine ev_callB (rc := (f_Mod_headOf r t0)) (ou := ouI) (Hs := (fun z => (eLV :: (HD d (HF f (HW w (HM m (HS s (HG g (HR r tl)))))))))) (inv_V (q := 12) (av := [.int t0]) (rest := [.int 8, .ref 12]) rfl (ci := 6) rfl d_Mod_adopt_28 gw_1283 gw_1285 gw_86 mw_Mod_headOf nh_Mod_headOf pn_Mod_headOf rfl) d_Mod_adopt_28 pl_Mod_headOf (Nat.le_of_ble_eq_true rfl) (Nat.le_of_ble_eq_true rfl) (Nat.le_of_ble_eq_true rfl) (e_f_Mod_headOf (tl := tl) (d := d) (f := f) (w := w) (m := m) (s := s) (g := g)  r t0) (fun _ => (len1 (lenHD (lenHF (lenHW (lenHM (lenHS (lenHG (lenHR rfl))))))))) (fun v z h2 => ⟨_, rfl, ?_⟩)
    exact ev_pick [1, 2, 0] rfl (e_B_Mod_adopt_31   r4 hr4 r x2 t0 8 v)
def L_Mod_adopt_4   : Nat → RS → Int32 → Int32 → Option (Unit × RS)
  | 0, _, _, _ => none
  | n + 1, r, x1, x2 =>
  if 61 ≤ x2 then (some ((), r)) else (if x1 = 0 then (some ((), r)) else (bnd (f_Mod_orphan r) (fun q => B_Mod_adopt_18  (L_Mod_adopt_4 n) r x2 q.1)))
theorem e_L_Mod_adopt_4 {sc : Nat × (Nat → Int32)} {d : DS} {f : FS} {w : WS} {m : MS} {s : SS} {g : GS} {tl : List mn_E}    : ∀ (n : Nat) (r : RS) (x1 : Int32) (x2 : Int32), Ev sc 4 66 0 0 M_Mod_adopt 4 [(0, .ref 12), (1, .int x1), (2, .int x2)] [] (eLV :: (HD d (HF f (HW w (HM m (HS s (HG g (HR r tl)))))))) (mapR ouV (fun z => (eLV :: (HD d (HF f (HW w (HM m (HS s (HG g (HR z tl))))))))) (L_Mod_adopt_4   n r x1 x2)) := by
  intro n
  induction n with
  | zero => intro r x1 x2; exact ev_none
  | succ n ih =>
    intro r x1 x2
    rw [L_Mod_adopt_4]
    refine ev_iload_n d_Mod_adopt_4 rfl rfl ?_
    refine ev_bipush (v := 61) d_Mod_adopt_5 rfl ?_
    refine ev_icmp_ge (tgt := 217) d_Mod_adopt_7 rfl (fun h1 => ?_) (fun h1 => ?_)
    · rw [if_pos h1]
      exact ev_vret rfl d_Mod_adopt_217
    · rw [if_neg h1]
      refine ev_iload_n d_Mod_adopt_10 rfl rfl ?_
      refine ev_if_eq (tgt := 217) d_Mod_adopt_11 rfl (fun h2 => ?_) (fun h2 => ?_)
      · rw [if_pos h2]
        exact ev_vret rfl d_Mod_adopt_217
      · rw [if_neg h2]
        refine ev_aload_n d_Mod_adopt_14 rfl rfl ?_
        refine ev_callB (rc := (f_Mod_orphan r)) (ou := ouI) (Hs := (fun z => (eLV :: (HD d (HF f (HW w (HM m (HS s (HG g (HR r tl)))))))))) (inv_V (q := 12) (av := []) (rest := []) rfl (ci := 6) rfl d_Mod_adopt_15 gw_1316 gw_1318 gw_94 mw_Mod_orphan nh_Mod_orphan pn_Mod_orphan rfl) d_Mod_adopt_15 pl_Mod_orphan (Nat.le_of_ble_eq_true rfl) (Nat.le_of_ble_eq_true rfl) (Nat.le_of_ble_eq_true rfl) (e_f_Mod_orphan (tl := tl) (d := d) (f := f) (w := w) (m := m) (s := s) (g := g)  r ) (fun _ => (len1 (lenHD (lenHF (lenHW (lenHM (lenHS (lenHG (lenHR rfl))))))))) (fun v z h3 => ⟨_, rfl, ?_⟩)
        exact ev_pick [0, 2] rfl (e_B_Mod_adopt_18   (L_Mod_adopt_4 n) ih r x2 v)
def f_Mod_adopt   (r : RS) : Option (Unit × RS) :=
  L_Mod_adopt_4   1000 r 1 0
theorem e_f_Mod_adopt {sc : Nat × (Nat → Int32)} {d : DS} {f : FS} {w : WS} {m : MS} {s : SS} {g : GS} {tl : List mn_E}    (r : RS) : Ev sc 4 66 0 0 M_Mod_adopt 0 [(0, .ref 12)] [] (eLV :: (HD d (HF f (HW w (HM m (HS s (HG g (HR r tl)))))))) (mapR ouV (fun z => (eLV :: (HD d (HF f (HW w (HM m (HS s (HG g (HR z tl))))))))) (f_Mod_adopt r)) := by
  unfold f_Mod_adopt
  refine ev_iconst (v := 1) d_Mod_adopt_0 rfl ?_
  refine ev_istore_n d_Mod_adopt_1 rfl (by decide) rfl ?_
  refine ev_iconst (v := 0) d_Mod_adopt_2 rfl ?_
  refine ev_istore_n d_Mod_adopt_3 rfl (by decide) rfl ?_
  exact ev_pick [2, 1, 0] rfl (e_L_Mod_adopt_4     1000 r 1 0)
def B_Mod_link_101   (r : RS) : Option (Unit × RS) :=
  some ((), r)
theorem e_B_Mod_link_101 {sc : Nat × (Nat → Int32)} {d : DS} {f : FS} {w : WS} {m : MS} {s : SS} {g : GS} {tl : List mn_E}    (r : RS) : Ev sc 1 16 0 0 M_Mod_link 101 [] [] (eLV :: (HD d (HF f (HW w (HM m (HS s (HG g (HR r tl)))))))) (mapR ouV (fun z => (eLV :: (HD d (HF f (HW w (HM m (HS s (HG g (HR z tl))))))))) (B_Mod_link_101 r)) := by
  unfold B_Mod_link_101
  exact ev_vret rfl d_Mod_link_101
def B_Mod_link_100   (r : RS) (t1 : Int32) (t2 : Int32) : Option (Unit × RS) :=
  if inB t1 320 then (B_Mod_link_101   (rSByt r (upd (rByt r) t1.toNatClampNeg t2))) else none
theorem e_B_Mod_link_100 {sc : Nat × (Nat → Int32)} {d : DS} {f : FS} {w : WS} {m : MS} {s : SS} {g : GS} {tl : List mn_E}    (r : RS) (t1 : Int32) (t2 : Int32) : Ev sc 1 16 0 0 M_Mod_link 100 [] [.int t2, .int t1, .ref 18] (eLV :: (HD d (HF f (HW w (HM m (HS s (HG g (HR r tl)))))))) (mapR ouV (fun z => (eLV :: (HD d (HF f (HW w (HM m (HS s (HG g (HR z tl))))))))) (B_Mod_link_100 r t1 t2)) := by
  unfold B_Mod_link_100
  refine ev_inB (fun h1 => ?_)
  refine ev_iastore (h2 := (eLV :: (HD d (HF f (HW w (HM m (HS s (HG g (HR (rSByt r (upd (rByt r) t1.toNatClampNeg t2)) tl))))))))) rfl (inB_of h1) rfl d_Mod_link_100 ?_
  exact ev_pick [] rfl (e_B_Mod_link_101     (rSByt r (upd (rByt r) t1.toNatClampNeg t2)))
def B_Mod_link_86   (r : RS) (x1 : Int32) (t1 : Int32) (t2 : Int32) : Option (Unit × RS) :=
  if inB x1 61 then (bnd (f_Mod_pageAt r x1 (rMan r x1.toNatClampNeg)) (fun q => B_Mod_link_100   r ((t1 * t2) + 3) q.1)) else none
theorem e_B_Mod_link_86 {sc : Nat × (Nat → Int32)} {d : DS} {f : FS} {w : WS} {m : MS} {s : SS} {g : GS} {tl : List mn_E}    (r : RS) (x1 : Int32) (t1 : Int32) (t2 : Int32) : Ev sc 1 16 0 0 M_Mod_link 86 [(0, .ref 12), (1, .int x1)] [.int t2, .int t1, .ref 18] (eLV :: (HD d (HF f (HW w (HM m (HS s (HG g (HR r tl)))))))) (mapR ouV (fun z => (eLV :: (HD d (HF f (HW w (HM m (HS s (HG g (HR z tl))))))))) (B_Mod_link_86 r x1 t1 t2)) := by
  unfold B_Mod_link_86
  refine ev_imul d_Mod_link_86 ?_
  refine ev_iconst (v := 3) d_Mod_link_87 rfl ?_
  refine ev_iadd d_Mod_link_88 ?_
  refine ev_aload_n d_Mod_link_89 rfl rfl ?_
  refine ev_iload_n d_Mod_link_90 rfl rfl ?_
  refine ev_aload_n d_Mod_link_91 rfl rfl ?_
  refine ev_get (v := .ref 25) gi_Mod (ci := 6) rfl rfl 25 (by decide) gw_1026 rfl d_Mod_link_92 ?_
  refine ev_iload_n d_Mod_link_95 rfl rfl ?_
  refine ev_inB (fun h1 => ?_)
  refine ev_iaload rfl (inB_of h1) d_Mod_link_96 ?_
  refine ev_callB (rc := (f_Mod_pageAt r x1 (rMan r x1.toNatClampNeg))) (ou := ouI) (Hs := (fun z => (eLV :: (HD d (HF f (HW w (HM m (HS s (HG g (HR r tl)))))))))) (inv_V (q := 12) (av := [.int x1, .int (rMan r x1.toNatClampNeg)]) (rest := [.int ((t1 * t2) + 3), .ref 18]) rfl (ci := 6) rfl d_Mod_link_97 gw_1267 gw_1269 gw_82 mw_Mod_pageAt nh_Mod_pageAt pn_Mod_pageAt rfl) d_Mod_link_97 pl_Mod_pageAt (Nat.le_of_ble_eq_true rfl) (Nat.le_of_ble_eq_true rfl) (Nat.le_of_ble_eq_true rfl) (e_f_Mod_pageAt (tl := tl) (d := d) (f := f) (w := w) (m := m) (s := s) (g := g)  r x1 (rMan r x1.toNatClampNeg)) (fun _ => (len1 (lenHD (lenHF (lenHW (lenHM (lenHS (lenHG (lenHR rfl))))))))) (fun v z h2 => ⟨_, rfl, ?_⟩)
  exact ev_pick [] rfl (e_B_Mod_link_100     r ((t1 * t2) + 3) v)
def B_Mod_link_69  (r2 : RS → Int32 → Int32 → Option (Unit × RS)) (r : RS) (x1 : Int32) (x2 : Int32) : Option (Unit × RS) :=
  r2 r x1 (x2 + 1)
theorem e_B_Mod_link_69 {sc : Nat × (Nat → Int32)} {d : DS} {f : FS} {w : WS} {m : MS} {s : SS} {g : GS} {tl : List mn_E}  (r2 : RS → Int32 → Int32 → Option (Unit × RS)) (hr2 : ∀ (r : RS) (x1 : Int32) (x2 : Int32), Ev sc 1 16 0 0 M_Mod_link 2 [(0, .ref 12), (1, .int x1), (2, .int x2)] [] (eLV :: (HD d (HF f (HW w (HM m (HS s (HG g (HR r tl)))))))) (mapR ouV (fun z => (eLV :: (HD d (HF f (HW w (HM m (HS s (HG g (HR z tl))))))))) (r2 r x1 x2))) (r : RS) (x1 : Int32) (x2 : Int32) : Ev sc 1 16 0 0 M_Mod_link 69 [(0, .ref 12), (1, .int x1), (2, .int x2)] [] (eLV :: (HD d (HF f (HW w (HM m (HS s (HG g (HR r tl)))))))) (mapR ouV (fun z => (eLV :: (HD d (HF f (HW w (HM m (HS s (HG g (HR z tl))))))))) (B_Mod_link_69 r2 r x1 x2)) := by
  unfold B_Mod_link_69
  refine ev_iinc (v := (x2 + 1)) d_Mod_link_69 rfl rfl (by decide) rfl ?_
  refine ev_goto (tgt := 2) d_Mod_link_72 rfl ?_
  exact ev_pick [1, 2, 0] rfl (hr2 r x1 (x2 + 1))
def B_Mod_link_68  (r2 : RS → Int32 → Int32 → Option (Unit × RS)) (r : RS) (x1 : Int32) (x2 : Int32) (t1 : Int32) (t2 : Int32) : Option (Unit × RS) :=
  if inB t1 40 then (B_Mod_link_69  r2 (rSBef r (upd (rBef r) t1.toNatClampNeg t2)) x1 x2) else none
theorem e_B_Mod_link_68 {sc : Nat × (Nat → Int32)} {d : DS} {f : FS} {w : WS} {m : MS} {s : SS} {g : GS} {tl : List mn_E}  (r2 : RS → Int32 → Int32 → Option (Unit × RS)) (hr2 : ∀ (r : RS) (x1 : Int32) (x2 : Int32), Ev sc 1 16 0 0 M_Mod_link 2 [(0, .ref 12), (1, .int x1), (2, .int x2)] [] (eLV :: (HD d (HF f (HW w (HM m (HS s (HG g (HR r tl)))))))) (mapR ouV (fun z => (eLV :: (HD d (HF f (HW w (HM m (HS s (HG g (HR z tl))))))))) (r2 r x1 x2))) (r : RS) (x1 : Int32) (x2 : Int32) (t1 : Int32) (t2 : Int32) : Ev sc 1 16 0 0 M_Mod_link 68 [(0, .ref 12), (1, .int x1), (2, .int x2)] [.int t2, .int t1, .ref 17] (eLV :: (HD d (HF f (HW w (HM m (HS s (HG g (HR r tl)))))))) (mapR ouV (fun z => (eLV :: (HD d (HF f (HW w (HM m (HS s (HG g (HR z tl))))))))) (B_Mod_link_68 r2 r x1 x2 t1 t2)) := by
  unfold B_Mod_link_68
  refine ev_inB (fun h1 => ?_)
  refine ev_iastore (h2 := (eLV :: (HD d (HF f (HW w (HM m (HS s (HG g (HR (rSBef r (upd (rBef r) t1.toNatClampNeg t2)) tl))))))))) rfl (inB_of h1) rfl d_Mod_link_68 ?_
  exact ev_pick [0, 1, 2] rfl (e_B_Mod_link_69   r2 hr2 (rSBef r (upd (rBef r) t1.toNatClampNeg t2)) x1 x2)
def B_Mod_link_64  (r2 : RS → Int32 → Int32 → Option (Unit × RS)) (r : RS) (x1 : Int32) (x2 : Int32) (t1 : Int32) (t2 : Int32) : Option (Unit × RS) :=
  B_Mod_link_68  r2 r x1 x2 t1 t2
theorem e_B_Mod_link_64 {sc : Nat × (Nat → Int32)} {d : DS} {f : FS} {w : WS} {m : MS} {s : SS} {g : GS} {tl : List mn_E}  (r2 : RS → Int32 → Int32 → Option (Unit × RS)) (hr2 : ∀ (r : RS) (x1 : Int32) (x2 : Int32), Ev sc 1 16 0 0 M_Mod_link 2 [(0, .ref 12), (1, .int x1), (2, .int x2)] [] (eLV :: (HD d (HF f (HW w (HM m (HS s (HG g (HR r tl)))))))) (mapR ouV (fun z => (eLV :: (HD d (HF f (HW w (HM m (HS s (HG g (HR z tl))))))))) (r2 r x1 x2))) (r : RS) (x1 : Int32) (x2 : Int32) (t1 : Int32) (t2 : Int32) : Ev sc 1 16 0 0 M_Mod_link 64 [(0, .ref 12), (1, .int x1), (2, .int x2)] [.int t2, .int t1, .ref 17] (eLV :: (HD d (HF f (HW w (HM m (HS s (HG g (HR r tl)))))))) (mapR ouV (fun z => (eLV :: (HD d (HF f (HW w (HM m (HS s (HG g (HR z tl))))))))) (B_Mod_link_64 r2 r x1 x2 t1 t2)) := by
  unfold B_Mod_link_64
  refine ev_goto (tgt := 68) d_Mod_link_64 rfl ?_
  exact ev_pick [0, 1, 2] rfl (e_B_Mod_link_68   r2 hr2 r x1 x2 t1 t2)
def B_Mod_link_47  (r2 : RS → Int32 → Int32 → Option (Unit × RS)) (r : RS) (x1 : Int32) (x2 : Int32) (x3 : Int32) : Option (Unit × RS) :=
  if x2 ≤ 0 then (B_Mod_link_68  r2 r x1 x2 x3 (-1)) else (bnd (f_Mod_pageAt r x1 (x2 - 1)) (fun q => B_Mod_link_64  r2 r x1 x2 x3 q.1))
theorem e_B_Mod_link_47 {sc : Nat × (Nat → Int32)} {d : DS} {f : FS} {w : WS} {m : MS} {s : SS} {g : GS} {tl : List mn_E}  (r2 : RS → Int32 → Int32 → Option (Unit × RS)) (hr2 : ∀ (r : RS) (x1 : Int32) (x2 : Int32), Ev sc 1 16 0 0 M_Mod_link 2 [(0, .ref 12), (1, .int x1), (2, .int x2)] [] (eLV :: (HD d (HF f (HW w (HM m (HS s (HG g (HR r tl)))))))) (mapR ouV (fun z => (eLV :: (HD d (HF f (HW w (HM m (HS s (HG g (HR z tl))))))))) (r2 r x1 x2))) (r : RS) (x1 : Int32) (x2 : Int32) (x3 : Int32) : Ev sc 1 16 0 0 M_Mod_link 47 [(0, .ref 12), (1, .int x1), (2, .int x2), (3, .int x3)] [] (eLV :: (HD d (HF f (HW w (HM m (HS s (HG g (HR r tl)))))))) (mapR ouV (fun z => (eLV :: (HD d (HF f (HW w (HM m (HS s (HG g (HR z tl))))))))) (B_Mod_link_47 r2 r x1 x2 x3)) := by
  unfold B_Mod_link_47
  refine ev_aload_n d_Mod_link_47 rfl rfl ?_
  refine ev_get (v := .ref 17) gi_Mod (ci := 6) rfl rfl 6 (by decide) gw_1007 rfl d_Mod_link_48 ?_
  refine ev_iload_n d_Mod_link_51 rfl rfl ?_
  refine ev_iload_n d_Mod_link_52 rfl rfl ?_
  refine ev_if_le (tgt := 67) d_Mod_link_53 rfl (fun h1 => ?_) (fun h1 => ?_)
  · rw [if_pos h1]
    refine ev_iconst (v := -1) d_Mod_link_67 rfl ?_
    exact ev_pick [0, 1, 2] rfl (e_B_Mod_link_68   r2 hr2 r x1 x2 x3 (-1))
  · rw [if_neg h1]
    refine ev_aload_n d_Mod_link_56 rfl rfl ?_
    refine ev_iload_n d_Mod_link_57 rfl rfl ?_
    refine ev_iload_n d_Mod_link_58 rfl rfl ?_
    refine ev_iconst (v := 1) d_Mod_link_59 rfl ?_
    refine ev_isub d_Mod_link_60 ?_
    refine ev_callB (rc := (f_Mod_pageAt r x1 (x2 - 1))) (ou := ouI) (Hs := (fun z => (eLV :: (HD d (HF f (HW w (HM m (HS s (HG g (HR r tl)))))))))) (inv_V (q := 12) (av := [.int x1, .int (x2 - 1)]) (rest := [.int x3, .ref 17]) rfl (ci := 6) rfl d_Mod_link_61 gw_1267 gw_1269 gw_82 mw_Mod_pageAt nh_Mod_pageAt pn_Mod_pageAt rfl) d_Mod_link_61 pl_Mod_pageAt (Nat.le_of_ble_eq_true rfl) (Nat.le_of_ble_eq_true rfl) (Nat.le_of_ble_eq_true rfl) (e_f_Mod_pageAt (tl := tl) (d := d) (f := f) (w := w) (m := m) (s := s) (g := g)  r x1 (x2 - 1)) (fun _ => (len1 (lenHD (lenHF (lenHW (lenHM (lenHS (lenHG (lenHR rfl))))))))) (fun v z h2 => ⟨_, rfl, ?_⟩)
    exact ev_pick [0, 1, 2] rfl (e_B_Mod_link_64   r2 hr2 r x1 x2 x3 v)
def B_Mod_link_46  (r2 : RS → Int32 → Int32 → Option (Unit × RS)) (r : RS) (x1 : Int32) (x2 : Int32) (x3 : Int32) (t1 : Int32) (t2 : Int32) : Option (Unit × RS) :=
  if inB t1 40 then (B_Mod_link_47  r2 (rSNex r (upd (rNex r) t1.toNatClampNeg t2)) x1 x2 x3) else none
theorem e_B_Mod_link_46 {sc : Nat × (Nat → Int32)} {d : DS} {f : FS} {w : WS} {m : MS} {s : SS} {g : GS} {tl : List mn_E}  (r2 : RS → Int32 → Int32 → Option (Unit × RS)) (hr2 : ∀ (r : RS) (x1 : Int32) (x2 : Int32), Ev sc 1 16 0 0 M_Mod_link 2 [(0, .ref 12), (1, .int x1), (2, .int x2)] [] (eLV :: (HD d (HF f (HW w (HM m (HS s (HG g (HR r tl)))))))) (mapR ouV (fun z => (eLV :: (HD d (HF f (HW w (HM m (HS s (HG g (HR z tl))))))))) (r2 r x1 x2))) (r : RS) (x1 : Int32) (x2 : Int32) (x3 : Int32) (t1 : Int32) (t2 : Int32) : Ev sc 1 16 0 0 M_Mod_link 46 [(0, .ref 12), (1, .int x1), (2, .int x2), (3, .int x3)] [.int t2, .int t1, .ref 16] (eLV :: (HD d (HF f (HW w (HM m (HS s (HG g (HR r tl)))))))) (mapR ouV (fun z => (eLV :: (HD d (HF f (HW w (HM m (HS s (HG g (HR z tl))))))))) (B_Mod_link_46 r2 r x1 x2 x3 t1 t2)) := by
  unfold B_Mod_link_46
  refine ev_inB (fun h1 => ?_)
  refine ev_iastore (h2 := (eLV :: (HD d (HF f (HW w (HM m (HS s (HG g (HR (rSNex r (upd (rNex r) t1.toNatClampNeg t2)) tl))))))))) rfl (inB_of h1) rfl d_Mod_link_46 ?_
  exact ev_pick [0, 1, 2, 3] rfl (e_B_Mod_link_47   r2 hr2 (rSNex r (upd (rNex r) t1.toNatClampNeg t2)) x1 x2 x3)
def B_Mod_link_42  (r2 : RS → Int32 → Int32 → Option (Unit × RS)) (r : RS) (x1 : Int32) (x2 : Int32) (x3 : Int32) (t1 : Int32) (t2 : Int32) : Option (Unit × RS) :=
  B_Mod_link_46  r2 r x1 x2 x3 t1 t2
theorem e_B_Mod_link_42 {sc : Nat × (Nat → Int32)} {d : DS} {f : FS} {w : WS} {m : MS} {s : SS} {g : GS} {tl : List mn_E}  (r2 : RS → Int32 → Int32 → Option (Unit × RS)) (hr2 : ∀ (r : RS) (x1 : Int32) (x2 : Int32), Ev sc 1 16 0 0 M_Mod_link 2 [(0, .ref 12), (1, .int x1), (2, .int x2)] [] (eLV :: (HD d (HF f (HW w (HM m (HS s (HG g (HR r tl)))))))) (mapR ouV (fun z => (eLV :: (HD d (HF f (HW w (HM m (HS s (HG g (HR z tl))))))))) (r2 r x1 x2))) (r : RS) (x1 : Int32) (x2 : Int32) (x3 : Int32) (t1 : Int32) (t2 : Int32) : Ev sc 1 16 0 0 M_Mod_link 42 [(0, .ref 12), (1, .int x1), (2, .int x2), (3, .int x3)] [.int t2, .int t1, .ref 16] (eLV :: (HD d (HF f (HW w (HM m (HS s (HG g (HR r tl)))))))) (mapR ouV (fun z => (eLV :: (HD d (HF f (HW w (HM m (HS s (HG g (HR z tl))))))))) (B_Mod_link_42 r2 r x1 x2 x3 t1 t2)) := by
  unfold B_Mod_link_42
  refine ev_goto (tgt := 46) d_Mod_link_42 rfl ?_
  exact ev_pick [0, 1, 2, 3] rfl (e_B_Mod_link_46   r2 hr2 r x1 x2 x3 t1 t2)
def B_Mod_link_18  (r2 : RS → Int32 → Int32 → Option (Unit × RS)) (r : RS) (x1 : Int32) (x2 : Int32) (t0 : Int32) : Option (Unit × RS) :=
  if inB x1 61 then (if (rMan r x1.toNatClampNeg) ≤ x2 then (B_Mod_link_46  r2 r x1 x2 t0 t0 (-1)) else (bnd (f_Mod_pageAt r x1 (x2 + 1)) (fun q => B_Mod_link_42  r2 r x1 x2 t0 t0 q.1))) else none
theorem e_B_Mod_link_18 {sc : Nat × (Nat → Int32)} {d : DS} {f : FS} {w : WS} {m : MS} {s : SS} {g : GS} {tl : List mn_E}  (r2 : RS → Int32 → Int32 → Option (Unit × RS)) (hr2 : ∀ (r : RS) (x1 : Int32) (x2 : Int32), Ev sc 1 16 0 0 M_Mod_link 2 [(0, .ref 12), (1, .int x1), (2, .int x2)] [] (eLV :: (HD d (HF f (HW w (HM m (HS s (HG g (HR r tl)))))))) (mapR ouV (fun z => (eLV :: (HD d (HF f (HW w (HM m (HS s (HG g (HR z tl))))))))) (r2 r x1 x2))) (r : RS) (x1 : Int32) (x2 : Int32) (t0 : Int32) : Ev sc 1 16 0 0 M_Mod_link 18 [(0, .ref 12), (1, .int x1), (2, .int x2)] [.int t0] (eLV :: (HD d (HF f (HW w (HM m (HS s (HG g (HR r tl)))))))) (mapR ouV (fun z => (eLV :: (HD d (HF f (HW w (HM m (HS s (HG g (HR z tl))))))))) (B_Mod_link_18 r2 r x1 x2 t0)) := by
  unfold B_Mod_link_18
  refine ev_istore_n d_Mod_link_18 rfl (by decide) rfl ?_
  refine ev_aload_n d_Mod_link_19 rfl rfl ?_
  refine ev_get (v := .ref 16) gi_Mod (ci := 6) rfl rfl 5 (by decide) gw_1006 rfl d_Mod_link_20 ?_
  refine ev_iload_n d_Mod_link_23 rfl rfl ?_
  refine ev_iload_n d_Mod_link_24 rfl rfl ?_
  refine ev_aload_n d_Mod_link_25 rfl rfl ?_
  refine ev_get (v := .ref 25) gi_Mod (ci := 6) rfl rfl 25 (by decide) gw_1026 rfl d_Mod_link_26 ?_
  refine ev_iload_n d_Mod_link_29 rfl rfl ?_
  refine ev_inB (fun h1 => ?_)
  refine ev_iaload rfl (inB_of h1) d_Mod_link_30 ?_
  refine ev_icmp_ge (tgt := 45) d_Mod_link_31 rfl (fun h2 => ?_) (fun h2 => ?_)
  · rw [if_pos h2]
    refine ev_iconst (v := -1) d_Mod_link_45 rfl ?_
    exact ev_pick [1, 2, 3, 0] rfl (e_B_Mod_link_46   r2 hr2 r x1 x2 t0 t0 (-1))
  · rw [if_neg h2]
    refine ev_aload_n d_Mod_link_34 rfl rfl ?_
    refine ev_iload_n d_Mod_link_35 rfl rfl ?_
    refine ev_iload_n d_Mod_link_36 rfl rfl ?_
    refine ev_iconst (v := 1) d_Mod_link_37 rfl ?_
    refine ev_iadd d_Mod_link_38 ?_
    refine ev_callB (rc := (f_Mod_pageAt r x1 (x2 + 1))) (ou := ouI) (Hs := (fun z => (eLV :: (HD d (HF f (HW w (HM m (HS s (HG g (HR r tl)))))))))) (inv_V (q := 12) (av := [.int x1, .int (x2 + 1)]) (rest := [.int t0, .ref 16]) rfl (ci := 6) rfl d_Mod_link_39 gw_1267 gw_1269 gw_82 mw_Mod_pageAt nh_Mod_pageAt pn_Mod_pageAt rfl) d_Mod_link_39 pl_Mod_pageAt (Nat.le_of_ble_eq_true rfl) (Nat.le_of_ble_eq_true rfl) (Nat.le_of_ble_eq_true rfl) (e_f_Mod_pageAt (tl := tl) (d := d) (f := f) (w := w) (m := m) (s := s) (g := g)  r x1 (x2 + 1)) (fun _ => (len1 (lenHD (lenHF (lenHW (lenHM (lenHS (lenHG (lenHR rfl))))))))) (fun v z h3 => ⟨_, rfl, ?_⟩)
    exact ev_pick [1, 2, 3, 0] rfl (e_B_Mod_link_42   r2 hr2 r x1 x2 t0 t0 v)
def L_Mod_link_2   : Nat → RS → Int32 → Int32 → Option (Unit × RS)
  | 0, _, _, _ => none
  | n + 1, r, x1, x2 =>
  if inB x1 61 then (if (rMan r x1.toNatClampNeg) < x2 then (bnd (f_Mod_headOf r x1) (fun q => B_Mod_link_86   r x1 8 q.1)) else (bnd (f_Mod_pageAt r x1 x2) (fun q => B_Mod_link_18  (L_Mod_link_2 n) r x1 x2 q.1))) else none
theorem e_L_Mod_link_2 {sc : Nat × (Nat → Int32)} {d : DS} {f : FS} {w : WS} {m : MS} {s : SS} {g : GS} {tl : List mn_E}    : ∀ (n : Nat) (r : RS) (x1 : Int32) (x2 : Int32), Ev sc 1 16 0 0 M_Mod_link 2 [(0, .ref 12), (1, .int x1), (2, .int x2)] [] (eLV :: (HD d (HF f (HW w (HM m (HS s (HG g (HR r tl)))))))) (mapR ouV (fun z => (eLV :: (HD d (HF f (HW w (HM m (HS s (HG g (HR z tl))))))))) (L_Mod_link_2   n r x1 x2)) := by
  intro n
  induction n with
  | zero => intro r x1 x2; exact ev_none
  | succ n ih =>
    intro r x1 x2
    rw [L_Mod_link_2]
    refine ev_iload_n d_Mod_link_2 rfl rfl ?_
    refine ev_aload_n d_Mod_link_3 rfl rfl ?_
    refine ev_get (v := .ref 25) gi_Mod (ci := 6) rfl rfl 25 (by decide) gw_1026 rfl d_Mod_link_4 ?_
    refine ev_iload_n d_Mod_link_7 rfl rfl ?_
    refine ev_inB (fun h1 => ?_)
    refine ev_iaload rfl (inB_of h1) d_Mod_link_8 ?_
    refine ev_icmp_gt (tgt := 75) d_Mod_link_9 rfl (fun h2 => ?_) (fun h2 => ?_)
    · rw [if_pos h2]
      refine ev_aload_n d_Mod_link_75 rfl rfl ?_
      refine ev_get (v := .ref 18) gi_Mod (ci := 6) rfl rfl 7 (by decide) gw_1008 rfl d_Mod_link_76 ?_
      refine ev_bipush (v := 8) d_Mod_link_79 rfl ?_
      refine ev_aload_n d_Mod_link_81 rfl rfl ?_
      refine ev_iload_n d_Mod_link_82 rfl rfl ?_
      refine ev_callB (rc := (f_Mod_headOf r x1)) (ou := ouI) (Hs := (fun z => (eLV :: (HD d (HF f (HW w (HM m (HS s (HG g (HR r tl)))))))))) (inv_V (q := 12) (av := [.int x1]) (rest := [.int 8, .ref 18]) rfl (ci := 6) rfl d_Mod_link_83 gw_1283 gw_1285 gw_86 mw_Mod_headOf nh_Mod_headOf pn_Mod_headOf rfl) d_Mod_link_83 pl_Mod_headOf (Nat.le_of_ble_eq_true rfl) (Nat.le_of_ble_eq_true rfl) (Nat.le_of_ble_eq_true rfl) (e_f_Mod_headOf (tl := tl) (d := d) (f := f) (w := w) (m := m) (s := s) (g := g)  r x1) (fun _ => (len1 (lenHD (lenHF (lenHW (lenHM (lenHS (lenHG (lenHR rfl))))))))) (fun v z h3 => ⟨_, rfl, ?_⟩)
      exact ev_pick [0, 1] rfl (e_B_Mod_link_86     r x1 8 v)
    · rw [if_neg h2]
      refine ev_aload_n d_Mod_link_12 rfl rfl ?_
      refine ev_iload_n d_Mod_link_13 rfl rfl ?_
      refine ev_iload_n d_Mod_link_14 rfl rfl ?_
      refine ev_callB (rc := (f_Mod_pageAt r x1 x2)) (ou := ouI) (Hs := (fun z => (eLV :: (HD d (HF f (HW w (HM m (HS s (HG g (HR r tl)))))))))) (inv_V (q := 12) (av := [.int x1, .int x2]) (rest := []) rfl (ci := 6) rfl d_Mod_link_15 gw_1267 gw_1269 gw_82 mw_Mod_pageAt nh_Mod_pageAt pn_Mod_pageAt rfl) d_Mod_link_15 pl_Mod_pageAt (Nat.le_of_ble_eq_true rfl) (Nat.le_of_ble_eq_true rfl) (Nat.le_of_ble_eq_true rfl) (e_f_Mod_pageAt (tl := tl) (d := d) (f := f) (w := w) (m := m) (s := s) (g := g)  r x1 x2) (fun _ => (len1 (lenHD (lenHF (lenHW (lenHM (lenHS (lenHG (lenHR rfl))))))))) (fun v z h4 => ⟨_, rfl, ?_⟩)
      exact ev_pick [0, 1, 2] rfl (e_B_Mod_link_18   (L_Mod_link_2 n) ih r x1 x2 v)
def f_Mod_link   (r : RS) (x1 : Int32) : Option (Unit × RS) :=
  L_Mod_link_2   1000 r x1 0
theorem e_f_Mod_link {sc : Nat × (Nat → Int32)} {d : DS} {f : FS} {w : WS} {m : MS} {s : SS} {g : GS} {tl : List mn_E}    (r : RS) (x1 : Int32) : Ev sc 1 16 0 0 M_Mod_link 0 [(0, .ref 12), (1, .int x1)] [] (eLV :: (HD d (HF f (HW w (HM m (HS s (HG g (HR r tl)))))))) (mapR ouV (fun z => (eLV :: (HD d (HF f (HW w (HM m (HS s (HG g (HR z tl))))))))) (f_Mod_link r x1)) := by
  unfold f_Mod_link
  refine ev_iconst (v := 0) d_Mod_link_0 rfl ?_
  refine ev_istore_n d_Mod_link_1 rfl (by decide) rfl ?_
  exact ev_pick [1, 2, 0] rfl (e_L_Mod_link_2     1000 r x1 0)
def B_Mod_right_152  (r99 : RS → Int32 → Int32 → Option (Unit × RS)) (r : RS) (x1 : Int32) (x2 : Int32) : Option (Unit × RS) :=
  r99 r x1 (x2 + 1)
theorem e_B_Mod_right_152 {sc : Nat × (Nat → Int32)} {d : DS} {f : FS} {w : WS} {m : MS} {s : SS} {g : GS} {tl : List mn_E}  (r99 : RS → Int32 → Int32 → Option (Unit × RS)) (hr99 : ∀ (r : RS) (x1 : Int32) (x2 : Int32), Ev sc 2 31 0 0 M_Mod_right 99 [(0, .ref 12), (1, .int x1), (2, .int x2)] [] (eLV :: (HD d (HF f (HW w (HM m (HS s (HG g (HR r tl)))))))) (mapR ouV (fun z => (eLV :: (HD d (HF f (HW w (HM m (HS s (HG g (HR z tl))))))))) (r99 r x1 x2))) (r : RS) (x1 : Int32) (x2 : Int32) : Ev sc 2 31 0 0 M_Mod_right 152 [(0, .ref 12), (1, .int x1), (2, .int x2)] [] (eLV :: (HD d (HF f (HW w (HM m (HS s (HG g (HR r tl)))))))) (mapR ouV (fun z => (eLV :: (HD d (HF f (HW w (HM m (HS s (HG g (HR z tl))))))))) (B_Mod_right_152 r99 r x1 x2)) := by
  unfold B_Mod_right_152
  refine ev_iinc (v := (x2 + 1)) d_Mod_right_152 rfl rfl (by decide) rfl ?_
  refine ev_goto (tgt := 99) d_Mod_right_155 rfl ?_
  exact ev_pick [1, 2, 0] rfl (hr99 r x1 (x2 + 1))
def B_Mod_right_150  (r99 : RS → Int32 → Int32 → Option (Unit × RS)) (r : RS) (x1 : Int32) (x2 : Int32) (t1 : Int32) (t2 : Int32) (t3 : Int32) : Option (Unit × RS) :=
  if inB t1 320 then (B_Mod_right_152  r99 (rSByt r (upd (rByt r) t1.toNatClampNeg (t2 + t3))) x1 x2) else none
theorem e_B_Mod_right_150 {sc : Nat × (Nat → Int32)} {d : DS} {f : FS} {w : WS} {m : MS} {s : SS} {g : GS} {tl : List mn_E}  (r99 : RS → Int32 → Int32 → Option (Unit × RS)) (hr99 : ∀ (r : RS) (x1 : Int32) (x2 : Int32), Ev sc 2 31 0 0 M_Mod_right 99 [(0, .ref 12), (1, .int x1), (2, .int x2)] [] (eLV :: (HD d (HF f (HW w (HM m (HS s (HG g (HR r tl)))))))) (mapR ouV (fun z => (eLV :: (HD d (HF f (HW w (HM m (HS s (HG g (HR z tl))))))))) (r99 r x1 x2))) (r : RS) (x1 : Int32) (x2 : Int32) (t1 : Int32) (t2 : Int32) (t3 : Int32) : Ev sc 2 31 0 0 M_Mod_right 150 [(0, .ref 12), (1, .int x1), (2, .int x2)] [.int t3, .int t2, .int t1, .ref 18] (eLV :: (HD d (HF f (HW w (HM m (HS s (HG g (HR r tl)))))))) (mapR ouV (fun z => (eLV :: (HD d (HF f (HW w (HM m (HS s (HG g (HR z tl))))))))) (B_Mod_right_150 r99 r x1 x2 t1 t2 t3)) := by
  unfold B_Mod_right_150
  refine ev_iadd d_Mod_right_150 ?_
  refine ev_inB (fun h1 => ?_)
  refine ev_iastore (h2 := (eLV :: (HD d (HF f (HW w (HM m (HS s (HG g (HR (rSByt r (upd (rByt r) t1.toNatClampNeg (t2 + t3))) tl))))))))) rfl (inB_of h1) rfl d_Mod_right_151 ?_
  exact ev_pick [0, 1, 2] rfl (e_B_Mod_right_152   r99 hr99 (rSByt r (upd (rByt r) t1.toNatClampNeg (t2 + t3))) x1 x2)
def B_Mod_right_137  (r99 : RS → Int32 → Int32 → Option (Unit × RS)) (r : RS) (x1 : Int32) (x2 : Int32) (t1 : Int32) (t2 : Int32) (t3 : Int32) : Option (Unit × RS) :=
  if t3 = 0 then (B_Mod_right_150  r99 r x1 x2 t1 t2 0) else (B_Mod_right_150  r99 r x1 x2 t1 t2 (1 <<< ((x2 - x2 / 8 * 8) &&& 31)))
theorem e_B_Mod_right_137 {sc : Nat × (Nat → Int32)} {d : DS} {f : FS} {w : WS} {m : MS} {s : SS} {g : GS} {tl : List mn_E}  (r99 : RS → Int32 → Int32 → Option (Unit × RS)) (hr99 : ∀ (r : RS) (x1 : Int32) (x2 : Int32), Ev sc 2 31 0 0 M_Mod_right 99 [(0, .ref 12), (1, .int x1), (2, .int x2)] [] (eLV :: (HD d (HF f (HW w (HM m (HS s (HG g (HR r tl)))))))) (mapR ouV (fun z => (eLV :: (HD d (HF f (HW w (HM m (HS s (HG g (HR z tl))))))))) (r99 r x1 x2))) (r : RS) (x1 : Int32) (x2 : Int32) (t1 : Int32) (t2 : Int32) (t3 : Int32) : Ev sc 2 31 0 0 M_Mod_right 137 [(0, .ref 12), (1, .int x1), (2, .int x2)] [.int t3, .int t2, .int t1, .ref 18] (eLV :: (HD d (HF f (HW w (HM m (HS s (HG g (HR r tl)))))))) (mapR ouV (fun z => (eLV :: (HD d (HF f (HW w (HM m (HS s (HG g (HR z tl))))))))) (B_Mod_right_137 r99 r x1 x2 t1 t2 t3)) := by
  unfold B_Mod_right_137
  refine ev_if_eq (tgt := 149) d_Mod_right_137 rfl (fun h1 => ?_) (fun h1 => ?_)
  · rw [if_pos h1]
    refine ev_iconst (v := 0) d_Mod_right_149 rfl ?_
    exact ev_pick [0, 1, 2] rfl (e_B_Mod_right_150   r99 hr99 r x1 x2 t1 t2 0)
  · rw [if_neg h1]
    refine ev_iconst (v := 1) d_Mod_right_140 rfl ?_
    refine ev_iload_n d_Mod_right_141 rfl rfl ?_
    refine ev_bipush (v := 8) d_Mod_right_142 rfl ?_
    refine ev_irem d_Mod_right_144 (by decide) ?_
    refine ev_ishl d_Mod_right_145 ?_
    refine ev_goto (tgt := 150) d_Mod_right_146 rfl ?_
    exact ev_pick [0, 1, 2] rfl (e_B_Mod_right_150   r99 hr99 r x1 x2 t1 t2 (1 <<< ((x2 - x2 / 8 * 8) &&& 31)))
def L_Mod_right_99   : Nat → RS → Int32 → Int32 → Option (Unit × RS)
  | 0, _, _, _ => none
  | n + 1, r, x1, x2 =>
  if 40 ≤ x2 then (some ((), r)) else (if inB ((8 * x1) + (x2 / 8)) 320 then (bnd (f_Mod_isFree r x2) (fun q => B_Mod_right_137  (L_Mod_right_99 n) r x1 x2 ((8 * x1) + (x2 / 8)) (rByt r ((8 * x1) + (x2 / 8)).toNatClampNeg) q.1)) else none)
theorem e_L_Mod_right_99 {sc : Nat × (Nat → Int32)} {d : DS} {f : FS} {w : WS} {m : MS} {s : SS} {g : GS} {tl : List mn_E}    : ∀ (n : Nat) (r : RS) (x1 : Int32) (x2 : Int32), Ev sc 2 31 0 0 M_Mod_right 99 [(0, .ref 12), (1, .int x1), (2, .int x2)] [] (eLV :: (HD d (HF f (HW w (HM m (HS s (HG g (HR r tl)))))))) (mapR ouV (fun z => (eLV :: (HD d (HF f (HW w (HM m (HS s (HG g (HR z tl))))))))) (L_Mod_right_99   n r x1 x2)) := by
  intro n
  induction n with
  | zero => intro r x1 x2; exact ev_none
  | succ n ih =>
    intro r x1 x2
    rw [L_Mod_right_99]
    refine ev_iload_n d_Mod_right_99 rfl rfl ?_
    refine ev_bipush (v := 40) d_Mod_right_100 rfl ?_
    refine ev_icmp_ge (tgt := 158) d_Mod_right_102 rfl (fun h1 => ?_) (fun h1 => ?_)
    · rw [if_pos h1]
      exact ev_vret rfl d_Mod_right_158
    · rw [if_neg h1]
      refine ev_aload_n d_Mod_right_105 rfl rfl ?_
      refine ev_get (v := .ref 18) gi_Mod (ci := 6) rfl rfl 7 (by decide) gw_1008 rfl d_Mod_right_106 ?_
      refine ev_bipush (v := 8) d_Mod_right_109 rfl ?_
      refine ev_iload_n d_Mod_right_111 rfl rfl ?_
      refine ev_imul d_Mod_right_112 ?_
      refine ev_iload_n d_Mod_right_113 rfl rfl ?_
      refine ev_bipush (v := 8) d_Mod_right_114 rfl ?_
      refine ev_idiv d_Mod_right_116 (by decide) ?_
      refine ev_iadd d_Mod_right_117 ?_
      refine ev_aload_n d_Mod_right_118 rfl rfl ?_
      refine ev_get (v := .ref 18) gi_Mod (ci := 6) rfl rfl 7 (by decide) gw_1008 rfl d_Mod_right_119 ?_
      refine ev_bipush (v := 8) d_Mod_right_122 rfl ?_
      refine ev_iload_n d_Mod_right_124 rfl rfl ?_
      refine ev_imul d_Mod_right_125 ?_
      refine ev_iload_n d_Mod_right_126 rfl rfl ?_
      refine ev_bipush (v := 8) d_Mod_right_127 rfl ?_
      refine ev_idiv d_Mod_right_129 (by decide) ?_
      refine ev_iadd d_Mod_right_130 ?_
      refine ev_inB (fun h2 => ?_)
      refine ev_iaload rfl (inB_of h2) d_Mod_right_131 ?_
      refine ev_aload_n d_Mod_right_132 rfl rfl ?_
      refine ev_iload_n d_Mod_right_133 rfl rfl ?_
      refine ev_callB (rc := (f_Mod_isFree r x2)) (ou := ouI) (Hs := (fun z => (eLV :: (HD d (HF f (HW w (HM m (HS s (HG g (HR r tl)))))))))) (inv_V (q := 12) (av := [.int x2]) (rest := [.int (rByt r ((8 * x1) + (x2 / 8)).toNatClampNeg), .int ((8 * x1) + (x2 / 8)), .ref 18]) rfl (ci := 6) rfl d_Mod_right_134 gw_1151 gw_1153 gw_61 mw_Mod_isFree nh_Mod_isFree pn_Mod_isFree rfl) d_Mod_right_134 pl_Mod_isFree (Nat.le_of_ble_eq_true rfl) (Nat.le_of_ble_eq_true rfl) (Nat.le_of_ble_eq_true rfl) (e_f_Mod_isFree (tl := tl) (d := d) (f := f) (w := w) (m := m) (s := s) (g := g)  r x2) (fun _ => (len1 (lenHD (lenHF (lenHW (lenHM (lenHS (lenHG (lenHR rfl))))))))) (fun v z h3 => ⟨_, rfl, ?_⟩)
      exact ev_pick [0, 1, 2] rfl (e_B_Mod_right_137   (L_Mod_right_99 n) ih r x1 x2 ((8 * x1) + (x2 / 8)) (rByt r ((8 * x1) + (x2 / 8)).toNatClampNeg) v)
def B_Mod_right_91  (r74 : RS → Int32 → Int32 → Option (Unit × RS)) (r : RS) (x1 : Int32) (x2 : Int32) : Option (Unit × RS) :=
  r74 r x1 (x2 + 1)
theorem e_B_Mod_right_91 {sc : Nat × (Nat → Int32)} {d : DS} {f : FS} {w : WS} {m : MS} {s : SS} {g : GS} {tl : List mn_E}  (r74 : RS → Int32 → Int32 → Option (Unit × RS)) (hr74 : ∀ (r : RS) (x1 : Int32) (x2 : Int32), Ev sc 2 31 0 0 M_Mod_right 74 [(0, .ref 12), (1, .int x1), (2, .int x2)] [] (eLV :: (HD d (HF f (HW w (HM m (HS s (HG g (HR r tl)))))))) (mapR ouV (fun z => (eLV :: (HD d (HF f (HW w (HM m (HS s (HG g (HR z tl))))))))) (r74 r x1 x2))) (r : RS) (x1 : Int32) (x2 : Int32) : Ev sc 2 31 0 0 M_Mod_right 91 [(0, .ref 12), (1, .int x1), (2, .int x2)] [] (eLV :: (HD d (HF f (HW w (HM m (HS s (HG g (HR r tl)))))))) (mapR ouV (fun z => (eLV :: (HD d (HF f (HW w (HM m (HS s (HG g (HR z tl))))))))) (B_Mod_right_91 r74 r x1 x2)) := by
  unfold B_Mod_right_91
  refine ev_iinc (v := (x2 + 1)) d_Mod_right_91 rfl rfl (by decide) rfl ?_
  refine ev_goto (tgt := 74) d_Mod_right_94 rfl ?_
  exact ev_pick [1, 2, 0] rfl (hr74 r x1 (x2 + 1))
def L_Mod_right_74   : Nat → RS → Int32 → Int32 → Option (Unit × RS)
  | 0, _, _, _ => none
  | n + 1, r, x1, x2 =>
  if 5 ≤ x2 then (L_Mod_right_99   1000 r x1 0) else (if inB ((8 * x1) + x2) 320 then (B_Mod_right_91  (L_Mod_right_74 n) (rSByt r (upd (rByt r) ((8 * x1) + x2).toNatClampNeg 0)) x1 x2) else none)
theorem e_L_Mod_right_74 {sc : Nat × (Nat → Int32)} {d : DS} {f : FS} {w : WS} {m : MS} {s : SS} {g : GS} {tl : List mn_E}    : ∀ (n : Nat) (r : RS) (x1 : Int32) (x2 : Int32), Ev sc 2 31 0 0 M_Mod_right 74 [(0, .ref 12), (1, .int x1), (2, .int x2)] [] (eLV :: (HD d (HF f (HW w (HM m (HS s (HG g (HR r tl)))))))) (mapR ouV (fun z => (eLV :: (HD d (HF f (HW w (HM m (HS s (HG g (HR z tl))))))))) (L_Mod_right_74   n r x1 x2)) := by
  intro n
  induction n with
  | zero => intro r x1 x2; exact ev_none
  | succ n ih =>
    intro r x1 x2
    rw [L_Mod_right_74]
    refine ev_iload_n d_Mod_right_74 rfl rfl ?_
    refine ev_iconst (v := 5) d_Mod_right_75 rfl ?_
    refine ev_icmp_ge (tgt := 97) d_Mod_right_76 rfl (fun h1 => ?_) (fun h1 => ?_)
    · rw [if_pos h1]
      refine ev_iconst (v := 0) d_Mod_right_97 rfl ?_
      refine ev_istore_n d_Mod_right_98 rfl (by decide) rfl ?_
      exact ev_pick [1, 2, 0] rfl (e_L_Mod_right_99     1000 r x1 0)
    · rw [if_neg h1]
      refine ev_aload_n d_Mod_right_79 rfl rfl ?_
      refine ev_get (v := .ref 18) gi_Mod (ci := 6) rfl rfl 7 (by decide) gw_1008 rfl d_Mod_right_80 ?_
      refine ev_bipush (v := 8) d_Mod_right_83 rfl ?_
      refine ev_iload_n d_Mod_right_85 rfl rfl ?_
      refine ev_imul d_Mod_right_86 ?_
      refine ev_iload_n d_Mod_right_87 rfl rfl ?_
      refine ev_iadd d_Mod_right_88 ?_
      refine ev_iconst (v := 0) d_Mod_right_89 rfl ?_
      refine ev_inB (fun h2 => ?_)
      refine ev_iastore (h2 := (eLV :: (HD d (HF f (HW w (HM m (HS s (HG g (HR (rSByt r (upd (rByt r) ((8 * x1) + x2).toNatClampNeg 0)) tl))))))))) rfl (inB_of h2) rfl d_Mod_right_90 ?_
      exact ev_pick [0, 1, 2] rfl (e_B_Mod_right_91   (L_Mod_right_74 n) ih (rSByt r (upd (rByt r) ((8 * x1) + x2).toNatClampNeg 0)) x1 x2)
def B_Mod_right_72   (r : RS) (x1 : Int32) : Option (Unit × RS) :=
  L_Mod_right_74   1000 r x1 0
theorem e_B_Mod_right_72 {sc : Nat × (Nat → Int32)} {d : DS} {f : FS} {w : WS} {m : MS} {s : SS} {g : GS} {tl : List mn_E}    (r : RS) (x1 : Int32) : Ev sc 2 31 0 0 M_Mod_right 72 [(0, .ref 12), (1, .int x1)] [] (eLV :: (HD d (HF f (HW w (HM m (HS s (HG g (HR r tl)))))))) (mapR ouV (fun z => (eLV :: (HD d (HF f (HW w (HM m (HS s (HG g (HR z tl))))))))) (B_Mod_right_72 r x1)) := by
  unfold B_Mod_right_72
  refine ev_iconst (v := 0) d_Mod_right_72 rfl ?_
  refine ev_istore_n d_Mod_right_73 rfl (by decide) rfl ?_
  exact ev_pick [1, 2, 0] rfl (e_L_Mod_right_74     1000 r x1 0)
def B_Mod_right_64   (r : RS) (t0 : Int32) : Option (Unit × RS) :=
  if inB t0 40 then (B_Mod_right_72   (rSUse r (upd (rUse r) t0.toNatClampNeg 5)) t0) else none
theorem e_B_Mod_right_64 {sc : Nat × (Nat → Int32)} {d : DS} {f : FS} {w : WS} {m : MS} {s : SS} {g : GS} {tl : List mn_E}    (r : RS) (t0 : Int32) : Ev sc 2 31 0 0 M_Mod_right 64 [(0, .ref 12)] [.int t0] (eLV :: (HD d (HF f (HW w (HM m (HS s (HG g (HR r tl)))))))) (mapR ouV (fun z => (eLV :: (HD d (HF f (HW w (HM m (HS s (HG g (HR z tl))))))))) (B_Mod_right_64 r t0)) := by
  unfold B_Mod_right_64
  refine ev_istore_n d_Mod_right_64 rfl (by decide) rfl ?_
  refine ev_aload_n d_Mod_right_65 rfl rfl ?_
  refine ev_get (v := .ref 15) gi_Mod (ci := 6) rfl rfl 4 (by decide) gw_1005 rfl d_Mod_right_66 ?_
  refine ev_iload_n d_Mod_right_69 rfl rfl ?_
  refine ev_iconst (v := 5) d_Mod_right_70 rfl ?_
  refine ev_inB (fun h1 => ?_)
  refine ev_iastore (h2 := (eLV :: (HD d (HF f (HW w (HM m (HS s (HG g (HR (rSUse r (upd (rUse r) t0.toNatClampNeg 5)) tl))))))))) rfl (inB_of h1) rfl d_Mod_right_71 ?_
  exact ev_pick [1, 0] rfl (e_B_Mod_right_72     (rSUse r (upd (rUse r) t0.toNatClampNeg 5)) t0)
def B_Mod_right_46   (r : RS) (t0 : Int32) : Option (Unit × RS) :=
  if t0 = 0 then (some ((), r)) else (if inB 2 61 then (if (rMan r (2 : Int32).toNatClampNeg) ≤ 0 then (some ((), r)) else (bnd (f_Mod_pageAt r 2 1) (fun q => B_Mod_right_64   r q.1))) else none)
theorem e_B_Mod_right_46 {sc : Nat × (Nat → Int32)} {d : DS} {f : FS} {w : WS} {m : MS} {s : SS} {g : GS} {tl : List mn_E}    (r : RS) (t0 : Int32) : Ev sc 2 31 0 0 M_Mod_right 46 [(0, .ref 12)] [.int t0] (eLV :: (HD d (HF f (HW w (HM m (HS s (HG g (HR r tl)))))))) (mapR ouV (fun z => (eLV :: (HD d (HF f (HW w (HM m (HS s (HG g (HR z tl))))))))) (B_Mod_right_46 r t0)) := by
  unfold B_Mod_right_46
  refine ev_if_eq (tgt := 158) d_Mod_right_46 rfl (fun h1 => ?_) (fun h1 => ?_)
  · rw [if_pos h1]
    exact ev_vret rfl d_Mod_right_158
  · rw [if_neg h1]
    refine ev_aload_n d_Mod_right_49 rfl rfl ?_
    refine ev_get (v := .ref 25) gi_Mod (ci := 6) rfl rfl 25 (by decide) gw_1026 rfl d_Mod_right_50 ?_
    refine ev_iconst (v := 2) d_Mod_right_53 rfl ?_
    refine ev_inB (fun h2 => ?_)
    refine ev_iaload rfl (inB_of h2) d_Mod_right_54 ?_
    refine ev_if_le (tgt := 158) d_Mod_right_55 rfl (fun h3 => ?_) (fun h3 => ?_)
    · rw [if_pos h3]
      exact ev_vret rfl d_Mod_right_158
    · rw [if_neg h3]
      refine ev_aload_n d_Mod_right_58 rfl rfl ?_
      refine ev_iconst (v := 2) d_Mod_right_59 rfl ?_
      refine ev_iconst (v := 1) d_Mod_right_60 rfl ?_
      refine ev_callB (rc := (f_Mod_pageAt r 2 1)) (ou := ouI) (Hs := (fun z => (eLV :: (HD d (HF f (HW w (HM m (HS s (HG g (HR r tl)))))))))) (inv_V (q := 12) (av := [.int 2, .int 1]) (rest := []) rfl (ci := 6) rfl d_Mod_right_61 gw_1267 gw_1269 gw_82 mw_Mod_pageAt nh_Mod_pageAt pn_Mod_pageAt rfl) d_Mod_right_61 pl_Mod_pageAt (Nat.le_of_ble_eq_true rfl) (Nat.le_of_ble_eq_true rfl) (Nat.le_of_ble_eq_true rfl) (e_f_Mod_pageAt (tl := tl) (d := d) (f := f) (w := w) (m := m) (s := s) (g := g)  r 2 1) (fun _ => (len1 (lenHD (lenHF (lenHW (lenHM (lenHS (lenHG (lenHR rfl))))))))) (fun v z h4 => ⟨_, rfl, ?_⟩)
      exact ev_pick [0] rfl (e_B_Mod_right_64     r v)
def B_Mod_right_35  (r2 : RS → Int32 → Option (Unit × RS)) (r : RS) (x1 : Int32) : Option (Unit × RS) :=
  r2 r (x1 + 1)
theorem e_B_Mod_right_35 {sc : Nat × (Nat → Int32)} {d : DS} {f : FS} {w : WS} {m : MS} {s : SS} {g : GS} {tl : List mn_E}  (r2 : RS → Int32 → Option (Unit × RS)) (hr2 : ∀ (r : RS) (x1 : Int32), Ev sc 2 31 0 0 M_Mod_right 2 [(0, .ref 12), (1, .int x1)] [] (eLV :: (HD d (HF f (HW w (HM m (HS s (HG g (HR r tl)))))))) (mapR ouV (fun z => (eLV :: (HD d (HF f (HW w (HM m (HS s (HG g (HR z tl))))))))) (r2 r x1))) (r : RS) (x1 : Int32) : Ev sc 2 31 0 0 M_Mod_right 35 [(0, .ref 12), (1, .int x1)] [] (eLV :: (HD d (HF f (HW w (HM m (HS s (HG g (HR r tl)))))))) (mapR ouV (fun z => (eLV :: (HD d (HF f (HW w (HM m (HS s (HG g (HR z tl))))))))) (B_Mod_right_35 r2 r x1)) := by
  unfold B_Mod_right_35
  refine ev_iinc (v := (x1 + 1)) d_Mod_right_35 rfl rfl (by decide) rfl ?_
  refine ev_goto (tgt := 2) d_Mod_right_38 rfl ?_
  exact ev_pick [1, 0] rfl (hr2 r (x1 + 1))
def B_Mod_right_21  (r2 : RS → Int32 → Option (Unit × RS)) (r : RS) (x1 : Int32) : Option (Unit × RS) :=
  if inB 0 5 then (if inB 0 5 then (B_Mod_right_35  r2 (rSRep r (upd (rRep r) (0 : Int32).toNatClampNeg ((rRep r (0 : Int32).toNatClampNeg) + 1))) x1) else none) else none
theorem e_B_Mod_right_21 {sc : Nat × (Nat → Int32)} {d : DS} {f : FS} {w : WS} {m : MS} {s : SS} {g : GS} {tl : List mn_E}  (r2 : RS → Int32 → Option (Unit × RS)) (hr2 : ∀ (r : RS) (x1 : Int32), Ev sc 2 31 0 0 M_Mod_right 2 [(0, .ref 12), (1, .int x1)] [] (eLV :: (HD d (HF f (HW w (HM m (HS s (HG g (HR r tl)))))))) (mapR ouV (fun z => (eLV :: (HD d (HF f (HW w (HM m (HS s (HG g (HR z tl))))))))) (r2 r x1))) (r : RS) (x1 : Int32) : Ev sc 2 31 0 0 M_Mod_right 21 [(0, .ref 12), (1, .int x1)] [] (eLV :: (HD d (HF f (HW w (HM m (HS s (HG g (HR r tl)))))))) (mapR ouV (fun z => (eLV :: (HD d (HF f (HW w (HM m (HS s (HG g (HR z tl))))))))) (B_Mod_right_21 r2 r x1)) := by
  unfold B_Mod_right_21
  refine ev_aload_n d_Mod_right_21 rfl rfl ?_
  refine ev_get (v := .ref 22) gi_Mod (ci := 6) rfl rfl 21 (by decide) gw_1022 rfl d_Mod_right_22 ?_
  refine ev_iconst (v := 0) d_Mod_right_25 rfl ?_
  refine ev_aload_n d_Mod_right_26 rfl rfl ?_
  refine ev_get (v := .ref 22) gi_Mod (ci := 6) rfl rfl 21 (by decide) gw_1022 rfl d_Mod_right_27 ?_
  refine ev_iconst (v := 0) d_Mod_right_30 rfl ?_
  refine ev_inB (fun h1 => ?_)
  refine ev_iaload rfl (inB_of h1) d_Mod_right_31 ?_
  refine ev_iconst (v := 1) d_Mod_right_32 rfl ?_
  refine ev_iadd d_Mod_right_33 ?_
  refine ev_inB (fun h2 => ?_)
  refine ev_iastore (h2 := (eLV :: (HD d (HF f (HW w (HM m (HS s (HG g (HR (rSRep r (upd (rRep r) (0 : Int32).toNatClampNeg ((rRep r (0 : Int32).toNatClampNeg) + 1))) tl))))))))) rfl (inB_of h2) rfl d_Mod_right_34 ?_
  exact ev_pick [0, 1] rfl (e_B_Mod_right_35   r2 hr2 (rSRep r (upd (rRep r) (0 : Int32).toNatClampNeg ((rRep r (0 : Int32).toNatClampNeg) + 1))) x1)
def B_Mod_right_13  (r2 : RS → Int32 → Option (Unit × RS)) (r : RS) (x1 : Int32) (t0 : Int32) : Option (Unit × RS) :=
  if t0 = 0 then (B_Mod_right_35  r2 r x1) else (bnd (f_Mod_link r x1) (fun q => B_Mod_right_21  r2 q.2 x1))
theorem e_B_Mod_right_13 {sc : Nat × (Nat → Int32)} {d : DS} {f : FS} {w : WS} {m : MS} {s : SS} {g : GS} {tl : List mn_E}  (r2 : RS → Int32 → Option (Unit × RS)) (hr2 : ∀ (r : RS) (x1 : Int32), Ev sc 2 31 0 0 M_Mod_right 2 [(0, .ref 12), (1, .int x1)] [] (eLV :: (HD d (HF f (HW w (HM m (HS s (HG g (HR r tl)))))))) (mapR ouV (fun z => (eLV :: (HD d (HF f (HW w (HM m (HS s (HG g (HR z tl))))))))) (r2 r x1))) (r : RS) (x1 : Int32) (t0 : Int32) : Ev sc 2 31 0 0 M_Mod_right 13 [(0, .ref 12), (1, .int x1)] [.int t0] (eLV :: (HD d (HF f (HW w (HM m (HS s (HG g (HR r tl)))))))) (mapR ouV (fun z => (eLV :: (HD d (HF f (HW w (HM m (HS s (HG g (HR z tl))))))))) (B_Mod_right_13 r2 r x1 t0)) := by
  unfold B_Mod_right_13
  refine ev_if_eq (tgt := 35) d_Mod_right_13 rfl (fun h1 => ?_) (fun h1 => ?_)
  · rw [if_pos h1]
    exact ev_pick [0, 1] rfl (e_B_Mod_right_35   r2 hr2 r x1)
  · rw [if_neg h1]
    refine ev_aload_n d_Mod_right_16 rfl rfl ?_
    refine ev_iload_n d_Mod_right_17 rfl rfl ?_
    refine ev_callB (rc := (f_Mod_link r x1)) (ou := ouV) (Hs := (fun z => (eLV :: (HD d (HF f (HW w (HM m (HS s (HG g (HR z tl)))))))))) (inv_V (q := 12) (av := [.int x1]) (rest := []) rfl (ci := 6) rfl d_Mod_right_18 gw_1336 gw_1338 gw_99 mw_Mod_link nh_Mod_link pn_Mod_link rfl) d_Mod_right_18 pl_Mod_link (Nat.le_of_ble_eq_true rfl) (Nat.le_of_ble_eq_true rfl) (Nat.le_of_ble_eq_true rfl) (e_f_Mod_link (tl := tl) (d := d) (f := f) (w := w) (m := m) (s := s) (g := g)  r x1) (fun _ => (len1 (lenHD (lenHF (lenHW (lenHM (lenHS (lenHG (lenHR rfl))))))))) (fun v z h2 => ⟨_, rfl, ?_⟩)
    exact ev_pick [0, 1] rfl (e_B_Mod_right_21   r2 hr2 z x1)
def L_Mod_right_2   : Nat → RS → Int32 → Option (Unit × RS)
  | 0, _, _ => none
  | n + 1, r, x1 =>
  if 61 ≤ x1 then (bnd (f_Mod_isThere r 2) (fun q => B_Mod_right_46   r q.1)) else (bnd (f_Mod_isThere r x1) (fun q => B_Mod_right_13  (L_Mod_right_2 n) r x1 q.1))
theorem e_L_Mod_right_2 {sc : Nat × (Nat → Int32)} {d : DS} {f : FS} {w : WS} {m : MS} {s : SS} {g : GS} {tl : List mn_E}    : ∀ (n : Nat) (r : RS) (x1 : Int32), Ev sc 2 31 0 0 M_Mod_right 2 [(0, .ref 12), (1, .int x1)] [] (eLV :: (HD d (HF f (HW w (HM m (HS s (HG g (HR r tl)))))))) (mapR ouV (fun z => (eLV :: (HD d (HF f (HW w (HM m (HS s (HG g (HR z tl))))))))) (L_Mod_right_2   n r x1)) := by
  intro n
  induction n with
  | zero => intro r x1; exact ev_none
  | succ n ih =>
    intro r x1
    rw [L_Mod_right_2]
    refine ev_iload_n d_Mod_right_2 rfl rfl ?_
    refine ev_bipush (v := 61) d_Mod_right_3 rfl ?_
    refine ev_icmp_ge (tgt := 41) d_Mod_right_5 rfl (fun h1 => ?_) (fun h1 => ?_)
    · rw [if_pos h1]
      refine ev_aload_n d_Mod_right_41 rfl rfl ?_
      refine ev_iconst (v := 2) d_Mod_right_42 rfl ?_
      refine ev_callB (rc := (f_Mod_isThere r 2)) (ou := ouI) (Hs := (fun z => (eLV :: (HD d (HF f (HW w (HM m (HS s (HG g (HR r tl)))))))))) (inv_V (q := 12) (av := [.int 2]) (rest := []) rfl (ci := 6) rfl d_Mod_right_43 gw_1299 gw_1301 gw_90 mw_Mod_isThere nh_Mod_isThere pn_Mod_isThere rfl) d_Mod_right_43 pl_Mod_isThere (Nat.le_of_ble_eq_true rfl) (Nat.le_of_ble_eq_true rfl) (Nat.le_of_ble_eq_true rfl) (e_f_Mod_isThere (tl := tl) (d := d) (f := f) (w := w) (m := m) (s := s) (g := g)  r 2) (fun _ => (len1 (lenHD (lenHF (lenHW (lenHM (lenHS (lenHG (lenHR rfl))))))))) (fun v z h2 => ⟨_, rfl, ?_⟩)
      exact ev_pick [0] rfl (e_B_Mod_right_46     r v)
    · rw [if_neg h1]
      refine ev_aload_n d_Mod_right_8 rfl rfl ?_
      refine ev_iload_n d_Mod_right_9 rfl rfl ?_
      refine ev_callB (rc := (f_Mod_isThere r x1)) (ou := ouI) (Hs := (fun z => (eLV :: (HD d (HF f (HW w (HM m (HS s (HG g (HR r tl)))))))))) (inv_V (q := 12) (av := [.int x1]) (rest := []) rfl (ci := 6) rfl d_Mod_right_10 gw_1299 gw_1301 gw_90 mw_Mod_isThere nh_Mod_isThere pn_Mod_isThere rfl) d_Mod_right_10 pl_Mod_isThere (Nat.le_of_ble_eq_true rfl) (Nat.le_of_ble_eq_true rfl) (Nat.le_of_ble_eq_true rfl) (e_f_Mod_isThere (tl := tl) (d := d) (f := f) (w := w) (m := m) (s := s) (g := g)  r x1) (fun _ => (len1 (lenHD (lenHF (lenHW (lenHM (lenHS (lenHG (lenHR rfl))))))))) (fun v z h3 => ⟨_, rfl, ?_⟩)
      exact ev_pick [0, 1] rfl (e_B_Mod_right_13   (L_Mod_right_2 n) ih r x1 v)
def f_Mod_right   (r : RS) : Option (Unit × RS) :=
  L_Mod_right_2   1000 r 1
theorem e_f_Mod_right {sc : Nat × (Nat → Int32)} {d : DS} {f : FS} {w : WS} {m : MS} {s : SS} {g : GS} {tl : List mn_E}    (r : RS) : Ev sc 2 31 0 0 M_Mod_right 0 [(0, .ref 12)] [] (eLV :: (HD d (HF f (HW w (HM m (HS s (HG g (HR r tl)))))))) (mapR ouV (fun z => (eLV :: (HD d (HF f (HW w (HM m (HS s (HG g (HR z tl))))))))) (f_Mod_right r)) := by
  unfold f_Mod_right
  refine ev_iconst (v := 1) d_Mod_right_0 rfl ?_
  refine ev_istore_n d_Mod_right_1 rfl (by decide) rfl ?_
  exact ev_pick [1, 0] rfl (e_L_Mod_right_2     1000 r 1)
def B_Mod_scavenge_211   (r : RS) : Option (Int32 × RS) :=
  if inB 0 5 then (some ((rRep r (0 : Int32).toNatClampNeg), r)) else none
theorem e_B_Mod_scavenge_211 {sc : Nat × (Nat → Int32)} {d : DS} {f : FS} {w : WS} {m : MS} {s : SS} {g : GS} {tl : List mn_E}    (r : RS) : Ev sc 5 84 0 0 M_Mod_scavenge 211 [(0, .ref 12)] [] (eLV :: (HD d (HF f (HW w (HM m (HS s (HG g (HR r tl)))))))) (mapR ouI (fun z => (eLV :: (HD d (HF f (HW w (HM m (HS s (HG g (HR z tl))))))))) (B_Mod_scavenge_211 r)) := by
  unfold B_Mod_scavenge_211
  refine ev_aload_n d_Mod_scavenge_211 rfl rfl ?_
  refine ev_get (v := .ref 22) gi_Mod (ci := 6) rfl rfl 21 (by decide) gw_1022 rfl d_Mod_scavenge_212 ?_
  refine ev_iconst (v := 0) d_Mod_scavenge_215 rfl ?_
  refine ev_inB (fun h1 => ?_)
  refine ev_iaload rfl (inB_of h1) d_Mod_scavenge_216 ?_
  exact ev_zret (ty := .int) rfl rfl d_Mod_scavenge_217
def B_Mod_scavenge_190  (r144 : RS → Int32 → Option (Int32 × RS)) (r : RS) (x1 : Int32) : Option (Int32 × RS) :=
  r144 r (x1 + 1)
theorem e_B_Mod_scavenge_190 {sc : Nat × (Nat → Int32)} {d : DS} {f : FS} {w : WS} {m : MS} {s : SS} {g : GS} {tl : List mn_E}  (r144 : RS → Int32 → Option (Int32 × RS)) (hr144 : ∀ (r : RS) (x1 : Int32), Ev sc 5 84 0 0 M_Mod_scavenge 144 [(0, .ref 12), (1, .int x1)] [] (eLV :: (HD d (HF f (HW w (HM m (HS s (HG g (HR r tl)))))))) (mapR ouI (fun z => (eLV :: (HD d (HF f (HW w (HM m (HS s (HG g (HR z tl))))))))) (r144 r x1))) (r : RS) (x1 : Int32) : Ev sc 5 84 0 0 M_Mod_scavenge 190 [(0, .ref 12), (1, .int x1)] [] (eLV :: (HD d (HF f (HW w (HM m (HS s (HG g (HR r tl)))))))) (mapR ouI (fun z => (eLV :: (HD d (HF f (HW w (HM m (HS s (HG g (HR z tl))))))))) (B_Mod_scavenge_190 r144 r x1)) := by
  unfold B_Mod_scavenge_190
  refine ev_iinc (v := (x1 + 1)) d_Mod_scavenge_190 rfl rfl (by decide) rfl ?_
  refine ev_goto (tgt := 144) d_Mod_scavenge_193 rfl ?_
  exact ev_pick [1, 0] rfl (hr144 r (x1 + 1))
def B_Mod_scavenge_189  (r144 : RS → Int32 → Option (Int32 × RS)) (r : RS) (x1 : Int32) (t1 : Int32) (t2 : Int32) : Option (Int32 × RS) :=
  if inB t1 5 then (B_Mod_scavenge_190  r144 (rSRep r (upd (rRep r) t1.toNatClampNeg t2)) x1) else none
theorem e_B_Mod_scavenge_189 {sc : Nat × (Nat → Int32)} {d : DS} {f : FS} {w : WS} {m : MS} {s : SS} {g : GS} {tl : List mn_E}  (r144 : RS → Int32 → Option (Int32 × RS)) (hr144 : ∀ (r : RS) (x1 : Int32), Ev sc 5 84 0 0 M_Mod_scavenge 144 [(0, .ref 12), (1, .int x1)] [] (eLV :: (HD d (HF f (HW w (HM m (HS s (HG g (HR r tl)))))))) (mapR ouI (fun z => (eLV :: (HD d (HF f (HW w (HM m (HS s (HG g (HR z tl))))))))) (r144 r x1))) (r : RS) (x1 : Int32) (t1 : Int32) (t2 : Int32) : Ev sc 5 84 0 0 M_Mod_scavenge 189 [(0, .ref 12), (1, .int x1)] [.int t2, .int t1, .ref 22] (eLV :: (HD d (HF f (HW w (HM m (HS s (HG g (HR r tl)))))))) (mapR ouI (fun z => (eLV :: (HD d (HF f (HW w (HM m (HS s (HG g (HR z tl))))))))) (B_Mod_scavenge_189 r144 r x1 t1 t2)) := by
  unfold B_Mod_scavenge_189
  refine ev_inB (fun h1 => ?_)
  refine ev_iastore (h2 := (eLV :: (HD d (HF f (HW w (HM m (HS s (HG g (HR (rSRep r (upd (rRep r) t1.toNatClampNeg t2)) tl))))))))) rfl (inB_of h1) rfl d_Mod_scavenge_189 ?_
  exact ev_pick [0, 1] rfl (e_B_Mod_scavenge_190   r144 hr144 (rSRep r (upd (rRep r) t1.toNatClampNeg t2)) x1)
def B_Mod_scavenge_183  (r144 : RS → Int32 → Option (Int32 × RS)) (r : RS) (x1 : Int32) (t1 : Int32) : Option (Int32 × RS) :=
  if inB 4 5 then (B_Mod_scavenge_189  r144 r x1 t1 (rRep r (4 : Int32).toNatClampNeg)) else none
theorem e_B_Mod_scavenge_183 {sc : Nat × (Nat → Int32)} {d : DS} {f : FS} {w : WS} {m : MS} {s : SS} {g : GS} {tl : List mn_E}  (r144 : RS → Int32 → Option (Int32 × RS)) (hr144 : ∀ (r : RS) (x1 : Int32), Ev sc 5 84 0 0 M_Mod_scavenge 144 [(0, .ref 12), (1, .int x1)] [] (eLV :: (HD d (HF f (HW w (HM m (HS s (HG g (HR r tl)))))))) (mapR ouI (fun z => (eLV :: (HD d (HF f (HW w (HM m (HS s (HG g (HR z tl))))))))) (r144 r x1))) (r : RS) (x1 : Int32) (t1 : Int32) : Ev sc 5 84 0 0 M_Mod_scavenge 183 [(0, .ref 12), (1, .int x1)] [.int t1, .ref 22] (eLV :: (HD d (HF f (HW w (HM m (HS s (HG g (HR r tl)))))))) (mapR ouI (fun z => (eLV :: (HD d (HF f (HW w (HM m (HS s (HG g (HR z tl))))))))) (B_Mod_scavenge_183 r144 r x1 t1)) := by
  unfold B_Mod_scavenge_183
  refine ev_aload_n d_Mod_scavenge_183 rfl rfl ?_
  refine ev_get (v := .ref 22) gi_Mod (ci := 6) rfl rfl 21 (by decide) gw_1022 rfl d_Mod_scavenge_184 ?_
  refine ev_iconst (v := 4) d_Mod_scavenge_187 rfl ?_
  refine ev_inB (fun h1 => ?_)
  refine ev_iaload rfl (inB_of h1) d_Mod_scavenge_188 ?_
  exact ev_pick [0, 1] rfl (e_B_Mod_scavenge_189   r144 hr144 r x1 t1 (rRep r (4 : Int32).toNatClampNeg))
def B_Mod_scavenge_169  (r144 : RS → Int32 → Option (Int32 × RS)) (r : RS) (x1 : Int32) (t1 : Int32) (t2 : Int32) : Option (Int32 × RS) :=
  if t2 = 0 then (B_Mod_scavenge_183  r144 r x1 t1) else (if inB 4 5 then (B_Mod_scavenge_189  r144 r x1 t1 ((rRep r (4 : Int32).toNatClampNeg) + 1)) else none)
theorem e_B_Mod_scavenge_169 {sc : Nat × (Nat → Int32)} {d : DS} {f : FS} {w : WS} {m : MS} {s : SS} {g : GS} {tl : List mn_E}  (r144 : RS → Int32 → Option (Int32 × RS)) (hr144 : ∀ (r : RS) (x1 : Int32), Ev sc 5 84 0 0 M_Mod_scavenge 144 [(0, .ref 12), (1, .int x1)] [] (eLV :: (HD d (HF f (HW w (HM m (HS s (HG g (HR r tl)))))))) (mapR ouI (fun z => (eLV :: (HD d (HF f (HW w (HM m (HS s (HG g (HR z tl))))))))) (r144 r x1))) (r : RS) (x1 : Int32) (t1 : Int32) (t2 : Int32) : Ev sc 5 84 0 0 M_Mod_scavenge 169 [(0, .ref 12), (1, .int x1)] [.int t2, .int t1, .ref 22] (eLV :: (HD d (HF f (HW w (HM m (HS s (HG g (HR r tl)))))))) (mapR ouI (fun z => (eLV :: (HD d (HF f (HW w (HM m (HS s (HG g (HR z tl))))))))) (B_Mod_scavenge_169 r144 r x1 t1 t2)) := by
  unfold B_Mod_scavenge_169
  refine ev_if_eq (tgt := 183) d_Mod_scavenge_169 rfl (fun h1 => ?_) (fun h1 => ?_)
  · rw [if_pos h1]
    exact ev_pick [0, 1] rfl (e_B_Mod_scavenge_183   r144 hr144 r x1 t1)
  · rw [if_neg h1]
    refine ev_aload_n d_Mod_scavenge_172 rfl rfl ?_
    refine ev_get (v := .ref 22) gi_Mod (ci := 6) rfl rfl 21 (by decide) gw_1022 rfl d_Mod_scavenge_173 ?_
    refine ev_iconst (v := 4) d_Mod_scavenge_176 rfl ?_
    refine ev_inB (fun h2 => ?_)
    refine ev_iaload rfl (inB_of h2) d_Mod_scavenge_177 ?_
    refine ev_iconst (v := 1) d_Mod_scavenge_178 rfl ?_
    refine ev_iadd d_Mod_scavenge_179 ?_
    refine ev_goto (tgt := 189) d_Mod_scavenge_180 rfl ?_
    exact ev_pick [0, 1] rfl (e_B_Mod_scavenge_189   r144 hr144 r x1 t1 ((rRep r (4 : Int32).toNatClampNeg) + 1))
def L_Mod_scavenge_144   : Nat → RS → Int32 → Option (Int32 × RS)
  | 0, _, _ => none
  | n + 1, r, x1 =>
  if 40 ≤ x1 then (if inB 4 5 then (B_Mod_scavenge_211   (rSWri r ((rWri r) + (rRep r (4 : Int32).toNatClampNeg)))) else none) else (if inB x1 40 then (if ¬ (rBad r x1.toNatClampNeg) = 0 then (B_Mod_scavenge_183  (L_Mod_scavenge_144 n) r x1 4) else (bnd (f_Mod_isOther r x1) (fun q => B_Mod_scavenge_169  (L_Mod_scavenge_144 n) r x1 4 q.1))) else none)
theorem e_L_Mod_scavenge_144 {sc : Nat × (Nat → Int32)} {d : DS} {f : FS} {w : WS} {m : MS} {s : SS} {g : GS} {tl : List mn_E}    : ∀ (n : Nat) (r : RS) (x1 : Int32), Ev sc 5 84 0 0 M_Mod_scavenge 144 [(0, .ref 12), (1, .int x1)] [] (eLV :: (HD d (HF f (HW w (HM m (HS s (HG g (HR r tl)))))))) (mapR ouI (fun z => (eLV :: (HD d (HF f (HW w (HM m (HS s (HG g (HR z tl))))))))) (L_Mod_scavenge_144   n r x1)) := by
  intro n
  induction n with
  | zero => intro r x1; exact ev_none
  | succ n ih =>
    intro r x1
    rw [L_Mod_scavenge_144]
    refine ev_iload_n d_Mod_scavenge_144 rfl rfl ?_
    refine ev_bipush (v := 40) d_Mod_scavenge_145 rfl ?_
    refine ev_icmp_ge (tgt := 196) d_Mod_scavenge_147 rfl (fun h1 => ?_) (fun h1 => ?_)
    · rw [if_pos h1]
      refine ev_aload_n d_Mod_scavenge_196 rfl rfl ?_
      refine ev_aload_n d_Mod_scavenge_197 rfl rfl ?_
      refine ev_get (v := .int (rWri r)) gi_Mod (ci := 6) rfl rfl 11 (by decide) gw_1012 rfl d_Mod_scavenge_198 ?_
      refine ev_aload_n d_Mod_scavenge_201 rfl rfl ?_
      refine ev_get (v := .ref 22) gi_Mod (ci := 6) rfl rfl 21 (by decide) gw_1022 rfl d_Mod_scavenge_202 ?_
      refine ev_iconst (v := 4) d_Mod_scavenge_205 rfl ?_
      refine ev_inB (fun h2 => ?_)
      refine ev_iaload rfl (inB_of h2) d_Mod_scavenge_206 ?_
      refine ev_iadd d_Mod_scavenge_207 ?_
      refine ev_put (h2 := (eLV :: (HD d (HF f (HW w (HM m (HS s (HG g (HR (rSWri r ((rWri r) + (rRep r (4 : Int32).toNatClampNeg))) tl))))))))) gi_Mod ft_Mod fo_Mod fn_Mod (ci := 6) rfl rfl 11 (by decide) gw_1012 rfl rfl (fun _ => rfl) (fun _ => rfl) (Nat.le_of_ble_eq_true rfl) rfl d_Mod_scavenge_208 ?_
      exact ev_pick [0] rfl (e_B_Mod_scavenge_211     (rSWri r ((rWri r) + (rRep r (4 : Int32).toNatClampNeg))))
    · rw [if_neg h1]
      refine ev_aload_n d_Mod_scavenge_150 rfl rfl ?_
      refine ev_get (v := .ref 22) gi_Mod (ci := 6) rfl rfl 21 (by decide) gw_1022 rfl d_Mod_scavenge_151 ?_
      refine ev_iconst (v := 4) d_Mod_scavenge_154 rfl ?_
      refine ev_aload_n d_Mod_scavenge_155 rfl rfl ?_
      refine ev_get (v := .ref 19) gi_Mod (ci := 6) rfl rfl 8 (by decide) gw_1009 rfl d_Mod_scavenge_156 ?_
      refine ev_iload_n d_Mod_scavenge_159 rfl rfl ?_
      refine ev_inB (fun h3 => ?_)
      refine ev_zaload rfl (inB_of h3) d_Mod_scavenge_160 ?_
      refine ev_if_ne (tgt := 183) d_Mod_scavenge_161 rfl (fun h4 => ?_) (fun h4 => ?_)
      · rw [if_pos h4]
        exact ev_pick [0, 1] rfl (e_B_Mod_scavenge_183   (L_Mod_scavenge_144 n) ih r x1 4)
      · rw [if_neg h4]
        refine ev_aload_n d_Mod_scavenge_164 rfl rfl ?_
        refine ev_iload_n d_Mod_scavenge_165 rfl rfl ?_
        refine ev_callB (rc := (f_Mod_isOther r x1)) (ou := ouI) (Hs := (fun z => (eLV :: (HD d (HF f (HW w (HM m (HS s (HG g (HR r tl)))))))))) (inv_V (q := 12) (av := [.int x1]) (rest := [.int 4, .ref 22]) rfl (ci := 6) rfl d_Mod_scavenge_166 gw_1340 gw_1342 gw_100 mw_Mod_isOther nh_Mod_isOther pn_Mod_isOther rfl) d_Mod_scavenge_166 pl_Mod_isOther (Nat.le_of_ble_eq_true rfl) (Nat.le_of_ble_eq_true rfl) (Nat.le_of_ble_eq_true rfl) (e_f_Mod_isOther (tl := tl) (d := d) (f := f) (w := w) (m := m) (s := s) (g := g)  r x1) (fun _ => (len1 (lenHD (lenHF (lenHW (lenHM (lenHS (lenHG (lenHR rfl))))))))) (fun v z h5 => ⟨_, rfl, ?_⟩)
        exact ev_pick [0, 1] rfl (e_B_Mod_scavenge_169   (L_Mod_scavenge_144 n) ih r x1 4 v)
def B_Mod_scavenge_142   (r : RS) : Option (Int32 × RS) :=
  L_Mod_scavenge_144   1000 r 0
theorem e_B_Mod_scavenge_142 {sc : Nat × (Nat → Int32)} {d : DS} {f : FS} {w : WS} {m : MS} {s : SS} {g : GS} {tl : List mn_E}    (r : RS) : Ev sc 5 84 0 0 M_Mod_scavenge 142 [(0, .ref 12)] [] (eLV :: (HD d (HF f (HW w (HM m (HS s (HG g (HR r tl)))))))) (mapR ouI (fun z => (eLV :: (HD d (HF f (HW w (HM m (HS s (HG g (HR z tl))))))))) (B_Mod_scavenge_142 r)) := by
  unfold B_Mod_scavenge_142
  refine ev_iconst (v := 0) d_Mod_scavenge_142 rfl ?_
  refine ev_istore_n d_Mod_scavenge_143 rfl (by decide) rfl ?_
  exact ev_pick [1, 0] rfl (e_L_Mod_scavenge_144     1000 r 0)
def B_Mod_scavenge_138   (r : RS) : Option (Int32 × RS) :=
  bnd (f_Mod_right r) (fun q => B_Mod_scavenge_142   q.2)
theorem e_B_Mod_scavenge_138 {sc : Nat × (Nat → Int32)} {d : DS} {f : FS} {w : WS} {m : MS} {s : SS} {g : GS} {tl : List mn_E}    (r : RS) : Ev sc 5 84 0 0 M_Mod_scavenge 138 [(0, .ref 12)] [] (eLV :: (HD d (HF f (HW w (HM m (HS s (HG g (HR r tl)))))))) (mapR ouI (fun z => (eLV :: (HD d (HF f (HW w (HM m (HS s (HG g (HR z tl))))))))) (B_Mod_scavenge_138 r)) := by
  unfold B_Mod_scavenge_138
  refine ev_aload_n d_Mod_scavenge_138 rfl rfl ?_
  refine ev_callB (rc := (f_Mod_right r)) (ou := ouV) (Hs := (fun z => (eLV :: (HD d (HF f (HW w (HM m (HS s (HG g (HR z tl)))))))))) (inv_V (q := 12) (av := []) (rest := []) rfl (ci := 6) rfl d_Mod_scavenge_139 gw_1332 gw_1334 gw_98 mw_Mod_right nh_Mod_right pn_Mod_right rfl) d_Mod_scavenge_139 pl_Mod_right (Nat.le_of_ble_eq_true rfl) (Nat.le_of_ble_eq_true rfl) (Nat.le_of_ble_eq_true rfl) (e_f_Mod_right (tl := tl) (d := d) (f := f) (w := w) (m := m) (s := s) (g := g)  r ) (fun _ => (len1 (lenHD (lenHF (lenHW (lenHM (lenHS (lenHG (lenHR rfl))))))))) (fun v z h1 => ⟨_, rfl, ?_⟩)
  exact ev_pick [0] rfl (e_B_Mod_scavenge_142     z)
def B_Mod_scavenge_134   (r : RS) : Option (Int32 × RS) :=
  bnd (f_Mod_adopt r) (fun q => B_Mod_scavenge_138   q.2)
theorem e_B_Mod_scavenge_134 {sc : Nat × (Nat → Int32)} {d : DS} {f : FS} {w : WS} {m : MS} {s : SS} {g : GS} {tl : List mn_E}    (r : RS) : Ev sc 5 84 0 0 M_Mod_scavenge 134 [(0, .ref 12)] [] (eLV :: (HD d (HF f (HW w (HM m (HS s (HG g (HR r tl)))))))) (mapR ouI (fun z => (eLV :: (HD d (HF f (HW w (HM m (HS s (HG g (HR z tl))))))))) (B_Mod_scavenge_134 r)) := by
  unfold B_Mod_scavenge_134
  refine ev_aload_n d_Mod_scavenge_134 rfl rfl ?_
  refine ev_callB (rc := (f_Mod_adopt r)) (ou := ouV) (Hs := (fun z => (eLV :: (HD d (HF f (HW w (HM m (HS s (HG g (HR z tl)))))))))) (inv_V (q := 12) (av := []) (rest := []) rfl (ci := 6) rfl d_Mod_scavenge_135 gw_1312 gw_1314 gw_93 mw_Mod_adopt nh_Mod_adopt pn_Mod_adopt rfl) d_Mod_scavenge_135 pl_Mod_adopt (Nat.le_of_ble_eq_true rfl) (Nat.le_of_ble_eq_true rfl) (Nat.le_of_ble_eq_true rfl) (e_f_Mod_adopt (tl := tl) (d := d) (f := f) (w := w) (m := m) (s := s) (g := g)  r ) (fun _ => (len1 (lenHD (lenHF (lenHW (lenHM (lenHS (lenHG (lenHR rfl))))))))) (fun v z h1 => ⟨_, rfl, ?_⟩)
  exact ev_pick [0] rfl (e_B_Mod_scavenge_138     z)
def B_Mod_scavenge_126   (r : RS) (t0 : Int32) : Option (Int32 × RS) :=
  if t0 = 0 then (B_Mod_scavenge_138   r) else (bnd (f_Mod_walk r 1) (fun q => B_Mod_scavenge_134   q.2))
theorem e_B_Mod_scavenge_126 {sc : Nat × (Nat → Int32)} {d : DS} {f : FS} {w : WS} {m : MS} {s : SS} {g : GS} {tl : List mn_E}    (r : RS) (t0 : Int32) : Ev sc 5 84 0 0 M_Mod_scavenge 126 [(0, .ref 12)] [.int t0] (eLV :: (HD d (HF f (HW w (HM m (HS s (HG g (HR r tl)))))))) (mapR ouI (fun z => (eLV :: (HD d (HF f (HW w (HM m (HS s (HG g (HR z tl))))))))) (B_Mod_scavenge_126 r t0)) := by
  unfold B_Mod_scavenge_126
  refine ev_if_eq (tgt := 138) d_Mod_scavenge_126 rfl (fun h1 => ?_) (fun h1 => ?_)
  · rw [if_pos h1]
    exact ev_pick [0] rfl (e_B_Mod_scavenge_138     r)
  · rw [if_neg h1]
    refine ev_aload_n d_Mod_scavenge_129 rfl rfl ?_
    refine ev_iconst (v := 1) d_Mod_scavenge_130 rfl ?_
    refine ev_callB (rc := (f_Mod_walk r 1)) (ou := ouV) (Hs := (fun z => (eLV :: (HD d (HF f (HW w (HM m (HS s (HG g (HR z tl)))))))))) (inv_V (q := 12) (av := [.int 1]) (rest := []) rfl (ci := 6) rfl d_Mod_scavenge_131 gw_1303 gw_1305 gw_91 mw_Mod_walk nh_Mod_walk pn_Mod_walk rfl) d_Mod_scavenge_131 pl_Mod_walk (Nat.le_of_ble_eq_true rfl) (Nat.le_of_ble_eq_true rfl) (Nat.le_of_ble_eq_true rfl) (e_f_Mod_walk (tl := tl) (d := d) (f := f) (w := w) (m := m) (s := s) (g := g)  r 1) (fun _ => (len1 (lenHD (lenHF (lenHW (lenHM (lenHS (lenHG (lenHR rfl))))))))) (fun v z h2 => ⟨_, rfl, ?_⟩)
    exact ev_pick [0] rfl (e_B_Mod_scavenge_134     z)
def B_Mod_scavenge_121   (r : RS) : Option (Int32 × RS) :=
  bnd (f_Mod_isThere r 1) (fun q => B_Mod_scavenge_126   r q.1)
theorem e_B_Mod_scavenge_121 {sc : Nat × (Nat → Int32)} {d : DS} {f : FS} {w : WS} {m : MS} {s : SS} {g : GS} {tl : List mn_E}    (r : RS) : Ev sc 5 84 0 0 M_Mod_scavenge 121 [(0, .ref 12)] [] (eLV :: (HD d (HF f (HW w (HM m (HS s (HG g (HR r tl)))))))) (mapR ouI (fun z => (eLV :: (HD d (HF f (HW w (HM m (HS s (HG g (HR z tl))))))))) (B_Mod_scavenge_121 r)) := by
  unfold B_Mod_scavenge_121
  refine ev_aload_n d_Mod_scavenge_121 rfl rfl ?_
  refine ev_iconst (v := 1) d_Mod_scavenge_122 rfl ?_
  refine ev_callB (rc := (f_Mod_isThere r 1)) (ou := ouI) (Hs := (fun z => (eLV :: (HD d (HF f (HW w (HM m (HS s (HG g (HR r tl)))))))))) (inv_V (q := 12) (av := [.int 1]) (rest := []) rfl (ci := 6) rfl d_Mod_scavenge_123 gw_1299 gw_1301 gw_90 mw_Mod_isThere nh_Mod_isThere pn_Mod_isThere rfl) d_Mod_scavenge_123 pl_Mod_isThere (Nat.le_of_ble_eq_true rfl) (Nat.le_of_ble_eq_true rfl) (Nat.le_of_ble_eq_true rfl) (e_f_Mod_isThere (tl := tl) (d := d) (f := f) (w := w) (m := m) (s := s) (g := g)  r 1) (fun _ => (len1 (lenHD (lenHF (lenHW (lenHM (lenHS (lenHG (lenHR rfl))))))))) (fun v z h1 => ⟨_, rfl, ?_⟩)
  exact ev_pick [0] rfl (e_B_Mod_scavenge_126     r v)
def B_Mod_scavenge_111  (r74 : RS → Int32 → Option (Int32 × RS)) (r : RS) (x1 : Int32) : Option (Int32 × RS) :=
  r74 r (x1 + 1)
theorem e_B_Mod_scavenge_111 {sc : Nat × (Nat → Int32)} {d : DS} {f : FS} {w : WS} {m : MS} {s : SS} {g : GS} {tl : List mn_E}  (r74 : RS → Int32 → Option (Int32 × RS)) (hr74 : ∀ (r : RS) (x1 : Int32), Ev sc 5 84 0 0 M_Mod_scavenge 74 [(0, .ref 12), (1, .int x1)] [] (eLV :: (HD d (HF f (HW w (HM m (HS s (HG g (HR r tl)))))))) (mapR ouI (fun z => (eLV :: (HD d (HF f (HW w (HM m (HS s (HG g (HR z tl))))))))) (r74 r x1))) (r : RS) (x1 : Int32) : Ev sc 5 84 0 0 M_Mod_scavenge 111 [(0, .ref 12), (1, .int x1)] [] (eLV :: (HD d (HF f (HW w (HM m (HS s (HG g (HR r tl)))))))) (mapR ouI (fun z => (eLV :: (HD d (HF f (HW w (HM m (HS s (HG g (HR z tl))))))))) (B_Mod_scavenge_111 r74 r x1)) := by
  unfold B_Mod_scavenge_111
  refine ev_iinc (v := (x1 + 1)) d_Mod_scavenge_111 rfl rfl (by decide) rfl ?_
  refine ev_goto (tgt := 74) d_Mod_scavenge_114 rfl ?_
  exact ev_pick [1, 0] rfl (hr74 r (x1 + 1))
def B_Mod_scavenge_103  (r74 : RS → Int32 → Option (Int32 × RS)) (r : RS) (x1 : Int32) (t0 : Int32) : Option (Int32 × RS) :=
  if ¬ t0 = 0 then (B_Mod_scavenge_111  r74 r x1) else (bnd (f_Mod_lose r x1) (fun q => B_Mod_scavenge_111  r74 q.2 x1))
theorem e_B_Mod_scavenge_103 {sc : Nat × (Nat → Int32)} {d : DS} {f : FS} {w : WS} {m : MS} {s : SS} {g : GS} {tl : List mn_E}  (r74 : RS → Int32 → Option (Int32 × RS)) (hr74 : ∀ (r : RS) (x1 : Int32), Ev sc 5 84 0 0 M_Mod_scavenge 74 [(0, .ref 12), (1, .int x1)] [] (eLV :: (HD d (HF f (HW w (HM m (HS s (HG g (HR r tl)))))))) (mapR ouI (fun z => (eLV :: (HD d (HF f (HW w (HM m (HS s (HG g (HR z tl))))))))) (r74 r x1))) (r : RS) (x1 : Int32) (t0 : Int32) : Ev sc 5 84 0 0 M_Mod_scavenge 103 [(0, .ref 12), (1, .int x1)] [.int t0] (eLV :: (HD d (HF f (HW w (HM m (HS s (HG g (HR r tl)))))))) (mapR ouI (fun z => (eLV :: (HD d (HF f (HW w (HM m (HS s (HG g (HR z tl))))))))) (B_Mod_scavenge_103 r74 r x1 t0)) := by
  unfold B_Mod_scavenge_103
  refine ev_if_ne (tgt := 111) d_Mod_scavenge_103 rfl (fun h1 => ?_) (fun h1 => ?_)
  · rw [if_pos h1]
    exact ev_pick [0, 1] rfl (e_B_Mod_scavenge_111   r74 hr74 r x1)
  · rw [if_neg h1]
    refine ev_aload_n d_Mod_scavenge_106 rfl rfl ?_
    refine ev_iload_n d_Mod_scavenge_107 rfl rfl ?_
    refine ev_callB (rc := (f_Mod_lose r x1)) (ou := ouV) (Hs := (fun z => (eLV :: (HD d (HF f (HW w (HM m (HS s (HG g (HR z tl)))))))))) (inv_V (q := 12) (av := [.int x1]) (rest := []) rfl (ci := 6) rfl d_Mod_scavenge_108 gw_1275 gw_1277 gw_84 mw_Mod_lose nh_Mod_lose pn_Mod_lose rfl) d_Mod_scavenge_108 pl_Mod_lose (Nat.le_of_ble_eq_true rfl) (Nat.le_of_ble_eq_true rfl) (Nat.le_of_ble_eq_true rfl) (e_f_Mod_lose (tl := tl) (d := d) (f := f) (w := w) (m := m) (s := s) (g := g)  r x1) (fun _ => (len1 (lenHD (lenHF (lenHW (lenHM (lenHS (lenHG (lenHR rfl))))))))) (fun v z h2 => ⟨_, rfl, ?_⟩)
    exact ev_pick [0, 1] rfl (e_B_Mod_scavenge_111   r74 hr74 z x1)
def L_Mod_scavenge_74   : Nat → RS → Int32 → Option (Int32 × RS)
  | 0, _, _ => none
  | n + 1, r, x1 =>
  if 40 ≤ x1 then (bnd (f_Mod_heads r) (fun q => B_Mod_scavenge_121   q.2)) else (if inB x1 40 then (if ¬ (rBad r x1.toNatClampNeg) = 0 then (B_Mod_scavenge_111  (L_Mod_scavenge_74 n) r x1) else (if inB x1 40 then (if (rSer r x1.toNatClampNeg) ≤ 0 then (B_Mod_scavenge_111  (L_Mod_scavenge_74 n) r x1) else (bnd (f_Mod_isKept r x1) (fun q => B_Mod_scavenge_103  (L_Mod_scavenge_74 n) r x1 q.1))) else none)) else none)
theorem e_L_Mod_scavenge_74 {sc : Nat × (Nat → Int32)} {d : DS} {f : FS} {w : WS} {m : MS} {s : SS} {g : GS} {tl : List mn_E}    : ∀ (n : Nat) (r : RS) (x1 : Int32), Ev sc 5 84 0 0 M_Mod_scavenge 74 [(0, .ref 12), (1, .int x1)] [] (eLV :: (HD d (HF f (HW w (HM m (HS s (HG g (HR r tl)))))))) (mapR ouI (fun z => (eLV :: (HD d (HF f (HW w (HM m (HS s (HG g (HR z tl))))))))) (L_Mod_scavenge_74   n r x1)) := by
  intro n
  induction n with
  | zero => intro r x1; exact ev_none
  | succ n ih =>
    intro r x1
    rw [L_Mod_scavenge_74]
    refine ev_iload_n d_Mod_scavenge_74 rfl rfl ?_
    refine ev_bipush (v := 40) d_Mod_scavenge_75 rfl ?_
    refine ev_icmp_ge (tgt := 117) d_Mod_scavenge_77 rfl (fun h1 => ?_) (fun h1 => ?_)
    · rw [if_pos h1]
      refine ev_aload_n d_Mod_scavenge_117 rfl rfl ?_
      refine ev_callB (rc := (f_Mod_heads r)) (ou := ouV) (Hs := (fun z => (eLV :: (HD d (HF f (HW w (HM m (HS s (HG g (HR z tl)))))))))) (inv_V (q := 12) (av := []) (rest := []) rfl (ci := 6) rfl d_Mod_scavenge_118 gw_1279 gw_1281 gw_85 mw_Mod_heads nh_Mod_heads pn_Mod_heads rfl) d_Mod_scavenge_118 pl_Mod_heads (Nat.le_of_ble_eq_true rfl) (Nat.le_of_ble_eq_true rfl) (Nat.le_of_ble_eq_true rfl) (e_f_Mod_heads (tl := tl) (d := d) (f := f) (w := w) (m := m) (s := s) (g := g)  r ) (fun _ => (len1 (lenHD (lenHF (lenHW (lenHM (lenHS (lenHG (lenHR rfl))))))))) (fun v z h2 => ⟨_, rfl, ?_⟩)
      exact ev_pick [0] rfl (e_B_Mod_scavenge_121     z)
    · rw [if_neg h1]
      refine ev_aload_n d_Mod_scavenge_80 rfl rfl ?_
      refine ev_get (v := .ref 19) gi_Mod (ci := 6) rfl rfl 8 (by decide) gw_1009 rfl d_Mod_scavenge_81 ?_
      refine ev_iload_n d_Mod_scavenge_84 rfl rfl ?_
      refine ev_inB (fun h3 => ?_)
      refine ev_zaload rfl (inB_of h3) d_Mod_scavenge_85 ?_
      refine ev_if_ne (tgt := 111) d_Mod_scavenge_86 rfl (fun h4 => ?_) (fun h4 => ?_)
      · rw [if_pos h4]
        exact ev_pick [0, 1] rfl (e_B_Mod_scavenge_111   (L_Mod_scavenge_74 n) ih r x1)
      · rw [if_neg h4]
        refine ev_aload_n d_Mod_scavenge_89 rfl rfl ?_
        refine ev_get (v := .ref 13) gi_Mod (ci := 6) rfl rfl 2 (by decide) gw_1003 rfl d_Mod_scavenge_90 ?_
        refine ev_iload_n d_Mod_scavenge_93 rfl rfl ?_
        refine ev_inB (fun h5 => ?_)
        refine ev_iaload rfl (inB_of h5) d_Mod_scavenge_94 ?_
        refine ev_if_le (tgt := 111) d_Mod_scavenge_95 rfl (fun h6 => ?_) (fun h6 => ?_)
        · rw [if_pos h6]
          exact ev_pick [0, 1] rfl (e_B_Mod_scavenge_111   (L_Mod_scavenge_74 n) ih r x1)
        · rw [if_neg h6]
          refine ev_aload_n d_Mod_scavenge_98 rfl rfl ?_
          refine ev_iload_n d_Mod_scavenge_99 rfl rfl ?_
          refine ev_callB (rc := (f_Mod_isKept r x1)) (ou := ouI) (Hs := (fun z => (eLV :: (HD d (HF f (HW w (HM m (HS s (HG g (HR r tl)))))))))) (inv_V (q := 12) (av := [.int x1]) (rest := []) rfl (ci := 6) rfl d_Mod_scavenge_100 gw_1271 gw_1273 gw_83 mw_Mod_isKept nh_Mod_isKept pn_Mod_isKept rfl) d_Mod_scavenge_100 pl_Mod_isKept (Nat.le_of_ble_eq_true rfl) (Nat.le_of_ble_eq_true rfl) (Nat.le_of_ble_eq_true rfl) (e_f_Mod_isKept (tl := tl) (d := d) (f := f) (w := w) (m := m) (s := s) (g := g)  r x1) (fun _ => (len1 (lenHD (lenHF (lenHW (lenHM (lenHS (lenHG (lenHR rfl))))))))) (fun v z h7 => ⟨_, rfl, ?_⟩)
          exact ev_pick [0, 1] rfl (e_B_Mod_scavenge_103   (L_Mod_scavenge_74 n) ih r x1 v)
def B_Mod_scavenge_66  (r41 : RS → Int32 → Option (Int32 × RS)) (r : RS) (x1 : Int32) : Option (Int32 × RS) :=
  r41 r (x1 + 1)
theorem e_B_Mod_scavenge_66 {sc : Nat × (Nat → Int32)} {d : DS} {f : FS} {w : WS} {m : MS} {s : SS} {g : GS} {tl : List mn_E}  (r41 : RS → Int32 → Option (Int32 × RS)) (hr41 : ∀ (r : RS) (x1 : Int32), Ev sc 5 84 0 0 M_Mod_scavenge 41 [(0, .ref 12), (1, .int x1)] [] (eLV :: (HD d (HF f (HW w (HM m (HS s (HG g (HR r tl)))))))) (mapR ouI (fun z => (eLV :: (HD d (HF f (HW w (HM m (HS s (HG g (HR z tl))))))))) (r41 r x1))) (r : RS) (x1 : Int32) : Ev sc 5 84 0 0 M_Mod_scavenge 66 [(0, .ref 12), (1, .int x1)] [] (eLV :: (HD d (HF f (HW w (HM m (HS s (HG g (HR r tl)))))))) (mapR ouI (fun z => (eLV :: (HD d (HF f (HW w (HM m (HS s (HG g (HR z tl))))))))) (B_Mod_scavenge_66 r41 r x1)) := by
  unfold B_Mod_scavenge_66
  refine ev_iinc (v := (x1 + 1)) d_Mod_scavenge_66 rfl rfl (by decide) rfl ?_
  refine ev_goto (tgt := 41) d_Mod_scavenge_69 rfl ?_
  exact ev_pick [1, 0] rfl (hr41 r (x1 + 1))
def B_Mod_scavenge_61  (r41 : RS → Int32 → Option (Int32 × RS)) (r : RS) (x1 : Int32) : Option (Int32 × RS) :=
  bnd (f_Mod_keep r x1) (fun q => B_Mod_scavenge_66  r41 q.2 x1)
theorem e_B_Mod_scavenge_61 {sc : Nat × (Nat → Int32)} {d : DS} {f : FS} {w : WS} {m : MS} {s : SS} {g : GS} {tl : List mn_E}  (r41 : RS → Int32 → Option (Int32 × RS)) (hr41 : ∀ (r : RS) (x1 : Int32), Ev sc 5 84 0 0 M_Mod_scavenge 41 [(0, .ref 12), (1, .int x1)] [] (eLV :: (HD d (HF f (HW w (HM m (HS s (HG g (HR r tl)))))))) (mapR ouI (fun z => (eLV :: (HD d (HF f (HW w (HM m (HS s (HG g (HR z tl))))))))) (r41 r x1))) (r : RS) (x1 : Int32) : Ev sc 5 84 0 0 M_Mod_scavenge 61 [(0, .ref 12), (1, .int x1)] [] (eLV :: (HD d (HF f (HW w (HM m (HS s (HG g (HR r tl)))))))) (mapR ouI (fun z => (eLV :: (HD d (HF f (HW w (HM m (HS s (HG g (HR z tl))))))))) (B_Mod_scavenge_61 r41 r x1)) := by
  unfold B_Mod_scavenge_61
  refine ev_aload_n d_Mod_scavenge_61 rfl rfl ?_
  refine ev_iload_n d_Mod_scavenge_62 rfl rfl ?_
  refine ev_callB (rc := (f_Mod_keep r x1)) (ou := ouV) (Hs := (fun z => (eLV :: (HD d (HF f (HW w (HM m (HS s (HG g (HR z tl)))))))))) (inv_V (q := 12) (av := [.int x1]) (rest := []) rfl (ci := 6) rfl d_Mod_scavenge_63 gw_1263 gw_1265 gw_81 mw_Mod_keep nh_Mod_keep pn_Mod_keep rfl) d_Mod_scavenge_63 pl_Mod_keep (Nat.le_of_ble_eq_true rfl) (Nat.le_of_ble_eq_true rfl) (Nat.le_of_ble_eq_true rfl) (e_f_Mod_keep (tl := tl) (d := d) (f := f) (w := w) (m := m) (s := s) (g := g)  r x1) (fun _ => (len1 (lenHD (lenHF (lenHW (lenHM (lenHS (lenHG (lenHR rfl))))))))) (fun v z h1 => ⟨_, rfl, ?_⟩)
  exact ev_pick [0, 1] rfl (e_B_Mod_scavenge_66   r41 hr41 z x1)
def B_Mod_scavenge_54  (r41 : RS → Int32 → Option (Int32 × RS)) (r : RS) (x1 : Int32) : Option (Int32 × RS) :=
  if inB x1 61 then (B_Mod_scavenge_61  r41 (rSRea r (upd (rRea r) x1.toNatClampNeg (vp_nar .boolean 0))) x1) else none
theorem e_B_Mod_scavenge_54 {sc : Nat × (Nat → Int32)} {d : DS} {f : FS} {w : WS} {m : MS} {s : SS} {g : GS} {tl : List mn_E}  (r41 : RS → Int32 → Option (Int32 × RS)) (hr41 : ∀ (r : RS) (x1 : Int32), Ev sc 5 84 0 0 M_Mod_scavenge 41 [(0, .ref 12), (1, .int x1)] [] (eLV :: (HD d (HF f (HW w (HM m (HS s (HG g (HR r tl)))))))) (mapR ouI (fun z => (eLV :: (HD d (HF f (HW w (HM m (HS s (HG g (HR z tl))))))))) (r41 r x1))) (r : RS) (x1 : Int32) : Ev sc 5 84 0 0 M_Mod_scavenge 54 [(0, .ref 12), (1, .int x1)] [] (eLV :: (HD d (HF f (HW w (HM m (HS s (HG g (HR r tl)))))))) (mapR ouI (fun z => (eLV :: (HD d (HF f (HW w (HM m (HS s (HG g (HR z tl))))))))) (B_Mod_scavenge_54 r41 r x1)) := by
  unfold B_Mod_scavenge_54
  refine ev_aload_n d_Mod_scavenge_54 rfl rfl ?_
  refine ev_get (v := .ref 26) gi_Mod (ci := 6) rfl rfl 26 (by decide) gw_1027 rfl d_Mod_scavenge_55 ?_
  refine ev_iload_n d_Mod_scavenge_58 rfl rfl ?_
  refine ev_iconst (v := 0) d_Mod_scavenge_59 rfl ?_
  refine ev_inB (fun h1 => ?_)
  refine ev_zastore (h2 := (eLV :: (HD d (HF f (HW w (HM m (HS s (HG g (HR (rSRea r (upd (rRea r) x1.toNatClampNeg (vp_nar .boolean 0))) tl))))))))) rfl (inB_of h1) rfl d_Mod_scavenge_60 ?_
  exact ev_pick [0, 1] rfl (e_B_Mod_scavenge_61   r41 hr41 (rSRea r (upd (rRea r) x1.toNatClampNeg (vp_nar .boolean 0))) x1)
def L_Mod_scavenge_41   : Nat → RS → Int32 → Option (Int32 × RS)
  | 0, _, _ => none
  | n + 1, r, x1 =>
  if 61 ≤ x1 then (L_Mod_scavenge_74   1000 r 0) else (if inB x1 61 then (B_Mod_scavenge_54  (L_Mod_scavenge_41 n) (rSKep r (upd (rKep r) x1.toNatClampNeg 0)) x1) else none)
theorem e_L_Mod_scavenge_41 {sc : Nat × (Nat → Int32)} {d : DS} {f : FS} {w : WS} {m : MS} {s : SS} {g : GS} {tl : List mn_E}    : ∀ (n : Nat) (r : RS) (x1 : Int32), Ev sc 5 84 0 0 M_Mod_scavenge 41 [(0, .ref 12), (1, .int x1)] [] (eLV :: (HD d (HF f (HW w (HM m (HS s (HG g (HR r tl)))))))) (mapR ouI (fun z => (eLV :: (HD d (HF f (HW w (HM m (HS s (HG g (HR z tl))))))))) (L_Mod_scavenge_41   n r x1)) := by
  intro n
  induction n with
  | zero => intro r x1; exact ev_none
  | succ n ih =>
    intro r x1
    rw [L_Mod_scavenge_41]
    refine ev_iload_n d_Mod_scavenge_41 rfl rfl ?_
    refine ev_bipush (v := 61) d_Mod_scavenge_42 rfl ?_
    refine ev_icmp_ge (tgt := 72) d_Mod_scavenge_44 rfl (fun h1 => ?_) (fun h1 => ?_)
    · rw [if_pos h1]
      refine ev_iconst (v := 0) d_Mod_scavenge_72 rfl ?_
      refine ev_istore_n d_Mod_scavenge_73 rfl (by decide) rfl ?_
      exact ev_pick [1, 0] rfl (e_L_Mod_scavenge_74     1000 r 0)
    · rw [if_neg h1]
      refine ev_aload_n d_Mod_scavenge_47 rfl rfl ?_
      refine ev_get (v := .ref 20) gi_Mod (ci := 6) rfl rfl 9 (by decide) gw_1010 rfl d_Mod_scavenge_48 ?_
      refine ev_iload_n d_Mod_scavenge_51 rfl rfl ?_
      refine ev_iconst (v := 0) d_Mod_scavenge_52 rfl ?_
      refine ev_inB (fun h2 => ?_)
      refine ev_iastore (h2 := (eLV :: (HD d (HF f (HW w (HM m (HS s (HG g (HR (rSKep r (upd (rKep r) x1.toNatClampNeg 0)) tl))))))))) rfl (inB_of h2) rfl d_Mod_scavenge_53 ?_
      exact ev_pick [0, 1] rfl (e_B_Mod_scavenge_54   (L_Mod_scavenge_41 n) ih (rSKep r (upd (rKep r) x1.toNatClampNeg 0)) x1)
def B_Mod_scavenge_33  (r21 : RS → Int32 → Option (Int32 × RS)) (r : RS) (x1 : Int32) : Option (Int32 × RS) :=
  r21 r (x1 + 1)
theorem e_B_Mod_scavenge_33 {sc : Nat × (Nat → Int32)} {d : DS} {f : FS} {w : WS} {m : MS} {s : SS} {g : GS} {tl : List mn_E}  (r21 : RS → Int32 → Option (Int32 × RS)) (hr21 : ∀ (r : RS) (x1 : Int32), Ev sc 5 84 0 0 M_Mod_scavenge 21 [(0, .ref 12), (1, .int x1)] [] (eLV :: (HD d (HF f (HW w (HM m (HS s (HG g (HR r tl)))))))) (mapR ouI (fun z => (eLV :: (HD d (HF f (HW w (HM m (HS s (HG g (HR z tl))))))))) (r21 r x1))) (r : RS) (x1 : Int32) : Ev sc 5 84 0 0 M_Mod_scavenge 33 [(0, .ref 12), (1, .int x1)] [] (eLV :: (HD d (HF f (HW w (HM m (HS s (HG g (HR r tl)))))))) (mapR ouI (fun z => (eLV :: (HD d (HF f (HW w (HM m (HS s (HG g (HR z tl))))))))) (B_Mod_scavenge_33 r21 r x1)) := by
  unfold B_Mod_scavenge_33
  refine ev_iinc (v := (x1 + 1)) d_Mod_scavenge_33 rfl rfl (by decide) rfl ?_
  refine ev_goto (tgt := 21) d_Mod_scavenge_36 rfl ?_
  exact ev_pick [1, 0] rfl (hr21 r (x1 + 1))
def L_Mod_scavenge_21   : Nat → RS → Int32 → Option (Int32 × RS)
  | 0, _, _ => none
  | n + 1, r, x1 =>
  if 5 ≤ x1 then (L_Mod_scavenge_41   1000 r 1) else (if inB x1 5 then (B_Mod_scavenge_33  (L_Mod_scavenge_21 n) (rSRep r (upd (rRep r) x1.toNatClampNeg 0)) x1) else none)
theorem e_L_Mod_scavenge_21 {sc : Nat × (Nat → Int32)} {d : DS} {f : FS} {w : WS} {m : MS} {s : SS} {g : GS} {tl : List mn_E}    : ∀ (n : Nat) (r : RS) (x1 : Int32), Ev sc 5 84 0 0 M_Mod_scavenge 21 [(0, .ref 12), (1, .int x1)] [] (eLV :: (HD d (HF f (HW w (HM m (HS s (HG g (HR r tl)))))))) (mapR ouI (fun z => (eLV :: (HD d (HF f (HW w (HM m (HS s (HG g (HR z tl))))))))) (L_Mod_scavenge_21   n r x1)) := by
  intro n
  induction n with
  | zero => intro r x1; exact ev_none
  | succ n ih =>
    intro r x1
    rw [L_Mod_scavenge_21]
    refine ev_iload_n d_Mod_scavenge_21 rfl rfl ?_
    refine ev_iconst (v := 5) d_Mod_scavenge_22 rfl ?_
    refine ev_icmp_ge (tgt := 39) d_Mod_scavenge_23 rfl (fun h1 => ?_) (fun h1 => ?_)
    · rw [if_pos h1]
      refine ev_iconst (v := 1) d_Mod_scavenge_39 rfl ?_
      refine ev_istore_n d_Mod_scavenge_40 rfl (by decide) rfl ?_
      exact ev_pick [1, 0] rfl (e_L_Mod_scavenge_41     1000 r 1)
    · rw [if_neg h1]
      refine ev_aload_n d_Mod_scavenge_26 rfl rfl ?_
      refine ev_get (v := .ref 22) gi_Mod (ci := 6) rfl rfl 21 (by decide) gw_1022 rfl d_Mod_scavenge_27 ?_
      refine ev_iload_n d_Mod_scavenge_30 rfl rfl ?_
      refine ev_iconst (v := 0) d_Mod_scavenge_31 rfl ?_
      refine ev_inB (fun h2 => ?_)
      refine ev_iastore (h2 := (eLV :: (HD d (HF f (HW w (HM m (HS s (HG g (HR (rSRep r (upd (rRep r) x1.toNatClampNeg 0)) tl))))))))) rfl (inB_of h2) rfl d_Mod_scavenge_32 ?_
      exact ev_pick [0, 1] rfl (e_B_Mod_scavenge_33   (L_Mod_scavenge_21 n) ih (rSRep r (upd (rRep r) x1.toNatClampNeg 0)) x1)
def B_Mod_scavenge_19   (r : RS) : Option (Int32 × RS) :=
  L_Mod_scavenge_21   1000 r 0
theorem e_B_Mod_scavenge_19 {sc : Nat × (Nat → Int32)} {d : DS} {f : FS} {w : WS} {m : MS} {s : SS} {g : GS} {tl : List mn_E}    (r : RS) : Ev sc 5 84 0 0 M_Mod_scavenge 19 [(0, .ref 12)] [] (eLV :: (HD d (HF f (HW w (HM m (HS s (HG g (HR r tl)))))))) (mapR ouI (fun z => (eLV :: (HD d (HF f (HW w (HM m (HS s (HG g (HR z tl))))))))) (B_Mod_scavenge_19 r)) := by
  unfold B_Mod_scavenge_19
  refine ev_iconst (v := 0) d_Mod_scavenge_19 rfl ?_
  refine ev_istore_n d_Mod_scavenge_20 rfl (by decide) rfl ?_
  exact ev_pick [1, 0] rfl (e_L_Mod_scavenge_21     1000 r 0)
def B_Mod_scavenge_15   (r : RS) : Option (Int32 × RS) :=
  bnd (f_Mod_remember r) (fun q => B_Mod_scavenge_19   q.2)
theorem e_B_Mod_scavenge_15 {sc : Nat × (Nat → Int32)} {d : DS} {f : FS} {w : WS} {m : MS} {s : SS} {g : GS} {tl : List mn_E}    (r : RS) : Ev sc 5 84 0 0 M_Mod_scavenge 15 [(0, .ref 12)] [] (eLV :: (HD d (HF f (HW w (HM m (HS s (HG g (HR r tl)))))))) (mapR ouI (fun z => (eLV :: (HD d (HF f (HW w (HM m (HS s (HG g (HR z tl))))))))) (B_Mod_scavenge_15 r)) := by
  unfold B_Mod_scavenge_15
  refine ev_aload_n d_Mod_scavenge_15 rfl rfl ?_
  refine ev_callB (rc := (f_Mod_remember r)) (ou := ouV) (Hs := (fun z => (eLV :: (HD d (HF f (HW w (HM m (HS s (HG g (HR z tl)))))))))) (inv_V (q := 12) (av := []) (rest := []) rfl (ci := 6) rfl d_Mod_scavenge_16 gw_1259 gw_1261 gw_80 mw_Mod_remember nh_Mod_remember pn_Mod_remember rfl) d_Mod_scavenge_16 pl_Mod_remember (Nat.le_of_ble_eq_true rfl) (Nat.le_of_ble_eq_true rfl) (Nat.le_of_ble_eq_true rfl) (e_f_Mod_remember (tl := tl) (d := d) (f := f) (w := w) (m := m) (s := s) (g := g)  r ) (fun _ => (len1 (lenHD (lenHF (lenHW (lenHM (lenHS (lenHG (lenHR rfl))))))))) (fun v z h1 => ⟨_, rfl, ?_⟩)
  exact ev_pick [0] rfl (e_B_Mod_scavenge_19     z)
def B_Mod_scavenge_10   (r : RS) : Option (Int32 × RS) :=
  B_Mod_scavenge_15   (rSLef r (-1))
theorem e_B_Mod_scavenge_10 {sc : Nat × (Nat → Int32)} {d : DS} {f : FS} {w : WS} {m : MS} {s : SS} {g : GS} {tl : List mn_E}    (r : RS) : Ev sc 5 84 0 0 M_Mod_scavenge 10 [(0, .ref 12)] [] (eLV :: (HD d (HF f (HW w (HM m (HS s (HG g (HR r tl)))))))) (mapR ouI (fun z => (eLV :: (HD d (HF f (HW w (HM m (HS s (HG g (HR z tl))))))))) (B_Mod_scavenge_10 r)) := by
  unfold B_Mod_scavenge_10
  refine ev_aload_n d_Mod_scavenge_10 rfl rfl ?_
  refine ev_iconst (v := -1) d_Mod_scavenge_11 rfl ?_
  refine ev_put (h2 := (eLV :: (HD d (HF f (HW w (HM m (HS s (HG g (HR (rSLef r (-1)) tl))))))))) gi_Mod ft_Mod fo_Mod fn_Mod (ci := 6) rfl rfl 13 (by decide) gw_1014 rfl rfl (fun _ => rfl) (fun _ => rfl) (Nat.le_of_ble_eq_true rfl) rfl d_Mod_scavenge_12 ?_
  exact ev_pick [0] rfl (e_B_Mod_scavenge_15     (rSLef r (-1)))
def B_Mod_scavenge_5   (r : RS) : Option (Int32 × RS) :=
  B_Mod_scavenge_10   (rSDar r 0)
theorem e_B_Mod_scavenge_5 {sc : Nat × (Nat → Int32)} {d : DS} {f : FS} {w : WS} {m : MS} {s : SS} {g : GS} {tl : List mn_E}    (r : RS) : Ev sc 5 84 0 0 M_Mod_scavenge 5 [(0, .ref 12)] [] (eLV :: (HD d (HF f (HW w (HM m (HS s (HG g (HR r tl)))))))) (mapR ouI (fun z => (eLV :: (HD d (HF f (HW w (HM m (HS s (HG g (HR z tl))))))))) (B_Mod_scavenge_5 r)) := by
  unfold B_Mod_scavenge_5
  refine ev_aload_n d_Mod_scavenge_5 rfl rfl ?_
  refine ev_iconst (v := 0) d_Mod_scavenge_6 rfl ?_
  refine ev_put (h2 := (eLV :: (HD d (HF f (HW w (HM m (HS s (HG g (HR (rSDar r 0) tl))))))))) gi_Mod ft_Mod fo_Mod fn_Mod (ci := 6) rfl rfl 12 (by decide) gw_1013 rfl rfl (fun _ => rfl) (fun _ => rfl) (Nat.le_of_ble_eq_true rfl) rfl d_Mod_scavenge_7 ?_
  exact ev_pick [0] rfl (e_B_Mod_scavenge_10     (rSDar r 0))
def f_Mod_scavenge   (r : RS) : Option (Int32 × RS) :=
  B_Mod_scavenge_5   (rSThr r 0)
theorem e_f_Mod_scavenge {sc : Nat × (Nat → Int32)} {d : DS} {f : FS} {w : WS} {m : MS} {s : SS} {g : GS} {tl : List mn_E}    (r : RS) : Ev sc 5 84 0 0 M_Mod_scavenge 0 [(0, .ref 12)] [] (eLV :: (HD d (HF f (HW w (HM m (HS s (HG g (HR r tl)))))))) (mapR ouI (fun z => (eLV :: (HD d (HF f (HW w (HM m (HS s (HG g (HR z tl))))))))) (f_Mod_scavenge r)) := by
  unfold f_Mod_scavenge
  refine ev_aload_n d_Mod_scavenge_0 rfl rfl ?_
  refine ev_iconst (v := 0) d_Mod_scavenge_1 rfl ?_
  refine ev_put (h2 := (eLV :: (HD d (HF f (HW w (HM m (HS s (HG g (HR (rSThr r 0) tl))))))))) gi_Mod ft_Mod fo_Mod fn_Mod (ci := 6) rfl rfl 0 (by decide) gw_1001 rfl rfl (fun _ => rfl) (fun _ => rfl) (Nat.le_of_ble_eq_true rfl) rfl d_Mod_scavenge_2 ?_
  exact ev_pick [0] rfl (e_B_Mod_scavenge_5     (rSThr r 0))
def B_Mod_charge_49   (r : RS) : (Unit × RS) :=
  ((), r)
theorem e_B_Mod_charge_49 {sc : Nat × (Nat → Int32)} {d : DS} {f : FS} {w : WS} {m : MS} {s : SS} {g : GS} {tl : List mn_E}    (r : RS) : Ev sc 1 15 0 0 M_Mod_charge 49 [] [] (eLV :: (HD d (HF f (HW w (HM m (HS s (HG g (HR r tl)))))))) (mapT ouV (fun z => (eLV :: (HD d (HF f (HW w (HM m (HS s (HG g (HR z tl))))))))) (B_Mod_charge_49 r)) := by
  unfold B_Mod_charge_49
  exact ev_vret rfl d_Mod_charge_49
def B_Mod_charge_46   (r : RS) (t1 : Int32) : (Unit × RS) :=
  B_Mod_charge_49   (rSLef r t1)
theorem e_B_Mod_charge_46 {sc : Nat × (Nat → Int32)} {d : DS} {f : FS} {w : WS} {m : MS} {s : SS} {g : GS} {tl : List mn_E}    (r : RS) (t1 : Int32) : Ev sc 1 15 0 0 M_Mod_charge 46 [] [.int t1, .ref 12] (eLV :: (HD d (HF f (HW w (HM m (HS s (HG g (HR r tl)))))))) (mapT ouV (fun z => (eLV :: (HD d (HF f (HW w (HM m (HS s (HG g (HR z tl))))))))) (B_Mod_charge_46 r t1)) := by
  unfold B_Mod_charge_46
  refine ev_put (h2 := (eLV :: (HD d (HF f (HW w (HM m (HS s (HG g (HR (rSLef r t1) tl))))))))) gi_Mod ft_Mod fo_Mod fn_Mod (ci := 6) rfl rfl 13 (by decide) gw_1014 rfl rfl (fun _ => rfl) (fun _ => rfl) (Nat.le_of_ble_eq_true rfl) rfl d_Mod_charge_46 ?_
  exact ev_pick [] rfl (e_B_Mod_charge_49     (rSLef r t1))
def B_Mod_charge_30   (r : RS) (x1 : Int32) : (Unit × RS) :=
  if ¬ (rThr r) = 0 then (B_Mod_charge_46   r (rLef r)) else (B_Mod_charge_46   r x1)
theorem e_B_Mod_charge_30 {sc : Nat × (Nat → Int32)} {d : DS} {f : FS} {w : WS} {m : MS} {s : SS} {g : GS} {tl : List mn_E}    (r : RS) (x1 : Int32) : Ev sc 1 15 0 0 M_Mod_charge 30 [(0, .ref 12), (1, .int x1)] [] (eLV :: (HD d (HF f (HW w (HM m (HS s (HG g (HR r tl)))))))) (mapT ouV (fun z => (eLV :: (HD d (HF f (HW w (HM m (HS s (HG g (HR z tl))))))))) (B_Mod_charge_30 r x1)) := by
  unfold B_Mod_charge_30
  refine ev_aload_n d_Mod_charge_30 rfl rfl ?_
  refine ev_aload_n d_Mod_charge_31 rfl rfl ?_
  refine ev_get (v := .int (rThr r)) gi_Mod (ci := 6) rfl rfl 0 (by decide) gw_1001 rfl d_Mod_charge_32 ?_
  refine ev_if_ne (tgt := 42) d_Mod_charge_35 rfl (fun h1 => ?_) (fun h1 => ?_)
  · rw [if_pos h1]
    refine ev_aload_n d_Mod_charge_42 rfl rfl ?_
    refine ev_get (v := .int (rLef r)) gi_Mod (ci := 6) rfl rfl 13 (by decide) gw_1014 rfl d_Mod_charge_43 ?_
    exact ev_pick [] rfl (e_B_Mod_charge_46     r (rLef r))
  · rw [if_neg h1]
    refine ev_iload_n d_Mod_charge_38 rfl rfl ?_
    refine ev_goto (tgt := 46) d_Mod_charge_39 rfl ?_
    exact ev_pick [] rfl (e_B_Mod_charge_46     r x1)
def B_Mod_charge_27   (r : RS) (x1 : Int32) (t1 : Int32) : (Unit × RS) :=
  B_Mod_charge_30   (rSThr r t1) x1
theorem e_B_Mod_charge_27 {sc : Nat × (Nat → Int32)} {d : DS} {f : FS} {w : WS} {m : MS} {s : SS} {g : GS} {tl : List mn_E}    (r : RS) (x1 : Int32) (t1 : Int32) : Ev sc 1 15 0 0 M_Mod_charge 27 [(0, .ref 12), (1, .int x1)] [.int t1, .ref 12] (eLV :: (HD d (HF f (HW w (HM m (HS s (HG g (HR r tl)))))))) (mapT ouV (fun z => (eLV :: (HD d (HF f (HW w (HM m (HS s (HG g (HR z tl))))))))) (B_Mod_charge_27 r x1 t1)) := by
  unfold B_Mod_charge_27
  refine ev_put (h2 := (eLV :: (HD d (HF f (HW w (HM m (HS s (HG g (HR (rSThr r t1) tl))))))))) gi_Mod ft_Mod fo_Mod fn_Mod (ci := 6) rfl rfl 0 (by decide) gw_1001 rfl rfl (fun _ => rfl) (fun _ => rfl) (Nat.le_of_ble_eq_true rfl) rfl d_Mod_charge_27 ?_
  exact ev_pick [0, 1] rfl (e_B_Mod_charge_30     (rSThr r t1) x1)
def f_Mod_charge   (r : RS) (x1 : Int32) : (Unit × RS) :=
  if ¬ ((f_Mod_in x1 0 99).1) = 0 then (if (rDar r) = 0 then (B_Mod_charge_27   r x1 0) else (B_Mod_charge_27   r x1 2)) else (B_Mod_charge_27   r x1 1)
theorem e_f_Mod_charge {sc : Nat × (Nat → Int32)} {d : DS} {f : FS} {w : WS} {m : MS} {s : SS} {g : GS} {tl : List mn_E}    (r : RS) (x1 : Int32) : Ev sc 1 15 0 0 M_Mod_charge 0 [(0, .ref 12), (1, .int x1)] [] (eLV :: (HD d (HF f (HW w (HM m (HS s (HG g (HR r tl)))))))) (mapT ouV (fun z => (eLV :: (HD d (HF f (HW w (HM m (HS s (HG g (HR z tl))))))))) (f_Mod_charge r x1)) := by
  unfold f_Mod_charge
  refine ev_aload_n d_Mod_charge_0 rfl rfl ?_
  refine ev_iload_n d_Mod_charge_1 rfl rfl ?_
  refine ev_iconst (v := 0) d_Mod_charge_2 rfl ?_
  refine ev_bipush (v := 99) d_Mod_charge_3 rfl ?_
  refine ev_callr (Mc := M_Mod_in) (v := some (.int ((f_Mod_in x1 0 99).1))) (h1 := (eLV :: (HD d (HF f (HW w (HM m (HS s (HG g (HR r tl))))))))) (k2 := 0) (n2 := 0) (inv_S (av := [.int x1, .int 0, .int 99]) (rest := [.ref 12]) d_Mod_charge_5 gw_1108 gw_1109 gw_108 mw_Mod_in nh_Mod_in pn_Mod_in rfl) d_Mod_charge_5 pl_Mod_in (Nat.le_of_ble_eq_true rfl) (Nat.le_of_ble_eq_true rfl) (Nat.le_of_ble_eq_true rfl) rfl rfl (e_f_Mod_in (hh := (eLV :: (HD d (HF f (HW w (HM m (HS s (HG g (HR r tl)))))))))   x1 0 99) (Or.inl (len1 (lenHD (lenHF (lenHW (lenHM (lenHS (lenHG (lenHR rfl))))))))) ?_
  refine ev_if_ne (tgt := 15) d_Mod_charge_8 rfl (fun h1 => ?_) (fun h1 => ?_)
  · rw [if_pos h1]
    refine ev_aload_n d_Mod_charge_15 rfl rfl ?_
    refine ev_get (v := .int (rDar r)) gi_Mod (ci := 6) rfl rfl 12 (by decide) gw_1013 rfl d_Mod_charge_16 ?_
    refine ev_if_eq (tgt := 26) d_Mod_charge_19 rfl (fun h2 => ?_) (fun h2 => ?_)
    · rw [if_pos h2]
      refine ev_iconst (v := 0) d_Mod_charge_26 rfl ?_
      exact ev_pick [0, 1] rfl (e_B_Mod_charge_27     r x1 0)
    · rw [if_neg h2]
      refine ev_iconst (v := 2) d_Mod_charge_22 rfl ?_
      refine ev_goto (tgt := 27) d_Mod_charge_23 rfl ?_
      exact ev_pick [0, 1] rfl (e_B_Mod_charge_27     r x1 2)
  · rw [if_neg h1]
    refine ev_iconst (v := 1) d_Mod_charge_11 rfl ?_
    refine ev_goto (tgt := 27) d_Mod_charge_12 rfl ?_
    exact ev_pick [0, 1] rfl (e_B_Mod_charge_27     r x1 1)
def f_Mod_isSector   (x0 : Int32) : (Int32 × Unit) :=
  ((vp_nar .boolean ((f_Mod_in x0 0 39).1)), ())
theorem e_f_Mod_isSector {sc : Nat × (Nat → Int32)} {hh : List mn_E}    (x0 : Int32) : Ev sc 1 14 0 0 M_Mod_isSector 0 [(0, .int x0)] [] hh (mapT ouI (fun z => hh) (f_Mod_isSector x0)) := by
  unfold f_Mod_isSector
  refine ev_iload_n d_Mod_isSector_0 rfl rfl ?_
  refine ev_iconst (v := 0) d_Mod_isSector_1 rfl ?_
  refine ev_bipush (v := 39) d_Mod_isSector_2 rfl ?_
  refine ev_callr (Mc := M_Mod_in) (v := some (.int ((f_Mod_in x0 0 39).1))) (h1 := hh) (k2 := 0) (n2 := 0) (inv_S (av := [.int x0, .int 0, .int 39]) (rest := []) d_Mod_isSector_4 gw_1108 gw_1109 gw_108 mw_Mod_in nh_Mod_in pn_Mod_in rfl) d_Mod_isSector_4 pl_Mod_in (Nat.le_of_ble_eq_true rfl) (Nat.le_of_ble_eq_true rfl) (Nat.le_of_ble_eq_true rfl) rfl rfl (e_f_Mod_in (hh := hh)   x0 0 39) (Or.inl rfl) ?_
  exact ev_zretN rfl d_Mod_isSector_7
def B_Mod_spoil_40   (r : RS) : Option (Int32 × RS) :=
  some (0, r)
theorem e_B_Mod_spoil_40 {sc : Nat × (Nat → Int32)} {d : DS} {f : FS} {w : WS} {m : MS} {s : SS} {g : GS} {tl : List mn_E}    (r : RS) : Ev sc 2 26 0 0 M_Mod_spoil 40 [] [] (eLV :: (HD d (HF f (HW w (HM m (HS s (HG g (HR r tl)))))))) (mapR ouI (fun z => (eLV :: (HD d (HF f (HW w (HM m (HS s (HG g (HR z tl))))))))) (B_Mod_spoil_40 r)) := by
  unfold B_Mod_spoil_40
  refine ev_iconst (v := 0) d_Mod_spoil_40 rfl ?_
  exact ev_zret (ty := .boolean) rfl rfl d_Mod_spoil_41
def B_Mod_spoil_58   (r : RS) : Option (Int32 × RS) :=
  some (1, r)
theorem e_B_Mod_spoil_58 {sc : Nat × (Nat → Int32)} {d : DS} {f : FS} {w : WS} {m : MS} {s : SS} {g : GS} {tl : List mn_E}    (r : RS) : Ev sc 2 26 0 0 M_Mod_spoil 58 [] [] (eLV :: (HD d (HF f (HW w (HM m (HS s (HG g (HR r tl)))))))) (mapR ouI (fun z => (eLV :: (HD d (HF f (HW w (HM m (HS s (HG g (HR z tl))))))))) (B_Mod_spoil_58 r)) := by
  unfold B_Mod_spoil_58
  refine ev_iconst (v := 1) d_Mod_spoil_58 rfl ?_
  exact ev_zret (ty := .boolean) rfl rfl d_Mod_spoil_59
def B_Mod_spoil_5   (r : RS) (x1 : Int32) (x2 : Int32) (x3 : Int32) : Option (Int32 × RS) :=
  if ((f_Mod_isSector x1).1) = 0 then (B_Mod_spoil_40   r) else (if ((f_Mod_in x2 0 7).1) = 0 then (B_Mod_spoil_40   r) else (if inB x1 40 then (if ¬ (rBad r x1.toNatClampNeg) = 0 then (B_Mod_spoil_40   r) else (if inB x1 40 then (if ¬ (rSer r x1.toNatClampNeg) = 0 then (if inB ((8 * x1) + x2) 320 then (B_Mod_spoil_58   (rSByt r (upd (rByt r) ((8 * x1) + x2).toNatClampNeg (x3 &&& 255)))) else none) else (B_Mod_spoil_40   r)) else none)) else none))
theorem e_B_Mod_spoil_5 {sc : Nat × (Nat → Int32)} {d : DS} {f : FS} {w : WS} {m : MS} {s : SS} {g : GS} {tl : List mn_E}    (r : RS) (x1 : Int32) (x2 : Int32) (x3 : Int32) : Ev sc 2 26 0 0 M_Mod_spoil 5 [(0, .ref 12), (1, .int x1), (2, .int x2), (3, .int x3)] [] (eLV :: (HD d (HF f (HW w (HM m (HS s (HG g (HR r tl)))))))) (mapR ouI (fun z => (eLV :: (HD d (HF f (HW w (HM m (HS s (HG g (HR z tl))))))))) (B_Mod_spoil_5 r x1 x2 x3)) := by
  unfold B_Mod_spoil_5
  refine ev_iload_n d_Mod_spoil_5 rfl rfl ?_
  refine ev_callr (Mc := M_Mod_isSector) (v := some (.int ((f_Mod_isSector x1).1))) (h1 := (eLV :: (HD d (HF f (HW w (HM m (HS s (HG g (HR r tl))))))))) (k2 := 0) (n2 := 0) (inv_S (av := [.int x1]) (rest := []) d_Mod_spoil_6 gw_1352 gw_1353 gw_108 mw_Mod_isSector nh_Mod_isSector pn_Mod_isSector rfl) d_Mod_spoil_6 pl_Mod_isSector (Nat.le_of_ble_eq_true rfl) (Nat.le_of_ble_eq_true rfl) (Nat.le_of_ble_eq_true rfl) rfl rfl (e_f_Mod_isSector (hh := (eLV :: (HD d (HF f (HW w (HM m (HS s (HG g (HR r tl)))))))))   x1) (Or.inl (len1 (lenHD (lenHF (lenHW (lenHM (lenHS (lenHG (lenHR rfl))))))))) ?_
  refine ev_if_eq (tgt := 40) d_Mod_spoil_9 rfl (fun h1 => ?_) (fun h1 => ?_)
  · rw [if_pos h1]
    exact ev_pick [] rfl (e_B_Mod_spoil_40     r)
  · rw [if_neg h1]
    refine ev_iload_n d_Mod_spoil_12 rfl rfl ?_
    refine ev_iconst (v := 0) d_Mod_spoil_13 rfl ?_
    refine ev_bipush (v := 7) d_Mod_spoil_14 rfl ?_
    refine ev_callr (Mc := M_Mod_in) (v := some (.int ((f_Mod_in x2 0 7).1))) (h1 := (eLV :: (HD d (HF f (HW w (HM m (HS s (HG g (HR r tl))))))))) (k2 := 0) (n2 := 0) (inv_S (av := [.int x2, .int 0, .int 7]) (rest := []) d_Mod_spoil_16 gw_1108 gw_1109 gw_108 mw_Mod_in nh_Mod_in pn_Mod_in rfl) d_Mod_spoil_16 pl_Mod_in (Nat.le_of_ble_eq_true rfl) (Nat.le_of_ble_eq_true rfl) (Nat.le_of_ble_eq_true rfl) rfl rfl (e_f_Mod_in (hh := (eLV :: (HD d (HF f (HW w (HM m (HS s (HG g (HR r tl)))))))))   x2 0 7) (Or.inl (len1 (lenHD (lenHF (lenHW (lenHM (lenHS (lenHG (lenHR rfl))))))))) ?_
    refine ev_if_eq (tgt := 40) d_Mod_spoil_19 rfl (fun h2 => ?_) (fun h2 => ?_)
    · rw [if_pos h2]
      exact ev_pick [] rfl (e_B_Mod_spoil_40     r)
    · rw [if_neg h2]
      refine ev_aload_n d_Mod_spoil_22 rfl rfl ?_
      refine ev_get (v := .ref 19) gi_Mod (ci := 6) rfl rfl 8 (by decide) gw_1009 rfl d_Mod_spoil_23 ?_
      refine ev_iload_n d_Mod_spoil_26 rfl rfl ?_
      refine ev_inB (fun h3 => ?_)
      refine ev_zaload rfl (inB_of h3) d_Mod_spoil_27 ?_
      refine ev_if_ne (tgt := 40) d_Mod_spoil_28 rfl (fun h4 => ?_) (fun h4 => ?_)
      · rw [if_pos h4]
        exact ev_pick [] rfl (e_B_Mod_spoil_40     r)
      · rw [if_neg h4]
        refine ev_aload_n d_Mod_spoil_31 rfl rfl ?_
        refine ev_get (v := .ref 13) gi_Mod (ci := 6) rfl rfl 2 (by decide) gw_1003 rfl d_Mod_spoil_32 ?_
        refine ev_iload_n d_Mod_spoil_35 rfl rfl ?_
        refine ev_inB (fun h5 => ?_)
        refine ev_iaload rfl (inB_of h5) d_Mod_spoil_36 ?_
        refine ev_if_ne (tgt := 42) d_Mod_spoil_37 rfl (fun h6 => ?_) (fun h6 => ?_)
        · rw [if_pos h6]
          refine ev_aload_n d_Mod_spoil_42 rfl rfl ?_
          refine ev_get (v := .ref 18) gi_Mod (ci := 6) rfl rfl 7 (by decide) gw_1008 rfl d_Mod_spoil_43 ?_
          refine ev_bipush (v := 8) d_Mod_spoil_46 rfl ?_
          refine ev_iload_n d_Mod_spoil_48 rfl rfl ?_
          refine ev_imul d_Mod_spoil_49 ?_
          refine ev_iload_n d_Mod_spoil_50 rfl rfl ?_
          refine ev_iadd d_Mod_spoil_51 ?_
          refine ev_iload_n d_Mod_spoil_52 rfl rfl ?_
          refine ev_sipush (v := 255) d_Mod_spoil_53 rfl ?_
          refine ev_iand d_Mod_spoil_56 ?_
          refine ev_inB (fun h7 => ?_)
          refine ev_iastore (h2 := (eLV :: (HD d (HF f (HW w (HM m (HS s (HG g (HR (rSByt r (upd (rByt r) ((8 * x1) + x2).toNatClampNeg (x3 &&& 255))) tl))))))))) rfl (inB_of h7) rfl d_Mod_spoil_57 ?_
          exact ev_pick [] rfl (e_B_Mod_spoil_58     (rSByt r (upd (rByt r) ((8 * x1) + x2).toNatClampNeg (x3 &&& 255))))
        · rw [if_neg h6]
          exact ev_pick [] rfl (e_B_Mod_spoil_40     r)
def f_Mod_spoil   (r : RS) (x1 : Int32) (x2 : Int32) (x3 : Int32) : Option (Int32 × RS) :=
  B_Mod_spoil_5   (rSThr r 0) x1 x2 x3
theorem e_f_Mod_spoil {sc : Nat × (Nat → Int32)} {d : DS} {f : FS} {w : WS} {m : MS} {s : SS} {g : GS} {tl : List mn_E}    (r : RS) (x1 : Int32) (x2 : Int32) (x3 : Int32) : Ev sc 2 26 0 0 M_Mod_spoil 0 [(0, .ref 12), (1, .int x1), (2, .int x2), (3, .int x3)] [] (eLV :: (HD d (HF f (HW w (HM m (HS s (HG g (HR r tl)))))))) (mapR ouI (fun z => (eLV :: (HD d (HF f (HW w (HM m (HS s (HG g (HR z tl))))))))) (f_Mod_spoil r x1 x2 x3)) := by
  unfold f_Mod_spoil
  refine ev_aload_n d_Mod_spoil_0 rfl rfl ?_
  refine ev_iconst (v := 0) d_Mod_spoil_1 rfl ?_
  refine ev_put (h2 := (eLV :: (HD d (HF f (HW w (HM m (HS s (HG g (HR (rSThr r 0) tl))))))))) gi_Mod ft_Mod fo_Mod fn_Mod (ci := 6) rfl rfl 0 (by decide) gw_1001 rfl rfl (fun _ => rfl) (fun _ => rfl) (Nat.le_of_ble_eq_true rfl) rfl d_Mod_spoil_2 ?_
  exact ev_pick [0, 1, 2, 3] rfl (e_B_Mod_spoil_5     (rSThr r 0) x1 x2 x3)
def B_Mod_scratch_21   (r : RS) : Option (Int32 × RS) :=
  some (0, r)
theorem e_B_Mod_scratch_21 {sc : Nat × (Nat → Int32)} {d : DS} {f : FS} {w : WS} {m : MS} {s : SS} {g : GS} {tl : List mn_E}    (r : RS) : Ev sc 2 26 0 0 M_Mod_scratch 21 [] [] (eLV :: (HD d (HF f (HW w (HM m (HS s (HG g (HR r tl)))))))) (mapR ouI (fun z => (eLV :: (HD d (HF f (HW w (HM m (HS s (HG g (HR z tl))))))))) (B_Mod_scratch_21 r)) := by
  unfold B_Mod_scratch_21
  refine ev_iconst (v := 0) d_Mod_scratch_21 rfl ?_
  exact ev_zret (ty := .boolean) rfl rfl d_Mod_scratch_22
def B_Mod_scratch_30   (r : RS) : Option (Int32 × RS) :=
  some (1, r)
theorem e_B_Mod_scratch_30 {sc : Nat × (Nat → Int32)} {d : DS} {f : FS} {w : WS} {m : MS} {s : SS} {g : GS} {tl : List mn_E}    (r : RS) : Ev sc 2 26 0 0 M_Mod_scratch 30 [] [] (eLV :: (HD d (HF f (HW w (HM m (HS s (HG g (HR r tl)))))))) (mapR ouI (fun z => (eLV :: (HD d (HF f (HW w (HM m (HS s (HG g (HR z tl))))))))) (B_Mod_scratch_30 r)) := by
  unfold B_Mod_scratch_30
  refine ev_iconst (v := 1) d_Mod_scratch_30 rfl ?_
  exact ev_zret (ty := .boolean) rfl rfl d_Mod_scratch_31
def B_Mod_scratch_5   (r : RS) (x1 : Int32) : Option (Int32 × RS) :=
  if ((f_Mod_isSector x1).1) = 0 then (B_Mod_scratch_21   r) else (if inB x1 40 then (if (rBad r x1.toNatClampNeg) = 0 then (if inB x1 40 then (B_Mod_scratch_30   (rSBad r (upd (rBad r) x1.toNatClampNeg (vp_nar .boolean 1)))) else none) else (B_Mod_scratch_21   r)) else none)
theorem e_B_Mod_scratch_5 {sc : Nat × (Nat → Int32)} {d : DS} {f : FS} {w : WS} {m : MS} {s : SS} {g : GS} {tl : List mn_E}    (r : RS) (x1 : Int32) : Ev sc 2 26 0 0 M_Mod_scratch 5 [(0, .ref 12), (1, .int x1)] [] (eLV :: (HD d (HF f (HW w (HM m (HS s (HG g (HR r tl)))))))) (mapR ouI (fun z => (eLV :: (HD d (HF f (HW w (HM m (HS s (HG g (HR z tl))))))))) (B_Mod_scratch_5 r x1)) := by
  unfold B_Mod_scratch_5
  refine ev_iload_n d_Mod_scratch_5 rfl rfl ?_
  refine ev_callr (Mc := M_Mod_isSector) (v := some (.int ((f_Mod_isSector x1).1))) (h1 := (eLV :: (HD d (HF f (HW w (HM m (HS s (HG g (HR r tl))))))))) (k2 := 0) (n2 := 0) (inv_S (av := [.int x1]) (rest := []) d_Mod_scratch_6 gw_1352 gw_1353 gw_108 mw_Mod_isSector nh_Mod_isSector pn_Mod_isSector rfl) d_Mod_scratch_6 pl_Mod_isSector (Nat.le_of_ble_eq_true rfl) (Nat.le_of_ble_eq_true rfl) (Nat.le_of_ble_eq_true rfl) rfl rfl (e_f_Mod_isSector (hh := (eLV :: (HD d (HF f (HW w (HM m (HS s (HG g (HR r tl)))))))))   x1) (Or.inl (len1 (lenHD (lenHF (lenHW (lenHM (lenHS (lenHG (lenHR rfl))))))))) ?_
  refine ev_if_eq (tgt := 21) d_Mod_scratch_9 rfl (fun h1 => ?_) (fun h1 => ?_)
  · rw [if_pos h1]
    exact ev_pick [] rfl (e_B_Mod_scratch_21     r)
  · rw [if_neg h1]
    refine ev_aload_n d_Mod_scratch_12 rfl rfl ?_
    refine ev_get (v := .ref 19) gi_Mod (ci := 6) rfl rfl 8 (by decide) gw_1009 rfl d_Mod_scratch_13 ?_
    refine ev_iload_n d_Mod_scratch_16 rfl rfl ?_
    refine ev_inB (fun h2 => ?_)
    refine ev_zaload rfl (inB_of h2) d_Mod_scratch_17 ?_
    refine ev_if_eq (tgt := 23) d_Mod_scratch_18 rfl (fun h3 => ?_) (fun h3 => ?_)
    · rw [if_pos h3]
      refine ev_aload_n d_Mod_scratch_23 rfl rfl ?_
      refine ev_get (v := .ref 19) gi_Mod (ci := 6) rfl rfl 8 (by decide) gw_1009 rfl d_Mod_scratch_24 ?_
      refine ev_iload_n d_Mod_scratch_27 rfl rfl ?_
      refine ev_iconst (v := 1) d_Mod_scratch_28 rfl ?_
      refine ev_inB (fun h4 => ?_)
      refine ev_zastore (h2 := (eLV :: (HD d (HF f (HW w (HM m (HS s (HG g (HR (rSBad r (upd (rBad r) x1.toNatClampNeg (vp_nar .boolean 1))) tl))))))))) rfl (inB_of h4) rfl d_Mod_scratch_29 ?_
      exact ev_pick [] rfl (e_B_Mod_scratch_30     (rSBad r (upd (rBad r) x1.toNatClampNeg (vp_nar .boolean 1))))
    · rw [if_neg h3]
      exact ev_pick [] rfl (e_B_Mod_scratch_21     r)
def f_Mod_scratch   (r : RS) (x1 : Int32) : Option (Int32 × RS) :=
  B_Mod_scratch_5   (rSThr r 0) x1
theorem e_f_Mod_scratch {sc : Nat × (Nat → Int32)} {d : DS} {f : FS} {w : WS} {m : MS} {s : SS} {g : GS} {tl : List mn_E}    (r : RS) (x1 : Int32) : Ev sc 2 26 0 0 M_Mod_scratch 0 [(0, .ref 12), (1, .int x1)] [] (eLV :: (HD d (HF f (HW w (HM m (HS s (HG g (HR r tl)))))))) (mapR ouI (fun z => (eLV :: (HD d (HF f (HW w (HM m (HS s (HG g (HR z tl))))))))) (f_Mod_scratch r x1)) := by
  unfold f_Mod_scratch
  refine ev_aload_n d_Mod_scratch_0 rfl rfl ?_
  refine ev_iconst (v := 0) d_Mod_scratch_1 rfl ?_
  refine ev_put (h2 := (eLV :: (HD d (HF f (HW w (HM m (HS s (HG g (HR (rSThr r 0) tl))))))))) gi_Mod ft_Mod fo_Mod fn_Mod (ci := 6) rfl rfl 0 (by decide) gw_1001 rfl rfl (fun _ => rfl) (fun _ => rfl) (Nat.le_of_ble_eq_true rfl) rfl d_Mod_scratch_2 ?_
  exact ev_pick [0, 1] rfl (e_B_Mod_scratch_5     (rSThr r 0) x1)
def B_Mod_ghost_45   (r : RS) : Option (Int32 × RS) :=
  some (0, r)
theorem e_B_Mod_ghost_45 {sc : Nat × (Nat → Int32)} {d : DS} {f : FS} {w : WS} {m : MS} {s : SS} {g : GS} {tl : List mn_E}    (r : RS) : Ev sc 2 26 0 0 M_Mod_ghost 45 [] [] (eLV :: (HD d (HF f (HW w (HM m (HS s (HG g (HR r tl)))))))) (mapR ouI (fun z => (eLV :: (HD d (HF f (HW w (HM m (HS s (HG g (HR z tl))))))))) (B_Mod_ghost_45 r)) := by
  unfold B_Mod_ghost_45
  refine ev_iconst (v := 0) d_Mod_ghost_45 rfl ?_
  exact ev_zret (ty := .boolean) rfl rfl d_Mod_ghost_46
def B_Mod_ghost_124  (r96 : RS → Int32 → Int32 → Int32 → Option (Int32 × RS)) (r : RS) (x1 : Int32) (x2 : Int32) (x3 : Int32) : Option (Int32 × RS) :=
  r96 r x1 x2 (x3 + 1)
theorem e_B_Mod_ghost_124 {sc : Nat × (Nat → Int32)} {d : DS} {f : FS} {w : WS} {m : MS} {s : SS} {g : GS} {tl : List mn_E}  (r96 : RS → Int32 → Int32 → Int32 → Option (Int32 × RS)) (hr96 : ∀ (r : RS) (x1 : Int32) (x2 : Int32) (x3 : Int32), Ev sc 2 26 0 0 M_Mod_ghost 96 [(0, .ref 12), (1, .int x1), (2, .int x2), (3, .int x3)] [] (eLV :: (HD d (HF f (HW w (HM m (HS s (HG g (HR r tl)))))))) (mapR ouI (fun z => (eLV :: (HD d (HF f (HW w (HM m (HS s (HG g (HR z tl))))))))) (r96 r x1 x2 x3))) (r : RS) (x1 : Int32) (x2 : Int32) (x3 : Int32) : Ev sc 2 26 0 0 M_Mod_ghost 124 [(0, .ref 12), (1, .int x1), (2, .int x2), (3, .int x3)] [] (eLV :: (HD d (HF f (HW w (HM m (HS s (HG g (HR r tl)))))))) (mapR ouI (fun z => (eLV :: (HD d (HF f (HW w (HM m (HS s (HG g (HR z tl))))))))) (B_Mod_ghost_124 r96 r x1 x2 x3)) := by
  unfold B_Mod_ghost_124
  refine ev_iinc (v := (x3 + 1)) d_Mod_ghost_124 rfl rfl (by decide) rfl ?_
  refine ev_goto (tgt := 96) d_Mod_ghost_127 rfl ?_
  exact ev_pick [1, 2, 3, 0] rfl (hr96 r x1 x2 (x3 + 1))
def L_Mod_ghost_96   : Nat → RS → Int32 → Int32 → Int32 → Option (Int32 × RS)
  | 0, _, _, _, _ => none
  | n + 1, r, x1, x2, x3 =>
  if 8 ≤ x3 then (some (1, r)) else (if inB ((8 * x1) + x3) 320 then (if inB ((8 * x2) + x3) 320 then (B_Mod_ghost_124  (L_Mod_ghost_96 n) (rSByt r (upd (rByt r) ((8 * x2) + x3).toNatClampNeg (rByt r ((8 * x1) + x3).toNatClampNeg))) x1 x2 x3) else none) else none)
theorem e_L_Mod_ghost_96 {sc : Nat × (Nat → Int32)} {d : DS} {f : FS} {w : WS} {m : MS} {s : SS} {g : GS} {tl : List mn_E}    : ∀ (n : Nat) (r : RS) (x1 : Int32) (x2 : Int32) (x3 : Int32), Ev sc 2 26 0 0 M_Mod_ghost 96 [(0, .ref 12), (1, .int x1), (2, .int x2), (3, .int x3)] [] (eLV :: (HD d (HF f (HW w (HM m (HS s (HG g (HR r tl)))))))) (mapR ouI (fun z => (eLV :: (HD d (HF f (HW w (HM m (HS s (HG g (HR z tl))))))))) (L_Mod_ghost_96   n r x1 x2 x3)) := by
  intro n
  induction n with
  | zero => intro r x1 x2 x3; exact ev_none
  | succ n ih =>
    intro r x1 x2 x3
    rw [L_Mod_ghost_96]
    refine ev_iload_n d_Mod_ghost_96 rfl rfl ?_
    refine ev_bipush (v := 8) d_Mod_ghost_97 rfl ?_
    refine ev_icmp_ge (tgt := 130) d_Mod_ghost_99 rfl (fun h1 => ?_) (fun h1 => ?_)
    · rw [if_pos h1]
      refine ev_iconst (v := 1) d_Mod_ghost_130 rfl ?_
      exact ev_zret (ty := .boolean) rfl rfl d_Mod_ghost_131
    · rw [if_neg h1]
      refine ev_aload_n d_Mod_ghost_102 rfl rfl ?_
      refine ev_get (v := .ref 18) gi_Mod (ci := 6) rfl rfl 7 (by decide) gw_1008 rfl d_Mod_ghost_103 ?_
      refine ev_bipush (v := 8) d_Mod_ghost_106 rfl ?_
      refine ev_iload_n d_Mod_ghost_108 rfl rfl ?_
      refine ev_imul d_Mod_ghost_109 ?_
      refine ev_iload_n d_Mod_ghost_110 rfl rfl ?_
      refine ev_iadd d_Mod_ghost_111 ?_
      refine ev_aload_n d_Mod_ghost_112 rfl rfl ?_
      refine ev_get (v := .ref 18) gi_Mod (ci := 6) rfl rfl 7 (by decide) gw_1008 rfl d_Mod_ghost_113 ?_
      refine ev_bipush (v := 8) d_Mod_ghost_116 rfl ?_
      refine ev_iload_n d_Mod_ghost_118 rfl rfl ?_
      refine ev_imul d_Mod_ghost_119 ?_
      refine ev_iload_n d_Mod_ghost_120 rfl rfl ?_
      refine ev_iadd d_Mod_ghost_121 ?_
      refine ev_inB (fun h2 => ?_)
      refine ev_iaload rfl (inB_of h2) d_Mod_ghost_122 ?_
      refine ev_inB (fun h3 => ?_)
      refine ev_iastore (h2 := (eLV :: (HD d (HF f (HW w (HM m (HS s (HG g (HR (rSByt r (upd (rByt r) ((8 * x2) + x3).toNatClampNeg (rByt r ((8 * x1) + x3).toNatClampNeg))) tl))))))))) rfl (inB_of h3) rfl d_Mod_ghost_123 ?_
      exact ev_pick [0, 1, 2, 3] rfl (e_B_Mod_ghost_124   (L_Mod_ghost_96 n) ih (rSByt r (upd (rByt r) ((8 * x2) + x3).toNatClampNeg (rByt r ((8 * x1) + x3).toNatClampNeg))) x1 x2 x3)
def B_Mod_ghost_94   (r : RS) (x1 : Int32) (x2 : Int32) : Option (Int32 × RS) :=
  L_Mod_ghost_96   1000 r x1 x2 0
theorem e_B_Mod_ghost_94 {sc : Nat × (Nat → Int32)} {d : DS} {f : FS} {w : WS} {m : MS} {s : SS} {g : GS} {tl : List mn_E}    (r : RS) (x1 : Int32) (x2 : Int32) : Ev sc 2 26 0 0 M_Mod_ghost 94 [(0, .ref 12), (1, .int x1), (2, .int x2)] [] (eLV :: (HD d (HF f (HW w (HM m (HS s (HG g (HR r tl)))))))) (mapR ouI (fun z => (eLV :: (HD d (HF f (HW w (HM m (HS s (HG g (HR z tl))))))))) (B_Mod_ghost_94 r x1 x2)) := by
  unfold B_Mod_ghost_94
  refine ev_iconst (v := 0) d_Mod_ghost_94 rfl ?_
  refine ev_istore_n d_Mod_ghost_95 rfl (by decide) rfl ?_
  exact ev_pick [1, 2, 3, 0] rfl (e_L_Mod_ghost_96     1000 r x1 x2 0)
def B_Mod_ghost_82   (r : RS) (x1 : Int32) (x2 : Int32) : Option (Int32 × RS) :=
  if inB x1 40 then (if inB x2 40 then (B_Mod_ghost_94   (rSBef r (upd (rBef r) x2.toNatClampNeg (rBef r x1.toNatClampNeg))) x1 x2) else none) else none
theorem e_B_Mod_ghost_82 {sc : Nat × (Nat → Int32)} {d : DS} {f : FS} {w : WS} {m : MS} {s : SS} {g : GS} {tl : List mn_E}    (r : RS) (x1 : Int32) (x2 : Int32) : Ev sc 2 26 0 0 M_Mod_ghost 82 [(0, .ref 12), (1, .int x1), (2, .int x2)] [] (eLV :: (HD d (HF f (HW w (HM m (HS s (HG g (HR r tl)))))))) (mapR ouI (fun z => (eLV :: (HD d (HF f (HW w (HM m (HS s (HG g (HR z tl))))))))) (B_Mod_ghost_82 r x1 x2)) := by
  unfold B_Mod_ghost_82
  refine ev_aload_n d_Mod_ghost_82 rfl rfl ?_
  refine ev_get (v := .ref 17) gi_Mod (ci := 6) rfl rfl 6 (by decide) gw_1007 rfl d_Mod_ghost_83 ?_
  refine ev_iload_n d_Mod_ghost_86 rfl rfl ?_
  refine ev_aload_n d_Mod_ghost_87 rfl rfl ?_
  refine ev_get (v := .ref 17) gi_Mod (ci := 6) rfl rfl 6 (by decide) gw_1007 rfl d_Mod_ghost_88 ?_
  refine ev_iload_n d_Mod_ghost_91 rfl rfl ?_
  refine ev_inB (fun h1 => ?_)
  refine ev_iaload rfl (inB_of h1) d_Mod_ghost_92 ?_
  refine ev_inB (fun h2 => ?_)
  refine ev_iastore (h2 := (eLV :: (HD d (HF f (HW w (HM m (HS s (HG g (HR (rSBef r (upd (rBef r) x2.toNatClampNeg (rBef r x1.toNatClampNeg))) tl))))))))) rfl (inB_of h2) rfl d_Mod_ghost_93 ?_
  exact ev_pick [0, 1, 2] rfl (e_B_Mod_ghost_94     (rSBef r (upd (rBef r) x2.toNatClampNeg (rBef r x1.toNatClampNeg))) x1 x2)
def B_Mod_ghost_70   (r : RS) (x1 : Int32) (x2 : Int32) : Option (Int32 × RS) :=
  if inB x1 40 then (if inB x2 40 then (B_Mod_ghost_82   (rSNex r (upd (rNex r) x2.toNatClampNeg (rNex r x1.toNatClampNeg))) x1 x2) else none) else none
theorem e_B_Mod_ghost_70 {sc : Nat × (Nat → Int32)} {d : DS} {f : FS} {w : WS} {m : MS} {s : SS} {g : GS} {tl : List mn_E}    (r : RS) (x1 : Int32) (x2 : Int32) : Ev sc 2 26 0 0 M_Mod_ghost 70 [(0, .ref 12), (1, .int x1), (2, .int x2)] [] (eLV :: (HD d (HF f (HW w (HM m (HS s (HG g (HR r tl)))))))) (mapR ouI (fun z => (eLV :: (HD d (HF f (HW w (HM m (HS s (HG g (HR z tl))))))))) (B_Mod_ghost_70 r x1 x2)) := by
  unfold B_Mod_ghost_70
  refine ev_aload_n d_Mod_ghost_70 rfl rfl ?_
  refine ev_get (v := .ref 16) gi_Mod (ci := 6) rfl rfl 5 (by decide) gw_1006 rfl d_Mod_ghost_71 ?_
  refine ev_iload_n d_Mod_ghost_74 rfl rfl ?_
  refine ev_aload_n d_Mod_ghost_75 rfl rfl ?_
  refine ev_get (v := .ref 16) gi_Mod (ci := 6) rfl rfl 5 (by decide) gw_1006 rfl d_Mod_ghost_76 ?_
  refine ev_iload_n d_Mod_ghost_79 rfl rfl ?_
  refine ev_inB (fun h1 => ?_)
  refine ev_iaload rfl (inB_of h1) d_Mod_ghost_80 ?_
  refine ev_inB (fun h2 => ?_)
  refine ev_iastore (h2 := (eLV :: (HD d (HF f (HW w (HM m (HS s (HG g (HR (rSNex r (upd (rNex r) x2.toNatClampNeg (rNex r x1.toNatClampNeg))) tl))))))))) rfl (inB_of h2) rfl d_Mod_ghost_81 ?_
  exact ev_pick [0, 1, 2] rfl (e_B_Mod_ghost_82     (rSNex r (upd (rNex r) x2.toNatClampNeg (rNex r x1.toNatClampNeg))) x1 x2)
def B_Mod_ghost_24   (r : RS) (x1 : Int32) (x2 : Int32) (t0 : Int32) : Option (Int32 × RS) :=
  if t0 = 0 then (B_Mod_ghost_45   r) else (if inB x1 40 then (if ¬ (rBad r x1.toNatClampNeg) = 0 then (B_Mod_ghost_45   r) else (if inB x1 40 then (if ¬ (rSer r x1.toNatClampNeg) = 0 then (if inB x1 40 then (if inB x1 40 then (if inB x1 40 then (bnd (f_Mod_label0 r x2 (rSer r x1.toNatClampNeg) (rPag r x1.toNatClampNeg) (rUse r x1.toNatClampNeg)) (fun q => B_Mod_ghost_70   q.2 x1 x2)) else none) else none) else none) else (B_Mod_ghost_45   r)) else none)) else none)
theorem e_B_Mod_ghost_24 {sc : Nat × (Nat → Int32)} {d : DS} {f : FS} {w : WS} {m : MS} {s : SS} {g : GS} {tl : List mn_E}    (r : RS) (x1 : Int32) (x2 : Int32) (t0 : Int32) : Ev sc 2 26 0 0 M_Mod_ghost 24 [(0, .ref 12), (1, .int x1), (2, .int x2)] [.int t0] (eLV :: (HD d (HF f (HW w (HM m (HS s (HG g (HR r tl)))))))) (mapR ouI (fun z => (eLV :: (HD d (HF f (HW w (HM m (HS s (HG g (HR z tl))))))))) (B_Mod_ghost_24 r x1 x2 t0)) := by
  unfold B_Mod_ghost_24
  refine ev_if_eq (tgt := 45) d_Mod_ghost_24 rfl (fun h1 => ?_) (fun h1 => ?_)
  · rw [if_pos h1]
    exact ev_pick [] rfl (e_B_Mod_ghost_45     r)
  · rw [if_neg h1]
    refine ev_aload_n d_Mod_ghost_27 rfl rfl ?_
    refine ev_get (v := .ref 19) gi_Mod (ci := 6) rfl rfl 8 (by decide) gw_1009 rfl d_Mod_ghost_28 ?_
    refine ev_iload_n d_Mod_ghost_31 rfl rfl ?_
    refine ev_inB (fun h2 => ?_)
    refine ev_zaload rfl (inB_of h2) d_Mod_ghost_32 ?_
    refine ev_if_ne (tgt := 45) d_Mod_ghost_33 rfl (fun h3 => ?_) (fun h3 => ?_)
    · rw [if_pos h3]
      exact ev_pick [] rfl (e_B_Mod_ghost_45     r)
    · rw [if_neg h3]
      refine ev_aload_n d_Mod_ghost_36 rfl rfl ?_
      refine ev_get (v := .ref 13) gi_Mod (ci := 6) rfl rfl 2 (by decide) gw_1003 rfl d_Mod_ghost_37 ?_
      refine ev_iload_n d_Mod_ghost_40 rfl rfl ?_
      refine ev_inB (fun h4 => ?_)
      refine ev_iaload rfl (inB_of h4) d_Mod_ghost_41 ?_
      refine ev_if_ne (tgt := 47) d_Mod_ghost_42 rfl (fun h5 => ?_) (fun h5 => ?_)
      · rw [if_pos h5]
        refine ev_aload_n d_Mod_ghost_47 rfl rfl ?_
        refine ev_iload_n d_Mod_ghost_48 rfl rfl ?_
        refine ev_aload_n d_Mod_ghost_49 rfl rfl ?_
        refine ev_get (v := .ref 13) gi_Mod (ci := 6) rfl rfl 2 (by decide) gw_1003 rfl d_Mod_ghost_50 ?_
        refine ev_iload_n d_Mod_ghost_53 rfl rfl ?_
        refine ev_inB (fun h6 => ?_)
        refine ev_iaload rfl (inB_of h6) d_Mod_ghost_54 ?_
        refine ev_aload_n d_Mod_ghost_55 rfl rfl ?_
        refine ev_get (v := .ref 14) gi_Mod (ci := 6) rfl rfl 3 (by decide) gw_1004 rfl d_Mod_ghost_56 ?_
        refine ev_iload_n d_Mod_ghost_59 rfl rfl ?_
        refine ev_inB (fun h7 => ?_)
        refine ev_iaload rfl (inB_of h7) d_Mod_ghost_60 ?_
        refine ev_aload_n d_Mod_ghost_61 rfl rfl ?_
        refine ev_get (v := .ref 15) gi_Mod (ci := 6) rfl rfl 4 (by decide) gw_1005 rfl d_Mod_ghost_62 ?_
        refine ev_iload_n d_Mod_ghost_65 rfl rfl ?_
        refine ev_inB (fun h8 => ?_)
        refine ev_iaload rfl (inB_of h8) d_Mod_ghost_66 ?_
        refine ev_callB (rc := (f_Mod_label0 r x2 (rSer r x1.toNatClampNeg) (rPag r x1.toNatClampNeg) (rUse r x1.toNatClampNeg))) (ou := ouV) (Hs := (fun z => (eLV :: (HD d (HF f (HW w (HM m (HS s (HG g (HR z tl)))))))))) (inv_V (q := 12) (av := [.int x2, .int (rSer r x1.toNatClampNeg), .int (rPag r x1.toNatClampNeg), .int (rUse r x1.toNatClampNeg)]) (rest := []) rfl (ci := 6) rfl d_Mod_ghost_67 gw_997 gw_999 gw_48 mw_Mod_label0 nh_Mod_label0 pn_Mod_label0 rfl) d_Mod_ghost_67 pl_Mod_label0 (Nat.le_of_ble_eq_true rfl) (Nat.le_of_ble_eq_true rfl) (Nat.le_of_ble_eq_true rfl) (e_f_Mod_label0 (tl := tl) (d := d) (f := f) (w := w) (m := m) (s := s) (g := g)  r x2 (rSer r x1.toNatClampNeg) (rPag r x1.toNatClampNeg) (rUse r x1.toNatClampNeg)) (fun _ => (len1 (lenHD (lenHF (lenHW (lenHM (lenHS (lenHG (lenHR rfl))))))))) (fun v z h9 => ⟨_, rfl, ?_⟩)
        exact ev_pick [0, 1, 2] rfl (e_B_Mod_ghost_70     z x1 x2)
      · rw [if_neg h5]
        exact ev_pick [] rfl (e_B_Mod_ghost_45     r)
def B_Mod_ghost_5   (r : RS) (x1 : Int32) (x2 : Int32) : Option (Int32 × RS) :=
  if ((f_Mod_isSector x1).1) = 0 then (B_Mod_ghost_45   r) else (if ((f_Mod_isSector x2).1) = 0 then (B_Mod_ghost_45   r) else (bnd (f_Mod_isFree r x2) (fun q => B_Mod_ghost_24   r x1 x2 q.1)))
theorem e_B_Mod_ghost_5 {sc : Nat × (Nat → Int32)} {d : DS} {f : FS} {w : WS} {m : MS} {s : SS} {g : GS} {tl : List mn_E}    (r : RS) (x1 : Int32) (x2 : Int32) : Ev sc 2 26 0 0 M_Mod_ghost 5 [(0, .ref 12), (1, .int x1), (2, .int x2)] [] (eLV :: (HD d (HF f (HW w (HM m (HS s (HG g (HR r tl)))))))) (mapR ouI (fun z => (eLV :: (HD d (HF f (HW w (HM m (HS s (HG g (HR z tl))))))))) (B_Mod_ghost_5 r x1 x2)) := by
  unfold B_Mod_ghost_5
  refine ev_iload_n d_Mod_ghost_5 rfl rfl ?_
  refine ev_callr (Mc := M_Mod_isSector) (v := some (.int ((f_Mod_isSector x1).1))) (h1 := (eLV :: (HD d (HF f (HW w (HM m (HS s (HG g (HR r tl))))))))) (k2 := 0) (n2 := 0) (inv_S (av := [.int x1]) (rest := []) d_Mod_ghost_6 gw_1352 gw_1353 gw_108 mw_Mod_isSector nh_Mod_isSector pn_Mod_isSector rfl) d_Mod_ghost_6 pl_Mod_isSector (Nat.le_of_ble_eq_true rfl) (Nat.le_of_ble_eq_true rfl) (Nat.le_of_ble_eq_true rfl) rfl rfl (e_f_Mod_isSector (hh := (eLV :: (HD d (HF f (HW w (HM m (HS s (HG g (HR r tl)))))))))   x1) (Or.inl (len1 (lenHD (lenHF (lenHW (lenHM (lenHS (lenHG (lenHR rfl))))))))) ?_
  refine ev_if_eq (tgt := 45) d_Mod_ghost_9 rfl (fun h1 => ?_) (fun h1 => ?_)
  · rw [if_pos h1]
    exact ev_pick [] rfl (e_B_Mod_ghost_45     r)
  · rw [if_neg h1]
    refine ev_iload_n d_Mod_ghost_12 rfl rfl ?_
    refine ev_callr (Mc := M_Mod_isSector) (v := some (.int ((f_Mod_isSector x2).1))) (h1 := (eLV :: (HD d (HF f (HW w (HM m (HS s (HG g (HR r tl))))))))) (k2 := 0) (n2 := 0) (inv_S (av := [.int x2]) (rest := []) d_Mod_ghost_13 gw_1352 gw_1353 gw_108 mw_Mod_isSector nh_Mod_isSector pn_Mod_isSector rfl) d_Mod_ghost_13 pl_Mod_isSector (Nat.le_of_ble_eq_true rfl) (Nat.le_of_ble_eq_true rfl) (Nat.le_of_ble_eq_true rfl) rfl rfl (e_f_Mod_isSector (hh := (eLV :: (HD d (HF f (HW w (HM m (HS s (HG g (HR r tl)))))))))   x2) (Or.inl (len1 (lenHD (lenHF (lenHW (lenHM (lenHS (lenHG (lenHR rfl))))))))) ?_
    refine ev_if_eq (tgt := 45) d_Mod_ghost_16 rfl (fun h2 => ?_) (fun h2 => ?_)
    · rw [if_pos h2]
      exact ev_pick [] rfl (e_B_Mod_ghost_45     r)
    · rw [if_neg h2]
      refine ev_aload_n d_Mod_ghost_19 rfl rfl ?_
      refine ev_iload_n d_Mod_ghost_20 rfl rfl ?_
      refine ev_callB (rc := (f_Mod_isFree r x2)) (ou := ouI) (Hs := (fun z => (eLV :: (HD d (HF f (HW w (HM m (HS s (HG g (HR r tl)))))))))) (inv_V (q := 12) (av := [.int x2]) (rest := []) rfl (ci := 6) rfl d_Mod_ghost_21 gw_1151 gw_1153 gw_61 mw_Mod_isFree nh_Mod_isFree pn_Mod_isFree rfl) d_Mod_ghost_21 pl_Mod_isFree (Nat.le_of_ble_eq_true rfl) (Nat.le_of_ble_eq_true rfl) (Nat.le_of_ble_eq_true rfl) (e_f_Mod_isFree (tl := tl) (d := d) (f := f) (w := w) (m := m) (s := s) (g := g)  r x2) (fun _ => (len1 (lenHD (lenHF (lenHW (lenHM (lenHS (lenHG (lenHR rfl))))))))) (fun v z h3 => ⟨_, rfl, ?_⟩)
      exact ev_pick [0, 1, 2] rfl (e_B_Mod_ghost_24     r x1 x2 v)
def f_Mod_ghost   (r : RS) (x1 : Int32) (x2 : Int32) : Option (Int32 × RS) :=
  B_Mod_ghost_5   (rSThr r 0) x1 x2
theorem e_f_Mod_ghost {sc : Nat × (Nat → Int32)} {d : DS} {f : FS} {w : WS} {m : MS} {s : SS} {g : GS} {tl : List mn_E}    (r : RS) (x1 : Int32) (x2 : Int32) : Ev sc 2 26 0 0 M_Mod_ghost 0 [(0, .ref 12), (1, .int x1), (2, .int x2)] [] (eLV :: (HD d (HF f (HW w (HM m (HS s (HG g (HR r tl)))))))) (mapR ouI (fun z => (eLV :: (HD d (HF f (HW w (HM m (HS s (HG g (HR z tl))))))))) (f_Mod_ghost r x1 x2)) := by
  unfold f_Mod_ghost
  refine ev_aload_n d_Mod_ghost_0 rfl rfl ?_
  refine ev_iconst (v := 0) d_Mod_ghost_1 rfl ?_
  refine ev_put (h2 := (eLV :: (HD d (HF f (HW w (HM m (HS s (HG g (HR (rSThr r 0) tl))))))))) gi_Mod ft_Mod fo_Mod fn_Mod (ci := 6) rfl rfl 0 (by decide) gw_1001 rfl rfl (fun _ => rfl) (fun _ => rfl) (Nat.le_of_ble_eq_true rfl) rfl d_Mod_ghost_2 ?_
  exact ev_pick [0, 1, 2] rfl (e_B_Mod_ghost_5     (rSThr r 0) x1 x2)
def B_Mod_label_30   (r : RS) : Option (Int32 × RS) :=
  some ((-1), r)
theorem e_B_Mod_label_30 {sc : Nat × (Nat → Int32)} {d : DS} {f : FS} {w : WS} {m : MS} {s : SS} {g : GS} {tl : List mn_E}    (r : RS) : Ev sc 2 26 0 0 M_Mod_label 30 [] [] (eLV :: (HD d (HF f (HW w (HM m (HS s (HG g (HR r tl)))))))) (mapR ouI (fun z => (eLV :: (HD d (HF f (HW w (HM m (HS s (HG g (HR z tl))))))))) (B_Mod_label_30 r)) := by
  unfold B_Mod_label_30
  refine ev_iconst (v := -1) d_Mod_label_30 rfl ?_
  exact ev_zret (ty := .int) rfl rfl d_Mod_label_31
def B_Mod_label_5   (r : RS) (x1 : Int32) (x2 : Int32) : Option (Int32 × RS) :=
  if ((f_Mod_isSector x1).1) = 0 then (B_Mod_label_30   r) else (if inB x1 40 then (if ¬ (rBad r x1.toNatClampNeg) = 0 then (B_Mod_label_30   r) else (if ¬ ((f_Mod_in x2 0 4).1) = 0 then (if ¬ x2 = 0 then (if ¬ x2 = 1 then (if ¬ x2 = 2 then (if ¬ x2 = 3 then (if inB x1 40 then (some ((rBef r x1.toNatClampNeg), r)) else none) else (if inB x1 40 then (some ((rNex r x1.toNatClampNeg), r)) else none)) else (if inB x1 40 then (some ((rUse r x1.toNatClampNeg), r)) else none)) else (if inB x1 40 then (some ((rPag r x1.toNatClampNeg), r)) else none)) else (if inB x1 40 then (some ((rSer r x1.toNatClampNeg), r)) else none)) else (B_Mod_label_30   r))) else none)
theorem e_B_Mod_label_5 {sc : Nat × (Nat → Int32)} {d : DS} {f : FS} {w : WS} {m : MS} {s : SS} {g : GS} {tl : List mn_E}    (r : RS) (x1 : Int32) (x2 : Int32) : Ev sc 2 26 0 0 M_Mod_label 5 [(0, .ref 12), (1, .int x1), (2, .int x2)] [] (eLV :: (HD d (HF f (HW w (HM m (HS s (HG g (HR r tl)))))))) (mapR ouI (fun z => (eLV :: (HD d (HF f (HW w (HM m (HS s (HG g (HR z tl))))))))) (B_Mod_label_5 r x1 x2)) := by
  unfold B_Mod_label_5
  refine ev_iload_n d_Mod_label_5 rfl rfl ?_
  refine ev_callr (Mc := M_Mod_isSector) (v := some (.int ((f_Mod_isSector x1).1))) (h1 := (eLV :: (HD d (HF f (HW w (HM m (HS s (HG g (HR r tl))))))))) (k2 := 0) (n2 := 0) (inv_S (av := [.int x1]) (rest := []) d_Mod_label_6 gw_1352 gw_1353 gw_108 mw_Mod_isSector nh_Mod_isSector pn_Mod_isSector rfl) d_Mod_label_6 pl_Mod_isSector (Nat.le_of_ble_eq_true rfl) (Nat.le_of_ble_eq_true rfl) (Nat.le_of_ble_eq_true rfl) rfl rfl (e_f_Mod_isSector (hh := (eLV :: (HD d (HF f (HW w (HM m (HS s (HG g (HR r tl)))))))))   x1) (Or.inl (len1 (lenHD (lenHF (lenHW (lenHM (lenHS (lenHG (lenHR rfl))))))))) ?_
  refine ev_if_eq (tgt := 30) d_Mod_label_9 rfl (fun h1 => ?_) (fun h1 => ?_)
  · rw [if_pos h1]
    exact ev_pick [] rfl (e_B_Mod_label_30     r)
  · rw [if_neg h1]
    refine ev_aload_n d_Mod_label_12 rfl rfl ?_
    refine ev_get (v := .ref 19) gi_Mod (ci := 6) rfl rfl 8 (by decide) gw_1009 rfl d_Mod_label_13 ?_
    refine ev_iload_n d_Mod_label_16 rfl rfl ?_
    refine ev_inB (fun h2 => ?_)
    refine ev_zaload rfl (inB_of h2) d_Mod_label_17 ?_
    refine ev_if_ne (tgt := 30) d_Mod_label_18 rfl (fun h3 => ?_) (fun h3 => ?_)
    · rw [if_pos h3]
      exact ev_pick [] rfl (e_B_Mod_label_30     r)
    · rw [if_neg h3]
      refine ev_iload_n d_Mod_label_21 rfl rfl ?_
      refine ev_iconst (v := 0) d_Mod_label_22 rfl ?_
      refine ev_iconst (v := 4) d_Mod_label_23 rfl ?_
      refine ev_callr (Mc := M_Mod_in) (v := some (.int ((f_Mod_in x2 0 4).1))) (h1 := (eLV :: (HD d (HF f (HW w (HM m (HS s (HG g (HR r tl))))))))) (k2 := 0) (n2 := 0) (inv_S (av := [.int x2, .int 0, .int 4]) (rest := []) d_Mod_label_24 gw_1108 gw_1109 gw_108 mw_Mod_in nh_Mod_in pn_Mod_in rfl) d_Mod_label_24 pl_Mod_in (Nat.le_of_ble_eq_true rfl) (Nat.le_of_ble_eq_true rfl) (Nat.le_of_ble_eq_true rfl) rfl rfl (e_f_Mod_in (hh := (eLV :: (HD d (HF f (HW w (HM m (HS s (HG g (HR r tl)))))))))   x2 0 4) (Or.inl (len1 (lenHD (lenHF (lenHW (lenHM (lenHS (lenHG (lenHR rfl))))))))) ?_
      refine ev_if_ne (tgt := 32) d_Mod_label_27 rfl (fun h4 => ?_) (fun h4 => ?_)
      · rw [if_pos h4]
        refine ev_iload_n d_Mod_label_32 rfl rfl ?_
        refine ev_if_ne (tgt := 45) d_Mod_label_33 rfl (fun h5 => ?_) (fun h5 => ?_)
        · rw [if_pos h5]
          refine ev_iload_n d_Mod_label_45 rfl rfl ?_
          refine ev_iconst (v := 1) d_Mod_label_46 rfl ?_
          refine ev_icmp_ne (tgt := 59) d_Mod_label_47 rfl (fun h6 => ?_) (fun h6 => ?_)
          · rw [if_pos h6]
            refine ev_iload_n d_Mod_label_59 rfl rfl ?_
            refine ev_iconst (v := 2) d_Mod_label_60 rfl ?_
            refine ev_icmp_ne (tgt := 73) d_Mod_label_61 rfl (fun h7 => ?_) (fun h7 => ?_)
            · rw [if_pos h7]
              refine ev_iload_n d_Mod_label_73 rfl rfl ?_
              refine ev_iconst (v := 3) d_Mod_label_74 rfl ?_
              refine ev_icmp_ne (tgt := 87) d_Mod_label_75 rfl (fun h8 => ?_) (fun h8 => ?_)
              · rw [if_pos h8]
                refine ev_aload_n d_Mod_label_87 rfl rfl ?_
                refine ev_get (v := .ref 17) gi_Mod (ci := 6) rfl rfl 6 (by decide) gw_1007 rfl d_Mod_label_88 ?_
                refine ev_iload_n d_Mod_label_91 rfl rfl ?_
                refine ev_inB (fun h9 => ?_)
                refine ev_iaload rfl (inB_of h9) d_Mod_label_92 ?_
                exact ev_zret (ty := .int) rfl rfl d_Mod_label_93
              · rw [if_neg h8]
                refine ev_aload_n d_Mod_label_78 rfl rfl ?_
                refine ev_get (v := .ref 16) gi_Mod (ci := 6) rfl rfl 5 (by decide) gw_1006 rfl d_Mod_label_79 ?_
                refine ev_iload_n d_Mod_label_82 rfl rfl ?_
                refine ev_inB (fun h10 => ?_)
                refine ev_iaload rfl (inB_of h10) d_Mod_label_83 ?_
                refine ev_goto (tgt := 93) d_Mod_label_84 rfl ?_
                exact ev_zret (ty := .int) rfl rfl d_Mod_label_93
            · rw [if_neg h7]
              refine ev_aload_n d_Mod_label_64 rfl rfl ?_
              refine ev_get (v := .ref 15) gi_Mod (ci := 6) rfl rfl 4 (by decide) gw_1005 rfl d_Mod_label_65 ?_
              refine ev_iload_n d_Mod_label_68 rfl rfl ?_
              refine ev_inB (fun h11 => ?_)
              refine ev_iaload rfl (inB_of h11) d_Mod_label_69 ?_
              refine ev_goto (tgt := 93) d_Mod_label_70 rfl ?_
              exact ev_zret (ty := .int) rfl rfl d_Mod_label_93
          · rw [if_neg h6]
            refine ev_aload_n d_Mod_label_50 rfl rfl ?_
            refine ev_get (v := .ref 14) gi_Mod (ci := 6) rfl rfl 3 (by decide) gw_1004 rfl d_Mod_label_51 ?_
            refine ev_iload_n d_Mod_label_54 rfl rfl ?_
            refine ev_inB (fun h12 => ?_)
            refine ev_iaload rfl (inB_of h12) d_Mod_label_55 ?_
            refine ev_goto (tgt := 93) d_Mod_label_56 rfl ?_
            exact ev_zret (ty := .int) rfl rfl d_Mod_label_93
        · rw [if_neg h5]
          refine ev_aload_n d_Mod_label_36 rfl rfl ?_
          refine ev_get (v := .ref 13) gi_Mod (ci := 6) rfl rfl 2 (by decide) gw_1003 rfl d_Mod_label_37 ?_
          refine ev_iload_n d_Mod_label_40 rfl rfl ?_
          refine ev_inB (fun h13 => ?_)
          refine ev_iaload rfl (inB_of h13) d_Mod_label_41 ?_
          refine ev_goto (tgt := 93) d_Mod_label_42 rfl ?_
          exact ev_zret (ty := .int) rfl rfl d_Mod_label_93
      · rw [if_neg h4]
        exact ev_pick [] rfl (e_B_Mod_label_30     r)
def f_Mod_label   (r : RS) (x1 : Int32) (x2 : Int32) : Option (Int32 × RS) :=
  B_Mod_label_5   (rSThr r 0) x1 x2
theorem e_f_Mod_label {sc : Nat × (Nat → Int32)} {d : DS} {f : FS} {w : WS} {m : MS} {s : SS} {g : GS} {tl : List mn_E}    (r : RS) (x1 : Int32) (x2 : Int32) : Ev sc 2 26 0 0 M_Mod_label 0 [(0, .ref 12), (1, .int x1), (2, .int x2)] [] (eLV :: (HD d (HF f (HW w (HM m (HS s (HG g (HR r tl)))))))) (mapR ouI (fun z => (eLV :: (HD d (HF f (HW w (HM m (HS s (HG g (HR z tl))))))))) (f_Mod_label r x1 x2)) := by
  unfold f_Mod_label
  refine ev_aload_n d_Mod_label_0 rfl rfl ?_
  refine ev_iconst (v := 0) d_Mod_label_1 rfl ?_
  refine ev_put (h2 := (eLV :: (HD d (HF f (HW w (HM m (HS s (HG g (HR (rSThr r 0) tl))))))))) gi_Mod ft_Mod fo_Mod fn_Mod (ci := 6) rfl rfl 0 (by decide) gw_1001 rfl rfl (fun _ => rfl) (fun _ => rfl) (Nat.le_of_ble_eq_true rfl) rfl d_Mod_label_2 ?_
  exact ev_pick [0, 1, 2] rfl (e_B_Mod_label_5     (rSThr r 0) x1 x2)
def B_Mod_data_45   (r : RS) : Option (Int32 × RS) :=
  some ((-1), r)
theorem e_B_Mod_data_45 {sc : Nat × (Nat → Int32)} {d : DS} {f : FS} {w : WS} {m : MS} {s : SS} {g : GS} {tl : List mn_E}    (r : RS) : Ev sc 2 26 0 0 M_Mod_data 45 [] [] (eLV :: (HD d (HF f (HW w (HM m (HS s (HG g (HR r tl)))))))) (mapR ouI (fun z => (eLV :: (HD d (HF f (HW w (HM m (HS s (HG g (HR z tl))))))))) (B_Mod_data_45 r)) := by
  unfold B_Mod_data_45
  refine ev_iconst (v := -1) d_Mod_data_45 rfl ?_
  exact ev_zret (ty := .int) rfl rfl d_Mod_data_46
def B_Mod_data_5   (r : RS) (x1 : Int32) (x2 : Int32) : Option (Int32 × RS) :=
  if ((f_Mod_isSector x1).1) = 0 then (B_Mod_data_45   r) else (if ((f_Mod_in x2 0 7).1) = 0 then (B_Mod_data_45   r) else (if inB x1 40 then (if ¬ (rBad r x1.toNatClampNeg) = 0 then (B_Mod_data_45   r) else (if inB ((8 * x1) + x2) 320 then (some ((rByt r ((8 * x1) + x2).toNatClampNeg), r)) else none)) else none))
theorem e_B_Mod_data_5 {sc : Nat × (Nat → Int32)} {d : DS} {f : FS} {w : WS} {m : MS} {s : SS} {g : GS} {tl : List mn_E}    (r : RS) (x1 : Int32) (x2 : Int32) : Ev sc 2 26 0 0 M_Mod_data 5 [(0, .ref 12), (1, .int x1), (2, .int x2)] [] (eLV :: (HD d (HF f (HW w (HM m (HS s (HG g (HR r tl)))))))) (mapR ouI (fun z => (eLV :: (HD d (HF f (HW w (HM m (HS s (HG g (HR z tl))))))))) (B_Mod_data_5 r x1 x2)) := by
  unfold B_Mod_data_5
  refine ev_iload_n d_Mod_data_5 rfl rfl ?_
  refine ev_callr (Mc := M_Mod_isSector) (v := some (.int ((f_Mod_isSector x1).1))) (h1 := (eLV :: (HD d (HF f (HW w (HM m (HS s (HG g (HR r tl))))))))) (k2 := 0) (n2 := 0) (inv_S (av := [.int x1]) (rest := []) d_Mod_data_6 gw_1352 gw_1353 gw_108 mw_Mod_isSector nh_Mod_isSector pn_Mod_isSector rfl) d_Mod_data_6 pl_Mod_isSector (Nat.le_of_ble_eq_true rfl) (Nat.le_of_ble_eq_true rfl) (Nat.le_of_ble_eq_true rfl) rfl rfl (e_f_Mod_isSector (hh := (eLV :: (HD d (HF f (HW w (HM m (HS s (HG g (HR r tl)))))))))   x1) (Or.inl (len1 (lenHD (lenHF (lenHW (lenHM (lenHS (lenHG (lenHR rfl))))))))) ?_
  refine ev_if_eq (tgt := 45) d_Mod_data_9 rfl (fun h1 => ?_) (fun h1 => ?_)
  · rw [if_pos h1]
    exact ev_pick [] rfl (e_B_Mod_data_45     r)
  · rw [if_neg h1]
    refine ev_iload_n d_Mod_data_12 rfl rfl ?_
    refine ev_iconst (v := 0) d_Mod_data_13 rfl ?_
    refine ev_bipush (v := 7) d_Mod_data_14 rfl ?_
    refine ev_callr (Mc := M_Mod_in) (v := some (.int ((f_Mod_in x2 0 7).1))) (h1 := (eLV :: (HD d (HF f (HW w (HM m (HS s (HG g (HR r tl))))))))) (k2 := 0) (n2 := 0) (inv_S (av := [.int x2, .int 0, .int 7]) (rest := []) d_Mod_data_16 gw_1108 gw_1109 gw_108 mw_Mod_in nh_Mod_in pn_Mod_in rfl) d_Mod_data_16 pl_Mod_in (Nat.le_of_ble_eq_true rfl) (Nat.le_of_ble_eq_true rfl) (Nat.le_of_ble_eq_true rfl) rfl rfl (e_f_Mod_in (hh := (eLV :: (HD d (HF f (HW w (HM m (HS s (HG g (HR r tl)))))))))   x2 0 7) (Or.inl (len1 (lenHD (lenHF (lenHW (lenHM (lenHS (lenHG (lenHR rfl))))))))) ?_
    refine ev_if_eq (tgt := 45) d_Mod_data_19 rfl (fun h2 => ?_) (fun h2 => ?_)
    · rw [if_pos h2]
      exact ev_pick [] rfl (e_B_Mod_data_45     r)
    · rw [if_neg h2]
      refine ev_aload_n d_Mod_data_22 rfl rfl ?_
      refine ev_get (v := .ref 19) gi_Mod (ci := 6) rfl rfl 8 (by decide) gw_1009 rfl d_Mod_data_23 ?_
      refine ev_iload_n d_Mod_data_26 rfl rfl ?_
      refine ev_inB (fun h3 => ?_)
      refine ev_zaload rfl (inB_of h3) d_Mod_data_27 ?_
      refine ev_if_ne (tgt := 45) d_Mod_data_28 rfl (fun h4 => ?_) (fun h4 => ?_)
      · rw [if_pos h4]
        exact ev_pick [] rfl (e_B_Mod_data_45     r)
      · rw [if_neg h4]
        refine ev_aload_n d_Mod_data_31 rfl rfl ?_
        refine ev_get (v := .ref 18) gi_Mod (ci := 6) rfl rfl 7 (by decide) gw_1008 rfl d_Mod_data_32 ?_
        refine ev_bipush (v := 8) d_Mod_data_35 rfl ?_
        refine ev_iload_n d_Mod_data_37 rfl rfl ?_
        refine ev_imul d_Mod_data_38 ?_
        refine ev_iload_n d_Mod_data_39 rfl rfl ?_
        refine ev_iadd d_Mod_data_40 ?_
        refine ev_inB (fun h5 => ?_)
        refine ev_iaload rfl (inB_of h5) d_Mod_data_41 ?_
        refine ev_goto (tgt := 46) d_Mod_data_42 rfl ?_
        exact ev_zret (ty := .int) rfl rfl d_Mod_data_46
def f_Mod_data   (r : RS) (x1 : Int32) (x2 : Int32) : Option (Int32 × RS) :=
  B_Mod_data_5   (rSThr r 0) x1 x2
theorem e_f_Mod_data {sc : Nat × (Nat → Int32)} {d : DS} {f : FS} {w : WS} {m : MS} {s : SS} {g : GS} {tl : List mn_E}    (r : RS) (x1 : Int32) (x2 : Int32) : Ev sc 2 26 0 0 M_Mod_data 0 [(0, .ref 12), (1, .int x1), (2, .int x2)] [] (eLV :: (HD d (HF f (HW w (HM m (HS s (HG g (HR r tl)))))))) (mapR ouI (fun z => (eLV :: (HD d (HF f (HW w (HM m (HS s (HG g (HR z tl))))))))) (f_Mod_data r x1 x2)) := by
  unfold f_Mod_data
  refine ev_aload_n d_Mod_data_0 rfl rfl ?_
  refine ev_iconst (v := 0) d_Mod_data_1 rfl ?_
  refine ev_put (h2 := (eLV :: (HD d (HF f (HW w (HM m (HS s (HG g (HR (rSThr r 0) tl))))))))) gi_Mod ft_Mod fo_Mod fn_Mod (ci := 6) rfl rfl 0 (by decide) gw_1001 rfl rfl (fun _ => rfl) (fun _ => rfl) (Nat.le_of_ble_eq_true rfl) rfl d_Mod_data_2 ?_
  exact ev_pick [0, 1, 2] rfl (e_B_Mod_data_5     (rSThr r 0) x1 x2)
def B_Mod_state_53  (r12 : RS → Int32 → Int32 → Int32 → Int32 → Option (Int32 × RS)) (r : RS) (x1 : Int32) (x2 : Int32) (x4 : Int32) (t0 : Int32) : Option (Int32 × RS) :=
  r12 r x1 x2 t0 (x4 + 1)
theorem e_B_Mod_state_53 {sc : Nat × (Nat → Int32)} {d : DS} {f : FS} {w : WS} {m : MS} {s : SS} {g : GS} {tl : List mn_E}  (r12 : RS → Int32 → Int32 → Int32 → Int32 → Option (Int32 × RS)) (hr12 : ∀ (r : RS) (x1 : Int32) (x2 : Int32) (x3 : Int32) (x4 : Int32), Ev sc 1 13 0 0 M_Mod_state 12 [(0, .ref 12), (1, .int x1), (2, .int x2), (3, .int x3), (4, .int x4)] [] (eLV :: (HD d (HF f (HW w (HM m (HS s (HG g (HR r tl)))))))) (mapR ouI (fun z => (eLV :: (HD d (HF f (HW w (HM m (HS s (HG g (HR z tl))))))))) (r12 r x1 x2 x3 x4))) (r : RS) (x1 : Int32) (x2 : Int32) (x4 : Int32) (t0 : Int32) : Ev sc 1 13 0 0 M_Mod_state 53 [(0, .ref 12), (1, .int x1), (2, .int x2), (4, .int x4)] [.int t0] (eLV :: (HD d (HF f (HW w (HM m (HS s (HG g (HR r tl)))))))) (mapR ouI (fun z => (eLV :: (HD d (HF f (HW w (HM m (HS s (HG g (HR z tl))))))))) (B_Mod_state_53 r12 r x1 x2 x4 t0)) := by
  unfold B_Mod_state_53
  refine ev_istore_n d_Mod_state_53 rfl (by decide) rfl ?_
  refine ev_iinc (v := (x4 + 1)) d_Mod_state_54 rfl rfl (by decide) rfl ?_
  refine ev_goto (tgt := 12) d_Mod_state_57 rfl ?_
  exact ev_pick [2, 3, 4, 1, 0] rfl (hr12 r x1 x2 t0 (x4 + 1))
def B_Mod_state_35  (r12 : RS → Int32 → Int32 → Int32 → Int32 → Option (Int32 × RS)) (r : RS) (x1 : Int32) (x3 : Int32) (x4 : Int32) (t0 : Int32) : Option (Int32 × RS) :=
  if inB x4 40 then (if (rBad r x4.toNatClampNeg) = 0 then (B_Mod_state_53  r12 r x1 t0 x4 x3) else (B_Mod_state_53  r12 r x1 t0 x4 (x3 + 1))) else none
theorem e_B_Mod_state_35 {sc : Nat × (Nat → Int32)} {d : DS} {f : FS} {w : WS} {m : MS} {s : SS} {g : GS} {tl : List mn_E}  (r12 : RS → Int32 → Int32 → Int32 → Int32 → Option (Int32 × RS)) (hr12 : ∀ (r : RS) (x1 : Int32) (x2 : Int32) (x3 : Int32) (x4 : Int32), Ev sc 1 13 0 0 M_Mod_state 12 [(0, .ref 12), (1, .int x1), (2, .int x2), (3, .int x3), (4, .int x4)] [] (eLV :: (HD d (HF f (HW w (HM m (HS s (HG g (HR r tl)))))))) (mapR ouI (fun z => (eLV :: (HD d (HF f (HW w (HM m (HS s (HG g (HR z tl))))))))) (r12 r x1 x2 x3 x4))) (r : RS) (x1 : Int32) (x3 : Int32) (x4 : Int32) (t0 : Int32) : Ev sc 1 13 0 0 M_Mod_state 35 [(0, .ref 12), (1, .int x1), (3, .int x3), (4, .int x4)] [.int t0] (eLV :: (HD d (HF f (HW w (HM m (HS s (HG g (HR r tl)))))))) (mapR ouI (fun z => (eLV :: (HD d (HF f (HW w (HM m (HS s (HG g (HR z tl))))))))) (B_Mod_state_35 r12 r x1 x3 x4 t0)) := by
  unfold B_Mod_state_35
  refine ev_istore_n d_Mod_state_35 rfl (by decide) rfl ?_
  refine ev_aload_n d_Mod_state_36 rfl rfl ?_
  refine ev_get (v := .ref 19) gi_Mod (ci := 6) rfl rfl 8 (by decide) gw_1009 rfl d_Mod_state_37 ?_
  refine ev_iload d_Mod_state_40 rfl ?_
  refine ev_inB (fun h1 => ?_)
  refine ev_zaload rfl (inB_of h1) d_Mod_state_42 ?_
  refine ev_if_eq (tgt := 52) d_Mod_state_43 rfl (fun h2 => ?_) (fun h2 => ?_)
  · rw [if_pos h2]
    refine ev_iload_n d_Mod_state_52 rfl rfl ?_
    exact ev_pick [1, 2, 0, 4] rfl (e_B_Mod_state_53   r12 hr12 r x1 t0 x4 x3)
  · rw [if_neg h2]
    refine ev_iload_n d_Mod_state_46 rfl rfl ?_
    refine ev_iconst (v := 1) d_Mod_state_47 rfl ?_
    refine ev_iadd d_Mod_state_48 ?_
    refine ev_goto (tgt := 53) d_Mod_state_49 rfl ?_
    exact ev_pick [1, 2, 0, 4] rfl (e_B_Mod_state_53   r12 hr12 r x1 t0 x4 (x3 + 1))
def B_Mod_state_25  (r12 : RS → Int32 → Int32 → Int32 → Int32 → Option (Int32 × RS)) (r : RS) (x1 : Int32) (x2 : Int32) (x3 : Int32) (x4 : Int32) (t0 : Int32) : Option (Int32 × RS) :=
  if t0 = 0 then (B_Mod_state_35  r12 r x1 x3 x4 x2) else (B_Mod_state_35  r12 r x1 x3 x4 (x2 + 1))
theorem e_B_Mod_state_25 {sc : Nat × (Nat → Int32)} {d : DS} {f : FS} {w : WS} {m : MS} {s : SS} {g : GS} {tl : List mn_E}  (r12 : RS → Int32 → Int32 → Int32 → Int32 → Option (Int32 × RS)) (hr12 : ∀ (r : RS) (x1 : Int32) (x2 : Int32) (x3 : Int32) (x4 : Int32), Ev sc 1 13 0 0 M_Mod_state 12 [(0, .ref 12), (1, .int x1), (2, .int x2), (3, .int x3), (4, .int x4)] [] (eLV :: (HD d (HF f (HW w (HM m (HS s (HG g (HR r tl)))))))) (mapR ouI (fun z => (eLV :: (HD d (HF f (HW w (HM m (HS s (HG g (HR z tl))))))))) (r12 r x1 x2 x3 x4))) (r : RS) (x1 : Int32) (x2 : Int32) (x3 : Int32) (x4 : Int32) (t0 : Int32) : Ev sc 1 13 0 0 M_Mod_state 25 [(0, .ref 12), (1, .int x1), (2, .int x2), (3, .int x3), (4, .int x4)] [.int t0] (eLV :: (HD d (HF f (HW w (HM m (HS s (HG g (HR r tl)))))))) (mapR ouI (fun z => (eLV :: (HD d (HF f (HW w (HM m (HS s (HG g (HR z tl))))))))) (B_Mod_state_25 r12 r x1 x2 x3 x4 t0)) := by
  unfold B_Mod_state_25
  refine ev_if_eq (tgt := 34) d_Mod_state_25 rfl (fun h1 => ?_) (fun h1 => ?_)
  · rw [if_pos h1]
    refine ev_iload_n d_Mod_state_34 rfl rfl ?_
    exact ev_pick [0, 1, 3, 4] rfl (e_B_Mod_state_35   r12 hr12 r x1 x3 x4 x2)
  · rw [if_neg h1]
    refine ev_iload_n d_Mod_state_28 rfl rfl ?_
    refine ev_iconst (v := 1) d_Mod_state_29 rfl ?_
    refine ev_iadd d_Mod_state_30 ?_
    refine ev_goto (tgt := 35) d_Mod_state_31 rfl ?_
    exact ev_pick [0, 1, 3, 4] rfl (e_B_Mod_state_35   r12 hr12 r x1 x3 x4 (x2 + 1))
def L_Mod_state_12   : Nat → RS → Int32 → Int32 → Int32 → Int32 → Option (Int32 × RS)
  | 0, _, _, _, _, _ => none
  | n + 1, r, x1, x2, x3, x4 =>
  if 40 ≤ x4 then (if ¬ x1 = 0 then (if ¬ x1 = 1 then (if ¬ x1 = 2 then (if ¬ x1 = 3 then (if ¬ x1 = 4 then (some ((-1), r)) else (if (rDar r) = 0 then (some (1, r)) else (some (0, r)))) else (some (x3, r))) else (some (x2, r))) else (some ((rWri r), r))) else (some ((rMis r), r))) else (bnd (f_Mod_isFree r x4) (fun q => B_Mod_state_25  (L_Mod_state_12 n) r x1 x2 x3 x4 q.1))
theorem e_L_Mod_state_12 {sc : Nat × (Nat → Int32)} {d : DS} {f : FS} {w : WS} {m : MS} {s : SS} {g : GS} {tl : List mn_E}    : ∀ (n : Nat) (r : RS) (x1 : Int32) (x2 : Int32) (x3 : Int32) (x4 : Int32), Ev sc 1 13 0 0 M_Mod_state 12 [(0, .ref 12), (1, .int x1), (2, .int x2), (3, .int x3), (4, .int x4)] [] (eLV :: (HD d (HF f (HW w (HM m (HS s (HG g (HR r tl)))))))) (mapR ouI (fun z => (eLV :: (HD d (HF f (HW w (HM m (HS s (HG g (HR z tl))))))))) (L_Mod_state_12   n r x1 x2 x3 x4)) := by
  intro n
  induction n with
  | zero => intro r x1 x2 x3 x4; exact ev_none
  | succ n ih =>
    intro r x1 x2 x3 x4
    rw [L_Mod_state_12]
    refine ev_iload d_Mod_state_12 rfl ?_
    refine ev_bipush (v := 40) d_Mod_state_14 rfl ?_
    refine ev_icmp_ge (tgt := 60) d_Mod_state_16 rfl (fun h1 => ?_) (fun h1 => ?_)
    · rw [if_pos h1]
      refine ev_iload_n d_Mod_state_60 rfl rfl ?_
      refine ev_if_ne (tgt := 71) d_Mod_state_61 rfl (fun h2 => ?_) (fun h2 => ?_)
      · rw [if_pos h2]
        refine ev_iload_n d_Mod_state_71 rfl rfl ?_
        refine ev_iconst (v := 1) d_Mod_state_72 rfl ?_
        refine ev_icmp_ne (tgt := 83) d_Mod_state_73 rfl (fun h3 => ?_) (fun h3 => ?_)
        · rw [if_pos h3]
          refine ev_iload_n d_Mod_state_83 rfl rfl ?_
          refine ev_iconst (v := 2) d_Mod_state_84 rfl ?_
          refine ev_icmp_ne (tgt := 92) d_Mod_state_85 rfl (fun h4 => ?_) (fun h4 => ?_)
          · rw [if_pos h4]
            refine ev_iload_n d_Mod_state_92 rfl rfl ?_
            refine ev_iconst (v := 3) d_Mod_state_93 rfl ?_
            refine ev_icmp_ne (tgt := 101) d_Mod_state_94 rfl (fun h5 => ?_) (fun h5 => ?_)
            · rw [if_pos h5]
              refine ev_iload_n d_Mod_state_101 rfl rfl ?_
              refine ev_iconst (v := 4) d_Mod_state_102 rfl ?_
              refine ev_icmp_ne (tgt := 121) d_Mod_state_103 rfl (fun h6 => ?_) (fun h6 => ?_)
              · rw [if_pos h6]
                refine ev_iconst (v := -1) d_Mod_state_121 rfl ?_
                exact ev_zret (ty := .int) rfl rfl d_Mod_state_122
              · rw [if_neg h6]
                refine ev_aload_n d_Mod_state_106 rfl rfl ?_
                refine ev_get (v := .int (rDar r)) gi_Mod (ci := 6) rfl rfl 12 (by decide) gw_1013 rfl d_Mod_state_107 ?_
                refine ev_if_eq (tgt := 117) d_Mod_state_110 rfl (fun h7 => ?_) (fun h7 => ?_)
                · rw [if_pos h7]
                  refine ev_iconst (v := 1) d_Mod_state_117 rfl ?_
                  refine ev_goto (tgt := 122) d_Mod_state_118 rfl ?_
                  exact ev_zret (ty := .int) rfl rfl d_Mod_state_122
                · rw [if_neg h7]
                  refine ev_iconst (v := 0) d_Mod_state_113 rfl ?_
                  refine ev_goto (tgt := 122) d_Mod_state_114 rfl ?_
                  exact ev_zret (ty := .int) rfl rfl d_Mod_state_122
            · rw [if_neg h5]
              refine ev_iload_n d_Mod_state_97 rfl rfl ?_
              refine ev_goto (tgt := 122) d_Mod_state_98 rfl ?_
              exact ev_zret (ty := .int) rfl rfl d_Mod_state_122
          · rw [if_neg h4]
            refine ev_iload_n d_Mod_state_88 rfl rfl ?_
            refine ev_goto (tgt := 122) d_Mod_state_89 rfl ?_
            exact ev_zret (ty := .int) rfl rfl d_Mod_state_122
        · rw [if_neg h3]
          refine ev_aload_n d_Mod_state_76 rfl rfl ?_
          refine ev_get (v := .int (rWri r)) gi_Mod (ci := 6) rfl rfl 11 (by decide) gw_1012 rfl d_Mod_state_77 ?_
          refine ev_goto (tgt := 122) d_Mod_state_80 rfl ?_
          exact ev_zret (ty := .int) rfl rfl d_Mod_state_122
      · rw [if_neg h2]
        refine ev_aload_n d_Mod_state_64 rfl rfl ?_
        refine ev_get (v := .int (rMis r)) gi_Mod (ci := 6) rfl rfl 10 (by decide) gw_1011 rfl d_Mod_state_65 ?_
        refine ev_goto (tgt := 122) d_Mod_state_68 rfl ?_
        exact ev_zret (ty := .int) rfl rfl d_Mod_state_122
    · rw [if_neg h1]
      refine ev_aload_n d_Mod_state_19 rfl rfl ?_
      refine ev_iload d_Mod_state_20 rfl ?_
      refine ev_callB (rc := (f_Mod_isFree r x4)) (ou := ouI) (Hs := (fun z => (eLV :: (HD d (HF f (HW w (HM m (HS s (HG g (HR r tl)))))))))) (inv_V (q := 12) (av := [.int x4]) (rest := []) rfl (ci := 6) rfl d_Mod_state_22 gw_1151 gw_1153 gw_61 mw_Mod_isFree nh_Mod_isFree pn_Mod_isFree rfl) d_Mod_state_22 pl_Mod_isFree (Nat.le_of_ble_eq_true rfl) (Nat.le_of_ble_eq_true rfl) (Nat.le_of_ble_eq_true rfl) (e_f_Mod_isFree (tl := tl) (d := d) (f := f) (w := w) (m := m) (s := s) (g := g)  r x4) (fun _ => (len1 (lenHD (lenHF (lenHW (lenHM (lenHS (lenHG (lenHR rfl))))))))) (fun v z h8 => ⟨_, rfl, ?_⟩)
      exact ev_pick [0, 1, 2, 3, 4] rfl (e_B_Mod_state_25   (L_Mod_state_12 n) ih r x1 x2 x3 x4 v)
def B_Mod_state_5   (r : RS) (x1 : Int32) : Option (Int32 × RS) :=
  L_Mod_state_12   1000 r x1 0 0 0
theorem e_B_Mod_state_5 {sc : Nat × (Nat → Int32)} {d : DS} {f : FS} {w : WS} {m : MS} {s : SS} {g : GS} {tl : List mn_E}    (r : RS) (x1 : Int32) : Ev sc 1 13 0 0 M_Mod_state 5 [(0, .ref 12), (1, .int x1)] [] (eLV :: (HD d (HF f (HW w (HM m (HS s (HG g (HR r tl)))))))) (mapR ouI (fun z => (eLV :: (HD d (HF f (HW w (HM m (HS s (HG g (HR z tl))))))))) (B_Mod_state_5 r x1)) := by
  unfold B_Mod_state_5
  refine ev_iconst (v := 0) d_Mod_state_5 rfl ?_
  refine ev_istore_n d_Mod_state_6 rfl (by decide) rfl ?_
  refine ev_iconst (v := 0) d_Mod_state_7 rfl ?_
  refine ev_istore_n d_Mod_state_8 rfl (by decide) rfl ?_
  refine ev_iconst (v := 0) d_Mod_state_9 rfl ?_
  refine ev_istore d_Mod_state_10 (by decide) rfl ?_
  exact ev_pick [3, 4, 2, 1, 0] rfl (e_L_Mod_state_12     1000 r x1 0 0 0)
def f_Mod_state   (r : RS) (x1 : Int32) : Option (Int32 × RS) :=
  B_Mod_state_5   (rSThr r 0) x1
theorem e_f_Mod_state {sc : Nat × (Nat → Int32)} {d : DS} {f : FS} {w : WS} {m : MS} {s : SS} {g : GS} {tl : List mn_E}    (r : RS) (x1 : Int32) : Ev sc 1 13 0 0 M_Mod_state 0 [(0, .ref 12), (1, .int x1)] [] (eLV :: (HD d (HF f (HW w (HM m (HS s (HG g (HR r tl)))))))) (mapR ouI (fun z => (eLV :: (HD d (HF f (HW w (HM m (HS s (HG g (HR z tl))))))))) (f_Mod_state r x1)) := by
  unfold f_Mod_state
  refine ev_aload_n d_Mod_state_0 rfl rfl ?_
  refine ev_iconst (v := 0) d_Mod_state_1 rfl ?_
  refine ev_put (h2 := (eLV :: (HD d (HF f (HW w (HM m (HS s (HG g (HR (rSThr r 0) tl))))))))) gi_Mod ft_Mod fo_Mod fn_Mod (ci := 6) rfl rfl 0 (by decide) gw_1001 rfl rfl (fun _ => rfl) (fun _ => rfl) (Nat.le_of_ble_eq_true rfl) rfl d_Mod_state_2 ?_
  exact ev_pick [0, 1] rfl (e_B_Mod_state_5     (rSThr r 0) x1)
def B_Mod_report_5   (r : RS) (x1 : Int32) : Option (Int32 × RS) :=
  if ((f_Mod_in x1 0 4).1) = 0 then (some ((-1), r)) else (if inB x1 5 then (some ((rRep r x1.toNatClampNeg), r)) else none)
theorem e_B_Mod_report_5 {sc : Nat × (Nat → Int32)} {d : DS} {f : FS} {w : WS} {m : MS} {s : SS} {g : GS} {tl : List mn_E}    (r : RS) (x1 : Int32) : Ev sc 1 14 0 0 M_Mod_report 5 [(0, .ref 12), (1, .int x1)] [] (eLV :: (HD d (HF f (HW w (HM m (HS s (HG g (HR r tl)))))))) (mapR ouI (fun z => (eLV :: (HD d (HF f (HW w (HM m (HS s (HG g (HR z tl))))))))) (B_Mod_report_5 r x1)) := by
  unfold B_Mod_report_5
  refine ev_iload_n d_Mod_report_5 rfl rfl ?_
  refine ev_iconst (v := 0) d_Mod_report_6 rfl ?_
  refine ev_iconst (v := 4) d_Mod_report_7 rfl ?_
  refine ev_callr (Mc := M_Mod_in) (v := some (.int ((f_Mod_in x1 0 4).1))) (h1 := (eLV :: (HD d (HF f (HW w (HM m (HS s (HG g (HR r tl))))))))) (k2 := 0) (n2 := 0) (inv_S (av := [.int x1, .int 0, .int 4]) (rest := []) d_Mod_report_8 gw_1108 gw_1109 gw_108 mw_Mod_in nh_Mod_in pn_Mod_in rfl) d_Mod_report_8 pl_Mod_in (Nat.le_of_ble_eq_true rfl) (Nat.le_of_ble_eq_true rfl) (Nat.le_of_ble_eq_true rfl) rfl rfl (e_f_Mod_in (hh := (eLV :: (HD d (HF f (HW w (HM m (HS s (HG g (HR r tl)))))))))   x1 0 4) (Or.inl (len1 (lenHD (lenHF (lenHW (lenHM (lenHS (lenHG (lenHR rfl))))))))) ?_
  refine ev_if_eq (tgt := 23) d_Mod_report_11 rfl (fun h1 => ?_) (fun h1 => ?_)
  · rw [if_pos h1]
    refine ev_iconst (v := -1) d_Mod_report_23 rfl ?_
    exact ev_zret (ty := .int) rfl rfl d_Mod_report_24
  · rw [if_neg h1]
    refine ev_aload_n d_Mod_report_14 rfl rfl ?_
    refine ev_get (v := .ref 22) gi_Mod (ci := 6) rfl rfl 21 (by decide) gw_1022 rfl d_Mod_report_15 ?_
    refine ev_iload_n d_Mod_report_18 rfl rfl ?_
    refine ev_inB (fun h2 => ?_)
    refine ev_iaload rfl (inB_of h2) d_Mod_report_19 ?_
    refine ev_goto (tgt := 24) d_Mod_report_20 rfl ?_
    exact ev_zret (ty := .int) rfl rfl d_Mod_report_24
def f_Mod_report   (r : RS) (x1 : Int32) : Option (Int32 × RS) :=
  B_Mod_report_5   (rSThr r 0) x1
theorem e_f_Mod_report {sc : Nat × (Nat → Int32)} {d : DS} {f : FS} {w : WS} {m : MS} {s : SS} {g : GS} {tl : List mn_E}    (r : RS) (x1 : Int32) : Ev sc 1 14 0 0 M_Mod_report 0 [(0, .ref 12), (1, .int x1)] [] (eLV :: (HD d (HF f (HW w (HM m (HS s (HG g (HR r tl)))))))) (mapR ouI (fun z => (eLV :: (HD d (HF f (HW w (HM m (HS s (HG g (HR z tl))))))))) (f_Mod_report r x1)) := by
  unfold f_Mod_report
  refine ev_aload_n d_Mod_report_0 rfl rfl ?_
  refine ev_iconst (v := 0) d_Mod_report_1 rfl ?_
  refine ev_put (h2 := (eLV :: (HD d (HF f (HW w (HM m (HS s (HG g (HR (rSThr r 0) tl))))))))) gi_Mod ft_Mod fo_Mod fn_Mod (ci := 6) rfl rfl 0 (by decide) gw_1001 rfl rfl (fun _ => rfl) (fun _ => rfl) (Nat.le_of_ble_eq_true rfl) rfl d_Mod_report_2 ?_
  exact ev_pick [0, 1] rfl (e_B_Mod_report_5     (rSThr r 0) x1)
