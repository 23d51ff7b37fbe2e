def B_Mod_down_64   (r : RS) (x3 : Int32) : Option (Int32 × RS) :=
  some (x3, r)
theorem e_B_Mod_down_64 {sc : Nat × (Nat → Int32)} {d : DS} {f : FS} {w : WS} {m : MS} {s : SS} {g : GS} {tl : List mn_E}    (r : RS) (x3 : Int32) : Ev sc 4 61 0 0 M_Mod_down 64 [(3, .int x3)] [] (eLV :: (HD d (HF f (HW w (HM m (HS s (HG g (HR r tl)))))))) (mapR ouI (fun z => (eLV :: (HD d (HF f (HW w (HM m (HS s (HG g (HR z tl))))))))) (B_Mod_down_64 r x3)) := by
  unfold B_Mod_down_64
  refine ev_iload_n d_Mod_down_64 rfl rfl ?_
  exact ev_zret (ty := .int) rfl rfl d_Mod_down_65
def B_Mod_down_57  (r10 : RS → Int32 → Int32 → Int32 → Option (Int32 × RS)) (r : RS) (x2 : Int32) (x4 : Int32) (t0 : Int32) : Option (Int32 × RS) :=
  r10 r x2 t0 (x4 + 1)
theorem e_B_Mod_down_57 {sc : Nat × (Nat → Int32)} {d : DS} {f : FS} {w : WS} {m : MS} {s : SS} {g : GS} {tl : List mn_E}  (r10 : RS → Int32 → Int32 → Int32 → Option (Int32 × RS)) (hr10 : ∀ (r : RS) (x2 : Int32) (x3 : Int32) (x4 : Int32), Ev sc 4 61 0 0 M_Mod_down 10 [(0, .ref 12), (2, .int x2), (3, .int x3), (4, .int x4)] [] (eLV :: (HD d (HF f (HW w (HM m (HS s (HG g (HR r tl)))))))) (mapR ouI (fun z => (eLV :: (HD d (HF f (HW w (HM m (HS s (HG g (HR z tl))))))))) (r10 r x2 x3 x4))) (r : RS) (x2 : Int32) (x4 : Int32) (t0 : Int32) : Ev sc 4 61 0 0 M_Mod_down 57 [(0, .ref 12), (2, .int x2), (4, .int x4)] [.int t0] (eLV :: (HD d (HF f (HW w (HM m (HS s (HG g (HR r tl)))))))) (mapR ouI (fun z => (eLV :: (HD d (HF f (HW w (HM m (HS s (HG g (HR z tl))))))))) (B_Mod_down_57 r10 r x2 x4 t0)) := by
  unfold B_Mod_down_57
  refine ev_istore_n d_Mod_down_57 rfl (by decide) rfl ?_
  refine ev_iinc (v := (x4 + 1)) d_Mod_down_58 rfl rfl (by decide) rfl ?_
  refine ev_goto (tgt := 10) d_Mod_down_61 rfl ?_
  exact ev_pick [2, 3, 1, 0] rfl (hr10 r x2 t0 (x4 + 1))
def B_Mod_down_51  (r10 : RS → Int32 → Int32 → Int32 → Option (Int32 × RS)) (r : RS) (x2 : Int32) (x3 : Int32) (x4 : Int32) : Option (Int32 × RS) :=
  bnd (f_Mod_beside r x3 (-1)) (fun q => B_Mod_down_57  r10 q.2 x2 x4 q.1)
theorem e_B_Mod_down_51 {sc : Nat × (Nat → Int32)} {d : DS} {f : FS} {w : WS} {m : MS} {s : SS} {g : GS} {tl : List mn_E}  (r10 : RS → Int32 → Int32 → Int32 → Option (Int32 × RS)) (hr10 : ∀ (r : RS) (x2 : Int32) (x3 : Int32) (x4 : Int32), Ev sc 4 61 0 0 M_Mod_down 10 [(0, .ref 12), (2, .int x2), (3, .int x3), (4, .int x4)] [] (eLV :: (HD d (HF f (HW w (HM m (HS s (HG g (HR r tl)))))))) (mapR ouI (fun z => (eLV :: (HD d (HF f (HW w (HM m (HS s (HG g (HR z tl))))))))) (r10 r x2 x3 x4))) (r : RS) (x2 : Int32) (x3 : Int32) (x4 : Int32) : Ev sc 4 61 0 0 M_Mod_down 51 [(0, .ref 12), (2, .int x2), (3, .int x3), (4, .int x4)] [] (eLV :: (HD d (HF f (HW w (HM m (HS s (HG g (HR r tl)))))))) (mapR ouI (fun z => (eLV :: (HD d (HF f (HW w (HM m (HS s (HG g (HR z tl))))))))) (B_Mod_down_51 r10 r x2 x3 x4)) := by
  unfold B_Mod_down_51
  refine ev_aload_n d_Mod_down_51 rfl rfl ?_
  refine ev_iload_n d_Mod_down_52 rfl rfl ?_
  refine ev_iconst (v := -1) d_Mod_down_53 rfl ?_
  refine ev_callB (rc := (f_Mod_beside r x3 (-1))) (ou := ouI) (Hs := (fun z => (eLV :: (HD d (HF f (HW w (HM m (HS s (HG g (HR z tl)))))))))) (inv_V (q := 12) (av := [.int x3, .int (-1)]) (rest := []) rfl (ci := 6) rfl d_Mod_down_54 gw_1135 gw_1137 gw_57 mw_Mod_beside nh_Mod_beside pn_Mod_beside rfl) d_Mod_down_54 pl_Mod_beside (Nat.le_of_ble_eq_true rfl) (Nat.le_of_ble_eq_true rfl) (Nat.le_of_ble_eq_true rfl) (e_f_Mod_beside (tl := tl) (d := d) (f := f) (w := w) (m := m) (s := s) (g := g)  r x3 (-1)) (fun _ => (len1 (lenHD (lenHF (lenHW (lenHM (lenHS (lenHG (lenHR rfl))))))))) (fun v z h1 => ⟨_, rfl, ?_⟩)
  exact ev_pick [0, 1, 3] rfl (e_B_Mod_down_57   r10 hr10 z x2 x4 v)
def B_Mod_down_41  (r10 : RS → Int32 → Int32 → Int32 → Option (Int32 × RS)) (r : RS) (x2 : Int32) (x3 : Int32) (x4 : Int32) : Option (Int32 × RS) :=
  B_Mod_down_51  r10 (rSRws r ((rRws r) + 1)) x2 x3 x4
theorem e_B_Mod_down_41 {sc : Nat × (Nat → Int32)} {d : DS} {f : FS} {w : WS} {m : MS} {s : SS} {g : GS} {tl : List mn_E}  (r10 : RS → Int32 → Int32 → Int32 → Option (Int32 × RS)) (hr10 : ∀ (r : RS) (x2 : Int32) (x3 : Int32) (x4 : Int32), Ev sc 4 61 0 0 M_Mod_down 10 [(0, .ref 12), (2, .int x2), (3, .int x3), (4, .int x4)] [] (eLV :: (HD d (HF f (HW w (HM m (HS s (HG g (HR r tl)))))))) (mapR ouI (fun z => (eLV :: (HD d (HF f (HW w (HM m (HS s (HG g (HR z tl))))))))) (r10 r x2 x3 x4))) (r : RS) (x2 : Int32) (x3 : Int32) (x4 : Int32) : Ev sc 4 61 0 0 M_Mod_down 41 [(0, .ref 12), (2, .int x2), (3, .int x3), (4, .int x4)] [] (eLV :: (HD d (HF f (HW w (HM m (HS s (HG g (HR r tl)))))))) (mapR ouI (fun z => (eLV :: (HD d (HF f (HW w (HM m (HS s (HG g (HR z tl))))))))) (B_Mod_down_41 r10 r x2 x3 x4)) := by
  unfold B_Mod_down_41
  refine ev_aload_n d_Mod_down_41 rfl rfl ?_
  refine ev_aload_n d_Mod_down_42 rfl rfl ?_
  refine ev_get (v := .int (rRws r)) gi_Mod (ci := 6) rfl rfl 23 (by decide) gw_1024 rfl d_Mod_down_43 ?_
  refine ev_iconst (v := 1) d_Mod_down_46 rfl ?_
  refine ev_iadd d_Mod_down_47 ?_
  refine ev_put (h2 := (eLV :: (HD d (HF f (HW w (HM m (HS s (HG g (HR (rSRws r ((rRws r) + 1)) tl))))))))) gi_Mod ft_Mod fo_Mod fn_Mod (ci := 6) rfl rfl 23 (by decide) gw_1024 rfl rfl (fun _ => rfl) (fun _ => rfl) (Nat.le_of_ble_eq_true rfl) rfl d_Mod_down_48 ?_
  exact ev_pick [0, 1, 2, 3] rfl (e_B_Mod_down_51   r10 hr10 (rSRws r ((rRws r) + 1)) x2 x3 x4)
def L_Mod_down_10   : Nat → RS → Int32 → Int32 → Int32 → Option (Int32 × RS)
  | 0, _, _, _, _ => none
  | n + 1, r, x2, x3, x4 =>
  if 50 ≤ x4 then (B_Mod_down_64   r x3) else (if x3 < 0 then (B_Mod_down_64   r x3) else (if inB x3 40 then (if (rPag r x3.toNatClampNeg) ≤ x2 then (B_Mod_down_64   r x3) else (if inB (rRws r) 40 then (B_Mod_down_41  (L_Mod_down_10 n) (rSRow r (upd (rRow r) (rRws r).toNatClampNeg x3)) x2 x3 x4) else none)) else none))
theorem e_L_Mod_down_10 {sc : Nat × (Nat → Int32)} {d : DS} {f : FS} {w : WS} {m : MS} {s : SS} {g : GS} {tl : List mn_E}    : ∀ (n : Nat) (r : RS) (x2 : Int32) (x3 : Int32) (x4 : Int32), Ev sc 4 61 0 0 M_Mod_down 10 [(0, .ref 12), (2, .int x2), (3, .int x3), (4, .int x4)] [] (eLV :: (HD d (HF f (HW w (HM m (HS s (HG g (HR r tl)))))))) (mapR ouI (fun z => (eLV :: (HD d (HF f (HW w (HM m (HS s (HG g (HR z tl))))))))) (L_Mod_down_10   n r x2 x3 x4)) := by
  intro n
  induction n with
  | zero => intro r x2 x3 x4; exact ev_none
  | succ n ih =>
    intro r x2 x3 x4
    rw [L_Mod_down_10]
    refine ev_iload d_Mod_down_10 rfl ?_
    refine ev_bipush (v := 50) d_Mod_down_12 rfl ?_
    refine ev_icmp_ge (tgt := 64) d_Mod_down_14 rfl (fun h1 => ?_) (fun h1 => ?_)
    · rw [if_pos h1]
      exact ev_pick [2] rfl (e_B_Mod_down_64     r x3)
    · rw [if_neg h1]
      refine ev_iload_n d_Mod_down_17 rfl rfl ?_
      refine ev_if_lt (tgt := 64) d_Mod_down_18 rfl (fun h2 => ?_) (fun h2 => ?_)
      · rw [if_pos h2]
        exact ev_pick [2] rfl (e_B_Mod_down_64     r x3)
      · rw [if_neg h2]
        refine ev_aload_n d_Mod_down_21 rfl rfl ?_
        refine ev_get (v := .ref 14) gi_Mod (ci := 6) rfl rfl 3 (by decide) gw_1004 rfl d_Mod_down_22 ?_
        refine ev_iload_n d_Mod_down_25 rfl rfl ?_
        refine ev_inB (fun h3 => ?_)
        refine ev_iaload rfl (inB_of h3) d_Mod_down_26 ?_
        refine ev_iload_n d_Mod_down_27 rfl rfl ?_
        refine ev_icmp_le (tgt := 64) d_Mod_down_28 rfl (fun h4 => ?_) (fun h4 => ?_)
        · rw [if_pos h4]
          exact ev_pick [2] rfl (e_B_Mod_down_64     r x3)
        · rw [if_neg h4]
          refine ev_aload_n d_Mod_down_31 rfl rfl ?_
          refine ev_get (v := .ref 23) gi_Mod (ci := 6) rfl rfl 22 (by decide) gw_1023 rfl d_Mod_down_32 ?_
          refine ev_aload_n d_Mod_down_35 rfl rfl ?_
          refine ev_get (v := .int (rRws r)) gi_Mod (ci := 6) rfl rfl 23 (by decide) gw_1024 rfl d_Mod_down_36 ?_
          refine ev_iload_n d_Mod_down_39 rfl rfl ?_
          refine ev_inB (fun h5 => ?_)
          refine ev_iastore (h2 := (eLV :: (HD d (HF f (HW w (HM m (HS s (HG g (HR (rSRow r (upd (rRow r) (rRws r).toNatClampNeg x3)) tl))))))))) rfl (inB_of h5) rfl d_Mod_down_40 ?_
          exact ev_pick [0, 1, 2, 3] rfl (e_B_Mod_down_41   (L_Mod_down_10 n) ih (rSRow r (upd (rRow r) (rRws r).toNatClampNeg x3)) x2 x3 x4)
def B_Mod_down_5   (r : RS) (x1 : Int32) (x2 : Int32) : Option (Int32 × RS) :=
  L_Mod_down_10   1000 r x2 x1 0
theorem e_B_Mod_down_5 {sc : Nat × (Nat → Int32)} {d : DS} {f : FS} {w : WS} {m : MS} {s : SS} {g : GS} {tl : List mn_E}    (r : RS) (x1 : Int32) (x2 : Int32) : Ev sc 4 61 0 0 M_Mod_down 5 [(0, .ref 12), (1, .int x1), (2, .int x2)] [] (eLV :: (HD d (HF f (HW w (HM m (HS s (HG g (HR r tl)))))))) (mapR ouI (fun z => (eLV :: (HD d (HF f (HW w (HM m (HS s (HG g (HR z tl))))))))) (B_Mod_down_5 r x1 x2)) := by
  unfold B_Mod_down_5
  refine ev_iload_n d_Mod_down_5 rfl rfl ?_
  refine ev_istore_n d_Mod_down_6 rfl (by decide) rfl ?_
  refine ev_iconst (v := 0) d_Mod_down_7 rfl ?_
  refine ev_istore d_Mod_down_8 (by decide) rfl ?_
  exact ev_pick [2, 4, 1, 0] rfl (e_L_Mod_down_10     1000 r x2 x1 0)
def f_Mod_down   (r : RS) (x1 : Int32) (x2 : Int32) : Option (Int32 × RS) :=
  B_Mod_down_5   (rSRws r 0) x1 x2
theorem e_f_Mod_down {sc : Nat × (Nat → Int32)} {d : DS} {f : FS} {w : WS} {m : MS} {s : SS} {g : GS} {tl : List mn_E}    (r : RS) (x1 : Int32) (x2 : Int32) : Ev sc 4 61 0 0 M_Mod_down 0 [(0, .ref 12), (1, .int x1), (2, .int x2)] [] (eLV :: (HD d (HF f (HW w (HM m (HS s (HG g (HR r tl)))))))) (mapR ouI (fun z => (eLV :: (HD d (HF f (HW w (HM m (HS s (HG g (HR z tl))))))))) (f_Mod_down r x1 x2)) := by
  unfold f_Mod_down
  refine ev_aload_n d_Mod_down_0 rfl rfl ?_
  refine ev_iconst (v := 0) d_Mod_down_1 rfl ?_
  refine ev_put (h2 := (eLV :: (HD d (HF f (HW w (HM m (HS s (HG g (HR (rSRws r 0) tl))))))))) gi_Mod ft_Mod fo_Mod fn_Mod (ci := 6) rfl rfl 23 (by decide) gw_1024 rfl rfl (fun _ => rfl) (fun _ => rfl) (Nat.le_of_ble_eq_true rfl) rfl d_Mod_down_2 ?_
  exact ev_pick [0, 1, 2] rfl (e_B_Mod_down_5     (rSRws r 0) x1 x2)
def B_Mod_shortened_203   (r : RS) : Option (Unit × RS) :=
  some ((), r)
theorem e_B_Mod_shortened_203 {sc : Nat × (Nat → Int32)} {d : DS} {f : FS} {w : WS} {m : MS} {s : SS} {g : GS} {tl : List mn_E}    (r : RS) : Ev sc 5 77 0 0 M_Mod_shortened 203 [] [] (eLV :: (HD d (HF f (HW w (HM m (HS s (HG g (HR r tl)))))))) (mapR ouV (fun z => (eLV :: (HD d (HF f (HW w (HM m (HS s (HG g (HR z tl))))))))) (B_Mod_shortened_203 r)) := by
  unfold B_Mod_shortened_203
  exact ev_vret rfl d_Mod_shortened_203
def B_Mod_shortened_192   (r : RS) : Option (Unit × RS) :=
  if (rRws r) ≤ 0 then (B_Mod_shortened_203   r) else (bnd (f_Mod_putMap r) (fun q => B_Mod_shortened_203   q.2))
theorem e_B_Mod_shortened_192 {sc : Nat × (Nat → Int32)} {d : DS} {f : FS} {w : WS} {m : MS} {s : SS} {g : GS} {tl : List mn_E}    (r : RS) : Ev sc 5 77 0 0 M_Mod_shortened 192 [(0, .ref 12)] [] (eLV :: (HD d (HF f (HW w (HM m (HS s (HG g (HR r tl)))))))) (mapR ouV (fun z => (eLV :: (HD d (HF f (HW w (HM m (HS s (HG g (HR z tl))))))))) (B_Mod_shortened_192 r)) := by
  unfold B_Mod_shortened_192
  refine ev_aload_n d_Mod_shortened_192 rfl rfl ?_
  refine ev_get (v := .int (rRws r)) gi_Mod (ci := 6) rfl rfl 23 (by decide) gw_1024 rfl d_Mod_shortened_193 ?_
  refine ev_if_le (tgt := 203) d_Mod_shortened_196 rfl (fun h1 => ?_) (fun h1 => ?_)
  · rw [if_pos h1]
    exact ev_pick [] rfl (e_B_Mod_shortened_203     r)
  · rw [if_neg h1]
    refine ev_aload_n d_Mod_shortened_199 rfl rfl ?_
    refine ev_callB (rc := (f_Mod_putMap r)) (ou := ouV) (Hs := (fun z => (eLV :: (HD d (HF f (HW w (HM m (HS s (HG g (HR z tl)))))))))) (inv_V (q := 12) (av := []) (rest := []) rfl (ci := 6) rfl d_Mod_shortened_200 gw_1183 gw_1185 gw_69 mw_Mod_putMap nh_Mod_putMap pn_Mod_putMap rfl) d_Mod_shortened_200 pl_Mod_putMap (Nat.le_of_ble_eq_true rfl) (Nat.le_of_ble_eq_true rfl) (Nat.le_of_ble_eq_true rfl) (e_f_Mod_putMap (tl := tl) (d := d) (f := f) (w := w) (m := m) (s := s) (g := g)  r ) (fun _ => (len1 (lenHD (lenHF (lenHW (lenHM (lenHS (lenHG (lenHR rfl))))))))) (fun v z h2 => ⟨_, rfl, ?_⟩)
    exact ev_pick [] rfl (e_B_Mod_shortened_203     z)
def B_Mod_shortened_176   (r : RS) (x1 : Int32) (x5 : Int32) (t0 : Int32) : Option (Unit × RS) :=
  if t0 = 0 then (B_Mod_shortened_192   r) else (if inB ((8 * x1) + 3) 320 then (B_Mod_shortened_192   (rSByt r (upd (rByt r) ((8 * x1) + 3).toNatClampNeg x5))) else none)
theorem e_B_Mod_shortened_176 {sc : Nat × (Nat → Int32)} {d : DS} {f : FS} {w : WS} {m : MS} {s : SS} {g : GS} {tl : List mn_E}    (r : RS) (x1 : Int32) (x5 : Int32) (t0 : Int32) : Ev sc 5 77 0 0 M_Mod_shortened 176 [(0, .ref 12), (1, .int x1), (5, .int x5)] [.int t0] (eLV :: (HD d (HF f (HW w (HM m (HS s (HG g (HR r tl)))))))) (mapR ouV (fun z => (eLV :: (HD d (HF f (HW w (HM m (HS s (HG g (HR z tl))))))))) (B_Mod_shortened_176 r x1 x5 t0)) := by
  unfold B_Mod_shortened_176
  refine ev_if_eq (tgt := 192) d_Mod_shortened_176 rfl (fun h1 => ?_) (fun h1 => ?_)
  · rw [if_pos h1]
    exact ev_pick [0] rfl (e_B_Mod_shortened_192     r)
  · rw [if_neg h1]
    refine ev_aload_n d_Mod_shortened_179 rfl rfl ?_
    refine ev_get (v := .ref 18) gi_Mod (ci := 6) rfl rfl 7 (by decide) gw_1008 rfl d_Mod_shortened_180 ?_
    refine ev_bipush (v := 8) d_Mod_shortened_183 rfl ?_
    refine ev_iload_n d_Mod_shortened_185 rfl rfl ?_
    refine ev_imul d_Mod_shortened_186 ?_
    refine ev_iconst (v := 3) d_Mod_shortened_187 rfl ?_
    refine ev_iadd d_Mod_shortened_188 ?_
    refine ev_iload d_Mod_shortened_189 rfl ?_
    refine ev_inB (fun h2 => ?_)
    refine ev_iastore (h2 := (eLV :: (HD d (HF f (HW w (HM m (HS s (HG g (HR (rSByt r (upd (rByt r) ((8 * x1) + 3).toNatClampNeg x5)) tl))))))))) rfl (inB_of h2) rfl d_Mod_shortened_191 ?_
    exact ev_pick [0] rfl (e_B_Mod_shortened_192     (rSByt r (upd (rByt r) ((8 * x1) + 3).toNatClampNeg x5)))
def B_Mod_shortened_159   (r : RS) (x1 : Int32) (x5 : Int32) : Option (Unit × RS) :=
  if (rRws r) ≤ 0 then (B_Mod_shortened_192   r) else (if x5 = x1 then (B_Mod_shortened_192   r) else (B_Mod_shortened_176   ((f_Mod_writes r).2) x1 x5 ((f_Mod_writes r).1)))
theorem e_B_Mod_shortened_159 {sc : Nat × (Nat → Int32)} {d : DS} {f : FS} {w : WS} {m : MS} {s : SS} {g : GS} {tl : List mn_E}    (r : RS) (x1 : Int32) (x5 : Int32) : Ev sc 5 77 0 0 M_Mod_shortened 159 [(0, .ref 12), (1, .int x1), (5, .int x5)] [] (eLV :: (HD d (HF f (HW w (HM m (HS s (HG g (HR r tl)))))))) (mapR ouV (fun z => (eLV :: (HD d (HF f (HW w (HM m (HS s (HG g (HR z tl))))))))) (B_Mod_shortened_159 r x1 x5)) := by
  unfold B_Mod_shortened_159
  refine ev_aload_n d_Mod_shortened_159 rfl rfl ?_
  refine ev_get (v := .int (rRws r)) gi_Mod (ci := 6) rfl rfl 23 (by decide) gw_1024 rfl d_Mod_shortened_160 ?_
  refine ev_if_le (tgt := 192) d_Mod_shortened_163 rfl (fun h1 => ?_) (fun h1 => ?_)
  · rw [if_pos h1]
    exact ev_pick [0] rfl (e_B_Mod_shortened_192     r)
  · rw [if_neg h1]
    refine ev_iload d_Mod_shortened_166 rfl ?_
    refine ev_iload_n d_Mod_shortened_168 rfl rfl ?_
    refine ev_icmp_eq (tgt := 192) d_Mod_shortened_169 rfl (fun h2 => ?_) (fun h2 => ?_)
    · rw [if_pos h2]
      exact ev_pick [0] rfl (e_B_Mod_shortened_192     r)
    · rw [if_neg h2]
      refine ev_aload_n d_Mod_shortened_172 rfl rfl ?_
      refine ev_callr (Mc := M_Mod_writes) (v := some (.int ((f_Mod_writes r).1))) (h1 := (eLV :: (HD d (HF f (HW w (HM m (HS s (HG g (HR ((f_Mod_writes r).2) tl))))))))) (k2 := 0) (n2 := 0) (inv_V (q := 12) (av := []) (rest := []) rfl (ci := 6) rfl d_Mod_shortened_173 gw_1163 gw_1165 gw_64 mw_Mod_writes nh_Mod_writes pn_Mod_writes rfl) d_Mod_shortened_173 pl_Mod_writes (Nat.le_of_ble_eq_true rfl) (Nat.le_of_ble_eq_true rfl) (Nat.le_of_ble_eq_true rfl) rfl rfl (e_f_Mod_writes (tl := tl) (d := d) (f := f) (w := w) (m := m) (s := s) (g := g)  r ) (Or.inl (len1 (lenHD (lenHF (lenHW (lenHM (lenHS (lenHG (lenHR rfl))))))))) ?_
      exact ev_pick [0, 1, 2] rfl (e_B_Mod_shortened_176     ((f_Mod_writes r).2) x1 x5 ((f_Mod_writes r).1))
def B_Mod_shortened_141   (r : RS) (x1 : Int32) (x5 : Int32) : Option (Unit × RS) :=
  if ¬ x5 = x1 then (B_Mod_shortened_159   r x1 x5) else (if inB ((8 * x1) + 3) 320 then (B_Mod_shortened_159   (rSByt r (upd (rByt r) ((8 * x1) + 3).toNatClampNeg x1)) x1 x5) else none)
theorem e_B_Mod_shortened_141 {sc : Nat × (Nat → Int32)} {d : DS} {f : FS} {w : WS} {m : MS} {s : SS} {g : GS} {tl : List mn_E}    (r : RS) (x1 : Int32) (x5 : Int32) : Ev sc 5 77 0 0 M_Mod_shortened 141 [(0, .ref 12), (1, .int x1), (5, .int x5)] [] (eLV :: (HD d (HF f (HW w (HM m (HS s (HG g (HR r tl)))))))) (mapR ouV (fun z => (eLV :: (HD d (HF f (HW w (HM m (HS s (HG g (HR z tl))))))))) (B_Mod_shortened_141 r x1 x5)) := by
  unfold B_Mod_shortened_141
  refine ev_iload d_Mod_shortened_141 rfl ?_
  refine ev_iload_n d_Mod_shortened_143 rfl rfl ?_
  refine ev_icmp_ne (tgt := 159) d_Mod_shortened_144 rfl (fun h1 => ?_) (fun h1 => ?_)
  · rw [if_pos h1]
    exact ev_pick [0, 1, 2] rfl (e_B_Mod_shortened_159     r x1 x5)
  · rw [if_neg h1]
    refine ev_aload_n d_Mod_shortened_147 rfl rfl ?_
    refine ev_get (v := .ref 18) gi_Mod (ci := 6) rfl rfl 7 (by decide) gw_1008 rfl d_Mod_shortened_148 ?_
    refine ev_bipush (v := 8) d_Mod_shortened_151 rfl ?_
    refine ev_iload_n d_Mod_shortened_153 rfl rfl ?_
    refine ev_imul d_Mod_shortened_154 ?_
    refine ev_iconst (v := 3) d_Mod_shortened_155 rfl ?_
    refine ev_iadd d_Mod_shortened_156 ?_
    refine ev_iload_n d_Mod_shortened_157 rfl rfl ?_
    refine ev_inB (fun h2 => ?_)
    refine ev_iastore (h2 := (eLV :: (HD d (HF f (HW w (HM m (HS s (HG g (HR (rSByt r (upd (rByt r) ((8 * x1) + 3).toNatClampNeg x1)) tl))))))))) rfl (inB_of h2) rfl d_Mod_shortened_158 ?_
    exact ev_pick [0, 1, 2] rfl (e_B_Mod_shortened_159     (rSByt r (upd (rByt r) ((8 * x1) + 3).toNatClampNeg x1)) x1 x5)
def B_Mod_shortened_135  (r109 : RS → Int32 → Int32 → Int32 → Int32 → Option (Unit × RS)) (r : RS) (x1 : Int32) (x4 : Int32) (x5 : Int32) (x6 : Int32) : Option (Unit × RS) :=
  r109 r x1 x4 x5 (x6 + 1)
theorem e_B_Mod_shortened_135 {sc : Nat × (Nat → Int32)} {d : DS} {f : FS} {w : WS} {m : MS} {s : SS} {g : GS} {tl : List mn_E}  (r109 : RS → Int32 → Int32 → Int32 → Int32 → Option (Unit × RS)) (hr109 : ∀ (r : RS) (x1 : Int32) (x4 : Int32) (x5 : Int32) (x6 : Int32), Ev sc 5 77 0 0 M_Mod_shortened 109 [(0, .ref 12), (1, .int x1), (4, .int x4), (5, .int x5), (6, .int x6)] [] (eLV :: (HD d (HF f (HW w (HM m (HS s (HG g (HR r tl)))))))) (mapR ouV (fun z => (eLV :: (HD d (HF f (HW w (HM m (HS s (HG g (HR z tl))))))))) (r109 r x1 x4 x5 x6))) (r : RS) (x1 : Int32) (x4 : Int32) (x5 : Int32) (x6 : Int32) : Ev sc 5 77 0 0 M_Mod_shortened 135 [(0, .ref 12), (1, .int x1), (4, .int x4), (5, .int x5), (6, .int x6)] [] (eLV :: (HD d (HF f (HW w (HM m (HS s (HG g (HR r tl)))))))) (mapR ouV (fun z => (eLV :: (HD d (HF f (HW w (HM m (HS s (HG g (HR z tl))))))))) (B_Mod_shortened_135 r109 r x1 x4 x5 x6)) := by
  unfold B_Mod_shortened_135
  refine ev_iinc (v := (x6 + 1)) d_Mod_shortened_135 rfl rfl (by decide) rfl ?_
  refine ev_goto (tgt := 109) d_Mod_shortened_138 rfl ?_
  exact ev_pick [1, 2, 3, 4, 0] rfl (hr109 r x1 x4 x5 (x6 + 1))
def L_Mod_shortened_109   : Nat → RS → Int32 → Int32 → Int32 → Int32 → Option (Unit × RS)
  | 0, _, _, _, _, _ => none
  | n + 1, r, x1, x4, x5, x6 =>
  if 8 ≤ x6 then (B_Mod_shortened_141   r x1 x5) else (if x4 ≤ 0 then (B_Mod_shortened_141   r x1 x5) else (if inB ((8 * x5) + x6) 320 then (B_Mod_shortened_135  (L_Mod_shortened_109 n) (rSByt r (upd (rByt r) ((8 * x5) + x6).toNatClampNeg 0)) x1 x4 x5 x6) else none))
theorem e_L_Mod_shortened_109 {sc : Nat × (Nat → Int32)} {d : DS} {f : FS} {w : WS} {m : MS} {s : SS} {g : GS} {tl : List mn_E}    : ∀ (n : Nat) (r : RS) (x1 : Int32) (x4 : Int32) (x5 : Int32) (x6 : Int32), Ev sc 5 77 0 0 M_Mod_shortened 109 [(0, .ref 12), (1, .int x1), (4, .int x4), (5, .int x5), (6, .int x6)] [] (eLV :: (HD d (HF f (HW w (HM m (HS s (HG g (HR r tl)))))))) (mapR ouV (fun z => (eLV :: (HD d (HF f (HW w (HM m (HS s (HG g (HR z tl))))))))) (L_Mod_shortened_109   n r x1 x4 x5 x6)) := by
  intro n
  induction n with
  | zero => intro r x1 x4 x5 x6; exact ev_none
  | succ n ih =>
    intro r x1 x4 x5 x6
    rw [L_Mod_shortened_109]
    refine ev_iload d_Mod_shortened_109 rfl ?_
    refine ev_bipush (v := 8) d_Mod_shortened_111 rfl ?_
    refine ev_icmp_ge (tgt := 141) d_Mod_shortened_113 rfl (fun h1 => ?_) (fun h1 => ?_)
    · rw [if_pos h1]
      exact ev_pick [0, 1, 3] rfl (e_B_Mod_shortened_141     r x1 x5)
    · rw [if_neg h1]
      refine ev_iload d_Mod_shortened_116 rfl ?_
      refine ev_if_le (tgt := 141) d_Mod_shortened_118 rfl (fun h2 => ?_) (fun h2 => ?_)
      · rw [if_pos h2]
        exact ev_pick [0, 1, 3] rfl (e_B_Mod_shortened_141     r x1 x5)
      · rw [if_neg h2]
        refine ev_aload_n d_Mod_shortened_121 rfl rfl ?_
        refine ev_get (v := .ref 18) gi_Mod (ci := 6) rfl rfl 7 (by decide) gw_1008 rfl d_Mod_shortened_122 ?_
        refine ev_bipush (v := 8) d_Mod_shortened_125 rfl ?_
        refine ev_iload d_Mod_shortened_127 rfl ?_
        refine ev_imul d_Mod_shortened_129 ?_
        refine ev_iload d_Mod_shortened_130 rfl ?_
        refine ev_iadd d_Mod_shortened_132 ?_
        refine ev_iconst (v := 0) d_Mod_shortened_133 rfl ?_
        refine ev_inB (fun h3 => ?_)
        refine ev_iastore (h2 := (eLV :: (HD d (HF f (HW w (HM m (HS s (HG g (HR (rSByt r (upd (rByt r) ((8 * x5) + x6).toNatClampNeg 0)) tl))))))))) rfl (inB_of h3) rfl d_Mod_shortened_134 ?_
        exact ev_pick [0, 1, 2, 3, 4] rfl (e_B_Mod_shortened_135   (L_Mod_shortened_109 n) ih (rSByt r (upd (rByt r) ((8 * x5) + x6).toNatClampNeg 0)) x1 x4 x5 x6)
def B_Mod_shortened_100   (r : RS) (x1 : Int32) (x4 : Int32) (x5 : Int32) : Option (Unit × RS) :=
  if inB x5 40 then (L_Mod_shortened_109   1000 r x1 x4 x5 (rUse r x5.toNatClampNeg)) else none
theorem e_B_Mod_shortened_100 {sc : Nat × (Nat → Int32)} {d : DS} {f : FS} {w : WS} {m : MS} {s : SS} {g : GS} {tl : List mn_E}    (r : RS) (x1 : Int32) (x4 : Int32) (x5 : Int32) : Ev sc 5 77 0 0 M_Mod_shortened 100 [(0, .ref 12), (1, .int x1), (4, .int x4), (5, .int x5)] [] (eLV :: (HD d (HF f (HW w (HM m (HS s (HG g (HR r tl)))))))) (mapR ouV (fun z => (eLV :: (HD d (HF f (HW w (HM m (HS s (HG g (HR z tl))))))))) (B_Mod_shortened_100 r x1 x4 x5)) := by
  unfold B_Mod_shortened_100
  refine ev_aload_n d_Mod_shortened_100 rfl rfl ?_
  refine ev_get (v := .ref 15) gi_Mod (ci := 6) rfl rfl 4 (by decide) gw_1005 rfl d_Mod_shortened_101 ?_
  refine ev_iload d_Mod_shortened_104 rfl ?_
  refine ev_inB (fun h1 => ?_)
  refine ev_iaload rfl (inB_of h1) d_Mod_shortened_106 ?_
  refine ev_istore d_Mod_shortened_107 (by decide) rfl ?_
  exact ev_pick [1, 2, 3, 4, 0] rfl (e_L_Mod_shortened_109     1000 r x1 x4 x5 (rUse r x5.toNatClampNeg))
def B_Mod_shortened_79   (r : RS) (x1 : Int32) (x3 : Int32) (x4 : Int32) (x5 : Int32) : Option (Unit × RS) :=
  if x4 ≤ 0 then (B_Mod_shortened_100   r x1 x4 x5) else (if inB x5 40 then (B_Mod_shortened_100   (rSUse r (upd (rUse r) x5.toNatClampNeg (x3 - (8 * (x4 - 1))))) x1 x4 x5) else none)
theorem e_B_Mod_shortened_79 {sc : Nat × (Nat → Int32)} {d : DS} {f : FS} {w : WS} {m : MS} {s : SS} {g : GS} {tl : List mn_E}    (r : RS) (x1 : Int32) (x3 : Int32) (x4 : Int32) (x5 : Int32) : Ev sc 5 77 0 0 M_Mod_shortened 79 [(0, .ref 12), (1, .int x1), (3, .int x3), (4, .int x4), (5, .int x5)] [] (eLV :: (HD d (HF f (HW w (HM m (HS s (HG g (HR r tl)))))))) (mapR ouV (fun z => (eLV :: (HD d (HF f (HW w (HM m (HS s (HG g (HR z tl))))))))) (B_Mod_shortened_79 r x1 x3 x4 x5)) := by
  unfold B_Mod_shortened_79
  refine ev_iload d_Mod_shortened_79 rfl ?_
  refine ev_if_le (tgt := 100) d_Mod_shortened_81 rfl (fun h1 => ?_) (fun h1 => ?_)
  · rw [if_pos h1]
    exact ev_pick [0, 1, 3, 4] rfl (e_B_Mod_shortened_100     r x1 x4 x5)
  · rw [if_neg h1]
    refine ev_aload_n d_Mod_shortened_84 rfl rfl ?_
    refine ev_get (v := .ref 15) gi_Mod (ci := 6) rfl rfl 4 (by decide) gw_1005 rfl d_Mod_shortened_85 ?_
    refine ev_iload d_Mod_shortened_88 rfl ?_
    refine ev_iload_n d_Mod_shortened_90 rfl rfl ?_
    refine ev_bipush (v := 8) d_Mod_shortened_91 rfl ?_
    refine ev_iload d_Mod_shortened_93 rfl ?_
    refine ev_iconst (v := 1) d_Mod_shortened_95 rfl ?_
    refine ev_isub d_Mod_shortened_96 ?_
    refine ev_imul d_Mod_shortened_97 ?_
    refine ev_isub d_Mod_shortened_98 ?_
    refine ev_inB (fun h2 => ?_)
    refine ev_iastore (h2 := (eLV :: (HD d (HF f (HW w (HM m (HS s (HG g (HR (rSUse r (upd (rUse r) x5.toNatClampNeg (x3 - (8 * (x4 - 1))))) tl))))))))) rfl (inB_of h2) rfl d_Mod_shortened_99 ?_
    exact ev_pick [0, 1, 3, 4] rfl (e_B_Mod_shortened_100     (rSUse r (upd (rUse r) x5.toNatClampNeg (x3 - (8 * (x4 - 1))))) x1 x4 x5)
def B_Mod_shortened_68   (r : RS) (x1 : Int32) (x3 : Int32) (x4 : Int32) (x5 : Int32) (t0 : Int32) : Option (Unit × RS) :=
  if t0 = 0 then (B_Mod_shortened_159   r x1 x5) else (if inB x5 40 then (B_Mod_shortened_79   (rSNex r (upd (rNex r) x5.toNatClampNeg (-1))) x1 x3 x4 x5) else none)
theorem e_B_Mod_shortened_68 {sc : Nat × (Nat → Int32)} {d : DS} {f : FS} {w : WS} {m : MS} {s : SS} {g : GS} {tl : List mn_E}    (r : RS) (x1 : Int32) (x3 : Int32) (x4 : Int32) (x5 : Int32) (t0 : Int32) : Ev sc 5 77 0 0 M_Mod_shortened 68 [(0, .ref 12), (1, .int x1), (3, .int x3), (4, .int x4), (5, .int x5)] [.int t0] (eLV :: (HD d (HF f (HW w (HM m (HS s (HG g (HR r tl)))))))) (mapR ouV (fun z => (eLV :: (HD d (HF f (HW w (HM m (HS s (HG g (HR z tl))))))))) (B_Mod_shortened_68 r x1 x3 x4 x5 t0)) := by
  unfold B_Mod_shortened_68
  refine ev_if_eq (tgt := 159) d_Mod_shortened_68 rfl (fun h1 => ?_) (fun h1 => ?_)
  · rw [if_pos h1]
    exact ev_pick [0, 1, 4] rfl (e_B_Mod_shortened_159     r x1 x5)
  · rw [if_neg h1]
    refine ev_aload_n d_Mod_shortened_71 rfl rfl ?_
    refine ev_get (v := .ref 16) gi_Mod (ci := 6) rfl rfl 5 (by decide) gw_1006 rfl d_Mod_shortened_72 ?_
    refine ev_iload d_Mod_shortened_75 rfl ?_
    refine ev_iconst (v := -1) d_Mod_shortened_77 rfl ?_
    refine ev_inB (fun h2 => ?_)
    refine ev_iastore (h2 := (eLV :: (HD d (HF f (HW w (HM m (HS s (HG g (HR (rSNex r (upd (rNex r) x5.toNatClampNeg (-1))) tl))))))))) rfl (inB_of h2) rfl d_Mod_shortened_78 ?_
    exact ev_pick [0, 1, 2, 3, 4] rfl (e_B_Mod_shortened_79     (rSNex r (upd (rNex r) x5.toNatClampNeg (-1))) x1 x3 x4 x5)
def B_Mod_shortened_58  (r38 : RS → Int32 → Int32 → Int32 → Int32 → Int32 → Option (Unit × RS)) (r : RS) (x1 : Int32) (x3 : Int32) (x4 : Int32) (x5 : Int32) (x6 : Int32) : Option (Unit × RS) :=
  r38 r x1 x3 x4 x5 (x6 + 1)
theorem e_B_Mod_shortened_58 {sc : Nat × (Nat → Int32)} {d : DS} {f : FS} {w : WS} {m : MS} {s : SS} {g : GS} {tl : List mn_E}  (r38 : RS → Int32 → Int32 → Int32 → Int32 → Int32 → Option (Unit × RS)) (hr38 : ∀ (r : RS) (x1 : Int32) (x3 : Int32) (x4 : Int32) (x5 : Int32) (x6 : Int32), Ev sc 5 77 0 0 M_Mod_shortened 38 [(0, .ref 12), (1, .int x1), (3, .int x3), (4, .int x4), (5, .int x5), (6, .int x6)] [] (eLV :: (HD d (HF f (HW w (HM m (HS s (HG g (HR r tl)))))))) (mapR ouV (fun z => (eLV :: (HD d (HF f (HW w (HM m (HS s (HG g (HR z tl))))))))) (r38 r x1 x3 x4 x5 x6))) (r : RS) (x1 : Int32) (x3 : Int32) (x4 : Int32) (x5 : Int32) (x6 : Int32) : Ev sc 5 77 0 0 M_Mod_shortened 58 [(0, .ref 12), (1, .int x1), (3, .int x3), (4, .int x4), (5, .int x5), (6, .int x6)] [] (eLV :: (HD d (HF f (HW w (HM m (HS s (HG g (HR r tl)))))))) (mapR ouV (fun z => (eLV :: (HD d (HF f (HW w (HM m (HS s (HG g (HR z tl))))))))) (B_Mod_shortened_58 r38 r x1 x3 x4 x5 x6)) := by
  unfold B_Mod_shortened_58
  refine ev_iinc (v := (x6 + 1)) d_Mod_shortened_58 rfl rfl (by decide) rfl ?_
  refine ev_goto (tgt := 38) d_Mod_shortened_61 rfl ?_
  exact ev_pick [1, 2, 3, 4, 5, 0] rfl (hr38 r x1 x3 x4 x5 (x6 + 1))
def L_Mod_shortened_38   : Nat → RS → Int32 → Int32 → Int32 → Int32 → Int32 → Option (Unit × RS)
  | 0, _, _, _, _, _, _ => none
  | n + 1, r, x1, x3, x4, x5, x6 =>
  if (rRws r) ≤ x6 then (B_Mod_shortened_68   ((f_Mod_writes r).2) x1 x3 x4 x5 ((f_Mod_writes r).1)) else (if inB x6 40 then (bnd (f_Mod_free r (rRow r x6.toNatClampNeg)) (fun q => B_Mod_shortened_58  (L_Mod_shortened_38 n) q.2 x1 x3 x4 x5 x6)) else none)
theorem e_L_Mod_shortened_38 {sc : Nat × (Nat → Int32)} {d : DS} {f : FS} {w : WS} {m : MS} {s : SS} {g : GS} {tl : List mn_E}    : ∀ (n : Nat) (r : RS) (x1 : Int32) (x3 : Int32) (x4 : Int32) (x5 : Int32) (x6 : Int32), Ev sc 5 77 0 0 M_Mod_shortened 38 [(0, .ref 12), (1, .int x1), (3, .int x3), (4, .int x4), (5, .int x5), (6, .int x6)] [] (eLV :: (HD d (HF f (HW w (HM m (HS s (HG g (HR r tl)))))))) (mapR ouV (fun z => (eLV :: (HD d (HF f (HW w (HM m (HS s (HG g (HR z tl))))))))) (L_Mod_shortened_38   n r x1 x3 x4 x5 x6)) := by
  intro n
  induction n with
  | zero => intro r x1 x3 x4 x5 x6; exact ev_none
  | succ n ih =>
    intro r x1 x3 x4 x5 x6
    rw [L_Mod_shortened_38]
    refine ev_iload d_Mod_shortened_38 rfl ?_
    refine ev_aload_n d_Mod_shortened_40 rfl rfl ?_
    refine ev_get (v := .int (rRws r)) gi_Mod (ci := 6) rfl rfl 23 (by decide) gw_1024 rfl d_Mod_shortened_41 ?_
    refine ev_icmp_ge (tgt := 64) d_Mod_shortened_44 rfl (fun h1 => ?_) (fun h1 => ?_)
    · rw [if_pos h1]
      refine ev_aload_n d_Mod_shortened_64 rfl rfl ?_
      refine ev_callr (Mc := M_Mod_writes) (v := some (.int ((f_Mod_writes r).1))) (h1 := (eLV :: (HD d (HF f (HW w (HM m (HS s (HG g (HR ((f_Mod_writes r).2) tl))))))))) (k2 := 0) (n2 := 0) (inv_V (q := 12) (av := []) (rest := []) rfl (ci := 6) rfl d_Mod_shortened_65 gw_1163 gw_1165 gw_64 mw_Mod_writes nh_Mod_writes pn_Mod_writes rfl) d_Mod_shortened_65 pl_Mod_writes (Nat.le_of_ble_eq_true rfl) (Nat.le_of_ble_eq_true rfl) (Nat.le_of_ble_eq_true rfl) rfl rfl (e_f_Mod_writes (tl := tl) (d := d) (f := f) (w := w) (m := m) (s := s) (g := g)  r ) (Or.inl (len1 (lenHD (lenHF (lenHW (lenHM (lenHS (lenHG (lenHR rfl))))))))) ?_
      exact ev_pick [0, 1, 2, 3, 4] rfl (e_B_Mod_shortened_68     ((f_Mod_writes r).2) x1 x3 x4 x5 ((f_Mod_writes r).1))
    · rw [if_neg h1]
      refine ev_aload_n d_Mod_shortened_47 rfl rfl ?_
      refine ev_aload_n d_Mod_shortened_48 rfl rfl ?_
      refine ev_get (v := .ref 23) gi_Mod (ci := 6) rfl rfl 22 (by decide) gw_1023 rfl d_Mod_shortened_49 ?_
      refine ev_iload d_Mod_shortened_52 rfl ?_
      refine ev_inB (fun h2 => ?_)
      refine ev_iaload rfl (inB_of h2) d_Mod_shortened_54 ?_
      refine ev_callB (rc := (f_Mod_free r (rRow r x6.toNatClampNeg))) (ou := ouV) (Hs := (fun z => (eLV :: (HD d (HF f (HW w (HM m (HS s (HG g (HR z tl)))))))))) (inv_V (q := 12) (av := [.int (rRow r x6.toNatClampNeg)]) (rest := []) rfl (ci := 6) rfl d_Mod_shortened_55 gw_1235 gw_1237 gw_78 mw_Mod_free nh_Mod_free pn_Mod_free rfl) d_Mod_shortened_55 pl_Mod_free (Nat.le_of_ble_eq_true rfl) (Nat.le_of_ble_eq_true rfl) (Nat.le_of_ble_eq_true rfl) (e_f_Mod_free (tl := tl) (d := d) (f := f) (w := w) (m := m) (s := s) (g := g)  r (rRow r x6.toNatClampNeg)) (fun _ => (len1 (lenHD (lenHF (lenHW (lenHM (lenHS (lenHG (lenHR rfl))))))))) (fun v z h3 => ⟨_, rfl, ?_⟩)
      exact ev_pick [0, 1, 2, 3, 4, 5] rfl (e_B_Mod_shortened_58   (L_Mod_shortened_38 n) ih z x1 x3 x4 x5 x6)
def B_Mod_shortened_35   (r : RS) (x1 : Int32) (x3 : Int32) (x4 : Int32) (x5 : Int32) : Option (Unit × RS) :=
  L_Mod_shortened_38   1000 r x1 x3 x4 x5 0
theorem e_B_Mod_shortened_35 {sc : Nat × (Nat → Int32)} {d : DS} {f : FS} {w : WS} {m : MS} {s : SS} {g : GS} {tl : List mn_E}    (r : RS) (x1 : Int32) (x3 : Int32) (x4 : Int32) (x5 : Int32) : Ev sc 5 77 0 0 M_Mod_shortened 35 [(0, .ref 12), (1, .int x1), (3, .int x3), (4, .int x4), (5, .int x5)] [] (eLV :: (HD d (HF f (HW w (HM m (HS s (HG g (HR r tl)))))))) (mapR ouV (fun z => (eLV :: (HD d (HF f (HW w (HM m (HS s (HG g (HR z tl))))))))) (B_Mod_shortened_35 r x1 x3 x4 x5)) := by
  unfold B_Mod_shortened_35
  refine ev_iconst (v := 0) d_Mod_shortened_35 rfl ?_
  refine ev_istore d_Mod_shortened_36 (by decide) rfl ?_
  exact ev_pick [1, 2, 3, 4, 5, 0] rfl (e_L_Mod_shortened_38     1000 r x1 x3 x4 x5 0)
def B_Mod_shortened_16   (r : RS) (x1 : Int32) (x3 : Int32) (x4 : Int32) (t0 : Int32) : Option (Unit × RS) :=
  if 0 ≤ t0 then (if (rRws r) ≤ 0 then (B_Mod_shortened_35   r x1 x3 x4 t0) else (bnd (f_Mod_findMap r) (fun q => B_Mod_shortened_35   q.2 x1 x3 x4 t0))) else (some ((), r))
theorem e_B_Mod_shortened_16 {sc : Nat × (Nat → Int32)} {d : DS} {f : FS} {w : WS} {m : MS} {s : SS} {g : GS} {tl : List mn_E}    (r : RS) (x1 : Int32) (x3 : Int32) (x4 : Int32) (t0 : Int32) : Ev sc 5 77 0 0 M_Mod_shortened 16 [(0, .ref 12), (1, .int x1), (3, .int x3), (4, .int x4)] [.int t0] (eLV :: (HD d (HF f (HW w (HM m (HS s (HG g (HR r tl)))))))) (mapR ouV (fun z => (eLV :: (HD d (HF f (HW w (HM m (HS s (HG g (HR z tl))))))))) (B_Mod_shortened_16 r x1 x3 x4 t0)) := by
  unfold B_Mod_shortened_16
  refine ev_istore d_Mod_shortened_16 (by decide) rfl ?_
  refine ev_iload d_Mod_shortened_18 rfl ?_
  refine ev_if_ge (tgt := 24) d_Mod_shortened_20 rfl (fun h1 => ?_) (fun h1 => ?_)
  · rw [if_pos h1]
    refine ev_aload_n d_Mod_shortened_24 rfl rfl ?_
    refine ev_get (v := .int (rRws r)) gi_Mod (ci := 6) rfl rfl 23 (by decide) gw_1024 rfl d_Mod_shortened_25 ?_
    refine ev_if_le (tgt := 35) d_Mod_shortened_28 rfl (fun h2 => ?_) (fun h2 => ?_)
    · rw [if_pos h2]
      exact ev_pick [1, 2, 3, 4, 0] rfl (e_B_Mod_shortened_35     r x1 x3 x4 t0)
    · rw [if_neg h2]
      refine ev_aload_n d_Mod_shortened_31 rfl rfl ?_
      refine ev_callB (rc := (f_Mod_findMap r)) (ou := ouV) (Hs := (fun z => (eLV :: (HD d (HF f (HW w (HM m (HS s (HG g (HR z tl)))))))))) (inv_V (q := 12) (av := []) (rest := []) rfl (ci := 6) rfl d_Mod_shortened_32 gw_1147 gw_1149 gw_60 mw_Mod_findMap nh_Mod_findMap pn_Mod_findMap rfl) d_Mod_shortened_32 pl_Mod_findMap (Nat.le_of_ble_eq_true rfl) (Nat.le_of_ble_eq_true rfl) (Nat.le_of_ble_eq_true rfl) (e_f_Mod_findMap (tl := tl) (d := d) (f := f) (w := w) (m := m) (s := s) (g := g)  r ) (fun _ => (len1 (lenHD (lenHF (lenHW (lenHM (lenHS (lenHG (lenHR rfl))))))))) (fun v z h3 => ⟨_, rfl, ?_⟩)
      exact ev_pick [1, 2, 3, 4, 0] rfl (e_B_Mod_shortened_35     z x1 x3 x4 t0)
  · rw [if_neg h1]
    exact ev_vret rfl d_Mod_shortened_23
def f_Mod_shortened   (r : RS) (x1 : Int32) (x2 : Int32) (x3 : Int32) : Option (Unit × RS) :=
  bnd (f_Mod_down r x2 ((x3 + 7) / 8)) (fun q => B_Mod_shortened_16   q.2 x1 x3 ((x3 + 7) / 8) q.1)
theorem e_f_Mod_shortened {sc : Nat × (Nat → Int32)} {d : DS} {f : FS} {w : WS} {m : MS} {s : SS} {g : GS} {tl : List mn_E}    (r : RS) (x1 : Int32) (x2 : Int32) (x3 : Int32) : Ev sc 5 77 0 0 M_Mod_shortened 0 [(0, .ref 12), (1, .int x1), (2, .int x2), (3, .int x3)] [] (eLV :: (HD d (HF f (HW w (HM m (HS s (HG g (HR r tl)))))))) (mapR ouV (fun z => (eLV :: (HD d (HF f (HW w (HM m (HS s (HG g (HR z tl))))))))) (f_Mod_shortened r x1 x2 x3)) := by
  unfold f_Mod_shortened
  refine ev_iload_n d_Mod_shortened_0 rfl rfl ?_
  refine ev_bipush (v := 7) d_Mod_shortened_1 rfl ?_
  refine ev_iadd d_Mod_shortened_3 ?_
  refine ev_bipush (v := 8) d_Mod_shortened_4 rfl ?_
  refine ev_idiv d_Mod_shortened_6 (by decide) ?_
  refine ev_istore d_Mod_shortened_7 (by decide) rfl ?_
  refine ev_aload_n d_Mod_shortened_9 rfl rfl ?_
  refine ev_iload_n d_Mod_shortened_10 rfl rfl ?_
  refine ev_iload d_Mod_shortened_11 rfl ?_
  refine ev_callB (rc := (f_Mod_down r x2 ((x3 + 7) / 8))) (ou := ouI) (Hs := (fun z => (eLV :: (HD d (HF f (HW w (HM m (HS s (HG g (HR z tl)))))))))) (inv_V (q := 12) (av := [.int x2, .int ((x3 + 7) / 8)]) (rest := []) rfl (ci := 6) rfl d_Mod_shortened_13 gw_1231 gw_1233 gw_77 mw_Mod_down nh_Mod_down pn_Mod_down rfl) d_Mod_shortened_13 pl_Mod_down (Nat.le_of_ble_eq_true rfl) (Nat.le_of_ble_eq_true rfl) (Nat.le_of_ble_eq_true rfl) (e_f_Mod_down (tl := tl) (d := d) (f := f) (w := w) (m := m) (s := s) (g := g)  r x2 ((x3 + 7) / 8)) (fun _ => (len1 (lenHD (lenHF (lenHW (lenHM (lenHS (lenHG (lenHR rfl))))))))) (fun v z h1 => ⟨_, rfl, ?_⟩)
  exact ev_pick [1, 2, 4, 0] rfl (e_B_Mod_shortened_16     z x1 x3 ((x3 + 7) / 8) v)
def B_Mod_shorten_121   (r : RS) (t0 : Int32) : Option (Unit × RS) :=
  some ((), r)
theorem e_B_Mod_shorten_121 {sc : Nat × (Nat → Int32)} {d : DS} {f : FS} {w : WS} {m : MS} {s : SS} {g : GS} {tl : List mn_E}    (r : RS) (t0 : Int32) : Ev sc 6 95 0 0 M_Mod_shorten 121 [] [.int t0] (eLV :: (HD d (HF f (HW w (HM m (HS s (HG g (HR r tl)))))))) (mapR ouV (fun z => (eLV :: (HD d (HF f (HW w (HM m (HS s (HG g (HR z tl))))))))) (B_Mod_shorten_121 r t0)) := by
  unfold B_Mod_shorten_121
  refine ev_istore d_Mod_shorten_121 (by decide) rfl ?_
  exact ev_vret rfl d_Mod_shorten_123
def B_Mod_shorten_111   (r : RS) : Option (Unit × RS) :=
  B_Mod_shorten_121   ((f_Mod_ends r 0 1 2 3 4 5).2) ((f_Mod_ends r 0 1 2 3 4 5).1)
theorem e_B_Mod_shorten_111 {sc : Nat × (Nat → Int32)} {d : DS} {f : FS} {w : WS} {m : MS} {s : SS} {g : GS} {tl : List mn_E}    (r : RS) : Ev sc 6 95 0 0 M_Mod_shorten 111 [(0, .ref 12)] [] (eLV :: (HD d (HF f (HW w (HM m (HS s (HG g (HR r tl)))))))) (mapR ouV (fun z => (eLV :: (HD d (HF f (HW w (HM m (HS s (HG g (HR z tl))))))))) (B_Mod_shorten_111 r)) := by
  unfold B_Mod_shorten_111
  refine ev_aload_n d_Mod_shorten_111 rfl rfl ?_
  refine ev_iconst (v := 0) d_Mod_shorten_112 rfl ?_
  refine ev_iconst (v := 1) d_Mod_shorten_113 rfl ?_
  refine ev_iconst (v := 2) d_Mod_shorten_114 rfl ?_
  refine ev_iconst (v := 3) d_Mod_shorten_115 rfl ?_
  refine ev_iconst (v := 4) d_Mod_shorten_116 rfl ?_
  refine ev_iconst (v := 5) d_Mod_shorten_117 rfl ?_
  refine ev_callr (Mc := M_Mod_ends) (v := some (.int ((f_Mod_ends r 0 1 2 3 4 5).1))) (h1 := (eLV :: (HD d (HF f (HW w (HM m (HS s (HG g (HR ((f_Mod_ends r 0 1 2 3 4 5).2) tl))))))))) (k2 := 0) (n2 := 0) (inv_V (q := 12) (av := [.int 0, .int 1, .int 2, .int 3, .int 4, .int 5]) (rest := []) rfl (ci := 6) rfl d_Mod_shorten_118 gw_1187 gw_1189 gw_70 mw_Mod_ends nh_Mod_ends pn_Mod_ends rfl) d_Mod_shorten_118 pl_Mod_ends (Nat.le_of_ble_eq_true rfl) (Nat.le_of_ble_eq_true rfl) (Nat.le_of_ble_eq_true rfl) rfl rfl (e_f_Mod_ends (tl := tl) (d := d) (f := f) (w := w) (m := m) (s := s) (g := g)  r 0 1 2 3 4 5) (Or.inl (len1 (lenHD (lenHF (lenHW (lenHM (lenHS (lenHG (lenHR rfl))))))))) ?_
  exact ev_pick [] rfl (e_B_Mod_shorten_121     ((f_Mod_ends r 0 1 2 3 4 5).2) ((f_Mod_ends r 0 1 2 3 4 5).1))
def B_Mod_shorten_100   (r : RS) (x2 : Int32) (x3 : Int32) (x4 : Int32) (t0 : Int32) (t1 : Int32) : Option (Unit × RS) :=
  if t1 ≤ t0 then (B_Mod_shorten_111   r) else (bnd (f_Mod_shortened r x3 x4 x2) (fun q => B_Mod_shorten_111   q.2))
theorem e_B_Mod_shorten_100 {sc : Nat × (Nat → Int32)} {d : DS} {f : FS} {w : WS} {m : MS} {s : SS} {g : GS} {tl : List mn_E}    (r : RS) (x2 : Int32) (x3 : Int32) (x4 : Int32) (t0 : Int32) (t1 : Int32) : Ev sc 6 95 0 0 M_Mod_shorten 100 [(0, .ref 12), (2, .int x2), (3, .int x3), (4, .int x4)] [.int t1, .int t0] (eLV :: (HD d (HF f (HW w (HM m (HS s (HG g (HR r tl)))))))) (mapR ouV (fun z => (eLV :: (HD d (HF f (HW w (HM m (HS s (HG g (HR z tl))))))))) (B_Mod_shorten_100 r x2 x3 x4 t0 t1)) := by
  unfold B_Mod_shorten_100
  refine ev_icmp_ge (tgt := 111) d_Mod_shorten_100 rfl (fun h1 => ?_) (fun h1 => ?_)
  · rw [if_pos h1]
    exact ev_pick [0] rfl (e_B_Mod_shorten_111     r)
  · rw [if_neg h1]
    refine ev_aload_n d_Mod_shorten_103 rfl rfl ?_
    refine ev_iload_n d_Mod_shorten_104 rfl rfl ?_
    refine ev_iload d_Mod_shorten_105 rfl ?_
    refine ev_iload_n d_Mod_shorten_107 rfl rfl ?_
    refine ev_callB (rc := (f_Mod_shortened r x3 x4 x2)) (ou := ouV) (Hs := (fun z => (eLV :: (HD d (HF f (HW w (HM m (HS s (HG g (HR z tl)))))))))) (inv_V (q := 12) (av := [.int x3, .int x4, .int x2]) (rest := []) rfl (ci := 6) rfl d_Mod_shorten_108 gw_1227 gw_1229 gw_76 mw_Mod_shortened nh_Mod_shortened pn_Mod_shortened rfl) d_Mod_shorten_108 pl_Mod_shortened (Nat.le_of_ble_eq_true rfl) (Nat.le_of_ble_eq_true rfl) (Nat.le_of_ble_eq_true rfl) (e_f_Mod_shortened (tl := tl) (d := d) (f := f) (w := w) (m := m) (s := s) (g := g)  r x3 x4 x2) (fun _ => (len1 (lenHD (lenHF (lenHW (lenHM (lenHS (lenHG (lenHR rfl))))))))) (fun v z h2 => ⟨_, rfl, ?_⟩)
    exact ev_pick [0] rfl (e_B_Mod_shorten_111     z)
def B_Mod_shorten_86   (r : RS) (x2 : Int32) (x3 : Int32) (x4 : Int32) : Option (Unit × RS) :=
  if ¬ (rFau r) = 0 then (B_Mod_shorten_111   r) else (bnd (f_Mod_lengthAt r x4) (fun q => B_Mod_shorten_100   r x2 x3 x4 x2 q.1))
theorem e_B_Mod_shorten_86 {sc : Nat × (Nat → Int32)} {d : DS} {f : FS} {w : WS} {m : MS} {s : SS} {g : GS} {tl : List mn_E}    (r : RS) (x2 : Int32) (x3 : Int32) (x4 : Int32) : Ev sc 6 95 0 0 M_Mod_shorten 86 [(0, .ref 12), (2, .int x2), (3, .int x3), (4, .int x4)] [] (eLV :: (HD d (HF f (HW w (HM m (HS s (HG g (HR r tl)))))))) (mapR ouV (fun z => (eLV :: (HD d (HF f (HW w (HM m (HS s (HG g (HR z tl))))))))) (B_Mod_shorten_86 r x2 x3 x4)) := by
  unfold B_Mod_shorten_86
  refine ev_aload_n d_Mod_shorten_86 rfl rfl ?_
  refine ev_get (v := .int (rFau r)) gi_Mod (ci := 6) rfl rfl 1 (by decide) gw_1002 rfl d_Mod_shorten_87 ?_
  refine ev_if_ne (tgt := 111) d_Mod_shorten_90 rfl (fun h1 => ?_) (fun h1 => ?_)
  · rw [if_pos h1]
    exact ev_pick [0] rfl (e_B_Mod_shorten_111     r)
  · rw [if_neg h1]
    refine ev_iload_n d_Mod_shorten_93 rfl rfl ?_
    refine ev_aload_n d_Mod_shorten_94 rfl rfl ?_
    refine ev_iload d_Mod_shorten_95 rfl ?_
    refine ev_callB (rc := (f_Mod_lengthAt r x4)) (ou := ouI) (Hs := (fun z => (eLV :: (HD d (HF f (HW w (HM m (HS s (HG g (HR r tl)))))))))) (inv_V (q := 12) (av := [.int x4]) (rest := [.int x2]) rfl (ci := 6) rfl d_Mod_shorten_97 gw_1207 gw_1209 gw_73 mw_Mod_lengthAt nh_Mod_lengthAt pn_Mod_lengthAt rfl) d_Mod_shorten_97 pl_Mod_lengthAt (Nat.le_of_ble_eq_true rfl) (Nat.le_of_ble_eq_true rfl) (Nat.le_of_ble_eq_true rfl) (e_f_Mod_lengthAt (tl := tl) (d := d) (f := f) (w := w) (m := m) (s := s) (g := g)  r x4) (fun _ => (len1 (lenHD (lenHF (lenHW (lenHM (lenHS (lenHG (lenHR rfl))))))))) (fun v z h2 => ⟨_, rfl, ?_⟩)
    exact ev_pick [0, 1, 2, 3] rfl (e_B_Mod_shorten_100     r x2 x3 x4 x2 v)
def B_Mod_shorten_83   (r : RS) (x2 : Int32) (x3 : Int32) (x4 : Int32) (t1 : Int32) : Option (Unit × RS) :=
  B_Mod_shorten_86   (rSFau r t1) x2 x3 x4
theorem e_B_Mod_shorten_83 {sc : Nat × (Nat → Int32)} {d : DS} {f : FS} {w : WS} {m : MS} {s : SS} {g : GS} {tl : List mn_E}    (r : RS) (x2 : Int32) (x3 : Int32) (x4 : Int32) (t1 : Int32) : Ev sc 6 95 0 0 M_Mod_shorten 83 [(0, .ref 12), (2, .int x2), (3, .int x3), (4, .int x4)] [.int t1, .ref 12] (eLV :: (HD d (HF f (HW w (HM m (HS s (HG g (HR r tl)))))))) (mapR ouV (fun z => (eLV :: (HD d (HF f (HW w (HM m (HS s (HG g (HR z tl))))))))) (B_Mod_shorten_83 r x2 x3 x4 t1)) := by
  unfold B_Mod_shorten_83
  refine ev_put (h2 := (eLV :: (HD d (HF f (HW w (HM m (HS s (HG g (HR (rSFau r t1) tl))))))))) gi_Mod ft_Mod fo_Mod fn_Mod (ci := 6) rfl rfl 1 (by decide) gw_1002 rfl rfl (fun _ => rfl) (fun _ => rfl) (Nat.le_of_ble_eq_true rfl) rfl d_Mod_shorten_83 ?_
  exact ev_pick [0, 1, 2, 3] rfl (e_B_Mod_shorten_86     (rSFau r t1) x2 x3 x4)
def B_Mod_shorten_72   (r : RS) (x2 : Int32) (x3 : Int32) (x4 : Int32) (t1 : Int32) (t2 : Int32) (t3 : Int32) : Option (Unit × RS) :=
  if ((f_Mod_in t1 t2 t3).1) = 0 then (B_Mod_shorten_83   r x2 x3 x4 5) else (B_Mod_shorten_83   r x2 x3 x4 0)
theorem e_B_Mod_shorten_72 {sc : Nat × (Nat → Int32)} {d : DS} {f : FS} {w : WS} {m : MS} {s : SS} {g : GS} {tl : List mn_E}    (r : RS) (x2 : Int32) (x3 : Int32) (x4 : Int32) (t1 : Int32) (t2 : Int32) (t3 : Int32) : Ev sc 6 95 0 0 M_Mod_shorten 72 [(0, .ref 12), (2, .int x2), (3, .int x3), (4, .int x4)] [.int t3, .int t2, .int t1, .ref 12] (eLV :: (HD d (HF f (HW w (HM m (HS s (HG g (HR r tl)))))))) (mapR ouV (fun z => (eLV :: (HD d (HF f (HW w (HM m (HS s (HG g (HR z tl))))))))) (B_Mod_shorten_72 r x2 x3 x4 t1 t2 t3)) := by
  unfold B_Mod_shorten_72
  refine ev_callr (Mc := M_Mod_in) (v := some (.int ((f_Mod_in t1 t2 t3).1))) (h1 := (eLV :: (HD d (HF f (HW w (HM m (HS s (HG g (HR r tl))))))))) (k2 := 0) (n2 := 0) (inv_S (av := [.int t1, .int t2, .int t3]) (rest := [.ref 12]) d_Mod_shorten_72 gw_1108 gw_1109 gw_108 mw_Mod_in nh_Mod_in pn_Mod_in rfl) d_Mod_shorten_72 pl_Mod_in (Nat.le_of_ble_eq_true rfl) (Nat.le_of_ble_eq_true rfl) (Nat.le_of_ble_eq_true rfl) rfl rfl (e_f_Mod_in (hh := (eLV :: (HD d (HF f (HW w (HM m (HS s (HG g (HR r tl)))))))))   t1 t2 t3) (Or.inl (len1 (lenHD (lenHF (lenHW (lenHM (lenHS (lenHG (lenHR rfl))))))))) ?_
  refine ev_if_eq (tgt := 82) d_Mod_shorten_75 rfl (fun h1 => ?_) (fun h1 => ?_)
  · rw [if_pos h1]
    refine ev_iconst (v := 5) d_Mod_shorten_82 rfl ?_
    exact ev_pick [0, 1, 2, 3] rfl (e_B_Mod_shorten_83     r x2 x3 x4 5)
  · rw [if_neg h1]
    refine ev_iconst (v := 0) d_Mod_shorten_78 rfl ?_
    refine ev_goto (tgt := 83) d_Mod_shorten_79 rfl ?_
    exact ev_pick [0, 1, 2, 3] rfl (e_B_Mod_shorten_83     r x2 x3 x4 0)
def B_Mod_shorten_56   (r : RS) (x2 : Int32) (x3 : Int32) (t0 : Int32) : Option (Unit × RS) :=
  if t0 < 0 then (B_Mod_shorten_111   r) else (bnd (f_Mod_lengthAt r t0) (fun q => B_Mod_shorten_72   r x2 x3 t0 x2 0 q.1))
theorem e_B_Mod_shorten_56 {sc : Nat × (Nat → Int32)} {d : DS} {f : FS} {w : WS} {m : MS} {s : SS} {g : GS} {tl : List mn_E}    (r : RS) (x2 : Int32) (x3 : Int32) (t0 : Int32) : Ev sc 6 95 0 0 M_Mod_shorten 56 [(0, .ref 12), (2, .int x2), (3, .int x3)] [.int t0] (eLV :: (HD d (HF f (HW w (HM m (HS s (HG g (HR r tl)))))))) (mapR ouV (fun z => (eLV :: (HD d (HF f (HW w (HM m (HS s (HG g (HR z tl))))))))) (B_Mod_shorten_56 r x2 x3 t0)) := by
  unfold B_Mod_shorten_56
  refine ev_istore d_Mod_shorten_56 (by decide) rfl ?_
  refine ev_iload d_Mod_shorten_58 rfl ?_
  refine ev_if_lt (tgt := 111) d_Mod_shorten_60 rfl (fun h1 => ?_) (fun h1 => ?_)
  · rw [if_pos h1]
    exact ev_pick [1] rfl (e_B_Mod_shorten_111     r)
  · rw [if_neg h1]
    refine ev_aload_n d_Mod_shorten_63 rfl rfl ?_
    refine ev_iload_n d_Mod_shorten_64 rfl rfl ?_
    refine ev_iconst (v := 0) d_Mod_shorten_65 rfl ?_
    refine ev_aload_n d_Mod_shorten_66 rfl rfl ?_
    refine ev_iload d_Mod_shorten_67 rfl ?_
    refine ev_callB (rc := (f_Mod_lengthAt r t0)) (ou := ouI) (Hs := (fun z => (eLV :: (HD d (HF f (HW w (HM m (HS s (HG g (HR r tl)))))))))) (inv_V (q := 12) (av := [.int t0]) (rest := [.int 0, .int x2, .ref 12]) rfl (ci := 6) rfl d_Mod_shorten_69 gw_1207 gw_1209 gw_73 mw_Mod_lengthAt nh_Mod_lengthAt pn_Mod_lengthAt rfl) d_Mod_shorten_69 pl_Mod_lengthAt (Nat.le_of_ble_eq_true rfl) (Nat.le_of_ble_eq_true rfl) (Nat.le_of_ble_eq_true rfl) (e_f_Mod_lengthAt (tl := tl) (d := d) (f := f) (w := w) (m := m) (s := s) (g := g)  r t0) (fun _ => (len1 (lenHD (lenHF (lenHW (lenHM (lenHS (lenHG (lenHR rfl))))))))) (fun v z h2 => ⟨_, rfl, ?_⟩)
    exact ev_pick [1, 2, 3, 0] rfl (e_B_Mod_shorten_72     r x2 x3 t0 x2 0 v)
def B_Mod_shorten_52   (r : RS) (x2 : Int32) (x3 : Int32) (t0 : Int32) : Option (Unit × RS) :=
  B_Mod_shorten_56   r x2 x3 t0
theorem e_B_Mod_shorten_52 {sc : Nat × (Nat → Int32)} {d : DS} {f : FS} {w : WS} {m : MS} {s : SS} {g : GS} {tl : List mn_E}    (r : RS) (x2 : Int32) (x3 : Int32) (t0 : Int32) : Ev sc 6 95 0 0 M_Mod_shorten 52 [(0, .ref 12), (2, .int x2), (3, .int x3)] [.int t0] (eLV :: (HD d (HF f (HW w (HM m (HS s (HG g (HR r tl)))))))) (mapR ouV (fun z => (eLV :: (HD d (HF f (HW w (HM m (HS s (HG g (HR z tl))))))))) (B_Mod_shorten_52 r x2 x3 t0)) := by
  unfold B_Mod_shorten_52
  refine ev_goto (tgt := 56) d_Mod_shorten_52 rfl ?_
  exact ev_pick [0, 1, 2] rfl (e_B_Mod_shorten_56     r x2 x3 t0)
def B_Mod_shorten_40   (r : RS) (x2 : Int32) (x3 : Int32) : Option (Unit × RS) :=
  if ¬ (rFau r) = 0 then (B_Mod_shorten_56   r x2 x3 (-1)) else (bnd (f_Mod_last r x3) (fun q => B_Mod_shorten_52   q.2 x2 x3 q.1))
theorem e_B_Mod_shorten_40 {sc : Nat × (Nat → Int32)} {d : DS} {f : FS} {w : WS} {m : MS} {s : SS} {g : GS} {tl : List mn_E}    (r : RS) (x2 : Int32) (x3 : Int32) : Ev sc 6 95 0 0 M_Mod_shorten 40 [(0, .ref 12), (2, .int x2), (3, .int x3)] [] (eLV :: (HD d (HF f (HW w (HM m (HS s (HG g (HR r tl)))))))) (mapR ouV (fun z => (eLV :: (HD d (HF f (HW w (HM m (HS s (HG g (HR z tl))))))))) (B_Mod_shorten_40 r x2 x3)) := by
  unfold B_Mod_shorten_40
  refine ev_aload_n d_Mod_shorten_40 rfl rfl ?_
  refine ev_get (v := .int (rFau r)) gi_Mod (ci := 6) rfl rfl 1 (by decide) gw_1002 rfl d_Mod_shorten_41 ?_
  refine ev_if_ne (tgt := 55) d_Mod_shorten_44 rfl (fun h1 => ?_) (fun h1 => ?_)
  · rw [if_pos h1]
    refine ev_iconst (v := -1) d_Mod_shorten_55 rfl ?_
    exact ev_pick [0, 1, 2] rfl (e_B_Mod_shorten_56     r x2 x3 (-1))
  · rw [if_neg h1]
    refine ev_aload_n d_Mod_shorten_47 rfl rfl ?_
    refine ev_iload_n d_Mod_shorten_48 rfl rfl ?_
    refine ev_callB (rc := (f_Mod_last r x3)) (ou := ouI) (Hs := (fun z => (eLV :: (HD d (HF f (HW w (HM m (HS s (HG g (HR z tl)))))))))) (inv_V (q := 12) (av := [.int x3]) (rest := []) rfl (ci := 6) rfl d_Mod_shorten_49 gw_1203 gw_1205 gw_72 mw_Mod_last nh_Mod_last pn_Mod_last rfl) d_Mod_shorten_49 pl_Mod_last (Nat.le_of_ble_eq_true rfl) (Nat.le_of_ble_eq_true rfl) (Nat.le_of_ble_eq_true rfl) (e_f_Mod_last (tl := tl) (d := d) (f := f) (w := w) (m := m) (s := s) (g := g)  r x3) (fun _ => (len1 (lenHD (lenHF (lenHW (lenHM (lenHS (lenHG (lenHR rfl))))))))) (fun v z h2 => ⟨_, rfl, ?_⟩)
    exact ev_pick [0, 1, 2] rfl (e_B_Mod_shorten_52     z x2 x3 v)
def B_Mod_shorten_37   (r : RS) (x2 : Int32) (x3 : Int32) (t1 : Int32) : Option (Unit × RS) :=
  B_Mod_shorten_40   (rSFau r t1) x2 x3
theorem e_B_Mod_shorten_37 {sc : Nat × (Nat → Int32)} {d : DS} {f : FS} {w : WS} {m : MS} {s : SS} {g : GS} {tl : List mn_E}    (r : RS) (x2 : Int32) (x3 : Int32) (t1 : Int32) : Ev sc 6 95 0 0 M_Mod_shorten 37 [(0, .ref 12), (2, .int x2), (3, .int x3)] [.int t1, .ref 12] (eLV :: (HD d (HF f (HW w (HM m (HS s (HG g (HR r tl)))))))) (mapR ouV (fun z => (eLV :: (HD d (HF f (HW w (HM m (HS s (HG g (HR z tl))))))))) (B_Mod_shorten_37 r x2 x3 t1)) := by
  unfold B_Mod_shorten_37
  refine ev_put (h2 := (eLV :: (HD d (HF f (HW w (HM m (HS s (HG g (HR (rSFau r t1) tl))))))))) gi_Mod ft_Mod fo_Mod fn_Mod (ci := 6) rfl rfl 1 (by decide) gw_1002 rfl rfl (fun _ => rfl) (fun _ => rfl) (Nat.le_of_ble_eq_true rfl) rfl d_Mod_shorten_37 ?_
  exact ev_pick [0, 1, 2] rfl (e_B_Mod_shorten_40     (rSFau r t1) x2 x3)
def B_Mod_shorten_32   (r : RS) (x2 : Int32) (x3 : Int32) : Option (Unit × RS) :=
  B_Mod_shorten_37   r x2 x3 3
theorem e_B_Mod_shorten_32 {sc : Nat × (Nat → Int32)} {d : DS} {f : FS} {w : WS} {m : MS} {s : SS} {g : GS} {tl : List mn_E}    (r : RS) (x2 : Int32) (x3 : Int32) : Ev sc 6 95 0 0 M_Mod_shorten 32 [(0, .ref 12), (2, .int x2), (3, .int x3)] [.ref 12] (eLV :: (HD d (HF f (HW w (HM m (HS s (HG g (HR r tl)))))))) (mapR ouV (fun z => (eLV :: (HD d (HF f (HW w (HM m (HS s (HG g (HR z tl))))))))) (B_Mod_shorten_32 r x2 x3)) := by
  unfold B_Mod_shorten_32
  refine ev_iconst (v := 3) d_Mod_shorten_32 rfl ?_
  refine ev_goto (tgt := 37) d_Mod_shorten_33 rfl ?_
  exact ev_pick [0, 1, 2] rfl (e_B_Mod_shorten_37     r x2 x3 3)
def B_Mod_shorten_29   (r : RS) (x2 : Int32) (x3 : Int32) (t1 : Int32) : Option (Unit × RS) :=
  if t1 = 0 then (B_Mod_shorten_37   r x2 x3 0) else (B_Mod_shorten_32   r x2 x3)
theorem e_B_Mod_shorten_29 {sc : Nat × (Nat → Int32)} {d : DS} {f : FS} {w : WS} {m : MS} {s : SS} {g : GS} {tl : List mn_E}    (r : RS) (x2 : Int32) (x3 : Int32) (t1 : Int32) : Ev sc 6 95 0 0 M_Mod_shorten 29 [(0, .ref 12), (2, .int x2), (3, .int x3)] [.int t1, .ref 12] (eLV :: (HD d (HF f (HW w (HM m (HS s (HG g (HR r tl)))))))) (mapR ouV (fun z => (eLV :: (HD d (HF f (HW w (HM m (HS s (HG g (HR z tl))))))))) (B_Mod_shorten_29 r x2 x3 t1)) := by
  unfold B_Mod_shorten_29
  refine ev_if_eq (tgt := 36) d_Mod_shorten_29 rfl (fun h1 => ?_) (fun h1 => ?_)
  · rw [if_pos h1]
    refine ev_iconst (v := 0) d_Mod_shorten_36 rfl ?_
    exact ev_pick [0, 1, 2] rfl (e_B_Mod_shorten_37     r x2 x3 0)
  · rw [if_neg h1]
    exact ev_pick [0, 1, 2] rfl (e_B_Mod_shorten_32     r x2 x3)
def B_Mod_shorten_5   (r : RS) (x2 : Int32) (t0 : Int32) : Option (Unit × RS) :=
  if ¬ (rFau r) = 0 then (B_Mod_shorten_40   r x2 t0) else (if inB t0 40 then (if (rSer r t0.toNatClampNeg) = 2 then (B_Mod_shorten_32   r x2 t0) else (bnd (f_Mod_isDirectory r t0) (fun q => B_Mod_shorten_29   r x2 t0 q.1))) else none)
theorem e_B_Mod_shorten_5 {sc : Nat × (Nat → Int32)} {d : DS} {f : FS} {w : WS} {m : MS} {s : SS} {g : GS} {tl : List mn_E}    (r : RS) (x2 : Int32) (t0 : Int32) : Ev sc 6 95 0 0 M_Mod_shorten 5 [(0, .ref 12), (2, .int x2)] [.int t0] (eLV :: (HD d (HF f (HW w (HM m (HS s (HG g (HR r tl)))))))) (mapR ouV (fun z => (eLV :: (HD d (HF f (HW w (HM m (HS s (HG g (HR z tl))))))))) (B_Mod_shorten_5 r x2 t0)) := by
  unfold B_Mod_shorten_5
  refine ev_istore_n d_Mod_shorten_5 rfl (by decide) rfl ?_
  refine ev_aload_n d_Mod_shorten_6 rfl rfl ?_
  refine ev_get (v := .int (rFau r)) gi_Mod (ci := 6) rfl rfl 1 (by decide) gw_1002 rfl d_Mod_shorten_7 ?_
  refine ev_if_ne (tgt := 40) d_Mod_shorten_10 rfl (fun h1 => ?_) (fun h1 => ?_)
  · rw [if_pos h1]
    exact ev_pick [1, 2, 0] rfl (e_B_Mod_shorten_40     r x2 t0)
  · rw [if_neg h1]
    refine ev_aload_n d_Mod_shorten_13 rfl rfl ?_
    refine ev_aload_n d_Mod_shorten_14 rfl rfl ?_
    refine ev_get (v := .ref 13) gi_Mod (ci := 6) rfl rfl 2 (by decide) gw_1003 rfl d_Mod_shorten_15 ?_
    refine ev_iload_n d_Mod_shorten_18 rfl rfl ?_
    refine ev_inB (fun h2 => ?_)
    refine ev_iaload rfl (inB_of h2) d_Mod_shorten_19 ?_
    refine ev_iconst (v := 2) d_Mod_shorten_20 rfl ?_
    refine ev_icmp_eq (tgt := 32) d_Mod_shorten_21 rfl (fun h3 => ?_) (fun h3 => ?_)
    · rw [if_pos h3]
      exact ev_pick [1, 2, 0] rfl (e_B_Mod_shorten_32     r x2 t0)
    · rw [if_neg h3]
      refine ev_aload_n d_Mod_shorten_24 rfl rfl ?_
      refine ev_iload_n d_Mod_shorten_25 rfl rfl ?_
      refine ev_callB (rc := (f_Mod_isDirectory r t0)) (ou := ouI) (Hs := (fun z => (eLV :: (HD d (HF f (HW w (HM m (HS s (HG g (HR r tl)))))))))) (inv_V (q := 12) (av := [.int t0]) (rest := [.ref 12]) rfl (ci := 6) rfl d_Mod_shorten_26 gw_1123 gw_1125 gw_54 mw_Mod_isDirectory nh_Mod_isDirectory pn_Mod_isDirectory rfl) d_Mod_shorten_26 pl_Mod_isDirectory (Nat.le_of_ble_eq_true rfl) (Nat.le_of_ble_eq_true rfl) (Nat.le_of_ble_eq_true rfl) (e_f_Mod_isDirectory (tl := tl) (d := d) (f := f) (w := w) (m := m) (s := s) (g := g)  r t0) (fun _ => (len1 (lenHD (lenHF (lenHW (lenHM (lenHS (lenHG (lenHR rfl))))))))) (fun v z h4 => ⟨_, rfl, ?_⟩)
      exact ev_pick [1, 2, 0] rfl (e_B_Mod_shorten_29     r x2 t0 v)
def f_Mod_shorten   (r : RS) (x1 : Int32) (x2 : Int32) : Option (Unit × RS) :=
  bnd (f_Mod_begin r x1) (fun q => B_Mod_shorten_5   q.2 x2 q.1)
theorem e_f_Mod_shorten {sc : Nat × (Nat → Int32)} {d : DS} {f : FS} {w : WS} {m : MS} {s : SS} {g : GS} {tl : List mn_E}    (r : RS) (x1 : Int32) (x2 : Int32) : Ev sc 6 95 0 0 M_Mod_shorten 0 [(0, .ref 12), (1, .int x1), (2, .int x2)] [] (eLV :: (HD d (HF f (HW w (HM m (HS s (HG g (HR r tl)))))))) (mapR ouV (fun z => (eLV :: (HD d (HF f (HW w (HM m (HS s (HG g (HR z tl))))))))) (f_Mod_shorten r x1 x2)) := by
  unfold f_Mod_shorten
  refine ev_aload_n d_Mod_shorten_0 rfl rfl ?_
  refine ev_iload_n d_Mod_shorten_1 rfl rfl ?_
  refine ev_callB (rc := (f_Mod_begin r x1)) (ou := ouI) (Hs := (fun z => (eLV :: (HD d (HF f (HW w (HM m (HS s (HG g (HR z tl)))))))))) (inv_V (q := 12) (av := [.int x1]) (rest := []) rfl (ci := 6) rfl d_Mod_shorten_2 gw_1100 gw_1102 gw_49 mw_Mod_begin nh_Mod_begin pn_Mod_begin rfl) d_Mod_shorten_2 pl_Mod_begin (Nat.le_of_ble_eq_true rfl) (Nat.le_of_ble_eq_true rfl) (Nat.le_of_ble_eq_true rfl) (e_f_Mod_begin (tl := tl) (d := d) (f := f) (w := w) (m := m) (s := s) (g := g)  r x1) (fun _ => (len1 (lenHD (lenHF (lenHW (lenHM (lenHS (lenHG (lenHR rfl))))))))) (fun v z h1 => ⟨_, rfl, ?_⟩)
  exact ev_pick [0, 2] rfl (e_B_Mod_shorten_5     z x2 v)
def B_Mod_removed_214   (r : RS) : Option (Int32 × RS) :=
  some (((rRws r) + 1), r)
theorem e_B_Mod_removed_214 {sc : Nat × (Nat → Int32)} {d : DS} {f : FS} {w : WS} {m : MS} {s : SS} {g : GS} {tl : List mn_E}    (r : RS) : Ev sc 5 82 0 0 M_Mod_removed 214 [(0, .ref 12)] [] (eLV :: (HD d (HF f (HW w (HM m (HS s (HG g (HR r tl)))))))) (mapR ouI (fun z => (eLV :: (HD d (HF f (HW w (HM m (HS s (HG g (HR z tl))))))))) (B_Mod_removed_214 r)) := by
  unfold B_Mod_removed_214
  refine ev_aload_n d_Mod_removed_214 rfl rfl ?_
  refine ev_get (v := .int (rRws r)) gi_Mod (ci := 6) rfl rfl 23 (by decide) gw_1024 rfl d_Mod_removed_215 ?_
  refine ev_iconst (v := 1) d_Mod_removed_218 rfl ?_
  refine ev_iadd d_Mod_removed_219 ?_
  exact ev_zret (ty := .int) rfl rfl d_Mod_removed_220
def B_Mod_removed_199   (r : RS) (x5 : Int32) : Option (Int32 × RS) :=
  if ¬ (rFau r) = 0 then (B_Mod_removed_214   r) else (if inB x5 61 then (B_Mod_removed_214   (rSKep r (upd (rKep r) x5.toNatClampNeg 0))) else none)
theorem e_B_Mod_removed_199 {sc : Nat × (Nat → Int32)} {d : DS} {f : FS} {w : WS} {m : MS} {s : SS} {g : GS} {tl : List mn_E}    (r : RS) (x5 : Int32) : Ev sc 5 82 0 0 M_Mod_removed 199 [(0, .ref 12), (5, .int x5)] [] (eLV :: (HD d (HF f (HW w (HM m (HS s (HG g (HR r tl)))))))) (mapR ouI (fun z => (eLV :: (HD d (HF f (HW w (HM m (HS s (HG g (HR z tl))))))))) (B_Mod_removed_199 r x5)) := by
  unfold B_Mod_removed_199
  refine ev_aload_n d_Mod_removed_199 rfl rfl ?_
  refine ev_get (v := .int (rFau r)) gi_Mod (ci := 6) rfl rfl 1 (by decide) gw_1002 rfl d_Mod_removed_200 ?_
  refine ev_if_ne (tgt := 214) d_Mod_removed_203 rfl (fun h1 => ?_) (fun h1 => ?_)
  · rw [if_pos h1]
    exact ev_pick [0] rfl (e_B_Mod_removed_214     r)
  · rw [if_neg h1]
    refine ev_aload_n d_Mod_removed_206 rfl rfl ?_
    refine ev_get (v := .ref 20) gi_Mod (ci := 6) rfl rfl 9 (by decide) gw_1010 rfl d_Mod_removed_207 ?_
    refine ev_iload d_Mod_removed_210 rfl ?_
    refine ev_iconst (v := 0) d_Mod_removed_212 rfl ?_
    refine ev_inB (fun h2 => ?_)
    refine ev_iastore (h2 := (eLV :: (HD d (HF f (HW w (HM m (HS s (HG g (HR (rSKep r (upd (rKep r) x5.toNatClampNeg 0)) tl))))))))) rfl (inB_of h2) rfl d_Mod_removed_213 ?_
    exact ev_pick [0] rfl (e_B_Mod_removed_214     (rSKep r (upd (rKep r) x5.toNatClampNeg 0)))
def B_Mod_removed_195   (r : RS) (x5 : Int32) : Option (Int32 × RS) :=
  bnd (f_Mod_putMap r) (fun q => B_Mod_removed_199   q.2 x5)
theorem e_B_Mod_removed_195 {sc : Nat × (Nat → Int32)} {d : DS} {f : FS} {w : WS} {m : MS} {s : SS} {g : GS} {tl : List mn_E}    (r : RS) (x5 : Int32) : Ev sc 5 82 0 0 M_Mod_removed 195 [(0, .ref 12), (5, .int x5)] [] (eLV :: (HD d (HF f (HW w (HM m (HS s (HG g (HR r tl)))))))) (mapR ouI (fun z => (eLV :: (HD d (HF f (HW w (HM m (HS s (HG g (HR z tl))))))))) (B_Mod_removed_195 r x5)) := by
  unfold B_Mod_removed_195
  refine ev_aload_n d_Mod_removed_195 rfl rfl ?_
  refine ev_callB (rc := (f_Mod_putMap r)) (ou := ouV) (Hs := (fun z => (eLV :: (HD d (HF f (HW w (HM m (HS s (HG g (HR z tl)))))))))) (inv_V (q := 12) (av := []) (rest := []) rfl (ci := 6) rfl d_Mod_removed_196 gw_1183 gw_1185 gw_69 mw_Mod_putMap nh_Mod_putMap pn_Mod_putMap rfl) d_Mod_removed_196 pl_Mod_putMap (Nat.le_of_ble_eq_true rfl) (Nat.le_of_ble_eq_true rfl) (Nat.le_of_ble_eq_true rfl) (e_f_Mod_putMap (tl := tl) (d := d) (f := f) (w := w) (m := m) (s := s) (g := g)  r ) (fun _ => (len1 (lenHD (lenHF (lenHW (lenHM (lenHS (lenHG (lenHR rfl))))))))) (fun v z h1 => ⟨_, rfl, ?_⟩)
  exact ev_pick [0, 1] rfl (e_B_Mod_removed_199     z x5)
def B_Mod_removed_176  (r156 : RS → Int32 → Int32 → Option (Int32 × RS)) (r : RS) (x1 : Int32) (x5 : Int32) : Option (Int32 × RS) :=
  r156 r x1 (x5 + 1)
theorem e_B_Mod_removed_176 {sc : Nat × (Nat → Int32)} {d : DS} {f : FS} {w : WS} {m : MS} {s : SS} {g : GS} {tl : List mn_E}  (r156 : RS → Int32 → Int32 → Option (Int32 × RS)) (hr156 : ∀ (r : RS) (x1 : Int32) (x5 : Int32), Ev sc 5 82 0 0 M_Mod_removed 156 [(0, .ref 12), (1, .int x1), (5, .int x5)] [] (eLV :: (HD d (HF f (HW w (HM m (HS s (HG g (HR r tl)))))))) (mapR ouI (fun z => (eLV :: (HD d (HF f (HW w (HM m (HS s (HG g (HR z tl))))))))) (r156 r x1 x5))) (r : RS) (x1 : Int32) (x5 : Int32) : Ev sc 5 82 0 0 M_Mod_removed 176 [(0, .ref 12), (1, .int x1), (5, .int x5)] [] (eLV :: (HD d (HF f (HW w (HM m (HS s (HG g (HR r tl)))))))) (mapR ouI (fun z => (eLV :: (HD d (HF f (HW w (HM m (HS s (HG g (HR z tl))))))))) (B_Mod_removed_176 r156 r x1 x5)) := by
  unfold B_Mod_removed_176
  refine ev_iinc (v := (x5 + 1)) d_Mod_removed_176 rfl rfl (by decide) rfl ?_
  refine ev_goto (tgt := 156) d_Mod_removed_179 rfl ?_
  exact ev_pick [1, 2, 0] rfl (hr156 r x1 (x5 + 1))
def L_Mod_removed_156   : Nat → RS → Int32 → Int32 → Option (Int32 × RS)
  | 0, _, _, _ => none
  | n + 1, r, x1, x5 =>
  if (rRws r) ≤ x5 then (if inB x1 40 then (bnd (f_Mod_free r x1) (fun q => B_Mod_removed_195   q.2 (rSer r x1.toNatClampNeg))) else none) else (if inB x5 40 then (bnd (f_Mod_free r (rRow r x5.toNatClampNeg)) (fun q => B_Mod_removed_176  (L_Mod_removed_156 n) q.2 x1 x5)) else none)
theorem e_L_Mod_removed_156 {sc : Nat × (Nat → Int32)} {d : DS} {f : FS} {w : WS} {m : MS} {s : SS} {g : GS} {tl : List mn_E}    : ∀ (n : Nat) (r : RS) (x1 : Int32) (x5 : Int32), Ev sc 5 82 0 0 M_Mod_removed 156 [(0, .ref 12), (1, .int x1), (5, .int x5)] [] (eLV :: (HD d (HF f (HW w (HM m (HS s (HG g (HR r tl)))))))) (mapR ouI (fun z => (eLV :: (HD d (HF f (HW w (HM m (HS s (HG g (HR z tl))))))))) (L_Mod_removed_156   n r x1 x5)) := by
  intro n
  induction n with
  | zero => intro r x1 x5; exact ev_none
  | succ n ih =>
    intro r x1 x5
    rw [L_Mod_removed_156]
    refine ev_iload d_Mod_removed_156 rfl ?_
    refine ev_aload_n d_Mod_removed_158 rfl rfl ?_
    refine ev_get (v := .int (rRws r)) gi_Mod (ci := 6) rfl rfl 23 (by decide) gw_1024 rfl d_Mod_removed_159 ?_
    refine ev_icmp_ge (tgt := 182) d_Mod_removed_162 rfl (fun h1 => ?_) (fun h1 => ?_)
    · rw [if_pos h1]
      refine ev_aload_n d_Mod_removed_182 rfl rfl ?_
      refine ev_get (v := .ref 13) gi_Mod (ci := 6) rfl rfl 2 (by decide) gw_1003 rfl d_Mod_removed_183 ?_
      refine ev_iload_n d_Mod_removed_186 rfl rfl ?_
      refine ev_inB (fun h2 => ?_)
      refine ev_iaload rfl (inB_of h2) d_Mod_removed_187 ?_
      refine ev_istore d_Mod_removed_188 (by decide) rfl ?_
      refine ev_aload_n d_Mod_removed_190 rfl rfl ?_
      refine ev_iload_n d_Mod_removed_191 rfl rfl ?_
      refine ev_callB (rc := (f_Mod_free r x1)) (ou := ouV) (Hs := (fun z => (eLV :: (HD d (HF f (HW w (HM m (HS s (HG g (HR z tl)))))))))) (inv_V (q := 12) (av := [.int x1]) (rest := []) rfl (ci := 6) rfl d_Mod_removed_192 gw_1235 gw_1237 gw_78 mw_Mod_free nh_Mod_free pn_Mod_free rfl) d_Mod_removed_192 pl_Mod_free (Nat.le_of_ble_eq_true rfl) (Nat.le_of_ble_eq_true rfl) (Nat.le_of_ble_eq_true rfl) (e_f_Mod_free (tl := tl) (d := d) (f := f) (w := w) (m := m) (s := s) (g := g)  r x1) (fun _ => (len1 (lenHD (lenHF (lenHW (lenHM (lenHS (lenHG (lenHR rfl))))))))) (fun v z h3 => ⟨_, rfl, ?_⟩)
      exact ev_pick [1, 0] rfl (e_B_Mod_removed_195     z (rSer r x1.toNatClampNeg))
    · rw [if_neg h1]
      refine ev_aload_n d_Mod_removed_165 rfl rfl ?_
      refine ev_aload_n d_Mod_removed_166 rfl rfl ?_
      refine ev_get (v := .ref 23) gi_Mod (ci := 6) rfl rfl 22 (by decide) gw_1023 rfl d_Mod_removed_167 ?_
      refine ev_iload d_Mod_removed_170 rfl ?_
      refine ev_inB (fun h4 => ?_)
      refine ev_iaload rfl (inB_of h4) d_Mod_removed_172 ?_
      refine ev_callB (rc := (f_Mod_free r (rRow r x5.toNatClampNeg))) (ou := ouV) (Hs := (fun z => (eLV :: (HD d (HF f (HW w (HM m (HS s (HG g (HR z tl)))))))))) (inv_V (q := 12) (av := [.int (rRow r x5.toNatClampNeg)]) (rest := []) rfl (ci := 6) rfl d_Mod_removed_173 gw_1235 gw_1237 gw_78 mw_Mod_free nh_Mod_free pn_Mod_free rfl) d_Mod_removed_173 pl_Mod_free (Nat.le_of_ble_eq_true rfl) (Nat.le_of_ble_eq_true rfl) (Nat.le_of_ble_eq_true rfl) (e_f_Mod_free (tl := tl) (d := d) (f := f) (w := w) (m := m) (s := s) (g := g)  r (rRow r x5.toNatClampNeg)) (fun _ => (len1 (lenHD (lenHF (lenHW (lenHM (lenHS (lenHG (lenHR rfl))))))))) (fun v z h5 => ⟨_, rfl, ?_⟩)
      exact ev_pick [0, 1, 2] rfl (e_B_Mod_removed_176   (L_Mod_removed_156 n) ih z x1 x5)
def B_Mod_removed_153   (r : RS) (x1 : Int32) : Option (Int32 × RS) :=
  L_Mod_removed_156   1000 r x1 0
theorem e_B_Mod_removed_153 {sc : Nat × (Nat → Int32)} {d : DS} {f : FS} {w : WS} {m : MS} {s : SS} {g : GS} {tl : List mn_E}    (r : RS) (x1 : Int32) : Ev sc 5 82 0 0 M_Mod_removed 153 [(0, .ref 12), (1, .int x1)] [] (eLV :: (HD d (HF f (HW w (HM m (HS s (HG g (HR r tl)))))))) (mapR ouI (fun z => (eLV :: (HD d (HF f (HW w (HM m (HS s (HG g (HR z tl))))))))) (B_Mod_removed_153 r x1)) := by
  unfold B_Mod_removed_153
  refine ev_iconst (v := 0) d_Mod_removed_153 rfl ?_
  refine ev_istore d_Mod_removed_154 (by decide) rfl ?_
  exact ev_pick [1, 2, 0] rfl (e_L_Mod_removed_156     1000 r x1 0)
def B_Mod_removed_142   (r : RS) (x1 : Int32) (x2 : Int32) (t0 : Int32) : Option (Int32 × RS) :=
  if t0 = 0 then (B_Mod_removed_153   r x1) else (bnd (f_Mod_setEntry r x2 0 0 0) (fun q => B_Mod_removed_153   q.2 x1))
theorem e_B_Mod_removed_142 {sc : Nat × (Nat → Int32)} {d : DS} {f : FS} {w : WS} {m : MS} {s : SS} {g : GS} {tl : List mn_E}    (r : RS) (x1 : Int32) (x2 : Int32) (t0 : Int32) : Ev sc 5 82 0 0 M_Mod_removed 142 [(0, .ref 12), (1, .int x1), (2, .int x2)] [.int t0] (eLV :: (HD d (HF f (HW w (HM m (HS s (HG g (HR r tl)))))))) (mapR ouI (fun z => (eLV :: (HD d (HF f (HW w (HM m (HS s (HG g (HR z tl))))))))) (B_Mod_removed_142 r x1 x2 t0)) := by
  unfold B_Mod_removed_142
  refine ev_if_eq (tgt := 153) d_Mod_removed_142 rfl (fun h1 => ?_) (fun h1 => ?_)
  · rw [if_pos h1]
    exact ev_pick [0, 1] rfl (e_B_Mod_removed_153     r x1)
  · rw [if_neg h1]
    refine ev_aload_n d_Mod_removed_145 rfl rfl ?_
    refine ev_iload_n d_Mod_removed_146 rfl rfl ?_
    refine ev_iconst (v := 0) d_Mod_removed_147 rfl ?_
    refine ev_iconst (v := 0) d_Mod_removed_148 rfl ?_
    refine ev_iconst (v := 0) d_Mod_removed_149 rfl ?_
    refine ev_callB (rc := (f_Mod_setEntry r x2 0 0 0)) (ou := ouV) (Hs := (fun z => (eLV :: (HD d (HF f (HW w (HM m (HS s (HG g (HR z tl)))))))))) (inv_V (q := 12) (av := [.int x2, .int 0, .int 0, .int 0]) (rest := []) rfl (ci := 6) rfl d_Mod_removed_150 gw_1175 gw_1177 gw_67 mw_Mod_setEntry nh_Mod_setEntry pn_Mod_setEntry rfl) d_Mod_removed_150 pl_Mod_setEntry (Nat.le_of_ble_eq_true rfl) (Nat.le_of_ble_eq_true rfl) (Nat.le_of_ble_eq_true rfl) (e_f_Mod_setEntry (tl := tl) (d := d) (f := f) (w := w) (m := m) (s := s) (g := g)  r x2 0 0 0) (fun _ => (len1 (lenHD (lenHF (lenHW (lenHM (lenHS (lenHG (lenHR rfl))))))))) (fun v z h2 => ⟨_, rfl, ?_⟩)
    exact ev_pick [0, 1] rfl (e_B_Mod_removed_153     z x1)
def B_Mod_removed_138   (r : RS) (x1 : Int32) (x2 : Int32) : Option (Int32 × RS) :=
  B_Mod_removed_142   ((f_Mod_writes r).2) x1 x2 ((f_Mod_writes r).1)
theorem e_B_Mod_removed_138 {sc : Nat × (Nat → Int32)} {d : DS} {f : FS} {w : WS} {m : MS} {s : SS} {g : GS} {tl : List mn_E}    (r : RS) (x1 : Int32) (x2 : Int32) : Ev sc 5 82 0 0 M_Mod_removed 138 [(0, .ref 12), (1, .int x1), (2, .int x2)] [] (eLV :: (HD d (HF f (HW w (HM m (HS s (HG g (HR r tl)))))))) (mapR ouI (fun z => (eLV :: (HD d (HF f (HW w (HM m (HS s (HG g (HR z tl))))))))) (B_Mod_removed_138 r x1 x2)) := by
  unfold B_Mod_removed_138
  refine ev_aload_n d_Mod_removed_138 rfl rfl ?_
  refine ev_callr (Mc := M_Mod_writes) (v := some (.int ((f_Mod_writes r).1))) (h1 := (eLV :: (HD d (HF f (HW w (HM m (HS s (HG g (HR ((f_Mod_writes r).2) tl))))))))) (k2 := 0) (n2 := 0) (inv_V (q := 12) (av := []) (rest := []) rfl (ci := 6) rfl d_Mod_removed_139 gw_1163 gw_1165 gw_64 mw_Mod_writes nh_Mod_writes pn_Mod_writes rfl) d_Mod_removed_139 pl_Mod_writes (Nat.le_of_ble_eq_true rfl) (Nat.le_of_ble_eq_true rfl) (Nat.le_of_ble_eq_true rfl) rfl rfl (e_f_Mod_writes (tl := tl) (d := d) (f := f) (w := w) (m := m) (s := s) (g := g)  r ) (Or.inl (len1 (lenHD (lenHF (lenHW (lenHM (lenHS (lenHG (lenHR rfl))))))))) ?_
  exact ev_pick [0, 1, 2] rfl (e_B_Mod_removed_142     ((f_Mod_writes r).2) x1 x2 ((f_Mod_writes r).1))
def B_Mod_removed_134   (r : RS) (x1 : Int32) (x2 : Int32) : Option (Int32 × RS) :=
  bnd (f_Mod_findMap r) (fun q => B_Mod_removed_138   q.2 x1 x2)
theorem e_B_Mod_removed_134 {sc : Nat × (Nat → Int32)} {d : DS} {f : FS} {w : WS} {m : MS} {s : SS} {g : GS} {tl : List mn_E}    (r : RS) (x1 : Int32) (x2 : Int32) : Ev sc 5 82 0 0 M_Mod_removed 134 [(0, .ref 12), (1, .int x1), (2, .int x2)] [] (eLV :: (HD d (HF f (HW w (HM m (HS s (HG g (HR r tl)))))))) (mapR ouI (fun z => (eLV :: (HD d (HF f (HW w (HM m (HS s (HG g (HR z tl))))))))) (B_Mod_removed_134 r x1 x2)) := by
  unfold B_Mod_removed_134
  refine ev_aload_n d_Mod_removed_134 rfl rfl ?_
  refine ev_callB (rc := (f_Mod_findMap r)) (ou := ouV) (Hs := (fun z => (eLV :: (HD d (HF f (HW w (HM m (HS s (HG g (HR z tl)))))))))) (inv_V (q := 12) (av := []) (rest := []) rfl (ci := 6) rfl d_Mod_removed_135 gw_1147 gw_1149 gw_60 mw_Mod_findMap nh_Mod_findMap pn_Mod_findMap rfl) d_Mod_removed_135 pl_Mod_findMap (Nat.le_of_ble_eq_true rfl) (Nat.le_of_ble_eq_true rfl) (Nat.le_of_ble_eq_true rfl) (e_f_Mod_findMap (tl := tl) (d := d) (f := f) (w := w) (m := m) (s := s) (g := g)  r ) (fun _ => (len1 (lenHD (lenHF (lenHW (lenHM (lenHS (lenHG (lenHR rfl))))))))) (fun v z h1 => ⟨_, rfl, ?_⟩)
  exact ev_pick [0, 1, 2] rfl (e_B_Mod_removed_138     z x1 x2)
def B_Mod_removed_126   (r : RS) (x1 : Int32) (x2 : Int32) : Option (Int32 × RS) :=
  B_Mod_removed_134   r x1 x2
theorem e_B_Mod_removed_126 {sc : Nat × (Nat → Int32)} {d : DS} {f : FS} {w : WS} {m : MS} {s : SS} {g : GS} {tl : List mn_E}    (r : RS) (x1 : Int32) (x2 : Int32) : Ev sc 5 82 0 0 M_Mod_removed 126 [(0, .ref 12), (1, .int x1), (2, .int x2)] [] (eLV :: (HD d (HF f (HW w (HM m (HS s (HG g (HR r tl)))))))) (mapR ouI (fun z => (eLV :: (HD d (HF f (HW w (HM m (HS s (HG g (HR z tl))))))))) (B_Mod_removed_126 r x1 x2)) := by
  unfold B_Mod_removed_126
  refine ev_goto (tgt := 134) d_Mod_removed_126 rfl ?_
  exact ev_pick [0, 1, 2] rfl (e_B_Mod_removed_134     r x1 x2)
def B_Mod_removed_116   (r : RS) (x1 : Int32) (x2 : Int32) : Option (Int32 × RS) :=
  B_Mod_removed_126   (rSRws r ((rRws r) + 1)) x1 x2
theorem e_B_Mod_removed_116 {sc : Nat × (Nat → Int32)} {d : DS} {f : FS} {w : WS} {m : MS} {s : SS} {g : GS} {tl : List mn_E}    (r : RS) (x1 : Int32) (x2 : Int32) : Ev sc 5 82 0 0 M_Mod_removed 116 [(0, .ref 12), (1, .int x1), (2, .int x2)] [] (eLV :: (HD d (HF f (HW w (HM m (HS s (HG g (HR r tl)))))))) (mapR ouI (fun z => (eLV :: (HD d (HF f (HW w (HM m (HS s (HG g (HR z tl))))))))) (B_Mod_removed_116 r x1 x2)) := by
  unfold B_Mod_removed_116
  refine ev_aload_n d_Mod_removed_116 rfl rfl ?_
  refine ev_aload_n d_Mod_removed_117 rfl rfl ?_
  refine ev_get (v := .int (rRws r)) gi_Mod (ci := 6) rfl rfl 23 (by decide) gw_1024 rfl d_Mod_removed_118 ?_
  refine ev_iconst (v := 1) d_Mod_removed_121 rfl ?_
  refine ev_iadd d_Mod_removed_122 ?_
  refine ev_put (h2 := (eLV :: (HD d (HF f (HW w (HM m (HS s (HG g (HR (rSRws r ((rRws r) + 1)) tl))))))))) gi_Mod ft_Mod fo_Mod fn_Mod (ci := 6) rfl rfl 23 (by decide) gw_1024 rfl rfl (fun _ => rfl) (fun _ => rfl) (Nat.le_of_ble_eq_true rfl) rfl d_Mod_removed_123 ?_
  exact ev_pick [0, 1, 2] rfl (e_B_Mod_removed_126     (rSRws r ((rRws r) + 1)) x1 x2)
def B_Mod_removed_96   (r : RS) (x1 : Int32) (x2 : Int32) (x3 : Int32) (x4 : Int32) : Option (Int32 × RS) :=
  if inB x3 40 then (if (rPag r x3.toNatClampNeg) ≤ 0 then (B_Mod_removed_134   (rSRws r 0) x1 x2) else (if inB (rRws r) 40 then (B_Mod_removed_116   (rSRow r (upd (rRow r) (rRws r).toNatClampNeg x4)) x1 x2) else none)) else none
theorem e_B_Mod_removed_96 {sc : Nat × (Nat → Int32)} {d : DS} {f : FS} {w : WS} {m : MS} {s : SS} {g : GS} {tl : List mn_E}    (r : RS) (x1 : Int32) (x2 : Int32) (x3 : Int32) (x4 : Int32) : Ev sc 5 82 0 0 M_Mod_removed 96 [(0, .ref 12), (1, .int x1), (2, .int x2), (3, .int x3), (4, .int x4)] [] (eLV :: (HD d (HF f (HW w (HM m (HS s (HG g (HR r tl)))))))) (mapR ouI (fun z => (eLV :: (HD d (HF f (HW w (HM m (HS s (HG g (HR z tl))))))))) (B_Mod_removed_96 r x1 x2 x3 x4)) := by
  unfold B_Mod_removed_96
  refine ev_aload_n d_Mod_removed_96 rfl rfl ?_
  refine ev_get (v := .ref 14) gi_Mod (ci := 6) rfl rfl 3 (by decide) gw_1004 rfl d_Mod_removed_97 ?_
  refine ev_iload_n d_Mod_removed_100 rfl rfl ?_
  refine ev_inB (fun h1 => ?_)
  refine ev_iaload rfl (inB_of h1) d_Mod_removed_101 ?_
  refine ev_if_le (tgt := 129) d_Mod_removed_102 rfl (fun h2 => ?_) (fun h2 => ?_)
  · rw [if_pos h2]
    refine ev_aload_n d_Mod_removed_129 rfl rfl ?_
    refine ev_iconst (v := 0) d_Mod_removed_130 rfl ?_
    refine ev_put (h2 := (eLV :: (HD d (HF f (HW w (HM m (HS s (HG g (HR (rSRws r 0) tl))))))))) gi_Mod ft_Mod fo_Mod fn_Mod (ci := 6) rfl rfl 23 (by decide) gw_1024 rfl rfl (fun _ => rfl) (fun _ => rfl) (Nat.le_of_ble_eq_true rfl) rfl d_Mod_removed_131 ?_
    exact ev_pick [0, 1, 2] rfl (e_B_Mod_removed_134     (rSRws r 0) x1 x2)
  · rw [if_neg h2]
    refine ev_aload_n d_Mod_removed_105 rfl rfl ?_
    refine ev_get (v := .ref 23) gi_Mod (ci := 6) rfl rfl 22 (by decide) gw_1023 rfl d_Mod_removed_106 ?_
    refine ev_aload_n d_Mod_removed_109 rfl rfl ?_
    refine ev_get (v := .int (rRws r)) gi_Mod (ci := 6) rfl rfl 23 (by decide) gw_1024 rfl d_Mod_removed_110 ?_
    refine ev_iload d_Mod_removed_113 rfl ?_
    refine ev_inB (fun h3 => ?_)
    refine ev_iastore (h2 := (eLV :: (HD d (HF f (HW w (HM m (HS s (HG g (HR (rSRow r (upd (rRow r) (rRws r).toNatClampNeg x4)) tl))))))))) rfl (inB_of h3) rfl d_Mod_removed_115 ?_
    exact ev_pick [0, 1, 2] rfl (e_B_Mod_removed_116     (rSRow r (upd (rRow r) (rRws r).toNatClampNeg x4)) x1 x2)
def B_Mod_removed_78   (r : RS) (x1 : Int32) (x2 : Int32) (x3 : Int32) (t0 : Int32) : Option (Int32 × RS) :=
  if inB x3 40 then (if (rPag r x3.toNatClampNeg) ≤ 0 then (B_Mod_removed_96   r x1 x2 x3 t0) else (if 0 ≤ t0 then (B_Mod_removed_96   r x1 x2 x3 t0) else (some (0, r)))) else none
theorem e_B_Mod_removed_78 {sc : Nat × (Nat → Int32)} {d : DS} {f : FS} {w : WS} {m : MS} {s : SS} {g : GS} {tl : List mn_E}    (r : RS) (x1 : Int32) (x2 : Int32) (x3 : Int32) (t0 : Int32) : Ev sc 5 82 0 0 M_Mod_removed 78 [(0, .ref 12), (1, .int x1), (2, .int x2), (3, .int x3)] [.int t0] (eLV :: (HD d (HF f (HW w (HM m (HS s (HG g (HR r tl)))))))) (mapR ouI (fun z => (eLV :: (HD d (HF f (HW w (HM m (HS s (HG g (HR z tl))))))))) (B_Mod_removed_78 r x1 x2 x3 t0)) := by
  unfold B_Mod_removed_78
  refine ev_istore d_Mod_removed_78 (by decide) rfl ?_
  refine ev_aload_n d_Mod_removed_80 rfl rfl ?_
  refine ev_get (v := .ref 14) gi_Mod (ci := 6) rfl rfl 3 (by decide) gw_1004 rfl d_Mod_removed_81 ?_
  refine ev_iload_n d_Mod_removed_84 rfl rfl ?_
  refine ev_inB (fun h1 => ?_)
  refine ev_iaload rfl (inB_of h1) d_Mod_removed_85 ?_
  refine ev_if_le (tgt := 96) d_Mod_removed_86 rfl (fun h2 => ?_) (fun h2 => ?_)
  · rw [if_pos h2]
    exact ev_pick [1, 2, 3, 4, 0] rfl (e_B_Mod_removed_96     r x1 x2 x3 t0)
  · rw [if_neg h2]
    refine ev_iload d_Mod_removed_89 rfl ?_
    refine ev_if_ge (tgt := 96) d_Mod_removed_91 rfl (fun h3 => ?_) (fun h3 => ?_)
    · rw [if_pos h3]
      exact ev_pick [1, 2, 3, 4, 0] rfl (e_B_Mod_removed_96     r x1 x2 x3 t0)
    · rw [if_neg h3]
      refine ev_iconst (v := 0) d_Mod_removed_94 rfl ?_
      exact ev_zret (ty := .int) rfl rfl d_Mod_removed_95
def B_Mod_removed_74   (r : RS) (x1 : Int32) (x2 : Int32) (x3 : Int32) (t0 : Int32) : Option (Int32 × RS) :=
  B_Mod_removed_78   r x1 x2 x3 t0
theorem e_B_Mod_removed_74 {sc : Nat × (Nat → Int32)} {d : DS} {f : FS} {w : WS} {m : MS} {s : SS} {g : GS} {tl : List mn_E}    (r : RS) (x1 : Int32) (x2 : Int32) (x3 : Int32) (t0 : Int32) : Ev sc 5 82 0 0 M_Mod_removed 74 [(0, .ref 12), (1, .int x1), (2, .int x2), (3, .int x3)] [.int t0] (eLV :: (HD d (HF f (HW w (HM m (HS s (HG g (HR r tl)))))))) (mapR ouI (fun z => (eLV :: (HD d (HF f (HW w (HM m (HS s (HG g (HR z tl))))))))) (B_Mod_removed_74 r x1 x2 x3 t0)) := by
  unfold B_Mod_removed_74
  refine ev_goto (tgt := 78) d_Mod_removed_74 rfl ?_
  exact ev_pick [0, 1, 2, 3] rfl (e_B_Mod_removed_78     r x1 x2 x3 t0)
def B_Mod_removed_52   (r : RS) (x1 : Int32) (x2 : Int32) (t0 : Int32) : Option (Int32 × RS) :=
  if 0 ≤ t0 then (if inB t0 40 then (if (rPag r t0.toNatClampNeg) ≤ 0 then (B_Mod_removed_78   r x1 x2 t0 (-1)) else (bnd (f_Mod_down r t0 1) (fun q => B_Mod_removed_74   q.2 x1 x2 t0 q.1))) else none) else (some (0, r))
theorem e_B_Mod_removed_52 {sc : Nat × (Nat → Int32)} {d : DS} {f : FS} {w : WS} {m : MS} {s : SS} {g : GS} {tl : List mn_E}    (r : RS) (x1 : Int32) (x2 : Int32) (t0 : Int32) : Ev sc 5 82 0 0 M_Mod_removed 52 [(0, .ref 12), (1, .int x1), (2, .int x2)] [.int t0] (eLV :: (HD d (HF f (HW w (HM m (HS s (HG g (HR r tl)))))))) (mapR ouI (fun z => (eLV :: (HD d (HF f (HW w (HM m (HS s (HG g (HR z tl))))))))) (B_Mod_removed_52 r x1 x2 t0)) := by
  unfold B_Mod_removed_52
  refine ev_istore_n d_Mod_removed_52 rfl (by decide) rfl ?_
  refine ev_iload_n d_Mod_removed_53 rfl rfl ?_
  refine ev_if_ge (tgt := 59) d_Mod_removed_54 rfl (fun h1 => ?_) (fun h1 => ?_)
  · rw [if_pos h1]
    refine ev_aload_n d_Mod_removed_59 rfl rfl ?_
    refine ev_get (v := .ref 14) gi_Mod (ci := 6) rfl rfl 3 (by decide) gw_1004 rfl d_Mod_removed_60 ?_
    refine ev_iload_n d_Mod_removed_63 rfl rfl ?_
    refine ev_inB (fun h2 => ?_)
    refine ev_iaload rfl (inB_of h2) d_Mod_removed_64 ?_
    refine ev_if_le (tgt := 77) d_Mod_removed_65 rfl (fun h3 => ?_) (fun h3 => ?_)
    · rw [if_pos h3]
      refine ev_iconst (v := -1) d_Mod_removed_77 rfl ?_
      exact ev_pick [1, 2, 3, 0] rfl (e_B_Mod_removed_78     r x1 x2 t0 (-1))
    · rw [if_neg h3]
      refine ev_aload_n d_Mod_removed_68 rfl rfl ?_
      refine ev_iload_n d_Mod_removed_69 rfl rfl ?_
      refine ev_iconst (v := 1) d_Mod_removed_70 rfl ?_
      refine ev_callB (rc := (f_Mod_down r t0 1)) (ou := ouI) (Hs := (fun z => (eLV :: (HD d (HF f (HW w (HM m (HS s (HG g (HR z tl)))))))))) (inv_V (q := 12) (av := [.int t0, .int 1]) (rest := []) rfl (ci := 6) rfl d_Mod_removed_71 gw_1231 gw_1233 gw_77 mw_Mod_down nh_Mod_down pn_Mod_down rfl) d_Mod_removed_71 pl_Mod_down (Nat.le_of_ble_eq_true rfl) (Nat.le_of_ble_eq_true rfl) (Nat.le_of_ble_eq_true rfl) (e_f_Mod_down (tl := tl) (d := d) (f := f) (w := w) (m := m) (s := s) (g := g)  r t0 1) (fun _ => (len1 (lenHD (lenHF (lenHW (lenHM (lenHS (lenHG (lenHR rfl))))))))) (fun v z h4 => ⟨_, rfl, ?_⟩)
      exact ev_pick [1, 2, 3, 0] rfl (e_B_Mod_removed_74     z x1 x2 t0 v)
  · rw [if_neg h1]
    refine ev_iconst (v := 0) d_Mod_removed_57 rfl ?_
    exact ev_zret (ty := .int) rfl rfl d_Mod_removed_58
def B_Mod_removed_48   (r : RS) (x1 : Int32) (x2 : Int32) (t0 : Int32) : Option (Int32 × RS) :=
  B_Mod_removed_52   r x1 x2 t0
theorem e_B_Mod_removed_48 {sc : Nat × (Nat → Int32)} {d : DS} {f : FS} {w : WS} {m : MS} {s : SS} {g : GS} {tl : List mn_E}    (r : RS) (x1 : Int32) (x2 : Int32) (t0 : Int32) : Ev sc 5 82 0 0 M_Mod_removed 48 [(0, .ref 12), (1, .int x1), (2, .int x2)] [.int t0] (eLV :: (HD d (HF f (HW w (HM m (HS s (HG g (HR r tl)))))))) (mapR ouI (fun z => (eLV :: (HD d (HF f (HW w (HM m (HS s (HG g (HR z tl))))))))) (B_Mod_removed_48 r x1 x2 t0)) := by
  unfold B_Mod_removed_48
  refine ev_goto (tgt := 52) d_Mod_removed_48 rfl ?_
  exact ev_pick [0, 1, 2] rfl (e_B_Mod_removed_52     r x1 x2 t0)
def B_Mod_removed_36   (r : RS) (x1 : Int32) (x2 : Int32) : Option (Int32 × RS) :=
  if ¬ (rFau r) = 0 then (B_Mod_removed_52   r x1 x2 (-1)) else (bnd (f_Mod_last r x1) (fun q => B_Mod_removed_48   q.2 x1 x2 q.1))
theorem e_B_Mod_removed_36 {sc : Nat × (Nat → Int32)} {d : DS} {f : FS} {w : WS} {m : MS} {s : SS} {g : GS} {tl : List mn_E}    (r : RS) (x1 : Int32) (x2 : Int32) : Ev sc 5 82 0 0 M_Mod_removed 36 [(0, .ref 12), (1, .int x1), (2, .int x2)] [] (eLV :: (HD d (HF f (HW w (HM m (HS s (HG g (HR r tl)))))))) (mapR ouI (fun z => (eLV :: (HD d (HF f (HW w (HM m (HS s (HG g (HR z tl))))))))) (B_Mod_removed_36 r x1 x2)) := by
  unfold B_Mod_removed_36
  refine ev_aload_n d_Mod_removed_36 rfl rfl ?_
  refine ev_get (v := .int (rFau r)) gi_Mod (ci := 6) rfl rfl 1 (by decide) gw_1002 rfl d_Mod_removed_37 ?_
  refine ev_if_ne (tgt := 51) d_Mod_removed_40 rfl (fun h1 => ?_) (fun h1 => ?_)
  · rw [if_pos h1]
    refine ev_iconst (v := -1) d_Mod_removed_51 rfl ?_
    exact ev_pick [0, 1, 2] rfl (e_B_Mod_removed_52     r x1 x2 (-1))
  · rw [if_neg h1]
    refine ev_aload_n d_Mod_removed_43 rfl rfl ?_
    refine ev_iload_n d_Mod_removed_44 rfl rfl ?_
    refine ev_callB (rc := (f_Mod_last r x1)) (ou := ouI) (Hs := (fun z => (eLV :: (HD d (HF f (HW w (HM m (HS s (HG g (HR z tl)))))))))) (inv_V (q := 12) (av := [.int x1]) (rest := []) rfl (ci := 6) rfl d_Mod_removed_45 gw_1203 gw_1205 gw_72 mw_Mod_last nh_Mod_last pn_Mod_last rfl) d_Mod_removed_45 pl_Mod_last (Nat.le_of_ble_eq_true rfl) (Nat.le_of_ble_eq_true rfl) (Nat.le_of_ble_eq_true rfl) (e_f_Mod_last (tl := tl) (d := d) (f := f) (w := w) (m := m) (s := s) (g := g)  r x1) (fun _ => (len1 (lenHD (lenHF (lenHW (lenHM (lenHS (lenHG (lenHR rfl))))))))) (fun v z h2 => ⟨_, rfl, ?_⟩)
    exact ev_pick [0, 1, 2] rfl (e_B_Mod_removed_48     z x1 x2 v)
def B_Mod_removed_33   (r : RS) (x1 : Int32) (x2 : Int32) (t1 : Int32) : Option (Int32 × RS) :=
  B_Mod_removed_36   (rSFau r t1) x1 x2
theorem e_B_Mod_removed_33 {sc : Nat × (Nat → Int32)} {d : DS} {f : FS} {w : WS} {m : MS} {s : SS} {g : GS} {tl : List mn_E}    (r : RS) (x1 : Int32) (x2 : Int32) (t1 : Int32) : Ev sc 5 82 0 0 M_Mod_removed 33 [(0, .ref 12), (1, .int x1), (2, .int x2)] [.int t1, .ref 12] (eLV :: (HD d (HF f (HW w (HM m (HS s (HG g (HR r tl)))))))) (mapR ouI (fun z => (eLV :: (HD d (HF f (HW w (HM m (HS s (HG g (HR z tl))))))))) (B_Mod_removed_33 r x1 x2 t1)) := by
  unfold B_Mod_removed_33
  refine ev_put (h2 := (eLV :: (HD d (HF f (HW w (HM m (HS s (HG g (HR (rSFau r t1) tl))))))))) gi_Mod ft_Mod fo_Mod fn_Mod (ci := 6) rfl rfl 1 (by decide) gw_1002 rfl rfl (fun _ => rfl) (fun _ => rfl) (Nat.le_of_ble_eq_true rfl) rfl d_Mod_removed_33 ?_
  exact ev_pick [0, 1, 2] rfl (e_B_Mod_removed_36     (rSFau r t1) x1 x2)
def B_Mod_removed_15   (r : RS) (x1 : Int32) (x2 : Int32) (t0 : Int32) : Option (Int32 × RS) :=
  if ¬ t0 = 0 then (if (rFAt r) < 0 then (B_Mod_removed_33   r x1 x2 0) else (B_Mod_removed_33   r x1 x2 4)) else (some (0, r))
theorem e_B_Mod_removed_15 {sc : Nat × (Nat → Int32)} {d : DS} {f : FS} {w : WS} {m : MS} {s : SS} {g : GS} {tl : List mn_E}    (r : RS) (x1 : Int32) (x2 : Int32) (t0 : Int32) : Ev sc 5 82 0 0 M_Mod_removed 15 [(0, .ref 12), (1, .int x1), (2, .int x2)] [.int t0] (eLV :: (HD d (HF f (HW w (HM m (HS s (HG g (HR r tl)))))))) (mapR ouI (fun z => (eLV :: (HD d (HF f (HW w (HM m (HS s (HG g (HR z tl))))))))) (B_Mod_removed_15 r x1 x2 t0)) := by
  unfold B_Mod_removed_15
  refine ev_if_ne (tgt := 20) d_Mod_removed_15 rfl (fun h1 => ?_) (fun h1 => ?_)
  · rw [if_pos h1]
    refine ev_aload_n d_Mod_removed_20 rfl rfl ?_
    refine ev_aload_n d_Mod_removed_21 rfl rfl ?_
    refine ev_get (v := .int (rFAt r)) gi_Mod (ci := 6) rfl rfl 19 (by decide) gw_1020 rfl d_Mod_removed_22 ?_
    refine ev_if_lt (tgt := 32) d_Mod_removed_25 rfl (fun h2 => ?_) (fun h2 => ?_)
    · rw [if_pos h2]
      refine ev_iconst (v := 0) d_Mod_removed_32 rfl ?_
      exact ev_pick [0, 1, 2] rfl (e_B_Mod_removed_33     r x1 x2 0)
    · rw [if_neg h2]
      refine ev_iconst (v := 4) d_Mod_removed_28 rfl ?_
      refine ev_goto (tgt := 33) d_Mod_removed_29 rfl ?_
      exact ev_pick [0, 1, 2] rfl (e_B_Mod_removed_33     r x1 x2 4)
  · rw [if_neg h1]
    refine ev_iconst (v := 0) d_Mod_removed_18 rfl ?_
    exact ev_zret (ty := .int) rfl rfl d_Mod_removed_19
def B_Mod_removed_5   (r : RS) (x1 : Int32) (x2 : Int32) (t0 : Int32) : Option (Int32 × RS) :=
  if t0 = 0 then (B_Mod_removed_36   r x1 x2) else (bnd (f_Mod_go r x1 2 0) (fun q => B_Mod_removed_15   q.2 x1 x2 q.1))
theorem e_B_Mod_removed_5 {sc : Nat × (Nat → Int32)} {d : DS} {f : FS} {w : WS} {m : MS} {s : SS} {g : GS} {tl : List mn_E}    (r : RS) (x1 : Int32) (x2 : Int32) (t0 : Int32) : Ev sc 5 82 0 0 M_Mod_removed 5 [(0, .ref 12), (1, .int x1), (2, .int x2)] [.int t0] (eLV :: (HD d (HF f (HW w (HM m (HS s (HG g (HR r tl)))))))) (mapR ouI (fun z => (eLV :: (HD d (HF f (HW w (HM m (HS s (HG g (HR z tl))))))))) (B_Mod_removed_5 r x1 x2 t0)) := by
  unfold B_Mod_removed_5
  refine ev_if_eq (tgt := 36) d_Mod_removed_5 rfl (fun h1 => ?_) (fun h1 => ?_)
  · rw [if_pos h1]
    exact ev_pick [0, 1, 2] rfl (e_B_Mod_removed_36     r x1 x2)
  · rw [if_neg h1]
    refine ev_aload_n d_Mod_removed_8 rfl rfl ?_
    refine ev_iload_n d_Mod_removed_9 rfl rfl ?_
    refine ev_iconst (v := 2) d_Mod_removed_10 rfl ?_
    refine ev_iconst (v := 0) d_Mod_removed_11 rfl ?_
    refine ev_callB (rc := (f_Mod_go r x1 2 0)) (ou := ouI) (Hs := (fun z => (eLV :: (HD d (HF f (HW w (HM m (HS s (HG g (HR z tl)))))))))) (inv_V (q := 12) (av := [.int x1, .int 2, .int 0]) (rest := []) rfl (ci := 6) rfl d_Mod_removed_12 gw_1127 gw_1129 gw_55 mw_Mod_go nh_Mod_go pn_Mod_go rfl) d_Mod_removed_12 pl_Mod_go (Nat.le_of_ble_eq_true rfl) (Nat.le_of_ble_eq_true rfl) (Nat.le_of_ble_eq_true rfl) (e_f_Mod_go (tl := tl) (d := d) (f := f) (w := w) (m := m) (s := s) (g := g)  r x1 2 0) (fun _ => (len1 (lenHD (lenHF (lenHW (lenHM (lenHS (lenHG (lenHR rfl))))))))) (fun v z h2 => ⟨_, rfl, ?_⟩)
    exact ev_pick [0, 1, 2] rfl (e_B_Mod_removed_15     z x1 x2 v)
def f_Mod_removed   (r : RS) (x1 : Int32) (x2 : Int32) : Option (Int32 × RS) :=
  bnd (f_Mod_isDirectory r x1) (fun q => B_Mod_removed_5   r x1 x2 q.1)
theorem e_f_Mod_removed {sc : Nat × (Nat → Int32)} {d : DS} {f : FS} {w : WS} {m : MS} {s : SS} {g : GS} {tl : List mn_E}    (r : RS) (x1 : Int32) (x2 : Int32) : Ev sc 5 82 0 0 M_Mod_removed 0 [(0, .ref 12), (1, .int x1), (2, .int x2)] [] (eLV :: (HD d (HF f (HW w (HM m (HS s (HG g (HR r tl)))))))) (mapR ouI (fun z => (eLV :: (HD d (HF f (HW w (HM m (HS s (HG g (HR z tl))))))))) (f_Mod_removed r x1 x2)) := by
  unfold f_Mod_removed
  refine ev_aload_n d_Mod_removed_0 rfl rfl ?_
  refine ev_iload_n d_Mod_removed_1 rfl rfl ?_
  refine ev_callB (rc := (f_Mod_isDirectory r x1)) (ou := ouI) (Hs := (fun z => (eLV :: (HD d (HF f (HW w (HM m (HS s (HG g (HR r tl)))))))))) (inv_V (q := 12) (av := [.int x1]) (rest := []) rfl (ci := 6) rfl d_Mod_removed_2 gw_1123 gw_1125 gw_54 mw_Mod_isDirectory nh_Mod_isDirectory pn_Mod_isDirectory rfl) d_Mod_removed_2 pl_Mod_isDirectory (Nat.le_of_ble_eq_true rfl) (Nat.le_of_ble_eq_true rfl) (Nat.le_of_ble_eq_true rfl) (e_f_Mod_isDirectory (tl := tl) (d := d) (f := f) (w := w) (m := m) (s := s) (g := g)  r x1) (fun _ => (len1 (lenHD (lenHF (lenHW (lenHM (lenHS (lenHG (lenHR rfl))))))))) (fun v z h1 => ⟨_, rfl, ?_⟩)
  exact ev_pick [0, 1, 2] rfl (e_B_Mod_removed_5     r x1 x2 v)
def B_Mod_remove_37   (r : RS) (t0 : Int32) : Option (Int32 × RS) :=
  some (t0, r)
theorem e_B_Mod_remove_37 {sc : Nat × (Nat → Int32)} {d : DS} {f : FS} {w : WS} {m : MS} {s : SS} {g : GS} {tl : List mn_E}    (r : RS) (t0 : Int32) : Ev sc 6 99 0 0 M_Mod_remove 37 [] [.int t0] (eLV :: (HD d (HF f (HW w (HM m (HS s (HG g (HR r tl)))))))) (mapR ouI (fun z => (eLV :: (HD d (HF f (HW w (HM m (HS s (HG g (HR z tl))))))))) (B_Mod_remove_37 r t0)) := by
  unfold B_Mod_remove_37
  exact ev_zret (ty := .int) rfl rfl d_Mod_remove_37
def B_Mod_remove_24   (r : RS) (t0 : Int32) : Option (Int32 × RS) :=
  B_Mod_remove_37   ((f_Mod_ends r t0 1 2 3 4 4).2) ((f_Mod_ends r t0 1 2 3 4 4).1)
theorem e_B_Mod_remove_24 {sc : Nat × (Nat → Int32)} {d : DS} {f : FS} {w : WS} {m : MS} {s : SS} {g : GS} {tl : List mn_E}    (r : RS) (t0 : Int32) : Ev sc 6 99 0 0 M_Mod_remove 24 [(0, .ref 12)] [.int t0] (eLV :: (HD d (HF f (HW w (HM m (HS s (HG g (HR r tl)))))))) (mapR ouI (fun z => (eLV :: (HD d (HF f (HW w (HM m (HS s (HG g (HR z tl))))))))) (B_Mod_remove_24 r t0)) := by
  unfold B_Mod_remove_24
  refine ev_istore d_Mod_remove_24 (by decide) rfl ?_
  refine ev_aload_n d_Mod_remove_26 rfl rfl ?_
  refine ev_iload d_Mod_remove_27 rfl ?_
  refine ev_iconst (v := 1) d_Mod_remove_29 rfl ?_
  refine ev_iconst (v := 2) d_Mod_remove_30 rfl ?_
  refine ev_iconst (v := 3) d_Mod_remove_31 rfl ?_
  refine ev_iconst (v := 4) d_Mod_remove_32 rfl ?_
  refine ev_iconst (v := 4) d_Mod_remove_33 rfl ?_
  refine ev_callr (Mc := M_Mod_ends) (v := some (.int ((f_Mod_ends r t0 1 2 3 4 4).1))) (h1 := (eLV :: (HD d (HF f (HW w (HM m (HS s (HG g (HR ((f_Mod_ends r t0 1 2 3 4 4).2) tl))))))))) (k2 := 0) (n2 := 0) (inv_V (q := 12) (av := [.int t0, .int 1, .int 2, .int 3, .int 4, .int 4]) (rest := []) rfl (ci := 6) rfl d_Mod_remove_34 gw_1187 gw_1189 gw_70 mw_Mod_ends nh_Mod_ends pn_Mod_ends rfl) d_Mod_remove_34 pl_Mod_ends (Nat.le_of_ble_eq_true rfl) (Nat.le_of_ble_eq_true rfl) (Nat.le_of_ble_eq_true rfl) rfl rfl (e_f_Mod_ends (tl := tl) (d := d) (f := f) (w := w) (m := m) (s := s) (g := g)  r t0 1 2 3 4 4) (Or.inl (len1 (lenHD (lenHF (lenHW (lenHM (lenHS (lenHG (lenHR rfl))))))))) ?_
  exact ev_pick [] rfl (e_B_Mod_remove_37     ((f_Mod_ends r t0 1 2 3 4 4).2) ((f_Mod_ends r t0 1 2 3 4 4).1))
def B_Mod_remove_6   (r : RS) (t0 : Int32) : Option (Int32 × RS) :=
  if 0 ≤ t0 then (bnd (f_Mod_removed r t0 (rFPl r)) (fun q => B_Mod_remove_24   q.2 q.1)) else (B_Mod_remove_24   r 0)
theorem e_B_Mod_remove_6 {sc : Nat × (Nat → Int32)} {d : DS} {f : FS} {w : WS} {m : MS} {s : SS} {g : GS} {tl : List mn_E}    (r : RS) (t0 : Int32) : Ev sc 6 99 0 0 M_Mod_remove 6 [(0, .ref 12)] [.int t0] (eLV :: (HD d (HF f (HW w (HM m (HS s (HG g (HR r tl)))))))) (mapR ouI (fun z => (eLV :: (HD d (HF f (HW w (HM m (HS s (HG g (HR z tl))))))))) (B_Mod_remove_6 r t0)) := by
  unfold B_Mod_remove_6
  refine ev_istore_n d_Mod_remove_6 rfl (by decide) rfl ?_
  refine ev_iload_n d_Mod_remove_7 rfl rfl ?_
  refine ev_if_ge (tgt := 15) d_Mod_remove_8 rfl (fun h1 => ?_) (fun h1 => ?_)
  · rw [if_pos h1]
    refine ev_aload_n d_Mod_remove_15 rfl rfl ?_
    refine ev_iload_n d_Mod_remove_16 rfl rfl ?_
    refine ev_aload_n d_Mod_remove_17 rfl rfl ?_
    refine ev_get (v := .int (rFPl r)) gi_Mod (ci := 6) rfl rfl 20 (by decide) gw_1021 rfl d_Mod_remove_18 ?_
    refine ev_callB (rc := (f_Mod_removed r t0 (rFPl r))) (ou := ouI) (Hs := (fun z => (eLV :: (HD d (HF f (HW w (HM m (HS s (HG g (HR z tl)))))))))) (inv_V (q := 12) (av := [.int t0, .int (rFPl r)]) (rest := []) rfl (ci := 6) rfl d_Mod_remove_21 gw_1243 gw_1245 gw_79 mw_Mod_removed nh_Mod_removed pn_Mod_removed rfl) d_Mod_remove_21 pl_Mod_removed (Nat.le_of_ble_eq_true rfl) (Nat.le_of_ble_eq_true rfl) (Nat.le_of_ble_eq_true rfl) (e_f_Mod_removed (tl := tl) (d := d) (f := f) (w := w) (m := m) (s := s) (g := g)  r t0 (rFPl r)) (fun _ => (len1 (lenHD (lenHF (lenHW (lenHM (lenHS (lenHG (lenHR rfl))))))))) (fun v z h2 => ⟨_, rfl, ?_⟩)
    exact ev_pick [1] rfl (e_B_Mod_remove_24     z v)
  · rw [if_neg h1]
    refine ev_iconst (v := 0) d_Mod_remove_11 rfl ?_
    refine ev_goto (tgt := 24) d_Mod_remove_12 rfl ?_
    exact ev_pick [1] rfl (e_B_Mod_remove_24     r 0)
def f_Mod_remove   (r : RS) (x1 : Int32) (x2 : Int32) : Option (Int32 × RS) :=
  bnd (f_Mod_opened r x1 x2) (fun q => B_Mod_remove_6   q.2 q.1)
theorem e_f_Mod_remove {sc : Nat × (Nat → Int32)} {d : DS} {f : FS} {w : WS} {m : MS} {s : SS} {g : GS} {tl : List mn_E}    (r : RS) (x1 : Int32) (x2 : Int32) : Ev sc 6 99 0 0 M_Mod_remove 0 [(0, .ref 12), (1, .int x1), (2, .int x2)] [] (eLV :: (HD d (HF f (HW w (HM m (HS s (HG g (HR r tl)))))))) (mapR ouI (fun z => (eLV :: (HD d (HF f (HW w (HM m (HS s (HG g (HR z tl))))))))) (f_Mod_remove r x1 x2)) := by
  unfold f_Mod_remove
  refine ev_aload_n d_Mod_remove_0 rfl rfl ?_
  refine ev_iload_n d_Mod_remove_1 rfl rfl ?_
  refine ev_iload_n d_Mod_remove_2 rfl rfl ?_
  refine ev_callB (rc := (f_Mod_opened r x1 x2)) (ou := ouI) (Hs := (fun z => (eLV :: (HD d (HF f (HW w (HM m (HS s (HG g (HR z tl)))))))))) (inv_V (q := 12) (av := [.int x1, .int x2]) (rest := []) rfl (ci := 6) rfl d_Mod_remove_3 gw_1195 gw_1197 gw_71 mw_Mod_opened nh_Mod_opened pn_Mod_opened rfl) d_Mod_remove_3 pl_Mod_opened (Nat.le_of_ble_eq_true rfl) (Nat.le_of_ble_eq_true rfl) (Nat.le_of_ble_eq_true rfl) (e_f_Mod_opened (tl := tl) (d := d) (f := f) (w := w) (m := m) (s := s) (g := g)  r x1 x2) (fun _ => (len1 (lenHD (lenHF (lenHW (lenHM (lenHS (lenHG (lenHR rfl))))))))) (fun v z h1 => ⟨_, rfl, ?_⟩)
  exact ev_pick [0] rfl (e_B_Mod_remove_6     z v)
def B_Mod_length_45   (r : RS) (t0 : Int32) : Option (Int32 × RS) :=
  some (t0, r)
theorem e_B_Mod_length_45 {sc : Nat × (Nat → Int32)} {d : DS} {f : FS} {w : WS} {m : MS} {s : SS} {g : GS} {tl : List mn_E}    (r : RS) (t0 : Int32) : Ev sc 5 77 0 0 M_Mod_length 45 [] [.int t0] (eLV :: (HD d (HF f (HW w (HM m (HS s (HG g (HR r tl)))))))) (mapR ouI (fun z => (eLV :: (HD d (HF f (HW w (HM m (HS s (HG g (HR z tl))))))))) (B_Mod_length_45 r t0)) := by
  unfold B_Mod_length_45
  exact ev_zret (ty := .int) rfl rfl d_Mod_length_45
def B_Mod_length_37   (r : RS) (t1 : Int32) : Option (Int32 × RS) :=
  B_Mod_length_45   ((f_Mod_ends r t1 1 2 3 3 3).2) ((f_Mod_ends r t1 1 2 3 3 3).1)
theorem e_B_Mod_length_37 {sc : Nat × (Nat → Int32)} {d : DS} {f : FS} {w : WS} {m : MS} {s : SS} {g : GS} {tl : List mn_E}    (r : RS) (t1 : Int32) : Ev sc 5 77 0 0 M_Mod_length 37 [] [.int t1, .ref 12] (eLV :: (HD d (HF f (HW w (HM m (HS s (HG g (HR r tl)))))))) (mapR ouI (fun z => (eLV :: (HD d (HF f (HW w (HM m (HS s (HG g (HR z tl))))))))) (B_Mod_length_37 r t1)) := by
  unfold B_Mod_length_37
  refine ev_iconst (v := 1) d_Mod_length_37 rfl ?_
  refine ev_iconst (v := 2) d_Mod_length_38 rfl ?_
  refine ev_iconst (v := 3) d_Mod_length_39 rfl ?_
  refine ev_iconst (v := 3) d_Mod_length_40 rfl ?_
  refine ev_iconst (v := 3) d_Mod_length_41 rfl ?_
  refine ev_callr (Mc := M_Mod_ends) (v := some (.int ((f_Mod_ends r t1 1 2 3 3 3).1))) (h1 := (eLV :: (HD d (HF f (HW w (HM m (HS s (HG g (HR ((f_Mod_ends r t1 1 2 3 3 3).2) tl))))))))) (k2 := 0) (n2 := 0) (inv_V (q := 12) (av := [.int t1, .int 1, .int 2, .int 3, .int 3, .int 3]) (rest := []) rfl (ci := 6) rfl d_Mod_length_42 gw_1187 gw_1189 gw_70 mw_Mod_ends nh_Mod_ends pn_Mod_ends rfl) d_Mod_length_42 pl_Mod_ends (Nat.le_of_ble_eq_true rfl) (Nat.le_of_ble_eq_true rfl) (Nat.le_of_ble_eq_true rfl) rfl rfl (e_f_Mod_ends (tl := tl) (d := d) (f := f) (w := w) (m := m) (s := s) (g := g)  r t1 1 2 3 3 3) (Or.inl (len1 (lenHD (lenHF (lenHW (lenHM (lenHS (lenHG (lenHR rfl))))))))) ?_
  exact ev_pick [] rfl (e_B_Mod_length_45     ((f_Mod_ends r t1 1 2 3 3 3).2) ((f_Mod_ends r t1 1 2 3 3 3).1))
def B_Mod_length_22   (r : RS) (t0 : Int32) : Option (Int32 × RS) :=
  if 0 ≤ t0 then (bnd (f_Mod_lengthAt r t0) (fun q => B_Mod_length_37   r q.1)) else (B_Mod_length_37   r 0)
theorem e_B_Mod_length_22 {sc : Nat × (Nat → Int32)} {d : DS} {f : FS} {w : WS} {m : MS} {s : SS} {g : GS} {tl : List mn_E}    (r : RS) (t0 : Int32) : Ev sc 5 77 0 0 M_Mod_length 22 [(0, .ref 12)] [.int t0] (eLV :: (HD d (HF f (HW w (HM m (HS s (HG g (HR r tl)))))))) (mapR ouI (fun z => (eLV :: (HD d (HF f (HW w (HM m (HS s (HG g (HR z tl))))))))) (B_Mod_length_22 r t0)) := by
  unfold B_Mod_length_22
  refine ev_istore_n d_Mod_length_22 rfl (by decide) rfl ?_
  refine ev_aload_n d_Mod_length_23 rfl rfl ?_
  refine ev_iload_n d_Mod_length_24 rfl rfl ?_
  refine ev_if_ge (tgt := 32) d_Mod_length_25 rfl (fun h1 => ?_) (fun h1 => ?_)
  · rw [if_pos h1]
    refine ev_aload_n d_Mod_length_32 rfl rfl ?_
    refine ev_iload_n d_Mod_length_33 rfl rfl ?_
    refine ev_callB (rc := (f_Mod_lengthAt r t0)) (ou := ouI) (Hs := (fun z => (eLV :: (HD d (HF f (HW w (HM m (HS s (HG g (HR r tl)))))))))) (inv_V (q := 12) (av := [.int t0]) (rest := [.ref 12]) rfl (ci := 6) rfl d_Mod_length_34 gw_1207 gw_1209 gw_73 mw_Mod_lengthAt nh_Mod_lengthAt pn_Mod_lengthAt rfl) d_Mod_length_34 pl_Mod_lengthAt (Nat.le_of_ble_eq_true rfl) (Nat.le_of_ble_eq_true rfl) (Nat.le_of_ble_eq_true rfl) (e_f_Mod_lengthAt (tl := tl) (d := d) (f := f) (w := w) (m := m) (s := s) (g := g)  r t0) (fun _ => (len1 (lenHD (lenHF (lenHW (lenHM (lenHS (lenHG (lenHR rfl))))))))) (fun v z h2 => ⟨_, rfl, ?_⟩)
    exact ev_pick [] rfl (e_B_Mod_length_37     r v)
  · rw [if_neg h1]
    refine ev_iconst (v := 0) d_Mod_length_28 rfl ?_
    refine ev_goto (tgt := 37) d_Mod_length_29 rfl ?_
    exact ev_pick [] rfl (e_B_Mod_length_37     r 0)
def B_Mod_length_18   (r : RS) (t0 : Int32) : Option (Int32 × RS) :=
  B_Mod_length_22   r t0
theorem e_B_Mod_length_18 {sc : Nat × (Nat → Int32)} {d : DS} {f : FS} {w : WS} {m : MS} {s : SS} {g : GS} {tl : List mn_E}    (r : RS) (t0 : Int32) : Ev sc 5 77 0 0 M_Mod_length 18 [(0, .ref 12)] [.int t0] (eLV :: (HD d (HF f (HW w (HM m (HS s (HG g (HR r tl)))))))) (mapR ouI (fun z => (eLV :: (HD d (HF f (HW w (HM m (HS s (HG g (HR z tl))))))))) (B_Mod_length_18 r t0)) := by
  unfold B_Mod_length_18
  refine ev_goto (tgt := 22) d_Mod_length_18 rfl ?_
  exact ev_pick [0] rfl (e_B_Mod_length_22     r t0)
def B_Mod_length_5   (r : RS) (t0 : Int32) : Option (Int32 × RS) :=
  if ¬ (rFau r) = 0 then (B_Mod_length_22   r (-1)) else (bnd (f_Mod_last r t0) (fun q => B_Mod_length_18   q.2 q.1))
theorem e_B_Mod_length_5 {sc : Nat × (Nat → Int32)} {d : DS} {f : FS} {w : WS} {m : MS} {s : SS} {g : GS} {tl : List mn_E}    (r : RS) (t0 : Int32) : Ev sc 5 77 0 0 M_Mod_length 5 [(0, .ref 12)] [.int t0] (eLV :: (HD d (HF f (HW w (HM m (HS s (HG g (HR r tl)))))))) (mapR ouI (fun z => (eLV :: (HD d (HF f (HW w (HM m (HS s (HG g (HR z tl))))))))) (B_Mod_length_5 r t0)) := by
  unfold B_Mod_length_5
  refine ev_istore_n d_Mod_length_5 rfl (by decide) rfl ?_
  refine ev_aload_n d_Mod_length_6 rfl rfl ?_
  refine ev_get (v := .int (rFau r)) gi_Mod (ci := 6) rfl rfl 1 (by decide) gw_1002 rfl d_Mod_length_7 ?_
  refine ev_if_ne (tgt := 21) d_Mod_length_10 rfl (fun h1 => ?_) (fun h1 => ?_)
  · rw [if_pos h1]
    refine ev_iconst (v := -1) d_Mod_length_21 rfl ?_
    exact ev_pick [1] rfl (e_B_Mod_length_22     r (-1))
  · rw [if_neg h1]
    refine ev_aload_n d_Mod_length_13 rfl rfl ?_
    refine ev_iload_n d_Mod_length_14 rfl rfl ?_
    refine ev_callB (rc := (f_Mod_last r t0)) (ou := ouI) (Hs := (fun z => (eLV :: (HD d (HF f (HW w (HM m (HS s (HG g (HR z tl)))))))))) (inv_V (q := 12) (av := [.int t0]) (rest := []) rfl (ci := 6) rfl d_Mod_length_15 gw_1203 gw_1205 gw_72 mw_Mod_last nh_Mod_last pn_Mod_last rfl) d_Mod_length_15 pl_Mod_last (Nat.le_of_ble_eq_true rfl) (Nat.le_of_ble_eq_true rfl) (Nat.le_of_ble_eq_true rfl) (e_f_Mod_last (tl := tl) (d := d) (f := f) (w := w) (m := m) (s := s) (g := g)  r t0) (fun _ => (len1 (lenHD (lenHF (lenHW (lenHM (lenHS (lenHG (lenHR rfl))))))))) (fun v z h2 => ⟨_, rfl, ?_⟩)
    exact ev_pick [1] rfl (e_B_Mod_length_18     z v)
def f_Mod_length   (r : RS) (x1 : Int32) : Option (Int32 × RS) :=
  bnd (f_Mod_begin r x1) (fun q => B_Mod_length_5   q.2 q.1)
theorem e_f_Mod_length {sc : Nat × (Nat → Int32)} {d : DS} {f : FS} {w : WS} {m : MS} {s : SS} {g : GS} {tl : List mn_E}    (r : RS) (x1 : Int32) : Ev sc 5 77 0 0 M_Mod_length 0 [(0, .ref 12), (1, .int x1)] [] (eLV :: (HD d (HF f (HW w (HM m (HS s (HG g (HR r tl)))))))) (mapR ouI (fun z => (eLV :: (HD d (HF f (HW w (HM m (HS s (HG g (HR z tl))))))))) (f_Mod_length r x1)) := by
  unfold f_Mod_length
  refine ev_aload_n d_Mod_length_0 rfl rfl ?_
  refine ev_iload_n d_Mod_length_1 rfl rfl ?_
  refine ev_callB (rc := (f_Mod_begin r x1)) (ou := ouI) (Hs := (fun z => (eLV :: (HD d (HF f (HW w (HM m (HS s (HG g (HR z tl)))))))))) (inv_V (q := 12) (av := [.int x1]) (rest := []) rfl (ci := 6) rfl d_Mod_length_2 gw_1100 gw_1102 gw_49 mw_Mod_begin nh_Mod_begin pn_Mod_begin rfl) d_Mod_length_2 pl_Mod_begin (Nat.le_of_ble_eq_true rfl) (Nat.le_of_ble_eq_true rfl) (Nat.le_of_ble_eq_true rfl) (e_f_Mod_begin (tl := tl) (d := d) (f := f) (w := w) (m := m) (s := s) (g := g)  r x1) (fun _ => (len1 (lenHD (lenHF (lenHW (lenHM (lenHS (lenHG (lenHR rfl))))))))) (fun v z h1 => ⟨_, rfl, ?_⟩)
  exact ev_pick [0] rfl (e_B_Mod_length_5     z v)
def B_Mod_entry_139   (r : RS) (t0 : Int32) : Option (Int32 × RS) :=
  some (t0, r)
theorem e_B_Mod_entry_139 {sc : Nat × (Nat → Int32)} {d : DS} {f : FS} {w : WS} {m : MS} {s : SS} {g : GS} {tl : List mn_E}    (r : RS) (t0 : Int32) : Ev sc 5 82 0 0 M_Mod_entry 139 [] [.int t0] (eLV :: (HD d (HF f (HW w (HM m (HS s (HG g (HR r tl)))))))) (mapR ouI (fun z => (eLV :: (HD d (HF f (HW w (HM m (HS s (HG g (HR z tl))))))))) (B_Mod_entry_139 r t0)) := by
  unfold B_Mod_entry_139
  exact ev_zret (ty := .int) rfl rfl d_Mod_entry_139
def B_Mod_entry_128   (r : RS) (x5 : Int32) : Option (Int32 × RS) :=
  B_Mod_entry_139   ((f_Mod_ends r x5 1 2 3 4 4).2) ((f_Mod_ends r x5 1 2 3 4 4).1)
theorem e_B_Mod_entry_128 {sc : Nat × (Nat → Int32)} {d : DS} {f : FS} {w : WS} {m : MS} {s : SS} {g : GS} {tl : List mn_E}    (r : RS) (x5 : Int32) : Ev sc 5 82 0 0 M_Mod_entry 128 [(0, .ref 12), (5, .int x5)] [] (eLV :: (HD d (HF f (HW w (HM m (HS s (HG g (HR r tl)))))))) (mapR ouI (fun z => (eLV :: (HD d (HF f (HW w (HM m (HS s (HG g (HR z tl))))))))) (B_Mod_entry_128 r x5)) := by
  unfold B_Mod_entry_128
  refine ev_aload_n d_Mod_entry_128 rfl rfl ?_
  refine ev_iload d_Mod_entry_129 rfl ?_
  refine ev_iconst (v := 1) d_Mod_entry_131 rfl ?_
  refine ev_iconst (v := 2) d_Mod_entry_132 rfl ?_
  refine ev_iconst (v := 3) d_Mod_entry_133 rfl ?_
  refine ev_iconst (v := 4) d_Mod_entry_134 rfl ?_
  refine ev_iconst (v := 4) d_Mod_entry_135 rfl ?_
  refine ev_callr (Mc := M_Mod_ends) (v := some (.int ((f_Mod_ends r x5 1 2 3 4 4).1))) (h1 := (eLV :: (HD d (HF f (HW w (HM m (HS s (HG g (HR ((f_Mod_ends r x5 1 2 3 4 4).2) tl))))))))) (k2 := 0) (n2 := 0) (inv_V (q := 12) (av := [.int x5, .int 1, .int 2, .int 3, .int 4, .int 4]) (rest := []) rfl (ci := 6) rfl d_Mod_entry_136 gw_1187 gw_1189 gw_70 mw_Mod_ends nh_Mod_ends pn_Mod_ends rfl) d_Mod_entry_136 pl_Mod_ends (Nat.le_of_ble_eq_true rfl) (Nat.le_of_ble_eq_true rfl) (Nat.le_of_ble_eq_true rfl) rfl rfl (e_f_Mod_ends (tl := tl) (d := d) (f := f) (w := w) (m := m) (s := s) (g := g)  r x5 1 2 3 4 4) (Or.inl (len1 (lenHD (lenHF (lenHW (lenHM (lenHS (lenHG (lenHR rfl))))))))) ?_
  exact ev_pick [] rfl (e_B_Mod_entry_139     ((f_Mod_ends r x5 1 2 3 4 4).2) ((f_Mod_ends r x5 1 2 3 4 4).1))
def B_Mod_entry_126   (r : RS) (t0 : Int32) : Option (Int32 × RS) :=
  B_Mod_entry_128   r t0
theorem e_B_Mod_entry_126 {sc : Nat × (Nat → Int32)} {d : DS} {f : FS} {w : WS} {m : MS} {s : SS} {g : GS} {tl : List mn_E}    (r : RS) (t0 : Int32) : Ev sc 5 82 0 0 M_Mod_entry 126 [(0, .ref 12)] [.int t0] (eLV :: (HD d (HF f (HW w (HM m (HS s (HG g (HR r tl)))))))) (mapR ouI (fun z => (eLV :: (HD d (HF f (HW w (HM m (HS s (HG g (HR z tl))))))))) (B_Mod_entry_126 r t0)) := by
  unfold B_Mod_entry_126
  refine ev_istore d_Mod_entry_126 (by decide) rfl ?_
  exact ev_pick [1, 0] rfl (e_B_Mod_entry_128     r t0)
def B_Mod_entry_110   (r : RS) (t0 : Int32) : Option (Int32 × RS) :=
  B_Mod_entry_126   r t0
theorem e_B_Mod_entry_110 {sc : Nat × (Nat → Int32)} {d : DS} {f : FS} {w : WS} {m : MS} {s : SS} {g : GS} {tl : List mn_E}    (r : RS) (t0 : Int32) : Ev sc 5 82 0 0 M_Mod_entry 110 [(0, .ref 12)] [.int t0] (eLV :: (HD d (HF f (HW w (HM m (HS s (HG g (HR r tl)))))))) (mapR ouI (fun z => (eLV :: (HD d (HF f (HW w (HM m (HS s (HG g (HR z tl))))))))) (B_Mod_entry_110 r t0)) := by
  unfold B_Mod_entry_110
  refine ev_goto (tgt := 126) d_Mod_entry_110 rfl ?_
  exact ev_pick [0] rfl (e_B_Mod_entry_126     r t0)
def B_Mod_entry_87   (r : RS) (x3 : Int32) : Option (Int32 × RS) :=
  if (rFau r) ≤ 0 then (if ¬ x3 = 0 then (if inB (((rFPl r) + 1) + x3) 320 then (B_Mod_entry_126   r (rByt r (((rFPl r) + 1) + x3).toNatClampNeg)) else none) else (bnd (f_Mod_nameAt r (rFPl r)) (fun q => B_Mod_entry_110   r q.1))) else (B_Mod_entry_126   r 0)
theorem e_B_Mod_entry_87 {sc : Nat × (Nat → Int32)} {d : DS} {f : FS} {w : WS} {m : MS} {s : SS} {g : GS} {tl : List mn_E}    (r : RS) (x3 : Int32) : Ev sc 5 82 0 0 M_Mod_entry 87 [(0, .ref 12), (3, .int x3)] [] (eLV :: (HD d (HF f (HW w (HM m (HS s (HG g (HR r tl)))))))) (mapR ouI (fun z => (eLV :: (HD d (HF f (HW w (HM m (HS s (HG g (HR z tl))))))))) (B_Mod_entry_87 r x3)) := by
  unfold B_Mod_entry_87
  refine ev_aload_n d_Mod_entry_87 rfl rfl ?_
  refine ev_get (v := .int (rFau r)) gi_Mod (ci := 6) rfl rfl 1 (by decide) gw_1002 rfl d_Mod_entry_88 ?_
  refine ev_if_le (tgt := 98) d_Mod_entry_91 rfl (fun h1 => ?_) (fun h1 => ?_)
  · rw [if_pos h1]
    refine ev_iload_n d_Mod_entry_98 rfl rfl ?_
    refine ev_if_ne (tgt := 113) d_Mod_entry_99 rfl (fun h2 => ?_) (fun h2 => ?_)
    · rw [if_pos h2]
      refine ev_aload_n d_Mod_entry_113 rfl rfl ?_
      refine ev_get (v := .ref 18) gi_Mod (ci := 6) rfl rfl 7 (by decide) gw_1008 rfl d_Mod_entry_114 ?_
      refine ev_aload_n d_Mod_entry_117 rfl rfl ?_
      refine ev_get (v := .int (rFPl r)) gi_Mod (ci := 6) rfl rfl 20 (by decide) gw_1021 rfl d_Mod_entry_118 ?_
      refine ev_iconst (v := 1) d_Mod_entry_121 rfl ?_
      refine ev_iadd d_Mod_entry_122 ?_
      refine ev_iload_n d_Mod_entry_123 rfl rfl ?_
      refine ev_iadd d_Mod_entry_124 ?_
      refine ev_inB (fun h3 => ?_)
      refine ev_iaload rfl (inB_of h3) d_Mod_entry_125 ?_
      exact ev_pick [0] rfl (e_B_Mod_entry_126     r (rByt r (((rFPl r) + 1) + x3).toNatClampNeg))
    · rw [if_neg h2]
      refine ev_aload_n d_Mod_entry_102 rfl rfl ?_
      refine ev_aload_n d_Mod_entry_103 rfl rfl ?_
      refine ev_get (v := .int (rFPl r)) gi_Mod (ci := 6) rfl rfl 20 (by decide) gw_1021 rfl d_Mod_entry_104 ?_
      refine ev_callB (rc := (f_Mod_nameAt r (rFPl r))) (ou := ouI) (Hs := (fun z => (eLV :: (HD d (HF f (HW w (HM m (HS s (HG g (HR r tl)))))))))) (inv_V (q := 12) (av := [.int (rFPl r)]) (rest := []) rfl (ci := 6) rfl d_Mod_entry_107 gw_1131 gw_1133 gw_56 mw_Mod_nameAt nh_Mod_nameAt pn_Mod_nameAt rfl) d_Mod_entry_107 pl_Mod_nameAt (Nat.le_of_ble_eq_true rfl) (Nat.le_of_ble_eq_true rfl) (Nat.le_of_ble_eq_true rfl) (e_f_Mod_nameAt (tl := tl) (d := d) (f := f) (w := w) (m := m) (s := s) (g := g)  r (rFPl r)) (fun _ => (len1 (lenHD (lenHF (lenHW (lenHM (lenHS (lenHG (lenHR rfl))))))))) (fun v z h4 => ⟨_, rfl, ?_⟩)
      exact ev_pick [0] rfl (e_B_Mod_entry_110     r v)
  · rw [if_neg h1]
    refine ev_iconst (v := 0) d_Mod_entry_94 rfl ?_
    refine ev_goto (tgt := 126) d_Mod_entry_95 rfl ?_
    exact ev_pick [0] rfl (e_B_Mod_entry_126     r 0)
def B_Mod_entry_84   (r : RS) (x3 : Int32) (t1 : Int32) : Option (Int32 × RS) :=
  B_Mod_entry_87   (rSFau r t1) x3
theorem e_B_Mod_entry_84 {sc : Nat × (Nat → Int32)} {d : DS} {f : FS} {w : WS} {m : MS} {s : SS} {g : GS} {tl : List mn_E}    (r : RS) (x3 : Int32) (t1 : Int32) : Ev sc 5 82 0 0 M_Mod_entry 84 [(0, .ref 12), (3, .int x3)] [.int t1, .ref 12] (eLV :: (HD d (HF f (HW w (HM m (HS s (HG g (HR r tl)))))))) (mapR ouI (fun z => (eLV :: (HD d (HF f (HW w (HM m (HS s (HG g (HR z tl))))))))) (B_Mod_entry_84 r x3 t1)) := by
  unfold B_Mod_entry_84
  refine ev_put (h2 := (eLV :: (HD d (HF f (HW w (HM m (HS s (HG g (HR (rSFau r t1) tl))))))))) gi_Mod ft_Mod fo_Mod fn_Mod (ci := 6) rfl rfl 1 (by decide) gw_1002 rfl rfl (fun _ => rfl) (fun _ => rfl) (Nat.le_of_ble_eq_true rfl) rfl d_Mod_entry_84 ?_
  exact ev_pick [0, 1] rfl (e_B_Mod_entry_87     (rSFau r t1) x3)
def B_Mod_entry_71   (r : RS) (x3 : Int32) : Option (Int32 × RS) :=
  if 0 ≤ (rFAt r) then (B_Mod_entry_84   r x3 0) else (B_Mod_entry_84   r x3 2)
theorem e_B_Mod_entry_71 {sc : Nat × (Nat → Int32)} {d : DS} {f : FS} {w : WS} {m : MS} {s : SS} {g : GS} {tl : List mn_E}    (r : RS) (x3 : Int32) : Ev sc 5 82 0 0 M_Mod_entry 71 [(0, .ref 12), (3, .int x3)] [] (eLV :: (HD d (HF f (HW w (HM m (HS s (HG g (HR r tl)))))))) (mapR ouI (fun z => (eLV :: (HD d (HF f (HW w (HM m (HS s (HG g (HR z tl))))))))) (B_Mod_entry_71 r x3)) := by
  unfold B_Mod_entry_71
  refine ev_aload_n d_Mod_entry_71 rfl rfl ?_
  refine ev_aload_n d_Mod_entry_72 rfl rfl ?_
  refine ev_get (v := .int (rFAt r)) gi_Mod (ci := 6) rfl rfl 19 (by decide) gw_1020 rfl d_Mod_entry_73 ?_
  refine ev_if_ge (tgt := 83) d_Mod_entry_76 rfl (fun h1 => ?_) (fun h1 => ?_)
  · rw [if_pos h1]
    refine ev_iconst (v := 0) d_Mod_entry_83 rfl ?_
    exact ev_pick [0, 1] rfl (e_B_Mod_entry_84     r x3 0)
  · rw [if_neg h1]
    refine ev_iconst (v := 2) d_Mod_entry_79 rfl ?_
    refine ev_goto (tgt := 84) d_Mod_entry_80 rfl ?_
    exact ev_pick [0, 1] rfl (e_B_Mod_entry_84     r x3 2)
def B_Mod_entry_68   (r : RS) (x3 : Int32) (x5 : Int32) (t0 : Int32) : Option (Int32 × RS) :=
  if t0 = 0 then (B_Mod_entry_128   r x5) else (B_Mod_entry_71   r x3)
theorem e_B_Mod_entry_68 {sc : Nat × (Nat → Int32)} {d : DS} {f : FS} {w : WS} {m : MS} {s : SS} {g : GS} {tl : List mn_E}    (r : RS) (x3 : Int32) (x5 : Int32) (t0 : Int32) : Ev sc 5 82 0 0 M_Mod_entry 68 [(0, .ref 12), (3, .int x3), (5, .int x5)] [.int t0] (eLV :: (HD d (HF f (HW w (HM m (HS s (HG g (HR r tl)))))))) (mapR ouI (fun z => (eLV :: (HD d (HF f (HW w (HM m (HS s (HG g (HR z tl))))))))) (B_Mod_entry_68 r x3 x5 t0)) := by
  unfold B_Mod_entry_68
  refine ev_if_eq (tgt := 128) d_Mod_entry_68 rfl (fun h1 => ?_) (fun h1 => ?_)
  · rw [if_pos h1]
    exact ev_pick [0, 2] rfl (e_B_Mod_entry_128     r x5)
  · rw [if_neg h1]
    exact ev_pick [0, 1] rfl (e_B_Mod_entry_71     r x3)
def B_Mod_entry_49   (r : RS) (x2 : Int32) (x3 : Int32) (x4 : Int32) (x5 : Int32) : Option (Int32 × RS) :=
  if ¬ (rFau r) = 0 then (B_Mod_entry_128   r x5) else (if x2 < 0 then (B_Mod_entry_71   r x3) else (bnd (f_Mod_go r x4 1 x2) (fun q => B_Mod_entry_68   q.2 x3 x5 q.1)))
theorem e_B_Mod_entry_49 {sc : Nat × (Nat → Int32)} {d : DS} {f : FS} {w : WS} {m : MS} {s : SS} {g : GS} {tl : List mn_E}    (r : RS) (x2 : Int32) (x3 : Int32) (x4 : Int32) (x5 : Int32) : Ev sc 5 82 0 0 M_Mod_entry 49 [(0, .ref 12), (2, .int x2), (3, .int x3), (4, .int x4), (5, .int x5)] [] (eLV :: (HD d (HF f (HW w (HM m (HS s (HG g (HR r tl)))))))) (mapR ouI (fun z => (eLV :: (HD d (HF f (HW w (HM m (HS s (HG g (HR z tl))))))))) (B_Mod_entry_49 r x2 x3 x4 x5)) := by
  unfold B_Mod_entry_49
  refine ev_aload_n d_Mod_entry_49 rfl rfl ?_
  refine ev_get (v := .int (rFau r)) gi_Mod (ci := 6) rfl rfl 1 (by decide) gw_1002 rfl d_Mod_entry_50 ?_
  refine ev_if_ne (tgt := 128) d_Mod_entry_53 rfl (fun h1 => ?_) (fun h1 => ?_)
  · rw [if_pos h1]
    exact ev_pick [0, 4] rfl (e_B_Mod_entry_128     r x5)
  · rw [if_neg h1]
    refine ev_iload_n d_Mod_entry_56 rfl rfl ?_
    refine ev_if_lt (tgt := 71) d_Mod_entry_57 rfl (fun h2 => ?_) (fun h2 => ?_)
    · rw [if_pos h2]
      exact ev_pick [0, 2] rfl (e_B_Mod_entry_71     r x3)
    · rw [if_neg h2]
      refine ev_aload_n d_Mod_entry_60 rfl rfl ?_
      refine ev_iload d_Mod_entry_61 rfl ?_
      refine ev_iconst (v := 1) d_Mod_entry_63 rfl ?_
      refine ev_iload_n d_Mod_entry_64 rfl rfl ?_
      refine ev_callB (rc := (f_Mod_go r x4 1 x2)) (ou := ouI) (Hs := (fun z => (eLV :: (HD d (HF f (HW w (HM m (HS s (HG g (HR z tl)))))))))) (inv_V (q := 12) (av := [.int x4, .int 1, .int x2]) (rest := []) rfl (ci := 6) rfl d_Mod_entry_65 gw_1127 gw_1129 gw_55 mw_Mod_go nh_Mod_go pn_Mod_go rfl) d_Mod_entry_65 pl_Mod_go (Nat.le_of_ble_eq_true rfl) (Nat.le_of_ble_eq_true rfl) (Nat.le_of_ble_eq_true rfl) (e_f_Mod_go (tl := tl) (d := d) (f := f) (w := w) (m := m) (s := s) (g := g)  r x4 1 x2) (fun _ => (len1 (lenHD (lenHF (lenHW (lenHM (lenHS (lenHG (lenHR rfl))))))))) (fun v z h3 => ⟨_, rfl, ?_⟩)
      exact ev_pick [0, 2, 4] rfl (e_B_Mod_entry_68     z x3 x5 v)
def B_Mod_entry_44   (r : RS) (x2 : Int32) (x3 : Int32) (x4 : Int32) (x5 : Int32) : Option (Int32 × RS) :=
  B_Mod_entry_49   (rSFAt r (-1)) x2 x3 x4 x5
theorem e_B_Mod_entry_44 {sc : Nat × (Nat → Int32)} {d : DS} {f : FS} {w : WS} {m : MS} {s : SS} {g : GS} {tl : List mn_E}    (r : RS) (x2 : Int32) (x3 : Int32) (x4 : Int32) (x5 : Int32) : Ev sc 5 82 0 0 M_Mod_entry 44 [(0, .ref 12), (2, .int x2), (3, .int x3), (4, .int x4), (5, .int x5)] [] (eLV :: (HD d (HF f (HW w (HM m (HS s (HG g (HR r tl)))))))) (mapR ouI (fun z => (eLV :: (HD d (HF f (HW w (HM m (HS s (HG g (HR z tl))))))))) (B_Mod_entry_44 r x2 x3 x4 x5)) := by
  unfold B_Mod_entry_44
  refine ev_aload_n d_Mod_entry_44 rfl rfl ?_
  refine ev_iconst (v := -1) d_Mod_entry_45 rfl ?_
  refine ev_put (h2 := (eLV :: (HD d (HF f (HW w (HM m (HS s (HG g (HR (rSFAt r (-1)) tl))))))))) gi_Mod ft_Mod fo_Mod fn_Mod (ci := 6) rfl rfl 19 (by decide) gw_1020 rfl rfl (fun _ => rfl) (fun _ => rfl) (Nat.le_of_ble_eq_true rfl) rfl d_Mod_entry_46 ?_
  exact ev_pick [0, 1, 2, 3, 4] rfl (e_B_Mod_entry_49     (rSFAt r (-1)) x2 x3 x4 x5)
def B_Mod_entry_41   (r : RS) (x2 : Int32) (x3 : Int32) (x4 : Int32) (x5 : Int32) (t1 : Int32) : Option (Int32 × RS) :=
  B_Mod_entry_44   (rSFau r t1) x2 x3 x4 x5
theorem e_B_Mod_entry_41 {sc : Nat × (Nat → Int32)} {d : DS} {f : FS} {w : WS} {m : MS} {s : SS} {g : GS} {tl : List mn_E}    (r : RS) (x2 : Int32) (x3 : Int32) (x4 : Int32) (x5 : Int32) (t1 : Int32) : Ev sc 5 82 0 0 M_Mod_entry 41 [(0, .ref 12), (2, .int x2), (3, .int x3), (4, .int x4), (5, .int x5)] [.int t1, .ref 12] (eLV :: (HD d (HF f (HW w (HM m (HS s (HG g (HR r tl)))))))) (mapR ouI (fun z => (eLV :: (HD d (HF f (HW w (HM m (HS s (HG g (HR z tl))))))))) (B_Mod_entry_41 r x2 x3 x4 x5 t1)) := by
  unfold B_Mod_entry_41
  refine ev_put (h2 := (eLV :: (HD d (HF f (HW w (HM m (HS s (HG g (HR (rSFau r t1) tl))))))))) gi_Mod ft_Mod fo_Mod fn_Mod (ci := 6) rfl rfl 1 (by decide) gw_1002 rfl rfl (fun _ => rfl) (fun _ => rfl) (Nat.le_of_ble_eq_true rfl) rfl d_Mod_entry_41 ?_
  exact ev_pick [0, 1, 2, 3, 4] rfl (e_B_Mod_entry_44     (rSFau r t1) x2 x3 x4 x5)
def B_Mod_entry_40   (r : RS) (x2 : Int32) (x3 : Int32) (x4 : Int32) (x5 : Int32) : Option (Int32 × RS) :=
  B_Mod_entry_41   r x2 x3 x4 x5 3
theorem e_B_Mod_entry_40 {sc : Nat × (Nat → Int32)} {d : DS} {f : FS} {w : WS} {m : MS} {s : SS} {g : GS} {tl : List mn_E}    (r : RS) (x2 : Int32) (x3 : Int32) (x4 : Int32) (x5 : Int32) : Ev sc 5 82 0 0 M_Mod_entry 40 [(0, .ref 12), (2, .int x2), (3, .int x3), (4, .int x4), (5, .int x5)] [.ref 12] (eLV :: (HD d (HF f (HW w (HM m (HS s (HG g (HR r tl)))))))) (mapR ouI (fun z => (eLV :: (HD d (HF f (HW w (HM m (HS s (HG g (HR z tl))))))))) (B_Mod_entry_40 r x2 x3 x4 x5)) := by
  unfold B_Mod_entry_40
  refine ev_iconst (v := 3) d_Mod_entry_40 rfl ?_
  exact ev_pick [0, 1, 2, 3, 4] rfl (e_B_Mod_entry_41     r x2 x3 x4 x5 3)
def B_Mod_entry_24   (r : RS) (x2 : Int32) (x3 : Int32) (x4 : Int32) (x5 : Int32) (t1 : Int32) : Option (Int32 × RS) :=
  if t1 = 0 then (B_Mod_entry_40   r x2 x3 x4 x5) else (if ((f_Mod_in x3 0 2).1) = 0 then (B_Mod_entry_40   r x2 x3 x4 x5) else (B_Mod_entry_41   r x2 x3 x4 x5 0))
theorem e_B_Mod_entry_24 {sc : Nat × (Nat → Int32)} {d : DS} {f : FS} {w : WS} {m : MS} {s : SS} {g : GS} {tl : List mn_E}    (r : RS) (x2 : Int32) (x3 : Int32) (x4 : Int32) (x5 : Int32) (t1 : Int32) : Ev sc 5 82 0 0 M_Mod_entry 24 [(0, .ref 12), (2, .int x2), (3, .int x3), (4, .int x4), (5, .int x5)] [.int t1, .ref 12] (eLV :: (HD d (HF f (HW w (HM m (HS s (HG g (HR r tl)))))))) (mapR ouI (fun z => (eLV :: (HD d (HF f (HW w (HM m (HS s (HG g (HR z tl))))))))) (B_Mod_entry_24 r x2 x3 x4 x5 t1)) := by
  unfold B_Mod_entry_24
  refine ev_if_eq (tgt := 40) d_Mod_entry_24 rfl (fun h1 => ?_) (fun h1 => ?_)
  · rw [if_pos h1]
    exact ev_pick [0, 1, 2, 3, 4] rfl (e_B_Mod_entry_40     r x2 x3 x4 x5)
  · rw [if_neg h1]
    refine ev_iload_n d_Mod_entry_27 rfl rfl ?_
    refine ev_iconst (v := 0) d_Mod_entry_28 rfl ?_
    refine ev_iconst (v := 2) d_Mod_entry_29 rfl ?_
    refine ev_callr (Mc := M_Mod_in) (v := some (.int ((f_Mod_in x3 0 2).1))) (h1 := (eLV :: (HD d (HF f (HW w (HM m (HS s (HG g (HR r tl))))))))) (k2 := 0) (n2 := 0) (inv_S (av := [.int x3, .int 0, .int 2]) (rest := [.ref 12]) d_Mod_entry_30 gw_1108 gw_1109 gw_108 mw_Mod_in nh_Mod_in pn_Mod_in rfl) d_Mod_entry_30 pl_Mod_in (Nat.le_of_ble_eq_true rfl) (Nat.le_of_ble_eq_true rfl) (Nat.le_of_ble_eq_true rfl) rfl rfl (e_f_Mod_in (hh := (eLV :: (HD d (HF f (HW w (HM m (HS s (HG g (HR r tl)))))))))   x3 0 2) (Or.inl (len1 (lenHD (lenHF (lenHW (lenHM (lenHS (lenHG (lenHR rfl))))))))) ?_
    refine ev_if_eq (tgt := 40) d_Mod_entry_33 rfl (fun h2 => ?_) (fun h2 => ?_)
    · rw [if_pos h2]
      exact ev_pick [0, 1, 2, 3, 4] rfl (e_B_Mod_entry_40     r x2 x3 x4 x5)
    · rw [if_neg h2]
      refine ev_iconst (v := 0) d_Mod_entry_36 rfl ?_
      refine ev_goto (tgt := 41) d_Mod_entry_37 rfl ?_
      exact ev_pick [0, 1, 2, 3, 4] rfl (e_B_Mod_entry_41     r x2 x3 x4 x5 0)
def B_Mod_entry_5   (r : RS) (x2 : Int32) (x3 : Int32) (t0 : Int32) : Option (Int32 × RS) :=
  if ¬ (rFau r) = 0 then (B_Mod_entry_128   r 0) else (bnd (f_Mod_isDirectory r t0) (fun q => B_Mod_entry_24   r x2 x3 t0 0 q.1))
theorem e_B_Mod_entry_5 {sc : Nat × (Nat → Int32)} {d : DS} {f : FS} {w : WS} {m : MS} {s : SS} {g : GS} {tl : List mn_E}    (r : RS) (x2 : Int32) (x3 : Int32) (t0 : Int32) : Ev sc 5 82 0 0 M_Mod_entry 5 [(0, .ref 12), (2, .int x2), (3, .int x3)] [.int t0] (eLV :: (HD d (HF f (HW w (HM m (HS s (HG g (HR r tl)))))))) (mapR ouI (fun z => (eLV :: (HD d (HF f (HW w (HM m (HS s (HG g (HR z tl))))))))) (B_Mod_entry_5 r x2 x3 t0)) := by
  unfold B_Mod_entry_5
  refine ev_istore d_Mod_entry_5 (by decide) rfl ?_
  refine ev_iconst (v := 0) d_Mod_entry_7 rfl ?_
  refine ev_istore d_Mod_entry_8 (by decide) rfl ?_
  refine ev_aload_n d_Mod_entry_10 rfl rfl ?_
  refine ev_get (v := .int (rFau r)) gi_Mod (ci := 6) rfl rfl 1 (by decide) gw_1002 rfl d_Mod_entry_11 ?_
  refine ev_if_ne (tgt := 128) d_Mod_entry_14 rfl (fun h1 => ?_) (fun h1 => ?_)
  · rw [if_pos h1]
    exact ev_pick [2, 0] rfl (e_B_Mod_entry_128     r 0)
  · rw [if_neg h1]
    refine ev_aload_n d_Mod_entry_17 rfl rfl ?_
    refine ev_aload_n d_Mod_entry_18 rfl rfl ?_
    refine ev_iload d_Mod_entry_19 rfl ?_
    refine ev_callB (rc := (f_Mod_isDirectory r t0)) (ou := ouI) (Hs := (fun z => (eLV :: (HD d (HF f (HW w (HM m (HS s (HG g (HR r tl)))))))))) (inv_V (q := 12) (av := [.int t0]) (rest := [.ref 12]) rfl (ci := 6) rfl d_Mod_entry_21 gw_1123 gw_1125 gw_54 mw_Mod_isDirectory nh_Mod_isDirectory pn_Mod_isDirectory rfl) d_Mod_entry_21 pl_Mod_isDirectory (Nat.le_of_ble_eq_true rfl) (Nat.le_of_ble_eq_true rfl) (Nat.le_of_ble_eq_true rfl) (e_f_Mod_isDirectory (tl := tl) (d := d) (f := f) (w := w) (m := m) (s := s) (g := g)  r t0) (fun _ => (len1 (lenHD (lenHF (lenHW (lenHM (lenHS (lenHG (lenHR rfl))))))))) (fun v z h2 => ⟨_, rfl, ?_⟩)
    exact ev_pick [2, 3, 4, 1, 0] rfl (e_B_Mod_entry_24     r x2 x3 t0 0 v)
def f_Mod_entry   (r : RS) (x1 : Int32) (x2 : Int32) (x3 : Int32) : Option (Int32 × RS) :=
  bnd (f_Mod_begin r x1) (fun q => B_Mod_entry_5   q.2 x2 x3 q.1)
theorem e_f_Mod_entry {sc : Nat × (Nat → Int32)} {d : DS} {f : FS} {w : WS} {m : MS} {s : SS} {g : GS} {tl : List mn_E}    (r : RS) (x1 : Int32) (x2 : Int32) (x3 : Int32) : Ev sc 5 82 0 0 M_Mod_entry 0 [(0, .ref 12), (1, .int x1), (2, .int x2), (3, .int x3)] [] (eLV :: (HD d (HF f (HW w (HM m (HS s (HG g (HR r tl)))))))) (mapR ouI (fun z => (eLV :: (HD d (HF f (HW w (HM m (HS s (HG g (HR z tl))))))))) (f_Mod_entry r x1 x2 x3)) := by
  unfold f_Mod_entry
  refine ev_aload_n d_Mod_entry_0 rfl rfl ?_
  refine ev_iload_n d_Mod_entry_1 rfl rfl ?_
  refine ev_callB (rc := (f_Mod_begin r x1)) (ou := ouI) (Hs := (fun z => (eLV :: (HD d (HF f (HW w (HM m (HS s (HG g (HR z tl)))))))))) (inv_V (q := 12) (av := [.int x1]) (rest := []) rfl (ci := 6) rfl d_Mod_entry_2 gw_1100 gw_1102 gw_49 mw_Mod_begin nh_Mod_begin pn_Mod_begin rfl) d_Mod_entry_2 pl_Mod_begin (Nat.le_of_ble_eq_true rfl) (Nat.le_of_ble_eq_true rfl) (Nat.le_of_ble_eq_true rfl) (e_f_Mod_begin (tl := tl) (d := d) (f := f) (w := w) (m := m) (s := s) (g := g)  r x1) (fun _ => (len1 (lenHD (lenHF (lenHW (lenHM (lenHS (lenHG (lenHR rfl))))))))) (fun v z h1 => ⟨_, rfl, ?_⟩)
  exact ev_pick [0, 2, 3] rfl (e_B_Mod_entry_5     z x2 x3 v)
def f_Mod_headOf   (r : RS) (x1 : Int32) : Option (Int32 × Unit) :=
  if inB (40 * x1) 2440 then (some (((rTab r (40 * x1).toNatClampNeg) - 1), ())) else none
theorem e_f_Mod_headOf {sc : Nat × (Nat → Int32)} {d : DS} {f : FS} {w : WS} {m : MS} {s : SS} {g : GS} {tl : List mn_E}    (r : RS) (x1 : Int32) : Ev sc 0 0 0 0 M_Mod_headOf 0 [(0, .ref 12), (1, .int x1)] [] (eLV :: (HD d (HF f (HW w (HM m (HS s (HG g (HR r tl)))))))) (mapR ouI (fun z => (eLV :: (HD d (HF f (HW w (HM m (HS s (HG g (HR r tl))))))))) (f_Mod_headOf r x1)) := by
  unfold f_Mod_headOf
  refine ev_aload_n d_Mod_headOf_0 rfl rfl ?_
  refine ev_get (v := .ref 24) gi_Mod (ci := 6) rfl rfl 24 (by decide) gw_1025 rfl d_Mod_headOf_1 ?_
  refine ev_bipush (v := 40) d_Mod_headOf_4 rfl ?_
  refine ev_iload_n d_Mod_headOf_6 rfl rfl ?_
  refine ev_imul d_Mod_headOf_7 ?_
  refine ev_inB (fun h1 => ?_)
  refine ev_iaload rfl (inB_of h1) d_Mod_headOf_8 ?_
  refine ev_iconst (v := 1) d_Mod_headOf_9 rfl ?_
  refine ev_isub d_Mod_headOf_10 ?_
  exact ev_zret (ty := .int) rfl rfl d_Mod_headOf_11
def f_Mod_pageAt   (r : RS) (x1 : Int32) (x2 : Int32) : Option (Int32 × Unit) :=
  if inB ((40 * x1) + x2) 2440 then (some (((rTab r ((40 * x1) + x2).toNatClampNeg) - 1), ())) else none
theorem e_f_Mod_pageAt {sc : Nat × (Nat → Int32)} {d : DS} {f : FS} {w : WS} {m : MS} {s : SS} {g : GS} {tl : List mn_E}    (r : RS) (x1 : Int32) (x2 : Int32) : Ev sc 0 0 0 0 M_Mod_pageAt 0 [(0, .ref 12), (1, .int x1), (2, .int x2)] [] (eLV :: (HD d (HF f (HW w (HM m (HS s (HG g (HR r tl)))))))) (mapR ouI (fun z => (eLV :: (HD d (HF f (HW w (HM m (HS s (HG g (HR r tl))))))))) (f_Mod_pageAt r x1 x2)) := by
  unfold f_Mod_pageAt
  refine ev_aload_n d_Mod_pageAt_0 rfl rfl ?_
  refine ev_get (v := .ref 24) gi_Mod (ci := 6) rfl rfl 24 (by decide) gw_1025 rfl d_Mod_pageAt_1 ?_
  refine ev_bipush (v := 40) d_Mod_pageAt_4 rfl ?_
  refine ev_iload_n d_Mod_pageAt_6 rfl rfl ?_
  refine ev_imul d_Mod_pageAt_7 ?_
  refine ev_iload_n d_Mod_pageAt_8 rfl rfl ?_
  refine ev_iadd d_Mod_pageAt_9 ?_
  refine ev_inB (fun h1 => ?_)
  refine ev_iaload rfl (inB_of h1) d_Mod_pageAt_10 ?_
  refine ev_iconst (v := 1) d_Mod_pageAt_11 rfl ?_
  refine ev_isub d_Mod_pageAt_12 ?_
  exact ev_zret (ty := .int) rfl rfl d_Mod_pageAt_13
def B_Mod_remember_112  (r89 : RS → Int32 → Option (Unit × RS)) (r : RS) (x1 : Int32) : Option (Unit × RS) :=
  r89 r (x1 + 1)
theorem e_B_Mod_remember_112 {sc : Nat × (Nat → Int32)} {d : DS} {f : FS} {w : WS} {m : MS} {s : SS} {g : GS} {tl : List mn_E}  (r89 : RS → Int32 → Option (Unit × RS)) (hr89 : ∀ (r : RS) (x1 : Int32), Ev sc 0 0 0 0 M_Mod_remember 89 [(0, .ref 12), (1, .int x1)] [] (eLV :: (HD d (HF f (HW w (HM m (HS s (HG g (HR r tl)))))))) (mapR ouV (fun z => (eLV :: (HD d (HF f (HW w (HM m (HS s (HG g (HR z tl))))))))) (r89 r x1))) (r : RS) (x1 : Int32) : Ev sc 0 0 0 0 M_Mod_remember 112 [(0, .ref 12), (1, .int x1)] [] (eLV :: (HD d (HF f (HW w (HM m (HS s (HG g (HR r tl)))))))) (mapR ouV (fun z => (eLV :: (HD d (HF f (HW w (HM m (HS s (HG g (HR z tl))))))))) (B_Mod_remember_112 r89 r x1)) := by
  unfold B_Mod_remember_112
  refine ev_iinc (v := (x1 + 1)) d_Mod_remember_112 rfl rfl (by decide) rfl ?_
  refine ev_goto (tgt := 89) d_Mod_remember_115 rfl ?_
  exact ev_pick [1, 0] rfl (hr89 r (x1 + 1))
def L_Mod_remember_89   : Nat → RS → Int32 → Option (Unit × RS)
  | 0, _, _ => none
  | n + 1, r, x1 =>
  if 320 ≤ x1 then (some ((), r)) else (if inB x1 320 then (if inB (200 + x1) 600 then (B_Mod_remember_112  (L_Mod_remember_89 n) (rSWas r (upd (rWas r) (200 + x1).toNatClampNeg (rByt r x1.toNatClampNeg))) x1) else none) else none)
theorem e_L_Mod_remember_89 {sc : Nat × (Nat → Int32)} {d : DS} {f : FS} {w : WS} {m : MS} {s : SS} {g : GS} {tl : List mn_E}    : ∀ (n : Nat) (r : RS) (x1 : Int32), Ev sc 0 0 0 0 M_Mod_remember 89 [(0, .ref 12), (1, .int x1)] [] (eLV :: (HD d (HF f (HW w (HM m (HS s (HG g (HR r tl)))))))) (mapR ouV (fun z => (eLV :: (HD d (HF f (HW w (HM m (HS s (HG g (HR z tl))))))))) (L_Mod_remember_89   n r x1)) := by
  intro n
  induction n with
  | zero => intro r x1; exact ev_none
  | succ n ih =>
    intro r x1
    rw [L_Mod_remember_89]
    refine ev_iload_n d_Mod_remember_89 rfl rfl ?_
    refine ev_sipush (v := 320) d_Mod_remember_90 rfl ?_
    refine ev_icmp_ge (tgt := 118) d_Mod_remember_93 rfl (fun h1 => ?_) (fun h1 => ?_)
    · rw [if_pos h1]
      exact ev_vret rfl d_Mod_remember_118
    · rw [if_neg h1]
      refine ev_aload_n d_Mod_remember_96 rfl rfl ?_
      refine ev_get (v := .ref 29) gi_Mod (ci := 6) rfl rfl 29 (by decide) gw_1030 rfl d_Mod_remember_97 ?_
      refine ev_sipush (v := 200) d_Mod_remember_100 rfl ?_
      refine ev_iload_n d_Mod_remember_103 rfl rfl ?_
      refine ev_iadd d_Mod_remember_104 ?_
      refine ev_aload_n d_Mod_remember_105 rfl rfl ?_
      refine ev_get (v := .ref 18) gi_Mod (ci := 6) rfl rfl 7 (by decide) gw_1008 rfl d_Mod_remember_106 ?_
      refine ev_iload_n d_Mod_remember_109 rfl rfl ?_
      refine ev_inB (fun h2 => ?_)
      refine ev_iaload rfl (inB_of h2) d_Mod_remember_110 ?_
      refine ev_inB (fun h3 => ?_)
      refine ev_iastore (h2 := (eLV :: (HD d (HF f (HW w (HM m (HS s (HG g (HR (rSWas r (upd (rWas r) (200 + x1).toNatClampNeg (rByt r x1.toNatClampNeg))) tl))))))))) rfl (inB_of h3) (hs_Was d f w m s g r _ tl) d_Mod_remember_111 ?_
      exact ev_pick [0, 1] rfl (e_B_Mod_remember_112   (L_Mod_remember_89 n) ih (rSWas r (upd (rWas r) (200 + x1).toNatClampNeg (rByt r x1.toNatClampNeg))) x1)
def B_Mod_remember_81  (r2 : RS → Int32 → Option (Unit × RS)) (r : RS) (x1 : Int32) : Option (Unit × RS) :=
  r2 r (x1 + 1)
theorem e_B_Mod_remember_81 {sc : Nat × (Nat → Int32)} {d : DS} {f : FS} {w : WS} {m : MS} {s : SS} {g : GS} {tl : List mn_E}  (r2 : RS → Int32 → Option (Unit × RS)) (hr2 : ∀ (r : RS) (x1 : Int32), Ev sc 0 0 0 0 M_Mod_remember 2 [(0, .ref 12), (1, .int x1)] [] (eLV :: (HD d (HF f (HW w (HM m (HS s (HG g (HR r tl)))))))) (mapR ouV (fun z => (eLV :: (HD d (HF f (HW w (HM m (HS s (HG g (HR z tl))))))))) (r2 r x1))) (r : RS) (x1 : Int32) : Ev sc 0 0 0 0 M_Mod_remember 81 [(0, .ref 12), (1, .int x1)] [] (eLV :: (HD d (HF f (HW w (HM m (HS s (HG g (HR r tl)))))))) (mapR ouV (fun z => (eLV :: (HD d (HF f (HW w (HM m (HS s (HG g (HR z tl))))))))) (B_Mod_remember_81 r2 r x1)) := by
  unfold B_Mod_remember_81
  refine ev_iinc (v := (x1 + 1)) d_Mod_remember_81 rfl rfl (by decide) rfl ?_
  refine ev_goto (tgt := 2) d_Mod_remember_84 rfl ?_
  exact ev_pick [1, 0] rfl (hr2 r (x1 + 1))
def B_Mod_remember_65  (r2 : RS → Int32 → Option (Unit × RS)) (r : RS) (x1 : Int32) : Option (Unit × RS) :=
  if inB x1 40 then (if inB (160 + x1) 600 then (B_Mod_remember_81  r2 (rSWas r (upd (rWas r) (160 + x1).toNatClampNeg (rBef r x1.toNatClampNeg))) x1) else none) else none
theorem e_B_Mod_remember_65 {sc : Nat × (Nat → Int32)} {d : DS} {f : FS} {w : WS} {m : MS} {s : SS} {g : GS} {tl : List mn_E}  (r2 : RS → Int32 → Option (Unit × RS)) (hr2 : ∀ (r : RS) (x1 : Int32), Ev sc 0 0 0 0 M_Mod_remember 2 [(0, .ref 12), (1, .int x1)] [] (eLV :: (HD d (HF f (HW w (HM m (HS s (HG g (HR r tl)))))))) (mapR ouV (fun z => (eLV :: (HD d (HF f (HW w (HM m (HS s (HG g (HR z tl))))))))) (r2 r x1))) (r : RS) (x1 : Int32) : Ev sc 0 0 0 0 M_Mod_remember 65 [(0, .ref 12), (1, .int x1)] [] (eLV :: (HD d (HF f (HW w (HM m (HS s (HG g (HR r tl)))))))) (mapR ouV (fun z => (eLV :: (HD d (HF f (HW w (HM m (HS s (HG g (HR z tl))))))))) (B_Mod_remember_65 r2 r x1)) := by
  unfold B_Mod_remember_65
  refine ev_aload_n d_Mod_remember_65 rfl rfl ?_
  refine ev_get (v := .ref 29) gi_Mod (ci := 6) rfl rfl 29 (by decide) gw_1030 rfl d_Mod_remember_66 ?_
  refine ev_sipush (v := 160) d_Mod_remember_69 rfl ?_
  refine ev_iload_n d_Mod_remember_72 rfl rfl ?_
  refine ev_iadd d_Mod_remember_73 ?_
  refine ev_aload_n d_Mod_remember_74 rfl rfl ?_
  refine ev_get (v := .ref 17) gi_Mod (ci := 6) rfl rfl 6 (by decide) gw_1007 rfl d_Mod_remember_75 ?_
  refine ev_iload_n d_Mod_remember_78 rfl rfl ?_
  refine ev_inB (fun h1 => ?_)
  refine ev_iaload rfl (inB_of h1) d_Mod_remember_79 ?_
  refine ev_inB (fun h2 => ?_)
  refine ev_iastore (h2 := (eLV :: (HD d (HF f (HW w (HM m (HS s (HG g (HR (rSWas r (upd (rWas r) (160 + x1).toNatClampNeg (rBef r x1.toNatClampNeg))) tl))))))))) rfl (inB_of h2) (hs_Was d f w m s g r _ tl) d_Mod_remember_80 ?_
  exact ev_pick [0, 1] rfl (e_B_Mod_remember_81   r2 hr2 (rSWas r (upd (rWas r) (160 + x1).toNatClampNeg (rBef r x1.toNatClampNeg))) x1)
def B_Mod_remember_50  (r2 : RS → Int32 → Option (Unit × RS)) (r : RS) (x1 : Int32) : Option (Unit × RS) :=
  if inB x1 40 then (if inB (120 + x1) 600 then (B_Mod_remember_65  r2 (rSWas r (upd (rWas r) (120 + x1).toNatClampNeg (rNex r x1.toNatClampNeg))) x1) else none) else none
theorem e_B_Mod_remember_50 {sc : Nat × (Nat → Int32)} {d : DS} {f : FS} {w : WS} {m : MS} {s : SS} {g : GS} {tl : List mn_E}  (r2 : RS → Int32 → Option (Unit × RS)) (hr2 : ∀ (r : RS) (x1 : Int32), Ev sc 0 0 0 0 M_Mod_remember 2 [(0, .ref 12), (1, .int x1)] [] (eLV :: (HD d (HF f (HW w (HM m (HS s (HG g (HR r tl)))))))) (mapR ouV (fun z => (eLV :: (HD d (HF f (HW w (HM m (HS s (HG g (HR z tl))))))))) (r2 r x1))) (r : RS) (x1 : Int32) : Ev sc 0 0 0 0 M_Mod_remember 50 [(0, .ref 12), (1, .int x1)] [] (eLV :: (HD d (HF f (HW w (HM m (HS s (HG g (HR r tl)))))))) (mapR ouV (fun z => (eLV :: (HD d (HF f (HW w (HM m (HS s (HG g (HR z tl))))))))) (B_Mod_remember_50 r2 r x1)) := by
  unfold B_Mod_remember_50
  refine ev_aload_n d_Mod_remember_50 rfl rfl ?_
  refine ev_get (v := .ref 29) gi_Mod (ci := 6) rfl rfl 29 (by decide) gw_1030 rfl d_Mod_remember_51 ?_
  refine ev_bipush (v := 120) d_Mod_remember_54 rfl ?_
  refine ev_iload_n d_Mod_remember_56 rfl rfl ?_
  refine ev_iadd d_Mod_remember_57 ?_
  refine ev_aload_n d_Mod_remember_58 rfl rfl ?_
  refine ev_get (v := .ref 16) gi_Mod (ci := 6) rfl rfl 5 (by decide) gw_1006 rfl d_Mod_remember_59 ?_
  refine ev_iload_n d_Mod_remember_62 rfl rfl ?_
  refine ev_inB (fun h1 => ?_)
  refine ev_iaload rfl (inB_of h1) d_Mod_remember_63 ?_
  refine ev_inB (fun h2 => ?_)
  refine ev_iastore (h2 := (eLV :: (HD d (HF f (HW w (HM m (HS s (HG g (HR (rSWas r (upd (rWas r) (120 + x1).toNatClampNeg (rNex r x1.toNatClampNeg))) tl))))))))) rfl (inB_of h2) (hs_Was d f w m s g r _ tl) d_Mod_remember_64 ?_
  exact ev_pick [0, 1] rfl (e_B_Mod_remember_65   r2 hr2 (rSWas r (upd (rWas r) (120 + x1).toNatClampNeg (rNex r x1.toNatClampNeg))) x1)
def B_Mod_remember_35  (r2 : RS → Int32 → Option (Unit × RS)) (r : RS) (x1 : Int32) : Option (Unit × RS) :=
  if inB x1 40 then (if inB (80 + x1) 600 then (B_Mod_remember_50  r2 (rSWas r (upd (rWas r) (80 + x1).toNatClampNeg (rUse r x1.toNatClampNeg))) x1) else none) else none
theorem e_B_Mod_remember_35 {sc : Nat × (Nat → Int32)} {d : DS} {f : FS} {w : WS} {m : MS} {s : SS} {g : GS} {tl : List mn_E}  (r2 : RS → Int32 → Option (Unit × RS)) (hr2 : ∀ (r : RS) (x1 : Int32), Ev sc 0 0 0 0 M_Mod_remember 2 [(0, .ref 12), (1, .int x1)] [] (eLV :: (HD d (HF f (HW w (HM m (HS s (HG g (HR r tl)))))))) (mapR ouV (fun z => (eLV :: (HD d (HF f (HW w (HM m (HS s (HG g (HR z tl))))))))) (r2 r x1))) (r : RS) (x1 : Int32) : Ev sc 0 0 0 0 M_Mod_remember 35 [(0, .ref 12), (1, .int x1)] [] (eLV :: (HD d (HF f (HW w (HM m (HS s (HG g (HR r tl)))))))) (mapR ouV (fun z => (eLV :: (HD d (HF f (HW w (HM m (HS s (HG g (HR z tl))))))))) (B_Mod_remember_35 r2 r x1)) := by
  unfold B_Mod_remember_35
  refine ev_aload_n d_Mod_remember_35 rfl rfl ?_
  refine ev_get (v := .ref 29) gi_Mod (ci := 6) rfl rfl 29 (by decide) gw_1030 rfl d_Mod_remember_36 ?_
  refine ev_bipush (v := 80) d_Mod_remember_39 rfl ?_
  refine ev_iload_n d_Mod_remember_41 rfl rfl ?_
  refine ev_iadd d_Mod_remember_42 ?_
  refine ev_aload_n d_Mod_remember_43 rfl rfl ?_
  refine ev_get (v := .ref 15) gi_Mod (ci := 6) rfl rfl 4 (by decide) gw_1005 rfl d_Mod_remember_44 ?_
  refine ev_iload_n d_Mod_remember_47 rfl rfl ?_
  refine ev_inB (fun h1 => ?_)
  refine ev_iaload rfl (inB_of h1) d_Mod_remember_48 ?_
  refine ev_inB (fun h2 => ?_)
  refine ev_iastore (h2 := (eLV :: (HD d (HF f (HW w (HM m (HS s (HG g (HR (rSWas r (upd (rWas r) (80 + x1).toNatClampNeg (rUse r x1.toNatClampNeg))) tl))))))))) rfl (inB_of h2) (hs_Was d f w m s g r _ tl) d_Mod_remember_49 ?_
  exact ev_pick [0, 1] rfl (e_B_Mod_remember_50   r2 hr2 (rSWas r (upd (rWas r) (80 + x1).toNatClampNeg (rUse r x1.toNatClampNeg))) x1)
def B_Mod_remember_20  (r2 : RS → Int32 → Option (Unit × RS)) (r : RS) (x1 : Int32) : Option (Unit × RS) :=
  if inB x1 40 then (if inB (40 + x1) 600 then (B_Mod_remember_35  r2 (rSWas r (upd (rWas r) (40 + x1).toNatClampNeg (rPag r x1.toNatClampNeg))) x1) else none) else none
theorem e_B_Mod_remember_20 {sc : Nat × (Nat → Int32)} {d : DS} {f : FS} {w : WS} {m : MS} {s : SS} {g : GS} {tl : List mn_E}  (r2 : RS → Int32 → Option (Unit × RS)) (hr2 : ∀ (r : RS) (x1 : Int32), Ev sc 0 0 0 0 M_Mod_remember 2 [(0, .ref 12), (1, .int x1)] [] (eLV :: (HD d (HF f (HW w (HM m (HS s (HG g (HR r tl)))))))) (mapR ouV (fun z => (eLV :: (HD d (HF f (HW w (HM m (HS s (HG g (HR z tl))))))))) (r2 r x1))) (r : RS) (x1 : Int32) : Ev sc 0 0 0 0 M_Mod_remember 20 [(0, .ref 12), (1, .int x1)] [] (eLV :: (HD d (HF f (HW w (HM m (HS s (HG g (HR r tl)))))))) (mapR ouV (fun z => (eLV :: (HD d (HF f (HW w (HM m (HS s (HG g (HR z tl))))))))) (B_Mod_remember_20 r2 r x1)) := by
  unfold B_Mod_remember_20
  refine ev_aload_n d_Mod_remember_20 rfl rfl ?_
  refine ev_get (v := .ref 29) gi_Mod (ci := 6) rfl rfl 29 (by decide) gw_1030 rfl d_Mod_remember_21 ?_
  refine ev_bipush (v := 40) d_Mod_remember_24 rfl ?_
  refine ev_iload_n d_Mod_remember_26 rfl rfl ?_
  refine ev_iadd d_Mod_remember_27 ?_
  refine ev_aload_n d_Mod_remember_28 rfl rfl ?_
  refine ev_get (v := .ref 14) gi_Mod (ci := 6) rfl rfl 3 (by decide) gw_1004 rfl d_Mod_remember_29 ?_
  refine ev_iload_n d_Mod_remember_32 rfl rfl ?_
  refine ev_inB (fun h1 => ?_)
  refine ev_iaload rfl (inB_of h1) d_Mod_remember_33 ?_
  refine ev_inB (fun h2 => ?_)
  refine ev_iastore (h2 := (eLV :: (HD d (HF f (HW w (HM m (HS s (HG g (HR (rSWas r (upd (rWas r) (40 + x1).toNatClampNeg (rPag r x1.toNatClampNeg))) tl))))))))) rfl (inB_of h2) (hs_Was d f w m s g r _ tl) d_Mod_remember_34 ?_
  exact ev_pick [0, 1] rfl (e_B_Mod_remember_35   r2 hr2 (rSWas r (upd (rWas r) (40 + x1).toNatClampNeg (rPag r x1.toNatClampNeg))) x1)
def L_Mod_remember_2   : Nat → RS → Int32 → Option (Unit × RS)
  | 0, _, _ => none
  | n + 1, r, x1 =>
  if 40 ≤ x1 then (L_Mod_remember_89   1000 r 0) else (if inB x1 40 then (if inB x1 600 then (B_Mod_remember_20  (L_Mod_remember_2 n) (rSWas r (upd (rWas r) x1.toNatClampNeg (rSer r x1.toNatClampNeg))) x1) else none) else none)
theorem e_L_Mod_remember_2 {sc : Nat × (Nat → Int32)} {d : DS} {f : FS} {w : WS} {m : MS} {s : SS} {g : GS} {tl : List mn_E}    : ∀ (n : Nat) (r : RS) (x1 : Int32), Ev sc 0 0 0 0 M_Mod_remember 2 [(0, .ref 12), (1, .int x1)] [] (eLV :: (HD d (HF f (HW w (HM m (HS s (HG g (HR r tl)))))))) (mapR ouV (fun z => (eLV :: (HD d (HF f (HW w (HM m (HS s (HG g (HR z tl))))))))) (L_Mod_remember_2   n r x1)) := by
  intro n
  induction n with
  | zero => intro r x1; exact ev_none
  | succ n ih =>
    intro r x1
    rw [L_Mod_remember_2]
    refine ev_iload_n d_Mod_remember_2 rfl rfl ?_
    refine ev_bipush (v := 40) d_Mod_remember_3 rfl ?_
    refine ev_icmp_ge (tgt := 87) d_Mod_remember_5 rfl (fun h1 => ?_) (fun h1 => ?_)
    · rw [if_pos h1]
      refine ev_iconst (v := 0) d_Mod_remember_87 rfl ?_
      refine ev_istore_n d_Mod_remember_88 rfl (by decide) rfl ?_
      exact ev_pick [1, 0] rfl (e_L_Mod_remember_89     1000 r 0)
    · rw [if_neg h1]
      refine ev_aload_n d_Mod_remember_8 rfl rfl ?_
      refine ev_get (v := .ref 29) gi_Mod (ci := 6) rfl rfl 29 (by decide) gw_1030 rfl d_Mod_remember_9 ?_
      refine ev_iload_n d_Mod_remember_12 rfl rfl ?_
      refine ev_aload_n d_Mod_remember_13 rfl rfl ?_
      refine ev_get (v := .ref 13) gi_Mod (ci := 6) rfl rfl 2 (by decide) gw_1003 rfl d_Mod_remember_14 ?_
      refine ev_iload_n d_Mod_remember_17 rfl rfl ?_
      refine ev_inB (fun h2 => ?_)
      refine ev_iaload rfl (inB_of h2) d_Mod_remember_18 ?_
      refine ev_inB (fun h3 => ?_)
      refine ev_iastore (h2 := (eLV :: (HD d (HF f (HW w (HM m (HS s (HG g (HR (rSWas r (upd (rWas r) x1.toNatClampNeg (rSer r x1.toNatClampNeg))) tl))))))))) rfl (inB_of h3) (hs_Was d f w m s g r _ tl) d_Mod_remember_19 ?_
      exact ev_pick [0, 1] rfl (e_B_Mod_remember_20   (L_Mod_remember_2 n) ih (rSWas r (upd (rWas r) x1.toNatClampNeg (rSer r x1.toNatClampNeg))) x1)
def f_Mod_remember   (r : RS) : Option (Unit × RS) :=
  L_Mod_remember_2   1000 r 0
theorem e_f_Mod_remember {sc : Nat × (Nat → Int32)} {d : DS} {f : FS} {w : WS} {m : MS} {s : SS} {g : GS} {tl : List mn_E}    (r : RS) : Ev sc 0 0 0 0 M_Mod_remember 0 [(0, .ref 12)] [] (eLV :: (HD d (HF f (HW w (HM m (HS s (HG g (HR r tl)))))))) (mapR ouV (fun z => (eLV :: (HD d (HF f (HW w (HM m (HS s (HG g (HR z tl))))))))) (f_Mod_remember r)) := by
  unfold f_Mod_remember
  refine ev_iconst (v := 0) d_Mod_remember_0 rfl ?_
  refine ev_istore_n d_Mod_remember_1 rfl (by decide) rfl ?_
  exact ev_pick [1, 0] rfl (e_L_Mod_remember_2     1000 r 0)
def B_Mod_isOther_138  (r99 : RS → Int32 → Int32 → Int32 → Option (Int32 × Unit)) (r : RS) (x1 : Int32) (x3 : Int32) (t0 : Int32) : Option (Int32 × Unit) :=
  r99 r x1 t0 (x3 + 1)
theorem e_B_Mod_isOther_138 {sc : Nat × (Nat → Int32)} {d : DS} {f : FS} {w : WS} {m : MS} {s : SS} {g : GS} {tl : List mn_E}  (r99 : RS → Int32 → Int32 → Int32 → Option (Int32 × Unit)) (hr99 : ∀ (r : RS) (x1 : Int32) (x2 : Int32) (x3 : Int32), Ev sc 0 0 0 0 M_Mod_isOther 99 [(0, .ref 12), (1, .int x1), (2, .int x2), (3, .int x3)] [] (eLV :: (HD d (HF f (HW w (HM m (HS s (HG g (HR r tl)))))))) (mapR ouI (fun z => (eLV :: (HD d (HF f (HW w (HM m (HS s (HG g (HR r tl))))))))) (r99 r x1 x2 x3))) (r : RS) (x1 : Int32) (x3 : Int32) (t0 : Int32) : Ev sc 0 0 0 0 M_Mod_isOther 138 [(0, .ref 12), (1, .int x1), (3, .int x3)] [.int t0] (eLV :: (HD d (HF f (HW w (HM m (HS s (HG g (HR r tl)))))))) (mapR ouI (fun z => (eLV :: (HD d (HF f (HW w (HM m (HS s (HG g (HR r tl))))))))) (B_Mod_isOther_138 r99 r x1 x3 t0)) := by
  unfold B_Mod_isOther_138
  refine ev_istore_n d_Mod_isOther_138 rfl (by decide) rfl ?_
  refine ev_iinc (v := (x3 + 1)) d_Mod_isOther_139 rfl rfl (by decide) rfl ?_
  refine ev_goto (tgt := 99) d_Mod_isOther_142 rfl ?_
  exact ev_pick [2, 3, 1, 0] rfl (hr99 r x1 t0 (x3 + 1))
def B_Mod_isOther_133  (r99 : RS → Int32 → Int32 → Int32 → Option (Int32 × Unit)) (r : RS) (x1 : Int32) (x3 : Int32) : Option (Int32 × Unit) :=
  B_Mod_isOther_138  r99 r x1 x3 1
theorem e_B_Mod_isOther_133 {sc : Nat × (Nat → Int32)} {d : DS} {f : FS} {w : WS} {m : MS} {s : SS} {g : GS} {tl : List mn_E}  (r99 : RS → Int32 → Int32 → Int32 → Option (Int32 × Unit)) (hr99 : ∀ (r : RS) (x1 : Int32) (x2 : Int32) (x3 : Int32), Ev sc 0 0 0 0 M_Mod_isOther 99 [(0, .ref 12), (1, .int x1), (2, .int x2), (3, .int x3)] [] (eLV :: (HD d (HF f (HW w (HM m (HS s (HG g (HR r tl)))))))) (mapR ouI (fun z => (eLV :: (HD d (HF f (HW w (HM m (HS s (HG g (HR r tl))))))))) (r99 r x1 x2 x3))) (r : RS) (x1 : Int32) (x3 : Int32) : Ev sc 0 0 0 0 M_Mod_isOther 133 [(0, .ref 12), (1, .int x1), (3, .int x3)] [] (eLV :: (HD d (HF f (HW w (HM m (HS s (HG g (HR r tl)))))))) (mapR ouI (fun z => (eLV :: (HD d (HF f (HW w (HM m (HS s (HG g (HR r tl))))))))) (B_Mod_isOther_133 r99 r x1 x3)) := by
  unfold B_Mod_isOther_133
  refine ev_iconst (v := 1) d_Mod_isOther_133 rfl ?_
  refine ev_goto (tgt := 138) d_Mod_isOther_134 rfl ?_
  exact ev_pick [0, 1, 2] rfl (e_B_Mod_isOther_138   r99 hr99 r x1 x3 1)
def L_Mod_isOther_99   : Nat → RS → Int32 → Int32 → Int32 → Option (Int32 × Unit)
  | 0, _, _, _, _ => none
  | n + 1, r, x1, x2, x3 =>
  if ((8 * x1) + 8) ≤ x3 then (some ((vp_nar .boolean x2), ())) else (if ¬ x2 = 0 then (B_Mod_isOther_133  (L_Mod_isOther_99 n) r x1 x3) else (if inB (200 + x3) 600 then (if inB x3 320 then (if (rWas r (200 + x3).toNatClampNeg) = (rByt r x3.toNatClampNeg) then (B_Mod_isOther_138  (L_Mod_isOther_99 n) r x1 x3 0) else (B_Mod_isOther_133  (L_Mod_isOther_99 n) r x1 x3)) else none) else none))
theorem e_L_Mod_isOther_99 {sc : Nat × (Nat → Int32)} {d : DS} {f : FS} {w : WS} {m : MS} {s : SS} {g : GS} {tl : List mn_E}    : ∀ (n : Nat) (r : RS) (x1 : Int32) (x2 : Int32) (x3 : Int32), Ev sc 0 0 0 0 M_Mod_isOther 99 [(0, .ref 12), (1, .int x1), (2, .int x2), (3, .int x3)] [] (eLV :: (HD d (HF f (HW w (HM m (HS s (HG g (HR r tl)))))))) (mapR ouI (fun z => (eLV :: (HD d (HF f (HW w (HM m (HS s (HG g (HR r tl))))))))) (L_Mod_isOther_99   n r x1 x2 x3)) := by
  intro n
  induction n with
  | zero => intro r x1 x2 x3; exact ev_none
  | succ n ih =>
    intro r x1 x2 x3
    rw [L_Mod_isOther_99]
    refine ev_iload_n d_Mod_isOther_99 rfl rfl ?_
    refine ev_bipush (v := 8) d_Mod_isOther_100 rfl ?_
    refine ev_iload_n d_Mod_isOther_102 rfl rfl ?_
    refine ev_imul d_Mod_isOther_103 ?_
    refine ev_bipush (v := 8) d_Mod_isOther_104 rfl ?_
    refine ev_iadd d_Mod_isOther_106 ?_
    refine ev_icmp_ge (tgt := 145) d_Mod_isOther_107 rfl (fun h1 => ?_) (fun h1 => ?_)
    · rw [if_pos h1]
      refine ev_iload_n d_Mod_isOther_145 rfl rfl ?_
      exact ev_zretN rfl d_Mod_isOther_146
    · rw [if_neg h1]
      refine ev_iload_n d_Mod_isOther_110 rfl rfl ?_
      refine ev_if_ne (tgt := 133) d_Mod_isOther_111 rfl (fun h2 => ?_) (fun h2 => ?_)
      · rw [if_pos h2]
        exact ev_pick [0, 1, 3] rfl (e_B_Mod_isOther_133   (L_Mod_isOther_99 n) ih r x1 x3)
      · rw [if_neg h2]
        refine ev_aload_n d_Mod_isOther_114 rfl rfl ?_
        refine ev_get (v := .ref 29) gi_Mod (ci := 6) rfl rfl 29 (by decide) gw_1030 rfl d_Mod_isOther_115 ?_
        refine ev_sipush (v := 200) d_Mod_isOther_118 rfl ?_
        refine ev_iload_n d_Mod_isOther_121 rfl rfl ?_
        refine ev_iadd d_Mod_isOther_122 ?_
        refine ev_inB (fun h3 => ?_)
        refine ev_iaload rfl (inB_of h3) d_Mod_isOther_123 ?_
        refine ev_aload_n d_Mod_isOther_124 rfl rfl ?_
        refine ev_get (v := .ref 18) gi_Mod (ci := 6) rfl rfl 7 (by decide) gw_1008 rfl d_Mod_isOther_125 ?_
        refine ev_iload_n d_Mod_isOther_128 rfl rfl ?_
        refine ev_inB (fun h4 => ?_)
        refine ev_iaload rfl (inB_of h4) d_Mod_isOther_129 ?_
        refine ev_icmp_eq (tgt := 137) d_Mod_isOther_130 rfl (fun h5 => ?_) (fun h5 => ?_)
        · rw [if_pos h5]
          refine ev_iconst (v := 0) d_Mod_isOther_137 rfl ?_
          exact ev_pick [0, 1, 3] rfl (e_B_Mod_isOther_138   (L_Mod_isOther_99 n) ih r x1 x3 0)
        · rw [if_neg h5]
          exact ev_pick [0, 1, 3] rfl (e_B_Mod_isOther_133   (L_Mod_isOther_99 n) ih r x1 x3)
def B_Mod_isOther_93   (r : RS) (x1 : Int32) (t0 : Int32) : Option (Int32 × Unit) :=
  L_Mod_isOther_99   1000 r x1 t0 (8 * x1)
theorem e_B_Mod_isOther_93 {sc : Nat × (Nat → Int32)} {d : DS} {f : FS} {w : WS} {m : MS} {s : SS} {g : GS} {tl : List mn_E}    (r : RS) (x1 : Int32) (t0 : Int32) : Ev sc 0 0 0 0 M_Mod_isOther 93 [(0, .ref 12), (1, .int x1)] [.int t0] (eLV :: (HD d (HF f (HW w (HM m (HS s (HG g (HR r tl)))))))) (mapR ouI (fun z => (eLV :: (HD d (HF f (HW w (HM m (HS s (HG g (HR r tl))))))))) (B_Mod_isOther_93 r x1 t0)) := by
  unfold B_Mod_isOther_93
  refine ev_istore_n d_Mod_isOther_93 rfl (by decide) rfl ?_
  refine ev_bipush (v := 8) d_Mod_isOther_94 rfl ?_
  refine ev_iload_n d_Mod_isOther_96 rfl rfl ?_
  refine ev_imul d_Mod_isOther_97 ?_
  refine ev_istore_n d_Mod_isOther_98 rfl (by decide) rfl ?_
  exact ev_pick [2, 3, 1, 0] rfl (e_L_Mod_isOther_99     1000 r x1 t0 (8 * x1))
def B_Mod_isOther_88   (r : RS) (x1 : Int32) : Option (Int32 × Unit) :=
  B_Mod_isOther_93   r x1 1
theorem e_B_Mod_isOther_88 {sc : Nat × (Nat → Int32)} {d : DS} {f : FS} {w : WS} {m : MS} {s : SS} {g : GS} {tl : List mn_E}    (r : RS) (x1 : Int32) : Ev sc 0 0 0 0 M_Mod_isOther 88 [(0, .ref 12), (1, .int x1)] [] (eLV :: (HD d (HF f (HW w (HM m (HS s (HG g (HR r tl)))))))) (mapR ouI (fun z => (eLV :: (HD d (HF f (HW w (HM m (HS s (HG g (HR r tl))))))))) (B_Mod_isOther_88 r x1)) := by
  unfold B_Mod_isOther_88
  refine ev_iconst (v := 1) d_Mod_isOther_88 rfl ?_
  refine ev_goto (tgt := 93) d_Mod_isOther_89 rfl ?_
  exact ev_pick [0, 1] rfl (e_B_Mod_isOther_93     r x1 1)
def f_Mod_isOther   (r : RS) (x1 : Int32) : Option (Int32 × Unit) :=
  if inB x1 600 then (if inB x1 40 then (if ¬ (rWas r x1.toNatClampNeg) = (rSer r x1.toNatClampNeg) then (B_Mod_isOther_88   r x1) else (if inB (40 + x1) 600 then (if inB x1 40 then (if ¬ (rWas r (40 + x1).toNatClampNeg) = (rPag r x1.toNatClampNeg) then (B_Mod_isOther_88   r x1) else (if inB (80 + x1) 600 then (if inB x1 40 then (if ¬ (rWas r (80 + x1).toNatClampNeg) = (rUse r x1.toNatClampNeg) then (B_Mod_isOther_88   r x1) else (if inB (120 + x1) 600 then (if inB x1 40 then (if ¬ (rWas r (120 + x1).toNatClampNeg) = (rNex r x1.toNatClampNeg) then (B_Mod_isOther_88   r x1) else (if inB (160 + x1) 600 then (if inB x1 40 then (if (rWas r (160 + x1).toNatClampNeg) = (rBef r x1.toNatClampNeg) then (B_Mod_isOther_93   r x1 0) else (B_Mod_isOther_88   r x1)) else none) else none)) else none) else none)) else none) else none)) else none) else none)) else none) else none
theorem e_f_Mod_isOther {sc : Nat × (Nat → Int32)} {d : DS} {f : FS} {w : WS} {m : MS} {s : SS} {g : GS} {tl : List mn_E}    (r : RS) (x1 : Int32) : Ev sc 0 0 0 0 M_Mod_isOther 0 [(0, .ref 12), (1, .int x1)] [] (eLV :: (HD d (HF f (HW w (HM m (HS s (HG g (HR r tl)))))))) (mapR ouI (fun z => (eLV :: (HD d (HF f (HW w (HM m (HS s (HG g (HR r tl))))))))) (f_Mod_isOther r x1)) := by
  unfold f_Mod_isOther
  refine ev_aload_n d_Mod_isOther_0 rfl rfl ?_
  refine ev_get (v := .ref 29) gi_Mod (ci := 6) rfl rfl 29 (by decide) gw_1030 rfl d_Mod_isOther_1 ?_
  refine ev_iload_n d_Mod_isOther_4 rfl rfl ?_
  refine ev_inB (fun h1 => ?_)
  refine ev_iaload rfl (inB_of h1) d_Mod_isOther_5 ?_
  refine ev_aload_n d_Mod_isOther_6 rfl rfl ?_
  refine ev_get (v := .ref 13) gi_Mod (ci := 6) rfl rfl 2 (by decide) gw_1003 rfl d_Mod_isOther_7 ?_
  refine ev_iload_n d_Mod_isOther_10 rfl rfl ?_
  refine ev_inB (fun h2 => ?_)
  refine ev_iaload rfl (inB_of h2) d_Mod_isOther_11 ?_
  refine ev_icmp_ne (tgt := 88) d_Mod_isOther_12 rfl (fun h3 => ?_) (fun h3 => ?_)
  · rw [if_pos h3]
    exact ev_pick [0, 1] rfl (e_B_Mod_isOther_88     r x1)
  · rw [if_neg h3]
    refine ev_aload_n d_Mod_isOther_15 rfl rfl ?_
    refine ev_get (v := .ref 29) gi_Mod (ci := 6) rfl rfl 29 (by decide) gw_1030 rfl d_Mod_isOther_16 ?_
    refine ev_bipush (v := 40) d_Mod_isOther_19 rfl ?_
    refine ev_iload_n d_Mod_isOther_21 rfl rfl ?_
    refine ev_iadd d_Mod_isOther_22 ?_
    refine ev_inB (fun h4 => ?_)
    refine ev_iaload rfl (inB_of h4) d_Mod_isOther_23 ?_
    refine ev_aload_n d_Mod_isOther_24 rfl rfl ?_
    refine ev_get (v := .ref 14) gi_Mod (ci := 6) rfl rfl 3 (by decide) gw_1004 rfl d_Mod_isOther_25 ?_
    refine ev_iload_n d_Mod_isOther_28 rfl rfl ?_
    refine ev_inB (fun h5 => ?_)
    refine ev_iaload rfl (inB_of h5) d_Mod_isOther_29 ?_
    refine ev_icmp_ne (tgt := 88) d_Mod_isOther_30 rfl (fun h6 => ?_) (fun h6 => ?_)
    · rw [if_pos h6]
      exact ev_pick [0, 1] rfl (e_B_Mod_isOther_88     r x1)
    · rw [if_neg h6]
      refine ev_aload_n d_Mod_isOther_33 rfl rfl ?_
      refine ev_get (v := .ref 29) gi_Mod (ci := 6) rfl rfl 29 (by decide) gw_1030 rfl d_Mod_isOther_34 ?_
      refine ev_bipush (v := 80) d_Mod_isOther_37 rfl ?_
      refine ev_iload_n d_Mod_isOther_39 rfl rfl ?_
      refine ev_iadd d_Mod_isOther_40 ?_
      refine ev_inB (fun h7 => ?_)
      refine ev_iaload rfl (inB_of h7) d_Mod_isOther_41 ?_
      refine ev_aload_n d_Mod_isOther_42 rfl rfl ?_
      refine ev_get (v := .ref 15) gi_Mod (ci := 6) rfl rfl 4 (by decide) gw_1005 rfl d_Mod_isOther_43 ?_
      refine ev_iload_n d_Mod_isOther_46 rfl rfl ?_
      refine ev_inB (fun h8 => ?_)
      refine ev_iaload rfl (inB_of h8) d_Mod_isOther_47 ?_
      refine ev_icmp_ne (tgt := 88) d_Mod_isOther_48 rfl (fun h9 => ?_) (fun h9 => ?_)
      · rw [if_pos h9]
        exact ev_pick [0, 1] rfl (e_B_Mod_isOther_88     r x1)
      · rw [if_neg h9]
        refine ev_aload_n d_Mod_isOther_51 rfl rfl ?_
        refine ev_get (v := .ref 29) gi_Mod (ci := 6) rfl rfl 29 (by decide) gw_1030 rfl d_Mod_isOther_52 ?_
        refine ev_bipush (v := 120) d_Mod_isOther_55 rfl ?_
        refine ev_iload_n d_Mod_isOther_57 rfl rfl ?_
        refine ev_iadd d_Mod_isOther_58 ?_
        refine ev_inB (fun h10 => ?_)
        refine ev_iaload rfl (inB_of h10) d_Mod_isOther_59 ?_
        refine ev_aload_n d_Mod_isOther_60 rfl rfl ?_
        refine ev_get (v := .ref 16) gi_Mod (ci := 6) rfl rfl 5 (by decide) gw_1006 rfl d_Mod_isOther_61 ?_
        refine ev_iload_n d_Mod_isOther_64 rfl rfl ?_
        refine ev_inB (fun h11 => ?_)
        refine ev_iaload rfl (inB_of h11) d_Mod_isOther_65 ?_
        refine ev_icmp_ne (tgt := 88) d_Mod_isOther_66 rfl (fun h12 => ?_) (fun h12 => ?_)
        · rw [if_pos h12]
          exact ev_pick [0, 1] rfl (e_B_Mod_isOther_88     r x1)
        · rw [if_neg h12]
          refine ev_aload_n d_Mod_isOther_69 rfl rfl ?_
          refine ev_get (v := .ref 29) gi_Mod (ci := 6) rfl rfl 29 (by decide) gw_1030 rfl d_Mod_isOther_70 ?_
          refine ev_sipush (v := 160) d_Mod_isOther_73 rfl ?_
          refine ev_iload_n d_Mod_isOther_76 rfl rfl ?_
          refine ev_iadd d_Mod_isOther_77 ?_
          refine ev_inB (fun h13 => ?_)
          refine ev_iaload rfl (inB_of h13) d_Mod_isOther_78 ?_
          refine ev_aload_n d_Mod_isOther_79 rfl rfl ?_
          refine ev_get (v := .ref 17) gi_Mod (ci := 6) rfl rfl 6 (by decide) gw_1007 rfl d_Mod_isOther_80 ?_
          refine ev_iload_n d_Mod_isOther_83 rfl rfl ?_
          refine ev_inB (fun h14 => ?_)
          refine ev_iaload rfl (inB_of h14) d_Mod_isOther_84 ?_
          refine ev_icmp_eq (tgt := 92) d_Mod_isOther_85 rfl (fun h15 => ?_) (fun h15 => ?_)
          · rw [if_pos h15]
            refine ev_iconst (v := 0) d_Mod_isOther_92 rfl ?_
            exact ev_pick [0, 1] rfl (e_B_Mod_isOther_93     r x1 0)
          · rw [if_neg h15]
            exact ev_pick [0, 1] rfl (e_B_Mod_isOther_88     r x1)
def B_Mod_lowestFree_22  (r5 : RS → Int32 → Int32 → Option (Int32 × Unit)) (r : RS) (x2 : Int32) (t0 : Int32) : Option (Int32 × Unit) :=
  r5 r t0 (x2 + (-1))
theorem e_B_Mod_lowestFree_22 {sc : Nat × (Nat → Int32)} {d : DS} {f : FS} {w : WS} {m : MS} {s : SS} {g : GS} {tl : List mn_E}  (r5 : RS → Int32 → Int32 → Option (Int32 × Unit)) (hr5 : ∀ (r : RS) (x1 : Int32) (x2 : Int32), Ev sc 1 13 0 0 M_Mod_lowestFree 5 [(0, .ref 12), (1, .int x1), (2, .int x2)] [] (eLV :: (HD d (HF f (HW w (HM m (HS s (HG g (HR r tl)))))))) (mapR ouI (fun z => (eLV :: (HD d (HF f (HW w (HM m (HS s (HG g (HR r tl))))))))) (r5 r x1 x2))) (r : RS) (x2 : Int32) (t0 : Int32) : Ev sc 1 13 0 0 M_Mod_lowestFree 22 [(0, .ref 12), (2, .int x2)] [.int t0] (eLV :: (HD d (HF f (HW w (HM m (HS s (HG g (HR r tl)))))))) (mapR ouI (fun z => (eLV :: (HD d (HF f (HW w (HM m (HS s (HG g (HR r tl))))))))) (B_Mod_lowestFree_22 r5 r x2 t0)) := by
  unfold B_Mod_lowestFree_22
  refine ev_istore_n d_Mod_lowestFree_22 rfl (by decide) rfl ?_
  refine ev_iinc (v := (x2 + (-1))) d_Mod_lowestFree_23 rfl rfl (by decide) rfl ?_
  refine ev_goto (tgt := 5) d_Mod_lowestFree_26 rfl ?_
  exact ev_pick [2, 1, 0] rfl (hr5 r t0 (x2 + (-1)))
def B_Mod_lowestFree_14  (r5 : RS → Int32 → Int32 → Option (Int32 × Unit)) (r : RS) (x1 : Int32) (x2 : Int32) (t0 : Int32) : Option (Int32 × Unit) :=
  if t0 = 0 then (B_Mod_lowestFree_22  r5 r x2 x1) else (B_Mod_lowestFree_22  r5 r x2 x2)
theorem e_B_Mod_lowestFree_14 {sc : Nat × (Nat → Int32)} {d : DS} {f : FS} {w : WS} {m : MS} {s : SS} {g : GS} {tl : List mn_E}  (r5 : RS → Int32 → Int32 → Option (Int32 × Unit)) (hr5 : ∀ (r : RS) (x1 : Int32) (x2 : Int32), Ev sc 1 13 0 0 M_Mod_lowestFree 5 [(0, .ref 12), (1, .int x1), (2, .int x2)] [] (eLV :: (HD d (HF f (HW w (HM m (HS s (HG g (HR r tl)))))))) (mapR ouI (fun z => (eLV :: (HD d (HF f (HW w (HM m (HS s (HG g (HR r tl))))))))) (r5 r x1 x2))) (r : RS) (x1 : Int32) (x2 : Int32) (t0 : Int32) : Ev sc 1 13 0 0 M_Mod_lowestFree 14 [(0, .ref 12), (1, .int x1), (2, .int x2)] [.int t0] (eLV :: (HD d (HF f (HW w (HM m (HS s (HG g (HR r tl)))))))) (mapR ouI (fun z => (eLV :: (HD d (HF f (HW w (HM m (HS s (HG g (HR r tl))))))))) (B_Mod_lowestFree_14 r5 r x1 x2 t0)) := by
  unfold B_Mod_lowestFree_14
  refine ev_if_eq (tgt := 21) d_Mod_lowestFree_14 rfl (fun h1 => ?_) (fun h1 => ?_)
  · rw [if_pos h1]
    refine ev_iload_n d_Mod_lowestFree_21 rfl rfl ?_
    exact ev_pick [0, 2] rfl (e_B_Mod_lowestFree_22   r5 hr5 r x2 x1)
  · rw [if_neg h1]
    refine ev_iload_n d_Mod_lowestFree_17 rfl rfl ?_
    refine ev_goto (tgt := 22) d_Mod_lowestFree_18 rfl ?_
    exact ev_pick [0, 2] rfl (e_B_Mod_lowestFree_22   r5 hr5 r x2 x2)
def L_Mod_lowestFree_5   : Nat → RS → Int32 → Int32 → Option (Int32 × Unit)
  | 0, _, _, _ => none
  | n + 1, r, x1, x2 =>
  if x2 < 0 then (some (x1, ())) else (bnd (f_Mod_isFree r x2) (fun q => B_Mod_lowestFree_14  (L_Mod_lowestFree_5 n) r x1 x2 q.1))
theorem e_L_Mod_lowestFree_5 {sc : Nat × (Nat → Int32)} {d : DS} {f : FS} {w : WS} {m : MS} {s : SS} {g : GS} {tl : List mn_E}    : ∀ (n : Nat) (r : RS) (x1 : Int32) (x2 : Int32), Ev sc 1 13 0 0 M_Mod_lowestFree 5 [(0, .ref 12), (1, .int x1), (2, .int x2)] [] (eLV :: (HD d (HF f (HW w (HM m (HS s (HG g (HR r tl)))))))) (mapR ouI (fun z => (eLV :: (HD d (HF f (HW w (HM m (HS s (HG g (HR r tl))))))))) (L_Mod_lowestFree_5   n r x1 x2)) := by
  intro n
  induction n with
  | zero => intro r x1 x2; exact ev_none
  | succ n ih =>
    intro r x1 x2
    rw [L_Mod_lowestFree_5]
    refine ev_iload_n d_Mod_lowestFree_5 rfl rfl ?_
    refine ev_if_lt (tgt := 29) d_Mod_lowestFree_6 rfl (fun h1 => ?_) (fun h1 => ?_)
    · rw [if_pos h1]
      refine ev_iload_n d_Mod_lowestFree_29 rfl rfl ?_
      exact ev_zret (ty := .int) rfl rfl d_Mod_lowestFree_30
    · rw [if_neg h1]
      refine ev_aload_n d_Mod_lowestFree_9 rfl rfl ?_
      refine ev_iload_n d_Mod_lowestFree_10 rfl rfl ?_
      refine ev_callB (rc := (f_Mod_isFree r x2)) (ou := ouI) (Hs := (fun z => (eLV :: (HD d (HF f (HW w (HM m (HS s (HG g (HR r tl)))))))))) (inv_V (q := 12) (av := [.int x2]) (rest := []) rfl (ci := 6) rfl d_Mod_lowestFree_11 gw_1151 gw_1153 gw_61 mw_Mod_isFree nh_Mod_isFree pn_Mod_isFree rfl) d_Mod_lowestFree_11 pl_Mod_isFree (Nat.le_of_ble_eq_true rfl) (Nat.le_of_ble_eq_true rfl) (Nat.le_of_ble_eq_true rfl) (e_f_Mod_isFree (tl := tl) (d := d) (f := f) (w := w) (m := m) (s := s) (g := g)  r x2) (fun _ => (len1 (lenHD (lenHF (lenHW (lenHM (lenHS (lenHG (lenHR rfl))))))))) (fun v z h2 => ⟨_, rfl, ?_⟩)
      exact ev_pick [0, 1, 2] rfl (e_B_Mod_lowestFree_14   (L_Mod_lowestFree_5 n) ih r x1 x2 v)
def f_Mod_lowestFree   (r : RS) : Option (Int32 × Unit) :=
  L_Mod_lowestFree_5   1000 r (-1) 39
theorem e_f_Mod_lowestFree {sc : Nat × (Nat → Int32)} {d : DS} {f : FS} {w : WS} {m : MS} {s : SS} {g : GS} {tl : List mn_E}    (r : RS) : Ev sc 1 13 0 0 M_Mod_lowestFree 0 [(0, .ref 12)] [] (eLV :: (HD d (HF f (HW w (HM m (HS s (HG g (HR r tl)))))))) (mapR ouI (fun z => (eLV :: (HD d (HF f (HW w (HM m (HS s (HG g (HR r tl))))))))) (f_Mod_lowestFree r)) := by
  unfold f_Mod_lowestFree
  refine ev_iconst (v := -1) d_Mod_lowestFree_0 rfl ?_
  refine ev_istore_n d_Mod_lowestFree_1 rfl (by decide) rfl ?_
  refine ev_bipush (v := 39) d_Mod_lowestFree_2 rfl ?_
  refine ev_istore_n d_Mod_lowestFree_4 rfl (by decide) rfl ?_
  exact ev_pick [2, 1, 0] rfl (e_L_Mod_lowestFree_5     1000 r (-1) 39)
def B_Mod_lose_19   (r : RS) : Option (Unit × RS) :=
  some ((), r)
theorem e_B_Mod_lose_19 {sc : Nat × (Nat → Int32)} {d : DS} {f : FS} {w : WS} {m : MS} {s : SS} {g : GS} {tl : List mn_E}    (r : RS) : Ev sc 2 30 0 0 M_Mod_lose 19 [] [] (eLV :: (HD d (HF f (HW w (HM m (HS s (HG g (HR r tl)))))))) (mapR ouV (fun z => (eLV :: (HD d (HF f (HW w (HM m (HS s (HG g (HR z tl))))))))) (B_Mod_lose_19 r)) := by
  unfold B_Mod_lose_19
  exact ev_vret rfl d_Mod_lose_19
def B_Mod_lose_5   (r : RS) : Option (Unit × RS) :=
  if inB 1 5 then (if inB 1 5 then (B_Mod_lose_19   (rSRep r (upd (rRep r) (1 : Int32).toNatClampNeg ((rRep r (1 : Int32).toNatClampNeg) + 1)))) else none) else none
theorem e_B_Mod_lose_5 {sc : Nat × (Nat → Int32)} {d : DS} {f : FS} {w : WS} {m : MS} {s : SS} {g : GS} {tl : List mn_E}    (r : RS) : Ev sc 2 30 0 0 M_Mod_lose 5 [(0, .ref 12)] [] (eLV :: (HD d (HF f (HW w (HM m (HS s (HG g (HR r tl)))))))) (mapR ouV (fun z => (eLV :: (HD d (HF f (HW w (HM m (HS s (HG g (HR z tl))))))))) (B_Mod_lose_5 r)) := by
  unfold B_Mod_lose_5
  refine ev_aload_n d_Mod_lose_5 rfl rfl ?_
  refine ev_get (v := .ref 22) gi_Mod (ci := 6) rfl rfl 21 (by decide) gw_1022 rfl d_Mod_lose_6 ?_
  refine ev_iconst (v := 1) d_Mod_lose_9 rfl ?_
  refine ev_aload_n d_Mod_lose_10 rfl rfl ?_
  refine ev_get (v := .ref 22) gi_Mod (ci := 6) rfl rfl 21 (by decide) gw_1022 rfl d_Mod_lose_11 ?_
  refine ev_iconst (v := 1) d_Mod_lose_14 rfl ?_
  refine ev_inB (fun h1 => ?_)
  refine ev_iaload rfl (inB_of h1) d_Mod_lose_15 ?_
  refine ev_iconst (v := 1) d_Mod_lose_16 rfl ?_
  refine ev_iadd d_Mod_lose_17 ?_
  refine ev_inB (fun h2 => ?_)
  refine ev_iastore (h2 := (eLV :: (HD d (HF f (HW w (HM m (HS s (HG g (HR (rSRep r (upd (rRep r) (1 : Int32).toNatClampNeg ((rRep r (1 : Int32).toNatClampNeg) + 1))) tl))))))))) rfl (inB_of h2) rfl d_Mod_lose_18 ?_
  exact ev_pick [] rfl (e_B_Mod_lose_19     (rSRep r (upd (rRep r) (1 : Int32).toNatClampNeg ((rRep r (1 : Int32).toNatClampNeg) + 1))))
def f_Mod_lose   (r : RS) (x1 : Int32) : Option (Unit × RS) :=
  bnd (f_Mod_empty r x1) (fun q => B_Mod_lose_5   q.2)
theorem e_f_Mod_lose {sc : Nat × (Nat → Int32)} {d : DS} {f : FS} {w : WS} {m : MS} {s : SS} {g : GS} {tl : List mn_E}    (r : RS) (x1 : Int32) : Ev sc 2 30 0 0 M_Mod_lose 0 [(0, .ref 12), (1, .int x1)] [] (eLV :: (HD d (HF f (HW w (HM m (HS s (HG g (HR r tl)))))))) (mapR ouV (fun z => (eLV :: (HD d (HF f (HW w (HM m (HS s (HG g (HR z tl))))))))) (f_Mod_lose r x1)) := by
  unfold f_Mod_lose
  refine ev_aload_n d_Mod_lose_0 rfl rfl ?_
  refine ev_iload_n d_Mod_lose_1 rfl rfl ?_
  refine ev_callB (rc := (f_Mod_empty r x1)) (ou := ouV) (Hs := (fun z => (eLV :: (HD d (HF f (HW w (HM m (HS s (HG g (HR z tl)))))))))) (inv_V (q := 12) (av := [.int x1]) (rest := []) rfl (ci := 6) rfl d_Mod_lose_2 gw_1171 gw_1173 gw_66 mw_Mod_empty nh_Mod_empty pn_Mod_empty rfl) d_Mod_lose_2 pl_Mod_empty (Nat.le_of_ble_eq_true rfl) (Nat.le_of_ble_eq_true rfl) (Nat.le_of_ble_eq_true rfl) (e_f_Mod_empty (tl := tl) (d := d) (f := f) (w := w) (m := m) (s := s) (g := g)  r x1) (fun _ => (len1 (lenHD (lenHF (lenHW (lenHM (lenHS (lenHG (lenHR rfl))))))))) (fun v z h1 => ⟨_, rfl, ?_⟩)
  exact ev_pick [0] rfl (e_B_Mod_lose_5     z)
def B_Mod_keep_129  (r28 : RS → Int32 → Int32 → Int32 → Option (Unit × RS)) (r : RS) (x1 : Int32) (x2 : Int32) (x3 : Int32) : Option (Unit × RS) :=
  r28 r x1 x2 (x3 + 1)
theorem e_B_Mod_keep_129 {sc : Nat × (Nat → Int32)} {d : DS} {f : FS} {w : WS} {m : MS} {s : SS} {g : GS} {tl : List mn_E}  (r28 : RS → Int32 → Int32 → Int32 → Option (Unit × RS)) (hr28 : ∀ (r : RS) (x1 : Int32) (x2 : Int32) (x3 : Int32), Ev sc 3 47 0 0 M_Mod_keep 28 [(0, .ref 12), (1, .int x1), (2, .int x2), (3, .int x3)] [] (eLV :: (HD d (HF f (HW w (HM m (HS s (HG g (HR r tl)))))))) (mapR ouV (fun z => (eLV :: (HD d (HF f (HW w (HM m (HS s (HG g (HR z tl))))))))) (r28 r x1 x2 x3))) (r : RS) (x1 : Int32) (x2 : Int32) (x3 : Int32) : Ev sc 3 47 0 0 M_Mod_keep 129 [(0, .ref 12), (1, .int x1), (2, .int x2), (3, .int x3)] [] (eLV :: (HD d (HF f (HW w (HM m (HS s (HG g (HR r tl)))))))) (mapR ouV (fun z => (eLV :: (HD d (HF f (HW w (HM m (HS s (HG g (HR z tl))))))))) (B_Mod_keep_129 r28 r x1 x2 x3)) := by
  unfold B_Mod_keep_129
  refine ev_iinc (v := (x3 + 1)) d_Mod_keep_129 rfl rfl (by decide) rfl ?_
  refine ev_goto (tgt := 28) d_Mod_keep_132 rfl ?_
  exact ev_pick [1, 2, 3, 0] rfl (hr28 r x1 x2 (x3 + 1))
def B_Mod_keep_128  (r28 : RS → Int32 → Int32 → Int32 → Option (Unit × RS)) (r : RS) (x1 : Int32) (x2 : Int32) (x3 : Int32) (t1 : Int32) (t2 : Int32) : Option (Unit × RS) :=
  if inB t1 61 then (B_Mod_keep_129  r28 (rSMan r (upd (rMan r) t1.toNatClampNeg t2)) x1 x2 x3) else none
theorem e_B_Mod_keep_128 {sc : Nat × (Nat → Int32)} {d : DS} {f : FS} {w : WS} {m : MS} {s : SS} {g : GS} {tl : List mn_E}  (r28 : RS → Int32 → Int32 → Int32 → Option (Unit × RS)) (hr28 : ∀ (r : RS) (x1 : Int32) (x2 : Int32) (x3 : Int32), Ev sc 3 47 0 0 M_Mod_keep 28 [(0, .ref 12), (1, .int x1), (2, .int x2), (3, .int x3)] [] (eLV :: (HD d (HF f (HW w (HM m (HS s (HG g (HR r tl)))))))) (mapR ouV (fun z => (eLV :: (HD d (HF f (HW w (HM m (HS s (HG g (HR z tl))))))))) (r28 r x1 x2 x3))) (r : RS) (x1 : Int32) (x2 : Int32) (x3 : Int32) (t1 : Int32) (t2 : Int32) : Ev sc 3 47 0 0 M_Mod_keep 128 [(0, .ref 12), (1, .int x1), (2, .int x2), (3, .int x3)] [.int t2, .int t1, .ref 25] (eLV :: (HD d (HF f (HW w (HM m (HS s (HG g (HR r tl)))))))) (mapR ouV (fun z => (eLV :: (HD d (HF f (HW w (HM m (HS s (HG g (HR z tl))))))))) (B_Mod_keep_128 r28 r x1 x2 x3 t1 t2)) := by
  unfold B_Mod_keep_128
  refine ev_inB (fun h1 => ?_)
  refine ev_iastore (h2 := (eLV :: (HD d (HF f (HW w (HM m (HS s (HG g (HR (rSMan r (upd (rMan r) t1.toNatClampNeg t2)) tl))))))))) rfl (inB_of h1) rfl d_Mod_keep_128 ?_
  exact ev_pick [0, 1, 2, 3] rfl (e_B_Mod_keep_129   r28 hr28 (rSMan r (upd (rMan r) t1.toNatClampNeg t2)) x1 x2 x3)
def B_Mod_keep_109  (r28 : RS → Int32 → Int32 → Int32 → Option (Unit × RS)) (r : RS) (x1 : Int32) (x2 : Int32) (x3 : Int32) : Option (Unit × RS) :=
  if x2 = 0 then (if inB x1 61 then (B_Mod_keep_128  r28 r x1 x2 x3 x1 (rMan r x1.toNatClampNeg)) else none) else (B_Mod_keep_128  r28 r x1 x2 x3 x1 x3)
theorem e_B_Mod_keep_109 {sc : Nat × (Nat → Int32)} {d : DS} {f : FS} {w : WS} {m : MS} {s : SS} {g : GS} {tl : List mn_E}  (r28 : RS → Int32 → Int32 → Int32 → Option (Unit × RS)) (hr28 : ∀ (r : RS) (x1 : Int32) (x2 : Int32) (x3 : Int32), Ev sc 3 47 0 0 M_Mod_keep 28 [(0, .ref 12), (1, .int x1), (2, .int x2), (3, .int x3)] [] (eLV :: (HD d (HF f (HW w (HM m (HS s (HG g (HR r tl)))))))) (mapR ouV (fun z => (eLV :: (HD d (HF f (HW w (HM m (HS s (HG g (HR z tl))))))))) (r28 r x1 x2 x3))) (r : RS) (x1 : Int32) (x2 : Int32) (x3 : Int32) : Ev sc 3 47 0 0 M_Mod_keep 109 [(0, .ref 12), (1, .int x1), (2, .int x2), (3, .int x3)] [] (eLV :: (HD d (HF f (HW w (HM m (HS s (HG g (HR r tl)))))))) (mapR ouV (fun z => (eLV :: (HD d (HF f (HW w (HM m (HS s (HG g (HR z tl))))))))) (B_Mod_keep_109 r28 r x1 x2 x3)) := by
  unfold B_Mod_keep_109
  refine ev_aload_n d_Mod_keep_109 rfl rfl ?_
  refine ev_get (v := .ref 25) gi_Mod (ci := 6) rfl rfl 25 (by decide) gw_1026 rfl d_Mod_keep_110 ?_
  refine ev_iload_n d_Mod_keep_113 rfl rfl ?_
  refine ev_iload_n d_Mod_keep_114 rfl rfl ?_
  refine ev_if_eq (tgt := 122) d_Mod_keep_115 rfl (fun h1 => ?_) (fun h1 => ?_)
  · rw [if_pos h1]
    refine ev_aload_n d_Mod_keep_122 rfl rfl ?_
    refine ev_get (v := .ref 25) gi_Mod (ci := 6) rfl rfl 25 (by decide) gw_1026 rfl d_Mod_keep_123 ?_
    refine ev_iload_n d_Mod_keep_126 rfl rfl ?_
    refine ev_inB (fun h2 => ?_)
    refine ev_iaload rfl (inB_of h2) d_Mod_keep_127 ?_
    exact ev_pick [0, 1, 2, 3] rfl (e_B_Mod_keep_128   r28 hr28 r x1 x2 x3 x1 (rMan r x1.toNatClampNeg))
  · rw [if_neg h1]
    refine ev_iload_n d_Mod_keep_118 rfl rfl ?_
    refine ev_goto (tgt := 128) d_Mod_keep_119 rfl ?_
    exact ev_pick [0, 1, 2, 3] rfl (e_B_Mod_keep_128   r28 hr28 r x1 x2 x3 x1 x3)
def B_Mod_keep_93  (r28 : RS → Int32 → Int32 → Int32 → Option (Unit × RS)) (r : RS) (x1 : Int32) (x3 : Int32) (x4 : Int32) (t0 : Int32) : Option (Unit × RS) :=
  if inB ((40 * x1) + x3) 2440 then (B_Mod_keep_109  r28 (rSTab r (upd (rTab r) ((40 * x1) + x3).toNatClampNeg (x4 + 1))) x1 t0 x3) else none
theorem e_B_Mod_keep_93 {sc : Nat × (Nat → Int32)} {d : DS} {f : FS} {w : WS} {m : MS} {s : SS} {g : GS} {tl : List mn_E}  (r28 : RS → Int32 → Int32 → Int32 → Option (Unit × RS)) (hr28 : ∀ (r : RS) (x1 : Int32) (x2 : Int32) (x3 : Int32), Ev sc 3 47 0 0 M_Mod_keep 28 [(0, .ref 12), (1, .int x1), (2, .int x2), (3, .int x3)] [] (eLV :: (HD d (HF f (HW w (HM m (HS s (HG g (HR r tl)))))))) (mapR ouV (fun z => (eLV :: (HD d (HF f (HW w (HM m (HS s (HG g (HR z tl))))))))) (r28 r x1 x2 x3))) (r : RS) (x1 : Int32) (x3 : Int32) (x4 : Int32) (t0 : Int32) : Ev sc 3 47 0 0 M_Mod_keep 93 [(0, .ref 12), (1, .int x1), (3, .int x3), (4, .int x4)] [.int t0] (eLV :: (HD d (HF f (HW w (HM m (HS s (HG g (HR r tl)))))))) (mapR ouV (fun z => (eLV :: (HD d (HF f (HW w (HM m (HS s (HG g (HR z tl))))))))) (B_Mod_keep_93 r28 r x1 x3 x4 t0)) := by
  unfold B_Mod_keep_93
  refine ev_istore_n d_Mod_keep_93 rfl (by decide) rfl ?_
  refine ev_aload_n d_Mod_keep_94 rfl rfl ?_
  refine ev_get (v := .ref 24) gi_Mod (ci := 6) rfl rfl 24 (by decide) gw_1025 rfl d_Mod_keep_95 ?_
  refine ev_bipush (v := 40) d_Mod_keep_98 rfl ?_
  refine ev_iload_n d_Mod_keep_100 rfl rfl ?_
  refine ev_imul d_Mod_keep_101 ?_
  refine ev_iload_n d_Mod_keep_102 rfl rfl ?_
  refine ev_iadd d_Mod_keep_103 ?_
  refine ev_iload d_Mod_keep_104 rfl ?_
  refine ev_iconst (v := 1) d_Mod_keep_106 rfl ?_
  refine ev_iadd d_Mod_keep_107 ?_
  refine ev_inB (fun h1 => ?_)
  refine ev_iastore (h2 := (eLV :: (HD d (HF f (HW w (HM m (HS s (HG g (HR (rSTab r (upd (rTab r) ((40 * x1) + x3).toNatClampNeg (x4 + 1))) tl))))))))) rfl (inB_of h1) rfl d_Mod_keep_108 ?_
  exact ev_pick [1, 2, 0, 3] rfl (e_B_Mod_keep_109   r28 hr28 (rSTab r (upd (rTab r) ((40 * x1) + x3).toNatClampNeg (x4 + 1))) x1 t0 x3)
def B_Mod_keep_81  (r28 : RS → Int32 → Int32 → Int32 → Option (Unit × RS)) (r : RS) (x1 : Int32) (x3 : Int32) (t0 : Int32) : Option (Unit × RS) :=
  if t0 < 0 then (B_Mod_keep_93  r28 r x1 x3 t0 0) else (B_Mod_keep_93  r28 r x1 x3 t0 1)
theorem e_B_Mod_keep_81 {sc : Nat × (Nat → Int32)} {d : DS} {f : FS} {w : WS} {m : MS} {s : SS} {g : GS} {tl : List mn_E}  (r28 : RS → Int32 → Int32 → Int32 → Option (Unit × RS)) (hr28 : ∀ (r : RS) (x1 : Int32) (x2 : Int32) (x3 : Int32), Ev sc 3 47 0 0 M_Mod_keep 28 [(0, .ref 12), (1, .int x1), (2, .int x2), (3, .int x3)] [] (eLV :: (HD d (HF f (HW w (HM m (HS s (HG g (HR r tl)))))))) (mapR ouV (fun z => (eLV :: (HD d (HF f (HW w (HM m (HS s (HG g (HR z tl))))))))) (r28 r x1 x2 x3))) (r : RS) (x1 : Int32) (x3 : Int32) (t0 : Int32) : Ev sc 3 47 0 0 M_Mod_keep 81 [(0, .ref 12), (1, .int x1), (3, .int x3)] [.int t0] (eLV :: (HD d (HF f (HW w (HM m (HS s (HG g (HR r tl)))))))) (mapR ouV (fun z => (eLV :: (HD d (HF f (HW w (HM m (HS s (HG g (HR z tl))))))))) (B_Mod_keep_81 r28 r x1 x3 t0)) := by
  unfold B_Mod_keep_81
  refine ev_istore d_Mod_keep_81 (by decide) rfl ?_
  refine ev_iload d_Mod_keep_83 rfl ?_
  refine ev_if_lt (tgt := 92) d_Mod_keep_85 rfl (fun h1 => ?_) (fun h1 => ?_)
  · rw [if_pos h1]
    refine ev_iconst (v := 0) d_Mod_keep_92 rfl ?_
    exact ev_pick [1, 2, 3, 0] rfl (e_B_Mod_keep_93   r28 hr28 r x1 x3 t0 0)
  · rw [if_neg h1]
    refine ev_iconst (v := 1) d_Mod_keep_88 rfl ?_
    refine ev_goto (tgt := 93) d_Mod_keep_89 rfl ?_
    exact ev_pick [1, 2, 3, 0] rfl (e_B_Mod_keep_93   r28 hr28 r x1 x3 t0 1)
def B_Mod_keep_71  (r28 : RS → Int32 → Int32 → Int32 → Option (Unit × RS)) (r : RS) (x1 : Int32) (x3 : Int32) : Option (Unit × RS) :=
  B_Mod_keep_81  r28 r x1 x3 (-1)
theorem e_B_Mod_keep_71 {sc : Nat × (Nat → Int32)} {d : DS} {f : FS} {w : WS} {m : MS} {s : SS} {g : GS} {tl : List mn_E}  (r28 : RS → Int32 → Int32 → Int32 → Option (Unit × RS)) (hr28 : ∀ (r : RS) (x1 : Int32) (x2 : Int32) (x3 : Int32), Ev sc 3 47 0 0 M_Mod_keep 28 [(0, .ref 12), (1, .int x1), (2, .int x2), (3, .int x3)] [] (eLV :: (HD d (HF f (HW w (HM m (HS s (HG g (HR r tl)))))))) (mapR ouV (fun z => (eLV :: (HD d (HF f (HW w (HM m (HS s (HG g (HR z tl))))))))) (r28 r x1 x2 x3))) (r : RS) (x1 : Int32) (x3 : Int32) : Ev sc 3 47 0 0 M_Mod_keep 71 [(0, .ref 12), (1, .int x1), (3, .int x3)] [] (eLV :: (HD d (HF f (HW w (HM m (HS s (HG g (HR r tl)))))))) (mapR ouV (fun z => (eLV :: (HD d (HF f (HW w (HM m (HS s (HG g (HR z tl))))))))) (B_Mod_keep_71 r28 r x1 x3)) := by
  unfold B_Mod_keep_71
  refine ev_iconst (v := -1) d_Mod_keep_71 rfl ?_
  refine ev_goto (tgt := 81) d_Mod_keep_72 rfl ?_
  exact ev_pick [0, 1, 2] rfl (e_B_Mod_keep_81   r28 hr28 r x1 x3 (-1))
def B_Mod_keep_75  (r28 : RS → Int32 → Int32 → Int32 → Option (Unit × RS)) (r : RS) (x1 : Int32) (x3 : Int32) : Option (Unit × RS) :=
  bnd (f_Mod_search r x1 x3) (fun q => B_Mod_keep_81  r28 r x1 x3 q.1)
theorem e_B_Mod_keep_75 {sc : Nat × (Nat → Int32)} {d : DS} {f : FS} {w : WS} {m : MS} {s : SS} {g : GS} {tl : List mn_E}  (r28 : RS → Int32 → Int32 → Int32 → Option (Unit × RS)) (hr28 : ∀ (r : RS) (x1 : Int32) (x2 : Int32) (x3 : Int32), Ev sc 3 47 0 0 M_Mod_keep 28 [(0, .ref 12), (1, .int x1), (2, .int x2), (3, .int x3)] [] (eLV :: (HD d (HF f (HW w (HM m (HS s (HG g (HR r tl)))))))) (mapR ouV (fun z => (eLV :: (HD d (HF f (HW w (HM m (HS s (HG g (HR z tl))))))))) (r28 r x1 x2 x3))) (r : RS) (x1 : Int32) (x3 : Int32) : Ev sc 3 47 0 0 M_Mod_keep 75 [(0, .ref 12), (1, .int x1), (3, .int x3)] [] (eLV :: (HD d (HF f (HW w (HM m (HS s (HG g (HR r tl)))))))) (mapR ouV (fun z => (eLV :: (HD d (HF f (HW w (HM m (HS s (HG g (HR z tl))))))))) (B_Mod_keep_75 r28 r x1 x3)) := by
  unfold B_Mod_keep_75
  refine ev_aload_n d_Mod_keep_75 rfl rfl ?_
  refine ev_iload_n d_Mod_keep_76 rfl rfl ?_
  refine ev_iload_n d_Mod_keep_77 rfl rfl ?_
  refine ev_callB (rc := (f_Mod_search r x1 x3)) (ou := ouI) (Hs := (fun z => (eLV :: (HD d (HF f (HW w (HM m (HS s (HG g (HR r tl)))))))))) (inv_V (q := 12) (av := [.int x1, .int x3]) (rest := []) rfl (ci := 6) rfl d_Mod_keep_78 gw_1119 gw_1121 gw_53 mw_Mod_search nh_Mod_search pn_Mod_search rfl) d_Mod_keep_78 pl_Mod_search (Nat.le_of_ble_eq_true rfl) (Nat.le_of_ble_eq_true rfl) (Nat.le_of_ble_eq_true rfl) (e_f_Mod_search (tl := tl) (d := d) (f := f) (w := w) (m := m) (s := s) (g := g)  r x1 x3) (fun _ => (len1 (lenHD (lenHF (lenHW (lenHM (lenHS (lenHG (lenHR rfl))))))))) (fun v z h1 => ⟨_, rfl, ?_⟩)
  exact ev_pick [0, 1, 2] rfl (e_B_Mod_keep_81   r28 hr28 r x1 x3 v)
def B_Mod_keep_65  (r28 : RS → Int32 → Int32 → Int32 → Option (Unit × RS)) (r : RS) (x1 : Int32) (x3 : Int32) (t1 : Int32) : Option (Unit × RS) :=
  if inB t1 40 then (if 8 ≤ (rUse r t1.toNatClampNeg) then (B_Mod_keep_75  r28 r x1 x3) else (B_Mod_keep_71  r28 r x1 x3)) else none
theorem e_B_Mod_keep_65 {sc : Nat × (Nat → Int32)} {d : DS} {f : FS} {w : WS} {m : MS} {s : SS} {g : GS} {tl : List mn_E}  (r28 : RS → Int32 → Int32 → Int32 → Option (Unit × RS)) (hr28 : ∀ (r : RS) (x1 : Int32) (x2 : Int32) (x3 : Int32), Ev sc 3 47 0 0 M_Mod_keep 28 [(0, .ref 12), (1, .int x1), (2, .int x2), (3, .int x3)] [] (eLV :: (HD d (HF f (HW w (HM m (HS s (HG g (HR r tl)))))))) (mapR ouV (fun z => (eLV :: (HD d (HF f (HW w (HM m (HS s (HG g (HR z tl))))))))) (r28 r x1 x2 x3))) (r : RS) (x1 : Int32) (x3 : Int32) (t1 : Int32) : Ev sc 3 47 0 0 M_Mod_keep 65 [(0, .ref 12), (1, .int x1), (3, .int x3)] [.int t1, .ref 15] (eLV :: (HD d (HF f (HW w (HM m (HS s (HG g (HR r tl)))))))) (mapR ouV (fun z => (eLV :: (HD d (HF f (HW w (HM m (HS s (HG g (HR z tl))))))))) (B_Mod_keep_65 r28 r x1 x3 t1)) := by
  unfold B_Mod_keep_65
  refine ev_inB (fun h1 => ?_)
  refine ev_iaload rfl (inB_of h1) d_Mod_keep_65 ?_
  refine ev_bipush (v := 8) d_Mod_keep_66 rfl ?_
  refine ev_icmp_ge (tgt := 75) d_Mod_keep_68 rfl (fun h2 => ?_) (fun h2 => ?_)
  · rw [if_pos h2]
    exact ev_pick [0, 1, 2] rfl (e_B_Mod_keep_75   r28 hr28 r x1 x3)
  · rw [if_neg h2]
    exact ev_pick [0, 1, 2] rfl (e_B_Mod_keep_71   r28 hr28 r x1 x3)
def B_Mod_keep_48  (r28 : RS → Int32 → Int32 → Int32 → Option (Unit × RS)) (r : RS) (x1 : Int32) (x3 : Int32) : Option (Unit × RS) :=
  if x3 ≤ 1 then (B_Mod_keep_75  r28 r x1 x3) else (bnd (f_Mod_pageAt r x1 (x3 - 1)) (fun q => B_Mod_keep_65  r28 r x1 x3 q.1))
theorem e_B_Mod_keep_48 {sc : Nat × (Nat → Int32)} {d : DS} {f : FS} {w : WS} {m : MS} {s : SS} {g : GS} {tl : List mn_E}  (r28 : RS → Int32 → Int32 → Int32 → Option (Unit × RS)) (hr28 : ∀ (r : RS) (x1 : Int32) (x2 : Int32) (x3 : Int32), Ev sc 3 47 0 0 M_Mod_keep 28 [(0, .ref 12), (1, .int x1), (2, .int x2), (3, .int x3)] [] (eLV :: (HD d (HF f (HW w (HM m (HS s (HG g (HR r tl)))))))) (mapR ouV (fun z => (eLV :: (HD d (HF f (HW w (HM m (HS s (HG g (HR z tl))))))))) (r28 r x1 x2 x3))) (r : RS) (x1 : Int32) (x3 : Int32) : Ev sc 3 47 0 0 M_Mod_keep 48 [(0, .ref 12), (1, .int x1), (3, .int x3)] [] (eLV :: (HD d (HF f (HW w (HM m (HS s (HG g (HR r tl)))))))) (mapR ouV (fun z => (eLV :: (HD d (HF f (HW w (HM m (HS s (HG g (HR z tl))))))))) (B_Mod_keep_48 r28 r x1 x3)) := by
  unfold B_Mod_keep_48
  refine ev_iload_n d_Mod_keep_48 rfl rfl ?_
  refine ev_iconst (v := 1) d_Mod_keep_49 rfl ?_
  refine ev_icmp_le (tgt := 75) d_Mod_keep_50 rfl (fun h1 => ?_) (fun h1 => ?_)
  · rw [if_pos h1]
    exact ev_pick [0, 1, 2] rfl (e_B_Mod_keep_75   r28 hr28 r x1 x3)
  · rw [if_neg h1]
    refine ev_aload_n d_Mod_keep_53 rfl rfl ?_
    refine ev_get (v := .ref 15) gi_Mod (ci := 6) rfl rfl 4 (by decide) gw_1005 rfl d_Mod_keep_54 ?_
    refine ev_aload_n d_Mod_keep_57 rfl rfl ?_
    refine ev_iload_n d_Mod_keep_58 rfl rfl ?_
    refine ev_iload_n d_Mod_keep_59 rfl rfl ?_
    refine ev_iconst (v := 1) d_Mod_keep_60 rfl ?_
    refine ev_isub d_Mod_keep_61 ?_
    refine ev_callB (rc := (f_Mod_pageAt r x1 (x3 - 1))) (ou := ouI) (Hs := (fun z => (eLV :: (HD d (HF f (HW w (HM m (HS s (HG g (HR r tl)))))))))) (inv_V (q := 12) (av := [.int x1, .int (x3 - 1)]) (rest := [.ref 15]) rfl (ci := 6) rfl d_Mod_keep_62 gw_1267 gw_1269 gw_82 mw_Mod_pageAt nh_Mod_pageAt pn_Mod_pageAt rfl) d_Mod_keep_62 pl_Mod_pageAt (Nat.le_of_ble_eq_true rfl) (Nat.le_of_ble_eq_true rfl) (Nat.le_of_ble_eq_true rfl) (e_f_Mod_pageAt (tl := tl) (d := d) (f := f) (w := w) (m := m) (s := s) (g := g)  r x1 (x3 - 1)) (fun _ => (len1 (lenHD (lenHF (lenHW (lenHM (lenHS (lenHG (lenHR rfl))))))))) (fun v z h2 => ⟨_, rfl, ?_⟩)
    exact ev_pick [0, 1, 2] rfl (e_B_Mod_keep_65   r28 hr28 r x1 x3 v)
def L_Mod_keep_28   : Nat → RS → Int32 → Int32 → Int32 → Option (Unit × RS)
  | 0, _, _, _, _ => none
  | n + 1, r, x1, x2, x3 =>
  if 40 ≤ x3 then (some ((), r)) else (if x2 = 0 then (some ((), r)) else (if ¬ x1 = 2 then (B_Mod_keep_48  (L_Mod_keep_28 n) r x1 x3) else (if 1 < x3 then (B_Mod_keep_71  (L_Mod_keep_28 n) r x1 x3) else (B_Mod_keep_48  (L_Mod_keep_28 n) r x1 x3))))
theorem e_L_Mod_keep_28 {sc : Nat × (Nat → Int32)} {d : DS} {f : FS} {w : WS} {m : MS} {s : SS} {g : GS} {tl : List mn_E}    : ∀ (n : Nat) (r : RS) (x1 : Int32) (x2 : Int32) (x3 : Int32), Ev sc 3 47 0 0 M_Mod_keep 28 [(0, .ref 12), (1, .int x1), (2, .int x2), (3, .int x3)] [] (eLV :: (HD d (HF f (HW w (HM m (HS s (HG g (HR r tl)))))))) (mapR ouV (fun z => (eLV :: (HD d (HF f (HW w (HM m (HS s (HG g (HR z tl))))))))) (L_Mod_keep_28   n r x1 x2 x3)) := by
  intro n
  induction n with
  | zero => intro r x1 x2 x3; exact ev_none
  | succ n ih =>
    intro r x1 x2 x3
    rw [L_Mod_keep_28]
    refine ev_iload_n d_Mod_keep_28 rfl rfl ?_
    refine ev_bipush (v := 40) d_Mod_keep_29 rfl ?_
    refine ev_icmp_ge (tgt := 135) d_Mod_keep_31 rfl (fun h1 => ?_) (fun h1 => ?_)
    · rw [if_pos h1]
      exact ev_vret rfl d_Mod_keep_135
    · rw [if_neg h1]
      refine ev_iload_n d_Mod_keep_34 rfl rfl ?_
      refine ev_if_eq (tgt := 135) d_Mod_keep_35 rfl (fun h2 => ?_) (fun h2 => ?_)
      · rw [if_pos h2]
        exact ev_vret rfl d_Mod_keep_135
      · rw [if_neg h2]
        refine ev_iload_n d_Mod_keep_38 rfl rfl ?_
        refine ev_iconst (v := 2) d_Mod_keep_39 rfl ?_
        refine ev_icmp_ne (tgt := 48) d_Mod_keep_40 rfl (fun h3 => ?_) (fun h3 => ?_)
        · rw [if_pos h3]
          exact ev_pick [0, 1, 3] rfl (e_B_Mod_keep_48   (L_Mod_keep_28 n) ih r x1 x3)
        · rw [if_neg h3]
          refine ev_iload_n d_Mod_keep_43 rfl rfl ?_
          refine ev_iconst (v := 1) d_Mod_keep_44 rfl ?_
          refine ev_icmp_gt (tgt := 71) d_Mod_keep_45 rfl (fun h4 => ?_) (fun h4 => ?_)
          · rw [if_pos h4]
            exact ev_pick [0, 1, 3] rfl (e_B_Mod_keep_71   (L_Mod_keep_28 n) ih r x1 x3)
          · rw [if_neg h4]
            exact ev_pick [0, 1, 3] rfl (e_B_Mod_keep_48   (L_Mod_keep_28 n) ih r x1 x3)
def B_Mod_keep_24   (r : RS) (x1 : Int32) : Option (Unit × RS) :=
  L_Mod_keep_28   1000 r x1 1 1
theorem e_B_Mod_keep_24 {sc : Nat × (Nat → Int32)} {d : DS} {f : FS} {w : WS} {m : MS} {s : SS} {g : GS} {tl : List mn_E}    (r : RS) (x1 : Int32) : Ev sc 3 47 0 0 M_Mod_keep 24 [(0, .ref 12), (1, .int x1)] [] (eLV :: (HD d (HF f (HW w (HM m (HS s (HG g (HR r tl)))))))) (mapR ouV (fun z => (eLV :: (HD d (HF f (HW w (HM m (HS s (HG g (HR z tl))))))))) (B_Mod_keep_24 r x1)) := by
  unfold B_Mod_keep_24
  refine ev_iconst (v := 1) d_Mod_keep_24 rfl ?_
  refine ev_istore_n d_Mod_keep_25 rfl (by decide) rfl ?_
  refine ev_iconst (v := 1) d_Mod_keep_26 rfl ?_
  refine ev_istore_n d_Mod_keep_27 rfl (by decide) rfl ?_
  exact ev_pick [2, 3, 1, 0] rfl (e_L_Mod_keep_28     1000 r x1 1 1)
def B_Mod_keep_17   (r : RS) (x1 : Int32) : Option (Unit × RS) :=
  if inB x1 61 then (B_Mod_keep_24   (rSMan r (upd (rMan r) x1.toNatClampNeg 0)) x1) else none
theorem e_B_Mod_keep_17 {sc : Nat × (Nat → Int32)} {d : DS} {f : FS} {w : WS} {m : MS} {s : SS} {g : GS} {tl : List mn_E}    (r : RS) (x1 : Int32) : Ev sc 3 47 0 0 M_Mod_keep 17 [(0, .ref 12), (1, .int x1)] [] (eLV :: (HD d (HF f (HW w (HM m (HS s (HG g (HR r tl)))))))) (mapR ouV (fun z => (eLV :: (HD d (HF f (HW w (HM m (HS s (HG g (HR z tl))))))))) (B_Mod_keep_17 r x1)) := by
  unfold B_Mod_keep_17
  refine ev_aload_n d_Mod_keep_17 rfl rfl ?_
  refine ev_get (v := .ref 25) gi_Mod (ci := 6) rfl rfl 25 (by decide) gw_1026 rfl d_Mod_keep_18 ?_
  refine ev_iload_n d_Mod_keep_21 rfl rfl ?_
  refine ev_iconst (v := 0) d_Mod_keep_22 rfl ?_
  refine ev_inB (fun h1 => ?_)
  refine ev_iastore (h2 := (eLV :: (HD d (HF f (HW w (HM m (HS s (HG g (HR (rSMan r (upd (rMan r) x1.toNatClampNeg 0)) tl))))))))) rfl (inB_of h1) rfl d_Mod_keep_23 ?_
  exact ev_pick [0, 1] rfl (e_B_Mod_keep_24     (rSMan r (upd (rMan r) x1.toNatClampNeg 0)) x1)
def B_Mod_keep_14   (r : RS) (x1 : Int32) (t1 : Int32) (t2 : Int32) : Option (Unit × RS) :=
  if inB t1 2440 then (B_Mod_keep_17   (rSTab r (upd (rTab r) t1.toNatClampNeg (t2 + 1))) x1) else none
theorem e_B_Mod_keep_14 {sc : Nat × (Nat → Int32)} {d : DS} {f : FS} {w : WS} {m : MS} {s : SS} {g : GS} {tl : List mn_E}    (r : RS) (x1 : Int32) (t1 : Int32) (t2 : Int32) : Ev sc 3 47 0 0 M_Mod_keep 14 [(0, .ref 12), (1, .int x1)] [.int t2, .int t1, .ref 24] (eLV :: (HD d (HF f (HW w (HM m (HS s (HG g (HR r tl)))))))) (mapR ouV (fun z => (eLV :: (HD d (HF f (HW w (HM m (HS s (HG g (HR z tl))))))))) (B_Mod_keep_14 r x1 t1 t2)) := by
  unfold B_Mod_keep_14
  refine ev_iconst (v := 1) d_Mod_keep_14 rfl ?_
  refine ev_iadd d_Mod_keep_15 ?_
  refine ev_inB (fun h1 => ?_)
  refine ev_iastore (h2 := (eLV :: (HD d (HF f (HW w (HM m (HS s (HG g (HR (rSTab r (upd (rTab r) t1.toNatClampNeg (t2 + 1))) tl))))))))) rfl (inB_of h1) rfl d_Mod_keep_16 ?_
  exact ev_pick [0, 1] rfl (e_B_Mod_keep_17     (rSTab r (upd (rTab r) t1.toNatClampNeg (t2 + 1))) x1)
def f_Mod_keep   (r : RS) (x1 : Int32) : Option (Unit × RS) :=
  bnd (f_Mod_search r x1 0) (fun q => B_Mod_keep_14   r x1 (40 * x1) q.1)
theorem e_f_Mod_keep {sc : Nat × (Nat → Int32)} {d : DS} {f : FS} {w : WS} {m : MS} {s : SS} {g : GS} {tl : List mn_E}    (r : RS) (x1 : Int32) : Ev sc 3 47 0 0 M_Mod_keep 0 [(0, .ref 12), (1, .int x1)] [] (eLV :: (HD d (HF f (HW w (HM m (HS s (HG g (HR r tl)))))))) (mapR ouV (fun z => (eLV :: (HD d (HF f (HW w (HM m (HS s (HG g (HR z tl))))))))) (f_Mod_keep r x1)) := by
  unfold f_Mod_keep
  refine ev_aload_n d_Mod_keep_0 rfl rfl ?_
  refine ev_get (v := .ref 24) gi_Mod (ci := 6) rfl rfl 24 (by decide) gw_1025 rfl d_Mod_keep_1 ?_
  refine ev_bipush (v := 40) d_Mod_keep_4 rfl ?_
  refine ev_iload_n d_Mod_keep_6 rfl rfl ?_
  refine ev_imul d_Mod_keep_7 ?_
  refine ev_aload_n d_Mod_keep_8 rfl rfl ?_
  refine ev_iload_n d_Mod_keep_9 rfl rfl ?_
  refine ev_iconst (v := 0) d_Mod_keep_10 rfl ?_
  refine ev_callB (rc := (f_Mod_search r x1 0)) (ou := ouI) (Hs := (fun z => (eLV :: (HD d (HF f (HW w (HM m (HS s (HG g (HR r tl)))))))))) (inv_V (q := 12) (av := [.int x1, .int 0]) (rest := [.int (40 * x1), .ref 24]) rfl (ci := 6) rfl d_Mod_keep_11 gw_1119 gw_1121 gw_53 mw_Mod_search nh_Mod_search pn_Mod_search rfl) d_Mod_keep_11 pl_Mod_search (Nat.le_of_ble_eq_true rfl) (Nat.le_of_ble_eq_true rfl) (Nat.le_of_ble_eq_true rfl) (e_f_Mod_search (tl := tl) (d := d) (f := f) (w := w) (m := m) (s := s) (g := g)  r x1 0) (fun _ => (len1 (lenHD (lenHF (lenHW (lenHM (lenHS (lenHG (lenHR rfl))))))))) (fun v z h1 => ⟨_, rfl, ?_⟩)
  exact ev_pick [0, 1] rfl (e_B_Mod_keep_14     r x1 (40 * x1) v)
def B_Mod_isKept_55   (r : RS) : Option (Int32 × Unit) :=
  some (0, ())
theorem e_B_Mod_isKept_55 {sc : Nat × (Nat → Int32)} {d : DS} {f : FS} {w : WS} {m : MS} {s : SS} {g : GS} {tl : List mn_E}    (r : RS) : Ev sc 1 14 0 0 M_Mod_isKept 55 [] [] (eLV :: (HD d (HF f (HW w (HM m (HS s (HG g (HR r tl)))))))) (mapR ouI (fun z => (eLV :: (HD d (HF f (HW w (HM m (HS s (HG g (HR r tl))))))))) (B_Mod_isKept_55 r)) := by
  unfold B_Mod_isKept_55
  refine ev_iconst (v := 0) d_Mod_isKept_55 rfl ?_
  exact ev_zret (ty := .boolean) rfl rfl d_Mod_isKept_56
def f_Mod_isKept   (r : RS) (x1 : Int32) : Option (Int32 × Unit) :=
  if inB x1 40 then (if inB x1 40 then (if ((f_Mod_in (rSer r x1.toNatClampNeg) 1 60).1) = 0 then (B_Mod_isKept_55   r) else (if inB (rSer r x1.toNatClampNeg) 61 then (if (rMan r (rSer r x1.toNatClampNeg).toNatClampNeg) < (rPag r x1.toNatClampNeg) then (B_Mod_isKept_55   r) else (if inB ((40 * (rSer r x1.toNatClampNeg)) + (rPag r x1.toNatClampNeg)) 2440 then (if ¬ (rTab r ((40 * (rSer r x1.toNatClampNeg)) + (rPag r x1.toNatClampNeg)).toNatClampNeg) = (x1 + 1) then (B_Mod_isKept_55   r) else (some (1, ()))) else none)) else none)) else none) else none
theorem e_f_Mod_isKept {sc : Nat × (Nat → Int32)} {d : DS} {f : FS} {w : WS} {m : MS} {s : SS} {g : GS} {tl : List mn_E}    (r : RS) (x1 : Int32) : Ev sc 1 14 0 0 M_Mod_isKept 0 [(0, .ref 12), (1, .int x1)] [] (eLV :: (HD d (HF f (HW w (HM m (HS s (HG g (HR r tl)))))))) (mapR ouI (fun z => (eLV :: (HD d (HF f (HW w (HM m (HS s (HG g (HR r tl))))))))) (f_Mod_isKept r x1)) := by
  unfold f_Mod_isKept
  refine ev_aload_n d_Mod_isKept_0 rfl rfl ?_
  refine ev_get (v := .ref 13) gi_Mod (ci := 6) rfl rfl 2 (by decide) gw_1003 rfl d_Mod_isKept_1 ?_
  refine ev_iload_n d_Mod_isKept_4 rfl rfl ?_
  refine ev_inB (fun h1 => ?_)
  refine ev_iaload rfl (inB_of h1) d_Mod_isKept_5 ?_
  refine ev_istore_n d_Mod_isKept_6 rfl (by decide) rfl ?_
  refine ev_aload_n d_Mod_isKept_7 rfl rfl ?_
  refine ev_get (v := .ref 14) gi_Mod (ci := 6) rfl rfl 3 (by decide) gw_1004 rfl d_Mod_isKept_8 ?_
  refine ev_iload_n d_Mod_isKept_11 rfl rfl ?_
  refine ev_inB (fun h2 => ?_)
  refine ev_iaload rfl (inB_of h2) d_Mod_isKept_12 ?_
  refine ev_istore_n d_Mod_isKept_13 rfl (by decide) rfl ?_
  refine ev_iload_n d_Mod_isKept_14 rfl rfl ?_
  refine ev_iconst (v := 1) d_Mod_isKept_15 rfl ?_
  refine ev_bipush (v := 60) d_Mod_isKept_16 rfl ?_
  refine ev_callr (Mc := M_Mod_in) (v := some (.int ((f_Mod_in (rSer r x1.toNatClampNeg) 1 60).1))) (h1 := (eLV :: (HD d (HF f (HW w (HM m (HS s (HG g (HR r tl))))))))) (k2 := 0) (n2 := 0) (inv_S (av := [.int (rSer r x1.toNatClampNeg), .int 1, .int 60]) (rest := []) d_Mod_isKept_18 gw_1108 gw_1109 gw_108 mw_Mod_in nh_Mod_in pn_Mod_in rfl) d_Mod_isKept_18 pl_Mod_in (Nat.le_of_ble_eq_true rfl) (Nat.le_of_ble_eq_true rfl) (Nat.le_of_ble_eq_true rfl) rfl rfl (e_f_Mod_in (hh := (eLV :: (HD d (HF f (HW w (HM m (HS s (HG g (HR r tl)))))))))   (rSer r x1.toNatClampNeg) 1 60) (Or.inl (len1 (lenHD (lenHF (lenHW (lenHM (lenHS (lenHG (lenHR rfl))))))))) ?_
  refine ev_if_eq (tgt := 55) d_Mod_isKept_21 rfl (fun h3 => ?_) (fun h3 => ?_)
  · rw [if_pos h3]
    exact ev_pick [] rfl (e_B_Mod_isKept_55     r)
  · rw [if_neg h3]
    refine ev_iload_n d_Mod_isKept_24 rfl rfl ?_
    refine ev_aload_n d_Mod_isKept_25 rfl rfl ?_
    refine ev_get (v := .ref 25) gi_Mod (ci := 6) rfl rfl 25 (by decide) gw_1026 rfl d_Mod_isKept_26 ?_
    refine ev_iload_n d_Mod_isKept_29 rfl rfl ?_
    refine ev_inB (fun h4 => ?_)
    refine ev_iaload rfl (inB_of h4) d_Mod_isKept_30 ?_
    refine ev_icmp_gt (tgt := 55) d_Mod_isKept_31 rfl (fun h5 => ?_) (fun h5 => ?_)
    · rw [if_pos h5]
      exact ev_pick [] rfl (e_B_Mod_isKept_55     r)
    · rw [if_neg h5]
      refine ev_aload_n d_Mod_isKept_34 rfl rfl ?_
      refine ev_get (v := .ref 24) gi_Mod (ci := 6) rfl rfl 24 (by decide) gw_1025 rfl d_Mod_isKept_35 ?_
      refine ev_bipush (v := 40) d_Mod_isKept_38 rfl ?_
      refine ev_iload_n d_Mod_isKept_40 rfl rfl ?_
      refine ev_imul d_Mod_isKept_41 ?_
      refine ev_iload_n d_Mod_isKept_42 rfl rfl ?_
      refine ev_iadd d_Mod_isKept_43 ?_
      refine ev_inB (fun h6 => ?_)
      refine ev_iaload rfl (inB_of h6) d_Mod_isKept_44 ?_
      refine ev_iload_n d_Mod_isKept_45 rfl rfl ?_
      refine ev_iconst (v := 1) d_Mod_isKept_46 rfl ?_
      refine ev_iadd d_Mod_isKept_47 ?_
      refine ev_icmp_ne (tgt := 55) d_Mod_isKept_48 rfl (fun h7 => ?_) (fun h7 => ?_)
      · rw [if_pos h7]
        exact ev_pick [] rfl (e_B_Mod_isKept_55     r)
      · rw [if_neg h7]
        refine ev_iconst (v := 1) d_Mod_isKept_51 rfl ?_
        refine ev_goto (tgt := 56) d_Mod_isKept_52 rfl ?_
        exact ev_zret (ty := .boolean) rfl rfl d_Mod_isKept_56
def B_Mod_losePages_35   (r : RS) : Option (Unit × RS) :=
  some ((), r)
theorem e_B_Mod_losePages_35 {sc : Nat × (Nat → Int32)} {d : DS} {f : FS} {w : WS} {m : MS} {s : SS} {g : GS} {tl : List mn_E}    (r : RS) : Ev sc 3 43 0 0 M_Mod_losePages 35 [] [] (eLV :: (HD d (HF f (HW w (HM m (HS s (HG g (HR r tl)))))))) (mapR ouV (fun z => (eLV :: (HD d (HF f (HW w (HM m (HS s (HG g (HR z tl))))))))) (B_Mod_losePages_35 r)) := by
  unfold B_Mod_losePages_35
  exact ev_vret rfl d_Mod_losePages_35
def B_Mod_losePages_22  (r2 : RS → Int32 → Int32 → Option (Unit × RS)) (r : RS) (x1 : Int32) (x2 : Int32) : Option (Unit × RS) :=
  r2 r x1 (x2 + 1)
theorem e_B_Mod_losePages_22 {sc : Nat × (Nat → Int32)} {d : DS} {f : FS} {w : WS} {m : MS} {s : SS} {g : GS} {tl : List mn_E}  (r2 : RS → Int32 → Int32 → Option (Unit × RS)) (hr2 : ∀ (r : RS) (x1 : Int32) (x2 : Int32), Ev sc 3 43 0 0 M_Mod_losePages 2 [(0, .ref 12), (1, .int x1), (2, .int x2)] [] (eLV :: (HD d (HF f (HW w (HM m (HS s (HG g (HR r tl)))))))) (mapR ouV (fun z => (eLV :: (HD d (HF f (HW w (HM m (HS s (HG g (HR z tl))))))))) (r2 r x1 x2))) (r : RS) (x1 : Int32) (x2 : Int32) : Ev sc 3 43 0 0 M_Mod_losePages 22 [(0, .ref 12), (1, .int x1), (2, .int x2)] [] (eLV :: (HD d (HF f (HW w (HM m (HS s (HG g (HR r tl)))))))) (mapR ouV (fun z => (eLV :: (HD d (HF f (HW w (HM m (HS s (HG g (HR z tl))))))))) (B_Mod_losePages_22 r2 r x1 x2)) := by
  unfold B_Mod_losePages_22
  refine ev_iinc (v := (x2 + 1)) d_Mod_losePages_22 rfl rfl (by decide) rfl ?_
  refine ev_goto (tgt := 2) d_Mod_losePages_25 rfl ?_
  exact ev_pick [1, 2, 0] rfl (hr2 r x1 (x2 + 1))
def B_Mod_losePages_19  (r2 : RS → Int32 → Int32 → Option (Unit × RS)) (r : RS) (x1 : Int32) (x2 : Int32) (t1 : Int32) : Option (Unit × RS) :=
  bnd (f_Mod_lose r t1) (fun q => B_Mod_losePages_22  r2 q.2 x1 x2)
theorem e_B_Mod_losePages_19 {sc : Nat × (Nat → Int32)} {d : DS} {f : FS} {w : WS} {m : MS} {s : SS} {g : GS} {tl : List mn_E}  (r2 : RS → Int32 → Int32 → Option (Unit × RS)) (hr2 : ∀ (r : RS) (x1 : Int32) (x2 : Int32), Ev sc 3 43 0 0 M_Mod_losePages 2 [(0, .ref 12), (1, .int x1), (2, .int x2)] [] (eLV :: (HD d (HF f (HW w (HM m (HS s (HG g (HR r tl)))))))) (mapR ouV (fun z => (eLV :: (HD d (HF f (HW w (HM m (HS s (HG g (HR z tl))))))))) (r2 r x1 x2))) (r : RS) (x1 : Int32) (x2 : Int32) (t1 : Int32) : Ev sc 3 43 0 0 M_Mod_losePages 19 [(0, .ref 12), (1, .int x1), (2, .int x2)] [.int t1, .ref 12] (eLV :: (HD d (HF f (HW w (HM m (HS s (HG g (HR r tl)))))))) (mapR ouV (fun z => (eLV :: (HD d (HF f (HW w (HM m (HS s (HG g (HR z tl))))))))) (B_Mod_losePages_19 r2 r x1 x2 t1)) := by
  unfold B_Mod_losePages_19
  refine ev_callB (rc := (f_Mod_lose r t1)) (ou := ouV) (Hs := (fun z => (eLV :: (HD d (HF f (HW w (HM m (HS s (HG g (HR z tl)))))))))) (inv_V (q := 12) (av := [.int t1]) (rest := []) rfl (ci := 6) rfl d_Mod_losePages_19 gw_1275 gw_1277 gw_84 mw_Mod_lose nh_Mod_lose pn_Mod_lose rfl) d_Mod_losePages_19 pl_Mod_lose (Nat.le_of_ble_eq_true rfl) (Nat.le_of_ble_eq_true rfl) (Nat.le_of_ble_eq_true rfl) (e_f_Mod_lose (tl := tl) (d := d) (f := f) (w := w) (m := m) (s := s) (g := g)  r t1) (fun _ => (len1 (lenHD (lenHF (lenHW (lenHM (lenHS (lenHG (lenHR rfl))))))))) (fun v z h1 => ⟨_, rfl, ?_⟩)
  exact ev_pick [0, 1, 2] rfl (e_B_Mod_losePages_22   r2 hr2 z x1 x2)
def L_Mod_losePages_2   : Nat → RS → Int32 → Int32 → Option (Unit × RS)
  | 0, _, _, _ => none
  | n + 1, r, x1, x2 =>
  if inB x1 61 then (if (rMan r x1.toNatClampNeg) < x2 then (if inB x1 61 then (B_Mod_losePages_35   (rSMan r (upd (rMan r) x1.toNatClampNeg 0))) else none) else (bnd (f_Mod_pageAt r x1 x2) (fun q => B_Mod_losePages_19  (L_Mod_losePages_2 n) r x1 x2 q.1))) else none
theorem e_L_Mod_losePages_2 {sc : Nat × (Nat → Int32)} {d : DS} {f : FS} {w : WS} {m : MS} {s : SS} {g : GS} {tl : List mn_E}    : ∀ (n : Nat) (r : RS) (x1 : Int32) (x2 : Int32), Ev sc 3 43 0 0 M_Mod_losePages 2 [(0, .ref 12), (1, .int x1), (2, .int x2)] [] (eLV :: (HD d (HF f (HW w (HM m (HS s (HG g (HR r tl)))))))) (mapR ouV (fun z => (eLV :: (HD d (HF f (HW w (HM m (HS s (HG g (HR z tl))))))))) (L_Mod_losePages_2   n r x1 x2)) := by
  intro n
  induction n with
  | zero => intro r x1 x2; exact ev_none
  | succ n ih =>
    intro r x1 x2
    rw [L_Mod_losePages_2]
    refine ev_iload_n d_Mod_losePages_2 rfl rfl ?_
    refine ev_aload_n d_Mod_losePages_3 rfl rfl ?_
    refine ev_get (v := .ref 25) gi_Mod (ci := 6) rfl rfl 25 (by decide) gw_1026 rfl d_Mod_losePages_4 ?_
    refine ev_iload_n d_Mod_losePages_7 rfl rfl ?_
    refine ev_inB (fun h1 => ?_)
    refine ev_iaload rfl (inB_of h1) d_Mod_losePages_8 ?_
    refine ev_icmp_gt (tgt := 28) d_Mod_losePages_9 rfl (fun h2 => ?_) (fun h2 => ?_)
    · rw [if_pos h2]
      refine ev_aload_n d_Mod_losePages_28 rfl rfl ?_
      refine ev_get (v := .ref 25) gi_Mod (ci := 6) rfl rfl 25 (by decide) gw_1026 rfl d_Mod_losePages_29 ?_
      refine ev_iload_n d_Mod_losePages_32 rfl rfl ?_
      refine ev_iconst (v := 0) d_Mod_losePages_33 rfl ?_
      refine ev_inB (fun h3 => ?_)
      refine ev_iastore (h2 := (eLV :: (HD d (HF f (HW w (HM m (HS s (HG g (HR (rSMan r (upd (rMan r) x1.toNatClampNeg 0)) tl))))))))) rfl (inB_of h3) rfl d_Mod_losePages_34 ?_
      exact ev_pick [] rfl (e_B_Mod_losePages_35     (rSMan r (upd (rMan r) x1.toNatClampNeg 0)))
    · rw [if_neg h2]
      refine ev_aload_n d_Mod_losePages_12 rfl rfl ?_
      refine ev_aload_n d_Mod_losePages_13 rfl rfl ?_
      refine ev_iload_n d_Mod_losePages_14 rfl rfl ?_
      refine ev_iload_n d_Mod_losePages_15 rfl rfl ?_
      refine ev_callB (rc := (f_Mod_pageAt r x1 x2)) (ou := ouI) (Hs := (fun z => (eLV :: (HD d (HF f (HW w (HM m (HS s (HG g (HR r tl)))))))))) (inv_V (q := 12) (av := [.int x1, .int x2]) (rest := [.ref 12]) rfl (ci := 6) rfl d_Mod_losePages_16 gw_1267 gw_1269 gw_82 mw_Mod_pageAt nh_Mod_pageAt pn_Mod_pageAt rfl) d_Mod_losePages_16 pl_Mod_pageAt (Nat.le_of_ble_eq_true rfl) (Nat.le_of_ble_eq_true rfl) (Nat.le_of_ble_eq_true rfl) (e_f_Mod_pageAt (tl := tl) (d := d) (f := f) (w := w) (m := m) (s := s) (g := g)  r x1 x2) (fun _ => (len1 (lenHD (lenHF (lenHW (lenHM (lenHS (lenHG (lenHR rfl))))))))) (fun v z h4 => ⟨_, rfl, ?_⟩)
      exact ev_pick [0, 1, 2] rfl (e_B_Mod_losePages_19   (L_Mod_losePages_2 n) ih r x1 x2 v)
def f_Mod_losePages   (r : RS) (x1 : Int32) : Option (Unit × RS) :=
  L_Mod_losePages_2   1000 r x1 1
theorem e_f_Mod_losePages {sc : Nat × (Nat → Int32)} {d : DS} {f : FS} {w : WS} {m : MS} {s : SS} {g : GS} {tl : List mn_E}    (r : RS) (x1 : Int32) : Ev sc 3 43 0 0 M_Mod_losePages 0 [(0, .ref 12), (1, .int x1)] [] (eLV :: (HD d (HF f (HW w (HM m (HS s (HG g (HR r tl)))))))) (mapR ouV (fun z => (eLV :: (HD d (HF f (HW w (HM m (HS s (HG g (HR z tl))))))))) (f_Mod_losePages r x1)) := by
  unfold f_Mod_losePages
  refine ev_iconst (v := 1) d_Mod_losePages_0 rfl ?_
  refine ev_istore_n d_Mod_losePages_1 rfl (by decide) rfl ?_
  exact ev_pick [1, 2, 0] rfl (e_L_Mod_losePages_2     1000 r x1 1)
