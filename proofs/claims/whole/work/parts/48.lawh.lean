theorem hw_Law_create : ∀ q ∈ ([(13, 15, 1), (15, 19, 2), (17, 23, 3), (19, 27, 4)] : List mn_H), q.1 ≠ 0 ∧ (1 ≤ q.2.2 ∧ q.2.2 ≤ 5) ∧ Cond.classLink "LabelledVolumeLaw" q.1 (gd_ex q.2.2) ∈ gd_tb := by
  intro q hq
  simp only [List.mem_cons, List.not_mem_nil, or_false] at hq
  rcases hq with rfl | rfl | rfl | rfl
  · exact ⟨by decide, ⟨by decide, by decide⟩, gw_568⟩
  · exact ⟨by decide, ⟨by decide, by decide⟩, gw_569⟩
  · exact ⟨by decide, ⟨by decide, by decide⟩, gw_570⟩
  · exact ⟨by decide, ⟨by decide, by decide⟩, gw_571⟩
def f_Law_create   (d : DS) (f : FS) (w : WS) (m : MS) (s : SS) (g : GS) (r : RS) (o : OS) (x1 : Int32) (x2 : Int32) (x3 : Int32) : Option (Int32 × (DS × FS × WS × MS × OS)) :=
  bnd (f_LV_create d f w m s g x1 x2 x3) (fun q => thM q (fun x z => bnd (ctab [(1, 1), (2, 2), (3, 3), (4, 4)] x) (fun c => some (c, (z.1, z.2.1, z.2.2.1, z.2.2.2, o)))) (fun v z => if inB 0 1 then (some (0, (z.1, z.2.1, z.2.2.1, z.2.2.2, (oSOut o (vp_updL (oOut o) (0 : Int32).toNatClampNeg v.toInt64))))) else none))
theorem e_f_Law_create {sc : Nat × (Nat → Int32)} {tl : List mn_E}    (d : DS) (f : FS) (w : WS) (m : MS) (s : SS) (g : GS) (r : RS) (o : OS) (x1 : Int32) (x2 : Int32) (x3 : Int32) : Ev sc 11 159 1 6 M_Law_create 0 [(0, .ref 0), (1, .int x1), (2, .int x2), (3, .int x3), (4, .ref 30)] [] (eLV :: (HD d (HF f (HW w (HM m (HS s (HG g (HR r (HO o tl))))))))) (mapR ouI (fun z => (eLV :: (HD z.1 (HF z.2.1 (HW z.2.2.1 (HM z.2.2.2.1 (HS s (HG g (HR r (HO z.2.2.2.2 tl)))))))))) (f_Law_create d f w m s g r o x1 x2 x3)) := by
  unfold f_Law_create
  refine ev_aload d_Law_create_0 rfl ?_
  refine ev_iconst (v := 0) d_Law_create_2 rfl ?_
  refine ev_aload_n d_Law_create_3 rfl rfl ?_
  refine ev_iload_n d_Law_create_4 rfl rfl ?_
  refine ev_iload_n d_Law_create_5 rfl rfl ?_
  refine ev_iload_n d_Law_create_6 rfl rfl ?_
  refine ev_callCB (rc := (f_LV_create d f w m s g x1 x2 x3)) (ou := ouI) (Hs := (fun z => (eLV :: (HD z.1 (HF z.2.1 (HW z.2.2.1 (HM z.2.2.2 (HS s (HG g (HR r (HO o tl))))))))))) (en := 12) [(13, 15, 1), (15, 19, 2), (17, 23, 3), (19, 27, 4)] rfl (by decide) (hw_Law_create) gd_cs (inv_V (q := 0) (av := [.int x1, .int x2, .int x3]) (rest := [.int 0, .ref 30]) rfl (ci := 0) rfl d_Law_create_7 gw_572 gw_573 gw_574 mw_LV_create nh_LV_create pn_LV_create rfl) d_Law_create_7 pl_LV_create (Nat.le_of_ble_eq_true rfl) (Nat.le_of_ble_eq_true rfl) (Nat.le_of_ble_eq_true rfl) (e_f_LV_create (tl := (HR r (HO o tl)))  d f w m s g x1 x2 x3) (fun _ => (len1 (lenHD (lenHF (lenHW (lenHM (lenHS (lenHG (lenHR (lenHO rfl)))))))))) (fun x z h1 => ?_) (fun v z h1 => ⟨_, rfl, ?_⟩)
  · by_cases g1 : x = 1
    · subst g1; exact Or.inr ⟨⟨by decide, by decide⟩, 15, 5, 2, rfl, ⟨by decide, Or.inr ⟨d_Law_create_15, rfl⟩⟩, ev_iconst (v := 1) d_Law_create_17 rfl (ev_zret (ty := .int) rfl rfl d_Law_create_18)⟩
    · skip
      by_cases g2 : x = 2
      · subst g2; exact Or.inr ⟨⟨by decide, by decide⟩, 19, 5, 2, rfl, ⟨by decide, Or.inr ⟨d_Law_create_19, rfl⟩⟩, ev_iconst (v := 2) d_Law_create_21 rfl (ev_zret (ty := .int) rfl rfl d_Law_create_22)⟩
      · skip
        by_cases g3 : x = 3
        · subst g3; exact Or.inr ⟨⟨by decide, by decide⟩, 23, 5, 2, rfl, ⟨by decide, Or.inr ⟨d_Law_create_23, rfl⟩⟩, ev_iconst (v := 3) d_Law_create_25 rfl (ev_zret (ty := .int) rfl rfl d_Law_create_26)⟩
        · skip
          by_cases g4 : x = 4
          · subst g4; exact Or.inr ⟨⟨by decide, by decide⟩, 27, 5, 2, rfl, ⟨by decide, Or.inr ⟨d_Law_create_27, rfl⟩⟩, ev_iconst (v := 4) d_Law_create_29 rfl (ev_zret (ty := .int) rfl rfl d_Law_create_30)⟩
          · skip
            exact Or.inl (show bnd (ctab [(1, 1), (2, 2), (3, 3), (4, 4)] x) _ = none by rw [ctab, if_neg g1, ctab, if_neg g2, ctab, if_neg g3, ctab, if_neg g4]; rfl)
  · dsimp only [thM]
    refine ev_i2l d_Law_create_10 ?_
    refine ev_inB (fun h2 => ?_)
    refine ev_lastore (h2 := (eLV :: (HD z.1 (HF z.2.1 (HW z.2.2.1 (HM z.2.2.2 (HS s (HG g (HR r (HO (oSOut o (vp_updL (oOut o) (0 : Int32).toNatClampNeg v.toInt64)) tl)))))))))) rfl (inB_of h2) rfl d_Law_create_11 ?_
    refine ev_goto (tgt := 31) d_Law_create_12 rfl ?_
    refine ev_iconst (v := 0) d_Law_create_31 rfl ?_
    exact ev_zret (ty := .int) rfl rfl d_Law_create_32
theorem hw_Law_open : ∀ q ∈ ([(13, 13, 1), (15, 17, 2), (17, 21, 3), (19, 25, 4)] : List mn_H), q.1 ≠ 0 ∧ (1 ≤ q.2.2 ∧ q.2.2 ≤ 5) ∧ Cond.classLink "LabelledVolumeLaw" q.1 (gd_ex q.2.2) ∈ gd_tb := by
  intro q hq
  simp only [List.mem_cons, List.not_mem_nil, or_false] at hq
  rcases hq with rfl | rfl | rfl | rfl
  · exact ⟨by decide, ⟨by decide, by decide⟩, gw_568⟩
  · exact ⟨by decide, ⟨by decide, by decide⟩, gw_569⟩
  · exact ⟨by decide, ⟨by decide, by decide⟩, gw_570⟩
  · exact ⟨by decide, ⟨by decide, by decide⟩, gw_571⟩
def f_Law_open   (d : DS) (f : FS) (w : WS) (m : MS) (s : SS) (g : GS) (r : RS) (o : OS) (x1 : Int32) (x2 : Int32) : Option (Int32 × (DS × FS × WS × OS)) :=
  bnd (f_LV_open d f w m s g x1 x2) (fun q => thM q (fun x z => bnd (ctab [(1, 1), (2, 2), (3, 3), (4, 4)] x) (fun c => some (c, (z.1, z.2.1, z.2.2, o)))) (fun v z => if inB 0 1 then (some (0, (z.1, z.2.1, z.2.2, (oSOut o (vp_updL (oOut o) (0 : Int32).toNatClampNeg v.toInt64))))) else none))
theorem e_f_Law_open {sc : Nat × (Nat → Int32)} {tl : List mn_E}    (d : DS) (f : FS) (w : WS) (m : MS) (s : SS) (g : GS) (r : RS) (o : OS) (x1 : Int32) (x2 : Int32) : Ev sc 11 156 1 6 M_Law_open 0 [(0, .ref 0), (1, .int x1), (2, .int x2), (3, .ref 30)] [] (eLV :: (HD d (HF f (HW w (HM m (HS s (HG g (HR r (HO o tl))))))))) (mapR ouI (fun z => (eLV :: (HD z.1 (HF z.2.1 (HW z.2.2.1 (HM m (HS s (HG g (HR r (HO z.2.2.2 tl)))))))))) (f_Law_open d f w m s g r o x1 x2)) := by
  unfold f_Law_open
  refine ev_aload_n d_Law_open_0 rfl rfl ?_
  refine ev_iconst (v := 0) d_Law_open_1 rfl ?_
  refine ev_aload_n d_Law_open_2 rfl rfl ?_
  refine ev_iload_n d_Law_open_3 rfl rfl ?_
  refine ev_iload_n d_Law_open_4 rfl rfl ?_
  refine ev_callCB (rc := (f_LV_open d f w m s g x1 x2)) (ou := ouI) (Hs := (fun z => (eLV :: (HD z.1 (HF z.2.1 (HW z.2.2 (HM m (HS s (HG g (HR r (HO o tl))))))))))) (en := 10) [(13, 13, 1), (15, 17, 2), (17, 21, 3), (19, 25, 4)] rfl (by decide) (hw_Law_open) gd_cs (inv_V (q := 0) (av := [.int x1, .int x2]) (rest := [.int 0, .ref 30]) rfl (ci := 0) rfl d_Law_open_5 gw_849 gw_850 gw_851 mw_LV_open nh_LV_open pn_LV_open rfl) d_Law_open_5 pl_LV_open (Nat.le_of_ble_eq_true rfl) (Nat.le_of_ble_eq_true rfl) (Nat.le_of_ble_eq_true rfl) (e_f_LV_open (tl := (HR r (HO o tl)))  d f w m s g x1 x2) (fun _ => (len1 (lenHD (lenHF (lenHW (lenHM (lenHS (lenHG (lenHR (lenHO rfl)))))))))) (fun x z h1 => ?_) (fun v z h1 => ⟨_, rfl, ?_⟩)
  · by_cases g1 : x = 1
    · subst g1; exact Or.inr ⟨⟨by decide, by decide⟩, 13, 4, 2, rfl, ⟨by decide, Or.inr ⟨d_Law_open_13, rfl⟩⟩, ev_iconst (v := 1) d_Law_open_15 rfl (ev_zret (ty := .int) rfl rfl d_Law_open_16)⟩
    · skip
      by_cases g2 : x = 2
      · subst g2; exact Or.inr ⟨⟨by decide, by decide⟩, 17, 4, 2, rfl, ⟨by decide, Or.inr ⟨d_Law_open_17, rfl⟩⟩, ev_iconst (v := 2) d_Law_open_19 rfl (ev_zret (ty := .int) rfl rfl d_Law_open_20)⟩
      · skip
        by_cases g3 : x = 3
        · subst g3; exact Or.inr ⟨⟨by decide, by decide⟩, 21, 4, 2, rfl, ⟨by decide, Or.inr ⟨d_Law_open_21, rfl⟩⟩, ev_iconst (v := 3) d_Law_open_23 rfl (ev_zret (ty := .int) rfl rfl d_Law_open_24)⟩
        · skip
          by_cases g4 : x = 4
          · subst g4; exact Or.inr ⟨⟨by decide, by decide⟩, 25, 4, 2, rfl, ⟨by decide, Or.inr ⟨d_Law_open_25, rfl⟩⟩, ev_iconst (v := 4) d_Law_open_27 rfl (ev_zret (ty := .int) rfl rfl d_Law_open_28)⟩
          · skip
            exact Or.inl (show bnd (ctab [(1, 1), (2, 2), (3, 3), (4, 4)] x) _ = none by rw [ctab, if_neg g1, ctab, if_neg g2, ctab, if_neg g3, ctab, if_neg g4]; rfl)
  · dsimp only [thM]
    refine ev_i2l d_Law_open_8 ?_
    refine ev_inB (fun h2 => ?_)
    refine ev_lastore (h2 := (eLV :: (HD z.1 (HF z.2.1 (HW z.2.2 (HM m (HS s (HG g (HR r (HO (oSOut o (vp_updL (oOut o) (0 : Int32).toNatClampNeg v.toInt64)) tl)))))))))) rfl (inB_of h2) rfl d_Law_open_9 ?_
    refine ev_goto (tgt := 29) d_Law_open_10 rfl ?_
    refine ev_iconst (v := 0) d_Law_open_29 rfl ?_
    exact ev_zret (ty := .int) rfl rfl d_Law_open_30
theorem hw_Law_read : ∀ q ∈ ([(13, 13, 1), (15, 17, 2), (19, 21, 4), (28, 25, 5)] : List mn_H), q.1 ≠ 0 ∧ (1 ≤ q.2.2 ∧ q.2.2 ≤ 5) ∧ Cond.classLink "LabelledVolumeLaw" q.1 (gd_ex q.2.2) ∈ gd_tb := by
  intro q hq
  simp only [List.mem_cons, List.not_mem_nil, or_false] at hq
  rcases hq with rfl | rfl | rfl | rfl
  · exact ⟨by decide, ⟨by decide, by decide⟩, gw_568⟩
  · exact ⟨by decide, ⟨by decide, by decide⟩, gw_569⟩
  · exact ⟨by decide, ⟨by decide, by decide⟩, gw_571⟩
  · exact ⟨by decide, ⟨by decide, by decide⟩, gw_863⟩
def f_Law_read   (d : DS) (f : FS) (w : WS) (m : MS) (s : SS) (g : GS) (r : RS) (o : OS) (x1 : Int32) (x2 : Int32) : Option (Int32 × (DS × FS × OS)) :=
  bnd (f_LV_read d f w m s g x1 x2) (fun q => thM q (fun x z => bnd (ctab [(1, 1), (2, 2), (4, 3), (5, 4)] x) (fun c => some (c, (z.1, z.2, o)))) (fun v z => if inB 0 1 then (some (0, (z.1, z.2, (oSOut o (vp_updL (oOut o) (0 : Int32).toNatClampNeg v.toInt64))))) else none))
theorem e_f_Law_read {sc : Nat × (Nat → Int32)} {tl : List mn_E}    (d : DS) (f : FS) (w : WS) (m : MS) (s : SS) (g : GS) (r : RS) (o : OS) (x1 : Int32) (x2 : Int32) : Ev sc 8 113 1 6 M_Law_read 0 [(0, .ref 0), (1, .int x1), (2, .int x2), (3, .ref 30)] [] (eLV :: (HD d (HF f (HW w (HM m (HS s (HG g (HR r (HO o tl))))))))) (mapR ouI (fun z => (eLV :: (HD z.1 (HF z.2.1 (HW w (HM m (HS s (HG g (HR r (HO z.2.2 tl)))))))))) (f_Law_read d f w m s g r o x1 x2)) := by
  unfold f_Law_read
  refine ev_aload_n d_Law_read_0 rfl rfl ?_
  refine ev_iconst (v := 0) d_Law_read_1 rfl ?_
  refine ev_aload_n d_Law_read_2 rfl rfl ?_
  refine ev_iload_n d_Law_read_3 rfl rfl ?_
  refine ev_iload_n d_Law_read_4 rfl rfl ?_
  refine ev_callCB (rc := (f_LV_read d f w m s g x1 x2)) (ou := ouI) (Hs := (fun z => (eLV :: (HD z.1 (HF z.2 (HW w (HM m (HS s (HG g (HR r (HO o tl))))))))))) (en := 10) [(13, 13, 1), (15, 17, 2), (19, 21, 4), (28, 25, 5)] rfl (by decide) (hw_Law_read) gd_cs (inv_V (q := 0) (av := [.int x1, .int x2]) (rest := [.int 0, .ref 30]) rfl (ci := 0) rfl d_Law_read_5 gw_864 gw_865 gw_866 mw_LV_read nh_LV_read pn_LV_read rfl) d_Law_read_5 pl_LV_read (Nat.le_of_ble_eq_true rfl) (Nat.le_of_ble_eq_true rfl) (Nat.le_of_ble_eq_true rfl) (e_f_LV_read (tl := (HR r (HO o tl)))  d f w m s g x1 x2) (fun _ => (len1 (lenHD (lenHF (lenHW (lenHM (lenHS (lenHG (lenHR (lenHO rfl)))))))))) (fun x z h1 => ?_) (fun v z h1 => ⟨_, rfl, ?_⟩)
  · by_cases g1 : x = 1
    · subst g1; exact Or.inr ⟨⟨by decide, by decide⟩, 13, 4, 2, rfl, ⟨by decide, Or.inr ⟨d_Law_read_13, rfl⟩⟩, ev_iconst (v := 1) d_Law_read_15 rfl (ev_zret (ty := .int) rfl rfl d_Law_read_16)⟩
    · skip
      by_cases g2 : x = 2
      · subst g2; exact Or.inr ⟨⟨by decide, by decide⟩, 17, 4, 2, rfl, ⟨by decide, Or.inr ⟨d_Law_read_17, rfl⟩⟩, ev_iconst (v := 2) d_Law_read_19 rfl (ev_zret (ty := .int) rfl rfl d_Law_read_20)⟩
      · skip
        by_cases g4 : x = 4
        · subst g4; exact Or.inr ⟨⟨by decide, by decide⟩, 21, 4, 2, rfl, ⟨by decide, Or.inr ⟨d_Law_read_21, rfl⟩⟩, ev_iconst (v := 3) d_Law_read_23 rfl (ev_zret (ty := .int) rfl rfl d_Law_read_24)⟩
        · skip
          by_cases g5 : x = 5
          · subst g5; exact Or.inr ⟨⟨by decide, by decide⟩, 25, 4, 2, rfl, ⟨by decide, Or.inr ⟨d_Law_read_25, rfl⟩⟩, ev_iconst (v := 4) d_Law_read_27 rfl (ev_zret (ty := .int) rfl rfl d_Law_read_28)⟩
          · skip
            exact Or.inl (show bnd (ctab [(1, 1), (2, 2), (4, 3), (5, 4)] x) _ = none by rw [ctab, if_neg g1, ctab, if_neg g2, ctab, if_neg g4, ctab, if_neg g5]; rfl)
  · dsimp only [thM]
    refine ev_i2l d_Law_read_8 ?_
    refine ev_inB (fun h2 => ?_)
    refine ev_lastore (h2 := (eLV :: (HD z.1 (HF z.2 (HW w (HM m (HS s (HG g (HR r (HO (oSOut o (vp_updL (oOut o) (0 : Int32).toNatClampNeg v.toInt64)) tl)))))))))) rfl (inB_of h2) rfl d_Law_read_9 ?_
    refine ev_goto (tgt := 29) d_Law_read_10 rfl ?_
    refine ev_iconst (v := 0) d_Law_read_29 rfl ?_
    exact ev_zret (ty := .int) rfl rfl d_Law_read_30
theorem hw_Law_write : ∀ q ∈ ([(13, 10, 1), (15, 14, 2), (17, 18, 3), (19, 22, 4), (28, 26, 5)] : List mn_H), q.1 ≠ 0 ∧ (1 ≤ q.2.2 ∧ q.2.2 ≤ 5) ∧ Cond.classLink "LabelledVolumeLaw" q.1 (gd_ex q.2.2) ∈ gd_tb := by
  intro q hq
  simp only [List.mem_cons, List.not_mem_nil, or_false] at hq
  rcases hq with rfl | rfl | rfl | rfl | rfl
  · exact ⟨by decide, ⟨by decide, by decide⟩, gw_568⟩
  · exact ⟨by decide, ⟨by decide, by decide⟩, gw_569⟩
  · exact ⟨by decide, ⟨by decide, by decide⟩, gw_570⟩
  · exact ⟨by decide, ⟨by decide, by decide⟩, gw_571⟩
  · exact ⟨by decide, ⟨by decide, by decide⟩, gw_863⟩
def f_Law_write   (d : DS) (f : FS) (w : WS) (m : MS) (s : SS) (g : GS) (r : RS) (o : OS) (x1 : Int32) (x2 : Int32) (x3 : Int32) : Option (Int32 × (DS × FS × MS)) :=
  bnd (f_LV_write d f w m s g x1 x2 x3) (fun q => thM q (fun x z => bnd (ctab [(1, 1), (2, 2), (3, 3), (4, 4), (5, 5)] x) (fun c => some (c, (z.1, z.2.1, z.2.2)))) (fun v z => some (0, (z.1, z.2.1, z.2.2))))
theorem e_f_Law_write {sc : Nat × (Nat → Int32)} {tl : List mn_E}    (d : DS) (f : FS) (w : WS) (m : MS) (s : SS) (g : GS) (r : RS) (o : OS) (x1 : Int32) (x2 : Int32) (x3 : Int32) : Ev sc 11 159 1 6 M_Law_write 0 [(0, .ref 0), (1, .int x1), (2, .int x2), (3, .int x3)] [] (eLV :: (HD d (HF f (HW w (HM m (HS s (HG g (HR r (HO o tl))))))))) (mapR ouI (fun z => (eLV :: (HD z.1 (HF z.2.1 (HW w (HM z.2.2 (HS s (HG g (HR r (HO o tl)))))))))) (f_Law_write d f w m s g r o x1 x2 x3)) := by
  unfold f_Law_write
  refine ev_aload_n d_Law_write_0 rfl rfl ?_
  refine ev_iload_n d_Law_write_1 rfl rfl ?_
  refine ev_iload_n d_Law_write_2 rfl rfl ?_
  refine ev_iload_n d_Law_write_3 rfl rfl ?_
  refine ev_callCB (rc := (f_LV_write d f w m s g x1 x2 x3)) (ou := ouV) (Hs := (fun z => (eLV :: (HD z.1 (HF z.2.1 (HW w (HM z.2.2 (HS s (HG g (HR r (HO o tl))))))))))) (en := 7) [(13, 10, 1), (15, 14, 2), (17, 18, 3), (19, 22, 4), (28, 26, 5)] rfl (by decide) (hw_Law_write) gd_cs (inv_V (q := 0) (av := [.int x1, .int x2, .int x3]) (rest := []) rfl (ci := 0) rfl d_Law_write_4 gw_902 gw_903 gw_904 mw_LV_write nh_LV_write pn_LV_write rfl) d_Law_write_4 pl_LV_write (Nat.le_of_ble_eq_true rfl) (Nat.le_of_ble_eq_true rfl) (Nat.le_of_ble_eq_true rfl) (e_f_LV_write (tl := (HR r (HO o tl)))  d f w m s g x1 x2 x3) (fun _ => (len1 (lenHD (lenHF (lenHW (lenHM (lenHS (lenHG (lenHR (lenHO rfl)))))))))) (fun x z h1 => ?_) (fun v z h1 => ⟨_, rfl, ?_⟩)
  · by_cases g1 : x = 1
    · subst g1; exact Or.inr ⟨⟨by decide, by decide⟩, 10, 4, 2, rfl, ⟨by decide, Or.inr ⟨d_Law_write_10, rfl⟩⟩, ev_iconst (v := 1) d_Law_write_12 rfl (ev_zret (ty := .int) rfl rfl d_Law_write_13)⟩
    · skip
      by_cases g2 : x = 2
      · subst g2; exact Or.inr ⟨⟨by decide, by decide⟩, 14, 4, 2, rfl, ⟨by decide, Or.inr ⟨d_Law_write_14, rfl⟩⟩, ev_iconst (v := 2) d_Law_write_16 rfl (ev_zret (ty := .int) rfl rfl d_Law_write_17)⟩
      · skip
        by_cases g3 : x = 3
        · subst g3; exact Or.inr ⟨⟨by decide, by decide⟩, 18, 4, 2, rfl, ⟨by decide, Or.inr ⟨d_Law_write_18, rfl⟩⟩, ev_iconst (v := 3) d_Law_write_20 rfl (ev_zret (ty := .int) rfl rfl d_Law_write_21)⟩
        · skip
          by_cases g4 : x = 4
          · subst g4; exact Or.inr ⟨⟨by decide, by decide⟩, 22, 4, 2, rfl, ⟨by decide, Or.inr ⟨d_Law_write_22, rfl⟩⟩, ev_iconst (v := 4) d_Law_write_24 rfl (ev_zret (ty := .int) rfl rfl d_Law_write_25)⟩
          · skip
            by_cases g5 : x = 5
            · subst g5; exact Or.inr ⟨⟨by decide, by decide⟩, 26, 4, 2, rfl, ⟨by decide, Or.inr ⟨d_Law_write_26, rfl⟩⟩, ev_iconst (v := 5) d_Law_write_28 rfl (ev_zret (ty := .int) rfl rfl d_Law_write_29)⟩
            · skip
              exact Or.inl (show bnd (ctab [(1, 1), (2, 2), (3, 3), (4, 4), (5, 5)] x) _ = none by rw [ctab, if_neg g1, ctab, if_neg g2, ctab, if_neg g3, ctab, if_neg g4, ctab, if_neg g5]; rfl)
  · dsimp only [thM]
    refine ev_goto (tgt := 30) d_Law_write_7 rfl ?_
    refine ev_iconst (v := 0) d_Law_write_30 rfl ?_
    exact ev_zret (ty := .int) rfl rfl d_Law_write_31
theorem hw_Law_shorten : ∀ q ∈ ([(13, 9, 1), (15, 12, 2), (17, 15, 3), (19, 18, 4), (28, 21, 5)] : List mn_H), q.1 ≠ 0 ∧ (1 ≤ q.2.2 ∧ q.2.2 ≤ 5) ∧ Cond.classLink "LabelledVolumeLaw" q.1 (gd_ex q.2.2) ∈ gd_tb := by
  intro q hq
  simp only [List.mem_cons, List.not_mem_nil, or_false] at hq
  rcases hq with rfl | rfl | rfl | rfl | rfl
  · exact ⟨by decide, ⟨by decide, by decide⟩, gw_568⟩
  · exact ⟨by decide, ⟨by decide, by decide⟩, gw_569⟩
  · exact ⟨by decide, ⟨by decide, by decide⟩, gw_570⟩
  · exact ⟨by decide, ⟨by decide, by decide⟩, gw_571⟩
  · exact ⟨by decide, ⟨by decide, by decide⟩, gw_863⟩
def f_Law_shorten   (d : DS) (f : FS) (w : WS) (m : MS) (s : SS) (g : GS) (r : RS) (o : OS) (x1 : Int32) (x2 : Int32) : Option (Int32 × (DS × FS × MS × GS)) :=
  bnd (f_LV_shorten d f w m s g x1 x2) (fun q => thM q (fun x z => bnd (ctab [(1, 1), (2, 2), (3, 3), (4, 4), (5, 5)] x) (fun c => some (c, (z.1, z.2.1, z.2.2.1, z.2.2.2)))) (fun v z => some (0, (z.1, z.2.1, z.2.2.1, z.2.2.2))))
theorem e_f_Law_shorten {sc : Nat × (Nat → Int32)} {tl : List mn_E}    (d : DS) (f : FS) (w : WS) (m : MS) (s : SS) (g : GS) (r : RS) (o : OS) (x1 : Int32) (x2 : Int32) : Ev sc 11 156 1 6 M_Law_shorten 0 [(0, .ref 0), (1, .int x1), (2, .int x2)] [] (eLV :: (HD d (HF f (HW w (HM m (HS s (HG g (HR r (HO o tl))))))))) (mapR ouI (fun z => (eLV :: (HD z.1 (HF z.2.1 (HW w (HM z.2.2.1 (HS s (HG z.2.2.2 (HR r (HO o tl)))))))))) (f_Law_shorten d f w m s g r o x1 x2)) := by
  unfold f_Law_shorten
  refine ev_aload_n d_Law_shorten_0 rfl rfl ?_
  refine ev_iload_n d_Law_shorten_1 rfl rfl ?_
  refine ev_iload_n d_Law_shorten_2 rfl rfl ?_
  refine ev_callCB (rc := (f_LV_shorten d f w m s g x1 x2)) (ou := ouV) (Hs := (fun z => (eLV :: (HD z.1 (HF z.2.1 (HW w (HM z.2.2.1 (HS s (HG z.2.2.2 (HR r (HO o tl))))))))))) (en := 6) [(13, 9, 1), (15, 12, 2), (17, 15, 3), (19, 18, 4), (28, 21, 5)] rfl (by decide) (hw_Law_shorten) gd_cs (inv_V (q := 0) (av := [.int x1, .int x2]) (rest := []) rfl (ci := 0) rfl d_Law_shorten_3 gw_917 gw_918 gw_919 mw_LV_shorten nh_LV_shorten pn_LV_shorten rfl) d_Law_shorten_3 pl_LV_shorten (Nat.le_of_ble_eq_true rfl) (Nat.le_of_ble_eq_true rfl) (Nat.le_of_ble_eq_true rfl) (e_f_LV_shorten (tl := (HR r (HO o tl)))  d f w m s g x1 x2) (fun _ => (len1 (lenHD (lenHF (lenHW (lenHM (lenHS (lenHG (lenHR (lenHO rfl)))))))))) (fun x z h1 => ?_) (fun v z h1 => ⟨_, rfl, ?_⟩)
  · by_cases g1 : x = 1
    · subst g1; exact Or.inr ⟨⟨by decide, by decide⟩, 9, 3, 1, rfl, ⟨by decide, Or.inl ⟨3, rfl, d_Law_shorten_9, rfl⟩⟩, ev_iconst (v := 1) d_Law_shorten_10 rfl (ev_zret (ty := .int) rfl rfl d_Law_shorten_11)⟩
    · skip
      by_cases g2 : x = 2
      · subst g2; exact Or.inr ⟨⟨by decide, by decide⟩, 12, 3, 1, rfl, ⟨by decide, Or.inl ⟨3, rfl, d_Law_shorten_12, rfl⟩⟩, ev_iconst (v := 2) d_Law_shorten_13 rfl (ev_zret (ty := .int) rfl rfl d_Law_shorten_14)⟩
      · skip
        by_cases g3 : x = 3
        · subst g3; exact Or.inr ⟨⟨by decide, by decide⟩, 15, 3, 1, rfl, ⟨by decide, Or.inl ⟨3, rfl, d_Law_shorten_15, rfl⟩⟩, ev_iconst (v := 3) d_Law_shorten_16 rfl (ev_zret (ty := .int) rfl rfl d_Law_shorten_17)⟩
        · skip
          by_cases g4 : x = 4
          · subst g4; exact Or.inr ⟨⟨by decide, by decide⟩, 18, 3, 1, rfl, ⟨by decide, Or.inl ⟨3, rfl, d_Law_shorten_18, rfl⟩⟩, ev_iconst (v := 4) d_Law_shorten_19 rfl (ev_zret (ty := .int) rfl rfl d_Law_shorten_20)⟩
          · skip
            by_cases g5 : x = 5
            · subst g5; exact Or.inr ⟨⟨by decide, by decide⟩, 21, 3, 1, rfl, ⟨by decide, Or.inl ⟨3, rfl, d_Law_shorten_21, rfl⟩⟩, ev_iconst (v := 5) d_Law_shorten_22 rfl (ev_zret (ty := .int) rfl rfl d_Law_shorten_23)⟩
            · skip
              exact Or.inl (show bnd (ctab [(1, 1), (2, 2), (3, 3), (4, 4), (5, 5)] x) _ = none by rw [ctab, if_neg g1, ctab, if_neg g2, ctab, if_neg g3, ctab, if_neg g4, ctab, if_neg g5]; rfl)
  · dsimp only [thM]
    refine ev_goto (tgt := 24) d_Law_shorten_6 rfl ?_
    refine ev_iconst (v := 0) d_Law_shorten_24 rfl ?_
    exact ev_zret (ty := .int) rfl rfl d_Law_shorten_25
theorem hw_Law_remove : ∀ q ∈ ([(13, 13, 1), (15, 17, 2), (17, 21, 3), (19, 25, 4)] : List mn_H), q.1 ≠ 0 ∧ (1 ≤ q.2.2 ∧ q.2.2 ≤ 5) ∧ Cond.classLink "LabelledVolumeLaw" q.1 (gd_ex q.2.2) ∈ gd_tb := by
  intro q hq
  simp only [List.mem_cons, List.not_mem_nil, or_false] at hq
  rcases hq with rfl | rfl | rfl | rfl
  · exact ⟨by decide, ⟨by decide, by decide⟩, gw_568⟩
  · exact ⟨by decide, ⟨by decide, by decide⟩, gw_569⟩
  · exact ⟨by decide, ⟨by decide, by decide⟩, gw_570⟩
  · exact ⟨by decide, ⟨by decide, by decide⟩, gw_571⟩
def f_Law_remove   (d : DS) (f : FS) (w : WS) (m : MS) (s : SS) (g : GS) (r : RS) (o : OS) (x1 : Int32) (x2 : Int32) : Option (Int32 × (DS × FS × WS × MS × GS × OS)) :=
  bnd (f_LV_remove d f w m s g x1 x2) (fun q => thM q (fun x z => bnd (ctab [(1, 1), (2, 2), (3, 3), (4, 4)] x) (fun c => some (c, (z.1, z.2.1, z.2.2.1, z.2.2.2.1, z.2.2.2.2, o)))) (fun v z => if inB 0 1 then (some (0, (z.1, z.2.1, z.2.2.1, z.2.2.2.1, z.2.2.2.2, (oSOut o (vp_updL (oOut o) (0 : Int32).toNatClampNeg v.toInt64))))) else none))
theorem e_f_Law_remove {sc : Nat × (Nat → Int32)} {tl : List mn_E}    (d : DS) (f : FS) (w : WS) (m : MS) (s : SS) (g : GS) (r : RS) (o : OS) (x1 : Int32) (x2 : Int32) : Ev sc 11 160 1 6 M_Law_remove 0 [(0, .ref 0), (1, .int x1), (2, .int x2), (3, .ref 30)] [] (eLV :: (HD d (HF f (HW w (HM m (HS s (HG g (HR r (HO o tl))))))))) (mapR ouI (fun z => (eLV :: (HD z.1 (HF z.2.1 (HW z.2.2.1 (HM z.2.2.2.1 (HS s (HG z.2.2.2.2.1 (HR r (HO z.2.2.2.2.2 tl)))))))))) (f_Law_remove d f w m s g r o x1 x2)) := by
  unfold f_Law_remove
  refine ev_aload_n d_Law_remove_0 rfl rfl ?_
  refine ev_iconst (v := 0) d_Law_remove_1 rfl ?_
  refine ev_aload_n d_Law_remove_2 rfl rfl ?_
  refine ev_iload_n d_Law_remove_3 rfl rfl ?_
  refine ev_iload_n d_Law_remove_4 rfl rfl ?_
  refine ev_callCB (rc := (f_LV_remove d f w m s g x1 x2)) (ou := ouI) (Hs := (fun z => (eLV :: (HD z.1 (HF z.2.1 (HW z.2.2.1 (HM z.2.2.2.1 (HS s (HG z.2.2.2.2 (HR r (HO o tl))))))))))) (en := 10) [(13, 13, 1), (15, 17, 2), (17, 21, 3), (19, 25, 4)] rfl (by decide) (hw_Law_remove) gd_cs (inv_V (q := 0) (av := [.int x1, .int x2]) (rest := [.int 0, .ref 30]) rfl (ci := 0) rfl d_Law_remove_5 gw_951 gw_952 gw_953 mw_LV_remove nh_LV_remove pn_LV_remove rfl) d_Law_remove_5 pl_LV_remove (Nat.le_of_ble_eq_true rfl) (Nat.le_of_ble_eq_true rfl) (Nat.le_of_ble_eq_true rfl) (e_f_LV_remove (tl := (HR r (HO o tl)))  d f w m s g x1 x2) (fun _ => (len1 (lenHD (lenHF (lenHW (lenHM (lenHS (lenHG (lenHR (lenHO rfl)))))))))) (fun x z h1 => ?_) (fun v z h1 => ⟨_, rfl, ?_⟩)
  · by_cases g1 : x = 1
    · subst g1; exact Or.inr ⟨⟨by decide, by decide⟩, 13, 4, 2, rfl, ⟨by decide, Or.inr ⟨d_Law_remove_13, rfl⟩⟩, ev_iconst (v := 1) d_Law_remove_15 rfl (ev_zret (ty := .int) rfl rfl d_Law_remove_16)⟩
    · skip
      by_cases g2 : x = 2
      · subst g2; exact Or.inr ⟨⟨by decide, by decide⟩, 17, 4, 2, rfl, ⟨by decide, Or.inr ⟨d_Law_remove_17, rfl⟩⟩, ev_iconst (v := 2) d_Law_remove_19 rfl (ev_zret (ty := .int) rfl rfl d_Law_remove_20)⟩
      · skip
        by_cases g3 : x = 3
        · subst g3; exact Or.inr ⟨⟨by decide, by decide⟩, 21, 4, 2, rfl, ⟨by decide, Or.inr ⟨d_Law_remove_21, rfl⟩⟩, ev_iconst (v := 3) d_Law_remove_23 rfl (ev_zret (ty := .int) rfl rfl d_Law_remove_24)⟩
        · skip
          by_cases g4 : x = 4
          · subst g4; exact Or.inr ⟨⟨by decide, by decide⟩, 25, 4, 2, rfl, ⟨by decide, Or.inr ⟨d_Law_remove_25, rfl⟩⟩, ev_iconst (v := 4) d_Law_remove_27 rfl (ev_zret (ty := .int) rfl rfl d_Law_remove_28)⟩
          · skip
            exact Or.inl (show bnd (ctab [(1, 1), (2, 2), (3, 3), (4, 4)] x) _ = none by rw [ctab, if_neg g1, ctab, if_neg g2, ctab, if_neg g3, ctab, if_neg g4]; rfl)
  · dsimp only [thM]
    refine ev_i2l d_Law_remove_8 ?_
    refine ev_inB (fun h2 => ?_)
    refine ev_lastore (h2 := (eLV :: (HD z.1 (HF z.2.1 (HW z.2.2.1 (HM z.2.2.2.1 (HS s (HG z.2.2.2.2 (HR r (HO (oSOut o (vp_updL (oOut o) (0 : Int32).toNatClampNeg v.toInt64)) tl)))))))))) rfl (inB_of h2) rfl d_Law_remove_9 ?_
    refine ev_goto (tgt := 29) d_Law_remove_10 rfl ?_
    refine ev_iconst (v := 0) d_Law_remove_29 rfl ?_
    exact ev_zret (ty := .int) rfl rfl d_Law_remove_30
theorem hw_Law_length : ∀ q ∈ ([(13, 12, 1), (15, 15, 2), (19, 18, 4)] : List mn_H), q.1 ≠ 0 ∧ (1 ≤ q.2.2 ∧ q.2.2 ≤ 5) ∧ Cond.classLink "LabelledVolumeLaw" q.1 (gd_ex q.2.2) ∈ gd_tb := by
  intro q hq
  simp only [List.mem_cons, List.not_mem_nil, or_false] at hq
  rcases hq with rfl | rfl | rfl
  · exact ⟨by decide, ⟨by decide, by decide⟩, gw_568⟩
  · exact ⟨by decide, ⟨by decide, by decide⟩, gw_569⟩
  · exact ⟨by decide, ⟨by decide, by decide⟩, gw_571⟩
def f_Law_length   (d : DS) (f : FS) (w : WS) (m : MS) (s : SS) (g : GS) (r : RS) (o : OS) (x1 : Int32) : Option (Int32 × (DS × FS × OS)) :=
  bnd (f_LV_length d f w m s g x1) (fun q => thM q (fun x z => bnd (ctab [(1, 1), (2, 2), (4, 3)] x) (fun c => some (c, (z.1, z.2, o)))) (fun v z => if inB 0 1 then (some (0, (z.1, z.2, (oSOut o (vp_updL (oOut o) (0 : Int32).toNatClampNeg v.toInt64))))) else none))
theorem e_f_Law_length {sc : Nat × (Nat → Int32)} {tl : List mn_E}    (d : DS) (f : FS) (w : WS) (m : MS) (s : SS) (g : GS) (r : RS) (o : OS) (x1 : Int32) : Ev sc 8 111 1 6 M_Law_length 0 [(0, .ref 0), (1, .int x1), (2, .ref 30)] [] (eLV :: (HD d (HF f (HW w (HM m (HS s (HG g (HR r (HO o tl))))))))) (mapR ouI (fun z => (eLV :: (HD z.1 (HF z.2.1 (HW w (HM m (HS s (HG g (HR r (HO z.2.2 tl)))))))))) (f_Law_length d f w m s g r o x1)) := by
  unfold f_Law_length
  refine ev_aload_n d_Law_length_0 rfl rfl ?_
  refine ev_iconst (v := 0) d_Law_length_1 rfl ?_
  refine ev_aload_n d_Law_length_2 rfl rfl ?_
  refine ev_iload_n d_Law_length_3 rfl rfl ?_
  refine ev_callCB (rc := (f_LV_length d f w m s g x1)) (ou := ouI) (Hs := (fun z => (eLV :: (HD z.1 (HF z.2 (HW w (HM m (HS s (HG g (HR r (HO o tl))))))))))) (en := 9) [(13, 12, 1), (15, 15, 2), (19, 18, 4)] rfl (by decide) (hw_Law_length) gd_cs (inv_V (q := 0) (av := [.int x1]) (rest := [.int 0, .ref 30]) rfl (ci := 0) rfl d_Law_length_4 gw_964 gw_965 gw_966 mw_LV_length nh_LV_length pn_LV_length rfl) d_Law_length_4 pl_LV_length (Nat.le_of_ble_eq_true rfl) (Nat.le_of_ble_eq_true rfl) (Nat.le_of_ble_eq_true rfl) (e_f_LV_length (tl := (HR r (HO o tl)))  d f w m s g x1) (fun _ => (len1 (lenHD (lenHF (lenHW (lenHM (lenHS (lenHG (lenHR (lenHO rfl)))))))))) (fun x z h1 => ?_) (fun v z h1 => ⟨_, rfl, ?_⟩)
  · by_cases g1 : x = 1
    · subst g1; exact Or.inr ⟨⟨by decide, by decide⟩, 12, 3, 1, rfl, ⟨by decide, Or.inl ⟨3, rfl, d_Law_length_12, rfl⟩⟩, ev_iconst (v := 1) d_Law_length_13 rfl (ev_zret (ty := .int) rfl rfl d_Law_length_14)⟩
    · skip
      by_cases g2 : x = 2
      · subst g2; exact Or.inr ⟨⟨by decide, by decide⟩, 15, 3, 1, rfl, ⟨by decide, Or.inl ⟨3, rfl, d_Law_length_15, rfl⟩⟩, ev_iconst (v := 2) d_Law_length_16 rfl (ev_zret (ty := .int) rfl rfl d_Law_length_17)⟩
      · skip
        by_cases g4 : x = 4
        · subst g4; exact Or.inr ⟨⟨by decide, by decide⟩, 18, 3, 1, rfl, ⟨by decide, Or.inl ⟨3, rfl, d_Law_length_18, rfl⟩⟩, ev_iconst (v := 3) d_Law_length_19 rfl (ev_zret (ty := .int) rfl rfl d_Law_length_20)⟩
        · skip
          exact Or.inl (show bnd (ctab [(1, 1), (2, 2), (4, 3)] x) _ = none by rw [ctab, if_neg g1, ctab, if_neg g2, ctab, if_neg g4]; rfl)
  · dsimp only [thM]
    refine ev_i2l d_Law_length_7 ?_
    refine ev_inB (fun h2 => ?_)
    refine ev_lastore (h2 := (eLV :: (HD z.1 (HF z.2 (HW w (HM m (HS s (HG g (HR r (HO (oSOut o (vp_updL (oOut o) (0 : Int32).toNatClampNeg v.toInt64)) tl)))))))))) rfl (inB_of h2) rfl d_Law_length_8 ?_
    refine ev_goto (tgt := 21) d_Law_length_9 rfl ?_
    refine ev_iconst (v := 0) d_Law_length_21 rfl ?_
    exact ev_zret (ty := .int) rfl rfl d_Law_length_22
theorem hw_Law_entry : ∀ q ∈ ([(13, 15, 1), (15, 19, 2), (17, 23, 3), (19, 27, 4)] : List mn_H), q.1 ≠ 0 ∧ (1 ≤ q.2.2 ∧ q.2.2 ≤ 5) ∧ Cond.classLink "LabelledVolumeLaw" q.1 (gd_ex q.2.2) ∈ gd_tb := by
  intro q hq
  simp only [List.mem_cons, List.not_mem_nil, or_false] at hq
  rcases hq with rfl | rfl | rfl | rfl
  · exact ⟨by decide, ⟨by decide, by decide⟩, gw_568⟩
  · exact ⟨by decide, ⟨by decide, by decide⟩, gw_569⟩
  · exact ⟨by decide, ⟨by decide, by decide⟩, gw_570⟩
  · exact ⟨by decide, ⟨by decide, by decide⟩, gw_571⟩
def f_Law_entry   (d : DS) (f : FS) (w : WS) (m : MS) (s : SS) (g : GS) (r : RS) (o : OS) (x1 : Int32) (x2 : Int32) (x3 : Int32) : Option (Int32 × (DS × FS × WS × OS)) :=
  bnd (f_LV_entry d f w m s g x1 x2 x3) (fun q => thM q (fun x z => bnd (ctab [(1, 1), (2, 2), (3, 3), (4, 4)] x) (fun c => some (c, (z.1, z.2.1, z.2.2, o)))) (fun v z => if inB 0 1 then (some (0, (z.1, z.2.1, z.2.2, (oSOut o (vp_updL (oOut o) (0 : Int32).toNatClampNeg v.toInt64))))) else none))
theorem e_f_Law_entry {sc : Nat × (Nat → Int32)} {tl : List mn_E}    (d : DS) (f : FS) (w : WS) (m : MS) (s : SS) (g : GS) (r : RS) (o : OS) (x1 : Int32) (x2 : Int32) (x3 : Int32) : Ev sc 10 141 1 6 M_Law_entry 0 [(0, .ref 0), (1, .int x1), (2, .int x2), (3, .int x3), (4, .ref 30)] [] (eLV :: (HD d (HF f (HW w (HM m (HS s (HG g (HR r (HO o tl))))))))) (mapR ouI (fun z => (eLV :: (HD z.1 (HF z.2.1 (HW z.2.2.1 (HM m (HS s (HG g (HR r (HO z.2.2.2 tl)))))))))) (f_Law_entry d f w m s g r o x1 x2 x3)) := by
  unfold f_Law_entry
  refine ev_aload d_Law_entry_0 rfl ?_
  refine ev_iconst (v := 0) d_Law_entry_2 rfl ?_
  refine ev_aload_n d_Law_entry_3 rfl rfl ?_
  refine ev_iload_n d_Law_entry_4 rfl rfl ?_
  refine ev_iload_n d_Law_entry_5 rfl rfl ?_
  refine ev_iload_n d_Law_entry_6 rfl rfl ?_
  refine ev_callCB (rc := (f_LV_entry d f w m s g x1 x2 x3)) (ou := ouI) (Hs := (fun z => (eLV :: (HD z.1 (HF z.2.1 (HW z.2.2 (HM m (HS s (HG g (HR r (HO o tl))))))))))) (en := 12) [(13, 15, 1), (15, 19, 2), (17, 23, 3), (19, 27, 4)] rfl (by decide) (hw_Law_entry) gd_cs (inv_V (q := 0) (av := [.int x1, .int x2, .int x3]) (rest := [.int 0, .ref 30]) rfl (ci := 0) rfl d_Law_entry_7 gw_971 gw_972 gw_973 mw_LV_entry nh_LV_entry pn_LV_entry rfl) d_Law_entry_7 pl_LV_entry (Nat.le_of_ble_eq_true rfl) (Nat.le_of_ble_eq_true rfl) (Nat.le_of_ble_eq_true rfl) (e_f_LV_entry (tl := (HR r (HO o tl)))  d f w m s g x1 x2 x3) (fun _ => (len1 (lenHD (lenHF (lenHW (lenHM (lenHS (lenHG (lenHR (lenHO rfl)))))))))) (fun x z h1 => ?_) (fun v z h1 => ⟨_, rfl, ?_⟩)
  · by_cases g1 : x = 1
    · subst g1; exact Or.inr ⟨⟨by decide, by decide⟩, 15, 5, 2, rfl, ⟨by decide, Or.inr ⟨d_Law_entry_15, rfl⟩⟩, ev_iconst (v := 1) d_Law_entry_17 rfl (ev_zret (ty := .int) rfl rfl d_Law_entry_18)⟩
    · skip
      by_cases g2 : x = 2
      · subst g2; exact Or.inr ⟨⟨by decide, by decide⟩, 19, 5, 2, rfl, ⟨by decide, Or.inr ⟨d_Law_entry_19, rfl⟩⟩, ev_iconst (v := 2) d_Law_entry_21 rfl (ev_zret (ty := .int) rfl rfl d_Law_entry_22)⟩
      · skip
        by_cases g3 : x = 3
        · subst g3; exact Or.inr ⟨⟨by decide, by decide⟩, 23, 5, 2, rfl, ⟨by decide, Or.inr ⟨d_Law_entry_23, rfl⟩⟩, ev_iconst (v := 3) d_Law_entry_25 rfl (ev_zret (ty := .int) rfl rfl d_Law_entry_26)⟩
        · skip
          by_cases g4 : x = 4
          · subst g4; exact Or.inr ⟨⟨by decide, by decide⟩, 27, 5, 2, rfl, ⟨by decide, Or.inr ⟨d_Law_entry_27, rfl⟩⟩, ev_iconst (v := 4) d_Law_entry_29 rfl (ev_zret (ty := .int) rfl rfl d_Law_entry_30)⟩
          · skip
            exact Or.inl (show bnd (ctab [(1, 1), (2, 2), (3, 3), (4, 4)] x) _ = none by rw [ctab, if_neg g1, ctab, if_neg g2, ctab, if_neg g3, ctab, if_neg g4]; rfl)
  · dsimp only [thM]
    refine ev_i2l d_Law_entry_10 ?_
    refine ev_inB (fun h2 => ?_)
    refine ev_lastore (h2 := (eLV :: (HD z.1 (HF z.2.1 (HW z.2.2 (HM m (HS s (HG g (HR r (HO (oSOut o (vp_updL (oOut o) (0 : Int32).toNatClampNeg v.toInt64)) tl)))))))))) rfl (inB_of h2) rfl d_Law_entry_11 ?_
    refine ev_goto (tgt := 31) d_Law_entry_12 rfl ?_
    refine ev_iconst (v := 0) d_Law_entry_31 rfl ?_
    exact ev_zret (ty := .int) rfl rfl d_Law_entry_32
theorem hw_Law_charge : ∀ q ∈ ([(17, 8, 3), (13, 11, 1)] : List mn_H), q.1 ≠ 0 ∧ (1 ≤ q.2.2 ∧ q.2.2 ≤ 5) ∧ Cond.classLink "LabelledVolumeLaw" q.1 (gd_ex q.2.2) ∈ gd_tb := by
  intro q hq
  simp only [List.mem_cons, List.not_mem_nil, or_false] at hq
  rcases hq with rfl | rfl
  · exact ⟨by decide, ⟨by decide, by decide⟩, gw_570⟩
  · exact ⟨by decide, ⟨by decide, by decide⟩, gw_568⟩
def f_Law_charge   (d : DS) (f : FS) (w : WS) (m : MS) (s : SS) (g : GS) (r : RS) (o : OS) (x1 : Int32) : Option (Int32 × DS) :=
  bnd (some (f_LV_charge d f w m s g x1)) (fun q => thM q (fun x z => bnd (ctab [(3, 1), (1, 2)] x) (fun c => some (c, z))) (fun v z => some (0, z)))
theorem e_f_Law_charge {sc : Nat × (Nat → Int32)} {tl : List mn_E}    (d : DS) (f : FS) (w : WS) (m : MS) (s : SS) (g : GS) (r : RS) (o : OS) (x1 : Int32) : Ev sc 8 106 1 6 M_Law_charge 0 [(0, .ref 0), (1, .int x1)] [] (eLV :: (HD d (HF f (HW w (HM m (HS s (HG g (HR r (HO o tl))))))))) (mapR ouI (fun z => (eLV :: (HD z (HF f (HW w (HM m (HS s (HG g (HR r (HO o tl)))))))))) (f_Law_charge d f w m s g r o x1)) := by
  unfold f_Law_charge
  refine ev_aload_n d_Law_charge_0 rfl rfl ?_
  refine ev_iload_n d_Law_charge_1 rfl rfl ?_
  refine ev_callCB (rc := (some (f_LV_charge d f w m s g x1))) (ou := ouV) (Hs := (fun z => (eLV :: (HD z (HF f (HW w (HM m (HS s (HG g (HR r (HO o tl))))))))))) (en := 5) [(17, 8, 3), (13, 11, 1)] rfl (by decide) (hw_Law_charge) gd_cs (inv_V (q := 0) (av := [.int x1]) (rest := []) rfl (ci := 0) rfl d_Law_charge_2 gw_983 gw_984 gw_985 mw_LV_charge nh_LV_charge pn_LV_charge rfl) d_Law_charge_2 pl_LV_charge (Nat.le_of_ble_eq_true rfl) (Nat.le_of_ble_eq_true rfl) (Nat.le_of_ble_eq_true rfl) (e_f_LV_charge (tl := (HR r (HO o tl)))  d f w m s g x1) (fun _ => (len1 (lenHD (lenHF (lenHW (lenHM (lenHS (lenHG (lenHR (lenHO rfl)))))))))) (fun x z h1 => ?_) (fun v z h1 => ⟨_, rfl, ?_⟩)
  · by_cases g3 : x = 3
    · subst g3; exact Or.inr ⟨⟨by decide, by decide⟩, 8, 2, 1, rfl, ⟨by decide, Or.inl ⟨2, rfl, d_Law_charge_8, rfl⟩⟩, ev_iconst (v := 1) d_Law_charge_9 rfl (ev_zret (ty := .int) rfl rfl d_Law_charge_10)⟩
    · skip
      by_cases g1 : x = 1
      · subst g1; exact Or.inr ⟨⟨by decide, by decide⟩, 11, 2, 1, rfl, ⟨by decide, Or.inl ⟨2, rfl, d_Law_charge_11, rfl⟩⟩, ev_iconst (v := 2) d_Law_charge_12 rfl (ev_zret (ty := .int) rfl rfl d_Law_charge_13)⟩
      · skip
        exact Or.inl (show bnd (ctab [(3, 1), (1, 2)] x) _ = none by rw [ctab, if_neg g3, ctab, if_neg g1]; rfl)
  · dsimp only [thM]
    refine ev_goto (tgt := 14) d_Law_charge_5 rfl ?_
    refine ev_iconst (v := 0) d_Law_charge_14 rfl ?_
    exact ev_zret (ty := .int) rfl rfl d_Law_charge_15
