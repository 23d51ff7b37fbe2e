/-! a page behind the last one; links and hints -/
/-- what of the reference no writing of cells touches -/
def rG (r : RS) : ((Nat → Int32) × (Nat → Int32) × (Nat → Int32) × (Nat → Int32) × (Nat → Int32) × (Nat → Int32) × (Nat → Int32) × (Nat → Int32) × (Nat → Int32) × (Nat → Int32) × (Nat → Int32)) × Int32 × Int32 × Int32 × Int32 × Int32 × Int32 × Int32 := (r.1.2.2.2.2.2.2, rMap r, rHAt r, rHPl r, rEnd r, rFAt r, rFPl r, rRws r)
theorem rO_G {r r' : RS} (h : rO r' = rO r) : rG r' = rG r := congrArg (fun z => (z.1, z.2.2.2.2.2.2.2.1, z.2.2.2.2.2.2.2.2.1, z.2.2.2.2.2.2.2.2.2.1, z.2.2.2.2.2.2.2.2.2.2.1, z.2.2.2.2.2.2.2.2.2.2.2.1, z.2.2.2.2.2.2.2.2.2.2.2.2.1, z.2.2.2.2.2.2.2.2.2.2.2.2.2)) h
theorem rQ_G {r r' : RS} (h : rQ r' = rQ r) : rG r' = rG r := congrArg (fun z => (z.1.2.2.2.2.2.2, z.2.2.1, z.2.2.2.1, z.2.2.2.2.1, z.2.2.2.2.2.1, z.2.2.2.2.2.2.1, z.2.2.2.2.2.2.2.1, z.2.2.2.2.2.2.2.2)) h
theorem rG_kep {r r' : RS} (h : rG r' = rG r) : rKep r' = rKep r := congrArg (fun z => z.1.2.1) h
theorem rG_mar {r r' : RS} (h : rG r' = rG r) : rMar r' = rMar r := congrArg (fun z => z.1.2.2.1) h
theorem rG_rep {r r' : RS} (h : rG r' = rG r) : rRep r' = rRep r := congrArg (fun z => z.1.2.2.2.1) h
theorem rG_row {r r' : RS} (h : rG r' = rG r) : rRow r' = rRow r := congrArg (fun z => z.1.2.2.2.2.1) h
theorem rG_map {r r' : RS} (h : rG r' = rG r) : rMap r' = rMap r := congrArg (fun z => z.2.1) h
theorem rG_rws {r r' : RS} (h : rG r' = rG r) : rRws r' = rRws r := congrArg (fun z => z.2.2.2.2.2.2.2) h
theorem MR.g {d d' : DS} {m : MS} {r r' : RS} (h : MR d m r) (h1 : rG r' = rG r) (h2 : dUnr d' = dUnr d) : MR d' m r' := (h.same (fun q _ => by rw [rG_mar h1]) (rG_map h1)).un h2
section AP
variable {d : DS} {r : RS} {f : FS} {w : WS} {m : MS} {s : SS} {g : GS} {B i z x : Nat}
theorem app_dark (h : rFau r = 1) (a b c : Int32) : B_Mod_append_77 r a b c = some ((), r) := by
  unfold B_Mod_append_77 B_Mod_append_81 B_Mod_append_108 B_Mod_append_117 B_Mod_append_132
  rw [wr_dark h, if_pos rfl]
  by_cases e : b = a
  · rw [if_pos e]
  · rw [if_neg e, wr_dark h, if_pos rfl]
theorem setb_R (r : RS) {i j : Nat} (v : Int32) : rSByt r (upd (rByt r) (8 * i + j) v) = rSet r i (5 + j) v := (rSetb r i j v).symm
theorem vOK3 {B x : Nat} (hx : x < 40) : vOK B 3 (nI x) := Or.inl ⟨Or.inl rfl, Or.inr ⟨x, hx, rfl⟩⟩
theorem R_link (h : RD d r) (I : IV B d) (X : IX d) (hfa : rFau r = 0) (hi : i < 40) (hui : dUnr d i = 0) (hz : z < 40) (huz : dUnr d z = 0) (hx : x < 40) : ∃ d' r', ((f_LV_linkBehind d f w m s g (nI i) (nI z) (nI x) = (.inl 1, d') ∧ rFau r' = 1) ∨ (f_LV_linkBehind d f w m s g (nI i) (nI z) (nI x) = (.inr (), d') ∧ rFau r' = 0)) ∧ B_Mod_append_77 r (nI i) (nI z) (nI x) = some ((), r') ∧ RD d' r' ∧ IV B d' ∧ IX d' ∧ dUnr d' = dUnr d ∧ rG r' = rG r := by
  unfold f_LV_linkBehind B_Mod_append_77
  rcases R_writes h hfa with ⟨e1, e2, e3⟩ | ⟨d1, r1, e1, e2, e3, c1, c2, c3, c4, c5⟩
  · rw [e1, e2]
    refine ⟨dSPow d 0, rSFau (rSDar r 1) 1, Or.inl ⟨rfl, rfl⟩, ?_, e3, I, X, rfl, rfl⟩
    have h9 := app_dark (r := rSFau (rSDar r 1) 1) rfl (nI i) (nI z) (nI x)
    unfold B_Mod_append_77 at h9
    rw [wr_dark (r := rSFau (rSDar r 1) 1) rfl] at h9
    exact h9
  · rw [e1, e2, thM_r]
    unfold B_LV_linkBehind_7 B_LV_linkBehind_17 B_Mod_append_81
    have hui1 : dUnr d1 i = 0 := by rw [c3]; exact hui
    have huz1 : dUnr d1 z = 0 := by rw [c3]; exact huz
    rw [if_neg (show ¬ ((1 : Int32), r1).1 = 0 from (by decide : ¬ (1 : Int32) = 0)), if_pos (inB_nI hz (by decide)), cl_nI (by omega), show (3 : Int32) = nI 3 from rfl, C_set hz (by decide) huz1]
    have I1 : IV B d1 := I.same c1 c3
    have X1 : IX d1 := X.same c1 c3
    have h2 : RD (dSet d1 z 3 (nI x)) (rSet r1 z 3 (nI x)) := e3.set hz (by decide) _
    have I2 : IV B (dSet d1 z 3 (nI x)) := I1.set (by decide) (vOK3 hx)
    have X2 : IX (dSet d1 z 3 (nI x)) := X1.set3 (by decide) (by decide)
    have hfa2 : rFau (rSet r1 z 3 (nI x)) = 0 := (rQ_fau c5).trans hfa
    have hG2 : rG (rSet r1 z 3 (nI x)) = rG r := (rO_G (rSet_O r1 z 3 (nI x))).trans (rQ_G c5)
    have hu2 : dUnr (dSet d1 z 3 (nI x)) = dUnr d := c3
    have hui2 : dUnr (dSet d1 z 3 (nI x)) i = 0 := hui1
    have er : rSNex ((1 : Int32), r1).2 (upd (rNex ((1 : Int32), r1).2) z (nI x)) = rSet r1 z 3 (nI x) := rfl
    rw [er]
    generalize dSet d1 z 3 (nI x) = d2 at h2 I2 X2 hu2 hui2
    generalize rSet r1 z 3 (nI x) = r2 at h2 hfa2 hG2
    unfold f_LV_writeHint B_LV_writeHint_12 B_LV_writeHint_22 B_Mod_append_91 B_Mod_append_108 B_Mod_append_117 B_Mod_append_132
    have e83 : (8 * nI i + 3 : Int32) = nI (8 * i + 3) := byA i 3
    have hb3 : (5 + 3 : Nat) < 13 := by decide
    have hvx : nI x &&& 255 = nI x := b255' (by omega)
    have hin : inB (8 * nI i + 3) 320 := by rw [e83]; exact inB_nI (by omega) (by decide)
    have hcl : (8 * nI i + 3 : Int32).toNatClampNeg = 8 * i + 3 := by rw [e83]; exact cl_nI (by omega)
    by_cases e : nI z = nI i
    · rw [if_pos e, if_neg (not_not_intro e), if_pos hin, if_pos e, hcl, show (3 : Int32) = nI 3 from rfl, C_setb hi (by decide) hui2, hvx, thM_r]
      refine ⟨dSet d2 i (5 + 3) (nI x), rSet r2 i (5 + 3) (nI x), Or.inr ⟨rfl, (rO_fau (rSet_O r2 i (5 + 3) (nI x))).trans hfa2⟩, rfl, h2.set hi (by decide) _, I2.set (by decide) (vOKb (by omega)), X2.set3 (by decide) (by decide), hu2, (rO_G (rSet_O r2 i (5 + 3) (nI x))).trans hG2⟩
    · rw [if_neg e, if_pos e, if_neg e]
      rcases R_writes h2 hfa2 with ⟨a1, a2, a3⟩ | ⟨d3, r3, a1, a2, a3, b1, b2, b3, b4, b5⟩
      · rw [a1, a2]
        exact ⟨dSPow d2 0, rSFau (rSDar r2 1) 1, Or.inl ⟨rfl, rfl⟩, rfl, a3, I2, X2, hu2, hG2⟩
      · rw [a1, a2, thM_r, if_neg (show ¬ ((1 : Int32), r3).1 = 0 from (by decide : ¬ (1 : Int32) = 0)), if_pos hin, hcl, show (3 : Int32) = nI 3 from rfl, C_setb hi (by decide) (by rw [b3]; exact hui2), hvx, thM_r]
        refine ⟨dSet d3 i (5 + 3) (nI x), rSet r3 i (5 + 3) (nI x), Or.inr ⟨rfl, (rO_fau (rSet_O r3 i (5 + 3) (nI x))).trans ((rQ_fau b5).trans hfa2)⟩, rfl, a3.set hi (by decide) _, (I2.same b1 b3).set (by decide) (vOKb (by omega)), (X2.same b1 b3).set3 (by decide) (by decide), ?_, (rO_G (rSet_O r3 i (5 + 3) (nI x))).trans ((rQ_G b5).trans hG2)⟩
        exact (b3.trans hu2)
/-- the cells of a new page -/
def pV (a b u c : Int32) : Nat → Int32 := fun k => match k with
  | 0 => a
  | 1 => b
  | 2 => u
  | 3 => -1
  | 4 => c
  | _ => 0
theorem C_page (hz : z < 40) (huz : dUnr d z = 0) (hx : x < 40) (hux : dUnr d x = 0) (hzx : z ≠ x) (u : Int32) : DRow d (f_Disk_makePageBehind d (nI z) (nI x) u).2 x (pV (dCells d (z * 13)) (dCells d (z * 13 + 1) + 1) u (nI z)) := by
  unfold f_Disk_makePageBehind B_Disk_makePageBehind_5 B_Disk_makePageBehind_17 B_Disk_makePageBehind_31 B_Disk_makePageBehind_38 B_Disk_makePageBehind_45
  have h0 := C_erase (d := d) hx hux
  generalize xErase d (nI x) = e at h0
  have z0 : dCells e (z * 13) = dCells d (z * 13) := (h0.1 z hz 0 (by decide)).trans (if_neg hzx)
  have z1 : dCells e (z * 13 + 1) = dCells d (z * 13 + 1) := (h0.1 z hz 1 (by decide)).trans (if_neg hzx)
  have hue : dUnr e x = 0 := by rw [h0.unr]; exact hux
  have huz' : dUnr e z = 0 := by rw [h0.unr]; exact huz
  rw [xc0 hz huz', z0, show xSetCell e (nI x) 0 (dCells d (z * 13)) = dSet e x 0 (dCells d (z * 13)) from C_set hx (k := 0) (by decide) hue _]
  have z2 : xCell (dSet e x 0 (dCells d (z * 13))) (nI z) 1 = dCells d (z * 13 + 1) := by
    rw [xc1 hz (show dUnr (dSet e x 0 (dCells d (z * 13))) z = 0 from huz'), dSet_at (by decide) (by decide), if_neg (by omega), z1]
  rw [z2]
  have h1 := h0.set (k := 0) (by decide) (dCells d (z * 13))
  have h2 := h1.set (k := 1) (by decide) (dCells d (z * 13 + 1) + 1)
  have h3 := h2.set (k := 2) (by decide) u
  have h4 := h3.set (k := 4) (by decide) (nI z)
  rw [show xSetCell (dSet e x 0 (dCells d (z * 13))) (nI x) 1 (dCells d (z * 13 + 1) + 1) = dSet (dSet e x 0 (dCells d (z * 13))) x 1 (dCells d (z * 13 + 1) + 1) from C_set (d := dSet e x 0 (dCells d (z * 13))) hx (k := 1) (by decide) hue _]
  rw [show xSetCell (dSet (dSet e x 0 (dCells d (z * 13))) x 1 (dCells d (z * 13 + 1) + 1)) (nI x) 2 u = dSet (dSet (dSet e x 0 (dCells d (z * 13))) x 1 (dCells d (z * 13 + 1) + 1)) x 2 u from C_set (d := dSet (dSet e x 0 (dCells d (z * 13))) x 1 (dCells d (z * 13 + 1) + 1)) hx (k := 2) (by decide) hue _]
  rw [show xSetCell (dSet (dSet (dSet e x 0 (dCells d (z * 13))) x 1 (dCells d (z * 13 + 1) + 1)) x 2 u) (nI x) 4 (nI z) = dSet (dSet (dSet (dSet e x 0 (dCells d (z * 13))) x 1 (dCells d (z * 13 + 1) + 1)) x 2 u) x 4 (nI z) from C_set (d := dSet (dSet (dSet e x 0 (dCells d (z * 13))) x 1 (dCells d (z * 13 + 1) + 1)) x 2 u) hx (k := 4) (by decide) hue _]
  refine h4.congr (all13 ?_ ?_ ?_ ?_ ?_ ?_ ?_ ?_ ?_ ?_ ?_ ?_ ?_) <;> rfl
theorem R_page (h : RD d r) (hi : i < 40) (hz : z < 40) (hx : x < 40) (hzx : z ≠ x) (hix : i ≠ x) (hs : dCells d (i * 13) = dCells d (z * 13)) (u a b c : Int32) : ∃ r', bnd (f_Mod_empty r (nI x)) (fun q => B_Mod_append_12 q.2 (nI i) (nI z) (nI x) u a b c) = B_Mod_append_40 r' (nI i) (nI z) (nI x) u a b c ∧ RRow r r' x (pV (dCells d (z * 13)) (dCells d (z * 13 + 1) + 1) u (nI z)) := by
  obtain ⟨r1, e1, e2⟩ := R_empty r hx
  rw [e1, bnd_some]
  unfold B_Mod_append_12
  have z0 : rSer r1 i = dCells d (z * 13) := by
    rw [← hs, h.ser hi]; exact (e2.1 i hi 0 (by decide)).trans (if_neg hix)
  have z1 : rPag r1 z = dCells d (z * 13 + 1) := by
    rw [h.pag hz]; exact (e2.1 z hz 1 (by decide)).trans (if_neg hzx)
  rw [if_pos (inB_nI hi (by decide)), if_pos (inB_nI hz (by decide)), cl_nI (by omega), cl_nI (by omega), z0, z1, R_label0 hx, bnd_some]
  unfold B_Mod_append_33
  rw [if_pos (inB_nI hx (by decide)), cl_nI (by omega)]
  have h1 := (((e2.set (k := 0) (by decide) (dCells d (z * 13))).set (k := 1) (by decide) (dCells d (z * 13 + 1) + 1)).set (k := 2) (by decide) u).set (k := 4) (by decide) (nI z)
  exact ⟨_, rfl, h1.congr (all13 rfl rfl rfl rfl rfl rfl rfl rfl rfl rfl rfl rfl rfl)⟩
end AP
