/-! scavenging: a file adopted -/
section AD7
variable {d d' : DS} {r r' : RS} {f : FS} {w : WS} {m : MS} {s s' : SS} {g : GS} {B : Nat} {M : Nat → Nat}
theorem dSet_comm {i k i' k' : Nat} {v v' : Int32} (h : i * 13 + k ≠ i' * 13 + k') : dSet (dSet d i k v) i' k' v' = dSet (dSet d i' k' v') i k v := by
  have : upd (upd (dCells d) (i * 13 + k) v) (i' * 13 + k') v' = upd (upd (dCells d) (i' * 13 + k') v') (i * 13 + k) v := by
    funext a
    by_cases e1 : a = i' * 13 + k'
    · subst e1
      rw [pk_us, pk_un (Ne.symm h), pk_us]
    · rw [pk_un e1]
      by_cases e2 : a = i * 13 + k
      · subst e2
        rw [pk_us, pk_us]
      · rw [pk_un e2, pk_un e2, pk_un e1]
  show dSCells d (upd (upd (dCells d) (i * 13 + k) v) (i' * 13 + k') v') = dSCells d (upd (upd (dCells d) (i' * 13 + k') v') (i * 13 + k) v)
  rw [this]
theorem dSet_self {i k : Nat} : dSet d i k (dCells d (i * 13 + k)) = d := by
  have : upd (dCells d) (i * 13 + k) (dCells d (i * 13 + k)) = dCells d := by
    funext a
    by_cases e : a = i * 13 + k
    · subst e; rw [pk_us]
    · rw [pk_un e]
  show (upd (dCells d) (i * 13 + k) (dCells d (i * 13 + k)), _) = _
  rw [this]
  rfl
def dNm (d : DS) (h : Nat) (a b : Int32) : DS := dSet (dSet d h 5 a) h 6 b
def dEn (d : DS) (i t : Nat) (a b c v : Int32) : DS := dSet (dSet (dSet (dSet d i (5 + 4 * t) a) i (5 + (4 * t + 1)) b) i (5 + (4 * t + 2)) c) i (5 + (4 * t + 3)) v
theorem dEn_dNm {i h t : Nat} (hne : i ≠ h) (ht : t < 2) {a b a' b' c v : Int32} : dEn (dNm d h a b) i t a' b' c v = dNm (dEn d i t a' b' c v) h a b := by
  unfold dEn dNm
  rw [dSet_comm (i := h) (k := 6) (i' := i) (k' := 5 + 4 * t) (by omega), dSet_comm (i := h) (k := 5) (i' := i) (k' := 5 + 4 * t) (by omega)]
  rw [dSet_comm (i := h) (k := 6) (i' := i) (k' := 5 + (4 * t + 1)) (by omega), dSet_comm (i := h) (k := 5) (i' := i) (k' := 5 + (4 * t + 1)) (by omega)]
  rw [dSet_comm (i := h) (k := 6) (i' := i) (k' := 5 + (4 * t + 2)) (by omega), dSet_comm (i := h) (k := 5) (i' := i) (k' := 5 + (4 * t + 2)) (by omega)]
  rw [dSet_comm (i := h) (k := 6) (i' := i) (k' := 5 + (4 * t + 3)) (by omega), dSet_comm (i := h) (k := 5) (i' := i) (k' := 5 + (4 * t + 3)) (by omega)]
theorem PTH.one {x : Nat} (h1 : ¬ xSearch d (nI 1) (nI 0) = -1) (h2 : ¬ xSearch d (nI 1) (nI 1) = -1) (x3 : 3 ≤ x) (x6 : x ≤ 60) (h3 : ¬ xSearch d (nI x) (nI 0) = -1) (h4 : bt (sRea s) x = true) : PTH d s 1 x := by
  refine ⟨fun j => if j = 0 then 1 else x, rfl, fun j hj => ?_, fun j hj => ?_, fun a b ab hb => ?_⟩
  · rcases (show j = 0 ∨ j = 1 by omega) with rfl | rfl
    · exact ⟨Nat.le_refl _, by show 1 ≤ 60; decide, h1, Or.inl rfl⟩
    · exact ⟨by show 1 ≤ x; omega, x6, h3, Or.inr h4⟩
  · obtain rfl : j = 0 := by omega
    exact h2
  · obtain rfl : a = 0 := by omega
    obtain rfl : b = 1 := by omega
    show 1 ≠ x
    omega
theorem PTH.root (h1 : ¬ xSearch d (nI 1) (nI 0) = -1) : PTH d s 0 1 := by
  refine ⟨fun _ => 1, rfl, fun j hj => ⟨Nat.le_refl _, by show 1 ≤ 60; decide, h1, Or.inl rfl⟩, fun j hj => absurd hj (by omega), fun a b ab hb => by omega⟩
/-- a sector in use belongs to a file that is there -/
def HDp (d : DS) : Prop := ∀ y, y < 40 → dUnr d y = 0 → ∀ t, 1 ≤ t → t ≤ 60 → dCells d (y * 13) = nI t → ¬ xSearch d (nI t) 0 = -1
theorem HDp.lab (h : HDp d) (hl : LSm d d') : HDp d' := fun y hy hu t t1 t2 c => by
  rw [hl.search (nI_m1 (by omega))]
  exact h y hy (by rw [← hl.2.1]; exact hu) t t1 t2 (by rw [← (show dCells d' (y * 13) = dCells d (y * 13) from hl.1 y hy 0 (by decide))]; exact c)
theorem HDp.room {i t : Nat} {d0 : DS} {r0 : RS} (h0 : HDp d0) (h : RMp B d0 s r0 d r M i t) (hr : ¬ xSearch d0 (nI 1) 0 = -1) : HDp d := by
  obtain ⟨-, -, -, -, i4, -, -, -, i8, -, i10, i11⟩ := h
  intro y hy hu t t1 t2 c
  rw [i10 t t1 t2]
  by_cases e : y = i
  · subst e
    rw [i4] at c
    obtain rfl : 1 = t := (nI_eq (by decide) (by omega)).mp c
    exact hr
  · exact h0 y hy (by rw [← i8.1]; exact hu) t t1 t2 (by rw [← (show dCells d (y * 13) = dCells d0 (y * 13) from i11 y hy e 0 (by decide))]; exact c)
/-- what an adoption leaves -/
def ADp (B : Nat) (d : DS) (s : SS) (r : RS) (d' : DS) (s' : SS) (r' : RS) (M' : Nat → Nat) : Prop := SF B d' s' r' M' ∧ RO d' ∧ ¬ xSearch d' (nI 1) 0 = -1 ∧ ur s' + 1 ≤ ur s ∧ KE d r d' r' ∧ (HDp d → HDp d')
theorem C_setNm {h n : Nat} (hh : h < 40) (hu : dUnr d h = 0) (hn : n < 65536) : (f_Disk_setName d (nI h) 0 (nI n)).2 = dNm d h (nI (n / 256)) (nI (n % 256)) := by
  unfold f_Disk_setName B_Disk_setName_16 B_Disk_setName_31 dNm
  rw [nm_hi hn, nm_lo n hn, show xSetCell d (nI h) (5 + 0) (nI (n / 256)) = dSet d h 5 (nI (n / 256)) from C_set hh (k := 5) (by decide) hu _, show xSetCell (dSet d h 5 (nI (n / 256))) (nI h) (5 + 0 + 1) (nI (n % 256)) = dSet (dSet d h 5 (nI (n / 256))) h 6 (nI (n % 256)) from C_set (d := dSet d h 5 (nI (n / 256))) hh (k := 6) (by decide) hu _]
theorem dNm_at {h j k : Nat} {a b : Int32} (hk : k < 13) : dCells (dNm d h a b) (j * 13 + k) = if j = h ∧ k = 5 then a else if j = h ∧ k = 6 then b else dCells d (j * 13 + k) := by
  unfold dNm
  rw [dSet_at (by decide) hk, dSet_at (by decide) hk]
  by_cases e5 : j = h ∧ k = 5
  · rw [if_neg (by omega), if_pos e5, if_pos e5]
  · rw [if_neg e5, if_neg e5]
theorem dEn_at {i t j c : Nat} {a b e v : Int32} (ht : t < 2) (hc : c < 13) : dCells (dEn d i t a b e v) (j * 13 + c) = if j = i ∧ c = 5 + (4 * t + 3) then v else if j = i ∧ c = 5 + (4 * t + 2) then e else if j = i ∧ c = 5 + (4 * t + 1) then b else if j = i ∧ c = 5 + 4 * t then a else dCells d (j * 13 + c) := by
  unfold dEn
  rw [dSet_at (by omega) hc, dSet_at (by omega) hc, dSet_at (by omega) hc, dSet_at (by omega) hc]
/-- the entry written, and what follows -/
theorem R_ad117 {i t hh x n : Nat} {d0 : DS} {r0 : RS} (h : RMp B d0 s r0 d r M i t) (hr : ¬ xSearch d0 (nI 1) 0 = -1) (x3 : 3 ≤ x) (x6 : x ≤ 60) (hh4 : hh < 40) (e : xSearch d0 (nI x) 0 = nI hh) (hx : bt (sRea s) x = false) (hn : n < 65536) : ∃ d' s' r' M', B_Scav_adopt_80 (dNm d hh (nI (n / 256)) (nI (n % 256))) f w m s (nI x) (nI hh) (nI (8 * i + 4 * t)) = some (1, (d', s')) ∧ (∀ L x2, B_Mod_adopt_117 L r 1 x2 (nI x) (nI (8 * i + 4 * t)) (nI n) = L r' 1 (x2 + 1)) ∧ ADp B d0 s r0 d' s' r' M' := by
  have hHD : HDp d0 → HDp d := fun z => z.room h hr
  obtain ⟨h1, i1, i2, i3, i4, i5, i6, i7, i8, i9, i10, i11⟩ := h
  have e' : xSearch d (nI x) 0 = nI hh := by rw [i10 x (by omega) x6]; exact e
  have hr' : ¬ xSearch d (nI 1) 0 = -1 := by rw [i10 1 (by decide) (by decide)]; exact hr
  obtain ⟨y, y1, y2, y3, y4, y5⟩ := found (d := d) (s := nI x) (p := 0) (nI_m1 (by omega)) (by rw [e']; exact nI_m1 (by omega))
  obtain rfl : y = hh := (nI_eq (by omega) (by omega)).mp (y2.symm.trans e')
  have hne : i ≠ y := fun q => by
    rw [q, y4] at i4
    have := (nI_eq (a := x) (b := 1) (by omega) (by decide)).mp i4
    omega
  obtain ⟨pd1, pd2⟩ := pl_div i1 i2
  obtain ⟨q1, q2⟩ := nm_q hn
  -- the class's state
  have hu1 : dUnr (dNm d y (nI (n / 256)) (nI (n % 256))) i = 0 := i3
  have hE : f_Disk_putEntry (dNm d y (nI (n / 256)) (nI (n % 256))) (nI i) (nI (4 * t)) (nI y) = ((), dEn (dNm d y (nI (n / 256)) (nI (n % 256))) i t (nI (n / 256)) (nI (n % 256)) (nI x) (nI y)) := C_putE i1 hu1 i2 y1 y3 hn (by omega) (by
      have := dNm_at (d := d) (h := y) (j := y) (k := 0) (a := nI (n / 256)) (b := nI (n % 256)) (by decide)
      rw [if_neg (by omega), if_neg (by omega)] at this
      exact this.trans y4) (by rw [dNm_at (by decide), if_pos ⟨rfl, rfl⟩]) (by rw [dNm_at (by decide), if_neg (by omega), if_pos ⟨rfl, rfl⟩])
  have hC : B_Scav_adopt_80 (dNm d y (nI (n / 256)) (nI (n % 256))) f w m s (nI x) (nI y) (nI (8 * i + 4 * t)) = B_Scav_adopt_98 (dNm (dEn d i t (nI (n / 256)) (nI (n % 256)) (nI x) (nI y)) y (nI (n / 256)) (nI (n % 256))) f w m s (nI x) (nI y) := by
    unfold B_Scav_adopt_80
    rw [pd2, pd1, hE, dEn_dNm hne i2]
  -- both states
  have s1 := h1.set (k := 4 * t) (b := n / 256) i1 (by omega) (by omega)
  have s2 := s1.set (k := 4 * t + 1) (b := n % 256) i1 (by omega) (by omega)
  have s3 := s2.set (k := 4 * t + 2) (b := x) i1 (by omega) (by omega)
  have s4 := s3.set (k := 4 * t + 3) (b := y) i1 (by omega) (by omega)
  have hRs := R_setE (r := r) i1 i2 (nI n) (nI x) (nI y)
  rw [q2, q1] at hRs
  have hOs : rO (rSet (rSet (rSet (rSet r i (5 + 4 * t) (nI (n / 256))) i (5 + (4 * t + 1)) (nI (n % 256))) i (5 + (4 * t + 2)) (nI x)) i (5 + (4 * t + 3)) (nI y)) = rO r := rO_setE _ _ _ _
  generalize rSet (rSet (rSet (rSet r i (5 + 4 * t) (nI (n / 256))) i (5 + (4 * t + 1)) (nI (n % 256))) i (5 + (4 * t + 2)) (nI x)) i (5 + (4 * t + 3)) (nI y) = r1 at s4 hRs hOs
  have s5 := s4.set (i := y) (k := 0) (b := n / 256) y1 (by decide) (by omega)
  have s6 := s5.set (i := y) (k := 1) (b := n % 256) y1 (by decide) (by omega)
  have hO2 : rO (rSet r1 y (5 + 0) (nI (n / 256))) = rO r := (rSet_O _ _ _ _).trans hOs
  have b1 : rSByt r1 (upd (rByt r1) (8 * y + 0) (nI (n / 256))) = rSet r1 y (5 + 0) (nI (n / 256)) := (rSetb _ _ _ _).symm
  generalize rSet r1 y (5 + 0) (nI (n / 256)) = r2 at s5 s6 hO2 b1
  have hO3 : rO (rSet r2 y (5 + 1) (nI (n % 256))) = rO r := (rSet_O _ _ _ _).trans hO2
  have b2 : rSByt r2 (upd (rByt r2) (8 * y + 1) (nI (n % 256))) = rSet r2 y (5 + 1) (nI (n % 256)) := (rSetb _ _ _ _).symm
  generalize rSet r2 y (5 + 1) (nI (n % 256)) = r3 at s6 hO3 b2
  have hF := h1.2.2.2.1.2 x (by omega) x6
  have hhd : ∀ r', rTab r' = rTab r → f_Mod_headOf r' (nI x) = some (nI y, ()) := fun r' ht => by rw [R_headOf ht hF x6, e']
  have hM : ∀ L x2, B_Mod_adopt_117 L r 1 x2 (nI x) (nI (8 * i + 4 * t)) (nI n) = B_Mod_adopt_173 L r3 1 x2 (nI x) := fun L x2 => by
    unfold B_Mod_adopt_117
    rw [hhd r rfl, bnd_some]
    unfold B_Mod_adopt_130
    rw [hRs, bnd_some]
    unfold B_Mod_adopt_133
    rw [hhd _ (rT_tab (rO_T hOs)), bnd_some]
    unfold B_Mod_adopt_144
    rw [show (8 * (nI y, ()).1 : Int32) = nI (8 * y + 0) from by8 y, if_pos (inB_nI (show 8 * y + 0 < 320 by omega) (by decide)), cl_nI (by omega), q1, b1]
    unfold B_Mod_adopt_152
    rw [hhd _ (rT_tab (rO_T hO2)), bnd_some]
    unfold B_Mod_adopt_163
    rw [show (8 * (nI y, ()).1 + 1 : Int32) = nI (8 * y + 1) from by show 8 * nI y + 1 = _; rw [by8, nI_1], if_pos (inB_nI (show 8 * y + 1 < 320 by omega) (by decide)), cl_nI (by omega), q2, b2]
  have hd4 : dNm (dEn d i t (nI (n / 256)) (nI (n % 256)) (nI x) (nI y)) y (nI (n / 256)) (nI (n % 256)) = dSet (dSet (dSet (dSet (dSet (dSet d i (5 + 4 * t) (nI (n / 256))) i (5 + (4 * t + 1)) (nI (n % 256))) i (5 + (4 * t + 2)) (nI x)) i (5 + (4 * t + 3)) (nI y)) y (5 + 0) (nI (n / 256))) y (5 + 1) (nI (n % 256)) := rfl
  rw [← hd4] at s6
  have hls : LSm d (dNm (dEn d i t (nI (n / 256)) (nI (n % 256)) (nI x) (nI y)) y (nI (n / 256)) (nI (n % 256))) := by
    rw [hd4]
    exact ((((((LSm.set (by omega) (by omega) _ i3).trans (LSm.set (by omega) (by omega) _ i3)).trans (LSm.set (by omega) (by omega) _ i3)).trans (LSm.set (by omega) (by omega) _ i3)).trans (LSm.set (by decide) (by decide) _ y3)).trans (LSm.set (by decide) (by decide) _ y3))
  have hat : ∀ j c, j < 40 → c < 13 → j ≠ y → ¬ (j = i ∧ 5 + 4 * t ≤ c ∧ c < 5 + 4 * t + 4) → dCells (dNm (dEn d i t (nI (n / 256)) (nI (n % 256)) (nI x) (nI y)) y (nI (n / 256)) (nI (n % 256))) (j * 13 + c) = dCells d (j * 13 + c) := fun j c hj hc hjy hjc => by
    rw [dNm_at hc, if_neg (by omega), if_neg (by omega), dEn_at i2 hc, if_neg (by omega), if_neg (by omega), if_neg (by omega), if_neg (by omega)]
  have hati : dCells (dNm (dEn d i t (nI (n / 256)) (nI (n % 256)) (nI x) (nI y)) y (nI (n / 256)) (nI (n % 256))) (i * 13 + (5 + (4 * t + 2))) = nI x := by
    rw [dNm_at (by omega), if_neg (by omega), if_neg (by omega), dEn_at i2 (by omega), if_neg (by omega), if_pos ⟨rfl, rfl⟩]
  generalize dNm (dEn d i t (nI (n / 256)) (nI (n % 256)) (nI x) (nI y)) y (nI (n / 256)) (nI (n % 256)) = d4 at hC s6 hls hat hati
  have hRO : RO d4 := by
    intro j hj uj c0 c1 t' ht'
    have ej : en d4 j = en d j := by
      unfold en vN
      rw [hls.1 j hj 2 (by decide)]
    rw [ej] at ht'
    have ht2 := en_le h1.2.1 hj
    rw [hls.2.1] at uj
    rw [show dCells d4 (j * 13) = dCells d (j * 13) from hls.1 j hj 0 (by decide)] at c0
    rw [hls.1 j hj 1 (by decide)] at c1
    have hjy : j ≠ y := fun q => by
      rw [q, y4] at c0
      have := (nI_eq (a := x) (b := 1) (by omega) (by decide)).mp c0
      omega
    by_cases q : j = i ∧ t' = t
    · obtain ⟨rfl, rfl⟩ := q
      unfold OKE
      rw [hati]
      exact fun z => absurd z (nI_ne0 (by omega) (by omega))
    · unfold OKE
      rw [hat j _ hj (by omega) hjy (by omega), hat j _ hj (by omega) hjy (by omega), hat j _ hj (by omega) hjy (by omega)]
      exact i7 j t' hj uj c0 c1 ht' q
  -- reached, counted
  unfold B_Mod_adopt_173 B_Mod_adopt_180 at hM
  have hM2 : ∀ L x2, B_Mod_adopt_117 L r 1 x2 (nI x) (nI (8 * i + 4 * t)) (nI n) = B_Mod_adopt_194 L (rSRep (rSRea r3 (upd (rRea r3) x 1)) (upd (rRep (rSRea r3 (upd (rRea r3) x 1))) 3 (rRep (rSRea r3 (upd (rRea r3) x 1)) 3 + 1))) 1 x2 (nI x) := fun L x2 => by
    rw [hM, if_pos (inB_nI (show x < 61 by omega) (by decide)), cl_nI (by omega), if_pos (by decide), if_pos (by decide)]
    rfl
  clear hM
  have R1' : upd (rRea r3) x 1 x = 1 := pk_us
  have R2' : ∀ a, a ≠ x → upd (rRea r3) x 1 a = rRea r3 a := fun a ha => pk_un ha
  generalize upd (rRea r3) x 1 = R at R1' R2' hM2
  rw [Rep_Rea] at hM2
  have p1 : upd (rRep r3) 3 (rRep r3 3 + 1) 3 = rRep r3 3 + 1 := pk_us
  have p2 : ∀ a, a ≠ 3 → upd (rRep r3) 3 (rRep r3 3 + 1) a = rRep r3 a := fun a ha => pk_un ha
  generalize upd (rRep r3) 3 (rRep r3 3 + 1) = P at p1 p2 hM2
  have eRea : rRea (rSRep (rSRea r3 R) P) = R := (Rea_Rep _ _).trans (Rea_Rea _ _)
  have eRep : rRep (rSRep (rSRea r3 R) P) = P := Rep_Rep _ _
  have eTab : rTab (rSRep (rSRea r3 R) P) = rTab r := ((Tab_Rep _ _).trans (Tab_Rea _ _)).trans (rT_tab (rO_T hO3))
  have eTab3 : rTab (rSRep (rSRea r3 R) P) = rTab r3 := (Tab_Rep _ _).trans (Tab_Rea _ _)
  have eMan3 : rMan (rSRep (rSRea r3 R) P) = rMan r3 := (Man_Rep _ _).trans (Man_Rea _ _)
  have eKep : rKep (rSRep (rSRea r3 R) P) = rKep r := ((Kep_Rep _ _).trans (Kep_Rea _ _)).trans (rT_kep (rO_T hO3))
  have eWas : rWas (rSRep (rSRea r3 R) P) = rWas r := ((Was_Rep _ _).trans (Was_Rea _ _)).trans (rT_was (rO_T hO3))
  have D3 : RDx (fun _ => False) d4 (rSRep (rSRea r3 R) P) := (s6.1.rea R).repS P
  generalize rSRep (rSRea r3 R) P = r6 at eRea eRep eTab eTab3 eMan3 eKep eWas D3 hM2
  obtain ⟨u1, u2, u3⟩ := ur_or (s := s) x3 x6 hx
  have hs6 : SF B d4 (sSRea (sSAdo s (sAdo s + 1)) (sRea s ||| (1 <<< ((nI x).toInt64 &&& 63)))) r6 M := by
    refine ⟨D3, s6.2.1, s6.2.2.1, s6.2.2.2.1.lab (fun _ _ _ _ => rfl) rfl eTab3 eMan3, ?_⟩
    obtain ⟨v1, v2, v3, v4, v5, v6⟩ := s6.2.2.2.2
    unfold SV
    rw [eRep, eRea, p1, p2 1 (by decide), p2 2 (by decide), p2 0 (by decide), p2 4 (by decide)]
    refine ⟨v1, v2, congrArg (· + 1) v3, v4, v5, fun k k1 k2 => ?_⟩
    show bt (sRea s ||| (1 <<< ((nI x).toInt64 &&& 63))) k = true ↔ _
    rw [bt_or, bt_oneS x (by omega) k (by omega), Bool.or_eq_true, decide_eq_true_iff]
    by_cases ek : k = x
    · subst ek
      rw [R1']
      exact ⟨fun _ => by decide, fun _ => Or.inr rfl⟩
    · rw [R2' k ek, ← v6 k k1 k2]
      exact ⟨fun z => z.elim id (fun z => absurd z ek), Or.inl⟩
  have hC2 : B_Scav_adopt_98 d4 f w m s (nI x) (nI y) = if ((f_Disk_isDirectory d4 (nI y)).1) = 0 then B_Scav_adopt_137 d4 f w m (sSRea (sSAdo s (sAdo s + 1)) (sRea s ||| (1 <<< ((nI x).toInt64 &&& 63)))) else bnd (F_Scav_walk 100 d4 f w m (sSRea (sSAdo s (sAdo s + 1)) (sRea s ||| (1 <<< ((nI x).toInt64 &&& 63)))) (nI x) 1) (fun q => B_Scav_adopt_137 q.2.1 f w m q.2.2) := rfl
  have u1' : ur (sSRea (sSAdo s (sAdo s + 1)) (sRea s ||| (1 <<< ((nI x).toInt64 &&& 63)))) + 1 = ur s := u1
  have u3' : bt (sRea (sSRea (sSAdo s (sAdo s + 1)) (sRea s ||| (1 <<< ((nI x).toInt64 &&& 63))))) x = true := u3
  generalize sSRea (sSAdo s (sAdo s + 1)) (sRea s ||| (1 <<< ((nI x).toInt64 &&& 63))) = s' at hs6 hC2 u1' u3'
  have hK4 : KE d0 r0 d4 r6 := i8.trans ⟨hls.2.1, hls.2.2.1, eKep, eWas, hls.2.2.2⟩
  have hS4 : ∀ sn p, sn ≤ 60 → xSearch d4 (nI sn) p = xSearch d (nI sn) p := fun sn p hs => hls.search (nI_m1 (by omega))
  obtain ⟨bd, bd1, bd2, bd3⟩ := X_isDir hs6.1 y1 (by rw [hls.2.1]; exact y3)
  have hM3 : ∀ L x2, B_Mod_adopt_194 L r6 1 x2 (nI x) = B_Mod_adopt_203 L r6 1 x2 (nI x) bd := fun L x2 => by
    unfold B_Mod_adopt_194
    rw [hhd r6 eTab, bnd_some]
    unfold B_Mod_adopt_200
    rw [show f_Mod_isDirectory r6 (nI y, ()).1 = _ from bd2, bnd_some]
  rw [hC, hC2, bd1]
  rcases bd3 with rfl | rfl
  · refine ⟨d4, s', r6, M, by rw [if_pos rfl]; rfl, fun L x2 => ?_, hs6, hRO, by rw [hS4 1 0 (by decide)]; exact hr', by omega, hK4, fun z => (hHD z).lab hls⟩
    rw [hM2, hM3]
    unfold B_Mod_adopt_203 B_Mod_adopt_211
    rw [if_pos rfl]
  · have hp1 : ¬ xSearch d4 (nI 1) (nI 1) = -1 := by
      have hF1 := h1.2.2.2.1.2 1 (by decide) (by decide)
      obtain ⟨p, p1, p2⟩ := hF1.2.2.2.2.2.1 i i1 i3 i4
      have hp : 1 ≤ p := by
        rcases Nat.eq_zero_or_pos p with z | z
        · rw [z] at p2; exact absurd p2 i5
        · exact z
      rw [hS4 1 _ (by decide)]
      exact (hF1.2.2.2.2.1 1 (by omega) (by omega)).2
    have hP : PTH d4 s' 1 x := PTH.one (by rw [hS4 1 _ (by decide)]; exact hr') hp1 x3 x6 (by rw [hS4 x _ x6, show xSearch d (nI x) (nI 0) = nI y from e']; exact nI_m1 (by omega)) u3'
    obtain ⟨d', s'', r', w1, w2, w3, -⟩ := R_walk (f := f) (w := w) (m := m) hs6 hP
    obtain ⟨a1, a2, a3, a4, a5, a6, a7, a8⟩ := w3
    refine ⟨d', s'', r', M, ?_, fun L x2 => ?_, a1, hRO.mono a2 a3 hs6.2.1, by rw [a2.search (by decide), hS4 1 0 (by decide)]; exact hr', by omega, hK4.trans ⟨a2.2.1, a2.2.2.1, a6, a7, a2.2.2.2⟩, fun z => ((hHD z).lab hls).lab a2⟩
    · rw [if_neg (show ¬ ((1 : Int32), ()).1 = 0 from (by decide : ¬ (1 : Int32) = 0)), show F_Scav_walk 100 d4 f w m s' (nI x) 1 = _ from w1, bnd_some]
      rfl
    · rw [hM2, hM3]
      unfold B_Mod_adopt_203 B_Mod_adopt_211
      rw [if_neg (by decide), w2, bnd_some]
end AD7
