/-! scavenging: the places of entries -/
section SD
variable {d d' : DS} {r r' : RS} {f : FS} {w : WS} {m : MS} {s : SS} {g : GS} {B : Nat} {E : Nat → Prop} {M : Nat → Nat}
/-- how many entries a page has -/
def en (d : DS) (i : Nat) : Nat := vN d i 2 / 4
theorem en_use (I : IV B d) {i : Nat} (hi : i < 40) : dCells d (i * 13 + 2) = nI (vN d i 2) ∧ vN d i 2 ≤ 8 := (I.2 i hi).2.1 2 (by decide) (by decide) (by decide)
/-- the place of an entry: page and slot, or none -/
def PL (d : DS) (sn k : Nat) (v : Int32) : Prop := (v = -1 ∧ ∀ i, i < 40 → xSearch d (nI sn) (nI (k / 2 + 1)) = nI i → en d i ≤ k % 2) ∨ (∃ i, i < 40 ∧ dUnr d i = 0 ∧ dCells d (i * 13) = nI sn ∧ dCells d (i * 13 + 1) = nI (k / 2 + 1) ∧ xSearch d (nI sn) (nI (k / 2 + 1)) = nI i ∧ k % 2 < en d i ∧ v = nI (8 * i + 4 * (k % 2)))
theorem C_place (I : IV B d) {sn k : Nat} (hs1 : 1 ≤ sn) (hs : sn ≤ 60) (hk : k < 1000) : ∃ v, f_Scav_entryPlace d f w m s (nI sn) (nI k) = (v, ()) ∧ PL d sn k v := by
  unfold f_Scav_entryPlace B_Scav_entryPlace_46
  have e1 : (nI k / 2 + 1 : Int32) = nI (k / 2 + 1) := by rw [show (2 : Int32) = nI 2 from rfl, pk_div (by omega) (by decide) (by decide), nI_1]
  have e2 : (nI k - nI k / 2 * 2 : Int32) = nI (k % 2) := by rw [show (2 : Int32) = nI 2 from rfl]; exact pk_rem (by omega) (by decide) (by decide)
  rw [e1, e2]
  rcases hd_cases (d := d) (nI sn) (nI (k / 2 + 1)) with e | ⟨i, i1, e⟩
  · rw [e, if_pos rfl]
    exact ⟨-1, rfl, Or.inl ⟨rfl, fun i hi q => absurd (q.symm.trans e) (nI_m1 (by omega))⟩⟩
  · rw [e, if_neg (nI_m1 (by omega))]
    obtain ⟨j, j1, j2, j3, j4, j5⟩ := found (d := d) (s := nI sn) (p := nI (k / 2 + 1)) (nI_m1 (by omega)) (by rw [e]; exact nI_m1 (by omega))
    have ej : j = i := (nI_eq (by omega) (by omega)).mp (j2.symm.trans e)
    subst ej
    obtain ⟨u1, u2⟩ := en_use I j1
    have een : f_Disk_entriesIn d (nI j) = (nI (en d j), ()) := by
      unfold f_Disk_entriesIn
      rw [xc1 j1 j3, xc2 j1 j3, j5, if_pos (nI_ne0 (by omega) (by omega)), u1, show (4 : Int32) = nI 4 from rfl, pk_div (by omega) (by decide) (by decide)]
      rfl
    rw [een]
    by_cases h : en d j ≤ k % 2
    · rw [if_pos (show (nI (en d j), ()).1 ≤ nI (k % 2) from nI_le h (by omega))]
      refine ⟨-1, rfl, Or.inl ⟨rfl, fun i hi q => ?_⟩⟩
      have : i = j := (nI_eq (by omega) (by omega)).mp (q.symm.trans e)
      rw [this]; exact h
    · have hle : en d j ≤ 2 := by unfold en; omega
      rw [if_neg (show ¬ (nI (en d j), ()).1 ≤ nI (k % 2) from nI_ge (by omega) (by omega))]
      refine ⟨_, rfl, Or.inr ⟨j, j1, j3, j4, j5, e, by omega, ?_⟩⟩
      rw [show (8 : Int32) = nI 8 from rfl, pk_mul, show (4 : Int32) = nI 4 from rfl, pk_mul, nI_add, Nat.mul_comm j 8, Nat.mul_comm (k % 2) 4]
/-- the entries of a page gone through -/
theorem R_pl19 {r5 : RS → Int32 → Int32 → Int32 → Int32 → Option (Int32 × Unit)} {sn k N p i : Nat} (hk : k < 1000) (hN : N < 1000) (hi : i < 40) (epg : f_Mod_pageAt r (nI sn) (nI p) = some (nI i, ())) (eu : (rUse r (nI i).toNatClampNeg / 4 : Int32) = nI (en d i)) (hle : en d i ≤ 2) : ∀ t e, e + t = en d i → ∀ n, t < n → L_Mod_place_19 r5 n r (nI sn) (nI k) (nI (N + e)) (nI p) (nI e) = if N + e ≤ k ∧ k < N + en d i then some (nI (8 * i + 4 * (k - N)), ()) else r5 r (nI sn) (nI k) (nI (N + en d i)) (nI (p + 1)) := by
  intro t
  induction t with
  | zero =>
    intro e he n hn
    obtain ⟨c, rfl⟩ : ∃ c, n = c + 1 := ⟨n - 1, by omega⟩
    obtain rfl : e = en d i := by omega
    rw [L_Mod_place_19, epg, bnd_some, if_neg (by omega)]
    unfold B_Mod_place_32
    rw [if_pos (show inB (nI i, ()).1 40 from inB_nI hi (by decide)), show (rUse r (nI i, ()).1.toNatClampNeg / 4 : Int32) = _ from eu, if_pos (Int32.le_refl _), nI_1]
  | succ t ih =>
    intro e he n hn
    obtain ⟨c, rfl⟩ : ∃ c, n = c + 1 := ⟨n - 1, by omega⟩
    rw [L_Mod_place_19, epg, bnd_some]
    unfold B_Mod_place_32
    rw [if_pos (show inB (nI i, ()).1 40 from inB_nI hi (by decide)), show (rUse r (nI i, ()).1.toNatClampNeg / 4 : Int32) = _ from eu, if_neg (nI_ge (by omega) (by omega))]
    by_cases q : N + e = k
    · rw [if_neg (not_not_intro (show nI (N + e) = nI k by rw [q])), epg, bnd_some, if_pos ⟨by omega, by omega⟩]
      unfold B_Mod_place_52
      rw [show (8 : Int32) = nI 8 from rfl, show (4 : Int32) = nI 4 from rfl]
      show some ((nI 8 * nI i + nI 4 * nI e), ()) = _
      rw [pk_mul, pk_mul, nI_add, show k - N = e by omega]
    · rw [if_pos (fun z => q ((nI_eq (by omega) (by omega)).mp z)), nI_1, nI_1, show N + e + 1 = N + (e + 1) by omega, ih (e + 1) (by omega) c (by omega)]
      by_cases z : N + (e + 1) ≤ k ∧ k < N + en d i
      · rw [if_pos z, if_pos ⟨by omega, z.2⟩]
      · rw [if_neg z, if_neg (fun z2 => z ⟨by omega, z2.2⟩)]
/-- the reference's place, page by page -/
theorem R_placeL (h : SI E B d s r M) {sn k : Nat} (hs1 : 1 ≤ sn) (hs : sn ≤ 60) (hk : k < 500) : ∀ j p, p + j = k / 2 + 1 → 1 ≤ p → ∀ n, j + 2 < n → p ≤ M sn + 1 → ∃ v, L_Mod_place_5 n r (nI sn) (nI k) (nI (2 * (p - 1))) (nI p) = some (v, ()) ∧ PL d sn k v := by
  obtain ⟨hR, I, X, hK, hV⟩ := h
  have hF := hK.2 sn hs1 hs
  have hF' := hF
  obtain ⟨k1, k2, k3, k4, k5, k6, k7⟩ := hF
  have hsin : inB (nI sn) 61 := inB_nI (by omega) (by decide)
  have hscl : (nI sn).toNatClampNeg = sn := cl_nI (by omega)
  have hsn : ¬ nI sn = -1 := nI_m1 (by omega)
  -- behind the last page
  have hend : ∀ n p N, 0 < n → M sn < p → p < 1000 → L_Mod_place_5 n r (nI sn) (nI k) N (nI p) = some (-1, ()) := fun n p N hn hp hp2 => by
    obtain ⟨c, rfl⟩ : ∃ c, n = c + 1 := ⟨n - 1, by omega⟩
    rw [L_Mod_place_5, if_pos hsin, hscl, k3, if_pos (nI_lt hp (by omega))]
  have hnone : M sn < k / 2 + 1 → PL d sn k (-1) := fun hb => Or.inl ⟨rfl, fun i hi q => by
    rw [hF'.beyond hs hb (by omega)] at q
    exact absurd q.symm (nI_m1 (by omega))⟩
  intro j
  induction j with
  | zero =>
    intro p hp hp1 n hn hpM
    obtain ⟨c, rfl⟩ : ∃ c, n = c + 1 := ⟨n - 1, by omega⟩
    have hpk : p = k / 2 + 1 := by omega
    by_cases hb : p ≤ M sn
    · obtain ⟨t1, t2⟩ := k5 p hp1 hb
      obtain ⟨i, i1, i2, i3, i4, i5⟩ := found (d := d) (s := nI sn) (p := nI p) hsn t2
      obtain ⟨u1, u2⟩ := en_use I i1
      have epg : f_Mod_pageAt r (nI sn) (nI p) = some (nI i, ()) := by
        unfold f_Mod_pageAt
        rw [ix40, if_pos (inB_nI (show 40 * sn + p < 2440 by omega) (by decide)), cl_nI (by omega), t1, i2, Int32.add_sub_cancel]
      have eu : (rUse r (nI i).toNatClampNeg / 4 : Int32) = nI (en d i) := by
        rw [cl_nI (by omega), ← hR.use i1, u1, show (4 : Int32) = nI 4 from rfl, pk_div (by omega) (by decide) (by decide)]; rfl
      have hle : en d i ≤ 2 := by unfold en; omega
      rw [L_Mod_place_5, if_pos hsin, hscl, k3, if_neg (nI_nlt hb (by omega)), show (0 : Int32) = nI 0 from rfl, show nI (2 * (p - 1)) = nI (2 * (p - 1) + 0) from rfl, R_pl19 (d := d) (by omega) (by omega) i1 epg eu hle (en d i) 0 (by omega) 1000 (by omega)]
      rw [hpk] at i2 i5
      by_cases q : k % 2 < en d i
      · rw [if_pos ⟨by omega, by omega⟩]
        refine ⟨_, rfl, Or.inr ⟨i, i1, i3, i4, i5, i2, q, ?_⟩⟩
        rw [show k - 2 * (p - 1) = k % 2 by omega]
      · rw [if_neg (fun z => q (by omega))]
        have hpM' : p = M sn := by
          apply Classical.byContradiction
          intro z
          obtain ⟨i', a1, a2, a3⟩ := k7 p hp1 (by omega)
          rw [← hpk] at i2
          have : i' = i := (nI_eq (by omega) (by omega)).mp (a2.symm.trans i2)
          subst this
          rw [u1] at a3
          have a4 := (nI_eq (b := 8) (by omega) (by decide)).mp a3
          unfold en at q
          rw [a4] at q
          omega
        rw [hend c (p + 1) _ (by omega) (by omega) (by omega)]
        refine ⟨-1, rfl, Or.inl ⟨rfl, fun i' hi' q' => ?_⟩⟩
        have : i' = i := (nI_eq (by omega) (by omega)).mp (q'.symm.trans i2)
        rw [this]; omega
    · rw [hend (c + 1) p _ (by omega) (by omega) (by omega)]
      exact ⟨-1, rfl, hnone (by omega)⟩
  | succ j ih =>
    intro p hp hp1 n hn hpM
    obtain ⟨c, rfl⟩ : ∃ c, n = c + 1 := ⟨n - 1, by omega⟩
    by_cases hb : p ≤ M sn
    · obtain ⟨t1, t2⟩ := k5 p hp1 hb
      obtain ⟨i, i1, i2, i3, i4, i5⟩ := found (d := d) (s := nI sn) (p := nI p) hsn t2
      obtain ⟨u1, u2⟩ := en_use I i1
      have epg : f_Mod_pageAt r (nI sn) (nI p) = some (nI i, ()) := by
        unfold f_Mod_pageAt
        rw [ix40, if_pos (inB_nI (show 40 * sn + p < 2440 by omega) (by decide)), cl_nI (by omega), t1, i2, Int32.add_sub_cancel]
      have eu : (rUse r (nI i).toNatClampNeg / 4 : Int32) = nI (en d i) := by
        rw [cl_nI (by omega), ← hR.use i1, u1, show (4 : Int32) = nI 4 from rfl, pk_div (by omega) (by decide) (by decide)]; rfl
      have hle : en d i ≤ 2 := by unfold en; omega
      rw [L_Mod_place_5, if_pos hsin, hscl, k3, if_neg (nI_nlt hb (by omega)), show (0 : Int32) = nI 0 from rfl, show nI (2 * (p - 1)) = nI (2 * (p - 1) + 0) from rfl, R_pl19 (d := d) (by omega) (by omega) i1 epg eu hle (en d i) 0 (by omega) 1000 (by omega), if_neg (by omega)]
      by_cases hl : p = M sn
      · rw [hend c (p + 1) _ (by omega) (by omega) (by omega)]
        exact ⟨-1, rfl, hnone (by omega)⟩
      · obtain ⟨i', a1, a2, a3⟩ := k7 p hp1 (by omega)
        have : i' = i := (nI_eq (by omega) (by omega)).mp (a2.symm.trans i2)
        subst this
        rw [u1] at a3
        have a4 := (nI_eq (b := 8) (by omega) (by decide)).mp a3
        have a5 : en d i' = 2 := by unfold en; rw [a4]
        rw [a5, show 2 * (p - 1) + 2 = 2 * (p + 1 - 1) by omega]
        exact ih (p + 1) (by omega) (by omega) c (by omega) (by omega)
    · rw [hend (c + 1) p _ (by omega) (by omega) (by omega)]
      exact ⟨-1, rfl, hnone (by omega)⟩
theorem PL.det (I : IV B d) {sn k : Nat} {v v' : Int32} (h : PL d sn k v) (h' : PL d sn k v') : v = v' := by
  rcases h with ⟨a1, a2⟩ | ⟨i, i1, i2, i3, i4, i5, i6, i7⟩
  · rcases h' with ⟨b1, b2⟩ | ⟨j, j1, j2, j3, j4, j5, j6, j7⟩
    · rw [a1, b1]
    · have := a2 j j1 j5; omega
  · rcases h' with ⟨b1, b2⟩ | ⟨j, j1, j2, j3, j4, j5, j6, j7⟩
    · have := b2 i i1 i5; omega
    · have : i = j := (nI_eq (by omega) (by omega)).mp (i5.symm.trans j5)
      rw [i7, j7, this]
/-- the same place on both sides -/
theorem R_place (h : SI E B d s r M) {sn k : Nat} (hs1 : 1 ≤ sn) (hs : sn ≤ 60) (hk : k < 500) : ∃ v, f_Scav_entryPlace d f w m s (nI sn) (nI k) = (v, ()) ∧ f_Mod_place r (nI sn) (nI k) = some (v, ()) ∧ PL d sn k v := by
  obtain ⟨v, a1, a2⟩ := C_place (f := f) (w := w) (m := m) (s := s) h.2.1 hs1 hs (show k < 1000 by omega)
  obtain ⟨v', b1, b2⟩ := R_placeL h hs1 hs hk (k / 2) 1 (by omega) (Nat.le_refl _) 1000 (by omega) (by omega)
  have e := a2.det h.2.1 b2
  subst e
  exact ⟨v, a1, b1, a2⟩
end SD
