/-! scavenging: searches by the labels alone; which pages are kept -/
def LB (d : DS) (r : RS) : Prop := ∀ i, i < 40 → dCells d (i * 13) = rSer r i ∧ dCells d (i * 13 + 1) = rPag r i ∧ dUnr d i = rBad r i
section S1
variable {d : DS} {r : RS} {f : FS} {w : WS} {m : MS} {s : SS} {B : Nat}
theorem RD.lb (h : RD d r) : LB d r := fun i hi => ⟨h.ser hi, h.pag hi, h.bad hi⟩
theorem L_says (h : LB d r) (x s p : Int32) (hs : ¬ s = -1) : f_Mod_says r x s p = some (if lk d x s p = true then 1 else 0, ()) := by
  unfold f_Mod_says B_Mod_says_43 lk
  rcases i40 x with hx | ⟨i, hi, rfl⟩
  · rw [if_pos ((in40 x).mpr hx), xco hx, if_neg (by simp [Ne.symm hs])]
  · rw [if_neg (fun q => ((in40 _).mp q).elim (nI_pos (by omega)) (gn 40 hi)), if_pos (inB_nI hi (by decide)), if_pos (inB_nI hi (by decide)), if_pos (inB_nI hi (by decide)), cl_nI (by omega), ← (h i hi).2.2]
    by_cases hu : dUnr d i = 0
    · rw [if_neg (fun q => q hu), xc0 hi hu, xc1 hi hu, ← (h i hi).1, ← (h i hi).2.1]
      by_cases h1 : dCells d (i * 13) = s
      · rw [if_neg (fun q => q h1)]
        by_cases h2 : dCells d (i * 13 + 1) = p
        · rw [if_neg (fun q => q h2), if_pos (decide_eq_true ⟨h1, h2⟩)]
        · rw [if_pos h2, if_neg (by simp [h2])]
      · rw [if_pos h1, if_neg (by simp [h1])]
    · rw [if_pos hu, xcu hi hu, if_neg (by simp [Ne.symm hs])]
theorem L_searchL (h : LB d r) (s p : Int32) (hs : ¬ s = -1) : ∀ k, k ≤ 40 → ∀ n, k < n → ∀ x3, L_Mod_search_6 n r s p x3 (nI k - 1) = some (fsM (fsF (xSays d s p) 0 k) nI x3, ()) := by
  intro k
  induction k with
  | zero =>
    intro _ n hn x3
    obtain ⟨m, rfl⟩ : ∃ m, n = m + 1 := ⟨n - 1, by omega⟩
    rw [L_Mod_search_6, if_pos (show nI 0 - 1 < 0 by decide)]
    rfl
  | succ k ih =>
    intro hk n hn x3
    obtain ⟨m, rfl⟩ : ∃ m, n = m + 1 := ⟨n - 1, by omega⟩
    rw [nI_pred, L_Mod_search_6, if_neg (nI_pos (by omega)), L_says h _ s p hs, bnd_some, fsF_snoc]
    unfold B_Mod_search_19 B_Mod_search_28
    have e1 : nI k + -1 = nI k - 1 := by rw [Int32.sub_eq_add_neg]
    have e2 : lk d (nI k) s p = xSays d s p k := rfl
    rw [e1, e2, Nat.zero_add]
    cases hp : xSays d s p k
    · rw [if_pos (by rfl), ih (by omega) m (by omega) x3]
      cases fsF (xSays d s p) 0 k <;> rfl
    · rw [if_neg (by decide), ih (by omega) m (by omega) (nI k)]
      cases fsF (xSays d s p) 0 k <;> rfl
theorem L_search (h : LB d r) (s p : Int32) (hs : ¬ s = -1) : f_Mod_search r s p = some (xSearch d s p, ()) :=
  L_searchL h s p hs 40 (Nat.le_refl _) 1000 (by decide) (-1)
theorem L_isFree (h : LB d r) {i : Nat} (hi : i < 40) : f_Mod_isFree r (nI i) = some (if xFree d (nI i) = true then 1 else 0, ()) := by
  unfold f_Mod_isFree B_Mod_isFree_22
  rw [if_pos (inB_nI hi (by decide)), if_pos (inB_nI hi (by decide)), cl_nI (by omega), ← (h i hi).2.2, ← (h i hi).1]
  by_cases hu : dUnr d i = 0
  · rw [if_neg (not_not_intro hu)]
    by_cases h0 : dCells d (i * 13) = 0
    · rw [if_neg (not_not_intro h0), if_pos ((free_iff hi hu).mpr h0)]
    · rw [if_pos h0, if_neg (fun q => h0 ((free_iff hi hu).mp q))]
  · rw [if_pos hu, freeU hi hu]; rfl
theorem L_lowFreeL (h : LB d r) : ∀ k, k ≤ 40 → ∀ n, k < n → ∀ x1, L_Mod_lowestFree_5 n r x1 (nI k - 1) = some (fsM (fsF (fun i => xFree d (nI i)) 0 k) nI x1, ()) := by
  intro k
  induction k with
  | zero =>
    intro _ n hn x3
    obtain ⟨m, rfl⟩ : ∃ m, n = m + 1 := ⟨n - 1, by omega⟩
    rw [L_Mod_lowestFree_5, if_pos (show nI 0 - 1 < 0 by decide)]
    rfl
  | succ k ih =>
    intro hk n hn x3
    obtain ⟨m, rfl⟩ : ∃ m, n = m + 1 := ⟨n - 1, by omega⟩
    rw [nI_pred, L_Mod_lowestFree_5, if_neg (nI_pos (by omega)), L_isFree h (show k < 40 by omega), bnd_some, fsF_snoc]
    unfold B_Mod_lowestFree_14 B_Mod_lowestFree_22
    have e1 : nI k + -1 = nI k - 1 := by rw [Int32.sub_eq_add_neg]
    rw [e1, Nat.zero_add]
    cases hp : xFree d (nI k)
    · rw [if_pos (by rfl), ih (by omega) m (by omega) x3]
      cases fsF (fun i => xFree d (nI i)) 0 k <;> rfl
    · rw [if_neg (by decide), ih (by omega) m (by omega) (nI k)]
      cases fsF (fun i => xFree d (nI i)) 0 k <;> rfl
theorem L_lowFree (h : LB d r) : f_Mod_lowestFree r = some (xLowFree d, ()) :=
  L_lowFreeL h 40 (Nat.le_refl _) 1000 (by decide) (-1)
theorem xLowFree_spec (d : DS) : (xLowFree d = -1 ∧ ∀ i, i < 40 → xFree d (nI i) = false) ∨ ∃ i, i < 40 ∧ xLowFree d = nI i ∧ xFree d (nI i) = true := by
  have h := fsF_spec (fun i => xFree d (nI i)) 40 0
  have e : xLowFree d = fsM (fsF (fun i => xFree d (nI i)) 0 40) nI (-1) := rfl
  cases hf : fsF (fun i => xFree d (nI i)) 0 40 with
  | none =>
    rw [hf] at h e
    exact Or.inl ⟨e, fun i hi => h i (by omega) (by omega)⟩
  | some j =>
    rw [hf] at h e
    exact Or.inr ⟨j, by omega, e, h.2.2.1⟩
/-- how many pages of a file are kept -/
def KM (d : DS) (s m : Nat) : Prop := m ≤ 39 ∧ (s = 2 → m ≤ 1) ∧ (∀ p, 1 ≤ p → p ≤ m → ¬ xSearch d (nI s) (nI p) = -1) ∧ (∀ p, 1 ≤ p → p < m → 8 ≤ xCell d (xSearch d (nI s) (nI p)) 2) ∧ (xSearch d (nI s) (nI (m + 1)) = -1 ∨ (s = 2 ∧ m = 1) ∨ (1 ≤ m ∧ ¬ 8 ≤ xCell d (xSearch d (nI s) (nI m)) 2))
theorem found {s p : Int32} (hs : ¬ s = -1) (h : ¬ xSearch d s p = -1) : ∃ i, i < 40 ∧ xSearch d s p = nI i ∧ dUnr d i = 0 ∧ dCells d (i * 13) = s ∧ dCells d (i * 13 + 1) = p := by
  rcases xSearch_spec d s p hs with ⟨q, -⟩ | ⟨i, i1, i2, i3, i4, i5, -⟩
  · exact absurd q h
  · exact ⟨i, i1, i2, i3, i4, i5⟩
/-- no forty pages behind a leader's -/
theorem no40 (X : IX d) {s : Nat} (hs : s < 1000) (h : ∀ p, 1 ≤ p → p ≤ 40 → ¬ xSearch d (nI s) (nI p) = -1) : False := by
  have hs' : ¬ nI s = -1 := nI_m1 (by omega)
  have hf : ∀ q, q < 40 → ∃ i, i < 40 ∧ i ≠ 0 ∧ dCells d (i * 13 + 1) = nI (q + 1) := fun q hq => by
    obtain ⟨i, i1, i2, i3, i4, i5⟩ := found hs' (h (q + 1) (by omega) (by omega))
    refine ⟨i, i1, fun z => ?_, i5⟩
    subst z
    rcases X.2.1 with z | z
    · exact z i3
    · rw [show 0 * 13 + 1 = 1 from rfl, z.2] at i5
      exact absurd ((nI_eq (a := 0) (by decide) (by omega)).mp i5) (by omega)
  have hc : ∀ q, ∃ j, q < 40 → j < 39 ∧ dCells d ((j + 1) * 13 + 1) = nI (q + 1) := fun q => by
    by_cases hq : q < 40
    · obtain ⟨i, i1, i2, i3⟩ := hf q hq
      exact ⟨i - 1, fun _ => ⟨by omega, by rw [show i - 1 + 1 = i by omega]; exact i3⟩⟩
    · exact ⟨0, fun q' => absurd q' hq⟩
  obtain ⟨a, b, ab, b1, e⟩ := pig 39 (fun q => Classical.choose (hc q)) (fun q hq => (Classical.choose_spec (hc q) hq).1)
  have ea := (Classical.choose_spec (hc a) (by omega)).2
  have eb := (Classical.choose_spec (hc b) b1).2
  have e' : Classical.choose (hc a) = Classical.choose (hc b) := e
  rw [e'] at ea
  have := (nI_eq (by omega) (by omega)).mp (ea.symm.trans eb)
  omega
theorem RD.tm (h : RD d r) (t mn : Nat → Int32) : RD d (rSMan (rSTab r t) mn) := (h.tab t).man mn
theorem tm_sw (r : RS) (A N : Nat → Int32) : rSTab (rSMan r A) N = rSMan (rSTab r N) A := by
  rw [P_Tab (rSMan r A) N, Ser_Man, Pag_Man, Use_Man, Nex_Man, Bef_Man, Byt_Man, Bad_Man, Kep_Man, Mar_Man, Rep_Man, Row_Man, Man_Man, Rea_Man, Wal_Man, Rch_Man, Was_Man, I_Man, P_Man (rSTab r N) A, Ser_Tab, Pag_Tab, Use_Tab, Nex_Tab, Bef_Tab, Byt_Tab, Bad_Tab, Kep_Tab, Mar_Tab, Rep_Tab, Row_Tab, Tab_Tab, Rea_Tab, Wal_Tab, Rch_Tab, Was_Tab, I_Tab]
theorem tm_tm (r : RS) (A N t mn : Nat → Int32) : rSMan (rSTab (rSMan (rSTab r A) N) t) mn = rSMan (rSTab r t) mn := by
  rw [tm_sw, S_Tab_Tab, S_Man_Man]
theorem tm_id (r : RS) : rSMan (rSTab r (rTab r)) (rMan r) = r := by
  rw [S_Tab_id, S_Man_id]
/-- the table's row of a file -/
def TB (d : DS) (s m : Nat) (t : Nat → Int32) (mn : Nat → Int32) : Prop := mn s = nI m ∧ t (40 * s) = xSearch d (nI s) 0 + 1 ∧ ∀ p, 1 ≤ p → p ≤ m → t (40 * s + p) = xSearch d (nI s) (nI p) + 1
theorem ix40 {s p : Nat} : (40 * nI s + nI p : Int32) = nI (40 * s + p) := by
  rw [show (40 : Int32) = nI 40 from rfl, pk_mul, nI_add]
theorem ix40h {s : Nat} : (40 * nI s : Int32) = nI (40 * s) := by
  rw [show (40 : Int32) = nI 40 from rfl, pk_mul]
theorem R_keepL {s : Nat} (X : IX d) (hs1 : 1 ≤ s) (hs : s ≤ 60) : ∀ j p, p + j = 40 → 1 ≤ p → ∀ n, j + 1 < n → ∀ r, RD d r → rMan r s = nI (p - 1) → rTab r (40 * s) = xSearch d (nI s) 0 + 1 → (∀ q, 1 ≤ q → q < p → rTab r (40 * s + q) = xSearch d (nI s) (nI q) + 1 ∧ ¬ xSearch d (nI s) (nI q) = -1) → (∀ q, 1 ≤ q → q + 1 < p → 8 ≤ xCell d (xSearch d (nI s) (nI q)) 2) → (s = 2 → p ≤ 2) →
    ∃ t mn m, L_Mod_keep_28 n r (nI s) 1 (nI p) = some ((), rSMan (rSTab r t) mn) ∧ KM d s m ∧ TB d s m t mn ∧ (∀ a, ¬ (40 * s ≤ a ∧ a < 40 * s + 40) → t a = rTab r a) ∧ (∀ a, a ≠ s → mn a = rMan r a) := by
  have hsn : ¬ nI s = -1 := nI_m1 (by omega)
  have hsin : inB (nI s) 61 := inB_nI (by omega) (by decide)
  have hscl : (nI s).toNatClampNeg = s := cl_nI (by omega)
  intro j
  induction j with
  | zero =>
    intro p hp hp1 n hn r h hm ht0 ht hu h2
    obtain ⟨c, rfl⟩ : ∃ c, n = c + 1 := ⟨n - 1, by omega⟩
    obtain rfl : p = 40 := by omega
    rw [L_Mod_keep_28, if_pos (gy 40 (N := 40))]
    refine ⟨rTab r, rMan r, 39, by rw [tm_id], ⟨by omega, fun z => ?_, fun q q1 q2 => (ht q q1 (by omega)).2, fun q q1 q2 => hu q q1 (by omega), Or.inl ?_⟩, ⟨hm, ht0, fun q q1 q2 => (ht q q1 (by omega)).1⟩, fun _ _ => rfl, fun _ _ => rfl⟩
    · have := h2 z; omega
    · apply Classical.byContradiction
      intro z
      exact no40 X (show s < 1000 by omega) (fun q q1 q2 => by
        by_cases e : q = 40
        · rw [e]; exact z
        · exact (ht q q1 (by omega)).2)
  | succ j ih =>
    intro p hp hp1 n hn r h hm ht0 ht hu h2
    obtain ⟨c, rfl⟩ : ∃ c, n = c + 1 := ⟨n - 1, by omega⟩
    have hp40 : p < 40 := by omega
    have hidx : inB (40 * nI s + nI p) 2440 := by rw [ix40]; exact inB_nI (by omega) (by decide)
    have hidc : (40 * nI s + nI p : Int32).toNatClampNeg = 40 * s + p := by rw [ix40]; exact cl_nI (by omega)
    -- an end at this page
    have hend : (xSearch d (nI s) (nI p) = -1 ∨ (s = 2 ∧ p = 2) ∨ (2 ≤ p ∧ ¬ 8 ≤ xCell d (xSearch d (nI s) (nI (p - 1))) 2)) → ∃ t mn m, B_Mod_keep_93 (L_Mod_keep_28 c) r (nI s) (nI p) (-1) 0 = some ((), rSMan (rSTab r t) mn) ∧ KM d s m ∧ TB d s m t mn ∧ (∀ a, ¬ (40 * s ≤ a ∧ a < 40 * s + 40) → t a = rTab r a) ∧ (∀ a, a ≠ s → mn a = rMan r a) := by
      intro hst
      unfold B_Mod_keep_93 B_Mod_keep_109 B_Mod_keep_128 B_Mod_keep_129
      rw [if_pos hidx, hidc, if_pos rfl, if_pos hsin, if_pos hsin, hscl, nI_1]
      obtain ⟨c, rfl⟩ : ∃ c', c = c' + 1 := ⟨c - 1, by omega⟩
      have e0 : ∀ r', L_Mod_keep_28 (c + 1) r' (nI s) 0 (nI (p + 1)) = some ((), r') := fun r' => by
        rw [L_Mod_keep_28]
        by_cases z : (40 : Int32) ≤ nI (p + 1)
        · rw [if_pos z]
        · rw [if_neg z, if_pos rfl]
      rw [e0]
      have g1 : ∀ a, a ≠ 40 * s + p → upd (rTab r) (40 * s + p) (-1 + 1) a = rTab r a := fun a ha => pk_un ha
      generalize upd (rTab r) (40 * s + p) (-1 + 1) = T at g1 ⊢
      show ∃ t mn m, some ((), rSMan (rSTab r T) (upd (rMan r) s (rMan r s))) = _ ∧ _
      have g2 : ∀ a, upd (rMan r) s (rMan r s) a = rMan r a := fun a => by
        by_cases z : a = s
        · rw [z, pk_us]
        · rw [pk_un z]
      generalize upd (rMan r) s (rMan r s) = N at g2 ⊢
      refine ⟨T, N, p - 1, rfl, ⟨by omega, fun z => by have := h2 z; omega, fun q q1 q2 => (ht q q1 (by omega)).2, fun q q1 q2 => hu q q1 (by omega), ?_⟩, ⟨by rw [g2]; exact hm, by rw [g1 _ (by omega)]; exact ht0, fun q q1 q2 => by rw [g1 _ (by omega)]; exact (ht q q1 (by omega)).1⟩, fun a ha => g1 a (by omega), fun a _ => g2 a⟩
      rcases hst with z | ⟨z1, z2⟩ | ⟨z1, z2⟩
      · rw [show p - 1 + 1 = p by omega]; exact Or.inl z
      · exact Or.inr (Or.inl ⟨z1, by omega⟩)
      · exact Or.inr (Or.inr ⟨by omega, z2⟩)
    -- the page is looked for
    have h75 : (s = 2 → p ≤ 1) → (2 ≤ p → 8 ≤ xCell d (xSearch d (nI s) (nI (p - 1))) 2) → ∃ t mn m, B_Mod_keep_75 (L_Mod_keep_28 c) r (nI s) (nI p) = some ((), rSMan (rSTab r t) mn) ∧ KM d s m ∧ TB d s m t mn ∧ (∀ a, ¬ (40 * s ≤ a ∧ a < 40 * s + 40) → t a = rTab r a) ∧ (∀ a, a ≠ s → mn a = rMan r a) := by
      intro hs2 hu8
      unfold B_Mod_keep_75 B_Mod_keep_81
      rw [L_search h.lb _ _ hsn, bnd_some]
      by_cases hv : xSearch d (nI s) (nI p) = -1
      · rw [if_pos (show (xSearch d (nI s) (nI p), ()).1 < 0 by show xSearch d (nI s) (nI p) < 0; rw [hv]; decide)]
        have := hend (Or.inl hv)
        rw [← hv] at this
        exact this
      · obtain ⟨i, i1, i2, -⟩ := found hsn hv
        rw [if_neg (show ¬ (xSearch d (nI s) (nI p), ()).1 < 0 by show ¬ xSearch d (nI s) (nI p) < 0; rw [i2]; exact nI_pos (by omega))]
        unfold B_Mod_keep_93 B_Mod_keep_109 B_Mod_keep_128 B_Mod_keep_129
        rw [if_pos hidx, hidc, if_neg (by decide), if_pos hsin, hscl, nI_1]
        have g1 : ∀ a, a ≠ 40 * s + p → upd (rTab r) (40 * s + p) (xSearch d (nI s) (nI p) + 1) a = rTab r a := fun a ha => pk_un ha
        have g1' : upd (rTab r) (40 * s + p) (xSearch d (nI s) (nI p) + 1) (40 * s + p) = xSearch d (nI s) (nI p) + 1 := pk_us
        generalize upd (rTab r) (40 * s + p) (xSearch d (nI s) (nI p) + 1) = T at g1 g1' ⊢
        show ∃ t mn m, L_Mod_keep_28 c (rSMan (rSTab r T) (upd (rMan r) s (nI p))) (nI s) 1 (nI (p + 1)) = _ ∧ _
        have g2 : ∀ a, a ≠ s → upd (rMan r) s (nI p) a = rMan r a := fun a ha => pk_un ha
        have g2' : upd (rMan r) s (nI p) s = nI p := pk_us
        generalize upd (rMan r) s (nI p) = N at g2 g2' ⊢
        obtain ⟨t, mn, m, a1, a2, a3, a4, a5⟩ := ih (p + 1) (by omega) (by omega) c (by omega) (rSMan (rSTab r T) N) (h.tm T N) (show N s = nI (p + 1 - 1) from g2') (show T (40 * s) = _ from (g1 _ (by omega)).trans ht0) (fun q q1 q2 => by
            show T (40 * s + q) = _ ∧ _
            by_cases z : q = p
            · subst z; exact ⟨g1', hv⟩
            · rw [g1 _ (by omega)]; exact ht q q1 (by omega)) (fun q q1 q2 => by
            by_cases z : q + 1 = p
            · have := hu8 (by omega)
              rw [show p - 1 = q by omega] at this; exact this
            · exact hu q q1 (by omega)) (fun z => by have := hs2 z; omega)
        refine ⟨t, mn, m, by rw [a1, tm_tm], a2, a3, fun a ha => ?_, fun a ha => ?_⟩
        · exact (a4 a ha).trans (g1 a (by omega))
        · exact (a5 a ha).trans (g2 a ha)
    have h48 : (s = 2 → p ≤ 1) → ∃ t mn m, B_Mod_keep_48 (L_Mod_keep_28 c) r (nI s) (nI p) = some ((), rSMan (rSTab r t) mn) ∧ KM d s m ∧ TB d s m t mn ∧ (∀ a, ¬ (40 * s ≤ a ∧ a < 40 * s + 40) → t a = rTab r a) ∧ (∀ a, a ≠ s → mn a = rMan r a) := by
      intro hs2
      unfold B_Mod_keep_48
      by_cases hp2 : p = 1
      · rw [hp2, if_pos (show nI 1 ≤ 1 by decide), ← hp2]
        exact h75 hs2 (fun z => by omega)
      · rw [if_neg (show ¬ nI p ≤ 1 from nI_ge (a := 1) (by omega) (by omega))]
        unfold f_Mod_pageAt B_Mod_keep_65 B_Mod_keep_71 B_Mod_keep_81
        have ep : (nI p - 1 : Int32) = nI (p - 1) := by rw [show (1 : Int32) = nI 1 from rfl, pk_sub (by omega)]
        obtain ⟨t1, t2⟩ := ht (p - 1) (by omega) (by omega)
        obtain ⟨i, i1, i2, i3, i4, i5⟩ := found hsn t2
        rw [ep, ix40, if_pos (inB_nI (show 40 * s + (p - 1) < 2440 by omega) (by decide)), cl_nI (by omega), t1, Int32.add_sub_cancel, bnd_some]
        show ∃ t mn m, (if inB (xSearch d (nI s) (nI (p - 1))) 40 then (if 8 ≤ rUse r (xSearch d (nI s) (nI (p - 1))).toNatClampNeg then _ else _) else _) = _ ∧ _
        rw [i2, if_pos (inB_nI i1 (by decide)), cl_nI (by omega), ← h.use i1]
        have ec : xCell d (xSearch d (nI s) (nI (p - 1))) 2 = dCells d (i * 13 + 2) := by rw [i2]; exact xc2 i1 i3
        by_cases h8 : 8 ≤ dCells d (i * 13 + 2)
        · rw [if_pos h8]
          exact h75 hs2 (fun _ => by rw [ec]; exact h8)
        · rw [if_neg h8, if_pos (show (-1 : Int32) < 0 by decide)]
          exact hend (Or.inr (Or.inr ⟨by omega, by rw [ec]; exact h8⟩))
    rw [L_Mod_keep_28, if_neg (gn 40 hp40), if_neg (by decide)]
    by_cases hs2 : s = 2
    · rw [if_neg (not_not_intro (show nI s = 2 by rw [hs2]; rfl))]
      by_cases hp2 : p = 1
      · rw [if_neg (show ¬ 1 < nI p by rw [hp2]; decide)]
        exact h48 (fun _ => by omega)
      · have := h2 hs2
        rw [if_pos (show (1 : Int32) < nI p from nI_lt (a := 1) (by omega) (by omega))]
        unfold B_Mod_keep_71 B_Mod_keep_81
        rw [if_pos (show (-1 : Int32) < 0 by decide)]
        exact hend (Or.inr (Or.inl ⟨hs2, by omega⟩))
    · rw [if_pos (show ¬ nI s = 2 from fun z => hs2 ((nI_eq (b := 2) (by omega) (by decide)).mp z))]
      exact h48 (fun z => absurd z hs2)
theorem R_keep {s : Nat} (h : RD d r) (X : IX d) (hs1 : 1 ≤ s) (hs : s ≤ 60) : ∃ t mn m, f_Mod_keep r (nI s) = some ((), rSMan (rSTab r t) mn) ∧ KM d s m ∧ TB d s m t mn ∧ (∀ a, ¬ (40 * s ≤ a ∧ a < 40 * s + 40) → t a = rTab r a) ∧ (∀ a, a ≠ s → mn a = rMan r a) := by
  unfold f_Mod_keep B_Mod_keep_14 B_Mod_keep_17 B_Mod_keep_24
  rw [L_search h.lb _ _ (nI_m1 (by omega)), bnd_some, ix40h, if_pos (inB_nI (show 40 * s < 2440 by omega) (by decide)), if_pos (inB_nI (show s < 61 by omega) (by decide)), cl_nI (by omega), cl_nI (by omega)]
  have g1 : ∀ a, a ≠ 40 * s → upd (rTab r) (40 * s) (xSearch d (nI s) 0 + 1) a = rTab r a := fun a ha => pk_un ha
  have g1' : upd (rTab r) (40 * s) (xSearch d (nI s) 0 + 1) (40 * s) = xSearch d (nI s) 0 + 1 := pk_us
  generalize upd (rTab r) (40 * s) (xSearch d (nI s) 0 + 1) = T at g1 g1' ⊢
  show ∃ t mn m, L_Mod_keep_28 1000 (rSMan (rSTab r T) (upd (rMan r) s 0)) (nI s) 1 (nI 1) = _ ∧ _
  have g2 : ∀ a, a ≠ s → upd (rMan r) s 0 a = rMan r a := fun a ha => pk_un ha
  have g2' : upd (rMan r) s 0 s = nI 0 := pk_us
  generalize upd (rMan r) s 0 = N at g2 g2' ⊢
  obtain ⟨t, mn, m, a1, a2, a3, a4, a5⟩ := R_keepL X hs1 hs 39 1 rfl (Nat.le_refl _) 1000 (by decide) (rSMan (rSTab r T) N) (h.tm T N) g2' g1' (fun q q1 q2 => absurd q2 (by omega)) (fun q q1 q2 => absurd q2 (by omega)) (fun _ => by omega)
  refine ⟨t, mn, m, by rw [a1, tm_tm], a2, a3, fun a ha => ?_, fun a ha => ?_⟩
  · exact (a4 a ha).trans (g1 a (by omega))
  · exact (a5 a ha).trans (g2 a ha)
end S1
