/-! scavenging: leaders made -/
/-- alike but for links of readable sectors in use, and for names and KINDS of the sectors in E -/
def RDx (E : Nat → Prop) (d : DS) (r : RS) : Prop := (∀ i, i < 40 → ∀ k, k < 13 → (dUnr d i = 0 ∧ ¬ dCells d (i * 13) = 0 → k ≠ 3 ∧ k ≠ 4) → (E i → k < 5 ∨ 8 ≤ k) → dCells d (i * 13 + k) = rC r i k) ∧ (∀ i, i < 40 → dUnr d i = rBad r i) ∧ dMis d = rMis r ∧ dWri d = rWri r ∧ dChg d = rLef r ∧ (dPow d = 1 ∧ rDar r = 0 ∨ dPow d = 0 ∧ rDar r = 1)
section S6
variable {d d' : DS} {r r' : RS} {f : FS} {w : WS} {m : MS} {s : SS} {g : GS} {B : Nat} {E : Nat → Prop}
theorem RD.x (h : RD d r) : RDx E d r := ⟨fun i hi k hk _ _ => h.1 i hi k hk, h.2⟩
theorem RDx.lb (h : RDx E d r) : LB d r := fun i hi => ⟨h.1 i hi 0 (by decide) (fun _ => ⟨by decide, by decide⟩) (fun _ => Or.inl (by decide)), h.1 i hi 1 (by decide) (fun _ => ⟨by decide, by decide⟩) (fun _ => Or.inl (by decide)), h.2.1 i hi⟩
theorem RDx.use (h : RDx E d r) {i : Nat} (hi : i < 40) : dCells d (i * 13 + 2) = rUse r i := h.1 i hi 2 (by decide) (fun _ => ⟨by decide, by decide⟩) (fun _ => Or.inl (by decide))
theorem RDx.oth {E' : Nat → Prop} (h : RDx E d r) (h1 : ∀ i, i < 40 → ∀ k, k < 13 → (dUnr d' i = 0 ∧ ¬ dCells d' (i * 13) = 0 → k ≠ 3 ∧ k ≠ 4) → (E' i → k < 5 ∨ 8 ≤ k) → dCells d' (i * 13 + k) = rC r' i k) (h2 : d'.2.2 = d.2.2) (h3 : rBad r' = rBad r) (h4 : r'.2 = r.2) : RDx E' d' r' := by
  have u : dUnr d' = dUnr d := congrArg (·.1) h2
  have u1 : dMis d' = dMis d := congrArg (·.2.1) h2
  have u2 : dWri d' = dWri d := congrArg (·.2.2.1) h2
  have u3 : dChg d' = dChg d := congrArg (·.2.2.2.1) h2
  have u4 : dPow d' = dPow d := congrArg (·.2.2.2.2) h2
  have g1 : rMis r' = rMis r := congrArg (fun z => z.2.2.1) h4
  have g2 : rWri r' = rWri r := congrArg (fun z => z.2.2.2.1) h4
  have g3 : rDar r' = rDar r := congrArg (fun z => z.2.2.2.2.1) h4
  have g4 : rLef r' = rLef r := congrArg (fun z => z.2.2.2.2.2.1) h4
  refine ⟨h1, fun i hi => by rw [u, h3]; exact h.2.1 i hi, by rw [u1, g1]; exact h.2.2.1, by rw [u2, g2]; exact h.2.2.2.1, by rw [u3, g4]; exact h.2.2.2.2.1, by rw [u4, g3]; exact h.2.2.2.2.2⟩
theorem RDx.row {x : Nat} {v v' : Nat → Int32} (h : RDx E d r) (h1 : DRow d d' x v) (h2 : RRow r r' x v') (hv : ∀ k, k < 13 → (dUnr d x = 0 ∧ ¬ v 0 = 0 → k ≠ 3 ∧ k ≠ 4) → v k = v' k) : RDx E d' r' := by
  refine h.oth (fun i hi k hk q1 q2 => ?_) (congrArg (·.2) h1.2) (oth_bad (rO_oth h2.2)) (rO_i h2.2)
  rw [h1.1 i hi k hk, h2.1 i hi k hk]
  by_cases e : i = x
  · rw [if_pos e, if_pos e]
    refine hv k hk (fun z => q1 ?_)
    rw [show dCells d' (i * 13) = v 0 from (h1.1 i hi 0 (by decide)).trans (if_pos e), h1.unr, e]; exact z
  · rw [if_neg e, if_neg e]
    refine h.1 i hi k hk (fun z => q1 ?_) q2
    rw [show dCells d' (i * 13) = dCells d (i * 13) from (h1.1 i hi 0 (by decide)).trans (if_neg e), h1.unr]; exact z
theorem RDx.cg (h : RDx E d r) (h1 : rSer r' = rSer r) (h2 : rPag r' = rPag r) (h3 : rUse r' = rUse r) (h4 : rNex r' = rNex r) (h5 : rBef r' = rBef r) (h6 : rByt r' = rByt r) (h7 : rBad r' = rBad r) (h8 : r'.2 = r.2) : RDx E d r' :=
  h.oth (fun i hi k hk q1 q2 => by rw [rC_cg h1 h2 h3 h4 h5 h6]; exact h.1 i hi k hk q1 q2) rfl h7 h8
theorem RDx.tab (h : RDx E d r) (t : Nat → Int32) : RDx E d (rSTab r t) := h.cg (Ser_Tab r t) (Pag_Tab r t) (Use_Tab r t) (Nex_Tab r t) (Bef_Tab r t) (Byt_Tab r t) (Bad_Tab r t) (I_Tab r t)
theorem RDx.man (h : RDx E d r) (t : Nat → Int32) : RDx E d (rSMan r t) := h.cg (Ser_Man r t) (Pag_Man r t) (Use_Man r t) (Nex_Man r t) (Bef_Man r t) (Byt_Man r t) (Bad_Man r t) (I_Man r t)
theorem RDx.repS (h : RDx E d r) (t : Nat → Int32) : RDx E d (rSRep r t) := h.cg (Ser_Rep r t) (Pag_Rep r t) (Use_Rep r t) (Nex_Rep r t) (Bef_Rep r t) (Byt_Rep r t) (Bad_Rep r t) (I_Rep r t)
theorem RDx.rea (h : RDx E d r) (t : Nat → Int32) : RDx E d (rSRea r t) := h.cg (Ser_Rea r t) (Pag_Rea r t) (Use_Rea r t) (Nex_Rea r t) (Bef_Rea r t) (Byt_Rea r t) (Bad_Rea r t) (I_Rea r t)
theorem RDx.walS (h : RDx E d r) (t : Nat → Int32) : RDx E d (rSWal r t) := h.cg (Ser_Wal r t) (Pag_Wal r t) (Use_Wal r t) (Nex_Wal r t) (Bef_Wal r t) (Byt_Wal r t) (Bad_Wal r t) (I_Wal r t)
theorem RDx.rchS (h : RDx E d r) (t : Nat → Int32) : RDx E d (rSRch r t) := h.cg (Ser_Rch r t) (Pag_Rch r t) (Use_Rch r t) (Nex_Rch r t) (Bef_Rch r t) (Byt_Rch r t) (Bad_Rch r t) (I_Rch r t)
/-! searches when one row changes -/
theorem fsF_cg {p q : Nat → Bool} : ∀ k a, (∀ i, a ≤ i → i < a + k → p i = q i) → fsF p a k = fsF q a k := by
  intro k
  induction k with
  | zero => intro a _; rfl
  | succ k ih =>
    intro a h
    rw [fsF, fsF, h a (Nat.le_refl _) (by omega), ih (a + 1) (fun i h1 h2 => h i (by omega) (by omega))]
theorem S_cg {sn p : Int32} (h : ∀ i, i < 40 → xSays d' sn p i = xSays d sn p i) : xSearch d' sn p = xSearch d sn p := by
  show fsM (fsF (xSays d' sn p) 0 40) nI (-1) = fsM (fsF (xSays d sn p) 0 40) nI (-1)
  rw [fsF_cg 40 0 (fun i _ hi => h i (by omega))]
theorem says_iff {sn p : Int32} (hs : ¬ sn = -1) {i : Nat} (hi : i < 40) : xSays d sn p i = true ↔ (dUnr d i = 0 ∧ dCells d (i * 13) = sn ∧ dCells d (i * 13 + 1) = p) := by
  unfold xSays
  by_cases hu : dUnr d i = 0
  · rw [xc0 hi hu, xc1 hi hu, decide_eq_true_iff]; exact ⟨fun q => ⟨hu, q⟩, fun q => q.2⟩
  · rw [xcu hi hu, decide_eq_true_iff]; exact ⟨fun q => absurd q.1.symm hs, fun q => absurd q.1 hu⟩
theorem says_cg {sn p : Int32} (hs : ¬ sn = -1) {i : Nat} (hi : i < 40) (h : (dUnr d' i = 0 ∧ dCells d' (i * 13) = sn ∧ dCells d' (i * 13 + 1) = p) ↔ (dUnr d i = 0 ∧ dCells d (i * 13) = sn ∧ dCells d (i * 13 + 1) = p)) : xSays d' sn p i = xSays d sn p i := by
  have e := (says_iff (d := d') hs hi (p := p)).trans (h.trans (says_iff (d := d) hs hi).symm)
  cases a : xSays d' sn p i <;> cases b : xSays d sn p i
  · rfl
  · rw [a, b] at e; exact absurd (e.mpr rfl) (by decide)
  · rw [a, b] at e; exact absurd (e.mp rfl) (by decide)
  · rfl
theorem S_row {sn p : Int32} (hs : ¬ sn = -1) {x : Nat} {v : Nat → Int32} (h1 : DU d d' x v) (hx : x < 40) (h : (dUnr d x = 0 ∧ v 0 = sn ∧ v 1 = p) ↔ (dUnr d x = 0 ∧ dCells d (x * 13) = sn ∧ dCells d (x * 13 + 1) = p)) : xSearch d' sn p = xSearch d sn p := by
  refine S_cg (fun i hi => says_cg hs hi ?_)
  have e0 : dCells d' (i * 13) = if i = x then v 0 else dCells d (i * 13) := h1.1 i hi 0 (by decide)
  rw [h1.2, e0, h1.1 i hi 1 (by decide)]
  by_cases e : i = x
  · subst e; rw [if_pos rfl, if_pos rfl]; exact h
  · rw [if_neg e, if_neg e]
/-- what a search finds behind a sector's taking -/
theorem S_add {sn pn x : Nat} {v : Nat → Int32} (h1 : DU d d' x v) (hx : x < 40) (hF : xFree d (nI x) = true) (v0 : v 0 = nI sn) (v1 : v 1 = nI pn) (t : Int32) (p : Int32) (ht : ¬ t = -1) (ht0 : ¬ t = 0) (hne : ¬ (t = nI sn ∧ p = nI pn)) : xSearch d' t p = xSearch d t p := by
  obtain ⟨hu, hc⟩ := free_of hx hF
  refine S_row ht h1 hx ⟨fun q => absurd ⟨by rw [← q.2.1, v0], by rw [← q.2.2, v1]⟩ hne, fun q => absurd (by rw [← q.2.1]; exact hc) ht0⟩
theorem S_new {sn pn x : Nat} {v : Nat → Int32} (h1 : DU d d' x v) (hx : x < 40) (hF : xFree d (nI x) = true) (hs1 : 1 ≤ sn) (hs : sn ≤ 60) (v0 : v 0 = nI sn) (v1 : v 1 = nI pn) (hno : xSearch d (nI sn) (nI pn) = -1) : xSearch d' (nI sn) (nI pn) = nI x := by
  obtain ⟨hu, hc⟩ := free_of hx hF
  have hsn : ¬ nI sn = -1 := nI_m1 (by omega)
  have hx0 : dCells d' (x * 13) = nI sn := ((h1.1 x hx 0 (by decide)).trans (if_pos rfl)).trans v0
  have hx1 : dCells d' (x * 13 + 1) = nI pn := ((h1.1 x hx 1 (by decide)).trans (if_pos rfl)).trans v1
  rcases xSearch_spec d' (nI sn) (nI pn) hsn with ⟨-, q⟩ | ⟨j, j1, j2, j3, j4, j5, -⟩
  · exact absurd ⟨hx0, hx1⟩ (q x hx (by rw [h1.2]; exact hu))
  · by_cases e : j = x
    · rw [j2, e]
    · exfalso
      have e0 : dCells d' (j * 13) = dCells d (j * 13) := (h1.1 j j1 0 (by decide)).trans (if_neg e)
      have e1 : dCells d' (j * 13 + 1) = dCells d (j * 13 + 1) := (h1.1 j j1 1 (by decide)).trans (if_neg e)
      rcases xSearch_spec d (nI sn) (nI pn) hsn with ⟨-, q⟩ | ⟨k, k1, k2, -⟩
      · exact q j j1 (by rw [← h1.2]; exact j3) ⟨by rw [← e0]; exact j4, by rw [← e1]; exact j5⟩
      · rw [hno] at k2; exact nI_m1 (by omega) k2.symm
theorem U_add {sn pn x : Nat} {v : Nat → Int32} (U : UNQ d) (h1 : DU d d' x v) (hx : x < 40) (hF : xFree d (nI x) = true) (hs1 : 1 ≤ sn) (hs : sn ≤ 60) (v0 : v 0 = nI sn) (v1 : v 1 = nI pn) (hno : xSearch d (nI sn) (nI pn) = -1) : UNQ d' := by
  have hsn : ¬ nI sn = -1 := nI_m1 (by omega)
  have hnot : ∀ j, j < 40 → dUnr d j = 0 → dCells d (j * 13) = nI sn → ¬ dCells d (j * 13 + 1) = nI pn := fun j hj hu h1 h2 => by
    rcases xSearch_spec d (nI sn) (nI pn) hsn with ⟨-, q⟩ | ⟨k, k1, k2, -⟩
    · exact q j hj hu ⟨h1, h2⟩
    · rw [hno] at k2; exact nI_m1 (by omega) k2.symm
  intro i j hi hj ui uj h0 e1 e2
  rw [h1.2] at ui uj
  have ai : dCells d' (i * 13) = if i = x then v 0 else dCells d (i * 13) := h1.1 i hi 0 (by decide)
  have aj : dCells d' (j * 13) = if j = x then v 0 else dCells d (j * 13) := h1.1 j hj 0 (by decide)
  rw [ai] at h0
  rw [ai, aj] at e1
  rw [h1.1 i hi 1 (by decide), h1.1 j hj 1 (by decide)] at e2
  by_cases a : i = x
  · by_cases b : j = x
    · rw [a, b]
    · rw [if_pos a, if_neg b] at e1 e2
      exact absurd (by rw [← e2, v1]) (hnot j hj uj (by rw [← e1, v0]))
  · by_cases b : j = x
    · rw [if_neg a, if_pos b] at e1 e2
      exact absurd (by rw [e2, v1]) (hnot i hi ui (by rw [e1, v0]))
    · rw [if_neg a, if_neg b] at e1 e2
      rw [if_neg a] at h0
      exact U i j hi hj ui uj h0 e1 e2
/-- a file of another serial behind a sector's taking -/
theorem KF.other {sn pn x M t : Nat} {v tb mn tb' mn' : Nat → Int32} (h : KF d tb mn t M) (h1 : DU d d' x v) (hx : x < 40) (hF : xFree d (nI x) = true) (ht1 : 1 ≤ t) (ht : t ≤ 60) (hs1 : 1 ≤ sn) (hs : sn ≤ 60) (hne : t ≠ sn) (v0 : v 0 = nI sn) (v1 : v 1 = nI pn) (et : ∀ p, p < 40 → tb' (40 * t + p) = tb (40 * t + p)) (em : mn' t = mn t) : KF d' tb' mn' t M := by
  obtain ⟨k1, k2, k3, k4, k5, k6, k7⟩ := h
  have hne' : ¬ nI t = nI sn := fun q => hne ((nI_eq (by omega) (by omega)).mp q)
  have hsr : ∀ p, xSearch d' (nI t) p = xSearch d (nI t) p := fun p => S_add h1 hx hF v0 v1 (nI t) p (nI_m1 (by omega)) (nI_ne0 (by omega) (by omega)) (fun q => hne' q.1)
  refine ⟨k1, k2, em.trans k3, ?_, fun p p1 p2 => ?_, fun i hi ui c => ?_, fun p p1 p2 => ?_⟩
  · rw [hsr, ← k4]; exact et 0 (by decide)
  · rw [hsr, et p (by omega)]; exact k5 p p1 p2
  · have e0 : dCells d' (i * 13) = if i = x then v 0 else dCells d (i * 13) := h1.1 i hi 0 (by decide)
    rw [h1.2] at ui
    rw [h1.1 i hi 1 (by decide)]
    rw [e0] at c
    by_cases a : i = x
    · rw [if_pos a, v0] at c; exact absurd c.symm hne'
    · rw [if_neg a] at c ⊢; exact k6 i hi ui c
  · obtain ⟨i, i1, i2, i3⟩ := k7 p p1 p2
    rw [hsr]
    refine ⟨i, i1, i2, ?_⟩
    have hix : i ≠ x := fun q => by
      obtain ⟨j, j1, j2, j3, j4, j5⟩ := found (d := d) (s := nI t) (p := nI p) (nI_m1 (by omega)) (by rw [i2]; exact nI_m1 (by omega))
      have e : j = i := (nI_eq (by omega) (by omega)).mp (j2.symm.trans i2)
      rw [e, q, (free_of hx hF).2] at j4
      exact absurd ((nI_eq (a := 0) (by decide) (by omega)).mp j4) (by omega)
    rw [h1.1 i i1 2 (by decide), if_neg hix]; exact i3
end S6
