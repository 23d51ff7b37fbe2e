/-! the class's state and the reference's: what makes them alike -/
def rC (r : RS) (i k : Nat) : Int32 := match k with
  | 0 => rSer r i
  | 1 => rPag r i
  | 2 => rUse r i
  | 3 => rNex r i
  | 4 => rBef r i
  | k + 5 => rByt r (8 * i + k)
def RD (d : DS) (r : RS) : Prop := (∀ i, i < 40 → ∀ k, k < 13 → dCells d (i * 13 + k) = rC r i k) ∧ (∀ i, i < 40 → dUnr d i = rBad r i) ∧ dMis d = rMis r ∧ dWri d = rWri r ∧ dChg d = rLef r ∧ (dPow d = 1 ∧ rDar r = 0 ∨ dPow d = 0 ∧ rDar r = 1)
def RF (f : FS) (r : RS) : Prop := ∀ s, 1 ≤ s → s ≤ 60 → fRem f s = rKep r s - 1
/-- the ranges of what the sectors say -/
def vN (d : DS) (i k : Nat) : Nat := (dCells d (i * 13 + k)).toNatClampNeg
def mxK (B k : Nat) : Nat := match k with
  | 0 => 60
  | 1 => B
  | 2 => 8
  | _ => 255
def IV (B : Nat) (d : DS) : Prop := B ≤ 100000 ∧ ∀ i, i < 40 → (dUnr d i = 0 ∨ dUnr d i = 1) ∧ (∀ k, k < 13 → k ≠ 3 → k ≠ 4 → dCells d (i * 13 + k) = nI (vN d i k) ∧ vN d i k ≤ mxK B k) ∧ (∀ k, k = 3 ∨ k = 4 → dCells d (i * 13 + k) = -1 ∨ (dCells d (i * 13 + k) = nI (vN d i k) ∧ vN d i k < 40))
def IF (f : FS) : Prop := ∀ s, 1 ≤ s → s ≤ 60 → fRem f s = -1 ∨ ∃ i, i < 40 ∧ fRem f s = nI i
theorem nI_m1 {i : Nat} (h : i < 1000000) : ¬ nI i = -1 := by
  intro q
  have h1 := nI_toInt (n := i) (by omega)
  rw [q] at h1
  have h2 : (-1 : Int32).toInt = -1 := rfl
  omega
theorem xc {d : DS} {i k : Nat} (hi : i < 40) (hk : k < 13) (hu : dUnr d i = 0) : xCell d (nI i) (nI k) = dCells d (i * 13 + k) := by
  unfold xCell
  have h1 : (nI i).toNatClampNeg = i := cl_nI (by omega)
  have h2 : (nI k).toNatClampNeg = k := cl_nI (by omega)
  rw [if_pos ⟨nI_pos (by omega), gn 40 hi, nI_pos (by omega), gn 13 hk, by rw [h1]; exact hu⟩, h1, h2]
theorem xcu {d : DS} {i : Nat} {b : Int32} (hi : i < 40) (hu : ¬ dUnr d i = 0) : xCell d (nI i) b = -1 := by
  unfold xCell
  rw [if_neg (fun q => hu (by have := q.2.2.2.2; rw [cl_nI (by omega)] at this; exact this))]
theorem xco {d : DS} {a b : Int32} (h : a < 0 ∨ (40 : Int32) ≤ a) : xCell d a b = -1 := by
  unfold xCell
  rw [if_neg (fun q => h.elim q.1 q.2.1)]
theorem i40 (a : Int32) : (a < 0 ∨ (40 : Int32) ≤ a) ∨ ∃ i : Nat, i < 40 ∧ a = nI i := by
  by_cases h0 : a < 0
  · exact Or.inl (Or.inl h0)
  · by_cases h1 : (40 : Int32) ≤ a
    · exact Or.inl (Or.inr h1)
    · exact Or.inr (i32_40 h0 h1)
/-- the value of a readable sector's cell -/
theorem xc0 {d : DS} {i : Nat} (hi : i < 40) (hu : dUnr d i = 0) : xCell d (nI i) 0 = dCells d (i * 13) := xc (k := 0) hi (by decide) hu
theorem xc1 {d : DS} {i : Nat} (hi : i < 40) (hu : dUnr d i = 0) : xCell d (nI i) 1 = dCells d (i * 13 + 1) := xc (k := 1) hi (by decide) hu
theorem xc2 {d : DS} {i : Nat} (hi : i < 40) (hu : dUnr d i = 0) : xCell d (nI i) 2 = dCells d (i * 13 + 2) := xc (k := 2) hi (by decide) hu
theorem xc3 {d : DS} {i : Nat} (hi : i < 40) (hu : dUnr d i = 0) : xCell d (nI i) 3 = dCells d (i * 13 + 3) := xc (k := 3) hi (by decide) hu
theorem xc4 {d : DS} {i : Nat} (hi : i < 40) (hu : dUnr d i = 0) : xCell d (nI i) 4 = dCells d (i * 13 + 4) := xc (k := 4) hi (by decide) hu
theorem xcb {d : DS} {i j : Nat} (hi : i < 40) (hj : j < 8) (hu : dUnr d i = 0) : xCell d (nI i) (5 + nI j) = dCells d (i * 13 + (5 + j)) := by
  rw [show (5 : Int32) = nI 5 from rfl, nI_add]
  exact xc hi (by omega) hu
section RR
variable {d : DS} {r : RS} {f : FS} {B : Nat}
theorem RD.ser (h : RD d r) {i : Nat} (hi : i < 40) : dCells d (i * 13) = rSer r i := h.1 i hi 0 (by decide)
theorem RD.pag (h : RD d r) {i : Nat} (hi : i < 40) : dCells d (i * 13 + 1) = rPag r i := h.1 i hi 1 (by decide)
theorem RD.use (h : RD d r) {i : Nat} (hi : i < 40) : dCells d (i * 13 + 2) = rUse r i := h.1 i hi 2 (by decide)
theorem RD.nex (h : RD d r) {i : Nat} (hi : i < 40) : dCells d (i * 13 + 3) = rNex r i := h.1 i hi 3 (by decide)
theorem RD.bef (h : RD d r) {i : Nat} (hi : i < 40) : dCells d (i * 13 + 4) = rBef r i := h.1 i hi 4 (by decide)
theorem RD.byt (h : RD d r) {i j : Nat} (hi : i < 40) (hj : j < 8) : dCells d (i * 13 + (5 + j)) = rByt r (8 * i + j) := by
  rw [h.1 i hi (5 + j) (by omega), Nat.add_comm 5 j]
  rfl
theorem RD.bad (h : RD d r) {i : Nat} (hi : i < 40) : dUnr d i = rBad r i := h.2.1 i hi
theorem RD.mis (h : RD d r) (m : Int32) (k : Nat → Int32) : RD (dSMis d m) (rSMis (rSKep r k) m) := ⟨h.1, h.2.1, rfl, h.2.2.2⟩
theorem IV.mis (h : IV B d) (m : Int32) : IV B (dSMis d m) := h
theorem in40 (x : Int32) : (f_Mod_in x 0 39).1 = 0 ↔ (x < 0 ∨ (40 : Int32) ≤ x) := by
  unfold f_Mod_in B_Mod_in_14
  have h2 : (39 : Int32) < x ↔ (40 : Int32) ≤ x := by
    rw [Int32.lt_iff_toInt_lt, Int32.le_iff_toInt_le]
    show (39 : Int) < x.toInt ↔ (40 : Int) ≤ x.toInt
    omega
  by_cases h0 : x < 0
  · rw [if_pos h0]; exact ⟨fun _ => Or.inl h0, fun _ => rfl⟩
  · rw [if_neg h0]
    by_cases h1 : (39 : Int32) < x
    · rw [if_pos h1]; exact ⟨fun _ => Or.inr (h2.mp h1), fun _ => rfl⟩
    · rw [if_neg h1]; exact ⟨fun q => absurd q (by decide), fun q => q.elim (fun q => absurd q h0) (fun q => absurd (h2.mpr q) h1)⟩
def lk (d : DS) (x s p : Int32) : Bool := decide (xCell d x 0 = s ∧ xCell d x 1 = p)
theorem R_says (h : RD d r) (x s p : Int32) (hs : ¬ s = -1) : f_Mod_says r x s p = some (if lk d x s p = true then 1 else 0, ()) := by
  unfold f_Mod_says B_Mod_says_43 lk
  rcases i40 x with hx | ⟨i, hi, rfl⟩
  · rw [if_pos ((in40 x).mpr hx), xco hx, if_neg (by simp [Ne.symm hs])]
  · rw [if_neg (fun q => ((in40 _).mp q).elim (nI_pos (by omega)) (gn 40 hi)), if_pos (inB_nI hi (by decide)), if_pos (inB_nI hi (by decide)), if_pos (inB_nI hi (by decide)), cl_nI (by omega), ← h.bad hi]
    by_cases hu : dUnr d i = 0
    · rw [if_neg (fun q => q hu), xc0 hi hu, xc1 hi hu, ← h.ser hi, ← h.pag hi]
      by_cases h1 : dCells d (i * 13) = s
      · rw [if_neg (fun q => q h1)]
        by_cases h2 : dCells d (i * 13 + 1) = p
        · rw [if_neg (fun q => q h2), if_pos (decide_eq_true ⟨h1, h2⟩)]
        · rw [if_pos h2, if_neg (by simp [h2])]
      · rw [if_pos h1, if_neg (by simp [h1])]
    · rw [if_pos hu, xcu hi hu, if_neg (by simp [Ne.symm hs])]
theorem C_look (d : DS) (x s p : Int32) : f_Disk_looksLike d x s p = (if lk d x s p = true then 1 else 0, dSMis d (dMis d + if lk d x s p = true then 0 else 1)) := by
  unfold f_Disk_looksLike B_Disk_looksLike_24 B_Disk_looksLike_25 B_Disk_looksLike_42 lk
  by_cases h1 : xCell d x 0 = s
  · rw [if_neg (fun q => q h1)]
    by_cases h2 : xCell d x 1 = p
    · rw [if_neg (fun q => q h2), if_neg (by decide), if_pos (decide_eq_true ⟨h1, h2⟩), if_pos (decide_eq_true ⟨h1, h2⟩)]; rfl
    · rw [if_pos h2, if_pos rfl, if_neg (by simp [h2]), if_neg (by simp [h2])]; rfl
  · rw [if_pos h1, if_pos rfl, if_neg (by simp [h1]), if_neg (by simp [h1])]; rfl
theorem R_look (h : RD d r) (x s p : Int32) (hs : ¬ s = -1) : f_Mod_look r x s p = some (if lk d x s p = true then 1 else 0, rSMis r (rMis r + if lk d x s p = true then 0 else 1)) := by
  unfold f_Mod_look B_Mod_look_7 B_Mod_look_28 B_Mod_look_31
  rw [R_says h x s p hs, bnd_some]
  cases lk d x s p
  · rfl
  · show some ((vp_nar .boolean (1 : Int32)), rSMis r (rMis r)) = some ((1 : Int32), rSMis r (rMis r + 0))
    rw [Int32.add_zero]; rfl
theorem fsF_snoc (p : Nat → Bool) : ∀ k i, fsF p i (k + 1) = fsM (fsF p i k) some (if p (i + k) = true then some (i + k) else none) := by
  intro k
  induction k with
  | zero => intro i; rfl
  | succ k ih =>
    intro i
    rw [fsF, ih (i + 1), fsF]
    by_cases hp : p i = true
    · rw [if_pos hp, if_pos hp]; rfl
    · rw [if_neg hp, if_neg hp, Nat.add_right_comm]; rfl
theorem R_searchL (h : RD d r) (s p : Int32) (hs : ¬ s = -1) : ∀ k, k ≤ 40 → ∀ n, k < n → ∀ x3, L_Mod_search_6 n r s p x3 (nI k - 1) = some (fsM (fsF (xSays d s p) 0 k) nI x3, ()) := by
  intro k
  induction k with
  | zero =>
    intro _ n hn x3
    obtain ⟨m, rfl⟩ : ∃ m, n = m + 1 := ⟨n - 1, by omega⟩
    rw [L_Mod_search_6, if_pos (show nI 0 - 1 < 0 by decide)]
    rfl
  | succ k ih =>
    intro hk n hn x3
    obtain ⟨m, rfl⟩ : ∃ m, n = m + 1 := ⟨n - 1, by omega⟩
    rw [nI_pred, L_Mod_search_6, if_neg (nI_pos (by omega)), R_says h _ s p hs, bnd_some, fsF_snoc]
    unfold B_Mod_search_19 B_Mod_search_28
    have e1 : nI k + -1 = nI k - 1 := by rw [Int32.sub_eq_add_neg]
    have e2 : lk d (nI k) s p = xSays d s p k := rfl
    rw [e1, e2, Nat.zero_add]
    cases hp : xSays d s p k
    · rw [if_pos (by rfl), ih (by omega) m (by omega) x3]
      cases fsF (xSays d s p) 0 k <;> rfl
    · rw [if_neg (by decide), ih (by omega) m (by omega) (nI k)]
      cases fsF (xSays d s p) 0 k <;> rfl
theorem R_search (h : RD d r) (s p : Int32) (hs : ¬ s = -1) : f_Mod_search r s p = some (xSearch d s p, ()) :=
  R_searchL h s p hs 40 (Nat.le_refl _) 1000 (by decide) (-1)
theorem fsF_spec (p : Nat → Bool) : ∀ k i, match fsF p i k with
    | some j => i ≤ j ∧ j < i + k ∧ p j = true ∧ ∀ q, i ≤ q → q < j → p q = false
    | none => ∀ q, i ≤ q → q < i + k → p q = false := by
  intro k
  induction k with
  | zero => intro i; show ∀ q, i ≤ q → q < i + 0 → p q = false; intro q h1 h2; omega
  | succ k ih =>
    intro i
    rw [fsF]
    by_cases hp : p i = true
    · rw [if_pos hp]; exact ⟨Nat.le_refl _, by omega, hp, fun q h1 h2 => by omega⟩
    · rw [if_neg hp]
      have h9 := ih (i + 1)
      have hpf : p i = false := by simpa using hp
      cases hf : fsF p (i + 1) k with
      | none =>
        rw [hf] at h9
        intro q h1 h2
        by_cases hq : q = i
        · rw [hq]; exact hpf
        · exact h9 q (by omega) (by omega)
      | some j =>
        rw [hf] at h9
        obtain ⟨a1, a2, a3, a4⟩ := h9
        refine ⟨by omega, by omega, a3, fun q h1 h2 => ?_⟩
        by_cases hq : q = i
        · rw [hq]; exact hpf
        · exact a4 q (by omega) h2
/-- what a search finds -/
theorem xSearch_spec (d : DS) (s p : Int32) (hs : ¬ s = -1) : (xSearch d s p = -1 ∧ ∀ i, i < 40 → dUnr d i = 0 → ¬ (dCells d (i * 13) = s ∧ dCells d (i * 13 + 1) = p)) ∨ ∃ i, i < 40 ∧ xSearch d s p = nI i ∧ dUnr d i = 0 ∧ dCells d (i * 13) = s ∧ dCells d (i * 13 + 1) = p ∧ ∀ j, j < i → dUnr d j = 0 → ¬ (dCells d (j * 13) = s ∧ dCells d (j * 13 + 1) = p) := by
  have h := fsF_spec (xSays d s p) 40 0
  have hP : ∀ i, i < 40 → (xSays d s p i = true ↔ dUnr d i = 0 ∧ dCells d (i * 13) = s ∧ dCells d (i * 13 + 1) = p) := by
    intro i hi
    unfold xSays
    by_cases hu : dUnr d i = 0
    · rw [xc0 hi hu, xc1 hi hu, decide_eq_true_iff]; exact ⟨fun q => ⟨hu, q⟩, fun q => q.2⟩
    · rw [xcu hi hu, decide_eq_true_iff]; exact ⟨fun q => absurd q.1.symm hs, fun q => absurd q.1 hu⟩
  have e : xSearch d s p = fsM (fsF (xSays d s p) 0 40) nI (-1) := rfl
  cases hf : fsF (xSays d s p) 0 40 with
  | none =>
    rw [hf] at h
    refine Or.inl ⟨by rw [e, hf]; rfl, fun i hi hu q => ?_⟩
    have h1 := h i (by omega) (by omega)
    rw [(hP i hi).mpr ⟨hu, q⟩] at h1
    cases h1
  | some j =>
    rw [hf] at h
    obtain ⟨-, a2, a3, a4⟩ := h
    have hj : j < 40 := by omega
    obtain ⟨b1, b2, b3⟩ := (hP j hj).mp a3
    refine Or.inr ⟨j, hj, by rw [e, hf]; rfl, b1, b2, b3, fun q hq hu g => ?_⟩
    have h1 := a4 q (by omega) hq
    rw [(hP q (by omega)).mpr ⟨hu, g⟩] at h1
    cases h1
/-- what a right look says -/
theorem lk_spec (d : DS) (x s p : Int32) (hs : ¬ s = -1) (h : lk d x s p = true) : ∃ i, i < 40 ∧ x = nI i ∧ dUnr d i = 0 ∧ dCells d (i * 13) = s ∧ dCells d (i * 13 + 1) = p := by
  have h1 := of_decide_eq_true h
  rcases i40 x with hx | ⟨i, hi, rfl⟩
  · rw [xco hx] at h1; exact absurd h1.1.symm hs
  · by_cases hu : dUnr d i = 0
    · rw [xc0 hi hu, xc1 hi hu] at h1; exact ⟨i, hi, rfl, hu, h1.1, h1.2⟩
    · rw [xcu hi hu] at h1; exact absurd h1.1.symm hs
end RR
