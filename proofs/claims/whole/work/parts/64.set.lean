/-! writing a cell, on both sides -/
def dSet (d : DS) (i k : Nat) (v : Int32) : DS := dSCells d (upd (dCells d) (i * 13 + k) v)
def rSet (r : RS) (i k : Nat) (v : Int32) : RS := match k with
  | 0 => rSSer r (upd (rSer r) i v)
  | 1 => rSPag r (upd (rPag r) i v)
  | 2 => rSUse r (upd (rUse r) i v)
  | 3 => rSNex r (upd (rNex r) i v)
  | 4 => rSBef r (upd (rBef r) i v)
  | k + 5 => rSByt r (upd (rByt r) (8 * i + k) v)
theorem dSet_at {d : DS} {i k i' k' : Nat} {v : Int32} (hk : k < 13) (hk' : k' < 13) : dCells (dSet d i k v) (i' * 13 + k') = if i' = i ∧ k' = k then v else dCells d (i' * 13 + k') := by
  show upd (dCells d) (i * 13 + k) v (i' * 13 + k') = _
  by_cases h : i' = i ∧ k' = k
  · rw [if_pos h, h.1, h.2, pk_us]
  · rw [if_neg h, pk_un (by omega)]
theorem rSet_at {r : RS} {i k i' k' : Nat} {v : Int32} (hk : k < 13) (hk' : k' < 13) : rC (rSet r i k v) i' k' = if i' = i ∧ k' = k then v else rC r i' k' := by
  have hu : ∀ (f : Nat → Int32), upd f i v i' = if i' = i then v else f i' := fun f => rfl
  match k, k' with
  | 0, 0 => simp only [rSet, rC]; show upd (rSer r) i v i' = _; rw [hu]; simp
  | 1, 1 => simp only [rSet, rC]; show upd (rPag r) i v i' = _; rw [hu]; simp
  | 2, 2 => simp only [rSet, rC]; show upd (rUse r) i v i' = _; rw [hu]; simp
  | 3, 3 => simp only [rSet, rC]; show upd (rNex r) i v i' = _; rw [hu]; simp
  | 4, 4 => simp only [rSet, rC]; show upd (rBef r) i v i' = _; rw [hu]; simp
  | k + 5, k' + 5 =>
    show upd (rByt r) (8 * i + k) v (8 * i' + k') = _
    by_cases h : i' = i ∧ k' + 5 = k + 5
    · rw [if_pos h, h.1, show k' = k by omega, pk_us]
    · rw [if_neg h, pk_un (by omega)]; rfl
  | 0, 1 => rw [if_neg (by omega)]; rfl
  | 0, 2 => rw [if_neg (by omega)]; rfl
  | 0, 3 => rw [if_neg (by omega)]; rfl
  | 0, 4 => rw [if_neg (by omega)]; rfl
  | 0, k' + 5 => rw [if_neg (by omega)]; rfl
  | 1, 0 => rw [if_neg (by omega)]; rfl
  | 1, 2 => rw [if_neg (by omega)]; rfl
  | 1, 3 => rw [if_neg (by omega)]; rfl
  | 1, 4 => rw [if_neg (by omega)]; rfl
  | 1, k' + 5 => rw [if_neg (by omega)]; rfl
  | 2, 0 => rw [if_neg (by omega)]; rfl
  | 2, 1 => rw [if_neg (by omega)]; rfl
  | 2, 3 => rw [if_neg (by omega)]; rfl
  | 2, 4 => rw [if_neg (by omega)]; rfl
  | 2, k' + 5 => rw [if_neg (by omega)]; rfl
  | 3, 0 => rw [if_neg (by omega)]; rfl
  | 3, 1 => rw [if_neg (by omega)]; rfl
  | 3, 2 => rw [if_neg (by omega)]; rfl
  | 3, 4 => rw [if_neg (by omega)]; rfl
  | 3, k' + 5 => rw [if_neg (by omega)]; rfl
  | 4, 0 => rw [if_neg (by omega)]; rfl
  | 4, 1 => rw [if_neg (by omega)]; rfl
  | 4, 2 => rw [if_neg (by omega)]; rfl
  | 4, 3 => rw [if_neg (by omega)]; rfl
  | 4, k' + 5 => rw [if_neg (by omega)]; rfl
  | k + 5, 0 => rw [if_neg (by omega)]; rfl
  | k + 5, 1 => rw [if_neg (by omega)]; rfl
  | k + 5, 2 => rw [if_neg (by omega)]; rfl
  | k + 5, 3 => rw [if_neg (by omega)]; rfl
  | k + 5, 4 => rw [if_neg (by omega)]; rfl
/-- all but the sectors' cells -/
def rOth (r : RS) : (Nat → Int32) × (Nat → Int32) × (Nat → Int32) × RI := (rBad r, rKep r, rRep r, r.2)
theorem rSet_oth (r : RS) (i k : Nat) (v : Int32) : rOth (rSet r i k v) = rOth r := by
  match k with
  | 0 => rfl
  | 1 => rfl
  | 2 => rfl
  | 3 => rfl
  | 4 => rfl
  | k + 5 => rfl
theorem oth_bad {r r' : RS} (h : rOth r' = rOth r) : rBad r' = rBad r := congrArg (·.1) h
theorem oth_kep {r r' : RS} (h : rOth r' = rOth r) : rKep r' = rKep r := congrArg (·.2.1) h
theorem oth_rep {r r' : RS} (h : rOth r' = rOth r) : rRep r' = rRep r := congrArg (·.2.2.1) h
theorem oth_ri {r r' : RS} (h : rOth r' = rOth r) : r'.2 = r.2 := congrArg (·.2.2.2) h
theorem RD.of_oth {d d' : DS} {r r' : RS} (h : RD d r) (h1 : ∀ i, i < 40 → ∀ k, k < 13 → dCells d' (i * 13 + k) = rC r' i k) (h2 : d'.2.2 = d.2.2) (h3 : rOth r' = rOth r) : RD d' r' := by
  have e := oth_ri h3
  refine ⟨h1, fun i hi => ?_, ?_, ?_, ?_, ?_⟩
  · rw [oth_bad h3]
    have : dUnr d' = dUnr d := congrArg (·.1) h2
    rw [this]; exact h.2.1 i hi
  · show d'.2.2.2.1 = r'.2.2.2.1; rw [h2, e]; exact h.2.2.1
  · show d'.2.2.2.2.1 = r'.2.2.2.2.1; rw [h2, e]; exact h.2.2.2.1
  · show d'.2.2.2.2.2.1 = r'.2.2.2.2.2.2.1; rw [h2, e]; exact h.2.2.2.2.1
  · show (d'.2.2.2.2.2.2 = 1 ∧ r'.2.2.2.2.2.1 = 0) ∨ (d'.2.2.2.2.2.2 = 0 ∧ r'.2.2.2.2.2.1 = 1); rw [h2, e]; exact h.2.2.2.2.2
theorem RD.set {d : DS} {r : RS} (h : RD d r) {i k : Nat} (hi : i < 40) (hk : k < 13) (v : Int32) : RD (dSet d i k v) (rSet r i k v) :=
  h.of_oth (fun i' hi' k' hk' => by rw [dSet_at hk hk', rSet_at hk hk', h.1 i' hi' k' hk']) rfl (rSet_oth r i k v)
/-- values that a cell may have -/
def vOK (B k : Nat) (v : Int32) : Prop := ((k = 3 ∨ k = 4) ∧ (v = -1 ∨ ∃ j, j < 40 ∧ v = nI j)) ∨ (¬ (k = 3 ∨ k = 4) ∧ ∃ n, n ≤ mxK B k ∧ v = nI n)
theorem IV.set {B : Nat} {d : DS} (I : IV B d) {i k : Nat} (hk : k < 13) {v : Int32} (hv : vOK B k v) : IV B (dSet d i k v) := by
  refine ⟨I.1, fun i' hi' => ⟨(I.2 i' hi').1, fun k' hk' h3 h4 => ?_, fun k' hk' => ?_⟩⟩
  · unfold vN
    rw [dSet_at hk hk']
    by_cases h : i' = i ∧ k' = k
    · rw [if_pos h]
      rcases hv with ⟨q, -⟩ | ⟨-, n, n1, rfl⟩
      · omega
      · have hb := I.1
        have hm : mxK B k ≤ 100000 := by unfold mxK; split <;> omega
        rw [cl_nI (by omega), h.2]; exact ⟨rfl, n1⟩
    · rw [if_neg h]; exact (I.2 i' hi').2.1 k' hk' h3 h4
  · unfold vN
    rw [dSet_at hk (by omega)]
    by_cases h : i' = i ∧ k' = k
    · rw [if_pos h]
      rcases hv with ⟨-, q⟩ | ⟨q, -⟩
      · rcases q with q | ⟨j, j1, rfl⟩
        · exact Or.inl q
        · exact Or.inr ⟨by rw [cl_nI (by omega)], by rw [cl_nI (by omega)]; exact j1⟩
      · omega
    · rw [if_neg h]; exact (I.2 i' hi').2.2 k' hk'
theorem C_set {d : DS} {i k : Nat} (hi : i < 40) (hk : k < 13) (hu : dUnr d i = 0) (v : Int32) : xSetCell d (nI i) (nI k) v = dSet d i k v := by
  unfold xSetCell dSet
  have h1 : (nI i).toNatClampNeg = i := cl_nI (by omega)
  have h2 : (nI k).toNatClampNeg = k := cl_nI (by omega)
  rw [if_pos ⟨nI_pos (by omega), gn 40 hi, nI_pos (by omega), gn 13 hk, by rw [h1]; exact hu⟩, h1, h2]
theorem C_setb {d : DS} {i j : Nat} (hi : i < 40) (hj : j < 8) (hu : dUnr d i = 0) (v : Int32) : f_Disk_setByte d (nI i) (nI j) v = ((), dSet d i (5 + j) (v &&& 255)) := by
  unfold f_Disk_setByte B_Disk_setByte_13
  rw [show (5 : Int32) = nI 5 from rfl, nI_add, C_set hi (by omega) hu]
theorem b255 (v : Int32) : ∃ b, b < 256 ∧ v &&& 255 = nI b := pk_andE v (m := 255) 8 rfl
theorem b255' {b : Nat} (h : b < 256) : nI b &&& 255 = nI b := by
  rw [pk_andN (by omega) (m := 255) 8 rfl, Nat.mod_eq_of_lt (by omega)]
theorem vOKb {B j : Nat} {b : Nat} (hb : b < 256) : vOK B (5 + j) (nI b) := Or.inr ⟨by omega, b, by rw [Nat.add_comm]; show b ≤ 255; omega, rfl⟩
theorem rSetb (r : RS) (i j : Nat) (v : Int32) : rSet r i (5 + j) v = rSByt r (upd (rByt r) (8 * i + j) v) := by
  rw [Nat.add_comm]; rfl
/-- what holds beyond the ranges, between two calls -/
def IX (d : DS) : Prop := (∀ i, i < 40 → ¬ dCells d (i * 13) = 0 → dCells d (i * 13 + 1) = 0 → dCells d (i * 13 + 2) = 8) ∧ (¬ dUnr d 0 = 0 ∨ (dCells d 0 = 1 ∧ dCells d 1 = 0)) ∧ (∀ i, i < 40 → dCells d (i * 13) = 1 → ¬ dCells d (i * 13 + 1) = 0 → dCells d (i * 13 + 2) = 4 ∨ dCells d (i * 13 + 2) = 8)
