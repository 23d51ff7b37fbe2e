/-! scavenging: an entry settled -/
abbrev SF (B : Nat) (d : DS) (s : SS) (r : RS) (M : Nat → Nat) : Prop := SI (fun _ => False) B d s r M
/-- labels as they were -/
def LSm (d d' : DS) : Prop := (∀ i, i < 40 → ∀ k, k < 3 → dCells d' (i * 13 + k) = dCells d (i * 13 + k)) ∧ dUnr d' = dUnr d ∧ dEarl d' = dEarl d ∧ UR d d'
theorem LSm.refl (d : DS) : LSm d d := ⟨fun _ _ _ _ => rfl, rfl, rfl, fun _ _ _ _ _ => rfl⟩
theorem LSm.trans {d d' d'' : DS} (h : LSm d d') (h' : LSm d' d'') : LSm d d'' := ⟨fun i hi k hk => (h'.1 i hi k hk).trans (h.1 i hi k hk), h'.2.1.trans h.2.1, h'.2.2.1.trans h.2.2.1, UR.trans h.2.1 h.2.2.2 h'.2.2.2⟩
theorem LSm.search {d d' : DS} (h : LSm d d') {sn p : Int32} (hs : ¬ sn = -1) : xSearch d' sn p = xSearch d sn p := S_lab hs h.1 h.2.1
/-- an entry with serial 0 has name 0 -/
def OKE (d : DS) (j t : Nat) : Prop := dCells d (j * 13 + (5 + (4 * t + 2))) = 0 → dCells d (j * 13 + (5 + 4 * t)) = 0 ∧ dCells d (j * 13 + (5 + (4 * t + 1))) = 0
def OKm (d d' : DS) : Prop := ∀ j t, j < 40 → t < 2 → OKE d j t → OKE d' j t
theorem OKm.refl (d : DS) : OKm d d := fun _ _ _ _ h => h
theorem OKm.trans {d d' d'' : DS} (h : OKm d d') (h' : OKm d' d'') : OKm d d'' := fun j t hj ht q => h' j t hj ht (h j t hj ht q)
theorem hole_at {d : DS} {i t j c : Nat} (ht : t < 2) (hc : c < 8) : dCells (dSet (dSet (dSet (dSet d i (5 + 4 * t) 0) i (5 + (4 * t + 1)) 0) i (5 + (4 * t + 2)) 0) i (5 + (4 * t + 3)) 0) (j * 13 + (5 + c)) = if j = i ∧ 4 * t ≤ c ∧ c < 4 * t + 4 then 0 else dCells d (j * 13 + (5 + c)) := by
  rw [dSet_at (by omega) (by omega), dSet_at (by omega) (by omega), dSet_at (by omega) (by omega), dSet_at (by omega) (by omega)]
  by_cases q : j = i ∧ 4 * t ≤ c ∧ c < 4 * t + 4
  · rw [if_pos q]
    by_cases a3 : j = i ∧ 5 + c = 5 + (4 * t + 3)
    · rw [if_pos a3]
    · rw [if_neg a3]
      by_cases a2 : j = i ∧ 5 + c = 5 + (4 * t + 2)
      · rw [if_pos a2]
      · rw [if_neg a2]
        by_cases a1 : j = i ∧ 5 + c = 5 + (4 * t + 1)
        · rw [if_pos a1]
        · rw [if_neg a1, if_pos (by omega)]
  · rw [if_neg q, if_neg (by omega), if_neg (by omega), if_neg (by omega), if_neg (by omega)]
/-- the reference's stack and what else a settling leaves -/
def rS (r : RS) : (Nat → Int32) × (Nat → Int32) × (Nat → Int32) × (Nat → Int32) := (rWal r, rRch r, rKep r, rWas r)
theorem rO_S {r r' : RS} (h : rO r' = rO r) : rS r' = rS r := congrArg (fun z => (z.1.2.2.2.2.2.2.2.2.1, z.1.2.2.2.2.2.2.2.2.2.1, z.1.2.1, z.1.2.2.2.2.2.2.2.2.2.2)) h
theorem rS_rea (r : RS) (t : Nat → Int32) : rS (rSRea r t) = rS r := by
  unfold rS
  rw [Wal_Rea, Rch_Rea, Kep_Rea, Was_Rea]
section SE2
variable {d d' : DS} {r r' : RS} {f : FS} {w : WS} {m : MS} {s : SS} {g : GS} {B : Nat} {M : Nat → Nat}
theorem RDx.bytF (h : RDx (fun _ => False) d r) {i j : Nat} (hi : i < 40) (hj : j < 8) : dCells d (i * 13 + (5 + j)) = rByt r (8 * i + j) := by
  rw [h.1 i hi (5 + j) (by omega) (fun _ => ⟨by omega, by omega⟩) (fun z => z.elim), rC_byt]
theorem X_isDir (h : RDx (fun _ => False) d r) {i : Nat} (hi : i < 40) (hu : dUnr d i = 0) : ∃ b : Int32, f_Disk_isDirectory d (nI i) = (b, ()) ∧ f_Mod_isDirectory r (nI i) = some (b, ()) ∧ (b = 0 ∨ b = 1) := by
  unfold f_Disk_isDirectory B_Disk_isDirectory_27 B_Disk_isDirectory_31 f_Disk_byteAt f_Mod_isDirectory B_Mod_isDirectory_35 B_Mod_isDirectory_39
  have e3 : (8 * nI i + 2 : Int32) = nI (8 * i + 2) := ix8 i 2
  have e4 : xCell d (nI i) (5 + 2) = dCells d (i * 13 + (5 + 2)) := xcb (j := 2) hi (by decide) hu
  rw [if_pos (inB_nI hi (by decide)), if_pos (inB_nI hi (by decide)), cl_nI (by omega), ← (h.lb i hi).1, xc0 hi hu, e3, if_pos (inB_nI (show 8 * i + 2 < 320 by omega) (by decide)), cl_nI (by omega), ← h.bytF hi (show 2 < 8 by decide), e4]
  by_cases h1 : dCells d (i * 13) = 1
  · rw [if_pos h1, if_pos h1]; exact ⟨1, rfl, rfl, Or.inr rfl⟩
  · rw [if_neg h1, if_neg h1]
    have e : dCells d (i * 13) < 3 ↔ dCells d (i * 13) ≤ 2 := by
      rw [Int32.lt_iff_toInt_lt, Int32.le_iff_toInt_le]
      show (dCells d (i * 13)).toInt < 3 ↔ (dCells d (i * 13)).toInt ≤ 2
      omega
    by_cases h2 : dCells d (i * 13) < 3
    · rw [if_pos h2, if_pos (e.mp h2)]; exact ⟨0, rfl, rfl, Or.inl rfl⟩
    · rw [if_neg h2, if_neg (fun q => h2 (e.mpr q))]
      by_cases h3 : dCells d (i * 13 + (5 + 2)) = 1
      · rw [if_neg (not_not_intro h3), if_neg (not_not_intro h3)]; exact ⟨1, rfl, rfl, Or.inr rfl⟩
      · rw [if_pos h3, if_pos h3]; exact ⟨0, rfl, rfl, Or.inl rfl⟩
theorem X_name (h : RDx (fun _ => False) d r) {i o : Nat} (hi : i < 40) (hu : dUnr d i = 0) (ho : o < 7) : ∃ v : Int32, f_Disk_nameAt d (nI i) (nI o) = (v, ()) ∧ f_Mod_nameAt r (nI (8 * i + o)) = some (v, ()) := by
  unfold f_Disk_nameAt f_Mod_nameAt
  have e1 : (5 + nI o + 1 : Int32) = 5 + nI (o + 1) := by rw [Int32.add_assoc, nI_1]
  have e2 : (nI (8 * i + o) + 1 : Int32) = nI (8 * i + (o + 1)) := by rw [nI_1, Nat.add_assoc]
  rw [e1, xcb hi (by omega) hu, xcb hi (by omega) hu, e2, if_pos (inB_nI (show 8 * i + o < 320 by omega) (by decide)), if_pos (inB_nI (show 8 * i + (o + 1) < 320 by omega) (by decide)), cl_nI (by omega), cl_nI (by omega), ← h.bytF hi (by omega), ← h.bytF hi (by omega)]
  exact ⟨_, rfl, by rw [Int32.mul_comm 256]⟩
theorem RDx.set (h : RDx (fun _ => False) d r) {i k : Nat} (hi : i < 40) (hk : k < 13) (h5 : 5 ≤ k) (v : Int32) : RDx (fun _ => False) (dSet d i k v) (rSet r i k v) := by
  have hO := rSet_O r i k v
  refine h.oth (fun j hj k' hk' q1 q2 => ?_) rfl (oth_bad (rO_oth hO)) (rO_i hO)
  have e0 : dCells (dSet d i k v) (j * 13) = dCells d (j * 13) := by
    have := dSet_at (d := d) (i := i) (k := k) (i' := j) (k' := 0) (v := v) hk (by decide)
    rw [if_neg (by omega)] at this
    exact this
  rw [dSet_at hk hk', rSet_at hk hk']
  by_cases e : j = i ∧ k' = k
  · rw [if_pos e, if_pos e]
  · rw [if_neg e, if_neg e]
    exact h.1 j hj k' hk' (fun z => q1 (by rw [e0]; exact z)) q2
theorem lab_set {i k : Nat} (hk : k < 13) (h5 : 5 ≤ k) (v : Int32) : ∀ j, j < 40 → ∀ k', k' < 3 → dCells (dSet d i k v) (j * 13 + k') = dCells d (j * 13 + k') := fun j hj k' hk' => by rw [dSet_at hk (by omega), if_neg (by omega)]
theorem LSm.set {i k : Nat} (hk : k < 13) (h5 : 5 ≤ k) (v : Int32) (hu : dUnr d i = 0) : LSm d (dSet d i k v) := ⟨lab_set hk h5 v, rfl, rfl, fun y hy u c hc => by rw [dSet_at hk hc, if_neg (fun z => u (by rw [z.1]; exact hu))]⟩
theorem SI.set (h : SF B d s r M) {i k b : Nat} (hi : i < 40) (hk : k < 8) (hb : b < 256) : SF B (dSet d i (5 + k) (nI b)) s (rSet r i (5 + k) (nI b)) M := by
  have hO := rSet_O r i (5 + k) (nI b)
  refine ⟨h.1.set hi (by omega) (by omega) _, h.2.1.set (by omega) (vOKb hb), h.2.2.1.set3 (by omega) (by omega), h.2.2.2.1.lab (lab_set (d := d) (i := i) (k := 5 + k) (by omega) (by omega) (nI b)) rfl (rT_tab (rO_T hO)) (rT_man (rO_T hO)), ?_⟩
  have hV := h.2.2.2.2
  unfold SV at hV ⊢
  rw [rO_rep hO, rT_rea (rO_T hO)]; exact hV
/-- an entry made a hole on both sides -/
theorem SI.hole (h : SF B d s r M) {i t : Nat} (hi : i < 40) (hu : dUnr d i = 0) (ht : t < 2) : ∃ d' r', xHole d (nI i) (nI (4 * t)) = d' ∧ f_Mod_setEntry r (nI (8 * i + 4 * t)) 0 0 0 = some ((), r') ∧ SF B d' s r' M ∧ LSm d d' ∧ rO r' = rO r ∧ OKm d d' ∧ OKE d' i t := by
  refine ⟨_, _, rfl, R_setE hi ht 0 0 0, ?_, ?_, rO_setE _ _ _ _, ?_, ?_⟩
  · rw [show (nI (4 * t) : Int32) = nI t * 4 from by rw [show (4 : Int32) = nI 4 from rfl, pk_mul, Nat.mul_comm], C_hole hi hu ht, show (0 - 0 / 256 * 256 : Int32) = nI 0 by decide, show (0 / 256 : Int32) = nI 0 by decide]
    exact (((h.set (k := 4 * t) hi (by omega) (by decide)).set (k := 4 * t + 1) hi (by omega) (by decide)).set (k := 4 * t + 2) hi (by omega) (by decide)).set (k := 4 * t + 3) hi (by omega) (by decide)
  · rw [show (nI (4 * t) : Int32) = nI t * 4 from by rw [show (4 : Int32) = nI 4 from rfl, pk_mul, Nat.mul_comm], C_hole hi hu ht]
    exact (((LSm.set (by omega) (by omega) _ hu).trans (LSm.set (by omega) (by omega) _ hu)).trans (LSm.set (by omega) (by omega) _ hu)).trans (LSm.set (by omega) (by omega) _ hu)
  · rw [show (nI (4 * t) : Int32) = nI t * 4 from by rw [show (4 : Int32) = nI 4 from rfl, pk_mul, Nat.mul_comm], C_hole hi hu ht]
    intro j t' hj ht' q
    unfold OKE
    rw [hole_at ht (by omega), hole_at ht (by omega), hole_at ht (by omega)]
    by_cases e : j = i ∧ t' = t
    · rw [if_pos (show j = i ∧ 4 * t ≤ 4 * t' ∧ 4 * t' < 4 * t + 4 by omega), if_pos (show j = i ∧ 4 * t ≤ 4 * t' + 1 ∧ 4 * t' + 1 < 4 * t + 4 by omega)]
      exact fun _ => ⟨rfl, rfl⟩
    · rw [if_neg (show ¬ (j = i ∧ 4 * t ≤ 4 * t' + 2 ∧ 4 * t' + 2 < 4 * t + 4) by omega), if_neg (show ¬ (j = i ∧ 4 * t ≤ 4 * t' ∧ 4 * t' < 4 * t + 4) by omega), if_neg (show ¬ (j = i ∧ 4 * t ≤ 4 * t' + 1 ∧ 4 * t' + 1 < 4 * t + 4) by omega)]
      exact q
  · rw [show (nI (4 * t) : Int32) = nI t * 4 from by rw [show (4 : Int32) = nI 4 from rfl, pk_mul, Nat.mul_comm], C_hole hi hu ht]
    unfold OKE
    rw [hole_at ht (by omega), hole_at ht (by omega), hole_at ht (by omega), if_pos (show i = i ∧ 4 * t ≤ 4 * t ∧ 4 * t < 4 * t + 4 by omega), if_pos (show i = i ∧ 4 * t ≤ 4 * t + 1 ∧ 4 * t + 1 < 4 * t + 4 by omega)]
    exact fun _ => ⟨rfl, rfl⟩
theorem R_isThere {sn : Nat} (h : SF B d s r M) (hs1 : 1 ≤ sn) (hs : sn ≤ 60) : f_Mod_isThere r (nI sn) = some (if xSearch d (nI sn) 0 = -1 then 0 else 1, ()) := by
  unfold f_Mod_isThere
  have q := in160' hs1 hs
  rw [if_neg (fun z => ((inab _ _ _).mp z).elim q.1 q.2.2), R_headOf rfl (h.2.2.2.1.2 sn hs1 hs) hs, bnd_some]
  unfold B_Mod_isThere_15 B_Mod_isThere_22
  rcases hd_cases (d := d) (nI sn) 0 with e | ⟨i, i1, e⟩
  · rw [e, if_pos rfl, if_pos (show ((-1 : Int32), ()).1 < 0 from (by decide : (-1 : Int32) < 0))]
  · rw [e, if_neg (nI_m1 (by omega)), if_neg (show ¬ (nI i, ()).1 < 0 from nI_pos (by omega))]
end SE2
