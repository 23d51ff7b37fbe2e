/-! rows of cells written on both sides; the spending of a writing -/
/-- all of the reference but its sectors' cells -/
def rO (r : RS) : ((Nat → Int32) × (Nat → Int32) × (Nat → Int32) × (Nat → Int32) × (Nat → Int32) × (Nat → Int32) × (Nat → Int32) × (Nat → Int32) × (Nat → Int32) × (Nat → Int32) × (Nat → Int32)) × RI := (r.1.2.2.2.2.2.2, r.2)
theorem rO_oth {r r' : RS} (h : rO r' = rO r) : rOth r' = rOth r := congrArg (fun z => (z.1.1, z.1.2.1, z.1.2.2.2.1, z.2)) h
theorem rO_mar {r r' : RS} (h : rO r' = rO r) : rMar r' = rMar r := congrArg (fun z => z.1.2.2.1) h
theorem rO_row {r r' : RS} (h : rO r' = rO r) : rRow r' = rRow r := congrArg (fun z => z.1.2.2.2.2.1) h
theorem rO_i {r r' : RS} (h : rO r' = rO r) : r'.2 = r.2 := congrArg (fun z => z.2) h
theorem rSet_O (r : RS) (i k : Nat) (v : Int32) : rO (rSet r i k v) = rO r := by
  match k with
  | 0 => rfl
  | 1 => rfl
  | 2 => rfl
  | 3 => rfl
  | 4 => rfl
  | k + 5 => rfl
def DRow (d d' : DS) (i : Nat) (v : Nat → Int32) : Prop := (∀ j, j < 40 → ∀ k, k < 13 → dCells d' (j * 13 + k) = if j = i then v k else dCells d (j * 13 + k)) ∧ d'.2 = d.2
def RRow (r r' : RS) (i : Nat) (v : Nat → Int32) : Prop := (∀ j, j < 40 → ∀ k, k < 13 → rC r' j k = if j = i then v k else rC r j k) ∧ rO r' = rO r
/-- the same, but for what is counted -/
def DU (d d' : DS) (i : Nat) (v : Nat → Int32) : Prop := (∀ j, j < 40 → ∀ k, k < 13 → dCells d' (j * 13 + k) = if j = i then v k else dCells d (j * 13 + k)) ∧ dUnr d' = dUnr d
theorem all13 {P : Nat → Prop} (h0 : P 0) (h1 : P 1) (h2 : P 2) (h3 : P 3) (h4 : P 4) (h5 : P 5) (h6 : P 6) (h7 : P 7) (h8 : P 8) (h9 : P 9) (h10 : P 10) (h11 : P 11) (h12 : P 12) : ∀ k, k < 13 → P k := by
  intro k hk
  rcases (show k = 0 ∨ k = 1 ∨ k = 2 ∨ k = 3 ∨ k = 4 ∨ k = 5 ∨ k = 6 ∨ k = 7 ∨ k = 8 ∨ k = 9 ∨ k = 10 ∨ k = 11 ∨ k = 12 by omega) with rfl | rfl | rfl | rfl | rfl | rfl | rfl | rfl | rfl | rfl | rfl | rfl | rfl <;> assumption
section CE
variable {d d' : DS} {r r' : RS} {f : FS} {B i k : Nat} {v v' : Nat → Int32}
theorem DRow.refl (d : DS) (i : Nat) : DRow d d i (fun k => dCells d (i * 13 + k)) := ⟨fun j _ k _ => by
  by_cases h : j = i
  · rw [if_pos h, h]
  · rw [if_neg h], rfl⟩
theorem RRow.refl (r : RS) (i : Nat) : RRow r r i (rC r i) := ⟨fun j _ k _ => by
  by_cases h : j = i
  · rw [if_pos h, h]
  · rw [if_neg h], rfl⟩
theorem DRow.set (h : DRow d d' i v) (hk : k < 13) (x : Int32) : DRow d (dSet d' i k x) i (upd v k x) := by
  refine ⟨fun j hj k' hk' => ?_, h.2⟩
  rw [dSet_at hk hk', h.1 j hj k' hk']
  by_cases h1 : j = i
  · rw [if_pos h1, if_pos h1]
    by_cases h2 : k' = k
    · rw [if_pos ⟨h1, h2⟩, h2, pk_us]
    · rw [if_neg (fun q => h2 q.2), pk_un h2]
  · rw [if_neg (fun q => h1 q.1), if_neg h1, if_neg h1]
theorem RRow.set (h : RRow r r' i v) (hk : k < 13) (x : Int32) : RRow r (rSet r' i k x) i (upd v k x) := by
  refine ⟨fun j hj k' hk' => ?_, (rSet_O r' i k x).trans h.2⟩
  rw [rSet_at hk hk', h.1 j hj k' hk']
  by_cases h1 : j = i
  · rw [if_pos h1, if_pos h1]
    by_cases h2 : k' = k
    · rw [if_pos ⟨h1, h2⟩, h2, pk_us]
    · rw [if_neg (fun q => h2 q.2), pk_un h2]
  · rw [if_neg (fun q => h1 q.1), if_neg h1, if_neg h1]
theorem DRow.congr (h : DRow d d' i v) (hv : ∀ k, k < 13 → v k = v' k) : DRow d d' i v' := ⟨fun j hj k hk => by rw [h.1 j hj k hk, hv k hk], h.2⟩
theorem RRow.congr (h : RRow r r' i v) (hv : ∀ k, k < 13 → v k = v' k) : RRow r r' i v' := ⟨fun j hj k hk => by rw [h.1 j hj k hk, hv k hk], h.2⟩
theorem DRow.unr (h : DRow d d' i v) : dUnr d' = dUnr d := congrArg (·.2.1) h.2
theorem DRow.du (h : DRow d d' i v) : DU d d' i v := ⟨h.1, h.unr⟩
theorem RD.row (h : RD d r) (h1 : DRow d d' i v) (h2 : RRow r r' i v) : RD d' r' :=
  h.of_oth (fun j hj k hk => by rw [h1.1 j hj k hk, h2.1 j hj k hk, h.1 j hj k hk]) (congrArg (·.2) h1.2) (rO_oth h2.2)
theorem vOK_of (I : IV B d) {j k : Nat} (hj : j < 40) (hk : k < 13) : vOK B k (dCells d (j * 13 + k)) := by
  by_cases h : k = 3 ∨ k = 4
  · refine Or.inl ⟨h, ?_⟩
    rcases (I.2 j hj).2.2 k h with q | ⟨q1, q2⟩
    · exact Or.inl q
    · exact Or.inr ⟨_, q2, q1⟩
  · have := (I.2 j hj).2.1 k hk (by omega) (by omega)
    exact Or.inr ⟨h, _, this.2, this.1⟩
theorem IV.of_ok (hB : B ≤ 100000) (hu : ∀ j, j < 40 → dUnr d j = 0 ∨ dUnr d j = 1) (h : ∀ j, j < 40 → ∀ k, k < 13 → vOK B k (dCells d (j * 13 + k))) : IV B d := by
  refine ⟨hB, fun j hj => ⟨hu j hj, fun k hk h3 h4 => ?_, fun k hk => ?_⟩⟩
  · unfold vN
    rcases h j hj k hk with ⟨q, -⟩ | ⟨-, n, n1, n2⟩
    · omega
    · have hm : mxK B k ≤ 100000 := by unfold mxK; split <;> omega
      rw [n2, cl_nI (by omega)]; exact ⟨rfl, n1⟩
  · unfold vN
    rcases h j hj k (by omega) with ⟨-, q⟩ | ⟨q, -⟩
    · rcases q with q | ⟨a, a1, a2⟩
      · exact Or.inl q
      · rw [a2, cl_nI (by omega)]; exact Or.inr ⟨rfl, a1⟩
    · omega
theorem vOK.mono {B' : Nat} (hB : B ≤ B') {x : Int32} (h : vOK B k x) : vOK B' k x := by
  rcases h with h | ⟨h, n, n1, n2⟩
  · exact Or.inl h
  · refine Or.inr ⟨h, n, Nat.le_trans n1 ?_, n2⟩
    unfold mxK; split <;> omega
theorem IV.row {B' : Nat} (I : IV B d) (hB : B ≤ B') (hB' : B' ≤ 100000) (h1 : DU d d' i v) (hv : ∀ k, k < 13 → vOK B' k (v k)) : IV B' d' := by
  refine IV.of_ok hB' (fun j hj => by rw [h1.2]; exact (I.2 j hj).1) (fun j hj k hk => ?_)
  rw [h1.1 j hj k hk]
  by_cases h : j = i
  · rw [if_pos h]; exact hv k hk
  · rw [if_neg h]; exact (vOK_of I hj hk).mono hB
theorem IV.mono {B' : Nat} (I : IV B d) (hB : B ≤ B') (hB' : B' ≤ 100000) : IV B' d := IV.of_ok hB' (fun j hj => (I.2 j hj).1) (fun _ hj _ hk => (vOK_of I hj hk).mono hB)
theorem IX.row (X : IX d) (h1 : DU d d' i v) (h8 : ¬ v 0 = 0 → v 1 = 0 → v 2 = 8) (h0 : i = 0 → v 0 = 1 ∧ v 1 = 0) (hC : v 0 = 1 → ¬ v 1 = 0 → v 2 = 4 ∨ v 2 = 8) : IX d' := by
  have e0 : ∀ j, j < 40 → dCells d' (j * 13) = if j = i then v 0 else dCells d (j * 13) := fun j hj => h1.1 j hj 0 (by decide)
  refine ⟨fun j hj => ?_, ?_, fun j hj => ?_⟩
  · rw [e0 j hj, h1.1 j hj 1 (by decide), h1.1 j hj 2 (by decide)]
    by_cases h : j = i
    · rw [if_pos h, if_pos h, if_pos h]; exact h8
    · rw [if_neg h, if_neg h, if_neg h]; exact X.1 j hj
  · have a0 := e0 0 (by decide)
    have a1 := h1.1 0 (by decide) 1 (by decide)
    rw [h1.2]
    rw [show 0 * 13 = 0 from rfl] at a0
    rw [show 0 * 13 + 1 = 1 from rfl] at a1
    rw [a0, a1]
    by_cases h : 0 = i
    · rw [if_pos h, if_pos h]; exact Or.inr (h0 h.symm)
    · rw [if_neg h, if_neg h]; exact X.2.1
  · rw [e0 j hj, h1.1 j hj 1 (by decide), h1.1 j hj 2 (by decide)]
    by_cases h : j = i
    · rw [if_pos h, if_pos h, if_pos h]; exact hC
    · rw [if_neg h, if_neg h, if_neg h]; exact X.2.2 j hj
/-- an empty sector's cells -/
def eV : Nat → Int32 := fun k => if k = 3 ∨ k = 4 then -1 else 0
theorem C_erase (hi : i < 40) (hu : dUnr d i = 0) : DRow d (xErase d (nI i)) i eV := by
  unfold xErase
  have h1 : DRow d (itF (fun k z => xSetCell z (nI i) (nI k) 0) 0 13 d) i (fun k => if k < 13 then 0 else dCells d (i * 13 + k)) := by
    refine itF_inv (P := fun j z => DRow d z i (fun k => if k < j then 0 else dCells d (i * 13 + k))) 13 0 d ((DRow.refl d i).congr fun k _ => by rw [if_neg (by omega)]) (fun j z _ hj hz => ?_)
    show DRow d (xSetCell z (nI i) (nI j) 0) i _
    rw [C_set hi (by omega) (by rw [hz.unr]; exact hu)]
    refine (hz.set (by omega) 0).congr fun k hk => ?_
    by_cases q : k = j
    · rw [q, pk_us, if_pos (by omega)]
    · rw [pk_un q]
      by_cases q2 : k < j
      · rw [if_pos q2, if_pos (by omega)]
      · rw [if_neg q2, if_neg (by omega)]
  generalize itF (fun k z => xSetCell z (nI i) (nI k) 0) 0 13 d = z at h1
  have h2 := h1.set (k := 3) (by decide) (-1)
  rw [← C_set hi (by decide) (by rw [h1.unr]; exact hu)] at h2
  have h3 := h2.set (k := 4) (by decide) (-1)
  rw [← C_set hi (by decide) (by rw [h2.unr]; exact hu)] at h3
  refine h3.congr (all13 ?_ ?_ ?_ ?_ ?_ ?_ ?_ ?_ ?_ ?_ ?_ ?_ ?_) <;> rfl
theorem byA (i j : Nat) : (8 * nI i + nI j : Int32) = nI (8 * i + j) := by
  rw [show (8 : Int32) = nI 8 from rfl, pk_mul, nI_add]
theorem by8 (i : Nat) : (8 * nI i : Int32) = nI (8 * i) := by
  rw [show (8 : Int32) = nI 8 from rfl, pk_mul]
theorem R_empty (r : RS) (hi : i < 40) : ∃ r', f_Mod_empty r (nI i) = some ((), r') ∧ RRow r r' i eV := by
  unfold f_Mod_empty B_Mod_empty_8 B_Mod_empty_15 B_Mod_empty_22
  rw [R_label0 hi, bnd_some, if_pos (inB_nI hi (by decide)), if_pos (inB_nI hi (by decide)), cl_nI (by omega)]
  have h0 := ((((RRow.refl r i).set (k := 0) (by decide) 0).set (k := 1) (by decide) 0).set (k := 2) (by decide) 0)
  have h1 := (h0.set (k := 3) (by decide) (-1)).set (k := 4) (by decide) (-1)
  have h2 : RRow r (itF (fun k z => rSet z i (5 + k) 0) 0 8 (rSet (rSet (rSet (rSet (rSet r i 0 0) i 1 0) i 2 0) i 3 (-1)) i 4 (-1))) i (fun k => if 5 ≤ k ∧ k < 5 + 8 then 0 else upd (upd (upd (upd (upd (rC r i) 0 0) 1 0) 2 0) 3 (-1)) 4 (-1) k) := by
    refine itF_inv (P := fun j z => RRow r z i (fun k => if 5 ≤ k ∧ k < 5 + j then 0 else upd (upd (upd (upd (upd (rC r i) 0 0) 1 0) 2 0) 3 (-1)) 4 (-1) k)) 8 0 _ (h1.congr fun k _ => by rw [if_neg (by omega)]) (fun j z _ hj hz => ?_)
    refine (hz.set (k := 5 + j) (by omega) 0).congr fun k hk => ?_
    by_cases q : k = 5 + j
    · rw [q, pk_us, if_pos (by omega)]
    · rw [pk_un q]
      by_cases q2 : 5 ≤ k ∧ k < 5 + j
      · rw [if_pos q2, if_pos (by omega)]
      · rw [if_neg q2, if_neg (by omega)]
  refine ⟨_, ?_, h2.congr (v' := eV) (all13 ?_ ?_ ?_ ?_ ?_ ?_ ?_ ?_ ?_ ?_ ?_ ?_ ?_)⟩
  · exact lp_it (Lf := fun n z x => L_Mod_empty_24 n z (nI i) x) (f := fun k z => rSet z i (5 + k) 0) (fin := fun z => ((), z)) (N := 8) (fun n z j hj => by
      show L_Mod_empty_24 (n + 1) z (nI i) (nI j) = _
      rw [L_Mod_empty_24, if_neg (gn 8 hj), byA, if_pos (inB_nI (show 8 * i + j < 320 by omega) (by decide)), cl_nI (by omega), ← nI_1, rSetb]
      rfl) (fun n z => by
      show L_Mod_empty_24 (n + 1) z (nI i) (nI 8) = _
      rw [L_Mod_empty_24, if_pos (gy 8 (N := 8))]) 8 0 _ 1000 rfl (by decide)
  all_goals rfl
/-- what the spending of a writing leaves of the reference -/
def rQ (r : RS) : RA × Int32 × Int32 × Int32 × Int32 × Int32 × Int32 × Int32 × Int32 := (r.1, rFau r, rMap r, rHAt r, rHPl r, rEnd r, rFAt r, rFPl r, rRws r)
theorem R_writes (h : RD d r) (hf : rFau r = 0) : (f_Disk_spendWrite d = (.inl 1, dSPow d 0) ∧ f_Mod_writes r = (0, rSFau (rSDar r 1) 1) ∧ RD (dSPow d 0) (rSFau (rSDar r 1) 1)) ∨ (∃ d' r', f_Disk_spendWrite d = (.inr (), d') ∧ f_Mod_writes r = (1, r') ∧ RD d' r' ∧ dCells d' = dCells d ∧ dEarl d' = dEarl d ∧ dUnr d' = dUnr d ∧ dMis d' = dMis d ∧ rQ r' = rQ r) := by
  unfold f_Disk_spendWrite f_Mod_writes B_Disk_spendWrite_37 B_Mod_writes_49 B_Mod_writes_52 B_Mod_writes_62 B_Mod_writes_21 B_Mod_writes_26
  obtain ⟨h1, h2, h3, h4, h5, h6⟩ := h
  rw [hf, if_pos (show (0 : Int32) ≤ 0 by decide), ← h5]
  by_cases hc : dChg d = 0
  · rw [if_neg (not_not_intro hc), if_neg (not_not_intro hc)]
    exact Or.inl ⟨rfl, rfl, h1, h2, h3, h4, h5, Or.inr ⟨rfl, rfl⟩⟩
  · rw [if_pos hc, if_pos hc]
    by_cases hl : dChg d ≤ 0
    · rw [if_pos hl, if_pos hl]
      exact Or.inr ⟨_, _, rfl, rfl, ⟨h1, h2, h3, by show dWri d + 1 = rWri r + 1; rw [h4], rfl, h6⟩, rfl, rfl, rfl, rfl, rfl⟩
    · rw [if_neg hl, if_neg hl]
      exact Or.inr ⟨_, _, rfl, rfl, ⟨h1, h2, h3, by show dWri d + 1 = rWri r + 1; rw [h4], rfl, h6⟩, rfl, rfl, rfl, rfl, rfl⟩
theorem wr_dark (h : rFau r = 1) : f_Mod_writes r = (0, r) := by
  unfold f_Mod_writes
  rw [h, if_neg (by decide)]
theorem IV.same (I : IV B d) (h1 : dCells d' = dCells d) (h2 : dUnr d' = dUnr d) : IV B d' := by
  unfold IV vN at I ⊢
  rw [h1, h2]; exact I
theorem IX.same (X : IX d) (h1 : dCells d' = dCells d) (h2 : dUnr d' = dUnr d) : IX d' := by
  unfold IX at X ⊢
  rw [h1, h2]; exact X
end CE
