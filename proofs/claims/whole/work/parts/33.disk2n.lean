/-! loops as what they compute -/
def itF {σ : Type} (f : Nat → σ → σ) : Nat → Nat → σ → σ
  | _, 0, s => s
  | i, k + 1, s => itF f (i + 1) k (f i s)
theorem lp_it {σ R : Type} {Lf : Nat → σ → Int32 → Option R} {f : Nat → σ → σ} {fin : σ → R} {N : Nat} (hs : ∀ n s i, i < N → Lf (n + 1) s (nI i) = Lf n (f i s) (nI (i + 1))) (he : ∀ n s, Lf (n + 1) s (nI N) = some (fin s)) : ∀ k i s n, i + k = N → k < n → Lf n s (nI i) = some (fin (itF f i k s)) := by
  intro k
  induction k with
  | zero =>
    intro i s n hi hn
    obtain ⟨m, rfl⟩ : ∃ m, n = m + 1 := ⟨n - 1, by omega⟩
    have h : i = N := by omega
    subst h
    exact he m s
  | succ k ih =>
    intro i s n hi hn
    obtain ⟨m, rfl⟩ : ∃ m, n = m + 1 := ⟨n - 1, by omega⟩
    rw [hs m s i (by omega)]
    exact ih (i + 1) (f i s) m (by omega) (by omega)
def fsF (p : Nat → Bool) : Nat → Nat → Option Nat
  | _, 0 => none
  | i, k + 1 => if p i = true then some i else fsF p (i + 1) k
def fsM {R : Type} (o : Option Nat) (r : Nat → R) (e : R) : R := match o with
  | some j => r j
  | none => e
theorem lp_fs {R : Type} {Lf : Nat → Int32 → Option R} {p : Nat → Bool} {r : Nat → R} {e : R} {N : Nat} (hs : ∀ n i, i < N → Lf (n + 1) (nI i) = if p i = true then some (r i) else Lf n (nI (i + 1))) (he : ∀ n, Lf (n + 1) (nI N) = some e) : ∀ k i n, i + k = N → k < n → Lf n (nI i) = some (fsM (fsF p i k) r e) := by
  intro k
  induction k with
  | zero =>
    intro i n hi hn
    obtain ⟨m, rfl⟩ : ∃ m, n = m + 1 := ⟨n - 1, by omega⟩
    have h : i = N := by omega
    subst h
    exact he m
  | succ k ih =>
    intro i n hi hn
    obtain ⟨m, rfl⟩ : ∃ m, n = m + 1 := ⟨n - 1, by omega⟩
    rw [hs m i (by omega), fsF]
    by_cases hp : p i = true
    · rw [if_pos hp, if_pos hp]; rfl
    · rw [if_neg hp, if_neg hp]; exact ih (i + 1) m (by omega) (by omega)
theorem gn (K : Int32) {i N : Nat} (h : i < N) (hK : K = nI N := by rfl) (hN : N < 1000000 := by decide) : ¬ K ≤ nI i := by
  rw [hK]; exact nI_ge h (by omega)
theorem gy (K : Int32) {N : Nat} (hK : K = nI N := by rfl) : K ≤ nI N := by
  rw [hK]; exact Int32.le_refl _
theorem ge_no {i N : Nat} (h : i < N) (hN : N < 1000000) : ¬ nI N ≤ nI i := nI_ge h (by omega)
theorem ge_yes {N : Nat} : nI N ≤ nI N := Int32.le_refl _
/-- the first sector of those with p, -1 if there is none -/
def fsI (p : Nat → Bool) : Int32 := fsM (fsF p 0 40) nI (-1)
def xFree (d : DS) (a : Int32) : Bool := decide (xCell d a 0 = 0)
def xUse (d : DS) (a : Int32) : Bool := decide (¬ xCell d a 0 ≤ 0)
def xSays (d : DS) (s p : Int32) (i : Nat) : Bool := decide (xCell d (nI i) 0 = s ∧ xCell d (nI i) 1 = p)
def xSearch (d : DS) (s p : Int32) : Int32 := fsI (xSays d s p)
def xLowFree (d : DS) : Int32 := fsI (fun i => xFree d (nI i))
theorem isFree_v (d : DS) (a : Int32) : f_Disk_isFree d a = (if xFree d a = true then 1 else 0, ()) := by
  unfold f_Disk_isFree xFree
  by_cases h : xCell d a 0 = 0
  · rw [if_neg (fun q => q h), if_pos (decide_eq_true h)]
  · rw [if_pos h, if_neg (by simpa using h)]
theorem isInUse_v (d : DS) (a : Int32) : f_Disk_isInUse d a = (if xUse d a = true then 1 else 0, ()) := by
  unfold f_Disk_isInUse xUse
  by_cases h : xCell d a 0 ≤ 0
  · rw [if_pos h, if_neg (by simpa using h)]
  · rw [if_neg h, if_pos (decide_eq_true h)]
theorem b01 (b : Bool) : ((if b = true then (1 : Int32) else 0) = 0) ↔ b = false := by cases b <;> decide
abbrev x_Disk_search (d : DS) (s p : Int32) : Int32 × Unit := (xSearch d s p, ())
theorem n_Disk_search (d : DS) (s p : Int32) : f_Disk_search d s p = some (x_Disk_search d s p) := by
  have h := lp_fs (Lf := fun n x => L_Disk_search_2 n d s p x) (p := xSays d s p) (r := fun i => (nI i, ())) (e := ((-1 : Int32), ())) (N := 40) (fun n i hi => by
    show L_Disk_search_2 (n + 1) d s p (nI i) = _
    rw [L_Disk_search_2, if_neg (gn 40 hi)]
    unfold B_Disk_search_30 xSays
    rw [nI_1]
    by_cases h1 : xCell d (nI i) 0 = s
    · rw [if_neg (fun q => q h1)]
      by_cases h2 : xCell d (nI i) 1 = p
      · rw [if_neg (fun q => q h2), if_pos (decide_eq_true ⟨h1, h2⟩)]
      · rw [if_pos h2, if_neg (by simp [h2])]
    · rw [if_pos h1, if_neg (by simp [h1])]) (fun n => by
    show L_Disk_search_2 (n + 1) d s p (nI 40) = _
    rw [L_Disk_search_2, if_pos (gy 40 (N := 40))]) 40 0 100 rfl (by decide)
  refine h.trans ?_
  unfold x_Disk_search xSearch fsI
  cases fsF (xSays d s p) 0 40 <;> rfl
abbrev x_Disk_lowestFree (d : DS) : Int32 × Unit := (xLowFree d, ())
theorem n_Disk_lowestFree (d : DS) : f_Disk_lowestFree d = some (x_Disk_lowestFree d) := by
  have h := lp_fs (Lf := fun n x => L_Disk_lowestFree_2 n d x) (p := fun i => xFree d (nI i)) (r := fun i => (nI i, ())) (e := ((-1 : Int32), ())) (N := 40) (fun n i hi => by
    show L_Disk_lowestFree_2 (n + 1) d (nI i) = _
    rw [L_Disk_lowestFree_2, if_neg (gn 40 hi), isFree_v]
    show (if (if xFree d (nI i) = true then (1 : Int32) else 0) = 0 then _ else _) = _
    rw [nI_1]
    by_cases h1 : xFree d (nI i) = true
    · rw [if_neg (fun q => by rw [b01, h1] at q; cases q), if_pos h1]
    · rw [if_pos ((b01 _).mpr (by simpa using h1)), if_neg h1]) (fun n => by
    show L_Disk_lowestFree_2 (n + 1) d (nI 40) = _
    rw [L_Disk_lowestFree_2, if_pos (gy 40 (N := 40))]) 40 0 100 rfl (by decide)
  refine h.trans ?_
  unfold x_Disk_lowestFree xLowFree fsI
  cases fsF (fun i => xFree d (nI i)) 0 40 <;> rfl
def xErase (d : DS) (a : Int32) : DS := xSetCell (xSetCell (itF (fun k z => xSetCell z a (nI k) 0) 0 13 d) a 3 (-1)) a 4 (-1)
abbrev x_Disk_erase (d : DS) (a : Int32) : Unit × DS := ((), xErase d a)
theorem n_Disk_erase (d : DS) (a : Int32) : f_Disk_erase d a = some (x_Disk_erase d a) := by
  exact lp_it (Lf := fun n z x => L_Disk_erase_2 n z a x) (f := fun k z => xSetCell z a (nI k) 0) (fin := fun z => ((), xSetCell (xSetCell z a 3 (-1)) a 4 (-1))) (N := 13) (fun n z i hi => by
    show L_Disk_erase_2 (n + 1) z a (nI i) = _
    rw [L_Disk_erase_2, if_neg (gn 13 hi), ← nI_1]
    rfl) (fun n z => by
    show L_Disk_erase_2 (n + 1) z a (nI 13) = _
    rw [L_Disk_erase_2, if_pos (gy 13 (N := 13))]
    rfl) 13 0 d 100 rfl (by decide)
def xSetByte (d : DS) (a i v : Int32) : DS := xSetCell d a (5 + i) (v &&& 255)
def xHole (d : DS) (a o : Int32) : DS := itF (fun k z => xSetByte z a (o + nI k) 0) 0 4 d
abbrev x_Disk_makeHole (d : DS) (a o : Int32) : Unit × DS := ((), xHole d a o)
theorem n_Disk_makeHole (d : DS) (a o : Int32) : f_Disk_makeHole d a o = some (x_Disk_makeHole d a o) := by
  exact lp_it (Lf := fun n z x => L_Disk_makeHole_2 n z a o x) (f := fun k z => xSetByte z a (o + nI k) 0) (fin := fun z => ((), z)) (N := 4) (fun n z i hi => by
    show L_Disk_makeHole_2 (n + 1) z a o (nI i) = _
    rw [L_Disk_makeHole_2, if_neg (gn 4 hi), ← nI_1]
    rfl) (fun n z => by
    show L_Disk_makeHole_2 (n + 1) z a o (nI 4) = _
    rw [L_Disk_makeHole_2, if_pos (gy 4 (N := 4))]) 4 0 d 100 rfl (by decide)
def xCopy (d : DS) (a b : Int32) : DS := itF (fun k z => xSetCell z b (nI k) (xCell z a (nI k))) 0 13 d
abbrev x_Disk_copySector (d : DS) (a b : Int32) : Unit × DS := ((), xCopy d a b)
theorem n_Disk_copySector (d : DS) (a b : Int32) : f_Disk_copySector d a b = some (x_Disk_copySector d a b) := by
  exact lp_it (Lf := fun n z x => L_Disk_copySector_2 n z a b x) (f := fun k z => xSetCell z b (nI k) (xCell z a (nI k))) (fin := fun z => ((), z)) (N := 13) (fun n z i hi => by
    show L_Disk_copySector_2 (n + 1) z a b (nI i) = _
    rw [L_Disk_copySector_2, if_neg (gn 13 hi), ← nI_1]
    rfl) (fun n z => by
    show L_Disk_copySector_2 (n + 1) z a b (nI 13) = _
    rw [L_Disk_copySector_2, if_pos (gy 13 (N := 13))]) 13 0 d 100 rfl (by decide)
/-- how many of the first N have p -/
def cnt (p : Nat → Bool) (i k : Nat) (c : Int32) : Int32 := itF (fun j c => c + if p j = true then 1 else 0) i k c
abbrev x_Disk_countFree (d : DS) : Int32 × Unit := (cnt (fun i => xFree d (nI i)) 0 40 0, ())
theorem n_Disk_countFree (d : DS) : f_Disk_countFree d = some (x_Disk_countFree d) := by
  exact lp_it (Lf := fun n c x => L_Disk_countFree_4 n d c x) (f := fun j c => c + if xFree d (nI j) = true then 1 else 0) (fin := fun c => (c, ())) (N := 40) (fun n c i hi => by
    show L_Disk_countFree_4 (n + 1) d c (nI i) = _
    rw [L_Disk_countFree_4, if_neg (gn 40 hi), isFree_v, ← nI_1]
    show (if (if xFree d (nI i) = true then (1 : Int32) else 0) = 0 then _ else _) = _
    unfold B_Disk_countFree_24
    by_cases h1 : xFree d (nI i) = true
    · rw [if_neg (fun q => by rw [b01, h1] at q; cases q), if_pos h1]
    · rw [if_pos ((b01 _).mpr (by simpa using h1)), if_neg h1]) (fun n c => by
    show L_Disk_countFree_4 (n + 1) d c (nI 40) = _
    rw [L_Disk_countFree_4, if_pos (gy 40 (N := 40))]) 40 0 0 100 rfl (by decide)
def xBad (d : DS) (i : Nat) : Bool := decide (¬ dUnr d i = 0)
abbrev x_Disk_countUnreadable (d : DS) : Int32 × Unit := (cnt (xBad d) 0 40 0, ())
theorem n_Disk_countUnreadable (d : DS) : f_Disk_countUnreadable d = some (x_Disk_countUnreadable d) := by
  exact lp_it (Lf := fun n c x => L_Disk_countUnreadable_4 n d c x) (f := fun j c => c + if xBad d j = true then 1 else 0) (fin := fun c => (c, ())) (N := 40) (fun n c i hi => by
    show L_Disk_countUnreadable_4 (n + 1) d c (nI i) = _
    rw [L_Disk_countUnreadable_4, if_neg (gn 40 hi), if_pos (inB_nI hi (by decide)), ← nI_1, cl_nI (by omega)]
    unfold B_Disk_countUnreadable_25 xBad
    by_cases h1 : dUnr d i = 0
    · rw [if_pos h1, if_neg (by simp [h1])]
    · rw [if_neg h1, if_pos (by simp [h1])]) (fun n c => by
    show L_Disk_countUnreadable_4 (n + 1) d c (nI 40) = _
    rw [L_Disk_countUnreadable_4, if_pos (gy 40 (N := 40))]) 40 0 0 100 rfl (by decide)
abbrev x_Disk_makeUnreadable (d : DS) (a : Int32) : Unit × DS := ((), if xRead d a = 0 then d else dSUnr d (upd (dUnr d) a.toNatClampNeg 1))
theorem n_Disk_makeUnreadable (d : DS) (a : Int32) : f_Disk_makeUnreadable d a = some (x_Disk_makeUnreadable d a) := by
  unfold f_Disk_makeUnreadable x_Disk_makeUnreadable
  by_cases h : xRead d a = 0
  · rw [if_pos h, if_pos h]
  · rw [if_neg h, if_neg h]
    unfold xRead at h
    by_cases h2 : ¬ a < 0 ∧ ¬ (40 : Int32) ≤ a ∧ dUnr d a.toNatClampNeg = 0
    · obtain ⟨i, hi, rfl⟩ := i32_40 h2.1 h2.2.1
      rw [if_pos (inB_nI hi (by decide))]
      rfl
    · rw [if_neg h2] at h
      exact absurd rfl h
/-- what a sector was at the last keeping -/
def xOther (d : DS) (i : Nat) : Bool := (fsF (fun j => decide (¬ dCells d (i * 13 + j) = dEarl d (i * 13 + j))) 0 13).isSome
theorem n_Disk_hasChanged (d : DS) {i : Nat} (hi : i < 40) : f_Disk_hasChanged d (nI i) = some (if xOther d i = true then 1 else 0, ()) := by
  have h := lp_fs (Lf := fun n x => L_Disk_hasChanged_2 n d (nI i) x) (p := fun j => decide (¬ dCells d (i * 13 + j) = dEarl d (i * 13 + j))) (r := fun _ => ((1 : Int32), ())) (e := ((0 : Int32), ())) (N := 13) (fun n j hj => by
    show L_Disk_hasChanged_2 (n + 1) d (nI i) (nI j) = _
    rw [L_Disk_hasChanged_2, if_neg (gn 13 hj), ix_mul, if_pos (inB_nI (by omega) (by decide)), if_pos (inB_nI (by omega) (by decide)), cl_nI (by omega), nI_1]
    by_cases h1 : dCells d (i * 13 + j) = dEarl d (i * 13 + j)
    · rw [if_pos h1, if_neg (by simp [h1])]
    · rw [if_neg h1, if_pos (by simp [h1])]) (fun n => by
    show L_Disk_hasChanged_2 (n + 1) d (nI i) (nI 13) = _
    rw [L_Disk_hasChanged_2, if_pos (gy 13 (N := 13))]) 13 0 100 rfl (by decide)
  refine h.trans ?_
  unfold xOther
  cases fsF (fun j => decide (¬ dCells d (i * 13 + j) = dEarl d (i * 13 + j))) 0 13 <;> rfl
def xSaid (d : DS) : Int64 := itF (fun i m => if xUse d (nI i) = true then m ||| (1 <<< ((xCell d (nI i) 0).toInt64 &&& 63)) else m) 0 40 0
def bit1 (m : Int64) (x : Int32) : Bool := decide (lg_cmp ((m >>> (x.toInt64 &&& 63)) &&& 1) 1 = 0)
def xLowSer (d : DS) : Int32 := fsM (fsF (fun i => !bit1 (xSaid d) (nI i)) 3 57) nI 60
theorem lus37 (d : DS) (m : Int64) : L_Disk_lowestUnsaidSerial_37 100 d m 3 = some (fsM (fsF (fun i => !bit1 m (nI i)) 3 57) nI 60, ()) := by
  have h := lp_fs (Lf := fun n x => L_Disk_lowestUnsaidSerial_37 n d m x) (p := fun i => !bit1 m (nI i)) (r := fun i => (nI i, ())) (e := ((60 : Int32), ())) (N := 60) (fun n i hi => by
    show L_Disk_lowestUnsaidSerial_37 (n + 1) d m (nI i) = _
    rw [L_Disk_lowestUnsaidSerial_37, if_neg (gn 60 hi), nI_1]
    unfold B_Disk_lowestUnsaidSerial_59 bit1
    by_cases h1 : lg_cmp ((m >>> ((nI i).toInt64 &&& 63)) &&& 1) 1 = 0
    · rw [if_neg (fun q => q h1), if_neg (by simp [h1])]
    · rw [if_pos h1, if_pos (by simp [h1])]) (fun n => by
    show L_Disk_lowestUnsaidSerial_37 (n + 1) d m (nI 60) = _
    rw [L_Disk_lowestUnsaidSerial_37, if_pos (gy 60 (N := 60))]
    rfl) 57 3 100 rfl (by decide)
  refine h.trans ?_
  cases fsF (fun i => !bit1 m (nI i)) 3 57 <;> rfl
abbrev x_Disk_lowestUnsaidSerial (d : DS) : Int32 × Unit := (xLowSer d, ())
theorem n_Disk_lowestUnsaidSerial (d : DS) : f_Disk_lowestUnsaidSerial d = some (x_Disk_lowestUnsaidSerial d) := by
  exact lp_it (Lf := fun n m x => L_Disk_lowestUnsaidSerial_4 n d m x) (f := fun i m => if xUse d (nI i) = true then m ||| (1 <<< ((xCell d (nI i) 0).toInt64 &&& 63)) else m) (fin := fun m => (fsM (fsF (fun i => !bit1 m (nI i)) 3 57) nI 60, ())) (N := 40) (fun n m i hi => by
    show L_Disk_lowestUnsaidSerial_4 (n + 1) d m (nI i) = _
    rw [L_Disk_lowestUnsaidSerial_4, if_neg (gn 40 hi), isInUse_v, ← nI_1]
    show (if (if xUse d (nI i) = true then (1 : Int32) else 0) = 0 then _ else _) = _
    unfold B_Disk_lowestUnsaidSerial_29
    by_cases h1 : xUse d (nI i) = true
    · rw [if_neg (fun q => by rw [b01, h1] at q; cases q), if_pos h1]
    · rw [if_pos ((b01 _).mpr (by simpa using h1)), if_neg h1]) (fun n m => by
    show L_Disk_lowestUnsaidSerial_4 (n + 1) d m (nI 40) = _
    rw [L_Disk_lowestUnsaidSerial_4, if_pos (gy 40 (N := 40))]
    exact lus37 d m) 40 0 0 100 rfl (by decide)
/-- the map's byte k: which of the sectors 8 k .. 8 k + 7 are free -/
def xMapByte (d : DS) (k : Nat) : Int32 := itF (fun b c => c ||| (if xFree d (8 * nI k + nI b) = true then 1 <<< (nI b &&& 31) else 0)) 0 8 0
def xMapBits (d : DS) (a : Int32) : DS := itF (fun k z => xSetByte z a (nI k) (xMapByte z k)) 0 5 d
abbrev x_Disk_setMapBits (d : DS) (a : Int32) : Unit × DS := ((), xMapBits d a)
theorem smb12 (r2 : DS → Int32 → Int32 → Option (Unit × DS)) (d : DS) (a : Int32) (k : Nat) : L_Disk_setMapBits_12 r2 100 d a (nI k) 0 0 = r2 (xSetByte d a (nI k) (xMapByte d k)) a (nI k + 1) := by
  have g : ∀ m i c n, i + m = 8 → m < n → L_Disk_setMapBits_12 r2 n d a (nI k) c (nI i) = r2 (xSetByte d a (nI k) (itF (fun b c => c ||| (if xFree d (8 * nI k + nI b) = true then 1 <<< (nI b &&& 31) else 0)) i m c)) a (nI k + 1) := by
    intro m
    induction m with
    | zero =>
      intro i c n hi hn
      obtain ⟨q, rfl⟩ : ∃ q, n = q + 1 := ⟨n - 1, by omega⟩
      have h8 : i = 8 := by omega
      subst h8
      rw [L_Disk_setMapBits_12, if_pos (gy 8 (N := 8))]
      rfl
    | succ m ih =>
      intro i c n hi hn
      obtain ⟨q, rfl⟩ : ∃ q, n = q + 1 := ⟨n - 1, by omega⟩
      rw [L_Disk_setMapBits_12, if_neg (gn 8 (show i < 8 by omega)), isFree_v]
      show (if (if xFree d (8 * nI k + nI i) = true then (1 : Int32) else 0) = 0 then _ else _) = _
      unfold B_Disk_setMapBits_42
      rw [nI_1, ih (i + 1) _ q (by omega) (by omega), ih (i + 1) _ q (by omega) (by omega), itF]
      by_cases h1 : xFree d (8 * nI k + nI i) = true
      · rw [if_neg (fun q => by rw [b01, h1] at q; cases q), if_pos h1]
      · rw [if_pos ((b01 _).mpr (by simpa using h1)), if_neg h1]
  exact g 8 0 0 100 rfl (by decide)
theorem n_Disk_setMapBits (d : DS) (a : Int32) : f_Disk_setMapBits d a = some (x_Disk_setMapBits d a) := by
  exact lp_it (Lf := fun n z x => L_Disk_setMapBits_2 n z a x) (f := fun k z => xSetByte z a (nI k) (xMapByte z k)) (fin := fun z => ((), z)) (N := 5) (fun n z i hi => by
    show L_Disk_setMapBits_2 (n + 1) z a (nI i) = _
    rw [L_Disk_setMapBits_2, if_neg (gn 5 hi), smb12, nI_1]) (fun n z => by
    show L_Disk_setMapBits_2 (n + 1) z a (nI 5) = _
    rw [L_Disk_setMapBits_2, if_pos (gy 5 (N := 5))]) 5 0 d 100 rfl (by decide)
theorem c_Disk_search {sc : Nat × (Nat → Int32)} {e0 : mn_E} {tl : List mn_E} (d : DS) (x1 : Int32) (x2 : Int32) : Ev sc 1 15 0 0 M_Disk_search 0 [(0, .ref 1), (1, .int x1), (2, .int x2)] [] (e0 :: (HD d tl)) (some (.inl (some (.int (xSearch d x1 x2))), (e0 :: (HD d tl)))) := by
  have h := e_f_Disk_search (sc := sc) (e0 := e0) (tl := tl) d x1 x2
  rw [mapR_some (n_Disk_search d x1 x2)] at h
  exact h
theorem c_Disk_lowestFree {sc : Nat × (Nat → Int32)} {e0 : mn_E} {tl : List mn_E} (d : DS) : Ev sc 2 28 0 0 M_Disk_lowestFree 0 [(0, .ref 1)] [] (e0 :: (HD d tl)) (some (.inl (some (.int (xLowFree d))), (e0 :: (HD d tl)))) := by
  have h := e_f_Disk_lowestFree (sc := sc) (e0 := e0) (tl := tl) d
  rw [mapR_some (n_Disk_lowestFree d)] at h
  exact h
theorem c_Disk_erase {sc : Nat × (Nat → Int32)} {e0 : mn_E} {tl : List mn_E} (d : DS) (x1 : Int32) : Ev sc 1 16 0 0 M_Disk_erase 0 [(0, .ref 1), (1, .int x1)] [] (e0 :: (HD d tl)) (some (.inl (none), (e0 :: (HD (xErase d x1) tl)))) := by
  have h := e_f_Disk_erase (sc := sc) (e0 := e0) (tl := tl) d x1
  rw [mapR_some (n_Disk_erase d x1)] at h
  exact h
theorem c_Disk_makeHole {sc : Nat × (Nat → Int32)} {e0 : mn_E} {tl : List mn_E} (d : DS) (x1 : Int32) (x2 : Int32) : Ev sc 2 31 0 0 M_Disk_makeHole 0 [(0, .ref 1), (1, .int x1), (2, .int x2)] [] (e0 :: (HD d tl)) (some (.inl (none), (e0 :: (HD (xHole d x1 x2) tl)))) := by
  have h := e_f_Disk_makeHole (sc := sc) (e0 := e0) (tl := tl) d x1 x2
  rw [mapR_some (n_Disk_makeHole d x1 x2)] at h
  exact h
theorem c_Disk_copySector {sc : Nat × (Nat → Int32)} {e0 : mn_E} {tl : List mn_E} (d : DS) (x1 : Int32) (x2 : Int32) : Ev sc 1 18 0 0 M_Disk_copySector 0 [(0, .ref 1), (1, .int x1), (2, .int x2)] [] (e0 :: (HD d tl)) (some (.inl (none), (e0 :: (HD (xCopy d x1 x2) tl)))) := by
  have h := e_f_Disk_copySector (sc := sc) (e0 := e0) (tl := tl) d x1 x2
  rw [mapR_some (n_Disk_copySector d x1 x2)] at h
  exact h
theorem c_Disk_countFree {sc : Nat × (Nat → Int32)} {e0 : mn_E} {tl : List mn_E} (d : DS) : Ev sc 2 29 0 0 M_Disk_countFree 0 [(0, .ref 1)] [] (e0 :: (HD d tl)) (mapT ouI (fun z => (e0 :: (HD d tl))) (x_Disk_countFree d)) := by
  have h := e_f_Disk_countFree (sc := sc) (e0 := e0) (tl := tl) d
  rw [mapR_some (n_Disk_countFree d)] at h
  exact h
theorem c_Disk_countUnreadable {sc : Nat × (Nat → Int32)} {e0 : mn_E} {tl : List mn_E} (d : DS) : Ev sc 0 0 0 0 M_Disk_countUnreadable 0 [(0, .ref 1)] [] (e0 :: (HD d tl)) (mapT ouI (fun z => (e0 :: (HD d tl))) (x_Disk_countUnreadable d)) := by
  have h := e_f_Disk_countUnreadable (sc := sc) (e0 := e0) (tl := tl) d
  rw [mapR_some (n_Disk_countUnreadable d)] at h
  exact h
theorem c_Disk_makeUnreadable {sc : Nat × (Nat → Int32)} {e0 : mn_E} {tl : List mn_E} (d : DS) (x1 : Int32) : Ev sc 1 13 0 0 M_Disk_makeUnreadable 0 [(0, .ref 1), (1, .int x1)] [] (e0 :: (HD d tl)) (mapT ouV (fun z => (e0 :: (HD z tl))) (x_Disk_makeUnreadable d x1)) := by
  have h := e_f_Disk_makeUnreadable (sc := sc) (e0 := e0) (tl := tl) d x1
  rw [mapR_some (n_Disk_makeUnreadable d x1)] at h
  exact h
theorem c_Disk_lowestUnsaidSerial {sc : Nat × (Nat → Int32)} {e0 : mn_E} {tl : List mn_E} (d : DS) : Ev sc 2 28 0 0 M_Disk_lowestUnsaidSerial 0 [(0, .ref 1)] [] (e0 :: (HD d tl)) (some (.inl (some (.int (xLowSer d))), (e0 :: (HD d tl)))) := by
  have h := e_f_Disk_lowestUnsaidSerial (sc := sc) (e0 := e0) (tl := tl) d
  rw [mapR_some (n_Disk_lowestUnsaidSerial d)] at h
  exact h
theorem c_Disk_setMapBits {sc : Nat × (Nat → Int32)} {e0 : mn_E} {tl : List mn_E} (d : DS) (x1 : Int32) : Ev sc 2 31 0 0 M_Disk_setMapBits 0 [(0, .ref 1), (1, .int x1)] [] (e0 :: (HD d tl)) (some (.inl (none), (e0 :: (HD (xMapBits d x1) tl)))) := by
  have h := e_f_Disk_setMapBits (sc := sc) (e0 := e0) (tl := tl) d x1
  rw [mapR_some (n_Disk_setMapBits d x1)] at h
  exact h
