/-! the lowest serial that no sector says; a leader made; an entry put -/
theorem bt_oneS : ∀ a, a < 61 → ∀ n, n < 64 → bt ((1 : Int64) <<< ((nI a).toInt64 &&& 63)) n = decide (n = a) := by decide +kernel
theorem sh_kS : ∀ k, k < 64 → ((nI k).toInt64 &&& 63).toBitVec.smod 64 = BitVec.ofNat 64 k := by decide +kernel
theorem bt_1 : ∀ n, n < 64 → bt 1 n = decide (n = 0) := by decide +kernel
theorem bt_shrS {x : Int64} {k n : Nat} (hk : k < 64) (hn : n < 64) : bt (x >>> ((nI k).toInt64 &&& 63)) n = if k + n < 64 then bt x (k + n) else x.toBitVec.msb := by
  unfold bt
  rw [Int64.toBitVec_shiftRight]
  show (x.toBitVec.sshiftRight' (((nI k).toInt64 &&& 63).toBitVec.smod 64)).getLsbD n = _
  rw [sh_kS k hk]
  show (x.toBitVec.sshiftRight (BitVec.ofNat 64 k).toNat).getLsbD n = _
  rw [BitVec.getLsbD_sshiftRight]
  have e : (BitVec.ofNat 64 k).toNat = k := by
    rw [BitVec.toNat_ofNat]; exact Nat.mod_eq_of_lt (by omega)
  rw [e]
  simp
  intro h; omega
theorem bt_ext {x y : Int64} (h : ∀ n, n < 64 → bt x n = bt y n) : x = y := by
  apply Int64.toBitVec_inj.mp
  apply BitVec.eq_of_getLsbD_eq
  intro i hi
  exact h i hi
theorem bit_at {m : Int64} {k : Nat} (hk : k < 64) : (m >>> ((nI k).toInt64 &&& 63)) &&& 1 = if bt m k = true then 1 else 0 := by
  apply bt_ext
  intro n hn
  rw [bt_and, bt_1 n hn, bt_shrS hk hn]
  by_cases n0 : n = 0
  · subst n0
    rw [if_pos (by omega), Nat.add_zero]
    cases g : bt m k
    · rw [if_neg (by decide), bt_0]; rfl
    · rw [if_pos rfl, bt_1 0 (by decide)]; rfl
  · rw [decide_eq_false n0, Bool.and_false]
    cases g : bt m k
    · rw [if_neg (by decide), bt_0]
    · rw [if_pos rfl, bt_1 n hn, decide_eq_false n0]
theorem bit1_bt {m : Int64} {k : Nat} (hk : k < 64) : bit1 m (nI k) = bt m k := by
  unfold bit1
  rw [bit_at hk]
  cases g : bt m k
  · rw [if_neg (by decide)]; decide
  · rw [if_pos rfl]; decide
/-- a sector says this serial -/
def sdP (d : DS) (N k : Nat) : Prop := ∃ x, x < N ∧ dUnr d x = 0 ∧ dCells d (x * 13) = nI k
section SE
variable {d : DS} {r : RS} {f : FS} {w : WS} {m : MS} {s : SS} {g : GS} {B i x : Nat}
theorem said_bt (I : IV B d) {k : Nat} (hk : 3 ≤ k) (hk6 : k ≤ 60) : bt (xSaid d) k = true ↔ sdP d 40 k := by
  have h := itF_inv (P := fun i m => bt m k = true ↔ sdP d i k) (f := fun i m => if xUse d (nI i) = true then m ||| (1 <<< ((xCell d (nI i) 0).toInt64 &&& 63)) else m) 40 0 0 (by
    rw [bt_0]; exact ⟨fun q => absurd q (by decide), fun ⟨x, x1, _⟩ => absurd x1 (by omega)⟩) (fun j z _ hj hz => ?_)
  · exact h
  · have hj40 : j < 40 := by omega
    have hstep : sdP d (j + 1) k ↔ (sdP d j k ∨ (dUnr d j = 0 ∧ dCells d (j * 13) = nI k)) := by
      constructor
      · rintro ⟨x, x1, x2, x3⟩
        by_cases e : x = j
        · subst e; exact Or.inr ⟨x2, x3⟩
        · exact Or.inl ⟨x, by omega, x2, x3⟩
      · rintro (⟨x, x1, x2, x3⟩ | ⟨x2, x3⟩)
        · exact ⟨x, by omega, x2, x3⟩
        · exact ⟨j, by omega, x2, x3⟩
    show bt (if xUse d (nI j) = true then z ||| (1 <<< ((xCell d (nI j) 0).toInt64 &&& 63)) else z) k = true ↔ _
    rw [hstep]
    by_cases hu : dUnr d j = 0
    · obtain ⟨n, n1, n2⟩ := I.serN hj40
      by_cases hx : xUse d (nI j) = true
      · rw [if_pos hx, xc0 hj40 hu, n2, bt_or, bt_oneS n (by omega) k (by omega), Bool.or_eq_true, hz, decide_eq_true_iff, nI_eq (by omega) (by omega)]
        exact ⟨fun q => q.elim Or.inl (fun q => Or.inr ⟨hu, q.symm⟩), fun q => q.elim Or.inl (fun q => Or.inr q.2.symm)⟩
      · rw [if_neg hx, hz]
        refine ⟨Or.inl, fun q => q.elim id (fun q => absurd ((use_iff I hj40 hu).mpr ?_) hx)⟩
        rw [q.2]; exact nI_ne0 (by omega) (by omega)
    · rw [useU hj40 hu, if_neg (by decide), hz]
      exact ⟨Or.inl, fun q => q.elim id (fun q => absurd q.1 hu)⟩
theorem R_ls21 {r6 : RS → Int32 → Int32 → Int32 → Option (Int32 × Unit)} (h : RD d r) (k : Nat) : ∃ z, L_Mod_lowestSerial_21 r6 1000 r 0 (nI k) 0 = r6 r (nI k) z (nI (k + 1)) ∧ ((z = 1 ∧ sdP d 40 k) ∨ (z = 0 ∧ ¬ sdP d 40 k)) := by
  refine lp_ex (Lf := fun n (z : Int32) y => L_Mod_lowestSerial_21 r6 n r z (nI k) y) (fin := fun z => r6 r (nI k) z (nI (k + 1))) (N := 40) (fun j z => (z = 1 ∧ sdP d j k) ∨ (z = 0 ∧ ¬ sdP d j k)) (fun n z j hj hz => ?_) (fun n z _ => ?_) 40 0 0 1000 rfl (by decide) (Or.inr ⟨rfl, fun ⟨x, x1, _⟩ => absurd x1 (by omega)⟩)
  · show ∃ s', L_Mod_lowestSerial_21 r6 (n + 1) r z (nI k) (nI j) = _ ∧ _
    rw [L_Mod_lowestSerial_21, if_neg (gn 40 hj), if_pos (inB_nI hj (by decide)), if_pos (inB_nI hj (by decide)), cl_nI (by omega), ← h.bad hj, ← h.ser hj]
    unfold B_Mod_lowestSerial_53 B_Mod_lowestSerial_57 B_Mod_lowestSerial_58
    rw [nI_1]
    rcases hz with ⟨rfl, q⟩ | ⟨rfl, q⟩
    · rw [if_pos (by decide)]
      obtain ⟨x, x1, x2, x3⟩ := q
      exact ⟨1, rfl, Or.inl ⟨rfl, x, by omega, x2, x3⟩⟩
    · rw [if_neg (not_not_intro rfl)]
      have hno : ¬ (dUnr d j = 0 ∧ dCells d (j * 13) = nI k) → ¬ sdP d (j + 1) k := by
        rintro a ⟨x, x1, x2, x3⟩
        by_cases e : x = j
        · subst e; exact a ⟨x2, x3⟩
        · exact q ⟨x, by omega, x2, x3⟩
      by_cases hu : dUnr d j = 0
      · rw [if_neg (not_not_intro hu)]
        by_cases hs : dCells d (j * 13) = nI k
        · rw [if_neg (not_not_intro hs)]
          exact ⟨1, rfl, Or.inl ⟨rfl, j, by omega, hu, hs⟩⟩
        · rw [if_pos hs]
          exact ⟨0, rfl, Or.inr ⟨rfl, hno (fun a => hs a.2)⟩⟩
      · rw [if_pos hu]
        exact ⟨0, rfl, Or.inr ⟨rfl, hno (fun a => hu a.1)⟩⟩
  · show L_Mod_lowestSerial_21 r6 (n + 1) r z (nI k) (nI 40) = _
    rw [L_Mod_lowestSerial_21, if_pos (gy 40 (N := 40)), nI_1]
theorem R_ls6 (h : RD d r) (I : IV B d) : ∀ t k, k + t = 60 → 3 ≤ k → ∀ n, t + 1 < n → ∀ x1, L_Mod_lowestSerial_6 n r x1 1 (nI k) = some (fsM (fsF (fun i => !bit1 (xSaid d) (nI i)) k t) nI 60, ()) := by
  intro t
  induction t with
  | zero =>
    intro k hk hk3 n hn x1
    obtain ⟨c, rfl⟩ : ∃ c, n = c + 1 := ⟨n - 1, by omega⟩
    obtain ⟨c, rfl⟩ : ∃ c', c = c' + 1 := ⟨c - 1, by omega⟩
    obtain rfl : k = 60 := by omega
    obtain ⟨z, z1, -⟩ := R_ls21 (r6 := L_Mod_lowestSerial_6 (c + 1)) h 60
    rw [L_Mod_lowestSerial_6, if_neg (by decide), if_neg (by decide), z1, L_Mod_lowestSerial_6, if_pos (by decide)]
    rfl
  | succ t ih =>
    intro k hk hk3 n hn x1
    obtain ⟨c, rfl⟩ : ∃ c, n = c + 1 := ⟨n - 1, by omega⟩
    obtain ⟨z, z1, z2⟩ := R_ls21 (r6 := L_Mod_lowestSerial_6 c) h k
    rw [L_Mod_lowestSerial_6, if_neg (gn 61 (N := 61) (by omega)), if_neg (by decide), z1, fsF]
    have hb : bit1 (xSaid d) (nI k) = bt (xSaid d) k := bit1_bt (by omega)
    rcases z2 with ⟨rfl, q⟩ | ⟨rfl, q⟩
    · rw [hb, (said_bt I hk3 (by omega)).mpr q, if_neg (by decide)]
      exact ih (k + 1) (by omega) (by omega) c (by omega) (nI k)
    · have hf : bt (xSaid d) k = false := by
        cases g : bt (xSaid d) k
        · rfl
        · exact absurd ((said_bt I hk3 (by omega)).mp g) q
      obtain ⟨c, rfl⟩ : ∃ c', c = c' + 1 := ⟨c - 1, by omega⟩
      rw [hb, hf, if_pos (show (!false) = true from rfl), L_Mod_lowestSerial_6]
      unfold B_Mod_lowestSerial_73
      by_cases z : (61 : Int32) ≤ nI (k + 1)
      · rw [if_pos z]; rfl
      · rw [if_neg z, if_pos rfl]; rfl
theorem R_lowSer (h : RD d r) (I : IV B d) : ∃ sn, 3 ≤ sn ∧ sn ≤ 60 ∧ xLowSer d = nI sn ∧ f_Mod_lowestSerial r = some (nI sn, ()) := by
  have h1 := R_ls6 h I 57 3 rfl (by decide) 1000 (by decide) 3
  have h2 : f_Mod_lowestSerial r = some (xLowSer d, ()) := h1
  have hs := fsF_spec (fun i => !bit1 (xSaid d) (nI i)) 57 3
  have e : xLowSer d = fsM (fsF (fun i => !bit1 (xSaid d) (nI i)) 3 57) nI 60 := rfl
  cases hf : fsF (fun i => !bit1 (xSaid d) (nI i)) 3 57 with
  | none =>
    rw [hf] at e
    exact ⟨60, by decide, by decide, e, by rw [h2, e]; rfl⟩
  | some j =>
    rw [hf] at hs e
    exact ⟨j, hs.1, by omega, e, by rw [h2, e]; rfl⟩
/-- the cells of a leader -/
def lV (a b c k x : Int32) : Nat → Int32 := fun j => match j with
  | 0 => a
  | 1 => 0
  | 2 => 8
  | 3 => -1
  | 4 => -1
  | 5 => b
  | 6 => c
  | 7 => k
  | 8 => x
  | _ => 0
theorem nm_hi {n : Nat} (hn : n < 65536) : ((nI n : Int32) >>> (8 &&& 31)) &&& 255 = nI (n / 256) := by
  rw [show (8 &&& 31 : Int32) = 8 by decide, pk_shrN (by omega) 8 8 (by decide), b255' (show n / 2 ^ 8 < 256 by omega)]
theorem nm_lo (n : Nat) (hn : n < 65536) : (nI n : Int32) &&& 255 = nI (n % 256) := by
  rw [pk_andN (by omega) (m := 255) 8 rfl]
theorem nm_q {n : Nat} (hn : n < 65536) : (nI n : Int32) / 256 = nI (n / 256) ∧ (nI n : Int32) - nI n / 256 * 256 = nI (n % 256) :=
  ⟨by rw [show (256 : Int32) = nI 256 from rfl, pk_div (by omega) (by decide) (by decide)], by rw [show (256 : Int32) = nI 256 from rfl]; exact pk_rem (by omega) (by decide) (by decide)⟩
theorem C_mkL {n k : Nat} {a : Int32} (hx : x < 40) (hu : dUnr d x = 0) (hn : n < 65536) (hk : k < 256) : DRow d (f_Disk_makeLeader d (nI x) a (nI n) (nI k)).2 x (lV a (nI (n / 256)) (nI (n % 256)) (nI k) (nI x)) := by
  unfold f_Disk_makeLeader B_Disk_makeLeader_5 B_Disk_makeLeader_12 B_Disk_makeLeader_20 B_Disk_makeLeader_27 B_Disk_makeLeader_35 B_Disk_makeLeader_42 f_Disk_setName B_Disk_setName_16 B_Disk_setName_31
  have h0 := C_erase (d := d) hx hu
  generalize xErase d (nI x) = e at h0
  have hue : dUnr e x = 0 := by rw [h0.unr]; exact hu
  have h1 := h0.set (k := 0) (by decide) a
  have h2 := h1.set (k := 2) (by decide) 8
  have h3 := h2.set (k := 5) (by decide) (nI (n / 256))
  have h4 := h3.set (k := 6) (by decide) (nI (n % 256))
  have h5 := h4.set (k := 7) (by decide) (nI k)
  have h6 := h5.set (k := 8) (by decide) (nI x)
  rw [nm_hi hn, nm_lo n hn]
  rw [show xSetCell e (nI x) 0 a = dSet e x 0 a from C_set hx (k := 0) (by decide) hue _]
  generalize dSet e x 0 a = e1 at h1 h2 h3 h4 h5 h6
  have hu1 : dUnr e1 x = 0 := by rw [h1.unr]; exact hu
  rw [show xSetCell e1 (nI x) 2 8 = dSet e1 x 2 8 from C_set hx (k := 2) (by decide) hu1 _]
  generalize dSet e1 x 2 8 = e2 at h2 h3 h4 h5 h6
  have hu2 : dUnr e2 x = 0 := by rw [h2.unr]; exact hu
  rw [show xSetCell e2 (nI x) (5 + 0) (nI (n / 256)) = dSet e2 x 5 (nI (n / 256)) from C_set hx (k := 5) (by decide) hu2 _]
  generalize dSet e2 x 5 (nI (n / 256)) = e3 at h3 h4 h5 h6
  have hu3 : dUnr e3 x = 0 := by rw [h3.unr]; exact hu
  rw [show xSetCell e3 (nI x) (5 + 0 + 1) (nI (n % 256)) = dSet e3 x 6 (nI (n % 256)) from C_set hx (k := 6) (by decide) hu3 _]
  generalize dSet e3 x 6 (nI (n % 256)) = e4 at h4 h5 h6
  have hu4 : dUnr e4 x = 0 := by rw [h4.unr]; exact hu
  rw [show f_Disk_setByte e4 (nI x) 2 (nI k) = ((), dSet e4 x 7 (nI k &&& 255)) from C_setb (j := 2) hx (by decide) hu4 _, b255' hk]
  generalize dSet e4 x 7 (nI k) = e5 at h5 h6
  have hu5 : dUnr e5 x = 0 := by rw [h5.unr]; exact hu
  rw [show f_Disk_setByte e5 (nI x) 3 (nI x) = ((), dSet e5 x 8 (nI x &&& 255)) from C_setb (j := 3) hx (by decide) hu5 _, b255' (by omega)]
  exact h6.congr (all13 rfl rfl rfl rfl rfl rfl rfl rfl rfl rfl rfl rfl rfl)
theorem R_mkL {n : Nat} {a k : Int32} (hx : x < 40) (hn : n < 65536) : ∃ r', f_Mod_makeLeader r (nI x) a (nI n) k = some ((), r') ∧ RRow r r' x (lV a (nI (n / 256)) (nI (n % 256)) k (nI x)) := by
  unfold f_Mod_makeLeader B_Mod_makeLeader_5 B_Mod_makeLeader_14 B_Mod_makeLeader_28 B_Mod_makeLeader_44 B_Mod_makeLeader_57 B_Mod_makeLeader_69
  obtain ⟨r1, e1, e2⟩ := R_empty r hx
  rw [e1, bnd_some, R_label0 hx, bnd_some, show (1 : Int32) = nI 1 from rfl, show (2 : Int32) = nI 2 from rfl, show (3 : Int32) = nI 3 from rfl, byA, byA, byA, by8, if_pos (inB_nI (show 8 * x < 320 by omega) (by decide)), if_pos (inB_nI (show 8 * x + 1 < 320 by omega) (by decide)), if_pos (inB_nI (show 8 * x + 2 < 320 by omega) (by decide)), if_pos (inB_nI (show 8 * x + 3 < 320 by omega) (by decide)), cl_nI (by omega), cl_nI (by omega), cl_nI (by omega), cl_nI (by omega), (nm_q hn).2, (nm_q hn).1]
  have h1 := ((((((e2.set (k := 0) (by decide) a).set (k := 1) (by decide) 0).set (k := 2) (by decide) 8).set (k := 5) (by decide) (nI (n / 256))).set (k := 6) (by decide) (nI (n % 256))).set (k := 7) (by decide) k).set (k := 8) (by decide) (nI x)
  exact ⟨_, rfl, h1.congr (all13 rfl rfl rfl rfl rfl rfl rfl rfl rfl rfl rfl rfl rfl)⟩
theorem nm_val {n : Nat} : (nI (n / 256) * 256 + nI (n % 256) : Int32) = nI n := by
  rw [show (256 : Int32) = nI 256 from rfl, pk_mul, nI_add, show n / 256 * 256 + n % 256 = n by omega]
/-- an entry put from a leader -/
theorem C_putE {e t n sn : Nat} (he : e < 40) (hue : dUnr d e = 0) (ht : t < 2) (hx : x < 40) (hux : dUnr d x = 0) (hn : n < 65536) (hsn : sn < 256) (h0 : dCells d (x * 13) = nI sn) (h5 : dCells d (x * 13 + 5) = nI (n / 256)) (h6 : dCells d (x * 13 + 6) = nI (n % 256)) : f_Disk_putEntry d (nI e) (nI (4 * t)) (nI x) = ((), dSet (dSet (dSet (dSet d e (5 + 4 * t) (nI (n / 256))) e (5 + (4 * t + 1)) (nI (n % 256))) e (5 + (4 * t + 2)) (nI sn)) e (5 + (4 * t + 3)) (nI x)) := by
  unfold f_Disk_putEntry B_Disk_putEntry_12 B_Disk_putEntry_26 B_Disk_putEntry_35 f_Disk_nameAt f_Disk_setName B_Disk_setName_16 B_Disk_setName_31
  rw [show xCell d (nI x) (5 + 0) = nI (n / 256) from (xc (k := 5) hx (by decide) hux).trans h5, show xCell d (nI x) (5 + 0 + 1) = nI (n % 256) from (xc (k := 6) hx (by decide) hux).trans h6, nm_val, nm_hi hn, nm_lo n hn, show (5 + nI (4 * t) : Int32) = nI (5 + 4 * t) from by rw [show (5 : Int32) = nI 5 from rfl, nI_add], C_set he (by omega) hue, nI_1]
  have hu1 : dUnr (dSet d e (5 + 4 * t) (nI (n / 256))) e = 0 := hue
  rw [C_set he (by omega) hu1]
  have ex : xCell (dSet (dSet d e (5 + 4 * t) (nI (n / 256))) e (5 + 4 * t + 1) (nI (n % 256))) (nI x) 0 = nI sn := by
    rw [xc0 hx (show dUnr (dSet (dSet d e (5 + 4 * t) (nI (n / 256))) e (5 + 4 * t + 1) (nI (n % 256))) x = 0 from hux)]
    have e0 := dSet_at (d := dSet d e (5 + 4 * t) (nI (n / 256))) (i := e) (k := 5 + 4 * t + 1) (i' := x) (k' := 0) (v := nI (n % 256)) (by omega) (by decide)
    have e1 := dSet_at (d := d) (i := e) (k := 5 + 4 * t) (i' := x) (k' := 0) (v := nI (n / 256)) (by omega) (by decide)
    rw [if_neg (by omega)] at e0 e1
    exact e0.trans (e1.trans h0)
  show B_Disk_putEntry_35 (f_Disk_setByte (f_Disk_setByte (dSet (dSet d e (5 + 4 * t) (nI (n / 256))) e (5 + 4 * t + 1) (nI (n % 256))) (nI e) (nI (4 * t) + 2) (xCell (dSet (dSet d e (5 + 4 * t) (nI (n / 256))) e (5 + 4 * t + 1) (nI (n % 256))) (nI x) 0)).2 (nI e) (nI (4 * t) + 3) (nI x)).2 = _
  unfold B_Disk_putEntry_35
  rw [ex, show (nI (4 * t) + 2 : Int32) = nI (4 * t + 2) from by rw [show (2 : Int32) = nI 2 from rfl, nI_add], show (nI (4 * t) + 3 : Int32) = nI (4 * t + 3) from by rw [show (3 : Int32) = nI 3 from rfl, nI_add], C_setb he (by omega) (show dUnr (dSet (dSet d e (5 + 4 * t) (nI (n / 256))) e (5 + 4 * t + 1) (nI (n % 256))) e = 0 from hue), b255' hsn]
  show ((), (f_Disk_setByte (dSet (dSet (dSet d e (5 + 4 * t) (nI (n / 256))) e (5 + 4 * t + 1) (nI (n % 256))) e (5 + (4 * t + 2)) (nI sn)) (nI e) (nI (4 * t + 3)) (nI x)).2) = _
  rw [C_setb he (by omega) (show dUnr (dSet (dSet (dSet d e (5 + 4 * t) (nI (n / 256))) e (5 + 4 * t + 1) (nI (n % 256))) e (5 + (4 * t + 2)) (nI sn)) e = 0 from hue), b255' (by omega)]
  rfl
end SE
