/-! the calls that look, and the spoiling ones -/
def RL (B : Nat) (d : DS) (f : FS) (s : SS) (r : RS) : Prop := RD d r ∧ RF f r ∧ IV B d ∧ IF f ∧ IX d ∧ ∀ k, k < 5 → sRes s k = rRep r k
def ansU (q : Nat ⊕ Unit) (th : Int32) (T : List (Nat × Int32)) : Prop := match q with
  | .inl e => ctab T e = some th
  | .inr _ => th = 0
theorem itF_inv {σ : Type} {f : Nat → σ → σ} (P : Nat → σ → Prop) : ∀ k i s, P i s → (∀ j s, i ≤ j → j < i + k → P j s → P (j + 1) (f j s)) → P (i + k) (itF f i k s) := by
  intro k
  induction k with
  | zero => intro i s h _; exact h
  | succ k ih =>
    intro i s h hs
    have h1 := ih (i + 1) (f i s) (hs i s (Nat.le_refl _) (by omega) h) (fun j s h1 h2 => hs j s (by omega) (by omega))
    rw [show i + 1 + k = i + (k + 1) by omega] at h1
    exact h1
theorem isS (x : Int32) : (f_Mod_isSector x).1 = 0 ↔ (x < 0 ∨ (40 : Int32) ≤ x) := by
  rw [← in40 x]
  unfold f_Mod_isSector f_Mod_in B_Mod_in_14
  by_cases h0 : x < 0
  · rw [if_pos h0]; exact ⟨fun _ => rfl, fun _ => rfl⟩
  · rw [if_neg h0]
    by_cases h1 : (39 : Int32) < x
    · rw [if_pos h1]; exact ⟨fun _ => rfl, fun _ => rfl⟩
    · rw [if_neg h1]; exact ⟨fun q => absurd q (by decide), fun q => absurd q (by decide)⟩
theorem isSn {i : Nat} (hi : i < 40) : ¬ (f_Mod_isSector (nI i)).1 = 0 := fun q => ((isS _).mp q).elim (nI_pos (by omega)) (gn 40 hi)
theorem IX.set3 {d : DS} (h : IX d) {i k : Nat} {v : Int32} (h3 : 3 ≤ k) (hk : k < 13) : IX (dSet d i k v) := by
  have e : ∀ i' k', k' ≤ 2 → dCells (dSet d i k v) (i' * 13 + k') = dCells d (i' * 13 + k') := fun i' k' h' => by rw [dSet_at hk (by omega), if_neg (by omega)]
  refine ⟨fun i' hi' => ?_, ?_, fun i' hi' => ?_⟩
  · have e0 := e i' 0 (by omega); have e1 := e i' 1 (by omega); have e2 := e i' 2 (by omega)
    rw [Nat.add_zero] at e0
    rw [e0, e1, e2]; exact h.1 i' hi'
  · have e0 := e 0 0 (by omega); have e1 := e 0 1 (by omega)
    rw [show 0 * 13 + 0 = 0 from rfl] at e0
    rw [show 0 * 13 + 1 = 1 from rfl] at e1
    rw [e0, e1]; exact h.2.1
  · have e0 := e i' 0 (by omega); have e1 := e i' 1 (by omega); have e2 := e i' 2 (by omega)
    rw [Nat.add_zero] at e0
    rw [e0, e1, e2]; exact h.2.2 i' hi'
theorem IV.serN {B : Nat} {d : DS} (I : IV B d) {i : Nat} (hi : i < 40) : ∃ n, n ≤ 60 ∧ dCells d (i * 13) = nI n := ⟨_, ((I.2 i hi).2.1 0 (by decide) (by decide) (by decide)).2, ((I.2 i hi).2.1 0 (by decide) (by decide) (by decide)).1⟩
theorem IV.pagN {B : Nat} {d : DS} (I : IV B d) {i : Nat} (hi : i < 40) : ∃ n, n ≤ B ∧ dCells d (i * 13 + 1) = nI n := ⟨_, ((I.2 i hi).2.1 1 (by decide) (by decide) (by decide)).2, ((I.2 i hi).2.1 1 (by decide) (by decide) (by decide)).1⟩
theorem IV.useN {B : Nat} {d : DS} (I : IV B d) {i : Nat} (hi : i < 40) : ∃ n, n ≤ 8 ∧ dCells d (i * 13 + 2) = nI n := ⟨_, ((I.2 i hi).2.1 2 (by decide) (by decide) (by decide)).2, ((I.2 i hi).2.1 2 (by decide) (by decide) (by decide)).1⟩
section EZ
variable {d : DS} {r : RS} {f : FS} {w : WS} {m : MS} {s : SS} {g : GS} {B : Nat}
theorem use_iff (I : IV B d) {i : Nat} (hi : i < 40) (hu : dUnr d i = 0) : xUse d (nI i) = true ↔ ¬ dCells d (i * 13) = 0 := by
  obtain ⟨n, n1, n2⟩ := I.serN hi
  unfold xUse
  rw [xc0 hi hu, n2, decide_eq_true_iff]
  rcases Nat.eq_zero_or_pos n with rfl | hn
  · exact ⟨fun q => absurd (show nI 0 ≤ 0 by decide) q, fun q => absurd (show nI 0 = 0 by decide) q⟩
  · exact ⟨fun _ => nI_ne0 hn (by omega), fun _ => nI_nle hn (by omega)⟩
theorem useO {x : Int32} (hx : x < 0 ∨ (40 : Int32) ≤ x) : xUse d x = false := by
  unfold xUse; rw [xco hx]; decide
theorem useU {i : Nat} (hi : i < 40) (hu : ¬ dUnr d i = 0) : xUse d (nI i) = false := by
  unfold xUse; rw [xcu hi hu]; decide
theorem freeO {x : Int32} (hx : x < 0 ∨ (40 : Int32) ≤ x) : xFree d x = false := by
  unfold xFree; rw [xco hx]; decide
theorem freeU {i : Nat} (hi : i < 40) (hu : ¬ dUnr d i = 0) : xFree d (nI i) = false := by
  unfold xFree; rw [xcu hi hu]; decide
theorem free_iff {i : Nat} (hi : i < 40) (hu : dUnr d i = 0) : xFree d (nI i) = true ↔ dCells d (i * 13) = 0 := by
  unfold xFree; rw [xc0 hi hu, decide_eq_true_iff]
theorem R_isFree (h : RD d r) {i : Nat} (hi : i < 40) : f_Mod_isFree r (nI i) = some (if xFree d (nI i) = true then 1 else 0, ()) := by
  unfold f_Mod_isFree B_Mod_isFree_22
  rw [if_pos (inB_nI hi (by decide)), if_pos (inB_nI hi (by decide)), cl_nI (by omega), ← h.bad hi, ← h.ser hi]
  by_cases hu : dUnr d i = 0
  · rw [if_neg (not_not_intro hu)]
    by_cases h0 : dCells d (i * 13) = 0
    · rw [if_neg (not_not_intro h0), if_pos ((free_iff hi hu).mpr h0)]
    · rw [if_pos h0, if_neg (fun q => h0 ((free_iff hi hu).mp q))]
  · rw [if_pos hu, freeU hi hu]; rfl
theorem S_report (h : RL B d f s r) (x : Int32) : ∃ v, f_LV_report d f w m s g x = some (v, ()) ∧ f_Mod_report r x = some (v, rSThr r 0) ∧ RL B d f s (rSThr r 0) := by
  refine (fun hh => ?_) h.2.2.2.2.2
  unfold f_LV_report f_Scav_result B_Scav_result_18 B_LV_report_8 f_Mod_report B_Mod_report_5
  have h5 : (4 : Int32) < x ↔ (5 : Int32) ≤ x := by
    rw [Int32.lt_iff_toInt_lt, Int32.le_iff_toInt_le]
    show (4 : Int) < x.toInt ↔ (5 : Int) ≤ x.toInt
    omega
  by_cases h0 : x < 0
  · rw [if_pos h0, if_pos ((inab _ _ _).mpr (Or.inl h0))]; exact ⟨-1, rfl, rfl, h⟩
  · rw [if_neg h0]
    by_cases h1 : (5 : Int32) ≤ x
    · rw [if_pos h1, if_pos ((inab _ _ _).mpr (Or.inr (h5.mpr h1)))]; exact ⟨-1, rfl, rfl, h⟩
    · rw [if_neg h1, if_neg (fun q => ((inab _ _ _).mp q).elim h0 (fun q => h1 (h5.mp q)))]
      obtain ⟨j, hj, rfl⟩ : ∃ j : Nat, j < 5 ∧ x = nI j := by
        rcases pk_ix x (n := 5) (by decide) with q | q | q
        · exact absurd q h0
        · exact absurd q h1
        · exact q
      rw [if_pos (inB_nI hj (by decide)), if_pos (inB_nI hj (by decide)), cl_nI (by omega), hh j hj]
      exact ⟨_, rfl, rfl, h⟩
theorem S_label (h : RL B d f s r) (x y : Int32) : ∃ v, f_LV_label d f w m s g x y = (v, ()) ∧ f_Mod_label r x y = some (v, rSThr r 0) ∧ RL B d f s (rSThr r 0) := by
  have hR := h.1
  unfold f_LV_label B_LV_label_9 f_Mod_label B_Mod_label_5 B_Mod_label_30
  rcases i40 x with hx | ⟨i, hi, rfl⟩
  · rw [xco hx, if_pos ((isS x).mpr hx)]
    refine ⟨-1, ?_, rfl, h⟩
    by_cases h0 : y < 0
    · rw [if_pos h0]
    · rw [if_neg h0]
      by_cases h1 : y < 5
      · rw [if_pos h1]
      · rw [if_neg h1]
  · rw [if_neg (isSn hi), if_pos (inB_nI hi (by decide)), if_pos (inB_nI hi (by decide)), if_pos (inB_nI hi (by decide)), if_pos (inB_nI hi (by decide)), if_pos (inB_nI hi (by decide)), if_pos (inB_nI hi (by decide)), cl_nI (by omega)]
    show ∃ v, _ ∧ (if ¬ rBad r i = 0 then _ else _) = _ ∧ _
    rw [← hR.bad hi]
    by_cases hu : dUnr d i = 0
    · rw [if_neg (not_not_intro hu)]
      by_cases h0 : y < 0
      · rw [if_pos h0, if_neg (not_not_intro ((inab _ _ _).mpr (Or.inl h0)))]; exact ⟨-1, rfl, rfl, h⟩
      · rw [if_neg h0]
        have h5 : (4 : Int32) < y ↔ ¬ y < 5 := by
          rw [Int32.lt_iff_toInt_lt, Int32.lt_iff_toInt_lt]
          show (4 : Int) < y.toInt ↔ ¬ y.toInt < (5 : Int)
          omega
        by_cases h1 : y < 5
        · rw [if_pos h1, if_pos (fun q => ((inab _ _ _).mp q).elim h0 (fun q => h5.mp q h1))]
          obtain ⟨j, hj, rfl⟩ : ∃ j : Nat, j < 5 ∧ y = nI j := by
            rcases pk_ix y (n := 5) (by decide) with q | q | q
            · exact absurd q h0
            · exact absurd h1 (Int32.not_lt.mpr q)
            · exact q
          rw [xc hi (by omega) hu, hR.1 i hi j (by omega)]
          rcases (show j = 0 ∨ j = 1 ∨ j = 2 ∨ j = 3 ∨ j = 4 by omega) with rfl | rfl | rfl | rfl | rfl
          · exact ⟨_, rfl, rfl, h⟩
          · exact ⟨_, rfl, rfl, h⟩
          · exact ⟨_, rfl, rfl, h⟩
          · exact ⟨_, rfl, rfl, h⟩
          · exact ⟨_, rfl, rfl, h⟩
        · rw [if_neg h1, if_neg (not_not_intro ((inab _ _ _).mpr (Or.inr (h5.mpr h1))))]; exact ⟨-1, rfl, rfl, h⟩
    · rw [if_pos hu, xcu hi hu]
      refine ⟨-1, ?_, rfl, h⟩
      by_cases h0 : y < 0
      · rw [if_pos h0]
      · rw [if_neg h0]
        by_cases h1 : y < 5
        · rw [if_pos h1]
        · rw [if_neg h1]
theorem in8 (y : Int32) : ((f_Mod_in y 0 7).1 = 0 ∧ (y < 0 ∨ (8 : Int32) ≤ y)) ∨ (¬ (f_Mod_in y 0 7).1 = 0 ∧ ∃ j, j < 8 ∧ y = nI j) := by
  have h5 : (7 : Int32) < y ↔ (8 : Int32) ≤ y := by
    rw [Int32.lt_iff_toInt_lt, Int32.le_iff_toInt_le]
    show (7 : Int) < y.toInt ↔ (8 : Int) ≤ y.toInt
    omega
  by_cases h0 : y < 0
  · exact Or.inl ⟨(inab _ _ _).mpr (Or.inl h0), Or.inl h0⟩
  · by_cases h1 : (8 : Int32) ≤ y
    · exact Or.inl ⟨(inab _ _ _).mpr (Or.inr (h5.mpr h1)), Or.inr h1⟩
    · refine Or.inr ⟨fun q => ((inab _ _ _).mp q).elim h0 (fun q => h1 (h5.mp q)), ?_⟩
      rcases pk_ix y (n := 8) (by decide) with q | q | q
      · exact absurd q h0
      · exact absurd q h1
      · exact q
theorem S_data (h : RL B d f s r) (x y : Int32) : ∃ v, f_LV_data d f w m s g x y = (v, ()) ∧ f_Mod_data r x y = some (v, rSThr r 0) ∧ RL B d f s (rSThr r 0) := by
  have hR := h.1
  unfold f_LV_data B_LV_data_10 f_Disk_byteAt f_Mod_data B_Mod_data_5 B_Mod_data_45
  rcases in8 y with ⟨q1, q2⟩ | ⟨q1, j, hj, rfl⟩
  · refine ⟨-1, ?_, ?_, h⟩
    · rcases q2 with q2 | q2
      · rw [if_pos q2]
      · by_cases h0 : y < 0
        · rw [if_pos h0]
        · rw [if_neg h0, if_neg (Int32.not_lt.mpr q2)]
    · rcases i40 x with hx | ⟨i, hi, rfl⟩
      · rw [if_pos ((isS x).mpr hx)]
      · rw [if_neg (isSn hi), if_pos q1]
  · rw [if_neg (show ¬ nI j < 0 from nI_pos (by omega)), if_pos (show nI j < 8 from nI_lt (b := 8) hj (by decide))]
    rcases i40 x with hx | ⟨i, hi, rfl⟩
    · rw [xco hx, if_pos ((isS x).mpr hx)]; exact ⟨-1, rfl, rfl, h⟩
    · rw [if_neg (isSn hi), if_neg q1, if_pos (inB_nI hi (by decide)), ix8, if_pos (inB_nI (show 8 * i + j < 320 by omega) (by decide)), cl_nI (by omega), cl_nI (by omega)]
      show ∃ v, _ ∧ (if ¬ rBad r i = 0 then _ else some (rByt r (8 * i + j), rSThr r 0)) = _ ∧ _
      rw [← hR.bad hi]
      by_cases hu : dUnr d i = 0
      · rw [if_neg (not_not_intro hu), xcb hi hj hu, hR.byt hi hj]; exact ⟨_, rfl, rfl, h⟩
      · rw [if_pos hu, xcu hi hu]; exact ⟨-1, rfl, rfl, h⟩
theorem S_spoil (h : RL B d f s r) (x y z : Int32) : ∃ v d' r', f_LV_spoil d f w m s g x y z = (v, d') ∧ f_Mod_spoil r x y z = some (v, r') ∧ RL B d' f s r' := by
  have hR := h.1
  unfold f_LV_spoil B_LV_spoil_21 B_LV_spoil_33 f_Mod_spoil B_Mod_spoil_5 B_Mod_spoil_40 B_Mod_spoil_58
  rcases in8 y with ⟨q1, q2⟩ | ⟨q1, j, hj, rfl⟩
  · refine ⟨0, d, rSThr r 0, ?_, ?_, h⟩
    · rcases q2 with q2 | q2
      · rw [if_pos q2]
      · by_cases h0 : y < 0
        · rw [if_pos h0]
        · rw [if_neg h0, if_pos q2]
    · rcases i40 x with hx | ⟨i, hi, rfl⟩
      · rw [if_pos ((isS x).mpr hx)]
      · rw [if_neg (isSn hi), if_pos q1]
  · rw [if_neg (show ¬ nI j < 0 from nI_pos (by omega)), if_neg (gn 8 hj), isInUse_v]
    rcases i40 x with hx | ⟨i, hi, rfl⟩
    · rw [useO hx, if_pos ((isS x).mpr hx)]; exact ⟨0, d, _, rfl, rfl, h⟩
    · rw [if_neg (isSn hi), if_neg q1, if_pos (inB_nI hi (by decide)), if_pos (inB_nI hi (by decide)), ix8, if_pos (inB_nI (show 8 * i + j < 320 by omega) (by decide)), cl_nI (by omega), cl_nI (by omega)]
      show ∃ v d' r', _ ∧ (if ¬ rBad r i = 0 then _ else if ¬ rSer r i = 0 then _ else _) = _ ∧ _
      rw [← hR.bad hi, ← hR.ser hi]
      by_cases hu : dUnr d i = 0
      · rw [if_neg (not_not_intro hu)]
        by_cases h0 : dCells d (i * 13) = 0
        · have e : xUse d (nI i) = false := by
            cases e : xUse d (nI i)
            · rfl
            · exact absurd h0 ((use_iff h.2.2.1 hi hu).mp e)
          rw [if_neg (not_not_intro h0), e]; exact ⟨0, d, _, rfl, rfl, h⟩
        · rw [if_pos h0, (use_iff h.2.2.1 hi hu).mpr h0, C_setb hi hj hu]
          obtain ⟨b, hb, eb⟩ := b255 z
          refine ⟨1, dSet d i (5 + j) (z &&& 255), rSet (rSThr r 0) i (5 + j) (z &&& 255), rfl, ?_, ?_⟩
          · rw [rSetb]
          · have hth : RD d (rSThr r 0) := hR
            refine ⟨hth.set hi (by omega) _, ?_, h.2.2.1.set (by omega) (by rw [eb]; exact vOKb hb), h.2.2.2.1, h.2.2.2.2.1.set3 (by omega) (by omega), ?_⟩
            · intro t t1 t2; rw [oth_kep (rSet_oth _ _ _ _)]; exact h.2.1 t t1 t2
            · rw [oth_rep (rSet_oth _ _ _ _)]; exact h.2.2.2.2.2
      · rw [if_pos hu, useU hi hu]; exact ⟨0, d, _, rfl, rfl, h⟩
theorem S_charge (h : RL B d f s r) (x : Int32) : ∃ q d' r', f_LV_charge d f w m s g x = (q, d') ∧ f_Mod_charge r x = ((), r') ∧ RL B d' f s r' ∧ ansU q (rThr r') [(3, 1), (1, 2)] := by
  have hR := h.1
  unfold f_LV_charge B_LV_charge_10 B_LV_charge_22 B_LV_charge_30 f_Disk_limitWrites f_Mod_charge B_Mod_charge_27 B_Mod_charge_30 B_Mod_charge_46 B_Mod_charge_49
  have h9 : x ≤ 99 ↔ ¬ (99 : Int32) < x := Int32.not_lt.symm
  by_cases h0 : x < 0
  · rw [if_pos h0, if_neg (not_not_intro ((inab _ _ _).mpr (Or.inl h0)))]
    exact ⟨_, _, _, rfl, rfl, h, rfl⟩
  · rw [if_neg h0]
    by_cases h1 : x ≤ 99
    · rw [if_pos h1, if_pos (fun q => ((inab _ _ _).mp q).elim h0 (h9.mp h1))]
      rcases pw (f := f) (w := w) (m := m) (s := s) (g := g) hR with ⟨p1, p2⟩ | ⟨p1, p2⟩
      · rw [p1, if_pos p2]
        refine ⟨.inr (), dSChg d x, _, rfl, rfl, ⟨⟨hR.1, hR.2.1, hR.2.2.1, hR.2.2.2.1, rfl, hR.2.2.2.2.2⟩, h.2⟩, rfl⟩
      · rw [p1, if_neg (by rw [p2]; decide)]
        exact ⟨.inl 1, d, _, rfl, rfl, h, rfl⟩
    · rw [if_neg h1, if_neg (not_not_intro ((inab _ _ _).mpr (Or.inr (Int32.not_le.mp h1))))]
      exact ⟨_, _, _, rfl, rfl, h, rfl⟩
theorem S_scratch (h : RL B d f s r) (x : Int32) : ∃ v d' r', f_LV_scratch d f w m s g x = (v, d') ∧ f_Mod_scratch r x = some (v, r') ∧ RL B d' f s r' := by
  have hR := h.1
  unfold f_LV_scratch B_LV_scratch_21 f_Mod_scratch B_Mod_scratch_5 B_Mod_scratch_21 B_Mod_scratch_30
  rcases i40 x with hx | ⟨i, hi, rfl⟩
  · rw [if_pos ((isS x).mpr hx), show xRead d x = 0 from if_neg (fun q => hx.elim q.1 q.2.1)]
    exact ⟨0, d, _, rfl, rfl, h⟩
  · rw [if_neg (isSn hi), if_pos (inB_nI hi (by decide)), if_pos (inB_nI hi (by decide)), cl_nI (by omega)]
    show ∃ v d' r', _ ∧ (if rBad r i = 0 then _ else _) = _ ∧ _
    rw [← hR.bad hi]
    by_cases hu : dUnr d i = 0
    · have e : xRead d (nI i) = 1 := if_pos ⟨nI_pos (by omega), gn 40 hi, by rw [cl_nI (by omega)]; exact hu⟩
      unfold x_Disk_makeUnreadable
      rw [if_pos hu, e, cl_nI (by omega)]
      refine ⟨1, dSUnr d (upd (dUnr d) i 1), rSBad (rSThr r 0) (upd (rBad r) i 1), rfl, rfl, ⟨hR.1, ?_, hR.2.2⟩, h.2.1, ⟨h.2.2.1.1, fun i' hi' => ⟨?_, (h.2.2.1.2 i' hi').2⟩⟩, h.2.2.2.1, ⟨h.2.2.2.2.1.1, ?_, h.2.2.2.2.1.2.2⟩, h.2.2.2.2.2⟩
      · intro i' hi'
        show upd (dUnr d) i 1 i' = upd (rBad r) i 1 i'
        by_cases e : i' = i
        · rw [e, pk_us, pk_us]
        · rw [pk_un e, pk_un e]; exact hR.2.1 i' hi'
      · show upd (dUnr d) i 1 i' = 0 ∨ upd (dUnr d) i 1 i' = 1
        by_cases e : i' = i
        · rw [e, pk_us]; exact Or.inr rfl
        · rw [pk_un e]; exact (h.2.2.1.2 i' hi').1
      · show ¬ upd (dUnr d) i 1 0 = 0 ∨ _
        by_cases e : 0 = i
        · rw [← e, pk_us]; exact Or.inl (by decide)
        · rw [pk_un e]; exact h.2.2.2.2.1.2.1
    · have e : xRead d (nI i) = 0 := if_neg (fun q => hu (by have := q.2.2; rw [cl_nI (by omega)] at this; exact this))
      rw [if_neg hu, e]; exact ⟨0, d, _, rfl, rfl, h⟩
end EZ
