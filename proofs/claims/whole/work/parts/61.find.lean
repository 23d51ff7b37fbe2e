/-! finding: leaders, pages beside, last pages, pages by number -/
theorem upd_eq (f : Nat → Int32) (k : Nat) (x : Int32) : upd f k x k = x := if_pos rfl
theorem upd_ne {f : Nat → Int32} {k j : Nat} {x : Int32} (h : j ≠ k) : upd f k x j = f j := if_neg h
theorem inab (x a b : Int32) : (f_Mod_in x a b).1 = 0 ↔ (x < a ∨ b < x) := by
  unfold f_Mod_in B_Mod_in_14
  by_cases h0 : x < a
  · rw [if_pos h0]; exact ⟨fun _ => Or.inl h0, fun _ => rfl⟩
  · rw [if_neg h0]
    by_cases h1 : b < x
    · rw [if_pos h1]; exact ⟨fun _ => Or.inr h1, fun _ => rfl⟩
    · rw [if_neg h1]; exact ⟨fun q => absurd q (by decide), fun q => q.elim (fun q => absurd q h0) (fun q => absurd q h1)⟩
theorem in160 {s : Int32} (h0 : ¬ s < 1) (h1 : s ≤ 60) : ∃ n, 1 ≤ n ∧ n ≤ 60 ∧ s = nI n := by
  have hz : ¬ s < 0 := fun q => h0 (by
    rw [Int32.lt_iff_toInt_lt] at q ⊢
    have : (0 : Int32).toInt = 0 := rfl
    have : (1 : Int32).toInt = 1 := rfl
    omega)
  obtain ⟨j, hj, rfl⟩ := nI_of2 (M := 60) (n := 60) rfl hz h1
  refine ⟨j, ?_, hj, rfl⟩
  rcases Nat.eq_zero_or_pos j with rfl | h
  · exact absurd (show nI 0 < 1 by decide) h0
  · exact h
theorem in160' {n : Nat} (h1 : 1 ≤ n) (h2 : n ≤ 60) : ¬ nI n < 1 ∧ nI n ≤ 60 ∧ ¬ (60 : Int32) < nI n := ⟨nI_nlt (b := 1) h1 (by omega), nI_le (b := 60) h2 (by decide), nI_nlt (a := 60) h2 (by decide)⟩
def isLd (d : DS) (i : Nat) (s : Int32) : Prop := dUnr d i = 0 ∧ dCells d (i * 13) = s ∧ dCells d (i * 13 + 1) = 0 ∧ ∃ n, 1 ≤ n ∧ n ≤ 60 ∧ s = nI n
section FD
variable {d : DS} {r : RS} {f : FS} {B : Nat}
theorem R_leader (h : RD d r) (hf : RF f r) (J : IF f) (s : Int32) : ∃ v m k f', f_Finder_leaderOf d f s = some (v, (dSMis d m, f')) ∧ f_Mod_leader r s = some (v, rSMis (rSKep r k) m) ∧ RF f' (rSKep r k) ∧ IF f' ∧ (v = -1 ∨ ∃ i, i < 40 ∧ v = nI i ∧ isLd d i s) := by
  unfold f_Finder_leaderOf f_Mod_leader
  by_cases h0 : s < 1
  · rw [if_pos h0, if_neg (fun q => q ((inab s 1 60).mpr (Or.inl h0)))]
    exact ⟨-1, dMis d, rKep r, f, rfl, by rw [h.2.2.1]; rfl, hf, J, Or.inl rfl⟩
  · rw [if_neg h0]
    by_cases h1 : s ≤ 60
    · rw [if_pos h1]
      obtain ⟨n, n1, n2, rfl⟩ := in160 h0 h1
      have hs : ¬ nI n = -1 := nI_m1 (by omega)
      have hb : inB (nI n) 61 := inB_nI (by omega) (by decide)
      have hc : (nI n).toNatClampNeg = n := cl_nI (by omega)
      rw [if_pos hb, if_pos (fun q => ((inab _ 1 60).mp q).elim h0 (in160' n1 n2).2.2), if_pos hb]
      have hk : rKep r n = fRem f n + 1 := by rw [hf n n1 n2]; exact (Int32.sub_add_cancel _ _).symm
      -- searching
      have hS : ∀ m, ∃ v k f', B_Finder_leaderOf_40 (dSMis d m) f (nI n) = some (v, (dSMis d m, f')) ∧ B_Mod_leader_47 (rSMis r m) (nI n) = some (v, rSMis (rSKep r k) m) ∧ RF f' (rSKep r k) ∧ IF f' ∧ (v = -1 ∨ ∃ i, i < 40 ∧ v = nI i ∧ isLd d i (nI n)) := by
        intro m
        have hm : RD (dSMis d m) (rSMis r m) := h.mis m (rKep r)
        unfold B_Finder_leaderOf_40 B_Mod_leader_47 B_Mod_leader_58 B_Mod_leader_61
        rw [if_pos hb, if_pos hb, R_search hm _ 0 hs, bnd_some, if_pos hb, if_pos hb, hc]
        refine ⟨xSearch d (nI n) 0, upd (rKep r) n (xSearch d (nI n) 0 + 1), fSRem f (upd (fRem f) n (xSearch d (nI n) 0)), ?_, ?_, ?_, ?_, ?_⟩
        · show some (upd (fRem f) n (xSearch (dSMis d m) (nI n) 0) n, _) = _
          rw [upd_eq]; rfl
        · show some (upd (rKep r) n (xSearch (dSMis d m) (nI n) 0 + 1) n - 1, _) = _
          rw [upd_eq, Int32.add_sub_cancel]; rfl
        · intro t t1 t2
          show upd (fRem f) n (xSearch d (nI n) 0) t = upd (rKep r) n (xSearch d (nI n) 0 + 1) t - 1
          by_cases ht : t = n
          · rw [ht, upd_eq, upd_eq, Int32.add_sub_cancel]
          · rw [upd_ne ht, upd_ne ht]; exact hf t t1 t2
        · intro t t1 t2
          show upd (fRem f) n (xSearch d (nI n) 0) t = -1 ∨ ∃ i, i < 40 ∧ upd (fRem f) n (xSearch d (nI n) 0) t = nI i
          by_cases ht : t = n
          · rw [ht, upd_eq]
            rcases xSearch_spec d (nI n) 0 hs with q | ⟨i, a1, a2, -⟩
            · exact Or.inl q.1
            · exact Or.inr ⟨i, a1, a2⟩
          · rw [upd_ne ht]; exact J t t1 t2
        · rcases xSearch_spec d (nI n) 0 hs with q | ⟨i, a1, a2, a3, a4, a5, -⟩
          · exact Or.inl q.1
          · exact Or.inr ⟨i, a1, a2, a3, a4, a5, n, n1, n2, rfl⟩
      simp only [hc]
      rcases J n n1 n2 with hj | ⟨i, hi, hj⟩
      · rw [if_pos hj, hk, hj, if_pos (show (-1 : Int32) + 1 ≤ 0 by decide)]
        obtain ⟨v, k, f', e1, e2, e3⟩ := hS (dMis d)
        refine ⟨v, dMis d, k, f', e1, ?_, e3⟩
        rw [← e2, h.2.2.1]; rfl
      · rw [if_neg (by rw [hj]; exact nI_m1 (by omega)), hk, hj, nI_1, if_neg (nI_nle (by omega) (by omega)), if_pos hb, nI_pred, R_look h _ _ _ hs, bnd_some, C_look]
        unfold B_Finder_leaderOf_35 B_Mod_leader_35
        cases hl : lk d (nI i) (nI n) 0
        · obtain ⟨v, k, f', e1, e2, e3⟩ := hS (dMis d + 1)
          refine ⟨v, dMis d + 1, k, f', e1, ?_, e3⟩
          rw [← e2, h.2.2.1]; rfl
        · refine ⟨nI i, dMis d, rKep r, f, ?_, ?_, hf, J, ?_⟩
          · show some (nI i, (dSMis d (dMis d + 0), f)) = _
            rw [Int32.add_zero]
          · show (if inB (nI n) 61 then some (rKep r (nI n).toNatClampNeg - 1, rSMis r (rMis r + 0)) else none) = _
            rw [if_pos hb, hc, hk, hj, nI_1, nI_pred, Int32.add_zero, h.2.2.1]; rfl
          · obtain ⟨j, a1, a2, a3, a4, a5⟩ := lk_spec d _ _ _ hs hl
            exact Or.inr ⟨j, a1, a2, a3, a4, a5, n, n1, n2, rfl⟩
    · rw [if_neg h1, if_neg (fun q => q ((inab s 1 60).mpr (Or.inr (Int32.not_le.mp h1))))]
      exact ⟨-1, dMis d, rKep r, f, rfl, by rw [h.2.2.1]; rfl, hf, J, Or.inl rfl⟩
/-- a page that was found -/
def isPg (d : DS) (j : Nat) (s p : Int32) : Prop := j < 40 ∧ dUnr d j = 0 ∧ dCells d (j * 13) = s ∧ dCells d (j * 13 + 1) = p
theorem IV.ser1 (I : IV B d) {i : Nat} (hi : i < 40) : ¬ dCells d (i * 13) = -1 := by
  rw [show i * 13 = i * 13 + 0 from rfl, ((I.2 i hi).2.1 0 (by decide) (by decide) (by decide)).1]
  exact nI_m1 (by have := ((I.2 i hi).2.1 0 (by decide) (by decide) (by decide)).2; simp [mxK] at this; omega)
theorem IV.lnk (I : IV B d) {i k : Nat} (hi : i < 40) (hk : k = 3 ∨ k = 4) : (dCells d (i * 13 + k) = -1 ∧ dCells d (i * 13 + k) < 0) ∨ (¬ dCells d (i * 13 + k) = -1 ∧ ¬ dCells d (i * 13 + k) < 0) := by
  rcases (I.2 i hi).2.2 k hk with q | ⟨q, q2⟩
  · exact Or.inl ⟨q, by rw [q]; decide⟩
  · refine Or.inr ⟨?_, ?_⟩
    · rw [q]; exact nI_m1 (by omega)
    · rw [q]; exact nI_pos (by omega)
theorem R_besideX (h : RD d r) (I : IV B d) {i : Nat} (hi : i < 40) (hu : dUnr d i = 0) (w : Int32) {k : Nat} (hk : k = 3 ∨ k = 4) (hl : dCells d (i * 13 + k) = rC r i k) :
    ∃ v m, B_Finder_follow_29 d f (nI i) (nI k) (xCell d (nI i) 0) (xCell d (nI i) 1) w = (v, dSMis d m) ∧ B_Mod_beside_19 r (nI i) w (rC r i k) = some (v, rSFau (rSMis r m) (if v = -1 then 4 else rFau r)) ∧ (v = -1 ∨ ∃ j, v = nI j ∧ isPg d j (dCells d (i * 13)) (dCells d (i * 13 + 1) + w)) := by
  have hs := I.ser1 hi
  have hb : inB (nI i) 40 := inB_nI hi (by decide)
  have hc : (nI i).toNatClampNeg = i := cl_nI (by omega)
  have hS : ∀ m, ∃ v, B_Finder_follow_69 (dSMis d m) f (dCells d (i * 13)) (dCells d (i * 13 + 1) + w) = (v, dSMis d m) ∧ B_Mod_beside_48 (rSMis r m) (nI i) w = some (v, rSFau (rSMis r m) (if v = -1 then 4 else rFau r)) ∧ (v = -1 ∨ ∃ j, v = nI j ∧ isPg d j (dCells d (i * 13)) (dCells d (i * 13 + 1) + w)) := by
    intro m
    have hm : RD (dSMis d m) (rSMis r m) := h.mis m (rKep r)
    refine ⟨xSearch d (dCells d (i * 13)) (dCells d (i * 13 + 1) + w), rfl, ?_, ?_⟩
    · unfold B_Mod_beside_48
      rw [if_pos hb, if_pos hb, hc]
      have e1 : rSer (rSMis r m) i = dCells d (i * 13) := (h.ser hi).symm
      have e2 : rPag (rSMis r m) i = dCells d (i * 13 + 1) := (h.pag hi).symm
      rw [e1, e2, R_search hm _ _ hs, bnd_some]
      unfold B_Mod_beside_66 B_Mod_beside_82 B_Mod_beside_85
      show (if 0 ≤ xSearch d (dCells d (i * 13)) (dCells d (i * 13 + 1) + w) then _ else _) = _
      rcases xSearch_spec d (dCells d (i * 13)) (dCells d (i * 13 + 1) + w) hs with q | ⟨j, a1, a2, -⟩
      · rw [q.1, if_neg (by decide), if_pos rfl]; exact congrArg (fun z => some (z, rSFau (rSMis r m) 4)) q.1
      · rw [a2, if_pos (nI_pos' (by omega)), if_neg (nI_m1 (by omega))]; exact congrArg (fun z => some (z, rSFau (rSMis r m) (rFau r))) a2
    · rcases xSearch_spec d (dCells d (i * 13)) (dCells d (i * 13 + 1) + w) hs with q | ⟨j, a1, a2, a3, a4, a5, -⟩
      · exact Or.inl q.1
      · exact Or.inr ⟨j, a2, a1, a3, a4, a5⟩
  unfold B_Finder_follow_29 B_Mod_beside_19
  rw [xc0 hi hu, xc1 hi hu, xc hi (by omega) hu, ← hl]
  rcases I.lnk hi hk with ⟨q1, q2⟩ | ⟨q1, q2⟩
  · rw [if_pos q1, if_pos q2]
    obtain ⟨v, e1, e2, e3⟩ := hS (dMis d)
    refine ⟨v, dMis d, e1, ?_, e3⟩
    rw [← e2, h.2.2.1]; rfl
  · rw [if_neg q1, if_neg q2, if_pos hb, if_pos hb, hc, ← h.ser hi, ← h.pag hi, R_look h _ _ _ hs, bnd_some, C_look]
    unfold B_Finder_follow_61 B_Mod_beside_43
    cases hl2 : lk d (dCells d (i * 13 + k)) (dCells d (i * 13)) (dCells d (i * 13 + 1) + w)
    · obtain ⟨v, e1, e2, e3⟩ := hS (dMis d + 1)
      refine ⟨v, dMis d + 1, e1, ?_, e3⟩
      rw [← e2, h.2.2.1]; rfl
    · refine ⟨dCells d (i * 13 + k), dMis d, ?_, ?_, ?_⟩
      · show (dCells d (i * 13 + k), dSMis d (dMis d + 0)) = _
        rw [Int32.add_zero]
      · show some (dCells d (i * 13 + k), rSMis r (rMis r + 0)) = _
        rw [Int32.add_zero, if_neg q1, h.2.2.1]; rfl
      · obtain ⟨j, a1, a2, a3, a4, a5⟩ := lk_spec d _ _ _ hs hl2
        exact Or.inr ⟨j, a2, a1, a3, a4, a5⟩
theorem R_behind (h : RD d r) (I : IV B d) {i : Nat} (hi : i < 40) (hu : dUnr d i = 0) :
    ∃ v m, f_Finder_follow d f (nI i) 3 = (v, dSMis d m) ∧ f_Mod_beside r (nI i) 1 = some (v, rSFau (rSMis r m) (if v = -1 then 4 else rFau r)) ∧ (v = -1 ∨ ∃ j, v = nI j ∧ isPg d j (dCells d (i * 13)) (dCells d (i * 13 + 1) + 1)) := by
  obtain ⟨v, m, e1, e2, e3⟩ := R_besideX (f := f) h I hi hu 1 (Or.inl rfl) (h.1 i hi 3 (by decide))
  refine ⟨v, m, ?_, ?_, e3⟩
  · unfold f_Finder_follow
    rw [if_neg (fun q => q rfl)]; exact e1
  · unfold f_Mod_beside
    rw [if_neg (by decide), if_pos (inB_nI hi (by decide)), cl_nI (by omega)]; exact e2
theorem R_ahead (h : RD d r) (I : IV B d) {i : Nat} (hi : i < 40) (hu : dUnr d i = 0) :
    ∃ v m, f_Finder_follow d f (nI i) 4 = (v, dSMis d m) ∧ f_Mod_beside r (nI i) (-1) = some (v, rSFau (rSMis r m) (if v = -1 then 4 else rFau r)) ∧ (v = -1 ∨ ∃ j, v = nI j ∧ isPg d j (dCells d (i * 13)) (dCells d (i * 13 + 1) + -1)) := by
  obtain ⟨v, m, e1, e2, e3⟩ := R_besideX (f := f) h I hi hu (-1) (Or.inr rfl) (h.1 i hi 4 (by decide))
  refine ⟨v, m, ?_, ?_, e3⟩
  · unfold f_Finder_follow
    rw [if_pos (by decide)]; exact e1
  · unfold f_Mod_beside
    rw [if_pos (by decide), if_pos (inB_nI hi (by decide)), cl_nI (by omega)]; exact e2
end FD
/-- too many for too few -/
theorem pig : ∀ (N : Nat) (g : Nat → Nat), (∀ q, q < N + 1 → g q < N) → ∃ a b, a < b ∧ b < N + 1 ∧ g a = g b := by
  intro N
  induction N with
  | zero => intro g h; exact absurd (h 0 (by decide)) (by omega)
  | succ N ih =>
    intro g h
    by_cases hx : ∃ a, a < N + 1 ∧ g a = g (N + 1)
    · obtain ⟨a, a1, a2⟩ := hx
      exact ⟨a, N + 1, a1, by omega, a2⟩
    · have hx2 : ∀ a, a < N + 1 → g a ≠ g (N + 1) := fun a ha q => hx ⟨a, ha, q⟩
      have hv := h (N + 1) (by omega)
      obtain ⟨a, b, h1, h2, h3⟩ := ih (fun q => if g q = N then g (N + 1) else g q) (fun q hq => by
        show (if g q = N then g (N + 1) else g q) < N
        have g1 := h q (by omega)
        have g2 := hx2 q hq
        by_cases hn : g q = N
        · rw [if_pos hn]; omega
        · rw [if_neg hn]; omega)
      have h3' : (if g a = N then g (N + 1) else g a) = (if g b = N then g (N + 1) else g b) := h3
      refine ⟨a, b, h1, by omega, ?_⟩
      have ga := hx2 a (by omega)
      have gb := hx2 b (by omega)
      by_cases ha : g a = N
      · by_cases hb : g b = N
        · rw [ha, hb]
        · rw [if_pos ha, if_neg hb] at h3'; exact absurd h3'.symm gb
      · by_cases hb : g b = N
        · rw [if_neg ha, if_pos hb] at h3'; exact absurd h3' ga
        · rw [if_neg ha, if_neg hb] at h3'; exact h3'
/-- no more than 40 pages one behind the other -/
theorem pig40 {d : DS} {P : Nat → Int32} (hP : ∀ a b, a < b → b < 41 → ¬ P a = P b) (h : ∀ q, q < 41 → ∃ i, i < 40 ∧ dCells d (i * 13 + 1) = P q) : False := by
  obtain ⟨a, b, h1, h2, h3⟩ := pig 40 (fun q => if hq : q < 41 then (h q hq).choose else 0) (fun q hq => by
    show (if hq : q < 41 then (h q hq).choose else 0) < 40
    rw [dif_pos (by omega)]; exact (h q (by omega)).choose_spec.1)
  have h3' : (if hq : a < 41 then (h a hq).choose else 0) = (if hq : b < 41 then (h b hq).choose else 0) := h3
  rw [dif_pos (show a < 41 by omega), dif_pos (show b < 41 by omega)] at h3'
  have e1 := (h a (by omega)).choose_spec.2
  have e2 := (h b (by omega)).choose_spec.2
  rw [h3', e2] at e1
  exact hP a b h1 (by omega) e1.symm
theorem nI_inj41 {a b : Nat} (h1 : a < b) (h2 : b < 41) : ¬ nI a = nI b := by
  rw [nI_eq (by omega) (by omega)]; omega
