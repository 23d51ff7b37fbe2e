/-! scavenging: the links of a file put right -/
/-- the sectors of the pages of a file -/
def PGS (d : DS) (sn Mn : Nat) (P : Nat → Nat) : Prop := ∀ q, q ≤ Mn → P q < 40 ∧ xSearch d (nI sn) (nI q) = nI (P q) ∧ dUnr d (P q) = 0 ∧ dCells d (P q * 13) = nI sn ∧ dCells d (P q * 13 + 1) = nI q
def CL (d0 : DS) (P : Nat → Nat) (d : DS) (p : Nat) : Prop := d.2 = d0.2 ∧ (∀ q, q < p → dCells d (P q * 13 + 3) = if q + 1 < p then nI (P (q + 1)) else -1) ∧ (∀ q, q < p → dCells d (P q * 13 + 4) = if q = 0 then -1 else nI (P (q - 1))) ∧ (∀ y k, y < 40 → k < 13 → ((k ≠ 3 ∧ k ≠ 4) ∨ ∀ q, q < p → y ≠ P q) → dCells d (y * 13 + k) = dCells d0 (y * 13 + k))
def RK (r0 : RS) (P : Nat → Nat) (Mn : Nat) (r : RS) (p : Nat) : Prop := rO r = rO r0 ∧ (∀ q, q < p → rC r (P q) 3 = if q < Mn then nI (P (q + 1)) else -1) ∧ (∀ q, q < p → rC r (P q) 4 = if q = 0 then -1 else nI (P (q - 1))) ∧ (∀ y k, y < 40 → k < 13 → ((k ≠ 3 ∧ k ≠ 4) ∨ ∀ q, q < p → y ≠ P q) → rC r y k = rC r0 y k)
section RI1
variable {d d' d0 : DS} {r r' r0 : RS} {f : FS} {w : WS} {m : MS} {s s' : SS} {g : GS} {B : Nat} {M : Nat → Nat}
theorem PGS.inj {sn Mn a b : Nat} {P : Nat → Nat} (h : PGS d sn Mn P) (ha : a ≤ Mn) (hb : b ≤ Mn) (hM : Mn ≤ 39) (e : P a = P b) : a = b := by
  have h1 := (h a ha).2.2.2.2
  have h2 := (h b hb).2.2.2.2
  rw [e] at h1
  exact (nI_eq (by omega) (by omega)).mp (h1.symm.trans h2)
theorem PGS.of {sn : Nat} (hK : KF d (rTab r) (rMan r) sn (M sn)) (hs : sn ≤ 60) (hr : ¬ xSearch d (nI sn) 0 = -1) : PGS d sn (M sn) (fun q => (xSearch d (nI sn) (nI q)).toNatClampNeg) := by
  intro q hq
  have hne : ¬ xSearch d (nI sn) (nI q) = -1 := by
    by_cases p0 : q = 0
    · subst p0; exact hr
    · exact (hK.2.2.2.2.1 q (by omega) hq).2
  obtain ⟨z, z1, z2, z3, z4, z5⟩ := found (d := d) (nI_m1 (by omega)) hne
  have e : (xSearch d (nI sn) (nI q)).toNatClampNeg = z := by rw [z2, cl_nI (by omega)]
  show (xSearch d (nI sn) (nI q)).toNatClampNeg < 40 ∧ xSearch d (nI sn) (nI q) = nI ((xSearch d (nI sn) (nI q)).toNatClampNeg) ∧ dUnr d ((xSearch d (nI sn) (nI q)).toNatClampNeg) = 0 ∧ dCells d ((xSearch d (nI sn) (nI q)).toNatClampNeg * 13) = nI sn ∧ dCells d ((xSearch d (nI sn) (nI q)).toNatClampNeg * 13 + 1) = nI q
  rw [e]
  exact ⟨z1, z2, z3, z4, z5⟩
theorem CL.lsm {sn Mn : Nat} {P : Nat → Nat} {p : Nat} (hP : PGS d0 sn Mn P) (hp : p ≤ Mn + 1) (h : CL d0 P d p) : LSm d0 d := ⟨fun i hi k hk => h.2.2.2 i k hi (by omega) (Or.inl ⟨by omega, by omega⟩), congrArg (·.2.1) h.1, congrArg (·.1) h.1, fun y hy u k hk => h.2.2.2 y k hy hk (Or.inr (fun q hq e => u (by rw [e]; exact (hP q (by omega)).2.2.1)))⟩
theorem CL.step {sn Mn p : Nat} {P : Nat → Nat} (hP : PGS d0 sn Mn P) (hM : Mn ≤ 39) (hp : p ≤ Mn) (h : CL d0 P d p) : CL d0 P (dSet (dSet (if p = 0 then d else dSet d (P (p - 1)) 3 (nI (P p))) (P p) 4 (if p = 0 then -1 else nI (P (p - 1)))) (P p) 3 (-1)) (p + 1) := by
  obtain ⟨h1, h2, h3, h4⟩ := h
  have hat : ∀ y k, k < 13 → dCells (dSet (dSet (if p = 0 then d else dSet d (P (p - 1)) 3 (nI (P p))) (P p) 4 (if p = 0 then -1 else nI (P (p - 1)))) (P p) 3 (-1)) (y * 13 + k) = if y = P p ∧ k = 3 then -1 else if y = P p ∧ k = 4 then (if p = 0 then -1 else nI (P (p - 1))) else if p = 0 then dCells d (y * 13 + k) else if y = P (p - 1) ∧ k = 3 then nI (P p) else dCells d (y * 13 + k) := fun y k hk => by
    rw [dSet_at (by decide) hk, dSet_at (by decide) hk]
    by_cases p0 : p = 0
    · rw [if_pos p0, if_pos p0, if_pos p0]
    · rw [if_neg p0, if_neg p0, if_neg p0, dSet_at (by decide) hk]
  have hpp : ∀ q, q < p → P q ≠ P p := fun q hq e => by
    have := hP.inj (by omega) hp hM e
    omega
  refine ⟨?_, fun q hq => ?_, fun q hq => ?_, fun y k hy hk hyk => ?_⟩
  · rw [← h1]
    by_cases p0 : p = 0
    · rw [if_pos p0]; rfl
    · rw [if_neg p0]; rfl
  · rw [hat _ _ (by decide)]
    by_cases e : q = p
    · subst e
      rw [if_pos ⟨rfl, rfl⟩, if_neg (by omega)]
    · rw [if_neg (fun z => hpp q (by omega) z.1), if_neg (by omega), if_pos (show q + 1 < p + 1 by omega), if_neg (show ¬ p = 0 by omega)]
      by_cases e2 : q = p - 1
      · subst e2
        rw [if_pos ⟨rfl, rfl⟩, show p - 1 + 1 = p by omega]
      · rw [if_neg (fun z => e2 (hP.inj (by omega) (by omega) hM z.1)), h2 q (by omega), if_pos (by omega)]
  · rw [hat _ _ (by decide)]
    by_cases e : q = p
    · subst e
      rw [if_neg (by omega), if_pos ⟨rfl, rfl⟩]
    · rw [if_neg (by omega), if_neg (fun z => hpp q (by omega) z.1), if_neg (show ¬ p = 0 by omega), if_neg (by omega), h3 q (by omega)]
  · rw [hat _ _ hk]
    have hn3 : ∀ q, q < p + 1 → ¬ (y = P q ∧ (k = 3 ∨ k = 4)) := fun q hq z => by
      rcases hyk with a | a
      · omega
      · exact a q hq z.1
    have e0 : dCells d (y * 13 + k) = dCells d0 (y * 13 + k) := h4 y k hy hk (hyk.imp id (fun a q hq => a q (by omega)))
    rw [if_neg (fun z => hn3 p (by omega) ⟨z.1, Or.inl z.2⟩), if_neg (fun z => hn3 p (by omega) ⟨z.1, Or.inr z.2⟩)]
    by_cases p0 : p = 0
    · rw [if_pos p0]; exact e0
    · rw [if_neg p0, if_neg (fun z => hn3 (p - 1) (by omega) ⟨z.1, Or.inl z.2⟩)]; exact e0
theorem C_lkL {sn : Nat} {P : Nat → Nat} (hs : sn ≤ 60) (hP : PGS d0 sn (M sn) P) (hK : KF d0 (rTab r0) (rMan r0) sn (M sn)) : ∀ j p, p + j = M sn + 1 → ∀ n, j < n → ∀ d, CL d0 P d p → ∃ d', L_Scav_putLinksRight_4 n d f w m s (nI sn) (if p = 0 then -1 else nI (P (p - 1))) (nI p) = some ((), dSet d' (P 0) (5 + 3) (nI (P (M sn)))) ∧ CL d0 P d' (M sn + 1) := by
  have hM := hK.1
  intro j
  induction j with
  | zero =>
    intro p hp n hn d h
    obtain ⟨n, rfl⟩ : ∃ n', n = n' + 1 := ⟨n - 1, by omega⟩
    obtain rfl : p = M sn + 1 := by omega
    refine ⟨d, ?_, h⟩
    have hl := CL.lsm hP (by omega) h
    have h72 : B_Scav_putLinksRight_72 d f w m s (nI sn) (nI (P (M sn))) = some ((), dSet d (P 0) (5 + 3) (nI (P (M sn)))) := by
      unfold B_Scav_putLinksRight_72 B_Scav_putLinksRight_90
      have z0 := hP 0 (Nat.zero_le _)
      rw [hl.search (nI_m1 (by omega)), show xSearch d0 (nI sn) 0 = nI (P 0) from z0.2.1, show f_Disk_setByte d (nI (P 0)) 3 (nI (P (M sn))) = ((), dSet d (P 0) (5 + 3) (nI (P (M sn)) &&& 255)) from C_setb (j := 3) z0.1 (by decide) (by rw [hl.2.1]; exact z0.2.2.1) _, b255' (by have := (hP (M sn) (Nat.le_refl _)).1; omega)]
    rw [if_neg (show ¬ M sn + 1 = 0 by omega), Nat.add_sub_cancel]
    unfold L_Scav_putLinksRight_4
    by_cases q : M sn + 1 = 40
    · rw [if_pos (show (40 : Int32) ≤ nI (M sn + 1) from nI_le (a := 40) (by omega) (by omega))]; exact h72
    · rw [if_neg (show ¬ (40 : Int32) ≤ nI (M sn + 1) from nI_ge (b := 40) (by omega) (by decide)), if_neg (not_not_intro (show xSearch d (nI sn) (nI (M sn + 1)) = -1 by rw [hl.search (nI_m1 (by omega))]; exact hK.beyond hs (by omega) (by omega)))]; exact h72
  | succ j ih =>
    intro p hp n hn d h
    obtain ⟨n, rfl⟩ : ∃ n', n = n' + 1 := ⟨n - 1, by omega⟩
    have hl := CL.lsm hP (by omega) h
    have zp := hP p (by omega)
    have hst := CL.step hP hM (by omega) h
    obtain ⟨d', g1, g2⟩ := ih (p + 1) (by omega) n (by omega) _ hst
    refine ⟨d', ?_, g2⟩
    unfold L_Scav_putLinksRight_4
    rw [if_neg (show ¬ (40 : Int32) ≤ nI p from nI_ge (b := 40) (by omega) (by decide)), hl.search (nI_m1 (by omega)), zp.2.1, if_pos (nI_m1 (by omega))]
    unfold B_Scav_putLinksRight_41 B_Scav_putLinksRight_52 B_Scav_putLinksRight_63
    have e1 : xSetCell d (if p = 0 then -1 else nI (P (p - 1))) 3 (nI (P p)) = if p = 0 then d else dSet d (P (p - 1)) 3 (nI (P p)) := by
      by_cases p0 : p = 0
      · rw [if_pos p0, if_pos p0]
        exact if_neg (fun z => absurd z.1 (by decide))
      · rw [if_neg p0, if_neg p0]
        have zq := hP (p - 1) (by omega)
        exact C_set (k := 3) zq.1 (by decide) (by rw [hl.2.1]; exact zq.2.2.1) _
    have hu1 : dUnr (if p = 0 then d else dSet d (P (p - 1)) 3 (nI (P p))) (P p) = 0 := by
      by_cases p0 : p = 0
      · rw [if_pos p0, hl.2.1]; exact zp.2.2.1
      · rw [if_neg p0]
        show dUnr d (P p) = 0
        rw [hl.2.1]; exact zp.2.2.1
    rw [if_neg (show ¬ p + 1 = 0 by omega), Nat.add_sub_cancel] at g1
    rw [e1]
    generalize (if p = 0 then d else dSet d (P (p - 1)) 3 (nI (P p))) = d1 at hu1 g1
    rw [show xSetCell d1 (nI (P p)) 4 (if p = 0 then -1 else nI (P (p - 1))) = dSet d1 (P p) 4 (if p = 0 then -1 else nI (P (p - 1))) from C_set (k := 4) zp.1 (by decide) hu1 _, show ∀ v, xSetCell (dSet d1 (P p) 4 v) (nI (P p)) 3 (-1) = dSet (dSet d1 (P p) 4 v) (P p) 3 (-1) from fun v => C_set (d := dSet d1 (P p) 4 v) (k := 3) zp.1 (by decide) hu1 _, nI_1]
    exact g1
theorem R_lkL {sn : Nat} {P : Nat → Nat} (hs1 : 1 ≤ sn) (hs : sn ≤ 60) (hP : PGS d0 sn (M sn) P) (hK : KF d0 (rTab r0) (rMan r0) sn (M sn)) : ∀ j p, p + j = M sn + 1 → ∀ n, j < n → ∀ r, RK r0 P (M sn) r p → ∃ r', L_Mod_link_2 n r (nI sn) (nI p) = some ((), rSet r' (P 0) (5 + 3) (nI (P (M sn)))) ∧ RK r0 P (M sn) r' (M sn + 1) := by
  have hM := hK.1
  have hpg : ∀ r, rO r = rO r0 → ∀ q, q ≤ M sn → f_Mod_pageAt r (nI sn) (nI q) = some (nI (P q), ()) := fun r hr q hq => by
    have t1 : rTab r (40 * sn + q) = nI (P q) + 1 := by
      rw [rT_tab (rO_T hr), ← (hP q hq).2.1]
      by_cases q0 : q = 0
      · subst q0; exact hK.2.2.2.1
      · exact (hK.2.2.2.2.1 q (by omega) hq).1
    unfold f_Mod_pageAt
    rw [ix40, if_pos (inB_nI (show 40 * sn + q < 2440 by omega) (by decide)), cl_nI (by omega), t1, Int32.add_sub_cancel]
  have hmn : ∀ r, rO r = rO r0 → rMan r sn = nI (M sn) := fun r hr => by rw [rT_man (rO_T hr)]; exact hK.2.2.1
  intro j
  induction j with
  | zero =>
    intro p hp n hn r h
    obtain ⟨n, rfl⟩ : ∃ n', n = n' + 1 := ⟨n - 1, by omega⟩
    obtain rfl : p = M sn + 1 := by omega
    refine ⟨r, ?_, h⟩
    have z0 := (hP 0 (Nat.zero_le _)).1
    unfold L_Mod_link_2
    rw [if_pos (inB_nI (show sn < 61 by omega) (by decide)), cl_nI (by omega), hmn r h.1, if_pos (nI_lt (by omega) (by omega)), R_headOf (rT_tab (rO_T h.1)) hK hs, bnd_some]
    unfold B_Mod_link_86
    rw [if_pos (inB_nI (show sn < 61 by omega) (by decide)), cl_nI (by omega), hmn r h.1, hpg r h.1 _ (Nat.le_refl _), bnd_some]
    unfold B_Mod_link_100 B_Mod_link_101
    rw [show (8 * (xSearch d0 (nI sn) 0, ()).1 + 3 : Int32) = nI (8 * P 0 + 3) from by show 8 * xSearch d0 (nI sn) (nI 0) + nI 3 = _; rw [(hP 0 (Nat.zero_le _)).2.1, by8, nI_add], if_pos (inB_nI (show 8 * P 0 + 3 < 320 by omega) (by decide)), cl_nI (by omega), ← rSetb]
  | succ j ih =>
    intro p hp n hn r h
    obtain ⟨n, rfl⟩ : ∃ n', n = n' + 1 := ⟨n - 1, by omega⟩
    have zp := (hP p (by omega)).1
    obtain ⟨h1, h2, h3, h4⟩ := h
    have hpp : ∀ q, q < p → P q ≠ P p := fun q hq e => by
      have := hP.inj (by omega) (by omega) hM e
      omega
    have hst : RK r0 P (M sn) (rSet (rSet r (P p) 3 (if p < M sn then nI (P (p + 1)) else -1)) (P p) 4 (if p = 0 then -1 else nI (P (p - 1)))) (p + 1) := by
      refine ⟨(rSet_O _ _ _ _).trans ((rSet_O _ _ _ _).trans h1), fun q hq => ?_, fun q hq => ?_, fun y k hy hk hyk => ?_⟩
      · rw [rSet_at (by decide) (by decide), if_neg (by omega), rSet_at (by decide) (by decide)]
        by_cases e : q = p
        · subst e
          rw [if_pos ⟨rfl, rfl⟩]
        · rw [if_neg (fun z => hpp q (by omega) z.1)]; exact h2 q (by omega)
      · rw [rSet_at (by decide) (by decide), rSet_at (by decide) (by decide)]
        by_cases e : q = p
        · subst e
          rw [if_pos ⟨rfl, rfl⟩]
        · rw [if_neg (fun z => hpp q (by omega) z.1), if_neg (by omega)]; exact h3 q (by omega)
      · rw [rSet_at (by decide) hk, rSet_at (by decide) hk]
        have hn3 : ¬ (y = P p ∧ (k = 3 ∨ k = 4)) := fun z => by
          rcases hyk with a | a
          · omega
          · exact a p (by omega) z.1
        rw [if_neg (fun z => hn3 ⟨z.1, Or.inr z.2⟩), if_neg (fun z => hn3 ⟨z.1, Or.inl z.2⟩)]
        exact h4 y k hy hk (hyk.imp id (fun a q hq => a q (by omega)))
    obtain ⟨r', g1, g2⟩ := ih (p + 1) (by omega) n (by omega) _ hst
    refine ⟨r', ?_, g2⟩
    unfold L_Mod_link_2
    rw [if_pos (inB_nI (show sn < 61 by omega) (by decide)), cl_nI (by omega), hmn r h1, if_neg (nI_nlt (by omega) (by omega)), hpg r h1 p (by omega), bnd_some]
    have e18 : B_Mod_link_18 (L_Mod_link_2 n) r (nI sn) (nI p) (nI (P p), ()).1 = B_Mod_link_47 (L_Mod_link_2 n) (rSet r (P p) 3 (if p < M sn then nI (P (p + 1)) else -1)) (nI sn) (nI p) (nI (P p)) := by
      unfold B_Mod_link_18
      rw [if_pos (inB_nI (show sn < 61 by omega) (by decide)), cl_nI (by omega), hmn r h1]
      by_cases q : p < M sn
      · rw [if_neg (nI_ge q (by omega)), nI_1, hpg r h1 (p + 1) (by omega), bnd_some, if_pos q]
        unfold B_Mod_link_42 B_Mod_link_46
        rw [if_pos (show inB (nI (P p), ()).1 40 from inB_nI zp (by decide)), show (nI (P p), ()).1.toNatClampNeg = P p from cl_nI (by omega)]
        rfl
      · rw [if_pos (nI_le (by omega) (by omega)), if_neg q]
        unfold B_Mod_link_46
        rw [if_pos (show inB (nI (P p), ()).1 40 from inB_nI zp (by decide)), show (nI (P p), ()).1.toNatClampNeg = P p from cl_nI (by omega)]
        rfl
    rw [e18]
    have hO1 : rO (rSet r (P p) 3 (if p < M sn then nI (P (p + 1)) else -1)) = rO r0 := (rSet_O _ _ _ _).trans h1
    generalize rSet r (P p) 3 (if p < M sn then nI (P (p + 1)) else -1) = r1 at hO1 g1
    unfold B_Mod_link_47
    by_cases p0 : p = 0
    · subst p0
      rw [if_pos (by decide)]
      unfold B_Mod_link_68 B_Mod_link_69
      rw [if_pos (inB_nI zp (by decide)), cl_nI (by omega), nI_1]
      exact g1
    · rw [if_neg (show ¬ nI p ≤ 0 from nI_nle (by omega) (by omega)), show (nI p - 1 : Int32) = nI (p - 1) from by
        obtain ⟨a, rfl⟩ : ∃ a, p = a + 1 := ⟨p - 1, by omega⟩
        rw [nI_pred, Nat.add_sub_cancel], hpg r1 hO1 (p - 1) (by omega), bnd_some]
      rw [if_neg p0] at g1
      unfold B_Mod_link_64 B_Mod_link_68 B_Mod_link_69
      rw [if_pos (inB_nI zp (by decide)), cl_nI (by omega), nI_1]
      exact g1
end RI1
