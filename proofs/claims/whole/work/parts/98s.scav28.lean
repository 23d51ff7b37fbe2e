/-! scavenging: putRight against right -/
section RI4
variable {d d' d0 : DS} {r r' r0 : RS} {f : FS} {w : WS} {m : MS} {s s' : SS} {g : GS} {B : Nat} {M : Nat → Nat}
def mb5 (d : DS) (z : Nat) (c : Nat → Int32) : DS := dSet (dSet (dSet (dSet (dSet d z (5 + 0) (c 0)) z (5 + 1) (c 1)) z (5 + 2) (c 2)) z (5 + 3) (c 3)) z (5 + 4) (c 4)
theorem mb5_at {z y k : Nat} {c : Nat → Int32} (hk : k < 13) : dCells (mb5 d z c) (y * 13 + k) = if y = z ∧ 5 ≤ k ∧ k < 10 then c (k - 5) else dCells d (y * 13 + k) := by
  unfold mb5
  rw [dSet_at (by decide) hk, dSet_at (by decide) hk, dSet_at (by decide) hk, dSet_at (by decide) hk, dSet_at (by decide) hk]
  by_cases e : y = z
  · subst e
    rcases (show k = 0 ∨ k = 1 ∨ k = 2 ∨ k = 3 ∨ k = 4 ∨ k = 5 ∨ k = 6 ∨ k = 7 ∨ k = 8 ∨ k = 9 ∨ k = 10 ∨ k = 11 ∨ k = 12 by omega) with rfl | rfl | rfl | rfl | rfl | rfl | rfl | rfl | rfl | rfl | rfl | rfl | rfl <;> simp
  · simp [e]
theorem R_mapPg (h : SK 61 B d r M) : ∃ d' r', PRe d f w m s = some ((), d') ∧ bnd (f_Mod_isThere r 2) (fun q => B_Mod_right_46 r q.1) = some ((), r') ∧ RD d' r' ∧ IV B d' ∧ IX d' ∧ d'.2 = d.2 ∧ rO r' = rO r ∧ UR d d' ∧ (∀ t, 1 ≤ t → t ≤ 60 → xSearch d' (nI t) 0 = xSearch d (nI t) 0) := by
  obtain ⟨h1, h2, h3, h4, h5, h6⟩ := h
  have hRD : RD d r := ⟨fun i hi k hk => h1 i hi k hk (fun z => by
    obtain ⟨t, t1, t2, -⟩ := z.2
    omega), h2⟩
  have hK := h5.2 2 (by decide) (by decide)
  have hskip : xSearch d (nI 2) (nI 1) = -1 → bnd (f_Mod_isThere r 2) (fun q => B_Mod_right_46 r q.1) = some ((), r) → ∃ d' r', PRe d f w m s = some ((), d') ∧ bnd (f_Mod_isThere r 2) (fun q => B_Mod_right_46 r q.1) = some ((), r') ∧ RD d' r' ∧ IV B d' ∧ IX d' ∧ d'.2 = d.2 ∧ rO r' = rO r ∧ UR d d' ∧ (∀ t, 1 ≤ t → t ≤ 60 → xSearch d' (nI t) 0 = xSearch d (nI t) 0) := fun e1 e2 => by
    refine ⟨d, r, ?_, e2, hRD, h3, h4, rfl, rfl, fun _ _ _ _ _ => rfl, fun _ _ _ => rfl⟩
    unfold PRe
    rw [if_pos (show xSearch d 2 1 = -1 from e1)]
    rfl
  have hth : f_Mod_isThere r 2 = some (if xSearch d (nI 2) 0 = -1 then 0 else 1, ()) := X_isThere hK (by decide) (by decide)
  by_cases hno : xSearch d (nI 2) 0 = -1
  · rw [if_pos hno] at hth
    refine hskip ?_ ?_
    · apply Classical.byContradiction
      intro q
      obtain ⟨y, y1, -, y3, y4, -⟩ := found (d := d) (s := nI 2) (p := nI 1) (by decide) q
      exact h6 y y1 y3 2 (by decide) (by decide) y4 hno
    · rw [hth, bnd_some]
      unfold B_Mod_right_46
      rw [if_pos rfl]
  · rw [if_neg hno] at hth
    have hm2 : rMan r (2 : Int32).toNatClampNeg = nI (M 2) := hK.2.2.1
    have hM2 := hK.2.1 rfl
    by_cases hM : M 2 = 0
    · refine hskip (hK.beyond (by decide) (by omega) (by decide)) ?_
      rw [hth, bnd_some]
      unfold B_Mod_right_46
      rw [if_neg (show ¬ ((1 : Int32), ()).1 = 0 from (by decide : ¬ (1 : Int32) = 0)), if_pos (by decide), hm2, hM, if_pos (show nI 0 ≤ 0 by decide)]
    · have hM1 : M 2 = 1 := by omega
      have t1 := hK.2.2.2.2.1 1 (by decide) (by omega)
      obtain ⟨z, z1, z2, z3, z4, z5⟩ := found (d := d) (s := nI 2) (p := nI 1) (by decide) t1.2
      have hz0 : z ≠ 0 := fun q => by
        subst q
        rcases h4.2.1 with a | a
        · exact a z3
        · rw [show dCells d 0 = nI 2 from z4] at a; exact absurd a.1 (by decide)
      -- the class
      have hR := DRow.set (DRow.refl d z) (show 2 < 13 by decide) 5
      have hC : PRe d f w m s = some ((), mb5 (dSet d z 2 5) z (fun k => nI (mbs (fun b => xFree (dSet d z 2 5) (nI (8 * k + b))) 8))) := by
        unfold PRe B_Scav_putRight_44 B_Scav_putRight_52
        rw [show xSearch d 2 1 = nI z from z2, if_neg (nI_m1 (by omega)), show xSetCell d (nI z) 2 5 = dSet d z 2 5 from C_set (k := 2) z1 (by decide) z3 _, C_bits z1 (show dUnr (dSet d z 2 5) z = 0 from z3)]
        rfl
      have hfd : ∀ x, x < 40 → xFree (dSet d z 2 5) (nI x) = xFree d (nI x) := fun x hx => xFree_lab hx (by
        have := dSet_at (d := d) (i := z) (k := 2) (i' := x) (k' := 0) (v := 5) (by decide) (by decide)
        rw [if_neg (by omega)] at this
        exact this) rfl
      -- the reference
      have epg : f_Mod_pageAt r 2 1 = some (nI z, ()) := by
        unfold f_Mod_pageAt
        rw [show (40 * (2 : Int32) + 1) = nI (40 * 2 + 1) from by decide, if_pos (by decide), cl_nI (by decide), t1.1, z2, Int32.add_sub_cancel]
      have hRe : bnd (f_Mod_isThere r 2) (fun q => B_Mod_right_46 r q.1) = L_Mod_right_74 1000 (rSet r z 2 5) (nI z) (nI 0) := by
        rw [hth, bnd_some]
        unfold B_Mod_right_46
        rw [if_neg (show ¬ ((1 : Int32), ()).1 = 0 from (by decide : ¬ (1 : Int32) = 0)), if_pos (by decide), hm2, hM1, if_neg (show ¬ nI 1 ≤ 0 by decide), epg, bnd_some]
        unfold B_Mod_right_64 B_Mod_right_72
        rw [if_pos (show inB (nI z, ()).1 40 from inB_nI z1 (by decide)), show (nI z, ()).1.toNatClampNeg = z from cl_nI (by omega)]
        rfl
      obtain ⟨r2, q1, q2, q3, q4⟩ := R_zero (r0 := rSet r z 2 5) z1 5 0 (by omega) 1000 (by omega) (rSet r z 2 5) rfl (fun k hk => absurd hk (by omega)) (fun _ _ _ _ _ => rfl)
      have hO1 : rO (rSet r z 2 5) = rO r := rSet_O _ _ _ _
      obtain ⟨r3, p1, p2, p3, p4⟩ := R_bits (r0 := rSet r z 2 5) (fr := fun x => xFree d (nI x)) z1 (fun r' e1 e2 x hx => X_isFree hx (by
          rw [e2 x hx, rSet_at (by decide) (by decide), if_neg (by omega)]
          exact hRD.1 x hx 0 (by decide)) (by
          rw [show rBad r' = rBad r from oth_bad (rO_oth (e1.trans hO1))]
          exact hRD.2.1 x hx)) 40 0 (by omega) 1000 (by omega) r2 ⟨q2, fun k hk => by rw [q3 k hk]; rfl, q4⟩
      have hO3 : rO r3 = rO r := p2.trans hO1
      have hat : ∀ y k, k < 13 → dCells (mb5 (dSet d z 2 5) z (fun k => nI (mbs (fun b => xFree (dSet d z 2 5) (nI (8 * k + b))) 8))) (y * 13 + k) = if y = z ∧ 5 ≤ k ∧ k < 10 then nI (mbs (fun b => xFree (dSet d z 2 5) (nI (8 * (k - 5) + b))) 8) else if y = z ∧ k = 2 then 5 else dCells d (y * 13 + k) := fun y k hk => by
        rw [mb5_at hk, dSet_at (by decide) hk]
      refine ⟨_, r3, hC, by rw [hRe, q1]; exact p1, ⟨fun y hy k hk => ?_, h2.cg rfl (oth_bad (rO_oth hO3)) (rO_i hO3)⟩, ?_, ?_, rfl, hO3, fun y hy u k hk => ?_, fun t t1 t2 => ?_⟩
      · rw [hat y k hk]
        by_cases q : y = z ∧ 5 ≤ k ∧ k < 10
        · obtain ⟨rfl, k5, k10⟩ := q
          rw [if_pos ⟨rfl, k5, k10⟩]
          have := p3 (k - 5) (by omega)
          rw [show 5 + (k - 5) = k by omega, show pmn 40 (k - 5) = 8 from by unfold pmn; rw [if_neg (by omega), if_pos (by omega)]] at this
          rw [this]
          have e2 : ∀ n, n ≤ 8 → mbs (fun b => xFree (dSet d y 2 5) (nI (8 * (k - 5) + b))) n = mbs (fun b => xFree d (nI (8 * (k - 5) + b))) n := by
            intro n
            induction n with
            | zero => intro _; rfl
            | succ n ih =>
              intro hn
              unfold mbs
              rw [ih (by omega), hfd _ (by omega)]
          rw [e2 8 (by decide)]
        · rw [if_neg q, p4 y k hy hk q, rSet_at (by decide) hk, hRD.1 y hy k hk]
      · unfold mb5
        have i1 : IV B (dSet d z 2 5) := h3.set (by decide) (Or.inr ⟨by omega, 5, by show 5 ≤ 8; decide, rfl⟩)
        exact ((((i1.set (by decide) (vOKb (j := 0) (mbs_lt _ 8))).set (by decide) (vOKb (j := 1) (mbs_lt _ 8))).set (by decide) (vOKb (j := 2) (mbs_lt _ 8))).set (by decide) (vOKb (j := 3) (mbs_lt _ 8))).set (by decide) (vOKb (j := 4) (mbs_lt _ 8))
      · unfold mb5
        have x1 : IX (dSet d z 2 5) := h4.row hR.du (fun _ q => by
          have q' : dCells d (z * 13 + 1) = 0 := q
          rw [z5] at q'; exact absurd q' (by decide)) (fun q => absurd q hz0) (fun q _ => by
          have q' : dCells d (z * 13) = 1 := q
          rw [z4] at q'; exact absurd q' (by decide))
        exact ((((x1.set3 (by decide) (by decide)).set3 (by decide) (by decide)).set3 (by decide) (by decide)).set3 (by decide) (by decide)).set3 (by decide) (by decide)
      · have hyz : y ≠ z := fun e => u (by rw [e]; exact z3)
        rw [hat y k hk, if_neg (fun q => hyz q.1), if_neg (fun q => hyz q.1)]
      · have e1 : ∀ i, i < 40 → ∀ k, k < 2 → dCells (mb5 (dSet d z 2 5) z (fun k => nI (mbs (fun b => xFree (dSet d z 2 5) (nI (8 * k + b))) 8))) (i * 13 + k) = dCells d (i * 13 + k) := fun i hi k hk => by
          rw [hat i k (by omega), if_neg (by omega), if_neg (by omega)]
        refine S_cg (fun i hi => says_cg (nI_m1 (by omega)) hi ?_)
        rw [show dCells (mb5 (dSet d z 2 5) z (fun k => nI (mbs (fun b => xFree (dSet d z 2 5) (nI (8 * k + b))) 8))) (i * 13) = dCells d (i * 13) from e1 i hi 0 (by decide), e1 i hi 1 (by decide)]
        exact Iff.rfl
theorem thN_cg (h : ∀ t, 1 ≤ t → t ≤ 60 → xSearch d' (nI t) 0 = xSearch d (nI t) 0) : ∀ n, n ≤ 60 → thN d' n = thN d n := by
  intro n
  induction n with
  | zero => intro _; rfl
  | succ n ih =>
    intro hn
    unfold thN
    rw [ih (by omega), h (n + 1) (by omega) hn]
theorem R_right (h : SF B d s r M) (hH : HDp d) : ∃ d' r', f_Scav_putRight d f w m s = some ((), d') ∧ f_Mod_right r = some ((), r') ∧ RD d' r' ∧ IV B d' ∧ IX d' ∧ d'.2 = d.2 ∧ rT r' = rT r ∧ rRep r' 0 = nI (thN d 60) ∧ (∀ k, k ≠ 0 → rRep r' k = rRep r k) ∧ UR d d' ∧ f_Scav_countFiles d' f w m s = some (nI (thN d 60), ()) := by
  have hSK : SK 1 B d r M := by
    refine ⟨fun i hi k hk q => h.1.1 i hi k hk (fun z => q ⟨z.1, ?_⟩) (fun z => z.elim), h.1.2, h.2.1, h.2.2.1, h.2.2.2.1, hH⟩
    obtain ⟨n, n1, n2⟩ := h.2.1.serN hi
    refine ⟨n, ?_, n1, n2⟩
    rcases Nat.eq_zero_or_pos n with e | e
    · rw [e] at n2; exact absurd n2 z.2
    · exact e
  obtain ⟨d1, r1, c1, c2, c3, c4, c5, c6, c7, c8⟩ := R_rightL (f := f) (w := w) (m := m) (s := s) 60 1 (by omega) (by omega) 100 1000 (by omega) (by omega) d r hSK (h.2.2.2.2.2.2.2.1)
  obtain ⟨d2, r2, e1, e2, e3, e4, e5, e6, e7, e8, e9⟩ := R_mapPg (f := f) (w := w) (m := m) (s := s) c3
  have ht : thN d2 60 = thN d 60 := (thN_cg e9 60 (Nat.le_refl _)).trans (thN_lab c4 60 (Nat.le_refl _))
  refine ⟨d2, r2, ?_, ?_, e3, e4, e5, e6.trans c5, (rO_T e7).trans c6, by rw [rO_rep e7]; exact c7, fun k hk => by rw [rO_rep e7]; exact c8 k hk, UR.trans c4.2.1 c4.2.2.2 e8, ?_⟩
  · unfold f_Scav_putRight
    exact c1.trans e1
  · unfold f_Mod_right
    exact c2.trans e2
  · unfold f_Scav_countFiles
    rw [← ht]
    exact C_countF e4 60 1 (by omega) (by omega) 100 (by omega)
end RI4
