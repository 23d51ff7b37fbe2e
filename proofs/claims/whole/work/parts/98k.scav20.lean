/-! scavenging: a place for an entry in the root -/
section AD4
variable {d d' : DS} {r r' : RS} {f : FS} {w : WS} {m : MS} {s s' : SS} {g : GS} {B : Nat} {M : Nat → Nat}
/-- a place (i, t) has been found: d', r' behind it -/
def RMp (B : Nat) (d : DS) (s : SS) (r : RS) (d' : DS) (r' : RS) (M' : Nat → Nat) (i t : Nat) : Prop := SF B d' s r' M' ∧ i < 40 ∧ t < 2 ∧ dUnr d' i = 0 ∧ dCells d' (i * 13) = nI 1 ∧ ¬ dCells d' (i * 13 + 1) = 0 ∧ t < en d' i ∧ (∀ j t', j < 40 → dUnr d' j = 0 → dCells d' (j * 13) = nI 1 → ¬ dCells d' (j * 13 + 1) = 0 → t' < en d' j → ¬ (j = i ∧ t' = t) → OKE d' j t') ∧ KE d r d' r' ∧ rRea r' = rRea r ∧ (∀ t, 1 ≤ t → t ≤ 60 → xSearch d' (nI t) 0 = xSearch d (nI t) 0) ∧ (∀ y, y < 40 → y ≠ i → ∀ k, k < 13 → dCells d' (y * 13 + k) = dCells d (y * 13 + k))
theorem Set0_Man (r : RS) (N : Nat → Int32) (x : Nat) (v : Int32) : rSet (rSMan r N) x 0 v = rSMan (rSet r x 0 v) N := rfl
theorem Set1_Man (r : RS) (N : Nat → Int32) (x : Nat) (v : Int32) : rSet (rSMan r N) x 1 v = rSMan (rSet r x 1 v) N := rfl
theorem Set2_Man (r : RS) (N : Nat → Int32) (x : Nat) (v : Int32) : rSet (rSMan r N) x 2 v = rSMan (rSet r x 2 v) N := rfl
/-- the last page of the root -/
theorem C_lastK (h : SF B d s r M) (hr : ¬ xSearch d (nI 1) 0 = -1) : ∃ z, z < 40 ∧ f_Scav_lastKept d f w m s 1 = some (nI z, ()) ∧ xSearch d (nI 1) (nI (M 1)) = nI z ∧ dUnr d z = 0 ∧ dCells d (z * 13) = nI 1 ∧ dCells d (z * 13 + 1) = nI (M 1) := by
  have hK := h.2.2.2.1.2 1 (by decide) (by decide)
  have hM := hK.1
  have hne : ∀ p, p ≤ M 1 → ¬ xSearch d (nI 1) (nI p) = -1 := fun p hp => by
    by_cases p0 : p = 0
    · subst p0; exact hr
    · exact (hK.2.2.2.2.1 p (by omega) hp).2
  obtain ⟨z, z1, z2, z3, z4, z5⟩ := found (d := d) (s := nI 1) (p := nI (M 1)) (by decide) (hne _ (Nat.le_refl _))
  refine ⟨z, z1, ?_, z2, z3, z4, z5⟩
  unfold f_Scav_lastKept
  suffices hall : ∀ j p, p + j = M 1 + 1 → 1 ≤ p → ∀ n, j < n → L_Scav_lastKept_12 n d f w m s 1 (xSearch d (nI 1) (nI (p - 1))) (nI p) = some (nI z, ()) from hall (M 1) 1 (by omega) (by omega) 100 (by omega)
  intro j
  induction j with
  | zero =>
    intro p hp p1 n hn
    obtain ⟨n, rfl⟩ : ∃ n', n = n' + 1 := ⟨n - 1, by omega⟩
    unfold L_Scav_lastKept_12
    rw [show p - 1 = M 1 by omega, z2]
    by_cases q : p = 40
    · rw [if_pos (show (40 : Int32) ≤ nI p from nI_le (a := 40) (by omega) (by omega))]
    · rw [if_neg (show ¬ (40 : Int32) ≤ nI p from nI_ge (b := 40) (by omega) (by decide)), if_neg (not_not_intro (show xSearch d 1 (nI p) = -1 from hK.beyond (by decide) (by omega) (by omega)))]
  | succ j ih =>
    intro p hp p1 n hn
    obtain ⟨n, rfl⟩ : ∃ n', n = n' + 1 := ⟨n - 1, by omega⟩
    unfold L_Scav_lastKept_12
    rw [if_neg (show ¬ (40 : Int32) ≤ nI p from nI_ge (b := 40) (by omega) (by decide)), if_pos (show ¬ xSearch d 1 (nI p) = -1 from hne p (by omega)), nI_1]
    exact ih (p + 1) (by omega) (by omega) n (by omega)
/-- a free sector leaves room for one page more -/
theorem M39 (h : SF B d s r M) (hr : ¬ xSearch d (nI 1) 0 = -1) {x : Nat} (hx : x < 40) (hF : xFree d (nI x) = true) : M 1 + 1 ≤ 39 := by
  have hK := h.2.2.2.1.2 1 (by decide) (by decide)
  have hM := hK.1
  obtain ⟨hux, hcx⟩ := free_of hx hF
  have hne : ∀ p, p ≤ M 1 → ¬ xSearch d (nI 1) (nI p) = -1 := fun p hp => by
    by_cases p0 : p = 0
    · subst p0; exact hr
    · exact (hK.2.2.2.2.1 p (by omega) hp).2
  apply Classical.byContradiction
  intro hd
  have hM39 : M 1 = 39 := by omega
  have hall : ∀ q, q < 41 → ∃ i, i < 40 ∧ ((q < 40 ∧ dCells d (i * 13) = nI 1 ∧ dCells d (i * 13 + 1) = nI q) ∨ (q = 40 ∧ i = x)) := fun q hq => by
    by_cases q4 : q < 40
    · obtain ⟨i, i1, -, -, i2, i3⟩ := found (d := d) (s := nI 1) (p := nI q) (by decide) (hne q (by omega))
      exact ⟨i, i1, Or.inl ⟨q4, i2, i3⟩⟩
    · exact ⟨x, hx, Or.inr ⟨by omega, rfl⟩⟩
  obtain ⟨a, b, ab, b1, e⟩ := pig 40 (fun q => if hq : q < 41 then (hall q hq).choose else 0) (fun q hq => by
    show (if hq : q < 41 then (hall q hq).choose else 0) < 40
    rw [dif_pos (by omega)]; exact (hall q (by omega)).choose_spec.1)
  have e' : (if hq : a < 41 then (hall a hq).choose else 0) = (if hq : b < 41 then (hall b hq).choose else 0) := e
  rw [dif_pos (show a < 41 by omega), dif_pos (show b < 41 by omega)] at e'
  have e1 := (hall a (by omega)).choose_spec.2
  have e2 := (hall b (by omega)).choose_spec.2
  rw [e'] at e1
  rcases e1 with ⟨a4, c1, c2⟩ | ⟨a4, c1⟩
  · rcases e2 with ⟨b4, g1, g2⟩ | ⟨b4, g1⟩
    · have := (nI_eq (by omega) (by omega)).mp (c2.symm.trans g2)
      omega
    · rw [g1, hcx] at c1; exact absurd c1 (by decide)
  · omega
/-- a page of the root that takes an entry behind -/
theorem R_room8 {z : Nat} (h : SF B d s r M) (hO : RO d) (hz : z < 40) (hu : dUnr d z = 0) (h0 : dCells d (z * 13) = nI 1) (h1 : ¬ dCells d (z * 13 + 1) = 0) (h2 : dCells d (z * 13 + 2) = 4) : RMp B d s r (dSet d z 2 8) (rSet r z 2 8) M z 1 := by
  have hR := DRow.set (DRow.refl d z) (show 2 < 13 by decide) 8
  have hO2 := rSet_O r z 2 8
  have hz0 : z ≠ 0 := fun e => by
    subst e
    rcases h.2.2.1.2.1 with q | q
    · exact q hu
    · exact h1 q.2
  have hat : ∀ j k, j < 40 → k < 13 → dCells (dSet d z 2 8) (j * 13 + k) = if j = z ∧ k = 2 then 8 else dCells d (j * 13 + k) := fun j k _ hk => dSet_at (by decide) hk
  have hat0 : ∀ j, j < 40 → dCells (dSet d z 2 8) (j * 13) = dCells d (j * 13) := fun j hj => (hat j 0 hj (by decide)).trans (if_neg (by omega))
  have hat1 : ∀ j, j < 40 → dCells (dSet d z 2 8) (j * 13 + 1) = dCells d (j * 13 + 1) := fun j hj => (hat j 1 hj (by decide)).trans (if_neg (by omega))
  have hS : ∀ sn p, ¬ sn = -1 → xSearch (dSet d z 2 8) sn p = xSearch d sn p := fun sn p hs => S_row hs hR.du hz Iff.rfl
  have en' : ∀ j, j < 40 → j ≠ z → en (dSet d z 2 8) j = en d j := fun j hj hjz => by
    unfold en vN
    rw [hat j 2 hj (by decide), if_neg (fun q => hjz q.1)]
  have enz : en (dSet d z 2 8) z = 2 := by
    unfold en vN
    rw [hat z 2 hz (by decide), if_pos ⟨rfl, rfl⟩]; decide
  have enz0 : en d z = 1 := by
    unfold en vN
    rw [h2]; decide
  refine ⟨⟨?_, h.2.1.set (by decide) (Or.inr ⟨by omega, 8, by show 8 ≤ 8; decide, rfl⟩), ?_, ?_, ?_⟩, hz, by decide, hu, ?_, ?_, by rw [enz]; decide, fun j t' hj uj c0 c1 ht' hne => ?_, ⟨rfl, rfl, rT_kep (rO_T hO2), rT_was (rO_T hO2), UR.row hR hu⟩, rT_rea (rO_T hO2), fun t t1 t2 => hS _ _ (nI_m1 (by omega)), fun y hy hyz k hk => ?_⟩
  · refine h.1.oth (fun j hj k hk q1 q2 => ?_) rfl (oth_bad (rO_oth hO2)) (rO_i hO2)
    rw [hat j k hj hk, rSet_at (by decide) hk]
    by_cases e : j = z ∧ k = 2
    · rw [if_pos e, if_pos e]
    · rw [if_neg e, if_neg e]
      refine h.1.1 j hj k hk (fun q => q1 ?_) q2
      have := hat j 0 hj (by decide)
      rw [if_neg (by omega)] at this
      rw [show dCells (dSet d z 2 8) (j * 13) = _ from this]; exact q
  · exact h.2.2.1.row hR.du (fun _ _ => rfl) (fun q => absurd q hz0) (fun _ _ => Or.inr rfl)
  · refine ⟨fun i j hi hj ui uj c0 c1 c2 => h.2.2.2.1.1 i j hi hj ui uj ?_ ?_ ?_, fun sn s1 s2 => ?_⟩
    · rw [← hat0 i hi]; exact c0
    · rw [← hat0 i hi, ← hat0 j hj]; exact c1
    · rw [← hat1 i hi, ← hat1 j hj]; exact c2
    · obtain ⟨k1, k2, k3, k4, k5, k6, k7⟩ := h.2.2.2.1.2 sn s1 s2
      have hs : ¬ nI sn = -1 := nI_m1 (by omega)
      refine ⟨k1, k2, (congrFun (rT_man (rO_T hO2)) sn).trans k3, ?_, fun p p1 p2 => ?_, fun i hi ui c => ?_, fun p p1 p2 => ?_⟩
      · rw [rT_tab (rO_T hO2), hS _ _ hs]; exact k4
      · rw [rT_tab (rO_T hO2), hS _ _ hs]; exact k5 p p1 p2
      · rw [hat i 1 hi (by decide), if_neg (by omega)]
        exact k6 i hi ui (by rw [← hat0 i hi]; exact c)
      · obtain ⟨i, i1, i2, i3⟩ := k7 p p1 p2
        refine ⟨i, i1, by rw [hS _ _ hs]; exact i2, ?_⟩
        rw [hat i 2 i1 (by decide)]
        by_cases e : i = z ∧ (2 : Nat) = 2
        · rw [if_pos e]
        · rw [if_neg e]; exact i3
  · have hV := h.2.2.2.2
    unfold SV at hV ⊢
    rw [rO_rep hO2, rT_rea (rO_T hO2)]; exact hV
  · exact (hat z 0 hz (by decide)).trans ((if_neg (by omega)).trans h0)
  · rw [hat z 1 hz (by decide), if_neg (by omega)]; exact h1
  · have e0 : dCells (dSet d z 2 8) (j * 13) = dCells d (j * 13) := (hat j 0 hj (by decide)).trans (if_neg (by omega))
    rw [e0] at c0
    rw [hat j 1 hj (by decide), if_neg (by omega)] at c1
    have htj : t' < en d j := by
      by_cases e : j = z
      · subst e
        rw [enz] at ht'
        rw [enz0]
        omega
      · rw [en' j hj e] at ht'; exact ht'
    have ht2 := en_le h.2.1 hj
    unfold OKE
    rw [hat j _ hj (by omega), hat j _ hj (by omega), hat j _ hj (by omega), if_neg (by omega), if_neg (by omega), if_neg (by omega)]
    exact hO j hj uj c0 c1 t' htj
  · rw [hat y k hy hk, if_neg (fun q => hyz q.1)]
end AD4
