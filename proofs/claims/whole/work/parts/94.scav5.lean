/-! scavenging: what holds behind the losing -/
/-- no two sectors say the same page of the same file -/
def UNQ (d : DS) : Prop := ∀ i j, i < 40 → j < 40 → dUnr d i = 0 → dUnr d j = 0 → ¬ dCells d (i * 13) = 0 → dCells d (i * 13) = dCells d (j * 13) → dCells d (i * 13 + 1) = dCells d (j * 13 + 1) → i = j
/-- a file with M pages behind its leader -/
def KF (d : DS) (t mn : Nat → Int32) (s M : Nat) : Prop := M ≤ 39 ∧ (s = 2 → M ≤ 1) ∧ mn s = nI M ∧ t (40 * s) = xSearch d (nI s) 0 + 1 ∧ (∀ p, 1 ≤ p → p ≤ M → t (40 * s + p) = xSearch d (nI s) (nI p) + 1 ∧ ¬ xSearch d (nI s) (nI p) = -1) ∧ (∀ i, i < 40 → dUnr d i = 0 → dCells d (i * 13) = nI s → ∃ p, p ≤ M ∧ dCells d (i * 13 + 1) = nI p) ∧ (∀ p, 1 ≤ p → p < M → ∃ i, i < 40 ∧ xSearch d (nI s) (nI p) = nI i ∧ dCells d (i * 13 + 2) = 8)
def KT (d : DS) (r : RS) (M : Nat → Nat) : Prop := UNQ d ∧ ∀ s, 1 ≤ s → s ≤ 60 → KF d (rTab r) (rMan r) s (M s)
section S5
variable {d d0 : DS} {r : RS} {f : FS} {w : WS} {m : MS} {s : SS} {g : GS} {B : Nat}
/-- a search in a volume without doubles -/
theorem U_search (U : UNQ d) {sn p : Int32} {i : Nat} (hs : ¬ sn = -1) (hs0 : ¬ sn = 0) (hi : i < 40) (hu : dUnr d i = 0) (h1 : dCells d (i * 13) = sn) (h2 : dCells d (i * 13 + 1) = p) : xSearch d sn p = nI i := by
  rcases xSearch_spec d sn p hs with ⟨-, q⟩ | ⟨j, j1, j2, j3, j4, j5, -⟩
  · exact absurd ⟨h1, h2⟩ (q i hi hu)
  · rw [j2, U i j hi j1 hu j3 (by rw [h1]; exact hs0) (h1.trans j4.symm) (h2.trans j5.symm)]
theorem U_none {sn p : Int32} (hs : ¬ sn = -1) (h : ∀ i, i < 40 → dUnr d i = 0 → dCells d (i * 13) = sn → ¬ dCells d (i * 13 + 1) = p) : xSearch d sn p = -1 := by
  rcases xSearch_spec d sn p hs with ⟨q, -⟩ | ⟨j, j1, j2, j3, j4, j5, -⟩
  · exact q
  · exact absurd j5 (h j j1 j3 j4)
theorem KF.beyond {t mn : Nat → Int32} {sn M p : Nat} (h : KF d t mn sn M) (hs : sn ≤ 60) (hp : M < p) (hp2 : p < 2 ^ 31) : xSearch d (nI sn) (nI p) = -1 := by
  refine U_none (nI_m1 (by omega)) (fun i hi hu h1 h2 => ?_)
  obtain ⟨q, q1, q2⟩ := h.2.2.2.2.2.1 i hi hu h1
  rw [q2] at h2
  have := (nI_eq (by have := h.1; omega) hp2).mp h2
  omega
theorem alive {M : Nat → Nat} {d1 : DS} (hL : LR d0 M d1 40) (hu : dUnr d1 = dUnr d0) {y : Nat} (hy : y < 40) (hyu : dUnr d1 y = 0) (h0 : ¬ dCells d1 (y * 13) = 0) : kpt d0 M y ∧ ∀ k, k < 13 → dCells d1 (y * 13 + k) = dCells d0 (y * 13 + k) := by
  have hng : ¬ gone d0 M 40 y := fun q => h0 ((hL y hy).1 q 0 (by decide))
  have hrow := (hL y hy).2 hng
  refine ⟨?_, hrow⟩
  apply Classical.byContradiction
  intro z
  exact hng ⟨hy, by rw [← hu]; exact hyu, by rw [← show dCells d1 (y * 13) = dCells d0 (y * 13) from hrow 0 (by decide)]; exact h0, z⟩
theorem kept_row {M : Nat → Nat} {d1 : DS} (hL : LR d0 M d1 40) {y : Nat} (hy : y < 40) (hk : kpt d0 M y) : ∀ k, k < 13 → dCells d1 (y * 13 + k) = dCells d0 (y * 13 + k) := (hL y hy).2 (fun q => q.2.2.2 hk)
theorem KT_of {M : Nat → Nat} {d1 : DS} (I0 : IV B d0) (X0 : IX d0) (hK : ∀ sn, 1 ≤ sn → sn ≤ 60 → KM d0 sn (M sn)) (hL : LR d0 M d1 40) (hu : dUnr d1 = dUnr d0) (hT : ∀ sn, 1 ≤ sn → sn ≤ 60 → TB d0 sn (M sn) (rTab r) (rMan r)) : KT d1 r M ∧ IV B d1 ∧ IX d1 := by
  have hBB := I0.1
  have hU : UNQ d1 := by
    intro i j hi hj ui uj h0 e1 e2
    obtain ⟨⟨sn, p, a1, a2, a3, a4, a5, a6⟩, ri⟩ := alive hL hu hi ui h0
    obtain ⟨⟨sn', p', b1, b2, b3, b4, b5, b6⟩, rj⟩ := alive hL hu hj uj (by rw [← e1]; exact h0)
    have r0 : dCells d1 (i * 13) = dCells d0 (i * 13) := ri 0 (by decide)
    have r0' : dCells d1 (j * 13) = dCells d0 (j * 13) := rj 0 (by decide)
    have es : nI sn = nI sn' := by rw [← a3, ← b3, ← r0, ← r0']; exact e1
    have ep : nI p = nI p' := by rw [← a4, ← b4, ← ri 1 (by decide), ← rj 1 (by decide)]; exact e2
    rw [es, ep, b6] at a6
    exact ((nI_eq (by omega) (by omega)).mp a6).symm
  -- searches
  have hsame : ∀ sn p, 1 ≤ sn → sn ≤ 60 → p ≤ M sn → xSearch d1 (nI sn) (nI p) = xSearch d0 (nI sn) (nI p) := by
    intro sn p s1 s2 hp
    have hs : ¬ nI sn = -1 := nI_m1 (by omega)
    by_cases e : xSearch d0 (nI sn) (nI p) = -1
    · rw [e]
      refine U_none hs (fun i hi ui h1 h2 => ?_)
      obtain ⟨-, ri⟩ := alive hL hu hi ui (by rw [h1]; exact nI_ne0 (by omega) (by omega))
      rcases xSearch_spec d0 (nI sn) (nI p) hs with ⟨-, q⟩ | ⟨j, j1, j2, -⟩
      · exact q i hi (by rw [← hu]; exact ui) ⟨by rw [← show dCells d1 (i * 13) = dCells d0 (i * 13) from ri 0 (by decide)]; exact h1, by rw [← ri 1 (by decide)]; exact h2⟩
      · rw [j2] at e; exact nI_m1 (by omega) e
    · obtain ⟨i, i1, i2, i3, i4, i5⟩ := found hs e
      have hk : kpt d0 M i := ⟨sn, p, s1, s2, i4, i5, hp, i2⟩
      have ri := kept_row hL i1 hk
      rw [i2]
      exact U_search hU hs (nI_ne0 (by omega) (by omega)) i1 (by rw [hu]; exact i3) ((ri 0 (by decide)).trans i4) ((ri 1 (by decide)).trans i5)
  refine ⟨⟨hU, fun sn s1 s2 => ?_⟩, ?_, ?_⟩
  · obtain ⟨k1, k2, k3, k4, k5⟩ := hK sn s1 s2
    obtain ⟨t1, t2, t3⟩ := hT sn s1 s2
    have hs : ¬ nI sn = -1 := nI_m1 (by omega)
    refine ⟨k1, k2, t1, ?_, fun p p1 p2 => ?_, fun i hi ui h1 => ?_, fun p p1 p2 => ?_⟩
    · rw [t2]
      have := hsame sn 0 s1 s2 (Nat.zero_le _)
      rw [show nI 0 = (0 : Int32) from rfl] at this
      rw [this]
    · rw [hsame sn p s1 s2 p2]; exact ⟨t3 p p1 p2, k3 p p1 p2⟩
    · obtain ⟨⟨sn', p', a1, a2, a3, a4, a5, a6⟩, ri⟩ := alive hL hu hi ui (by rw [h1]; exact nI_ne0 (by omega) (by omega))
      have e1 : nI sn' = nI sn := by rw [← a3, ← show dCells d1 (i * 13) = dCells d0 (i * 13) from ri 0 (by decide)]; exact h1
      have e2 := (nI_eq (by omega) (by omega)).mp e1
      subst e2
      exact ⟨p', a5, (ri 1 (by decide)).trans a4⟩
    · rw [hsame sn p s1 s2 (by omega)]
      obtain ⟨i, i1, i2, i3, i4, i5⟩ := found hs (k3 p p1 (by omega))
      have ri := kept_row hL i1 ⟨sn, p, s1, s2, i4, i5, by omega, i2⟩
      refine ⟨i, i1, i2, ?_⟩
      rw [ri 2 (by decide)]
      have h8 := k4 p p1 p2
      rw [i2, xc2 i1 i3] at h8
      obtain ⟨n, n1, n2⟩ := I0.useN i1
      rw [n2] at h8 ⊢
      have := (nI_leI (a := 8) (by decide) (by omega)).mp h8
      rw [show n = 8 by omega]; rfl
  · refine IV.of_ok hBB (fun y hy => by rw [hu]; exact (I0.2 y hy).1) (fun y hy k hk => ?_)
    by_cases z : gone d0 M 40 y
    · rw [(hL y hy).1 z k hk]
      by_cases k3 : k = 3 ∨ k = 4
      · exact Or.inl ⟨k3, Or.inl (by unfold eV; rw [if_pos k3])⟩
      · exact Or.inr ⟨k3, 0, Nat.zero_le _, by unfold eV; rw [if_neg k3]; rfl⟩
    · rw [(hL y hy).2 z k hk]; exact vOK_of I0 hy hk
  · refine ⟨fun y hy => ?_, ?_, fun y hy => ?_⟩
    rotate_left 2
    · by_cases z : gone d0 M 40 y
      · intro q
        rw [show dCells d1 (y * 13) = 0 from (hL y hy).1 z 0 (by decide)] at q
        exact absurd q (by decide)
      · have e0 : dCells d1 (y * 13) = dCells d0 (y * 13) := (hL y hy).2 z 0 (by decide)
        rw [e0, (hL y hy).2 z 1 (by decide), (hL y hy).2 z 2 (by decide)]; exact X0.2.2 y hy
    · by_cases z : gone d0 M 40 y
      · intro q; exact absurd ((hL y hy).1 z 0 (by decide)) q
      · have e0 : dCells d1 (y * 13) = dCells d0 (y * 13) := (hL y hy).2 z 0 (by decide)
        rw [e0, (hL y hy).2 z 1 (by decide), (hL y hy).2 z 2 (by decide)]; exact X0.1 y hy
    · rcases X0.2.1 with q | ⟨q1, q2⟩
      · exact Or.inl (by rw [hu]; exact q)
      · by_cases u0 : dUnr d0 0 = 0
        · have hk : kpt d0 M 0 := by
            refine ⟨1, 0, Nat.le_refl _, by omega, q1, q2, Nat.zero_le _, ?_⟩
            rcases xSearch_spec d0 (nI 1) (nI 0) (by decide) with ⟨-, z⟩ | ⟨j, j1, j2, j3, j4, j5, j6⟩
            · exact absurd ⟨q1, q2⟩ (z 0 (by decide) u0)
            · rcases Nat.eq_zero_or_pos j with e | e
              · rw [j2, e]
              · exact absurd ⟨q1, q2⟩ (j6 0 e u0)
          have ri := kept_row hL (show 0 < 40 by decide) hk
          exact Or.inr ⟨(ri 0 (by decide)).trans q1, (ri 1 (by decide)).trans q2⟩
        · exact Or.inl (by rw [hu]; exact u0)
end S5
