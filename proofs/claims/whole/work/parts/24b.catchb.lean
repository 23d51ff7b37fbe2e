/-! a call inside a try, its callee a partial function -/
def ctab (l : List (Nat × Int32)) (x : Nat) : Option Int32 := match l with
  | [] => none
  | q :: r => if x = q.1 then some q.2 else ctab r x
section CB
variable {sc : Nat × (Nat → Int32)} {d w : Nat} {M : mn_M} {pc : Nat} {lo : List (Nat × Value)} {h : List mn_E}
theorem ev_callCB {Mc : mn_M} {d1 w1 en : Nat} {stk av rest : List Value} {ig : Instr} {τ σ τ2 σ2 : Type} {rc : Option ((Nat ⊕ τ) × σ)} {kf : (Nat ⊕ τ) × σ → Option (τ2 × σ2)} {ou : τ → mn_O} {Hs : σ → List mn_E} {ou2 : τ2 → mn_O} {H2 : σ2 → List mn_E} (hs : List mn_H) (hhs : M.2.2.2.2 = hs.map (fun q => (0, en, q.2.1, q.1))) (hen : pc < en) (hwd : ∀ q ∈ hs, q.1 ≠ 0 ∧ (1 ≤ q.2.2 ∧ q.2.2 ≤ 5) ∧ Cond.classLink M.1.cls q.1 (gd_ex q.2.2) ∈ gd_tb) (hcs : ∀ y, 1 ≤ y → y ≤ 5 → Cond.castable (gd_ex y) (gd_ex y) ∈ gd_tb)
    (hi : mn_inv M Mc pc stk av rest h) (hdg : decode M.2.1 pc = .ok (ig, 3)) (hpl : plainFor Mc.1 = true) (hav : mn_ws av ≤ Mc.2.2.1) (hd1 : d1 + 1 ≤ d) (hw1 : (rest.map fun v => v.category).sum + (Mc.2.2.1 + 11) + w1 ≤ w)
    (hc : Ev sc d1 w1 0 0 Mc 0 (lv_args 0 av) [] h (mapR (ouT ou) Hs rc)) (hlen : ∀ z, (Hs z).length = h.length)
    (kx : ∀ x z, rc = some (.inl x, z) → kf (.inl x, z) = none ∨ ((1 ≤ x ∧ x ≤ 5) ∧ ∃ hpc j ln, mn_pick hs x = some hpc ∧ mn_as M hpc j ln ∧ Ev sc d w 0 0 M (hpc + ln) [] [] (Hs z) (mapR ou2 H2 (kf (.inl x, z)))))
    (kr : ∀ v z, rc = some (.inr v, z) → ∃ u, ou v = .inl u ∧ Ev sc d w 0 0 M (pc + 3) lo (u.toList ++ rest) (Hs z) (mapR ou2 H2 (kf (.inr v, z)))) : Ev sc d w 1 6 M pc lo stk h (mapR ou2 H2 (bnd rc kf)) := by
  cases rc with
  | none => exact ev_none
  | some q =>
    obtain ⟨x | v, z⟩ := q
    · rcases kx x z rfl with hn | ⟨hx, hk⟩
      · show Ev sc d w 1 6 M pc lo stk h (mapR ou2 H2 (kf (.inl x, z)))
        rw [hn]
        exact ev_none
      · exact ev_callC (o1 := .inr x) (h1 := Hs z) (k1 := 0) (k2 := 0) (n1 := 0) (n2 := 0) hs hhs hen hwd hcs hi hdg hpl hav hd1 hw1 (Nat.le_refl _) (Nat.le_refl _) hc (Or.inl (hlen z)) (fun v hv => by cases hv) (fun y hy => by cases hy; exact ⟨hx, hk⟩)
    · obtain ⟨u, hu, hk⟩ := kr v z rfl
      refine ev_callC (o1 := .inl u) (h1 := Hs z) (k1 := 0) (k2 := 0) (n1 := 0) (n2 := 0) hs hhs hen hwd hcs hi hdg hpl hav hd1 hw1 (Nat.le_refl _) (Nat.le_refl _) ?_ (Or.inl (hlen z)) (fun v' hv => by cases hv; exact hk) (fun y hy => by cases hy)
      have h9 : mapR (ouT ou) Hs (some (.inr v, z)) = some (.inl u, Hs z) := by
        show some (ou v, Hs z) = _
        rw [hu]
      rw [h9] at hc
      exact hc
end CB
theorem gd_cs : ∀ y, 1 ≤ y → y ≤ 5 → Cond.castable (gd_ex y) (gd_ex y) ∈ gd_tb := by
  intro y h1 h2
  have : y = 1 ∨ y = 2 ∨ y = 3 ∨ y = 4 ∨ y = 5 := by omega
  rcases this with rfl | rfl | rfl | rfl | rfl
  · exact gw_582
  · exact gw_664
  · exact gw_680
  · exact gw_717
  · exact gw_882
