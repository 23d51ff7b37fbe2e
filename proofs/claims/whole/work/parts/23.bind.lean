/-! calls whose callee is a partial function -/
def bnd {α β : Type} (r : Option α) (k : α → Option β) : Option β := match r with
  | none => none
  | some a => k a
theorem bnd_some {α β : Type} (a : α) (k : α → Option β) : bnd (some a) k = k a := rfl
section BIND
variable {sc : Nat × (Nat → Int32)} {d w : Nat} {M : mn_M} {pc : Nat} {lo : List (Nat × Value)} {h : List mn_E}
theorem ev_callB {Mc : mn_M} {d1 w1 : Nat} {stk av rest : List Value} {ig : Instr} {τ σ τ2 σ2 : Type} {rc : Option (τ × σ)} {k : τ × σ → Option (τ2 × σ2)} {ou : τ → mn_O} {Hs : σ → List mn_E} {ou2 : τ2 → mn_O} {H2 : σ2 → List mn_E} (hi : mn_inv M Mc pc stk av rest h) (hdg : decode M.2.1 pc = .ok (ig, 3)) (hpl : plainFor Mc.1 = true) (hav : mn_ws av ≤ Mc.2.2.1) (hd1 : d1 + 1 ≤ d) (hw1 : (rest.map fun v => v.category).sum + (Mc.2.2.1 + 11) + w1 ≤ w)
    (hc : Ev sc d1 w1 0 0 Mc 0 (lv_args 0 av) [] h (mapR ou Hs rc)) (hlen : ∀ z, (Hs z).length = h.length) (kr : ∀ v z, rc = some (v, z) → ∃ u, ou v = .inl u ∧ Ev sc d w 0 0 M (pc + 3) lo (u.toList ++ rest) (Hs z) (mapR ou2 H2 (k (v, z)))) : Ev sc d w 0 0 M pc lo stk h (mapR ou2 H2 (bnd rc k)) := by
  cases rc with
  | none => exact ev_none
  | some q =>
    obtain ⟨v, z⟩ := q
    obtain ⟨u, hu, hk⟩ := kr v z rfl
    refine ev_call (o1 := .inl u) (h1 := Hs z) (k1 := 0) (k2 := 0) (n1 := 0) (n2 := 0) hi hdg hpl hav hd1 hw1 rfl rfl ?_ (Or.inl (hlen z)) (fun v' hv => by cases hv; exact hk) (fun y hy => by cases hy)
    have h9 : mapR ou Hs (some (v, z)) = some (.inl u, Hs z) := by
      show some (ou v, Hs z) = _
      rw [hu]
    rw [h9] at hc
    exact hc
theorem ev_callBT {Mc : mn_M} {d1 w1 : Nat} {stk av rest : List Value} {ig : Instr} {τ σ τ2 σ2 : Type} {rc : Option ((Nat ⊕ τ) × σ)} {k : (Nat ⊕ τ) × σ → Option (τ2 × σ2)} {ou : τ → mn_O} {Hs : σ → List mn_E} {ou2 : τ2 → mn_O} {H2 : σ2 → List mn_E} (hi : mn_inv M Mc pc stk av rest h) (hdg : decode M.2.1 pc = .ok (ig, 3)) (hpl : plainFor Mc.1 = true) (hav : mn_ws av ≤ Mc.2.2.1) (hd1 : d1 + 1 ≤ d) (hw1 : (rest.map fun v => v.category).sum + (Mc.2.2.1 + 11) + w1 ≤ w)
    (hc : Ev sc d1 w1 0 0 Mc 0 (lv_args 0 av) [] h (mapR (ouT ou) Hs rc)) (hlen : ∀ z, (Hs z).length = h.length) (hhd : M.2.2.2.2 = []) (kx : ∀ x z, rc = some (.inl x, z) → mapR ou2 H2 (k (.inl x, z)) = some (.inr x, Hs z)) (kr : ∀ v z, rc = some (.inr v, z) → ∃ u, ou v = .inl u ∧ Ev sc d w 0 0 M (pc + 3) lo (u.toList ++ rest) (Hs z) (mapR ou2 H2 (k (.inr v, z)))) : Ev sc d w 0 0 M pc lo stk h (mapR ou2 H2 (bnd rc k)) := by
  cases rc with
  | none => exact ev_none
  | some q =>
    obtain ⟨x | v, z⟩ := q
    · exact ev_call (o1 := .inr x) (h1 := Hs z) (k1 := 0) (k2 := 0) (n1 := 0) (n2 := 0) hi hdg hpl hav hd1 hw1 rfl rfl hc (Or.inl (hlen z)) (fun v hv => by cases hv) (fun y hy => by cases hy; exact ⟨hhd, kx x z rfl⟩)
    · obtain ⟨u, hu, hk⟩ := kr v z rfl
      refine ev_call (o1 := .inl u) (h1 := Hs z) (k1 := 0) (k2 := 0) (n1 := 0) (n2 := 0) hi hdg hpl hav hd1 hw1 rfl rfl ?_ (Or.inl (hlen z)) (fun v' hv => by cases hv; exact hk) (fun y hy => by cases hy)
      have h9 : mapR (ouT ou) Hs (some (.inr v, z)) = some (.inl u, Hs z) := by
        show some (ou v, Hs z) = _
        rw [hu]
      rw [h9] at hc
      exact hc
end BIND
