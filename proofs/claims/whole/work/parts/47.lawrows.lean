/-! the law's own rows: the array of answers; calls that cost cells -/
abbrev OS : Type := Nat → Int64
def HO (z : OS) (tl : List mn_E) : List mn_E := .inl (2, 1, .inr (.inl z)) :: tl
theorem lenHO {z y : OS} {a b : List mn_E} (h : a.length = b.length) : (HO z a).length = (HO y b).length := congrArg (· + 1) h
abbrev oOut (z : OS) : OS := z
abbrev oSOut (_ : OS) (v : OS) : OS := v
abbrev M_Law_law : mn_M := (⟨"LabelledVolumeLaw", "law", "([I)Z"⟩, code, maxLocals, ret, [])
section LAWR
variable {sc : Nat × (Nat → Int32)} {d w k n : Nat} {M : mn_M} {pc : Nat} {lo : List (Nat × Value)} {h : List mn_E}
theorem ev_callBK {Mc : mn_M} {d1 w1 k1 n1 k2 n2 : Nat} {stk av rest : List Value} {ig : Instr} {τ σ τ2 σ2 : Type} {rc : Option (τ × σ)} {kf : τ × σ → Option (τ2 × σ2)} {ou : τ → mn_O} {Hs : σ → List mn_E} {ou2 : τ2 → mn_O} {H2 : σ2 → List mn_E} (hi : mn_inv M Mc pc stk av rest h) (hdg : decode M.2.1 pc = .ok (ig, 3)) (hpl : plainFor Mc.1 = true) (hav : mn_ws av ≤ Mc.2.2.1) (hd1 : d1 + 1 ≤ d) (hw1 : (rest.map fun v => v.category).sum + (Mc.2.2.1 + 11) + w1 ≤ w) (hk : k1 + k2 = k) (hn : n1 + n2 = n)
    (hc : Ev sc d1 w1 k1 n1 Mc 0 (lv_args 0 av) [] h (mapR ou Hs rc)) (hlen : ∀ z, (Hs z).length = h.length) (kr : ∀ v z, rc = some (v, z) → ∃ u, ou v = .inl u ∧ Ev sc d w k2 n2 M (pc + 3) lo (u.toList ++ rest) (Hs z) (mapR ou2 H2 (kf (v, z)))) : Ev sc d w k n M pc lo stk h (mapR ou2 H2 (bnd rc kf)) := by
  cases rc with
  | none => exact ev_none
  | some q =>
    obtain ⟨v, z⟩ := q
    obtain ⟨u, hu, hkk⟩ := kr v z rfl
    refine ev_call (o1 := .inl u) (h1 := Hs z) (k1 := k1) (k2 := k2) (n1 := n1) (n2 := n2) hi hdg hpl hav hd1 hw1 hk hn ?_ (Or.inl (hlen z)) (fun v' hv => by cases hv; exact hkk) (fun y hy => by cases hy)
    have h9 : mapR ou Hs (some (v, z)) = some (.inl u, Hs z) := by
      show some (ou v, Hs z) = _
      rw [hu]
    rw [h9] at hc
    exact hc
end LAWR
theorem tb_out17 {x : Int32} (h0 : ¬ x = 0) (h1 : ¬ x = 1) (h2 : ¬ x = 2) (h3 : ¬ x = 3) (h4 : ¬ x = 4) (h5 : ¬ x = 5) (h6 : ¬ x = 6) (h7 : ¬ x = 7) (h8 : ¬ x = 8) (h9 : ¬ x = 9) (h10 : ¬ x = 10) (h11 : ¬ x = 11) (h12 : ¬ x = 12) (h13 : ¬ x = 13) (h14 : ¬ x = 14) (h15 : ¬ x = 15) (h16 : ¬ x = 16) : x.toInt < 0 ∨ 16 < x.toInt := by
  have e : ∀ (k : Int32) (i : Int), k.toInt = i → ¬ x = k → ¬ x.toInt = i := fun k i hi hk q => hk (Int32.toInt_inj.mp (by rw [hi]; exact q))
  have a0 := e 0 0 rfl h0; have a1 := e 1 1 rfl h1; have a2 := e 2 2 rfl h2; have a3 := e 3 3 rfl h3; have a4 := e 4 4 rfl h4; have a5 := e 5 5 rfl h5
  have a6 := e 6 6 rfl h6; have a7 := e 7 7 rfl h7; have a8 := e 8 8 rfl h8; have a9 := e 9 9 rfl h9; have a10 := e 10 10 rfl h10; have a11 := e 11 11 rfl h11
  have a12 := e 12 12 rfl h12; have a13 := e 13 13 rfl h13; have a14 := e 14 14 rfl h14; have a15 := e 15 15 rfl h15; have a16 := e 16 16 rfl h16
  omega
