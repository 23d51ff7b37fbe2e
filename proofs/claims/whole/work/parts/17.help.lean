/-! words of the printed functions -/
def ouI (v : Int32) : mn_O := .inl (some (.int v))
def ouJ (v : Int64) : mn_O := .inl (some (.long v))
def ouV (_ : Unit) : mn_O := .inl none
def ouT {τ : Type} (ou : τ → mn_O) (q : Nat ⊕ τ) : mn_O := match q with
  | .inl x => .inr x
  | .inr v => ou v
abbrev ouIT : Nat ⊕ Int32 → mn_O := ouT ouI
abbrev ouJT : Nat ⊕ Int64 → mn_O := ouT ouJ
abbrev ouVT : Nat ⊕ Unit → mn_O := ouT ouV
def mapR {τ σ : Type} (ou : τ → mn_O) (H : σ → List mn_E) (r : Option (τ × σ)) : mn_R := match r with
  | none => none
  | some q => some (ou q.1, H q.2)
def mapT {τ σ : Type} (ou : τ → mn_O) (H : σ → List mn_E) (q : τ × σ) : mn_R := some (ou q.1, H q.2)
theorem mapR_some {τ σ : Type} {ou : τ → mn_O} {H : σ → List mn_E} {r : Option (τ × σ)} {q : τ × σ} (h : r = some q) : mapR ou H r = mapT ou H q := by rw [h]; rfl
def thM {τ σ ρ : Type} (q : (Nat ⊕ τ) × σ) (a : Nat → σ → ρ) (b : τ → σ → ρ) : ρ := match q with
  | (.inl x, z) => a x z
  | (.inr v, z) => b v z
abbrev inB (i : Int32) (n : Nat) : Prop := 0 ≤ i ∧ i.toNatClampNeg < n
theorem inB_of {i : Int32} {n : Nat} (h : inB i n) : vp_in i n := by
  intro q
  rcases q with q | q
  · exact absurd h.1 (Int32.not_le.mpr q)
  · have := h.2
    omega
theorem inB_iff {i : Int32} {n : Nat} : inB i n ↔ vp_in i n := ⟨inB_of, fun h => ⟨Int32.not_lt.mp (fun q => h (Or.inl q)), by
  have : ¬ n ≤ i.toNatClampNeg := fun q => h (Or.inr q)
  omega⟩⟩
theorem mn_narZ (v : Int32) : narrow .boolean (.int v) = .int (vp_nar .boolean v) := rfl
section HELP
variable {sc : Nat × (Nat → Int32)} {d w k n : Nat} {M : mn_M} {pc : Nat} {lo : List (Nat × Value)} {st : List Value} {h : List mn_E} {r : mn_R}
theorem ev_zretN {v : Int32} (hr0 : M.2.2.2.1 = some .boolean) (hd : decode M.2.1 pc = .ok (.ireturn, 1)) : Ev sc d w 0 0 M pc lo [.int v] h (some (.inl (some (.int (vp_nar .boolean v))), h)) := by
  intro o h' hr G hG p l e R s m args below meth c H locs cells slots ls ad hC hR hI hl
  cases hr
  have hlocks : meth.locks = false := hC.2.2.2.2.2.2.1
  have hrt : meth.sig.returnType = some .boolean := by rw [hC.2.2.2.1]; exact hr0
  intro T hT X
  obtain ⟨fs, hret, hrun, hended, hW, hframe⟩ := X.leave (v := some (.int (vp_nar .boolean v))) (hlocks := hlocks) (fun h => by rw [hrt] at h; cases h)
  have hmeth' : T.vm.method? m = some meth := X.method'
  have hb : c.code = M.2.1 := hC.2.1
  have hexec := hC.1
  refine ⟨T.setFrames fs, ?_, .returned (some (.int (vp_nar .boolean v))), ad, locs, hrun, hended, rfl, Nat.le_refl _, fun _ _ => rfl, ?_, hW, hframe⟩
  · show Steps p.tables e below (T.setTop (F0 m pc ls [.int v])) _
    jvm_step X.here [X.here.top, hexec, hb, hd, hmeth', hrt, mn_narZ]
    (try refine ⟨rfl, ?_⟩); (try refine ⟨rfl, ?_⟩)
    first | (intro acts; rw [hret _ acts rfl rfl rfl]) | rw [hret _ _ rfl rfl rfl]
    exact Steps.refl _
  · have : (T.setFrames fs).heap = H := hT
    rw [this]
    exact hI
theorem ev_inB {τ σ : Type} {ou : τ → mn_O} {Hs : σ → List mn_E} {i : Int32} {N : Nat} [Decidable (inB i N)] {a : Option (τ × σ)} (kk : inB i N → Ev sc d w k n M pc lo st h (mapR ou Hs a)) : Ev sc d w k n M pc lo st h (mapR ou Hs (if inB i N then a else none)) := by
  by_cases hc : inB i N
  · rw [if_pos hc]; exact kk hc
  · rw [if_neg hc]; exact ev_none
theorem ev_callT {Mc : mn_M} {d1 w1 : Nat} {stk av rest : List Value} {ig : Instr} {τ σ : Type} {q : (Nat ⊕ τ) × σ} {ou : τ → mn_O} {Hs : σ → List mn_E} (hi : mn_inv M Mc pc stk av rest h) (hdg : decode M.2.1 pc = .ok (ig, 3)) (hpl : plainFor Mc.1 = true) (hav : mn_ws av ≤ Mc.2.2.1) (hd1 : d1 + 1 ≤ d) (hw1 : (rest.map fun v => v.category).sum + (Mc.2.2.1 + 11) + w1 ≤ w)
    (hc : Ev sc d1 w1 0 0 Mc 0 (lv_args 0 av) [] h (mapT (ouT ou) Hs q)) (hlen : ∀ z, (Hs z).length = h.length) (hhd : M.2.2.2.2 = []) (kx : ∀ x z, q = (.inl x, z) → r = some (.inr x, Hs z)) (kr : ∀ v z, q = (.inr v, z) → ∃ u, ou v = .inl u ∧ Ev sc d w 0 0 M (pc + 3) lo (u.toList ++ rest) (Hs z) r) : Ev sc d w 0 0 M pc lo stk h r := by
  obtain ⟨x | v, z⟩ := q
  · exact ev_call (o1 := .inr x) (h1 := Hs z) (k1 := 0) (k2 := 0) (n1 := 0) (n2 := 0) hi hdg hpl hav hd1 hw1 rfl rfl hc (Or.inl (hlen z)) (fun v hv => by cases hv) (fun y hy => by cases hy; exact ⟨hhd, kx x z rfl⟩)
  · obtain ⟨u, hu, hk⟩ := kr v z rfl
    refine ev_call (o1 := .inl u) (h1 := Hs z) (k1 := 0) (k2 := 0) (n1 := 0) (n2 := 0) hi hdg hpl hav hd1 hw1 rfl rfl ?_ (Or.inl (hlen z)) (fun v' hv => by cases hv; exact hk) (fun y hy => by cases hy)
    have h9 : mapT (ouT ou) Hs (.inr v, z) = some (.inl u, Hs z) := by
      show some (ou v, Hs z) = _
      rw [hu]
    rw [h9] at hc
    exact hc
end HELP
theorem tb_out5 {x : Int32} (h0 : ¬ x = 0) (h1 : ¬ x = 1) (h2 : ¬ x = 2) (h3 : ¬ x = 3) (h4 : ¬ x = 4) : x.toInt < 0 ∨ 4 < x.toInt := by
  have e : ∀ k : Int32, ¬ x = k → ¬ x.toInt = k.toInt := fun k hk q => hk (Int32.toInt_inj.mp q)
  have a0 := e 0 h0; have a1 := e 1 h1; have a2 := e 2 h2; have a3 := e 3 h3; have a4 := e 4 h4
  have b0 : (0 : Int32).toInt = 0 := rfl
  have b1 : (1 : Int32).toInt = 1 := rfl
  have b2 : (2 : Int32).toInt = 2 := rfl
  have b3 : (3 : Int32).toInt = 3 := rfl
  have b4 : (4 : Int32).toInt = 4 := rfl
  omega
