/-! the start: a fresh volume and a fresh reference are alike -/
def c1 (m n : Nat) : Int32 := if n < m * 13 ∧ (n % 13 = 3 ∨ n % 13 = 4) then -1 else 0
theorem c_far {d : DS} {a b v : Int32} {n : Nat} (hn : 520 ≤ n) : dCells (xSetCell d a b v) n = dCells d n := by
  unfold xSetCell
  by_cases h : cok d a b
  · rw [if_pos h]
    obtain ⟨h1, h2, h3, h4, -⟩ := h
    show upd (dCells d) _ v n = _
    unfold upd
    have ha : a.toNatClampNeg < 40 := by
      rcases i40 a with hx | ⟨i, hi, rfl⟩
      · exact absurd hx (fun q => q.elim h1 h2)
      · rw [cl_nI (by omega)]; exact hi
    have hb : b.toNatClampNeg < 13 := by
      rcases pk_ix b (n := 13) (by decide) with hx | hx | ⟨i, hi, rfl⟩
      · exact absurd hx h3
      · exact absurd hx h4
      · rw [cl_nI (by omega)]; exact hi
    exact if_neg (by omega)
  · rw [if_neg h]
theorem e_far {d : DS} {a : Int32} {n : Nat} (hn : 520 ≤ n) : dCells (xErase d a) n = dCells d n := by
  unfold xErase
  rw [c_far hn, c_far hn]
  exact itF_inv (f := fun k z => xSetCell z a (nI k) 0) (fun _ z => dCells z n = dCells d n) 13 0 d rfl (fun j z _ _ h => (c_far hn).trans h)
theorem e_all : itF (fun i z => xErase z (nI i)) 0 40 dB = (c1 40, dB.2) := by
  have h := itF_inv (f := fun i z => xErase z (nI i)) (fun m z => z = (c1 m, dB.2)) 40 0 dB rfl (fun j z _ hj h => by
    subst h
    obtain ⟨e1, e2⟩ := C_erase (d := (c1 j, dB.2)) (i := j) (by omega) rfl
    refine Prod.ext (funext fun n => ?_) e2
    show dCells (xErase (c1 j, dB.2) (nI j)) n = c1 (j + 1) n
    by_cases hn : n < 520
    · have h9 := e1 (n / 13) (by omega) (n % 13) (by omega)
      rw [show n / 13 * 13 + n % 13 = n by omega] at h9
      rw [h9]
      unfold c1 eV
      by_cases h1 : n / 13 = j
      · rw [if_pos h1]
        by_cases h2 : n % 13 = 3 ∨ n % 13 = 4
        · rw [if_pos h2, if_pos ⟨by omega, h2⟩]
        · rw [if_neg h2, if_neg (fun q => h2 q.2)]
      · rw [if_neg h1]
        show (if n < j * 13 ∧ (n % 13 = 3 ∨ n % 13 = 4) then (-1 : Int32) else 0) = _
        by_cases h2 : n < j * 13 ∧ (n % 13 = 3 ∨ n % 13 = 4)
        · rw [if_pos h2, if_pos ⟨by omega, h2.2⟩]
        · rw [if_neg h2, if_neg (fun q => h2 ⟨by omega, q.2⟩)]
    · rw [e_far (by omega)]
      show c1 j n = c1 (j + 1) n
      unfold c1
      rw [if_neg (fun q => by omega), if_neg (fun q => by omega)])
  exact h
def dI : DS := xFmtTail (c1 40, dB.2)
theorem dF_eq : dF = dI := congrArg xFmtTail e_all
def rI : RS := match f_Mod_init_147 rB with
  | some (_, r) => r
  | none => rB
theorem rI_eq : f_Mod_init_147 rB = some ((), rI) := by
  have h : (f_Mod_init_147 rB).isSome = true := by decide +kernel
  unfold rI
  cases hh : f_Mod_init_147 rB with
  | none => rw [hh] at h; cases h
  | some q => rfl
theorem b_cells : ∀ i, i < 40 → ∀ k, k < 13 → dCells dI (i * 13 + k) = rC rI i k := by decide +kernel
theorem b_unr : ∀ i, i < 40 → dUnr dI i = rBad rI i := by decide +kernel
theorem b_rest : dMis dI = rMis rI ∧ dWri dI = rWri rI ∧ dChg dI = rLef rI ∧ (dPow dI = 1 ∧ rDar rI = 0) := by decide +kernel
theorem b_rem : ∀ s, s < 61 → fRem fB s = -1 ∧ rKep rI s = 0 := by decide +kernel
theorem b_iv0 : ∀ i, i < 40 → dUnr dI i = 0 := by decide +kernel
theorem b_iv1 : ∀ i, i < 40 → ∀ k, k < 13 → (k = 3 ∨ k = 4 ∨ (dCells dI (i * 13 + k) = nI (vN dI i k) ∧ vN dI i k ≤ mxK 40 k)) := by decide +kernel
theorem b_iv2 : ∀ i, i < 40 → ∀ k, k < 5 → (k < 3 ∨ (dCells dI (i * 13 + k) = -1 ∨ (dCells dI (i * 13 + k) = nI (vN dI i k) ∧ vN dI i k < 40))) := by decide +kernel
theorem b_ix : (∀ i, i < 40 → ¬ dCells dI (i * 13) = 0 → dCells dI (i * 13 + 1) = 0 → dCells dI (i * 13 + 2) = 8) ∧ (¬ dUnr dI 0 = 0 ∨ (dCells dI 0 = 1 ∧ dCells dI 1 = 0)) ∧ (∀ i, i < 40 → dCells dI (i * 13) = 1 → ¬ dCells dI (i * 13 + 1) = 0 → dCells dI (i * 13 + 2) = 4 ∨ dCells dI (i * 13 + 2) = 8) := by decide +kernel
theorem b_res : ∀ k, k < 5 → sRes sB k = rRep rI k := by decide +kernel
theorem RL_begin : RL 40 dF fB sB rI := by
  rw [dF_eq]
  refine ⟨⟨b_cells, b_unr, b_rest.1, b_rest.2.1, b_rest.2.2.1, Or.inl b_rest.2.2.2⟩, fun s h1 h2 => ?_, ⟨by decide, fun i hi => ⟨Or.inl (b_iv0 i hi), fun k hk h3 h4 => ((b_iv1 i hi k hk).resolve_left h3).resolve_left h4, fun k hk => (b_iv2 i hi k (by omega)).resolve_left (by omega)⟩⟩, fun s h1 h2 => Or.inl (b_rem s (by omega)).1, b_ix, b_res⟩
  rw [(b_rem s (by omega)).1, (b_rem s (by omega)).2]
  decide
theorem lw_pure_holds : lw_pure := by
  intro sc hs
  obtain ⟨z, hz⟩ := law_run hs 600 0 dF fB wB mB sB gB rI (fun _ => 0) rfl (by omega) RL_begin
  exact ⟨rI, z, rI_eq, hz⟩
