/-! scavenging: what was there before -/
theorem was_was (r : RS) (A B : Nat → Int32) : rSWas (rSWas r A) B = rSWas r B := S_Was_Was r A B
theorem rep_rep (r : RS) (A B : Nat → Int32) : rSRep (rSRep r A) B = rSRep r B := S_Rep_Rep r A B
theorem was_self (r : RS) : rSWas r (rWas r) = r := S_Was_id r
theorem rep_self (r : RS) : rSRep r (rRep r) = r := S_Rep_id r
/-- where the reference keeps what a cell was -/
def wIx (i k : Nat) : Nat := if k < 5 then 40 * k + i else 200 + (8 * i + (k - 5))
theorem wIx_inj {i k i' k' : Nat} (hi : i < 40) (hk : k < 13) (hi' : i' < 40) (hk' : k' < 13) (h : wIx i k = wIx i' k') : i = i' ∧ k = k' := by
  unfold wIx at h
  by_cases a : k < 5
  · rw [if_pos a] at h
    by_cases b : k' < 5
    · rw [if_pos b] at h; omega
    · rw [if_neg b] at h; omega
  · rw [if_neg a] at h
    by_cases b : k' < 5
    · rw [if_pos b] at h; omega
    · rw [if_neg b] at h; omega
section S2
variable {d : DS} {r : RS} {f : FS} {w : WS} {m : MS} {s : SS} {g : GS} {B : Nat}
theorem nI_off {a i : Nat} (A : Int32) (hA : A = nI a := by rfl) : (A + nI i : Int32) = nI (a + i) := by rw [hA, nI_add]
theorem R_rem89 (r : RS) : ∀ j b, b + j = 320 → ∀ n, j < n → ∀ W, ∃ W', L_Mod_remember_89 n (rSWas r W) (nI b) = some ((), rSWas r W') ∧ (∀ a, a < 200 + b → W' a = W a) ∧ (∀ q, b ≤ q → q < 320 → W' (200 + q) = rByt r q) := by
  intro j
  induction j with
  | zero =>
    intro b hb n hn W
    obtain ⟨c, rfl⟩ : ∃ c, n = c + 1 := ⟨n - 1, by omega⟩
    obtain rfl : b = 320 := by omega
    rw [L_Mod_remember_89, if_pos (gy 320 (N := 320))]
    exact ⟨W, rfl, fun _ _ => rfl, fun q q1 q2 => absurd q2 (by omega)⟩
  | succ j ih =>
    intro b hb n hn W
    obtain ⟨c, rfl⟩ : ∃ c, n = c + 1 := ⟨n - 1, by omega⟩
    rw [L_Mod_remember_89, if_neg (gn 320 (N := 320) (by omega)), if_pos (inB_nI (show b < 320 by omega) (by decide)), nI_off (a := 200) 200, if_pos (inB_nI (show 200 + b < 600 by omega) (by decide)), cl_nI (by omega), cl_nI (by omega)]
    unfold B_Mod_remember_112
    rw [nI_1, was_was, Was_Was, Byt_Was]
    obtain ⟨W', a1, a2, a3⟩ := ih (b + 1) (by omega) c (by omega) (upd W (200 + b) (rByt r b))
    refine ⟨W', a1, fun a ha => ?_, fun q q1 q2 => ?_⟩
    · rw [a2 a (by omega), pk_un (by omega)]
    · by_cases e : q = b
      · rw [e, a2 _ (by omega), pk_us]
      · exact a3 q (by omega) q2
theorem R_rem2 (r : RS) : ∀ j x, x + j = 40 → ∀ n, j < n → ∀ W, (∀ i, i < x → ∀ k, k < 5 → W (wIx i k) = rC r i k) → ∃ W', L_Mod_remember_2 n (rSWas r W) (nI x) = some ((), rSWas r W') ∧ ∀ i, i < 40 → ∀ k, k < 13 → W' (wIx i k) = rC r i k := by
  intro j
  induction j with
  | zero =>
    intro x hx n hn W hW
    obtain ⟨c, rfl⟩ : ∃ c, n = c + 1 := ⟨n - 1, by omega⟩
    obtain rfl : x = 40 := by omega
    rw [L_Mod_remember_2, if_pos (gy 40 (N := 40))]
    obtain ⟨W', a1, a2, a3⟩ := R_rem89 r 320 0 rfl 1000 (by decide) W
    refine ⟨W', a1, fun i hi k hk => ?_⟩
    by_cases k5 : k < 5
    · rw [a2 _ (by unfold wIx; rw [if_pos k5]; omega)]; exact hW i hi k k5
    · unfold wIx
      rw [if_neg k5, a3 _ (by omega) (by omega), ← rC_byt, show 5 + (k - 5) = k by omega]
  | succ j ih =>
    intro x hx n hn W hW
    obtain ⟨c, rfl⟩ : ∃ c, n = c + 1 := ⟨n - 1, by omega⟩
    have hx4 : x < 40 := by omega
    have b0 : inB (nI x) 40 := inB_nI hx4 (by decide)
    have b6 : inB (nI x) 600 := inB_nI (by omega) (by decide)
    have cx : (nI x).toNatClampNeg = x := cl_nI (by omega)
    rw [L_Mod_remember_2, if_neg (gn 40 hx4), if_pos b0, if_pos b6, cx]
    unfold B_Mod_remember_20
    rw [if_pos b0, nI_off (a := 40) 40, if_pos (inB_nI (show 40 + x < 600 by omega) (by decide)), cl_nI (by omega), cx, was_was]
    unfold B_Mod_remember_35
    rw [if_pos b0, nI_off (a := 80) 80, if_pos (inB_nI (show 80 + x < 600 by omega) (by decide)), cl_nI (by omega), cx, was_was]
    unfold B_Mod_remember_50
    rw [if_pos b0, nI_off (a := 120) 120, if_pos (inB_nI (show 120 + x < 600 by omega) (by decide)), cl_nI (by omega), cx, was_was]
    unfold B_Mod_remember_65
    rw [if_pos b0, nI_off (a := 160) 160, if_pos (inB_nI (show 160 + x < 600 by omega) (by decide)), cl_nI (by omega), cx, was_was]
    unfold B_Mod_remember_81
    rw [nI_1]
    simp only [Was_Was, Ser_Was, Pag_Was, Use_Was, Nex_Was, Bef_Was]
    show ∃ W', L_Mod_remember_2 c (rSWas r (upd (upd (upd (upd (upd W x (rSer r x)) (40 + x) (rPag r x)) (80 + x) (rUse r x)) (120 + x) (rNex r x)) (160 + x) (rBef r x))) (nI (x + 1)) = _ ∧ _
    refine ih (x + 1) (by omega) c (by omega) _ (fun i hi k hk => ?_)
    unfold wIx
    rw [if_pos hk]
    rcases (show k = 0 ∨ k = 1 ∨ k = 2 ∨ k = 3 ∨ k = 4 by omega) with rfl | rfl | rfl | rfl | rfl
    all_goals by_cases e : i = x
    · subst e; rw [pk_un (by omega), pk_un (by omega), pk_un (by omega), pk_un (by omega), show 40 * 0 + i = i by omega, pk_us]; rfl
    · rw [pk_un (by omega), pk_un (by omega), pk_un (by omega), pk_un (by omega), pk_un (by omega)]
      have := hW i (by omega) 0 (by omega); unfold wIx at this; rw [if_pos (by decide)] at this; exact this
    · subst e; rw [pk_un (by omega), pk_un (by omega), pk_un (by omega), show 40 * 1 + i = 40 + i by omega, pk_us]; rfl
    · rw [pk_un (by omega), pk_un (by omega), pk_un (by omega), pk_un (by omega), pk_un (by omega)]
      have := hW i (by omega) 1 (by omega); unfold wIx at this; rw [if_pos (by decide)] at this; exact this
    · subst e; rw [pk_un (by omega), pk_un (by omega), show 40 * 2 + i = 80 + i by omega, pk_us]; rfl
    · rw [pk_un (by omega), pk_un (by omega), pk_un (by omega), pk_un (by omega), pk_un (by omega)]
      have := hW i (by omega) 2 (by omega); unfold wIx at this; rw [if_pos (by decide)] at this; exact this
    · subst e; rw [pk_un (by omega), show 40 * 3 + i = 120 + i by omega, pk_us]; rfl
    · rw [pk_un (by omega), pk_un (by omega), pk_un (by omega), pk_un (by omega), pk_un (by omega)]
      have := hW i (by omega) 3 (by omega); unfold wIx at this; rw [if_pos (by decide)] at this; exact this
    · subst e; rw [show 40 * 4 + i = 160 + i by omega, pk_us]; rfl
    · rw [pk_un (by omega), pk_un (by omega), pk_un (by omega), pk_un (by omega), pk_un (by omega)]
      have := hW i (by omega) 4 (by omega); unfold wIx at this; rw [if_pos (by decide)] at this; exact this
theorem R_remember (r : RS) : ∃ W, f_Mod_remember r = some ((), rSWas r W) ∧ ∀ i, i < 40 → ∀ k, k < 13 → W (wIx i k) = rC r i k := by
  have h := R_rem2 r 40 0 rfl 1000 (by decide) (rWas r) (fun i hi => absurd hi (by omega))
  rw [was_self] at h
  exact h
theorem R_rep0 (r : RS) : ∃ R, L_Mod_scavenge_21 1000 r 0 = L_Mod_scavenge_41 1000 (rSRep r R) 1 ∧ ∀ k, k < 5 → R k = 0 := by
  have hX := lp_ex (Lf := fun n (z : Nat → Int32) x => L_Mod_scavenge_21 n (rSRep r z) x) (fin := fun z => L_Mod_scavenge_41 1000 (rSRep r z) 1) (N := 5) (fun i z => ∀ k, k < i → z k = 0) (fun n z i hi hz => ?_) (fun n z _ => ?_) 5 0 (rRep r) 1000 rfl (by decide) (fun k hk => absurd hk (by omega))
  · obtain ⟨R, h1, h2⟩ := hX
    refine ⟨R, ?_, h2⟩
    have h1' : L_Mod_scavenge_21 1000 (rSRep r (rRep r)) (nI 0) = L_Mod_scavenge_41 1000 (rSRep r R) 1 := h1
    rw [rep_self] at h1'
    exact h1'
  · show ∃ s', L_Mod_scavenge_21 (n + 1) (rSRep r z) (nI i) = _ ∧ _
    rw [L_Mod_scavenge_21, if_neg (gn 5 hi), if_pos (inB_nI hi (by decide)), cl_nI (by omega)]
    unfold B_Mod_scavenge_33
    rw [nI_1, rep_rep]
    refine ⟨upd z i 0, rfl, fun k hk => ?_⟩
    by_cases e : k = i
    · rw [e, pk_us]
    · rw [pk_un e]; exact hz k (by omega)
  · show L_Mod_scavenge_21 (n + 1) (rSRep r z) (nI 5) = _
    rw [L_Mod_scavenge_21, if_pos (gy 5 (N := 5))]
theorem xSearch_mis (s p x : Int32) : xSearch (dSMis d x) s p = xSearch d s p := rfl
/-- behind the keeping of all files: SR says what the reference's tables hold -/
def SR (d : DS) (N : Nat) (M : Nat → Nat) (r : RS) : Prop := ∀ s, 1 ≤ s → s < N → rKep r s = 0 ∧ rRea r s = 0 ∧ KM d s (M s) ∧ TB d s (M s) (rTab r) (rMan r)
theorem R_keepAll (X : IX d) : ∀ j s, s + j = 61 → 1 ≤ s → ∀ n, j < n → ∀ r M, RD d r → SR d s M r →
    ∃ r' M', L_Mod_scavenge_41 n r (nI s) = L_Mod_scavenge_74 1000 r' 0 ∧ RD d r' ∧ SR d 61 M' r' ∧ rRep r' = rRep r ∧ rWas r' = rWas r := by
  intro j
  induction j with
  | zero =>
    intro s hs hs1 n hn r M h hS
    obtain ⟨c, rfl⟩ : ∃ c, n = c + 1 := ⟨n - 1, by omega⟩
    obtain rfl : s = 61 := by omega
    rw [L_Mod_scavenge_41, if_pos (gy 61 (N := 61))]
    exact ⟨r, M, rfl, h, hS, rfl, rfl⟩
  | succ j ih =>
    intro s hs hs1 n hn r M h hS
    obtain ⟨c, rfl⟩ : ∃ c, n = c + 1 := ⟨n - 1, by omega⟩
    have hsin : inB (nI s) 61 := inB_nI (by omega) (by decide)
    rw [L_Mod_scavenge_41, if_neg (gn 61 (N := 61) (by omega)), if_pos hsin]
    unfold B_Mod_scavenge_54 B_Mod_scavenge_61
    rw [if_pos hsin, cl_nI (by omega)]
    have k1 : ∀ a, a ≠ s → upd (rKep r) s 0 a = rKep r a := fun a ha => pk_un ha
    have k1' : upd (rKep r) s 0 s = 0 := pk_us
    have k2 : ∀ a, a ≠ s → upd (rRea r) s (vp_nar .boolean 0) a = rRea r a := fun a ha => pk_un ha
    have k2' : upd (rRea r) s (vp_nar .boolean 0) s = 0 := pk_us
    obtain ⟨r1, er1, h1, q1, q2, q3, q4, q5, q6⟩ : ∃ r1, r1 = rSKep r (upd (rKep r) s 0) ∧ RD d r1 ∧ rKep r1 = upd (rKep r) s 0 ∧ rRea r1 = rRea r ∧ rTab r1 = rTab r ∧ rMan r1 = rMan r ∧ rRep r1 = rRep r ∧ rWas r1 = rWas r := ⟨_, rfl, h.kepS _, Kep_Kep _ _, Rea_Kep _ _, Tab_Kep _ _, Man_Kep _ _, Rep_Kep _ _, Was_Kep _ _⟩
    rw [← er1, q2]
    clear er1
    obtain ⟨r2, er2, h2, p1, p2, p3, p4, p5, p6⟩ : ∃ r2, r2 = rSRea r1 (upd (rRea r) s (vp_nar .boolean 0)) ∧ RD d r2 ∧ rKep r2 = upd (rKep r) s 0 ∧ rRea r2 = upd (rRea r) s (vp_nar .boolean 0) ∧ rTab r2 = rTab r ∧ rMan r2 = rMan r ∧ rRep r2 = rRep r ∧ rWas r2 = rWas r := ⟨_, rfl, h1.rea _, (Kep_Rea _ _).trans q1, Rea_Rea _ _, (Tab_Rea _ _).trans q3, (Man_Rea _ _).trans q4, (Rep_Rea _ _).trans q5, (Was_Rea _ _).trans q6⟩
    rw [← er2]
    clear er2
    obtain ⟨t, mn, mm, a1, a2, a3, a4, a5⟩ := R_keep h2 X hs1 (show s ≤ 60 by omega)
    rw [a1, bnd_some]
    unfold B_Mod_scavenge_66
    rw [nI_1]
    obtain ⟨r3, er3, h3, u1, u2, u3, u4, u5, u6⟩ : ∃ r3, r3 = rSMan (rSTab r2 t) mn ∧ RD d r3 ∧ rKep r3 = rKep r2 ∧ rRea r3 = rRea r2 ∧ rTab r3 = t ∧ rMan r3 = mn ∧ rRep r3 = rRep r2 ∧ rWas r3 = rWas r2 := ⟨_, rfl, h2.tm t mn, (Kep_Man _ _).trans (Kep_Tab _ _), (Rea_Man _ _).trans (Rea_Tab _ _), (Tab_Man _ _).trans (Tab_Tab _ _), Man_Man _ _, (Rep_Man _ _).trans (Rep_Tab _ _), (Was_Man _ _).trans (Was_Tab _ _)⟩
    show ∃ r' M', L_Mod_scavenge_41 c (rSMan (rSTab r2 t) mn) (nI (s + 1)) = _ ∧ _
    rw [← er3]
    clear er3
    obtain ⟨r', M', v1, v2, v3, v4, v5⟩ := ih (s + 1) (by omega) (by omega) c (by omega) r3 (tU M s mm) h3 (fun s' t1 t2 => by
      rw [u1, u2, u3, u4, p1, p2]
      by_cases e : s' = s
      · subst e
        rw [tU_eq]
        exact ⟨k1', k2', a2, a3⟩
      · rw [tU_ne e, k1 s' e, k2 s' e]
        obtain ⟨w1, w2, w3, w4, w5, w6⟩ := hS s' t1 (by omega)
        have e1 : ∀ p, p < 40 → t (40 * s' + p) = rTab r (40 * s' + p) := fun p hp => by
          rw [a4 _ (by omega), p3]
        refine ⟨w1, w2, w3, ?_, ?_, fun p p1' p2' => ?_⟩
        · rw [a5 s' e, p4]; exact w4
        · have := e1 0 (by omega); rw [Nat.add_zero] at this; rw [this]; exact w5
        · rw [e1 p (by have := w3.1; omega)]; exact w6 p p1' p2')
    exact ⟨r', M', v1, v2, v3, v4.trans (u5.trans p5), v5.trans (u6.trans p6)⟩
end S2
