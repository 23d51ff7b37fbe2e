/-! scavenging: the losing -/
def rT (r : RS) : (Nat → Int32) × (Nat → Int32) × (Nat → Int32) × (Nat → Int32) × (Nat → Int32) := (rKep r, rRea r, rTab r, rMan r, rWas r)
theorem rT_kep {r r' : RS} (h : rT r' = rT r) : rKep r' = rKep r := congrArg (fun z => z.1) h
theorem rT_rea {r r' : RS} (h : rT r' = rT r) : rRea r' = rRea r := congrArg (fun z => z.2.1) h
theorem rT_tab {r r' : RS} (h : rT r' = rT r) : rTab r' = rTab r := congrArg (fun z => z.2.2.1) h
theorem rT_man {r r' : RS} (h : rT r' = rT r) : rMan r' = rMan r := congrArg (fun z => z.2.2.2.1) h
theorem rT_was {r r' : RS} (h : rT r' = rT r) : rWas r' = rWas r := congrArg (fun z => z.2.2.2.2) h
theorem rO_T {r r' : RS} (h : rO r' = rO r) : rT r' = rT r := congrArg (fun z => (z.1.2.1, z.1.2.2.2.2.2.2.2.1, z.1.2.2.2.2.2.1, z.1.2.2.2.2.2.2.1, z.1.2.2.2.2.2.2.2.2.2.2)) h
theorem rO_rep {r r' : RS} (h : rO r' = rO r) : rRep r' = rRep r := congrArg (fun z => z.1.2.2.2.1) h
theorem rT_rep (r : RS) (t : Nat → Int32) : rT (rSRep r t) = rT r := by
  unfold rT
  rw [Kep_Rep, Rea_Rep, Tab_Rep, Man_Rep, Was_Rep]
section S4
variable {d d0 : DS} {r : RS} {f : FS} {w : WS} {m : MS} {s : SS} {g : GS} {B : Nat}
/-- a sector lost, on both sides -/
theorem R_lose {x : Nat} (h : RD d r) (hx : x < 40) (hu : dUnr d x = 0) : ∃ r', f_Scav_lose d f w m s (nI x) = ((), (xErase d (nI x), sSLos s (sLos s + 1))) ∧ f_Mod_lose r (nI x) = some ((), r') ∧ RD (xErase d (nI x)) r' ∧ DRow d (xErase d (nI x)) x eV ∧ rT r' = rT r ∧ rRep r' 1 = rRep r 1 + 1 ∧ ∀ k, k ≠ 1 → rRep r' k = rRep r k := by
  unfold f_Scav_lose B_Scav_lose_8 f_Mod_lose B_Mod_lose_5 B_Mod_lose_19
  obtain ⟨r1, e1, e2⟩ := R_empty r hx
  have e3 := C_erase (d := d) hx hu
  rw [e1, bnd_some, if_pos (by decide), if_pos (by decide)]
  have h1 : RD (xErase d (nI x)) r1 := h.row e3 e2
  refine ⟨_, rfl, rfl, h1.repS _, e3, (rT_rep _ _).trans (rO_T e2.2), ?_, fun k hk => ?_⟩
  · rw [Rep_Rep, rO_rep e2.2]
    exact pk_us
  · rw [Rep_Rep, rO_rep e2.2]
    exact pk_un hk
theorem R_isKept {x sn p Mn : Nat} (h : RD d r) (hx : x < 40) (hs1 : 1 ≤ sn) (hs : sn ≤ 60) (hser : dCells d (x * 13) = nI sn) (hpag : dCells d (x * 13 + 1) = nI p) (hp : p < 2 ^ 30) (hM : Mn ≤ 39) (hT : TB d0 sn Mn (rTab r) (rMan r)) : (f_Mod_isKept r (nI x) = some (1, ()) ∧ p ≤ Mn ∧ xSearch d0 (nI sn) (nI p) = nI x) ∨ (f_Mod_isKept r (nI x) = some (0, ()) ∧ ¬ (p ≤ Mn ∧ xSearch d0 (nI sn) (nI p) = nI x)) := by
  unfold f_Mod_isKept B_Mod_isKept_55
  have q := in160' hs1 hs
  rw [if_pos (inB_nI hx (by decide)), if_pos (inB_nI hx (by decide)), cl_nI (by omega), ← h.ser hx, ← h.pag hx, hser, hpag, if_neg (fun z => ((inab _ _ _).mp z).elim q.1 q.2.2), if_pos (inB_nI (show sn < 61 by omega) (by decide)), cl_nI (show sn < 1000000 by omega), hT.1]
  by_cases hpM : p ≤ Mn
  · have et : rTab r (40 * sn + p) = xSearch d0 (nI sn) (nI p) + 1 := by
      rcases Nat.eq_zero_or_pos p with z | z
      · subst z; exact hT.2.1
      · exact hT.2.2 p z hpM
    rw [if_neg (nI_nlt hpM (by omega)), ix40, if_pos (inB_nI (show 40 * sn + p < 2440 by omega) (by decide)), cl_nI (by omega), et]
    by_cases e : xSearch d0 (nI sn) (nI p) = nI x
    · rw [if_neg (not_not_intro (by rw [e]))]
      exact Or.inl ⟨rfl, hpM, e⟩
    · rw [if_pos (fun z => e (by
        have := congrArg (· - (1 : Int32)) z
        simp only [Int32.add_sub_cancel] at this
        exact this))]
      exact Or.inr ⟨rfl, fun z => e z.2⟩
  · rw [if_pos (nI_lt (by omega) (by omega))]
    exact Or.inr ⟨rfl, fun z => hpM z.1⟩
/-- rows behind x sectors gone through -/
def gone (d0 : DS) (M : Nat → Nat) (x y : Nat) : Prop := y < x ∧ dUnr d0 y = 0 ∧ ¬ dCells d0 (y * 13) = 0 ∧ ¬ kpt d0 M y
def LR (d0 : DS) (M : Nat → Nat) (d : DS) (x : Nat) : Prop := ∀ y, y < 40 → (gone d0 M x y → ∀ k, k < 13 → dCells d (y * 13 + k) = eV k) ∧ (¬ gone d0 M x y → ∀ k, k < 13 → dCells d (y * 13 + k) = dCells d0 (y * 13 + k))
theorem R_loseL {M : Nat → Nat} {kb : Int64} (I0 : IV B d0) (hK : ∀ sn, 1 ≤ sn → sn ≤ 60 → KM d0 sn (M sn)) (hb : ∀ x, x < 40 → (bt kb x = true ↔ ∃ t, 1 ≤ t ∧ t < 61 ∧ KB d0 t (M t) x)) : ∀ j x, x + j = 40 → ∀ n1 n2, j < n1 → j < n2 → ∀ d s r, RD d r → dUnr d = dUnr d0 → dEarl d = dEarl d0 → LR d0 M d x → sLos s = rRep r 1 → (∀ sn, 1 ≤ sn → sn ≤ 60 → TB d0 sn (M sn) (rTab r) (rMan r)) →
    ∃ d' r', L_Scav_loseUnkept_26 n1 d f w m s kb (nI x) = some ((), (d', sSLos s (rRep r' 1))) ∧ L_Mod_scavenge_74 n2 r (nI x) = bnd (f_Mod_heads r') (fun q => B_Mod_scavenge_121 q.2) ∧ RD d' r' ∧ dUnr d' = dUnr d0 ∧ dEarl d' = dEarl d0 ∧ LR d0 M d' 40 ∧ rT r' = rT r ∧ ∀ k, k ≠ 1 → rRep r' k = rRep r k := by
  have hBB := I0.1
  intro j
  induction j with
  | zero =>
    intro x hx n1 n2 h1 h2 d s r h hu hea hL hl hT
    obtain ⟨a, rfl⟩ : ∃ a, n1 = a + 1 := ⟨n1 - 1, by omega⟩
    obtain ⟨b, rfl⟩ : ∃ b, n2 = b + 1 := ⟨n2 - 1, by omega⟩
    obtain rfl : x = 40 := by omega
    rw [L_Scav_loseUnkept_26, L_Mod_scavenge_74, if_pos (gy 40 (N := 40)), if_pos (gy 40 (N := 40))]
    refine ⟨d, r, ?_, rfl, h, hu, hea, hL, rfl, fun _ _ => rfl⟩
    rw [← hl]; rfl
  | succ j ih =>
    intro x hx n1 n2 h1 h2 d s r h hu hea hL hl hT
    obtain ⟨a, rfl⟩ : ∃ a, n1 = a + 1 := ⟨n1 - 1, by omega⟩
    obtain ⟨b, rfl⟩ : ∃ b, n2 = b + 1 := ⟨n2 - 1, by omega⟩
    have hx4 : x < 40 := by omega
    have hrow : ∀ k, k < 13 → dCells d (x * 13 + k) = dCells d0 (x * 13 + k) := (hL x hx4).2 (fun q => absurd q.1 (by omega))
    have hrow0 : dCells d (x * 13) = dCells d0 (x * 13) := hrow 0 (by decide)
    have hin : inB (nI x) 40 := inB_nI hx4 (by decide)
    rw [L_Scav_loseUnkept_26, L_Mod_scavenge_74, if_neg (gn 40 hx4), if_neg (gn 40 hx4), if_pos hin, if_pos hin, cl_nI (by omega), ← h.bad hx4, ← h.ser hx4, isInUse_v]
    unfold B_Scav_loseUnkept_58 B_Mod_scavenge_111
    rw [nI_1]
    -- on without a loss
    have hgo : ¬ gone d0 M (x + 1) x → ∃ d' r', L_Scav_loseUnkept_26 a d f w m s kb (nI (x + 1)) = some ((), (d', sSLos s (rRep r' 1))) ∧ L_Mod_scavenge_74 b r (nI (x + 1)) = bnd (f_Mod_heads r') (fun q => B_Mod_scavenge_121 q.2) ∧ RD d' r' ∧ dUnr d' = dUnr d0 ∧ dEarl d' = dEarl d0 ∧ LR d0 M d' 40 ∧ rT r' = rT r ∧ ∀ k, k ≠ 1 → rRep r' k = rRep r k := fun hng => ih (x + 1) (by omega) a b (by omega) (by omega) d s r h hu hea (fun y hy => by
      by_cases e : y = x
      · subst e
        exact ⟨fun q => absurd q hng, fun _ => hrow⟩
      · refine ⟨fun q => (hL y hy).1 ⟨by have := q.1; omega, q.2⟩, fun q => (hL y hy).2 (fun z => q ⟨by have := z.1; omega, z.2⟩)⟩) hl hT
    by_cases hux : dUnr d x = 0
    · rw [if_neg (not_not_intro hux)]
      have hux0 : dUnr d0 x = 0 := by rw [← hu]; exact hux
      obtain ⟨sn, s1, s2⟩ := I0.serN hx4
      obtain ⟨p, p1, p2⟩ := I0.pagN hx4
      by_cases hs0 : sn = 0
      · have hz : dCells d (x * 13) = 0 := by rw [hrow0, s2, hs0]; rfl
        have hxu : xUse d (nI x) = false := by
          unfold xUse; rw [xc0 hx4 hux, hz]; decide
        rw [hxu, if_pos (show ((if false = true then (1 : Int32) else 0), ()).1 = 0 from rfl), hz, if_pos (show (0 : Int32) ≤ 0 by decide)]
        exact hgo (fun q => q.2.2.1 (by rw [← hrow0]; exact hz))
      · have hser : dCells d (x * 13) = nI sn := hrow0.trans s2
        have hpag : dCells d (x * 13 + 1) = nI p := (hrow 1 (by decide)).trans p2
        have hne : ¬ dCells d0 (x * 13) = 0 := by rw [s2]; exact nI_ne0 (by omega) (by omega)
        have hxu : xUse d (nI x) = true := by
          unfold xUse; rw [xc0 hx4 hux, hser]; exact decide_eq_true (nI_nle (by omega) (by omega))
        rw [hxu, if_neg (show ¬ ((if true = true then (1 : Int32) else 0), ()).1 = 0 from (by decide : ¬ (1 : Int32) = 0)), hser, if_neg (nI_nle (by omega) (by omega)), bit_at (show x < 64 by omega)]
        have hkb : bt kb x = true ↔ kpt d0 M x := (hb x hx4).trans (kpt_bits I0 hx4 hux0 hne)
        have hkp : kpt d0 M x ↔ (p ≤ M sn ∧ xSearch d0 (nI sn) (nI p) = nI x) := by
          constructor
          · rintro ⟨sn', p', a1, a2, a3, a4, a5, a6⟩
            rw [s2] at a3
            rw [p2] at a4
            have e1 := (nI_eq (by omega) (by omega)).mp a3
            have e1' : sn' = sn := e1.symm
            subst e1'
            have hp' : p' < 2 ^ 31 := by have := (hK sn' a1 a2).1; omega
            have e2 := (nI_eq (by omega) hp').mp a4
            subst e2
            exact ⟨a5, a6⟩
          · rintro ⟨a1, a2⟩
            exact ⟨sn, p, by omega, s1, s2, p2, a1, a2⟩
        rcases R_isKept (d0 := d0) (Mn := M sn) h hx4 (show 1 ≤ sn by omega) s1 hser hpag (by omega) (hK sn (by omega) s1).1 (hT sn (by omega) s1) with ⟨e1, e2⟩ | ⟨e1, e2⟩
        · have hbt : bt kb x = true := hkb.mpr (hkp.mpr e2)
          rw [e1, bnd_some, hbt, if_pos rfl, if_pos (show ¬ lg_cmp 1 0 = 0 by decide)]
          unfold B_Mod_scavenge_103 B_Mod_scavenge_111
          rw [if_pos (show ¬ ((1 : Int32), ()).1 = 0 from (by decide : ¬ (1 : Int32) = 0)), nI_1]
          exact hgo (fun q => q.2.2.2 (hkp.mpr e2))
        · have hbt : ¬ bt kb x = true := fun z => e2 (hkp.mp (hkb.mp z))
          rw [e1, bnd_some, if_neg hbt, if_neg (not_not_intro (show lg_cmp 0 0 = 0 by decide))]
          unfold B_Mod_scavenge_103 B_Mod_scavenge_111
          obtain ⟨r1, l1, l2, l3, l4, l5, l6, l7⟩ := R_lose (f := f) (w := w) (m := m) (s := s) h hx4 hux
          rw [if_neg (not_not_intro (show ((0 : Int32), ()).1 = 0 from rfl)), l1, l2, bnd_some, nI_1]
          obtain ⟨d', r', v1, v2, v3, v4, v5, v6, v7, v8⟩ := ih (x + 1) (by omega) a b (by omega) (by omega) (xErase d (nI x)) (sSLos s (sLos s + 1)) r1 l3 (l4.unr.trans hu) ((congrArg (·.1) l4.2 : dEarl (xErase d (nI x)) = dEarl d).trans hea) (fun y hy => by
            by_cases e : y = x
            · subst e
              refine ⟨fun _ k hk => by rw [l4.1 y hy k hk, if_pos rfl], fun q => absurd ⟨by omega, hux0, hne, fun z => e2 (hkp.mp z)⟩ q⟩
            · refine ⟨fun q k hk => by rw [l4.1 y hy k hk, if_neg e]; exact (hL y hy).1 ⟨by have := q.1; omega, q.2⟩ k hk, fun q k hk => by rw [l4.1 y hy k hk, if_neg e]; exact (hL y hy).2 (fun z => q ⟨by have := z.1; omega, z.2⟩) k hk⟩) (by show sLos s + 1 = _; rw [l6, hl]) (fun sn h1 h2 => by rw [rT_tab l5, rT_man l5]; exact hT sn h1 h2)
          exact ⟨d', r', v1, v2, v3, v4, v5, v6, v7.trans l5, fun k hk => (v8 k hk).trans (l7 k hk)⟩
    · rw [if_pos hux, useU hx4 hux, if_pos (show ((if false = true then (1 : Int32) else 0), ()).1 = 0 from rfl)]
      exact hgo (fun q => hux (by rw [hu]; exact q.2.1))
end S4
