/-! scavenging: the pages of a file without a leader lost -/
section S8
variable {d : DS} {r : RS} {f : FS} {w : WS} {m : MS} {s : SS} {g : GS} {B : Nat} {E : Nat → Prop} {M : Nat → Nat}
theorem R_loseR {x : Nat} (r : RS) (hx : x < 40) : ∃ r', f_Mod_lose r (nI x) = some ((), r') ∧ (∀ j, j < 40 → ∀ k, k < 13 → rC r' j k = if j = x then eV k else rC r j k) ∧ rBad r' = rBad r ∧ r'.2 = r.2 ∧ rT r' = rT r ∧ rRep r' 1 = rRep r 1 + 1 ∧ ∀ k, k ≠ 1 → rRep r' k = rRep r k := by
  unfold f_Mod_lose B_Mod_lose_5 B_Mod_lose_19
  obtain ⟨r1, e1, e2⟩ := R_empty r hx
  rw [e1, bnd_some, if_pos (by decide), if_pos (by decide)]
  refine ⟨_, rfl, fun j hj k hk => ?_, (Bad_Rep _ _).trans (oth_bad (rO_oth e2.2)), (I_Rep _ _).trans (rO_i e2.2), (rT_rep _ _).trans (rO_T e2.2), ?_, fun k hk => ?_⟩
  · rw [rC_cg (Ser_Rep _ _) (Pag_Rep _ _) (Use_Rep _ _) (Nex_Rep _ _) (Bef_Rep _ _) (Byt_Rep _ _)]; exact e2.1 j hj k hk
  · rw [Rep_Rep, rO_rep e2.2]; exact pk_us
  · rw [Rep_Rep, rO_rep e2.2]; exact pk_un hk
/-- a sector of one of the first pages -/
def ofP (d : DS) (sn P y : Nat) : Prop := ∃ q, 1 ≤ q ∧ q ≤ P ∧ xSearch d (nI sn) (nI q) = nI y
theorem R_lpR {sn Mn : Nat} (hs1 : 1 ≤ sn) (hs : sn ≤ 60) (r0 : RS) (hK : KF d (rTab r0) (rMan r0) sn Mn) : ∀ j p, p + j = Mn + 1 → 1 ≤ p → ∀ n, j < n → ∀ r, (∀ y, y < 40 → ∀ k, k < 13 → (ofP d sn (p - 1) y → rC r y k = eV k) ∧ (¬ ofP d sn (p - 1) y → rC r y k = rC r0 y k)) → rBad r = rBad r0 → r.2 = r0.2 → rT r = rT r0 → rRep r 1 = rRep r0 1 + nI (p - 1) → (∀ k, k ≠ 1 → rRep r k = rRep r0 k) →
    ∃ r', L_Mod_losePages_2 n r (nI sn) (nI p) = some ((), r') ∧ (∀ y, y < 40 → ∀ k, k < 13 → (ofP d sn Mn y → rC r' y k = eV k) ∧ (¬ ofP d sn Mn y → rC r' y k = rC r0 y k)) ∧ rBad r' = rBad r0 ∧ r'.2 = r0.2 ∧ rTab r' = rTab r0 ∧ rMan r' sn = 0 ∧ (∀ a, a ≠ sn → rMan r' a = rMan r0 a) ∧ rKep r' = rKep r0 ∧ rRea r' = rRea r0 ∧ rWas r' = rWas r0 ∧ rRep r' 1 = rRep r0 1 + nI Mn ∧ ∀ k, k ≠ 1 → rRep r' k = rRep r0 k := by
  have hsin : inB (nI sn) 61 := inB_nI (by omega) (by decide)
  have hscl : (nI sn).toNatClampNeg = sn := cl_nI (by omega)
  have hM39 := hK.1
  intro j
  induction j with
  | zero =>
    intro p hp hp1 n hn r hc hb h2 hT h1 hk
    obtain ⟨c, rfl⟩ : ∃ c, n = c + 1 := ⟨n - 1, by omega⟩
    rw [L_Mod_losePages_2, if_pos hsin, if_pos hsin, hscl, rT_man hT, hK.2.2.1, if_pos (nI_lt (by omega) (by omega))]
    unfold B_Mod_losePages_35
    have hp' : p - 1 = Mn := by omega
    rw [hp'] at hc h1
    have n1 : upd (rMan r0) sn 0 sn = 0 := pk_us
    have n2 : ∀ a, a ≠ sn → upd (rMan r0) sn 0 a = rMan r0 a := fun a ha => pk_un ha
    generalize upd (rMan r0) sn 0 = N at n1 n2 ⊢
    refine ⟨rSMan r N, rfl, fun y hy k hk' => ?_, (Bad_Man _ _).trans hb, (I_Man _ _).trans h2, (Tab_Man _ _).trans (rT_tab hT), by rw [Man_Man]; exact n1, fun a ha => by rw [Man_Man]; exact n2 a ha, (Kep_Man _ _).trans (rT_kep hT), (Rea_Man _ _).trans (rT_rea hT), (Was_Man _ _).trans (rT_was hT), by rw [Rep_Man]; exact h1, fun k hk' => by rw [Rep_Man]; exact hk k hk'⟩
    rw [rC_cg (Ser_Man _ _) (Pag_Man _ _) (Use_Man _ _) (Nex_Man _ _) (Bef_Man _ _) (Byt_Man _ _)]
    exact hc y hy k hk'
  | succ j ih =>
    intro p hp hp1 n hn r hc hb h2 hT h1 hk
    obtain ⟨c, rfl⟩ : ∃ c, n = c + 1 := ⟨n - 1, by omega⟩
    have hpM : p ≤ Mn := by omega
    rw [L_Mod_losePages_2, if_pos hsin, if_pos hsin, hscl, rT_man hT, hK.2.2.1, if_neg (nI_nlt hpM (by omega))]
    unfold f_Mod_pageAt
    obtain ⟨t1, t2⟩ := hK.2.2.2.2.1 p hp1 hpM
    obtain ⟨i, i1, i2, i3, i4, i5⟩ := found (d := d) (s := nI sn) (p := nI p) (nI_m1 (by omega)) t2
    rw [ix40, if_pos (inB_nI (show 40 * sn + p < 2440 by omega) (by decide)), cl_nI (by omega), rT_tab hT, t1, i2, Int32.add_sub_cancel, bnd_some]
    unfold B_Mod_losePages_19 B_Mod_losePages_22
    obtain ⟨r1, l1, l2, l3, l4, l5, l6, l7⟩ := R_loseR r i1
    rw [show f_Mod_lose r (nI i, ()).1 = _ from l1, bnd_some, nI_1]
    refine ih (p + 1) (by omega) (by omega) c (by omega) r1 (fun y hy k hk' => ?_) (l3.trans hb) (l4.trans h2) (l5.trans hT) ?_ (fun k hk' => (l7 k hk').trans (hk k hk'))
    · rw [l2 y hy k hk']
      by_cases e : y = i
      · rw [if_pos e]
        exact ⟨fun _ => rfl, fun q => absurd ⟨p, hp1, by omega, by rw [i2, e]⟩ q⟩
      · rw [if_neg e]
        have hiff : ofP d sn (p + 1 - 1) y ↔ ofP d sn (p - 1) y := by
          constructor
          · rintro ⟨q, q1, q2, q3⟩
            by_cases z : q = p
            · rw [z, i2] at q3
              exact absurd ((nI_eq (by omega) (by omega)).mp q3).symm e
            · exact ⟨q, q1, by omega, q3⟩
          · rintro ⟨q, q1, q2, q3⟩
            exact ⟨q, q1, by omega, q3⟩
        rw [hiff]; exact hc y hy k hk'
    · rw [l6, h1, show p + 1 - 1 = p - 1 + 1 by omega, ← nI_1, Int32.add_assoc]
theorem C_lp {sn : Nat} (hs : sn ≤ 60) : ∃ d', f_Scav_losePages d f w m s (nI sn) = some ((), (d', sSLos s (sLos s + nI (cnN (fun y => decide (xCell d (nI y) 0 = nI sn)) 40)))) ∧ d'.2 = d.2 ∧ ∀ y, y < 40 → ∀ k, k < 13 → dCells d' (y * 13 + k) = if xCell d (nI y) 0 = nI sn then eV k else dCells d (y * 13 + k) := by
  have hX := lp_ex (Lf := fun n (z : DS × SS) x => L_Scav_losePages_2 n z.1 f w m z.2 (nI sn) x) (fin := fun z => some ((), z)) (N := 40) (fun x z => z.1.2 = d.2 ∧ z.2 = sSLos s (sLos s + nI (cnN (fun y => decide (xCell d (nI y) 0 = nI sn)) x)) ∧ ∀ y, y < 40 → ∀ k, k < 13 → dCells z.1 (y * 13 + k) = if y < x ∧ xCell d (nI y) 0 = nI sn then eV k else dCells d (y * 13 + k)) (fun n z x hx hP => ?_) (fun n z _ => ?_) 40 0 (d, s) 100 rfl (by decide) ⟨rfl, ?_, fun y hy k hk => by rw [if_neg (by omega)]⟩
  · obtain ⟨z, h1, h2, h3, h4⟩ := hX
    refine ⟨z.1, ?_, h2, fun y hy k hk => ?_⟩
    · rw [← h3]; exact h1
    · rw [h4 y hy k hk]
      by_cases e : xCell d (nI y) 0 = nI sn
      · rw [if_pos ⟨hy, e⟩, if_pos e]
      · rw [if_neg (fun q => e q.2), if_neg e]
  · obtain ⟨z1, z2⟩ := z
    obtain ⟨h1, h2', h3⟩ := hP
    have h2 : z2 = sSLos s (sLos s + nI (cnN (fun y => decide (xCell d (nI y) 0 = nI sn)) x)) := h2'
    show ∃ s', L_Scav_losePages_2 (n + 1) z1 f w m z2 (nI sn) (nI x) = _ ∧ _
    have hu : dUnr z1 = dUnr d := congrArg (·.2.1) h1
    have ex : xCell z1 (nI x) 0 = xCell d (nI x) 0 := by
      by_cases u : dUnr d x = 0
      · rw [xc0 hx (by rw [hu]; exact u), xc0 hx u]
        exact (h3 x hx 0 (by decide)).trans (if_neg (by omega))
      · rw [xcu hx (by rw [hu]; exact u), xcu hx u]
    rw [L_Scav_losePages_2, if_neg (gn 40 hx), ex]
    unfold B_Scav_losePages_26
    rw [nI_1]
    by_cases e : xCell d (nI x) 0 = nI sn
    · rw [if_neg (not_not_intro e)]
      have ux : dUnr z1 x = 0 := by
        by_cases u : dUnr d x = 0
        · rw [hu]; exact u
        · rw [xcu hx u] at e; exact absurd e.symm (nI_m1 (by omega))
      have g1 := C_erase (d := z1) hx ux
      unfold f_Scav_lose B_Scav_lose_8
      refine ⟨(xErase z1 (nI x), sSLos z2 (sLos z2 + 1)), rfl, g1.2.trans h1, ?_, fun y hy k hk => ?_⟩
      · show sSLos z2 (sLos z2 + 1) = _
        rw [h2, cnN, if_pos (decide_eq_true e), ← nI_1]
        show sSLos s (sLos s + nI (cnN (fun y => decide (xCell d (nI y) 0 = nI sn)) x) + 1) = _
        rw [Int32.add_assoc]
      · rw [g1.1 y hy k hk]
        by_cases q : y = x
        · rw [if_pos q, if_pos ⟨by omega, by rw [q]; exact e⟩]
        · rw [if_neg q]
          refine (h3 y hy k hk).trans ?_
          by_cases q2 : y < x ∧ xCell d (nI y) 0 = nI sn
          · rw [if_pos q2, if_pos ⟨by omega, q2.2⟩]
          · rw [if_neg q2, if_neg (fun q3 => q2 ⟨by omega, q3.2⟩)]
    · rw [if_pos e]
      refine ⟨(z1, z2), rfl, h1, ?_, fun y hy k hk => ?_⟩
      · show z2 = _
        rw [h2, cnN, if_neg (by simp [e]), Nat.add_zero]
      · refine (h3 y hy k hk).trans ?_
        by_cases q2 : y < x ∧ xCell d (nI y) 0 = nI sn
        · rw [if_pos q2, if_pos ⟨by omega, q2.2⟩]
        · rw [if_neg q2, if_neg (fun q3 => q2 ⟨by
            have := q3.1
            by_cases z : y = x
            · rw [z] at q3; exact absurd q3.2 e
            · omega, q3.2⟩)]
  · obtain ⟨z1, z2⟩ := z
    show L_Scav_losePages_2 (n + 1) z1 f w m z2 (nI sn) (nI 40) = _
    rw [L_Scav_losePages_2, if_pos (gy 40 (N := 40))]
  · show s = sSLos s (sLos s + nI 0)
    rw [show (nI 0 : Int32) = 0 from rfl, Int32.add_zero]; rfl
end S8
