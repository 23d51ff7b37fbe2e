/-! scavenging: all links put right -/
/-- alike but for the links of readable sectors of files from N on -/
def LKx (N : Nat) (d : DS) (r : RS) : Prop := ∀ i, i < 40 → ∀ k, k < 13 → (dUnr d i = 0 ∧ (∃ t, N ≤ t ∧ t ≤ 60 ∧ dCells d (i * 13) = nI t) → k ≠ 3 ∧ k ≠ 4) → dCells d (i * 13 + k) = rC r i k
def OT (d : DS) (r : RS) : Prop := (∀ i, i < 40 → dUnr d i = rBad r i) ∧ dMis d = rMis r ∧ dWri d = rWri r ∧ dChg d = rLef r ∧ (dPow d = 1 ∧ rDar r = 0 ∨ dPow d = 0 ∧ rDar r = 1)
def SK (N B : Nat) (d : DS) (r : RS) (M : Nat → Nat) : Prop := LKx N d r ∧ OT d r ∧ IV B d ∧ IX d ∧ KT d r M ∧ HDp d
/-- files there -/
def thN (d : DS) : Nat → Nat
  | 0 => 0
  | n + 1 => thN d n + (if xSearch d (nI (n + 1)) 0 = -1 then 0 else 1)
section RI2
variable {d d' d0 : DS} {r r' r0 : RS} {f : FS} {w : WS} {m : MS} {s s' : SS} {g : GS} {B : Nat} {M : Nat → Nat}
theorem thN_lab (hl : LSm d d') : ∀ n, n ≤ 60 → thN d' n = thN d n := by
  intro n
  induction n with
  | zero => intro _; rfl
  | succ n ih =>
    intro hn
    unfold thN
    rw [ih (by omega), hl.search (nI_m1 (by omega))]
theorem thN_le : ∀ n, thN d n ≤ n := by
  intro n
  induction n with
  | zero => exact Nat.le_refl _
  | succ n ih =>
    unfold thN
    split <;> omega
theorem OT.cg (h : OT d r) (h1 : d'.2.2 = d.2.2) (h3 : rBad r' = rBad r) (h4 : r'.2 = r.2) : OT d' r' := by
  have u : dUnr d' = dUnr d := congrArg (·.1) h1
  have u1 : dMis d' = dMis d := congrArg (·.2.1) h1
  have u2 : dWri d' = dWri d := congrArg (·.2.2.1) h1
  have u3 : dChg d' = dChg d := congrArg (·.2.2.2.1) h1
  have u4 : dPow d' = dPow d := congrArg (·.2.2.2.2) h1
  have g1 : rMis r' = rMis r := congrArg (fun z => z.2.2.1) h4
  have g2 : rWri r' = rWri r := congrArg (fun z => z.2.2.2.1) h4
  have g3 : rDar r' = rDar r := congrArg (fun z => z.2.2.2.2.1) h4
  have g4 : rLef r' = rLef r := congrArg (fun z => z.2.2.2.2.2.1) h4
  exact ⟨fun i hi => by rw [u, h3]; exact h.1 i hi, by rw [u1, g1]; exact h.2.1, by rw [u2, g2]; exact h.2.2.1, by rw [u3, g4]; exact h.2.2.2.1, by rw [u4, g3]; exact h.2.2.2.2⟩
theorem IX.lab (h : IX d) (hl : LSm d d') : IX d' := by
  have e0 : ∀ i, i < 40 → dCells d' (i * 13) = dCells d (i * 13) := fun i hi => hl.1 i hi 0 (by decide)
  refine ⟨fun i hi c0 c1 => ?_, ?_, fun i hi c0 c1 => ?_⟩
  · rw [hl.1 i hi 2 (by decide)]
    exact h.1 i hi (by rw [← e0 i hi]; exact c0) (by rw [← hl.1 i hi 1 (by decide)]; exact c1)
  · rw [hl.2.1, show dCells d' 0 = dCells d 0 from hl.1 0 (by decide) 0 (by decide), show dCells d' 1 = dCells d 1 from hl.1 0 (by decide) 1 (by decide)]
    exact h.2.1
  · rw [hl.1 i hi 2 (by decide)]
    exact h.2.2 i hi (by rw [← e0 i hi]; exact c0) (by rw [← hl.1 i hi 1 (by decide)]; exact c1)
theorem SK.skip {N : Nat} (h : SK N B d r M) (hN : 1 ≤ N) (hN6 : N ≤ 60) (hno : xSearch d (nI N) 0 = -1) : SK (N + 1) B d r M := by
  refine ⟨fun i hi k hk q => h.1 i hi k hk (fun z => q ⟨z.1, ?_⟩), h.2⟩
  obtain ⟨t, t1, t2, t3⟩ := z.2
  by_cases e : t = N
  · subst e
    exact absurd hno (h.2.2.2.2.2 i hi z.1 t hN t2 t3)
  · exact ⟨t, by omega, t2, t3⟩
theorem SK.rep {N : Nat} (h : SK N B d r M) (t : Nat → Int32) : SK N B d (rSRep r t) M := by
  obtain ⟨h1, h2, h3, h4, h5, h6⟩ := h
  refine ⟨fun i hi k hk q => ?_, h2.cg rfl (Bad_Rep r t) (I_Rep r t), h3, h4, h5.lab (fun _ _ _ _ => rfl) rfl (Tab_Rep r t) (Man_Rep r t), h6⟩
  rw [rC_cg (Ser_Rep r t) (Pag_Rep r t) (Use_Rep r t) (Nex_Rep r t) (Bef_Rep r t) (Byt_Rep r t)]
  exact h1 i hi k hk q
/-- one file -/
theorem R_linkF {N : Nat} (h : SK N B d r M) (hN : 1 ≤ N) (hN6 : N ≤ 60) (hr : ¬ xSearch d (nI N) 0 = -1) : ∃ d' r', f_Scav_putLinksRight d f w m s (nI N) = some ((), d') ∧ f_Mod_link r (nI N) = some ((), r') ∧ SK (N + 1) B d' r' M ∧ LSm d d' ∧ d'.2 = d.2 ∧ rO r' = rO r := by
  obtain ⟨h1, h2, h3, h4, h5, h6⟩ := h
  have hK := h5.2 N hN hN6
  have hM := hK.1
  have hP := PGS.of hK hN6 hr
  generalize (fun q => (xSearch d (nI N) (nI q)).toNatClampNeg) = P at hP
  unfold f_Scav_putLinksRight f_Mod_link
  obtain ⟨d1, c1, c2⟩ := C_lkL (f := f) (w := w) (m := m) (s := s) hN6 hP hK (M N + 1) 0 (by omega) 100 (by omega) d ⟨rfl, fun q hq => absurd hq (by omega), fun q hq => absurd hq (by omega), fun _ _ _ _ _ => rfl⟩
  obtain ⟨r1, e1, e2⟩ := R_lkL (r0 := r) hN hN6 hP hK (M N + 1) 0 (by omega) 1000 (by omega) r ⟨rfl, fun q hq => absurd hq (by omega), fun q hq => absurd hq (by omega), fun _ _ _ _ _ => rfl⟩
  have hl : LSm d (dSet d1 (P 0) (5 + 3) (nI (P (M N)))) := (CL.lsm hP (by omega) c2).trans (LSm.set (by decide) (by decide) _ (by rw [show dUnr d1 = dUnr d from congrArg (·.2.1) c2.1]; exact (hP 0 (Nat.zero_le _)).2.2.1))
  obtain ⟨a1, a2, a3, a4⟩ := c2
  obtain ⟨b1, b2, b3, b4⟩ := e2
  have hO : rO (rSet r1 (P 0) (5 + 3) (nI (P (M N)))) = rO r := (rSet_O _ _ _ _).trans b1
  have hd2 : (dSet d1 (P 0) (5 + 3) (nI (P (M N)))).2 = d.2 := a1
  refine ⟨_, _, c1, e1, ⟨fun i hi k hk q => ?_, h2.cg (congrArg (·.2) hd2) (oth_bad (rO_oth hO)) (rO_i hO), ?_, h4.lab hl, h5.lab hl.1 hl.2.1 (rT_tab (rO_T hO)) (rT_man (rO_T hO)), h6.lab hl⟩, hl, hd2, hO⟩
  · rw [dSet_at (by decide) hk, rSet_at (by decide) hk]
    by_cases e0 : i = P 0 ∧ k = 5 + 3
    · rw [if_pos e0, if_pos e0]
    · rw [if_neg e0, if_neg e0]
      by_cases hex : ∃ p, p < M N + 1 ∧ i = P p
      · obtain ⟨p, p1, rfl⟩ := hex
        by_cases k3 : k = 3
        · subst k3
          rw [a2 p p1, b2 p p1]
          by_cases z : p < M N
          · rw [if_pos (by omega), if_pos z]
          · rw [if_neg (by omega), if_neg z]
        · by_cases k4 : k = 4
          · subst k4
            rw [a3 p p1, b3 p p1]
          · rw [a4 _ k hi hk (Or.inl ⟨k3, k4⟩), b4 _ k hi hk (Or.inl ⟨k3, k4⟩)]
            exact h1 _ hi k hk (fun _ => ⟨k3, k4⟩)
      · have hno : ∀ p, p < M N + 1 → i ≠ P p := fun p hp z => hex ⟨p, hp, z⟩
        rw [a4 i k hi hk (Or.inr hno), b4 i k hi hk (Or.inr hno)]
        refine h1 i hi k hk (fun z => q ⟨?_, ?_⟩)
        · rw [hl.2.1]; exact z.1
        · obtain ⟨t, t1, t2, t3⟩ := z.2
          refine ⟨t, ?_, t2, ?_⟩
          · by_cases e : t = N
            · exfalso
              subst e
              obtain ⟨p, p1, p2⟩ := hK.2.2.2.2.2.1 i hi z.1 t3
              have hS := U_search h5.1 (nI_m1 (by omega)) (nI_ne0 (by omega) (by omega)) hi z.1 t3 p2
              have hPp := hP p p1
              have : i = P p := (nI_eq (by omega) (by omega)).mp (hS.symm.trans hPp.2.1)
              exact hno p (by omega) this
            · omega
          · rw [show dCells (dSet d1 (P 0) (5 + 3) (nI (P (M N)))) (i * 13) = dCells d (i * 13) from hl.1 i hi 0 (by decide)]; exact t3
  · refine IV.set (IV.of_ok h3.1 (fun y hy => by rw [show dUnr d1 = dUnr d from congrArg (·.2.1) a1]; exact (h3.2 y hy).1) (fun y hy k hk => ?_)) (by decide) (vOKb (j := 3) (by have := (hP (M N) (Nat.le_refl _)).1; omega))
    by_cases hex : (k = 3 ∨ k = 4) ∧ ∃ p, p < M N + 1 ∧ y = P p
    · obtain ⟨hk34, p, p1, rfl⟩ := hex
      refine Or.inl ⟨hk34, ?_⟩
      rcases hk34 with rfl | rfl
      · rw [a2 p p1]
        by_cases z : p + 1 < M N + 1
        · rw [if_pos z]; exact Or.inr ⟨_, (hP (p + 1) (by omega)).1, rfl⟩
        · rw [if_neg z]; exact Or.inl rfl
      · rw [a3 p p1]
        by_cases z : p = 0
        · rw [if_pos z]; exact Or.inl rfl
        · rw [if_neg z]; exact Or.inr ⟨_, (hP (p - 1) (by omega)).1, rfl⟩
    · rw [a4 y k hy hk (by
        by_cases z : k = 3 ∨ k = 4
        · exact Or.inr (fun p hp e => hex ⟨z, p, hp, e⟩)
        · exact Or.inl ⟨fun q => z (Or.inl q), fun q => z (Or.inr q)⟩)]
      exact vOK_of h3 hy hk
/-- a file that is not there: the class does nothing -/
theorem C_nolink {N : Nat} (hno : xSearch d (nI N) 0 = -1) : f_Scav_putLinksRight d f w m s (nI N) = some ((), d) := by
  unfold f_Scav_putLinksRight
  rw [show (100 : Nat) = 99 + 1 from rfl]
  unfold L_Scav_putLinksRight_4
  rw [if_neg (by decide), if_neg (not_not_intro hno)]
  unfold B_Scav_putLinksRight_72 B_Scav_putLinksRight_90
  rw [hno]
  have : (f_Disk_setByte d (-1) 3 (-1)).2 = d := by
    show xSetCell d (-1) (5 + 3) ((-1) &&& 255) = d
    exact if_neg (fun z => absurd z.1 (by decide))
  rw [this]
theorem X_isThere {sn Mn : Nat} (hK : KF d (rTab r) (rMan r) sn Mn) (hs1 : 1 ≤ sn) (hs : sn ≤ 60) : f_Mod_isThere r (nI sn) = some (if xSearch d (nI sn) 0 = -1 then 0 else 1, ()) := by
  unfold f_Mod_isThere
  have q := in160' hs1 hs
  rw [if_neg (fun z => ((inab _ _ _).mp z).elim q.1 q.2.2), R_headOf rfl hK hs, bnd_some]
  unfold B_Mod_isThere_15 B_Mod_isThere_22
  rcases hd_cases (d := d) (nI sn) 0 with e | ⟨i, i1, e⟩
  · rw [e, if_pos rfl, if_pos (show ((-1 : Int32), ()).1 < 0 from (by decide : (-1 : Int32) < 0))]
  · rw [e, if_neg (nI_m1 (by omega)), if_neg (show ¬ (nI i, ()).1 < 0 from nI_pos (by omega))]
/-- what is done with the map's page -/
def PRe (d : DS) (f : FS) (w : WS) (m : MS) (s : SS) : Option (Unit × DS) := if (xSearch d 2 1) = (-1) then (B_Scav_putRight_52 d f w m s) else (B_Scav_putRight_44 (xSetCell d (xSearch d 2 1) 2 5) f w m s (xSearch d 2 1))
theorem R_rightL : ∀ j N, N + j = 61 → 1 ≤ N → ∀ n1 n2, j < n1 → j < n2 → ∀ d r, SK N B d r M → rRep r 0 = nI (thN d (N - 1)) → ∃ d' r', L_Scav_putRight_2 n1 d f w m s (nI N) = PRe d' f w m s ∧ L_Mod_right_2 n2 r (nI N) = bnd (f_Mod_isThere r' 2) (fun q => B_Mod_right_46 r' q.1) ∧ SK 61 B d' r' M ∧ LSm d d' ∧ d'.2 = d.2 ∧ rT r' = rT r ∧ rRep r' 0 = nI (thN d 60) ∧ ∀ k, k ≠ 0 → rRep r' k = rRep r k := by
  intro j
  induction j with
  | zero =>
    intro N hN hN1 n1 n2 hn1 hn2 d r h hr
    obtain ⟨n1, rfl⟩ : ∃ n', n1 = n' + 1 := ⟨n1 - 1, by omega⟩
    obtain ⟨n2, rfl⟩ : ∃ n', n2 = n' + 1 := ⟨n2 - 1, by omega⟩
    obtain rfl : N = 61 := by omega
    refine ⟨d, r, ?_, ?_, h, LSm.refl d, rfl, rfl, hr, fun _ _ => rfl⟩
    · unfold L_Scav_putRight_2
      rw [if_pos (by decide)]; rfl
    · unfold L_Mod_right_2
      rw [if_pos (by decide)]
  | succ j ih =>
    intro N hN hN1 n1 n2 hn1 hn2 d r h hr
    obtain ⟨n1, rfl⟩ : ∃ n', n1 = n' + 1 := ⟨n1 - 1, by omega⟩
    obtain ⟨n2, rfl⟩ : ∃ n', n2 = n' + 1 := ⟨n2 - 1, by omega⟩
    have hth : thN d (N + 1 - 1) = thN d (N - 1) + (if xSearch d (nI N) 0 = -1 then 0 else 1) := by
      obtain ⟨a, rfl⟩ : ∃ a, N = a + 1 := ⟨N - 1, by omega⟩
      rfl
    have hC : ∀ d1, f_Scav_putLinksRight d f w m s (nI N) = some ((), d1) → L_Scav_putRight_2 (n1 + 1) d f w m s (nI N) = L_Scav_putRight_2 n1 d1 f w m s (nI (N + 1)) := fun d1 e => by
      show (if (60 : Int32) < nI N then _ else _) = _
      rw [if_neg (show ¬ (60 : Int32) < nI N from nI_nlt (a := 60) (by omega) (by decide)), e, bnd_some]
      unfold B_Scav_putRight_13
      rw [nI_1]
    have hR : L_Mod_right_2 (n2 + 1) r (nI N) = B_Mod_right_13 (L_Mod_right_2 n2) r (nI N) (if xSearch d (nI N) 0 = -1 then 0 else 1) := by
      show (if (61 : Int32) ≤ nI N then _ else _) = _
      rw [if_neg (show ¬ (61 : Int32) ≤ nI N from nI_ge (b := 61) (by omega) (by decide)), X_isThere (h.2.2.2.2.1.2 N hN1 (by omega)) hN1 (by omega), bnd_some]
    by_cases hno : xSearch d (nI N) 0 = -1
    · rw [if_pos hno] at hth hR
      obtain ⟨d', r', g1, g2, g3, g4, g5, g6, g7, g8⟩ := ih (N + 1) (by omega) (by omega) n1 n2 (by omega) (by omega) d r (h.skip hN1 (by omega) hno) (by rw [hth]; exact hr)
      refine ⟨d', r', by rw [hC d (C_nolink hno)]; exact g1, ?_, g3, g4, g5, g6, g7, g8⟩
      rw [hR]
      unfold B_Mod_right_13 B_Mod_right_35
      rw [if_pos rfl, nI_1]
      exact g2
    · rw [if_neg hno] at hth hR
      obtain ⟨d1, r1, c1, c2, c3, c4, c5, c6⟩ := R_linkF (f := f) (w := w) (m := m) (s := s) h hN1 (by omega) hno
      have P1 : upd (rRep r1) 0 (nI (thN d (N - 1) + 1)) 0 = nI (thN d (N - 1) + 1) := pk_us
      have P2 : ∀ a, a ≠ 0 → upd (rRep r1) 0 (nI (thN d (N - 1) + 1)) a = rRep r1 a := fun a ha => pk_un ha
      have hR2 : L_Mod_right_2 (n2 + 1) r (nI N) = L_Mod_right_2 n2 (rSRep r1 (upd (rRep r1) 0 (nI (thN d (N - 1) + 1)))) (nI (N + 1)) := by
        rw [hR]
        unfold B_Mod_right_13
        rw [if_neg (by decide), c2, bnd_some]
        unfold B_Mod_right_21 B_Mod_right_35
        rw [if_pos (by decide), if_pos (by decide), nI_1, show rRep r1 (0 : Int32).toNatClampNeg = nI (thN d (N - 1)) from by rw [rO_rep c6]; exact hr, nI_1]
        rfl
      generalize upd (rRep r1) 0 (nI (thN d (N - 1) + 1)) = T at P1 P2 hR2
      have eRep : rRep (rSRep r1 T) = T := Rep_Rep _ _
      have eT : rT (rSRep r1 T) = rT r := (rT_rep r1 T).trans (rO_T c6)
      have h3 := c3.rep T
      generalize rSRep r1 T = r2 at eRep eT h3 hR2
      obtain ⟨d', r', g1, g2, g3, g4, g5, g6, g7, g8⟩ := ih (N + 1) (by omega) (by omega) n1 n2 (by omega) (by omega) d1 r2 h3 (by rw [thN_lab c4 _ (by omega), hth, eRep, P1])
      refine ⟨d', r', by rw [hC d1 c1]; exact g1, by rw [hR2]; exact g2, g3, c4.trans g4, g5.trans c5, g6.trans eT, by rw [g7, thN_lab c4 _ (by omega)], fun k hk => by rw [g8 k hk, eRep, P2 k hk, rO_rep c6]⟩
/-- files counted -/
theorem C_countF (I : IV B d) : ∀ j N, N + j = 61 → 1 ≤ N → ∀ n, j < n → L_Scav_countFiles_4 n d f w m s (nI (thN d (N - 1))) (nI N) = some (nI (thN d 60), ()) := by
  intro j
  induction j with
  | zero =>
    intro N hN hN1 n hn
    obtain ⟨n, rfl⟩ : ∃ n', n = n' + 1 := ⟨n - 1, by omega⟩
    obtain rfl : N = 61 := by omega
    unfold L_Scav_countFiles_4
    rw [if_pos (by decide)]
  | succ j ih =>
    intro N hN hN1 n hn
    obtain ⟨n, rfl⟩ : ∃ n', n = n' + 1 := ⟨n - 1, by omega⟩
    have hn := ih (N + 1) (by omega) (by omega) n (by omega)
    have hth : thN d (N + 1 - 1) = thN d (N - 1) + (if xSearch d (nI N) 0 = -1 then 0 else 1) := by
      obtain ⟨a, rfl⟩ : ∃ a, N = a + 1 := ⟨N - 1, by omega⟩
      rfl
    unfold L_Scav_countFiles_4 f_Scav_isThere B_Scav_isThere_28
    rw [if_neg (show ¬ (60 : Int32) < nI N from nI_nlt (a := 60) (by omega) (by decide)), if_neg (show ¬ nI N < 1 from nI_nlt (b := 1) (by omega) (by omega)), if_neg (show ¬ (60 : Int32) < nI N from nI_nlt (a := 60) (by omega) (by decide))]
    unfold B_Scav_countFiles_24
    rw [nI_1]
    by_cases q : xSearch d (nI N) 0 = -1
    · rw [if_pos q, if_pos rfl, Int32.add_zero]
      rw [hth, if_pos q] at hn
      exact hn
    · rw [if_neg q, if_neg (show ¬ ((1 : Int32), ()).1 = 0 from (by decide : ¬ (1 : Int32) = 0)), nI_1]
      rw [hth, if_neg q] at hn
      exact hn
end RI2
