/-! scavenging: the pages lost on both sides; leaders for the files without -/
section S9
variable {d : DS} {r : RS} {f : FS} {w : WS} {m : MS} {s : SS} {g : GS} {B : Nat} {E : Nat → Prop} {M : Nat → Nat}
theorem cell0_iff {sn y : Nat} (hs1 : 1 ≤ sn) (hs : sn ≤ 60) (hy : y < 40) : xCell d (nI y) 0 = nI sn ↔ (dUnr d y = 0 ∧ dCells d (y * 13) = nI sn) := by
  by_cases u : dUnr d y = 0
  · rw [xc0 hy u]; exact ⟨fun q => ⟨u, q⟩, fun q => q.2⟩
  · rw [xcu hy u]; exact ⟨fun q => absurd q.symm (nI_m1 (by omega)), fun q => absurd q.1 u⟩
theorem R_losePages {sn : Nat} (h : SI E B d s r M) (hs1 : 1 ≤ sn) (hs : sn ≤ 60) (hno : xSearch d (nI sn) 0 = -1) : ∃ d' s' r', f_Scav_losePages d f w m s (nI sn) = some ((), (d', s')) ∧ f_Mod_losePages r (nI sn) = some ((), r') ∧ SI E B d' s' r' (tU M sn 0) ∧ KE d r d' r' ∧ sRea s' = sRea s ∧ rRea r' = rRea r ∧ xSearch d' (nI sn) 0 = -1 ∧ (∀ t p, 1 ≤ t → t ≤ 60 → t ≠ sn → xSearch d' (nI t) p = xSearch d (nI t) p) ∧ (∀ y, y < 40 → ¬ dCells d (y * 13) = nI sn → ∀ k, k < 13 → dCells d' (y * 13 + k) = dCells d (y * 13 + k)) := by
  obtain ⟨hR, I, X, ⟨hU, hF⟩, hV⟩ := h
  have hK := hF sn hs1 hs
  have hsn : ¬ nI sn = -1 := nI_m1 (by omega)
  have hsn0 : ¬ nI sn = 0 := nI_ne0 (by omega) (by omega)
  obtain ⟨k1, k2, k3, k4, k5, k6, k7⟩ := hK
  obtain ⟨d', c1, c2, c3⟩ := C_lp (d := d) (f := f) (w := w) (m := m) (s := s) hs
  obtain ⟨r', e1, e2, e3, e4, e5, e6, e7, e8, e9, e10, e11, e12⟩ := R_lpR (d := d) hs1 hs r (hF sn hs1 hs) (M sn) 1 (by omega) (Nat.le_refl _) 1000 (by omega) r (fun y hy k hk => ⟨fun ⟨q, q1, q2, _⟩ => absurd q2 (by omega), fun _ => rfl⟩) rfl rfl rfl (by show rRep r 1 = rRep r 1 + nI 0; rw [show (nI 0 : Int32) = 0 from rfl, Int32.add_zero]) (fun _ _ => rfl)
  have hu : dUnr d' = dUnr d := congrArg (·.2.1) c2
  -- the sectors of the file
  have hof : ∀ y, y < 40 → (xCell d (nI y) 0 = nI sn ↔ ofP d sn (M sn) y) := fun y hy => by
    rw [cell0_iff hs1 hs hy]
    constructor
    · rintro ⟨u, c⟩
      obtain ⟨p, p1, p2⟩ := k6 y hy u c
      have hs := U_search hU hsn hsn0 hy u c p2
      refine ⟨p, ?_, p1, hs⟩
      rcases Nat.eq_zero_or_pos p with z | z
      · rw [z, show nI 0 = (0 : Int32) from rfl, hno] at hs
        exact absurd hs.symm (nI_m1 (by omega))
      · exact z
    · rintro ⟨q, q1, q2, q3⟩
      obtain ⟨i, i1, i2, i3, i4, -⟩ := found hsn (k5 q q1 q2).2
      have e : i = y := (nI_eq (by omega) (by omega)).mp (i2.symm.trans q3)
      subst e
      exact ⟨i3, i4⟩
  have hrow : ∀ y, y < 40 → xCell d (nI y) 0 = nI sn → ∀ k, k < 13 → dCells d' (y * 13 + k) = eV k := fun y hy q k hk => (c3 y hy k hk).trans (if_pos q)
  have hrow' : ∀ y, y < 40 → ¬ xCell d (nI y) 0 = nI sn → ∀ k, k < 13 → dCells d' (y * 13 + k) = dCells d (y * 13 + k) := fun y hy q k hk => (c3 y hy k hk).trans (if_neg q)
  have halive : ∀ y, y < 40 → dUnr d' y = 0 → ¬ dCells d' (y * 13) = 0 → ¬ xCell d (nI y) 0 = nI sn := fun y hy u q z => q (hrow y hy z 0 (by decide))
  have hcnt : cnN (fun y => decide (xCell d (nI y) 0 = nI sn)) 40 = M sn := by
    refine cnN_img (M sn) 40 _ (fun p => (xSearch d (nI sn) (nI p)).toNatClampNeg) (fun p p1 p2 => ?_) (fun p q p1 p2 q1 q2 e => ?_) (fun y hy hP => ?_)
    · obtain ⟨i, i1, i2, i3, i4, -⟩ := found hsn (k5 p p1 p2).2
      show (xSearch d (nI sn) (nI p)).toNatClampNeg < 40 ∧ decide (xCell d (nI (xSearch d (nI sn) (nI p)).toNatClampNeg) 0 = nI sn) = true
      rw [i2, cl_nI (by omega)]
      exact ⟨i1, decide_eq_true ((cell0_iff hs1 hs i1).mpr ⟨i3, i4⟩)⟩
    · obtain ⟨i, i1, i2, i3, i4, i5⟩ := found hsn (k5 p p1 p2).2
      obtain ⟨j, j1, j2, j3, j4, j5⟩ := found hsn (k5 q q1 q2).2
      have e' : (xSearch d (nI sn) (nI p)).toNatClampNeg = (xSearch d (nI sn) (nI q)).toNatClampNeg := e
      rw [i2, j2, cl_nI (by omega), cl_nI (by omega)] at e'
      subst e'
      exact (nI_eq (by omega) (by omega)).mp (i5.symm.trans j5)
    · obtain ⟨q, q1, q2, q3⟩ := (hof y hy).mp (of_decide_eq_true hP)
      exact ⟨q, q1, q2, by show (xSearch d (nI sn) (nI q)).toNatClampNeg = y; rw [q3, cl_nI (by omega)]⟩
  rw [hcnt] at c1
  -- searches
  have hsr : ∀ t p, 1 ≤ t → t ≤ 60 → t ≠ sn → xSearch d' (nI t) p = xSearch d (nI t) p := fun t p t1 t2 tn => by
    have htn : ¬ nI t = nI sn := fun q => tn ((nI_eq (by omega) (by omega)).mp q)
    refine S_cg (fun i hi => says_cg (nI_m1 (by omega)) hi ?_)
    rw [hu]
    by_cases q : xCell d (nI i) 0 = nI sn
    · have q' := (cell0_iff hs1 hs hi).mp q
      have e0 : dCells d' (i * 13) = 0 := hrow i hi q 0 (by decide)
      rw [e0, q'.2]
      exact ⟨fun z => absurd z.2.1.symm (nI_ne0 (by omega) (by omega)), fun z => absurd z.2.1.symm htn⟩
    · rw [show dCells d' (i * 13) = dCells d (i * 13) from hrow' i hi q 0 (by decide), hrow' i hi q 1 (by decide)]
  have hnone : ∀ p, xSearch d' (nI sn) p = -1 := fun p => by
    refine U_none hsn (fun i hi ui c => ?_)
    have := halive i hi ui (by rw [c]; exact hsn0)
    exact absurd ((cell0_iff hs1 hs hi).mpr ⟨by rw [← hu]; exact ui, by rw [← show dCells d' (i * 13) = dCells d (i * 13) from hrow' i hi this 0 (by decide)]; exact c⟩) this
  refine ⟨d', _, r', c1, e1, ⟨?_, ?_, ?_, ⟨?_, fun t t1 t2 => ?_⟩, ?_⟩, ⟨hu, congrArg (·.1) c2, e8, e10, fun y hy u k hk => hrow' y hy (fun z => u ((cell0_iff hs1 hs hy).mp z).1) k hk⟩, rfl, e9, hnone 0, hsr, fun y hy q => hrow' y hy (fun z => q ((cell0_iff hs1 hs hy).mp z).2)⟩
  · refine hR.oth (fun i hi k hk q1 q2 => ?_) (congrArg (·.2) c2) e3 e4
    by_cases q : xCell d (nI i) 0 = nI sn
    · rw [hrow i hi q k hk, (e2 i hi k hk).1 ((hof i hi).mp q)]
    · rw [hrow' i hi q k hk, (e2 i hi k hk).2 (fun z => q ((hof i hi).mpr z))]
      refine hR.1 i hi k hk (fun z => q1 ?_) q2
      rw [show dCells d' (i * 13) = dCells d (i * 13) from hrow' i hi q 0 (by decide), hu]; exact z
  · refine IV.of_ok I.1 (fun y hy => by rw [hu]; exact (I.2 y hy).1) (fun y hy k hk => ?_)
    by_cases q : xCell d (nI y) 0 = nI sn
    · rw [hrow y hy q k hk]
      by_cases k3 : k = 3 ∨ k = 4
      · exact Or.inl ⟨k3, Or.inl (by unfold eV; rw [if_pos k3])⟩
      · exact Or.inr ⟨k3, 0, Nat.zero_le _, by unfold eV; rw [if_neg k3]; rfl⟩
    · rw [hrow' y hy q k hk]; exact vOK_of I hy hk
  · refine ⟨fun y hy => ?_, ?_, fun y hy => ?_⟩
    rotate_left 2
    · by_cases q : xCell d (nI y) 0 = nI sn
      · intro z
        rw [show dCells d' (y * 13) = 0 from hrow y hy q 0 (by decide)] at z
        exact absurd z (by decide)
      · rw [show dCells d' (y * 13) = dCells d (y * 13) from hrow' y hy q 0 (by decide), hrow' y hy q 1 (by decide), hrow' y hy q 2 (by decide)]; exact X.2.2 y hy
    · by_cases q : xCell d (nI y) 0 = nI sn
      · intro z; exact absurd (hrow y hy q 0 (by decide)) z
      · rw [show dCells d' (y * 13) = dCells d (y * 13) from hrow' y hy q 0 (by decide), hrow' y hy q 1 (by decide), hrow' y hy q 2 (by decide)]; exact X.1 y hy
    · rcases X.2.1 with z | ⟨z1, z2⟩
      · exact Or.inl (by rw [hu]; exact z)
      · by_cases u0 : dUnr d 0 = 0
        · have q : ¬ xCell d (nI 0) 0 = nI sn := fun q => by
            obtain ⟨p, p1, p2, p3⟩ := (hof 0 (by decide)).mp q
            obtain ⟨i, i1, i2, i3, i4, i5⟩ := found hsn (k5 p p1 p2).2
            have e : i = 0 := (nI_eq (by omega) (by decide)).mp (i2.symm.trans p3)
            subst e
            rw [show 0 * 13 + 1 = 1 from rfl, z2] at i5
            exact absurd ((nI_eq (a := 0) (by decide) (by omega)).mp i5) (by omega)
          exact Or.inr ⟨(hrow' 0 (by decide) q 0 (by decide)).trans z1, (hrow' 0 (by decide) q 1 (by decide)).trans z2⟩
        · exact Or.inl (by rw [hu]; exact u0)
  · intro i j hi hj ui uj h0 a1 a2
    have qi := halive i hi ui h0
    have qj := halive j hj uj (by rw [← a1]; exact h0)
    have e0 : dCells d' (i * 13) = dCells d (i * 13) := hrow' i hi qi 0 (by decide)
    have e0' : dCells d' (j * 13) = dCells d (j * 13) := hrow' j hj qj 0 (by decide)
    rw [e0] at h0 a1
    rw [e0'] at a1
    rw [hrow' i hi qi 1 (by decide), hrow' j hj qj 1 (by decide)] at a2
    exact hU i j hi hj (by rw [← hu]; exact ui) (by rw [← hu]; exact uj) h0 a1 a2
  · by_cases et : t = sn
    · subst et
      rw [tU_eq]
      refine ⟨by omega, fun _ => by omega, e6, ?_, fun p p1 p2 => absurd p2 (by omega), fun i hi ui c => ?_, fun p p1 p2 => absurd p2 (by omega)⟩
      · rw [e5, k4, hno, hnone]
      · have := halive i hi ui (by rw [c]; exact hsn0)
        exact absurd ((cell0_iff hs1 hs hi).mpr ⟨by rw [← hu]; exact ui, by rw [← show dCells d' (i * 13) = dCells d (i * 13) from hrow' i hi this 0 (by decide)]; exact c⟩) this
    · rw [tU_ne et]
      obtain ⟨j1, j2, j3, j4, j5, j6, j7⟩ := hF t t1 t2
      have htn : ¬ nI t = nI sn := fun q => et ((nI_eq (by omega) (by omega)).mp q)
      refine ⟨j1, j2, (e7 t et).trans j3, ?_, fun p p1 p2 => ?_, fun i hi ui c => ?_, fun p p1 p2 => ?_⟩
      · rw [e5, hsr t 0 t1 t2 et]; exact j4
      · rw [e5, hsr t _ t1 t2 et]; exact j5 p p1 p2
      · have q := halive i hi ui (by rw [c]; exact nI_ne0 (by omega) (by omega))
        rw [hrow' i hi q 1 (by decide)]
        exact j6 i hi (by rw [← hu]; exact ui) (by rw [← show dCells d' (i * 13) = dCells d (i * 13) from hrow' i hi q 0 (by decide)]; exact c)
      · obtain ⟨i, i1, i2, i3⟩ := j7 p p1 p2
        rw [hsr t _ t1 t2 et]
        refine ⟨i, i1, i2, ?_⟩
        have q : ¬ xCell d (nI i) 0 = nI sn := fun q => by
          obtain ⟨i', i1', i2', i3', i4', -⟩ := found (d := d) (s := nI t) (p := nI p) (nI_m1 (by omega)) (by rw [i2]; exact nI_m1 (by omega))
          have e : i' = i := (nI_eq (by omega) (by omega)).mp (i2'.symm.trans i2)
          subst e
          exact htn (i4'.symm.trans ((cell0_iff hs1 hs i1').mp q).2)
        rw [hrow' i i1 q 2 (by decide)]; exact i3
  · obtain ⟨v1, v2, v3, v4, v5, v6⟩ := hV
    unfold SV
    rw [e11, e12 2 (by decide), e12 3 (by decide), e12 0 (by decide), e12 4 (by decide), e9]
    exact ⟨by show sLos s + nI (M sn) = _; rw [v1], v2, v3, v4, v5, v6⟩
theorem R_headOf {sn Mn : Nat} {tb mn : Nat → Int32} (ht : rTab r = tb) (h : KF d tb mn sn Mn) (hs : sn ≤ 60) : f_Mod_headOf r (nI sn) = some (xSearch d (nI sn) 0, ()) := by
  unfold f_Mod_headOf
  rw [ix40h, if_pos (inB_nI (show 40 * sn < 2440 by omega) (by decide)), cl_nI (by omega), ht, h.2.2.2.1, Int32.add_sub_cancel]
theorem hd_cases (sn p : Int32) : xSearch d sn p = -1 ∨ ∃ i, i < 40 ∧ xSearch d sn p = nI i := by
  have h := fsF_spec (xSays d sn p) 40 0
  have e : xSearch d sn p = fsM (fsF (xSays d sn p) 0 40) nI (-1) := rfl
  cases hf : fsF (xSays d sn p) 0 40 with
  | none => rw [hf] at e; exact Or.inl e
  | some j => rw [hf] at h e; exact Or.inr ⟨j, by omega, e⟩
theorem R_heads1 : ∀ j sn, sn + j = 61 → 3 ≤ sn → ∀ n1 n2, j < n1 → j < n2 → ∀ d s r M, SI E B d s r M → ∃ d' s' r' M', L_Scav_makeLeaders_2 n1 d f w m s (nI sn) = bnd (f_Scav_provideLeader d' f w m s' 1 1) (fun q => B_Scav_makeLeaders_70 q.2.1 f w m q.2.2) ∧ L_Mod_heads_2 n2 r (nI sn) = L_Mod_heads_57 1000 r' 1 ∧ SI E B d' s' r' M' ∧ KE d r d' r' ∧ sRea s' = sRea s ∧ rRea r' = rRea r ∧ (∀ t, sn ≤ t → t ≤ 60 → xSearch d' (nI t) 0 = -1 → M' t = 0) ∧ (∀ t, 1 ≤ t → t < sn → xSearch d' (nI t) 0 = xSearch d (nI t) 0 ∧ M' t = M t) := by
  intro j
  induction j with
  | zero =>
    intro sn hs hs3 n1 n2 h1 h2 d s r M h
    obtain ⟨a, rfl⟩ : ∃ a, n1 = a + 1 := ⟨n1 - 1, by omega⟩
    obtain ⟨b, rfl⟩ : ∃ b, n2 = b + 1 := ⟨n2 - 1, by omega⟩
    obtain rfl : sn = 61 := by omega
    rw [L_Scav_makeLeaders_2, L_Mod_heads_2, if_pos (by decide), if_pos (by decide)]
    exact ⟨d, s, r, M, rfl, rfl, h, KE.refl d r, rfl, rfl, fun t t1 t2 => absurd t2 (by omega), fun _ _ _ => ⟨rfl, rfl⟩⟩
  | succ j ih =>
    intro sn hs hs3 n1 n2 h1 h2 d s r M h
    obtain ⟨a, rfl⟩ : ∃ a, n1 = a + 1 := ⟨n1 - 1, by omega⟩
    obtain ⟨b, rfl⟩ : ∃ b, n2 = b + 1 := ⟨n2 - 1, by omega⟩
    have hs60 : sn ≤ 60 := by omega
    have hF := h.2.2.2.1.2 sn (by omega) hs60
    have hF' := hF
    obtain ⟨k1, k2, k3, k4, k5, k6, k7⟩ := hF
    have hsin : inB (nI sn) 61 := inB_nI (by omega) (by decide)
    rw [L_Scav_makeLeaders_2, L_Mod_heads_2, if_neg (in160' (show 1 ≤ sn by omega) hs60).2.2, if_neg (gn 61 (N := 61) (by omega)), C_isThere (by omega) hs60, R_headOf rfl hF' hs60, bnd_some]
    unfold B_Scav_makeLeaders_33 B_Mod_heads_13
    -- on, with this file in order
    have hgo : ∀ d1 s1 r1 M1, SI E B d1 s1 r1 M1 → KE d r d1 r1 → sRea s1 = sRea s → rRea r1 = rRea r → (xSearch d1 (nI sn) 0 = -1 → M1 sn = 0) → (∀ t, 1 ≤ t → t ≤ 60 → t ≠ sn → xSearch d1 (nI t) 0 = xSearch d (nI t) 0 ∧ M1 t = M t) → ∃ d' s' r' M', L_Scav_makeLeaders_2 a d1 f w m s1 (nI (sn + 1)) = bnd (f_Scav_provideLeader d' f w m s' 1 1) (fun q => B_Scav_makeLeaders_70 q.2.1 f w m q.2.2) ∧ L_Mod_heads_2 b r1 (nI (sn + 1)) = L_Mod_heads_57 1000 r' 1 ∧ SI E B d' s' r' M' ∧ KE d r d' r' ∧ sRea s' = sRea s ∧ rRea r' = rRea r ∧ (∀ t, sn ≤ t → t ≤ 60 → xSearch d' (nI t) 0 = -1 → M' t = 0) ∧ (∀ t, 1 ≤ t → t < sn → xSearch d' (nI t) 0 = xSearch d (nI t) 0 ∧ M' t = M t) := by
      intro d1 s1 r1 M1 q1 q2 q3 q4 q5 q6
      obtain ⟨d', s', r', M', v1, v2, v3, v4, v5, v6, v7, v8⟩ := ih (sn + 1) (by omega) (by omega) a b (by omega) (by omega) d1 s1 r1 M1 q1
      refine ⟨d', s', r', M', v1, v2, v3, q2.trans v4, v5.trans q3, v6.trans q4, fun t t1 t2 z => ?_, fun t t1 t2 => ?_⟩
      · by_cases e : t = sn
        · subst e
          obtain ⟨w1, w2⟩ := v8 t (by omega) (by omega)
          rw [w2]; exact q5 (by rw [← w1]; exact z)
        · exact v7 t (by omega) t2 z
      · obtain ⟨w1, w2⟩ := v8 t t1 (by omega)
        obtain ⟨w3, w4⟩ := q6 t t1 (by omega) (by omega)
        exact ⟨w1.trans w3, w2.trans w4⟩
    rcases hd_cases (d := d) (nI sn) 0 with e | ⟨i, i1, e⟩
    · rw [if_pos e, if_neg (not_not_intro (show ((0 : Int32), ()).1 = 0 from rfl)), e, if_neg (show ¬ (0 : Int32) ≤ ((-1 : Int32), ()).1 from (by decide : ¬ (0 : Int32) ≤ -1)), if_pos hsin, cl_nI (by omega), k3]
      by_cases hM0 : M sn = 0
      · have hno1 : xSearch d (nI sn) 1 = -1 := hF'.beyond (p := 1) hs60 (by omega) (by decide)
        rw [if_pos hno1, hM0, if_pos (show nI 0 ≤ 0 by decide)]
        unfold B_Scav_makeLeaders_34 B_Scav_makeLeaders_58 B_Mod_heads_49
        rw [if_pos rfl, nI_1]
        exact hgo d s r M h (KE.refl d r) rfl rfl (fun _ => hM0) (fun _ _ _ _ => ⟨rfl, rfl⟩)
      · have hno1 : ¬ xSearch d (nI sn) 1 = -1 := (k5 1 (Nat.le_refl _) (by omega)).2
        rw [if_neg hno1, if_neg (nI_nle (by omega) (by omega))]
        unfold B_Scav_makeLeaders_34 B_Scav_makeLeaders_50 B_Scav_makeLeaders_58
        rw [if_neg (by decide), show (10000 + nI sn : Int32) = nI (10000 + sn) from nI_off (a := 10000) 10000, show (0 : Int32) = nI 0 from rfl]
        rcases R_crown (f := f) (w := w) (m := m) (sn := sn) (n := 10000 + sn) (kd := 0) h (by omega) hs60 e (by omega) (by decide) with ⟨u1, u2, u3⟩ | ⟨d1, s1, r1, x, u1, u2, u3, u4, u5, u6, u7, u8, u9, u10⟩
        · rw [u2, u3, bnd_some]
          unfold B_Mod_heads_36 B_Mod_heads_41 B_Mod_heads_49
          obtain ⟨d1, s1, r1, l1, l2, l3, l4, l5, l6, l7, l8, -⟩ := R_losePages (f := f) (w := w) (m := m) h (show 1 ≤ sn by omega) hs60 e
          rw [if_neg (not_not_intro (show ((0 : Int32), (d, s)).1 = nI 0 from rfl)), show f_Mod_headOf ((), r).2 (nI sn) = _ from R_headOf rfl hF' hs60, bnd_some, e, if_neg (show ¬ (0 : Int32) ≤ ((-1 : Int32), ()).1 from (by decide : ¬ (0 : Int32) ≤ -1)), show f_Scav_losePages ((0 : Int32), (d, s)).2.1 f w m ((0 : Int32), (d, s)).2.2 (nI sn) = _ from l1, show f_Mod_losePages ((), r).2 (nI sn) = _ from l2, bnd_some, bnd_some, nI_1]
          exact hgo d1 s1 r1 (tU M sn 0) l3 l4 l5 l6 (fun _ => tU_eq) (fun t t1 t2 t3 => ⟨l8 t 0 t1 t2 t3, tU_ne t3⟩)
        · rw [u1, u2, bnd_some]
          unfold B_Mod_heads_36 B_Mod_heads_41 B_Mod_heads_49
          have hF1 := u3.2.2.2.1.2 sn (by omega) hs60
          rw [if_pos (show ¬ ((1 : Int32), (d1, s1)).1 = nI 0 from (by decide : ¬ (1 : Int32) = 0)), show f_Mod_headOf ((), r1).2 (nI sn) = _ from R_headOf rfl hF1 hs60, bnd_some, u7, if_pos (show (0 : Int32) ≤ (nI x, ()).1 from nI_pos' (by omega)), nI_1]
          refine hgo d1 s1 r1 M u3 u8 u9 u10 (fun z => absurd (u7.symm.trans z) (nI_m1 (by omega))) (fun t t1 t2 t3 => ⟨S_add (pn := 0) u6.du u4 u5 rfl rfl (nI t) 0 (nI_m1 (by omega)) (nI_ne0 (by omega) (by omega)) (fun q => t3 ((nI_eq (by omega) (by omega)).mp q.1)), rfl⟩)
    · rw [e, if_neg (nI_m1 (by omega)), if_pos (show ¬ ((1 : Int32), ()).1 = 0 from (by decide : ¬ (1 : Int32) = 0)), if_pos (show 0 ≤ (nI i, ()).1 from nI_pos' (by omega))]
      unfold B_Scav_makeLeaders_34 B_Scav_makeLeaders_58 B_Mod_heads_49
      rw [if_pos rfl, nI_1]
      exact hgo d s r M h (KE.refl d r) rfl rfl (fun z => absurd (e.symm.trans z) (nI_m1 (by omega))) (fun _ _ _ _ => ⟨rfl, rfl⟩)
end S9
