/-! pages dropped -/
section DR
variable {d : DS} {r : RS} {f : FS} {w : WS} {m : MS} {s : SS} {g : GS} {B : Nat}
theorem s192_dark (h : rFau r = 1) : B_Mod_shortened_192 r = some ((), r) := by
  unfold B_Mod_shortened_192 B_Mod_shortened_203
  by_cases e : rRws r ≤ 0
  · rw [if_pos e]
  · rw [if_neg e, putMap_dark h, bnd_some]
theorem s159_dark (h : rFau r = 1) (a b : Int32) : B_Mod_shortened_159 r a b = some ((), r) := by
  unfold B_Mod_shortened_159 B_Mod_shortened_176
  rw [s192_dark h]
  by_cases e : rRws r ≤ 0
  · rw [if_pos e]
  · rw [if_neg e]
    by_cases e2 : b = a
    · rw [if_pos e2]
    · rw [if_neg e2, wr_dark h, if_pos rfl]; exact s192_dark h
theorem R_hintW {i y K : Nat} (h : RD d r) (I : IV B d) (X : IX d) (hfa : rFau r = 0) (hK : 0 < K) (hK4 : K < 40) (hr : rRws r = nI K) (hi : i < 40) (hui : dUnr d i = 0) (hy : y < 40) : ∃ d' r', ((f_LV_writeHint d f w m s g (nI i) (nI y) (nI y) = (.inl 1, d') ∧ rFau r' = 1) ∨ (f_LV_writeHint d f w m s g (nI i) (nI y) (nI y) = (.inr (), d') ∧ rFau r' = 0)) ∧ B_Mod_shortened_141 r (nI i) (nI y) = B_Mod_shortened_192 r' ∧ RD d' r' ∧ IV B d' ∧ IX d' ∧ dUnr d' = dUnr d ∧ rG r' = rG r := by
  unfold f_LV_writeHint B_LV_writeHint_12 B_LV_writeHint_22 B_Mod_shortened_141
  have e83 : (8 * nI i + 3 : Int32) = nI (8 * i + 3) := byA i 3
  have hin : inB (8 * nI i + 3) 320 := by rw [e83]; exact inB_nI (by omega) (by decide)
  have hcl : (8 * nI i + 3 : Int32).toNatClampNeg = 8 * i + 3 := by rw [e83]; exact cl_nI (by omega)
  have hvy : nI y &&& 255 = nI y := b255' (by omega)
  have hK0 : ¬ nI K ≤ 0 := nI_nle hK (by omega)
  by_cases e : nI y = nI i
  · rw [if_pos e, if_neg (not_not_intro e), if_pos hin, hcl, show (3 : Int32) = nI 3 from rfl, C_setb hi (by decide) hui, hvy, setb_R, ← e]
    have hO := rSet_O r i (5 + 3) (nI y)
    refine ⟨dSet d i (5 + 3) (nI y), rSet r i (5 + 3) (nI y), Or.inr ⟨rfl, (rO_fau hO).trans hfa⟩, ?_, h.set hi (by decide) _, I.set (by decide) (vOKb (by omega)), X.set3 (by decide) (by decide), rfl, rO_G hO⟩
    unfold B_Mod_shortened_159
    rw [rG_rws (rO_G hO), hr, if_neg hK0, if_pos rfl]
  · rw [if_neg e, if_pos e]
    unfold B_Mod_shortened_159 B_Mod_shortened_176
    rw [hr, if_neg hK0, if_neg e]
    rcases R_writes h hfa with ⟨a1, a2, a3⟩ | ⟨d1, r1, a1, a2, a3, b1, b2, b3, b4, b5⟩
    · rw [a1, a2]
      exact ⟨dSPow d 0, rSFau (rSDar r 1) 1, Or.inl ⟨rfl, rfl⟩, rfl, a3, I, X, rfl, rfl⟩
    · rw [a1, a2, thM_r, if_neg (show ¬ ((1 : Int32), r1).1 = 0 from (by decide : ¬ (1 : Int32) = 0)), if_pos hin, hcl, show (3 : Int32) = nI 3 from rfl, C_setb hi (by decide) (by rw [b3]; exact hui), hvy]
      have hO := rSet_O r1 i (5 + 3) (nI y)
      exact ⟨dSet d1 i (5 + 3) (nI y), rSet r1 i (5 + 3) (nI y), Or.inr ⟨rfl, (rO_fau hO).trans ((rQ_fau b5).trans hfa)⟩, rfl, a3.set hi (by decide) _, (I.same b1 b3).set (by decide) (vOKb (by omega)), (X.same b1 b3).set3 (by decide) (by decide), b3, (rO_G hO).trans (rQ_G b5)⟩
/-- a page becomes the last one, on both sides -/
theorem R_end {i y n keep : Nat} (h : RD d r) (I : IV B d) (X : IX d) (hfa : rFau r = 0) (hy : y < 40) (huy : dUnr d y = 0) (hp : dCells d (y * 13 + 1) = nI keep) (hk : keep = (n + 7) / 8) (hkB : keep < 2 ^ 20) (hr1 : ¬ dCells d (y * 13) = 1) : ∃ d' r', f_Disk_endFileAt d (nI y) (nI n) = some ((), d') ∧ B_Mod_shortened_68 r (nI i) (nI n) (nI keep) (nI y) 1 = B_Mod_shortened_141 r' (nI i) (nI y) ∧ RD d' r' ∧ IV B d' ∧ IX d' ∧ dUnr d' = dUnr d ∧ rG r' = rG r ∧ rFau r' = 0 := by
  by_cases k0 : keep = 0
  · subst k0
    have hO := rSet_O r y 3 (-1)
    exact ⟨dSet d y 3 (-1), rSet r y 3 (-1), C_endF0 hy huy hp, R_endF0 hy, h.set hy (by decide) _, I.set (by decide) (Or.inl ⟨Or.inl rfl, Or.inl rfl⟩), X.set3 (by decide) (by decide), rfl, rO_G hO, (rO_fau hO).trans hfa⟩
  · obtain ⟨d', a1, a2⟩ := C_endF (n := n) (p := keep) (u := n - 8 * (keep - 1)) hy huy (by omega) hkB hp (by omega) (by omega)
    obtain ⟨r', b1, b2⟩ := R_endF (r := r) (i := i) (n := n) (p := keep) (u := n - 8 * (keep - 1)) hy (by omega) hkB (by omega) (by omega)
    refine ⟨d', r', a1, b1, ?_, ?_, ?_, a2.unr, rO_G b2.2, (rO_fau b2.2).trans hfa⟩
    · refine h.row a2 (b2.congr fun k hk => ?_)
      unfold endV
      by_cases q : 5 + (n - 8 * (keep - 1)) ≤ k ∧ k < 13
      · rw [if_pos q, if_pos q]
      · rw [if_neg q, if_neg q]
        by_cases q2 : k = 2
        · rw [q2, pk_us, pk_us]
        · rw [pk_un q2, pk_un q2]
          by_cases q3 : k = 3
          · rw [q3, pk_us, pk_us]
          · rw [pk_un q3, pk_un q3, h.1 y hy k hk]
    · refine I.row (Nat.le_refl _) I.1 a2.du fun k hk => ?_
      unfold endV
      by_cases q : 5 + (n - 8 * (keep - 1)) ≤ k ∧ k < 13
      · rw [if_pos q]
        exact Or.inr ⟨by omega, 0, Nat.zero_le _, rfl⟩
      · rw [if_neg q]
        by_cases q2 : k = 2
        · rw [q2, pk_us]; exact Or.inr ⟨by omega, _, show n - 8 * (keep - 1) ≤ 8 by omega, rfl⟩
        · rw [pk_un q2]
          by_cases q3 : k = 3
          · rw [q3, pk_us]; exact Or.inl ⟨Or.inl rfl, Or.inl rfl⟩
          · rw [pk_un q3]; exact vOK_of I hy hk
    · refine X.row a2.du (fun _ q => ?_) (fun q => ?_) (fun q => absurd (show dCells d (y * 13) = 1 by
        unfold endV at q
        rw [if_neg (by omega)] at q
        exact q) hr1)
      · have q2 : dCells d (y * 13 + 1) = 0 := by
          unfold endV at q
          rw [if_neg (by omega)] at q
          exact q
        rw [hp] at q2
        exact absurd ((nI_eq (b := 0) (by omega) (by decide)).mp q2) k0
      · subst q
        rcases X.2.1 with z | z
        · exact absurd huy z
        · rw [show 0 * 13 + 1 = 1 from rfl, z.2] at hp
          exact absurd ((nI_eq (a := 0) (by decide) (by omega)).mp hp).symm k0
theorem R_drop {i z n keep P : Nat} (h : RD d r) (hf : RF f r) (I : IV B d) (J : IF f) (X : IX d) (hfa : rFau r = 0) (hi : i < 40) (hui : dUnr d i = 0) (hpi : dCells d (i * 13 + 1) = 0) (hz : z < 40) (huz : dUnr d z = 0) (hP : P ≤ B) (hpz : dCells d (z * 13 + 1) = nI P) (hk : keep = (n + 7) / 8) (hkP : keep < P) (hr1 : ¬ dCells d (z * 13) = 1) :
    ∃ q d' f' m' g' r', f_LV_dropPages d f w m s g (nI i) (nI z) (nI n) (nI keep) = some (q, (d', f', m', g')) ∧ bnd (f_Mod_down r (nI z) (nI keep)) (fun q => B_Mod_shortened_16 q.2 (nI i) (nI n) (nI keep) q.1) = some ((), r') ∧ WO B d' f' r' r ∧ fq q r' := by
  have hBB := I.1
  unfold f_LV_dropPages
  obtain ⟨mm, g1, r1, e1, e2, e3, e4⟩ := R_down (f := f) (w := w) (m := m) (s := s) (g := g) h I hP (show keep ≤ P by omega) hz huz hpz hfa
  rcases e4 with ⟨a1, a2, a3⟩ | ⟨y, a1, a2, a3, a4, a5, a6, a7, a8, a9, a10, a11⟩
  · rw [a1, a2, bnd_some, bnd_some, thM_l]
    unfold B_Mod_shortened_16
    rw [if_neg (show ¬ (0 : Int32) ≤ ((-1 : Int32), r1).1 from (by decide : ¬ (0 : Int32) ≤ -1))]
    exact ⟨.inl 4, _, f, m, g1, r1, rfl, rfl, ⟨e1, hf.kep e2, I, J, X, e3⟩, Or.inl ⟨4, rfl, by decide, by decide, a3⟩⟩
  · obtain ⟨K, hK⟩ : ∃ K, K = P - keep := ⟨_, rfl⟩
    rw [← hK] at a1 a4 a5 a6 a7
    rw [a1, a2, bnd_some, bnd_some, thM_r]
    unfold B_LV_dropPages_7 B_LV_dropPages_17 B_Mod_shortened_16
    rw [nI_pred, C_gat a6 a7, bnd_some, if_pos (show 0 ≤ (nI y, r1).1 from nI_pos' (by omega)), a4, if_neg (nI_nle (show 0 < K by omega) (by omega))]
    obtain ⟨m1, mm2, f2, r2, b1, b2, b3, b4, b5, b6, b7, b8, b9, b10⟩ := R_findMap (f := f) (w := w) (m := m) (d := dSMis d mm) (r := r1) e1 (hf.kep e2) I J
    rw [b1, b2, bnd_some, bnd_some]
    unfold B_LV_dropPages_26 B_Mod_shortened_35 f_LV_freeGathered
    have hP' : ∀ q, q < K → ∃ j, j < 40 ∧ dUnr d j = 0 ∧ dCells d (j * 13) = dCells d (z * 13) ∧ dCells d (j * 13 + 1) = nI (P - q) ∧ gGat g1 q = nI j ∧ rRow r1 q = nI j := a5
    obtain ⟨row, hrow⟩ : ∃ row : Nat → Nat, row = fun q => (gGat g1 q).toNatClampNeg := ⟨_, rfl⟩
    have hrow1 : ∀ q, q < K → row q < 40 ∧ dUnr (dSMis d mm2) (row q) = 0 ∧ row q ≠ 0 ∧ ¬ (∃ p, p ≤ keep ∧ dCells d (row q * 13 + 1) = nI p) ∧ gGat g1 q = nI (row q) := by
      intro q hq
      obtain ⟨j, j1, j2, j3, j4, j5, j6⟩ := hP' q hq
      have ej : row q = j := by rw [hrow]; show (gGat g1 q).toNatClampNeg = j; rw [j5, cl_nI (by omega)]
      rw [ej]
      refine ⟨j1, j2, fun e => ?_, fun e => ?_, j5⟩
      · subst e
        rcases X.2.1 with z1 | z1
        · exact z1 j2
        · rw [show 0 * 13 + 1 = 1 from rfl, z1.2] at j4
          have := (nI_eq (a := 0) (by decide) (by omega)).mp j4
          omega
      · obtain ⟨p, p1, p2⟩ := e
        rw [j4] at p2
        have := (nI_eq (by omega) (by omega)).mp p2
        omega
    have hrow2 : ∀ q, q < K → rRow r2 q = nI (row q) := fun q hq => by
      obtain ⟨j, j1, j2, j3, j4, j5, j6⟩ := hP' q hq
      have ej : row q = j := by rw [hrow]; show (gGat g1 q).toNatClampNeg = j; rw [j5, cl_nI (by omega)]
      rw [rP_row b10, ej]; exact j6
    obtain ⟨d3, m3, r3, c1, c2, c3, c4, c5, c6, c7, c8, c9⟩ := R_freeAllL (f := f2) (w := w) (s := s) (g := g1) (B := B) (d0 := dSMis d mm2) (K := K) (row := row) (S := fun y => ∃ p, p ≤ keep ∧ dCells d (y * 13 + 1) = nI p)
      (L := fun n' r' x => L_Mod_shortened_38 n' r' (nI i) (nI n) (nI keep) (nI y) x) (fin := fun r' => B_Mod_shortened_68 (f_Mod_writes r').2 (nI i) (nI n) (nI keep) (nI y) (f_Mod_writes r').1) (by omega)
      (fun n' r' k hr hk' => by
        show L_Mod_shortened_38 (n' + 1) r' (nI i) (nI n) (nI keep) (nI y) (nI k) = _
        rw [L_Mod_shortened_38, hr, if_neg (nI_ge hk' (by omega)), if_pos (inB_nI (show k < 40 by omega) (by decide)), cl_nI (by omega)]
        unfold B_Mod_shortened_58
        rw [nI_1])
      (fun n' r' hr => by
        show L_Mod_shortened_38 (n' + 1) r' (nI i) (nI n) (nI keep) (nI y) (nI K) = _
        rw [L_Mod_shortened_38, hr, if_pos (Int32.le_refl _)])
      hrow1 K 0 100 1000 (by omega) (by omega) (by omega) (dSMis d mm2) m1 r2 b3 I X rfl (fun _ _ _ _ _ => rfl) (b6.un (d' := dSMis d mm2) rfl) b9 ((rP_fau b10).trans a3) ((rP_rws b10).trans a4) hrow2
    have c7' : L_Mod_shortened_38 1000 r2 (nI i) (nI n) (nI keep) (nI y) 0 = B_Mod_shortened_68 (f_Mod_writes r3).2 (nI i) (nI n) (nI keep) (nI y) (f_Mod_writes r3).1 := c7
    have hK3 : rKep r3 = rKep r2 := c5
    have hR3 : rRep r3 = rRep r := c6.trans ((rP_rep b10).trans e3)
    show ∃ q d' f' m' g' r', bnd (L_LV_freeGathered_2 100 (dSMis d mm2) f2 w m1 s g1 (nI K) 0) _ = _ ∧ L_Mod_shortened_38 1000 r2 (nI i) (nI n) (nI keep) (nI y) 0 = _ ∧ _
    rw [c7']
    rcases c9 with ⟨c9, cf⟩ | ⟨c9, cf, ckp, cmr, ctk⟩
    · rw [show L_LV_freeGathered_2 100 (dSMis d mm2) f2 w m1 s g1 (nI K) 0 = _ from c9, bnd_some, thM_l, wr_dark cf]
      refine ⟨.inl 1, d3, f2, m3, g1, r3, rfl, ?_, ⟨c1, b4.kep hK3, c2, b5, c3, hR3⟩, Or.inl ⟨1, rfl, by decide, by decide, cf⟩⟩
      unfold B_Mod_shortened_68
      rw [if_pos rfl]; exact s159_dark cf _ _
    · rw [show L_LV_freeGathered_2 100 (dSMis d mm2) f2 w m1 s g1 (nI K) 0 = _ from c9, bnd_some, thM_r]
      unfold B_LV_dropPages_32
      rcases R_writes c1 cf with ⟨w1, w2, w3⟩ | ⟨d4, r4, w1, w2, w3, v1, v2, v3, v4, v5⟩
      · rw [show f_Disk_spendWrite (d3, m3).1 = _ from w1, w2, thM_l]
        refine ⟨.inl 1, dSPow d3 0, f2, m3, g1, rSFau (rSDar r3 1) 1, rfl, ?_, ⟨w3, b4.kep hK3, c2, b5, c3, hR3⟩, Or.inl ⟨1, rfl, by decide, by decide, rfl⟩⟩
        unfold B_Mod_shortened_68
        rw [if_pos rfl]; exact s159_dark rfl _ _
      · rw [show f_Disk_spendWrite (d3, m3).1 = _ from w1, w2, thM_r]
        unfold B_LV_dropPages_39
        have hpy : dCells d4 (y * 13 + 1) = nI keep := by
          rw [v1, ckp y a8 ⟨keep, Nat.le_refl _, a11⟩ 1 (by decide)]; exact a11
        have hu4 : dUnr d4 = dUnr d := v3.trans c4
        obtain ⟨d5, r5, k1, k2, k3, k4, k5, k6, k7, k8⟩ := R_end (i := i) (n := n) w3 (c2.same v1 v3) (c3.same v1 v3) ((rQ_fau v5).trans cf) a8 (by rw [hu4]; exact a9) hpy hk (by omega) (by rw [v1, show dCells d3 (y * 13) = dCells d (y * 13) from ckp y a8 ⟨keep, Nat.le_refl _, a11⟩ 0 (by decide), a10]; exact hr1)
        rw [k1, bnd_some, show B_Mod_shortened_68 ((1 : Int32), r4).2 (nI i) (nI n) (nI keep) (nI y) ((1 : Int32), r4).1 = _ from k2]
        unfold B_LV_dropPages_49
        have hw5 : rRws r5 = nI K := (rG_rws k7).trans ((rG_rws (rQ_G v5)).trans c8)
        have hu5 : dUnr d5 = dUnr d := k6.trans hu4
        obtain ⟨d6, r6, l1, l2, l3, l4, l5, l6, l7⟩ := R_hintW (f := f2) (w := w) (m := m3) (s := s) (g := g1) k3 k4 k5 k8 (show 0 < K by omega) a6 hw5 hi (by rw [hu5]; exact hui) a8
        rw [l2]
        have hG6 : rG r6 = rG r3 := l7.trans (k7.trans (rQ_G v5))
        have hw6 : rRws r6 = nI K := (rG_rws hG6).trans c8
        have hK6 : rKep r6 = rKep r2 := (rG_kep hG6).trans hK3
        have hR6 : rRep r6 = rRep r := (rG_rep hG6).trans hR3
        rcases l1 with ⟨l1, lf⟩ | ⟨l1, lf⟩
        · rw [show f_LV_writeHint ((), d5).2 f2 w m3 s g1 (nI i) (nI y) (nI y) = _ from l1, thM_l, s192_dark lf]
          exact ⟨.inl 1, d6, f2, m3, g1, r6, rfl, rfl, ⟨l3, b4.kep hK6, l4, b5, l5, hR6⟩, Or.inl ⟨1, rfl, by decide, by decide, lf⟩⟩
        · rw [show f_LV_writeHint ((), d5).2 f2 w m3 s g1 (nI i) (nI y) (nI y) = _ from l1, thM_r]
          unfold B_LV_dropPages_58 B_LV_dropPages_65 B_Mod_shortened_192 B_Mod_shortened_203
          rw [hw6, if_neg (nI_nle (show 0 < K by omega) (by omega))]
          rcases R_update (f := f2) (w := w) l3 l4 lf (cmr.g hG6 (l6.trans (hu5.trans c4.symm))) with ⟨n1, n2, n3⟩ | ⟨d7, r7, n1, n2, n3, n4, n5, n6, n7⟩
          · rw [n1, n2, bnd_some, bnd_some, thM_l]
            exact ⟨.inl 1, _, f2, m3, g1, _, rfl, rfl, ⟨n3, b4.kep hK6, l4, b5, l5, hR6⟩, Or.inl ⟨1, rfl, by decide, by decide, rfl⟩⟩
          · rw [n1, n2, bnd_some, bnd_some, thM_r]
            exact ⟨.inr (), d7, f2, m3, g1, r7, rfl, rfl, ⟨n3, b4.kep (n7.trans hK6), n4, b5, n5 l5, (rP_rep n6).trans hR6⟩, Or.inr ⟨(), rfl, (rP_fau n6).trans lf⟩⟩
end DR
