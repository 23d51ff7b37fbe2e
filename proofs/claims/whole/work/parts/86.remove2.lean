/-! remove, the call -/
section R2
variable {d : DS} {r : RS} {f : FS} {w : WS} {m : MS} {s : SS} {g : GS} {B i : Nat}
theorem R_rm71 {e t n j : Nat} (h : RD d r) (hf : RF f r) (I : IV B d) (J : IF f) (X : IX d) (hfa : rFau r = 0) (hi : i < 40) (hui : dUnr d i = 0) (hpi : dCells d (i * 13 + 1) = 0) (hn3 : 3 ≤ n) (hn60 : n ≤ 60) (hsi : dCells d (i * 13) = nI n) (he : e < 40) (hue : dUnr d e = 0) (ht : t < 2) (hj : j < 40) (huj : dUnr d j = 0) :
    ∃ q d' f' m' g' a r', B_LV_remove_71 d f w m s g (nI i) (nI e) (nI t * 4) (nI j) = some (q, (d', f', w, m', g')) ∧ B_Mod_removed_52 r (nI i) (nI (8 * e + 4 * t)) (nI j) = some (a, r') ∧ WO B d' f' r' r ∧ fqA q a r' := by
  unfold B_LV_remove_71 B_Mod_removed_52
  obtain ⟨P, p1, p2⟩ := I.pagN hj
  have hBB := I.1
  have hin : inB (nI j) 40 := inB_nI hj (by decide)
  have hcl : (nI j).toNatClampNeg = j := cl_nI (by omega)
  rw [if_pos (show 0 ≤ nI j from nI_pos' (by omega)), if_pos hin, hcl, ← h.pag hj, p2]
  by_cases hP : P = 0
  · subst hP
    rw [if_pos (show nI 0 ≤ 0 by decide)]
    unfold B_Mod_removed_78 B_Mod_removed_96
    rw [if_pos hin, if_pos hin, hcl, ← h.pag hj, p2, if_pos (show nI 0 ≤ 0 by decide), if_pos (show nI 0 ≤ 0 by decide)]
    have eg : f_LV_gatherPages d f w m s g (nI j) 1 = some (.inr (nI 0), (d, g)) := by
      unfold f_LV_gatherPages
      rw [xc1 hj huj, p2, L_LV_gatherPages_16, if_pos (by decide)]
      rfl
    rw [eg, bnd_some, thM_r]
    have h0 : RD d (rSRws r 0) := ⟨h.1, h.2.1, h.2.2.1, h.2.2.2⟩
    obtain ⟨q, d', f', m', a, r', a1, a2, a3, a4⟩ := R_rm75 (w := w) (m := m) (s := s) (g := g) (K := 0) (row := fun _ => 0) (r := rSRws r 0) h0 hf I J X hfa hi hui hpi hn3 hn60 hsi he hue ht (by decide) rfl (fun q hq => absurd hq (by omega)) (fun q hq => absurd hq (by omega))
    exact ⟨q, d', f', m', g, a, r', a1, a2, a3, a4⟩
  · have hPn : ¬ nI P ≤ 0 := nI_nle (by omega) (by omega)
    rw [if_neg hPn]
    obtain ⟨mm, g1, r1, e1, e2, e3, e4⟩ := R_down (f := f) (w := w) (m := m) (s := s) (g := g) (to := 1) h I p1 (by omega) hj huj p2 hfa
    rw [show nI 1 = (1 : Int32) from rfl] at e4
    rcases e4 with ⟨a1, a2, a3⟩ | ⟨y, a1, a2, a3, a4, a5, a6, a7, a8, a9, a10, a11⟩
    · rw [a1, a2, bnd_some, bnd_some, thM_l]
      unfold B_Mod_removed_74 B_Mod_removed_78
      rw [if_pos hin, hcl, show rPag ((-1 : Int32), r1).2 j = nI P from by rw [← p2]; exact (e1.pag hj).symm, if_neg hPn, if_neg (show ¬ (0 : Int32) ≤ ((-1 : Int32), r1).1 from (by decide : ¬ (0 : Int32) ≤ -1))]
      exact ⟨.inl 4, _, f, m, g1, 0, r1, rfl, rfl, ⟨e1, hf.kep e2, I, J, X, e3⟩, Or.inl ⟨4, rfl, by decide, by decide, a3⟩⟩
    · rw [a1, a2, bnd_some, bnd_some, thM_r]
      unfold B_Mod_removed_74 B_Mod_removed_78 B_Mod_removed_96 B_Mod_removed_116 B_Mod_removed_126
      have hpg : rPag (nI y, r1).2 j = nI P := by rw [← p2]; exact (e1.pag hj).symm
      rw [if_pos hin, if_pos hin, hcl, hpg, if_neg hPn, if_neg hPn, if_pos (show 0 ≤ (nI y, r1).1 from nI_pos' (by omega)), show rRws (nI y, r1).2 = nI (P - 1) from a4, if_pos (inB_nI a6 (by decide)), cl_nI (by omega)]
      obtain ⟨r2, er2, h2, hk2, hq2, hw2, hf2, ho2⟩ : ∃ r2, r2 = rSRws (rSRow r1 (upd (rRow r1) (P - 1) (nI y))) (rRws (rSRow r1 (upd (rRow r1) (P - 1) (nI y))) + 1) ∧ RD (dSMis d mm) r2 ∧ rKep r2 = rKep r1 ∧ rRep r2 = rRep r1 ∧ rRws r2 = nI P ∧ rFau r2 = 0 ∧ rRow r2 = upd (rRow r1) (P - 1) (nI y) :=
        ⟨_, rfl, ⟨e1.1, e1.2.1, e1.2.2.1, e1.2.2.2⟩, rfl, rfl, by
          show rRws r1 + 1 = _
          rw [a4, nI_1, show P - 1 + 1 = P by omega], a3, rfl⟩
      show ∃ q d' f' m' g' a r', _ ∧ B_Mod_removed_134 (rSRws (rSRow r1 (upd (rRow r1) (P - 1) (nI y))) (rRws (rSRow r1 (upd (rRow r1) (P - 1) (nI y))) + 1)) _ _ = _ ∧ _
      rw [← er2]
      clear er2
      obtain ⟨row, hrow⟩ : ∃ row : Nat → Nat, row = fun q => (gGat g1 q).toNatClampNeg := ⟨_, rfl⟩
      have hj' : ∀ q, q < P → ∃ j', j' < 40 ∧ dUnr d j' = 0 ∧ dCells d (j' * 13 + 1) = nI (P - q) ∧ gGat g1 q = nI j' ∧ rRow r2 q = nI j' := fun q hq => by
        rw [ho2]
        by_cases z : q = P - 1
        · exact ⟨y, a8, a9, by rw [a11, show P - q = 1 by omega]; rfl, by rw [z]; exact a7, by rw [z, pk_us]⟩
        · obtain ⟨j', j1, j2, j3, j4, j5, j6⟩ := a5 q (by omega)
          exact ⟨j', j1, j2, j4, j5, by rw [pk_un z]; exact j6⟩
      rw [show P - 1 + 1 = P by omega]
      obtain ⟨q, d', f', m', a, r', u1, u2, u3, u4⟩ := R_rm75 (d := dSMis d mm) (f := f) (w := w) (m := m) (s := s) (g := g1) (K := P) (row := row) (r := r2) (i := i) (e := e) (t := t) (n := n) (B := B) h2 (hf.kep (hk2.trans e2)) I J X hf2 hi hui hpi hn3 hn60 hsi he hue ht (by omega) hw2
        (fun q hq => by
          obtain ⟨j', j1, j2, j3, j4, j5⟩ := hj' q hq
          have ej : row q = j' := by rw [hrow]; show (gGat g1 q).toNatClampNeg = j'; rw [j4, cl_nI (by omega)]
          rw [ej]
          have hne : ¬ dCells d (j' * 13 + 1) = 0 := by rw [j3]; exact nI_ne0 (by omega) (by omega)
          refine ⟨j1, j2, fun z => ?_, hne, j4⟩
          subst z
          rcases X.2.1 with z1 | z1
          · exact z1 j2
          · exact hne z1.2)
        (fun q hq => by
          obtain ⟨j', j1, j2, j3, j4, j5⟩ := hj' q hq
          have ej : row q = j' := by rw [hrow]; show (gGat g1 q).toNatClampNeg = j'; rw [j4, cl_nI (by omega)]
          rw [ej]; exact j5)
      exact ⟨q, d', f', m', g1, a, r', u1, u2, ⟨u3.1, u3.2.1, u3.2.2.1, u3.2.2.2.1, u3.2.2.2.2.1, u3.2.2.2.2.2.trans (hq2.trans e3)⟩, u4⟩
theorem R_rm59 {e t n : Nat} (h : RD d r) (hf : RF f r) (I : IV B d) (J : IF f) (X : IX d) (hfa : rFau r = 0) (hi : i < 40) (hui : dUnr d i = 0) (hpi : dCells d (i * 13 + 1) = 0) (hn3 : 3 ≤ n) (hn60 : n ≤ 60) (hsi : dCells d (i * 13) = nI n) (he : e < 40) (hue : dUnr d e = 0) (ht : t < 2) :
    ∃ q d' f' m' g' a r', B_LV_remove_59 d f w m s g (nI i) (nI e) (nI t * 4) = some (q, (d', f', w, m', g')) ∧ B_Mod_removed_36 r (nI i) (nI (8 * e + 4 * t)) = some (a, r') ∧ WO B d' f' r' r ∧ fqA q a r' := by
  unfold B_LV_remove_59 B_Mod_removed_36
  obtain ⟨u, m2, g1, g2, g3⟩ := R_last (f := f) h I hi hui hpi
  rw [if_neg (not_not_intro hfa), g1, g2, bnd_some, bnd_some]
  unfold B_LV_remove_68 B_Mod_removed_48
  rcases g3 with rfl | ⟨j, rfl, j1, j2, -⟩
  · rw [unb1, thM_l]
    unfold B_Mod_removed_52
    rw [if_neg (show ¬ (0 : Int32) ≤ -1 by decide)]
    exact ⟨.inl 4, _, f, m, g, 0, _, rfl, rfl, ⟨h.mis m2 (rKep r), hf, I, J, X, rfl⟩, Or.inl ⟨4, rfl, by decide, by decide, rfl⟩⟩
  · rw [unb2 j1, thM_r]
    have hm : RD (dSMis d m2) (rSFau (rSMis r m2) (if nI j = -1 then 4 else rFau r)) := h.mis m2 (rKep r)
    obtain ⟨q, d', f', m', g', a, r', u1, u2, u3, u4⟩ := R_rm71 (d := dSMis d m2) (f := f) (w := w) (m := m) (s := s) (g := g) (i := i) (e := e) (t := t) (n := n) (j := j) (B := B) hm hf I J X (by show (if nI j = -1 then (4 : Int32) else rFau r) = 0; rw [if_neg (nI_m1 (by omega))]; exact hfa) hi hui hpi hn3 hn60 hsi he hue ht j1 j2
    exact ⟨q, d', f', m', g', a, r', u1, u2, u3, u4⟩
theorem S_remove (h : RL B d f s r) (x y : Int32) : ∃ q d' f' w' m' g' r' a, f_LV_remove d f w m s g x y = some (q, (d', f', w', m', g')) ∧ f_Mod_remove r x y = some (a, r') ∧ RL B d' f' s r' ∧ ans q a (rThr r') [(1, 1), (2, 2), (3, 3), (4, 4)] := by
  obtain ⟨h, hf, I, J, X, hrep⟩ := h
  unfold f_LV_remove f_Mod_remove
  -- what an end is
  have fin : ∀ (P : Option ((Nat ⊕ Int32) × (DS × FS × WS × MS × GS))) (q : Nat ⊕ Int32) d' f' w' m' g' r' a (r0 : RS), P = some (q, (d', f', w', m', g')) → WO B d' f' r' r0 → rRep r0 = rRep r → fqA q a r' → ∃ q d' f' w' m' g' r'' b, P = some (q, (d', f', w', m', g')) ∧ B_Mod_remove_24 r' a = some (b, r'') ∧ RL B d' f' s r'' ∧ ans q b (rThr r'') [(1, 1), (2, 2), (3, 3), (4, 4)] := by
    intro P q d' f' w' m' g' r' a r0 hP hW hr0 hq
    obtain ⟨c, b, c1, c2⟩ := fqA_ends hq
    unfold B_Mod_remove_24 B_Mod_remove_37
    rw [c1]
    exact ⟨q, d', f', w', m', g', _, _, hP, rfl, ⟨hW.1, hW.2.1, hW.2.2.1, hW.2.2.2.1, hW.2.2.2.2.1, by show ∀ k, k < 5 → sRes s k = rRep r' k; rw [hW.2.2.2.2.2, hr0]; exact hrep⟩, c2⟩
  rcases pw (f := f) (w := w) (m := m) (s := s) (g := g) h with ⟨p1, p2⟩ | ⟨p1, p2⟩
  · obtain ⟨q, v, mm, f', w', r', e1, e2, e3, e4, e5, e6, e7⟩ := R_opened (w := w) (m := m) (s := s) (g := g) h hf I J p2 x y
    rw [p1, thM_r]
    unfold B_LV_remove_4
    rw [e1, e2, bnd_some, bnd_some]
    unfold B_Mod_remove_6
    rcases e7 with ⟨e, rfl, rfl, a1, a2⟩ | ⟨i, n, e, t, rfl, rfl, a1, a2, a3, a4, a5, a6, a7, a8, a9, a10, a11, a12, a13, a14⟩
    · rw [thM_l, if_neg (show ¬ (0 : Int32) ≤ ((-1 : Int32), r').1 from (by decide : ¬ (0 : Int32) ≤ -1))]
      exact fin _ (.inl e) _ f' w' m g r' 0 r' rfl ⟨e3, e4, I, e5, X, rfl⟩ e6 (Or.inl ⟨e, rfl, by omega, by omega, a2⟩)
    · rw [thM_r, if_pos (show 0 ≤ (nI i, r').1 from nI_pos' (by omega))]
      unfold B_LV_remove_10 f_Mod_removed
      show ∃ q d' f'' w'' m' g' r'' a, (if (f_Disk_isDirectory (dSMis d mm) (nI i)).1 = 0 then B_LV_remove_59 (dSMis d mm) f' w' m s g (nI i) (wSec w') (wSlo w' * 4) else bnd (f_Walk_seekUsed (dSMis d mm) f' w' (nI i)) (fun q => thM q _ (fun v z => B_LV_remove_48 z.1 f' z.2 m s g (nI i) (wSec w') (wSlo w' * 4) v))) = _ ∧ bnd (bnd (f_Mod_isDirectory r' (nI i)) (fun q => B_Mod_removed_5 r' (nI i) (rFPl r') q.1)) _ = _ ∧ _
      obtain ⟨b, b1, b2, b3⟩ := R_isDir e3 a2 a5
      rw [b1, b2, bnd_some, a12, a13, a14]
      unfold B_Mod_removed_5
      rcases b3 with rfl | rfl
      · rw [if_pos rfl, if_pos rfl]
        obtain ⟨q, d', f2, m', g', a, r2, u1, u2, u3, u4⟩ := R_rm59 (d := dSMis d mm) (f := f') (w := w') (m := m) (s := s) (g := g) (i := i) (e := e) (t := t) (n := n) (r := r') (B := B) e3 e4 I e5 X a1 a2 a5 a7 a3 a4 a6 a8 a9 a11
        rw [u1, u2, bnd_some]
        exact fin _ q d' f2 w' m' g' r2 a r' rfl u3 e6 u4
      · rw [if_neg (show ¬ ((1 : Int32), ()).1 = 0 from (by decide : ¬ (1 : Int32) = 0)), if_neg (show ¬ ((1 : Int32), ()).1 = 0 from (by decide : ¬ (1 : Int32) = 0))]
        rcases R_seekU (d := dSMis d mm) (f := f') (w := w') e3 I a2 a5 a7 a1 with ⟨m1, w1, r1, e1', c1, k1, k2, k3, k4, k5, k6, k7, -⟩ | ⟨m1, w1, r1, k1, k2, k3, k4, k5, k6⟩ | ⟨m1, w1, r1, e1', c1, t1, k1, k2, k3, k4, k5, k6, k7, k8, k9, k10, k11, k12⟩
        · rw [k1, k2, bnd_some, bnd_some, thM_r]
          unfold B_LV_remove_48 B_Mod_removed_15 B_Mod_removed_33
          rw [if_pos rfl, if_pos (show ¬ ((1 : Int32), r1).1 = 0 from (by decide : ¬ (1 : Int32) = 0)), if_pos (show rFAt ((1 : Int32), r1).2 < 0 from by rw [show rFAt ((1 : Int32), r1).2 = -1 from k7]; decide)]
          obtain ⟨q, d', f2, m', g', a, r2, u1, u2, u3, u4⟩ := R_rm59 (d := dSMis d m1) (f := f') (w := w1) (m := m) (s := s) (g := g) (i := i) (e := e) (t := t) (n := n) (r := rSFau r1 0) (B := B) k3 (e4.kep k5) I e5 X rfl a2 a5 a7 a3 a4 a6 a8 a9 a11
          rw [show B_LV_remove_59 (dSMis (dSMis d mm) m1, w1).1 f' (dSMis (dSMis d mm) m1, w1).2 m s g (nI i) (nI e) (nI t * 4) = _ from u1, show B_Mod_removed_36 (rSFau ((1 : Int32), r1).2 0) (nI i) (nI (8 * e + 4 * t)) = _ from u2, bnd_some]
          exact fin _ q d' f2 w1 m' g' r2 a (rSFau r1 0) rfl u3 (k6.trans e6) u4
        · rw [k1, k2, bnd_some, bnd_some, thM_l]
          unfold B_Mod_removed_15
          rw [if_neg (not_not_intro (show ((0 : Int32), r1).1 = 0 from rfl)), bnd_some]
          exact fin _ (.inl 4) _ f' w1 m g r1 0 r1 rfl ⟨k3, e4.kep k5, I, e5, X, rfl⟩ (k6.trans e6) (Or.inl ⟨4, rfl, by decide, by decide, k4⟩)
        · rw [k1, k2, bnd_some, bnd_some, thM_r]
          unfold B_LV_remove_48 B_Mod_removed_15 B_Mod_removed_33 B_Mod_removed_36 B_Mod_removed_52
          rw [if_neg (show ¬ (1 : Int32) = 0 by decide), if_pos (show ¬ ((1 : Int32), r1).1 = 0 from (by decide : ¬ (1 : Int32) = 0)), if_neg (show ¬ rFAt ((1 : Int32), r1).2 < 0 from by rw [show rFAt ((1 : Int32), r1).2 = nI e1' from k11]; exact nI_pos (by have := k7.1; omega)), if_pos (show ¬ rFau (rSFau ((1 : Int32), r1).2 4) = 0 from (by decide : ¬ (4 : Int32) = 0)), if_neg (show ¬ (0 : Int32) ≤ -1 by decide), bnd_some]
          exact fin _ (.inl 4) _ f' w1 m g (rSFau r1 4) 0 (rSFau r1 4) rfl ⟨k3, e4.kep k5, I, e5, X, rfl⟩ (k6.trans e6) (Or.inl ⟨4, rfl, by decide, by decide, rfl⟩)
  · rw [p1, opened0 p2, bnd_some]
    exact ⟨.inl 1, d, f, w, m, g, _, _, rfl, rfl, ⟨h, hf, I, J, X, hrep⟩, rfl⟩
end R2
