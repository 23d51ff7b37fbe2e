/-! shorten -/
section SH
variable {d : DS} {r : RS} {f : FS} {w : WS} {m : MS} {s : SS} {g : GS} {B i : Nat}
theorem s111 {q : Nat ⊕ Unit} (h : fq q r) : ∃ c, B_Mod_shorten_111 r = some ((), rSThr r c) ∧ ansU q c [(1, 1), (2, 2), (3, 3), (4, 4), (5, 5)] := by
  obtain ⟨c, c1, c2⟩ := fq_ends h 0
  refine ⟨c, ?_, c2⟩
  unfold B_Mod_shorten_111 B_Mod_shorten_121
  rw [c1]
/-- the last page alone -/
theorem R_keepP {j n P : Nat} (h : RD d r) (hf : RF f r) (I : IV B d) (J : IF f) (X : IX d) (hfa : rFau r = 0) (hi : i < 40) (hpi : dCells d (i * 13 + 1) = 0) (hj : j < 40) (huj : dUnr d j = 0) (hP : P ≤ B) (hP0 : 0 < P) (hpj : dCells d (j * 13 + 1) = nI P) (hk : P = (n + 7) / 8) (hr1 : ¬ dCells d (j * 13) = 1) :
    ∃ q d' r', thM (f_Disk_spendWrite d) (fun x z => some (.inl x, (z, f, m, g))) (fun _ z => B_LV_shorten_103 z f w m s g (nI n) (nI j)) = some (q, (d', f, m, g)) ∧ bnd (f_Mod_down r (nI j) (nI P)) (fun q => B_Mod_shortened_16 q.2 (nI i) (nI n) (nI P) q.1) = some ((), r') ∧ WO B d' f r' r ∧ fq q r' := by
  have hBB := I.1
  unfold f_Mod_down B_Mod_down_5
  rw [L_Mod_down_10, if_neg (by decide), if_neg (nI_pos (by omega)), if_pos (inB_nI hj (by decide)), cl_nI (by omega), show rPag (rSRws r 0) j = nI P from by rw [← hpj]; exact (h.pag hj).symm, if_pos (Int32.le_refl _)]
  unfold B_Mod_down_64
  rw [bnd_some]
  unfold B_Mod_shortened_16 B_Mod_shortened_35
  have h0 : RD d (rSRws r 0) := ⟨h.1, h.2.1, h.2.2.1, h.2.2.2⟩
  rw [if_pos (show 0 ≤ (nI j, rSRws r 0).1 from nI_pos' (by omega)), if_pos (show rRws (nI j, rSRws r 0).2 ≤ 0 from Int32.le_refl _), L_Mod_shortened_38, if_pos (show rRws (nI j, rSRws r 0).2 ≤ 0 from Int32.le_refl _)]
  have hji : ¬ nI j = nI i := fun e => by
    have e2 := (nI_eq (by omega) (by omega)).mp e
    rw [e2, hpi] at hpj
    have := (nI_eq (a := 0) (by decide) (by omega)).mp hpj
    omega
  show ∃ q d' r', _ ∧ B_Mod_shortened_68 (f_Mod_writes (rSRws r 0)).2 (nI i) (nI n) (nI P) (nI j) (f_Mod_writes (rSRws r 0)).1 = _ ∧ _
  rcases R_writes h0 hfa with ⟨w1, w2, w3⟩ | ⟨d1, r1, w1, w2, w3, v1, v2, v3, v4, v5⟩
  · rw [w1, w2, thM_l]
    refine ⟨.inl 1, dSPow d 0, rSFau (rSDar (rSRws r 0) 1) 1, rfl, ?_, ⟨w3, hf, I, J, X, rfl⟩, Or.inl ⟨1, rfl, by decide, by decide, rfl⟩⟩
    unfold B_Mod_shortened_68
    rw [if_pos rfl]; exact s159_dark rfl _ _
  · rw [w1, w2, thM_r]
    unfold B_LV_shorten_103 B_LV_shorten_113
    obtain ⟨d5, r5, k1, k2, k3, k4, k5, k6, k7, k8⟩ := R_end (i := i) (n := n) (y := j) (keep := P) w3 (I.same v1 v3) (X.same v1 v3) ((rQ_fau v5).trans hfa) hj (by rw [v3]; exact huj) (by rw [v1]; exact hpj) hk (by omega) (by rw [v1]; exact hr1)
    rw [k1, bnd_some, show B_Mod_shortened_68 ((1 : Int32), r1).2 (nI i) (nI n) (nI P) (nI j) ((1 : Int32), r1).1 = _ from k2]
    unfold B_Mod_shortened_141 B_Mod_shortened_159 B_Mod_shortened_192 B_Mod_shortened_203
    have hw : rRws r5 = 0 := (rG_rws k7).trans (rG_rws (rQ_G v5))
    rw [if_pos hji, hw, if_pos (Int32.le_refl _), if_pos (Int32.le_refl _)]
    have hk9 : rKep r1 = rKep (rSRws r 0) := rQ_kep v5
    have hp9 : rRep r1 = rRep (rSRws r 0) := rP_rep (rQ_P v5)
    exact ⟨.inr (), d5, r5, rfl, rfl, ⟨k3, hf.kep ((rG_kep k7).trans hk9), k4, J, k5, (rG_rep k7).trans hp9⟩, Or.inr ⟨(), rfl, k8⟩⟩
theorem S_sh18 {x u : Int32} (h : RD d r) (hf : RF f r) (I : IV B d) (J : IF f) (X : IX d) (hi : i < 40) (hui : dUnr d i = 0) (hp : dCells d (i * 13 + 1) = 0) (hr1 : ¬ dCells d (i * 13) = 1) (hv : (u = -1 ∧ rFau r = 4) ∨ ∃ j, u = nI j ∧ j < 40 ∧ dUnr d j = 0 ∧ dCells d (j * 13) = dCells d (i * 13) ∧ rFau r = 0) :
    ∃ q d' f' m' g' r', B_LV_shorten_18 d f w m s g x (nI i) u = some (q, (d', f', m', g')) ∧ B_Mod_shorten_56 r x (nI i) u = some ((), r') ∧ WO B d' f' r' r ∧ ansU q (rThr r') [(1, 1), (2, 2), (3, 3), (4, 4), (5, 5)] := by
  unfold B_LV_shorten_18 B_Mod_shorten_56
  have hBB := I.1
  have fin : ∀ (P : Option ((Nat ⊕ Unit) × (DS × FS × MS × GS))) (q : Nat ⊕ Unit) d' f' m' g' r', P = some (q, (d', f', m', g')) → WO B d' f' r' r → fq q r' → ∃ q d' f' m' g' r'', P = some (q, (d', f', m', g')) ∧ B_Mod_shorten_111 r' = some ((), r'') ∧ WO B d' f' r'' r ∧ ansU q (rThr r'') [(1, 1), (2, 2), (3, 3), (4, 4), (5, 5)] := by
    intro P q d' f' m' g' r' hP hW hq
    obtain ⟨c, c1, c2⟩ := s111 hq
    exact ⟨q, d', f', m', g', _, hP, c1, hW, c2⟩
  rcases hv with ⟨rfl, e⟩ | ⟨j, rfl, j1, j2, j3, e⟩
  · rw [unb1, thM_l, if_pos (show (-1 : Int32) < 0 by decide)]
    exact fin _ (.inl 4) d f m g r rfl ⟨h, hf, I, J, X, rfl⟩ (Or.inl ⟨4, rfl, by decide, by decide, e⟩)
  · rw [unb2 j1, thM_r, if_neg (nI_pos (by omega)), R_len h j1, bnd_some]
    unfold B_LV_shorten_21 B_LV_shorten_44 B_Mod_shorten_72 B_Mod_shorten_83
    rw [C_len j1 j2]
    obtain ⟨L, hL, eL⟩ := len_nat I j1
    show ∃ q d' f' m' g' r', (if x < 0 then _ else if x ≤ len d j then (if ¬ x = len d j then _ else _) else _) = _ ∧ (if (f_Mod_in x 0 (len d j)).1 = 0 then _ else _) = _ ∧ _
    rw [eL]
    have hout : ∃ q d' f' m' g' r', some (Sum.inl 5, (d, f, m, g)) = some (q, (d', f', m', g')) ∧ B_Mod_shorten_86 (rSFau r 5) x (nI i) (nI j) = some ((), r') ∧ WO B d' f' r' r ∧ ansU q (rThr r') [(1, 1), (2, 2), (3, 3), (4, 4), (5, 5)] := by
      unfold B_Mod_shorten_86
      rw [if_pos (show ¬ rFau (rSFau r 5) = 0 by show ¬ (5 : Int32) = 0; decide)]
      exact fin _ (.inl 5) d f m g (rSFau r 5) rfl ⟨h, hf, I, J, X, rfl⟩ (Or.inl ⟨5, rfl, by decide, by decide, rfl⟩)
    by_cases h0 : x < 0
    · rw [if_pos h0, if_pos ((inab _ _ _).mpr (Or.inl h0))]; exact hout
    · rw [if_neg h0]
      obtain ⟨n, hn, rfl⟩ := nI_of h0
      by_cases h1 : nI n ≤ nI L
      · have hnL : n ≤ L := (nI_leI hn (by omega)).mp h1
        rw [if_pos h1, if_neg (fun q => ((inab _ _ _).mp q).elim h0 (fun q => absurd h1 (Int32.not_le.mpr q)))]
        unfold B_Mod_shorten_86
        have h' : RD d (rSFau r 0) := h
        rw [if_neg (not_not_intro (show rFau (rSFau r 0) = 0 from rfl)), R_len h' j1, bnd_some]
        unfold B_Mod_shorten_100
        rw [eL]
        by_cases h2 : nI n = nI L
        · rw [if_neg (not_not_intro h2), if_pos (show nI L ≤ nI n by rw [h2]; exact Int32.le_refl _)]
          exact fin _ (.inr ()) d f m g (rSFau r 0) rfl ⟨h, hf, I, J, X, rfl⟩ (Or.inr ⟨(), rfl, rfl⟩)
        · have hlt : n < L := by
            rcases Nat.lt_or_ge n L with q | q
            · exact q
            · exact absurd (by rw [show n = L by omega]) h2
          rw [if_pos h2, if_neg (nI_ge hlt (by omega))]
          obtain ⟨pn, p1, p2⟩ := I.pagN j1
          obtain ⟨un, u1, u2⟩ := I.useN j1
          have hpn : pn ≠ 0 := by
            intro q
            unfold len at eL
            rw [p2, q, if_neg (not_not_intro (show nI 0 = 0 from rfl))] at eL
            have := (nI_eq (a := 0) (by decide) (by omega)).mp eL
            omega
          have hLv : L = 8 * (pn - 1) + un := by
            unfold len at eL
            rw [p2, if_pos (nI_ne0 (by omega) (by omega)), u2, show (1 : Int32) = nI 1 from rfl, pk_sub (by omega), show (8 : Int32) = nI 8 from rfl, pk_mul, nI_add] at eL
            exact ((nI_eq (by omega) (by omega)).mp eL).symm
          have ek : ((nI n + 8 - 1) / 8 : Int32) = nI ((n + 7) / 8) := by
            rw [show (8 : Int32) = nI 8 from rfl, nI_add, show (1 : Int32) = nI 1 from rfl, pk_sub (by omega), pk_div (by omega) (by decide) (by decide), show n + 8 - 1 = n + 7 by omega]
          have ek2 : ((nI n + 7) / 8 : Int32) = nI ((n + 7) / 8) := by
            rw [show (7 : Int32) = nI 7 from rfl, nI_add, show (8 : Int32) = nI 8 from rfl, pk_div (by omega) (by decide) (by decide)]
          unfold f_Mod_shortened
          rw [ek, ek2, xc1 j1 j2, p2]
          by_cases hd : pn ≤ (n + 7) / 8
          · rw [if_pos (nI_le hd (by omega))]
            have ep : pn = (n + 7) / 8 := by omega
            obtain ⟨q, d', r', b1, b2, b3, b4⟩ := R_keepP (d := d) (r := rSFau r 0) (f := f) (w := w) (m := m) (s := s) (g := g) (B := B) (i := i) (j := j) (n := n) (P := pn) h' hf I J X rfl hi hp j1 j2 p1 (by omega) p2 ep (by rw [j3]; exact hr1)
            rw [← ep, b2, bnd_some, b1]
            exact fin _ q d' f m g r' rfl b3 b4
          · rw [if_neg (nI_ge (by omega) (by omega))]
            obtain ⟨q, d', f', m', g', r', b1, b2, b3, b4⟩ := R_drop (d := d) (r := rSFau r 0) (f := f) (w := w) (m := m) (s := s) (g := g) (B := B) (i := i) (z := j) (n := n) (keep := (n + 7) / 8) (P := pn) h' hf I J X rfl hi hui hp j1 j2 p1 p2 rfl (by omega) (by rw [j3]; exact hr1)
            rw [b1, b2, bnd_some, bnd_some]
            refine fin _ q d' f' m' g' r' ?_ b3 b4
            rcases q with q | q
            · rfl
            · rfl
      · rw [if_neg h1, if_pos ((inab _ _ _).mpr (Or.inr (Int32.not_le.mp h1)))]; exact hout
theorem S_shorten (h : RL B d f s r) (x y : Int32) : ∃ q d' f' m' g' r', f_LV_shorten d f w m s g x y = some (q, (d', f', m', g')) ∧ f_Mod_shorten r x y = some ((), r') ∧ RL B d' f' s r' ∧ ansU q (rThr r') [(1, 1), (2, 2), (3, 3), (4, 4), (5, 5)] := by
  obtain ⟨h, hf, I, J, X, hrep⟩ := h
  unfold f_LV_shorten f_Mod_shorten
  rcases pw (f := f) (w := w) (m := m) (s := s) (g := g) h with ⟨p1, p2⟩ | ⟨p1, p2⟩
  · rw [p1, thM_r]
    obtain ⟨u, mm, k, f', e1, e2, e3, e4, e5⟩ := R_begin (w := w) (m := m) (s := s) (g := g) h hf J p2 x
    unfold B_LV_shorten_4
    rw [C_plain e1, e2, bnd_some, bnd_some]
    unfold B_Mod_shorten_5
    rcases e5 with rfl | ⟨i, hi, rfl, l1, l2, l3, sn, sn1, sn2, sn3⟩
    · exact ⟨.inl 2, dSMis d mm, f', m, g, _, rfl, rfl, ⟨h.mis mm k, e3, I, e4, X, hrep⟩, rfl⟩
    · rw [if_neg (nI_m1 (by omega)), if_neg (nI_m1 (by omega))]
      have h1 : RD (dSMis d mm) (rSFau (rSMis (rSKep (rSThr r 0) k) mm) 0) := h.mis mm k
      have eser : rSer (rSFau (rSMis (rSKep (rSThr r 0) k) mm) 0) i = x := by rw [← h1.ser hi]; exact l2
      rw [if_neg (not_not_intro (show rFau (nI i, rSFau (rSMis (rSKep (rSThr r 0) k) mm) 0).2 = 0 from rfl)), if_pos (show inB (nI i, rSFau (rSMis (rSKep (rSThr r 0) k) mm) 0).1 40 from inB_nI hi (by decide))]
      show ∃ q d' f'' m' g' r', _ ∧ (if rSer (rSFau (rSMis (rSKep (rSThr r 0) k) mm) 0) (nI i).toNatClampNeg = 2 then _ else bnd (f_Mod_isDirectory (rSFau (rSMis (rSKep (rSThr r 0) k) mm) 0) (nI i)) _) = _ ∧ _
      rw [cl_nI (by omega), eser]
      obtain ⟨b, b1, b2, b3⟩ := R_isDir h1 hi l1
      rw [b2, bnd_some, show f_Disk_isDirectory d (nI i) = (b, ()) from b1]
      have hbad : ∃ q d' f'' m' g' r', some (Sum.inl 3, (dSMis d mm, f', m, g)) = some (q, (d', f'', m', g')) ∧ B_Mod_shorten_32 (rSFau (rSMis (rSKep (rSThr r 0) k) mm) 0) y (nI i) = some ((), r') ∧ RL B d' f'' s r' ∧ ansU q (rThr r') [(1, 1), (2, 2), (3, 3), (4, 4), (5, 5)] := ⟨.inl 3, dSMis d mm, f', m, g, _, rfl, rfl, ⟨h.mis mm k, e3, I, e4, X, hrep⟩, rfl⟩
      by_cases x2 : x = 2
      · rw [if_pos (Or.inl x2), if_pos x2]; exact hbad
      · rw [if_neg x2]
        unfold B_Mod_shorten_29
        rcases b3 with rfl | rfl
        · rw [if_neg (show ¬ (x = 2 ∨ ¬ ((0 : Int32), ()).1 = 0) from fun q => q.elim x2 (fun q => q rfl)), if_pos rfl, thM_r]
          unfold B_LV_shorten_9 B_Mod_shorten_37 B_Mod_shorten_40
          obtain ⟨u, m2, g1, g2, g3⟩ := R_last (f := f') (r := rSFau (rSFau (rSMis (rSKep (rSThr r 0) k) mm) 0) 0) (h.mis mm k) I hi l1 l3
          rw [if_neg (not_not_intro (show rFau (rSFau (nI i, rSFau (rSMis (rSKep (rSThr r 0) k) mm) 0).2 0) = 0 from rfl)), show f_Finder_lastOf (dSMis d mm, f').1 (dSMis d mm, f').2 (nI i) = _ from g1, show f_Mod_last (rSFau (nI i, rSFau (rSMis (rSKep (rSThr r 0) k) mm) 0).2 0) (nI i, rSFau (rSMis (rSKep (rSThr r 0) k) mm) 0).1 = _ from g2, bnd_some, bnd_some]
          unfold B_Mod_shorten_52
          obtain ⟨q, d', f2, m', g', r', u1, u2, u3, u4⟩ := S_sh18 (d := dSMis d m2) (f := f') (w := w) (m := m) (s := s) (g := g) (x := y) (u := u) (i := i) (B := B) (r := rSFau (rSMis (rSFau (rSFau (rSMis (rSKep (rSThr r 0) k) mm) 0) 0) m2) (if u = -1 then 4 else 0)) (h.mis m2 k) e3 I e4 X hi l1 l3 (dir_ser hi l1 b1) (by
            rcases g3 with rfl | ⟨j, rfl, j1, j2, j3, -⟩
            · exact Or.inl ⟨rfl, rfl⟩
            · exact Or.inr ⟨j, rfl, j1, j2, j3, if_neg (nI_m1 (by omega))⟩)
          exact ⟨q, d', f2, m', g', r', u1, u2, ⟨u3.1, u3.2.1, u3.2.2.1, u3.2.2.2.1, u3.2.2.2.2.1, by rw [u3.2.2.2.2.2]; exact hrep⟩, u4⟩
        · rw [if_pos (show x = 2 ∨ ¬ ((1 : Int32), ()).1 = 0 from Or.inr (by decide)), if_neg (by decide)]; exact hbad
  · rw [p1, begin0 p2, bnd_some]
    exact ⟨.inl 1, d, f, m, g, _, rfl, rfl, ⟨h, hf, I, J, X, hrep⟩, rfl⟩
end SH
