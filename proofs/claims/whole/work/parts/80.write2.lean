/-! write, the call -/
section W2
variable {d : DS} {r : RS} {f : FS} {w : WS} {m : MS} {s : SS} {g : GS} {B i j : Nat}
theorem C_plain {v mm x : Int32} {f' : FS} (e1 : f_LV_requireLeader d f w m s g x = some (if v = -1 then .inl 2 else .inr v, (dSMis d mm, f'))) : f_LV_requirePlainFile d f w m s g x = some (if v = -1 then .inl 2 else if x = 2 ∨ ¬ (f_Disk_isDirectory d v).1 = 0 then .inl 3 else .inr v, (dSMis d mm, f')) := by
  unfold f_LV_requirePlainFile
  rw [e1, bnd_some]
  by_cases hv : v = -1
  · rw [if_pos hv, if_pos hv]; rfl
  · rw [if_neg hv, if_neg hv, thM_r]
    unfold B_LV_requirePlainFile_5 B_LV_requirePlainFile_22
    by_cases h2 : x = 2
    · rw [if_pos h2, if_pos (Or.inl h2)]
    · rw [if_neg h2]
      by_cases h3 : (f_Disk_isDirectory d v).1 = 0
      · rw [if_pos (show (f_Disk_isDirectory (dSMis d mm, f').1 v).1 = 0 from h3), if_neg (fun q => q.elim h2 (fun q => q h3))]
      · rw [if_neg (show ¬ (f_Disk_isDirectory (dSMis d mm, f').1 v).1 = 0 from h3), if_pos (Or.inr h3)]
theorem dir_ser {i : Nat} {mm : Int32} (hi : i < 40) (hu : dUnr d i = 0) (h : f_Disk_isDirectory (dSMis d mm) (nI i) = (0, ())) : ¬ dCells d (i * 13) = 1 := by
  intro q
  unfold f_Disk_isDirectory at h
  rw [xc0 (d := dSMis d mm) hi hu, show dCells (dSMis d mm) (i * 13) = 1 from q] at h
  rw [if_pos rfl] at h
  unfold B_Disk_isDirectory_27 at h
  exact absurd (show (1 : Int32) = 0 from congrArg (·.1) h) (by decide)
theorem w107 {q : Nat ⊕ Unit} (h : fq q r) : ∃ c, B_Mod_write_107 r = some ((), rSThr r c) ∧ ansU q c [(1, 1), (2, 2), (3, 3), (4, 4), (5, 5)] := by
  obtain ⟨c, c1, c2⟩ := fq_ends h 0
  refine ⟨c, ?_, c2⟩
  unfold B_Mod_write_107 B_Mod_write_117
  rw [c1]
/-- a byte of a page that is there -/
theorem S_wr87 {v : Int32} {n : Nat} {u : Int32} (hn : n < 2 ^ 31) (h : RD d r) (hf : RF f r) (I : IV B d) (hB : B + 1 ≤ 100000) (J : IF f) (X : IX d) (hu : (u = -1 ∧ rFau r = 4) ∨ ∃ t, u = nI t ∧ t < 40 ∧ dUnr d t = 0 ∧ rFau r = 0) : ∃ q d' r', B_LV_write_87 d f w m s g (nI n) v u = some (q, (d', f, m)) ∧ B_Mod_putByte_21 r (nI n) v u = some ((), r') ∧ WO (B + 1) d' f r' r ∧ fq q r' := by
  unfold B_LV_write_87 B_Mod_putByte_21 B_Mod_putByte_56 B_Mod_putByte_161
  rcases hu with ⟨rfl, e⟩ | ⟨t, rfl, t1, t2, e⟩
  · rw [unb1, thM_l, if_pos (by decide)]
    exact ⟨.inl 4, d, r, rfl, rfl, ⟨h, hf, I.mono (by omega) hB, J, X, rfl⟩, Or.inl ⟨4, rfl, by decide, by decide, e⟩⟩
  · rw [unb2 t1, thM_r, if_neg (nI_pos (by omega))]
    unfold B_LV_write_90 B_Mod_putByte_32 B_Mod_putByte_56 B_Mod_putByte_161
    have e9 : nI n - nI n / 8 * 8 = nI (n % 8) := by rw [show (8 : Int32) = nI 8 from rfl]; exact pk_rem hn (by decide) (by decide)
    rcases R_writes h e with ⟨e1, e2, e3⟩ | ⟨d1, r1, e1, e2, e3, c1, c2, c3, c4, c5⟩
    · rw [e1, e2, thM_l, if_pos rfl]
      exact ⟨.inl 1, _, _, rfl, rfl, ⟨e3, hf, I.mono (by omega) hB, J, X, rfl⟩, Or.inl ⟨1, rfl, by decide, by decide, rfl⟩⟩
    · rw [e1, e2, thM_r, if_neg (show ¬ ((1 : Int32), r1).1 = 0 from (by decide : ¬ (1 : Int32) = 0))]
      unfold B_LV_write_99 B_LV_write_113
      have t3 : dUnr d1 t = 0 := by rw [c3]; exact t2
      rw [e9, C_setb t1 (show n % 8 < 8 by omega) t3, byA, if_pos (inB_nI (show 8 * t + n % 8 < 320 by omega) (by decide)), cl_nI (by omega)]
      obtain ⟨b, b1, b2⟩ := b255 v
      have hO := rSet_O r1 t (5 + n % 8) (v &&& 255)
      refine ⟨.inr (), dSet d1 t (5 + n % 8) (v &&& 255), rSet r1 t (5 + n % 8) (v &&& 255), rfl, by rw [rSetb], ⟨e3.set t1 (by omega) _, hf.kep ((rO_kep hO).trans (rQ_kep c5)), ?_, J, (X.same c1 c3).set3 (by omega) (by omega), (rP_rep (rO_P hO)).trans (rP_rep (rQ_P c5))⟩, Or.inr ⟨(), rfl, (rO_fau hO).trans ((rQ_fau c5).trans e)⟩⟩
      exact ((I.same c1 c3).set (by omega) (by rw [b2]; exact vOKb b1)).mono (by omega) hB
theorem S_wr20 {x v u : Int32} (h : RD d r) (hf : RF f r) (I : IV B d) (hB : B + 1 ≤ 100000) (J : IF f) (X : IX d) (hi : i < 40) (hui : dUnr d i = 0) (hp : dCells d (i * 13 + 1) = 0) (hs0 : ¬ dCells d (i * 13) = 0) (hr1 : ¬ dCells d (i * 13) = 1) (hv : (u = -1 ∧ rFau r = 4) ∨ ∃ j, u = nI j ∧ j < 40 ∧ dUnr d j = 0 ∧ dCells d (j * 13) = dCells d (i * 13) ∧ rFau r = 0) :
    ∃ q d' f' m' r', B_LV_write_20 d f w m s g x v (nI i) u = some (q, (d', f', m')) ∧ B_Mod_write_60 r x v (nI i) u = some ((), r') ∧ WO (B + 1) d' f' r' r ∧ ansU q (rThr r') [(1, 1), (2, 2), (3, 3), (4, 4), (5, 5)] := by
  unfold B_LV_write_20 B_Mod_write_60
  -- what an end is
  have fin : ∀ (P : Option ((Nat ⊕ Unit) × (DS × FS × MS))) (q : Nat ⊕ Unit) d' f' m' r', P = some (q, (d', f', m')) → WO (B + 1) d' f' r' r → fq q r' → ∃ q d' f' m' r'', P = some (q, (d', f', m')) ∧ B_Mod_write_107 r' = some ((), r'') ∧ WO (B + 1) d' f' r'' r ∧ ansU q (rThr r'') [(1, 1), (2, 2), (3, 3), (4, 4), (5, 5)] := by
    intro P q d' f' m' r' hP hW hq
    obtain ⟨c, c1, c2⟩ := w107 hq
    exact ⟨q, d', f', m', _, hP, c1, hW, c2⟩
  rcases hv with ⟨rfl, e⟩ | ⟨j, rfl, j1, j2, j3, e⟩
  · rw [unb1, thM_l, if_pos (show (-1 : Int32) < 0 by decide)]
    exact fin _ (.inl 4) d f m r rfl ⟨h, hf, I.mono (by omega) hB, J, X, rfl⟩ (Or.inl ⟨4, rfl, by decide, by decide, e⟩)
  · rw [unb2 j1, thM_r, if_neg (nI_pos (by omega)), R_len h j1, bnd_some]
    unfold B_LV_write_23 B_LV_write_46 B_Mod_write_76 B_Mod_write_87
    rw [C_len j1 j2]
    obtain ⟨L, hL, eL⟩ := len_nat I j1
    show ∃ q d' f' m' r', (if x < 0 then _ else if x ≤ len d j then (if ¬ x = len d j then _ else _) else _) = _ ∧ (if (f_Mod_in x 0 (len d j)).1 = 0 then _ else _) = _ ∧ _
    rw [eL]
    have hout : ∃ q d' f' m' r', some (Sum.inl 5, (d, f, m)) = some (q, (d', f', m')) ∧ B_Mod_write_90 (rSFau r 5) x v (nI i) (nI j) = some ((), r') ∧ WO (B + 1) d' f' r' r ∧ ansU q (rThr r') [(1, 1), (2, 2), (3, 3), (4, 4), (5, 5)] := by
      unfold B_Mod_write_90
      rw [if_pos (show ¬ rFau (rSFau r 5) = 0 by show ¬ (5 : Int32) = 0; decide)]
      exact fin _ (.inl 5) d f m (rSFau r 5) rfl ⟨h, hf, I.mono (by omega) hB, J, X, rfl⟩ (Or.inl ⟨5, rfl, by decide, by decide, rfl⟩)
    by_cases h0 : x < 0
    · rw [if_pos h0, if_pos ((inab _ _ _).mpr (Or.inl h0))]; exact hout
    · rw [if_neg h0]
      obtain ⟨n, hn, rfl⟩ := nI_of h0
      by_cases h1 : nI n ≤ nI L
      · have hnL : n ≤ L := (nI_leI hn (by omega)).mp h1
        rw [if_pos h1, if_neg (fun q => ((inab _ _ _).mp q).elim h0 (fun q => absurd h1 (Int32.not_le.mpr q)))]
        unfold B_Mod_write_90 f_Mod_putByte
        have h' : RD d (rSFau r 0) := h
        rw [if_neg (not_not_intro (show rFau (rSFau r 0) = 0 from rfl)), R_len h' j1, bnd_some]
        unfold B_Mod_putByte_6
        rw [eL]
        by_cases h2 : nI n = nI L
        · rw [if_neg (not_not_intro h2), if_pos (show nI L ≤ nI n by rw [h2]; exact Int32.le_refl _)]
          obtain ⟨q, d', f', m', r', u1, u2, u3, u4⟩ := R_appendB (w := w) (m := m) (s := s) (g := g) (v := v) (r := rSFau r 0) (i := i) (j := j) h' hf I hB J X rfl hi hui hp j1 j2 j3.symm hs0 hr1
          rw [u1, u2, bnd_some, bnd_some]
          refine fin _ q d' f' m' r' ?_ u3 u4
          rcases q with q | q
          · rfl
          · rfl
        · have hnl : ¬ nI L ≤ nI n := fun q => h2 (by
            have := (nI_leI (by omega) hn).mp q
            rw [show n = L by omega])
          rw [if_pos h2, if_neg hnl]
          have e8 : nI n / 8 + 1 = nI (n / 8 + 1) := by rw [show (8 : Int32) = nI 8 from rfl, pk_div hn (by decide) (by decide), nI_1]
          obtain ⟨t, m2, g1, g2, g3⟩ := R_pageOf (f := f) (r := rSFau r 0) h' I (show n / 8 + 1 < 2 ^ 31 by omega) hi hui hp j1 j2 j3
          rw [e8, g1, g2, bnd_some, bnd_some]
          obtain ⟨q, d', r', u1, u2, u3, u4⟩ := S_wr87 (d := dSMis d m2) (f := f) (w := w) (m := m) (s := s) (g := g) (v := v) (n := n) (u := t) (r := rSFau (rSMis (rSFau r 0) m2) (if t = -1 then 4 else rFau (rSFau r 0))) hn (h.mis m2 (rKep r)) hf I hB J X (by
            rcases g3 with rfl | ⟨t, rfl, t1, t2, -⟩
            · exact Or.inl ⟨rfl, rfl⟩
            · exact Or.inr ⟨t, rfl, t1, t2, if_neg (nI_m1 (by omega))⟩)
          rw [u1, u2, bnd_some]
          exact fin _ q d' f m r' rfl u3 u4
      · rw [if_neg h1, if_pos ((inab _ _ _).mpr (Or.inr (Int32.not_le.mp h1)))]; exact hout
theorem S_write (h : RL B d f s r) (hB : B + 1 ≤ 100000) (x y v : Int32) : ∃ q d' f' m' r', f_LV_write d f w m s g x y v = some (q, (d', f', m')) ∧ f_Mod_write r x y v = some ((), r') ∧ RL (B + 1) d' f' s r' ∧ ansU q (rThr r') [(1, 1), (2, 2), (3, 3), (4, 4), (5, 5)] := by
  obtain ⟨h, hf, I, J, X, hrep⟩ := h
  unfold f_LV_write f_Mod_write
  have I' : IV (B + 1) d := I.mono (by omega) hB
  rcases pw (f := f) (w := w) (m := m) (s := s) (g := g) h with ⟨p1, p2⟩ | ⟨p1, p2⟩
  · rw [p1, thM_r]
    obtain ⟨u, mm, k, f', e1, e2, e3, e4, e5⟩ := R_begin (w := w) (m := m) (s := s) (g := g) h hf J p2 x
    unfold B_LV_write_4
    rw [C_plain e1, e2, bnd_some, bnd_some]
    unfold B_Mod_write_5
    rcases e5 with rfl | ⟨i, hi, rfl, l1, l2, l3, sn, sn1, sn2, sn3⟩
    · exact ⟨.inl 2, dSMis d mm, f', m, _, rfl, rfl, ⟨h.mis mm k, e3, I', e4, X, hrep⟩, rfl⟩
    · rw [if_neg (nI_m1 (by omega)), if_neg (nI_m1 (by omega))]
      have h1 : RD (dSMis d mm) (rSFau (rSMis (rSKep (rSThr r 0) k) mm) 0) := h.mis mm k
      have eser : rSer (rSFau (rSMis (rSKep (rSThr r 0) k) mm) 0) i = x := by rw [← h1.ser hi]; exact l2
      rw [if_neg (not_not_intro (show rFau (nI i, rSFau (rSMis (rSKep (rSThr r 0) k) mm) 0).2 = 0 from rfl)), if_pos (show inB (nI i, rSFau (rSMis (rSKep (rSThr r 0) k) mm) 0).1 40 from inB_nI hi (by decide))]
      show ∃ q d' f'' m' r', _ ∧ (if rSer (rSFau (rSMis (rSKep (rSThr r 0) k) mm) 0) (nI i).toNatClampNeg = 2 then _ else bnd (f_Mod_isDirectory (rSFau (rSMis (rSKep (rSThr r 0) k) mm) 0) (nI i)) _) = _ ∧ _
      rw [cl_nI (by omega), eser]
      obtain ⟨b, b1, b2, b3⟩ := R_isDir h1 hi l1
      rw [b2, bnd_some, show f_Disk_isDirectory d (nI i) = (b, ()) from b1]
      have hbad : ∃ q d' f'' m' r', some (Sum.inl 3, (dSMis d mm, f', m)) = some (q, (d', f'', m')) ∧ B_Mod_write_35 (rSFau (rSMis (rSKep (rSThr r 0) k) mm) 0) y v (nI i) = some ((), r') ∧ RL (B + 1) d' f'' s r' ∧ ansU q (rThr r') [(1, 1), (2, 2), (3, 3), (4, 4), (5, 5)] := ⟨.inl 3, dSMis d mm, f', m, _, rfl, rfl, ⟨h.mis mm k, e3, I', e4, X, hrep⟩, rfl⟩
      by_cases x2 : x = 2
      · rw [if_pos (Or.inl x2), if_pos x2]; exact hbad
      · rw [if_neg x2]
        unfold B_Mod_write_32
        rcases b3 with rfl | rfl
        · rw [if_neg (show ¬ (x = 2 ∨ ¬ ((0 : Int32), ()).1 = 0) from fun q => q.elim x2 (fun q => q rfl)), if_pos rfl, thM_r]
          unfold B_LV_write_9 B_Mod_write_40 B_Mod_write_43
          obtain ⟨u, m2, g1, g2, g3⟩ := R_last (f := f') (r := rSFau (rSFau (rSMis (rSKep (rSThr r 0) k) mm) 0) 0) (h.mis mm k) I hi l1 l3
          rw [if_neg (not_not_intro (show rFau (rSFau (nI i, rSFau (rSMis (rSKep (rSThr r 0) k) mm) 0).2 0) = 0 from rfl)), show f_Finder_lastOf (dSMis d mm, f').1 (dSMis d mm, f').2 (nI i) = _ from g1, show f_Mod_last (rSFau (nI i, rSFau (rSMis (rSKep (rSThr r 0) k) mm) 0).2 0) (nI i, rSFau (rSMis (rSKep (rSThr r 0) k) mm) 0).1 = _ from g2, bnd_some, bnd_some]
          unfold B_Mod_write_56
          obtain ⟨q, d', f2, m', r', u1, u2, u3, u4⟩ := S_wr20 (d := dSMis d m2) (f := f') (w := w) (m := m) (s := s) (g := g) (x := y) (v := v) (u := u) (i := i) (B := B) (r := rSFau (rSMis (rSFau (rSFau (rSMis (rSKep (rSThr r 0) k) mm) 0) 0) m2) (if u = -1 then 4 else 0)) (h.mis m2 k) e3 I hB e4 X hi l1 l3 (by show ¬ dCells d (i * 13) = 0; rw [l2, sn3]; exact nI_ne0 (by omega) (by omega)) (dir_ser hi l1 b1) (by
            rcases g3 with rfl | ⟨j, rfl, j1, j2, j3, -⟩
            · exact Or.inl ⟨rfl, rfl⟩
            · exact Or.inr ⟨j, rfl, j1, j2, j3, if_neg (nI_m1 (by omega))⟩)
          exact ⟨q, d', f2, m', r', u1, u2, ⟨u3.1, u3.2.1, u3.2.2.1, u3.2.2.2.1, u3.2.2.2.2.1, by rw [u3.2.2.2.2.2]; exact hrep⟩, u4⟩
        · rw [if_pos (show x = 2 ∨ ¬ ((1 : Int32), ()).1 = 0 from Or.inr (by decide)), if_neg (by decide)]; exact hbad
  · rw [p1, begin0 p2, bnd_some]
    exact ⟨.inl 1, d, f, m, _, rfl, rfl, ⟨h, hf, I', J, X, hrep⟩, rfl⟩
end W2
