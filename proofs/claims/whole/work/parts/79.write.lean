/-! write -/
/-- the class's ending and the reference's fault -/
def fq {τ : Type} (q : Nat ⊕ τ) (r : RS) : Prop := (∃ e, q = .inl e ∧ 1 ≤ e ∧ e ≤ 5 ∧ rFau r = nI e) ∨ (∃ v, q = .inr v ∧ rFau r = 0)
theorem fq_ends {r : RS} {q : Nat ⊕ Unit} (h : fq q r) (a : Int32) : ∃ c, (f_Mod_ends r a 1 2 3 4 5).2 = rSThr r c ∧ ansU q c [(1, 1), (2, 2), (3, 3), (4, 4), (5, 5)] := by
  rcases h with ⟨e, rfl, h1, h2, h3⟩ | ⟨v, rfl, h3⟩
  · rcases (show e = 1 ∨ e = 2 ∨ e = 3 ∨ e = 4 ∨ e = 5 by omega) with rfl | rfl | rfl | rfl | rfl
    · exact ⟨1, by rw [ends1 _ _ _ _ _ _ _ h3], rfl⟩
    · exact ⟨2, by rw [ends2 _ _ _ _ _ _ _ h3], rfl⟩
    · exact ⟨3, by rw [ends3 _ _ _ _ _ _ _ h3], rfl⟩
    · exact ⟨4, by rw [ends4 _ _ _ _ _ _ _ h3], rfl⟩
    · exact ⟨5, by rw [ends5 _ _ _ _ _ _ _ h3], rfl⟩
  · exact ⟨0, by rw [ends0 _ _ _ _ _ _ _ h3], rfl⟩
/-- all that holds behind a part of a call -/
def WO (B : Nat) (d : DS) (f : FS) (r r0 : RS) : Prop := RD d r ∧ RF f r ∧ IV B d ∧ IF f ∧ IX d ∧ rRep r = rRep r0
theorem RF.kep {f : FS} {r r' : RS} (h : RF f r) (e : rKep r' = rKep r) : RF f r' := fun t t1 t2 => by rw [e]; exact h t t1 t2
section WR
variable {d : DS} {r : RS} {f : FS} {w : WS} {m : MS} {s : SS} {g : GS} {B i j : Nat}
theorem free_of {a : Nat} (ha : a < 40) (h : xFree d (nI a) = true) : dUnr d a = 0 ∧ dCells d (a * 13) = 0 := by
  by_cases hu : dUnr d a = 0
  · exact ⟨hu, (free_iff ha hu).mp h⟩
  · rw [freeU ha hu] at h; cases h
theorem IX.ne0 (X : IX d) (h1 : dUnr d j = 0) (h2 : dCells d (j * 13) = 0) : j ≠ 0 := by
  intro e
  subst e
  rcases X.2.1 with q | q
  · exact q h1
  · rw [show 0 * 13 = 0 from rfl, q.1] at h2; exact absurd h2 (by decide)
/-- behind the taking of a sector for a page -/
theorem R_append1 {a : Nat} {v : Int32} (h : RD d r) (hf : RF f r) (I : IV B d) (hB : B + 1 ≤ 100000) (J : IF f) (X : IX d) (hfa : rFau r = 0) (hM : MR d m r) (hi : i < 40) (hui : dUnr d i = 0) (hj : j < 40) (huj : dUnr d j = 0) (hs : dCells d (i * 13) = dCells d (j * 13)) (hs0 : ¬ dCells d (i * 13) = 0) (hr1 : ¬ dCells d (i * 13) = 1) (ha : a < 40) (hF : xFree d (nI a) = true) :
    ∃ q d' r', thM (f_Disk_spendWrite d) (fun x z => some (.inl x, (z, f, m))) (fun _ z => B_LV_appendByte_97 z f w m s g (nI i) (nI j) v (nI a)) = some (q, (d', f, m)) ∧ B_Mod_putByte_137 r v (nI i) (nI j) (nI a) = some ((), r') ∧ WO (B + 1) d' f r' r ∧ fq q r' := by
  unfold B_Mod_putByte_137 f_Mod_append
  obtain ⟨hua, hca⟩ := free_of ha hF
  rcases R_writes h hfa with ⟨e1, e2, e3⟩ | ⟨d1, r1, e1, e2, e3, c1, c2, c3, c4, c5⟩
  · rw [e1, e2, thM_l]
    unfold B_Mod_append_4
    rw [if_pos rfl, app_dark rfl, bnd_some]
    unfold B_Mod_putByte_149 B_Mod_putByte_153 B_Mod_putByte_161
    rw [putMap_dark rfl, bnd_some]
    exact ⟨.inl 1, dSPow d 0, _, rfl, rfl, ⟨e3, hf, I.mono (by omega) hB, J, X, rfl⟩, Or.inl ⟨1, rfl, by decide, by decide, rfl⟩⟩
  · rw [e1, e2, thM_r]
    have hja : j ≠ a := fun e => hs0 (by rw [hs, e]; exact hca)
    have hia : i ≠ a := fun e => hs0 (by rw [e]; exact hca)
    have hua1 : dUnr d1 a = 0 := by rw [c3]; exact hua
    have huj1 : dUnr d1 j = 0 := by rw [c3]; exact huj
    have hui1 : dUnr d1 i = 0 := by rw [c3]; exact hui
    have ha0 : a ≠ 0 := X.ne0 hua hca
    obtain ⟨r2, g1, g2⟩ := R_page (i := i) (z := j) (x := a) e3 hi hj ha hja hia (by rw [c1]; exact hs) 1 (v &&& 255) 0 0
    have g3 := C_page (d := d1) hj huj1 ha hua1 hja 1
    unfold B_LV_appendByte_97 B_LV_appendByte_108 B_Mod_append_4
    rw [if_neg (show ¬ ((1 : Int32), r1).1 = 0 from (by decide : ¬ (1 : Int32) = 0)), g1]
    unfold B_Mod_append_40 B_Mod_append_57
    rw [if_neg (by decide), by8, if_pos (inB_nI (show 8 * a < 320 by omega) (by decide)), cl_nI (by omega), if_pos (by decide)]
    generalize (f_Disk_makePageBehind d1 (nI j) (nI a) 1).2 = d2 at g3
    have hua2 : dUnr d2 a = 0 := by rw [g3.unr]; exact hua1
    rw [show f_Disk_setByte d2 (nI a) 0 v = ((), dSet d2 a (5 + 0) (v &&& 255)) from C_setb (j := 0) ha (by decide) hua2 v, show rSByt r2 (upd (rByt r2) (8 * a) (v &&& 255)) = rSet r2 a (5 + 0) (v &&& 255) from (rSetb r2 a 0 (v &&& 255)).symm]
    have g4 := g3.set (k := 5 + 0) (by decide) (v &&& 255)
    have g5 := g2.set (k := 5 + 0) (by decide) (v &&& 255)
    have hR : RD (dSet d2 a (5 + 0) (v &&& 255)) (rSet r2 a (5 + 0) (v &&& 255)) := e3.row g4 g5
    have I1 : IV B d1 := I.same c1 c3
    obtain ⟨b, b1, b2⟩ := b255 v
    obtain ⟨pn, p1, p2⟩ := I1.pagN hj
    obtain ⟨sn, s1, s2⟩ := I1.serN hj
    have hI : IV (B + 1) (dSet d2 a (5 + 0) (v &&& 255)) := by
      refine I1.row (by omega) hB g4.du (all13 ?_ ?_ ?_ ?_ ?_ ?_ ?_ ?_ ?_ ?_ ?_ ?_ ?_)
      · exact Or.inr ⟨by omega, sn, s1, s2⟩
      · refine Or.inr ⟨by omega, pn + 1, show pn + 1 ≤ B + 1 by omega, ?_⟩
        show dCells d1 (j * 13 + 1) + 1 = _
        rw [p2, nI_1]
      · exact Or.inr ⟨by omega, 1, by show 1 ≤ 8; decide, rfl⟩
      · exact Or.inl ⟨Or.inl rfl, Or.inl rfl⟩
      · exact Or.inl ⟨Or.inr rfl, Or.inr ⟨j, hj, rfl⟩⟩
      · rw [show upd (pV (dCells d1 (j * 13)) (dCells d1 (j * 13 + 1) + 1) 1 (nI j)) (5 + 0) (v &&& 255) 5 = nI b from b2]
        exact vOKb (j := 0) b1
      all_goals exact Or.inr ⟨by omega, 0, Nat.zero_le _, rfl⟩
    have hX : IX (dSet d2 a (5 + 0) (v &&& 255)) := by
      refine (X.same c1 c3).row g4.du (fun _ q => ?_) (fun q => absurd q ha0) (fun q => absurd (show dCells d (i * 13) = 1 by rw [hs, ← c1]; exact q) hr1)
      have q2 : dCells d1 (j * 13 + 1) + 1 = 0 := q
      rw [p2, nI_1] at q2
      exact absurd q2 (nI_ne0 (by omega) (by have := I.1; omega))
    have hfa3 : rFau (rSet r2 a (5 + 0) (v &&& 255)) = 0 := (rO_fau g5.2).trans ((rQ_fau c5).trans hfa)
    have hG3 : rG (rSet r2 a (5 + 0) (v &&& 255)) = rG r := (rO_G g5.2).trans (rQ_G c5)
    have hu3 : dUnr (dSet d2 a (5 + 0) (v &&& 255)) = dUnr d := g4.unr.trans c3
    generalize dSet d2 a (5 + 0) (v &&& 255) = d3 at hR hI hX hu3
    generalize rSet r2 a (5 + 0) (v &&& 255) = r3 at hR hfa3 hG3
    obtain ⟨d4, r4, k1, k2, k3, k4, k5, k6, k7⟩ := R_link (f := f) (w := w) (m := m) (s := s) (g := g) hR hI hX hfa3 hi (by rw [hu3]; exact hui) hj (by rw [hu3]; exact huj) ha
    rw [k2, bnd_some]
    unfold B_LV_appendByte_119 B_Mod_putByte_149 B_Mod_putByte_153 B_Mod_putByte_161
    have hG4 : rG r4 = rG r := k7.trans hG3
    rcases k1 with ⟨k1, kf⟩ | ⟨k1, kf⟩
    · rw [k1, thM_l, putMap_dark kf, bnd_some]
      exact ⟨.inl 1, d4, r4, rfl, rfl, ⟨k3, hf.kep (rG_kep hG4), k4, J, k5, rG_rep hG4⟩, Or.inl ⟨1, rfl, by decide, by decide, kf⟩⟩
    · rw [show f_LV_linkBehind ((), d3).2 f w m s g (nI i) (nI j) (nI a) = _ from k1, thM_r]
      unfold B_LV_appendByte_127 B_LV_appendByte_134
      rcases R_update (f := f) (w := w) k3 k4 kf (hM.g hG4 (k6.trans hu3)) with ⟨n1, n2, n3⟩ | ⟨d5, r5, n1, n2, n3, n4, n5, n6, n7⟩
      · rw [n1, n2, bnd_some, bnd_some, thM_l]
        exact ⟨.inl 1, _, _, rfl, rfl, ⟨n3, hf.kep (rG_kep hG4), k4, J, k5, rG_rep hG4⟩, Or.inl ⟨1, rfl, by decide, by decide, rfl⟩⟩
      · rw [n1, n2, bnd_some, bnd_some, thM_r]
        exact ⟨.inr (), d5, r5, rfl, rfl, ⟨n3, hf.kep (n7.trans (rG_kep hG4)), n4, J, n5 k5, (rP_rep n6).trans (rG_rep hG4)⟩, Or.inr ⟨(), rfl, (rP_fau n6).trans kf⟩⟩
theorem R_append62 {v : Int32} (h : RD d r) (hf : RF f r) (I : IV B d) (hB : B + 1 ≤ 100000) (J : IF f) (X : IX d) (hfa : rFau r = 0) (hi : i < 40) (hui : dUnr d i = 0) (hj : j < 40) (huj : dUnr d j = 0) (hs : dCells d (i * 13) = dCells d (j * 13)) (hs0 : ¬ dCells d (i * 13) = 0) (hr1 : ¬ dCells d (i * 13) = 1) :
    ∃ q d' f' m' r', B_LV_appendByte_62 d f w m s g (nI i) (nI j) v = some (q, (d', f', m')) ∧ B_Mod_putByte_121 r (nI i) (nI j) v = some ((), r') ∧ WO (B + 1) d' f' r' r ∧ fq q r' := by
  unfold B_LV_appendByte_62 B_Mod_putByte_121
  obtain ⟨mm, f', m', r', c, e1, e2, e3, e4, e5, e6, e7, e8⟩ := R_takes (w := w) (m := m) (n := 1) h hf I J (Or.inl rfl)
  rw [show (1 : Int32) = nI 1 from rfl, e1, e2, bnd_some, bnd_some]
  unfold B_LV_appendByte_70 B_Mod_putByte_126
  have hfa' : rFau r' = 0 := (rP_fau e8).trans hfa
  by_cases hc : c = 1
  · subst hc
    rw [if_pos (show ¬ ((if 1 = 1 then (1 : Int32) else 0), (dSMis d mm, f', m')).1 = 0 from (by decide : ¬ (1 : Int32) = 0)), if_neg (show ¬ ((if 1 = 1 then (1 : Int32) else 0), r').1 = 0 from (by decide : ¬ (1 : Int32) = 0))]
    rcases e7 with ⟨q, -⟩ | ⟨-, a, a1, a2, a3, a4, a5, a6⟩ | ⟨q, -⟩
    · cases q
    · rw [show f_Mod_taken ((if 1 = 1 then (1 : Int32) else 0), r').2 0 = _ from R_taken (x := 0) (y := 4) a1 rfl a5 (fun q q1 q2 => fun e => a6 q q1 q2 (by rw [e]; decide)), bnd_some]
      have hfi : (f_Map_firstTaken (dSMis d mm) f' w m').1 = nI a := a3
      show ∃ q d' f'' m'' r'', thM (f_Disk_spendWrite (dSMis d mm)) _ (fun _ z => B_LV_appendByte_97 z f' w m' s g (nI i) (nI j) v (f_Map_firstTaken (dSMis d mm) f' w m').1) = _ ∧ _
      rw [hfi]
      obtain ⟨q, d2, r2, u1, u2, u3, u4⟩ := R_append1 (d := dSMis d mm) (f := f') (w := w) (m := m') (s := s) (g := g) (v := v) (B := B) (i := i) (j := j) (a := a) e3 e4 I hB e5 X hfa' (e6.un (d' := dSMis d mm) rfl) hi hui hj huj hs hs0 hr1 a1 a2
      exact ⟨q, d2, f', m', r2, u1, u2, ⟨u3.1, u3.2.1, u3.2.2.1, u3.2.2.2.1, u3.2.2.2.2.1, u3.2.2.2.2.2.trans (rP_rep e8)⟩, u4⟩
    · cases q
  · rw [if_neg (not_not_intro (show ((if c = 1 then (1 : Int32) else 0), (dSMis d mm, f', m')).1 = 0 from if_neg hc)), if_pos (show ((if c = 1 then (1 : Int32) else 0), r').1 = 0 from if_neg hc)]
    exact ⟨.inl 4, dSMis d mm, f', m', rSFau r' 4, rfl, rfl, ⟨e3, e4, I.mono (by omega) hB, e5, X, show rRep r' = rRep r from rP_rep e8⟩, Or.inl ⟨4, rfl, by decide, by decide, rfl⟩⟩
theorem R_appendB {v : Int32} (h : RD d r) (hf : RF f r) (I : IV B d) (hB : B + 1 ≤ 100000) (J : IF f) (X : IX d) (hfa : rFau r = 0) (hi : i < 40) (hui : dUnr d i = 0) (hp : dCells d (i * 13 + 1) = 0) (hj : j < 40) (huj : dUnr d j = 0) (hs : dCells d (i * 13) = dCells d (j * 13)) (hs0 : ¬ dCells d (i * 13) = 0) (hr1 : ¬ dCells d (i * 13) = 1) :
    ∃ q d' f' m' r', f_LV_appendByte d f w m s g (nI i) (nI j) v = some (q, (d', f', m')) ∧ (if nI j = nI i then B_Mod_putByte_121 r (nI i) (nI j) v else (if inB (nI j) 40 then (if 8 ≤ (rUse r (nI j).toNatClampNeg) then (B_Mod_putByte_121 r (nI i) (nI j) v) else (B_Mod_putByte_79 ((f_Mod_writes r).2) (nI j) v ((f_Mod_writes r).1))) else none)) = some ((), r') ∧ WO (B + 1) d' f' r' r ∧ fq q r' := by
  unfold f_LV_appendByte
  rw [xc1 hj huj, xc2 hj huj, if_pos (inB_nI hj (by decide)), cl_nI (by omega), ← h.use hj]
  have h62 := R_append62 (w := w) (m := m) (s := s) (g := g) (v := v) h hf I hB J X hfa hi hui hj huj hs hs0 hr1
  obtain ⟨pn, p1, p2⟩ := I.pagN hj
  obtain ⟨un, u1, u2⟩ := I.useN hj
  have hBB := I.1
  by_cases g0 : pn = 0
  · have p0 : dCells d (j * 13 + 1) = 0 := by rw [p2, g0]; rfl
    have u8 := X.1 j hj (by rw [← hs]; exact hs0) p0
    rw [p0, if_pos (show (0 : Int32) ≤ 0 by decide), u8, if_pos (show (8 : Int32) ≤ 8 by decide)]
    by_cases e : nI j = nI i
    · rw [if_pos e]; exact h62
    · rw [if_neg e]; exact h62
  · have hji : ¬ nI j = nI i := fun e => g0 (by
      have e2 := (nI_eq (by omega) (by omega)).mp e
      rw [e2, hp] at p2
      exact ((nI_eq (a := 0) (by omega) (by omega)).mp p2).symm)
    rw [if_neg hji, p2, if_neg (nI_nle (by omega) (by omega))]
    by_cases g8 : (8 : Int32) ≤ dCells d (j * 13 + 2)
    · rw [if_pos g8, if_pos g8]; exact h62
    · rw [if_neg g8, if_neg g8]
      have hu8 : un < 8 := by
        by_cases q : un < 8
        · exact q
        · exact absurd (show (8 : Int32) ≤ dCells d (j * 13 + 2) by rw [u2]; exact nI_le (a := 8) (by omega) (by omega)) g8
      have hj0 : j = 0 → False := fun e => by
        subst e
        rcases X.2.1 with q | q
        · exact q huj
        · rw [show 0 * 13 + 1 = 1 from rfl, q.2] at p2
          exact g0 ((nI_eq (a := 0) (by omega) (by omega)).mp p2).symm
      rcases R_writes h hfa with ⟨e1, e2, e3⟩ | ⟨d1, r1, e1, e2, e3, c1, c2, c3, c4, c5⟩
      · rw [e1, e2, thM_l]
        unfold B_Mod_putByte_79 B_Mod_putByte_161
        rw [if_pos rfl]
        exact ⟨.inl 1, _, _, _, _, rfl, rfl, ⟨e3, hf, I.mono (by omega) hB, J, X, rfl⟩, Or.inl ⟨1, rfl, by decide, by decide, rfl⟩⟩
      · rw [e1, e2, thM_r]
        unfold B_LV_appendByte_37 B_LV_appendByte_48 B_LV_appendByte_61 B_Mod_putByte_79 B_Mod_putByte_104 B_Mod_putByte_118 B_Mod_putByte_161
        have huj1 : dUnr d1 j = 0 := by rw [c3]; exact huj
        have eu : rUse r1 j = nI un := by rw [← e3.use hj, c1]; exact u2
        have hin : inB (nI j) 40 := inB_nI hj (by decide)
        have hcl : (nI j).toNatClampNeg = j := cl_nI (by omega)
        rw [u2, if_neg (show ¬ ((1 : Int32), r1).1 = 0 from (by decide : ¬ (1 : Int32) = 0)), if_pos hin, if_pos hin, if_pos hin, hcl, C_setb hj hu8 huj1]
        show ∃ q d' f' m' r', some (Sum.inr (), (xSetCell (dSet d1 j (5 + un) (v &&& 255)) (nI j) 2 (nI un + 1), f, m)) = _ ∧ (if inB (8 * nI j + rUse r1 j) 320 then some ((), rSUse (rSByt r1 (upd (rByt r1) (8 * nI j + rUse r1 j).toNatClampNeg (v &&& 255))) (upd (rUse r1) j (rUse r1 j + 1))) else none) = _ ∧ _
        rw [eu, byA, if_pos (inB_nI (show 8 * j + un < 320 by omega) (by decide)), cl_nI (by omega), nI_1, ← rSetb]
        have k1 : RD (dSet d1 j (5 + un) (v &&& 255)) (rSet r1 j (5 + un) (v &&& 255)) := e3.set hj (by omega) _
        have k2 := k1.set hj (show 2 < 13 by decide) (nI (un + 1))
        rw [show xSetCell (dSet d1 j (5 + un) (v &&& 255)) (nI j) 2 (nI (un + 1)) = dSet (dSet d1 j (5 + un) (v &&& 255)) j 2 (nI (un + 1)) from C_set (d := dSet d1 j (5 + un) (v &&& 255)) hj (k := 2) (by decide) huj1 _]
        obtain ⟨b, b1, b2⟩ := b255 v
        have hO : rO (rSet (rSet r1 j (5 + un) (v &&& 255)) j 2 (nI (un + 1))) = rO r1 := (rSet_O _ _ _ _).trans (rSet_O _ _ _ _)
        have er : rSUse (rSet r1 j (5 + un) (v &&& 255)) (upd (rUse r1) j (nI (un + 1))) = rSet (rSet r1 j (5 + un) (v &&& 255)) j 2 (nI (un + 1)) := by
          have e9 : rUse (rSet r1 j (5 + un) (v &&& 255)) = rUse r1 := by rw [rSetb]; rfl
          show _ = rSUse (rSet r1 j (5 + un) (v &&& 255)) (upd (rUse (rSet r1 j (5 + un) (v &&& 255))) j (nI (un + 1)))
          rw [e9]
        rw [er]
        have I1 : IV B d1 := I.same c1 c3
        have I2 : IV B (dSet (dSet d1 j (5 + un) (v &&& 255)) j 2 (nI (un + 1))) := (I1.set (by omega) (by rw [b2]; exact vOKb b1)).set (by decide) (Or.inr ⟨by omega, un + 1, show un + 1 ≤ 8 by omega, rfl⟩)
        have X1 : IX (dSet d1 j (5 + un) (v &&& 255)) := (X.same c1 c3).set3 (by omega) (by omega)
        have X2 : IX (dSet (dSet d1 j (5 + un) (v &&& 255)) j 2 (nI (un + 1))) := by
          have k3 := (DRow.refl (dSet d1 j (5 + un) (v &&& 255)) j).set (k := 2) (by decide) (nI (un + 1))
          refine X1.row k3.du (fun _ q => ?_) (fun q => absurd q (fun e => hj0 e)) (fun q => absurd (show dCells d (i * 13) = 1 by
            have e9 := dSet_at (d := d1) (i := j) (k := 5 + un) (i' := j) (k' := 0) (v := v &&& 255) (by omega) (by decide)
            rw [if_neg (by omega)] at e9
            rw [hs, ← c1]; exact e9.symm.trans q) hr1)
          have q2 : dCells (dSet d1 j (5 + un) (v &&& 255)) (j * 13 + 1) = 0 := q
          rw [dSet_at (by omega) (by decide), if_neg (by omega), c1, p2] at q2
          exact absurd ((nI_eq (b := 0) (by omega) (by decide)).mp q2) g0
        exact ⟨.inr (), _, f, m, _, rfl, rfl, ⟨k2, hf.kep ((rO_kep hO).trans (rQ_kep c5)), I2.mono (by omega) hB, J, X2, (congrArg (·.1) (rO_P hO)).trans (rP_rep (rQ_P c5))⟩, Or.inr ⟨(), rfl, (rO_fau hO).trans ((rQ_fau c5).trans hfa)⟩⟩
end WR
