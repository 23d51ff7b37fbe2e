/-! create, the call -/
section C2
variable {d : DS} {r : RS} {f : FS} {w : WS} {m : MS} {s : SS} {g : GS} {B i : Nat}
/-- where the new entry will go, before sectors are taken -/
def Room0 (d : DS) (i : Nat) (w : WS) (r : RS) (fits : Int32) : Prop :=
  (fits = 1 ∧ ∃ hh ht, hh < 40 ∧ ht < 2 ∧ dUnr d hh = 0 ∧ ¬ dCells d (hh * 13) = 0 ∧ wHSe w = nI hh ∧ wHSl w = nI ht ∧ rHAt r = nI hh ∧ rHPl r = nI (8 * hh + 4 * ht)) ∨
  (∃ e, wHSe w = -1 ∧ rHAt r = -1 ∧ e < 40 ∧ dUnr d e = 0 ∧ ¬ dCells d (e * 13) = 0 ∧ dCells d (e * 13) = dCells d (i * 13) ∧ wSec w = nI e ∧ rEnd r = nI e ∧
    ((fits = 1 ∧ ¬ dCells d (e * 13 + 1) = 0 ∧ (f_Disk_takesEntryBehind d (nI e)).1 = 1) ∨ (fits = 0 ∧ (f_Disk_takesEntryBehind d (nI e)).1 = 0)))
theorem rP_hat {r r' : RS} (h : rP r' = rP r) : rHAt r' = rHAt r := congrArg (fun z => z.2.2.2.1) h
theorem rP_hpl {r r' : RS} (h : rP r' = rP r) : rHPl r' = rHPl r := congrArg (fun z => z.2.2.2.2.1) h
theorem rP_end {r r' : RS} (h : rP r' = rP r) : rEnd r' = rEnd r := congrArg (fun z => z.2.2.2.2.2.1) h
theorem R_cr71 {fits k : Int32} {cnt n : Nat} (hfc : (fits = 1 ∧ cnt = 1) ∨ (fits = 0 ∧ cnt = 2)) (h : RD d r) (hf : RF f r) (I : IV B d) (hB : B + 1 ≤ 100000) (J : IF f) (X : IX d) (hfa : rFau r = 0) (hi : i < 40) (hui : dUnr d i = 0) (hsi : ¬ dCells d (i * 13) = 0) (hn1 : 1 ≤ n) (hn : n ≤ 9999) (hR : Room0 d i w r fits) :
    ∃ q d' f' m' a r', B_LV_create_71 d f w m s g (nI n) k (nI i) (nI cnt) = some (q, (d', f', w, m')) ∧ B_Mod_created_46 r (nI i) (nI n) k fits (nI cnt) = some (a, r') ∧ WO (B + 1) d' f' r' r ∧ fqA q a r' := by
  unfold B_LV_create_71 B_Mod_created_46
  obtain ⟨mm, f1, m1, r1, c, e1, e2, e3, e4, e5, e6, e7, e8⟩ := R_takes (w := w) (m := m) (n := cnt) h hf I J (by omega)
  rw [e1, e2, bnd_some, bnd_some]
  unfold B_LV_create_74 B_Mod_created_49
  have hfa1 : rFau r1 = 0 := (rP_fau e8).trans hfa
  by_cases hc : c = cnt
  · rw [if_pos hc, if_pos (show ¬ ((1 : Int32), (dSMis d mm, f1, m1)).1 = 0 from (by decide : ¬ (1 : Int32) = 0)), if_pos (show ¬ ((1 : Int32), r1).1 = 0 from (by decide : ¬ (1 : Int32) = 0))]
    obtain ⟨sn, s1, s2, s3, s4⟩ := R_lowSer (d := dSMis d mm) e3 I
    -- what is taken
    obtain ⟨a, ha, haF, hfir, hmarA, hmarA2, hsnd⟩ : ∃ a, a < 40 ∧ xFree d (nI a) = true ∧ mFir m1 = nI a ∧ rMar r1 a = 4 ∧ (∀ q, q < 40 → q ≠ a → ¬ rMar r1 q = 4) ∧ (fits = 0 → ∃ b, b < 40 ∧ a ≠ b ∧ xFree d (nI b) = true ∧ mSnd m1 = nI b ∧ rMar r1 b = 5 ∧ ∀ q, q < 40 → q ≠ b → ¬ rMar r1 q = 5) := by
      rcases e7 with ⟨q, -⟩ | ⟨q, a, a1, a2, a3, a4, a5, a6⟩ | ⟨q, a, b, a1, a2, a3, a4, a5, a6, a7, a8, a9, a10⟩
      · omega
      · exact ⟨a, a1, a2, a3, a5, fun q q1 q2 e => a6 q q1 q2 (by rw [e]; decide), fun z => by
          rcases hfc with ⟨z1, z2⟩ | ⟨z1, z2⟩
          · rw [z] at z1; exact absurd z1 (by decide)
          · omega⟩
      · refine ⟨a, a1, a4, a6, a8, fun q q1 q2 e => ?_, fun _ => ⟨b, a2, a3, a5, a7, a9, fun q q1 q2 e => ?_⟩⟩
        · by_cases z : q = b
          · rw [z, a9] at e; exact absurd e (by decide)
          · exact a10 q q1 q2 z (by rw [e]; decide)
        · by_cases z : q = a
          · rw [z, a8] at e; exact absurd e (by decide)
          · exact a10 q q1 z q2 (by rw [e]; decide)
    rw [show f_Mod_lowestSerial ((1 : Int32), r1).2 = _ from s4, bnd_some]
    unfold B_Mod_created_63
    rw [show f_Mod_taken ((1 : Int32), r1).2 0 = _ from R_taken (x := 0) (y := 4) ha rfl hmarA hmarA2, bnd_some]
    unfold B_Mod_created_70
    obtain ⟨hua, hca⟩ := free_of ha haF
    have hfi : (f_Map_firstTaken (dSMis d mm) f1 w m1).1 = nI a := hfir
    show ∃ q d' f' m' a' r', thM (f_Disk_spendWrite (dSMis d mm)) (fun x z => some (.inl x, (z, f1, w, m1))) (fun _ z => B_LV_create_110 z f1 w m1 s g (nI n) k (nI i) (xLowSer (dSMis d mm)) (f_Map_firstTaken (dSMis d mm) f1 w m1).1) = _ ∧ B_Mod_created_76 (f_Mod_writes r1).2 (nI i) (nI n) k fits (nI sn) (nI a) (f_Mod_writes r1).1 = _ ∧ _
    rw [hfi, s3]
    have htak : ∀ r2, rMar r2 = rMar r1 → fits = 0 → ∃ b, b < 40 ∧ a ≠ b ∧ xFree d (nI b) = true ∧ mSnd m1 = nI b ∧ f_Mod_taken r2 1 = some (nI b, ()) := fun r2 hm hz => by
      obtain ⟨b, b1, b2, b3, b4, b5, b6⟩ := hsnd hz
      exact ⟨b, b1, b2, b3, b4, R_taken (x := 1) (y := 5) b1 rfl (by rw [hm]; exact b5) (fun q q1 q2 => by rw [hm]; exact b6 q q1 q2)⟩
    rcases R_writes e3 hfa1 with ⟨w1, w2, w3⟩ | ⟨d2, r2, w1, w2, w3, v1, v2, v3, v4, v5⟩
    · rw [w1, w2, thM_l]
      unfold B_Mod_created_76
      rw [if_pos rfl, cr97_dark (r := rSFau (rSDar r1 1) 1) rfl _ _ _ _ (fun _ hz => by
        obtain ⟨b, -, -, -, -, b5⟩ := htak (rSFau (rSDar r1 1) 1) rfl hz
        exact ⟨_, b5⟩)]
      exact ⟨.inl 1, _, f1, m1, _, _, rfl, rfl, ⟨w3, e4, I.mono (by omega) hB, e5, X, show rRep r1 = rRep r from rP_rep e8⟩, Or.inl ⟨1, rfl, by decide, by decide, rfl⟩⟩
    · rw [w1, w2, thM_r]
      unfold B_LV_create_110 B_LV_create_128 B_Mod_created_76 B_Mod_created_94
      obtain ⟨kd, hkd, ek1, ek2⟩ : ∃ kd : Nat, kd < 2 ∧ (if k = 0 then B_LV_create_131 (f_Disk_makeLeader d2 (nI a) (nI sn) (nI n) 0).2 f1 w m1 s g (nI i) (nI sn) (nI a) else B_LV_create_131 (f_Disk_makeLeader d2 (nI a) (nI sn) (nI n) 1).2 f1 w m1 s g (nI i) (nI sn) (nI a)) = B_LV_create_131 (f_Disk_makeLeader d2 (nI a) (nI sn) (nI n) (nI kd)).2 f1 w m1 s g (nI i) (nI sn) (nI a) ∧ (if k = 0 then bnd (f_Mod_makeLeader r2 (nI a) (nI sn) (nI n) 0) (fun q => B_Mod_created_97 q.2 (nI i) (nI n) fits (nI sn) (nI a)) else bnd (f_Mod_makeLeader r2 (nI a) (nI sn) (nI n) 1) (fun q => B_Mod_created_97 q.2 (nI i) (nI n) fits (nI sn) (nI a))) = bnd (f_Mod_makeLeader r2 (nI a) (nI sn) (nI n) (nI kd)) (fun q => B_Mod_created_97 q.2 (nI i) (nI n) fits (nI sn) (nI a)) := by
        by_cases hk : k = 0
        · exact ⟨0, by decide, by rw [if_pos hk]; rfl, by rw [if_pos hk]; rfl⟩
        · exact ⟨1, by decide, by rw [if_neg hk]; rfl, by rw [if_neg hk]; rfl⟩
      rw [if_neg (show ¬ ((1 : Int32), r2).1 = 0 from (by decide : ¬ (1 : Int32) = 0)), ek1, show (if k = 0 then bnd (f_Mod_makeLeader ((1 : Int32), r2).2 (nI a) (nI sn) (nI n) 0) (fun q => B_Mod_created_97 q.2 (nI i) (nI n) fits (nI sn) (nI a)) else bnd (f_Mod_makeLeader ((1 : Int32), r2).2 (nI a) (nI sn) (nI n) 1) (fun q => B_Mod_created_97 q.2 (nI i) (nI n) fits (nI sn) (nI a))) = _ from ek2]
      have hu2 : dUnr d2 = dUnr d := v3
      have hc2 : dCells d2 = dCells d := v1
      have g1 := C_mkL (d := d2) (x := a) (n := n) (k := kd) (a := nI sn) ha (by rw [hu2]; exact hua) (by omega) (by omega)
      obtain ⟨r3, g2, g3⟩ := R_mkL (r := r2) (x := a) (n := n) (a := nI sn) (k := nI kd) ha (by omega)
      rw [g2, bnd_some]
      have I2 : IV B d2 := IV.same (d := dSMis d mm) I v1 v3
      have X2 : IX d2 := IX.same (d := dSMis d mm) X v1 v3
      have h3 : RD (f_Disk_makeLeader d2 (nI a) (nI sn) (nI n) (nI kd)).2 r3 := w3.row g1 g3
      generalize (f_Disk_makeLeader d2 (nI a) (nI sn) (nI n) (nI kd)).2 = d3 at g1 h3
      have hu3 : dUnr d3 = dUnr d := g1.unr.trans hu2
      have hoth : ∀ y, y < 40 → y ≠ a → ∀ kk, kk < 13 → dCells d3 (y * 13 + kk) = dCells d (y * 13 + kk) := fun y hy hya kk hk => by
        rw [g1.1 y hy kk hk, if_neg hya, hc2]
      have hoth0 : ∀ y, y < 40 → y ≠ a → dCells d3 (y * 13) = dCells d (y * 13) := fun y hy hya => hoth y hy hya 0 (by decide)
      have ha0 : a ≠ 0 := X.ne0 hua hca
      have I3 : IV B d3 := by
        refine I2.row (Nat.le_refl _) I.1 g1.du (all13 ?_ ?_ ?_ ?_ ?_ ?_ ?_ ?_ ?_ ?_ ?_ ?_ ?_)
        · exact Or.inr ⟨by omega, sn, s2, rfl⟩
        · exact Or.inr ⟨by omega, 0, Nat.zero_le _, rfl⟩
        · exact Or.inr ⟨by omega, 8, by show 8 ≤ 8; decide, rfl⟩
        · exact Or.inl ⟨Or.inl rfl, Or.inl rfl⟩
        · exact Or.inl ⟨Or.inr rfl, Or.inl rfl⟩
        · exact vOKb (j := 0) (show n / 256 < 256 by omega)
        · exact vOKb (j := 1) (show n % 256 < 256 by omega)
        · exact vOKb (j := 2) (show kd < 256 by omega)
        · exact vOKb (j := 3) (show a < 256 by omega)
        all_goals exact Or.inr ⟨by omega, 0, Nat.zero_le _, rfl⟩
      have X3 : IX d3 := X2.row g1.du (fun _ _ => rfl) (fun q => absurd q ha0) (fun _ q => absurd rfl q)
      have hG3 : rG r3 = rG r1 := (rO_G g3.2).trans (rQ_G v5)
      have hP3 : rP r3 = rP r := (rO_P g3.2).trans ((rQ_P v5).trans e8)
      have hfa3 : rFau r3 = 0 := (rO_fau g3.2).trans ((rQ_fau v5).trans hfa1)
      have hM3 : MR d3 m1 r3 := e6.g hG3 hu3
      have hia : i ≠ a := fun q => hsi (by rw [q]; exact hca)
      have hRm : Room d3 i w m1 r3 fits := by
        rcases hR with ⟨-, hh, ht, a1, a2, a3, a4, a5, a6, a7, a8⟩ | ⟨e, a1, a2, a3, a4, a5, a6, a7, a8, a9⟩
        · have hha : hh ≠ a := fun q => a4 (by rw [q]; exact hca)
          exact Or.inl ⟨hh, ht, a1, a2, by rw [hu3]; exact a3, by rw [hoth0 hh a1 hha]; exact a4, a5, a6, (rP_hat hP3).trans a7, (rP_hpl hP3).trans a8⟩
        · have hea : e ≠ a := fun q => a5 (by rw [q]; exact hca)
          refine Or.inr ⟨e, a1, (rP_hat hP3).trans a2, a3, by rw [hu3]; exact a4, by rw [hoth0 e a3 hea]; exact a5, by rw [hoth0 e a3 hea, hoth0 i hi hia]; exact a6, a7, (rP_end hP3).trans a8, ?_⟩
          have htk := takesEB_same (d := d) (d' := d3) a3 a4 hu3 (hoth e a3 hea 1 (by decide)) (hoth e a3 hea 2 (by decide))
          rcases a9 with ⟨b1, b2, b3⟩ | ⟨b1, b2⟩
          · exact Or.inl ⟨b1, by rw [hoth e a3 hea 1 (by decide)]; exact b2, htk.trans b3⟩
          · obtain ⟨b, c1, c2, c3, c4, c5⟩ := htak r3 (rG_mar hG3) b1
            refine Or.inr ⟨b1, htk.trans b2, b, c1, ?_, c4, c5⟩
            obtain ⟨z1, z2⟩ := free_of c1 c3
            exact (free_iff c1 (by rw [hu3]; exact z1)).mpr ((hoth0 b c1 c2.symm).trans z2)
      obtain ⟨q, d', f', a', r', u1, u2, u3, u4⟩ := R_enter (d := d3) (r := r3) (f := f1) (w := w) (m := m1) (s := s) (g := g) (i := i) (fits := fits) (n := n) (sn := sn) (x := a) h3 (e4.kep (rG_kep hG3)) I3 hB e5 X3 hfa3 hM3 hi (by rw [hu3]; exact hui) (by omega) s1 s2 ha (by rw [hu3]; exact hua) ((g1.1 a ha 0 (by decide)).trans (if_pos rfl)) ((g1.1 a ha 5 (by decide)).trans (if_pos rfl)) ((g1.1 a ha 6 (by decide)).trans (if_pos rfl)) hRm (by rw [hoth0 i hi hia]; exact hsi)
      exact ⟨q, d', f', m1, a', r', u1, u2, ⟨u3.1, u3.2.1, u3.2.2.1, u3.2.2.2.1, u3.2.2.2.2.1, u3.2.2.2.2.2.trans (rP_rep hP3)⟩, u4⟩
  · rw [if_neg hc, if_neg (not_not_intro (show ((0 : Int32), (dSMis d mm, f1, m1)).1 = 0 from rfl)), if_neg (not_not_intro (show ((0 : Int32), r1).1 = 0 from rfl))]
    exact ⟨.inl 4, dSMis d mm, f1, m1, 0, rSFau r1 4, rfl, rfl, ⟨e3, e4, I.mono (by omega) hB, e5, X, show rRep r1 = rRep r from rP_rep e8⟩, Or.inl ⟨4, rfl, by decide, by decide, rfl⟩⟩
theorem R_created {k : Int32} {n e c : Nat} (h : RD d r) (hf : RF f r) (I : IV B d) (hB : B + 1 ≤ 100000) (J : IF f) (X : IX d) (hfa : rFau r = 0) (hi : i < 40) (hui : dUnr d i = 0) (hpi : dCells d (i * 13 + 1) = 0) (hsi : ¬ dCells d (i * 13) = 0) (hn1 : 1 ≤ n) (hn : n ≤ 9999) (hP : Pos d (dCells d (i * 13)) i e c) (hsec : wSec w = nI e) (hen : rEnd r = nI e) (hH : HolR d (dCells d (i * 13)) w r) :
    ∃ q d' f' m' a r', (if (f_Walk_needsPage d f w).1 = 0 then B_LV_create_71 d f w m s g (nI n) k (nI i) 1 else B_LV_create_71 d f w m s g (nI n) k (nI i) 2) = some (q, (d', f', w, m')) ∧ f_Mod_created r (nI i) (nI n) k = some (a, r') ∧ WO (B + 1) d' f' r' r ∧ fqA q a r' := by
  unfold f_Mod_created B_Mod_created_28 B_Mod_created_32 B_Mod_created_33
  have hBB := I.1
  rcases hH with ⟨h1, h2⟩ | ⟨hh, ht, a1, a2, a3, a4, a5, a6, a7, a8⟩
  · rw [h2, if_neg (show ¬ (0 : Int32) ≤ -1 by decide), hen]
    obtain ⟨p1, p2, p3, p4, p5, p6⟩ := hP
    obtain ⟨k1, k2, k3⟩ := needs_no (d := d) (f := f) h1 hsec
    have htk := takesEB (d := d) p1 p2
    have room : ∀ fits, ((fits = 1 ∧ ¬ dCells d (e * 13 + 1) = 0 ∧ (f_Disk_takesEntryBehind d (nI e)).1 = 1) ∨ (fits = 0 ∧ (f_Disk_takesEntryBehind d (nI e)).1 = 0)) → Room0 d i w r fits := fun fits hz => Or.inr ⟨e, h1, h2, p1, p2, by rw [p3]; exact hsi, p3, hsec, hen, hz⟩
    by_cases ei : nI e = nI i
    · have ee := (nI_eq (by omega) (by omega)).mp ei
      have t0 : (f_Disk_takesEntryBehind d (nI e)).1 = 0 := by
        rw [htk, ee, hpi, if_pos (show (0 : Int32) ≤ 0 by decide)]
      rw [k3 t0, if_neg (show ¬ (1 : Int32) = 0 by decide), if_pos ei, if_pos rfl]
      exact R_cr71 (cnt := 2) (Or.inr ⟨rfl, rfl⟩) h hf I hB J X hfa hi hui hsi hn1 hn (room 0 (Or.inr ⟨rfl, t0⟩))
    · have hc0 : c ≠ 0 := fun z => ei (by rw [p6 z])
      have hcB : c < 2 ^ 31 := by
        obtain ⟨pn, q1, q2⟩ := I.pagN p1
        have := cl_nI (i := pn) (by omega)
        rcases Nat.lt_or_ge c (2 ^ 31) with z | z
        · exact z
        · obtain ⟨j, j1, j2⟩ := p5 0 (by omega)
          exfalso
          exact absurd p5 (fun hch => pig40 (d := d) (P := fun q => nI q) (fun a b hab hb => nI_inj41 hab hb) (fun q hq => by
            obtain ⟨j, j1, j2⟩ := hch q (by omega)
            exact ⟨j, j1, j2⟩))
      have hpe : ¬ dCells d (e * 13 + 1) = 0 := by rw [p4]; exact nI_ne0 (by omega) hcB
      have hpl : ¬ dCells d (e * 13 + 1) ≤ 0 := by rw [p4]; exact nI_nle (by omega) hcB
      rw [if_neg ei, if_pos (inB_nI p1 (by decide)), cl_nI (by omega), ← h.use p1]
      by_cases h4 : (4 : Int32) < dCells d (e * 13 + 2)
      · have t0 : (f_Disk_takesEntryBehind d (nI e)).1 = 0 := by rw [htk, if_neg hpl, if_pos h4]
        rw [k3 t0, if_neg (show ¬ (1 : Int32) = 0 by decide), if_pos h4, if_pos rfl]
        exact R_cr71 (cnt := 2) (Or.inr ⟨rfl, rfl⟩) h hf I hB J X hfa hi hui hsi hn1 hn (room 0 (Or.inr ⟨rfl, t0⟩))
      · have t1 : (f_Disk_takesEntryBehind d (nI e)).1 = 1 := by rw [htk, if_neg hpl, if_neg h4]
        rw [k2 t1, if_pos (show (0 : Int32) = 0 from rfl), if_neg h4, if_neg (show ¬ (1 : Int32) = 0 by decide)]
        exact R_cr71 (cnt := 1) (Or.inl ⟨rfl, rfl⟩) h hf I hB J X hfa hi hui hsi hn1 hn (room 1 (Or.inl ⟨rfl, hpe, t1⟩))
  · have h22 := ec2 (d := d) I a1
    rw [(needs_hole (d := d) (f := f) a5 a1).2, if_pos (show (0 : Int32) = 0 from rfl), a7, if_pos (nI_pos' (by omega)), if_neg (show ¬ (1 : Int32) = 0 by decide)]
    exact R_cr71 (cnt := 1) (Or.inl ⟨rfl, rfl⟩) h hf I hB J X hfa hi hui hsi hn1 hn (Or.inl ⟨rfl, hh, ht, a1, by omega, a3, by rw [a4]; exact hsi, a5, a6, a7, a8⟩)
theorem S_create (h : RL B d f s r) (hB : B + 1 ≤ 100000) (x y k : Int32) : ∃ q d' f' w' m' r' a, f_LV_create d f w m s g x y k = some (q, (d', f', w', m')) ∧ f_Mod_create r x y k = some (a, r') ∧ RL (B + 1) d' f' s r' ∧ ans q a (rThr r') [(1, 1), (2, 2), (3, 3), (4, 4)] := by
  obtain ⟨h, hf, I, J, X, hrep⟩ := h
  have I' : IV (B + 1) d := I.mono (by omega) hB
  unfold f_LV_create f_Mod_create
  have fin : ∀ (P : Option ((Nat ⊕ Int32) × (DS × FS × WS × MS))) (q : Nat ⊕ Int32) d' f' w' m' r' a (r0 : RS), P = some (q, (d', f', w', m')) → WO (B + 1) d' f' r' r0 → rRep r0 = rRep r → fqA q a r' → ∃ q d' f' w' m' r'' b, P = some (q, (d', f', w', m')) ∧ B_Mod_create_107 r' a = some (b, r'') ∧ RL (B + 1) d' f' s r'' ∧ ans q b (rThr r'') [(1, 1), (2, 2), (3, 3), (4, 4)] := by
    intro P q d' f' w' m' r' a r0 hP hW hr0 hq
    obtain ⟨c, b, c1, c2⟩ := fqA_ends hq
    unfold B_Mod_create_107 B_Mod_create_118
    rw [c1]
    exact ⟨q, d', f', w', m', _, _, hP, rfl, ⟨hW.1, hW.2.1, hW.2.2.1, hW.2.2.2.1, hW.2.2.2.2.1, by show ∀ k, k < 5 → sRes s k = rRep r' k; rw [hW.2.2.2.2.2, hr0]; exact hrep⟩, c2⟩
  rcases pw (f := f) (w := w) (m := m) (s := s) (g := g) h with ⟨p1, p2⟩ | ⟨p1, p2⟩
  · rw [p1, thM_r]
    obtain ⟨v, mm, kk, f', e1, e2, e3, e4, e5⟩ := R_begin (w := w) (m := m) (s := s) (g := g) h hf J p2 x
    unfold B_LV_create_4
    rw [C_reqDir e1 e5, e2, bnd_some, bnd_some]
    unfold B_Mod_create_5
    rcases e5 with rfl | ⟨i, hi, rfl, l1, l2, l3, sn, sn1, sn2, sn3⟩
    · exact fin _ (.inl 2) _ f' w m _ 0 (rSFau (rSMis (rSKep (rSThr r 0) kk) mm) 2) rfl ⟨h.mis mm kk, e3, I', e4, X, rfl⟩ rfl (Or.inl ⟨2, rfl, by decide, by decide, rfl⟩)
    · rw [if_neg (nI_m1 (by omega)), if_neg (nI_m1 (by omega))]
      obtain ⟨r1, er1⟩ : ∃ r1, r1 = rSFau (rSMis (rSKep (rSThr r 0) kk) mm) 0 := ⟨_, rfl⟩
      have h1 : RD (dSMis d mm) r1 := by rw [er1]; exact h.mis mm kk
      have hf1 : RF f' r1 := by rw [er1]; exact e3
      have hfa1 : rFau r1 = 0 := by rw [er1]; rfl
      have hrp1 : rRep r1 = rRep r := by rw [er1]; rfl
      rw [← er1]
      clear er1 e2
      obtain ⟨b, b1, b2, b3⟩ := R_isDir h1 hi l1
      rw [show f_Disk_isDirectory d (nI i) = (b, ()) from b1, if_neg (not_not_intro (show rFau (nI i, r1).2 = 0 from hfa1)), show f_Mod_isDirectory (nI i, r1).2 (nI i, r1).1 = _ from b2, bnd_some]
      unfold B_Mod_create_23 B_Mod_create_41 B_Mod_create_42 B_Mod_create_55
      have hbad : ∀ P, P = some (Sum.inl 3, (dSMis d mm, f', w, m)) → ∃ q d' f'' w' m' r' a, P = some (q, (d', f'', w', m')) ∧ B_Mod_create_58 (rSFau r1 3) y k (nI i) 0 0 = some (a, r') ∧ RL (B + 1) d' f'' s r' ∧ ans q a (rThr r') [(1, 1), (2, 2), (3, 3), (4, 4)] := fun P hP => by
        unfold B_Mod_create_58
        rw [if_pos rfl]
        exact fin _ (.inl 3) _ f' w m (rSFau r1 3) 0 r1 hP ⟨h1, hf1, I', e4, X, rfl⟩ hrp1 (Or.inl ⟨3, rfl, by decide, by decide, rfl⟩)
      rcases b3 with rfl | rfl
      · rw [if_pos rfl, if_pos rfl, if_pos rfl]
        exact hbad _ rfl
      · rw [if_neg (show ¬ ((1 : Int32), ()).1 = 0 by decide), if_neg (show ¬ ((1 : Int32), ()).1 = 0 by decide), thM_r]
        unfold B_LV_create_9 B_LV_create_23
        by_cases y1 : y < 1
        · rw [if_pos y1, if_pos ((inab _ _ _).mpr (Or.inl y1)), if_pos rfl]; exact hbad _ rfl
        · rw [if_neg y1]
          by_cases y2 : y ≤ 9999
          · rw [if_pos y2, if_neg (fun q => ((inab _ _ _).mp q).elim y1 (fun q => absurd y2 (Int32.not_le.mpr q))), if_neg (by decide)]
            obtain ⟨n, hn0, rfl⟩ := nI_of (x := y) (fun q => y1 (by
              rw [Int32.lt_iff_toInt_lt] at q ⊢
              have : (0 : Int32).toInt = 0 := rfl
              have : (1 : Int32).toInt = 1 := rfl
              omega))
            have hn2 : n ≤ 9999 := (nI_leI (b := 9999) hn0 (by decide)).mp y2
            have hn1 : 1 ≤ n := by
              rcases Nat.eq_zero_or_pos n with z | z
              · rw [z] at y1; exact absurd (show nI 0 < 1 by decide) y1
              · exact z
            unfold B_Mod_create_58
            rw [if_neg (by decide)]
            have hsi : ¬ dCells d (i * 13) = 0 := by rw [l2, sn3]; exact nI_ne0 (by omega) (by omega)
            rcases R_seekName (f := f') (w := w) (d := dSMis d mm) (r := rSFau r1 0) h1 I hi l1 l3 rfl (nI n) with ⟨m1, w1, r2, ee, cc, a1, a2, a3, a4, a5, a6, a7, a8, a9, a10, a11, a12⟩ | ⟨m1, w1, r2, a1, a2, a3, a4, a5, a6⟩ | ⟨m1, w1, r2, ee, cc, t1, a1, a2, a3, a4, a5, a6, a7, a8, a9, a10, a11, a12⟩
            · rw [show f_Walk_seekName (dSMis d mm, f').1 (dSMis d mm, f').2 w (nI i) (nI n) = _ from a1, show f_Mod_go (rSFau (nI i, r1).2 0) (nI i, r1).1 0 (nI n) = _ from a2, bnd_some, bnd_some, thM_r]
              unfold B_LV_create_41 B_Mod_create_71 B_Mod_create_87 B_Mod_create_90 B_Mod_create_105
              rw [if_pos rfl, if_neg (show ¬ ((1 : Int32), r2).1 = 0 from (by decide : ¬ (1 : Int32) = 0)), if_pos (show rFAt ((1 : Int32), r2).2 < 0 from by rw [show rFAt ((1 : Int32), r2).2 = -1 from a7]; decide), if_neg (not_not_intro (show rFau (rSFau ((1 : Int32), r2).2 0) = 0 from rfl))]
              obtain ⟨q, d', f2, m', a, r', u1, u2, u3, u4⟩ := R_created (d := dSMis d m1) (r := rSFau r2 0) (f := f') (w := w1) (m := m) (s := s) (g := g) (B := B) (i := i) (k := k) (n := n) (e := ee) (c := cc) a3 (hf1.kep a5) I hB e4 X rfl hi l1 l3 hsi hn1 hn2 a8 a9 a10 a12
              rw [show f_Mod_created (rSFau ((1 : Int32), r2).2 0) (nI i, r1).1 (nI n) k = _ from u2, bnd_some]
              exact fin _ q d' f2 w1 m' r' a (rSFau r2 0) u1 u3 (a6.trans hrp1) u4
            · rw [show f_Walk_seekName (dSMis d mm, f').1 (dSMis d mm, f').2 w (nI i) (nI n) = _ from a1, show f_Mod_go (rSFau (nI i, r1).2 0) (nI i, r1).1 0 (nI n) = _ from a2, bnd_some, bnd_some, thM_l]
              unfold B_Mod_create_71
              rw [if_pos rfl]
              exact fin _ (.inl 4) _ f' w1 m r2 0 r2 rfl ⟨a3, hf1.kep a5, I', e4, X, rfl⟩ (a6.trans hrp1) (Or.inl ⟨4, rfl, by decide, by decide, a4⟩)
            · rw [show f_Walk_seekName (dSMis d mm, f').1 (dSMis d mm, f').2 w (nI i) (nI n) = _ from a1, show f_Mod_go (rSFau (nI i, r1).2 0) (nI i, r1).1 0 (nI n) = _ from a2, bnd_some, bnd_some, thM_r]
              unfold B_LV_create_41 B_Mod_create_71 B_Mod_create_87 B_Mod_create_90
              rw [if_neg (show ¬ (1 : Int32) = 0 by decide), if_neg (show ¬ ((1 : Int32), r2).1 = 0 from (by decide : ¬ (1 : Int32) = 0)), if_neg (show ¬ rFAt ((1 : Int32), r2).2 < 0 from by rw [show rFAt ((1 : Int32), r2).2 = nI ee from a11]; exact nI_pos (by have := a7.1; omega)), if_pos (show ¬ rFau (rSFau ((1 : Int32), r2).2 4) = 0 from (by decide : ¬ (4 : Int32) = 0))]
              exact fin _ (.inl 4) _ f' w1 m (rSFau r2 4) 0 r2 rfl ⟨a3, hf1.kep a5, I', e4, X, rfl⟩ (a6.trans hrp1) (Or.inl ⟨4, rfl, by decide, by decide, rfl⟩)
          · rw [if_neg y2, if_pos ((inab _ _ _).mpr (Or.inr (Int32.not_le.mp y2))), if_pos rfl]; exact hbad _ rfl
  · rw [p1, begin0 p2, bnd_some]
    exact ⟨.inl 1, d, f, w, m, _, _, rfl, rfl, ⟨h, hf, I', J, X, hrep⟩, rfl⟩
end C2
