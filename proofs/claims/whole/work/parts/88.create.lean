/-! create -/
theorem dSet_unr (d : DS) (i k : Nat) (v : Int32) : dUnr (dSet d i k v) = dUnr d := rfl
section CR
variable {d : DS} {r : RS} {f : FS} {w : WS} {m : MS} {s : SS} {g : GS} {B i : Nat}
/-- where the new entry goes, on both sides -/
def Room (d : DS) (i : Nat) (w : WS) (m : MS) (r : RS) (fits : Int32) : Prop :=
  (∃ hh ht, hh < 40 ∧ ht < 2 ∧ dUnr d hh = 0 ∧ ¬ dCells d (hh * 13) = 0 ∧ wHSe w = nI hh ∧ wHSl w = nI ht ∧ rHAt r = nI hh ∧ rHPl r = nI (8 * hh + 4 * ht)) ∨
  (∃ e, wHSe w = -1 ∧ rHAt r = -1 ∧ e < 40 ∧ dUnr d e = 0 ∧ ¬ dCells d (e * 13) = 0 ∧ dCells d (e * 13) = dCells d (i * 13) ∧ wSec w = nI e ∧ rEnd r = nI e ∧
    ((fits = 1 ∧ ¬ dCells d (e * 13 + 1) = 0 ∧ (f_Disk_takesEntryBehind d (nI e)).1 = 1) ∨ (fits = 0 ∧ (f_Disk_takesEntryBehind d (nI e)).1 = 0 ∧ ∃ b, b < 40 ∧ xFree d (nI b) = true ∧ mSnd m = nI b ∧ f_Mod_taken r 1 = some (nI b, ()))))
theorem needs_hole {hh : Nat} (h : wHSe w = nI hh) (hh4 : hh < 40) : (f_Walk_foundHole d f w).1 = 1 ∧ (f_Walk_needsPage d f w).1 = 0 := by
  have e1 : f_Walk_foundHole d f w = (1, ()) := by
    unfold f_Walk_foundHole
    rw [h, if_neg (nI_m1 (by omega))]
  refine ⟨by rw [e1], ?_⟩
  unfold f_Walk_needsPage B_Walk_needsPage_25
  rw [e1, if_pos (show ¬ ((1 : Int32), ()).1 = 0 from (by decide : ¬ (1 : Int32) = 0))]
theorem needs_no {e : Nat} (h : wHSe w = -1) (he : wSec w = nI e) : (f_Walk_foundHole d f w).1 = 0 ∧ ((f_Disk_takesEntryBehind d (nI e)).1 = 1 → (f_Walk_needsPage d f w).1 = 0) ∧ ((f_Disk_takesEntryBehind d (nI e)).1 = 0 → (f_Walk_needsPage d f w).1 = 1) := by
  have e1 : f_Walk_foundHole d f w = (0, ()) := by
    unfold f_Walk_foundHole
    rw [h, if_pos rfl]
  refine ⟨by rw [e1], fun q => ?_, fun q => ?_⟩
  · unfold f_Walk_needsPage B_Walk_needsPage_25
    rw [e1, if_neg (not_not_intro (show ((0 : Int32), ()).1 = 0 from rfl)), he, if_pos (by rw [q]; decide)]
  · unfold f_Walk_needsPage B_Walk_needsPage_25
    rw [e1, if_neg (not_not_intro (show ((0 : Int32), ()).1 = 0 from rfl)), he, if_neg (not_not_intro q)]
theorem takesEB {e : Nat} (he : e < 40) (hue : dUnr d e = 0) : (f_Disk_takesEntryBehind d (nI e)).1 = if dCells d (e * 13 + 1) ≤ 0 then 0 else if 4 < dCells d (e * 13 + 2) then 0 else 1 := by
  unfold f_Disk_takesEntryBehind B_Disk_takesEntryBehind_23
  rw [xc1 he hue, xc2 he hue]
  by_cases h1 : dCells d (e * 13 + 1) ≤ 0
  · rw [if_pos h1, if_pos h1]
  · rw [if_neg h1, if_neg h1]
    by_cases h2 : (4 : Int32) < dCells d (e * 13 + 2)
    · rw [if_pos h2, if_pos h2]
    · rw [if_neg h2, if_neg h2]
theorem takesEB_same {d' : DS} {e : Nat} (he : e < 40) (hue : dUnr d e = 0) (hu : dUnr d' = dUnr d) (h1 : dCells d' (e * 13 + 1) = dCells d (e * 13 + 1)) (h2 : dCells d' (e * 13 + 2) = dCells d (e * 13 + 2)) : (f_Disk_takesEntryBehind d' (nI e)).1 = (f_Disk_takesEntryBehind d (nI e)).1 := by
  rw [takesEB he (by rw [hu]; exact hue), takesEB he hue, h1, h2]
theorem cr191_dark (h : rFau r = 1) (a b : Int32) : B_Mod_created_191 r a b = some (a, r) := by
  unfold B_Mod_created_191 B_Mod_created_195 B_Mod_created_213
  rw [putMap_dark h, bnd_some, if_pos (by show ¬ rFau r = 0; rw [h]; decide)]
theorem cr97_dark {fits : Int32} (h : rFau r = 1) (a b c e : Int32) (ht : rHAt r < 0 → fits = 0 → ∃ q, f_Mod_taken r 1 = some q) : B_Mod_created_97 r a b fits c e = some (c, r) := by
  unfold B_Mod_created_97 B_Mod_created_182 B_Mod_created_136 B_Mod_created_108 f_Mod_append B_Mod_append_4
  rw [wr_dark h]
  by_cases h1 : rHAt r < 0
  · rw [if_pos h1]
    by_cases h2 : fits = 0
    · obtain ⟨q, hq⟩ := ht h1 h2
      rw [if_pos h2, hq, bnd_some, if_pos rfl, app_dark h, bnd_some]
      exact cr191_dark h _ _
    · rw [if_neg h2, if_pos rfl]; exact cr191_dark h _ _
  · rw [if_neg h1, if_pos rfl]; exact cr191_dark h _ _
/-- the entry, the map, the remembering -/
theorem R_enter {fits : Int32} {n sn x : Nat} (h : RD d r) (hf : RF f r) (I : IV B d) (hB : B + 1 ≤ 100000) (J : IF f) (X : IX d) (hfa : rFau r = 0) (hM : MR d m r) (hi : i < 40) (hui : dUnr d i = 0) (hn : n < 65536) (hs3 : 3 ≤ sn) (hs60 : sn ≤ 60) (hx : x < 40) (hux : dUnr d x = 0) (hx0 : dCells d (x * 13) = nI sn) (hx5 : dCells d (x * 13 + 5) = nI (n / 256)) (hx6 : dCells d (x * 13 + 6) = nI (n % 256)) (hR : Room d i w m r fits) (hsi : ¬ dCells d (i * 13) = 0) :
    ∃ q d' f' a r', B_LV_create_131 d f w m s g (nI i) (nI sn) (nI x) = some (q, (d', f', w, m)) ∧ B_Mod_created_97 r (nI i) (nI n) fits (nI sn) (nI x) = some (a, r') ∧ WO (B + 1) d' f' r' r ∧ fqA q a r' := by
  -- the end of it
  have hE : ∀ d1 r1 (P : (Nat ⊕ Unit) × DS), RD d1 r1 → IV (B + 1) d1 → IX d1 → dUnr d1 = dUnr d → rG r1 = rG r → ((P = (.inl 1, d1) ∧ rFau r1 = 1) ∨ (P = (.inr (), d1) ∧ rFau r1 = 0)) → ∃ q d' f' a r', thM P (fun x z => some (.inl x, (z, f, w, m))) (fun _ z => B_LV_create_139 z f w m s g (nI sn) (nI x)) = some (q, (d', f', w, m)) ∧ B_Mod_created_191 r1 (nI sn) (nI x) = some (a, r') ∧ WO (B + 1) d' f' r' r ∧ fqA q a r' := by
    intro d1 r1 P h1 I1 X1 hu1 hG1 hP
    rcases hP with ⟨rfl, hf1⟩ | ⟨rfl, hf1⟩
    · rw [thM_l, cr191_dark hf1]
      exact ⟨.inl 1, d1, f, _, r1, rfl, rfl, ⟨h1, hf.kep (rG_kep hG1), I1, J, X1, rG_rep hG1⟩, Or.inl ⟨1, rfl, by decide, by decide, hf1⟩⟩
    · rw [thM_r]
      unfold B_LV_create_139 B_Mod_created_191
      rcases R_update (f := f) (w := w) h1 I1 hf1 (hM.g hG1 hu1) with ⟨n1, n2, n3⟩ | ⟨d2, r2, n1, n2, n3, n4, n5, n6, n7⟩
      · rw [n1, n2, bnd_some, bnd_some, thM_l]
        unfold B_Mod_created_195 B_Mod_created_213
        rw [if_pos (by show ¬ (1 : Int32) = 0; decide)]
        exact ⟨.inl 1, _, f, _, _, rfl, rfl, ⟨n3, hf.kep (rG_kep hG1), I1, J, X1, rG_rep hG1⟩, Or.inl ⟨1, rfl, by decide, by decide, rfl⟩⟩
      · rw [n1, n2, bnd_some, bnd_some, thM_r]
        unfold B_LV_create_146 B_LV_create_157 B_Mod_created_195 B_Mod_created_213 f_Finder_remember
        have hfa2 : rFau r2 = 0 := (rP_fau n6).trans hf1
        have q160 := in160' (n := sn) (by omega) hs60
        rw [if_neg q160.1, if_neg q160.2.2, if_pos (inB_nI (show sn < 61 by omega) (by decide)), bnd_some, if_neg (not_not_intro (show rFau ((), r2).2 = 0 from hfa2)), if_pos (inB_nI (show sn < 61 by omega) (by decide)), cl_nI (by omega)]
        have hf2 : RF f r2 := hf.kep (n7.trans (rG_kep hG1))
        exact ⟨.inr (nI sn), d2, fSRem f (upd (fRem f) sn (nI x)), nI sn, rSKep r2 (upd (rKep r2) sn (nI x + 1)), rfl, rfl, ⟨⟨n3.1, n3.2.1, n3.2.2.1, n3.2.2.2⟩, hf2.up sn (nI x), n4, J.up sn x hx, n5 X1, (rP_rep n6).trans (rG_rep hG1)⟩, Or.inr ⟨rfl, hfa2⟩⟩
  have I' : IV (B + 1) d := I.mono (by omega) hB
  unfold B_LV_create_131 f_LV_enterEntry
  rcases R_writes h hfa with ⟨w1, w2, w3⟩ | ⟨d1, r1, w1, w2, w3, v1, v2, v3, v4, v5⟩
  · rw [w1, thM_l]
    have h97 : B_Mod_created_97 r (nI i) (nI n) fits (nI sn) (nI x) = B_Mod_created_191 (rSFau (rSDar r 1) 1) (nI sn) (nI x) := by
      unfold B_Mod_created_97 B_Mod_created_182 B_Mod_created_136 B_Mod_created_108 f_Mod_append B_Mod_append_4
      rw [w2]
      rcases hR with ⟨hh, ht, a1, a2, a3, a4, a5, a6, a7, a8⟩ | ⟨e, a1, a2, a3, a4, a5, a6, a7, a8, ⟨b1, b2, b3⟩ | ⟨b1, b2, b, c1, c2, c3, c4⟩⟩
      · rw [a7, if_neg (nI_pos (by omega)), if_pos rfl]
      · rw [a2, if_pos (by decide), b1, if_neg (by decide), if_pos rfl]
      · rw [a2, if_pos (by decide), if_pos b1, c4, bnd_some, if_pos rfl, app_dark rfl, bnd_some]
    rw [h97]
    exact hE (dSPow d 0) _ _ w3 I' X rfl rfl (Or.inl ⟨rfl, rfl⟩)
  · rw [w1, thM_r]
    have I1 : IV B d1 := I.same v1 v3
    have X1 : IX d1 := X.same v1 v3
    have hux1 : dUnr d1 x = 0 := by rw [v3]; exact hux
    have hfa1 : rFau r1 = 0 := (rQ_fau v5).trans hfa
    have hG1 : rG r1 = rG r := rQ_G v5
    have hat : rHAt r1 = rHAt r := congrArg (fun z => z.2.2.1) hG1
    have hpl : rHPl r1 = rHPl r := congrArg (fun z => z.2.2.2.1) hG1
    have hen : rEnd r1 = rEnd r := congrArg (fun z => z.2.2.2.2.1) hG1
    unfold B_LV_enterEntry_15 B_Mod_created_97
    rcases hR with ⟨hh, ht, a1, a2, a3, a4, a5, a6, a7, a8⟩ | ⟨e, a1, a2, a3, a4, a5, a6, a7, a8, ⟨b1, b2, b3⟩ | ⟨b1, b2, b, c1, c2, c3, c4⟩⟩
    · -- a hole
      rw [(needs_hole (d := d1) (f := f) a5 a1).1, if_neg (by decide), a7, if_neg (nI_pos (by omega)), w2]
      unfold B_LV_enterEntry_47 B_LV_enterEntry_123 B_Mod_created_108
      have a3' : dUnr d1 hh = 0 := by rw [v3]; exact a3
      have eh : (f_Walk_holeOffset d1 f w).1 = nI (4 * ht) := by
        show wHSl w * 4 = _
        rw [a6, show (4 : Int32) = nI 4 from rfl, pk_mul, Nat.mul_comm]
      rw [if_neg (show ¬ ((1 : Int32), r1).1 = 0 from (by decide : ¬ (1 : Int32) = 0)), show rHPl ((1 : Int32), r1).2 = nI (8 * hh + 4 * ht) from hpl.trans a8, R_setE a1 a2, bnd_some, (nm_q hn).2, (nm_q hn).1, eh, show (f_Walk_holeSector d1 f w).1 = nI hh from a5, C_putE (n := n) (sn := sn) a1 a3' a2 hx hux1 hn (by omega) (by rw [v1]; exact hx0) (by rw [v1]; exact hx5) (by rw [v1]; exact hx6)]
      unfold B_Mod_created_124
      exact hE _ _ _ (w3.setE a1 a2 _ _ _ _) (((I1.setE a2 (by omega) (by omega) (by omega) (by omega))).mono (by omega) hB) (X1.setE a2 _ _ _ _) v3 ((rO_G (rO_setE _ _ _ _)).trans hG1) (Or.inr ⟨rfl, (rO_fau (rO_setE _ _ _ _)).trans hfa1⟩)
    · -- behind the last one of the last page
      have a4' : dUnr d1 e = 0 := by rw [v3]; exact a4
      have htk : (f_Disk_takesEntryBehind d1 (nI e)).1 = 1 := (takesEB_same a3 a4 v3 (by rw [v1]) (by rw [v1])).trans b3
      obtain ⟨k1, k2, k3⟩ := needs_no (d := d1) (f := f) a1 a7
      rw [k1, if_pos rfl, k2 htk, if_neg (not_not_intro rfl), a2, if_pos (by decide), b1, if_neg (by decide), w2]
      unfold B_LV_enterEntry_70 B_LV_enterEntry_81 B_LV_enterEntry_123 B_Mod_created_136
      have e4 : (8 * rEnd ((1 : Int32), r1).2 + 4 : Int32) = nI (8 * e + 4 * 1) := by rw [show rEnd ((1 : Int32), r1).2 = nI e from hen.trans a8]; exact byA e 4
      rw [if_neg (show ¬ ((1 : Int32), r1).1 = 0 from (by decide : ¬ (1 : Int32) = 0)), e4, R_setE a3 (by decide), bnd_some, (nm_q hn).2, (nm_q hn).1, show (f_Walk_sectorHere d f w).1 = nI e from a7, show f_Disk_putEntry d1 (nI e) 4 (nI x) = _ from C_putE (t := 1) (n := n) (sn := sn) a3 a4' (by decide) hx hux1 hn (by omega) (by rw [v1]; exact hx0) (by rw [v1]; exact hx5) (by rw [v1]; exact hx6)]
      have h2 := w3.setE a3 (show 1 < 2 by decide) (nI (n / 256)) (nI (n % 256)) (nI sn) (nI x)
      have I2 : IV B _ := I1.setE (e := e) (t := 1) (by decide) (a := n / 256) (b := n % 256) (c := sn) (v := x) (by omega) (by omega) (by omega) (by omega)
      have X2 := X1.setE (e := e) (t := 1) (by decide) (nI (n / 256)) (nI (n % 256)) (nI sn) (nI x)
      have hO2 := rO_setE (r := r1) (e := e) (t := 1) (nI (n / 256)) (nI (n % 256)) (nI sn) (nI x)
      have hl2 : dCells (dSet (dSet (dSet (dSet d1 e (5 + 4 * 1) (nI (n / 256))) e (5 + (4 * 1 + 1)) (nI (n % 256))) e (5 + (4 * 1 + 2)) (nI sn)) e (5 + (4 * 1 + 3)) (nI x)) (e * 13 + 1) = dCells d (e * 13 + 1) := by rw [setE_lab (by decide) (by decide), v1]
      have hu2 : dUnr (dSet (dSet (dSet (dSet d1 e (5 + 4 * 1) (nI (n / 256))) e (5 + (4 * 1 + 1)) (nI (n % 256))) e (5 + (4 * 1 + 2)) (nI sn)) e (5 + (4 * 1 + 3)) (nI x)) = dUnr d := v3
      generalize dSet (dSet (dSet (dSet d1 e (5 + 4 * 1) (nI (n / 256))) e (5 + (4 * 1 + 1)) (nI (n % 256))) e (5 + (4 * 1 + 2)) (nI sn)) e (5 + (4 * 1 + 3)) (nI x) = d2 at h2 I2 X2 hl2 hu2
      generalize rSet (rSet (rSet (rSet r1 e (5 + 4 * 1) (nI (n / 256))) e (5 + (4 * 1 + 1)) (nI (n % 256))) e (5 + (4 * 1 + 2)) (nI sn)) e (5 + (4 * 1 + 3)) (nI x) = r2 at h2 hO2
      have hG2 : rG r2 = rG r := (rO_G hO2).trans hG1
      unfold B_Mod_created_157 B_Mod_created_168
      have hen2 : rEnd ((), r2).2 = nI e := (congrArg (fun z => z.2.2.2.2.1) hG2 : rEnd r2 = rEnd r).trans a8
      have a4'' : dUnr d2 e = 0 := by rw [hu2]; exact a4
      rw [hen2, if_pos (inB_nI a3 (by decide)), cl_nI (by omega), show xSetCell ((), d2).2 (nI e) 2 8 = dSet d2 e 2 8 from C_set (d := d2) a3 (k := 2) (by decide) a4'' _]
      have e21 : upd (fun k => dCells d2 (e * 13 + k)) 2 8 1 = dCells d2 (e * 13 + 1) := pk_un (by decide)
      have X3 : IX (dSet d2 e 2 8) := X2.row ((DRow.refl d2 e).set (k := 2) (by decide) 8).du (fun _ q => absurd (by rw [← hl2, ← e21]; exact q) b2) (fun q => absurd (by
        subst q
        rcases X.2.1 with z | z
        · exact absurd a4 z
        · exact z.2) b2) (fun _ _ => Or.inr rfl)
      exact hE (dSet d2 e 2 8) (rSet r2 e 2 8) _ (h2.set a3 (by decide) 8) ((I2.set (by decide) (Or.inr ⟨by omega, 8, Nat.le_refl _, rfl⟩)).mono (by omega) hB) X3 ((dSet_unr d2 e 2 8).trans hu2) ((rO_G (rSet_O r2 e 2 8)).trans hG2) (Or.inr ⟨rfl, (rO_fau (rSet_O r2 e 2 8)).trans ((rO_fau hO2).trans hfa1)⟩)
    · -- a page for it
      obtain ⟨hub, hcb⟩ := free_of c1 c2
      have a4' : dUnr d1 e = 0 := by rw [v3]; exact a4
      have hub1 : dUnr d1 b = 0 := by rw [v3]; exact hub
      have hui1 : dUnr d1 i = 0 := by rw [v3]; exact hui
      have htk : (f_Disk_takesEntryBehind d1 (nI e)).1 = 0 := (takesEB_same a3 a4 v3 (by rw [v1]) (by rw [v1])).trans b2
      obtain ⟨k1, k2, k3⟩ := needs_no (d := d1) (f := f) a1 a7
      rw [k1, if_pos rfl, k3 htk, if_pos (by decide), a2, if_pos (by decide), if_pos b1, c4, bnd_some]
      have heb : e ≠ b := fun q => a5 (by rw [q]; exact hcb)
      have hib : i ≠ b := fun q => hsi (by rw [q]; exact hcb)
      have hxb : x ≠ b := fun q => by
        rw [q, hcb] at hx0
        have := (nI_eq (a := 0) (by decide) (by omega)).mp hx0
        omega
      have hb0 : b ≠ 0 := X.ne0 hub hcb
      unfold B_Mod_created_182 f_Mod_append B_Mod_append_4
      rw [w2, if_neg (show ¬ ((1 : Int32), r1).1 = 0 from (by decide : ¬ (1 : Int32) = 0))]
      obtain ⟨r2, g1, g2⟩ := R_page (i := i) (z := e) (x := b) w3 hi a3 c1 heb hib (by rw [v1]; exact a6.symm) 4 (nI n) (nI sn) (nI x)
      have g3 := C_page (d := d1) a3 a4' c1 hub1 heb 4
      rw [a8, show bnd (f_Mod_empty ((1 : Int32), r1).2 (nI b)) (fun q => B_Mod_append_12 q.2 (nI i) (nI e) (nI b) 4 (nI n) (nI sn) (nI x)) = _ from g1]
      unfold B_Mod_append_40 B_Mod_append_57 B_LV_enterEntry_104 B_LV_enterEntry_115
      rw [if_pos (by decide), if_neg (by decide), by8, show nI (8 * b) = nI (8 * b + 4 * 0) from rfl, R_setE c1 (by decide), bnd_some, (nm_q hn).2, (nm_q hn).1, show (f_Walk_sectorHere d f w).1 = nI e from a7, show (f_Map_secondTaken d1 f w m).1 = nI b from c3]
      have hxr : ∀ k, k < 13 → dCells (f_Disk_makePageBehind d1 (nI e) (nI b) 4).2 (x * 13 + k) = dCells d (x * 13 + k) := fun k hk => by
        rw [g3.1 x hx k hk, if_neg hxb, v1]
      generalize (f_Disk_makePageBehind d1 (nI e) (nI b) 4).2 = d2 at g3 hxr
      have hu2 : dUnr d2 = dUnr d := g3.unr.trans v3
      rw [show f_Disk_putEntry d2 (nI b) 0 (nI x) = _ from C_putE (d := d2) (t := 0) (n := n) (sn := sn) c1 (by rw [hu2]; exact hub) (by decide) hx (by rw [hu2]; exact hux) hn (by omega) ((hxr 0 (by decide)).trans hx0) ((hxr 5 (by decide)).trans hx5) ((hxr 6 (by decide)).trans hx6)]
      have h2 : RD d2 r2 := w3.row g3 g2
      obtain ⟨pn, p1, p2⟩ := I1.pagN a3
      obtain ⟨zn, z1, z2⟩ := I1.serN a3
      have I2 : IV (B + 1) d2 := by
        refine I1.row (by omega) hB g3.du (all13 ?_ ?_ ?_ ?_ ?_ ?_ ?_ ?_ ?_ ?_ ?_ ?_ ?_)
        · exact Or.inr ⟨by omega, zn, z1, z2⟩
        · refine Or.inr ⟨by omega, pn + 1, show pn + 1 ≤ B + 1 by omega, ?_⟩
          show dCells d1 (e * 13 + 1) + 1 = _
          rw [p2, nI_1]
        · exact Or.inr ⟨by omega, 4, by show 4 ≤ 8; decide, rfl⟩
        · exact Or.inl ⟨Or.inl rfl, Or.inl rfl⟩
        · exact Or.inl ⟨Or.inr rfl, Or.inr ⟨e, a3, rfl⟩⟩
        all_goals exact Or.inr ⟨by omega, 0, Nat.zero_le _, rfl⟩
      have X2 : IX d2 := by
        refine X1.row g3.du (fun _ q => ?_) (fun q => absurd q hb0) (fun _ _ => Or.inl rfl)
        have q2 : dCells d1 (e * 13 + 1) + 1 = 0 := q
        rw [p2, nI_1] at q2
        exact absurd q2 (nI_ne0 (by omega) (by have := I.1; omega))
      have h3 := h2.setE c1 (show 0 < 2 by decide) (nI (n / 256)) (nI (n % 256)) (nI sn) (nI x)
      have I3 : IV (B + 1) _ := I2.setE (e := b) (t := 0) (by decide) (a := n / 256) (b := n % 256) (c := sn) (v := x) (by omega) (by omega) (by omega) (by omega)
      have X3 := X2.setE (e := b) (t := 0) (by decide) (nI (n / 256)) (nI (n % 256)) (nI sn) (nI x)
      have hO3 := rO_setE (r := r2) (e := b) (t := 0) (nI (n / 256)) (nI (n % 256)) (nI sn) (nI x)
      have hu3 : dUnr (dSet (dSet (dSet (dSet d2 b (5 + 4 * 0) (nI (n / 256))) b (5 + (4 * 0 + 1)) (nI (n % 256))) b (5 + (4 * 0 + 2)) (nI sn)) b (5 + (4 * 0 + 3)) (nI x)) = dUnr d := hu2
      generalize dSet (dSet (dSet (dSet d2 b (5 + 4 * 0) (nI (n / 256))) b (5 + (4 * 0 + 1)) (nI (n % 256))) b (5 + (4 * 0 + 2)) (nI sn)) b (5 + (4 * 0 + 3)) (nI x) = d3 at h3 I3 X3 hu3
      generalize rSet (rSet (rSet (rSet r2 b (5 + 4 * 0) (nI (n / 256))) b (5 + (4 * 0 + 1)) (nI (n % 256))) b (5 + (4 * 0 + 2)) (nI sn)) b (5 + (4 * 0 + 3)) (nI x) = r3 at h3 hO3
      have hG3 : rG r3 = rG r := (rO_G hO3).trans ((rO_G g2.2).trans hG1)
      have hfa3 : rFau r3 = 0 := (rO_fau hO3).trans ((rO_fau g2.2).trans hfa1)
      obtain ⟨d4, r4, l1, l2, l3, l4, l5, l6, l7⟩ := R_link (f := f) (w := w) (m := m) (s := s) (g := g) (i := i) (z := e) (x := b) h3 I3 X3 hfa3 hi (by rw [hu3]; exact hui) a3 (by rw [hu3]; exact a4) c1
      rw [show B_Mod_append_77 ((), r3).2 (nI i) (nI e) (nI b) = _ from l2, bnd_some]
      refine hE d4 r4 _ l3 l4 l5 (l6.trans hu3) (l7.trans hG3) ?_
      show (thM (f_LV_linkBehind d3 f w m s g (nI i) (nI e) (nI b)) _ _ = _ ∧ _) ∨ (thM (f_LV_linkBehind d3 f w m s g (nI i) (nI e) (nI b)) _ _ = _ ∧ _)
      rcases l1 with ⟨l1, lf⟩ | ⟨l1, lf⟩
      · rw [l1]; exact Or.inl ⟨rfl, lf⟩
      · rw [l1]; exact Or.inr ⟨rfl, lf⟩
end CR
