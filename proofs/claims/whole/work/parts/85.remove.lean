/-! remove -/
def fqA (q : Nat ⊕ Int32) (a : Int32) (r : RS) : Prop := (∃ e, q = .inl e ∧ 1 ≤ e ∧ e ≤ 4 ∧ rFau r = nI e) ∨ (q = .inr a ∧ rFau r = 0)
theorem fqA_ends {r : RS} {q : Nat ⊕ Int32} {a : Int32} (h : fqA q a r) : ∃ c b, f_Mod_ends r a 1 2 3 4 4 = (b, rSThr r c) ∧ ans q b c [(1, 1), (2, 2), (3, 3), (4, 4)] := by
  rcases h with ⟨e, rfl, h1, h2, h3⟩ | ⟨rfl, h3⟩
  · rcases (show e = 1 ∨ e = 2 ∨ e = 3 ∨ e = 4 by omega) with rfl | rfl | rfl | rfl
    · exact ⟨1, 0, by rw [ends1 _ _ _ _ _ _ _ h3], rfl⟩
    · exact ⟨2, 0, by rw [ends2 _ _ _ _ _ _ _ h3], rfl⟩
    · exact ⟨3, 0, by rw [ends3 _ _ _ _ _ _ _ h3], rfl⟩
    · exact ⟨4, 0, by rw [ends4 _ _ _ _ _ _ _ h3], rfl⟩
  · exact ⟨0, a, by rw [ends0 _ _ _ _ _ _ _ h3], rfl, rfl⟩
section RM
variable {d : DS} {r : RS} {f : FS} {w : WS} {m : MS} {s : SS} {g : GS} {B i : Nat}
theorem C_setbo {e o : Nat} (he : e < 40) (ho : o < 8) (hu : dUnr d e = 0) (v : Int32) : xSetByte d (nI e) (nI o) v = dSet d e (5 + o) (v &&& 255) := by
  unfold xSetByte
  rw [show (5 : Int32) = nI 5 from rfl, nI_add, C_set he (by omega) hu]
theorem C_hole {e t : Nat} (he : e < 40) (hu : dUnr d e = 0) (ht : t < 2) : xHole d (nI e) (nI t * 4) = dSet (dSet (dSet (dSet d e (5 + 4 * t) 0) e (5 + (4 * t + 1)) 0) e (5 + (4 * t + 2)) 0) e (5 + (4 * t + 3)) 0 := by
  unfold xHole
  have e0 : ∀ k, (nI t * 4 + nI k : Int32) = nI (4 * t + k) := fun k => by rw [show (4 : Int32) = nI 4 from rfl, pk_mul, nI_add, Nat.mul_comm]
  have e4 : ∀ (f : Nat → DS → DS) (z : DS), itF f 0 4 z = f 3 (f 2 (f 1 (f 0 z))) := fun f z => rfl
  rw [e4, e0, e0, e0, e0, C_setbo he (by omega) hu, C_setbo he (by omega) (show dUnr (dSet d e (5 + (4 * t + 0)) (0 &&& 255)) e = 0 from hu), C_setbo he (by omega) (show dUnr (dSet (dSet d e (5 + (4 * t + 0)) (0 &&& 255)) e (5 + (4 * t + 1)) (0 &&& 255)) e = 0 from hu), C_setbo he (by omega) (show dUnr (dSet (dSet (dSet d e (5 + (4 * t + 0)) (0 &&& 255)) e (5 + (4 * t + 1)) (0 &&& 255)) e (5 + (4 * t + 2)) (0 &&& 255)) e = 0 from hu)]
  rfl
theorem R_setE {e t : Nat} (he : e < 40) (ht : t < 2) (a b c : Int32) : f_Mod_setEntry r (nI (8 * e + 4 * t)) a b c = some ((), rSet (rSet (rSet (rSet r e (5 + 4 * t) (a / 256)) e (5 + (4 * t + 1)) (a - a / 256 * 256)) e (5 + (4 * t + 2)) b) e (5 + (4 * t + 3)) c) := by
  unfold f_Mod_setEntry B_Mod_setEntry_11 B_Mod_setEntry_24 B_Mod_setEntry_33 B_Mod_setEntry_43
  have e1 : (nI (8 * e + 4 * t) + 1 : Int32) = nI (8 * e + (4 * t + 1)) := by rw [nI_1, Nat.add_assoc]
  have e2 : (nI (8 * e + 4 * t) + 2 : Int32) = nI (8 * e + (4 * t + 2)) := by rw [show (2 : Int32) = nI 2 from rfl, nI_add, Nat.add_assoc]
  have e3 : (nI (8 * e + 4 * t) + 3 : Int32) = nI (8 * e + (4 * t + 3)) := by rw [show (3 : Int32) = nI 3 from rfl, nI_add, Nat.add_assoc]
  rw [e1, e2, e3, if_pos (inB_nI (show 8 * e + 4 * t < 320 by omega) (by decide)), if_pos (inB_nI (show 8 * e + (4 * t + 1) < 320 by omega) (by decide)), if_pos (inB_nI (show 8 * e + (4 * t + 2) < 320 by omega) (by decide)), if_pos (inB_nI (show 8 * e + (4 * t + 3) < 320 by omega) (by decide)), cl_nI (by omega), cl_nI (by omega), cl_nI (by omega), cl_nI (by omega)]
  rw [rSetb, rSetb, rSetb, rSetb]
/-- bytes written on both sides -/
theorem RD.setE {e t : Nat} (h : RD d r) (he : e < 40) (ht : t < 2) (a b c v : Int32) : RD (dSet (dSet (dSet (dSet d e (5 + 4 * t) a) e (5 + (4 * t + 1)) b) e (5 + (4 * t + 2)) c) e (5 + (4 * t + 3)) v) (rSet (rSet (rSet (rSet r e (5 + 4 * t) a) e (5 + (4 * t + 1)) b) e (5 + (4 * t + 2)) c) e (5 + (4 * t + 3)) v) :=
  (((h.set he (by omega) a).set he (by omega) b).set he (by omega) c).set he (by omega) v
theorem rO_setE {e t : Nat} (a b c v : Int32) : rO (rSet (rSet (rSet (rSet r e (5 + 4 * t) a) e (5 + (4 * t + 1)) b) e (5 + (4 * t + 2)) c) e (5 + (4 * t + 3)) v) = rO r := (rSet_O _ _ _ _).trans ((rSet_O _ _ _ _).trans ((rSet_O _ _ _ _).trans (rSet_O _ _ _ _)))
theorem IV.setE {e t : Nat} (I : IV B d) (ht : t < 2) {a b c v : Nat} (ha : a < 256) (hb : b < 256) (hc : c < 256) (hv : v < 256) : IV B (dSet (dSet (dSet (dSet d e (5 + 4 * t) (nI a)) e (5 + (4 * t + 1)) (nI b)) e (5 + (4 * t + 2)) (nI c)) e (5 + (4 * t + 3)) (nI v)) :=
  (((I.set (by omega) (vOKb ha)).set (by omega) (vOKb hb)).set (by omega) (vOKb hc)).set (by omega) (vOKb hv)
theorem IX.setE {e t : Nat} (X : IX d) (ht : t < 2) (a b c v : Int32) : IX (dSet (dSet (dSet (dSet d e (5 + 4 * t) a) e (5 + (4 * t + 1)) b) e (5 + (4 * t + 2)) c) e (5 + (4 * t + 3)) v) :=
  (((X.set3 (by omega) (by omega)).set3 (by omega) (by omega)).set3 (by omega) (by omega)).set3 (by omega) (by omega)
theorem setE_lab {e t y k : Nat} (ht : t < 2) (hk : k < 5) (a b c v : Int32) : dCells (dSet (dSet (dSet (dSet d e (5 + 4 * t) a) e (5 + (4 * t + 1)) b) e (5 + (4 * t + 2)) c) e (5 + (4 * t + 3)) v) (y * 13 + k) = dCells d (y * 13 + k) := by
  rw [dSet_at (by omega) (by omega), if_neg (by omega), dSet_at (by omega) (by omega), if_neg (by omega), dSet_at (by omega) (by omega), if_neg (by omega), dSet_at (by omega) (by omega), if_neg (by omega)]
/-- the end of a removing: the entry a hole, the pages freed, the leader freed, the map written, the leader forgotten -/
theorem R_rm75 {e t n K : Nat} {row : Nat → Nat} (h : RD d r) (hf : RF f r) (I : IV B d) (J : IF f) (X : IX d) (hfa : rFau r = 0) (hi : i < 40) (hui : dUnr d i = 0) (hpi : dCells d (i * 13 + 1) = 0) (hn3 : 3 ≤ n) (hn60 : n ≤ 60) (hsi : dCells d (i * 13) = nI n) (he : e < 40) (hue : dUnr d e = 0) (ht : t < 2) (hK : K ≤ 40) (hr : rRws r = nI K)
    (hrow : ∀ q, q < K → row q < 40 ∧ dUnr d (row q) = 0 ∧ row q ≠ 0 ∧ ¬ dCells d (row q * 13 + 1) = 0 ∧ gGat g q = nI (row q)) (hrow2 : ∀ q, q < K → rRow r q = nI (row q)) :
    ∃ q d' f' m' a r', B_LV_remove_75 d f w m s g (nI i) (nI e) (nI t * 4) (nI K) = some (q, (d', f', w, m', g)) ∧ B_Mod_removed_134 r (nI i) (nI (8 * e + 4 * t)) = some (a, r') ∧ WO B d' f' r' r ∧ fqA q a r' := by
  unfold B_LV_remove_75 B_Mod_removed_134
  obtain ⟨m1, mm2, f2, r2, b1, b2, b3, b4, b5, b6, b7, b8, b9, b10⟩ := R_findMap (f := f) (w := w) (m := m) h hf I J
  rw [b1, b2, bnd_some, bnd_some]
  unfold B_LV_remove_84 B_Mod_removed_138
  have hfa2 : rFau r2 = 0 := (rP_fau b10).trans hfa
  have hr2 : rRws r2 = nI K := (rP_rws b10).trans hr
  have hi0 : i ≠ 0 := fun q => by
    subst q
    rcases X.2.1 with z | z
    · exact z hui
    · rw [show 0 * 13 = 0 from rfl, z.1] at hsi
      have := (nI_eq (a := 1) (by decide) (by omega)).mp hsi
      omega
  -- what is behind a dark
  have hd156 : ∀ r', rFau r' = 1 → rRws r' = nI K → ∀ u k nn, k + u = K → u < nn → L_Mod_removed_156 nn r' (nI i) (nI k) = some (rRws r' + 1, r') := by
    intro r' hd hw u k nn hk hnn
    refine freeDarkL (L := fun n' z x => L_Mod_removed_156 n' z (nI i) x) (fin := fun z => bnd (f_Mod_free z (nI i)) (fun q => B_Mod_removed_195 q.2 (rSer z i))) (K := K) (fun n' z k hz hk' => ?_) (fun n' z hz => ?_) hw hd u k nn hk hnn |>.trans ?_
    · show L_Mod_removed_156 (n' + 1) z (nI i) (nI k) = _
      rw [L_Mod_removed_156, hz, if_neg (nI_ge hk' (by omega)), if_pos (inB_nI (show k < 40 by omega) (by decide)), cl_nI (by omega)]
      unfold B_Mod_removed_176
      rw [nI_1]
    · show L_Mod_removed_156 (n' + 1) z (nI i) (nI K) = _
      rw [L_Mod_removed_156, hz, if_pos (Int32.le_refl _), if_pos (inB_nI hi (by decide)), cl_nI (by omega)]
    · show bnd (f_Mod_free r' (nI i)) (fun q => B_Mod_removed_195 q.2 (rSer r' i)) = _
      rw [free_dark _ hd, bnd_some]
      unfold B_Mod_removed_195 B_Mod_removed_199 B_Mod_removed_214
      rw [putMap_dark hd, bnd_some, if_pos (by show ¬ rFau r' = 0; rw [hd]; decide)]
  rcases R_writes (d := dSMis d mm2) b3 hfa2 with ⟨w1, w2, w3⟩ | ⟨d3, r3, w1, w2, w3, v1, v2, v3, v4, v5⟩
  · rw [show f_Disk_spendWrite ((), dSMis d mm2, f2, m1).2.1 = _ from w1, w2, thM_l]
    unfold B_Mod_removed_142 B_Mod_removed_153
    rw [if_pos rfl, show (0 : Int32) = nI 0 from rfl, hd156 (rSFau (rSDar r2 1) 1) rfl hr2 K 0 1000 (by omega) (by omega)]
    exact ⟨.inl 1, _, f2, m1, _, _, rfl, rfl, ⟨w3, b4, I, b5, X, show rRep r2 = rRep r from rP_rep b10⟩, Or.inl ⟨1, rfl, by decide, by decide, rfl⟩⟩
  · rw [show f_Disk_spendWrite ((), dSMis d mm2, f2, m1).2.1 = _ from w1, w2, thM_r]
    unfold B_LV_remove_91 B_LV_remove_102 B_Mod_removed_142 B_Mod_removed_153
    have hue3 : dUnr d3 e = 0 := by rw [v3]; exact hue
    have e00 : (0 / 256 : Int32) = 0 := by decide
    have e01 : (0 - 0 / 256 * 256 : Int32) = 0 := by decide
    rw [if_neg (show ¬ ((1 : Int32), r3).1 = 0 from (by decide : ¬ (1 : Int32) = 0)), R_setE he ht, bnd_some, C_hole he hue3 ht, e01, e00]
    have h4 := w3.setE he ht 0 0 0 0
    have I4 : IV B _ := (show IV B d3 from IV.same (d := dSMis d mm2) I v1 v3).setE (e := e) ht (a := 0) (b := 0) (c := 0) (v := 0) (by decide) (by decide) (by decide) (by decide)
    have X4 := (show IX d3 from IX.same (d := dSMis d mm2) X v1 v3).setE (e := e) ht 0 0 0 0
    have hO4 := rO_setE (r := r3) (e := e) (t := t) 0 0 0 0
    have hl4 : ∀ y k, k < 5 → dCells (dSet (dSet (dSet (dSet d3 e (5 + 4 * t) 0) e (5 + (4 * t + 1)) 0) e (5 + (4 * t + 2)) 0) e (5 + (4 * t + 3)) 0) (y * 13 + k) = dCells d (y * 13 + k) := fun y k hk => by
      rw [setE_lab ht hk, v1]; rfl
    have hu4 : dUnr (dSet (dSet (dSet (dSet d3 e (5 + 4 * t) 0) e (5 + (4 * t + 1)) 0) e (5 + (4 * t + 2)) 0) e (5 + (4 * t + 3)) 0) = dUnr d := v3
    rw [show nI 0 = (0 : Int32) from rfl] at I4
    generalize dSet (dSet (dSet (dSet d3 e (5 + 4 * t) 0) e (5 + (4 * t + 1)) 0) e (5 + (4 * t + 2)) 0) e (5 + (4 * t + 3)) 0 = d4 at h4 I4 X4 hl4 hu4
    generalize rSet (rSet (rSet (rSet r3 e (5 + 4 * t) 0) e (5 + (4 * t + 1)) 0) e (5 + (4 * t + 2)) 0) e (5 + (4 * t + 3)) 0 = r4 at h4 hO4
    have hG4 : rG r4 = rG r2 := (rO_G hO4).trans (rQ_G v5)
    have hM4 : MR d4 m1 r4 := b6.g hG4 hu4
    have hfa4 : rFau r4 = 0 := (rO_fau hO4).trans ((rQ_fau v5).trans hfa2)
    have hw4 : rRws r4 = nI K := (rG_rws hG4).trans hr2
    have hser : xCell d4 (nI i) 0 = nI n := by
      rw [xc0 hi (by rw [hu4]; exact hui)]; exact (hl4 i 0 (by decide)).trans hsi
    rw [hser]
    obtain ⟨d5, m5, r5, c1, c2, c3, c4, c5, c6, c7, c8, c9⟩ := R_freeAllL (f := f2) (w := w) (s := s) (g := g) (B := B) (d0 := d4) (K := K) (row := row) (S := fun y => dCells d (y * 13 + 1) = 0)
      (L := fun n' z x => L_Mod_removed_156 n' z (nI i) x) (fin := fun z => bnd (f_Mod_free z (nI i)) (fun q => B_Mod_removed_195 q.2 (rSer z i))) hK
      (fun n' z k hz hk' => by
        show L_Mod_removed_156 (n' + 1) z (nI i) (nI k) = _
        rw [L_Mod_removed_156, hz, if_neg (nI_ge hk' (by omega)), if_pos (inB_nI (show k < 40 by omega) (by decide)), cl_nI (by omega)]
        unfold B_Mod_removed_176
        rw [nI_1])
      (fun n' z hz => by
        show L_Mod_removed_156 (n' + 1) z (nI i) (nI K) = _
        rw [L_Mod_removed_156, hz, if_pos (Int32.le_refl _), if_pos (inB_nI hi (by decide)), cl_nI (by omega)])
      (fun q hq => by
        obtain ⟨j1, j2, j3, j4, j5⟩ := hrow q hq
        exact ⟨j1, by rw [hu4]; exact j2, j3, j4, j5⟩) K 0 100 1000 (by omega) (by omega) (by omega) d4 m1 r4 h4 I4 X4 rfl (fun _ _ _ _ _ => rfl) hM4 b9 hfa4 hw4 (fun q hq => by rw [rG_row hG4, rP_row b10]; exact hrow2 q hq)
    have hK5 : rKep r5 = rKep r2 := c5.trans (rG_kep hG4)
    have hR5 : rRep r5 = rRep r := c6.trans ((rG_rep hG4).trans (rP_rep b10))
    have c7' : L_Mod_removed_156 1000 r4 (nI i) 0 = bnd (f_Mod_free r5 (nI i)) (fun q => B_Mod_removed_195 q.2 (rSer r5 i)) := c7
    rw [show L_Mod_removed_156 1000 ((), r4).2 (nI i) 0 = _ from c7']
    unfold f_LV_freeGathered
    rcases c9 with ⟨c9, cf⟩ | ⟨c9, cf, ckp, cmr, ctk⟩
    · rw [show L_LV_freeGathered_2 100 d4 ((), dSMis d mm2, f2, m1).2.2.1 w ((), dSMis d mm2, f2, m1).2.2.2 s g (nI K) 0 = _ from c9, bnd_some, thM_l, free_dark _ cf, bnd_some]
      unfold B_Mod_removed_195 B_Mod_removed_199 B_Mod_removed_214
      rw [putMap_dark cf, bnd_some, if_pos (by show ¬ rFau r5 = 0; rw [cf]; decide)]
      exact ⟨.inl 1, d5, f2, m5, _, r5, rfl, rfl, ⟨c1, b4.kep hK5, c2, b5, c3, hR5⟩, Or.inl ⟨1, rfl, by decide, by decide, cf⟩⟩
    · rw [show L_LV_freeGathered_2 100 d4 ((), dSMis d mm2, f2, m1).2.2.1 w ((), dSMis d mm2, f2, m1).2.2.2 s g (nI K) 0 = _ from c9, bnd_some, thM_r]
      unfold B_LV_remove_119
      have hser5 : rSer r5 i = nI n := by
        rw [← c1.ser hi]
        exact (ckp i hi hpi 0 (by decide)).trans ((hl4 i 0 (by decide)).trans hsi)
      rw [hser5]
      have hu5 : dUnr d5 = dUnr d := c4.trans hu4
      rcases R_release (f := f2) (w := w) c1 cf cmr ctk hi (by rw [hu5]; exact hui) with ⟨e1, e2, e3⟩ | ⟨d6, m6, r6, e1, e2, e3, e4, e5, e6, e7, e8⟩
      · rw [show f_Map_release (d5, m5).1 ((), dSMis d mm2, f2, m1).2.2.1 w (d5, m5).2 (nI i) = _ from e1, e2, thM_l, bnd_some]
        unfold B_Mod_removed_195 B_Mod_removed_199 B_Mod_removed_214
        rw [putMap_dark rfl, bnd_some, if_pos (by show ¬ (1 : Int32) = 0; decide)]
        exact ⟨.inl 1, _, f2, m5, _, _, rfl, rfl, ⟨e3, b4.kep hK5, c2, b5, c3, hR5⟩, Or.inl ⟨1, rfl, by decide, by decide, rfl⟩⟩
      · rw [show f_Map_release (d5, m5).1 ((), dSMis d mm2, f2, m1).2.2.1 w (d5, m5).2 (nI i) = _ from e1, e2, thM_r, bnd_some]
        unfold B_LV_remove_127 B_Mod_removed_195
        have I6 : IV B d6 := c2.row (Nat.le_refl _) c2.1 e6 (all13 (Or.inr ⟨by omega, 0, Nat.zero_le _, rfl⟩) (Or.inr ⟨by omega, 0, Nat.zero_le _, rfl⟩) (Or.inr ⟨by omega, 0, Nat.zero_le _, rfl⟩) (Or.inl ⟨Or.inl rfl, Or.inl rfl⟩) (Or.inl ⟨Or.inr rfl, Or.inl rfl⟩) (Or.inr ⟨by omega, 0, Nat.zero_le _, rfl⟩) (Or.inr ⟨by omega, 0, Nat.zero_le _, rfl⟩) (Or.inr ⟨by omega, 0, Nat.zero_le _, rfl⟩) (Or.inr ⟨by omega, 0, Nat.zero_le _, rfl⟩) (Or.inr ⟨by omega, 0, Nat.zero_le _, rfl⟩) (Or.inr ⟨by omega, 0, Nat.zero_le _, rfl⟩) (Or.inr ⟨by omega, 0, Nat.zero_le _, rfl⟩) (Or.inr ⟨by omega, 0, Nat.zero_le _, rfl⟩))
        have X6 : IX d6 := c3.row e6 (fun q => absurd (show eV 0 = 0 from rfl) q) (fun q => absurd q hi0) (fun q => absurd (show (0 : Int32) = 1 from q) (by decide))
        have hfa6 : rFau r6 = 0 := (rP_fau e7).trans cf
        have hK6 : rKep r6 = rKep r2 := e8.trans hK5
        have hR6 : rRep r6 = rRep r := (rP_rep e7).trans hR5
        rcases R_update (f := f2) (w := w) e3 I6 hfa6 e4 with ⟨n1, n2, n3⟩ | ⟨d7, r7, n1, n2, n3, n4, n5, n6, n7⟩
        · rw [show f_Map_update (d6, m6).1 ((), dSMis d mm2, f2, m1).2.2.1 w (d6, m6).2 = _ from n1, show f_Mod_putMap ((), r6).2 = _ from n2, bnd_some, bnd_some, thM_l]
          unfold B_Mod_removed_199 B_Mod_removed_214
          rw [if_pos (by show ¬ (1 : Int32) = 0; decide)]
          exact ⟨.inl 1, _, f2, m6, _, _, rfl, rfl, ⟨n3, b4.kep hK6, I6, b5, X6, hR6⟩, Or.inl ⟨1, rfl, by decide, by decide, rfl⟩⟩
        · rw [show f_Map_update (d6, m6).1 ((), dSMis d mm2, f2, m1).2.2.1 w (d6, m6).2 = _ from n1, show f_Mod_putMap ((), r6).2 = _ from n2, bnd_some, bnd_some, thM_r]
          have hfa7 : rFau r7 = 0 := (rP_fau n6).trans hfa6
          have hw7 : rRws r7 = nI K := (rP_rws n6).trans ((rP_rws e7).trans c8)
          unfold B_LV_remove_134 B_Mod_removed_199 B_Mod_removed_214 f_Finder_forget f_Finder_remember
          have q160 := in160' (n := n) (by omega) hn60
          rw [if_neg q160.1, if_neg q160.2.2, if_pos (inB_nI (show n < 61 by omega) (by decide)), bnd_some, if_neg (not_not_intro (show rFau ((), r7).2 = 0 from hfa7)), if_pos (inB_nI (show n < 61 by omega) (by decide)), cl_nI (by omega)]
          unfold B_Finder_forget_6 B_LV_remove_143
          rw [bnd_some]
          have hf7 : RF f2 r7 := b4.kep (n7.trans hK6)
          refine ⟨.inr (nI K + 1), d7, fSRem f2 (upd (fRem f2) n (-1)), m6, nI K + 1, rSKep r7 (upd (rKep r7) n 0), rfl, ?_, ⟨⟨n3.1, n3.2.1, n3.2.2.1, n3.2.2.2⟩, hf7.up n (-1), n4, ?_, n5 X6, (rP_rep n6).trans hR6⟩, Or.inr ⟨rfl, hfa7⟩⟩
          · show some (rRws r7 + 1, rSKep r7 (upd (rKep r7) n 0)) = _
            rw [hw7]
          · intro t' t1 t2
            show upd (fRem f2) n (-1) t' = -1 ∨ ∃ i', i' < 40 ∧ upd (fRem f2) n (-1) t' = nI i'
            by_cases ht' : t' = n
            · rw [ht', pk_us]; exact Or.inl rfl
            · rw [pk_un ht']; exact b5 t' t1 t2
end RM
