/-! scavenging: all leaders -/
section SC
variable {d d' : DS} {r r' : RS} {f : FS} {w : WS} {m : MS} {s : SS} {g : GS} {B : Nat} {E E' : Nat → Prop} {M : Nat → Nat}
theorem SI.mono (h : SI E B d s r M) (hE : ∀ i, i < 40 → E i → E' i) : SI E' B d s r M := ⟨⟨fun i hi k hk q1 q2 => h.1.1 i hi k hk q1 (fun z => q2 (hE i hi z)), h.1.2⟩, h.2⟩
/-- name and KIND of a leader put right in the reference -/
theorem R_nm {sn kd : Nat} (hsk : (sn = 1 ∧ kd = 1) ∨ (sn = 2 ∧ kd = 0)) (h : SI E B d s r M) (hby : ∀ i, i < 40 → xSearch d (nI sn) 0 = nI i → dCells d (i * 13 + 5) = 0 ∧ dCells d (i * 13 + 6) = 0 ∧ dCells d (i * 13 + 7) = nI kd) : ∃ r', (∀ L, bnd (f_Mod_headOf r (nI sn)) (fun q => B_Mod_heads_172 L r (nI sn) q.1) = L r' (nI (sn + 1))) ∧ SI (fun i => E i ∧ ¬ xSearch d (nI sn) 0 = nI i) B d s r' M ∧ KE d r d r' ∧ rRea r' = rRea r := by
  have hs1 : 1 ≤ sn := by omega
  have hs : sn ≤ 60 := by omega
  have hF := h.2.2.2.1.2 sn hs1 hs
  rcases hd_cases (d := d) (nI sn) 0 with e | ⟨i, i1, e⟩
  · refine ⟨r, fun L => ?_, h.mono (fun i hi z => ⟨z, fun q => nI_m1 (by omega) (q.symm.trans e)⟩), KE.refl d r, rfl⟩
    rw [R_headOf rfl hF hs, bnd_some, e]
    unfold B_Mod_heads_172 B_Mod_heads_230
    rw [if_pos (show ((-1 : Int32), ()).1 < 0 from (by decide : (-1 : Int32) < 0)), nI_1]
  · obtain ⟨y5, y6, y7⟩ := hby i i1 e
    have hO := ((rSet_O (rSet (rSet r i 5 0) i 6 0) i 7 (nI kd)).trans ((rSet_O (rSet r i 5 0) i 6 0).trans (rSet_O r i 5 0)))
    refine ⟨rSet (rSet (rSet r i 5 0) i 6 0) i 7 (nI kd), fun L => ?_, ⟨?_, h.2.1, h.2.2.1, ?_, ?_⟩, ⟨rfl, rfl, rO_kep hO, rT_was (rO_T hO), fun _ _ _ _ _ => rfl⟩, rT_rea (rO_T hO)⟩
    · have hd : ∀ r', rTab r' = rTab r → f_Mod_headOf r' (nI sn) = some (nI i, ()) := fun r' ht => by rw [R_headOf ht hF hs, e]
      have b0 : inB (8 * nI i) 320 := by rw [by8]; exact inB_nI (by omega) (by decide)
      have c0 : (8 * nI i : Int32).toNatClampNeg = 8 * i := by rw [by8]; exact cl_nI (by omega)
      have b1 : inB (8 * nI i + 1) 320 := by rw [show (8 * nI i + 1 : Int32) = nI (8 * i + 1) from byA i 1]; exact inB_nI (by omega) (by decide)
      have c1 : (8 * nI i + 1 : Int32).toNatClampNeg = 8 * i + 1 := by rw [show (8 * nI i + 1 : Int32) = nI (8 * i + 1) from byA i 1]; exact cl_nI (by omega)
      have b2 : inB (8 * nI i + 2) 320 := by rw [show (8 * nI i + 2 : Int32) = nI (8 * i + 2) from byA i 2]; exact inB_nI (by omega) (by decide)
      have c2 : (8 * nI i + 2 : Int32).toNatClampNeg = 8 * i + 2 := by rw [show (8 * nI i + 2 : Int32) = nI (8 * i + 2) from byA i 2]; exact cl_nI (by omega)
      rw [hd r rfl, bnd_some]
      unfold B_Mod_heads_172
      rw [if_neg (show ¬ (nI i, ()).1 < 0 from nI_pos (by omega)), hd r rfl, bnd_some]
      unfold B_Mod_heads_186
      rw [if_pos (show inB (8 * (nI i, ()).1) 320 from b0), show (8 * (nI i, ()).1 : Int32).toNatClampNeg = 8 * i from c0]
      unfold B_Mod_heads_189
      rw [hd _ (Tab_Byt _ _), bnd_some]
      unfold B_Mod_heads_200
      rw [if_pos (show inB (8 * (nI i, ()).1 + 1) 320 from b1), show (8 * (nI i, ()).1 + 1 : Int32).toNatClampNeg = 8 * i + 1 from c1]
      unfold B_Mod_heads_205
      rw [hd _ ((Tab_Byt _ _).trans (Tab_Byt _ _)), bnd_some]
      unfold B_Mod_heads_216 B_Mod_heads_229 B_Mod_heads_230
      rw [if_pos (show inB (8 * (nI i, ()).1 + 2) 320 from b2), if_pos (show inB (8 * (nI i, ()).1 + 2) 320 from b2), show (8 * (nI i, ()).1 + 2 : Int32).toNatClampNeg = 8 * i + 2 from c2, nI_1]
      rcases hsk with ⟨rfl, rfl⟩ | ⟨rfl, rfl⟩
      · rw [if_neg (by decide)]; rfl
      · rw [if_pos (by decide)]; rfl
    · refine h.1.oth (fun j hj k hk q1 q2 => ?_) rfl (oth_bad (rO_oth hO)) (rO_i hO)
      rw [rSet_at (by decide) hk, rSet_at (by decide) hk, rSet_at (by decide) hk]
      by_cases a : j = i
      · subst a
        by_cases k7 : k = 7
        · rw [if_pos ⟨rfl, k7⟩, k7]; exact y7
        · rw [if_neg (fun q => k7 q.2)]
          by_cases k6 : k = 6
          · rw [if_pos ⟨rfl, k6⟩, k6]; exact y6
          · rw [if_neg (fun q => k6 q.2)]
            by_cases k5 : k = 5
            · rw [if_pos ⟨rfl, k5⟩, k5]; exact y5
            · rw [if_neg (fun q => k5 q.2)]
              exact h.1.1 j hj k hk q1 (fun _ => by omega)
      · rw [if_neg (fun q => a q.1), if_neg (fun q => a q.1), if_neg (fun q => a q.1)]
        refine h.1.1 j hj k hk q1 (fun z => q2 ⟨z, fun q => a ?_⟩)
        exact ((nI_eq (by omega) (by omega)).mp (e.symm.trans q)).symm
    · exact h.2.2.2.1.lab (fun _ _ _ _ => rfl) rfl (rT_tab (rO_T hO)) (rT_man (rO_T hO))
    · have hV := h.2.2.2.2
      unfold SV at hV ⊢
      rw [rO_rep hO, rT_rea (rO_T hO)]; exact hV
theorem R_heads (hB : 40 ≤ B) (h : SI (fun _ => False) B d s r M) : ∃ d' s' r' M', f_Scav_makeLeaders d f w m s = some ((), (d', s')) ∧ f_Mod_heads r = some ((), r') ∧ SI (fun _ => False) B d' s' r' M' ∧ KE d r d' r' ∧ sRea s' = sRea s ∧ rRea r' = rRea r ∧ (∀ t, 1 ≤ t → t ≤ 60 → xSearch d' (nI t) 0 = -1 → M' t = 0) := by
  unfold f_Scav_makeLeaders f_Mod_heads
  obtain ⟨d1, s1, r1, M1, a1, a2, a3, a4, a5, a6, a7, a8⟩ := R_heads1 (f := f) (w := w) (m := m) 58 3 rfl (Nat.le_refl _) 100 1000 (by decide) (by decide) d s r M h
  rw [show (3 : Int32) = nI 3 from rfl, a1, a2]
  -- the root
  obtain ⟨d2, s2, r2, M2, b1, b2, b3, b4, b5, b6, b7, b8, b9⟩ := R_prov (f := f) (w := w) (m := m) (sn := 1) (kd := 1) (Or.inl ⟨rfl, rfl⟩) a3
  have e57 : L_Mod_heads_57 1000 r1 1 = L_Mod_heads_57 999 r2 2 := by
    rw [L_Mod_heads_57, if_neg (by decide)]; exact b2 (L_Mod_heads_57 999)
  rw [e57]
  obtain ⟨d3, c1, c2, c3, c4, c5⟩ : ∃ d3, f_Scav_provideLeader d1 f w m s1 1 1 = some ((), (d3, s2)) ∧ SI (fun i => xSearch d3 (nI 1) 0 = nI i) B d3 s2 r2 M2 ∧ KE d2 r2 d3 r2 ∧ (∀ i, i < 40 → ∀ k, k < 5 → dCells d3 (i * 13 + k) = dCells d2 (i * 13 + k)) ∧ (∀ i, i < 40 → xSearch d3 (nI 1) 0 = nI i → dCells d3 (i * 13 + 5) = 0 ∧ dCells d3 (i * 13 + 6) = 0 ∧ dCells d3 (i * 13 + 7) = nI 1) := by
    rw [show f_Scav_provideLeader d1 f w m s1 1 1 = _ from b1]
    rcases hd_cases (d := d2) (nI 1) 0 with e | ⟨h1, hh, e⟩
    · refine ⟨d2, C_prov31n e, b3.mono (fun _ _ z => z.elim), KE.refl d2 r2, fun _ _ _ _ => rfl, fun i hi q => absurd (q.symm.trans e) (nI_m1 (by omega))⟩
    · obtain ⟨i, i1, i2, i3, -⟩ := found (d := d2) (s := nI 1) (p := 0) (by decide) (by rw [e]; exact nI_m1 (by omega))
      have ei : i = h1 := (nI_eq (by omega) (by omega)).mp (i2.symm.trans e)
      subst ei
      have hl : ∀ j, j < 40 → ∀ k, k < 5 → dCells (n3 d2 i (nI 1)) (j * 13 + k) = dCells d2 (j * 13 + k) := fun j hj k hk => by rw [n3_at (kd' := 0) (by omega), if_neg (by omega)]
      have hsr : xSearch (n3 d2 i (nI 1)) (nI 1) 0 = nI i := (S_lab (by decide) (fun j hj k hk => hl j hj k (by omega)) rfl).trans e
      refine ⟨n3 d2 i (nI 1), C_prov31 i1 i3 e (by decide), (SI_n3 (h := i) b3 (by decide)).mono (fun j hj z => ?_), ⟨rfl, rfl, rfl, rfl, n3_ur i3⟩, hl, fun j hj q => ?_⟩
      · rw [hsr]
        rcases z with z | z
        · exact z.elim
        · rw [z]
      · have ej : j = i := (nI_eq (by omega) (by omega)).mp (q.symm.trans hsr)
        subst ej
        refine ⟨?_, ?_, ?_⟩
        · rw [n3_at (kd' := 0) (by decide), if_pos (show j = j ∧ 5 ≤ 5 ∧ 5 < 8 from ⟨rfl, by omega, by omega⟩)]; rfl
        · rw [n3_at (kd' := 0) (by decide), if_pos (show j = j ∧ 5 ≤ 6 ∧ 6 < 8 from ⟨rfl, by omega, by omega⟩)]; rfl
        · rw [n3_at (kd' := 0) (by decide), if_pos (show j = j ∧ 5 ≤ 7 ∧ 7 < 8 from ⟨rfl, by omega, by omega⟩)]; rfl
  rw [c1, bnd_some]
  unfold B_Scav_makeLeaders_70
  -- the map
  obtain ⟨d4, s4, r4, M4, g1, g2, g3, g4, g5, g6, g7, g8, g9⟩ := R_prov (f := f) (w := w) (m := m) (sn := 2) (kd := 0) (Or.inr ⟨rfl, rfl⟩) c2
  have e57' : L_Mod_heads_57 999 r2 2 = L_Mod_heads_57 998 r4 3 := by
    rw [L_Mod_heads_57, if_neg (by decide)]; exact g2 (L_Mod_heads_57 998)
  rw [e57']
  have h13 : xSearch d4 (nI 1) 0 = xSearch d3 (nI 1) 0 := (g8 1 (by decide) (by decide) (by decide)).1
  obtain ⟨d5, j1, j2, j3, j4, j5, j6⟩ : ∃ d5, f_Scav_provideLeader d3 f w m s2 2 0 = some ((), (d5, s4)) ∧ SI (fun i => xSearch d5 (nI 1) 0 = nI i ∨ xSearch d5 (nI 2) 0 = nI i) B d5 s4 r4 M4 ∧ KE d4 r4 d5 r4 ∧ (∀ i, i < 40 → ∀ k, k < 5 → dCells d5 (i * 13 + k) = dCells d4 (i * 13 + k)) ∧ (∀ i, i < 40 → xSearch d5 (nI 2) 0 = nI i → dCells d5 (i * 13 + 5) = 0 ∧ dCells d5 (i * 13 + 6) = 0 ∧ dCells d5 (i * 13 + 7) = nI 0) ∧ (∀ i, i < 40 → xSearch d5 (nI 1) 0 = nI i → dCells d5 (i * 13 + 5) = 0 ∧ dCells d5 (i * 13 + 6) = 0 ∧ dCells d5 (i * 13 + 7) = nI 1) := by
    have hby4 : ∀ i, i < 40 → xSearch d4 (nI 1) 0 = nI i → dCells d4 (i * 13 + 5) = 0 ∧ dCells d4 (i * 13 + 6) = 0 ∧ dCells d4 (i * 13 + 7) = nI 1 := fun i hi q => by
      rw [h13] at q
      obtain ⟨y, y1, y2, y3, y4, -⟩ := found (d := d3) (s := nI 1) (p := 0) (by decide) (by rw [q]; exact nI_m1 (by omega))
      have ey : y = i := (nI_eq (by omega) (by omega)).mp (y2.symm.trans q)
      subst ey
      have hr := g9 y hi y3 (by rw [y4]; decide) (by rw [y4]; decide)
      rw [hr 5 (by decide), hr 6 (by decide), hr 7 (by decide)]
      exact c5 y hi q
    rw [show f_Scav_provideLeader d3 f w m s2 2 0 = _ from g1]
    rcases hd_cases (d := d4) (nI 2) 0 with e | ⟨h2, hh, e⟩
    · refine ⟨d4, C_prov31n e, g3.mono (fun i hi z => Or.inl (h13.trans z)), KE.refl d4 r4, fun _ _ _ _ => rfl, fun i hi q => absurd (q.symm.trans e) (nI_m1 (by omega)), hby4⟩
    · obtain ⟨i, i1, i2, i3, i4, -⟩ := found (d := d4) (s := nI 2) (p := 0) (by decide) (by rw [e]; exact nI_m1 (by omega))
      have ei : i = h2 := (nI_eq (by omega) (by omega)).mp (i2.symm.trans e)
      subst ei
      have hl : ∀ j, j < 40 → ∀ k, k < 5 → dCells (n3 d4 i (nI 0)) (j * 13 + k) = dCells d4 (j * 13 + k) := fun j hj k hk => by rw [n3_at (kd' := 0) (by omega), if_neg (by omega)]
      have hs2 : xSearch (n3 d4 i (nI 0)) (nI 2) 0 = nI i := (S_lab (by decide) (fun j hj k hk => hl j hj k (by omega)) rfl).trans e
      have hs1 : xSearch (n3 d4 i (nI 0)) (nI 1) 0 = xSearch d4 (nI 1) 0 := S_lab (by decide) (fun j hj k hk => hl j hj k (by omega)) rfl
      refine ⟨n3 d4 i (nI 0), C_prov31 i1 i3 e (by decide), (SI_n3 (h := i) g3 (by decide)).mono (fun j hj z => ?_), ⟨rfl, rfl, rfl, rfl, n3_ur i3⟩, hl, fun j hj q => ?_, fun j hj q => ?_⟩
      · rcases z with z | z
        · exact Or.inl (hs1.trans (h13.trans z))
        · exact Or.inr (by rw [hs2, z])
      · have ej : j = i := (nI_eq (by omega) (by omega)).mp (q.symm.trans hs2)
        subst ej
        refine ⟨?_, ?_, ?_⟩
        · rw [n3_at (kd' := 0) (by decide), if_pos (show j = j ∧ 5 ≤ 5 ∧ 5 < 8 from ⟨rfl, by omega, by omega⟩)]; rfl
        · rw [n3_at (kd' := 0) (by decide), if_pos (show j = j ∧ 5 ≤ 6 ∧ 6 < 8 from ⟨rfl, by omega, by omega⟩)]; rfl
        · rw [n3_at (kd' := 0) (by decide), if_pos (show j = j ∧ 5 ≤ 7 ∧ 7 < 8 from ⟨rfl, by omega, by omega⟩)]; rfl
      · rw [hs1] at q
        have hji : j ≠ i := fun z => by
          obtain ⟨y, y1, y2, y3, y4, -⟩ := found (d := d4) (s := nI 1) (p := 0) (by decide) (by rw [q]; exact nI_m1 (by omega))
          have ey : y = j := (nI_eq (by omega) (by omega)).mp (y2.symm.trans q)
          rw [ey, z, i4] at y4
          exact absurd y4 (by decide)
        rw [n3_at (kd' := 0) (by decide), n3_at (kd' := 0) (by decide), n3_at (kd' := 0) (by decide), if_neg (fun z => hji z.1), if_neg (fun z => hji z.1), if_neg (fun z => hji z.1)]
        exact hby4 j hj q
  rw [show f_Scav_provideLeader ((), (d3, s2)).2.1 f w m ((), (d3, s2)).2.2 2 0 = _ from j1, bnd_some]
  unfold B_Scav_makeLeaders_76 B_Scav_makeLeaders_80
  -- the map's page
  obtain ⟨d6, r6, M6, p1, p2, p3, p4, p5, p6, p7, p8, p9⟩ := KT_mapPage (f := f) (w := w) (m := m) hB j2
  have e57'' : L_Mod_heads_57 998 r4 3 = B_Mod_heads_160 r6 := by
    rw [L_Mod_heads_57, if_pos (by decide)]; exact p2
  rw [e57'', show f_Scav_makeMapPage ((), (d5, s4)).2.1 f w m ((), (d5, s4)).2.2 = _ from p1]
  unfold B_Mod_heads_160
  have hs51 : xSearch d6 (nI 1) 0 = xSearch d5 (nI 1) 0 := p6 1 (by decide) (by decide)
  have hs52 : xSearch d6 (nI 2) 0 = xSearch d5 (nI 2) 0 := p6 2 (by decide) (by decide)
  have hby : ∀ sn kd, 1 ≤ sn → sn ≤ 2 → xSearch d6 (nI sn) 0 = xSearch d5 (nI sn) 0 → (∀ i, i < 40 → xSearch d5 (nI sn) 0 = nI i → dCells d5 (i * 13 + 5) = 0 ∧ dCells d5 (i * 13 + 6) = 0 ∧ dCells d5 (i * 13 + 7) = nI kd) → ∀ i, i < 40 → xSearch d6 (nI sn) 0 = nI i → dCells d6 (i * 13 + 5) = 0 ∧ dCells d6 (i * 13 + 6) = 0 ∧ dCells d6 (i * 13 + 7) = nI kd := fun sn kd s1 s2 hs hb i hi q => by
    rw [hs] at q
    obtain ⟨y, y1, y2, y3, y4, -⟩ := found (d := d5) (s := nI sn) (p := 0) (nI_m1 (by omega)) (by rw [q]; exact nI_m1 (by omega))
    have ey : y = i := (nI_eq (by omega) (by omega)).mp (y2.symm.trans q)
    subst ey
    have hr := p9 y hi y3 (by rw [y4]; exact nI_ne0 (by omega) (by omega))
    rw [hr 5 (by decide), hr 6 (by decide), hr 7 (by decide)]
    exact hb y hi q
  obtain ⟨r7, q1, q2, q3, q4⟩ := R_nm (sn := 1) (kd := 1) (Or.inl ⟨rfl, rfl⟩) p3 (hby 1 1 (by decide) (by decide) hs51 j6)
  obtain ⟨r8, u1, u2, u3, u4⟩ := R_nm (sn := 2) (kd := 0) (Or.inr ⟨rfl, rfl⟩) q2 (hby 2 0 (by decide) (by decide) hs52 j5)
  have e162 : L_Mod_heads_162 1000 r6 1 = some ((), r8) := by
    rw [L_Mod_heads_162, if_neg (by decide), show bnd (f_Mod_headOf r6 1) (fun q => B_Mod_heads_172 (L_Mod_heads_162 999) r6 1 q.1) = L_Mod_heads_162 999 r7 (nI 2) from q1 (L_Mod_heads_162 999), L_Mod_heads_162, if_neg (by decide), show bnd (f_Mod_headOf r7 (nI 2)) (fun q => B_Mod_heads_172 (L_Mod_heads_162 998) r7 (nI 2) q.1) = L_Mod_heads_162 998 r8 (nI 3) from u1 (L_Mod_heads_162 998), L_Mod_heads_162, if_pos (by decide)]
  rw [e162]
  refine ⟨d6, s4, r8, M6, rfl, rfl, u2.mono (fun i hi z => ?_), (a4.trans b4).trans ((c3.trans g4).trans ((j3.trans p4).trans (q3.trans u3))), g5.trans (b5.trans a5), u4.trans (q4.trans (p5.trans (g6.trans (b6.trans a6)))), fun t t1 t2 z => ?_⟩
  · obtain ⟨⟨z1, z2⟩, z3⟩ := z
    rcases z1 with z1 | z1
    · exact z2 (hs51.trans z1)
    · exact z3 (hs52.trans z1)
  · have h5 : ∀ t, 1 ≤ t → t ≤ 60 → xSearch d5 (nI t) 0 = xSearch d4 (nI t) 0 := fun t t1 t2 => S_lab (nI_m1 (by omega)) (fun j hj k hk => j4 j hj k (by omega)) j3.1
    have h3 : ∀ t, 1 ≤ t → t ≤ 60 → xSearch d3 (nI t) 0 = xSearch d2 (nI t) 0 := fun t t1 t2 => S_lab (nI_m1 (by omega)) (fun j hj k hk => c4 j hj k (by omega)) c3.1
    rw [p6 t t1 t2] at z
    by_cases e2 : t = 2
    · subst e2
      rw [p8 z]
      exact g7 (by rw [← h5 2 (by decide) (by decide)]; exact z)
    · rw [p7 t e2]
      rw [h5 t t1 t2] at z
      obtain ⟨w1, w2⟩ := g8 t t1 t2 e2
      rw [w2]
      rw [w1, h3 t t1 t2] at z
      by_cases e1 : t = 1
      · subst e1; exact b7 z
      · obtain ⟨w3, w4⟩ := b8 t t1 t2 e1
        rw [w4]
        rw [w3] at z
        exact a7 t (by omega) t2 z
end SC
