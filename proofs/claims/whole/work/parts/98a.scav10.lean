/-! scavenging: leaders of the root and the map, the map's page -/
section SA
variable {d d' : DS} {r r' : RS} {f : FS} {w : WS} {m : MS} {s : SS} {g : GS} {B : Nat} {E : Nat → Prop} {M : Nat → Nat}
theorem S_lab {sn p : Int32} (hs : ¬ sn = -1) (hl : ∀ i, i < 40 → ∀ k, k < 3 → dCells d' (i * 13 + k) = dCells d (i * 13 + k)) (hu : dUnr d' = dUnr d) : xSearch d' sn p = xSearch d sn p := by
  refine S_cg (fun i hi => says_cg hs hi ?_)
  rw [hu, show dCells d' (i * 13) = dCells d (i * 13) from hl i hi 0 (by decide), hl i hi 1 (by decide)]
theorem KT.lab (h : KT d r M) (hl : ∀ i, i < 40 → ∀ k, k < 3 → dCells d' (i * 13 + k) = dCells d (i * 13 + k)) (hu : dUnr d' = dUnr d) (ht : rTab r' = rTab r) (hm : rMan r' = rMan r) : KT d' r' M := by
  have h0 : ∀ i, i < 40 → dCells d' (i * 13) = dCells d (i * 13) := fun i hi => hl i hi 0 (by decide)
  refine ⟨fun i j hi hj => ?_, fun t t1 t2 => ?_⟩
  · rw [hu, h0 i hi, h0 j hj, hl i hi 1 (by decide), hl j hj 1 (by decide)]; exact h.1 i j hi hj
  · obtain ⟨k1, k2, k3, k4, k5, k6, k7⟩ := h.2 t t1 t2
    have hs : ∀ p, xSearch d' (nI t) p = xSearch d (nI t) p := fun p => S_lab (nI_m1 (by omega)) hl hu
    rw [ht, hm]
    refine ⟨k1, k2, k3, by rw [hs]; exact k4, fun p p1 p2 => by rw [hs]; exact k5 p p1 p2, fun i hi => ?_, fun p p1 p2 => ?_⟩
    · rw [hu, h0 i hi, hl i hi 1 (by decide)]; exact k6 i hi
    · obtain ⟨i, i1, i2, i3⟩ := k7 p p1 p2
      exact ⟨i, i1, by rw [hs]; exact i2, by rw [hl i i1 2 (by decide)]; exact i3⟩
/-- name and KIND of a leader put right in the class -/
def n3 (d : DS) (h : Nat) (kd : Int32) : DS := dSet (dSet (dSet d h 5 0) h 6 0) h 7 kd
theorem n3_at {h kd' i k : Nat} {kd : Int32} (hk : k < 13) : dCells (n3 d h kd) (i * 13 + k) = if i = h ∧ 5 ≤ k ∧ k < 8 then (if k = 7 then kd else 0) else dCells d (i * 13 + k) := by
  unfold n3
  rw [dSet_at (by decide) hk, dSet_at (by decide) hk, dSet_at (by decide) hk]
  by_cases e : i = h
  · by_cases a : k = 7
    · rw [if_pos ⟨e, a⟩, if_pos ⟨e, by omega, by omega⟩, if_pos a]
    · rw [if_neg (fun q => a q.2)]
      by_cases b : k = 6
      · rw [if_pos ⟨e, b⟩, if_pos ⟨e, by omega, by omega⟩, if_neg a]
      · rw [if_neg (fun q => b q.2)]
        by_cases c : k = 5
        · rw [if_pos ⟨e, c⟩, if_pos ⟨e, by omega, by omega⟩, if_neg a]
        · rw [if_neg (fun q => c q.2), if_neg (by omega)]
  · rw [if_neg (fun q => e q.1), if_neg (fun q => e q.1), if_neg (fun q => e q.1), if_neg (fun q => e q.1)]
theorem n3_ur {h : Nat} {kd : Int32} (hu : dUnr d h = 0) : UR d (n3 d h kd) := fun y hy u k hk => by rw [n3_at (kd' := 0) hk, if_neg (fun z => u (by rw [z.1]; exact hu))]
theorem C_prov31 {sn kd h : Nat} (hh : h < 40) (hu : dUnr d h = 0) (he : xSearch d (nI sn) 0 = nI h) (hk : kd < 256) : B_Scav_provideLeader_31 d f w m s (nI sn) (nI kd) = some ((), (n3 d h (nI kd), s)) := by
  unfold B_Scav_provideLeader_31 B_Scav_provideLeader_51 B_Scav_provideLeader_61 f_Disk_setName B_Disk_setName_16 B_Disk_setName_31
  rw [he, show ((0 : Int32) >>> (8 &&& 31)) &&& 255 = 0 by decide, show (0 : Int32) &&& 255 = 0 by decide, show xSetCell d (nI h) (5 + 0) 0 = dSet d h 5 0 from C_set hh (k := 5) (by decide) hu _, show xSetCell (dSet d h 5 0) (nI h) (5 + 0 + 1) 0 = dSet (dSet d h 5 0) h 6 0 from C_set (d := dSet d h 5 0) hh (k := 6) (by decide) hu _]
  show some ((), ((f_Disk_setByte (dSet (dSet d h 5 0) h 6 0) (nI h) 2 (nI kd)).2, s)) = _
  rw [show f_Disk_setByte (dSet (dSet d h 5 0) h 6 0) (nI h) 2 (nI kd) = ((), dSet (dSet (dSet d h 5 0) h 6 0) h 7 (nI kd &&& 255)) from C_setb (d := dSet (dSet d h 5 0) h 6 0) (j := 2) hh (by decide) hu _, b255' hk]
  rfl
theorem C_prov31n {sn kd : Nat} (he : xSearch d (nI sn) 0 = -1) : B_Scav_provideLeader_31 d f w m s (nI sn) (nI kd) = some ((), (d, s)) := by
  unfold B_Scav_provideLeader_31 B_Scav_provideLeader_51 B_Scav_provideLeader_61 f_Disk_setName B_Disk_setName_16 B_Disk_setName_31 f_Disk_setByte B_Disk_setByte_13
  have hno : ∀ (z : DS) b v, xSetCell z (-1) b v = z := fun z b v => by
    unfold xSetCell
    rw [if_neg (fun q => q.1 (by decide))]
  rw [he]
  simp only [hno]
theorem SI_n3 {h : Nat} {kd : Nat} (H : SI E B d s r M) (hk : kd < 256) : SI (fun i => E i ∨ i = h) B (n3 d h (nI kd)) s r M := by
  obtain ⟨hR, I, X, hK, hV⟩ := H
  have hl : ∀ i, i < 40 → ∀ k, k < 5 → dCells (n3 d h (nI kd)) (i * 13 + k) = dCells d (i * 13 + k) := fun i hi k hk => by rw [n3_at (kd' := 0) (by omega), if_neg (by omega)]
  refine ⟨hR.oth (fun i hi k hk' q1 q2 => ?_) rfl rfl rfl, ?_, ?_, hK.lab (fun i hi k hk' => hl i hi k (by omega)) rfl rfl rfl, hV⟩
  · rw [n3_at (kd' := 0) hk']
    by_cases e : i = h ∧ 5 ≤ k ∧ k < 8
    · have := q2 (Or.inr e.1); omega
    · rw [if_neg e]
      refine hR.1 i hi k hk' (fun z => q1 ?_) (fun z => q2 (Or.inl z))
      rw [show dCells (n3 d h (nI kd)) (i * 13) = dCells d (i * 13) from hl i hi 0 (by decide)]; exact z
  · exact ((I.set (by decide) (vOKb (j := 0) (b := 0) (by decide))).set (by decide) (vOKb (j := 1) (b := 0) (by decide))).set (by decide) (vOKb (j := 2) hk)
  · exact ((X.set3 (by decide) (by decide)).set3 (by decide) (by decide)).set3 (by decide) (by decide)
/-- the root's or the map's leader provided, but for name and KIND -/
theorem R_prov {sn kd : Nat} (hsk : (sn = 1 ∧ kd = 1) ∨ (sn = 2 ∧ kd = 0)) (h : SI E B d s r M) : ∃ d1 s1 r1 M1, f_Scav_provideLeader d f w m s (nI sn) (nI kd) = B_Scav_provideLeader_31 d1 f w m s1 (nI sn) (nI kd) ∧ (∀ L, bnd (f_Mod_headOf r (nI sn)) (fun q => B_Mod_heads_67 L r (nI sn) q.1) = L r1 (nI (sn + 1))) ∧ SI E B d1 s1 r1 M1 ∧ KE d r d1 r1 ∧ sRea s1 = sRea s ∧ rRea r1 = rRea r ∧ (xSearch d1 (nI sn) 0 = -1 → M1 sn = 0) ∧ (∀ t, 1 ≤ t → t ≤ 60 → t ≠ sn → xSearch d1 (nI t) 0 = xSearch d (nI t) 0 ∧ M1 t = M t) ∧ (∀ y, y < 40 → dUnr d y = 0 → ¬ dCells d (y * 13) = 0 → ¬ dCells d (y * 13) = nI sn → ∀ k, k < 13 → dCells d1 (y * 13 + k) = dCells d (y * 13 + k)) := by
  have hs1 : 1 ≤ sn := by omega
  have hs : sn ≤ 60 := by omega
  have hF := h.2.2.2.1.2 sn hs1 hs
  unfold f_Scav_provideLeader
  rw [C_isThere hs1 hs]
  -- crowned by the reference with the same KIND
  have h82 : ∀ L r', B_Mod_heads_82 L r' (nI sn) = bnd (f_Mod_crown r' (nI sn) (nI 0) (nI kd)) (fun q => L q.2 (nI (sn + 1))) := fun L r' => by
    unfold B_Mod_heads_82 B_Mod_heads_95 B_Mod_heads_98
    rw [nI_1]
    rcases hsk with ⟨rfl, rfl⟩ | ⟨rfl, rfl⟩
    · rw [if_neg (by decide)]; rfl
    · rw [if_pos (by decide)]; rfl
  rcases hd_cases (d := d) (nI sn) 0 with e | ⟨i, i1, e⟩
  · rw [if_pos e, if_neg (not_not_intro (show ((0 : Int32), ()).1 = 0 from rfl))]
    have href : ∀ L, bnd (f_Mod_headOf r (nI sn)) (fun q => B_Mod_heads_67 L r (nI sn) q.1) = (if 0 ≤ xLowFree d then bnd (f_Mod_crown r (nI sn) (nI 0) (nI kd)) (fun q => L q.2 (nI (sn + 1))) else bnd (f_Mod_losePages r (nI sn)) (fun q => bnd (f_Mod_crown q.2 (nI sn) (nI 0) (nI kd)) (fun q => L q.2 (nI (sn + 1))))) := fun L => by
      rw [R_headOf rfl hF hs, bnd_some, e]
      unfold B_Mod_heads_67
      rw [if_neg (show ¬ (0 : Int32) ≤ ((-1 : Int32), ()).1 from (by decide : ¬ (0 : Int32) ≤ -1)), L_lowFree h.1.lb, bnd_some]
      unfold B_Mod_heads_74
      rw [h82]
      by_cases z : 0 ≤ xLowFree d
      · rw [if_pos (show 0 ≤ (xLowFree d, ()).1 from z), if_pos z]
      · rw [if_neg (show ¬ 0 ≤ (xLowFree d, ()).1 from z), if_neg z]
        congr 1
        funext q
        exact h82 L q.2
    rcases R_crown (f := f) (w := w) (m := m) (sn := sn) (n := 0) (kd := kd) h hs1 hs e (by decide) (by omega) with ⟨u1, u2, u3⟩ | ⟨d1, s1, r1, x, u1, u2, u3, u4, u5, u6, u7, u8, u9, u10⟩
    · rw [show f_Scav_makeLeader d f w m s (nI sn) 0 (nI kd) = _ from u2]
      unfold B_Scav_provideLeader_15
      obtain ⟨d1, s1, r1, l1, l2, l3, l4, l5, l6, l7, l8, l9⟩ := R_losePages (f := f) (w := w) (m := m) h hs1 hs e
      rw [if_neg (not_not_intro (show ((0 : Int32), (d, s)).1 = 0 from rfl)), show f_Scav_losePages ((0 : Int32), (d, s)).2.1 f w m ((0 : Int32), (d, s)).2.2 (nI sn) = _ from l1, bnd_some]
      unfold B_Scav_provideLeader_23 B_Scav_provideLeader_30
      have hneg : ¬ 0 ≤ xLowFree d := by rw [u1]; decide
      rcases R_crown (f := f) (w := w) (m := m) (sn := sn) (n := 0) (kd := kd) l3 hs1 hs l7 (by decide) (by omega) with ⟨v1, v2, v3⟩ | ⟨d2, s2, r2, x, v1, v2, v3, v4, v5, v6, v7, v8, v9, v10⟩
      · rw [show f_Scav_makeLeader ((), (d1, s1)).2.1 f w m ((), (d1, s1)).2.2 (nI sn) 0 (nI kd) = _ from v2]
        refine ⟨d1, s1, r1, tU M sn 0, rfl, fun L => ?_, l3, l4, l5, l6, fun _ => tU_eq, fun t t1 t2 t3 => ⟨l8 t 0 t1 t2 t3, tU_ne t3⟩, fun y hy _ _ q => l9 y hy q⟩
        rw [href, if_neg hneg, l2, bnd_some, show f_Mod_crown ((), r1).2 (nI sn) (nI 0) (nI kd) = _ from v3, bnd_some]
      · rw [show f_Scav_makeLeader ((), (d1, s1)).2.1 f w m ((), (d1, s1)).2.2 (nI sn) 0 (nI kd) = _ from v1]
        refine ⟨d2, s2, r2, tU M sn 0, rfl, fun L => ?_, v3, l4.trans v8, v9.trans l5, v10.trans l6, fun z => absurd (v7.symm.trans z) (nI_m1 (by omega)), fun t t1 t2 t3 => ⟨(S_add (pn := 0) v6.du v4 v5 rfl rfl (nI t) 0 (nI_m1 (by omega)) (nI_ne0 (by omega) (by omega)) (fun q => t3 ((nI_eq (by omega) (by omega)).mp q.1))).trans (l8 t 0 t1 t2 t3), tU_ne t3⟩, fun y hy uy q0 q k hk => ?_⟩
        · rw [href, if_neg hneg, l2, bnd_some, show f_Mod_crown ((), r1).2 (nI sn) (nI 0) (nI kd) = _ from v2, bnd_some]
        · have hyx : y ≠ x := fun z => by
            have := (free_of v4 v5).2
            rw [← z, show dCells d1 (y * 13) = dCells d (y * 13) from l9 y hy q 0 (by decide)] at this
            exact q0 this
          rw [v6.1 y hy k hk, if_neg hyx]; exact l9 y hy q k hk
    · have hpos : 0 ≤ xLowFree d := by
        rcases xLowFree_spec d with ⟨-, z⟩ | ⟨i, i1, i2, -⟩
        · rw [z x u4] at u5; cases u5
        · rw [i2]; exact nI_pos' (by omega)
      rw [show f_Scav_makeLeader d f w m s (nI sn) 0 (nI kd) = _ from u1]
      unfold B_Scav_provideLeader_15
      rw [if_pos (show ¬ ((1 : Int32), (d1, s1)).1 = 0 from (by decide : ¬ (1 : Int32) = 0))]
      refine ⟨d1, s1, r1, M, rfl, fun L => ?_, u3, u8, u9, u10, fun z => absurd (u7.symm.trans z) (nI_m1 (by omega)), fun t t1 t2 t3 => ⟨S_add (pn := 0) u6.du u4 u5 rfl rfl (nI t) 0 (nI_m1 (by omega)) (nI_ne0 (by omega) (by omega)) (fun q => t3 ((nI_eq (by omega) (by omega)).mp q.1)), rfl⟩, fun y hy uy q0 q k hk => ?_⟩
      · rw [href, if_pos hpos, u2, bnd_some]
      · have hyx : y ≠ x := fun z => q0 (by rw [z]; exact (free_of u4 u5).2)
        rw [u6.1 y hy k hk, if_neg hyx]
  · rw [e, if_neg (nI_m1 (by omega)), if_pos (show ¬ ((1 : Int32), ()).1 = 0 from (by decide : ¬ (1 : Int32) = 0))]
    refine ⟨d, s, r, M, rfl, fun L => ?_, h, KE.refl d r, rfl, rfl, fun z => absurd (e.symm.trans z) (nI_m1 (by omega)), fun _ _ _ _ => ⟨rfl, rfl⟩, fun _ _ _ _ _ _ _ => rfl⟩
    rw [R_headOf rfl hF hs, bnd_some, e]
    unfold B_Mod_heads_67 B_Mod_heads_98
    rw [if_pos (show 0 ≤ (nI i, ()).1 from nI_pos' (by omega)), nI_1]
end SA
