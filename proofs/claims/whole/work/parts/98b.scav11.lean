/-! scavenging: a page more; the map's page; names and KINDS -/
section SB
variable {d d' : DS} {r r' : RS} {f : FS} {w : WS} {m : MS} {s : SS} {g : GS} {B : Nat} {E : Nat → Prop} {M : Nat → Nat}
theorem KT.addPage {sn x : Nat} {v : Nat → Int32} (h : KT d r M) (hs1 : 1 ≤ sn) (hs : sn ≤ 60) (hM : M sn + 1 ≤ 39) (h2 : sn = 2 → M sn = 0) (h1 : DU d d' x v) (hx : x < 40) (hF : xFree d (nI x) = true) (v0 : v 0 = nI sn) (v1 : v 1 = nI (M sn + 1)) (hfull : 1 ≤ M sn → ∃ i, i < 40 ∧ xSearch d (nI sn) (nI (M sn)) = nI i ∧ dCells d (i * 13 + 2) = 8) (t1 : rTab r' (40 * sn + (M sn + 1)) = nI x + 1) (t2 : ∀ a, a ≠ 40 * sn + (M sn + 1) → rTab r' a = rTab r a) (m1 : rMan r' sn = nI (M sn + 1)) (m2 : ∀ a, a ≠ sn → rMan r' a = rMan r a) : KT d' r' (tU M sn (M sn + 1)) := by
  obtain ⟨hU, hK⟩ := h
  have hno : xSearch d (nI sn) (nI (M sn + 1)) = -1 := (hK sn hs1 hs).beyond hs (by omega) (by omega)
  obtain ⟨hux, hcx⟩ := free_of hx hF
  refine ⟨U_add hU h1 hx hF hs1 hs v0 v1 hno, fun t ht1 ht => ?_⟩
  by_cases et : t = sn
  · subst et
    rw [tU_eq]
    obtain ⟨k1, k2, k3, k4, k5, k6, k7⟩ := hK t ht1 ht
    have hsr : ∀ p, p < 2 ^ 31 → p ≠ M t + 1 → xSearch d' (nI t) (nI p) = xSearch d (nI t) (nI p) := fun p hp hp2 => S_add h1 hx hF v0 v1 (nI t) (nI p) (nI_m1 (by omega)) (nI_ne0 (by omega) (by omega)) (fun q => hp2 ((nI_eq hp (by omega)).mp q.2))
    have hnx : ∀ p i, i < 40 → xSearch d (nI t) (nI p) = nI i → i ≠ x := fun p i hi i2 q => by
      obtain ⟨j, j1, j2, j3, j4, j5⟩ := found (d := d) (s := nI t) (p := nI p) (nI_m1 (by omega)) (by rw [i2]; exact nI_m1 (by omega))
      have e : j = i := (nI_eq (by omega) (by omega)).mp (j2.symm.trans i2)
      rw [e, q, hcx] at j4
      exact absurd ((nI_eq (a := 0) (by decide) (by omega)).mp j4) (by omega)
    refine ⟨hM, fun z => by have := h2 z; omega, m1, ?_, fun p p1 p2 => ?_, fun i hi ui c => ?_, fun p p1 p2 => ?_⟩
    · have := hsr 0 (by decide) (by omega)
      rw [show nI 0 = (0 : Int32) from rfl] at this
      rw [this, t2 _ (by omega)]; exact k4
    · by_cases e : p = M t + 1
      · subst e
        rw [t1, S_new h1 hx hF ht1 ht v0 v1 hno]
        exact ⟨rfl, nI_m1 (by omega)⟩
      · rw [hsr p (by omega) e, t2 _ (by omega)]; exact k5 p p1 (by omega)
    · by_cases a : i = x
      · exact ⟨M t + 1, Nat.le_refl _, ((h1.1 i hi 1 (by decide)).trans (if_pos a)).trans v1⟩
      · have e0 : dCells d' (i * 13) = dCells d (i * 13) := (h1.1 i hi 0 (by decide)).trans (if_neg a)
        rw [h1.1 i hi 1 (by decide), if_neg a]
        obtain ⟨p, p1, p2⟩ := k6 i hi (by rw [← h1.2]; exact ui) (by rw [← e0]; exact c)
        exact ⟨p, by omega, p2⟩
    · rw [hsr p (by omega) (by omega)]
      obtain ⟨i, i1, i2, i3⟩ : ∃ i, i < 40 ∧ xSearch d (nI t) (nI p) = nI i ∧ dCells d (i * 13 + 2) = 8 := by
        by_cases e : p = M t
        · subst e; exact hfull p1
        · exact k7 p p1 (by omega)
      exact ⟨i, i1, i2, by rw [h1.1 i i1 2 (by decide), if_neg (hnx p i i1 i2)]; exact i3⟩
  · rw [tU_ne et]
    exact (hK t ht1 ht).other h1 hx hF ht1 ht hs1 hs et v0 v1 (fun p hp => t2 _ (by omega)) (m2 t et)
theorem KT_mapPage (hB : 40 ≤ B) (h : SI E B d s r M) : ∃ d1 r1 M1, f_Scav_makeMapPage d f w m s = ((), d1) ∧ bnd (f_Mod_lowestFree r) (fun q => B_Mod_heads_108 r q.1) = B_Mod_heads_160 r1 ∧ SI E B d1 s r1 M1 ∧ KE d r d1 r1 ∧ rRea r1 = rRea r ∧ (∀ t, 1 ≤ t → t ≤ 60 → xSearch d1 (nI t) 0 = xSearch d (nI t) 0) ∧ (∀ t, t ≠ 2 → M1 t = M t) ∧ (xSearch d (nI 2) 0 = -1 → M1 2 = M 2) ∧ (∀ y, y < 40 → dUnr d y = 0 → ¬ dCells d (y * 13) = 0 → ∀ k, k < 13 → dCells d1 (y * 13 + k) = dCells d (y * 13 + k)) := by
  have hF := h.2.2.2.1.2 2 (by decide) (by decide)
  have h' := h
  obtain ⟨hR, I, X, hK, hV⟩ := h
  unfold f_Scav_makeMapPage B_Scav_makeMapPage_51
  rw [L_lowFree hR.lb, bnd_some]
  unfold B_Mod_heads_108
  rw [show f_Mod_headOf r 2 = some (xSearch d (nI 2) 0, ()) from R_headOf rfl hF (by decide), bnd_some]
  unfold B_Mod_heads_114
  have hskip : ∃ d1 r1 M1, ((), d) = ((), d1) ∧ B_Mod_heads_160 r = B_Mod_heads_160 r1 ∧ SI E B d1 s r1 M1 ∧ KE d r d1 r1 ∧ rRea r1 = rRea r ∧ (∀ t, 1 ≤ t → t ≤ 60 → xSearch d1 (nI t) 0 = xSearch d (nI t) 0) ∧ (∀ t, t ≠ 2 → M1 t = M t) ∧ (xSearch d (nI 2) 0 = -1 → M1 2 = M 2) ∧ (∀ y, y < 40 → dUnr d y = 0 → ¬ dCells d (y * 13) = 0 → ∀ k, k < 13 → dCells d1 (y * 13 + k) = dCells d (y * 13 + k)) := ⟨d, r, M, rfl, rfl, h', KE.refl d r, rfl, fun _ _ _ => rfl, fun _ _ => rfl, fun _ => rfl, fun _ _ _ _ _ _ => rfl⟩
  rcases hd_cases (d := d) (nI 2) 0 with e | ⟨hh, hh4, e⟩
  · rw [show xSearch d 2 0 = -1 from e, if_pos rfl, e, if_pos (show ((-1 : Int32), ()).1 < 0 from (by decide : (-1 : Int32) < 0))]
    rw [e] at hskip
    exact hskip
  · rw [show xSearch d 2 0 = nI hh from e, if_neg (nI_m1 (by omega)), e, if_neg (show ¬ (nI hh, ()).1 < 0 from nI_pos (by omega)), if_pos (show inB 2 61 by decide)]
    rw [show rMan r (2 : Int32).toNatClampNeg = nI (M 2) from hF.2.2.1]
    by_cases hM : M 2 = 0
    · have hno : xSearch d (nI 2) (nI 1) = -1 := hF.beyond (p := 1) (by decide) (by omega) (by decide)
      rw [show xSearch d 2 1 = -1 from hno, hM, if_neg (not_not_intro (show nI 0 = 0 from rfl))]
      rcases xLowFree_spec d with ⟨e2, -⟩ | ⟨x, hx, e2, hFr⟩
      · rw [e2, if_pos rfl, if_pos (show ((-1 : Int32), ()).1 < 0 from (by decide : (-1 : Int32) < 0))]
        rw [e, hM] at hskip
        exact hskip
      · rw [e2, if_neg (nI_m1 (by omega)), if_neg (not_not_intro rfl), if_neg (show ¬ (nI x, ()).1 < 0 from nI_pos (by omega))]
        obtain ⟨hux, hcx⟩ := free_of hx hFr
        have hx0 : x ≠ 0 := X.ne0 hux hcx
        obtain ⟨i, i1, i2, i3, i4, i5⟩ := found (d := d) (s := nI 2) (p := 0) (by decide) (by rw [e]; exact nI_m1 (by omega))
        have ei : i = hh := (nI_eq (by omega) (by omega)).mp (i2.symm.trans e)
        subst ei
        have hix : i ≠ x := fun q => by rw [q, hcx] at i4; exact absurd i4 (by decide)
        have g1 := C_page (d := d) i1 i3 hx hux hix 5
        obtain ⟨r1, q1, q2⟩ := R_empty r hx
        rw [show f_Mod_empty r (nI x, ()).1 = _ from q1, bnd_some]
        unfold B_Mod_heads_135
        rw [show f_Mod_label0 ((), r1).2 (nI x, ()).1 2 1 5 = _ from R_label0 hx 2 1 5, bnd_some]
        unfold B_Mod_heads_143 B_Mod_heads_153
        rw [if_pos (by decide), if_pos (by decide)]
        have q3 := ((q2.set (k := 0) (by decide) 2).set (k := 1) (by decide) 1).set (k := 2) (by decide) 5
        show ∃ d1 r1' M1, ((), (f_Disk_makePageBehind d (nI i) (nI x) 5).2) = ((), d1) ∧ B_Mod_heads_160 (rSMan (rSTab (rSet (rSet (rSet r1 x 0 2) x 1 1) x 2 5) (upd (rTab (rSet (rSet (rSet r1 x 0 2) x 1 1) x 2 5)) 81 (nI x + 1))) (upd (rMan (rSTab (rSet (rSet (rSet r1 x 0 2) x 1 1) x 2 5) (upd (rTab (rSet (rSet (rSet r1 x 0 2) x 1 1) x 2 5)) 81 (nI x + 1)))) 2 1)) = B_Mod_heads_160 r1' ∧ _
        generalize rSet (rSet (rSet r1 x 0 2) x 1 1) x 2 5 = r2 at q3 ⊢
        have R2 : RDx E (f_Disk_makePageBehind d (nI i) (nI x) 5).2 r2 := by
          refine hR.row g1 q3 (fun k hk q => ?_)
          rw [i4, i5] at q ⊢
          have hk34 := q ⟨hux, show ¬ pV (nI 2) (0 + 1) 5 (nI i) 0 = 0 from (by decide : ¬ nI 2 = 0)⟩
          revert k
          intro k hk _ hk34
          rcases (show k = 0 ∨ k = 1 ∨ k = 2 ∨ k = 5 ∨ k = 6 ∨ k = 7 ∨ k = 8 ∨ k = 9 ∨ k = 10 ∨ k = 11 ∨ k = 12 by omega) with rfl | rfl | rfl | rfl | rfl | rfl | rfl | rfl | rfl | rfl | rfl <;> rfl
        generalize (f_Disk_makePageBehind d (nI i) (nI x) 5).2 = d1 at g1 R2 ⊢
        have a1 : upd (rTab r2) 81 (nI x + 1) 81 = nI x + 1 := pk_us
        have a2 : ∀ a, a ≠ 81 → upd (rTab r2) 81 (nI x + 1) a = rTab r2 a := fun a ha => pk_un ha
        generalize upd (rTab r2) 81 (nI x + 1) = T at a1 a2 ⊢
        rw [Man_Tab]
        have b1 : upd (rMan r2) 2 1 2 = 1 := pk_us
        have b2 : ∀ a, a ≠ 2 → upd (rMan r2) 2 1 a = rMan r2 a := fun a ha => pk_un ha
        generalize upd (rMan r2) 2 1 = N at b1 b2 ⊢
        have hrT : rT r2 = rT r := rO_T q3.2
        have eTab : rTab (rSMan (rSTab r2 T) N) = T := (Tab_Man _ _).trans (Tab_Tab _ _)
        have eMan : rMan (rSMan (rSTab r2 T) N) = N := Man_Man _ _
        have eRea : rRea (rSMan (rSTab r2 T) N) = rRea r := ((Rea_Man _ _).trans (Rea_Tab _ _)).trans (rT_rea hrT)
        have eKep : rKep (rSMan (rSTab r2 T) N) = rKep r := ((Kep_Man _ _).trans (Kep_Tab _ _)).trans (rT_kep hrT)
        have eWas : rWas (rSMan (rSTab r2 T) N) = rWas r := ((Was_Man _ _).trans (Was_Tab _ _)).trans (rT_was hrT)
        have eRep : rRep (rSMan (rSTab r2 T) N) = rRep r := ((Rep_Man _ _).trans (Rep_Tab _ _)).trans (rO_rep q3.2)
        have R3 : RDx E d1 (rSMan (rSTab r2 T) N) := (R2.tab T).man N
        generalize rSMan (rSTab r2 T) N = r3 at eTab eMan eRea eKep eWas eRep R3 ⊢
        have v0 : pV (dCells d (i * 13)) (dCells d (i * 13 + 1) + 1) 5 (nI i) 0 = nI 2 := i4
        have v1 : pV (dCells d (i * 13)) (dCells d (i * 13 + 1) + 1) 5 (nI i) 1 = nI (M 2 + 1) := by
          show dCells d (i * 13 + 1) + 1 = _
          rw [i5, hM]; rfl
        have hK3 := hK.addPage (r' := r3) (sn := 2) (by decide) (by decide) (by omega) (fun _ => hM) g1.du hx hFr v0 v1 (fun z => absurd z (by omega)) (by rw [eTab, hM]; exact a1) (fun a ha => by rw [eTab, a2 a (by rw [hM] at ha; exact ha), rT_tab hrT]) (by rw [eMan, b1, hM]; rfl) (fun a ha => by rw [eMan, b2 a ha, rT_man hrT])
        refine ⟨d1, r3, tU M 2 (M 2 + 1), rfl, rfl, ⟨R3, ?_, ?_, hK3, ?_⟩, ⟨g1.unr, g1.earl, eKep, eWas, UR.row g1 hux⟩, eRea, fun t t1 t2 => ?_, fun t ht => tU_ne ht, fun z => absurd z (nI_m1 (by omega)), fun y hy uy q0 k hk => ?_⟩
        · refine I.row (Nat.le_refl _) I.1 g1.du (all13 ?_ ?_ ?_ ?_ ?_ ?_ ?_ ?_ ?_ ?_ ?_ ?_ ?_)
          · exact Or.inr ⟨by omega, 2, by show 2 ≤ 60; decide, v0⟩
          · exact Or.inr ⟨by omega, 1, by show 1 ≤ B; omega, by rw [v1, hM]⟩
          · exact Or.inr ⟨by omega, 5, by show 5 ≤ 8; decide, rfl⟩
          · exact Or.inl ⟨Or.inl rfl, Or.inl rfl⟩
          · exact Or.inl ⟨Or.inr rfl, Or.inr ⟨i, i1, rfl⟩⟩
          all_goals exact Or.inr ⟨by omega, 0, Nat.zero_le _, rfl⟩
        · refine X.row g1.du (fun _ q => ?_) (fun q => absurd q hx0) (fun q => ?_)
          · rw [v1, hM] at q; exact absurd q (by decide)
          · rw [v0] at q; exact absurd q (by decide)
        · unfold SV at hV ⊢
          rw [eRep, eRea]; exact hV
        · exact S_add g1.du hx hFr v0 v1 (nI t) 0 (nI_m1 (by omega)) (nI_ne0 (by omega) (by omega)) (fun q => by
            have := q.2
            rw [hM] at this
            exact absurd this (by decide))
        · have hyx : y ≠ x := fun z => q0 (by rw [z]; exact hcx)
          rw [g1.1 y hy k hk, if_neg hyx]
    · have hyes : ¬ xSearch d (nI 2) (nI 1) = -1 := (hF.2.2.2.2.1 1 (Nat.le_refl _) (by omega)).2
      rw [if_pos (show ¬ nI (M 2) = 0 from nI_ne0 (by omega) (by have := hF.1; omega)), if_pos (show ¬ xSearch d 2 1 = -1 from hyes)]
      rw [e] at hskip
      by_cases e2 : xLowFree d = -1
      · rw [if_pos e2]; exact hskip
      · rw [if_neg e2]; exact hskip
end SB
