/-! scavenging: a place in the root, a new page -/
section AD5
variable {d d' : DS} {r r' : RS} {f : FS} {w : WS} {m : MS} {s s' : SS} {g : GS} {B : Nat} {M : Nat → Nat}
/-- a new page of the root -/
theorem R_roomX {z : Nat} (hB : 40 ≤ B) (h : SF B d s r M) (hO : RO d) (hr : ¬ xSearch d (nI 1) 0 = -1) (hz : z < 40) (e : xSearch d (nI 1) (nI (M 1)) = nI z) (hu : dUnr d z = 0) (h0 : dCells d (z * 13) = nI 1) (h1 : dCells d (z * 13 + 1) = nI (M 1)) (h2 : 1 ≤ M 1 → dCells d (z * 13 + 2) = 8) :
    (xLowFree d = -1 ∧ B_Mod_room_94 r = some (-1, r)) ∨ (∃ x d' r', x < 40 ∧ xLowFree d = nI x ∧ f_Disk_makePageBehind d (nI z) (nI x) 4 = ((), d') ∧ B_Mod_room_94 r = some (nI (8 * x + 4 * 0), r') ∧ RMp B d s r d' r' (tU M 1 (M 1 + 1)) x 0) := by
  unfold B_Mod_room_94
  rw [L_lowFree h.1.lb, bnd_some]
  unfold B_Mod_room_98
  rcases xLowFree_spec d with ⟨e2, -⟩ | ⟨x, hx, e2, hFr⟩
  · rw [e2, if_neg (show ¬ (0 : Int32) ≤ ((-1 : Int32), ()).1 from (by decide : ¬ (0 : Int32) ≤ -1))]
    exact Or.inl ⟨rfl, rfl⟩
  · right
    have hM := M39 h hr hx hFr
    obtain ⟨hux, hcx⟩ := free_of hx hFr
    obtain ⟨hR, I, X, hK, hV⟩ := h
    have hx0 : x ≠ 0 := X.ne0 hux hcx
    have hzx : z ≠ x := fun q => by rw [q, hcx] at h0; exact absurd h0 (by decide)
    have hF := hK.2 1 (by decide) (by decide)
    have g1 := C_page (d := d) hz hu hx hux hzx 4
    obtain ⟨r1, q1, q2⟩ := R_empty r hx
    rw [e2, if_pos (show (0 : Int32) ≤ (nI x, ()).1 from nI_pos' (by omega)), show f_Mod_empty r (nI x, ()).1 = _ from q1, bnd_some]
    unfold B_Mod_room_110
    have hm1 : rMan r1 (1 : Int32).toNatClampNeg = nI (M 1) := (congrFun (rT_man (rO_T q2.2)) _).trans hF.2.2.1
    rw [if_pos (by decide), if_pos (by decide), hm1, nI_1]
    have b1 : upd (rMan r1) (1 : Int32).toNatClampNeg (nI (M 1 + 1)) 1 = nI (M 1 + 1) := pk_us
    have b2 : ∀ a, a ≠ 1 → upd (rMan r1) (1 : Int32).toNatClampNeg (nI (M 1 + 1)) a = rMan r1 a := fun a ha => pk_un ha
    generalize upd (rMan r1) (1 : Int32).toNatClampNeg (nI (M 1 + 1)) = N at b1 b2 ⊢
    unfold B_Mod_room_124
    rw [if_pos (by decide), Man_Man, show N (1 : Int32).toNatClampNeg = nI (M 1 + 1) from b1, show f_Mod_label0 (rSMan r1 N) (nI x, ()).1 1 (nI (M 1 + 1)) 4 = _ from R_label0 hx 1 (nI (M 1 + 1)) 4, bnd_some, Set0_Man, Set1_Man, Set2_Man]
    have q3 := ((q2.set (k := 0) (by decide) 1).set (k := 1) (by decide) (nI (M 1 + 1))).set (k := 2) (by decide) 4
    generalize rSet (rSet (rSet r1 x 0 1) x 1 (nI (M 1 + 1))) x 2 4 = r2 at q3 ⊢
    have R2 : RDx (fun _ => False) (f_Disk_makePageBehind d (nI z) (nI x) 4).2 r2 := by
      refine hR.row g1 q3 (fun k hk q => ?_)
      rw [h0, h1, nI_1] at q ⊢
      have hk34 := q ⟨hux, show ¬ pV (nI 1) (nI (M 1 + 1)) 4 (nI z) 0 = 0 from (by decide : ¬ nI 1 = 0)⟩
      revert k
      intro k hk _ hk34
      rcases (show k = 0 ∨ k = 1 ∨ k = 2 ∨ k = 5 ∨ k = 6 ∨ k = 7 ∨ k = 8 ∨ k = 9 ∨ k = 10 ∨ k = 11 ∨ k = 12 by omega) with rfl | rfl | rfl | rfl | rfl | rfl | rfl | rfl | rfl | rfl | rfl <;> rfl
    have eu : f_Disk_makePageBehind d (nI z) (nI x) 4 = ((), (f_Disk_makePageBehind d (nI z) (nI x) 4).2) := rfl
    generalize (f_Disk_makePageBehind d (nI z) (nI x) 4).2 = d1 at g1 R2 eu
    unfold B_Mod_room_137 B_Mod_room_154
    show ∃ x' d' r', _ ∧ _ ∧ _ ∧ (if inB 1 61 then (if inB (40 + rMan (rSMan r2 N) (1 : Int32).toNatClampNeg) 2440 then some (8 * nI x, rSTab (rSMan r2 N) (upd (rTab (rSMan r2 N)) (40 + rMan (rSMan r2 N) (1 : Int32).toNatClampNeg).toNatClampNeg (nI x + 1))) else none) else none) = _ ∧ _
    have e40 : (40 + rMan (rSMan r2 N) (1 : Int32).toNatClampNeg : Int32) = nI (40 * 1 + (M 1 + 1)) := by
      rw [Man_Man, show N (1 : Int32).toNatClampNeg = nI (M 1 + 1) from b1, show (40 : Int32) = nI (40 * 1) from rfl, nI_add]
    rw [e40, if_pos (by decide), if_pos (inB_nI (show 40 * 1 + (M 1 + 1) < 2440 by omega) (by decide)), cl_nI (by omega), Tab_Man, by8]
    have a1 : upd (rTab r2) (40 * 1 + (M 1 + 1)) (nI x + 1) (40 * 1 + (M 1 + 1)) = nI x + 1 := pk_us
    have a2 : ∀ a, a ≠ 40 * 1 + (M 1 + 1) → upd (rTab r2) (40 * 1 + (M 1 + 1)) (nI x + 1) a = rTab r2 a := fun a ha => pk_un ha
    generalize upd (rTab r2) (40 * 1 + (M 1 + 1)) (nI x + 1) = T at a1 a2 ⊢
    have hrT : rT r2 = rT r := rO_T q3.2
    have eTab : rTab (rSTab (rSMan r2 N) T) = T := Tab_Tab _ _
    have eMan : rMan (rSTab (rSMan r2 N) T) = N := (Man_Tab _ _).trans (Man_Man _ _)
    have eRea : rRea (rSTab (rSMan r2 N) T) = rRea r := ((Rea_Tab _ _).trans (Rea_Man _ _)).trans (rT_rea hrT)
    have eKep : rKep (rSTab (rSMan r2 N) T) = rKep r := ((Kep_Tab _ _).trans (Kep_Man _ _)).trans (rT_kep hrT)
    have eWas : rWas (rSTab (rSMan r2 N) T) = rWas r := ((Was_Tab _ _).trans (Was_Man _ _)).trans (rT_was hrT)
    have eRep : rRep (rSTab (rSMan r2 N) T) = rRep r := ((Rep_Tab _ _).trans (Rep_Man _ _)).trans (rO_rep q3.2)
    have R3 : RDx (fun _ => False) d1 (rSTab (rSMan r2 N) T) := (R2.man N).tab T
    generalize rSTab (rSMan r2 N) T = r3 at eTab eMan eRea eKep eWas eRep R3 ⊢
    have v0 : pV (dCells d (z * 13)) (dCells d (z * 13 + 1) + 1) 4 (nI z) 0 = nI 1 := h0
    have v1 : pV (dCells d (z * 13)) (dCells d (z * 13 + 1) + 1) 4 (nI z) 1 = nI (M 1 + 1) := by
      show dCells d (z * 13 + 1) + 1 = _
      rw [h1, nI_1]
    have v2 : pV (dCells d (z * 13)) (dCells d (z * 13 + 1) + 1) 4 (nI z) 2 = 4 := rfl
    have vb : ∀ j, j < 8 → pV (dCells d (z * 13)) (dCells d (z * 13 + 1) + 1) 4 (nI z) (5 + j) = 0 := fun j hj => by
      rcases (show j = 0 ∨ j = 1 ∨ j = 2 ∨ j = 3 ∨ j = 4 ∨ j = 5 ∨ j = 6 ∨ j = 7 by omega) with rfl | rfl | rfl | rfl | rfl | rfl | rfl | rfl <;> rfl
    have hK3 := hK.addPage (r' := r3) (sn := 1) (by decide) (by decide) hM (fun q => absurd q (by decide)) g1.du hx hFr v0 v1 (fun q => ⟨z, hz, e, h2 q⟩) (by rw [eTab]; exact a1) (fun a ha => by rw [eTab, a2 a ha, rT_tab hrT]) (by rw [eMan, b1]) (fun a ha => by rw [eMan, b2 a ha, rT_man (rO_T q2.2)])
    have hI1 : IV B d1 := by
      refine I.row (Nat.le_refl _) I.1 g1.du (all13 ?_ ?_ ?_ ?_ ?_ ?_ ?_ ?_ ?_ ?_ ?_ ?_ ?_)
      · exact Or.inr ⟨by omega, 1, by show 1 ≤ 60; decide, v0⟩
      · exact Or.inr ⟨by omega, M 1 + 1, by show M 1 + 1 ≤ B; omega, v1⟩
      · exact Or.inr ⟨by omega, 4, by show 4 ≤ 8; decide, rfl⟩
      · exact Or.inl ⟨Or.inl rfl, Or.inl rfl⟩
      · exact Or.inl ⟨Or.inr rfl, Or.inr ⟨z, hz, rfl⟩⟩
      all_goals exact Or.inr ⟨by omega, 0, Nat.zero_le _, rfl⟩
    refine ⟨x, d1, r3, hx, rfl, eu, rfl, ⟨R3, hI1, ?_, hK3, ?_⟩, hx, by decide, by rw [g1.unr]; exact hux, ?_, ?_, ?_, fun j t' hj uj c0 c1 ht' hne => ?_, ⟨g1.unr, g1.earl, eKep, eWas, UR.row g1 hux⟩, eRea, fun t t1 t2 => ?_, fun y hy hyx k hk => ?_⟩
    · refine X.row g1.du (fun _ q => ?_) (fun q => absurd q hx0) (fun _ _ => Or.inl rfl)
      rw [v1] at q; exact absurd q (nI_ne0 (by omega) (by omega))
    · unfold SV at hV ⊢
      rw [eRep, eRea]; exact hV
    · exact (g1.1 x hx 0 (by decide)).trans ((if_pos rfl).trans v0)
    · rw [g1.1 x hx 1 (by decide), if_pos rfl, v1]; exact nI_ne0 (by omega) (by omega)
    · unfold en vN
      rw [g1.1 x hx 2 (by decide), if_pos rfl, v2]; decide
    · by_cases ejx : j = x
      · subst ejx
        exfalso
        apply hne
        refine ⟨rfl, ?_⟩
        unfold en vN at ht'
        rw [g1.1 j hj 2 (by decide), if_pos rfl, v2] at ht'
        have e4 : (4 : Int32).toNatClampNeg / 4 = 1 := by decide
        omega
      · have ht2 := en_le hI1 hj
        have he : en d1 j = en d j := by
          unfold en vN
          rw [g1.1 j hj 2 (by decide), if_neg ejx]
        unfold OKE
        rw [g1.1 j hj _ (by omega), g1.1 j hj _ (by omega), g1.1 j hj _ (by omega), if_neg ejx, if_neg ejx, if_neg ejx]
        refine hO j hj (by rw [← g1.unr]; exact uj) ?_ ?_ t' (by rw [← he]; exact ht')
        · exact ((g1.1 j hj 0 (by decide)).trans (if_neg ejx)).symm.trans c0
        · intro q
          apply c1
          rw [g1.1 j hj 1 (by decide), if_neg ejx]; exact q
    · exact S_add g1.du hx hFr v0 v1 (nI t) 0 (nI_m1 (by omega)) (nI_ne0 (by omega) (by omega)) (fun q => nI_ne0 (n := M 1 + 1) (by omega) (by omega) q.2.symm)
    · rw [g1.1 y hy k hk, if_neg hyx]
end AD5
