/-! scavenging: the call -/
section SCV2
variable {d d' d0 : DS} {r r' r0 : RS} {f : FS} {w : WS} {m : MS} {s s' : SS} {g : GS} {B : Nat} {M : Nat → Nat}
theorem RD_pow (h : RD d r) : RD (dSChg (dSPow d 1) (-1)) (rSLef (rSDar (rSThr r 0) 0) (-1)) := ⟨h.1, h.2.1, h.2.2.1, h.2.2.2.1, rfl, Or.inl ⟨rfl, rfl⟩⟩
/-- from the start to the leaders -/
theorem R_begin1 (hR : RD d r) (I : IV B d) (X : IX d) (hs : sLos s = 0 ∧ sMad s = 0 ∧ sAdo s = 0 ∧ sRea s = 0) (hE : ∀ i, i < 40 → ∀ k, k < 13 → dEarl d (i * 13 + k) = dCells d (i * 13 + k)) : ∃ d' s' r' M', f_Scav_loseUnkept d f w m s = some ((), (d', s')) ∧ B_Mod_scavenge_15 r = bnd (f_Mod_heads r') (fun q => B_Mod_scavenge_121 q.2) ∧ SF B d' s' r' M' ∧ dUnr d' = dUnr d ∧ dEarl d' = dEarl d ∧ UR d d' ∧ (∀ t, 1 ≤ t → t ≤ 60 → rKep r' t = 0) ∧ (∀ i, i < 40 → ∀ k, k < 13 → dEarl d' (i * 13 + k) = rWas r' (wIx i k)) := by
  obtain ⟨W, w1, w2⟩ := R_remember r
  obtain ⟨R, p1, p2⟩ := R_rep0 (rSWas r W)
  have hR3 : RD d (rSRep (rSWas r W) R) := (hR.wasS W).repS R
  obtain ⟨r4, M4, k1, k2, k3, k4, k5⟩ := R_keepAll X 60 1 (by omega) (by omega) 1000 (by omega) (rSRep (rSWas r W) R) (fun _ => 0) hR3 (fun t t1 t2 => absurd t2 (by omega))
  rw [Rep_Rep] at k4
  have hW4 : rWas r4 = W := k5.trans ((Was_Rep _ _).trans (Was_Was _ _))
  have hKM : ∀ sn, 1 ≤ sn → sn ≤ 60 → KM d sn (M4 sn) := fun sn a b => (k3 sn a (by omega)).2.2.1
  obtain ⟨kb, b1, b2⟩ := C_keptAll (f := f) (w := w) (m := m) (s := s) hKM 60 1 (by omega) (by omega) 100 (by omega) 0 (fun x hx => by
    rw [bt_0]
    exact ⟨fun q => absurd q (by decide), fun ⟨t, t1, t2, _⟩ => by omega⟩)
  obtain ⟨d3, r5, e1, e2, e3, e4, e5, e6, e7, e8⟩ := R_loseL (f := f) (w := w) (m := m) I hKM b2 40 0 (by omega) 100 1000 (by omega) (by omega) d s r4 k2 rfl rfl (fun y hy => ⟨fun q => absurd q.1 (by omega), fun _ _ _ => rfl⟩) (by rw [hs.1, k4, p2 1 (by decide)]) (fun sn a b => (k3 sn a (by omega)).2.2.2)
  obtain ⟨g1, g2, g3⟩ := KT_of (r := r5) I X hKM e6 e4 (fun sn a b => by rw [rT_tab e7, rT_man e7]; exact (k3 sn a (by omega)).2.2.2)
  refine ⟨d3, sSLos s (rRep r5 1), r5, M4, ?_, ?_, ⟨e3.x, g2, g3, g1, ?_⟩, e4, e5, fun y hy u k hk => (e6 y hy).2 (fun q => u q.2.1) k hk, fun t t1 t2 => ?_, fun i hi k hk => ?_⟩
  · unfold f_Scav_loseUnkept
    exact b1.trans e1
  · unfold B_Mod_scavenge_15
    rw [w1, bnd_some]
    unfold B_Mod_scavenge_19
    exact (p1.trans k1).trans e2
  · refine ⟨rfl, ?_, ?_, ?_, ?_, fun k a b => ?_⟩
    · show sMad s = _
      rw [hs.2.1, e8 2 (by decide), k4, p2 2 (by decide)]
    · show sAdo s = _
      rw [hs.2.2.1, e8 3 (by decide), k4, p2 3 (by decide)]
    · rw [e8 0 (by decide), k4, p2 0 (by decide)]
    · rw [e8 4 (by decide), k4, p2 4 (by decide)]
    · show bt (sRea s) k = true ↔ _
      rw [hs.2.2.2, bt_0, rT_rea e7, (k3 k a (by omega)).2.1]
      exact ⟨fun q => absurd q (by decide), fun q => absurd rfl q⟩
  · rw [rT_kep e7]; exact (k3 t t1 (by omega)).1
  · rw [e5, hE i hi k hk, rT_was e7, hW4, w2 i hi k hk]
    exact hR.1 i hi k hk
theorem HDp.heads (h : SF B d s r M) (hM : ∀ t, 1 ≤ t → t ≤ 60 → xSearch d (nI t) 0 = -1 → M t = 0) : HDp d := by
  intro y hy hu t t1 t2 c hno
  have hK := h.2.2.2.1.2 t t1 t2
  obtain ⟨p, p1, p2⟩ := hK.2.2.2.2.2.1 y hy hu c
  rw [hM t t1 t2 hno] at p1
  obtain rfl : p = 0 := by omega
  have := U_search h.2.2.2.1.1 (nI_m1 (by omega)) (nI_ne0 (by omega) (by omega)) hy hu c p2
  rw [show xSearch d (nI t) (nI 0) = xSearch d (nI t) 0 from rfl, hno] at this
  exact nI_m1 (by omega) this.symm
theorem S_scavenge (h : RL B d f s r) (hB : 40 ≤ B) : ∃ v d' f' s' r', f_LV_scavenge d f w m s g = some (v, (d', f', s')) ∧ f_Mod_scavenge r = some (v, r') ∧ RL B d' f' s' r' := by
  obtain ⟨hR, hF, I, J, X, hres⟩ := h
  obtain ⟨f1, q1, q2⟩ := C_forgetL (d := dSChg (dSPow d 1) (-1)) 60 1 (by omega) (by omega) 100 (by omega) f (fun u u1 u2 => absurd u2 (by omega))
  have hC : f_LV_scavenge d f w m s g = bnd (f_Scav_run (dSChg (dSPow d 1) (-1)) f1 w m s) (fun q => B_LV_scavenge_21 q.2.1 f1 w m q.2.2 g) := by
    unfold f_LV_scavenge B_LV_scavenge_7 f_Finder_forgetAll f_Disk_restorePower
    rw [show L_Finder_forgetAll_2 100 ((), dSChg (dSPow d 1) (-1)).2 f 1 = _ from q1, bnd_some]
    rfl
  have hRr : f_Mod_scavenge r = B_Mod_scavenge_15 (rSLef (rSDar (rSThr r 0) 0) (-1)) := rfl
  rw [hC, hRr]
  have hR1 := RD_pow hR
  have I1 : IV B (dSChg (dSPow d 1) (-1)) := I.same rfl rfl
  have X1 : IX (dSChg (dSPow d 1) (-1)) := X.same rfl rfl
  generalize rSLef (rSDar (rSThr r 0) 0) (-1) = r1 at hR1
  generalize dSChg (dSPow d 1) (-1) = d1 at hR1 I1 X1
  unfold f_Scav_run
  have hE : ∀ i, i < 40 → ∀ k, k < 13 → dEarl (f_Disk_keepEarlier d1).2 (i * 13 + k) = dCells (f_Disk_keepEarlier d1).2 (i * 13 + k) := fun i hi k hk => by
    show va_cpy (dCells d1) (dEarl d1) 0 0 520 (i * 13 + k) = dCells d1 (i * 13 + k)
    exact sb_cpy0 (by omega)
  have hR2 : RD (f_Disk_keepEarlier d1).2 r1 := ⟨hR1.1, hR1.2⟩
  have I2 : IV B (f_Disk_keepEarlier d1).2 := I1.same rfl rfl
  have X2 : IX (f_Disk_keepEarlier d1).2 := X1.same rfl rfl
  generalize (f_Disk_keepEarlier d1).2 = d2 at hE hR2 I2 X2
  have hs0 : sLos (sSRea (sSAdo (sSMad (sSLos s 0) 0) 0) 0) = 0 ∧ sMad (sSRea (sSAdo (sSMad (sSLos s 0) 0) 0) 0) = 0 ∧ sAdo (sSRea (sSAdo (sSMad (sSLos s 0) 0) 0) 0) = 0 ∧ sRea (sSRea (sSAdo (sSMad (sSLos s 0) 0) 0) 0) = 0 := ⟨rfl, rfl, rfl, rfl⟩
  generalize sSRea (sSAdo (sSMad (sSLos s 0) 0) 0) 0 = s0 at hs0
  obtain ⟨d3, s3, r3, M3, a1, a2, a3, a4, a5, a6, a7, a8⟩ := R_begin1 (f := f1) (w := w) (m := m) hR2 I2 X2 hs0 hE
  obtain ⟨d4, s4, r4, M4, b1, b2, b3, b4, -, -, b7⟩ := R_heads (f := f1) (w := w) (m := m) hB a3
  obtain ⟨d5, s5, r5, M5, c1, c2, c3, c4, c5⟩ := R_mid (f := f1) (w := w) (m := m) hB b3 (HDp.heads b3 b7)
  have hKE := b4.trans c4
  have hW5 : ∀ i, i < 40 → ∀ k, k < 13 → dEarl d5 (i * 13 + k) = rWas r5 (wIx i k) := fun i hi k hk => by rw [hKE.2.1, hKE.2.2.2.1]; exact a8 i hi k hk
  have hU5 : ∀ i, i < 40 → ¬ dUnr d5 i = 0 → ∀ k, k < 13 → dCells d5 (i * 13 + k) = dEarl d5 (i * 13 + k) := fun i hi u k hk => by
    rw [hKE.1] at u
    have u2 : ¬ dUnr d2 i = 0 := by rw [← a4]; exact u
    rw [hKE.2.2.2.2 i hi u k hk, a6 i hi u2 k hk, hKE.2.1, a5, hE i hi k hk]
  obtain ⟨v, d6, s6, r6, e1, e2, e3, e4, e5, e6, e7, e8⟩ := R_fin (f := f1) (w := w) (m := m) c3 c5 hW5 hU5
  refine ⟨v, d6, f1, s6, r6, ?_, ?_, e4, fun t t1 t2 => ?_, e5, fun t t1 t2 => Or.inl (q2 t t1 t2), e6, e8⟩
  · unfold B_Scav_run_27
    rw [a1, bnd_some]
    unfold B_Scav_run_31
    rw [b1, bnd_some, show B_Scav_run_35 ((), (d4, s4)).2.1 f1 w m ((), (d4, s4)).2.2 = _ from c1, e1, bnd_some]
    unfold B_LV_scavenge_21 f_Scav_result
    rw [if_neg (by decide), if_neg (by decide), if_pos (by decide), bnd_some]
    unfold B_LV_scavenge_29
    show some (sRes s6 0, (d6, f1, s6)) = _
    rw [e2]
  · rw [a2, b2, bnd_some]
    exact c2.trans e3
  · rw [q2 t t1 t2, e7, hKE.2.2.1, a7 t t1 t2]
    decide
end SCV2
