/-! scavenging, all of it -/
section SCV
variable {d d' d0 : DS} {r r' r0 : RS} {f : FS} {w : WS} {m : MS} {s s' : SS} {g : GS} {B : Nat} {M : Nat → Nat}
theorem C_forgetL : ∀ j t, t + j = 61 → 1 ≤ t → ∀ n, j < n → ∀ f, (∀ u, 1 ≤ u → u < t → fRem f u = -1) → ∃ f', L_Finder_forgetAll_2 n d f (nI t) = some ((), f') ∧ ∀ u, 1 ≤ u → u ≤ 60 → fRem f' u = -1 := by
  intro j
  induction j with
  | zero =>
    intro t ht ht1 n hn f h
    obtain ⟨n, rfl⟩ : ∃ n', n = n' + 1 := ⟨n - 1, by omega⟩
    refine ⟨f, ?_, fun u u1 u2 => h u u1 (by omega)⟩
    unfold L_Finder_forgetAll_2
    rw [if_pos (show (60 : Int32) < nI t from nI_lt (a := 60) (by omega) (by omega))]
  | succ j ih =>
    intro t ht ht1 n hn f h
    obtain ⟨n, rfl⟩ : ∃ n', n = n' + 1 := ⟨n - 1, by omega⟩
    obtain ⟨f', g1, g2⟩ := ih (t + 1) (by omega) (by omega) n (by omega) (fSRem f (upd (fRem f) t (-1))) (fun u u1 u2 => by
      show upd (fRem f) t (-1) u = -1
      by_cases e : u = t
      · rw [e, pk_us]
      · rw [pk_un e]; exact h u u1 (by omega))
    refine ⟨f', ?_, g2⟩
    unfold L_Finder_forgetAll_2 f_Finder_forget f_Finder_remember B_Finder_forget_6 B_Finder_forgetAll_13
    rw [if_neg (show ¬ (60 : Int32) < nI t from nI_nlt (a := 60) (by omega) (by decide)), if_neg (show ¬ nI t < 1 from nI_nlt (b := 1) (by omega) (by omega)), if_neg (show ¬ (60 : Int32) < nI t from nI_nlt (a := 60) (by omega) (by decide)), if_pos (inB_nI (show t < 61 by omega) (by decide)), bnd_some, bnd_some, cl_nI (by omega), nI_1]
    exact g1
/-- leaders made: then walk, adoption -/
theorem R_mid (hB : 40 ≤ B) (h : SF B d s r M) (hH : HDp d) : ∃ d' s' r' M', B_Scav_run_35 d f w m s = B_Scav_run_102 d' f w m s' ∧ B_Mod_scavenge_121 r = B_Mod_scavenge_138 r' ∧ SF B d' s' r' M' ∧ KE d r d' r' ∧ HDp d' := by
  unfold B_Scav_run_35 B_Mod_scavenge_121
  have hC1 : f_Scav_isThere d f w m s 1 = (if xSearch d (nI 1) 0 = -1 then 0 else 1, ()) := C_isThere (sn := 1) (by decide) (by decide)
  have hR1 : f_Mod_isThere r 1 = some (if xSearch d (nI 1) 0 = -1 then 0 else 1, ()) := R_isThere (sn := 1) h (by decide) (by decide)
  rw [hC1, hR1, bnd_some]
  unfold B_Mod_scavenge_126
  by_cases hno : xSearch d (nI 1) 0 = -1
  · rw [if_pos hno, if_pos rfl, if_pos rfl]
    refine ⟨d, s, r, M, ?_, rfl, h, KE.refl d r, hH⟩
    unfold B_Scav_run_49 B_Scav_run_65
    rw [hC1, if_pos hno, if_pos rfl, show (100 : Nat) = 99 + 1 from rfl]
    unfold L_Scav_run_68
    rw [if_neg (by decide), if_pos rfl]
  · rw [if_neg hno, if_neg (show ¬ ((1 : Int32), ()).1 = 0 from (by decide : ¬ (1 : Int32) = 0)), if_neg (show ¬ ((1 : Int32), ()).1 = 0 from (by decide : ¬ (1 : Int32) = 0))]
    obtain ⟨d1, s1, r1, w1, w2, w3, K, w4, w5⟩ := R_walk (f := f) (w := w) (m := m) h (PTH.root hno)
    obtain ⟨a1, a2, a3, a4, a5, a6, a7, a8⟩ := w3
    have hRO : RO d1 := RO.of h a2 w4 w5
    have hr1 : ¬ xSearch d1 (nI 1) 0 = -1 := by rw [a2.search (by decide)]; exact hno
    rw [show F_Scav_walk 100 d f w m s 1 0 = _ from w1, bnd_some, show f_Mod_walk r 1 = _ from w2, bnd_some]
    unfold B_Mod_scavenge_134 f_Mod_adopt
    have hnx : ∃ x2, f_Scav_nextToAdopt d1 f w m s1 = some (x2, ()) := by
      rcases R_orphan (f := f) (w := w) (m := m) a1 with ⟨z1, -⟩ | ⟨x2, -, -, -, z1, -⟩
      · exact ⟨_, z1⟩
      · exact ⟨_, z1⟩
    obtain ⟨x2, hx2⟩ := hnx
    obtain ⟨d', s', r', M', g1, g2, g3, g4, g5⟩ := R_adoptL (f := f) (w := w) (m := m) hB 58 d1 s1 r1 M 0 100 1000 x2 (ur_le s1) (by omega) (by omega) (by omega) a1 hRO hr1 hx2
    have hC2 : f_Scav_isThere d1 f w m s1 1 = (if xSearch d1 (nI 1) 0 = -1 then 0 else 1, ()) := C_isThere (sn := 1) (by decide) (by decide)
    refine ⟨d', s', r', M', ?_, ?_, g3, KE.trans ⟨a2.2.1, a2.2.2.1, a6, a7, a2.2.2.2⟩ g4, g5 (hH.lab a2)⟩
    · unfold B_Scav_run_49
      rw [hC2, if_neg hr1, if_neg (show ¬ ((1 : Int32), ()).1 = 0 from (by decide : ¬ (1 : Int32) = 0)), hx2, bnd_some]
      unfold B_Scav_run_61 B_Scav_run_65
      exact g1
    · rw [show L_Mod_adopt_4 1000 r1 1 0 = _ from g2, bnd_some]
/-- links, map, counts -/
theorem R_fin (h : SF B d s r M) (hH : HDp d) (hW : ∀ i, i < 40 → ∀ k, k < 13 → dEarl d (i * 13 + k) = rWas r (wIx i k)) (hU : ∀ i, i < 40 → ¬ dUnr d i = 0 → ∀ k, k < 13 → dCells d (i * 13 + k) = dEarl d (i * 13 + k)) : ∃ v d' s' r', B_Scav_run_102 d f w m s = some ((), (d', s')) ∧ sRes s' 0 = v ∧ B_Mod_scavenge_138 r = some (v, r') ∧ RD d' r' ∧ IV B d' ∧ IX d' ∧ rKep r' = rKep r ∧ ∀ k, k < 5 → sRes s' k = rRep r' k := by
  obtain ⟨d1, r1, c1, c2, c3, c4, c5, c6, c7, c8, c9, c10, c11⟩ := R_right (f := f) (w := w) (m := m) h hH
  obtain ⟨v1, v2, v3, v4, v5, -⟩ := h.2.2.2.2
  have hu : dUnr d1 = dUnr d := congrArg (·.2.1) c6
  have he : dEarl d1 = dEarl d := congrArg (·.1) c6
  obtain ⟨c, T, e1, e2, e3, e4⟩ := R_chgL (d := d1) (r := r1) c3 (fun i hi k hk => by rw [he, rT_was c7]; exact hW i hi k hk) (fun i hi u k hk => by rw [he, c10 i hi (by rw [← hu]; exact u) k hk]; exact hU i hi (by rw [← hu]; exact u) k hk) 40 0 (by omega) 100 1000 (by omega) (by omega) 0 (rRep r1) (by rw [c9 4 (by decide), v5]; rfl)
  rw [S_Rep_id] at e2
  unfold B_Scav_run_102 B_Mod_scavenge_138
  rw [c1, bnd_some, c2, bnd_some]
  unfold B_Scav_run_106 B_Mod_scavenge_142
  rw [show f_Scav_countFiles ((), d1).2 f w m s = _ from c11, bnd_some]
  unfold B_Scav_run_115
  rw [if_pos (by decide), if_pos (by decide), if_pos (by decide), if_pos (by decide)]
  have hcc : f_Disk_countChanged ((), d1).2 = some (nI c, dSWri d1 (dWri d1 + nI c)) := e1
  rw [hcc, bnd_some]
  unfold B_Scav_run_158
  rw [if_pos (by decide)]
  have hwri : dWri d1 = rWri r1 := c3.2.2.2.1
  refine ⟨nI (thN d 60), _, _, rSWri (rSRep r1 T) (rWri r1 + nI c), rfl, rfl, ?_, ?_, c4.same rfl rfl, c5.same rfl rfl, ?_, ?_⟩
  · show L_Mod_scavenge_144 1000 r1 (nI 0) = _
    rw [e2, c8]
  · have h2 := c3.repS T
    refine ⟨h2.1, h2.2.1, h2.2.2.1, ?_, h2.2.2.2.2⟩
    show dWri d1 + nI c = rWri r1 + nI c
    rw [hwri]
  · show rKep (rSRep r1 T) = rKep r
    rw [Kep_Rep, rT_kep c7]
  · intro k hk
    show _ = rRep (rSRep r1 T) k
    rw [Rep_Rep]
    rcases (show k = 0 ∨ k = 1 ∨ k = 2 ∨ k = 3 ∨ k = 4 by omega) with rfl | rfl | rfl | rfl | rfl
    · rw [e4 0 (by decide), c8]; rfl
    · rw [e4 1 (by decide), c9 1 (by decide), ← v1]; rfl
    · rw [e4 2 (by decide), c9 2 (by decide), ← v2]; rfl
    · rw [e4 3 (by decide), c9 3 (by decide), ← v3]; rfl
    · rw [e3]; rfl
end SCV
