/-! scavenging: a place in the root, all of it; a file adopted -/
section AD6
variable {d d' : DS} {r r' : RS} {f : FS} {w : WS} {m : MS} {s s' : SS} {g : GS} {B : Nat} {M : Nat → Nat}
theorem RMp.here {i t : Nat} (h : SF B d s r M) (hO : RO d) (hi : i < 40) (ht : t < 2) (hu : dUnr d i = 0) (h0 : dCells d (i * 13) = nI 1) (h1 : ¬ dCells d (i * 13 + 1) = 0) (h2 : t < en d i) : RMp B d s r d r M i t :=
  ⟨h, hi, ht, hu, h0, h1, h2, fun j t' hj uj c0 c1 ht' _ => hO j hj uj c0 c1 t' ht', KE.refl d r, rfl, fun _ _ _ => rfl, fun _ _ _ _ _ => rfl⟩
theorem R_roomE (hB : 40 ≤ B) (h : SF B d s r M) (hO : RO d) (hr : ¬ xSearch d (nI 1) 0 = -1) (r2 : RS → Int32 → Option (Int32 × RS)) (x1 : Int32) :
    (B_Scav_placeInRoot_41 d f w m s = some (-1, d) ∧ B_Mod_room_8 r2 r x1 (-1) = some (-1, r)) ∨ ∃ i t d' r' M', B_Scav_placeInRoot_41 d f w m s = some (nI (8 * i + 4 * t), d') ∧ B_Mod_room_8 r2 r x1 (-1) = some (nI (8 * i + 4 * t), r') ∧ RMp B d s r d' r' M' i t := by
  obtain ⟨z, z1, z2, z3, z4, z5, z6⟩ := C_lastK (f := f) (w := w) (m := m) h hr
  have hF := h.2.2.2.1.2 1 (by decide) (by decide)
  have hM := hF.1
  have hC41 : B_Scav_placeInRoot_41 d f w m s = B_Scav_placeInRoot_46 d f w m s (nI z) := by
    unfold B_Scav_placeInRoot_41
    rw [z2, bnd_some]
  have hm1 : rMan r (1 : Int32).toNatClampNeg = nI (M 1) := hF.2.2.1
  have hnew : (f_Disk_takesEntryBehind d (nI z)).1 = 0 → B_Mod_room_8 r2 r x1 (-1) = B_Mod_room_94 r → (1 ≤ M 1 → dCells d (z * 13 + 2) = 8) → (B_Scav_placeInRoot_41 d f w m s = some (-1, d) ∧ B_Mod_room_8 r2 r x1 (-1) = some (-1, r)) ∨ ∃ i t d' r' M', B_Scav_placeInRoot_41 d f w m s = some (nI (8 * i + 4 * t), d') ∧ B_Mod_room_8 r2 r x1 (-1) = some (nI (8 * i + 4 * t), r') ∧ RMp B d s r d' r' M' i t := fun hT h8 h2 => by
    rw [hC41, h8]
    unfold B_Scav_placeInRoot_46
    rw [if_pos hT]
    rcases R_roomX hB h hO hr z1 z3 z4 z5 z6 h2 with ⟨e1, e2⟩ | ⟨x, d', r', x1, e1, e2, e3, e4⟩
    · exact Or.inl ⟨by rw [if_neg (not_not_intro e1)], e2⟩
    · refine Or.inr ⟨x, 0, d', r', _, ?_, e3, e4⟩
      rw [e1, if_pos (nI_m1 (by omega)), e2]
      unfold B_Scav_placeInRoot_101
      rw [Int32.mul_comm, by8]
      rfl
  have hTk : f_Disk_takesEntryBehind d (nI z) = if nI (M 1) ≤ 0 then (0, ()) else if (4 : Int32) < dCells d (z * 13 + 2) then (0, ()) else (1, ()) := by
    unfold f_Disk_takesEntryBehind B_Disk_takesEntryBehind_23
    rw [xc1 z1 z4, xc2 z1 z4, z6]
  by_cases hM0 : M 1 = 0
  · refine hnew ?_ ?_ (fun q => absurd q (by omega))
    · rw [hTk, hM0, if_pos (show nI 0 ≤ 0 by decide)]
    · unfold B_Mod_room_8
      rw [if_pos (show (-1 : Int32) < 0 by decide), if_pos (show inB 1 61 by decide), hm1, hM0, if_pos (show nI 0 ≤ 0 by decide)]
      unfold B_Mod_room_64
      rw [if_pos (show (-1 : Int32) < 0 by decide)]
  · rw [if_neg (show ¬ nI (M 1) ≤ 0 from nI_nle (by omega) (by omega))] at hTk
    have epg : f_Mod_pageAt r 1 (nI (M 1)) = some (nI z, ()) := by
      have t1 := (hF.2.2.2.2.1 (M 1) (by omega) (Nat.le_refl _)).1
      unfold f_Mod_pageAt
      rw [show (40 * (1 : Int32) + nI (M 1)) = nI (40 * 1 + M 1) from ix40, if_pos (inB_nI (show 40 * 1 + M 1 < 2440 by omega) (by decide)), cl_nI (by omega), t1, z3, Int32.add_sub_cancel]
    have h8 : B_Mod_room_8 r2 r x1 (-1) = B_Mod_room_64 r (nI z) := by
      unfold B_Mod_room_8
      rw [if_pos (show (-1 : Int32) < 0 by decide), if_pos (show inB 1 61 by decide), hm1, if_neg (show ¬ nI (M 1) ≤ 0 from nI_nle (by omega) (by omega)), if_pos (show inB 1 61 by decide), epg, bnd_some]
      rfl
    have h1 : ¬ dCells d (z * 13 + 1) = 0 := by rw [z6]; exact nI_ne0 (by omega) (by omega)
    have h64 : B_Mod_room_64 r (nI z) = if (4 : Int32) < dCells d (z * 13 + 2) then B_Mod_room_94 r else B_Mod_room_87 (rSUse r (upd (rUse r) z 8)) (nI z) := by
      unfold B_Mod_room_64
      rw [if_neg (show ¬ nI z < 0 from nI_pos (by omega)), if_pos (inB_nI z1 (by decide)), if_pos (inB_nI z1 (by decide)), cl_nI (by omega), ← h.1.use z1]
    rcases h.2.2.1.2.2 z z1 z5 h1 with q | q
    · rw [q, if_neg (show ¬ (4 : Int32) < 4 by decide)] at hTk h64
      refine Or.inr ⟨z, 1, dSet d z 2 8, rSet r z 2 8, M, ?_, ?_, R_room8 h hO z1 z4 z5 h1 q⟩
      · rw [hC41]
        unfold B_Scav_placeInRoot_46 B_Scav_placeInRoot_69
        rw [hTk, if_neg (show ¬ ((1 : Int32), ()).1 = 0 from (by decide : ¬ (1 : Int32) = 0)), show xSetCell d (nI z) 2 8 = dSet d z 2 8 from C_set (k := 2) z1 (by decide) z4 _]
        show some (nI z * 8 + nI 4, _) = _
        rw [Int32.mul_comm, by8, nI_add]
      · rw [h8, h64]
        unfold B_Mod_room_87
        show some (8 * nI z + nI 4, _) = _
        rw [by8, nI_add]
        rfl
    · rw [q, if_pos (show (4 : Int32) < 8 by decide)] at hTk h64
      exact hnew (by rw [hTk]) (h8.trans h64) (fun _ => q)
theorem R_room (hB : 40 ≤ B) (h : SF B d s r M) (hO : RO d) (hr : ¬ xSearch d (nI 1) 0 = -1) : (f_Scav_placeInRoot d f w m s = some (-1, d) ∧ f_Mod_room r = some (-1, r)) ∨ ∃ i t d' r' M', f_Scav_placeInRoot d f w m s = some (nI (8 * i + 4 * t), d') ∧ f_Mod_room r = some (nI (8 * i + 4 * t), r') ∧ RMp B d s r d' r' M' i t := by
  unfold f_Scav_placeInRoot f_Mod_room
  suffices hall : ∀ j k, k + j = 78 → ∀ n1 n2, j < n1 → j < n2 → (L_Scav_placeInRoot_2 n1 d f w m s (nI k) = some (-1, d) ∧ L_Mod_room_2 n2 r (nI k) = some (-1, r)) ∨ ∃ i t d' r' M', L_Scav_placeInRoot_2 n1 d f w m s (nI k) = some (nI (8 * i + 4 * t), d') ∧ L_Mod_room_2 n2 r (nI k) = some (nI (8 * i + 4 * t), r') ∧ RMp B d s r d' r' M' i t from hall 78 0 (by omega) 100 1000 (by omega) (by omega)
  intro j
  induction j with
  | zero =>
    intro k hk n1 n2 hn1 hn2
    obtain ⟨n1, rfl⟩ : ∃ n', n1 = n' + 1 := ⟨n1 - 1, by omega⟩
    obtain ⟨n2, rfl⟩ : ∃ n', n2 = n' + 1 := ⟨n2 - 1, by omega⟩
    obtain ⟨v, v1, v2, v3, v4⟩ := R_pl (f := f) (w := w) (m := m) h (show 1 ≤ 1 by decide) (by decide) (show k ≤ 78 by omega)
    rcases v4 with rfl | ⟨i, i1, -, -, -, -, -, i2⟩
    · unfold L_Scav_placeInRoot_2 L_Mod_room_2
      rw [if_neg (show ¬ (80 : Int32) ≤ nI k from nI_ge (a := k) (b := 80) (by omega) (by decide)), show f_Scav_entryPlace d f w m s 1 (nI k) = _ from v1, if_pos rfl, show f_Mod_place r 1 (nI k) = _ from v2, bnd_some]
      exact R_roomE hB h hO hr _ _
    · omega
  | succ j ih =>
    intro k hk n1 n2 hn1 hn2
    obtain ⟨n1, rfl⟩ : ∃ n', n1 = n' + 1 := ⟨n1 - 1, by omega⟩
    obtain ⟨n2, rfl⟩ : ∃ n', n2 = n' + 1 := ⟨n2 - 1, by omega⟩
    obtain ⟨v, v1, v2, v3, v4⟩ := R_pl (f := f) (w := w) (m := m) h (show 1 ≤ 1 by decide) (by decide) (show k ≤ 78 by omega)
    unfold L_Scav_placeInRoot_2 L_Mod_room_2
    rw [if_neg (show ¬ (80 : Int32) ≤ nI k from nI_ge (a := k) (b := 80) (by omega) (by decide)), show f_Scav_entryPlace d f w m s 1 (nI k) = _ from v1, show f_Mod_place r 1 (nI k) = _ from v2, bnd_some]
    rcases v4 with rfl | ⟨i, i1, i2, i3, i4, i5, rfl, i6⟩
    · rw [if_pos rfl]
      exact R_roomE hB h hO hr _ _
    · obtain ⟨b, a1, a2, hb, ha1, ha2, eb, ea1, ea2, c1, c2, c3, c4⟩ := X_ent (f := f) (w := w) (m := m) h i1 i2 (show k % 2 < 2 by omega)
      rw [if_neg (show ¬ (nI (8 * i + 4 * (k % 2)), ()).1 = -1 from nI_m1 (by omega)), c1]
      unfold B_Mod_room_8
      rw [if_neg (show ¬ (nI (8 * i + 4 * (k % 2)), ()).1 < 0 from nI_pos (by omega)), show f_Mod_place r 1 (nI k) = _ from v2, bnd_some]
      unfold B_Mod_room_21
      rw [show ((nI (8 * i + 4 * (k % 2)), ()).1 + 2 : Int32) = nI (8 * i + (4 * (k % 2) + 2)) from by show nI (8 * i + 4 * (k % 2)) + nI 2 = _; rw [nI_add, Nat.add_assoc], if_pos (inB_nI (show 8 * i + (4 * (k % 2) + 2) < 320 by omega) (by decide)), cl_nI (by omega), c2]
      by_cases b0 : nI b = 0
      · rw [if_neg (not_not_intro b0), if_neg (not_not_intro (show (nI b, ()).1 = 0 from b0)), show f_Mod_place r 1 (nI k) = _ from v2, bnd_some]
        exact Or.inr ⟨i, k % 2, d, r, M, rfl, rfl, RMp.here h hO i1 (by omega) i2 i3 (by rw [i4]; exact nI_ne0 (by omega) (by omega)) i5⟩
      · rw [if_pos b0, if_pos (show ¬ (nI b, ()).1 = 0 from b0), nI_1]
        exact ih (k + 1) (by omega) n1 n2 (by omega) (by omega)
end AD6
