/-! scavenging: which file is adopted next -/
section AD2
variable {d d' : DS} {r r' : RS} {f : FS} {w : WS} {m : MS} {s s' : SS} {g : GS} {B : Nat} {M : Nat → Nat}
theorem C_dirm1 : f_Disk_isDirectory d (-1) = (0, ()) := by
  have e : xCell d (-1) 0 = -1 := if_neg (fun z => absurd z.1 (by decide))
  unfold f_Disk_isDirectory B_Disk_isDirectory_31
  rw [e, if_neg (by decide), if_pos (by decide)]
theorem R_skip {r4 : RS → Int32 → Int32 → Int32 → Option (Int32 × Unit)} {x1 x2 x3 : Int32} : B_Mod_isNamed_48 r4 r x1 x2 x3 = r4 r x1 x2 (x3 + 1) := by
  unfold B_Mod_isNamed_48 B_Mod_isNamed_49
  rw [show (1000 : Nat) = 999 + 1 from rfl]
  unfold L_Mod_isNamed_54 B_Mod_isNamed_128
  rw [if_pos rfl]
theorem R_skip1 {r4 : RS → Int32 → Int32 → Int32 → Option (Int32 × Unit)} {x1 x3 x5 : Int32} {n : Nat} : L_Mod_isNamed_54 r4 (n + 1) r x1 1 x3 1 x5 = r4 r x1 1 (x3 + 1) := by
  unfold L_Mod_isNamed_54 B_Mod_isNamed_128
  rw [if_neg (by decide), if_pos (by decide)]
theorem R_hasE {r4 : RS → Int32 → Int32 → Int32 → Option (Int32 × Unit)} {xs y hh : Nat} {nm : Int32} (h : SF B d s r M) (hx1 : 1 ≤ xs) (hx : xs ≤ 60) (hy1 : 1 ≤ y) (hy : y ≤ 60) (hh4 : hh < 40) (e : xSearch d (nI xs) 0 = nI hh) (hn : f_Mod_nameAt r (nI (8 * hh)) = some (nm, ())) : ∀ j k, k + j = 78 → ∀ n1 n2, j < n1 → j + 1 < n2 → ∃ b : Int32, L_Scav_hasEntry_3 n1 d f w m s (nI y) (nI xs) nm (nI k) = some (b, ()) ∧ L_Mod_isNamed_54 r4 n2 r (nI xs) 0 (nI y) 1 (nI k) = r4 r (nI xs) b (nI y + 1) ∧ (b = 0 ∨ b = 1) := by
  intro j
  induction j with
  | zero =>
    intro k hk n1 n2 hn1 hn2
    obtain ⟨n1, rfl⟩ : ∃ n', n1 = n' + 1 := ⟨n1 - 1, by omega⟩
    obtain ⟨n2, rfl⟩ : ∃ n', n2 = n' + 1 := ⟨n2 - 1, by omega⟩
    obtain ⟨v, v1, v2, v3, v4⟩ := R_pl (f := f) (w := w) (m := m) h hy1 hy (show k ≤ 78 by omega)
    rcases v4 with rfl | ⟨i, i1, -, -, -, -, -, i2⟩
    · refine ⟨0, ?_, ?_, Or.inl rfl⟩
      · unfold L_Scav_hasEntry_3
        rw [if_neg (show ¬ (80 : Int32) ≤ nI k from nI_ge (a := k) (b := 80) (by omega) (by decide)), v1, if_neg (not_not_intro rfl)]
      · unfold L_Mod_isNamed_54
        rw [if_neg (by decide), if_neg (not_not_intro rfl), v2, bnd_some]
        unfold B_Mod_isNamed_70 B_Mod_isNamed_128
        rw [if_pos (by decide)]
    · omega
  | succ j ih =>
    intro k hk n1 n2 hn1 hn2
    obtain ⟨n1, rfl⟩ : ∃ n', n1 = n' + 1 := ⟨n1 - 1, by omega⟩
    obtain ⟨n2, rfl⟩ : ∃ n', n2 = n' + 1 := ⟨n2 - 1, by omega⟩
    obtain ⟨v, v1, v2, v3, v4⟩ := R_pl (f := f) (w := w) (m := m) h hy1 hy (show k ≤ 78 by omega)
    unfold L_Scav_hasEntry_3 L_Mod_isNamed_54
    rw [if_neg (show ¬ (80 : Int32) ≤ nI k from nI_ge (a := k) (b := 80) (by omega) (by decide)), v1, if_neg (show ¬ (1 : Int32) = 0 by decide), if_neg (show ¬ ¬ (0 : Int32) = 0 from not_not_intro rfl), v2, bnd_some]
    unfold B_Mod_isNamed_70
    rcases v4 with rfl | ⟨i, i1, i2, i3, i4, i5, rfl, i6⟩
    · exact ⟨0, by rw [if_neg (not_not_intro rfl)], by rw [if_pos (by decide)]; rfl, Or.inl rfl⟩
    · obtain ⟨b, a1, a2, hb, ha1, ha2, eb, ea1, ea2, c1, c2, c3, c4⟩ := X_ent (f := f) (w := w) (m := m) h i1 i2 (show k % 2 < 2 by omega)
      rw [if_pos (show ¬ nI (8 * i + 4 * (k % 2)) = -1 from nI_m1 (by omega)), if_neg (show ¬ nI (8 * i + 4 * (k % 2)) < 0 from nI_pos (by omega)), v2, bnd_some, c1, c3]
      unfold B_Mod_isNamed_80
      rw [show ((nI (8 * i + 4 * (k % 2)), ()).1 + 2 : Int32) = nI (8 * i + (4 * (k % 2) + 2)) from by show nI (8 * i + 4 * (k % 2)) + nI 2 = _; rw [nI_add, Nat.add_assoc], if_pos (inB_nI (show 8 * i + (4 * (k % 2) + 2) < 320 by omega) (by decide)), cl_nI (by omega), c2]
      have hnext : ∃ b : Int32, B_Scav_hasEntry_49 (L_Scav_hasEntry_3 n1) d f w m s (nI y) (nI xs) nm (nI k) = some (b, ()) ∧ B_Mod_isNamed_120 r4 (L_Mod_isNamed_54 r4 n2) r (nI xs) (nI y) 1 (nI k) = r4 r (nI xs) b (nI y + 1) ∧ (b = 0 ∨ b = 1) := by
        unfold B_Mod_isNamed_120 B_Mod_isNamed_121 B_Scav_hasEntry_49
        rw [nI_1]
        exact ih (k + 1) (by omega) n1 n2 (by omega) (by omega)
      by_cases bx : nI b = nI xs
      · rw [if_neg (not_not_intro bx), if_neg (not_not_intro (show (nI b, ()).1 = nI xs from bx)), show f_Mod_nameAt r (nI (8 * i + 4 * (k % 2)), ()).1 = _ from c4, bnd_some]
        unfold B_Mod_isNamed_101
        rw [R_headOf rfl (h.2.2.2.1.2 xs hx1 hx) hx, bnd_some]
        unfold B_Mod_isNamed_109
        rw [show f_Mod_nameAt r (8 * (xSearch d (nI xs) 0, ()).1) = some (nm, ()) from by show f_Mod_nameAt r (8 * xSearch d (nI xs) 0) = _; rw [e, by8]; exact hn, bnd_some]
        unfold B_Mod_isNamed_113
        by_cases en : nI (256 * a1 + a2) = nm
        · rw [if_neg (not_not_intro (show (nI (256 * a1 + a2), ()).1 = nm from en)), if_neg (not_not_intro (show (nI (256 * a1 + a2), ()).1 = (nm, ()).1 from en))]
          refine ⟨1, rfl, ?_, Or.inr rfl⟩
          unfold B_Mod_isNamed_121
          obtain ⟨n2, rfl⟩ : ∃ n', n2 = n' + 1 := ⟨n2 - 1, by omega⟩
          exact R_skip1
        · rw [if_pos (show ¬ (nI (256 * a1 + a2), ()).1 = nm from en), if_pos (show ¬ (nI (256 * a1 + a2), ()).1 = (nm, ()).1 from en)]
          exact hnext
      · rw [if_pos bx, if_pos (show ¬ (nI b, ()).1 = nI xs from bx)]
        exact hnext
/-- one serial of the searches for an entry: what both do with it -/
theorem R_reach (h : SF B d s r M) {y : Nat} (hy1 : 1 ≤ y) (hy : y ≤ 60) : (bt (sRea s) y = true ∧ ¬ rRea r y = 0) ∨ (bt (sRea s) y = false ∧ rRea r y = 0) := by
  have := h.2.2.2.2.2.2.2.2.2 y hy1 hy
  cases q : bt (sRea s) y
  · refine Or.inr ⟨rfl, ?_⟩
    apply Classical.byContradiction
    intro z
    rw [q] at this
    exact absurd (this.mpr z) (by decide)
  · exact Or.inl ⟨rfl, this.mp q⟩
theorem R_dirOf (h : SF B d s r M) {y : Nat} (hy1 : 1 ≤ y) (hy : y ≤ 60) : (xSearch d (nI y) 0 = -1) ∨ ∃ i b, i < 40 ∧ dUnr d i = 0 ∧ xSearch d (nI y) 0 = nI i ∧ f_Disk_isDirectory d (nI i) = (b, ()) ∧ f_Mod_isDirectory r (nI i) = some (b, ()) ∧ (b = 0 ∨ b = 1) := by
  rcases hd_cases (d := d) (nI y) 0 with e | ⟨i, i1, e⟩
  · exact Or.inl e
  · obtain ⟨j, j1, j2, j3, j4, j5⟩ := found (d := d) (s := nI y) (p := 0) (nI_m1 (by omega)) (by rw [e]; exact nI_m1 (by omega))
    obtain rfl : j = i := (nI_eq (by omega) (by omega)).mp (j2.symm.trans e)
    obtain ⟨b, b1, b2, b3⟩ := X_isDir h.1 i1 j3
    exact Or.inr ⟨j, b, i1, j3, e, b1, b2, b3⟩
theorem R_named1 {xs : Nat} (h : SF B d s r M) : ∀ j y, y + j = 61 → 3 ≤ y → ∀ n, j < n → L_Mod_isNamed_4 n r (nI xs) 1 (nI y) = some (1, ()) := by
  intro j
  induction j with
  | zero =>
    intro y hy hy3 n hn
    obtain ⟨n, rfl⟩ : ∃ n', n = n' + 1 := ⟨n - 1, by omega⟩
    unfold L_Mod_isNamed_4
    rw [if_pos (show (61 : Int32) ≤ nI y from nI_le (a := 61) (by omega) (by omega))]; rfl
  | succ j ih =>
    intro y hy hy3 n hn
    obtain ⟨n, rfl⟩ : ∃ n', n = n' + 1 := ⟨n - 1, by omega⟩
    have hnext := ih (y + 1) (by omega) (by omega) n (by omega)
    unfold L_Mod_isNamed_4
    rw [if_neg (show ¬ (61 : Int32) ≤ nI y from nI_ge (b := 61) (by omega) (by decide)), R_skip, nI_1, R_isThere h (by omega) (by omega), bnd_some, hnext]
    by_cases e : nI y = nI xs
    · rw [if_pos e]
    · rw [if_neg e]
      unfold B_Mod_isNamed_20
      rw [R_skip, nI_1, hnext]
      rcases R_dirOf h (show 1 ≤ y by omega) (by omega) with q | ⟨i, b, i1, i2, i3, i4, i5, i6⟩
      · rw [if_pos q, if_pos rfl]
      · rw [if_neg (show ¬ xSearch d (nI y) 0 = -1 by rw [i3]; exact nI_m1 (by omega)), if_neg (show ¬ ((1 : Int32), ()).1 = 0 from (by decide : ¬ (1 : Int32) = 0)), if_pos (inB_nI (show y < 61 by omega) (by decide)), cl_nI (by omega)]
        by_cases q : rRea r y = 0
        · rw [if_neg (not_not_intro q), R_headOf rfl (h.2.2.2.1.2 y (by omega) (by omega)) (by omega), bnd_some]
          unfold B_Mod_isNamed_38
          rw [show f_Mod_isDirectory r (xSearch d (nI y) 0, ()).1 = some (b, ()) from by show f_Mod_isDirectory r (xSearch d (nI y) 0) = _; rw [i3]; exact i5, bnd_some]
          unfold B_Mod_isNamed_41
          rw [R_skip, nI_1, hnext]
          rcases i6 with rfl | rfl
          · rw [if_pos rfl]
          · rw [if_neg (show ¬ ((1 : Int32), ()).1 = 0 from (by decide : ¬ (1 : Int32) = 0))]
            unfold B_Mod_isNamed_49
            rw [show (1000 : Nat) = 999 + 1 from rfl, R_skip1, nI_1, hnext]
        · rw [if_pos q]
theorem R_listed {xs hh : Nat} (h : SF B d s r M) (hx1 : 3 ≤ xs) (hx : xs ≤ 60) (hh4 : hh < 40) (hu : dUnr d hh = 0) (e : xSearch d (nI xs) 0 = nI hh) : ∃ b : Int32, f_Scav_isListed d f w m s (nI xs) = some (b, ()) ∧ f_Mod_isNamed r (nI xs) = some (b, ()) ∧ (b = 0 ∨ b = 1) := by
  unfold f_Scav_isListed f_Mod_isNamed
  obtain ⟨nm, n1, n2⟩ := X_name h.1 hh4 hu (show 0 < 7 by decide)
  rw [e, show f_Disk_nameAt d (nI hh) 0 = _ from n1]
  suffices hall : ∀ j y, y + j = 61 → 3 ≤ y → ∀ n1 n2, j < n1 → j < n2 → ∃ b : Int32, L_Scav_isListed_20 n1 d f w m s (nI xs) nm (nI y) = some (b, ()) ∧ L_Mod_isNamed_4 n2 r (nI xs) 0 (nI y) = some (b, ()) ∧ (b = 0 ∨ b = 1) from hall 58 3 (by omega) (by omega) 100 1000 (by omega) (by omega)
  intro j
  induction j with
  | zero =>
    intro y hy hy3 n1 n2 hn1 hn2
    obtain ⟨n1, rfl⟩ : ∃ n', n1 = n' + 1 := ⟨n1 - 1, by omega⟩
    obtain ⟨n2, rfl⟩ : ∃ n', n2 = n' + 1 := ⟨n2 - 1, by omega⟩
    refine ⟨0, ?_, ?_, Or.inl rfl⟩
    · unfold L_Scav_isListed_20
      rw [if_pos (show (60 : Int32) < nI y from nI_lt (a := 60) (by omega) (by omega))]
    · unfold L_Mod_isNamed_4
      rw [if_pos (show (61 : Int32) ≤ nI y from nI_le (a := 61) (by omega) (by omega))]; rfl
  | succ j ih =>
    intro y hy hy3 m1 m2 hn1 hn2
    obtain ⟨m1, rfl⟩ : ∃ n', m1 = n' + 1 := ⟨m1 - 1, by omega⟩
    obtain ⟨m2, rfl⟩ : ∃ n', m2 = n' + 1 := ⟨m2 - 1, by omega⟩
    have hnext := ih (y + 1) (by omega) (by omega) m1 m2 (by omega) (by omega)
    have eS : ∀ v, B_Scav_isListed_62 (L_Scav_isListed_20 m1) d f w m s (nI xs) v (nI y) = L_Scav_isListed_20 m1 d f w m s (nI xs) v (nI (y + 1)) := fun v => by
      unfold B_Scav_isListed_62 B_Scav_isListed_63 B_Scav_isListed_82
      rw [if_pos rfl, nI_1]
    unfold L_Scav_isListed_20 L_Mod_isNamed_4
    rw [if_neg (show ¬ (60 : Int32) < nI y from nI_nlt (a := 60) (by omega) (by omega)), if_neg (show ¬ (61 : Int32) ≤ nI y from nI_ge (b := 61) (by omega) (by decide)), R_skip, nI_1, eS, R_isThere h (by omega) (by omega), bnd_some]
    by_cases ey : nI y = nI xs
    · rw [if_pos ey, if_pos ey]
      exact hnext
    · rw [if_neg ey, if_neg ey, C_reached (by omega)]
      unfold B_Mod_isNamed_20
      rw [R_skip, nI_1]
      rcases R_reach h (show 1 ≤ y by omega) (by omega) with ⟨q1, q2⟩ | ⟨q1, q2⟩
      · rw [q1, if_pos (show ¬ ((if true = true then (1 : Int32) else 0), ()).1 = 0 from (by decide : ¬ (1 : Int32) = 0)), if_pos (inB_nI (show y < 61 by omega) (by decide)), cl_nI (by omega), if_pos q2]
        by_cases z : (if xSearch d (nI y) 0 = -1 then (0 : Int32) else 1, ()).1 = 0
        · rw [if_pos z]; exact hnext
        · rw [if_neg z]; exact hnext
      · rw [q1, if_neg (not_not_intro (show ((if false = true then (1 : Int32) else 0), ()).1 = 0 from rfl)), if_pos (inB_nI (show y < 61 by omega) (by decide)), cl_nI (by omega), if_neg (not_not_intro q2), R_headOf rfl (h.2.2.2.1.2 y (by omega) (by omega)) (by omega), bnd_some]
        unfold B_Mod_isNamed_38
        rcases R_dirOf h (show 1 ≤ y by omega) (by omega) with q | ⟨i, b, i1, i2, i3, i4, i5, i6⟩
        · rw [q, if_pos rfl, if_pos rfl, C_dirm1, if_pos rfl]
          exact hnext
        · rw [i3, if_neg (nI_m1 (by omega)), if_neg (show ¬ ((1 : Int32), ()).1 = 0 from (by decide : ¬ (1 : Int32) = 0)), i4, show f_Mod_isDirectory r (nI i, ()).1 = _ from i5, bnd_some]
          unfold B_Mod_isNamed_41
          rw [R_skip, nI_1]
          rcases i6 with rfl | rfl
          · rw [if_pos rfl, if_pos rfl]; exact hnext
          · rw [if_neg (show ¬ ((1 : Int32), ()).1 = 0 from (by decide : ¬ (1 : Int32) = 0)), if_neg (show ¬ ((1 : Int32), ()).1 = 0 from (by decide : ¬ (1 : Int32) = 0))]
            unfold B_Mod_isNamed_49 B_Scav_isListed_63 f_Scav_hasEntry
            obtain ⟨b, b1, b2, b3⟩ := R_hasE (r4 := L_Mod_isNamed_4 m2) (f := f) (w := w) (m := m) (nm := nm) (y := y) h (by omega) hx (by omega) (by omega) hh4 e n2 78 0 (by omega) 100 1000 (by omega) (by omega)
            rw [if_neg (by decide), show L_Scav_hasEntry_3 100 d f w m s (nI y) (nI xs) nm 0 = _ from b1, bnd_some, show L_Mod_isNamed_54 (L_Mod_isNamed_4 m2) 1000 r (nI xs) 0 (nI y) 1 0 = _ from b2, nI_1]
            unfold B_Scav_isListed_77 B_Scav_isListed_82
            rcases b3 with rfl | rfl
            · rw [if_pos rfl, nI_1]; exact hnext
            · rw [if_neg (show ¬ ((1 : Int32), ()).1 = 0 from (by decide : ¬ (1 : Int32) = 0))]
              exact ⟨1, rfl, R_named1 h j (y + 1) (by omega) (by omega) m2 (by omega), Or.inr rfl⟩
end AD2
