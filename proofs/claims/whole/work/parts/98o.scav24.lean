/-! scavenging: adoption, all of it -/
section AD8
variable {d d' : DS} {r r' : RS} {f : FS} {w : WS} {m : MS} {s s' : SS} {g : GS} {B : Nat} {M : Nat → Nat}
theorem X_nm {i : Nat} (h : SF B d s r M) (hi : i < 40) (hu : dUnr d i = 0) : ∃ n, n < 65536 ∧ dCells d (i * 13 + 5) = nI (n / 256) ∧ dCells d (i * 13 + 6) = nI (n % 256) ∧ f_Disk_nameAt d (nI i) 0 = (nI n, ()) ∧ f_Mod_nameAt r (nI (8 * i)) = some (nI n, ()) := by
  obtain ⟨a1, ha1, ea1⟩ := h.2.1.byt hi (show 0 < 8 by decide)
  obtain ⟨a2, ha2, ea2⟩ := h.2.1.byt hi (show 1 < 8 by decide)
  obtain ⟨na, na1, na2⟩ := X_name h.1 hi hu (show 0 < 7 by decide)
  have en : na = nI (256 * a1 + a2) := by
    have e := congrArg (fun z => z.1) na1
    have e' : (xCell d (nI i) (5 + nI 0)) * 256 + xCell d (nI i) (5 + nI 1) = na := e
    rw [xcb hi (by omega) hu, xcb hi (by omega) hu, ea1, ea2, show (256 : Int32) = nI 256 from rfl, pk_mul, nI_add, Nat.mul_comm] at e'
    exact e'.symm
  subst en
  refine ⟨256 * a1 + a2, by omega, ?_, ?_, na1, na2⟩
  · rw [show (256 * a1 + a2) / 256 = a1 by omega]; exact ea1
  · rw [show (256 * a1 + a2) % 256 = a2 by omega]; exact ea2
theorem R_adopt1 {x : Nat} (hB : 40 ≤ B) (h : SF B d s r M) (hO : RO d) (hr : ¬ xSearch d (nI 1) 0 = -1) (x3 : 3 ≤ x) (x6 : x ≤ 60) (hx : uB d s x = true) : (f_Scav_adopt d f w m s (nI x) = some (0, (d, s)) ∧ ∀ L x2, B_Mod_adopt_18 L r x2 (nI x) = L r 0 (x2 + 1)) ∨ ∃ d' s' r' M', f_Scav_adopt d f w m s (nI x) = some (1, (d', s')) ∧ (∀ L x2, B_Mod_adopt_18 L r x2 (nI x) = L r' 1 (x2 + 1)) ∧ ADp B d s r d' s' r' M' := by
  have hx' : ¬ xSearch d (nI x) 0 = -1 ∧ bt (sRea s) x = false := by
    unfold uB at hx
    have := Bool.and_eq_true_iff.mp hx
    refine ⟨of_decide_eq_true this.1, ?_⟩
    cases q : bt (sRea s) x
    · rfl
    · rw [q] at this; exact absurd this.2 (by decide)
  obtain ⟨y, y1, y2, y3, y4, y5⟩ := found (d := d) (s := nI x) (p := 0) (nI_m1 (by omega)) hx'.1
  obtain ⟨n, hn, e5, e6, c1, c2⟩ := X_nm h y1 y3
  have hF := h.2.2.2.1.2 x (by omega) x6
  -- the name may stay, or not
  have hfl : ∃ F : Int32, (F = 0 ∨ F = 1) ∧ f_Scav_adopt d f w m s (nI x) = B_Scav_adopt_45 d f w m s (nI x) (nI y) F ∧ ∀ L x2, B_Mod_adopt_18 L r x2 (nI x) = B_Mod_adopt_71 L r x2 (nI x) (nI n) F := by
    have hR18 : ∀ L x2, B_Mod_adopt_18 L r x2 (nI x) = B_Mod_adopt_39 L r x2 (nI x) (nI n) := fun L x2 => by
      unfold B_Mod_adopt_18
      rw [if_neg (show ¬ nI x ≤ 0 from nI_nle (by omega) (by omega)), R_headOf rfl hF x6, bnd_some, y2]
      unfold B_Mod_adopt_31
      rw [show f_Mod_nameAt r (8 * (nI y, ()).1) = some (nI n, ()) from by show f_Mod_nameAt r (8 * nI y) = _; rw [by8]; exact c2, bnd_some]
      rfl
    have nx0 : ¬ nI x ≤ 0 := nI_nle (by omega) (by omega)
    by_cases n1 : n < 1
    · refine ⟨0, Or.inl rfl, ?_, fun L x2 => ?_⟩
      · unfold f_Scav_adopt
        rw [y2, c1, if_pos (show (nI n, ()).1 < 1 from nI_lt (b := 1) n1 (by decide))]
        rfl
      · rw [hR18]
        unfold B_Mod_adopt_39
        rw [if_neg nx0, if_pos ((inab (nI n) 1 9999).mpr (Or.inl (show nI n < 1 from nI_lt (b := 1) n1 (by decide))))]
        rfl
    · have m1 : ¬ (nI n, ()).1 < 1 := nI_nlt (b := 1) (by omega) (by omega)
      by_cases n9 : 9999 < n
      · have m9 : (9999 : Int32) < nI n := nI_lt (a := 9999) n9 (by omega)
        refine ⟨0, Or.inl rfl, ?_, fun L x2 => ?_⟩
        · unfold f_Scav_adopt
          rw [y2, c1, if_neg m1, if_pos (show (9999 : Int32) < (nI n, ()).1 from m9)]
          rfl
        · rw [hR18]
          unfold B_Mod_adopt_39
          rw [if_neg nx0, if_pos ((inab (nI n) 1 9999).mpr (Or.inr m9))]
          rfl
      · have m9 : ¬ (9999 : Int32) < nI n := nI_nlt (a := 9999) (by omega) (by decide)
        obtain ⟨b, b1, b2, b3⟩ := R_rootHas (f := f) (w := w) (m := m) h hO (show 1 ≤ n by omega) hn
        have hC : f_Scav_adopt d f w m s (nI x) = B_Scav_adopt_37 d f w m s (nI x) (nI y) b := by
          unfold f_Scav_adopt
          rw [y2, c1, if_neg m1, if_neg (show ¬ (9999 : Int32) < (nI n, ()).1 from m9), show f_Scav_rootHasName d f w m s (nI n, ()).1 = _ from b1, bnd_some]
        have hR39 : ∀ L x2, B_Mod_adopt_18 L r x2 (nI x) = B_Mod_adopt_63 L r x2 (nI x) (nI n) b := fun L x2 => by
          rw [hR18]
          unfold B_Mod_adopt_39
          rw [if_neg nx0, if_neg (fun z => ((inab (nI n) 1 9999).mp z).elim m1 m9), b2, bnd_some]
        rcases b3 with rfl | rfl
        · refine ⟨1, Or.inr rfl, ?_, fun L x2 => ?_⟩
          · rw [hC]; unfold B_Scav_adopt_37; rw [if_neg (not_not_intro rfl)]
          · rw [hR39]; unfold B_Mod_adopt_63; rw [if_neg (not_not_intro rfl)]
        · refine ⟨0, Or.inl rfl, ?_, fun L x2 => ?_⟩
          · rw [hC]; unfold B_Scav_adopt_37; rw [if_pos (by decide)]; rfl
          · rw [hR39]; unfold B_Mod_adopt_63; rw [if_pos (by decide)]; rfl
  obtain ⟨F, hF01, hC, hR⟩ := hfl
  rw [hC]
  unfold B_Scav_adopt_45
  have hR71 : ∀ L x2, B_Mod_adopt_18 L r x2 (nI x) = bnd (f_Mod_room r) (fun q => B_Mod_adopt_81 L q.2 x2 (nI x) (nI n) F q.1) := fun L x2 => by
    rw [hR]
    unfold B_Mod_adopt_71
    rw [if_neg (show ¬ nI x ≤ 0 from nI_nle (by omega) (by omega))]
  rcases R_room (f := f) (w := w) (m := m) hB h hO hr with ⟨q1, q2⟩ | ⟨i, t, d1, r1, M1, q1, q2, q3⟩
  · refine Or.inl ⟨?_, fun L x2 => ?_⟩
    · rw [q1, bnd_some]
      unfold B_Scav_adopt_51
      rw [if_neg (not_not_intro rfl)]
    · rw [hR71, q2, bnd_some]
      unfold B_Mod_adopt_81 B_Mod_adopt_85 B_Mod_adopt_97 B_Mod_adopt_211
      rw [if_pos (show ((-1 : Int32), r).1 < 0 from (by decide : (-1 : Int32) < 0)), if_pos rfl]
  · right
    have i1 := q3.2.1
    have i2 := q3.2.2.1
    have hne : y ≠ i := fun z => by
      have e4 := q3.2.2.2.2.1
      obtain ⟨y', z1, z2, z3, z4, -⟩ := found (d := d1) (s := nI x) (p := 0) (nI_m1 (by omega)) (by rw [q3.2.2.2.2.2.2.2.2.2.2.1 x (by omega) x6]; exact hx'.1)
      rw [q3.2.2.2.2.2.2.2.2.2.2.1 x (by omega) x6, y2] at z2
      obtain rfl : y = y' := (nI_eq (by omega) (by omega)).mp z2
      rw [← z, z4] at e4
      have := (nI_eq (a := x) (b := 1) (by omega) (by decide)).mp e4
      omega
    have hrow := q3.2.2.2.2.2.2.2.2.2.2.2 y y1 hne
    have hu1 : dUnr d1 y = 0 := by rw [q3.2.2.2.2.2.2.2.2.1.1]; exact y3
    rw [q1, bnd_some]
    unfold B_Scav_adopt_51
    rw [if_pos (show ¬ (nI (8 * i + 4 * t), d1).1 = -1 from nI_m1 (by omega))]
    have hR97 : ∀ L x2, B_Mod_adopt_18 L r x2 (nI x) = B_Mod_adopt_97 L r1 x2 (nI x) (nI n) F (nI (8 * i + 4 * t)) 1 := fun L x2 => by
      rw [hR71, q2, bnd_some]
      unfold B_Mod_adopt_81 B_Mod_adopt_85
      rw [if_neg (show ¬ (nI (8 * i + 4 * t), r1).1 < 0 from nI_pos (by omega))]
    rcases hF01 with rfl | rfl
    · obtain ⟨d', s', r', M', g1, g2, g3⟩ := R_ad117 (f := f) (w := w) (m := m) (n := 10000 + x) q3 hr x3 x6 y1 y2 hx'.2 (by omega)
      refine ⟨d', s', r', M', ?_, fun L x2 => ?_, g3⟩
      · rw [if_neg (not_not_intro rfl), show (10000 + nI x : Int32) = nI (10000 + x) from by rw [show (10000 : Int32) = nI 10000 from rfl, nI_add]]
        show B_Scav_adopt_80 (f_Disk_setName d1 (nI y) 0 (nI (10000 + x))).2 f w m s (nI x) (nI y) (nI (8 * i + 4 * t)) = _
        rw [C_setNm y1 hu1 (by omega)]
        exact g1
      · rw [hR97]
        unfold B_Mod_adopt_97
        rw [if_neg (show ¬ (1 : Int32) = 0 by decide), if_pos rfl, show (10000 + nI x : Int32) = nI (10000 + x) from by rw [show (10000 : Int32) = nI 10000 from rfl, nI_add]]
        exact g2 L x2
    · obtain ⟨d', s', r', M', g1, g2, g3⟩ := R_ad117 (f := f) (w := w) (m := m) (n := n) q3 hr x3 x6 y1 y2 hx'.2 hn
      refine ⟨d', s', r', M', ?_, fun L x2 => ?_, g3⟩
      · rw [if_pos (by decide)]
        have hself : dNm d1 y (nI (n / 256)) (nI (n % 256)) = d1 := by
          unfold dNm
          rw [← e5, ← e6, ← hrow 5 (by decide), ← hrow 6 (by decide), dSet_self, dSet_self]
        rw [hself] at g1
        exact g1
      · rw [hR97]
        unfold B_Mod_adopt_97
        rw [if_neg (show ¬ (1 : Int32) = 0 by decide), if_neg (show ¬ (1 : Int32) = 0 by decide)]
        exact g2 L x2
/-- both loops of adoption -/
theorem R_adoptL (hB : 40 ≤ B) : ∀ u d s r M (k : Nat) n1 n2 (x1 : Int32), ur s ≤ u → k + u ≤ 58 → u + 2 ≤ n1 → u + 2 ≤ n2 → SF B d s r M → RO d → ¬ xSearch d (nI 1) 0 = -1 → f_Scav_nextToAdopt d f w m s = some (x1, ()) → ∃ d' s' r' M', L_Scav_run_68 n1 d f w m s x1 (nI k) = B_Scav_run_102 d' f w m s' ∧ L_Mod_adopt_4 n2 r 1 (nI k) = some ((), r') ∧ SF B d' s' r' M' ∧ KE d r d' r' ∧ (HDp d → HDp d') := by
  intro u
  induction u with
  | zero =>
    intro d s r M k n1 n2 x1 hu hk hn1 hn2 h hO hr hx
    obtain ⟨n1, rfl⟩ : ∃ n', n1 = n' + 1 := ⟨n1 - 1, by omega⟩
    obtain ⟨n2, rfl⟩ : ∃ n', n2 = n' + 1 + 1 := ⟨n2 - 2, by omega⟩
    rcases R_orphan (f := f) (w := w) (m := m) h with ⟨e1, e2⟩ | ⟨x, x3, x6, xu, -⟩
    · rw [e1] at hx
      obtain rfl : x1 = -1 := (congrArg (fun z => z.1) (Option.some.inj hx)).symm
      refine ⟨d, s, r, M, ?_, ?_, h, KE.refl d r, id⟩
      · unfold L_Scav_run_68
        rw [if_neg (show ¬ (60 : Int32) ≤ nI k from nI_ge (b := 60) (by omega) (by decide)), if_pos rfl]
      · unfold L_Mod_adopt_4
        rw [if_neg (show ¬ (61 : Int32) ≤ nI k from nI_ge (b := 61) (by omega) (by decide)), if_neg (by decide), e2, bnd_some]
        unfold B_Mod_adopt_18 B_Mod_adopt_39 B_Mod_adopt_70 B_Mod_adopt_71 B_Mod_adopt_85 B_Mod_adopt_97 B_Mod_adopt_211
        rw [if_pos (show ((0 : Int32), ()).1 ≤ 0 from (by decide : (0 : Int32) ≤ 0)), if_pos (show ((0 : Int32), ()).1 ≤ 0 from (by decide : (0 : Int32) ≤ 0)), if_pos (show ((0 : Int32), ()).1 ≤ 0 from (by decide : (0 : Int32) ≤ 0)), if_pos (by decide), if_pos rfl, nI_1]
        unfold L_Mod_adopt_4
        rw [if_neg (show ¬ (61 : Int32) ≤ nI (k + 1) from nI_ge (b := 61) (by omega) (by decide)), if_pos rfl]
    · exfalso
      have hf : bt (sRea s) x = false := by
        unfold uB at xu
        have := (Bool.and_eq_true_iff.mp xu).2
        cases q : bt (sRea s) x
        · rfl
        · rw [q] at this; exact absurd this (by decide)
      have := ur_pos x3 x6 hf
      omega
  | succ u ih =>
    intro d s r M k n1 n2 x1 hu hk hn1 hn2 h hO hr hx
    obtain ⟨n1, rfl⟩ : ∃ n', n1 = n' + 1 := ⟨n1 - 1, by omega⟩
    obtain ⟨n2, rfl⟩ : ∃ n', n2 = n' + 1 := ⟨n2 - 1, by omega⟩
    rcases R_orphan (f := f) (w := w) (m := m) h with ⟨e1, e2⟩ | ⟨x, x3, x6, xu, e1, e2⟩
    · rw [e1] at hx
      obtain rfl : x1 = -1 := (congrArg (fun z => z.1) (Option.some.inj hx)).symm
      refine ⟨d, s, r, M, ?_, ?_, h, KE.refl d r, id⟩
      · unfold L_Scav_run_68
        rw [if_neg (show ¬ (60 : Int32) ≤ nI k from nI_ge (b := 60) (by omega) (by decide)), if_pos rfl]
      · obtain ⟨n2, rfl⟩ : ∃ n', n2 = n' + 1 := ⟨n2 - 1, by omega⟩
        unfold L_Mod_adopt_4
        rw [if_neg (show ¬ (61 : Int32) ≤ nI k from nI_ge (b := 61) (by omega) (by decide)), if_neg (by decide), e2, bnd_some]
        unfold B_Mod_adopt_18 B_Mod_adopt_39 B_Mod_adopt_70 B_Mod_adopt_71 B_Mod_adopt_85 B_Mod_adopt_97 B_Mod_adopt_211
        rw [if_pos (show ((0 : Int32), ()).1 ≤ 0 from (by decide : (0 : Int32) ≤ 0)), if_pos (show ((0 : Int32), ()).1 ≤ 0 from (by decide : (0 : Int32) ≤ 0)), if_pos (show ((0 : Int32), ()).1 ≤ 0 from (by decide : (0 : Int32) ≤ 0)), if_pos (by decide), if_pos rfl, nI_1]
        unfold L_Mod_adopt_4
        rw [if_neg (show ¬ (61 : Int32) ≤ nI (k + 1) from nI_ge (b := 61) (by omega) (by decide)), if_pos rfl]
    · rw [e1] at hx
      obtain rfl : x1 = nI x := (congrArg (fun z => z.1) (Option.some.inj hx)).symm
      have hCs : L_Scav_run_68 (n1 + 1) d f w m s (nI x) (nI k) = bnd (f_Scav_adopt d f w m s (nI x)) (fun q => B_Scav_run_84 (L_Scav_run_68 n1) q.2.1 f w m q.2.2 (nI k) q.1) := by
        show (if (60 : Int32) ≤ nI k then _ else _) = _
        rw [if_neg (show ¬ (60 : Int32) ≤ nI k from nI_ge (b := 60) (by omega) (by decide)), if_neg (nI_m1 (by omega))]
      have hRs : L_Mod_adopt_4 (n2 + 1) r 1 (nI k) = B_Mod_adopt_18 (L_Mod_adopt_4 n2) r (nI k) (nI x) := by
        show (if (61 : Int32) ≤ nI k then _ else _) = _
        rw [if_neg (show ¬ (61 : Int32) ≤ nI k from nI_ge (b := 61) (by omega) (by decide)), if_neg (by decide), e2, bnd_some]
      obtain ⟨m1, rfl⟩ : ∃ n', n1 = n' + 1 := ⟨n1 - 1, by omega⟩
      obtain ⟨m2, rfl⟩ : ∃ n', n2 = n' + 1 := ⟨n2 - 1, by omega⟩
      rw [hCs, hRs]
      rcases R_adopt1 (f := f) (w := w) (m := m) hB h hO hr x3 x6 xu with ⟨a1, a2⟩ | ⟨d1, s1, r1, M1, a1, a2, a3⟩
      · refine ⟨d, s, r, M, ?_, ?_, h, KE.refl d r, id⟩
        · rw [a1, bnd_some]
          unfold B_Scav_run_84 B_Scav_run_95
          rw [if_pos rfl, nI_1]
          unfold L_Scav_run_68
          rw [if_neg (show ¬ (60 : Int32) ≤ nI (k + 1) from nI_ge (b := 60) (by omega) (by decide)), if_pos rfl]
        · rw [a2, nI_1]
          unfold L_Mod_adopt_4
          rw [if_neg (show ¬ (61 : Int32) ≤ nI (k + 1) from nI_ge (b := 61) (by omega) (by decide)), if_pos rfl]
      · obtain ⟨c1, c2, c3, c4, c5, c6⟩ := a3
        have hnx : ∃ x2, f_Scav_nextToAdopt d1 f w m s1 = some (x2, ()) := by
          rcases R_orphan (f := f) (w := w) (m := m) c1 with ⟨z1, -⟩ | ⟨x2, -, -, -, z1, -⟩
          · exact ⟨_, z1⟩
          · exact ⟨_, z1⟩
        obtain ⟨x2, hx2⟩ := hnx
        obtain ⟨d', s', r', M', g1, g2, g3, g4, g5⟩ := ih d1 s1 r1 M1 (k + 1) (m1 + 1) (m2 + 1) x2 (by omega) (by omega) (by omega) (by omega) c1 c2 c3 hx2
        refine ⟨d', s', r', M', ?_, ?_, g3, c5.trans g4, fun z => g5 (c6 z)⟩
        · rw [a1, bnd_some]
          unfold B_Scav_run_84
          rw [if_neg (show ¬ ((1 : Int32), (d1, s1)).1 = 0 from (by decide : ¬ (1 : Int32) = 0)), hx2, bnd_some]
          unfold B_Scav_run_91 B_Scav_run_95
          rw [nI_1]
          exact g1
        · rw [a2, nI_1]
          exact g2
end AD8
