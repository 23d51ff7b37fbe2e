/-! scavenging: the next file to adopt -/
def fstN (P : Nat → Bool) : Nat → Nat → Nat
  | 0, _ => 0
  | n + 1, a => if P a = true then a else fstN P n (a + 1)
theorem fstN_spec {P : Nat → Bool} : ∀ n a, fstN P n a = 0 ∨ (a ≤ fstN P n a ∧ fstN P n a < a + n ∧ P (fstN P n a) = true) := by
  intro n
  induction n with
  | zero => intro a; exact Or.inl rfl
  | succ n ih =>
    intro a
    unfold fstN
    by_cases h : P a = true
    · rw [if_pos h]; exact Or.inr ⟨Nat.le_refl _, by omega, h⟩
    · rw [if_neg h]
      rcases ih (a + 1) with e | ⟨e1, e2, e3⟩
      · exact Or.inl e
      · exact Or.inr ⟨by omega, by omega, e3⟩
def uB (d : DS) (s : SS) (y : Nat) : Bool := decide (¬ xSearch d (nI y) 0 = -1) && !bt (sRea s) y
def qB (d : DS) (s : SS) (r : RS) (y : Nat) : Bool := uB d s y && decide (f_Mod_isNamed r (nI y) = some (0, ()))
section AD3
variable {d d' : DS} {r r' : RS} {f : FS} {w : WS} {m : MS} {s s' : SS} {g : GS} {B : Nat} {M : Nat → Nat}
theorem m1_nI {y : Nat} (h : 1 ≤ y) : (nI y + (-1) : Int32) = nI (y - 1) := by
  obtain ⟨a, rfl⟩ : ∃ a, y = a + 1 := ⟨y - 1, by omega⟩
  rw [← nI_1, Nat.add_sub_cancel, Int32.add_assoc, show (1 + -1 : Int32) = 0 by decide, Int32.add_zero]
/-- a serial: there and unreached, or not -/
theorem R_uB (h : SF B d s r M) {y : Nat} (hy1 : 3 ≤ y) (hy : y ≤ 60) : (uB d s y = true ∧ f_Mod_isThere r (nI y) = some (1, ()) ∧ f_Scav_isThere d f w m s (nI y) = (1, ()) ∧ rRea r y = 0 ∧ bt (sRea s) y = false ∧ ∃ b : Int32, f_Scav_isListed d f w m s (nI y) = some (b, ()) ∧ f_Mod_isNamed r (nI y) = some (b, ()) ∧ ((b = 0 ∧ qB d s r y = true) ∨ (b = 1 ∧ qB d s r y = false))) ∨ (uB d s y = false ∧ qB d s r y = false ∧ ((f_Mod_isThere r (nI y) = some (0, ()) ∧ f_Scav_isThere d f w m s (nI y) = (0, ())) ∨ (f_Mod_isThere r (nI y) = some (1, ()) ∧ ¬ rRea r y = 0 ∧ bt (sRea s) y = true))) := by
  have e1 := R_isThere h (show 1 ≤ y by omega) hy
  have e2 : f_Scav_isThere d f w m s (nI y) = (if xSearch d (nI y) 0 = -1 then 0 else 1, ()) := by
    unfold f_Scav_isThere B_Scav_isThere_28
    rw [if_neg (show ¬ nI y < 1 from nI_nlt (b := 1) (by omega) (by omega)), if_neg (show ¬ (60 : Int32) < nI y from nI_nlt (a := 60) (by omega) (by omega))]
    by_cases q : xSearch d (nI y) 0 = -1
    · rw [if_pos q, if_pos q]
    · rw [if_neg q, if_neg q]
  rcases R_dirOf h (show 1 ≤ y by omega) hy with q | ⟨i, b, i1, i2, i3, -⟩
  · have eu : uB d s y = false := by unfold uB; rw [q]; rfl
    rw [if_pos q] at e1 e2
    exact Or.inr ⟨eu, by unfold qB; rw [eu]; rfl, Or.inl ⟨e1, e2⟩⟩
  · have hq : ¬ xSearch d (nI y) 0 = -1 := by rw [i3]; exact nI_m1 (by omega)
    rw [if_neg hq] at e1 e2
    rcases R_reach h (show 1 ≤ y by omega) hy with ⟨q1, q2⟩ | ⟨q1, q2⟩
    · have eu : uB d s y = false := by unfold uB; rw [q1]; simp
      exact Or.inr ⟨eu, by unfold qB; rw [eu]; rfl, Or.inr ⟨e1, q2, q1⟩⟩
    · have eu : uB d s y = true := by unfold uB; rw [q1, decide_eq_true hq]; rfl
      obtain ⟨b, b1, b2, b3⟩ := R_listed (f := f) (w := w) (m := m) h hy1 hy i1 i2 i3
      refine Or.inl ⟨eu, e1, e2, q2, q1, b, b1, b2, ?_⟩
      unfold qB
      rw [eu, b2]
      rcases b3 with rfl | rfl
      · exact Or.inl ⟨rfl, by simp⟩
      · exact Or.inr ⟨rfl, by rw [decide_eq_false (show ¬ some ((1 : Int32), ()) = some (0, ()) by decide)]; rfl⟩
theorem R_orp5 (h : SF B d s r M) : ∀ j, j ≤ 58 → ∀ n, j < n → L_Mod_orphan_5 n r (nI (fstN (uB d s) (58 - j) (j + 3))) (nI (j + 2)) = L_Mod_orphan_44 1000 r (nI (fstN (uB d s) 58 3)) 0 60 := by
  intro j
  induction j with
  | zero =>
    intro hj n hn
    obtain ⟨n, rfl⟩ : ∃ n', n = n' + 1 := ⟨n - 1, by omega⟩
    unfold L_Mod_orphan_5
    rw [if_pos (by decide)]
  | succ j ih =>
    intro hj n hn
    obtain ⟨n, rfl⟩ : ∃ n', n = n' + 1 := ⟨n - 1, by omega⟩
    have hn := ih (by omega) n (by omega)
    have hst : fstN (uB d s) (58 - j) (j + 3) = if uB d s (j + 3) = true then j + 3 else fstN (uB d s) (58 - (j + 1)) (j + 1 + 3) := by
      rw [show 58 - j = (58 - (j + 1)) + 1 by omega, show j + 1 + 3 = j + 3 + 1 by omega]
      rfl
    unfold L_Mod_orphan_5
    rw [if_neg (show ¬ nI (j + 1 + 2) ≤ 2 from nI_ge (a := 2) (by omega) (by omega))]
    rcases R_uB (f := (default : FS)) (w := default) (m := default) h (show 3 ≤ j + 3 by omega) (by omega) with ⟨u1, u2, u3, u4, -⟩ | ⟨u1, u2, u3⟩
    · rw [show f_Mod_isThere r (nI (j + 1 + 2)) = some (1, ()) from u2, bnd_some]
      unfold B_Mod_orphan_15 B_Mod_orphan_32
      rw [if_neg (show ¬ ((1 : Int32), ()).1 = 0 from (by decide : ¬ (1 : Int32) = 0)), if_pos (inB_nI (show j + 1 + 2 < 61 by omega) (by decide)), cl_nI (by omega), if_neg (not_not_intro (show rRea r (j + 1 + 2) = 0 from u4)), m1_nI (by omega)]
      rw [u1, if_pos rfl] at hst
      rw [hst] at hn
      exact hn
    · rw [u1, if_neg (by decide)] at hst
      rw [hst] at hn
      rcases u3 with ⟨u3, u4⟩ | ⟨u3, u4, -⟩
      · rw [show f_Mod_isThere r (nI (j + 1 + 2)) = some (0, ()) from u3, bnd_some]
        unfold B_Mod_orphan_15 B_Mod_orphan_31 B_Mod_orphan_32
        rw [if_pos rfl, m1_nI (by omega)]
        exact hn
      · rw [show f_Mod_isThere r (nI (j + 1 + 2)) = some (1, ()) from u3, bnd_some]
        unfold B_Mod_orphan_15 B_Mod_orphan_31 B_Mod_orphan_32
        rw [if_neg (show ¬ ((1 : Int32), ()).1 = 0 from (by decide : ¬ (1 : Int32) = 0)), if_pos (inB_nI (show j + 1 + 2 < 61 by omega) (by decide)), cl_nI (by omega), if_pos (show ¬ rRea r (j + 1 + 2) = 0 from u4), m1_nI (by omega)]
        exact hn
theorem R_orp44 (h : SF B d s r M) (x1 : Int32) : ∀ j, j ≤ 58 → ∀ n, j < n → L_Mod_orphan_44 n r x1 (nI (fstN (qB d s r) (58 - j) (j + 3))) (nI (j + 2)) = some (if fstN (qB d s r) 58 3 = 0 then x1 else nI (fstN (qB d s r) 58 3), ()) := by
  intro j
  induction j with
  | zero =>
    intro hj n hn
    obtain ⟨n, rfl⟩ : ∃ n', n = n' + 1 := ⟨n - 1, by omega⟩
    have hsp := fstN_spec (P := qB d s r) 58 3
    unfold L_Mod_orphan_44
    rw [if_pos (by decide)]
    by_cases q : fstN (qB d s r) 58 3 = 0
    · rw [if_pos q, show fstN (qB d s r) (58 - 0) (0 + 3) = 0 from q, if_pos (by decide)]
    · rw [if_neg q, if_neg (show ¬ nI (fstN (qB d s r) (58 - 0) (0 + 3)) ≤ 0 from nI_nle (show 0 < fstN (qB d s r) 58 3 by omega) (show fstN (qB d s r) 58 3 < 2 ^ 31 by omega))]
  | succ j ih =>
    intro hj n hn
    obtain ⟨n, rfl⟩ : ∃ n', n = n' + 1 := ⟨n - 1, by omega⟩
    have hn := ih (by omega) n (by omega)
    have hst : fstN (qB d s r) (58 - j) (j + 3) = if qB d s r (j + 3) = true then j + 3 else fstN (qB d s r) (58 - (j + 1)) (j + 1 + 3) := by
      rw [show 58 - j = (58 - (j + 1)) + 1 by omega, show j + 1 + 3 = j + 3 + 1 by omega]
      rfl
    unfold L_Mod_orphan_44
    rw [if_neg (show ¬ nI (j + 1 + 2) ≤ 2 from nI_ge (a := 2) (by omega) (by omega))]
    rcases R_uB (f := (default : FS)) (w := default) (m := default) h (show 3 ≤ j + 3 by omega) (by omega) with ⟨u1, u2, u3, u4, u5, b, b1, b2, b3⟩ | ⟨u1, u2, u3⟩
    · rw [show f_Mod_isThere r (nI (j + 1 + 2)) = some (1, ()) from u2, bnd_some]
      unfold B_Mod_orphan_54
      rw [if_neg (show ¬ ((1 : Int32), ()).1 = 0 from (by decide : ¬ (1 : Int32) = 0)), if_pos (inB_nI (show j + 1 + 2 < 61 by omega) (by decide)), cl_nI (by omega), if_neg (not_not_intro (show rRea r (j + 1 + 2) = 0 from u4)), show f_Mod_isNamed r (nI (j + 1 + 2)) = some (b, ()) from b2, bnd_some]
      unfold B_Mod_orphan_71 B_Mod_orphan_78 B_Mod_orphan_79
      rw [m1_nI (by omega)]
      rcases b3 with ⟨rfl, z⟩ | ⟨rfl, z⟩
      · rw [z, if_pos rfl] at hst
        rw [hst] at hn
        rw [if_neg (not_not_intro rfl)]
        exact hn
      · rw [z, if_neg (by decide)] at hst
        rw [hst] at hn
        rw [if_pos (show ¬ ((1 : Int32), ()).1 = 0 from (by decide : ¬ (1 : Int32) = 0))]
        exact hn
    · rw [u2, if_neg (by decide)] at hst
      rw [hst] at hn
      rcases u3 with ⟨u3, u4⟩ | ⟨u3, u4, -⟩
      · rw [show f_Mod_isThere r (nI (j + 1 + 2)) = some (0, ()) from u3, bnd_some]
        unfold B_Mod_orphan_54 B_Mod_orphan_78 B_Mod_orphan_79
        rw [if_pos rfl, m1_nI (by omega)]
        exact hn
      · rw [show f_Mod_isThere r (nI (j + 1 + 2)) = some (1, ()) from u3, bnd_some]
        unfold B_Mod_orphan_54 B_Mod_orphan_78 B_Mod_orphan_79
        rw [if_neg (show ¬ ((1 : Int32), ()).1 = 0 from (by decide : ¬ (1 : Int32) = 0)), if_pos (inB_nI (show j + 1 + 2 < 61 by omega) (by decide)), cl_nI (by omega), if_pos (show ¬ rRea r (j + 1 + 2) = 0 from u4), m1_nI (by omega)]
        exact hn
theorem C_next (h : SF B d s r M) : ∀ j y, y + j = 61 → 3 ≤ y → ∀ n, j < n → ∀ x1 : Int32, L_Scav_nextToAdopt_4 n d f w m s x1 (nI y) = some (if fstN (qB d s r) j y = 0 then (if x1 = -1 then (if fstN (uB d s) j y = 0 then -1 else nI (fstN (uB d s) j y)) else x1) else nI (fstN (qB d s r) j y), ()) := by
  intro j
  induction j with
  | zero =>
    intro y hy hy3 n hn x1
    obtain ⟨n, rfl⟩ : ∃ n', n = n' + 1 := ⟨n - 1, by omega⟩
    unfold L_Scav_nextToAdopt_4
    rw [if_pos (show (60 : Int32) < nI y from nI_lt (a := 60) (by omega) (by omega)), if_pos (show fstN (qB d s r) 0 y = 0 from rfl), if_pos (show fstN (uB d s) 0 y = 0 from rfl)]
    by_cases q : x1 = -1
    · rw [if_pos q, q]
    · rw [if_neg q]
  | succ j ih =>
    intro y hy hy3 n hn x1
    obtain ⟨n, rfl⟩ : ∃ n', n = n' + 1 := ⟨n - 1, by omega⟩
    have hnext := ih (y + 1) (by omega) (by omega) n (by omega)
    have hq : fstN (qB d s r) (j + 1) y = if qB d s r y = true then y else fstN (qB d s r) j (y + 1) := rfl
    have hu : fstN (uB d s) (j + 1) y = if uB d s y = true then y else fstN (uB d s) j (y + 1) := rfl
    unfold L_Scav_nextToAdopt_4
    rw [if_neg (show ¬ (60 : Int32) < nI y from nI_nlt (a := 60) (by omega) (by omega)), C_reached (by omega), hq, hu]
    unfold B_Scav_nextToAdopt_50
    rw [nI_1, hnext]
    rcases R_uB (f := f) (w := w) (m := m) h hy3 (show y ≤ 60 by omega) with ⟨u1, u2, u3, u4, u5, b, b1, b2, b3⟩ | ⟨u1, u2, u3⟩
    · rw [u5, if_neg (not_not_intro (show ((if false = true then (1 : Int32) else 0), ()).1 = 0 from rfl)), u3, if_pos (show ¬ ((1 : Int32), ()).1 = 0 from (by decide : ¬ (1 : Int32) = 0)), b1, bnd_some, if_pos u1]
      unfold B_Scav_nextToAdopt_34 B_Scav_nextToAdopt_49 B_Scav_nextToAdopt_50
      rw [nI_1, hnext, hnext]
      rcases b3 with ⟨rfl, z⟩ | ⟨rfl, z⟩
      · rw [if_neg (not_not_intro rfl), z, if_pos rfl, if_neg (by omega)]
      · rw [if_pos (show ¬ ((1 : Int32), ()).1 = 0 from (by decide : ¬ (1 : Int32) = 0)), z, if_neg (show ¬ false = true by decide)]
        by_cases q : x1 = -1
        · rw [if_neg (not_not_intro q), if_pos q, if_neg (show ¬ nI y = -1 from nI_m1 (by omega)), if_neg (show ¬ y = 0 by omega)]
        · rw [if_pos q, if_neg q, if_neg q]
    · rw [u1, u2, if_neg (show ¬ false = true by decide), if_neg (show ¬ false = true by decide)]
      rcases u3 with ⟨u3, u4⟩ | ⟨u3, u4, u5⟩
      · rw [u4, if_neg (show ¬ ¬ ((0 : Int32), ()).1 = 0 from not_not_intro rfl)]
        by_cases z : ((if bt (sRea s) y = true then (1 : Int32) else 0), ()).1 = 0
        · rw [if_neg (not_not_intro z)]
        · rw [if_pos z]
      · rw [u5, if_pos (show ¬ ((if true = true then (1 : Int32) else 0), ()).1 = 0 from (by decide : ¬ (1 : Int32) = 0))]
theorem R_orphan (h : SF B d s r M) : (f_Scav_nextToAdopt d f w m s = some (-1, ()) ∧ f_Mod_orphan r = some (0, ())) ∨ ∃ x, 3 ≤ x ∧ x ≤ 60 ∧ uB d s x = true ∧ f_Scav_nextToAdopt d f w m s = some (nI x, ()) ∧ f_Mod_orphan r = some (nI x, ()) := by
  unfold f_Scav_nextToAdopt f_Mod_orphan
  have e1 := C_next (f := f) (w := w) (m := m) h 58 3 (by omega) (by omega) 100 (by omega) (-1)
  have e2 : L_Mod_orphan_5 1000 r 0 60 = _ := R_orp5 h 58 (by omega) 1000 (by omega)
  have e3 : L_Mod_orphan_44 1000 r (nI (fstN (uB d s) 58 3)) 0 60 = _ := R_orp44 h (nI (fstN (uB d s) 58 3)) 58 (by omega) 1000 (by omega)
  rw [e2, e3, show L_Scav_nextToAdopt_4 100 d f w m s (-1) 3 = _ from e1, if_pos rfl]
  have hsq := fstN_spec (P := qB d s r) 58 3
  have hsu := fstN_spec (P := uB d s) 58 3
  by_cases q : fstN (qB d s r) 58 3 = 0
  · rw [if_pos q, if_pos q]
    by_cases u : fstN (uB d s) 58 3 = 0
    · rw [if_pos u, u]; exact Or.inl ⟨rfl, rfl⟩
    · rw [if_neg u]
      rcases hsu with z | ⟨z1, z2, z3⟩
      · exact absurd z u
      · exact Or.inr ⟨_, z1, by omega, z3, rfl, rfl⟩
  · rw [if_neg q, if_neg q]
    rcases hsq with z | ⟨z1, z2, z3⟩
    · exact absurd z q
    · refine Or.inr ⟨_, z1, by omega, ?_, rfl, rfl⟩
      unfold qB at z3
      exact (Bool.and_eq_true_iff.mp z3).1
end AD3
