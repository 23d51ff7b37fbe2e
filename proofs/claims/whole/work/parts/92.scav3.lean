/-! scavenging: what isn't kept is lost -/
/-- a sector that is kept of a file -/
def KB (d : DS) (s m x : Nat) : Prop := xSearch d (nI s) 0 = nI x ∨ ∃ p, 1 ≤ p ∧ p ≤ m ∧ xSearch d (nI s) (nI p) = nI x
section S3
variable {d : DS} {r : RS} {f : FS} {w : WS} {m : MS} {s : SS} {g : GS} {B : Nat}
theorem bt_set40 {b : Int64} {i x : Nat} (hi : i < 40) (hx : x < 40) : bt (b ||| (1 <<< ((nI i).toInt64 &&& 63))) x = true ↔ (bt b x = true ∨ x = i) := by
  rw [bt_set hi (by omega), Bool.or_eq_true, decide_eq_true_iff]
theorem C_keptL {sn M hi : Nat} (hs1 : 1 ≤ sn) (hs : sn ≤ 60) (hK : KM d sn M) (hh : (sn = 2 ∧ hi = 1) ∨ (¬ sn = 2 ∧ hi = 40)) : ∀ j p, p + j = M + 1 → 1 ≤ p → ∀ n, j < n → (p = M + 1 → xSearch d (nI sn) (nI (M + 1)) = -1 ∨ (sn = 2 ∧ M = 1)) → ∀ acc, ∃ b, L_Scav_keptOf_30 n d f w m s (nI sn) acc (nI hi) (nI p) = some (b, ()) ∧ ∀ x, x < 40 → (bt b x = true ↔ (bt acc x = true ∨ ∃ q, p ≤ q ∧ q ≤ M ∧ xSearch d (nI sn) (nI q) = nI x)) := by
  have hsn : ¬ nI sn = -1 := nI_m1 (by omega)
  obtain ⟨k1, k2, k3, k4, k5⟩ := hK
  intro j
  induction j with
  | zero =>
    intro p hp hp1 n hn hst acc
    obtain ⟨c, rfl⟩ : ∃ c, n = c + 1 := ⟨n - 1, by omega⟩
    refine ⟨acc, ?_, fun x hx => ⟨Or.inl, fun q => q.elim id (fun ⟨q, q1, q2, _⟩ => absurd q1 (by omega))⟩⟩
    obtain rfl : p = M + 1 := by omega
    rw [L_Scav_keptOf_30]
    by_cases z : nI hi < nI (M + 1)
    · rw [if_pos z]
    · rw [if_neg z]
      rcases hst rfl with q | ⟨q1, q2⟩
      · rw [if_neg (not_not_intro q)]
      · exfalso
        rcases hh with ⟨_, h2⟩ | ⟨h1, _⟩
        · rw [h2, q2] at z; exact z (by decide)
        · exact h1 q1
  | succ j ih =>
    intro p hp hp1 n hn hst acc
    obtain ⟨c, rfl⟩ : ∃ c, n = c + 1 := ⟨n - 1, by omega⟩
    have hpM : p ≤ M := by omega
    have hhi : p ≤ hi := by
      rcases hh with ⟨h1, h2⟩ | ⟨h1, h2⟩
      · have := k2 h1; omega
      · omega
    have hh4 : hi ≤ 40 := by rcases hh with ⟨_, h⟩ | ⟨_, h⟩ <;> omega
    obtain ⟨i, i1, i2, i3, i4, i5⟩ := found hsn (k3 p hp1 hpM)
    rw [L_Scav_keptOf_30, if_neg (nI_nlt hhi (by omega)), if_pos (k3 p hp1 hpM), if_neg (nI_nle (by omega) (by omega))]
    unfold B_Scav_keptOf_86
    rw [nI_1, i2]
    have hlast : ∀ x, x < 40 → (bt (acc ||| (1 <<< ((nI i).toInt64 &&& 63))) x = true ↔ (bt acc x = true ∨ nI x = nI i)) := fun x hx => by
      rw [bt_set40 i1 hx, nI_eq (by omega) (by omega)]
    by_cases h8 : 8 ≤ xCell d (nI i) 2
    · rw [if_pos h8]
      obtain ⟨b, b1, b2⟩ := ih (p + 1) (by omega) (by omega) c (by omega) (fun e => by
        rcases k5 with q | q | ⟨q1, q2⟩
        · exact Or.inl q
        · exact Or.inr q
        · rw [show M = p by omega, i2] at q2; exact absurd h8 q2) (acc ||| (1 <<< ((nI i).toInt64 &&& 63)))
      refine ⟨b, b1, fun x hx => ?_⟩
      rw [b2 x hx, hlast x hx]
      constructor
      · rintro ((q | q) | ⟨q, q1, q2, q3⟩)
        · exact Or.inl q
        · exact Or.inr ⟨p, Nat.le_refl _, hpM, by rw [i2, q]⟩
        · exact Or.inr ⟨q, by omega, q2, q3⟩
      · rintro (q | ⟨q, q1, q2, q3⟩)
        · exact Or.inl (Or.inl q)
        · by_cases e : q = p
          · subst e; rw [i2] at q3; exact Or.inl (Or.inr q3.symm)
          · exact Or.inr ⟨q, by omega, q2, q3⟩
    · rw [if_neg h8]
      refine ⟨_, rfl, fun x hx => ?_⟩
      rw [hlast x hx]
      have hpm : p = M := by
        apply Classical.byContradiction
        intro z
        have := k4 p hp1 (by omega)
        rw [i2] at this
        exact h8 this
      constructor
      · rintro (q | q)
        · exact Or.inl q
        · exact Or.inr ⟨p, Nat.le_refl _, hpM, by rw [i2, q]⟩
      · rintro (q | ⟨q, q1, q2, q3⟩)
        · exact Or.inl q
        · rw [show q = p by omega, i2] at q3; exact Or.inr q3.symm
theorem C_isThere {sn : Nat} (hs1 : 1 ≤ sn) (hs : sn ≤ 60) : f_Scav_isThere d f w m s (nI sn) = (if xSearch d (nI sn) 0 = -1 then 0 else 1, ()) := by
  unfold f_Scav_isThere B_Scav_isThere_28
  have q := in160' hs1 hs
  rw [if_neg q.1, if_neg q.2.2]
  by_cases e : xSearch d (nI sn) 0 = -1
  · rw [if_pos e, if_pos e]
  · rw [if_neg e, if_neg e]
theorem C_keptOf {sn M : Nat} (hs1 : 1 ≤ sn) (hs : sn ≤ 60) (hK : KM d sn M) : ∃ b, f_Scav_keptOf d f w m s (nI sn) = some (b, ()) ∧ ∀ x, x < 40 → (bt b x = true ↔ KB d sn M x) := by
  have hsn : ¬ nI sn = -1 := nI_m1 (by omega)
  obtain ⟨hi, hh, e1⟩ : ∃ hi, ((sn = 2 ∧ hi = 1) ∨ (¬ sn = 2 ∧ hi = 40)) ∧ f_Scav_keptOf d f w m s (nI sn) = B_Scav_keptOf_13 d f w m s (nI sn) 0 (nI hi) := by
    unfold f_Scav_keptOf
    by_cases z : sn = 2
    · exact ⟨1, Or.inl ⟨z, rfl⟩, by rw [if_neg (not_not_intro (show nI sn = 2 by rw [z]; rfl))]; rfl⟩
    · exact ⟨40, Or.inr ⟨z, rfl⟩, by rw [if_pos (show ¬ nI sn = 2 from fun q => z ((nI_eq (b := 2) (by omega) (by decide)).mp q))]; rfl⟩
  rw [e1]
  unfold B_Scav_keptOf_13 B_Scav_keptOf_28
  rw [C_isThere hs1 hs]
  have h1 := hK.1
  have hst : (1 = M + 1 → xSearch d (nI sn) (nI (M + 1)) = -1 ∨ (sn = 2 ∧ M = 1)) := fun e => by
    rcases hK.2.2.2.2 with q | q | ⟨q1, q2⟩
    · exact Or.inl q
    · exact Or.inr q
    · omega
  by_cases e : xSearch d (nI sn) 0 = -1
  · rw [if_pos e, if_pos rfl]
    obtain ⟨b, b1, b2⟩ := C_keptL (f := f) (w := w) (m := m) (s := s) hs1 hs hK hh M 1 (by omega) (Nat.le_refl _) 100 (by omega) hst 0
    refine ⟨b, b1, fun x hx => ?_⟩
    rw [b2 x hx, bt_0]
    unfold KB
    rw [e]
    constructor
    · rintro (q | q)
      · exact absurd q (by decide)
      · exact Or.inr q
    · rintro (q | q)
      · exact absurd q.symm (nI_m1 (by omega))
      · exact Or.inr q
  · rw [if_neg e, if_neg (show ¬ ((1 : Int32), ()).1 = 0 from (by decide : ¬ (1 : Int32) = 0))]
    obtain ⟨i, i1, i2, i3, i4, i5⟩ := found hsn e
    have hh4 : 0 < hi := by rcases hh with ⟨_, h⟩ | ⟨_, h⟩ <;> omega
    have hh5 : hi ≤ 40 := by rcases hh with ⟨_, h⟩ | ⟨_, h⟩ <;> omega
    rw [L_Scav_keptOf_30, if_neg (show ¬ nI hi < 0 from nI_pos (by omega)), if_pos e, if_pos (show (0 : Int32) ≤ 0 by decide), i2]
    unfold B_Scav_keptOf_86
    obtain ⟨b, b1, b2⟩ := C_keptL (f := f) (w := w) (m := m) (s := s) hs1 hs hK hh M 1 (by omega) (Nat.le_refl _) 99 (by omega) hst ((0 : Int64) ||| (1 <<< ((nI i).toInt64 &&& 63)))
    refine ⟨b, ?_, fun x hx => ?_⟩
    · rw [← b1, show (0 + 1 : Int32) = nI 1 from rfl]
    rw [b2 x hx, bt_set40 i1 hx, bt_0]
    unfold KB
    rw [i2, nI_eq (by omega) (by omega)]
    constructor
    · rintro ((q | q) | q)
      · exact absurd q (by decide)
      · exact Or.inl q.symm
      · exact Or.inr q
    · rintro (q | q)
      · exact Or.inl (Or.inr q.symm)
      · exact Or.inr q
theorem C_keptAll {M : Nat → Nat} (hK : ∀ sn, 1 ≤ sn → sn ≤ 60 → KM d sn (M sn)) : ∀ j sn, sn + j = 61 → 1 ≤ sn → ∀ n, j < n → ∀ acc, (∀ x, x < 40 → (bt acc x = true ↔ ∃ t, 1 ≤ t ∧ t < sn ∧ KB d t (M t) x)) → ∃ b, L_Scav_loseUnkept_4 n d f w m s acc (nI sn) = L_Scav_loseUnkept_26 100 d f w m s b 0 ∧ ∀ x, x < 40 → (bt b x = true ↔ ∃ t, 1 ≤ t ∧ t < 61 ∧ KB d t (M t) x) := by
  intro j
  induction j with
  | zero =>
    intro sn hs hs1 n hn acc hb
    obtain ⟨c, rfl⟩ : ∃ c, n = c + 1 := ⟨n - 1, by omega⟩
    obtain rfl : sn = 61 := by omega
    rw [L_Scav_loseUnkept_4, if_pos (by decide)]
    exact ⟨acc, rfl, hb⟩
  | succ j ih =>
    intro sn hs hs1 n hn acc hb
    obtain ⟨c, rfl⟩ : ∃ c, n = c + 1 := ⟨n - 1, by omega⟩
    obtain ⟨k, k1, k2⟩ := C_keptOf (f := f) (w := w) (m := m) (s := s) hs1 (show sn ≤ 60 by omega) (hK sn hs1 (by omega))
    rw [L_Scav_loseUnkept_4, if_neg (in160' hs1 (show sn ≤ 60 by omega)).2.2, k1, bnd_some]
    unfold B_Scav_loseUnkept_16
    rw [nI_1]
    refine ih (sn + 1) (by omega) (by omega) c (by omega) (acc ||| k) (fun x hx => ?_)
    rw [bt_or, Bool.or_eq_true, hb x hx, k2 x hx]
    constructor
    · rintro (⟨t, t1, t2, t3⟩ | q)
      · exact ⟨t, t1, by omega, t3⟩
      · exact ⟨sn, hs1, by omega, q⟩
    · rintro ⟨t, t1, t2, t3⟩
      by_cases e : t = sn
      · subst e; exact Or.inr t3
      · exact Or.inl ⟨t, t1, by omega, t3⟩
/-- a sector in use that is kept -/
def kpt (d : DS) (M : Nat → Nat) (x : Nat) : Prop := ∃ sn p, 1 ≤ sn ∧ sn ≤ 60 ∧ dCells d (x * 13) = nI sn ∧ dCells d (x * 13 + 1) = nI p ∧ p ≤ M sn ∧ xSearch d (nI sn) (nI p) = nI x
theorem kpt_bits (I : IV B d) {M : Nat → Nat} {x : Nat} (hx : x < 40) (hu : dUnr d x = 0) (h0 : ¬ dCells d (x * 13) = 0) : (∃ t, 1 ≤ t ∧ t < 61 ∧ KB d t (M t) x) ↔ kpt d M x := by
  constructor
  · rintro ⟨t, t1, t2, q | ⟨p, p1, p2, q⟩⟩
    · obtain ⟨i, i1, i2, i3, i4, i5⟩ := found (d := d) (s := nI t) (p := 0) (nI_m1 (by omega)) (by rw [q]; exact nI_m1 (by omega))
      have e : i = x := (nI_eq (by omega) (by omega)).mp (i2.symm.trans q)
      subst e
      exact ⟨t, 0, t1, by omega, i4, i5, Nat.zero_le _, q⟩
    · obtain ⟨i, i1, i2, i3, i4, i5⟩ := found (d := d) (s := nI t) (p := nI p) (nI_m1 (by omega)) (by rw [q]; exact nI_m1 (by omega))
      have e : i = x := (nI_eq (by omega) (by omega)).mp (i2.symm.trans q)
      subst e
      exact ⟨t, p, t1, by omega, i4, i5, p2, q⟩
  · rintro ⟨sn, p, s1, s2, c1, c2, p1, q⟩
    refine ⟨sn, s1, by omega, ?_⟩
    rcases Nat.eq_zero_or_pos p with z | z
    · subst z; exact Or.inl q
    · exact Or.inr ⟨p, z, p1, q⟩
end S3
