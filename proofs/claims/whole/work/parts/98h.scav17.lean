/-! scavenging: entries read, the root's names, what to adopt -/
section AD1
variable {d d' : DS} {r r' : RS} {f : FS} {w : WS} {m : MS} {s s' : SS} {g : GS} {B : Nat} {M : Nat → Nat}
theorem R_pl {sn k : Nat} (h : SF B d s r M) (hs1 : 1 ≤ sn) (hs : sn ≤ 60) (hk : k ≤ 78) : ∃ v, f_Scav_entryPlace d f w m s (nI sn) (nI k) = (v, ()) ∧ f_Mod_place r (nI sn) (nI k) = some (v, ()) ∧ PL d sn k v ∧ (v = -1 ∨ ∃ i, i < 40 ∧ dUnr d i = 0 ∧ dCells d (i * 13) = nI sn ∧ dCells d (i * 13 + 1) = nI (k / 2 + 1) ∧ k % 2 < en d i ∧ v = nI (8 * i + 4 * (k % 2)) ∧ k ≤ 77) := by
  obtain ⟨v, v1, v2, v3⟩ := R_place (f := f) (w := w) (m := m) h hs1 hs (show k < 500 by omega)
  refine ⟨v, v1, v2, v3, ?_⟩
  rcases v3 with ⟨e, -⟩ | ⟨i, i1, i2, i3, i4, i5, i6, i7⟩
  · exact Or.inl e
  · have hK := h.2.2.2.1.2 sn hs1 hs
    obtain ⟨p, p1, p2⟩ := hK.2.2.2.2.2.1 i i1 i2 i3
    have p3 := hK.1
    have p4 : k / 2 + 1 = p := (nI_eq (by omega) (by omega)).mp (i4.symm.trans p2)
    exact Or.inr ⟨i, i1, i2, i3, i4, i6, i7, by omega⟩
theorem X_ent {i t : Nat} (h : SF B d s r M) (hi : i < 40) (hu : dUnr d i = 0) (ht : t < 2) : ∃ b a1 a2, b < 256 ∧ a1 < 256 ∧ a2 < 256 ∧ dCells d (i * 13 + (5 + (4 * t + 2))) = nI b ∧ dCells d (i * 13 + (5 + 4 * t)) = nI a1 ∧ dCells d (i * 13 + (5 + (4 * t + 1))) = nI a2 ∧ f_Scav_serialAt d f w m s (nI (8 * i + 4 * t)) = (nI b, ()) ∧ rByt r (8 * i + (4 * t + 2)) = nI b ∧ f_Scav_nameAt d f w m s (nI (8 * i + 4 * t)) = (nI (256 * a1 + a2), ()) ∧ f_Mod_nameAt r (nI (8 * i + 4 * t)) = some (nI (256 * a1 + a2), ()) := by
  obtain ⟨pd1, pd2⟩ := pl_div hi ht
  obtain ⟨b, hb, eb⟩ := h.2.1.byt hi (show 4 * t + 2 < 8 by omega)
  obtain ⟨a1, ha1, ea1⟩ := h.2.1.byt hi (show 4 * t < 8 by omega)
  obtain ⟨a2, ha2, ea2⟩ := h.2.1.byt hi (show 4 * t + 1 < 8 by omega)
  have hR := h.1
  obtain ⟨na, na1, na2⟩ := X_name hR hi hu (show 4 * t < 7 by omega)
  have en : na = nI (256 * a1 + a2) := by
    have e := congrArg (fun z => z.1) na1
    have e' : (xCell d (nI i) (5 + nI (4 * t))) * 256 + xCell d (nI i) (5 + nI (4 * t) + 1) = na := e
    rw [xcb hi (by omega) hu, show (5 + nI (4 * t) + 1 : Int32) = 5 + nI (4 * t + 1) from by rw [Int32.add_assoc, nI_1], xcb hi (by omega) hu, ea1, ea2, show (256 : Int32) = nI 256 from rfl, pk_mul, nI_add, Nat.mul_comm] at e'
    exact e'.symm
  subst en
  refine ⟨b, a1, a2, hb, ha1, ha2, eb, ea1, ea2, ?_, ?_, ?_, na2⟩
  · unfold f_Scav_serialAt f_Disk_byteAt
    rw [pd2, pd1, show (nI (4 * t) + 2 : Int32) = nI (4 * t + 2) from by rw [show (2 : Int32) = nI 2 from rfl, nI_add], xcb hi (by omega) hu, eb]
  · rw [← hR.bytF hi (by omega), eb]
  · unfold f_Scav_nameAt
    rw [pd2, pd1, na1]
/-- every entry of the root with serial 0 has name 0 -/
def RO (d : DS) : Prop := ∀ i, i < 40 → dUnr d i = 0 → dCells d (i * 13) = nI 1 → ¬ dCells d (i * 13 + 1) = 0 → ∀ t, t < en d i → OKE d i t
theorem en_le (I : IV B d) {i : Nat} (hi : i < 40) : en d i ≤ 2 := by
  have := (en_use I hi).2
  unfold en
  omega
theorem RO.of (h : SF B d s r M) (hl : LSm d d') {K : Nat} (hK : PL d 1 K (-1)) (h2 : ∀ k, k < K → ∀ i t, i < 40 → t < 2 → PL d 1 k (nI (8 * i + 4 * t)) → OKE d' i t) : RO d' := by
  intro i hi hu h0 h1 t ht
  have hKF := h.2.2.2.1.2 1 (by decide) (by decide)
  have he : ∀ i, i < 40 → en d' i = en d i := fun i hi => by
    unfold en vN
    rw [hl.1 i hi 2 (by decide)]
  rw [he i hi] at ht
  have ht2 := en_le h.2.1 hi
  rw [hl.2.1] at hu
  rw [show dCells d' (i * 13) = dCells d (i * 13) from hl.1 i hi 0 (by decide)] at h0
  rw [hl.1 i hi 1 (by decide)] at h1
  obtain ⟨p, p1, p2⟩ := hKF.2.2.2.2.2.1 i hi hu h0
  have hM := hKF.1
  have hp : 1 ≤ p := by
    rcases Nat.eq_zero_or_pos p with z | z
    · rw [z] at p2; exact absurd p2 h1
    · exact z
  have hS : xSearch d (nI 1) (nI p) = nI i := U_search h.2.2.2.1.1 (by decide) (by decide) hi hu h0 p2
  have hPL : PL d 1 (2 * (p - 1) + t) (nI (8 * i + 4 * t)) := by
    refine Or.inr ⟨i, hi, hu, h0, ?_, ?_, ?_, ?_⟩
    · rw [show (2 * (p - 1) + t) / 2 + 1 = p by omega]; exact p2
    · rw [show (2 * (p - 1) + t) / 2 + 1 = p by omega]; exact hS
    · rw [show (2 * (p - 1) + t) % 2 = t by omega]; exact ht
    · rw [show (2 * (p - 1) + t) % 2 = t by omega]
  by_cases hk : 2 * (p - 1) + t < K
  · exact h2 _ hk i t hi (by omega) hPL
  · exfalso
    rcases hK with ⟨-, q⟩ | ⟨j, j1, -, -, -, -, -, j2⟩
    · by_cases e : K / 2 + 1 = p
      · have := q i hi (by rw [e]; exact hS)
        omega
      · obtain ⟨j, j1, j2, j3⟩ := hKF.2.2.2.2.2.2 (K / 2 + 1) (by omega) (by omega)
        have := q j j1 j2
        unfold en vN at this
        rw [j3] at this
        have e8 : (8 : Int32).toNatClampNeg = 8 := by decide
        rw [e8] at this
        omega
    · exact absurd j2.symm (nI_m1 (by omega))
theorem RO.mono (h : RO d) (hl : LSm d d') (ho : OKm d d') (I : IV B d) : RO d' := by
  intro i hi hu h0 h1 t ht
  have he : en d' i = en d i := by
    unfold en vN
    rw [hl.1 i hi 2 (by decide)]
  rw [he] at ht
  have ht2 := en_le I hi
  rw [hl.2.1] at hu
  rw [show dCells d' (i * 13) = dCells d (i * 13) from hl.1 i hi 0 (by decide)] at h0
  rw [hl.1 i hi 1 (by decide)] at h1
  exact ho i t hi (by omega) (h i hi hu h0 h1 t ht)
theorem R_rootHas1 (h : SF B d s r M) (x : Int32) : ∀ j k, k + j = 78 → ∀ n, j < n → L_Mod_rootHas_4 n r x 1 (nI k) = some (1, ()) := by
  intro j
  induction j with
  | zero =>
    intro k hk n hn
    obtain ⟨n, rfl⟩ : ∃ n', n = n' + 1 := ⟨n - 1, by omega⟩
    obtain ⟨v, v1, v2, v3, v4⟩ := R_pl (f := (default : FS)) (w := default) (m := default) h (show 1 ≤ 1 by decide) (by decide) (show k ≤ 78 by omega)
    rcases v4 with rfl | ⟨i, i1, -, -, -, -, -, i2⟩
    · unfold L_Mod_rootHas_4
      rw [show f_Mod_place r 1 (nI k) = _ from v2, bnd_some]
      unfold B_Mod_rootHas_10
      rw [if_pos (by decide)]; rfl
    · omega
  | succ j ih =>
    intro k hk n hn
    obtain ⟨n, rfl⟩ : ∃ n', n = n' + 1 := ⟨n - 1, by omega⟩
    obtain ⟨v, v1, v2, v3, v4⟩ := R_pl (f := (default : FS)) (w := default) (m := default) h (show 1 ≤ 1 by decide) (by decide) (show k ≤ 78 by omega)
    unfold L_Mod_rootHas_4
    rw [show f_Mod_place r 1 (nI k) = _ from v2, bnd_some]
    unfold B_Mod_rootHas_10
    rcases v4 with rfl | ⟨i, i1, -, -, -, -, rfl, i2⟩
    · rw [if_pos (by decide)]; rfl
    · rw [if_neg (show ¬ nI (8 * i + 4 * (k % 2)) < 0 from nI_pos (by omega)), if_pos (by decide)]
      unfold B_Mod_rootHas_47 B_Mod_rootHas_52
      rw [nI_1]
      exact ih (k + 1) (by omega) n (by omega)
theorem R_rootHas (h : SF B d s r M) (hO : RO d) {x : Nat} (hx1 : 1 ≤ x) (hx : x < 65536) : ∃ b : Int32, f_Scav_rootHasName d f w m s (nI x) = some (b, ()) ∧ f_Mod_rootHas r (nI x) = some (b, ()) ∧ (b = 0 ∨ b = 1) := by
  unfold f_Scav_rootHasName f_Mod_rootHas
  suffices hall : ∀ j k, k + j = 78 → ∀ n1 n2, j < n1 → j < n2 → ∃ b : Int32, L_Scav_rootHasName_2 n1 d f w m s (nI x) (nI k) = some (b, ()) ∧ L_Mod_rootHas_4 n2 r (nI x) 0 (nI k) = some (b, ()) ∧ (b = 0 ∨ b = 1) from hall 78 0 (by omega) 100 1000 (by omega) (by omega)
  intro j
  induction j with
  | zero =>
    intro k hk n1 n2 hn1 hn2
    obtain ⟨n1, rfl⟩ : ∃ n', n1 = n' + 1 := ⟨n1 - 1, by omega⟩
    obtain ⟨n2, rfl⟩ : ∃ n', n2 = n' + 1 := ⟨n2 - 1, by omega⟩
    obtain ⟨v, v1, v2, v3, v4⟩ := R_pl (f := f) (w := w) (m := m) h (show 1 ≤ 1 by decide) (by decide) (show k ≤ 78 by omega)
    rcases v4 with rfl | ⟨i, i1, -, -, -, -, -, i2⟩
    · refine ⟨0, ?_, ?_, Or.inl rfl⟩
      · unfold L_Scav_rootHasName_2
        rw [if_neg (show ¬ (80 : Int32) ≤ nI k from nI_ge (a := k) (b := 80) (by omega) (by decide)), show f_Scav_entryPlace d f w m s 1 (nI k) = _ from v1, if_neg (not_not_intro rfl)]
      · unfold L_Mod_rootHas_4
        rw [show f_Mod_place r 1 (nI k) = _ from v2, bnd_some]
        unfold B_Mod_rootHas_10
        rw [if_pos (by decide)]; rfl
    · omega
  | succ j ih =>
    intro k hk n1 n2 hn1 hn2
    obtain ⟨n1, rfl⟩ : ∃ n', n1 = n' + 1 := ⟨n1 - 1, by omega⟩
    obtain ⟨n2, rfl⟩ : ∃ n', n2 = n' + 1 := ⟨n2 - 1, by omega⟩
    obtain ⟨v, v1, v2, v3, v4⟩ := R_pl (f := f) (w := w) (m := m) h (show 1 ≤ 1 by decide) (by decide) (show k ≤ 78 by omega)
    unfold L_Scav_rootHasName_2 L_Mod_rootHas_4
    rw [if_neg (show ¬ (80 : Int32) ≤ nI k from nI_ge (a := k) (b := 80) (by omega) (by decide)), show f_Scav_entryPlace d f w m s 1 (nI k) = _ from v1, show f_Mod_place r 1 (nI k) = _ from v2, bnd_some]
    unfold B_Mod_rootHas_10
    rcases v4 with rfl | ⟨i, i1, i2, i3, i4, i5, rfl, i6⟩
    · exact ⟨0, by rw [if_neg (not_not_intro rfl)], by rw [if_pos (by decide)]; rfl, Or.inl rfl⟩
    · obtain ⟨b, a1, a2, hb, ha1, ha2, eb, ea1, ea2, c1, c2, c3, c4⟩ := X_ent (f := f) (w := w) (m := m) h i1 i2 (show k % 2 < 2 by omega)
      rw [if_pos (show ¬ nI (8 * i + 4 * (k % 2)) = -1 from nI_m1 (by omega)), if_neg (show ¬ nI (8 * i + 4 * (k % 2)) < 0 from nI_pos (by omega)), if_neg (not_not_intro rfl), show f_Mod_place r 1 (nI k) = _ from v2, bnd_some, c3]
      unfold B_Mod_rootHas_27
      rw [show ((nI (8 * i + 4 * (k % 2)), ()).1 + 2 : Int32) = nI (8 * i + (4 * (k % 2) + 2)) from by show nI (8 * i + 4 * (k % 2)) + nI 2 = _; rw [nI_add, Nat.add_assoc], if_pos (inB_nI (show 8 * i + (4 * (k % 2) + 2) < 320 by omega) (by decide)), cl_nI (by omega), c2]
      have hnext : ∃ b : Int32, L_Scav_rootHasName_2 n1 d f w m s (nI x) (nI k + 1) = some (b, ()) ∧ B_Mod_rootHas_51 (L_Mod_rootHas_4 n2) r (nI x) (nI k) = some (b, ()) ∧ (b = 0 ∨ b = 1) := by
        unfold B_Mod_rootHas_51 B_Mod_rootHas_52
        rw [nI_1]
        exact ih (k + 1) (by omega) n1 n2 (by omega) (by omega)
      by_cases b0 : b = 0
      · subst b0
        have hz := hO i i1 i2 i3 (by rw [i4]; exact nI_ne0 (by omega) (by omega)) _ i5 eb
        have z1 : a1 = 0 := (nI_eq (b := 0) (by omega) (by decide)).mp (ea1.symm.trans hz.1)
        have z2 : a2 = 0 := (nI_eq (b := 0) (by omega) (by decide)).mp (ea2.symm.trans hz.2)
        rw [if_pos (show nI 0 ≤ 0 by decide), if_pos (show ¬ (nI (256 * a1 + a2), ()).1 = nI x from fun z => by
          have := (nI_eq (a := 256 * a1 + a2) (b := x) (by omega) (by omega)).mp z
          omega)]
        exact hnext
      · rw [if_neg (show ¬ nI b ≤ 0 from nI_nle (by omega) (by omega)), show f_Mod_place r 1 (nI k) = _ from v2, bnd_some]
        unfold B_Mod_rootHas_40
        rw [show f_Mod_nameAt r (nI (8 * i + 4 * (k % 2)), ()).1 = _ from c4, bnd_some]
        unfold B_Mod_rootHas_43
        by_cases e : nI (256 * a1 + a2) = nI x
        · rw [if_neg (not_not_intro (show (nI (256 * a1 + a2), ()).1 = nI x from e)), if_neg (not_not_intro (show (nI (256 * a1 + a2), ()).1 = nI x from e))]
          refine ⟨1, rfl, ?_, Or.inr rfl⟩
          unfold B_Mod_rootHas_47 B_Mod_rootHas_52
          rw [nI_1]
          exact R_rootHas1 h _ j (k + 1) (by omega) n2 (by omega)
        · rw [if_pos (show ¬ (nI (256 * a1 + a2), ()).1 = nI x from e), if_pos (show ¬ (nI (256 * a1 + a2), ()).1 = nI x from e)]
          exact hnext
end AD1
