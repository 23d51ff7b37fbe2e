/-! scavenging: the walk -/
/-- serials not yet reached -/
def ur (s : SS) : Nat := cnN (fun y => decide (3 ≤ y) && !bt (sRea s) y) 61
theorem cnN_le {P : Nat → Bool} (h0 : P 0 = false) (h1 : P 1 = false) (h2 : P 2 = false) : ∀ n, cnN P (n + 3) ≤ n := by
  intro n
  induction n with
  | zero =>
    rw [cnN_none 3 (fun y hy => by
      rcases (show y = 0 ∨ y = 1 ∨ y = 2 by omega) with rfl | rfl | rfl
      · exact h0
      · exact h1
      · exact h2)]
    exact Nat.le_refl _
  | succ n ih =>
    have e : cnN P (n + 3 + 1) = cnN P (n + 3) + (if P (n + 3) = true then 1 else 0) := by unfold cnN; split <;> rfl
    rw [show n + 1 + 3 = n + 3 + 1 by omega, e]
    split <;> omega
theorem ur_le (s : SS) : ur s ≤ 58 := cnN_le (P := fun y => decide (3 ≤ y) && !bt (sRea s) y) rfl rfl rfl 58
theorem ur_pos {s : SS} {k : Nat} (h3 : 3 ≤ k) (h6 : k ≤ 60) (hb : bt (sRea s) k = false) : 1 ≤ ur s := by
  unfold ur
  rw [cnN_del (P := fun y => decide (3 ≤ y) && !bt (sRea s) y) (a := k) (by show (decide (3 ≤ k) && !bt (sRea s) k) = true; rw [hb, decide_eq_true h3]; rfl) 61 (by omega)]
  omega
/-- the way down to a directory -/
def PTH (d : DS) (s : SS) (dep sn : Nat) : Prop := ∃ P : Nat → Nat, P dep = sn ∧ (∀ j, j ≤ dep → 1 ≤ P j ∧ P j ≤ 60 ∧ ¬ xSearch d (nI (P j)) (nI 0) = -1 ∧ (P j = 1 ∨ bt (sRea s) (P j) = true)) ∧ (∀ j, j < dep → ¬ xSearch d (nI (P j)) (nI 1) = -1) ∧ ∀ a b, a < b → b ≤ dep → P a ≠ P b
def WS1 (B : Nat) (M : Nat → Nat) (d : DS) (s : SS) (r : RS) (d' : DS) (s' : SS) (r' : RS) (deep : Nat) : Prop := SF B d' s' r' M ∧ LSm d d' ∧ OKm d d' ∧ (∀ k, bt (sRea s) k = true → bt (sRea s') k = true) ∧ ur s' ≤ ur s ∧ rKep r' = rKep r ∧ rWas r' = rWas r ∧ ∀ j, j < deep → rWal r' j = rWal r j ∧ rRch r' j = rRch r j
section WK
variable {d d' d'' : DS} {r r' r'' : RS} {f : FS} {w : WS} {m : MS} {s s' s'' : SS} {g : GS} {B : Nat} {M : Nat → Nat}
theorem WS1.trans {deep : Nat} (h : WS1 B M d s r d' s' r' deep) (h' : WS1 B M d' s' r' d'' s'' r'' deep) : WS1 B M d s r d'' s'' r'' deep := by
  obtain ⟨-, a2, a3, a4, a5, a6, a7, a8⟩ := h
  obtain ⟨b1, b2, b3, b4, b5, b6, b7, b8⟩ := h'
  exact ⟨b1, a2.trans b2, a3.trans b3, fun k z => b4 k (a4 k z), by omega, b6.trans a6, b7.trans a7, fun j hj => ⟨(b8 j hj).1.trans (a8 j hj).1, (b8 j hj).2.trans (a8 j hj).2⟩⟩
theorem PTH.le {dep sn : Nat} (h : PTH d s dep sn) : dep ≤ 19 := by
  obtain ⟨P, -, h1, h2, h3⟩ := h
  apply Classical.byContradiction
  intro hd
  have hall : ∀ q, q < 41 → ∃ i, i < 40 ∧ dCells d (i * 13) = nI (P (q / 2)) ∧ dCells d (i * 13 + 1) = nI (q % 2) := fun q hq => by
    have hne : ¬ xSearch d (nI (P (q / 2))) (nI (q % 2)) = -1 := by
      by_cases q2 : q % 2 = 0
      · rw [q2]; exact (h1 (q / 2) (by omega)).2.2.1
      · rw [show q % 2 = 1 by omega]; exact h2 (q / 2) (by omega)
    obtain ⟨i, i1, -, -, i2, i3⟩ := found (d := d) (nI_m1 (by have := (h1 (q / 2) (by omega)).2.1; omega)) hne
    exact ⟨i, i1, i2, i3⟩
  obtain ⟨a, b, ab, b1, e⟩ := pig 40 (fun q => if hq : q < 41 then (hall q hq).choose else 0) (fun q hq => by
    show (if hq : q < 41 then (hall q hq).choose else 0) < 40
    rw [dif_pos (by omega)]; exact (hall q (by omega)).choose_spec.1)
  have e' : (if hq : a < 41 then (hall a hq).choose else 0) = (if hq : b < 41 then (hall b hq).choose else 0) := e
  rw [dif_pos (show a < 41 by omega), dif_pos (show b < 41 by omega)] at e'
  have e1 := (hall a (by omega)).choose_spec.2
  have e2 := (hall b (by omega)).choose_spec.2
  rw [e'] at e1
  have p1 := (h1 (a / 2) (by omega)).2.1
  have p2 := (h1 (b / 2) (by omega)).2.1
  have q1 : P (a / 2) = P (b / 2) := (nI_eq (by omega) (by omega)).mp (e1.1.symm.trans e2.1)
  have q2 : a % 2 = b % 2 := (nI_eq (by omega) (by omega)).mp (e1.2.symm.trans e2.2)
  by_cases q3 : a / 2 = b / 2
  · omega
  · exact h3 (a / 2) (b / 2) (by omega) (by omega) q1
theorem PTH.mono {dep sn : Nat} (h : PTH d s dep sn) (hl : LSm d d') (hr : ∀ k, bt (sRea s) k = true → bt (sRea s') k = true) : PTH d' s' dep sn := by
  obtain ⟨P, h0, h1, h2, h3⟩ := h
  refine ⟨P, h0, fun j hj => ?_, fun j hj => ?_, h3⟩
  · obtain ⟨a1, a2, a3, a4⟩ := h1 j hj
    exact ⟨a1, a2, by rw [hl.search (nI_m1 (by omega))]; exact a3, a4.imp id (hr _)⟩
  · have := (h1 j (by omega)).2.1
    rw [hl.search (nI_m1 (by omega))]; exact h2 j hj
theorem PTH.step {dep sn fs : Nat} (h : PTH d s dep sn) (hl : LSm d d') (hr : ∀ k, bt (sRea s) k = true → bt (sRea s') k = true) (hp : ¬ xSearch d (nI sn) (nI 1) = -1) (f1 : 3 ≤ fs) (f2 : fs ≤ 60) (f3 : ¬ xSearch d (nI fs) (nI 0) = -1) (f4 : bt (sRea s) fs = false) (f5 : bt (sRea s') fs = true) : PTH d' s' (dep + 1) fs := by
  obtain ⟨P, h0, h1, h2, h3⟩ := h
  refine ⟨fun j => if j ≤ dep then P j else fs, if_neg (by omega), fun j hj => ?_, fun j hj => ?_, fun a b ab hb => ?_⟩
  · show 1 ≤ (if j ≤ dep then P j else fs) ∧ (if j ≤ dep then P j else fs) ≤ 60 ∧ ¬ xSearch d' (nI (if j ≤ dep then P j else fs)) (nI 0) = -1 ∧ ((if j ≤ dep then P j else fs) = 1 ∨ bt (sRea s') (if j ≤ dep then P j else fs) = true)
    by_cases q : j ≤ dep
    · rw [if_pos q]
      obtain ⟨a1, a2, a3, a4⟩ := h1 j q
      exact ⟨a1, a2, by rw [hl.search (nI_m1 (by omega))]; exact a3, a4.imp id (hr _)⟩
    · rw [if_neg q]
      exact ⟨by omega, f2, by rw [hl.search (nI_m1 (by omega))]; exact f3, Or.inr f5⟩
  · show ¬ xSearch d' (nI (if j ≤ dep then P j else fs)) (nI 1) = -1
    rw [if_pos (by omega)]
    have := (h1 j (by omega)).2.1
    rw [hl.search (nI_m1 (by omega))]
    by_cases q : j < dep
    · exact h2 j q
    · rw [show j = dep by omega, h0]; exact hp
  · show (if a ≤ dep then P a else fs) ≠ (if b ≤ dep then P b else fs)
    rw [if_pos (by omega)]
    by_cases q : b ≤ dep
    · rw [if_pos q]; exact h3 a b ab q
    · rw [if_neg q]
      intro z
      have := (h1 a (by omega)).2.2.2
      rw [z] at this
      rcases this with y | y
      · omega
      · rw [f4] at y; exact absurd y (by decide)
theorem ur_or {fs : Nat} (f1 : 3 ≤ fs) (f2 : fs ≤ 60) (f4 : bt (sRea s) fs = false) : ur (sSRea s (sRea s ||| (1 <<< ((nI fs).toInt64 &&& 63)))) + 1 = ur s ∧ (∀ k, bt (sRea s) k = true → bt (sRea s ||| (1 <<< ((nI fs).toInt64 &&& 63))) k = true) ∧ bt (sRea s ||| (1 <<< ((nI fs).toInt64 &&& 63))) fs = true := by
  refine ⟨?_, fun k z => by rw [bt_or, z]; rfl, by rw [bt_or, bt_oneS fs (by omega) fs (by omega), decide_eq_true rfl, Bool.or_true]⟩
  unfold ur
  rw [cnN_del (P := fun y => decide (3 ≤ y) && !bt (sRea s) y) (a := fs) (by show (decide (3 ≤ fs) && !bt (sRea s) fs) = true; rw [f4, decide_eq_true f1]; rfl) 61 (by omega)]
  congr 1
  apply cnN_cg
  intro y hy
  show (decide (3 ≤ y) && !bt (sRea s ||| (1 <<< ((nI fs).toInt64 &&& 63))) y) = _
  rw [bt_or, bt_oneS fs (by omega) y (by omega), Bool.not_or, Bool.and_assoc]
theorem SF.rch (h : SF B d s r M) (t : Nat → Int32) : SF B d s (rSRch r t) M := by
  refine ⟨h.1.rchS t, h.2.1, h.2.2.1, h.2.2.2.1.lab (fun _ _ _ _ => rfl) rfl (Tab_Rch r t) (Man_Rch r t), ?_⟩
  have := h.2.2.2.2
  unfold SV at this ⊢
  rw [Rep_Rch, Rea_Rch]; exact this
theorem SF.wal (h : SF B d s r M) (t : Nat → Int32) : SF B d s (rSWal r t) M := by
  refine ⟨h.1.walS t, h.2.1, h.2.2.1, h.2.2.2.1.lab (fun _ _ _ _ => rfl) rfl (Tab_Wal r t) (Man_Wal r t), ?_⟩
  have := h.2.2.2.2
  unfold SV at this ⊢
  rw [Rep_Wal, Rea_Wal]; exact this
theorem PL.lab {sn k : Nat} {v : Int32} (h : PL d sn k v) (hl : LSm d d') (hs : sn ≤ 60) : PL d' sn k v := by
  have he : ∀ i, i < 40 → en d' i = en d i := fun i hi => by
    unfold en vN
    rw [hl.1 i hi 2 (by decide)]
  have hS : xSearch d' (nI sn) (nI (k / 2 + 1)) = xSearch d (nI sn) (nI (k / 2 + 1)) := hl.search (nI_m1 (by omega))
  rcases h with ⟨h1, h2⟩ | ⟨i, i1, i2, i3, i4, i5, i6, i7⟩
  · exact Or.inl ⟨h1, fun i hi z => by rw [he i hi]; exact h2 i hi (by rw [← hS]; exact z)⟩
  · exact Or.inr ⟨i, i1, by rw [hl.2.1]; exact i2, (hl.1 i i1 0 (by decide)).trans i3, (hl.1 i i1 1 (by decide)).trans i4, by rw [hS]; exact i5, by rw [he i i1]; exact i6, i7⟩
theorem LSm.symm (h : LSm d d') : LSm d' d := ⟨fun i hi k hk => (h.1 i hi k hk).symm, h.2.1.symm, h.2.2.1.symm, fun y hy u k hk => (h.2.2.2 y hy (by rw [← h.2.1]; exact u) k hk).symm⟩
theorem R_turn {n deep tn k : Nat} {v x : Int32} (h1 : 1 ≤ deep) (h2 : deep ≤ 30) (h3 : tn < 100000) (hx : rWal r (deep - 1) = x) (hk : rRch r (deep - 1) = nI k) (hp : f_Mod_place r x (nI k) = some (v, ())) : L_Mod_walk_18 (n + 1) r (nI deep) (nI tn) = B_Mod_walk_68 (L_Mod_walk_18 n) (rSRch r (upd (rRch r) (deep - 1) (nI (k + 1)))) (nI deep) (nI tn) v := by
  have e1 : (nI deep - 1 : Int32) = nI (deep - 1) := by
    obtain ⟨a, rfl⟩ : ∃ a, deep = a + 1 := ⟨deep - 1, by omega⟩
    rw [← nI_1, Int32.add_sub_cancel, Nat.add_sub_cancel]
  unfold L_Mod_walk_18
  rw [if_neg (show ¬ (100000 : Int32) ≤ nI tn from nI_ge (a := tn) (b := 100000) (by omega) (by decide)), if_neg (show ¬ nI deep ≤ 0 from nI_nle (by omega) (by omega)), e1, if_pos (inB_nI (show deep - 1 < 61 by omega) (by decide)), if_pos (inB_nI (show deep - 1 < 61 by omega) (by decide)), cl_nI (by omega), hx, hk, hp, bnd_some]
  unfold B_Mod_walk_48
  rw [e1, if_pos (inB_nI (show deep - 1 < 61 by omega) (by decide)), if_pos (inB_nI (show deep - 1 < 61 by omega) (by decide)), cl_nI (by omega), hk, nI_1]
theorem R_wkE {n tn : Nat} {x2 : Int32} : B_Mod_walk_68 (L_Mod_walk_18 n) r x2 (nI tn) (-1) = L_Mod_walk_18 n r (x2 - 1) (nI (tn + 1)) := by
  unfold B_Mod_walk_68 B_Mod_walk_86 B_Mod_walk_139 B_Mod_walk_140 B_Mod_walk_226
  rw [if_neg (by decide), if_pos (by decide), if_neg (by decide), nI_1]
/-- what a walk of a directory does -/
def WIH (B : Nat) (M : Nat → Nat) (f : FS) (w : WS) (m : MS) (rW : DS → FS → WS → MS → SS → Int32 → Int32 → Option (Unit × (DS × SS))) (dep : Nat) : Prop := ∀ d s r sn deep tn, SF B d s r M → PTH d s dep sn → 1 ≤ deep → deep ≤ dep + 1 → rWal r (deep - 1) = nI sn → rRch r (deep - 1) = nI 0 → tn + 80 * ur s + 80 ≤ 90000 → ∃ T d' s' r', rW d f w m s (nI sn) (nI dep) = some ((), (d', s')) ∧ (∀ N, L_Mod_walk_18 (N + T) r (nI deep) (nI tn) = L_Mod_walk_18 N r' (nI (deep - 1)) (nI (tn + T))) ∧ WS1 B M d s r d' s' r' (deep - 1) ∧ T + 80 * ur s' ≤ 80 * ur s + 80 ∧ ∃ K, PL d sn K (-1) ∧ ∀ k, k < K → ∀ i t, i < 40 → t < 2 → PL d sn k (nI (8 * i + 4 * t)) → OKE d' i t
theorem R_walkL {rW : DS → FS → WS → MS → SS → Int32 → Int32 → Option (Unit × (DS × SS))} {sn dep deep : Nat} (hW : WIH B M f w m rW (dep + 1)) (hd1 : 1 ≤ deep) (hd2 : deep ≤ dep + 1) (hs1 : 1 ≤ sn) (hs : sn ≤ 60) : ∀ j k, k + j = 78 → ∀ n2, j + 1 < n2 → ∀ d s r tn, SF B d s r M → PTH d s dep sn → rWal r (deep - 1) = nI sn → rRch r (deep - 1) = nI k → tn + 80 * ur s + (80 - k) ≤ 90000 → ∃ T d' s' r', L_Scav_walkDirectory_9 rW n2 d f w m s (nI sn) (nI dep) (nI k) = some ((), (d', s')) ∧ (∀ N, L_Mod_walk_18 (N + T) r (nI deep) (nI tn) = L_Mod_walk_18 N r' (nI (deep - 1)) (nI (tn + T))) ∧ WS1 B M d s r d' s' r' (deep - 1) ∧ T + 80 * ur s' ≤ 80 * ur s + (80 - k) ∧ ∃ K, k ≤ K ∧ PL d sn K (-1) ∧ ∀ k', k ≤ k' → k' < K → ∀ i t, i < 40 → t < 2 → PL d sn k' (nI (8 * i + 4 * t)) → OKE d' i t := by
  have hE : ∀ k n2, k ≤ 78 → 1 < n2 → ∀ d s r tn, SF B d s r M → PTH d s dep sn → rWal r (deep - 1) = nI sn → rRch r (deep - 1) = nI k → tn + 80 * ur s + (80 - k) ≤ 90000 → f_Scav_entryPlace d f w m s (nI sn) (nI k) = (-1, ()) → f_Mod_place r (nI sn) (nI k) = some (-1, ()) → PL d sn k (-1) → ∃ T d' s' r', L_Scav_walkDirectory_9 rW n2 d f w m s (nI sn) (nI dep) (nI k) = some ((), (d', s')) ∧ (∀ N, L_Mod_walk_18 (N + T) r (nI deep) (nI tn) = L_Mod_walk_18 N r' (nI (deep - 1)) (nI (tn + T))) ∧ WS1 B M d s r d' s' r' (deep - 1) ∧ T + 80 * ur s' ≤ 80 * ur s + (80 - k) ∧ ∃ K, k ≤ K ∧ PL d sn K (-1) ∧ ∀ k', k ≤ k' → k' < K → ∀ i t, i < 40 → t < 2 → PL d sn k' (nI (8 * i + 4 * t)) → OKE d' i t := by
    intro k n2 hk hn2 d s r tn h hP hx hy htn v1 v2 v3
    have hle := hP.le
    obtain ⟨n, rfl⟩ : ∃ n, n2 = n + 1 := ⟨n2 - 1, by omega⟩
    refine ⟨1, d, s, rSRch r (upd (rRch r) (deep - 1) (nI (k + 1))), ?_, fun N => ?_, ?_, by omega, k, Nat.le_refl _, v3, fun k' a b => absurd b (by omega)⟩
    · unfold L_Scav_walkDirectory_9
      rw [if_neg (show ¬ (80 : Int32) ≤ nI k from nI_ge (a := k) (b := 80) (by omega) (by decide)), v1, if_neg (not_not_intro rfl)]
    · rw [R_turn hd1 (by omega) (by omega) hx hy v2, R_wkE]
      obtain ⟨a, rfl⟩ : ∃ a, deep = a + 1 := ⟨deep - 1, by omega⟩
      rw [nI_pred, Nat.add_sub_cancel]
    · refine ⟨h.rch _, LSm.refl d, OKm.refl d, fun _ z => z, Nat.le_refl _, Kep_Rch r _, Was_Rch r _, fun j hj => ⟨by rw [Wal_Rch], ?_⟩⟩
      rw [Rch_Rch, pk_un (by omega)]
  intro j
  induction j with
  | zero =>
    intro k hk n2 hn2 d s r tn h hP hx hy htn
    obtain ⟨v, v1, v2, v3⟩ := R_place (f := f) (w := w) (m := m) h hs1 hs (show k < 500 by omega)
    have v3' := v3
    rcases v3' with ⟨rfl, -⟩ | ⟨i, i1, i2, i3, i4, -⟩
    · exact hE k n2 (by omega) (by omega) d s r tn h hP hx hy htn v1 v2 v3
    · obtain ⟨p, p1, p2⟩ := (h.2.2.2.1.2 sn hs1 hs).2.2.2.2.2.1 i i1 i2 i3
      have p3 := (h.2.2.2.1.2 sn hs1 hs).1
      have p4 : k / 2 + 1 = p := (nI_eq (by omega) (by omega)).mp (i4.symm.trans p2)
      omega
  | succ j ih =>
    intro k hk n2 hn2 d s r tn h hP hx hy htn
    obtain ⟨v, v1, v2, v3⟩ := R_place (f := f) (w := w) (m := m) h hs1 hs (show k < 500 by omega)
    have v3' := v3
    rcases v3' with ⟨rfl, -⟩ | ⟨i, i1, i2, i3, i4, i5, i6, i7⟩
    · exact hE k n2 (by omega) (by omega) d s r tn h hP hx hy htn v1 v2 v3
    · have hK := h.2.2.2.1.2 sn hs1 hs
      obtain ⟨p, p1, p2⟩ := hK.2.2.2.2.2.1 i i1 i2 i3
      have p3 := hK.1
      have p4 : k / 2 + 1 = p := (nI_eq (by omega) (by omega)).mp (i4.symm.trans p2)
      have hp1 : ¬ xSearch d (nI sn) (nI 1) = -1 := (hK.2.2.2.2.1 1 (by omega) (by omega)).2
      have hle := hP.le
      subst i7
      have I := h.2.1
      obtain ⟨n, rfl⟩ : ∃ n, n2 = n + 1 := ⟨n2 - 1, by omega⟩
      have hC : L_Scav_walkDirectory_9 rW (n + 1) d f w m s (nI sn) (nI dep) (nI k) = bnd (f_Scav_settleEntry rW d f w m s (nI (8 * i + 4 * (k % 2))) (nI dep)) (fun q => L_Scav_walkDirectory_9 rW n q.2.1 f w m q.2.2 (nI sn) (nI dep) (nI (k + 1))) := by
        show (if (80 : Int32) ≤ nI k then _ else _) = _
        rw [if_neg (show ¬ (80 : Int32) ≤ nI k from nI_ge (a := k) (b := 80) (by omega) (by decide)), v1, if_pos (show ¬ nI (8 * i + 4 * (k % 2)) = -1 from nI_m1 (by omega))]
        unfold B_Scav_walkDirectory_37
        rw [nI_1]
      have hT : ∀ N, L_Mod_walk_18 (N + 1) r (nI deep) (nI tn) = B_Mod_walk_68 (L_Mod_walk_18 N) (rSRch r (upd (rRch r) (deep - 1) (nI (k + 1)))) (nI deep) (nI tn) (nI (8 * i + 4 * (k % 2))) := fun N => R_turn hd1 (by omega) (by omega) hx hy v2
      have R1 : upd (rRch r) (deep - 1) (nI (k + 1)) (deep - 1) = nI (k + 1) := pk_us
      have R2 : ∀ a, a ≠ deep - 1 → upd (rRch r) (deep - 1) (nI (k + 1)) a = rRch r a := fun a ha => pk_un ha
      generalize upd (rRch r) (deep - 1) (nI (k + 1)) = R at R1 R2 hT
      have h1 := h.rch R
      have hS1 : rWal (rSRch r R) = rWal r ∧ rRch (rSRch r R) = R ∧ rKep (rSRch r R) = rKep r ∧ rWas (rSRch r R) = rWas r := ⟨Wal_Rch r R, Rch_Rch r R, Kep_Rch r R, Was_Rch r R⟩
      generalize rSRch r R = r1 at h1 hT hS1
      obtain ⟨g1, g2, g3, g4⟩ := hS1
      have hstep : ∀ d1 s1 r1' T1, f_Scav_settleEntry rW d f w m s (nI (8 * i + 4 * (k % 2))) (nI dep) = some ((), (d1, s1)) → (∀ N, L_Mod_walk_18 (N + T1) r (nI deep) (nI tn) = L_Mod_walk_18 N r1' (nI deep) (nI (tn + T1))) → WS1 B M d s r d1 s1 r1' (deep - 1) → rWal r1' (deep - 1) = nI sn → rRch r1' (deep - 1) = nI (k + 1) → T1 + 80 * ur s1 ≤ 80 * ur s + 1 → OKE d1 i (k % 2) → ∃ T d' s' r', L_Scav_walkDirectory_9 rW (n + 1) d f w m s (nI sn) (nI dep) (nI k) = some ((), (d', s')) ∧ (∀ N, L_Mod_walk_18 (N + T) r (nI deep) (nI tn) = L_Mod_walk_18 N r' (nI (deep - 1)) (nI (tn + T))) ∧ WS1 B M d s r d' s' r' (deep - 1) ∧ T + 80 * ur s' ≤ 80 * ur s + (80 - k) ∧ ∃ K, k ≤ K ∧ PL d sn K (-1) ∧ ∀ k', k ≤ k' → k' < K → ∀ i t, i < 40 → t < 2 → PL d sn k' (nI (8 * i + 4 * t)) → OKE d' i t := by
        intro d1 s1 r1' T1 a1 a2 a3 a4 a5 a6 a7
        obtain ⟨T, d', s', r', b1, b2, b3, b4, K, b5, b6, b7⟩ := ih (k + 1) (by omega) n (by omega) d1 s1 r1' (tn + T1) a3.1 (hP.mono a3.2.1 a3.2.2.2.1) a4 a5 (by omega)
        refine ⟨T + T1, d', s', r', by rw [hC, a1, bnd_some]; exact b1, fun N => ?_, a3.trans b3, by omega, K, by omega, b6.lab a3.2.1.symm hs, fun k' c1 c2 i' t' c3 c4 c5 => ?_⟩
        · rw [← Nat.add_assoc, a2, b2, show tn + T1 + T = tn + (T + T1) by omega]
        · by_cases ek : k' = k
          · subst ek
            have ev := PL.det I c5 v3
            have ev2 := (nI_eq (by omega) (by omega)).mp ev
            obtain rfl : i' = i := by omega
            obtain rfl : t' = k' % 2 := by omega
            exact b3.2.2.1 _ _ c3 c4 a7
          · exact b7 k' (by omega) c2 i' t' c3 c4 (c5.lab a3.2.1 hs)
      rcases R_settle (rW := rW) (f := f) (w := w) (m := m) (dep := dep) h1 i1 i2 (show k % 2 < 2 by omega) with ⟨d1, r2, a1, a2, a3, a4, a5, a6, a7, a8⟩ | ⟨fs, hh, d1, s1, r2, f1, f2, f3, f4, f5, rfl, a3, a4, a5, a7, a8, a9⟩
      · have w1 : rWal r2 = rWal r := (congrArg (fun z => z.1) a5).trans g1
        have w2 : rRch r2 = R := (congrArg (fun z => z.2.1) a5).trans g2
        have w3 : rKep r2 = rKep r := (congrArg (fun z => z.2.2.1) a5).trans g3
        have w4 : rWas r2 = rWas r := (congrArg (fun z => z.2.2.2) a5).trans g4
        refine hstep d1 s r2 1 a1 (fun N => by rw [hT, a2, nI_1]) ⟨a3, a4, a7, fun _ z => z, Nat.le_refl _, w3, w4, fun j hj => ⟨by rw [w1], by rw [w2, R2 j (by omega)]⟩⟩ (by rw [w1]; exact hx) (by rw [w2, R1]) (by omega) a8
      · have w1 : rWal r2 = rWal r := (congrArg (fun z => z.1) a5).trans g1
        have w2 : rRch r2 = R := (congrArg (fun z => z.2.1) a5).trans g2
        have w3 : rKep r2 = rKep r := (congrArg (fun z => z.2.2.1) a5).trans g3
        have w4 : rWas r2 = rWas r := (congrArg (fun z => z.2.2.2) a5).trans g4
        obtain ⟨u1, u2, u3⟩ := ur_or (s := s) f1 f2 f5
        have hf0 : ¬ xSearch d (nI fs) (nI 0) = -1 := by
          rw [show xSearch d (nI fs) (nI 0) = nI hh from f4]; exact nI_m1 (by omega)
        have hP1 := hP.step (s' := sSRea s (sRea s ||| (1 <<< ((nI fs).toInt64 &&& 63)))) a4 u2 hp1 f1 f2 hf0 f5 u3
        generalize eS : sSRea s (sRea s ||| (1 <<< ((nI fs).toInt64 &&& 63))) = s1 at u1 a3 a9 hP1
        have u2' : ∀ k, bt (sRea s) k = true → bt (sRea s1) k = true := by rw [← eS]; exact u2
        have hw : WS1 B M d s r d1 s1 r2 (deep - 1) := ⟨a3, a4, a7, u2', by omega, w3, w4, fun j hj => ⟨by rw [w1], by rw [w2, R2 j (by omega)]⟩⟩
        rcases a9 with ⟨b1, b2⟩ | ⟨b1, b2⟩
        · exact hstep d1 s1 r2 1 b1 (fun N => by rw [hT, b2, nI_1]) hw (by rw [w1]; exact hx) (by rw [w2, R1]) (by omega) a8
        · have hb : ∀ N, L_Mod_walk_18 (N + 1) r (nI deep) (nI tn) = L_Mod_walk_18 N (rSRch (rSWal r2 (upd (rWal r1) deep (nI fs))) (upd (rRch r1) deep 0)) (nI (deep + 1)) (nI (tn + 1)) := fun N => by rw [hT, b2 _ _ deep (by omega), nI_1]
          rw [g1, g2] at hb
          have W1 : upd (rWal r) deep (nI fs) deep = nI fs := pk_us
          have W2 : ∀ a, a ≠ deep → upd (rWal r) deep (nI fs) a = rWal r a := fun a ha => pk_un ha
          have Q1 : upd R deep 0 deep = nI 0 := pk_us
          have Q2 : ∀ a, a ≠ deep → upd R deep 0 a = R a := fun a ha => pk_un ha
          generalize upd (rWal r) deep (nI fs) = W at hb W1 W2
          generalize upd R deep 0 = Q at hb Q1 Q2
          have h5 := (a3.wal W).rch Q
          have z1 : rWal (rSRch (rSWal r2 W) Q) = W := (Wal_Rch _ _).trans (Wal_Wal _ _)
          have z2 : rRch (rSRch (rSWal r2 W) Q) = Q := Rch_Rch _ _
          have z3 : rKep (rSRch (rSWal r2 W) Q) = rKep r := ((Kep_Rch _ _).trans (Kep_Wal _ _)).trans w3
          have z4 : rWas (rSRch (rSWal r2 W) Q) = rWas r := ((Was_Rch _ _).trans (Was_Wal _ _)).trans w4
          generalize rSRch (rSWal r2 W) Q = r3 at h5 z1 z2 z3 z4 hb
          obtain ⟨T, d', s', r', c1, c2, c3, c4, -⟩ := hW d1 s1 r3 fs (deep + 1) (tn + 1) h5 hP1 (by omega) (by omega) (by rw [z1]; exact W1) (by rw [z2]; exact Q1) (by omega)
          obtain ⟨e1, e2, e3, e4, e5, e6, e7, e8⟩ := c3
          refine hstep d' s' r' (T + 1) (by rw [b1, c1, bnd_some]) (fun N => ?_) ⟨e1, a4.trans e2, a7.trans e3, fun k z => e4 k (u2' k z), by omega, e6.trans z3, e7.trans z4, fun j hj => ?_⟩ ?_ ?_ (by omega) (e3 _ _ i1 (by omega) a8)
          · rw [← Nat.add_assoc, hb, c2, show deep + 1 - 1 = deep by omega, show tn + 1 + T = tn + (T + 1) by omega]
          · have := e8 j (by omega)
            rw [this.1, this.2, z1, z2, W2 j (by omega), Q2 j (by omega), R2 j (by omega)]
            exact ⟨rfl, rfl⟩
          · rw [(e8 (deep - 1) (by omega)).1, z1, W2 _ (by omega)]; exact hx
          · rw [(e8 (deep - 1) (by omega)).2, z2, Q2 _ (by omega), R1]
theorem R_walkN : ∀ n dep, 30 ≤ n + dep → WIH B M f w m (F_Scav_walk n) dep := by
  intro n
  induction n with
  | zero =>
    intro dep hd d s r sn deep tn h hP
    have := hP.le
    omega
  | succ n ih =>
    intro dep hd d s r sn deep tn h hP hd1 hd2 hx hy htn
    have hle := hP.le
    have hsn : 1 ≤ sn ∧ sn ≤ 60 := by
      obtain ⟨P, h0, h1, -⟩ := hP
      rw [← h0]
      exact ⟨(h1 dep (Nat.le_refl _)).1, (h1 dep (Nat.le_refl _)).2.1⟩
    obtain ⟨T, d', s', r', b1, b2, b3, b4, K, b5, b6, b7⟩ := R_walkL (ih (dep + 1) (by omega)) hd1 hd2 hsn.1 hsn.2 78 0 (by omega) 100 (by omega) d s r tn h hP hx hy (by omega)
    refine ⟨T, d', s', r', ?_, b2, b3, b4, K, b6, fun k hk => b7 k (by omega) hk⟩
    unfold F_Scav_walk f_Scav_walkDirectory
    rw [if_pos (show nI dep ≤ 20 from nI_le (b := 20) (by omega) (by decide))]
    exact b1
theorem R_walk {sn dep : Nat} (h : SF B d s r M) (hP : PTH d s dep sn) : ∃ d' s' r', F_Scav_walk 100 d f w m s (nI sn) (nI dep) = some ((), (d', s')) ∧ f_Mod_walk r (nI sn) = some ((), r') ∧ WS1 B M d s r d' s' r' 0 ∧ ∃ K, PL d sn K (-1) ∧ ∀ k, k < K → ∀ i t, i < 40 → t < 2 → PL d sn k (nI (8 * i + 4 * t)) → OKE d' i t := by
  have hu := ur_le s
  unfold f_Mod_walk B_Mod_walk_9 B_Mod_walk_16
  rw [if_pos (by decide), if_pos (by decide)]
  have W1 : upd (rWal r) 0 (nI sn) 0 = nI sn := pk_us
  show ∃ d' s' r', _ ∧ L_Mod_walk_18 20000 (rSRch (rSWal r (upd (rWal r) 0 (nI sn))) (upd (rRch (rSWal r (upd (rWal r) 0 (nI sn)))) 0 0)) (nI 1) (nI 0) = _ ∧ _
  generalize upd (rWal r) 0 (nI sn) = W at W1 ⊢
  rw [Rch_Wal]
  have Q1 : upd (rRch r) 0 0 0 = nI 0 := pk_us
  generalize upd (rRch r) 0 0 = Q at Q1 ⊢
  have h5 := (h.wal W).rch Q
  have z1 : rWal (rSRch (rSWal r W) Q) = W := (Wal_Rch _ _).trans (Wal_Wal _ _)
  have z2 : rRch (rSRch (rSWal r W) Q) = Q := Rch_Rch _ _
  have z3 : rKep (rSRch (rSWal r W) Q) = rKep r := (Kep_Rch _ _).trans (Kep_Wal _ _)
  have z4 : rWas (rSRch (rSWal r W) Q) = rWas r := (Was_Rch _ _).trans (Was_Wal _ _)
  generalize rSRch (rSWal r W) Q = r3 at h5 z1 z2 z3 z4 ⊢
  obtain ⟨T, d', s', r', c1, c2, c3, c4, c5⟩ := R_walkN (f := f) (w := w) (m := m) 100 dep (by omega) d s r3 sn 1 0 h5 hP (Nat.le_refl _) (by omega) (by rw [z1]; exact W1) (by rw [z2]; exact Q1) (by omega)
  obtain ⟨e1, e2, e3, e4, e5, e6, e7, e8⟩ := c3
  refine ⟨d', s', r', c1, ?_, ⟨e1, e2, e3, e4, e5, e6.trans z3, e7.trans z4, fun j hj => absurd hj (by omega)⟩, c5⟩
  obtain ⟨n, hn⟩ : ∃ n, 20000 = n + 1 + T := ⟨19999 - T, by omega⟩
  rw [hn, c2]
  unfold L_Mod_walk_18
  rw [if_neg (show ¬ (100000 : Int32) ≤ nI (0 + T) from nI_ge (a := 0 + T) (b := 100000) (by omega) (by decide)), if_pos (by decide)]
end WK
