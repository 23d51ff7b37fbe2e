/-! directories: entry, open -/
theorem thM_l {τ σ ρ : Type} (x : Nat) (z : σ) (a : Nat → σ → ρ) (b : τ → σ → ρ) : thM (.inl x, z) a b = a x z := rfl
theorem thM_r {τ σ ρ : Type} (v : τ) (z : σ) (a : Nat → σ → ρ) (b : τ → σ → ρ) : thM (.inr v, z) a b = b v z := rfl
section OP
variable {d : DS} {r : RS} {f : FS} {w : WS} {m : MS} {s : SS} {g : GS} {B : Nat}
theorem R_isDir (h : RD d r) {i : Nat} (hi : i < 40) (hu : dUnr d i = 0) : ∃ b : Int32, f_Disk_isDirectory d (nI i) = (b, ()) ∧ f_Mod_isDirectory r (nI i) = some (b, ()) ∧ (b = 0 ∨ b = 1) := by
  unfold f_Disk_isDirectory B_Disk_isDirectory_27 B_Disk_isDirectory_31 f_Disk_byteAt f_Mod_isDirectory B_Mod_isDirectory_35 B_Mod_isDirectory_39
  have e3 : (8 * nI i + 2 : Int32) = nI (8 * i + 2) := ix8 i 2
  have e4 : xCell d (nI i) (5 + 2) = dCells d (i * 13 + (5 + 2)) := xcb (j := 2) hi (by decide) hu
  rw [if_pos (inB_nI hi (by decide)), if_pos (inB_nI hi (by decide)), cl_nI (by omega), ← h.ser hi, xc0 hi hu, e3, if_pos (inB_nI (show 8 * i + 2 < 320 by omega) (by decide)), cl_nI (by omega), ← h.byt hi (show 2 < 8 by decide), e4]
  by_cases h1 : dCells d (i * 13) = 1
  · rw [if_pos h1, if_pos h1]; exact ⟨1, rfl, rfl, Or.inr rfl⟩
  · rw [if_neg h1, if_neg h1]
    have e : dCells d (i * 13) < 3 ↔ dCells d (i * 13) ≤ 2 := by
      rw [Int32.lt_iff_toInt_lt, Int32.le_iff_toInt_le]
      show (dCells d (i * 13)).toInt < 3 ↔ (dCells d (i * 13)).toInt ≤ 2
      omega
    by_cases h2 : dCells d (i * 13) < 3
    · rw [if_pos h2, if_pos (e.mp h2)]; exact ⟨0, rfl, rfl, Or.inl rfl⟩
    · rw [if_neg h2, if_neg (fun q => h2 (e.mpr q))]
      by_cases h3 : dCells d (i * 13 + (5 + 2)) = 1
      · rw [if_neg (not_not_intro h3), if_neg (not_not_intro h3)]; exact ⟨1, rfl, rfl, Or.inr rfl⟩
      · rw [if_pos h3, if_pos h3]; exact ⟨0, rfl, rfl, Or.inl rfl⟩
/-- a directory is wanted: 2 there is no file, 3 it is none, or its leader -/
theorem C_reqDir {v : Int32} {mm : Int32} {f' : FS} {x : Int32} (e1 : f_LV_requireLeader d f w m s g x = some (if v = -1 then .inl 2 else .inr v, (dSMis d mm, f'))) (hv : v = -1 ∨ ∃ i, i < 40 ∧ v = nI i ∧ isLd d i x) : f_LV_requireDirectory d f w m s g x = some (if v = -1 then .inl 2 else if (f_Disk_isDirectory d v).1 = 0 then .inl 3 else .inr v, (dSMis d mm, f')) := by
  unfold f_LV_requireDirectory
  rw [e1, bnd_some]
  rcases hv with rfl | ⟨i, hi, rfl, -⟩
  · rfl
  · rw [if_neg (nI_m1 (by omega)), if_neg (nI_m1 (by omega))]
    show B_LV_requireDirectory_5 (dSMis d mm) f' w m s g (nI i) = _
    unfold B_LV_requireDirectory_5
    show (if ¬ (f_Disk_isDirectory d (nI i)).1 = 0 then _ else _) = _
    by_cases h : (f_Disk_isDirectory d (nI i)).1 = 0
    · rw [if_neg (not_not_intro h), if_pos h]
    · rw [if_pos h, if_neg h]
theorem Pos.pg {s0 : Int32} {i0 e c : Nat} (h : Pos d s0 i0 e c) {t : Nat} (ht : t < ec d e) : ¬ dCells d (e * 13 + 1) = 0 := by
  intro q; unfold ec at ht; rw [if_pos q] at ht; omega
theorem S_entry_71 {k3 e t : Nat} (h : RD d r) (hf : RF f r) (hfa : rFau r = 0) (he : e < 40) (hu : dUnr d e = 0) (ht : t < 2) (hk : k3 ≤ 2) (h1 : wSec w = nI e) (h2 : wSlo w = nI t) (h3 : rFAt r = nI e) (h4 : rFPl r = nI (8 * e + 4 * t)) : ∃ q r' a, B_LV_entry_42 d f w m s g (nI k3) 1 = some (q, (d, f, w)) ∧ B_Mod_entry_71 r (nI k3) = some (a, r') ∧ RD d r' ∧ RF f r' ∧ rRep r' = rRep r ∧ ans q a (rThr r') [(1, 1), (2, 2), (3, 3), (4, 4)] := by
  unfold B_LV_entry_42 B_LV_entry_106 f_Walk_sectorHere B_Mod_entry_71 B_Mod_entry_84 B_Mod_entry_87 B_Mod_entry_126 B_Mod_entry_110 B_Mod_entry_128 B_Mod_entry_139
  rw [if_pos (show ¬ (1 : Int32) = 0 by decide), if_pos (show 0 ≤ rFAt r by rw [h3]; exact nI_pos' (by omega)), if_pos (show rFau (rSFau r 0) ≤ 0 from Int32.le_refl _)]
  have eF : rFPl (rSFau r 0) = nI (8 * e + 4 * t) := h4
  rw [eF]
  have hR : RD d (rSFau r 0) := h
  rcases (show k3 = 0 ∨ k3 = 1 ∨ k3 = 2 by omega) with rfl | rfl | rfl
  · rw [if_neg (not_not_intro (show nI 0 = 0 from rfl)), if_neg (not_not_intro (show nI 0 = 0 from rfl)), R_nam hR he ht, bnd_some]
    unfold B_Mod_entry_126 B_Mod_entry_128 B_Mod_entry_139
    rw [ends0 _ _ _ _ _ _ _ (by rfl), h1, C_namH he hu ht h2]
    exact ⟨_, _, _, rfl, rfl, h, hf, rfl, rfl, rfl⟩
  · have e1 : (nI (8 * e + 4 * t) + 1 + nI 1 : Int32) = nI (8 * e + (4 * t + 2)) := by rw [nI_1, nI_add, show 8 * e + 4 * t + 1 + 1 = 8 * e + (4 * t + 2) by omega]
    rw [if_pos (show ¬ nI 1 = 0 by decide), if_neg (not_not_intro (show nI 1 = 1 from rfl)), if_pos (show ¬ nI 1 = 0 by decide), e1, if_pos (inB_nI (show 8 * e + (4 * t + 2) < 320 by omega) (by decide)), cl_nI (by omega), ends0 _ _ _ _ _ _ _ (by rfl)]
    refine ⟨_, _, _, rfl, rfl, h, hf, rfl, rfl, ?_⟩
    have := C_serH (f := f) he hu ht h1 h2
    unfold f_Walk_serialHere at this
    rw [show f_Disk_byteAt d (wSec w, ()).1 ((f_Walk_offsetHere d f w).1 + 2) = _ from this]
    exact (h.byt he (show 4 * t + 2 < 8 by omega)).symm
  · have e1 : (nI (8 * e + 4 * t) + 1 + nI 2 : Int32) = nI (8 * e + (4 * t + 3)) := by rw [nI_1, nI_add, show 8 * e + 4 * t + 1 + 2 = 8 * e + (4 * t + 3) by omega]
    rw [if_pos (show ¬ nI 2 = 0 by decide), if_pos (show ¬ nI 2 = 1 by decide), if_pos (show ¬ nI 2 = 0 by decide), e1, if_pos (inB_nI (show 8 * e + (4 * t + 3) < 320 by omega) (by decide)), cl_nI (by omega), ends0 _ _ _ _ _ _ _ (by rfl)]
    refine ⟨_, _, _, rfl, rfl, h, hf, rfl, rfl, ?_⟩
    unfold f_Disk_byteAt f_Walk_offsetHere
    show rByt r (8 * e + (4 * t + 3)) = xCell d (wSec w) (5 + (wSlo w * 4 + 3))
    rw [h1, h2, show (4 : Int32) = nI 4 from rfl, show (3 : Int32) = nI 3 from rfl, pk_mul, nI_add, xcb he (by omega) hu, Nat.mul_comm t 4]
    exact (h.byt he (show 4 * t + 3 < 8 by omega)).symm
theorem in3 (y : Int32) : ((f_Mod_in y 0 2).1 = 0 ∧ (y < 0 ∨ (¬ y < 0 ∧ ¬ y ≤ 2))) ∨ (¬ (f_Mod_in y 0 2).1 = 0 ∧ ¬ y < 0 ∧ y ≤ 2 ∧ ∃ j, j ≤ 2 ∧ y = nI j) := by
  by_cases h0 : y < 0
  · exact Or.inl ⟨(inab _ _ _).mpr (Or.inl h0), Or.inl h0⟩
  · by_cases h1 : y ≤ 2
    · refine Or.inr ⟨fun q => ((inab _ _ _).mp q).elim h0 (fun q => absurd h1 (Int32.not_le.mpr q)), h0, h1, ?_⟩
      obtain ⟨j, j1, j2⟩ := nI_of2 (M := 2) (n := 2) rfl h0 h1
      exact ⟨j, j1, j2⟩
    · exact Or.inl ⟨(inab _ _ _).mpr (Or.inr (Int32.not_le.mp h1)), Or.inr ⟨h0, h1⟩⟩
theorem S_entry_24 {y z : Int32} {i : Nat} (h : RD d r) (hf : RF f r) (I : IV B d) (hfa : rFau r = 0) (hi : i < 40) (l1 : dUnr d i = 0) (l3 : dCells d (i * 13 + 1) = 0) : ∃ q mm w' r' a, B_LV_entry_9 d f w m s g y z (nI i) = some (q, (dSMis d mm, f, w')) ∧ B_Mod_entry_24 r y z (nI i) 0 1 = some (a, r') ∧ RD (dSMis d mm) r' ∧ RF f r' ∧ rRep r' = rRep r ∧ ans q a (rThr r') [(1, 1), (2, 2), (3, 3), (4, 4)] := by
  unfold B_LV_entry_9 B_LV_entry_20 B_LV_entry_45 B_Mod_entry_24 B_Mod_entry_40
  rw [if_neg (show ¬ (1 : Int32) = 0 by decide)]
  rcases in3 z with ⟨q1, q2⟩ | ⟨q1, q2, q3, j, j1, rfl⟩
  · rw [if_pos q1]
    refine ⟨.inl 3, dMis d, w, _, _, ?_, rfl, h, hf, rfl, rfl⟩
    rcases q2 with q2 | ⟨q2, q3⟩
    · rw [if_pos q2]; rfl
    · rw [if_neg q2, if_neg q3]; rfl
  · rw [if_neg q1, if_neg q2, if_pos q3]
    unfold B_Mod_entry_41 B_Mod_entry_44 B_Mod_entry_49
    rw [if_neg (not_not_intro (show rFau (rSFAt (rSFau r 0) (-1)) = 0 from rfl))]
    by_cases hy : y < 0
    · rw [if_pos hy, if_pos hy]
      exact ⟨.inl 2, dMis d, w, _, _, rfl, rfl, h, hf, rfl, rfl⟩
    · rw [if_neg hy, if_neg hy]
      have hs := R_seekI (f := f) (w := w) (r := rSFAt (rSFau r 0) (-1)) (show RD d (rSFAt (rSFau r 0) (-1)) from h) I hi l1 l3 rfl y
      rcases hs with ⟨m1, w1, r1, e1', c1, a1, a2, a3, a4, a5, a6, a7, a8, a9, a10, a11, -⟩ | ⟨m1, w1, r1, a1, a2, a3, a4, a5, a6⟩ | ⟨m1, w1, r1, e1', c1, t1, a1, a2, a3, a4, a5, a6, a7, a8, a9, a10, a11, a12⟩
      · rw [a1, a2, bnd_some, bnd_some, thM_r]
        unfold B_Mod_entry_68 B_Mod_entry_71
        rw [if_neg (show ¬ ((1 : Int32), r1).1 = 0 from (by decide : ¬ (1 : Int32) = 0)), if_neg (show ¬ 0 ≤ rFAt r1 by rw [a7]; show ¬ (0 : Int32) ≤ -1; decide)]
        unfold B_Mod_entry_84 B_Mod_entry_87 B_Mod_entry_126 B_Mod_entry_128 B_Mod_entry_139
        rw [if_neg (show ¬ rFau (rSFau r1 2) ≤ 0 by show ¬ (2 : Int32) ≤ 0; decide), ends2 _ _ _ _ _ _ _ (by rfl)]
        refine ⟨.inl 2, m1, w1, _, _, rfl, rfl, a3, ?_, a6, rfl⟩
        intro t t1 t2; show fRem f t = rKep r1 t - 1; rw [a5]; exact hf t t1 t2
      · rw [a1, a2, bnd_some, bnd_some, thM_l]
        unfold B_Mod_entry_68 B_Mod_entry_128 B_Mod_entry_139
        rw [if_pos rfl, ends4 _ _ _ _ _ _ _ a4]
        refine ⟨.inl 4, m1, w1, _, _, rfl, rfl, a3, ?_, a6, rfl⟩
        intro t t1 t2; show fRem f t = rKep r1 t - 1; rw [a5]; exact hf t t1 t2
      · rw [a1, a2, bnd_some, bnd_some, thM_r]
        unfold B_Mod_entry_68
        rw [if_neg (show ¬ ((1 : Int32), r1).1 = 0 from (by decide : ¬ (1 : Int32) = 0))]
        have h22 := ec2 I a7.1
        obtain ⟨q, r', a, u1, u2, u3, u4, u5, u6⟩ := S_entry_71 (d := dSMis d m1) (f := f) (w := w1) (m := m) (s := s) (g := g) (k3 := j) a3 (by intro t t1 t2; rw [a5]; exact hf t t1 t2) a4 a7.1 a7.2.1 (show t1 < 2 by omega) j1 a8 a9 a11 a12
        exact ⟨q, m1, w1, r', a, u1, u2, u3, u4, u5.trans a6, u6⟩
theorem S_entry (h : RL B d f s r) (x y z : Int32) : ∃ q d' f' w' r' a, f_LV_entry d f w m s g x y z = some (q, (d', f', w')) ∧ f_Mod_entry r x y z = some (a, r') ∧ RL B d' f' s r' ∧ ans q a (rThr r') [(1, 1), (2, 2), (3, 3), (4, 4)] := by
  obtain ⟨h, hf, I, J, X, hrep⟩ := h
  unfold f_LV_entry f_Mod_entry
  rcases pw (f := f) (w := w) (m := m) (s := s) (g := g) h with ⟨p1, p2⟩ | ⟨p1, p2⟩
  · obtain ⟨v, mm, k, f', e1, e2, e3, e4, e5⟩ := R_begin (w := w) (m := m) (s := s) (g := g) h hf J p2 x
    rw [p1, thM_r]
    unfold B_LV_entry_4
    rw [C_reqDir e1 e5, e2, bnd_some, bnd_some]
    rcases e5 with rfl | ⟨i, hi, rfl, l1, l2, l3, -⟩
    · exact ⟨.inl 2, dSMis d mm, f', w, _, _, rfl, rfl, ⟨h.mis mm k, e3, I, e4, X, hrep⟩, rfl⟩
    · rw [if_neg (nI_m1 (by omega)), if_neg (nI_m1 (by omega))]
      have h1 : RD (dSMis d mm) (rSFau (rSMis (rSKep (rSThr r 0) k) mm) 0) := h.mis mm k
      obtain ⟨b, b1, b2, b3⟩ := R_isDir h1 hi l1
      unfold B_Mod_entry_5
      rw [show f_Disk_isDirectory d (nI i) = (b, ()) from b1, if_neg (not_not_intro (show rFau (nI i, rSFau (rSMis (rSKep (rSThr r 0) k) mm) 0).2 = 0 from rfl)), b2, bnd_some]
      rcases b3 with rfl | rfl
      · exact ⟨.inl 3, dSMis d mm, f', w, _, _, rfl, rfl, ⟨h.mis mm k, e3, I, e4, X, hrep⟩, rfl⟩
      · rw [if_neg (show ¬ ((1 : Int32), ()).1 = 0 by decide), thM_r]
        obtain ⟨q, m2, w', r', a, u1, u2, u3, u4, u5, u6⟩ := S_entry_24 (d := dSMis d mm) (f := f') (w := w) (m := m) (s := s) (g := g) (y := y) (z := z) h1 e3 I rfl hi l1 l3
        exact ⟨q, _, _, w', r', a, u1, u2, ⟨u3, u4, I, e4, X, by rw [u5]; exact hrep⟩, u6⟩
  · rw [p1, begin0 p2, bnd_some]
    exact ⟨.inl 1, d, f, w, _, _, rfl, rfl, ⟨h, hf, I, J, X, hrep⟩, rfl⟩
end OP
