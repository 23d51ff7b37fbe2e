/-! the calls' ends; length, read -/
def ans (q : Nat ⊕ Int32) (a th : Int32) (T : List (Nat × Int32)) : Prop := match q with
  | .inl e => ctab T e = some th
  | .inr v => th = 0 ∧ a = v
section E5
variable (r : RS) (a c1 c2 c3 c4 c5 : Int32)
theorem ends0 (h : rFau r = 0) : f_Mod_ends r a c1 c2 c3 c4 c5 = (a, rSThr r 0) := by
  unfold f_Mod_ends B_Mod_ends_64 B_Mod_ends_67
  rw [if_neg (not_not_intro h)]
  exact if_neg (not_not_intro h)
theorem ends1 (h : rFau r = 1) : f_Mod_ends r a c1 c2 c3 c4 c5 = (0, rSThr r c1) := by
  unfold f_Mod_ends B_Mod_ends_64 B_Mod_ends_67
  rw [if_pos (by rw [h]; decide), if_neg (not_not_intro h)]
  exact if_pos (by show ¬ rFau r = 0; rw [h]; decide)
theorem ends2 (h : rFau r = 2) : f_Mod_ends r a c1 c2 c3 c4 c5 = (0, rSThr r c2) := by
  unfold f_Mod_ends B_Mod_ends_64 B_Mod_ends_67
  rw [if_pos (by rw [h]; decide), if_pos (by rw [h]; decide), if_neg (not_not_intro h)]
  exact if_pos (by show ¬ rFau r = 0; rw [h]; decide)
theorem ends3 (h : rFau r = 3) : f_Mod_ends r a c1 c2 c3 c4 c5 = (0, rSThr r c3) := by
  unfold f_Mod_ends B_Mod_ends_64 B_Mod_ends_67
  rw [if_pos (by rw [h]; decide), if_pos (by rw [h]; decide), if_pos (by rw [h]; decide), if_neg (not_not_intro h)]
  exact if_pos (by show ¬ rFau r = 0; rw [h]; decide)
theorem ends4 (h : rFau r = 4) : f_Mod_ends r a c1 c2 c3 c4 c5 = (0, rSThr r c4) := by
  unfold f_Mod_ends B_Mod_ends_64 B_Mod_ends_67
  rw [if_pos (by rw [h]; decide), if_pos (by rw [h]; decide), if_pos (by rw [h]; decide), if_pos (by rw [h]; decide), if_neg (not_not_intro h)]
  exact if_pos (by show ¬ rFau r = 0; rw [h]; decide)
theorem ends5 (h : rFau r = 5) : f_Mod_ends r a c1 c2 c3 c4 c5 = (0, rSThr r c5) := by
  unfold f_Mod_ends B_Mod_ends_64 B_Mod_ends_67
  rw [if_pos (by rw [h]; decide), if_pos (by rw [h]; decide), if_pos (by rw [h]; decide), if_pos (by rw [h]; decide), if_pos (by rw [h]; decide)]
  exact if_pos (by show ¬ rFau r = 0; rw [h]; decide)
end E5
section T1
variable {d : DS} {r : RS} {f : FS} {w : WS} {m : MS} {s : SS} {g : GS} {B : Nat}
theorem unb1 : f_LV_unbroken (-1) = (.inl 4, ()) := by decide
theorem unb2 {j : Nat} (h : j < 40) : f_LV_unbroken (nI j) = (.inr (nI j), ()) := by
  unfold f_LV_unbroken
  rw [if_pos (nI_m1 (by omega))]
/-- power or none -/
theorem pw (h : RD d r) : (f_LV_requirePower d f w m s g = (.inr (), ()) ∧ rDar r = 0) ∨ (f_LV_requirePower d f w m s g = (.inl 1, ()) ∧ rDar r = 1) := by
  unfold f_LV_requirePower f_Disk_hasPower
  rcases h.2.2.2.2.2 with ⟨h1, h2⟩ | ⟨h1, h2⟩
  · exact Or.inl ⟨by rw [h1]; rfl, h2⟩
  · exact Or.inr ⟨by rw [h1]; rfl, h2⟩
theorem begin0 (h2 : rDar r = 1) (x : Int32) : f_Mod_begin r x = some (-1, rSFau (rSThr r 0) 1) := by
  unfold f_Mod_begin B_Mod_begin_5 B_Mod_begin_18 B_Mod_begin_21
  show (if rDar r = 0 then _ else if rDar r = 0 then _ else _) = _
  rw [h2]; rfl
/-- the leader that a call begins with -/
theorem R_begin (h : RD d r) (hf : RF f r) (J : IF f) (hp : rDar r = 0) (x : Int32) : ∃ v mm k f', f_LV_requireLeader d f w m s g x = some (if v = -1 then .inl 2 else .inr v, (dSMis d mm, f')) ∧ f_Mod_begin r x = some (v, rSFau (rSMis (rSKep (rSThr r 0) k) mm) (if v = -1 then 2 else 0)) ∧ RF f' (rSKep r k) ∧ IF f' ∧ (v = -1 ∨ ∃ i, i < 40 ∧ v = nI i ∧ isLd d i x) := by
  obtain ⟨v, mm, k, f', e1, e2, e3, e4, e5⟩ := R_leader (r := rSFau (rSThr r 0) 0) (show RD d (rSFau (rSThr r 0) 0) from h) (show RF f (rSFau (rSThr r 0) 0) from hf) J x
  refine ⟨v, mm, k, f', ?_, ?_, e3, e4, e5⟩
  · unfold f_LV_requireLeader B_LV_requireLeader_8
    rw [e1, bnd_some]
    show (if ¬ v = -1 then _ else _) = _
    by_cases hv : v = -1
    · rw [if_neg (not_not_intro hv), if_pos hv]
    · rw [if_pos hv, if_neg hv]
  · unfold f_Mod_begin B_Mod_begin_5 B_Mod_begin_18 B_Mod_begin_21
    have hp' : rDar (rSThr r 0) = 0 := hp
    have hp2 : rDar (rSFau (rSThr r 0) 0) = 0 := hp
    rw [if_pos hp', if_pos hp2, e2, bnd_some]
    unfold B_Mod_begin_35 B_Mod_begin_46 B_Mod_begin_49
    show (if 0 ≤ v then _ else _) = _
    rcases e5 with rfl | ⟨i, hi, rfl, -⟩
    · rfl
    · rw [if_pos (nI_pos' (by omega)), if_neg (nI_m1 (by omega))]; rfl
def len (d : DS) (j : Nat) : Int32 := if ¬ dCells d (j * 13 + 1) = 0 then 8 * (dCells d (j * 13 + 1) - 1) + dCells d (j * 13 + 2) else 0
theorem C_len {j : Nat} (hj : j < 40) (hu : dUnr d j = 0) : f_Disk_lengthUpTo d (nI j) = (len d j, ()) := by
  unfold f_Disk_lengthUpTo len
  rw [xc1 hj hu, xc2 hj hu]
  by_cases h : dCells d (j * 13 + 1) = 0
  · rw [if_neg (not_not_intro h), if_neg (not_not_intro h)]
  · rw [if_pos h, if_pos h]
theorem R_len (h : RD d r) {j : Nat} (hj : j < 40) : f_Mod_lengthAt r (nI j) = some (len d j, ()) := by
  unfold f_Mod_lengthAt len
  rw [if_pos (inB_nI hj (by decide)), if_pos (inB_nI hj (by decide)), if_pos (inB_nI hj (by decide)), cl_nI (by omega), ← h.pag hj, ← h.use hj]
  by_cases h : dCells d (j * 13 + 1) = 0
  · rw [if_neg (not_not_intro h), if_neg (not_not_intro h)]
  · rw [if_pos h, if_pos h]
theorem S_length_22 {v : Int32} (h : RD d r) (hf : RF f r) (hv : (v = -1 ∧ rFau r = 4) ∨ ∃ j, v = nI j ∧ j < 40 ∧ dUnr d j = 0 ∧ rFau r = 0) : ∃ q r' a, B_LV_length_22 d f w m s g v = some (q, (d, f)) ∧ B_Mod_length_18 r v = some (a, r') ∧ RD d r' ∧ RF f r' ∧ rRep r' = rRep r ∧ ans q a (rThr r') [(1, 1), (2, 2), (4, 3)] := by
  unfold B_LV_length_22 B_Mod_length_18 B_Mod_length_22 B_Mod_length_37 B_Mod_length_45
  rcases hv with ⟨rfl, e⟩ | ⟨j, rfl, j1, j2, e⟩
  · rw [unb1, if_neg (by decide), ends4 _ _ _ _ _ _ _ e]
    exact ⟨.inl 4, _, _, rfl, rfl, h, hf, rfl, rfl⟩
  · rw [unb2 j1, if_pos (nI_pos' (by omega)), R_len h j1, bnd_some, ends0 _ _ _ _ _ _ _ e]
    refine ⟨.inr (len d j), _, _, ?_, rfl, h, hf, rfl, rfl, rfl⟩
    show B_LV_length_25 d f w m s g (nI j) = _
    unfold B_LV_length_25
    rw [C_len j1 j2]
theorem S_length (h : RD d r) (hf : RF f r) (I : IV B d) (J : IF f) (x : Int32) : ∃ q d' f' r' a, f_LV_length d f w m s g x = some (q, (d', f')) ∧ f_Mod_length r x = some (a, r') ∧ RD d' r' ∧ RF f' r' ∧ IV B d' ∧ IF f' ∧ rRep r' = rRep r ∧ ans q a (rThr r') [(1, 1), (2, 2), (4, 3)] := by
  unfold f_LV_length f_Mod_length
  rcases pw (f := f) (w := w) (m := m) (s := s) (g := g) h with ⟨p1, p2⟩ | ⟨p1, p2⟩
  · rw [p1]
    show ∃ q d' f' r' a, B_LV_length_4 d f w m s g x = _ ∧ _
    obtain ⟨v, mm, k, f', e1, e2, e3, e4, e5⟩ := R_begin (w := w) (m := m) (s := s) (g := g) h hf J p2 x
    unfold B_LV_length_4
    rw [e1, e2, bnd_some, bnd_some]
    unfold B_Mod_length_5
    rcases e5 with rfl | ⟨i, hi, rfl, l1, l2, l3, -⟩
    · exact ⟨.inl 2, dSMis d mm, f', _, _, rfl, rfl, h.mis mm k, e3, I, e4, rfl, rfl⟩
    · rw [if_neg (nI_m1 (by omega)), if_neg (nI_m1 (by omega))]
      obtain ⟨v, m2, g1, g2, g3⟩ := R_last (f := f') (r := rSFau (rSMis (rSKep (rSThr r 0) k) mm) 0) (h.mis mm k) I hi l1 l3
      show ∃ q d' f'' r' a, B_LV_length_9 (dSMis d mm) f' w m s g (nI i) = _ ∧ (if ¬ (0 : Int32) = 0 then _ else _) = _ ∧ _
      unfold B_LV_length_9
      rw [if_neg (not_not_intro rfl), g1, g2, bnd_some, bnd_some]
      obtain ⟨q, r', a, u1, u2, u3, u4, u5, u6⟩ := S_length_22 (d := dSMis d m2) (f := f') (w := w) (m := m) (s := s) (g := g) (v := v) (r := rSFau (rSMis (rSFau (rSMis (rSKep (rSThr r 0) k) mm) 0) m2) (if v = -1 then 4 else 0)) (h.mis m2 k) e3 (by
        rcases g3 with rfl | ⟨j, rfl, j1, j2, -⟩
        · exact Or.inl ⟨rfl, rfl⟩
        · exact Or.inr ⟨j, rfl, j1, j2, if_neg (nI_m1 (by omega))⟩)
      exact ⟨q, _, _, r', a, u1, u2, u3, u4, I, e4, u5, u6⟩
  · rw [p1, begin0 p2, bnd_some]
    exact ⟨.inl 1, d, f, _, _, rfl, rfl, h, hf, I, J, rfl, rfl⟩
end T1
