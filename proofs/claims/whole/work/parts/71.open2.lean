/-! the leader of an entry; open -/
section O2
variable {d : DS} {r : RS} {f : FS} {w : WS} {m : MS} {s : SS} {g : GS} {B : Nat}
/-- what finding an entry's leader comes to -/
def OpR (d : DS) (s : SS) (r0 : RS) (q : Nat ⊕ Int32) (v : Int32) (mm : Int32) (f' : FS) (w' : WS) (r' : RS) : Prop :=
  RD (dSMis d mm) r' ∧ RF f' r' ∧ IF f' ∧ rRep r' = rRep r0 ∧ ((∃ e, q = .inl e ∧ v = -1 ∧ (e = 2 ∨ e = 3 ∨ e = 4) ∧ rFau r' = nI e) ∨
    (∃ i n e t, q = .inr (nI i) ∧ v = nI i ∧ rFau r' = 0 ∧ i < 40 ∧ 3 ≤ n ∧ n ≤ 60 ∧ dUnr d i = 0 ∧ dCells d (i * 13) = nI n ∧ dCells d (i * 13 + 1) = 0 ∧ e < 40 ∧ dUnr d e = 0 ∧ ¬ dCells d (e * 13 + 1) = 0 ∧ t < 2 ∧ wSec w' = nI e ∧ wSlo w' = nI t ∧ rFPl r' = nI (8 * e + 4 * t)))
theorem RF.up {f : FS} {r : RS} (hf : RF f r) (n : Nat) (v : Int32) : RF (fSRem f (upd (fRem f) n v)) (rSKep r (upd (rKep r) n (v + 1))) := by
  intro t t1 t2
  show upd (fRem f) n v t = upd (rKep r) n (v + 1) t - 1
  by_cases ht : t = n
  · rw [ht, pk_us, pk_us, Int32.add_sub_cancel]
  · rw [pk_un ht, pk_un ht]; exact hf t t1 t2
theorem IF.up {f : FS} (J : IF f) (n i : Nat) (hi : i < 40) : IF (fSRem f (upd (fRem f) n (nI i))) := by
  intro t t1 t2
  show upd (fRem f) n (nI i) t = -1 ∨ ∃ i', i' < 40 ∧ upd (fRem f) n (nI i) t = nI i'
  by_cases ht : t = n
  · rw [ht, pk_us]; exact Or.inr ⟨i, hi, rfl⟩
  · rw [pk_un ht]; exact J t t1 t2
theorem S_opened_46 {e t : Nat} (h : RD d r) (hf : RF f r) (I : IV B d) (J : IF f) (hfa : rFau r = 0) (he : e < 40) (hu : dUnr d e = 0) (hp : ¬ dCells d (e * 13 + 1) = 0) (ht : t < 2) (h1 : wSec w = nI e) (h2 : wSlo w = nI t) (h3 : rFAt r = nI e) (h4 : rFPl r = nI (8 * e + 4 * t)) : ∃ q v mm f' r', B_LV_leaderOfEntry_15 d f w m s g 1 = some (q, (dSMis d mm, f', w)) ∧ B_Mod_opened_46 r 1 = some (v, r') ∧ OpR d s r q v mm f' w r' := by
  unfold B_LV_leaderOfEntry_15 B_LV_leaderOfEntry_48 B_Mod_opened_46
  have eS : eSer d e t = rByt r (8 * e + (4 * t + 2)) := h.byt he (show 4 * t + 2 < 8 by omega)
  rw [if_pos (show ¬ (1 : Int32) = 0 by decide), if_pos (show ¬ (1 : Int32) = 0 by decide), if_neg (show ¬ rFAt r < 0 by rw [h3]; exact nI_pos (by omega)), h4, show (nI (8 * e + 4 * t) + 2 : Int32) = nI (8 * e + (4 * t + 2)) from by rw [show (2 : Int32) = nI 2 from rfl, nI_add, Nat.add_assoc], if_pos (inB_nI (show 8 * e + (4 * t + 2) < 320 by omega) (by decide)), cl_nI (by omega), ← eS, C_serH (f := f) he hu ht h1 h2]
  unfold B_Mod_opened_73
  obtain ⟨n, hn, en⟩ := I.byt he (show 4 * t + 2 < 8 by omega)
  have eN : eSer d e t = nI n := en
  rw [eN]
  have hS : ¬ nI n = -1 := nI_m1 (by omega)
  show ∃ q v mm f' r', (if nI n < 3 then _ else if nI n ≤ 60 then _ else _) = _ ∧ _
  by_cases g1 : nI n < 3
  · rw [if_pos g1, if_neg (not_not_intro ((inab _ _ _).mpr (Or.inl g1)))]
    refine ⟨.inl 2, -1, dMis d, f, rSFau r 2, rfl, rfl, h, hf, J, rfl, Or.inl ⟨2, rfl, rfl, Or.inl rfl, rfl⟩⟩
  · rw [if_neg g1]
    by_cases g2 : nI n ≤ 60
    · rw [if_pos g2, if_pos (fun q => ((inab _ _ _).mp q).elim g1 (fun q => absurd g2 (Int32.not_le.mpr q)))]
      have n1 : 3 ≤ n := by
        by_cases q : 3 ≤ n
        · exact q
        · exact absurd ((nI_ltI (b := 3) (by omega) (by decide)).mpr (by omega)) g1
      have n2 : n ≤ 60 := (nI_leI (b := 60) (by omega) (by decide)).mp g2
      obtain ⟨b, hb, eb⟩ := I.byt he (show 4 * t + 3 < 8 by omega)
      have eH : f_Disk_byteAt d (f_Walk_sectorHere d f w).1 ((f_Walk_offsetHere d f w).1 + 3) = (nI b, ()) := by
        unfold f_Disk_byteAt f_Walk_offsetHere f_Walk_sectorHere
        show (xCell d (wSec w) (5 + (wSlo w * 4 + 3)), ()) = _
        rw [h1, h2, show (4 : Int32) = nI 4 from rfl, show (3 : Int32) = nI 3 from rfl, pk_mul, nI_add, xcb he (by omega) hu, Nat.mul_comm t 4, eb]
      have eR : rByt r (8 * e + (4 * t + 3)) = nI b := by rw [← h.byt he (show 4 * t + 3 < 8 by omega), eb]
      rw [h4, show (nI (8 * e + 4 * t) + 3 : Int32) = nI (8 * e + (4 * t + 3)) from by rw [show (3 : Int32) = nI 3 from rfl, nI_add, Nat.add_assoc], if_pos (inB_nI (show 8 * e + (4 * t + 3) < 320 by omega) (by decide)), cl_nI (by omega), eR, R_look h _ _ _ hS, bnd_some, eH]
      show ∃ q v mm f' r', B_LV_leaderOfEntry_93 (f_Disk_looksLike d (nI b) (nI n) 0).2 f w m s g (nI n) (nI b) (f_Disk_looksLike d (nI b) (nI n) 0).1 = _ ∧ _
      rw [C_look]
      unfold B_LV_leaderOfEntry_93 B_Mod_opened_115
      cases hl : lk d (nI b) (nI n) 0
      · obtain ⟨v, mm, k, f', e1, e2, e3, e4, e5⟩ := R_leader (d := dSMis d (dMis d + 1)) (r := rSMis r (dMis d + 1)) (h.mis _ (rKep r)) hf J (nI n)
        rw [if_pos (show ((if false = true then (1 : Int32) else 0), dSMis d (dMis d + if false = true then 0 else 1)).1 = 0 from rfl), if_pos (show ((if false = true then (1 : Int32) else 0), rSMis r (rMis r + if false = true then 0 else 1)).1 = 0 from rfl)]
        have eq : f_LV_requireLeader (dSMis d (dMis d + 1)) f w m s g (nI n) = some (if v = -1 then .inl 2 else .inr v, (dSMis d mm, f')) := by
          unfold f_LV_requireLeader B_LV_requireLeader_8
          rw [e1, bnd_some]
          show (if ¬ v = -1 then _ else _) = _
          by_cases hv : v = -1
          · rw [if_neg (not_not_intro hv), if_pos hv]; rfl
          · rw [if_pos hv, if_neg hv]; rfl
        have er : f_Mod_leader (rSMis r (rMis r + if false = true then 0 else 1)) (nI n) = some (v, rSMis (rSKep r k) mm) := by
          have : rSMis r (rMis r + if false = true then 0 else 1) = rSMis r (dMis d + 1) := by rw [← h.2.2.1]; rfl
          rw [this, e2]; rfl
        show ∃ q v mm f' r', bnd (f_LV_requireLeader (dSMis d (dMis d + 1)) f w m s g (nI n)) _ = _ ∧ bnd (f_Mod_leader (rSMis r (rMis r + if false = true then 0 else 1)) (nI n)) _ = _ ∧ _
        rw [eq, er, bnd_some, bnd_some]
        unfold B_Mod_opened_138 B_Mod_opened_151 B_Mod_opened_154
        rcases e5 with rfl | ⟨i, hi, rfl, i1, i2, i3, -⟩
        · refine ⟨.inl 2, -1, mm, f', rSFau (rSMis (rSKep r k) mm) 2, rfl, rfl, h.mis mm k, e3, e4, rfl, Or.inl ⟨2, rfl, rfl, Or.inl rfl, rfl⟩⟩
        · rw [if_neg (nI_m1 (by omega)), thM_r]
          refine ⟨.inr (nI i), nI i, mm, f', rSFau (rSMis (rSKep r k) mm) 0, rfl, ?_, h.mis mm k, e3, e4, rfl, Or.inr ⟨i, n, e, t, rfl, rfl, rfl, hi, n1, n2, i1, i2, i3, he, hu, hp, ht, h1, h2, h4⟩⟩
          show (if 0 ≤ nI i then _ else _) = _
          rw [if_pos (nI_pos' (by omega))]
      · obtain ⟨i, i1, i2, i3, i4, i5⟩ := lk_spec d _ _ _ hS hl
        rw [if_neg (show ¬ ((if true = true then (1 : Int32) else 0), dSMis d (dMis d + if true = true then 0 else 1)).1 = 0 from (by decide : ¬ (1 : Int32) = 0)), if_neg (show ¬ ((if true = true then (1 : Int32) else 0), rSMis r (rMis r + if true = true then 0 else 1)).1 = 0 from (by decide : ¬ (1 : Int32) = 0)), if_pos (inB_nI (show n < 61 by omega) (by decide)), cl_nI (by omega)]
        unfold f_Finder_remember B_LV_leaderOfEntry_107 B_Mod_opened_129
        have q160 := in160' (n := n) (by omega) n2
        rw [if_neg q160.1, if_neg q160.2.2, if_pos (inB_nI (show n < 61 by omega) (by decide)), bnd_some, cl_nI (by omega), i2]
        have eM : dMis d + (if true = true then 0 else 1) = dMis d := Int32.add_zero _
        have eM2 : rMis r + (if true = true then 0 else 1) = dMis d := by rw [h.2.2.1]; exact Int32.add_zero _
        rw [eM, eM2]
        exact ⟨.inr (nI i), nI i, dMis d, fSRem f (upd (fRem f) n (nI i)), _, rfl, rfl, h.mis (dMis d) (upd (rKep r) n (nI i + 1)), hf.up n (nI i), J.up n i i1, rfl, Or.inr ⟨i, n, e, t, rfl, rfl, hfa, i1, n1, n2, i3, i4, i5, he, hu, hp, ht, h1, h2, h4⟩⟩
    · rw [if_neg g2, if_neg (not_not_intro ((inab _ _ _).mpr (Or.inr (Int32.not_le.mp g2))))]
      exact ⟨.inl 2, -1, dMis d, f, rSFau r 2, rfl, rfl, h, hf, J, rfl, Or.inl ⟨2, rfl, rfl, Or.inl rfl, rfl⟩⟩
theorem R_opened (h : RD d r) (hf : RF f r) (I : IV B d) (J : IF f) (hp : rDar r = 0) (x y : Int32) : ∃ q v mm f' w' r', f_LV_leaderOfEntry d f w m s g x y = some (q, (dSMis d mm, f', w')) ∧ f_Mod_opened r x y = some (v, r') ∧ OpR d s r q v mm f' w' r' := by
  obtain ⟨v, mm, k, f', e1, e2, e3, e4, e5⟩ := R_begin (w := w) (m := m) (s := s) (g := g) h hf J hp x
  unfold f_LV_leaderOfEntry f_Mod_opened
  rw [C_reqDir e1 e5, e2, bnd_some, bnd_some]
  unfold B_Mod_opened_5
  rcases e5 with rfl | ⟨i, hi, rfl, l1, l2, l3, -⟩
  · exact ⟨.inl 2, -1, mm, f', w, _, rfl, rfl, h.mis mm k, e3, e4, rfl, Or.inl ⟨2, rfl, rfl, Or.inl rfl, rfl⟩⟩
  · rw [if_neg (nI_m1 (by omega)), if_neg (nI_m1 (by omega))]
    have h1 : RD (dSMis d mm) (rSFau (rSMis (rSKep (rSThr r 0) k) mm) 0) := h.mis mm k
    obtain ⟨b, b1, b2, b3⟩ := R_isDir h1 hi l1
    rw [show f_Disk_isDirectory d (nI i) = (b, ()) from b1, if_pos (show rFau (nI i, rSFau (rSMis (rSKep (rSThr r 0) k) mm) 0).2 ≤ 0 from Int32.le_refl _), b2, bnd_some]
    unfold B_Mod_opened_21 B_Mod_opened_29
    rcases b3 with rfl | rfl
    · exact ⟨.inl 3, -1, mm, f', w, _, rfl, rfl, h.mis mm k, e3, e4, rfl, Or.inl ⟨3, rfl, rfl, Or.inr (Or.inl rfl), rfl⟩⟩
    · rw [if_neg (show ¬ ((1 : Int32), ()).1 = 0 by decide), if_neg (show ¬ ((1 : Int32), ()).1 = 0 by decide), thM_r]
      unfold B_LV_leaderOfEntry_5 B_Mod_opened_32
      rw [if_neg (show ¬ 0 < rFau (rSFau (nI i, rSFau (rSMis (rSKep (rSThr r 0) k) mm) 0).2 0) from (by decide : ¬ (0 : Int32) < 0))]
      have hs := R_seekName (f := f') (w := w) (d := dSMis d mm) (r := rSFau (rSFau (rSMis (rSKep (rSThr r 0) k) mm) 0) 0) (h.mis mm k) I hi l1 l3 rfl y
      rcases hs with ⟨m1, w1, r1, e1', c1, a1, a2, a3, a4, a5, a6, a7, a8, a9, a10, a11, -⟩ | ⟨m1, w1, r1, a1, a2, a3, a4, a5, a6⟩ | ⟨m1, w1, r1, e1', c1, t1, a1, a2, a3, a4, a5, a6, a7, a8, a9, a10, a11, a12⟩
      · rw [a1, show f_Mod_go (rSFau (nI i, rSFau (rSMis (rSKep (rSThr r 0) k) mm) 0).2 0) (nI i) 0 y = _ from a2, bnd_some, bnd_some, thM_r]
        unfold B_Mod_opened_46 B_Mod_opened_73 B_Mod_opened_91
        rw [if_pos (show ¬ ((1 : Int32), r1).1 = 0 from (by decide : ¬ (1 : Int32) = 0)), if_pos (show rFAt r1 < 0 by rw [a7]; show (-1 : Int32) < 0; decide), if_neg (not_not_intro ((inab _ _ _).mpr (Or.inl (by decide))))]
        refine ⟨.inl 2, -1, m1, f', w1, _, rfl, rfl, a3, ?_, e4, a6, Or.inl ⟨2, rfl, rfl, Or.inl rfl, rfl⟩⟩
        intro t t1 t2; show fRem f' t = rKep r1 t - 1; rw [a5]; exact e3 t t1 t2
      · rw [a1, show f_Mod_go (rSFau (nI i, rSFau (rSMis (rSKep (rSThr r 0) k) mm) 0).2 0) (nI i) 0 y = _ from a2, bnd_some, bnd_some, thM_l]
        unfold B_Mod_opened_46 B_Mod_opened_49
        rw [if_neg (not_not_intro (show ((0 : Int32), r1).1 = 0 from rfl))]
        refine ⟨.inl 4, -1, m1, f', w1, r1, rfl, rfl, a3, ?_, e4, a6, Or.inl ⟨4, rfl, rfl, Or.inr (Or.inr rfl), a4⟩⟩
        intro t t1 t2; show fRem f' t = rKep r1 t - 1; rw [a5]; exact e3 t t1 t2
      · rw [a1, show f_Mod_go (rSFau (nI i, rSFau (rSMis (rSKep (rSThr r 0) k) mm) 0).2 0) (nI i) 0 y = _ from a2, bnd_some, bnd_some, thM_r]
        have h22 := ec2 (d := dSMis d mm) I a7.1
        obtain ⟨q, v, m2, f2, r', u1, u2, u3⟩ := S_opened_46 (d := dSMis d m1) (f := f') (w := w1) (m := m) (s := s) (g := g) (r := r1) a3 (by intro t t1 t2; rw [a5]; exact e3 t t1 t2) I e4 a4 a7.1 a7.2.1 (a7.pg a10) (show t1 < 2 by omega) a8 a9 a11 a12
        refine ⟨q, v, m2, f2, w1, r', u1, u2, u3.1, u3.2.1, u3.2.2.1, u3.2.2.2.1.trans a6, u3.2.2.2.2⟩
theorem opened0 (h2 : rDar r = 1) (x y : Int32) : f_Mod_opened r x y = some (-1, rSFau (rSThr r 0) 1) := by
  unfold f_Mod_opened B_Mod_opened_5
  rw [begin0 h2, bnd_some]
  rfl
theorem S_open (h : RL B d f s r) (x y : Int32) : ∃ q d' f' w' r' a, f_LV_open d f w m s g x y = some (q, (d', f', w')) ∧ f_Mod_open r x y = some (a, r') ∧ RL B d' f' s r' ∧ ans q a (rThr r') [(1, 1), (2, 2), (3, 3), (4, 4)] := by
  obtain ⟨h, hf, I, J, X, hrep⟩ := h
  unfold f_LV_open f_Mod_open
  rcases pw (f := f) (w := w) (m := m) (s := s) (g := g) h with ⟨p1, p2⟩ | ⟨p1, p2⟩
  · obtain ⟨q, v, mm, f', w', r', e1, e2, e3, e4, e5, e6, e7⟩ := R_opened (w := w) (m := m) (s := s) (g := g) h hf I J p2 x y
    rw [p1, thM_r]
    unfold B_LV_open_4
    rw [e1, e2, bnd_some, bnd_some]
    unfold B_Mod_open_6 B_Mod_open_22 B_Mod_open_30
    rcases e7 with ⟨e, rfl, rfl, a1, a2⟩ | ⟨i, n, e, t, rfl, rfl, a1, a2, a3, a4, a5, a6, a7, -⟩
    · rw [thM_l, if_neg (show ¬ (0 : Int32) ≤ ((-1 : Int32), r').1 from (by decide : ¬ (0 : Int32) ≤ -1))]
      rcases a1 with rfl | rfl | rfl
      · rw [ends2 _ _ _ _ _ _ _ a2]; exact ⟨_, _, _, _, _, _, rfl, rfl, ⟨e3, e4, I, e5, X, by show ∀ k, k < 5 → sRes s k = rRep r' k; rw [e6]; exact hrep⟩, rfl⟩
      · rw [ends3 _ _ _ _ _ _ _ a2]; exact ⟨_, _, _, _, _, _, rfl, rfl, ⟨e3, e4, I, e5, X, by show ∀ k, k < 5 → sRes s k = rRep r' k; rw [e6]; exact hrep⟩, rfl⟩
      · rw [ends4 _ _ _ _ _ _ _ a2]; exact ⟨_, _, _, _, _, _, rfl, rfl, ⟨e3, e4, I, e5, X, by show ∀ k, k < 5 → sRes s k = rRep r' k; rw [e6]; exact hrep⟩, rfl⟩
    · rw [thM_r, if_pos (show 0 ≤ (nI i, r').1 from nI_pos' (by omega)), if_pos (show inB (nI i, r').1 40 from inB_nI a2 (by decide)), ends0 _ _ _ _ _ _ _ a1]
      refine ⟨_, _, _, _, _, _, rfl, rfl, ⟨e3, e4, I, e5, X, by show ∀ k, k < 5 → sRes s k = rRep r' k; rw [e6]; exact hrep⟩, rfl, ?_⟩
      show rSer r' (nI i).toNatClampNeg = xCell (dSMis d mm) (nI i) 0
      rw [cl_nI (by omega), xc0 (d := dSMis d mm) a2 a5]
      exact (e3.ser a2).symm
  · rw [p1, opened0 p2, bnd_some]
    exact ⟨.inl 1, d, f, w, _, _, rfl, rfl, ⟨h, hf, I, J, X, hrep⟩, rfl⟩
end O2
