/-! going through entries: from one to the next -/
def ec (d : DS) (e : Nat) : Nat := if dCells d (e * 13 + 1) = 0 then 0 else vN d e 2 / 4
def Pos (d : DS) (s0 : Int32) (i0 e c : Nat) : Prop := e < 40 ∧ dUnr d e = 0 ∧ dCells d (e * 13) = s0 ∧ dCells d (e * 13 + 1) = nI c ∧ chn d c ∧ (c = 0 → e = i0)
def FG (r r1 : RS) : Prop := rKep r1 = rKep r ∧ rRep r1 = rRep r ∧ rHAt r1 = rHAt r ∧ rHPl r1 = rHPl r ∧ rFAt r1 = rFAt r
theorem FG.rf (r : RS) : FG r r := ⟨rfl, rfl, rfl, rfl, rfl⟩
theorem FG.trans {r r1 r2 : RS} (h : FG r r1) (h2 : FG r1 r2) : FG r r2 := ⟨h2.1.trans h.1, h2.2.1.trans h.2.1, h2.2.2.1.trans h.2.2.1, h2.2.2.2.1.trans h.2.2.2.1, h2.2.2.2.2.trans h.2.2.2.2⟩
section ST
variable {f : FS} {B : Nat}
theorem IV.useV {d : DS} (I : IV B d) {i : Nat} (hi : i < 40) : dCells d (i * 13 + 2) = nI (vN d i 2) ∧ vN d i 2 ≤ 8 := (I.2 i hi).2.1 2 (by decide) (by decide) (by decide)
theorem ec2 {d : DS} (I : IV B d) {e : Nat} (he : e < 40) : ec d e ≤ 2 := by
  unfold ec
  have := (I.useV he).2
  by_cases h : dCells d (e * 13 + 1) = 0
  · rw [if_pos h]; omega
  · rw [if_neg h]; omega
theorem C_ec {d : DS} (I : IV B d) {e : Nat} (he : e < 40) (hu : dUnr d e = 0) : f_Disk_entriesIn d (nI e) = (nI (ec d e), ()) := by
  unfold f_Disk_entriesIn ec
  rw [xc1 he hu, xc2 he hu]
  by_cases h : dCells d (e * 13 + 1) = 0
  · rw [if_neg (not_not_intro h), if_pos h]; rfl
  · rw [if_pos h, if_neg h, (I.useV he).1, show (4 : Int32) = nI 4 from rfl, pk_div (by have := (I.useV he).2; omega) (by decide) (by decide)]
theorem Pos.c39 {d : DS} {s0 : Int32} {i0 e c : Nat} (h : Pos d s0 i0 e c) : c ≤ 39 := by
  by_cases q : c ≤ 39
  · exact q
  · exact (chn40 (fun x hx => h.2.2.2.2.1 x (by omega))).elim
theorem ec0 {d : DS} {s0 : Int32} {i0 e c : Nat} (h : Pos d s0 i0 e c) {t : Nat} (ht : t < ec d e) : 0 < c := by
  rcases Nat.eq_zero_or_pos c with rfl | q
  · unfold ec at ht
    rw [if_pos (show dCells d (e * 13 + 1) = 0 from h.2.2.2.1)] at ht
    omega
  · exact q
/-- where a step comes to: 0 the end, 1 an entry, 4 it is broken -/
theorem R_step {s0 : Int32} {i0 : Nat} (x2 x3 x4 : Int32) : ∀ k c, c + k = 40 → ∀ (n nq n2 : Nat) (d : DS) (r : RS) (w : WS) (e t j : Nat), k + 2 ≤ n → k + 2 ≤ nq → RD d r → IV B d → Pos d s0 i0 e c → rFau r = 0 → wSec w = nI e → wSlo w = nI t → t ≤ 2 → rEnd r = nI e → j ≤ c →
    (∃ m w1 r1 e1 c1, L_Walk_step_12 n d f w (nI j) = some (.inr 0, (dSMis d m, w1)) ∧ L_Mod_go_31 (L_Mod_go_21 nq) (n2 + 1) r x2 x3 x4 (nI c) (nI t) = some (1, r1) ∧ RD (dSMis d m) r1 ∧ rFau r1 = 0 ∧ FG r r1 ∧ Pos d s0 i0 e1 c1 ∧ wSec w1 = nI e1 ∧ rEnd r1 = nI e1 ∧ wHSe w1 = wHSe w ∧ wHSl w1 = wHSl w ∧ dCells d (e1 * 13 + 3) = -1) ∨
    (∃ m w1 r1, L_Walk_step_12 n d f w (nI j) = some (.inl 4, (dSMis d m, w1)) ∧ L_Mod_go_31 (L_Mod_go_21 nq) (n2 + 1) r x2 x3 x4 (nI c) (nI t) = some (0, r1) ∧ RD (dSMis d m) r1 ∧ rFau r1 = 4 ∧ FG r r1) ∨
    (∃ m w1 r1 e1 c1 t1 nq1 n21, L_Walk_step_12 n d f w (nI j) = some (.inr 1, (dSMis d m, w1)) ∧ L_Mod_go_31 (L_Mod_go_21 nq) (n2 + 1) r x2 x3 x4 (nI c) (nI t) = L_Mod_go_31 (L_Mod_go_21 nq1) (n21 + 1) r1 x2 x3 x4 (nI c1) (nI t1) ∧ RD (dSMis d m) r1 ∧ rFau r1 = 0 ∧ FG r r1 ∧ Pos d s0 i0 e1 c1 ∧ wSec w1 = nI e1 ∧ wSlo w1 = nI t1 ∧ rEnd r1 = nI e1 ∧ wHSe w1 = wHSe w ∧ wHSl w1 = wHSl w ∧ t1 < ec d e1 ∧ 42 ≤ nq1 + c1 ∧ ((c1 = c ∧ t1 = t ∧ n21 = n2) ∨ (c < c1 ∧ t1 = 0 ∧ n21 = 999))) := by
  intro k
  induction k with
  | zero =>
    intro c hc n nq n2 d r w e t j _ _ _ _ hP
    have := hP.c39
    omega
  | succ k ih =>
    intro c hc n nq n2 d r w e t j hn hnq h I hP hfau hw1 hw2 ht hr1 hj
    obtain ⟨he, hu, hs, hp, hch, h0⟩ := hP
    obtain ⟨a, rfl⟩ : ∃ a, n = a + 1 := ⟨n - 1, by omega⟩
    obtain ⟨b, rfl⟩ : ∃ b, nq = b + 1 := ⟨nq - 1, by omega⟩
    have hc39 := Pos.c39 ⟨he, hu, hs, hp, hch, h0⟩
    have hec := ec2 I he
    have hB := I.1
    have eC : L_Walk_step_12 (a + 1) d f w (nI j) = (if nI t < nI (ec d e) then some (.inr 1, (d, w)) else if ¬ dCells d (e * 13 + 3) = -1 then B_Walk_step_67 (L_Walk_step_12 a) ((f_Finder_follow d f (nI e) 3).2) f w (nI j) ((f_Finder_follow d f (nI e) 3).1) else some (.inr 0, (d, w))) := by
      rw [L_Walk_step_12, if_neg (gn 40 (show j < 40 by omega)), hw1, hw2, C_ec I he hu, xc3 he hu]
      rfl
    by_cases hte : t < ec d e
    · refine Or.inr (Or.inr ⟨dMis d, w, r, e, c, t, b + 1, n2, ?_, rfl, h, hfau, FG.rf r, ⟨he, hu, hs, hp, hch, h0⟩, hw1, hw2, hr1, rfl, rfl, hte, by omega, Or.inl ⟨rfl, rfl, rfl⟩⟩)
      rw [eC, if_pos ((nI_ltI (by omega) (by omega)).mpr hte)]; rfl
    · -- to the next page
      have eR : L_Mod_go_31 (L_Mod_go_21 (b + 1)) (n2 + 1) r x2 x3 x4 (nI c) (nI t) = (if 0 ≤ dCells d (e * 13 + 3) then bnd (f_Mod_beside r (nI e) 1) (fun q => B_Mod_go_220 (L_Mod_go_21 (b + 1)) q.2 x2 x3 x4 (nI c) q.1) else some (1, r)) := by
        have e1 : B_Mod_go_197 (L_Mod_go_21 (b + 1)) r x2 x3 x4 (nI c) = (if 0 ≤ dCells d (e * 13 + 3) then bnd (f_Mod_beside r (nI e) 1) (fun q => B_Mod_go_220 (L_Mod_go_21 (b + 1)) q.2 x2 x3 x4 (nI c) q.1) else some (1, r)) := by
          unfold B_Mod_go_197
          rw [hr1, if_pos (inB_nI he (by decide)), cl_nI (by omega), ← h.nex he]
        rw [L_Mod_go_31, hr1, if_pos (inB_nI he (by decide)), if_pos (inB_nI he (by decide)), cl_nI (by omega), ← h.use he, ← h.pag he, (I.useV he).1, show (4 : Int32) = nI 4 from rfl, pk_div (by have := (I.useV he).2; omega) (by decide) (by decide), e1]
        by_cases hz : vN d e 2 / 4 ≤ t
        · rw [if_pos ((nI_leI (by have := (I.useV he).2; omega) (by omega)).mpr hz)]
        · have hp0 : dCells d (e * 13 + 1) = 0 := by
            by_cases q : dCells d (e * 13 + 1) = 0
            · exact q
            · unfold ec at hte; rw [if_neg q] at hte; omega
          rw [if_neg (fun q => hz ((nI_leI (by have := (I.useV he).2; omega) (by omega)).mp q)), hp0, if_pos (Int32.le_refl _)]
      rw [eC, if_neg (fun q => hte ((nI_ltI (by omega) (by omega)).mp q)), eR]
      rcases I.lnk he (Or.inl rfl) with ⟨q1, q2⟩ | ⟨q1, q2⟩
      · rw [if_neg (not_not_intro q1), if_neg (Int32.not_le.mpr q2)]
        exact Or.inl ⟨dMis d, w, r, e, c, rfl, rfl, h, hfau, FG.rf r, ⟨he, hu, hs, hp, hch, h0⟩, hw1, hr1, rfl, rfl, q1⟩
      · rw [if_pos q1, if_pos (Int32.not_lt.mp q2)]
        obtain ⟨v, m, e1, e2, e3⟩ := R_behind (f := f) h I he hu
        rw [e1, e2, bnd_some, hfau]
        unfold B_Walk_step_67 B_Mod_go_220
        rcases e3 with rfl | ⟨e', rfl, j1, j2, j3, j4⟩
        · refine Or.inr (Or.inl ⟨m, w, rSFau (rSMis r m) 4, ?_, ?_, h.mis m (rKep r), rfl, FG.rf r⟩)
          · show thM (f_LV_unbroken (-1)) _ _ = _
            rw [unb1]; rfl
          · rfl
        · have hp2 : dCells d (e' * 13 + 1) = nI (c + 1) := by rw [j4, hp, nI_1]
          have hP' : Pos d s0 i0 e' (c + 1) := ⟨j1, j2, j3.trans hs, hp2, hch.next j1 hp2, fun q => by omega⟩
          have hc2 := hP'.c39
          have cC : thM (f_LV_unbroken (nI e', dSMis d m).1) (fun x z => some (Sum.inl x, ((nI e', dSMis d m).2, w))) (fun v z => B_Walk_step_70 (L_Walk_step_12 a) (nI e', dSMis d m).2 f w (nI j) v) = L_Walk_step_12 a (dSMis d m) f (wSSlo (wSSec w (nI e')) 0) (nI (j + 1)) := by
            show thM (f_LV_unbroken (nI e')) _ _ = _
            rw [unb2 j1, ← nI_1]; rfl
          have cR : (if 0 ≤ (nI e', rSFau (rSMis r m) (if nI e' = -1 then 4 else 0)).1 then B_Mod_go_235 (L_Mod_go_21 (b + 1)) (rSEnd (nI e', rSFau (rSMis r m) (if nI e' = -1 then 4 else 0)).2 (nI e', rSFau (rSMis r m) (if nI e' = -1 then 4 else 0)).1) x2 x3 x4 (nI c) else some (0, (nI e', rSFau (rSMis r m) (if nI e' = -1 then 4 else 0)).2)) = L_Mod_go_31 (L_Mod_go_21 b) (999 + 1) (rSEnd (rSFau (rSMis r m) 0) (nI e')) x2 x3 x4 (nI (c + 1)) (nI 0) := by
            rw [if_neg (nI_m1 (by omega)), if_pos (show 0 ≤ (nI e', rSFau (rSMis r m) (0 : Int32)).1 from nI_pos' (by omega))]
            unfold B_Mod_go_235
            rw [nI_1, L_Mod_go_21, if_neg (gn 50 (show c + 1 < 50 by omega))]
            rfl
          rw [cC, cR]
          have hih := ih (c + 1) (by omega) a b 999 (dSMis d m) (rSEnd (rSFau (rSMis r m) 0) (nI e')) (wSSlo (wSSec w (nI e')) 0) e' 0 (j + 1) (by omega) (by omega) (h.mis m (rKep r)) I hP' rfl rfl rfl (by omega) rfl (by omega)
          rcases hih with ⟨m1, w1, r1, e1, c1, a1, a2, a3, a4, a5, a6, a7, a8, a9, a10, a11⟩ | ⟨m1, w1, r1, a1, a2, a3, a4, a5⟩ | ⟨m1, w1, r1, e1, c1, t1, nq1, n21, a1, a2, a3, a4, a5, a6, a7, a8, a9, a10, a11, a12, a13, a14⟩
          · exact Or.inl ⟨m1, w1, r1, e1, c1, a1, a2, a3, a4, a5, a6, a7, a8, a9, a10, a11⟩
          · exact Or.inr (Or.inl ⟨m1, w1, r1, a1, a2, a3, a4, a5⟩)
          · refine Or.inr (Or.inr ⟨m1, w1, r1, e1, c1, t1, nq1, n21, a1, a2, a3, a4, a5, a6, a7, a8, a9, a10, a11, a12, a13, Or.inr ?_⟩)
            rcases a14 with ⟨b1, b2, b3⟩ | ⟨b1, b2, b3⟩
            · exact ⟨by omega, b2, b3⟩
            · exact ⟨by omega, b2, b3⟩
end ST
