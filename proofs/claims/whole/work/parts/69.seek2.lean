/-! seeking by number, and what is no hole -/
def TrW (_ : WS) (_ : RS) : Prop := True
section SK2
variable {f : FS} {B : Nat} {d : DS} {r : RS} {w : WS}
theorem R_pass (R21 : RS → Int32 → Int32 → Int32 → Int32 → Option (Int32 × RS)) (R31 : RS → Int32 → Int32 → Int32 → Int32 → Int32 → Option (Int32 × RS)) (x2 x3 x4 x5 x6 x7 x8 : Int32) (h : RD d r) : ∃ r2, B_Mod_go_136 R21 R31 r x2 x3 x4 x5 x6 x7 x8 0 = R31 r2 x2 x3 (x4 + 1) x5 (x6 + 1) ∧ RD d r2 ∧ rFau r2 = rFau r ∧ rEnd r2 = rEnd r ∧ rKep r2 = rKep r ∧ rRep r2 = rRep r ∧ rFAt r2 = rFAt r := by
  unfold B_Mod_go_136 B_Mod_go_179 B_Mod_go_185
  rw [if_pos rfl]
  by_cases h8 : x8 = 0
  · rw [if_pos h8]; exact ⟨r, rfl, h, rfl, rfl, rfl, rfl, rfl⟩
  · rw [if_neg h8]
    by_cases hh : 0 ≤ rHAt r
    · rw [if_pos hh]; exact ⟨r, rfl, h, rfl, rfl, rfl, rfl, rfl⟩
    · rw [if_neg hh]; exact ⟨_, rfl, h, rfl, rfl, rfl, rfl, rfl⟩
theorem seekI_done (n : Nat) (x2 : Int32) (x3 : Int32) (q : (Nat ⊕ Int32) × (DS × WS)) (hx : ¬ (80 : Int32) ≤ x3) (hs : f_Walk_step d f w = some q) : L_Walk_seekIndex_7 (n + 1) d f w x2 x3 = thM q (fun x z => some (.inl x, (z.1, z.2))) (fun v z => B_Walk_seekIndex_17 (L_Walk_seekIndex_7 n) z.1 f z.2 x2 x3 v) := by
  rw [L_Walk_seekIndex_7, if_neg hx, hs, bnd_some]
theorem R_seekIL {s0 : Int32} {i0 : Nat} (k : Int32) : ∀ K num, num + K = 80 → ∀ (n nq n2 : Nat) (d : DS) (r : RS) (w : WS) (e c t : Nat), K + 2 ≤ n → 42 ≤ nq + c → 3 ≤ n2 + t → RD d r → IV B d → Pos d s0 i0 e c → rFau r = 0 → wSec w = nI e → wSlo w + 1 = nI t → t ≤ 2 → rEnd r = nI e → (num + 2 ≤ 2 * c + t ∨ (c = 0 ∧ num = 0)) →
    OutN TrW d s0 i0 r (L_Walk_seekIndex_7 n d f w k (nI num)) (L_Mod_go_31 (L_Mod_go_21 nq) (n2 + 1) r 1 k (nI num) (nI c) (nI t)) := by
  intro K
  induction K with
  | zero =>
    intro num hnum n nq n2 d r w e c t _ _ _ _ _ hP _ _ _ ht _ hb
    have := hP.c39
    omega
  | succ K ih =>
    intro num hnum n nq n2 d r w e c t hn hq h2 h I hP hfau hw1 hw2 ht hr hb
    have hc := hP.c39
    obtain ⟨a, rfl⟩ : ∃ a, n = a + 1 := ⟨n - 1, by omega⟩
    have hx : ¬ (80 : Int32) ≤ nI num := gn 80 (show num < 80 by omega)
    have hst := R_step (f := f) (B := B) (s0 := s0) (i0 := i0) 1 k (nI num) (40 - c) c (by omega) 100 nq n2 d r (wSSlo w (nI t)) e t 0 (by omega) (by omega) h I hP hfau hw1 rfl ht hr (by omega)
    have hws : f_Walk_step d f w = L_Walk_step_12 100 d f (wSSlo w (nI t)) (nI 0) := by
      unfold f_Walk_step
      rw [hw2]; rfl
    rcases hst with ⟨m1, w1, r1, e1, c1, a1, a2, a3, a4, a5, a6, a7, a8, a9, a10, a11⟩ | ⟨m1, w1, r1, a1, a2, a3, a4, a5⟩ | ⟨m1, w1, r1, e1, c1, t1, nq1, n21, a1, a2, a3, a4, a5, a6, a7, a8, a9, a10, a11, a12, a13, a14⟩
    · rw [seekI_done a k _ _ hx (hws.trans a1), a2]
      exact Or.inl ⟨m1, w1, r1, e1, c1, rfl, rfl, a3, a4, a5.1, a5.2.1, a5.2.2.2.2, a6, a7, a8, a11, trivial⟩
    · rw [seekI_done a k _ _ hx (hws.trans a1), a2]
      exact Or.inr (Or.inl ⟨m1, w1, r1, rfl, rfl, a3, a4, a5.1, a5.2.1⟩)
    · have he1 := a6.1
      have hu1 := a6.2.1
      have h22 := ec2 I he1
      have hn2 : 1 ≤ n21 ∧ 3 ≤ n21 - 1 + (t1 + 1) := by rcases a14 with ⟨b1, b2, b3⟩ | ⟨b1, b2, b3⟩ <;> omega
      obtain ⟨n3, rfl⟩ : ∃ n3, n21 = n3 + 1 := ⟨n21 - 1, by omega⟩
      have hb2 : num + 1 + 2 ≤ 2 * c1 + (t1 + 1) := by rcases a14 with ⟨b1, b2, b3⟩ | ⟨b1, b2, b3⟩ <;> (have := ec0 a6 a12; omega)
      rw [seekI_done a k _ _ hx (hws.trans a1), a2, R_ent (d := dSMis d m1) (s0 := s0) (i0 := i0) _ _ _ _ _ _ a3 I a6 a9 a12]
      have eS : eSer (dSMis d m1) e1 t1 = eSer d e1 t1 := rfl
      rw [eS]
      show OutN TrW d s0 i0 r (B_Walk_seekIndex_17 (L_Walk_seekIndex_7 a) (dSMis d m1) f w1 k (nI num) 1) _
      unfold B_Walk_seekIndex_17 B_Mod_go_90
      rw [if_neg (show ¬ (1 : Int32) = 0 by decide)]
      have hgo : ∀ (w2 : WS) (r2 : RS), RD (dSMis d m1) r2 → rFau r2 = 0 → wSec w2 = nI e1 → wSlo w2 = nI t1 → rEnd r2 = nI e1 → rKep r2 = rKep r → rRep r2 = rRep r → rFAt r2 = rFAt r → OutN TrW d s0 i0 r (L_Walk_seekIndex_7 a (dSMis d m1) f w2 k (nI num + 1)) (L_Mod_go_31 (L_Mod_go_21 nq1) (n3 + 1) r2 1 k (nI num + 1) (nI c1) (nI t1 + 1)) := by
        intro w2 r2 g1 g2 g3 g4 g5 g7 g8 g9
        rw [nI_1, nI_1]
        have hih := ih (num + 1) (by omega) a nq1 n3 (dSMis d m1) r2 w2 e1 c1 (t1 + 1) (by omega) (by omega) (by omega) g1 I a6 g2 g3 (by rw [g4, nI_1]) (by omega) g5 (Or.inl (by omega))
        unfold OutN at hih ⊢
        rw [g7, g8, g9] at hih
        exact hih
      rw [if_neg (not_not_intro (show (1 : Int32) = 1 from rfl))]
      by_cases hN : nI num = k
      · rw [if_neg (not_not_intro hN), if_neg (not_not_intro hN)]
        unfold B_Mod_go_136 B_Mod_go_151 B_Mod_go_157
        rw [if_neg (show ¬ (1 : Int32) = 0 by decide)]
        exact Or.inr (Or.inr ⟨m1, w1, _, e1, c1, t1, rfl, rfl, a3, a4, a5.1, a5.2.1, a6, a7, a8, a12, a9, rfl⟩)
      · rw [if_pos hN, if_pos hN]
        obtain ⟨r2, y1, y2, y3, y4, y5, y6, y7⟩ := R_pass (d := dSMis d m1) (L_Mod_go_21 nq1) (L_Mod_go_31 (L_Mod_go_21 nq1) (n3 + 1)) 1 k (nI num) (nI c1) (nI t1) (nI (8 * e1 + 4 * t1)) (if eSer d e1 t1 = 0 then 1 else 0) a3
        rw [y1]
        exact hgo w1 r2 y2 (y3.trans a4) a7 a8 (y4.trans a9) (y5.trans a5.1) (y6.trans a5.2.1) (y7.trans a5.2.2.2.2)
theorem R_seekI (h : RD d r) (I : IV B d) {i : Nat} (hi : i < 40) (hu : dUnr d i = 0) (hp : dCells d (i * 13 + 1) = 0) (hfau : rFau r = 0) (k : Int32) :
    OutN TrW d (dCells d (i * 13)) i (rSFAt r (-1)) (f_Walk_seekIndex d f w (nI i) k) (f_Mod_go r (nI i) 1 k) := by
  unfold f_Walk_seekIndex B_Walk_seekIndex_5 f_Walk_start f_Mod_go B_Mod_go_5 B_Mod_go_10 B_Mod_go_15
  have e1 : L_Mod_go_21 1000 (rSEnd (rSHAt (rSFAt r (-1)) (-1)) (nI i)) 1 k 0 0 = L_Mod_go_31 (L_Mod_go_21 999) (999 + 1) (rSEnd (rSHAt (rSFAt r (-1)) (-1)) (nI i)) 1 k (nI 0) (nI 0) (nI 0) := by
    rw [L_Mod_go_21, if_neg (by decide)]; rfl
  rw [e1]
  exact R_seekIL (f := f) (B := B) (s0 := dCells d (i * 13)) (i0 := i) k 80 0 rfl 100 999 999 d (rSEnd (rSHAt (rSFAt r (-1)) (-1)) (nI i)) (wSHSl (wSHSe (wSSlo (wSSec w (nI i)) (-1)) (-1)) (-1)) i 0 0 (by decide) (by decide) (by decide) h I ⟨hi, hu, rfl, hp, chn0 hi hp, fun _ => rfl⟩ hfau rfl (by show (-1 : Int32) + 1 = nI 0; decide) (by decide) rfl (Or.inr ⟨rfl, rfl⟩)
theorem seekU_done (n : Nat) (x3 : Int32) (q : (Nat ⊕ Int32) × (DS × WS)) (hx : ¬ (80 : Int32) ≤ x3) (hs : f_Walk_step d f w = some q) : L_Walk_seekUsed_7 (n + 1) d f w x3 = thM q (fun x z => some (.inl x, (z.1, z.2))) (fun v z => B_Walk_seekUsed_17 (L_Walk_seekUsed_7 n) z.1 f z.2 x3 v) := by
  rw [L_Walk_seekUsed_7, if_neg hx, hs, bnd_some]
theorem R_seekUL {s0 : Int32} {i0 : Nat} : ∀ K num, num + K = 80 → ∀ (n nq n2 : Nat) (d : DS) (r : RS) (w : WS) (e c t : Nat), K + 2 ≤ n → 42 ≤ nq + c → 3 ≤ n2 + t → RD d r → IV B d → Pos d s0 i0 e c → rFau r = 0 → wSec w = nI e → wSlo w + 1 = nI t → t ≤ 2 → rEnd r = nI e → (num + 2 ≤ 2 * c + t ∨ (c = 0 ∧ num = 0)) →
    OutN TrW d s0 i0 r (L_Walk_seekUsed_7 n d f w (nI num)) (L_Mod_go_31 (L_Mod_go_21 nq) (n2 + 1) r 2 0 (nI num) (nI c) (nI t)) := by
  intro K
  induction K with
  | zero =>
    intro num hnum n nq n2 d r w e c t _ _ _ _ _ hP _ _ _ ht _ hb
    have := hP.c39
    omega
  | succ K ih =>
    intro num hnum n nq n2 d r w e c t hn hq h2 h I hP hfau hw1 hw2 ht hr hb
    have hc := hP.c39
    obtain ⟨a, rfl⟩ : ∃ a, n = a + 1 := ⟨n - 1, by omega⟩
    have hx : ¬ (80 : Int32) ≤ nI num := gn 80 (show num < 80 by omega)
    have hst := R_step (f := f) (B := B) (s0 := s0) (i0 := i0) 2 0 (nI num) (40 - c) c (by omega) 100 nq n2 d r (wSSlo w (nI t)) e t 0 (by omega) (by omega) h I hP hfau hw1 rfl ht hr (by omega)
    have hws : f_Walk_step d f w = L_Walk_step_12 100 d f (wSSlo w (nI t)) (nI 0) := by
      unfold f_Walk_step
      rw [hw2]; rfl
    rcases hst with ⟨m1, w1, r1, e1, c1, a1, a2, a3, a4, a5, a6, a7, a8, a9, a10, a11⟩ | ⟨m1, w1, r1, a1, a2, a3, a4, a5⟩ | ⟨m1, w1, r1, e1, c1, t1, nq1, n21, a1, a2, a3, a4, a5, a6, a7, a8, a9, a10, a11, a12, a13, a14⟩
    · rw [seekU_done a _ _ hx (hws.trans a1), a2]
      exact Or.inl ⟨m1, w1, r1, e1, c1, rfl, rfl, a3, a4, a5.1, a5.2.1, a5.2.2.2.2, a6, a7, a8, a11, trivial⟩
    · rw [seekU_done a _ _ hx (hws.trans a1), a2]
      exact Or.inr (Or.inl ⟨m1, w1, r1, rfl, rfl, a3, a4, a5.1, a5.2.1⟩)
    · have he1 := a6.1
      have hu1 := a6.2.1
      have h22 := ec2 I he1
      have hn2 : 1 ≤ n21 ∧ 3 ≤ n21 - 1 + (t1 + 1) := by rcases a14 with ⟨b1, b2, b3⟩ | ⟨b1, b2, b3⟩ <;> omega
      obtain ⟨n3, rfl⟩ : ∃ n3, n21 = n3 + 1 := ⟨n21 - 1, by omega⟩
      have hb2 : num + 1 + 2 ≤ 2 * c1 + (t1 + 1) := by rcases a14 with ⟨b1, b2, b3⟩ | ⟨b1, b2, b3⟩ <;> (have := ec0 a6 a12; omega)
      rw [seekU_done a _ _ hx (hws.trans a1), a2, R_ent (d := dSMis d m1) (s0 := s0) (i0 := i0) _ _ _ _ _ _ a3 I a6 a9 a12]
      have eS : eSer (dSMis d m1) e1 t1 = eSer d e1 t1 := rfl
      rw [eS]
      show OutN TrW d s0 i0 r (B_Walk_seekUsed_17 (L_Walk_seekUsed_7 a) (dSMis d m1) f w1 (nI num) 1) _
      unfold B_Walk_seekUsed_17 B_Mod_go_90
      rw [if_neg (show ¬ (1 : Int32) = 0 by decide)]
      have hgo : ∀ (w2 : WS) (r2 : RS), RD (dSMis d m1) r2 → rFau r2 = 0 → wSec w2 = nI e1 → wSlo w2 = nI t1 → rEnd r2 = nI e1 → rKep r2 = rKep r → rRep r2 = rRep r → rFAt r2 = rFAt r → OutN TrW d s0 i0 r (L_Walk_seekUsed_7 a (dSMis d m1) f w2 (nI num + 1)) (L_Mod_go_31 (L_Mod_go_21 nq1) (n3 + 1) r2 2 0 (nI num + 1) (nI c1) (nI t1 + 1)) := by
        intro w2 r2 g1 g2 g3 g4 g5 g7 g8 g9
        rw [nI_1, nI_1]
        have hih := ih (num + 1) (by omega) a nq1 n3 (dSMis d m1) r2 w2 e1 c1 (t1 + 1) (by omega) (by omega) (by omega) g1 I a6 g2 g3 (by rw [g4, nI_1]) (by omega) g5 (Or.inl (by omega))
        unfold OutN at hih ⊢
        rw [g7, g8, g9] at hih
        exact hih
      rw [if_pos (show ¬ (2 : Int32) = 1 by decide), C_serH (d := dSMis d m1) he1 hu1 (by omega) a7 a8]
      show OutN TrW d s0 i0 r (if eSer d e1 t1 = 0 then _ else _) _
      by_cases hz : eSer d e1 t1 = 0
      · rw [if_pos hz, if_pos hz, if_pos (show ¬ (1 : Int32) = 0 by decide)]
        unfold B_Mod_go_135
        obtain ⟨r2, y1, y2, y3, y4, y5, y6, y7⟩ := R_pass (d := dSMis d m1) (L_Mod_go_21 nq1) (L_Mod_go_31 (L_Mod_go_21 nq1) (n3 + 1)) 2 0 (nI num) (nI c1) (nI t1) (nI (8 * e1 + 4 * t1)) 1 a3
        rw [y1]
        exact hgo w1 r2 y2 (y3.trans a4) a7 a8 (y4.trans a9) (y5.trans a5.1) (y6.trans a5.2.1) (y7.trans a5.2.2.2.2)
      · rw [if_neg hz, if_neg hz, if_neg (not_not_intro (show (0 : Int32) = 0 from rfl)), if_pos rfl]
        unfold B_Mod_go_131 B_Mod_go_136 B_Mod_go_151 B_Mod_go_157
        rw [if_neg (show ¬ (1 : Int32) = 0 by decide)]
        exact Or.inr (Or.inr ⟨m1, w1, _, e1, c1, t1, rfl, rfl, a3, a4, a5.1, a5.2.1, a6, a7, a8, a12, a9, rfl⟩)
theorem R_seekU (h : RD d r) (I : IV B d) {i : Nat} (hi : i < 40) (hu : dUnr d i = 0) (hp : dCells d (i * 13 + 1) = 0) (hfau : rFau r = 0) :
    OutN TrW d (dCells d (i * 13)) i (rSFAt r (-1)) (f_Walk_seekUsed d f w (nI i)) (f_Mod_go r (nI i) 2 0) := by
  unfold f_Walk_seekUsed B_Walk_seekUsed_5 f_Walk_start f_Mod_go B_Mod_go_5 B_Mod_go_10 B_Mod_go_15
  have e1 : L_Mod_go_21 1000 (rSEnd (rSHAt (rSFAt r (-1)) (-1)) (nI i)) 2 0 0 0 = L_Mod_go_31 (L_Mod_go_21 999) (999 + 1) (rSEnd (rSHAt (rSFAt r (-1)) (-1)) (nI i)) 2 0 (nI 0) (nI 0) (nI 0) := by
    rw [L_Mod_go_21, if_neg (by decide)]; rfl
  rw [e1]
  exact R_seekUL (f := f) (B := B) (s0 := dCells d (i * 13)) (i0 := i) 80 0 rfl 100 999 999 d (rSEnd (rSHAt (rSFAt r (-1)) (-1)) (nI i)) (wSHSl (wSHSe (wSSlo (wSSec w (nI i)) (-1)) (-1)) (-1)) i 0 0 (by decide) (by decide) (by decide) h I ⟨hi, hu, rfl, hp, chn0 hi hp, fun _ => rfl⟩ hfau rfl (by show (-1 : Int32) + 1 = nI 0; decide) (by decide) rfl (Or.inr ⟨rfl, rfl⟩)
end SK2
