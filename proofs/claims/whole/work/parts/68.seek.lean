/-! seeking among entries -/
def HolR (d : DS) (s0 : Int32) (w : WS) (r : RS) : Prop := (wHSe w = -1 ∧ rHAt r = -1) ∨ ∃ hh ht, hh < 40 ∧ ht < ec d hh ∧ dUnr d hh = 0 ∧ dCells d (hh * 13) = s0 ∧ wHSe w = nI hh ∧ wHSl w = nI ht ∧ rHAt r = nI hh ∧ rHPl r = nI (8 * hh + 4 * ht)
def OutN (Q : WS → RS → Prop) (d : DS) (s0 : Int32) (i0 : Nat) (r : RS) (C : Option ((Nat ⊕ Int32) × (DS × WS))) (R : Option (Int32 × RS)) : Prop :=
  (∃ m w1 r1 e1 c1, C = some (.inr 0, (dSMis d m, w1)) ∧ R = some (1, r1) ∧ RD (dSMis d m) r1 ∧ rFau r1 = 0 ∧ rKep r1 = rKep r ∧ rRep r1 = rRep r ∧ rFAt r1 = rFAt r ∧ Pos d s0 i0 e1 c1 ∧ wSec w1 = nI e1 ∧ rEnd r1 = nI e1 ∧ dCells d (e1 * 13 + 3) = -1 ∧ Q w1 r1) ∨
  (∃ m w1 r1, C = some (.inl 4, (dSMis d m, w1)) ∧ R = some (0, r1) ∧ RD (dSMis d m) r1 ∧ rFau r1 = 4 ∧ rKep r1 = rKep r ∧ rRep r1 = rRep r) ∨
  (∃ m w1 r1 e1 c1 t1, C = some (.inr 1, (dSMis d m, w1)) ∧ R = some (1, r1) ∧ RD (dSMis d m) r1 ∧ rFau r1 = 0 ∧ rKep r1 = rKep r ∧ rRep r1 = rRep r ∧ Pos d s0 i0 e1 c1 ∧ wSec w1 = nI e1 ∧ wSlo w1 = nI t1 ∧ t1 < ec d e1 ∧ rFAt r1 = nI e1 ∧ rFPl r1 = nI (8 * e1 + 4 * t1))
section SK
variable {f : FS} {B : Nat} {d : DS} {r : RS} {w : WS}
/-- an entry's serial, its name -/
def eSer (d : DS) (e t : Nat) : Int32 := dCells d (e * 13 + (5 + (4 * t + 2)))
def eNam (d : DS) (e t : Nat) : Int32 := dCells d (e * 13 + (5 + 4 * t)) * 256 + dCells d (e * 13 + (5 + (4 * t + 1)))
theorem C_serH {e t : Nat} (he : e < 40) (hu : dUnr d e = 0) (ht : t < 2) (h1 : wSec w = nI e) (h2 : wSlo w = nI t) : f_Walk_serialHere d f w = (eSer d e t, ()) := by
  unfold f_Walk_serialHere f_Walk_offsetHere f_Disk_byteAt eSer
  rw [h1, h2]
  show (xCell d (nI e) (5 + (nI t * 4 + 2)), ()) = _
  rw [show (4 : Int32) = nI 4 from rfl, show (2 : Int32) = nI 2 from rfl, pk_mul, nI_add, xcb he (by omega) hu, Nat.mul_comm t 4]
theorem C_namH {e t : Nat} (he : e < 40) (hu : dUnr d e = 0) (ht : t < 2) (h2 : wSlo w = nI t) : f_Disk_nameAt d (nI e) (f_Walk_offsetHere d f w).1 = (eNam d e t, ()) := by
  unfold f_Disk_nameAt f_Walk_offsetHere eNam
  rw [h2]
  show (xCell d (nI e) (5 + nI t * 4) * 256 + xCell d (nI e) (5 + nI t * 4 + 1), ()) = _
  rw [show (4 : Int32) = nI 4 from rfl, pk_mul, xcb he (by omega) hu, show (5 : Int32) = nI 5 from rfl, nI_add, nI_1, xc he (by omega) hu, Nat.mul_comm t 4, Nat.add_assoc 5 (4 * t) 1]
theorem R_nam (h : RD d r) {e t : Nat} (he : e < 40) (ht : t < 2) : f_Mod_nameAt r (nI (8 * e + 4 * t)) = some (eNam d e t, ()) := by
  unfold f_Mod_nameAt eNam
  rw [nI_1, if_pos (inB_nI (show 8 * e + 4 * t < 320 by omega) (by decide)), if_pos (inB_nI (show 8 * e + 4 * t + 1 < 320 by omega) (by decide)), cl_nI (by omega), cl_nI (by omega), h.byt he (show 4 * t < 8 by omega), h.byt he (show 4 * t + 1 < 8 by omega), Int32.mul_comm]
  rfl
theorem R_ent {s0 : Int32} {i0 : Nat} (R21 : RS → Int32 → Int32 → Int32 → Int32 → Option (Int32 × RS)) (n : Nat) (x2 x3 x4 x5 : Int32) (h : RD d r) (I : IV B d) {e c t : Nat} (hP : Pos d s0 i0 e c) (hr : rEnd r = nI e) (ht : t < ec d e) : L_Mod_go_31 R21 (n + 1) r x2 x3 x4 x5 (nI t) = B_Mod_go_90 R21 (L_Mod_go_31 R21 n) r x2 x3 x4 x5 (nI t) (nI (8 * e + 4 * t)) (if eSer d e t = 0 then 1 else 0) := by
  have he := hP.1
  have hB := I.1
  have h2 := ec2 I he
  have hc := hP.c39
  have hc0 := ec0 hP ht
  have hp : ¬ dCells d (e * 13 + 1) = 0 := by
    intro q; unfold ec at ht; rw [if_pos q] at ht; omega
  have hu2 : t < vN d e 2 / 4 := by unfold ec at ht; rw [if_neg hp] at ht; exact ht
  have hv := (I.useV he).2
  have e1 : (8 * nI e + 4 * nI t : Int32) = nI (8 * e + 4 * t) := by rw [show (4 : Int32) = nI 4 from rfl, pk_mul, ix8]
  rw [L_Mod_go_31, hr, if_pos (inB_nI he (by decide)), if_pos (inB_nI he (by decide)), cl_nI (by omega), ← h.use he, ← h.pag he, (I.useV he).1, show nI (vN d e 2) / 4 = nI (vN d e 2 / 4) from pk_div (by omega) (by decide) (by decide), if_neg (nI_ge hu2 (by omega)), hP.2.2.2.1, if_neg (nI_nle hc0 (by omega)), e1, show (nI (8 * e + 4 * t) + 2 : Int32) = nI (8 * e + (4 * t + 2)) from by rw [show (2 : Int32) = nI 2 from rfl, nI_add, Nat.add_assoc], if_pos (inB_nI (show 8 * e + (4 * t + 2) < 320 by omega) (by decide)), cl_nI (by omega), ← h.byt he (show 4 * t + 2 < 8 by omega)]
  unfold eSer
  by_cases hz : dCells d (e * 13 + (5 + (4 * t + 2))) = 0
  · rw [if_neg (not_not_intro hz), if_pos hz]
  · rw [if_pos hz, if_neg hz]
theorem seekN_done (n : Nat) (x2 x3 : Int32) (q : (Nat ⊕ Int32) × (DS × WS)) (hx : ¬ (80 : Int32) ≤ x3) (hs : f_Walk_step d f w = some q) : L_Walk_seekName_7 (n + 1) d f w x2 x3 = thM q (fun x z => some (.inl x, (z.1, z.2))) (fun v z => B_Walk_seekName_17 (L_Walk_seekName_7 n) z.1 f z.2 x2 x3 v) := by
  rw [L_Walk_seekName_7, if_neg hx, hs, bnd_some]
theorem R_seekNL {s0 : Int32} {i0 : Nat} (x : Int32) : ∀ K num, num + K = 80 → ∀ (n nq n2 : Nat) (d : DS) (r : RS) (w : WS) (e c t : Nat), K + 2 ≤ n → 42 ≤ nq + c → 3 ≤ n2 + t → RD d r → IV B d → Pos d s0 i0 e c → rFau r = 0 → wSec w = nI e → wSlo w + 1 = nI t → t ≤ 2 → rEnd r = nI e → (num + 2 ≤ 2 * c + t ∨ (c = 0 ∧ num = 0)) → HolR d s0 w r →
    OutN (HolR d s0) d s0 i0 r (L_Walk_seekName_7 n d f w x (nI num)) (L_Mod_go_31 (L_Mod_go_21 nq) (n2 + 1) r 0 x (nI num) (nI c) (nI t)) := by
  intro K
  induction K with
  | zero =>
    intro num hnum n nq n2 d r w e c t _ _ _ _ _ hP _ _ _ ht _ hb
    have := hP.c39
    omega
  | succ K ih =>
    intro num hnum n nq n2 d r w e c t hn hq h2 h I hP hfau hw1 hw2 ht hr hb hH
    have hc := hP.c39
    obtain ⟨a, rfl⟩ : ∃ a, n = a + 1 := ⟨n - 1, by omega⟩
    have hx : ¬ (80 : Int32) ≤ nI num := gn 80 (show num < 80 by omega)
    have hst := R_step (f := f) (B := B) (s0 := s0) (i0 := i0) 0 x (nI num) (40 - c) c (by omega) 100 nq n2 d r (wSSlo w (nI t)) e t 0 (by omega) (by omega) h I hP hfau hw1 rfl ht hr (by omega)
    have hws : f_Walk_step d f w = L_Walk_step_12 100 d f (wSSlo w (nI t)) (nI 0) := by
      unfold f_Walk_step
      rw [hw2]; rfl
    rcases hst with ⟨m1, w1, r1, e1, c1, a1, a2, a3, a4, a5, a6, a7, a8, a9, a10, a11⟩ | ⟨m1, w1, r1, a1, a2, a3, a4, a5⟩ | ⟨m1, w1, r1, e1, c1, t1, nq1, n21, a1, a2, a3, a4, a5, a6, a7, a8, a9, a10, a11, a12, a13, a14⟩
    · rw [seekN_done a x _ _ hx (hws.trans a1), a2]
      refine Or.inl ⟨m1, w1, r1, e1, c1, rfl, rfl, a3, a4, a5.1, a5.2.1, a5.2.2.2.2, a6, a7, a8, a11, ?_⟩
      unfold HolR at hH ⊢
      rw [show wHSe w1 = wHSe w from a9, show wHSl w1 = wHSl w from a10, a5.2.2.1, a5.2.2.2.1]
      exact hH
    · rw [seekN_done a x _ _ hx (hws.trans a1), a2]
      exact Or.inr (Or.inl ⟨m1, w1, r1, rfl, rfl, a3, a4, a5.1, a5.2.1⟩)
    · have he1 := a6.1
      have hu1 := a6.2.1
      have h22 := ec2 I he1
      have hH1 : HolR d s0 w1 r1 := by
        unfold HolR at hH ⊢
        rw [show wHSe w1 = wHSe w from a10, show wHSl w1 = wHSl w from a11, a5.2.2.1, a5.2.2.2.1]
        exact hH
      have hn2 : 1 ≤ n21 ∧ 3 ≤ n21 - 1 + (t1 + 1) := by rcases a14 with ⟨b1, b2, b3⟩ | ⟨b1, b2, b3⟩ <;> omega
      obtain ⟨n3, rfl⟩ : ∃ n3, n21 = n3 + 1 := ⟨n21 - 1, by omega⟩
      have hb2 : num + 1 + 2 ≤ 2 * c1 + (t1 + 1) := by rcases a14 with ⟨b1, b2, b3⟩ | ⟨b1, b2, b3⟩ <;> (have := ec0 a6 a12; omega)
      rw [seekN_done a x _ _ hx (hws.trans a1), a2, R_ent (d := dSMis d m1) (s0 := s0) (i0 := i0) _ _ _ _ _ _ a3 I a6 a9 a12]
      have eS : eSer (dSMis d m1) e1 t1 = eSer d e1 t1 := rfl
      rw [eS]
      show OutN (HolR d s0) d s0 i0 r (B_Walk_seekName_17 (L_Walk_seekName_7 a) (dSMis d m1) f w1 x (nI num) 1) _
      unfold B_Walk_seekName_17
      rw [if_neg (by decide), C_serH (d := dSMis d m1) he1 hu1 (by omega) a7 a8, a7, C_namH (d := dSMis d m1) he1 hu1 (by omega) a8]
      show OutN (HolR d s0) d s0 i0 r (if ¬ eSer d e1 t1 = 0 then (if ¬ eNam d e1 t1 = x then _ else _) else _) _
      -- on to the next
      have hgo : ∀ (w2 : WS) (r2 : RS), RD (dSMis d m1) r2 → rFau r2 = 0 → wSec w2 = nI e1 → wSlo w2 = nI t1 → rEnd r2 = nI e1 → HolR d s0 w2 r2 → rKep r2 = rKep r → rRep r2 = rRep r → rFAt r2 = rFAt r → OutN (HolR d s0) d s0 i0 r (L_Walk_seekName_7 a (dSMis d m1) f w2 x (nI num + 1)) (L_Mod_go_31 (L_Mod_go_21 nq1) (n3 + 1) r2 0 x (nI num + 1) (nI c1) (nI t1 + 1)) := by
        intro w2 r2 g1 g2 g3 g4 g5 g6 g7 g8 g9
        rw [nI_1, nI_1]
        have hih := ih (num + 1) (by omega) a nq1 n3 (dSMis d m1) r2 w2 e1 c1 (t1 + 1) (by omega) (by omega) (by omega) g1 I a6 g2 g3 (by rw [g4, nI_1]) (by omega) g5 (Or.inl (by omega)) g6
        unfold OutN at hih ⊢
        rw [g7, g8, g9] at hih
        exact hih
      by_cases hz : eSer d e1 t1 = 0
      · rw [if_neg (not_not_intro hz), if_pos hz]
        unfold B_Walk_seekName_31 B_Walk_seekName_55 B_Mod_go_90
        rw [if_pos (show ¬ (0 : Int32) = 1 by decide), if_pos (show ¬ (1 : Int32) = 0 by decide)]
        unfold B_Mod_go_135 B_Mod_go_136
        rw [if_pos rfl, if_neg (show ¬ (1 : Int32) = 0 by decide)]
        unfold f_Walk_keepFirstHole B_Mod_go_179 B_Mod_go_185
        rcases hH1 with ⟨y1, y2⟩ | ⟨hh, hht, y1, y2, y3, y4, y5, y6, y7, y8⟩
        · rw [if_neg (not_not_intro y1), if_neg (show ¬ 0 ≤ rHAt r1 by rw [y2]; decide)]
          refine hgo _ _ a3 a4 a7 a8 a9 ?_ a5.1 a5.2.1 a5.2.2.2.2
          exact Or.inr ⟨e1, t1, he1, a12, hu1, a6.2.2.1, a7, a8, a9, rfl⟩
        · rw [if_pos (show ¬ wHSe w1 = -1 by rw [y5]; exact nI_m1 (by omega)), if_pos (show 0 ≤ rHAt r1 by rw [y7]; exact nI_pos' (by omega))]
          exact hgo w1 r1 a3 a4 a7 a8 a9 (Or.inr ⟨hh, hht, y1, y2, y3, y4, y5, y6, y7, y8⟩) a5.1 a5.2.1 a5.2.2.2.2
      · rw [if_pos hz, if_neg hz]
        unfold B_Mod_go_90
        rw [if_pos (show ¬ (0 : Int32) = 1 by decide), if_neg (not_not_intro (show (0 : Int32) = 0 from rfl)), if_neg (show ¬ (0 : Int32) = 2 by decide), R_nam (d := dSMis d m1) a3 he1 (by omega), bnd_some]
        unfold B_Mod_go_127
        show OutN (HolR d s0) d s0 i0 r (if ¬ eNam d e1 t1 = x then _ else _) (if ¬ eNam d e1 t1 = x then _ else _)
        by_cases hN : eNam d e1 t1 = x
        · rw [if_neg (not_not_intro hN), if_neg (not_not_intro hN)]
          unfold B_Mod_go_131 B_Mod_go_136 B_Mod_go_151 B_Mod_go_157
          rw [if_neg (by decide)]
          refine Or.inr (Or.inr ⟨m1, w1, _, e1, c1, t1, rfl, rfl, a3, a4, a5.1, a5.2.1, a6, a7, a8, a12, a9, rfl⟩)
        · rw [if_pos hN, if_pos hN]
          unfold B_Mod_go_135 B_Mod_go_136 B_Walk_seekName_55 B_Mod_go_185
          rw [if_pos rfl, if_pos rfl]
          exact hgo w1 r1 a3 a4 a7 a8 a9 hH1 a5.1 a5.2.1 a5.2.2.2.2
theorem R_seekName (h : RD d r) (I : IV B d) {i : Nat} (hi : i < 40) (hu : dUnr d i = 0) (hp : dCells d (i * 13 + 1) = 0) (hfau : rFau r = 0) (x : Int32) :
    OutN (HolR d (dCells d (i * 13))) d (dCells d (i * 13)) i (rSFAt r (-1)) (f_Walk_seekName d f w (nI i) x) (f_Mod_go r (nI i) 0 x) := by
  unfold f_Walk_seekName B_Walk_seekName_5 f_Walk_start f_Mod_go B_Mod_go_5 B_Mod_go_10 B_Mod_go_15
  have e1 : L_Mod_go_21 1000 (rSEnd (rSHAt (rSFAt r (-1)) (-1)) (nI i)) 0 x 0 0 = L_Mod_go_31 (L_Mod_go_21 999) (999 + 1) (rSEnd (rSHAt (rSFAt r (-1)) (-1)) (nI i)) 0 x (nI 0) (nI 0) (nI 0) := by
    rw [L_Mod_go_21, if_neg (by decide)]; rfl
  rw [e1]
  have hh := R_seekNL (f := f) (B := B) (s0 := dCells d (i * 13)) (i0 := i) x 80 0 rfl 100 999 999 d (rSEnd (rSHAt (rSFAt r (-1)) (-1)) (nI i)) (wSHSl (wSHSe (wSSlo (wSSec w (nI i)) (-1)) (-1)) (-1)) i 0 0 (by decide) (by decide) (by decide) h I ⟨hi, hu, rfl, hp, chn0 hi hp, fun _ => rfl⟩ hfau rfl (by show (-1 : Int32) + 1 = nI 0; decide) (by decide) rfl (Or.inr ⟨rfl, rfl⟩) (Or.inl ⟨rfl, rfl⟩)
  exact hh
end SK
