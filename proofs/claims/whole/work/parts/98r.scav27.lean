/-! scavenging: the map's page put right -/
def mbs (c : Nat → Bool) : Nat → Nat
  | 0 => 0
  | n + 1 => mbs c n + (if c n = true then 2 ^ n else 0)
theorem mbs_lt (c : Nat → Bool) : ∀ n, mbs c n < 2 ^ n := by
  intro n
  induction n with
  | zero => show 0 < 1; decide
  | succ n ih =>
    unfold mbs
    have : 2 ^ (n + 1) = 2 ^ n + 2 ^ n := by rw [Nat.pow_succ]; omega
    split <;> omega
theorem mb_or8 : ∀ b0 b1 b2 b3 b4 b5 b6 b7 : Bool, ((((((((0 : Int32) ||| (if b0 = true then 1 <<< (nI 0 &&& 31) else 0)) ||| (if b1 = true then 1 <<< (nI 1 &&& 31) else 0)) ||| (if b2 = true then 1 <<< (nI 2 &&& 31) else 0)) ||| (if b3 = true then 1 <<< (nI 3 &&& 31) else 0)) ||| (if b4 = true then 1 <<< (nI 4 &&& 31) else 0)) ||| (if b5 = true then 1 <<< (nI 5 &&& 31) else 0)) ||| (if b6 = true then 1 <<< (nI 6 &&& 31) else 0)) ||| (if b7 = true then 1 <<< (nI 7 &&& 31) else 0) = nI (0 + (if b0 = true then 2 ^ 0 else 0) + (if b1 = true then 2 ^ 1 else 0) + (if b2 = true then 2 ^ 2 else 0) + (if b3 = true then 2 ^ 3 else 0) + (if b4 = true then 2 ^ 4 else 0) + (if b5 = true then 2 ^ 5 else 0) + (if b6 = true then 2 ^ 6 else 0) + (if b7 = true then 2 ^ 7 else 0)) := by decide +kernel
theorem mb_or (c : Nat → Bool) : itF (fun b a => a ||| (if c b = true then (1 : Int32) <<< (nI b &&& 31) else 0)) 0 8 0 = nI (mbs c 8) := mb_or8 (c 0) (c 1) (c 2) (c 3) (c 4) (c 5) (c 6) (c 7)
theorem mb_bit : ∀ b, b < 8 → ((1 : Int32) <<< (nI b &&& 31)) = nI (2 ^ b) := by decide +kernel
section RI3
variable {d d' d0 : DS} {r r' r0 : RS} {f : FS} {w : WS} {m : MS} {s s' : SS} {g : GS} {B : Nat} {M : Nat → Nat}
theorem xFree_lab {x : Nat} (hx : x < 40) (h0 : dCells d' (x * 13) = dCells d (x * 13)) (hu : dUnr d' = dUnr d) : xFree d' (nI x) = xFree d (nI x) := by
  unfold xFree
  by_cases u : dUnr d x = 0
  · rw [xc0 hx u, xc0 hx (by rw [hu]; exact u), h0]
  · have e1 : xCell d (nI x) 0 = -1 := if_neg (fun z => u (by have y := z.2.2.2.2; rw [cl_nI (by omega)] at y; exact y))
    have e2 : xCell d' (nI x) 0 = -1 := if_neg (fun z => u (by have y := z.2.2.2.2; rw [cl_nI (by omega), hu] at y; exact y))
    rw [e1, e2]
theorem X_isFree {x : Nat} (hx : x < 40) (hS : dCells d (x * 13) = rC r x 0) (hB : dUnr d x = rBad r x) : f_Mod_isFree r (nI x) = some (if xFree d (nI x) = true then 1 else 0, ()) := by
  unfold f_Mod_isFree B_Mod_isFree_22 xFree
  rw [if_pos (inB_nI hx (by decide)), if_pos (inB_nI hx (by decide)), cl_nI (by omega), ← hB]
  by_cases u : dUnr d x = 0
  · rw [if_neg (not_not_intro u), xc0 hx u, show rSer r x = dCells d (x * 13) from hS.symm]
    by_cases q : dCells d (x * 13) = 0
    · rw [if_neg (not_not_intro q), if_pos (decide_eq_true q)]
    · rw [if_pos q, if_neg (by rw [decide_eq_false q]; decide)]
  · have e1 : xCell d (nI x) 0 = -1 := if_neg (fun z => u (by have y := z.2.2.2.2; rw [cl_nI (by omega)] at y; exact y))
    rw [if_pos u, e1]
    rfl
def pmn (x k : Nat) : Nat := if x ≤ 8 * k then 0 else if 8 * k + 8 ≤ x then 8 else x - 8 * k
theorem pmn_ne {x k : Nat} (h : k ≠ x / 8) : pmn (x + 1) k = pmn x k := by
  unfold pmn
  repeat' split
  all_goals omega
def RB (r0 : RS) (fr : Nat → Bool) (z : Nat) (r : RS) (x : Nat) : Prop := rO r = rO r0 ∧ (∀ k, k < 5 → rC r z (5 + k) = nI (mbs (fun b => fr (8 * k + b)) (pmn x k))) ∧ (∀ y k, y < 40 → k < 13 → ¬ (y = z ∧ 5 ≤ k ∧ k < 10) → rC r y k = rC r0 y k)
theorem R_bits {fr : Nat → Bool} {z : Nat} (hz : z < 40) (hfr : ∀ r, rO r = rO r0 → (∀ y, y < 40 → rC r y 0 = rC r0 y 0) → ∀ x, x < 40 → f_Mod_isFree r (nI x) = some (if fr x = true then 1 else 0, ())) : ∀ j x, x + j = 40 → ∀ n, j < n → ∀ r, RB r0 fr z r x → ∃ r', L_Mod_right_99 n r (nI z) (nI x) = some ((), r') ∧ RB r0 fr z r' 40 := by
  intro j
  induction j with
  | zero =>
    intro x hx n hn r h
    obtain ⟨n, rfl⟩ : ∃ n', n = n' + 1 := ⟨n - 1, by omega⟩
    obtain rfl : x = 40 := by omega
    refine ⟨r, ?_, h⟩
    unfold L_Mod_right_99
    rw [if_pos (by decide)]
  | succ j ih =>
    intro x hx n hn r h
    obtain ⟨n, rfl⟩ : ∃ n', n = n' + 1 := ⟨n - 1, by omega⟩
    obtain ⟨h1, h2, h3⟩ := h
    have hk5 : x / 8 < 5 := by omega
    have e8 : (8 * nI z + nI x / 8 : Int32) = nI (8 * z + x / 8) := by
      rw [show (8 : Int32) = nI 8 from rfl, pk_div (by omega) (by decide) (by decide)]
      exact ix8 z (x / 8)
    have er : (nI x - nI x / 8 * 8 : Int32) = nI (x % 8) := by
      rw [show (8 : Int32) = nI 8 from rfl, pk_rem (by omega) (by decide) (by decide)]
    have ev : rByt r (8 * z + x / 8) = nI (mbs (fun b => fr (8 * (x / 8) + b)) (x % 8)) := by
      have := h2 (x / 8) hk5
      rw [show pmn x (x / 8) = x % 8 from by
        unfold pmn
        by_cases q : x ≤ 8 * (x / 8)
        · rw [if_pos q]; omega
        · rw [if_neg q, if_neg (by omega)]; omega, rC_byt] at this
      exact this
    have hst : ∀ v, v = nI (mbs (fun b => fr (8 * (x / 8) + b)) (x % 8 + 1)) → RB r0 fr z (rSet r z (5 + x / 8) v) (x + 1) := fun v hv => by
      refine ⟨(rSet_O _ _ _ _).trans h1, fun k hk => ?_, fun y k hy hk q => ?_⟩
      · rw [rSet_at (by omega) (by omega)]
        by_cases e : k = x / 8
        · subst e
          rw [if_pos ⟨rfl, rfl⟩, hv]
          congr 2
          unfold pmn
          rw [if_neg (by omega)]
          by_cases q : 8 * (x / 8) + 8 ≤ x + 1
          · rw [if_pos q]; omega
          · rw [if_neg q]; omega
        · rw [if_neg (by omega), h2 k hk]
          rw [pmn_ne e]
      · rw [rSet_at (by omega) hk, if_neg (by omega)]
        exact h3 y k hy hk q
    unfold L_Mod_right_99
    rw [if_neg (show ¬ (40 : Int32) ≤ nI x from nI_ge (b := 40) (by omega) (by decide)), e8, if_pos (inB_nI (show 8 * z + x / 8 < 320 by omega) (by decide)), cl_nI (by omega), ev, hfr r h1 (fun y hy => h3 y 0 hy (by decide) (by omega)) x (by omega), bnd_some]
    unfold B_Mod_right_137 B_Mod_right_150 B_Mod_right_152
    rw [er, if_pos (inB_nI (show 8 * z + x / 8 < 320 by omega) (by decide)), if_pos (inB_nI (show 8 * z + x / 8 < 320 by omega) (by decide)), cl_nI (by omega), nI_1, ← rSetb, ← rSetb, mb_bit _ (by omega), nI_add, Int32.add_zero]
    have hbx : 8 * (x / 8) + x % 8 = x := by omega
    by_cases q : fr x = true
    · rw [if_pos q, if_neg (show ¬ ((1 : Int32), ()).1 = 0 from (by decide : ¬ (1 : Int32) = 0))]
      refine ih (x + 1) (by omega) n (by omega) _ (hst _ ?_)
      have e : mbs (fun b => fr (8 * (x / 8) + b)) (x % 8 + 1) = mbs (fun b => fr (8 * (x / 8) + b)) (x % 8) + (if fr (8 * (x / 8) + x % 8) = true then 2 ^ (x % 8) else 0) := rfl
      rw [e, if_pos (by rw [hbx]; exact q)]
    · rw [if_neg q, if_pos rfl]
      refine ih (x + 1) (by omega) n (by omega) _ (hst _ ?_)
      have e : mbs (fun b => fr (8 * (x / 8) + b)) (x % 8 + 1) = mbs (fun b => fr (8 * (x / 8) + b)) (x % 8) + (if fr (8 * (x / 8) + x % 8) = true then 2 ^ (x % 8) else 0) := rfl
      rw [e, if_neg (by rw [hbx]; exact q), Nat.add_zero]
theorem R_zero {z : Nat} (hz : z < 40) : ∀ j x, x + j = 5 → ∀ n, j < n → ∀ r, rO r = rO r0 → (∀ k, k < x → rC r z (5 + k) = 0) → (∀ y k, y < 40 → k < 13 → ¬ (y = z ∧ 5 ≤ k ∧ k < 10) → rC r y k = rC r0 y k) → ∃ r', L_Mod_right_74 n r (nI z) (nI x) = L_Mod_right_99 1000 r' (nI z) 0 ∧ rO r' = rO r0 ∧ (∀ k, k < 5 → rC r' z (5 + k) = 0) ∧ (∀ y k, y < 40 → k < 13 → ¬ (y = z ∧ 5 ≤ k ∧ k < 10) → rC r' y k = rC r0 y k) := by
  intro j
  induction j with
  | zero =>
    intro x hx n hn r h1 h2 h3
    obtain ⟨n, rfl⟩ : ∃ n', n = n' + 1 := ⟨n - 1, by omega⟩
    obtain rfl : x = 5 := by omega
    refine ⟨r, ?_, h1, h2, h3⟩
    unfold L_Mod_right_74
    rw [if_pos (by decide)]
  | succ j ih =>
    intro x hx n hn r h1 h2 h3
    obtain ⟨n, rfl⟩ : ∃ n', n = n' + 1 := ⟨n - 1, by omega⟩
    obtain ⟨r', g⟩ := ih (x + 1) (by omega) n (by omega) (rSet r z (5 + x) 0) ((rSet_O _ _ _ _).trans h1) (fun k hk => by
      rw [rSet_at (by omega) (by omega)]
      by_cases e : k = x
      · rw [if_pos ⟨rfl, by omega⟩]
      · rw [if_neg (by omega)]; exact h2 k (by omega)) (fun y k hy hk q => by
      rw [rSet_at (by omega) hk, if_neg (by omega)]; exact h3 y k hy hk q)
    refine ⟨r', ?_, g.2⟩
    rw [← g.1]
    show (if (5 : Int32) ≤ nI x then _ else _) = _
    rw [if_neg (show ¬ (5 : Int32) ≤ nI x from nI_ge (b := 5) (by omega) (by decide)), show (8 * nI z + nI x : Int32) = nI (8 * z + x) from ix8 z x, if_pos (inB_nI (show 8 * z + x < 320 by omega) (by decide)), cl_nI (by omega)]
    unfold B_Mod_right_91
    rw [nI_1, ← rSetb]
/-- the class's five bytes -/
theorem C_bits {z : Nat} (hz : z < 40) (hu : dUnr d z = 0) : xMapBits d (nI z) = dSet (dSet (dSet (dSet (dSet d z (5 + 0) (nI (mbs (fun b => xFree d (nI (8 * 0 + b))) 8))) z (5 + 1) (nI (mbs (fun b => xFree d (nI (8 * 1 + b))) 8))) z (5 + 2) (nI (mbs (fun b => xFree d (nI (8 * 2 + b))) 8))) z (5 + 3) (nI (mbs (fun b => xFree d (nI (8 * 3 + b))) 8))) z (5 + 4) (nI (mbs (fun b => xFree d (nI (8 * 4 + b))) 8)) := by
  have hmb : ∀ d1, LSm d d1 → ∀ k, k < 5 → xMapByte d1 k = nI (mbs (fun b => xFree d (nI (8 * k + b))) 8) := fun d1 hl k hk => by
    have e : ∀ c a : Nat, ∀ v : Int32, (fun b (c : Int32) => c ||| (if xFree d1 (8 * nI k + nI b) = true then 1 <<< (nI b &&& 31) else 0)) = (fun b (c : Int32) => c ||| (if xFree d1 (nI (8 * k + b)) = true then 1 <<< (nI b &&& 31) else 0)) := fun _ _ _ => by
      funext b c
      rw [ix8]
    unfold xMapByte
    rw [e 0 0 0, mb_or (fun b => xFree d1 (nI (8 * k + b)))]
    have e2 : ∀ n, n ≤ 8 → mbs (fun b => xFree d1 (nI (8 * k + b))) n = mbs (fun b => xFree d (nI (8 * k + b))) n := by
      intro n
      induction n with
      | zero => intro _; rfl
      | succ n ih =>
        intro hn
        unfold mbs
        rw [ih (by omega), xFree_lab (d := d) (d' := d1) (x := 8 * k + n) (by omega) (hl.1 _ (by omega) 0 (by decide)) hl.2.1]
    rw [e2 8 (by decide)]
  have hsb : ∀ d1, LSm d d1 → ∀ k, k < 5 → xSetByte d1 (nI z) (nI k) (xMapByte d1 k) = dSet d1 z (5 + k) (nI (mbs (fun b => xFree d (nI (8 * k + b))) 8)) := fun d1 hl k hk => by
    rw [hmb d1 hl k hk, C_setbo hz (by omega) (by rw [hl.2.1]; exact hu), b255' (mbs_lt _ 8)]
  unfold xMapBits
  have e5 : ∀ (f : Nat → DS → DS) (z : DS), itF f 0 5 z = f 4 (f 3 (f 2 (f 1 (f 0 z)))) := fun f z => rfl
  rw [e5]
  have l0 := LSm.refl d
  rw [hsb d l0 0 (by decide)]
  have l1 : LSm d (dSet d z (5 + 0) (nI (mbs (fun b => xFree d (nI (8 * 0 + b))) 8))) := LSm.set (by decide) (by decide) _ hu
  generalize dSet d z (5 + 0) (nI (mbs (fun b => xFree d (nI (8 * 0 + b))) 8)) = d1 at l1
  rw [hsb d1 l1 1 (by decide)]
  have l2 := l1.trans (LSm.set (d := d1) (i := z) (k := 5 + 1) (by decide) (by decide) (nI (mbs (fun b => xFree d (nI (8 * 1 + b))) 8)) (by rw [l1.2.1]; exact hu))
  generalize dSet d1 z (5 + 1) (nI (mbs (fun b => xFree d (nI (8 * 1 + b))) 8)) = d2 at l2
  rw [hsb d2 l2 2 (by decide)]
  have l3 := l2.trans (LSm.set (d := d2) (i := z) (k := 5 + 2) (by decide) (by decide) (nI (mbs (fun b => xFree d (nI (8 * 2 + b))) 8)) (by rw [l2.2.1]; exact hu))
  generalize dSet d2 z (5 + 2) (nI (mbs (fun b => xFree d (nI (8 * 2 + b))) 8)) = d3 at l3
  rw [hsb d3 l3 3 (by decide)]
  have l4 := l3.trans (LSm.set (d := d3) (i := z) (k := 5 + 3) (by decide) (by decide) (nI (mbs (fun b => xFree d (nI (8 * 3 + b))) 8)) (by rw [l3.2.1]; exact hu))
  generalize dSet d3 z (5 + 3) (nI (mbs (fun b => xFree d (nI (8 * 3 + b))) 8)) = d4 at l4
  rw [hsb d4 l4 4 (by decide)]
end RI3
