/-! ghost, state, read -/
section G1
variable {d : DS} {r : RS} {f : FS} {w : WS} {m : MS} {s : SS} {g : GS} {B : Nat}
theorem cCopy {a b : Nat} (ha : a < 40) (hb : b < 40) (hab : a ≠ b) (hua : dUnr d a = 0) (hub : dUnr d b = 0) : (xCopy d (nI a) (nI b)).2.2 = d.2.2 ∧ ∀ i k, k < 13 → dCells (xCopy d (nI a) (nI b)) (i * 13 + k) = if i = b then dCells d (a * 13 + k) else dCells d (i * 13 + k) := by
  have h := itF_inv (σ := DS) (f := fun k z => xSetCell z (nI b) (nI k) (xCell z (nI a) (nI k))) (fun n z => z.2.2 = d.2.2 ∧ ∀ i k, k < 13 → dCells z (i * 13 + k) = if i = b ∧ k < n then dCells d (a * 13 + k) else dCells d (i * 13 + k)) 13 0 d ⟨rfl, fun i k hk => by rw [if_neg (by omega)]⟩ (fun j z _ hj hz => by
    have hj' : j < 13 := by omega
    have eU : dUnr z = dUnr d := congrArg (·.1) hz.1
    have e1 : xSetCell z (nI b) (nI j) (xCell z (nI a) (nI j)) = dSet z b j (dCells d (a * 13 + j)) := by
      rw [C_set hb hj' (by rw [eU]; exact hub), xc ha hj' (by rw [eU]; exact hua), hz.2 a j hj', if_neg (by omega)]
    show (xSetCell z (nI b) (nI j) (xCell z (nI a) (nI j))).2.2 = d.2.2 ∧ _
    rw [e1]
    refine ⟨hz.1, fun i k hk => ?_⟩
    rw [dSet_at hj' hk, hz.2 i k hk]
    by_cases e2 : i = b ∧ k = j
    · rw [if_pos e2, if_pos ⟨e2.1, by omega⟩, e2.2]
    · rw [if_neg e2]
      by_cases e3 : i = b ∧ k < j
      · rw [if_pos e3, if_pos ⟨e3.1, by omega⟩]
      · rw [if_neg e3, if_neg (by omega)])
  refine ⟨h.1, fun i k hk => ?_⟩
  have h2 := h.2 i k hk
  by_cases e : i = b
  · rw [if_pos ⟨e, by omega⟩] at h2; rw [if_pos e]; exact h2
  · rw [if_neg (by omega)] at h2; rw [if_neg e]; exact h2
theorem rCopyL {a b : Nat} (ha : a < 40) (hb : b < 40) (r : RS) : L_Mod_ghost_96 1000 r (nI a) (nI b) 0 = some (1, itF (fun j z => rSet z b (5 + j) (rByt z (8 * a + j))) 0 8 r) := by
  exact lp_it (Lf := fun n z x => L_Mod_ghost_96 n z (nI a) (nI b) x) (f := fun j z => rSet z b (5 + j) (rByt z (8 * a + j))) (fin := fun z => ((1 : Int32), z)) (N := 8) (fun n z i hi => by
    show L_Mod_ghost_96 (n + 1) z (nI a) (nI b) (nI i) = _
    rw [L_Mod_ghost_96, if_neg (gn 8 hi), ix8, ix8, if_pos (inB_nI (show 8 * a + i < 320 by omega) (by decide)), if_pos (inB_nI (show 8 * b + i < 320 by omega) (by decide)), cl_nI (by omega), cl_nI (by omega), ← nI_1, rSetb]
    rfl) (fun n z => by
    show L_Mod_ghost_96 (n + 1) z (nI a) (nI b) (nI 8) = _
    rw [L_Mod_ghost_96, if_pos (gy 8 (N := 8))]) 8 0 r 1000 rfl (by decide)
theorem R_label0 {i : Nat} (hi : i < 40) (a b c : Int32) : f_Mod_label0 r (nI i) a b c = some ((), rSet (rSet (rSet r i 0 a) i 1 b) i 2 c) := by
  unfold f_Mod_label0 B_Mod_label0_7 B_Mod_label0_14 B_Mod_label0_22
  rw [if_pos (inB_nI hi (by decide)), if_pos (inB_nI hi (by decide)), if_pos (inB_nI hi (by decide)), cl_nI (by omega)]
  rfl
theorem rCopy {a b : Nat} (ha : a < 40) (hb : b < 40) (hab : a ≠ b) (r : RS) : ∃ r', B_Mod_ghost_70 (rSet (rSet (rSet r b 0 (rSer r a)) b 1 (rPag r a)) b 2 (rUse r a)) (nI a) (nI b) = some (1, r') ∧ rOth r' = rOth r ∧ ∀ i k, k < 13 → rC r' i k = if i = b then rC r a k else rC r i k := by
  unfold B_Mod_ghost_70 B_Mod_ghost_82 B_Mod_ghost_94
  rw [if_pos (inB_nI ha (by decide)), if_pos (inB_nI hb (by decide)), if_pos (inB_nI ha (by decide)), if_pos (inB_nI hb (by decide)), cl_nI (by omega), cl_nI (by omega), rCopyL ha hb]
  refine ⟨_, rfl, ?_⟩
  have h := itF_inv (σ := RS) (f := fun j z => rSet z b (5 + j) (rByt z (8 * a + j))) (fun n z => rOth z = rOth r ∧ ∀ i k, k < 13 → rC z i k = if i = b ∧ k < 5 + n then rC r a k else rC r i k) 8 0 (rSet (rSet (rSet (rSet (rSet r b 0 (rSer r a)) b 1 (rPag r a)) b 2 (rUse r a)) b 3 (rNex r a)) b 4 (rBef r a)) ⟨by rw [rSet_oth, rSet_oth, rSet_oth, rSet_oth, rSet_oth], fun i k hk => by
    rw [rSet_at (by decide) hk, rSet_at (by decide) hk, rSet_at (by decide) hk, rSet_at (by decide) hk, rSet_at (by decide) hk]
    by_cases e : i = b
    · subst e
      match k with
      | 0 => simp; rfl
      | 1 => simp; rfl
      | 2 => simp; rfl
      | 3 => simp; rfl
      | 4 => simp; rfl
      | k + 5 => simp; intro q; omega
    · simp [e]⟩ (fun j z _ hj hz => by
    have hj' : j < 8 := by omega
    have e1 : rByt z (8 * a + j) = rC r a (5 + j) := by
      have := hz.2 a (5 + j) (by omega)
      rw [if_neg (by omega)] at this
      rw [← this, Nat.add_comm 5 j]; rfl
    refine ⟨by show rOth (rSet z b (5 + j) (rByt z (8 * a + j))) = _; rw [rSet_oth]; exact hz.1, fun i k hk => ?_⟩
    show rC (rSet z b (5 + j) (rByt z (8 * a + j))) i k = _
    rw [e1, rSet_at (by omega) hk, hz.2 i k hk]
    by_cases e2 : i = b ∧ k = 5 + j
    · rw [if_pos e2, if_pos ⟨e2.1, by omega⟩, e2.2]
    · rw [if_neg e2]
      by_cases e3 : i = b ∧ k < 5 + j
      · rw [if_pos e3, if_pos ⟨e3.1, by omega⟩]
      · rw [if_neg e3, if_neg (by omega)])
  refine ⟨h.1, fun i k hk => ?_⟩
  have h2 := h.2 i k hk
  by_cases e : i = b
  · rw [if_pos ⟨e, by omega⟩] at h2; rw [if_pos e]; exact h2
  · rw [if_neg (by omega)] at h2; rw [if_neg e]; exact h2
theorem S_ghost (h : RL B d f s r) (x y : Int32) : ∃ v d' r', f_LV_ghost d f w m s g x y = (v, d') ∧ f_Mod_ghost r x y = some (v, r') ∧ RL B d' f s r' := by
  have hR := h.1
  have hth : RD d (rSThr r 0) := hR
  unfold f_LV_ghost B_LV_ghost_22 B_LV_ghost_33 f_Mod_ghost B_Mod_ghost_5 B_Mod_ghost_45
  rw [isInUse_v, isFree_v]
  rcases i40 x with hx | ⟨a, ha, rfl⟩
  · rw [useO hx, if_pos ((isS x).mpr hx)]; exact ⟨0, d, _, rfl, rfl, h⟩
  rw [if_neg (isSn ha)]
  rcases i40 y with hy | ⟨b, hb, rfl⟩
  · rw [freeO hy, if_pos ((isS y).mpr hy)]
    refine ⟨0, d, _, ?_, rfl, h⟩
    cases xUse d (nI a) <;> rfl
  rw [if_neg (isSn hb), R_isFree hth hb, bnd_some]
  unfold B_Mod_ghost_24 B_Mod_ghost_45
  cases hfb : xFree d (nI b)
  · refine ⟨0, d, _, ?_, rfl, h⟩
    cases xUse d (nI a) <;> rfl
  · rw [if_neg (show ¬ ((if true = true then (1 : Int32) else 0), ()).1 = 0 by decide), if_pos (inB_nI ha (by decide)), if_pos (inB_nI ha (by decide)), if_pos (inB_nI ha (by decide)), if_pos (inB_nI ha (by decide)), if_pos (inB_nI ha (by decide)), cl_nI (by omega)]
    show ∃ v d' r', _ ∧ (if ¬ rBad r a = 0 then _ else if ¬ rSer r a = 0 then _ else _) = _ ∧ _
    rw [← hR.bad ha, ← hR.ser ha]
    by_cases hua : dUnr d a = 0
    · rw [if_neg (not_not_intro hua)]
      by_cases h0 : dCells d (a * 13) = 0
      · have e : xUse d (nI a) = false := by
          cases e : xUse d (nI a)
          · rfl
          · exact absurd h0 ((use_iff h.2.2.1 ha hua).mp e)
        rw [if_neg (not_not_intro h0), e]; exact ⟨0, d, _, rfl, rfl, h⟩
      · rw [if_pos h0, (use_iff h.2.2.1 ha hua).mpr h0]
        have hub : dUnr d b = 0 := by
          by_cases hub : dUnr d b = 0
          · exact hub
          · rw [freeU hb hub] at hfb; cases hfb
        have hfb0 := (free_iff hb hub).mp hfb
        have hab : a ≠ b := fun q => h0 (by rw [q]; exact hfb0)
        rw [R_label0 hb, bnd_some]
        obtain ⟨r', e1, e2, e3⟩ := rCopy ha hb hab (rSThr r 0)
        obtain ⟨c1, c2⟩ := cCopy (d := d) ha hb hab hua hub
        refine ⟨1, xCopy d (nI a) (nI b), r', rfl, e1, ?_⟩
        have eU : dUnr (xCopy d (nI a) (nI b)) = dUnr d := congrArg (·.1) c1
        refine ⟨hth.of_oth (fun i hi k hk => ?_) c1 e2, ?_, ⟨h.2.2.1.1, fun i hi => ⟨by rw [eU]; exact (h.2.2.1.2 i hi).1, fun k hk k3 k4 => ?_, fun k hk => ?_⟩⟩, h.2.2.2.1, ⟨fun i hi => ?_, ?_, fun i hi => ?_⟩, ?_⟩
        rotate_left 6
        · have e0 := c2 i 0 (by decide); have e1' := c2 i 1 (by decide); have e2' := c2 i 2 (by decide)
          rw [Nat.add_zero, Nat.add_zero] at e0
          rw [e0, e1', e2']
          by_cases e : i = b
          · rw [if_pos e, if_pos e, if_pos e]; exact h.2.2.2.2.1.2.2 a ha
          · rw [if_neg e, if_neg e, if_neg e]; exact h.2.2.2.2.1.2.2 i hi
        rotate_left 1
        · rw [c2 i k hk, e3 i k hk]
          by_cases e : i = b
          · rw [if_pos e, if_pos e]; exact hth.1 a ha k hk
          · rw [if_neg e, if_neg e]; exact hth.1 i hi k hk
        · intro t t1 t2; rw [oth_kep e2]; exact h.2.1 t t1 t2
        · unfold vN
          rw [c2 i k hk]
          by_cases e : i = b
          · rw [if_pos e]; exact (h.2.2.1.2 a ha).2.1 k hk k3 k4
          · rw [if_neg e]; exact (h.2.2.1.2 i hi).2.1 k hk k3 k4
        · unfold vN
          rw [c2 i k (by omega)]
          by_cases e : i = b
          · rw [if_pos e]; exact (h.2.2.1.2 a ha).2.2 k hk
          · rw [if_neg e]; exact (h.2.2.1.2 i hi).2.2 k hk
        · have e0 := c2 i 0 (by decide); have e1' := c2 i 1 (by decide); have e2' := c2 i 2 (by decide)
          rw [Nat.add_zero, Nat.add_zero] at e0
          rw [e0, e1', e2']
          by_cases e : i = b
          · rw [if_pos e, if_pos e, if_pos e]; exact h.2.2.2.2.1.1 a ha
          · rw [if_neg e, if_neg e, if_neg e]; exact h.2.2.2.2.1.1 i hi
        · have e0 := c2 0 0 (by decide); have e1' := c2 0 1 (by decide)
          rw [show 0 * 13 + 0 = 0 from rfl] at e0
          rw [show 0 * 13 + 1 = 1 from rfl] at e1'
          rw [eU, e0, e1']
          by_cases e : 0 = b
          · refine Or.inl (fun q => ?_)
            rcases h.2.2.2.2.1.2.1 with z | z
            · exact z q
            · rw [← e] at hfb0
              rw [z.1] at hfb0
              exact absurd hfb0 (by decide)
          · rw [if_neg e, if_neg e]; exact h.2.2.2.2.1.2.1
        · rw [oth_rep e2]; exact h.2.2.2.2.2
    · rw [if_pos hua, useU ha hua]; exact ⟨0, d, _, rfl, rfl, h⟩
theorem cnt_s (p : Nat → Bool) (i k : Nat) (c : Int32) : cnt p i (k + 1) c = cnt p (i + 1) k (if p i = true then c + 1 else c) := by
  unfold cnt
  rw [itF]
  cases p i
  · show itF _ (i + 1) k (c + 0) = _
    rw [Int32.add_zero]; rfl
  · rfl
theorem R_stateL (h : RD d r) (x : Int32) : ∀ k i, i + k = 40 → ∀ n c1 c2, k < n → L_Mod_state_12 n r x c1 c2 (nI i) = L_Mod_state_12 1 r x (cnt (fun i => xFree d (nI i)) i k c1) (cnt (xBad d) i k c2) 40 := by
  intro k
  induction k with
  | zero =>
    intro i hi n c1 c2 hn
    obtain ⟨a, rfl⟩ : ∃ a, n = a + 1 := ⟨n - 1, by omega⟩
    rw [show i = 40 by omega]
    rw [L_Mod_state_12, L_Mod_state_12, if_pos (gy 40 (N := 40)), if_pos (Int32.le_refl _)]
    rfl
  | succ k ih =>
    intro i hi n c1 c2 hn
    obtain ⟨a, rfl⟩ : ∃ a, n = a + 1 := ⟨n - 1, by omega⟩
    have hi4 : i < 40 := by omega
    rw [L_Mod_state_12, if_neg (gn 40 hi4), R_isFree h hi4, bnd_some]
    unfold B_Mod_state_25 B_Mod_state_35 B_Mod_state_53
    rw [if_pos (inB_nI hi4 (by decide)), if_pos (inB_nI hi4 (by decide)), cl_nI (by omega), ← h.bad hi4, nI_1]
    show (if (if xFree d (nI i) = true then (1 : Int32) else 0) = 0 then _ else _) = _
    rw [cnt_s, cnt_s]
    by_cases hu : dUnr d i = 0
    · have hb : xBad d i = false := by unfold xBad; simp [hu]
      rw [if_pos hu, if_pos hu, hb]
      cases hf : xFree d (nI i)
      · exact ih (i + 1) (by omega) a c1 c2 (by omega)
      · exact ih (i + 1) (by omega) a (c1 + 1) c2 (by omega)
    · have hb : xBad d i = true := by unfold xBad; simp [hu]
      rw [if_neg hu, if_neg hu, hb, freeU hi4 hu]
      exact ih (i + 1) (by omega) a c1 (c2 + 1) (by omega)
theorem S_state (h : RL B d f s r) (x : Int32) : ∃ v, f_LV_state d f w m s g x = (v, ()) ∧ f_Mod_state r x = some (v, rSThr r 0) ∧ RL B d f s (rSThr r 0) := by
  have hR := h.1
  have hth : RD d (rSThr r 0) := hR
  unfold f_LV_state f_Mod_state B_Mod_state_5 f_Disk_missesCounted f_Disk_writesCounted x_Disk_countFree x_Disk_countUnreadable f_Disk_hasPower
  rw [show L_Mod_state_12 1000 (rSThr r 0) x 0 0 0 = _ from R_stateL hth x 40 0 rfl 1000 0 0 (by decide), L_Mod_state_12, if_pos (Int32.le_refl _)]
  by_cases h0 : x = 0
  · rw [if_pos h0, if_neg (not_not_intro h0)]; exact ⟨_, rfl, by rw [hth.2.2.1], h⟩
  rw [if_neg h0, if_pos h0]
  by_cases h1 : x = 1
  · rw [if_pos h1, if_neg (not_not_intro h1)]; exact ⟨_, rfl, by rw [hth.2.2.2.1], h⟩
  rw [if_neg h1, if_pos h1]
  by_cases h2 : x = 2
  · rw [if_pos h2, if_neg (not_not_intro h2)]; exact ⟨_, rfl, rfl, h⟩
  rw [if_neg h2, if_pos h2]
  by_cases h3 : x = 3
  · rw [if_pos h3, if_neg (not_not_intro h3)]; exact ⟨_, rfl, rfl, h⟩
  rw [if_neg h3, if_pos h3]
  by_cases h4 : x = 4
  · rw [if_pos h4, if_neg (not_not_intro h4)]
    rcases hth.2.2.2.2.2 with ⟨q1, q2⟩ | ⟨q1, q2⟩
    · rw [q1, if_pos q2]; exact ⟨1, rfl, rfl, h⟩
    · rw [q1, if_neg (show ¬ rDar (rSThr r 0) = 0 by rw [q2]; decide)]; exact ⟨0, rfl, rfl, h⟩
  rw [if_neg h4, if_pos h4]
  exact ⟨-1, rfl, rfl, h⟩
/-- a length is a number -/
theorem len_nat (I : IV B d) {j : Nat} (hj : j < 40) : ∃ L, L < 2 ^ 30 ∧ len d j = nI L := by
  obtain ⟨p, p1, p2⟩ := I.pagN hj
  obtain ⟨u, u1, u2⟩ := I.useN hj
  have hB := I.1
  unfold len
  by_cases h : dCells d (j * 13 + 1) = 0
  · rw [if_neg (not_not_intro h)]; exact ⟨0, by decide, rfl⟩
  · rw [if_pos h]
    have hp : p ≠ 0 := fun q => h (by rw [p2, q]; rfl)
    refine ⟨8 * (p - 1) + u, by omega, ?_⟩
    rw [p2, u2, show (1 : Int32) = nI 1 from rfl, pk_sub (by omega), show (8 : Int32) = nI 8 from rfl, pk_mul, nI_add]
theorem S_read_18 {v x : Int32} {i : Nat} (h : RD d r) (hf : RF f r) (I : IV B d) (hi : i < 40) (hu : dUnr d i = 0) (hp : dCells d (i * 13 + 1) = 0) (hv : (v = -1 ∧ rFau r = 4) ∨ ∃ j, v = nI j ∧ j < 40 ∧ dUnr d j = 0 ∧ dCells d (j * 13) = dCells d (i * 13) ∧ rFau r = 0) : ∃ q d' r' a, B_LV_read_18 d f w m s g x (nI i) v = some (q, (d', f)) ∧ B_Mod_read_21 r x (nI i) 0 v = some (a, r') ∧ RD d' r' ∧ RF f r' ∧ IV B d' ∧ IX d = IX d' ∧ rRep r' = rRep r ∧ ans q a (rThr r') [(1, 1), (2, 2), (4, 3), (5, 4)] := by
  unfold B_LV_read_18 B_Mod_read_21 B_Mod_read_25
  rcases hv with ⟨rfl, e⟩ | ⟨j, rfl, j1, j2, j3, e⟩
  · rw [unb1, if_pos (show (-1 : Int32) < 0 by decide)]
    unfold B_Mod_read_109 B_Mod_read_120
    rw [ends4 _ _ _ _ _ _ _ e]
    exact ⟨.inl 4, d, _, _, rfl, rfl, h, hf, I, rfl, rfl, rfl⟩
  · rw [unb2 j1, if_neg (nI_pos (by omega)), R_len h j1, bnd_some]
    show ∃ q d' r' a, B_LV_read_21 d f w m s g x (nI i) (nI j) = _ ∧ B_Mod_read_41 r x (nI i) (nI j) x 0 (len d j) = _ ∧ _
    unfold B_LV_read_21 B_LV_read_40 B_Mod_read_41 B_Mod_read_54
    rw [C_len j1 j2]
    obtain ⟨L, hL, eL⟩ := len_nat I j1
    rw [eL]
    have hout : ∃ q d' r' a, some (Sum.inl 5, (d, f)) = some (q, (d', f)) ∧ B_Mod_read_57 (rSFau r 5) x (nI i) (nI j) = some (a, r') ∧ RD d' r' ∧ RF f r' ∧ IV B d' ∧ IX d = IX d' ∧ rRep r' = rRep r ∧ ans q a (rThr r') [(1, 1), (2, 2), (4, 3), (5, 4)] := by
      unfold B_Mod_read_57 B_Mod_read_81 B_Mod_read_107 B_Mod_read_109 B_Mod_read_120
      rw [if_pos (show ¬ rFau (rSFau r 5) = 0 by show ¬ (5 : Int32) = 0; decide), if_neg (show ¬ (0 : Int32) ≤ -1 by decide), ends5 _ _ _ _ _ _ _ (by rfl)]
      exact ⟨.inl 5, d, _, _, rfl, rfl, h, hf, I, rfl, rfl, rfl⟩
    by_cases h0 : x < 0
    · rw [if_pos h0, if_pos ((inab _ _ _).mpr (Or.inl h0))]; exact hout
    · rw [if_neg h0]
      obtain ⟨n, hn, rfl⟩ := nI_of h0
      have e2 : nI L - 1 < nI n ↔ ¬ nI n < nI L := by
        rw [Int32.lt_iff_toInt_lt, nI_ltI hn (by omega), nI_toInt hn, show (1 : Int32) = nI 1 from rfl, pk_sub_toInt hL (by decide)]
        omega
      by_cases h1 : nI n < nI L
      · have hnL : n < L := (nI_ltI hn (by omega)).mp h1
        rw [if_pos h1, if_neg (fun q => ((inab _ _ _).mp q).elim h0 (fun q => e2.mp q h1))]
        have e8 : nI n / 8 + 1 = nI (n / 8 + 1) := by rw [show (8 : Int32) = nI 8 from rfl, pk_div hn (by decide) (by decide), nI_1]
        have e9 : nI n - nI n / 8 * 8 = nI (n % 8) := by rw [show (8 : Int32) = nI 8 from rfl]; exact pk_rem hn (by decide) (by decide)
        obtain ⟨v, m2, g1, g2, g3⟩ := R_pageOf (f := f) (r := rSFau r 0) (show RD d (rSFau r 0) from h) I (show n / 8 + 1 < 2 ^ 31 by omega) hi hu hp j1 j2 j3
        unfold B_Mod_read_57
        rw [e8, g1, bnd_some, if_neg (not_not_intro (show rFau (rSFau r 0) = 0 from rfl)), g2, bnd_some]
        unfold B_LV_read_68 B_Mod_read_77 B_Mod_read_81 B_Mod_read_107 B_Mod_read_109 B_Mod_read_120
        rw [e9]
        rcases g3 with rfl | ⟨t, rfl, t1, t2, -⟩
        · refine ⟨.inl 4, dSMis d m2, _, _, rfl, rfl, h.mis m2 (rKep r), hf, I, rfl, rfl, rfl⟩
        · have hm : RD (dSMis d m2) (rSFau (rSMis (rSFau r 0) m2) 0) := h.mis m2 (rKep r)
          rw [unb2 t1, if_neg (nI_m1 (by omega))]
          show ∃ q d' r' a, B_LV_read_71 (dSMis d m2) f w m s g (nI n) (nI t) = _ ∧ (if 0 ≤ nI t then (if inB (8 * nI t + nI (n % 8)) 320 then _ else _) else _) = _ ∧ _
          unfold B_LV_read_71 f_Disk_byteAt
          rw [e9, if_pos (nI_pos' (by omega)), ix8, if_pos (inB_nI (show 8 * t + n % 8 < 320 by omega) (by decide)), cl_nI (by omega), xcb (d := dSMis d m2) t1 (show n % 8 < 8 by omega) t2, ends0 _ _ _ _ _ _ _ (by rfl)]
          refine ⟨_, dSMis d m2, _, _, rfl, rfl, h.mis m2 (rKep r), hf, I, rfl, rfl, rfl, ?_⟩
          exact (hm.byt t1 (show n % 8 < 8 by omega)).symm
      · rw [if_neg h1, if_pos ((inab _ _ _).mpr (Or.inr (e2.mpr h1)))]; exact hout
theorem S_read (h : RL B d f s r) (x y : Int32) : ∃ q d' f' r' a, f_LV_read d f w m s g x y = some (q, (d', f')) ∧ f_Mod_read r x y = some (a, r') ∧ RL B d' f' s r' ∧ ans q a (rThr r') [(1, 1), (2, 2), (4, 3), (5, 4)] := by
  obtain ⟨h, hf, I, J, X, hrep⟩ := h
  unfold f_LV_read f_Mod_read
  rcases pw (f := f) (w := w) (m := m) (s := s) (g := g) h with ⟨p1, p2⟩ | ⟨p1, p2⟩
  · rw [p1]
    show ∃ q d' f' r' a, B_LV_read_4 d f w m s g x y = _ ∧ _
    obtain ⟨v, mm, k, f', e1, e2, e3, e4, e5⟩ := R_begin (w := w) (m := m) (s := s) (g := g) h hf J p2 x
    unfold B_LV_read_4
    rw [e1, e2, bnd_some, bnd_some]
    unfold B_Mod_read_5
    rcases e5 with rfl | ⟨i, hi, rfl, l1, l2, l3, -⟩
    · exact ⟨.inl 2, dSMis d mm, f', _, _, rfl, rfl, ⟨h.mis mm k, e3, I, e4, X, hrep⟩, rfl⟩
    · rw [if_neg (nI_m1 (by omega)), if_neg (nI_m1 (by omega))]
      obtain ⟨v, m2, g1, g2, g3⟩ := R_last (f := f') (r := rSFau (rSMis (rSKep (rSThr r 0) k) mm) 0) (h.mis mm k) I hi l1 l3
      show ∃ q d' f'' r' a, B_LV_read_9 (dSMis d mm) f' w m s g y (nI i) = _ ∧ (if ¬ (0 : Int32) = 0 then _ else _) = _ ∧ _
      unfold B_LV_read_9
      rw [if_neg (not_not_intro rfl), g1, g2, bnd_some, bnd_some]
      obtain ⟨q, d', r', a, u1, u2, u3, u4, u5, u6, u7, u8⟩ := S_read_18 (d := dSMis d m2) (f := f') (w := w) (m := m) (s := s) (g := g) (x := y) (v := v) (i := i) (B := B) (r := rSFau (rSMis (rSFau (rSMis (rSKep (rSThr r 0) k) mm) 0) m2) (if v = -1 then 4 else 0)) (h.mis m2 k) e3 I hi l1 l3 (by
        rcases g3 with rfl | ⟨j, rfl, j1, j2, j3, -⟩
        · exact Or.inl ⟨rfl, rfl⟩
        · exact Or.inr ⟨j, rfl, j1, j2, j3, if_neg (nI_m1 (by omega))⟩)
      exact ⟨q, _, _, r', a, u1, u2, ⟨u3, u4, u5, e4, u6 ▸ X, by rw [u7]; exact hrep⟩, u8⟩
  · rw [p1, begin0 p2, bnd_some]
    exact ⟨.inl 1, d, f, _, _, rfl, rfl, ⟨h, hf, I, J, X, hrep⟩, rfl⟩
end G1
